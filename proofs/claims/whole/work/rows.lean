section
-- ===== PART A: goes FIRST, ahead of the names: the tables' words, and 'selects' of the private methods out of them =====
/-- a private method of a class that the tables say can be made, by its rows of tables_1 -/
def lw_okq (q : MethodName × Nat) : Prop := (q.1.cls ≠ "java/lang/invoke/MethodHandle" ∧ q.1.cls ≠ "java/lang/invoke/VarHandle") ∧ Cond.instantiable q.1.cls q.2 ∈ tables_1 ∧ Cond.privateMethod q.1 ∈ tables_1 ∧ Cond.instanceMethod q.1 ∈ tables_1
theorem lw_p0 : lw_okq (⟨"RailSequence", "readBuffer", "()I"⟩, 7) := ⟨⟨by decide +kernel, by decide +kernel⟩, List.mem_of_getElem? (i := 16) (by decide +kernel), List.mem_of_getElem? (i := 163) (by decide +kernel), List.mem_of_getElem? (i := 164) (by decide +kernel)⟩
theorem lw_p1 : lw_okq (⟨"RailSequence$TextReader", "takeNeed", "(I)Z"⟩, 4) := ⟨⟨by decide +kernel, by decide +kernel⟩, List.mem_of_getElem? (i := 112) (by decide +kernel), List.mem_of_getElem? (i := 175) (by decide +kernel), List.mem_of_getElem? (i := 176) (by decide +kernel)⟩
theorem lw_p2 : lw_okq (⟨"RailSequence$TextReader", "takeDigit", "(I)Z"⟩, 4) := ⟨⟨by decide +kernel, by decide +kernel⟩, List.mem_of_getElem? (i := 112) (by decide +kernel), List.mem_of_getElem? (i := 179) (by decide +kernel), List.mem_of_getElem? (i := 180) (by decide +kernel)⟩
theorem lw_p3 : lw_okq (⟨"RailSequence$TextReader", "takePart", "(I)Z"⟩, 4) := ⟨⟨by decide +kernel, by decide +kernel⟩, List.mem_of_getElem? (i := 112) (by decide +kernel), List.mem_of_getElem? (i := 185) (by decide +kernel), List.mem_of_getElem? (i := 186) (by decide +kernel)⟩
theorem lw_p4 : lw_okq (⟨"RailSequence$TextReader", "isNumberComplete", "()Z"⟩, 4) := ⟨⟨by decide +kernel, by decide +kernel⟩, List.mem_of_getElem? (i := 112) (by decide +kernel), List.mem_of_getElem? (i := 189) (by decide +kernel), List.mem_of_getElem? (i := 190) (by decide +kernel)⟩
theorem lw_p5 : lw_okq (⟨"RailSequence", "countOf", "(I)I"⟩, 7) := ⟨⟨by decide +kernel, by decide +kernel⟩, List.mem_of_getElem? (i := 16) (by decide +kernel), List.mem_of_getElem? (i := 329) (by decide +kernel), List.mem_of_getElem? (i := 330) (by decide +kernel)⟩
theorem lw_p6 : lw_okq (⟨"RailSequence", "hashOfRail", "(JI)J"⟩, 7) := ⟨⟨by decide +kernel, by decide +kernel⟩, List.mem_of_getElem? (i := 16) (by decide +kernel), List.mem_of_getElem? (i := 338) (by decide +kernel), List.mem_of_getElem? (i := 339) (by decide +kernel)⟩
theorem lw_p7 : lw_okq (⟨"RailSequence", "hashOfLog", "(J)J"⟩, 7) := ⟨⟨by decide +kernel, by decide +kernel⟩, List.mem_of_getElem? (i := 16) (by decide +kernel), List.mem_of_getElem? (i := 360) (by decide +kernel), List.mem_of_getElem? (i := 361) (by decide +kernel)⟩
theorem lw_p8 : lw_okq (⟨"RailSequence", "hashOfBuffer", "(J)J"⟩, 7) := ⟨⟨by decide +kernel, by decide +kernel⟩, List.mem_of_getElem? (i := 16) (by decide +kernel), List.mem_of_getElem? (i := 377) (by decide +kernel), List.mem_of_getElem? (i := 378) (by decide +kernel)⟩
theorem lw_p9 : lw_okq (⟨"java/lang/Throwable", "fillInStackTrace", "(I)Ljava/lang/Throwable;"⟩, 6) := ⟨⟨by decide +kernel, by decide +kernel⟩, List.mem_of_getElem? (i := 433) (by decide +kernel), List.mem_of_getElem? (i := 431) (by decide +kernel), List.mem_of_getElem? (i := 432) (by decide +kernel)⟩
theorem lw_p10 : lw_okq (⟨"RailSequence", "areRails", "(I)Z"⟩, 7) := ⟨⟨by decide +kernel, by decide +kernel⟩, List.mem_of_getElem? (i := 16) (by decide +kernel), List.mem_of_getElem? (i := 463) (by decide +kernel), List.mem_of_getElem? (i := 464) (by decide +kernel)⟩
theorem lw_p11 : lw_okq (⟨"RailSequence", "save", "()V"⟩, 7) := ⟨⟨by decide +kernel, by decide +kernel⟩, List.mem_of_getElem? (i := 16) (by decide +kernel), List.mem_of_getElem? (i := 487) (by decide +kernel), List.mem_of_getElem? (i := 488) (by decide +kernel)⟩
theorem lw_p12 : lw_okq (⟨"RailSequence", "dropOldestSaved", "()V"⟩, 7) := ⟨⟨by decide +kernel, by decide +kernel⟩, List.mem_of_getElem? (i := 16) (by decide +kernel), List.mem_of_getElem? (i := 491) (by decide +kernel), List.mem_of_getElem? (i := 492) (by decide +kernel)⟩
theorem lw_p13 : lw_okq (⟨"RailSequence", "isRail", "(I)Z"⟩, 7) := ⟨⟨by decide +kernel, by decide +kernel⟩, List.mem_of_getElem? (i := 16) (by decide +kernel), List.mem_of_getElem? (i := 507) (by decide +kernel), List.mem_of_getElem? (i := 508) (by decide +kernel)⟩
theorem lw_p14 : lw_okq (⟨"RailSequence", "addTextToFuture", "()Z"⟩, 7) := ⟨⟨by decide +kernel, by decide +kernel⟩, List.mem_of_getElem? (i := 16) (by decide +kernel), List.mem_of_getElem? (i := 626) (by decide +kernel), List.mem_of_getElem? (i := 627) (by decide +kernel)⟩
theorem lw_p15 : lw_okq (⟨"RailSequence", "addReadRailToFuture", "()Z"⟩, 7) := ⟨⟨by decide +kernel, by decide +kernel⟩, List.mem_of_getElem? (i := 16) (by decide +kernel), List.mem_of_getElem? (i := 630) (by decide +kernel), List.mem_of_getElem? (i := 631) (by decide +kernel)⟩
def lw_privs_1 : List (MethodName × Nat) := [(⟨"RailSequence", "readBuffer", "()I"⟩, 7), (⟨"RailSequence$TextReader", "takeNeed", "(I)Z"⟩, 4), (⟨"RailSequence$TextReader", "takeDigit", "(I)Z"⟩, 4), (⟨"RailSequence$TextReader", "takePart", "(I)Z"⟩, 4), (⟨"RailSequence$TextReader", "isNumberComplete", "()Z"⟩, 4), (⟨"RailSequence", "countOf", "(I)I"⟩, 7), (⟨"RailSequence", "hashOfRail", "(JI)J"⟩, 7), (⟨"RailSequence", "hashOfLog", "(J)J"⟩, 7), (⟨"RailSequence", "hashOfBuffer", "(J)J"⟩, 7), (⟨"java/lang/Throwable", "fillInStackTrace", "(I)Ljava/lang/Throwable;"⟩, 6), (⟨"RailSequence", "areRails", "(I)Z"⟩, 7), (⟨"RailSequence", "save", "()V"⟩, 7), (⟨"RailSequence", "dropOldestSaved", "()V"⟩, 7), (⟨"RailSequence", "isRail", "(I)Z"⟩, 7), (⟨"RailSequence", "addTextToFuture", "()Z"⟩, 7), (⟨"RailSequence", "addReadRailToFuture", "()Z"⟩, 7)]
theorem lw_r1 : ∀ q ∈ lw_privs_1, lw_okq q := List.forall_mem_cons.mpr ⟨lw_p0, List.forall_mem_cons.mpr ⟨lw_p1, List.forall_mem_cons.mpr ⟨lw_p2, List.forall_mem_cons.mpr ⟨lw_p3, List.forall_mem_cons.mpr ⟨lw_p4, List.forall_mem_cons.mpr ⟨lw_p5, List.forall_mem_cons.mpr ⟨lw_p6, List.forall_mem_cons.mpr ⟨lw_p7, List.forall_mem_cons.mpr ⟨lw_p8, List.forall_mem_cons.mpr ⟨lw_p9, List.forall_mem_cons.mpr ⟨lw_p10, List.forall_mem_cons.mpr ⟨lw_p11, List.forall_mem_cons.mpr ⟨lw_p12, List.forall_mem_cons.mpr ⟨lw_p13, List.forall_mem_cons.mpr ⟨lw_p14, List.forall_mem_cons.mpr ⟨lw_p15, fun _ h => absurd h List.not_mem_nil⟩⟩⟩⟩⟩⟩⟩⟩⟩⟩⟩⟩⟩⟩⟩⟩
theorem lw_p16 : lw_okq (⟨"RailSequenceModel", "isMask", "(II)Z"⟩, 16) := ⟨⟨by decide +kernel, by decide +kernel⟩, List.mem_of_getElem? (i := 706) (by decide +kernel), List.mem_of_getElem? (i := 779) (by decide +kernel), List.mem_of_getElem? (i := 780) (by decide +kernel)⟩
theorem lw_p17 : lw_okq (⟨"RailSequenceModel", "save", "()V"⟩, 16) := ⟨⟨by decide +kernel, by decide +kernel⟩, List.mem_of_getElem? (i := 706) (by decide +kernel), List.mem_of_getElem? (i := 783) (by decide +kernel), List.mem_of_getElem? (i := 784) (by decide +kernel)⟩
theorem lw_p18 : lw_okq (⟨"RailSequenceModel", "bring", "(IIII)V"⟩, 16) := ⟨⟨by decide +kernel, by decide +kernel⟩, List.mem_of_getElem? (i := 706) (by decide +kernel), List.mem_of_getElem? (i := 787) (by decide +kernel), List.mem_of_getElem? (i := 788) (by decide +kernel)⟩
theorem lw_p19 : lw_okq (⟨"RailSequenceModel", "lay", "(III)V"⟩, 16) := ⟨⟨by decide +kernel, by decide +kernel⟩, List.mem_of_getElem? (i := 706) (by decide +kernel), List.mem_of_getElem? (i := 791) (by decide +kernel), List.mem_of_getElem? (i := 792) (by decide +kernel)⟩
theorem lw_p20 : lw_okq (⟨"RailSequenceModel", "isRail", "(I)Z"⟩, 16) := ⟨⟨by decide +kernel, by decide +kernel⟩, List.mem_of_getElem? (i := 706) (by decide +kernel), List.mem_of_getElem? (i := 799) (by decide +kernel), List.mem_of_getElem? (i := 800) (by decide +kernel)⟩
theorem lw_p21 : lw_okq (⟨"RailSequenceModel", "replaced", "(III)I"⟩, 16) := ⟨⟨by decide +kernel, by decide +kernel⟩, List.mem_of_getElem? (i := 706) (by decide +kernel), List.mem_of_getElem? (i := 803) (by decide +kernel), List.mem_of_getElem? (i := 804) (by decide +kernel)⟩
theorem lw_p22 : lw_okq (⟨"RailSequenceModel", "of", "(II)I"⟩, 16) := ⟨⟨by decide +kernel, by decide +kernel⟩, List.mem_of_getElem? (i := 706) (by decide +kernel), List.mem_of_getElem? (i := 807) (by decide +kernel), List.mem_of_getElem? (i := 808) (by decide +kernel)⟩
theorem lw_p23 : lw_okq (⟨"RailSequenceModel", "maskOf", "(II)I"⟩, 16) := ⟨⟨by decide +kernel, by decide +kernel⟩, List.mem_of_getElem? (i := 706) (by decide +kernel), List.mem_of_getElem? (i := 826) (by decide +kernel), List.mem_of_getElem? (i := 827) (by decide +kernel)⟩
theorem lw_p24 : lw_okq (⟨"RailSequenceModel", "unwant", "(I)V"⟩, 16) := ⟨⟨by decide +kernel, by decide +kernel⟩, List.mem_of_getElem? (i := 706) (by decide +kernel), List.mem_of_getElem? (i := 834) (by decide +kernel), List.mem_of_getElem? (i := 835) (by decide +kernel)⟩
theorem lw_p25 : lw_okq (⟨"RailSequenceModel", "followers", "(I)I"⟩, 16) := ⟨⟨by decide +kernel, by decide +kernel⟩, List.mem_of_getElem? (i := 706) (by decide +kernel), List.mem_of_getElem? (i := 842) (by decide +kernel), List.mem_of_getElem? (i := 843) (by decide +kernel)⟩
theorem lw_p26 : lw_okq (⟨"RailSequenceModel", "becomeFor", "(III)V"⟩, 16) := ⟨⟨by decide +kernel, by decide +kernel⟩, List.mem_of_getElem? (i := 706) (by decide +kernel), List.mem_of_getElem? (i := 846) (by decide +kernel), List.mem_of_getElem? (i := 847) (by decide +kernel)⟩
theorem lw_p27 : lw_okq (⟨"RailSequenceModel", "become", "(II)V"⟩, 16) := ⟨⟨by decide +kernel, by decide +kernel⟩, List.mem_of_getElem? (i := 706) (by decide +kernel), List.mem_of_getElem? (i := 850) (by decide +kernel), List.mem_of_getElem? (i := 851) (by decide +kernel)⟩
theorem lw_p28 : lw_okq (⟨"RailSequenceModel", "add", "(II)V"⟩, 16) := ⟨⟨by decide +kernel, by decide +kernel⟩, List.mem_of_getElem? (i := 706) (by decide +kernel), List.mem_of_getElem? (i := 854) (by decide +kernel), List.mem_of_getElem? (i := 855) (by decide +kernel)⟩
theorem lw_p29 : lw_okq (⟨"RailSequenceModel", "pass", "()V"⟩, 16) := ⟨⟨by decide +kernel, by decide +kernel⟩, List.mem_of_getElem? (i := 706) (by decide +kernel), List.mem_of_getElem? (i := 870) (by decide +kernel), List.mem_of_getElem? (i := 871) (by decide +kernel)⟩
theorem lw_p30 : lw_okq (⟨"RailSequenceModel", "moveVoltage", "(I)V"⟩, 16) := ⟨⟨by decide +kernel, by decide +kernel⟩, List.mem_of_getElem? (i := 706) (by decide +kernel), List.mem_of_getElem? (i := 874) (by decide +kernel), List.mem_of_getElem? (i := 875) (by decide +kernel)⟩
theorem lw_p31 : lw_okq (⟨"RailSequenceModel", "look", "(I)V"⟩, 16) := ⟨⟨by decide +kernel, by decide +kernel⟩, List.mem_of_getElem? (i := 706) (by decide +kernel), List.mem_of_getElem? (i := 881) (by decide +kernel), List.mem_of_getElem? (i := 882) (by decide +kernel)⟩
def lw_privs_2 : List (MethodName × Nat) := [(⟨"RailSequenceModel", "isMask", "(II)Z"⟩, 16), (⟨"RailSequenceModel", "save", "()V"⟩, 16), (⟨"RailSequenceModel", "bring", "(IIII)V"⟩, 16), (⟨"RailSequenceModel", "lay", "(III)V"⟩, 16), (⟨"RailSequenceModel", "isRail", "(I)Z"⟩, 16), (⟨"RailSequenceModel", "replaced", "(III)I"⟩, 16), (⟨"RailSequenceModel", "of", "(II)I"⟩, 16), (⟨"RailSequenceModel", "maskOf", "(II)I"⟩, 16), (⟨"RailSequenceModel", "unwant", "(I)V"⟩, 16), (⟨"RailSequenceModel", "followers", "(I)I"⟩, 16), (⟨"RailSequenceModel", "becomeFor", "(III)V"⟩, 16), (⟨"RailSequenceModel", "become", "(II)V"⟩, 16), (⟨"RailSequenceModel", "add", "(II)V"⟩, 16), (⟨"RailSequenceModel", "pass", "()V"⟩, 16), (⟨"RailSequenceModel", "moveVoltage", "(I)V"⟩, 16), (⟨"RailSequenceModel", "look", "(I)V"⟩, 16)]
theorem lw_r2 : ∀ q ∈ lw_privs_2, lw_okq q := List.forall_mem_cons.mpr ⟨lw_p16, List.forall_mem_cons.mpr ⟨lw_p17, List.forall_mem_cons.mpr ⟨lw_p18, List.forall_mem_cons.mpr ⟨lw_p19, List.forall_mem_cons.mpr ⟨lw_p20, List.forall_mem_cons.mpr ⟨lw_p21, List.forall_mem_cons.mpr ⟨lw_p22, List.forall_mem_cons.mpr ⟨lw_p23, List.forall_mem_cons.mpr ⟨lw_p24, List.forall_mem_cons.mpr ⟨lw_p25, List.forall_mem_cons.mpr ⟨lw_p26, List.forall_mem_cons.mpr ⟨lw_p27, List.forall_mem_cons.mpr ⟨lw_p28, List.forall_mem_cons.mpr ⟨lw_p29, List.forall_mem_cons.mpr ⟨lw_p30, List.forall_mem_cons.mpr ⟨lw_p31, fun _ h => absurd h List.not_mem_nil⟩⟩⟩⟩⟩⟩⟩⟩⟩⟩⟩⟩⟩⟩⟩⟩
theorem lw_p32 : lw_okq (⟨"RailSequenceModel", "lookWaiting", "(I)V"⟩, 16) := ⟨⟨by decide +kernel, by decide +kernel⟩, List.mem_of_getElem? (i := 706) (by decide +kernel), List.mem_of_getElem? (i := 885) (by decide +kernel), List.mem_of_getElem? (i := 886) (by decide +kernel)⟩
theorem lw_p33 : lw_okq (⟨"RailSequenceModel", "isDischarged", "(I)Z"⟩, 16) := ⟨⟨by decide +kernel, by decide +kernel⟩, List.mem_of_getElem? (i := 706) (by decide +kernel), List.mem_of_getElem? (i := 889) (by decide +kernel), List.mem_of_getElem? (i := 890) (by decide +kernel)⟩
theorem lw_p34 : lw_okq (⟨"RailSequenceModel", "missing", "(I)I"⟩, 16) := ⟨⟨by decide +kernel, by decide +kernel⟩, List.mem_of_getElem? (i := 706) (by decide +kernel), List.mem_of_getElem? (i := 893) (by decide +kernel), List.mem_of_getElem? (i := 894) (by decide +kernel)⟩
theorem lw_p35 : lw_okq (⟨"RailSequenceModel", "isFlag", "(I)Z"⟩, 16) := ⟨⟨by decide +kernel, by decide +kernel⟩, List.mem_of_getElem? (i := 706) (by decide +kernel), List.mem_of_getElem? (i := 897) (by decide +kernel), List.mem_of_getElem? (i := 898) (by decide +kernel)⟩
theorem lw_p36 : lw_okq (⟨"RailSequenceModel", "lookRising", "(I)V"⟩, 16) := ⟨⟨by decide +kernel, by decide +kernel⟩, List.mem_of_getElem? (i := 706) (by decide +kernel), List.mem_of_getElem? (i := 901) (by decide +kernel), List.mem_of_getElem? (i := 902) (by decide +kernel)⟩
theorem lw_p37 : lw_okq (⟨"RailSequenceModel", "fail", "(I)V"⟩, 16) := ⟨⟨by decide +kernel, by decide +kernel⟩, List.mem_of_getElem? (i := 706) (by decide +kernel), List.mem_of_getElem? (i := 905) (by decide +kernel), List.mem_of_getElem? (i := 906) (by decide +kernel)⟩
theorem lw_p38 : lw_okq (⟨"RailSequenceModel", "lookGood", "(I)V"⟩, 16) := ⟨⟨by decide +kernel, by decide +kernel⟩, List.mem_of_getElem? (i := 706) (by decide +kernel), List.mem_of_getElem? (i := 909) (by decide +kernel), List.mem_of_getElem? (i := 910) (by decide +kernel)⟩
theorem lw_p39 : lw_okq (⟨"RailSequenceModel", "isUsed", "(I)Z"⟩, 16) := ⟨⟨by decide +kernel, by decide +kernel⟩, List.mem_of_getElem? (i := 706) (by decide +kernel), List.mem_of_getElem? (i := 913) (by decide +kernel), List.mem_of_getElem? (i := 914) (by decide +kernel)⟩
theorem lw_p40 : lw_okq (⟨"RailSequenceModel", "readText", "()I"⟩, 16) := ⟨⟨by decide +kernel, by decide +kernel⟩, List.mem_of_getElem? (i := 706) (by decide +kernel), List.mem_of_getElem? (i := 929) (by decide +kernel), List.mem_of_getElem? (i := 930) (by decide +kernel)⟩
theorem lw_p41 : lw_okq (⟨"RailSequenceModel", "beginRail", "()V"⟩, 16) := ⟨⟨by decide +kernel, by decide +kernel⟩, List.mem_of_getElem? (i := 706) (by decide +kernel), List.mem_of_getElem? (i := 933) (by decide +kernel), List.mem_of_getElem? (i := 934) (by decide +kernel)⟩
theorem lw_p42 : lw_okq (⟨"RailSequenceModel", "takes", "(I)Z"⟩, 16) := ⟨⟨by decide +kernel, by decide +kernel⟩, List.mem_of_getElem? (i := 706) (by decide +kernel), List.mem_of_getElem? (i := 937) (by decide +kernel), List.mem_of_getElem? (i := 938) (by decide +kernel)⟩
theorem lw_p43 : lw_okq (⟨"RailSequenceModel", "takesDigit", "(I)Z"⟩, 16) := ⟨⟨by decide +kernel, by decide +kernel⟩, List.mem_of_getElem? (i := 706) (by decide +kernel), List.mem_of_getElem? (i := 941) (by decide +kernel), List.mem_of_getElem? (i := 942) (by decide +kernel)⟩
theorem lw_p44 : lw_okq (⟨"RailSequenceModel", "isNumberOver", "()Z"⟩, 16) := ⟨⟨by decide +kernel, by decide +kernel⟩, List.mem_of_getElem? (i := 706) (by decide +kernel), List.mem_of_getElem? (i := 945) (by decide +kernel), List.mem_of_getElem? (i := 946) (by decide +kernel)⟩
theorem lw_p45 : lw_okq (⟨"RailSequenceModel", "least", "()I"⟩, 16) := ⟨⟨by decide +kernel, by decide +kernel⟩, List.mem_of_getElem? (i := 706) (by decide +kernel), List.mem_of_getElem? (i := 949) (by decide +kernel), List.mem_of_getElem? (i := 950) (by decide +kernel)⟩
theorem lw_p46 : lw_okq (⟨"RailSequenceModel", "isRailOver", "()Z"⟩, 16) := ⟨⟨by decide +kernel, by decide +kernel⟩, List.mem_of_getElem? (i := 706) (by decide +kernel), List.mem_of_getElem? (i := 953) (by decide +kernel), List.mem_of_getElem? (i := 954) (by decide +kernel)⟩
theorem lw_p47 : lw_okq (⟨"RailSequenceModel", "isEarlier", "()Z"⟩, 16) := ⟨⟨by decide +kernel, by decide +kernel⟩, List.mem_of_getElem? (i := 706) (by decide +kernel), List.mem_of_getElem? (i := 961) (by decide +kernel), List.mem_of_getElem? (i := 962) (by decide +kernel)⟩
def lw_privs_3 : List (MethodName × Nat) := [(⟨"RailSequenceModel", "lookWaiting", "(I)V"⟩, 16), (⟨"RailSequenceModel", "isDischarged", "(I)Z"⟩, 16), (⟨"RailSequenceModel", "missing", "(I)I"⟩, 16), (⟨"RailSequenceModel", "isFlag", "(I)Z"⟩, 16), (⟨"RailSequenceModel", "lookRising", "(I)V"⟩, 16), (⟨"RailSequenceModel", "fail", "(I)V"⟩, 16), (⟨"RailSequenceModel", "lookGood", "(I)V"⟩, 16), (⟨"RailSequenceModel", "isUsed", "(I)Z"⟩, 16), (⟨"RailSequenceModel", "readText", "()I"⟩, 16), (⟨"RailSequenceModel", "beginRail", "()V"⟩, 16), (⟨"RailSequenceModel", "takes", "(I)Z"⟩, 16), (⟨"RailSequenceModel", "takesDigit", "(I)Z"⟩, 16), (⟨"RailSequenceModel", "isNumberOver", "()Z"⟩, 16), (⟨"RailSequenceModel", "least", "()I"⟩, 16), (⟨"RailSequenceModel", "isRailOver", "()Z"⟩, 16), (⟨"RailSequenceModel", "isEarlier", "()Z"⟩, 16)]
theorem lw_r3 : ∀ q ∈ lw_privs_3, lw_okq q := List.forall_mem_cons.mpr ⟨lw_p32, List.forall_mem_cons.mpr ⟨lw_p33, List.forall_mem_cons.mpr ⟨lw_p34, List.forall_mem_cons.mpr ⟨lw_p35, List.forall_mem_cons.mpr ⟨lw_p36, List.forall_mem_cons.mpr ⟨lw_p37, List.forall_mem_cons.mpr ⟨lw_p38, List.forall_mem_cons.mpr ⟨lw_p39, List.forall_mem_cons.mpr ⟨lw_p40, List.forall_mem_cons.mpr ⟨lw_p41, List.forall_mem_cons.mpr ⟨lw_p42, List.forall_mem_cons.mpr ⟨lw_p43, List.forall_mem_cons.mpr ⟨lw_p44, List.forall_mem_cons.mpr ⟨lw_p45, List.forall_mem_cons.mpr ⟨lw_p46, List.forall_mem_cons.mpr ⟨lw_p47, fun _ h => absurd h List.not_mem_nil⟩⟩⟩⟩⟩⟩⟩⟩⟩⟩⟩⟩⟩⟩⟩⟩
theorem lw_p48 : lw_okq (⟨"RailSequenceModel", "railNow", "(II)I"⟩, 16) := ⟨⟨by decide +kernel, by decide +kernel⟩, List.mem_of_getElem? (i := 706) (by decide +kernel), List.mem_of_getElem? (i := 969) (by decide +kernel), List.mem_of_getElem? (i := 970) (by decide +kernel)⟩
theorem lw_p49 : lw_okq (⟨"RailSequenceModel", "firstBlame", "(I)I"⟩, 16) := ⟨⟨by decide +kernel, by decide +kernel⟩, List.mem_of_getElem? (i := 706) (by decide +kernel), List.mem_of_getElem? (i := 973) (by decide +kernel), List.mem_of_getElem? (i := 974) (by decide +kernel)⟩
theorem lw_p50 : lw_okq (⟨"RailSequenceModel", "entryNow", "(II)I"⟩, 16) := ⟨⟨by decide +kernel, by decide +kernel⟩, List.mem_of_getElem? (i := 706) (by decide +kernel), List.mem_of_getElem? (i := 985) (by decide +kernel), List.mem_of_getElem? (i := 986) (by decide +kernel)⟩
theorem lw_p51 : lw_okq (⟨"RailSequenceModel", "counted", "(I)I"⟩, 16) := ⟨⟨by decide +kernel, by decide +kernel⟩, List.mem_of_getElem? (i := 706) (by decide +kernel), List.mem_of_getElem? (i := 997) (by decide +kernel), List.mem_of_getElem? (i := 998) (by decide +kernel)⟩
theorem lw_p52 : lw_okq (⟨"RailSequenceModel", "voltages", "()I"⟩, 16) := ⟨⟨by decide +kernel, by decide +kernel⟩, List.mem_of_getElem? (i := 706) (by decide +kernel), List.mem_of_getElem? (i := 1001) (by decide +kernel), List.mem_of_getElem? (i := 1002) (by decide +kernel)⟩
theorem lw_p53 : lw_okq (⟨"RailSequenceModel", "isStill", "()Z"⟩, 16) := ⟨⟨by decide +kernel, by decide +kernel⟩, List.mem_of_getElem? (i := 706) (by decide +kernel), List.mem_of_getElem? (i := 1005) (by decide +kernel), List.mem_of_getElem? (i := 1006) (by decide +kernel)⟩
theorem lw_p54 : lw_okq (⟨"RailSequenceModel", "keepAside", "()V"⟩, 16) := ⟨⟨by decide +kernel, by decide +kernel⟩, List.mem_of_getElem? (i := 706) (by decide +kernel), List.mem_of_getElem? (i := 1009) (by decide +kernel), List.mem_of_getElem? (i := 1010) (by decide +kernel)⟩
theorem lw_p55 : lw_okq (⟨"RailSequenceModel", "takeBack", "()V"⟩, 16) := ⟨⟨by decide +kernel, by decide +kernel⟩, List.mem_of_getElem? (i := 706) (by decide +kernel), List.mem_of_getElem? (i := 1013) (by decide +kernel), List.mem_of_getElem? (i := 1014) (by decide +kernel)⟩
theorem lw_p56 : lw_okq (⟨"RailSequenceModel", "goesIn", "(Z)I"⟩, 16) := ⟨⟨by decide +kernel, by decide +kernel⟩, List.mem_of_getElem? (i := 706) (by decide +kernel), List.mem_of_getElem? (i := 1021) (by decide +kernel), List.mem_of_getElem? (i := 1022) (by decide +kernel)⟩
theorem lw_p57 : lw_okq (⟨"RailSequenceModel", "allRails", "()I"⟩, 16) := ⟨⟨by decide +kernel, by decide +kernel⟩, List.mem_of_getElem? (i := 706) (by decide +kernel), List.mem_of_getElem? (i := 1025) (by decide +kernel), List.mem_of_getElem? (i := 1026) (by decide +kernel)⟩
theorem lw_p58 : lw_okq (⟨"RailSequenceModel", "isAllOff", "()Z"⟩, 16) := ⟨⟨by decide +kernel, by decide +kernel⟩, List.mem_of_getElem? (i := 706) (by decide +kernel), List.mem_of_getElem? (i := 1029) (by decide +kernel), List.mem_of_getElem? (i := 1030) (by decide +kernel)⟩
theorem lw_p59 : lw_okq (⟨"RailSequenceModel", "isAllGood", "()Z"⟩, 16) := ⟨⟨by decide +kernel, by decide +kernel⟩, List.mem_of_getElem? (i := 706) (by decide +kernel), List.mem_of_getElem? (i := 1033) (by decide +kernel), List.mem_of_getElem? (i := 1034) (by decide +kernel)⟩
theorem lw_p60 : lw_okq (⟨"RailSequenceModel", "shortAnswer", "(III)I"⟩, 16) := ⟨⟨by decide +kernel, by decide +kernel⟩, List.mem_of_getElem? (i := 706) (by decide +kernel), List.mem_of_getElem? (i := 1045) (by decide +kernel), List.mem_of_getElem? (i := 1046) (by decide +kernel)⟩
theorem lw_p61 : lw_okq (⟨"RailSequenceModel", "patienceFor", "(I)I"⟩, 16) := ⟨⟨by decide +kernel, by decide +kernel⟩, List.mem_of_getElem? (i := 706) (by decide +kernel), List.mem_of_getElem? (i := 1053) (by decide +kernel), List.mem_of_getElem? (i := 1054) (by decide +kernel)⟩
theorem lw_p62 : lw_okq (⟨"RailSequenceModel", "shareNow", "()D"⟩, 16) := ⟨⟨by decide +kernel, by decide +kernel⟩, List.mem_of_getElem? (i := 706) (by decide +kernel), List.mem_of_getElem? (i := 1061) (by decide +kernel), List.mem_of_getElem? (i := 1062) (by decide +kernel)⟩
theorem lw_p63 : lw_okq (⟨"RailSequenceModel", "mix", "(J)V"⟩, 16) := ⟨⟨by decide +kernel, by decide +kernel⟩, List.mem_of_getElem? (i := 706) (by decide +kernel), List.mem_of_getElem? (i := 1070) (by decide +kernel), List.mem_of_getElem? (i := 1071) (by decide +kernel)⟩
def lw_privs_4 : List (MethodName × Nat) := [(⟨"RailSequenceModel", "railNow", "(II)I"⟩, 16), (⟨"RailSequenceModel", "firstBlame", "(I)I"⟩, 16), (⟨"RailSequenceModel", "entryNow", "(II)I"⟩, 16), (⟨"RailSequenceModel", "counted", "(I)I"⟩, 16), (⟨"RailSequenceModel", "voltages", "()I"⟩, 16), (⟨"RailSequenceModel", "isStill", "()Z"⟩, 16), (⟨"RailSequenceModel", "keepAside", "()V"⟩, 16), (⟨"RailSequenceModel", "takeBack", "()V"⟩, 16), (⟨"RailSequenceModel", "goesIn", "(Z)I"⟩, 16), (⟨"RailSequenceModel", "allRails", "()I"⟩, 16), (⟨"RailSequenceModel", "isAllOff", "()Z"⟩, 16), (⟨"RailSequenceModel", "isAllGood", "()Z"⟩, 16), (⟨"RailSequenceModel", "shortAnswer", "(III)I"⟩, 16), (⟨"RailSequenceModel", "patienceFor", "(I)I"⟩, 16), (⟨"RailSequenceModel", "shareNow", "()D"⟩, 16), (⟨"RailSequenceModel", "mix", "(J)V"⟩, 16)]
theorem lw_r4 : ∀ q ∈ lw_privs_4, lw_okq q := List.forall_mem_cons.mpr ⟨lw_p48, List.forall_mem_cons.mpr ⟨lw_p49, List.forall_mem_cons.mpr ⟨lw_p50, List.forall_mem_cons.mpr ⟨lw_p51, List.forall_mem_cons.mpr ⟨lw_p52, List.forall_mem_cons.mpr ⟨lw_p53, List.forall_mem_cons.mpr ⟨lw_p54, List.forall_mem_cons.mpr ⟨lw_p55, List.forall_mem_cons.mpr ⟨lw_p56, List.forall_mem_cons.mpr ⟨lw_p57, List.forall_mem_cons.mpr ⟨lw_p58, List.forall_mem_cons.mpr ⟨lw_p59, List.forall_mem_cons.mpr ⟨lw_p60, List.forall_mem_cons.mpr ⟨lw_p61, List.forall_mem_cons.mpr ⟨lw_p62, List.forall_mem_cons.mpr ⟨lw_p63, fun _ h => absurd h List.not_mem_nil⟩⟩⟩⟩⟩⟩⟩⟩⟩⟩⟩⟩⟩⟩⟩⟩
theorem lw_p64 : lw_okq (⟨"RailSequenceModel", "mixRail", "(I)V"⟩, 16) := ⟨⟨by decide +kernel, by decide +kernel⟩, List.mem_of_getElem? (i := 706) (by decide +kernel), List.mem_of_getElem? (i := 1075) (by decide +kernel), List.mem_of_getElem? (i := 1076) (by decide +kernel)⟩
def lw_privs_5 : List (MethodName × Nat) := [(⟨"RailSequenceModel", "mixRail", "(I)V"⟩, 16)]
theorem lw_r5 : ∀ q ∈ lw_privs_5, lw_okq q := List.forall_mem_cons.mpr ⟨lw_p64, fun _ h => absurd h List.not_mem_nil⟩
def lw_privs : List (MethodName × Nat) := lw_privs_1 ++ (lw_privs_2 ++ (lw_privs_3 ++ (lw_privs_4 ++ (lw_privs_5))))
def lw_tbl : List Cond := k2_sels lw_privs ++ tables_1
theorem lw_privs_ok : ∀ q ∈ lw_privs, lw_okq q := by
  show ∀ q ∈ lw_privs_1 ++ (lw_privs_2 ++ (lw_privs_3 ++ (lw_privs_4 ++ (lw_privs_5)))), lw_okq q
  exact List.forall_mem_append.mpr ⟨lw_r1, List.forall_mem_append.mpr ⟨lw_r2, List.forall_mem_append.mpr ⟨lw_r3, List.forall_mem_append.mpr ⟨lw_r4, lw_r5⟩⟩⟩⟩
/-- the streams that the claim lets the run draw from -/
abbrev lw_cs : List Choice := [Jvm.Choice.named "NaN.bits"]
theorem lw_bits : nanBits ∈ lw_cs := by first | decide | exact List.mem_cons_self | simp [lw_cs, nanBits]
end
section
/-! ===== BEGIN words of one list among another's, by their places ===== -/
theorem goodIn_r {big : List Cond} (ws : List Cond) (ps : List Nat) (hp : ws = ps.filterMap (fun i => big[i]?)) (h : ws.all goodWord = true) : GoodIn big ws := by
  intro w hw
  have h1 := List.all_eq_true.mp h w hw
  rw [hp] at hw
  obtain ⟨i, -, hi⟩ := List.mem_filterMap.mp hw
  have hm : w ∈ big := by first | exact List.mem_of_getElem? hi | exact List.getElem?_mem hi
  exact ⟨hm, good_of_word h1⟩
theorem goodIn_app {big a b : List Cond} (ha : GoodIn big a) (hb : GoodIn big b) : GoodIn big (a ++ b) := fun w h => (List.mem_append.mp h).elim (ha w) (hb w)
theorem goodIn_ca {big a b : List Cond} {c : Cond} (ha : GoodIn big (c :: a)) (hb : GoodIn big b) : GoodIn big (c :: (a ++ b)) := fun w h => (List.mem_cons.mp h).elim (fun e => ha w (List.mem_cons.mpr (Or.inl e))) (fun h => (List.mem_append.mp h).elim (fun h => ha w (List.mem_cons.mpr (Or.inr h))) (hb w))
theorem goodIn_sub {big ws : List Cond} (hm : ∀ w ∈ ws, w ∈ big) (h : ws.all goodWord = true) : GoodIn big ws := fun w hw => ⟨hm w hw, good_of_word (List.all_eq_true.mp h w hw)⟩
/-! ===== END ===== -/

/-! ===== BEGIN exceptions that leave a method, and their catching by the caller (launches without stack traces) ===== -/
section VXA
/-! The laws vx_back, vx_callV, vx_callS, vx_callSW, vx_throw0, vx_throwS follow proofs of the library, with one case more: JvmDerived/Free/Laws.lean (Back.of_free), Shelf42/LK1.lean (callV, callS), Shelf/KitTraced.lean (throwNew0V, throwNewS). -/
/-- where a method has thrown q: the class by its name, the cell, what was written, the world -/
def vx_T (XC : String → State → State → Prop) (st : State) (q : Addr) (t : State) (mc ms : Nat) (free : Addr → Prop) : Prop :=
  ∃ (E : String) (ce : Cell) (L : List Loc), XC E st t ∧ t.heap[q]? = some ce ∧ ce.vm = .none ∧ st.vm.findClass E = some ce.cls ∧ st.WarmedH t.vm ∧ st.sameButNew ({ t with vm := st.vm } : State) L mc ms ∧ ∀ z ∈ L, free z.base
def vx_Q (Qc : Array Value → State → Outcome → State → Prop) (XC : String → State → State → Prop) (mc ms : Nat) (free : Addr → Prop) : Array Value → State → Outcome → State → Prop := fun a st o t =>
  (Qc a st o t ∧ ∃ L, FrameEnd st o t L mc ms ∧ ∀ q ∈ L, free q.base) ∨ ∃ q, o = .threw q ∧ vx_T XC st q t mc ms free
/-- a callee that returns or throws -/
def vx_Met (l : Launch) (y : MethodName) (ws : List Cond) (rm : Room) (Pc : Array Value → State → Prop) (Qc : Array Value → State → Outcome → State → Prop) (XC : String → State → State → Prop) (mc ms : Nat) (free : Addr → Prop) : Prop :=
  MetFree l y (headSpec ws rm) Pc (fun _ _ _ _ _ => True) (vx_Q Qc XC mc ms free)
def vx_Post (XC : String → State → State → Prop) (mc ms : Nat) (free : Addr → Prop) : Pt → Array Value → Addr → Pt → Prop := fun A a q B =>
  ∃ (g : JFrame) (mk : MethodId) (t : State) (L : List Loc) (E : String) (ce : Cell), B.U.heap = t.heap ∧ B.U.vm = t.vm ∧ XC E (A.U.calling g mk a) t ∧ t.heap[q]? = some ce ∧ ce.vm = .none ∧ A.U.vm.findClass E = some ce.cls ∧ B.locs = A.locs ++ L ∧ (∀ z ∈ L, free z.base) ∧ B.cells = A.cells + mc ∧ B.slots = A.slots + ms
def vx_Back (l : Launch) (R : Room) (p : Program) (e : Env) (below : List Frame) (s : State) (sargs : Array Value) (y : MethodName) (len W9 : Nat)
    (Pre : Pt → Array Value → Prop) (Post : Pt → Array Value → Option Value → Pt → Prop) (PostX : Pt → Array Value → Addr → Pt → Prop) : Prop :=
  ∀ (m : MethodId) (meth : Method) (c : Code) (A : Pt) (g : JFrame) (ig : Instr) (mk : MethodId) (a : Array Value),
    Stand p l e R s m sargs below meth c A.U A.locs A.cells A.slots → g.method = m → g.locals.size = c.maxLocals → decode c.code g.pc = .ok (ig, len) →
    2 * g.monitorRoom + (g.stack.map fun v => v.category).sum ≤ W9 → A.U.methodNamed? y = some mk → Pre A a →
    (∃ (v : Option Value) (B : Pt), Stand p l e R s m sargs below meth c B.U B.locs B.cells B.slots ∧ Post A a v B ∧
      Steps p.tables e below (doInvoke e (A.U.setTop g) [] mk a).1 (B.U.setTop { g with pc := g.pc + len, stack := v.toList ++ g.stack })) ∨
    (∃ (q : Addr) (B : Pt), Stand p l e R s m sargs below meth c B.U B.locs B.cells B.slots ∧ PostX A a q B ∧
      Steps p.tables e below (doInvoke e (A.U.setTop g) [] mk a).1 ((B.U.setTop g).pushFrame (.throwing q)))
section Payer
variable {l : Launch} {R : Room} {p : Program} {e : Env} {below : List Frame} {s : State} {sargs : Array Value} {y : MethodName} {len W9 : Nat}
theorem vx_back {ws : List Cond} {rm : Room} {Pc : Array Value → State → Prop} {Qc : Array Value → State → Outcome → State → Prop} {XC : String → State → State → Prop} {mc ms : Nat} {free : Addr → Prop} {bytes : ByteArray} {maxL : Nat} {ret : Option FieldType}
    (hM : vx_Met l y ws rm Pc Qc XC mc ms free) (hblind : FrameBlind Pc) (hrc : rm.cells = mc) (hrs : rm.slots = ms)
    (hframes : rm.frames + 1 ≤ R.frames) (hlocals : W9 + (maxL + 11) + rm.locals ≤ R.locals)
    (hws : ∀ w ∈ ws, ∀ a' U, s.WarmedH U.vm → w.before a' U = true) (hcode : Cond.code y bytes maxL ret ∈ ws) (hinit : ∀ a' U, s.WarmedH U.vm → (Cond.initialized y.cls).before a' U = true) :
    vx_Back l R p e below s sargs y len W9 (PreOf R mc ms Pc) (PostOf Qc mc ms free) (vx_Post XC mc ms free) := by
  intro m meth c A g ig mk a X hg hsize hdg hW hn hp
  have h1 : (headSpec ws rm).pre.before a A.U = true := atoms_intro fun w hw => hws w hw _ _ X.warmed
  have h2 : (Cond.code y bytes maxL ret).before a A.U = true := hws _ hcode _ _ X.warmed
  have h3 : (Cond.initialized y.cls).before a A.U = true := hinit _ _ X.warmed
  have h4 : A.cells + (headSpec ws rm).room.cells ≤ R.cells := by rw [show (headSpec ws rm).room.cells = mc from hrc]; exact hp.1
  have h5 : A.slots + (headSpec ws rm).room.slots ≤ R.slots := by rw [show (headSpec ws rm).room.slots = ms from hrs]; exact hp.2.1
  have hPc : Pc a (A.U.calling g mk a) := hblind _ _ _ _ hp.2.2
  obtain ⟨U, Ls, c0, s0⟩ := A
  dsimp only [Pt.U, Pt.locs, Pt.cells, Pt.slots] at h1 h2 h3 h4 h5 X hn hPc ⊢
  obtain ⟨methY, cY, hmY, hcY, -, hlY, -, -, -, -⟩ := Cond.code_spec hn h2
  obtain ⟨kY, hkY, -⟩ := className_of_methodNamed hn
  have hinitY : kY.init = .initialized := Cond.initialized_spec (findClass_of_methodNamed hn) hkY h3
  have h : At U g.method c below := by rw [hg]; exact X.here
  have hlocals9 : W9 + (maxL + 11) + (headSpec ws rm).room.locals ≤ R.locals := hlocals
  have happ : (headSpec ws rm).appliesLoose y e.platform (U.calling g mk a) = true :=
    Spec.appliesLoose_calling (g := g) h hdg hn hkY hinitY
      (X.room_calling (g := g) (R' := (headSpec ws rm).room) hsize hmY hcY hframes (by rw [hlY]; omega) h4 h5) h1
  obtain ⟨mid, hmid⟩ := h.above
  have hfr : (U.setTop g).frames = (.java g :: mid) ++ below := by rw [State.frames_setTop' g h.top, hmid]; rfl
  obtain ⟨o, s₂, hsteps, -, hend, hq⟩ := Steps.callFree hM p X.admits X.cas X.clock (acts := []) hfr happ hPc trivial
  have hq' : vx_Q Qc XC mc ms free a (U.calling g mk a) o s₂ := hq
  rw [State.frames_setTop' g h.top] at hend
  obtain ⟨g₀, hg0⟩ := Option.isSome_iff_exists.mp h.top
  obtain ⟨r, hr⟩ := State.topJava?_eq_some.mp hg0
  have hr' : (({ U with heap := s₂.heap, slotsUsed := s₂.slotsUsed } : State).setVm s₂.vm).frames = .java g₀ :: r := hr
  rcases hq' with ⟨hqc, L, hfe, hL⟩ | ⟨q, rfl, E, ce, L, hx, hce, hcv, hcl, hW₂, hsm, hL⟩
  · obtain ⟨⟨v, rfl⟩, hW₂, e2, q2, q3, q4, q5, q6⟩ := id hfe
    have e3 : s₂ = ({ (U.calling g mk a).setFrames s₂.frames with heap := s₂.heap, slotsUsed := s₂.slotsUsed } : State).setVm s₂.vm := by
      have : s₂ = ({ s₂ with vm := (U.calling g mk a).vm } : State).setVm s₂.vm := rfl
      rw [e2] at this
      exact this
    obtain ⟨c₂, i₂, len₂, hc₂, hd₂, hf₂⟩ := hend
    have hW' : U.WarmedH s₂.vm := hW₂
    have hcc : c₂ = c := by
      have h1 : s₂.code? g.method = U.code? g.method := by
        rw [State.code?_eq, State.code?_eq, hW'.alike.method?]
      exact Option.some.inj (hc₂.symm.trans (h1.trans h.code))
    subst hcc
    have hlen : len₂ = len := by rw [hdg] at hd₂; cases hd₂; rfl
    subst hlen
    have hs₂ : s₂ = (({ U with heap := s₂.heap, slotsUsed := s₂.slotsUsed } : State).setVm s₂.vm).setTop { g with pc := g.pc + len₂, stack := v.toList ++ g.stack } := by
      refine e3.trans ?_
      rw [hf₂, State.calling_eq h.top, State.setFrames_setFrames, State.setTop_of_frames _ hr', hr]
      rfl
    have hsame : U.sameButNew ({ U with heap := s₂.heap, slotsUsed := s₂.slotsUsed } : State) L mc ms := by
      refine ⟨?_, q2, q3, q4, q5, q6⟩
      obtain ⟨t, ht, -⟩ := State.frames_cons hr
      show ({ U with heap := s₂.heap, slotsUsed := s₂.slotsUsed } : State) = { U.setFrames U.frames with heap := s₂.heap, slotsUsed := s₂.slotsUsed }
      rw [State.setFrames_self ht]
    subst hg
    refine Or.inl ⟨v, ⟨(({ U with heap := s₂.heap, slotsUsed := s₂.slotsUsed } : State).setVm s₂.vm), Ls ++ L, c0 + mc, s0 + ms⟩,
      ⟨X.admits, X.cas, X.clock, X.frames, X.room, X.hears, X.method, X.code, (X.here.setHeapUsed s₂.heap s₂.slotsUsed).setVm hW'.alike, X.tail, State.WarmedH.trans X.warmed hW', X.limits, X.bytes, X.same.trans (hsame.setVm s.vm)⟩,
      ⟨g, mk, s₂, L, rfl, rfl, hqc, rfl, hL, rfl, rfl⟩, ?_⟩
    show Steps p.tables e below _ ((({ U with heap := s₂.heap, slotsUsed := s₂.slotsUsed } : State).setVm s₂.vm).setTop { g with pc := g.pc + len₂, stack := v.toList ++ g.stack })
    rw [← hs₂]
    exact hsteps
  · obtain ⟨e2, q2, q3, q4, q5, q6⟩ := id hsm
    have e3 : s₂ = ({ (U.calling g mk a).setFrames s₂.frames with heap := s₂.heap, slotsUsed := s₂.slotsUsed } : State).setVm s₂.vm := by
      have : s₂ = ({ s₂ with vm := (U.calling g mk a).vm } : State).setVm s₂.vm := rfl
      rw [e2] at this
      exact this
    have hf₂ : s₂.frames = .throwing q :: .java g :: U.frames.tail := hend
    have hW' : U.WarmedH s₂.vm := hW₂
    have hs₂ : s₂ = ((({ U with heap := s₂.heap, slotsUsed := s₂.slotsUsed } : State).setVm s₂.vm).setTop g).pushFrame (.throwing q) := by
      refine e3.trans ?_
      rw [hf₂, State.calling_eq h.top, State.setFrames_setFrames, State.pushFrame, State.frames_setTop _ hr', State.setTop_of_frames _ hr', State.setFrames_setFrames, hr]
      rfl
    have hsame : U.sameButNew ({ U with heap := s₂.heap, slotsUsed := s₂.slotsUsed } : State) L mc ms := by
      refine ⟨?_, q2, q3, q4, q5, q6⟩
      obtain ⟨t, ht, -⟩ := State.frames_cons hr
      show ({ U with heap := s₂.heap, slotsUsed := s₂.slotsUsed } : State) = { U.setFrames U.frames with heap := s₂.heap, slotsUsed := s₂.slotsUsed }
      rw [State.setFrames_self ht]
    subst hg
    refine Or.inr ⟨q, ⟨(({ U with heap := s₂.heap, slotsUsed := s₂.slotsUsed } : State).setVm s₂.vm), Ls ++ L, c0 + mc, s0 + ms⟩,
      ⟨X.admits, X.cas, X.clock, X.frames, X.room, X.hears, X.method, X.code, (X.here.setHeapUsed s₂.heap s₂.slotsUsed).setVm hW'.alike, X.tail, State.WarmedH.trans X.warmed hW', X.limits, X.bytes, X.same.trans (hsame.setVm s.vm)⟩,
      ⟨g, mk, s₂, L, E, ce, rfl, rfl, hx, hce, hcv, hcl, rfl, hL, rfl, rfl⟩, ?_⟩
    show Steps p.tables e below _ (((({ U with heap := s₂.heap, slotsUsed := s₂.slotsUsed } : State).setVm s₂.vm).setTop g).pushFrame (.throwing q))
    rw [← hs₂]
    exact hsteps
end Payer
section Calls
variable {p : Program} {l : Launch} {e : Env} {R : Room} {s : State} {m : MethodId} {args : Array Value} {below : List Frame} {meth : Method} {c : Code} {T : State} {locs : List Loc} {cells slots : Nat}
theorem vx_callV (X : Stand p l e R s m args below meth c T locs cells slots) (hexec : p.tables.exec = Jvm.exec) {own C : String} {index : Nat} {y : MethodName} {bytes : ByteArray} {maxL : Nat} {ret : Option FieldType}
    (hown : s.vm.findClass own = some m.cls) (hlink : (Cond.methodLink own index y).before args s = true) (hinst : (Cond.instanceMethod y).before args s = true) (hsel : (Cond.selects C y y).before args s = true)
    (hcode : (Cond.code y bytes maxL ret).before args s = true) (hy : y.cls ≠ "java/lang/invoke/MethodHandle" ∧ y.cls ≠ "java/lang/invoke/VarHandle")
    {W9 : Nat} {Pre : Pt → Array Value → Prop} {Post : Pt → Array Value → Option Value → Pt → Prop} {PostX : Pt → Array Value → Addr → Pt → Prop} (hK : vx_Back l R p e below s args y 3 W9 Pre Post PostX)
    {b : Addr} {cellB : Cell} (hcell : T.heap[b]? = some cellB) (hobj : cellB.vm.isStatics = false) (hcls : s.vm.findClass C = some cellB.cls)
    {g : JFrame} (hg : g.method = m) (hsize : g.locals.size = c.maxLocals) {argsL rest : List Value} (hlen : ∀ sig, parseMethodDescriptor y.desc = some sig → argsL.length = sig.parameters.length)
    (hstack : g.stack = argsL.reverse ++ .ref b :: rest) (hW : 2 * g.monitorRoom + (rest.map fun v => v.category).sum ≤ W9) (hdg : decode c.code g.pc = .ok (.invokevirtual index, 3))
    (hpre : ∀ vm₁, s.WarmedH vm₁ → Pre ⟨T.setVm vm₁, locs, cells, slots⟩ (Value.ref b :: argsL).toArray) :
    (∃ (v : Option Value) (vm₁ : Vm) (B : Pt), s.WarmedH vm₁ ∧ Stand p l e R s m args below meth c B.U B.locs B.cells B.slots ∧ Post ⟨T.setVm vm₁, locs, cells, slots⟩ (Value.ref b :: argsL).toArray v B ∧
      ∀ target, Steps p.tables e below (B.U.setTop { g with pc := g.pc + 3, stack := v.toList ++ rest }) target → Steps p.tables e below (T.setTop g) target) ∨
    (∃ (q : Addr) (vm₁ : Vm) (B : Pt), s.WarmedH vm₁ ∧ Stand p l e R s m args below meth c B.U B.locs B.cells B.slots ∧ PostX ⟨T.setVm vm₁, locs, cells, slots⟩ (Value.ref b :: argsL).toArray q B ∧
      Steps p.tables e below (T.setTop g) ((B.U.setTop { g with stack := rest }).pushFrame (.throwing q))) := by
  obtain ⟨mk, methM, hnamed, hmethM, hstM, habM⟩ := Cond.instanceMethod_spec hinst
  obtain ⟨methM', cM, hmethM', -, -, -, -, -, -, hsigM⟩ := Cond.code_spec hnamed hcode
  cases hmethM.symm.trans hmethM'
  obtain ⟨c2, r2, m2, q1, q2, q3, q4, kP, hkP, hkPi⟩ := Cond.selects_spec hsel
  cases hcls.symm.trans q1
  cases (State.methodFound?_of_named hnamed hy).symm.trans q2
  cases hnamed.symm.trans q3
  have hselP : selectMethod e.platform s.vm cellB.cls mk = .method mk := by rw [Launch.admits_selectMethod X.admits]; exact q4
  obtain ⟨vm₁, X₁, hstep₁⟩ := X.invokevirtual hexec hown hlink hnamed hmethM hstM hkP hkPi hy (a := b) (cell := cellB) hcell
    (fun z h => by rw [h] at hobj; cases hobj) hselP hmethM habM hkP hkPi (g := g) hg (argsL := argsL) (rest := rest) (hlen _ hsigM) hstack hdg
  rcases hK m meth c ⟨T.setVm vm₁, locs, cells, slots⟩ { g with stack := rest } (.invokevirtual index) mk (Value.ref b :: argsL).toArray X₁ hg hsize hdg hW (X₁.named hnamed) (hpre vm₁ X₁.warmed) with ⟨v, B, X', hpost, hsteps⟩ | ⟨q, B, X', hpost, hsteps⟩
  · exact Or.inl ⟨v, vm₁, B, X₁.warmed, X', hpost, fun target h => hstep₁ _ fun acts => by rw [doInvoke_state]; exact hsteps.trans h⟩
  · exact Or.inr ⟨q, vm₁, B, X₁.warmed, X', hpost, hstep₁ _ fun acts => by rw [doInvoke_state]; exact hsteps⟩
theorem vx_callS (X : Stand p l e R s m args below meth c T locs cells slots) (hexec : p.tables.exec = Jvm.exec) {own : String} {index : Nat} {y : MethodName} {bytes : ByteArray} {maxL : Nat} {ret : Option FieldType}
    (hown : s.vm.findClass own = some m.cls) (hlink : (Cond.methodLink own index y).before args s = true) (hstat : (Cond.static y).before args s = true) (hinit : (Cond.initialized y.cls).before args s = true)
    (hcode : (Cond.code y bytes maxL ret).before args s = true) (hy : y.cls ≠ "java/lang/invoke/MethodHandle" ∧ y.cls ≠ "java/lang/invoke/VarHandle")
    {W9 : Nat} {Pre : Pt → Array Value → Prop} {Post : Pt → Array Value → Option Value → Pt → Prop} {PostX : Pt → Array Value → Addr → Pt → Prop} (hK : vx_Back l R p e below s args y 3 W9 Pre Post PostX)
    {g : JFrame} (hg : g.method = m) (hsize : g.locals.size = c.maxLocals) {argsL rest : List Value} (hlen : ∀ sig, parseMethodDescriptor y.desc = some sig → argsL.length = sig.parameters.length)
    (hstack : g.stack = argsL.reverse ++ rest) (hW : 2 * g.monitorRoom + (rest.map fun v => v.category).sum ≤ W9) (hdg : decode c.code g.pc = .ok (.invokestatic index, 3))
    (hpre : ∀ vm₁, s.WarmedH vm₁ → Pre ⟨T.setVm vm₁, locs, cells, slots⟩ argsL.toArray) :
    (∃ (v : Option Value) (vm₁ : Vm) (B : Pt), s.WarmedH vm₁ ∧ Stand p l e R s m args below meth c B.U B.locs B.cells B.slots ∧ Post ⟨T.setVm vm₁, locs, cells, slots⟩ argsL.toArray v B ∧
      ∀ target, Steps p.tables e below (B.U.setTop { g with pc := g.pc + 3, stack := v.toList ++ rest }) target → Steps p.tables e below (T.setTop g) target) ∨
    (∃ (q : Addr) (vm₁ : Vm) (B : Pt), s.WarmedH vm₁ ∧ Stand p l e R s m args below meth c B.U B.locs B.cells B.slots ∧ PostX ⟨T.setVm vm₁, locs, cells, slots⟩ argsL.toArray q B ∧
      Steps p.tables e below (T.setTop g) ((B.U.setTop { g with stack := rest }).pushFrame (.throwing q))) := by
  obtain ⟨mk, hnamed⟩ := Cond.code_named hcode
  obtain ⟨methM, cM, hmethM, -, -, -, -, -, -, hsigM⟩ := Cond.code_spec hnamed hcode
  have hstatic : methM.isStatic = true := Cond.static_spec hnamed hmethM hstat
  obtain ⟨kP, hkP, -⟩ := className_of_methodNamed hnamed
  have hinitP : kP.init = .initialized := Cond.initialized_spec (findClass_of_methodNamed hnamed) hkP hinit
  obtain ⟨vm₁, X₁, hstep₁⟩ := X.invokestatic hexec hown hlink hnamed hmethM hstatic hkP hinitP hy (g := g) hg (argsL := argsL) (rest := rest) (hlen _ hsigM) hstack hdg
  rcases hK m meth c ⟨T.setVm vm₁, locs, cells, slots⟩ { g with stack := rest } (.invokestatic index) mk argsL.toArray X₁ hg hsize hdg hW (X₁.named hnamed) (hpre vm₁ X₁.warmed) with ⟨v, B, X', hpost, hsteps⟩ | ⟨q, B, X', hpost, hsteps⟩
  · exact Or.inl ⟨v, vm₁, B, X₁.warmed, X', hpost, fun target h => hstep₁ _ fun acts => by rw [doInvoke_state]; exact hsteps.trans h⟩
  · exact Or.inr ⟨q, vm₁, B, X₁.warmed, X', hpost, hstep₁ _ fun acts => by rw [doInvoke_state]; exact hsteps⟩
end Calls
theorem vx_cls {s : State} {T : State} {vm₁ : Vm} {E : String} {k : ClassId} (hW : s.WarmedH vm₁) (h : (T.setVm vm₁).vm.findClass E = some k) : s.vm.findClass E = some k := by
  have h1 : vm₁.findClass E = some k := h
  rw [hW.alike.findClass] at h1
  exact h1
/-- the method's frame g, with q thrown over it -/
def vx_W (p : Program) (l : Launch) (e : Env) (R : Room) (s : State) (m : MethodId) (args : Array Value) (below : List Frame) (meth : Method) (c : Code) (H : Heap) (locs : List Loc) (cells slots : Nat) (Q : State → Prop) (g : JFrame) (q : Addr) : Prop :=
  ∀ T : State, T.heap = H → Stand p l e R s m args below meth c T locs cells slots → ∃ t, Steps p.tables e below ((T.setTop g).pushFrame (.throwing q)) t ∧ Q t
def vx_Run (p : Program) (l : Launch) (e : Env) (R : Room) (s : State) (m : MethodId) (args : Array Value) (below : List Frame) (meth : Method) (c : Code) (H : Heap) (locs : List Loc) (cells slots mc ms : Nat) (g : JFrame) (rest : List Value) (Qa : State → Outcome → State → Prop) (XC : String → State → State → Prop) (free : Addr → Prop) : Prop :=
  ∀ T : State, T.heap = H → Stand p l e R s m args below meth c T locs cells slots →
    (∃ (v : Option Value) (st₀ t T' : State) (L : List Loc), st₀.heap = H ∧ Stand p l e R s m args below meth c T' (locs ++ L) (cells + mc) (slots + ms) ∧ (∀ q ∈ L, free q.base) ∧ T'.heap = t.heap ∧ T'.vm = t.vm ∧ Qa st₀ (.returned v) t ∧
      Goes p e below T g T' { g with pc := g.pc + 3, stack := v.toList ++ rest }) ∨
    (∃ (q : Addr) (st₀ t T' : State) (L : List Loc) (E : String) (ce : Cell), st₀.heap = H ∧ Stand p l e R s m args below meth c T' (locs ++ L) (cells + mc) (slots + ms) ∧ (∀ z ∈ L, free z.base) ∧ T'.heap = t.heap ∧ T'.vm = t.vm ∧ XC E st₀ t ∧ t.heap[q]? = some ce ∧ ce.vm = .none ∧ s.vm.findClass E = some ce.cls ∧
      Steps p.tables e below (T.setTop g) ((T'.setTop { g with stack := rest }).pushFrame (.throwing q)))
def vx_X {S : Type} (px : S → Prop) (B : String → S → State → Prop) (A : Nat → Prop) : String → State → State → Prop := fun E st t => ∃ u : S, px u ∧ B E u t ∧ va_F A st t
section Runs
variable {p : Program} {l : Launch} {e : Env} {R : Room} {s : State} {m : MethodId} {args : Array Value} {below : List Frame} {meth : Method} {c : Code} {H : Heap} {locs : List Loc} {cells slots : Nat}
variable {y : MethodName} {bytes cc : ByteArray} {maxL nL mc ms n index : Nat} {ret : Option FieldType} {ws : List Cond} {rm : Room} {Pc : Array Value → State → Prop} {Qc : Array Value → State → Outcome → State → Prop} {XC : String → State → State → Prop} {free : Addr → Prop} {Ts : List Cond} {own C : String} {b : Addr} {As rest : List Value} {g : JFrame}
theorem vx_callBack (cb : CallB R s args own index y bytes maxL ret ws rm mc ms n) (hM : vx_Met l y ws rm Pc Qc XC mc ms free) (hbl : FrameBlind Pc) : vx_Back l R p e below s args y 3 8 (PreOf R mc ms Pc) (PostOf Qc mc ms free) (vx_Post XC mc ms free) := by
  obtain ⟨hrc, hrs, hfr, hlo, hws, hcw, -, hini, -⟩ := cb
  exact vx_back (bytes := bytes) (maxL := maxL) (ret := ret) hM hbl hrc hrs hfr hlo hws hcw (fun a' U hW => word_at hW (Or.inl (by first | rfl | simp [Cond.onTables, Cond.keeps, Cond.steady])) hini)
theorem vx_runV (S : CallFix p m c cc nL s args Ts own) (hM : vx_Met l y ws rm Pc Qc XC mc ms free) (cw : CallW R s args own C index y bytes maxL ret ws rm mc ms n) (hp : PreV s H C b Pc As)
    (hg : g.method = m) (hn : As.length = n) (hsize : g.locals.size = nL) (hstack : g.stack = As.reverse ++ .ref b :: rest) (hW : 2 * g.monitorRoom + (rest.map fun v => v.category).sum ≤ 8) (hdg : decode cc g.pc = .ok (.invokevirtual index, 3)) (hf : cells + mc ≤ R.cells ∧ slots + ms ≤ R.slots) :
    vx_Run p l e R s m args below meth c H locs cells slots mc ms g rest (Qc (Value.ref b :: As).toArray) XC free := by
  have hK : vx_Back l R p e below s args y 3 8 (PreOf R mc ms Pc) (PostOf Qc mc ms free) (vx_Post XC mc ms free) := vx_callBack cw.1 hM hp.1
  obtain ⟨⟨-, -, -, -, -, -, hcode, -, hy, hlen, hl⟩, hin, hse⟩ := cw
  obtain ⟨hx, hb, hml, ho, -⟩ := S
  obtain ⟨-, ⟨cellB, hcB, hoB, hclB⟩, hPc⟩ := hp
  intro T hT X
  rcases vx_callV X hx (C := C) (bytes := bytes) (maxL := maxL) (ret := ret) ho hl hin hse hcode hy hK (by rw [hT]; exact hcB) hoB hclB hg (hsize.trans hml.symm) (argsL := As) (rest := rest) (fun sig h => hn.trans (hlen sig h)) hstack hW (by rw [hb]; exact hdg)
    (fun vm₁ hW₁ => ⟨hf.1, hf.2, hPc (T.setVm vm₁) hT hW₁⟩) with ⟨v, vm₁, ⟨U', l2, c2, s2⟩, hW₁, X', ⟨g', mk, t, L, e1, e2, hq, h1, hL, h2, h3⟩, st⟩ | ⟨q, vm₁, ⟨U', l2, c2, s2⟩, hW₁, X', ⟨g', mk, t, L, E, ce, e1, e2, hq, hce, hcv, hcl, h1, hL, h2, h3⟩, st⟩
  · dsimp only [Pt.U, Pt.locs, Pt.cells, Pt.slots] at X' e1 e2 h1 h2 h3 st
    subst h1; subst h2; subst h3
    exact Or.inl ⟨v, (T.setVm vm₁).calling g' mk (Value.ref b :: As).toArray, t, U', L, hT, X', hL, e1, e2, hq, st⟩
  · dsimp only [Pt.U, Pt.locs, Pt.cells, Pt.slots] at X' e1 e2 h1 h2 h3 st hcl
    subst h1; subst h2; subst h3
    exact Or.inr ⟨q, (T.setVm vm₁).calling g' mk (Value.ref b :: As).toArray, t, U', L, E, ce, hT, X', hL, e1, e2, hq, hce, hcv, vx_cls hW₁ hcl, st⟩
theorem vx_runS (S : CallFix p m c cc nL s args Ts own) (hM : vx_Met l y ws rm Pc Qc XC mc ms free) (cw : CallB R s args own index y bytes maxL ret ws rm mc ms n ∧ (Cond.static y).before args s = true) (hp : PreS s H Pc As)
    (hg : g.method = m) (hn : As.length = n) (hsize : g.locals.size = nL) (hstack : g.stack = As.reverse ++ rest) (hW : 2 * g.monitorRoom + (rest.map fun v => v.category).sum ≤ 8) (hdg : decode cc g.pc = .ok (.invokestatic index, 3)) (hf : cells + mc ≤ R.cells ∧ slots + ms ≤ R.slots) :
    vx_Run p l e R s m args below meth c H locs cells slots mc ms g rest (Qc As.toArray) XC free := by
  have hK : vx_Back l R p e below s args y 3 8 (PreOf R mc ms Pc) (PostOf Qc mc ms free) (vx_Post XC mc ms free) := vx_callBack cw.1 hM hp.1
  obtain ⟨⟨-, -, -, -, -, -, hcode, hini, hy, hlen, hl⟩, hstt⟩ := cw
  obtain ⟨hx, hb, hml, ho, -⟩ := S
  intro T hT X
  rcases vx_callS X hx (bytes := bytes) (maxL := maxL) (ret := ret) ho hl hstt hini hcode hy hK hg (hsize.trans hml.symm) (argsL := As) (rest := rest) (fun sig h => hn.trans (hlen sig h)) hstack hW (by rw [hb]; exact hdg)
    (fun vm₁ hW₁ => ⟨hf.1, hf.2, hp.2 (T.setVm vm₁) hT hW₁⟩) with ⟨v, vm₁, ⟨U', l2, c2, s2⟩, hW₁, X', ⟨g', mk, t, L, e1, e2, hq, h1, hL, h2, h3⟩, st⟩ | ⟨q, vm₁, ⟨U', l2, c2, s2⟩, hW₁, X', ⟨g', mk, t, L, E, ce, e1, e2, hq, hce, hcv, hcl, h1, hL, h2, h3⟩, st⟩
  · dsimp only [Pt.U, Pt.locs, Pt.cells, Pt.slots] at X' e1 e2 h1 h2 h3 st
    subst h1; subst h2; subst h3
    exact Or.inl ⟨v, (T.setVm vm₁).calling g' mk As.toArray, t, U', L, hT, X', hL, e1, e2, hq, st⟩
  · dsimp only [Pt.U, Pt.locs, Pt.cells, Pt.slots] at X' e1 e2 h1 h2 h3 st hcl
    subst h1; subst h2; subst h3
    exact Or.inr ⟨q, (T.setVm vm₁).calling g' mk As.toArray, t, U', L, E, ce, hT, X', hL, e1, e2, hq, hce, hcv, vx_cls hW₁ hcl, st⟩
end Runs
section Rows
variable {p : Program} {l : Launch} {e : Env} {R : Room} {s : State} {m : MethodId} {args : Array Value} {below : List Frame} {meth : Method} {c : Code} {H : Heap} {locs : List Loc} {cells slots : Nat} {Q : State → Prop}
variable {mc ms : Nat} {free : Addr → Prop} {A0 A1 : Nat → Prop} {H0 : Heap} {a : Array Value} {pc : Nat} {ls : Array Slot} {st0 rest : List Value}
theorem vx_keep {st₀ t T' : State} {L : List Loc} (h0 : st₀.heap = H) (e1 : T'.heap = t.heap) (hS : va_S A0 H0 H locs) (hA : ∀ q, q < H.size → A1 q → A0 q) (hf : ∀ q, free q → A0 q) (hL : ∀ q ∈ L, free q.base) (hF : va_F A1 st₀ t) :
    H.size ≤ T'.heap.size ∧ (∀ q : Nat, q < H.size → ¬ A1 q → T'.heap[q]? = H[q]?) ∧ va_S A0 H0 T'.heap (locs ++ L) := by
  obtain ⟨hz, hk⟩ := hF
  rw [h0] at hz hk
  exact ⟨by rw [e1]; exact hz, fun q h1 h2 => by rw [e1]; exact hk q h1 h2,
    ⟨Nat.le_trans hS.1 (by rw [e1]; exact hz), fun q h1 h2 => by rw [e1, hk q (Nat.lt_of_lt_of_le h1 hS.1) (fun z => h2 (hA q (Nat.lt_of_lt_of_le h1 hS.1) z))]; exact hS.2.1 q h1 h2, fun q hq => by
      rcases List.mem_append.mp hq with h | h
      · exact hS.2.2 q h
      · exact hf _ (hL q h)⟩⟩
theorem vx_calli {S SX : Type} {post : Int32 → S → Prop} {px : SX → Prop} {B : S → State → Prop} {BX : String → SX → State → Prop} {AX : Nat → Prop} (hr : vx_Run p l e R s m args below meth c H locs cells slots mc ms (F0 m pc ls st0) rest (va_Qi post B A1 a) (vx_X px BX AX) free) (hS : va_S A0 H0 H locs) (hA : ∀ q, q < H.size → A1 q → A0 q) (hf : ∀ q, free q → A0 q) (hAX : ∀ q, q < H.size → AX q → A0 q)
    (kx : ∀ (E : String) (ce : Cell) (q9 : Addr) (u : SX) (t : State) (H1 : Heap) (locs1 : List Loc), t.heap = H1 → s.vm.Alike t.vm → px u → BX E u t → H.size ≤ H1.size → (∀ q : Nat, q < H.size → ¬ AX q → H1[q]? = H[q]?) → va_S A0 H0 H1 locs1 → H1[q9]? = some ce → ce.vm = .none → s.vm.findClass E = some ce.cls → vx_W p l e R s m args below meth c H1 locs1 (cells + mc) (slots + ms) Q (F0 m pc ls rest) q9)
    (kk : ∀ (r : Int32) (u : S) (t : State) (H1 : Heap) (locs1 : List Loc), t.heap = H1 → s.vm.Alike t.vm → post r u → B u t → H.size ≤ H1.size → (∀ q : Nat, q < H.size → ¬ A1 q → H1[q]? = H[q]?) → va_S A0 H0 H1 locs1 → W p l e R s m args below meth c H1 locs1 (cells + mc) (slots + ms) Q (F0 m (pc + 3) ls (.int r :: rest))) : W p l e R s m args below meth c H locs cells slots Q (F0 m pc ls st0) := by
  intro T hT X
  rcases hr T hT X with ⟨v, st₀, t, T', L, h0, X', hL, e1, e2, ⟨⟨r, u, hv, hp, hb⟩, hF⟩, st⟩ | ⟨q, st₀, t, T', L, E, ce, h0, X', hL, e1, e2, ⟨u, hp, hb, hF⟩, hce, hcv, hcl, st⟩
  · cases hv
    obtain ⟨k1, k2, k3⟩ := vx_keep h0 e1 hS hA hf hL hF
    obtain ⟨t2, a1, b1⟩ := kk r u t T'.heap (locs ++ L) e1.symm (by rw [← e2]; exact X'.warmed.alike) hp hb k1 k2 k3 T' rfl X'
    exact ⟨t2, st t2 a1, b1⟩
  · obtain ⟨k1, k2, k3⟩ := vx_keep h0 e1 hS hAX hf hL hF
    obtain ⟨t2, a1, b1⟩ := kx E ce q u t T'.heap (locs ++ L) e1.symm (by rw [← e2]; exact X'.warmed.alike) hp hb k1 k2 k3 (by rw [e1]; exact hce) hcv hcl T' rfl X'
    exact ⟨t2, st.trans a1, b1⟩
theorem vx_calll {S SX : Type} {post : Int64 → S → Prop} {px : SX → Prop} {B : S → State → Prop} {BX : String → SX → State → Prop} {AX : Nat → Prop} (hr : vx_Run p l e R s m args below meth c H locs cells slots mc ms (F0 m pc ls st0) rest (va_Ql post B A1 a) (vx_X px BX AX) free) (hS : va_S A0 H0 H locs) (hA : ∀ q, q < H.size → A1 q → A0 q) (hf : ∀ q, free q → A0 q) (hAX : ∀ q, q < H.size → AX q → A0 q)
    (kx : ∀ (E : String) (ce : Cell) (q9 : Addr) (u : SX) (t : State) (H1 : Heap) (locs1 : List Loc), t.heap = H1 → s.vm.Alike t.vm → px u → BX E u t → H.size ≤ H1.size → (∀ q : Nat, q < H.size → ¬ AX q → H1[q]? = H[q]?) → va_S A0 H0 H1 locs1 → H1[q9]? = some ce → ce.vm = .none → s.vm.findClass E = some ce.cls → vx_W p l e R s m args below meth c H1 locs1 (cells + mc) (slots + ms) Q (F0 m pc ls rest) q9)
    (kk : ∀ (r : Int64) (u : S) (t : State) (H1 : Heap) (locs1 : List Loc), t.heap = H1 → s.vm.Alike t.vm → post r u → B u t → H.size ≤ H1.size → (∀ q : Nat, q < H.size → ¬ A1 q → H1[q]? = H[q]?) → va_S A0 H0 H1 locs1 → W p l e R s m args below meth c H1 locs1 (cells + mc) (slots + ms) Q (F0 m (pc + 3) ls (.long r :: rest))) : W p l e R s m args below meth c H locs cells slots Q (F0 m pc ls st0) := by
  intro T hT X
  rcases hr T hT X with ⟨v, st₀, t, T', L, h0, X', hL, e1, e2, ⟨⟨r, u, hv, hp, hb⟩, hF⟩, st⟩ | ⟨q, st₀, t, T', L, E, ce, h0, X', hL, e1, e2, ⟨u, hp, hb, hF⟩, hce, hcv, hcl, st⟩
  · cases hv
    obtain ⟨k1, k2, k3⟩ := vx_keep h0 e1 hS hA hf hL hF
    obtain ⟨t2, a1, b1⟩ := kk r u t T'.heap (locs ++ L) e1.symm (by rw [← e2]; exact X'.warmed.alike) hp hb k1 k2 k3 T' rfl X'
    exact ⟨t2, st t2 a1, b1⟩
  · obtain ⟨k1, k2, k3⟩ := vx_keep h0 e1 hS hAX hf hL hF
    obtain ⟨t2, a1, b1⟩ := kx E ce q u t T'.heap (locs ++ L) e1.symm (by rw [← e2]; exact X'.warmed.alike) hp hb k1 k2 k3 (by rw [e1]; exact hce) hcv hcl T' rfl X'
    exact ⟨t2, st.trans a1, b1⟩
theorem vx_callf {S SX : Type} {post : UInt32 → S → Prop} {px : SX → Prop} {B : S → State → Prop} {BX : String → SX → State → Prop} {AX : Nat → Prop} (hr : vx_Run p l e R s m args below meth c H locs cells slots mc ms (F0 m pc ls st0) rest (va_Qf post B A1 a) (vx_X px BX AX) free) (hS : va_S A0 H0 H locs) (hA : ∀ q, q < H.size → A1 q → A0 q) (hf : ∀ q, free q → A0 q) (hAX : ∀ q, q < H.size → AX q → A0 q)
    (kx : ∀ (E : String) (ce : Cell) (q9 : Addr) (u : SX) (t : State) (H1 : Heap) (locs1 : List Loc), t.heap = H1 → s.vm.Alike t.vm → px u → BX E u t → H.size ≤ H1.size → (∀ q : Nat, q < H.size → ¬ AX q → H1[q]? = H[q]?) → va_S A0 H0 H1 locs1 → H1[q9]? = some ce → ce.vm = .none → s.vm.findClass E = some ce.cls → vx_W p l e R s m args below meth c H1 locs1 (cells + mc) (slots + ms) Q (F0 m pc ls rest) q9)
    (kk : ∀ (r : UInt32) (u : S) (t : State) (H1 : Heap) (locs1 : List Loc), t.heap = H1 → s.vm.Alike t.vm → post r u → B u t → H.size ≤ H1.size → (∀ q : Nat, q < H.size → ¬ A1 q → H1[q]? = H[q]?) → va_S A0 H0 H1 locs1 → W p l e R s m args below meth c H1 locs1 (cells + mc) (slots + ms) Q (F0 m (pc + 3) ls (.float r :: rest))) : W p l e R s m args below meth c H locs cells slots Q (F0 m pc ls st0) := by
  intro T hT X
  rcases hr T hT X with ⟨v, st₀, t, T', L, h0, X', hL, e1, e2, ⟨⟨r, u, hv, hp, hb⟩, hF⟩, st⟩ | ⟨q, st₀, t, T', L, E, ce, h0, X', hL, e1, e2, ⟨u, hp, hb, hF⟩, hce, hcv, hcl, st⟩
  · cases hv
    obtain ⟨k1, k2, k3⟩ := vx_keep h0 e1 hS hA hf hL hF
    obtain ⟨t2, a1, b1⟩ := kk r u t T'.heap (locs ++ L) e1.symm (by rw [← e2]; exact X'.warmed.alike) hp hb k1 k2 k3 T' rfl X'
    exact ⟨t2, st t2 a1, b1⟩
  · obtain ⟨k1, k2, k3⟩ := vx_keep h0 e1 hS hAX hf hL hF
    obtain ⟨t2, a1, b1⟩ := kx E ce q u t T'.heap (locs ++ L) e1.symm (by rw [← e2]; exact X'.warmed.alike) hp hb k1 k2 k3 (by rw [e1]; exact hce) hcv hcl T' rfl X'
    exact ⟨t2, st.trans a1, b1⟩
theorem vx_calld {S SX : Type} {post : UInt64 → S → Prop} {px : SX → Prop} {B : S → State → Prop} {BX : String → SX → State → Prop} {AX : Nat → Prop} (hr : vx_Run p l e R s m args below meth c H locs cells slots mc ms (F0 m pc ls st0) rest (va_Qd post B A1 a) (vx_X px BX AX) free) (hS : va_S A0 H0 H locs) (hA : ∀ q, q < H.size → A1 q → A0 q) (hf : ∀ q, free q → A0 q) (hAX : ∀ q, q < H.size → AX q → A0 q)
    (kx : ∀ (E : String) (ce : Cell) (q9 : Addr) (u : SX) (t : State) (H1 : Heap) (locs1 : List Loc), t.heap = H1 → s.vm.Alike t.vm → px u → BX E u t → H.size ≤ H1.size → (∀ q : Nat, q < H.size → ¬ AX q → H1[q]? = H[q]?) → va_S A0 H0 H1 locs1 → H1[q9]? = some ce → ce.vm = .none → s.vm.findClass E = some ce.cls → vx_W p l e R s m args below meth c H1 locs1 (cells + mc) (slots + ms) Q (F0 m pc ls rest) q9)
    (kk : ∀ (r : UInt64) (u : S) (t : State) (H1 : Heap) (locs1 : List Loc), t.heap = H1 → s.vm.Alike t.vm → post r u → B u t → H.size ≤ H1.size → (∀ q : Nat, q < H.size → ¬ A1 q → H1[q]? = H[q]?) → va_S A0 H0 H1 locs1 → W p l e R s m args below meth c H1 locs1 (cells + mc) (slots + ms) Q (F0 m (pc + 3) ls (.double r :: rest))) : W p l e R s m args below meth c H locs cells slots Q (F0 m pc ls st0) := by
  intro T hT X
  rcases hr T hT X with ⟨v, st₀, t, T', L, h0, X', hL, e1, e2, ⟨⟨r, u, hv, hp, hb⟩, hF⟩, st⟩ | ⟨q, st₀, t, T', L, E, ce, h0, X', hL, e1, e2, ⟨u, hp, hb, hF⟩, hce, hcv, hcl, st⟩
  · cases hv
    obtain ⟨k1, k2, k3⟩ := vx_keep h0 e1 hS hA hf hL hF
    obtain ⟨t2, a1, b1⟩ := kk r u t T'.heap (locs ++ L) e1.symm (by rw [← e2]; exact X'.warmed.alike) hp hb k1 k2 k3 T' rfl X'
    exact ⟨t2, st t2 a1, b1⟩
  · obtain ⟨k1, k2, k3⟩ := vx_keep h0 e1 hS hAX hf hL hF
    obtain ⟨t2, a1, b1⟩ := kx E ce q u t T'.heap (locs ++ L) e1.symm (by rw [← e2]; exact X'.warmed.alike) hp hb k1 k2 k3 (by rw [e1]; exact hce) hcv hcl T' rfl X'
    exact ⟨t2, st.trans a1, b1⟩
theorem vx_callv {S SX : Type} {post : S → Prop} {px : SX → Prop} {B : S → State → Prop} {BX : String → SX → State → Prop} {AX : Nat → Prop} (hr : vx_Run p l e R s m args below meth c H locs cells slots mc ms (F0 m pc ls st0) rest (va_Qv post B A1 a) (vx_X px BX AX) free) (hS : va_S A0 H0 H locs) (hA : ∀ q, q < H.size → A1 q → A0 q) (hf : ∀ q, free q → A0 q) (hAX : ∀ q, q < H.size → AX q → A0 q)
    (kx : ∀ (E : String) (ce : Cell) (q9 : Addr) (u : SX) (t : State) (H1 : Heap) (locs1 : List Loc), t.heap = H1 → s.vm.Alike t.vm → px u → BX E u t → H.size ≤ H1.size → (∀ q : Nat, q < H.size → ¬ AX q → H1[q]? = H[q]?) → va_S A0 H0 H1 locs1 → H1[q9]? = some ce → ce.vm = .none → s.vm.findClass E = some ce.cls → vx_W p l e R s m args below meth c H1 locs1 (cells + mc) (slots + ms) Q (F0 m pc ls rest) q9)
    (kk : ∀ (u : S) (t : State) (H1 : Heap) (locs1 : List Loc), t.heap = H1 → s.vm.Alike t.vm → post u → B u t → H.size ≤ H1.size → (∀ q : Nat, q < H.size → ¬ A1 q → H1[q]? = H[q]?) → va_S A0 H0 H1 locs1 → W p l e R s m args below meth c H1 locs1 (cells + mc) (slots + ms) Q (F0 m (pc + 3) ls (rest))) : W p l e R s m args below meth c H locs cells slots Q (F0 m pc ls st0) := by
  intro T hT X
  rcases hr T hT X with ⟨v, st₀, t, T', L, h0, X', hL, e1, e2, ⟨⟨u, hv, hp, hb⟩, hF⟩, st⟩ | ⟨q, st₀, t, T', L, E, ce, h0, X', hL, e1, e2, ⟨u, hp, hb, hF⟩, hce, hcv, hcl, st⟩
  · cases hv
    obtain ⟨k1, k2, k3⟩ := vx_keep h0 e1 hS hA hf hL hF
    obtain ⟨t2, a1, b1⟩ := kk u t T'.heap (locs ++ L) e1.symm (by rw [← e2]; exact X'.warmed.alike) hp hb k1 k2 k3 T' rfl X'
    exact ⟨t2, st t2 a1, b1⟩
  · obtain ⟨k1, k2, k3⟩ := vx_keep h0 e1 hS hAX hf hL hF
    obtain ⟨t2, a1, b1⟩ := kx E ce q u t T'.heap (locs ++ L) e1.symm (by rw [← e2]; exact X'.warmed.alike) hp hb k1 k2 k3 (by rw [e1]; exact hce) hcv hcl T' rfl X'
    exact ⟨t2, st.trans a1, b1⟩
/-- caught by the row x of this method's table; the rows ahead don't take it -/
theorem vx_catch {own name : String} {E : String} {ce : Cell} {q : Addr} (hown : s.vm.findClass own = some m.cls) (pre : List ExceptionTableEntry) (x : ExceptionTableEntry) (suf : List ExceptionTableEntry) (hsplit : c.exceptionTable.toList = pre ++ x :: suf)
    (hpass : ∀ z ∈ pre, covers z pc = false ∨ (z.catchType ≠ 0 ∧ ∃ nm : String, (Cond.classLink own z.catchType nm).before args s = true ∧ va_Nc E nm s)) (hx : covers x pc = true) (h0 : x.catchType ≠ 0)
    (hlink : (Cond.classLink own x.catchType name).before args s = true) (hcast : (Cond.castable E name).before args s = true) (hcell : H[q]? = some ce) (hv : ce.vm = .none) (hcl : s.vm.findClass E = some ce.cls)
    (kk : W p l e R s m args below meth c H locs cells slots Q (F0 m x.handlerPc ls [.ref q])) : vx_W p l e R s m args below meth c H locs cells slots Q (F0 m pc ls rest) q := by
  intro T hT X
  have hpl : e.platform.magicAccessors = ({} : Platform).magicAccessors := by rw [X.admits.platform]
  obtain ⟨c3, c4, hc3, hc4, hasg⟩ := Cond.castable_spec hcast
  cases Option.some.inj (hc3.symm.trans hcl)
  obtain ⟨c5, hc5, hcl5⟩ := Cond.classLink_spec hown hlink e.platform hpl
  cases Option.some.inj (hc4.symm.trans hc5)
  obtain ⟨vm', X', st⟩ := X.thenCaughtThrough q (g := F0 m pc ls rest) rfl (Steps.refl _) (by rw [hT]; exact hcell) (by rw [hv]; rfl) (by obtain ⟨k9, h9, -⟩ := Vm.findClass_spec hcl; exact ⟨k9, h9⟩) pre x suf hsplit
    (fun z hz => by
      rcases hpass z hz with h | ⟨hz0, nm, hl1, hn1⟩
      · exact Or.inl h
      · obtain ⟨c6, hc6, hcl6⟩ := Cond.classLink_spec hown hl1 e.platform hpl
        obtain ⟨a8, b8, h1, h2, h3⟩ := hn1
        cases Option.some.inj (h1.symm.trans hcl)
        cases Option.some.inj (h2.symm.trans hc6)
        exact Or.inr ⟨hz0, _, hcl6, h3⟩) hx (Or.inr ⟨h0, c4, hcl5, hasg⟩)
  obtain ⟨t, a1, b1⟩ := kk (T.setVm vm') hT X'
  exact ⟨t, st.trans a1, b1⟩
end Rows
section Ends
variable {p : Program} {l : Launch} {e : Env} {R : Room} {s : State} {m : MethodId} {args : Array Value} {below : List Frame} {meth : Method} {c : Code} {H : Heap} {locs : List Loc} {cells slots : Nat} {Q : State → Prop}
variable {mc ms : Nat} {free : Addr → Prop} {A0 A1 : Nat → Prop} {H0 : Heap} {a : Array Value} {ls : Array Slot} {st0 rest : List Value}
variable {Qc : Array Value → State → Outcome → State → Prop} {XC : String → State → State → Prop}
/-- what a body that may throw owes at its end -/
def vx_MQ (below : List Frame) (Qc : Array Value → State → Outcome → State → Prop) (XC : String → State → State → Prop) (a : Array Value) (s : State) (mc ms : Nat) (free : Addr → Prop) : State → Prop := fun t =>
  ∃ o, t.status = .running ∧ Ended t below o ∧ vx_Q Qc XC mc ms free a s o t
theorem vx_ret {g : JFrame} {mc ms : Nat} (k : W p l e R s m args below meth c H locs cells slots (MQ below Qc args s mc ms free) g) : W p l e R s m args below meth c H locs cells slots (vx_MQ below Qc XC args s mc ms free) g := by
  intro T hT X
  obtain ⟨t, a1, o, b1, b2, b3, b4⟩ := k T hT X
  exact ⟨t, a1, o, b1, b2, Or.inl ⟨b3, b4⟩⟩
/-- not caught here: it goes on to the caller -/
theorem vx_widen {g : JFrame} {q : Addr} {k n : Nat} (h1 : cells ≤ k) (h2 : slots ≤ n) (kk : vx_W p l e R s m args below meth c H locs k n Q g q) : vx_W p l e R s m args below meth c H locs cells slots Q g q := fun T hT X => kk T hT (stand_widen X h1 h2)
theorem vx_out {pc : Nat} {E : String} {ce : Cell} {q : Addr} {mc ms : Nat} (hout : ∀ x ∈ c.exceptionTable.toList, covers x pc = false) (hlocks : meth.locks = false) (hcell : H[q]? = some ce) (hv : ce.vm = .none) (hcl : s.vm.findClass E = some ce.cls)
    (hx : ∀ t : State, t.heap = H → s.vm.Alike t.vm → XC E s t) (hf : ∀ z ∈ locs, free z.base) (hc : cells ≤ mc) (hs : slots ≤ ms) :
    vx_W p l e R s m args below meth c H locs cells slots (vx_MQ below Qc XC args s mc ms free) (F0 m pc ls rest) q := by
  intro T hT X
  obtain ⟨st1, hrun, hend, hW, hsm⟩ := X.leaveThrown q (g := F0 m pc ls rest) rfl rfl rfl hout hlocks
  have hcell9 : (T.setFrames (.throwing q :: below)).heap[q]? = some ce := by
    show T.heap[q]? = some ce
    rw [hT]; exact hcell
  exact ⟨_, st1, .threw q, hrun, hend, Or.inr ⟨q, rfl, E, ce, locs, hx _ hT hW.alike, hcell9, hv, hcl, hW, hsm.mono hc hs, hf⟩⟩
theorem vx_frame {U : State} {k n : Nat} (h : s.sameButNew ({ U with vm := s.vm } : State) locs k n) : s.heap.size ≤ U.heap.size ∧ ∀ q : Nat, q < s.heap.size → (∀ z ∈ locs, z.base ≠ q) → U.heap[q]? = s.heap[q]? := by
  obtain ⟨-, h2, -, -, -, h6⟩ := h
  refine ⟨h2, fun q hq hz => ?_⟩
  obtain ⟨c9, e1, e2, e3, e4⟩ := h6 q _ (Array.getElem?_eq_getElem hq)
  have hs : c9.slots = (s.heap[q]).slots := Array.ext_getElem? fun i => e4 i fun hm => hz _ hm rfl
  have h9 : c9 = s.heap[q] := by
    rw [hs] at e2
    exact e2
  have e5 : U.heap[q]? = some c9 := e1
  rw [e5, h9, Array.getElem?_eq_getElem hq]
/-- the words of a throw but the four that speak of the heap -/
def vx_no (w : Cond) : Bool := decide (w ≠ .isRef (.static Bundle.tN "UNASSIGNED_STACK" Bundle.steD)) && decide (w ≠ .isRef (.static Bundle.tN "SUPPRESSED_SENTINEL" Bundle.listD)) && decide (w ≠ .laysStatic Bundle.tN "UNASSIGNED_STACK" Bundle.steD) && decide (w ≠ .laysStatic Bundle.tN "SUPPRESSED_SENTINEL" Bundle.listD)
def vx_at0 (own : String) (ic : Nat) (X : String) (names : List String) : List Cond := (Bundle.ownAtoms0 own ic X names).filter vx_no
def vx_atS (own : String) (ic : Nat) (X : String) (names : List String) : List Cond := (Bundle.ownAtoms own ic X names).filter vx_no
/-- a word that the tables alone decide, or a good one -/
def vx_ot (w : Cond) : Bool := w.onTables || goodWord w
theorem vx_ot_at {args a' : Array Value} {s U : State} {w : Cond} (hW : s.WarmedH U.vm) (hvm : s.vm = U.vm) (hg : vx_ot w = true) (h : w.before args s = true) : w.before a' U = true := by
  simp only [vx_ot, Bool.or_eq_true] at hg
  rcases hg with hg | hg
  · exact va_tabs hg hvm h
  · exact word_at hW (good_of_word hg) h
/-- a list's words: the good ones out of the method's own list, the others by premises of their own -/
theorem vx_hat {args : Array Value} {s : State} {L B : List Cond} (h1 : ∀ w ∈ L.filter goodWord, w.before args s = true) (h2 : ∀ w ∈ L.filter (fun w => !goodWord w), w ∈ B) (h3 : ∀ w ∈ B, w.before args s = true) : ∀ w ∈ L, w.before args s = true := by
  intro w hw
  by_cases g : goodWord w = true
  · exact h1 w (List.mem_filter.mpr ⟨hw, g⟩)
  · refine h3 w (h2 w (List.mem_filter.mpr ⟨hw, ?_⟩))
    show (!goodWord w) = true
    cases hgw : goodWord w
    · rfl
    · exact absurd hgw g
theorem vx_c {args : Array Value} {s : State} {w : Cond} {B : List Cond} (h : w.before args s = true) (t : ∀ w ∈ B, w.before args s = true) : ∀ w' ∈ w :: B, w'.before args s = true := fun w' h' => (List.mem_cons.mp h').elim (fun e => by rw [e]; exact h) (t w')
theorem vx_n {args : Array Value} {s : State} : ∀ w ∈ ([] : List Cond), w.before args s = true := fun _ h => nomatch h
theorem vx_own {args : Array Value} {s : State} {L : List Cond} (h1 : ∀ w ∈ L.filter vx_no, w.before args s = true)
    (hU : (Cond.isRef (.static Bundle.tN "UNASSIGNED_STACK" Bundle.steD)).before args s = true) (hN : (Cond.isRef (.static Bundle.tN "SUPPRESSED_SENTINEL" Bundle.listD)).before args s = true)
    (lU : (Cond.laysStatic Bundle.tN "UNASSIGNED_STACK" Bundle.steD).before args s = true) (lN : (Cond.laysStatic Bundle.tN "SUPPRESSED_SENTINEL" Bundle.listD).before args s = true) : ∀ w ∈ L, w.before args s = true := by
  intro w hw
  by_cases e1 : w = .isRef (.static Bundle.tN "UNASSIGNED_STACK" Bundle.steD)
  · rw [e1]; exact hU
  · by_cases e2 : w = .isRef (.static Bundle.tN "SUPPRESSED_SENTINEL" Bundle.listD)
    · rw [e2]; exact hN
    · by_cases e3 : w = .laysStatic Bundle.tN "UNASSIGNED_STACK" Bundle.steD
      · rw [e3]; exact lU
      · by_cases e4 : w = .laysStatic Bundle.tN "SUPPRESSED_SENTINEL" Bundle.listD
        · rw [e4]; exact lN
        · exact h1 w (List.mem_filter.mpr ⟨hw, by unfold vx_no; rw [decide_eq_true e1, decide_eq_true e2, decide_eq_true e3, decide_eq_true e4]; rfl⟩)
/-- where a static field lies, its class's statics cell in H -/
def vx_L (C n d : String) (A : Nat → Prop) (U : State) (H : Heap) : Prop := ∃ (c : ClassId) (k : Class) (i : Nat) (f : Field) (a : Nat) (cell : Cell), U.vm.findClass C = some c ∧ U.fieldFound? C n d = some (c, k, i, f) ∧ f.isStatic = true ∧ k.statics = some a ∧ H[a]? = some cell ∧ cell.vm.isStatics = true ∧ cell.cls = c ∧ f.slot < cell.slots.size ∧ k.staticTypes[f.slot]? = some f.type ∧ ¬ A a
theorem vx_L.moved {C n d : String} {A : Nat → Prop} {u U : State} {H : Heap} (hvm : u.vm.Alike U.vm) (h : vx_L C n d A u H) : vx_L C n d A U H := by
  obtain ⟨c, k, i, f, a, cell, h1, h2, h3, h4, h5, h6, h7, h8, h9, h10⟩ := h
  obtain ⟨k', hi', he⟩ := State.fieldFound?_setVm hvm h2
  exact ⟨c, k', i, f, a, cell, by rw [hvm.findClass]; exact h1, hi', h3, by rw [he]; exact h4, h5, h6, h7, h8, by rw [he]; exact h9, h10⟩
theorem vx_L.kept {C n d : String} {A : Nat → Prop} {U : State} {H H1 : Heap} (h : vx_L C n d A U H) (hq : ∀ a : Nat, a < H.size → ¬ A a → H1[a]? = H[a]?) : vx_L C n d A U H1 := by
  obtain ⟨c, k, i, f, a, cell, h1, h2, h3, h4, h5, h6, h7, h8, h9, h10⟩ := h
  exact ⟨c, k, i, f, a, cell, h1, h2, h3, h4, by rw [hq a (Array.getElem?_eq_some_iff.mp h5).1 h10]; exact h5, h6, h7, h8, h9, h10⟩
theorem vx_L.narrow {C n d : String} {A B : Nat → Prop} {U : State} {H : Heap} (h : vx_L C n d A U H) (hAB : ∀ q, B q → A q) : vx_L C n d B U H := by
  obtain ⟨c, k, i, f, a, cell, h1, h2, h3, h4, h5, h6, h7, h8, h9, h10⟩ := h
  exact ⟨c, k, i, f, a, cell, h1, h2, h3, h4, h5, h6, h7, h8, h9, fun z => h10 (hAB _ z)⟩
theorem vx_L.word {C n d : String} {A : Nat → Prop} {s : State} {args : Array Value} (h : vx_L C n d A s s.heap) : (Cond.laysStatic C n d).before args s = true := by
  obtain ⟨c, k, i, f, a, cell, h1, h2, h3, h4, h5, h6, h7, h8, h9, -⟩ := h
  show (Cond.laysStatic C n d).holds args s none s [] = true
  exact Cond.laysStatic_of h1 h2 h3 h4 h5 h6 h7 h8 h9
/-- .. and what it holds: null or some reference -/
def vx_Zq (C n d : String) (A : Nat → Prop) (U : State) (H : Heap) : Prop := va_Zq C n d A U H ∧ vx_L C n d A U H
theorem vx_Zq.moved {C n d : String} {A : Nat → Prop} {u U : State} {H : Heap} (hvm : u.vm.Alike U.vm) (h : vx_Zq C n d A u H) : vx_Zq C n d A U H := ⟨va_Zq.moved hvm h.1, vx_L.moved hvm h.2⟩
theorem vx_Zq.kept {C n d : String} {A : Nat → Prop} {U : State} {H H1 : Heap} (h : vx_Zq C n d A U H) (hq : ∀ a : Nat, a < H.size → ¬ A a → H1[a]? = H[a]?) : vx_Zq C n d A U H1 := ⟨va_Zq.kept h.1 hq, vx_L.kept h.2 hq⟩
theorem vx_Zq.narrow {C n d : String} {A B : Nat → Prop} {U : State} {H : Heap} (h : vx_Zq C n d A U H) (hAB : ∀ q, B q → A q) : vx_Zq C n d B U H := ⟨va_Zq.narrow h.1 hAB, vx_L.narrow h.2 hAB⟩
theorem vx_Zqof {args : Array Value} {s : State} {C n d : String} {A : Nat → Prop} (hl : (Cond.laysStatic C n d).before args s = true) (hini : (Cond.initialized C).before args s = true) (h : (Cond.isRef (.static C n d)).before args s = true) (hA : ∀ a : Nat, a < s.heap.size → ¬ A a) : vx_Zq C n d A s s.heap := by
  refine ⟨va_Zqof hl hini h hA, ?_⟩
  obtain ⟨c, k, i, f, a, cell, h1, h2, h3, h4, h5, h6, h7, h8, h9⟩ := Cond.laysStatic_spec hl
  exact ⟨c, k, i, f, a, cell, h1, h2, h3, h4, h5, h6, h7, h8, h9, hA a (Array.getElem?_eq_some_iff.mp h5).1⟩
theorem vx_isRef {C n d : String} {v : Value} {A : Nat → Prop} {s : State} {args : Array Value} (h : va_Z C n d v A s s.heap) (hv : v.isRef = true) : (Cond.isRef (.static C n d)).before args s = true := by
  obtain ⟨cf, kf, fi, f, a, cell, h1, h2, h3, h4, h5, h6, h7, -⟩ := h
  have he : (Term.static C n d).eval args s none [] s = some v := by
    simp [Term.eval, State.fieldNamed?, h1, h2, h4, h5, h6, h7]
  simp only [Cond.before, Cond.holds, Cond.value, he]
  cases v <;> simp_all [Value.isRef]
theorem vx_isRefq {C n d : String} {A : Nat → Prop} {s : State} {args : Array Value} (h : va_Zq C n d A s s.heap) : (Cond.isRef (.static C n d)).before args s = true := by
  rcases h with h | ⟨t, h⟩
  · exact vx_isRef h rfl
  · exact vx_isRef h rfl
/-- the same frame, seen from here: as if the method were called anew in this heap -/
theorem vx_rebase {T : State} (X : Stand p l e R s m args below meth c T locs cells slots) {R' : Room} (hf : R'.frames ≤ R.frames) (hl : R'.locals ≤ R.locals) (hc : cells + R'.cells ≤ R.cells) (hs : slots + R'.slots ≤ R.slots) :
    Stand p l e R' ((T.setVm s.vm).setFrames (.invoking m args :: below)) m args below meth c T [] 0 0 := by
  have htop : (T.setVm s.vm).topJava?.isSome := X.here.top
  have hF : ((T.setVm s.vm).setFrames (.invoking m args :: below)).frames = .invoking m args :: below := State.frames_setFrames _ (State.cur_lt_of_top htop)
  obtain ⟨g₀, hg0⟩ := Option.isSome_iff_exists.mp htop
  obtain ⟨r, hr⟩ := State.topJava?_eq_some.mp hg0
  have hl9 : e.platform.stackLimits (T.setVm s.vm).me = e.platform.stackLimits s.me := X.limits
  have hb9 : (T.setVm s.vm).me.stackBytes = s.me.stackBytes := X.bytes
  refine ⟨X.admits, X.cas, X.clock, hF, ?_, X.hears, X.method, X.code, X.here, X.tail, X.warmed, ?_, ?_, ?_⟩
  · have h := X.room
    have hU : ((T.setVm s.vm).setFrames (.invoking m args :: below)).localsInUse = s.localsInUse := by
      rw [State.localsInUse_invoking hF (meth := meth) (c := c) X.method X.code, State.localsInUse_invoking X.frames X.method X.code]
    simp only [State.hasRoom, Bool.and_eq_true, decide_eq_true_eq] at h ⊢
    obtain ⟨⟨⟨⟨h1, h2, h3, h4, h5, h6⟩, h7⟩, h8⟩, h9⟩ := h
    rw [X.frames, List.length_cons] at h2 h3
    have q1 := X.heapSize
    have q2 := X.used
    simp only [hF, hU, List.length_cons, State.stackLimits_setFrames, State.stackBytes_setFrames, hl9, hb9]
    refine ⟨⟨⟨⟨by omega, by omega, by omega, by omega, by omega, h6⟩, ?_⟩, ?_⟩, X.book⟩
    · show T.heap.size + R'.cells ≤ e.platform.maxCells
      omega
    · show T.slotsUsed + R'.slots ≤ e.platform.maxSlots
      omega
  · rw [State.stackLimits_setFrames]; rfl
  · rw [State.stackBytes_setFrames]; rfl
  · refine ⟨?_, Nat.le_refl _, Nat.le_refl _, ?_, ?_, fun a c9 h9 => ⟨c9, h9, rfl, rfl, fun _ _ => rfl⟩⟩
    · obtain ⟨t, ht, -⟩ := State.frames_cons hr
      show T.setVm s.vm = { ((T.setVm s.vm).setFrames (.invoking m args :: below)).setFrames (T.setVm s.vm).frames with heap := T.heap, slotsUsed := T.slotsUsed }
      rw [State.setFrames_setFrames, State.setFrames_self ht]
      rfl
    · show T.slotsUsed = T.slotsUsed + ((T.heap.toList.drop T.heap.size).map (·.slots.size)).sum
      rw [List.drop_eq_nil_of_le (Nat.le_of_eq Array.length_toList)]
      rfl
    · show ((T.heap.toList.drop T.heap.size).map (·.slots.size)).sum ≤ 0
      rw [List.drop_eq_nil_of_le (Nat.le_of_eq Array.length_toList)]
      exact Nat.le_refl _
/-- 'throw new E()': new; dup; invokespecial; athrow -/
theorem vx_throw0 {cc : ByteArray} {pc : Nat} (hexec : p.tables.exec = Jvm.exec) (hb : c.code = cc) (hl : l.stackTraces = false) {own cls : String} {names : List String} {ik ic mc ms : Nat} {A : Nat → Prop}
    (hown : s.vm.findClass own = some m.cls) (hcls : Bundle.fit cls = true) (hnames : ∀ n ∈ names, Bundle.fit n = true)
    (hk : (Cond.classLink own ik cls).before args s = true) (hini : (Cond.initialized cls).before args s = true) (hat : ∀ w ∈ vx_at0 own ic cls names, w.before args s = true)
    (hgood : ∀ w ∈ Cond.classLink own ik cls :: Cond.initialized cls :: vx_at0 own ic cls names, vx_ot w = true)
    (hU : vx_Zq Bundle.tN "UNASSIGNED_STACK" Bundle.steD A s s.heap) (hN : vx_Zq Bundle.tN "SUPPRESSED_SENTINEL" Bundle.listD A s s.heap) (hS : va_S A s.heap H locs) (hsize : ls.size = c.maxLocals)
    (d0 : decode cc pc = .ok (.new ik, 3)) (d3 : decode cc (pc + 3) = .ok (.dup, 1)) (d4 : decode cc (pc + 4) = .ok (.invokespecial ic, 3)) (d7 : decode cc (pc + 7) = .ok (.athrow, 1))
    (hout : ∀ x ∈ c.exceptionTable.toList, covers x (pc + 7) = false)
    (hRframes : names.length + 3 < R.frames) (hRlocals : (rest.map fun v => v.category).sum + (13 * (names.length + 1) + 42) ≤ R.locals) (hRcells : cells + 1 ≤ R.cells) (hRslots : slots + 6 ≤ R.slots) (hlocks : meth.locks = false)
    (hx : ∀ t : State, s.vm.Alike t.vm → H.size ≤ t.heap.size → (∀ q : Nat, q < H.size → t.heap[q]? = H[q]?) → XC cls s t)
    (hf : ∀ z ∈ locs, free z.base) (hc : cells + 1 ≤ mc) (hs : slots + 6 ≤ ms) :
    W p l e R s m args below meth c H locs cells slots (vx_MQ below Qc XC args s mc ms free) (F0 m pc ls rest) := by
  intro T hT X
  have htr : e.platform.stackTraces = false := (show e.platform.stackTraces = l.stackTraces by rw [X.admits.platform]).trans hl
  have Y := vx_rebase X (R' := { frames := R.frames, locals := R.locals, cells := 1, slots := 6 }) (Nat.le_refl _) (Nat.le_refl _) hRcells hRslots
  obtain ⟨s', hA⟩ : ∃ z, z = (T.setVm s.vm).setFrames (.invoking m args :: below) := ⟨_, rfl⟩
  rw [← hA] at Y
  have hvm : s'.vm = s.vm := by rw [hA]; rfl
  have hhp : s'.heap = H := by rw [hA]; exact hT
  have hW0 : s.WarmedH s'.vm := by rw [hvm]; exact State.WarmedH.refl s
  have hat' : ∀ w ∈ vx_at0 own ic cls names, w.before args s' = true := fun w hw => vx_ot_at hW0 hvm.symm (hgood w (List.mem_cons_of_mem _ (List.mem_cons_of_mem _ hw))) (hat w hw)
  have hk' : (Cond.classLink own ik cls).before args s' = true := vx_ot_at hW0 hvm.symm (hgood _ List.mem_cons_self) hk
  have hini' : (Cond.initialized cls).before args s' = true := vx_ot_at hW0 hvm.symm (hgood _ (List.mem_cons_of_mem _ List.mem_cons_self)) hini
  have hU' : vx_Zq Bundle.tN "UNASSIGNED_STACK" Bundle.steD A s' s'.heap := by rw [hhp]; exact vx_Zq.moved hW0.alike (hU.kept hS.2.1)
  have hN' : vx_Zq Bundle.tN "SUPPRESSED_SENTINEL" Bundle.listD A s' s'.heap := by rw [hhp]; exact vx_Zq.moved hW0.alike (hN.kept hS.2.1)
  have h : ∀ w ∈ Bundle.ownAtoms0 own ic cls names, w.before args s' = true := vx_own hat' (vx_isRefq hU'.1) (vx_isRefq hN'.1) hU'.2.word hN'.2.word
  have hown' : s'.vm.findClass own = some m.cls := by rw [hvm]; exact hown
  have hins : (Cond.instantiable cls 6).before args s' = true := h _ (by simp [Bundle.ownAtoms0])
  obtain ⟨vm₁, cX, kX, hfX, hkX, -, -, X₁, st1⟩ := Y.newCold hexec (own := own) (C := cls) (index := ik) (n := 6) hown' hk' hins hini'
    (g := F0 m pc ls rest) rfl (by rw [hb]; exact d0) (Nat.le_refl _) (Nat.le_refl _)
  generalize hT1 : (T.setVm vm₁).pushCell { cls := cX, slots := kX.instanceTypes.map defaultValue, vm := .none } = T1 at X₁ st1
  have hcat : (Value.ref T.heap.size).category = 1 := rfl
  have hcellA : T1.heap[T.heap.size]? = some (freshCell cX kX) := by rw [← hT1]; exact State.heap_pushCell_size _ _
  have d3' : decode c.code (pc + 3) = .ok (.dup, 1) := by rw [hb]; exact d3
  obtain ⟨U, hsteps, hrun, hend, hW, hsame, ce, hce, hO⟩ := X₁.ctorThrow0 hexec htr (own := own) (cls := cls) (names := names) (ic := ic) hown' hcls hnames h (fun x hx => nomatch hx) hfX hkX hcellA (by rw [hhp, hT]; exact Nat.le_refl _)
    (g := { method := m, pc := pc + 4, locals := ls, stack := .ref T.heap.size :: .ref T.heap.size :: rest, locked := none }) rfl hsize rfl rfl (rest := rest) rfl
    (by rw [hb]; exact d4) (by rw [hb]; exact d7) hout hRframes (by simp only [List.map_cons, List.sum_cons, hcat]; omega) hlocks
  obtain ⟨f1, f2⟩ := vx_frame hsame
  rw [hhp] at f1 f2
  have hWs : s.WarmedH U.vm := State.WarmedH.trans hW0 hW
  have hcl : s.vm.findClass cls = some ce.cls := by
    have h9 := hO.cls
    rw [hvm] at h9
    exact h9
  have hall : s.sameButNew ({ U with vm := s.vm } : State) locs mc ms := by
    subst hA
    obtain ⟨e1, e2⟩ := hsame
    rw [State.setFrames_setFrames] at e1
    have h2 : (T.setVm s.vm).sameButNew ({ U with vm := s.vm } : State) [] (0 + 1) (0 + 6) := ⟨e1, e2⟩
    have h3 := X.same.trans h2
    rw [List.append_nil] at h3
    exact h3.mono hc hs
  refine ⟨U, ?_, .threw T.heap.size, hrun, hend, Or.inr ⟨T.heap.size, rfl, cls, ce, locs, hx U hWs.alike f1 (fun q hq => f2 q hq (fun z hz => nomatch hz)), hce, hO.vm, hcl, hWs, hall, hf⟩⟩
  refine st1 _ ?_
  show Steps p.tables e below (T1.setTop { method := m, pc := pc + 3, locals := ls, stack := .ref T.heap.size :: rest, locked := none }) _
  jvm_step X₁.here [X₁.here.top, hexec, d3', Value.category]
  exact hsteps
/-- 'throw new E("text")': new; dup; ldc; invokespecial; athrow -/
theorem vx_throwS {cc : ByteArray} {pc : Nat} (hexec : p.tables.exec = Jvm.exec) (hb : c.code = cc) (hl : l.stackTraces = false) {own cls text : String} {names : List String} {ik is ic mc ms sa : Nat} {A : Nat → Prop}
    (hown : s.vm.findClass own = some m.cls) (hcls : Bundle.fit cls = true) (hnames : ∀ n ∈ names, Bundle.fit n = true)
    (hk : (Cond.classLink own ik cls).before args s = true) (hini : (Cond.initialized cls).before args s = true) (hstr : vk_R own is text sa s) (hat : ∀ w ∈ vx_atS own ic cls names, w.before args s = true)
    (hgood : ∀ w ∈ Cond.classLink own ik cls :: Cond.initialized cls :: vx_atS own ic cls names, vx_ot w = true)
    (hU : vx_Zq Bundle.tN "UNASSIGNED_STACK" Bundle.steD A s s.heap) (hN : vx_Zq Bundle.tN "SUPPRESSED_SENTINEL" Bundle.listD A s s.heap) (hS : va_S A s.heap H locs) (hsize : ls.size = c.maxLocals)
    (d0 : decode cc pc = .ok (.new ik, 3)) (d3 : decode cc (pc + 3) = .ok (.dup, 1)) (d4 : decode cc (pc + 4) = .ok (.ldc is, 2)) (d6 : decode cc (pc + 6) = .ok (.invokespecial ic, 3)) (d9 : decode cc (pc + 9) = .ok (.athrow, 1))
    (hout : ∀ x ∈ c.exceptionTable.toList, covers x (pc + 9) = false)
    (hRframes : names.length + 3 < R.frames) (hRlocals : (rest.map fun v => v.category).sum + (13 * (names.length + 1) + 43) ≤ R.locals) (hRcells : cells + 1 ≤ R.cells) (hRslots : slots + 6 ≤ R.slots) (hlocks : meth.locks = false)
    (hx : ∀ t : State, s.vm.Alike t.vm → H.size ≤ t.heap.size → (∀ q : Nat, q < H.size → t.heap[q]? = H[q]?) → XC cls s t)
    (hf : ∀ z ∈ locs, free z.base) (hc : cells + 1 ≤ mc) (hs : slots + 6 ≤ ms) :
    W p l e R s m args below meth c H locs cells slots (vx_MQ below Qc XC args s mc ms free) (F0 m pc ls rest) := by
  intro T hT X
  have htr : e.platform.stackTraces = false := (show e.platform.stackTraces = l.stackTraces by rw [X.admits.platform]).trans hl
  have Y := vx_rebase X (R' := { frames := R.frames, locals := R.locals, cells := 1, slots := 6 }) (Nat.le_refl _) (Nat.le_refl _) hRcells hRslots
  obtain ⟨s', hA⟩ : ∃ z, z = (T.setVm s.vm).setFrames (.invoking m args :: below) := ⟨_, rfl⟩
  rw [← hA] at Y
  have hvm : s'.vm = s.vm := by rw [hA]; rfl
  have hhp : s'.heap = H := by rw [hA]; exact hT
  have hW0 : s.WarmedH s'.vm := by rw [hvm]; exact State.WarmedH.refl s
  have hat' : ∀ w ∈ vx_atS own ic cls names, w.before args s' = true := fun w hw => vx_ot_at hW0 hvm.symm (hgood w (List.mem_cons_of_mem _ (List.mem_cons_of_mem _ hw))) (hat w hw)
  have hk' : (Cond.classLink own ik cls).before args s' = true := vx_ot_at hW0 hvm.symm (hgood _ List.mem_cons_self) hk
  have hini' : (Cond.initialized cls).before args s' = true := vx_ot_at hW0 hvm.symm (hgood _ (List.mem_cons_of_mem _ List.mem_cons_self)) hini
  have hU' : vx_Zq Bundle.tN "UNASSIGNED_STACK" Bundle.steD A s' s'.heap := by rw [hhp]; exact vx_Zq.moved hW0.alike (hU.kept hS.2.1)
  have hN' : vx_Zq Bundle.tN "SUPPRESSED_SENTINEL" Bundle.listD A s' s'.heap := by rw [hhp]; exact vx_Zq.moved hW0.alike (hN.kept hS.2.1)
  have h : ∀ w ∈ Bundle.ownAtoms own ic cls names, w.before args s' = true := vx_own hat' (vx_isRefq hU'.1) (vx_isRefq hN'.1) hU'.2.word hN'.2.word
  have hown' : s'.vm.findClass own = some m.cls := by rw [hvm]; exact hown
  have hins : (Cond.instantiable cls 6).before args s' = true := h _ (by simp [Bundle.ownAtoms])
  obtain ⟨vm₁, cX, kX, hfX, hkX, -, -, X₁, st1⟩ := Y.newCold hexec (own := own) (C := cls) (index := ik) (n := 6) hown' hk' hins hini'
    (g := F0 m pc ls rest) rfl (by rw [hb]; exact d0) (Nat.le_refl _) (Nat.le_refl _)
  generalize hT1 : (T.setVm vm₁).pushCell { cls := cX, slots := kX.instanceTypes.map defaultValue, vm := .none } = T1 at X₁ st1
  have hcat : (Value.ref T.heap.size).category = 1 := rfl
  have hcellA : T1.heap[T.heap.size]? = some (freshCell cX kX) := by rw [← hT1]; exact State.heap_pushCell_size _ _
  have d3' : decode c.code (pc + 3) = .ok (.dup, 1) := by rw [hb]; exact d3
  have d4' : decode c.code (pc + 4) = .ok (.ldc is, 2) := by rw [hb]; exact d4
  have hstr' : vk_R own is text sa s' := vk_R.warm hW0 hstr
  obtain ⟨U, hsteps, hrun, hend, hW, hsame, ce, hce, hO⟩ := X₁.ctorThrowS hexec htr (own := own) (cls := cls) (names := names) (ic := ic) hown' hcls hnames h (fun x hx => nomatch hx) hfX hkX hcellA (by rw [hhp, hT]; exact Nat.le_refl _) (msg := .ref sa) rfl
    (g := { method := m, pc := pc + 6, locals := ls, stack := .ref sa :: .ref T.heap.size :: .ref T.heap.size :: rest, locked := none }) rfl hsize rfl rfl (rest := rest) rfl
    (by rw [hb]; exact d6) (by rw [hb]; exact d9) hout hRframes (by simp only [List.map_cons, List.sum_cons, hcat]; omega) hlocks
  obtain ⟨f1, f2⟩ := vx_frame hsame
  rw [hhp] at f1 f2
  have hWs : s.WarmedH U.vm := State.WarmedH.trans hW0 hW
  have hcl : s.vm.findClass cls = some ce.cls := by
    have h9 := hO.cls
    rw [hvm] at h9
    exact h9
  have hall : s.sameButNew ({ U with vm := s.vm } : State) locs mc ms := by
    subst hA
    obtain ⟨e1, e2⟩ := hsame
    rw [State.setFrames_setFrames] at e1
    have h2 : (T.setVm s.vm).sameButNew ({ U with vm := s.vm } : State) [] (0 + 1) (0 + 6) := ⟨e1, e2⟩
    have h3 := X.same.trans h2
    rw [List.append_nil] at h3
    exact h3.mono hc hs
  refine ⟨U, ?_, .threw T.heap.size, hrun, hend, Or.inr ⟨T.heap.size, rfl, cls, ce, locs, hx U hWs.alike f1 (fun q hq => f2 q hq (fun z hz => nomatch hz)), hce, hO.vm, hcl, hWs, hall, hf⟩⟩
  refine st1 _ ?_
  show Steps p.tables e below (T1.setTop { method := m, pc := pc + 3, locals := ls, stack := .ref T.heap.size :: rest, locked := none }) _
  jvm_step X₁.here [X₁.here.top, hexec, d3', Value.category]
  exact X₁.ldcString hexec (own := own) (text := text) (index := is) (a := sa) hown' hstr'.1 hstr'.2
    (g := { method := m, pc := pc + 4, locals := ls, stack := .ref T.heap.size :: .ref T.heap.size :: rest, locked := none }) rfl d4' _ hsteps
/-- 'throw new E("text")', the text by a wide index -/
theorem vx_throwSW {cc : ByteArray} {pc : Nat} (hexec : p.tables.exec = Jvm.exec) (hb : c.code = cc) (hl : l.stackTraces = false) {own cls text : String} {names : List String} {ik is ic mc ms sa : Nat} {A : Nat → Prop}
    (hown : s.vm.findClass own = some m.cls) (hcls : Bundle.fit cls = true) (hnames : ∀ n ∈ names, Bundle.fit n = true)
    (hk : (Cond.classLink own ik cls).before args s = true) (hini : (Cond.initialized cls).before args s = true) (hstr : vk_R own is text sa s) (hat : ∀ w ∈ vx_atS own ic cls names, w.before args s = true)
    (hgood : ∀ w ∈ Cond.classLink own ik cls :: Cond.initialized cls :: vx_atS own ic cls names, vx_ot w = true)
    (hU : vx_Zq Bundle.tN "UNASSIGNED_STACK" Bundle.steD A s s.heap) (hN : vx_Zq Bundle.tN "SUPPRESSED_SENTINEL" Bundle.listD A s s.heap) (hS : va_S A s.heap H locs) (hsize : ls.size = c.maxLocals)
    (d0 : decode cc pc = .ok (.new ik, 3)) (d3 : decode cc (pc + 3) = .ok (.dup, 1)) (d4 : decode cc (pc + 4) = .ok (.ldc_w is, 3)) (d7 : decode cc (pc + 7) = .ok (.invokespecial ic, 3)) (d10 : decode cc (pc + 10) = .ok (.athrow, 1))
    (hout : ∀ x ∈ c.exceptionTable.toList, covers x (pc + 10) = false)
    (hRframes : names.length + 3 < R.frames) (hRlocals : (rest.map fun v => v.category).sum + (13 * (names.length + 1) + 43) ≤ R.locals) (hRcells : cells + 1 ≤ R.cells) (hRslots : slots + 6 ≤ R.slots) (hlocks : meth.locks = false)
    (hx : ∀ t : State, s.vm.Alike t.vm → H.size ≤ t.heap.size → (∀ q : Nat, q < H.size → t.heap[q]? = H[q]?) → XC cls s t)
    (hf : ∀ z ∈ locs, free z.base) (hc : cells + 1 ≤ mc) (hs : slots + 6 ≤ ms) :
    W p l e R s m args below meth c H locs cells slots (vx_MQ below Qc XC args s mc ms free) (F0 m pc ls rest) := by
  intro T hT X
  have htr : e.platform.stackTraces = false := (show e.platform.stackTraces = l.stackTraces by rw [X.admits.platform]).trans hl
  have Y := vx_rebase X (R' := { frames := R.frames, locals := R.locals, cells := 1, slots := 6 }) (Nat.le_refl _) (Nat.le_refl _) hRcells hRslots
  obtain ⟨s', hA⟩ : ∃ z, z = (T.setVm s.vm).setFrames (.invoking m args :: below) := ⟨_, rfl⟩
  rw [← hA] at Y
  have hvm : s'.vm = s.vm := by rw [hA]; rfl
  have hhp : s'.heap = H := by rw [hA]; exact hT
  have hW0 : s.WarmedH s'.vm := by rw [hvm]; exact State.WarmedH.refl s
  have hat' : ∀ w ∈ vx_atS own ic cls names, w.before args s' = true := fun w hw => vx_ot_at hW0 hvm.symm (hgood w (List.mem_cons_of_mem _ (List.mem_cons_of_mem _ hw))) (hat w hw)
  have hk' : (Cond.classLink own ik cls).before args s' = true := vx_ot_at hW0 hvm.symm (hgood _ List.mem_cons_self) hk
  have hini' : (Cond.initialized cls).before args s' = true := vx_ot_at hW0 hvm.symm (hgood _ (List.mem_cons_of_mem _ List.mem_cons_self)) hini
  have hU' : vx_Zq Bundle.tN "UNASSIGNED_STACK" Bundle.steD A s' s'.heap := by rw [hhp]; exact vx_Zq.moved hW0.alike (hU.kept hS.2.1)
  have hN' : vx_Zq Bundle.tN "SUPPRESSED_SENTINEL" Bundle.listD A s' s'.heap := by rw [hhp]; exact vx_Zq.moved hW0.alike (hN.kept hS.2.1)
  have h : ∀ w ∈ Bundle.ownAtoms own ic cls names, w.before args s' = true := vx_own hat' (vx_isRefq hU'.1) (vx_isRefq hN'.1) hU'.2.word hN'.2.word
  have hown' : s'.vm.findClass own = some m.cls := by rw [hvm]; exact hown
  have hins : (Cond.instantiable cls 6).before args s' = true := h _ (by simp [Bundle.ownAtoms])
  obtain ⟨vm₁, cX, kX, hfX, hkX, -, -, X₁, st1⟩ := Y.newCold hexec (own := own) (C := cls) (index := ik) (n := 6) hown' hk' hins hini'
    (g := F0 m pc ls rest) rfl (by rw [hb]; exact d0) (Nat.le_refl _) (Nat.le_refl _)
  generalize hT1 : (T.setVm vm₁).pushCell { cls := cX, slots := kX.instanceTypes.map defaultValue, vm := .none } = T1 at X₁ st1
  have hcat : (Value.ref T.heap.size).category = 1 := rfl
  have hcellA : T1.heap[T.heap.size]? = some (freshCell cX kX) := by rw [← hT1]; exact State.heap_pushCell_size _ _
  have d3' : decode c.code (pc + 3) = .ok (.dup, 1) := by rw [hb]; exact d3
  have d4' : decode c.code (pc + 4) = .ok (.ldc_w is, 3) := by rw [hb]; exact d4
  have hstr' : vk_R own is text sa s' := vk_R.warm hW0 hstr
  obtain ⟨U, hsteps, hrun, hend, hW, hsame, ce, hce, hO⟩ := X₁.ctorThrowS hexec htr (own := own) (cls := cls) (names := names) (ic := ic) hown' hcls hnames h (fun x hx => nomatch hx) hfX hkX hcellA (by rw [hhp, hT]; exact Nat.le_refl _) (msg := .ref sa) rfl
    (g := { method := m, pc := pc + 7, locals := ls, stack := .ref sa :: .ref T.heap.size :: .ref T.heap.size :: rest, locked := none }) rfl hsize rfl rfl (rest := rest) rfl
    (by rw [hb]; exact d7) (by rw [hb]; exact d10) hout hRframes (by simp only [List.map_cons, List.sum_cons, hcat]; omega) hlocks
  obtain ⟨f1, f2⟩ := vx_frame hsame
  rw [hhp] at f1 f2
  have hWs : s.WarmedH U.vm := State.WarmedH.trans hW0 hW
  have hcl : s.vm.findClass cls = some ce.cls := by
    have h9 := hO.cls
    rw [hvm] at h9
    exact h9
  have hall : s.sameButNew ({ U with vm := s.vm } : State) locs mc ms := by
    subst hA
    obtain ⟨e1, e2⟩ := hsame
    rw [State.setFrames_setFrames] at e1
    have h2 : (T.setVm s.vm).sameButNew ({ U with vm := s.vm } : State) [] (0 + 1) (0 + 6) := ⟨e1, e2⟩
    have h3 := X.same.trans h2
    rw [List.append_nil] at h3
    exact h3.mono hc hs
  refine ⟨U, ?_, .threw T.heap.size, hrun, hend, Or.inr ⟨T.heap.size, rfl, cls, ce, locs, hx U hWs.alike f1 (fun q hq => f2 q hq (fun z hz => nomatch hz)), hce, hO.vm, hcl, hWs, hall, hf⟩⟩
  refine st1 _ ?_
  show Steps p.tables e below (T1.setTop { method := m, pc := pc + 3, locals := ls, stack := .ref T.heap.size :: rest, locked := none }) _
  jvm_step X₁.here [X₁.here.top, hexec, d3', Value.category]
  exact X₁.ldcStringW hexec (own := own) (text := text) (index := is) (a := sa) hown' hstr'.1 hstr'.2
    (g := { method := m, pc := pc + 4, locals := ls, stack := .ref T.heap.size :: .ref T.heap.size :: rest, locked := none }) rfl d4' _ hsteps
end Ends
section Bodies
variable {l : Launch}
theorem vx_ofW {y : MethodName} {ws ws' : List Cond} {rm : Room} {Pc : Array Value → State → Prop} {Qc : Array Value → State → Outcome → State → Prop} {XC : String → State → State → Prop} {mc ms : Nat} {free : Addr → Prop} {cc : ByteArray} {maxL : Nat} {ret : Option FieldType}
    (hy : plainName y.cls = true) (hw : ws = Cond.code y cc maxL ret :: ws')
    (body : ∀ p e s m args below meth c s₁, BodyLoose p l y (headSpec ws rm) cc maxL ret e s m args below meth c s₁ → c.maxLocals = maxL → (∀ x ∈ c.exceptionTable.toList, False) → Pc args s →
      W p l e (headSpec ws rm).room s m args below meth c s.heap [] 0 0 (vx_MQ below Qc XC args s mc ms free) (entryFrame m args maxL)) : vx_Met l y ws rm Pc Qc XC mc ms free := by
  refine MetFree.of_bodyS (code := cc) (maxLocals := maxL) (ret := ret) hy ?_ ?_
  · intro args s m h hn
    obtain ⟨meth, c, h1, h2, h3, h4, h5, h6, -, -⟩ := Cond.code_spec hn (atoms_spec (ws := ws) h _ (by rw [hw]; exact List.mem_cons_self))
    exact ⟨meth, c, h1, h2, h3, h4, h5, h6⟩
  · intro p e s m args below meth c s₁ B hml hP _
    have hh0 : s₁.heap = s.heap := by rw [B.state]; rfl
    have ht : ∀ x ∈ c.exceptionTable.toList, False := by
      obtain ⟨meth9, c9, h1, h2, -, -, -, -, h7, -⟩ := Cond.code_spec B.named (atoms_spec (ws := ws) B.pre _ (by rw [hw]; exact List.mem_cons_self))
      cases Option.some.inj (h1.symm.trans B.method)
      cases Option.some.inj (h2.symm.trans (Stand.of_body B).code)
      intro x hx
      rw [Array.isEmpty_iff.mp h7] at hx
      cases hx
    obtain ⟨t, a1, o, b1, b2, b3⟩ := body p e s m args below meth c s₁ B hml ht hP s₁ hh0 (Stand.of_body B)
    exact ⟨t, o, a1, b1, b2, b3⟩
/-- the table of a body with handlers -/
theorem vx_table {p : Program} {x y : MethodName} {S : Spec} {cc bytes : ByteArray} {maxL maxL' : Nat} {ret ret' : Option FieldType} {e : Env} {s s₁ : State} {m : MethodId} {args : Array Value} {below : List Frame} {meth : Method} {c : Code} {hh : List (Nat × Nat × Nat × Nat)}
    (B : BodyLoose p l y S cc maxL ret e s m args below meth c s₁) (h : (Cond.codeWith y bytes maxL' ret' hh).before args s = true) : c.exceptionTable.toList = tableOf hh := by
  obtain ⟨m9, meth9, c9, hn9, h1, h2, -, -, h6, -⟩ := Cond.codeWith_spec h
  cases Option.some.inj (hn9.symm.trans B.named)
  cases Option.some.inj (h1.symm.trans B.method)
  cases Option.some.inj (h2.symm.trans (Stand.of_body B).code)
  rw [← h6, table_eq]
end Bodies
end VXA
/-! ===== END ===== -/
/-! ===== BEGIN a static call of a method with an exception table ===== -/
section VXS
variable {p : Program} {l : Launch} {e : Env} {R : Room} {s : State} {m : MethodId} {args : Array Value} {below : List Frame} {meth : Method} {c : Code} {T : State} {H : Heap} {locs : List Loc} {cells slots : Nat}
abbrev vx_CSW (R : Room) (s : State) (args : Array Value) (own : String) (index : Nat) (y : MethodName) (bytes : ByteArray) (maxL : Nat) (ret : Option FieldType) (hh : List (Nat × Nat × Nat × Nat)) (ws : List Cond) (rm : Room) (mc ms n : Nat) : Prop :=
  (rm.cells = mc ∧ rm.slots = ms ∧ rm.frames + 1 ≤ R.frames ∧ 8 + (maxL + 11) + rm.locals ≤ R.locals ∧ (∀ w ∈ ws, ∀ (a' : Array Value) (U : State), s.WarmedH U.vm → w.before a' U = true) ∧ Cond.codeWith y bytes maxL ret hh ∈ ws) ∧
  (Cond.codeWith y bytes maxL ret hh).before args s = true ∧ (Cond.initialized y.cls).before args s = true ∧ (y.cls ≠ "java/lang/invoke/MethodHandle" ∧ y.cls ≠ "java/lang/invoke/VarHandle") ∧
  (∀ sig, parseMethodDescriptor y.desc = some sig → n = sig.parameters.length) ∧ (Cond.methodLink own index y).before args s = true ∧ (Cond.static y).before args s = true
theorem vx_cwSW {own : String} {index maxL mc ms : Nat} {y : MethodName} {bytes : ByteArray} {ret : Option FieldType} {hh : List (Nat × Nat × Nat × Nat)} {Ts ws ws' : List Cond} {rm : Room} (n : Nat) (ht : ∀ w ∈ Ts, w.before args s = true) (hT : GoodIn Ts (va_wsS own index y ws)) (hw : ws = Cond.codeWith y bytes maxL ret hh :: ws') (hrc : rm.cells = mc) (hrs : rm.slots = ms)
    (hd : y.cls ≠ "java/lang/invoke/MethodHandle" ∧ y.cls ≠ "java/lang/invoke/VarHandle" ∧ (parseMethodDescriptor y.desc).map (fun d => d.parameters.length) = some n) (hR : rm.frames + 1 ≤ R.frames ∧ 8 + (maxL + 11) + rm.locals ≤ R.locals) :
    vx_CSW R s args own index y bytes maxL ret hh ws rm mc ms n := by
  have ok : ∀ w ∈ va_wsS own index y ws, w.before args s = true := fun w h => ht w (hT w h).1
  have hG : GoodIn Ts ws := fun w h => hT w (by unfold va_wsS; exact List.mem_append_right _ h)
  have hc : Cond.codeWith y bytes maxL ret hh ∈ ws := by rw [hw]; exact List.mem_cons_self
  refine ⟨⟨hrc, hrs, hR.1, hR.2, pay_in ht hG, hc⟩, ht _ (hG _ hc).1, ok _ (by simp [va_wsS]), ⟨hd.1, hd.2.1⟩, fun sig h => ?_, ok _ (by simp [va_wsS]), ok _ (by simp [va_wsS])⟩
  have h2 := hd.2.2
  rw [h] at h2
  exact (Option.some.inj h2).symm
theorem vx_callSW (X : Stand p l e R s m args below meth c T locs cells slots) (hexec : p.tables.exec = Jvm.exec) {own : String} {index : Nat} {y : MethodName} {bytes : ByteArray} {maxL : Nat} {ret : Option FieldType} {hh : List (Nat × Nat × Nat × Nat)}
    (hown : s.vm.findClass own = some m.cls) (hlink : (Cond.methodLink own index y).before args s = true) (hstat : (Cond.static y).before args s = true) (hinit : (Cond.initialized y.cls).before args s = true)
    (hcode : (Cond.codeWith y bytes maxL ret hh).before args s = true) (hy : y.cls ≠ "java/lang/invoke/MethodHandle" ∧ y.cls ≠ "java/lang/invoke/VarHandle")
    {W9 : Nat} {Pre : Pt → Array Value → Prop} {Post : Pt → Array Value → Option Value → Pt → Prop} (hK : Back l R p e below s args y 3 W9 Pre Post)
    {g : JFrame} (hg : g.method = m) (hsize : g.locals.size = c.maxLocals) {argsL rest : List Value} (hlen : ∀ sig, parseMethodDescriptor y.desc = some sig → argsL.length = sig.parameters.length)
    (hstack : g.stack = argsL.reverse ++ rest) (hW : 2 * g.monitorRoom + (rest.map fun v => v.category).sum ≤ W9) (hdg : decode c.code g.pc = .ok (.invokestatic index, 3))
    (hpre : ∀ vm₁, s.WarmedH vm₁ → Pre ⟨T.setVm vm₁, locs, cells, slots⟩ argsL.toArray) :
    ∃ (v : Option Value) (vm₁ : Vm) (B : Pt), s.WarmedH vm₁ ∧ Stand p l e R s m args below meth c B.U B.locs B.cells B.slots ∧ Post ⟨T.setVm vm₁, locs, cells, slots⟩ argsL.toArray v B ∧
      ∀ target, Steps p.tables e below (B.U.setTop { g with pc := g.pc + 3, stack := v.toList ++ rest }) target → Steps p.tables e below (T.setTop g) target := by
  obtain ⟨mk, methM, cM, hnamed, hmethM, -, -, -, -, -, -, hsigM⟩ := Cond.codeWith_spec hcode
  have hstatic : methM.isStatic = true := Cond.static_spec hnamed hmethM hstat
  obtain ⟨kP, hkP, -⟩ := className_of_methodNamed hnamed
  have hinitP : kP.init = .initialized := Cond.initialized_spec (findClass_of_methodNamed hnamed) hkP hinit
  obtain ⟨vm₁, X₁, hstep₁⟩ := X.invokestatic hexec hown hlink hnamed hmethM hstatic hkP hinitP hy (g := g) hg (argsL := argsL) (rest := rest) (hlen _ hsigM) hstack hdg
  obtain ⟨v, B, X', hpost, hsteps⟩ := hK m meth c ⟨T.setVm vm₁, locs, cells, slots⟩ { g with stack := rest } (.invokestatic index) mk argsL.toArray X₁ hg hsize hdg hW (X₁.named hnamed) (hpre vm₁ X₁.warmed)
  exact ⟨v, vm₁, B, X₁.warmed, X', hpost, fun target h => hstep₁ _ fun acts => by rw [doInvoke_state]; exact hsteps.trans h⟩
theorem vx_runSW {y : MethodName} {bytes cc : ByteArray} {maxL nL mc ms n index : Nat} {ret : Option FieldType} {hh : List (Nat × Nat × Nat × Nat)} {ws : List Cond} {rm : Room} {Pc : Array Value → State → Prop} {Qc : Array Value → State → Outcome → State → Prop} {free : Addr → Prop} {Ts : List Cond} {own : String} {As rest : List Value} {g : JFrame}
    (S : CallFix p m c cc nL s args Ts own) (hM : Met l y ws rm Pc Qc mc ms free) (cw : vx_CSW R s args own index y bytes maxL ret hh ws rm mc ms n) (hp : PreS s H Pc As)
    (hg : g.method = m) (hn : As.length = n) (hsize : g.locals.size = nL) (hstack : g.stack = As.reverse ++ rest) (hW : 2 * g.monitorRoom + (rest.map fun v => v.category).sum ≤ 8) (hdg : decode cc g.pc = .ok (.invokestatic index, 3)) (hf : cells + mc ≤ R.cells ∧ slots + ms ≤ R.slots) :
    va_Run p l e R s m args below meth c H locs cells slots mc ms g rest (Qc As.toArray) (free) := by
  obtain ⟨⟨hrc, hrs, hfr, hlo, hws, hcw⟩, hcode, hini, hy, hlen, hl, hstt⟩ := cw
  have hK : Back l R p e below s args y 3 8 (PreOf R mc ms Pc) (PostOf Qc mc ms free) := va_backW (hh := hh) (bytes := bytes) (maxL := maxL) (ret := ret) hM hp.1 hrc hrs hfr hlo hws hcw (fun a' U hW => word_at hW (Or.inl (by first | rfl | simp [Cond.onTables, Cond.keeps, Cond.steady])) hini)
  obtain ⟨hx, hb, hml, ho, -⟩ := S
  intro T hT X
  obtain ⟨v, vm₁, ⟨U', l2, c2, s2⟩, hW₁, X', ⟨g', mk, t, L, e1, e2, hq, h1, hL, h2, h3⟩, st⟩ := vx_callSW X hx (hh := hh) (bytes := bytes) (maxL := maxL) (ret := ret) ho hl hstt hini hcode hy hK hg (hsize.trans hml.symm) (argsL := As) (rest := rest) (fun sig h => hn.trans (hlen sig h)) hstack hW (by rw [hb]; exact hdg)
    (fun vm₁ hW₁ => ⟨hf.1, hf.2, hp.2 (T.setVm vm₁) hT hW₁⟩)
  dsimp only [Pt.U, Pt.locs, Pt.cells, Pt.slots] at X' e1 e2 h1 h2 h3 st
  subst h1; subst h2; subst h3
  exact ⟨v, (T.setVm vm₁).calling g' mk As.toArray, t, U', L, hT, X', hL, e1, e2, hq, st⟩
/-- not caught here, past rows that name other classes: it goes on to the caller -/
theorem vx_outP {p : Program} {l : Launch} {e : Env} {R : Room} {s : State} {m : MethodId} {args : Array Value} {below : List Frame} {meth : Method} {c : Code} {H : Heap} {locs : List Loc} {cells slots : Nat} {free : Addr → Prop} {ls : Array Slot} {rest : List Value} {Qc : Array Value → State → Outcome → State → Prop} {XC : String → State → State → Prop}
    {pc : Nat} {own E : String} {ce : Cell} {q : Addr} {mc ms : Nat} (hown : s.vm.findClass own = some m.cls) (hlocks : meth.locks = false)
    (hpass : ∀ z ∈ c.exceptionTable.toList, covers z pc = false ∨ (z.catchType ≠ 0 ∧ ∃ nm : String, (Cond.classLink own z.catchType nm).before args s = true ∧ va_Nc E nm s)) (hcell : H[q]? = some ce) (hv : ce.vm = .none) (hcl : s.vm.findClass E = some ce.cls)
    (hx : ∀ t : State, t.heap = H → s.vm.Alike t.vm → XC E s t) (hf : ∀ z ∈ locs, free z.base) (hc : cells ≤ mc) (hs : slots ≤ ms) :
    vx_W p l e R s m args below meth c H locs cells slots (vx_MQ below Qc XC args s mc ms free) (F0 m pc ls rest) q := by
  intro T hT X
  have hpl : e.platform.magicAccessors = ({} : Platform).magicAccessors := by rw [X.admits.platform]
  obtain ⟨vm', hW', X', st⟩ := X.outThrough hlocks q (g := F0 m pc ls rest) rfl rfl rfl (cell := ce) (by rw [hT]; exact hcell) (by rw [hv]; rfl)
    (by obtain ⟨k9, h9, -⟩ := Vm.findClass_spec hcl; exact ⟨k9, h9⟩) (fun z hz => by
      rcases hpass z hz with h | ⟨hz0, nm, hl1, hn1⟩
      · exact Or.inl h
      · obtain ⟨c6, hc6, hcl6⟩ := Cond.classLink_spec hown hl1 e.platform hpl
        obtain ⟨a8, b8, h1, h2, h3⟩ := hn1
        cases Option.some.inj (h1.symm.trans hcl)
        cases Option.some.inj (h2.symm.trans hc6)
        exact Or.inr ⟨hz0, _, hcl6, h3⟩)
  obtain ⟨g₀, hfr⟩ := X'.frames_eq
  have hcell9 : ((T.setVm vm').setFrames (.throwing q :: below)).heap[q]? = some ce := by
    show T.heap[q]? = some ce
    rw [hT]; exact hcell
  have hend : Ended ((T.setVm vm').setFrames (.throwing q :: below)) below (.threw q) := State.frames_setFrames _ (State.cur_lt_of_frames hfr)
  refine ⟨(T.setVm vm').setFrames (.throwing q :: below), ?_, .threw q, X'.here.running, hend, Or.inr ⟨q, rfl, E, ce, locs, hx _ hT (X'.ends _).1.alike, hcell9, hv, hcl, (X'.ends _).1, (X'.ends _).2.mono hc hs, hf⟩⟩
  rw [X.pushThrowing_eq]
  exact st
/-- a thing of a world lies in the heap -/
theorem vx_lt {D : va_G} {cl : List vw_C} {ws : va_W} {H1 : Heap} (h : va_P D cl ws H1) {k : Nat} {q : Nat × va_E} (hk : ws[k]? = some q) : q.1 < H1.size := (h k q hk).lt
end VXS
/-! ===== END ===== -/
/-! ===== BEGIN methods with a table of their own: called by a name, returning or throwing ===== -/
section VXH
/-! vx_backW, vx_callVX, vx_callSX, vx_callVW, vx_runVW, vx_runVX, vx_runSX, vx_ofWH follow the same proofs as their sisters above (Free/Laws.lean, Shelf42/LK1.lean); vx_outP calls Shelf42/NT130.lean (outThrough). -/
section
variable {l : Launch} {R : Room} {p : Program} {e : Env} {below : List Frame} {s : State} {sargs : Array Value} {y : MethodName} {len W9 : Nat}
theorem vx_backW {ws : List Cond} {rm : Room} {Pc : Array Value → State → Prop} {Qc : Array Value → State → Outcome → State → Prop} {XC : String → State → State → Prop} {mc ms : Nat} {free : Addr → Prop} {bytes : ByteArray} {maxL : Nat} {ret : Option FieldType} {hh : List (Nat × Nat × Nat × Nat)}
    (hM : vx_Met l y ws rm Pc Qc XC mc ms free) (hblind : FrameBlind Pc) (hrc : rm.cells = mc) (hrs : rm.slots = ms)
    (hframes : rm.frames + 1 ≤ R.frames) (hlocals : W9 + (maxL + 11) + rm.locals ≤ R.locals)
    (hws : ∀ w ∈ ws, ∀ a' U, s.WarmedH U.vm → w.before a' U = true) (hcode : Cond.codeWith y bytes maxL ret hh ∈ ws) (hinit : ∀ a' U, s.WarmedH U.vm → (Cond.initialized y.cls).before a' U = true) :
    vx_Back l R p e below s sargs y len W9 (PreOf R mc ms Pc) (PostOf Qc mc ms free) (vx_Post XC mc ms free) := by
  intro m meth c A g ig mk a X hg hsize hdg hW hn hp
  have h1 : (headSpec ws rm).pre.before a A.U = true := atoms_intro fun w hw => hws w hw _ _ X.warmed
  have h2 : (Cond.codeWith y bytes maxL ret hh).before a A.U = true := hws _ hcode _ _ X.warmed
  have h3 : (Cond.initialized y.cls).before a A.U = true := hinit _ _ X.warmed
  have h4 : A.cells + (headSpec ws rm).room.cells ≤ R.cells := by rw [show (headSpec ws rm).room.cells = mc from hrc]; exact hp.1
  have h5 : A.slots + (headSpec ws rm).room.slots ≤ R.slots := by rw [show (headSpec ws rm).room.slots = ms from hrs]; exact hp.2.1
  have hPc : Pc a (A.U.calling g mk a) := hblind _ _ _ _ hp.2.2
  obtain ⟨U, Ls, c0, s0⟩ := A
  dsimp only [Pt.U, Pt.locs, Pt.cells, Pt.slots] at h1 h2 h3 h4 h5 X hn hPc ⊢
  obtain ⟨m9, methY, cY, hn9, hmY, hcY, -, hlY, -⟩ := Cond.codeWith_spec h2
  cases Option.some.inj (hn9.symm.trans hn)
  obtain ⟨kY, hkY, -⟩ := className_of_methodNamed hn
  have hinitY : kY.init = .initialized := Cond.initialized_spec (findClass_of_methodNamed hn) hkY h3
  have h : At U g.method c below := by rw [hg]; exact X.here
  have hlocals9 : W9 + (maxL + 11) + (headSpec ws rm).room.locals ≤ R.locals := hlocals
  have happ : (headSpec ws rm).appliesLoose y e.platform (U.calling g mk a) = true :=
    Spec.appliesLoose_calling (g := g) h hdg hn hkY hinitY
      (X.room_calling (g := g) (R' := (headSpec ws rm).room) hsize hmY hcY hframes (by rw [hlY]; omega) h4 h5) h1
  obtain ⟨mid, hmid⟩ := h.above
  have hfr : (U.setTop g).frames = (.java g :: mid) ++ below := by rw [State.frames_setTop' g h.top, hmid]; rfl
  obtain ⟨o, s₂, hsteps, -, hend, hq⟩ := Steps.callFree hM p X.admits X.cas X.clock (acts := []) hfr happ hPc trivial
  have hq' : vx_Q Qc XC mc ms free a (U.calling g mk a) o s₂ := hq
  rw [State.frames_setTop' g h.top] at hend
  obtain ⟨g₀, hg0⟩ := Option.isSome_iff_exists.mp h.top
  obtain ⟨r, hr⟩ := State.topJava?_eq_some.mp hg0
  have hr' : (({ U with heap := s₂.heap, slotsUsed := s₂.slotsUsed } : State).setVm s₂.vm).frames = .java g₀ :: r := hr
  rcases hq' with ⟨hqc, L, hfe, hL⟩ | ⟨q, rfl, E, ce, L, hx, hce, hcv, hcl, hW₂, hsm, hL⟩
  · obtain ⟨⟨v, rfl⟩, hW₂, e2, q2, q3, q4, q5, q6⟩ := id hfe
    have e3 : s₂ = ({ (U.calling g mk a).setFrames s₂.frames with heap := s₂.heap, slotsUsed := s₂.slotsUsed } : State).setVm s₂.vm := by
      have : s₂ = ({ s₂ with vm := (U.calling g mk a).vm } : State).setVm s₂.vm := rfl
      rw [e2] at this
      exact this
    obtain ⟨c₂, i₂, len₂, hc₂, hd₂, hf₂⟩ := hend
    have hW' : U.WarmedH s₂.vm := hW₂
    have hcc : c₂ = c := by
      have h1 : s₂.code? g.method = U.code? g.method := by
        rw [State.code?_eq, State.code?_eq, hW'.alike.method?]
      exact Option.some.inj (hc₂.symm.trans (h1.trans h.code))
    subst hcc
    have hlen : len₂ = len := by rw [hdg] at hd₂; cases hd₂; rfl
    subst hlen
    have hs₂ : s₂ = (({ U with heap := s₂.heap, slotsUsed := s₂.slotsUsed } : State).setVm s₂.vm).setTop { g with pc := g.pc + len₂, stack := v.toList ++ g.stack } := by
      refine e3.trans ?_
      rw [hf₂, State.calling_eq h.top, State.setFrames_setFrames, State.setTop_of_frames _ hr', hr]
      rfl
    have hsame : U.sameButNew ({ U with heap := s₂.heap, slotsUsed := s₂.slotsUsed } : State) L mc ms := by
      refine ⟨?_, q2, q3, q4, q5, q6⟩
      obtain ⟨t, ht, -⟩ := State.frames_cons hr
      show ({ U with heap := s₂.heap, slotsUsed := s₂.slotsUsed } : State) = { U.setFrames U.frames with heap := s₂.heap, slotsUsed := s₂.slotsUsed }
      rw [State.setFrames_self ht]
    subst hg
    refine Or.inl ⟨v, ⟨(({ U with heap := s₂.heap, slotsUsed := s₂.slotsUsed } : State).setVm s₂.vm), Ls ++ L, c0 + mc, s0 + ms⟩,
      ⟨X.admits, X.cas, X.clock, X.frames, X.room, X.hears, X.method, X.code, (X.here.setHeapUsed s₂.heap s₂.slotsUsed).setVm hW'.alike, X.tail, State.WarmedH.trans X.warmed hW', X.limits, X.bytes, X.same.trans (hsame.setVm s.vm)⟩,
      ⟨g, mk, s₂, L, rfl, rfl, hqc, rfl, hL, rfl, rfl⟩, ?_⟩
    show Steps p.tables e below _ ((({ U with heap := s₂.heap, slotsUsed := s₂.slotsUsed } : State).setVm s₂.vm).setTop { g with pc := g.pc + len₂, stack := v.toList ++ g.stack })
    rw [← hs₂]
    exact hsteps
  · obtain ⟨e2, q2, q3, q4, q5, q6⟩ := id hsm
    have e3 : s₂ = ({ (U.calling g mk a).setFrames s₂.frames with heap := s₂.heap, slotsUsed := s₂.slotsUsed } : State).setVm s₂.vm := by
      have : s₂ = ({ s₂ with vm := (U.calling g mk a).vm } : State).setVm s₂.vm := rfl
      rw [e2] at this
      exact this
    have hf₂ : s₂.frames = .throwing q :: .java g :: U.frames.tail := hend
    have hW' : U.WarmedH s₂.vm := hW₂
    have hs₂ : s₂ = ((({ U with heap := s₂.heap, slotsUsed := s₂.slotsUsed } : State).setVm s₂.vm).setTop g).pushFrame (.throwing q) := by
      refine e3.trans ?_
      rw [hf₂, State.calling_eq h.top, State.setFrames_setFrames, State.pushFrame, State.frames_setTop _ hr', State.setTop_of_frames _ hr', State.setFrames_setFrames, hr]
      rfl
    have hsame : U.sameButNew ({ U with heap := s₂.heap, slotsUsed := s₂.slotsUsed } : State) L mc ms := by
      refine ⟨?_, q2, q3, q4, q5, q6⟩
      obtain ⟨t, ht, -⟩ := State.frames_cons hr
      show ({ U with heap := s₂.heap, slotsUsed := s₂.slotsUsed } : State) = { U.setFrames U.frames with heap := s₂.heap, slotsUsed := s₂.slotsUsed }
      rw [State.setFrames_self ht]
    subst hg
    refine Or.inr ⟨q, ⟨(({ U with heap := s₂.heap, slotsUsed := s₂.slotsUsed } : State).setVm s₂.vm), Ls ++ L, c0 + mc, s0 + ms⟩,
      ⟨X.admits, X.cas, X.clock, X.frames, X.room, X.hears, X.method, X.code, (X.here.setHeapUsed s₂.heap s₂.slotsUsed).setVm hW'.alike, X.tail, State.WarmedH.trans X.warmed hW', X.limits, X.bytes, X.same.trans (hsame.setVm s.vm)⟩,
      ⟨g, mk, s₂, L, E, ce, rfl, rfl, hx, hce, hcv, hcl, rfl, hL, rfl, rfl⟩, ?_⟩
    show Steps p.tables e below _ (((({ U with heap := s₂.heap, slotsUsed := s₂.slotsUsed } : State).setVm s₂.vm).setTop g).pushFrame (.throwing q))
    rw [← hs₂]
    exact hsteps
end
variable {p : Program} {l : Launch} {e : Env} {R : Room} {s : State} {m : MethodId} {args : Array Value} {below : List Frame} {meth : Method} {c : Code} {T : State} {H : Heap} {locs : List Loc} {cells slots : Nat}
theorem vx_callVX (X : Stand p l e R s m args below meth c T locs cells slots) (hexec : p.tables.exec = Jvm.exec) {own C : String} {index : Nat} {y : MethodName} {bytes : ByteArray} {maxL : Nat} {ret : Option FieldType} {hh : List (Nat × Nat × Nat × Nat)}
    (hown : s.vm.findClass own = some m.cls) (hlink : (Cond.methodLink own index y).before args s = true) (hinst : (Cond.instanceMethod y).before args s = true) (hsel : (Cond.selects C y y).before args s = true)
    (hcode : (Cond.codeWith y bytes maxL ret hh).before args s = true) (hy : y.cls ≠ "java/lang/invoke/MethodHandle" ∧ y.cls ≠ "java/lang/invoke/VarHandle")
    {W9 : Nat} {Pre : Pt → Array Value → Prop} {Post : Pt → Array Value → Option Value → Pt → Prop} {PostX : Pt → Array Value → Addr → Pt → Prop} (hK : vx_Back l R p e below s args y 3 W9 Pre Post PostX)
    {b : Addr} {cellB : Cell} (hcell : T.heap[b]? = some cellB) (hobj : cellB.vm.isStatics = false) (hcls : s.vm.findClass C = some cellB.cls)
    {g : JFrame} (hg : g.method = m) (hsize : g.locals.size = c.maxLocals) {argsL rest : List Value} (hlen : ∀ sig, parseMethodDescriptor y.desc = some sig → argsL.length = sig.parameters.length)
    (hstack : g.stack = argsL.reverse ++ .ref b :: rest) (hW : 2 * g.monitorRoom + (rest.map fun v => v.category).sum ≤ W9) (hdg : decode c.code g.pc = .ok (.invokevirtual index, 3))
    (hpre : ∀ vm₁, s.WarmedH vm₁ → Pre ⟨T.setVm vm₁, locs, cells, slots⟩ (Value.ref b :: argsL).toArray) :
    (∃ (v : Option Value) (vm₁ : Vm) (B : Pt), s.WarmedH vm₁ ∧ Stand p l e R s m args below meth c B.U B.locs B.cells B.slots ∧ Post ⟨T.setVm vm₁, locs, cells, slots⟩ (Value.ref b :: argsL).toArray v B ∧
      ∀ target, Steps p.tables e below (B.U.setTop { g with pc := g.pc + 3, stack := v.toList ++ rest }) target → Steps p.tables e below (T.setTop g) target) ∨
    (∃ (q : Addr) (vm₁ : Vm) (B : Pt), s.WarmedH vm₁ ∧ Stand p l e R s m args below meth c B.U B.locs B.cells B.slots ∧ PostX ⟨T.setVm vm₁, locs, cells, slots⟩ (Value.ref b :: argsL).toArray q B ∧
      Steps p.tables e below (T.setTop g) ((B.U.setTop { g with stack := rest }).pushFrame (.throwing q))) := by
  obtain ⟨mk, methM, hnamed, hmethM, hstM, habM⟩ := Cond.instanceMethod_spec hinst
  obtain ⟨m8, methM', cM, hn8, hmethM', -, -, -, -, -, -, hsigM⟩ := Cond.codeWith_spec hcode
  cases Option.some.inj (hn8.symm.trans hnamed)
  cases hmethM.symm.trans hmethM'
  obtain ⟨c2, r2, m2, q1, q2, q3, q4, kP, hkP, hkPi⟩ := Cond.selects_spec hsel
  cases hcls.symm.trans q1
  cases (State.methodFound?_of_named hnamed hy).symm.trans q2
  cases hnamed.symm.trans q3
  have hselP : selectMethod e.platform s.vm cellB.cls mk = .method mk := by rw [Launch.admits_selectMethod X.admits]; exact q4
  obtain ⟨vm₁, X₁, hstep₁⟩ := X.invokevirtual hexec hown hlink hnamed hmethM hstM hkP hkPi hy (a := b) (cell := cellB) hcell
    (fun z h => by rw [h] at hobj; cases hobj) hselP hmethM habM hkP hkPi (g := g) hg (argsL := argsL) (rest := rest) (hlen _ hsigM) hstack hdg
  rcases hK m meth c ⟨T.setVm vm₁, locs, cells, slots⟩ { g with stack := rest } (.invokevirtual index) mk (Value.ref b :: argsL).toArray X₁ hg hsize hdg hW (X₁.named hnamed) (hpre vm₁ X₁.warmed) with ⟨v, B, X', hpost, hsteps⟩ | ⟨q, B, X', hpost, hsteps⟩
  · exact Or.inl ⟨v, vm₁, B, X₁.warmed, X', hpost, fun target h => hstep₁ _ fun acts => by rw [doInvoke_state]; exact hsteps.trans h⟩
  · exact Or.inr ⟨q, vm₁, B, X₁.warmed, X', hpost, hstep₁ _ fun acts => by rw [doInvoke_state]; exact hsteps⟩
theorem vx_callSX (X : Stand p l e R s m args below meth c T locs cells slots) (hexec : p.tables.exec = Jvm.exec) {own : String} {index : Nat} {y : MethodName} {bytes : ByteArray} {maxL : Nat} {ret : Option FieldType} {hh : List (Nat × Nat × Nat × Nat)}
    (hown : s.vm.findClass own = some m.cls) (hlink : (Cond.methodLink own index y).before args s = true) (hstat : (Cond.static y).before args s = true) (hinit : (Cond.initialized y.cls).before args s = true)
    (hcode : (Cond.codeWith y bytes maxL ret hh).before args s = true) (hy : y.cls ≠ "java/lang/invoke/MethodHandle" ∧ y.cls ≠ "java/lang/invoke/VarHandle")
    {W9 : Nat} {Pre : Pt → Array Value → Prop} {Post : Pt → Array Value → Option Value → Pt → Prop} {PostX : Pt → Array Value → Addr → Pt → Prop} (hK : vx_Back l R p e below s args y 3 W9 Pre Post PostX)
    {g : JFrame} (hg : g.method = m) (hsize : g.locals.size = c.maxLocals) {argsL rest : List Value} (hlen : ∀ sig, parseMethodDescriptor y.desc = some sig → argsL.length = sig.parameters.length)
    (hstack : g.stack = argsL.reverse ++ rest) (hW : 2 * g.monitorRoom + (rest.map fun v => v.category).sum ≤ W9) (hdg : decode c.code g.pc = .ok (.invokestatic index, 3))
    (hpre : ∀ vm₁, s.WarmedH vm₁ → Pre ⟨T.setVm vm₁, locs, cells, slots⟩ argsL.toArray) :
    (∃ (v : Option Value) (vm₁ : Vm) (B : Pt), s.WarmedH vm₁ ∧ Stand p l e R s m args below meth c B.U B.locs B.cells B.slots ∧ Post ⟨T.setVm vm₁, locs, cells, slots⟩ argsL.toArray v B ∧
      ∀ target, Steps p.tables e below (B.U.setTop { g with pc := g.pc + 3, stack := v.toList ++ rest }) target → Steps p.tables e below (T.setTop g) target) ∨
    (∃ (q : Addr) (vm₁ : Vm) (B : Pt), s.WarmedH vm₁ ∧ Stand p l e R s m args below meth c B.U B.locs B.cells B.slots ∧ PostX ⟨T.setVm vm₁, locs, cells, slots⟩ argsL.toArray q B ∧
      Steps p.tables e below (T.setTop g) ((B.U.setTop { g with stack := rest }).pushFrame (.throwing q))) := by
  obtain ⟨mk, methM, cM, hnamed, hmethM, -, -, -, -, -, -, hsigM⟩ := Cond.codeWith_spec hcode
  have hstatic : methM.isStatic = true := Cond.static_spec hnamed hmethM hstat
  obtain ⟨kP, hkP, -⟩ := className_of_methodNamed hnamed
  have hinitP : kP.init = .initialized := Cond.initialized_spec (findClass_of_methodNamed hnamed) hkP hinit
  obtain ⟨vm₁, X₁, hstep₁⟩ := X.invokestatic hexec hown hlink hnamed hmethM hstatic hkP hinitP hy (g := g) hg (argsL := argsL) (rest := rest) (hlen _ hsigM) hstack hdg
  rcases hK m meth c ⟨T.setVm vm₁, locs, cells, slots⟩ { g with stack := rest } (.invokestatic index) mk argsL.toArray X₁ hg hsize hdg hW (X₁.named hnamed) (hpre vm₁ X₁.warmed) with ⟨v, B, X', hpost, hsteps⟩ | ⟨q, B, X', hpost, hsteps⟩
  · exact Or.inl ⟨v, vm₁, B, X₁.warmed, X', hpost, fun target h => hstep₁ _ fun acts => by rw [doInvoke_state]; exact hsteps.trans h⟩
  · exact Or.inr ⟨q, vm₁, B, X₁.warmed, X', hpost, hstep₁ _ fun acts => by rw [doInvoke_state]; exact hsteps⟩
theorem vx_callVW (X : Stand p l e R s m args below meth c T locs cells slots) (hexec : p.tables.exec = Jvm.exec) {own C : String} {index : Nat} {y : MethodName} {bytes : ByteArray} {maxL : Nat} {ret : Option FieldType} {hh : List (Nat × Nat × Nat × Nat)}
    (hown : s.vm.findClass own = some m.cls) (hlink : (Cond.methodLink own index y).before args s = true) (hinst : (Cond.instanceMethod y).before args s = true) (hsel : (Cond.selects C y y).before args s = true)
    (hcode : (Cond.codeWith y bytes maxL ret hh).before args s = true) (hy : y.cls ≠ "java/lang/invoke/MethodHandle" ∧ y.cls ≠ "java/lang/invoke/VarHandle")
    {W9 : Nat} {Pre : Pt → Array Value → Prop} {Post : Pt → Array Value → Option Value → Pt → Prop} (hK : Back l R p e below s args y 3 W9 Pre Post)
    {b : Addr} {cellB : Cell} (hcell : T.heap[b]? = some cellB) (hobj : cellB.vm.isStatics = false) (hcls : s.vm.findClass C = some cellB.cls)
    {g : JFrame} (hg : g.method = m) (hsize : g.locals.size = c.maxLocals) {argsL rest : List Value} (hlen : ∀ sig, parseMethodDescriptor y.desc = some sig → argsL.length = sig.parameters.length)
    (hstack : g.stack = argsL.reverse ++ .ref b :: rest) (hW : 2 * g.monitorRoom + (rest.map fun v => v.category).sum ≤ W9) (hdg : decode c.code g.pc = .ok (.invokevirtual index, 3))
    (hpre : ∀ vm₁, s.WarmedH vm₁ → Pre ⟨T.setVm vm₁, locs, cells, slots⟩ (Value.ref b :: argsL).toArray) :
    ∃ (v : Option Value) (vm₁ : Vm) (B : Pt), s.WarmedH vm₁ ∧ Stand p l e R s m args below meth c B.U B.locs B.cells B.slots ∧ Post ⟨T.setVm vm₁, locs, cells, slots⟩ (Value.ref b :: argsL).toArray v B ∧
      ∀ target, Steps p.tables e below (B.U.setTop { g with pc := g.pc + 3, stack := v.toList ++ rest }) target → Steps p.tables e below (T.setTop g) target := by
  obtain ⟨mk, methM, hnamed, hmethM, hstM, habM⟩ := Cond.instanceMethod_spec hinst
  obtain ⟨m8, methM', cM, hn8, hmethM', -, -, -, -, -, -, hsigM⟩ := Cond.codeWith_spec hcode
  cases Option.some.inj (hn8.symm.trans hnamed)
  cases hmethM.symm.trans hmethM'
  obtain ⟨c2, r2, m2, q1, q2, q3, q4, kP, hkP, hkPi⟩ := Cond.selects_spec hsel
  cases hcls.symm.trans q1
  cases (State.methodFound?_of_named hnamed hy).symm.trans q2
  cases hnamed.symm.trans q3
  have hselP : selectMethod e.platform s.vm cellB.cls mk = .method mk := by rw [Launch.admits_selectMethod X.admits]; exact q4
  obtain ⟨vm₁, X₁, hstep₁⟩ := X.invokevirtual hexec hown hlink hnamed hmethM hstM hkP hkPi hy (a := b) (cell := cellB) hcell
    (fun z h => by rw [h] at hobj; cases hobj) hselP hmethM habM hkP hkPi (g := g) hg (argsL := argsL) (rest := rest) (hlen _ hsigM) hstack hdg
  obtain ⟨v, B, X', hpost, hsteps⟩ := hK m meth c ⟨T.setVm vm₁, locs, cells, slots⟩ { g with stack := rest } (.invokevirtual index) mk (Value.ref b :: argsL).toArray X₁ hg hsize hdg hW (X₁.named hnamed) (hpre vm₁ X₁.warmed)
  exact ⟨v, vm₁, B, X₁.warmed, X', hpost, fun target h => hstep₁ _ fun acts => by rw [doInvoke_state]; exact hsteps.trans h⟩
abbrev vx_CVW (R : Room) (s : State) (args : Array Value) (own C : String) (index : Nat) (y : MethodName) (bytes : ByteArray) (maxL : Nat) (ret : Option FieldType) (hh : List (Nat × Nat × Nat × Nat)) (ws : List Cond) (rm : Room) (mc ms n : Nat) : Prop :=
  (rm.cells = mc ∧ rm.slots = ms ∧ rm.frames + 1 ≤ R.frames ∧ 8 + (maxL + 11) + rm.locals ≤ R.locals ∧ (∀ w ∈ ws, ∀ (a' : Array Value) (U : State), s.WarmedH U.vm → w.before a' U = true) ∧ Cond.codeWith y bytes maxL ret hh ∈ ws) ∧
  (Cond.codeWith y bytes maxL ret hh).before args s = true ∧ (Cond.initialized y.cls).before args s = true ∧ (y.cls ≠ "java/lang/invoke/MethodHandle" ∧ y.cls ≠ "java/lang/invoke/VarHandle") ∧
  (∀ sig, parseMethodDescriptor y.desc = some sig → n = sig.parameters.length) ∧ (Cond.methodLink own index y).before args s = true ∧ (Cond.instanceMethod y).before args s = true ∧ (Cond.selects C y y).before args s = true
theorem vx_cwVW {own C : String} {index maxL mc ms : Nat} {y : MethodName} {bytes : ByteArray} {ret : Option FieldType} {hh : List (Nat × Nat × Nat × Nat)} {Ts ws ws' : List Cond} {rm : Room} (n : Nat) (ht : ∀ w ∈ Ts, w.before args s = true) (hT : GoodIn Ts (wsV own index C y ws)) (hw : ws = Cond.codeWith y bytes maxL ret hh :: ws') (hrc : rm.cells = mc) (hrs : rm.slots = ms)
    (hd : y.cls = C ∧ y.cls ≠ "java/lang/invoke/MethodHandle" ∧ y.cls ≠ "java/lang/invoke/VarHandle" ∧ (parseMethodDescriptor y.desc).map (fun d => d.parameters.length) = some n) (hR : rm.frames + 1 ≤ R.frames ∧ 8 + (maxL + 11) + rm.locals ≤ R.locals) :
    vx_CVW R s args own C index y bytes maxL ret hh ws rm mc ms n := by
  obtain ⟨hC, hd⟩ := hd
  subst hC
  have ok : ∀ w ∈ wsV own index y.cls y ws, w.before args s = true := fun w h => ht w (hT w h).1
  have hG : GoodIn Ts ws := fun w h => hT w (by unfold wsV; exact List.mem_append_right _ h)
  have hc : Cond.codeWith y bytes maxL ret hh ∈ ws := by rw [hw]; exact List.mem_cons_self
  refine ⟨⟨hrc, hrs, hR.1, hR.2, pay_in ht hG, hc⟩, ht _ (hG _ hc).1, ok _ (by simp [wsV]), ⟨hd.1, hd.2.1⟩, fun sig h => ?_, ok _ (by simp [wsV]), ok _ (by simp [wsV]), ok _ (by simp [wsV])⟩
  have h2 := hd.2.2
  rw [h] at h2
  exact (Option.some.inj h2).symm
theorem vx_runVW {y : MethodName} {bytes cc : ByteArray} {maxL nL mc ms n index : Nat} {ret : Option FieldType} {hh : List (Nat × Nat × Nat × Nat)} {ws : List Cond} {rm : Room} {Pc : Array Value → State → Prop} {Qc : Array Value → State → Outcome → State → Prop} {free : Addr → Prop} {Ts : List Cond} {own C : String} {b : Addr} {As rest : List Value} {g : JFrame}
    (S : CallFix p m c cc nL s args Ts own) (hM : Met l y ws rm Pc Qc mc ms free) (cw : vx_CVW R s args own C index y bytes maxL ret hh ws rm mc ms n) (hp : PreV s H C b Pc As)
    (hg : g.method = m) (hn : As.length = n) (hsize : g.locals.size = nL) (hstack : g.stack = As.reverse ++ .ref b :: rest) (hW : 2 * g.monitorRoom + (rest.map fun v => v.category).sum ≤ 8) (hdg : decode cc g.pc = .ok (.invokevirtual index, 3)) (hf : cells + mc ≤ R.cells ∧ slots + ms ≤ R.slots) :
    va_Run p l e R s m args below meth c H locs cells slots mc ms g rest (Qc (Value.ref b :: As).toArray) free := by
  obtain ⟨⟨hrc, hrs, hfr, hlo, hws, hcw⟩, hcode, hini, hy, hlen, hl, hin, hse⟩ := cw
  have hK : Back l R p e below s args y 3 8 (PreOf R mc ms Pc) (PostOf Qc mc ms free) := va_backW (hh := hh) (bytes := bytes) (maxL := maxL) (ret := ret) hM hp.1 hrc hrs hfr hlo hws hcw (fun a' U hW => word_at hW (Or.inl (by first | rfl | simp [Cond.onTables, Cond.keeps, Cond.steady])) hini)
  obtain ⟨hx, hb, hml, ho, -⟩ := S
  obtain ⟨-, ⟨cellB, hcB, hoB, hclB⟩, hPc⟩ := hp
  intro T hT X
  obtain ⟨v, vm₁, ⟨U', l2, c2, s2⟩, hW₁, X', ⟨g', mk, t, L, e1, e2, hq, h1, hL, h2, h3⟩, st⟩ := vx_callVW X hx (C := C) (hh := hh) (bytes := bytes) (maxL := maxL) (ret := ret) ho hl hin hse hcode hy hK (by rw [hT]; exact hcB) hoB hclB hg (hsize.trans hml.symm) (argsL := As) (rest := rest) (fun sig h => hn.trans (hlen sig h)) hstack hW (by rw [hb]; exact hdg)
    (fun vm₁ hW₁ => ⟨hf.1, hf.2, hPc (T.setVm vm₁) hT hW₁⟩)
  dsimp only [Pt.U, Pt.locs, Pt.cells, Pt.slots] at X' e1 e2 h1 h2 h3 st
  subst h1; subst h2; subst h3
  exact ⟨v, (T.setVm vm₁).calling g' mk (Value.ref b :: As).toArray, t, U', L, hT, X', hL, e1, e2, hq, st⟩
section
variable {y : MethodName} {bytes cc : ByteArray} {maxL nL mc ms n index : Nat} {ret : Option FieldType} {ws : List Cond} {rm : Room} {Pc : Array Value → State → Prop} {Qc : Array Value → State → Outcome → State → Prop} {XC : String → State → State → Prop} {free : Addr → Prop} {Ts : List Cond} {own C : String} {b : Addr} {As rest : List Value} {g : JFrame}
theorem vx_runVX {hh : List (Nat × Nat × Nat × Nat)} (S : CallFix p m c cc nL s args Ts own) (hM : vx_Met l y ws rm Pc Qc XC mc ms free) (cw : vx_CVW R s args own C index y bytes maxL ret hh ws rm mc ms n) (hp : PreV s H C b Pc As)
    (hg : g.method = m) (hn : As.length = n) (hsize : g.locals.size = nL) (hstack : g.stack = As.reverse ++ .ref b :: rest) (hW : 2 * g.monitorRoom + (rest.map fun v => v.category).sum ≤ 8) (hdg : decode cc g.pc = .ok (.invokevirtual index, 3)) (hf : cells + mc ≤ R.cells ∧ slots + ms ≤ R.slots) :
    vx_Run p l e R s m args below meth c H locs cells slots mc ms g rest (Qc (Value.ref b :: As).toArray) XC free := by
  obtain ⟨⟨hrc, hrs, hfr, hlo, hws, hcw⟩, hcode, hini, hy, hlen, hl, hin, hse⟩ := cw
  have hK : vx_Back l R p e below s args y 3 8 (PreOf R mc ms Pc) (PostOf Qc mc ms free) (vx_Post XC mc ms free) := vx_backW (hh := hh) (bytes := bytes) (maxL := maxL) (ret := ret) hM hp.1 hrc hrs hfr hlo hws hcw (fun a' U hW => word_at hW (Or.inl (by first | rfl | simp [Cond.onTables, Cond.keeps, Cond.steady])) hini)
  obtain ⟨hx, hb, hml, ho, -⟩ := S
  obtain ⟨-, ⟨cellB, hcB, hoB, hclB⟩, hPc⟩ := hp
  intro T hT X
  rcases vx_callVX X hx (C := C) (hh := hh) (bytes := bytes) (maxL := maxL) (ret := ret) ho hl hin hse hcode hy hK (by rw [hT]; exact hcB) hoB hclB hg (hsize.trans hml.symm) (argsL := As) (rest := rest) (fun sig h => hn.trans (hlen sig h)) hstack hW (by rw [hb]; exact hdg)
    (fun vm₁ hW₁ => ⟨hf.1, hf.2, hPc (T.setVm vm₁) hT hW₁⟩) with ⟨v, vm₁, ⟨U', l2, c2, s2⟩, hW₁, X', ⟨g', mk, t, L, e1, e2, hq, h1, hL, h2, h3⟩, st⟩ | ⟨q, vm₁, ⟨U', l2, c2, s2⟩, hW₁, X', ⟨g', mk, t, L, E, ce, e1, e2, hq, hce, hcv, hcl, h1, hL, h2, h3⟩, st⟩
  · dsimp only [Pt.U, Pt.locs, Pt.cells, Pt.slots] at X' e1 e2 h1 h2 h3 st
    subst h1; subst h2; subst h3
    exact Or.inl ⟨v, (T.setVm vm₁).calling g' mk (Value.ref b :: As).toArray, t, U', L, hT, X', hL, e1, e2, hq, st⟩
  · dsimp only [Pt.U, Pt.locs, Pt.cells, Pt.slots] at X' e1 e2 h1 h2 h3 st hcl
    subst h1; subst h2; subst h3
    exact Or.inr ⟨q, (T.setVm vm₁).calling g' mk (Value.ref b :: As).toArray, t, U', L, E, ce, hT, X', hL, e1, e2, hq, hce, hcv, vx_cls hW₁ hcl, st⟩
theorem vx_runSX {hh : List (Nat × Nat × Nat × Nat)} (S : CallFix p m c cc nL s args Ts own) (hM : vx_Met l y ws rm Pc Qc XC mc ms free) (cw : vx_CSW R s args own index y bytes maxL ret hh ws rm mc ms n) (hp : PreS s H Pc As)
    (hg : g.method = m) (hn : As.length = n) (hsize : g.locals.size = nL) (hstack : g.stack = As.reverse ++ rest) (hW : 2 * g.monitorRoom + (rest.map fun v => v.category).sum ≤ 8) (hdg : decode cc g.pc = .ok (.invokestatic index, 3)) (hf : cells + mc ≤ R.cells ∧ slots + ms ≤ R.slots) :
    vx_Run p l e R s m args below meth c H locs cells slots mc ms g rest (Qc As.toArray) XC free := by
  obtain ⟨⟨hrc, hrs, hfr, hlo, hws, hcw⟩, hcode, hini, hy, hlen, hl, hstt⟩ := cw
  have hK : vx_Back l R p e below s args y 3 8 (PreOf R mc ms Pc) (PostOf Qc mc ms free) (vx_Post XC mc ms free) := vx_backW (hh := hh) (bytes := bytes) (maxL := maxL) (ret := ret) hM hp.1 hrc hrs hfr hlo hws hcw (fun a' U hW => word_at hW (Or.inl (by first | rfl | simp [Cond.onTables, Cond.keeps, Cond.steady])) hini)
  obtain ⟨hx, hb, hml, ho, -⟩ := S
  intro T hT X
  rcases vx_callSX X hx (hh := hh) (bytes := bytes) (maxL := maxL) (ret := ret) ho hl hstt hini hcode hy hK hg (hsize.trans hml.symm) (argsL := As) (rest := rest) (fun sig h => hn.trans (hlen sig h)) hstack hW (by rw [hb]; exact hdg)
    (fun vm₁ hW₁ => ⟨hf.1, hf.2, hp.2 (T.setVm vm₁) hT hW₁⟩) with ⟨v, vm₁, ⟨U', l2, c2, s2⟩, hW₁, X', ⟨g', mk, t, L, e1, e2, hq, h1, hL, h2, h3⟩, st⟩ | ⟨q, vm₁, ⟨U', l2, c2, s2⟩, hW₁, X', ⟨g', mk, t, L, E, ce, e1, e2, hq, hce, hcv, hcl, h1, hL, h2, h3⟩, st⟩
  · dsimp only [Pt.U, Pt.locs, Pt.cells, Pt.slots] at X' e1 e2 h1 h2 h3 st
    subst h1; subst h2; subst h3
    exact Or.inl ⟨v, (T.setVm vm₁).calling g' mk As.toArray, t, U', L, hT, X', hL, e1, e2, hq, st⟩
  · dsimp only [Pt.U, Pt.locs, Pt.cells, Pt.slots] at X' e1 e2 h1 h2 h3 st hcl
    subst h1; subst h2; subst h3
    exact Or.inr ⟨q, (T.setVm vm₁).calling g' mk As.toArray, t, U', L, E, ce, hT, X', hL, e1, e2, hq, hce, hcv, vx_cls hW₁ hcl, st⟩
end
end VXH
theorem vx_ofWH {l : Launch} {y : MethodName} {ws ws' : List Cond} {rm : Room} {Pc : Array Value → State → Prop} {Qc : Array Value → State → Outcome → State → Prop} {XC : String → State → State → Prop} {mc ms : Nat} {free : Addr → Prop} {cc : ByteArray} {maxL : Nat} {ret : Option FieldType} {hh : List (Nat × Nat × Nat × Nat)}
    (hy : plainName y.cls = true) (hw : ws = Cond.codeWith y cc maxL ret hh :: ws')
    (body : ∀ p e s m args below meth c s₁, BodyLoose p l y (headSpec ws rm) cc maxL ret e s m args below meth c s₁ → c.maxLocals = maxL → Pc args s →
      W p l e (headSpec ws rm).room s m args below meth c s.heap [] 0 0 (vx_MQ below Qc XC args s mc ms free) (entryFrame m args maxL)) : vx_Met l y ws rm Pc Qc XC mc ms free := by
  refine MetFree.of_bodyS (code := cc) (maxLocals := maxL) (ret := ret) hy ?_ ?_
  · intro args s m h hn
    obtain ⟨m9, meth, c, hn9, h1, h2, h3, h4, -, h5, h6, -⟩ := Cond.codeWith_spec (atoms_spec (ws := ws) h _ (by rw [hw]; exact List.mem_cons_self))
    cases hn.symm.trans hn9
    exact ⟨meth, c, h1, h2, h3, h4, h5, h6⟩
  · intro p e s m args below meth c s₁ B hml hP _
    have hh0 : s₁.heap = s.heap := by rw [B.state]; rfl
    obtain ⟨t, a1, o, b1, b2, b3⟩ := body p e s m args below meth c s₁ B hml hP s₁ hh0 (Stand.of_body B)
    exact ⟨t, o, a1, b1, b2, b3⟩
/-! ===== END ===== -/
end
section
def RX0 : String := "RailSequence$Log"
def TX0 : u_T := fun k => match k with
  | 0 => ("RailSequence$Log", "numbers", "[I", true)
  | _ => ("RailSequence$Log", "length", "I", false)
def tyX0 : Nat → FieldType := fun k => match k with
  | 0 => .array .int
  | _ => .int
abbrev wsX00 : List Cond := u_ws RX0 TX0 2
theorem nmX0 : ∀ a, a < 2 → ∀ b, b < 2 → a ≠ b → (TX0 a).2.1 ≠ (TX0 b).2.1 := by decide +kernel
theorem tyX0_ok : ∀ k, k < 2 → parseFieldDescriptor (TX0 k).2.2.1 = some (tyX0 k) := by decide +kernel
abbrev cX0_init : ByteArray := prog_2_method_1_code
def yX0_init : MethodName := ⟨RX0, "<init>", "()V"⟩
abbrev cX0_copyFrom : ByteArray := prog_2_method_2_code
def yX0_copyFrom : MethodName := ⟨RX0, "copyFrom", "(LRailSequence$Log;)V"⟩
abbrev cX0_enter : ByteArray := prog_2_method_3_code
def yX0_enter : MethodName := ⟨RX0, "enter", "(IIII)V"⟩
abbrev cX0_numberAt : ByteArray := prog_2_method_4_code
def yX0_numberAt : MethodName := ⟨RX0, "numberAt", "(II)I"⟩
abbrev cX0_removeRail : ByteArray := prog_2_method_5_code
def yX0_removeRail : MethodName := ⟨RX0, "removeRail", "(I)I"⟩
def RX1 : String := "RailSequence$Plant"
def TX1 : u_T := fun k => match k with
  | 0 => ("RailSequence$Plant", "rails", "I", false)
  | 1 => ("RailSequence$Plant", "tickNumber", "I", false)
  | 2 => ("RailSequence$Plant", "residue", "I", false)
  | 3 => ("RailSequence$Plant", "wanted", "I", false)
  | 4 => ("RailSequence$Plant", "properties", "[I", true)
  | 5 => ("RailSequence$Plant", "needs", "[I", true)
  | 6 => ("RailSequence$Plant", "state", "[I", true)
  | 7 => ("RailSequence$Plant", "voltage", "[I", true)
  | 8 => ("RailSequence$Plant", "stuck", "[I", true)
  | 9 => ("RailSequence$Plant", "shorted", "[I", true)
  | 10 => ("RailSequence$Plant", "time", "[I", true)
  | 11 => ("RailSequence$Plant", "failures", "[I", true)
  | 12 => ("RailSequence$Plant", "blame", "[I", true)
  | 13 => ("RailSequence$Plant", "accounts", "[I", true)
  | 14 => ("RailSequence$Plant", "log", "LRailSequence$Log;", true)
  | 15 => ("RailSequence$Plant", "stateBefore", "[I", true)
  | 16 => ("RailSequence$Plant", "voltageBefore", "[I", true)
  | _ => ("RailSequence$Plant", "timeBefore", "[I", true)
def tyX1 : Nat → FieldType := fun k => match k with
  | 0 => .int
  | 1 => .int
  | 2 => .int
  | 3 => .int
  | 4 => .array .int
  | 5 => .array .int
  | 6 => .array .int
  | 7 => .array .int
  | 8 => .array .int
  | 9 => .array .int
  | 10 => .array .int
  | 11 => .array .int
  | 12 => .array .int
  | 13 => .array .int
  | 14 => .object "RailSequence$Log"
  | 15 => .array .int
  | 16 => .array .int
  | _ => .array .int
abbrev wsX10 : List Cond := u_ws RX1 TX1 18
theorem nmX1 : ∀ a, a < 18 → ∀ b, b < 18 → a ≠ b → (TX1 a).2.1 ≠ (TX1 b).2.1 := by decide +kernel
theorem tyX1_ok : ∀ k, k < 18 → parseFieldDescriptor (TX1 k).2.2.1 = some (tyX1 k) := by decide +kernel
abbrev cX1_init : ByteArray := prog_3_method_1_code
def yX1_init : MethodName := ⟨RX1, "<init>", "()V"⟩
abbrev cX1_copyFrom : ByteArray := prog_3_method_2_code
def yX1_copyFrom : MethodName := ⟨RX1, "copyFrom", "(LRailSequence$Plant;)V"⟩
abbrev cX1_add : ByteArray := prog_3_method_3_code
def yX1_add : MethodName := ⟨RX1, "add", "(IIII)V"⟩
abbrev cX1_propertyOf : ByteArray := prog_3_method_4_code
def yX1_propertyOf : MethodName := ⟨RX1, "propertyOf", "(II)I"⟩
abbrev cX1_isWanted : ByteArray := prog_3_method_5_code
def yX1_isWanted : MethodName := ⟨RX1, "isWanted", "(I)Z"⟩
abbrev cX1_isDischarged : ByteArray := prog_3_method_6_code
def yX1_isDischarged : MethodName := ⟨RX1, "isDischarged", "(I)Z"⟩
abbrev cX1_hasFlag : ByteArray := prog_3_method_7_code
def yX1_hasFlag : MethodName := ⟨RX1, "hasFlag", "(I)Z"⟩
abbrev cX1_numberOf : ByteArray := prog_3_method_8_code
def yX1_numberOf : MethodName := ⟨RX1, "numberOf", "(II)I"⟩
abbrev cX1_firstBlameOf : ByteArray := prog_3_method_9_code
def yX1_firstBlameOf : MethodName := ⟨RX1, "firstBlameOf", "(I)I"⟩
abbrev cX1_leastPatienceOf : ByteArray := prog_3_method_10_code
def yX1_leastPatienceOf : MethodName := ⟨RX1, "leastPatienceOf", "(I)I"⟩
abbrev cX1_withAllNeeded : ByteArray := prog_3_method_11_code
def yX1_withAllNeeded : MethodName := ⟨RX1, "withAllNeeded", "(I)I"⟩
abbrev cX1_withFollowers : ByteArray := prog_3_method_12_code
def yX1_withFollowers : MethodName := ⟨RX1, "withFollowers", "(I)I"⟩
abbrev cX1_maskOf : ByteArray := prog_3_method_13_code
def yX1_maskOf : MethodName := ⟨RX1, "maskOf", "(I)I"⟩
abbrev cX1_sumOfVoltages : ByteArray := prog_3_method_14_code
def yX1_sumOfVoltages : MethodName := ⟨RX1, "sumOfVoltages", "()I"⟩
abbrev cX1_isAllOff : ByteArray := prog_3_method_15_code
def yX1_isAllOff : MethodName := ⟨RX1, "isAllOff", "()Z"⟩
abbrev cX1_passTick : ByteArray := prog_3_method_16_code
def yX1_passTick : MethodName := ⟨RX1, "passTick", "()I"⟩
abbrev cX1_rememberBefore : ByteArray := prog_3_method_17_code
def yX1_rememberBefore : MethodName := ⟨RX1, "rememberBefore", "()V"⟩
abbrev cX1_moveVoltages : ByteArray := prog_3_method_18_code
def yX1_moveVoltages : MethodName := ⟨RX1, "moveVoltages", "()V"⟩
abbrev cX1_nextState : ByteArray := prog_3_method_19_code
def yX1_nextState : MethodName := ⟨RX1, "nextState", "(I)I"⟩
abbrev cX1_afterOff : ByteArray := prog_3_method_20_code
def yX1_afterOff : MethodName := ⟨RX1, "afterOff", "(I)I"⟩
abbrev cX1_afterWaiting : ByteArray := prog_3_method_21_code
def yX1_afterWaiting : MethodName := ⟨RX1, "afterWaiting", "(I)I"⟩
abbrev cX1_afterRising : ByteArray := prog_3_method_22_code
def yX1_afterRising : MethodName := ⟨RX1, "afterRising", "(I)I"⟩
abbrev cX1_afterGood : ByteArray := prog_3_method_23_code
def yX1_afterGood : MethodName := ⟨RX1, "afterGood", "(I)I"⟩
abbrev cX1_afterFalling : ByteArray := prog_3_method_24_code
def yX1_afterFalling : MethodName := ⟨RX1, "afterFalling", "(I)I"⟩
abbrev cX1_afterFailure : ByteArray := prog_3_method_25_code
def yX1_afterFailure : MethodName := ⟨RX1, "afterFailure", "(I)I"⟩
abbrev cX1_lowestBadNeed : ByteArray := prog_3_method_26_code
def yX1_lowestBadNeed : MethodName := ⟨RX1, "lowestBadNeed", "(I)I"⟩
abbrev cX1_areUsersAtRest : ByteArray := prog_3_method_27_code
def yX1_areUsersAtRest : MethodName := ⟨RX1, "areUsersAtRest", "(I)Z"⟩
abbrev cX1_become : ByteArray := prog_3_method_28_code
def yX1_become : MethodName := ⟨RX1, "become", "(II)V"⟩
abbrev cX1_endTick : ByteArray := prog_3_method_29_code
def yX1_endTick : MethodName := ⟨RX1, "endTick", "()V"⟩
abbrev cX1_wasStill : ByteArray := prog_3_method_30_code
def yX1_wasStill : MethodName := ⟨RX1, "wasStill", "()Z"⟩
abbrev cX1_isSettled : ByteArray := prog_3_method_31_code
def yX1_isSettled : MethodName := ⟨RX1, "isSettled", "()Z"⟩
abbrev cX1_justDropped : ByteArray := prog_3_method_32_code
def yX1_justDropped : MethodName := ⟨RX1, "justDropped", "()I"⟩
abbrev cX1_dropForRestart : ByteArray := prog_3_method_33_code
def yX1_dropForRestart : MethodName := ⟨RX1, "dropForRestart", "(I)I"⟩
abbrev cX1_isToDrop : ByteArray := prog_3_method_34_code
def yX1_isToDrop : MethodName := ⟨RX1, "isToDrop", "(I)Z"⟩
def RX2 : String := "RailSequence$TextReader"
def TX2 : u_T := fun k => match k with
  | 0 => ("RailSequence$TextReader", "numbers", "[I", true)
  | 1 => ("RailSequence$TextReader", "needs", "I", false)
  | 2 => ("RailSequence$TextReader", "part", "I", false)
  | _ => ("RailSequence$TextReader", "latestNeed", "I", false)
def tyX2 : Nat → FieldType := fun k => match k with
  | 0 => .array .int
  | 1 => .int
  | 2 => .int
  | _ => .int
abbrev wsX20 : List Cond := u_ws RX2 TX2 4
theorem nmX2 : ∀ a, a < 4 → ∀ b, b < 4 → a ≠ b → (TX2 a).2.1 ≠ (TX2 b).2.1 := by decide +kernel
theorem tyX2_ok : ∀ k, k < 4 → parseFieldDescriptor (TX2 k).2.2.1 = some (tyX2 k) := by decide +kernel
abbrev cX2_init : ByteArray := prog_4_method_1_code
def yX2_init : MethodName := ⟨RX2, "<init>", "()V"⟩
abbrev cX2_begin : ByteArray := prog_4_method_2_code
def yX2_begin : MethodName := ⟨RX2, "begin", "()V"⟩
abbrev cX2_take : ByteArray := prog_4_method_3_code
def yX2_take : MethodName := ⟨RX2, "take", "(I)Z"⟩
abbrev cX2_isAtEndOfRail : ByteArray := prog_4_method_4_code
def yX2_isAtEndOfRail : MethodName := ⟨RX2, "isAtEndOfRail", "()Z"⟩
abbrev cX2_takeDigit : ByteArray := prog_4_method_5_code
def yX2_takeDigit : MethodName := ⟨RX2, "takeDigit", "(I)Z"⟩
abbrev cX2_takeNeed : ByteArray := prog_4_method_6_code
def yX2_takeNeed : MethodName := ⟨RX2, "takeNeed", "(I)Z"⟩
abbrev cX2_takePart : ByteArray := prog_4_method_7_code
def yX2_takePart : MethodName := ⟨RX2, "takePart", "(I)Z"⟩
abbrev cX2_isNumberComplete : ByteArray := prog_4_method_8_code
def yX2_isNumberComplete : MethodName := ⟨RX2, "isNumberComplete", "()Z"⟩
def RX3 : String := "RailSequence"
def TX3 : u_T := fun k => match k with
  | 0 => ("RailSequence", "now", "LRailSequence$Plant;", true)
  | 1 => ("RailSequence", "future", "LRailSequence$Plant;", true)
  | 2 => ("RailSequence", "saved", "[LRailSequence$Plant;", true)
  | 3 => ("RailSequence", "savedStates", "I", false)
  | 4 => ("RailSequence", "buffer", "[I", true)
  | 5 => ("RailSequence", "bufferLength", "I", false)
  | _ => ("RailSequence", "reader", "LRailSequence$TextReader;", true)
def tyX3 : Nat → FieldType := fun k => match k with
  | 0 => .object "RailSequence$Plant"
  | 1 => .object "RailSequence$Plant"
  | 2 => .array (.object "RailSequence$Plant")
  | 3 => .int
  | 4 => .array .int
  | 5 => .int
  | _ => .object "RailSequence$TextReader"
abbrev wsX30 : List Cond := u_ws RX3 TX3 7
theorem nmX3 : ∀ a, a < 7 → ∀ b, b < 7 → a ≠ b → (TX3 a).2.1 ≠ (TX3 b).2.1 := by decide +kernel
theorem tyX3_ok : ∀ k, k < 7 → parseFieldDescriptor (TX3 k).2.2.1 = some (tyX3 k) := by decide +kernel
abbrev cX3_init : ByteArray := prog_1_method_1_code
def yX3_init : MethodName := ⟨RX3, "<init>", "()V"⟩
abbrev cX3_addRail : ByteArray := prog_1_method_2_code
def yX3_addRail : MethodName := ⟨RX3, "addRail", "(IIII)I"⟩
abbrev cX3_set : ByteArray := prog_1_method_3_code
def yX3_set : MethodName := ⟨RX3, "set", "(III)I"⟩
abbrev cX3_setNeeds : ByteArray := prog_1_method_4_code
def yX3_setNeeds : MethodName := ⟨RX3, "setNeeds", "(II)I"⟩
abbrev cX3_setResidue : ByteArray := prog_1_method_5_code
def yX3_setResidue : MethodName := ⟨RX3, "setResidue", "(I)I"⟩
abbrev cX3_on : ByteArray := prog_1_method_6_code
def yX3_on : MethodName := ⟨RX3, "on", "(I)I"⟩
abbrev cX3_off : ByteArray := prog_1_method_7_code
def yX3_off : MethodName := ⟨RX3, "off", "(I)I"⟩
abbrev cX3_restart : ByteArray := prog_1_method_8_code
def yX3_restart : MethodName := ⟨RX3, "restart", "(I)I"⟩
abbrev cX3_shortCircuit : ByteArray := prog_1_method_9_code
def yX3_shortCircuit : MethodName := ⟨RX3, "shortCircuit", "(II)I"⟩
abbrev cX3_stick : ByteArray := prog_1_method_10_code
def yX3_stick : MethodName := ⟨RX3, "stick", "(II)I"⟩
abbrev cX3_tick : ByteArray := prog_1_method_11_code
def yX3_tick : MethodName := ⟨RX3, "tick", "(I)I"⟩
abbrev cX3_append : ByteArray := prog_1_method_12_code
def yX3_append : MethodName := ⟨RX3, "append", "(I)I"⟩
abbrev cX3_clearBuffer : ByteArray := prog_1_method_13_code
def yX3_clearBuffer : MethodName := ⟨RX3, "clearBuffer", "()I"⟩
abbrev cX3_firstError : ByteArray := prog_1_method_14_code
def yX3_firstError : MethodName := ⟨RX3, "firstError", "()I"⟩
abbrev cX3_load : ByteArray := prog_1_method_15_code
def yX3_load : MethodName := ⟨RX3, "load", "()I"⟩
abbrev cX3_undo : ByteArray := prog_1_method_16_code
def yX3_undo : MethodName := ⟨RX3, "undo", "()I"⟩
abbrev cX3_rail : ByteArray := prog_1_method_17_code
def yX3_rail : MethodName := ⟨RX3, "rail", "(II)I"⟩
abbrev cX3_account : ByteArray := prog_1_method_18_code
def yX3_account : MethodName := ⟨RX3, "account", "(II)I"⟩
abbrev cX3_entry : ByteArray := prog_1_method_19_code
def yX3_entry : MethodName := ⟨RX3, "entry", "(II)I"⟩
abbrev cX3_forget : ByteArray := prog_1_method_20_code
def yX3_forget : MethodName := ⟨RX3, "forget", "(I)I"⟩
abbrev cX3_count : ByteArray := prog_1_method_21_code
def yX3_count : MethodName := ⟨RX3, "count", "(I)I"⟩
abbrev cX3_allGoodIn : ByteArray := prog_1_method_22_code
def yX3_allGoodIn : MethodName := ⟨RX3, "allGoodIn", "()I"⟩
abbrev cX3_allOffIn : ByteArray := prog_1_method_23_code
def yX3_allOffIn : MethodName := ⟨RX3, "allOffIn", "()I"⟩
abbrev cX3_ifShort : ByteArray := prog_1_method_24_code
def yX3_ifShort : MethodName := ⟨RX3, "ifShort", "(III)I"⟩
abbrev cX3_leastPatience : ByteArray := prog_1_method_25_code
def yX3_leastPatience : MethodName := ⟨RX3, "leastPatience", "(I)I"⟩
abbrev cX3_goodShare : ByteArray := prog_1_method_26_code
def yX3_goodShare : MethodName := ⟨RX3, "goodShare", "()D"⟩
abbrev cX3_digest : ByteArray := prog_1_method_27_code
def yX3_digest : MethodName := ⟨RX3, "digest", "()J"⟩
abbrev cX3_isRail : ByteArray := prog_1_method_28_code
def yX3_isRail : MethodName := ⟨RX3, "isRail", "(I)Z"⟩
abbrev cX3_areRails : ByteArray := prog_1_method_29_code
def yX3_areRails : MethodName := ⟨RX3, "areRails", "(I)Z"⟩
abbrev cX3_areBelow : ByteArray := prog_1_method_30_code
def yX3_areBelow : MethodName := ⟨RX3, "areBelow", "(II)Z"⟩
abbrev cX3_isInRange : ByteArray := prog_1_method_31_code
def yX3_isInRange : MethodName := ⟨RX3, "isInRange", "(II)Z"⟩
abbrev cX3_save : ByteArray := prog_1_method_32_code
def yX3_save : MethodName := ⟨RX3, "save", "()V"⟩
abbrev cX3_dropOldestSaved : ByteArray := prog_1_method_33_code
def yX3_dropOldestSaved : MethodName := ⟨RX3, "dropOldestSaved", "()V"⟩
abbrev cX3_readBuffer : ByteArray := prog_1_method_34_code
def yX3_readBuffer : MethodName := ⟨RX3, "readBuffer", "()I"⟩
abbrev cX3_addTextToFuture : ByteArray := prog_1_method_35_code
def yX3_addTextToFuture : MethodName := ⟨RX3, "addTextToFuture", "()Z"⟩
abbrev cX3_addReadRailToFuture : ByteArray := prog_1_method_36_code
def yX3_addReadRailToFuture : MethodName := ⟨RX3, "addReadRailToFuture", "()Z"⟩
abbrev cX3_countOf : ByteArray := prog_1_method_37_code
def yX3_countOf : MethodName := ⟨RX3, "countOf", "(I)I"⟩
abbrev cX3_hashOfRail : ByteArray := prog_1_method_38_code
def yX3_hashOfRail : MethodName := ⟨RX3, "hashOfRail", "(JI)J"⟩
abbrev cX3_hashOfLog : ByteArray := prog_1_method_39_code
def yX3_hashOfLog : MethodName := ⟨RX3, "hashOfLog", "(J)J"⟩
abbrev cX3_hashOfBuffer : ByteArray := prog_1_method_40_code
def yX3_hashOfBuffer : MethodName := ⟨RX3, "hashOfBuffer", "(J)J"⟩
abbrev cX3_bitsOfShare : ByteArray := prog_1_method_41_code
def yX3_bitsOfShare : MethodName := ⟨RX3, "bitsOfShare", "(D)J"⟩
def RX4 : String := "RailSequenceModel"
def TX4 : u_T := fun k => match k with
  | 0 => ("RailSequenceModel", "thrown", "I", false)
  | 1 => ("RailSequenceModel", "z", "[I", true)
  | 2 => ("RailSequenceModel", "saves", "I", false)
  | 3 => ("RailSequenceModel", "saved", "[I", true)
  | 4 => ("RailSequenceModel", "length", "I", false)
  | 5 => ("RailSequenceModel", "text", "[I", true)
  | 6 => ("RailSequenceModel", "changes", "I", false)
  | 7 => ("RailSequenceModel", "fallen", "I", false)
  | 8 => ("RailSequenceModel", "was", "[I", true)
  | 9 => ("RailSequenceModel", "aside", "[I", true)
  | 10 => ("RailSequenceModel", "which", "I", false)
  | 11 => ("RailSequenceModel", "digits", "I", false)
  | 12 => ("RailSequenceModel", "last", "I", false)
  | 13 => ("RailSequenceModel", "rails", "I", false)
  | 14 => ("RailSequenceModel", "read", "[I", true)
  | _ => ("RailSequenceModel", "h", "J", false)
def tyX4 : Nat → FieldType := fun k => match k with
  | 0 => .int
  | 1 => .array .int
  | 2 => .int
  | 3 => .array .int
  | 4 => .int
  | 5 => .array .int
  | 6 => .int
  | 7 => .int
  | 8 => .array .int
  | 9 => .array .int
  | 10 => .int
  | 11 => .int
  | 12 => .int
  | 13 => .int
  | 14 => .array .int
  | _ => .long
abbrev wsX40 : List Cond := u_ws RX4 TX4 16
theorem nmX4 : ∀ a, a < 16 → ∀ b, b < 16 → a ≠ b → (TX4 a).2.1 ≠ (TX4 b).2.1 := by decide +kernel
theorem tyX4_ok : ∀ k, k < 16 → parseFieldDescriptor (TX4 k).2.2.1 = some (tyX4 k) := by decide +kernel
abbrev cX4_init : ByteArray := prog_6_method_1_code
def yX4_init : MethodName := ⟨RX4, "<init>", "()V"⟩
abbrev cX4_thrown : ByteArray := prog_6_method_2_code
def yX4_thrown : MethodName := ⟨RX4, "thrown", "()I"⟩
abbrev cX4_within : ByteArray := prog_6_method_3_code
def yX4_within : MethodName := ⟨RX4, "within", "(III)Z"⟩
abbrev cX4_of : ByteArray := prog_6_method_4_code
def yX4_of : MethodName := ⟨RX4, "of", "(II)I"⟩
abbrev cX4_lay : ByteArray := prog_6_method_5_code
def yX4_lay : MethodName := ⟨RX4, "lay", "(III)V"⟩
abbrev cX4_add : ByteArray := prog_6_method_6_code
def yX4_add : MethodName := ⟨RX4, "add", "(II)V"⟩
abbrev cX4_isRail : ByteArray := prog_6_method_7_code
def yX4_isRail : MethodName := ⟨RX4, "isRail", "(I)Z"⟩
abbrev cX4_has : ByteArray := prog_6_method_8_code
def yX4_has : MethodName := ⟨RX4, "has", "(II)Z"⟩
abbrev cX4_allRails : ByteArray := prog_6_method_9_code
def yX4_allRails : MethodName := ⟨RX4, "allRails", "()I"⟩
abbrev cX4_isMask : ByteArray := prog_6_method_10_code
def yX4_isMask : MethodName := ⟨RX4, "isMask", "(II)Z"⟩
abbrev cX4_isDischarged : ByteArray := prog_6_method_11_code
def yX4_isDischarged : MethodName := ⟨RX4, "isDischarged", "(I)Z"⟩
abbrev cX4_isFlag : ByteArray := prog_6_method_12_code
def yX4_isFlag : MethodName := ⟨RX4, "isFlag", "(I)Z"⟩
abbrev cX4_followers : ByteArray := prog_6_method_13_code
def yX4_followers : MethodName := ⟨RX4, "followers", "(I)I"⟩
abbrev cX4_become : ByteArray := prog_6_method_14_code
def yX4_become : MethodName := ⟨RX4, "become", "(II)V"⟩
abbrev cX4_becomeFor : ByteArray := prog_6_method_15_code
def yX4_becomeFor : MethodName := ⟨RX4, "becomeFor", "(III)V"⟩
abbrev cX4_towards : ByteArray := prog_6_method_16_code
def yX4_towards : MethodName := ⟨RX4, "towards", "(III)I"⟩
abbrev cX4_moveVoltage : ByteArray := prog_6_method_17_code
def yX4_moveVoltage : MethodName := ⟨RX4, "moveVoltage", "(I)V"⟩
abbrev cX4_missing : ByteArray := prog_6_method_18_code
def yX4_missing : MethodName := ⟨RX4, "missing", "(I)I"⟩
abbrev cX4_isUsed : ByteArray := prog_6_method_19_code
def yX4_isUsed : MethodName := ⟨RX4, "isUsed", "(I)Z"⟩
abbrev cX4_fail : ByteArray := prog_6_method_20_code
def yX4_fail : MethodName := ⟨RX4, "fail", "(I)V"⟩
abbrev cX4_lookWaiting : ByteArray := prog_6_method_21_code
def yX4_lookWaiting : MethodName := ⟨RX4, "lookWaiting", "(I)V"⟩
abbrev cX4_lookRising : ByteArray := prog_6_method_22_code
def yX4_lookRising : MethodName := ⟨RX4, "lookRising", "(I)V"⟩
abbrev cX4_lookGood : ByteArray := prog_6_method_23_code
def yX4_lookGood : MethodName := ⟨RX4, "lookGood", "(I)V"⟩
abbrev cX4_look : ByteArray := prog_6_method_24_code
def yX4_look : MethodName := ⟨RX4, "look", "(I)V"⟩
abbrev cX4_pass : ByteArray := prog_6_method_25_code
def yX4_pass : MethodName := ⟨RX4, "pass", "()V"⟩
abbrev cX4_save : ByteArray := prog_6_method_26_code
def yX4_save : MethodName := ⟨RX4, "save", "()V"⟩
abbrev cX4_undo : ByteArray := prog_6_method_27_code
def yX4_undo : MethodName := ⟨RX4, "undo", "()I"⟩
abbrev cX4_keepAside : ByteArray := prog_6_method_28_code
def yX4_keepAside : MethodName := ⟨RX4, "keepAside", "()V"⟩
abbrev cX4_takeBack : ByteArray := prog_6_method_29_code
def yX4_takeBack : MethodName := ⟨RX4, "takeBack", "()V"⟩
abbrev cX4_isValue : ByteArray := prog_6_method_30_code
def yX4_isValue : MethodName := ⟨RX4, "isValue", "(II)Z"⟩
abbrev cX4_bring : ByteArray := prog_6_method_31_code
def yX4_bring : MethodName := ⟨RX4, "bring", "(IIII)V"⟩
abbrev cX4_addRail : ByteArray := prog_6_method_32_code
def yX4_addRail : MethodName := ⟨RX4, "addRail", "(IIII)I"⟩
abbrev cX4_replaced : ByteArray := prog_6_method_33_code
def yX4_replaced : MethodName := ⟨RX4, "replaced", "(III)I"⟩
abbrev cX4_set : ByteArray := prog_6_method_34_code
def yX4_set : MethodName := ⟨RX4, "set", "(III)I"⟩
abbrev cX4_setNeeds : ByteArray := prog_6_method_35_code
def yX4_setNeeds : MethodName := ⟨RX4, "setNeeds", "(II)I"⟩
abbrev cX4_setResidue : ByteArray := prog_6_method_36_code
def yX4_setResidue : MethodName := ⟨RX4, "setResidue", "(I)I"⟩
abbrev cX4_maskOf : ByteArray := prog_6_method_37_code
def yX4_maskOf : MethodName := ⟨RX4, "maskOf", "(II)I"⟩
abbrev cX4_on : ByteArray := prog_6_method_38_code
def yX4_on : MethodName := ⟨RX4, "on", "(I)I"⟩
abbrev cX4_unwant : ByteArray := prog_6_method_39_code
def yX4_unwant : MethodName := ⟨RX4, "unwant", "(I)V"⟩
abbrev cX4_off : ByteArray := prog_6_method_40_code
def yX4_off : MethodName := ⟨RX4, "off", "(I)I"⟩
abbrev cX4_restart : ByteArray := prog_6_method_41_code
def yX4_restart : MethodName := ⟨RX4, "restart", "(I)I"⟩
abbrev cX4_shortCircuit : ByteArray := prog_6_method_42_code
def yX4_shortCircuit : MethodName := ⟨RX4, "shortCircuit", "(II)I"⟩
abbrev cX4_stick : ByteArray := prog_6_method_43_code
def yX4_stick : MethodName := ⟨RX4, "stick", "(II)I"⟩
abbrev cX4_tick : ByteArray := prog_6_method_44_code
def yX4_tick : MethodName := ⟨RX4, "tick", "(I)I"⟩
abbrev cX4_append : ByteArray := prog_6_method_45_code
def yX4_append : MethodName := ⟨RX4, "append", "(I)I"⟩
abbrev cX4_clearBuffer : ByteArray := prog_6_method_46_code
def yX4_clearBuffer : MethodName := ⟨RX4, "clearBuffer", "()I"⟩
abbrev cX4_beginRail : ByteArray := prog_6_method_47_code
def yX4_beginRail : MethodName := ⟨RX4, "beginRail", "()V"⟩
abbrev cX4_least : ByteArray := prog_6_method_48_code
def yX4_least : MethodName := ⟨RX4, "least", "()I"⟩
abbrev cX4_takesDigit : ByteArray := prog_6_method_49_code
def yX4_takesDigit : MethodName := ⟨RX4, "takesDigit", "(I)Z"⟩
abbrev cX4_isNumberOver : ByteArray := prog_6_method_50_code
def yX4_isNumberOver : MethodName := ⟨RX4, "isNumberOver", "()Z"⟩
abbrev cX4_isRailOver : ByteArray := prog_6_method_51_code
def yX4_isRailOver : MethodName := ⟨RX4, "isRailOver", "()Z"⟩
abbrev cX4_takes : ByteArray := prog_6_method_52_code
def yX4_takes : MethodName := ⟨RX4, "takes", "(I)Z"⟩
abbrev cX4_readText : ByteArray := prog_6_method_53_code
def yX4_readText : MethodName := ⟨RX4, "readText", "()I"⟩
abbrev cX4_firstError : ByteArray := prog_6_method_54_code
def yX4_firstError : MethodName := ⟨RX4, "firstError", "()I"⟩
abbrev cX4_isEarlier : ByteArray := prog_6_method_55_code
def yX4_isEarlier : MethodName := ⟨RX4, "isEarlier", "()Z"⟩
abbrev cX4_load : ByteArray := prog_6_method_56_code
def yX4_load : MethodName := ⟨RX4, "load", "()I"⟩
abbrev cX4_firstBlame : ByteArray := prog_6_method_57_code
def yX4_firstBlame : MethodName := ⟨RX4, "firstBlame", "(I)I"⟩
abbrev cX4_railNow : ByteArray := prog_6_method_58_code
def yX4_railNow : MethodName := ⟨RX4, "railNow", "(II)I"⟩
abbrev cX4_rail : ByteArray := prog_6_method_59_code
def yX4_rail : MethodName := ⟨RX4, "rail", "(II)I"⟩
abbrev cX4_account : ByteArray := prog_6_method_60_code
def yX4_account : MethodName := ⟨RX4, "account", "(II)I"⟩
abbrev cX4_entryNow : ByteArray := prog_6_method_61_code
def yX4_entryNow : MethodName := ⟨RX4, "entryNow", "(II)I"⟩
abbrev cX4_entry : ByteArray := prog_6_method_62_code
def yX4_entry : MethodName := ⟨RX4, "entry", "(II)I"⟩
abbrev cX4_forget : ByteArray := prog_6_method_63_code
def yX4_forget : MethodName := ⟨RX4, "forget", "(I)I"⟩
abbrev cX4_voltages : ByteArray := prog_6_method_64_code
def yX4_voltages : MethodName := ⟨RX4, "voltages", "()I"⟩
abbrev cX4_isStill : ByteArray := prog_6_method_65_code
def yX4_isStill : MethodName := ⟨RX4, "isStill", "()Z"⟩
abbrev cX4_counted : ByteArray := prog_6_method_66_code
def yX4_counted : MethodName := ⟨RX4, "counted", "(I)I"⟩
abbrev cX4_count : ByteArray := prog_6_method_67_code
def yX4_count : MethodName := ⟨RX4, "count", "(I)I"⟩
abbrev cX4_isAllGood : ByteArray := prog_6_method_68_code
def yX4_isAllGood : MethodName := ⟨RX4, "isAllGood", "()Z"⟩
abbrev cX4_isAllOff : ByteArray := prog_6_method_69_code
def yX4_isAllOff : MethodName := ⟨RX4, "isAllOff", "()Z"⟩
abbrev cX4_goesIn : ByteArray := prog_6_method_70_code
def yX4_goesIn : MethodName := ⟨RX4, "goesIn", "(Z)I"⟩
abbrev cX4_allGoodIn : ByteArray := prog_6_method_71_code
def yX4_allGoodIn : MethodName := ⟨RX4, "allGoodIn", "()I"⟩
abbrev cX4_allOffIn : ByteArray := prog_6_method_72_code
def yX4_allOffIn : MethodName := ⟨RX4, "allOffIn", "()I"⟩
abbrev cX4_shortAnswer : ByteArray := prog_6_method_73_code
def yX4_shortAnswer : MethodName := ⟨RX4, "shortAnswer", "(III)I"⟩
abbrev cX4_ifShort : ByteArray := prog_6_method_74_code
def yX4_ifShort : MethodName := ⟨RX4, "ifShort", "(III)I"⟩
abbrev cX4_patienceFor : ByteArray := prog_6_method_75_code
def yX4_patienceFor : MethodName := ⟨RX4, "patienceFor", "(I)I"⟩
abbrev cX4_leastPatience : ByteArray := prog_6_method_76_code
def yX4_leastPatience : MethodName := ⟨RX4, "leastPatience", "(I)I"⟩
abbrev cX4_shareNow : ByteArray := prog_6_method_77_code
def yX4_shareNow : MethodName := ⟨RX4, "shareNow", "()D"⟩
abbrev cX4_goodShare : ByteArray := prog_6_method_78_code
def yX4_goodShare : MethodName := ⟨RX4, "goodShare", "()D"⟩
abbrev cX4_mix : ByteArray := prog_6_method_79_code
def yX4_mix : MethodName := ⟨RX4, "mix", "(J)V"⟩
abbrev cX4_mixRail : ByteArray := prog_6_method_80_code
def yX4_mixRail : MethodName := ⟨RX4, "mixRail", "(I)V"⟩
abbrev cX4_digest : ByteArray := prog_6_method_81_code
def yX4_digest : MethodName := ⟨RX4, "digest", "()J"⟩
def RJxe99ae : String := "java/lang/Double"
def TJxe99ae : u_T := fun k => match k with
  | _ => ("", "", "", false)
def tyJxe99ae : Nat → FieldType := fun k => match k with
  | _ => .int
abbrev wsJxe99ae0 : List Cond := u_ws RJxe99ae TJxe99ae 0
theorem nmJxe99ae : ∀ a, a < 0 → ∀ b, b < 0 → a ≠ b → (TJxe99ae a).2.1 ≠ (TJxe99ae b).2.1 := by decide +kernel
theorem tyJxe99ae_ok : ∀ k, k < 0 → parseFieldDescriptor (TJxe99ae k).2.2.1 = some (tyJxe99ae k) := by decide +kernel
abbrev cJxe99ae_isNaN_b9ae7 : ByteArray := prog_7_method_6_code
def yJxe99ae_isNaN_b9ae7 : MethodName := ⟨RJxe99ae, "isNaN", "(D)Z"⟩
abbrev cJxe99ae_doubleToLongBits_ccdee : ByteArray := prog_7_method_23_code
def yJxe99ae_doubleToLongBits_ccdee : MethodName := ⟨RJxe99ae, "doubleToLongBits", "(D)J"⟩
def RJ9 : String := "java/lang/Math"
def TJ9 : u_T := fun k => match k with
  | _ => ("", "", "", false)
def tyJ9 : Nat → FieldType := fun k => match k with
  | _ => .int
abbrev wsJ90 : List Cond := u_ws RJ9 TJ9 0
theorem nmJ9 : ∀ a, a < 0 → ∀ b, b < 0 → a ≠ b → (TJ9 a).2.1 ≠ (TJ9 b).2.1 := by decide +kernel
theorem tyJ9_ok : ∀ k, k < 0 → parseFieldDescriptor (TJ9 k).2.2.1 = some (tyJ9 k) := by decide +kernel
abbrev cJ9_max_7cf53 : ByteArray := prog_12_method_65_code
def yJ9_max_7cf53 : MethodName := ⟨RJ9, "max", "(II)I"⟩
abbrev cJ9_min_7cf53 : ByteArray := prog_12_method_69_code
def yJ9_min_7cf53 : MethodName := ⟨RJ9, "min", "(II)I"⟩
def RJ0 : String := "java/lang/String"
def TJ0 : u_T := fun k => match k with
  | _ => ("", "", "", false)
def tyJ0 : Nat → FieldType := fun k => match k with
  | _ => .int
abbrev wsJ00 : List Cond := u_ws RJ0 TJ0 0
theorem nmJ0 : ∀ a, a < 0 → ∀ b, b < 0 → a ≠ b → (TJ0 a).2.1 ≠ (TJ0 b).2.1 := by decide +kernel
theorem tyJ0_ok : ∀ k, k < 0 → parseFieldDescriptor (TJ0 k).2.2.1 = some (tyJ0 k) := by decide +kernel
def RJ10 : String := "java/lang/System"
def TJ10 : u_T := fun k => match k with
  | _ => ("", "", "", false)
def tyJ10 : Nat → FieldType := fun k => match k with
  | _ => .int
abbrev wsJ100 : List Cond := u_ws RJ10 TJ10 0
theorem nmJ10 : ∀ a, a < 0 → ∀ b, b < 0 → a ≠ b → (TJ10 a).2.1 ≠ (TJ10 b).2.1 := by decide +kernel
theorem tyJ10_ok : ∀ k, k < 0 → parseFieldDescriptor (TJ10 k).2.2.1 = some (tyJ10 k) := by decide +kernel
def RL : String := "RailSequenceLaw"
abbrev cL_addRail : ByteArray := method_3_code
def yL_addRail : MethodName := ⟨RL, "addRail", "(LRailSequence;IIII[J)I"⟩
abbrev cL_set : ByteArray := method_4_code
def yL_set : MethodName := ⟨RL, "set", "(LRailSequence;III[J)I"⟩
abbrev cL_setNeeds : ByteArray := method_5_code
def yL_setNeeds : MethodName := ⟨RL, "setNeeds", "(LRailSequence;II[J)I"⟩
abbrev cL_setResidue : ByteArray := method_6_code
def yL_setResidue : MethodName := ⟨RL, "setResidue", "(LRailSequence;I[J)I"⟩
abbrev cL_on : ByteArray := method_7_code
def yL_on : MethodName := ⟨RL, "on", "(LRailSequence;I[J)I"⟩
abbrev cL_off : ByteArray := method_8_code
def yL_off : MethodName := ⟨RL, "off", "(LRailSequence;I[J)I"⟩
abbrev cL_restart : ByteArray := method_9_code
def yL_restart : MethodName := ⟨RL, "restart", "(LRailSequence;I[J)I"⟩
abbrev cL_shortCircuit : ByteArray := method_10_code
def yL_shortCircuit : MethodName := ⟨RL, "shortCircuit", "(LRailSequence;II[J)I"⟩
abbrev cL_stick : ByteArray := method_11_code
def yL_stick : MethodName := ⟨RL, "stick", "(LRailSequence;II[J)I"⟩
abbrev cL_tick : ByteArray := method_12_code
def yL_tick : MethodName := ⟨RL, "tick", "(LRailSequence;I[J)I"⟩
abbrev cL_append : ByteArray := method_13_code
def yL_append : MethodName := ⟨RL, "append", "(LRailSequence;I[J)I"⟩
abbrev cL_load : ByteArray := method_14_code
def yL_load : MethodName := ⟨RL, "load", "(LRailSequence;[J)I"⟩
abbrev cL_undo : ByteArray := method_15_code
def yL_undo : MethodName := ⟨RL, "undo", "(LRailSequence;[J)I"⟩
abbrev cL_rail : ByteArray := method_16_code
def yL_rail : MethodName := ⟨RL, "rail", "(LRailSequence;II[J)I"⟩
abbrev cL_account : ByteArray := method_17_code
def yL_account : MethodName := ⟨RL, "account", "(LRailSequence;II[J)I"⟩
abbrev cL_entry : ByteArray := method_18_code
def yL_entry : MethodName := ⟨RL, "entry", "(LRailSequence;II[J)I"⟩
abbrev cL_forget : ByteArray := method_19_code
def yL_forget : MethodName := ⟨RL, "forget", "(LRailSequence;I[J)I"⟩
abbrev cL_count : ByteArray := method_20_code
def yL_count : MethodName := ⟨RL, "count", "(LRailSequence;I[J)I"⟩
abbrev cL_ifShort : ByteArray := method_21_code
def yL_ifShort : MethodName := ⟨RL, "ifShort", "(LRailSequence;III[J)I"⟩
abbrev cL_leastPatience : ByteArray := method_22_code
def yL_leastPatience : MethodName := ⟨RL, "leastPatience", "(LRailSequence;I[J)I"⟩
abbrev cL_law : ByteArray := code
def yL_law : MethodName := ⟨RL, "law", "([I)Z"⟩
abbrev vwCl : List vw_C := [(RX0, TX0, 2), (RX1, TX1, 18), (RX2, TX2, 4), (RX3, TX3, 7), (RX4, TX4, 16)]
end
section
theorem dX0_init_0 : decode cX0_init 0 = .ok (.aload_n 0, 1) := by decide +kernel
theorem dX0_init_1 : decode cX0_init 1 = .ok (.invokespecial 1, 3) := by decide +kernel
theorem dX0_init_4 : decode cX0_init 4 = .ok (.aload_n 0, 1) := by decide +kernel
theorem dX0_init_5 : decode cX0_init 5 = .ok (.bipush 64, 2) := by decide +kernel
theorem dX0_init_7 : decode cX0_init 7 = .ok (.newarray .int, 2) := by decide +kernel
theorem dX0_init_9 : decode cX0_init 9 = .ok (.putfield 9, 3) := by decide +kernel
theorem dX0_init_12 : decode cX0_init 12 = .ok (.return_, 1) := by decide +kernel
theorem dX0_copyFrom_0 : decode cX0_copyFrom 0 = .ok (.aload_n 0, 1) := by decide +kernel
theorem dX0_copyFrom_1 : decode cX0_copyFrom 1 = .ok (.aload_n 1, 1) := by decide +kernel
theorem dX0_copyFrom_2 : decode cX0_copyFrom 2 = .ok (.getfield 13, 3) := by decide +kernel
theorem dX0_copyFrom_5 : decode cX0_copyFrom 5 = .ok (.putfield 13, 3) := by decide +kernel
theorem dX0_copyFrom_8 : decode cX0_copyFrom 8 = .ok (.aload_n 1, 1) := by decide +kernel
theorem dX0_copyFrom_9 : decode cX0_copyFrom 9 = .ok (.getfield 9, 3) := by decide +kernel
theorem dX0_copyFrom_12 : decode cX0_copyFrom 12 = .ok (.iconst 0, 1) := by decide +kernel
theorem dX0_copyFrom_13 : decode cX0_copyFrom 13 = .ok (.aload_n 0, 1) := by decide +kernel
theorem dX0_copyFrom_14 : decode cX0_copyFrom 14 = .ok (.getfield 9, 3) := by decide +kernel
theorem dX0_copyFrom_17 : decode cX0_copyFrom 17 = .ok (.iconst 0, 1) := by decide +kernel
theorem dX0_copyFrom_18 : decode cX0_copyFrom 18 = .ok (.bipush 64, 2) := by decide +kernel
theorem dX0_copyFrom_20 : decode cX0_copyFrom 20 = .ok (.invokestatic 17, 3) := by decide +kernel
theorem dX0_copyFrom_23 : decode cX0_copyFrom 23 = .ok (.return_, 1) := by decide +kernel
theorem dX0_enter_0 : decode cX0_enter 0 = .ok (.aload_n 0, 1) := by decide +kernel
theorem dX0_enter_1 : decode cX0_enter 1 = .ok (.getfield 9, 3) := by decide +kernel
theorem dX0_enter_4 : decode cX0_enter 4 = .ok (.iconst 0, 1) := by decide +kernel
theorem dX0_enter_5 : decode cX0_enter 5 = .ok (.aload_n 0, 1) := by decide +kernel
theorem dX0_enter_6 : decode cX0_enter 6 = .ok (.getfield 9, 3) := by decide +kernel
theorem dX0_enter_9 : decode cX0_enter 9 = .ok (.iconst 4, 1) := by decide +kernel
theorem dX0_enter_10 : decode cX0_enter 10 = .ok (.bipush 60, 2) := by decide +kernel
theorem dX0_enter_12 : decode cX0_enter 12 = .ok (.invokestatic 17, 3) := by decide +kernel
theorem dX0_enter_15 : decode cX0_enter 15 = .ok (.aload_n 0, 1) := by decide +kernel
theorem dX0_enter_16 : decode cX0_enter 16 = .ok (.getfield 9, 3) := by decide +kernel
theorem dX0_enter_19 : decode cX0_enter 19 = .ok (.iconst 0, 1) := by decide +kernel
theorem dX0_enter_20 : decode cX0_enter 20 = .ok (.iload_n 1, 1) := by decide +kernel
theorem dX0_enter_21 : decode cX0_enter 21 = .ok (.iastore, 1) := by decide +kernel
theorem dX0_enter_22 : decode cX0_enter 22 = .ok (.aload_n 0, 1) := by decide +kernel
theorem dX0_enter_23 : decode cX0_enter 23 = .ok (.getfield 9, 3) := by decide +kernel
theorem dX0_enter_26 : decode cX0_enter 26 = .ok (.iconst 1, 1) := by decide +kernel
theorem dX0_enter_27 : decode cX0_enter 27 = .ok (.iload_n 2, 1) := by decide +kernel
theorem dX0_enter_28 : decode cX0_enter 28 = .ok (.iastore, 1) := by decide +kernel
theorem dX0_enter_29 : decode cX0_enter 29 = .ok (.aload_n 0, 1) := by decide +kernel
theorem dX0_enter_30 : decode cX0_enter 30 = .ok (.getfield 9, 3) := by decide +kernel
theorem dX0_enter_33 : decode cX0_enter 33 = .ok (.iconst 2, 1) := by decide +kernel
theorem dX0_enter_34 : decode cX0_enter 34 = .ok (.iload_n 3, 1) := by decide +kernel
theorem dX0_enter_35 : decode cX0_enter 35 = .ok (.iastore, 1) := by decide +kernel
theorem dX0_enter_36 : decode cX0_enter 36 = .ok (.aload_n 0, 1) := by decide +kernel
theorem dX0_enter_37 : decode cX0_enter 37 = .ok (.getfield 9, 3) := by decide +kernel
theorem dX0_enter_40 : decode cX0_enter 40 = .ok (.iconst 3, 1) := by decide +kernel
theorem dX0_enter_41 : decode cX0_enter 41 = .ok (.iload 4, 2) := by decide +kernel
theorem dX0_enter_43 : decode cX0_enter 43 = .ok (.iastore, 1) := by decide +kernel
theorem dX0_enter_44 : decode cX0_enter 44 = .ok (.aload_n 0, 1) := by decide +kernel
theorem dX0_enter_45 : decode cX0_enter 45 = .ok (.aload_n 0, 1) := by decide +kernel
theorem dX0_enter_46 : decode cX0_enter 46 = .ok (.getfield 13, 3) := by decide +kernel
theorem dX0_enter_49 : decode cX0_enter 49 = .ok (.iconst 1, 1) := by decide +kernel
theorem dX0_enter_50 : decode cX0_enter 50 = .ok (.iadd, 1) := by decide +kernel
theorem dX0_enter_51 : decode cX0_enter 51 = .ok (.bipush 16, 2) := by decide +kernel
theorem dX0_enter_53 : decode cX0_enter 53 = .ok (.invokestatic 23, 3) := by decide +kernel
theorem dX0_enter_56 : decode cX0_enter 56 = .ok (.putfield 13, 3) := by decide +kernel
theorem dX0_enter_59 : decode cX0_enter 59 = .ok (.return_, 1) := by decide +kernel
theorem dX0_numberAt_0 : decode cX0_numberAt 0 = .ok (.aload_n 0, 1) := by decide +kernel
theorem dX0_numberAt_1 : decode cX0_numberAt 1 = .ok (.getfield 9, 3) := by decide +kernel
theorem dX0_numberAt_4 : decode cX0_numberAt 4 = .ok (.iload_n 1, 1) := by decide +kernel
theorem dX0_numberAt_5 : decode cX0_numberAt 5 = .ok (.iconst 4, 1) := by decide +kernel
theorem dX0_numberAt_6 : decode cX0_numberAt 6 = .ok (.imul, 1) := by decide +kernel
theorem dX0_numberAt_7 : decode cX0_numberAt 7 = .ok (.iload_n 2, 1) := by decide +kernel
theorem dX0_numberAt_8 : decode cX0_numberAt 8 = .ok (.iadd, 1) := by decide +kernel
theorem dX0_numberAt_9 : decode cX0_numberAt 9 = .ok (.iaload, 1) := by decide +kernel
theorem dX0_numberAt_10 : decode cX0_numberAt 10 = .ok (.ireturn, 1) := by decide +kernel
theorem dX0_removeRail_0 : decode cX0_removeRail 0 = .ok (.iconst 0, 1) := by decide +kernel
theorem dX0_removeRail_1 : decode cX0_removeRail 1 = .ok (.istore_n 2, 1) := by decide +kernel
theorem dX0_removeRail_2 : decode cX0_removeRail 2 = .ok (.iconst 0, 1) := by decide +kernel
theorem dX0_removeRail_3 : decode cX0_removeRail 3 = .ok (.istore_n 3, 1) := by decide +kernel
theorem dX0_removeRail_4 : decode cX0_removeRail 4 = .ok (.iload_n 3, 1) := by decide +kernel
theorem dX0_removeRail_5 : decode cX0_removeRail 5 = .ok (.aload_n 0, 1) := by decide +kernel
theorem dX0_removeRail_6 : decode cX0_removeRail 6 = .ok (.getfield 13, 3) := by decide +kernel
theorem dX0_removeRail_9 : decode cX0_removeRail 9 = .ok (.if_icmp .ge 40, 3) := by decide +kernel
theorem dX0_removeRail_12 : decode cX0_removeRail 12 = .ok (.aload_n 0, 1) := by decide +kernel
theorem dX0_removeRail_13 : decode cX0_removeRail 13 = .ok (.iload_n 3, 1) := by decide +kernel
theorem dX0_removeRail_14 : decode cX0_removeRail 14 = .ok (.iconst 1, 1) := by decide +kernel
theorem dX0_removeRail_15 : decode cX0_removeRail 15 = .ok (.invokevirtual 29, 3) := by decide +kernel
theorem dX0_removeRail_18 : decode cX0_removeRail 18 = .ok (.iload_n 1, 1) := by decide +kernel
theorem dX0_removeRail_19 : decode cX0_removeRail 19 = .ok (.if_icmp .eq 24, 3) := by decide +kernel
theorem dX0_removeRail_22 : decode cX0_removeRail 22 = .ok (.aload_n 0, 1) := by decide +kernel
theorem dX0_removeRail_23 : decode cX0_removeRail 23 = .ok (.getfield 9, 3) := by decide +kernel
theorem dX0_removeRail_26 : decode cX0_removeRail 26 = .ok (.iload_n 3, 1) := by decide +kernel
theorem dX0_removeRail_27 : decode cX0_removeRail 27 = .ok (.iconst 4, 1) := by decide +kernel
theorem dX0_removeRail_28 : decode cX0_removeRail 28 = .ok (.imul, 1) := by decide +kernel
theorem dX0_removeRail_29 : decode cX0_removeRail 29 = .ok (.aload_n 0, 1) := by decide +kernel
theorem dX0_removeRail_30 : decode cX0_removeRail 30 = .ok (.getfield 9, 3) := by decide +kernel
theorem dX0_removeRail_33 : decode cX0_removeRail 33 = .ok (.iload_n 2, 1) := by decide +kernel
theorem dX0_removeRail_34 : decode cX0_removeRail 34 = .ok (.iconst 4, 1) := by decide +kernel
theorem dX0_removeRail_35 : decode cX0_removeRail 35 = .ok (.imul, 1) := by decide +kernel
theorem dX0_removeRail_36 : decode cX0_removeRail 36 = .ok (.iconst 4, 1) := by decide +kernel
theorem dX0_removeRail_37 : decode cX0_removeRail 37 = .ok (.invokestatic 17, 3) := by decide +kernel
theorem dX0_removeRail_40 : decode cX0_removeRail 40 = .ok (.iinc 2 1, 3) := by decide +kernel
theorem dX0_removeRail_43 : decode cX0_removeRail 43 = .ok (.iinc 3 1, 3) := by decide +kernel
theorem dX0_removeRail_46 : decode cX0_removeRail 46 = .ok (.goto (-42), 3) := by decide +kernel
theorem dX0_removeRail_49 : decode cX0_removeRail 49 = .ok (.aload_n 0, 1) := by decide +kernel
theorem dX0_removeRail_50 : decode cX0_removeRail 50 = .ok (.getfield 13, 3) := by decide +kernel
theorem dX0_removeRail_53 : decode cX0_removeRail 53 = .ok (.iload_n 2, 1) := by decide +kernel
theorem dX0_removeRail_54 : decode cX0_removeRail 54 = .ok (.isub, 1) := by decide +kernel
theorem dX0_removeRail_55 : decode cX0_removeRail 55 = .ok (.istore_n 3, 1) := by decide +kernel
theorem dX0_removeRail_56 : decode cX0_removeRail 56 = .ok (.aload_n 0, 1) := by decide +kernel
theorem dX0_removeRail_57 : decode cX0_removeRail 57 = .ok (.iload_n 2, 1) := by decide +kernel
theorem dX0_removeRail_58 : decode cX0_removeRail 58 = .ok (.putfield 13, 3) := by decide +kernel
theorem dX0_removeRail_61 : decode cX0_removeRail 61 = .ok (.iload_n 3, 1) := by decide +kernel
theorem dX0_removeRail_62 : decode cX0_removeRail 62 = .ok (.ireturn, 1) := by decide +kernel
theorem dX1_init_0 : decode cX1_init 0 = .ok (.aload_n 0, 1) := by decide +kernel
theorem dX1_init_1 : decode cX1_init 1 = .ok (.invokespecial 3, 3) := by decide +kernel
theorem dX1_init_4 : decode cX1_init 4 = .ok (.aload_n 0, 1) := by decide +kernel
theorem dX1_init_5 : decode cX1_init 5 = .ok (.bipush 100, 2) := by decide +kernel
theorem dX1_init_7 : decode cX1_init 7 = .ok (.putfield 9, 3) := by decide +kernel
theorem dX1_init_10 : decode cX1_init 10 = .ok (.aload_n 0, 1) := by decide +kernel
theorem dX1_init_11 : decode cX1_init 11 = .ok (.bipush 56, 2) := by decide +kernel
theorem dX1_init_13 : decode cX1_init 13 = .ok (.newarray .int, 2) := by decide +kernel
theorem dX1_init_15 : decode cX1_init 15 = .ok (.putfield 15, 3) := by decide +kernel
theorem dX1_init_18 : decode cX1_init 18 = .ok (.aload_n 0, 1) := by decide +kernel
theorem dX1_init_19 : decode cX1_init 19 = .ok (.bipush 8, 2) := by decide +kernel
theorem dX1_init_21 : decode cX1_init 21 = .ok (.newarray .int, 2) := by decide +kernel
theorem dX1_init_23 : decode cX1_init 23 = .ok (.putfield 19, 3) := by decide +kernel
theorem dX1_init_26 : decode cX1_init 26 = .ok (.aload_n 0, 1) := by decide +kernel
theorem dX1_init_27 : decode cX1_init 27 = .ok (.bipush 8, 2) := by decide +kernel
theorem dX1_init_29 : decode cX1_init 29 = .ok (.newarray .int, 2) := by decide +kernel
theorem dX1_init_31 : decode cX1_init 31 = .ok (.putfield 22, 3) := by decide +kernel
theorem dX1_init_34 : decode cX1_init 34 = .ok (.aload_n 0, 1) := by decide +kernel
theorem dX1_init_35 : decode cX1_init 35 = .ok (.bipush 8, 2) := by decide +kernel
theorem dX1_init_37 : decode cX1_init 37 = .ok (.newarray .int, 2) := by decide +kernel
theorem dX1_init_39 : decode cX1_init 39 = .ok (.putfield 25, 3) := by decide +kernel
theorem dX1_init_42 : decode cX1_init 42 = .ok (.aload_n 0, 1) := by decide +kernel
theorem dX1_init_43 : decode cX1_init 43 = .ok (.bipush 8, 2) := by decide +kernel
theorem dX1_init_45 : decode cX1_init 45 = .ok (.newarray .int, 2) := by decide +kernel
theorem dX1_init_47 : decode cX1_init 47 = .ok (.putfield 28, 3) := by decide +kernel
theorem dX1_init_50 : decode cX1_init 50 = .ok (.aload_n 0, 1) := by decide +kernel
theorem dX1_init_51 : decode cX1_init 51 = .ok (.bipush 8, 2) := by decide +kernel
theorem dX1_init_53 : decode cX1_init 53 = .ok (.newarray .int, 2) := by decide +kernel
theorem dX1_init_55 : decode cX1_init 55 = .ok (.putfield 31, 3) := by decide +kernel
theorem dX1_init_58 : decode cX1_init 58 = .ok (.aload_n 0, 1) := by decide +kernel
theorem dX1_init_59 : decode cX1_init 59 = .ok (.bipush 8, 2) := by decide +kernel
theorem dX1_init_61 : decode cX1_init 61 = .ok (.newarray .int, 2) := by decide +kernel
theorem dX1_init_63 : decode cX1_init 63 = .ok (.putfield 34, 3) := by decide +kernel
theorem dX1_init_66 : decode cX1_init 66 = .ok (.aload_n 0, 1) := by decide +kernel
theorem dX1_init_67 : decode cX1_init 67 = .ok (.bipush 8, 2) := by decide +kernel
theorem dX1_init_69 : decode cX1_init 69 = .ok (.newarray .int, 2) := by decide +kernel
theorem dX1_init_71 : decode cX1_init 71 = .ok (.putfield 37, 3) := by decide +kernel
theorem dX1_init_74 : decode cX1_init 74 = .ok (.aload_n 0, 1) := by decide +kernel
theorem dX1_init_75 : decode cX1_init 75 = .ok (.bipush 8, 2) := by decide +kernel
theorem dX1_init_77 : decode cX1_init 77 = .ok (.newarray .int, 2) := by decide +kernel
theorem dX1_init_79 : decode cX1_init 79 = .ok (.putfield 40, 3) := by decide +kernel
theorem dX1_init_82 : decode cX1_init 82 = .ok (.aload_n 0, 1) := by decide +kernel
theorem dX1_init_83 : decode cX1_init 83 = .ok (.bipush 32, 2) := by decide +kernel
theorem dX1_init_85 : decode cX1_init 85 = .ok (.newarray .int, 2) := by decide +kernel
theorem dX1_init_87 : decode cX1_init 87 = .ok (.putfield 43, 3) := by decide +kernel
theorem dX1_init_90 : decode cX1_init 90 = .ok (.aload_n 0, 1) := by decide +kernel
theorem dX1_init_91 : decode cX1_init 91 = .ok (.new 46, 3) := by decide +kernel
theorem dX1_init_94 : decode cX1_init 94 = .ok (.dup, 1) := by decide +kernel
theorem dX1_init_95 : decode cX1_init 95 = .ok (.invokespecial 48, 3) := by decide +kernel
theorem dX1_init_98 : decode cX1_init 98 = .ok (.putfield 49, 3) := by decide +kernel
theorem dX1_init_101 : decode cX1_init 101 = .ok (.aload_n 0, 1) := by decide +kernel
theorem dX1_init_102 : decode cX1_init 102 = .ok (.bipush 8, 2) := by decide +kernel
theorem dX1_init_104 : decode cX1_init 104 = .ok (.newarray .int, 2) := by decide +kernel
theorem dX1_init_106 : decode cX1_init 106 = .ok (.putfield 53, 3) := by decide +kernel
theorem dX1_init_109 : decode cX1_init 109 = .ok (.aload_n 0, 1) := by decide +kernel
theorem dX1_init_110 : decode cX1_init 110 = .ok (.bipush 8, 2) := by decide +kernel
theorem dX1_init_112 : decode cX1_init 112 = .ok (.newarray .int, 2) := by decide +kernel
theorem dX1_init_114 : decode cX1_init 114 = .ok (.putfield 56, 3) := by decide +kernel
theorem dX1_init_117 : decode cX1_init 117 = .ok (.aload_n 0, 1) := by decide +kernel
theorem dX1_init_118 : decode cX1_init 118 = .ok (.bipush 8, 2) := by decide +kernel
theorem dX1_init_120 : decode cX1_init 120 = .ok (.newarray .int, 2) := by decide +kernel
theorem dX1_init_122 : decode cX1_init 122 = .ok (.putfield 59, 3) := by decide +kernel
theorem dX1_init_125 : decode cX1_init 125 = .ok (.return_, 1) := by decide +kernel
theorem dX1_copyFrom_0 : decode cX1_copyFrom 0 = .ok (.aload_n 0, 1) := by decide +kernel
theorem dX1_copyFrom_1 : decode cX1_copyFrom 1 = .ok (.aload_n 1, 1) := by decide +kernel
theorem dX1_copyFrom_2 : decode cX1_copyFrom 2 = .ok (.getfield 62, 3) := by decide +kernel
theorem dX1_copyFrom_5 : decode cX1_copyFrom 5 = .ok (.putfield 62, 3) := by decide +kernel
theorem dX1_copyFrom_8 : decode cX1_copyFrom 8 = .ok (.aload_n 0, 1) := by decide +kernel
theorem dX1_copyFrom_9 : decode cX1_copyFrom 9 = .ok (.aload_n 1, 1) := by decide +kernel
theorem dX1_copyFrom_10 : decode cX1_copyFrom 10 = .ok (.getfield 65, 3) := by decide +kernel
theorem dX1_copyFrom_13 : decode cX1_copyFrom 13 = .ok (.putfield 65, 3) := by decide +kernel
theorem dX1_copyFrom_16 : decode cX1_copyFrom 16 = .ok (.aload_n 0, 1) := by decide +kernel
theorem dX1_copyFrom_17 : decode cX1_copyFrom 17 = .ok (.aload_n 1, 1) := by decide +kernel
theorem dX1_copyFrom_18 : decode cX1_copyFrom 18 = .ok (.getfield 9, 3) := by decide +kernel
theorem dX1_copyFrom_21 : decode cX1_copyFrom 21 = .ok (.putfield 9, 3) := by decide +kernel
theorem dX1_copyFrom_24 : decode cX1_copyFrom 24 = .ok (.aload_n 0, 1) := by decide +kernel
theorem dX1_copyFrom_25 : decode cX1_copyFrom 25 = .ok (.aload_n 1, 1) := by decide +kernel
theorem dX1_copyFrom_26 : decode cX1_copyFrom 26 = .ok (.getfield 68, 3) := by decide +kernel
theorem dX1_copyFrom_29 : decode cX1_copyFrom 29 = .ok (.putfield 68, 3) := by decide +kernel
theorem dX1_copyFrom_32 : decode cX1_copyFrom 32 = .ok (.aload_n 1, 1) := by decide +kernel
theorem dX1_copyFrom_33 : decode cX1_copyFrom 33 = .ok (.getfield 15, 3) := by decide +kernel
theorem dX1_copyFrom_36 : decode cX1_copyFrom 36 = .ok (.iconst 0, 1) := by decide +kernel
theorem dX1_copyFrom_37 : decode cX1_copyFrom 37 = .ok (.aload_n 0, 1) := by decide +kernel
theorem dX1_copyFrom_38 : decode cX1_copyFrom 38 = .ok (.getfield 15, 3) := by decide +kernel
theorem dX1_copyFrom_41 : decode cX1_copyFrom 41 = .ok (.iconst 0, 1) := by decide +kernel
theorem dX1_copyFrom_42 : decode cX1_copyFrom 42 = .ok (.bipush 56, 2) := by decide +kernel
theorem dX1_copyFrom_44 : decode cX1_copyFrom 44 = .ok (.invokestatic 71, 3) := by decide +kernel
theorem dX1_copyFrom_47 : decode cX1_copyFrom 47 = .ok (.aload_n 1, 1) := by decide +kernel
theorem dX1_copyFrom_48 : decode cX1_copyFrom 48 = .ok (.getfield 19, 3) := by decide +kernel
theorem dX1_copyFrom_51 : decode cX1_copyFrom 51 = .ok (.iconst 0, 1) := by decide +kernel
theorem dX1_copyFrom_52 : decode cX1_copyFrom 52 = .ok (.aload_n 0, 1) := by decide +kernel
theorem dX1_copyFrom_53 : decode cX1_copyFrom 53 = .ok (.getfield 19, 3) := by decide +kernel
theorem dX1_copyFrom_56 : decode cX1_copyFrom 56 = .ok (.iconst 0, 1) := by decide +kernel
theorem dX1_copyFrom_57 : decode cX1_copyFrom 57 = .ok (.bipush 8, 2) := by decide +kernel
theorem dX1_copyFrom_59 : decode cX1_copyFrom 59 = .ok (.invokestatic 71, 3) := by decide +kernel
theorem dX1_copyFrom_62 : decode cX1_copyFrom 62 = .ok (.aload_n 1, 1) := by decide +kernel
theorem dX1_copyFrom_63 : decode cX1_copyFrom 63 = .ok (.getfield 22, 3) := by decide +kernel
theorem dX1_copyFrom_66 : decode cX1_copyFrom 66 = .ok (.iconst 0, 1) := by decide +kernel
theorem dX1_copyFrom_67 : decode cX1_copyFrom 67 = .ok (.aload_n 0, 1) := by decide +kernel
theorem dX1_copyFrom_68 : decode cX1_copyFrom 68 = .ok (.getfield 22, 3) := by decide +kernel
theorem dX1_copyFrom_71 : decode cX1_copyFrom 71 = .ok (.iconst 0, 1) := by decide +kernel
theorem dX1_copyFrom_72 : decode cX1_copyFrom 72 = .ok (.bipush 8, 2) := by decide +kernel
theorem dX1_copyFrom_74 : decode cX1_copyFrom 74 = .ok (.invokestatic 71, 3) := by decide +kernel
theorem dX1_copyFrom_77 : decode cX1_copyFrom 77 = .ok (.aload_n 1, 1) := by decide +kernel
theorem dX1_copyFrom_78 : decode cX1_copyFrom 78 = .ok (.getfield 25, 3) := by decide +kernel
theorem dX1_copyFrom_81 : decode cX1_copyFrom 81 = .ok (.iconst 0, 1) := by decide +kernel
theorem dX1_copyFrom_82 : decode cX1_copyFrom 82 = .ok (.aload_n 0, 1) := by decide +kernel
theorem dX1_copyFrom_83 : decode cX1_copyFrom 83 = .ok (.getfield 25, 3) := by decide +kernel
theorem dX1_copyFrom_86 : decode cX1_copyFrom 86 = .ok (.iconst 0, 1) := by decide +kernel
theorem dX1_copyFrom_87 : decode cX1_copyFrom 87 = .ok (.bipush 8, 2) := by decide +kernel
theorem dX1_copyFrom_89 : decode cX1_copyFrom 89 = .ok (.invokestatic 71, 3) := by decide +kernel
theorem dX1_copyFrom_92 : decode cX1_copyFrom 92 = .ok (.aload_n 1, 1) := by decide +kernel
theorem dX1_copyFrom_93 : decode cX1_copyFrom 93 = .ok (.getfield 28, 3) := by decide +kernel
theorem dX1_copyFrom_96 : decode cX1_copyFrom 96 = .ok (.iconst 0, 1) := by decide +kernel
theorem dX1_copyFrom_97 : decode cX1_copyFrom 97 = .ok (.aload_n 0, 1) := by decide +kernel
theorem dX1_copyFrom_98 : decode cX1_copyFrom 98 = .ok (.getfield 28, 3) := by decide +kernel
theorem dX1_copyFrom_101 : decode cX1_copyFrom 101 = .ok (.iconst 0, 1) := by decide +kernel
theorem dX1_copyFrom_102 : decode cX1_copyFrom 102 = .ok (.bipush 8, 2) := by decide +kernel
theorem dX1_copyFrom_104 : decode cX1_copyFrom 104 = .ok (.invokestatic 71, 3) := by decide +kernel
theorem dX1_copyFrom_107 : decode cX1_copyFrom 107 = .ok (.aload_n 1, 1) := by decide +kernel
theorem dX1_copyFrom_108 : decode cX1_copyFrom 108 = .ok (.getfield 31, 3) := by decide +kernel
theorem dX1_copyFrom_111 : decode cX1_copyFrom 111 = .ok (.iconst 0, 1) := by decide +kernel
theorem dX1_copyFrom_112 : decode cX1_copyFrom 112 = .ok (.aload_n 0, 1) := by decide +kernel
theorem dX1_copyFrom_113 : decode cX1_copyFrom 113 = .ok (.getfield 31, 3) := by decide +kernel
theorem dX1_copyFrom_116 : decode cX1_copyFrom 116 = .ok (.iconst 0, 1) := by decide +kernel
theorem dX1_copyFrom_117 : decode cX1_copyFrom 117 = .ok (.bipush 8, 2) := by decide +kernel
theorem dX1_copyFrom_119 : decode cX1_copyFrom 119 = .ok (.invokestatic 71, 3) := by decide +kernel
theorem dX1_copyFrom_122 : decode cX1_copyFrom 122 = .ok (.aload_n 1, 1) := by decide +kernel
theorem dX1_copyFrom_123 : decode cX1_copyFrom 123 = .ok (.getfield 34, 3) := by decide +kernel
theorem dX1_copyFrom_126 : decode cX1_copyFrom 126 = .ok (.iconst 0, 1) := by decide +kernel
theorem dX1_copyFrom_127 : decode cX1_copyFrom 127 = .ok (.aload_n 0, 1) := by decide +kernel
theorem dX1_copyFrom_128 : decode cX1_copyFrom 128 = .ok (.getfield 34, 3) := by decide +kernel
theorem dX1_copyFrom_131 : decode cX1_copyFrom 131 = .ok (.iconst 0, 1) := by decide +kernel
theorem dX1_copyFrom_132 : decode cX1_copyFrom 132 = .ok (.bipush 8, 2) := by decide +kernel
theorem dX1_copyFrom_134 : decode cX1_copyFrom 134 = .ok (.invokestatic 71, 3) := by decide +kernel
theorem dX1_copyFrom_137 : decode cX1_copyFrom 137 = .ok (.aload_n 1, 1) := by decide +kernel
theorem dX1_copyFrom_138 : decode cX1_copyFrom 138 = .ok (.getfield 37, 3) := by decide +kernel
theorem dX1_copyFrom_141 : decode cX1_copyFrom 141 = .ok (.iconst 0, 1) := by decide +kernel
theorem dX1_copyFrom_142 : decode cX1_copyFrom 142 = .ok (.aload_n 0, 1) := by decide +kernel
theorem dX1_copyFrom_143 : decode cX1_copyFrom 143 = .ok (.getfield 37, 3) := by decide +kernel
theorem dX1_copyFrom_146 : decode cX1_copyFrom 146 = .ok (.iconst 0, 1) := by decide +kernel
theorem dX1_copyFrom_147 : decode cX1_copyFrom 147 = .ok (.bipush 8, 2) := by decide +kernel
theorem dX1_copyFrom_149 : decode cX1_copyFrom 149 = .ok (.invokestatic 71, 3) := by decide +kernel
theorem dX1_copyFrom_152 : decode cX1_copyFrom 152 = .ok (.aload_n 1, 1) := by decide +kernel
theorem dX1_copyFrom_153 : decode cX1_copyFrom 153 = .ok (.getfield 40, 3) := by decide +kernel
theorem dX1_copyFrom_156 : decode cX1_copyFrom 156 = .ok (.iconst 0, 1) := by decide +kernel
theorem dX1_copyFrom_157 : decode cX1_copyFrom 157 = .ok (.aload_n 0, 1) := by decide +kernel
theorem dX1_copyFrom_158 : decode cX1_copyFrom 158 = .ok (.getfield 40, 3) := by decide +kernel
theorem dX1_copyFrom_161 : decode cX1_copyFrom 161 = .ok (.iconst 0, 1) := by decide +kernel
theorem dX1_copyFrom_162 : decode cX1_copyFrom 162 = .ok (.bipush 8, 2) := by decide +kernel
theorem dX1_copyFrom_164 : decode cX1_copyFrom 164 = .ok (.invokestatic 71, 3) := by decide +kernel
theorem dX1_copyFrom_167 : decode cX1_copyFrom 167 = .ok (.aload_n 1, 1) := by decide +kernel
theorem dX1_copyFrom_168 : decode cX1_copyFrom 168 = .ok (.getfield 43, 3) := by decide +kernel
theorem dX1_copyFrom_171 : decode cX1_copyFrom 171 = .ok (.iconst 0, 1) := by decide +kernel
theorem dX1_copyFrom_172 : decode cX1_copyFrom 172 = .ok (.aload_n 0, 1) := by decide +kernel
theorem dX1_copyFrom_173 : decode cX1_copyFrom 173 = .ok (.getfield 43, 3) := by decide +kernel
theorem dX1_copyFrom_176 : decode cX1_copyFrom 176 = .ok (.iconst 0, 1) := by decide +kernel
theorem dX1_copyFrom_177 : decode cX1_copyFrom 177 = .ok (.bipush 32, 2) := by decide +kernel
theorem dX1_copyFrom_179 : decode cX1_copyFrom 179 = .ok (.invokestatic 71, 3) := by decide +kernel
theorem dX1_copyFrom_182 : decode cX1_copyFrom 182 = .ok (.aload_n 0, 1) := by decide +kernel
theorem dX1_copyFrom_183 : decode cX1_copyFrom 183 = .ok (.getfield 49, 3) := by decide +kernel
theorem dX1_copyFrom_186 : decode cX1_copyFrom 186 = .ok (.aload_n 1, 1) := by decide +kernel
theorem dX1_copyFrom_187 : decode cX1_copyFrom 187 = .ok (.getfield 49, 3) := by decide +kernel
theorem dX1_copyFrom_190 : decode cX1_copyFrom 190 = .ok (.invokevirtual 77, 3) := by decide +kernel
theorem dX1_copyFrom_193 : decode cX1_copyFrom 193 = .ok (.return_, 1) := by decide +kernel
theorem dX1_add_0 : decode cX1_add 0 = .ok (.aload_n 0, 1) := by decide +kernel
theorem dX1_add_1 : decode cX1_add 1 = .ok (.getfield 62, 3) := by decide +kernel
theorem dX1_add_4 : decode cX1_add 4 = .ok (.istore 5, 2) := by decide +kernel
theorem dX1_add_6 : decode cX1_add 6 = .ok (.iload 5, 2) := by decide +kernel
theorem dX1_add_8 : decode cX1_add 8 = .ok (.bipush 7, 2) := by decide +kernel
theorem dX1_add_10 : decode cX1_add 10 = .ok (.imul, 1) := by decide +kernel
theorem dX1_add_11 : decode cX1_add 11 = .ok (.istore 6, 2) := by decide +kernel
theorem dX1_add_13 : decode cX1_add 13 = .ok (.aload_n 0, 1) := by decide +kernel
theorem dX1_add_14 : decode cX1_add 14 = .ok (.getfield 15, 3) := by decide +kernel
theorem dX1_add_17 : decode cX1_add 17 = .ok (.iload 6, 2) := by decide +kernel
theorem dX1_add_19 : decode cX1_add 19 = .ok (.iconst 0, 1) := by decide +kernel
theorem dX1_add_20 : decode cX1_add 20 = .ok (.iadd, 1) := by decide +kernel
theorem dX1_add_21 : decode cX1_add 21 = .ok (.iload_n 1, 1) := by decide +kernel
theorem dX1_add_22 : decode cX1_add 22 = .ok (.iastore, 1) := by decide +kernel
theorem dX1_add_23 : decode cX1_add 23 = .ok (.aload_n 0, 1) := by decide +kernel
theorem dX1_add_24 : decode cX1_add 24 = .ok (.getfield 15, 3) := by decide +kernel
theorem dX1_add_27 : decode cX1_add 27 = .ok (.iload 6, 2) := by decide +kernel
theorem dX1_add_29 : decode cX1_add 29 = .ok (.iconst 1, 1) := by decide +kernel
theorem dX1_add_30 : decode cX1_add 30 = .ok (.iadd, 1) := by decide +kernel
theorem dX1_add_31 : decode cX1_add 31 = .ok (.iload_n 2, 1) := by decide +kernel
theorem dX1_add_32 : decode cX1_add 32 = .ok (.iastore, 1) := by decide +kernel
theorem dX1_add_33 : decode cX1_add 33 = .ok (.aload_n 0, 1) := by decide +kernel
theorem dX1_add_34 : decode cX1_add 34 = .ok (.getfield 15, 3) := by decide +kernel
theorem dX1_add_37 : decode cX1_add 37 = .ok (.iload 6, 2) := by decide +kernel
theorem dX1_add_39 : decode cX1_add 39 = .ok (.iconst 2, 1) := by decide +kernel
theorem dX1_add_40 : decode cX1_add 40 = .ok (.iadd, 1) := by decide +kernel
theorem dX1_add_41 : decode cX1_add 41 = .ok (.iload_n 3, 1) := by decide +kernel
theorem dX1_add_42 : decode cX1_add 42 = .ok (.iastore, 1) := by decide +kernel
theorem dX1_add_43 : decode cX1_add 43 = .ok (.aload_n 0, 1) := by decide +kernel
theorem dX1_add_44 : decode cX1_add 44 = .ok (.getfield 15, 3) := by decide +kernel
theorem dX1_add_47 : decode cX1_add 47 = .ok (.iload 6, 2) := by decide +kernel
theorem dX1_add_49 : decode cX1_add 49 = .ok (.iconst 3, 1) := by decide +kernel
theorem dX1_add_50 : decode cX1_add 50 = .ok (.iadd, 1) := by decide +kernel
theorem dX1_add_51 : decode cX1_add 51 = .ok (.bipush 90, 2) := by decide +kernel
theorem dX1_add_53 : decode cX1_add 53 = .ok (.iastore, 1) := by decide +kernel
theorem dX1_add_54 : decode cX1_add 54 = .ok (.aload_n 0, 1) := by decide +kernel
theorem dX1_add_55 : decode cX1_add 55 = .ok (.getfield 15, 3) := by decide +kernel
theorem dX1_add_58 : decode cX1_add 58 = .ok (.iload 6, 2) := by decide +kernel
theorem dX1_add_60 : decode cX1_add 60 = .ok (.iconst 4, 1) := by decide +kernel
theorem dX1_add_61 : decode cX1_add 61 = .ok (.iadd, 1) := by decide +kernel
theorem dX1_add_62 : decode cX1_add 62 = .ok (.iconst 2, 1) := by decide +kernel
theorem dX1_add_63 : decode cX1_add 63 = .ok (.iastore, 1) := by decide +kernel
theorem dX1_add_64 : decode cX1_add 64 = .ok (.aload_n 0, 1) := by decide +kernel
theorem dX1_add_65 : decode cX1_add 65 = .ok (.getfield 15, 3) := by decide +kernel
theorem dX1_add_68 : decode cX1_add 68 = .ok (.iload 6, 2) := by decide +kernel
theorem dX1_add_70 : decode cX1_add 70 = .ok (.iconst 5, 1) := by decide +kernel
theorem dX1_add_71 : decode cX1_add 71 = .ok (.iadd, 1) := by decide +kernel
theorem dX1_add_72 : decode cX1_add 72 = .ok (.bipush 40, 2) := by decide +kernel
theorem dX1_add_74 : decode cX1_add 74 = .ok (.iastore, 1) := by decide +kernel
theorem dX1_add_75 : decode cX1_add 75 = .ok (.aload_n 0, 1) := by decide +kernel
theorem dX1_add_76 : decode cX1_add 76 = .ok (.getfield 15, 3) := by decide +kernel
theorem dX1_add_79 : decode cX1_add 79 = .ok (.iload 6, 2) := by decide +kernel
theorem dX1_add_81 : decode cX1_add 81 = .ok (.bipush 6, 2) := by decide +kernel
theorem dX1_add_83 : decode cX1_add 83 = .ok (.iadd, 1) := by decide +kernel
theorem dX1_add_84 : decode cX1_add 84 = .ok (.iconst 2, 1) := by decide +kernel
theorem dX1_add_85 : decode cX1_add 85 = .ok (.iastore, 1) := by decide +kernel
theorem dX1_add_86 : decode cX1_add 86 = .ok (.aload_n 0, 1) := by decide +kernel
theorem dX1_add_87 : decode cX1_add 87 = .ok (.getfield 19, 3) := by decide +kernel
theorem dX1_add_90 : decode cX1_add 90 = .ok (.iload 5, 2) := by decide +kernel
theorem dX1_add_92 : decode cX1_add 92 = .ok (.iload 4, 2) := by decide +kernel
theorem dX1_add_94 : decode cX1_add 94 = .ok (.iastore, 1) := by decide +kernel
theorem dX1_add_95 : decode cX1_add 95 = .ok (.aload_n 0, 1) := by decide +kernel
theorem dX1_add_96 : decode cX1_add 96 = .ok (.getfield 22, 3) := by decide +kernel
theorem dX1_add_99 : decode cX1_add 99 = .ok (.iload 5, 2) := by decide +kernel
theorem dX1_add_101 : decode cX1_add 101 = .ok (.iconst 0, 1) := by decide +kernel
theorem dX1_add_102 : decode cX1_add 102 = .ok (.iastore, 1) := by decide +kernel
theorem dX1_add_103 : decode cX1_add 103 = .ok (.aload_n 0, 1) := by decide +kernel
theorem dX1_add_104 : decode cX1_add 104 = .ok (.getfield 25, 3) := by decide +kernel
theorem dX1_add_107 : decode cX1_add 107 = .ok (.iload 5, 2) := by decide +kernel
theorem dX1_add_109 : decode cX1_add 109 = .ok (.iconst 0, 1) := by decide +kernel
theorem dX1_add_110 : decode cX1_add 110 = .ok (.iastore, 1) := by decide +kernel
theorem dX1_add_111 : decode cX1_add 111 = .ok (.aload_n 0, 1) := by decide +kernel
theorem dX1_add_112 : decode cX1_add 112 = .ok (.getfield 28, 3) := by decide +kernel
theorem dX1_add_115 : decode cX1_add 115 = .ok (.iload 5, 2) := by decide +kernel
theorem dX1_add_117 : decode cX1_add 117 = .ok (.iconst 0, 1) := by decide +kernel
theorem dX1_add_118 : decode cX1_add 118 = .ok (.iastore, 1) := by decide +kernel
theorem dX1_add_119 : decode cX1_add 119 = .ok (.aload_n 0, 1) := by decide +kernel
theorem dX1_add_120 : decode cX1_add 120 = .ok (.getfield 31, 3) := by decide +kernel
theorem dX1_add_123 : decode cX1_add 123 = .ok (.iload 5, 2) := by decide +kernel
theorem dX1_add_125 : decode cX1_add 125 = .ok (.iconst 0, 1) := by decide +kernel
theorem dX1_add_126 : decode cX1_add 126 = .ok (.iastore, 1) := by decide +kernel
theorem dX1_add_127 : decode cX1_add 127 = .ok (.aload_n 0, 1) := by decide +kernel
theorem dX1_add_128 : decode cX1_add 128 = .ok (.getfield 34, 3) := by decide +kernel
theorem dX1_add_131 : decode cX1_add 131 = .ok (.iload 5, 2) := by decide +kernel
theorem dX1_add_133 : decode cX1_add 133 = .ok (.iconst 0, 1) := by decide +kernel
theorem dX1_add_134 : decode cX1_add 134 = .ok (.iastore, 1) := by decide +kernel
theorem dX1_add_135 : decode cX1_add 135 = .ok (.aload_n 0, 1) := by decide +kernel
theorem dX1_add_136 : decode cX1_add 136 = .ok (.getfield 37, 3) := by decide +kernel
theorem dX1_add_139 : decode cX1_add 139 = .ok (.iload 5, 2) := by decide +kernel
theorem dX1_add_141 : decode cX1_add 141 = .ok (.iconst 0, 1) := by decide +kernel
theorem dX1_add_142 : decode cX1_add 142 = .ok (.iastore, 1) := by decide +kernel
theorem dX1_add_143 : decode cX1_add 143 = .ok (.aload_n 0, 1) := by decide +kernel
theorem dX1_add_144 : decode cX1_add 144 = .ok (.getfield 40, 3) := by decide +kernel
theorem dX1_add_147 : decode cX1_add 147 = .ok (.iload 5, 2) := by decide +kernel
theorem dX1_add_149 : decode cX1_add 149 = .ok (.iconst (-1), 1) := by decide +kernel
theorem dX1_add_150 : decode cX1_add 150 = .ok (.iastore, 1) := by decide +kernel
theorem dX1_add_151 : decode cX1_add 151 = .ok (.iconst 0, 1) := by decide +kernel
theorem dX1_add_152 : decode cX1_add 152 = .ok (.istore 7, 2) := by decide +kernel
theorem dX1_add_154 : decode cX1_add 154 = .ok (.iload 7, 2) := by decide +kernel
theorem dX1_add_156 : decode cX1_add 156 = .ok (.iconst 4, 1) := by decide +kernel
theorem dX1_add_157 : decode cX1_add 157 = .ok (.if_icmp .ge 22, 3) := by decide +kernel
theorem dX1_add_160 : decode cX1_add 160 = .ok (.aload_n 0, 1) := by decide +kernel
theorem dX1_add_161 : decode cX1_add 161 = .ok (.getfield 43, 3) := by decide +kernel
theorem dX1_add_164 : decode cX1_add 164 = .ok (.iload 5, 2) := by decide +kernel
theorem dX1_add_166 : decode cX1_add 166 = .ok (.iconst 4, 1) := by decide +kernel
theorem dX1_add_167 : decode cX1_add 167 = .ok (.imul, 1) := by decide +kernel
theorem dX1_add_168 : decode cX1_add 168 = .ok (.iload 7, 2) := by decide +kernel
theorem dX1_add_170 : decode cX1_add 170 = .ok (.iadd, 1) := by decide +kernel
theorem dX1_add_171 : decode cX1_add 171 = .ok (.iconst 0, 1) := by decide +kernel
theorem dX1_add_172 : decode cX1_add 172 = .ok (.iastore, 1) := by decide +kernel
theorem dX1_add_173 : decode cX1_add 173 = .ok (.iinc 7 1, 3) := by decide +kernel
theorem dX1_add_176 : decode cX1_add 176 = .ok (.goto (-22), 3) := by decide +kernel
theorem dX1_add_179 : decode cX1_add 179 = .ok (.aload_n 0, 1) := by decide +kernel
theorem dX1_add_180 : decode cX1_add 180 = .ok (.dup, 1) := by decide +kernel
theorem dX1_add_181 : decode cX1_add 181 = .ok (.getfield 62, 3) := by decide +kernel
theorem dX1_add_184 : decode cX1_add 184 = .ok (.iconst 1, 1) := by decide +kernel
theorem dX1_add_185 : decode cX1_add 185 = .ok (.iadd, 1) := by decide +kernel
theorem dX1_add_186 : decode cX1_add 186 = .ok (.putfield 62, 3) := by decide +kernel
theorem dX1_add_189 : decode cX1_add 189 = .ok (.return_, 1) := by decide +kernel
theorem dX1_propertyOf_0 : decode cX1_propertyOf 0 = .ok (.aload_n 0, 1) := by decide +kernel
theorem dX1_propertyOf_1 : decode cX1_propertyOf 1 = .ok (.getfield 15, 3) := by decide +kernel
theorem dX1_propertyOf_4 : decode cX1_propertyOf 4 = .ok (.iload_n 1, 1) := by decide +kernel
theorem dX1_propertyOf_5 : decode cX1_propertyOf 5 = .ok (.bipush 7, 2) := by decide +kernel
theorem dX1_propertyOf_7 : decode cX1_propertyOf 7 = .ok (.imul, 1) := by decide +kernel
theorem dX1_propertyOf_8 : decode cX1_propertyOf 8 = .ok (.iload_n 2, 1) := by decide +kernel
theorem dX1_propertyOf_9 : decode cX1_propertyOf 9 = .ok (.iadd, 1) := by decide +kernel
theorem dX1_propertyOf_10 : decode cX1_propertyOf 10 = .ok (.iaload, 1) := by decide +kernel
theorem dX1_propertyOf_11 : decode cX1_propertyOf 11 = .ok (.ireturn, 1) := by decide +kernel
theorem dX1_isWanted_0 : decode cX1_isWanted 0 = .ok (.aload_n 0, 1) := by decide +kernel
theorem dX1_isWanted_1 : decode cX1_isWanted 1 = .ok (.getfield 68, 3) := by decide +kernel
theorem dX1_isWanted_4 : decode cX1_isWanted 4 = .ok (.iconst 1, 1) := by decide +kernel
theorem dX1_isWanted_5 : decode cX1_isWanted 5 = .ok (.iload_n 1, 1) := by decide +kernel
theorem dX1_isWanted_6 : decode cX1_isWanted 6 = .ok (.ishl, 1) := by decide +kernel
theorem dX1_isWanted_7 : decode cX1_isWanted 7 = .ok (.iand, 1) := by decide +kernel
theorem dX1_isWanted_8 : decode cX1_isWanted 8 = .ok (.ifCond .eq 7, 3) := by decide +kernel
theorem dX1_isWanted_11 : decode cX1_isWanted 11 = .ok (.iconst 1, 1) := by decide +kernel
theorem dX1_isWanted_12 : decode cX1_isWanted 12 = .ok (.goto 4, 3) := by decide +kernel
theorem dX1_isWanted_15 : decode cX1_isWanted 15 = .ok (.iconst 0, 1) := by decide +kernel
theorem dX1_isWanted_16 : decode cX1_isWanted 16 = .ok (.ireturn, 1) := by decide +kernel
theorem dX1_isDischarged_0 : decode cX1_isDischarged 0 = .ok (.aload_n 0, 1) := by decide +kernel
theorem dX1_isDischarged_1 : decode cX1_isDischarged 1 = .ok (.getfield 25, 3) := by decide +kernel
theorem dX1_isDischarged_4 : decode cX1_isDischarged 4 = .ok (.iload_n 1, 1) := by decide +kernel
theorem dX1_isDischarged_5 : decode cX1_isDischarged 5 = .ok (.iaload, 1) := by decide +kernel
theorem dX1_isDischarged_6 : decode cX1_isDischarged 6 = .ok (.aload_n 0, 1) := by decide +kernel
theorem dX1_isDischarged_7 : decode cX1_isDischarged 7 = .ok (.getfield 9, 3) := by decide +kernel
theorem dX1_isDischarged_10 : decode cX1_isDischarged 10 = .ok (.if_icmp .gt 7, 3) := by decide +kernel
theorem dX1_isDischarged_13 : decode cX1_isDischarged 13 = .ok (.iconst 1, 1) := by decide +kernel
theorem dX1_isDischarged_14 : decode cX1_isDischarged 14 = .ok (.goto 4, 3) := by decide +kernel
theorem dX1_isDischarged_17 : decode cX1_isDischarged 17 = .ok (.iconst 0, 1) := by decide +kernel
theorem dX1_isDischarged_18 : decode cX1_isDischarged 18 = .ok (.ireturn, 1) := by decide +kernel
theorem dX1_hasFlag_0 : decode cX1_hasFlag 0 = .ok (.aload_n 0, 1) := by decide +kernel
theorem dX1_hasFlag_1 : decode cX1_hasFlag 1 = .ok (.getfield 28, 3) := by decide +kernel
theorem dX1_hasFlag_4 : decode cX1_hasFlag 4 = .ok (.iload_n 1, 1) := by decide +kernel
theorem dX1_hasFlag_5 : decode cX1_hasFlag 5 = .ok (.iaload, 1) := by decide +kernel
theorem dX1_hasFlag_6 : decode cX1_hasFlag 6 = .ok (.ifCond .eq 19, 3) := by decide +kernel
theorem dX1_hasFlag_9 : decode cX1_hasFlag 9 = .ok (.aload_n 0, 1) := by decide +kernel
theorem dX1_hasFlag_10 : decode cX1_hasFlag 10 = .ok (.getfield 28, 3) := by decide +kernel
theorem dX1_hasFlag_13 : decode cX1_hasFlag 13 = .ok (.iload_n 1, 1) := by decide +kernel
theorem dX1_hasFlag_14 : decode cX1_hasFlag 14 = .ok (.iaload, 1) := by decide +kernel
theorem dX1_hasFlag_15 : decode cX1_hasFlag 15 = .ok (.iconst 2, 1) := by decide +kernel
theorem dX1_hasFlag_16 : decode cX1_hasFlag 16 = .ok (.if_icmp .ne 7, 3) := by decide +kernel
theorem dX1_hasFlag_19 : decode cX1_hasFlag 19 = .ok (.iconst 1, 1) := by decide +kernel
theorem dX1_hasFlag_20 : decode cX1_hasFlag 20 = .ok (.goto 4, 3) := by decide +kernel
theorem dX1_hasFlag_23 : decode cX1_hasFlag 23 = .ok (.iconst 0, 1) := by decide +kernel
theorem dX1_hasFlag_24 : decode cX1_hasFlag 24 = .ok (.ireturn, 1) := by decide +kernel
theorem dX1_hasFlag_25 : decode cX1_hasFlag 25 = .ok (.iload_n 1, 1) := by decide +kernel
theorem dX1_hasFlag_26 : decode cX1_hasFlag 26 = .ok (.bipush 7, 2) := by decide +kernel
theorem dX1_hasFlag_28 : decode cX1_hasFlag 28 = .ok (.imul, 1) := by decide +kernel
theorem dX1_hasFlag_29 : decode cX1_hasFlag 29 = .ok (.istore_n 2, 1) := by decide +kernel
theorem dX1_hasFlag_30 : decode cX1_hasFlag 30 = .ok (.aload_n 0, 1) := by decide +kernel
theorem dX1_hasFlag_31 : decode cX1_hasFlag 31 = .ok (.getfield 25, 3) := by decide +kernel
theorem dX1_hasFlag_34 : decode cX1_hasFlag 34 = .ok (.iload_n 1, 1) := by decide +kernel
theorem dX1_hasFlag_35 : decode cX1_hasFlag 35 = .ok (.iaload, 1) := by decide +kernel
theorem dX1_hasFlag_36 : decode cX1_hasFlag 36 = .ok (.bipush 100, 2) := by decide +kernel
theorem dX1_hasFlag_38 : decode cX1_hasFlag 38 = .ok (.imul, 1) := by decide +kernel
theorem dX1_hasFlag_39 : decode cX1_hasFlag 39 = .ok (.aload_n 0, 1) := by decide +kernel
theorem dX1_hasFlag_40 : decode cX1_hasFlag 40 = .ok (.getfield 15, 3) := by decide +kernel
theorem dX1_hasFlag_43 : decode cX1_hasFlag 43 = .ok (.iload_n 2, 1) := by decide +kernel
theorem dX1_hasFlag_44 : decode cX1_hasFlag 44 = .ok (.iconst 0, 1) := by decide +kernel
theorem dX1_hasFlag_45 : decode cX1_hasFlag 45 = .ok (.iadd, 1) := by decide +kernel
theorem dX1_hasFlag_46 : decode cX1_hasFlag 46 = .ok (.iaload, 1) := by decide +kernel
theorem dX1_hasFlag_47 : decode cX1_hasFlag 47 = .ok (.aload_n 0, 1) := by decide +kernel
theorem dX1_hasFlag_48 : decode cX1_hasFlag 48 = .ok (.getfield 15, 3) := by decide +kernel
theorem dX1_hasFlag_51 : decode cX1_hasFlag 51 = .ok (.iload_n 2, 1) := by decide +kernel
theorem dX1_hasFlag_52 : decode cX1_hasFlag 52 = .ok (.iconst 3, 1) := by decide +kernel
theorem dX1_hasFlag_53 : decode cX1_hasFlag 53 = .ok (.iadd, 1) := by decide +kernel
theorem dX1_hasFlag_54 : decode cX1_hasFlag 54 = .ok (.iaload, 1) := by decide +kernel
theorem dX1_hasFlag_55 : decode cX1_hasFlag 55 = .ok (.imul, 1) := by decide +kernel
theorem dX1_hasFlag_56 : decode cX1_hasFlag 56 = .ok (.if_icmp .lt 7, 3) := by decide +kernel
theorem dX1_hasFlag_59 : decode cX1_hasFlag 59 = .ok (.iconst 1, 1) := by decide +kernel
theorem dX1_hasFlag_60 : decode cX1_hasFlag 60 = .ok (.goto 4, 3) := by decide +kernel
theorem dX1_hasFlag_63 : decode cX1_hasFlag 63 = .ok (.iconst 0, 1) := by decide +kernel
theorem dX1_hasFlag_64 : decode cX1_hasFlag 64 = .ok (.ireturn, 1) := by decide +kernel
theorem dX1_numberOf_0 : decode cX1_numberOf 0 = .ok (.iload_n 2, 1) := by decide +kernel
theorem dX1_numberOf_1 : decode cX1_numberOf 1 = .ok (.tableswitch 167 7 18 #[63, 70, 84, 98, 105, 112, 126, 133, 140, 147, 154, 161], 63) := by decide +kernel
theorem dX1_numberOf_64 : decode cX1_numberOf 64 = .ok (.aload_n 0, 1) := by decide +kernel
theorem dX1_numberOf_65 : decode cX1_numberOf 65 = .ok (.getfield 19, 3) := by decide +kernel
theorem dX1_numberOf_68 : decode cX1_numberOf 68 = .ok (.iload_n 1, 1) := by decide +kernel
theorem dX1_numberOf_69 : decode cX1_numberOf 69 = .ok (.iaload, 1) := by decide +kernel
theorem dX1_numberOf_70 : decode cX1_numberOf 70 = .ok (.ireturn, 1) := by decide +kernel
theorem dX1_numberOf_71 : decode cX1_numberOf 71 = .ok (.aload_n 0, 1) := by decide +kernel
theorem dX1_numberOf_72 : decode cX1_numberOf 72 = .ok (.iconst 1, 1) := by decide +kernel
theorem dX1_numberOf_73 : decode cX1_numberOf 73 = .ok (.iload_n 1, 1) := by decide +kernel
theorem dX1_numberOf_74 : decode cX1_numberOf 74 = .ok (.ishl, 1) := by decide +kernel
theorem dX1_numberOf_75 : decode cX1_numberOf 75 = .ok (.invokevirtual 81, 3) := by decide +kernel
theorem dX1_numberOf_78 : decode cX1_numberOf 78 = .ok (.iconst 1, 1) := by decide +kernel
theorem dX1_numberOf_79 : decode cX1_numberOf 79 = .ok (.iload_n 1, 1) := by decide +kernel
theorem dX1_numberOf_80 : decode cX1_numberOf 80 = .ok (.ishl, 1) := by decide +kernel
theorem dX1_numberOf_81 : decode cX1_numberOf 81 = .ok (.iconst (-1), 1) := by decide +kernel
theorem dX1_numberOf_82 : decode cX1_numberOf 82 = .ok (.ixor, 1) := by decide +kernel
theorem dX1_numberOf_83 : decode cX1_numberOf 83 = .ok (.iand, 1) := by decide +kernel
theorem dX1_numberOf_84 : decode cX1_numberOf 84 = .ok (.ireturn, 1) := by decide +kernel
theorem dX1_numberOf_85 : decode cX1_numberOf 85 = .ok (.aload_n 0, 1) := by decide +kernel
theorem dX1_numberOf_86 : decode cX1_numberOf 86 = .ok (.iload_n 1, 1) := by decide +kernel
theorem dX1_numberOf_87 : decode cX1_numberOf 87 = .ok (.invokevirtual 85, 3) := by decide +kernel
theorem dX1_numberOf_90 : decode cX1_numberOf 90 = .ok (.ifCond .eq 7, 3) := by decide +kernel
theorem dX1_numberOf_93 : decode cX1_numberOf 93 = .ok (.iconst 1, 1) := by decide +kernel
theorem dX1_numberOf_94 : decode cX1_numberOf 94 = .ok (.goto 4, 3) := by decide +kernel
theorem dX1_numberOf_97 : decode cX1_numberOf 97 = .ok (.iconst 0, 1) := by decide +kernel
theorem dX1_numberOf_98 : decode cX1_numberOf 98 = .ok (.ireturn, 1) := by decide +kernel
theorem dX1_numberOf_99 : decode cX1_numberOf 99 = .ok (.aload_n 0, 1) := by decide +kernel
theorem dX1_numberOf_100 : decode cX1_numberOf 100 = .ok (.getfield 22, 3) := by decide +kernel
theorem dX1_numberOf_103 : decode cX1_numberOf 103 = .ok (.iload_n 1, 1) := by decide +kernel
theorem dX1_numberOf_104 : decode cX1_numberOf 104 = .ok (.iaload, 1) := by decide +kernel
theorem dX1_numberOf_105 : decode cX1_numberOf 105 = .ok (.ireturn, 1) := by decide +kernel
theorem dX1_numberOf_106 : decode cX1_numberOf 106 = .ok (.aload_n 0, 1) := by decide +kernel
theorem dX1_numberOf_107 : decode cX1_numberOf 107 = .ok (.getfield 25, 3) := by decide +kernel
theorem dX1_numberOf_110 : decode cX1_numberOf 110 = .ok (.iload_n 1, 1) := by decide +kernel
theorem dX1_numberOf_111 : decode cX1_numberOf 111 = .ok (.iaload, 1) := by decide +kernel
theorem dX1_numberOf_112 : decode cX1_numberOf 112 = .ok (.ireturn, 1) := by decide +kernel
theorem dX1_numberOf_113 : decode cX1_numberOf 113 = .ok (.aload_n 0, 1) := by decide +kernel
theorem dX1_numberOf_114 : decode cX1_numberOf 114 = .ok (.iload_n 1, 1) := by decide +kernel
theorem dX1_numberOf_115 : decode cX1_numberOf 115 = .ok (.invokevirtual 89, 3) := by decide +kernel
theorem dX1_numberOf_118 : decode cX1_numberOf 118 = .ok (.ifCond .eq 7, 3) := by decide +kernel
theorem dX1_numberOf_121 : decode cX1_numberOf 121 = .ok (.iconst 1, 1) := by decide +kernel
theorem dX1_numberOf_122 : decode cX1_numberOf 122 = .ok (.goto 4, 3) := by decide +kernel
theorem dX1_numberOf_125 : decode cX1_numberOf 125 = .ok (.iconst 0, 1) := by decide +kernel
theorem dX1_numberOf_126 : decode cX1_numberOf 126 = .ok (.ireturn, 1) := by decide +kernel
theorem dX1_numberOf_127 : decode cX1_numberOf 127 = .ok (.aload_n 0, 1) := by decide +kernel
theorem dX1_numberOf_128 : decode cX1_numberOf 128 = .ok (.getfield 28, 3) := by decide +kernel
theorem dX1_numberOf_131 : decode cX1_numberOf 131 = .ok (.iload_n 1, 1) := by decide +kernel
theorem dX1_numberOf_132 : decode cX1_numberOf 132 = .ok (.iaload, 1) := by decide +kernel
theorem dX1_numberOf_133 : decode cX1_numberOf 133 = .ok (.ireturn, 1) := by decide +kernel
theorem dX1_numberOf_134 : decode cX1_numberOf 134 = .ok (.aload_n 0, 1) := by decide +kernel
theorem dX1_numberOf_135 : decode cX1_numberOf 135 = .ok (.getfield 31, 3) := by decide +kernel
theorem dX1_numberOf_138 : decode cX1_numberOf 138 = .ok (.iload_n 1, 1) := by decide +kernel
theorem dX1_numberOf_139 : decode cX1_numberOf 139 = .ok (.iaload, 1) := by decide +kernel
theorem dX1_numberOf_140 : decode cX1_numberOf 140 = .ok (.ireturn, 1) := by decide +kernel
theorem dX1_numberOf_141 : decode cX1_numberOf 141 = .ok (.aload_n 0, 1) := by decide +kernel
theorem dX1_numberOf_142 : decode cX1_numberOf 142 = .ok (.getfield 34, 3) := by decide +kernel
theorem dX1_numberOf_145 : decode cX1_numberOf 145 = .ok (.iload_n 1, 1) := by decide +kernel
theorem dX1_numberOf_146 : decode cX1_numberOf 146 = .ok (.iaload, 1) := by decide +kernel
theorem dX1_numberOf_147 : decode cX1_numberOf 147 = .ok (.ireturn, 1) := by decide +kernel
theorem dX1_numberOf_148 : decode cX1_numberOf 148 = .ok (.aload_n 0, 1) := by decide +kernel
theorem dX1_numberOf_149 : decode cX1_numberOf 149 = .ok (.getfield 37, 3) := by decide +kernel
theorem dX1_numberOf_152 : decode cX1_numberOf 152 = .ok (.iload_n 1, 1) := by decide +kernel
theorem dX1_numberOf_153 : decode cX1_numberOf 153 = .ok (.iaload, 1) := by decide +kernel
theorem dX1_numberOf_154 : decode cX1_numberOf 154 = .ok (.ireturn, 1) := by decide +kernel
theorem dX1_numberOf_155 : decode cX1_numberOf 155 = .ok (.aload_n 0, 1) := by decide +kernel
theorem dX1_numberOf_156 : decode cX1_numberOf 156 = .ok (.getfield 40, 3) := by decide +kernel
theorem dX1_numberOf_159 : decode cX1_numberOf 159 = .ok (.iload_n 1, 1) := by decide +kernel
theorem dX1_numberOf_160 : decode cX1_numberOf 160 = .ok (.iaload, 1) := by decide +kernel
theorem dX1_numberOf_161 : decode cX1_numberOf 161 = .ok (.ireturn, 1) := by decide +kernel
theorem dX1_numberOf_162 : decode cX1_numberOf 162 = .ok (.aload_n 0, 1) := by decide +kernel
theorem dX1_numberOf_163 : decode cX1_numberOf 163 = .ok (.iload_n 1, 1) := by decide +kernel
theorem dX1_numberOf_164 : decode cX1_numberOf 164 = .ok (.invokevirtual 92, 3) := by decide +kernel
theorem dX1_numberOf_167 : decode cX1_numberOf 167 = .ok (.ireturn, 1) := by decide +kernel
theorem dX1_numberOf_168 : decode cX1_numberOf 168 = .ok (.aload_n 0, 1) := by decide +kernel
theorem dX1_numberOf_169 : decode cX1_numberOf 169 = .ok (.iload_n 1, 1) := by decide +kernel
theorem dX1_numberOf_170 : decode cX1_numberOf 170 = .ok (.iload_n 2, 1) := by decide +kernel
theorem dX1_numberOf_171 : decode cX1_numberOf 171 = .ok (.invokevirtual 95, 3) := by decide +kernel
theorem dX1_numberOf_174 : decode cX1_numberOf 174 = .ok (.ireturn, 1) := by decide +kernel
theorem dX1_firstBlameOf_0 : decode cX1_firstBlameOf 0 = .ok (.aload_n 0, 1) := by decide +kernel
theorem dX1_firstBlameOf_1 : decode cX1_firstBlameOf 1 = .ok (.getfield 40, 3) := by decide +kernel
theorem dX1_firstBlameOf_4 : decode cX1_firstBlameOf 4 = .ok (.iload_n 1, 1) := by decide +kernel
theorem dX1_firstBlameOf_5 : decode cX1_firstBlameOf 5 = .ok (.iaload, 1) := by decide +kernel
theorem dX1_firstBlameOf_6 : decode cX1_firstBlameOf 6 = .ok (.iconst (-1), 1) := by decide +kernel
theorem dX1_firstBlameOf_7 : decode cX1_firstBlameOf 7 = .ok (.if_icmp .ne 5, 3) := by decide +kernel
theorem dX1_firstBlameOf_10 : decode cX1_firstBlameOf 10 = .ok (.iconst (-1), 1) := by decide +kernel
theorem dX1_firstBlameOf_11 : decode cX1_firstBlameOf 11 = .ok (.ireturn, 1) := by decide +kernel
theorem dX1_firstBlameOf_12 : decode cX1_firstBlameOf 12 = .ok (.iload_n 1, 1) := by decide +kernel
theorem dX1_firstBlameOf_13 : decode cX1_firstBlameOf 13 = .ok (.istore_n 2, 1) := by decide +kernel
theorem dX1_firstBlameOf_14 : decode cX1_firstBlameOf 14 = .ok (.iconst 0, 1) := by decide +kernel
theorem dX1_firstBlameOf_15 : decode cX1_firstBlameOf 15 = .ok (.istore_n 3, 1) := by decide +kernel
theorem dX1_firstBlameOf_16 : decode cX1_firstBlameOf 16 = .ok (.iload_n 3, 1) := by decide +kernel
theorem dX1_firstBlameOf_17 : decode cX1_firstBlameOf 17 = .ok (.bipush 8, 2) := by decide +kernel
theorem dX1_firstBlameOf_19 : decode cX1_firstBlameOf 19 = .ok (.if_icmp .ge 26, 3) := by decide +kernel
theorem dX1_firstBlameOf_22 : decode cX1_firstBlameOf 22 = .ok (.aload_n 0, 1) := by decide +kernel
theorem dX1_firstBlameOf_23 : decode cX1_firstBlameOf 23 = .ok (.getfield 40, 3) := by decide +kernel
theorem dX1_firstBlameOf_26 : decode cX1_firstBlameOf 26 = .ok (.iload_n 2, 1) := by decide +kernel
theorem dX1_firstBlameOf_27 : decode cX1_firstBlameOf 27 = .ok (.iaload, 1) := by decide +kernel
theorem dX1_firstBlameOf_28 : decode cX1_firstBlameOf 28 = .ok (.iconst (-1), 1) := by decide +kernel
theorem dX1_firstBlameOf_29 : decode cX1_firstBlameOf 29 = .ok (.if_icmp .eq 16, 3) := by decide +kernel
theorem dX1_firstBlameOf_32 : decode cX1_firstBlameOf 32 = .ok (.aload_n 0, 1) := by decide +kernel
theorem dX1_firstBlameOf_33 : decode cX1_firstBlameOf 33 = .ok (.getfield 40, 3) := by decide +kernel
theorem dX1_firstBlameOf_36 : decode cX1_firstBlameOf 36 = .ok (.iload_n 2, 1) := by decide +kernel
theorem dX1_firstBlameOf_37 : decode cX1_firstBlameOf 37 = .ok (.iaload, 1) := by decide +kernel
theorem dX1_firstBlameOf_38 : decode cX1_firstBlameOf 38 = .ok (.istore_n 2, 1) := by decide +kernel
theorem dX1_firstBlameOf_39 : decode cX1_firstBlameOf 39 = .ok (.iinc 3 1, 3) := by decide +kernel
theorem dX1_firstBlameOf_42 : decode cX1_firstBlameOf 42 = .ok (.goto (-26), 3) := by decide +kernel
theorem dX1_firstBlameOf_45 : decode cX1_firstBlameOf 45 = .ok (.iload_n 2, 1) := by decide +kernel
theorem dX1_firstBlameOf_46 : decode cX1_firstBlameOf 46 = .ok (.ireturn, 1) := by decide +kernel
theorem dX1_leastPatienceOf_0 : decode cX1_leastPatienceOf 0 = .ok (.aload_n 0, 1) := by decide +kernel
theorem dX1_leastPatienceOf_1 : decode cX1_leastPatienceOf 1 = .ok (.iload_n 1, 1) := by decide +kernel
theorem dX1_leastPatienceOf_2 : decode cX1_leastPatienceOf 2 = .ok (.iconst 0, 1) := by decide +kernel
theorem dX1_leastPatienceOf_3 : decode cX1_leastPatienceOf 3 = .ok (.invokevirtual 95, 3) := by decide +kernel
theorem dX1_leastPatienceOf_6 : decode cX1_leastPatienceOf 6 = .ok (.aload_n 0, 1) := by decide +kernel
theorem dX1_leastPatienceOf_7 : decode cX1_leastPatienceOf 7 = .ok (.iload_n 1, 1) := by decide +kernel
theorem dX1_leastPatienceOf_8 : decode cX1_leastPatienceOf 8 = .ok (.iconst 3, 1) := by decide +kernel
theorem dX1_leastPatienceOf_9 : decode cX1_leastPatienceOf 9 = .ok (.invokevirtual 95, 3) := by decide +kernel
theorem dX1_leastPatienceOf_12 : decode cX1_leastPatienceOf 12 = .ok (.imul, 1) := by decide +kernel
theorem dX1_leastPatienceOf_13 : decode cX1_leastPatienceOf 13 = .ok (.istore_n 2, 1) := by decide +kernel
theorem dX1_leastPatienceOf_14 : decode cX1_leastPatienceOf 14 = .ok (.aload_n 0, 1) := by decide +kernel
theorem dX1_leastPatienceOf_15 : decode cX1_leastPatienceOf 15 = .ok (.iload_n 1, 1) := by decide +kernel
theorem dX1_leastPatienceOf_16 : decode cX1_leastPatienceOf 16 = .ok (.iconst 1, 1) := by decide +kernel
theorem dX1_leastPatienceOf_17 : decode cX1_leastPatienceOf 17 = .ok (.invokevirtual 95, 3) := by decide +kernel
theorem dX1_leastPatienceOf_20 : decode cX1_leastPatienceOf 20 = .ok (.bipush 100, 2) := by decide +kernel
theorem dX1_leastPatienceOf_22 : decode cX1_leastPatienceOf 22 = .ok (.imul, 1) := by decide +kernel
theorem dX1_leastPatienceOf_23 : decode cX1_leastPatienceOf 23 = .ok (.istore_n 3, 1) := by decide +kernel
theorem dX1_leastPatienceOf_24 : decode cX1_leastPatienceOf 24 = .ok (.getstatic 99, 3) := by decide +kernel
theorem dX1_leastPatienceOf_27 : decode cX1_leastPatienceOf 27 = .ok (.iconst 5, 1) := by decide +kernel
theorem dX1_leastPatienceOf_28 : decode cX1_leastPatienceOf 28 = .ok (.iaload, 1) := by decide +kernel
theorem dX1_leastPatienceOf_29 : decode cX1_leastPatienceOf 29 = .ok (.istore 4, 2) := by decide +kernel
theorem dX1_leastPatienceOf_31 : decode cX1_leastPatienceOf 31 = .ok (.iload 4, 2) := by decide +kernel
theorem dX1_leastPatienceOf_33 : decode cX1_leastPatienceOf 33 = .ok (.getstatic 102, 3) := by decide +kernel
theorem dX1_leastPatienceOf_36 : decode cX1_leastPatienceOf 36 = .ok (.iconst 5, 1) := by decide +kernel
theorem dX1_leastPatienceOf_37 : decode cX1_leastPatienceOf 37 = .ok (.iaload, 1) := by decide +kernel
theorem dX1_leastPatienceOf_38 : decode cX1_leastPatienceOf 38 = .ok (.if_icmp .gt 20, 3) := by decide +kernel
theorem dX1_leastPatienceOf_41 : decode cX1_leastPatienceOf 41 = .ok (.iload 4, 2) := by decide +kernel
theorem dX1_leastPatienceOf_43 : decode cX1_leastPatienceOf 43 = .ok (.iload_n 3, 1) := by decide +kernel
theorem dX1_leastPatienceOf_44 : decode cX1_leastPatienceOf 44 = .ok (.imul, 1) := by decide +kernel
theorem dX1_leastPatienceOf_45 : decode cX1_leastPatienceOf 45 = .ok (.iload_n 2, 1) := by decide +kernel
theorem dX1_leastPatienceOf_46 : decode cX1_leastPatienceOf 46 = .ok (.if_icmp .lt 6, 3) := by decide +kernel
theorem dX1_leastPatienceOf_49 : decode cX1_leastPatienceOf 49 = .ok (.iload 4, 2) := by decide +kernel
theorem dX1_leastPatienceOf_51 : decode cX1_leastPatienceOf 51 = .ok (.ireturn, 1) := by decide +kernel
theorem dX1_leastPatienceOf_52 : decode cX1_leastPatienceOf 52 = .ok (.iinc 4 1, 3) := by decide +kernel
theorem dX1_leastPatienceOf_55 : decode cX1_leastPatienceOf 55 = .ok (.goto (-24), 3) := by decide +kernel
theorem dX1_leastPatienceOf_58 : decode cX1_leastPatienceOf 58 = .ok (.iconst (-1), 1) := by decide +kernel
theorem dX1_leastPatienceOf_59 : decode cX1_leastPatienceOf 59 = .ok (.ireturn, 1) := by decide +kernel
theorem dX1_withAllNeeded_0 : decode cX1_withAllNeeded 0 = .ok (.iload_n 1, 1) := by decide +kernel
theorem dX1_withAllNeeded_1 : decode cX1_withAllNeeded 1 = .ok (.istore_n 2, 1) := by decide +kernel
theorem dX1_withAllNeeded_2 : decode cX1_withAllNeeded 2 = .ok (.aload_n 0, 1) := by decide +kernel
theorem dX1_withAllNeeded_3 : decode cX1_withAllNeeded 3 = .ok (.getfield 62, 3) := by decide +kernel
theorem dX1_withAllNeeded_6 : decode cX1_withAllNeeded 6 = .ok (.iconst 1, 1) := by decide +kernel
theorem dX1_withAllNeeded_7 : decode cX1_withAllNeeded 7 = .ok (.isub, 1) := by decide +kernel
theorem dX1_withAllNeeded_8 : decode cX1_withAllNeeded 8 = .ok (.istore_n 3, 1) := by decide +kernel
theorem dX1_withAllNeeded_9 : decode cX1_withAllNeeded 9 = .ok (.iload_n 3, 1) := by decide +kernel
theorem dX1_withAllNeeded_10 : decode cX1_withAllNeeded 10 = .ok (.ifCond .lt 26, 3) := by decide +kernel
theorem dX1_withAllNeeded_13 : decode cX1_withAllNeeded 13 = .ok (.iload_n 2, 1) := by decide +kernel
theorem dX1_withAllNeeded_14 : decode cX1_withAllNeeded 14 = .ok (.iconst 1, 1) := by decide +kernel
theorem dX1_withAllNeeded_15 : decode cX1_withAllNeeded 15 = .ok (.iload_n 3, 1) := by decide +kernel
theorem dX1_withAllNeeded_16 : decode cX1_withAllNeeded 16 = .ok (.ishl, 1) := by decide +kernel
theorem dX1_withAllNeeded_17 : decode cX1_withAllNeeded 17 = .ok (.iand, 1) := by decide +kernel
theorem dX1_withAllNeeded_18 : decode cX1_withAllNeeded 18 = .ok (.ifCond .eq 12, 3) := by decide +kernel
theorem dX1_withAllNeeded_21 : decode cX1_withAllNeeded 21 = .ok (.iload_n 2, 1) := by decide +kernel
theorem dX1_withAllNeeded_22 : decode cX1_withAllNeeded 22 = .ok (.aload_n 0, 1) := by decide +kernel
theorem dX1_withAllNeeded_23 : decode cX1_withAllNeeded 23 = .ok (.getfield 19, 3) := by decide +kernel
theorem dX1_withAllNeeded_26 : decode cX1_withAllNeeded 26 = .ok (.iload_n 3, 1) := by decide +kernel
theorem dX1_withAllNeeded_27 : decode cX1_withAllNeeded 27 = .ok (.iaload, 1) := by decide +kernel
theorem dX1_withAllNeeded_28 : decode cX1_withAllNeeded 28 = .ok (.ior, 1) := by decide +kernel
theorem dX1_withAllNeeded_29 : decode cX1_withAllNeeded 29 = .ok (.istore_n 2, 1) := by decide +kernel
theorem dX1_withAllNeeded_30 : decode cX1_withAllNeeded 30 = .ok (.iinc 3 (-1), 3) := by decide +kernel
theorem dX1_withAllNeeded_33 : decode cX1_withAllNeeded 33 = .ok (.goto (-24), 3) := by decide +kernel
theorem dX1_withAllNeeded_36 : decode cX1_withAllNeeded 36 = .ok (.iload_n 2, 1) := by decide +kernel
theorem dX1_withAllNeeded_37 : decode cX1_withAllNeeded 37 = .ok (.ireturn, 1) := by decide +kernel
theorem dX1_withFollowers_0 : decode cX1_withFollowers 0 = .ok (.iload_n 1, 1) := by decide +kernel
theorem dX1_withFollowers_1 : decode cX1_withFollowers 1 = .ok (.istore_n 2, 1) := by decide +kernel
theorem dX1_withFollowers_2 : decode cX1_withFollowers 2 = .ok (.iconst 0, 1) := by decide +kernel
theorem dX1_withFollowers_3 : decode cX1_withFollowers 3 = .ok (.istore_n 3, 1) := by decide +kernel
theorem dX1_withFollowers_4 : decode cX1_withFollowers 4 = .ok (.iload_n 3, 1) := by decide +kernel
theorem dX1_withFollowers_5 : decode cX1_withFollowers 5 = .ok (.aload_n 0, 1) := by decide +kernel
theorem dX1_withFollowers_6 : decode cX1_withFollowers 6 = .ok (.getfield 62, 3) := by decide +kernel
theorem dX1_withFollowers_9 : decode cX1_withFollowers 9 = .ok (.if_icmp .ge 26, 3) := by decide +kernel
theorem dX1_withFollowers_12 : decode cX1_withFollowers 12 = .ok (.iload_n 2, 1) := by decide +kernel
theorem dX1_withFollowers_13 : decode cX1_withFollowers 13 = .ok (.aload_n 0, 1) := by decide +kernel
theorem dX1_withFollowers_14 : decode cX1_withFollowers 14 = .ok (.getfield 19, 3) := by decide +kernel
theorem dX1_withFollowers_17 : decode cX1_withFollowers 17 = .ok (.iload_n 3, 1) := by decide +kernel
theorem dX1_withFollowers_18 : decode cX1_withFollowers 18 = .ok (.iaload, 1) := by decide +kernel
theorem dX1_withFollowers_19 : decode cX1_withFollowers 19 = .ok (.iand, 1) := by decide +kernel
theorem dX1_withFollowers_20 : decode cX1_withFollowers 20 = .ok (.ifCond .eq 9, 3) := by decide +kernel
theorem dX1_withFollowers_23 : decode cX1_withFollowers 23 = .ok (.iload_n 2, 1) := by decide +kernel
theorem dX1_withFollowers_24 : decode cX1_withFollowers 24 = .ok (.iconst 1, 1) := by decide +kernel
theorem dX1_withFollowers_25 : decode cX1_withFollowers 25 = .ok (.iload_n 3, 1) := by decide +kernel
theorem dX1_withFollowers_26 : decode cX1_withFollowers 26 = .ok (.ishl, 1) := by decide +kernel
theorem dX1_withFollowers_27 : decode cX1_withFollowers 27 = .ok (.ior, 1) := by decide +kernel
theorem dX1_withFollowers_28 : decode cX1_withFollowers 28 = .ok (.istore_n 2, 1) := by decide +kernel
theorem dX1_withFollowers_29 : decode cX1_withFollowers 29 = .ok (.iinc 3 1, 3) := by decide +kernel
theorem dX1_withFollowers_32 : decode cX1_withFollowers 32 = .ok (.goto (-28), 3) := by decide +kernel
theorem dX1_withFollowers_35 : decode cX1_withFollowers 35 = .ok (.iload_n 2, 1) := by decide +kernel
theorem dX1_withFollowers_36 : decode cX1_withFollowers 36 = .ok (.ireturn, 1) := by decide +kernel
theorem dX1_maskOf_0 : decode cX1_maskOf 0 = .ok (.iconst 0, 1) := by decide +kernel
theorem dX1_maskOf_1 : decode cX1_maskOf 1 = .ok (.istore_n 2, 1) := by decide +kernel
theorem dX1_maskOf_2 : decode cX1_maskOf 2 = .ok (.iconst 0, 1) := by decide +kernel
theorem dX1_maskOf_3 : decode cX1_maskOf 3 = .ok (.istore_n 3, 1) := by decide +kernel
theorem dX1_maskOf_4 : decode cX1_maskOf 4 = .ok (.iload_n 3, 1) := by decide +kernel
theorem dX1_maskOf_5 : decode cX1_maskOf 5 = .ok (.aload_n 0, 1) := by decide +kernel
theorem dX1_maskOf_6 : decode cX1_maskOf 6 = .ok (.getfield 62, 3) := by decide +kernel
theorem dX1_maskOf_9 : decode cX1_maskOf 9 = .ok (.if_icmp .ge 25, 3) := by decide +kernel
theorem dX1_maskOf_12 : decode cX1_maskOf 12 = .ok (.aload_n 0, 1) := by decide +kernel
theorem dX1_maskOf_13 : decode cX1_maskOf 13 = .ok (.getfield 22, 3) := by decide +kernel
theorem dX1_maskOf_16 : decode cX1_maskOf 16 = .ok (.iload_n 3, 1) := by decide +kernel
theorem dX1_maskOf_17 : decode cX1_maskOf 17 = .ok (.iaload, 1) := by decide +kernel
theorem dX1_maskOf_18 : decode cX1_maskOf 18 = .ok (.iload_n 1, 1) := by decide +kernel
theorem dX1_maskOf_19 : decode cX1_maskOf 19 = .ok (.if_icmp .ne 9, 3) := by decide +kernel
theorem dX1_maskOf_22 : decode cX1_maskOf 22 = .ok (.iload_n 2, 1) := by decide +kernel
theorem dX1_maskOf_23 : decode cX1_maskOf 23 = .ok (.iconst 1, 1) := by decide +kernel
theorem dX1_maskOf_24 : decode cX1_maskOf 24 = .ok (.iload_n 3, 1) := by decide +kernel
theorem dX1_maskOf_25 : decode cX1_maskOf 25 = .ok (.ishl, 1) := by decide +kernel
theorem dX1_maskOf_26 : decode cX1_maskOf 26 = .ok (.ior, 1) := by decide +kernel
theorem dX1_maskOf_27 : decode cX1_maskOf 27 = .ok (.istore_n 2, 1) := by decide +kernel
theorem dX1_maskOf_28 : decode cX1_maskOf 28 = .ok (.iinc 3 1, 3) := by decide +kernel
theorem dX1_maskOf_31 : decode cX1_maskOf 31 = .ok (.goto (-27), 3) := by decide +kernel
theorem dX1_maskOf_34 : decode cX1_maskOf 34 = .ok (.iload_n 2, 1) := by decide +kernel
theorem dX1_maskOf_35 : decode cX1_maskOf 35 = .ok (.ireturn, 1) := by decide +kernel
theorem dX1_sumOfVoltages_0 : decode cX1_sumOfVoltages 0 = .ok (.iconst 0, 1) := by decide +kernel
theorem dX1_sumOfVoltages_1 : decode cX1_sumOfVoltages 1 = .ok (.istore_n 1, 1) := by decide +kernel
theorem dX1_sumOfVoltages_2 : decode cX1_sumOfVoltages 2 = .ok (.iconst 0, 1) := by decide +kernel
theorem dX1_sumOfVoltages_3 : decode cX1_sumOfVoltages 3 = .ok (.istore_n 2, 1) := by decide +kernel
theorem dX1_sumOfVoltages_4 : decode cX1_sumOfVoltages 4 = .ok (.iload_n 2, 1) := by decide +kernel
theorem dX1_sumOfVoltages_5 : decode cX1_sumOfVoltages 5 = .ok (.aload_n 0, 1) := by decide +kernel
theorem dX1_sumOfVoltages_6 : decode cX1_sumOfVoltages 6 = .ok (.getfield 62, 3) := by decide +kernel
theorem dX1_sumOfVoltages_9 : decode cX1_sumOfVoltages 9 = .ok (.if_icmp .ge 18, 3) := by decide +kernel
theorem dX1_sumOfVoltages_12 : decode cX1_sumOfVoltages 12 = .ok (.iload_n 1, 1) := by decide +kernel
theorem dX1_sumOfVoltages_13 : decode cX1_sumOfVoltages 13 = .ok (.aload_n 0, 1) := by decide +kernel
theorem dX1_sumOfVoltages_14 : decode cX1_sumOfVoltages 14 = .ok (.getfield 25, 3) := by decide +kernel
theorem dX1_sumOfVoltages_17 : decode cX1_sumOfVoltages 17 = .ok (.iload_n 2, 1) := by decide +kernel
theorem dX1_sumOfVoltages_18 : decode cX1_sumOfVoltages 18 = .ok (.iaload, 1) := by decide +kernel
theorem dX1_sumOfVoltages_19 : decode cX1_sumOfVoltages 19 = .ok (.iadd, 1) := by decide +kernel
theorem dX1_sumOfVoltages_20 : decode cX1_sumOfVoltages 20 = .ok (.istore_n 1, 1) := by decide +kernel
theorem dX1_sumOfVoltages_21 : decode cX1_sumOfVoltages 21 = .ok (.iinc 2 1, 3) := by decide +kernel
theorem dX1_sumOfVoltages_24 : decode cX1_sumOfVoltages 24 = .ok (.goto (-20), 3) := by decide +kernel
theorem dX1_sumOfVoltages_27 : decode cX1_sumOfVoltages 27 = .ok (.iload_n 1, 1) := by decide +kernel
theorem dX1_sumOfVoltages_28 : decode cX1_sumOfVoltages 28 = .ok (.ireturn, 1) := by decide +kernel
theorem dX1_isAllOff_0 : decode cX1_isAllOff 0 = .ok (.iconst 0, 1) := by decide +kernel
theorem dX1_isAllOff_1 : decode cX1_isAllOff 1 = .ok (.istore_n 1, 1) := by decide +kernel
theorem dX1_isAllOff_2 : decode cX1_isAllOff 2 = .ok (.iload_n 1, 1) := by decide +kernel
theorem dX1_isAllOff_3 : decode cX1_isAllOff 3 = .ok (.aload_n 0, 1) := by decide +kernel
theorem dX1_isAllOff_4 : decode cX1_isAllOff 4 = .ok (.getfield 62, 3) := by decide +kernel
theorem dX1_isAllOff_7 : decode cX1_isAllOff 7 = .ok (.if_icmp .ge 28, 3) := by decide +kernel
theorem dX1_isAllOff_10 : decode cX1_isAllOff 10 = .ok (.aload_n 0, 1) := by decide +kernel
theorem dX1_isAllOff_11 : decode cX1_isAllOff 11 = .ok (.getfield 22, 3) := by decide +kernel
theorem dX1_isAllOff_14 : decode cX1_isAllOff 14 = .ok (.iload_n 1, 1) := by decide +kernel
theorem dX1_isAllOff_15 : decode cX1_isAllOff 15 = .ok (.iaload, 1) := by decide +kernel
theorem dX1_isAllOff_16 : decode cX1_isAllOff 16 = .ok (.ifCond .ne 11, 3) := by decide +kernel
theorem dX1_isAllOff_19 : decode cX1_isAllOff 19 = .ok (.aload_n 0, 1) := by decide +kernel
theorem dX1_isAllOff_20 : decode cX1_isAllOff 20 = .ok (.iload_n 1, 1) := by decide +kernel
theorem dX1_isAllOff_21 : decode cX1_isAllOff 21 = .ok (.invokevirtual 105, 3) := by decide +kernel
theorem dX1_isAllOff_24 : decode cX1_isAllOff 24 = .ok (.ifCond .ne 5, 3) := by decide +kernel
theorem dX1_isAllOff_27 : decode cX1_isAllOff 27 = .ok (.iconst 0, 1) := by decide +kernel
theorem dX1_isAllOff_28 : decode cX1_isAllOff 28 = .ok (.ireturn, 1) := by decide +kernel
theorem dX1_isAllOff_29 : decode cX1_isAllOff 29 = .ok (.iinc 1 1, 3) := by decide +kernel
theorem dX1_isAllOff_32 : decode cX1_isAllOff 32 = .ok (.goto (-30), 3) := by decide +kernel
theorem dX1_isAllOff_35 : decode cX1_isAllOff 35 = .ok (.iconst 1, 1) := by decide +kernel
theorem dX1_isAllOff_36 : decode cX1_isAllOff 36 = .ok (.ireturn, 1) := by decide +kernel
theorem dX1_passTick_0 : decode cX1_passTick 0 = .ok (.aload_n 0, 1) := by decide +kernel
theorem dX1_passTick_1 : decode cX1_passTick 1 = .ok (.invokevirtual 108, 3) := by decide +kernel
theorem dX1_passTick_4 : decode cX1_passTick 4 = .ok (.aload_n 0, 1) := by decide +kernel
theorem dX1_passTick_5 : decode cX1_passTick 5 = .ok (.invokevirtual 111, 3) := by decide +kernel
theorem dX1_passTick_8 : decode cX1_passTick 8 = .ok (.iconst 0, 1) := by decide +kernel
theorem dX1_passTick_9 : decode cX1_passTick 9 = .ok (.istore_n 1, 1) := by decide +kernel
theorem dX1_passTick_10 : decode cX1_passTick 10 = .ok (.iconst 0, 1) := by decide +kernel
theorem dX1_passTick_11 : decode cX1_passTick 11 = .ok (.istore_n 2, 1) := by decide +kernel
theorem dX1_passTick_12 : decode cX1_passTick 12 = .ok (.iload_n 2, 1) := by decide +kernel
theorem dX1_passTick_13 : decode cX1_passTick 13 = .ok (.aload_n 0, 1) := by decide +kernel
theorem dX1_passTick_14 : decode cX1_passTick 14 = .ok (.getfield 62, 3) := by decide +kernel
theorem dX1_passTick_17 : decode cX1_passTick 17 = .ok (.if_icmp .ge 34, 3) := by decide +kernel
theorem dX1_passTick_20 : decode cX1_passTick 20 = .ok (.aload_n 0, 1) := by decide +kernel
theorem dX1_passTick_21 : decode cX1_passTick 21 = .ok (.iload_n 2, 1) := by decide +kernel
theorem dX1_passTick_22 : decode cX1_passTick 22 = .ok (.invokevirtual 114, 3) := by decide +kernel
theorem dX1_passTick_25 : decode cX1_passTick 25 = .ok (.istore_n 3, 1) := by decide +kernel
theorem dX1_passTick_26 : decode cX1_passTick 26 = .ok (.iload_n 3, 1) := by decide +kernel
theorem dX1_passTick_27 : decode cX1_passTick 27 = .ok (.aload_n 0, 1) := by decide +kernel
theorem dX1_passTick_28 : decode cX1_passTick 28 = .ok (.getfield 22, 3) := by decide +kernel
theorem dX1_passTick_31 : decode cX1_passTick 31 = .ok (.iload_n 2, 1) := by decide +kernel
theorem dX1_passTick_32 : decode cX1_passTick 32 = .ok (.iaload, 1) := by decide +kernel
theorem dX1_passTick_33 : decode cX1_passTick 33 = .ok (.if_icmp .eq 12, 3) := by decide +kernel
theorem dX1_passTick_36 : decode cX1_passTick 36 = .ok (.aload_n 0, 1) := by decide +kernel
theorem dX1_passTick_37 : decode cX1_passTick 37 = .ok (.iload_n 2, 1) := by decide +kernel
theorem dX1_passTick_38 : decode cX1_passTick 38 = .ok (.iload_n 3, 1) := by decide +kernel
theorem dX1_passTick_39 : decode cX1_passTick 39 = .ok (.invokevirtual 117, 3) := by decide +kernel
theorem dX1_passTick_42 : decode cX1_passTick 42 = .ok (.iinc 1 1, 3) := by decide +kernel
theorem dX1_passTick_45 : decode cX1_passTick 45 = .ok (.iinc 2 1, 3) := by decide +kernel
theorem dX1_passTick_48 : decode cX1_passTick 48 = .ok (.goto (-36), 3) := by decide +kernel
theorem dX1_passTick_51 : decode cX1_passTick 51 = .ok (.aload_n 0, 1) := by decide +kernel
theorem dX1_passTick_52 : decode cX1_passTick 52 = .ok (.invokevirtual 121, 3) := by decide +kernel
theorem dX1_passTick_55 : decode cX1_passTick 55 = .ok (.iload_n 1, 1) := by decide +kernel
theorem dX1_passTick_56 : decode cX1_passTick 56 = .ok (.ireturn, 1) := by decide +kernel
theorem dX1_rememberBefore_0 : decode cX1_rememberBefore 0 = .ok (.aload_n 0, 1) := by decide +kernel
theorem dX1_rememberBefore_1 : decode cX1_rememberBefore 1 = .ok (.getfield 22, 3) := by decide +kernel
theorem dX1_rememberBefore_4 : decode cX1_rememberBefore 4 = .ok (.iconst 0, 1) := by decide +kernel
theorem dX1_rememberBefore_5 : decode cX1_rememberBefore 5 = .ok (.aload_n 0, 1) := by decide +kernel
theorem dX1_rememberBefore_6 : decode cX1_rememberBefore 6 = .ok (.getfield 53, 3) := by decide +kernel
theorem dX1_rememberBefore_9 : decode cX1_rememberBefore 9 = .ok (.iconst 0, 1) := by decide +kernel
theorem dX1_rememberBefore_10 : decode cX1_rememberBefore 10 = .ok (.bipush 8, 2) := by decide +kernel
theorem dX1_rememberBefore_12 : decode cX1_rememberBefore 12 = .ok (.invokestatic 71, 3) := by decide +kernel
theorem dX1_rememberBefore_15 : decode cX1_rememberBefore 15 = .ok (.aload_n 0, 1) := by decide +kernel
theorem dX1_rememberBefore_16 : decode cX1_rememberBefore 16 = .ok (.getfield 25, 3) := by decide +kernel
theorem dX1_rememberBefore_19 : decode cX1_rememberBefore 19 = .ok (.iconst 0, 1) := by decide +kernel
theorem dX1_rememberBefore_20 : decode cX1_rememberBefore 20 = .ok (.aload_n 0, 1) := by decide +kernel
theorem dX1_rememberBefore_21 : decode cX1_rememberBefore 21 = .ok (.getfield 56, 3) := by decide +kernel
theorem dX1_rememberBefore_24 : decode cX1_rememberBefore 24 = .ok (.iconst 0, 1) := by decide +kernel
theorem dX1_rememberBefore_25 : decode cX1_rememberBefore 25 = .ok (.bipush 8, 2) := by decide +kernel
theorem dX1_rememberBefore_27 : decode cX1_rememberBefore 27 = .ok (.invokestatic 71, 3) := by decide +kernel
theorem dX1_rememberBefore_30 : decode cX1_rememberBefore 30 = .ok (.aload_n 0, 1) := by decide +kernel
theorem dX1_rememberBefore_31 : decode cX1_rememberBefore 31 = .ok (.getfield 34, 3) := by decide +kernel
theorem dX1_rememberBefore_34 : decode cX1_rememberBefore 34 = .ok (.iconst 0, 1) := by decide +kernel
theorem dX1_rememberBefore_35 : decode cX1_rememberBefore 35 = .ok (.aload_n 0, 1) := by decide +kernel
theorem dX1_rememberBefore_36 : decode cX1_rememberBefore 36 = .ok (.getfield 59, 3) := by decide +kernel
theorem dX1_rememberBefore_39 : decode cX1_rememberBefore 39 = .ok (.iconst 0, 1) := by decide +kernel
theorem dX1_rememberBefore_40 : decode cX1_rememberBefore 40 = .ok (.bipush 8, 2) := by decide +kernel
theorem dX1_rememberBefore_42 : decode cX1_rememberBefore 42 = .ok (.invokestatic 71, 3) := by decide +kernel
theorem dX1_rememberBefore_45 : decode cX1_rememberBefore 45 = .ok (.return_, 1) := by decide +kernel
theorem dX1_moveVoltages_0 : decode cX1_moveVoltages 0 = .ok (.iconst 0, 1) := by decide +kernel
theorem dX1_moveVoltages_1 : decode cX1_moveVoltages 1 = .ok (.istore_n 1, 1) := by decide +kernel
theorem dX1_moveVoltages_2 : decode cX1_moveVoltages 2 = .ok (.iload_n 1, 1) := by decide +kernel
theorem dX1_moveVoltages_3 : decode cX1_moveVoltages 3 = .ok (.aload_n 0, 1) := by decide +kernel
theorem dX1_moveVoltages_4 : decode cX1_moveVoltages 4 = .ok (.getfield 62, 3) := by decide +kernel
theorem dX1_moveVoltages_7 : decode cX1_moveVoltages 7 = .ok (.if_icmp .ge 120, 3) := by decide +kernel
theorem dX1_moveVoltages_10 : decode cX1_moveVoltages 10 = .ok (.aload_n 0, 1) := by decide +kernel
theorem dX1_moveVoltages_11 : decode cX1_moveVoltages 11 = .ok (.getfield 22, 3) := by decide +kernel
theorem dX1_moveVoltages_14 : decode cX1_moveVoltages 14 = .ok (.iload_n 1, 1) := by decide +kernel
theorem dX1_moveVoltages_15 : decode cX1_moveVoltages 15 = .ok (.iaload, 1) := by decide +kernel
theorem dX1_moveVoltages_16 : decode cX1_moveVoltages 16 = .ok (.iconst 2, 1) := by decide +kernel
theorem dX1_moveVoltages_17 : decode cX1_moveVoltages 17 = .ok (.if_icmp .eq 13, 3) := by decide +kernel
theorem dX1_moveVoltages_20 : decode cX1_moveVoltages 20 = .ok (.aload_n 0, 1) := by decide +kernel
theorem dX1_moveVoltages_21 : decode cX1_moveVoltages 21 = .ok (.getfield 22, 3) := by decide +kernel
theorem dX1_moveVoltages_24 : decode cX1_moveVoltages 24 = .ok (.iload_n 1, 1) := by decide +kernel
theorem dX1_moveVoltages_25 : decode cX1_moveVoltages 25 = .ok (.iaload, 1) := by decide +kernel
theorem dX1_moveVoltages_26 : decode cX1_moveVoltages 26 = .ok (.iconst 3, 1) := by decide +kernel
theorem dX1_moveVoltages_27 : decode cX1_moveVoltages 27 = .ok (.if_icmp .ne 16, 3) := by decide +kernel
theorem dX1_moveVoltages_30 : decode cX1_moveVoltages 30 = .ok (.aload_n 0, 1) := by decide +kernel
theorem dX1_moveVoltages_31 : decode cX1_moveVoltages 31 = .ok (.getfield 31, 3) := by decide +kernel
theorem dX1_moveVoltages_34 : decode cX1_moveVoltages 34 = .ok (.iload_n 1, 1) := by decide +kernel
theorem dX1_moveVoltages_35 : decode cX1_moveVoltages 35 = .ok (.iaload, 1) := by decide +kernel
theorem dX1_moveVoltages_36 : decode cX1_moveVoltages 36 = .ok (.ifCond .ne 7, 3) := by decide +kernel
theorem dX1_moveVoltages_39 : decode cX1_moveVoltages 39 = .ok (.iconst 1, 1) := by decide +kernel
theorem dX1_moveVoltages_40 : decode cX1_moveVoltages 40 = .ok (.goto 4, 3) := by decide +kernel
theorem dX1_moveVoltages_43 : decode cX1_moveVoltages 43 = .ok (.iconst 0, 1) := by decide +kernel
theorem dX1_moveVoltages_44 : decode cX1_moveVoltages 44 = .ok (.istore_n 2, 1) := by decide +kernel
theorem dX1_moveVoltages_45 : decode cX1_moveVoltages 45 = .ok (.iload_n 2, 1) := by decide +kernel
theorem dX1_moveVoltages_46 : decode cX1_moveVoltages 46 = .ok (.ifCond .eq 12, 3) := by decide +kernel
theorem dX1_moveVoltages_49 : decode cX1_moveVoltages 49 = .ok (.aload_n 0, 1) := by decide +kernel
theorem dX1_moveVoltages_50 : decode cX1_moveVoltages 50 = .ok (.iload_n 1, 1) := by decide +kernel
theorem dX1_moveVoltages_51 : decode cX1_moveVoltages 51 = .ok (.iconst 0, 1) := by decide +kernel
theorem dX1_moveVoltages_52 : decode cX1_moveVoltages 52 = .ok (.invokevirtual 95, 3) := by decide +kernel
theorem dX1_moveVoltages_55 : decode cX1_moveVoltages 55 = .ok (.goto 4, 3) := by decide +kernel
theorem dX1_moveVoltages_58 : decode cX1_moveVoltages 58 = .ok (.iconst 0, 1) := by decide +kernel
theorem dX1_moveVoltages_59 : decode cX1_moveVoltages 59 = .ok (.istore_n 3, 1) := by decide +kernel
theorem dX1_moveVoltages_60 : decode cX1_moveVoltages 60 = .ok (.aload_n 0, 1) := by decide +kernel
theorem dX1_moveVoltages_61 : decode cX1_moveVoltages 61 = .ok (.iload_n 1, 1) := by decide +kernel
theorem dX1_moveVoltages_62 : decode cX1_moveVoltages 62 = .ok (.iload_n 2, 1) := by decide +kernel
theorem dX1_moveVoltages_63 : decode cX1_moveVoltages 63 = .ok (.ifCond .eq 7, 3) := by decide +kernel
theorem dX1_moveVoltages_66 : decode cX1_moveVoltages 66 = .ok (.iconst 1, 1) := by decide +kernel
theorem dX1_moveVoltages_67 : decode cX1_moveVoltages 67 = .ok (.goto 4, 3) := by decide +kernel
theorem dX1_moveVoltages_70 : decode cX1_moveVoltages 70 = .ok (.iconst 2, 1) := by decide +kernel
theorem dX1_moveVoltages_71 : decode cX1_moveVoltages 71 = .ok (.invokevirtual 95, 3) := by decide +kernel
theorem dX1_moveVoltages_74 : decode cX1_moveVoltages 74 = .ok (.istore 4, 2) := by decide +kernel
theorem dX1_moveVoltages_76 : decode cX1_moveVoltages 76 = .ok (.aload_n 0, 1) := by decide +kernel
theorem dX1_moveVoltages_77 : decode cX1_moveVoltages 77 = .ok (.getfield 25, 3) := by decide +kernel
theorem dX1_moveVoltages_80 : decode cX1_moveVoltages 80 = .ok (.iload_n 1, 1) := by decide +kernel
theorem dX1_moveVoltages_81 : decode cX1_moveVoltages 81 = .ok (.aload_n 0, 1) := by decide +kernel
theorem dX1_moveVoltages_82 : decode cX1_moveVoltages 82 = .ok (.getfield 25, 3) := by decide +kernel
theorem dX1_moveVoltages_85 : decode cX1_moveVoltages 85 = .ok (.iload_n 1, 1) := by decide +kernel
theorem dX1_moveVoltages_86 : decode cX1_moveVoltages 86 = .ok (.iaload, 1) := by decide +kernel
theorem dX1_moveVoltages_87 : decode cX1_moveVoltages 87 = .ok (.iload_n 3, 1) := by decide +kernel
theorem dX1_moveVoltages_88 : decode cX1_moveVoltages 88 = .ok (.if_icmp .ge 19, 3) := by decide +kernel
theorem dX1_moveVoltages_91 : decode cX1_moveVoltages 91 = .ok (.iload_n 3, 1) := by decide +kernel
theorem dX1_moveVoltages_92 : decode cX1_moveVoltages 92 = .ok (.aload_n 0, 1) := by decide +kernel
theorem dX1_moveVoltages_93 : decode cX1_moveVoltages 93 = .ok (.getfield 25, 3) := by decide +kernel
theorem dX1_moveVoltages_96 : decode cX1_moveVoltages 96 = .ok (.iload_n 1, 1) := by decide +kernel
theorem dX1_moveVoltages_97 : decode cX1_moveVoltages 97 = .ok (.iaload, 1) := by decide +kernel
theorem dX1_moveVoltages_98 : decode cX1_moveVoltages 98 = .ok (.iload 4, 2) := by decide +kernel
theorem dX1_moveVoltages_100 : decode cX1_moveVoltages 100 = .ok (.iadd, 1) := by decide +kernel
theorem dX1_moveVoltages_101 : decode cX1_moveVoltages 101 = .ok (.invokestatic 124, 3) := by decide +kernel
theorem dX1_moveVoltages_104 : decode cX1_moveVoltages 104 = .ok (.goto 16, 3) := by decide +kernel
theorem dX1_moveVoltages_107 : decode cX1_moveVoltages 107 = .ok (.iload_n 3, 1) := by decide +kernel
theorem dX1_moveVoltages_108 : decode cX1_moveVoltages 108 = .ok (.aload_n 0, 1) := by decide +kernel
theorem dX1_moveVoltages_109 : decode cX1_moveVoltages 109 = .ok (.getfield 25, 3) := by decide +kernel
theorem dX1_moveVoltages_112 : decode cX1_moveVoltages 112 = .ok (.iload_n 1, 1) := by decide +kernel
theorem dX1_moveVoltages_113 : decode cX1_moveVoltages 113 = .ok (.iaload, 1) := by decide +kernel
theorem dX1_moveVoltages_114 : decode cX1_moveVoltages 114 = .ok (.iload 4, 2) := by decide +kernel
theorem dX1_moveVoltages_116 : decode cX1_moveVoltages 116 = .ok (.isub, 1) := by decide +kernel
theorem dX1_moveVoltages_117 : decode cX1_moveVoltages 117 = .ok (.invokestatic 129, 3) := by decide +kernel
theorem dX1_moveVoltages_120 : decode cX1_moveVoltages 120 = .ok (.iastore, 1) := by decide +kernel
theorem dX1_moveVoltages_121 : decode cX1_moveVoltages 121 = .ok (.iinc 1 1, 3) := by decide +kernel
theorem dX1_moveVoltages_124 : decode cX1_moveVoltages 124 = .ok (.goto (-122), 3) := by decide +kernel
theorem dX1_moveVoltages_127 : decode cX1_moveVoltages 127 = .ok (.return_, 1) := by decide +kernel
theorem dX1_nextState_0 : decode cX1_nextState 0 = .ok (.aload_n 0, 1) := by decide +kernel
theorem dX1_nextState_1 : decode cX1_nextState 1 = .ok (.getfield 22, 3) := by decide +kernel
theorem dX1_nextState_4 : decode cX1_nextState 4 = .ok (.iload_n 1, 1) := by decide +kernel
theorem dX1_nextState_5 : decode cX1_nextState 5 = .ok (.iaload, 1) := by decide +kernel
theorem dX1_nextState_6 : decode cX1_nextState 6 = .ok (.tableswitch 64 0 4 #[34, 40, 46, 52, 58], 34) := by decide +kernel
theorem dX1_nextState_40 : decode cX1_nextState 40 = .ok (.aload_n 0, 1) := by decide +kernel
theorem dX1_nextState_41 : decode cX1_nextState 41 = .ok (.iload_n 1, 1) := by decide +kernel
theorem dX1_nextState_42 : decode cX1_nextState 42 = .ok (.invokevirtual 132, 3) := by decide +kernel
theorem dX1_nextState_45 : decode cX1_nextState 45 = .ok (.ireturn, 1) := by decide +kernel
theorem dX1_nextState_46 : decode cX1_nextState 46 = .ok (.aload_n 0, 1) := by decide +kernel
theorem dX1_nextState_47 : decode cX1_nextState 47 = .ok (.iload_n 1, 1) := by decide +kernel
theorem dX1_nextState_48 : decode cX1_nextState 48 = .ok (.invokevirtual 135, 3) := by decide +kernel
theorem dX1_nextState_51 : decode cX1_nextState 51 = .ok (.ireturn, 1) := by decide +kernel
theorem dX1_nextState_52 : decode cX1_nextState 52 = .ok (.aload_n 0, 1) := by decide +kernel
theorem dX1_nextState_53 : decode cX1_nextState 53 = .ok (.iload_n 1, 1) := by decide +kernel
theorem dX1_nextState_54 : decode cX1_nextState 54 = .ok (.invokevirtual 138, 3) := by decide +kernel
theorem dX1_nextState_57 : decode cX1_nextState 57 = .ok (.ireturn, 1) := by decide +kernel
theorem dX1_nextState_58 : decode cX1_nextState 58 = .ok (.aload_n 0, 1) := by decide +kernel
theorem dX1_nextState_59 : decode cX1_nextState 59 = .ok (.iload_n 1, 1) := by decide +kernel
theorem dX1_nextState_60 : decode cX1_nextState 60 = .ok (.invokevirtual 141, 3) := by decide +kernel
theorem dX1_nextState_63 : decode cX1_nextState 63 = .ok (.ireturn, 1) := by decide +kernel
theorem dX1_nextState_64 : decode cX1_nextState 64 = .ok (.aload_n 0, 1) := by decide +kernel
theorem dX1_nextState_65 : decode cX1_nextState 65 = .ok (.iload_n 1, 1) := by decide +kernel
theorem dX1_nextState_66 : decode cX1_nextState 66 = .ok (.invokevirtual 144, 3) := by decide +kernel
theorem dX1_nextState_69 : decode cX1_nextState 69 = .ok (.ireturn, 1) := by decide +kernel
theorem dX1_nextState_70 : decode cX1_nextState 70 = .ok (.aload_n 0, 1) := by decide +kernel
theorem dX1_nextState_71 : decode cX1_nextState 71 = .ok (.iload_n 1, 1) := by decide +kernel
theorem dX1_nextState_72 : decode cX1_nextState 72 = .ok (.invokevirtual 85, 3) := by decide +kernel
theorem dX1_nextState_75 : decode cX1_nextState 75 = .ok (.ifCond .ne 15, 3) := by decide +kernel
theorem dX1_nextState_78 : decode cX1_nextState 78 = .ok (.aload_n 0, 1) := by decide +kernel
theorem dX1_nextState_79 : decode cX1_nextState 79 = .ok (.iload_n 1, 1) := by decide +kernel
theorem dX1_nextState_80 : decode cX1_nextState 80 = .ok (.invokevirtual 105, 3) := by decide +kernel
theorem dX1_nextState_83 : decode cX1_nextState 83 = .ok (.ifCond .eq 7, 3) := by decide +kernel
theorem dX1_nextState_86 : decode cX1_nextState 86 = .ok (.iconst 0, 1) := by decide +kernel
theorem dX1_nextState_87 : decode cX1_nextState 87 = .ok (.goto 4, 3) := by decide +kernel
theorem dX1_nextState_90 : decode cX1_nextState 90 = .ok (.iconst 5, 1) := by decide +kernel
theorem dX1_nextState_91 : decode cX1_nextState 91 = .ok (.ireturn, 1) := by decide +kernel
theorem dX1_afterOff_0 : decode cX1_afterOff 0 = .ok (.aload_n 0, 1) := by decide +kernel
theorem dX1_afterOff_1 : decode cX1_afterOff 1 = .ok (.iload_n 1, 1) := by decide +kernel
theorem dX1_afterOff_2 : decode cX1_afterOff 2 = .ok (.invokevirtual 85, 3) := by decide +kernel
theorem dX1_afterOff_5 : decode cX1_afterOff 5 = .ok (.ifCond .ne 5, 3) := by decide +kernel
theorem dX1_afterOff_8 : decode cX1_afterOff 8 = .ok (.iconst 0, 1) := by decide +kernel
theorem dX1_afterOff_9 : decode cX1_afterOff 9 = .ok (.ireturn, 1) := by decide +kernel
theorem dX1_afterOff_10 : decode cX1_afterOff 10 = .ok (.aload_n 0, 1) := by decide +kernel
theorem dX1_afterOff_11 : decode cX1_afterOff 11 = .ok (.getfield 34, 3) := by decide +kernel
theorem dX1_afterOff_14 : decode cX1_afterOff 14 = .ok (.iload_n 1, 1) := by decide +kernel
theorem dX1_afterOff_15 : decode cX1_afterOff 15 = .ok (.iconst 0, 1) := by decide +kernel
theorem dX1_afterOff_16 : decode cX1_afterOff 16 = .ok (.iastore, 1) := by decide +kernel
theorem dX1_afterOff_17 : decode cX1_afterOff 17 = .ok (.aload_n 0, 1) := by decide +kernel
theorem dX1_afterOff_18 : decode cX1_afterOff 18 = .ok (.getfield 37, 3) := by decide +kernel
theorem dX1_afterOff_21 : decode cX1_afterOff 21 = .ok (.iload_n 1, 1) := by decide +kernel
theorem dX1_afterOff_22 : decode cX1_afterOff 22 = .ok (.iconst 0, 1) := by decide +kernel
theorem dX1_afterOff_23 : decode cX1_afterOff 23 = .ok (.iastore, 1) := by decide +kernel
theorem dX1_afterOff_24 : decode cX1_afterOff 24 = .ok (.iconst 1, 1) := by decide +kernel
theorem dX1_afterOff_25 : decode cX1_afterOff 25 = .ok (.ireturn, 1) := by decide +kernel
theorem dX1_afterWaiting_0 : decode cX1_afterWaiting 0 = .ok (.aload_n 0, 1) := by decide +kernel
theorem dX1_afterWaiting_1 : decode cX1_afterWaiting 1 = .ok (.iload_n 1, 1) := by decide +kernel
theorem dX1_afterWaiting_2 : decode cX1_afterWaiting 2 = .ok (.invokevirtual 85, 3) := by decide +kernel
theorem dX1_afterWaiting_5 : decode cX1_afterWaiting 5 = .ok (.ifCond .ne 5, 3) := by decide +kernel
theorem dX1_afterWaiting_8 : decode cX1_afterWaiting 8 = .ok (.iconst 0, 1) := by decide +kernel
theorem dX1_afterWaiting_9 : decode cX1_afterWaiting 9 = .ok (.ireturn, 1) := by decide +kernel
theorem dX1_afterWaiting_10 : decode cX1_afterWaiting 10 = .ok (.aload_n 0, 1) := by decide +kernel
theorem dX1_afterWaiting_11 : decode cX1_afterWaiting 11 = .ok (.iload_n 1, 1) := by decide +kernel
theorem dX1_afterWaiting_12 : decode cX1_afterWaiting 12 = .ok (.invokevirtual 105, 3) := by decide +kernel
theorem dX1_afterWaiting_15 : decode cX1_afterWaiting 15 = .ok (.ifCond .eq 12, 3) := by decide +kernel
theorem dX1_afterWaiting_18 : decode cX1_afterWaiting 18 = .ok (.aload_n 0, 1) := by decide +kernel
theorem dX1_afterWaiting_19 : decode cX1_afterWaiting 19 = .ok (.iload_n 1, 1) := by decide +kernel
theorem dX1_afterWaiting_20 : decode cX1_afterWaiting 20 = .ok (.invokevirtual 147, 3) := by decide +kernel
theorem dX1_afterWaiting_23 : decode cX1_afterWaiting 23 = .ok (.iconst (-1), 1) := by decide +kernel
theorem dX1_afterWaiting_24 : decode cX1_afterWaiting 24 = .ok (.if_icmp .eq 12, 3) := by decide +kernel
theorem dX1_afterWaiting_27 : decode cX1_afterWaiting 27 = .ok (.aload_n 0, 1) := by decide +kernel
theorem dX1_afterWaiting_28 : decode cX1_afterWaiting 28 = .ok (.getfield 34, 3) := by decide +kernel
theorem dX1_afterWaiting_31 : decode cX1_afterWaiting 31 = .ok (.iload_n 1, 1) := by decide +kernel
theorem dX1_afterWaiting_32 : decode cX1_afterWaiting 32 = .ok (.iconst 0, 1) := by decide +kernel
theorem dX1_afterWaiting_33 : decode cX1_afterWaiting 33 = .ok (.iastore, 1) := by decide +kernel
theorem dX1_afterWaiting_34 : decode cX1_afterWaiting 34 = .ok (.iconst 1, 1) := by decide +kernel
theorem dX1_afterWaiting_35 : decode cX1_afterWaiting 35 = .ok (.ireturn, 1) := by decide +kernel
theorem dX1_afterWaiting_36 : decode cX1_afterWaiting 36 = .ok (.aload_n 0, 1) := by decide +kernel
theorem dX1_afterWaiting_37 : decode cX1_afterWaiting 37 = .ok (.getfield 34, 3) := by decide +kernel
theorem dX1_afterWaiting_40 : decode cX1_afterWaiting 40 = .ok (.iload_n 1, 1) := by decide +kernel
theorem dX1_afterWaiting_41 : decode cX1_afterWaiting 41 = .ok (.dup2, 1) := by decide +kernel
theorem dX1_afterWaiting_42 : decode cX1_afterWaiting 42 = .ok (.iaload, 1) := by decide +kernel
theorem dX1_afterWaiting_43 : decode cX1_afterWaiting 43 = .ok (.iconst 1, 1) := by decide +kernel
theorem dX1_afterWaiting_44 : decode cX1_afterWaiting 44 = .ok (.iadd, 1) := by decide +kernel
theorem dX1_afterWaiting_45 : decode cX1_afterWaiting 45 = .ok (.iastore, 1) := by decide +kernel
theorem dX1_afterWaiting_46 : decode cX1_afterWaiting 46 = .ok (.aload_n 0, 1) := by decide +kernel
theorem dX1_afterWaiting_47 : decode cX1_afterWaiting 47 = .ok (.getfield 34, 3) := by decide +kernel
theorem dX1_afterWaiting_50 : decode cX1_afterWaiting 50 = .ok (.iload_n 1, 1) := by decide +kernel
theorem dX1_afterWaiting_51 : decode cX1_afterWaiting 51 = .ok (.iaload, 1) := by decide +kernel
theorem dX1_afterWaiting_52 : decode cX1_afterWaiting 52 = .ok (.aload_n 0, 1) := by decide +kernel
theorem dX1_afterWaiting_53 : decode cX1_afterWaiting 53 = .ok (.iload_n 1, 1) := by decide +kernel
theorem dX1_afterWaiting_54 : decode cX1_afterWaiting 54 = .ok (.iconst 4, 1) := by decide +kernel
theorem dX1_afterWaiting_55 : decode cX1_afterWaiting 55 = .ok (.invokevirtual 95, 3) := by decide +kernel
theorem dX1_afterWaiting_58 : decode cX1_afterWaiting 58 = .ok (.if_icmp .gt 5, 3) := by decide +kernel
theorem dX1_afterWaiting_61 : decode cX1_afterWaiting 61 = .ok (.iconst 1, 1) := by decide +kernel
theorem dX1_afterWaiting_62 : decode cX1_afterWaiting 62 = .ok (.ireturn, 1) := by decide +kernel
theorem dX1_afterWaiting_63 : decode cX1_afterWaiting 63 = .ok (.aload_n 0, 1) := by decide +kernel
theorem dX1_afterWaiting_64 : decode cX1_afterWaiting 64 = .ok (.getfield 34, 3) := by decide +kernel
theorem dX1_afterWaiting_67 : decode cX1_afterWaiting 67 = .ok (.iload_n 1, 1) := by decide +kernel
theorem dX1_afterWaiting_68 : decode cX1_afterWaiting 68 = .ok (.iconst 0, 1) := by decide +kernel
theorem dX1_afterWaiting_69 : decode cX1_afterWaiting 69 = .ok (.iastore, 1) := by decide +kernel
theorem dX1_afterWaiting_70 : decode cX1_afterWaiting 70 = .ok (.iconst 2, 1) := by decide +kernel
theorem dX1_afterWaiting_71 : decode cX1_afterWaiting 71 = .ok (.ireturn, 1) := by decide +kernel
theorem dX1_afterRising_0 : decode cX1_afterRising 0 = .ok (.aload_n 0, 1) := by decide +kernel
theorem dX1_afterRising_1 : decode cX1_afterRising 1 = .ok (.iload_n 1, 1) := by decide +kernel
theorem dX1_afterRising_2 : decode cX1_afterRising 2 = .ok (.invokevirtual 85, 3) := by decide +kernel
theorem dX1_afterRising_5 : decode cX1_afterRising 5 = .ok (.ifCond .ne 12, 3) := by decide +kernel
theorem dX1_afterRising_8 : decode cX1_afterRising 8 = .ok (.aload_n 0, 1) := by decide +kernel
theorem dX1_afterRising_9 : decode cX1_afterRising 9 = .ok (.getfield 40, 3) := by decide +kernel
theorem dX1_afterRising_12 : decode cX1_afterRising 12 = .ok (.iload_n 1, 1) := by decide +kernel
theorem dX1_afterRising_13 : decode cX1_afterRising 13 = .ok (.iconst (-1), 1) := by decide +kernel
theorem dX1_afterRising_14 : decode cX1_afterRising 14 = .ok (.iastore, 1) := by decide +kernel
theorem dX1_afterRising_15 : decode cX1_afterRising 15 = .ok (.iconst 4, 1) := by decide +kernel
theorem dX1_afterRising_16 : decode cX1_afterRising 16 = .ok (.ireturn, 1) := by decide +kernel
theorem dX1_afterRising_17 : decode cX1_afterRising 17 = .ok (.aload_n 0, 1) := by decide +kernel
theorem dX1_afterRising_18 : decode cX1_afterRising 18 = .ok (.iload_n 1, 1) := by decide +kernel
theorem dX1_afterRising_19 : decode cX1_afterRising 19 = .ok (.invokevirtual 147, 3) := by decide +kernel
theorem dX1_afterRising_22 : decode cX1_afterRising 22 = .ok (.istore_n 2, 1) := by decide +kernel
theorem dX1_afterRising_23 : decode cX1_afterRising 23 = .ok (.iload_n 2, 1) := by decide +kernel
theorem dX1_afterRising_24 : decode cX1_afterRising 24 = .ok (.iconst (-1), 1) := by decide +kernel
theorem dX1_afterRising_25 : decode cX1_afterRising 25 = .ok (.if_icmp .eq 12, 3) := by decide +kernel
theorem dX1_afterRising_28 : decode cX1_afterRising 28 = .ok (.aload_n 0, 1) := by decide +kernel
theorem dX1_afterRising_29 : decode cX1_afterRising 29 = .ok (.getfield 40, 3) := by decide +kernel
theorem dX1_afterRising_32 : decode cX1_afterRising 32 = .ok (.iload_n 1, 1) := by decide +kernel
theorem dX1_afterRising_33 : decode cX1_afterRising 33 = .ok (.iload_n 2, 1) := by decide +kernel
theorem dX1_afterRising_34 : decode cX1_afterRising 34 = .ok (.iastore, 1) := by decide +kernel
theorem dX1_afterRising_35 : decode cX1_afterRising 35 = .ok (.iconst 4, 1) := by decide +kernel
theorem dX1_afterRising_36 : decode cX1_afterRising 36 = .ok (.ireturn, 1) := by decide +kernel
theorem dX1_afterRising_37 : decode cX1_afterRising 37 = .ok (.aload_n 0, 1) := by decide +kernel
theorem dX1_afterRising_38 : decode cX1_afterRising 38 = .ok (.iload_n 1, 1) := by decide +kernel
theorem dX1_afterRising_39 : decode cX1_afterRising 39 = .ok (.invokevirtual 89, 3) := by decide +kernel
theorem dX1_afterRising_42 : decode cX1_afterRising 42 = .ok (.ifCond .eq 12, 3) := by decide +kernel
theorem dX1_afterRising_45 : decode cX1_afterRising 45 = .ok (.aload_n 0, 1) := by decide +kernel
theorem dX1_afterRising_46 : decode cX1_afterRising 46 = .ok (.getfield 40, 3) := by decide +kernel
theorem dX1_afterRising_49 : decode cX1_afterRising 49 = .ok (.iload_n 1, 1) := by decide +kernel
theorem dX1_afterRising_50 : decode cX1_afterRising 50 = .ok (.iconst (-1), 1) := by decide +kernel
theorem dX1_afterRising_51 : decode cX1_afterRising 51 = .ok (.iastore, 1) := by decide +kernel
theorem dX1_afterRising_52 : decode cX1_afterRising 52 = .ok (.iconst 3, 1) := by decide +kernel
theorem dX1_afterRising_53 : decode cX1_afterRising 53 = .ok (.ireturn, 1) := by decide +kernel
theorem dX1_afterRising_54 : decode cX1_afterRising 54 = .ok (.aload_n 0, 1) := by decide +kernel
theorem dX1_afterRising_55 : decode cX1_afterRising 55 = .ok (.getfield 34, 3) := by decide +kernel
theorem dX1_afterRising_58 : decode cX1_afterRising 58 = .ok (.iload_n 1, 1) := by decide +kernel
theorem dX1_afterRising_59 : decode cX1_afterRising 59 = .ok (.dup2, 1) := by decide +kernel
theorem dX1_afterRising_60 : decode cX1_afterRising 60 = .ok (.iaload, 1) := by decide +kernel
theorem dX1_afterRising_61 : decode cX1_afterRising 61 = .ok (.iconst 1, 1) := by decide +kernel
theorem dX1_afterRising_62 : decode cX1_afterRising 62 = .ok (.iadd, 1) := by decide +kernel
theorem dX1_afterRising_63 : decode cX1_afterRising 63 = .ok (.iastore, 1) := by decide +kernel
theorem dX1_afterRising_64 : decode cX1_afterRising 64 = .ok (.aload_n 0, 1) := by decide +kernel
theorem dX1_afterRising_65 : decode cX1_afterRising 65 = .ok (.getfield 34, 3) := by decide +kernel
theorem dX1_afterRising_68 : decode cX1_afterRising 68 = .ok (.iload_n 1, 1) := by decide +kernel
theorem dX1_afterRising_69 : decode cX1_afterRising 69 = .ok (.iaload, 1) := by decide +kernel
theorem dX1_afterRising_70 : decode cX1_afterRising 70 = .ok (.aload_n 0, 1) := by decide +kernel
theorem dX1_afterRising_71 : decode cX1_afterRising 71 = .ok (.iload_n 1, 1) := by decide +kernel
theorem dX1_afterRising_72 : decode cX1_afterRising 72 = .ok (.iconst 5, 1) := by decide +kernel
theorem dX1_afterRising_73 : decode cX1_afterRising 73 = .ok (.invokevirtual 95, 3) := by decide +kernel
theorem dX1_afterRising_76 : decode cX1_afterRising 76 = .ok (.if_icmp .lt 11, 3) := by decide +kernel
theorem dX1_afterRising_79 : decode cX1_afterRising 79 = .ok (.aload_n 0, 1) := by decide +kernel
theorem dX1_afterRising_80 : decode cX1_afterRising 80 = .ok (.iload_n 1, 1) := by decide +kernel
theorem dX1_afterRising_81 : decode cX1_afterRising 81 = .ok (.invokevirtual 150, 3) := by decide +kernel
theorem dX1_afterRising_84 : decode cX1_afterRising 84 = .ok (.goto 4, 3) := by decide +kernel
theorem dX1_afterRising_87 : decode cX1_afterRising 87 = .ok (.iconst 2, 1) := by decide +kernel
theorem dX1_afterRising_88 : decode cX1_afterRising 88 = .ok (.ireturn, 1) := by decide +kernel
theorem dX1_afterGood_0 : decode cX1_afterGood 0 = .ok (.aload_n 0, 1) := by decide +kernel
theorem dX1_afterGood_1 : decode cX1_afterGood 1 = .ok (.iload_n 1, 1) := by decide +kernel
theorem dX1_afterGood_2 : decode cX1_afterGood 2 = .ok (.invokevirtual 147, 3) := by decide +kernel
theorem dX1_afterGood_5 : decode cX1_afterGood 5 = .ok (.istore_n 2, 1) := by decide +kernel
theorem dX1_afterGood_6 : decode cX1_afterGood 6 = .ok (.iload_n 2, 1) := by decide +kernel
theorem dX1_afterGood_7 : decode cX1_afterGood 7 = .ok (.iconst (-1), 1) := by decide +kernel
theorem dX1_afterGood_8 : decode cX1_afterGood 8 = .ok (.if_icmp .eq 12, 3) := by decide +kernel
theorem dX1_afterGood_11 : decode cX1_afterGood 11 = .ok (.aload_n 0, 1) := by decide +kernel
theorem dX1_afterGood_12 : decode cX1_afterGood 12 = .ok (.getfield 40, 3) := by decide +kernel
theorem dX1_afterGood_15 : decode cX1_afterGood 15 = .ok (.iload_n 1, 1) := by decide +kernel
theorem dX1_afterGood_16 : decode cX1_afterGood 16 = .ok (.iload_n 2, 1) := by decide +kernel
theorem dX1_afterGood_17 : decode cX1_afterGood 17 = .ok (.iastore, 1) := by decide +kernel
theorem dX1_afterGood_18 : decode cX1_afterGood 18 = .ok (.iconst 4, 1) := by decide +kernel
theorem dX1_afterGood_19 : decode cX1_afterGood 19 = .ok (.ireturn, 1) := by decide +kernel
theorem dX1_afterGood_20 : decode cX1_afterGood 20 = .ok (.aload_n 0, 1) := by decide +kernel
theorem dX1_afterGood_21 : decode cX1_afterGood 21 = .ok (.iload_n 1, 1) := by decide +kernel
theorem dX1_afterGood_22 : decode cX1_afterGood 22 = .ok (.invokevirtual 89, 3) := by decide +kernel
theorem dX1_afterGood_25 : decode cX1_afterGood 25 = .ok (.ifCond .ne 9, 3) := by decide +kernel
theorem dX1_afterGood_28 : decode cX1_afterGood 28 = .ok (.aload_n 0, 1) := by decide +kernel
theorem dX1_afterGood_29 : decode cX1_afterGood 29 = .ok (.iload_n 1, 1) := by decide +kernel
theorem dX1_afterGood_30 : decode cX1_afterGood 30 = .ok (.invokevirtual 150, 3) := by decide +kernel
theorem dX1_afterGood_33 : decode cX1_afterGood 33 = .ok (.ireturn, 1) := by decide +kernel
theorem dX1_afterGood_34 : decode cX1_afterGood 34 = .ok (.aload_n 0, 1) := by decide +kernel
theorem dX1_afterGood_35 : decode cX1_afterGood 35 = .ok (.iload_n 1, 1) := by decide +kernel
theorem dX1_afterGood_36 : decode cX1_afterGood 36 = .ok (.invokevirtual 85, 3) := by decide +kernel
theorem dX1_afterGood_39 : decode cX1_afterGood 39 = .ok (.ifCond .ne 20, 3) := by decide +kernel
theorem dX1_afterGood_42 : decode cX1_afterGood 42 = .ok (.aload_n 0, 1) := by decide +kernel
theorem dX1_afterGood_43 : decode cX1_afterGood 43 = .ok (.iload_n 1, 1) := by decide +kernel
theorem dX1_afterGood_44 : decode cX1_afterGood 44 = .ok (.invokevirtual 153, 3) := by decide +kernel
theorem dX1_afterGood_47 : decode cX1_afterGood 47 = .ok (.ifCond .eq 12, 3) := by decide +kernel
theorem dX1_afterGood_50 : decode cX1_afterGood 50 = .ok (.aload_n 0, 1) := by decide +kernel
theorem dX1_afterGood_51 : decode cX1_afterGood 51 = .ok (.getfield 40, 3) := by decide +kernel
theorem dX1_afterGood_54 : decode cX1_afterGood 54 = .ok (.iload_n 1, 1) := by decide +kernel
theorem dX1_afterGood_55 : decode cX1_afterGood 55 = .ok (.iconst (-1), 1) := by decide +kernel
theorem dX1_afterGood_56 : decode cX1_afterGood 56 = .ok (.iastore, 1) := by decide +kernel
theorem dX1_afterGood_57 : decode cX1_afterGood 57 = .ok (.iconst 4, 1) := by decide +kernel
theorem dX1_afterGood_58 : decode cX1_afterGood 58 = .ok (.ireturn, 1) := by decide +kernel
theorem dX1_afterGood_59 : decode cX1_afterGood 59 = .ok (.iconst 3, 1) := by decide +kernel
theorem dX1_afterGood_60 : decode cX1_afterGood 60 = .ok (.ireturn, 1) := by decide +kernel
theorem dX1_afterFalling_0 : decode cX1_afterFalling 0 = .ok (.aload_n 0, 1) := by decide +kernel
theorem dX1_afterFalling_1 : decode cX1_afterFalling 1 = .ok (.iload_n 1, 1) := by decide +kernel
theorem dX1_afterFalling_2 : decode cX1_afterFalling 2 = .ok (.invokevirtual 105, 3) := by decide +kernel
theorem dX1_afterFalling_5 : decode cX1_afterFalling 5 = .ok (.ifCond .ne 5, 3) := by decide +kernel
theorem dX1_afterFalling_8 : decode cX1_afterFalling 8 = .ok (.iconst 4, 1) := by decide +kernel
theorem dX1_afterFalling_9 : decode cX1_afterFalling 9 = .ok (.ireturn, 1) := by decide +kernel
theorem dX1_afterFalling_10 : decode cX1_afterFalling 10 = .ok (.aload_n 0, 1) := by decide +kernel
theorem dX1_afterFalling_11 : decode cX1_afterFalling 11 = .ok (.iload_n 1, 1) := by decide +kernel
theorem dX1_afterFalling_12 : decode cX1_afterFalling 12 = .ok (.invokevirtual 85, 3) := by decide +kernel
theorem dX1_afterFalling_15 : decode cX1_afterFalling 15 = .ok (.ifCond .ne 5, 3) := by decide +kernel
theorem dX1_afterFalling_18 : decode cX1_afterFalling 18 = .ok (.iconst 0, 1) := by decide +kernel
theorem dX1_afterFalling_19 : decode cX1_afterFalling 19 = .ok (.ireturn, 1) := by decide +kernel
theorem dX1_afterFalling_20 : decode cX1_afterFalling 20 = .ok (.aload_n 0, 1) := by decide +kernel
theorem dX1_afterFalling_21 : decode cX1_afterFalling 21 = .ok (.getfield 34, 3) := by decide +kernel
theorem dX1_afterFalling_24 : decode cX1_afterFalling 24 = .ok (.iload_n 1, 1) := by decide +kernel
theorem dX1_afterFalling_25 : decode cX1_afterFalling 25 = .ok (.iconst 0, 1) := by decide +kernel
theorem dX1_afterFalling_26 : decode cX1_afterFalling 26 = .ok (.iastore, 1) := by decide +kernel
theorem dX1_afterFalling_27 : decode cX1_afterFalling 27 = .ok (.iconst 1, 1) := by decide +kernel
theorem dX1_afterFalling_28 : decode cX1_afterFalling 28 = .ok (.ireturn, 1) := by decide +kernel
theorem dX1_afterFailure_0 : decode cX1_afterFailure 0 = .ok (.aload_n 0, 1) := by decide +kernel
theorem dX1_afterFailure_1 : decode cX1_afterFailure 1 = .ok (.getfield 40, 3) := by decide +kernel
theorem dX1_afterFailure_4 : decode cX1_afterFailure 4 = .ok (.iload_n 1, 1) := by decide +kernel
theorem dX1_afterFailure_5 : decode cX1_afterFailure 5 = .ok (.iload_n 1, 1) := by decide +kernel
theorem dX1_afterFailure_6 : decode cX1_afterFailure 6 = .ok (.iastore, 1) := by decide +kernel
theorem dX1_afterFailure_7 : decode cX1_afterFailure 7 = .ok (.aload_n 0, 1) := by decide +kernel
theorem dX1_afterFailure_8 : decode cX1_afterFailure 8 = .ok (.getfield 37, 3) := by decide +kernel
theorem dX1_afterFailure_11 : decode cX1_afterFailure 11 = .ok (.iload_n 1, 1) := by decide +kernel
theorem dX1_afterFailure_12 : decode cX1_afterFailure 12 = .ok (.dup2, 1) := by decide +kernel
theorem dX1_afterFailure_13 : decode cX1_afterFailure 13 = .ok (.iaload, 1) := by decide +kernel
theorem dX1_afterFailure_14 : decode cX1_afterFailure 14 = .ok (.iconst 1, 1) := by decide +kernel
theorem dX1_afterFailure_15 : decode cX1_afterFailure 15 = .ok (.iadd, 1) := by decide +kernel
theorem dX1_afterFailure_16 : decode cX1_afterFailure 16 = .ok (.iastore, 1) := by decide +kernel
theorem dX1_afterFailure_17 : decode cX1_afterFailure 17 = .ok (.aload_n 0, 1) := by decide +kernel
theorem dX1_afterFailure_18 : decode cX1_afterFailure 18 = .ok (.getfield 43, 3) := by decide +kernel
theorem dX1_afterFailure_21 : decode cX1_afterFailure 21 = .ok (.iload_n 1, 1) := by decide +kernel
theorem dX1_afterFailure_22 : decode cX1_afterFailure 22 = .ok (.iconst 4, 1) := by decide +kernel
theorem dX1_afterFailure_23 : decode cX1_afterFailure 23 = .ok (.imul, 1) := by decide +kernel
theorem dX1_afterFailure_24 : decode cX1_afterFailure 24 = .ok (.iconst 2, 1) := by decide +kernel
theorem dX1_afterFailure_25 : decode cX1_afterFailure 25 = .ok (.iadd, 1) := by decide +kernel
theorem dX1_afterFailure_26 : decode cX1_afterFailure 26 = .ok (.dup2, 1) := by decide +kernel
theorem dX1_afterFailure_27 : decode cX1_afterFailure 27 = .ok (.iaload, 1) := by decide +kernel
theorem dX1_afterFailure_28 : decode cX1_afterFailure 28 = .ok (.iconst 1, 1) := by decide +kernel
theorem dX1_afterFailure_29 : decode cX1_afterFailure 29 = .ok (.iadd, 1) := by decide +kernel
theorem dX1_afterFailure_30 : decode cX1_afterFailure 30 = .ok (.iastore, 1) := by decide +kernel
theorem dX1_afterFailure_31 : decode cX1_afterFailure 31 = .ok (.aload_n 0, 1) := by decide +kernel
theorem dX1_afterFailure_32 : decode cX1_afterFailure 32 = .ok (.getfield 37, 3) := by decide +kernel
theorem dX1_afterFailure_35 : decode cX1_afterFailure 35 = .ok (.iload_n 1, 1) := by decide +kernel
theorem dX1_afterFailure_36 : decode cX1_afterFailure 36 = .ok (.iaload, 1) := by decide +kernel
theorem dX1_afterFailure_37 : decode cX1_afterFailure 37 = .ok (.aload_n 0, 1) := by decide +kernel
theorem dX1_afterFailure_38 : decode cX1_afterFailure 38 = .ok (.iload_n 1, 1) := by decide +kernel
theorem dX1_afterFailure_39 : decode cX1_afterFailure 39 = .ok (.bipush 6, 2) := by decide +kernel
theorem dX1_afterFailure_41 : decode cX1_afterFailure 41 = .ok (.invokevirtual 95, 3) := by decide +kernel
theorem dX1_afterFailure_44 : decode cX1_afterFailure 44 = .ok (.if_icmp .lt 7, 3) := by decide +kernel
theorem dX1_afterFailure_47 : decode cX1_afterFailure 47 = .ok (.iconst 5, 1) := by decide +kernel
theorem dX1_afterFailure_48 : decode cX1_afterFailure 48 = .ok (.goto 4, 3) := by decide +kernel
theorem dX1_afterFailure_51 : decode cX1_afterFailure 51 = .ok (.iconst 4, 1) := by decide +kernel
theorem dX1_afterFailure_52 : decode cX1_afterFailure 52 = .ok (.ireturn, 1) := by decide +kernel
theorem dX1_lowestBadNeed_0 : decode cX1_lowestBadNeed 0 = .ok (.iconst 0, 1) := by decide +kernel
theorem dX1_lowestBadNeed_1 : decode cX1_lowestBadNeed 1 = .ok (.istore_n 2, 1) := by decide +kernel
theorem dX1_lowestBadNeed_2 : decode cX1_lowestBadNeed 2 = .ok (.iload_n 2, 1) := by decide +kernel
theorem dX1_lowestBadNeed_3 : decode cX1_lowestBadNeed 3 = .ok (.iload_n 1, 1) := by decide +kernel
theorem dX1_lowestBadNeed_4 : decode cX1_lowestBadNeed 4 = .ok (.if_icmp .ge 52, 3) := by decide +kernel
theorem dX1_lowestBadNeed_7 : decode cX1_lowestBadNeed 7 = .ok (.aload_n 0, 1) := by decide +kernel
theorem dX1_lowestBadNeed_8 : decode cX1_lowestBadNeed 8 = .ok (.getfield 19, 3) := by decide +kernel
theorem dX1_lowestBadNeed_11 : decode cX1_lowestBadNeed 11 = .ok (.iload_n 1, 1) := by decide +kernel
theorem dX1_lowestBadNeed_12 : decode cX1_lowestBadNeed 12 = .ok (.iaload, 1) := by decide +kernel
theorem dX1_lowestBadNeed_13 : decode cX1_lowestBadNeed 13 = .ok (.iconst 1, 1) := by decide +kernel
theorem dX1_lowestBadNeed_14 : decode cX1_lowestBadNeed 14 = .ok (.iload_n 2, 1) := by decide +kernel
theorem dX1_lowestBadNeed_15 : decode cX1_lowestBadNeed 15 = .ok (.ishl, 1) := by decide +kernel
theorem dX1_lowestBadNeed_16 : decode cX1_lowestBadNeed 16 = .ok (.iand, 1) := by decide +kernel
theorem dX1_lowestBadNeed_17 : decode cX1_lowestBadNeed 17 = .ok (.ifCond .eq 7, 3) := by decide +kernel
theorem dX1_lowestBadNeed_20 : decode cX1_lowestBadNeed 20 = .ok (.iconst 1, 1) := by decide +kernel
theorem dX1_lowestBadNeed_21 : decode cX1_lowestBadNeed 21 = .ok (.goto 4, 3) := by decide +kernel
theorem dX1_lowestBadNeed_24 : decode cX1_lowestBadNeed 24 = .ok (.iconst 0, 1) := by decide +kernel
theorem dX1_lowestBadNeed_25 : decode cX1_lowestBadNeed 25 = .ok (.istore_n 3, 1) := by decide +kernel
theorem dX1_lowestBadNeed_26 : decode cX1_lowestBadNeed 26 = .ok (.iload_n 3, 1) := by decide +kernel
theorem dX1_lowestBadNeed_27 : decode cX1_lowestBadNeed 27 = .ok (.ifCond .eq 23, 3) := by decide +kernel
theorem dX1_lowestBadNeed_30 : decode cX1_lowestBadNeed 30 = .ok (.aload_n 0, 1) := by decide +kernel
theorem dX1_lowestBadNeed_31 : decode cX1_lowestBadNeed 31 = .ok (.getfield 53, 3) := by decide +kernel
theorem dX1_lowestBadNeed_34 : decode cX1_lowestBadNeed 34 = .ok (.iload_n 2, 1) := by decide +kernel
theorem dX1_lowestBadNeed_35 : decode cX1_lowestBadNeed 35 = .ok (.iaload, 1) := by decide +kernel
theorem dX1_lowestBadNeed_36 : decode cX1_lowestBadNeed 36 = .ok (.iconst 3, 1) := by decide +kernel
theorem dX1_lowestBadNeed_37 : decode cX1_lowestBadNeed 37 = .ok (.if_icmp .ne 11, 3) := by decide +kernel
theorem dX1_lowestBadNeed_40 : decode cX1_lowestBadNeed 40 = .ok (.aload_n 0, 1) := by decide +kernel
theorem dX1_lowestBadNeed_41 : decode cX1_lowestBadNeed 41 = .ok (.iload_n 2, 1) := by decide +kernel
theorem dX1_lowestBadNeed_42 : decode cX1_lowestBadNeed 42 = .ok (.invokevirtual 89, 3) := by decide +kernel
theorem dX1_lowestBadNeed_45 : decode cX1_lowestBadNeed 45 = .ok (.ifCond .ne 5, 3) := by decide +kernel
theorem dX1_lowestBadNeed_48 : decode cX1_lowestBadNeed 48 = .ok (.iload_n 2, 1) := by decide +kernel
theorem dX1_lowestBadNeed_49 : decode cX1_lowestBadNeed 49 = .ok (.ireturn, 1) := by decide +kernel
theorem dX1_lowestBadNeed_50 : decode cX1_lowestBadNeed 50 = .ok (.iinc 2 1, 3) := by decide +kernel
theorem dX1_lowestBadNeed_53 : decode cX1_lowestBadNeed 53 = .ok (.goto (-51), 3) := by decide +kernel
theorem dX1_lowestBadNeed_56 : decode cX1_lowestBadNeed 56 = .ok (.iconst (-1), 1) := by decide +kernel
theorem dX1_lowestBadNeed_57 : decode cX1_lowestBadNeed 57 = .ok (.ireturn, 1) := by decide +kernel
theorem dX1_areUsersAtRest_0 : decode cX1_areUsersAtRest 0 = .ok (.iload_n 1, 1) := by decide +kernel
theorem dX1_areUsersAtRest_1 : decode cX1_areUsersAtRest 1 = .ok (.iconst 1, 1) := by decide +kernel
theorem dX1_areUsersAtRest_2 : decode cX1_areUsersAtRest 2 = .ok (.iadd, 1) := by decide +kernel
theorem dX1_areUsersAtRest_3 : decode cX1_areUsersAtRest 3 = .ok (.istore_n 2, 1) := by decide +kernel
theorem dX1_areUsersAtRest_4 : decode cX1_areUsersAtRest 4 = .ok (.iload_n 2, 1) := by decide +kernel
theorem dX1_areUsersAtRest_5 : decode cX1_areUsersAtRest 5 = .ok (.aload_n 0, 1) := by decide +kernel
theorem dX1_areUsersAtRest_6 : decode cX1_areUsersAtRest 6 = .ok (.getfield 62, 3) := by decide +kernel
theorem dX1_areUsersAtRest_9 : decode cX1_areUsersAtRest 9 = .ok (.if_icmp .ge 73, 3) := by decide +kernel
theorem dX1_areUsersAtRest_12 : decode cX1_areUsersAtRest 12 = .ok (.aload_n 0, 1) := by decide +kernel
theorem dX1_areUsersAtRest_13 : decode cX1_areUsersAtRest 13 = .ok (.getfield 19, 3) := by decide +kernel
theorem dX1_areUsersAtRest_16 : decode cX1_areUsersAtRest 16 = .ok (.iload_n 2, 1) := by decide +kernel
theorem dX1_areUsersAtRest_17 : decode cX1_areUsersAtRest 17 = .ok (.iaload, 1) := by decide +kernel
theorem dX1_areUsersAtRest_18 : decode cX1_areUsersAtRest 18 = .ok (.iconst 1, 1) := by decide +kernel
theorem dX1_areUsersAtRest_19 : decode cX1_areUsersAtRest 19 = .ok (.iload_n 1, 1) := by decide +kernel
theorem dX1_areUsersAtRest_20 : decode cX1_areUsersAtRest 20 = .ok (.ishl, 1) := by decide +kernel
theorem dX1_areUsersAtRest_21 : decode cX1_areUsersAtRest 21 = .ok (.iand, 1) := by decide +kernel
theorem dX1_areUsersAtRest_22 : decode cX1_areUsersAtRest 22 = .ok (.ifCond .eq 7, 3) := by decide +kernel
theorem dX1_areUsersAtRest_25 : decode cX1_areUsersAtRest 25 = .ok (.iconst 1, 1) := by decide +kernel
theorem dX1_areUsersAtRest_26 : decode cX1_areUsersAtRest 26 = .ok (.goto 4, 3) := by decide +kernel
theorem dX1_areUsersAtRest_29 : decode cX1_areUsersAtRest 29 = .ok (.iconst 0, 1) := by decide +kernel
theorem dX1_areUsersAtRest_30 : decode cX1_areUsersAtRest 30 = .ok (.istore_n 3, 1) := by decide +kernel
theorem dX1_areUsersAtRest_31 : decode cX1_areUsersAtRest 31 = .ok (.aload_n 0, 1) := by decide +kernel
theorem dX1_areUsersAtRest_32 : decode cX1_areUsersAtRest 32 = .ok (.getfield 53, 3) := by decide +kernel
theorem dX1_areUsersAtRest_35 : decode cX1_areUsersAtRest 35 = .ok (.iload_n 2, 1) := by decide +kernel
theorem dX1_areUsersAtRest_36 : decode cX1_areUsersAtRest 36 = .ok (.iaload, 1) := by decide +kernel
theorem dX1_areUsersAtRest_37 : decode cX1_areUsersAtRest 37 = .ok (.ifCond .eq 13, 3) := by decide +kernel
theorem dX1_areUsersAtRest_40 : decode cX1_areUsersAtRest 40 = .ok (.aload_n 0, 1) := by decide +kernel
theorem dX1_areUsersAtRest_41 : decode cX1_areUsersAtRest 41 = .ok (.getfield 53, 3) := by decide +kernel
theorem dX1_areUsersAtRest_44 : decode cX1_areUsersAtRest 44 = .ok (.iload_n 2, 1) := by decide +kernel
theorem dX1_areUsersAtRest_45 : decode cX1_areUsersAtRest 45 = .ok (.iaload, 1) := by decide +kernel
theorem dX1_areUsersAtRest_46 : decode cX1_areUsersAtRest 46 = .ok (.iconst 5, 1) := by decide +kernel
theorem dX1_areUsersAtRest_47 : decode cX1_areUsersAtRest 47 = .ok (.if_icmp .ne 7, 3) := by decide +kernel
theorem dX1_areUsersAtRest_50 : decode cX1_areUsersAtRest 50 = .ok (.iconst 1, 1) := by decide +kernel
theorem dX1_areUsersAtRest_51 : decode cX1_areUsersAtRest 51 = .ok (.goto 4, 3) := by decide +kernel
theorem dX1_areUsersAtRest_54 : decode cX1_areUsersAtRest 54 = .ok (.iconst 0, 1) := by decide +kernel
theorem dX1_areUsersAtRest_55 : decode cX1_areUsersAtRest 55 = .ok (.istore 4, 2) := by decide +kernel
theorem dX1_areUsersAtRest_57 : decode cX1_areUsersAtRest 57 = .ok (.iload_n 3, 1) := by decide +kernel
theorem dX1_areUsersAtRest_58 : decode cX1_areUsersAtRest 58 = .ok (.ifCond .eq 18, 3) := by decide +kernel
theorem dX1_areUsersAtRest_61 : decode cX1_areUsersAtRest 61 = .ok (.iload 4, 2) := by decide +kernel
theorem dX1_areUsersAtRest_63 : decode cX1_areUsersAtRest 63 = .ok (.ifCond .eq 11, 3) := by decide +kernel
theorem dX1_areUsersAtRest_66 : decode cX1_areUsersAtRest 66 = .ok (.aload_n 0, 1) := by decide +kernel
theorem dX1_areUsersAtRest_67 : decode cX1_areUsersAtRest 67 = .ok (.iload_n 2, 1) := by decide +kernel
theorem dX1_areUsersAtRest_68 : decode cX1_areUsersAtRest 68 = .ok (.invokevirtual 105, 3) := by decide +kernel
theorem dX1_areUsersAtRest_71 : decode cX1_areUsersAtRest 71 = .ok (.ifCond .ne 5, 3) := by decide +kernel
theorem dX1_areUsersAtRest_74 : decode cX1_areUsersAtRest 74 = .ok (.iconst 0, 1) := by decide +kernel
theorem dX1_areUsersAtRest_75 : decode cX1_areUsersAtRest 75 = .ok (.ireturn, 1) := by decide +kernel
theorem dX1_areUsersAtRest_76 : decode cX1_areUsersAtRest 76 = .ok (.iinc 2 1, 3) := by decide +kernel
theorem dX1_areUsersAtRest_79 : decode cX1_areUsersAtRest 79 = .ok (.goto (-75), 3) := by decide +kernel
theorem dX1_areUsersAtRest_82 : decode cX1_areUsersAtRest 82 = .ok (.iconst 1, 1) := by decide +kernel
theorem dX1_areUsersAtRest_83 : decode cX1_areUsersAtRest 83 = .ok (.ireturn, 1) := by decide +kernel
theorem dX1_become_0 : decode cX1_become 0 = .ok (.aload_n 0, 1) := by decide +kernel
theorem dX1_become_1 : decode cX1_become 1 = .ok (.getfield 22, 3) := by decide +kernel
theorem dX1_become_4 : decode cX1_become 4 = .ok (.iload_n 1, 1) := by decide +kernel
theorem dX1_become_5 : decode cX1_become 5 = .ok (.iload_n 2, 1) := by decide +kernel
theorem dX1_become_6 : decode cX1_become 6 = .ok (.iastore, 1) := by decide +kernel
theorem dX1_become_7 : decode cX1_become 7 = .ok (.iload_n 2, 1) := by decide +kernel
theorem dX1_become_8 : decode cX1_become 8 = .ok (.iconst 2, 1) := by decide +kernel
theorem dX1_become_9 : decode cX1_become 9 = .ok (.if_icmp .ne 17, 3) := by decide +kernel
theorem dX1_become_12 : decode cX1_become 12 = .ok (.aload_n 0, 1) := by decide +kernel
theorem dX1_become_13 : decode cX1_become 13 = .ok (.getfield 43, 3) := by decide +kernel
theorem dX1_become_16 : decode cX1_become 16 = .ok (.iload_n 1, 1) := by decide +kernel
theorem dX1_become_17 : decode cX1_become 17 = .ok (.iconst 4, 1) := by decide +kernel
theorem dX1_become_18 : decode cX1_become 18 = .ok (.imul, 1) := by decide +kernel
theorem dX1_become_19 : decode cX1_become 19 = .ok (.iconst 0, 1) := by decide +kernel
theorem dX1_become_20 : decode cX1_become 20 = .ok (.iadd, 1) := by decide +kernel
theorem dX1_become_21 : decode cX1_become 21 = .ok (.dup2, 1) := by decide +kernel
theorem dX1_become_22 : decode cX1_become 22 = .ok (.iaload, 1) := by decide +kernel
theorem dX1_become_23 : decode cX1_become 23 = .ok (.iconst 1, 1) := by decide +kernel
theorem dX1_become_24 : decode cX1_become 24 = .ok (.iadd, 1) := by decide +kernel
theorem dX1_become_25 : decode cX1_become 25 = .ok (.iastore, 1) := by decide +kernel
theorem dX1_become_26 : decode cX1_become 26 = .ok (.iload_n 2, 1) := by decide +kernel
theorem dX1_become_27 : decode cX1_become 27 = .ok (.iconst 3, 1) := by decide +kernel
theorem dX1_become_28 : decode cX1_become 28 = .ok (.if_icmp .ne 17, 3) := by decide +kernel
theorem dX1_become_31 : decode cX1_become 31 = .ok (.aload_n 0, 1) := by decide +kernel
theorem dX1_become_32 : decode cX1_become 32 = .ok (.getfield 43, 3) := by decide +kernel
theorem dX1_become_35 : decode cX1_become 35 = .ok (.iload_n 1, 1) := by decide +kernel
theorem dX1_become_36 : decode cX1_become 36 = .ok (.iconst 4, 1) := by decide +kernel
theorem dX1_become_37 : decode cX1_become 37 = .ok (.imul, 1) := by decide +kernel
theorem dX1_become_38 : decode cX1_become 38 = .ok (.iconst 1, 1) := by decide +kernel
theorem dX1_become_39 : decode cX1_become 39 = .ok (.iadd, 1) := by decide +kernel
theorem dX1_become_40 : decode cX1_become 40 = .ok (.dup2, 1) := by decide +kernel
theorem dX1_become_41 : decode cX1_become 41 = .ok (.iaload, 1) := by decide +kernel
theorem dX1_become_42 : decode cX1_become 42 = .ok (.iconst 1, 1) := by decide +kernel
theorem dX1_become_43 : decode cX1_become 43 = .ok (.iadd, 1) := by decide +kernel
theorem dX1_become_44 : decode cX1_become 44 = .ok (.iastore, 1) := by decide +kernel
theorem dX1_become_45 : decode cX1_become 45 = .ok (.aload_n 0, 1) := by decide +kernel
theorem dX1_become_46 : decode cX1_become 46 = .ok (.getfield 49, 3) := by decide +kernel
theorem dX1_become_49 : decode cX1_become 49 = .ok (.aload_n 0, 1) := by decide +kernel
theorem dX1_become_50 : decode cX1_become 50 = .ok (.getfield 65, 3) := by decide +kernel
theorem dX1_become_53 : decode cX1_become 53 = .ok (.iload_n 1, 1) := by decide +kernel
theorem dX1_become_54 : decode cX1_become 54 = .ok (.iload_n 2, 1) := by decide +kernel
theorem dX1_become_55 : decode cX1_become 55 = .ok (.aload_n 0, 1) := by decide +kernel
theorem dX1_become_56 : decode cX1_become 56 = .ok (.getfield 40, 3) := by decide +kernel
theorem dX1_become_59 : decode cX1_become 59 = .ok (.iload_n 1, 1) := by decide +kernel
theorem dX1_become_60 : decode cX1_become 60 = .ok (.iaload, 1) := by decide +kernel
theorem dX1_become_61 : decode cX1_become 61 = .ok (.invokevirtual 156, 3) := by decide +kernel
theorem dX1_become_64 : decode cX1_become 64 = .ok (.return_, 1) := by decide +kernel
theorem dX1_endTick_0 : decode cX1_endTick 0 = .ok (.iconst 0, 1) := by decide +kernel
theorem dX1_endTick_1 : decode cX1_endTick 1 = .ok (.istore_n 1, 1) := by decide +kernel
theorem dX1_endTick_2 : decode cX1_endTick 2 = .ok (.iload_n 1, 1) := by decide +kernel
theorem dX1_endTick_3 : decode cX1_endTick 3 = .ok (.aload_n 0, 1) := by decide +kernel
theorem dX1_endTick_4 : decode cX1_endTick 4 = .ok (.getfield 62, 3) := by decide +kernel
theorem dX1_endTick_7 : decode cX1_endTick 7 = .ok (.if_icmp .ge 52, 3) := by decide +kernel
theorem dX1_endTick_10 : decode cX1_endTick 10 = .ok (.aload_n 0, 1) := by decide +kernel
theorem dX1_endTick_11 : decode cX1_endTick 11 = .ok (.getfield 31, 3) := by decide +kernel
theorem dX1_endTick_14 : decode cX1_endTick 14 = .ok (.iload_n 1, 1) := by decide +kernel
theorem dX1_endTick_15 : decode cX1_endTick 15 = .ok (.iaload, 1) := by decide +kernel
theorem dX1_endTick_16 : decode cX1_endTick 16 = .ok (.ifCond .le 13, 3) := by decide +kernel
theorem dX1_endTick_19 : decode cX1_endTick 19 = .ok (.aload_n 0, 1) := by decide +kernel
theorem dX1_endTick_20 : decode cX1_endTick 20 = .ok (.getfield 31, 3) := by decide +kernel
theorem dX1_endTick_23 : decode cX1_endTick 23 = .ok (.iload_n 1, 1) := by decide +kernel
theorem dX1_endTick_24 : decode cX1_endTick 24 = .ok (.dup2, 1) := by decide +kernel
theorem dX1_endTick_25 : decode cX1_endTick 25 = .ok (.iaload, 1) := by decide +kernel
theorem dX1_endTick_26 : decode cX1_endTick 26 = .ok (.iconst 1, 1) := by decide +kernel
theorem dX1_endTick_27 : decode cX1_endTick 27 = .ok (.isub, 1) := by decide +kernel
theorem dX1_endTick_28 : decode cX1_endTick 28 = .ok (.iastore, 1) := by decide +kernel
theorem dX1_endTick_29 : decode cX1_endTick 29 = .ok (.aload_n 0, 1) := by decide +kernel
theorem dX1_endTick_30 : decode cX1_endTick 30 = .ok (.getfield 22, 3) := by decide +kernel
theorem dX1_endTick_33 : decode cX1_endTick 33 = .ok (.iload_n 1, 1) := by decide +kernel
theorem dX1_endTick_34 : decode cX1_endTick 34 = .ok (.iaload, 1) := by decide +kernel
theorem dX1_endTick_35 : decode cX1_endTick 35 = .ok (.iconst 3, 1) := by decide +kernel
theorem dX1_endTick_36 : decode cX1_endTick 36 = .ok (.if_icmp .ne 17, 3) := by decide +kernel
theorem dX1_endTick_39 : decode cX1_endTick 39 = .ok (.aload_n 0, 1) := by decide +kernel
theorem dX1_endTick_40 : decode cX1_endTick 40 = .ok (.getfield 43, 3) := by decide +kernel
theorem dX1_endTick_43 : decode cX1_endTick 43 = .ok (.iload_n 1, 1) := by decide +kernel
theorem dX1_endTick_44 : decode cX1_endTick 44 = .ok (.iconst 4, 1) := by decide +kernel
theorem dX1_endTick_45 : decode cX1_endTick 45 = .ok (.imul, 1) := by decide +kernel
theorem dX1_endTick_46 : decode cX1_endTick 46 = .ok (.iconst 3, 1) := by decide +kernel
theorem dX1_endTick_47 : decode cX1_endTick 47 = .ok (.iadd, 1) := by decide +kernel
theorem dX1_endTick_48 : decode cX1_endTick 48 = .ok (.dup2, 1) := by decide +kernel
theorem dX1_endTick_49 : decode cX1_endTick 49 = .ok (.iaload, 1) := by decide +kernel
theorem dX1_endTick_50 : decode cX1_endTick 50 = .ok (.iconst 1, 1) := by decide +kernel
theorem dX1_endTick_51 : decode cX1_endTick 51 = .ok (.iadd, 1) := by decide +kernel
theorem dX1_endTick_52 : decode cX1_endTick 52 = .ok (.iastore, 1) := by decide +kernel
theorem dX1_endTick_53 : decode cX1_endTick 53 = .ok (.iinc 1 1, 3) := by decide +kernel
theorem dX1_endTick_56 : decode cX1_endTick 56 = .ok (.goto (-54), 3) := by decide +kernel
theorem dX1_endTick_59 : decode cX1_endTick 59 = .ok (.aload_n 0, 1) := by decide +kernel
theorem dX1_endTick_60 : decode cX1_endTick 60 = .ok (.dup, 1) := by decide +kernel
theorem dX1_endTick_61 : decode cX1_endTick 61 = .ok (.getfield 65, 3) := by decide +kernel
theorem dX1_endTick_64 : decode cX1_endTick 64 = .ok (.iconst 1, 1) := by decide +kernel
theorem dX1_endTick_65 : decode cX1_endTick 65 = .ok (.iadd, 1) := by decide +kernel
theorem dX1_endTick_66 : decode cX1_endTick 66 = .ok (.putfield 65, 3) := by decide +kernel
theorem dX1_endTick_69 : decode cX1_endTick 69 = .ok (.return_, 1) := by decide +kernel
theorem dX1_wasStill_0 : decode cX1_wasStill 0 = .ok (.iconst 0, 1) := by decide +kernel
theorem dX1_wasStill_1 : decode cX1_wasStill 1 = .ok (.istore_n 1, 1) := by decide +kernel
theorem dX1_wasStill_2 : decode cX1_wasStill 2 = .ok (.iload_n 1, 1) := by decide +kernel
theorem dX1_wasStill_3 : decode cX1_wasStill 3 = .ok (.aload_n 0, 1) := by decide +kernel
theorem dX1_wasStill_4 : decode cX1_wasStill 4 = .ok (.getfield 62, 3) := by decide +kernel
theorem dX1_wasStill_7 : decode cX1_wasStill 7 = .ok (.if_icmp .ge 56, 3) := by decide +kernel
theorem dX1_wasStill_10 : decode cX1_wasStill 10 = .ok (.aload_n 0, 1) := by decide +kernel
theorem dX1_wasStill_11 : decode cX1_wasStill 11 = .ok (.getfield 22, 3) := by decide +kernel
theorem dX1_wasStill_14 : decode cX1_wasStill 14 = .ok (.iload_n 1, 1) := by decide +kernel
theorem dX1_wasStill_15 : decode cX1_wasStill 15 = .ok (.iaload, 1) := by decide +kernel
theorem dX1_wasStill_16 : decode cX1_wasStill 16 = .ok (.aload_n 0, 1) := by decide +kernel
theorem dX1_wasStill_17 : decode cX1_wasStill 17 = .ok (.getfield 53, 3) := by decide +kernel
theorem dX1_wasStill_20 : decode cX1_wasStill 20 = .ok (.iload_n 1, 1) := by decide +kernel
theorem dX1_wasStill_21 : decode cX1_wasStill 21 = .ok (.iaload, 1) := by decide +kernel
theorem dX1_wasStill_22 : decode cX1_wasStill 22 = .ok (.if_icmp .ne 33, 3) := by decide +kernel
theorem dX1_wasStill_25 : decode cX1_wasStill 25 = .ok (.aload_n 0, 1) := by decide +kernel
theorem dX1_wasStill_26 : decode cX1_wasStill 26 = .ok (.getfield 25, 3) := by decide +kernel
theorem dX1_wasStill_29 : decode cX1_wasStill 29 = .ok (.iload_n 1, 1) := by decide +kernel
theorem dX1_wasStill_30 : decode cX1_wasStill 30 = .ok (.iaload, 1) := by decide +kernel
theorem dX1_wasStill_31 : decode cX1_wasStill 31 = .ok (.aload_n 0, 1) := by decide +kernel
theorem dX1_wasStill_32 : decode cX1_wasStill 32 = .ok (.getfield 56, 3) := by decide +kernel
theorem dX1_wasStill_35 : decode cX1_wasStill 35 = .ok (.iload_n 1, 1) := by decide +kernel
theorem dX1_wasStill_36 : decode cX1_wasStill 36 = .ok (.iaload, 1) := by decide +kernel
theorem dX1_wasStill_37 : decode cX1_wasStill 37 = .ok (.if_icmp .ne 18, 3) := by decide +kernel
theorem dX1_wasStill_40 : decode cX1_wasStill 40 = .ok (.aload_n 0, 1) := by decide +kernel
theorem dX1_wasStill_41 : decode cX1_wasStill 41 = .ok (.getfield 34, 3) := by decide +kernel
theorem dX1_wasStill_44 : decode cX1_wasStill 44 = .ok (.iload_n 1, 1) := by decide +kernel
theorem dX1_wasStill_45 : decode cX1_wasStill 45 = .ok (.iaload, 1) := by decide +kernel
theorem dX1_wasStill_46 : decode cX1_wasStill 46 = .ok (.aload_n 0, 1) := by decide +kernel
theorem dX1_wasStill_47 : decode cX1_wasStill 47 = .ok (.getfield 59, 3) := by decide +kernel
theorem dX1_wasStill_50 : decode cX1_wasStill 50 = .ok (.iload_n 1, 1) := by decide +kernel
theorem dX1_wasStill_51 : decode cX1_wasStill 51 = .ok (.iaload, 1) := by decide +kernel
theorem dX1_wasStill_52 : decode cX1_wasStill 52 = .ok (.if_icmp .eq 5, 3) := by decide +kernel
theorem dX1_wasStill_55 : decode cX1_wasStill 55 = .ok (.iconst 0, 1) := by decide +kernel
theorem dX1_wasStill_56 : decode cX1_wasStill 56 = .ok (.ireturn, 1) := by decide +kernel
theorem dX1_wasStill_57 : decode cX1_wasStill 57 = .ok (.iinc 1 1, 3) := by decide +kernel
theorem dX1_wasStill_60 : decode cX1_wasStill 60 = .ok (.goto (-58), 3) := by decide +kernel
theorem dX1_wasStill_63 : decode cX1_wasStill 63 = .ok (.iconst 1, 1) := by decide +kernel
theorem dX1_wasStill_64 : decode cX1_wasStill 64 = .ok (.ireturn, 1) := by decide +kernel
theorem dX1_isSettled_0 : decode cX1_isSettled 0 = .ok (.iconst 0, 1) := by decide +kernel
theorem dX1_isSettled_1 : decode cX1_isSettled 1 = .ok (.istore_n 1, 1) := by decide +kernel
theorem dX1_isSettled_2 : decode cX1_isSettled 2 = .ok (.iload_n 1, 1) := by decide +kernel
theorem dX1_isSettled_3 : decode cX1_isSettled 3 = .ok (.aload_n 0, 1) := by decide +kernel
theorem dX1_isSettled_4 : decode cX1_isSettled 4 = .ok (.getfield 62, 3) := by decide +kernel
theorem dX1_isSettled_7 : decode cX1_isSettled 7 = .ok (.if_icmp .ge 20, 3) := by decide +kernel
theorem dX1_isSettled_10 : decode cX1_isSettled 10 = .ok (.aload_n 0, 1) := by decide +kernel
theorem dX1_isSettled_11 : decode cX1_isSettled 11 = .ok (.getfield 31, 3) := by decide +kernel
theorem dX1_isSettled_14 : decode cX1_isSettled 14 = .ok (.iload_n 1, 1) := by decide +kernel
theorem dX1_isSettled_15 : decode cX1_isSettled 15 = .ok (.iaload, 1) := by decide +kernel
theorem dX1_isSettled_16 : decode cX1_isSettled 16 = .ok (.ifCond .le 5, 3) := by decide +kernel
theorem dX1_isSettled_19 : decode cX1_isSettled 19 = .ok (.iconst 0, 1) := by decide +kernel
theorem dX1_isSettled_20 : decode cX1_isSettled 20 = .ok (.ireturn, 1) := by decide +kernel
theorem dX1_isSettled_21 : decode cX1_isSettled 21 = .ok (.iinc 1 1, 3) := by decide +kernel
theorem dX1_isSettled_24 : decode cX1_isSettled 24 = .ok (.goto (-22), 3) := by decide +kernel
theorem dX1_isSettled_27 : decode cX1_isSettled 27 = .ok (.aload_n 0, 1) := by decide +kernel
theorem dX1_isSettled_28 : decode cX1_isSettled 28 = .ok (.invokevirtual 160, 3) := by decide +kernel
theorem dX1_isSettled_31 : decode cX1_isSettled 31 = .ok (.ireturn, 1) := by decide +kernel
theorem dX1_justDropped_0 : decode cX1_justDropped 0 = .ok (.iconst 0, 1) := by decide +kernel
theorem dX1_justDropped_1 : decode cX1_justDropped 1 = .ok (.istore_n 1, 1) := by decide +kernel
theorem dX1_justDropped_2 : decode cX1_justDropped 2 = .ok (.iconst 0, 1) := by decide +kernel
theorem dX1_justDropped_3 : decode cX1_justDropped 3 = .ok (.istore_n 2, 1) := by decide +kernel
theorem dX1_justDropped_4 : decode cX1_justDropped 4 = .ok (.iload_n 2, 1) := by decide +kernel
theorem dX1_justDropped_5 : decode cX1_justDropped 5 = .ok (.aload_n 0, 1) := by decide +kernel
theorem dX1_justDropped_6 : decode cX1_justDropped 6 = .ok (.getfield 62, 3) := by decide +kernel
theorem dX1_justDropped_9 : decode cX1_justDropped 9 = .ok (.if_icmp .ge 60, 3) := by decide +kernel
theorem dX1_justDropped_12 : decode cX1_justDropped 12 = .ok (.aload_n 0, 1) := by decide +kernel
theorem dX1_justDropped_13 : decode cX1_justDropped 13 = .ok (.getfield 22, 3) := by decide +kernel
theorem dX1_justDropped_16 : decode cX1_justDropped 16 = .ok (.iload_n 2, 1) := by decide +kernel
theorem dX1_justDropped_17 : decode cX1_justDropped 17 = .ok (.iaload, 1) := by decide +kernel
theorem dX1_justDropped_18 : decode cX1_justDropped 18 = .ok (.iconst 4, 1) := by decide +kernel
theorem dX1_justDropped_19 : decode cX1_justDropped 19 = .ok (.if_icmp .eq 13, 3) := by decide +kernel
theorem dX1_justDropped_22 : decode cX1_justDropped 22 = .ok (.aload_n 0, 1) := by decide +kernel
theorem dX1_justDropped_23 : decode cX1_justDropped 23 = .ok (.getfield 22, 3) := by decide +kernel
theorem dX1_justDropped_26 : decode cX1_justDropped 26 = .ok (.iload_n 2, 1) := by decide +kernel
theorem dX1_justDropped_27 : decode cX1_justDropped 27 = .ok (.iaload, 1) := by decide +kernel
theorem dX1_justDropped_28 : decode cX1_justDropped 28 = .ok (.iconst 5, 1) := by decide +kernel
theorem dX1_justDropped_29 : decode cX1_justDropped 29 = .ok (.if_icmp .ne 7, 3) := by decide +kernel
theorem dX1_justDropped_32 : decode cX1_justDropped 32 = .ok (.iconst 1, 1) := by decide +kernel
theorem dX1_justDropped_33 : decode cX1_justDropped 33 = .ok (.goto 4, 3) := by decide +kernel
theorem dX1_justDropped_36 : decode cX1_justDropped 36 = .ok (.iconst 0, 1) := by decide +kernel
theorem dX1_justDropped_37 : decode cX1_justDropped 37 = .ok (.istore_n 3, 1) := by decide +kernel
theorem dX1_justDropped_38 : decode cX1_justDropped 38 = .ok (.iload_n 3, 1) := by decide +kernel
theorem dX1_justDropped_39 : decode cX1_justDropped 39 = .ok (.ifCond .eq 24, 3) := by decide +kernel
theorem dX1_justDropped_42 : decode cX1_justDropped 42 = .ok (.aload_n 0, 1) := by decide +kernel
theorem dX1_justDropped_43 : decode cX1_justDropped 43 = .ok (.getfield 22, 3) := by decide +kernel
theorem dX1_justDropped_46 : decode cX1_justDropped 46 = .ok (.iload_n 2, 1) := by decide +kernel
theorem dX1_justDropped_47 : decode cX1_justDropped 47 = .ok (.iaload, 1) := by decide +kernel
theorem dX1_justDropped_48 : decode cX1_justDropped 48 = .ok (.aload_n 0, 1) := by decide +kernel
theorem dX1_justDropped_49 : decode cX1_justDropped 49 = .ok (.getfield 53, 3) := by decide +kernel
theorem dX1_justDropped_52 : decode cX1_justDropped 52 = .ok (.iload_n 2, 1) := by decide +kernel
theorem dX1_justDropped_53 : decode cX1_justDropped 53 = .ok (.iaload, 1) := by decide +kernel
theorem dX1_justDropped_54 : decode cX1_justDropped 54 = .ok (.if_icmp .eq 9, 3) := by decide +kernel
theorem dX1_justDropped_57 : decode cX1_justDropped 57 = .ok (.iload_n 1, 1) := by decide +kernel
theorem dX1_justDropped_58 : decode cX1_justDropped 58 = .ok (.iconst 1, 1) := by decide +kernel
theorem dX1_justDropped_59 : decode cX1_justDropped 59 = .ok (.iload_n 2, 1) := by decide +kernel
theorem dX1_justDropped_60 : decode cX1_justDropped 60 = .ok (.ishl, 1) := by decide +kernel
theorem dX1_justDropped_61 : decode cX1_justDropped 61 = .ok (.ior, 1) := by decide +kernel
theorem dX1_justDropped_62 : decode cX1_justDropped 62 = .ok (.istore_n 1, 1) := by decide +kernel
theorem dX1_justDropped_63 : decode cX1_justDropped 63 = .ok (.iinc 2 1, 3) := by decide +kernel
theorem dX1_justDropped_66 : decode cX1_justDropped 66 = .ok (.goto (-62), 3) := by decide +kernel
theorem dX1_justDropped_69 : decode cX1_justDropped 69 = .ok (.iload_n 1, 1) := by decide +kernel
theorem dX1_justDropped_70 : decode cX1_justDropped 70 = .ok (.ireturn, 1) := by decide +kernel
theorem dX1_dropForRestart_0 : decode cX1_dropForRestart 0 = .ok (.aload_n 0, 1) := by decide +kernel
theorem dX1_dropForRestart_1 : decode cX1_dropForRestart 1 = .ok (.iconst 1, 1) := by decide +kernel
theorem dX1_dropForRestart_2 : decode cX1_dropForRestart 2 = .ok (.iload_n 1, 1) := by decide +kernel
theorem dX1_dropForRestart_3 : decode cX1_dropForRestart 3 = .ok (.ishl, 1) := by decide +kernel
theorem dX1_dropForRestart_4 : decode cX1_dropForRestart 4 = .ok (.invokevirtual 81, 3) := by decide +kernel
theorem dX1_dropForRestart_7 : decode cX1_dropForRestart 7 = .ok (.istore_n 2, 1) := by decide +kernel
theorem dX1_dropForRestart_8 : decode cX1_dropForRestart 8 = .ok (.iconst 0, 1) := by decide +kernel
theorem dX1_dropForRestart_9 : decode cX1_dropForRestart 9 = .ok (.istore_n 3, 1) := by decide +kernel
theorem dX1_dropForRestart_10 : decode cX1_dropForRestart 10 = .ok (.iload_n 1, 1) := by decide +kernel
theorem dX1_dropForRestart_11 : decode cX1_dropForRestart 11 = .ok (.istore 4, 2) := by decide +kernel
theorem dX1_dropForRestart_13 : decode cX1_dropForRestart 13 = .ok (.iload 4, 2) := by decide +kernel
theorem dX1_dropForRestart_15 : decode cX1_dropForRestart 15 = .ok (.aload_n 0, 1) := by decide +kernel
theorem dX1_dropForRestart_16 : decode cX1_dropForRestart 16 = .ok (.getfield 62, 3) := by decide +kernel
theorem dX1_dropForRestart_19 : decode cX1_dropForRestart 19 = .ok (.if_icmp .ge 53, 3) := by decide +kernel
theorem dX1_dropForRestart_22 : decode cX1_dropForRestart 22 = .ok (.iload_n 2, 1) := by decide +kernel
theorem dX1_dropForRestart_23 : decode cX1_dropForRestart 23 = .ok (.iconst 1, 1) := by decide +kernel
theorem dX1_dropForRestart_24 : decode cX1_dropForRestart 24 = .ok (.iload 4, 2) := by decide +kernel
theorem dX1_dropForRestart_26 : decode cX1_dropForRestart 26 = .ok (.ishl, 1) := by decide +kernel
theorem dX1_dropForRestart_27 : decode cX1_dropForRestart 27 = .ok (.iand, 1) := by decide +kernel
theorem dX1_dropForRestart_28 : decode cX1_dropForRestart 28 = .ok (.ifCond .eq 38, 3) := by decide +kernel
theorem dX1_dropForRestart_31 : decode cX1_dropForRestart 31 = .ok (.aload_n 0, 1) := by decide +kernel
theorem dX1_dropForRestart_32 : decode cX1_dropForRestart 32 = .ok (.iload 4, 2) := by decide +kernel
theorem dX1_dropForRestart_34 : decode cX1_dropForRestart 34 = .ok (.invokevirtual 164, 3) := by decide +kernel
theorem dX1_dropForRestart_37 : decode cX1_dropForRestart 37 = .ok (.ifCond .eq 29, 3) := by decide +kernel
theorem dX1_dropForRestart_40 : decode cX1_dropForRestart 40 = .ok (.aload_n 0, 1) := by decide +kernel
theorem dX1_dropForRestart_41 : decode cX1_dropForRestart 41 = .ok (.getfield 40, 3) := by decide +kernel
theorem dX1_dropForRestart_44 : decode cX1_dropForRestart 44 = .ok (.iload 4, 2) := by decide +kernel
theorem dX1_dropForRestart_46 : decode cX1_dropForRestart 46 = .ok (.iload_n 1, 1) := by decide +kernel
theorem dX1_dropForRestart_47 : decode cX1_dropForRestart 47 = .ok (.iastore, 1) := by decide +kernel
theorem dX1_dropForRestart_48 : decode cX1_dropForRestart 48 = .ok (.aload_n 0, 1) := by decide +kernel
theorem dX1_dropForRestart_49 : decode cX1_dropForRestart 49 = .ok (.getfield 37, 3) := by decide +kernel
theorem dX1_dropForRestart_52 : decode cX1_dropForRestart 52 = .ok (.iload 4, 2) := by decide +kernel
theorem dX1_dropForRestart_54 : decode cX1_dropForRestart 54 = .ok (.iconst 0, 1) := by decide +kernel
theorem dX1_dropForRestart_55 : decode cX1_dropForRestart 55 = .ok (.iastore, 1) := by decide +kernel
theorem dX1_dropForRestart_56 : decode cX1_dropForRestart 56 = .ok (.aload_n 0, 1) := by decide +kernel
theorem dX1_dropForRestart_57 : decode cX1_dropForRestart 57 = .ok (.iload 4, 2) := by decide +kernel
theorem dX1_dropForRestart_59 : decode cX1_dropForRestart 59 = .ok (.iconst 4, 1) := by decide +kernel
theorem dX1_dropForRestart_60 : decode cX1_dropForRestart 60 = .ok (.invokevirtual 117, 3) := by decide +kernel
theorem dX1_dropForRestart_63 : decode cX1_dropForRestart 63 = .ok (.iinc 3 1, 3) := by decide +kernel
theorem dX1_dropForRestart_66 : decode cX1_dropForRestart 66 = .ok (.iinc 4 1, 3) := by decide +kernel
theorem dX1_dropForRestart_69 : decode cX1_dropForRestart 69 = .ok (.goto (-56), 3) := by decide +kernel
theorem dX1_dropForRestart_72 : decode cX1_dropForRestart 72 = .ok (.iload_n 3, 1) := by decide +kernel
theorem dX1_dropForRestart_73 : decode cX1_dropForRestart 73 = .ok (.ireturn, 1) := by decide +kernel
theorem dX1_isToDrop_0 : decode cX1_isToDrop 0 = .ok (.aload_n 0, 1) := by decide +kernel
theorem dX1_isToDrop_1 : decode cX1_isToDrop 1 = .ok (.getfield 22, 3) := by decide +kernel
theorem dX1_isToDrop_4 : decode cX1_isToDrop 4 = .ok (.iload_n 1, 1) := by decide +kernel
theorem dX1_isToDrop_5 : decode cX1_isToDrop 5 = .ok (.iaload, 1) := by decide +kernel
theorem dX1_isToDrop_6 : decode cX1_isToDrop 6 = .ok (.iconst 2, 1) := by decide +kernel
theorem dX1_isToDrop_7 : decode cX1_isToDrop 7 = .ok (.if_icmp .eq 31, 3) := by decide +kernel
theorem dX1_isToDrop_10 : decode cX1_isToDrop 10 = .ok (.aload_n 0, 1) := by decide +kernel
theorem dX1_isToDrop_11 : decode cX1_isToDrop 11 = .ok (.getfield 22, 3) := by decide +kernel
theorem dX1_isToDrop_14 : decode cX1_isToDrop 14 = .ok (.iload_n 1, 1) := by decide +kernel
theorem dX1_isToDrop_15 : decode cX1_isToDrop 15 = .ok (.iaload, 1) := by decide +kernel
theorem dX1_isToDrop_16 : decode cX1_isToDrop 16 = .ok (.iconst 3, 1) := by decide +kernel
theorem dX1_isToDrop_17 : decode cX1_isToDrop 17 = .ok (.if_icmp .eq 21, 3) := by decide +kernel
theorem dX1_isToDrop_20 : decode cX1_isToDrop 20 = .ok (.aload_n 0, 1) := by decide +kernel
theorem dX1_isToDrop_21 : decode cX1_isToDrop 21 = .ok (.getfield 22, 3) := by decide +kernel
theorem dX1_isToDrop_24 : decode cX1_isToDrop 24 = .ok (.iload_n 1, 1) := by decide +kernel
theorem dX1_isToDrop_25 : decode cX1_isToDrop 25 = .ok (.iaload, 1) := by decide +kernel
theorem dX1_isToDrop_26 : decode cX1_isToDrop 26 = .ok (.iconst 5, 1) := by decide +kernel
theorem dX1_isToDrop_27 : decode cX1_isToDrop 27 = .ok (.if_icmp .ne 15, 3) := by decide +kernel
theorem dX1_isToDrop_30 : decode cX1_isToDrop 30 = .ok (.aload_n 0, 1) := by decide +kernel
theorem dX1_isToDrop_31 : decode cX1_isToDrop 31 = .ok (.iload_n 1, 1) := by decide +kernel
theorem dX1_isToDrop_32 : decode cX1_isToDrop 32 = .ok (.invokevirtual 85, 3) := by decide +kernel
theorem dX1_isToDrop_35 : decode cX1_isToDrop 35 = .ok (.ifCond .eq 7, 3) := by decide +kernel
theorem dX1_isToDrop_38 : decode cX1_isToDrop 38 = .ok (.iconst 1, 1) := by decide +kernel
theorem dX1_isToDrop_39 : decode cX1_isToDrop 39 = .ok (.goto 4, 3) := by decide +kernel
theorem dX1_isToDrop_42 : decode cX1_isToDrop 42 = .ok (.iconst 0, 1) := by decide +kernel
theorem dX1_isToDrop_43 : decode cX1_isToDrop 43 = .ok (.ireturn, 1) := by decide +kernel
theorem dX2_init_0 : decode cX2_init 0 = .ok (.aload_n 0, 1) := by decide +kernel
theorem dX2_init_1 : decode cX2_init 1 = .ok (.invokespecial 3, 3) := by decide +kernel
theorem dX2_init_4 : decode cX2_init 4 = .ok (.aload_n 0, 1) := by decide +kernel
theorem dX2_init_5 : decode cX2_init 5 = .ok (.iconst 3, 1) := by decide +kernel
theorem dX2_init_6 : decode cX2_init 6 = .ok (.newarray .int, 2) := by decide +kernel
theorem dX2_init_8 : decode cX2_init 8 = .ok (.putfield 11, 3) := by decide +kernel
theorem dX2_init_11 : decode cX2_init 11 = .ok (.return_, 1) := by decide +kernel
theorem dX2_begin_0 : decode cX2_begin 0 = .ok (.iconst 0, 1) := by decide +kernel
theorem dX2_begin_1 : decode cX2_begin 1 = .ok (.istore_n 1, 1) := by decide +kernel
theorem dX2_begin_2 : decode cX2_begin 2 = .ok (.iload_n 1, 1) := by decide +kernel
theorem dX2_begin_3 : decode cX2_begin 3 = .ok (.iconst 3, 1) := by decide +kernel
theorem dX2_begin_4 : decode cX2_begin 4 = .ok (.if_icmp .ge 16, 3) := by decide +kernel
theorem dX2_begin_7 : decode cX2_begin 7 = .ok (.aload_n 0, 1) := by decide +kernel
theorem dX2_begin_8 : decode cX2_begin 8 = .ok (.getfield 11, 3) := by decide +kernel
theorem dX2_begin_11 : decode cX2_begin 11 = .ok (.iload_n 1, 1) := by decide +kernel
theorem dX2_begin_12 : decode cX2_begin 12 = .ok (.iconst 0, 1) := by decide +kernel
theorem dX2_begin_13 : decode cX2_begin 13 = .ok (.iastore, 1) := by decide +kernel
theorem dX2_begin_14 : decode cX2_begin 14 = .ok (.iinc 1 1, 3) := by decide +kernel
theorem dX2_begin_17 : decode cX2_begin 17 = .ok (.goto (-15), 3) := by decide +kernel
theorem dX2_begin_20 : decode cX2_begin 20 = .ok (.aload_n 0, 1) := by decide +kernel
theorem dX2_begin_21 : decode cX2_begin 21 = .ok (.iconst 0, 1) := by decide +kernel
theorem dX2_begin_22 : decode cX2_begin 22 = .ok (.putfield 15, 3) := by decide +kernel
theorem dX2_begin_25 : decode cX2_begin 25 = .ok (.aload_n 0, 1) := by decide +kernel
theorem dX2_begin_26 : decode cX2_begin 26 = .ok (.iconst 0, 1) := by decide +kernel
theorem dX2_begin_27 : decode cX2_begin 27 = .ok (.putfield 19, 3) := by decide +kernel
theorem dX2_begin_30 : decode cX2_begin 30 = .ok (.aload_n 0, 1) := by decide +kernel
theorem dX2_begin_31 : decode cX2_begin 31 = .ok (.iconst (-1), 1) := by decide +kernel
theorem dX2_begin_32 : decode cX2_begin 32 = .ok (.putfield 22, 3) := by decide +kernel
theorem dX2_begin_35 : decode cX2_begin 35 = .ok (.return_, 1) := by decide +kernel
theorem dX2_take_0 : decode cX2_take 0 = .ok (.iload_n 1, 1) := by decide +kernel
theorem dX2_take_1 : decode cX2_take 1 = .ok (.bipush 48, 2) := by decide +kernel
theorem dX2_take_3 : decode cX2_take 3 = .ok (.if_icmp .lt 37, 3) := by decide +kernel
theorem dX2_take_6 : decode cX2_take 6 = .ok (.iload_n 1, 1) := by decide +kernel
theorem dX2_take_7 : decode cX2_take 7 = .ok (.bipush 57, 2) := by decide +kernel
theorem dX2_take_9 : decode cX2_take 9 = .ok (.if_icmp .gt 31, 3) := by decide +kernel
theorem dX2_take_12 : decode cX2_take 12 = .ok (.aload_n 0, 1) := by decide +kernel
theorem dX2_take_13 : decode cX2_take 13 = .ok (.getfield 19, 3) := by decide +kernel
theorem dX2_take_16 : decode cX2_take 16 = .ok (.iconst 3, 1) := by decide +kernel
theorem dX2_take_17 : decode cX2_take 17 = .ok (.if_icmp .ne 14, 3) := by decide +kernel
theorem dX2_take_20 : decode cX2_take 20 = .ok (.aload_n 0, 1) := by decide +kernel
theorem dX2_take_21 : decode cX2_take 21 = .ok (.iload_n 1, 1) := by decide +kernel
theorem dX2_take_22 : decode cX2_take 22 = .ok (.bipush 48, 2) := by decide +kernel
theorem dX2_take_24 : decode cX2_take 24 = .ok (.isub, 1) := by decide +kernel
theorem dX2_take_25 : decode cX2_take 25 = .ok (.invokevirtual 25, 3) := by decide +kernel
theorem dX2_take_28 : decode cX2_take 28 = .ok (.goto 11, 3) := by decide +kernel
theorem dX2_take_31 : decode cX2_take 31 = .ok (.aload_n 0, 1) := by decide +kernel
theorem dX2_take_32 : decode cX2_take 32 = .ok (.iload_n 1, 1) := by decide +kernel
theorem dX2_take_33 : decode cX2_take 33 = .ok (.bipush 48, 2) := by decide +kernel
theorem dX2_take_35 : decode cX2_take 35 = .ok (.isub, 1) := by decide +kernel
theorem dX2_take_36 : decode cX2_take 36 = .ok (.invokevirtual 29, 3) := by decide +kernel
theorem dX2_take_39 : decode cX2_take 39 = .ok (.ireturn, 1) := by decide +kernel
theorem dX2_take_40 : decode cX2_take 40 = .ok (.iload_n 1, 1) := by decide +kernel
theorem dX2_take_41 : decode cX2_take 41 = .ok (.bipush 47, 2) := by decide +kernel
theorem dX2_take_43 : decode cX2_take 43 = .ok (.if_icmp .ne 37, 3) := by decide +kernel
theorem dX2_take_46 : decode cX2_take 46 = .ok (.aload_n 0, 1) := by decide +kernel
theorem dX2_take_47 : decode cX2_take 47 = .ok (.getfield 19, 3) := by decide +kernel
theorem dX2_take_50 : decode cX2_take 50 = .ok (.ifCond .eq 11, 3) := by decide +kernel
theorem dX2_take_53 : decode cX2_take 53 = .ok (.aload_n 0, 1) := by decide +kernel
theorem dX2_take_54 : decode cX2_take 54 = .ok (.getfield 19, 3) := by decide +kernel
theorem dX2_take_57 : decode cX2_take 57 = .ok (.iconst 1, 1) := by decide +kernel
theorem dX2_take_58 : decode cX2_take 58 = .ok (.if_icmp .ne 20, 3) := by decide +kernel
theorem dX2_take_61 : decode cX2_take 61 = .ok (.aload_n 0, 1) := by decide +kernel
theorem dX2_take_62 : decode cX2_take 62 = .ok (.aload_n 0, 1) := by decide +kernel
theorem dX2_take_63 : decode cX2_take 63 = .ok (.getfield 19, 3) := by decide +kernel
theorem dX2_take_66 : decode cX2_take 66 = .ok (.iconst 1, 1) := by decide +kernel
theorem dX2_take_67 : decode cX2_take 67 = .ok (.iadd, 1) := by decide +kernel
theorem dX2_take_68 : decode cX2_take 68 = .ok (.invokevirtual 32, 3) := by decide +kernel
theorem dX2_take_71 : decode cX2_take 71 = .ok (.ifCond .eq 7, 3) := by decide +kernel
theorem dX2_take_74 : decode cX2_take 74 = .ok (.iconst 1, 1) := by decide +kernel
theorem dX2_take_75 : decode cX2_take 75 = .ok (.goto 4, 3) := by decide +kernel
theorem dX2_take_78 : decode cX2_take 78 = .ok (.iconst 0, 1) := by decide +kernel
theorem dX2_take_79 : decode cX2_take 79 = .ok (.ireturn, 1) := by decide +kernel
theorem dX2_take_80 : decode cX2_take 80 = .ok (.iload_n 1, 1) := by decide +kernel
theorem dX2_take_81 : decode cX2_take 81 = .ok (.bipush 60, 2) := by decide +kernel
theorem dX2_take_83 : decode cX2_take 83 = .ok (.if_icmp .ne 25, 3) := by decide +kernel
theorem dX2_take_86 : decode cX2_take 86 = .ok (.aload_n 0, 1) := by decide +kernel
theorem dX2_take_87 : decode cX2_take 87 = .ok (.getfield 19, 3) := by decide +kernel
theorem dX2_take_90 : decode cX2_take 90 = .ok (.iconst 2, 1) := by decide +kernel
theorem dX2_take_91 : decode cX2_take 91 = .ok (.if_icmp .ne 15, 3) := by decide +kernel
theorem dX2_take_94 : decode cX2_take 94 = .ok (.aload_n 0, 1) := by decide +kernel
theorem dX2_take_95 : decode cX2_take 95 = .ok (.iconst 3, 1) := by decide +kernel
theorem dX2_take_96 : decode cX2_take 96 = .ok (.invokevirtual 32, 3) := by decide +kernel
theorem dX2_take_99 : decode cX2_take 99 = .ok (.ifCond .eq 7, 3) := by decide +kernel
theorem dX2_take_102 : decode cX2_take 102 = .ok (.iconst 1, 1) := by decide +kernel
theorem dX2_take_103 : decode cX2_take 103 = .ok (.goto 4, 3) := by decide +kernel
theorem dX2_take_106 : decode cX2_take 106 = .ok (.iconst 0, 1) := by decide +kernel
theorem dX2_take_107 : decode cX2_take 107 = .ok (.ireturn, 1) := by decide +kernel
theorem dX2_take_108 : decode cX2_take 108 = .ok (.iload_n 1, 1) := by decide +kernel
theorem dX2_take_109 : decode cX2_take 109 = .ok (.bipush 59, 2) := by decide +kernel
theorem dX2_take_111 : decode cX2_take 111 = .ok (.if_icmp .ne 16, 3) := by decide +kernel
theorem dX2_take_114 : decode cX2_take 114 = .ok (.aload_n 0, 1) := by decide +kernel
theorem dX2_take_115 : decode cX2_take 115 = .ok (.invokevirtual 35, 3) := by decide +kernel
theorem dX2_take_118 : decode cX2_take 118 = .ok (.ifCond .eq 9, 3) := by decide +kernel
theorem dX2_take_121 : decode cX2_take 121 = .ok (.aload_n 0, 1) := by decide +kernel
theorem dX2_take_122 : decode cX2_take 122 = .ok (.invokevirtual 39, 3) := by decide +kernel
theorem dX2_take_125 : decode cX2_take 125 = .ok (.iconst 1, 1) := by decide +kernel
theorem dX2_take_126 : decode cX2_take 126 = .ok (.ireturn, 1) := by decide +kernel
theorem dX2_take_127 : decode cX2_take 127 = .ok (.iconst 0, 1) := by decide +kernel
theorem dX2_take_128 : decode cX2_take 128 = .ok (.ireturn, 1) := by decide +kernel
theorem dX2_isAtEndOfRail_0 : decode cX2_isAtEndOfRail 0 = .ok (.aload_n 0, 1) := by decide +kernel
theorem dX2_isAtEndOfRail_1 : decode cX2_isAtEndOfRail 1 = .ok (.getfield 19, 3) := by decide +kernel
theorem dX2_isAtEndOfRail_4 : decode cX2_isAtEndOfRail 4 = .ok (.iconst 3, 1) := by decide +kernel
theorem dX2_isAtEndOfRail_5 : decode cX2_isAtEndOfRail 5 = .ok (.if_icmp .ne 17, 3) := by decide +kernel
theorem dX2_isAtEndOfRail_8 : decode cX2_isAtEndOfRail 8 = .ok (.aload_n 0, 1) := by decide +kernel
theorem dX2_isAtEndOfRail_9 : decode cX2_isAtEndOfRail 9 = .ok (.getfield 22, 3) := by decide +kernel
theorem dX2_isAtEndOfRail_12 : decode cX2_isAtEndOfRail 12 = .ok (.iconst (-1), 1) := by decide +kernel
theorem dX2_isAtEndOfRail_13 : decode cX2_isAtEndOfRail 13 = .ok (.if_icmp .eq 7, 3) := by decide +kernel
theorem dX2_isAtEndOfRail_16 : decode cX2_isAtEndOfRail 16 = .ok (.iconst 1, 1) := by decide +kernel
theorem dX2_isAtEndOfRail_17 : decode cX2_isAtEndOfRail 17 = .ok (.goto 4, 3) := by decide +kernel
theorem dX2_isAtEndOfRail_20 : decode cX2_isAtEndOfRail 20 = .ok (.iconst 0, 1) := by decide +kernel
theorem dX2_isAtEndOfRail_21 : decode cX2_isAtEndOfRail 21 = .ok (.ireturn, 1) := by decide +kernel
theorem dX2_isAtEndOfRail_22 : decode cX2_isAtEndOfRail 22 = .ok (.aload_n 0, 1) := by decide +kernel
theorem dX2_isAtEndOfRail_23 : decode cX2_isAtEndOfRail 23 = .ok (.getfield 19, 3) := by decide +kernel
theorem dX2_isAtEndOfRail_26 : decode cX2_isAtEndOfRail 26 = .ok (.iconst 2, 1) := by decide +kernel
theorem dX2_isAtEndOfRail_27 : decode cX2_isAtEndOfRail 27 = .ok (.if_icmp .ne 14, 3) := by decide +kernel
theorem dX2_isAtEndOfRail_30 : decode cX2_isAtEndOfRail 30 = .ok (.aload_n 0, 1) := by decide +kernel
theorem dX2_isAtEndOfRail_31 : decode cX2_isAtEndOfRail 31 = .ok (.invokevirtual 42, 3) := by decide +kernel
theorem dX2_isAtEndOfRail_34 : decode cX2_isAtEndOfRail 34 = .ok (.ifCond .eq 7, 3) := by decide +kernel
theorem dX2_isAtEndOfRail_37 : decode cX2_isAtEndOfRail 37 = .ok (.iconst 1, 1) := by decide +kernel
theorem dX2_isAtEndOfRail_38 : decode cX2_isAtEndOfRail 38 = .ok (.goto 4, 3) := by decide +kernel
theorem dX2_isAtEndOfRail_41 : decode cX2_isAtEndOfRail 41 = .ok (.iconst 0, 1) := by decide +kernel
theorem dX2_isAtEndOfRail_42 : decode cX2_isAtEndOfRail 42 = .ok (.ireturn, 1) := by decide +kernel
theorem dX2_takeDigit_0 : decode cX2_takeDigit 0 = .ok (.aload_n 0, 1) := by decide +kernel
theorem dX2_takeDigit_1 : decode cX2_takeDigit 1 = .ok (.getfield 11, 3) := by decide +kernel
theorem dX2_takeDigit_4 : decode cX2_takeDigit 4 = .ok (.aload_n 0, 1) := by decide +kernel
theorem dX2_takeDigit_5 : decode cX2_takeDigit 5 = .ok (.getfield 19, 3) := by decide +kernel
theorem dX2_takeDigit_8 : decode cX2_takeDigit 8 = .ok (.iaload, 1) := by decide +kernel
theorem dX2_takeDigit_9 : decode cX2_takeDigit 9 = .ok (.bipush 10, 2) := by decide +kernel
theorem dX2_takeDigit_11 : decode cX2_takeDigit 11 = .ok (.imul, 1) := by decide +kernel
theorem dX2_takeDigit_12 : decode cX2_takeDigit 12 = .ok (.iload_n 1, 1) := by decide +kernel
theorem dX2_takeDigit_13 : decode cX2_takeDigit 13 = .ok (.iadd, 1) := by decide +kernel
theorem dX2_takeDigit_14 : decode cX2_takeDigit 14 = .ok (.istore_n 2, 1) := by decide +kernel
theorem dX2_takeDigit_15 : decode cX2_takeDigit 15 = .ok (.iload_n 2, 1) := by decide +kernel
theorem dX2_takeDigit_16 : decode cX2_takeDigit 16 = .ok (.ifCond .eq 15, 3) := by decide +kernel
theorem dX2_takeDigit_19 : decode cX2_takeDigit 19 = .ok (.iload_n 2, 1) := by decide +kernel
theorem dX2_takeDigit_20 : decode cX2_takeDigit 20 = .ok (.getstatic 45, 3) := by decide +kernel
theorem dX2_takeDigit_23 : decode cX2_takeDigit 23 = .ok (.aload_n 0, 1) := by decide +kernel
theorem dX2_takeDigit_24 : decode cX2_takeDigit 24 = .ok (.getfield 19, 3) := by decide +kernel
theorem dX2_takeDigit_27 : decode cX2_takeDigit 27 = .ok (.iaload, 1) := by decide +kernel
theorem dX2_takeDigit_28 : decode cX2_takeDigit 28 = .ok (.if_icmp .le 5, 3) := by decide +kernel
theorem dX2_takeDigit_31 : decode cX2_takeDigit 31 = .ok (.iconst 0, 1) := by decide +kernel
theorem dX2_takeDigit_32 : decode cX2_takeDigit 32 = .ok (.ireturn, 1) := by decide +kernel
theorem dX2_takeDigit_33 : decode cX2_takeDigit 33 = .ok (.aload_n 0, 1) := by decide +kernel
theorem dX2_takeDigit_34 : decode cX2_takeDigit 34 = .ok (.getfield 11, 3) := by decide +kernel
theorem dX2_takeDigit_37 : decode cX2_takeDigit 37 = .ok (.aload_n 0, 1) := by decide +kernel
theorem dX2_takeDigit_38 : decode cX2_takeDigit 38 = .ok (.getfield 19, 3) := by decide +kernel
theorem dX2_takeDigit_41 : decode cX2_takeDigit 41 = .ok (.iload_n 2, 1) := by decide +kernel
theorem dX2_takeDigit_42 : decode cX2_takeDigit 42 = .ok (.iastore, 1) := by decide +kernel
theorem dX2_takeDigit_43 : decode cX2_takeDigit 43 = .ok (.iconst 1, 1) := by decide +kernel
theorem dX2_takeDigit_44 : decode cX2_takeDigit 44 = .ok (.ireturn, 1) := by decide +kernel
theorem dX2_takeNeed_0 : decode cX2_takeNeed 0 = .ok (.iload_n 1, 1) := by decide +kernel
theorem dX2_takeNeed_1 : decode cX2_takeNeed 1 = .ok (.bipush 6, 2) := by decide +kernel
theorem dX2_takeNeed_3 : decode cX2_takeNeed 3 = .ok (.if_icmp .gt 11, 3) := by decide +kernel
theorem dX2_takeNeed_6 : decode cX2_takeNeed 6 = .ok (.iload_n 1, 1) := by decide +kernel
theorem dX2_takeNeed_7 : decode cX2_takeNeed 7 = .ok (.aload_n 0, 1) := by decide +kernel
theorem dX2_takeNeed_8 : decode cX2_takeNeed 8 = .ok (.getfield 22, 3) := by decide +kernel
theorem dX2_takeNeed_11 : decode cX2_takeNeed 11 = .ok (.if_icmp .gt 5, 3) := by decide +kernel
theorem dX2_takeNeed_14 : decode cX2_takeNeed 14 = .ok (.iconst 0, 1) := by decide +kernel
theorem dX2_takeNeed_15 : decode cX2_takeNeed 15 = .ok (.ireturn, 1) := by decide +kernel
theorem dX2_takeNeed_16 : decode cX2_takeNeed 16 = .ok (.aload_n 0, 1) := by decide +kernel
theorem dX2_takeNeed_17 : decode cX2_takeNeed 17 = .ok (.dup, 1) := by decide +kernel
theorem dX2_takeNeed_18 : decode cX2_takeNeed 18 = .ok (.getfield 15, 3) := by decide +kernel
theorem dX2_takeNeed_21 : decode cX2_takeNeed 21 = .ok (.iconst 1, 1) := by decide +kernel
theorem dX2_takeNeed_22 : decode cX2_takeNeed 22 = .ok (.iload_n 1, 1) := by decide +kernel
theorem dX2_takeNeed_23 : decode cX2_takeNeed 23 = .ok (.ishl, 1) := by decide +kernel
theorem dX2_takeNeed_24 : decode cX2_takeNeed 24 = .ok (.ior, 1) := by decide +kernel
theorem dX2_takeNeed_25 : decode cX2_takeNeed 25 = .ok (.putfield 15, 3) := by decide +kernel
theorem dX2_takeNeed_28 : decode cX2_takeNeed 28 = .ok (.aload_n 0, 1) := by decide +kernel
theorem dX2_takeNeed_29 : decode cX2_takeNeed 29 = .ok (.iload_n 1, 1) := by decide +kernel
theorem dX2_takeNeed_30 : decode cX2_takeNeed 30 = .ok (.putfield 22, 3) := by decide +kernel
theorem dX2_takeNeed_33 : decode cX2_takeNeed 33 = .ok (.iconst 1, 1) := by decide +kernel
theorem dX2_takeNeed_34 : decode cX2_takeNeed 34 = .ok (.ireturn, 1) := by decide +kernel
theorem dX2_takePart_0 : decode cX2_takePart 0 = .ok (.aload_n 0, 1) := by decide +kernel
theorem dX2_takePart_1 : decode cX2_takePart 1 = .ok (.invokevirtual 42, 3) := by decide +kernel
theorem dX2_takePart_4 : decode cX2_takePart 4 = .ok (.ifCond .ne 5, 3) := by decide +kernel
theorem dX2_takePart_7 : decode cX2_takePart 7 = .ok (.iconst 0, 1) := by decide +kernel
theorem dX2_takePart_8 : decode cX2_takePart 8 = .ok (.ireturn, 1) := by decide +kernel
theorem dX2_takePart_9 : decode cX2_takePart 9 = .ok (.aload_n 0, 1) := by decide +kernel
theorem dX2_takePart_10 : decode cX2_takePart 10 = .ok (.iload_n 1, 1) := by decide +kernel
theorem dX2_takePart_11 : decode cX2_takePart 11 = .ok (.putfield 19, 3) := by decide +kernel
theorem dX2_takePart_14 : decode cX2_takePart 14 = .ok (.iconst 1, 1) := by decide +kernel
theorem dX2_takePart_15 : decode cX2_takePart 15 = .ok (.ireturn, 1) := by decide +kernel
theorem dX2_isNumberComplete_0 : decode cX2_isNumberComplete 0 = .ok (.aload_n 0, 1) := by decide +kernel
theorem dX2_isNumberComplete_1 : decode cX2_isNumberComplete 1 = .ok (.getfield 11, 3) := by decide +kernel
theorem dX2_isNumberComplete_4 : decode cX2_isNumberComplete 4 = .ok (.aload_n 0, 1) := by decide +kernel
theorem dX2_isNumberComplete_5 : decode cX2_isNumberComplete 5 = .ok (.getfield 19, 3) := by decide +kernel
theorem dX2_isNumberComplete_8 : decode cX2_isNumberComplete 8 = .ok (.iaload, 1) := by decide +kernel
theorem dX2_isNumberComplete_9 : decode cX2_isNumberComplete 9 = .ok (.getstatic 48, 3) := by decide +kernel
theorem dX2_isNumberComplete_12 : decode cX2_isNumberComplete 12 = .ok (.aload_n 0, 1) := by decide +kernel
theorem dX2_isNumberComplete_13 : decode cX2_isNumberComplete 13 = .ok (.getfield 19, 3) := by decide +kernel
theorem dX2_isNumberComplete_16 : decode cX2_isNumberComplete 16 = .ok (.iaload, 1) := by decide +kernel
theorem dX2_isNumberComplete_17 : decode cX2_isNumberComplete 17 = .ok (.if_icmp .lt 7, 3) := by decide +kernel
theorem dX2_isNumberComplete_20 : decode cX2_isNumberComplete 20 = .ok (.iconst 1, 1) := by decide +kernel
theorem dX2_isNumberComplete_21 : decode cX2_isNumberComplete 21 = .ok (.goto 4, 3) := by decide +kernel
theorem dX2_isNumberComplete_24 : decode cX2_isNumberComplete 24 = .ok (.iconst 0, 1) := by decide +kernel
theorem dX2_isNumberComplete_25 : decode cX2_isNumberComplete 25 = .ok (.ireturn, 1) := by decide +kernel
theorem dX3_init_0 : decode cX3_init 0 = .ok (.aload_n 0, 1) := by decide +kernel
theorem dX3_init_1 : decode cX3_init 1 = .ok (.invokespecial 1, 3) := by decide +kernel
theorem dX3_init_4 : decode cX3_init 4 = .ok (.aload_n 0, 1) := by decide +kernel
theorem dX3_init_5 : decode cX3_init 5 = .ok (.new 7, 3) := by decide +kernel
theorem dX3_init_8 : decode cX3_init 8 = .ok (.dup, 1) := by decide +kernel
theorem dX3_init_9 : decode cX3_init 9 = .ok (.invokespecial 9, 3) := by decide +kernel
theorem dX3_init_12 : decode cX3_init 12 = .ok (.putfield 10, 3) := by decide +kernel
theorem dX3_init_15 : decode cX3_init 15 = .ok (.aload_n 0, 1) := by decide +kernel
theorem dX3_init_16 : decode cX3_init 16 = .ok (.new 7, 3) := by decide +kernel
theorem dX3_init_19 : decode cX3_init 19 = .ok (.dup, 1) := by decide +kernel
theorem dX3_init_20 : decode cX3_init 20 = .ok (.invokespecial 9, 3) := by decide +kernel
theorem dX3_init_23 : decode cX3_init 23 = .ok (.putfield 16, 3) := by decide +kernel
theorem dX3_init_26 : decode cX3_init 26 = .ok (.aload_n 0, 1) := by decide +kernel
theorem dX3_init_27 : decode cX3_init 27 = .ok (.bipush 6, 2) := by decide +kernel
theorem dX3_init_29 : decode cX3_init 29 = .ok (.anewarray 7, 3) := by decide +kernel
theorem dX3_init_32 : decode cX3_init 32 = .ok (.putfield 19, 3) := by decide +kernel
theorem dX3_init_35 : decode cX3_init 35 = .ok (.aload_n 0, 1) := by decide +kernel
theorem dX3_init_36 : decode cX3_init 36 = .ok (.bipush 60, 2) := by decide +kernel
theorem dX3_init_38 : decode cX3_init 38 = .ok (.newarray .int, 2) := by decide +kernel
theorem dX3_init_40 : decode cX3_init 40 = .ok (.putfield 23, 3) := by decide +kernel
theorem dX3_init_43 : decode cX3_init 43 = .ok (.aload_n 0, 1) := by decide +kernel
theorem dX3_init_44 : decode cX3_init 44 = .ok (.new 27, 3) := by decide +kernel
theorem dX3_init_47 : decode cX3_init 47 = .ok (.dup, 1) := by decide +kernel
theorem dX3_init_48 : decode cX3_init 48 = .ok (.invokespecial 29, 3) := by decide +kernel
theorem dX3_init_51 : decode cX3_init 51 = .ok (.putfield 30, 3) := by decide +kernel
theorem dX3_init_54 : decode cX3_init 54 = .ok (.iconst 0, 1) := by decide +kernel
theorem dX3_init_55 : decode cX3_init 55 = .ok (.istore_n 1, 1) := by decide +kernel
theorem dX3_init_56 : decode cX3_init 56 = .ok (.iload_n 1, 1) := by decide +kernel
theorem dX3_init_57 : decode cX3_init 57 = .ok (.bipush 6, 2) := by decide +kernel
theorem dX3_init_59 : decode cX3_init 59 = .ok (.if_icmp .ge 22, 3) := by decide +kernel
theorem dX3_init_62 : decode cX3_init 62 = .ok (.aload_n 0, 1) := by decide +kernel
theorem dX3_init_63 : decode cX3_init 63 = .ok (.getfield 19, 3) := by decide +kernel
theorem dX3_init_66 : decode cX3_init 66 = .ok (.iload_n 1, 1) := by decide +kernel
theorem dX3_init_67 : decode cX3_init 67 = .ok (.new 7, 3) := by decide +kernel
theorem dX3_init_70 : decode cX3_init 70 = .ok (.dup, 1) := by decide +kernel
theorem dX3_init_71 : decode cX3_init 71 = .ok (.invokespecial 9, 3) := by decide +kernel
theorem dX3_init_74 : decode cX3_init 74 = .ok (.aastore, 1) := by decide +kernel
theorem dX3_init_75 : decode cX3_init 75 = .ok (.iinc 1 1, 3) := by decide +kernel
theorem dX3_init_78 : decode cX3_init 78 = .ok (.goto (-22), 3) := by decide +kernel
theorem dX3_init_81 : decode cX3_init 81 = .ok (.return_, 1) := by decide +kernel
theorem dX3_addRail_0 : decode cX3_addRail 0 = .ok (.iconst 0, 1) := by decide +kernel
theorem dX3_addRail_1 : decode cX3_addRail 1 = .ok (.iload_n 1, 1) := by decide +kernel
theorem dX3_addRail_2 : decode cX3_addRail 2 = .ok (.invokestatic 34, 3) := by decide +kernel
theorem dX3_addRail_5 : decode cX3_addRail 5 = .ok (.ifCond .eq 19, 3) := by decide +kernel
theorem dX3_addRail_8 : decode cX3_addRail 8 = .ok (.iconst 1, 1) := by decide +kernel
theorem dX3_addRail_9 : decode cX3_addRail 9 = .ok (.iload_n 2, 1) := by decide +kernel
theorem dX3_addRail_10 : decode cX3_addRail 10 = .ok (.invokestatic 34, 3) := by decide +kernel
theorem dX3_addRail_13 : decode cX3_addRail 13 = .ok (.ifCond .eq 11, 3) := by decide +kernel
theorem dX3_addRail_16 : decode cX3_addRail 16 = .ok (.iconst 2, 1) := by decide +kernel
theorem dX3_addRail_17 : decode cX3_addRail 17 = .ok (.iload_n 3, 1) := by decide +kernel
theorem dX3_addRail_18 : decode cX3_addRail 18 = .ok (.invokestatic 34, 3) := by decide +kernel
theorem dX3_addRail_21 : decode cX3_addRail 21 = .ok (.ifCond .ne 13, 3) := by decide +kernel
theorem dX3_addRail_24 : decode cX3_addRail 24 = .ok (.new 38, 3) := by decide +kernel
theorem dX3_addRail_27 : decode cX3_addRail 27 = .ok (.dup, 1) := by decide +kernel
theorem dX3_addRail_28 : decode cX3_addRail 28 = .ok (.ldc 40, 2) := by decide +kernel
theorem dX3_addRail_30 : decode cX3_addRail 30 = .ok (.invokespecial 42, 3) := by decide +kernel
theorem dX3_addRail_33 : decode cX3_addRail 33 = .ok (.athrow, 1) := by decide +kernel
theorem dX3_addRail_34 : decode cX3_addRail 34 = .ok (.aload_n 0, 1) := by decide +kernel
theorem dX3_addRail_35 : decode cX3_addRail 35 = .ok (.iload 4, 2) := by decide +kernel
theorem dX3_addRail_37 : decode cX3_addRail 37 = .ok (.invokevirtual 45, 3) := by decide +kernel
theorem dX3_addRail_40 : decode cX3_addRail 40 = .ok (.ifCond .ne 13, 3) := by decide +kernel
theorem dX3_addRail_43 : decode cX3_addRail 43 = .ok (.new 38, 3) := by decide +kernel
theorem dX3_addRail_46 : decode cX3_addRail 46 = .ok (.dup, 1) := by decide +kernel
theorem dX3_addRail_47 : decode cX3_addRail 47 = .ok (.ldc 49, 2) := by decide +kernel
theorem dX3_addRail_49 : decode cX3_addRail 49 = .ok (.invokespecial 42, 3) := by decide +kernel
theorem dX3_addRail_52 : decode cX3_addRail 52 = .ok (.athrow, 1) := by decide +kernel
theorem dX3_addRail_53 : decode cX3_addRail 53 = .ok (.aload_n 0, 1) := by decide +kernel
theorem dX3_addRail_54 : decode cX3_addRail 54 = .ok (.getfield 10, 3) := by decide +kernel
theorem dX3_addRail_57 : decode cX3_addRail 57 = .ok (.getfield 51, 3) := by decide +kernel
theorem dX3_addRail_60 : decode cX3_addRail 60 = .ok (.bipush 8, 2) := by decide +kernel
theorem dX3_addRail_62 : decode cX3_addRail 62 = .ok (.if_icmp .lt 13, 3) := by decide +kernel
theorem dX3_addRail_65 : decode cX3_addRail 65 = .ok (.new 55, 3) := by decide +kernel
theorem dX3_addRail_68 : decode cX3_addRail 68 = .ok (.dup, 1) := by decide +kernel
theorem dX3_addRail_69 : decode cX3_addRail 69 = .ok (.ldc 57, 2) := by decide +kernel
theorem dX3_addRail_71 : decode cX3_addRail 71 = .ok (.invokespecial 59, 3) := by decide +kernel
theorem dX3_addRail_74 : decode cX3_addRail 74 = .ok (.athrow, 1) := by decide +kernel
theorem dX3_addRail_75 : decode cX3_addRail 75 = .ok (.aload_n 0, 1) := by decide +kernel
theorem dX3_addRail_76 : decode cX3_addRail 76 = .ok (.invokevirtual 60, 3) := by decide +kernel
theorem dX3_addRail_79 : decode cX3_addRail 79 = .ok (.aload_n 0, 1) := by decide +kernel
theorem dX3_addRail_80 : decode cX3_addRail 80 = .ok (.getfield 10, 3) := by decide +kernel
theorem dX3_addRail_83 : decode cX3_addRail 83 = .ok (.iload_n 1, 1) := by decide +kernel
theorem dX3_addRail_84 : decode cX3_addRail 84 = .ok (.iload_n 2, 1) := by decide +kernel
theorem dX3_addRail_85 : decode cX3_addRail 85 = .ok (.iload_n 3, 1) := by decide +kernel
theorem dX3_addRail_86 : decode cX3_addRail 86 = .ok (.iload 4, 2) := by decide +kernel
theorem dX3_addRail_88 : decode cX3_addRail 88 = .ok (.invokevirtual 63, 3) := by decide +kernel
theorem dX3_addRail_91 : decode cX3_addRail 91 = .ok (.aload_n 0, 1) := by decide +kernel
theorem dX3_addRail_92 : decode cX3_addRail 92 = .ok (.getfield 10, 3) := by decide +kernel
theorem dX3_addRail_95 : decode cX3_addRail 95 = .ok (.getfield 51, 3) := by decide +kernel
theorem dX3_addRail_98 : decode cX3_addRail 98 = .ok (.iconst 1, 1) := by decide +kernel
theorem dX3_addRail_99 : decode cX3_addRail 99 = .ok (.isub, 1) := by decide +kernel
theorem dX3_addRail_100 : decode cX3_addRail 100 = .ok (.ireturn, 1) := by decide +kernel
theorem dX3_set_0 : decode cX3_set 0 = .ok (.aload_n 0, 1) := by decide +kernel
theorem dX3_set_1 : decode cX3_set 1 = .ok (.iload_n 1, 1) := by decide +kernel
theorem dX3_set_2 : decode cX3_set 2 = .ok (.invokevirtual 67, 3) := by decide +kernel
theorem dX3_set_5 : decode cX3_set 5 = .ok (.ifCond .eq 13, 3) := by decide +kernel
theorem dX3_set_8 : decode cX3_set 8 = .ok (.iload_n 2, 1) := by decide +kernel
theorem dX3_set_9 : decode cX3_set 9 = .ok (.ifCond .lt 9, 3) := by decide +kernel
theorem dX3_set_12 : decode cX3_set 12 = .ok (.iload_n 2, 1) := by decide +kernel
end
section
theorem dX3_set_13 : decode cX3_set 13 = .ok (.bipush 7, 2) := by decide +kernel
theorem dX3_set_15 : decode cX3_set 15 = .ok (.if_icmp .lt 13, 3) := by decide +kernel
theorem dX3_set_18 : decode cX3_set 18 = .ok (.new 70, 3) := by decide +kernel
theorem dX3_set_21 : decode cX3_set 21 = .ok (.dup, 1) := by decide +kernel
theorem dX3_set_22 : decode cX3_set 22 = .ok (.ldc 72, 2) := by decide +kernel
theorem dX3_set_24 : decode cX3_set 24 = .ok (.invokespecial 74, 3) := by decide +kernel
theorem dX3_set_27 : decode cX3_set 27 = .ok (.athrow, 1) := by decide +kernel
theorem dX3_set_28 : decode cX3_set 28 = .ok (.iload_n 2, 1) := by decide +kernel
theorem dX3_set_29 : decode cX3_set 29 = .ok (.iload_n 3, 1) := by decide +kernel
theorem dX3_set_30 : decode cX3_set 30 = .ok (.invokestatic 34, 3) := by decide +kernel
theorem dX3_set_33 : decode cX3_set 33 = .ok (.ifCond .ne 13, 3) := by decide +kernel
theorem dX3_set_36 : decode cX3_set 36 = .ok (.new 38, 3) := by decide +kernel
theorem dX3_set_39 : decode cX3_set 39 = .ok (.dup, 1) := by decide +kernel
theorem dX3_set_40 : decode cX3_set 40 = .ok (.ldc 75, 2) := by decide +kernel
theorem dX3_set_42 : decode cX3_set 42 = .ok (.invokespecial 42, 3) := by decide +kernel
theorem dX3_set_45 : decode cX3_set 45 = .ok (.athrow, 1) := by decide +kernel
theorem dX3_set_46 : decode cX3_set 46 = .ok (.aload_n 0, 1) := by decide +kernel
theorem dX3_set_47 : decode cX3_set 47 = .ok (.invokevirtual 60, 3) := by decide +kernel
theorem dX3_set_50 : decode cX3_set 50 = .ok (.aload_n 0, 1) := by decide +kernel
theorem dX3_set_51 : decode cX3_set 51 = .ok (.getfield 10, 3) := by decide +kernel
theorem dX3_set_54 : decode cX3_set 54 = .ok (.iload_n 1, 1) := by decide +kernel
theorem dX3_set_55 : decode cX3_set 55 = .ok (.iload_n 2, 1) := by decide +kernel
theorem dX3_set_56 : decode cX3_set 56 = .ok (.invokevirtual 77, 3) := by decide +kernel
theorem dX3_set_59 : decode cX3_set 59 = .ok (.istore 4, 2) := by decide +kernel
theorem dX3_set_61 : decode cX3_set 61 = .ok (.aload_n 0, 1) := by decide +kernel
theorem dX3_set_62 : decode cX3_set 62 = .ok (.getfield 10, 3) := by decide +kernel
theorem dX3_set_65 : decode cX3_set 65 = .ok (.getfield 81, 3) := by decide +kernel
theorem dX3_set_68 : decode cX3_set 68 = .ok (.iload_n 1, 1) := by decide +kernel
theorem dX3_set_69 : decode cX3_set 69 = .ok (.bipush 7, 2) := by decide +kernel
theorem dX3_set_71 : decode cX3_set 71 = .ok (.imul, 1) := by decide +kernel
theorem dX3_set_72 : decode cX3_set 72 = .ok (.iload_n 2, 1) := by decide +kernel
theorem dX3_set_73 : decode cX3_set 73 = .ok (.iadd, 1) := by decide +kernel
theorem dX3_set_74 : decode cX3_set 74 = .ok (.iload_n 3, 1) := by decide +kernel
theorem dX3_set_75 : decode cX3_set 75 = .ok (.iastore, 1) := by decide +kernel
theorem dX3_set_76 : decode cX3_set 76 = .ok (.iload 4, 2) := by decide +kernel
theorem dX3_set_78 : decode cX3_set 78 = .ok (.ireturn, 1) := by decide +kernel
theorem dX3_setNeeds_0 : decode cX3_setNeeds 0 = .ok (.aload_n 0, 1) := by decide +kernel
theorem dX3_setNeeds_1 : decode cX3_setNeeds 1 = .ok (.iload_n 1, 1) := by decide +kernel
theorem dX3_setNeeds_2 : decode cX3_setNeeds 2 = .ok (.invokevirtual 67, 3) := by decide +kernel
theorem dX3_setNeeds_5 : decode cX3_setNeeds 5 = .ok (.ifCond .ne 13, 3) := by decide +kernel
theorem dX3_setNeeds_8 : decode cX3_setNeeds 8 = .ok (.new 70, 3) := by decide +kernel
theorem dX3_setNeeds_11 : decode cX3_setNeeds 11 = .ok (.dup, 1) := by decide +kernel
theorem dX3_setNeeds_12 : decode cX3_setNeeds 12 = .ok (.ldc 84, 2) := by decide +kernel
theorem dX3_setNeeds_14 : decode cX3_setNeeds 14 = .ok (.invokespecial 74, 3) := by decide +kernel
theorem dX3_setNeeds_17 : decode cX3_setNeeds 17 = .ok (.athrow, 1) := by decide +kernel
theorem dX3_setNeeds_18 : decode cX3_setNeeds 18 = .ok (.iload_n 1, 1) := by decide +kernel
theorem dX3_setNeeds_19 : decode cX3_setNeeds 19 = .ok (.iload_n 2, 1) := by decide +kernel
theorem dX3_setNeeds_20 : decode cX3_setNeeds 20 = .ok (.invokestatic 86, 3) := by decide +kernel
theorem dX3_setNeeds_23 : decode cX3_setNeeds 23 = .ok (.ifCond .ne 13, 3) := by decide +kernel
theorem dX3_setNeeds_26 : decode cX3_setNeeds 26 = .ok (.new 38, 3) := by decide +kernel
theorem dX3_setNeeds_29 : decode cX3_setNeeds 29 = .ok (.dup, 1) := by decide +kernel
theorem dX3_setNeeds_30 : decode cX3_setNeeds 30 = .ok (.ldc 89, 2) := by decide +kernel
theorem dX3_setNeeds_32 : decode cX3_setNeeds 32 = .ok (.invokespecial 42, 3) := by decide +kernel
theorem dX3_setNeeds_35 : decode cX3_setNeeds 35 = .ok (.athrow, 1) := by decide +kernel
theorem dX3_setNeeds_36 : decode cX3_setNeeds 36 = .ok (.aload_n 0, 1) := by decide +kernel
theorem dX3_setNeeds_37 : decode cX3_setNeeds 37 = .ok (.getfield 10, 3) := by decide +kernel
theorem dX3_setNeeds_40 : decode cX3_setNeeds 40 = .ok (.getfield 91, 3) := by decide +kernel
theorem dX3_setNeeds_43 : decode cX3_setNeeds 43 = .ok (.iload_n 1, 1) := by decide +kernel
theorem dX3_setNeeds_44 : decode cX3_setNeeds 44 = .ok (.iaload, 1) := by decide +kernel
theorem dX3_setNeeds_45 : decode cX3_setNeeds 45 = .ok (.ifCond .eq 26, 3) := by decide +kernel
theorem dX3_setNeeds_48 : decode cX3_setNeeds 48 = .ok (.aload_n 0, 1) := by decide +kernel
theorem dX3_setNeeds_49 : decode cX3_setNeeds 49 = .ok (.getfield 10, 3) := by decide +kernel
theorem dX3_setNeeds_52 : decode cX3_setNeeds 52 = .ok (.getfield 91, 3) := by decide +kernel
theorem dX3_setNeeds_55 : decode cX3_setNeeds 55 = .ok (.iload_n 1, 1) := by decide +kernel
theorem dX3_setNeeds_56 : decode cX3_setNeeds 56 = .ok (.iaload, 1) := by decide +kernel
theorem dX3_setNeeds_57 : decode cX3_setNeeds 57 = .ok (.iconst 5, 1) := by decide +kernel
theorem dX3_setNeeds_58 : decode cX3_setNeeds 58 = .ok (.if_icmp .eq 13, 3) := by decide +kernel
theorem dX3_setNeeds_61 : decode cX3_setNeeds 61 = .ok (.new 55, 3) := by decide +kernel
theorem dX3_setNeeds_64 : decode cX3_setNeeds 64 = .ok (.dup, 1) := by decide +kernel
theorem dX3_setNeeds_65 : decode cX3_setNeeds 65 = .ok (.ldc 94, 2) := by decide +kernel
theorem dX3_setNeeds_67 : decode cX3_setNeeds 67 = .ok (.invokespecial 59, 3) := by decide +kernel
theorem dX3_setNeeds_70 : decode cX3_setNeeds 70 = .ok (.athrow, 1) := by decide +kernel
theorem dX3_setNeeds_71 : decode cX3_setNeeds 71 = .ok (.aload_n 0, 1) := by decide +kernel
theorem dX3_setNeeds_72 : decode cX3_setNeeds 72 = .ok (.invokevirtual 60, 3) := by decide +kernel
theorem dX3_setNeeds_75 : decode cX3_setNeeds 75 = .ok (.aload_n 0, 1) := by decide +kernel
theorem dX3_setNeeds_76 : decode cX3_setNeeds 76 = .ok (.getfield 10, 3) := by decide +kernel
theorem dX3_setNeeds_79 : decode cX3_setNeeds 79 = .ok (.getfield 96, 3) := by decide +kernel
theorem dX3_setNeeds_82 : decode cX3_setNeeds 82 = .ok (.iload_n 1, 1) := by decide +kernel
theorem dX3_setNeeds_83 : decode cX3_setNeeds 83 = .ok (.iaload, 1) := by decide +kernel
theorem dX3_setNeeds_84 : decode cX3_setNeeds 84 = .ok (.istore_n 3, 1) := by decide +kernel
theorem dX3_setNeeds_85 : decode cX3_setNeeds 85 = .ok (.aload_n 0, 1) := by decide +kernel
theorem dX3_setNeeds_86 : decode cX3_setNeeds 86 = .ok (.getfield 10, 3) := by decide +kernel
theorem dX3_setNeeds_89 : decode cX3_setNeeds 89 = .ok (.getfield 96, 3) := by decide +kernel
theorem dX3_setNeeds_92 : decode cX3_setNeeds 92 = .ok (.iload_n 1, 1) := by decide +kernel
theorem dX3_setNeeds_93 : decode cX3_setNeeds 93 = .ok (.iload_n 2, 1) := by decide +kernel
theorem dX3_setNeeds_94 : decode cX3_setNeeds 94 = .ok (.iastore, 1) := by decide +kernel
theorem dX3_setNeeds_95 : decode cX3_setNeeds 95 = .ok (.iload_n 3, 1) := by decide +kernel
theorem dX3_setNeeds_96 : decode cX3_setNeeds 96 = .ok (.ireturn, 1) := by decide +kernel
theorem dX3_setResidue_0 : decode cX3_setResidue 0 = .ok (.iload_n 1, 1) := by decide +kernel
theorem dX3_setResidue_1 : decode cX3_setResidue 1 = .ok (.ifCond .lt 10, 3) := by decide +kernel
theorem dX3_setResidue_4 : decode cX3_setResidue 4 = .ok (.iload_n 1, 1) := by decide +kernel
theorem dX3_setResidue_5 : decode cX3_setResidue 5 = .ok (.sipush 500, 3) := by decide +kernel
theorem dX3_setResidue_8 : decode cX3_setResidue 8 = .ok (.if_icmp .le 13, 3) := by decide +kernel
theorem dX3_setResidue_11 : decode cX3_setResidue 11 = .ok (.new 38, 3) := by decide +kernel
theorem dX3_setResidue_14 : decode cX3_setResidue 14 = .ok (.dup, 1) := by decide +kernel
theorem dX3_setResidue_15 : decode cX3_setResidue 15 = .ok (.ldc 99, 2) := by decide +kernel
theorem dX3_setResidue_17 : decode cX3_setResidue 17 = .ok (.invokespecial 42, 3) := by decide +kernel
theorem dX3_setResidue_20 : decode cX3_setResidue 20 = .ok (.athrow, 1) := by decide +kernel
theorem dX3_setResidue_21 : decode cX3_setResidue 21 = .ok (.aload_n 0, 1) := by decide +kernel
theorem dX3_setResidue_22 : decode cX3_setResidue 22 = .ok (.invokevirtual 60, 3) := by decide +kernel
theorem dX3_setResidue_25 : decode cX3_setResidue 25 = .ok (.aload_n 0, 1) := by decide +kernel
theorem dX3_setResidue_26 : decode cX3_setResidue 26 = .ok (.getfield 10, 3) := by decide +kernel
theorem dX3_setResidue_29 : decode cX3_setResidue 29 = .ok (.getfield 101, 3) := by decide +kernel
theorem dX3_setResidue_32 : decode cX3_setResidue 32 = .ok (.istore_n 2, 1) := by decide +kernel
theorem dX3_setResidue_33 : decode cX3_setResidue 33 = .ok (.aload_n 0, 1) := by decide +kernel
theorem dX3_setResidue_34 : decode cX3_setResidue 34 = .ok (.getfield 10, 3) := by decide +kernel
theorem dX3_setResidue_37 : decode cX3_setResidue 37 = .ok (.iload_n 1, 1) := by decide +kernel
theorem dX3_setResidue_38 : decode cX3_setResidue 38 = .ok (.putfield 101, 3) := by decide +kernel
theorem dX3_setResidue_41 : decode cX3_setResidue 41 = .ok (.iload_n 2, 1) := by decide +kernel
theorem dX3_setResidue_42 : decode cX3_setResidue 42 = .ok (.ireturn, 1) := by decide +kernel
theorem dX3_on_0 : decode cX3_on 0 = .ok (.aload_n 0, 1) := by decide +kernel
theorem dX3_on_1 : decode cX3_on 1 = .ok (.iload_n 1, 1) := by decide +kernel
theorem dX3_on_2 : decode cX3_on 2 = .ok (.invokevirtual 45, 3) := by decide +kernel
theorem dX3_on_5 : decode cX3_on 5 = .ok (.ifCond .ne 13, 3) := by decide +kernel
theorem dX3_on_8 : decode cX3_on 8 = .ok (.new 38, 3) := by decide +kernel
theorem dX3_on_11 : decode cX3_on 11 = .ok (.dup, 1) := by decide +kernel
theorem dX3_on_12 : decode cX3_on 12 = .ok (.ldc 104, 2) := by decide +kernel
theorem dX3_on_14 : decode cX3_on 14 = .ok (.invokespecial 42, 3) := by decide +kernel
theorem dX3_on_17 : decode cX3_on 17 = .ok (.athrow, 1) := by decide +kernel
theorem dX3_on_18 : decode cX3_on 18 = .ok (.aload_n 0, 1) := by decide +kernel
theorem dX3_on_19 : decode cX3_on 19 = .ok (.invokevirtual 60, 3) := by decide +kernel
theorem dX3_on_22 : decode cX3_on 22 = .ok (.aload_n 0, 1) := by decide +kernel
theorem dX3_on_23 : decode cX3_on 23 = .ok (.getfield 10, 3) := by decide +kernel
theorem dX3_on_26 : decode cX3_on 26 = .ok (.dup, 1) := by decide +kernel
theorem dX3_on_27 : decode cX3_on 27 = .ok (.getfield 106, 3) := by decide +kernel
theorem dX3_on_30 : decode cX3_on 30 = .ok (.aload_n 0, 1) := by decide +kernel
theorem dX3_on_31 : decode cX3_on 31 = .ok (.getfield 10, 3) := by decide +kernel
theorem dX3_on_34 : decode cX3_on 34 = .ok (.iload_n 1, 1) := by decide +kernel
theorem dX3_on_35 : decode cX3_on 35 = .ok (.invokevirtual 109, 3) := by decide +kernel
theorem dX3_on_38 : decode cX3_on 38 = .ok (.ior, 1) := by decide +kernel
theorem dX3_on_39 : decode cX3_on 39 = .ok (.putfield 106, 3) := by decide +kernel
theorem dX3_on_42 : decode cX3_on 42 = .ok (.aload_n 0, 1) := by decide +kernel
theorem dX3_on_43 : decode cX3_on 43 = .ok (.getfield 10, 3) := by decide +kernel
theorem dX3_on_46 : decode cX3_on 46 = .ok (.getfield 106, 3) := by decide +kernel
theorem dX3_on_49 : decode cX3_on 49 = .ok (.ireturn, 1) := by decide +kernel
theorem dX3_off_0 : decode cX3_off 0 = .ok (.aload_n 0, 1) := by decide +kernel
theorem dX3_off_1 : decode cX3_off 1 = .ok (.iload_n 1, 1) := by decide +kernel
theorem dX3_off_2 : decode cX3_off 2 = .ok (.invokevirtual 45, 3) := by decide +kernel
theorem dX3_off_5 : decode cX3_off 5 = .ok (.ifCond .ne 13, 3) := by decide +kernel
theorem dX3_off_8 : decode cX3_off 8 = .ok (.new 38, 3) := by decide +kernel
theorem dX3_off_11 : decode cX3_off 11 = .ok (.dup, 1) := by decide +kernel
theorem dX3_off_12 : decode cX3_off 12 = .ok (.ldc 104, 2) := by decide +kernel
theorem dX3_off_14 : decode cX3_off 14 = .ok (.invokespecial 42, 3) := by decide +kernel
theorem dX3_off_17 : decode cX3_off 17 = .ok (.athrow, 1) := by decide +kernel
theorem dX3_off_18 : decode cX3_off 18 = .ok (.aload_n 0, 1) := by decide +kernel
theorem dX3_off_19 : decode cX3_off 19 = .ok (.invokevirtual 60, 3) := by decide +kernel
theorem dX3_off_22 : decode cX3_off 22 = .ok (.aload_n 0, 1) := by decide +kernel
theorem dX3_off_23 : decode cX3_off 23 = .ok (.getfield 10, 3) := by decide +kernel
theorem dX3_off_26 : decode cX3_off 26 = .ok (.dup, 1) := by decide +kernel
theorem dX3_off_27 : decode cX3_off 27 = .ok (.getfield 106, 3) := by decide +kernel
theorem dX3_off_30 : decode cX3_off 30 = .ok (.aload_n 0, 1) := by decide +kernel
theorem dX3_off_31 : decode cX3_off 31 = .ok (.getfield 10, 3) := by decide +kernel
theorem dX3_off_34 : decode cX3_off 34 = .ok (.iload_n 1, 1) := by decide +kernel
theorem dX3_off_35 : decode cX3_off 35 = .ok (.invokevirtual 113, 3) := by decide +kernel
theorem dX3_off_38 : decode cX3_off 38 = .ok (.iconst (-1), 1) := by decide +kernel
theorem dX3_off_39 : decode cX3_off 39 = .ok (.ixor, 1) := by decide +kernel
theorem dX3_off_40 : decode cX3_off 40 = .ok (.iand, 1) := by decide +kernel
theorem dX3_off_41 : decode cX3_off 41 = .ok (.putfield 106, 3) := by decide +kernel
theorem dX3_off_44 : decode cX3_off 44 = .ok (.aload_n 0, 1) := by decide +kernel
theorem dX3_off_45 : decode cX3_off 45 = .ok (.getfield 10, 3) := by decide +kernel
theorem dX3_off_48 : decode cX3_off 48 = .ok (.getfield 106, 3) := by decide +kernel
theorem dX3_off_51 : decode cX3_off 51 = .ok (.ireturn, 1) := by decide +kernel
theorem dX3_restart_0 : decode cX3_restart 0 = .ok (.aload_n 0, 1) := by decide +kernel
theorem dX3_restart_1 : decode cX3_restart 1 = .ok (.iload_n 1, 1) := by decide +kernel
theorem dX3_restart_2 : decode cX3_restart 2 = .ok (.invokevirtual 67, 3) := by decide +kernel
theorem dX3_restart_5 : decode cX3_restart 5 = .ok (.ifCond .ne 13, 3) := by decide +kernel
theorem dX3_restart_8 : decode cX3_restart 8 = .ok (.new 70, 3) := by decide +kernel
theorem dX3_restart_11 : decode cX3_restart 11 = .ok (.dup, 1) := by decide +kernel
theorem dX3_restart_12 : decode cX3_restart 12 = .ok (.ldc 84, 2) := by decide +kernel
theorem dX3_restart_14 : decode cX3_restart 14 = .ok (.invokespecial 74, 3) := by decide +kernel
theorem dX3_restart_17 : decode cX3_restart 17 = .ok (.athrow, 1) := by decide +kernel
theorem dX3_restart_18 : decode cX3_restart 18 = .ok (.aload_n 0, 1) := by decide +kernel
theorem dX3_restart_19 : decode cX3_restart 19 = .ok (.getfield 10, 3) := by decide +kernel
theorem dX3_restart_22 : decode cX3_restart 22 = .ok (.iload_n 1, 1) := by decide +kernel
theorem dX3_restart_23 : decode cX3_restart 23 = .ok (.invokevirtual 116, 3) := by decide +kernel
theorem dX3_restart_26 : decode cX3_restart 26 = .ok (.ifCond .ne 13, 3) := by decide +kernel
theorem dX3_restart_29 : decode cX3_restart 29 = .ok (.new 55, 3) := by decide +kernel
theorem dX3_restart_32 : decode cX3_restart 32 = .ok (.dup, 1) := by decide +kernel
theorem dX3_restart_33 : decode cX3_restart 33 = .ok (.ldc 119, 2) := by decide +kernel
theorem dX3_restart_35 : decode cX3_restart 35 = .ok (.invokespecial 59, 3) := by decide +kernel
theorem dX3_restart_38 : decode cX3_restart 38 = .ok (.athrow, 1) := by decide +kernel
theorem dX3_restart_39 : decode cX3_restart 39 = .ok (.aload_n 0, 1) := by decide +kernel
theorem dX3_restart_40 : decode cX3_restart 40 = .ok (.invokevirtual 60, 3) := by decide +kernel
theorem dX3_restart_43 : decode cX3_restart 43 = .ok (.aload_n 0, 1) := by decide +kernel
theorem dX3_restart_44 : decode cX3_restart 44 = .ok (.getfield 10, 3) := by decide +kernel
theorem dX3_restart_47 : decode cX3_restart 47 = .ok (.iload_n 1, 1) := by decide +kernel
theorem dX3_restart_48 : decode cX3_restart 48 = .ok (.invokevirtual 121, 3) := by decide +kernel
theorem dX3_restart_51 : decode cX3_restart 51 = .ok (.ireturn, 1) := by decide +kernel
theorem dX3_shortCircuit_0 : decode cX3_shortCircuit 0 = .ok (.aload_n 0, 1) := by decide +kernel
theorem dX3_shortCircuit_1 : decode cX3_shortCircuit 1 = .ok (.iload_n 1, 1) := by decide +kernel
theorem dX3_shortCircuit_2 : decode cX3_shortCircuit 2 = .ok (.invokevirtual 67, 3) := by decide +kernel
theorem dX3_shortCircuit_5 : decode cX3_shortCircuit 5 = .ok (.ifCond .ne 13, 3) := by decide +kernel
theorem dX3_shortCircuit_8 : decode cX3_shortCircuit 8 = .ok (.new 70, 3) := by decide +kernel
theorem dX3_shortCircuit_11 : decode cX3_shortCircuit 11 = .ok (.dup, 1) := by decide +kernel
theorem dX3_shortCircuit_12 : decode cX3_shortCircuit 12 = .ok (.ldc 84, 2) := by decide +kernel
theorem dX3_shortCircuit_14 : decode cX3_shortCircuit 14 = .ok (.invokespecial 74, 3) := by decide +kernel
theorem dX3_shortCircuit_17 : decode cX3_shortCircuit 17 = .ok (.athrow, 1) := by decide +kernel
theorem dX3_shortCircuit_18 : decode cX3_shortCircuit 18 = .ok (.iload_n 2, 1) := by decide +kernel
theorem dX3_shortCircuit_19 : decode cX3_shortCircuit 19 = .ok (.ifCond .lt 10, 3) := by decide +kernel
theorem dX3_shortCircuit_22 : decode cX3_shortCircuit 22 = .ok (.iload_n 2, 1) := by decide +kernel
theorem dX3_shortCircuit_23 : decode cX3_shortCircuit 23 = .ok (.sipush 500, 3) := by decide +kernel
theorem dX3_shortCircuit_26 : decode cX3_shortCircuit 26 = .ok (.if_icmp .le 13, 3) := by decide +kernel
theorem dX3_shortCircuit_29 : decode cX3_shortCircuit 29 = .ok (.new 38, 3) := by decide +kernel
theorem dX3_shortCircuit_32 : decode cX3_shortCircuit 32 = .ok (.dup, 1) := by decide +kernel
theorem dX3_shortCircuit_33 : decode cX3_shortCircuit 33 = .ok (.ldc 124, 2) := by decide +kernel
theorem dX3_shortCircuit_35 : decode cX3_shortCircuit 35 = .ok (.invokespecial 42, 3) := by decide +kernel
theorem dX3_shortCircuit_38 : decode cX3_shortCircuit 38 = .ok (.athrow, 1) := by decide +kernel
theorem dX3_shortCircuit_39 : decode cX3_shortCircuit 39 = .ok (.aload_n 0, 1) := by decide +kernel
theorem dX3_shortCircuit_40 : decode cX3_shortCircuit 40 = .ok (.invokevirtual 60, 3) := by decide +kernel
theorem dX3_shortCircuit_43 : decode cX3_shortCircuit 43 = .ok (.aload_n 0, 1) := by decide +kernel
theorem dX3_shortCircuit_44 : decode cX3_shortCircuit 44 = .ok (.getfield 10, 3) := by decide +kernel
theorem dX3_shortCircuit_47 : decode cX3_shortCircuit 47 = .ok (.getfield 126, 3) := by decide +kernel
theorem dX3_shortCircuit_50 : decode cX3_shortCircuit 50 = .ok (.iload_n 1, 1) := by decide +kernel
theorem dX3_shortCircuit_51 : decode cX3_shortCircuit 51 = .ok (.iaload, 1) := by decide +kernel
theorem dX3_shortCircuit_52 : decode cX3_shortCircuit 52 = .ok (.istore_n 3, 1) := by decide +kernel
theorem dX3_shortCircuit_53 : decode cX3_shortCircuit 53 = .ok (.aload_n 0, 1) := by decide +kernel
theorem dX3_shortCircuit_54 : decode cX3_shortCircuit 54 = .ok (.getfield 10, 3) := by decide +kernel
theorem dX3_shortCircuit_57 : decode cX3_shortCircuit 57 = .ok (.getfield 126, 3) := by decide +kernel
theorem dX3_shortCircuit_60 : decode cX3_shortCircuit 60 = .ok (.iload_n 1, 1) := by decide +kernel
theorem dX3_shortCircuit_61 : decode cX3_shortCircuit 61 = .ok (.iload_n 2, 1) := by decide +kernel
theorem dX3_shortCircuit_62 : decode cX3_shortCircuit 62 = .ok (.iastore, 1) := by decide +kernel
theorem dX3_shortCircuit_63 : decode cX3_shortCircuit 63 = .ok (.iload_n 3, 1) := by decide +kernel
theorem dX3_shortCircuit_64 : decode cX3_shortCircuit 64 = .ok (.ireturn, 1) := by decide +kernel
theorem dX3_stick_0 : decode cX3_stick 0 = .ok (.aload_n 0, 1) := by decide +kernel
theorem dX3_stick_1 : decode cX3_stick 1 = .ok (.iload_n 1, 1) := by decide +kernel
theorem dX3_stick_2 : decode cX3_stick 2 = .ok (.invokevirtual 67, 3) := by decide +kernel
theorem dX3_stick_5 : decode cX3_stick 5 = .ok (.ifCond .ne 13, 3) := by decide +kernel
theorem dX3_stick_8 : decode cX3_stick 8 = .ok (.new 70, 3) := by decide +kernel
theorem dX3_stick_11 : decode cX3_stick 11 = .ok (.dup, 1) := by decide +kernel
theorem dX3_stick_12 : decode cX3_stick 12 = .ok (.ldc 84, 2) := by decide +kernel
theorem dX3_stick_14 : decode cX3_stick 14 = .ok (.invokespecial 74, 3) := by decide +kernel
theorem dX3_stick_17 : decode cX3_stick 17 = .ok (.athrow, 1) := by decide +kernel
theorem dX3_stick_18 : decode cX3_stick 18 = .ok (.iload_n 2, 1) := by decide +kernel
theorem dX3_stick_19 : decode cX3_stick 19 = .ok (.ifCond .lt 8, 3) := by decide +kernel
theorem dX3_stick_22 : decode cX3_stick 22 = .ok (.iload_n 2, 1) := by decide +kernel
theorem dX3_stick_23 : decode cX3_stick 23 = .ok (.iconst 2, 1) := by decide +kernel
theorem dX3_stick_24 : decode cX3_stick 24 = .ok (.if_icmp .le 13, 3) := by decide +kernel
theorem dX3_stick_27 : decode cX3_stick 27 = .ok (.new 38, 3) := by decide +kernel
theorem dX3_stick_30 : decode cX3_stick 30 = .ok (.dup, 1) := by decide +kernel
theorem dX3_stick_31 : decode cX3_stick 31 = .ok (.ldc 129, 2) := by decide +kernel
theorem dX3_stick_33 : decode cX3_stick 33 = .ok (.invokespecial 42, 3) := by decide +kernel
theorem dX3_stick_36 : decode cX3_stick 36 = .ok (.athrow, 1) := by decide +kernel
theorem dX3_stick_37 : decode cX3_stick 37 = .ok (.aload_n 0, 1) := by decide +kernel
theorem dX3_stick_38 : decode cX3_stick 38 = .ok (.invokevirtual 60, 3) := by decide +kernel
theorem dX3_stick_41 : decode cX3_stick 41 = .ok (.aload_n 0, 1) := by decide +kernel
theorem dX3_stick_42 : decode cX3_stick 42 = .ok (.getfield 10, 3) := by decide +kernel
theorem dX3_stick_45 : decode cX3_stick 45 = .ok (.getfield 131, 3) := by decide +kernel
theorem dX3_stick_48 : decode cX3_stick 48 = .ok (.iload_n 1, 1) := by decide +kernel
theorem dX3_stick_49 : decode cX3_stick 49 = .ok (.iaload, 1) := by decide +kernel
theorem dX3_stick_50 : decode cX3_stick 50 = .ok (.istore_n 3, 1) := by decide +kernel
theorem dX3_stick_51 : decode cX3_stick 51 = .ok (.aload_n 0, 1) := by decide +kernel
theorem dX3_stick_52 : decode cX3_stick 52 = .ok (.getfield 10, 3) := by decide +kernel
theorem dX3_stick_55 : decode cX3_stick 55 = .ok (.getfield 131, 3) := by decide +kernel
theorem dX3_stick_58 : decode cX3_stick 58 = .ok (.iload_n 1, 1) := by decide +kernel
theorem dX3_stick_59 : decode cX3_stick 59 = .ok (.iload_n 2, 1) := by decide +kernel
theorem dX3_stick_60 : decode cX3_stick 60 = .ok (.iastore, 1) := by decide +kernel
theorem dX3_stick_61 : decode cX3_stick 61 = .ok (.iload_n 3, 1) := by decide +kernel
theorem dX3_stick_62 : decode cX3_stick 62 = .ok (.ireturn, 1) := by decide +kernel
theorem dX3_tick_0 : decode cX3_tick 0 = .ok (.iload_n 1, 1) := by decide +kernel
theorem dX3_tick_1 : decode cX3_tick 1 = .ok (.iconst 1, 1) := by decide +kernel
theorem dX3_tick_2 : decode cX3_tick 2 = .ok (.if_icmp .lt 10, 3) := by decide +kernel
theorem dX3_tick_5 : decode cX3_tick 5 = .ok (.iload_n 1, 1) := by decide +kernel
theorem dX3_tick_6 : decode cX3_tick 6 = .ok (.sipush 200, 3) := by decide +kernel
theorem dX3_tick_9 : decode cX3_tick 9 = .ok (.if_icmp .le 13, 3) := by decide +kernel
theorem dX3_tick_12 : decode cX3_tick 12 = .ok (.new 38, 3) := by decide +kernel
theorem dX3_tick_15 : decode cX3_tick 15 = .ok (.dup, 1) := by decide +kernel
theorem dX3_tick_16 : decode cX3_tick 16 = .ok (.ldc 124, 2) := by decide +kernel
theorem dX3_tick_18 : decode cX3_tick 18 = .ok (.invokespecial 42, 3) := by decide +kernel
theorem dX3_tick_21 : decode cX3_tick 21 = .ok (.athrow, 1) := by decide +kernel
theorem dX3_tick_22 : decode cX3_tick 22 = .ok (.aload_n 0, 1) := by decide +kernel
theorem dX3_tick_23 : decode cX3_tick 23 = .ok (.getfield 10, 3) := by decide +kernel
theorem dX3_tick_26 : decode cX3_tick 26 = .ok (.getfield 134, 3) := by decide +kernel
theorem dX3_tick_29 : decode cX3_tick 29 = .ok (.iload_n 1, 1) := by decide +kernel
theorem dX3_tick_30 : decode cX3_tick 30 = .ok (.iadd, 1) := by decide +kernel
theorem dX3_tick_31 : decode cX3_tick 31 = .ok (.sipush 20000, 3) := by decide +kernel
theorem dX3_tick_34 : decode cX3_tick 34 = .ok (.if_icmp .le 13, 3) := by decide +kernel
theorem dX3_tick_37 : decode cX3_tick 37 = .ok (.new 55, 3) := by decide +kernel
theorem dX3_tick_40 : decode cX3_tick 40 = .ok (.dup, 1) := by decide +kernel
theorem dX3_tick_41 : decode cX3_tick 41 = .ok (.ldc 137, 2) := by decide +kernel
theorem dX3_tick_43 : decode cX3_tick 43 = .ok (.invokespecial 59, 3) := by decide +kernel
theorem dX3_tick_46 : decode cX3_tick 46 = .ok (.athrow, 1) := by decide +kernel
theorem dX3_tick_47 : decode cX3_tick 47 = .ok (.aload_n 0, 1) := by decide +kernel
theorem dX3_tick_48 : decode cX3_tick 48 = .ok (.invokevirtual 60, 3) := by decide +kernel
theorem dX3_tick_51 : decode cX3_tick 51 = .ok (.iconst 0, 1) := by decide +kernel
theorem dX3_tick_52 : decode cX3_tick 52 = .ok (.istore_n 2, 1) := by decide +kernel
theorem dX3_tick_53 : decode cX3_tick 53 = .ok (.iconst 0, 1) := by decide +kernel
theorem dX3_tick_54 : decode cX3_tick 54 = .ok (.istore_n 3, 1) := by decide +kernel
theorem dX3_tick_55 : decode cX3_tick 55 = .ok (.iload_n 3, 1) := by decide +kernel
theorem dX3_tick_56 : decode cX3_tick 56 = .ok (.iload_n 1, 1) := by decide +kernel
theorem dX3_tick_57 : decode cX3_tick 57 = .ok (.if_icmp .ge 19, 3) := by decide +kernel
theorem dX3_tick_60 : decode cX3_tick 60 = .ok (.iload_n 2, 1) := by decide +kernel
theorem dX3_tick_61 : decode cX3_tick 61 = .ok (.aload_n 0, 1) := by decide +kernel
theorem dX3_tick_62 : decode cX3_tick 62 = .ok (.getfield 10, 3) := by decide +kernel
theorem dX3_tick_65 : decode cX3_tick 65 = .ok (.invokevirtual 139, 3) := by decide +kernel
theorem dX3_tick_68 : decode cX3_tick 68 = .ok (.iadd, 1) := by decide +kernel
theorem dX3_tick_69 : decode cX3_tick 69 = .ok (.istore_n 2, 1) := by decide +kernel
theorem dX3_tick_70 : decode cX3_tick 70 = .ok (.iinc 3 1, 3) := by decide +kernel
theorem dX3_tick_73 : decode cX3_tick 73 = .ok (.goto (-18), 3) := by decide +kernel
theorem dX3_tick_76 : decode cX3_tick 76 = .ok (.iload_n 2, 1) := by decide +kernel
theorem dX3_tick_77 : decode cX3_tick 77 = .ok (.ireturn, 1) := by decide +kernel
theorem dX3_append_0 : decode cX3_append 0 = .ok (.iload_n 1, 1) := by decide +kernel
theorem dX3_append_1 : decode cX3_append 1 = .ok (.bipush 33, 2) := by decide +kernel
theorem dX3_append_3 : decode cX3_append 3 = .ok (.if_icmp .lt 9, 3) := by decide +kernel
theorem dX3_append_6 : decode cX3_append 6 = .ok (.iload_n 1, 1) := by decide +kernel
theorem dX3_append_7 : decode cX3_append 7 = .ok (.bipush 126, 2) := by decide +kernel
theorem dX3_append_9 : decode cX3_append 9 = .ok (.if_icmp .le 13, 3) := by decide +kernel
theorem dX3_append_12 : decode cX3_append 12 = .ok (.new 38, 3) := by decide +kernel
theorem dX3_append_15 : decode cX3_append 15 = .ok (.dup, 1) := by decide +kernel
theorem dX3_append_16 : decode cX3_append 16 = .ok (.ldc 143, 2) := by decide +kernel
theorem dX3_append_18 : decode cX3_append 18 = .ok (.invokespecial 42, 3) := by decide +kernel
theorem dX3_append_21 : decode cX3_append 21 = .ok (.athrow, 1) := by decide +kernel
theorem dX3_append_22 : decode cX3_append 22 = .ok (.aload_n 0, 1) := by decide +kernel
theorem dX3_append_23 : decode cX3_append 23 = .ok (.getfield 145, 3) := by decide +kernel
theorem dX3_append_26 : decode cX3_append 26 = .ok (.bipush 60, 2) := by decide +kernel
theorem dX3_append_28 : decode cX3_append 28 = .ok (.if_icmp .lt 13, 3) := by decide +kernel
theorem dX3_append_31 : decode cX3_append 31 = .ok (.new 55, 3) := by decide +kernel
theorem dX3_append_34 : decode cX3_append 34 = .ok (.dup, 1) := by decide +kernel
theorem dX3_append_35 : decode cX3_append 35 = .ok (.ldc 148, 2) := by decide +kernel
theorem dX3_append_37 : decode cX3_append 37 = .ok (.invokespecial 59, 3) := by decide +kernel
theorem dX3_append_40 : decode cX3_append 40 = .ok (.athrow, 1) := by decide +kernel
theorem dX3_append_41 : decode cX3_append 41 = .ok (.aload_n 0, 1) := by decide +kernel
theorem dX3_append_42 : decode cX3_append 42 = .ok (.getfield 23, 3) := by decide +kernel
theorem dX3_append_45 : decode cX3_append 45 = .ok (.aload_n 0, 1) := by decide +kernel
theorem dX3_append_46 : decode cX3_append 46 = .ok (.getfield 145, 3) := by decide +kernel
theorem dX3_append_49 : decode cX3_append 49 = .ok (.iload_n 1, 1) := by decide +kernel
theorem dX3_append_50 : decode cX3_append 50 = .ok (.iastore, 1) := by decide +kernel
theorem dX3_append_51 : decode cX3_append 51 = .ok (.aload_n 0, 1) := by decide +kernel
theorem dX3_append_52 : decode cX3_append 52 = .ok (.dup, 1) := by decide +kernel
theorem dX3_append_53 : decode cX3_append 53 = .ok (.getfield 145, 3) := by decide +kernel
theorem dX3_append_56 : decode cX3_append 56 = .ok (.iconst 1, 1) := by decide +kernel
theorem dX3_append_57 : decode cX3_append 57 = .ok (.iadd, 1) := by decide +kernel
theorem dX3_append_58 : decode cX3_append 58 = .ok (.putfield 145, 3) := by decide +kernel
theorem dX3_append_61 : decode cX3_append 61 = .ok (.aload_n 0, 1) := by decide +kernel
theorem dX3_append_62 : decode cX3_append 62 = .ok (.getfield 145, 3) := by decide +kernel
theorem dX3_append_65 : decode cX3_append 65 = .ok (.ireturn, 1) := by decide +kernel
theorem dX3_clearBuffer_0 : decode cX3_clearBuffer 0 = .ok (.aload_n 0, 1) := by decide +kernel
theorem dX3_clearBuffer_1 : decode cX3_clearBuffer 1 = .ok (.getfield 145, 3) := by decide +kernel
theorem dX3_clearBuffer_4 : decode cX3_clearBuffer 4 = .ok (.istore_n 1, 1) := by decide +kernel
theorem dX3_clearBuffer_5 : decode cX3_clearBuffer 5 = .ok (.aload_n 0, 1) := by decide +kernel
theorem dX3_clearBuffer_6 : decode cX3_clearBuffer 6 = .ok (.iconst 0, 1) := by decide +kernel
theorem dX3_clearBuffer_7 : decode cX3_clearBuffer 7 = .ok (.putfield 145, 3) := by decide +kernel
theorem dX3_clearBuffer_10 : decode cX3_clearBuffer 10 = .ok (.iload_n 1, 1) := by decide +kernel
theorem dX3_clearBuffer_11 : decode cX3_clearBuffer 11 = .ok (.ireturn, 1) := by decide +kernel
theorem dX3_firstError_0 : decode cX3_firstError 0 = .ok (.aload_n 0, 1) := by decide +kernel
theorem dX3_firstError_1 : decode cX3_firstError 1 = .ok (.invokevirtual 150, 3) := by decide +kernel
theorem dX3_firstError_4 : decode cX3_firstError 4 = .ok (.ireturn, 1) := by decide +kernel
theorem dX3_load_0 : decode cX3_load 0 = .ok (.aload_n 0, 1) := by decide +kernel
theorem dX3_load_1 : decode cX3_load 1 = .ok (.invokevirtual 150, 3) := by decide +kernel
theorem dX3_load_4 : decode cX3_load 4 = .ok (.aload_n 0, 1) := by decide +kernel
theorem dX3_load_5 : decode cX3_load 5 = .ok (.getfield 145, 3) := by decide +kernel
theorem dX3_load_8 : decode cX3_load 8 = .ok (.if_icmp .lt 13, 3) := by decide +kernel
theorem dX3_load_11 : decode cX3_load 11 = .ok (.aload_n 0, 1) := by decide +kernel
theorem dX3_load_12 : decode cX3_load 12 = .ok (.getfield 30, 3) := by decide +kernel
theorem dX3_load_15 : decode cX3_load 15 = .ok (.invokevirtual 153, 3) := by decide +kernel
theorem dX3_load_18 : decode cX3_load 18 = .ok (.ifCond .ne 13, 3) := by decide +kernel
theorem dX3_load_21 : decode cX3_load 21 = .ok (.new 38, 3) := by decide +kernel
theorem dX3_load_24 : decode cX3_load 24 = .ok (.dup, 1) := by decide +kernel
theorem dX3_load_25 : decode cX3_load 25 = .ok (.ldc 157, 2) := by decide +kernel
theorem dX3_load_27 : decode cX3_load 27 = .ok (.invokespecial 42, 3) := by decide +kernel
theorem dX3_load_30 : decode cX3_load 30 = .ok (.athrow, 1) := by decide +kernel
theorem dX3_load_31 : decode cX3_load 31 = .ok (.aload_n 0, 1) := by decide +kernel
theorem dX3_load_32 : decode cX3_load 32 = .ok (.invokevirtual 159, 3) := by decide +kernel
theorem dX3_load_35 : decode cX3_load 35 = .ok (.ifCond .ne 13, 3) := by decide +kernel
theorem dX3_load_38 : decode cX3_load 38 = .ok (.new 55, 3) := by decide +kernel
theorem dX3_load_41 : decode cX3_load 41 = .ok (.dup, 1) := by decide +kernel
theorem dX3_load_42 : decode cX3_load 42 = .ok (.ldc 162, 2) := by decide +kernel
theorem dX3_load_44 : decode cX3_load 44 = .ok (.invokespecial 59, 3) := by decide +kernel
theorem dX3_load_47 : decode cX3_load 47 = .ok (.athrow, 1) := by decide +kernel
theorem dX3_load_48 : decode cX3_load 48 = .ok (.aload_n 0, 1) := by decide +kernel
theorem dX3_load_49 : decode cX3_load 49 = .ok (.invokevirtual 60, 3) := by decide +kernel
theorem dX3_load_52 : decode cX3_load 52 = .ok (.aload_n 0, 1) := by decide +kernel
theorem dX3_load_53 : decode cX3_load 53 = .ok (.getfield 10, 3) := by decide +kernel
theorem dX3_load_56 : decode cX3_load 56 = .ok (.aload_n 0, 1) := by decide +kernel
theorem dX3_load_57 : decode cX3_load 57 = .ok (.getfield 16, 3) := by decide +kernel
theorem dX3_load_60 : decode cX3_load 60 = .ok (.invokevirtual 164, 3) := by decide +kernel
theorem dX3_load_63 : decode cX3_load 63 = .ok (.aload_n 0, 1) := by decide +kernel
theorem dX3_load_64 : decode cX3_load 64 = .ok (.iconst 0, 1) := by decide +kernel
theorem dX3_load_65 : decode cX3_load 65 = .ok (.putfield 145, 3) := by decide +kernel
theorem dX3_load_68 : decode cX3_load 68 = .ok (.aload_n 0, 1) := by decide +kernel
theorem dX3_load_69 : decode cX3_load 69 = .ok (.getfield 10, 3) := by decide +kernel
theorem dX3_load_72 : decode cX3_load 72 = .ok (.getfield 51, 3) := by decide +kernel
theorem dX3_load_75 : decode cX3_load 75 = .ok (.ireturn, 1) := by decide +kernel
theorem dX3_undo_0 : decode cX3_undo 0 = .ok (.aload_n 0, 1) := by decide +kernel
theorem dX3_undo_1 : decode cX3_undo 1 = .ok (.getfield 168, 3) := by decide +kernel
theorem dX3_undo_4 : decode cX3_undo 4 = .ok (.ifCond .gt 13, 3) := by decide +kernel
theorem dX3_undo_7 : decode cX3_undo 7 = .ok (.new 55, 3) := by decide +kernel
theorem dX3_undo_10 : decode cX3_undo 10 = .ok (.dup, 1) := by decide +kernel
theorem dX3_undo_11 : decode cX3_undo 11 = .ok (.ldc 171, 2) := by decide +kernel
theorem dX3_undo_13 : decode cX3_undo 13 = .ok (.invokespecial 59, 3) := by decide +kernel
theorem dX3_undo_16 : decode cX3_undo 16 = .ok (.athrow, 1) := by decide +kernel
theorem dX3_undo_17 : decode cX3_undo 17 = .ok (.aload_n 0, 1) := by decide +kernel
theorem dX3_undo_18 : decode cX3_undo 18 = .ok (.dup, 1) := by decide +kernel
theorem dX3_undo_19 : decode cX3_undo 19 = .ok (.getfield 168, 3) := by decide +kernel
theorem dX3_undo_22 : decode cX3_undo 22 = .ok (.iconst 1, 1) := by decide +kernel
theorem dX3_undo_23 : decode cX3_undo 23 = .ok (.isub, 1) := by decide +kernel
theorem dX3_undo_24 : decode cX3_undo 24 = .ok (.putfield 168, 3) := by decide +kernel
theorem dX3_undo_27 : decode cX3_undo 27 = .ok (.aload_n 0, 1) := by decide +kernel
theorem dX3_undo_28 : decode cX3_undo 28 = .ok (.getfield 10, 3) := by decide +kernel
theorem dX3_undo_31 : decode cX3_undo 31 = .ok (.aload_n 0, 1) := by decide +kernel
theorem dX3_undo_32 : decode cX3_undo 32 = .ok (.getfield 19, 3) := by decide +kernel
theorem dX3_undo_35 : decode cX3_undo 35 = .ok (.aload_n 0, 1) := by decide +kernel
theorem dX3_undo_36 : decode cX3_undo 36 = .ok (.getfield 168, 3) := by decide +kernel
theorem dX3_undo_39 : decode cX3_undo 39 = .ok (.aaload, 1) := by decide +kernel
theorem dX3_undo_40 : decode cX3_undo 40 = .ok (.invokevirtual 164, 3) := by decide +kernel
theorem dX3_undo_43 : decode cX3_undo 43 = .ok (.aload_n 0, 1) := by decide +kernel
theorem dX3_undo_44 : decode cX3_undo 44 = .ok (.getfield 168, 3) := by decide +kernel
theorem dX3_undo_47 : decode cX3_undo 47 = .ok (.ireturn, 1) := by decide +kernel
theorem dX3_rail_0 : decode cX3_rail 0 = .ok (.aload_n 0, 1) := by decide +kernel
theorem dX3_rail_1 : decode cX3_rail 1 = .ok (.iload_n 1, 1) := by decide +kernel
theorem dX3_rail_2 : decode cX3_rail 2 = .ok (.invokevirtual 67, 3) := by decide +kernel
theorem dX3_rail_5 : decode cX3_rail 5 = .ok (.ifCond .ne 13, 3) := by decide +kernel
theorem dX3_rail_8 : decode cX3_rail 8 = .ok (.new 70, 3) := by decide +kernel
theorem dX3_rail_11 : decode cX3_rail 11 = .ok (.dup, 1) := by decide +kernel
theorem dX3_rail_12 : decode cX3_rail 12 = .ok (.ldc 84, 2) := by decide +kernel
theorem dX3_rail_14 : decode cX3_rail 14 = .ok (.invokespecial 74, 3) := by decide +kernel
theorem dX3_rail_17 : decode cX3_rail 17 = .ok (.athrow, 1) := by decide +kernel
theorem dX3_rail_18 : decode cX3_rail 18 = .ok (.iload_n 2, 1) := by decide +kernel
theorem dX3_rail_19 : decode cX3_rail 19 = .ok (.ifCond .lt 9, 3) := by decide +kernel
theorem dX3_rail_22 : decode cX3_rail 22 = .ok (.iload_n 2, 1) := by decide +kernel
theorem dX3_rail_23 : decode cX3_rail 23 = .ok (.bipush 19, 2) := by decide +kernel
theorem dX3_rail_25 : decode cX3_rail 25 = .ok (.if_icmp .lt 13, 3) := by decide +kernel
theorem dX3_rail_28 : decode cX3_rail 28 = .ok (.new 38, 3) := by decide +kernel
theorem dX3_rail_31 : decode cX3_rail 31 = .ok (.dup, 1) := by decide +kernel
theorem dX3_rail_32 : decode cX3_rail 32 = .ok (.ldc 173, 2) := by decide +kernel
theorem dX3_rail_34 : decode cX3_rail 34 = .ok (.invokespecial 42, 3) := by decide +kernel
theorem dX3_rail_37 : decode cX3_rail 37 = .ok (.athrow, 1) := by decide +kernel
theorem dX3_rail_38 : decode cX3_rail 38 = .ok (.aload_n 0, 1) := by decide +kernel
theorem dX3_rail_39 : decode cX3_rail 39 = .ok (.getfield 10, 3) := by decide +kernel
theorem dX3_rail_42 : decode cX3_rail 42 = .ok (.iload_n 1, 1) := by decide +kernel
theorem dX3_rail_43 : decode cX3_rail 43 = .ok (.iload_n 2, 1) := by decide +kernel
theorem dX3_rail_44 : decode cX3_rail 44 = .ok (.invokevirtual 175, 3) := by decide +kernel
theorem dX3_rail_47 : decode cX3_rail 47 = .ok (.ireturn, 1) := by decide +kernel
theorem dX3_account_0 : decode cX3_account 0 = .ok (.aload_n 0, 1) := by decide +kernel
theorem dX3_account_1 : decode cX3_account 1 = .ok (.iload_n 1, 1) := by decide +kernel
theorem dX3_account_2 : decode cX3_account 2 = .ok (.invokevirtual 67, 3) := by decide +kernel
theorem dX3_account_5 : decode cX3_account 5 = .ok (.ifCond .ne 13, 3) := by decide +kernel
theorem dX3_account_8 : decode cX3_account 8 = .ok (.new 70, 3) := by decide +kernel
theorem dX3_account_11 : decode cX3_account 11 = .ok (.dup, 1) := by decide +kernel
theorem dX3_account_12 : decode cX3_account 12 = .ok (.ldc 84, 2) := by decide +kernel
theorem dX3_account_14 : decode cX3_account 14 = .ok (.invokespecial 74, 3) := by decide +kernel
theorem dX3_account_17 : decode cX3_account 17 = .ok (.athrow, 1) := by decide +kernel
theorem dX3_account_18 : decode cX3_account 18 = .ok (.iload_n 2, 1) := by decide +kernel
theorem dX3_account_19 : decode cX3_account 19 = .ok (.ifCond .lt 8, 3) := by decide +kernel
theorem dX3_account_22 : decode cX3_account 22 = .ok (.iload_n 2, 1) := by decide +kernel
theorem dX3_account_23 : decode cX3_account 23 = .ok (.iconst 4, 1) := by decide +kernel
theorem dX3_account_24 : decode cX3_account 24 = .ok (.if_icmp .lt 13, 3) := by decide +kernel
theorem dX3_account_27 : decode cX3_account 27 = .ok (.new 38, 3) := by decide +kernel
theorem dX3_account_30 : decode cX3_account 30 = .ok (.dup, 1) := by decide +kernel
theorem dX3_account_31 : decode cX3_account 31 = .ok (.ldc 178, 2) := by decide +kernel
theorem dX3_account_33 : decode cX3_account 33 = .ok (.invokespecial 42, 3) := by decide +kernel
theorem dX3_account_36 : decode cX3_account 36 = .ok (.athrow, 1) := by decide +kernel
theorem dX3_account_37 : decode cX3_account 37 = .ok (.aload_n 0, 1) := by decide +kernel
theorem dX3_account_38 : decode cX3_account 38 = .ok (.getfield 10, 3) := by decide +kernel
theorem dX3_account_41 : decode cX3_account 41 = .ok (.getfield 180, 3) := by decide +kernel
theorem dX3_account_44 : decode cX3_account 44 = .ok (.iload_n 1, 1) := by decide +kernel
theorem dX3_account_45 : decode cX3_account 45 = .ok (.iconst 4, 1) := by decide +kernel
theorem dX3_account_46 : decode cX3_account 46 = .ok (.imul, 1) := by decide +kernel
theorem dX3_account_47 : decode cX3_account 47 = .ok (.iload_n 2, 1) := by decide +kernel
theorem dX3_account_48 : decode cX3_account 48 = .ok (.iadd, 1) := by decide +kernel
theorem dX3_account_49 : decode cX3_account 49 = .ok (.iaload, 1) := by decide +kernel
theorem dX3_account_50 : decode cX3_account 50 = .ok (.ireturn, 1) := by decide +kernel
theorem dX3_entry_0 : decode cX3_entry 0 = .ok (.iload_n 1, 1) := by decide +kernel
theorem dX3_entry_1 : decode cX3_entry 1 = .ok (.ifCond .lt 18, 3) := by decide +kernel
theorem dX3_entry_4 : decode cX3_entry 4 = .ok (.iload_n 1, 1) := by decide +kernel
theorem dX3_entry_5 : decode cX3_entry 5 = .ok (.bipush 16, 2) := by decide +kernel
theorem dX3_entry_7 : decode cX3_entry 7 = .ok (.if_icmp .ge 12, 3) := by decide +kernel
theorem dX3_entry_10 : decode cX3_entry 10 = .ok (.iload_n 2, 1) := by decide +kernel
theorem dX3_entry_11 : decode cX3_entry 11 = .ok (.ifCond .lt 8, 3) := by decide +kernel
theorem dX3_entry_14 : decode cX3_entry 14 = .ok (.iload_n 2, 1) := by decide +kernel
theorem dX3_entry_15 : decode cX3_entry 15 = .ok (.iconst 4, 1) := by decide +kernel
theorem dX3_entry_16 : decode cX3_entry 16 = .ok (.if_icmp .lt 13, 3) := by decide +kernel
theorem dX3_entry_19 : decode cX3_entry 19 = .ok (.new 38, 3) := by decide +kernel
theorem dX3_entry_22 : decode cX3_entry 22 = .ok (.dup, 1) := by decide +kernel
theorem dX3_entry_23 : decode cX3_entry 23 = .ok (.ldc 185, 2) := by decide +kernel
theorem dX3_entry_25 : decode cX3_entry 25 = .ok (.invokespecial 42, 3) := by decide +kernel
theorem dX3_entry_28 : decode cX3_entry 28 = .ok (.athrow, 1) := by decide +kernel
theorem dX3_entry_29 : decode cX3_entry 29 = .ok (.iload_n 1, 1) := by decide +kernel
theorem dX3_entry_30 : decode cX3_entry 30 = .ok (.aload_n 0, 1) := by decide +kernel
theorem dX3_entry_31 : decode cX3_entry 31 = .ok (.getfield 10, 3) := by decide +kernel
theorem dX3_entry_34 : decode cX3_entry 34 = .ok (.getfield 187, 3) := by decide +kernel
theorem dX3_entry_37 : decode cX3_entry 37 = .ok (.getfield 191, 3) := by decide +kernel
theorem dX3_entry_40 : decode cX3_entry 40 = .ok (.if_icmp .ge 18, 3) := by decide +kernel
theorem dX3_entry_43 : decode cX3_entry 43 = .ok (.aload_n 0, 1) := by decide +kernel
theorem dX3_entry_44 : decode cX3_entry 44 = .ok (.getfield 10, 3) := by decide +kernel
theorem dX3_entry_47 : decode cX3_entry 47 = .ok (.getfield 187, 3) := by decide +kernel
theorem dX3_entry_50 : decode cX3_entry 50 = .ok (.iload_n 1, 1) := by decide +kernel
theorem dX3_entry_51 : decode cX3_entry 51 = .ok (.iload_n 2, 1) := by decide +kernel
theorem dX3_entry_52 : decode cX3_entry 52 = .ok (.invokevirtual 194, 3) := by decide +kernel
theorem dX3_entry_55 : decode cX3_entry 55 = .ok (.goto 4, 3) := by decide +kernel
theorem dX3_entry_58 : decode cX3_entry 58 = .ok (.iconst (-1), 1) := by decide +kernel
theorem dX3_entry_59 : decode cX3_entry 59 = .ok (.ireturn, 1) := by decide +kernel
theorem dX3_forget_0 : decode cX3_forget 0 = .ok (.aload_n 0, 1) := by decide +kernel
theorem dX3_forget_1 : decode cX3_forget 1 = .ok (.iload_n 1, 1) := by decide +kernel
theorem dX3_forget_2 : decode cX3_forget 2 = .ok (.invokevirtual 67, 3) := by decide +kernel
theorem dX3_forget_5 : decode cX3_forget 5 = .ok (.ifCond .ne 13, 3) := by decide +kernel
theorem dX3_forget_8 : decode cX3_forget 8 = .ok (.new 70, 3) := by decide +kernel
theorem dX3_forget_11 : decode cX3_forget 11 = .ok (.dup, 1) := by decide +kernel
theorem dX3_forget_12 : decode cX3_forget 12 = .ok (.ldc 84, 2) := by decide +kernel
theorem dX3_forget_14 : decode cX3_forget 14 = .ok (.invokespecial 74, 3) := by decide +kernel
theorem dX3_forget_17 : decode cX3_forget 17 = .ok (.athrow, 1) := by decide +kernel
theorem dX3_forget_18 : decode cX3_forget 18 = .ok (.aload_n 0, 1) := by decide +kernel
theorem dX3_forget_19 : decode cX3_forget 19 = .ok (.invokevirtual 60, 3) := by decide +kernel
theorem dX3_forget_22 : decode cX3_forget 22 = .ok (.aload_n 0, 1) := by decide +kernel
theorem dX3_forget_23 : decode cX3_forget 23 = .ok (.getfield 10, 3) := by decide +kernel
theorem dX3_forget_26 : decode cX3_forget 26 = .ok (.getfield 187, 3) := by decide +kernel
theorem dX3_forget_29 : decode cX3_forget 29 = .ok (.iload_n 1, 1) := by decide +kernel
theorem dX3_forget_30 : decode cX3_forget 30 = .ok (.invokevirtual 197, 3) := by decide +kernel
theorem dX3_forget_33 : decode cX3_forget 33 = .ok (.ireturn, 1) := by decide +kernel
theorem dX3_count_0 : decode cX3_count 0 = .ok (.iload_n 1, 1) := by decide +kernel
theorem dX3_count_1 : decode cX3_count 1 = .ok (.ifCond .lt 9, 3) := by decide +kernel
theorem dX3_count_4 : decode cX3_count 4 = .ok (.iload_n 1, 1) := by decide +kernel
theorem dX3_count_5 : decode cX3_count 5 = .ok (.bipush 10, 2) := by decide +kernel
theorem dX3_count_7 : decode cX3_count 7 = .ok (.if_icmp .lt 13, 3) := by decide +kernel
theorem dX3_count_10 : decode cX3_count 10 = .ok (.new 38, 3) := by decide +kernel
theorem dX3_count_13 : decode cX3_count 13 = .ok (.dup, 1) := by decide +kernel
theorem dX3_count_14 : decode cX3_count 14 = .ok (.ldc 200, 2) := by decide +kernel
theorem dX3_count_16 : decode cX3_count 16 = .ok (.invokespecial 42, 3) := by decide +kernel
theorem dX3_count_19 : decode cX3_count 19 = .ok (.athrow, 1) := by decide +kernel
theorem dX3_count_20 : decode cX3_count 20 = .ok (.aload_n 0, 1) := by decide +kernel
theorem dX3_count_21 : decode cX3_count 21 = .ok (.iload_n 1, 1) := by decide +kernel
theorem dX3_count_22 : decode cX3_count 22 = .ok (.invokevirtual 202, 3) := by decide +kernel
theorem dX3_count_25 : decode cX3_count 25 = .ok (.ireturn, 1) := by decide +kernel
theorem dX3_allGoodIn_0 : decode cX3_allGoodIn 0 = .ok (.aload_n 0, 1) := by decide +kernel
theorem dX3_allGoodIn_1 : decode cX3_allGoodIn 1 = .ok (.getfield 16, 3) := by decide +kernel
theorem dX3_allGoodIn_4 : decode cX3_allGoodIn 4 = .ok (.aload_n 0, 1) := by decide +kernel
theorem dX3_allGoodIn_5 : decode cX3_allGoodIn 5 = .ok (.getfield 10, 3) := by decide +kernel
theorem dX3_allGoodIn_8 : decode cX3_allGoodIn 8 = .ok (.invokevirtual 164, 3) := by decide +kernel
theorem dX3_allGoodIn_11 : decode cX3_allGoodIn 11 = .ok (.iconst 0, 1) := by decide +kernel
theorem dX3_allGoodIn_12 : decode cX3_allGoodIn 12 = .ok (.istore_n 1, 1) := by decide +kernel
theorem dX3_allGoodIn_13 : decode cX3_allGoodIn 13 = .ok (.iload_n 1, 1) := by decide +kernel
theorem dX3_allGoodIn_14 : decode cX3_allGoodIn 14 = .ok (.sipush 1000, 3) := by decide +kernel
theorem dX3_allGoodIn_17 : decode cX3_allGoodIn 17 = .ok (.if_icmp .gt 52, 3) := by decide +kernel
theorem dX3_allGoodIn_20 : decode cX3_allGoodIn 20 = .ok (.aload_n 0, 1) := by decide +kernel
theorem dX3_allGoodIn_21 : decode cX3_allGoodIn 21 = .ok (.getfield 16, 3) := by decide +kernel
theorem dX3_allGoodIn_24 : decode cX3_allGoodIn 24 = .ok (.getfield 106, 3) := by decide +kernel
theorem dX3_allGoodIn_27 : decode cX3_allGoodIn 27 = .ok (.aload_n 0, 1) := by decide +kernel
theorem dX3_allGoodIn_28 : decode cX3_allGoodIn 28 = .ok (.getfield 16, 3) := by decide +kernel
theorem dX3_allGoodIn_31 : decode cX3_allGoodIn 31 = .ok (.iconst 3, 1) := by decide +kernel
theorem dX3_allGoodIn_32 : decode cX3_allGoodIn 32 = .ok (.invokevirtual 205, 3) := by decide +kernel
theorem dX3_allGoodIn_35 : decode cX3_allGoodIn 35 = .ok (.iconst (-1), 1) := by decide +kernel
theorem dX3_allGoodIn_36 : decode cX3_allGoodIn 36 = .ok (.ixor, 1) := by decide +kernel
theorem dX3_allGoodIn_37 : decode cX3_allGoodIn 37 = .ok (.iand, 1) := by decide +kernel
theorem dX3_allGoodIn_38 : decode cX3_allGoodIn 38 = .ok (.ifCond .ne 5, 3) := by decide +kernel
theorem dX3_allGoodIn_41 : decode cX3_allGoodIn 41 = .ok (.iload_n 1, 1) := by decide +kernel
theorem dX3_allGoodIn_42 : decode cX3_allGoodIn 42 = .ok (.ireturn, 1) := by decide +kernel
theorem dX3_allGoodIn_43 : decode cX3_allGoodIn 43 = .ok (.aload_n 0, 1) := by decide +kernel
theorem dX3_allGoodIn_44 : decode cX3_allGoodIn 44 = .ok (.getfield 16, 3) := by decide +kernel
theorem dX3_allGoodIn_47 : decode cX3_allGoodIn 47 = .ok (.invokevirtual 139, 3) := by decide +kernel
theorem dX3_allGoodIn_50 : decode cX3_allGoodIn 50 = .ok (.pop, 1) := by decide +kernel
theorem dX3_allGoodIn_51 : decode cX3_allGoodIn 51 = .ok (.aload_n 0, 1) := by decide +kernel
theorem dX3_allGoodIn_52 : decode cX3_allGoodIn 52 = .ok (.getfield 16, 3) := by decide +kernel
theorem dX3_allGoodIn_55 : decode cX3_allGoodIn 55 = .ok (.invokevirtual 208, 3) := by decide +kernel
theorem dX3_allGoodIn_58 : decode cX3_allGoodIn 58 = .ok (.ifCond .eq 5, 3) := by decide +kernel
theorem dX3_allGoodIn_61 : decode cX3_allGoodIn 61 = .ok (.iconst (-1), 1) := by decide +kernel
theorem dX3_allGoodIn_62 : decode cX3_allGoodIn 62 = .ok (.ireturn, 1) := by decide +kernel
theorem dX3_allGoodIn_63 : decode cX3_allGoodIn 63 = .ok (.iinc 1 1, 3) := by decide +kernel
theorem dX3_allGoodIn_66 : decode cX3_allGoodIn 66 = .ok (.goto (-53), 3) := by decide +kernel
theorem dX3_allGoodIn_69 : decode cX3_allGoodIn 69 = .ok (.iconst (-1), 1) := by decide +kernel
theorem dX3_allGoodIn_70 : decode cX3_allGoodIn 70 = .ok (.ireturn, 1) := by decide +kernel
theorem dX3_allOffIn_0 : decode cX3_allOffIn 0 = .ok (.aload_n 0, 1) := by decide +kernel
theorem dX3_allOffIn_1 : decode cX3_allOffIn 1 = .ok (.getfield 16, 3) := by decide +kernel
theorem dX3_allOffIn_4 : decode cX3_allOffIn 4 = .ok (.aload_n 0, 1) := by decide +kernel
theorem dX3_allOffIn_5 : decode cX3_allOffIn 5 = .ok (.getfield 10, 3) := by decide +kernel
theorem dX3_allOffIn_8 : decode cX3_allOffIn 8 = .ok (.invokevirtual 164, 3) := by decide +kernel
theorem dX3_allOffIn_11 : decode cX3_allOffIn 11 = .ok (.aload_n 0, 1) := by decide +kernel
theorem dX3_allOffIn_12 : decode cX3_allOffIn 12 = .ok (.getfield 16, 3) := by decide +kernel
theorem dX3_allOffIn_15 : decode cX3_allOffIn 15 = .ok (.iconst 0, 1) := by decide +kernel
theorem dX3_allOffIn_16 : decode cX3_allOffIn 16 = .ok (.putfield 106, 3) := by decide +kernel
theorem dX3_allOffIn_19 : decode cX3_allOffIn 19 = .ok (.iconst 0, 1) := by decide +kernel
theorem dX3_allOffIn_20 : decode cX3_allOffIn 20 = .ok (.istore_n 1, 1) := by decide +kernel
theorem dX3_allOffIn_21 : decode cX3_allOffIn 21 = .ok (.iload_n 1, 1) := by decide +kernel
theorem dX3_allOffIn_22 : decode cX3_allOffIn 22 = .ok (.sipush 1000, 3) := by decide +kernel
theorem dX3_allOffIn_25 : decode cX3_allOffIn 25 = .ok (.if_icmp .gt 29, 3) := by decide +kernel
theorem dX3_allOffIn_28 : decode cX3_allOffIn 28 = .ok (.aload_n 0, 1) := by decide +kernel
theorem dX3_allOffIn_29 : decode cX3_allOffIn 29 = .ok (.getfield 16, 3) := by decide +kernel
theorem dX3_allOffIn_32 : decode cX3_allOffIn 32 = .ok (.invokevirtual 211, 3) := by decide +kernel
theorem dX3_allOffIn_35 : decode cX3_allOffIn 35 = .ok (.ifCond .eq 5, 3) := by decide +kernel
theorem dX3_allOffIn_38 : decode cX3_allOffIn 38 = .ok (.iload_n 1, 1) := by decide +kernel
theorem dX3_allOffIn_39 : decode cX3_allOffIn 39 = .ok (.ireturn, 1) := by decide +kernel
theorem dX3_allOffIn_40 : decode cX3_allOffIn 40 = .ok (.aload_n 0, 1) := by decide +kernel
theorem dX3_allOffIn_41 : decode cX3_allOffIn 41 = .ok (.getfield 16, 3) := by decide +kernel
theorem dX3_allOffIn_44 : decode cX3_allOffIn 44 = .ok (.invokevirtual 139, 3) := by decide +kernel
theorem dX3_allOffIn_47 : decode cX3_allOffIn 47 = .ok (.pop, 1) := by decide +kernel
theorem dX3_allOffIn_48 : decode cX3_allOffIn 48 = .ok (.iinc 1 1, 3) := by decide +kernel
theorem dX3_allOffIn_51 : decode cX3_allOffIn 51 = .ok (.goto (-30), 3) := by decide +kernel
theorem dX3_allOffIn_54 : decode cX3_allOffIn 54 = .ok (.iconst (-1), 1) := by decide +kernel
theorem dX3_allOffIn_55 : decode cX3_allOffIn 55 = .ok (.ireturn, 1) := by decide +kernel
theorem dX3_ifShort_0 : decode cX3_ifShort 0 = .ok (.aload_n 0, 1) := by decide +kernel
theorem dX3_ifShort_1 : decode cX3_ifShort 1 = .ok (.iload_n 1, 1) := by decide +kernel
theorem dX3_ifShort_2 : decode cX3_ifShort 2 = .ok (.invokevirtual 67, 3) := by decide +kernel
theorem dX3_ifShort_5 : decode cX3_ifShort 5 = .ok (.ifCond .ne 13, 3) := by decide +kernel
theorem dX3_ifShort_8 : decode cX3_ifShort 8 = .ok (.new 70, 3) := by decide +kernel
theorem dX3_ifShort_11 : decode cX3_ifShort 11 = .ok (.dup, 1) := by decide +kernel
theorem dX3_ifShort_12 : decode cX3_ifShort 12 = .ok (.ldc 84, 2) := by decide +kernel
theorem dX3_ifShort_14 : decode cX3_ifShort 14 = .ok (.invokespecial 74, 3) := by decide +kernel
theorem dX3_ifShort_17 : decode cX3_ifShort 17 = .ok (.athrow, 1) := by decide +kernel
theorem dX3_ifShort_18 : decode cX3_ifShort 18 = .ok (.iload_n 2, 1) := by decide +kernel
theorem dX3_ifShort_19 : decode cX3_ifShort 19 = .ok (.iconst 1, 1) := by decide +kernel
theorem dX3_ifShort_20 : decode cX3_ifShort 20 = .ok (.if_icmp .lt 19, 3) := by decide +kernel
theorem dX3_ifShort_23 : decode cX3_ifShort 23 = .ok (.iload_n 2, 1) := by decide +kernel
theorem dX3_ifShort_24 : decode cX3_ifShort 24 = .ok (.sipush 500, 3) := by decide +kernel
theorem dX3_ifShort_27 : decode cX3_ifShort 27 = .ok (.if_icmp .gt 12, 3) := by decide +kernel
theorem dX3_ifShort_30 : decode cX3_ifShort 30 = .ok (.iload_n 3, 1) := by decide +kernel
theorem dX3_ifShort_31 : decode cX3_ifShort 31 = .ok (.ifCond .lt 8, 3) := by decide +kernel
theorem dX3_ifShort_34 : decode cX3_ifShort 34 = .ok (.iload_n 3, 1) := by decide +kernel
theorem dX3_ifShort_35 : decode cX3_ifShort 35 = .ok (.iconst 2, 1) := by decide +kernel
theorem dX3_ifShort_36 : decode cX3_ifShort 36 = .ok (.if_icmp .le 13, 3) := by decide +kernel
theorem dX3_ifShort_39 : decode cX3_ifShort 39 = .ok (.new 38, 3) := by decide +kernel
theorem dX3_ifShort_42 : decode cX3_ifShort 42 = .ok (.dup, 1) := by decide +kernel
theorem dX3_ifShort_43 : decode cX3_ifShort 43 = .ok (.ldc 214, 2) := by decide +kernel
theorem dX3_ifShort_45 : decode cX3_ifShort 45 = .ok (.invokespecial 42, 3) := by decide +kernel
theorem dX3_ifShort_48 : decode cX3_ifShort 48 = .ok (.athrow, 1) := by decide +kernel
theorem dX3_ifShort_49 : decode cX3_ifShort 49 = .ok (.aload_n 0, 1) := by decide +kernel
theorem dX3_ifShort_50 : decode cX3_ifShort 50 = .ok (.getfield 16, 3) := by decide +kernel
theorem dX3_ifShort_53 : decode cX3_ifShort 53 = .ok (.aload_n 0, 1) := by decide +kernel
theorem dX3_ifShort_54 : decode cX3_ifShort 54 = .ok (.getfield 10, 3) := by decide +kernel
theorem dX3_ifShort_57 : decode cX3_ifShort 57 = .ok (.invokevirtual 164, 3) := by decide +kernel
theorem dX3_ifShort_60 : decode cX3_ifShort 60 = .ok (.aload_n 0, 1) := by decide +kernel
theorem dX3_ifShort_61 : decode cX3_ifShort 61 = .ok (.getfield 16, 3) := by decide +kernel
theorem dX3_ifShort_64 : decode cX3_ifShort 64 = .ok (.getfield 126, 3) := by decide +kernel
theorem dX3_ifShort_67 : decode cX3_ifShort 67 = .ok (.iload_n 1, 1) := by decide +kernel
theorem dX3_ifShort_68 : decode cX3_ifShort 68 = .ok (.iload_n 2, 1) := by decide +kernel
theorem dX3_ifShort_69 : decode cX3_ifShort 69 = .ok (.iastore, 1) := by decide +kernel
theorem dX3_ifShort_70 : decode cX3_ifShort 70 = .ok (.iconst 0, 1) := by decide +kernel
theorem dX3_ifShort_71 : decode cX3_ifShort 71 = .ok (.istore 4, 2) := by decide +kernel
theorem dX3_ifShort_73 : decode cX3_ifShort 73 = .ok (.iconst 0, 1) := by decide +kernel
theorem dX3_ifShort_74 : decode cX3_ifShort 74 = .ok (.istore 5, 2) := by decide +kernel
theorem dX3_ifShort_76 : decode cX3_ifShort 76 = .ok (.iload 5, 2) := by decide +kernel
theorem dX3_ifShort_78 : decode cX3_ifShort 78 = .ok (.bipush 100, 2) := by decide +kernel
theorem dX3_ifShort_80 : decode cX3_ifShort 80 = .ok (.if_icmp .ge 29, 3) := by decide +kernel
theorem dX3_ifShort_83 : decode cX3_ifShort 83 = .ok (.aload_n 0, 1) := by decide +kernel
theorem dX3_ifShort_84 : decode cX3_ifShort 84 = .ok (.getfield 16, 3) := by decide +kernel
theorem dX3_ifShort_87 : decode cX3_ifShort 87 = .ok (.invokevirtual 139, 3) := by decide +kernel
theorem dX3_ifShort_90 : decode cX3_ifShort 90 = .ok (.pop, 1) := by decide +kernel
theorem dX3_ifShort_91 : decode cX3_ifShort 91 = .ok (.iload 4, 2) := by decide +kernel
theorem dX3_ifShort_93 : decode cX3_ifShort 93 = .ok (.aload_n 0, 1) := by decide +kernel
theorem dX3_ifShort_94 : decode cX3_ifShort 94 = .ok (.getfield 16, 3) := by decide +kernel
theorem dX3_ifShort_97 : decode cX3_ifShort 97 = .ok (.invokevirtual 216, 3) := by decide +kernel
theorem dX3_ifShort_100 : decode cX3_ifShort 100 = .ok (.ior, 1) := by decide +kernel
theorem dX3_ifShort_101 : decode cX3_ifShort 101 = .ok (.istore 4, 2) := by decide +kernel
theorem dX3_ifShort_103 : decode cX3_ifShort 103 = .ok (.iinc 5 1, 3) := by decide +kernel
theorem dX3_ifShort_106 : decode cX3_ifShort 106 = .ok (.goto (-30), 3) := by decide +kernel
theorem dX3_ifShort_109 : decode cX3_ifShort 109 = .ok (.iload_n 3, 1) := by decide +kernel
theorem dX3_ifShort_110 : decode cX3_ifShort 110 = .ok (.ifCond .ne 6, 3) := by decide +kernel
theorem dX3_ifShort_113 : decode cX3_ifShort 113 = .ok (.iload 4, 2) := by decide +kernel
theorem dX3_ifShort_115 : decode cX3_ifShort 115 = .ok (.ireturn, 1) := by decide +kernel
theorem dX3_ifShort_116 : decode cX3_ifShort 116 = .ok (.aload_n 0, 1) := by decide +kernel
theorem dX3_ifShort_117 : decode cX3_ifShort 117 = .ok (.getfield 16, 3) := by decide +kernel
theorem dX3_ifShort_120 : decode cX3_ifShort 120 = .ok (.iload_n 3, 1) := by decide +kernel
theorem dX3_ifShort_121 : decode cX3_ifShort 121 = .ok (.iconst 1, 1) := by decide +kernel
theorem dX3_ifShort_122 : decode cX3_ifShort 122 = .ok (.if_icmp .ne 7, 3) := by decide +kernel
theorem dX3_ifShort_125 : decode cX3_ifShort 125 = .ok (.iconst 3, 1) := by decide +kernel
theorem dX3_ifShort_126 : decode cX3_ifShort 126 = .ok (.goto 4, 3) := by decide +kernel
theorem dX3_ifShort_129 : decode cX3_ifShort 129 = .ok (.iconst 5, 1) := by decide +kernel
theorem dX3_ifShort_130 : decode cX3_ifShort 130 = .ok (.invokevirtual 205, 3) := by decide +kernel
theorem dX3_ifShort_133 : decode cX3_ifShort 133 = .ok (.ireturn, 1) := by decide +kernel
theorem dX3_leastPatience_0 : decode cX3_leastPatience 0 = .ok (.aload_n 0, 1) := by decide +kernel
theorem dX3_leastPatience_1 : decode cX3_leastPatience 1 = .ok (.iload_n 1, 1) := by decide +kernel
theorem dX3_leastPatience_2 : decode cX3_leastPatience 2 = .ok (.invokevirtual 67, 3) := by decide +kernel
theorem dX3_leastPatience_5 : decode cX3_leastPatience 5 = .ok (.ifCond .ne 13, 3) := by decide +kernel
theorem dX3_leastPatience_8 : decode cX3_leastPatience 8 = .ok (.new 70, 3) := by decide +kernel
theorem dX3_leastPatience_11 : decode cX3_leastPatience 11 = .ok (.dup, 1) := by decide +kernel
theorem dX3_leastPatience_12 : decode cX3_leastPatience 12 = .ok (.ldc 84, 2) := by decide +kernel
theorem dX3_leastPatience_14 : decode cX3_leastPatience 14 = .ok (.invokespecial 74, 3) := by decide +kernel
theorem dX3_leastPatience_17 : decode cX3_leastPatience 17 = .ok (.athrow, 1) := by decide +kernel
theorem dX3_leastPatience_18 : decode cX3_leastPatience 18 = .ok (.aload_n 0, 1) := by decide +kernel
theorem dX3_leastPatience_19 : decode cX3_leastPatience 19 = .ok (.getfield 10, 3) := by decide +kernel
theorem dX3_leastPatience_22 : decode cX3_leastPatience 22 = .ok (.iload_n 1, 1) := by decide +kernel
theorem dX3_leastPatience_23 : decode cX3_leastPatience 23 = .ok (.invokevirtual 219, 3) := by decide +kernel
theorem dX3_leastPatience_26 : decode cX3_leastPatience 26 = .ok (.ireturn, 1) := by decide +kernel
theorem dX3_goodShare_0 : decode cX3_goodShare 0 = .ok (.aload_n 0, 1) := by decide +kernel
theorem dX3_goodShare_1 : decode cX3_goodShare 1 = .ok (.getfield 10, 3) := by decide +kernel
theorem dX3_goodShare_4 : decode cX3_goodShare 4 = .ok (.getfield 134, 3) := by decide +kernel
theorem dX3_goodShare_7 : decode cX3_goodShare 7 = .ok (.aload_n 0, 1) := by decide +kernel
theorem dX3_goodShare_8 : decode cX3_goodShare 8 = .ok (.getfield 10, 3) := by decide +kernel
theorem dX3_goodShare_11 : decode cX3_goodShare 11 = .ok (.getfield 51, 3) := by decide +kernel
theorem dX3_goodShare_14 : decode cX3_goodShare 14 = .ok (.imul, 1) := by decide +kernel
theorem dX3_goodShare_15 : decode cX3_goodShare 15 = .ok (.istore_n 1, 1) := by decide +kernel
theorem dX3_goodShare_16 : decode cX3_goodShare 16 = .ok (.iload_n 1, 1) := by decide +kernel
theorem dX3_goodShare_17 : decode cX3_goodShare 17 = .ok (.ifCond .ne 5, 3) := by decide +kernel
theorem dX3_goodShare_20 : decode cX3_goodShare 20 = .ok (.dconst 0, 1) := by decide +kernel
theorem dX3_goodShare_21 : decode cX3_goodShare 21 = .ok (.dreturn, 1) := by decide +kernel
theorem dX3_goodShare_22 : decode cX3_goodShare 22 = .ok (.iconst 0, 1) := by decide +kernel
theorem dX3_goodShare_23 : decode cX3_goodShare 23 = .ok (.istore_n 2, 1) := by decide +kernel
theorem dX3_goodShare_24 : decode cX3_goodShare 24 = .ok (.iconst 0, 1) := by decide +kernel
theorem dX3_goodShare_25 : decode cX3_goodShare 25 = .ok (.istore_n 3, 1) := by decide +kernel
theorem dX3_goodShare_26 : decode cX3_goodShare 26 = .ok (.iload_n 3, 1) := by decide +kernel
theorem dX3_goodShare_27 : decode cX3_goodShare 27 = .ok (.aload_n 0, 1) := by decide +kernel
theorem dX3_goodShare_28 : decode cX3_goodShare 28 = .ok (.getfield 10, 3) := by decide +kernel
theorem dX3_goodShare_31 : decode cX3_goodShare 31 = .ok (.getfield 51, 3) := by decide +kernel
theorem dX3_goodShare_34 : decode cX3_goodShare 34 = .ok (.if_icmp .ge 25, 3) := by decide +kernel
theorem dX3_goodShare_37 : decode cX3_goodShare 37 = .ok (.iload_n 2, 1) := by decide +kernel
theorem dX3_goodShare_38 : decode cX3_goodShare 38 = .ok (.aload_n 0, 1) := by decide +kernel
theorem dX3_goodShare_39 : decode cX3_goodShare 39 = .ok (.getfield 10, 3) := by decide +kernel
theorem dX3_goodShare_42 : decode cX3_goodShare 42 = .ok (.getfield 180, 3) := by decide +kernel
theorem dX3_goodShare_45 : decode cX3_goodShare 45 = .ok (.iload_n 3, 1) := by decide +kernel
theorem dX3_goodShare_46 : decode cX3_goodShare 46 = .ok (.iconst 4, 1) := by decide +kernel
theorem dX3_goodShare_47 : decode cX3_goodShare 47 = .ok (.imul, 1) := by decide +kernel
theorem dX3_goodShare_48 : decode cX3_goodShare 48 = .ok (.iconst 3, 1) := by decide +kernel
theorem dX3_goodShare_49 : decode cX3_goodShare 49 = .ok (.iadd, 1) := by decide +kernel
theorem dX3_goodShare_50 : decode cX3_goodShare 50 = .ok (.iaload, 1) := by decide +kernel
theorem dX3_goodShare_51 : decode cX3_goodShare 51 = .ok (.iadd, 1) := by decide +kernel
theorem dX3_goodShare_52 : decode cX3_goodShare 52 = .ok (.istore_n 2, 1) := by decide +kernel
theorem dX3_goodShare_53 : decode cX3_goodShare 53 = .ok (.iinc 3 1, 3) := by decide +kernel
theorem dX3_goodShare_56 : decode cX3_goodShare 56 = .ok (.goto (-30), 3) := by decide +kernel
theorem dX3_goodShare_59 : decode cX3_goodShare 59 = .ok (.iload_n 2, 1) := by decide +kernel
theorem dX3_goodShare_60 : decode cX3_goodShare 60 = .ok (.i2d, 1) := by decide +kernel
theorem dX3_goodShare_61 : decode cX3_goodShare 61 = .ok (.iload_n 1, 1) := by decide +kernel
theorem dX3_goodShare_62 : decode cX3_goodShare 62 = .ok (.i2d, 1) := by decide +kernel
theorem dX3_goodShare_63 : decode cX3_goodShare 63 = .ok (.ddiv, 1) := by decide +kernel
theorem dX3_goodShare_64 : decode cX3_goodShare 64 = .ok (.dreturn, 1) := by decide +kernel
theorem dX3_digest_0 : decode cX3_digest 0 = .ok (.ldc2_w 222, 3) := by decide +kernel
theorem dX3_digest_3 : decode cX3_digest 3 = .ok (.lstore_n 1, 1) := by decide +kernel
theorem dX3_digest_4 : decode cX3_digest 4 = .ok (.iconst 0, 1) := by decide +kernel
theorem dX3_digest_5 : decode cX3_digest 5 = .ok (.istore_n 3, 1) := by decide +kernel
theorem dX3_digest_6 : decode cX3_digest 6 = .ok (.iload_n 3, 1) := by decide +kernel
theorem dX3_digest_7 : decode cX3_digest 7 = .ok (.bipush 10, 2) := by decide +kernel
theorem dX3_digest_9 : decode cX3_digest 9 = .ok (.if_icmp .ge 22, 3) := by decide +kernel
theorem dX3_digest_12 : decode cX3_digest 12 = .ok (.ldc2_w 224, 3) := by decide +kernel
theorem dX3_digest_15 : decode cX3_digest 15 = .ok (.lload_n 1, 1) := by decide +kernel
theorem dX3_digest_16 : decode cX3_digest 16 = .ok (.lmul, 1) := by decide +kernel
theorem dX3_digest_17 : decode cX3_digest 17 = .ok (.aload_n 0, 1) := by decide +kernel
theorem dX3_digest_18 : decode cX3_digest 18 = .ok (.iload_n 3, 1) := by decide +kernel
theorem dX3_digest_19 : decode cX3_digest 19 = .ok (.invokevirtual 202, 3) := by decide +kernel
theorem dX3_digest_22 : decode cX3_digest 22 = .ok (.i2l, 1) := by decide +kernel
theorem dX3_digest_23 : decode cX3_digest 23 = .ok (.ladd, 1) := by decide +kernel
theorem dX3_digest_24 : decode cX3_digest 24 = .ok (.lstore_n 1, 1) := by decide +kernel
theorem dX3_digest_25 : decode cX3_digest 25 = .ok (.iinc 3 1, 3) := by decide +kernel
theorem dX3_digest_28 : decode cX3_digest 28 = .ok (.goto (-22), 3) := by decide +kernel
theorem dX3_digest_31 : decode cX3_digest 31 = .ok (.iconst 0, 1) := by decide +kernel
theorem dX3_digest_32 : decode cX3_digest 32 = .ok (.istore_n 3, 1) := by decide +kernel
theorem dX3_digest_33 : decode cX3_digest 33 = .ok (.iload_n 3, 1) := by decide +kernel
theorem dX3_digest_34 : decode cX3_digest 34 = .ok (.aload_n 0, 1) := by decide +kernel
theorem dX3_digest_35 : decode cX3_digest 35 = .ok (.getfield 10, 3) := by decide +kernel
theorem dX3_digest_38 : decode cX3_digest 38 = .ok (.getfield 51, 3) := by decide +kernel
theorem dX3_digest_41 : decode cX3_digest 41 = .ok (.if_icmp .ge 16, 3) := by decide +kernel
theorem dX3_digest_44 : decode cX3_digest 44 = .ok (.aload_n 0, 1) := by decide +kernel
theorem dX3_digest_45 : decode cX3_digest 45 = .ok (.lload_n 1, 1) := by decide +kernel
theorem dX3_digest_46 : decode cX3_digest 46 = .ok (.iload_n 3, 1) := by decide +kernel
theorem dX3_digest_47 : decode cX3_digest 47 = .ok (.invokevirtual 226, 3) := by decide +kernel
theorem dX3_digest_50 : decode cX3_digest 50 = .ok (.lstore_n 1, 1) := by decide +kernel
theorem dX3_digest_51 : decode cX3_digest 51 = .ok (.iinc 3 1, 3) := by decide +kernel
theorem dX3_digest_54 : decode cX3_digest 54 = .ok (.goto (-21), 3) := by decide +kernel
theorem dX3_digest_57 : decode cX3_digest 57 = .ok (.aload_n 0, 1) := by decide +kernel
theorem dX3_digest_58 : decode cX3_digest 58 = .ok (.lload_n 1, 1) := by decide +kernel
theorem dX3_digest_59 : decode cX3_digest 59 = .ok (.invokevirtual 230, 3) := by decide +kernel
theorem dX3_digest_62 : decode cX3_digest 62 = .ok (.lstore_n 1, 1) := by decide +kernel
theorem dX3_digest_63 : decode cX3_digest 63 = .ok (.ldc2_w 224, 3) := by decide +kernel
theorem dX3_digest_66 : decode cX3_digest 66 = .ok (.lload_n 1, 1) := by decide +kernel
theorem dX3_digest_67 : decode cX3_digest 67 = .ok (.lmul, 1) := by decide +kernel
theorem dX3_digest_68 : decode cX3_digest 68 = .ok (.aload_n 0, 1) := by decide +kernel
theorem dX3_digest_69 : decode cX3_digest 69 = .ok (.invokevirtual 234, 3) := by decide +kernel
theorem dX3_digest_72 : decode cX3_digest 72 = .ok (.i2l, 1) := by decide +kernel
theorem dX3_digest_73 : decode cX3_digest 73 = .ok (.ladd, 1) := by decide +kernel
theorem dX3_digest_74 : decode cX3_digest 74 = .ok (.lstore_n 1, 1) := by decide +kernel
theorem dX3_digest_75 : decode cX3_digest 75 = .ok (.ldc2_w 224, 3) := by decide +kernel
theorem dX3_digest_78 : decode cX3_digest 78 = .ok (.lload_n 1, 1) := by decide +kernel
theorem dX3_digest_79 : decode cX3_digest 79 = .ok (.lmul, 1) := by decide +kernel
theorem dX3_digest_80 : decode cX3_digest 80 = .ok (.aload_n 0, 1) := by decide +kernel
theorem dX3_digest_81 : decode cX3_digest 81 = .ok (.invokevirtual 237, 3) := by decide +kernel
theorem dX3_digest_84 : decode cX3_digest 84 = .ok (.i2l, 1) := by decide +kernel
theorem dX3_digest_85 : decode cX3_digest 85 = .ok (.ladd, 1) := by decide +kernel
theorem dX3_digest_86 : decode cX3_digest 86 = .ok (.lstore_n 1, 1) := by decide +kernel
theorem dX3_digest_87 : decode cX3_digest 87 = .ok (.ldc2_w 224, 3) := by decide +kernel
theorem dX3_digest_90 : decode cX3_digest 90 = .ok (.lload_n 1, 1) := by decide +kernel
theorem dX3_digest_91 : decode cX3_digest 91 = .ok (.lmul, 1) := by decide +kernel
theorem dX3_digest_92 : decode cX3_digest 92 = .ok (.aload_n 0, 1) := by decide +kernel
theorem dX3_digest_93 : decode cX3_digest 93 = .ok (.invokevirtual 240, 3) := by decide +kernel
theorem dX3_digest_96 : decode cX3_digest 96 = .ok (.invokestatic 244, 3) := by decide +kernel
theorem dX3_digest_99 : decode cX3_digest 99 = .ok (.ladd, 1) := by decide +kernel
theorem dX3_digest_100 : decode cX3_digest 100 = .ok (.lstore_n 1, 1) := by decide +kernel
theorem dX3_digest_101 : decode cX3_digest 101 = .ok (.aload_n 0, 1) := by decide +kernel
theorem dX3_digest_102 : decode cX3_digest 102 = .ok (.lload_n 1, 1) := by decide +kernel
theorem dX3_digest_103 : decode cX3_digest 103 = .ok (.invokevirtual 248, 3) := by decide +kernel
theorem dX3_digest_106 : decode cX3_digest 106 = .ok (.lreturn, 1) := by decide +kernel
theorem dX3_isRail_0 : decode cX3_isRail 0 = .ok (.iload_n 1, 1) := by decide +kernel
theorem dX3_isRail_1 : decode cX3_isRail 1 = .ok (.ifCond .lt 18, 3) := by decide +kernel
theorem dX3_isRail_4 : decode cX3_isRail 4 = .ok (.iload_n 1, 1) := by decide +kernel
theorem dX3_isRail_5 : decode cX3_isRail 5 = .ok (.aload_n 0, 1) := by decide +kernel
theorem dX3_isRail_6 : decode cX3_isRail 6 = .ok (.getfield 10, 3) := by decide +kernel
theorem dX3_isRail_9 : decode cX3_isRail 9 = .ok (.getfield 51, 3) := by decide +kernel
theorem dX3_isRail_12 : decode cX3_isRail 12 = .ok (.if_icmp .ge 7, 3) := by decide +kernel
theorem dX3_isRail_15 : decode cX3_isRail 15 = .ok (.iconst 1, 1) := by decide +kernel
theorem dX3_isRail_16 : decode cX3_isRail 16 = .ok (.goto 4, 3) := by decide +kernel
theorem dX3_isRail_19 : decode cX3_isRail 19 = .ok (.iconst 0, 1) := by decide +kernel
theorem dX3_isRail_20 : decode cX3_isRail 20 = .ok (.ireturn, 1) := by decide +kernel
theorem dX3_areRails_0 : decode cX3_areRails 0 = .ok (.aload_n 0, 1) := by decide +kernel
theorem dX3_areRails_1 : decode cX3_areRails 1 = .ok (.getfield 10, 3) := by decide +kernel
theorem dX3_areRails_4 : decode cX3_areRails 4 = .ok (.getfield 51, 3) := by decide +kernel
theorem dX3_areRails_7 : decode cX3_areRails 7 = .ok (.iload_n 1, 1) := by decide +kernel
theorem dX3_areRails_8 : decode cX3_areRails 8 = .ok (.invokestatic 86, 3) := by decide +kernel
theorem dX3_areRails_11 : decode cX3_areRails 11 = .ok (.ireturn, 1) := by decide +kernel
theorem dX3_areBelow_0 : decode cX3_areBelow 0 = .ok (.iload_n 1, 1) := by decide +kernel
theorem dX3_areBelow_1 : decode cX3_areBelow 1 = .ok (.iconst 1, 1) := by decide +kernel
theorem dX3_areBelow_2 : decode cX3_areBelow 2 = .ok (.iload_n 0, 1) := by decide +kernel
theorem dX3_areBelow_3 : decode cX3_areBelow 3 = .ok (.ishl, 1) := by decide +kernel
theorem dX3_areBelow_4 : decode cX3_areBelow 4 = .ok (.iconst 1, 1) := by decide +kernel
theorem dX3_areBelow_5 : decode cX3_areBelow 5 = .ok (.isub, 1) := by decide +kernel
theorem dX3_areBelow_6 : decode cX3_areBelow 6 = .ok (.iconst (-1), 1) := by decide +kernel
theorem dX3_areBelow_7 : decode cX3_areBelow 7 = .ok (.ixor, 1) := by decide +kernel
theorem dX3_areBelow_8 : decode cX3_areBelow 8 = .ok (.iand, 1) := by decide +kernel
theorem dX3_areBelow_9 : decode cX3_areBelow 9 = .ok (.ifCond .ne 7, 3) := by decide +kernel
theorem dX3_areBelow_12 : decode cX3_areBelow 12 = .ok (.iconst 1, 1) := by decide +kernel
theorem dX3_areBelow_13 : decode cX3_areBelow 13 = .ok (.goto 4, 3) := by decide +kernel
theorem dX3_areBelow_16 : decode cX3_areBelow 16 = .ok (.iconst 0, 1) := by decide +kernel
theorem dX3_areBelow_17 : decode cX3_areBelow 17 = .ok (.ireturn, 1) := by decide +kernel
theorem dX3_isInRange_0 : decode cX3_isInRange 0 = .ok (.iload_n 1, 1) := by decide +kernel
theorem dX3_isInRange_1 : decode cX3_isInRange 1 = .ok (.getstatic 251, 3) := by decide +kernel
theorem dX3_isInRange_4 : decode cX3_isInRange 4 = .ok (.iload_n 0, 1) := by decide +kernel
theorem dX3_isInRange_5 : decode cX3_isInRange 5 = .ok (.iaload, 1) := by decide +kernel
theorem dX3_isInRange_6 : decode cX3_isInRange 6 = .ok (.if_icmp .lt 16, 3) := by decide +kernel
theorem dX3_isInRange_9 : decode cX3_isInRange 9 = .ok (.iload_n 1, 1) := by decide +kernel
theorem dX3_isInRange_10 : decode cX3_isInRange 10 = .ok (.getstatic 254, 3) := by decide +kernel
theorem dX3_isInRange_13 : decode cX3_isInRange 13 = .ok (.iload_n 0, 1) := by decide +kernel
theorem dX3_isInRange_14 : decode cX3_isInRange 14 = .ok (.iaload, 1) := by decide +kernel
theorem dX3_isInRange_15 : decode cX3_isInRange 15 = .ok (.if_icmp .gt 7, 3) := by decide +kernel
theorem dX3_isInRange_18 : decode cX3_isInRange 18 = .ok (.iconst 1, 1) := by decide +kernel
theorem dX3_isInRange_19 : decode cX3_isInRange 19 = .ok (.goto 4, 3) := by decide +kernel
theorem dX3_isInRange_22 : decode cX3_isInRange 22 = .ok (.iconst 0, 1) := by decide +kernel
theorem dX3_isInRange_23 : decode cX3_isInRange 23 = .ok (.ireturn, 1) := by decide +kernel
theorem dX3_save_0 : decode cX3_save 0 = .ok (.aload_n 0, 1) := by decide +kernel
theorem dX3_save_1 : decode cX3_save 1 = .ok (.getfield 168, 3) := by decide +kernel
theorem dX3_save_4 : decode cX3_save 4 = .ok (.bipush 6, 2) := by decide +kernel
theorem dX3_save_6 : decode cX3_save 6 = .ok (.if_icmp .lt 7, 3) := by decide +kernel
theorem dX3_save_9 : decode cX3_save 9 = .ok (.aload_n 0, 1) := by decide +kernel
theorem dX3_save_10 : decode cX3_save 10 = .ok (.invokevirtual 257, 3) := by decide +kernel
theorem dX3_save_13 : decode cX3_save 13 = .ok (.aload_n 0, 1) := by decide +kernel
theorem dX3_save_14 : decode cX3_save 14 = .ok (.getfield 19, 3) := by decide +kernel
theorem dX3_save_17 : decode cX3_save 17 = .ok (.aload_n 0, 1) := by decide +kernel
theorem dX3_save_18 : decode cX3_save 18 = .ok (.getfield 168, 3) := by decide +kernel
theorem dX3_save_21 : decode cX3_save 21 = .ok (.aaload, 1) := by decide +kernel
theorem dX3_save_22 : decode cX3_save 22 = .ok (.aload_n 0, 1) := by decide +kernel
theorem dX3_save_23 : decode cX3_save 23 = .ok (.getfield 10, 3) := by decide +kernel
theorem dX3_save_26 : decode cX3_save 26 = .ok (.invokevirtual 164, 3) := by decide +kernel
theorem dX3_save_29 : decode cX3_save 29 = .ok (.aload_n 0, 1) := by decide +kernel
theorem dX3_save_30 : decode cX3_save 30 = .ok (.dup, 1) := by decide +kernel
theorem dX3_save_31 : decode cX3_save 31 = .ok (.getfield 168, 3) := by decide +kernel
theorem dX3_save_34 : decode cX3_save 34 = .ok (.iconst 1, 1) := by decide +kernel
theorem dX3_save_35 : decode cX3_save 35 = .ok (.iadd, 1) := by decide +kernel
theorem dX3_save_36 : decode cX3_save 36 = .ok (.putfield 168, 3) := by decide +kernel
theorem dX3_save_39 : decode cX3_save 39 = .ok (.return_, 1) := by decide +kernel
theorem dX3_dropOldestSaved_0 : decode cX3_dropOldestSaved 0 = .ok (.aload_n 0, 1) := by decide +kernel
theorem dX3_dropOldestSaved_1 : decode cX3_dropOldestSaved 1 = .ok (.getfield 19, 3) := by decide +kernel
theorem dX3_dropOldestSaved_4 : decode cX3_dropOldestSaved 4 = .ok (.iconst 0, 1) := by decide +kernel
theorem dX3_dropOldestSaved_5 : decode cX3_dropOldestSaved 5 = .ok (.aaload, 1) := by decide +kernel
theorem dX3_dropOldestSaved_6 : decode cX3_dropOldestSaved 6 = .ok (.astore_n 1, 1) := by decide +kernel
theorem dX3_dropOldestSaved_7 : decode cX3_dropOldestSaved 7 = .ok (.iconst 1, 1) := by decide +kernel
theorem dX3_dropOldestSaved_8 : decode cX3_dropOldestSaved 8 = .ok (.istore_n 2, 1) := by decide +kernel
theorem dX3_dropOldestSaved_9 : decode cX3_dropOldestSaved 9 = .ok (.iload_n 2, 1) := by decide +kernel
theorem dX3_dropOldestSaved_10 : decode cX3_dropOldestSaved 10 = .ok (.bipush 6, 2) := by decide +kernel
theorem dX3_dropOldestSaved_12 : decode cX3_dropOldestSaved 12 = .ok (.if_icmp .ge 23, 3) := by decide +kernel
theorem dX3_dropOldestSaved_15 : decode cX3_dropOldestSaved 15 = .ok (.aload_n 0, 1) := by decide +kernel
theorem dX3_dropOldestSaved_16 : decode cX3_dropOldestSaved 16 = .ok (.getfield 19, 3) := by decide +kernel
theorem dX3_dropOldestSaved_19 : decode cX3_dropOldestSaved 19 = .ok (.iload_n 2, 1) := by decide +kernel
theorem dX3_dropOldestSaved_20 : decode cX3_dropOldestSaved 20 = .ok (.iconst 1, 1) := by decide +kernel
theorem dX3_dropOldestSaved_21 : decode cX3_dropOldestSaved 21 = .ok (.isub, 1) := by decide +kernel
theorem dX3_dropOldestSaved_22 : decode cX3_dropOldestSaved 22 = .ok (.aload_n 0, 1) := by decide +kernel
theorem dX3_dropOldestSaved_23 : decode cX3_dropOldestSaved 23 = .ok (.getfield 19, 3) := by decide +kernel
theorem dX3_dropOldestSaved_26 : decode cX3_dropOldestSaved 26 = .ok (.iload_n 2, 1) := by decide +kernel
theorem dX3_dropOldestSaved_27 : decode cX3_dropOldestSaved 27 = .ok (.aaload, 1) := by decide +kernel
theorem dX3_dropOldestSaved_28 : decode cX3_dropOldestSaved 28 = .ok (.aastore, 1) := by decide +kernel
theorem dX3_dropOldestSaved_29 : decode cX3_dropOldestSaved 29 = .ok (.iinc 2 1, 3) := by decide +kernel
theorem dX3_dropOldestSaved_32 : decode cX3_dropOldestSaved 32 = .ok (.goto (-23), 3) := by decide +kernel
theorem dX3_dropOldestSaved_35 : decode cX3_dropOldestSaved 35 = .ok (.aload_n 0, 1) := by decide +kernel
theorem dX3_dropOldestSaved_36 : decode cX3_dropOldestSaved 36 = .ok (.getfield 19, 3) := by decide +kernel
theorem dX3_dropOldestSaved_39 : decode cX3_dropOldestSaved 39 = .ok (.iconst 5, 1) := by decide +kernel
theorem dX3_dropOldestSaved_40 : decode cX3_dropOldestSaved 40 = .ok (.aload_n 1, 1) := by decide +kernel
theorem dX3_dropOldestSaved_41 : decode cX3_dropOldestSaved 41 = .ok (.aastore, 1) := by decide +kernel
theorem dX3_dropOldestSaved_42 : decode cX3_dropOldestSaved 42 = .ok (.aload_n 0, 1) := by decide +kernel
theorem dX3_dropOldestSaved_43 : decode cX3_dropOldestSaved 43 = .ok (.iconst 5, 1) := by decide +kernel
theorem dX3_dropOldestSaved_44 : decode cX3_dropOldestSaved 44 = .ok (.putfield 168, 3) := by decide +kernel
theorem dX3_dropOldestSaved_47 : decode cX3_dropOldestSaved 47 = .ok (.return_, 1) := by decide +kernel
theorem dX3_readBuffer_0 : decode cX3_readBuffer 0 = .ok (.aload_n 0, 1) := by decide +kernel
theorem dX3_readBuffer_1 : decode cX3_readBuffer 1 = .ok (.getfield 30, 3) := by decide +kernel
theorem dX3_readBuffer_4 : decode cX3_readBuffer 4 = .ok (.invokevirtual 260, 3) := by decide +kernel
theorem dX3_readBuffer_7 : decode cX3_readBuffer 7 = .ok (.iconst 0, 1) := by decide +kernel
theorem dX3_readBuffer_8 : decode cX3_readBuffer 8 = .ok (.istore_n 1, 1) := by decide +kernel
theorem dX3_readBuffer_9 : decode cX3_readBuffer 9 = .ok (.iload_n 1, 1) := by decide +kernel
theorem dX3_readBuffer_10 : decode cX3_readBuffer 10 = .ok (.aload_n 0, 1) := by decide +kernel
theorem dX3_readBuffer_11 : decode cX3_readBuffer 11 = .ok (.getfield 145, 3) := by decide +kernel
theorem dX3_readBuffer_14 : decode cX3_readBuffer 14 = .ok (.if_icmp .ge 27, 3) := by decide +kernel
theorem dX3_readBuffer_17 : decode cX3_readBuffer 17 = .ok (.aload_n 0, 1) := by decide +kernel
theorem dX3_readBuffer_18 : decode cX3_readBuffer 18 = .ok (.getfield 30, 3) := by decide +kernel
theorem dX3_readBuffer_21 : decode cX3_readBuffer 21 = .ok (.aload_n 0, 1) := by decide +kernel
theorem dX3_readBuffer_22 : decode cX3_readBuffer 22 = .ok (.getfield 23, 3) := by decide +kernel
theorem dX3_readBuffer_25 : decode cX3_readBuffer 25 = .ok (.iload_n 1, 1) := by decide +kernel
theorem dX3_readBuffer_26 : decode cX3_readBuffer 26 = .ok (.iaload, 1) := by decide +kernel
theorem dX3_readBuffer_27 : decode cX3_readBuffer 27 = .ok (.invokevirtual 263, 3) := by decide +kernel
theorem dX3_readBuffer_30 : decode cX3_readBuffer 30 = .ok (.ifCond .ne 5, 3) := by decide +kernel
theorem dX3_readBuffer_33 : decode cX3_readBuffer 33 = .ok (.iload_n 1, 1) := by decide +kernel
theorem dX3_readBuffer_34 : decode cX3_readBuffer 34 = .ok (.ireturn, 1) := by decide +kernel
theorem dX3_readBuffer_35 : decode cX3_readBuffer 35 = .ok (.iinc 1 1, 3) := by decide +kernel
theorem dX3_readBuffer_38 : decode cX3_readBuffer 38 = .ok (.goto (-29), 3) := by decide +kernel
theorem dX3_readBuffer_41 : decode cX3_readBuffer 41 = .ok (.aload_n 0, 1) := by decide +kernel
theorem dX3_readBuffer_42 : decode cX3_readBuffer 42 = .ok (.getfield 145, 3) := by decide +kernel
theorem dX3_readBuffer_45 : decode cX3_readBuffer 45 = .ok (.ireturn, 1) := by decide +kernel
theorem dX3_addTextToFuture_0 : decode cX3_addTextToFuture 0 = .ok (.aload_n 0, 1) := by decide +kernel
theorem dX3_addTextToFuture_1 : decode cX3_addTextToFuture 1 = .ok (.getfield 16, 3) := by decide +kernel
theorem dX3_addTextToFuture_4 : decode cX3_addTextToFuture 4 = .ok (.aload_n 0, 1) := by decide +kernel
theorem dX3_addTextToFuture_5 : decode cX3_addTextToFuture 5 = .ok (.getfield 10, 3) := by decide +kernel
theorem dX3_addTextToFuture_8 : decode cX3_addTextToFuture 8 = .ok (.invokevirtual 164, 3) := by decide +kernel
theorem dX3_addTextToFuture_11 : decode cX3_addTextToFuture 11 = .ok (.aload_n 0, 1) := by decide +kernel
theorem dX3_addTextToFuture_12 : decode cX3_addTextToFuture 12 = .ok (.getfield 30, 3) := by decide +kernel
theorem dX3_addTextToFuture_15 : decode cX3_addTextToFuture 15 = .ok (.invokevirtual 260, 3) := by decide +kernel
theorem dX3_addTextToFuture_18 : decode cX3_addTextToFuture 18 = .ok (.iconst 0, 1) := by decide +kernel
theorem dX3_addTextToFuture_19 : decode cX3_addTextToFuture 19 = .ok (.istore_n 1, 1) := by decide +kernel
theorem dX3_addTextToFuture_20 : decode cX3_addTextToFuture 20 = .ok (.iload_n 1, 1) := by decide +kernel
theorem dX3_addTextToFuture_21 : decode cX3_addTextToFuture 21 = .ok (.aload_n 0, 1) := by decide +kernel
theorem dX3_addTextToFuture_22 : decode cX3_addTextToFuture 22 = .ok (.getfield 145, 3) := by decide +kernel
theorem dX3_addTextToFuture_25 : decode cX3_addTextToFuture 25 = .ok (.if_icmp .ge 43, 3) := by decide +kernel
theorem dX3_addTextToFuture_28 : decode cX3_addTextToFuture 28 = .ok (.aload_n 0, 1) := by decide +kernel
theorem dX3_addTextToFuture_29 : decode cX3_addTextToFuture 29 = .ok (.getfield 23, 3) := by decide +kernel
theorem dX3_addTextToFuture_32 : decode cX3_addTextToFuture 32 = .ok (.iload_n 1, 1) := by decide +kernel
theorem dX3_addTextToFuture_33 : decode cX3_addTextToFuture 33 = .ok (.iaload, 1) := by decide +kernel
theorem dX3_addTextToFuture_34 : decode cX3_addTextToFuture 34 = .ok (.bipush 59, 2) := by decide +kernel
theorem dX3_addTextToFuture_36 : decode cX3_addTextToFuture 36 = .ok (.if_icmp .ne 12, 3) := by decide +kernel
theorem dX3_addTextToFuture_39 : decode cX3_addTextToFuture 39 = .ok (.aload_n 0, 1) := by decide +kernel
theorem dX3_addTextToFuture_40 : decode cX3_addTextToFuture 40 = .ok (.invokevirtual 266, 3) := by decide +kernel
theorem dX3_addTextToFuture_43 : decode cX3_addTextToFuture 43 = .ok (.ifCond .ne 5, 3) := by decide +kernel
theorem dX3_addTextToFuture_46 : decode cX3_addTextToFuture 46 = .ok (.iconst 0, 1) := by decide +kernel
theorem dX3_addTextToFuture_47 : decode cX3_addTextToFuture 47 = .ok (.ireturn, 1) := by decide +kernel
theorem dX3_addTextToFuture_48 : decode cX3_addTextToFuture 48 = .ok (.aload_n 0, 1) := by decide +kernel
theorem dX3_addTextToFuture_49 : decode cX3_addTextToFuture 49 = .ok (.getfield 30, 3) := by decide +kernel
theorem dX3_addTextToFuture_52 : decode cX3_addTextToFuture 52 = .ok (.aload_n 0, 1) := by decide +kernel
theorem dX3_addTextToFuture_53 : decode cX3_addTextToFuture 53 = .ok (.getfield 23, 3) := by decide +kernel
theorem dX3_addTextToFuture_56 : decode cX3_addTextToFuture 56 = .ok (.iload_n 1, 1) := by decide +kernel
theorem dX3_addTextToFuture_57 : decode cX3_addTextToFuture 57 = .ok (.iaload, 1) := by decide +kernel
theorem dX3_addTextToFuture_58 : decode cX3_addTextToFuture 58 = .ok (.invokevirtual 263, 3) := by decide +kernel
theorem dX3_addTextToFuture_61 : decode cX3_addTextToFuture 61 = .ok (.pop, 1) := by decide +kernel
theorem dX3_addTextToFuture_62 : decode cX3_addTextToFuture 62 = .ok (.iinc 1 1, 3) := by decide +kernel
theorem dX3_addTextToFuture_65 : decode cX3_addTextToFuture 65 = .ok (.goto (-45), 3) := by decide +kernel
theorem dX3_addTextToFuture_68 : decode cX3_addTextToFuture 68 = .ok (.aload_n 0, 1) := by decide +kernel
theorem dX3_addTextToFuture_69 : decode cX3_addTextToFuture 69 = .ok (.invokevirtual 266, 3) := by decide +kernel
theorem dX3_addTextToFuture_72 : decode cX3_addTextToFuture 72 = .ok (.ireturn, 1) := by decide +kernel
theorem dX3_addReadRailToFuture_0 : decode cX3_addReadRailToFuture 0 = .ok (.aload_n 0, 1) := by decide +kernel
theorem dX3_addReadRailToFuture_1 : decode cX3_addReadRailToFuture 1 = .ok (.getfield 16, 3) := by decide +kernel
theorem dX3_addReadRailToFuture_4 : decode cX3_addReadRailToFuture 4 = .ok (.getfield 51, 3) := by decide +kernel
theorem dX3_addReadRailToFuture_7 : decode cX3_addReadRailToFuture 7 = .ok (.bipush 8, 2) := by decide +kernel
theorem dX3_addReadRailToFuture_9 : decode cX3_addReadRailToFuture 9 = .ok (.if_icmp .ge 23, 3) := by decide +kernel
theorem dX3_addReadRailToFuture_12 : decode cX3_addReadRailToFuture 12 = .ok (.aload_n 0, 1) := by decide +kernel
theorem dX3_addReadRailToFuture_13 : decode cX3_addReadRailToFuture 13 = .ok (.getfield 16, 3) := by decide +kernel
theorem dX3_addReadRailToFuture_16 : decode cX3_addReadRailToFuture 16 = .ok (.getfield 51, 3) := by decide +kernel
theorem dX3_addReadRailToFuture_19 : decode cX3_addReadRailToFuture 19 = .ok (.aload_n 0, 1) := by decide +kernel
theorem dX3_addReadRailToFuture_20 : decode cX3_addReadRailToFuture 20 = .ok (.getfield 30, 3) := by decide +kernel
theorem dX3_addReadRailToFuture_23 : decode cX3_addReadRailToFuture 23 = .ok (.getfield 269, 3) := by decide +kernel
theorem dX3_addReadRailToFuture_26 : decode cX3_addReadRailToFuture 26 = .ok (.invokestatic 86, 3) := by decide +kernel
theorem dX3_addReadRailToFuture_29 : decode cX3_addReadRailToFuture 29 = .ok (.ifCond .ne 5, 3) := by decide +kernel
theorem dX3_addReadRailToFuture_32 : decode cX3_addReadRailToFuture 32 = .ok (.iconst 0, 1) := by decide +kernel
theorem dX3_addReadRailToFuture_33 : decode cX3_addReadRailToFuture 33 = .ok (.ireturn, 1) := by decide +kernel
theorem dX3_addReadRailToFuture_34 : decode cX3_addReadRailToFuture 34 = .ok (.aload_n 0, 1) := by decide +kernel
theorem dX3_addReadRailToFuture_35 : decode cX3_addReadRailToFuture 35 = .ok (.getfield 16, 3) := by decide +kernel
theorem dX3_addReadRailToFuture_38 : decode cX3_addReadRailToFuture 38 = .ok (.aload_n 0, 1) := by decide +kernel
theorem dX3_addReadRailToFuture_39 : decode cX3_addReadRailToFuture 39 = .ok (.getfield 30, 3) := by decide +kernel
theorem dX3_addReadRailToFuture_42 : decode cX3_addReadRailToFuture 42 = .ok (.getfield 271, 3) := by decide +kernel
theorem dX3_addReadRailToFuture_45 : decode cX3_addReadRailToFuture 45 = .ok (.iconst 0, 1) := by decide +kernel
theorem dX3_addReadRailToFuture_46 : decode cX3_addReadRailToFuture 46 = .ok (.iaload, 1) := by decide +kernel
theorem dX3_addReadRailToFuture_47 : decode cX3_addReadRailToFuture 47 = .ok (.aload_n 0, 1) := by decide +kernel
theorem dX3_addReadRailToFuture_48 : decode cX3_addReadRailToFuture 48 = .ok (.getfield 30, 3) := by decide +kernel
theorem dX3_addReadRailToFuture_51 : decode cX3_addReadRailToFuture 51 = .ok (.getfield 271, 3) := by decide +kernel
theorem dX3_addReadRailToFuture_54 : decode cX3_addReadRailToFuture 54 = .ok (.iconst 1, 1) := by decide +kernel
theorem dX3_addReadRailToFuture_55 : decode cX3_addReadRailToFuture 55 = .ok (.iaload, 1) := by decide +kernel
theorem dX3_addReadRailToFuture_56 : decode cX3_addReadRailToFuture 56 = .ok (.aload_n 0, 1) := by decide +kernel
theorem dX3_addReadRailToFuture_57 : decode cX3_addReadRailToFuture 57 = .ok (.getfield 30, 3) := by decide +kernel
theorem dX3_addReadRailToFuture_60 : decode cX3_addReadRailToFuture 60 = .ok (.getfield 271, 3) := by decide +kernel
theorem dX3_addReadRailToFuture_63 : decode cX3_addReadRailToFuture 63 = .ok (.iconst 2, 1) := by decide +kernel
theorem dX3_addReadRailToFuture_64 : decode cX3_addReadRailToFuture 64 = .ok (.iaload, 1) := by decide +kernel
theorem dX3_addReadRailToFuture_65 : decode cX3_addReadRailToFuture 65 = .ok (.aload_n 0, 1) := by decide +kernel
theorem dX3_addReadRailToFuture_66 : decode cX3_addReadRailToFuture 66 = .ok (.getfield 30, 3) := by decide +kernel
theorem dX3_addReadRailToFuture_69 : decode cX3_addReadRailToFuture 69 = .ok (.getfield 269, 3) := by decide +kernel
theorem dX3_addReadRailToFuture_72 : decode cX3_addReadRailToFuture 72 = .ok (.invokevirtual 63, 3) := by decide +kernel
theorem dX3_addReadRailToFuture_75 : decode cX3_addReadRailToFuture 75 = .ok (.iconst 1, 1) := by decide +kernel
theorem dX3_addReadRailToFuture_76 : decode cX3_addReadRailToFuture 76 = .ok (.ireturn, 1) := by decide +kernel
theorem dX3_countOf_0 : decode cX3_countOf 0 = .ok (.iload_n 1, 1) := by decide +kernel
theorem dX3_countOf_1 : decode cX3_countOf 1 = .ok (.tableswitch 125 0 8 #[51, 59, 67, 75, 83, 92, 101, 112, 120], 51) := by decide +kernel
theorem dX3_countOf_52 : decode cX3_countOf 52 = .ok (.aload_n 0, 1) := by decide +kernel
theorem dX3_countOf_53 : decode cX3_countOf 53 = .ok (.getfield 10, 3) := by decide +kernel
theorem dX3_countOf_56 : decode cX3_countOf 56 = .ok (.getfield 51, 3) := by decide +kernel
theorem dX3_countOf_59 : decode cX3_countOf 59 = .ok (.ireturn, 1) := by decide +kernel
theorem dX3_countOf_60 : decode cX3_countOf 60 = .ok (.aload_n 0, 1) := by decide +kernel
theorem dX3_countOf_61 : decode cX3_countOf 61 = .ok (.getfield 10, 3) := by decide +kernel
theorem dX3_countOf_64 : decode cX3_countOf 64 = .ok (.getfield 134, 3) := by decide +kernel
theorem dX3_countOf_67 : decode cX3_countOf 67 = .ok (.ireturn, 1) := by decide +kernel
theorem dX3_countOf_68 : decode cX3_countOf 68 = .ok (.aload_n 0, 1) := by decide +kernel
theorem dX3_countOf_69 : decode cX3_countOf 69 = .ok (.getfield 10, 3) := by decide +kernel
theorem dX3_countOf_72 : decode cX3_countOf 72 = .ok (.getfield 101, 3) := by decide +kernel
theorem dX3_countOf_75 : decode cX3_countOf 75 = .ok (.ireturn, 1) := by decide +kernel
theorem dX3_countOf_76 : decode cX3_countOf 76 = .ok (.aload_n 0, 1) := by decide +kernel
theorem dX3_countOf_77 : decode cX3_countOf 77 = .ok (.getfield 10, 3) := by decide +kernel
theorem dX3_countOf_80 : decode cX3_countOf 80 = .ok (.getfield 106, 3) := by decide +kernel
theorem dX3_countOf_83 : decode cX3_countOf 83 = .ok (.ireturn, 1) := by decide +kernel
theorem dX3_countOf_84 : decode cX3_countOf 84 = .ok (.aload_n 0, 1) := by decide +kernel
theorem dX3_countOf_85 : decode cX3_countOf 85 = .ok (.getfield 10, 3) := by decide +kernel
theorem dX3_countOf_88 : decode cX3_countOf 88 = .ok (.iconst 3, 1) := by decide +kernel
theorem dX3_countOf_89 : decode cX3_countOf 89 = .ok (.invokevirtual 205, 3) := by decide +kernel
theorem dX3_countOf_92 : decode cX3_countOf 92 = .ok (.ireturn, 1) := by decide +kernel
theorem dX3_countOf_93 : decode cX3_countOf 93 = .ok (.aload_n 0, 1) := by decide +kernel
theorem dX3_countOf_94 : decode cX3_countOf 94 = .ok (.getfield 10, 3) := by decide +kernel
theorem dX3_countOf_97 : decode cX3_countOf 97 = .ok (.iconst 5, 1) := by decide +kernel
theorem dX3_countOf_98 : decode cX3_countOf 98 = .ok (.invokevirtual 205, 3) := by decide +kernel
theorem dX3_countOf_101 : decode cX3_countOf 101 = .ok (.ireturn, 1) := by decide +kernel
theorem dX3_countOf_102 : decode cX3_countOf 102 = .ok (.aload_n 0, 1) := by decide +kernel
theorem dX3_countOf_103 : decode cX3_countOf 103 = .ok (.getfield 10, 3) := by decide +kernel
theorem dX3_countOf_106 : decode cX3_countOf 106 = .ok (.getfield 187, 3) := by decide +kernel
theorem dX3_countOf_109 : decode cX3_countOf 109 = .ok (.getfield 191, 3) := by decide +kernel
theorem dX3_countOf_112 : decode cX3_countOf 112 = .ok (.ireturn, 1) := by decide +kernel
theorem dX3_countOf_113 : decode cX3_countOf 113 = .ok (.aload_n 0, 1) := by decide +kernel
theorem dX3_countOf_114 : decode cX3_countOf 114 = .ok (.getfield 10, 3) := by decide +kernel
theorem dX3_countOf_117 : decode cX3_countOf 117 = .ok (.invokevirtual 274, 3) := by decide +kernel
theorem dX3_countOf_120 : decode cX3_countOf 120 = .ok (.ireturn, 1) := by decide +kernel
theorem dX3_countOf_121 : decode cX3_countOf 121 = .ok (.aload_n 0, 1) := by decide +kernel
theorem dX3_countOf_122 : decode cX3_countOf 122 = .ok (.getfield 168, 3) := by decide +kernel
theorem dX3_countOf_125 : decode cX3_countOf 125 = .ok (.ireturn, 1) := by decide +kernel
theorem dX3_countOf_126 : decode cX3_countOf 126 = .ok (.aload_n 0, 1) := by decide +kernel
theorem dX3_countOf_127 : decode cX3_countOf 127 = .ok (.getfield 16, 3) := by decide +kernel
theorem dX3_countOf_130 : decode cX3_countOf 130 = .ok (.aload_n 0, 1) := by decide +kernel
theorem dX3_countOf_131 : decode cX3_countOf 131 = .ok (.getfield 10, 3) := by decide +kernel
theorem dX3_countOf_134 : decode cX3_countOf 134 = .ok (.invokevirtual 164, 3) := by decide +kernel
theorem dX3_countOf_137 : decode cX3_countOf 137 = .ok (.aload_n 0, 1) := by decide +kernel
theorem dX3_countOf_138 : decode cX3_countOf 138 = .ok (.getfield 16, 3) := by decide +kernel
theorem dX3_countOf_141 : decode cX3_countOf 141 = .ok (.invokevirtual 139, 3) := by decide +kernel
theorem dX3_countOf_144 : decode cX3_countOf 144 = .ok (.pop, 1) := by decide +kernel
theorem dX3_countOf_145 : decode cX3_countOf 145 = .ok (.aload_n 0, 1) := by decide +kernel
theorem dX3_countOf_146 : decode cX3_countOf 146 = .ok (.getfield 16, 3) := by decide +kernel
theorem dX3_countOf_149 : decode cX3_countOf 149 = .ok (.invokevirtual 277, 3) := by decide +kernel
theorem dX3_countOf_152 : decode cX3_countOf 152 = .ok (.ifCond .eq 7, 3) := by decide +kernel
theorem dX3_countOf_155 : decode cX3_countOf 155 = .ok (.iconst 1, 1) := by decide +kernel
theorem dX3_countOf_156 : decode cX3_countOf 156 = .ok (.goto 4, 3) := by decide +kernel
theorem dX3_countOf_159 : decode cX3_countOf 159 = .ok (.iconst 0, 1) := by decide +kernel
theorem dX3_countOf_160 : decode cX3_countOf 160 = .ok (.ireturn, 1) := by decide +kernel
theorem dX3_hashOfRail_0 : decode cX3_hashOfRail 0 = .ok (.lload_n 1, 1) := by decide +kernel
theorem dX3_hashOfRail_1 : decode cX3_hashOfRail 1 = .ok (.lstore 4, 2) := by decide +kernel
theorem dX3_hashOfRail_3 : decode cX3_hashOfRail 3 = .ok (.iconst 0, 1) := by decide +kernel
theorem dX3_hashOfRail_4 : decode cX3_hashOfRail 4 = .ok (.istore 6, 2) := by decide +kernel
theorem dX3_hashOfRail_6 : decode cX3_hashOfRail 6 = .ok (.iload 6, 2) := by decide +kernel
theorem dX3_hashOfRail_8 : decode cX3_hashOfRail 8 = .ok (.bipush 19, 2) := by decide +kernel
theorem dX3_hashOfRail_10 : decode cX3_hashOfRail 10 = .ok (.if_icmp .ge 29, 3) := by decide +kernel
theorem dX3_hashOfRail_13 : decode cX3_hashOfRail 13 = .ok (.ldc2_w 224, 3) := by decide +kernel
theorem dX3_hashOfRail_16 : decode cX3_hashOfRail 16 = .ok (.lload 4, 2) := by decide +kernel
theorem dX3_hashOfRail_18 : decode cX3_hashOfRail 18 = .ok (.lmul, 1) := by decide +kernel
theorem dX3_hashOfRail_19 : decode cX3_hashOfRail 19 = .ok (.aload_n 0, 1) := by decide +kernel
theorem dX3_hashOfRail_20 : decode cX3_hashOfRail 20 = .ok (.getfield 10, 3) := by decide +kernel
theorem dX3_hashOfRail_23 : decode cX3_hashOfRail 23 = .ok (.iload_n 3, 1) := by decide +kernel
theorem dX3_hashOfRail_24 : decode cX3_hashOfRail 24 = .ok (.iload 6, 2) := by decide +kernel
theorem dX3_hashOfRail_26 : decode cX3_hashOfRail 26 = .ok (.invokevirtual 175, 3) := by decide +kernel
theorem dX3_hashOfRail_29 : decode cX3_hashOfRail 29 = .ok (.i2l, 1) := by decide +kernel
theorem dX3_hashOfRail_30 : decode cX3_hashOfRail 30 = .ok (.ladd, 1) := by decide +kernel
theorem dX3_hashOfRail_31 : decode cX3_hashOfRail 31 = .ok (.lstore 4, 2) := by decide +kernel
theorem dX3_hashOfRail_33 : decode cX3_hashOfRail 33 = .ok (.iinc 6 1, 3) := by decide +kernel
theorem dX3_hashOfRail_36 : decode cX3_hashOfRail 36 = .ok (.goto (-30), 3) := by decide +kernel
theorem dX3_hashOfRail_39 : decode cX3_hashOfRail 39 = .ok (.iconst 0, 1) := by decide +kernel
theorem dX3_hashOfRail_40 : decode cX3_hashOfRail 40 = .ok (.istore 6, 2) := by decide +kernel
theorem dX3_hashOfRail_42 : decode cX3_hashOfRail 42 = .ok (.iload 6, 2) := by decide +kernel
theorem dX3_hashOfRail_44 : decode cX3_hashOfRail 44 = .ok (.iconst 4, 1) := by decide +kernel
theorem dX3_hashOfRail_45 : decode cX3_hashOfRail 45 = .ok (.if_icmp .ge 33, 3) := by decide +kernel
theorem dX3_hashOfRail_48 : decode cX3_hashOfRail 48 = .ok (.ldc2_w 224, 3) := by decide +kernel
theorem dX3_hashOfRail_51 : decode cX3_hashOfRail 51 = .ok (.lload 4, 2) := by decide +kernel
theorem dX3_hashOfRail_53 : decode cX3_hashOfRail 53 = .ok (.lmul, 1) := by decide +kernel
theorem dX3_hashOfRail_54 : decode cX3_hashOfRail 54 = .ok (.aload_n 0, 1) := by decide +kernel
theorem dX3_hashOfRail_55 : decode cX3_hashOfRail 55 = .ok (.getfield 10, 3) := by decide +kernel
theorem dX3_hashOfRail_58 : decode cX3_hashOfRail 58 = .ok (.getfield 180, 3) := by decide +kernel
theorem dX3_hashOfRail_61 : decode cX3_hashOfRail 61 = .ok (.iload_n 3, 1) := by decide +kernel
theorem dX3_hashOfRail_62 : decode cX3_hashOfRail 62 = .ok (.iconst 4, 1) := by decide +kernel
theorem dX3_hashOfRail_63 : decode cX3_hashOfRail 63 = .ok (.imul, 1) := by decide +kernel
theorem dX3_hashOfRail_64 : decode cX3_hashOfRail 64 = .ok (.iload 6, 2) := by decide +kernel
theorem dX3_hashOfRail_66 : decode cX3_hashOfRail 66 = .ok (.iadd, 1) := by decide +kernel
theorem dX3_hashOfRail_67 : decode cX3_hashOfRail 67 = .ok (.iaload, 1) := by decide +kernel
theorem dX3_hashOfRail_68 : decode cX3_hashOfRail 68 = .ok (.i2l, 1) := by decide +kernel
theorem dX3_hashOfRail_69 : decode cX3_hashOfRail 69 = .ok (.ladd, 1) := by decide +kernel
theorem dX3_hashOfRail_70 : decode cX3_hashOfRail 70 = .ok (.lstore 4, 2) := by decide +kernel
theorem dX3_hashOfRail_72 : decode cX3_hashOfRail 72 = .ok (.iinc 6 1, 3) := by decide +kernel
theorem dX3_hashOfRail_75 : decode cX3_hashOfRail 75 = .ok (.goto (-33), 3) := by decide +kernel
theorem dX3_hashOfRail_78 : decode cX3_hashOfRail 78 = .ok (.ldc2_w 224, 3) := by decide +kernel
theorem dX3_hashOfRail_81 : decode cX3_hashOfRail 81 = .ok (.lload 4, 2) := by decide +kernel
theorem dX3_hashOfRail_83 : decode cX3_hashOfRail 83 = .ok (.lmul, 1) := by decide +kernel
theorem dX3_hashOfRail_84 : decode cX3_hashOfRail 84 = .ok (.aload_n 0, 1) := by decide +kernel
theorem dX3_hashOfRail_85 : decode cX3_hashOfRail 85 = .ok (.getfield 10, 3) := by decide +kernel
theorem dX3_hashOfRail_88 : decode cX3_hashOfRail 88 = .ok (.iload_n 3, 1) := by decide +kernel
theorem dX3_hashOfRail_89 : decode cX3_hashOfRail 89 = .ok (.invokevirtual 219, 3) := by decide +kernel
theorem dX3_hashOfRail_92 : decode cX3_hashOfRail 92 = .ok (.i2l, 1) := by decide +kernel
theorem dX3_hashOfRail_93 : decode cX3_hashOfRail 93 = .ok (.ladd, 1) := by decide +kernel
theorem dX3_hashOfRail_94 : decode cX3_hashOfRail 94 = .ok (.lreturn, 1) := by decide +kernel
theorem dX3_hashOfLog_0 : decode cX3_hashOfLog 0 = .ok (.lload_n 1, 1) := by decide +kernel
theorem dX3_hashOfLog_1 : decode cX3_hashOfLog 1 = .ok (.lstore_n 3, 1) := by decide +kernel
theorem dX3_hashOfLog_2 : decode cX3_hashOfLog 2 = .ok (.iconst 0, 1) := by decide +kernel
theorem dX3_hashOfLog_3 : decode cX3_hashOfLog 3 = .ok (.istore 5, 2) := by decide +kernel
theorem dX3_hashOfLog_5 : decode cX3_hashOfLog 5 = .ok (.iload 5, 2) := by decide +kernel
theorem dX3_hashOfLog_7 : decode cX3_hashOfLog 7 = .ok (.aload_n 0, 1) := by decide +kernel
theorem dX3_hashOfLog_8 : decode cX3_hashOfLog 8 = .ok (.getfield 10, 3) := by decide +kernel
theorem dX3_hashOfLog_11 : decode cX3_hashOfLog 11 = .ok (.getfield 187, 3) := by decide +kernel
theorem dX3_hashOfLog_14 : decode cX3_hashOfLog 14 = .ok (.getfield 191, 3) := by decide +kernel
theorem dX3_hashOfLog_17 : decode cX3_hashOfLog 17 = .ok (.if_icmp .ge 46, 3) := by decide +kernel
theorem dX3_hashOfLog_20 : decode cX3_hashOfLog 20 = .ok (.iconst 0, 1) := by decide +kernel
theorem dX3_hashOfLog_21 : decode cX3_hashOfLog 21 = .ok (.istore 6, 2) := by decide +kernel
theorem dX3_hashOfLog_23 : decode cX3_hashOfLog 23 = .ok (.iload 6, 2) := by decide +kernel
theorem dX3_hashOfLog_25 : decode cX3_hashOfLog 25 = .ok (.iconst 4, 1) := by decide +kernel
theorem dX3_hashOfLog_26 : decode cX3_hashOfLog 26 = .ok (.if_icmp .ge 31, 3) := by decide +kernel
theorem dX3_hashOfLog_29 : decode cX3_hashOfLog 29 = .ok (.ldc2_w 224, 3) := by decide +kernel
theorem dX3_hashOfLog_32 : decode cX3_hashOfLog 32 = .ok (.lload_n 3, 1) := by decide +kernel
theorem dX3_hashOfLog_33 : decode cX3_hashOfLog 33 = .ok (.lmul, 1) := by decide +kernel
theorem dX3_hashOfLog_34 : decode cX3_hashOfLog 34 = .ok (.aload_n 0, 1) := by decide +kernel
theorem dX3_hashOfLog_35 : decode cX3_hashOfLog 35 = .ok (.getfield 10, 3) := by decide +kernel
theorem dX3_hashOfLog_38 : decode cX3_hashOfLog 38 = .ok (.getfield 187, 3) := by decide +kernel
theorem dX3_hashOfLog_41 : decode cX3_hashOfLog 41 = .ok (.iload 5, 2) := by decide +kernel
theorem dX3_hashOfLog_43 : decode cX3_hashOfLog 43 = .ok (.iload 6, 2) := by decide +kernel
theorem dX3_hashOfLog_45 : decode cX3_hashOfLog 45 = .ok (.invokevirtual 194, 3) := by decide +kernel
theorem dX3_hashOfLog_48 : decode cX3_hashOfLog 48 = .ok (.i2l, 1) := by decide +kernel
theorem dX3_hashOfLog_49 : decode cX3_hashOfLog 49 = .ok (.ladd, 1) := by decide +kernel
theorem dX3_hashOfLog_50 : decode cX3_hashOfLog 50 = .ok (.lstore_n 3, 1) := by decide +kernel
theorem dX3_hashOfLog_51 : decode cX3_hashOfLog 51 = .ok (.iinc 6 1, 3) := by decide +kernel
theorem dX3_hashOfLog_54 : decode cX3_hashOfLog 54 = .ok (.goto (-31), 3) := by decide +kernel
theorem dX3_hashOfLog_57 : decode cX3_hashOfLog 57 = .ok (.iinc 5 1, 3) := by decide +kernel
theorem dX3_hashOfLog_60 : decode cX3_hashOfLog 60 = .ok (.goto (-55), 3) := by decide +kernel
theorem dX3_hashOfLog_63 : decode cX3_hashOfLog 63 = .ok (.lload_n 3, 1) := by decide +kernel
theorem dX3_hashOfLog_64 : decode cX3_hashOfLog 64 = .ok (.lreturn, 1) := by decide +kernel
theorem dX3_hashOfBuffer_0 : decode cX3_hashOfBuffer 0 = .ok (.ldc2_w 224, 3) := by decide +kernel
theorem dX3_hashOfBuffer_3 : decode cX3_hashOfBuffer 3 = .ok (.lload_n 1, 1) := by decide +kernel
theorem dX3_hashOfBuffer_4 : decode cX3_hashOfBuffer 4 = .ok (.lmul, 1) := by decide +kernel
theorem dX3_hashOfBuffer_5 : decode cX3_hashOfBuffer 5 = .ok (.aload_n 0, 1) := by decide +kernel
theorem dX3_hashOfBuffer_6 : decode cX3_hashOfBuffer 6 = .ok (.getfield 145, 3) := by decide +kernel
theorem dX3_hashOfBuffer_9 : decode cX3_hashOfBuffer 9 = .ok (.i2l, 1) := by decide +kernel
theorem dX3_hashOfBuffer_10 : decode cX3_hashOfBuffer 10 = .ok (.ladd, 1) := by decide +kernel
theorem dX3_hashOfBuffer_11 : decode cX3_hashOfBuffer 11 = .ok (.lstore_n 3, 1) := by decide +kernel
theorem dX3_hashOfBuffer_12 : decode cX3_hashOfBuffer 12 = .ok (.iconst 0, 1) := by decide +kernel
theorem dX3_hashOfBuffer_13 : decode cX3_hashOfBuffer 13 = .ok (.istore 5, 2) := by decide +kernel
theorem dX3_hashOfBuffer_15 : decode cX3_hashOfBuffer 15 = .ok (.iload 5, 2) := by decide +kernel
theorem dX3_hashOfBuffer_17 : decode cX3_hashOfBuffer 17 = .ok (.aload_n 0, 1) := by decide +kernel
theorem dX3_hashOfBuffer_18 : decode cX3_hashOfBuffer 18 = .ok (.getfield 145, 3) := by decide +kernel
theorem dX3_hashOfBuffer_21 : decode cX3_hashOfBuffer 21 = .ok (.if_icmp .ge 24, 3) := by decide +kernel
theorem dX3_hashOfBuffer_24 : decode cX3_hashOfBuffer 24 = .ok (.ldc2_w 224, 3) := by decide +kernel
theorem dX3_hashOfBuffer_27 : decode cX3_hashOfBuffer 27 = .ok (.lload_n 3, 1) := by decide +kernel
theorem dX3_hashOfBuffer_28 : decode cX3_hashOfBuffer 28 = .ok (.lmul, 1) := by decide +kernel
theorem dX3_hashOfBuffer_29 : decode cX3_hashOfBuffer 29 = .ok (.aload_n 0, 1) := by decide +kernel
theorem dX3_hashOfBuffer_30 : decode cX3_hashOfBuffer 30 = .ok (.getfield 23, 3) := by decide +kernel
theorem dX3_hashOfBuffer_33 : decode cX3_hashOfBuffer 33 = .ok (.iload 5, 2) := by decide +kernel
theorem dX3_hashOfBuffer_35 : decode cX3_hashOfBuffer 35 = .ok (.iaload, 1) := by decide +kernel
theorem dX3_hashOfBuffer_36 : decode cX3_hashOfBuffer 36 = .ok (.i2l, 1) := by decide +kernel
theorem dX3_hashOfBuffer_37 : decode cX3_hashOfBuffer 37 = .ok (.ladd, 1) := by decide +kernel
theorem dX3_hashOfBuffer_38 : decode cX3_hashOfBuffer 38 = .ok (.lstore_n 3, 1) := by decide +kernel
theorem dX3_hashOfBuffer_39 : decode cX3_hashOfBuffer 39 = .ok (.iinc 5 1, 3) := by decide +kernel
theorem dX3_hashOfBuffer_42 : decode cX3_hashOfBuffer 42 = .ok (.goto (-27), 3) := by decide +kernel
theorem dX3_hashOfBuffer_45 : decode cX3_hashOfBuffer 45 = .ok (.lload_n 3, 1) := by decide +kernel
theorem dX3_hashOfBuffer_46 : decode cX3_hashOfBuffer 46 = .ok (.lreturn, 1) := by decide +kernel
theorem dX3_bitsOfShare_0 : decode cX3_bitsOfShare 0 = .ok (.dload_n 0, 1) := by decide +kernel
theorem dX3_bitsOfShare_1 : decode cX3_bitsOfShare 1 = .ok (.dconst 0, 1) := by decide +kernel
theorem dX3_bitsOfShare_2 : decode cX3_bitsOfShare 2 = .ok (.dcmp .g, 1) := by decide +kernel
theorem dX3_bitsOfShare_3 : decode cX3_bitsOfShare 3 = .ok (.ifCond .gt 5, 3) := by decide +kernel
theorem dX3_bitsOfShare_6 : decode cX3_bitsOfShare 6 = .ok (.lconst 0, 1) := by decide +kernel
theorem dX3_bitsOfShare_7 : decode cX3_bitsOfShare 7 = .ok (.lreturn, 1) := by decide +kernel
theorem dX3_bitsOfShare_8 : decode cX3_bitsOfShare 8 = .ok (.dload_n 0, 1) := by decide +kernel
theorem dX3_bitsOfShare_9 : decode cX3_bitsOfShare 9 = .ok (.dstore_n 2, 1) := by decide +kernel
theorem dX3_bitsOfShare_10 : decode cX3_bitsOfShare 10 = .ok (.ldc2_w 280, 3) := by decide +kernel
theorem dX3_bitsOfShare_13 : decode cX3_bitsOfShare 13 = .ok (.lstore 4, 2) := by decide +kernel
theorem dX3_bitsOfShare_15 : decode cX3_bitsOfShare 15 = .ok (.iconst 0, 1) := by decide +kernel
theorem dX3_bitsOfShare_16 : decode cX3_bitsOfShare 16 = .ok (.istore 6, 2) := by decide +kernel
theorem dX3_bitsOfShare_18 : decode cX3_bitsOfShare 18 = .ok (.iload 6, 2) := by decide +kernel
theorem dX3_bitsOfShare_20 : decode cX3_bitsOfShare 20 = .ok (.sipush 1022, 3) := by decide +kernel
theorem dX3_bitsOfShare_23 : decode cX3_bitsOfShare 23 = .ok (.if_icmp .ge 27, 3) := by decide +kernel
theorem dX3_bitsOfShare_26 : decode cX3_bitsOfShare 26 = .ok (.dload_n 2, 1) := by decide +kernel
theorem dX3_bitsOfShare_27 : decode cX3_bitsOfShare 27 = .ok (.dconst 1, 1) := by decide +kernel
theorem dX3_bitsOfShare_28 : decode cX3_bitsOfShare 28 = .ok (.dcmp .g, 1) := by decide +kernel
theorem dX3_bitsOfShare_29 : decode cX3_bitsOfShare 29 = .ok (.ifCond .ge 21, 3) := by decide +kernel
theorem dX3_bitsOfShare_32 : decode cX3_bitsOfShare 32 = .ok (.dload_n 2, 1) := by decide +kernel
theorem dX3_bitsOfShare_33 : decode cX3_bitsOfShare 33 = .ok (.ldc2_w 282, 3) := by decide +kernel
theorem dX3_bitsOfShare_36 : decode cX3_bitsOfShare 36 = .ok (.dmul, 1) := by decide +kernel
theorem dX3_bitsOfShare_37 : decode cX3_bitsOfShare 37 = .ok (.dstore_n 2, 1) := by decide +kernel
theorem dX3_bitsOfShare_38 : decode cX3_bitsOfShare 38 = .ok (.lload 4, 2) := by decide +kernel
theorem dX3_bitsOfShare_40 : decode cX3_bitsOfShare 40 = .ok (.lconst 1, 1) := by decide +kernel
theorem dX3_bitsOfShare_41 : decode cX3_bitsOfShare 41 = .ok (.lsub, 1) := by decide +kernel
theorem dX3_bitsOfShare_42 : decode cX3_bitsOfShare 42 = .ok (.lstore 4, 2) := by decide +kernel
theorem dX3_bitsOfShare_44 : decode cX3_bitsOfShare 44 = .ok (.iinc 6 1, 3) := by decide +kernel
theorem dX3_bitsOfShare_47 : decode cX3_bitsOfShare 47 = .ok (.goto (-29), 3) := by decide +kernel
theorem dX3_bitsOfShare_50 : decode cX3_bitsOfShare 50 = .ok (.dload_n 2, 1) := by decide +kernel
theorem dX3_bitsOfShare_51 : decode cX3_bitsOfShare 51 = .ok (.dconst 1, 1) := by decide +kernel
theorem dX3_bitsOfShare_52 : decode cX3_bitsOfShare 52 = .ok (.dsub, 1) := by decide +kernel
theorem dX3_bitsOfShare_53 : decode cX3_bitsOfShare 53 = .ok (.ldc2_w 284, 3) := by decide +kernel
theorem dX3_bitsOfShare_56 : decode cX3_bitsOfShare 56 = .ok (.dmul, 1) := by decide +kernel
theorem dX3_bitsOfShare_57 : decode cX3_bitsOfShare 57 = .ok (.d2l, 1) := by decide +kernel
theorem dX3_bitsOfShare_58 : decode cX3_bitsOfShare 58 = .ok (.lstore 6, 2) := by decide +kernel
theorem dX3_bitsOfShare_60 : decode cX3_bitsOfShare 60 = .ok (.lload 4, 2) := by decide +kernel
theorem dX3_bitsOfShare_62 : decode cX3_bitsOfShare 62 = .ok (.bipush 52, 2) := by decide +kernel
theorem dX3_bitsOfShare_64 : decode cX3_bitsOfShare 64 = .ok (.lshl, 1) := by decide +kernel
theorem dX3_bitsOfShare_65 : decode cX3_bitsOfShare 65 = .ok (.lload 6, 2) := by decide +kernel
theorem dX3_bitsOfShare_67 : decode cX3_bitsOfShare 67 = .ok (.ladd, 1) := by decide +kernel
theorem dX3_bitsOfShare_68 : decode cX3_bitsOfShare 68 = .ok (.lreturn, 1) := by decide +kernel
theorem dX4_init_0 : decode cX4_init 0 = .ok (.aload_n 0, 1) := by decide +kernel
theorem dX4_init_1 : decode cX4_init 1 = .ok (.invokespecial 1, 3) := by decide +kernel
theorem dX4_init_4 : decode cX4_init 4 = .ok (.aload_n 0, 1) := by decide +kernel
theorem dX4_init_5 : decode cX4_init 5 = .ok (.sipush 228, 3) := by decide +kernel
theorem dX4_init_8 : decode cX4_init 8 = .ok (.newarray .int, 2) := by decide +kernel
theorem dX4_init_10 : decode cX4_init 10 = .ok (.putfield 7, 3) := by decide +kernel
theorem dX4_init_13 : decode cX4_init 13 = .ok (.aload_n 0, 1) := by decide +kernel
theorem dX4_init_14 : decode cX4_init 14 = .ok (.sipush 1368, 3) := by decide +kernel
theorem dX4_init_17 : decode cX4_init 17 = .ok (.newarray .int, 2) := by decide +kernel
theorem dX4_init_19 : decode cX4_init 19 = .ok (.putfield 13, 3) := by decide +kernel
theorem dX4_init_22 : decode cX4_init 22 = .ok (.aload_n 0, 1) := by decide +kernel
theorem dX4_init_23 : decode cX4_init 23 = .ok (.bipush 60, 2) := by decide +kernel
theorem dX4_init_25 : decode cX4_init 25 = .ok (.newarray .int, 2) := by decide +kernel
theorem dX4_init_27 : decode cX4_init 27 = .ok (.putfield 16, 3) := by decide +kernel
theorem dX4_init_30 : decode cX4_init 30 = .ok (.aload_n 0, 1) := by decide +kernel
theorem dX4_init_31 : decode cX4_init 31 = .ok (.bipush 8, 2) := by decide +kernel
theorem dX4_init_33 : decode cX4_init 33 = .ok (.newarray .int, 2) := by decide +kernel
theorem dX4_init_35 : decode cX4_init 35 = .ok (.putfield 19, 3) := by decide +kernel
theorem dX4_init_38 : decode cX4_init 38 = .ok (.aload_n 0, 1) := by decide +kernel
theorem dX4_init_39 : decode cX4_init 39 = .ok (.sipush 228, 3) := by decide +kernel
theorem dX4_init_42 : decode cX4_init 42 = .ok (.newarray .int, 2) := by decide +kernel
theorem dX4_init_44 : decode cX4_init 44 = .ok (.putfield 22, 3) := by decide +kernel
theorem dX4_init_47 : decode cX4_init 47 = .ok (.aload_n 0, 1) := by decide +kernel
theorem dX4_init_48 : decode cX4_init 48 = .ok (.bipush 64, 2) := by decide +kernel
theorem dX4_init_50 : decode cX4_init 50 = .ok (.newarray .int, 2) := by decide +kernel
theorem dX4_init_52 : decode cX4_init 52 = .ok (.putfield 25, 3) := by decide +kernel
theorem dX4_init_55 : decode cX4_init 55 = .ok (.aload_n 0, 1) := by decide +kernel
theorem dX4_init_56 : decode cX4_init 56 = .ok (.getfield 7, 3) := by decide +kernel
theorem dX4_init_59 : decode cX4_init 59 = .ok (.iconst 1, 1) := by decide +kernel
theorem dX4_init_60 : decode cX4_init 60 = .ok (.bipush 100, 2) := by decide +kernel
theorem dX4_init_62 : decode cX4_init 62 = .ok (.iastore, 1) := by decide +kernel
theorem dX4_init_63 : decode cX4_init 63 = .ok (.return_, 1) := by decide +kernel
theorem dX4_thrown_0 : decode cX4_thrown 0 = .ok (.aload_n 0, 1) := by decide +kernel
theorem dX4_thrown_1 : decode cX4_thrown 1 = .ok (.getfield 28, 3) := by decide +kernel
theorem dX4_thrown_4 : decode cX4_thrown 4 = .ok (.ireturn, 1) := by decide +kernel
theorem dX4_within_0 : decode cX4_within 0 = .ok (.iload_n 0, 1) := by decide +kernel
theorem dX4_within_1 : decode cX4_within 1 = .ok (.iload_n 1, 1) := by decide +kernel
theorem dX4_within_2 : decode cX4_within 2 = .ok (.if_icmp .lt 12, 3) := by decide +kernel
theorem dX4_within_5 : decode cX4_within 5 = .ok (.iload_n 0, 1) := by decide +kernel
theorem dX4_within_6 : decode cX4_within 6 = .ok (.iload_n 2, 1) := by decide +kernel
theorem dX4_within_7 : decode cX4_within 7 = .ok (.if_icmp .gt 7, 3) := by decide +kernel
theorem dX4_within_10 : decode cX4_within 10 = .ok (.iconst 1, 1) := by decide +kernel
theorem dX4_within_11 : decode cX4_within 11 = .ok (.goto 4, 3) := by decide +kernel
theorem dX4_within_14 : decode cX4_within 14 = .ok (.iconst 0, 1) := by decide +kernel
theorem dX4_within_15 : decode cX4_within 15 = .ok (.ireturn, 1) := by decide +kernel
theorem dX4_of_0 : decode cX4_of 0 = .ok (.aload_n 0, 1) := by decide +kernel
theorem dX4_of_1 : decode cX4_of 1 = .ok (.getfield 7, 3) := by decide +kernel
theorem dX4_of_4 : decode cX4_of 4 = .ok (.bipush 68, 2) := by decide +kernel
theorem dX4_of_6 : decode cX4_of 6 = .ok (.bipush 20, 2) := by decide +kernel
theorem dX4_of_8 : decode cX4_of 8 = .ok (.iload_n 1, 1) := by decide +kernel
theorem dX4_of_9 : decode cX4_of 9 = .ok (.imul, 1) := by decide +kernel
theorem dX4_of_10 : decode cX4_of 10 = .ok (.iadd, 1) := by decide +kernel
theorem dX4_of_11 : decode cX4_of 11 = .ok (.iload_n 2, 1) := by decide +kernel
theorem dX4_of_12 : decode cX4_of 12 = .ok (.iadd, 1) := by decide +kernel
theorem dX4_of_13 : decode cX4_of 13 = .ok (.iaload, 1) := by decide +kernel
theorem dX4_of_14 : decode cX4_of 14 = .ok (.ireturn, 1) := by decide +kernel
theorem dX4_lay_0 : decode cX4_lay 0 = .ok (.aload_n 0, 1) := by decide +kernel
theorem dX4_lay_1 : decode cX4_lay 1 = .ok (.getfield 7, 3) := by decide +kernel
theorem dX4_lay_4 : decode cX4_lay 4 = .ok (.bipush 68, 2) := by decide +kernel
theorem dX4_lay_6 : decode cX4_lay 6 = .ok (.bipush 20, 2) := by decide +kernel
theorem dX4_lay_8 : decode cX4_lay 8 = .ok (.iload_n 1, 1) := by decide +kernel
theorem dX4_lay_9 : decode cX4_lay 9 = .ok (.imul, 1) := by decide +kernel
theorem dX4_lay_10 : decode cX4_lay 10 = .ok (.iadd, 1) := by decide +kernel
theorem dX4_lay_11 : decode cX4_lay 11 = .ok (.iload_n 2, 1) := by decide +kernel
theorem dX4_lay_12 : decode cX4_lay 12 = .ok (.iadd, 1) := by decide +kernel
theorem dX4_lay_13 : decode cX4_lay 13 = .ok (.iload_n 3, 1) := by decide +kernel
theorem dX4_lay_14 : decode cX4_lay 14 = .ok (.iastore, 1) := by decide +kernel
theorem dX4_lay_15 : decode cX4_lay 15 = .ok (.return_, 1) := by decide +kernel
theorem dX4_add_0 : decode cX4_add 0 = .ok (.aload_n 0, 1) := by decide +kernel
theorem dX4_add_1 : decode cX4_add 1 = .ok (.getfield 7, 3) := by decide +kernel
theorem dX4_add_4 : decode cX4_add 4 = .ok (.bipush 68, 2) := by decide +kernel
theorem dX4_add_6 : decode cX4_add 6 = .ok (.bipush 20, 2) := by decide +kernel
theorem dX4_add_8 : decode cX4_add 8 = .ok (.iload_n 1, 1) := by decide +kernel
theorem dX4_add_9 : decode cX4_add 9 = .ok (.imul, 1) := by decide +kernel
theorem dX4_add_10 : decode cX4_add 10 = .ok (.iadd, 1) := by decide +kernel
theorem dX4_add_11 : decode cX4_add 11 = .ok (.iload_n 2, 1) := by decide +kernel
theorem dX4_add_12 : decode cX4_add 12 = .ok (.iadd, 1) := by decide +kernel
theorem dX4_add_13 : decode cX4_add 13 = .ok (.dup2, 1) := by decide +kernel
theorem dX4_add_14 : decode cX4_add 14 = .ok (.iaload, 1) := by decide +kernel
theorem dX4_add_15 : decode cX4_add 15 = .ok (.iconst 1, 1) := by decide +kernel
theorem dX4_add_16 : decode cX4_add 16 = .ok (.iadd, 1) := by decide +kernel
theorem dX4_add_17 : decode cX4_add 17 = .ok (.iastore, 1) := by decide +kernel
theorem dX4_add_18 : decode cX4_add 18 = .ok (.return_, 1) := by decide +kernel
theorem dX4_isRail_0 : decode cX4_isRail 0 = .ok (.iload_n 1, 1) := by decide +kernel
theorem dX4_isRail_1 : decode cX4_isRail 1 = .ok (.iconst 0, 1) := by decide +kernel
theorem dX4_isRail_2 : decode cX4_isRail 2 = .ok (.aload_n 0, 1) := by decide +kernel
theorem dX4_isRail_3 : decode cX4_isRail 3 = .ok (.getfield 7, 3) := by decide +kernel
theorem dX4_isRail_6 : decode cX4_isRail 6 = .ok (.iconst 0, 1) := by decide +kernel
theorem dX4_isRail_7 : decode cX4_isRail 7 = .ok (.iaload, 1) := by decide +kernel
theorem dX4_isRail_8 : decode cX4_isRail 8 = .ok (.iconst 1, 1) := by decide +kernel
theorem dX4_isRail_9 : decode cX4_isRail 9 = .ok (.isub, 1) := by decide +kernel
theorem dX4_isRail_10 : decode cX4_isRail 10 = .ok (.invokestatic 32, 3) := by decide +kernel
theorem dX4_isRail_13 : decode cX4_isRail 13 = .ok (.ireturn, 1) := by decide +kernel
theorem dX4_has_0 : decode cX4_has 0 = .ok (.iload_n 0, 1) := by decide +kernel
theorem dX4_has_1 : decode cX4_has 1 = .ok (.iload_n 1, 1) := by decide +kernel
theorem dX4_has_2 : decode cX4_has 2 = .ok (.ishr, 1) := by decide +kernel
theorem dX4_has_3 : decode cX4_has 3 = .ok (.iconst 1, 1) := by decide +kernel
theorem dX4_has_4 : decode cX4_has 4 = .ok (.iand, 1) := by decide +kernel
theorem dX4_has_5 : decode cX4_has 5 = .ok (.iconst 1, 1) := by decide +kernel
theorem dX4_has_6 : decode cX4_has 6 = .ok (.if_icmp .ne 7, 3) := by decide +kernel
theorem dX4_has_9 : decode cX4_has 9 = .ok (.iconst 1, 1) := by decide +kernel
theorem dX4_has_10 : decode cX4_has 10 = .ok (.goto 4, 3) := by decide +kernel
theorem dX4_has_13 : decode cX4_has 13 = .ok (.iconst 0, 1) := by decide +kernel
theorem dX4_has_14 : decode cX4_has 14 = .ok (.ireturn, 1) := by decide +kernel
theorem dX4_allRails_0 : decode cX4_allRails 0 = .ok (.iconst 1, 1) := by decide +kernel
theorem dX4_allRails_1 : decode cX4_allRails 1 = .ok (.aload_n 0, 1) := by decide +kernel
theorem dX4_allRails_2 : decode cX4_allRails 2 = .ok (.getfield 7, 3) := by decide +kernel
theorem dX4_allRails_5 : decode cX4_allRails 5 = .ok (.iconst 0, 1) := by decide +kernel
theorem dX4_allRails_6 : decode cX4_allRails 6 = .ok (.iaload, 1) := by decide +kernel
theorem dX4_allRails_7 : decode cX4_allRails 7 = .ok (.ishl, 1) := by decide +kernel
theorem dX4_allRails_8 : decode cX4_allRails 8 = .ok (.iconst 1, 1) := by decide +kernel
theorem dX4_allRails_9 : decode cX4_allRails 9 = .ok (.isub, 1) := by decide +kernel
theorem dX4_allRails_10 : decode cX4_allRails 10 = .ok (.ireturn, 1) := by decide +kernel
theorem dX4_isMask_0 : decode cX4_isMask 0 = .ok (.iload_n 1, 1) := by decide +kernel
theorem dX4_isMask_1 : decode cX4_isMask 1 = .ok (.ifCond .lt 14, 3) := by decide +kernel
theorem dX4_isMask_4 : decode cX4_isMask 4 = .ok (.iload_n 1, 1) := by decide +kernel
theorem dX4_isMask_5 : decode cX4_isMask 5 = .ok (.iconst 1, 1) := by decide +kernel
theorem dX4_isMask_6 : decode cX4_isMask 6 = .ok (.iload_n 2, 1) := by decide +kernel
theorem dX4_isMask_7 : decode cX4_isMask 7 = .ok (.ishl, 1) := by decide +kernel
theorem dX4_isMask_8 : decode cX4_isMask 8 = .ok (.if_icmp .ge 7, 3) := by decide +kernel
theorem dX4_isMask_11 : decode cX4_isMask 11 = .ok (.iconst 1, 1) := by decide +kernel
theorem dX4_isMask_12 : decode cX4_isMask 12 = .ok (.goto 4, 3) := by decide +kernel
theorem dX4_isMask_15 : decode cX4_isMask 15 = .ok (.iconst 0, 1) := by decide +kernel
theorem dX4_isMask_16 : decode cX4_isMask 16 = .ok (.ireturn, 1) := by decide +kernel
theorem dX4_isDischarged_0 : decode cX4_isDischarged 0 = .ok (.aload_n 0, 1) := by decide +kernel
theorem dX4_isDischarged_1 : decode cX4_isDischarged 1 = .ok (.iload_n 1, 1) := by decide +kernel
theorem dX4_isDischarged_2 : decode cX4_isDischarged 2 = .ok (.bipush 10, 2) := by decide +kernel
theorem dX4_isDischarged_4 : decode cX4_isDischarged 4 = .ok (.invokevirtual 36, 3) := by decide +kernel
theorem dX4_isDischarged_7 : decode cX4_isDischarged 7 = .ok (.aload_n 0, 1) := by decide +kernel
theorem dX4_isDischarged_8 : decode cX4_isDischarged 8 = .ok (.getfield 7, 3) := by decide +kernel
theorem dX4_isDischarged_11 : decode cX4_isDischarged 11 = .ok (.iconst 1, 1) := by decide +kernel
theorem dX4_isDischarged_12 : decode cX4_isDischarged 12 = .ok (.iaload, 1) := by decide +kernel
theorem dX4_isDischarged_13 : decode cX4_isDischarged 13 = .ok (.if_icmp .gt 7, 3) := by decide +kernel
theorem dX4_isDischarged_16 : decode cX4_isDischarged 16 = .ok (.iconst 1, 1) := by decide +kernel
theorem dX4_isDischarged_17 : decode cX4_isDischarged 17 = .ok (.goto 4, 3) := by decide +kernel
theorem dX4_isDischarged_20 : decode cX4_isDischarged 20 = .ok (.iconst 0, 1) := by decide +kernel
theorem dX4_isDischarged_21 : decode cX4_isDischarged 21 = .ok (.ireturn, 1) := by decide +kernel
theorem dX4_isFlag_0 : decode cX4_isFlag 0 = .ok (.aload_n 0, 1) := by decide +kernel
theorem dX4_isFlag_1 : decode cX4_isFlag 1 = .ok (.iload_n 1, 1) := by decide +kernel
theorem dX4_isFlag_2 : decode cX4_isFlag 2 = .ok (.bipush 10, 2) := by decide +kernel
theorem dX4_isFlag_4 : decode cX4_isFlag 4 = .ok (.invokevirtual 36, 3) := by decide +kernel
theorem dX4_isFlag_7 : decode cX4_isFlag 7 = .ok (.bipush 100, 2) := by decide +kernel
theorem dX4_isFlag_9 : decode cX4_isFlag 9 = .ok (.imul, 1) := by decide +kernel
theorem dX4_isFlag_10 : decode cX4_isFlag 10 = .ok (.aload_n 0, 1) := by decide +kernel
theorem dX4_isFlag_11 : decode cX4_isFlag 11 = .ok (.iload_n 1, 1) := by decide +kernel
theorem dX4_isFlag_12 : decode cX4_isFlag 12 = .ok (.iconst 0, 1) := by decide +kernel
theorem dX4_isFlag_13 : decode cX4_isFlag 13 = .ok (.invokevirtual 36, 3) := by decide +kernel
theorem dX4_isFlag_16 : decode cX4_isFlag 16 = .ok (.aload_n 0, 1) := by decide +kernel
theorem dX4_isFlag_17 : decode cX4_isFlag 17 = .ok (.iload_n 1, 1) := by decide +kernel
theorem dX4_isFlag_18 : decode cX4_isFlag 18 = .ok (.iconst 3, 1) := by decide +kernel
theorem dX4_isFlag_19 : decode cX4_isFlag 19 = .ok (.invokevirtual 36, 3) := by decide +kernel
theorem dX4_isFlag_22 : decode cX4_isFlag 22 = .ok (.imul, 1) := by decide +kernel
theorem dX4_isFlag_23 : decode cX4_isFlag 23 = .ok (.if_icmp .lt 7, 3) := by decide +kernel
theorem dX4_isFlag_26 : decode cX4_isFlag 26 = .ok (.iconst 1, 1) := by decide +kernel
theorem dX4_isFlag_27 : decode cX4_isFlag 27 = .ok (.goto 4, 3) := by decide +kernel
theorem dX4_isFlag_30 : decode cX4_isFlag 30 = .ok (.iconst 0, 1) := by decide +kernel
theorem dX4_isFlag_31 : decode cX4_isFlag 31 = .ok (.istore_n 2, 1) := by decide +kernel
theorem dX4_isFlag_32 : decode cX4_isFlag 32 = .ok (.aload_n 0, 1) := by decide +kernel
theorem dX4_isFlag_33 : decode cX4_isFlag 33 = .ok (.iload_n 1, 1) := by decide +kernel
theorem dX4_isFlag_34 : decode cX4_isFlag 34 = .ok (.bipush 11, 2) := by decide +kernel
theorem dX4_isFlag_36 : decode cX4_isFlag 36 = .ok (.invokevirtual 36, 3) := by decide +kernel
theorem dX4_isFlag_39 : decode cX4_isFlag 39 = .ok (.ifCond .ne 7, 3) := by decide +kernel
theorem dX4_isFlag_42 : decode cX4_isFlag 42 = .ok (.iload_n 2, 1) := by decide +kernel
theorem dX4_isFlag_43 : decode cX4_isFlag 43 = .ok (.goto 19, 3) := by decide +kernel
theorem dX4_isFlag_46 : decode cX4_isFlag 46 = .ok (.aload_n 0, 1) := by decide +kernel
theorem dX4_isFlag_47 : decode cX4_isFlag 47 = .ok (.iload_n 1, 1) := by decide +kernel
theorem dX4_isFlag_48 : decode cX4_isFlag 48 = .ok (.bipush 11, 2) := by decide +kernel
theorem dX4_isFlag_50 : decode cX4_isFlag 50 = .ok (.invokevirtual 36, 3) := by decide +kernel
theorem dX4_isFlag_53 : decode cX4_isFlag 53 = .ok (.iconst 2, 1) := by decide +kernel
theorem dX4_isFlag_54 : decode cX4_isFlag 54 = .ok (.if_icmp .ne 7, 3) := by decide +kernel
theorem dX4_isFlag_57 : decode cX4_isFlag 57 = .ok (.iconst 1, 1) := by decide +kernel
theorem dX4_isFlag_58 : decode cX4_isFlag 58 = .ok (.goto 4, 3) := by decide +kernel
theorem dX4_isFlag_61 : decode cX4_isFlag 61 = .ok (.iconst 0, 1) := by decide +kernel
theorem dX4_isFlag_62 : decode cX4_isFlag 62 = .ok (.ireturn, 1) := by decide +kernel
theorem dX4_followers_0 : decode cX4_followers 0 = .ok (.iconst 1, 1) := by decide +kernel
theorem dX4_followers_1 : decode cX4_followers 1 = .ok (.iload_n 1, 1) := by decide +kernel
theorem dX4_followers_2 : decode cX4_followers 2 = .ok (.ishl, 1) := by decide +kernel
theorem dX4_followers_3 : decode cX4_followers 3 = .ok (.istore_n 2, 1) := by decide +kernel
theorem dX4_followers_4 : decode cX4_followers 4 = .ok (.iload_n 1, 1) := by decide +kernel
theorem dX4_followers_5 : decode cX4_followers 5 = .ok (.iconst 1, 1) := by decide +kernel
theorem dX4_followers_6 : decode cX4_followers 6 = .ok (.iadd, 1) := by decide +kernel
theorem dX4_followers_7 : decode cX4_followers 7 = .ok (.istore_n 3, 1) := by decide +kernel
theorem dX4_followers_8 : decode cX4_followers 8 = .ok (.iload_n 3, 1) := by decide +kernel
theorem dX4_followers_9 : decode cX4_followers 9 = .ok (.aload_n 0, 1) := by decide +kernel
theorem dX4_followers_10 : decode cX4_followers 10 = .ok (.getfield 7, 3) := by decide +kernel
theorem dX4_followers_13 : decode cX4_followers 13 = .ok (.iconst 0, 1) := by decide +kernel
theorem dX4_followers_14 : decode cX4_followers 14 = .ok (.iaload, 1) := by decide +kernel
theorem dX4_followers_15 : decode cX4_followers 15 = .ok (.if_icmp .ge 31, 3) := by decide +kernel
theorem dX4_followers_18 : decode cX4_followers 18 = .ok (.iload_n 2, 1) := by decide +kernel
theorem dX4_followers_19 : decode cX4_followers 19 = .ok (.aload_n 0, 1) := by decide +kernel
theorem dX4_followers_20 : decode cX4_followers 20 = .ok (.iload_n 3, 1) := by decide +kernel
theorem dX4_followers_21 : decode cX4_followers 21 = .ok (.bipush 7, 2) := by decide +kernel
theorem dX4_followers_23 : decode cX4_followers 23 = .ok (.invokevirtual 36, 3) := by decide +kernel
theorem dX4_followers_26 : decode cX4_followers 26 = .ok (.iload_n 2, 1) := by decide +kernel
theorem dX4_followers_27 : decode cX4_followers 27 = .ok (.iand, 1) := by decide +kernel
theorem dX4_followers_28 : decode cX4_followers 28 = .ok (.ifCond .eq 9, 3) := by decide +kernel
theorem dX4_followers_31 : decode cX4_followers 31 = .ok (.iconst 1, 1) := by decide +kernel
theorem dX4_followers_32 : decode cX4_followers 32 = .ok (.iload_n 3, 1) := by decide +kernel
theorem dX4_followers_33 : decode cX4_followers 33 = .ok (.ishl, 1) := by decide +kernel
theorem dX4_followers_34 : decode cX4_followers 34 = .ok (.goto 4, 3) := by decide +kernel
theorem dX4_followers_37 : decode cX4_followers 37 = .ok (.iconst 0, 1) := by decide +kernel
theorem dX4_followers_38 : decode cX4_followers 38 = .ok (.ior, 1) := by decide +kernel
theorem dX4_followers_39 : decode cX4_followers 39 = .ok (.istore_n 2, 1) := by decide +kernel
theorem dX4_followers_40 : decode cX4_followers 40 = .ok (.iinc 3 1, 3) := by decide +kernel
theorem dX4_followers_43 : decode cX4_followers 43 = .ok (.goto (-35), 3) := by decide +kernel
theorem dX4_followers_46 : decode cX4_followers 46 = .ok (.iload_n 2, 1) := by decide +kernel
theorem dX4_followers_47 : decode cX4_followers 47 = .ok (.iconst 1, 1) := by decide +kernel
theorem dX4_followers_48 : decode cX4_followers 48 = .ok (.iload_n 1, 1) := by decide +kernel
theorem dX4_followers_49 : decode cX4_followers 49 = .ok (.ishl, 1) := by decide +kernel
theorem dX4_followers_50 : decode cX4_followers 50 = .ok (.isub, 1) := by decide +kernel
theorem dX4_followers_51 : decode cX4_followers 51 = .ok (.ireturn, 1) := by decide +kernel
theorem dX4_become_0 : decode cX4_become 0 = .ok (.aload_n 0, 1) := by decide +kernel
theorem dX4_become_1 : decode cX4_become 1 = .ok (.iload_n 1, 1) := by decide +kernel
theorem dX4_become_2 : decode cX4_become 2 = .ok (.bipush 9, 2) := by decide +kernel
theorem dX4_become_4 : decode cX4_become 4 = .ok (.iload_n 2, 1) := by decide +kernel
theorem dX4_become_5 : decode cX4_become 5 = .ok (.invokevirtual 40, 3) := by decide +kernel
theorem dX4_become_8 : decode cX4_become 8 = .ok (.aload_n 0, 1) := by decide +kernel
theorem dX4_become_9 : decode cX4_become 9 = .ok (.dup, 1) := by decide +kernel
theorem dX4_become_10 : decode cX4_become 10 = .ok (.getfield 44, 3) := by decide +kernel
theorem dX4_become_13 : decode cX4_become 13 = .ok (.iconst 1, 1) := by decide +kernel
theorem dX4_become_14 : decode cX4_become 14 = .ok (.iadd, 1) := by decide +kernel
theorem dX4_become_15 : decode cX4_become 15 = .ok (.putfield 44, 3) := by decide +kernel
theorem dX4_become_18 : decode cX4_become 18 = .ok (.aload_n 0, 1) := by decide +kernel
theorem dX4_become_19 : decode cX4_become 19 = .ok (.dup, 1) := by decide +kernel
theorem dX4_become_20 : decode cX4_become 20 = .ok (.getfield 47, 3) := by decide +kernel
theorem dX4_become_23 : decode cX4_become 23 = .ok (.iload_n 2, 1) := by decide +kernel
theorem dX4_become_24 : decode cX4_become 24 = .ok (.iconst 4, 1) := by decide +kernel
theorem dX4_become_25 : decode cX4_become 25 = .ok (.if_icmp .lt 9, 3) := by decide +kernel
theorem dX4_become_28 : decode cX4_become 28 = .ok (.iconst 1, 1) := by decide +kernel
theorem dX4_become_29 : decode cX4_become 29 = .ok (.iload_n 1, 1) := by decide +kernel
theorem dX4_become_30 : decode cX4_become 30 = .ok (.ishl, 1) := by decide +kernel
theorem dX4_become_31 : decode cX4_become 31 = .ok (.goto 4, 3) := by decide +kernel
theorem dX4_become_34 : decode cX4_become 34 = .ok (.iconst 0, 1) := by decide +kernel
theorem dX4_become_35 : decode cX4_become 35 = .ok (.ior, 1) := by decide +kernel
theorem dX4_become_36 : decode cX4_become 36 = .ok (.putfield 47, 3) := by decide +kernel
theorem dX4_become_39 : decode cX4_become 39 = .ok (.iload_n 2, 1) := by decide +kernel
theorem dX4_become_40 : decode cX4_become 40 = .ok (.iconst 2, 1) := by decide +kernel
theorem dX4_become_41 : decode cX4_become 41 = .ok (.if_icmp .eq 8, 3) := by decide +kernel
theorem dX4_become_44 : decode cX4_become 44 = .ok (.iload_n 2, 1) := by decide +kernel
theorem dX4_become_45 : decode cX4_become 45 = .ok (.iconst 3, 1) := by decide +kernel
theorem dX4_become_46 : decode cX4_become 46 = .ok (.if_icmp .ne 21, 3) := by decide +kernel
theorem dX4_become_49 : decode cX4_become 49 = .ok (.aload_n 0, 1) := by decide +kernel
theorem dX4_become_50 : decode cX4_become 50 = .ok (.iload_n 1, 1) := by decide +kernel
theorem dX4_become_51 : decode cX4_become 51 = .ok (.bipush 16, 2) := by decide +kernel
theorem dX4_become_53 : decode cX4_become 53 = .ok (.iload_n 2, 1) := by decide +kernel
theorem dX4_become_54 : decode cX4_become 54 = .ok (.iconst 2, 1) := by decide +kernel
theorem dX4_become_55 : decode cX4_become 55 = .ok (.if_icmp .ne 7, 3) := by decide +kernel
theorem dX4_become_58 : decode cX4_become 58 = .ok (.iconst 0, 1) := by decide +kernel
theorem dX4_become_59 : decode cX4_become 59 = .ok (.goto 4, 3) := by decide +kernel
theorem dX4_become_62 : decode cX4_become 62 = .ok (.iconst 1, 1) := by decide +kernel
theorem dX4_become_63 : decode cX4_become 63 = .ok (.iadd, 1) := by decide +kernel
theorem dX4_become_64 : decode cX4_become 64 = .ok (.invokevirtual 50, 3) := by decide +kernel
theorem dX4_become_67 : decode cX4_become 67 = .ok (.aload_n 0, 1) := by decide +kernel
theorem dX4_become_68 : decode cX4_become 68 = .ok (.getfield 7, 3) := by decide +kernel
theorem dX4_become_71 : decode cX4_become 71 = .ok (.iconst 3, 1) := by decide +kernel
theorem dX4_become_72 : decode cX4_become 72 = .ok (.iaload, 1) := by decide +kernel
theorem dX4_become_73 : decode cX4_become 73 = .ok (.bipush 16, 2) := by decide +kernel
theorem dX4_become_75 : decode cX4_become 75 = .ok (.if_icmp .ne 45, 3) := by decide +kernel
theorem dX4_become_78 : decode cX4_become 78 = .ok (.iconst 4, 1) := by decide +kernel
theorem dX4_become_79 : decode cX4_become 79 = .ok (.istore_n 3, 1) := by decide +kernel
theorem dX4_become_80 : decode cX4_become 80 = .ok (.iload_n 3, 1) := by decide +kernel
theorem dX4_become_81 : decode cX4_become 81 = .ok (.bipush 64, 2) := by decide +kernel
theorem dX4_become_83 : decode cX4_become 83 = .ok (.if_icmp .ge 27, 3) := by decide +kernel
theorem dX4_become_86 : decode cX4_become 86 = .ok (.aload_n 0, 1) := by decide +kernel
theorem dX4_become_87 : decode cX4_become 87 = .ok (.getfield 7, 3) := by decide +kernel
theorem dX4_become_90 : decode cX4_become 90 = .ok (.iconst 4, 1) := by decide +kernel
theorem dX4_become_91 : decode cX4_become 91 = .ok (.iload_n 3, 1) := by decide +kernel
theorem dX4_become_92 : decode cX4_become 92 = .ok (.iadd, 1) := by decide +kernel
theorem dX4_become_93 : decode cX4_become 93 = .ok (.iconst 4, 1) := by decide +kernel
theorem dX4_become_94 : decode cX4_become 94 = .ok (.isub, 1) := by decide +kernel
theorem dX4_become_95 : decode cX4_become 95 = .ok (.aload_n 0, 1) := by decide +kernel
theorem dX4_become_96 : decode cX4_become 96 = .ok (.getfield 7, 3) := by decide +kernel
theorem dX4_become_99 : decode cX4_become 99 = .ok (.iconst 4, 1) := by decide +kernel
theorem dX4_become_100 : decode cX4_become 100 = .ok (.iload_n 3, 1) := by decide +kernel
theorem dX4_become_101 : decode cX4_become 101 = .ok (.iadd, 1) := by decide +kernel
theorem dX4_become_102 : decode cX4_become 102 = .ok (.iaload, 1) := by decide +kernel
theorem dX4_become_103 : decode cX4_become 103 = .ok (.iastore, 1) := by decide +kernel
theorem dX4_become_104 : decode cX4_become 104 = .ok (.iinc 3 1, 3) := by decide +kernel
theorem dX4_become_107 : decode cX4_become 107 = .ok (.goto (-27), 3) := by decide +kernel
theorem dX4_become_110 : decode cX4_become 110 = .ok (.aload_n 0, 1) := by decide +kernel
theorem dX4_become_111 : decode cX4_become 111 = .ok (.getfield 7, 3) := by decide +kernel
theorem dX4_become_114 : decode cX4_become 114 = .ok (.iconst 3, 1) := by decide +kernel
theorem dX4_become_115 : decode cX4_become 115 = .ok (.dup2, 1) := by decide +kernel
theorem dX4_become_116 : decode cX4_become 116 = .ok (.iaload, 1) := by decide +kernel
theorem dX4_become_117 : decode cX4_become 117 = .ok (.iconst 1, 1) := by decide +kernel
theorem dX4_become_118 : decode cX4_become 118 = .ok (.isub, 1) := by decide +kernel
theorem dX4_become_119 : decode cX4_become 119 = .ok (.iastore, 1) := by decide +kernel
theorem dX4_become_120 : decode cX4_become 120 = .ok (.iconst 4, 1) := by decide +kernel
theorem dX4_become_121 : decode cX4_become 121 = .ok (.iconst 4, 1) := by decide +kernel
theorem dX4_become_122 : decode cX4_become 122 = .ok (.aload_n 0, 1) := by decide +kernel
theorem dX4_become_123 : decode cX4_become 123 = .ok (.getfield 7, 3) := by decide +kernel
theorem dX4_become_126 : decode cX4_become 126 = .ok (.iconst 3, 1) := by decide +kernel
theorem dX4_become_127 : decode cX4_become 127 = .ok (.iaload, 1) := by decide +kernel
theorem dX4_become_128 : decode cX4_become 128 = .ok (.imul, 1) := by decide +kernel
theorem dX4_become_129 : decode cX4_become 129 = .ok (.iadd, 1) := by decide +kernel
theorem dX4_become_130 : decode cX4_become 130 = .ok (.istore_n 3, 1) := by decide +kernel
theorem dX4_become_131 : decode cX4_become 131 = .ok (.aload_n 0, 1) := by decide +kernel
theorem dX4_become_132 : decode cX4_become 132 = .ok (.getfield 7, 3) := by decide +kernel
theorem dX4_become_135 : decode cX4_become 135 = .ok (.iload_n 3, 1) := by decide +kernel
theorem dX4_become_136 : decode cX4_become 136 = .ok (.aload_n 0, 1) := by decide +kernel
theorem dX4_become_137 : decode cX4_become 137 = .ok (.getfield 7, 3) := by decide +kernel
theorem dX4_become_140 : decode cX4_become 140 = .ok (.iconst 2, 1) := by decide +kernel
theorem dX4_become_141 : decode cX4_become 141 = .ok (.iaload, 1) := by decide +kernel
theorem dX4_become_142 : decode cX4_become 142 = .ok (.iastore, 1) := by decide +kernel
theorem dX4_become_143 : decode cX4_become 143 = .ok (.aload_n 0, 1) := by decide +kernel
theorem dX4_become_144 : decode cX4_become 144 = .ok (.getfield 7, 3) := by decide +kernel
theorem dX4_become_147 : decode cX4_become 147 = .ok (.iload_n 3, 1) := by decide +kernel
theorem dX4_become_148 : decode cX4_become 148 = .ok (.iconst 1, 1) := by decide +kernel
theorem dX4_become_149 : decode cX4_become 149 = .ok (.iadd, 1) := by decide +kernel
theorem dX4_become_150 : decode cX4_become 150 = .ok (.iload_n 1, 1) := by decide +kernel
theorem dX4_become_151 : decode cX4_become 151 = .ok (.iastore, 1) := by decide +kernel
theorem dX4_become_152 : decode cX4_become 152 = .ok (.aload_n 0, 1) := by decide +kernel
theorem dX4_become_153 : decode cX4_become 153 = .ok (.getfield 7, 3) := by decide +kernel
theorem dX4_become_156 : decode cX4_become 156 = .ok (.iload_n 3, 1) := by decide +kernel
theorem dX4_become_157 : decode cX4_become 157 = .ok (.iconst 2, 1) := by decide +kernel
theorem dX4_become_158 : decode cX4_become 158 = .ok (.iadd, 1) := by decide +kernel
theorem dX4_become_159 : decode cX4_become 159 = .ok (.iload_n 2, 1) := by decide +kernel
theorem dX4_become_160 : decode cX4_become 160 = .ok (.iastore, 1) := by decide +kernel
theorem dX4_become_161 : decode cX4_become 161 = .ok (.aload_n 0, 1) := by decide +kernel
theorem dX4_become_162 : decode cX4_become 162 = .ok (.getfield 7, 3) := by decide +kernel
theorem dX4_become_165 : decode cX4_become 165 = .ok (.iload_n 3, 1) := by decide +kernel
theorem dX4_become_166 : decode cX4_become 166 = .ok (.iconst 3, 1) := by decide +kernel
theorem dX4_become_167 : decode cX4_become 167 = .ok (.iadd, 1) := by decide +kernel
theorem dX4_become_168 : decode cX4_become 168 = .ok (.aload_n 0, 1) := by decide +kernel
theorem dX4_become_169 : decode cX4_become 169 = .ok (.iload_n 1, 1) := by decide +kernel
theorem dX4_become_170 : decode cX4_become 170 = .ok (.bipush 15, 2) := by decide +kernel
theorem dX4_become_172 : decode cX4_become 172 = .ok (.invokevirtual 36, 3) := by decide +kernel
theorem dX4_become_175 : decode cX4_become 175 = .ok (.iastore, 1) := by decide +kernel
theorem dX4_become_176 : decode cX4_become 176 = .ok (.aload_n 0, 1) := by decide +kernel
theorem dX4_become_177 : decode cX4_become 177 = .ok (.getfield 7, 3) := by decide +kernel
theorem dX4_become_180 : decode cX4_become 180 = .ok (.iconst 3, 1) := by decide +kernel
theorem dX4_become_181 : decode cX4_become 181 = .ok (.dup2, 1) := by decide +kernel
theorem dX4_become_182 : decode cX4_become 182 = .ok (.iaload, 1) := by decide +kernel
theorem dX4_become_183 : decode cX4_become 183 = .ok (.iconst 1, 1) := by decide +kernel
theorem dX4_become_184 : decode cX4_become 184 = .ok (.iadd, 1) := by decide +kernel
theorem dX4_become_185 : decode cX4_become 185 = .ok (.iastore, 1) := by decide +kernel
theorem dX4_become_186 : decode cX4_become 186 = .ok (.return_, 1) := by decide +kernel
theorem dX4_becomeFor_0 : decode cX4_becomeFor 0 = .ok (.aload_n 0, 1) := by decide +kernel
theorem dX4_becomeFor_1 : decode cX4_becomeFor 1 = .ok (.iload_n 1, 1) := by decide +kernel
theorem dX4_becomeFor_2 : decode cX4_becomeFor 2 = .ok (.bipush 15, 2) := by decide +kernel
theorem dX4_becomeFor_4 : decode cX4_becomeFor 4 = .ok (.iload_n 3, 1) := by decide +kernel
theorem dX4_becomeFor_5 : decode cX4_becomeFor 5 = .ok (.invokevirtual 40, 3) := by decide +kernel
theorem dX4_becomeFor_8 : decode cX4_becomeFor 8 = .ok (.aload_n 0, 1) := by decide +kernel
theorem dX4_becomeFor_9 : decode cX4_becomeFor 9 = .ok (.iload_n 1, 1) := by decide +kernel
theorem dX4_becomeFor_10 : decode cX4_becomeFor 10 = .ok (.iload_n 2, 1) := by decide +kernel
theorem dX4_becomeFor_11 : decode cX4_becomeFor 11 = .ok (.invokevirtual 54, 3) := by decide +kernel
theorem dX4_becomeFor_14 : decode cX4_becomeFor 14 = .ok (.return_, 1) := by decide +kernel
theorem dX4_towards_0 : decode cX4_towards 0 = .ok (.iload_n 1, 1) := by decide +kernel
theorem dX4_towards_1 : decode cX4_towards 1 = .ok (.iload_n 0, 1) := by decide +kernel
theorem dX4_towards_2 : decode cX4_towards 2 = .ok (.isub, 1) := by decide +kernel
theorem dX4_towards_3 : decode cX4_towards 3 = .ok (.istore_n 3, 1) := by decide +kernel
theorem dX4_towards_4 : decode cX4_towards 4 = .ok (.iload_n 0, 1) := by decide +kernel
theorem dX4_towards_5 : decode cX4_towards 5 = .ok (.iload_n 3, 1) := by decide +kernel
theorem dX4_towards_6 : decode cX4_towards 6 = .ok (.iload_n 2, 1) := by decide +kernel
theorem dX4_towards_7 : decode cX4_towards 7 = .ok (.if_icmp .le 7, 3) := by decide +kernel
theorem dX4_towards_10 : decode cX4_towards 10 = .ok (.iload_n 2, 1) := by decide +kernel
theorem dX4_towards_11 : decode cX4_towards 11 = .ok (.goto 15, 3) := by decide +kernel
theorem dX4_towards_14 : decode cX4_towards 14 = .ok (.iload_n 3, 1) := by decide +kernel
theorem dX4_towards_15 : decode cX4_towards 15 = .ok (.iload_n 2, 1) := by decide +kernel
theorem dX4_towards_16 : decode cX4_towards 16 = .ok (.ineg, 1) := by decide +kernel
theorem dX4_towards_17 : decode cX4_towards 17 = .ok (.if_icmp .ge 8, 3) := by decide +kernel
theorem dX4_towards_20 : decode cX4_towards 20 = .ok (.iload_n 2, 1) := by decide +kernel
theorem dX4_towards_21 : decode cX4_towards 21 = .ok (.ineg, 1) := by decide +kernel
theorem dX4_towards_22 : decode cX4_towards 22 = .ok (.goto 4, 3) := by decide +kernel
theorem dX4_towards_25 : decode cX4_towards 25 = .ok (.iload_n 3, 1) := by decide +kernel
theorem dX4_towards_26 : decode cX4_towards 26 = .ok (.iadd, 1) := by decide +kernel
theorem dX4_towards_27 : decode cX4_towards 27 = .ok (.ireturn, 1) := by decide +kernel
theorem dX4_moveVoltage_0 : decode cX4_moveVoltage 0 = .ok (.aload_n 0, 1) := by decide +kernel
theorem dX4_moveVoltage_1 : decode cX4_moveVoltage 1 = .ok (.iload_n 1, 1) := by decide +kernel
theorem dX4_moveVoltage_2 : decode cX4_moveVoltage 2 = .ok (.bipush 9, 2) := by decide +kernel
theorem dX4_moveVoltage_4 : decode cX4_moveVoltage 4 = .ok (.invokevirtual 36, 3) := by decide +kernel
theorem dX4_moveVoltage_7 : decode cX4_moveVoltage 7 = .ok (.iconst 2, 1) := by decide +kernel
theorem dX4_moveVoltage_8 : decode cX4_moveVoltage 8 = .ok (.if_icmp .eq 14, 3) := by decide +kernel
theorem dX4_moveVoltage_11 : decode cX4_moveVoltage 11 = .ok (.aload_n 0, 1) := by decide +kernel
theorem dX4_moveVoltage_12 : decode cX4_moveVoltage 12 = .ok (.iload_n 1, 1) := by decide +kernel
theorem dX4_moveVoltage_13 : decode cX4_moveVoltage 13 = .ok (.bipush 9, 2) := by decide +kernel
theorem dX4_moveVoltage_15 : decode cX4_moveVoltage 15 = .ok (.invokevirtual 36, 3) := by decide +kernel
theorem dX4_moveVoltage_18 : decode cX4_moveVoltage 18 = .ok (.iconst 3, 1) := by decide +kernel
theorem dX4_moveVoltage_19 : decode cX4_moveVoltage 19 = .ok (.if_icmp .ne 17, 3) := by decide +kernel
theorem dX4_moveVoltage_22 : decode cX4_moveVoltage 22 = .ok (.aload_n 0, 1) := by decide +kernel
theorem dX4_moveVoltage_23 : decode cX4_moveVoltage 23 = .ok (.iload_n 1, 1) := by decide +kernel
theorem dX4_moveVoltage_24 : decode cX4_moveVoltage 24 = .ok (.bipush 12, 2) := by decide +kernel
theorem dX4_moveVoltage_26 : decode cX4_moveVoltage 26 = .ok (.invokevirtual 36, 3) := by decide +kernel
theorem dX4_moveVoltage_29 : decode cX4_moveVoltage 29 = .ok (.ifCond .ne 7, 3) := by decide +kernel
theorem dX4_moveVoltage_32 : decode cX4_moveVoltage 32 = .ok (.iconst 1, 1) := by decide +kernel
theorem dX4_moveVoltage_33 : decode cX4_moveVoltage 33 = .ok (.goto 4, 3) := by decide +kernel
theorem dX4_moveVoltage_36 : decode cX4_moveVoltage 36 = .ok (.iconst 0, 1) := by decide +kernel
theorem dX4_moveVoltage_37 : decode cX4_moveVoltage 37 = .ok (.istore_n 2, 1) := by decide +kernel
theorem dX4_moveVoltage_38 : decode cX4_moveVoltage 38 = .ok (.aload_n 0, 1) := by decide +kernel
theorem dX4_moveVoltage_39 : decode cX4_moveVoltage 39 = .ok (.iload_n 1, 1) := by decide +kernel
theorem dX4_moveVoltage_40 : decode cX4_moveVoltage 40 = .ok (.bipush 10, 2) := by decide +kernel
theorem dX4_moveVoltage_42 : decode cX4_moveVoltage 42 = .ok (.invokevirtual 36, 3) := by decide +kernel
theorem dX4_moveVoltage_45 : decode cX4_moveVoltage 45 = .ok (.istore_n 3, 1) := by decide +kernel
theorem dX4_moveVoltage_46 : decode cX4_moveVoltage 46 = .ok (.aload_n 0, 1) := by decide +kernel
theorem dX4_moveVoltage_47 : decode cX4_moveVoltage 47 = .ok (.iload_n 1, 1) := by decide +kernel
theorem dX4_moveVoltage_48 : decode cX4_moveVoltage 48 = .ok (.bipush 10, 2) := by decide +kernel
theorem dX4_moveVoltage_50 : decode cX4_moveVoltage 50 = .ok (.iload_n 2, 1) := by decide +kernel
theorem dX4_moveVoltage_51 : decode cX4_moveVoltage 51 = .ok (.ifCond .eq 22, 3) := by decide +kernel
theorem dX4_moveVoltage_54 : decode cX4_moveVoltage 54 = .ok (.iload_n 3, 1) := by decide +kernel
theorem dX4_moveVoltage_55 : decode cX4_moveVoltage 55 = .ok (.aload_n 0, 1) := by decide +kernel
theorem dX4_moveVoltage_56 : decode cX4_moveVoltage 56 = .ok (.iload_n 1, 1) := by decide +kernel
theorem dX4_moveVoltage_57 : decode cX4_moveVoltage 57 = .ok (.iconst 0, 1) := by decide +kernel
theorem dX4_moveVoltage_58 : decode cX4_moveVoltage 58 = .ok (.invokevirtual 36, 3) := by decide +kernel
theorem dX4_moveVoltage_61 : decode cX4_moveVoltage 61 = .ok (.aload_n 0, 1) := by decide +kernel
theorem dX4_moveVoltage_62 : decode cX4_moveVoltage 62 = .ok (.iload_n 1, 1) := by decide +kernel
theorem dX4_moveVoltage_63 : decode cX4_moveVoltage 63 = .ok (.iconst 1, 1) := by decide +kernel
theorem dX4_moveVoltage_64 : decode cX4_moveVoltage 64 = .ok (.invokevirtual 36, 3) := by decide +kernel
theorem dX4_moveVoltage_67 : decode cX4_moveVoltage 67 = .ok (.invokestatic 57, 3) := by decide +kernel
theorem dX4_moveVoltage_70 : decode cX4_moveVoltage 70 = .ok (.goto 14, 3) := by decide +kernel
theorem dX4_moveVoltage_73 : decode cX4_moveVoltage 73 = .ok (.iload_n 3, 1) := by decide +kernel
theorem dX4_moveVoltage_74 : decode cX4_moveVoltage 74 = .ok (.iconst 0, 1) := by decide +kernel
theorem dX4_moveVoltage_75 : decode cX4_moveVoltage 75 = .ok (.aload_n 0, 1) := by decide +kernel
theorem dX4_moveVoltage_76 : decode cX4_moveVoltage 76 = .ok (.iload_n 1, 1) := by decide +kernel
theorem dX4_moveVoltage_77 : decode cX4_moveVoltage 77 = .ok (.iconst 2, 1) := by decide +kernel
theorem dX4_moveVoltage_78 : decode cX4_moveVoltage 78 = .ok (.invokevirtual 36, 3) := by decide +kernel
theorem dX4_moveVoltage_81 : decode cX4_moveVoltage 81 = .ok (.invokestatic 57, 3) := by decide +kernel
theorem dX4_moveVoltage_84 : decode cX4_moveVoltage 84 = .ok (.invokevirtual 40, 3) := by decide +kernel
theorem dX4_moveVoltage_87 : decode cX4_moveVoltage 87 = .ok (.return_, 1) := by decide +kernel
theorem dX4_missing_0 : decode cX4_missing 0 = .ok (.iconst (-1), 1) := by decide +kernel
theorem dX4_missing_1 : decode cX4_missing 1 = .ok (.istore_n 2, 1) := by decide +kernel
theorem dX4_missing_2 : decode cX4_missing 2 = .ok (.iload_n 1, 1) := by decide +kernel
theorem dX4_missing_3 : decode cX4_missing 3 = .ok (.iconst 1, 1) := by decide +kernel
theorem dX4_missing_4 : decode cX4_missing 4 = .ok (.isub, 1) := by decide +kernel
theorem dX4_missing_5 : decode cX4_missing 5 = .ok (.istore_n 3, 1) := by decide +kernel
theorem dX4_missing_6 : decode cX4_missing 6 = .ok (.iload_n 3, 1) := by decide +kernel
theorem dX4_missing_7 : decode cX4_missing 7 = .ok (.ifCond .lt 47, 3) := by decide +kernel
theorem dX4_missing_10 : decode cX4_missing 10 = .ok (.aload_n 0, 1) := by decide +kernel
theorem dX4_missing_11 : decode cX4_missing 11 = .ok (.iload_n 1, 1) := by decide +kernel
theorem dX4_missing_12 : decode cX4_missing 12 = .ok (.bipush 7, 2) := by decide +kernel
theorem dX4_missing_14 : decode cX4_missing 14 = .ok (.invokevirtual 36, 3) := by decide +kernel
theorem dX4_missing_17 : decode cX4_missing 17 = .ok (.iload_n 3, 1) := by decide +kernel
theorem dX4_missing_18 : decode cX4_missing 18 = .ok (.invokestatic 61, 3) := by decide +kernel
theorem dX4_missing_21 : decode cX4_missing 21 = .ok (.ifCond .eq 25, 3) := by decide +kernel
theorem dX4_missing_24 : decode cX4_missing 24 = .ok (.aload_n 0, 1) := by decide +kernel
theorem dX4_missing_25 : decode cX4_missing 25 = .ok (.getfield 19, 3) := by decide +kernel
theorem dX4_missing_28 : decode cX4_missing 28 = .ok (.iload_n 3, 1) := by decide +kernel
theorem dX4_missing_29 : decode cX4_missing 29 = .ok (.iaload, 1) := by decide +kernel
theorem dX4_missing_30 : decode cX4_missing 30 = .ok (.iconst 3, 1) := by decide +kernel
theorem dX4_missing_31 : decode cX4_missing 31 = .ok (.if_icmp .ne 11, 3) := by decide +kernel
theorem dX4_missing_34 : decode cX4_missing 34 = .ok (.aload_n 0, 1) := by decide +kernel
theorem dX4_missing_35 : decode cX4_missing 35 = .ok (.iload_n 3, 1) := by decide +kernel
theorem dX4_missing_36 : decode cX4_missing 36 = .ok (.invokevirtual 65, 3) := by decide +kernel
theorem dX4_missing_39 : decode cX4_missing 39 = .ok (.ifCond .ne 7, 3) := by decide +kernel
theorem dX4_missing_42 : decode cX4_missing 42 = .ok (.iload_n 3, 1) := by decide +kernel
theorem dX4_missing_43 : decode cX4_missing 43 = .ok (.goto 4, 3) := by decide +kernel
theorem dX4_missing_46 : decode cX4_missing 46 = .ok (.iload_n 2, 1) := by decide +kernel
theorem dX4_missing_47 : decode cX4_missing 47 = .ok (.istore_n 2, 1) := by decide +kernel
theorem dX4_missing_48 : decode cX4_missing 48 = .ok (.iinc 3 (-1), 3) := by decide +kernel
theorem dX4_missing_51 : decode cX4_missing 51 = .ok (.goto (-45), 3) := by decide +kernel
theorem dX4_missing_54 : decode cX4_missing 54 = .ok (.iload_n 2, 1) := by decide +kernel
theorem dX4_missing_55 : decode cX4_missing 55 = .ok (.ireturn, 1) := by decide +kernel
theorem dX4_isUsed_0 : decode cX4_isUsed 0 = .ok (.iconst 0, 1) := by decide +kernel
theorem dX4_isUsed_1 : decode cX4_isUsed 1 = .ok (.istore_n 2, 1) := by decide +kernel
theorem dX4_isUsed_2 : decode cX4_isUsed 2 = .ok (.iload_n 1, 1) := by decide +kernel
theorem dX4_isUsed_3 : decode cX4_isUsed 3 = .ok (.iconst 1, 1) := by decide +kernel
theorem dX4_isUsed_4 : decode cX4_isUsed 4 = .ok (.iadd, 1) := by decide +kernel
theorem dX4_isUsed_5 : decode cX4_isUsed 5 = .ok (.istore_n 3, 1) := by decide +kernel
theorem dX4_isUsed_6 : decode cX4_isUsed 6 = .ok (.iload_n 3, 1) := by decide +kernel
theorem dX4_isUsed_7 : decode cX4_isUsed 7 = .ok (.aload_n 0, 1) := by decide +kernel
theorem dX4_isUsed_8 : decode cX4_isUsed 8 = .ok (.getfield 7, 3) := by decide +kernel
theorem dX4_isUsed_11 : decode cX4_isUsed 11 = .ok (.iconst 0, 1) := by decide +kernel
theorem dX4_isUsed_12 : decode cX4_isUsed 12 = .ok (.iaload, 1) := by decide +kernel
theorem dX4_isUsed_13 : decode cX4_isUsed 13 = .ok (.if_icmp .ge 72, 3) := by decide +kernel
theorem dX4_isUsed_16 : decode cX4_isUsed 16 = .ok (.aload_n 0, 1) := by decide +kernel
theorem dX4_isUsed_17 : decode cX4_isUsed 17 = .ok (.iload_n 3, 1) := by decide +kernel
theorem dX4_isUsed_18 : decode cX4_isUsed 18 = .ok (.invokevirtual 69, 3) := by decide +kernel
theorem dX4_isUsed_21 : decode cX4_isUsed 21 = .ok (.ifCond .eq 26, 3) := by decide +kernel
theorem dX4_isUsed_24 : decode cX4_isUsed 24 = .ok (.aload_n 0, 1) := by decide +kernel
theorem dX4_isUsed_25 : decode cX4_isUsed 25 = .ok (.getfield 19, 3) := by decide +kernel
theorem dX4_isUsed_28 : decode cX4_isUsed 28 = .ok (.iload_n 3, 1) := by decide +kernel
theorem dX4_isUsed_29 : decode cX4_isUsed 29 = .ok (.iaload, 1) := by decide +kernel
theorem dX4_isUsed_30 : decode cX4_isUsed 30 = .ok (.ifCond .eq 13, 3) := by decide +kernel
theorem dX4_isUsed_33 : decode cX4_isUsed 33 = .ok (.aload_n 0, 1) := by decide +kernel
theorem dX4_isUsed_34 : decode cX4_isUsed 34 = .ok (.getfield 19, 3) := by decide +kernel
theorem dX4_isUsed_37 : decode cX4_isUsed 37 = .ok (.iload_n 3, 1) := by decide +kernel
theorem dX4_isUsed_38 : decode cX4_isUsed 38 = .ok (.iaload, 1) := by decide +kernel
theorem dX4_isUsed_39 : decode cX4_isUsed 39 = .ok (.iconst 5, 1) := by decide +kernel
theorem dX4_isUsed_40 : decode cX4_isUsed 40 = .ok (.if_icmp .ne 7, 3) := by decide +kernel
theorem dX4_isUsed_43 : decode cX4_isUsed 43 = .ok (.iconst 1, 1) := by decide +kernel
theorem dX4_isUsed_44 : decode cX4_isUsed 44 = .ok (.goto 4, 3) := by decide +kernel
theorem dX4_isUsed_47 : decode cX4_isUsed 47 = .ok (.iconst 0, 1) := by decide +kernel
theorem dX4_isUsed_48 : decode cX4_isUsed 48 = .ok (.istore 4, 2) := by decide +kernel
theorem dX4_isUsed_50 : decode cX4_isUsed 50 = .ok (.iload_n 2, 1) := by decide +kernel
theorem dX4_isUsed_51 : decode cX4_isUsed 51 = .ok (.ifCond .ne 22, 3) := by decide +kernel
theorem dX4_isUsed_54 : decode cX4_isUsed 54 = .ok (.aload_n 0, 1) := by decide +kernel
theorem dX4_isUsed_55 : decode cX4_isUsed 55 = .ok (.iload_n 3, 1) := by decide +kernel
theorem dX4_isUsed_56 : decode cX4_isUsed 56 = .ok (.bipush 7, 2) := by decide +kernel
theorem dX4_isUsed_58 : decode cX4_isUsed 58 = .ok (.invokevirtual 36, 3) := by decide +kernel
theorem dX4_isUsed_61 : decode cX4_isUsed 61 = .ok (.iload_n 1, 1) := by decide +kernel
theorem dX4_isUsed_62 : decode cX4_isUsed 62 = .ok (.invokestatic 61, 3) := by decide +kernel
theorem dX4_isUsed_65 : decode cX4_isUsed 65 = .ok (.ifCond .eq 12, 3) := by decide +kernel
theorem dX4_isUsed_68 : decode cX4_isUsed 68 = .ok (.iload 4, 2) := by decide +kernel
theorem dX4_isUsed_70 : decode cX4_isUsed 70 = .ok (.ifCond .ne 7, 3) := by decide +kernel
theorem dX4_isUsed_73 : decode cX4_isUsed 73 = .ok (.iconst 1, 1) := by decide +kernel
theorem dX4_isUsed_74 : decode cX4_isUsed 74 = .ok (.goto 4, 3) := by decide +kernel
theorem dX4_isUsed_77 : decode cX4_isUsed 77 = .ok (.iconst 0, 1) := by decide +kernel
theorem dX4_isUsed_78 : decode cX4_isUsed 78 = .ok (.istore_n 2, 1) := by decide +kernel
theorem dX4_isUsed_79 : decode cX4_isUsed 79 = .ok (.iinc 3 1, 3) := by decide +kernel
theorem dX4_isUsed_82 : decode cX4_isUsed 82 = .ok (.goto (-76), 3) := by decide +kernel
theorem dX4_isUsed_85 : decode cX4_isUsed 85 = .ok (.iload_n 2, 1) := by decide +kernel
theorem dX4_isUsed_86 : decode cX4_isUsed 86 = .ok (.ireturn, 1) := by decide +kernel
theorem dX4_fail_0 : decode cX4_fail 0 = .ok (.aload_n 0, 1) := by decide +kernel
theorem dX4_fail_1 : decode cX4_fail 1 = .ok (.iload_n 1, 1) := by decide +kernel
theorem dX4_fail_2 : decode cX4_fail 2 = .ok (.bipush 14, 2) := by decide +kernel
theorem dX4_fail_4 : decode cX4_fail 4 = .ok (.invokevirtual 50, 3) := by decide +kernel
theorem dX4_fail_7 : decode cX4_fail 7 = .ok (.aload_n 0, 1) := by decide +kernel
theorem dX4_fail_8 : decode cX4_fail 8 = .ok (.iload_n 1, 1) := by decide +kernel
theorem dX4_fail_9 : decode cX4_fail 9 = .ok (.bipush 18, 2) := by decide +kernel
theorem dX4_fail_11 : decode cX4_fail 11 = .ok (.invokevirtual 50, 3) := by decide +kernel
theorem dX4_fail_14 : decode cX4_fail 14 = .ok (.aload_n 0, 1) := by decide +kernel
theorem dX4_fail_15 : decode cX4_fail 15 = .ok (.iload_n 1, 1) := by decide +kernel
theorem dX4_fail_16 : decode cX4_fail 16 = .ok (.aload_n 0, 1) := by decide +kernel
theorem dX4_fail_17 : decode cX4_fail 17 = .ok (.iload_n 1, 1) := by decide +kernel
theorem dX4_fail_18 : decode cX4_fail 18 = .ok (.bipush 14, 2) := by decide +kernel
theorem dX4_fail_20 : decode cX4_fail 20 = .ok (.invokevirtual 36, 3) := by decide +kernel
theorem dX4_fail_23 : decode cX4_fail 23 = .ok (.aload_n 0, 1) := by decide +kernel
theorem dX4_fail_24 : decode cX4_fail 24 = .ok (.iload_n 1, 1) := by decide +kernel
theorem dX4_fail_25 : decode cX4_fail 25 = .ok (.bipush 6, 2) := by decide +kernel
theorem dX4_fail_27 : decode cX4_fail 27 = .ok (.invokevirtual 36, 3) := by decide +kernel
theorem dX4_fail_30 : decode cX4_fail 30 = .ok (.if_icmp .lt 7, 3) := by decide +kernel
theorem dX4_fail_33 : decode cX4_fail 33 = .ok (.iconst 5, 1) := by decide +kernel
theorem dX4_fail_34 : decode cX4_fail 34 = .ok (.goto 4, 3) := by decide +kernel
theorem dX4_fail_37 : decode cX4_fail 37 = .ok (.iconst 4, 1) := by decide +kernel
theorem dX4_fail_38 : decode cX4_fail 38 = .ok (.iload_n 1, 1) := by decide +kernel
theorem dX4_fail_39 : decode cX4_fail 39 = .ok (.invokevirtual 72, 3) := by decide +kernel
theorem dX4_fail_42 : decode cX4_fail 42 = .ok (.return_, 1) := by decide +kernel
theorem dX4_lookWaiting_0 : decode cX4_lookWaiting 0 = .ok (.aload_n 0, 1) := by decide +kernel
theorem dX4_lookWaiting_1 : decode cX4_lookWaiting 1 = .ok (.iload_n 1, 1) := by decide +kernel
theorem dX4_lookWaiting_2 : decode cX4_lookWaiting 2 = .ok (.bipush 8, 2) := by decide +kernel
theorem dX4_lookWaiting_4 : decode cX4_lookWaiting 4 = .ok (.invokevirtual 36, 3) := by decide +kernel
theorem dX4_lookWaiting_7 : decode cX4_lookWaiting 7 = .ok (.ifCond .ne 12, 3) := by decide +kernel
theorem dX4_lookWaiting_10 : decode cX4_lookWaiting 10 = .ok (.aload_n 0, 1) := by decide +kernel
theorem dX4_lookWaiting_11 : decode cX4_lookWaiting 11 = .ok (.iload_n 1, 1) := by decide +kernel
theorem dX4_lookWaiting_12 : decode cX4_lookWaiting 12 = .ok (.iconst 0, 1) := by decide +kernel
theorem dX4_lookWaiting_13 : decode cX4_lookWaiting 13 = .ok (.invokevirtual 54, 3) := by decide +kernel
theorem dX4_lookWaiting_16 : decode cX4_lookWaiting 16 = .ok (.goto 68, 3) := by decide +kernel
theorem dX4_lookWaiting_19 : decode cX4_lookWaiting 19 = .ok (.aload_n 0, 1) := by decide +kernel
theorem dX4_lookWaiting_20 : decode cX4_lookWaiting 20 = .ok (.iload_n 1, 1) := by decide +kernel
theorem dX4_lookWaiting_21 : decode cX4_lookWaiting 21 = .ok (.invokevirtual 69, 3) := by decide +kernel
theorem dX4_lookWaiting_24 : decode cX4_lookWaiting 24 = .ok (.ifCond .eq 52, 3) := by decide +kernel
theorem dX4_lookWaiting_27 : decode cX4_lookWaiting 27 = .ok (.aload_n 0, 1) := by decide +kernel
theorem dX4_lookWaiting_28 : decode cX4_lookWaiting 28 = .ok (.iload_n 1, 1) := by decide +kernel
theorem dX4_lookWaiting_29 : decode cX4_lookWaiting 29 = .ok (.invokevirtual 75, 3) := by decide +kernel
theorem dX4_lookWaiting_32 : decode cX4_lookWaiting 32 = .ok (.iconst (-1), 1) := by decide +kernel
theorem dX4_lookWaiting_33 : decode cX4_lookWaiting 33 = .ok (.if_icmp .ne 43, 3) := by decide +kernel
theorem dX4_lookWaiting_36 : decode cX4_lookWaiting 36 = .ok (.aload_n 0, 1) := by decide +kernel
theorem dX4_lookWaiting_37 : decode cX4_lookWaiting 37 = .ok (.iload_n 1, 1) := by decide +kernel
theorem dX4_lookWaiting_38 : decode cX4_lookWaiting 38 = .ok (.bipush 13, 2) := by decide +kernel
theorem dX4_lookWaiting_40 : decode cX4_lookWaiting 40 = .ok (.invokevirtual 50, 3) := by decide +kernel
theorem dX4_lookWaiting_43 : decode cX4_lookWaiting 43 = .ok (.aload_n 0, 1) := by decide +kernel
theorem dX4_lookWaiting_44 : decode cX4_lookWaiting 44 = .ok (.iload_n 1, 1) := by decide +kernel
theorem dX4_lookWaiting_45 : decode cX4_lookWaiting 45 = .ok (.bipush 13, 2) := by decide +kernel
theorem dX4_lookWaiting_47 : decode cX4_lookWaiting 47 = .ok (.invokevirtual 36, 3) := by decide +kernel
theorem dX4_lookWaiting_50 : decode cX4_lookWaiting 50 = .ok (.aload_n 0, 1) := by decide +kernel
theorem dX4_lookWaiting_51 : decode cX4_lookWaiting 51 = .ok (.iload_n 1, 1) := by decide +kernel
theorem dX4_lookWaiting_52 : decode cX4_lookWaiting 52 = .ok (.iconst 4, 1) := by decide +kernel
theorem dX4_lookWaiting_53 : decode cX4_lookWaiting 53 = .ok (.invokevirtual 36, 3) := by decide +kernel
theorem dX4_lookWaiting_56 : decode cX4_lookWaiting 56 = .ok (.if_icmp .le 28, 3) := by decide +kernel
theorem dX4_lookWaiting_59 : decode cX4_lookWaiting 59 = .ok (.aload_n 0, 1) := by decide +kernel
theorem dX4_lookWaiting_60 : decode cX4_lookWaiting 60 = .ok (.iload_n 1, 1) := by decide +kernel
theorem dX4_lookWaiting_61 : decode cX4_lookWaiting 61 = .ok (.bipush 13, 2) := by decide +kernel
theorem dX4_lookWaiting_63 : decode cX4_lookWaiting 63 = .ok (.iconst 0, 1) := by decide +kernel
theorem dX4_lookWaiting_64 : decode cX4_lookWaiting 64 = .ok (.invokevirtual 40, 3) := by decide +kernel
theorem dX4_lookWaiting_67 : decode cX4_lookWaiting 67 = .ok (.aload_n 0, 1) := by decide +kernel
theorem dX4_lookWaiting_68 : decode cX4_lookWaiting 68 = .ok (.iload_n 1, 1) := by decide +kernel
theorem dX4_lookWaiting_69 : decode cX4_lookWaiting 69 = .ok (.iconst 2, 1) := by decide +kernel
theorem dX4_lookWaiting_70 : decode cX4_lookWaiting 70 = .ok (.invokevirtual 54, 3) := by decide +kernel
theorem dX4_lookWaiting_73 : decode cX4_lookWaiting 73 = .ok (.goto 11, 3) := by decide +kernel
theorem dX4_lookWaiting_76 : decode cX4_lookWaiting 76 = .ok (.aload_n 0, 1) := by decide +kernel
theorem dX4_lookWaiting_77 : decode cX4_lookWaiting 77 = .ok (.iload_n 1, 1) := by decide +kernel
theorem dX4_lookWaiting_78 : decode cX4_lookWaiting 78 = .ok (.bipush 13, 2) := by decide +kernel
theorem dX4_lookWaiting_80 : decode cX4_lookWaiting 80 = .ok (.iconst 0, 1) := by decide +kernel
theorem dX4_lookWaiting_81 : decode cX4_lookWaiting 81 = .ok (.invokevirtual 40, 3) := by decide +kernel
theorem dX4_lookWaiting_84 : decode cX4_lookWaiting 84 = .ok (.return_, 1) := by decide +kernel
theorem dX4_lookRising_0 : decode cX4_lookRising 0 = .ok (.aload_n 0, 1) := by decide +kernel
end
section
theorem dX4_lookRising_1 : decode cX4_lookRising 1 = .ok (.iload_n 1, 1) := by decide +kernel
theorem dX4_lookRising_2 : decode cX4_lookRising 2 = .ok (.invokevirtual 75, 3) := by decide +kernel
theorem dX4_lookRising_5 : decode cX4_lookRising 5 = .ok (.istore_n 2, 1) := by decide +kernel
theorem dX4_lookRising_6 : decode cX4_lookRising 6 = .ok (.aload_n 0, 1) := by decide +kernel
theorem dX4_lookRising_7 : decode cX4_lookRising 7 = .ok (.iload_n 1, 1) := by decide +kernel
theorem dX4_lookRising_8 : decode cX4_lookRising 8 = .ok (.bipush 8, 2) := by decide +kernel
theorem dX4_lookRising_10 : decode cX4_lookRising 10 = .ok (.invokevirtual 36, 3) := by decide +kernel
theorem dX4_lookRising_13 : decode cX4_lookRising 13 = .ok (.ifCond .ne 13, 3) := by decide +kernel
theorem dX4_lookRising_16 : decode cX4_lookRising 16 = .ok (.aload_n 0, 1) := by decide +kernel
theorem dX4_lookRising_17 : decode cX4_lookRising 17 = .ok (.iload_n 1, 1) := by decide +kernel
theorem dX4_lookRising_18 : decode cX4_lookRising 18 = .ok (.iconst 4, 1) := by decide +kernel
theorem dX4_lookRising_19 : decode cX4_lookRising 19 = .ok (.iconst (-1), 1) := by decide +kernel
theorem dX4_lookRising_20 : decode cX4_lookRising 20 = .ok (.invokevirtual 72, 3) := by decide +kernel
theorem dX4_lookRising_23 : decode cX4_lookRising 23 = .ok (.goto 64, 3) := by decide +kernel
theorem dX4_lookRising_26 : decode cX4_lookRising 26 = .ok (.iload_n 2, 1) := by decide +kernel
theorem dX4_lookRising_27 : decode cX4_lookRising 27 = .ok (.iconst (-1), 1) := by decide +kernel
theorem dX4_lookRising_28 : decode cX4_lookRising 28 = .ok (.if_icmp .eq 13, 3) := by decide +kernel
theorem dX4_lookRising_31 : decode cX4_lookRising 31 = .ok (.aload_n 0, 1) := by decide +kernel
theorem dX4_lookRising_32 : decode cX4_lookRising 32 = .ok (.iload_n 1, 1) := by decide +kernel
theorem dX4_lookRising_33 : decode cX4_lookRising 33 = .ok (.iconst 4, 1) := by decide +kernel
theorem dX4_lookRising_34 : decode cX4_lookRising 34 = .ok (.iload_n 2, 1) := by decide +kernel
theorem dX4_lookRising_35 : decode cX4_lookRising 35 = .ok (.invokevirtual 72, 3) := by decide +kernel
theorem dX4_lookRising_38 : decode cX4_lookRising 38 = .ok (.goto 49, 3) := by decide +kernel
theorem dX4_lookRising_41 : decode cX4_lookRising 41 = .ok (.aload_n 0, 1) := by decide +kernel
theorem dX4_lookRising_42 : decode cX4_lookRising 42 = .ok (.iload_n 1, 1) := by decide +kernel
theorem dX4_lookRising_43 : decode cX4_lookRising 43 = .ok (.invokevirtual 65, 3) := by decide +kernel
theorem dX4_lookRising_46 : decode cX4_lookRising 46 = .ok (.ifCond .eq 13, 3) := by decide +kernel
theorem dX4_lookRising_49 : decode cX4_lookRising 49 = .ok (.aload_n 0, 1) := by decide +kernel
theorem dX4_lookRising_50 : decode cX4_lookRising 50 = .ok (.iload_n 1, 1) := by decide +kernel
theorem dX4_lookRising_51 : decode cX4_lookRising 51 = .ok (.iconst 3, 1) := by decide +kernel
theorem dX4_lookRising_52 : decode cX4_lookRising 52 = .ok (.iconst (-1), 1) := by decide +kernel
theorem dX4_lookRising_53 : decode cX4_lookRising 53 = .ok (.invokevirtual 72, 3) := by decide +kernel
theorem dX4_lookRising_56 : decode cX4_lookRising 56 = .ok (.goto 31, 3) := by decide +kernel
theorem dX4_lookRising_59 : decode cX4_lookRising 59 = .ok (.aload_n 0, 1) := by decide +kernel
theorem dX4_lookRising_60 : decode cX4_lookRising 60 = .ok (.iload_n 1, 1) := by decide +kernel
theorem dX4_lookRising_61 : decode cX4_lookRising 61 = .ok (.bipush 13, 2) := by decide +kernel
theorem dX4_lookRising_63 : decode cX4_lookRising 63 = .ok (.invokevirtual 50, 3) := by decide +kernel
theorem dX4_lookRising_66 : decode cX4_lookRising 66 = .ok (.aload_n 0, 1) := by decide +kernel
theorem dX4_lookRising_67 : decode cX4_lookRising 67 = .ok (.iload_n 1, 1) := by decide +kernel
theorem dX4_lookRising_68 : decode cX4_lookRising 68 = .ok (.bipush 13, 2) := by decide +kernel
theorem dX4_lookRising_70 : decode cX4_lookRising 70 = .ok (.invokevirtual 36, 3) := by decide +kernel
theorem dX4_lookRising_73 : decode cX4_lookRising 73 = .ok (.aload_n 0, 1) := by decide +kernel
theorem dX4_lookRising_74 : decode cX4_lookRising 74 = .ok (.iload_n 1, 1) := by decide +kernel
theorem dX4_lookRising_75 : decode cX4_lookRising 75 = .ok (.iconst 5, 1) := by decide +kernel
theorem dX4_lookRising_76 : decode cX4_lookRising 76 = .ok (.invokevirtual 36, 3) := by decide +kernel
theorem dX4_lookRising_79 : decode cX4_lookRising 79 = .ok (.if_icmp .lt 8, 3) := by decide +kernel
theorem dX4_lookRising_82 : decode cX4_lookRising 82 = .ok (.aload_n 0, 1) := by decide +kernel
theorem dX4_lookRising_83 : decode cX4_lookRising 83 = .ok (.iload_n 1, 1) := by decide +kernel
theorem dX4_lookRising_84 : decode cX4_lookRising 84 = .ok (.invokevirtual 79, 3) := by decide +kernel
theorem dX4_lookRising_87 : decode cX4_lookRising 87 = .ok (.return_, 1) := by decide +kernel
theorem dX4_lookGood_0 : decode cX4_lookGood 0 = .ok (.aload_n 0, 1) := by decide +kernel
theorem dX4_lookGood_1 : decode cX4_lookGood 1 = .ok (.iload_n 1, 1) := by decide +kernel
theorem dX4_lookGood_2 : decode cX4_lookGood 2 = .ok (.invokevirtual 75, 3) := by decide +kernel
theorem dX4_lookGood_5 : decode cX4_lookGood 5 = .ok (.istore_n 2, 1) := by decide +kernel
theorem dX4_lookGood_6 : decode cX4_lookGood 6 = .ok (.iload_n 2, 1) := by decide +kernel
theorem dX4_lookGood_7 : decode cX4_lookGood 7 = .ok (.iconst (-1), 1) := by decide +kernel
theorem dX4_lookGood_8 : decode cX4_lookGood 8 = .ok (.if_icmp .eq 13, 3) := by decide +kernel
theorem dX4_lookGood_11 : decode cX4_lookGood 11 = .ok (.aload_n 0, 1) := by decide +kernel
theorem dX4_lookGood_12 : decode cX4_lookGood 12 = .ok (.iload_n 1, 1) := by decide +kernel
theorem dX4_lookGood_13 : decode cX4_lookGood 13 = .ok (.iconst 4, 1) := by decide +kernel
theorem dX4_lookGood_14 : decode cX4_lookGood 14 = .ok (.iload_n 2, 1) := by decide +kernel
theorem dX4_lookGood_15 : decode cX4_lookGood 15 = .ok (.invokevirtual 72, 3) := by decide +kernel
theorem dX4_lookGood_18 : decode cX4_lookGood 18 = .ok (.goto 44, 3) := by decide +kernel
theorem dX4_lookGood_21 : decode cX4_lookGood 21 = .ok (.aload_n 0, 1) := by decide +kernel
theorem dX4_lookGood_22 : decode cX4_lookGood 22 = .ok (.iload_n 1, 1) := by decide +kernel
theorem dX4_lookGood_23 : decode cX4_lookGood 23 = .ok (.invokevirtual 65, 3) := by decide +kernel
theorem dX4_lookGood_26 : decode cX4_lookGood 26 = .ok (.ifCond .ne 11, 3) := by decide +kernel
theorem dX4_lookGood_29 : decode cX4_lookGood 29 = .ok (.aload_n 0, 1) := by decide +kernel
theorem dX4_lookGood_30 : decode cX4_lookGood 30 = .ok (.iload_n 1, 1) := by decide +kernel
theorem dX4_lookGood_31 : decode cX4_lookGood 31 = .ok (.invokevirtual 79, 3) := by decide +kernel
theorem dX4_lookGood_34 : decode cX4_lookGood 34 = .ok (.goto 28, 3) := by decide +kernel
theorem dX4_lookGood_37 : decode cX4_lookGood 37 = .ok (.aload_n 0, 1) := by decide +kernel
theorem dX4_lookGood_38 : decode cX4_lookGood 38 = .ok (.iload_n 1, 1) := by decide +kernel
theorem dX4_lookGood_39 : decode cX4_lookGood 39 = .ok (.bipush 8, 2) := by decide +kernel
theorem dX4_lookGood_41 : decode cX4_lookGood 41 = .ok (.invokevirtual 36, 3) := by decide +kernel
theorem dX4_lookGood_44 : decode cX4_lookGood 44 = .ok (.ifCond .ne 18, 3) := by decide +kernel
theorem dX4_lookGood_47 : decode cX4_lookGood 47 = .ok (.aload_n 0, 1) := by decide +kernel
theorem dX4_lookGood_48 : decode cX4_lookGood 48 = .ok (.iload_n 1, 1) := by decide +kernel
theorem dX4_lookGood_49 : decode cX4_lookGood 49 = .ok (.invokevirtual 83, 3) := by decide +kernel
theorem dX4_lookGood_52 : decode cX4_lookGood 52 = .ok (.ifCond .ne 10, 3) := by decide +kernel
theorem dX4_lookGood_55 : decode cX4_lookGood 55 = .ok (.aload_n 0, 1) := by decide +kernel
theorem dX4_lookGood_56 : decode cX4_lookGood 56 = .ok (.iload_n 1, 1) := by decide +kernel
theorem dX4_lookGood_57 : decode cX4_lookGood 57 = .ok (.iconst 4, 1) := by decide +kernel
theorem dX4_lookGood_58 : decode cX4_lookGood 58 = .ok (.iconst (-1), 1) := by decide +kernel
theorem dX4_lookGood_59 : decode cX4_lookGood 59 = .ok (.invokevirtual 72, 3) := by decide +kernel
theorem dX4_lookGood_62 : decode cX4_lookGood 62 = .ok (.return_, 1) := by decide +kernel
theorem dX4_look_0 : decode cX4_look 0 = .ok (.aload_n 0, 1) := by decide +kernel
theorem dX4_look_1 : decode cX4_look 1 = .ok (.iload_n 1, 1) := by decide +kernel
theorem dX4_look_2 : decode cX4_look 2 = .ok (.bipush 8, 2) := by decide +kernel
theorem dX4_look_4 : decode cX4_look 4 = .ok (.invokevirtual 36, 3) := by decide +kernel
theorem dX4_look_7 : decode cX4_look 7 = .ok (.iconst 1, 1) := by decide +kernel
theorem dX4_look_8 : decode cX4_look 8 = .ok (.if_icmp .ne 7, 3) := by decide +kernel
theorem dX4_look_11 : decode cX4_look 11 = .ok (.iconst 1, 1) := by decide +kernel
theorem dX4_look_12 : decode cX4_look 12 = .ok (.goto 4, 3) := by decide +kernel
theorem dX4_look_15 : decode cX4_look 15 = .ok (.iconst 0, 1) := by decide +kernel
theorem dX4_look_16 : decode cX4_look 16 = .ok (.istore_n 2, 1) := by decide +kernel
theorem dX4_look_17 : decode cX4_look 17 = .ok (.aload_n 0, 1) := by decide +kernel
theorem dX4_look_18 : decode cX4_look 18 = .ok (.getfield 19, 3) := by decide +kernel
theorem dX4_look_21 : decode cX4_look 21 = .ok (.iload_n 1, 1) := by decide +kernel
theorem dX4_look_22 : decode cX4_look 22 = .ok (.iaload, 1) := by decide +kernel
theorem dX4_look_23 : decode cX4_look 23 = .ok (.tableswitch 133 0 4 #[33, 62, 70, 78, 86], 33) := by decide +kernel
theorem dX4_look_56 : decode cX4_look 56 = .ok (.iload_n 2, 1) := by decide +kernel
theorem dX4_look_57 : decode cX4_look 57 = .ok (.ifCond .eq 117, 3) := by decide +kernel
theorem dX4_look_60 : decode cX4_look 60 = .ok (.aload_n 0, 1) := by decide +kernel
theorem dX4_look_61 : decode cX4_look 61 = .ok (.iload_n 1, 1) := by decide +kernel
theorem dX4_look_62 : decode cX4_look 62 = .ok (.bipush 13, 2) := by decide +kernel
theorem dX4_look_64 : decode cX4_look 64 = .ok (.iconst 0, 1) := by decide +kernel
theorem dX4_look_65 : decode cX4_look 65 = .ok (.invokevirtual 40, 3) := by decide +kernel
theorem dX4_look_68 : decode cX4_look 68 = .ok (.aload_n 0, 1) := by decide +kernel
theorem dX4_look_69 : decode cX4_look 69 = .ok (.iload_n 1, 1) := by decide +kernel
theorem dX4_look_70 : decode cX4_look 70 = .ok (.bipush 14, 2) := by decide +kernel
theorem dX4_look_72 : decode cX4_look 72 = .ok (.iconst 0, 1) := by decide +kernel
theorem dX4_look_73 : decode cX4_look 73 = .ok (.invokevirtual 40, 3) := by decide +kernel
theorem dX4_look_76 : decode cX4_look 76 = .ok (.aload_n 0, 1) := by decide +kernel
theorem dX4_look_77 : decode cX4_look 77 = .ok (.iload_n 1, 1) := by decide +kernel
theorem dX4_look_78 : decode cX4_look 78 = .ok (.iconst 1, 1) := by decide +kernel
theorem dX4_look_79 : decode cX4_look 79 = .ok (.invokevirtual 54, 3) := by decide +kernel
theorem dX4_look_82 : decode cX4_look 82 = .ok (.goto 92, 3) := by decide +kernel
theorem dX4_look_85 : decode cX4_look 85 = .ok (.aload_n 0, 1) := by decide +kernel
theorem dX4_look_86 : decode cX4_look 86 = .ok (.iload_n 1, 1) := by decide +kernel
theorem dX4_look_87 : decode cX4_look 87 = .ok (.invokevirtual 86, 3) := by decide +kernel
theorem dX4_look_90 : decode cX4_look 90 = .ok (.goto 84, 3) := by decide +kernel
theorem dX4_look_93 : decode cX4_look 93 = .ok (.aload_n 0, 1) := by decide +kernel
theorem dX4_look_94 : decode cX4_look 94 = .ok (.iload_n 1, 1) := by decide +kernel
theorem dX4_look_95 : decode cX4_look 95 = .ok (.invokevirtual 89, 3) := by decide +kernel
theorem dX4_look_98 : decode cX4_look 98 = .ok (.goto 76, 3) := by decide +kernel
theorem dX4_look_101 : decode cX4_look 101 = .ok (.aload_n 0, 1) := by decide +kernel
theorem dX4_look_102 : decode cX4_look 102 = .ok (.iload_n 1, 1) := by decide +kernel
theorem dX4_look_103 : decode cX4_look 103 = .ok (.invokevirtual 92, 3) := by decide +kernel
theorem dX4_look_106 : decode cX4_look 106 = .ok (.goto 68, 3) := by decide +kernel
theorem dX4_look_109 : decode cX4_look 109 = .ok (.aload_n 0, 1) := by decide +kernel
theorem dX4_look_110 : decode cX4_look 110 = .ok (.iload_n 1, 1) := by decide +kernel
theorem dX4_look_111 : decode cX4_look 111 = .ok (.invokevirtual 69, 3) := by decide +kernel
theorem dX4_look_114 : decode cX4_look 114 = .ok (.ifCond .eq 60, 3) := by decide +kernel
theorem dX4_look_117 : decode cX4_look 117 = .ok (.aload_n 0, 1) := by decide +kernel
theorem dX4_look_118 : decode cX4_look 118 = .ok (.iload_n 1, 1) := by decide +kernel
theorem dX4_look_119 : decode cX4_look 119 = .ok (.bipush 13, 2) := by decide +kernel
theorem dX4_look_121 : decode cX4_look 121 = .ok (.iload_n 2, 1) := by decide +kernel
theorem dX4_look_122 : decode cX4_look 122 = .ok (.ifCond .eq 7, 3) := by decide +kernel
theorem dX4_look_125 : decode cX4_look 125 = .ok (.iconst 0, 1) := by decide +kernel
theorem dX4_look_126 : decode cX4_look 126 = .ok (.goto 10, 3) := by decide +kernel
theorem dX4_look_129 : decode cX4_look 129 = .ok (.aload_n 0, 1) := by decide +kernel
theorem dX4_look_130 : decode cX4_look 130 = .ok (.iload_n 1, 1) := by decide +kernel
theorem dX4_look_131 : decode cX4_look 131 = .ok (.bipush 13, 2) := by decide +kernel
theorem dX4_look_133 : decode cX4_look 133 = .ok (.invokevirtual 36, 3) := by decide +kernel
theorem dX4_look_136 : decode cX4_look 136 = .ok (.invokevirtual 40, 3) := by decide +kernel
theorem dX4_look_139 : decode cX4_look 139 = .ok (.aload_n 0, 1) := by decide +kernel
theorem dX4_look_140 : decode cX4_look 140 = .ok (.iload_n 1, 1) := by decide +kernel
theorem dX4_look_141 : decode cX4_look 141 = .ok (.iload_n 2, 1) := by decide +kernel
theorem dX4_look_142 : decode cX4_look 142 = .ok (.ifCond .eq 7, 3) := by decide +kernel
theorem dX4_look_145 : decode cX4_look 145 = .ok (.iconst 1, 1) := by decide +kernel
theorem dX4_look_146 : decode cX4_look 146 = .ok (.goto 4, 3) := by decide +kernel
theorem dX4_look_149 : decode cX4_look 149 = .ok (.iconst 0, 1) := by decide +kernel
theorem dX4_look_150 : decode cX4_look 150 = .ok (.invokevirtual 54, 3) := by decide +kernel
theorem dX4_look_153 : decode cX4_look 153 = .ok (.goto 21, 3) := by decide +kernel
theorem dX4_look_156 : decode cX4_look 156 = .ok (.iload_n 2, 1) := by decide +kernel
theorem dX4_look_157 : decode cX4_look 157 = .ok (.ifCond .ne 17, 3) := by decide +kernel
theorem dX4_look_160 : decode cX4_look 160 = .ok (.aload_n 0, 1) := by decide +kernel
theorem dX4_look_161 : decode cX4_look 161 = .ok (.iload_n 1, 1) := by decide +kernel
theorem dX4_look_162 : decode cX4_look 162 = .ok (.invokevirtual 69, 3) := by decide +kernel
theorem dX4_look_165 : decode cX4_look 165 = .ok (.ifCond .eq 9, 3) := by decide +kernel
theorem dX4_look_168 : decode cX4_look 168 = .ok (.aload_n 0, 1) := by decide +kernel
theorem dX4_look_169 : decode cX4_look 169 = .ok (.iload_n 1, 1) := by decide +kernel
theorem dX4_look_170 : decode cX4_look 170 = .ok (.iconst 0, 1) := by decide +kernel
theorem dX4_look_171 : decode cX4_look 171 = .ok (.invokevirtual 54, 3) := by decide +kernel
theorem dX4_look_174 : decode cX4_look 174 = .ok (.return_, 1) := by decide +kernel
theorem dX4_pass_0 : decode cX4_pass 0 = .ok (.iconst 0, 1) := by decide +kernel
theorem dX4_pass_1 : decode cX4_pass 1 = .ok (.istore_n 1, 1) := by decide +kernel
theorem dX4_pass_2 : decode cX4_pass 2 = .ok (.iload_n 1, 1) := by decide +kernel
theorem dX4_pass_3 : decode cX4_pass 3 = .ok (.aload_n 0, 1) := by decide +kernel
theorem dX4_pass_4 : decode cX4_pass 4 = .ok (.getfield 7, 3) := by decide +kernel
theorem dX4_pass_7 : decode cX4_pass 7 = .ok (.iconst 0, 1) := by decide +kernel
theorem dX4_pass_8 : decode cX4_pass 8 = .ok (.iaload, 1) := by decide +kernel
theorem dX4_pass_9 : decode cX4_pass 9 = .ok (.if_icmp .ge 27, 3) := by decide +kernel
theorem dX4_pass_12 : decode cX4_pass 12 = .ok (.aload_n 0, 1) := by decide +kernel
theorem dX4_pass_13 : decode cX4_pass 13 = .ok (.iload_n 1, 1) := by decide +kernel
theorem dX4_pass_14 : decode cX4_pass 14 = .ok (.invokevirtual 95, 3) := by decide +kernel
theorem dX4_pass_17 : decode cX4_pass 17 = .ok (.aload_n 0, 1) := by decide +kernel
theorem dX4_pass_18 : decode cX4_pass 18 = .ok (.getfield 19, 3) := by decide +kernel
theorem dX4_pass_21 : decode cX4_pass 21 = .ok (.iload_n 1, 1) := by decide +kernel
theorem dX4_pass_22 : decode cX4_pass 22 = .ok (.aload_n 0, 1) := by decide +kernel
theorem dX4_pass_23 : decode cX4_pass 23 = .ok (.iload_n 1, 1) := by decide +kernel
theorem dX4_pass_24 : decode cX4_pass 24 = .ok (.bipush 9, 2) := by decide +kernel
theorem dX4_pass_26 : decode cX4_pass 26 = .ok (.invokevirtual 36, 3) := by decide +kernel
theorem dX4_pass_29 : decode cX4_pass 29 = .ok (.iastore, 1) := by decide +kernel
theorem dX4_pass_30 : decode cX4_pass 30 = .ok (.iinc 1 1, 3) := by decide +kernel
theorem dX4_pass_33 : decode cX4_pass 33 = .ok (.goto (-31), 3) := by decide +kernel
theorem dX4_pass_36 : decode cX4_pass 36 = .ok (.iconst 0, 1) := by decide +kernel
theorem dX4_pass_37 : decode cX4_pass 37 = .ok (.istore_n 1, 1) := by decide +kernel
theorem dX4_pass_38 : decode cX4_pass 38 = .ok (.iload_n 1, 1) := by decide +kernel
theorem dX4_pass_39 : decode cX4_pass 39 = .ok (.aload_n 0, 1) := by decide +kernel
theorem dX4_pass_40 : decode cX4_pass 40 = .ok (.getfield 7, 3) := by decide +kernel
theorem dX4_pass_43 : decode cX4_pass 43 = .ok (.iconst 0, 1) := by decide +kernel
theorem dX4_pass_44 : decode cX4_pass 44 = .ok (.iaload, 1) := by decide +kernel
theorem dX4_pass_45 : decode cX4_pass 45 = .ok (.if_icmp .ge 14, 3) := by decide +kernel
theorem dX4_pass_48 : decode cX4_pass 48 = .ok (.aload_n 0, 1) := by decide +kernel
theorem dX4_pass_49 : decode cX4_pass 49 = .ok (.iload_n 1, 1) := by decide +kernel
theorem dX4_pass_50 : decode cX4_pass 50 = .ok (.invokevirtual 98, 3) := by decide +kernel
theorem dX4_pass_53 : decode cX4_pass 53 = .ok (.iinc 1 1, 3) := by decide +kernel
theorem dX4_pass_56 : decode cX4_pass 56 = .ok (.goto (-18), 3) := by decide +kernel
theorem dX4_pass_59 : decode cX4_pass 59 = .ok (.iconst 0, 1) := by decide +kernel
theorem dX4_pass_60 : decode cX4_pass 60 = .ok (.istore_n 1, 1) := by decide +kernel
theorem dX4_pass_61 : decode cX4_pass 61 = .ok (.iload_n 1, 1) := by decide +kernel
theorem dX4_pass_62 : decode cX4_pass 62 = .ok (.aload_n 0, 1) := by decide +kernel
theorem dX4_pass_63 : decode cX4_pass 63 = .ok (.getfield 7, 3) := by decide +kernel
theorem dX4_pass_66 : decode cX4_pass 66 = .ok (.iconst 0, 1) := by decide +kernel
theorem dX4_pass_67 : decode cX4_pass 67 = .ok (.iaload, 1) := by decide +kernel
theorem dX4_pass_68 : decode cX4_pass 68 = .ok (.if_icmp .ge 57, 3) := by decide +kernel
theorem dX4_pass_71 : decode cX4_pass 71 = .ok (.aload_n 0, 1) := by decide +kernel
theorem dX4_pass_72 : decode cX4_pass 72 = .ok (.iload_n 1, 1) := by decide +kernel
theorem dX4_pass_73 : decode cX4_pass 73 = .ok (.bipush 12, 2) := by decide +kernel
theorem dX4_pass_75 : decode cX4_pass 75 = .ok (.aload_n 0, 1) := by decide +kernel
theorem dX4_pass_76 : decode cX4_pass 76 = .ok (.iload_n 1, 1) := by decide +kernel
theorem dX4_pass_77 : decode cX4_pass 77 = .ok (.bipush 12, 2) := by decide +kernel
theorem dX4_pass_79 : decode cX4_pass 79 = .ok (.invokevirtual 36, 3) := by decide +kernel
theorem dX4_pass_82 : decode cX4_pass 82 = .ok (.ifCond .le 15, 3) := by decide +kernel
theorem dX4_pass_85 : decode cX4_pass 85 = .ok (.aload_n 0, 1) := by decide +kernel
theorem dX4_pass_86 : decode cX4_pass 86 = .ok (.iload_n 1, 1) := by decide +kernel
theorem dX4_pass_87 : decode cX4_pass 87 = .ok (.bipush 12, 2) := by decide +kernel
theorem dX4_pass_89 : decode cX4_pass 89 = .ok (.invokevirtual 36, 3) := by decide +kernel
theorem dX4_pass_92 : decode cX4_pass 92 = .ok (.iconst 1, 1) := by decide +kernel
theorem dX4_pass_93 : decode cX4_pass 93 = .ok (.isub, 1) := by decide +kernel
theorem dX4_pass_94 : decode cX4_pass 94 = .ok (.goto 4, 3) := by decide +kernel
theorem dX4_pass_97 : decode cX4_pass 97 = .ok (.iconst 0, 1) := by decide +kernel
theorem dX4_pass_98 : decode cX4_pass 98 = .ok (.invokevirtual 40, 3) := by decide +kernel
theorem dX4_pass_101 : decode cX4_pass 101 = .ok (.aload_n 0, 1) := by decide +kernel
theorem dX4_pass_102 : decode cX4_pass 102 = .ok (.iload_n 1, 1) := by decide +kernel
theorem dX4_pass_103 : decode cX4_pass 103 = .ok (.bipush 9, 2) := by decide +kernel
theorem dX4_pass_105 : decode cX4_pass 105 = .ok (.invokevirtual 36, 3) := by decide +kernel
theorem dX4_pass_108 : decode cX4_pass 108 = .ok (.iconst 3, 1) := by decide +kernel
theorem dX4_pass_109 : decode cX4_pass 109 = .ok (.if_icmp .ne 10, 3) := by decide +kernel
theorem dX4_pass_112 : decode cX4_pass 112 = .ok (.aload_n 0, 1) := by decide +kernel
theorem dX4_pass_113 : decode cX4_pass 113 = .ok (.iload_n 1, 1) := by decide +kernel
theorem dX4_pass_114 : decode cX4_pass 114 = .ok (.bipush 19, 2) := by decide +kernel
theorem dX4_pass_116 : decode cX4_pass 116 = .ok (.invokevirtual 50, 3) := by decide +kernel
theorem dX4_pass_119 : decode cX4_pass 119 = .ok (.iinc 1 1, 3) := by decide +kernel
theorem dX4_pass_122 : decode cX4_pass 122 = .ok (.goto (-61), 3) := by decide +kernel
theorem dX4_pass_125 : decode cX4_pass 125 = .ok (.aload_n 0, 1) := by decide +kernel
theorem dX4_pass_126 : decode cX4_pass 126 = .ok (.getfield 7, 3) := by decide +kernel
theorem dX4_pass_129 : decode cX4_pass 129 = .ok (.iconst 2, 1) := by decide +kernel
theorem dX4_pass_130 : decode cX4_pass 130 = .ok (.dup2, 1) := by decide +kernel
theorem dX4_pass_131 : decode cX4_pass 131 = .ok (.iaload, 1) := by decide +kernel
theorem dX4_pass_132 : decode cX4_pass 132 = .ok (.iconst 1, 1) := by decide +kernel
theorem dX4_pass_133 : decode cX4_pass 133 = .ok (.iadd, 1) := by decide +kernel
theorem dX4_pass_134 : decode cX4_pass 134 = .ok (.iastore, 1) := by decide +kernel
theorem dX4_pass_135 : decode cX4_pass 135 = .ok (.return_, 1) := by decide +kernel
theorem dX4_save_0 : decode cX4_save 0 = .ok (.aload_n 0, 1) := by decide +kernel
theorem dX4_save_1 : decode cX4_save 1 = .ok (.getfield 101, 3) := by decide +kernel
theorem dX4_save_4 : decode cX4_save 4 = .ok (.bipush 6, 2) := by decide +kernel
theorem dX4_save_6 : decode cX4_save 6 = .ok (.if_icmp .ne 46, 3) := by decide +kernel
theorem dX4_save_9 : decode cX4_save 9 = .ok (.sipush 228, 3) := by decide +kernel
theorem dX4_save_12 : decode cX4_save 12 = .ok (.istore_n 1, 1) := by decide +kernel
theorem dX4_save_13 : decode cX4_save 13 = .ok (.iload_n 1, 1) := by decide +kernel
theorem dX4_save_14 : decode cX4_save 14 = .ok (.sipush 1368, 3) := by decide +kernel
theorem dX4_save_17 : decode cX4_save 17 = .ok (.if_icmp .ge 25, 3) := by decide +kernel
theorem dX4_save_20 : decode cX4_save 20 = .ok (.aload_n 0, 1) := by decide +kernel
theorem dX4_save_21 : decode cX4_save 21 = .ok (.getfield 13, 3) := by decide +kernel
theorem dX4_save_24 : decode cX4_save 24 = .ok (.iload_n 1, 1) := by decide +kernel
theorem dX4_save_25 : decode cX4_save 25 = .ok (.sipush 228, 3) := by decide +kernel
theorem dX4_save_28 : decode cX4_save 28 = .ok (.isub, 1) := by decide +kernel
theorem dX4_save_29 : decode cX4_save 29 = .ok (.aload_n 0, 1) := by decide +kernel
theorem dX4_save_30 : decode cX4_save 30 = .ok (.getfield 13, 3) := by decide +kernel
theorem dX4_save_33 : decode cX4_save 33 = .ok (.iload_n 1, 1) := by decide +kernel
theorem dX4_save_34 : decode cX4_save 34 = .ok (.iaload, 1) := by decide +kernel
theorem dX4_save_35 : decode cX4_save 35 = .ok (.iastore, 1) := by decide +kernel
theorem dX4_save_36 : decode cX4_save 36 = .ok (.iinc 1 1, 3) := by decide +kernel
theorem dX4_save_39 : decode cX4_save 39 = .ok (.goto (-26), 3) := by decide +kernel
theorem dX4_save_42 : decode cX4_save 42 = .ok (.aload_n 0, 1) := by decide +kernel
theorem dX4_save_43 : decode cX4_save 43 = .ok (.dup, 1) := by decide +kernel
theorem dX4_save_44 : decode cX4_save 44 = .ok (.getfield 101, 3) := by decide +kernel
theorem dX4_save_47 : decode cX4_save 47 = .ok (.iconst 1, 1) := by decide +kernel
theorem dX4_save_48 : decode cX4_save 48 = .ok (.isub, 1) := by decide +kernel
theorem dX4_save_49 : decode cX4_save 49 = .ok (.putfield 101, 3) := by decide +kernel
theorem dX4_save_52 : decode cX4_save 52 = .ok (.iconst 0, 1) := by decide +kernel
theorem dX4_save_53 : decode cX4_save 53 = .ok (.istore_n 1, 1) := by decide +kernel
theorem dX4_save_54 : decode cX4_save 54 = .ok (.iload_n 1, 1) := by decide +kernel
theorem dX4_save_55 : decode cX4_save 55 = .ok (.sipush 228, 3) := by decide +kernel
theorem dX4_save_58 : decode cX4_save 58 = .ok (.if_icmp .ge 30, 3) := by decide +kernel
theorem dX4_save_61 : decode cX4_save 61 = .ok (.aload_n 0, 1) := by decide +kernel
theorem dX4_save_62 : decode cX4_save 62 = .ok (.getfield 13, 3) := by decide +kernel
theorem dX4_save_65 : decode cX4_save 65 = .ok (.sipush 228, 3) := by decide +kernel
theorem dX4_save_68 : decode cX4_save 68 = .ok (.aload_n 0, 1) := by decide +kernel
theorem dX4_save_69 : decode cX4_save 69 = .ok (.getfield 101, 3) := by decide +kernel
theorem dX4_save_72 : decode cX4_save 72 = .ok (.imul, 1) := by decide +kernel
theorem dX4_save_73 : decode cX4_save 73 = .ok (.iload_n 1, 1) := by decide +kernel
theorem dX4_save_74 : decode cX4_save 74 = .ok (.iadd, 1) := by decide +kernel
theorem dX4_save_75 : decode cX4_save 75 = .ok (.aload_n 0, 1) := by decide +kernel
theorem dX4_save_76 : decode cX4_save 76 = .ok (.getfield 7, 3) := by decide +kernel
theorem dX4_save_79 : decode cX4_save 79 = .ok (.iload_n 1, 1) := by decide +kernel
theorem dX4_save_80 : decode cX4_save 80 = .ok (.iaload, 1) := by decide +kernel
theorem dX4_save_81 : decode cX4_save 81 = .ok (.iastore, 1) := by decide +kernel
theorem dX4_save_82 : decode cX4_save 82 = .ok (.iinc 1 1, 3) := by decide +kernel
theorem dX4_save_85 : decode cX4_save 85 = .ok (.goto (-31), 3) := by decide +kernel
theorem dX4_save_88 : decode cX4_save 88 = .ok (.aload_n 0, 1) := by decide +kernel
theorem dX4_save_89 : decode cX4_save 89 = .ok (.dup, 1) := by decide +kernel
theorem dX4_save_90 : decode cX4_save 90 = .ok (.getfield 101, 3) := by decide +kernel
theorem dX4_save_93 : decode cX4_save 93 = .ok (.iconst 1, 1) := by decide +kernel
theorem dX4_save_94 : decode cX4_save 94 = .ok (.iadd, 1) := by decide +kernel
theorem dX4_save_95 : decode cX4_save 95 = .ok (.putfield 101, 3) := by decide +kernel
theorem dX4_save_98 : decode cX4_save 98 = .ok (.return_, 1) := by decide +kernel
theorem dX4_undo_0 : decode cX4_undo 0 = .ok (.aload_n 0, 1) := by decide +kernel
theorem dX4_undo_1 : decode cX4_undo 1 = .ok (.aload_n 0, 1) := by decide +kernel
theorem dX4_undo_2 : decode cX4_undo 2 = .ok (.getfield 101, 3) := by decide +kernel
theorem dX4_undo_5 : decode cX4_undo 5 = .ok (.ifCond .le 7, 3) := by decide +kernel
theorem dX4_undo_8 : decode cX4_undo 8 = .ok (.iconst 0, 1) := by decide +kernel
theorem dX4_undo_9 : decode cX4_undo 9 = .ok (.goto 4, 3) := by decide +kernel
theorem dX4_undo_12 : decode cX4_undo 12 = .ok (.iconst 1, 1) := by decide +kernel
theorem dX4_undo_13 : decode cX4_undo 13 = .ok (.putfield 28, 3) := by decide +kernel
theorem dX4_undo_16 : decode cX4_undo 16 = .ok (.aload_n 0, 1) := by decide +kernel
theorem dX4_undo_17 : decode cX4_undo 17 = .ok (.getfield 28, 3) := by decide +kernel
theorem dX4_undo_20 : decode cX4_undo 20 = .ok (.ifCond .le 5, 3) := by decide +kernel
theorem dX4_undo_23 : decode cX4_undo 23 = .ok (.iconst 0, 1) := by decide +kernel
theorem dX4_undo_24 : decode cX4_undo 24 = .ok (.ireturn, 1) := by decide +kernel
theorem dX4_undo_25 : decode cX4_undo 25 = .ok (.aload_n 0, 1) := by decide +kernel
theorem dX4_undo_26 : decode cX4_undo 26 = .ok (.dup, 1) := by decide +kernel
theorem dX4_undo_27 : decode cX4_undo 27 = .ok (.getfield 101, 3) := by decide +kernel
theorem dX4_undo_30 : decode cX4_undo 30 = .ok (.iconst 1, 1) := by decide +kernel
theorem dX4_undo_31 : decode cX4_undo 31 = .ok (.isub, 1) := by decide +kernel
theorem dX4_undo_32 : decode cX4_undo 32 = .ok (.putfield 101, 3) := by decide +kernel
theorem dX4_undo_35 : decode cX4_undo 35 = .ok (.iconst 0, 1) := by decide +kernel
theorem dX4_undo_36 : decode cX4_undo 36 = .ok (.istore_n 1, 1) := by decide +kernel
theorem dX4_undo_37 : decode cX4_undo 37 = .ok (.iload_n 1, 1) := by decide +kernel
theorem dX4_undo_38 : decode cX4_undo 38 = .ok (.sipush 228, 3) := by decide +kernel
theorem dX4_undo_41 : decode cX4_undo 41 = .ok (.if_icmp .ge 30, 3) := by decide +kernel
theorem dX4_undo_44 : decode cX4_undo 44 = .ok (.aload_n 0, 1) := by decide +kernel
theorem dX4_undo_45 : decode cX4_undo 45 = .ok (.getfield 7, 3) := by decide +kernel
theorem dX4_undo_48 : decode cX4_undo 48 = .ok (.iload_n 1, 1) := by decide +kernel
theorem dX4_undo_49 : decode cX4_undo 49 = .ok (.aload_n 0, 1) := by decide +kernel
theorem dX4_undo_50 : decode cX4_undo 50 = .ok (.getfield 13, 3) := by decide +kernel
theorem dX4_undo_53 : decode cX4_undo 53 = .ok (.sipush 228, 3) := by decide +kernel
theorem dX4_undo_56 : decode cX4_undo 56 = .ok (.aload_n 0, 1) := by decide +kernel
theorem dX4_undo_57 : decode cX4_undo 57 = .ok (.getfield 101, 3) := by decide +kernel
theorem dX4_undo_60 : decode cX4_undo 60 = .ok (.imul, 1) := by decide +kernel
theorem dX4_undo_61 : decode cX4_undo 61 = .ok (.iload_n 1, 1) := by decide +kernel
theorem dX4_undo_62 : decode cX4_undo 62 = .ok (.iadd, 1) := by decide +kernel
theorem dX4_undo_63 : decode cX4_undo 63 = .ok (.iaload, 1) := by decide +kernel
theorem dX4_undo_64 : decode cX4_undo 64 = .ok (.iastore, 1) := by decide +kernel
theorem dX4_undo_65 : decode cX4_undo 65 = .ok (.iinc 1 1, 3) := by decide +kernel
theorem dX4_undo_68 : decode cX4_undo 68 = .ok (.goto (-31), 3) := by decide +kernel
theorem dX4_undo_71 : decode cX4_undo 71 = .ok (.aload_n 0, 1) := by decide +kernel
theorem dX4_undo_72 : decode cX4_undo 72 = .ok (.getfield 101, 3) := by decide +kernel
theorem dX4_undo_75 : decode cX4_undo 75 = .ok (.ireturn, 1) := by decide +kernel
theorem dX4_keepAside_0 : decode cX4_keepAside 0 = .ok (.iconst 0, 1) := by decide +kernel
theorem dX4_keepAside_1 : decode cX4_keepAside 1 = .ok (.istore_n 1, 1) := by decide +kernel
theorem dX4_keepAside_2 : decode cX4_keepAside 2 = .ok (.iload_n 1, 1) := by decide +kernel
theorem dX4_keepAside_3 : decode cX4_keepAside 3 = .ok (.sipush 228, 3) := by decide +kernel
theorem dX4_keepAside_6 : decode cX4_keepAside 6 = .ok (.if_icmp .ge 21, 3) := by decide +kernel
theorem dX4_keepAside_9 : decode cX4_keepAside 9 = .ok (.aload_n 0, 1) := by decide +kernel
theorem dX4_keepAside_10 : decode cX4_keepAside 10 = .ok (.getfield 22, 3) := by decide +kernel
theorem dX4_keepAside_13 : decode cX4_keepAside 13 = .ok (.iload_n 1, 1) := by decide +kernel
theorem dX4_keepAside_14 : decode cX4_keepAside 14 = .ok (.aload_n 0, 1) := by decide +kernel
theorem dX4_keepAside_15 : decode cX4_keepAside 15 = .ok (.getfield 7, 3) := by decide +kernel
theorem dX4_keepAside_18 : decode cX4_keepAside 18 = .ok (.iload_n 1, 1) := by decide +kernel
theorem dX4_keepAside_19 : decode cX4_keepAside 19 = .ok (.iaload, 1) := by decide +kernel
theorem dX4_keepAside_20 : decode cX4_keepAside 20 = .ok (.iastore, 1) := by decide +kernel
theorem dX4_keepAside_21 : decode cX4_keepAside 21 = .ok (.iinc 1 1, 3) := by decide +kernel
theorem dX4_keepAside_24 : decode cX4_keepAside 24 = .ok (.goto (-22), 3) := by decide +kernel
theorem dX4_keepAside_27 : decode cX4_keepAside 27 = .ok (.return_, 1) := by decide +kernel
theorem dX4_takeBack_0 : decode cX4_takeBack 0 = .ok (.iconst 0, 1) := by decide +kernel
theorem dX4_takeBack_1 : decode cX4_takeBack 1 = .ok (.istore_n 1, 1) := by decide +kernel
theorem dX4_takeBack_2 : decode cX4_takeBack 2 = .ok (.iload_n 1, 1) := by decide +kernel
theorem dX4_takeBack_3 : decode cX4_takeBack 3 = .ok (.sipush 228, 3) := by decide +kernel
theorem dX4_takeBack_6 : decode cX4_takeBack 6 = .ok (.if_icmp .ge 21, 3) := by decide +kernel
theorem dX4_takeBack_9 : decode cX4_takeBack 9 = .ok (.aload_n 0, 1) := by decide +kernel
theorem dX4_takeBack_10 : decode cX4_takeBack 10 = .ok (.getfield 7, 3) := by decide +kernel
theorem dX4_takeBack_13 : decode cX4_takeBack 13 = .ok (.iload_n 1, 1) := by decide +kernel
theorem dX4_takeBack_14 : decode cX4_takeBack 14 = .ok (.aload_n 0, 1) := by decide +kernel
theorem dX4_takeBack_15 : decode cX4_takeBack 15 = .ok (.getfield 22, 3) := by decide +kernel
theorem dX4_takeBack_18 : decode cX4_takeBack 18 = .ok (.iload_n 1, 1) := by decide +kernel
theorem dX4_takeBack_19 : decode cX4_takeBack 19 = .ok (.iaload, 1) := by decide +kernel
theorem dX4_takeBack_20 : decode cX4_takeBack 20 = .ok (.iastore, 1) := by decide +kernel
theorem dX4_takeBack_21 : decode cX4_takeBack 21 = .ok (.iinc 1 1, 3) := by decide +kernel
theorem dX4_takeBack_24 : decode cX4_takeBack 24 = .ok (.goto (-22), 3) := by decide +kernel
theorem dX4_takeBack_27 : decode cX4_takeBack 27 = .ok (.return_, 1) := by decide +kernel
theorem dX4_isValue_0 : decode cX4_isValue 0 = .ok (.iload_n 0, 1) := by decide +kernel
theorem dX4_isValue_1 : decode cX4_isValue 1 = .ok (.tableswitch 84 0 5 #[39, 49, 49, 58, 67, 75], 39) := by decide +kernel
theorem dX4_isValue_40 : decode cX4_isValue 40 = .ok (.iload_n 1, 1) := by decide +kernel
theorem dX4_isValue_41 : decode cX4_isValue 41 = .ok (.bipush 100, 2) := by decide +kernel
theorem dX4_isValue_43 : decode cX4_isValue 43 = .ok (.sipush 5000, 3) := by decide +kernel
theorem dX4_isValue_46 : decode cX4_isValue 46 = .ok (.invokestatic 32, 3) := by decide +kernel
theorem dX4_isValue_49 : decode cX4_isValue 49 = .ok (.ireturn, 1) := by decide +kernel
theorem dX4_isValue_50 : decode cX4_isValue 50 = .ok (.iload_n 1, 1) := by decide +kernel
theorem dX4_isValue_51 : decode cX4_isValue 51 = .ok (.iconst 1, 1) := by decide +kernel
theorem dX4_isValue_52 : decode cX4_isValue 52 = .ok (.sipush 1000, 3) := by decide +kernel
theorem dX4_isValue_55 : decode cX4_isValue 55 = .ok (.invokestatic 32, 3) := by decide +kernel
theorem dX4_isValue_58 : decode cX4_isValue 58 = .ok (.ireturn, 1) := by decide +kernel
theorem dX4_isValue_59 : decode cX4_isValue 59 = .ok (.iload_n 1, 1) := by decide +kernel
theorem dX4_isValue_60 : decode cX4_isValue 60 = .ok (.bipush 50, 2) := by decide +kernel
theorem dX4_isValue_62 : decode cX4_isValue 62 = .ok (.bipush 100, 2) := by decide +kernel
theorem dX4_isValue_64 : decode cX4_isValue 64 = .ok (.invokestatic 32, 3) := by decide +kernel
theorem dX4_isValue_67 : decode cX4_isValue 67 = .ok (.ireturn, 1) := by decide +kernel
theorem dX4_isValue_68 : decode cX4_isValue 68 = .ok (.iload_n 1, 1) := by decide +kernel
theorem dX4_isValue_69 : decode cX4_isValue 69 = .ok (.iconst 0, 1) := by decide +kernel
theorem dX4_isValue_70 : decode cX4_isValue 70 = .ok (.bipush 50, 2) := by decide +kernel
theorem dX4_isValue_72 : decode cX4_isValue 72 = .ok (.invokestatic 32, 3) := by decide +kernel
theorem dX4_isValue_75 : decode cX4_isValue 75 = .ok (.ireturn, 1) := by decide +kernel
theorem dX4_isValue_76 : decode cX4_isValue 76 = .ok (.iload_n 1, 1) := by decide +kernel
theorem dX4_isValue_77 : decode cX4_isValue 77 = .ok (.iconst 1, 1) := by decide +kernel
theorem dX4_isValue_78 : decode cX4_isValue 78 = .ok (.sipush 200, 3) := by decide +kernel
theorem dX4_isValue_81 : decode cX4_isValue 81 = .ok (.invokestatic 32, 3) := by decide +kernel
theorem dX4_isValue_84 : decode cX4_isValue 84 = .ok (.ireturn, 1) := by decide +kernel
theorem dX4_isValue_85 : decode cX4_isValue 85 = .ok (.iload_n 1, 1) := by decide +kernel
theorem dX4_isValue_86 : decode cX4_isValue 86 = .ok (.iconst 1, 1) := by decide +kernel
theorem dX4_isValue_87 : decode cX4_isValue 87 = .ok (.iconst 4, 1) := by decide +kernel
theorem dX4_isValue_88 : decode cX4_isValue 88 = .ok (.invokestatic 32, 3) := by decide +kernel
theorem dX4_isValue_91 : decode cX4_isValue 91 = .ok (.ireturn, 1) := by decide +kernel
theorem dX4_bring_0 : decode cX4_bring 0 = .ok (.aload_n 0, 1) := by decide +kernel
theorem dX4_bring_1 : decode cX4_bring 1 = .ok (.getfield 7, 3) := by decide +kernel
theorem dX4_bring_4 : decode cX4_bring 4 = .ok (.iconst 0, 1) := by decide +kernel
theorem dX4_bring_5 : decode cX4_bring 5 = .ok (.iaload, 1) := by decide +kernel
theorem dX4_bring_6 : decode cX4_bring 6 = .ok (.istore 5, 2) := by decide +kernel
theorem dX4_bring_8 : decode cX4_bring 8 = .ok (.iconst 0, 1) := by decide +kernel
theorem dX4_bring_9 : decode cX4_bring 9 = .ok (.istore 6, 2) := by decide +kernel
theorem dX4_bring_11 : decode cX4_bring 11 = .ok (.iload 6, 2) := by decide +kernel
theorem dX4_bring_13 : decode cX4_bring 13 = .ok (.bipush 20, 2) := by decide +kernel
theorem dX4_bring_15 : decode cX4_bring 15 = .ok (.if_icmp .ge 18, 3) := by decide +kernel
theorem dX4_bring_18 : decode cX4_bring 18 = .ok (.aload_n 0, 1) := by decide +kernel
theorem dX4_bring_19 : decode cX4_bring 19 = .ok (.iload 5, 2) := by decide +kernel
theorem dX4_bring_21 : decode cX4_bring 21 = .ok (.iload 6, 2) := by decide +kernel
theorem dX4_bring_23 : decode cX4_bring 23 = .ok (.iconst 0, 1) := by decide +kernel
theorem dX4_bring_24 : decode cX4_bring 24 = .ok (.invokevirtual 40, 3) := by decide +kernel
theorem dX4_bring_27 : decode cX4_bring 27 = .ok (.iinc 6 1, 3) := by decide +kernel
theorem dX4_bring_30 : decode cX4_bring 30 = .ok (.goto (-19), 3) := by decide +kernel
theorem dX4_bring_33 : decode cX4_bring 33 = .ok (.aload_n 0, 1) := by decide +kernel
theorem dX4_bring_34 : decode cX4_bring 34 = .ok (.iload 5, 2) := by decide +kernel
theorem dX4_bring_36 : decode cX4_bring 36 = .ok (.iconst 0, 1) := by decide +kernel
theorem dX4_bring_37 : decode cX4_bring 37 = .ok (.iload_n 1, 1) := by decide +kernel
theorem dX4_bring_38 : decode cX4_bring 38 = .ok (.invokevirtual 40, 3) := by decide +kernel
theorem dX4_bring_41 : decode cX4_bring 41 = .ok (.aload_n 0, 1) := by decide +kernel
theorem dX4_bring_42 : decode cX4_bring 42 = .ok (.iload 5, 2) := by decide +kernel
theorem dX4_bring_44 : decode cX4_bring 44 = .ok (.iconst 1, 1) := by decide +kernel
theorem dX4_bring_45 : decode cX4_bring 45 = .ok (.iload_n 2, 1) := by decide +kernel
theorem dX4_bring_46 : decode cX4_bring 46 = .ok (.invokevirtual 40, 3) := by decide +kernel
theorem dX4_bring_49 : decode cX4_bring 49 = .ok (.aload_n 0, 1) := by decide +kernel
theorem dX4_bring_50 : decode cX4_bring 50 = .ok (.iload 5, 2) := by decide +kernel
theorem dX4_bring_52 : decode cX4_bring 52 = .ok (.iconst 2, 1) := by decide +kernel
theorem dX4_bring_53 : decode cX4_bring 53 = .ok (.iload_n 3, 1) := by decide +kernel
theorem dX4_bring_54 : decode cX4_bring 54 = .ok (.invokevirtual 40, 3) := by decide +kernel
theorem dX4_bring_57 : decode cX4_bring 57 = .ok (.aload_n 0, 1) := by decide +kernel
theorem dX4_bring_58 : decode cX4_bring 58 = .ok (.iload 5, 2) := by decide +kernel
theorem dX4_bring_60 : decode cX4_bring 60 = .ok (.iconst 3, 1) := by decide +kernel
theorem dX4_bring_61 : decode cX4_bring 61 = .ok (.bipush 90, 2) := by decide +kernel
theorem dX4_bring_63 : decode cX4_bring 63 = .ok (.invokevirtual 40, 3) := by decide +kernel
theorem dX4_bring_66 : decode cX4_bring 66 = .ok (.aload_n 0, 1) := by decide +kernel
theorem dX4_bring_67 : decode cX4_bring 67 = .ok (.iload 5, 2) := by decide +kernel
theorem dX4_bring_69 : decode cX4_bring 69 = .ok (.iconst 4, 1) := by decide +kernel
theorem dX4_bring_70 : decode cX4_bring 70 = .ok (.iconst 2, 1) := by decide +kernel
theorem dX4_bring_71 : decode cX4_bring 71 = .ok (.invokevirtual 40, 3) := by decide +kernel
theorem dX4_bring_74 : decode cX4_bring 74 = .ok (.aload_n 0, 1) := by decide +kernel
theorem dX4_bring_75 : decode cX4_bring 75 = .ok (.iload 5, 2) := by decide +kernel
theorem dX4_bring_77 : decode cX4_bring 77 = .ok (.iconst 5, 1) := by decide +kernel
theorem dX4_bring_78 : decode cX4_bring 78 = .ok (.bipush 40, 2) := by decide +kernel
theorem dX4_bring_80 : decode cX4_bring 80 = .ok (.invokevirtual 40, 3) := by decide +kernel
theorem dX4_bring_83 : decode cX4_bring 83 = .ok (.aload_n 0, 1) := by decide +kernel
theorem dX4_bring_84 : decode cX4_bring 84 = .ok (.iload 5, 2) := by decide +kernel
theorem dX4_bring_86 : decode cX4_bring 86 = .ok (.bipush 6, 2) := by decide +kernel
theorem dX4_bring_88 : decode cX4_bring 88 = .ok (.iconst 2, 1) := by decide +kernel
theorem dX4_bring_89 : decode cX4_bring 89 = .ok (.invokevirtual 40, 3) := by decide +kernel
theorem dX4_bring_92 : decode cX4_bring 92 = .ok (.aload_n 0, 1) := by decide +kernel
theorem dX4_bring_93 : decode cX4_bring 93 = .ok (.iload 5, 2) := by decide +kernel
theorem dX4_bring_95 : decode cX4_bring 95 = .ok (.bipush 7, 2) := by decide +kernel
theorem dX4_bring_97 : decode cX4_bring 97 = .ok (.iload 4, 2) := by decide +kernel
theorem dX4_bring_99 : decode cX4_bring 99 = .ok (.invokevirtual 40, 3) := by decide +kernel
theorem dX4_bring_102 : decode cX4_bring 102 = .ok (.aload_n 0, 1) := by decide +kernel
theorem dX4_bring_103 : decode cX4_bring 103 = .ok (.iload 5, 2) := by decide +kernel
theorem dX4_bring_105 : decode cX4_bring 105 = .ok (.bipush 15, 2) := by decide +kernel
theorem dX4_bring_107 : decode cX4_bring 107 = .ok (.iconst (-1), 1) := by decide +kernel
theorem dX4_bring_108 : decode cX4_bring 108 = .ok (.invokevirtual 40, 3) := by decide +kernel
theorem dX4_bring_111 : decode cX4_bring 111 = .ok (.aload_n 0, 1) := by decide +kernel
theorem dX4_bring_112 : decode cX4_bring 112 = .ok (.getfield 7, 3) := by decide +kernel
theorem dX4_bring_115 : decode cX4_bring 115 = .ok (.iconst 0, 1) := by decide +kernel
theorem dX4_bring_116 : decode cX4_bring 116 = .ok (.dup2, 1) := by decide +kernel
theorem dX4_bring_117 : decode cX4_bring 117 = .ok (.iaload, 1) := by decide +kernel
theorem dX4_bring_118 : decode cX4_bring 118 = .ok (.iconst 1, 1) := by decide +kernel
theorem dX4_bring_119 : decode cX4_bring 119 = .ok (.iadd, 1) := by decide +kernel
theorem dX4_bring_120 : decode cX4_bring 120 = .ok (.iastore, 1) := by decide +kernel
theorem dX4_bring_121 : decode cX4_bring 121 = .ok (.return_, 1) := by decide +kernel
theorem dX4_addRail_0 : decode cX4_addRail 0 = .ok (.iconst 0, 1) := by decide +kernel
theorem dX4_addRail_1 : decode cX4_addRail 1 = .ok (.iload_n 1, 1) := by decide +kernel
theorem dX4_addRail_2 : decode cX4_addRail 2 = .ok (.invokestatic 104, 3) := by decide +kernel
theorem dX4_addRail_5 : decode cX4_addRail 5 = .ok (.ifCond .eq 38, 3) := by decide +kernel
theorem dX4_addRail_8 : decode cX4_addRail 8 = .ok (.iconst 1, 1) := by decide +kernel
theorem dX4_addRail_9 : decode cX4_addRail 9 = .ok (.iload_n 2, 1) := by decide +kernel
theorem dX4_addRail_10 : decode cX4_addRail 10 = .ok (.invokestatic 104, 3) := by decide +kernel
theorem dX4_addRail_13 : decode cX4_addRail 13 = .ok (.ifCond .eq 30, 3) := by decide +kernel
theorem dX4_addRail_16 : decode cX4_addRail 16 = .ok (.iconst 2, 1) := by decide +kernel
theorem dX4_addRail_17 : decode cX4_addRail 17 = .ok (.iload_n 3, 1) := by decide +kernel
theorem dX4_addRail_18 : decode cX4_addRail 18 = .ok (.invokestatic 104, 3) := by decide +kernel
theorem dX4_addRail_21 : decode cX4_addRail 21 = .ok (.ifCond .eq 22, 3) := by decide +kernel
theorem dX4_addRail_24 : decode cX4_addRail 24 = .ok (.aload_n 0, 1) := by decide +kernel
theorem dX4_addRail_25 : decode cX4_addRail 25 = .ok (.iload 4, 2) := by decide +kernel
theorem dX4_addRail_27 : decode cX4_addRail 27 = .ok (.aload_n 0, 1) := by decide +kernel
theorem dX4_addRail_28 : decode cX4_addRail 28 = .ok (.getfield 7, 3) := by decide +kernel
theorem dX4_addRail_31 : decode cX4_addRail 31 = .ok (.iconst 0, 1) := by decide +kernel
theorem dX4_addRail_32 : decode cX4_addRail 32 = .ok (.iaload, 1) := by decide +kernel
theorem dX4_addRail_33 : decode cX4_addRail 33 = .ok (.invokevirtual 107, 3) := by decide +kernel
theorem dX4_addRail_36 : decode cX4_addRail 36 = .ok (.ifCond .eq 7, 3) := by decide +kernel
theorem dX4_addRail_39 : decode cX4_addRail 39 = .ok (.iconst 1, 1) := by decide +kernel
theorem dX4_addRail_40 : decode cX4_addRail 40 = .ok (.goto 4, 3) := by decide +kernel
theorem dX4_addRail_43 : decode cX4_addRail 43 = .ok (.iconst 0, 1) := by decide +kernel
theorem dX4_addRail_44 : decode cX4_addRail 44 = .ok (.istore 5, 2) := by decide +kernel
theorem dX4_addRail_46 : decode cX4_addRail 46 = .ok (.aload_n 0, 1) := by decide +kernel
theorem dX4_addRail_47 : decode cX4_addRail 47 = .ok (.iload 5, 2) := by decide +kernel
theorem dX4_addRail_49 : decode cX4_addRail 49 = .ok (.ifCond .ne 7, 3) := by decide +kernel
theorem dX4_addRail_52 : decode cX4_addRail 52 = .ok (.iconst 1, 1) := by decide +kernel
theorem dX4_addRail_53 : decode cX4_addRail 53 = .ok (.goto 19, 3) := by decide +kernel
theorem dX4_addRail_56 : decode cX4_addRail 56 = .ok (.aload_n 0, 1) := by decide +kernel
theorem dX4_addRail_57 : decode cX4_addRail 57 = .ok (.getfield 7, 3) := by decide +kernel
theorem dX4_addRail_60 : decode cX4_addRail 60 = .ok (.iconst 0, 1) := by decide +kernel
theorem dX4_addRail_61 : decode cX4_addRail 61 = .ok (.iaload, 1) := by decide +kernel
theorem dX4_addRail_62 : decode cX4_addRail 62 = .ok (.bipush 8, 2) := by decide +kernel
theorem dX4_addRail_64 : decode cX4_addRail 64 = .ok (.if_icmp .ne 7, 3) := by decide +kernel
theorem dX4_addRail_67 : decode cX4_addRail 67 = .ok (.iconst 2, 1) := by decide +kernel
theorem dX4_addRail_68 : decode cX4_addRail 68 = .ok (.goto 4, 3) := by decide +kernel
theorem dX4_addRail_71 : decode cX4_addRail 71 = .ok (.iconst 0, 1) := by decide +kernel
theorem dX4_addRail_72 : decode cX4_addRail 72 = .ok (.putfield 28, 3) := by decide +kernel
theorem dX4_addRail_75 : decode cX4_addRail 75 = .ok (.aload_n 0, 1) := by decide +kernel
theorem dX4_addRail_76 : decode cX4_addRail 76 = .ok (.getfield 28, 3) := by decide +kernel
theorem dX4_addRail_79 : decode cX4_addRail 79 = .ok (.ifCond .le 5, 3) := by decide +kernel
theorem dX4_addRail_82 : decode cX4_addRail 82 = .ok (.iconst 0, 1) := by decide +kernel
theorem dX4_addRail_83 : decode cX4_addRail 83 = .ok (.ireturn, 1) := by decide +kernel
theorem dX4_addRail_84 : decode cX4_addRail 84 = .ok (.aload_n 0, 1) := by decide +kernel
theorem dX4_addRail_85 : decode cX4_addRail 85 = .ok (.invokevirtual 110, 3) := by decide +kernel
theorem dX4_addRail_88 : decode cX4_addRail 88 = .ok (.aload_n 0, 1) := by decide +kernel
theorem dX4_addRail_89 : decode cX4_addRail 89 = .ok (.iload_n 1, 1) := by decide +kernel
theorem dX4_addRail_90 : decode cX4_addRail 90 = .ok (.iload_n 2, 1) := by decide +kernel
theorem dX4_addRail_91 : decode cX4_addRail 91 = .ok (.iload_n 3, 1) := by decide +kernel
theorem dX4_addRail_92 : decode cX4_addRail 92 = .ok (.iload 4, 2) := by decide +kernel
theorem dX4_addRail_94 : decode cX4_addRail 94 = .ok (.invokevirtual 113, 3) := by decide +kernel
theorem dX4_addRail_97 : decode cX4_addRail 97 = .ok (.aload_n 0, 1) := by decide +kernel
theorem dX4_addRail_98 : decode cX4_addRail 98 = .ok (.getfield 7, 3) := by decide +kernel
theorem dX4_addRail_101 : decode cX4_addRail 101 = .ok (.iconst 0, 1) := by decide +kernel
theorem dX4_addRail_102 : decode cX4_addRail 102 = .ok (.iaload, 1) := by decide +kernel
theorem dX4_addRail_103 : decode cX4_addRail 103 = .ok (.iconst 1, 1) := by decide +kernel
theorem dX4_addRail_104 : decode cX4_addRail 104 = .ok (.isub, 1) := by decide +kernel
theorem dX4_addRail_105 : decode cX4_addRail 105 = .ok (.ireturn, 1) := by decide +kernel
theorem dX4_replaced_0 : decode cX4_replaced 0 = .ok (.aload_n 0, 1) := by decide +kernel
theorem dX4_replaced_1 : decode cX4_replaced 1 = .ok (.invokevirtual 110, 3) := by decide +kernel
theorem dX4_replaced_4 : decode cX4_replaced 4 = .ok (.aload_n 0, 1) := by decide +kernel
theorem dX4_replaced_5 : decode cX4_replaced 5 = .ok (.iload_n 1, 1) := by decide +kernel
theorem dX4_replaced_6 : decode cX4_replaced 6 = .ok (.iload_n 2, 1) := by decide +kernel
theorem dX4_replaced_7 : decode cX4_replaced 7 = .ok (.invokevirtual 36, 3) := by decide +kernel
theorem dX4_replaced_10 : decode cX4_replaced 10 = .ok (.istore 4, 2) := by decide +kernel
theorem dX4_replaced_12 : decode cX4_replaced 12 = .ok (.aload_n 0, 1) := by decide +kernel
theorem dX4_replaced_13 : decode cX4_replaced 13 = .ok (.iload_n 1, 1) := by decide +kernel
theorem dX4_replaced_14 : decode cX4_replaced 14 = .ok (.iload_n 2, 1) := by decide +kernel
theorem dX4_replaced_15 : decode cX4_replaced 15 = .ok (.iload_n 3, 1) := by decide +kernel
theorem dX4_replaced_16 : decode cX4_replaced 16 = .ok (.invokevirtual 40, 3) := by decide +kernel
theorem dX4_replaced_19 : decode cX4_replaced 19 = .ok (.iload 4, 2) := by decide +kernel
theorem dX4_replaced_21 : decode cX4_replaced 21 = .ok (.ireturn, 1) := by decide +kernel
theorem dX4_set_0 : decode cX4_set 0 = .ok (.aload_n 0, 1) := by decide +kernel
theorem dX4_set_1 : decode cX4_set 1 = .ok (.iload_n 1, 1) := by decide +kernel
theorem dX4_set_2 : decode cX4_set 2 = .ok (.invokevirtual 117, 3) := by decide +kernel
theorem dX4_set_5 : decode cX4_set 5 = .ok (.ifCond .eq 17, 3) := by decide +kernel
theorem dX4_set_8 : decode cX4_set 8 = .ok (.iload_n 2, 1) := by decide +kernel
theorem dX4_set_9 : decode cX4_set 9 = .ok (.iconst 0, 1) := by decide +kernel
theorem dX4_set_10 : decode cX4_set 10 = .ok (.bipush 6, 2) := by decide +kernel
theorem dX4_set_12 : decode cX4_set 12 = .ok (.invokestatic 32, 3) := by decide +kernel
theorem dX4_set_15 : decode cX4_set 15 = .ok (.ifCond .eq 7, 3) := by decide +kernel
theorem dX4_set_18 : decode cX4_set 18 = .ok (.iconst 1, 1) := by decide +kernel
theorem dX4_set_19 : decode cX4_set 19 = .ok (.goto 4, 3) := by decide +kernel
theorem dX4_set_22 : decode cX4_set 22 = .ok (.iconst 0, 1) := by decide +kernel
theorem dX4_set_23 : decode cX4_set 23 = .ok (.istore 4, 2) := by decide +kernel
theorem dX4_set_25 : decode cX4_set 25 = .ok (.aload_n 0, 1) := by decide +kernel
theorem dX4_set_26 : decode cX4_set 26 = .ok (.iload 4, 2) := by decide +kernel
theorem dX4_set_28 : decode cX4_set 28 = .ok (.ifCond .ne 7, 3) := by decide +kernel
theorem dX4_set_31 : decode cX4_set 31 = .ok (.iconst 1, 1) := by decide +kernel
theorem dX4_set_32 : decode cX4_set 32 = .ok (.goto 16, 3) := by decide +kernel
theorem dX4_set_35 : decode cX4_set 35 = .ok (.iload_n 2, 1) := by decide +kernel
theorem dX4_set_36 : decode cX4_set 36 = .ok (.iload_n 3, 1) := by decide +kernel
theorem dX4_set_37 : decode cX4_set 37 = .ok (.invokestatic 104, 3) := by decide +kernel
theorem dX4_set_40 : decode cX4_set 40 = .ok (.ifCond .eq 7, 3) := by decide +kernel
theorem dX4_set_43 : decode cX4_set 43 = .ok (.iconst 0, 1) := by decide +kernel
theorem dX4_set_44 : decode cX4_set 44 = .ok (.goto 4, 3) := by decide +kernel
theorem dX4_set_47 : decode cX4_set 47 = .ok (.iconst 2, 1) := by decide +kernel
theorem dX4_set_48 : decode cX4_set 48 = .ok (.putfield 28, 3) := by decide +kernel
theorem dX4_set_51 : decode cX4_set 51 = .ok (.aload_n 0, 1) := by decide +kernel
theorem dX4_set_52 : decode cX4_set 52 = .ok (.getfield 28, 3) := by decide +kernel
theorem dX4_set_55 : decode cX4_set 55 = .ok (.ifCond .le 7, 3) := by decide +kernel
theorem dX4_set_58 : decode cX4_set 58 = .ok (.iconst 0, 1) := by decide +kernel
theorem dX4_set_59 : decode cX4_set 59 = .ok (.goto 10, 3) := by decide +kernel
theorem dX4_set_62 : decode cX4_set 62 = .ok (.aload_n 0, 1) := by decide +kernel
theorem dX4_set_63 : decode cX4_set 63 = .ok (.iload_n 1, 1) := by decide +kernel
theorem dX4_set_64 : decode cX4_set 64 = .ok (.iload_n 2, 1) := by decide +kernel
theorem dX4_set_65 : decode cX4_set 65 = .ok (.iload_n 3, 1) := by decide +kernel
theorem dX4_set_66 : decode cX4_set 66 = .ok (.invokevirtual 120, 3) := by decide +kernel
theorem dX4_set_69 : decode cX4_set 69 = .ok (.ireturn, 1) := by decide +kernel
theorem dX4_setNeeds_0 : decode cX4_setNeeds 0 = .ok (.aload_n 0, 1) := by decide +kernel
theorem dX4_setNeeds_1 : decode cX4_setNeeds 1 = .ok (.iload_n 1, 1) := by decide +kernel
theorem dX4_setNeeds_2 : decode cX4_setNeeds 2 = .ok (.invokevirtual 117, 3) := by decide +kernel
theorem dX4_setNeeds_5 : decode cX4_setNeeds 5 = .ok (.ifCond .ne 10, 3) := by decide +kernel
theorem dX4_setNeeds_8 : decode cX4_setNeeds 8 = .ok (.aload_n 0, 1) := by decide +kernel
theorem dX4_setNeeds_9 : decode cX4_setNeeds 9 = .ok (.iconst 1, 1) := by decide +kernel
theorem dX4_setNeeds_10 : decode cX4_setNeeds 10 = .ok (.putfield 28, 3) := by decide +kernel
theorem dX4_setNeeds_13 : decode cX4_setNeeds 13 = .ok (.iconst 0, 1) := by decide +kernel
theorem dX4_setNeeds_14 : decode cX4_setNeeds 14 = .ok (.ireturn, 1) := by decide +kernel
theorem dX4_setNeeds_15 : decode cX4_setNeeds 15 = .ok (.aload_n 0, 1) := by decide +kernel
theorem dX4_setNeeds_16 : decode cX4_setNeeds 16 = .ok (.iload_n 1, 1) := by decide +kernel
theorem dX4_setNeeds_17 : decode cX4_setNeeds 17 = .ok (.bipush 9, 2) := by decide +kernel
theorem dX4_setNeeds_19 : decode cX4_setNeeds 19 = .ok (.invokevirtual 36, 3) := by decide +kernel
theorem dX4_setNeeds_22 : decode cX4_setNeeds 22 = .ok (.ifCond .eq 14, 3) := by decide +kernel
theorem dX4_setNeeds_25 : decode cX4_setNeeds 25 = .ok (.aload_n 0, 1) := by decide +kernel
theorem dX4_setNeeds_26 : decode cX4_setNeeds 26 = .ok (.iload_n 1, 1) := by decide +kernel
theorem dX4_setNeeds_27 : decode cX4_setNeeds 27 = .ok (.bipush 9, 2) := by decide +kernel
theorem dX4_setNeeds_29 : decode cX4_setNeeds 29 = .ok (.invokevirtual 36, 3) := by decide +kernel
theorem dX4_setNeeds_32 : decode cX4_setNeeds 32 = .ok (.iconst 5, 1) := by decide +kernel
theorem dX4_setNeeds_33 : decode cX4_setNeeds 33 = .ok (.if_icmp .ne 7, 3) := by decide +kernel
theorem dX4_setNeeds_36 : decode cX4_setNeeds 36 = .ok (.iconst 1, 1) := by decide +kernel
theorem dX4_setNeeds_37 : decode cX4_setNeeds 37 = .ok (.goto 4, 3) := by decide +kernel
theorem dX4_setNeeds_40 : decode cX4_setNeeds 40 = .ok (.iconst 0, 1) := by decide +kernel
theorem dX4_setNeeds_41 : decode cX4_setNeeds 41 = .ok (.istore_n 3, 1) := by decide +kernel
theorem dX4_setNeeds_42 : decode cX4_setNeeds 42 = .ok (.aload_n 0, 1) := by decide +kernel
theorem dX4_setNeeds_43 : decode cX4_setNeeds 43 = .ok (.aload_n 0, 1) := by decide +kernel
theorem dX4_setNeeds_44 : decode cX4_setNeeds 44 = .ok (.iload_n 2, 1) := by decide +kernel
theorem dX4_setNeeds_45 : decode cX4_setNeeds 45 = .ok (.iload_n 1, 1) := by decide +kernel
theorem dX4_setNeeds_46 : decode cX4_setNeeds 46 = .ok (.invokevirtual 107, 3) := by decide +kernel
theorem dX4_setNeeds_49 : decode cX4_setNeeds 49 = .ok (.ifCond .ne 7, 3) := by decide +kernel
theorem dX4_setNeeds_52 : decode cX4_setNeeds 52 = .ok (.iconst 2, 1) := by decide +kernel
theorem dX4_setNeeds_53 : decode cX4_setNeeds 53 = .ok (.goto 12, 3) := by decide +kernel
theorem dX4_setNeeds_56 : decode cX4_setNeeds 56 = .ok (.iload_n 3, 1) := by decide +kernel
theorem dX4_setNeeds_57 : decode cX4_setNeeds 57 = .ok (.ifCond .eq 7, 3) := by decide +kernel
theorem dX4_setNeeds_60 : decode cX4_setNeeds 60 = .ok (.iconst 0, 1) := by decide +kernel
theorem dX4_setNeeds_61 : decode cX4_setNeeds 61 = .ok (.goto 4, 3) := by decide +kernel
theorem dX4_setNeeds_64 : decode cX4_setNeeds 64 = .ok (.iconst 3, 1) := by decide +kernel
theorem dX4_setNeeds_65 : decode cX4_setNeeds 65 = .ok (.putfield 28, 3) := by decide +kernel
theorem dX4_setNeeds_68 : decode cX4_setNeeds 68 = .ok (.aload_n 0, 1) := by decide +kernel
theorem dX4_setNeeds_69 : decode cX4_setNeeds 69 = .ok (.getfield 28, 3) := by decide +kernel
theorem dX4_setNeeds_72 : decode cX4_setNeeds 72 = .ok (.ifCond .le 7, 3) := by decide +kernel
theorem dX4_setNeeds_75 : decode cX4_setNeeds 75 = .ok (.iconst 0, 1) := by decide +kernel
theorem dX4_setNeeds_76 : decode cX4_setNeeds 76 = .ok (.goto 11, 3) := by decide +kernel
theorem dX4_setNeeds_79 : decode cX4_setNeeds 79 = .ok (.aload_n 0, 1) := by decide +kernel
theorem dX4_setNeeds_80 : decode cX4_setNeeds 80 = .ok (.iload_n 1, 1) := by decide +kernel
theorem dX4_setNeeds_81 : decode cX4_setNeeds 81 = .ok (.bipush 7, 2) := by decide +kernel
theorem dX4_setNeeds_83 : decode cX4_setNeeds 83 = .ok (.iload_n 2, 1) := by decide +kernel
theorem dX4_setNeeds_84 : decode cX4_setNeeds 84 = .ok (.invokevirtual 120, 3) := by decide +kernel
theorem dX4_setNeeds_87 : decode cX4_setNeeds 87 = .ok (.ireturn, 1) := by decide +kernel
theorem dX4_setResidue_0 : decode cX4_setResidue 0 = .ok (.aload_n 0, 1) := by decide +kernel
theorem dX4_setResidue_1 : decode cX4_setResidue 1 = .ok (.iload_n 1, 1) := by decide +kernel
theorem dX4_setResidue_2 : decode cX4_setResidue 2 = .ok (.iconst 0, 1) := by decide +kernel
theorem dX4_setResidue_3 : decode cX4_setResidue 3 = .ok (.sipush 500, 3) := by decide +kernel
theorem dX4_setResidue_6 : decode cX4_setResidue 6 = .ok (.invokestatic 32, 3) := by decide +kernel
theorem dX4_setResidue_9 : decode cX4_setResidue 9 = .ok (.ifCond .eq 7, 3) := by decide +kernel
theorem dX4_setResidue_12 : decode cX4_setResidue 12 = .ok (.iconst 0, 1) := by decide +kernel
theorem dX4_setResidue_13 : decode cX4_setResidue 13 = .ok (.goto 4, 3) := by decide +kernel
theorem dX4_setResidue_16 : decode cX4_setResidue 16 = .ok (.iconst 1, 1) := by decide +kernel
theorem dX4_setResidue_17 : decode cX4_setResidue 17 = .ok (.putfield 28, 3) := by decide +kernel
theorem dX4_setResidue_20 : decode cX4_setResidue 20 = .ok (.aload_n 0, 1) := by decide +kernel
theorem dX4_setResidue_21 : decode cX4_setResidue 21 = .ok (.getfield 28, 3) := by decide +kernel
theorem dX4_setResidue_24 : decode cX4_setResidue 24 = .ok (.ifCond .le 5, 3) := by decide +kernel
theorem dX4_setResidue_27 : decode cX4_setResidue 27 = .ok (.iconst 0, 1) := by decide +kernel
theorem dX4_setResidue_28 : decode cX4_setResidue 28 = .ok (.ireturn, 1) := by decide +kernel
theorem dX4_setResidue_29 : decode cX4_setResidue 29 = .ok (.aload_n 0, 1) := by decide +kernel
theorem dX4_setResidue_30 : decode cX4_setResidue 30 = .ok (.invokevirtual 110, 3) := by decide +kernel
theorem dX4_setResidue_33 : decode cX4_setResidue 33 = .ok (.aload_n 0, 1) := by decide +kernel
theorem dX4_setResidue_34 : decode cX4_setResidue 34 = .ok (.getfield 7, 3) := by decide +kernel
theorem dX4_setResidue_37 : decode cX4_setResidue 37 = .ok (.iconst 1, 1) := by decide +kernel
theorem dX4_setResidue_38 : decode cX4_setResidue 38 = .ok (.iaload, 1) := by decide +kernel
theorem dX4_setResidue_39 : decode cX4_setResidue 39 = .ok (.istore_n 2, 1) := by decide +kernel
theorem dX4_setResidue_40 : decode cX4_setResidue 40 = .ok (.aload_n 0, 1) := by decide +kernel
theorem dX4_setResidue_41 : decode cX4_setResidue 41 = .ok (.getfield 7, 3) := by decide +kernel
theorem dX4_setResidue_44 : decode cX4_setResidue 44 = .ok (.iconst 1, 1) := by decide +kernel
theorem dX4_setResidue_45 : decode cX4_setResidue 45 = .ok (.iload_n 1, 1) := by decide +kernel
theorem dX4_setResidue_46 : decode cX4_setResidue 46 = .ok (.iastore, 1) := by decide +kernel
theorem dX4_setResidue_47 : decode cX4_setResidue 47 = .ok (.iload_n 2, 1) := by decide +kernel
theorem dX4_setResidue_48 : decode cX4_setResidue 48 = .ok (.ireturn, 1) := by decide +kernel
theorem dX4_maskOf_0 : decode cX4_maskOf 0 = .ok (.iconst 0, 1) := by decide +kernel
theorem dX4_maskOf_1 : decode cX4_maskOf 1 = .ok (.istore_n 3, 1) := by decide +kernel
theorem dX4_maskOf_2 : decode cX4_maskOf 2 = .ok (.iconst 0, 1) := by decide +kernel
theorem dX4_maskOf_3 : decode cX4_maskOf 3 = .ok (.istore 4, 2) := by decide +kernel
theorem dX4_maskOf_5 : decode cX4_maskOf 5 = .ok (.iload 4, 2) := by decide +kernel
theorem dX4_maskOf_7 : decode cX4_maskOf 7 = .ok (.aload_n 0, 1) := by decide +kernel
theorem dX4_maskOf_8 : decode cX4_maskOf 8 = .ok (.getfield 7, 3) := by decide +kernel
theorem dX4_maskOf_11 : decode cX4_maskOf 11 = .ok (.iconst 0, 1) := by decide +kernel
theorem dX4_maskOf_12 : decode cX4_maskOf 12 = .ok (.iaload, 1) := by decide +kernel
theorem dX4_maskOf_13 : decode cX4_maskOf 13 = .ok (.if_icmp .ge 31, 3) := by decide +kernel
theorem dX4_maskOf_16 : decode cX4_maskOf 16 = .ok (.iload_n 3, 1) := by decide +kernel
theorem dX4_maskOf_17 : decode cX4_maskOf 17 = .ok (.aload_n 0, 1) := by decide +kernel
theorem dX4_maskOf_18 : decode cX4_maskOf 18 = .ok (.iload 4, 2) := by decide +kernel
theorem dX4_maskOf_20 : decode cX4_maskOf 20 = .ok (.iload_n 1, 1) := by decide +kernel
theorem dX4_maskOf_21 : decode cX4_maskOf 21 = .ok (.invokevirtual 36, 3) := by decide +kernel
theorem dX4_maskOf_24 : decode cX4_maskOf 24 = .ok (.iload_n 2, 1) := by decide +kernel
theorem dX4_maskOf_25 : decode cX4_maskOf 25 = .ok (.if_icmp .ne 10, 3) := by decide +kernel
theorem dX4_maskOf_28 : decode cX4_maskOf 28 = .ok (.iconst 1, 1) := by decide +kernel
theorem dX4_maskOf_29 : decode cX4_maskOf 29 = .ok (.iload 4, 2) := by decide +kernel
theorem dX4_maskOf_31 : decode cX4_maskOf 31 = .ok (.ishl, 1) := by decide +kernel
theorem dX4_maskOf_32 : decode cX4_maskOf 32 = .ok (.goto 4, 3) := by decide +kernel
theorem dX4_maskOf_35 : decode cX4_maskOf 35 = .ok (.iconst 0, 1) := by decide +kernel
theorem dX4_maskOf_36 : decode cX4_maskOf 36 = .ok (.ior, 1) := by decide +kernel
theorem dX4_maskOf_37 : decode cX4_maskOf 37 = .ok (.istore_n 3, 1) := by decide +kernel
theorem dX4_maskOf_38 : decode cX4_maskOf 38 = .ok (.iinc 4 1, 3) := by decide +kernel
theorem dX4_maskOf_41 : decode cX4_maskOf 41 = .ok (.goto (-36), 3) := by decide +kernel
theorem dX4_maskOf_44 : decode cX4_maskOf 44 = .ok (.iload_n 3, 1) := by decide +kernel
theorem dX4_maskOf_45 : decode cX4_maskOf 45 = .ok (.ireturn, 1) := by decide +kernel
theorem dX4_on_0 : decode cX4_on 0 = .ok (.aload_n 0, 1) := by decide +kernel
theorem dX4_on_1 : decode cX4_on 1 = .ok (.aload_n 0, 1) := by decide +kernel
theorem dX4_on_2 : decode cX4_on 2 = .ok (.iload_n 1, 1) := by decide +kernel
theorem dX4_on_3 : decode cX4_on 3 = .ok (.aload_n 0, 1) := by decide +kernel
theorem dX4_on_4 : decode cX4_on 4 = .ok (.getfield 7, 3) := by decide +kernel
theorem dX4_on_7 : decode cX4_on 7 = .ok (.iconst 0, 1) := by decide +kernel
theorem dX4_on_8 : decode cX4_on 8 = .ok (.iaload, 1) := by decide +kernel
theorem dX4_on_9 : decode cX4_on 9 = .ok (.invokevirtual 107, 3) := by decide +kernel
theorem dX4_on_12 : decode cX4_on 12 = .ok (.ifCond .eq 7, 3) := by decide +kernel
theorem dX4_on_15 : decode cX4_on 15 = .ok (.iconst 0, 1) := by decide +kernel
theorem dX4_on_16 : decode cX4_on 16 = .ok (.goto 4, 3) := by decide +kernel
theorem dX4_on_19 : decode cX4_on 19 = .ok (.iconst 1, 1) := by decide +kernel
theorem dX4_on_20 : decode cX4_on 20 = .ok (.putfield 28, 3) := by decide +kernel
theorem dX4_on_23 : decode cX4_on 23 = .ok (.aload_n 0, 1) := by decide +kernel
theorem dX4_on_24 : decode cX4_on 24 = .ok (.getfield 28, 3) := by decide +kernel
theorem dX4_on_27 : decode cX4_on 27 = .ok (.ifCond .le 5, 3) := by decide +kernel
theorem dX4_on_30 : decode cX4_on 30 = .ok (.iconst 0, 1) := by decide +kernel
theorem dX4_on_31 : decode cX4_on 31 = .ok (.ireturn, 1) := by decide +kernel
theorem dX4_on_32 : decode cX4_on 32 = .ok (.aload_n 0, 1) := by decide +kernel
theorem dX4_on_33 : decode cX4_on 33 = .ok (.invokevirtual 110, 3) := by decide +kernel
theorem dX4_on_36 : decode cX4_on 36 = .ok (.iload_n 1, 1) := by decide +kernel
theorem dX4_on_37 : decode cX4_on 37 = .ok (.istore_n 2, 1) := by decide +kernel
theorem dX4_on_38 : decode cX4_on 38 = .ok (.aload_n 0, 1) := by decide +kernel
theorem dX4_on_39 : decode cX4_on 39 = .ok (.getfield 7, 3) := by decide +kernel
theorem dX4_on_42 : decode cX4_on 42 = .ok (.iconst 0, 1) := by decide +kernel
theorem dX4_on_43 : decode cX4_on 43 = .ok (.iaload, 1) := by decide +kernel
theorem dX4_on_44 : decode cX4_on 44 = .ok (.iconst 1, 1) := by decide +kernel
theorem dX4_on_45 : decode cX4_on 45 = .ok (.isub, 1) := by decide +kernel
theorem dX4_on_46 : decode cX4_on 46 = .ok (.istore_n 3, 1) := by decide +kernel
theorem dX4_on_47 : decode cX4_on 47 = .ok (.iload_n 3, 1) := by decide +kernel
theorem dX4_on_48 : decode cX4_on 48 = .ok (.ifCond .lt 57, 3) := by decide +kernel
theorem dX4_on_51 : decode cX4_on 51 = .ok (.iload_n 2, 1) := by decide +kernel
theorem dX4_on_52 : decode cX4_on 52 = .ok (.iload_n 2, 1) := by decide +kernel
theorem dX4_on_53 : decode cX4_on 53 = .ok (.iload_n 3, 1) := by decide +kernel
theorem dX4_on_54 : decode cX4_on 54 = .ok (.invokestatic 61, 3) := by decide +kernel
theorem dX4_on_57 : decode cX4_on 57 = .ok (.ifCond .eq 13, 3) := by decide +kernel
theorem dX4_on_60 : decode cX4_on 60 = .ok (.aload_n 0, 1) := by decide +kernel
theorem dX4_on_61 : decode cX4_on 61 = .ok (.iload_n 3, 1) := by decide +kernel
theorem dX4_on_62 : decode cX4_on 62 = .ok (.bipush 7, 2) := by decide +kernel
theorem dX4_on_64 : decode cX4_on 64 = .ok (.invokevirtual 36, 3) := by decide +kernel
theorem dX4_on_67 : decode cX4_on 67 = .ok (.goto 4, 3) := by decide +kernel
theorem dX4_on_70 : decode cX4_on 70 = .ok (.iconst 0, 1) := by decide +kernel
theorem dX4_on_71 : decode cX4_on 71 = .ok (.ior, 1) := by decide +kernel
theorem dX4_on_72 : decode cX4_on 72 = .ok (.istore_n 2, 1) := by decide +kernel
theorem dX4_on_73 : decode cX4_on 73 = .ok (.aload_n 0, 1) := by decide +kernel
theorem dX4_on_74 : decode cX4_on 74 = .ok (.iload_n 3, 1) := by decide +kernel
theorem dX4_on_75 : decode cX4_on 75 = .ok (.bipush 8, 2) := by decide +kernel
theorem dX4_on_77 : decode cX4_on 77 = .ok (.iload_n 2, 1) := by decide +kernel
theorem dX4_on_78 : decode cX4_on 78 = .ok (.iload_n 3, 1) := by decide +kernel
theorem dX4_on_79 : decode cX4_on 79 = .ok (.invokestatic 61, 3) := by decide +kernel
theorem dX4_on_82 : decode cX4_on 82 = .ok (.ifCond .eq 7, 3) := by decide +kernel
theorem dX4_on_85 : decode cX4_on 85 = .ok (.iconst 1, 1) := by decide +kernel
theorem dX4_on_86 : decode cX4_on 86 = .ok (.goto 10, 3) := by decide +kernel
theorem dX4_on_89 : decode cX4_on 89 = .ok (.aload_n 0, 1) := by decide +kernel
theorem dX4_on_90 : decode cX4_on 90 = .ok (.iload_n 3, 1) := by decide +kernel
theorem dX4_on_91 : decode cX4_on 91 = .ok (.bipush 8, 2) := by decide +kernel
theorem dX4_on_93 : decode cX4_on 93 = .ok (.invokevirtual 36, 3) := by decide +kernel
theorem dX4_on_96 : decode cX4_on 96 = .ok (.invokevirtual 40, 3) := by decide +kernel
theorem dX4_on_99 : decode cX4_on 99 = .ok (.iinc 3 (-1), 3) := by decide +kernel
theorem dX4_on_102 : decode cX4_on 102 = .ok (.goto (-55), 3) := by decide +kernel
theorem dX4_on_105 : decode cX4_on 105 = .ok (.aload_n 0, 1) := by decide +kernel
theorem dX4_on_106 : decode cX4_on 106 = .ok (.bipush 8, 2) := by decide +kernel
theorem dX4_on_108 : decode cX4_on 108 = .ok (.iconst 1, 1) := by decide +kernel
theorem dX4_on_109 : decode cX4_on 109 = .ok (.invokevirtual 123, 3) := by decide +kernel
theorem dX4_on_112 : decode cX4_on 112 = .ok (.ireturn, 1) := by decide +kernel
theorem dX4_unwant_0 : decode cX4_unwant 0 = .ok (.iload_n 1, 1) := by decide +kernel
theorem dX4_unwant_1 : decode cX4_unwant 1 = .ok (.istore_n 2, 1) := by decide +kernel
theorem dX4_unwant_2 : decode cX4_unwant 2 = .ok (.iconst 0, 1) := by decide +kernel
theorem dX4_unwant_3 : decode cX4_unwant 3 = .ok (.istore_n 3, 1) := by decide +kernel
theorem dX4_unwant_4 : decode cX4_unwant 4 = .ok (.iload_n 3, 1) := by decide +kernel
theorem dX4_unwant_5 : decode cX4_unwant 5 = .ok (.aload_n 0, 1) := by decide +kernel
theorem dX4_unwant_6 : decode cX4_unwant 6 = .ok (.getfield 7, 3) := by decide +kernel
theorem dX4_unwant_9 : decode cX4_unwant 9 = .ok (.iconst 0, 1) := by decide +kernel
theorem dX4_unwant_10 : decode cX4_unwant 10 = .ok (.iaload, 1) := by decide +kernel
theorem dX4_unwant_11 : decode cX4_unwant 11 = .ok (.if_icmp .ge 57, 3) := by decide +kernel
theorem dX4_unwant_14 : decode cX4_unwant 14 = .ok (.iload_n 2, 1) := by decide +kernel
theorem dX4_unwant_15 : decode cX4_unwant 15 = .ok (.aload_n 0, 1) := by decide +kernel
theorem dX4_unwant_16 : decode cX4_unwant 16 = .ok (.iload_n 3, 1) := by decide +kernel
theorem dX4_unwant_17 : decode cX4_unwant 17 = .ok (.bipush 7, 2) := by decide +kernel
theorem dX4_unwant_19 : decode cX4_unwant 19 = .ok (.invokevirtual 36, 3) := by decide +kernel
theorem dX4_unwant_22 : decode cX4_unwant 22 = .ok (.iload_n 2, 1) := by decide +kernel
theorem dX4_unwant_23 : decode cX4_unwant 23 = .ok (.iand, 1) := by decide +kernel
theorem dX4_unwant_24 : decode cX4_unwant 24 = .ok (.ifCond .eq 9, 3) := by decide +kernel
theorem dX4_unwant_27 : decode cX4_unwant 27 = .ok (.iconst 1, 1) := by decide +kernel
theorem dX4_unwant_28 : decode cX4_unwant 28 = .ok (.iload_n 3, 1) := by decide +kernel
theorem dX4_unwant_29 : decode cX4_unwant 29 = .ok (.ishl, 1) := by decide +kernel
theorem dX4_unwant_30 : decode cX4_unwant 30 = .ok (.goto 4, 3) := by decide +kernel
theorem dX4_unwant_33 : decode cX4_unwant 33 = .ok (.iconst 0, 1) := by decide +kernel
theorem dX4_unwant_34 : decode cX4_unwant 34 = .ok (.ior, 1) := by decide +kernel
theorem dX4_unwant_35 : decode cX4_unwant 35 = .ok (.istore_n 2, 1) := by decide +kernel
theorem dX4_unwant_36 : decode cX4_unwant 36 = .ok (.aload_n 0, 1) := by decide +kernel
theorem dX4_unwant_37 : decode cX4_unwant 37 = .ok (.iload_n 3, 1) := by decide +kernel
theorem dX4_unwant_38 : decode cX4_unwant 38 = .ok (.bipush 8, 2) := by decide +kernel
theorem dX4_unwant_40 : decode cX4_unwant 40 = .ok (.iload_n 2, 1) := by decide +kernel
theorem dX4_unwant_41 : decode cX4_unwant 41 = .ok (.iload_n 3, 1) := by decide +kernel
theorem dX4_unwant_42 : decode cX4_unwant 42 = .ok (.invokestatic 61, 3) := by decide +kernel
theorem dX4_unwant_45 : decode cX4_unwant 45 = .ok (.ifCond .eq 7, 3) := by decide +kernel
theorem dX4_unwant_48 : decode cX4_unwant 48 = .ok (.iconst 0, 1) := by decide +kernel
theorem dX4_unwant_49 : decode cX4_unwant 49 = .ok (.goto 10, 3) := by decide +kernel
theorem dX4_unwant_52 : decode cX4_unwant 52 = .ok (.aload_n 0, 1) := by decide +kernel
theorem dX4_unwant_53 : decode cX4_unwant 53 = .ok (.iload_n 3, 1) := by decide +kernel
theorem dX4_unwant_54 : decode cX4_unwant 54 = .ok (.bipush 8, 2) := by decide +kernel
theorem dX4_unwant_56 : decode cX4_unwant 56 = .ok (.invokevirtual 36, 3) := by decide +kernel
theorem dX4_unwant_59 : decode cX4_unwant 59 = .ok (.invokevirtual 40, 3) := by decide +kernel
theorem dX4_unwant_62 : decode cX4_unwant 62 = .ok (.iinc 3 1, 3) := by decide +kernel
theorem dX4_unwant_65 : decode cX4_unwant 65 = .ok (.goto (-61), 3) := by decide +kernel
theorem dX4_unwant_68 : decode cX4_unwant 68 = .ok (.return_, 1) := by decide +kernel
theorem dX4_off_0 : decode cX4_off 0 = .ok (.aload_n 0, 1) := by decide +kernel
theorem dX4_off_1 : decode cX4_off 1 = .ok (.aload_n 0, 1) := by decide +kernel
theorem dX4_off_2 : decode cX4_off 2 = .ok (.iload_n 1, 1) := by decide +kernel
theorem dX4_off_3 : decode cX4_off 3 = .ok (.aload_n 0, 1) := by decide +kernel
theorem dX4_off_4 : decode cX4_off 4 = .ok (.getfield 7, 3) := by decide +kernel
theorem dX4_off_7 : decode cX4_off 7 = .ok (.iconst 0, 1) := by decide +kernel
theorem dX4_off_8 : decode cX4_off 8 = .ok (.iaload, 1) := by decide +kernel
theorem dX4_off_9 : decode cX4_off 9 = .ok (.invokevirtual 107, 3) := by decide +kernel
theorem dX4_off_12 : decode cX4_off 12 = .ok (.ifCond .eq 7, 3) := by decide +kernel
theorem dX4_off_15 : decode cX4_off 15 = .ok (.iconst 0, 1) := by decide +kernel
theorem dX4_off_16 : decode cX4_off 16 = .ok (.goto 4, 3) := by decide +kernel
theorem dX4_off_19 : decode cX4_off 19 = .ok (.iconst 1, 1) := by decide +kernel
theorem dX4_off_20 : decode cX4_off 20 = .ok (.putfield 28, 3) := by decide +kernel
theorem dX4_off_23 : decode cX4_off 23 = .ok (.aload_n 0, 1) := by decide +kernel
theorem dX4_off_24 : decode cX4_off 24 = .ok (.getfield 28, 3) := by decide +kernel
theorem dX4_off_27 : decode cX4_off 27 = .ok (.ifCond .le 5, 3) := by decide +kernel
theorem dX4_off_30 : decode cX4_off 30 = .ok (.iconst 0, 1) := by decide +kernel
theorem dX4_off_31 : decode cX4_off 31 = .ok (.ireturn, 1) := by decide +kernel
theorem dX4_off_32 : decode cX4_off 32 = .ok (.aload_n 0, 1) := by decide +kernel
theorem dX4_off_33 : decode cX4_off 33 = .ok (.invokevirtual 110, 3) := by decide +kernel
theorem dX4_off_36 : decode cX4_off 36 = .ok (.aload_n 0, 1) := by decide +kernel
theorem dX4_off_37 : decode cX4_off 37 = .ok (.iload_n 1, 1) := by decide +kernel
theorem dX4_off_38 : decode cX4_off 38 = .ok (.invokevirtual 126, 3) := by decide +kernel
theorem dX4_off_41 : decode cX4_off 41 = .ok (.aload_n 0, 1) := by decide +kernel
theorem dX4_off_42 : decode cX4_off 42 = .ok (.bipush 8, 2) := by decide +kernel
theorem dX4_off_44 : decode cX4_off 44 = .ok (.iconst 1, 1) := by decide +kernel
theorem dX4_off_45 : decode cX4_off 45 = .ok (.invokevirtual 123, 3) := by decide +kernel
theorem dX4_off_48 : decode cX4_off 48 = .ok (.ireturn, 1) := by decide +kernel
theorem dX4_restart_0 : decode cX4_restart 0 = .ok (.aload_n 0, 1) := by decide +kernel
theorem dX4_restart_1 : decode cX4_restart 1 = .ok (.aload_n 0, 1) := by decide +kernel
theorem dX4_restart_2 : decode cX4_restart 2 = .ok (.iload_n 1, 1) := by decide +kernel
theorem dX4_restart_3 : decode cX4_restart 3 = .ok (.invokevirtual 117, 3) := by decide +kernel
theorem dX4_restart_6 : decode cX4_restart 6 = .ok (.ifCond .ne 7, 3) := by decide +kernel
theorem dX4_restart_9 : decode cX4_restart 9 = .ok (.iconst 1, 1) := by decide +kernel
theorem dX4_restart_10 : decode cX4_restart 10 = .ok (.goto 19, 3) := by decide +kernel
theorem dX4_restart_13 : decode cX4_restart 13 = .ok (.aload_n 0, 1) := by decide +kernel
theorem dX4_restart_14 : decode cX4_restart 14 = .ok (.iload_n 1, 1) := by decide +kernel
theorem dX4_restart_15 : decode cX4_restart 15 = .ok (.bipush 8, 2) := by decide +kernel
theorem dX4_restart_17 : decode cX4_restart 17 = .ok (.invokevirtual 36, 3) := by decide +kernel
theorem dX4_restart_20 : decode cX4_restart 20 = .ok (.iconst 1, 1) := by decide +kernel
theorem dX4_restart_21 : decode cX4_restart 21 = .ok (.if_icmp .ne 7, 3) := by decide +kernel
theorem dX4_restart_24 : decode cX4_restart 24 = .ok (.iconst 0, 1) := by decide +kernel
theorem dX4_restart_25 : decode cX4_restart 25 = .ok (.goto 4, 3) := by decide +kernel
theorem dX4_restart_28 : decode cX4_restart 28 = .ok (.iconst 2, 1) := by decide +kernel
theorem dX4_restart_29 : decode cX4_restart 29 = .ok (.putfield 28, 3) := by decide +kernel
theorem dX4_restart_32 : decode cX4_restart 32 = .ok (.aload_n 0, 1) := by decide +kernel
theorem dX4_restart_33 : decode cX4_restart 33 = .ok (.getfield 28, 3) := by decide +kernel
theorem dX4_restart_36 : decode cX4_restart 36 = .ok (.ifCond .le 5, 3) := by decide +kernel
theorem dX4_restart_39 : decode cX4_restart 39 = .ok (.iconst 0, 1) := by decide +kernel
theorem dX4_restart_40 : decode cX4_restart 40 = .ok (.ireturn, 1) := by decide +kernel
theorem dX4_restart_41 : decode cX4_restart 41 = .ok (.aload_n 0, 1) := by decide +kernel
theorem dX4_restart_42 : decode cX4_restart 42 = .ok (.invokevirtual 110, 3) := by decide +kernel
theorem dX4_restart_45 : decode cX4_restart 45 = .ok (.aload_n 0, 1) := by decide +kernel
theorem dX4_restart_46 : decode cX4_restart 46 = .ok (.iload_n 1, 1) := by decide +kernel
theorem dX4_restart_47 : decode cX4_restart 47 = .ok (.invokevirtual 129, 3) := by decide +kernel
theorem dX4_restart_50 : decode cX4_restart 50 = .ok (.iconst 1, 1) := by decide +kernel
theorem dX4_restart_51 : decode cX4_restart 51 = .ok (.iload_n 1, 1) := by decide +kernel
theorem dX4_restart_52 : decode cX4_restart 52 = .ok (.ishl, 1) := by decide +kernel
theorem dX4_restart_53 : decode cX4_restart 53 = .ok (.ior, 1) := by decide +kernel
theorem dX4_restart_54 : decode cX4_restart 54 = .ok (.istore_n 2, 1) := by decide +kernel
theorem dX4_restart_55 : decode cX4_restart 55 = .ok (.aload_n 0, 1) := by decide +kernel
theorem dX4_restart_56 : decode cX4_restart 56 = .ok (.iconst 0, 1) := by decide +kernel
theorem dX4_restart_57 : decode cX4_restart 57 = .ok (.putfield 44, 3) := by decide +kernel
theorem dX4_restart_60 : decode cX4_restart 60 = .ok (.iload_n 1, 1) := by decide +kernel
theorem dX4_restart_61 : decode cX4_restart 61 = .ok (.istore_n 3, 1) := by decide +kernel
theorem dX4_restart_62 : decode cX4_restart 62 = .ok (.iload_n 3, 1) := by decide +kernel
theorem dX4_restart_63 : decode cX4_restart 63 = .ok (.aload_n 0, 1) := by decide +kernel
theorem dX4_restart_64 : decode cX4_restart 64 = .ok (.getfield 7, 3) := by decide +kernel
theorem dX4_restart_67 : decode cX4_restart 67 = .ok (.iconst 0, 1) := by decide +kernel
theorem dX4_restart_68 : decode cX4_restart 68 = .ok (.iaload, 1) := by decide +kernel
theorem dX4_restart_69 : decode cX4_restart 69 = .ok (.if_icmp .ge 82, 3) := by decide +kernel
theorem dX4_restart_72 : decode cX4_restart 72 = .ok (.aload_n 0, 1) := by decide +kernel
theorem dX4_restart_73 : decode cX4_restart 73 = .ok (.iload_n 3, 1) := by decide +kernel
theorem dX4_restart_74 : decode cX4_restart 74 = .ok (.bipush 9, 2) := by decide +kernel
theorem dX4_restart_76 : decode cX4_restart 76 = .ok (.invokevirtual 36, 3) := by decide +kernel
theorem dX4_restart_79 : decode cX4_restart 79 = .ok (.istore 4, 2) := by decide +kernel
theorem dX4_restart_81 : decode cX4_restart 81 = .ok (.iload 4, 2) := by decide +kernel
theorem dX4_restart_83 : decode cX4_restart 83 = .ok (.iconst 2, 1) := by decide +kernel
theorem dX4_restart_84 : decode cX4_restart 84 = .ok (.if_icmp .eq 26, 3) := by decide +kernel
theorem dX4_restart_87 : decode cX4_restart 87 = .ok (.iload 4, 2) := by decide +kernel
theorem dX4_restart_89 : decode cX4_restart 89 = .ok (.iconst 3, 1) := by decide +kernel
theorem dX4_restart_90 : decode cX4_restart 90 = .ok (.if_icmp .eq 20, 3) := by decide +kernel
theorem dX4_restart_93 : decode cX4_restart 93 = .ok (.iload 4, 2) := by decide +kernel
theorem dX4_restart_95 : decode cX4_restart 95 = .ok (.iconst 5, 1) := by decide +kernel
theorem dX4_restart_96 : decode cX4_restart 96 = .ok (.if_icmp .ne 18, 3) := by decide +kernel
theorem dX4_restart_99 : decode cX4_restart 99 = .ok (.aload_n 0, 1) := by decide +kernel
theorem dX4_restart_100 : decode cX4_restart 100 = .ok (.iload_n 3, 1) := by decide +kernel
theorem dX4_restart_101 : decode cX4_restart 101 = .ok (.bipush 8, 2) := by decide +kernel
theorem dX4_restart_103 : decode cX4_restart 103 = .ok (.invokevirtual 36, 3) := by decide +kernel
theorem dX4_restart_106 : decode cX4_restart 106 = .ok (.iconst 1, 1) := by decide +kernel
theorem dX4_restart_107 : decode cX4_restart 107 = .ok (.if_icmp .ne 7, 3) := by decide +kernel
theorem dX4_restart_110 : decode cX4_restart 110 = .ok (.iconst 1, 1) := by decide +kernel
theorem dX4_restart_111 : decode cX4_restart 111 = .ok (.goto 4, 3) := by decide +kernel
theorem dX4_restart_114 : decode cX4_restart 114 = .ok (.iconst 0, 1) := by decide +kernel
theorem dX4_restart_115 : decode cX4_restart 115 = .ok (.istore 5, 2) := by decide +kernel
theorem dX4_restart_117 : decode cX4_restart 117 = .ok (.iload_n 2, 1) := by decide +kernel
theorem dX4_restart_118 : decode cX4_restart 118 = .ok (.iload_n 3, 1) := by decide +kernel
theorem dX4_restart_119 : decode cX4_restart 119 = .ok (.invokestatic 61, 3) := by decide +kernel
theorem dX4_restart_122 : decode cX4_restart 122 = .ok (.ifCond .eq 23, 3) := by decide +kernel
theorem dX4_restart_125 : decode cX4_restart 125 = .ok (.iload 5, 2) := by decide +kernel
theorem dX4_restart_127 : decode cX4_restart 127 = .ok (.ifCond .eq 18, 3) := by decide +kernel
theorem dX4_restart_130 : decode cX4_restart 130 = .ok (.aload_n 0, 1) := by decide +kernel
theorem dX4_restart_131 : decode cX4_restart 131 = .ok (.iload_n 3, 1) := by decide +kernel
theorem dX4_restart_132 : decode cX4_restart 132 = .ok (.bipush 14, 2) := by decide +kernel
theorem dX4_restart_134 : decode cX4_restart 134 = .ok (.iconst 0, 1) := by decide +kernel
theorem dX4_restart_135 : decode cX4_restart 135 = .ok (.invokevirtual 40, 3) := by decide +kernel
theorem dX4_restart_138 : decode cX4_restart 138 = .ok (.aload_n 0, 1) := by decide +kernel
theorem dX4_restart_139 : decode cX4_restart 139 = .ok (.iload_n 3, 1) := by decide +kernel
theorem dX4_restart_140 : decode cX4_restart 140 = .ok (.iconst 4, 1) := by decide +kernel
theorem dX4_restart_141 : decode cX4_restart 141 = .ok (.iload_n 1, 1) := by decide +kernel
theorem dX4_restart_142 : decode cX4_restart 142 = .ok (.invokevirtual 72, 3) := by decide +kernel
theorem dX4_restart_145 : decode cX4_restart 145 = .ok (.iinc 3 1, 3) := by decide +kernel
theorem dX4_restart_148 : decode cX4_restart 148 = .ok (.goto (-86), 3) := by decide +kernel
theorem dX4_restart_151 : decode cX4_restart 151 = .ok (.aload_n 0, 1) := by decide +kernel
theorem dX4_restart_152 : decode cX4_restart 152 = .ok (.getfield 44, 3) := by decide +kernel
theorem dX4_restart_155 : decode cX4_restart 155 = .ok (.ireturn, 1) := by decide +kernel
theorem dX4_shortCircuit_0 : decode cX4_shortCircuit 0 = .ok (.aload_n 0, 1) := by decide +kernel
theorem dX4_shortCircuit_1 : decode cX4_shortCircuit 1 = .ok (.aload_n 0, 1) := by decide +kernel
theorem dX4_shortCircuit_2 : decode cX4_shortCircuit 2 = .ok (.iload_n 1, 1) := by decide +kernel
theorem dX4_shortCircuit_3 : decode cX4_shortCircuit 3 = .ok (.invokevirtual 117, 3) := by decide +kernel
theorem dX4_shortCircuit_6 : decode cX4_shortCircuit 6 = .ok (.ifCond .ne 7, 3) := by decide +kernel
theorem dX4_shortCircuit_9 : decode cX4_shortCircuit 9 = .ok (.iconst 1, 1) := by decide +kernel
theorem dX4_shortCircuit_10 : decode cX4_shortCircuit 10 = .ok (.goto 19, 3) := by decide +kernel
theorem dX4_shortCircuit_13 : decode cX4_shortCircuit 13 = .ok (.iload_n 2, 1) := by decide +kernel
theorem dX4_shortCircuit_14 : decode cX4_shortCircuit 14 = .ok (.iconst 0, 1) := by decide +kernel
theorem dX4_shortCircuit_15 : decode cX4_shortCircuit 15 = .ok (.sipush 500, 3) := by decide +kernel
theorem dX4_shortCircuit_18 : decode cX4_shortCircuit 18 = .ok (.invokestatic 32, 3) := by decide +kernel
theorem dX4_shortCircuit_21 : decode cX4_shortCircuit 21 = .ok (.ifCond .eq 7, 3) := by decide +kernel
theorem dX4_shortCircuit_24 : decode cX4_shortCircuit 24 = .ok (.iconst 0, 1) := by decide +kernel
theorem dX4_shortCircuit_25 : decode cX4_shortCircuit 25 = .ok (.goto 4, 3) := by decide +kernel
theorem dX4_shortCircuit_28 : decode cX4_shortCircuit 28 = .ok (.iconst 2, 1) := by decide +kernel
theorem dX4_shortCircuit_29 : decode cX4_shortCircuit 29 = .ok (.putfield 28, 3) := by decide +kernel
theorem dX4_shortCircuit_32 : decode cX4_shortCircuit 32 = .ok (.aload_n 0, 1) := by decide +kernel
theorem dX4_shortCircuit_33 : decode cX4_shortCircuit 33 = .ok (.getfield 28, 3) := by decide +kernel
theorem dX4_shortCircuit_36 : decode cX4_shortCircuit 36 = .ok (.ifCond .le 7, 3) := by decide +kernel
theorem dX4_shortCircuit_39 : decode cX4_shortCircuit 39 = .ok (.iconst 0, 1) := by decide +kernel
theorem dX4_shortCircuit_40 : decode cX4_shortCircuit 40 = .ok (.goto 11, 3) := by decide +kernel
theorem dX4_shortCircuit_43 : decode cX4_shortCircuit 43 = .ok (.aload_n 0, 1) := by decide +kernel
theorem dX4_shortCircuit_44 : decode cX4_shortCircuit 44 = .ok (.iload_n 1, 1) := by decide +kernel
theorem dX4_shortCircuit_45 : decode cX4_shortCircuit 45 = .ok (.bipush 12, 2) := by decide +kernel
theorem dX4_shortCircuit_47 : decode cX4_shortCircuit 47 = .ok (.iload_n 2, 1) := by decide +kernel
theorem dX4_shortCircuit_48 : decode cX4_shortCircuit 48 = .ok (.invokevirtual 120, 3) := by decide +kernel
theorem dX4_shortCircuit_51 : decode cX4_shortCircuit 51 = .ok (.ireturn, 1) := by decide +kernel
theorem dX4_stick_0 : decode cX4_stick 0 = .ok (.aload_n 0, 1) := by decide +kernel
theorem dX4_stick_1 : decode cX4_stick 1 = .ok (.aload_n 0, 1) := by decide +kernel
theorem dX4_stick_2 : decode cX4_stick 2 = .ok (.iload_n 1, 1) := by decide +kernel
theorem dX4_stick_3 : decode cX4_stick 3 = .ok (.invokevirtual 117, 3) := by decide +kernel
theorem dX4_stick_6 : decode cX4_stick 6 = .ok (.ifCond .ne 7, 3) := by decide +kernel
theorem dX4_stick_9 : decode cX4_stick 9 = .ok (.iconst 1, 1) := by decide +kernel
theorem dX4_stick_10 : decode cX4_stick 10 = .ok (.goto 17, 3) := by decide +kernel
theorem dX4_stick_13 : decode cX4_stick 13 = .ok (.iload_n 2, 1) := by decide +kernel
theorem dX4_stick_14 : decode cX4_stick 14 = .ok (.iconst 0, 1) := by decide +kernel
theorem dX4_stick_15 : decode cX4_stick 15 = .ok (.iconst 2, 1) := by decide +kernel
theorem dX4_stick_16 : decode cX4_stick 16 = .ok (.invokestatic 32, 3) := by decide +kernel
theorem dX4_stick_19 : decode cX4_stick 19 = .ok (.ifCond .eq 7, 3) := by decide +kernel
theorem dX4_stick_22 : decode cX4_stick 22 = .ok (.iconst 0, 1) := by decide +kernel
theorem dX4_stick_23 : decode cX4_stick 23 = .ok (.goto 4, 3) := by decide +kernel
theorem dX4_stick_26 : decode cX4_stick 26 = .ok (.iconst 2, 1) := by decide +kernel
theorem dX4_stick_27 : decode cX4_stick 27 = .ok (.putfield 28, 3) := by decide +kernel
theorem dX4_stick_30 : decode cX4_stick 30 = .ok (.aload_n 0, 1) := by decide +kernel
theorem dX4_stick_31 : decode cX4_stick 31 = .ok (.getfield 28, 3) := by decide +kernel
theorem dX4_stick_34 : decode cX4_stick 34 = .ok (.ifCond .le 7, 3) := by decide +kernel
theorem dX4_stick_37 : decode cX4_stick 37 = .ok (.iconst 0, 1) := by decide +kernel
theorem dX4_stick_38 : decode cX4_stick 38 = .ok (.goto 11, 3) := by decide +kernel
theorem dX4_stick_41 : decode cX4_stick 41 = .ok (.aload_n 0, 1) := by decide +kernel
theorem dX4_stick_42 : decode cX4_stick 42 = .ok (.iload_n 1, 1) := by decide +kernel
theorem dX4_stick_43 : decode cX4_stick 43 = .ok (.bipush 11, 2) := by decide +kernel
theorem dX4_stick_45 : decode cX4_stick 45 = .ok (.iload_n 2, 1) := by decide +kernel
theorem dX4_stick_46 : decode cX4_stick 46 = .ok (.invokevirtual 120, 3) := by decide +kernel
theorem dX4_stick_49 : decode cX4_stick 49 = .ok (.ireturn, 1) := by decide +kernel
theorem dX4_tick_0 : decode cX4_tick 0 = .ok (.aload_n 0, 1) := by decide +kernel
theorem dX4_tick_1 : decode cX4_tick 1 = .ok (.iload_n 1, 1) := by decide +kernel
theorem dX4_tick_2 : decode cX4_tick 2 = .ok (.iconst 1, 1) := by decide +kernel
theorem dX4_tick_3 : decode cX4_tick 3 = .ok (.sipush 200, 3) := by decide +kernel
theorem dX4_tick_6 : decode cX4_tick 6 = .ok (.invokestatic 32, 3) := by decide +kernel
theorem dX4_tick_9 : decode cX4_tick 9 = .ok (.ifCond .ne 7, 3) := by decide +kernel
theorem dX4_tick_12 : decode cX4_tick 12 = .ok (.iconst 1, 1) := by decide +kernel
theorem dX4_tick_13 : decode cX4_tick 13 = .ok (.goto 22, 3) := by decide +kernel
theorem dX4_tick_16 : decode cX4_tick 16 = .ok (.aload_n 0, 1) := by decide +kernel
theorem dX4_tick_17 : decode cX4_tick 17 = .ok (.getfield 7, 3) := by decide +kernel
theorem dX4_tick_20 : decode cX4_tick 20 = .ok (.iconst 2, 1) := by decide +kernel
theorem dX4_tick_21 : decode cX4_tick 21 = .ok (.iaload, 1) := by decide +kernel
theorem dX4_tick_22 : decode cX4_tick 22 = .ok (.iload_n 1, 1) := by decide +kernel
theorem dX4_tick_23 : decode cX4_tick 23 = .ok (.iadd, 1) := by decide +kernel
theorem dX4_tick_24 : decode cX4_tick 24 = .ok (.sipush 20000, 3) := by decide +kernel
theorem dX4_tick_27 : decode cX4_tick 27 = .ok (.if_icmp .le 7, 3) := by decide +kernel
theorem dX4_tick_30 : decode cX4_tick 30 = .ok (.iconst 2, 1) := by decide +kernel
theorem dX4_tick_31 : decode cX4_tick 31 = .ok (.goto 4, 3) := by decide +kernel
theorem dX4_tick_34 : decode cX4_tick 34 = .ok (.iconst 0, 1) := by decide +kernel
theorem dX4_tick_35 : decode cX4_tick 35 = .ok (.putfield 28, 3) := by decide +kernel
theorem dX4_tick_38 : decode cX4_tick 38 = .ok (.aload_n 0, 1) := by decide +kernel
theorem dX4_tick_39 : decode cX4_tick 39 = .ok (.getfield 28, 3) := by decide +kernel
theorem dX4_tick_42 : decode cX4_tick 42 = .ok (.ifCond .le 5, 3) := by decide +kernel
theorem dX4_tick_45 : decode cX4_tick 45 = .ok (.iconst 0, 1) := by decide +kernel
theorem dX4_tick_46 : decode cX4_tick 46 = .ok (.ireturn, 1) := by decide +kernel
theorem dX4_tick_47 : decode cX4_tick 47 = .ok (.aload_n 0, 1) := by decide +kernel
theorem dX4_tick_48 : decode cX4_tick 48 = .ok (.invokevirtual 110, 3) := by decide +kernel
theorem dX4_tick_51 : decode cX4_tick 51 = .ok (.aload_n 0, 1) := by decide +kernel
theorem dX4_tick_52 : decode cX4_tick 52 = .ok (.iconst 0, 1) := by decide +kernel
theorem dX4_tick_53 : decode cX4_tick 53 = .ok (.putfield 44, 3) := by decide +kernel
theorem dX4_tick_56 : decode cX4_tick 56 = .ok (.iconst 0, 1) := by decide +kernel
theorem dX4_tick_57 : decode cX4_tick 57 = .ok (.istore_n 2, 1) := by decide +kernel
theorem dX4_tick_58 : decode cX4_tick 58 = .ok (.iload_n 2, 1) := by decide +kernel
theorem dX4_tick_59 : decode cX4_tick 59 = .ok (.iload_n 1, 1) := by decide +kernel
theorem dX4_tick_60 : decode cX4_tick 60 = .ok (.if_icmp .ge 13, 3) := by decide +kernel
theorem dX4_tick_63 : decode cX4_tick 63 = .ok (.aload_n 0, 1) := by decide +kernel
theorem dX4_tick_64 : decode cX4_tick 64 = .ok (.invokevirtual 132, 3) := by decide +kernel
theorem dX4_tick_67 : decode cX4_tick 67 = .ok (.iinc 2 1, 3) := by decide +kernel
theorem dX4_tick_70 : decode cX4_tick 70 = .ok (.goto (-12), 3) := by decide +kernel
theorem dX4_tick_73 : decode cX4_tick 73 = .ok (.aload_n 0, 1) := by decide +kernel
theorem dX4_tick_74 : decode cX4_tick 74 = .ok (.getfield 44, 3) := by decide +kernel
theorem dX4_tick_77 : decode cX4_tick 77 = .ok (.ireturn, 1) := by decide +kernel
theorem dX4_append_0 : decode cX4_append 0 = .ok (.aload_n 0, 1) := by decide +kernel
theorem dX4_append_1 : decode cX4_append 1 = .ok (.iload_n 1, 1) := by decide +kernel
theorem dX4_append_2 : decode cX4_append 2 = .ok (.bipush 33, 2) := by decide +kernel
theorem dX4_append_4 : decode cX4_append 4 = .ok (.bipush 126, 2) := by decide +kernel
theorem dX4_append_6 : decode cX4_append 6 = .ok (.invokestatic 32, 3) := by decide +kernel
theorem dX4_append_9 : decode cX4_append 9 = .ok (.ifCond .ne 7, 3) := by decide +kernel
theorem dX4_append_12 : decode cX4_append 12 = .ok (.iconst 1, 1) := by decide +kernel
theorem dX4_append_13 : decode cX4_append 13 = .ok (.goto 17, 3) := by decide +kernel
theorem dX4_append_16 : decode cX4_append 16 = .ok (.aload_n 0, 1) := by decide +kernel
theorem dX4_append_17 : decode cX4_append 17 = .ok (.getfield 135, 3) := by decide +kernel
theorem dX4_append_20 : decode cX4_append 20 = .ok (.bipush 60, 2) := by decide +kernel
theorem dX4_append_22 : decode cX4_append 22 = .ok (.if_icmp .ne 7, 3) := by decide +kernel
theorem dX4_append_25 : decode cX4_append 25 = .ok (.iconst 2, 1) := by decide +kernel
theorem dX4_append_26 : decode cX4_append 26 = .ok (.goto 4, 3) := by decide +kernel
theorem dX4_append_29 : decode cX4_append 29 = .ok (.iconst 0, 1) := by decide +kernel
theorem dX4_append_30 : decode cX4_append 30 = .ok (.putfield 28, 3) := by decide +kernel
theorem dX4_append_33 : decode cX4_append 33 = .ok (.aload_n 0, 1) := by decide +kernel
theorem dX4_append_34 : decode cX4_append 34 = .ok (.getfield 28, 3) := by decide +kernel
theorem dX4_append_37 : decode cX4_append 37 = .ok (.ifCond .le 5, 3) := by decide +kernel
theorem dX4_append_40 : decode cX4_append 40 = .ok (.iconst 0, 1) := by decide +kernel
theorem dX4_append_41 : decode cX4_append 41 = .ok (.ireturn, 1) := by decide +kernel
theorem dX4_append_42 : decode cX4_append 42 = .ok (.aload_n 0, 1) := by decide +kernel
theorem dX4_append_43 : decode cX4_append 43 = .ok (.getfield 16, 3) := by decide +kernel
theorem dX4_append_46 : decode cX4_append 46 = .ok (.aload_n 0, 1) := by decide +kernel
theorem dX4_append_47 : decode cX4_append 47 = .ok (.getfield 135, 3) := by decide +kernel
theorem dX4_append_50 : decode cX4_append 50 = .ok (.iload_n 1, 1) := by decide +kernel
theorem dX4_append_51 : decode cX4_append 51 = .ok (.iastore, 1) := by decide +kernel
theorem dX4_append_52 : decode cX4_append 52 = .ok (.aload_n 0, 1) := by decide +kernel
theorem dX4_append_53 : decode cX4_append 53 = .ok (.dup, 1) := by decide +kernel
theorem dX4_append_54 : decode cX4_append 54 = .ok (.getfield 135, 3) := by decide +kernel
theorem dX4_append_57 : decode cX4_append 57 = .ok (.iconst 1, 1) := by decide +kernel
theorem dX4_append_58 : decode cX4_append 58 = .ok (.iadd, 1) := by decide +kernel
theorem dX4_append_59 : decode cX4_append 59 = .ok (.putfield 135, 3) := by decide +kernel
theorem dX4_append_62 : decode cX4_append 62 = .ok (.aload_n 0, 1) := by decide +kernel
theorem dX4_append_63 : decode cX4_append 63 = .ok (.getfield 135, 3) := by decide +kernel
theorem dX4_append_66 : decode cX4_append 66 = .ok (.ireturn, 1) := by decide +kernel
theorem dX4_clearBuffer_0 : decode cX4_clearBuffer 0 = .ok (.aload_n 0, 1) := by decide +kernel
theorem dX4_clearBuffer_1 : decode cX4_clearBuffer 1 = .ok (.iconst 0, 1) := by decide +kernel
theorem dX4_clearBuffer_2 : decode cX4_clearBuffer 2 = .ok (.putfield 28, 3) := by decide +kernel
theorem dX4_clearBuffer_5 : decode cX4_clearBuffer 5 = .ok (.aload_n 0, 1) := by decide +kernel
theorem dX4_clearBuffer_6 : decode cX4_clearBuffer 6 = .ok (.getfield 135, 3) := by decide +kernel
theorem dX4_clearBuffer_9 : decode cX4_clearBuffer 9 = .ok (.istore_n 1, 1) := by decide +kernel
theorem dX4_clearBuffer_10 : decode cX4_clearBuffer 10 = .ok (.aload_n 0, 1) := by decide +kernel
theorem dX4_clearBuffer_11 : decode cX4_clearBuffer 11 = .ok (.iconst 0, 1) := by decide +kernel
theorem dX4_clearBuffer_12 : decode cX4_clearBuffer 12 = .ok (.putfield 135, 3) := by decide +kernel
theorem dX4_clearBuffer_15 : decode cX4_clearBuffer 15 = .ok (.iload_n 1, 1) := by decide +kernel
theorem dX4_clearBuffer_16 : decode cX4_clearBuffer 16 = .ok (.ireturn, 1) := by decide +kernel
theorem dX4_beginRail_0 : decode cX4_beginRail 0 = .ok (.aload_n 0, 1) := by decide +kernel
theorem dX4_beginRail_1 : decode cX4_beginRail 1 = .ok (.iconst 0, 1) := by decide +kernel
theorem dX4_beginRail_2 : decode cX4_beginRail 2 = .ok (.putfield 138, 3) := by decide +kernel
theorem dX4_beginRail_5 : decode cX4_beginRail 5 = .ok (.aload_n 0, 1) := by decide +kernel
theorem dX4_beginRail_6 : decode cX4_beginRail 6 = .ok (.iconst 0, 1) := by decide +kernel
theorem dX4_beginRail_7 : decode cX4_beginRail 7 = .ok (.putfield 141, 3) := by decide +kernel
theorem dX4_beginRail_10 : decode cX4_beginRail 10 = .ok (.aload_n 0, 1) := by decide +kernel
theorem dX4_beginRail_11 : decode cX4_beginRail 11 = .ok (.iconst (-1), 1) := by decide +kernel
theorem dX4_beginRail_12 : decode cX4_beginRail 12 = .ok (.putfield 144, 3) := by decide +kernel
theorem dX4_beginRail_15 : decode cX4_beginRail 15 = .ok (.iconst 0, 1) := by decide +kernel
theorem dX4_beginRail_16 : decode cX4_beginRail 16 = .ok (.istore_n 1, 1) := by decide +kernel
theorem dX4_beginRail_17 : decode cX4_beginRail 17 = .ok (.iload_n 1, 1) := by decide +kernel
theorem dX4_beginRail_18 : decode cX4_beginRail 18 = .ok (.iconst 4, 1) := by decide +kernel
theorem dX4_beginRail_19 : decode cX4_beginRail 19 = .ok (.if_icmp .ge 23, 3) := by decide +kernel
theorem dX4_beginRail_22 : decode cX4_beginRail 22 = .ok (.aload_n 0, 1) := by decide +kernel
theorem dX4_beginRail_23 : decode cX4_beginRail 23 = .ok (.getfield 25, 3) := by decide +kernel
theorem dX4_beginRail_26 : decode cX4_beginRail 26 = .ok (.iconst 4, 1) := by decide +kernel
theorem dX4_beginRail_27 : decode cX4_beginRail 27 = .ok (.aload_n 0, 1) := by decide +kernel
theorem dX4_beginRail_28 : decode cX4_beginRail 28 = .ok (.getfield 147, 3) := by decide +kernel
theorem dX4_beginRail_31 : decode cX4_beginRail 31 = .ok (.imul, 1) := by decide +kernel
theorem dX4_beginRail_32 : decode cX4_beginRail 32 = .ok (.iload_n 1, 1) := by decide +kernel
theorem dX4_beginRail_33 : decode cX4_beginRail 33 = .ok (.iadd, 1) := by decide +kernel
theorem dX4_beginRail_34 : decode cX4_beginRail 34 = .ok (.iconst 0, 1) := by decide +kernel
theorem dX4_beginRail_35 : decode cX4_beginRail 35 = .ok (.iastore, 1) := by decide +kernel
theorem dX4_beginRail_36 : decode cX4_beginRail 36 = .ok (.iinc 1 1, 3) := by decide +kernel
theorem dX4_beginRail_39 : decode cX4_beginRail 39 = .ok (.goto (-22), 3) := by decide +kernel
theorem dX4_beginRail_42 : decode cX4_beginRail 42 = .ok (.return_, 1) := by decide +kernel
theorem dX4_least_0 : decode cX4_least 0 = .ok (.aload_n 0, 1) := by decide +kernel
theorem dX4_least_1 : decode cX4_least 1 = .ok (.getfield 138, 3) := by decide +kernel
theorem dX4_least_4 : decode cX4_least 4 = .ok (.ifCond .ne 8, 3) := by decide +kernel
theorem dX4_least_7 : decode cX4_least 7 = .ok (.bipush 100, 2) := by decide +kernel
theorem dX4_least_9 : decode cX4_least 9 = .ok (.goto 4, 3) := by decide +kernel
theorem dX4_least_12 : decode cX4_least 12 = .ok (.iconst 1, 1) := by decide +kernel
theorem dX4_least_13 : decode cX4_least 13 = .ok (.ireturn, 1) := by decide +kernel
theorem dX4_takesDigit_0 : decode cX4_takesDigit 0 = .ok (.iconst 4, 1) := by decide +kernel
theorem dX4_takesDigit_1 : decode cX4_takesDigit 1 = .ok (.aload_n 0, 1) := by decide +kernel
theorem dX4_takesDigit_2 : decode cX4_takesDigit 2 = .ok (.getfield 147, 3) := by decide +kernel
theorem dX4_takesDigit_5 : decode cX4_takesDigit 5 = .ok (.imul, 1) := by decide +kernel
theorem dX4_takesDigit_6 : decode cX4_takesDigit 6 = .ok (.aload_n 0, 1) := by decide +kernel
theorem dX4_takesDigit_7 : decode cX4_takesDigit 7 = .ok (.getfield 138, 3) := by decide +kernel
theorem dX4_takesDigit_10 : decode cX4_takesDigit 10 = .ok (.iadd, 1) := by decide +kernel
theorem dX4_takesDigit_11 : decode cX4_takesDigit 11 = .ok (.istore_n 2, 1) := by decide +kernel
theorem dX4_takesDigit_12 : decode cX4_takesDigit 12 = .ok (.aload_n 0, 1) := by decide +kernel
theorem dX4_takesDigit_13 : decode cX4_takesDigit 13 = .ok (.getfield 138, 3) := by decide +kernel
theorem dX4_takesDigit_16 : decode cX4_takesDigit 16 = .ok (.iconst 3, 1) := by decide +kernel
theorem dX4_takesDigit_17 : decode cX4_takesDigit 17 = .ok (.if_icmp .ne 79, 3) := by decide +kernel
theorem dX4_takesDigit_20 : decode cX4_takesDigit 20 = .ok (.iload_n 1, 1) := by decide +kernel
theorem dX4_takesDigit_21 : decode cX4_takesDigit 21 = .ok (.aload_n 0, 1) := by decide +kernel
theorem dX4_takesDigit_22 : decode cX4_takesDigit 22 = .ok (.getfield 144, 3) := by decide +kernel
theorem dX4_takesDigit_25 : decode cX4_takesDigit 25 = .ok (.if_icmp .le 13, 3) := by decide +kernel
theorem dX4_takesDigit_28 : decode cX4_takesDigit 28 = .ok (.iload_n 1, 1) := by decide +kernel
theorem dX4_takesDigit_29 : decode cX4_takesDigit 29 = .ok (.bipush 7, 2) := by decide +kernel
theorem dX4_takesDigit_31 : decode cX4_takesDigit 31 = .ok (.if_icmp .ge 7, 3) := by decide +kernel
theorem dX4_takesDigit_34 : decode cX4_takesDigit 34 = .ok (.iconst 1, 1) := by decide +kernel
theorem dX4_takesDigit_35 : decode cX4_takesDigit 35 = .ok (.goto 4, 3) := by decide +kernel
theorem dX4_takesDigit_38 : decode cX4_takesDigit 38 = .ok (.iconst 0, 1) := by decide +kernel
theorem dX4_takesDigit_39 : decode cX4_takesDigit 39 = .ok (.istore_n 3, 1) := by decide +kernel
theorem dX4_takesDigit_40 : decode cX4_takesDigit 40 = .ok (.aload_n 0, 1) := by decide +kernel
theorem dX4_takesDigit_41 : decode cX4_takesDigit 41 = .ok (.getfield 25, 3) := by decide +kernel
theorem dX4_takesDigit_44 : decode cX4_takesDigit 44 = .ok (.iload_n 2, 1) := by decide +kernel
theorem dX4_takesDigit_45 : decode cX4_takesDigit 45 = .ok (.dup2, 1) := by decide +kernel
theorem dX4_takesDigit_46 : decode cX4_takesDigit 46 = .ok (.iaload, 1) := by decide +kernel
theorem dX4_takesDigit_47 : decode cX4_takesDigit 47 = .ok (.iload_n 3, 1) := by decide +kernel
theorem dX4_takesDigit_48 : decode cX4_takesDigit 48 = .ok (.ifCond .eq 9, 3) := by decide +kernel
theorem dX4_takesDigit_51 : decode cX4_takesDigit 51 = .ok (.iconst 1, 1) := by decide +kernel
theorem dX4_takesDigit_52 : decode cX4_takesDigit 52 = .ok (.iload_n 1, 1) := by decide +kernel
theorem dX4_takesDigit_53 : decode cX4_takesDigit 53 = .ok (.ishl, 1) := by decide +kernel
theorem dX4_takesDigit_54 : decode cX4_takesDigit 54 = .ok (.goto 4, 3) := by decide +kernel
theorem dX4_takesDigit_57 : decode cX4_takesDigit 57 = .ok (.iconst 0, 1) := by decide +kernel
theorem dX4_takesDigit_58 : decode cX4_takesDigit 58 = .ok (.ior, 1) := by decide +kernel
theorem dX4_takesDigit_59 : decode cX4_takesDigit 59 = .ok (.iastore, 1) := by decide +kernel
theorem dX4_takesDigit_60 : decode cX4_takesDigit 60 = .ok (.aload_n 0, 1) := by decide +kernel
theorem dX4_takesDigit_61 : decode cX4_takesDigit 61 = .ok (.iload_n 3, 1) := by decide +kernel
theorem dX4_takesDigit_62 : decode cX4_takesDigit 62 = .ok (.ifCond .eq 7, 3) := by decide +kernel
theorem dX4_takesDigit_65 : decode cX4_takesDigit 65 = .ok (.iload_n 1, 1) := by decide +kernel
theorem dX4_takesDigit_66 : decode cX4_takesDigit 66 = .ok (.goto 7, 3) := by decide +kernel
theorem dX4_takesDigit_69 : decode cX4_takesDigit 69 = .ok (.aload_n 0, 1) := by decide +kernel
theorem dX4_takesDigit_70 : decode cX4_takesDigit 70 = .ok (.getfield 144, 3) := by decide +kernel
theorem dX4_takesDigit_73 : decode cX4_takesDigit 73 = .ok (.putfield 144, 3) := by decide +kernel
theorem dX4_takesDigit_76 : decode cX4_takesDigit 76 = .ok (.aload_n 0, 1) := by decide +kernel
theorem dX4_takesDigit_77 : decode cX4_takesDigit 77 = .ok (.dup, 1) := by decide +kernel
theorem dX4_takesDigit_78 : decode cX4_takesDigit 78 = .ok (.getfield 141, 3) := by decide +kernel
theorem dX4_takesDigit_81 : decode cX4_takesDigit 81 = .ok (.iload_n 3, 1) := by decide +kernel
theorem dX4_takesDigit_82 : decode cX4_takesDigit 82 = .ok (.ifCond .eq 7, 3) := by decide +kernel
theorem dX4_takesDigit_85 : decode cX4_takesDigit 85 = .ok (.iconst 1, 1) := by decide +kernel
theorem dX4_takesDigit_86 : decode cX4_takesDigit 86 = .ok (.goto 4, 3) := by decide +kernel
theorem dX4_takesDigit_89 : decode cX4_takesDigit 89 = .ok (.iconst 0, 1) := by decide +kernel
theorem dX4_takesDigit_90 : decode cX4_takesDigit 90 = .ok (.iadd, 1) := by decide +kernel
theorem dX4_takesDigit_91 : decode cX4_takesDigit 91 = .ok (.putfield 141, 3) := by decide +kernel
theorem dX4_takesDigit_94 : decode cX4_takesDigit 94 = .ok (.iload_n 3, 1) := by decide +kernel
theorem dX4_takesDigit_95 : decode cX4_takesDigit 95 = .ok (.ireturn, 1) := by decide +kernel
theorem dX4_takesDigit_96 : decode cX4_takesDigit 96 = .ok (.aload_n 0, 1) := by decide +kernel
theorem dX4_takesDigit_97 : decode cX4_takesDigit 97 = .ok (.getfield 138, 3) := by decide +kernel
theorem dX4_takesDigit_100 : decode cX4_takesDigit 100 = .ok (.ifCond .ne 9, 3) := by decide +kernel
theorem dX4_takesDigit_103 : decode cX4_takesDigit 103 = .ok (.sipush 5000, 3) := by decide +kernel
theorem dX4_takesDigit_106 : decode cX4_takesDigit 106 = .ok (.goto 6, 3) := by decide +kernel
theorem dX4_takesDigit_109 : decode cX4_takesDigit 109 = .ok (.sipush 1000, 3) := by decide +kernel
theorem dX4_takesDigit_112 : decode cX4_takesDigit 112 = .ok (.istore_n 3, 1) := by decide +kernel
theorem dX4_takesDigit_113 : decode cX4_takesDigit 113 = .ok (.bipush 10, 2) := by decide +kernel
theorem dX4_takesDigit_115 : decode cX4_takesDigit 115 = .ok (.aload_n 0, 1) := by decide +kernel
theorem dX4_takesDigit_116 : decode cX4_takesDigit 116 = .ok (.getfield 25, 3) := by decide +kernel
theorem dX4_takesDigit_119 : decode cX4_takesDigit 119 = .ok (.iload_n 2, 1) := by decide +kernel
theorem dX4_takesDigit_120 : decode cX4_takesDigit 120 = .ok (.iaload, 1) := by decide +kernel
theorem dX4_takesDigit_121 : decode cX4_takesDigit 121 = .ok (.imul, 1) := by decide +kernel
theorem dX4_takesDigit_122 : decode cX4_takesDigit 122 = .ok (.iload_n 1, 1) := by decide +kernel
theorem dX4_takesDigit_123 : decode cX4_takesDigit 123 = .ok (.iadd, 1) := by decide +kernel
theorem dX4_takesDigit_124 : decode cX4_takesDigit 124 = .ok (.istore 4, 2) := by decide +kernel
theorem dX4_takesDigit_126 : decode cX4_takesDigit 126 = .ok (.iload 4, 2) := by decide +kernel
theorem dX4_takesDigit_128 : decode cX4_takesDigit 128 = .ok (.ifCond .le 13, 3) := by decide +kernel
theorem dX4_takesDigit_131 : decode cX4_takesDigit 131 = .ok (.iload 4, 2) := by decide +kernel
theorem dX4_takesDigit_133 : decode cX4_takesDigit 133 = .ok (.iload_n 3, 1) := by decide +kernel
theorem dX4_takesDigit_134 : decode cX4_takesDigit 134 = .ok (.if_icmp .gt 7, 3) := by decide +kernel
theorem dX4_takesDigit_137 : decode cX4_takesDigit 137 = .ok (.iconst 1, 1) := by decide +kernel
theorem dX4_takesDigit_138 : decode cX4_takesDigit 138 = .ok (.goto 4, 3) := by decide +kernel
theorem dX4_takesDigit_141 : decode cX4_takesDigit 141 = .ok (.iconst 0, 1) := by decide +kernel
theorem dX4_takesDigit_142 : decode cX4_takesDigit 142 = .ok (.istore 5, 2) := by decide +kernel
theorem dX4_takesDigit_144 : decode cX4_takesDigit 144 = .ok (.aload_n 0, 1) := by decide +kernel
theorem dX4_takesDigit_145 : decode cX4_takesDigit 145 = .ok (.getfield 25, 3) := by decide +kernel
theorem dX4_takesDigit_148 : decode cX4_takesDigit 148 = .ok (.iload_n 2, 1) := by decide +kernel
theorem dX4_takesDigit_149 : decode cX4_takesDigit 149 = .ok (.iload 5, 2) := by decide +kernel
theorem dX4_takesDigit_151 : decode cX4_takesDigit 151 = .ok (.ifCond .eq 8, 3) := by decide +kernel
theorem dX4_takesDigit_154 : decode cX4_takesDigit 154 = .ok (.iload 4, 2) := by decide +kernel
theorem dX4_takesDigit_156 : decode cX4_takesDigit 156 = .ok (.goto 9, 3) := by decide +kernel
theorem dX4_takesDigit_159 : decode cX4_takesDigit 159 = .ok (.aload_n 0, 1) := by decide +kernel
theorem dX4_takesDigit_160 : decode cX4_takesDigit 160 = .ok (.getfield 25, 3) := by decide +kernel
theorem dX4_takesDigit_163 : decode cX4_takesDigit 163 = .ok (.iload_n 2, 1) := by decide +kernel
theorem dX4_takesDigit_164 : decode cX4_takesDigit 164 = .ok (.iaload, 1) := by decide +kernel
theorem dX4_takesDigit_165 : decode cX4_takesDigit 165 = .ok (.iastore, 1) := by decide +kernel
theorem dX4_takesDigit_166 : decode cX4_takesDigit 166 = .ok (.aload_n 0, 1) := by decide +kernel
theorem dX4_takesDigit_167 : decode cX4_takesDigit 167 = .ok (.dup, 1) := by decide +kernel
theorem dX4_takesDigit_168 : decode cX4_takesDigit 168 = .ok (.getfield 141, 3) := by decide +kernel
theorem dX4_takesDigit_171 : decode cX4_takesDigit 171 = .ok (.iload 5, 2) := by decide +kernel
theorem dX4_takesDigit_173 : decode cX4_takesDigit 173 = .ok (.ifCond .eq 7, 3) := by decide +kernel
theorem dX4_takesDigit_176 : decode cX4_takesDigit 176 = .ok (.iconst 1, 1) := by decide +kernel
theorem dX4_takesDigit_177 : decode cX4_takesDigit 177 = .ok (.goto 4, 3) := by decide +kernel
theorem dX4_takesDigit_180 : decode cX4_takesDigit 180 = .ok (.iconst 0, 1) := by decide +kernel
theorem dX4_takesDigit_181 : decode cX4_takesDigit 181 = .ok (.iadd, 1) := by decide +kernel
theorem dX4_takesDigit_182 : decode cX4_takesDigit 182 = .ok (.putfield 141, 3) := by decide +kernel
theorem dX4_takesDigit_185 : decode cX4_takesDigit 185 = .ok (.iload 5, 2) := by decide +kernel
theorem dX4_takesDigit_187 : decode cX4_takesDigit 187 = .ok (.ireturn, 1) := by decide +kernel
theorem dX4_isNumberOver_0 : decode cX4_isNumberOver 0 = .ok (.aload_n 0, 1) := by decide +kernel
theorem dX4_isNumberOver_1 : decode cX4_isNumberOver 1 = .ok (.getfield 138, 3) := by decide +kernel
theorem dX4_isNumberOver_4 : decode cX4_isNumberOver 4 = .ok (.iconst 3, 1) := by decide +kernel
theorem dX4_isNumberOver_5 : decode cX4_isNumberOver 5 = .ok (.if_icmp .ge 37, 3) := by decide +kernel
theorem dX4_isNumberOver_8 : decode cX4_isNumberOver 8 = .ok (.aload_n 0, 1) := by decide +kernel
theorem dX4_isNumberOver_9 : decode cX4_isNumberOver 9 = .ok (.getfield 141, 3) := by decide +kernel
theorem dX4_isNumberOver_12 : decode cX4_isNumberOver 12 = .ok (.ifCond .le 30, 3) := by decide +kernel
theorem dX4_isNumberOver_15 : decode cX4_isNumberOver 15 = .ok (.aload_n 0, 1) := by decide +kernel
theorem dX4_isNumberOver_16 : decode cX4_isNumberOver 16 = .ok (.getfield 25, 3) := by decide +kernel
theorem dX4_isNumberOver_19 : decode cX4_isNumberOver 19 = .ok (.iconst 4, 1) := by decide +kernel
theorem dX4_isNumberOver_20 : decode cX4_isNumberOver 20 = .ok (.aload_n 0, 1) := by decide +kernel
theorem dX4_isNumberOver_21 : decode cX4_isNumberOver 21 = .ok (.getfield 147, 3) := by decide +kernel
theorem dX4_isNumberOver_24 : decode cX4_isNumberOver 24 = .ok (.imul, 1) := by decide +kernel
theorem dX4_isNumberOver_25 : decode cX4_isNumberOver 25 = .ok (.aload_n 0, 1) := by decide +kernel
theorem dX4_isNumberOver_26 : decode cX4_isNumberOver 26 = .ok (.getfield 138, 3) := by decide +kernel
theorem dX4_isNumberOver_29 : decode cX4_isNumberOver 29 = .ok (.iadd, 1) := by decide +kernel
theorem dX4_isNumberOver_30 : decode cX4_isNumberOver 30 = .ok (.iaload, 1) := by decide +kernel
theorem dX4_isNumberOver_31 : decode cX4_isNumberOver 31 = .ok (.aload_n 0, 1) := by decide +kernel
theorem dX4_isNumberOver_32 : decode cX4_isNumberOver 32 = .ok (.invokevirtual 150, 3) := by decide +kernel
theorem dX4_isNumberOver_35 : decode cX4_isNumberOver 35 = .ok (.if_icmp .lt 7, 3) := by decide +kernel
theorem dX4_isNumberOver_38 : decode cX4_isNumberOver 38 = .ok (.iconst 1, 1) := by decide +kernel
theorem dX4_isNumberOver_39 : decode cX4_isNumberOver 39 = .ok (.goto 4, 3) := by decide +kernel
theorem dX4_isNumberOver_42 : decode cX4_isNumberOver 42 = .ok (.iconst 0, 1) := by decide +kernel
theorem dX4_isNumberOver_43 : decode cX4_isNumberOver 43 = .ok (.ireturn, 1) := by decide +kernel
theorem dX4_isRailOver_0 : decode cX4_isRailOver 0 = .ok (.aload_n 0, 1) := by decide +kernel
theorem dX4_isRailOver_1 : decode cX4_isRailOver 1 = .ok (.getfield 138, 3) := by decide +kernel
theorem dX4_isRailOver_4 : decode cX4_isRailOver 4 = .ok (.iconst 3, 1) := by decide +kernel
theorem dX4_isRailOver_5 : decode cX4_isRailOver 5 = .ok (.if_icmp .ne 18, 3) := by decide +kernel
theorem dX4_isRailOver_8 : decode cX4_isRailOver 8 = .ok (.aload_n 0, 1) := by decide +kernel
theorem dX4_isRailOver_9 : decode cX4_isRailOver 9 = .ok (.getfield 141, 3) := by decide +kernel
theorem dX4_isRailOver_12 : decode cX4_isRailOver 12 = .ok (.ifCond .le 7, 3) := by decide +kernel
theorem dX4_isRailOver_15 : decode cX4_isRailOver 15 = .ok (.iconst 1, 1) := by decide +kernel
theorem dX4_isRailOver_16 : decode cX4_isRailOver 16 = .ok (.goto 27, 3) := by decide +kernel
theorem dX4_isRailOver_19 : decode cX4_isRailOver 19 = .ok (.iconst 0, 1) := by decide +kernel
theorem dX4_isRailOver_20 : decode cX4_isRailOver 20 = .ok (.goto 23, 3) := by decide +kernel
theorem dX4_isRailOver_23 : decode cX4_isRailOver 23 = .ok (.aload_n 0, 1) := by decide +kernel
theorem dX4_isRailOver_24 : decode cX4_isRailOver 24 = .ok (.getfield 138, 3) := by decide +kernel
theorem dX4_isRailOver_27 : decode cX4_isRailOver 27 = .ok (.iconst 2, 1) := by decide +kernel
theorem dX4_isRailOver_28 : decode cX4_isRailOver 28 = .ok (.if_icmp .ne 14, 3) := by decide +kernel
theorem dX4_isRailOver_31 : decode cX4_isRailOver 31 = .ok (.aload_n 0, 1) := by decide +kernel
theorem dX4_isRailOver_32 : decode cX4_isRailOver 32 = .ok (.invokevirtual 154, 3) := by decide +kernel
theorem dX4_isRailOver_35 : decode cX4_isRailOver 35 = .ok (.ifCond .eq 7, 3) := by decide +kernel
theorem dX4_isRailOver_38 : decode cX4_isRailOver 38 = .ok (.iconst 1, 1) := by decide +kernel
theorem dX4_isRailOver_39 : decode cX4_isRailOver 39 = .ok (.goto 4, 3) := by decide +kernel
theorem dX4_isRailOver_42 : decode cX4_isRailOver 42 = .ok (.iconst 0, 1) := by decide +kernel
theorem dX4_isRailOver_43 : decode cX4_isRailOver 43 = .ok (.ireturn, 1) := by decide +kernel
theorem dX4_takes_0 : decode cX4_takes 0 = .ok (.iload_n 1, 1) := by decide +kernel
theorem dX4_takes_1 : decode cX4_takes 1 = .ok (.bipush 48, 2) := by decide +kernel
theorem dX4_takes_3 : decode cX4_takes 3 = .ok (.bipush 57, 2) := by decide +kernel
theorem dX4_takes_5 : decode cX4_takes 5 = .ok (.invokestatic 32, 3) := by decide +kernel
theorem dX4_takes_8 : decode cX4_takes 8 = .ok (.ifCond .eq 12, 3) := by decide +kernel
theorem dX4_takes_11 : decode cX4_takes 11 = .ok (.aload_n 0, 1) := by decide +kernel
theorem dX4_takes_12 : decode cX4_takes 12 = .ok (.iload_n 1, 1) := by decide +kernel
theorem dX4_takes_13 : decode cX4_takes 13 = .ok (.bipush 48, 2) := by decide +kernel
theorem dX4_takes_15 : decode cX4_takes 15 = .ok (.isub, 1) := by decide +kernel
theorem dX4_takes_16 : decode cX4_takes 16 = .ok (.invokevirtual 158, 3) := by decide +kernel
theorem dX4_takes_19 : decode cX4_takes 19 = .ok (.ireturn, 1) := by decide +kernel
theorem dX4_takes_20 : decode cX4_takes 20 = .ok (.iload_n 1, 1) := by decide +kernel
theorem dX4_takes_21 : decode cX4_takes 21 = .ok (.bipush 47, 2) := by decide +kernel
theorem dX4_takes_23 : decode cX4_takes 23 = .ok (.if_icmp .ne 18, 3) := by decide +kernel
theorem dX4_takes_26 : decode cX4_takes 26 = .ok (.aload_n 0, 1) := by decide +kernel
theorem dX4_takes_27 : decode cX4_takes 27 = .ok (.getfield 138, 3) := by decide +kernel
theorem dX4_takes_30 : decode cX4_takes 30 = .ok (.iconst 2, 1) := by decide +kernel
theorem dX4_takes_31 : decode cX4_takes 31 = .ok (.if_icmp .ge 10, 3) := by decide +kernel
theorem dX4_takes_34 : decode cX4_takes 34 = .ok (.aload_n 0, 1) := by decide +kernel
theorem dX4_takes_35 : decode cX4_takes 35 = .ok (.invokevirtual 154, 3) := by decide +kernel
theorem dX4_takes_38 : decode cX4_takes 38 = .ok (.ifCond .ne 24, 3) := by decide +kernel
theorem dX4_takes_41 : decode cX4_takes 41 = .ok (.iload_n 1, 1) := by decide +kernel
theorem dX4_takes_42 : decode cX4_takes 42 = .ok (.bipush 60, 2) := by decide +kernel
theorem dX4_takes_44 : decode cX4_takes 44 = .ok (.if_icmp .ne 22, 3) := by decide +kernel
theorem dX4_takes_47 : decode cX4_takes 47 = .ok (.aload_n 0, 1) := by decide +kernel
theorem dX4_takes_48 : decode cX4_takes 48 = .ok (.getfield 138, 3) := by decide +kernel
theorem dX4_takes_51 : decode cX4_takes 51 = .ok (.iconst 2, 1) := by decide +kernel
theorem dX4_takes_52 : decode cX4_takes 52 = .ok (.if_icmp .ne 14, 3) := by decide +kernel
theorem dX4_takes_55 : decode cX4_takes 55 = .ok (.aload_n 0, 1) := by decide +kernel
theorem dX4_takes_56 : decode cX4_takes 56 = .ok (.invokevirtual 154, 3) := by decide +kernel
theorem dX4_takes_59 : decode cX4_takes 59 = .ok (.ifCond .eq 7, 3) := by decide +kernel
theorem dX4_takes_62 : decode cX4_takes 62 = .ok (.iconst 1, 1) := by decide +kernel
theorem dX4_takes_63 : decode cX4_takes 63 = .ok (.goto 4, 3) := by decide +kernel
theorem dX4_takes_66 : decode cX4_takes 66 = .ok (.iconst 0, 1) := by decide +kernel
theorem dX4_takes_67 : decode cX4_takes 67 = .ok (.istore_n 2, 1) := by decide +kernel
theorem dX4_takes_68 : decode cX4_takes 68 = .ok (.iload_n 2, 1) := by decide +kernel
theorem dX4_takes_69 : decode cX4_takes 69 = .ok (.ifCond .eq 20, 3) := by decide +kernel
theorem dX4_takes_72 : decode cX4_takes 72 = .ok (.aload_n 0, 1) := by decide +kernel
theorem dX4_takes_73 : decode cX4_takes 73 = .ok (.dup, 1) := by decide +kernel
theorem dX4_takes_74 : decode cX4_takes 74 = .ok (.getfield 138, 3) := by decide +kernel
theorem dX4_takes_77 : decode cX4_takes 77 = .ok (.iconst 1, 1) := by decide +kernel
theorem dX4_takes_78 : decode cX4_takes 78 = .ok (.iadd, 1) := by decide +kernel
theorem dX4_takes_79 : decode cX4_takes 79 = .ok (.putfield 138, 3) := by decide +kernel
theorem dX4_takes_82 : decode cX4_takes 82 = .ok (.aload_n 0, 1) := by decide +kernel
theorem dX4_takes_83 : decode cX4_takes 83 = .ok (.iconst 0, 1) := by decide +kernel
theorem dX4_takes_84 : decode cX4_takes 84 = .ok (.putfield 141, 3) := by decide +kernel
theorem dX4_takes_87 : decode cX4_takes 87 = .ok (.iconst 1, 1) := by decide +kernel
theorem dX4_takes_88 : decode cX4_takes 88 = .ok (.ireturn, 1) := by decide +kernel
theorem dX4_takes_89 : decode cX4_takes 89 = .ok (.iload_n 1, 1) := by decide +kernel
theorem dX4_takes_90 : decode cX4_takes 90 = .ok (.bipush 59, 2) := by decide +kernel
theorem dX4_takes_92 : decode cX4_takes 92 = .ok (.if_icmp .ne 26, 3) := by decide +kernel
theorem dX4_takes_95 : decode cX4_takes 95 = .ok (.aload_n 0, 1) := by decide +kernel
theorem dX4_takes_96 : decode cX4_takes 96 = .ok (.invokevirtual 161, 3) := by decide +kernel
theorem dX4_takes_99 : decode cX4_takes 99 = .ok (.ifCond .eq 19, 3) := by decide +kernel
theorem dX4_takes_102 : decode cX4_takes 102 = .ok (.aload_n 0, 1) := by decide +kernel
theorem dX4_takes_103 : decode cX4_takes 103 = .ok (.dup, 1) := by decide +kernel
theorem dX4_takes_104 : decode cX4_takes 104 = .ok (.getfield 147, 3) := by decide +kernel
theorem dX4_takes_107 : decode cX4_takes 107 = .ok (.iconst 1, 1) := by decide +kernel
theorem dX4_takes_108 : decode cX4_takes 108 = .ok (.iadd, 1) := by decide +kernel
theorem dX4_takes_109 : decode cX4_takes 109 = .ok (.putfield 147, 3) := by decide +kernel
theorem dX4_takes_112 : decode cX4_takes 112 = .ok (.aload_n 0, 1) := by decide +kernel
theorem dX4_takes_113 : decode cX4_takes 113 = .ok (.invokevirtual 164, 3) := by decide +kernel
theorem dX4_takes_116 : decode cX4_takes 116 = .ok (.iconst 1, 1) := by decide +kernel
theorem dX4_takes_117 : decode cX4_takes 117 = .ok (.ireturn, 1) := by decide +kernel
theorem dX4_takes_118 : decode cX4_takes 118 = .ok (.iconst 0, 1) := by decide +kernel
theorem dX4_takes_119 : decode cX4_takes 119 = .ok (.ireturn, 1) := by decide +kernel
theorem dX4_readText_0 : decode cX4_readText 0 = .ok (.aload_n 0, 1) := by decide +kernel
theorem dX4_readText_1 : decode cX4_readText 1 = .ok (.iconst 0, 1) := by decide +kernel
theorem dX4_readText_2 : decode cX4_readText 2 = .ok (.putfield 147, 3) := by decide +kernel
theorem dX4_readText_5 : decode cX4_readText 5 = .ok (.aload_n 0, 1) := by decide +kernel
theorem dX4_readText_6 : decode cX4_readText 6 = .ok (.invokevirtual 164, 3) := by decide +kernel
theorem dX4_readText_9 : decode cX4_readText 9 = .ok (.iconst 0, 1) := by decide +kernel
theorem dX4_readText_10 : decode cX4_readText 10 = .ok (.istore_n 1, 1) := by decide +kernel
theorem dX4_readText_11 : decode cX4_readText 11 = .ok (.iload_n 1, 1) := by decide +kernel
theorem dX4_readText_12 : decode cX4_readText 12 = .ok (.aload_n 0, 1) := by decide +kernel
theorem dX4_readText_13 : decode cX4_readText 13 = .ok (.getfield 135, 3) := by decide +kernel
theorem dX4_readText_16 : decode cX4_readText 16 = .ok (.if_icmp .ge 22, 3) := by decide +kernel
theorem dX4_readText_19 : decode cX4_readText 19 = .ok (.aload_n 0, 1) := by decide +kernel
theorem dX4_readText_20 : decode cX4_readText 20 = .ok (.aload_n 0, 1) := by decide +kernel
theorem dX4_readText_21 : decode cX4_readText 21 = .ok (.getfield 16, 3) := by decide +kernel
theorem dX4_readText_24 : decode cX4_readText 24 = .ok (.iload_n 1, 1) := by decide +kernel
theorem dX4_readText_25 : decode cX4_readText 25 = .ok (.iaload, 1) := by decide +kernel
theorem dX4_readText_26 : decode cX4_readText 26 = .ok (.invokevirtual 167, 3) := by decide +kernel
theorem dX4_readText_29 : decode cX4_readText 29 = .ok (.ifCond .eq 9, 3) := by decide +kernel
theorem dX4_readText_32 : decode cX4_readText 32 = .ok (.iinc 1 1, 3) := by decide +kernel
theorem dX4_readText_35 : decode cX4_readText 35 = .ok (.goto (-24), 3) := by decide +kernel
theorem dX4_readText_38 : decode cX4_readText 38 = .ok (.iload_n 1, 1) := by decide +kernel
theorem dX4_readText_39 : decode cX4_readText 39 = .ok (.ireturn, 1) := by decide +kernel
theorem dX4_firstError_0 : decode cX4_firstError 0 = .ok (.aload_n 0, 1) := by decide +kernel
theorem dX4_firstError_1 : decode cX4_firstError 1 = .ok (.iconst 0, 1) := by decide +kernel
theorem dX4_firstError_2 : decode cX4_firstError 2 = .ok (.putfield 28, 3) := by decide +kernel
theorem dX4_firstError_5 : decode cX4_firstError 5 = .ok (.aload_n 0, 1) := by decide +kernel
theorem dX4_firstError_6 : decode cX4_firstError 6 = .ok (.invokevirtual 170, 3) := by decide +kernel
theorem dX4_firstError_9 : decode cX4_firstError 9 = .ok (.ireturn, 1) := by decide +kernel
theorem dX4_isEarlier_0 : decode cX4_isEarlier 0 = .ok (.aload_n 0, 1) := by decide +kernel
theorem dX4_isEarlier_1 : decode cX4_isEarlier 1 = .ok (.getfield 7, 3) := by decide +kernel
theorem dX4_isEarlier_4 : decode cX4_isEarlier 4 = .ok (.iconst 0, 1) := by decide +kernel
theorem dX4_isEarlier_5 : decode cX4_isEarlier 5 = .ok (.iaload, 1) := by decide +kernel
theorem dX4_isEarlier_6 : decode cX4_isEarlier 6 = .ok (.aload_n 0, 1) := by decide +kernel
theorem dX4_isEarlier_7 : decode cX4_isEarlier 7 = .ok (.getfield 147, 3) := by decide +kernel
theorem dX4_isEarlier_10 : decode cX4_isEarlier 10 = .ok (.iadd, 1) := by decide +kernel
theorem dX4_isEarlier_11 : decode cX4_isEarlier 11 = .ok (.bipush 8, 2) := by decide +kernel
theorem dX4_isEarlier_13 : decode cX4_isEarlier 13 = .ok (.if_icmp .ge 7, 3) := by decide +kernel
theorem dX4_isEarlier_16 : decode cX4_isEarlier 16 = .ok (.iconst 1, 1) := by decide +kernel
theorem dX4_isEarlier_17 : decode cX4_isEarlier 17 = .ok (.goto 4, 3) := by decide +kernel
theorem dX4_isEarlier_20 : decode cX4_isEarlier 20 = .ok (.iconst 0, 1) := by decide +kernel
theorem dX4_isEarlier_21 : decode cX4_isEarlier 21 = .ok (.istore_n 1, 1) := by decide +kernel
theorem dX4_isEarlier_22 : decode cX4_isEarlier 22 = .ok (.iconst 0, 1) := by decide +kernel
theorem dX4_isEarlier_23 : decode cX4_isEarlier 23 = .ok (.istore_n 2, 1) := by decide +kernel
theorem dX4_isEarlier_24 : decode cX4_isEarlier 24 = .ok (.iload_n 2, 1) := by decide +kernel
theorem dX4_isEarlier_25 : decode cX4_isEarlier 25 = .ok (.aload_n 0, 1) := by decide +kernel
theorem dX4_isEarlier_26 : decode cX4_isEarlier 26 = .ok (.getfield 147, 3) := by decide +kernel
theorem dX4_isEarlier_29 : decode cX4_isEarlier 29 = .ok (.if_icmp .gt 44, 3) := by decide +kernel
theorem dX4_isEarlier_32 : decode cX4_isEarlier 32 = .ok (.iload_n 1, 1) := by decide +kernel
theorem dX4_isEarlier_33 : decode cX4_isEarlier 33 = .ok (.ifCond .eq 32, 3) := by decide +kernel
theorem dX4_isEarlier_36 : decode cX4_isEarlier 36 = .ok (.aload_n 0, 1) := by decide +kernel
theorem dX4_isEarlier_37 : decode cX4_isEarlier 37 = .ok (.aload_n 0, 1) := by decide +kernel
theorem dX4_isEarlier_38 : decode cX4_isEarlier 38 = .ok (.getfield 25, 3) := by decide +kernel
theorem dX4_isEarlier_41 : decode cX4_isEarlier 41 = .ok (.iconst 4, 1) := by decide +kernel
theorem dX4_isEarlier_42 : decode cX4_isEarlier 42 = .ok (.iload_n 2, 1) := by decide +kernel
theorem dX4_isEarlier_43 : decode cX4_isEarlier 43 = .ok (.imul, 1) := by decide +kernel
theorem dX4_isEarlier_44 : decode cX4_isEarlier 44 = .ok (.iconst 3, 1) := by decide +kernel
theorem dX4_isEarlier_45 : decode cX4_isEarlier 45 = .ok (.iadd, 1) := by decide +kernel
theorem dX4_isEarlier_46 : decode cX4_isEarlier 46 = .ok (.iaload, 1) := by decide +kernel
theorem dX4_isEarlier_47 : decode cX4_isEarlier 47 = .ok (.aload_n 0, 1) := by decide +kernel
theorem dX4_isEarlier_48 : decode cX4_isEarlier 48 = .ok (.getfield 7, 3) := by decide +kernel
theorem dX4_isEarlier_51 : decode cX4_isEarlier 51 = .ok (.iconst 0, 1) := by decide +kernel
theorem dX4_isEarlier_52 : decode cX4_isEarlier 52 = .ok (.iaload, 1) := by decide +kernel
theorem dX4_isEarlier_53 : decode cX4_isEarlier 53 = .ok (.iload_n 2, 1) := by decide +kernel
theorem dX4_isEarlier_54 : decode cX4_isEarlier 54 = .ok (.iadd, 1) := by decide +kernel
theorem dX4_isEarlier_55 : decode cX4_isEarlier 55 = .ok (.invokevirtual 107, 3) := by decide +kernel
theorem dX4_isEarlier_58 : decode cX4_isEarlier 58 = .ok (.ifCond .eq 7, 3) := by decide +kernel
theorem dX4_isEarlier_61 : decode cX4_isEarlier 61 = .ok (.iconst 1, 1) := by decide +kernel
theorem dX4_isEarlier_62 : decode cX4_isEarlier 62 = .ok (.goto 4, 3) := by decide +kernel
theorem dX4_isEarlier_65 : decode cX4_isEarlier 65 = .ok (.iconst 0, 1) := by decide +kernel
theorem dX4_isEarlier_66 : decode cX4_isEarlier 66 = .ok (.istore_n 1, 1) := by decide +kernel
theorem dX4_isEarlier_67 : decode cX4_isEarlier 67 = .ok (.iinc 2 1, 3) := by decide +kernel
theorem dX4_isEarlier_70 : decode cX4_isEarlier 70 = .ok (.goto (-46), 3) := by decide +kernel
theorem dX4_isEarlier_73 : decode cX4_isEarlier 73 = .ok (.iload_n 1, 1) := by decide +kernel
theorem dX4_isEarlier_74 : decode cX4_isEarlier 74 = .ok (.ireturn, 1) := by decide +kernel
theorem dX4_load_0 : decode cX4_load 0 = .ok (.aload_n 0, 1) := by decide +kernel
theorem dX4_load_1 : decode cX4_load 1 = .ok (.invokevirtual 170, 3) := by decide +kernel
theorem dX4_load_4 : decode cX4_load 4 = .ok (.aload_n 0, 1) := by decide +kernel
theorem dX4_load_5 : decode cX4_load 5 = .ok (.getfield 135, 3) := by decide +kernel
theorem dX4_load_8 : decode cX4_load 8 = .ok (.if_icmp .ne 14, 3) := by decide +kernel
theorem dX4_load_11 : decode cX4_load 11 = .ok (.aload_n 0, 1) := by decide +kernel
theorem dX4_load_12 : decode cX4_load 12 = .ok (.invokevirtual 161, 3) := by decide +kernel
theorem dX4_load_15 : decode cX4_load 15 = .ok (.ifCond .eq 7, 3) := by decide +kernel
theorem dX4_load_18 : decode cX4_load 18 = .ok (.iconst 1, 1) := by decide +kernel
theorem dX4_load_19 : decode cX4_load 19 = .ok (.goto 4, 3) := by decide +kernel
theorem dX4_load_22 : decode cX4_load 22 = .ok (.iconst 0, 1) := by decide +kernel
theorem dX4_load_23 : decode cX4_load 23 = .ok (.istore_n 1, 1) := by decide +kernel
theorem dX4_load_24 : decode cX4_load 24 = .ok (.aload_n 0, 1) := by decide +kernel
theorem dX4_load_25 : decode cX4_load 25 = .ok (.iload_n 1, 1) := by decide +kernel
theorem dX4_load_26 : decode cX4_load 26 = .ok (.ifCond .ne 7, 3) := by decide +kernel
theorem dX4_load_29 : decode cX4_load 29 = .ok (.iconst 1, 1) := by decide +kernel
theorem dX4_load_30 : decode cX4_load 30 = .ok (.goto 15, 3) := by decide +kernel
theorem dX4_load_33 : decode cX4_load 33 = .ok (.aload_n 0, 1) := by decide +kernel
theorem dX4_load_34 : decode cX4_load 34 = .ok (.invokevirtual 173, 3) := by decide +kernel
theorem dX4_load_37 : decode cX4_load 37 = .ok (.ifCond .eq 7, 3) := by decide +kernel
theorem dX4_load_40 : decode cX4_load 40 = .ok (.iconst 0, 1) := by decide +kernel
theorem dX4_load_41 : decode cX4_load 41 = .ok (.goto 4, 3) := by decide +kernel
theorem dX4_load_44 : decode cX4_load 44 = .ok (.iconst 2, 1) := by decide +kernel
theorem dX4_load_45 : decode cX4_load 45 = .ok (.putfield 28, 3) := by decide +kernel
theorem dX4_load_48 : decode cX4_load 48 = .ok (.aload_n 0, 1) := by decide +kernel
theorem dX4_load_49 : decode cX4_load 49 = .ok (.getfield 28, 3) := by decide +kernel
theorem dX4_load_52 : decode cX4_load 52 = .ok (.ifCond .le 5, 3) := by decide +kernel
theorem dX4_load_55 : decode cX4_load 55 = .ok (.iconst 0, 1) := by decide +kernel
theorem dX4_load_56 : decode cX4_load 56 = .ok (.ireturn, 1) := by decide +kernel
theorem dX4_load_57 : decode cX4_load 57 = .ok (.aload_n 0, 1) := by decide +kernel
theorem dX4_load_58 : decode cX4_load 58 = .ok (.invokevirtual 110, 3) := by decide +kernel
theorem dX4_load_61 : decode cX4_load 61 = .ok (.iconst 0, 1) := by decide +kernel
theorem dX4_load_62 : decode cX4_load 62 = .ok (.istore_n 2, 1) := by decide +kernel
theorem dX4_load_63 : decode cX4_load 63 = .ok (.iload_n 2, 1) := by decide +kernel
theorem dX4_load_64 : decode cX4_load 64 = .ok (.aload_n 0, 1) := by decide +kernel
theorem dX4_load_65 : decode cX4_load 65 = .ok (.getfield 147, 3) := by decide +kernel
theorem dX4_load_68 : decode cX4_load 68 = .ok (.if_icmp .gt 51, 3) := by decide +kernel
theorem dX4_load_71 : decode cX4_load 71 = .ok (.aload_n 0, 1) := by decide +kernel
theorem dX4_load_72 : decode cX4_load 72 = .ok (.aload_n 0, 1) := by decide +kernel
theorem dX4_load_73 : decode cX4_load 73 = .ok (.getfield 25, 3) := by decide +kernel
theorem dX4_load_76 : decode cX4_load 76 = .ok (.iconst 4, 1) := by decide +kernel
theorem dX4_load_77 : decode cX4_load 77 = .ok (.iload_n 2, 1) := by decide +kernel
theorem dX4_load_78 : decode cX4_load 78 = .ok (.imul, 1) := by decide +kernel
theorem dX4_load_79 : decode cX4_load 79 = .ok (.iaload, 1) := by decide +kernel
theorem dX4_load_80 : decode cX4_load 80 = .ok (.aload_n 0, 1) := by decide +kernel
theorem dX4_load_81 : decode cX4_load 81 = .ok (.getfield 25, 3) := by decide +kernel
theorem dX4_load_84 : decode cX4_load 84 = .ok (.iconst 4, 1) := by decide +kernel
theorem dX4_load_85 : decode cX4_load 85 = .ok (.iload_n 2, 1) := by decide +kernel
theorem dX4_load_86 : decode cX4_load 86 = .ok (.imul, 1) := by decide +kernel
theorem dX4_load_87 : decode cX4_load 87 = .ok (.iconst 1, 1) := by decide +kernel
theorem dX4_load_88 : decode cX4_load 88 = .ok (.iadd, 1) := by decide +kernel
theorem dX4_load_89 : decode cX4_load 89 = .ok (.iaload, 1) := by decide +kernel
theorem dX4_load_90 : decode cX4_load 90 = .ok (.aload_n 0, 1) := by decide +kernel
theorem dX4_load_91 : decode cX4_load 91 = .ok (.getfield 25, 3) := by decide +kernel
theorem dX4_load_94 : decode cX4_load 94 = .ok (.iconst 4, 1) := by decide +kernel
theorem dX4_load_95 : decode cX4_load 95 = .ok (.iload_n 2, 1) := by decide +kernel
theorem dX4_load_96 : decode cX4_load 96 = .ok (.imul, 1) := by decide +kernel
theorem dX4_load_97 : decode cX4_load 97 = .ok (.iconst 2, 1) := by decide +kernel
theorem dX4_load_98 : decode cX4_load 98 = .ok (.iadd, 1) := by decide +kernel
theorem dX4_load_99 : decode cX4_load 99 = .ok (.iaload, 1) := by decide +kernel
theorem dX4_load_100 : decode cX4_load 100 = .ok (.aload_n 0, 1) := by decide +kernel
theorem dX4_load_101 : decode cX4_load 101 = .ok (.getfield 25, 3) := by decide +kernel
theorem dX4_load_104 : decode cX4_load 104 = .ok (.iconst 4, 1) := by decide +kernel
theorem dX4_load_105 : decode cX4_load 105 = .ok (.iload_n 2, 1) := by decide +kernel
theorem dX4_load_106 : decode cX4_load 106 = .ok (.imul, 1) := by decide +kernel
theorem dX4_load_107 : decode cX4_load 107 = .ok (.iconst 3, 1) := by decide +kernel
theorem dX4_load_108 : decode cX4_load 108 = .ok (.iadd, 1) := by decide +kernel
theorem dX4_load_109 : decode cX4_load 109 = .ok (.iaload, 1) := by decide +kernel
theorem dX4_load_110 : decode cX4_load 110 = .ok (.invokevirtual 113, 3) := by decide +kernel
theorem dX4_load_113 : decode cX4_load 113 = .ok (.iinc 2 1, 3) := by decide +kernel
theorem dX4_load_116 : decode cX4_load 116 = .ok (.goto (-53), 3) := by decide +kernel
theorem dX4_load_119 : decode cX4_load 119 = .ok (.aload_n 0, 1) := by decide +kernel
theorem dX4_load_120 : decode cX4_load 120 = .ok (.iconst 0, 1) := by decide +kernel
theorem dX4_load_121 : decode cX4_load 121 = .ok (.putfield 135, 3) := by decide +kernel
theorem dX4_load_124 : decode cX4_load 124 = .ok (.aload_n 0, 1) := by decide +kernel
theorem dX4_load_125 : decode cX4_load 125 = .ok (.getfield 7, 3) := by decide +kernel
theorem dX4_load_128 : decode cX4_load 128 = .ok (.iconst 0, 1) := by decide +kernel
theorem dX4_load_129 : decode cX4_load 129 = .ok (.iaload, 1) := by decide +kernel
theorem dX4_load_130 : decode cX4_load 130 = .ok (.ireturn, 1) := by decide +kernel
theorem dX4_firstBlame_0 : decode cX4_firstBlame 0 = .ok (.aload_n 0, 1) := by decide +kernel
theorem dX4_firstBlame_1 : decode cX4_firstBlame 1 = .ok (.iload_n 1, 1) := by decide +kernel
theorem dX4_firstBlame_2 : decode cX4_firstBlame 2 = .ok (.bipush 15, 2) := by decide +kernel
theorem dX4_firstBlame_4 : decode cX4_firstBlame 4 = .ok (.invokevirtual 36, 3) := by decide +kernel
theorem dX4_firstBlame_7 : decode cX4_firstBlame 7 = .ok (.istore_n 2, 1) := by decide +kernel
theorem dX4_firstBlame_8 : decode cX4_firstBlame 8 = .ok (.iload_n 2, 1) := by decide +kernel
theorem dX4_firstBlame_9 : decode cX4_firstBlame 9 = .ok (.iconst (-1), 1) := by decide +kernel
theorem dX4_firstBlame_10 : decode cX4_firstBlame 10 = .ok (.if_icmp .eq 36, 3) := by decide +kernel
theorem dX4_firstBlame_13 : decode cX4_firstBlame 13 = .ok (.aload_n 0, 1) := by decide +kernel
theorem dX4_firstBlame_14 : decode cX4_firstBlame 14 = .ok (.iload_n 2, 1) := by decide +kernel
theorem dX4_firstBlame_15 : decode cX4_firstBlame 15 = .ok (.bipush 15, 2) := by decide +kernel
theorem dX4_firstBlame_17 : decode cX4_firstBlame 17 = .ok (.invokevirtual 36, 3) := by decide +kernel
theorem dX4_firstBlame_20 : decode cX4_firstBlame 20 = .ok (.iconst (-1), 1) := by decide +kernel
theorem dX4_firstBlame_21 : decode cX4_firstBlame 21 = .ok (.if_icmp .eq 25, 3) := by decide +kernel
theorem dX4_firstBlame_24 : decode cX4_firstBlame 24 = .ok (.aload_n 0, 1) := by decide +kernel
theorem dX4_firstBlame_25 : decode cX4_firstBlame 25 = .ok (.iload_n 2, 1) := by decide +kernel
theorem dX4_firstBlame_26 : decode cX4_firstBlame 26 = .ok (.bipush 15, 2) := by decide +kernel
theorem dX4_firstBlame_28 : decode cX4_firstBlame 28 = .ok (.invokevirtual 36, 3) := by decide +kernel
theorem dX4_firstBlame_31 : decode cX4_firstBlame 31 = .ok (.iload_n 2, 1) := by decide +kernel
theorem dX4_firstBlame_32 : decode cX4_firstBlame 32 = .ok (.if_icmp .eq 14, 3) := by decide +kernel
theorem dX4_firstBlame_35 : decode cX4_firstBlame 35 = .ok (.aload_n 0, 1) := by decide +kernel
theorem dX4_firstBlame_36 : decode cX4_firstBlame 36 = .ok (.iload_n 2, 1) := by decide +kernel
theorem dX4_firstBlame_37 : decode cX4_firstBlame 37 = .ok (.bipush 15, 2) := by decide +kernel
theorem dX4_firstBlame_39 : decode cX4_firstBlame 39 = .ok (.invokevirtual 36, 3) := by decide +kernel
theorem dX4_firstBlame_42 : decode cX4_firstBlame 42 = .ok (.istore_n 2, 1) := by decide +kernel
theorem dX4_firstBlame_43 : decode cX4_firstBlame 43 = .ok (.goto (-35), 3) := by decide +kernel
theorem dX4_firstBlame_46 : decode cX4_firstBlame 46 = .ok (.iload_n 2, 1) := by decide +kernel
theorem dX4_firstBlame_47 : decode cX4_firstBlame 47 = .ok (.ireturn, 1) := by decide +kernel
theorem dX4_railNow_0 : decode cX4_railNow 0 = .ok (.iload_n 2, 1) := by decide +kernel
theorem dX4_railNow_1 : decode cX4_railNow 1 = .ok (.tableswitch 149 8 18 #[59, 65, 73, 81, 89, 103, 111, 119, 127, 135, 143], 59) := by decide +kernel
theorem dX4_railNow_60 : decode cX4_railNow 60 = .ok (.aload_n 0, 1) := by decide +kernel
theorem dX4_railNow_61 : decode cX4_railNow 61 = .ok (.iload_n 1, 1) := by decide +kernel
theorem dX4_railNow_62 : decode cX4_railNow 62 = .ok (.invokevirtual 129, 3) := by decide +kernel
theorem dX4_railNow_65 : decode cX4_railNow 65 = .ok (.ireturn, 1) := by decide +kernel
theorem dX4_railNow_66 : decode cX4_railNow 66 = .ok (.aload_n 0, 1) := by decide +kernel
theorem dX4_railNow_67 : decode cX4_railNow 67 = .ok (.iload_n 1, 1) := by decide +kernel
theorem dX4_railNow_68 : decode cX4_railNow 68 = .ok (.bipush 8, 2) := by decide +kernel
theorem dX4_railNow_70 : decode cX4_railNow 70 = .ok (.invokevirtual 36, 3) := by decide +kernel
theorem dX4_railNow_73 : decode cX4_railNow 73 = .ok (.ireturn, 1) := by decide +kernel
theorem dX4_railNow_74 : decode cX4_railNow 74 = .ok (.aload_n 0, 1) := by decide +kernel
theorem dX4_railNow_75 : decode cX4_railNow 75 = .ok (.iload_n 1, 1) := by decide +kernel
theorem dX4_railNow_76 : decode cX4_railNow 76 = .ok (.bipush 9, 2) := by decide +kernel
theorem dX4_railNow_78 : decode cX4_railNow 78 = .ok (.invokevirtual 36, 3) := by decide +kernel
theorem dX4_railNow_81 : decode cX4_railNow 81 = .ok (.ireturn, 1) := by decide +kernel
theorem dX4_railNow_82 : decode cX4_railNow 82 = .ok (.aload_n 0, 1) := by decide +kernel
theorem dX4_railNow_83 : decode cX4_railNow 83 = .ok (.iload_n 1, 1) := by decide +kernel
theorem dX4_railNow_84 : decode cX4_railNow 84 = .ok (.bipush 10, 2) := by decide +kernel
theorem dX4_railNow_86 : decode cX4_railNow 86 = .ok (.invokevirtual 36, 3) := by decide +kernel
theorem dX4_railNow_89 : decode cX4_railNow 89 = .ok (.ireturn, 1) := by decide +kernel
theorem dX4_railNow_90 : decode cX4_railNow 90 = .ok (.aload_n 0, 1) := by decide +kernel
theorem dX4_railNow_91 : decode cX4_railNow 91 = .ok (.iload_n 1, 1) := by decide +kernel
theorem dX4_railNow_92 : decode cX4_railNow 92 = .ok (.invokevirtual 65, 3) := by decide +kernel
theorem dX4_railNow_95 : decode cX4_railNow 95 = .ok (.ifCond .eq 7, 3) := by decide +kernel
theorem dX4_railNow_98 : decode cX4_railNow 98 = .ok (.iconst 1, 1) := by decide +kernel
theorem dX4_railNow_99 : decode cX4_railNow 99 = .ok (.goto 4, 3) := by decide +kernel
theorem dX4_railNow_102 : decode cX4_railNow 102 = .ok (.iconst 0, 1) := by decide +kernel
theorem dX4_railNow_103 : decode cX4_railNow 103 = .ok (.ireturn, 1) := by decide +kernel
theorem dX4_railNow_104 : decode cX4_railNow 104 = .ok (.aload_n 0, 1) := by decide +kernel
theorem dX4_railNow_105 : decode cX4_railNow 105 = .ok (.iload_n 1, 1) := by decide +kernel
theorem dX4_railNow_106 : decode cX4_railNow 106 = .ok (.bipush 11, 2) := by decide +kernel
theorem dX4_railNow_108 : decode cX4_railNow 108 = .ok (.invokevirtual 36, 3) := by decide +kernel
theorem dX4_railNow_111 : decode cX4_railNow 111 = .ok (.ireturn, 1) := by decide +kernel
theorem dX4_railNow_112 : decode cX4_railNow 112 = .ok (.aload_n 0, 1) := by decide +kernel
theorem dX4_railNow_113 : decode cX4_railNow 113 = .ok (.iload_n 1, 1) := by decide +kernel
theorem dX4_railNow_114 : decode cX4_railNow 114 = .ok (.bipush 12, 2) := by decide +kernel
theorem dX4_railNow_116 : decode cX4_railNow 116 = .ok (.invokevirtual 36, 3) := by decide +kernel
theorem dX4_railNow_119 : decode cX4_railNow 119 = .ok (.ireturn, 1) := by decide +kernel
theorem dX4_railNow_120 : decode cX4_railNow 120 = .ok (.aload_n 0, 1) := by decide +kernel
theorem dX4_railNow_121 : decode cX4_railNow 121 = .ok (.iload_n 1, 1) := by decide +kernel
theorem dX4_railNow_122 : decode cX4_railNow 122 = .ok (.bipush 13, 2) := by decide +kernel
theorem dX4_railNow_124 : decode cX4_railNow 124 = .ok (.invokevirtual 36, 3) := by decide +kernel
theorem dX4_railNow_127 : decode cX4_railNow 127 = .ok (.ireturn, 1) := by decide +kernel
theorem dX4_railNow_128 : decode cX4_railNow 128 = .ok (.aload_n 0, 1) := by decide +kernel
theorem dX4_railNow_129 : decode cX4_railNow 129 = .ok (.iload_n 1, 1) := by decide +kernel
theorem dX4_railNow_130 : decode cX4_railNow 130 = .ok (.bipush 14, 2) := by decide +kernel
theorem dX4_railNow_132 : decode cX4_railNow 132 = .ok (.invokevirtual 36, 3) := by decide +kernel
theorem dX4_railNow_135 : decode cX4_railNow 135 = .ok (.ireturn, 1) := by decide +kernel
theorem dX4_railNow_136 : decode cX4_railNow 136 = .ok (.aload_n 0, 1) := by decide +kernel
theorem dX4_railNow_137 : decode cX4_railNow 137 = .ok (.iload_n 1, 1) := by decide +kernel
theorem dX4_railNow_138 : decode cX4_railNow 138 = .ok (.bipush 15, 2) := by decide +kernel
theorem dX4_railNow_140 : decode cX4_railNow 140 = .ok (.invokevirtual 36, 3) := by decide +kernel
theorem dX4_railNow_143 : decode cX4_railNow 143 = .ok (.ireturn, 1) := by decide +kernel
theorem dX4_railNow_144 : decode cX4_railNow 144 = .ok (.aload_n 0, 1) := by decide +kernel
theorem dX4_railNow_145 : decode cX4_railNow 145 = .ok (.iload_n 1, 1) := by decide +kernel
theorem dX4_railNow_146 : decode cX4_railNow 146 = .ok (.invokevirtual 176, 3) := by decide +kernel
theorem dX4_railNow_149 : decode cX4_railNow 149 = .ok (.ireturn, 1) := by decide +kernel
theorem dX4_railNow_150 : decode cX4_railNow 150 = .ok (.aload_n 0, 1) := by decide +kernel
theorem dX4_railNow_151 : decode cX4_railNow 151 = .ok (.iload_n 1, 1) := by decide +kernel
theorem dX4_railNow_152 : decode cX4_railNow 152 = .ok (.iload_n 2, 1) := by decide +kernel
theorem dX4_railNow_153 : decode cX4_railNow 153 = .ok (.invokevirtual 36, 3) := by decide +kernel
theorem dX4_railNow_156 : decode cX4_railNow 156 = .ok (.ireturn, 1) := by decide +kernel
theorem dX4_rail_0 : decode cX4_rail 0 = .ok (.aload_n 0, 1) := by decide +kernel
theorem dX4_rail_1 : decode cX4_rail 1 = .ok (.aload_n 0, 1) := by decide +kernel
theorem dX4_rail_2 : decode cX4_rail 2 = .ok (.iload_n 1, 1) := by decide +kernel
theorem dX4_rail_3 : decode cX4_rail 3 = .ok (.invokevirtual 117, 3) := by decide +kernel
theorem dX4_rail_6 : decode cX4_rail 6 = .ok (.ifCond .ne 7, 3) := by decide +kernel
theorem dX4_rail_9 : decode cX4_rail 9 = .ok (.iconst 1, 1) := by decide +kernel
theorem dX4_rail_10 : decode cX4_rail 10 = .ok (.goto 18, 3) := by decide +kernel
theorem dX4_rail_13 : decode cX4_rail 13 = .ok (.iload_n 2, 1) := by decide +kernel
theorem dX4_rail_14 : decode cX4_rail 14 = .ok (.iconst 0, 1) := by decide +kernel
theorem dX4_rail_15 : decode cX4_rail 15 = .ok (.bipush 18, 2) := by decide +kernel
theorem dX4_rail_17 : decode cX4_rail 17 = .ok (.invokestatic 32, 3) := by decide +kernel
theorem dX4_rail_20 : decode cX4_rail 20 = .ok (.ifCond .eq 7, 3) := by decide +kernel
theorem dX4_rail_23 : decode cX4_rail 23 = .ok (.iconst 0, 1) := by decide +kernel
theorem dX4_rail_24 : decode cX4_rail 24 = .ok (.goto 4, 3) := by decide +kernel
theorem dX4_rail_27 : decode cX4_rail 27 = .ok (.iconst 2, 1) := by decide +kernel
theorem dX4_rail_28 : decode cX4_rail 28 = .ok (.putfield 28, 3) := by decide +kernel
theorem dX4_rail_31 : decode cX4_rail 31 = .ok (.aload_n 0, 1) := by decide +kernel
theorem dX4_rail_32 : decode cX4_rail 32 = .ok (.getfield 28, 3) := by decide +kernel
theorem dX4_rail_35 : decode cX4_rail 35 = .ok (.ifCond .le 7, 3) := by decide +kernel
theorem dX4_rail_38 : decode cX4_rail 38 = .ok (.iconst 0, 1) := by decide +kernel
theorem dX4_rail_39 : decode cX4_rail 39 = .ok (.goto 9, 3) := by decide +kernel
theorem dX4_rail_42 : decode cX4_rail 42 = .ok (.aload_n 0, 1) := by decide +kernel
theorem dX4_rail_43 : decode cX4_rail 43 = .ok (.iload_n 1, 1) := by decide +kernel
theorem dX4_rail_44 : decode cX4_rail 44 = .ok (.iload_n 2, 1) := by decide +kernel
theorem dX4_rail_45 : decode cX4_rail 45 = .ok (.invokevirtual 179, 3) := by decide +kernel
theorem dX4_rail_48 : decode cX4_rail 48 = .ok (.ireturn, 1) := by decide +kernel
theorem dX4_account_0 : decode cX4_account 0 = .ok (.aload_n 0, 1) := by decide +kernel
theorem dX4_account_1 : decode cX4_account 1 = .ok (.aload_n 0, 1) := by decide +kernel
theorem dX4_account_2 : decode cX4_account 2 = .ok (.iload_n 1, 1) := by decide +kernel
theorem dX4_account_3 : decode cX4_account 3 = .ok (.invokevirtual 117, 3) := by decide +kernel
theorem dX4_account_6 : decode cX4_account 6 = .ok (.ifCond .ne 7, 3) := by decide +kernel
theorem dX4_account_9 : decode cX4_account 9 = .ok (.iconst 1, 1) := by decide +kernel
theorem dX4_account_10 : decode cX4_account 10 = .ok (.goto 17, 3) := by decide +kernel
theorem dX4_account_13 : decode cX4_account 13 = .ok (.iload_n 2, 1) := by decide +kernel
theorem dX4_account_14 : decode cX4_account 14 = .ok (.iconst 0, 1) := by decide +kernel
theorem dX4_account_15 : decode cX4_account 15 = .ok (.iconst 3, 1) := by decide +kernel
theorem dX4_account_16 : decode cX4_account 16 = .ok (.invokestatic 32, 3) := by decide +kernel
theorem dX4_account_19 : decode cX4_account 19 = .ok (.ifCond .eq 7, 3) := by decide +kernel
theorem dX4_account_22 : decode cX4_account 22 = .ok (.iconst 0, 1) := by decide +kernel
theorem dX4_account_23 : decode cX4_account 23 = .ok (.goto 4, 3) := by decide +kernel
theorem dX4_account_26 : decode cX4_account 26 = .ok (.iconst 2, 1) := by decide +kernel
theorem dX4_account_27 : decode cX4_account 27 = .ok (.putfield 28, 3) := by decide +kernel
theorem dX4_account_30 : decode cX4_account 30 = .ok (.aload_n 0, 1) := by decide +kernel
theorem dX4_account_31 : decode cX4_account 31 = .ok (.getfield 28, 3) := by decide +kernel
theorem dX4_account_34 : decode cX4_account 34 = .ok (.ifCond .le 7, 3) := by decide +kernel
theorem dX4_account_37 : decode cX4_account 37 = .ok (.iconst 0, 1) := by decide +kernel
theorem dX4_account_38 : decode cX4_account 38 = .ok (.goto 12, 3) := by decide +kernel
theorem dX4_account_41 : decode cX4_account 41 = .ok (.aload_n 0, 1) := by decide +kernel
theorem dX4_account_42 : decode cX4_account 42 = .ok (.iload_n 1, 1) := by decide +kernel
theorem dX4_account_43 : decode cX4_account 43 = .ok (.bipush 16, 2) := by decide +kernel
theorem dX4_account_45 : decode cX4_account 45 = .ok (.iload_n 2, 1) := by decide +kernel
theorem dX4_account_46 : decode cX4_account 46 = .ok (.iadd, 1) := by decide +kernel
theorem dX4_account_47 : decode cX4_account 47 = .ok (.invokevirtual 36, 3) := by decide +kernel
theorem dX4_account_50 : decode cX4_account 50 = .ok (.ireturn, 1) := by decide +kernel
theorem dX4_entryNow_0 : decode cX4_entryNow 0 = .ok (.iload_n 1, 1) := by decide +kernel
theorem dX4_entryNow_1 : decode cX4_entryNow 1 = .ok (.aload_n 0, 1) := by decide +kernel
theorem dX4_entryNow_2 : decode cX4_entryNow 2 = .ok (.getfield 7, 3) := by decide +kernel
theorem dX4_entryNow_5 : decode cX4_entryNow 5 = .ok (.iconst 3, 1) := by decide +kernel
theorem dX4_entryNow_6 : decode cX4_entryNow 6 = .ok (.iaload, 1) := by decide +kernel
theorem dX4_entryNow_7 : decode cX4_entryNow 7 = .ok (.if_icmp .ge 27, 3) := by decide +kernel
theorem dX4_entryNow_10 : decode cX4_entryNow 10 = .ok (.aload_n 0, 1) := by decide +kernel
theorem dX4_entryNow_11 : decode cX4_entryNow 11 = .ok (.getfield 7, 3) := by decide +kernel
theorem dX4_entryNow_14 : decode cX4_entryNow 14 = .ok (.iconst 4, 1) := by decide +kernel
theorem dX4_entryNow_15 : decode cX4_entryNow 15 = .ok (.iconst 4, 1) := by decide +kernel
theorem dX4_entryNow_16 : decode cX4_entryNow 16 = .ok (.aload_n 0, 1) := by decide +kernel
theorem dX4_entryNow_17 : decode cX4_entryNow 17 = .ok (.getfield 7, 3) := by decide +kernel
theorem dX4_entryNow_20 : decode cX4_entryNow 20 = .ok (.iconst 3, 1) := by decide +kernel
theorem dX4_entryNow_21 : decode cX4_entryNow 21 = .ok (.iaload, 1) := by decide +kernel
theorem dX4_entryNow_22 : decode cX4_entryNow 22 = .ok (.iconst 1, 1) := by decide +kernel
theorem dX4_entryNow_23 : decode cX4_entryNow 23 = .ok (.isub, 1) := by decide +kernel
theorem dX4_entryNow_24 : decode cX4_entryNow 24 = .ok (.iload_n 1, 1) := by decide +kernel
theorem dX4_entryNow_25 : decode cX4_entryNow 25 = .ok (.isub, 1) := by decide +kernel
theorem dX4_entryNow_26 : decode cX4_entryNow 26 = .ok (.imul, 1) := by decide +kernel
theorem dX4_entryNow_27 : decode cX4_entryNow 27 = .ok (.iadd, 1) := by decide +kernel
theorem dX4_entryNow_28 : decode cX4_entryNow 28 = .ok (.iload_n 2, 1) := by decide +kernel
theorem dX4_entryNow_29 : decode cX4_entryNow 29 = .ok (.iadd, 1) := by decide +kernel
theorem dX4_entryNow_30 : decode cX4_entryNow 30 = .ok (.iaload, 1) := by decide +kernel
theorem dX4_entryNow_31 : decode cX4_entryNow 31 = .ok (.goto 4, 3) := by decide +kernel
theorem dX4_entryNow_34 : decode cX4_entryNow 34 = .ok (.iconst (-1), 1) := by decide +kernel
theorem dX4_entryNow_35 : decode cX4_entryNow 35 = .ok (.ireturn, 1) := by decide +kernel
theorem dX4_entry_0 : decode cX4_entry 0 = .ok (.aload_n 0, 1) := by decide +kernel
theorem dX4_entry_1 : decode cX4_entry 1 = .ok (.iload_n 1, 1) := by decide +kernel
theorem dX4_entry_2 : decode cX4_entry 2 = .ok (.iconst 0, 1) := by decide +kernel
theorem dX4_entry_3 : decode cX4_entry 3 = .ok (.bipush 15, 2) := by decide +kernel
theorem dX4_entry_5 : decode cX4_entry 5 = .ok (.invokestatic 32, 3) := by decide +kernel
theorem dX4_entry_8 : decode cX4_entry 8 = .ok (.ifCond .eq 16, 3) := by decide +kernel
theorem dX4_entry_11 : decode cX4_entry 11 = .ok (.iload_n 2, 1) := by decide +kernel
theorem dX4_entry_12 : decode cX4_entry 12 = .ok (.iconst 0, 1) := by decide +kernel
theorem dX4_entry_13 : decode cX4_entry 13 = .ok (.iconst 3, 1) := by decide +kernel
theorem dX4_entry_14 : decode cX4_entry 14 = .ok (.invokestatic 32, 3) := by decide +kernel
theorem dX4_entry_17 : decode cX4_entry 17 = .ok (.ifCond .eq 7, 3) := by decide +kernel
theorem dX4_entry_20 : decode cX4_entry 20 = .ok (.iconst 0, 1) := by decide +kernel
theorem dX4_entry_21 : decode cX4_entry 21 = .ok (.goto 4, 3) := by decide +kernel
theorem dX4_entry_24 : decode cX4_entry 24 = .ok (.iconst 1, 1) := by decide +kernel
theorem dX4_entry_25 : decode cX4_entry 25 = .ok (.putfield 28, 3) := by decide +kernel
theorem dX4_entry_28 : decode cX4_entry 28 = .ok (.aload_n 0, 1) := by decide +kernel
theorem dX4_entry_29 : decode cX4_entry 29 = .ok (.getfield 28, 3) := by decide +kernel
theorem dX4_entry_32 : decode cX4_entry 32 = .ok (.ifCond .le 7, 3) := by decide +kernel
theorem dX4_entry_35 : decode cX4_entry 35 = .ok (.iconst 0, 1) := by decide +kernel
theorem dX4_entry_36 : decode cX4_entry 36 = .ok (.goto 9, 3) := by decide +kernel
theorem dX4_entry_39 : decode cX4_entry 39 = .ok (.aload_n 0, 1) := by decide +kernel
theorem dX4_entry_40 : decode cX4_entry 40 = .ok (.iload_n 1, 1) := by decide +kernel
theorem dX4_entry_41 : decode cX4_entry 41 = .ok (.iload_n 2, 1) := by decide +kernel
theorem dX4_entry_42 : decode cX4_entry 42 = .ok (.invokevirtual 182, 3) := by decide +kernel
theorem dX4_entry_45 : decode cX4_entry 45 = .ok (.ireturn, 1) := by decide +kernel
theorem dX4_forget_0 : decode cX4_forget 0 = .ok (.aload_n 0, 1) := by decide +kernel
theorem dX4_forget_1 : decode cX4_forget 1 = .ok (.aload_n 0, 1) := by decide +kernel
theorem dX4_forget_2 : decode cX4_forget 2 = .ok (.iload_n 1, 1) := by decide +kernel
theorem dX4_forget_3 : decode cX4_forget 3 = .ok (.invokevirtual 117, 3) := by decide +kernel
theorem dX4_forget_6 : decode cX4_forget 6 = .ok (.ifCond .eq 7, 3) := by decide +kernel
theorem dX4_forget_9 : decode cX4_forget 9 = .ok (.iconst 0, 1) := by decide +kernel
theorem dX4_forget_10 : decode cX4_forget 10 = .ok (.goto 4, 3) := by decide +kernel
theorem dX4_forget_13 : decode cX4_forget 13 = .ok (.iconst 1, 1) := by decide +kernel
theorem dX4_forget_14 : decode cX4_forget 14 = .ok (.putfield 28, 3) := by decide +kernel
theorem dX4_forget_17 : decode cX4_forget 17 = .ok (.aload_n 0, 1) := by decide +kernel
theorem dX4_forget_18 : decode cX4_forget 18 = .ok (.getfield 28, 3) := by decide +kernel
theorem dX4_forget_21 : decode cX4_forget 21 = .ok (.ifCond .le 5, 3) := by decide +kernel
theorem dX4_forget_24 : decode cX4_forget 24 = .ok (.iconst 0, 1) := by decide +kernel
theorem dX4_forget_25 : decode cX4_forget 25 = .ok (.ireturn, 1) := by decide +kernel
theorem dX4_forget_26 : decode cX4_forget 26 = .ok (.aload_n 0, 1) := by decide +kernel
theorem dX4_forget_27 : decode cX4_forget 27 = .ok (.invokevirtual 110, 3) := by decide +kernel
theorem dX4_forget_30 : decode cX4_forget 30 = .ok (.iconst 0, 1) := by decide +kernel
theorem dX4_forget_31 : decode cX4_forget 31 = .ok (.istore_n 2, 1) := by decide +kernel
theorem dX4_forget_32 : decode cX4_forget 32 = .ok (.aload_n 0, 1) := by decide +kernel
theorem dX4_forget_33 : decode cX4_forget 33 = .ok (.getfield 7, 3) := by decide +kernel
theorem dX4_forget_36 : decode cX4_forget 36 = .ok (.iconst 3, 1) := by decide +kernel
theorem dX4_forget_37 : decode cX4_forget 37 = .ok (.iaload, 1) := by decide +kernel
theorem dX4_forget_38 : decode cX4_forget 38 = .ok (.istore_n 3, 1) := by decide +kernel
theorem dX4_forget_39 : decode cX4_forget 39 = .ok (.iconst 0, 1) := by decide +kernel
theorem dX4_forget_40 : decode cX4_forget 40 = .ok (.istore 4, 2) := by decide +kernel
theorem dX4_forget_42 : decode cX4_forget 42 = .ok (.iload 4, 2) := by decide +kernel
theorem dX4_forget_44 : decode cX4_forget 44 = .ok (.iload_n 3, 1) := by decide +kernel
theorem dX4_forget_45 : decode cX4_forget 45 = .ok (.if_icmp .ge 71, 3) := by decide +kernel
theorem dX4_forget_48 : decode cX4_forget 48 = .ok (.aload_n 0, 1) := by decide +kernel
theorem dX4_forget_49 : decode cX4_forget 49 = .ok (.getfield 7, 3) := by decide +kernel
theorem dX4_forget_52 : decode cX4_forget 52 = .ok (.iconst 4, 1) := by decide +kernel
theorem dX4_forget_53 : decode cX4_forget 53 = .ok (.iconst 4, 1) := by decide +kernel
theorem dX4_forget_54 : decode cX4_forget 54 = .ok (.iload 4, 2) := by decide +kernel
theorem dX4_forget_56 : decode cX4_forget 56 = .ok (.imul, 1) := by decide +kernel
theorem dX4_forget_57 : decode cX4_forget 57 = .ok (.iadd, 1) := by decide +kernel
theorem dX4_forget_58 : decode cX4_forget 58 = .ok (.iconst 1, 1) := by decide +kernel
theorem dX4_forget_59 : decode cX4_forget 59 = .ok (.iadd, 1) := by decide +kernel
theorem dX4_forget_60 : decode cX4_forget 60 = .ok (.iaload, 1) := by decide +kernel
theorem dX4_forget_61 : decode cX4_forget 61 = .ok (.iload_n 1, 1) := by decide +kernel
theorem dX4_forget_62 : decode cX4_forget 62 = .ok (.if_icmp .eq 48, 3) := by decide +kernel
theorem dX4_forget_65 : decode cX4_forget 65 = .ok (.iconst 0, 1) := by decide +kernel
theorem dX4_forget_66 : decode cX4_forget 66 = .ok (.istore 5, 2) := by decide +kernel
theorem dX4_forget_68 : decode cX4_forget 68 = .ok (.iload 5, 2) := by decide +kernel
theorem dX4_forget_70 : decode cX4_forget 70 = .ok (.iconst 4, 1) := by decide +kernel
theorem dX4_forget_71 : decode cX4_forget 71 = .ok (.if_icmp .ge 36, 3) := by decide +kernel
theorem dX4_forget_74 : decode cX4_forget 74 = .ok (.aload_n 0, 1) := by decide +kernel
theorem dX4_forget_75 : decode cX4_forget 75 = .ok (.getfield 7, 3) := by decide +kernel
theorem dX4_forget_78 : decode cX4_forget 78 = .ok (.iconst 4, 1) := by decide +kernel
theorem dX4_forget_79 : decode cX4_forget 79 = .ok (.iconst 4, 1) := by decide +kernel
theorem dX4_forget_80 : decode cX4_forget 80 = .ok (.iload_n 2, 1) := by decide +kernel
theorem dX4_forget_81 : decode cX4_forget 81 = .ok (.imul, 1) := by decide +kernel
theorem dX4_forget_82 : decode cX4_forget 82 = .ok (.iadd, 1) := by decide +kernel
theorem dX4_forget_83 : decode cX4_forget 83 = .ok (.iload 5, 2) := by decide +kernel
theorem dX4_forget_85 : decode cX4_forget 85 = .ok (.iadd, 1) := by decide +kernel
theorem dX4_forget_86 : decode cX4_forget 86 = .ok (.aload_n 0, 1) := by decide +kernel
theorem dX4_forget_87 : decode cX4_forget 87 = .ok (.getfield 7, 3) := by decide +kernel
theorem dX4_forget_90 : decode cX4_forget 90 = .ok (.iconst 4, 1) := by decide +kernel
theorem dX4_forget_91 : decode cX4_forget 91 = .ok (.iconst 4, 1) := by decide +kernel
theorem dX4_forget_92 : decode cX4_forget 92 = .ok (.iload 4, 2) := by decide +kernel
theorem dX4_forget_94 : decode cX4_forget 94 = .ok (.imul, 1) := by decide +kernel
theorem dX4_forget_95 : decode cX4_forget 95 = .ok (.iadd, 1) := by decide +kernel
theorem dX4_forget_96 : decode cX4_forget 96 = .ok (.iload 5, 2) := by decide +kernel
theorem dX4_forget_98 : decode cX4_forget 98 = .ok (.iadd, 1) := by decide +kernel
theorem dX4_forget_99 : decode cX4_forget 99 = .ok (.iaload, 1) := by decide +kernel
theorem dX4_forget_100 : decode cX4_forget 100 = .ok (.iastore, 1) := by decide +kernel
theorem dX4_forget_101 : decode cX4_forget 101 = .ok (.iinc 5 1, 3) := by decide +kernel
theorem dX4_forget_104 : decode cX4_forget 104 = .ok (.goto (-36), 3) := by decide +kernel
theorem dX4_forget_107 : decode cX4_forget 107 = .ok (.iinc 2 1, 3) := by decide +kernel
theorem dX4_forget_110 : decode cX4_forget 110 = .ok (.iinc 4 1, 3) := by decide +kernel
theorem dX4_forget_113 : decode cX4_forget 113 = .ok (.goto (-71), 3) := by decide +kernel
theorem dX4_forget_116 : decode cX4_forget 116 = .ok (.aload_n 0, 1) := by decide +kernel
theorem dX4_forget_117 : decode cX4_forget 117 = .ok (.getfield 7, 3) := by decide +kernel
theorem dX4_forget_120 : decode cX4_forget 120 = .ok (.iconst 3, 1) := by decide +kernel
theorem dX4_forget_121 : decode cX4_forget 121 = .ok (.iload_n 2, 1) := by decide +kernel
theorem dX4_forget_122 : decode cX4_forget 122 = .ok (.iastore, 1) := by decide +kernel
theorem dX4_forget_123 : decode cX4_forget 123 = .ok (.iload_n 3, 1) := by decide +kernel
theorem dX4_forget_124 : decode cX4_forget 124 = .ok (.iload_n 2, 1) := by decide +kernel
theorem dX4_forget_125 : decode cX4_forget 125 = .ok (.isub, 1) := by decide +kernel
theorem dX4_forget_126 : decode cX4_forget 126 = .ok (.ireturn, 1) := by decide +kernel
theorem dX4_voltages_0 : decode cX4_voltages 0 = .ok (.iconst 0, 1) := by decide +kernel
theorem dX4_voltages_1 : decode cX4_voltages 1 = .ok (.istore_n 1, 1) := by decide +kernel
theorem dX4_voltages_2 : decode cX4_voltages 2 = .ok (.iconst 0, 1) := by decide +kernel
theorem dX4_voltages_3 : decode cX4_voltages 3 = .ok (.istore_n 2, 1) := by decide +kernel
theorem dX4_voltages_4 : decode cX4_voltages 4 = .ok (.iload_n 2, 1) := by decide +kernel
theorem dX4_voltages_5 : decode cX4_voltages 5 = .ok (.aload_n 0, 1) := by decide +kernel
theorem dX4_voltages_6 : decode cX4_voltages 6 = .ok (.getfield 7, 3) := by decide +kernel
theorem dX4_voltages_9 : decode cX4_voltages 9 = .ok (.iconst 0, 1) := by decide +kernel
theorem dX4_voltages_10 : decode cX4_voltages 10 = .ok (.iaload, 1) := by decide +kernel
theorem dX4_voltages_11 : decode cX4_voltages 11 = .ok (.if_icmp .ge 19, 3) := by decide +kernel
theorem dX4_voltages_14 : decode cX4_voltages 14 = .ok (.iload_n 1, 1) := by decide +kernel
theorem dX4_voltages_15 : decode cX4_voltages 15 = .ok (.aload_n 0, 1) := by decide +kernel
theorem dX4_voltages_16 : decode cX4_voltages 16 = .ok (.iload_n 2, 1) := by decide +kernel
theorem dX4_voltages_17 : decode cX4_voltages 17 = .ok (.bipush 10, 2) := by decide +kernel
theorem dX4_voltages_19 : decode cX4_voltages 19 = .ok (.invokevirtual 36, 3) := by decide +kernel
theorem dX4_voltages_22 : decode cX4_voltages 22 = .ok (.iadd, 1) := by decide +kernel
theorem dX4_voltages_23 : decode cX4_voltages 23 = .ok (.istore_n 1, 1) := by decide +kernel
theorem dX4_voltages_24 : decode cX4_voltages 24 = .ok (.iinc 2 1, 3) := by decide +kernel
theorem dX4_voltages_27 : decode cX4_voltages 27 = .ok (.goto (-23), 3) := by decide +kernel
theorem dX4_voltages_30 : decode cX4_voltages 30 = .ok (.iload_n 1, 1) := by decide +kernel
end
section
theorem dX4_voltages_31 : decode cX4_voltages 31 = .ok (.ireturn, 1) := by decide +kernel
theorem dX4_isStill_0 : decode cX4_isStill 0 = .ok (.aload_n 0, 1) := by decide +kernel
theorem dX4_isStill_1 : decode cX4_isStill 1 = .ok (.invokevirtual 185, 3) := by decide +kernel
theorem dX4_isStill_4 : decode cX4_isStill 4 = .ok (.aload_n 0, 1) := by decide +kernel
theorem dX4_isStill_5 : decode cX4_isStill 5 = .ok (.invokevirtual 132, 3) := by decide +kernel
theorem dX4_isStill_8 : decode cX4_isStill 8 = .ok (.iconst 1, 1) := by decide +kernel
theorem dX4_isStill_9 : decode cX4_isStill 9 = .ok (.istore_n 1, 1) := by decide +kernel
theorem dX4_isStill_10 : decode cX4_isStill 10 = .ok (.iconst 0, 1) := by decide +kernel
theorem dX4_isStill_11 : decode cX4_isStill 11 = .ok (.istore_n 2, 1) := by decide +kernel
theorem dX4_isStill_12 : decode cX4_isStill 12 = .ok (.iload_n 2, 1) := by decide +kernel
theorem dX4_isStill_13 : decode cX4_isStill 13 = .ok (.aload_n 0, 1) := by decide +kernel
theorem dX4_isStill_14 : decode cX4_isStill 14 = .ok (.getfield 7, 3) := by decide +kernel
theorem dX4_isStill_17 : decode cX4_isStill 17 = .ok (.iconst 0, 1) := by decide +kernel
theorem dX4_isStill_18 : decode cX4_isStill 18 = .ok (.iaload, 1) := by decide +kernel
theorem dX4_isStill_19 : decode cX4_isStill 19 = .ok (.if_icmp .ge 90, 3) := by decide +kernel
theorem dX4_isStill_22 : decode cX4_isStill 22 = .ok (.bipush 68, 2) := by decide +kernel
theorem dX4_isStill_24 : decode cX4_isStill 24 = .ok (.bipush 20, 2) := by decide +kernel
theorem dX4_isStill_26 : decode cX4_isStill 26 = .ok (.iload_n 2, 1) := by decide +kernel
theorem dX4_isStill_27 : decode cX4_isStill 27 = .ok (.imul, 1) := by decide +kernel
theorem dX4_isStill_28 : decode cX4_isStill 28 = .ok (.iadd, 1) := by decide +kernel
theorem dX4_isStill_29 : decode cX4_isStill 29 = .ok (.istore_n 3, 1) := by decide +kernel
theorem dX4_isStill_30 : decode cX4_isStill 30 = .ok (.iload_n 1, 1) := by decide +kernel
theorem dX4_isStill_31 : decode cX4_isStill 31 = .ok (.ifCond .eq 70, 3) := by decide +kernel
theorem dX4_isStill_34 : decode cX4_isStill 34 = .ok (.aload_n 0, 1) := by decide +kernel
theorem dX4_isStill_35 : decode cX4_isStill 35 = .ok (.getfield 7, 3) := by decide +kernel
theorem dX4_isStill_38 : decode cX4_isStill 38 = .ok (.iload_n 3, 1) := by decide +kernel
theorem dX4_isStill_39 : decode cX4_isStill 39 = .ok (.bipush 10, 2) := by decide +kernel
theorem dX4_isStill_41 : decode cX4_isStill 41 = .ok (.iadd, 1) := by decide +kernel
theorem dX4_isStill_42 : decode cX4_isStill 42 = .ok (.iaload, 1) := by decide +kernel
theorem dX4_isStill_43 : decode cX4_isStill 43 = .ok (.aload_n 0, 1) := by decide +kernel
theorem dX4_isStill_44 : decode cX4_isStill 44 = .ok (.getfield 22, 3) := by decide +kernel
theorem dX4_isStill_47 : decode cX4_isStill 47 = .ok (.iload_n 3, 1) := by decide +kernel
theorem dX4_isStill_48 : decode cX4_isStill 48 = .ok (.bipush 10, 2) := by decide +kernel
theorem dX4_isStill_50 : decode cX4_isStill 50 = .ok (.iadd, 1) := by decide +kernel
theorem dX4_isStill_51 : decode cX4_isStill 51 = .ok (.iaload, 1) := by decide +kernel
theorem dX4_isStill_52 : decode cX4_isStill 52 = .ok (.if_icmp .ne 49, 3) := by decide +kernel
theorem dX4_isStill_55 : decode cX4_isStill 55 = .ok (.aload_n 0, 1) := by decide +kernel
theorem dX4_isStill_56 : decode cX4_isStill 56 = .ok (.getfield 7, 3) := by decide +kernel
theorem dX4_isStill_59 : decode cX4_isStill 59 = .ok (.iload_n 3, 1) := by decide +kernel
theorem dX4_isStill_60 : decode cX4_isStill 60 = .ok (.bipush 9, 2) := by decide +kernel
theorem dX4_isStill_62 : decode cX4_isStill 62 = .ok (.iadd, 1) := by decide +kernel
theorem dX4_isStill_63 : decode cX4_isStill 63 = .ok (.iaload, 1) := by decide +kernel
theorem dX4_isStill_64 : decode cX4_isStill 64 = .ok (.aload_n 0, 1) := by decide +kernel
theorem dX4_isStill_65 : decode cX4_isStill 65 = .ok (.getfield 22, 3) := by decide +kernel
theorem dX4_isStill_68 : decode cX4_isStill 68 = .ok (.iload_n 3, 1) := by decide +kernel
theorem dX4_isStill_69 : decode cX4_isStill 69 = .ok (.bipush 9, 2) := by decide +kernel
theorem dX4_isStill_71 : decode cX4_isStill 71 = .ok (.iadd, 1) := by decide +kernel
theorem dX4_isStill_72 : decode cX4_isStill 72 = .ok (.iaload, 1) := by decide +kernel
theorem dX4_isStill_73 : decode cX4_isStill 73 = .ok (.if_icmp .ne 28, 3) := by decide +kernel
theorem dX4_isStill_76 : decode cX4_isStill 76 = .ok (.aload_n 0, 1) := by decide +kernel
theorem dX4_isStill_77 : decode cX4_isStill 77 = .ok (.getfield 7, 3) := by decide +kernel
theorem dX4_isStill_80 : decode cX4_isStill 80 = .ok (.iload_n 3, 1) := by decide +kernel
theorem dX4_isStill_81 : decode cX4_isStill 81 = .ok (.bipush 13, 2) := by decide +kernel
theorem dX4_isStill_83 : decode cX4_isStill 83 = .ok (.iadd, 1) := by decide +kernel
theorem dX4_isStill_84 : decode cX4_isStill 84 = .ok (.iaload, 1) := by decide +kernel
theorem dX4_isStill_85 : decode cX4_isStill 85 = .ok (.aload_n 0, 1) := by decide +kernel
theorem dX4_isStill_86 : decode cX4_isStill 86 = .ok (.getfield 22, 3) := by decide +kernel
theorem dX4_isStill_89 : decode cX4_isStill 89 = .ok (.iload_n 3, 1) := by decide +kernel
theorem dX4_isStill_90 : decode cX4_isStill 90 = .ok (.bipush 13, 2) := by decide +kernel
theorem dX4_isStill_92 : decode cX4_isStill 92 = .ok (.iadd, 1) := by decide +kernel
theorem dX4_isStill_93 : decode cX4_isStill 93 = .ok (.iaload, 1) := by decide +kernel
theorem dX4_isStill_94 : decode cX4_isStill 94 = .ok (.if_icmp .ne 7, 3) := by decide +kernel
theorem dX4_isStill_97 : decode cX4_isStill 97 = .ok (.iconst 1, 1) := by decide +kernel
theorem dX4_isStill_98 : decode cX4_isStill 98 = .ok (.goto 4, 3) := by decide +kernel
theorem dX4_isStill_101 : decode cX4_isStill 101 = .ok (.iconst 0, 1) := by decide +kernel
theorem dX4_isStill_102 : decode cX4_isStill 102 = .ok (.istore_n 1, 1) := by decide +kernel
theorem dX4_isStill_103 : decode cX4_isStill 103 = .ok (.iinc 2 1, 3) := by decide +kernel
theorem dX4_isStill_106 : decode cX4_isStill 106 = .ok (.goto (-94), 3) := by decide +kernel
theorem dX4_isStill_109 : decode cX4_isStill 109 = .ok (.aload_n 0, 1) := by decide +kernel
theorem dX4_isStill_110 : decode cX4_isStill 110 = .ok (.invokevirtual 188, 3) := by decide +kernel
theorem dX4_isStill_113 : decode cX4_isStill 113 = .ok (.iload_n 1, 1) := by decide +kernel
theorem dX4_isStill_114 : decode cX4_isStill 114 = .ok (.ireturn, 1) := by decide +kernel
theorem dX4_counted_0 : decode cX4_counted 0 = .ok (.iload_n 1, 1) := by decide +kernel
theorem dX4_counted_1 : decode cX4_counted 1 = .ok (.tableswitch 113 0 8 #[51, 58, 65, 72, 80, 88, 96, 103, 108], 51) := by decide +kernel
theorem dX4_counted_52 : decode cX4_counted 52 = .ok (.aload_n 0, 1) := by decide +kernel
theorem dX4_counted_53 : decode cX4_counted 53 = .ok (.getfield 7, 3) := by decide +kernel
theorem dX4_counted_56 : decode cX4_counted 56 = .ok (.iconst 0, 1) := by decide +kernel
theorem dX4_counted_57 : decode cX4_counted 57 = .ok (.iaload, 1) := by decide +kernel
theorem dX4_counted_58 : decode cX4_counted 58 = .ok (.ireturn, 1) := by decide +kernel
theorem dX4_counted_59 : decode cX4_counted 59 = .ok (.aload_n 0, 1) := by decide +kernel
theorem dX4_counted_60 : decode cX4_counted 60 = .ok (.getfield 7, 3) := by decide +kernel
theorem dX4_counted_63 : decode cX4_counted 63 = .ok (.iconst 2, 1) := by decide +kernel
theorem dX4_counted_64 : decode cX4_counted 64 = .ok (.iaload, 1) := by decide +kernel
theorem dX4_counted_65 : decode cX4_counted 65 = .ok (.ireturn, 1) := by decide +kernel
theorem dX4_counted_66 : decode cX4_counted 66 = .ok (.aload_n 0, 1) := by decide +kernel
theorem dX4_counted_67 : decode cX4_counted 67 = .ok (.getfield 7, 3) := by decide +kernel
theorem dX4_counted_70 : decode cX4_counted 70 = .ok (.iconst 1, 1) := by decide +kernel
theorem dX4_counted_71 : decode cX4_counted 71 = .ok (.iaload, 1) := by decide +kernel
theorem dX4_counted_72 : decode cX4_counted 72 = .ok (.ireturn, 1) := by decide +kernel
theorem dX4_counted_73 : decode cX4_counted 73 = .ok (.aload_n 0, 1) := by decide +kernel
theorem dX4_counted_74 : decode cX4_counted 74 = .ok (.bipush 8, 2) := by decide +kernel
theorem dX4_counted_76 : decode cX4_counted 76 = .ok (.iconst 1, 1) := by decide +kernel
theorem dX4_counted_77 : decode cX4_counted 77 = .ok (.invokevirtual 123, 3) := by decide +kernel
theorem dX4_counted_80 : decode cX4_counted 80 = .ok (.ireturn, 1) := by decide +kernel
theorem dX4_counted_81 : decode cX4_counted 81 = .ok (.aload_n 0, 1) := by decide +kernel
theorem dX4_counted_82 : decode cX4_counted 82 = .ok (.bipush 9, 2) := by decide +kernel
theorem dX4_counted_84 : decode cX4_counted 84 = .ok (.iconst 3, 1) := by decide +kernel
theorem dX4_counted_85 : decode cX4_counted 85 = .ok (.invokevirtual 123, 3) := by decide +kernel
theorem dX4_counted_88 : decode cX4_counted 88 = .ok (.ireturn, 1) := by decide +kernel
theorem dX4_counted_89 : decode cX4_counted 89 = .ok (.aload_n 0, 1) := by decide +kernel
theorem dX4_counted_90 : decode cX4_counted 90 = .ok (.bipush 9, 2) := by decide +kernel
theorem dX4_counted_92 : decode cX4_counted 92 = .ok (.iconst 5, 1) := by decide +kernel
theorem dX4_counted_93 : decode cX4_counted 93 = .ok (.invokevirtual 123, 3) := by decide +kernel
theorem dX4_counted_96 : decode cX4_counted 96 = .ok (.ireturn, 1) := by decide +kernel
theorem dX4_counted_97 : decode cX4_counted 97 = .ok (.aload_n 0, 1) := by decide +kernel
theorem dX4_counted_98 : decode cX4_counted 98 = .ok (.getfield 7, 3) := by decide +kernel
theorem dX4_counted_101 : decode cX4_counted 101 = .ok (.iconst 3, 1) := by decide +kernel
theorem dX4_counted_102 : decode cX4_counted 102 = .ok (.iaload, 1) := by decide +kernel
theorem dX4_counted_103 : decode cX4_counted 103 = .ok (.ireturn, 1) := by decide +kernel
theorem dX4_counted_104 : decode cX4_counted 104 = .ok (.aload_n 0, 1) := by decide +kernel
theorem dX4_counted_105 : decode cX4_counted 105 = .ok (.invokevirtual 191, 3) := by decide +kernel
theorem dX4_counted_108 : decode cX4_counted 108 = .ok (.ireturn, 1) := by decide +kernel
theorem dX4_counted_109 : decode cX4_counted 109 = .ok (.aload_n 0, 1) := by decide +kernel
theorem dX4_counted_110 : decode cX4_counted 110 = .ok (.getfield 101, 3) := by decide +kernel
theorem dX4_counted_113 : decode cX4_counted 113 = .ok (.ireturn, 1) := by decide +kernel
theorem dX4_counted_114 : decode cX4_counted 114 = .ok (.aload_n 0, 1) := by decide +kernel
theorem dX4_counted_115 : decode cX4_counted 115 = .ok (.invokevirtual 194, 3) := by decide +kernel
theorem dX4_counted_118 : decode cX4_counted 118 = .ok (.ifCond .eq 7, 3) := by decide +kernel
theorem dX4_counted_121 : decode cX4_counted 121 = .ok (.iconst 1, 1) := by decide +kernel
theorem dX4_counted_122 : decode cX4_counted 122 = .ok (.goto 4, 3) := by decide +kernel
theorem dX4_counted_125 : decode cX4_counted 125 = .ok (.iconst 0, 1) := by decide +kernel
theorem dX4_counted_126 : decode cX4_counted 126 = .ok (.ireturn, 1) := by decide +kernel
theorem dX4_count_0 : decode cX4_count 0 = .ok (.aload_n 0, 1) := by decide +kernel
theorem dX4_count_1 : decode cX4_count 1 = .ok (.iload_n 1, 1) := by decide +kernel
theorem dX4_count_2 : decode cX4_count 2 = .ok (.iconst 0, 1) := by decide +kernel
theorem dX4_count_3 : decode cX4_count 3 = .ok (.bipush 9, 2) := by decide +kernel
theorem dX4_count_5 : decode cX4_count 5 = .ok (.invokestatic 32, 3) := by decide +kernel
theorem dX4_count_8 : decode cX4_count 8 = .ok (.ifCond .eq 7, 3) := by decide +kernel
theorem dX4_count_11 : decode cX4_count 11 = .ok (.iconst 0, 1) := by decide +kernel
theorem dX4_count_12 : decode cX4_count 12 = .ok (.goto 4, 3) := by decide +kernel
theorem dX4_count_15 : decode cX4_count 15 = .ok (.iconst 1, 1) := by decide +kernel
theorem dX4_count_16 : decode cX4_count 16 = .ok (.putfield 28, 3) := by decide +kernel
theorem dX4_count_19 : decode cX4_count 19 = .ok (.aload_n 0, 1) := by decide +kernel
theorem dX4_count_20 : decode cX4_count 20 = .ok (.getfield 28, 3) := by decide +kernel
theorem dX4_count_23 : decode cX4_count 23 = .ok (.ifCond .le 7, 3) := by decide +kernel
theorem dX4_count_26 : decode cX4_count 26 = .ok (.iconst 0, 1) := by decide +kernel
theorem dX4_count_27 : decode cX4_count 27 = .ok (.goto 8, 3) := by decide +kernel
theorem dX4_count_30 : decode cX4_count 30 = .ok (.aload_n 0, 1) := by decide +kernel
theorem dX4_count_31 : decode cX4_count 31 = .ok (.iload_n 1, 1) := by decide +kernel
theorem dX4_count_32 : decode cX4_count 32 = .ok (.invokevirtual 197, 3) := by decide +kernel
theorem dX4_count_35 : decode cX4_count 35 = .ok (.ireturn, 1) := by decide +kernel
theorem dX4_isAllGood_0 : decode cX4_isAllGood 0 = .ok (.aload_n 0, 1) := by decide +kernel
theorem dX4_isAllGood_1 : decode cX4_isAllGood 1 = .ok (.bipush 8, 2) := by decide +kernel
theorem dX4_isAllGood_3 : decode cX4_isAllGood 3 = .ok (.iconst 1, 1) := by decide +kernel
theorem dX4_isAllGood_4 : decode cX4_isAllGood 4 = .ok (.invokevirtual 123, 3) := by decide +kernel
theorem dX4_isAllGood_7 : decode cX4_isAllGood 7 = .ok (.aload_n 0, 1) := by decide +kernel
theorem dX4_isAllGood_8 : decode cX4_isAllGood 8 = .ok (.bipush 9, 2) := by decide +kernel
theorem dX4_isAllGood_10 : decode cX4_isAllGood 10 = .ok (.iconst 3, 1) := by decide +kernel
theorem dX4_isAllGood_11 : decode cX4_isAllGood 11 = .ok (.invokevirtual 123, 3) := by decide +kernel
theorem dX4_isAllGood_14 : decode cX4_isAllGood 14 = .ok (.iconst (-1), 1) := by decide +kernel
theorem dX4_isAllGood_15 : decode cX4_isAllGood 15 = .ok (.ixor, 1) := by decide +kernel
theorem dX4_isAllGood_16 : decode cX4_isAllGood 16 = .ok (.iand, 1) := by decide +kernel
theorem dX4_isAllGood_17 : decode cX4_isAllGood 17 = .ok (.ifCond .ne 7, 3) := by decide +kernel
theorem dX4_isAllGood_20 : decode cX4_isAllGood 20 = .ok (.iconst 1, 1) := by decide +kernel
theorem dX4_isAllGood_21 : decode cX4_isAllGood 21 = .ok (.goto 4, 3) := by decide +kernel
theorem dX4_isAllGood_24 : decode cX4_isAllGood 24 = .ok (.iconst 0, 1) := by decide +kernel
theorem dX4_isAllGood_25 : decode cX4_isAllGood 25 = .ok (.ireturn, 1) := by decide +kernel
theorem dX4_isAllOff_0 : decode cX4_isAllOff 0 = .ok (.aload_n 0, 1) := by decide +kernel
theorem dX4_isAllOff_1 : decode cX4_isAllOff 1 = .ok (.bipush 9, 2) := by decide +kernel
theorem dX4_isAllOff_3 : decode cX4_isAllOff 3 = .ok (.iconst 0, 1) := by decide +kernel
theorem dX4_isAllOff_4 : decode cX4_isAllOff 4 = .ok (.invokevirtual 123, 3) := by decide +kernel
theorem dX4_isAllOff_7 : decode cX4_isAllOff 7 = .ok (.aload_n 0, 1) := by decide +kernel
theorem dX4_isAllOff_8 : decode cX4_isAllOff 8 = .ok (.invokevirtual 200, 3) := by decide +kernel
theorem dX4_isAllOff_11 : decode cX4_isAllOff 11 = .ok (.if_icmp .ne 7, 3) := by decide +kernel
theorem dX4_isAllOff_14 : decode cX4_isAllOff 14 = .ok (.iconst 1, 1) := by decide +kernel
theorem dX4_isAllOff_15 : decode cX4_isAllOff 15 = .ok (.goto 4, 3) := by decide +kernel
theorem dX4_isAllOff_18 : decode cX4_isAllOff 18 = .ok (.iconst 0, 1) := by decide +kernel
theorem dX4_isAllOff_19 : decode cX4_isAllOff 19 = .ok (.istore_n 1, 1) := by decide +kernel
theorem dX4_isAllOff_20 : decode cX4_isAllOff 20 = .ok (.iconst 0, 1) := by decide +kernel
theorem dX4_isAllOff_21 : decode cX4_isAllOff 21 = .ok (.istore_n 2, 1) := by decide +kernel
theorem dX4_isAllOff_22 : decode cX4_isAllOff 22 = .ok (.iload_n 2, 1) := by decide +kernel
theorem dX4_isAllOff_23 : decode cX4_isAllOff 23 = .ok (.aload_n 0, 1) := by decide +kernel
theorem dX4_isAllOff_24 : decode cX4_isAllOff 24 = .ok (.getfield 7, 3) := by decide +kernel
theorem dX4_isAllOff_27 : decode cX4_isAllOff 27 = .ok (.iconst 0, 1) := by decide +kernel
theorem dX4_isAllOff_28 : decode cX4_isAllOff 28 = .ok (.iaload, 1) := by decide +kernel
theorem dX4_isAllOff_29 : decode cX4_isAllOff 29 = .ok (.if_icmp .ge 27, 3) := by decide +kernel
theorem dX4_isAllOff_32 : decode cX4_isAllOff 32 = .ok (.iload_n 1, 1) := by decide +kernel
theorem dX4_isAllOff_33 : decode cX4_isAllOff 33 = .ok (.ifCond .eq 15, 3) := by decide +kernel
theorem dX4_isAllOff_36 : decode cX4_isAllOff 36 = .ok (.aload_n 0, 1) := by decide +kernel
theorem dX4_isAllOff_37 : decode cX4_isAllOff 37 = .ok (.iload_n 2, 1) := by decide +kernel
theorem dX4_isAllOff_38 : decode cX4_isAllOff 38 = .ok (.invokevirtual 69, 3) := by decide +kernel
theorem dX4_isAllOff_41 : decode cX4_isAllOff 41 = .ok (.ifCond .eq 7, 3) := by decide +kernel
theorem dX4_isAllOff_44 : decode cX4_isAllOff 44 = .ok (.iconst 1, 1) := by decide +kernel
theorem dX4_isAllOff_45 : decode cX4_isAllOff 45 = .ok (.goto 4, 3) := by decide +kernel
theorem dX4_isAllOff_48 : decode cX4_isAllOff 48 = .ok (.iconst 0, 1) := by decide +kernel
theorem dX4_isAllOff_49 : decode cX4_isAllOff 49 = .ok (.istore_n 1, 1) := by decide +kernel
theorem dX4_isAllOff_50 : decode cX4_isAllOff 50 = .ok (.iinc 2 1, 3) := by decide +kernel
theorem dX4_isAllOff_53 : decode cX4_isAllOff 53 = .ok (.goto (-31), 3) := by decide +kernel
theorem dX4_isAllOff_56 : decode cX4_isAllOff 56 = .ok (.iload_n 1, 1) := by decide +kernel
theorem dX4_isAllOff_57 : decode cX4_isAllOff 57 = .ok (.ireturn, 1) := by decide +kernel
theorem dX4_goesIn_0 : decode cX4_goesIn 0 = .ok (.aload_n 0, 1) := by decide +kernel
theorem dX4_goesIn_1 : decode cX4_goesIn 1 = .ok (.invokevirtual 185, 3) := by decide +kernel
theorem dX4_goesIn_4 : decode cX4_goesIn 4 = .ok (.iload_n 1, 1) := by decide +kernel
theorem dX4_goesIn_5 : decode cX4_goesIn 5 = .ok (.ifCond .eq 11, 3) := by decide +kernel
theorem dX4_goesIn_8 : decode cX4_goesIn 8 = .ok (.aload_n 0, 1) := by decide +kernel
theorem dX4_goesIn_9 : decode cX4_goesIn 9 = .ok (.aload_n 0, 1) := by decide +kernel
theorem dX4_goesIn_10 : decode cX4_goesIn 10 = .ok (.invokevirtual 200, 3) := by decide +kernel
theorem dX4_goesIn_13 : decode cX4_goesIn 13 = .ok (.invokevirtual 126, 3) := by decide +kernel
theorem dX4_goesIn_16 : decode cX4_goesIn 16 = .ok (.iconst 0, 1) := by decide +kernel
theorem dX4_goesIn_17 : decode cX4_goesIn 17 = .ok (.istore_n 2, 1) := by decide +kernel
theorem dX4_goesIn_18 : decode cX4_goesIn 18 = .ok (.iload_n 2, 1) := by decide +kernel
theorem dX4_goesIn_19 : decode cX4_goesIn 19 = .ok (.sipush 1000, 3) := by decide +kernel
theorem dX4_goesIn_22 : decode cX4_goesIn 22 = .ok (.if_icmp .gt 34, 3) := by decide +kernel
theorem dX4_goesIn_25 : decode cX4_goesIn 25 = .ok (.iload_n 1, 1) := by decide +kernel
theorem dX4_goesIn_26 : decode cX4_goesIn 26 = .ok (.ifCond .eq 13, 3) := by decide +kernel
theorem dX4_goesIn_29 : decode cX4_goesIn 29 = .ok (.aload_n 0, 1) := by decide +kernel
theorem dX4_goesIn_30 : decode cX4_goesIn 30 = .ok (.invokevirtual 203, 3) := by decide +kernel
theorem dX4_goesIn_33 : decode cX4_goesIn 33 = .ok (.ifCond .eq 13, 3) := by decide +kernel
theorem dX4_goesIn_36 : decode cX4_goesIn 36 = .ok (.goto 20, 3) := by decide +kernel
theorem dX4_goesIn_39 : decode cX4_goesIn 39 = .ok (.aload_n 0, 1) := by decide +kernel
theorem dX4_goesIn_40 : decode cX4_goesIn 40 = .ok (.invokevirtual 206, 3) := by decide +kernel
theorem dX4_goesIn_43 : decode cX4_goesIn 43 = .ok (.ifCond .ne 13, 3) := by decide +kernel
theorem dX4_goesIn_46 : decode cX4_goesIn 46 = .ok (.aload_n 0, 1) := by decide +kernel
theorem dX4_goesIn_47 : decode cX4_goesIn 47 = .ok (.invokevirtual 132, 3) := by decide +kernel
theorem dX4_goesIn_50 : decode cX4_goesIn 50 = .ok (.iinc 2 1, 3) := by decide +kernel
theorem dX4_goesIn_53 : decode cX4_goesIn 53 = .ok (.goto (-35), 3) := by decide +kernel
theorem dX4_goesIn_56 : decode cX4_goesIn 56 = .ok (.aload_n 0, 1) := by decide +kernel
theorem dX4_goesIn_57 : decode cX4_goesIn 57 = .ok (.invokevirtual 188, 3) := by decide +kernel
theorem dX4_goesIn_60 : decode cX4_goesIn 60 = .ok (.iload_n 2, 1) := by decide +kernel
theorem dX4_goesIn_61 : decode cX4_goesIn 61 = .ok (.sipush 1000, 3) := by decide +kernel
theorem dX4_goesIn_64 : decode cX4_goesIn 64 = .ok (.if_icmp .le 7, 3) := by decide +kernel
theorem dX4_goesIn_67 : decode cX4_goesIn 67 = .ok (.iconst (-1), 1) := by decide +kernel
theorem dX4_goesIn_68 : decode cX4_goesIn 68 = .ok (.goto 4, 3) := by decide +kernel
theorem dX4_goesIn_71 : decode cX4_goesIn 71 = .ok (.iload_n 2, 1) := by decide +kernel
theorem dX4_goesIn_72 : decode cX4_goesIn 72 = .ok (.ireturn, 1) := by decide +kernel
theorem dX4_allGoodIn_0 : decode cX4_allGoodIn 0 = .ok (.aload_n 0, 1) := by decide +kernel
theorem dX4_allGoodIn_1 : decode cX4_allGoodIn 1 = .ok (.iconst 0, 1) := by decide +kernel
theorem dX4_allGoodIn_2 : decode cX4_allGoodIn 2 = .ok (.putfield 28, 3) := by decide +kernel
theorem dX4_allGoodIn_5 : decode cX4_allGoodIn 5 = .ok (.aload_n 0, 1) := by decide +kernel
theorem dX4_allGoodIn_6 : decode cX4_allGoodIn 6 = .ok (.iconst 0, 1) := by decide +kernel
theorem dX4_allGoodIn_7 : decode cX4_allGoodIn 7 = .ok (.invokevirtual 209, 3) := by decide +kernel
theorem dX4_allGoodIn_10 : decode cX4_allGoodIn 10 = .ok (.ireturn, 1) := by decide +kernel
theorem dX4_allOffIn_0 : decode cX4_allOffIn 0 = .ok (.aload_n 0, 1) := by decide +kernel
theorem dX4_allOffIn_1 : decode cX4_allOffIn 1 = .ok (.iconst 0, 1) := by decide +kernel
theorem dX4_allOffIn_2 : decode cX4_allOffIn 2 = .ok (.putfield 28, 3) := by decide +kernel
theorem dX4_allOffIn_5 : decode cX4_allOffIn 5 = .ok (.aload_n 0, 1) := by decide +kernel
theorem dX4_allOffIn_6 : decode cX4_allOffIn 6 = .ok (.iconst 1, 1) := by decide +kernel
theorem dX4_allOffIn_7 : decode cX4_allOffIn 7 = .ok (.invokevirtual 209, 3) := by decide +kernel
theorem dX4_allOffIn_10 : decode cX4_allOffIn 10 = .ok (.ireturn, 1) := by decide +kernel
theorem dX4_shortAnswer_0 : decode cX4_shortAnswer 0 = .ok (.aload_n 0, 1) := by decide +kernel
theorem dX4_shortAnswer_1 : decode cX4_shortAnswer 1 = .ok (.invokevirtual 185, 3) := by decide +kernel
theorem dX4_shortAnswer_4 : decode cX4_shortAnswer 4 = .ok (.aload_n 0, 1) := by decide +kernel
theorem dX4_shortAnswer_5 : decode cX4_shortAnswer 5 = .ok (.iload_n 1, 1) := by decide +kernel
theorem dX4_shortAnswer_6 : decode cX4_shortAnswer 6 = .ok (.bipush 12, 2) := by decide +kernel
theorem dX4_shortAnswer_8 : decode cX4_shortAnswer 8 = .ok (.iload_n 2, 1) := by decide +kernel
theorem dX4_shortAnswer_9 : decode cX4_shortAnswer 9 = .ok (.invokevirtual 40, 3) := by decide +kernel
theorem dX4_shortAnswer_12 : decode cX4_shortAnswer 12 = .ok (.aload_n 0, 1) := by decide +kernel
theorem dX4_shortAnswer_13 : decode cX4_shortAnswer 13 = .ok (.iconst 0, 1) := by decide +kernel
theorem dX4_shortAnswer_14 : decode cX4_shortAnswer 14 = .ok (.putfield 47, 3) := by decide +kernel
theorem dX4_shortAnswer_17 : decode cX4_shortAnswer 17 = .ok (.iconst 0, 1) := by decide +kernel
theorem dX4_shortAnswer_18 : decode cX4_shortAnswer 18 = .ok (.istore 4, 2) := by decide +kernel
theorem dX4_shortAnswer_20 : decode cX4_shortAnswer 20 = .ok (.iload 4, 2) := by decide +kernel
theorem dX4_shortAnswer_22 : decode cX4_shortAnswer 22 = .ok (.bipush 100, 2) := by decide +kernel
theorem dX4_shortAnswer_24 : decode cX4_shortAnswer 24 = .ok (.if_icmp .ge 13, 3) := by decide +kernel
theorem dX4_shortAnswer_27 : decode cX4_shortAnswer 27 = .ok (.aload_n 0, 1) := by decide +kernel
theorem dX4_shortAnswer_28 : decode cX4_shortAnswer 28 = .ok (.invokevirtual 132, 3) := by decide +kernel
theorem dX4_shortAnswer_31 : decode cX4_shortAnswer 31 = .ok (.iinc 4 1, 3) := by decide +kernel
theorem dX4_shortAnswer_34 : decode cX4_shortAnswer 34 = .ok (.goto (-14), 3) := by decide +kernel
theorem dX4_shortAnswer_37 : decode cX4_shortAnswer 37 = .ok (.iload_n 3, 1) := by decide +kernel
theorem dX4_shortAnswer_38 : decode cX4_shortAnswer 38 = .ok (.ifCond .ne 10, 3) := by decide +kernel
theorem dX4_shortAnswer_41 : decode cX4_shortAnswer 41 = .ok (.aload_n 0, 1) := by decide +kernel
theorem dX4_shortAnswer_42 : decode cX4_shortAnswer 42 = .ok (.getfield 47, 3) := by decide +kernel
theorem dX4_shortAnswer_45 : decode cX4_shortAnswer 45 = .ok (.goto 19, 3) := by decide +kernel
theorem dX4_shortAnswer_48 : decode cX4_shortAnswer 48 = .ok (.aload_n 0, 1) := by decide +kernel
theorem dX4_shortAnswer_49 : decode cX4_shortAnswer 49 = .ok (.bipush 9, 2) := by decide +kernel
theorem dX4_shortAnswer_51 : decode cX4_shortAnswer 51 = .ok (.iload_n 3, 1) := by decide +kernel
theorem dX4_shortAnswer_52 : decode cX4_shortAnswer 52 = .ok (.iconst 1, 1) := by decide +kernel
theorem dX4_shortAnswer_53 : decode cX4_shortAnswer 53 = .ok (.if_icmp .ne 7, 3) := by decide +kernel
theorem dX4_shortAnswer_56 : decode cX4_shortAnswer 56 = .ok (.iconst 3, 1) := by decide +kernel
theorem dX4_shortAnswer_57 : decode cX4_shortAnswer 57 = .ok (.goto 4, 3) := by decide +kernel
theorem dX4_shortAnswer_60 : decode cX4_shortAnswer 60 = .ok (.iconst 5, 1) := by decide +kernel
theorem dX4_shortAnswer_61 : decode cX4_shortAnswer 61 = .ok (.invokevirtual 123, 3) := by decide +kernel
theorem dX4_shortAnswer_64 : decode cX4_shortAnswer 64 = .ok (.istore 4, 2) := by decide +kernel
theorem dX4_shortAnswer_66 : decode cX4_shortAnswer 66 = .ok (.aload_n 0, 1) := by decide +kernel
theorem dX4_shortAnswer_67 : decode cX4_shortAnswer 67 = .ok (.invokevirtual 188, 3) := by decide +kernel
theorem dX4_shortAnswer_70 : decode cX4_shortAnswer 70 = .ok (.iload 4, 2) := by decide +kernel
theorem dX4_shortAnswer_72 : decode cX4_shortAnswer 72 = .ok (.ireturn, 1) := by decide +kernel
theorem dX4_ifShort_0 : decode cX4_ifShort 0 = .ok (.aload_n 0, 1) := by decide +kernel
theorem dX4_ifShort_1 : decode cX4_ifShort 1 = .ok (.aload_n 0, 1) := by decide +kernel
theorem dX4_ifShort_2 : decode cX4_ifShort 2 = .ok (.iload_n 1, 1) := by decide +kernel
theorem dX4_ifShort_3 : decode cX4_ifShort 3 = .ok (.invokevirtual 117, 3) := by decide +kernel
theorem dX4_ifShort_6 : decode cX4_ifShort 6 = .ok (.ifCond .ne 7, 3) := by decide +kernel
theorem dX4_ifShort_9 : decode cX4_ifShort 9 = .ok (.iconst 1, 1) := by decide +kernel
theorem dX4_ifShort_10 : decode cX4_ifShort 10 = .ok (.goto 28, 3) := by decide +kernel
theorem dX4_ifShort_13 : decode cX4_ifShort 13 = .ok (.iload_n 2, 1) := by decide +kernel
theorem dX4_ifShort_14 : decode cX4_ifShort 14 = .ok (.iconst 1, 1) := by decide +kernel
theorem dX4_ifShort_15 : decode cX4_ifShort 15 = .ok (.sipush 500, 3) := by decide +kernel
theorem dX4_ifShort_18 : decode cX4_ifShort 18 = .ok (.invokestatic 32, 3) := by decide +kernel
theorem dX4_ifShort_21 : decode cX4_ifShort 21 = .ok (.ifCond .eq 16, 3) := by decide +kernel
theorem dX4_ifShort_24 : decode cX4_ifShort 24 = .ok (.iload_n 3, 1) := by decide +kernel
theorem dX4_ifShort_25 : decode cX4_ifShort 25 = .ok (.iconst 0, 1) := by decide +kernel
theorem dX4_ifShort_26 : decode cX4_ifShort 26 = .ok (.iconst 2, 1) := by decide +kernel
theorem dX4_ifShort_27 : decode cX4_ifShort 27 = .ok (.invokestatic 32, 3) := by decide +kernel
theorem dX4_ifShort_30 : decode cX4_ifShort 30 = .ok (.ifCond .eq 7, 3) := by decide +kernel
theorem dX4_ifShort_33 : decode cX4_ifShort 33 = .ok (.iconst 0, 1) := by decide +kernel
theorem dX4_ifShort_34 : decode cX4_ifShort 34 = .ok (.goto 4, 3) := by decide +kernel
theorem dX4_ifShort_37 : decode cX4_ifShort 37 = .ok (.iconst 2, 1) := by decide +kernel
theorem dX4_ifShort_38 : decode cX4_ifShort 38 = .ok (.putfield 28, 3) := by decide +kernel
theorem dX4_ifShort_41 : decode cX4_ifShort 41 = .ok (.aload_n 0, 1) := by decide +kernel
theorem dX4_ifShort_42 : decode cX4_ifShort 42 = .ok (.getfield 28, 3) := by decide +kernel
theorem dX4_ifShort_45 : decode cX4_ifShort 45 = .ok (.ifCond .le 7, 3) := by decide +kernel
theorem dX4_ifShort_48 : decode cX4_ifShort 48 = .ok (.iconst 0, 1) := by decide +kernel
theorem dX4_ifShort_49 : decode cX4_ifShort 49 = .ok (.goto 10, 3) := by decide +kernel
theorem dX4_ifShort_52 : decode cX4_ifShort 52 = .ok (.aload_n 0, 1) := by decide +kernel
theorem dX4_ifShort_53 : decode cX4_ifShort 53 = .ok (.iload_n 1, 1) := by decide +kernel
theorem dX4_ifShort_54 : decode cX4_ifShort 54 = .ok (.iload_n 2, 1) := by decide +kernel
theorem dX4_ifShort_55 : decode cX4_ifShort 55 = .ok (.iload_n 3, 1) := by decide +kernel
theorem dX4_ifShort_56 : decode cX4_ifShort 56 = .ok (.invokevirtual 213, 3) := by decide +kernel
theorem dX4_ifShort_59 : decode cX4_ifShort 59 = .ok (.ireturn, 1) := by decide +kernel
theorem dX4_patienceFor_0 : decode cX4_patienceFor 0 = .ok (.iconst 0, 1) := by decide +kernel
theorem dX4_patienceFor_1 : decode cX4_patienceFor 1 = .ok (.istore_n 2, 1) := by decide +kernel
theorem dX4_patienceFor_2 : decode cX4_patienceFor 2 = .ok (.iconst 1, 1) := by decide +kernel
theorem dX4_patienceFor_3 : decode cX4_patienceFor 3 = .ok (.istore_n 3, 1) := by decide +kernel
theorem dX4_patienceFor_4 : decode cX4_patienceFor 4 = .ok (.iload_n 3, 1) := by decide +kernel
theorem dX4_patienceFor_5 : decode cX4_patienceFor 5 = .ok (.sipush 200, 3) := by decide +kernel
theorem dX4_patienceFor_8 : decode cX4_patienceFor 8 = .ok (.if_icmp .gt 48, 3) := by decide +kernel
theorem dX4_patienceFor_11 : decode cX4_patienceFor 11 = .ok (.iload_n 2, 1) := by decide +kernel
theorem dX4_patienceFor_12 : decode cX4_patienceFor 12 = .ok (.aload_n 0, 1) := by decide +kernel
theorem dX4_patienceFor_13 : decode cX4_patienceFor 13 = .ok (.iload_n 1, 1) := by decide +kernel
theorem dX4_patienceFor_14 : decode cX4_patienceFor 14 = .ok (.iconst 0, 1) := by decide +kernel
theorem dX4_patienceFor_15 : decode cX4_patienceFor 15 = .ok (.invokevirtual 36, 3) := by decide +kernel
theorem dX4_patienceFor_18 : decode cX4_patienceFor 18 = .ok (.aload_n 0, 1) := by decide +kernel
theorem dX4_patienceFor_19 : decode cX4_patienceFor 19 = .ok (.iload_n 1, 1) := by decide +kernel
theorem dX4_patienceFor_20 : decode cX4_patienceFor 20 = .ok (.iconst 1, 1) := by decide +kernel
theorem dX4_patienceFor_21 : decode cX4_patienceFor 21 = .ok (.invokevirtual 36, 3) := by decide +kernel
theorem dX4_patienceFor_24 : decode cX4_patienceFor 24 = .ok (.invokestatic 57, 3) := by decide +kernel
theorem dX4_patienceFor_27 : decode cX4_patienceFor 27 = .ok (.istore_n 2, 1) := by decide +kernel
theorem dX4_patienceFor_28 : decode cX4_patienceFor 28 = .ok (.iload_n 2, 1) := by decide +kernel
theorem dX4_patienceFor_29 : decode cX4_patienceFor 29 = .ok (.bipush 100, 2) := by decide +kernel
theorem dX4_patienceFor_31 : decode cX4_patienceFor 31 = .ok (.imul, 1) := by decide +kernel
theorem dX4_patienceFor_32 : decode cX4_patienceFor 32 = .ok (.aload_n 0, 1) := by decide +kernel
theorem dX4_patienceFor_33 : decode cX4_patienceFor 33 = .ok (.iload_n 1, 1) := by decide +kernel
theorem dX4_patienceFor_34 : decode cX4_patienceFor 34 = .ok (.iconst 0, 1) := by decide +kernel
theorem dX4_patienceFor_35 : decode cX4_patienceFor 35 = .ok (.invokevirtual 36, 3) := by decide +kernel
theorem dX4_patienceFor_38 : decode cX4_patienceFor 38 = .ok (.aload_n 0, 1) := by decide +kernel
theorem dX4_patienceFor_39 : decode cX4_patienceFor 39 = .ok (.iload_n 1, 1) := by decide +kernel
theorem dX4_patienceFor_40 : decode cX4_patienceFor 40 = .ok (.iconst 3, 1) := by decide +kernel
theorem dX4_patienceFor_41 : decode cX4_patienceFor 41 = .ok (.invokevirtual 36, 3) := by decide +kernel
theorem dX4_patienceFor_44 : decode cX4_patienceFor 44 = .ok (.imul, 1) := by decide +kernel
theorem dX4_patienceFor_45 : decode cX4_patienceFor 45 = .ok (.if_icmp .lt 5, 3) := by decide +kernel
theorem dX4_patienceFor_48 : decode cX4_patienceFor 48 = .ok (.iload_n 3, 1) := by decide +kernel
theorem dX4_patienceFor_49 : decode cX4_patienceFor 49 = .ok (.ireturn, 1) := by decide +kernel
theorem dX4_patienceFor_50 : decode cX4_patienceFor 50 = .ok (.iinc 3 1, 3) := by decide +kernel
theorem dX4_patienceFor_53 : decode cX4_patienceFor 53 = .ok (.goto (-49), 3) := by decide +kernel
theorem dX4_patienceFor_56 : decode cX4_patienceFor 56 = .ok (.iconst (-1), 1) := by decide +kernel
theorem dX4_patienceFor_57 : decode cX4_patienceFor 57 = .ok (.ireturn, 1) := by decide +kernel
theorem dX4_leastPatience_0 : decode cX4_leastPatience 0 = .ok (.aload_n 0, 1) := by decide +kernel
theorem dX4_leastPatience_1 : decode cX4_leastPatience 1 = .ok (.aload_n 0, 1) := by decide +kernel
theorem dX4_leastPatience_2 : decode cX4_leastPatience 2 = .ok (.iload_n 1, 1) := by decide +kernel
theorem dX4_leastPatience_3 : decode cX4_leastPatience 3 = .ok (.invokevirtual 117, 3) := by decide +kernel
theorem dX4_leastPatience_6 : decode cX4_leastPatience 6 = .ok (.ifCond .eq 7, 3) := by decide +kernel
theorem dX4_leastPatience_9 : decode cX4_leastPatience 9 = .ok (.iconst 0, 1) := by decide +kernel
theorem dX4_leastPatience_10 : decode cX4_leastPatience 10 = .ok (.goto 4, 3) := by decide +kernel
theorem dX4_leastPatience_13 : decode cX4_leastPatience 13 = .ok (.iconst 1, 1) := by decide +kernel
theorem dX4_leastPatience_14 : decode cX4_leastPatience 14 = .ok (.putfield 28, 3) := by decide +kernel
theorem dX4_leastPatience_17 : decode cX4_leastPatience 17 = .ok (.aload_n 0, 1) := by decide +kernel
theorem dX4_leastPatience_18 : decode cX4_leastPatience 18 = .ok (.getfield 28, 3) := by decide +kernel
theorem dX4_leastPatience_21 : decode cX4_leastPatience 21 = .ok (.ifCond .le 7, 3) := by decide +kernel
theorem dX4_leastPatience_24 : decode cX4_leastPatience 24 = .ok (.iconst 0, 1) := by decide +kernel
theorem dX4_leastPatience_25 : decode cX4_leastPatience 25 = .ok (.goto 8, 3) := by decide +kernel
theorem dX4_leastPatience_28 : decode cX4_leastPatience 28 = .ok (.aload_n 0, 1) := by decide +kernel
theorem dX4_leastPatience_29 : decode cX4_leastPatience 29 = .ok (.iload_n 1, 1) := by decide +kernel
theorem dX4_leastPatience_30 : decode cX4_leastPatience 30 = .ok (.invokevirtual 216, 3) := by decide +kernel
theorem dX4_leastPatience_33 : decode cX4_leastPatience 33 = .ok (.ireturn, 1) := by decide +kernel
theorem dX4_shareNow_0 : decode cX4_shareNow 0 = .ok (.iconst 0, 1) := by decide +kernel
theorem dX4_shareNow_1 : decode cX4_shareNow 1 = .ok (.istore_n 1, 1) := by decide +kernel
theorem dX4_shareNow_2 : decode cX4_shareNow 2 = .ok (.iconst 0, 1) := by decide +kernel
theorem dX4_shareNow_3 : decode cX4_shareNow 3 = .ok (.istore_n 2, 1) := by decide +kernel
theorem dX4_shareNow_4 : decode cX4_shareNow 4 = .ok (.iload_n 2, 1) := by decide +kernel
theorem dX4_shareNow_5 : decode cX4_shareNow 5 = .ok (.aload_n 0, 1) := by decide +kernel
theorem dX4_shareNow_6 : decode cX4_shareNow 6 = .ok (.getfield 7, 3) := by decide +kernel
theorem dX4_shareNow_9 : decode cX4_shareNow 9 = .ok (.iconst 0, 1) := by decide +kernel
theorem dX4_shareNow_10 : decode cX4_shareNow 10 = .ok (.iaload, 1) := by decide +kernel
theorem dX4_shareNow_11 : decode cX4_shareNow 11 = .ok (.if_icmp .ge 19, 3) := by decide +kernel
theorem dX4_shareNow_14 : decode cX4_shareNow 14 = .ok (.iload_n 1, 1) := by decide +kernel
theorem dX4_shareNow_15 : decode cX4_shareNow 15 = .ok (.aload_n 0, 1) := by decide +kernel
theorem dX4_shareNow_16 : decode cX4_shareNow 16 = .ok (.iload_n 2, 1) := by decide +kernel
theorem dX4_shareNow_17 : decode cX4_shareNow 17 = .ok (.bipush 19, 2) := by decide +kernel
theorem dX4_shareNow_19 : decode cX4_shareNow 19 = .ok (.invokevirtual 36, 3) := by decide +kernel
theorem dX4_shareNow_22 : decode cX4_shareNow 22 = .ok (.iadd, 1) := by decide +kernel
theorem dX4_shareNow_23 : decode cX4_shareNow 23 = .ok (.istore_n 1, 1) := by decide +kernel
theorem dX4_shareNow_24 : decode cX4_shareNow 24 = .ok (.iinc 2 1, 3) := by decide +kernel
theorem dX4_shareNow_27 : decode cX4_shareNow 27 = .ok (.goto (-23), 3) := by decide +kernel
theorem dX4_shareNow_30 : decode cX4_shareNow 30 = .ok (.aload_n 0, 1) := by decide +kernel
theorem dX4_shareNow_31 : decode cX4_shareNow 31 = .ok (.getfield 7, 3) := by decide +kernel
theorem dX4_shareNow_34 : decode cX4_shareNow 34 = .ok (.iconst 2, 1) := by decide +kernel
theorem dX4_shareNow_35 : decode cX4_shareNow 35 = .ok (.iaload, 1) := by decide +kernel
theorem dX4_shareNow_36 : decode cX4_shareNow 36 = .ok (.aload_n 0, 1) := by decide +kernel
theorem dX4_shareNow_37 : decode cX4_shareNow 37 = .ok (.getfield 7, 3) := by decide +kernel
theorem dX4_shareNow_40 : decode cX4_shareNow 40 = .ok (.iconst 0, 1) := by decide +kernel
theorem dX4_shareNow_41 : decode cX4_shareNow 41 = .ok (.iaload, 1) := by decide +kernel
theorem dX4_shareNow_42 : decode cX4_shareNow 42 = .ok (.imul, 1) := by decide +kernel
theorem dX4_shareNow_43 : decode cX4_shareNow 43 = .ok (.istore_n 2, 1) := by decide +kernel
theorem dX4_shareNow_44 : decode cX4_shareNow 44 = .ok (.iload_n 2, 1) := by decide +kernel
theorem dX4_shareNow_45 : decode cX4_shareNow 45 = .ok (.ifCond .ne 7, 3) := by decide +kernel
theorem dX4_shareNow_48 : decode cX4_shareNow 48 = .ok (.dconst 0, 1) := by decide +kernel
theorem dX4_shareNow_49 : decode cX4_shareNow 49 = .ok (.goto 10, 3) := by decide +kernel
theorem dX4_shareNow_52 : decode cX4_shareNow 52 = .ok (.dconst 1, 1) := by decide +kernel
theorem dX4_shareNow_53 : decode cX4_shareNow 53 = .ok (.iload_n 1, 1) := by decide +kernel
theorem dX4_shareNow_54 : decode cX4_shareNow 54 = .ok (.i2d, 1) := by decide +kernel
theorem dX4_shareNow_55 : decode cX4_shareNow 55 = .ok (.dmul, 1) := by decide +kernel
theorem dX4_shareNow_56 : decode cX4_shareNow 56 = .ok (.iload_n 2, 1) := by decide +kernel
theorem dX4_shareNow_57 : decode cX4_shareNow 57 = .ok (.i2d, 1) := by decide +kernel
theorem dX4_shareNow_58 : decode cX4_shareNow 58 = .ok (.ddiv, 1) := by decide +kernel
theorem dX4_shareNow_59 : decode cX4_shareNow 59 = .ok (.dreturn, 1) := by decide +kernel
theorem dX4_goodShare_0 : decode cX4_goodShare 0 = .ok (.aload_n 0, 1) := by decide +kernel
theorem dX4_goodShare_1 : decode cX4_goodShare 1 = .ok (.iconst 0, 1) := by decide +kernel
theorem dX4_goodShare_2 : decode cX4_goodShare 2 = .ok (.putfield 28, 3) := by decide +kernel
theorem dX4_goodShare_5 : decode cX4_goodShare 5 = .ok (.aload_n 0, 1) := by decide +kernel
theorem dX4_goodShare_6 : decode cX4_goodShare 6 = .ok (.invokevirtual 219, 3) := by decide +kernel
theorem dX4_goodShare_9 : decode cX4_goodShare 9 = .ok (.dreturn, 1) := by decide +kernel
theorem dX4_mix_0 : decode cX4_mix 0 = .ok (.aload_n 0, 1) := by decide +kernel
theorem dX4_mix_1 : decode cX4_mix 1 = .ok (.ldc2_w 223, 3) := by decide +kernel
theorem dX4_mix_4 : decode cX4_mix 4 = .ok (.aload_n 0, 1) := by decide +kernel
theorem dX4_mix_5 : decode cX4_mix 5 = .ok (.getfield 225, 3) := by decide +kernel
theorem dX4_mix_8 : decode cX4_mix 8 = .ok (.lmul, 1) := by decide +kernel
theorem dX4_mix_9 : decode cX4_mix 9 = .ok (.lload_n 1, 1) := by decide +kernel
theorem dX4_mix_10 : decode cX4_mix 10 = .ok (.ladd, 1) := by decide +kernel
theorem dX4_mix_11 : decode cX4_mix 11 = .ok (.putfield 225, 3) := by decide +kernel
theorem dX4_mix_14 : decode cX4_mix 14 = .ok (.return_, 1) := by decide +kernel
theorem dX4_mixRail_0 : decode cX4_mixRail 0 = .ok (.iconst 0, 1) := by decide +kernel
theorem dX4_mixRail_1 : decode cX4_mixRail 1 = .ok (.istore_n 2, 1) := by decide +kernel
theorem dX4_mixRail_2 : decode cX4_mixRail 2 = .ok (.iload_n 2, 1) := by decide +kernel
theorem dX4_mixRail_3 : decode cX4_mixRail 3 = .ok (.bipush 19, 2) := by decide +kernel
theorem dX4_mixRail_5 : decode cX4_mixRail 5 = .ok (.if_icmp .ge 20, 3) := by decide +kernel
theorem dX4_mixRail_8 : decode cX4_mixRail 8 = .ok (.aload_n 0, 1) := by decide +kernel
theorem dX4_mixRail_9 : decode cX4_mixRail 9 = .ok (.aload_n 0, 1) := by decide +kernel
theorem dX4_mixRail_10 : decode cX4_mixRail 10 = .ok (.iload_n 1, 1) := by decide +kernel
theorem dX4_mixRail_11 : decode cX4_mixRail 11 = .ok (.iload_n 2, 1) := by decide +kernel
theorem dX4_mixRail_12 : decode cX4_mixRail 12 = .ok (.invokevirtual 179, 3) := by decide +kernel
theorem dX4_mixRail_15 : decode cX4_mixRail 15 = .ok (.i2l, 1) := by decide +kernel
theorem dX4_mixRail_16 : decode cX4_mixRail 16 = .ok (.invokevirtual 229, 3) := by decide +kernel
theorem dX4_mixRail_19 : decode cX4_mixRail 19 = .ok (.iinc 2 1, 3) := by decide +kernel
theorem dX4_mixRail_22 : decode cX4_mixRail 22 = .ok (.goto (-20), 3) := by decide +kernel
theorem dX4_mixRail_25 : decode cX4_mixRail 25 = .ok (.iconst 0, 1) := by decide +kernel
theorem dX4_mixRail_26 : decode cX4_mixRail 26 = .ok (.istore_n 2, 1) := by decide +kernel
theorem dX4_mixRail_27 : decode cX4_mixRail 27 = .ok (.iload_n 2, 1) := by decide +kernel
theorem dX4_mixRail_28 : decode cX4_mixRail 28 = .ok (.iconst 4, 1) := by decide +kernel
theorem dX4_mixRail_29 : decode cX4_mixRail 29 = .ok (.if_icmp .ge 23, 3) := by decide +kernel
theorem dX4_mixRail_32 : decode cX4_mixRail 32 = .ok (.aload_n 0, 1) := by decide +kernel
theorem dX4_mixRail_33 : decode cX4_mixRail 33 = .ok (.aload_n 0, 1) := by decide +kernel
theorem dX4_mixRail_34 : decode cX4_mixRail 34 = .ok (.iload_n 1, 1) := by decide +kernel
theorem dX4_mixRail_35 : decode cX4_mixRail 35 = .ok (.bipush 16, 2) := by decide +kernel
theorem dX4_mixRail_37 : decode cX4_mixRail 37 = .ok (.iload_n 2, 1) := by decide +kernel
theorem dX4_mixRail_38 : decode cX4_mixRail 38 = .ok (.iadd, 1) := by decide +kernel
theorem dX4_mixRail_39 : decode cX4_mixRail 39 = .ok (.invokevirtual 36, 3) := by decide +kernel
theorem dX4_mixRail_42 : decode cX4_mixRail 42 = .ok (.i2l, 1) := by decide +kernel
theorem dX4_mixRail_43 : decode cX4_mixRail 43 = .ok (.invokevirtual 229, 3) := by decide +kernel
theorem dX4_mixRail_46 : decode cX4_mixRail 46 = .ok (.iinc 2 1, 3) := by decide +kernel
theorem dX4_mixRail_49 : decode cX4_mixRail 49 = .ok (.goto (-22), 3) := by decide +kernel
theorem dX4_mixRail_52 : decode cX4_mixRail 52 = .ok (.aload_n 0, 1) := by decide +kernel
theorem dX4_mixRail_53 : decode cX4_mixRail 53 = .ok (.aload_n 0, 1) := by decide +kernel
theorem dX4_mixRail_54 : decode cX4_mixRail 54 = .ok (.iload_n 1, 1) := by decide +kernel
theorem dX4_mixRail_55 : decode cX4_mixRail 55 = .ok (.invokevirtual 216, 3) := by decide +kernel
theorem dX4_mixRail_58 : decode cX4_mixRail 58 = .ok (.i2l, 1) := by decide +kernel
theorem dX4_mixRail_59 : decode cX4_mixRail 59 = .ok (.invokevirtual 229, 3) := by decide +kernel
theorem dX4_mixRail_62 : decode cX4_mixRail 62 = .ok (.return_, 1) := by decide +kernel
theorem dX4_digest_0 : decode cX4_digest 0 = .ok (.aload_n 0, 1) := by decide +kernel
theorem dX4_digest_1 : decode cX4_digest 1 = .ok (.iconst 0, 1) := by decide +kernel
theorem dX4_digest_2 : decode cX4_digest 2 = .ok (.putfield 28, 3) := by decide +kernel
theorem dX4_digest_5 : decode cX4_digest 5 = .ok (.aload_n 0, 1) := by decide +kernel
theorem dX4_digest_6 : decode cX4_digest 6 = .ok (.ldc2_w 233, 3) := by decide +kernel
theorem dX4_digest_9 : decode cX4_digest 9 = .ok (.putfield 225, 3) := by decide +kernel
theorem dX4_digest_12 : decode cX4_digest 12 = .ok (.iconst 0, 1) := by decide +kernel
theorem dX4_digest_13 : decode cX4_digest 13 = .ok (.istore_n 1, 1) := by decide +kernel
theorem dX4_digest_14 : decode cX4_digest 14 = .ok (.iload_n 1, 1) := by decide +kernel
theorem dX4_digest_15 : decode cX4_digest 15 = .ok (.bipush 10, 2) := by decide +kernel
theorem dX4_digest_17 : decode cX4_digest 17 = .ok (.if_icmp .ge 19, 3) := by decide +kernel
theorem dX4_digest_20 : decode cX4_digest 20 = .ok (.aload_n 0, 1) := by decide +kernel
theorem dX4_digest_21 : decode cX4_digest 21 = .ok (.aload_n 0, 1) := by decide +kernel
theorem dX4_digest_22 : decode cX4_digest 22 = .ok (.iload_n 1, 1) := by decide +kernel
theorem dX4_digest_23 : decode cX4_digest 23 = .ok (.invokevirtual 197, 3) := by decide +kernel
theorem dX4_digest_26 : decode cX4_digest 26 = .ok (.i2l, 1) := by decide +kernel
theorem dX4_digest_27 : decode cX4_digest 27 = .ok (.invokevirtual 229, 3) := by decide +kernel
theorem dX4_digest_30 : decode cX4_digest 30 = .ok (.iinc 1 1, 3) := by decide +kernel
theorem dX4_digest_33 : decode cX4_digest 33 = .ok (.goto (-19), 3) := by decide +kernel
theorem dX4_digest_36 : decode cX4_digest 36 = .ok (.iconst 0, 1) := by decide +kernel
theorem dX4_digest_37 : decode cX4_digest 37 = .ok (.istore_n 1, 1) := by decide +kernel
theorem dX4_digest_38 : decode cX4_digest 38 = .ok (.iload_n 1, 1) := by decide +kernel
theorem dX4_digest_39 : decode cX4_digest 39 = .ok (.aload_n 0, 1) := by decide +kernel
theorem dX4_digest_40 : decode cX4_digest 40 = .ok (.getfield 7, 3) := by decide +kernel
theorem dX4_digest_43 : decode cX4_digest 43 = .ok (.iconst 0, 1) := by decide +kernel
theorem dX4_digest_44 : decode cX4_digest 44 = .ok (.iaload, 1) := by decide +kernel
theorem dX4_digest_45 : decode cX4_digest 45 = .ok (.if_icmp .ge 14, 3) := by decide +kernel
theorem dX4_digest_48 : decode cX4_digest 48 = .ok (.aload_n 0, 1) := by decide +kernel
theorem dX4_digest_49 : decode cX4_digest 49 = .ok (.iload_n 1, 1) := by decide +kernel
theorem dX4_digest_50 : decode cX4_digest 50 = .ok (.invokevirtual 235, 3) := by decide +kernel
theorem dX4_digest_53 : decode cX4_digest 53 = .ok (.iinc 1 1, 3) := by decide +kernel
theorem dX4_digest_56 : decode cX4_digest 56 = .ok (.goto (-18), 3) := by decide +kernel
theorem dX4_digest_59 : decode cX4_digest 59 = .ok (.iconst 0, 1) := by decide +kernel
theorem dX4_digest_60 : decode cX4_digest 60 = .ok (.istore_n 1, 1) := by decide +kernel
theorem dX4_digest_61 : decode cX4_digest 61 = .ok (.iload_n 1, 1) := by decide +kernel
theorem dX4_digest_62 : decode cX4_digest 62 = .ok (.iconst 4, 1) := by decide +kernel
theorem dX4_digest_63 : decode cX4_digest 63 = .ok (.aload_n 0, 1) := by decide +kernel
theorem dX4_digest_64 : decode cX4_digest 64 = .ok (.getfield 7, 3) := by decide +kernel
theorem dX4_digest_67 : decode cX4_digest 67 = .ok (.iconst 3, 1) := by decide +kernel
theorem dX4_digest_68 : decode cX4_digest 68 = .ok (.iaload, 1) := by decide +kernel
theorem dX4_digest_69 : decode cX4_digest 69 = .ok (.imul, 1) := by decide +kernel
theorem dX4_digest_70 : decode cX4_digest 70 = .ok (.if_icmp .ge 24, 3) := by decide +kernel
theorem dX4_digest_73 : decode cX4_digest 73 = .ok (.aload_n 0, 1) := by decide +kernel
theorem dX4_digest_74 : decode cX4_digest 74 = .ok (.aload_n 0, 1) := by decide +kernel
theorem dX4_digest_75 : decode cX4_digest 75 = .ok (.iload_n 1, 1) := by decide +kernel
theorem dX4_digest_76 : decode cX4_digest 76 = .ok (.iconst 4, 1) := by decide +kernel
theorem dX4_digest_77 : decode cX4_digest 77 = .ok (.idiv, 1) := by decide +kernel
theorem dX4_digest_78 : decode cX4_digest 78 = .ok (.iload_n 1, 1) := by decide +kernel
theorem dX4_digest_79 : decode cX4_digest 79 = .ok (.iconst 4, 1) := by decide +kernel
theorem dX4_digest_80 : decode cX4_digest 80 = .ok (.irem, 1) := by decide +kernel
theorem dX4_digest_81 : decode cX4_digest 81 = .ok (.invokevirtual 182, 3) := by decide +kernel
theorem dX4_digest_84 : decode cX4_digest 84 = .ok (.i2l, 1) := by decide +kernel
theorem dX4_digest_85 : decode cX4_digest 85 = .ok (.invokevirtual 229, 3) := by decide +kernel
theorem dX4_digest_88 : decode cX4_digest 88 = .ok (.iinc 1 1, 3) := by decide +kernel
theorem dX4_digest_91 : decode cX4_digest 91 = .ok (.goto (-30), 3) := by decide +kernel
theorem dX4_digest_94 : decode cX4_digest 94 = .ok (.aload_n 0, 1) := by decide +kernel
theorem dX4_digest_95 : decode cX4_digest 95 = .ok (.aload_n 0, 1) := by decide +kernel
theorem dX4_digest_96 : decode cX4_digest 96 = .ok (.iconst 0, 1) := by decide +kernel
theorem dX4_digest_97 : decode cX4_digest 97 = .ok (.invokevirtual 209, 3) := by decide +kernel
theorem dX4_digest_100 : decode cX4_digest 100 = .ok (.i2l, 1) := by decide +kernel
theorem dX4_digest_101 : decode cX4_digest 101 = .ok (.invokevirtual 229, 3) := by decide +kernel
theorem dX4_digest_104 : decode cX4_digest 104 = .ok (.aload_n 0, 1) := by decide +kernel
theorem dX4_digest_105 : decode cX4_digest 105 = .ok (.aload_n 0, 1) := by decide +kernel
theorem dX4_digest_106 : decode cX4_digest 106 = .ok (.iconst 1, 1) := by decide +kernel
theorem dX4_digest_107 : decode cX4_digest 107 = .ok (.invokevirtual 209, 3) := by decide +kernel
theorem dX4_digest_110 : decode cX4_digest 110 = .ok (.i2l, 1) := by decide +kernel
theorem dX4_digest_111 : decode cX4_digest 111 = .ok (.invokevirtual 229, 3) := by decide +kernel
theorem dX4_digest_114 : decode cX4_digest 114 = .ok (.aload_n 0, 1) := by decide +kernel
theorem dX4_digest_115 : decode cX4_digest 115 = .ok (.aload_n 0, 1) := by decide +kernel
theorem dX4_digest_116 : decode cX4_digest 116 = .ok (.invokevirtual 219, 3) := by decide +kernel
theorem dX4_digest_119 : decode cX4_digest 119 = .ok (.invokestatic 238, 3) := by decide +kernel
theorem dX4_digest_122 : decode cX4_digest 122 = .ok (.invokevirtual 229, 3) := by decide +kernel
theorem dX4_digest_125 : decode cX4_digest 125 = .ok (.aload_n 0, 1) := by decide +kernel
theorem dX4_digest_126 : decode cX4_digest 126 = .ok (.aload_n 0, 1) := by decide +kernel
theorem dX4_digest_127 : decode cX4_digest 127 = .ok (.getfield 135, 3) := by decide +kernel
theorem dX4_digest_130 : decode cX4_digest 130 = .ok (.i2l, 1) := by decide +kernel
theorem dX4_digest_131 : decode cX4_digest 131 = .ok (.invokevirtual 229, 3) := by decide +kernel
theorem dX4_digest_134 : decode cX4_digest 134 = .ok (.iconst 0, 1) := by decide +kernel
theorem dX4_digest_135 : decode cX4_digest 135 = .ok (.istore_n 1, 1) := by decide +kernel
theorem dX4_digest_136 : decode cX4_digest 136 = .ok (.iload_n 1, 1) := by decide +kernel
theorem dX4_digest_137 : decode cX4_digest 137 = .ok (.aload_n 0, 1) := by decide +kernel
theorem dX4_digest_138 : decode cX4_digest 138 = .ok (.getfield 135, 3) := by decide +kernel
theorem dX4_digest_141 : decode cX4_digest 141 = .ok (.if_icmp .ge 20, 3) := by decide +kernel
theorem dX4_digest_144 : decode cX4_digest 144 = .ok (.aload_n 0, 1) := by decide +kernel
theorem dX4_digest_145 : decode cX4_digest 145 = .ok (.aload_n 0, 1) := by decide +kernel
theorem dX4_digest_146 : decode cX4_digest 146 = .ok (.getfield 16, 3) := by decide +kernel
theorem dX4_digest_149 : decode cX4_digest 149 = .ok (.iload_n 1, 1) := by decide +kernel
theorem dX4_digest_150 : decode cX4_digest 150 = .ok (.iaload, 1) := by decide +kernel
theorem dX4_digest_151 : decode cX4_digest 151 = .ok (.i2l, 1) := by decide +kernel
theorem dX4_digest_152 : decode cX4_digest 152 = .ok (.invokevirtual 229, 3) := by decide +kernel
theorem dX4_digest_155 : decode cX4_digest 155 = .ok (.iinc 1 1, 3) := by decide +kernel
theorem dX4_digest_158 : decode cX4_digest 158 = .ok (.goto (-22), 3) := by decide +kernel
theorem dX4_digest_161 : decode cX4_digest 161 = .ok (.aload_n 0, 1) := by decide +kernel
theorem dX4_digest_162 : decode cX4_digest 162 = .ok (.getfield 225, 3) := by decide +kernel
theorem dX4_digest_165 : decode cX4_digest 165 = .ok (.lreturn, 1) := by decide +kernel
theorem dL_addRail_0 : decode cL_addRail 0 = .ok (.aload 5, 2) := by decide +kernel
theorem dL_addRail_2 : decode cL_addRail 2 = .ok (.iconst 0, 1) := by decide +kernel
theorem dL_addRail_3 : decode cL_addRail 3 = .ok (.aload_n 0, 1) := by decide +kernel
theorem dL_addRail_4 : decode cL_addRail 4 = .ok (.iload_n 1, 1) := by decide +kernel
theorem dL_addRail_5 : decode cL_addRail 5 = .ok (.iload_n 2, 1) := by decide +kernel
theorem dL_addRail_6 : decode cL_addRail 6 = .ok (.iload_n 3, 1) := by decide +kernel
theorem dL_addRail_7 : decode cL_addRail 7 = .ok (.iload 4, 2) := by decide +kernel
theorem dL_addRail_9 : decode cL_addRail 9 = .ok (.invokevirtual 7, 3) := by decide +kernel
theorem dL_addRail_12 : decode cL_addRail 12 = .ok (.i2l, 1) := by decide +kernel
theorem dL_addRail_13 : decode cL_addRail 13 = .ok (.lastore, 1) := by decide +kernel
theorem dL_addRail_14 : decode cL_addRail 14 = .ok (.goto 11, 3) := by decide +kernel
theorem dL_addRail_17 : decode cL_addRail 17 = .ok (.astore 6, 2) := by decide +kernel
theorem dL_addRail_19 : decode cL_addRail 19 = .ok (.iconst 1, 1) := by decide +kernel
theorem dL_addRail_20 : decode cL_addRail 20 = .ok (.ireturn, 1) := by decide +kernel
theorem dL_addRail_21 : decode cL_addRail 21 = .ok (.astore 6, 2) := by decide +kernel
theorem dL_addRail_23 : decode cL_addRail 23 = .ok (.iconst 2, 1) := by decide +kernel
theorem dL_addRail_24 : decode cL_addRail 24 = .ok (.ireturn, 1) := by decide +kernel
theorem dL_addRail_25 : decode cL_addRail 25 = .ok (.iconst 0, 1) := by decide +kernel
theorem dL_addRail_26 : decode cL_addRail 26 = .ok (.ireturn, 1) := by decide +kernel
theorem dL_set_0 : decode cL_set 0 = .ok (.aload 4, 2) := by decide +kernel
theorem dL_set_2 : decode cL_set 2 = .ok (.iconst 0, 1) := by decide +kernel
theorem dL_set_3 : decode cL_set 3 = .ok (.aload_n 0, 1) := by decide +kernel
theorem dL_set_4 : decode cL_set 4 = .ok (.iload_n 1, 1) := by decide +kernel
theorem dL_set_5 : decode cL_set 5 = .ok (.iload_n 2, 1) := by decide +kernel
theorem dL_set_6 : decode cL_set 6 = .ok (.iload_n 3, 1) := by decide +kernel
theorem dL_set_7 : decode cL_set 7 = .ok (.invokevirtual 17, 3) := by decide +kernel
theorem dL_set_10 : decode cL_set 10 = .ok (.i2l, 1) := by decide +kernel
theorem dL_set_11 : decode cL_set 11 = .ok (.lastore, 1) := by decide +kernel
theorem dL_set_12 : decode cL_set 12 = .ok (.goto 11, 3) := by decide +kernel
theorem dL_set_15 : decode cL_set 15 = .ok (.astore 5, 2) := by decide +kernel
theorem dL_set_17 : decode cL_set 17 = .ok (.iconst 1, 1) := by decide +kernel
theorem dL_set_18 : decode cL_set 18 = .ok (.ireturn, 1) := by decide +kernel
theorem dL_set_19 : decode cL_set 19 = .ok (.astore 5, 2) := by decide +kernel
theorem dL_set_21 : decode cL_set 21 = .ok (.iconst 2, 1) := by decide +kernel
theorem dL_set_22 : decode cL_set 22 = .ok (.ireturn, 1) := by decide +kernel
theorem dL_set_23 : decode cL_set 23 = .ok (.iconst 0, 1) := by decide +kernel
theorem dL_set_24 : decode cL_set 24 = .ok (.ireturn, 1) := by decide +kernel
theorem dL_setNeeds_0 : decode cL_setNeeds 0 = .ok (.aload_n 3, 1) := by decide +kernel
theorem dL_setNeeds_1 : decode cL_setNeeds 1 = .ok (.iconst 0, 1) := by decide +kernel
theorem dL_setNeeds_2 : decode cL_setNeeds 2 = .ok (.aload_n 0, 1) := by decide +kernel
theorem dL_setNeeds_3 : decode cL_setNeeds 3 = .ok (.iload_n 1, 1) := by decide +kernel
theorem dL_setNeeds_4 : decode cL_setNeeds 4 = .ok (.iload_n 2, 1) := by decide +kernel
theorem dL_setNeeds_5 : decode cL_setNeeds 5 = .ok (.invokevirtual 23, 3) := by decide +kernel
theorem dL_setNeeds_8 : decode cL_setNeeds 8 = .ok (.i2l, 1) := by decide +kernel
theorem dL_setNeeds_9 : decode cL_setNeeds 9 = .ok (.lastore, 1) := by decide +kernel
theorem dL_setNeeds_10 : decode cL_setNeeds 10 = .ok (.goto 15, 3) := by decide +kernel
theorem dL_setNeeds_13 : decode cL_setNeeds 13 = .ok (.astore 4, 2) := by decide +kernel
theorem dL_setNeeds_15 : decode cL_setNeeds 15 = .ok (.iconst 1, 1) := by decide +kernel
theorem dL_setNeeds_16 : decode cL_setNeeds 16 = .ok (.ireturn, 1) := by decide +kernel
theorem dL_setNeeds_17 : decode cL_setNeeds 17 = .ok (.astore 4, 2) := by decide +kernel
theorem dL_setNeeds_19 : decode cL_setNeeds 19 = .ok (.iconst 2, 1) := by decide +kernel
theorem dL_setNeeds_20 : decode cL_setNeeds 20 = .ok (.ireturn, 1) := by decide +kernel
theorem dL_setNeeds_21 : decode cL_setNeeds 21 = .ok (.astore 4, 2) := by decide +kernel
theorem dL_setNeeds_23 : decode cL_setNeeds 23 = .ok (.iconst 3, 1) := by decide +kernel
theorem dL_setNeeds_24 : decode cL_setNeeds 24 = .ok (.ireturn, 1) := by decide +kernel
theorem dL_setNeeds_25 : decode cL_setNeeds 25 = .ok (.iconst 0, 1) := by decide +kernel
theorem dL_setNeeds_26 : decode cL_setNeeds 26 = .ok (.ireturn, 1) := by decide +kernel
theorem dL_setResidue_0 : decode cL_setResidue 0 = .ok (.aload_n 2, 1) := by decide +kernel
theorem dL_setResidue_1 : decode cL_setResidue 1 = .ok (.iconst 0, 1) := by decide +kernel
theorem dL_setResidue_2 : decode cL_setResidue 2 = .ok (.aload_n 0, 1) := by decide +kernel
theorem dL_setResidue_3 : decode cL_setResidue 3 = .ok (.iload_n 1, 1) := by decide +kernel
theorem dL_setResidue_4 : decode cL_setResidue 4 = .ok (.invokevirtual 27, 3) := by decide +kernel
theorem dL_setResidue_7 : decode cL_setResidue 7 = .ok (.i2l, 1) := by decide +kernel
theorem dL_setResidue_8 : decode cL_setResidue 8 = .ok (.lastore, 1) := by decide +kernel
theorem dL_setResidue_9 : decode cL_setResidue 9 = .ok (.goto 6, 3) := by decide +kernel
theorem dL_setResidue_12 : decode cL_setResidue 12 = .ok (.astore_n 3, 1) := by decide +kernel
theorem dL_setResidue_13 : decode cL_setResidue 13 = .ok (.iconst 1, 1) := by decide +kernel
theorem dL_setResidue_14 : decode cL_setResidue 14 = .ok (.ireturn, 1) := by decide +kernel
theorem dL_setResidue_15 : decode cL_setResidue 15 = .ok (.iconst 0, 1) := by decide +kernel
theorem dL_setResidue_16 : decode cL_setResidue 16 = .ok (.ireturn, 1) := by decide +kernel
theorem dL_on_0 : decode cL_on 0 = .ok (.aload_n 2, 1) := by decide +kernel
theorem dL_on_1 : decode cL_on 1 = .ok (.iconst 0, 1) := by decide +kernel
theorem dL_on_2 : decode cL_on 2 = .ok (.aload_n 0, 1) := by decide +kernel
theorem dL_on_3 : decode cL_on 3 = .ok (.iload_n 1, 1) := by decide +kernel
theorem dL_on_4 : decode cL_on 4 = .ok (.invokevirtual 31, 3) := by decide +kernel
theorem dL_on_7 : decode cL_on 7 = .ok (.i2l, 1) := by decide +kernel
theorem dL_on_8 : decode cL_on 8 = .ok (.lastore, 1) := by decide +kernel
theorem dL_on_9 : decode cL_on 9 = .ok (.goto 6, 3) := by decide +kernel
theorem dL_on_12 : decode cL_on 12 = .ok (.astore_n 3, 1) := by decide +kernel
theorem dL_on_13 : decode cL_on 13 = .ok (.iconst 1, 1) := by decide +kernel
theorem dL_on_14 : decode cL_on 14 = .ok (.ireturn, 1) := by decide +kernel
theorem dL_on_15 : decode cL_on 15 = .ok (.iconst 0, 1) := by decide +kernel
theorem dL_on_16 : decode cL_on 16 = .ok (.ireturn, 1) := by decide +kernel
theorem dL_off_0 : decode cL_off 0 = .ok (.aload_n 2, 1) := by decide +kernel
theorem dL_off_1 : decode cL_off 1 = .ok (.iconst 0, 1) := by decide +kernel
theorem dL_off_2 : decode cL_off 2 = .ok (.aload_n 0, 1) := by decide +kernel
theorem dL_off_3 : decode cL_off 3 = .ok (.iload_n 1, 1) := by decide +kernel
theorem dL_off_4 : decode cL_off 4 = .ok (.invokevirtual 34, 3) := by decide +kernel
theorem dL_off_7 : decode cL_off 7 = .ok (.i2l, 1) := by decide +kernel
theorem dL_off_8 : decode cL_off 8 = .ok (.lastore, 1) := by decide +kernel
theorem dL_off_9 : decode cL_off 9 = .ok (.goto 6, 3) := by decide +kernel
theorem dL_off_12 : decode cL_off 12 = .ok (.astore_n 3, 1) := by decide +kernel
theorem dL_off_13 : decode cL_off 13 = .ok (.iconst 1, 1) := by decide +kernel
theorem dL_off_14 : decode cL_off 14 = .ok (.ireturn, 1) := by decide +kernel
theorem dL_off_15 : decode cL_off 15 = .ok (.iconst 0, 1) := by decide +kernel
theorem dL_off_16 : decode cL_off 16 = .ok (.ireturn, 1) := by decide +kernel
theorem dL_restart_0 : decode cL_restart 0 = .ok (.aload_n 2, 1) := by decide +kernel
theorem dL_restart_1 : decode cL_restart 1 = .ok (.iconst 0, 1) := by decide +kernel
theorem dL_restart_2 : decode cL_restart 2 = .ok (.aload_n 0, 1) := by decide +kernel
theorem dL_restart_3 : decode cL_restart 3 = .ok (.iload_n 1, 1) := by decide +kernel
theorem dL_restart_4 : decode cL_restart 4 = .ok (.invokevirtual 37, 3) := by decide +kernel
theorem dL_restart_7 : decode cL_restart 7 = .ok (.i2l, 1) := by decide +kernel
theorem dL_restart_8 : decode cL_restart 8 = .ok (.lastore, 1) := by decide +kernel
theorem dL_restart_9 : decode cL_restart 9 = .ok (.goto 9, 3) := by decide +kernel
theorem dL_restart_12 : decode cL_restart 12 = .ok (.astore_n 3, 1) := by decide +kernel
theorem dL_restart_13 : decode cL_restart 13 = .ok (.iconst 1, 1) := by decide +kernel
theorem dL_restart_14 : decode cL_restart 14 = .ok (.ireturn, 1) := by decide +kernel
theorem dL_restart_15 : decode cL_restart 15 = .ok (.astore_n 3, 1) := by decide +kernel
theorem dL_restart_16 : decode cL_restart 16 = .ok (.iconst 2, 1) := by decide +kernel
theorem dL_restart_17 : decode cL_restart 17 = .ok (.ireturn, 1) := by decide +kernel
theorem dL_restart_18 : decode cL_restart 18 = .ok (.iconst 0, 1) := by decide +kernel
theorem dL_restart_19 : decode cL_restart 19 = .ok (.ireturn, 1) := by decide +kernel
theorem dL_shortCircuit_0 : decode cL_shortCircuit 0 = .ok (.aload_n 3, 1) := by decide +kernel
theorem dL_shortCircuit_1 : decode cL_shortCircuit 1 = .ok (.iconst 0, 1) := by decide +kernel
theorem dL_shortCircuit_2 : decode cL_shortCircuit 2 = .ok (.aload_n 0, 1) := by decide +kernel
theorem dL_shortCircuit_3 : decode cL_shortCircuit 3 = .ok (.iload_n 1, 1) := by decide +kernel
theorem dL_shortCircuit_4 : decode cL_shortCircuit 4 = .ok (.iload_n 2, 1) := by decide +kernel
theorem dL_shortCircuit_5 : decode cL_shortCircuit 5 = .ok (.invokevirtual 40, 3) := by decide +kernel
theorem dL_shortCircuit_8 : decode cL_shortCircuit 8 = .ok (.i2l, 1) := by decide +kernel
theorem dL_shortCircuit_9 : decode cL_shortCircuit 9 = .ok (.lastore, 1) := by decide +kernel
theorem dL_shortCircuit_10 : decode cL_shortCircuit 10 = .ok (.goto 11, 3) := by decide +kernel
theorem dL_shortCircuit_13 : decode cL_shortCircuit 13 = .ok (.astore 4, 2) := by decide +kernel
theorem dL_shortCircuit_15 : decode cL_shortCircuit 15 = .ok (.iconst 1, 1) := by decide +kernel
theorem dL_shortCircuit_16 : decode cL_shortCircuit 16 = .ok (.ireturn, 1) := by decide +kernel
theorem dL_shortCircuit_17 : decode cL_shortCircuit 17 = .ok (.astore 4, 2) := by decide +kernel
theorem dL_shortCircuit_19 : decode cL_shortCircuit 19 = .ok (.iconst 2, 1) := by decide +kernel
theorem dL_shortCircuit_20 : decode cL_shortCircuit 20 = .ok (.ireturn, 1) := by decide +kernel
theorem dL_shortCircuit_21 : decode cL_shortCircuit 21 = .ok (.iconst 0, 1) := by decide +kernel
theorem dL_shortCircuit_22 : decode cL_shortCircuit 22 = .ok (.ireturn, 1) := by decide +kernel
theorem dL_stick_0 : decode cL_stick 0 = .ok (.aload_n 3, 1) := by decide +kernel
theorem dL_stick_1 : decode cL_stick 1 = .ok (.iconst 0, 1) := by decide +kernel
theorem dL_stick_2 : decode cL_stick 2 = .ok (.aload_n 0, 1) := by decide +kernel
theorem dL_stick_3 : decode cL_stick 3 = .ok (.iload_n 1, 1) := by decide +kernel
theorem dL_stick_4 : decode cL_stick 4 = .ok (.iload_n 2, 1) := by decide +kernel
theorem dL_stick_5 : decode cL_stick 5 = .ok (.invokevirtual 43, 3) := by decide +kernel
theorem dL_stick_8 : decode cL_stick 8 = .ok (.i2l, 1) := by decide +kernel
theorem dL_stick_9 : decode cL_stick 9 = .ok (.lastore, 1) := by decide +kernel
theorem dL_stick_10 : decode cL_stick 10 = .ok (.goto 11, 3) := by decide +kernel
theorem dL_stick_13 : decode cL_stick 13 = .ok (.astore 4, 2) := by decide +kernel
theorem dL_stick_15 : decode cL_stick 15 = .ok (.iconst 1, 1) := by decide +kernel
theorem dL_stick_16 : decode cL_stick 16 = .ok (.ireturn, 1) := by decide +kernel
theorem dL_stick_17 : decode cL_stick 17 = .ok (.astore 4, 2) := by decide +kernel
theorem dL_stick_19 : decode cL_stick 19 = .ok (.iconst 2, 1) := by decide +kernel
theorem dL_stick_20 : decode cL_stick 20 = .ok (.ireturn, 1) := by decide +kernel
theorem dL_stick_21 : decode cL_stick 21 = .ok (.iconst 0, 1) := by decide +kernel
theorem dL_stick_22 : decode cL_stick 22 = .ok (.ireturn, 1) := by decide +kernel
theorem dL_tick_0 : decode cL_tick 0 = .ok (.aload_n 2, 1) := by decide +kernel
theorem dL_tick_1 : decode cL_tick 1 = .ok (.iconst 0, 1) := by decide +kernel
theorem dL_tick_2 : decode cL_tick 2 = .ok (.aload_n 0, 1) := by decide +kernel
theorem dL_tick_3 : decode cL_tick 3 = .ok (.iload_n 1, 1) := by decide +kernel
theorem dL_tick_4 : decode cL_tick 4 = .ok (.invokevirtual 46, 3) := by decide +kernel
theorem dL_tick_7 : decode cL_tick 7 = .ok (.i2l, 1) := by decide +kernel
theorem dL_tick_8 : decode cL_tick 8 = .ok (.lastore, 1) := by decide +kernel
theorem dL_tick_9 : decode cL_tick 9 = .ok (.goto 9, 3) := by decide +kernel
theorem dL_tick_12 : decode cL_tick 12 = .ok (.astore_n 3, 1) := by decide +kernel
theorem dL_tick_13 : decode cL_tick 13 = .ok (.iconst 1, 1) := by decide +kernel
theorem dL_tick_14 : decode cL_tick 14 = .ok (.ireturn, 1) := by decide +kernel
theorem dL_tick_15 : decode cL_tick 15 = .ok (.astore_n 3, 1) := by decide +kernel
theorem dL_tick_16 : decode cL_tick 16 = .ok (.iconst 2, 1) := by decide +kernel
theorem dL_tick_17 : decode cL_tick 17 = .ok (.ireturn, 1) := by decide +kernel
theorem dL_tick_18 : decode cL_tick 18 = .ok (.iconst 0, 1) := by decide +kernel
theorem dL_tick_19 : decode cL_tick 19 = .ok (.ireturn, 1) := by decide +kernel
theorem dL_append_0 : decode cL_append 0 = .ok (.aload_n 2, 1) := by decide +kernel
theorem dL_append_1 : decode cL_append 1 = .ok (.iconst 0, 1) := by decide +kernel
theorem dL_append_2 : decode cL_append 2 = .ok (.aload_n 0, 1) := by decide +kernel
theorem dL_append_3 : decode cL_append 3 = .ok (.iload_n 1, 1) := by decide +kernel
theorem dL_append_4 : decode cL_append 4 = .ok (.invokevirtual 49, 3) := by decide +kernel
theorem dL_append_7 : decode cL_append 7 = .ok (.i2l, 1) := by decide +kernel
theorem dL_append_8 : decode cL_append 8 = .ok (.lastore, 1) := by decide +kernel
theorem dL_append_9 : decode cL_append 9 = .ok (.goto 9, 3) := by decide +kernel
theorem dL_append_12 : decode cL_append 12 = .ok (.astore_n 3, 1) := by decide +kernel
theorem dL_append_13 : decode cL_append 13 = .ok (.iconst 1, 1) := by decide +kernel
theorem dL_append_14 : decode cL_append 14 = .ok (.ireturn, 1) := by decide +kernel
theorem dL_append_15 : decode cL_append 15 = .ok (.astore_n 3, 1) := by decide +kernel
theorem dL_append_16 : decode cL_append 16 = .ok (.iconst 2, 1) := by decide +kernel
theorem dL_append_17 : decode cL_append 17 = .ok (.ireturn, 1) := by decide +kernel
theorem dL_append_18 : decode cL_append 18 = .ok (.iconst 0, 1) := by decide +kernel
theorem dL_append_19 : decode cL_append 19 = .ok (.ireturn, 1) := by decide +kernel
theorem dL_load_0 : decode cL_load 0 = .ok (.aload_n 1, 1) := by decide +kernel
theorem dL_load_1 : decode cL_load 1 = .ok (.iconst 0, 1) := by decide +kernel
theorem dL_load_2 : decode cL_load 2 = .ok (.aload_n 0, 1) := by decide +kernel
theorem dL_load_3 : decode cL_load 3 = .ok (.invokevirtual 52, 3) := by decide +kernel
theorem dL_load_6 : decode cL_load 6 = .ok (.i2l, 1) := by decide +kernel
theorem dL_load_7 : decode cL_load 7 = .ok (.lastore, 1) := by decide +kernel
theorem dL_load_8 : decode cL_load 8 = .ok (.goto 9, 3) := by decide +kernel
theorem dL_load_11 : decode cL_load 11 = .ok (.astore_n 2, 1) := by decide +kernel
theorem dL_load_12 : decode cL_load 12 = .ok (.iconst 1, 1) := by decide +kernel
theorem dL_load_13 : decode cL_load 13 = .ok (.ireturn, 1) := by decide +kernel
theorem dL_load_14 : decode cL_load 14 = .ok (.astore_n 2, 1) := by decide +kernel
theorem dL_load_15 : decode cL_load 15 = .ok (.iconst 2, 1) := by decide +kernel
theorem dL_load_16 : decode cL_load 16 = .ok (.ireturn, 1) := by decide +kernel
theorem dL_load_17 : decode cL_load 17 = .ok (.iconst 0, 1) := by decide +kernel
theorem dL_load_18 : decode cL_load 18 = .ok (.ireturn, 1) := by decide +kernel
theorem dL_undo_0 : decode cL_undo 0 = .ok (.aload_n 1, 1) := by decide +kernel
theorem dL_undo_1 : decode cL_undo 1 = .ok (.iconst 0, 1) := by decide +kernel
theorem dL_undo_2 : decode cL_undo 2 = .ok (.aload_n 0, 1) := by decide +kernel
theorem dL_undo_3 : decode cL_undo 3 = .ok (.invokevirtual 56, 3) := by decide +kernel
theorem dL_undo_6 : decode cL_undo 6 = .ok (.i2l, 1) := by decide +kernel
theorem dL_undo_7 : decode cL_undo 7 = .ok (.lastore, 1) := by decide +kernel
theorem dL_undo_8 : decode cL_undo 8 = .ok (.goto 6, 3) := by decide +kernel
theorem dL_undo_11 : decode cL_undo 11 = .ok (.astore_n 2, 1) := by decide +kernel
theorem dL_undo_12 : decode cL_undo 12 = .ok (.iconst 1, 1) := by decide +kernel
theorem dL_undo_13 : decode cL_undo 13 = .ok (.ireturn, 1) := by decide +kernel
theorem dL_undo_14 : decode cL_undo 14 = .ok (.iconst 0, 1) := by decide +kernel
theorem dL_undo_15 : decode cL_undo 15 = .ok (.ireturn, 1) := by decide +kernel
theorem dL_rail_0 : decode cL_rail 0 = .ok (.aload_n 3, 1) := by decide +kernel
theorem dL_rail_1 : decode cL_rail 1 = .ok (.iconst 0, 1) := by decide +kernel
theorem dL_rail_2 : decode cL_rail 2 = .ok (.aload_n 0, 1) := by decide +kernel
theorem dL_rail_3 : decode cL_rail 3 = .ok (.iload_n 1, 1) := by decide +kernel
theorem dL_rail_4 : decode cL_rail 4 = .ok (.iload_n 2, 1) := by decide +kernel
theorem dL_rail_5 : decode cL_rail 5 = .ok (.invokevirtual 59, 3) := by decide +kernel
theorem dL_rail_8 : decode cL_rail 8 = .ok (.i2l, 1) := by decide +kernel
theorem dL_rail_9 : decode cL_rail 9 = .ok (.lastore, 1) := by decide +kernel
theorem dL_rail_10 : decode cL_rail 10 = .ok (.goto 11, 3) := by decide +kernel
theorem dL_rail_13 : decode cL_rail 13 = .ok (.astore 4, 2) := by decide +kernel
theorem dL_rail_15 : decode cL_rail 15 = .ok (.iconst 1, 1) := by decide +kernel
theorem dL_rail_16 : decode cL_rail 16 = .ok (.ireturn, 1) := by decide +kernel
theorem dL_rail_17 : decode cL_rail 17 = .ok (.astore 4, 2) := by decide +kernel
theorem dL_rail_19 : decode cL_rail 19 = .ok (.iconst 2, 1) := by decide +kernel
theorem dL_rail_20 : decode cL_rail 20 = .ok (.ireturn, 1) := by decide +kernel
theorem dL_rail_21 : decode cL_rail 21 = .ok (.iconst 0, 1) := by decide +kernel
theorem dL_rail_22 : decode cL_rail 22 = .ok (.ireturn, 1) := by decide +kernel
theorem dL_account_0 : decode cL_account 0 = .ok (.aload_n 3, 1) := by decide +kernel
theorem dL_account_1 : decode cL_account 1 = .ok (.iconst 0, 1) := by decide +kernel
theorem dL_account_2 : decode cL_account 2 = .ok (.aload_n 0, 1) := by decide +kernel
theorem dL_account_3 : decode cL_account 3 = .ok (.iload_n 1, 1) := by decide +kernel
theorem dL_account_4 : decode cL_account 4 = .ok (.iload_n 2, 1) := by decide +kernel
theorem dL_account_5 : decode cL_account 5 = .ok (.invokevirtual 62, 3) := by decide +kernel
theorem dL_account_8 : decode cL_account 8 = .ok (.i2l, 1) := by decide +kernel
theorem dL_account_9 : decode cL_account 9 = .ok (.lastore, 1) := by decide +kernel
theorem dL_account_10 : decode cL_account 10 = .ok (.goto 11, 3) := by decide +kernel
theorem dL_account_13 : decode cL_account 13 = .ok (.astore 4, 2) := by decide +kernel
theorem dL_account_15 : decode cL_account 15 = .ok (.iconst 1, 1) := by decide +kernel
theorem dL_account_16 : decode cL_account 16 = .ok (.ireturn, 1) := by decide +kernel
theorem dL_account_17 : decode cL_account 17 = .ok (.astore 4, 2) := by decide +kernel
theorem dL_account_19 : decode cL_account 19 = .ok (.iconst 2, 1) := by decide +kernel
theorem dL_account_20 : decode cL_account 20 = .ok (.ireturn, 1) := by decide +kernel
theorem dL_account_21 : decode cL_account 21 = .ok (.iconst 0, 1) := by decide +kernel
theorem dL_account_22 : decode cL_account 22 = .ok (.ireturn, 1) := by decide +kernel
theorem dL_entry_0 : decode cL_entry 0 = .ok (.aload_n 3, 1) := by decide +kernel
theorem dL_entry_1 : decode cL_entry 1 = .ok (.iconst 0, 1) := by decide +kernel
theorem dL_entry_2 : decode cL_entry 2 = .ok (.aload_n 0, 1) := by decide +kernel
theorem dL_entry_3 : decode cL_entry 3 = .ok (.iload_n 1, 1) := by decide +kernel
theorem dL_entry_4 : decode cL_entry 4 = .ok (.iload_n 2, 1) := by decide +kernel
theorem dL_entry_5 : decode cL_entry 5 = .ok (.invokevirtual 65, 3) := by decide +kernel
theorem dL_entry_8 : decode cL_entry 8 = .ok (.i2l, 1) := by decide +kernel
theorem dL_entry_9 : decode cL_entry 9 = .ok (.lastore, 1) := by decide +kernel
theorem dL_entry_10 : decode cL_entry 10 = .ok (.goto 7, 3) := by decide +kernel
theorem dL_entry_13 : decode cL_entry 13 = .ok (.astore 4, 2) := by decide +kernel
theorem dL_entry_15 : decode cL_entry 15 = .ok (.iconst 1, 1) := by decide +kernel
theorem dL_entry_16 : decode cL_entry 16 = .ok (.ireturn, 1) := by decide +kernel
theorem dL_entry_17 : decode cL_entry 17 = .ok (.iconst 0, 1) := by decide +kernel
theorem dL_entry_18 : decode cL_entry 18 = .ok (.ireturn, 1) := by decide +kernel
theorem dL_forget_0 : decode cL_forget 0 = .ok (.aload_n 2, 1) := by decide +kernel
theorem dL_forget_1 : decode cL_forget 1 = .ok (.iconst 0, 1) := by decide +kernel
theorem dL_forget_2 : decode cL_forget 2 = .ok (.aload_n 0, 1) := by decide +kernel
theorem dL_forget_3 : decode cL_forget 3 = .ok (.iload_n 1, 1) := by decide +kernel
theorem dL_forget_4 : decode cL_forget 4 = .ok (.invokevirtual 68, 3) := by decide +kernel
theorem dL_forget_7 : decode cL_forget 7 = .ok (.i2l, 1) := by decide +kernel
theorem dL_forget_8 : decode cL_forget 8 = .ok (.lastore, 1) := by decide +kernel
theorem dL_forget_9 : decode cL_forget 9 = .ok (.goto 6, 3) := by decide +kernel
theorem dL_forget_12 : decode cL_forget 12 = .ok (.astore_n 3, 1) := by decide +kernel
theorem dL_forget_13 : decode cL_forget 13 = .ok (.iconst 1, 1) := by decide +kernel
theorem dL_forget_14 : decode cL_forget 14 = .ok (.ireturn, 1) := by decide +kernel
theorem dL_forget_15 : decode cL_forget 15 = .ok (.iconst 0, 1) := by decide +kernel
theorem dL_forget_16 : decode cL_forget 16 = .ok (.ireturn, 1) := by decide +kernel
theorem dL_count_0 : decode cL_count 0 = .ok (.aload_n 2, 1) := by decide +kernel
theorem dL_count_1 : decode cL_count 1 = .ok (.iconst 0, 1) := by decide +kernel
theorem dL_count_2 : decode cL_count 2 = .ok (.aload_n 0, 1) := by decide +kernel
theorem dL_count_3 : decode cL_count 3 = .ok (.iload_n 1, 1) := by decide +kernel
theorem dL_count_4 : decode cL_count 4 = .ok (.invokevirtual 71, 3) := by decide +kernel
theorem dL_count_7 : decode cL_count 7 = .ok (.i2l, 1) := by decide +kernel
theorem dL_count_8 : decode cL_count 8 = .ok (.lastore, 1) := by decide +kernel
theorem dL_count_9 : decode cL_count 9 = .ok (.goto 6, 3) := by decide +kernel
theorem dL_count_12 : decode cL_count 12 = .ok (.astore_n 3, 1) := by decide +kernel
theorem dL_count_13 : decode cL_count 13 = .ok (.iconst 1, 1) := by decide +kernel
theorem dL_count_14 : decode cL_count 14 = .ok (.ireturn, 1) := by decide +kernel
theorem dL_count_15 : decode cL_count 15 = .ok (.iconst 0, 1) := by decide +kernel
theorem dL_count_16 : decode cL_count 16 = .ok (.ireturn, 1) := by decide +kernel
theorem dL_ifShort_0 : decode cL_ifShort 0 = .ok (.aload 4, 2) := by decide +kernel
theorem dL_ifShort_2 : decode cL_ifShort 2 = .ok (.iconst 0, 1) := by decide +kernel
theorem dL_ifShort_3 : decode cL_ifShort 3 = .ok (.aload_n 0, 1) := by decide +kernel
theorem dL_ifShort_4 : decode cL_ifShort 4 = .ok (.iload_n 1, 1) := by decide +kernel
theorem dL_ifShort_5 : decode cL_ifShort 5 = .ok (.iload_n 2, 1) := by decide +kernel
theorem dL_ifShort_6 : decode cL_ifShort 6 = .ok (.iload_n 3, 1) := by decide +kernel
theorem dL_ifShort_7 : decode cL_ifShort 7 = .ok (.invokevirtual 74, 3) := by decide +kernel
theorem dL_ifShort_10 : decode cL_ifShort 10 = .ok (.i2l, 1) := by decide +kernel
theorem dL_ifShort_11 : decode cL_ifShort 11 = .ok (.lastore, 1) := by decide +kernel
theorem dL_ifShort_12 : decode cL_ifShort 12 = .ok (.goto 11, 3) := by decide +kernel
theorem dL_ifShort_15 : decode cL_ifShort 15 = .ok (.astore 5, 2) := by decide +kernel
theorem dL_ifShort_17 : decode cL_ifShort 17 = .ok (.iconst 1, 1) := by decide +kernel
theorem dL_ifShort_18 : decode cL_ifShort 18 = .ok (.ireturn, 1) := by decide +kernel
theorem dL_ifShort_19 : decode cL_ifShort 19 = .ok (.astore 5, 2) := by decide +kernel
theorem dL_ifShort_21 : decode cL_ifShort 21 = .ok (.iconst 2, 1) := by decide +kernel
theorem dL_ifShort_22 : decode cL_ifShort 22 = .ok (.ireturn, 1) := by decide +kernel
theorem dL_ifShort_23 : decode cL_ifShort 23 = .ok (.iconst 0, 1) := by decide +kernel
theorem dL_ifShort_24 : decode cL_ifShort 24 = .ok (.ireturn, 1) := by decide +kernel
theorem dL_leastPatience_0 : decode cL_leastPatience 0 = .ok (.aload_n 2, 1) := by decide +kernel
theorem dL_leastPatience_1 : decode cL_leastPatience 1 = .ok (.iconst 0, 1) := by decide +kernel
theorem dL_leastPatience_2 : decode cL_leastPatience 2 = .ok (.aload_n 0, 1) := by decide +kernel
theorem dL_leastPatience_3 : decode cL_leastPatience 3 = .ok (.iload_n 1, 1) := by decide +kernel
theorem dL_leastPatience_4 : decode cL_leastPatience 4 = .ok (.invokevirtual 77, 3) := by decide +kernel
theorem dL_leastPatience_7 : decode cL_leastPatience 7 = .ok (.i2l, 1) := by decide +kernel
theorem dL_leastPatience_8 : decode cL_leastPatience 8 = .ok (.lastore, 1) := by decide +kernel
theorem dL_leastPatience_9 : decode cL_leastPatience 9 = .ok (.goto 6, 3) := by decide +kernel
theorem dL_leastPatience_12 : decode cL_leastPatience 12 = .ok (.astore_n 3, 1) := by decide +kernel
theorem dL_leastPatience_13 : decode cL_leastPatience 13 = .ok (.iconst 1, 1) := by decide +kernel
theorem dL_leastPatience_14 : decode cL_leastPatience 14 = .ok (.ireturn, 1) := by decide +kernel
theorem dL_leastPatience_15 : decode cL_leastPatience 15 = .ok (.iconst 0, 1) := by decide +kernel
theorem dL_leastPatience_16 : decode cL_leastPatience 16 = .ok (.ireturn, 1) := by decide +kernel
theorem dL_law_0 : decode cL_law 0 = .ok (.new 8, 3) := by decide +kernel
theorem dL_law_3 : decode cL_law 3 = .ok (.dup, 1) := by decide +kernel
theorem dL_law_4 : decode cL_law 4 = .ok (.invokespecial 80, 3) := by decide +kernel
theorem dL_law_7 : decode cL_law 7 = .ok (.astore_n 1, 1) := by decide +kernel
theorem dL_law_8 : decode cL_law 8 = .ok (.new 81, 3) := by decide +kernel
theorem dL_law_11 : decode cL_law 11 = .ok (.dup, 1) := by decide +kernel
theorem dL_law_12 : decode cL_law 12 = .ok (.invokespecial 83, 3) := by decide +kernel
theorem dL_law_15 : decode cL_law 15 = .ok (.astore_n 2, 1) := by decide +kernel
theorem dL_law_16 : decode cL_law 16 = .ok (.iconst 1, 1) := by decide +kernel
theorem dL_law_17 : decode cL_law 17 = .ok (.newarray .long, 2) := by decide +kernel
theorem dL_law_19 : decode cL_law 19 = .ok (.astore_n 3, 1) := by decide +kernel
theorem dL_law_20 : decode cL_law 20 = .ok (.iconst 0, 1) := by decide +kernel
theorem dL_law_21 : decode cL_law 21 = .ok (.istore 4, 2) := by decide +kernel
theorem dL_law_23 : decode cL_law 23 = .ok (.iload 4, 2) := by decide +kernel
theorem dL_law_25 : decode cL_law 25 = .ok (.aload_n 0, 1) := by decide +kernel
theorem dL_law_26 : decode cL_law 26 = .ok (.arraylength, 1) := by decide +kernel
theorem dL_law_27 : decode cL_law 27 = .ok (.iconst 5, 1) := by decide +kernel
theorem dL_law_28 : decode cL_law 28 = .ok (.isub, 1) := by decide +kernel
theorem dL_law_29 : decode cL_law 29 = .ok (.if_icmp .gt 1492, 3) := by decide +kernel
theorem dL_law_32 : decode cL_law 32 = .ok (.aload_n 0, 1) := by decide +kernel
theorem dL_law_33 : decode cL_law 33 = .ok (.iload 4, 2) := by decide +kernel
theorem dL_law_35 : decode cL_law 35 = .ok (.iaload, 1) := by decide +kernel
theorem dL_law_36 : decode cL_law 36 = .ok (.bipush 31, 2) := by decide +kernel
theorem dL_law_38 : decode cL_law 38 = .ok (.iand, 1) := by decide +kernel
theorem dL_law_39 : decode cL_law 39 = .ok (.tableswitch 1476 0 25 #[117, 209, 289, 357, 413, 469, 525, 581, 649, 717, 773, 829, 842, 855, 899, 943, 1011, 1079, 1147, 1203, 1259, 1272, 1285, 1365, 1421, 1462], 117) := by decide +kernel
theorem dL_law_156 : decode cL_law 156 = .ok (.aload_n 1, 1) := by decide +kernel
theorem dL_law_157 : decode cL_law 157 = .ok (.aload_n 0, 1) := by decide +kernel
theorem dL_law_158 : decode cL_law 158 = .ok (.iload 4, 2) := by decide +kernel
theorem dL_law_160 : decode cL_law 160 = .ok (.iconst 1, 1) := by decide +kernel
theorem dL_law_161 : decode cL_law 161 = .ok (.iadd, 1) := by decide +kernel
theorem dL_law_162 : decode cL_law 162 = .ok (.iaload, 1) := by decide +kernel
theorem dL_law_163 : decode cL_law 163 = .ok (.aload_n 0, 1) := by decide +kernel
theorem dL_law_164 : decode cL_law 164 = .ok (.iload 4, 2) := by decide +kernel
theorem dL_law_166 : decode cL_law 166 = .ok (.iconst 2, 1) := by decide +kernel
theorem dL_law_167 : decode cL_law 167 = .ok (.iadd, 1) := by decide +kernel
theorem dL_law_168 : decode cL_law 168 = .ok (.iaload, 1) := by decide +kernel
theorem dL_law_169 : decode cL_law 169 = .ok (.aload_n 0, 1) := by decide +kernel
theorem dL_law_170 : decode cL_law 170 = .ok (.iload 4, 2) := by decide +kernel
theorem dL_law_172 : decode cL_law 172 = .ok (.iconst 3, 1) := by decide +kernel
theorem dL_law_173 : decode cL_law 173 = .ok (.iadd, 1) := by decide +kernel
theorem dL_law_174 : decode cL_law 174 = .ok (.iaload, 1) := by decide +kernel
theorem dL_law_175 : decode cL_law 175 = .ok (.aload_n 0, 1) := by decide +kernel
theorem dL_law_176 : decode cL_law 176 = .ok (.iload 4, 2) := by decide +kernel
theorem dL_law_178 : decode cL_law 178 = .ok (.iconst 4, 1) := by decide +kernel
theorem dL_law_179 : decode cL_law 179 = .ok (.iadd, 1) := by decide +kernel
theorem dL_law_180 : decode cL_law 180 = .ok (.iaload, 1) := by decide +kernel
theorem dL_law_181 : decode cL_law 181 = .ok (.aload_n 3, 1) := by decide +kernel
theorem dL_law_182 : decode cL_law 182 = .ok (.invokestatic 84, 3) := by decide +kernel
theorem dL_law_185 : decode cL_law 185 = .ok (.istore 5, 2) := by decide +kernel
theorem dL_law_187 : decode cL_law 187 = .ok (.aload_n 2, 1) := by decide +kernel
theorem dL_law_188 : decode cL_law 188 = .ok (.aload_n 0, 1) := by decide +kernel
theorem dL_law_189 : decode cL_law 189 = .ok (.iload 4, 2) := by decide +kernel
theorem dL_law_191 : decode cL_law 191 = .ok (.iconst 1, 1) := by decide +kernel
theorem dL_law_192 : decode cL_law 192 = .ok (.iadd, 1) := by decide +kernel
theorem dL_law_193 : decode cL_law 193 = .ok (.iaload, 1) := by decide +kernel
theorem dL_law_194 : decode cL_law 194 = .ok (.aload_n 0, 1) := by decide +kernel
theorem dL_law_195 : decode cL_law 195 = .ok (.iload 4, 2) := by decide +kernel
theorem dL_law_197 : decode cL_law 197 = .ok (.iconst 2, 1) := by decide +kernel
theorem dL_law_198 : decode cL_law 198 = .ok (.iadd, 1) := by decide +kernel
theorem dL_law_199 : decode cL_law 199 = .ok (.iaload, 1) := by decide +kernel
theorem dL_law_200 : decode cL_law 200 = .ok (.aload_n 0, 1) := by decide +kernel
theorem dL_law_201 : decode cL_law 201 = .ok (.iload 4, 2) := by decide +kernel
theorem dL_law_203 : decode cL_law 203 = .ok (.iconst 3, 1) := by decide +kernel
theorem dL_law_204 : decode cL_law 204 = .ok (.iadd, 1) := by decide +kernel
theorem dL_law_205 : decode cL_law 205 = .ok (.iaload, 1) := by decide +kernel
theorem dL_law_206 : decode cL_law 206 = .ok (.aload_n 0, 1) := by decide +kernel
theorem dL_law_207 : decode cL_law 207 = .ok (.iload 4, 2) := by decide +kernel
theorem dL_law_209 : decode cL_law 209 = .ok (.iconst 4, 1) := by decide +kernel
theorem dL_law_210 : decode cL_law 210 = .ok (.iadd, 1) := by decide +kernel
theorem dL_law_211 : decode cL_law 211 = .ok (.iaload, 1) := by decide +kernel
theorem dL_law_212 : decode cL_law 212 = .ok (.invokevirtual 89, 3) := by decide +kernel
theorem dL_law_215 : decode cL_law 215 = .ok (.istore 6, 2) := by decide +kernel
theorem dL_law_217 : decode cL_law 217 = .ok (.aload_n 2, 1) := by decide +kernel
theorem dL_law_218 : decode cL_law 218 = .ok (.invokevirtual 90, 3) := by decide +kernel
theorem dL_law_221 : decode cL_law 221 = .ok (.iload 5, 2) := by decide +kernel
theorem dL_law_223 : decode cL_law 223 = .ok (.if_icmp .eq 5, 3) := by decide +kernel
theorem dL_law_226 : decode cL_law 226 = .ok (.iconst 0, 1) := by decide +kernel
theorem dL_law_227 : decode cL_law 227 = .ok (.ireturn, 1) := by decide +kernel
theorem dL_law_228 : decode cL_law 228 = .ok (.iload 5, 2) := by decide +kernel
theorem dL_law_230 : decode cL_law 230 = .ok (.ifCond .ne 15, 3) := by decide +kernel
theorem dL_law_233 : decode cL_law 233 = .ok (.aload_n 3, 1) := by decide +kernel
theorem dL_law_234 : decode cL_law 234 = .ok (.iconst 0, 1) := by decide +kernel
theorem dL_law_235 : decode cL_law 235 = .ok (.laload, 1) := by decide +kernel
theorem dL_law_236 : decode cL_law 236 = .ok (.iload 6, 2) := by decide +kernel
theorem dL_law_238 : decode cL_law 238 = .ok (.i2l, 1) := by decide +kernel
theorem dL_law_239 : decode cL_law 239 = .ok (.lcmp, 1) := by decide +kernel
theorem dL_law_240 : decode cL_law 240 = .ok (.ifCond .eq 5, 3) := by decide +kernel
theorem dL_law_243 : decode cL_law 243 = .ok (.iconst 0, 1) := by decide +kernel
theorem dL_law_244 : decode cL_law 244 = .ok (.ireturn, 1) := by decide +kernel
theorem dL_law_245 : decode cL_law 245 = .ok (.goto 1270, 3) := by decide +kernel
theorem dL_law_248 : decode cL_law 248 = .ok (.aload_n 1, 1) := by decide +kernel
theorem dL_law_249 : decode cL_law 249 = .ok (.aload_n 0, 1) := by decide +kernel
theorem dL_law_250 : decode cL_law 250 = .ok (.iload 4, 2) := by decide +kernel
theorem dL_law_252 : decode cL_law 252 = .ok (.iconst 1, 1) := by decide +kernel
theorem dL_law_253 : decode cL_law 253 = .ok (.iadd, 1) := by decide +kernel
theorem dL_law_254 : decode cL_law 254 = .ok (.iaload, 1) := by decide +kernel
theorem dL_law_255 : decode cL_law 255 = .ok (.aload_n 0, 1) := by decide +kernel
theorem dL_law_256 : decode cL_law 256 = .ok (.iload 4, 2) := by decide +kernel
theorem dL_law_258 : decode cL_law 258 = .ok (.iconst 2, 1) := by decide +kernel
theorem dL_law_259 : decode cL_law 259 = .ok (.iadd, 1) := by decide +kernel
theorem dL_law_260 : decode cL_law 260 = .ok (.iaload, 1) := by decide +kernel
theorem dL_law_261 : decode cL_law 261 = .ok (.aload_n 0, 1) := by decide +kernel
theorem dL_law_262 : decode cL_law 262 = .ok (.iload 4, 2) := by decide +kernel
theorem dL_law_264 : decode cL_law 264 = .ok (.iconst 3, 1) := by decide +kernel
theorem dL_law_265 : decode cL_law 265 = .ok (.iadd, 1) := by decide +kernel
theorem dL_law_266 : decode cL_law 266 = .ok (.iaload, 1) := by decide +kernel
theorem dL_law_267 : decode cL_law 267 = .ok (.aload_n 3, 1) := by decide +kernel
theorem dL_law_268 : decode cL_law 268 = .ok (.invokestatic 93, 3) := by decide +kernel
theorem dL_law_271 : decode cL_law 271 = .ok (.istore 5, 2) := by decide +kernel
theorem dL_law_273 : decode cL_law 273 = .ok (.aload_n 2, 1) := by decide +kernel
theorem dL_law_274 : decode cL_law 274 = .ok (.aload_n 0, 1) := by decide +kernel
theorem dL_law_275 : decode cL_law 275 = .ok (.iload 4, 2) := by decide +kernel
theorem dL_law_277 : decode cL_law 277 = .ok (.iconst 1, 1) := by decide +kernel
theorem dL_law_278 : decode cL_law 278 = .ok (.iadd, 1) := by decide +kernel
theorem dL_law_279 : decode cL_law 279 = .ok (.iaload, 1) := by decide +kernel
theorem dL_law_280 : decode cL_law 280 = .ok (.aload_n 0, 1) := by decide +kernel
theorem dL_law_281 : decode cL_law 281 = .ok (.iload 4, 2) := by decide +kernel
theorem dL_law_283 : decode cL_law 283 = .ok (.iconst 2, 1) := by decide +kernel
theorem dL_law_284 : decode cL_law 284 = .ok (.iadd, 1) := by decide +kernel
theorem dL_law_285 : decode cL_law 285 = .ok (.iaload, 1) := by decide +kernel
theorem dL_law_286 : decode cL_law 286 = .ok (.aload_n 0, 1) := by decide +kernel
theorem dL_law_287 : decode cL_law 287 = .ok (.iload 4, 2) := by decide +kernel
theorem dL_law_289 : decode cL_law 289 = .ok (.iconst 3, 1) := by decide +kernel
theorem dL_law_290 : decode cL_law 290 = .ok (.iadd, 1) := by decide +kernel
theorem dL_law_291 : decode cL_law 291 = .ok (.iaload, 1) := by decide +kernel
theorem dL_law_292 : decode cL_law 292 = .ok (.invokevirtual 96, 3) := by decide +kernel
theorem dL_law_295 : decode cL_law 295 = .ok (.istore 6, 2) := by decide +kernel
theorem dL_law_297 : decode cL_law 297 = .ok (.aload_n 2, 1) := by decide +kernel
theorem dL_law_298 : decode cL_law 298 = .ok (.invokevirtual 90, 3) := by decide +kernel
theorem dL_law_301 : decode cL_law 301 = .ok (.iload 5, 2) := by decide +kernel
theorem dL_law_303 : decode cL_law 303 = .ok (.if_icmp .eq 5, 3) := by decide +kernel
theorem dL_law_306 : decode cL_law 306 = .ok (.iconst 0, 1) := by decide +kernel
theorem dL_law_307 : decode cL_law 307 = .ok (.ireturn, 1) := by decide +kernel
theorem dL_law_308 : decode cL_law 308 = .ok (.iload 5, 2) := by decide +kernel
theorem dL_law_310 : decode cL_law 310 = .ok (.ifCond .ne 15, 3) := by decide +kernel
theorem dL_law_313 : decode cL_law 313 = .ok (.aload_n 3, 1) := by decide +kernel
theorem dL_law_314 : decode cL_law 314 = .ok (.iconst 0, 1) := by decide +kernel
theorem dL_law_315 : decode cL_law 315 = .ok (.laload, 1) := by decide +kernel
theorem dL_law_316 : decode cL_law 316 = .ok (.iload 6, 2) := by decide +kernel
theorem dL_law_318 : decode cL_law 318 = .ok (.i2l, 1) := by decide +kernel
theorem dL_law_319 : decode cL_law 319 = .ok (.lcmp, 1) := by decide +kernel
theorem dL_law_320 : decode cL_law 320 = .ok (.ifCond .eq 5, 3) := by decide +kernel
theorem dL_law_323 : decode cL_law 323 = .ok (.iconst 0, 1) := by decide +kernel
theorem dL_law_324 : decode cL_law 324 = .ok (.ireturn, 1) := by decide +kernel
theorem dL_law_325 : decode cL_law 325 = .ok (.goto 1190, 3) := by decide +kernel
theorem dL_law_328 : decode cL_law 328 = .ok (.aload_n 1, 1) := by decide +kernel
theorem dL_law_329 : decode cL_law 329 = .ok (.aload_n 0, 1) := by decide +kernel
theorem dL_law_330 : decode cL_law 330 = .ok (.iload 4, 2) := by decide +kernel
theorem dL_law_332 : decode cL_law 332 = .ok (.iconst 1, 1) := by decide +kernel
theorem dL_law_333 : decode cL_law 333 = .ok (.iadd, 1) := by decide +kernel
theorem dL_law_334 : decode cL_law 334 = .ok (.iaload, 1) := by decide +kernel
theorem dL_law_335 : decode cL_law 335 = .ok (.aload_n 0, 1) := by decide +kernel
theorem dL_law_336 : decode cL_law 336 = .ok (.iload 4, 2) := by decide +kernel
theorem dL_law_338 : decode cL_law 338 = .ok (.iconst 2, 1) := by decide +kernel
theorem dL_law_339 : decode cL_law 339 = .ok (.iadd, 1) := by decide +kernel
theorem dL_law_340 : decode cL_law 340 = .ok (.iaload, 1) := by decide +kernel
theorem dL_law_341 : decode cL_law 341 = .ok (.aload_n 3, 1) := by decide +kernel
theorem dL_law_342 : decode cL_law 342 = .ok (.invokestatic 97, 3) := by decide +kernel
theorem dL_law_345 : decode cL_law 345 = .ok (.istore 5, 2) := by decide +kernel
theorem dL_law_347 : decode cL_law 347 = .ok (.aload_n 2, 1) := by decide +kernel
theorem dL_law_348 : decode cL_law 348 = .ok (.aload_n 0, 1) := by decide +kernel
theorem dL_law_349 : decode cL_law 349 = .ok (.iload 4, 2) := by decide +kernel
theorem dL_law_351 : decode cL_law 351 = .ok (.iconst 1, 1) := by decide +kernel
theorem dL_law_352 : decode cL_law 352 = .ok (.iadd, 1) := by decide +kernel
theorem dL_law_353 : decode cL_law 353 = .ok (.iaload, 1) := by decide +kernel
theorem dL_law_354 : decode cL_law 354 = .ok (.aload_n 0, 1) := by decide +kernel
theorem dL_law_355 : decode cL_law 355 = .ok (.iload 4, 2) := by decide +kernel
theorem dL_law_357 : decode cL_law 357 = .ok (.iconst 2, 1) := by decide +kernel
theorem dL_law_358 : decode cL_law 358 = .ok (.iadd, 1) := by decide +kernel
theorem dL_law_359 : decode cL_law 359 = .ok (.iaload, 1) := by decide +kernel
theorem dL_law_360 : decode cL_law 360 = .ok (.invokevirtual 100, 3) := by decide +kernel
theorem dL_law_363 : decode cL_law 363 = .ok (.istore 6, 2) := by decide +kernel
theorem dL_law_365 : decode cL_law 365 = .ok (.aload_n 2, 1) := by decide +kernel
theorem dL_law_366 : decode cL_law 366 = .ok (.invokevirtual 90, 3) := by decide +kernel
theorem dL_law_369 : decode cL_law 369 = .ok (.iload 5, 2) := by decide +kernel
theorem dL_law_371 : decode cL_law 371 = .ok (.if_icmp .eq 5, 3) := by decide +kernel
theorem dL_law_374 : decode cL_law 374 = .ok (.iconst 0, 1) := by decide +kernel
theorem dL_law_375 : decode cL_law 375 = .ok (.ireturn, 1) := by decide +kernel
theorem dL_law_376 : decode cL_law 376 = .ok (.iload 5, 2) := by decide +kernel
theorem dL_law_378 : decode cL_law 378 = .ok (.ifCond .ne 15, 3) := by decide +kernel
theorem dL_law_381 : decode cL_law 381 = .ok (.aload_n 3, 1) := by decide +kernel
theorem dL_law_382 : decode cL_law 382 = .ok (.iconst 0, 1) := by decide +kernel
theorem dL_law_383 : decode cL_law 383 = .ok (.laload, 1) := by decide +kernel
theorem dL_law_384 : decode cL_law 384 = .ok (.iload 6, 2) := by decide +kernel
theorem dL_law_386 : decode cL_law 386 = .ok (.i2l, 1) := by decide +kernel
theorem dL_law_387 : decode cL_law 387 = .ok (.lcmp, 1) := by decide +kernel
theorem dL_law_388 : decode cL_law 388 = .ok (.ifCond .eq 5, 3) := by decide +kernel
theorem dL_law_391 : decode cL_law 391 = .ok (.iconst 0, 1) := by decide +kernel
theorem dL_law_392 : decode cL_law 392 = .ok (.ireturn, 1) := by decide +kernel
theorem dL_law_393 : decode cL_law 393 = .ok (.goto 1122, 3) := by decide +kernel
theorem dL_law_396 : decode cL_law 396 = .ok (.aload_n 1, 1) := by decide +kernel
theorem dL_law_397 : decode cL_law 397 = .ok (.aload_n 0, 1) := by decide +kernel
theorem dL_law_398 : decode cL_law 398 = .ok (.iload 4, 2) := by decide +kernel
theorem dL_law_400 : decode cL_law 400 = .ok (.iconst 1, 1) := by decide +kernel
theorem dL_law_401 : decode cL_law 401 = .ok (.iadd, 1) := by decide +kernel
theorem dL_law_402 : decode cL_law 402 = .ok (.iaload, 1) := by decide +kernel
theorem dL_law_403 : decode cL_law 403 = .ok (.aload_n 3, 1) := by decide +kernel
theorem dL_law_404 : decode cL_law 404 = .ok (.invokestatic 101, 3) := by decide +kernel
theorem dL_law_407 : decode cL_law 407 = .ok (.istore 5, 2) := by decide +kernel
theorem dL_law_409 : decode cL_law 409 = .ok (.aload_n 2, 1) := by decide +kernel
theorem dL_law_410 : decode cL_law 410 = .ok (.aload_n 0, 1) := by decide +kernel
theorem dL_law_411 : decode cL_law 411 = .ok (.iload 4, 2) := by decide +kernel
theorem dL_law_413 : decode cL_law 413 = .ok (.iconst 1, 1) := by decide +kernel
theorem dL_law_414 : decode cL_law 414 = .ok (.iadd, 1) := by decide +kernel
theorem dL_law_415 : decode cL_law 415 = .ok (.iaload, 1) := by decide +kernel
theorem dL_law_416 : decode cL_law 416 = .ok (.invokevirtual 104, 3) := by decide +kernel
theorem dL_law_419 : decode cL_law 419 = .ok (.istore 6, 2) := by decide +kernel
theorem dL_law_421 : decode cL_law 421 = .ok (.aload_n 2, 1) := by decide +kernel
theorem dL_law_422 : decode cL_law 422 = .ok (.invokevirtual 90, 3) := by decide +kernel
theorem dL_law_425 : decode cL_law 425 = .ok (.iload 5, 2) := by decide +kernel
theorem dL_law_427 : decode cL_law 427 = .ok (.if_icmp .eq 5, 3) := by decide +kernel
theorem dL_law_430 : decode cL_law 430 = .ok (.iconst 0, 1) := by decide +kernel
theorem dL_law_431 : decode cL_law 431 = .ok (.ireturn, 1) := by decide +kernel
theorem dL_law_432 : decode cL_law 432 = .ok (.iload 5, 2) := by decide +kernel
theorem dL_law_434 : decode cL_law 434 = .ok (.ifCond .ne 15, 3) := by decide +kernel
theorem dL_law_437 : decode cL_law 437 = .ok (.aload_n 3, 1) := by decide +kernel
theorem dL_law_438 : decode cL_law 438 = .ok (.iconst 0, 1) := by decide +kernel
theorem dL_law_439 : decode cL_law 439 = .ok (.laload, 1) := by decide +kernel
theorem dL_law_440 : decode cL_law 440 = .ok (.iload 6, 2) := by decide +kernel
theorem dL_law_442 : decode cL_law 442 = .ok (.i2l, 1) := by decide +kernel
theorem dL_law_443 : decode cL_law 443 = .ok (.lcmp, 1) := by decide +kernel
theorem dL_law_444 : decode cL_law 444 = .ok (.ifCond .eq 5, 3) := by decide +kernel
theorem dL_law_447 : decode cL_law 447 = .ok (.iconst 0, 1) := by decide +kernel
theorem dL_law_448 : decode cL_law 448 = .ok (.ireturn, 1) := by decide +kernel
theorem dL_law_449 : decode cL_law 449 = .ok (.goto 1066, 3) := by decide +kernel
theorem dL_law_452 : decode cL_law 452 = .ok (.aload_n 1, 1) := by decide +kernel
theorem dL_law_453 : decode cL_law 453 = .ok (.aload_n 0, 1) := by decide +kernel
theorem dL_law_454 : decode cL_law 454 = .ok (.iload 4, 2) := by decide +kernel
theorem dL_law_456 : decode cL_law 456 = .ok (.iconst 1, 1) := by decide +kernel
theorem dL_law_457 : decode cL_law 457 = .ok (.iadd, 1) := by decide +kernel
theorem dL_law_458 : decode cL_law 458 = .ok (.iaload, 1) := by decide +kernel
theorem dL_law_459 : decode cL_law 459 = .ok (.aload_n 3, 1) := by decide +kernel
theorem dL_law_460 : decode cL_law 460 = .ok (.invokestatic 105, 3) := by decide +kernel
theorem dL_law_463 : decode cL_law 463 = .ok (.istore 5, 2) := by decide +kernel
theorem dL_law_465 : decode cL_law 465 = .ok (.aload_n 2, 1) := by decide +kernel
theorem dL_law_466 : decode cL_law 466 = .ok (.aload_n 0, 1) := by decide +kernel
theorem dL_law_467 : decode cL_law 467 = .ok (.iload 4, 2) := by decide +kernel
theorem dL_law_469 : decode cL_law 469 = .ok (.iconst 1, 1) := by decide +kernel
theorem dL_law_470 : decode cL_law 470 = .ok (.iadd, 1) := by decide +kernel
theorem dL_law_471 : decode cL_law 471 = .ok (.iaload, 1) := by decide +kernel
theorem dL_law_472 : decode cL_law 472 = .ok (.invokevirtual 107, 3) := by decide +kernel
theorem dL_law_475 : decode cL_law 475 = .ok (.istore 6, 2) := by decide +kernel
theorem dL_law_477 : decode cL_law 477 = .ok (.aload_n 2, 1) := by decide +kernel
theorem dL_law_478 : decode cL_law 478 = .ok (.invokevirtual 90, 3) := by decide +kernel
theorem dL_law_481 : decode cL_law 481 = .ok (.iload 5, 2) := by decide +kernel
theorem dL_law_483 : decode cL_law 483 = .ok (.if_icmp .eq 5, 3) := by decide +kernel
theorem dL_law_486 : decode cL_law 486 = .ok (.iconst 0, 1) := by decide +kernel
theorem dL_law_487 : decode cL_law 487 = .ok (.ireturn, 1) := by decide +kernel
theorem dL_law_488 : decode cL_law 488 = .ok (.iload 5, 2) := by decide +kernel
theorem dL_law_490 : decode cL_law 490 = .ok (.ifCond .ne 15, 3) := by decide +kernel
theorem dL_law_493 : decode cL_law 493 = .ok (.aload_n 3, 1) := by decide +kernel
theorem dL_law_494 : decode cL_law 494 = .ok (.iconst 0, 1) := by decide +kernel
theorem dL_law_495 : decode cL_law 495 = .ok (.laload, 1) := by decide +kernel
theorem dL_law_496 : decode cL_law 496 = .ok (.iload 6, 2) := by decide +kernel
theorem dL_law_498 : decode cL_law 498 = .ok (.i2l, 1) := by decide +kernel
theorem dL_law_499 : decode cL_law 499 = .ok (.lcmp, 1) := by decide +kernel
theorem dL_law_500 : decode cL_law 500 = .ok (.ifCond .eq 5, 3) := by decide +kernel
theorem dL_law_503 : decode cL_law 503 = .ok (.iconst 0, 1) := by decide +kernel
theorem dL_law_504 : decode cL_law 504 = .ok (.ireturn, 1) := by decide +kernel
theorem dL_law_505 : decode cL_law 505 = .ok (.goto 1010, 3) := by decide +kernel
theorem dL_law_508 : decode cL_law 508 = .ok (.aload_n 1, 1) := by decide +kernel
theorem dL_law_509 : decode cL_law 509 = .ok (.aload_n 0, 1) := by decide +kernel
theorem dL_law_510 : decode cL_law 510 = .ok (.iload 4, 2) := by decide +kernel
theorem dL_law_512 : decode cL_law 512 = .ok (.iconst 1, 1) := by decide +kernel
theorem dL_law_513 : decode cL_law 513 = .ok (.iadd, 1) := by decide +kernel
theorem dL_law_514 : decode cL_law 514 = .ok (.iaload, 1) := by decide +kernel
theorem dL_law_515 : decode cL_law 515 = .ok (.aload_n 3, 1) := by decide +kernel
theorem dL_law_516 : decode cL_law 516 = .ok (.invokestatic 108, 3) := by decide +kernel
theorem dL_law_519 : decode cL_law 519 = .ok (.istore 5, 2) := by decide +kernel
theorem dL_law_521 : decode cL_law 521 = .ok (.aload_n 2, 1) := by decide +kernel
theorem dL_law_522 : decode cL_law 522 = .ok (.aload_n 0, 1) := by decide +kernel
theorem dL_law_523 : decode cL_law 523 = .ok (.iload 4, 2) := by decide +kernel
theorem dL_law_525 : decode cL_law 525 = .ok (.iconst 1, 1) := by decide +kernel
theorem dL_law_526 : decode cL_law 526 = .ok (.iadd, 1) := by decide +kernel
theorem dL_law_527 : decode cL_law 527 = .ok (.iaload, 1) := by decide +kernel
theorem dL_law_528 : decode cL_law 528 = .ok (.invokevirtual 110, 3) := by decide +kernel
theorem dL_law_531 : decode cL_law 531 = .ok (.istore 6, 2) := by decide +kernel
theorem dL_law_533 : decode cL_law 533 = .ok (.aload_n 2, 1) := by decide +kernel
theorem dL_law_534 : decode cL_law 534 = .ok (.invokevirtual 90, 3) := by decide +kernel
theorem dL_law_537 : decode cL_law 537 = .ok (.iload 5, 2) := by decide +kernel
theorem dL_law_539 : decode cL_law 539 = .ok (.if_icmp .eq 5, 3) := by decide +kernel
theorem dL_law_542 : decode cL_law 542 = .ok (.iconst 0, 1) := by decide +kernel
theorem dL_law_543 : decode cL_law 543 = .ok (.ireturn, 1) := by decide +kernel
theorem dL_law_544 : decode cL_law 544 = .ok (.iload 5, 2) := by decide +kernel
theorem dL_law_546 : decode cL_law 546 = .ok (.ifCond .ne 15, 3) := by decide +kernel
theorem dL_law_549 : decode cL_law 549 = .ok (.aload_n 3, 1) := by decide +kernel
theorem dL_law_550 : decode cL_law 550 = .ok (.iconst 0, 1) := by decide +kernel
theorem dL_law_551 : decode cL_law 551 = .ok (.laload, 1) := by decide +kernel
theorem dL_law_552 : decode cL_law 552 = .ok (.iload 6, 2) := by decide +kernel
theorem dL_law_554 : decode cL_law 554 = .ok (.i2l, 1) := by decide +kernel
theorem dL_law_555 : decode cL_law 555 = .ok (.lcmp, 1) := by decide +kernel
theorem dL_law_556 : decode cL_law 556 = .ok (.ifCond .eq 5, 3) := by decide +kernel
theorem dL_law_559 : decode cL_law 559 = .ok (.iconst 0, 1) := by decide +kernel
theorem dL_law_560 : decode cL_law 560 = .ok (.ireturn, 1) := by decide +kernel
theorem dL_law_561 : decode cL_law 561 = .ok (.goto 954, 3) := by decide +kernel
theorem dL_law_564 : decode cL_law 564 = .ok (.aload_n 1, 1) := by decide +kernel
theorem dL_law_565 : decode cL_law 565 = .ok (.aload_n 0, 1) := by decide +kernel
theorem dL_law_566 : decode cL_law 566 = .ok (.iload 4, 2) := by decide +kernel
theorem dL_law_568 : decode cL_law 568 = .ok (.iconst 1, 1) := by decide +kernel
theorem dL_law_569 : decode cL_law 569 = .ok (.iadd, 1) := by decide +kernel
theorem dL_law_570 : decode cL_law 570 = .ok (.iaload, 1) := by decide +kernel
theorem dL_law_571 : decode cL_law 571 = .ok (.aload_n 3, 1) := by decide +kernel
theorem dL_law_572 : decode cL_law 572 = .ok (.invokestatic 111, 3) := by decide +kernel
theorem dL_law_575 : decode cL_law 575 = .ok (.istore 5, 2) := by decide +kernel
theorem dL_law_577 : decode cL_law 577 = .ok (.aload_n 2, 1) := by decide +kernel
theorem dL_law_578 : decode cL_law 578 = .ok (.aload_n 0, 1) := by decide +kernel
theorem dL_law_579 : decode cL_law 579 = .ok (.iload 4, 2) := by decide +kernel
theorem dL_law_581 : decode cL_law 581 = .ok (.iconst 1, 1) := by decide +kernel
theorem dL_law_582 : decode cL_law 582 = .ok (.iadd, 1) := by decide +kernel
theorem dL_law_583 : decode cL_law 583 = .ok (.iaload, 1) := by decide +kernel
theorem dL_law_584 : decode cL_law 584 = .ok (.invokevirtual 113, 3) := by decide +kernel
theorem dL_law_587 : decode cL_law 587 = .ok (.istore 6, 2) := by decide +kernel
theorem dL_law_589 : decode cL_law 589 = .ok (.aload_n 2, 1) := by decide +kernel
theorem dL_law_590 : decode cL_law 590 = .ok (.invokevirtual 90, 3) := by decide +kernel
theorem dL_law_593 : decode cL_law 593 = .ok (.iload 5, 2) := by decide +kernel
theorem dL_law_595 : decode cL_law 595 = .ok (.if_icmp .eq 5, 3) := by decide +kernel
theorem dL_law_598 : decode cL_law 598 = .ok (.iconst 0, 1) := by decide +kernel
theorem dL_law_599 : decode cL_law 599 = .ok (.ireturn, 1) := by decide +kernel
theorem dL_law_600 : decode cL_law 600 = .ok (.iload 5, 2) := by decide +kernel
theorem dL_law_602 : decode cL_law 602 = .ok (.ifCond .ne 15, 3) := by decide +kernel
theorem dL_law_605 : decode cL_law 605 = .ok (.aload_n 3, 1) := by decide +kernel
theorem dL_law_606 : decode cL_law 606 = .ok (.iconst 0, 1) := by decide +kernel
theorem dL_law_607 : decode cL_law 607 = .ok (.laload, 1) := by decide +kernel
theorem dL_law_608 : decode cL_law 608 = .ok (.iload 6, 2) := by decide +kernel
theorem dL_law_610 : decode cL_law 610 = .ok (.i2l, 1) := by decide +kernel
theorem dL_law_611 : decode cL_law 611 = .ok (.lcmp, 1) := by decide +kernel
theorem dL_law_612 : decode cL_law 612 = .ok (.ifCond .eq 5, 3) := by decide +kernel
theorem dL_law_615 : decode cL_law 615 = .ok (.iconst 0, 1) := by decide +kernel
theorem dL_law_616 : decode cL_law 616 = .ok (.ireturn, 1) := by decide +kernel
theorem dL_law_617 : decode cL_law 617 = .ok (.goto 898, 3) := by decide +kernel
theorem dL_law_620 : decode cL_law 620 = .ok (.aload_n 1, 1) := by decide +kernel
theorem dL_law_621 : decode cL_law 621 = .ok (.aload_n 0, 1) := by decide +kernel
theorem dL_law_622 : decode cL_law 622 = .ok (.iload 4, 2) := by decide +kernel
theorem dL_law_624 : decode cL_law 624 = .ok (.iconst 1, 1) := by decide +kernel
theorem dL_law_625 : decode cL_law 625 = .ok (.iadd, 1) := by decide +kernel
theorem dL_law_626 : decode cL_law 626 = .ok (.iaload, 1) := by decide +kernel
theorem dL_law_627 : decode cL_law 627 = .ok (.aload_n 0, 1) := by decide +kernel
theorem dL_law_628 : decode cL_law 628 = .ok (.iload 4, 2) := by decide +kernel
theorem dL_law_630 : decode cL_law 630 = .ok (.iconst 2, 1) := by decide +kernel
theorem dL_law_631 : decode cL_law 631 = .ok (.iadd, 1) := by decide +kernel
theorem dL_law_632 : decode cL_law 632 = .ok (.iaload, 1) := by decide +kernel
theorem dL_law_633 : decode cL_law 633 = .ok (.aload_n 3, 1) := by decide +kernel
theorem dL_law_634 : decode cL_law 634 = .ok (.invokestatic 114, 3) := by decide +kernel
theorem dL_law_637 : decode cL_law 637 = .ok (.istore 5, 2) := by decide +kernel
theorem dL_law_639 : decode cL_law 639 = .ok (.aload_n 2, 1) := by decide +kernel
theorem dL_law_640 : decode cL_law 640 = .ok (.aload_n 0, 1) := by decide +kernel
theorem dL_law_641 : decode cL_law 641 = .ok (.iload 4, 2) := by decide +kernel
theorem dL_law_643 : decode cL_law 643 = .ok (.iconst 1, 1) := by decide +kernel
theorem dL_law_644 : decode cL_law 644 = .ok (.iadd, 1) := by decide +kernel
theorem dL_law_645 : decode cL_law 645 = .ok (.iaload, 1) := by decide +kernel
theorem dL_law_646 : decode cL_law 646 = .ok (.aload_n 0, 1) := by decide +kernel
theorem dL_law_647 : decode cL_law 647 = .ok (.iload 4, 2) := by decide +kernel
theorem dL_law_649 : decode cL_law 649 = .ok (.iconst 2, 1) := by decide +kernel
theorem dL_law_650 : decode cL_law 650 = .ok (.iadd, 1) := by decide +kernel
theorem dL_law_651 : decode cL_law 651 = .ok (.iaload, 1) := by decide +kernel
theorem dL_law_652 : decode cL_law 652 = .ok (.invokevirtual 116, 3) := by decide +kernel
theorem dL_law_655 : decode cL_law 655 = .ok (.istore 6, 2) := by decide +kernel
theorem dL_law_657 : decode cL_law 657 = .ok (.aload_n 2, 1) := by decide +kernel
theorem dL_law_658 : decode cL_law 658 = .ok (.invokevirtual 90, 3) := by decide +kernel
theorem dL_law_661 : decode cL_law 661 = .ok (.iload 5, 2) := by decide +kernel
theorem dL_law_663 : decode cL_law 663 = .ok (.if_icmp .eq 5, 3) := by decide +kernel
theorem dL_law_666 : decode cL_law 666 = .ok (.iconst 0, 1) := by decide +kernel
theorem dL_law_667 : decode cL_law 667 = .ok (.ireturn, 1) := by decide +kernel
theorem dL_law_668 : decode cL_law 668 = .ok (.iload 5, 2) := by decide +kernel
theorem dL_law_670 : decode cL_law 670 = .ok (.ifCond .ne 15, 3) := by decide +kernel
theorem dL_law_673 : decode cL_law 673 = .ok (.aload_n 3, 1) := by decide +kernel
theorem dL_law_674 : decode cL_law 674 = .ok (.iconst 0, 1) := by decide +kernel
theorem dL_law_675 : decode cL_law 675 = .ok (.laload, 1) := by decide +kernel
theorem dL_law_676 : decode cL_law 676 = .ok (.iload 6, 2) := by decide +kernel
theorem dL_law_678 : decode cL_law 678 = .ok (.i2l, 1) := by decide +kernel
theorem dL_law_679 : decode cL_law 679 = .ok (.lcmp, 1) := by decide +kernel
theorem dL_law_680 : decode cL_law 680 = .ok (.ifCond .eq 5, 3) := by decide +kernel
theorem dL_law_683 : decode cL_law 683 = .ok (.iconst 0, 1) := by decide +kernel
theorem dL_law_684 : decode cL_law 684 = .ok (.ireturn, 1) := by decide +kernel
theorem dL_law_685 : decode cL_law 685 = .ok (.goto 830, 3) := by decide +kernel
theorem dL_law_688 : decode cL_law 688 = .ok (.aload_n 1, 1) := by decide +kernel
theorem dL_law_689 : decode cL_law 689 = .ok (.aload_n 0, 1) := by decide +kernel
theorem dL_law_690 : decode cL_law 690 = .ok (.iload 4, 2) := by decide +kernel
theorem dL_law_692 : decode cL_law 692 = .ok (.iconst 1, 1) := by decide +kernel
theorem dL_law_693 : decode cL_law 693 = .ok (.iadd, 1) := by decide +kernel
theorem dL_law_694 : decode cL_law 694 = .ok (.iaload, 1) := by decide +kernel
theorem dL_law_695 : decode cL_law 695 = .ok (.aload_n 0, 1) := by decide +kernel
theorem dL_law_696 : decode cL_law 696 = .ok (.iload 4, 2) := by decide +kernel
theorem dL_law_698 : decode cL_law 698 = .ok (.iconst 2, 1) := by decide +kernel
theorem dL_law_699 : decode cL_law 699 = .ok (.iadd, 1) := by decide +kernel
theorem dL_law_700 : decode cL_law 700 = .ok (.iaload, 1) := by decide +kernel
theorem dL_law_701 : decode cL_law 701 = .ok (.aload_n 3, 1) := by decide +kernel
theorem dL_law_702 : decode cL_law 702 = .ok (.invokestatic 117, 3) := by decide +kernel
theorem dL_law_705 : decode cL_law 705 = .ok (.istore 5, 2) := by decide +kernel
theorem dL_law_707 : decode cL_law 707 = .ok (.aload_n 2, 1) := by decide +kernel
theorem dL_law_708 : decode cL_law 708 = .ok (.aload_n 0, 1) := by decide +kernel
theorem dL_law_709 : decode cL_law 709 = .ok (.iload 4, 2) := by decide +kernel
theorem dL_law_711 : decode cL_law 711 = .ok (.iconst 1, 1) := by decide +kernel
theorem dL_law_712 : decode cL_law 712 = .ok (.iadd, 1) := by decide +kernel
theorem dL_law_713 : decode cL_law 713 = .ok (.iaload, 1) := by decide +kernel
theorem dL_law_714 : decode cL_law 714 = .ok (.aload_n 0, 1) := by decide +kernel
theorem dL_law_715 : decode cL_law 715 = .ok (.iload 4, 2) := by decide +kernel
theorem dL_law_717 : decode cL_law 717 = .ok (.iconst 2, 1) := by decide +kernel
theorem dL_law_718 : decode cL_law 718 = .ok (.iadd, 1) := by decide +kernel
theorem dL_law_719 : decode cL_law 719 = .ok (.iaload, 1) := by decide +kernel
theorem dL_law_720 : decode cL_law 720 = .ok (.invokevirtual 119, 3) := by decide +kernel
theorem dL_law_723 : decode cL_law 723 = .ok (.istore 6, 2) := by decide +kernel
theorem dL_law_725 : decode cL_law 725 = .ok (.aload_n 2, 1) := by decide +kernel
theorem dL_law_726 : decode cL_law 726 = .ok (.invokevirtual 90, 3) := by decide +kernel
theorem dL_law_729 : decode cL_law 729 = .ok (.iload 5, 2) := by decide +kernel
theorem dL_law_731 : decode cL_law 731 = .ok (.if_icmp .eq 5, 3) := by decide +kernel
theorem dL_law_734 : decode cL_law 734 = .ok (.iconst 0, 1) := by decide +kernel
theorem dL_law_735 : decode cL_law 735 = .ok (.ireturn, 1) := by decide +kernel
theorem dL_law_736 : decode cL_law 736 = .ok (.iload 5, 2) := by decide +kernel
theorem dL_law_738 : decode cL_law 738 = .ok (.ifCond .ne 15, 3) := by decide +kernel
theorem dL_law_741 : decode cL_law 741 = .ok (.aload_n 3, 1) := by decide +kernel
theorem dL_law_742 : decode cL_law 742 = .ok (.iconst 0, 1) := by decide +kernel
theorem dL_law_743 : decode cL_law 743 = .ok (.laload, 1) := by decide +kernel
theorem dL_law_744 : decode cL_law 744 = .ok (.iload 6, 2) := by decide +kernel
theorem dL_law_746 : decode cL_law 746 = .ok (.i2l, 1) := by decide +kernel
theorem dL_law_747 : decode cL_law 747 = .ok (.lcmp, 1) := by decide +kernel
theorem dL_law_748 : decode cL_law 748 = .ok (.ifCond .eq 5, 3) := by decide +kernel
theorem dL_law_751 : decode cL_law 751 = .ok (.iconst 0, 1) := by decide +kernel
theorem dL_law_752 : decode cL_law 752 = .ok (.ireturn, 1) := by decide +kernel
theorem dL_law_753 : decode cL_law 753 = .ok (.goto 762, 3) := by decide +kernel
theorem dL_law_756 : decode cL_law 756 = .ok (.aload_n 1, 1) := by decide +kernel
theorem dL_law_757 : decode cL_law 757 = .ok (.aload_n 0, 1) := by decide +kernel
theorem dL_law_758 : decode cL_law 758 = .ok (.iload 4, 2) := by decide +kernel
theorem dL_law_760 : decode cL_law 760 = .ok (.iconst 1, 1) := by decide +kernel
theorem dL_law_761 : decode cL_law 761 = .ok (.iadd, 1) := by decide +kernel
theorem dL_law_762 : decode cL_law 762 = .ok (.iaload, 1) := by decide +kernel
theorem dL_law_763 : decode cL_law 763 = .ok (.aload_n 3, 1) := by decide +kernel
theorem dL_law_764 : decode cL_law 764 = .ok (.invokestatic 120, 3) := by decide +kernel
theorem dL_law_767 : decode cL_law 767 = .ok (.istore 5, 2) := by decide +kernel
theorem dL_law_769 : decode cL_law 769 = .ok (.aload_n 2, 1) := by decide +kernel
theorem dL_law_770 : decode cL_law 770 = .ok (.aload_n 0, 1) := by decide +kernel
theorem dL_law_771 : decode cL_law 771 = .ok (.iload 4, 2) := by decide +kernel
theorem dL_law_773 : decode cL_law 773 = .ok (.iconst 1, 1) := by decide +kernel
theorem dL_law_774 : decode cL_law 774 = .ok (.iadd, 1) := by decide +kernel
theorem dL_law_775 : decode cL_law 775 = .ok (.iaload, 1) := by decide +kernel
theorem dL_law_776 : decode cL_law 776 = .ok (.invokevirtual 122, 3) := by decide +kernel
theorem dL_law_779 : decode cL_law 779 = .ok (.istore 6, 2) := by decide +kernel
theorem dL_law_781 : decode cL_law 781 = .ok (.aload_n 2, 1) := by decide +kernel
theorem dL_law_782 : decode cL_law 782 = .ok (.invokevirtual 90, 3) := by decide +kernel
theorem dL_law_785 : decode cL_law 785 = .ok (.iload 5, 2) := by decide +kernel
theorem dL_law_787 : decode cL_law 787 = .ok (.if_icmp .eq 5, 3) := by decide +kernel
theorem dL_law_790 : decode cL_law 790 = .ok (.iconst 0, 1) := by decide +kernel
theorem dL_law_791 : decode cL_law 791 = .ok (.ireturn, 1) := by decide +kernel
theorem dL_law_792 : decode cL_law 792 = .ok (.iload 5, 2) := by decide +kernel
theorem dL_law_794 : decode cL_law 794 = .ok (.ifCond .ne 15, 3) := by decide +kernel
theorem dL_law_797 : decode cL_law 797 = .ok (.aload_n 3, 1) := by decide +kernel
theorem dL_law_798 : decode cL_law 798 = .ok (.iconst 0, 1) := by decide +kernel
theorem dL_law_799 : decode cL_law 799 = .ok (.laload, 1) := by decide +kernel
theorem dL_law_800 : decode cL_law 800 = .ok (.iload 6, 2) := by decide +kernel
theorem dL_law_802 : decode cL_law 802 = .ok (.i2l, 1) := by decide +kernel
theorem dL_law_803 : decode cL_law 803 = .ok (.lcmp, 1) := by decide +kernel
theorem dL_law_804 : decode cL_law 804 = .ok (.ifCond .eq 5, 3) := by decide +kernel
theorem dL_law_807 : decode cL_law 807 = .ok (.iconst 0, 1) := by decide +kernel
theorem dL_law_808 : decode cL_law 808 = .ok (.ireturn, 1) := by decide +kernel
theorem dL_law_809 : decode cL_law 809 = .ok (.goto 706, 3) := by decide +kernel
theorem dL_law_812 : decode cL_law 812 = .ok (.aload_n 1, 1) := by decide +kernel
theorem dL_law_813 : decode cL_law 813 = .ok (.aload_n 0, 1) := by decide +kernel
theorem dL_law_814 : decode cL_law 814 = .ok (.iload 4, 2) := by decide +kernel
theorem dL_law_816 : decode cL_law 816 = .ok (.iconst 1, 1) := by decide +kernel
theorem dL_law_817 : decode cL_law 817 = .ok (.iadd, 1) := by decide +kernel
theorem dL_law_818 : decode cL_law 818 = .ok (.iaload, 1) := by decide +kernel
theorem dL_law_819 : decode cL_law 819 = .ok (.aload_n 3, 1) := by decide +kernel
theorem dL_law_820 : decode cL_law 820 = .ok (.invokestatic 123, 3) := by decide +kernel
theorem dL_law_823 : decode cL_law 823 = .ok (.istore 5, 2) := by decide +kernel
theorem dL_law_825 : decode cL_law 825 = .ok (.aload_n 2, 1) := by decide +kernel
theorem dL_law_826 : decode cL_law 826 = .ok (.aload_n 0, 1) := by decide +kernel
theorem dL_law_827 : decode cL_law 827 = .ok (.iload 4, 2) := by decide +kernel
theorem dL_law_829 : decode cL_law 829 = .ok (.iconst 1, 1) := by decide +kernel
theorem dL_law_830 : decode cL_law 830 = .ok (.iadd, 1) := by decide +kernel
theorem dL_law_831 : decode cL_law 831 = .ok (.iaload, 1) := by decide +kernel
theorem dL_law_832 : decode cL_law 832 = .ok (.invokevirtual 125, 3) := by decide +kernel
theorem dL_law_835 : decode cL_law 835 = .ok (.istore 6, 2) := by decide +kernel
theorem dL_law_837 : decode cL_law 837 = .ok (.aload_n 2, 1) := by decide +kernel
theorem dL_law_838 : decode cL_law 838 = .ok (.invokevirtual 90, 3) := by decide +kernel
theorem dL_law_841 : decode cL_law 841 = .ok (.iload 5, 2) := by decide +kernel
theorem dL_law_843 : decode cL_law 843 = .ok (.if_icmp .eq 5, 3) := by decide +kernel
theorem dL_law_846 : decode cL_law 846 = .ok (.iconst 0, 1) := by decide +kernel
theorem dL_law_847 : decode cL_law 847 = .ok (.ireturn, 1) := by decide +kernel
theorem dL_law_848 : decode cL_law 848 = .ok (.iload 5, 2) := by decide +kernel
theorem dL_law_850 : decode cL_law 850 = .ok (.ifCond .ne 15, 3) := by decide +kernel
theorem dL_law_853 : decode cL_law 853 = .ok (.aload_n 3, 1) := by decide +kernel
theorem dL_law_854 : decode cL_law 854 = .ok (.iconst 0, 1) := by decide +kernel
theorem dL_law_855 : decode cL_law 855 = .ok (.laload, 1) := by decide +kernel
theorem dL_law_856 : decode cL_law 856 = .ok (.iload 6, 2) := by decide +kernel
theorem dL_law_858 : decode cL_law 858 = .ok (.i2l, 1) := by decide +kernel
theorem dL_law_859 : decode cL_law 859 = .ok (.lcmp, 1) := by decide +kernel
theorem dL_law_860 : decode cL_law 860 = .ok (.ifCond .eq 5, 3) := by decide +kernel
theorem dL_law_863 : decode cL_law 863 = .ok (.iconst 0, 1) := by decide +kernel
theorem dL_law_864 : decode cL_law 864 = .ok (.ireturn, 1) := by decide +kernel
theorem dL_law_865 : decode cL_law 865 = .ok (.goto 650, 3) := by decide +kernel
theorem dL_law_868 : decode cL_law 868 = .ok (.aload_n 1, 1) := by decide +kernel
theorem dL_law_869 : decode cL_law 869 = .ok (.invokevirtual 126, 3) := by decide +kernel
theorem dL_law_872 : decode cL_law 872 = .ok (.aload_n 2, 1) := by decide +kernel
theorem dL_law_873 : decode cL_law 873 = .ok (.invokevirtual 129, 3) := by decide +kernel
theorem dL_law_876 : decode cL_law 876 = .ok (.if_icmp .eq 639, 3) := by decide +kernel
theorem dL_law_879 : decode cL_law 879 = .ok (.iconst 0, 1) := by decide +kernel
theorem dL_law_880 : decode cL_law 880 = .ok (.ireturn, 1) := by decide +kernel
theorem dL_law_881 : decode cL_law 881 = .ok (.aload_n 1, 1) := by decide +kernel
theorem dL_law_882 : decode cL_law 882 = .ok (.invokevirtual 130, 3) := by decide +kernel
theorem dL_law_885 : decode cL_law 885 = .ok (.aload_n 2, 1) := by decide +kernel
theorem dL_law_886 : decode cL_law 886 = .ok (.invokevirtual 133, 3) := by decide +kernel
theorem dL_law_889 : decode cL_law 889 = .ok (.if_icmp .eq 626, 3) := by decide +kernel
theorem dL_law_892 : decode cL_law 892 = .ok (.iconst 0, 1) := by decide +kernel
theorem dL_law_893 : decode cL_law 893 = .ok (.ireturn, 1) := by decide +kernel
theorem dL_law_894 : decode cL_law 894 = .ok (.aload_n 1, 1) := by decide +kernel
theorem dL_law_895 : decode cL_law 895 = .ok (.aload_n 3, 1) := by decide +kernel
theorem dL_law_896 : decode cL_law 896 = .ok (.invokestatic 134, 3) := by decide +kernel
theorem dL_law_899 : decode cL_law 899 = .ok (.istore 5, 2) := by decide +kernel
theorem dL_law_901 : decode cL_law 901 = .ok (.aload_n 2, 1) := by decide +kernel
theorem dL_law_902 : decode cL_law 902 = .ok (.invokevirtual 137, 3) := by decide +kernel
theorem dL_law_905 : decode cL_law 905 = .ok (.istore 6, 2) := by decide +kernel
theorem dL_law_907 : decode cL_law 907 = .ok (.aload_n 2, 1) := by decide +kernel
theorem dL_law_908 : decode cL_law 908 = .ok (.invokevirtual 90, 3) := by decide +kernel
theorem dL_law_911 : decode cL_law 911 = .ok (.iload 5, 2) := by decide +kernel
theorem dL_law_913 : decode cL_law 913 = .ok (.if_icmp .eq 5, 3) := by decide +kernel
theorem dL_law_916 : decode cL_law 916 = .ok (.iconst 0, 1) := by decide +kernel
theorem dL_law_917 : decode cL_law 917 = .ok (.ireturn, 1) := by decide +kernel
theorem dL_law_918 : decode cL_law 918 = .ok (.iload 5, 2) := by decide +kernel
theorem dL_law_920 : decode cL_law 920 = .ok (.ifCond .ne 15, 3) := by decide +kernel
theorem dL_law_923 : decode cL_law 923 = .ok (.aload_n 3, 1) := by decide +kernel
theorem dL_law_924 : decode cL_law 924 = .ok (.iconst 0, 1) := by decide +kernel
theorem dL_law_925 : decode cL_law 925 = .ok (.laload, 1) := by decide +kernel
theorem dL_law_926 : decode cL_law 926 = .ok (.iload 6, 2) := by decide +kernel
theorem dL_law_928 : decode cL_law 928 = .ok (.i2l, 1) := by decide +kernel
theorem dL_law_929 : decode cL_law 929 = .ok (.lcmp, 1) := by decide +kernel
theorem dL_law_930 : decode cL_law 930 = .ok (.ifCond .eq 5, 3) := by decide +kernel
theorem dL_law_933 : decode cL_law 933 = .ok (.iconst 0, 1) := by decide +kernel
theorem dL_law_934 : decode cL_law 934 = .ok (.ireturn, 1) := by decide +kernel
theorem dL_law_935 : decode cL_law 935 = .ok (.goto 580, 3) := by decide +kernel
theorem dL_law_938 : decode cL_law 938 = .ok (.aload_n 1, 1) := by decide +kernel
theorem dL_law_939 : decode cL_law 939 = .ok (.aload_n 3, 1) := by decide +kernel
theorem dL_law_940 : decode cL_law 940 = .ok (.invokestatic 138, 3) := by decide +kernel
theorem dL_law_943 : decode cL_law 943 = .ok (.istore 5, 2) := by decide +kernel
theorem dL_law_945 : decode cL_law 945 = .ok (.aload_n 2, 1) := by decide +kernel
theorem dL_law_946 : decode cL_law 946 = .ok (.invokevirtual 140, 3) := by decide +kernel
theorem dL_law_949 : decode cL_law 949 = .ok (.istore 6, 2) := by decide +kernel
theorem dL_law_951 : decode cL_law 951 = .ok (.aload_n 2, 1) := by decide +kernel
theorem dL_law_952 : decode cL_law 952 = .ok (.invokevirtual 90, 3) := by decide +kernel
theorem dL_law_955 : decode cL_law 955 = .ok (.iload 5, 2) := by decide +kernel
theorem dL_law_957 : decode cL_law 957 = .ok (.if_icmp .eq 5, 3) := by decide +kernel
theorem dL_law_960 : decode cL_law 960 = .ok (.iconst 0, 1) := by decide +kernel
theorem dL_law_961 : decode cL_law 961 = .ok (.ireturn, 1) := by decide +kernel
theorem dL_law_962 : decode cL_law 962 = .ok (.iload 5, 2) := by decide +kernel
theorem dL_law_964 : decode cL_law 964 = .ok (.ifCond .ne 15, 3) := by decide +kernel
theorem dL_law_967 : decode cL_law 967 = .ok (.aload_n 3, 1) := by decide +kernel
theorem dL_law_968 : decode cL_law 968 = .ok (.iconst 0, 1) := by decide +kernel
theorem dL_law_969 : decode cL_law 969 = .ok (.laload, 1) := by decide +kernel
theorem dL_law_970 : decode cL_law 970 = .ok (.iload 6, 2) := by decide +kernel
theorem dL_law_972 : decode cL_law 972 = .ok (.i2l, 1) := by decide +kernel
theorem dL_law_973 : decode cL_law 973 = .ok (.lcmp, 1) := by decide +kernel
theorem dL_law_974 : decode cL_law 974 = .ok (.ifCond .eq 5, 3) := by decide +kernel
theorem dL_law_977 : decode cL_law 977 = .ok (.iconst 0, 1) := by decide +kernel
theorem dL_law_978 : decode cL_law 978 = .ok (.ireturn, 1) := by decide +kernel
theorem dL_law_979 : decode cL_law 979 = .ok (.goto 536, 3) := by decide +kernel
theorem dL_law_982 : decode cL_law 982 = .ok (.aload_n 1, 1) := by decide +kernel
theorem dL_law_983 : decode cL_law 983 = .ok (.aload_n 0, 1) := by decide +kernel
theorem dL_law_984 : decode cL_law 984 = .ok (.iload 4, 2) := by decide +kernel
theorem dL_law_986 : decode cL_law 986 = .ok (.iconst 1, 1) := by decide +kernel
theorem dL_law_987 : decode cL_law 987 = .ok (.iadd, 1) := by decide +kernel
theorem dL_law_988 : decode cL_law 988 = .ok (.iaload, 1) := by decide +kernel
theorem dL_law_989 : decode cL_law 989 = .ok (.aload_n 0, 1) := by decide +kernel
theorem dL_law_990 : decode cL_law 990 = .ok (.iload 4, 2) := by decide +kernel
theorem dL_law_992 : decode cL_law 992 = .ok (.iconst 2, 1) := by decide +kernel
theorem dL_law_993 : decode cL_law 993 = .ok (.iadd, 1) := by decide +kernel
theorem dL_law_994 : decode cL_law 994 = .ok (.iaload, 1) := by decide +kernel
theorem dL_law_995 : decode cL_law 995 = .ok (.aload_n 3, 1) := by decide +kernel
theorem dL_law_996 : decode cL_law 996 = .ok (.invokestatic 141, 3) := by decide +kernel
theorem dL_law_999 : decode cL_law 999 = .ok (.istore 5, 2) := by decide +kernel
theorem dL_law_1001 : decode cL_law 1001 = .ok (.aload_n 2, 1) := by decide +kernel
theorem dL_law_1002 : decode cL_law 1002 = .ok (.aload_n 0, 1) := by decide +kernel
theorem dL_law_1003 : decode cL_law 1003 = .ok (.iload 4, 2) := by decide +kernel
theorem dL_law_1005 : decode cL_law 1005 = .ok (.iconst 1, 1) := by decide +kernel
theorem dL_law_1006 : decode cL_law 1006 = .ok (.iadd, 1) := by decide +kernel
theorem dL_law_1007 : decode cL_law 1007 = .ok (.iaload, 1) := by decide +kernel
theorem dL_law_1008 : decode cL_law 1008 = .ok (.aload_n 0, 1) := by decide +kernel
theorem dL_law_1009 : decode cL_law 1009 = .ok (.iload 4, 2) := by decide +kernel
theorem dL_law_1011 : decode cL_law 1011 = .ok (.iconst 2, 1) := by decide +kernel
theorem dL_law_1012 : decode cL_law 1012 = .ok (.iadd, 1) := by decide +kernel
theorem dL_law_1013 : decode cL_law 1013 = .ok (.iaload, 1) := by decide +kernel
theorem dL_law_1014 : decode cL_law 1014 = .ok (.invokevirtual 143, 3) := by decide +kernel
theorem dL_law_1017 : decode cL_law 1017 = .ok (.istore 6, 2) := by decide +kernel
theorem dL_law_1019 : decode cL_law 1019 = .ok (.aload_n 2, 1) := by decide +kernel
theorem dL_law_1020 : decode cL_law 1020 = .ok (.invokevirtual 90, 3) := by decide +kernel
theorem dL_law_1023 : decode cL_law 1023 = .ok (.iload 5, 2) := by decide +kernel
theorem dL_law_1025 : decode cL_law 1025 = .ok (.if_icmp .eq 5, 3) := by decide +kernel
theorem dL_law_1028 : decode cL_law 1028 = .ok (.iconst 0, 1) := by decide +kernel
theorem dL_law_1029 : decode cL_law 1029 = .ok (.ireturn, 1) := by decide +kernel
theorem dL_law_1030 : decode cL_law 1030 = .ok (.iload 5, 2) := by decide +kernel
theorem dL_law_1032 : decode cL_law 1032 = .ok (.ifCond .ne 15, 3) := by decide +kernel
theorem dL_law_1035 : decode cL_law 1035 = .ok (.aload_n 3, 1) := by decide +kernel
theorem dL_law_1036 : decode cL_law 1036 = .ok (.iconst 0, 1) := by decide +kernel
theorem dL_law_1037 : decode cL_law 1037 = .ok (.laload, 1) := by decide +kernel
theorem dL_law_1038 : decode cL_law 1038 = .ok (.iload 6, 2) := by decide +kernel
theorem dL_law_1040 : decode cL_law 1040 = .ok (.i2l, 1) := by decide +kernel
theorem dL_law_1041 : decode cL_law 1041 = .ok (.lcmp, 1) := by decide +kernel
theorem dL_law_1042 : decode cL_law 1042 = .ok (.ifCond .eq 5, 3) := by decide +kernel
theorem dL_law_1045 : decode cL_law 1045 = .ok (.iconst 0, 1) := by decide +kernel
theorem dL_law_1046 : decode cL_law 1046 = .ok (.ireturn, 1) := by decide +kernel
theorem dL_law_1047 : decode cL_law 1047 = .ok (.goto 468, 3) := by decide +kernel
theorem dL_law_1050 : decode cL_law 1050 = .ok (.aload_n 1, 1) := by decide +kernel
theorem dL_law_1051 : decode cL_law 1051 = .ok (.aload_n 0, 1) := by decide +kernel
theorem dL_law_1052 : decode cL_law 1052 = .ok (.iload 4, 2) := by decide +kernel
theorem dL_law_1054 : decode cL_law 1054 = .ok (.iconst 1, 1) := by decide +kernel
theorem dL_law_1055 : decode cL_law 1055 = .ok (.iadd, 1) := by decide +kernel
theorem dL_law_1056 : decode cL_law 1056 = .ok (.iaload, 1) := by decide +kernel
theorem dL_law_1057 : decode cL_law 1057 = .ok (.aload_n 0, 1) := by decide +kernel
theorem dL_law_1058 : decode cL_law 1058 = .ok (.iload 4, 2) := by decide +kernel
theorem dL_law_1060 : decode cL_law 1060 = .ok (.iconst 2, 1) := by decide +kernel
theorem dL_law_1061 : decode cL_law 1061 = .ok (.iadd, 1) := by decide +kernel
theorem dL_law_1062 : decode cL_law 1062 = .ok (.iaload, 1) := by decide +kernel
theorem dL_law_1063 : decode cL_law 1063 = .ok (.aload_n 3, 1) := by decide +kernel
theorem dL_law_1064 : decode cL_law 1064 = .ok (.invokestatic 144, 3) := by decide +kernel
theorem dL_law_1067 : decode cL_law 1067 = .ok (.istore 5, 2) := by decide +kernel
theorem dL_law_1069 : decode cL_law 1069 = .ok (.aload_n 2, 1) := by decide +kernel
theorem dL_law_1070 : decode cL_law 1070 = .ok (.aload_n 0, 1) := by decide +kernel
theorem dL_law_1071 : decode cL_law 1071 = .ok (.iload 4, 2) := by decide +kernel
theorem dL_law_1073 : decode cL_law 1073 = .ok (.iconst 1, 1) := by decide +kernel
theorem dL_law_1074 : decode cL_law 1074 = .ok (.iadd, 1) := by decide +kernel
theorem dL_law_1075 : decode cL_law 1075 = .ok (.iaload, 1) := by decide +kernel
theorem dL_law_1076 : decode cL_law 1076 = .ok (.aload_n 0, 1) := by decide +kernel
theorem dL_law_1077 : decode cL_law 1077 = .ok (.iload 4, 2) := by decide +kernel
theorem dL_law_1079 : decode cL_law 1079 = .ok (.iconst 2, 1) := by decide +kernel
theorem dL_law_1080 : decode cL_law 1080 = .ok (.iadd, 1) := by decide +kernel
theorem dL_law_1081 : decode cL_law 1081 = .ok (.iaload, 1) := by decide +kernel
theorem dL_law_1082 : decode cL_law 1082 = .ok (.invokevirtual 146, 3) := by decide +kernel
theorem dL_law_1085 : decode cL_law 1085 = .ok (.istore 6, 2) := by decide +kernel
theorem dL_law_1087 : decode cL_law 1087 = .ok (.aload_n 2, 1) := by decide +kernel
theorem dL_law_1088 : decode cL_law 1088 = .ok (.invokevirtual 90, 3) := by decide +kernel
theorem dL_law_1091 : decode cL_law 1091 = .ok (.iload 5, 2) := by decide +kernel
theorem dL_law_1093 : decode cL_law 1093 = .ok (.if_icmp .eq 5, 3) := by decide +kernel
theorem dL_law_1096 : decode cL_law 1096 = .ok (.iconst 0, 1) := by decide +kernel
theorem dL_law_1097 : decode cL_law 1097 = .ok (.ireturn, 1) := by decide +kernel
theorem dL_law_1098 : decode cL_law 1098 = .ok (.iload 5, 2) := by decide +kernel
theorem dL_law_1100 : decode cL_law 1100 = .ok (.ifCond .ne 15, 3) := by decide +kernel
theorem dL_law_1103 : decode cL_law 1103 = .ok (.aload_n 3, 1) := by decide +kernel
theorem dL_law_1104 : decode cL_law 1104 = .ok (.iconst 0, 1) := by decide +kernel
theorem dL_law_1105 : decode cL_law 1105 = .ok (.laload, 1) := by decide +kernel
theorem dL_law_1106 : decode cL_law 1106 = .ok (.iload 6, 2) := by decide +kernel
theorem dL_law_1108 : decode cL_law 1108 = .ok (.i2l, 1) := by decide +kernel
theorem dL_law_1109 : decode cL_law 1109 = .ok (.lcmp, 1) := by decide +kernel
theorem dL_law_1110 : decode cL_law 1110 = .ok (.ifCond .eq 5, 3) := by decide +kernel
theorem dL_law_1113 : decode cL_law 1113 = .ok (.iconst 0, 1) := by decide +kernel
theorem dL_law_1114 : decode cL_law 1114 = .ok (.ireturn, 1) := by decide +kernel
theorem dL_law_1115 : decode cL_law 1115 = .ok (.goto 400, 3) := by decide +kernel
theorem dL_law_1118 : decode cL_law 1118 = .ok (.aload_n 1, 1) := by decide +kernel
theorem dL_law_1119 : decode cL_law 1119 = .ok (.aload_n 0, 1) := by decide +kernel
theorem dL_law_1120 : decode cL_law 1120 = .ok (.iload 4, 2) := by decide +kernel
theorem dL_law_1122 : decode cL_law 1122 = .ok (.iconst 1, 1) := by decide +kernel
theorem dL_law_1123 : decode cL_law 1123 = .ok (.iadd, 1) := by decide +kernel
theorem dL_law_1124 : decode cL_law 1124 = .ok (.iaload, 1) := by decide +kernel
theorem dL_law_1125 : decode cL_law 1125 = .ok (.aload_n 0, 1) := by decide +kernel
theorem dL_law_1126 : decode cL_law 1126 = .ok (.iload 4, 2) := by decide +kernel
theorem dL_law_1128 : decode cL_law 1128 = .ok (.iconst 2, 1) := by decide +kernel
theorem dL_law_1129 : decode cL_law 1129 = .ok (.iadd, 1) := by decide +kernel
theorem dL_law_1130 : decode cL_law 1130 = .ok (.iaload, 1) := by decide +kernel
theorem dL_law_1131 : decode cL_law 1131 = .ok (.aload_n 3, 1) := by decide +kernel
theorem dL_law_1132 : decode cL_law 1132 = .ok (.invokestatic 147, 3) := by decide +kernel
theorem dL_law_1135 : decode cL_law 1135 = .ok (.istore 5, 2) := by decide +kernel
theorem dL_law_1137 : decode cL_law 1137 = .ok (.aload_n 2, 1) := by decide +kernel
theorem dL_law_1138 : decode cL_law 1138 = .ok (.aload_n 0, 1) := by decide +kernel
theorem dL_law_1139 : decode cL_law 1139 = .ok (.iload 4, 2) := by decide +kernel
theorem dL_law_1141 : decode cL_law 1141 = .ok (.iconst 1, 1) := by decide +kernel
theorem dL_law_1142 : decode cL_law 1142 = .ok (.iadd, 1) := by decide +kernel
theorem dL_law_1143 : decode cL_law 1143 = .ok (.iaload, 1) := by decide +kernel
theorem dL_law_1144 : decode cL_law 1144 = .ok (.aload_n 0, 1) := by decide +kernel
theorem dL_law_1145 : decode cL_law 1145 = .ok (.iload 4, 2) := by decide +kernel
theorem dL_law_1147 : decode cL_law 1147 = .ok (.iconst 2, 1) := by decide +kernel
theorem dL_law_1148 : decode cL_law 1148 = .ok (.iadd, 1) := by decide +kernel
theorem dL_law_1149 : decode cL_law 1149 = .ok (.iaload, 1) := by decide +kernel
theorem dL_law_1150 : decode cL_law 1150 = .ok (.invokevirtual 149, 3) := by decide +kernel
theorem dL_law_1153 : decode cL_law 1153 = .ok (.istore 6, 2) := by decide +kernel
theorem dL_law_1155 : decode cL_law 1155 = .ok (.aload_n 2, 1) := by decide +kernel
theorem dL_law_1156 : decode cL_law 1156 = .ok (.invokevirtual 90, 3) := by decide +kernel
theorem dL_law_1159 : decode cL_law 1159 = .ok (.iload 5, 2) := by decide +kernel
theorem dL_law_1161 : decode cL_law 1161 = .ok (.if_icmp .eq 5, 3) := by decide +kernel
theorem dL_law_1164 : decode cL_law 1164 = .ok (.iconst 0, 1) := by decide +kernel
theorem dL_law_1165 : decode cL_law 1165 = .ok (.ireturn, 1) := by decide +kernel
theorem dL_law_1166 : decode cL_law 1166 = .ok (.iload 5, 2) := by decide +kernel
theorem dL_law_1168 : decode cL_law 1168 = .ok (.ifCond .ne 15, 3) := by decide +kernel
theorem dL_law_1171 : decode cL_law 1171 = .ok (.aload_n 3, 1) := by decide +kernel
theorem dL_law_1172 : decode cL_law 1172 = .ok (.iconst 0, 1) := by decide +kernel
theorem dL_law_1173 : decode cL_law 1173 = .ok (.laload, 1) := by decide +kernel
theorem dL_law_1174 : decode cL_law 1174 = .ok (.iload 6, 2) := by decide +kernel
theorem dL_law_1176 : decode cL_law 1176 = .ok (.i2l, 1) := by decide +kernel
theorem dL_law_1177 : decode cL_law 1177 = .ok (.lcmp, 1) := by decide +kernel
theorem dL_law_1178 : decode cL_law 1178 = .ok (.ifCond .eq 5, 3) := by decide +kernel
theorem dL_law_1181 : decode cL_law 1181 = .ok (.iconst 0, 1) := by decide +kernel
theorem dL_law_1182 : decode cL_law 1182 = .ok (.ireturn, 1) := by decide +kernel
theorem dL_law_1183 : decode cL_law 1183 = .ok (.goto 332, 3) := by decide +kernel
theorem dL_law_1186 : decode cL_law 1186 = .ok (.aload_n 1, 1) := by decide +kernel
theorem dL_law_1187 : decode cL_law 1187 = .ok (.aload_n 0, 1) := by decide +kernel
theorem dL_law_1188 : decode cL_law 1188 = .ok (.iload 4, 2) := by decide +kernel
theorem dL_law_1190 : decode cL_law 1190 = .ok (.iconst 1, 1) := by decide +kernel
theorem dL_law_1191 : decode cL_law 1191 = .ok (.iadd, 1) := by decide +kernel
theorem dL_law_1192 : decode cL_law 1192 = .ok (.iaload, 1) := by decide +kernel
theorem dL_law_1193 : decode cL_law 1193 = .ok (.aload_n 3, 1) := by decide +kernel
theorem dL_law_1194 : decode cL_law 1194 = .ok (.invokestatic 150, 3) := by decide +kernel
theorem dL_law_1197 : decode cL_law 1197 = .ok (.istore 5, 2) := by decide +kernel
theorem dL_law_1199 : decode cL_law 1199 = .ok (.aload_n 2, 1) := by decide +kernel
theorem dL_law_1200 : decode cL_law 1200 = .ok (.aload_n 0, 1) := by decide +kernel
theorem dL_law_1201 : decode cL_law 1201 = .ok (.iload 4, 2) := by decide +kernel
theorem dL_law_1203 : decode cL_law 1203 = .ok (.iconst 1, 1) := by decide +kernel
theorem dL_law_1204 : decode cL_law 1204 = .ok (.iadd, 1) := by decide +kernel
theorem dL_law_1205 : decode cL_law 1205 = .ok (.iaload, 1) := by decide +kernel
theorem dL_law_1206 : decode cL_law 1206 = .ok (.invokevirtual 152, 3) := by decide +kernel
theorem dL_law_1209 : decode cL_law 1209 = .ok (.istore 6, 2) := by decide +kernel
theorem dL_law_1211 : decode cL_law 1211 = .ok (.aload_n 2, 1) := by decide +kernel
theorem dL_law_1212 : decode cL_law 1212 = .ok (.invokevirtual 90, 3) := by decide +kernel
theorem dL_law_1215 : decode cL_law 1215 = .ok (.iload 5, 2) := by decide +kernel
theorem dL_law_1217 : decode cL_law 1217 = .ok (.if_icmp .eq 5, 3) := by decide +kernel
theorem dL_law_1220 : decode cL_law 1220 = .ok (.iconst 0, 1) := by decide +kernel
theorem dL_law_1221 : decode cL_law 1221 = .ok (.ireturn, 1) := by decide +kernel
theorem dL_law_1222 : decode cL_law 1222 = .ok (.iload 5, 2) := by decide +kernel
theorem dL_law_1224 : decode cL_law 1224 = .ok (.ifCond .ne 15, 3) := by decide +kernel
theorem dL_law_1227 : decode cL_law 1227 = .ok (.aload_n 3, 1) := by decide +kernel
theorem dL_law_1228 : decode cL_law 1228 = .ok (.iconst 0, 1) := by decide +kernel
theorem dL_law_1229 : decode cL_law 1229 = .ok (.laload, 1) := by decide +kernel
theorem dL_law_1230 : decode cL_law 1230 = .ok (.iload 6, 2) := by decide +kernel
theorem dL_law_1232 : decode cL_law 1232 = .ok (.i2l, 1) := by decide +kernel
theorem dL_law_1233 : decode cL_law 1233 = .ok (.lcmp, 1) := by decide +kernel
theorem dL_law_1234 : decode cL_law 1234 = .ok (.ifCond .eq 5, 3) := by decide +kernel
theorem dL_law_1237 : decode cL_law 1237 = .ok (.iconst 0, 1) := by decide +kernel
theorem dL_law_1238 : decode cL_law 1238 = .ok (.ireturn, 1) := by decide +kernel
theorem dL_law_1239 : decode cL_law 1239 = .ok (.goto 276, 3) := by decide +kernel
theorem dL_law_1242 : decode cL_law 1242 = .ok (.aload_n 1, 1) := by decide +kernel
theorem dL_law_1243 : decode cL_law 1243 = .ok (.aload_n 0, 1) := by decide +kernel
theorem dL_law_1244 : decode cL_law 1244 = .ok (.iload 4, 2) := by decide +kernel
theorem dL_law_1246 : decode cL_law 1246 = .ok (.iconst 1, 1) := by decide +kernel
theorem dL_law_1247 : decode cL_law 1247 = .ok (.iadd, 1) := by decide +kernel
theorem dL_law_1248 : decode cL_law 1248 = .ok (.iaload, 1) := by decide +kernel
theorem dL_law_1249 : decode cL_law 1249 = .ok (.aload_n 3, 1) := by decide +kernel
theorem dL_law_1250 : decode cL_law 1250 = .ok (.invokestatic 153, 3) := by decide +kernel
theorem dL_law_1253 : decode cL_law 1253 = .ok (.istore 5, 2) := by decide +kernel
theorem dL_law_1255 : decode cL_law 1255 = .ok (.aload_n 2, 1) := by decide +kernel
theorem dL_law_1256 : decode cL_law 1256 = .ok (.aload_n 0, 1) := by decide +kernel
theorem dL_law_1257 : decode cL_law 1257 = .ok (.iload 4, 2) := by decide +kernel
theorem dL_law_1259 : decode cL_law 1259 = .ok (.iconst 1, 1) := by decide +kernel
theorem dL_law_1260 : decode cL_law 1260 = .ok (.iadd, 1) := by decide +kernel
theorem dL_law_1261 : decode cL_law 1261 = .ok (.iaload, 1) := by decide +kernel
theorem dL_law_1262 : decode cL_law 1262 = .ok (.invokevirtual 155, 3) := by decide +kernel
theorem dL_law_1265 : decode cL_law 1265 = .ok (.istore 6, 2) := by decide +kernel
theorem dL_law_1267 : decode cL_law 1267 = .ok (.aload_n 2, 1) := by decide +kernel
theorem dL_law_1268 : decode cL_law 1268 = .ok (.invokevirtual 90, 3) := by decide +kernel
theorem dL_law_1271 : decode cL_law 1271 = .ok (.iload 5, 2) := by decide +kernel
theorem dL_law_1273 : decode cL_law 1273 = .ok (.if_icmp .eq 5, 3) := by decide +kernel
theorem dL_law_1276 : decode cL_law 1276 = .ok (.iconst 0, 1) := by decide +kernel
theorem dL_law_1277 : decode cL_law 1277 = .ok (.ireturn, 1) := by decide +kernel
theorem dL_law_1278 : decode cL_law 1278 = .ok (.iload 5, 2) := by decide +kernel
theorem dL_law_1280 : decode cL_law 1280 = .ok (.ifCond .ne 15, 3) := by decide +kernel
theorem dL_law_1283 : decode cL_law 1283 = .ok (.aload_n 3, 1) := by decide +kernel
theorem dL_law_1284 : decode cL_law 1284 = .ok (.iconst 0, 1) := by decide +kernel
theorem dL_law_1285 : decode cL_law 1285 = .ok (.laload, 1) := by decide +kernel
theorem dL_law_1286 : decode cL_law 1286 = .ok (.iload 6, 2) := by decide +kernel
theorem dL_law_1288 : decode cL_law 1288 = .ok (.i2l, 1) := by decide +kernel
theorem dL_law_1289 : decode cL_law 1289 = .ok (.lcmp, 1) := by decide +kernel
theorem dL_law_1290 : decode cL_law 1290 = .ok (.ifCond .eq 5, 3) := by decide +kernel
theorem dL_law_1293 : decode cL_law 1293 = .ok (.iconst 0, 1) := by decide +kernel
theorem dL_law_1294 : decode cL_law 1294 = .ok (.ireturn, 1) := by decide +kernel
theorem dL_law_1295 : decode cL_law 1295 = .ok (.goto 220, 3) := by decide +kernel
theorem dL_law_1298 : decode cL_law 1298 = .ok (.aload_n 1, 1) := by decide +kernel
theorem dL_law_1299 : decode cL_law 1299 = .ok (.invokevirtual 156, 3) := by decide +kernel
theorem dL_law_1302 : decode cL_law 1302 = .ok (.aload_n 2, 1) := by decide +kernel
theorem dL_law_1303 : decode cL_law 1303 = .ok (.invokevirtual 159, 3) := by decide +kernel
theorem dL_law_1306 : decode cL_law 1306 = .ok (.if_icmp .eq 209, 3) := by decide +kernel
theorem dL_law_1309 : decode cL_law 1309 = .ok (.iconst 0, 1) := by decide +kernel
theorem dL_law_1310 : decode cL_law 1310 = .ok (.ireturn, 1) := by decide +kernel
theorem dL_law_1311 : decode cL_law 1311 = .ok (.aload_n 1, 1) := by decide +kernel
theorem dL_law_1312 : decode cL_law 1312 = .ok (.invokevirtual 160, 3) := by decide +kernel
theorem dL_law_1315 : decode cL_law 1315 = .ok (.aload_n 2, 1) := by decide +kernel
theorem dL_law_1316 : decode cL_law 1316 = .ok (.invokevirtual 163, 3) := by decide +kernel
theorem dL_law_1319 : decode cL_law 1319 = .ok (.if_icmp .eq 196, 3) := by decide +kernel
theorem dL_law_1322 : decode cL_law 1322 = .ok (.iconst 0, 1) := by decide +kernel
theorem dL_law_1323 : decode cL_law 1323 = .ok (.ireturn, 1) := by decide +kernel
theorem dL_law_1324 : decode cL_law 1324 = .ok (.aload_n 1, 1) := by decide +kernel
theorem dL_law_1325 : decode cL_law 1325 = .ok (.aload_n 0, 1) := by decide +kernel
theorem dL_law_1326 : decode cL_law 1326 = .ok (.iload 4, 2) := by decide +kernel
theorem dL_law_1328 : decode cL_law 1328 = .ok (.iconst 1, 1) := by decide +kernel
theorem dL_law_1329 : decode cL_law 1329 = .ok (.iadd, 1) := by decide +kernel
theorem dL_law_1330 : decode cL_law 1330 = .ok (.iaload, 1) := by decide +kernel
theorem dL_law_1331 : decode cL_law 1331 = .ok (.aload_n 0, 1) := by decide +kernel
theorem dL_law_1332 : decode cL_law 1332 = .ok (.iload 4, 2) := by decide +kernel
theorem dL_law_1334 : decode cL_law 1334 = .ok (.iconst 2, 1) := by decide +kernel
theorem dL_law_1335 : decode cL_law 1335 = .ok (.iadd, 1) := by decide +kernel
theorem dL_law_1336 : decode cL_law 1336 = .ok (.iaload, 1) := by decide +kernel
theorem dL_law_1337 : decode cL_law 1337 = .ok (.aload_n 0, 1) := by decide +kernel
theorem dL_law_1338 : decode cL_law 1338 = .ok (.iload 4, 2) := by decide +kernel
theorem dL_law_1340 : decode cL_law 1340 = .ok (.iconst 3, 1) := by decide +kernel
theorem dL_law_1341 : decode cL_law 1341 = .ok (.iadd, 1) := by decide +kernel
theorem dL_law_1342 : decode cL_law 1342 = .ok (.iaload, 1) := by decide +kernel
theorem dL_law_1343 : decode cL_law 1343 = .ok (.aload_n 3, 1) := by decide +kernel
theorem dL_law_1344 : decode cL_law 1344 = .ok (.invokestatic 164, 3) := by decide +kernel
theorem dL_law_1347 : decode cL_law 1347 = .ok (.istore 5, 2) := by decide +kernel
theorem dL_law_1349 : decode cL_law 1349 = .ok (.aload_n 2, 1) := by decide +kernel
theorem dL_law_1350 : decode cL_law 1350 = .ok (.aload_n 0, 1) := by decide +kernel
theorem dL_law_1351 : decode cL_law 1351 = .ok (.iload 4, 2) := by decide +kernel
theorem dL_law_1353 : decode cL_law 1353 = .ok (.iconst 1, 1) := by decide +kernel
theorem dL_law_1354 : decode cL_law 1354 = .ok (.iadd, 1) := by decide +kernel
theorem dL_law_1355 : decode cL_law 1355 = .ok (.iaload, 1) := by decide +kernel
theorem dL_law_1356 : decode cL_law 1356 = .ok (.aload_n 0, 1) := by decide +kernel
theorem dL_law_1357 : decode cL_law 1357 = .ok (.iload 4, 2) := by decide +kernel
theorem dL_law_1359 : decode cL_law 1359 = .ok (.iconst 2, 1) := by decide +kernel
theorem dL_law_1360 : decode cL_law 1360 = .ok (.iadd, 1) := by decide +kernel
theorem dL_law_1361 : decode cL_law 1361 = .ok (.iaload, 1) := by decide +kernel
theorem dL_law_1362 : decode cL_law 1362 = .ok (.aload_n 0, 1) := by decide +kernel
theorem dL_law_1363 : decode cL_law 1363 = .ok (.iload 4, 2) := by decide +kernel
theorem dL_law_1365 : decode cL_law 1365 = .ok (.iconst 3, 1) := by decide +kernel
theorem dL_law_1366 : decode cL_law 1366 = .ok (.iadd, 1) := by decide +kernel
theorem dL_law_1367 : decode cL_law 1367 = .ok (.iaload, 1) := by decide +kernel
theorem dL_law_1368 : decode cL_law 1368 = .ok (.invokevirtual 166, 3) := by decide +kernel
theorem dL_law_1371 : decode cL_law 1371 = .ok (.istore 6, 2) := by decide +kernel
theorem dL_law_1373 : decode cL_law 1373 = .ok (.aload_n 2, 1) := by decide +kernel
theorem dL_law_1374 : decode cL_law 1374 = .ok (.invokevirtual 90, 3) := by decide +kernel
theorem dL_law_1377 : decode cL_law 1377 = .ok (.iload 5, 2) := by decide +kernel
theorem dL_law_1379 : decode cL_law 1379 = .ok (.if_icmp .eq 5, 3) := by decide +kernel
theorem dL_law_1382 : decode cL_law 1382 = .ok (.iconst 0, 1) := by decide +kernel
theorem dL_law_1383 : decode cL_law 1383 = .ok (.ireturn, 1) := by decide +kernel
theorem dL_law_1384 : decode cL_law 1384 = .ok (.iload 5, 2) := by decide +kernel
theorem dL_law_1386 : decode cL_law 1386 = .ok (.ifCond .ne 15, 3) := by decide +kernel
theorem dL_law_1389 : decode cL_law 1389 = .ok (.aload_n 3, 1) := by decide +kernel
theorem dL_law_1390 : decode cL_law 1390 = .ok (.iconst 0, 1) := by decide +kernel
theorem dL_law_1391 : decode cL_law 1391 = .ok (.laload, 1) := by decide +kernel
theorem dL_law_1392 : decode cL_law 1392 = .ok (.iload 6, 2) := by decide +kernel
theorem dL_law_1394 : decode cL_law 1394 = .ok (.i2l, 1) := by decide +kernel
theorem dL_law_1395 : decode cL_law 1395 = .ok (.lcmp, 1) := by decide +kernel
theorem dL_law_1396 : decode cL_law 1396 = .ok (.ifCond .eq 5, 3) := by decide +kernel
theorem dL_law_1399 : decode cL_law 1399 = .ok (.iconst 0, 1) := by decide +kernel
theorem dL_law_1400 : decode cL_law 1400 = .ok (.ireturn, 1) := by decide +kernel
theorem dL_law_1401 : decode cL_law 1401 = .ok (.goto 114, 3) := by decide +kernel
theorem dL_law_1404 : decode cL_law 1404 = .ok (.aload_n 1, 1) := by decide +kernel
theorem dL_law_1405 : decode cL_law 1405 = .ok (.aload_n 0, 1) := by decide +kernel
theorem dL_law_1406 : decode cL_law 1406 = .ok (.iload 4, 2) := by decide +kernel
theorem dL_law_1408 : decode cL_law 1408 = .ok (.iconst 1, 1) := by decide +kernel
theorem dL_law_1409 : decode cL_law 1409 = .ok (.iadd, 1) := by decide +kernel
theorem dL_law_1410 : decode cL_law 1410 = .ok (.iaload, 1) := by decide +kernel
theorem dL_law_1411 : decode cL_law 1411 = .ok (.aload_n 3, 1) := by decide +kernel
theorem dL_law_1412 : decode cL_law 1412 = .ok (.invokestatic 167, 3) := by decide +kernel
theorem dL_law_1415 : decode cL_law 1415 = .ok (.istore 5, 2) := by decide +kernel
theorem dL_law_1417 : decode cL_law 1417 = .ok (.aload_n 2, 1) := by decide +kernel
theorem dL_law_1418 : decode cL_law 1418 = .ok (.aload_n 0, 1) := by decide +kernel
theorem dL_law_1419 : decode cL_law 1419 = .ok (.iload 4, 2) := by decide +kernel
theorem dL_law_1421 : decode cL_law 1421 = .ok (.iconst 1, 1) := by decide +kernel
theorem dL_law_1422 : decode cL_law 1422 = .ok (.iadd, 1) := by decide +kernel
theorem dL_law_1423 : decode cL_law 1423 = .ok (.iaload, 1) := by decide +kernel
theorem dL_law_1424 : decode cL_law 1424 = .ok (.invokevirtual 169, 3) := by decide +kernel
theorem dL_law_1427 : decode cL_law 1427 = .ok (.istore 6, 2) := by decide +kernel
theorem dL_law_1429 : decode cL_law 1429 = .ok (.aload_n 2, 1) := by decide +kernel
theorem dL_law_1430 : decode cL_law 1430 = .ok (.invokevirtual 90, 3) := by decide +kernel
theorem dL_law_1433 : decode cL_law 1433 = .ok (.iload 5, 2) := by decide +kernel
theorem dL_law_1435 : decode cL_law 1435 = .ok (.if_icmp .eq 5, 3) := by decide +kernel
theorem dL_law_1438 : decode cL_law 1438 = .ok (.iconst 0, 1) := by decide +kernel
theorem dL_law_1439 : decode cL_law 1439 = .ok (.ireturn, 1) := by decide +kernel
theorem dL_law_1440 : decode cL_law 1440 = .ok (.iload 5, 2) := by decide +kernel
theorem dL_law_1442 : decode cL_law 1442 = .ok (.ifCond .ne 15, 3) := by decide +kernel
theorem dL_law_1445 : decode cL_law 1445 = .ok (.aload_n 3, 1) := by decide +kernel
theorem dL_law_1446 : decode cL_law 1446 = .ok (.iconst 0, 1) := by decide +kernel
theorem dL_law_1447 : decode cL_law 1447 = .ok (.laload, 1) := by decide +kernel
theorem dL_law_1448 : decode cL_law 1448 = .ok (.iload 6, 2) := by decide +kernel
theorem dL_law_1450 : decode cL_law 1450 = .ok (.i2l, 1) := by decide +kernel
theorem dL_law_1451 : decode cL_law 1451 = .ok (.lcmp, 1) := by decide +kernel
theorem dL_law_1452 : decode cL_law 1452 = .ok (.ifCond .eq 5, 3) := by decide +kernel
theorem dL_law_1455 : decode cL_law 1455 = .ok (.iconst 0, 1) := by decide +kernel
theorem dL_law_1456 : decode cL_law 1456 = .ok (.ireturn, 1) := by decide +kernel
theorem dL_law_1457 : decode cL_law 1457 = .ok (.goto 58, 3) := by decide +kernel
theorem dL_law_1460 : decode cL_law 1460 = .ok (.aload_n 1, 1) := by decide +kernel
theorem dL_law_1461 : decode cL_law 1461 = .ok (.invokevirtual 170, 3) := by decide +kernel
theorem dL_law_1464 : decode cL_law 1464 = .ok (.dstore 5, 2) := by decide +kernel
theorem dL_law_1466 : decode cL_law 1466 = .ok (.aload_n 2, 1) := by decide +kernel
theorem dL_law_1467 : decode cL_law 1467 = .ok (.invokevirtual 174, 3) := by decide +kernel
theorem dL_law_1470 : decode cL_law 1470 = .ok (.dstore 7, 2) := by decide +kernel
theorem dL_law_1472 : decode cL_law 1472 = .ok (.dload 5, 2) := by decide +kernel
theorem dL_law_1474 : decode cL_law 1474 = .ok (.dload 7, 2) := by decide +kernel
theorem dL_law_1476 : decode cL_law 1476 = .ok (.dcmp .l, 1) := by decide +kernel
theorem dL_law_1477 : decode cL_law 1477 = .ok (.ifCond .eq 21, 3) := by decide +kernel
theorem dL_law_1480 : decode cL_law 1480 = .ok (.dload 5, 2) := by decide +kernel
theorem dL_law_1482 : decode cL_law 1482 = .ok (.dload 5, 2) := by decide +kernel
theorem dL_law_1484 : decode cL_law 1484 = .ok (.dcmp .l, 1) := by decide +kernel
theorem dL_law_1485 : decode cL_law 1485 = .ok (.ifCond .eq 11, 3) := by decide +kernel
theorem dL_law_1488 : decode cL_law 1488 = .ok (.dload 7, 2) := by decide +kernel
theorem dL_law_1490 : decode cL_law 1490 = .ok (.dload 7, 2) := by decide +kernel
theorem dL_law_1492 : decode cL_law 1492 = .ok (.dcmp .l, 1) := by decide +kernel
theorem dL_law_1493 : decode cL_law 1493 = .ok (.ifCond .ne 5, 3) := by decide +kernel
theorem dL_law_1496 : decode cL_law 1496 = .ok (.iconst 0, 1) := by decide +kernel
theorem dL_law_1497 : decode cL_law 1497 = .ok (.ireturn, 1) := by decide +kernel
theorem dL_law_1498 : decode cL_law 1498 = .ok (.goto 17, 3) := by decide +kernel
theorem dL_law_1501 : decode cL_law 1501 = .ok (.aload_n 1, 1) := by decide +kernel
theorem dL_law_1502 : decode cL_law 1502 = .ok (.invokevirtual 175, 3) := by decide +kernel
theorem dL_law_1505 : decode cL_law 1505 = .ok (.aload_n 2, 1) := by decide +kernel
theorem dL_law_1506 : decode cL_law 1506 = .ok (.invokevirtual 179, 3) := by decide +kernel
theorem dL_law_1509 : decode cL_law 1509 = .ok (.lcmp, 1) := by decide +kernel
theorem dL_law_1510 : decode cL_law 1510 = .ok (.ifCond .eq 5, 3) := by decide +kernel
theorem dL_law_1513 : decode cL_law 1513 = .ok (.iconst 0, 1) := by decide +kernel
theorem dL_law_1514 : decode cL_law 1514 = .ok (.ireturn, 1) := by decide +kernel
theorem dL_law_1515 : decode cL_law 1515 = .ok (.iinc 4 5, 3) := by decide +kernel
theorem dL_law_1518 : decode cL_law 1518 = .ok (.goto (-1495), 3) := by decide +kernel
theorem dL_law_1521 : decode cL_law 1521 = .ok (.iconst 1, 1) := by decide +kernel
theorem dL_law_1522 : decode cL_law 1522 = .ok (.ireturn, 1) := by decide +kernel
end
