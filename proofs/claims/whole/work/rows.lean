section
-- ===== PART A: goes FIRST, ahead of the names: the tables' words, and 'selects' of the private methods out of them =====
/-- a private method of a class that the tables say can be made, by its rows of tables_1 -/
def lw_okq (q : MethodName × Nat) : Prop := (q.1.cls ≠ "java/lang/invoke/MethodHandle" ∧ q.1.cls ≠ "java/lang/invoke/VarHandle") ∧ Cond.instantiable q.1.cls q.2 ∈ tables_1 ∧ Cond.privateMethod q.1 ∈ tables_1 ∧ Cond.instanceMethod q.1 ∈ tables_1
theorem lw_p0 : lw_okq (⟨"RainReservoir", "save", "()V"⟩, 5) := ⟨⟨by decide +kernel, by decide +kernel⟩, List.mem_of_getElem? (i := 17) (by decide +kernel), List.mem_of_getElem? (i := 215) (by decide +kernel), List.mem_of_getElem? (i := 216) (by decide +kernel)⟩
theorem lw_p1 : lw_okq (⟨"RainReservoir", "prepareTrial", "()V"⟩, 5) := ⟨⟨by decide +kernel, by decide +kernel⟩, List.mem_of_getElem? (i := 17) (by decide +kernel), List.mem_of_getElem? (i := 287) (by decide +kernel), List.mem_of_getElem? (i := 288) (by decide +kernel)⟩
theorem lw_p2 : lw_okq (⟨"RainReservoir$State", "drainWhenDry", "(I)I"⟩, 16) := ⟨⟨by decide +kernel, by decide +kernel⟩, List.mem_of_getElem? (i := 25) (by decide +kernel), List.mem_of_getElem? (i := 295) (by decide +kernel), List.mem_of_getElem? (i := 296) (by decide +kernel)⟩
theorem lw_p3 : lw_okq (⟨"RainReservoir$State", "put", "(III)V"⟩, 16) := ⟨⟨by decide +kernel, by decide +kernel⟩, List.mem_of_getElem? (i := 25) (by decide +kernel), List.mem_of_getElem? (i := 319) (by decide +kernel), List.mem_of_getElem? (i := 320) (by decide +kernel)⟩
theorem lw_p4 : lw_okq (⟨"RainReservoir$Users", "shareInOrder", "(I)V"⟩, 3) := ⟨⟨by decide +kernel, by decide +kernel⟩, List.mem_of_getElem? (i := 58) (by decide +kernel), List.mem_of_getElem? (i := 344) (by decide +kernel), List.mem_of_getElem? (i := 345) (by decide +kernel)⟩
theorem lw_p5 : lw_okq (⟨"RainReservoir$Users", "serveOrder", "(I)V"⟩, 3) := ⟨⟨by decide +kernel, by decide +kernel⟩, List.mem_of_getElem? (i := 58) (by decide +kernel), List.mem_of_getElem? (i := 348) (by decide +kernel), List.mem_of_getElem? (i := 349) (by decide +kernel)⟩
theorem lw_p6 : lw_okq (⟨"RainReservoir$Users", "share", "(III)V"⟩, 3) := ⟨⟨by decide +kernel, by decide +kernel⟩, List.mem_of_getElem? (i := 58) (by decide +kernel), List.mem_of_getElem? (i := 361) (by decide +kernel), List.mem_of_getElem? (i := 362) (by decide +kernel)⟩
theorem lw_p7 : lw_okq (⟨"RainReservoir$Users", "shareByDemand", "(II)V"⟩, 3) := ⟨⟨by decide +kernel, by decide +kernel⟩, List.mem_of_getElem? (i := 58) (by decide +kernel), List.mem_of_getElem? (i := 365) (by decide +kernel), List.mem_of_getElem? (i := 366) (by decide +kernel)⟩
theorem lw_p8 : lw_okq (⟨"RainReservoir$Users", "shareInRounds", "(I)V"⟩, 3) := ⟨⟨by decide +kernel, by decide +kernel⟩, List.mem_of_getElem? (i := 58) (by decide +kernel), List.mem_of_getElem? (i := 369) (by decide +kernel), List.mem_of_getElem? (i := 370) (by decide +kernel)⟩
theorem lw_p9 : lw_okq (⟨"RainReservoir$Users", "fullRounds", "(I)I"⟩, 3) := ⟨⟨by decide +kernel, by decide +kernel⟩, List.mem_of_getElem? (i := 58) (by decide +kernel), List.mem_of_getElem? (i := 373) (by decide +kernel), List.mem_of_getElem? (i := 374) (by decide +kernel)⟩
theorem lw_p10 : lw_okq (⟨"RainReservoir$Users", "giveRounds", "(I)I"⟩, 3) := ⟨⟨by decide +kernel, by decide +kernel⟩, List.mem_of_getElem? (i := 58) (by decide +kernel), List.mem_of_getElem? (i := 382) (by decide +kernel), List.mem_of_getElem? (i := 383) (by decide +kernel)⟩
theorem lw_p11 : lw_okq (⟨"RainReservoir$Users", "shareSmallestFirst", "(I)V"⟩, 3) := ⟨⟨by decide +kernel, by decide +kernel⟩, List.mem_of_getElem? (i := 58) (by decide +kernel), List.mem_of_getElem? (i := 387) (by decide +kernel), List.mem_of_getElem? (i := 388) (by decide +kernel)⟩
theorem lw_p12 : lw_okq (⟨"RainReservoir$RainText", "readItem", "(I)I"⟩, 6) := ⟨⟨by decide +kernel, by decide +kernel⟩, List.mem_of_getElem? (i := 165) (by decide +kernel), List.mem_of_getElem? (i := 418) (by decide +kernel), List.mem_of_getElem? (i := 419) (by decide +kernel)⟩
theorem lw_p13 : lw_okq (⟨"RainReservoir$RainText", "readNumber", "(III)I"⟩, 6) := ⟨⟨by decide +kernel, by decide +kernel⟩, List.mem_of_getElem? (i := 165) (by decide +kernel), List.mem_of_getElem? (i := 422) (by decide +kernel), List.mem_of_getElem? (i := 423) (by decide +kernel)⟩
theorem lw_p14 : lw_okq (⟨"RainReservoir$RainText", "isNext", "(C)Z"⟩, 6) := ⟨⟨by decide +kernel, by decide +kernel⟩, List.mem_of_getElem? (i := 165) (by decide +kernel), List.mem_of_getElem? (i := 426) (by decide +kernel), List.mem_of_getElem? (i := 427) (by decide +kernel)⟩
theorem lw_p15 : lw_okq (⟨"java/lang/Throwable", "fillInStackTrace", "(I)Ljava/lang/Throwable;"⟩, 6) := ⟨⟨by decide +kernel, by decide +kernel⟩, List.mem_of_getElem? (i := 498) (by decide +kernel), List.mem_of_getElem? (i := 496) (by decide +kernel), List.mem_of_getElem? (i := 497) (by decide +kernel)⟩
def lw_privs_1 : List (MethodName × Nat) := [(⟨"RainReservoir", "save", "()V"⟩, 5), (⟨"RainReservoir", "prepareTrial", "()V"⟩, 5), (⟨"RainReservoir$State", "drainWhenDry", "(I)I"⟩, 16), (⟨"RainReservoir$State", "put", "(III)V"⟩, 16), (⟨"RainReservoir$Users", "shareInOrder", "(I)V"⟩, 3), (⟨"RainReservoir$Users", "serveOrder", "(I)V"⟩, 3), (⟨"RainReservoir$Users", "share", "(III)V"⟩, 3), (⟨"RainReservoir$Users", "shareByDemand", "(II)V"⟩, 3), (⟨"RainReservoir$Users", "shareInRounds", "(I)V"⟩, 3), (⟨"RainReservoir$Users", "fullRounds", "(I)I"⟩, 3), (⟨"RainReservoir$Users", "giveRounds", "(I)I"⟩, 3), (⟨"RainReservoir$Users", "shareSmallestFirst", "(I)V"⟩, 3), (⟨"RainReservoir$RainText", "readItem", "(I)I"⟩, 6), (⟨"RainReservoir$RainText", "readNumber", "(III)I"⟩, 6), (⟨"RainReservoir$RainText", "isNext", "(C)Z"⟩, 6), (⟨"java/lang/Throwable", "fillInStackTrace", "(I)Ljava/lang/Throwable;"⟩, 6)]
theorem lw_r1 : ∀ q ∈ lw_privs_1, lw_okq q := List.forall_mem_cons.mpr ⟨lw_p0, List.forall_mem_cons.mpr ⟨lw_p1, List.forall_mem_cons.mpr ⟨lw_p2, List.forall_mem_cons.mpr ⟨lw_p3, List.forall_mem_cons.mpr ⟨lw_p4, List.forall_mem_cons.mpr ⟨lw_p5, List.forall_mem_cons.mpr ⟨lw_p6, List.forall_mem_cons.mpr ⟨lw_p7, List.forall_mem_cons.mpr ⟨lw_p8, List.forall_mem_cons.mpr ⟨lw_p9, List.forall_mem_cons.mpr ⟨lw_p10, List.forall_mem_cons.mpr ⟨lw_p11, List.forall_mem_cons.mpr ⟨lw_p12, List.forall_mem_cons.mpr ⟨lw_p13, List.forall_mem_cons.mpr ⟨lw_p14, List.forall_mem_cons.mpr ⟨lw_p15, fun _ h => absurd h List.not_mem_nil⟩⟩⟩⟩⟩⟩⟩⟩⟩⟩⟩⟩⟩⟩⟩⟩
theorem lw_p16 : lw_okq (⟨"RainReservoir", "checkRoomForDays", "(I)V"⟩, 5) := ⟨⟨by decide +kernel, by decide +kernel⟩, List.mem_of_getElem? (i := 17) (by decide +kernel), List.mem_of_getElem? (i := 634) (by decide +kernel), List.mem_of_getElem? (i := 635) (by decide +kernel)⟩
theorem lw_p17 : lw_okq (⟨"RainReservoir", "triedShortDays", "(II)I"⟩, 5) := ⟨⟨by decide +kernel, by decide +kernel⟩, List.mem_of_getElem? (i := 17) (by decide +kernel), List.mem_of_getElem? (i := 689) (by decide +kernel), List.mem_of_getElem? (i := 690) (by decide +kernel)⟩
theorem lw_p18 : lw_okq (⟨"RainReservoirModel", "goes", "(ZZ)Z"⟩, 13) := ⟨⟨by decide +kernel, by decide +kernel⟩, List.mem_of_getElem? (i := 724) (by decide +kernel), List.mem_of_getElem? (i := 786) (by decide +kernel), List.mem_of_getElem? (i := 787) (by decide +kernel)⟩
theorem lw_p19 : lw_okq (⟨"RainReservoirModel", "save", "()V"⟩, 13) := ⟨⟨by decide +kernel, by decide +kernel⟩, List.mem_of_getElem? (i := 724) (by decide +kernel), List.mem_of_getElem? (i := 790) (by decide +kernel), List.mem_of_getElem? (i := 791) (by decide +kernel)⟩
theorem lw_p20 : lw_okq (⟨"RainReservoirModel", "isUser", "(I)Z"⟩, 13) := ⟨⟨by decide +kernel, by decide +kernel⟩, List.mem_of_getElem? (i := 724) (by decide +kernel), List.mem_of_getElem? (i := 810) (by decide +kernel), List.mem_of_getElem? (i := 811) (by decide +kernel)⟩
theorem lw_p21 : lw_okq (⟨"RainReservoirModel", "ofUser", "(II)I"⟩, 13) := ⟨⟨by decide +kernel, by decide +kernel⟩, List.mem_of_getElem? (i := 724) (by decide +kernel), List.mem_of_getElem? (i := 814) (by decide +kernel), List.mem_of_getElem? (i := 815) (by decide +kernel)⟩
theorem lw_p22 : lw_okq (⟨"RainReservoirModel", "isRoof", "(I)Z"⟩, 13) := ⟨⟨by decide +kernel, by decide +kernel⟩, List.mem_of_getElem? (i := 724) (by decide +kernel), List.mem_of_getElem? (i := 838) (by decide +kernel), List.mem_of_getElem? (i := 839) (by decide +kernel)⟩
theorem lw_p23 : lw_okq (⟨"RainReservoirModel", "ofRoof", "(II)I"⟩, 13) := ⟨⟨by decide +kernel, by decide +kernel⟩, List.mem_of_getElem? (i := 724) (by decide +kernel), List.mem_of_getElem? (i := 843) (by decide +kernel), List.mem_of_getElem? (i := 844) (by decide +kernel)⟩
theorem lw_p24 : lw_okq (⟨"RainReservoirModel", "rains", "(II)V"⟩, 13) := ⟨⟨by decide +kernel, by decide +kernel⟩, List.mem_of_getElem? (i := 724) (by decide +kernel), List.mem_of_getElem? (i := 856) (by decide +kernel), List.mem_of_getElem? (i := 857) (by decide +kernel)⟩
theorem lw_p25 : lw_okq (⟨"RainReservoirModel", "draws", "(I)I"⟩, 13) := ⟨⟨by decide +kernel, by decide +kernel⟩, List.mem_of_getElem? (i := 724) (by decide +kernel), List.mem_of_getElem? (i := 865) (by decide +kernel), List.mem_of_getElem? (i := 866) (by decide +kernel)⟩
theorem lw_p26 : lw_okq (⟨"RainReservoirModel", "does", "()Z"⟩, 13) := ⟨⟨by decide +kernel, by decide +kernel⟩, List.mem_of_getElem? (i := 724) (by decide +kernel), List.mem_of_getElem? (i := 881) (by decide +kernel), List.mem_of_getElem? (i := 882) (by decide +kernel)⟩
theorem lw_p27 : lw_okq (⟨"RainReservoirModel", "drains", "()V"⟩, 13) := ⟨⟨by decide +kernel, by decide +kernel⟩, List.mem_of_getElem? (i := 724) (by decide +kernel), List.mem_of_getElem? (i := 885) (by decide +kernel), List.mem_of_getElem? (i := 886) (by decide +kernel)⟩
theorem lw_p28 : lw_okq (⟨"RainReservoirModel", "tells", "(II)V"⟩, 13) := ⟨⟨by decide +kernel, by decide +kernel⟩, List.mem_of_getElem? (i := 724) (by decide +kernel), List.mem_of_getElem? (i := 889) (by decide +kernel), List.mem_of_getElem? (i := 890) (by decide +kernel)⟩
theorem lw_p29 : lw_okq (⟨"RainReservoirModel", "flows", "(II)I"⟩, 13) := ⟨⟨by decide +kernel, by decide +kernel⟩, List.mem_of_getElem? (i := 724) (by decide +kernel), List.mem_of_getElem? (i := 893) (by decide +kernel), List.mem_of_getElem? (i := 894) (by decide +kernel)⟩
theorem lw_p30 : lw_okq (⟨"RainReservoirModel", "shares", "(I)Z"⟩, 13) := ⟨⟨by decide +kernel, by decide +kernel⟩, List.mem_of_getElem? (i := 724) (by decide +kernel), List.mem_of_getElem? (i := 897) (by decide +kernel), List.mem_of_getElem? (i := 898) (by decide +kernel)⟩
theorem lw_p31 : lw_okq (⟨"RainReservoirModel", "demands", "()I"⟩, 13) := ⟨⟨by decide +kernel, by decide +kernel⟩, List.mem_of_getElem? (i := 724) (by decide +kernel), List.mem_of_getElem? (i := 901) (by decide +kernel), List.mem_of_getElem? (i := 902) (by decide +kernel)⟩
def lw_privs_2 : List (MethodName × Nat) := [(⟨"RainReservoir", "checkRoomForDays", "(I)V"⟩, 5), (⟨"RainReservoir", "triedShortDays", "(II)I"⟩, 5), (⟨"RainReservoirModel", "goes", "(ZZ)Z"⟩, 13), (⟨"RainReservoirModel", "save", "()V"⟩, 13), (⟨"RainReservoirModel", "isUser", "(I)Z"⟩, 13), (⟨"RainReservoirModel", "ofUser", "(II)I"⟩, 13), (⟨"RainReservoirModel", "isRoof", "(I)Z"⟩, 13), (⟨"RainReservoirModel", "ofRoof", "(II)I"⟩, 13), (⟨"RainReservoirModel", "rains", "(II)V"⟩, 13), (⟨"RainReservoirModel", "draws", "(I)I"⟩, 13), (⟨"RainReservoirModel", "does", "()Z"⟩, 13), (⟨"RainReservoirModel", "drains", "()V"⟩, 13), (⟨"RainReservoirModel", "tells", "(II)V"⟩, 13), (⟨"RainReservoirModel", "flows", "(II)I"⟩, 13), (⟨"RainReservoirModel", "shares", "(I)Z"⟩, 13), (⟨"RainReservoirModel", "demands", "()I"⟩, 13)]
theorem lw_r2 : ∀ q ∈ lw_privs_2, lw_okq q := List.forall_mem_cons.mpr ⟨lw_p16, List.forall_mem_cons.mpr ⟨lw_p17, List.forall_mem_cons.mpr ⟨lw_p18, List.forall_mem_cons.mpr ⟨lw_p19, List.forall_mem_cons.mpr ⟨lw_p20, List.forall_mem_cons.mpr ⟨lw_p21, List.forall_mem_cons.mpr ⟨lw_p22, List.forall_mem_cons.mpr ⟨lw_p23, List.forall_mem_cons.mpr ⟨lw_p24, List.forall_mem_cons.mpr ⟨lw_p25, List.forall_mem_cons.mpr ⟨lw_p26, List.forall_mem_cons.mpr ⟨lw_p27, List.forall_mem_cons.mpr ⟨lw_p28, List.forall_mem_cons.mpr ⟨lw_p29, List.forall_mem_cons.mpr ⟨lw_p30, List.forall_mem_cons.mpr ⟨lw_p31, fun _ h => absurd h List.not_mem_nil⟩⟩⟩⟩⟩⟩⟩⟩⟩⟩⟩⟩⟩⟩⟩⟩
theorem lw_p32 : lw_okq (⟨"RainReservoirModel", "inProportion", "(II)V"⟩, 13) := ⟨⟨by decide +kernel, by decide +kernel⟩, List.mem_of_getElem? (i := 724) (by decide +kernel), List.mem_of_getElem? (i := 905) (by decide +kernel), List.mem_of_getElem? (i := 906) (by decide +kernel)⟩
theorem lw_p33 : lw_okq (⟨"RainReservoirModel", "gives", "(II)V"⟩, 13) := ⟨⟨by decide +kernel, by decide +kernel⟩, List.mem_of_getElem? (i := 724) (by decide +kernel), List.mem_of_getElem? (i := 909) (by decide +kernel), List.mem_of_getElem? (i := 910) (by decide +kernel)⟩
theorem lw_p34 : lw_okq (⟨"RainReservoirModel", "byOrder", "()V"⟩, 13) := ⟨⟨by decide +kernel, by decide +kernel⟩, List.mem_of_getElem? (i := 724) (by decide +kernel), List.mem_of_getElem? (i := 913) (by decide +kernel), List.mem_of_getElem? (i := 914) (by decide +kernel)⟩
theorem lw_p35 : lw_okq (⟨"RainReservoirModel", "byWeights", "()V"⟩, 13) := ⟨⟨by decide +kernel, by decide +kernel⟩, List.mem_of_getElem? (i := 724) (by decide +kernel), List.mem_of_getElem? (i := 917) (by decide +kernel), List.mem_of_getElem? (i := 918) (by decide +kernel)⟩
theorem lw_p36 : lw_okq (⟨"RainReservoirModel", "smallestFirst", "()V"⟩, 13) := ⟨⟨by decide +kernel, by decide +kernel⟩, List.mem_of_getElem? (i := 724) (by decide +kernel), List.mem_of_getElem? (i := 921) (by decide +kernel), List.mem_of_getElem? (i := 922) (by decide +kernel)⟩
theorem lw_p37 : lw_okq (⟨"RainReservoirModel", "goesBack", "()V"⟩, 13) := ⟨⟨by decide +kernel, by decide +kernel⟩, List.mem_of_getElem? (i := 724) (by decide +kernel), List.mem_of_getElem? (i := 929) (by decide +kernel), List.mem_of_getElem? (i := 930) (by decide +kernel)⟩
theorem lw_p38 : lw_okq (⟨"RainReservoirModel", "sumOf", "(I)J"⟩, 13) := ⟨⟨by decide +kernel, by decide +kernel⟩, List.mem_of_getElem? (i := 724) (by decide +kernel), List.mem_of_getElem? (i := 941) (by decide +kernel), List.mem_of_getElem? (i := 942) (by decide +kernel)⟩
theorem lw_p39 : lw_okq (⟨"RainReservoirModel", "wasShort", "(I)Z"⟩, 13) := ⟨⟨by decide +kernel, by decide +kernel⟩, List.mem_of_getElem? (i := 724) (by decide +kernel), List.mem_of_getElem? (i := 949) (by decide +kernel), List.mem_of_getElem? (i := 950) (by decide +kernel)⟩
theorem lw_p40 : lw_okq (⟨"RainReservoirModel", "lays", "()V"⟩, 13) := ⟨⟨by decide +kernel, by decide +kernel⟩, List.mem_of_getElem? (i := 724) (by decide +kernel), List.mem_of_getElem? (i := 961) (by decide +kernel), List.mem_of_getElem? (i := 962) (by decide +kernel)⟩
theorem lw_p41 : lw_okq (⟨"RainReservoirModel", "shortWith", "(I)I"⟩, 13) := ⟨⟨by decide +kernel, by decide +kernel⟩, List.mem_of_getElem? (i := 724) (by decide +kernel), List.mem_of_getElem? (i := 965) (by decide +kernel), List.mem_of_getElem? (i := 966) (by decide +kernel)⟩
theorem lw_p42 : lw_okq (⟨"RainReservoirModel", "shortDays", "()I"⟩, 13) := ⟨⟨by decide +kernel, by decide +kernel⟩, List.mem_of_getElem? (i := 724) (by decide +kernel), List.mem_of_getElem? (i := 969) (by decide +kernel), List.mem_of_getElem? (i := 970) (by decide +kernel)⟩
theorem lw_p43 : lw_okq (⟨"RainReservoirModel", "takesBack", "()V"⟩, 13) := ⟨⟨by decide +kernel, by decide +kernel⟩, List.mem_of_getElem? (i := 724) (by decide +kernel), List.mem_of_getElem? (i := 973) (by decide +kernel), List.mem_of_getElem? (i := 974) (by decide +kernel)⟩
theorem lw_p44 : lw_okq (⟨"RainReservoirModel", "mostLack", "()I"⟩, 13) := ⟨⟨by decide +kernel, by decide +kernel⟩, List.mem_of_getElem? (i := 724) (by decide +kernel), List.mem_of_getElem? (i := 986) (by decide +kernel), List.mem_of_getElem? (i := 987) (by decide +kernel)⟩
theorem lw_p45 : lw_okq (⟨"RainReservoirModel", "readsItem", "()Z"⟩, 13) := ⟨⟨by decide +kernel, by decide +kernel⟩, List.mem_of_getElem? (i := 724) (by decide +kernel), List.mem_of_getElem? (i := 1011) (by decide +kernel), List.mem_of_getElem? (i := 1012) (by decide +kernel)⟩
theorem lw_p46 : lw_okq (⟨"RainReservoirModel", "reads", "(III)Z"⟩, 13) := ⟨⟨by decide +kernel, by decide +kernel⟩, List.mem_of_getElem? (i := 724) (by decide +kernel), List.mem_of_getElem? (i := 1015) (by decide +kernel), List.mem_of_getElem? (i := 1016) (by decide +kernel)⟩
theorem lw_p47 : lw_okq (⟨"RainReservoirModel", "isFigure", "()Z"⟩, 13) := ⟨⟨by decide +kernel, by decide +kernel⟩, List.mem_of_getElem? (i := 724) (by decide +kernel), List.mem_of_getElem? (i := 1019) (by decide +kernel), List.mem_of_getElem? (i := 1020) (by decide +kernel)⟩
def lw_privs_3 : List (MethodName × Nat) := [(⟨"RainReservoirModel", "inProportion", "(II)V"⟩, 13), (⟨"RainReservoirModel", "gives", "(II)V"⟩, 13), (⟨"RainReservoirModel", "byOrder", "()V"⟩, 13), (⟨"RainReservoirModel", "byWeights", "()V"⟩, 13), (⟨"RainReservoirModel", "smallestFirst", "()V"⟩, 13), (⟨"RainReservoirModel", "goesBack", "()V"⟩, 13), (⟨"RainReservoirModel", "sumOf", "(I)J"⟩, 13), (⟨"RainReservoirModel", "wasShort", "(I)Z"⟩, 13), (⟨"RainReservoirModel", "lays", "()V"⟩, 13), (⟨"RainReservoirModel", "shortWith", "(I)I"⟩, 13), (⟨"RainReservoirModel", "shortDays", "()I"⟩, 13), (⟨"RainReservoirModel", "takesBack", "()V"⟩, 13), (⟨"RainReservoirModel", "mostLack", "()I"⟩, 13), (⟨"RainReservoirModel", "readsItem", "()Z"⟩, 13), (⟨"RainReservoirModel", "reads", "(III)Z"⟩, 13), (⟨"RainReservoirModel", "isFigure", "()Z"⟩, 13)]
theorem lw_r3 : ∀ q ∈ lw_privs_3, lw_okq q := List.forall_mem_cons.mpr ⟨lw_p32, List.forall_mem_cons.mpr ⟨lw_p33, List.forall_mem_cons.mpr ⟨lw_p34, List.forall_mem_cons.mpr ⟨lw_p35, List.forall_mem_cons.mpr ⟨lw_p36, List.forall_mem_cons.mpr ⟨lw_p37, List.forall_mem_cons.mpr ⟨lw_p38, List.forall_mem_cons.mpr ⟨lw_p39, List.forall_mem_cons.mpr ⟨lw_p40, List.forall_mem_cons.mpr ⟨lw_p41, List.forall_mem_cons.mpr ⟨lw_p42, List.forall_mem_cons.mpr ⟨lw_p43, List.forall_mem_cons.mpr ⟨lw_p44, List.forall_mem_cons.mpr ⟨lw_p45, List.forall_mem_cons.mpr ⟨lw_p46, List.forall_mem_cons.mpr ⟨lw_p47, fun _ h => absurd h List.not_mem_nil⟩⟩⟩⟩⟩⟩⟩⟩⟩⟩⟩⟩⟩⟩⟩⟩
theorem lw_p48 : lw_okq (⟨"RainReservoirModel", "passesByte", "(I)Z"⟩, 13) := ⟨⟨by decide +kernel, by decide +kernel⟩, List.mem_of_getElem? (i := 724) (by decide +kernel), List.mem_of_getElem? (i := 1025) (by decide +kernel), List.mem_of_getElem? (i := 1026) (by decide +kernel)⟩
theorem lw_p49 : lw_okq (⟨"RainReservoirModel", "withPlaces", "(JII)J"⟩, 13) := ⟨⟨by decide +kernel, by decide +kernel⟩, List.mem_of_getElem? (i := 724) (by decide +kernel), List.mem_of_getElem? (i := 1042) (by decide +kernel), List.mem_of_getElem? (i := 1043) (by decide +kernel)⟩
def lw_privs_4 : List (MethodName × Nat) := [(⟨"RainReservoirModel", "passesByte", "(I)Z"⟩, 13), (⟨"RainReservoirModel", "withPlaces", "(JII)J"⟩, 13)]
theorem lw_r4 : ∀ q ∈ lw_privs_4, lw_okq q := List.forall_mem_cons.mpr ⟨lw_p48, List.forall_mem_cons.mpr ⟨lw_p49, fun _ h => absurd h List.not_mem_nil⟩⟩
def lw_privs : List (MethodName × Nat) := lw_privs_1 ++ (lw_privs_2 ++ (lw_privs_3 ++ (lw_privs_4)))
def lw_tbl : List Cond := k2_sels lw_privs ++ tables_1
theorem lw_privs_ok : ∀ q ∈ lw_privs, lw_okq q := by
  show ∀ q ∈ lw_privs_1 ++ (lw_privs_2 ++ (lw_privs_3 ++ (lw_privs_4))), lw_okq q
  exact List.forall_mem_append.mpr ⟨lw_r1, List.forall_mem_append.mpr ⟨lw_r2, List.forall_mem_append.mpr ⟨lw_r3, lw_r4⟩⟩⟩
/-- the streams that the claim lets the run draw from -/
abbrev lw_cs : List Choice := [Jvm.Choice.named "NaN.bits"]
theorem lw_bits : nanBits ∈ lw_cs := by first | decide | exact List.mem_cons_self | simp [lw_cs, nanBits]
-- ===== end of PART A; then your names; then what follows =====
/-! ===== BEGIN words of one list among another's, by their places ===== -/
theorem goodIn_r {big : List Cond} (ws : List Cond) (ps : List Nat) (hp : ws = ps.filterMap (fun i => big[i]?)) (h : ws.all goodWord = true) : GoodIn big ws := by
  intro w hw
  have h1 := List.all_eq_true.mp h w hw
  rw [hp] at hw
  obtain ⟨i, -, hi⟩ := List.mem_filterMap.mp hw
  have hm : w ∈ big := by first | exact List.mem_of_getElem? hi | exact List.getElem?_mem hi
  exact ⟨hm, good_of_word h1⟩
theorem goodIn_app {big a b : List Cond} (ha : GoodIn big a) (hb : GoodIn big b) : GoodIn big (a ++ b) := fun w h => (List.mem_append.mp h).elim (ha w) (hb w)
theorem goodIn_ca {big a b : List Cond} {c : Cond} (ha : GoodIn big (c :: a)) (hb : GoodIn big b) : GoodIn big (c :: (a ++ b)) := fun w h => (List.mem_cons.mp h).elim (fun e => ha w (List.mem_cons.mpr (Or.inl e))) (fun h => (List.mem_append.mp h).elim (fun h => ha w (List.mem_cons.mpr (Or.inr h))) (hb w))
theorem goodIn_sub {big ws : List Cond} (hm : ∀ w ∈ ws, w ∈ big) (h : ws.all goodWord = true) : GoodIn big ws := fun w hw => ⟨hm w hw, good_of_word (List.all_eq_true.mp h w hw)⟩
/-! ===== END ===== -/

/-! ===== BEGIN exceptions that leave a method, and their catching by the caller (launches without stack traces) ===== -/
section VXA
/-! The laws vx_back, vx_callV, vx_callS, vx_callSW, vx_throw0, vx_throwS follow proofs of the library, with one case more: JvmDerived/Free/Laws.lean (Back.of_free), Shelf42/LK1.lean (callV, callS), Shelf/KitTraced.lean (throwNew0V, throwNewS). -/
/-- where a method has thrown q: the class by its name, the cell, what was written, the world -/
def vx_T (XC : String → State → State → Prop) (st : State) (q : Addr) (t : State) (mc ms : Nat) (free : Addr → Prop) : Prop :=
  ∃ (E : String) (ce : Cell) (L : List Loc), XC E st t ∧ t.heap[q]? = some ce ∧ ce.vm = .none ∧ st.vm.findClass E = some ce.cls ∧ st.WarmedH t.vm ∧ st.sameButNew ({ t with vm := st.vm } : State) L mc ms ∧ ∀ z ∈ L, free z.base
def vx_Q (Qc : Array Value → State → Outcome → State → Prop) (XC : String → State → State → Prop) (mc ms : Nat) (free : Addr → Prop) : Array Value → State → Outcome → State → Prop := fun a st o t =>
  (Qc a st o t ∧ ∃ L, FrameEnd st o t L mc ms ∧ ∀ q ∈ L, free q.base) ∨ ∃ q, o = .threw q ∧ vx_T XC st q t mc ms free
/-- a callee that returns or throws -/
def vx_Met (l : Launch) (y : MethodName) (ws : List Cond) (rm : Room) (Pc : Array Value → State → Prop) (Qc : Array Value → State → Outcome → State → Prop) (XC : String → State → State → Prop) (mc ms : Nat) (free : Addr → Prop) : Prop :=
  MetFree l y (headSpec ws rm) Pc (fun _ _ _ _ _ => True) (vx_Q Qc XC mc ms free)
def vx_Post (XC : String → State → State → Prop) (mc ms : Nat) (free : Addr → Prop) : Pt → Array Value → Addr → Pt → Prop := fun A a q B =>
  ∃ (g : JFrame) (mk : MethodId) (t : State) (L : List Loc) (E : String) (ce : Cell), B.U.heap = t.heap ∧ B.U.vm = t.vm ∧ XC E (A.U.calling g mk a) t ∧ t.heap[q]? = some ce ∧ ce.vm = .none ∧ A.U.vm.findClass E = some ce.cls ∧ B.locs = A.locs ++ L ∧ (∀ z ∈ L, free z.base) ∧ B.cells = A.cells + mc ∧ B.slots = A.slots + ms
def vx_Back (l : Launch) (R : Room) (p : Program) (e : Env) (below : List Frame) (s : State) (sargs : Array Value) (y : MethodName) (len W9 : Nat)
    (Pre : Pt → Array Value → Prop) (Post : Pt → Array Value → Option Value → Pt → Prop) (PostX : Pt → Array Value → Addr → Pt → Prop) : Prop :=
  ∀ (m : MethodId) (meth : Method) (c : Code) (A : Pt) (g : JFrame) (ig : Instr) (mk : MethodId) (a : Array Value),
    Stand p l e R s m sargs below meth c A.U A.locs A.cells A.slots → g.method = m → g.locals.size = c.maxLocals → decode c.code g.pc = .ok (ig, len) →
    2 * g.monitorRoom + (g.stack.map fun v => v.category).sum ≤ W9 → A.U.methodNamed? y = some mk → Pre A a →
    (∃ (v : Option Value) (B : Pt), Stand p l e R s m sargs below meth c B.U B.locs B.cells B.slots ∧ Post A a v B ∧
      Steps p.tables e below (doInvoke e (A.U.setTop g) [] mk a).1 (B.U.setTop { g with pc := g.pc + len, stack := v.toList ++ g.stack })) ∨
    (∃ (q : Addr) (B : Pt), Stand p l e R s m sargs below meth c B.U B.locs B.cells B.slots ∧ PostX A a q B ∧
      Steps p.tables e below (doInvoke e (A.U.setTop g) [] mk a).1 ((B.U.setTop g).pushFrame (.throwing q)))
section Payer
variable {l : Launch} {R : Room} {p : Program} {e : Env} {below : List Frame} {s : State} {sargs : Array Value} {y : MethodName} {len W9 : Nat}
theorem vx_back {ws : List Cond} {rm : Room} {Pc : Array Value → State → Prop} {Qc : Array Value → State → Outcome → State → Prop} {XC : String → State → State → Prop} {mc ms : Nat} {free : Addr → Prop} {bytes : ByteArray} {maxL : Nat} {ret : Option FieldType}
    (hM : vx_Met l y ws rm Pc Qc XC mc ms free) (hblind : FrameBlind Pc) (hrc : rm.cells = mc) (hrs : rm.slots = ms)
    (hframes : rm.frames + 1 ≤ R.frames) (hlocals : W9 + (maxL + 11) + rm.locals ≤ R.locals)
    (hws : ∀ w ∈ ws, ∀ a' U, s.WarmedH U.vm → w.before a' U = true) (hcode : Cond.code y bytes maxL ret ∈ ws) (hinit : ∀ a' U, s.WarmedH U.vm → (Cond.initialized y.cls).before a' U = true) :
    vx_Back l R p e below s sargs y len W9 (PreOf R mc ms Pc) (PostOf Qc mc ms free) (vx_Post XC mc ms free) := by
  intro m meth c A g ig mk a X hg hsize hdg hW hn hp
  have h1 : (headSpec ws rm).pre.before a A.U = true := atoms_intro fun w hw => hws w hw _ _ X.warmed
  have h2 : (Cond.code y bytes maxL ret).before a A.U = true := hws _ hcode _ _ X.warmed
  have h3 : (Cond.initialized y.cls).before a A.U = true := hinit _ _ X.warmed
  have h4 : A.cells + (headSpec ws rm).room.cells ≤ R.cells := by rw [show (headSpec ws rm).room.cells = mc from hrc]; exact hp.1
  have h5 : A.slots + (headSpec ws rm).room.slots ≤ R.slots := by rw [show (headSpec ws rm).room.slots = ms from hrs]; exact hp.2.1
  have hPc : Pc a (A.U.calling g mk a) := hblind _ _ _ _ hp.2.2
  obtain ⟨U, Ls, c0, s0⟩ := A
  dsimp only [Pt.U, Pt.locs, Pt.cells, Pt.slots] at h1 h2 h3 h4 h5 X hn hPc ⊢
  obtain ⟨methY, cY, hmY, hcY, -, hlY, -, -, -, -⟩ := Cond.code_spec hn h2
  obtain ⟨kY, hkY, -⟩ := className_of_methodNamed hn
  have hinitY : kY.init = .initialized := Cond.initialized_spec (findClass_of_methodNamed hn) hkY h3
  have h : At U g.method c below := by rw [hg]; exact X.here
  have hlocals9 : W9 + (maxL + 11) + (headSpec ws rm).room.locals ≤ R.locals := hlocals
  have happ : (headSpec ws rm).appliesLoose y e.platform (U.calling g mk a) = true :=
    Spec.appliesLoose_calling (g := g) h hdg hn hkY hinitY
      (X.room_calling (g := g) (R' := (headSpec ws rm).room) hsize hmY hcY hframes (by rw [hlY]; omega) h4 h5) h1
  obtain ⟨mid, hmid⟩ := h.above
  have hfr : (U.setTop g).frames = (.java g :: mid) ++ below := by rw [State.frames_setTop' g h.top, hmid]; rfl
  obtain ⟨o, s₂, hsteps, -, hend, hq⟩ := Steps.callFree hM p X.admits X.cas X.clock (acts := []) hfr happ hPc trivial
  have hq' : vx_Q Qc XC mc ms free a (U.calling g mk a) o s₂ := hq
  rw [State.frames_setTop' g h.top] at hend
  obtain ⟨g₀, hg0⟩ := Option.isSome_iff_exists.mp h.top
  obtain ⟨r, hr⟩ := State.topJava?_eq_some.mp hg0
  have hr' : (({ U with heap := s₂.heap, slotsUsed := s₂.slotsUsed } : State).setVm s₂.vm).frames = .java g₀ :: r := hr
  rcases hq' with ⟨hqc, L, hfe, hL⟩ | ⟨q, rfl, E, ce, L, hx, hce, hcv, hcl, hW₂, hsm, hL⟩
  · obtain ⟨⟨v, rfl⟩, hW₂, e2, q2, q3, q4, q5, q6⟩ := id hfe
    have e3 : s₂ = ({ (U.calling g mk a).setFrames s₂.frames with heap := s₂.heap, slotsUsed := s₂.slotsUsed } : State).setVm s₂.vm := by
      have : s₂ = ({ s₂ with vm := (U.calling g mk a).vm } : State).setVm s₂.vm := rfl
      rw [e2] at this
      exact this
    obtain ⟨c₂, i₂, len₂, hc₂, hd₂, hf₂⟩ := hend
    have hW' : U.WarmedH s₂.vm := hW₂
    have hcc : c₂ = c := by
      have h1 : s₂.code? g.method = U.code? g.method := by
        rw [State.code?_eq, State.code?_eq, hW'.alike.method?]
      exact Option.some.inj (hc₂.symm.trans (h1.trans h.code))
    subst hcc
    have hlen : len₂ = len := by rw [hdg] at hd₂; cases hd₂; rfl
    subst hlen
    have hs₂ : s₂ = (({ U with heap := s₂.heap, slotsUsed := s₂.slotsUsed } : State).setVm s₂.vm).setTop { g with pc := g.pc + len₂, stack := v.toList ++ g.stack } := by
      refine e3.trans ?_
      rw [hf₂, State.calling_eq h.top, State.setFrames_setFrames, State.setTop_of_frames _ hr', hr]
      rfl
    have hsame : U.sameButNew ({ U with heap := s₂.heap, slotsUsed := s₂.slotsUsed } : State) L mc ms := by
      refine ⟨?_, q2, q3, q4, q5, q6⟩
      obtain ⟨t, ht, -⟩ := State.frames_cons hr
      show ({ U with heap := s₂.heap, slotsUsed := s₂.slotsUsed } : State) = { U.setFrames U.frames with heap := s₂.heap, slotsUsed := s₂.slotsUsed }
      rw [State.setFrames_self ht]
    subst hg
    refine Or.inl ⟨v, ⟨(({ U with heap := s₂.heap, slotsUsed := s₂.slotsUsed } : State).setVm s₂.vm), Ls ++ L, c0 + mc, s0 + ms⟩,
      ⟨X.admits, X.cas, X.clock, X.frames, X.room, X.hears, X.method, X.code, (X.here.setHeapUsed s₂.heap s₂.slotsUsed).setVm hW'.alike, X.tail, State.WarmedH.trans X.warmed hW', X.limits, X.bytes, X.same.trans (hsame.setVm s.vm)⟩,
      ⟨g, mk, s₂, L, rfl, rfl, hqc, rfl, hL, rfl, rfl⟩, ?_⟩
    show Steps p.tables e below _ ((({ U with heap := s₂.heap, slotsUsed := s₂.slotsUsed } : State).setVm s₂.vm).setTop { g with pc := g.pc + len₂, stack := v.toList ++ g.stack })
    rw [← hs₂]
    exact hsteps
  · obtain ⟨e2, q2, q3, q4, q5, q6⟩ := id hsm
    have e3 : s₂ = ({ (U.calling g mk a).setFrames s₂.frames with heap := s₂.heap, slotsUsed := s₂.slotsUsed } : State).setVm s₂.vm := by
      have : s₂ = ({ s₂ with vm := (U.calling g mk a).vm } : State).setVm s₂.vm := rfl
      rw [e2] at this
      exact this
    have hf₂ : s₂.frames = .throwing q :: .java g :: U.frames.tail := hend
    have hW' : U.WarmedH s₂.vm := hW₂
    have hs₂ : s₂ = ((({ U with heap := s₂.heap, slotsUsed := s₂.slotsUsed } : State).setVm s₂.vm).setTop g).pushFrame (.throwing q) := by
      refine e3.trans ?_
      rw [hf₂, State.calling_eq h.top, State.setFrames_setFrames, State.pushFrame, State.frames_setTop _ hr', State.setTop_of_frames _ hr', State.setFrames_setFrames, hr]
      rfl
    have hsame : U.sameButNew ({ U with heap := s₂.heap, slotsUsed := s₂.slotsUsed } : State) L mc ms := by
      refine ⟨?_, q2, q3, q4, q5, q6⟩
      obtain ⟨t, ht, -⟩ := State.frames_cons hr
      show ({ U with heap := s₂.heap, slotsUsed := s₂.slotsUsed } : State) = { U.setFrames U.frames with heap := s₂.heap, slotsUsed := s₂.slotsUsed }
      rw [State.setFrames_self ht]
    subst hg
    refine Or.inr ⟨q, ⟨(({ U with heap := s₂.heap, slotsUsed := s₂.slotsUsed } : State).setVm s₂.vm), Ls ++ L, c0 + mc, s0 + ms⟩,
      ⟨X.admits, X.cas, X.clock, X.frames, X.room, X.hears, X.method, X.code, (X.here.setHeapUsed s₂.heap s₂.slotsUsed).setVm hW'.alike, X.tail, State.WarmedH.trans X.warmed hW', X.limits, X.bytes, X.same.trans (hsame.setVm s.vm)⟩,
      ⟨g, mk, s₂, L, E, ce, rfl, rfl, hx, hce, hcv, hcl, rfl, hL, rfl, rfl⟩, ?_⟩
    show Steps p.tables e below _ (((({ U with heap := s₂.heap, slotsUsed := s₂.slotsUsed } : State).setVm s₂.vm).setTop g).pushFrame (.throwing q))
    rw [← hs₂]
    exact hsteps
end Payer
section Calls
variable {p : Program} {l : Launch} {e : Env} {R : Room} {s : State} {m : MethodId} {args : Array Value} {below : List Frame} {meth : Method} {c : Code} {T : State} {locs : List Loc} {cells slots : Nat}
theorem vx_callV (X : Stand p l e R s m args below meth c T locs cells slots) (hexec : p.tables.exec = Jvm.exec) {own C : String} {index : Nat} {y : MethodName} {bytes : ByteArray} {maxL : Nat} {ret : Option FieldType}
    (hown : s.vm.findClass own = some m.cls) (hlink : (Cond.methodLink own index y).before args s = true) (hinst : (Cond.instanceMethod y).before args s = true) (hsel : (Cond.selects C y y).before args s = true)
    (hcode : (Cond.code y bytes maxL ret).before args s = true) (hy : y.cls ≠ "java/lang/invoke/MethodHandle" ∧ y.cls ≠ "java/lang/invoke/VarHandle")
    {W9 : Nat} {Pre : Pt → Array Value → Prop} {Post : Pt → Array Value → Option Value → Pt → Prop} {PostX : Pt → Array Value → Addr → Pt → Prop} (hK : vx_Back l R p e below s args y 3 W9 Pre Post PostX)
    {b : Addr} {cellB : Cell} (hcell : T.heap[b]? = some cellB) (hobj : cellB.vm.isStatics = false) (hcls : s.vm.findClass C = some cellB.cls)
    {g : JFrame} (hg : g.method = m) (hsize : g.locals.size = c.maxLocals) {argsL rest : List Value} (hlen : ∀ sig, parseMethodDescriptor y.desc = some sig → argsL.length = sig.parameters.length)
    (hstack : g.stack = argsL.reverse ++ .ref b :: rest) (hW : 2 * g.monitorRoom + (rest.map fun v => v.category).sum ≤ W9) (hdg : decode c.code g.pc = .ok (.invokevirtual index, 3))
    (hpre : ∀ vm₁, s.WarmedH vm₁ → Pre ⟨T.setVm vm₁, locs, cells, slots⟩ (Value.ref b :: argsL).toArray) :
    (∃ (v : Option Value) (vm₁ : Vm) (B : Pt), s.WarmedH vm₁ ∧ Stand p l e R s m args below meth c B.U B.locs B.cells B.slots ∧ Post ⟨T.setVm vm₁, locs, cells, slots⟩ (Value.ref b :: argsL).toArray v B ∧
      ∀ target, Steps p.tables e below (B.U.setTop { g with pc := g.pc + 3, stack := v.toList ++ rest }) target → Steps p.tables e below (T.setTop g) target) ∨
    (∃ (q : Addr) (vm₁ : Vm) (B : Pt), s.WarmedH vm₁ ∧ Stand p l e R s m args below meth c B.U B.locs B.cells B.slots ∧ PostX ⟨T.setVm vm₁, locs, cells, slots⟩ (Value.ref b :: argsL).toArray q B ∧
      Steps p.tables e below (T.setTop g) ((B.U.setTop { g with stack := rest }).pushFrame (.throwing q))) := by
  obtain ⟨mk, methM, hnamed, hmethM, hstM, habM⟩ := Cond.instanceMethod_spec hinst
  obtain ⟨methM', cM, hmethM', -, -, -, -, -, -, hsigM⟩ := Cond.code_spec hnamed hcode
  cases hmethM.symm.trans hmethM'
  obtain ⟨c2, r2, m2, q1, q2, q3, q4, kP, hkP, hkPi⟩ := Cond.selects_spec hsel
  cases hcls.symm.trans q1
  cases (State.methodFound?_of_named hnamed hy).symm.trans q2
  cases hnamed.symm.trans q3
  have hselP : selectMethod e.platform s.vm cellB.cls mk = .method mk := by rw [Launch.admits_selectMethod X.admits]; exact q4
  obtain ⟨vm₁, X₁, hstep₁⟩ := X.invokevirtual hexec hown hlink hnamed hmethM hstM hkP hkPi hy (a := b) (cell := cellB) hcell
    (fun z h => by rw [h] at hobj; cases hobj) hselP hmethM habM hkP hkPi (g := g) hg (argsL := argsL) (rest := rest) (hlen _ hsigM) hstack hdg
  rcases hK m meth c ⟨T.setVm vm₁, locs, cells, slots⟩ { g with stack := rest } (.invokevirtual index) mk (Value.ref b :: argsL).toArray X₁ hg hsize hdg hW (X₁.named hnamed) (hpre vm₁ X₁.warmed) with ⟨v, B, X', hpost, hsteps⟩ | ⟨q, B, X', hpost, hsteps⟩
  · exact Or.inl ⟨v, vm₁, B, X₁.warmed, X', hpost, fun target h => hstep₁ _ fun acts => by rw [doInvoke_state]; exact hsteps.trans h⟩
  · exact Or.inr ⟨q, vm₁, B, X₁.warmed, X', hpost, hstep₁ _ fun acts => by rw [doInvoke_state]; exact hsteps⟩
theorem vx_callS (X : Stand p l e R s m args below meth c T locs cells slots) (hexec : p.tables.exec = Jvm.exec) {own : String} {index : Nat} {y : MethodName} {bytes : ByteArray} {maxL : Nat} {ret : Option FieldType}
    (hown : s.vm.findClass own = some m.cls) (hlink : (Cond.methodLink own index y).before args s = true) (hstat : (Cond.static y).before args s = true) (hinit : (Cond.initialized y.cls).before args s = true)
    (hcode : (Cond.code y bytes maxL ret).before args s = true) (hy : y.cls ≠ "java/lang/invoke/MethodHandle" ∧ y.cls ≠ "java/lang/invoke/VarHandle")
    {W9 : Nat} {Pre : Pt → Array Value → Prop} {Post : Pt → Array Value → Option Value → Pt → Prop} {PostX : Pt → Array Value → Addr → Pt → Prop} (hK : vx_Back l R p e below s args y 3 W9 Pre Post PostX)
    {g : JFrame} (hg : g.method = m) (hsize : g.locals.size = c.maxLocals) {argsL rest : List Value} (hlen : ∀ sig, parseMethodDescriptor y.desc = some sig → argsL.length = sig.parameters.length)
    (hstack : g.stack = argsL.reverse ++ rest) (hW : 2 * g.monitorRoom + (rest.map fun v => v.category).sum ≤ W9) (hdg : decode c.code g.pc = .ok (.invokestatic index, 3))
    (hpre : ∀ vm₁, s.WarmedH vm₁ → Pre ⟨T.setVm vm₁, locs, cells, slots⟩ argsL.toArray) :
    (∃ (v : Option Value) (vm₁ : Vm) (B : Pt), s.WarmedH vm₁ ∧ Stand p l e R s m args below meth c B.U B.locs B.cells B.slots ∧ Post ⟨T.setVm vm₁, locs, cells, slots⟩ argsL.toArray v B ∧
      ∀ target, Steps p.tables e below (B.U.setTop { g with pc := g.pc + 3, stack := v.toList ++ rest }) target → Steps p.tables e below (T.setTop g) target) ∨
    (∃ (q : Addr) (vm₁ : Vm) (B : Pt), s.WarmedH vm₁ ∧ Stand p l e R s m args below meth c B.U B.locs B.cells B.slots ∧ PostX ⟨T.setVm vm₁, locs, cells, slots⟩ argsL.toArray q B ∧
      Steps p.tables e below (T.setTop g) ((B.U.setTop { g with stack := rest }).pushFrame (.throwing q))) := by
  obtain ⟨mk, hnamed⟩ := Cond.code_named hcode
  obtain ⟨methM, cM, hmethM, -, -, -, -, -, -, hsigM⟩ := Cond.code_spec hnamed hcode
  have hstatic : methM.isStatic = true := Cond.static_spec hnamed hmethM hstat
  obtain ⟨kP, hkP, -⟩ := className_of_methodNamed hnamed
  have hinitP : kP.init = .initialized := Cond.initialized_spec (findClass_of_methodNamed hnamed) hkP hinit
  obtain ⟨vm₁, X₁, hstep₁⟩ := X.invokestatic hexec hown hlink hnamed hmethM hstatic hkP hinitP hy (g := g) hg (argsL := argsL) (rest := rest) (hlen _ hsigM) hstack hdg
  rcases hK m meth c ⟨T.setVm vm₁, locs, cells, slots⟩ { g with stack := rest } (.invokestatic index) mk argsL.toArray X₁ hg hsize hdg hW (X₁.named hnamed) (hpre vm₁ X₁.warmed) with ⟨v, B, X', hpost, hsteps⟩ | ⟨q, B, X', hpost, hsteps⟩
  · exact Or.inl ⟨v, vm₁, B, X₁.warmed, X', hpost, fun target h => hstep₁ _ fun acts => by rw [doInvoke_state]; exact hsteps.trans h⟩
  · exact Or.inr ⟨q, vm₁, B, X₁.warmed, X', hpost, hstep₁ _ fun acts => by rw [doInvoke_state]; exact hsteps⟩
end Calls
theorem vx_cls {s : State} {T : State} {vm₁ : Vm} {E : String} {k : ClassId} (hW : s.WarmedH vm₁) (h : (T.setVm vm₁).vm.findClass E = some k) : s.vm.findClass E = some k := by
  have h1 : vm₁.findClass E = some k := h
  rw [hW.alike.findClass] at h1
  exact h1
/-- the method's frame g, with q thrown over it -/
def vx_W (p : Program) (l : Launch) (e : Env) (R : Room) (s : State) (m : MethodId) (args : Array Value) (below : List Frame) (meth : Method) (c : Code) (H : Heap) (locs : List Loc) (cells slots : Nat) (Q : State → Prop) (g : JFrame) (q : Addr) : Prop :=
  ∀ T : State, T.heap = H → Stand p l e R s m args below meth c T locs cells slots → ∃ t, Steps p.tables e below ((T.setTop g).pushFrame (.throwing q)) t ∧ Q t
def vx_Run (p : Program) (l : Launch) (e : Env) (R : Room) (s : State) (m : MethodId) (args : Array Value) (below : List Frame) (meth : Method) (c : Code) (H : Heap) (locs : List Loc) (cells slots mc ms : Nat) (g : JFrame) (rest : List Value) (Qa : State → Outcome → State → Prop) (XC : String → State → State → Prop) (free : Addr → Prop) : Prop :=
  ∀ T : State, T.heap = H → Stand p l e R s m args below meth c T locs cells slots →
    (∃ (v : Option Value) (st₀ t T' : State) (L : List Loc), st₀.heap = H ∧ Stand p l e R s m args below meth c T' (locs ++ L) (cells + mc) (slots + ms) ∧ (∀ q ∈ L, free q.base) ∧ T'.heap = t.heap ∧ T'.vm = t.vm ∧ Qa st₀ (.returned v) t ∧
      Goes p e below T g T' { g with pc := g.pc + 3, stack := v.toList ++ rest }) ∨
    (∃ (q : Addr) (st₀ t T' : State) (L : List Loc) (E : String) (ce : Cell), st₀.heap = H ∧ Stand p l e R s m args below meth c T' (locs ++ L) (cells + mc) (slots + ms) ∧ (∀ z ∈ L, free z.base) ∧ T'.heap = t.heap ∧ T'.vm = t.vm ∧ XC E st₀ t ∧ t.heap[q]? = some ce ∧ ce.vm = .none ∧ s.vm.findClass E = some ce.cls ∧
      Steps p.tables e below (T.setTop g) ((T'.setTop { g with stack := rest }).pushFrame (.throwing q)))
def vx_X {S : Type} (px : S → Prop) (B : String → S → State → Prop) (A : Nat → Prop) : String → State → State → Prop := fun E st t => ∃ u : S, px u ∧ B E u t ∧ va_F A st t
section Runs
variable {p : Program} {l : Launch} {e : Env} {R : Room} {s : State} {m : MethodId} {args : Array Value} {below : List Frame} {meth : Method} {c : Code} {H : Heap} {locs : List Loc} {cells slots : Nat}
variable {y : MethodName} {bytes cc : ByteArray} {maxL nL mc ms n index : Nat} {ret : Option FieldType} {ws : List Cond} {rm : Room} {Pc : Array Value → State → Prop} {Qc : Array Value → State → Outcome → State → Prop} {XC : String → State → State → Prop} {free : Addr → Prop} {Ts : List Cond} {own C : String} {b : Addr} {As rest : List Value} {g : JFrame}
theorem vx_callBack (cb : CallB R s args own index y bytes maxL ret ws rm mc ms n) (hM : vx_Met l y ws rm Pc Qc XC mc ms free) (hbl : FrameBlind Pc) : vx_Back l R p e below s args y 3 8 (PreOf R mc ms Pc) (PostOf Qc mc ms free) (vx_Post XC mc ms free) := by
  obtain ⟨hrc, hrs, hfr, hlo, hws, hcw, -, hini, -⟩ := cb
  exact vx_back (bytes := bytes) (maxL := maxL) (ret := ret) hM hbl hrc hrs hfr hlo hws hcw (fun a' U hW => word_at hW (Or.inl (by first | rfl | simp [Cond.onTables, Cond.keeps, Cond.steady])) hini)
theorem vx_runV (S : CallFix p m c cc nL s args Ts own) (hM : vx_Met l y ws rm Pc Qc XC mc ms free) (cw : CallW R s args own C index y bytes maxL ret ws rm mc ms n) (hp : PreV s H C b Pc As)
    (hg : g.method = m) (hn : As.length = n) (hsize : g.locals.size = nL) (hstack : g.stack = As.reverse ++ .ref b :: rest) (hW : 2 * g.monitorRoom + (rest.map fun v => v.category).sum ≤ 8) (hdg : decode cc g.pc = .ok (.invokevirtual index, 3)) (hf : cells + mc ≤ R.cells ∧ slots + ms ≤ R.slots) :
    vx_Run p l e R s m args below meth c H locs cells slots mc ms g rest (Qc (Value.ref b :: As).toArray) XC free := by
  have hK : vx_Back l R p e below s args y 3 8 (PreOf R mc ms Pc) (PostOf Qc mc ms free) (vx_Post XC mc ms free) := vx_callBack cw.1 hM hp.1
  obtain ⟨⟨-, -, -, -, -, -, hcode, -, hy, hlen, hl⟩, hin, hse⟩ := cw
  obtain ⟨hx, hb, hml, ho, -⟩ := S
  obtain ⟨-, ⟨cellB, hcB, hoB, hclB⟩, hPc⟩ := hp
  intro T hT X
  rcases vx_callV X hx (C := C) (bytes := bytes) (maxL := maxL) (ret := ret) ho hl hin hse hcode hy hK (by rw [hT]; exact hcB) hoB hclB hg (hsize.trans hml.symm) (argsL := As) (rest := rest) (fun sig h => hn.trans (hlen sig h)) hstack hW (by rw [hb]; exact hdg)
    (fun vm₁ hW₁ => ⟨hf.1, hf.2, hPc (T.setVm vm₁) hT hW₁⟩) with ⟨v, vm₁, ⟨U', l2, c2, s2⟩, hW₁, X', ⟨g', mk, t, L, e1, e2, hq, h1, hL, h2, h3⟩, st⟩ | ⟨q, vm₁, ⟨U', l2, c2, s2⟩, hW₁, X', ⟨g', mk, t, L, E, ce, e1, e2, hq, hce, hcv, hcl, h1, hL, h2, h3⟩, st⟩
  · dsimp only [Pt.U, Pt.locs, Pt.cells, Pt.slots] at X' e1 e2 h1 h2 h3 st
    subst h1; subst h2; subst h3
    exact Or.inl ⟨v, (T.setVm vm₁).calling g' mk (Value.ref b :: As).toArray, t, U', L, hT, X', hL, e1, e2, hq, st⟩
  · dsimp only [Pt.U, Pt.locs, Pt.cells, Pt.slots] at X' e1 e2 h1 h2 h3 st hcl
    subst h1; subst h2; subst h3
    exact Or.inr ⟨q, (T.setVm vm₁).calling g' mk (Value.ref b :: As).toArray, t, U', L, E, ce, hT, X', hL, e1, e2, hq, hce, hcv, vx_cls hW₁ hcl, st⟩
theorem vx_runS (S : CallFix p m c cc nL s args Ts own) (hM : vx_Met l y ws rm Pc Qc XC mc ms free) (cw : CallB R s args own index y bytes maxL ret ws rm mc ms n ∧ (Cond.static y).before args s = true) (hp : PreS s H Pc As)
    (hg : g.method = m) (hn : As.length = n) (hsize : g.locals.size = nL) (hstack : g.stack = As.reverse ++ rest) (hW : 2 * g.monitorRoom + (rest.map fun v => v.category).sum ≤ 8) (hdg : decode cc g.pc = .ok (.invokestatic index, 3)) (hf : cells + mc ≤ R.cells ∧ slots + ms ≤ R.slots) :
    vx_Run p l e R s m args below meth c H locs cells slots mc ms g rest (Qc As.toArray) XC free := by
  have hK : vx_Back l R p e below s args y 3 8 (PreOf R mc ms Pc) (PostOf Qc mc ms free) (vx_Post XC mc ms free) := vx_callBack cw.1 hM hp.1
  obtain ⟨⟨-, -, -, -, -, -, hcode, hini, hy, hlen, hl⟩, hstt⟩ := cw
  obtain ⟨hx, hb, hml, ho, -⟩ := S
  intro T hT X
  rcases vx_callS X hx (bytes := bytes) (maxL := maxL) (ret := ret) ho hl hstt hini hcode hy hK hg (hsize.trans hml.symm) (argsL := As) (rest := rest) (fun sig h => hn.trans (hlen sig h)) hstack hW (by rw [hb]; exact hdg)
    (fun vm₁ hW₁ => ⟨hf.1, hf.2, hp.2 (T.setVm vm₁) hT hW₁⟩) with ⟨v, vm₁, ⟨U', l2, c2, s2⟩, hW₁, X', ⟨g', mk, t, L, e1, e2, hq, h1, hL, h2, h3⟩, st⟩ | ⟨q, vm₁, ⟨U', l2, c2, s2⟩, hW₁, X', ⟨g', mk, t, L, E, ce, e1, e2, hq, hce, hcv, hcl, h1, hL, h2, h3⟩, st⟩
  · dsimp only [Pt.U, Pt.locs, Pt.cells, Pt.slots] at X' e1 e2 h1 h2 h3 st
    subst h1; subst h2; subst h3
    exact Or.inl ⟨v, (T.setVm vm₁).calling g' mk As.toArray, t, U', L, hT, X', hL, e1, e2, hq, st⟩
  · dsimp only [Pt.U, Pt.locs, Pt.cells, Pt.slots] at X' e1 e2 h1 h2 h3 st hcl
    subst h1; subst h2; subst h3
    exact Or.inr ⟨q, (T.setVm vm₁).calling g' mk As.toArray, t, U', L, E, ce, hT, X', hL, e1, e2, hq, hce, hcv, vx_cls hW₁ hcl, st⟩
end Runs
section Rows
variable {p : Program} {l : Launch} {e : Env} {R : Room} {s : State} {m : MethodId} {args : Array Value} {below : List Frame} {meth : Method} {c : Code} {H : Heap} {locs : List Loc} {cells slots : Nat} {Q : State → Prop}
variable {mc ms : Nat} {free : Addr → Prop} {A0 A1 : Nat → Prop} {H0 : Heap} {a : Array Value} {pc : Nat} {ls : Array Slot} {st0 rest : List Value}
theorem vx_keep {st₀ t T' : State} {L : List Loc} (h0 : st₀.heap = H) (e1 : T'.heap = t.heap) (hS : va_S A0 H0 H locs) (hA : ∀ q, q < H.size → A1 q → A0 q) (hf : ∀ q, free q → A0 q) (hL : ∀ q ∈ L, free q.base) (hF : va_F A1 st₀ t) :
    H.size ≤ T'.heap.size ∧ (∀ q : Nat, q < H.size → ¬ A1 q → T'.heap[q]? = H[q]?) ∧ va_S A0 H0 T'.heap (locs ++ L) := by
  obtain ⟨hz, hk⟩ := hF
  rw [h0] at hz hk
  exact ⟨by rw [e1]; exact hz, fun q h1 h2 => by rw [e1]; exact hk q h1 h2,
    ⟨Nat.le_trans hS.1 (by rw [e1]; exact hz), fun q h1 h2 => by rw [e1, hk q (Nat.lt_of_lt_of_le h1 hS.1) (fun z => h2 (hA q (Nat.lt_of_lt_of_le h1 hS.1) z))]; exact hS.2.1 q h1 h2, fun q hq => by
      rcases List.mem_append.mp hq with h | h
      · exact hS.2.2 q h
      · exact hf _ (hL q h)⟩⟩
theorem vx_calli {S SX : Type} {post : Int32 → S → Prop} {px : SX → Prop} {B : S → State → Prop} {BX : String → SX → State → Prop} {AX : Nat → Prop} (hr : vx_Run p l e R s m args below meth c H locs cells slots mc ms (F0 m pc ls st0) rest (va_Qi post B A1 a) (vx_X px BX AX) free) (hS : va_S A0 H0 H locs) (hA : ∀ q, q < H.size → A1 q → A0 q) (hf : ∀ q, free q → A0 q) (hAX : ∀ q, q < H.size → AX q → A0 q)
    (kx : ∀ (E : String) (ce : Cell) (q9 : Addr) (u : SX) (t : State) (H1 : Heap) (locs1 : List Loc), t.heap = H1 → s.vm.Alike t.vm → px u → BX E u t → H.size ≤ H1.size → (∀ q : Nat, q < H.size → ¬ AX q → H1[q]? = H[q]?) → va_S A0 H0 H1 locs1 → H1[q9]? = some ce → ce.vm = .none → s.vm.findClass E = some ce.cls → vx_W p l e R s m args below meth c H1 locs1 (cells + mc) (slots + ms) Q (F0 m pc ls rest) q9)
    (kk : ∀ (r : Int32) (u : S) (t : State) (H1 : Heap) (locs1 : List Loc), t.heap = H1 → s.vm.Alike t.vm → post r u → B u t → H.size ≤ H1.size → (∀ q : Nat, q < H.size → ¬ A1 q → H1[q]? = H[q]?) → va_S A0 H0 H1 locs1 → W p l e R s m args below meth c H1 locs1 (cells + mc) (slots + ms) Q (F0 m (pc + 3) ls (.int r :: rest))) : W p l e R s m args below meth c H locs cells slots Q (F0 m pc ls st0) := by
  intro T hT X
  rcases hr T hT X with ⟨v, st₀, t, T', L, h0, X', hL, e1, e2, ⟨⟨r, u, hv, hp, hb⟩, hF⟩, st⟩ | ⟨q, st₀, t, T', L, E, ce, h0, X', hL, e1, e2, ⟨u, hp, hb, hF⟩, hce, hcv, hcl, st⟩
  · cases hv
    obtain ⟨k1, k2, k3⟩ := vx_keep h0 e1 hS hA hf hL hF
    obtain ⟨t2, a1, b1⟩ := kk r u t T'.heap (locs ++ L) e1.symm (by rw [← e2]; exact X'.warmed.alike) hp hb k1 k2 k3 T' rfl X'
    exact ⟨t2, st t2 a1, b1⟩
  · obtain ⟨k1, k2, k3⟩ := vx_keep h0 e1 hS hAX hf hL hF
    obtain ⟨t2, a1, b1⟩ := kx E ce q u t T'.heap (locs ++ L) e1.symm (by rw [← e2]; exact X'.warmed.alike) hp hb k1 k2 k3 (by rw [e1]; exact hce) hcv hcl T' rfl X'
    exact ⟨t2, st.trans a1, b1⟩
theorem vx_calll {S SX : Type} {post : Int64 → S → Prop} {px : SX → Prop} {B : S → State → Prop} {BX : String → SX → State → Prop} {AX : Nat → Prop} (hr : vx_Run p l e R s m args below meth c H locs cells slots mc ms (F0 m pc ls st0) rest (va_Ql post B A1 a) (vx_X px BX AX) free) (hS : va_S A0 H0 H locs) (hA : ∀ q, q < H.size → A1 q → A0 q) (hf : ∀ q, free q → A0 q) (hAX : ∀ q, q < H.size → AX q → A0 q)
    (kx : ∀ (E : String) (ce : Cell) (q9 : Addr) (u : SX) (t : State) (H1 : Heap) (locs1 : List Loc), t.heap = H1 → s.vm.Alike t.vm → px u → BX E u t → H.size ≤ H1.size → (∀ q : Nat, q < H.size → ¬ AX q → H1[q]? = H[q]?) → va_S A0 H0 H1 locs1 → H1[q9]? = some ce → ce.vm = .none → s.vm.findClass E = some ce.cls → vx_W p l e R s m args below meth c H1 locs1 (cells + mc) (slots + ms) Q (F0 m pc ls rest) q9)
    (kk : ∀ (r : Int64) (u : S) (t : State) (H1 : Heap) (locs1 : List Loc), t.heap = H1 → s.vm.Alike t.vm → post r u → B u t → H.size ≤ H1.size → (∀ q : Nat, q < H.size → ¬ A1 q → H1[q]? = H[q]?) → va_S A0 H0 H1 locs1 → W p l e R s m args below meth c H1 locs1 (cells + mc) (slots + ms) Q (F0 m (pc + 3) ls (.long r :: rest))) : W p l e R s m args below meth c H locs cells slots Q (F0 m pc ls st0) := by
  intro T hT X
  rcases hr T hT X with ⟨v, st₀, t, T', L, h0, X', hL, e1, e2, ⟨⟨r, u, hv, hp, hb⟩, hF⟩, st⟩ | ⟨q, st₀, t, T', L, E, ce, h0, X', hL, e1, e2, ⟨u, hp, hb, hF⟩, hce, hcv, hcl, st⟩
  · cases hv
    obtain ⟨k1, k2, k3⟩ := vx_keep h0 e1 hS hA hf hL hF
    obtain ⟨t2, a1, b1⟩ := kk r u t T'.heap (locs ++ L) e1.symm (by rw [← e2]; exact X'.warmed.alike) hp hb k1 k2 k3 T' rfl X'
    exact ⟨t2, st t2 a1, b1⟩
  · obtain ⟨k1, k2, k3⟩ := vx_keep h0 e1 hS hAX hf hL hF
    obtain ⟨t2, a1, b1⟩ := kx E ce q u t T'.heap (locs ++ L) e1.symm (by rw [← e2]; exact X'.warmed.alike) hp hb k1 k2 k3 (by rw [e1]; exact hce) hcv hcl T' rfl X'
    exact ⟨t2, st.trans a1, b1⟩
theorem vx_callf {S SX : Type} {post : UInt32 → S → Prop} {px : SX → Prop} {B : S → State → Prop} {BX : String → SX → State → Prop} {AX : Nat → Prop} (hr : vx_Run p l e R s m args below meth c H locs cells slots mc ms (F0 m pc ls st0) rest (va_Qf post B A1 a) (vx_X px BX AX) free) (hS : va_S A0 H0 H locs) (hA : ∀ q, q < H.size → A1 q → A0 q) (hf : ∀ q, free q → A0 q) (hAX : ∀ q, q < H.size → AX q → A0 q)
    (kx : ∀ (E : String) (ce : Cell) (q9 : Addr) (u : SX) (t : State) (H1 : Heap) (locs1 : List Loc), t.heap = H1 → s.vm.Alike t.vm → px u → BX E u t → H.size ≤ H1.size → (∀ q : Nat, q < H.size → ¬ AX q → H1[q]? = H[q]?) → va_S A0 H0 H1 locs1 → H1[q9]? = some ce → ce.vm = .none → s.vm.findClass E = some ce.cls → vx_W p l e R s m args below meth c H1 locs1 (cells + mc) (slots + ms) Q (F0 m pc ls rest) q9)
    (kk : ∀ (r : UInt32) (u : S) (t : State) (H1 : Heap) (locs1 : List Loc), t.heap = H1 → s.vm.Alike t.vm → post r u → B u t → H.size ≤ H1.size → (∀ q : Nat, q < H.size → ¬ A1 q → H1[q]? = H[q]?) → va_S A0 H0 H1 locs1 → W p l e R s m args below meth c H1 locs1 (cells + mc) (slots + ms) Q (F0 m (pc + 3) ls (.float r :: rest))) : W p l e R s m args below meth c H locs cells slots Q (F0 m pc ls st0) := by
  intro T hT X
  rcases hr T hT X with ⟨v, st₀, t, T', L, h0, X', hL, e1, e2, ⟨⟨r, u, hv, hp, hb⟩, hF⟩, st⟩ | ⟨q, st₀, t, T', L, E, ce, h0, X', hL, e1, e2, ⟨u, hp, hb, hF⟩, hce, hcv, hcl, st⟩
  · cases hv
    obtain ⟨k1, k2, k3⟩ := vx_keep h0 e1 hS hA hf hL hF
    obtain ⟨t2, a1, b1⟩ := kk r u t T'.heap (locs ++ L) e1.symm (by rw [← e2]; exact X'.warmed.alike) hp hb k1 k2 k3 T' rfl X'
    exact ⟨t2, st t2 a1, b1⟩
  · obtain ⟨k1, k2, k3⟩ := vx_keep h0 e1 hS hAX hf hL hF
    obtain ⟨t2, a1, b1⟩ := kx E ce q u t T'.heap (locs ++ L) e1.symm (by rw [← e2]; exact X'.warmed.alike) hp hb k1 k2 k3 (by rw [e1]; exact hce) hcv hcl T' rfl X'
    exact ⟨t2, st.trans a1, b1⟩
theorem vx_calld {S SX : Type} {post : UInt64 → S → Prop} {px : SX → Prop} {B : S → State → Prop} {BX : String → SX → State → Prop} {AX : Nat → Prop} (hr : vx_Run p l e R s m args below meth c H locs cells slots mc ms (F0 m pc ls st0) rest (va_Qd post B A1 a) (vx_X px BX AX) free) (hS : va_S A0 H0 H locs) (hA : ∀ q, q < H.size → A1 q → A0 q) (hf : ∀ q, free q → A0 q) (hAX : ∀ q, q < H.size → AX q → A0 q)
    (kx : ∀ (E : String) (ce : Cell) (q9 : Addr) (u : SX) (t : State) (H1 : Heap) (locs1 : List Loc), t.heap = H1 → s.vm.Alike t.vm → px u → BX E u t → H.size ≤ H1.size → (∀ q : Nat, q < H.size → ¬ AX q → H1[q]? = H[q]?) → va_S A0 H0 H1 locs1 → H1[q9]? = some ce → ce.vm = .none → s.vm.findClass E = some ce.cls → vx_W p l e R s m args below meth c H1 locs1 (cells + mc) (slots + ms) Q (F0 m pc ls rest) q9)
    (kk : ∀ (r : UInt64) (u : S) (t : State) (H1 : Heap) (locs1 : List Loc), t.heap = H1 → s.vm.Alike t.vm → post r u → B u t → H.size ≤ H1.size → (∀ q : Nat, q < H.size → ¬ A1 q → H1[q]? = H[q]?) → va_S A0 H0 H1 locs1 → W p l e R s m args below meth c H1 locs1 (cells + mc) (slots + ms) Q (F0 m (pc + 3) ls (.double r :: rest))) : W p l e R s m args below meth c H locs cells slots Q (F0 m pc ls st0) := by
  intro T hT X
  rcases hr T hT X with ⟨v, st₀, t, T', L, h0, X', hL, e1, e2, ⟨⟨r, u, hv, hp, hb⟩, hF⟩, st⟩ | ⟨q, st₀, t, T', L, E, ce, h0, X', hL, e1, e2, ⟨u, hp, hb, hF⟩, hce, hcv, hcl, st⟩
  · cases hv
    obtain ⟨k1, k2, k3⟩ := vx_keep h0 e1 hS hA hf hL hF
    obtain ⟨t2, a1, b1⟩ := kk r u t T'.heap (locs ++ L) e1.symm (by rw [← e2]; exact X'.warmed.alike) hp hb k1 k2 k3 T' rfl X'
    exact ⟨t2, st t2 a1, b1⟩
  · obtain ⟨k1, k2, k3⟩ := vx_keep h0 e1 hS hAX hf hL hF
    obtain ⟨t2, a1, b1⟩ := kx E ce q u t T'.heap (locs ++ L) e1.symm (by rw [← e2]; exact X'.warmed.alike) hp hb k1 k2 k3 (by rw [e1]; exact hce) hcv hcl T' rfl X'
    exact ⟨t2, st.trans a1, b1⟩
theorem vx_callv {S SX : Type} {post : S → Prop} {px : SX → Prop} {B : S → State → Prop} {BX : String → SX → State → Prop} {AX : Nat → Prop} (hr : vx_Run p l e R s m args below meth c H locs cells slots mc ms (F0 m pc ls st0) rest (va_Qv post B A1 a) (vx_X px BX AX) free) (hS : va_S A0 H0 H locs) (hA : ∀ q, q < H.size → A1 q → A0 q) (hf : ∀ q, free q → A0 q) (hAX : ∀ q, q < H.size → AX q → A0 q)
    (kx : ∀ (E : String) (ce : Cell) (q9 : Addr) (u : SX) (t : State) (H1 : Heap) (locs1 : List Loc), t.heap = H1 → s.vm.Alike t.vm → px u → BX E u t → H.size ≤ H1.size → (∀ q : Nat, q < H.size → ¬ AX q → H1[q]? = H[q]?) → va_S A0 H0 H1 locs1 → H1[q9]? = some ce → ce.vm = .none → s.vm.findClass E = some ce.cls → vx_W p l e R s m args below meth c H1 locs1 (cells + mc) (slots + ms) Q (F0 m pc ls rest) q9)
    (kk : ∀ (u : S) (t : State) (H1 : Heap) (locs1 : List Loc), t.heap = H1 → s.vm.Alike t.vm → post u → B u t → H.size ≤ H1.size → (∀ q : Nat, q < H.size → ¬ A1 q → H1[q]? = H[q]?) → va_S A0 H0 H1 locs1 → W p l e R s m args below meth c H1 locs1 (cells + mc) (slots + ms) Q (F0 m (pc + 3) ls (rest))) : W p l e R s m args below meth c H locs cells slots Q (F0 m pc ls st0) := by
  intro T hT X
  rcases hr T hT X with ⟨v, st₀, t, T', L, h0, X', hL, e1, e2, ⟨⟨u, hv, hp, hb⟩, hF⟩, st⟩ | ⟨q, st₀, t, T', L, E, ce, h0, X', hL, e1, e2, ⟨u, hp, hb, hF⟩, hce, hcv, hcl, st⟩
  · cases hv
    obtain ⟨k1, k2, k3⟩ := vx_keep h0 e1 hS hA hf hL hF
    obtain ⟨t2, a1, b1⟩ := kk u t T'.heap (locs ++ L) e1.symm (by rw [← e2]; exact X'.warmed.alike) hp hb k1 k2 k3 T' rfl X'
    exact ⟨t2, st t2 a1, b1⟩
  · obtain ⟨k1, k2, k3⟩ := vx_keep h0 e1 hS hAX hf hL hF
    obtain ⟨t2, a1, b1⟩ := kx E ce q u t T'.heap (locs ++ L) e1.symm (by rw [← e2]; exact X'.warmed.alike) hp hb k1 k2 k3 (by rw [e1]; exact hce) hcv hcl T' rfl X'
    exact ⟨t2, st.trans a1, b1⟩
/-- caught by the row x of this method's table; the rows ahead don't take it -/
theorem vx_catch {own name : String} {E : String} {ce : Cell} {q : Addr} (hown : s.vm.findClass own = some m.cls) (pre : List ExceptionTableEntry) (x : ExceptionTableEntry) (suf : List ExceptionTableEntry) (hsplit : c.exceptionTable.toList = pre ++ x :: suf)
    (hpass : ∀ z ∈ pre, covers z pc = false ∨ (z.catchType ≠ 0 ∧ ∃ nm : String, (Cond.classLink own z.catchType nm).before args s = true ∧ va_Nc E nm s)) (hx : covers x pc = true) (h0 : x.catchType ≠ 0)
    (hlink : (Cond.classLink own x.catchType name).before args s = true) (hcast : (Cond.castable E name).before args s = true) (hcell : H[q]? = some ce) (hv : ce.vm = .none) (hcl : s.vm.findClass E = some ce.cls)
    (kk : W p l e R s m args below meth c H locs cells slots Q (F0 m x.handlerPc ls [.ref q])) : vx_W p l e R s m args below meth c H locs cells slots Q (F0 m pc ls rest) q := by
  intro T hT X
  have hpl : e.platform.magicAccessors = ({} : Platform).magicAccessors := by rw [X.admits.platform]
  obtain ⟨c3, c4, hc3, hc4, hasg⟩ := Cond.castable_spec hcast
  cases Option.some.inj (hc3.symm.trans hcl)
  obtain ⟨c5, hc5, hcl5⟩ := Cond.classLink_spec hown hlink e.platform hpl
  cases Option.some.inj (hc4.symm.trans hc5)
  obtain ⟨vm', X', st⟩ := X.thenCaughtThrough q (g := F0 m pc ls rest) rfl (Steps.refl _) (by rw [hT]; exact hcell) (by rw [hv]; rfl) (by obtain ⟨k9, h9, -⟩ := Vm.findClass_spec hcl; exact ⟨k9, h9⟩) pre x suf hsplit
    (fun z hz => by
      rcases hpass z hz with h | ⟨hz0, nm, hl1, hn1⟩
      · exact Or.inl h
      · obtain ⟨c6, hc6, hcl6⟩ := Cond.classLink_spec hown hl1 e.platform hpl
        obtain ⟨a8, b8, h1, h2, h3⟩ := hn1
        cases Option.some.inj (h1.symm.trans hcl)
        cases Option.some.inj (h2.symm.trans hc6)
        exact Or.inr ⟨hz0, _, hcl6, h3⟩) hx (Or.inr ⟨h0, c4, hcl5, hasg⟩)
  obtain ⟨t, a1, b1⟩ := kk (T.setVm vm') hT X'
  exact ⟨t, st.trans a1, b1⟩
end Rows
section Ends
variable {p : Program} {l : Launch} {e : Env} {R : Room} {s : State} {m : MethodId} {args : Array Value} {below : List Frame} {meth : Method} {c : Code} {H : Heap} {locs : List Loc} {cells slots : Nat} {Q : State → Prop}
variable {mc ms : Nat} {free : Addr → Prop} {A0 A1 : Nat → Prop} {H0 : Heap} {a : Array Value} {ls : Array Slot} {st0 rest : List Value}
variable {Qc : Array Value → State → Outcome → State → Prop} {XC : String → State → State → Prop}
/-- what a body that may throw owes at its end -/
def vx_MQ (below : List Frame) (Qc : Array Value → State → Outcome → State → Prop) (XC : String → State → State → Prop) (a : Array Value) (s : State) (mc ms : Nat) (free : Addr → Prop) : State → Prop := fun t =>
  ∃ o, t.status = .running ∧ Ended t below o ∧ vx_Q Qc XC mc ms free a s o t
theorem vx_ret {g : JFrame} {mc ms : Nat} (k : W p l e R s m args below meth c H locs cells slots (MQ below Qc args s mc ms free) g) : W p l e R s m args below meth c H locs cells slots (vx_MQ below Qc XC args s mc ms free) g := by
  intro T hT X
  obtain ⟨t, a1, o, b1, b2, b3, b4⟩ := k T hT X
  exact ⟨t, a1, o, b1, b2, Or.inl ⟨b3, b4⟩⟩
/-- not caught here: it goes on to the caller -/
theorem vx_widen {g : JFrame} {q : Addr} {k n : Nat} (h1 : cells ≤ k) (h2 : slots ≤ n) (kk : vx_W p l e R s m args below meth c H locs k n Q g q) : vx_W p l e R s m args below meth c H locs cells slots Q g q := fun T hT X => kk T hT (stand_widen X h1 h2)
theorem vx_out {pc : Nat} {E : String} {ce : Cell} {q : Addr} {mc ms : Nat} (hout : ∀ x ∈ c.exceptionTable.toList, covers x pc = false) (hlocks : meth.locks = false) (hcell : H[q]? = some ce) (hv : ce.vm = .none) (hcl : s.vm.findClass E = some ce.cls)
    (hx : ∀ t : State, t.heap = H → s.vm.Alike t.vm → XC E s t) (hf : ∀ z ∈ locs, free z.base) (hc : cells ≤ mc) (hs : slots ≤ ms) :
    vx_W p l e R s m args below meth c H locs cells slots (vx_MQ below Qc XC args s mc ms free) (F0 m pc ls rest) q := by
  intro T hT X
  obtain ⟨st1, hrun, hend, hW, hsm⟩ := X.leaveThrown q (g := F0 m pc ls rest) rfl rfl rfl hout hlocks
  have hcell9 : (T.setFrames (.throwing q :: below)).heap[q]? = some ce := by
    show T.heap[q]? = some ce
    rw [hT]; exact hcell
  exact ⟨_, st1, .threw q, hrun, hend, Or.inr ⟨q, rfl, E, ce, locs, hx _ hT hW.alike, hcell9, hv, hcl, hW, hsm.mono hc hs, hf⟩⟩
theorem vx_frame {U : State} {k n : Nat} (h : s.sameButNew ({ U with vm := s.vm } : State) locs k n) : s.heap.size ≤ U.heap.size ∧ ∀ q : Nat, q < s.heap.size → (∀ z ∈ locs, z.base ≠ q) → U.heap[q]? = s.heap[q]? := by
  obtain ⟨-, h2, -, -, -, h6⟩ := h
  refine ⟨h2, fun q hq hz => ?_⟩
  obtain ⟨c9, e1, e2, e3, e4⟩ := h6 q _ (Array.getElem?_eq_getElem hq)
  have hs : c9.slots = (s.heap[q]).slots := Array.ext_getElem? fun i => e4 i fun hm => hz _ hm rfl
  have h9 : c9 = s.heap[q] := by
    rw [hs] at e2
    exact e2
  have e5 : U.heap[q]? = some c9 := e1
  rw [e5, h9, Array.getElem?_eq_getElem hq]
/-- the words of a throw but the four that speak of the heap -/
def vx_no (w : Cond) : Bool := decide (w ≠ .isRef (.static Bundle.tN "UNASSIGNED_STACK" Bundle.steD)) && decide (w ≠ .isRef (.static Bundle.tN "SUPPRESSED_SENTINEL" Bundle.listD)) && decide (w ≠ .laysStatic Bundle.tN "UNASSIGNED_STACK" Bundle.steD) && decide (w ≠ .laysStatic Bundle.tN "SUPPRESSED_SENTINEL" Bundle.listD)
def vx_at0 (own : String) (ic : Nat) (X : String) (names : List String) : List Cond := (Bundle.ownAtoms0 own ic X names).filter vx_no
def vx_atS (own : String) (ic : Nat) (X : String) (names : List String) : List Cond := (Bundle.ownAtoms own ic X names).filter vx_no
/-- a word that the tables alone decide, or a good one -/
def vx_ot (w : Cond) : Bool := w.onTables || goodWord w
theorem vx_ot_at {args a' : Array Value} {s U : State} {w : Cond} (hW : s.WarmedH U.vm) (hvm : s.vm = U.vm) (hg : vx_ot w = true) (h : w.before args s = true) : w.before a' U = true := by
  simp only [vx_ot, Bool.or_eq_true] at hg
  rcases hg with hg | hg
  · exact va_tabs hg hvm h
  · exact word_at hW (good_of_word hg) h
/-- a list's words: the good ones out of the method's own list, the others by premises of their own -/
theorem vx_hat {args : Array Value} {s : State} {L B : List Cond} (h1 : ∀ w ∈ L.filter goodWord, w.before args s = true) (h2 : ∀ w ∈ L.filter (fun w => !goodWord w), w ∈ B) (h3 : ∀ w ∈ B, w.before args s = true) : ∀ w ∈ L, w.before args s = true := by
  intro w hw
  by_cases g : goodWord w = true
  · exact h1 w (List.mem_filter.mpr ⟨hw, g⟩)
  · refine h3 w (h2 w (List.mem_filter.mpr ⟨hw, ?_⟩))
    show (!goodWord w) = true
    cases hgw : goodWord w
    · rfl
    · exact absurd hgw g
theorem vx_c {args : Array Value} {s : State} {w : Cond} {B : List Cond} (h : w.before args s = true) (t : ∀ w ∈ B, w.before args s = true) : ∀ w' ∈ w :: B, w'.before args s = true := fun w' h' => (List.mem_cons.mp h').elim (fun e => by rw [e]; exact h) (t w')
theorem vx_n {args : Array Value} {s : State} : ∀ w ∈ ([] : List Cond), w.before args s = true := fun _ h => nomatch h
theorem vx_own {args : Array Value} {s : State} {L : List Cond} (h1 : ∀ w ∈ L.filter vx_no, w.before args s = true)
    (hU : (Cond.isRef (.static Bundle.tN "UNASSIGNED_STACK" Bundle.steD)).before args s = true) (hN : (Cond.isRef (.static Bundle.tN "SUPPRESSED_SENTINEL" Bundle.listD)).before args s = true)
    (lU : (Cond.laysStatic Bundle.tN "UNASSIGNED_STACK" Bundle.steD).before args s = true) (lN : (Cond.laysStatic Bundle.tN "SUPPRESSED_SENTINEL" Bundle.listD).before args s = true) : ∀ w ∈ L, w.before args s = true := by
  intro w hw
  by_cases e1 : w = .isRef (.static Bundle.tN "UNASSIGNED_STACK" Bundle.steD)
  · rw [e1]; exact hU
  · by_cases e2 : w = .isRef (.static Bundle.tN "SUPPRESSED_SENTINEL" Bundle.listD)
    · rw [e2]; exact hN
    · by_cases e3 : w = .laysStatic Bundle.tN "UNASSIGNED_STACK" Bundle.steD
      · rw [e3]; exact lU
      · by_cases e4 : w = .laysStatic Bundle.tN "SUPPRESSED_SENTINEL" Bundle.listD
        · rw [e4]; exact lN
        · exact h1 w (List.mem_filter.mpr ⟨hw, by unfold vx_no; rw [decide_eq_true e1, decide_eq_true e2, decide_eq_true e3, decide_eq_true e4]; rfl⟩)
/-- where a static field lies, its class's statics cell in H -/
def vx_L (C n d : String) (A : Nat → Prop) (U : State) (H : Heap) : Prop := ∃ (c : ClassId) (k : Class) (i : Nat) (f : Field) (a : Nat) (cell : Cell), U.vm.findClass C = some c ∧ U.fieldFound? C n d = some (c, k, i, f) ∧ f.isStatic = true ∧ k.statics = some a ∧ H[a]? = some cell ∧ cell.vm.isStatics = true ∧ cell.cls = c ∧ f.slot < cell.slots.size ∧ k.staticTypes[f.slot]? = some f.type ∧ ¬ A a
theorem vx_L.moved {C n d : String} {A : Nat → Prop} {u U : State} {H : Heap} (hvm : u.vm.Alike U.vm) (h : vx_L C n d A u H) : vx_L C n d A U H := by
  obtain ⟨c, k, i, f, a, cell, h1, h2, h3, h4, h5, h6, h7, h8, h9, h10⟩ := h
  obtain ⟨k', hi', he⟩ := State.fieldFound?_setVm hvm h2
  exact ⟨c, k', i, f, a, cell, by rw [hvm.findClass]; exact h1, hi', h3, by rw [he]; exact h4, h5, h6, h7, h8, by rw [he]; exact h9, h10⟩
theorem vx_L.kept {C n d : String} {A : Nat → Prop} {U : State} {H H1 : Heap} (h : vx_L C n d A U H) (hq : ∀ a : Nat, a < H.size → ¬ A a → H1[a]? = H[a]?) : vx_L C n d A U H1 := by
  obtain ⟨c, k, i, f, a, cell, h1, h2, h3, h4, h5, h6, h7, h8, h9, h10⟩ := h
  exact ⟨c, k, i, f, a, cell, h1, h2, h3, h4, by rw [hq a (Array.getElem?_eq_some_iff.mp h5).1 h10]; exact h5, h6, h7, h8, h9, h10⟩
theorem vx_L.narrow {C n d : String} {A B : Nat → Prop} {U : State} {H : Heap} (h : vx_L C n d A U H) (hAB : ∀ q, B q → A q) : vx_L C n d B U H := by
  obtain ⟨c, k, i, f, a, cell, h1, h2, h3, h4, h5, h6, h7, h8, h9, h10⟩ := h
  exact ⟨c, k, i, f, a, cell, h1, h2, h3, h4, h5, h6, h7, h8, h9, fun z => h10 (hAB _ z)⟩
theorem vx_L.word {C n d : String} {A : Nat → Prop} {s : State} {args : Array Value} (h : vx_L C n d A s s.heap) : (Cond.laysStatic C n d).before args s = true := by
  obtain ⟨c, k, i, f, a, cell, h1, h2, h3, h4, h5, h6, h7, h8, h9, -⟩ := h
  show (Cond.laysStatic C n d).holds args s none s [] = true
  exact Cond.laysStatic_of h1 h2 h3 h4 h5 h6 h7 h8 h9
/-- .. and what it holds: null or some reference -/
def vx_Zq (C n d : String) (A : Nat → Prop) (U : State) (H : Heap) : Prop := va_Zq C n d A U H ∧ vx_L C n d A U H
theorem vx_Zq.moved {C n d : String} {A : Nat → Prop} {u U : State} {H : Heap} (hvm : u.vm.Alike U.vm) (h : vx_Zq C n d A u H) : vx_Zq C n d A U H := ⟨va_Zq.moved hvm h.1, vx_L.moved hvm h.2⟩
theorem vx_Zq.kept {C n d : String} {A : Nat → Prop} {U : State} {H H1 : Heap} (h : vx_Zq C n d A U H) (hq : ∀ a : Nat, a < H.size → ¬ A a → H1[a]? = H[a]?) : vx_Zq C n d A U H1 := ⟨va_Zq.kept h.1 hq, vx_L.kept h.2 hq⟩
theorem vx_Zq.narrow {C n d : String} {A B : Nat → Prop} {U : State} {H : Heap} (h : vx_Zq C n d A U H) (hAB : ∀ q, B q → A q) : vx_Zq C n d B U H := ⟨va_Zq.narrow h.1 hAB, vx_L.narrow h.2 hAB⟩
theorem vx_Zqof {args : Array Value} {s : State} {C n d : String} {A : Nat → Prop} (hl : (Cond.laysStatic C n d).before args s = true) (hini : (Cond.initialized C).before args s = true) (h : (Cond.isRef (.static C n d)).before args s = true) (hA : ∀ a : Nat, a < s.heap.size → ¬ A a) : vx_Zq C n d A s s.heap := by
  refine ⟨va_Zqof hl hini h hA, ?_⟩
  obtain ⟨c, k, i, f, a, cell, h1, h2, h3, h4, h5, h6, h7, h8, h9⟩ := Cond.laysStatic_spec hl
  exact ⟨c, k, i, f, a, cell, h1, h2, h3, h4, h5, h6, h7, h8, h9, hA a (Array.getElem?_eq_some_iff.mp h5).1⟩
theorem vx_isRef {C n d : String} {v : Value} {A : Nat → Prop} {s : State} {args : Array Value} (h : va_Z C n d v A s s.heap) (hv : v.isRef = true) : (Cond.isRef (.static C n d)).before args s = true := by
  obtain ⟨cf, kf, fi, f, a, cell, h1, h2, h3, h4, h5, h6, h7, -⟩ := h
  have he : (Term.static C n d).eval args s none [] s = some v := by
    simp [Term.eval, State.fieldNamed?, h1, h2, h4, h5, h6, h7]
  simp only [Cond.before, Cond.holds, Cond.value, he]
  cases v <;> simp_all [Value.isRef]
theorem vx_isRefq {C n d : String} {A : Nat → Prop} {s : State} {args : Array Value} (h : va_Zq C n d A s s.heap) : (Cond.isRef (.static C n d)).before args s = true := by
  rcases h with h | ⟨t, h⟩
  · exact vx_isRef h rfl
  · exact vx_isRef h rfl
/-- the same frame, seen from here: as if the method were called anew in this heap -/
theorem vx_rebase {T : State} (X : Stand p l e R s m args below meth c T locs cells slots) {R' : Room} (hf : R'.frames ≤ R.frames) (hl : R'.locals ≤ R.locals) (hc : cells + R'.cells ≤ R.cells) (hs : slots + R'.slots ≤ R.slots) :
    Stand p l e R' ((T.setVm s.vm).setFrames (.invoking m args :: below)) m args below meth c T [] 0 0 := by
  have htop : (T.setVm s.vm).topJava?.isSome := X.here.top
  have hF : ((T.setVm s.vm).setFrames (.invoking m args :: below)).frames = .invoking m args :: below := State.frames_setFrames _ (State.cur_lt_of_top htop)
  obtain ⟨g₀, hg0⟩ := Option.isSome_iff_exists.mp htop
  obtain ⟨r, hr⟩ := State.topJava?_eq_some.mp hg0
  have hl9 : e.platform.stackLimits (T.setVm s.vm).me = e.platform.stackLimits s.me := X.limits
  have hb9 : (T.setVm s.vm).me.stackBytes = s.me.stackBytes := X.bytes
  refine ⟨X.admits, X.cas, X.clock, hF, ?_, X.hears, X.method, X.code, X.here, X.tail, X.warmed, ?_, ?_, ?_⟩
  · have h := X.room
    have hU : ((T.setVm s.vm).setFrames (.invoking m args :: below)).localsInUse = s.localsInUse := by
      rw [State.localsInUse_invoking hF (meth := meth) (c := c) X.method X.code, State.localsInUse_invoking X.frames X.method X.code]
    simp only [State.hasRoom, Bool.and_eq_true, decide_eq_true_eq] at h ⊢
    obtain ⟨⟨⟨⟨h1, h2, h3, h4, h5, h6⟩, h7⟩, h8⟩, h9⟩ := h
    rw [X.frames, List.length_cons] at h2 h3
    have q1 := X.heapSize
    have q2 := X.used
    simp only [hF, hU, List.length_cons, State.stackLimits_setFrames, State.stackBytes_setFrames, hl9, hb9]
    refine ⟨⟨⟨⟨by omega, by omega, by omega, by omega, by omega, h6⟩, ?_⟩, ?_⟩, X.book⟩
    · show T.heap.size + R'.cells ≤ e.platform.maxCells
      omega
    · show T.slotsUsed + R'.slots ≤ e.platform.maxSlots
      omega
  · rw [State.stackLimits_setFrames]; rfl
  · rw [State.stackBytes_setFrames]; rfl
  · refine ⟨?_, Nat.le_refl _, Nat.le_refl _, ?_, ?_, fun a c9 h9 => ⟨c9, h9, rfl, rfl, fun _ _ => rfl⟩⟩
    · obtain ⟨t, ht, -⟩ := State.frames_cons hr
      show T.setVm s.vm = { ((T.setVm s.vm).setFrames (.invoking m args :: below)).setFrames (T.setVm s.vm).frames with heap := T.heap, slotsUsed := T.slotsUsed }
      rw [State.setFrames_setFrames, State.setFrames_self ht]
      rfl
    · show T.slotsUsed = T.slotsUsed + ((T.heap.toList.drop T.heap.size).map (·.slots.size)).sum
      rw [List.drop_eq_nil_of_le (Nat.le_of_eq Array.length_toList)]
      rfl
    · show ((T.heap.toList.drop T.heap.size).map (·.slots.size)).sum ≤ 0
      rw [List.drop_eq_nil_of_le (Nat.le_of_eq Array.length_toList)]
      exact Nat.le_refl _
/-- 'throw new E()': new; dup; invokespecial; athrow -/
theorem vx_throw0 {cc : ByteArray} {pc : Nat} (hexec : p.tables.exec = Jvm.exec) (hb : c.code = cc) (hl : l.stackTraces = false) {own cls : String} {names : List String} {ik ic mc ms : Nat} {A : Nat → Prop}
    (hown : s.vm.findClass own = some m.cls) (hcls : Bundle.fit cls = true) (hnames : ∀ n ∈ names, Bundle.fit n = true)
    (hk : (Cond.classLink own ik cls).before args s = true) (hini : (Cond.initialized cls).before args s = true) (hat : ∀ w ∈ vx_at0 own ic cls names, w.before args s = true)
    (hgood : ∀ w ∈ Cond.classLink own ik cls :: Cond.initialized cls :: vx_at0 own ic cls names, vx_ot w = true)
    (hU : vx_Zq Bundle.tN "UNASSIGNED_STACK" Bundle.steD A s s.heap) (hN : vx_Zq Bundle.tN "SUPPRESSED_SENTINEL" Bundle.listD A s s.heap) (hS : va_S A s.heap H locs) (hsize : ls.size = c.maxLocals)
    (d0 : decode cc pc = .ok (.new ik, 3)) (d3 : decode cc (pc + 3) = .ok (.dup, 1)) (d4 : decode cc (pc + 4) = .ok (.invokespecial ic, 3)) (d7 : decode cc (pc + 7) = .ok (.athrow, 1))
    (hout : ∀ x ∈ c.exceptionTable.toList, covers x (pc + 7) = false)
    (hRframes : names.length + 3 < R.frames) (hRlocals : (rest.map fun v => v.category).sum + (13 * (names.length + 1) + 42) ≤ R.locals) (hRcells : cells + 1 ≤ R.cells) (hRslots : slots + 6 ≤ R.slots) (hlocks : meth.locks = false)
    (hx : ∀ t : State, s.vm.Alike t.vm → H.size ≤ t.heap.size → (∀ q : Nat, q < H.size → t.heap[q]? = H[q]?) → XC cls s t)
    (hf : ∀ z ∈ locs, free z.base) (hc : cells + 1 ≤ mc) (hs : slots + 6 ≤ ms) :
    W p l e R s m args below meth c H locs cells slots (vx_MQ below Qc XC args s mc ms free) (F0 m pc ls rest) := by
  intro T hT X
  have htr : e.platform.stackTraces = false := (show e.platform.stackTraces = l.stackTraces by rw [X.admits.platform]).trans hl
  have Y := vx_rebase X (R' := { frames := R.frames, locals := R.locals, cells := 1, slots := 6 }) (Nat.le_refl _) (Nat.le_refl _) hRcells hRslots
  obtain ⟨s', hA⟩ : ∃ z, z = (T.setVm s.vm).setFrames (.invoking m args :: below) := ⟨_, rfl⟩
  rw [← hA] at Y
  have hvm : s'.vm = s.vm := by rw [hA]; rfl
  have hhp : s'.heap = H := by rw [hA]; exact hT
  have hW0 : s.WarmedH s'.vm := by rw [hvm]; exact State.WarmedH.refl s
  have hat' : ∀ w ∈ vx_at0 own ic cls names, w.before args s' = true := fun w hw => vx_ot_at hW0 hvm.symm (hgood w (List.mem_cons_of_mem _ (List.mem_cons_of_mem _ hw))) (hat w hw)
  have hk' : (Cond.classLink own ik cls).before args s' = true := vx_ot_at hW0 hvm.symm (hgood _ List.mem_cons_self) hk
  have hini' : (Cond.initialized cls).before args s' = true := vx_ot_at hW0 hvm.symm (hgood _ (List.mem_cons_of_mem _ List.mem_cons_self)) hini
  have hU' : vx_Zq Bundle.tN "UNASSIGNED_STACK" Bundle.steD A s' s'.heap := by rw [hhp]; exact vx_Zq.moved hW0.alike (hU.kept hS.2.1)
  have hN' : vx_Zq Bundle.tN "SUPPRESSED_SENTINEL" Bundle.listD A s' s'.heap := by rw [hhp]; exact vx_Zq.moved hW0.alike (hN.kept hS.2.1)
  have h : ∀ w ∈ Bundle.ownAtoms0 own ic cls names, w.before args s' = true := vx_own hat' (vx_isRefq hU'.1) (vx_isRefq hN'.1) hU'.2.word hN'.2.word
  have hown' : s'.vm.findClass own = some m.cls := by rw [hvm]; exact hown
  have hins : (Cond.instantiable cls 6).before args s' = true := h _ (by simp [Bundle.ownAtoms0])
  obtain ⟨vm₁, cX, kX, hfX, hkX, -, -, X₁, st1⟩ := Y.newCold hexec (own := own) (C := cls) (index := ik) (n := 6) hown' hk' hins hini'
    (g := F0 m pc ls rest) rfl (by rw [hb]; exact d0) (Nat.le_refl _) (Nat.le_refl _)
  generalize hT1 : (T.setVm vm₁).pushCell { cls := cX, slots := kX.instanceTypes.map defaultValue, vm := .none } = T1 at X₁ st1
  have hcat : (Value.ref T.heap.size).category = 1 := rfl
  have hcellA : T1.heap[T.heap.size]? = some (freshCell cX kX) := by rw [← hT1]; exact State.heap_pushCell_size _ _
  have d3' : decode c.code (pc + 3) = .ok (.dup, 1) := by rw [hb]; exact d3
  obtain ⟨U, hsteps, hrun, hend, hW, hsame, ce, hce, hO⟩ := X₁.ctorThrow0 hexec htr (own := own) (cls := cls) (names := names) (ic := ic) hown' hcls hnames h (fun x hx => nomatch hx) hfX hkX hcellA (by rw [hhp, hT]; exact Nat.le_refl _)
    (g := { method := m, pc := pc + 4, locals := ls, stack := .ref T.heap.size :: .ref T.heap.size :: rest, locked := none }) rfl hsize rfl rfl (rest := rest) rfl
    (by rw [hb]; exact d4) (by rw [hb]; exact d7) hout hRframes (by simp only [List.map_cons, List.sum_cons, hcat]; omega) hlocks
  obtain ⟨f1, f2⟩ := vx_frame hsame
  rw [hhp] at f1 f2
  have hWs : s.WarmedH U.vm := State.WarmedH.trans hW0 hW
  have hcl : s.vm.findClass cls = some ce.cls := by
    have h9 := hO.cls
    rw [hvm] at h9
    exact h9
  have hall : s.sameButNew ({ U with vm := s.vm } : State) locs mc ms := by
    subst hA
    obtain ⟨e1, e2⟩ := hsame
    rw [State.setFrames_setFrames] at e1
    have h2 : (T.setVm s.vm).sameButNew ({ U with vm := s.vm } : State) [] (0 + 1) (0 + 6) := ⟨e1, e2⟩
    have h3 := X.same.trans h2
    rw [List.append_nil] at h3
    exact h3.mono hc hs
  refine ⟨U, ?_, .threw T.heap.size, hrun, hend, Or.inr ⟨T.heap.size, rfl, cls, ce, locs, hx U hWs.alike f1 (fun q hq => f2 q hq (fun z hz => nomatch hz)), hce, hO.vm, hcl, hWs, hall, hf⟩⟩
  refine st1 _ ?_
  show Steps p.tables e below (T1.setTop { method := m, pc := pc + 3, locals := ls, stack := .ref T.heap.size :: rest, locked := none }) _
  jvm_step X₁.here [X₁.here.top, hexec, d3', Value.category]
  exact hsteps
/-- 'throw new E("text")': new; dup; ldc; invokespecial; athrow -/
theorem vx_throwS {cc : ByteArray} {pc : Nat} (hexec : p.tables.exec = Jvm.exec) (hb : c.code = cc) (hl : l.stackTraces = false) {own cls text : String} {names : List String} {ik is ic mc ms sa : Nat} {A : Nat → Prop}
    (hown : s.vm.findClass own = some m.cls) (hcls : Bundle.fit cls = true) (hnames : ∀ n ∈ names, Bundle.fit n = true)
    (hk : (Cond.classLink own ik cls).before args s = true) (hini : (Cond.initialized cls).before args s = true) (hstr : vk_R own is text sa s) (hat : ∀ w ∈ vx_atS own ic cls names, w.before args s = true)
    (hgood : ∀ w ∈ Cond.classLink own ik cls :: Cond.initialized cls :: vx_atS own ic cls names, vx_ot w = true)
    (hU : vx_Zq Bundle.tN "UNASSIGNED_STACK" Bundle.steD A s s.heap) (hN : vx_Zq Bundle.tN "SUPPRESSED_SENTINEL" Bundle.listD A s s.heap) (hS : va_S A s.heap H locs) (hsize : ls.size = c.maxLocals)
    (d0 : decode cc pc = .ok (.new ik, 3)) (d3 : decode cc (pc + 3) = .ok (.dup, 1)) (d4 : decode cc (pc + 4) = .ok (.ldc is, 2)) (d6 : decode cc (pc + 6) = .ok (.invokespecial ic, 3)) (d9 : decode cc (pc + 9) = .ok (.athrow, 1))
    (hout : ∀ x ∈ c.exceptionTable.toList, covers x (pc + 9) = false)
    (hRframes : names.length + 3 < R.frames) (hRlocals : (rest.map fun v => v.category).sum + (13 * (names.length + 1) + 43) ≤ R.locals) (hRcells : cells + 1 ≤ R.cells) (hRslots : slots + 6 ≤ R.slots) (hlocks : meth.locks = false)
    (hx : ∀ t : State, s.vm.Alike t.vm → H.size ≤ t.heap.size → (∀ q : Nat, q < H.size → t.heap[q]? = H[q]?) → XC cls s t)
    (hf : ∀ z ∈ locs, free z.base) (hc : cells + 1 ≤ mc) (hs : slots + 6 ≤ ms) :
    W p l e R s m args below meth c H locs cells slots (vx_MQ below Qc XC args s mc ms free) (F0 m pc ls rest) := by
  intro T hT X
  have htr : e.platform.stackTraces = false := (show e.platform.stackTraces = l.stackTraces by rw [X.admits.platform]).trans hl
  have Y := vx_rebase X (R' := { frames := R.frames, locals := R.locals, cells := 1, slots := 6 }) (Nat.le_refl _) (Nat.le_refl _) hRcells hRslots
  obtain ⟨s', hA⟩ : ∃ z, z = (T.setVm s.vm).setFrames (.invoking m args :: below) := ⟨_, rfl⟩
  rw [← hA] at Y
  have hvm : s'.vm = s.vm := by rw [hA]; rfl
  have hhp : s'.heap = H := by rw [hA]; exact hT
  have hW0 : s.WarmedH s'.vm := by rw [hvm]; exact State.WarmedH.refl s
  have hat' : ∀ w ∈ vx_atS own ic cls names, w.before args s' = true := fun w hw => vx_ot_at hW0 hvm.symm (hgood w (List.mem_cons_of_mem _ (List.mem_cons_of_mem _ hw))) (hat w hw)
  have hk' : (Cond.classLink own ik cls).before args s' = true := vx_ot_at hW0 hvm.symm (hgood _ List.mem_cons_self) hk
  have hini' : (Cond.initialized cls).before args s' = true := vx_ot_at hW0 hvm.symm (hgood _ (List.mem_cons_of_mem _ List.mem_cons_self)) hini
  have hU' : vx_Zq Bundle.tN "UNASSIGNED_STACK" Bundle.steD A s' s'.heap := by rw [hhp]; exact vx_Zq.moved hW0.alike (hU.kept hS.2.1)
  have hN' : vx_Zq Bundle.tN "SUPPRESSED_SENTINEL" Bundle.listD A s' s'.heap := by rw [hhp]; exact vx_Zq.moved hW0.alike (hN.kept hS.2.1)
  have h : ∀ w ∈ Bundle.ownAtoms own ic cls names, w.before args s' = true := vx_own hat' (vx_isRefq hU'.1) (vx_isRefq hN'.1) hU'.2.word hN'.2.word
  have hown' : s'.vm.findClass own = some m.cls := by rw [hvm]; exact hown
  have hins : (Cond.instantiable cls 6).before args s' = true := h _ (by simp [Bundle.ownAtoms])
  obtain ⟨vm₁, cX, kX, hfX, hkX, -, -, X₁, st1⟩ := Y.newCold hexec (own := own) (C := cls) (index := ik) (n := 6) hown' hk' hins hini'
    (g := F0 m pc ls rest) rfl (by rw [hb]; exact d0) (Nat.le_refl _) (Nat.le_refl _)
  generalize hT1 : (T.setVm vm₁).pushCell { cls := cX, slots := kX.instanceTypes.map defaultValue, vm := .none } = T1 at X₁ st1
  have hcat : (Value.ref T.heap.size).category = 1 := rfl
  have hcellA : T1.heap[T.heap.size]? = some (freshCell cX kX) := by rw [← hT1]; exact State.heap_pushCell_size _ _
  have d3' : decode c.code (pc + 3) = .ok (.dup, 1) := by rw [hb]; exact d3
  have d4' : decode c.code (pc + 4) = .ok (.ldc is, 2) := by rw [hb]; exact d4
  have hstr' : vk_R own is text sa s' := vk_R.warm hW0 hstr
  obtain ⟨U, hsteps, hrun, hend, hW, hsame, ce, hce, hO⟩ := X₁.ctorThrowS hexec htr (own := own) (cls := cls) (names := names) (ic := ic) hown' hcls hnames h (fun x hx => nomatch hx) hfX hkX hcellA (by rw [hhp, hT]; exact Nat.le_refl _) (msg := .ref sa) rfl
    (g := { method := m, pc := pc + 6, locals := ls, stack := .ref sa :: .ref T.heap.size :: .ref T.heap.size :: rest, locked := none }) rfl hsize rfl rfl (rest := rest) rfl
    (by rw [hb]; exact d6) (by rw [hb]; exact d9) hout hRframes (by simp only [List.map_cons, List.sum_cons, hcat]; omega) hlocks
  obtain ⟨f1, f2⟩ := vx_frame hsame
  rw [hhp] at f1 f2
  have hWs : s.WarmedH U.vm := State.WarmedH.trans hW0 hW
  have hcl : s.vm.findClass cls = some ce.cls := by
    have h9 := hO.cls
    rw [hvm] at h9
    exact h9
  have hall : s.sameButNew ({ U with vm := s.vm } : State) locs mc ms := by
    subst hA
    obtain ⟨e1, e2⟩ := hsame
    rw [State.setFrames_setFrames] at e1
    have h2 : (T.setVm s.vm).sameButNew ({ U with vm := s.vm } : State) [] (0 + 1) (0 + 6) := ⟨e1, e2⟩
    have h3 := X.same.trans h2
    rw [List.append_nil] at h3
    exact h3.mono hc hs
  refine ⟨U, ?_, .threw T.heap.size, hrun, hend, Or.inr ⟨T.heap.size, rfl, cls, ce, locs, hx U hWs.alike f1 (fun q hq => f2 q hq (fun z hz => nomatch hz)), hce, hO.vm, hcl, hWs, hall, hf⟩⟩
  refine st1 _ ?_
  show Steps p.tables e below (T1.setTop { method := m, pc := pc + 3, locals := ls, stack := .ref T.heap.size :: rest, locked := none }) _
  jvm_step X₁.here [X₁.here.top, hexec, d3', Value.category]
  exact X₁.ldcString hexec (own := own) (text := text) (index := is) (a := sa) hown' hstr'.1 hstr'.2
    (g := { method := m, pc := pc + 4, locals := ls, stack := .ref T.heap.size :: .ref T.heap.size :: rest, locked := none }) rfl d4' _ hsteps
/-- 'throw new E("text")', the text by a wide index -/
theorem vx_throwSW {cc : ByteArray} {pc : Nat} (hexec : p.tables.exec = Jvm.exec) (hb : c.code = cc) (hl : l.stackTraces = false) {own cls text : String} {names : List String} {ik is ic mc ms sa : Nat} {A : Nat → Prop}
    (hown : s.vm.findClass own = some m.cls) (hcls : Bundle.fit cls = true) (hnames : ∀ n ∈ names, Bundle.fit n = true)
    (hk : (Cond.classLink own ik cls).before args s = true) (hini : (Cond.initialized cls).before args s = true) (hstr : vk_R own is text sa s) (hat : ∀ w ∈ vx_atS own ic cls names, w.before args s = true)
    (hgood : ∀ w ∈ Cond.classLink own ik cls :: Cond.initialized cls :: vx_atS own ic cls names, vx_ot w = true)
    (hU : vx_Zq Bundle.tN "UNASSIGNED_STACK" Bundle.steD A s s.heap) (hN : vx_Zq Bundle.tN "SUPPRESSED_SENTINEL" Bundle.listD A s s.heap) (hS : va_S A s.heap H locs) (hsize : ls.size = c.maxLocals)
    (d0 : decode cc pc = .ok (.new ik, 3)) (d3 : decode cc (pc + 3) = .ok (.dup, 1)) (d4 : decode cc (pc + 4) = .ok (.ldc_w is, 3)) (d7 : decode cc (pc + 7) = .ok (.invokespecial ic, 3)) (d10 : decode cc (pc + 10) = .ok (.athrow, 1))
    (hout : ∀ x ∈ c.exceptionTable.toList, covers x (pc + 10) = false)
    (hRframes : names.length + 3 < R.frames) (hRlocals : (rest.map fun v => v.category).sum + (13 * (names.length + 1) + 43) ≤ R.locals) (hRcells : cells + 1 ≤ R.cells) (hRslots : slots + 6 ≤ R.slots) (hlocks : meth.locks = false)
    (hx : ∀ t : State, s.vm.Alike t.vm → H.size ≤ t.heap.size → (∀ q : Nat, q < H.size → t.heap[q]? = H[q]?) → XC cls s t)
    (hf : ∀ z ∈ locs, free z.base) (hc : cells + 1 ≤ mc) (hs : slots + 6 ≤ ms) :
    W p l e R s m args below meth c H locs cells slots (vx_MQ below Qc XC args s mc ms free) (F0 m pc ls rest) := by
  intro T hT X
  have htr : e.platform.stackTraces = false := (show e.platform.stackTraces = l.stackTraces by rw [X.admits.platform]).trans hl
  have Y := vx_rebase X (R' := { frames := R.frames, locals := R.locals, cells := 1, slots := 6 }) (Nat.le_refl _) (Nat.le_refl _) hRcells hRslots
  obtain ⟨s', hA⟩ : ∃ z, z = (T.setVm s.vm).setFrames (.invoking m args :: below) := ⟨_, rfl⟩
  rw [← hA] at Y
  have hvm : s'.vm = s.vm := by rw [hA]; rfl
  have hhp : s'.heap = H := by rw [hA]; exact hT
  have hW0 : s.WarmedH s'.vm := by rw [hvm]; exact State.WarmedH.refl s
  have hat' : ∀ w ∈ vx_atS own ic cls names, w.before args s' = true := fun w hw => vx_ot_at hW0 hvm.symm (hgood w (List.mem_cons_of_mem _ (List.mem_cons_of_mem _ hw))) (hat w hw)
  have hk' : (Cond.classLink own ik cls).before args s' = true := vx_ot_at hW0 hvm.symm (hgood _ List.mem_cons_self) hk
  have hini' : (Cond.initialized cls).before args s' = true := vx_ot_at hW0 hvm.symm (hgood _ (List.mem_cons_of_mem _ List.mem_cons_self)) hini
  have hU' : vx_Zq Bundle.tN "UNASSIGNED_STACK" Bundle.steD A s' s'.heap := by rw [hhp]; exact vx_Zq.moved hW0.alike (hU.kept hS.2.1)
  have hN' : vx_Zq Bundle.tN "SUPPRESSED_SENTINEL" Bundle.listD A s' s'.heap := by rw [hhp]; exact vx_Zq.moved hW0.alike (hN.kept hS.2.1)
  have h : ∀ w ∈ Bundle.ownAtoms own ic cls names, w.before args s' = true := vx_own hat' (vx_isRefq hU'.1) (vx_isRefq hN'.1) hU'.2.word hN'.2.word
  have hown' : s'.vm.findClass own = some m.cls := by rw [hvm]; exact hown
  have hins : (Cond.instantiable cls 6).before args s' = true := h _ (by simp [Bundle.ownAtoms])
  obtain ⟨vm₁, cX, kX, hfX, hkX, -, -, X₁, st1⟩ := Y.newCold hexec (own := own) (C := cls) (index := ik) (n := 6) hown' hk' hins hini'
    (g := F0 m pc ls rest) rfl (by rw [hb]; exact d0) (Nat.le_refl _) (Nat.le_refl _)
  generalize hT1 : (T.setVm vm₁).pushCell { cls := cX, slots := kX.instanceTypes.map defaultValue, vm := .none } = T1 at X₁ st1
  have hcat : (Value.ref T.heap.size).category = 1 := rfl
  have hcellA : T1.heap[T.heap.size]? = some (freshCell cX kX) := by rw [← hT1]; exact State.heap_pushCell_size _ _
  have d3' : decode c.code (pc + 3) = .ok (.dup, 1) := by rw [hb]; exact d3
  have d4' : decode c.code (pc + 4) = .ok (.ldc_w is, 3) := by rw [hb]; exact d4
  have hstr' : vk_R own is text sa s' := vk_R.warm hW0 hstr
  obtain ⟨U, hsteps, hrun, hend, hW, hsame, ce, hce, hO⟩ := X₁.ctorThrowS hexec htr (own := own) (cls := cls) (names := names) (ic := ic) hown' hcls hnames h (fun x hx => nomatch hx) hfX hkX hcellA (by rw [hhp, hT]; exact Nat.le_refl _) (msg := .ref sa) rfl
    (g := { method := m, pc := pc + 7, locals := ls, stack := .ref sa :: .ref T.heap.size :: .ref T.heap.size :: rest, locked := none }) rfl hsize rfl rfl (rest := rest) rfl
    (by rw [hb]; exact d7) (by rw [hb]; exact d10) hout hRframes (by simp only [List.map_cons, List.sum_cons, hcat]; omega) hlocks
  obtain ⟨f1, f2⟩ := vx_frame hsame
  rw [hhp] at f1 f2
  have hWs : s.WarmedH U.vm := State.WarmedH.trans hW0 hW
  have hcl : s.vm.findClass cls = some ce.cls := by
    have h9 := hO.cls
    rw [hvm] at h9
    exact h9
  have hall : s.sameButNew ({ U with vm := s.vm } : State) locs mc ms := by
    subst hA
    obtain ⟨e1, e2⟩ := hsame
    rw [State.setFrames_setFrames] at e1
    have h2 : (T.setVm s.vm).sameButNew ({ U with vm := s.vm } : State) [] (0 + 1) (0 + 6) := ⟨e1, e2⟩
    have h3 := X.same.trans h2
    rw [List.append_nil] at h3
    exact h3.mono hc hs
  refine ⟨U, ?_, .threw T.heap.size, hrun, hend, Or.inr ⟨T.heap.size, rfl, cls, ce, locs, hx U hWs.alike f1 (fun q hq => f2 q hq (fun z hz => nomatch hz)), hce, hO.vm, hcl, hWs, hall, hf⟩⟩
  refine st1 _ ?_
  show Steps p.tables e below (T1.setTop { method := m, pc := pc + 3, locals := ls, stack := .ref T.heap.size :: rest, locked := none }) _
  jvm_step X₁.here [X₁.here.top, hexec, d3', Value.category]
  exact X₁.ldcStringW hexec (own := own) (text := text) (index := is) (a := sa) hown' hstr'.1 hstr'.2
    (g := { method := m, pc := pc + 4, locals := ls, stack := .ref T.heap.size :: .ref T.heap.size :: rest, locked := none }) rfl d4' _ hsteps
end Ends
section Bodies
variable {l : Launch}
theorem vx_ofW {y : MethodName} {ws ws' : List Cond} {rm : Room} {Pc : Array Value → State → Prop} {Qc : Array Value → State → Outcome → State → Prop} {XC : String → State → State → Prop} {mc ms : Nat} {free : Addr → Prop} {cc : ByteArray} {maxL : Nat} {ret : Option FieldType}
    (hy : plainName y.cls = true) (hw : ws = Cond.code y cc maxL ret :: ws')
    (body : ∀ p e s m args below meth c s₁, BodyLoose p l y (headSpec ws rm) cc maxL ret e s m args below meth c s₁ → c.maxLocals = maxL → (∀ x ∈ c.exceptionTable.toList, False) → Pc args s →
      W p l e (headSpec ws rm).room s m args below meth c s.heap [] 0 0 (vx_MQ below Qc XC args s mc ms free) (entryFrame m args maxL)) : vx_Met l y ws rm Pc Qc XC mc ms free := by
  refine MetFree.of_bodyS (code := cc) (maxLocals := maxL) (ret := ret) hy ?_ ?_
  · intro args s m h hn
    obtain ⟨meth, c, h1, h2, h3, h4, h5, h6, -, -⟩ := Cond.code_spec hn (atoms_spec (ws := ws) h _ (by rw [hw]; exact List.mem_cons_self))
    exact ⟨meth, c, h1, h2, h3, h4, h5, h6⟩
  · intro p e s m args below meth c s₁ B hml hP _
    have hh0 : s₁.heap = s.heap := by rw [B.state]; rfl
    have ht : ∀ x ∈ c.exceptionTable.toList, False := by
      obtain ⟨meth9, c9, h1, h2, -, -, -, -, h7, -⟩ := Cond.code_spec B.named (atoms_spec (ws := ws) B.pre _ (by rw [hw]; exact List.mem_cons_self))
      cases Option.some.inj (h1.symm.trans B.method)
      cases Option.some.inj (h2.symm.trans (Stand.of_body B).code)
      intro x hx
      rw [Array.isEmpty_iff.mp h7] at hx
      cases hx
    obtain ⟨t, a1, o, b1, b2, b3⟩ := body p e s m args below meth c s₁ B hml ht hP s₁ hh0 (Stand.of_body B)
    exact ⟨t, o, a1, b1, b2, b3⟩
/-- the table of a body with handlers -/
theorem vx_table {p : Program} {x y : MethodName} {S : Spec} {cc bytes : ByteArray} {maxL maxL' : Nat} {ret ret' : Option FieldType} {e : Env} {s s₁ : State} {m : MethodId} {args : Array Value} {below : List Frame} {meth : Method} {c : Code} {hh : List (Nat × Nat × Nat × Nat)}
    (B : BodyLoose p l y S cc maxL ret e s m args below meth c s₁) (h : (Cond.codeWith y bytes maxL' ret' hh).before args s = true) : c.exceptionTable.toList = tableOf hh := by
  obtain ⟨m9, meth9, c9, hn9, h1, h2, -, -, h6, -⟩ := Cond.codeWith_spec h
  cases Option.some.inj (hn9.symm.trans B.named)
  cases Option.some.inj (h1.symm.trans B.method)
  cases Option.some.inj (h2.symm.trans (Stand.of_body B).code)
  rw [← h6, table_eq]
end Bodies
end VXA
/-! ===== END ===== -/
/-! ===== BEGIN a static call of a method with an exception table ===== -/
section VXS
variable {p : Program} {l : Launch} {e : Env} {R : Room} {s : State} {m : MethodId} {args : Array Value} {below : List Frame} {meth : Method} {c : Code} {T : State} {H : Heap} {locs : List Loc} {cells slots : Nat}
abbrev vx_CSW (R : Room) (s : State) (args : Array Value) (own : String) (index : Nat) (y : MethodName) (bytes : ByteArray) (maxL : Nat) (ret : Option FieldType) (hh : List (Nat × Nat × Nat × Nat)) (ws : List Cond) (rm : Room) (mc ms n : Nat) : Prop :=
  (rm.cells = mc ∧ rm.slots = ms ∧ rm.frames + 1 ≤ R.frames ∧ 8 + (maxL + 11) + rm.locals ≤ R.locals ∧ (∀ w ∈ ws, ∀ (a' : Array Value) (U : State), s.WarmedH U.vm → w.before a' U = true) ∧ Cond.codeWith y bytes maxL ret hh ∈ ws) ∧
  (Cond.codeWith y bytes maxL ret hh).before args s = true ∧ (Cond.initialized y.cls).before args s = true ∧ (y.cls ≠ "java/lang/invoke/MethodHandle" ∧ y.cls ≠ "java/lang/invoke/VarHandle") ∧
  (∀ sig, parseMethodDescriptor y.desc = some sig → n = sig.parameters.length) ∧ (Cond.methodLink own index y).before args s = true ∧ (Cond.static y).before args s = true
theorem vx_cwSW {own : String} {index maxL mc ms : Nat} {y : MethodName} {bytes : ByteArray} {ret : Option FieldType} {hh : List (Nat × Nat × Nat × Nat)} {Ts ws ws' : List Cond} {rm : Room} (n : Nat) (ht : ∀ w ∈ Ts, w.before args s = true) (hT : GoodIn Ts (va_wsS own index y ws)) (hw : ws = Cond.codeWith y bytes maxL ret hh :: ws') (hrc : rm.cells = mc) (hrs : rm.slots = ms)
    (hd : y.cls ≠ "java/lang/invoke/MethodHandle" ∧ y.cls ≠ "java/lang/invoke/VarHandle" ∧ (parseMethodDescriptor y.desc).map (fun d => d.parameters.length) = some n) (hR : rm.frames + 1 ≤ R.frames ∧ 8 + (maxL + 11) + rm.locals ≤ R.locals) :
    vx_CSW R s args own index y bytes maxL ret hh ws rm mc ms n := by
  have ok : ∀ w ∈ va_wsS own index y ws, w.before args s = true := fun w h => ht w (hT w h).1
  have hG : GoodIn Ts ws := fun w h => hT w (by unfold va_wsS; exact List.mem_append_right _ h)
  have hc : Cond.codeWith y bytes maxL ret hh ∈ ws := by rw [hw]; exact List.mem_cons_self
  refine ⟨⟨hrc, hrs, hR.1, hR.2, pay_in ht hG, hc⟩, ht _ (hG _ hc).1, ok _ (by simp [va_wsS]), ⟨hd.1, hd.2.1⟩, fun sig h => ?_, ok _ (by simp [va_wsS]), ok _ (by simp [va_wsS])⟩
  have h2 := hd.2.2
  rw [h] at h2
  exact (Option.some.inj h2).symm
theorem vx_callSW (X : Stand p l e R s m args below meth c T locs cells slots) (hexec : p.tables.exec = Jvm.exec) {own : String} {index : Nat} {y : MethodName} {bytes : ByteArray} {maxL : Nat} {ret : Option FieldType} {hh : List (Nat × Nat × Nat × Nat)}
    (hown : s.vm.findClass own = some m.cls) (hlink : (Cond.methodLink own index y).before args s = true) (hstat : (Cond.static y).before args s = true) (hinit : (Cond.initialized y.cls).before args s = true)
    (hcode : (Cond.codeWith y bytes maxL ret hh).before args s = true) (hy : y.cls ≠ "java/lang/invoke/MethodHandle" ∧ y.cls ≠ "java/lang/invoke/VarHandle")
    {W9 : Nat} {Pre : Pt → Array Value → Prop} {Post : Pt → Array Value → Option Value → Pt → Prop} (hK : Back l R p e below s args y 3 W9 Pre Post)
    {g : JFrame} (hg : g.method = m) (hsize : g.locals.size = c.maxLocals) {argsL rest : List Value} (hlen : ∀ sig, parseMethodDescriptor y.desc = some sig → argsL.length = sig.parameters.length)
    (hstack : g.stack = argsL.reverse ++ rest) (hW : 2 * g.monitorRoom + (rest.map fun v => v.category).sum ≤ W9) (hdg : decode c.code g.pc = .ok (.invokestatic index, 3))
    (hpre : ∀ vm₁, s.WarmedH vm₁ → Pre ⟨T.setVm vm₁, locs, cells, slots⟩ argsL.toArray) :
    ∃ (v : Option Value) (vm₁ : Vm) (B : Pt), s.WarmedH vm₁ ∧ Stand p l e R s m args below meth c B.U B.locs B.cells B.slots ∧ Post ⟨T.setVm vm₁, locs, cells, slots⟩ argsL.toArray v B ∧
      ∀ target, Steps p.tables e below (B.U.setTop { g with pc := g.pc + 3, stack := v.toList ++ rest }) target → Steps p.tables e below (T.setTop g) target := by
  obtain ⟨mk, methM, cM, hnamed, hmethM, -, -, -, -, -, -, hsigM⟩ := Cond.codeWith_spec hcode
  have hstatic : methM.isStatic = true := Cond.static_spec hnamed hmethM hstat
  obtain ⟨kP, hkP, -⟩ := className_of_methodNamed hnamed
  have hinitP : kP.init = .initialized := Cond.initialized_spec (findClass_of_methodNamed hnamed) hkP hinit
  obtain ⟨vm₁, X₁, hstep₁⟩ := X.invokestatic hexec hown hlink hnamed hmethM hstatic hkP hinitP hy (g := g) hg (argsL := argsL) (rest := rest) (hlen _ hsigM) hstack hdg
  obtain ⟨v, B, X', hpost, hsteps⟩ := hK m meth c ⟨T.setVm vm₁, locs, cells, slots⟩ { g with stack := rest } (.invokestatic index) mk argsL.toArray X₁ hg hsize hdg hW (X₁.named hnamed) (hpre vm₁ X₁.warmed)
  exact ⟨v, vm₁, B, X₁.warmed, X', hpost, fun target h => hstep₁ _ fun acts => by rw [doInvoke_state]; exact hsteps.trans h⟩
theorem vx_runSW {y : MethodName} {bytes cc : ByteArray} {maxL nL mc ms n index : Nat} {ret : Option FieldType} {hh : List (Nat × Nat × Nat × Nat)} {ws : List Cond} {rm : Room} {Pc : Array Value → State → Prop} {Qc : Array Value → State → Outcome → State → Prop} {free : Addr → Prop} {Ts : List Cond} {own : String} {As rest : List Value} {g : JFrame}
    (S : CallFix p m c cc nL s args Ts own) (hM : Met l y ws rm Pc Qc mc ms free) (cw : vx_CSW R s args own index y bytes maxL ret hh ws rm mc ms n) (hp : PreS s H Pc As)
    (hg : g.method = m) (hn : As.length = n) (hsize : g.locals.size = nL) (hstack : g.stack = As.reverse ++ rest) (hW : 2 * g.monitorRoom + (rest.map fun v => v.category).sum ≤ 8) (hdg : decode cc g.pc = .ok (.invokestatic index, 3)) (hf : cells + mc ≤ R.cells ∧ slots + ms ≤ R.slots) :
    va_Run p l e R s m args below meth c H locs cells slots mc ms g rest (Qc As.toArray) (free) := by
  obtain ⟨⟨hrc, hrs, hfr, hlo, hws, hcw⟩, hcode, hini, hy, hlen, hl, hstt⟩ := cw
  have hK : Back l R p e below s args y 3 8 (PreOf R mc ms Pc) (PostOf Qc mc ms free) := va_backW (hh := hh) (bytes := bytes) (maxL := maxL) (ret := ret) hM hp.1 hrc hrs hfr hlo hws hcw (fun a' U hW => word_at hW (Or.inl (by first | rfl | simp [Cond.onTables, Cond.keeps, Cond.steady])) hini)
  obtain ⟨hx, hb, hml, ho, -⟩ := S
  intro T hT X
  obtain ⟨v, vm₁, ⟨U', l2, c2, s2⟩, hW₁, X', ⟨g', mk, t, L, e1, e2, hq, h1, hL, h2, h3⟩, st⟩ := vx_callSW X hx (hh := hh) (bytes := bytes) (maxL := maxL) (ret := ret) ho hl hstt hini hcode hy hK hg (hsize.trans hml.symm) (argsL := As) (rest := rest) (fun sig h => hn.trans (hlen sig h)) hstack hW (by rw [hb]; exact hdg)
    (fun vm₁ hW₁ => ⟨hf.1, hf.2, hp.2 (T.setVm vm₁) hT hW₁⟩)
  dsimp only [Pt.U, Pt.locs, Pt.cells, Pt.slots] at X' e1 e2 h1 h2 h3 st
  subst h1; subst h2; subst h3
  exact ⟨v, (T.setVm vm₁).calling g' mk As.toArray, t, U', L, hT, X', hL, e1, e2, hq, st⟩
/-- not caught here, past rows that name other classes: it goes on to the caller -/
theorem vx_outP {p : Program} {l : Launch} {e : Env} {R : Room} {s : State} {m : MethodId} {args : Array Value} {below : List Frame} {meth : Method} {c : Code} {H : Heap} {locs : List Loc} {cells slots : Nat} {free : Addr → Prop} {ls : Array Slot} {rest : List Value} {Qc : Array Value → State → Outcome → State → Prop} {XC : String → State → State → Prop}
    {pc : Nat} {own E : String} {ce : Cell} {q : Addr} {mc ms : Nat} (hown : s.vm.findClass own = some m.cls) (hlocks : meth.locks = false)
    (hpass : ∀ z ∈ c.exceptionTable.toList, covers z pc = false ∨ (z.catchType ≠ 0 ∧ ∃ nm : String, (Cond.classLink own z.catchType nm).before args s = true ∧ va_Nc E nm s)) (hcell : H[q]? = some ce) (hv : ce.vm = .none) (hcl : s.vm.findClass E = some ce.cls)
    (hx : ∀ t : State, t.heap = H → s.vm.Alike t.vm → XC E s t) (hf : ∀ z ∈ locs, free z.base) (hc : cells ≤ mc) (hs : slots ≤ ms) :
    vx_W p l e R s m args below meth c H locs cells slots (vx_MQ below Qc XC args s mc ms free) (F0 m pc ls rest) q := by
  intro T hT X
  have hpl : e.platform.magicAccessors = ({} : Platform).magicAccessors := by rw [X.admits.platform]
  obtain ⟨vm', hW', X', st⟩ := X.outThrough hlocks q (g := F0 m pc ls rest) rfl rfl rfl (cell := ce) (by rw [hT]; exact hcell) (by rw [hv]; rfl)
    (by obtain ⟨k9, h9, -⟩ := Vm.findClass_spec hcl; exact ⟨k9, h9⟩) (fun z hz => by
      rcases hpass z hz with h | ⟨hz0, nm, hl1, hn1⟩
      · exact Or.inl h
      · obtain ⟨c6, hc6, hcl6⟩ := Cond.classLink_spec hown hl1 e.platform hpl
        obtain ⟨a8, b8, h1, h2, h3⟩ := hn1
        cases Option.some.inj (h1.symm.trans hcl)
        cases Option.some.inj (h2.symm.trans hc6)
        exact Or.inr ⟨hz0, _, hcl6, h3⟩)
  obtain ⟨g₀, hfr⟩ := X'.frames_eq
  have hcell9 : ((T.setVm vm').setFrames (.throwing q :: below)).heap[q]? = some ce := by
    show T.heap[q]? = some ce
    rw [hT]; exact hcell
  have hend : Ended ((T.setVm vm').setFrames (.throwing q :: below)) below (.threw q) := State.frames_setFrames _ (State.cur_lt_of_frames hfr)
  refine ⟨(T.setVm vm').setFrames (.throwing q :: below), ?_, .threw q, X'.here.running, hend, Or.inr ⟨q, rfl, E, ce, locs, hx _ hT (X'.ends _).1.alike, hcell9, hv, hcl, (X'.ends _).1, (X'.ends _).2.mono hc hs, hf⟩⟩
  rw [X.pushThrowing_eq]
  exact st
/-- a thing of a world lies in the heap -/
theorem vx_lt {D : va_G} {cl : List vw_C} {ws : va_W} {H1 : Heap} (h : va_P D cl ws H1) {k : Nat} {q : Nat × va_E} (hk : ws[k]? = some q) : q.1 < H1.size := (h k q hk).lt
end VXS
/-! ===== END ===== -/
/-! ===== BEGIN methods with a table of their own: called by a name, returning or throwing ===== -/
section VXH
/-! vx_backW, vx_callVX, vx_callSX, vx_callVW, vx_runVW, vx_runVX, vx_runSX, vx_ofWH follow the same proofs as their sisters above (Free/Laws.lean, Shelf42/LK1.lean); vx_outP calls Shelf42/NT130.lean (outThrough). -/
section
variable {l : Launch} {R : Room} {p : Program} {e : Env} {below : List Frame} {s : State} {sargs : Array Value} {y : MethodName} {len W9 : Nat}
theorem vx_backW {ws : List Cond} {rm : Room} {Pc : Array Value → State → Prop} {Qc : Array Value → State → Outcome → State → Prop} {XC : String → State → State → Prop} {mc ms : Nat} {free : Addr → Prop} {bytes : ByteArray} {maxL : Nat} {ret : Option FieldType} {hh : List (Nat × Nat × Nat × Nat)}
    (hM : vx_Met l y ws rm Pc Qc XC mc ms free) (hblind : FrameBlind Pc) (hrc : rm.cells = mc) (hrs : rm.slots = ms)
    (hframes : rm.frames + 1 ≤ R.frames) (hlocals : W9 + (maxL + 11) + rm.locals ≤ R.locals)
    (hws : ∀ w ∈ ws, ∀ a' U, s.WarmedH U.vm → w.before a' U = true) (hcode : Cond.codeWith y bytes maxL ret hh ∈ ws) (hinit : ∀ a' U, s.WarmedH U.vm → (Cond.initialized y.cls).before a' U = true) :
    vx_Back l R p e below s sargs y len W9 (PreOf R mc ms Pc) (PostOf Qc mc ms free) (vx_Post XC mc ms free) := by
  intro m meth c A g ig mk a X hg hsize hdg hW hn hp
  have h1 : (headSpec ws rm).pre.before a A.U = true := atoms_intro fun w hw => hws w hw _ _ X.warmed
  have h2 : (Cond.codeWith y bytes maxL ret hh).before a A.U = true := hws _ hcode _ _ X.warmed
  have h3 : (Cond.initialized y.cls).before a A.U = true := hinit _ _ X.warmed
  have h4 : A.cells + (headSpec ws rm).room.cells ≤ R.cells := by rw [show (headSpec ws rm).room.cells = mc from hrc]; exact hp.1
  have h5 : A.slots + (headSpec ws rm).room.slots ≤ R.slots := by rw [show (headSpec ws rm).room.slots = ms from hrs]; exact hp.2.1
  have hPc : Pc a (A.U.calling g mk a) := hblind _ _ _ _ hp.2.2
  obtain ⟨U, Ls, c0, s0⟩ := A
  dsimp only [Pt.U, Pt.locs, Pt.cells, Pt.slots] at h1 h2 h3 h4 h5 X hn hPc ⊢
  obtain ⟨m9, methY, cY, hn9, hmY, hcY, -, hlY, -⟩ := Cond.codeWith_spec h2
  cases Option.some.inj (hn9.symm.trans hn)
  obtain ⟨kY, hkY, -⟩ := className_of_methodNamed hn
  have hinitY : kY.init = .initialized := Cond.initialized_spec (findClass_of_methodNamed hn) hkY h3
  have h : At U g.method c below := by rw [hg]; exact X.here
  have hlocals9 : W9 + (maxL + 11) + (headSpec ws rm).room.locals ≤ R.locals := hlocals
  have happ : (headSpec ws rm).appliesLoose y e.platform (U.calling g mk a) = true :=
    Spec.appliesLoose_calling (g := g) h hdg hn hkY hinitY
      (X.room_calling (g := g) (R' := (headSpec ws rm).room) hsize hmY hcY hframes (by rw [hlY]; omega) h4 h5) h1
  obtain ⟨mid, hmid⟩ := h.above
  have hfr : (U.setTop g).frames = (.java g :: mid) ++ below := by rw [State.frames_setTop' g h.top, hmid]; rfl
  obtain ⟨o, s₂, hsteps, -, hend, hq⟩ := Steps.callFree hM p X.admits X.cas X.clock (acts := []) hfr happ hPc trivial
  have hq' : vx_Q Qc XC mc ms free a (U.calling g mk a) o s₂ := hq
  rw [State.frames_setTop' g h.top] at hend
  obtain ⟨g₀, hg0⟩ := Option.isSome_iff_exists.mp h.top
  obtain ⟨r, hr⟩ := State.topJava?_eq_some.mp hg0
  have hr' : (({ U with heap := s₂.heap, slotsUsed := s₂.slotsUsed } : State).setVm s₂.vm).frames = .java g₀ :: r := hr
  rcases hq' with ⟨hqc, L, hfe, hL⟩ | ⟨q, rfl, E, ce, L, hx, hce, hcv, hcl, hW₂, hsm, hL⟩
  · obtain ⟨⟨v, rfl⟩, hW₂, e2, q2, q3, q4, q5, q6⟩ := id hfe
    have e3 : s₂ = ({ (U.calling g mk a).setFrames s₂.frames with heap := s₂.heap, slotsUsed := s₂.slotsUsed } : State).setVm s₂.vm := by
      have : s₂ = ({ s₂ with vm := (U.calling g mk a).vm } : State).setVm s₂.vm := rfl
      rw [e2] at this
      exact this
    obtain ⟨c₂, i₂, len₂, hc₂, hd₂, hf₂⟩ := hend
    have hW' : U.WarmedH s₂.vm := hW₂
    have hcc : c₂ = c := by
      have h1 : s₂.code? g.method = U.code? g.method := by
        rw [State.code?_eq, State.code?_eq, hW'.alike.method?]
      exact Option.some.inj (hc₂.symm.trans (h1.trans h.code))
    subst hcc
    have hlen : len₂ = len := by rw [hdg] at hd₂; cases hd₂; rfl
    subst hlen
    have hs₂ : s₂ = (({ U with heap := s₂.heap, slotsUsed := s₂.slotsUsed } : State).setVm s₂.vm).setTop { g with pc := g.pc + len₂, stack := v.toList ++ g.stack } := by
      refine e3.trans ?_
      rw [hf₂, State.calling_eq h.top, State.setFrames_setFrames, State.setTop_of_frames _ hr', hr]
      rfl
    have hsame : U.sameButNew ({ U with heap := s₂.heap, slotsUsed := s₂.slotsUsed } : State) L mc ms := by
      refine ⟨?_, q2, q3, q4, q5, q6⟩
      obtain ⟨t, ht, -⟩ := State.frames_cons hr
      show ({ U with heap := s₂.heap, slotsUsed := s₂.slotsUsed } : State) = { U.setFrames U.frames with heap := s₂.heap, slotsUsed := s₂.slotsUsed }
      rw [State.setFrames_self ht]
    subst hg
    refine Or.inl ⟨v, ⟨(({ U with heap := s₂.heap, slotsUsed := s₂.slotsUsed } : State).setVm s₂.vm), Ls ++ L, c0 + mc, s0 + ms⟩,
      ⟨X.admits, X.cas, X.clock, X.frames, X.room, X.hears, X.method, X.code, (X.here.setHeapUsed s₂.heap s₂.slotsUsed).setVm hW'.alike, X.tail, State.WarmedH.trans X.warmed hW', X.limits, X.bytes, X.same.trans (hsame.setVm s.vm)⟩,
      ⟨g, mk, s₂, L, rfl, rfl, hqc, rfl, hL, rfl, rfl⟩, ?_⟩
    show Steps p.tables e below _ ((({ U with heap := s₂.heap, slotsUsed := s₂.slotsUsed } : State).setVm s₂.vm).setTop { g with pc := g.pc + len₂, stack := v.toList ++ g.stack })
    rw [← hs₂]
    exact hsteps
  · obtain ⟨e2, q2, q3, q4, q5, q6⟩ := id hsm
    have e3 : s₂ = ({ (U.calling g mk a).setFrames s₂.frames with heap := s₂.heap, slotsUsed := s₂.slotsUsed } : State).setVm s₂.vm := by
      have : s₂ = ({ s₂ with vm := (U.calling g mk a).vm } : State).setVm s₂.vm := rfl
      rw [e2] at this
      exact this
    have hf₂ : s₂.frames = .throwing q :: .java g :: U.frames.tail := hend
    have hW' : U.WarmedH s₂.vm := hW₂
    have hs₂ : s₂ = ((({ U with heap := s₂.heap, slotsUsed := s₂.slotsUsed } : State).setVm s₂.vm).setTop g).pushFrame (.throwing q) := by
      refine e3.trans ?_
      rw [hf₂, State.calling_eq h.top, State.setFrames_setFrames, State.pushFrame, State.frames_setTop _ hr', State.setTop_of_frames _ hr', State.setFrames_setFrames, hr]
      rfl
    have hsame : U.sameButNew ({ U with heap := s₂.heap, slotsUsed := s₂.slotsUsed } : State) L mc ms := by
      refine ⟨?_, q2, q3, q4, q5, q6⟩
      obtain ⟨t, ht, -⟩ := State.frames_cons hr
      show ({ U with heap := s₂.heap, slotsUsed := s₂.slotsUsed } : State) = { U.setFrames U.frames with heap := s₂.heap, slotsUsed := s₂.slotsUsed }
      rw [State.setFrames_self ht]
    subst hg
    refine Or.inr ⟨q, ⟨(({ U with heap := s₂.heap, slotsUsed := s₂.slotsUsed } : State).setVm s₂.vm), Ls ++ L, c0 + mc, s0 + ms⟩,
      ⟨X.admits, X.cas, X.clock, X.frames, X.room, X.hears, X.method, X.code, (X.here.setHeapUsed s₂.heap s₂.slotsUsed).setVm hW'.alike, X.tail, State.WarmedH.trans X.warmed hW', X.limits, X.bytes, X.same.trans (hsame.setVm s.vm)⟩,
      ⟨g, mk, s₂, L, E, ce, rfl, rfl, hx, hce, hcv, hcl, rfl, hL, rfl, rfl⟩, ?_⟩
    show Steps p.tables e below _ (((({ U with heap := s₂.heap, slotsUsed := s₂.slotsUsed } : State).setVm s₂.vm).setTop g).pushFrame (.throwing q))
    rw [← hs₂]
    exact hsteps
end
variable {p : Program} {l : Launch} {e : Env} {R : Room} {s : State} {m : MethodId} {args : Array Value} {below : List Frame} {meth : Method} {c : Code} {T : State} {H : Heap} {locs : List Loc} {cells slots : Nat}
theorem vx_callVX (X : Stand p l e R s m args below meth c T locs cells slots) (hexec : p.tables.exec = Jvm.exec) {own C : String} {index : Nat} {y : MethodName} {bytes : ByteArray} {maxL : Nat} {ret : Option FieldType} {hh : List (Nat × Nat × Nat × Nat)}
    (hown : s.vm.findClass own = some m.cls) (hlink : (Cond.methodLink own index y).before args s = true) (hinst : (Cond.instanceMethod y).before args s = true) (hsel : (Cond.selects C y y).before args s = true)
    (hcode : (Cond.codeWith y bytes maxL ret hh).before args s = true) (hy : y.cls ≠ "java/lang/invoke/MethodHandle" ∧ y.cls ≠ "java/lang/invoke/VarHandle")
    {W9 : Nat} {Pre : Pt → Array Value → Prop} {Post : Pt → Array Value → Option Value → Pt → Prop} {PostX : Pt → Array Value → Addr → Pt → Prop} (hK : vx_Back l R p e below s args y 3 W9 Pre Post PostX)
    {b : Addr} {cellB : Cell} (hcell : T.heap[b]? = some cellB) (hobj : cellB.vm.isStatics = false) (hcls : s.vm.findClass C = some cellB.cls)
    {g : JFrame} (hg : g.method = m) (hsize : g.locals.size = c.maxLocals) {argsL rest : List Value} (hlen : ∀ sig, parseMethodDescriptor y.desc = some sig → argsL.length = sig.parameters.length)
    (hstack : g.stack = argsL.reverse ++ .ref b :: rest) (hW : 2 * g.monitorRoom + (rest.map fun v => v.category).sum ≤ W9) (hdg : decode c.code g.pc = .ok (.invokevirtual index, 3))
    (hpre : ∀ vm₁, s.WarmedH vm₁ → Pre ⟨T.setVm vm₁, locs, cells, slots⟩ (Value.ref b :: argsL).toArray) :
    (∃ (v : Option Value) (vm₁ : Vm) (B : Pt), s.WarmedH vm₁ ∧ Stand p l e R s m args below meth c B.U B.locs B.cells B.slots ∧ Post ⟨T.setVm vm₁, locs, cells, slots⟩ (Value.ref b :: argsL).toArray v B ∧
      ∀ target, Steps p.tables e below (B.U.setTop { g with pc := g.pc + 3, stack := v.toList ++ rest }) target → Steps p.tables e below (T.setTop g) target) ∨
    (∃ (q : Addr) (vm₁ : Vm) (B : Pt), s.WarmedH vm₁ ∧ Stand p l e R s m args below meth c B.U B.locs B.cells B.slots ∧ PostX ⟨T.setVm vm₁, locs, cells, slots⟩ (Value.ref b :: argsL).toArray q B ∧
      Steps p.tables e below (T.setTop g) ((B.U.setTop { g with stack := rest }).pushFrame (.throwing q))) := by
  obtain ⟨mk, methM, hnamed, hmethM, hstM, habM⟩ := Cond.instanceMethod_spec hinst
  obtain ⟨m8, methM', cM, hn8, hmethM', -, -, -, -, -, -, hsigM⟩ := Cond.codeWith_spec hcode
  cases Option.some.inj (hn8.symm.trans hnamed)
  cases hmethM.symm.trans hmethM'
  obtain ⟨c2, r2, m2, q1, q2, q3, q4, kP, hkP, hkPi⟩ := Cond.selects_spec hsel
  cases hcls.symm.trans q1
  cases (State.methodFound?_of_named hnamed hy).symm.trans q2
  cases hnamed.symm.trans q3
  have hselP : selectMethod e.platform s.vm cellB.cls mk = .method mk := by rw [Launch.admits_selectMethod X.admits]; exact q4
  obtain ⟨vm₁, X₁, hstep₁⟩ := X.invokevirtual hexec hown hlink hnamed hmethM hstM hkP hkPi hy (a := b) (cell := cellB) hcell
    (fun z h => by rw [h] at hobj; cases hobj) hselP hmethM habM hkP hkPi (g := g) hg (argsL := argsL) (rest := rest) (hlen _ hsigM) hstack hdg
  rcases hK m meth c ⟨T.setVm vm₁, locs, cells, slots⟩ { g with stack := rest } (.invokevirtual index) mk (Value.ref b :: argsL).toArray X₁ hg hsize hdg hW (X₁.named hnamed) (hpre vm₁ X₁.warmed) with ⟨v, B, X', hpost, hsteps⟩ | ⟨q, B, X', hpost, hsteps⟩
  · exact Or.inl ⟨v, vm₁, B, X₁.warmed, X', hpost, fun target h => hstep₁ _ fun acts => by rw [doInvoke_state]; exact hsteps.trans h⟩
  · exact Or.inr ⟨q, vm₁, B, X₁.warmed, X', hpost, hstep₁ _ fun acts => by rw [doInvoke_state]; exact hsteps⟩
theorem vx_callSX (X : Stand p l e R s m args below meth c T locs cells slots) (hexec : p.tables.exec = Jvm.exec) {own : String} {index : Nat} {y : MethodName} {bytes : ByteArray} {maxL : Nat} {ret : Option FieldType} {hh : List (Nat × Nat × Nat × Nat)}
    (hown : s.vm.findClass own = some m.cls) (hlink : (Cond.methodLink own index y).before args s = true) (hstat : (Cond.static y).before args s = true) (hinit : (Cond.initialized y.cls).before args s = true)
    (hcode : (Cond.codeWith y bytes maxL ret hh).before args s = true) (hy : y.cls ≠ "java/lang/invoke/MethodHandle" ∧ y.cls ≠ "java/lang/invoke/VarHandle")
    {W9 : Nat} {Pre : Pt → Array Value → Prop} {Post : Pt → Array Value → Option Value → Pt → Prop} {PostX : Pt → Array Value → Addr → Pt → Prop} (hK : vx_Back l R p e below s args y 3 W9 Pre Post PostX)
    {g : JFrame} (hg : g.method = m) (hsize : g.locals.size = c.maxLocals) {argsL rest : List Value} (hlen : ∀ sig, parseMethodDescriptor y.desc = some sig → argsL.length = sig.parameters.length)
    (hstack : g.stack = argsL.reverse ++ rest) (hW : 2 * g.monitorRoom + (rest.map fun v => v.category).sum ≤ W9) (hdg : decode c.code g.pc = .ok (.invokestatic index, 3))
    (hpre : ∀ vm₁, s.WarmedH vm₁ → Pre ⟨T.setVm vm₁, locs, cells, slots⟩ argsL.toArray) :
    (∃ (v : Option Value) (vm₁ : Vm) (B : Pt), s.WarmedH vm₁ ∧ Stand p l e R s m args below meth c B.U B.locs B.cells B.slots ∧ Post ⟨T.setVm vm₁, locs, cells, slots⟩ argsL.toArray v B ∧
      ∀ target, Steps p.tables e below (B.U.setTop { g with pc := g.pc + 3, stack := v.toList ++ rest }) target → Steps p.tables e below (T.setTop g) target) ∨
    (∃ (q : Addr) (vm₁ : Vm) (B : Pt), s.WarmedH vm₁ ∧ Stand p l e R s m args below meth c B.U B.locs B.cells B.slots ∧ PostX ⟨T.setVm vm₁, locs, cells, slots⟩ argsL.toArray q B ∧
      Steps p.tables e below (T.setTop g) ((B.U.setTop { g with stack := rest }).pushFrame (.throwing q))) := by
  obtain ⟨mk, methM, cM, hnamed, hmethM, -, -, -, -, -, -, hsigM⟩ := Cond.codeWith_spec hcode
  have hstatic : methM.isStatic = true := Cond.static_spec hnamed hmethM hstat
  obtain ⟨kP, hkP, -⟩ := className_of_methodNamed hnamed
  have hinitP : kP.init = .initialized := Cond.initialized_spec (findClass_of_methodNamed hnamed) hkP hinit
  obtain ⟨vm₁, X₁, hstep₁⟩ := X.invokestatic hexec hown hlink hnamed hmethM hstatic hkP hinitP hy (g := g) hg (argsL := argsL) (rest := rest) (hlen _ hsigM) hstack hdg
  rcases hK m meth c ⟨T.setVm vm₁, locs, cells, slots⟩ { g with stack := rest } (.invokestatic index) mk argsL.toArray X₁ hg hsize hdg hW (X₁.named hnamed) (hpre vm₁ X₁.warmed) with ⟨v, B, X', hpost, hsteps⟩ | ⟨q, B, X', hpost, hsteps⟩
  · exact Or.inl ⟨v, vm₁, B, X₁.warmed, X', hpost, fun target h => hstep₁ _ fun acts => by rw [doInvoke_state]; exact hsteps.trans h⟩
  · exact Or.inr ⟨q, vm₁, B, X₁.warmed, X', hpost, hstep₁ _ fun acts => by rw [doInvoke_state]; exact hsteps⟩
theorem vx_callVW (X : Stand p l e R s m args below meth c T locs cells slots) (hexec : p.tables.exec = Jvm.exec) {own C : String} {index : Nat} {y : MethodName} {bytes : ByteArray} {maxL : Nat} {ret : Option FieldType} {hh : List (Nat × Nat × Nat × Nat)}
    (hown : s.vm.findClass own = some m.cls) (hlink : (Cond.methodLink own index y).before args s = true) (hinst : (Cond.instanceMethod y).before args s = true) (hsel : (Cond.selects C y y).before args s = true)
    (hcode : (Cond.codeWith y bytes maxL ret hh).before args s = true) (hy : y.cls ≠ "java/lang/invoke/MethodHandle" ∧ y.cls ≠ "java/lang/invoke/VarHandle")
    {W9 : Nat} {Pre : Pt → Array Value → Prop} {Post : Pt → Array Value → Option Value → Pt → Prop} (hK : Back l R p e below s args y 3 W9 Pre Post)
    {b : Addr} {cellB : Cell} (hcell : T.heap[b]? = some cellB) (hobj : cellB.vm.isStatics = false) (hcls : s.vm.findClass C = some cellB.cls)
    {g : JFrame} (hg : g.method = m) (hsize : g.locals.size = c.maxLocals) {argsL rest : List Value} (hlen : ∀ sig, parseMethodDescriptor y.desc = some sig → argsL.length = sig.parameters.length)
    (hstack : g.stack = argsL.reverse ++ .ref b :: rest) (hW : 2 * g.monitorRoom + (rest.map fun v => v.category).sum ≤ W9) (hdg : decode c.code g.pc = .ok (.invokevirtual index, 3))
    (hpre : ∀ vm₁, s.WarmedH vm₁ → Pre ⟨T.setVm vm₁, locs, cells, slots⟩ (Value.ref b :: argsL).toArray) :
    ∃ (v : Option Value) (vm₁ : Vm) (B : Pt), s.WarmedH vm₁ ∧ Stand p l e R s m args below meth c B.U B.locs B.cells B.slots ∧ Post ⟨T.setVm vm₁, locs, cells, slots⟩ (Value.ref b :: argsL).toArray v B ∧
      ∀ target, Steps p.tables e below (B.U.setTop { g with pc := g.pc + 3, stack := v.toList ++ rest }) target → Steps p.tables e below (T.setTop g) target := by
  obtain ⟨mk, methM, hnamed, hmethM, hstM, habM⟩ := Cond.instanceMethod_spec hinst
  obtain ⟨m8, methM', cM, hn8, hmethM', -, -, -, -, -, -, hsigM⟩ := Cond.codeWith_spec hcode
  cases Option.some.inj (hn8.symm.trans hnamed)
  cases hmethM.symm.trans hmethM'
  obtain ⟨c2, r2, m2, q1, q2, q3, q4, kP, hkP, hkPi⟩ := Cond.selects_spec hsel
  cases hcls.symm.trans q1
  cases (State.methodFound?_of_named hnamed hy).symm.trans q2
  cases hnamed.symm.trans q3
  have hselP : selectMethod e.platform s.vm cellB.cls mk = .method mk := by rw [Launch.admits_selectMethod X.admits]; exact q4
  obtain ⟨vm₁, X₁, hstep₁⟩ := X.invokevirtual hexec hown hlink hnamed hmethM hstM hkP hkPi hy (a := b) (cell := cellB) hcell
    (fun z h => by rw [h] at hobj; cases hobj) hselP hmethM habM hkP hkPi (g := g) hg (argsL := argsL) (rest := rest) (hlen _ hsigM) hstack hdg
  obtain ⟨v, B, X', hpost, hsteps⟩ := hK m meth c ⟨T.setVm vm₁, locs, cells, slots⟩ { g with stack := rest } (.invokevirtual index) mk (Value.ref b :: argsL).toArray X₁ hg hsize hdg hW (X₁.named hnamed) (hpre vm₁ X₁.warmed)
  exact ⟨v, vm₁, B, X₁.warmed, X', hpost, fun target h => hstep₁ _ fun acts => by rw [doInvoke_state]; exact hsteps.trans h⟩
abbrev vx_CVW (R : Room) (s : State) (args : Array Value) (own C : String) (index : Nat) (y : MethodName) (bytes : ByteArray) (maxL : Nat) (ret : Option FieldType) (hh : List (Nat × Nat × Nat × Nat)) (ws : List Cond) (rm : Room) (mc ms n : Nat) : Prop :=
  (rm.cells = mc ∧ rm.slots = ms ∧ rm.frames + 1 ≤ R.frames ∧ 8 + (maxL + 11) + rm.locals ≤ R.locals ∧ (∀ w ∈ ws, ∀ (a' : Array Value) (U : State), s.WarmedH U.vm → w.before a' U = true) ∧ Cond.codeWith y bytes maxL ret hh ∈ ws) ∧
  (Cond.codeWith y bytes maxL ret hh).before args s = true ∧ (Cond.initialized y.cls).before args s = true ∧ (y.cls ≠ "java/lang/invoke/MethodHandle" ∧ y.cls ≠ "java/lang/invoke/VarHandle") ∧
  (∀ sig, parseMethodDescriptor y.desc = some sig → n = sig.parameters.length) ∧ (Cond.methodLink own index y).before args s = true ∧ (Cond.instanceMethod y).before args s = true ∧ (Cond.selects C y y).before args s = true
theorem vx_cwVW {own C : String} {index maxL mc ms : Nat} {y : MethodName} {bytes : ByteArray} {ret : Option FieldType} {hh : List (Nat × Nat × Nat × Nat)} {Ts ws ws' : List Cond} {rm : Room} (n : Nat) (ht : ∀ w ∈ Ts, w.before args s = true) (hT : GoodIn Ts (wsV own index C y ws)) (hw : ws = Cond.codeWith y bytes maxL ret hh :: ws') (hrc : rm.cells = mc) (hrs : rm.slots = ms)
    (hd : y.cls = C ∧ y.cls ≠ "java/lang/invoke/MethodHandle" ∧ y.cls ≠ "java/lang/invoke/VarHandle" ∧ (parseMethodDescriptor y.desc).map (fun d => d.parameters.length) = some n) (hR : rm.frames + 1 ≤ R.frames ∧ 8 + (maxL + 11) + rm.locals ≤ R.locals) :
    vx_CVW R s args own C index y bytes maxL ret hh ws rm mc ms n := by
  obtain ⟨hC, hd⟩ := hd
  subst hC
  have ok : ∀ w ∈ wsV own index y.cls y ws, w.before args s = true := fun w h => ht w (hT w h).1
  have hG : GoodIn Ts ws := fun w h => hT w (by unfold wsV; exact List.mem_append_right _ h)
  have hc : Cond.codeWith y bytes maxL ret hh ∈ ws := by rw [hw]; exact List.mem_cons_self
  refine ⟨⟨hrc, hrs, hR.1, hR.2, pay_in ht hG, hc⟩, ht _ (hG _ hc).1, ok _ (by simp [wsV]), ⟨hd.1, hd.2.1⟩, fun sig h => ?_, ok _ (by simp [wsV]), ok _ (by simp [wsV]), ok _ (by simp [wsV])⟩
  have h2 := hd.2.2
  rw [h] at h2
  exact (Option.some.inj h2).symm
theorem vx_runVW {y : MethodName} {bytes cc : ByteArray} {maxL nL mc ms n index : Nat} {ret : Option FieldType} {hh : List (Nat × Nat × Nat × Nat)} {ws : List Cond} {rm : Room} {Pc : Array Value → State → Prop} {Qc : Array Value → State → Outcome → State → Prop} {free : Addr → Prop} {Ts : List Cond} {own C : String} {b : Addr} {As rest : List Value} {g : JFrame}
    (S : CallFix p m c cc nL s args Ts own) (hM : Met l y ws rm Pc Qc mc ms free) (cw : vx_CVW R s args own C index y bytes maxL ret hh ws rm mc ms n) (hp : PreV s H C b Pc As)
    (hg : g.method = m) (hn : As.length = n) (hsize : g.locals.size = nL) (hstack : g.stack = As.reverse ++ .ref b :: rest) (hW : 2 * g.monitorRoom + (rest.map fun v => v.category).sum ≤ 8) (hdg : decode cc g.pc = .ok (.invokevirtual index, 3)) (hf : cells + mc ≤ R.cells ∧ slots + ms ≤ R.slots) :
    va_Run p l e R s m args below meth c H locs cells slots mc ms g rest (Qc (Value.ref b :: As).toArray) free := by
  obtain ⟨⟨hrc, hrs, hfr, hlo, hws, hcw⟩, hcode, hini, hy, hlen, hl, hin, hse⟩ := cw
  have hK : Back l R p e below s args y 3 8 (PreOf R mc ms Pc) (PostOf Qc mc ms free) := va_backW (hh := hh) (bytes := bytes) (maxL := maxL) (ret := ret) hM hp.1 hrc hrs hfr hlo hws hcw (fun a' U hW => word_at hW (Or.inl (by first | rfl | simp [Cond.onTables, Cond.keeps, Cond.steady])) hini)
  obtain ⟨hx, hb, hml, ho, -⟩ := S
  obtain ⟨-, ⟨cellB, hcB, hoB, hclB⟩, hPc⟩ := hp
  intro T hT X
  obtain ⟨v, vm₁, ⟨U', l2, c2, s2⟩, hW₁, X', ⟨g', mk, t, L, e1, e2, hq, h1, hL, h2, h3⟩, st⟩ := vx_callVW X hx (C := C) (hh := hh) (bytes := bytes) (maxL := maxL) (ret := ret) ho hl hin hse hcode hy hK (by rw [hT]; exact hcB) hoB hclB hg (hsize.trans hml.symm) (argsL := As) (rest := rest) (fun sig h => hn.trans (hlen sig h)) hstack hW (by rw [hb]; exact hdg)
    (fun vm₁ hW₁ => ⟨hf.1, hf.2, hPc (T.setVm vm₁) hT hW₁⟩)
  dsimp only [Pt.U, Pt.locs, Pt.cells, Pt.slots] at X' e1 e2 h1 h2 h3 st
  subst h1; subst h2; subst h3
  exact ⟨v, (T.setVm vm₁).calling g' mk (Value.ref b :: As).toArray, t, U', L, hT, X', hL, e1, e2, hq, st⟩
section
variable {y : MethodName} {bytes cc : ByteArray} {maxL nL mc ms n index : Nat} {ret : Option FieldType} {ws : List Cond} {rm : Room} {Pc : Array Value → State → Prop} {Qc : Array Value → State → Outcome → State → Prop} {XC : String → State → State → Prop} {free : Addr → Prop} {Ts : List Cond} {own C : String} {b : Addr} {As rest : List Value} {g : JFrame}
theorem vx_runVX {hh : List (Nat × Nat × Nat × Nat)} (S : CallFix p m c cc nL s args Ts own) (hM : vx_Met l y ws rm Pc Qc XC mc ms free) (cw : vx_CVW R s args own C index y bytes maxL ret hh ws rm mc ms n) (hp : PreV s H C b Pc As)
    (hg : g.method = m) (hn : As.length = n) (hsize : g.locals.size = nL) (hstack : g.stack = As.reverse ++ .ref b :: rest) (hW : 2 * g.monitorRoom + (rest.map fun v => v.category).sum ≤ 8) (hdg : decode cc g.pc = .ok (.invokevirtual index, 3)) (hf : cells + mc ≤ R.cells ∧ slots + ms ≤ R.slots) :
    vx_Run p l e R s m args below meth c H locs cells slots mc ms g rest (Qc (Value.ref b :: As).toArray) XC free := by
  obtain ⟨⟨hrc, hrs, hfr, hlo, hws, hcw⟩, hcode, hini, hy, hlen, hl, hin, hse⟩ := cw
  have hK : vx_Back l R p e below s args y 3 8 (PreOf R mc ms Pc) (PostOf Qc mc ms free) (vx_Post XC mc ms free) := vx_backW (hh := hh) (bytes := bytes) (maxL := maxL) (ret := ret) hM hp.1 hrc hrs hfr hlo hws hcw (fun a' U hW => word_at hW (Or.inl (by first | rfl | simp [Cond.onTables, Cond.keeps, Cond.steady])) hini)
  obtain ⟨hx, hb, hml, ho, -⟩ := S
  obtain ⟨-, ⟨cellB, hcB, hoB, hclB⟩, hPc⟩ := hp
  intro T hT X
  rcases vx_callVX X hx (C := C) (hh := hh) (bytes := bytes) (maxL := maxL) (ret := ret) ho hl hin hse hcode hy hK (by rw [hT]; exact hcB) hoB hclB hg (hsize.trans hml.symm) (argsL := As) (rest := rest) (fun sig h => hn.trans (hlen sig h)) hstack hW (by rw [hb]; exact hdg)
    (fun vm₁ hW₁ => ⟨hf.1, hf.2, hPc (T.setVm vm₁) hT hW₁⟩) with ⟨v, vm₁, ⟨U', l2, c2, s2⟩, hW₁, X', ⟨g', mk, t, L, e1, e2, hq, h1, hL, h2, h3⟩, st⟩ | ⟨q, vm₁, ⟨U', l2, c2, s2⟩, hW₁, X', ⟨g', mk, t, L, E, ce, e1, e2, hq, hce, hcv, hcl, h1, hL, h2, h3⟩, st⟩
  · dsimp only [Pt.U, Pt.locs, Pt.cells, Pt.slots] at X' e1 e2 h1 h2 h3 st
    subst h1; subst h2; subst h3
    exact Or.inl ⟨v, (T.setVm vm₁).calling g' mk (Value.ref b :: As).toArray, t, U', L, hT, X', hL, e1, e2, hq, st⟩
  · dsimp only [Pt.U, Pt.locs, Pt.cells, Pt.slots] at X' e1 e2 h1 h2 h3 st hcl
    subst h1; subst h2; subst h3
    exact Or.inr ⟨q, (T.setVm vm₁).calling g' mk (Value.ref b :: As).toArray, t, U', L, E, ce, hT, X', hL, e1, e2, hq, hce, hcv, vx_cls hW₁ hcl, st⟩
theorem vx_runSX {hh : List (Nat × Nat × Nat × Nat)} (S : CallFix p m c cc nL s args Ts own) (hM : vx_Met l y ws rm Pc Qc XC mc ms free) (cw : vx_CSW R s args own index y bytes maxL ret hh ws rm mc ms n) (hp : PreS s H Pc As)
    (hg : g.method = m) (hn : As.length = n) (hsize : g.locals.size = nL) (hstack : g.stack = As.reverse ++ rest) (hW : 2 * g.monitorRoom + (rest.map fun v => v.category).sum ≤ 8) (hdg : decode cc g.pc = .ok (.invokestatic index, 3)) (hf : cells + mc ≤ R.cells ∧ slots + ms ≤ R.slots) :
    vx_Run p l e R s m args below meth c H locs cells slots mc ms g rest (Qc As.toArray) XC free := by
  obtain ⟨⟨hrc, hrs, hfr, hlo, hws, hcw⟩, hcode, hini, hy, hlen, hl, hstt⟩ := cw
  have hK : vx_Back l R p e below s args y 3 8 (PreOf R mc ms Pc) (PostOf Qc mc ms free) (vx_Post XC mc ms free) := vx_backW (hh := hh) (bytes := bytes) (maxL := maxL) (ret := ret) hM hp.1 hrc hrs hfr hlo hws hcw (fun a' U hW => word_at hW (Or.inl (by first | rfl | simp [Cond.onTables, Cond.keeps, Cond.steady])) hini)
  obtain ⟨hx, hb, hml, ho, -⟩ := S
  intro T hT X
  rcases vx_callSX X hx (hh := hh) (bytes := bytes) (maxL := maxL) (ret := ret) ho hl hstt hini hcode hy hK hg (hsize.trans hml.symm) (argsL := As) (rest := rest) (fun sig h => hn.trans (hlen sig h)) hstack hW (by rw [hb]; exact hdg)
    (fun vm₁ hW₁ => ⟨hf.1, hf.2, hp.2 (T.setVm vm₁) hT hW₁⟩) with ⟨v, vm₁, ⟨U', l2, c2, s2⟩, hW₁, X', ⟨g', mk, t, L, e1, e2, hq, h1, hL, h2, h3⟩, st⟩ | ⟨q, vm₁, ⟨U', l2, c2, s2⟩, hW₁, X', ⟨g', mk, t, L, E, ce, e1, e2, hq, hce, hcv, hcl, h1, hL, h2, h3⟩, st⟩
  · dsimp only [Pt.U, Pt.locs, Pt.cells, Pt.slots] at X' e1 e2 h1 h2 h3 st
    subst h1; subst h2; subst h3
    exact Or.inl ⟨v, (T.setVm vm₁).calling g' mk As.toArray, t, U', L, hT, X', hL, e1, e2, hq, st⟩
  · dsimp only [Pt.U, Pt.locs, Pt.cells, Pt.slots] at X' e1 e2 h1 h2 h3 st hcl
    subst h1; subst h2; subst h3
    exact Or.inr ⟨q, (T.setVm vm₁).calling g' mk As.toArray, t, U', L, E, ce, hT, X', hL, e1, e2, hq, hce, hcv, vx_cls hW₁ hcl, st⟩
end
end VXH
theorem vx_ofWH {l : Launch} {y : MethodName} {ws ws' : List Cond} {rm : Room} {Pc : Array Value → State → Prop} {Qc : Array Value → State → Outcome → State → Prop} {XC : String → State → State → Prop} {mc ms : Nat} {free : Addr → Prop} {cc : ByteArray} {maxL : Nat} {ret : Option FieldType} {hh : List (Nat × Nat × Nat × Nat)}
    (hy : plainName y.cls = true) (hw : ws = Cond.codeWith y cc maxL ret hh :: ws')
    (body : ∀ p e s m args below meth c s₁, BodyLoose p l y (headSpec ws rm) cc maxL ret e s m args below meth c s₁ → c.maxLocals = maxL → Pc args s →
      W p l e (headSpec ws rm).room s m args below meth c s.heap [] 0 0 (vx_MQ below Qc XC args s mc ms free) (entryFrame m args maxL)) : vx_Met l y ws rm Pc Qc XC mc ms free := by
  refine MetFree.of_bodyS (code := cc) (maxLocals := maxL) (ret := ret) hy ?_ ?_
  · intro args s m h hn
    obtain ⟨m9, meth, c, hn9, h1, h2, h3, h4, -, h5, h6, -⟩ := Cond.codeWith_spec (atoms_spec (ws := ws) h _ (by rw [hw]; exact List.mem_cons_self))
    cases hn.symm.trans hn9
    exact ⟨meth, c, h1, h2, h3, h4, h5, h6⟩
  · intro p e s m args below meth c s₁ B hml hP _
    have hh0 : s₁.heap = s.heap := by rw [B.state]; rfl
    obtain ⟨t, a1, o, b1, b2, b3⟩ := body p e s m args below meth c s₁ B hml hP s₁ hh0 (Stand.of_body B)
    exact ⟨t, o, a1, b1, b2, b3⟩
/-! ===== END ===== -/
end
section
/-! ===== BEGIN printed: names, fields, word lists, decode rows ===== -/
def RX0 : String := "RainReservoir$RainText"
def TX0 : u_T := fun k => match k with
  | 0 => ("RainReservoir$RainText", "bytes", "[B", true)
  | 1 => ("RainReservoir$RainText", "length", "I", false)
  | 2 => ("RainReservoir$RainText", "found", "[I", true)
  | 3 => ("RainReservoir$RainText", "foundCount", "I", false)
  | 4 => ("RainReservoir$RainText", "at", "I", false)
  | _ => ("RainReservoir$RainText", "number", "I", false)
def tyX0 : Nat → FieldType := fun k => match k with
  | 0 => .array .byte
  | 1 => .int
  | 2 => .array .int
  | 3 => .int
  | 4 => .int
  | _ => .int
abbrev wsX00 : List Cond := u_ws RX0 TX0 6
theorem nmX0 : ∀ a, a < 6 → ∀ b, b < 6 → a ≠ b → (TX0 a).2.1 ≠ (TX0 b).2.1 := by decide +kernel
theorem tyX0_ok : ∀ k, k < 6 → parseFieldDescriptor (TX0 k).2.2.1 = some (tyX0 k) := by decide +kernel
abbrev cX0_init : ByteArray := prog_2_method_1_code
def yX0_init : MethodName := ⟨RX0, "<init>", "()V"⟩
abbrev cX0_readItems : ByteArray := prog_2_method_2_code
def yX0_readItems : MethodName := ⟨RX0, "readItems", "(I)I"⟩
abbrev cX0_readItem : ByteArray := prog_2_method_3_code
def yX0_readItem : MethodName := ⟨RX0, "readItem", "(I)I"⟩
abbrev cX0_readNumber : ByteArray := prog_2_method_4_code
def yX0_readNumber : MethodName := ⟨RX0, "readNumber", "(III)I"⟩
abbrev cX0_isNext : ByteArray := prog_2_method_5_code
def yX0_isNext : MethodName := ⟨RX0, "isNext", "(C)Z"⟩
def RX1 : String := "RainReservoir$Roof"
def TX1 : u_T := fun k => match k with
  | 0 => ("RainReservoir$Roof", "area", "I", false)
  | 1 => ("RainReservoir$Roof", "yieldPercent", "I", false)
  | 2 => ("RainReservoir$Roof", "flush", "I", false)
  | 3 => ("RainReservoir$Roof", "gutter", "I", false)
  | 4 => ("RainReservoir$Roof", "water", "I", false)
  | _ => ("RainReservoir$Roof", "spilledInAll", "I", false)
def tyX1 : Nat → FieldType := fun k => match k with
  | 0 => .int
  | 1 => .int
  | 2 => .int
  | 3 => .int
  | 4 => .int
  | _ => .int
abbrev wsX10 : List Cond := u_ws RX1 TX1 6
theorem nmX1 : ∀ a, a < 6 → ∀ b, b < 6 → a ≠ b → (TX1 a).2.1 ≠ (TX1 b).2.1 := by decide +kernel
theorem tyX1_ok : ∀ k, k < 6 → parseFieldDescriptor (TX1 k).2.2.1 = some (tyX1 k) := by decide +kernel
abbrev cX1_init : ByteArray := prog_3_method_1_code
def yX1_init : MethodName := ⟨RX1, "<init>", "()V"⟩
abbrev cX1_set : ByteArray := prog_3_method_2_code
def yX1_set : MethodName := ⟨RX1, "set", "(IIII)V"⟩
abbrev cX1_copyFrom : ByteArray := prog_3_method_3_code
def yX1_copyFrom : MethodName := ⟨RX1, "copyFrom", "(LRainReservoir$Roof;)V"⟩
abbrev cX1_clearAmounts : ByteArray := prog_3_method_4_code
def yX1_clearAmounts : MethodName := ⟨RX1, "clearAmounts", "()V"⟩
abbrev cX1_value : ByteArray := prog_3_method_5_code
def yX1_value : MethodName := ⟨RX1, "value", "(I)I"⟩
abbrev cX1_caught : ByteArray := prog_3_method_6_code
def yX1_caught : MethodName := ⟨RX1, "caught", "(I)I"⟩
abbrev cX1_divert : ByteArray := prog_3_method_7_code
def yX1_divert : MethodName := ⟨RX1, "divert", "(I)I"⟩
abbrev cX1_spill : ByteArray := prog_3_method_8_code
def yX1_spill : MethodName := ⟨RX1, "spill", "(I)I"⟩
abbrev cX1_drain : ByteArray := prog_3_method_9_code
def yX1_drain : MethodName := ⟨RX1, "drain", "()I"⟩
def RX2 : String := "RainReservoir$State"
def TX2 : u_T := fun k => match k with
  | 0 => ("RainReservoir$State", "capacity", "I", false)
  | 1 => ("RainReservoir$State", "floor", "I", false)
  | 2 => ("RainReservoir$State", "topUp", "I", false)
  | 3 => ("RainReservoir$State", "evaporation", "I", false)
  | 4 => ("RainReservoir$State", "dryLimit", "I", false)
  | 5 => ("RainReservoir$State", "rule", "I", false)
  | 6 => ("RainReservoir$State", "roofs", "[LRainReservoir$Roof;", true)
  | 7 => ("RainReservoir$State", "roofCount", "I", false)
  | 8 => ("RainReservoir$State", "users", "LRainReservoir$Users;", true)
  | 9 => ("RainReservoir$State", "rains", "[I", true)
  | 10 => ("RainReservoir$State", "rainCount", "I", false)
  | 11 => ("RainReservoir$State", "doneCount", "I", false)
  | 12 => ("RainReservoir$State", "level", "I", false)
  | 13 => ("RainReservoir$State", "dryDays", "I", false)
  | 14 => ("RainReservoir$State", "looseOverflow", "J", false)
  | _ => ("RainReservoir$State", "accounts", "[I", true)
def tyX2 : Nat → FieldType := fun k => match k with
  | 0 => .int
  | 1 => .int
  | 2 => .int
  | 3 => .int
  | 4 => .int
  | 5 => .int
  | 6 => .array (.object "RainReservoir$Roof")
  | 7 => .int
  | 8 => .object "RainReservoir$Users"
  | 9 => .array .int
  | 10 => .int
  | 11 => .int
  | 12 => .int
  | 13 => .int
  | 14 => .long
  | _ => .array .int
abbrev wsX20 : List Cond := u_ws RX2 TX2 16
theorem nmX2 : ∀ a, a < 16 → ∀ b, b < 16 → a ≠ b → (TX2 a).2.1 ≠ (TX2 b).2.1 := by decide +kernel
theorem tyX2_ok : ∀ k, k < 16 → parseFieldDescriptor (TX2 k).2.2.1 = some (tyX2 k) := by decide +kernel
abbrev cX2_init : ByteArray := prog_4_method_1_code
def yX2_init : MethodName := ⟨RX2, "<init>", "()V"⟩
abbrev cX2_copyFrom : ByteArray := prog_4_method_2_code
def yX2_copyFrom : MethodName := ⟨RX2, "copyFrom", "(LRainReservoir$State;)V"⟩
abbrev cX2_goBack : ByteArray := prog_4_method_3_code
def yX2_goBack : MethodName := ⟨RX2, "goBack", "()V"⟩
abbrev cX2_settingValue : ByteArray := prog_4_method_4_code
def yX2_settingValue : MethodName := ⟨RX2, "settingValue", "(I)I"⟩
abbrev cX2_putRain : ByteArray := prog_4_method_5_code
def yX2_putRain : MethodName := ⟨RX2, "putRain", "(I)V"⟩
abbrev cX2_account : ByteArray := prog_4_method_6_code
def yX2_account : MethodName := ⟨RX2, "account", "(II)I"⟩
abbrev cX2_isShort : ByteArray := prog_4_method_7_code
def yX2_isShort : MethodName := ⟨RX2, "isShort", "(I)Z"⟩
abbrev cX2_dropAboveCapacity : ByteArray := prog_4_method_8_code
def yX2_dropAboveCapacity : MethodName := ⟨RX2, "dropAboveCapacity", "()I"⟩
abbrev cX2_collect : ByteArray := prog_4_method_9_code
def yX2_collect : MethodName := ⟨RX2, "collect", "(I)V"⟩
abbrev cX2_serve : ByteArray := prog_4_method_10_code
def yX2_serve : MethodName := ⟨RX2, "serve", "(I)V"⟩
abbrev cX2_serveAll : ByteArray := prog_4_method_11_code
def yX2_serveAll : MethodName := ⟨RX2, "serveAll", "(I)I"⟩
abbrev cX2_drainWhenDry : ByteArray := prog_4_method_12_code
def yX2_drainWhenDry : MethodName := ⟨RX2, "drainWhenDry", "(I)I"⟩
abbrev cX2_put : ByteArray := prog_4_method_13_code
def yX2_put : MethodName := ⟨RX2, "put", "(III)V"⟩
def RX3 : String := "RainReservoir$User"
def TX3 : u_T := fun k => match k with
  | 0 => ("RainReservoir$User", "demand", "I", false)
  | 1 => ("RainReservoir$User", "weight", "I", false)
  | 2 => ("RainReservoir$User", "gotLatest", "I", false)
  | _ => ("RainReservoir$User", "gotInAll", "I", false)
def tyX3 : Nat → FieldType := fun k => match k with
  | 0 => .int
  | 1 => .int
  | 2 => .int
  | _ => .int
abbrev wsX30 : List Cond := u_ws RX3 TX3 4
theorem nmX3 : ∀ a, a < 4 → ∀ b, b < 4 → a ≠ b → (TX3 a).2.1 ≠ (TX3 b).2.1 := by decide +kernel
theorem tyX3_ok : ∀ k, k < 4 → parseFieldDescriptor (TX3 k).2.2.1 = some (tyX3 k) := by decide +kernel
abbrev cX3_init : ByteArray := prog_5_method_1_code
def yX3_init : MethodName := ⟨RX3, "<init>", "()V"⟩
abbrev cX3_set : ByteArray := prog_5_method_2_code
def yX3_set : MethodName := ⟨RX3, "set", "(II)V"⟩
abbrev cX3_copyFrom : ByteArray := prog_5_method_3_code
def yX3_copyFrom : MethodName := ⟨RX3, "copyFrom", "(LRainReservoir$User;)V"⟩
abbrev cX3_clearAmounts : ByteArray := prog_5_method_4_code
def yX3_clearAmounts : MethodName := ⟨RX3, "clearAmounts", "()V"⟩
abbrev cX3_value : ByteArray := prog_5_method_5_code
def yX3_value : MethodName := ⟨RX3, "value", "(I)I"⟩
abbrev cX3_lack : ByteArray := prog_5_method_6_code
def yX3_lack : MethodName := ⟨RX3, "lack", "()I"⟩
abbrev cX3_portion : ByteArray := prog_5_method_7_code
def yX3_portion : MethodName := ⟨RX3, "portion", "()I"⟩
abbrev cX3_give : ByteArray := prog_5_method_8_code
def yX3_give : MethodName := ⟨RX3, "give", "(I)I"⟩
def RX4 : String := "RainReservoir$Users"
def TX4 : u_T := fun k => match k with
  | 0 => ("RainReservoir$Users", "rows", "[LRainReservoir$User;", true)
  | 1 => ("RainReservoir$Users", "count", "I", false)
  | _ => ("RainReservoir$Users", "order", "[I", true)
def tyX4 : Nat → FieldType := fun k => match k with
  | 0 => .array (.object "RainReservoir$User")
  | 1 => .int
  | _ => .array .int
abbrev wsX40 : List Cond := u_ws RX4 TX4 3
theorem nmX4 : ∀ a, a < 3 → ∀ b, b < 3 → a ≠ b → (TX4 a).2.1 ≠ (TX4 b).2.1 := by decide +kernel
theorem tyX4_ok : ∀ k, k < 3 → parseFieldDescriptor (TX4 k).2.2.1 = some (tyX4 k) := by decide +kernel
abbrev cX4_init : ByteArray := prog_6_method_1_code
def yX4_init : MethodName := ⟨RX4, "<init>", "()V"⟩
abbrev cX4_copyFrom : ByteArray := prog_6_method_2_code
def yX4_copyFrom : MethodName := ⟨RX4, "copyFrom", "(LRainReservoir$Users;)V"⟩
abbrev cX4_clearAmounts : ByteArray := prog_6_method_3_code
def yX4_clearAmounts : MethodName := ⟨RX4, "clearAmounts", "()V"⟩
abbrev cX4_scaleDemands : ByteArray := prog_6_method_4_code
def yX4_scaleDemands : MethodName := ⟨RX4, "scaleDemands", "(LRainReservoir$Users;I)V"⟩
abbrev cX4_demandInAll : ByteArray := prog_6_method_5_code
def yX4_demandInAll : MethodName := ⟨RX4, "demandInAll", "()I"⟩
abbrev cX4_greatestLack : ByteArray := prog_6_method_6_code
def yX4_greatestLack : MethodName := ⟨RX4, "greatestLack", "(I)I"⟩
abbrev cX4_handOut : ByteArray := prog_6_method_7_code
def yX4_handOut : MethodName := ⟨RX4, "handOut", "(II)I"⟩
abbrev cX4_share : ByteArray := prog_6_method_8_code
def yX4_share : MethodName := ⟨RX4, "share", "(III)V"⟩
abbrev cX4_shareByDemand : ByteArray := prog_6_method_9_code
def yX4_shareByDemand : MethodName := ⟨RX4, "shareByDemand", "(II)V"⟩
abbrev cX4_shareInOrder : ByteArray := prog_6_method_10_code
def yX4_shareInOrder : MethodName := ⟨RX4, "shareInOrder", "(I)V"⟩
abbrev cX4_shareSmallestFirst : ByteArray := prog_6_method_11_code
def yX4_shareSmallestFirst : MethodName := ⟨RX4, "shareSmallestFirst", "(I)V"⟩
abbrev cX4_serveOrder : ByteArray := prog_6_method_12_code
def yX4_serveOrder : MethodName := ⟨RX4, "serveOrder", "(I)V"⟩
abbrev cX4_shareInRounds : ByteArray := prog_6_method_13_code
def yX4_shareInRounds : MethodName := ⟨RX4, "shareInRounds", "(I)V"⟩
abbrev cX4_fullRounds : ByteArray := prog_6_method_14_code
def yX4_fullRounds : MethodName := ⟨RX4, "fullRounds", "(I)I"⟩
abbrev cX4_giveRounds : ByteArray := prog_6_method_15_code
def yX4_giveRounds : MethodName := ⟨RX4, "giveRounds", "(I)I"⟩
def RX5 : String := "RainReservoir"
def TX5 : u_T := fun k => match k with
  | 0 => ("RainReservoir", "now", "LRainReservoir$State;", true)
  | 1 => ("RainReservoir", "trial", "LRainReservoir$State;", true)
  | 2 => ("RainReservoir", "saved", "[LRainReservoir$State;", true)
  | 3 => ("RainReservoir", "savedCount", "I", false)
  | _ => ("RainReservoir", "text", "LRainReservoir$RainText;", true)
def tyX5 : Nat → FieldType := fun k => match k with
  | 0 => .object "RainReservoir$State"
  | 1 => .object "RainReservoir$State"
  | 2 => .array (.object "RainReservoir$State")
  | 3 => .int
  | _ => .object "RainReservoir$RainText"
abbrev wsX50 : List Cond := u_ws RX5 TX5 5
theorem nmX5 : ∀ a, a < 5 → ∀ b, b < 5 → a ≠ b → (TX5 a).2.1 ≠ (TX5 b).2.1 := by decide +kernel
theorem tyX5_ok : ∀ k, k < 5 → parseFieldDescriptor (TX5 k).2.2.1 = some (tyX5 k) := by decide +kernel
abbrev cX5_init : ByteArray := prog_1_method_1_code
def yX5_init : MethodName := ⟨RX5, "<init>", "()V"⟩
abbrev cX5_addRoof : ByteArray := prog_1_method_2_code
def yX5_addRoof : MethodName := ⟨RX5, "addRoof", "(IIII)I"⟩
abbrev cX5_addUser : ByteArray := prog_1_method_3_code
def yX5_addUser : MethodName := ⟨RX5, "addUser", "(II)I"⟩
abbrev cX5_setDemand : ByteArray := prog_1_method_4_code
def yX5_setDemand : MethodName := ⟨RX5, "setDemand", "(II)I"⟩
abbrev cX5_setReservoir : ByteArray := prog_1_method_5_code
def yX5_setReservoir : MethodName := ⟨RX5, "setReservoir", "(III)I"⟩
abbrev cX5_setWays : ByteArray := prog_1_method_6_code
def yX5_setWays : MethodName := ⟨RX5, "setWays", "(III)I"⟩
abbrev cX5_setting : ByteArray := prog_1_method_7_code
def yX5_setting : MethodName := ⟨RX5, "setting", "(I)I"⟩
abbrev cX5_roof : ByteArray := prog_1_method_8_code
def yX5_roof : MethodName := ⟨RX5, "roof", "(II)I"⟩
abbrev cX5_user : ByteArray := prog_1_method_9_code
def yX5_user : MethodName := ⟨RX5, "user", "(II)I"⟩
abbrev cX5_addRain : ByteArray := prog_1_method_10_code
def yX5_addRain : MethodName := ⟨RX5, "addRain", "(II)I"⟩
abbrev cX5_addRandomRain : ByteArray := prog_1_method_11_code
def yX5_addRandomRain : MethodName := ⟨RX5, "addRandomRain", "(IIII)I"⟩
abbrev cX5_rain : ByteArray := prog_1_method_12_code
def yX5_rain : MethodName := ⟨RX5, "rain", "(I)I"⟩
abbrev cX5_run : ByteArray := prog_1_method_13_code
def yX5_run : MethodName := ⟨RX5, "run", "(I)I"⟩
abbrev cX5_restart : ByteArray := prog_1_method_14_code
def yX5_restart : MethodName := ⟨RX5, "restart", "()I"⟩
abbrev cX5_day : ByteArray := prog_1_method_15_code
def yX5_day : MethodName := ⟨RX5, "day", "(II)I"⟩
abbrev cX5_sum : ByteArray := prog_1_method_16_code
def yX5_sum : MethodName := ⟨RX5, "sum", "(I)J"⟩
abbrev cX5_reliability : ByteArray := prog_1_method_17_code
def yX5_reliability : MethodName := ⟨RX5, "reliability", "()D"⟩
abbrev cX5_longestShortage : ByteArray := prog_1_method_18_code
def yX5_longestShortage : MethodName := ⟨RX5, "longestShortage", "()I"⟩
abbrev cX5_shortDaysWith : ByteArray := prog_1_method_19_code
def yX5_shortDaysWith : MethodName := ⟨RX5, "shortDaysWith", "(I)I"⟩
abbrev cX5_capacityFor : ByteArray := prog_1_method_20_code
def yX5_capacityFor : MethodName := ⟨RX5, "capacityFor", "(I)I"⟩
abbrev cX5_bestRule : ByteArray := prog_1_method_21_code
def yX5_bestRule : MethodName := ⟨RX5, "bestRule", "()I"⟩
abbrev cX5_sustainable : ByteArray := prog_1_method_22_code
def yX5_sustainable : MethodName := ⟨RX5, "sustainable", "()I"⟩
abbrev cX5_gutterLoss : ByteArray := prog_1_method_23_code
def yX5_gutterLoss : MethodName := ⟨RX5, "gutterLoss", "(I)J"⟩
abbrev cX5_append : ByteArray := prog_1_method_24_code
def yX5_append : MethodName := ⟨RX5, "append", "(I)I"⟩
abbrev cX5_clearText : ByteArray := prog_1_method_25_code
def yX5_clearText : MethodName := ⟨RX5, "clearText", "()I"⟩
abbrev cX5_parse : ByteArray := prog_1_method_26_code
def yX5_parse : MethodName := ⟨RX5, "parse", "()I"⟩
abbrev cX5_undo : ByteArray := prog_1_method_27_code
def yX5_undo : MethodName := ⟨RX5, "undo", "()I"⟩
abbrev cX5_digest : ByteArray := prog_1_method_28_code
def yX5_digest : MethodName := ⟨RX5, "digest", "()J"⟩
abbrev cX5_checkRange : ByteArray := prog_1_method_29_code
def yX5_checkRange : MethodName := ⟨RX5, "checkRange", "(III)V"⟩
abbrev cX5_checkIndex : ByteArray := prog_1_method_30_code
def yX5_checkIndex : MethodName := ⟨RX5, "checkIndex", "(II)V"⟩
abbrev cX5_checkRoomForDays : ByteArray := prog_1_method_31_code
def yX5_checkRoomForDays : MethodName := ⟨RX5, "checkRoomForDays", "(I)V"⟩
abbrev cX5_nextRandom : ByteArray := prog_1_method_32_code
def yX5_nextRandom : MethodName := ⟨RX5, "nextRandom", "(J)J"⟩
abbrev cX5_save : ByteArray := prog_1_method_33_code
def yX5_save : MethodName := ⟨RX5, "save", "()V"⟩
abbrev cX5_prepareTrial : ByteArray := prog_1_method_34_code
def yX5_prepareTrial : MethodName := ⟨RX5, "prepareTrial", "()V"⟩
abbrev cX5_triedShortDays : ByteArray := prog_1_method_35_code
def yX5_triedShortDays : MethodName := ⟨RX5, "triedShortDays", "(II)I"⟩
def RX6 : String := "RainReservoirModel"
def TX6 : u_T := fun k => match k with
  | 0 => ("RainReservoirModel", "all", "[I", true)
  | 1 => ("RainReservoirModel", "saved", "[I", true)
  | 2 => ("RainReservoirModel", "aside", "[I", true)
  | 3 => ("RainReservoirModel", "savedMany", "I", false)
  | 4 => ("RainReservoirModel", "thrown", "I", false)
  | 5 => ("RainReservoirModel", "s", "J", false)
  | 6 => ("RainReservoirModel", "today", "I", false)
  | 7 => ("RainReservoirModel", "spiltAt", "[J", true)
  | 8 => ("RainReservoirModel", "left", "I", false)
  | 9 => ("RainReservoirModel", "text", "[I", true)
  | 10 => ("RainReservoirModel", "textLong", "I", false)
  | 11 => ("RainReservoirModel", "place", "I", false)
  | _ => ("RainReservoirModel", "number", "I", false)
def tyX6 : Nat → FieldType := fun k => match k with
  | 0 => .array .int
  | 1 => .array .int
  | 2 => .array .int
  | 3 => .int
  | 4 => .int
  | 5 => .long
  | 6 => .int
  | 7 => .array .long
  | 8 => .int
  | 9 => .array .int
  | 10 => .int
  | 11 => .int
  | _ => .int
abbrev wsX60 : List Cond := u_ws RX6 TX6 13
theorem nmX6 : ∀ a, a < 13 → ∀ b, b < 13 → a ≠ b → (TX6 a).2.1 ≠ (TX6 b).2.1 := by decide +kernel
theorem tyX6_ok : ∀ k, k < 13 → parseFieldDescriptor (TX6 k).2.2.1 = some (tyX6 k) := by decide +kernel
abbrev cX6_init : ByteArray := prog_8_method_1_code
def yX6_init : MethodName := ⟨RX6, "<init>", "()V"⟩
abbrev cX6_thrown : ByteArray := prog_8_method_2_code
def yX6_thrown : MethodName := ⟨RX6, "thrown", "()I"⟩
abbrev cX6_in : ByteArray := prog_8_method_3_code
def yX6_in : MethodName := ⟨RX6, "in", "(JJJ)Z"⟩
abbrev cX6_goes : ByteArray := prog_8_method_4_code
def yX6_goes : MethodName := ⟨RX6, "goes", "(ZZ)Z"⟩
abbrev cX6_save : ByteArray := prog_8_method_5_code
def yX6_save : MethodName := ⟨RX6, "save", "()V"⟩
abbrev cX6_lays : ByteArray := prog_8_method_6_code
def yX6_lays : MethodName := ⟨RX6, "lays", "()V"⟩
abbrev cX6_takesBack : ByteArray := prog_8_method_7_code
def yX6_takesBack : MethodName := ⟨RX6, "takesBack", "()V"⟩
abbrev cX6_roofAt : ByteArray := prog_8_method_8_code
def yX6_roofAt : MethodName := ⟨RX6, "roofAt", "(II)I"⟩
abbrev cX6_ofRoof : ByteArray := prog_8_method_9_code
def yX6_ofRoof : MethodName := ⟨RX6, "ofRoof", "(II)I"⟩
abbrev cX6_userAt : ByteArray := prog_8_method_10_code
def yX6_userAt : MethodName := ⟨RX6, "userAt", "(II)I"⟩
abbrev cX6_ofUser : ByteArray := prog_8_method_11_code
def yX6_ofUser : MethodName := ⟨RX6, "ofUser", "(II)I"⟩
abbrev cX6_isRoof : ByteArray := prog_8_method_12_code
def yX6_isRoof : MethodName := ⟨RX6, "isRoof", "(I)Z"⟩
abbrev cX6_isUser : ByteArray := prog_8_method_13_code
def yX6_isUser : MethodName := ⟨RX6, "isUser", "(I)Z"⟩
abbrev cX6_addRoof : ByteArray := prog_8_method_14_code
def yX6_addRoof : MethodName := ⟨RX6, "addRoof", "(IIII)I"⟩
abbrev cX6_addUser : ByteArray := prog_8_method_15_code
def yX6_addUser : MethodName := ⟨RX6, "addUser", "(II)I"⟩
abbrev cX6_setDemand : ByteArray := prog_8_method_16_code
def yX6_setDemand : MethodName := ⟨RX6, "setDemand", "(II)I"⟩
abbrev cX6_setReservoir : ByteArray := prog_8_method_17_code
def yX6_setReservoir : MethodName := ⟨RX6, "setReservoir", "(III)I"⟩
abbrev cX6_setWays : ByteArray := prog_8_method_18_code
def yX6_setWays : MethodName := ⟨RX6, "setWays", "(III)I"⟩
abbrev cX6_setting : ByteArray := prog_8_method_19_code
def yX6_setting : MethodName := ⟨RX6, "setting", "(I)I"⟩
abbrev cX6_roof : ByteArray := prog_8_method_20_code
def yX6_roof : MethodName := ⟨RX6, "roof", "(II)I"⟩
abbrev cX6_user : ByteArray := prog_8_method_21_code
def yX6_user : MethodName := ⟨RX6, "user", "(II)I"⟩
abbrev cX6_rains : ByteArray := prog_8_method_22_code
def yX6_rains : MethodName := ⟨RX6, "rains", "(II)V"⟩
abbrev cX6_addRain : ByteArray := prog_8_method_23_code
def yX6_addRain : MethodName := ⟨RX6, "addRain", "(II)I"⟩
abbrev cX6_draws : ByteArray := prog_8_method_24_code
def yX6_draws : MethodName := ⟨RX6, "draws", "(I)I"⟩
abbrev cX6_addRandomRain : ByteArray := prog_8_method_25_code
def yX6_addRandomRain : MethodName := ⟨RX6, "addRandomRain", "(IIII)I"⟩
abbrev cX6_rain : ByteArray := prog_8_method_26_code
def yX6_rain : MethodName := ⟨RX6, "rain", "(I)I"⟩
abbrev cX6_tells : ByteArray := prog_8_method_27_code
def yX6_tells : MethodName := ⟨RX6, "tells", "(II)V"⟩
abbrev cX6_drains : ByteArray := prog_8_method_28_code
def yX6_drains : MethodName := ⟨RX6, "drains", "()V"⟩
abbrev cX6_flows : ByteArray := prog_8_method_29_code
def yX6_flows : MethodName := ⟨RX6, "flows", "(II)I"⟩
abbrev cX6_does : ByteArray := prog_8_method_30_code
def yX6_does : MethodName := ⟨RX6, "does", "()Z"⟩
abbrev cX6_gives : ByteArray := prog_8_method_31_code
def yX6_gives : MethodName := ⟨RX6, "gives", "(II)V"⟩
abbrev cX6_demands : ByteArray := prog_8_method_32_code
def yX6_demands : MethodName := ⟨RX6, "demands", "()I"⟩
abbrev cX6_shares : ByteArray := prog_8_method_33_code
def yX6_shares : MethodName := ⟨RX6, "shares", "(I)Z"⟩
abbrev cX6_inProportion : ByteArray := prog_8_method_34_code
def yX6_inProportion : MethodName := ⟨RX6, "inProportion", "(II)V"⟩
abbrev cX6_byOrder : ByteArray := prog_8_method_35_code
def yX6_byOrder : MethodName := ⟨RX6, "byOrder", "()V"⟩
abbrev cX6_byWeights : ByteArray := prog_8_method_36_code
def yX6_byWeights : MethodName := ⟨RX6, "byWeights", "()V"⟩
abbrev cX6_smallestFirst : ByteArray := prog_8_method_37_code
def yX6_smallestFirst : MethodName := ⟨RX6, "smallestFirst", "()V"⟩
abbrev cX6_run : ByteArray := prog_8_method_38_code
def yX6_run : MethodName := ⟨RX6, "run", "(I)I"⟩
abbrev cX6_goesBack : ByteArray := prog_8_method_39_code
def yX6_goesBack : MethodName := ⟨RX6, "goesBack", "()V"⟩
abbrev cX6_restart : ByteArray := prog_8_method_40_code
def yX6_restart : MethodName := ⟨RX6, "restart", "()I"⟩
abbrev cX6_day : ByteArray := prog_8_method_41_code
def yX6_day : MethodName := ⟨RX6, "day", "(II)I"⟩
abbrev cX6_sumOf : ByteArray := prog_8_method_42_code
def yX6_sumOf : MethodName := ⟨RX6, "sumOf", "(I)J"⟩
abbrev cX6_sum : ByteArray := prog_8_method_43_code
def yX6_sum : MethodName := ⟨RX6, "sum", "(I)J"⟩
abbrev cX6_wasShort : ByteArray := prog_8_method_44_code
def yX6_wasShort : MethodName := ⟨RX6, "wasShort", "(I)Z"⟩
abbrev cX6_reliability : ByteArray := prog_8_method_45_code
def yX6_reliability : MethodName := ⟨RX6, "reliability", "()D"⟩
abbrev cX6_longestShortage : ByteArray := prog_8_method_46_code
def yX6_longestShortage : MethodName := ⟨RX6, "longestShortage", "()I"⟩
abbrev cX6_shortDays : ByteArray := prog_8_method_47_code
def yX6_shortDays : MethodName := ⟨RX6, "shortDays", "()I"⟩
abbrev cX6_shortWith : ByteArray := prog_8_method_48_code
def yX6_shortWith : MethodName := ⟨RX6, "shortWith", "(I)I"⟩
abbrev cX6_shortDaysWith : ByteArray := prog_8_method_49_code
def yX6_shortDaysWith : MethodName := ⟨RX6, "shortDaysWith", "(I)I"⟩
abbrev cX6_capacityFor : ByteArray := prog_8_method_50_code
def yX6_capacityFor : MethodName := ⟨RX6, "capacityFor", "(I)I"⟩
abbrev cX6_mostLack : ByteArray := prog_8_method_51_code
def yX6_mostLack : MethodName := ⟨RX6, "mostLack", "()I"⟩
abbrev cX6_bestRule : ByteArray := prog_8_method_52_code
def yX6_bestRule : MethodName := ⟨RX6, "bestRule", "()I"⟩
abbrev cX6_sustainable : ByteArray := prog_8_method_53_code
def yX6_sustainable : MethodName := ⟨RX6, "sustainable", "()I"⟩
abbrev cX6_gutterLoss : ByteArray := prog_8_method_54_code
def yX6_gutterLoss : MethodName := ⟨RX6, "gutterLoss", "(I)J"⟩
abbrev cX6_append : ByteArray := prog_8_method_55_code
def yX6_append : MethodName := ⟨RX6, "append", "(I)I"⟩
abbrev cX6_clearText : ByteArray := prog_8_method_56_code
def yX6_clearText : MethodName := ⟨RX6, "clearText", "()I"⟩
abbrev cX6_isFigure : ByteArray := prog_8_method_57_code
def yX6_isFigure : MethodName := ⟨RX6, "isFigure", "()Z"⟩
abbrev cX6_passesByte : ByteArray := prog_8_method_58_code
def yX6_passesByte : MethodName := ⟨RX6, "passesByte", "(I)Z"⟩
abbrev cX6_reads : ByteArray := prog_8_method_59_code
def yX6_reads : MethodName := ⟨RX6, "reads", "(III)Z"⟩
abbrev cX6_readsItem : ByteArray := prog_8_method_60_code
def yX6_readsItem : MethodName := ⟨RX6, "readsItem", "()Z"⟩
abbrev cX6_parse : ByteArray := prog_8_method_61_code
def yX6_parse : MethodName := ⟨RX6, "parse", "()I"⟩
abbrev cX6_undo : ByteArray := prog_8_method_62_code
def yX6_undo : MethodName := ⟨RX6, "undo", "()I"⟩
abbrev cX6_sums : ByteArray := prog_8_method_63_code
def yX6_sums : MethodName := ⟨RX6, "sums", "(JJ)J"⟩
abbrev cX6_withPlaces : ByteArray := prog_8_method_64_code
def yX6_withPlaces : MethodName := ⟨RX6, "withPlaces", "(JII)J"⟩
abbrev cX6_digest : ByteArray := prog_8_method_65_code
def yX6_digest : MethodName := ⟨RX6, "digest", "()J"⟩
def RJ9 : String := "java/lang/Math"
def TJ9 : u_T := fun k => match k with
  | _ => ("", "", "", false)
def tyJ9 : Nat → FieldType := fun k => match k with
  | _ => .int
abbrev wsJ90 : List Cond := u_ws RJ9 TJ9 0
theorem nmJ9 : ∀ a, a < 0 → ∀ b, b < 0 → a ≠ b → (TJ9 a).2.1 ≠ (TJ9 b).2.1 := by decide +kernel
theorem tyJ9_ok : ∀ k, k < 0 → parseFieldDescriptor (TJ9 k).2.2.1 = some (tyJ9 k) := by decide +kernel
abbrev cJ9_max_7cf53 : ByteArray := prog_13_method_65_code
def yJ9_max_7cf53 : MethodName := ⟨RJ9, "max", "(II)I"⟩
abbrev cJ9_min_7cf53 : ByteArray := prog_13_method_69_code
def yJ9_min_7cf53 : MethodName := ⟨RJ9, "min", "(II)I"⟩
def RJ0 : String := "java/lang/String"
def TJ0 : u_T := fun k => match k with
  | _ => ("", "", "", false)
def tyJ0 : Nat → FieldType := fun k => match k with
  | _ => .int
abbrev wsJ00 : List Cond := u_ws RJ0 TJ0 0
theorem nmJ0 : ∀ a, a < 0 → ∀ b, b < 0 → a ≠ b → (TJ0 a).2.1 ≠ (TJ0 b).2.1 := by decide +kernel
theorem tyJ0_ok : ∀ k, k < 0 → parseFieldDescriptor (TJ0 k).2.2.1 = some (tyJ0 k) := by decide +kernel
def RJ10 : String := "java/lang/System"
def TJ10 : u_T := fun k => match k with
  | _ => ("", "", "", false)
def tyJ10 : Nat → FieldType := fun k => match k with
  | _ => .int
abbrev wsJ100 : List Cond := u_ws RJ10 TJ10 0
theorem nmJ10 : ∀ a, a < 0 → ∀ b, b < 0 → a ≠ b → (TJ10 a).2.1 ≠ (TJ10 b).2.1 := by decide +kernel
theorem tyJ10_ok : ∀ k, k < 0 → parseFieldDescriptor (TJ10 k).2.2.1 = some (tyJ10 k) := by decide +kernel
def RL : String := "RainReservoirLaw"
abbrev cL_addRoof : ByteArray := method_3_code
def yL_addRoof : MethodName := ⟨RL, "addRoof", "(LRainReservoir;IIII[J)I"⟩
abbrev cL_addUser : ByteArray := method_4_code
def yL_addUser : MethodName := ⟨RL, "addUser", "(LRainReservoir;II[J)I"⟩
abbrev cL_setDemand : ByteArray := method_5_code
def yL_setDemand : MethodName := ⟨RL, "setDemand", "(LRainReservoir;II[J)I"⟩
abbrev cL_setReservoir : ByteArray := method_6_code
def yL_setReservoir : MethodName := ⟨RL, "setReservoir", "(LRainReservoir;III[J)I"⟩
abbrev cL_setWays : ByteArray := method_7_code
def yL_setWays : MethodName := ⟨RL, "setWays", "(LRainReservoir;III[J)I"⟩
abbrev cL_setting : ByteArray := method_8_code
def yL_setting : MethodName := ⟨RL, "setting", "(LRainReservoir;I[J)I"⟩
abbrev cL_roof : ByteArray := method_9_code
def yL_roof : MethodName := ⟨RL, "roof", "(LRainReservoir;II[J)I"⟩
abbrev cL_user : ByteArray := method_10_code
def yL_user : MethodName := ⟨RL, "user", "(LRainReservoir;II[J)I"⟩
abbrev cL_addRain : ByteArray := method_11_code
def yL_addRain : MethodName := ⟨RL, "addRain", "(LRainReservoir;II[J)I"⟩
abbrev cL_addRandomRain : ByteArray := method_12_code
def yL_addRandomRain : MethodName := ⟨RL, "addRandomRain", "(LRainReservoir;IIII[J)I"⟩
abbrev cL_rain : ByteArray := method_13_code
def yL_rain : MethodName := ⟨RL, "rain", "(LRainReservoir;I[J)I"⟩
abbrev cL_run : ByteArray := method_14_code
def yL_run : MethodName := ⟨RL, "run", "(LRainReservoir;I[J)I"⟩
abbrev cL_day : ByteArray := method_15_code
def yL_day : MethodName := ⟨RL, "day", "(LRainReservoir;II[J)I"⟩
abbrev cL_sum : ByteArray := method_16_code
def yL_sum : MethodName := ⟨RL, "sum", "(LRainReservoir;I[J)I"⟩
abbrev cL_shortDaysWith : ByteArray := method_17_code
def yL_shortDaysWith : MethodName := ⟨RL, "shortDaysWith", "(LRainReservoir;I[J)I"⟩
abbrev cL_capacityFor : ByteArray := method_18_code
def yL_capacityFor : MethodName := ⟨RL, "capacityFor", "(LRainReservoir;I[J)I"⟩
abbrev cL_gutterLoss : ByteArray := method_19_code
def yL_gutterLoss : MethodName := ⟨RL, "gutterLoss", "(LRainReservoir;I[J)I"⟩
abbrev cL_append : ByteArray := method_20_code
def yL_append : MethodName := ⟨RL, "append", "(LRainReservoir;I[J)I"⟩
abbrev cL_undo : ByteArray := method_21_code
def yL_undo : MethodName := ⟨RL, "undo", "(LRainReservoir;[J)I"⟩
abbrev cL_law : ByteArray := code
def yL_law : MethodName := ⟨RL, "law", "([I)Z"⟩
def wsX0_init : List Cond := .code yX0_init cX0_init 1 none :: ([.methodLink RX0 3 objectInit, .instanceMethod objectInit, .code objectInit ⟨#[0xb1]⟩ 1 none, .arrayClass .byte, .fieldLink RX0 9 "RainReservoir$RainText" "bytes" "[B", .arrayClass .int, .fieldLink RX0 15 "RainReservoir$RainText" "found" "[I"] ++ wsX00)
def wsX0_readNumber : List Cond := .code yX0_readNumber cX0_readNumber 5 (some .int) :: ([.fieldLink RX0 19 "RainReservoir$RainText" "at" "I", .fieldLink RX0 37 "RainReservoir$RainText" "number" "I", .fieldLink RX0 26 "RainReservoir$RainText" "length" "I", .fieldLink RX0 9 "RainReservoir$RainText" "bytes" "[B"] ++ wsX00)
def wsX0_isNext : List Cond := .code yX0_isNext cX0_isNext 2 (some .boolean) :: ([.fieldLink RX0 19 "RainReservoir$RainText" "at" "I", .fieldLink RX0 26 "RainReservoir$RainText" "length" "I", .fieldLink RX0 9 "RainReservoir$RainText" "bytes" "[B"] ++ wsX00)
def wsX0_readItem : List Cond := .code yX0_readItem cX0_readItem 6 (some .int) :: ([.fieldLink RX0 37 "RainReservoir$RainText" "number" "I", .fieldLink RX0 19 "RainReservoir$RainText" "at" "I", .fieldLink RX0 23 "RainReservoir$RainText" "foundCount" "I", .fieldLink RX0 15 "RainReservoir$RainText" "found" "[I", .methodLink RX0 33 yX0_readNumber, .instanceMethod yX0_readNumber, .selects RX0 yX0_readNumber yX0_readNumber, .initialized RX0, .code yX0_readNumber cX0_readNumber 5 (some .int), .fieldLink RX0 26 "RainReservoir$RainText" "length" "I", .fieldLink RX0 9 "RainReservoir$RainText" "bytes" "[B", .methodLink RX0 40 yX0_isNext, .instanceMethod yX0_isNext, .selects RX0 yX0_isNext yX0_isNext, .code yX0_isNext cX0_isNext 2 (some .boolean)] ++ wsX00)
def wsX0_readItems : List Cond := .code yX0_readItems cX0_readItems 4 (some .int) :: ([.fieldLink RX0 19 "RainReservoir$RainText" "at" "I", .fieldLink RX0 23 "RainReservoir$RainText" "foundCount" "I", .fieldLink RX0 26 "RainReservoir$RainText" "length" "I", .methodLink RX0 29 yX0_readItem, .instanceMethod yX0_readItem, .selects RX0 yX0_readItem yX0_readItem, .initialized RX0, .code yX0_readItem cX0_readItem 6 (some .int), .fieldLink RX0 37 "RainReservoir$RainText" "number" "I", .fieldLink RX0 15 "RainReservoir$RainText" "found" "[I", .methodLink RX0 33 yX0_readNumber, .instanceMethod yX0_readNumber, .selects RX0 yX0_readNumber yX0_readNumber, .code yX0_readNumber cX0_readNumber 5 (some .int), .fieldLink RX0 9 "RainReservoir$RainText" "bytes" "[B", .methodLink RX0 40 yX0_isNext, .instanceMethod yX0_isNext, .selects RX0 yX0_isNext yX0_isNext, .code yX0_isNext cX0_isNext 2 (some .boolean)] ++ wsX00)
def wsX1_init : List Cond := .code yX1_init cX1_init 1 none :: ([.methodLink RX1 1 objectInit, .instanceMethod objectInit, .code objectInit ⟨#[0xb1]⟩ 1 none])
def wsX1_clearAmounts : List Cond := .code yX1_clearAmounts cX1_clearAmounts 1 none :: ([.fieldLink RX1 29 "RainReservoir$Roof" "water" "I", .fieldLink RX1 32 "RainReservoir$Roof" "spilledInAll" "I"] ++ wsX10)
def wsX1_set : List Cond := .code yX1_set cX1_set 5 none :: ([.fieldLink RX1 7 "RainReservoir$Roof" "area" "I", .fieldLink RX1 13 "RainReservoir$Roof" "yieldPercent" "I", .fieldLink RX1 16 "RainReservoir$Roof" "flush" "I", .fieldLink RX1 19 "RainReservoir$Roof" "gutter" "I", .methodLink RX1 22 yX1_clearAmounts, .instanceMethod yX1_clearAmounts, .selects RX1 yX1_clearAmounts yX1_clearAmounts, .initialized RX1, .code yX1_clearAmounts cX1_clearAmounts 1 none, .fieldLink RX1 29 "RainReservoir$Roof" "water" "I", .fieldLink RX1 32 "RainReservoir$Roof" "spilledInAll" "I"] ++ wsX10)
def wsX1_copyFrom : List Cond := .code yX1_copyFrom cX1_copyFrom 2 none :: ([.fieldLink RX1 7 "RainReservoir$Roof" "area" "I", .fieldLink RX1 13 "RainReservoir$Roof" "yieldPercent" "I", .fieldLink RX1 16 "RainReservoir$Roof" "flush" "I", .fieldLink RX1 19 "RainReservoir$Roof" "gutter" "I", .fieldLink RX1 29 "RainReservoir$Roof" "water" "I", .fieldLink RX1 32 "RainReservoir$Roof" "spilledInAll" "I", .methodLink RX1 25 yX1_set, .instanceMethod yX1_set, .selects RX1 yX1_set yX1_set, .initialized RX1, .code yX1_set cX1_set 5 none, .methodLink RX1 22 yX1_clearAmounts, .instanceMethod yX1_clearAmounts, .selects RX1 yX1_clearAmounts yX1_clearAmounts, .code yX1_clearAmounts cX1_clearAmounts 1 none] ++ wsX10)
def wsX1_value : List Cond := .code yX1_value cX1_value 2 (some .int) :: ([.fieldLink RX1 7 "RainReservoir$Roof" "area" "I", .fieldLink RX1 13 "RainReservoir$Roof" "yieldPercent" "I", .fieldLink RX1 16 "RainReservoir$Roof" "flush" "I", .fieldLink RX1 19 "RainReservoir$Roof" "gutter" "I", .fieldLink RX1 29 "RainReservoir$Roof" "water" "I"] ++ wsX10)
def wsX1_caught : List Cond := .code yX1_caught cX1_caught 2 (some .int) :: ([.fieldLink RX1 7 "RainReservoir$Roof" "area" "I", .fieldLink RX1 13 "RainReservoir$Roof" "yieldPercent" "I"] ++ wsX10)
def wsX1_divert : List Cond := .code yX1_divert cX1_divert 3 (some .int) :: ([.fieldLink RX1 16 "RainReservoir$Roof" "flush" "I", .fieldLink RX1 29 "RainReservoir$Roof" "water" "I", .methodLink RX1 35 Lib.Math.min.name, .static Lib.Math.min.name, .initialized "java/lang/Math", .code Lib.Math.min.name Lib.Math.min.code 2 (some .int)] ++ wsX10)
def wsX1_spill : List Cond := .code yX1_spill cX1_spill 3 (some .int) :: ([.fieldLink RX1 19 "RainReservoir$Roof" "gutter" "I", .methodLink RX1 41 Lib.Math.max.name, .static Lib.Math.max.name, .initialized "java/lang/Math", .code Lib.Math.max.name Lib.Math.max.code 2 (some .int), .fieldLink RX1 32 "RainReservoir$Roof" "spilledInAll" "I"] ++ wsX10)
def wsX1_drain : List Cond := .code yX1_drain cX1_drain 2 (some .int) :: ([.fieldLink RX1 29 "RainReservoir$Roof" "water" "I"] ++ wsX10)
def wsX3_init : List Cond := .code yX3_init cX3_init 1 none :: ([.methodLink RX3 3 objectInit, .instanceMethod objectInit, .code objectInit ⟨#[0xb1]⟩ 1 none])
def wsX4_init : List Cond := .code yX4_init cX4_init 2 none :: ([.methodLink RX4 3 objectInit, .instanceMethod objectInit, .code objectInit ⟨#[0xb1]⟩ 1 none, .classLink RX4 9 RX3, .fieldLink RX4 11 "RainReservoir$Users" "rows" "[LRainReservoir$User;", .instantiable RX3 4, .initialized RX3, .arrayClass .int, .fieldLink RX4 18 "RainReservoir$Users" "order" "[I", .instanceMethod yX3_init, .code yX3_init cX3_init 1 none, .methodLink RX3 3 objectInit] ++ wsX40 ++ wsX30)
def wsX2_init_r1 : List Cond := [Cond.methodLink RX2 3 objectInit, Cond.instanceMethod objectInit, Cond.code objectInit ⟨#[0xb1]⟩ 1 none, Cond.fieldLink RX2 9 "RainReservoir$State" "capacity" "I", Cond.fieldLink RX2 15 "RainReservoir$State" "dryLimit" "I", Cond.classLink RX2 18 RX1, Cond.fieldLink RX2 20 "RainReservoir$State" "roofs" "[LRainReservoir$Roof;", Cond.instantiable RX1 6, Cond.initialized RX1, Cond.classLink RX2 25 RX4, Cond.instantiable RX4 3, Cond.initialized RX4, Cond.fieldLink RX2 28 "RainReservoir$State" "users" "LRainReservoir$Users;", Cond.arrayClass .int, Cond.fieldLink RX2 32 "RainReservoir$State" "rains" "[I", Cond.fieldLink RX2 36 "RainReservoir$State" "accounts" "[I", Cond.instanceMethod yX1_init, Cond.code yX1_init cX1_init 1 none, Cond.methodLink RX1 1 objectInit, Cond.methodLink RX2 27 yX4_init, Cond.instanceMethod yX4_init, Cond.code yX4_init cX4_init 2 none, Cond.methodLink RX4 3 objectInit, Cond.classLink RX4 9 RX3]
def wsX2_init_r2 : List Cond := [Cond.fieldLink RX4 11 "RainReservoir$Users" "rows" "[LRainReservoir$User;", Cond.instantiable RX3 4, Cond.initialized RX3, Cond.fieldLink RX4 18 "RainReservoir$Users" "order" "[I", Cond.instanceMethod yX3_init, Cond.code yX3_init cX3_init 1 none, Cond.methodLink RX3 3 objectInit]
def wsX2_init : List Cond := .code yX2_init cX2_init 2 none :: ((wsX2_init_r1 ++ wsX2_init_r2) ++ wsX20 ++ wsX10 ++ wsX40 ++ wsX30)
def wsX3_clearAmounts : List Cond := .code yX3_clearAmounts cX3_clearAmounts 1 none :: ([.fieldLink RX3 25 "RainReservoir$User" "gotLatest" "I", .fieldLink RX3 28 "RainReservoir$User" "gotInAll" "I"] ++ wsX30)
def wsX3_set : List Cond := .code yX3_set cX3_set 3 none :: ([.fieldLink RX3 9 "RainReservoir$User" "demand" "I", .fieldLink RX3 15 "RainReservoir$User" "weight" "I", .methodLink RX3 18 yX3_clearAmounts, .instanceMethod yX3_clearAmounts, .selects RX3 yX3_clearAmounts yX3_clearAmounts, .initialized RX3, .code yX3_clearAmounts cX3_clearAmounts 1 none, .fieldLink RX3 25 "RainReservoir$User" "gotLatest" "I", .fieldLink RX3 28 "RainReservoir$User" "gotInAll" "I"] ++ wsX30)
def wsX3_copyFrom : List Cond := .code yX3_copyFrom cX3_copyFrom 2 none :: ([.fieldLink RX3 9 "RainReservoir$User" "demand" "I", .fieldLink RX3 15 "RainReservoir$User" "weight" "I", .fieldLink RX3 25 "RainReservoir$User" "gotLatest" "I", .fieldLink RX3 28 "RainReservoir$User" "gotInAll" "I", .methodLink RX3 21 yX3_set, .instanceMethod yX3_set, .selects RX3 yX3_set yX3_set, .initialized RX3, .code yX3_set cX3_set 3 none, .methodLink RX3 18 yX3_clearAmounts, .instanceMethod yX3_clearAmounts, .selects RX3 yX3_clearAmounts yX3_clearAmounts, .code yX3_clearAmounts cX3_clearAmounts 1 none] ++ wsX30)
def wsX4_copyFrom : List Cond := .code yX4_copyFrom cX4_copyFrom 3 none :: ([.fieldLink RX4 22 "RainReservoir$Users" "count" "I", .fieldLink RX4 11 "RainReservoir$Users" "rows" "[LRainReservoir$User;", .methodLink RX4 26 yX3_copyFrom, .instanceMethod yX3_copyFrom, .selects RX3 yX3_copyFrom yX3_copyFrom, .initialized RX3, .code yX3_copyFrom cX3_copyFrom 2 none, .fieldLink RX3 9 "RainReservoir$User" "demand" "I", .fieldLink RX3 15 "RainReservoir$User" "weight" "I", .fieldLink RX3 25 "RainReservoir$User" "gotLatest" "I", .fieldLink RX3 28 "RainReservoir$User" "gotInAll" "I", .methodLink RX3 21 yX3_set, .instanceMethod yX3_set, .selects RX3 yX3_set yX3_set, .code yX3_set cX3_set 3 none, .methodLink RX3 18 yX3_clearAmounts, .instanceMethod yX3_clearAmounts, .selects RX3 yX3_clearAmounts yX3_clearAmounts, .code yX3_clearAmounts cX3_clearAmounts 1 none] ++ wsX40 ++ wsX30)
def wsX2_copyFrom_r1 : List Cond := [Cond.fieldLink RX2 9 "RainReservoir$State" "capacity" "I", Cond.fieldLink RX2 39 "RainReservoir$State" "floor" "I", Cond.fieldLink RX2 42 "RainReservoir$State" "topUp" "I", Cond.fieldLink RX2 45 "RainReservoir$State" "evaporation" "I", Cond.fieldLink RX2 15 "RainReservoir$State" "dryLimit" "I", Cond.fieldLink RX2 48 "RainReservoir$State" "rule" "I", Cond.fieldLink RX2 51 "RainReservoir$State" "roofCount" "I", Cond.fieldLink RX2 20 "RainReservoir$State" "roofs" "[LRainReservoir$Roof;", Cond.fieldLink RX2 28 "RainReservoir$State" "users" "LRainReservoir$Users;", Cond.fieldLink RX2 61 "RainReservoir$State" "rainCount" "I", Cond.fieldLink RX2 32 "RainReservoir$State" "rains" "[I", Cond.methodLink RX2 64 arraycopyName, Cond.native arraycopyName, Cond.static arraycopyName, Cond.initialized "java/lang/System", Cond.fieldLink RX2 70 "RainReservoir$State" "doneCount" "I", Cond.fieldLink RX2 36 "RainReservoir$State" "accounts" "[I", Cond.fieldLink RX2 73 "RainReservoir$State" "level" "I", Cond.fieldLink RX2 76 "RainReservoir$State" "dryDays" "I", Cond.fieldLink RX2 79 "RainReservoir$State" "looseOverflow" "J", Cond.methodLink RX2 54 yX1_copyFrom, Cond.instanceMethod yX1_copyFrom, Cond.selects RX1 yX1_copyFrom yX1_copyFrom, Cond.initialized RX1]
def wsX2_copyFrom_r2 : List Cond := [Cond.code yX1_copyFrom cX1_copyFrom 2 none, Cond.fieldLink RX1 7 "RainReservoir$Roof" "area" "I", Cond.fieldLink RX1 13 "RainReservoir$Roof" "yieldPercent" "I", Cond.fieldLink RX1 16 "RainReservoir$Roof" "flush" "I", Cond.fieldLink RX1 19 "RainReservoir$Roof" "gutter" "I", Cond.fieldLink RX1 29 "RainReservoir$Roof" "water" "I", Cond.fieldLink RX1 32 "RainReservoir$Roof" "spilledInAll" "I", Cond.methodLink RX1 25 yX1_set, Cond.instanceMethod yX1_set, Cond.selects RX1 yX1_set yX1_set, Cond.code yX1_set cX1_set 5 none, Cond.methodLink RX1 22 yX1_clearAmounts, Cond.instanceMethod yX1_clearAmounts, Cond.selects RX1 yX1_clearAmounts yX1_clearAmounts, Cond.code yX1_clearAmounts cX1_clearAmounts 1 none, Cond.methodLink RX2 58 yX4_copyFrom, Cond.instanceMethod yX4_copyFrom, Cond.selects RX4 yX4_copyFrom yX4_copyFrom, Cond.initialized RX4, Cond.code yX4_copyFrom cX4_copyFrom 3 none, Cond.fieldLink RX4 22 "RainReservoir$Users" "count" "I", Cond.fieldLink RX4 11 "RainReservoir$Users" "rows" "[LRainReservoir$User;", Cond.methodLink RX4 26 yX3_copyFrom, Cond.instanceMethod yX3_copyFrom]
def wsX2_copyFrom_r3 : List Cond := [Cond.selects RX3 yX3_copyFrom yX3_copyFrom, Cond.initialized RX3, Cond.code yX3_copyFrom cX3_copyFrom 2 none, Cond.fieldLink RX3 9 "RainReservoir$User" "demand" "I", Cond.fieldLink RX3 15 "RainReservoir$User" "weight" "I", Cond.fieldLink RX3 25 "RainReservoir$User" "gotLatest" "I", Cond.fieldLink RX3 28 "RainReservoir$User" "gotInAll" "I", Cond.methodLink RX3 21 yX3_set, Cond.instanceMethod yX3_set, Cond.selects RX3 yX3_set yX3_set, Cond.code yX3_set cX3_set 3 none, Cond.methodLink RX3 18 yX3_clearAmounts, Cond.instanceMethod yX3_clearAmounts, Cond.selects RX3 yX3_clearAmounts yX3_clearAmounts, Cond.code yX3_clearAmounts cX3_clearAmounts 1 none]
def wsX2_copyFrom : List Cond := .code yX2_copyFrom cX2_copyFrom 3 none :: ((wsX2_copyFrom_r1 ++ (wsX2_copyFrom_r2 ++ wsX2_copyFrom_r3)) ++ wsX20 ++ wsX10 ++ wsX40 ++ wsX30)
def wsX4_clearAmounts : List Cond := .code yX4_clearAmounts cX4_clearAmounts 2 none :: ([.fieldLink RX4 22 "RainReservoir$Users" "count" "I", .fieldLink RX4 11 "RainReservoir$Users" "rows" "[LRainReservoir$User;", .methodLink RX4 30 yX3_clearAmounts, .instanceMethod yX3_clearAmounts, .selects RX3 yX3_clearAmounts yX3_clearAmounts, .initialized RX3, .code yX3_clearAmounts cX3_clearAmounts 1 none, .fieldLink RX3 25 "RainReservoir$User" "gotLatest" "I", .fieldLink RX3 28 "RainReservoir$User" "gotInAll" "I"] ++ wsX40 ++ wsX30)
def wsX2_goBack_r1 : List Cond := [Cond.fieldLink RX2 70 "RainReservoir$State" "doneCount" "I", Cond.fieldLink RX2 73 "RainReservoir$State" "level" "I", Cond.fieldLink RX2 76 "RainReservoir$State" "dryDays" "I", Cond.fieldLink RX2 79 "RainReservoir$State" "looseOverflow" "J", Cond.fieldLink RX2 51 "RainReservoir$State" "roofCount" "I", Cond.fieldLink RX2 20 "RainReservoir$State" "roofs" "[LRainReservoir$Roof;", Cond.fieldLink RX2 28 "RainReservoir$State" "users" "LRainReservoir$Users;", Cond.methodLink RX2 83 yX1_clearAmounts, Cond.instanceMethod yX1_clearAmounts, Cond.selects RX1 yX1_clearAmounts yX1_clearAmounts, Cond.initialized RX1, Cond.code yX1_clearAmounts cX1_clearAmounts 1 none, Cond.fieldLink RX1 29 "RainReservoir$Roof" "water" "I", Cond.fieldLink RX1 32 "RainReservoir$Roof" "spilledInAll" "I", Cond.methodLink RX2 86 yX4_clearAmounts, Cond.instanceMethod yX4_clearAmounts, Cond.selects RX4 yX4_clearAmounts yX4_clearAmounts, Cond.initialized RX4, Cond.code yX4_clearAmounts cX4_clearAmounts 2 none, Cond.fieldLink RX4 22 "RainReservoir$Users" "count" "I", Cond.fieldLink RX4 11 "RainReservoir$Users" "rows" "[LRainReservoir$User;", Cond.methodLink RX4 30 yX3_clearAmounts, Cond.instanceMethod yX3_clearAmounts, Cond.selects RX3 yX3_clearAmounts yX3_clearAmounts]
def wsX2_goBack_r2 : List Cond := [Cond.initialized RX3, Cond.code yX3_clearAmounts cX3_clearAmounts 1 none, Cond.fieldLink RX3 25 "RainReservoir$User" "gotLatest" "I", Cond.fieldLink RX3 28 "RainReservoir$User" "gotInAll" "I"]
def wsX2_goBack : List Cond := .code yX2_goBack cX2_goBack 2 none :: ((wsX2_goBack_r1 ++ wsX2_goBack_r2) ++ wsX20 ++ wsX10 ++ wsX40 ++ wsX30)
def wsX2_settingValue : List Cond := .code yX2_settingValue cX2_settingValue 2 (some .int) :: ([.fieldLink RX2 9 "RainReservoir$State" "capacity" "I", .fieldLink RX2 39 "RainReservoir$State" "floor" "I", .fieldLink RX2 42 "RainReservoir$State" "topUp" "I", .fieldLink RX2 45 "RainReservoir$State" "evaporation" "I", .fieldLink RX2 15 "RainReservoir$State" "dryLimit" "I", .fieldLink RX2 48 "RainReservoir$State" "rule" "I", .fieldLink RX2 51 "RainReservoir$State" "roofCount" "I", .fieldLink RX2 28 "RainReservoir$State" "users" "LRainReservoir$Users;", .fieldLink RX2 87 "RainReservoir$Users" "count" "I", .fieldLink RX2 61 "RainReservoir$State" "rainCount" "I", .fieldLink RX2 70 "RainReservoir$State" "doneCount" "I", .fieldLink RX2 73 "RainReservoir$State" "level" "I", .fieldLink RX2 76 "RainReservoir$State" "dryDays" "I"] ++ wsX20 ++ wsX40)
def wsX2_putRain : List Cond := .code yX2_putRain cX2_putRain 2 none :: ([.fieldLink RX2 32 "RainReservoir$State" "rains" "[I", .fieldLink RX2 61 "RainReservoir$State" "rainCount" "I"] ++ wsX20)
def wsX2_account : List Cond := .code yX2_account cX2_account 3 (some .int) :: ([.fieldLink RX2 36 "RainReservoir$State" "accounts" "[I"] ++ wsX20)
def wsX2_isShort : List Cond := .code yX2_isShort cX2_isShort 2 (some .boolean) :: ([.methodLink RX2 90 yX2_account, .instanceMethod yX2_account, .selects RX2 yX2_account yX2_account, .initialized RX2, .code yX2_account cX2_account 3 (some .int), .fieldLink RX2 36 "RainReservoir$State" "accounts" "[I"] ++ wsX20)
def wsX2_dropAboveCapacity : List Cond := .code yX2_dropAboveCapacity cX2_dropAboveCapacity 2 (some .int) :: ([.fieldLink RX2 73 "RainReservoir$State" "level" "I", .fieldLink RX2 9 "RainReservoir$State" "capacity" "I", .methodLink RX2 94 Lib.Math.max.name, .static Lib.Math.max.name, .initialized "java/lang/Math", .code Lib.Math.max.name Lib.Math.max.code 2 (some .int)] ++ wsX20)
def wsX2_drainWhenDry : List Cond := .code yX2_drainWhenDry cX2_drainWhenDry 4 (some .int) :: ([.fieldLink RX2 76 "RainReservoir$State" "dryDays" "I", .fieldLink RX2 15 "RainReservoir$State" "dryLimit" "I", .fieldLink RX2 51 "RainReservoir$State" "roofCount" "I", .fieldLink RX2 20 "RainReservoir$State" "roofs" "[LRainReservoir$Roof;", .methodLink RX2 134 yX1_drain, .instanceMethod yX1_drain, .selects RX1 yX1_drain yX1_drain, .initialized RX1, .code yX1_drain cX1_drain 2 (some .int), .fieldLink RX1 29 "RainReservoir$Roof" "water" "I"] ++ wsX20 ++ wsX10)
def wsX2_put : List Cond := .code yX2_put cX2_put 4 none :: ([.fieldLink RX2 36 "RainReservoir$State" "accounts" "[I"] ++ wsX20)
def wsX2_collect_r1 : List Cond := [Cond.fieldLink RX2 32 "RainReservoir$State" "rains" "[I", Cond.fieldLink RX2 51 "RainReservoir$State" "roofCount" "I", Cond.fieldLink RX2 20 "RainReservoir$State" "roofs" "[LRainReservoir$Roof;", Cond.methodLink RX2 99 yX2_drainWhenDry, Cond.instanceMethod yX2_drainWhenDry, Cond.selects RX2 yX2_drainWhenDry yX2_drainWhenDry, Cond.initialized RX2, Cond.code yX2_drainWhenDry cX2_drainWhenDry 4 (some .int), Cond.fieldLink RX2 76 "RainReservoir$State" "dryDays" "I", Cond.fieldLink RX2 15 "RainReservoir$State" "dryLimit" "I", Cond.methodLink RX2 134 yX1_drain, Cond.instanceMethod yX1_drain, Cond.selects RX1 yX1_drain yX1_drain, Cond.initialized RX1, Cond.code yX1_drain cX1_drain 2 (some .int), Cond.fieldLink RX1 29 "RainReservoir$Roof" "water" "I", Cond.methodLink RX2 103 yX1_caught, Cond.instanceMethod yX1_caught, Cond.selects RX1 yX1_caught yX1_caught, Cond.code yX1_caught cX1_caught 2 (some .int), Cond.fieldLink RX1 7 "RainReservoir$Roof" "area" "I", Cond.fieldLink RX1 13 "RainReservoir$Roof" "yieldPercent" "I", Cond.methodLink RX2 106 yX1_divert, Cond.instanceMethod yX1_divert]
def wsX2_collect_r2 : List Cond := [Cond.selects RX1 yX1_divert yX1_divert, Cond.code yX1_divert cX1_divert 3 (some .int), Cond.fieldLink RX1 16 "RainReservoir$Roof" "flush" "I", Cond.methodLink RX1 35 Lib.Math.min.name, Cond.static Lib.Math.min.name, Cond.initialized "java/lang/Math", Cond.code Lib.Math.min.name Lib.Math.min.code 2 (some .int), Cond.methodLink RX2 109 yX1_spill, Cond.instanceMethod yX1_spill, Cond.selects RX1 yX1_spill yX1_spill, Cond.code yX1_spill cX1_spill 3 (some .int), Cond.fieldLink RX1 19 "RainReservoir$Roof" "gutter" "I", Cond.methodLink RX1 41 Lib.Math.max.name, Cond.static Lib.Math.max.name, Cond.code Lib.Math.max.name Lib.Math.max.code 2 (some .int), Cond.fieldLink RX1 32 "RainReservoir$Roof" "spilledInAll" "I", Cond.methodLink RX2 112 yX2_put, Cond.instanceMethod yX2_put, Cond.selects RX2 yX2_put yX2_put, Cond.code yX2_put cX2_put 4 none, Cond.fieldLink RX2 36 "RainReservoir$State" "accounts" "[I"]
def wsX2_collect : List Cond := .code yX2_collect cX2_collect 11 none :: ((wsX2_collect_r1 ++ wsX2_collect_r2) ++ wsX20 ++ wsX10)
def wsX4_demandInAll : List Cond := .code yX4_demandInAll cX4_demandInAll 3 (some .int) :: ([.fieldLink RX4 22 "RainReservoir$Users" "count" "I", .fieldLink RX4 11 "RainReservoir$Users" "rows" "[LRainReservoir$User;", .fieldLink RX4 33 "RainReservoir$User" "demand" "I"] ++ wsX40 ++ wsX30)
def wsX3_lack : List Cond := .code yX3_lack cX3_lack 1 (some .int) :: ([.fieldLink RX3 9 "RainReservoir$User" "demand" "I", .fieldLink RX3 25 "RainReservoir$User" "gotLatest" "I"] ++ wsX30)
def wsX3_give : List Cond := .code yX3_give cX3_give 3 (some .int) :: ([.methodLink RX3 35 Lib.Math.min.name, .static Lib.Math.min.name, .initialized "java/lang/Math", .code Lib.Math.min.name Lib.Math.min.code 2 (some .int), .fieldLink RX3 25 "RainReservoir$User" "gotLatest" "I", .methodLink RX3 31 yX3_lack, .instanceMethod yX3_lack, .selects RX3 yX3_lack yX3_lack, .initialized RX3, .code yX3_lack cX3_lack 1 (some .int), .fieldLink RX3 9 "RainReservoir$User" "demand" "I"] ++ wsX30)
def wsX4_serveOrder : List Cond := .code yX4_serveOrder cX4_serveOrder 4 none :: ([.fieldLink RX4 22 "RainReservoir$Users" "count" "I", .fieldLink RX4 11 "RainReservoir$Users" "rows" "[LRainReservoir$User;", .fieldLink RX4 18 "RainReservoir$Users" "order" "[I", .methodLink RX4 70 yX3_give, .instanceMethod yX3_give, .selects RX3 yX3_give yX3_give, .initialized RX3, .code yX3_give cX3_give 3 (some .int), .methodLink RX3 35 Lib.Math.min.name, .static Lib.Math.min.name, .initialized "java/lang/Math", .code Lib.Math.min.name Lib.Math.min.code 2 (some .int), .fieldLink RX3 25 "RainReservoir$User" "gotLatest" "I", .methodLink RX3 31 yX3_lack, .instanceMethod yX3_lack, .selects RX3 yX3_lack yX3_lack, .code yX3_lack cX3_lack 1 (some .int), .fieldLink RX3 9 "RainReservoir$User" "demand" "I"] ++ wsX40 ++ wsX30)
def wsX4_shareInOrder : List Cond := .code yX4_shareInOrder cX4_shareInOrder 3 none :: ([.fieldLink RX4 22 "RainReservoir$Users" "count" "I", .fieldLink RX4 18 "RainReservoir$Users" "order" "[I", .methodLink RX4 74 yX4_serveOrder, .instanceMethod yX4_serveOrder, .selects RX4 yX4_serveOrder yX4_serveOrder, .initialized RX4, .code yX4_serveOrder cX4_serveOrder 4 none, .fieldLink RX4 11 "RainReservoir$Users" "rows" "[LRainReservoir$User;", .methodLink RX4 70 yX3_give, .instanceMethod yX3_give, .selects RX3 yX3_give yX3_give, .initialized RX3, .code yX3_give cX3_give 3 (some .int), .methodLink RX3 35 Lib.Math.min.name, .static Lib.Math.min.name, .initialized "java/lang/Math", .code Lib.Math.min.name Lib.Math.min.code 2 (some .int), .fieldLink RX3 25 "RainReservoir$User" "gotLatest" "I", .methodLink RX3 31 yX3_lack, .instanceMethod yX3_lack, .selects RX3 yX3_lack yX3_lack, .code yX3_lack cX3_lack 1 (some .int), .fieldLink RX3 9 "RainReservoir$User" "demand" "I"] ++ wsX40 ++ wsX30)
def wsX4_shareByDemand : List Cond := .code yX4_shareByDemand cX4_shareByDemand 7 none :: ([.fieldLink RX4 22 "RainReservoir$Users" "count" "I", .fieldLink RX4 11 "RainReservoir$Users" "rows" "[LRainReservoir$User;", .fieldLink RX4 33 "RainReservoir$User" "demand" "I", .methodLink RX4 70 yX3_give, .instanceMethod yX3_give, .selects RX3 yX3_give yX3_give, .initialized RX3, .code yX3_give cX3_give 3 (some .int), .methodLink RX3 35 Lib.Math.min.name, .static Lib.Math.min.name, .initialized "java/lang/Math", .code Lib.Math.min.name Lib.Math.min.code 2 (some .int), .fieldLink RX3 25 "RainReservoir$User" "gotLatest" "I", .methodLink RX3 31 yX3_lack, .instanceMethod yX3_lack, .selects RX3 yX3_lack yX3_lack, .code yX3_lack cX3_lack 1 (some .int), .fieldLink RX3 9 "RainReservoir$User" "demand" "I"] ++ wsX40 ++ wsX30)
def wsX3_portion : List Cond := .code yX3_portion cX3_portion 1 (some .int) :: ([.fieldLink RX3 15 "RainReservoir$User" "weight" "I"] ++ wsX30)
def wsX4_fullRounds : List Cond := .code yX4_fullRounds cX4_fullRounds 4 (some .int) :: ([.fieldLink RX4 22 "RainReservoir$Users" "count" "I", .fieldLink RX4 11 "RainReservoir$Users" "rows" "[LRainReservoir$User;", .methodLink RX4 89 yX3_lack, .instanceMethod yX3_lack, .selects RX3 yX3_lack yX3_lack, .initialized RX3, .code yX3_lack cX3_lack 1 (some .int), .fieldLink RX3 9 "RainReservoir$User" "demand" "I", .fieldLink RX3 25 "RainReservoir$User" "gotLatest" "I", .methodLink RX4 83 yX3_portion, .instanceMethod yX3_portion, .selects RX3 yX3_portion yX3_portion, .code yX3_portion cX3_portion 1 (some .int), .fieldLink RX3 15 "RainReservoir$User" "weight" "I"] ++ wsX40 ++ wsX30)
def wsX4_giveRounds : List Cond := .code yX4_giveRounds cX4_giveRounds 4 (some .int) :: ([.fieldLink RX4 22 "RainReservoir$Users" "count" "I", .fieldLink RX4 11 "RainReservoir$Users" "rows" "[LRainReservoir$User;", .methodLink RX4 83 yX3_portion, .instanceMethod yX3_portion, .selects RX3 yX3_portion yX3_portion, .initialized RX3, .code yX3_portion cX3_portion 1 (some .int), .fieldLink RX3 15 "RainReservoir$User" "weight" "I", .methodLink RX4 70 yX3_give, .instanceMethod yX3_give, .selects RX3 yX3_give yX3_give, .code yX3_give cX3_give 3 (some .int), .methodLink RX3 35 Lib.Math.min.name, .static Lib.Math.min.name, .initialized "java/lang/Math", .code Lib.Math.min.name Lib.Math.min.code 2 (some .int), .fieldLink RX3 25 "RainReservoir$User" "gotLatest" "I", .methodLink RX3 31 yX3_lack, .instanceMethod yX3_lack, .selects RX3 yX3_lack yX3_lack, .code yX3_lack cX3_lack 1 (some .int), .fieldLink RX3 9 "RainReservoir$User" "demand" "I"] ++ wsX40 ++ wsX30)
def wsX4_shareInRounds_r1 : List Cond := [Cond.fieldLink RX4 22 "RainReservoir$Users" "count" "I", Cond.fieldLink RX4 11 "RainReservoir$Users" "rows" "[LRainReservoir$User;", Cond.methodLink RX4 86 Lib.Math.min.name, Cond.static Lib.Math.min.name, Cond.initialized "java/lang/Math", Cond.code Lib.Math.min.name Lib.Math.min.code 2 (some .int), Cond.methodLink RX4 77 yX4_fullRounds, Cond.instanceMethod yX4_fullRounds, Cond.selects RX4 yX4_fullRounds yX4_fullRounds, Cond.initialized RX4, Cond.code yX4_fullRounds cX4_fullRounds 4 (some .int), Cond.methodLink RX4 89 yX3_lack, Cond.instanceMethod yX3_lack, Cond.selects RX3 yX3_lack yX3_lack, Cond.initialized RX3, Cond.code yX3_lack cX3_lack 1 (some .int), Cond.fieldLink RX3 9 "RainReservoir$User" "demand" "I", Cond.fieldLink RX3 25 "RainReservoir$User" "gotLatest" "I", Cond.methodLink RX4 83 yX3_portion, Cond.instanceMethod yX3_portion, Cond.selects RX3 yX3_portion yX3_portion, Cond.code yX3_portion cX3_portion 1 (some .int), Cond.fieldLink RX3 15 "RainReservoir$User" "weight" "I", Cond.methodLink RX4 80 yX4_giveRounds]
def wsX4_shareInRounds_r2 : List Cond := [Cond.instanceMethod yX4_giveRounds, Cond.selects RX4 yX4_giveRounds yX4_giveRounds, Cond.code yX4_giveRounds cX4_giveRounds 4 (some .int), Cond.methodLink RX4 70 yX3_give, Cond.instanceMethod yX3_give, Cond.selects RX3 yX3_give yX3_give, Cond.code yX3_give cX3_give 3 (some .int), Cond.methodLink RX3 35 Lib.Math.min.name, Cond.methodLink RX3 31 yX3_lack]
def wsX4_shareInRounds : List Cond := .code yX4_shareInRounds cX4_shareInRounds 5 none :: ((wsX4_shareInRounds_r1 ++ wsX4_shareInRounds_r2) ++ wsX40 ++ wsX30)
def wsX4_shareSmallestFirst : List Cond := .code yX4_shareSmallestFirst cX4_shareSmallestFirst 4 none :: ([.fieldLink RX4 22 "RainReservoir$Users" "count" "I", .fieldLink RX4 11 "RainReservoir$Users" "rows" "[LRainReservoir$User;", .fieldLink RX4 18 "RainReservoir$Users" "order" "[I", .fieldLink RX4 33 "RainReservoir$User" "demand" "I", .methodLink RX4 74 yX4_serveOrder, .instanceMethod yX4_serveOrder, .selects RX4 yX4_serveOrder yX4_serveOrder, .initialized RX4, .code yX4_serveOrder cX4_serveOrder 4 none, .methodLink RX4 70 yX3_give, .instanceMethod yX3_give, .selects RX3 yX3_give yX3_give, .initialized RX3, .code yX3_give cX3_give 3 (some .int), .methodLink RX3 35 Lib.Math.min.name, .static Lib.Math.min.name, .initialized "java/lang/Math", .code Lib.Math.min.name Lib.Math.min.code 2 (some .int), .fieldLink RX3 25 "RainReservoir$User" "gotLatest" "I", .methodLink RX3 31 yX3_lack, .instanceMethod yX3_lack, .selects RX3 yX3_lack yX3_lack, .code yX3_lack cX3_lack 1 (some .int), .fieldLink RX3 9 "RainReservoir$User" "demand" "I"] ++ wsX40 ++ wsX30)
def wsX4_share_r1 : List Cond := [Cond.methodLink RX4 60 yX4_shareByDemand, Cond.instanceMethod yX4_shareByDemand, Cond.selects RX4 yX4_shareByDemand yX4_shareByDemand, Cond.initialized RX4, Cond.code yX4_shareByDemand cX4_shareByDemand 7 none, Cond.fieldLink RX4 22 "RainReservoir$Users" "count" "I", Cond.fieldLink RX4 11 "RainReservoir$Users" "rows" "[LRainReservoir$User;", Cond.fieldLink RX4 33 "RainReservoir$User" "demand" "I", Cond.methodLink RX4 70 yX3_give, Cond.instanceMethod yX3_give, Cond.selects RX3 yX3_give yX3_give, Cond.initialized RX3, Cond.code yX3_give cX3_give 3 (some .int), Cond.methodLink RX3 35 Lib.Math.min.name, Cond.static Lib.Math.min.name, Cond.initialized "java/lang/Math", Cond.code Lib.Math.min.name Lib.Math.min.code 2 (some .int), Cond.fieldLink RX3 25 "RainReservoir$User" "gotLatest" "I", Cond.methodLink RX3 31 yX3_lack, Cond.instanceMethod yX3_lack, Cond.selects RX3 yX3_lack yX3_lack, Cond.code yX3_lack cX3_lack 1 (some .int), Cond.fieldLink RX3 9 "RainReservoir$User" "demand" "I", Cond.methodLink RX4 52 yX4_shareInOrder]
def wsX4_share_r2 : List Cond := [Cond.instanceMethod yX4_shareInOrder, Cond.selects RX4 yX4_shareInOrder yX4_shareInOrder, Cond.code yX4_shareInOrder cX4_shareInOrder 3 none, Cond.fieldLink RX4 18 "RainReservoir$Users" "order" "[I", Cond.methodLink RX4 74 yX4_serveOrder, Cond.instanceMethod yX4_serveOrder, Cond.selects RX4 yX4_serveOrder yX4_serveOrder, Cond.code yX4_serveOrder cX4_serveOrder 4 none, Cond.methodLink RX4 64 yX4_shareInRounds, Cond.instanceMethod yX4_shareInRounds, Cond.selects RX4 yX4_shareInRounds yX4_shareInRounds, Cond.code yX4_shareInRounds cX4_shareInRounds 5 none, Cond.methodLink RX4 86 Lib.Math.min.name, Cond.methodLink RX4 77 yX4_fullRounds, Cond.instanceMethod yX4_fullRounds, Cond.selects RX4 yX4_fullRounds yX4_fullRounds, Cond.code yX4_fullRounds cX4_fullRounds 4 (some .int), Cond.methodLink RX4 89 yX3_lack, Cond.methodLink RX4 83 yX3_portion, Cond.instanceMethod yX3_portion, Cond.selects RX3 yX3_portion yX3_portion, Cond.code yX3_portion cX3_portion 1 (some .int), Cond.fieldLink RX3 15 "RainReservoir$User" "weight" "I", Cond.methodLink RX4 80 yX4_giveRounds]
def wsX4_share_r3 : List Cond := [Cond.instanceMethod yX4_giveRounds, Cond.selects RX4 yX4_giveRounds yX4_giveRounds, Cond.code yX4_giveRounds cX4_giveRounds 4 (some .int), Cond.methodLink RX4 67 yX4_shareSmallestFirst, Cond.instanceMethod yX4_shareSmallestFirst, Cond.selects RX4 yX4_shareSmallestFirst yX4_shareSmallestFirst, Cond.code yX4_shareSmallestFirst cX4_shareSmallestFirst 4 none]
def wsX4_share : List Cond := .code yX4_share cX4_share 4 none :: ((wsX4_share_r1 ++ (wsX4_share_r2 ++ wsX4_share_r3)) ++ wsX40 ++ wsX30)
def wsX4_handOut_r1 : List Cond := [Cond.fieldLink RX4 22 "RainReservoir$Users" "count" "I", Cond.fieldLink RX4 11 "RainReservoir$Users" "rows" "[LRainReservoir$User;", Cond.fieldLink RX4 45 "RainReservoir$User" "gotLatest" "I", Cond.fieldLink RX4 36 "RainReservoir$User" "gotInAll" "I", Cond.methodLink RX4 48 yX4_demandInAll, Cond.instanceMethod yX4_demandInAll, Cond.selects RX4 yX4_demandInAll yX4_demandInAll, Cond.initialized RX4, Cond.code yX4_demandInAll cX4_demandInAll 3 (some .int), Cond.fieldLink RX4 33 "RainReservoir$User" "demand" "I", Cond.methodLink RX4 52 yX4_shareInOrder, Cond.instanceMethod yX4_shareInOrder, Cond.selects RX4 yX4_shareInOrder yX4_shareInOrder, Cond.code yX4_shareInOrder cX4_shareInOrder 3 none, Cond.fieldLink RX4 18 "RainReservoir$Users" "order" "[I", Cond.methodLink RX4 74 yX4_serveOrder, Cond.instanceMethod yX4_serveOrder, Cond.selects RX4 yX4_serveOrder yX4_serveOrder, Cond.code yX4_serveOrder cX4_serveOrder 4 none, Cond.methodLink RX4 70 yX3_give, Cond.instanceMethod yX3_give, Cond.selects RX3 yX3_give yX3_give, Cond.initialized RX3, Cond.code yX3_give cX3_give 3 (some .int)]
def wsX4_handOut_r2 : List Cond := [Cond.methodLink RX3 35 Lib.Math.min.name, Cond.static Lib.Math.min.name, Cond.initialized "java/lang/Math", Cond.code Lib.Math.min.name Lib.Math.min.code 2 (some .int), Cond.fieldLink RX3 25 "RainReservoir$User" "gotLatest" "I", Cond.methodLink RX3 31 yX3_lack, Cond.instanceMethod yX3_lack, Cond.selects RX3 yX3_lack yX3_lack, Cond.code yX3_lack cX3_lack 1 (some .int), Cond.fieldLink RX3 9 "RainReservoir$User" "demand" "I", Cond.methodLink RX4 56 yX4_share, Cond.instanceMethod yX4_share, Cond.selects RX4 yX4_share yX4_share, Cond.code yX4_share cX4_share 4 none, Cond.methodLink RX4 60 yX4_shareByDemand, Cond.instanceMethod yX4_shareByDemand, Cond.selects RX4 yX4_shareByDemand yX4_shareByDemand, Cond.code yX4_shareByDemand cX4_shareByDemand 7 none, Cond.methodLink RX4 64 yX4_shareInRounds, Cond.instanceMethod yX4_shareInRounds, Cond.selects RX4 yX4_shareInRounds yX4_shareInRounds, Cond.code yX4_shareInRounds cX4_shareInRounds 5 none, Cond.methodLink RX4 86 Lib.Math.min.name, Cond.methodLink RX4 77 yX4_fullRounds]
def wsX4_handOut_r3 : List Cond := [Cond.instanceMethod yX4_fullRounds, Cond.selects RX4 yX4_fullRounds yX4_fullRounds, Cond.code yX4_fullRounds cX4_fullRounds 4 (some .int), Cond.methodLink RX4 89 yX3_lack, Cond.methodLink RX4 83 yX3_portion, Cond.instanceMethod yX3_portion, Cond.selects RX3 yX3_portion yX3_portion, Cond.code yX3_portion cX3_portion 1 (some .int), Cond.fieldLink RX3 15 "RainReservoir$User" "weight" "I", Cond.methodLink RX4 80 yX4_giveRounds, Cond.instanceMethod yX4_giveRounds, Cond.selects RX4 yX4_giveRounds yX4_giveRounds, Cond.code yX4_giveRounds cX4_giveRounds 4 (some .int), Cond.methodLink RX4 67 yX4_shareSmallestFirst, Cond.instanceMethod yX4_shareSmallestFirst, Cond.selects RX4 yX4_shareSmallestFirst yX4_shareSmallestFirst, Cond.code yX4_shareSmallestFirst cX4_shareSmallestFirst 4 none]
def wsX4_handOut : List Cond := .code yX4_handOut cX4_handOut 6 (some .int) :: ((wsX4_handOut_r1 ++ (wsX4_handOut_r2 ++ wsX4_handOut_r3)) ++ wsX40 ++ wsX30)
def wsX2_serve_r1 : List Cond := [Cond.fieldLink RX2 73 "RainReservoir$State" "level" "I", Cond.fieldLink RX2 45 "RainReservoir$State" "evaporation" "I", Cond.fieldLink RX2 28 "RainReservoir$State" "users" "LRainReservoir$Users;", Cond.fieldLink RX2 39 "RainReservoir$State" "floor" "I", Cond.methodLink RX2 94 Lib.Math.max.name, Cond.static Lib.Math.max.name, Cond.initialized "java/lang/Math", Cond.code Lib.Math.max.name Lib.Math.max.code 2 (some .int), Cond.fieldLink RX2 48 "RainReservoir$State" "rule" "I", Cond.fieldLink RX2 42 "RainReservoir$State" "topUp" "I", Cond.methodLink RX2 90 yX2_account, Cond.instanceMethod yX2_account, Cond.selects RX2 yX2_account yX2_account, Cond.initialized RX2, Cond.code yX2_account cX2_account 3 (some .int), Cond.fieldLink RX2 36 "RainReservoir$State" "accounts" "[I", Cond.methodLink RX2 116 yX2_dropAboveCapacity, Cond.instanceMethod yX2_dropAboveCapacity, Cond.selects RX2 yX2_dropAboveCapacity yX2_dropAboveCapacity, Cond.code yX2_dropAboveCapacity cX2_dropAboveCapacity 2 (some .int), Cond.fieldLink RX2 9 "RainReservoir$State" "capacity" "I", Cond.methodLink RX2 112 yX2_put, Cond.instanceMethod yX2_put, Cond.selects RX2 yX2_put yX2_put]
def wsX2_serve_r2 : List Cond := [Cond.code yX2_put cX2_put 4 none, Cond.methodLink RX2 120 yX4_handOut, Cond.instanceMethod yX4_handOut, Cond.selects RX4 yX4_handOut yX4_handOut, Cond.initialized RX4, Cond.code yX4_handOut cX4_handOut 6 (some .int), Cond.fieldLink RX4 22 "RainReservoir$Users" "count" "I", Cond.fieldLink RX4 11 "RainReservoir$Users" "rows" "[LRainReservoir$User;", Cond.fieldLink RX4 45 "RainReservoir$User" "gotLatest" "I", Cond.fieldLink RX4 36 "RainReservoir$User" "gotInAll" "I", Cond.methodLink RX4 48 yX4_demandInAll, Cond.instanceMethod yX4_demandInAll, Cond.selects RX4 yX4_demandInAll yX4_demandInAll, Cond.code yX4_demandInAll cX4_demandInAll 3 (some .int), Cond.fieldLink RX4 33 "RainReservoir$User" "demand" "I", Cond.methodLink RX4 52 yX4_shareInOrder, Cond.instanceMethod yX4_shareInOrder, Cond.selects RX4 yX4_shareInOrder yX4_shareInOrder, Cond.code yX4_shareInOrder cX4_shareInOrder 3 none, Cond.fieldLink RX4 18 "RainReservoir$Users" "order" "[I", Cond.methodLink RX4 74 yX4_serveOrder, Cond.instanceMethod yX4_serveOrder, Cond.selects RX4 yX4_serveOrder yX4_serveOrder, Cond.code yX4_serveOrder cX4_serveOrder 4 none]
def wsX2_serve_r3 : List Cond := [Cond.methodLink RX4 70 yX3_give, Cond.instanceMethod yX3_give, Cond.selects RX3 yX3_give yX3_give, Cond.initialized RX3, Cond.code yX3_give cX3_give 3 (some .int), Cond.methodLink RX3 35 Lib.Math.min.name, Cond.static Lib.Math.min.name, Cond.code Lib.Math.min.name Lib.Math.min.code 2 (some .int), Cond.fieldLink RX3 25 "RainReservoir$User" "gotLatest" "I", Cond.methodLink RX3 31 yX3_lack, Cond.instanceMethod yX3_lack, Cond.selects RX3 yX3_lack yX3_lack, Cond.code yX3_lack cX3_lack 1 (some .int), Cond.fieldLink RX3 9 "RainReservoir$User" "demand" "I", Cond.methodLink RX4 56 yX4_share, Cond.instanceMethod yX4_share, Cond.selects RX4 yX4_share yX4_share, Cond.code yX4_share cX4_share 4 none, Cond.methodLink RX4 60 yX4_shareByDemand, Cond.instanceMethod yX4_shareByDemand, Cond.selects RX4 yX4_shareByDemand yX4_shareByDemand, Cond.code yX4_shareByDemand cX4_shareByDemand 7 none, Cond.methodLink RX4 64 yX4_shareInRounds, Cond.instanceMethod yX4_shareInRounds]
def wsX2_serve_r4 : List Cond := [Cond.selects RX4 yX4_shareInRounds yX4_shareInRounds, Cond.code yX4_shareInRounds cX4_shareInRounds 5 none, Cond.methodLink RX4 86 Lib.Math.min.name, Cond.methodLink RX4 77 yX4_fullRounds, Cond.instanceMethod yX4_fullRounds, Cond.selects RX4 yX4_fullRounds yX4_fullRounds, Cond.code yX4_fullRounds cX4_fullRounds 4 (some .int), Cond.methodLink RX4 89 yX3_lack, Cond.methodLink RX4 83 yX3_portion, Cond.instanceMethod yX3_portion, Cond.selects RX3 yX3_portion yX3_portion, Cond.code yX3_portion cX3_portion 1 (some .int), Cond.fieldLink RX3 15 "RainReservoir$User" "weight" "I", Cond.methodLink RX4 80 yX4_giveRounds, Cond.instanceMethod yX4_giveRounds, Cond.selects RX4 yX4_giveRounds yX4_giveRounds, Cond.code yX4_giveRounds cX4_giveRounds 4 (some .int), Cond.methodLink RX4 67 yX4_shareSmallestFirst, Cond.instanceMethod yX4_shareSmallestFirst, Cond.selects RX4 yX4_shareSmallestFirst yX4_shareSmallestFirst, Cond.code yX4_shareSmallestFirst cX4_shareSmallestFirst 4 none, Cond.methodLink RX2 123 yX4_demandInAll]
def wsX2_serve : List Cond := .code yX2_serve cX2_serve 5 none :: ((wsX2_serve_r1 ++ (wsX2_serve_r2 ++ (wsX2_serve_r3 ++ wsX2_serve_r4))) ++ wsX20 ++ wsX40 ++ wsX30)
def wsX2_serveAll_r1 : List Cond := [Cond.fieldLink RX2 73 "RainReservoir$State" "level" "I", Cond.fieldLink RX2 28 "RainReservoir$State" "users" "LRainReservoir$Users;", Cond.fieldLink RX2 61 "RainReservoir$State" "rainCount" "I", Cond.methodLink RX2 86 yX4_clearAmounts, Cond.instanceMethod yX4_clearAmounts, Cond.selects RX4 yX4_clearAmounts yX4_clearAmounts, Cond.initialized RX4, Cond.code yX4_clearAmounts cX4_clearAmounts 2 none, Cond.fieldLink RX4 22 "RainReservoir$Users" "count" "I", Cond.fieldLink RX4 11 "RainReservoir$Users" "rows" "[LRainReservoir$User;", Cond.methodLink RX4 30 yX3_clearAmounts, Cond.instanceMethod yX3_clearAmounts, Cond.selects RX3 yX3_clearAmounts yX3_clearAmounts, Cond.initialized RX3, Cond.code yX3_clearAmounts cX3_clearAmounts 1 none, Cond.fieldLink RX3 25 "RainReservoir$User" "gotLatest" "I", Cond.fieldLink RX3 28 "RainReservoir$User" "gotInAll" "I", Cond.methodLink RX2 126 yX2_serve, Cond.instanceMethod yX2_serve, Cond.selects RX2 yX2_serve yX2_serve, Cond.initialized RX2, Cond.code yX2_serve cX2_serve 5 none, Cond.fieldLink RX2 45 "RainReservoir$State" "evaporation" "I", Cond.fieldLink RX2 39 "RainReservoir$State" "floor" "I"]
def wsX2_serveAll_r2 : List Cond := [Cond.methodLink RX2 94 Lib.Math.max.name, Cond.static Lib.Math.max.name, Cond.initialized "java/lang/Math", Cond.code Lib.Math.max.name Lib.Math.max.code 2 (some .int), Cond.fieldLink RX2 48 "RainReservoir$State" "rule" "I", Cond.fieldLink RX2 42 "RainReservoir$State" "topUp" "I", Cond.methodLink RX2 90 yX2_account, Cond.instanceMethod yX2_account, Cond.selects RX2 yX2_account yX2_account, Cond.code yX2_account cX2_account 3 (some .int), Cond.fieldLink RX2 36 "RainReservoir$State" "accounts" "[I", Cond.methodLink RX2 116 yX2_dropAboveCapacity, Cond.instanceMethod yX2_dropAboveCapacity, Cond.selects RX2 yX2_dropAboveCapacity yX2_dropAboveCapacity, Cond.code yX2_dropAboveCapacity cX2_dropAboveCapacity 2 (some .int), Cond.fieldLink RX2 9 "RainReservoir$State" "capacity" "I", Cond.methodLink RX2 112 yX2_put, Cond.instanceMethod yX2_put, Cond.selects RX2 yX2_put yX2_put, Cond.code yX2_put cX2_put 4 none, Cond.methodLink RX2 120 yX4_handOut, Cond.instanceMethod yX4_handOut, Cond.selects RX4 yX4_handOut yX4_handOut, Cond.code yX4_handOut cX4_handOut 6 (some .int)]
def wsX2_serveAll_r3 : List Cond := [Cond.fieldLink RX4 45 "RainReservoir$User" "gotLatest" "I", Cond.fieldLink RX4 36 "RainReservoir$User" "gotInAll" "I", Cond.methodLink RX4 48 yX4_demandInAll, Cond.instanceMethod yX4_demandInAll, Cond.selects RX4 yX4_demandInAll yX4_demandInAll, Cond.code yX4_demandInAll cX4_demandInAll 3 (some .int), Cond.fieldLink RX4 33 "RainReservoir$User" "demand" "I", Cond.methodLink RX4 52 yX4_shareInOrder, Cond.instanceMethod yX4_shareInOrder, Cond.selects RX4 yX4_shareInOrder yX4_shareInOrder, Cond.code yX4_shareInOrder cX4_shareInOrder 3 none, Cond.fieldLink RX4 18 "RainReservoir$Users" "order" "[I", Cond.methodLink RX4 74 yX4_serveOrder, Cond.instanceMethod yX4_serveOrder, Cond.selects RX4 yX4_serveOrder yX4_serveOrder, Cond.code yX4_serveOrder cX4_serveOrder 4 none, Cond.methodLink RX4 70 yX3_give, Cond.instanceMethod yX3_give, Cond.selects RX3 yX3_give yX3_give, Cond.code yX3_give cX3_give 3 (some .int), Cond.methodLink RX3 35 Lib.Math.min.name, Cond.static Lib.Math.min.name, Cond.code Lib.Math.min.name Lib.Math.min.code 2 (some .int), Cond.methodLink RX3 31 yX3_lack]
def wsX2_serveAll_r4 : List Cond := [Cond.instanceMethod yX3_lack, Cond.selects RX3 yX3_lack yX3_lack, Cond.code yX3_lack cX3_lack 1 (some .int), Cond.fieldLink RX3 9 "RainReservoir$User" "demand" "I", Cond.methodLink RX4 56 yX4_share, Cond.instanceMethod yX4_share, Cond.selects RX4 yX4_share yX4_share, Cond.code yX4_share cX4_share 4 none, Cond.methodLink RX4 60 yX4_shareByDemand, Cond.instanceMethod yX4_shareByDemand, Cond.selects RX4 yX4_shareByDemand yX4_shareByDemand, Cond.code yX4_shareByDemand cX4_shareByDemand 7 none, Cond.methodLink RX4 64 yX4_shareInRounds, Cond.instanceMethod yX4_shareInRounds, Cond.selects RX4 yX4_shareInRounds yX4_shareInRounds, Cond.code yX4_shareInRounds cX4_shareInRounds 5 none, Cond.methodLink RX4 86 Lib.Math.min.name, Cond.methodLink RX4 77 yX4_fullRounds, Cond.instanceMethod yX4_fullRounds, Cond.selects RX4 yX4_fullRounds yX4_fullRounds, Cond.code yX4_fullRounds cX4_fullRounds 4 (some .int), Cond.methodLink RX4 89 yX3_lack, Cond.methodLink RX4 83 yX3_portion, Cond.instanceMethod yX3_portion]
def wsX2_serveAll_r5 : List Cond := [Cond.selects RX3 yX3_portion yX3_portion, Cond.code yX3_portion cX3_portion 1 (some .int), Cond.fieldLink RX3 15 "RainReservoir$User" "weight" "I", Cond.methodLink RX4 80 yX4_giveRounds, Cond.instanceMethod yX4_giveRounds, Cond.selects RX4 yX4_giveRounds yX4_giveRounds, Cond.code yX4_giveRounds cX4_giveRounds 4 (some .int), Cond.methodLink RX4 67 yX4_shareSmallestFirst, Cond.instanceMethod yX4_shareSmallestFirst, Cond.selects RX4 yX4_shareSmallestFirst yX4_shareSmallestFirst, Cond.code yX4_shareSmallestFirst cX4_shareSmallestFirst 4 none, Cond.methodLink RX2 123 yX4_demandInAll, Cond.methodLink RX2 130 yX2_isShort, Cond.instanceMethod yX2_isShort, Cond.selects RX2 yX2_isShort yX2_isShort, Cond.code yX2_isShort cX2_isShort 2 (some .boolean)]
def wsX2_serveAll : List Cond := .code yX2_serveAll cX2_serveAll 4 (some .int) :: ((wsX2_serveAll_r1 ++ (wsX2_serveAll_r2 ++ (wsX2_serveAll_r3 ++ (wsX2_serveAll_r4 ++ wsX2_serveAll_r5)))) ++ wsX20 ++ wsX40 ++ wsX30)
def wsX3_value : List Cond := .code yX3_value cX3_value 2 (some .int) :: ([.fieldLink RX3 9 "RainReservoir$User" "demand" "I", .fieldLink RX3 15 "RainReservoir$User" "weight" "I", .fieldLink RX3 25 "RainReservoir$User" "gotLatest" "I", .fieldLink RX3 28 "RainReservoir$User" "gotInAll" "I"] ++ wsX30)
def wsX4_scaleDemands : List Cond := .code yX4_scaleDemands cX4_scaleDemands 4 none :: ([.fieldLink RX4 22 "RainReservoir$Users" "count" "I", .fieldLink RX4 11 "RainReservoir$Users" "rows" "[LRainReservoir$User;", .fieldLink RX4 33 "RainReservoir$User" "demand" "I"] ++ wsX40 ++ wsX30)
def wsX4_greatestLack : List Cond := .code yX4_greatestLack cX4_greatestLack 4 (some .int) :: ([.fieldLink RX4 22 "RainReservoir$Users" "count" "I", .fieldLink RX4 11 "RainReservoir$Users" "rows" "[LRainReservoir$User;", .fieldLink RX4 33 "RainReservoir$User" "demand" "I", .fieldLink RX4 36 "RainReservoir$User" "gotInAll" "I", .methodLink RX4 39 Lib.Math.max.name, .static Lib.Math.max.name, .initialized "java/lang/Math", .code Lib.Math.max.name Lib.Math.max.code 2 (some .int)] ++ wsX40 ++ wsX30)
def wsX5_init_r1 : List Cond := [Cond.methodLink RX5 1 objectInit, Cond.instanceMethod objectInit, Cond.code objectInit ⟨#[0xb1]⟩ 1 none, Cond.classLink RX5 7 RX2, Cond.instantiable RX2 16, Cond.initialized RX2, Cond.fieldLink RX5 10 "RainReservoir" "now" "LRainReservoir$State;", Cond.fieldLink RX5 16 "RainReservoir" "trial" "LRainReservoir$State;", Cond.fieldLink RX5 19 "RainReservoir" "saved" "[LRainReservoir$State;", Cond.classLink RX5 23 RX0, Cond.instantiable RX0 6, Cond.initialized RX0, Cond.fieldLink RX5 26 "RainReservoir" "text" "LRainReservoir$RainText;", Cond.methodLink RX5 9 yX2_init, Cond.instanceMethod yX2_init, Cond.code yX2_init cX2_init 2 none, Cond.methodLink RX2 3 objectInit, Cond.fieldLink RX2 9 "RainReservoir$State" "capacity" "I", Cond.fieldLink RX2 15 "RainReservoir$State" "dryLimit" "I", Cond.classLink RX2 18 RX1, Cond.fieldLink RX2 20 "RainReservoir$State" "roofs" "[LRainReservoir$Roof;", Cond.instantiable RX1 6, Cond.initialized RX1, Cond.classLink RX2 25 RX4]
def wsX5_init_r2 : List Cond := [Cond.instantiable RX4 3, Cond.initialized RX4, Cond.fieldLink RX2 28 "RainReservoir$State" "users" "LRainReservoir$Users;", Cond.arrayClass .int, Cond.fieldLink RX2 32 "RainReservoir$State" "rains" "[I", Cond.fieldLink RX2 36 "RainReservoir$State" "accounts" "[I", Cond.instanceMethod yX1_init, Cond.code yX1_init cX1_init 1 none, Cond.methodLink RX1 1 objectInit, Cond.methodLink RX2 27 yX4_init, Cond.instanceMethod yX4_init, Cond.code yX4_init cX4_init 2 none, Cond.methodLink RX4 3 objectInit, Cond.classLink RX4 9 RX3, Cond.fieldLink RX4 11 "RainReservoir$Users" "rows" "[LRainReservoir$User;", Cond.instantiable RX3 4, Cond.initialized RX3, Cond.fieldLink RX4 18 "RainReservoir$Users" "order" "[I", Cond.instanceMethod yX3_init, Cond.code yX3_init cX3_init 1 none, Cond.methodLink RX3 3 objectInit, Cond.methodLink RX5 25 yX0_init, Cond.instanceMethod yX0_init, Cond.code yX0_init cX0_init 1 none]
def wsX5_init_r3 : List Cond := [Cond.methodLink RX0 3 objectInit, Cond.arrayClass .byte, Cond.fieldLink RX0 9 "RainReservoir$RainText" "bytes" "[B", Cond.fieldLink RX0 15 "RainReservoir$RainText" "found" "[I"]
def wsX5_init : List Cond := .code yX5_init cX5_init 2 none :: ((wsX5_init_r1 ++ (wsX5_init_r2 ++ wsX5_init_r3)) ++ wsX20 ++ wsX50 ++ wsX00 ++ wsX10 ++ wsX40 ++ wsX30)
def wsX5_checkRange : List Cond := .code yX5_checkRange cX5_checkRange 3 none :: ([.classLink RX5 224 "java/lang/IllegalArgumentException", .initialized "java/lang/IllegalArgumentException"] ++ (vx_atS RX5 228 "java/lang/IllegalArgumentException" ["java/lang/RuntimeException", "java/lang/Exception"]).filter goodWord)
def wsX5_save_r1 : List Cond := [Cond.fieldLink RX5 207 "RainReservoir" "savedCount" "I", Cond.fieldLink RX5 19 "RainReservoir" "saved" "[LRainReservoir$State;", Cond.fieldLink RX5 10 "RainReservoir" "now" "LRainReservoir$State;", Cond.methodLink RX5 212 yX2_copyFrom, Cond.instanceMethod yX2_copyFrom, Cond.selects RX2 yX2_copyFrom yX2_copyFrom, Cond.initialized RX2, Cond.code yX2_copyFrom cX2_copyFrom 3 none, Cond.fieldLink RX2 9 "RainReservoir$State" "capacity" "I", Cond.fieldLink RX2 39 "RainReservoir$State" "floor" "I", Cond.fieldLink RX2 42 "RainReservoir$State" "topUp" "I", Cond.fieldLink RX2 45 "RainReservoir$State" "evaporation" "I", Cond.fieldLink RX2 15 "RainReservoir$State" "dryLimit" "I", Cond.fieldLink RX2 48 "RainReservoir$State" "rule" "I", Cond.fieldLink RX2 51 "RainReservoir$State" "roofCount" "I", Cond.fieldLink RX2 20 "RainReservoir$State" "roofs" "[LRainReservoir$Roof;", Cond.fieldLink RX2 28 "RainReservoir$State" "users" "LRainReservoir$Users;", Cond.fieldLink RX2 61 "RainReservoir$State" "rainCount" "I", Cond.fieldLink RX2 32 "RainReservoir$State" "rains" "[I", Cond.methodLink RX2 64 arraycopyName, Cond.native arraycopyName, Cond.static arraycopyName, Cond.initialized "java/lang/System", Cond.fieldLink RX2 70 "RainReservoir$State" "doneCount" "I"]
def wsX5_save_r2 : List Cond := [Cond.fieldLink RX2 36 "RainReservoir$State" "accounts" "[I", Cond.fieldLink RX2 73 "RainReservoir$State" "level" "I", Cond.fieldLink RX2 76 "RainReservoir$State" "dryDays" "I", Cond.fieldLink RX2 79 "RainReservoir$State" "looseOverflow" "J", Cond.methodLink RX2 54 yX1_copyFrom, Cond.instanceMethod yX1_copyFrom, Cond.selects RX1 yX1_copyFrom yX1_copyFrom, Cond.initialized RX1, Cond.code yX1_copyFrom cX1_copyFrom 2 none, Cond.fieldLink RX1 7 "RainReservoir$Roof" "area" "I", Cond.fieldLink RX1 13 "RainReservoir$Roof" "yieldPercent" "I", Cond.fieldLink RX1 16 "RainReservoir$Roof" "flush" "I", Cond.fieldLink RX1 19 "RainReservoir$Roof" "gutter" "I", Cond.fieldLink RX1 29 "RainReservoir$Roof" "water" "I", Cond.fieldLink RX1 32 "RainReservoir$Roof" "spilledInAll" "I", Cond.methodLink RX1 25 yX1_set, Cond.instanceMethod yX1_set, Cond.selects RX1 yX1_set yX1_set, Cond.code yX1_set cX1_set 5 none, Cond.methodLink RX1 22 yX1_clearAmounts, Cond.instanceMethod yX1_clearAmounts, Cond.selects RX1 yX1_clearAmounts yX1_clearAmounts, Cond.code yX1_clearAmounts cX1_clearAmounts 1 none, Cond.methodLink RX2 58 yX4_copyFrom]
def wsX5_save_r3 : List Cond := [Cond.instanceMethod yX4_copyFrom, Cond.selects RX4 yX4_copyFrom yX4_copyFrom, Cond.initialized RX4, Cond.code yX4_copyFrom cX4_copyFrom 3 none, Cond.fieldLink RX4 22 "RainReservoir$Users" "count" "I", Cond.fieldLink RX4 11 "RainReservoir$Users" "rows" "[LRainReservoir$User;", Cond.methodLink RX4 26 yX3_copyFrom, Cond.instanceMethod yX3_copyFrom, Cond.selects RX3 yX3_copyFrom yX3_copyFrom, Cond.initialized RX3, Cond.code yX3_copyFrom cX3_copyFrom 2 none, Cond.fieldLink RX3 9 "RainReservoir$User" "demand" "I", Cond.fieldLink RX3 15 "RainReservoir$User" "weight" "I", Cond.fieldLink RX3 25 "RainReservoir$User" "gotLatest" "I", Cond.fieldLink RX3 28 "RainReservoir$User" "gotInAll" "I", Cond.methodLink RX3 21 yX3_set, Cond.instanceMethod yX3_set, Cond.selects RX3 yX3_set yX3_set, Cond.code yX3_set cX3_set 3 none, Cond.methodLink RX3 18 yX3_clearAmounts, Cond.instanceMethod yX3_clearAmounts, Cond.selects RX3 yX3_clearAmounts yX3_clearAmounts, Cond.code yX3_clearAmounts cX3_clearAmounts 1 none]
def wsX5_save : List Cond := .code yX5_save cX5_save 3 none :: ((wsX5_save_r1 ++ (wsX5_save_r2 ++ wsX5_save_r3)) ++ wsX50 ++ wsX20 ++ wsX10 ++ wsX40 ++ wsX30)
def wsX5_addRoof_r1 : List Cond := [Cond.classLink RX5 39 "java/lang/IllegalStateException", Cond.initialized "java/lang/IllegalStateException", Cond.constant RX5 34 (50000), Cond.fieldLink RX5 10 "RainReservoir" "now" "LRainReservoir$State;", Cond.fieldLink RX5 35 "RainReservoir$State" "roofCount" "I", Cond.fieldLink RX5 49 "RainReservoir$State" "roofs" "[LRainReservoir$Roof;", Cond.methodLink RX5 30 yX5_checkRange, Cond.static yX5_checkRange, Cond.initialized RX5, Cond.code yX5_checkRange cX5_checkRange 3 none, Cond.classLink RX5 224 "java/lang/IllegalArgumentException", Cond.initialized "java/lang/IllegalArgumentException", Cond.methodLink RX5 46 yX5_save, Cond.instanceMethod yX5_save, Cond.selects RX5 yX5_save yX5_save, Cond.code yX5_save cX5_save 3 none, Cond.fieldLink RX5 207 "RainReservoir" "savedCount" "I", Cond.fieldLink RX5 19 "RainReservoir" "saved" "[LRainReservoir$State;", Cond.methodLink RX5 212 yX2_copyFrom, Cond.instanceMethod yX2_copyFrom, Cond.selects RX2 yX2_copyFrom yX2_copyFrom, Cond.initialized RX2, Cond.code yX2_copyFrom cX2_copyFrom 3 none, Cond.fieldLink RX2 9 "RainReservoir$State" "capacity" "I"]
def wsX5_addRoof_r2 : List Cond := [Cond.fieldLink RX2 39 "RainReservoir$State" "floor" "I", Cond.fieldLink RX2 42 "RainReservoir$State" "topUp" "I", Cond.fieldLink RX2 45 "RainReservoir$State" "evaporation" "I", Cond.fieldLink RX2 15 "RainReservoir$State" "dryLimit" "I", Cond.fieldLink RX2 48 "RainReservoir$State" "rule" "I", Cond.fieldLink RX2 51 "RainReservoir$State" "roofCount" "I", Cond.fieldLink RX2 20 "RainReservoir$State" "roofs" "[LRainReservoir$Roof;", Cond.fieldLink RX2 28 "RainReservoir$State" "users" "LRainReservoir$Users;", Cond.fieldLink RX2 61 "RainReservoir$State" "rainCount" "I", Cond.fieldLink RX2 32 "RainReservoir$State" "rains" "[I", Cond.methodLink RX2 64 arraycopyName, Cond.native arraycopyName, Cond.static arraycopyName, Cond.initialized "java/lang/System", Cond.fieldLink RX2 70 "RainReservoir$State" "doneCount" "I", Cond.fieldLink RX2 36 "RainReservoir$State" "accounts" "[I", Cond.fieldLink RX2 73 "RainReservoir$State" "level" "I", Cond.fieldLink RX2 76 "RainReservoir$State" "dryDays" "I", Cond.fieldLink RX2 79 "RainReservoir$State" "looseOverflow" "J", Cond.methodLink RX2 54 yX1_copyFrom, Cond.instanceMethod yX1_copyFrom, Cond.selects RX1 yX1_copyFrom yX1_copyFrom, Cond.initialized RX1, Cond.code yX1_copyFrom cX1_copyFrom 2 none]
def wsX5_addRoof_r3 : List Cond := [Cond.fieldLink RX1 7 "RainReservoir$Roof" "area" "I", Cond.fieldLink RX1 13 "RainReservoir$Roof" "yieldPercent" "I", Cond.fieldLink RX1 16 "RainReservoir$Roof" "flush" "I", Cond.fieldLink RX1 19 "RainReservoir$Roof" "gutter" "I", Cond.fieldLink RX1 29 "RainReservoir$Roof" "water" "I", Cond.fieldLink RX1 32 "RainReservoir$Roof" "spilledInAll" "I", Cond.methodLink RX1 25 yX1_set, Cond.instanceMethod yX1_set, Cond.selects RX1 yX1_set yX1_set, Cond.code yX1_set cX1_set 5 none, Cond.methodLink RX1 22 yX1_clearAmounts, Cond.instanceMethod yX1_clearAmounts, Cond.selects RX1 yX1_clearAmounts yX1_clearAmounts, Cond.code yX1_clearAmounts cX1_clearAmounts 1 none, Cond.methodLink RX2 58 yX4_copyFrom, Cond.instanceMethod yX4_copyFrom, Cond.selects RX4 yX4_copyFrom yX4_copyFrom, Cond.initialized RX4, Cond.code yX4_copyFrom cX4_copyFrom 3 none, Cond.fieldLink RX4 22 "RainReservoir$Users" "count" "I", Cond.fieldLink RX4 11 "RainReservoir$Users" "rows" "[LRainReservoir$User;", Cond.methodLink RX4 26 yX3_copyFrom, Cond.instanceMethod yX3_copyFrom, Cond.selects RX3 yX3_copyFrom yX3_copyFrom]
def wsX5_addRoof_r4 : List Cond := [Cond.initialized RX3, Cond.code yX3_copyFrom cX3_copyFrom 2 none, Cond.fieldLink RX3 9 "RainReservoir$User" "demand" "I", Cond.fieldLink RX3 15 "RainReservoir$User" "weight" "I", Cond.fieldLink RX3 25 "RainReservoir$User" "gotLatest" "I", Cond.fieldLink RX3 28 "RainReservoir$User" "gotInAll" "I", Cond.methodLink RX3 21 yX3_set, Cond.instanceMethod yX3_set, Cond.selects RX3 yX3_set yX3_set, Cond.code yX3_set cX3_set 3 none, Cond.methodLink RX3 18 yX3_clearAmounts, Cond.instanceMethod yX3_clearAmounts, Cond.selects RX3 yX3_clearAmounts yX3_clearAmounts, Cond.code yX3_clearAmounts cX3_clearAmounts 1 none, Cond.methodLink RX5 53 yX1_set]
def wsX5_addRoof : List Cond := .code yX5_addRoof cX5_addRoof 5 (some .int) :: ((wsX5_addRoof_r1 ++ (wsX5_addRoof_r2 ++ (wsX5_addRoof_r3 ++ wsX5_addRoof_r4))) ++ wsX50 ++ wsX20 ++ wsX10 ++ wsX40 ++ wsX30 ++ (vx_atS RX5 43 "java/lang/IllegalStateException" ["java/lang/RuntimeException", "java/lang/Exception"]).filter goodWord ++ (vx_atS RX5 228 "java/lang/IllegalArgumentException" ["java/lang/RuntimeException", "java/lang/Exception"]).filter goodWord)
def wsX5_addUser_r1 : List Cond := [Cond.classLink RX5 39 "java/lang/IllegalStateException", Cond.initialized "java/lang/IllegalStateException", Cond.fieldLink RX5 10 "RainReservoir" "now" "LRainReservoir$State;", Cond.fieldLink RX5 59 "RainReservoir$State" "users" "LRainReservoir$Users;", Cond.fieldLink RX5 63 "RainReservoir$Users" "count" "I", Cond.fieldLink RX5 70 "RainReservoir$Users" "rows" "[LRainReservoir$User;", Cond.methodLink RX5 30 yX5_checkRange, Cond.static yX5_checkRange, Cond.initialized RX5, Cond.code yX5_checkRange cX5_checkRange 3 none, Cond.classLink RX5 224 "java/lang/IllegalArgumentException", Cond.initialized "java/lang/IllegalArgumentException", Cond.methodLink RX5 46 yX5_save, Cond.instanceMethod yX5_save, Cond.selects RX5 yX5_save yX5_save, Cond.code yX5_save cX5_save 3 none, Cond.fieldLink RX5 207 "RainReservoir" "savedCount" "I", Cond.fieldLink RX5 19 "RainReservoir" "saved" "[LRainReservoir$State;", Cond.methodLink RX5 212 yX2_copyFrom, Cond.instanceMethod yX2_copyFrom, Cond.selects RX2 yX2_copyFrom yX2_copyFrom, Cond.initialized RX2, Cond.code yX2_copyFrom cX2_copyFrom 3 none, Cond.fieldLink RX2 9 "RainReservoir$State" "capacity" "I"]
def wsX5_addUser_r2 : List Cond := [Cond.fieldLink RX2 39 "RainReservoir$State" "floor" "I", Cond.fieldLink RX2 42 "RainReservoir$State" "topUp" "I", Cond.fieldLink RX2 45 "RainReservoir$State" "evaporation" "I", Cond.fieldLink RX2 15 "RainReservoir$State" "dryLimit" "I", Cond.fieldLink RX2 48 "RainReservoir$State" "rule" "I", Cond.fieldLink RX2 51 "RainReservoir$State" "roofCount" "I", Cond.fieldLink RX2 20 "RainReservoir$State" "roofs" "[LRainReservoir$Roof;", Cond.fieldLink RX2 28 "RainReservoir$State" "users" "LRainReservoir$Users;", Cond.fieldLink RX2 61 "RainReservoir$State" "rainCount" "I", Cond.fieldLink RX2 32 "RainReservoir$State" "rains" "[I", Cond.methodLink RX2 64 arraycopyName, Cond.native arraycopyName, Cond.static arraycopyName, Cond.initialized "java/lang/System", Cond.fieldLink RX2 70 "RainReservoir$State" "doneCount" "I", Cond.fieldLink RX2 36 "RainReservoir$State" "accounts" "[I", Cond.fieldLink RX2 73 "RainReservoir$State" "level" "I", Cond.fieldLink RX2 76 "RainReservoir$State" "dryDays" "I", Cond.fieldLink RX2 79 "RainReservoir$State" "looseOverflow" "J", Cond.methodLink RX2 54 yX1_copyFrom, Cond.instanceMethod yX1_copyFrom, Cond.selects RX1 yX1_copyFrom yX1_copyFrom, Cond.initialized RX1, Cond.code yX1_copyFrom cX1_copyFrom 2 none]
def wsX5_addUser_r3 : List Cond := [Cond.fieldLink RX1 7 "RainReservoir$Roof" "area" "I", Cond.fieldLink RX1 13 "RainReservoir$Roof" "yieldPercent" "I", Cond.fieldLink RX1 16 "RainReservoir$Roof" "flush" "I", Cond.fieldLink RX1 19 "RainReservoir$Roof" "gutter" "I", Cond.fieldLink RX1 29 "RainReservoir$Roof" "water" "I", Cond.fieldLink RX1 32 "RainReservoir$Roof" "spilledInAll" "I", Cond.methodLink RX1 25 yX1_set, Cond.instanceMethod yX1_set, Cond.selects RX1 yX1_set yX1_set, Cond.code yX1_set cX1_set 5 none, Cond.methodLink RX1 22 yX1_clearAmounts, Cond.instanceMethod yX1_clearAmounts, Cond.selects RX1 yX1_clearAmounts yX1_clearAmounts, Cond.code yX1_clearAmounts cX1_clearAmounts 1 none, Cond.methodLink RX2 58 yX4_copyFrom, Cond.instanceMethod yX4_copyFrom, Cond.selects RX4 yX4_copyFrom yX4_copyFrom, Cond.initialized RX4, Cond.code yX4_copyFrom cX4_copyFrom 3 none, Cond.fieldLink RX4 22 "RainReservoir$Users" "count" "I", Cond.fieldLink RX4 11 "RainReservoir$Users" "rows" "[LRainReservoir$User;", Cond.methodLink RX4 26 yX3_copyFrom, Cond.instanceMethod yX3_copyFrom, Cond.selects RX3 yX3_copyFrom yX3_copyFrom]
def wsX5_addUser_r4 : List Cond := [Cond.initialized RX3, Cond.code yX3_copyFrom cX3_copyFrom 2 none, Cond.fieldLink RX3 9 "RainReservoir$User" "demand" "I", Cond.fieldLink RX3 15 "RainReservoir$User" "weight" "I", Cond.fieldLink RX3 25 "RainReservoir$User" "gotLatest" "I", Cond.fieldLink RX3 28 "RainReservoir$User" "gotInAll" "I", Cond.methodLink RX3 21 yX3_set, Cond.instanceMethod yX3_set, Cond.selects RX3 yX3_set yX3_set, Cond.code yX3_set cX3_set 3 none, Cond.methodLink RX3 18 yX3_clearAmounts, Cond.instanceMethod yX3_clearAmounts, Cond.selects RX3 yX3_clearAmounts yX3_clearAmounts, Cond.code yX3_clearAmounts cX3_clearAmounts 1 none, Cond.methodLink RX5 74 yX3_set]
def wsX5_addUser : List Cond := .code yX5_addUser cX5_addUser 3 (some .int) :: ((wsX5_addUser_r1 ++ (wsX5_addUser_r2 ++ (wsX5_addUser_r3 ++ wsX5_addUser_r4))) ++ wsX50 ++ wsX20 ++ wsX40 ++ wsX10 ++ wsX30 ++ (vx_atS RX5 43 "java/lang/IllegalStateException" ["java/lang/RuntimeException", "java/lang/Exception"]).filter goodWord ++ (vx_atS RX5 228 "java/lang/IllegalArgumentException" ["java/lang/RuntimeException", "java/lang/Exception"]).filter goodWord)
def wsX5_checkIndex : List Cond := .code yX5_checkIndex cX5_checkIndex 2 none :: ([.classLink RX5 229 "java/lang/IndexOutOfBoundsException", .initialized "java/lang/IndexOutOfBoundsException"] ++ (vx_atS RX5 233 "java/lang/IndexOutOfBoundsException" ["java/lang/RuntimeException", "java/lang/Exception"]).filter goodWord)
def wsX5_setDemand_r1 : List Cond := [Cond.fieldLink RX5 10 "RainReservoir" "now" "LRainReservoir$State;", Cond.fieldLink RX5 59 "RainReservoir$State" "users" "LRainReservoir$Users;", Cond.fieldLink RX5 63 "RainReservoir$Users" "count" "I", Cond.fieldLink RX5 70 "RainReservoir$Users" "rows" "[LRainReservoir$User;", Cond.fieldLink RX5 82 "RainReservoir$User" "demand" "I", Cond.methodLink RX5 79 yX5_checkIndex, Cond.static yX5_checkIndex, Cond.initialized RX5, Cond.code yX5_checkIndex cX5_checkIndex 2 none, Cond.classLink RX5 229 "java/lang/IndexOutOfBoundsException", Cond.initialized "java/lang/IndexOutOfBoundsException", Cond.methodLink RX5 30 yX5_checkRange, Cond.static yX5_checkRange, Cond.code yX5_checkRange cX5_checkRange 3 none, Cond.classLink RX5 224 "java/lang/IllegalArgumentException", Cond.initialized "java/lang/IllegalArgumentException", Cond.methodLink RX5 46 yX5_save, Cond.instanceMethod yX5_save, Cond.selects RX5 yX5_save yX5_save, Cond.code yX5_save cX5_save 3 none, Cond.fieldLink RX5 207 "RainReservoir" "savedCount" "I", Cond.fieldLink RX5 19 "RainReservoir" "saved" "[LRainReservoir$State;", Cond.methodLink RX5 212 yX2_copyFrom, Cond.instanceMethod yX2_copyFrom]
def wsX5_setDemand_r2 : List Cond := [Cond.selects RX2 yX2_copyFrom yX2_copyFrom, Cond.initialized RX2, Cond.code yX2_copyFrom cX2_copyFrom 3 none, Cond.fieldLink RX2 9 "RainReservoir$State" "capacity" "I", Cond.fieldLink RX2 39 "RainReservoir$State" "floor" "I", Cond.fieldLink RX2 42 "RainReservoir$State" "topUp" "I", Cond.fieldLink RX2 45 "RainReservoir$State" "evaporation" "I", Cond.fieldLink RX2 15 "RainReservoir$State" "dryLimit" "I", Cond.fieldLink RX2 48 "RainReservoir$State" "rule" "I", Cond.fieldLink RX2 51 "RainReservoir$State" "roofCount" "I", Cond.fieldLink RX2 20 "RainReservoir$State" "roofs" "[LRainReservoir$Roof;", Cond.fieldLink RX2 28 "RainReservoir$State" "users" "LRainReservoir$Users;", Cond.fieldLink RX2 61 "RainReservoir$State" "rainCount" "I", Cond.fieldLink RX2 32 "RainReservoir$State" "rains" "[I", Cond.methodLink RX2 64 arraycopyName, Cond.native arraycopyName, Cond.static arraycopyName, Cond.initialized "java/lang/System", Cond.fieldLink RX2 70 "RainReservoir$State" "doneCount" "I", Cond.fieldLink RX2 36 "RainReservoir$State" "accounts" "[I", Cond.fieldLink RX2 73 "RainReservoir$State" "level" "I", Cond.fieldLink RX2 76 "RainReservoir$State" "dryDays" "I", Cond.fieldLink RX2 79 "RainReservoir$State" "looseOverflow" "J", Cond.methodLink RX2 54 yX1_copyFrom]
def wsX5_setDemand_r3 : List Cond := [Cond.instanceMethod yX1_copyFrom, Cond.selects RX1 yX1_copyFrom yX1_copyFrom, Cond.initialized RX1, Cond.code yX1_copyFrom cX1_copyFrom 2 none, Cond.fieldLink RX1 7 "RainReservoir$Roof" "area" "I", Cond.fieldLink RX1 13 "RainReservoir$Roof" "yieldPercent" "I", Cond.fieldLink RX1 16 "RainReservoir$Roof" "flush" "I", Cond.fieldLink RX1 19 "RainReservoir$Roof" "gutter" "I", Cond.fieldLink RX1 29 "RainReservoir$Roof" "water" "I", Cond.fieldLink RX1 32 "RainReservoir$Roof" "spilledInAll" "I", Cond.methodLink RX1 25 yX1_set, Cond.instanceMethod yX1_set, Cond.selects RX1 yX1_set yX1_set, Cond.code yX1_set cX1_set 5 none, Cond.methodLink RX1 22 yX1_clearAmounts, Cond.instanceMethod yX1_clearAmounts, Cond.selects RX1 yX1_clearAmounts yX1_clearAmounts, Cond.code yX1_clearAmounts cX1_clearAmounts 1 none, Cond.methodLink RX2 58 yX4_copyFrom, Cond.instanceMethod yX4_copyFrom, Cond.selects RX4 yX4_copyFrom yX4_copyFrom, Cond.initialized RX4, Cond.code yX4_copyFrom cX4_copyFrom 3 none, Cond.fieldLink RX4 22 "RainReservoir$Users" "count" "I"]
def wsX5_setDemand_r4 : List Cond := [Cond.fieldLink RX4 11 "RainReservoir$Users" "rows" "[LRainReservoir$User;", Cond.methodLink RX4 26 yX3_copyFrom, Cond.instanceMethod yX3_copyFrom, Cond.selects RX3 yX3_copyFrom yX3_copyFrom, Cond.initialized RX3, Cond.code yX3_copyFrom cX3_copyFrom 2 none, Cond.fieldLink RX3 9 "RainReservoir$User" "demand" "I", Cond.fieldLink RX3 15 "RainReservoir$User" "weight" "I", Cond.fieldLink RX3 25 "RainReservoir$User" "gotLatest" "I", Cond.fieldLink RX3 28 "RainReservoir$User" "gotInAll" "I", Cond.methodLink RX3 21 yX3_set, Cond.instanceMethod yX3_set, Cond.selects RX3 yX3_set yX3_set, Cond.code yX3_set cX3_set 3 none, Cond.methodLink RX3 18 yX3_clearAmounts, Cond.instanceMethod yX3_clearAmounts, Cond.selects RX3 yX3_clearAmounts yX3_clearAmounts, Cond.code yX3_clearAmounts cX3_clearAmounts 1 none]
def wsX5_setDemand : List Cond := .code yX5_setDemand cX5_setDemand 5 (some .int) :: ((wsX5_setDemand_r1 ++ (wsX5_setDemand_r2 ++ (wsX5_setDemand_r3 ++ wsX5_setDemand_r4))) ++ wsX50 ++ wsX20 ++ wsX40 ++ wsX30 ++ wsX10 ++ (vx_atS RX5 233 "java/lang/IndexOutOfBoundsException" ["java/lang/RuntimeException", "java/lang/Exception"]).filter goodWord ++ (vx_atS RX5 228 "java/lang/IllegalArgumentException" ["java/lang/RuntimeException", "java/lang/Exception"]).filter goodWord)
def wsX5_setReservoir_r1 : List Cond := [Cond.constant RX5 85 (60000), Cond.fieldLink RX5 10 "RainReservoir" "now" "LRainReservoir$State;", Cond.fieldLink RX5 86 "RainReservoir$State" "capacity" "I", Cond.fieldLink RX5 89 "RainReservoir$State" "floor" "I", Cond.fieldLink RX5 92 "RainReservoir$State" "topUp" "I", Cond.fieldLink RX5 95 "RainReservoir$State" "looseOverflow" "J", Cond.methodLink RX5 30 yX5_checkRange, Cond.static yX5_checkRange, Cond.initialized RX5, Cond.code yX5_checkRange cX5_checkRange 3 none, Cond.classLink RX5 224 "java/lang/IllegalArgumentException", Cond.initialized "java/lang/IllegalArgumentException", Cond.methodLink RX5 46 yX5_save, Cond.instanceMethod yX5_save, Cond.selects RX5 yX5_save yX5_save, Cond.code yX5_save cX5_save 3 none, Cond.fieldLink RX5 207 "RainReservoir" "savedCount" "I", Cond.fieldLink RX5 19 "RainReservoir" "saved" "[LRainReservoir$State;", Cond.methodLink RX5 212 yX2_copyFrom, Cond.instanceMethod yX2_copyFrom, Cond.selects RX2 yX2_copyFrom yX2_copyFrom, Cond.initialized RX2, Cond.code yX2_copyFrom cX2_copyFrom 3 none, Cond.fieldLink RX2 9 "RainReservoir$State" "capacity" "I"]
def wsX5_setReservoir_r2 : List Cond := [Cond.fieldLink RX2 39 "RainReservoir$State" "floor" "I", Cond.fieldLink RX2 42 "RainReservoir$State" "topUp" "I", Cond.fieldLink RX2 45 "RainReservoir$State" "evaporation" "I", Cond.fieldLink RX2 15 "RainReservoir$State" "dryLimit" "I", Cond.fieldLink RX2 48 "RainReservoir$State" "rule" "I", Cond.fieldLink RX2 51 "RainReservoir$State" "roofCount" "I", Cond.fieldLink RX2 20 "RainReservoir$State" "roofs" "[LRainReservoir$Roof;", Cond.fieldLink RX2 28 "RainReservoir$State" "users" "LRainReservoir$Users;", Cond.fieldLink RX2 61 "RainReservoir$State" "rainCount" "I", Cond.fieldLink RX2 32 "RainReservoir$State" "rains" "[I", Cond.methodLink RX2 64 arraycopyName, Cond.native arraycopyName, Cond.static arraycopyName, Cond.initialized "java/lang/System", Cond.fieldLink RX2 70 "RainReservoir$State" "doneCount" "I", Cond.fieldLink RX2 36 "RainReservoir$State" "accounts" "[I", Cond.fieldLink RX2 73 "RainReservoir$State" "level" "I", Cond.fieldLink RX2 76 "RainReservoir$State" "dryDays" "I", Cond.fieldLink RX2 79 "RainReservoir$State" "looseOverflow" "J", Cond.methodLink RX2 54 yX1_copyFrom, Cond.instanceMethod yX1_copyFrom, Cond.selects RX1 yX1_copyFrom yX1_copyFrom, Cond.initialized RX1, Cond.code yX1_copyFrom cX1_copyFrom 2 none]
def wsX5_setReservoir_r3 : List Cond := [Cond.fieldLink RX1 7 "RainReservoir$Roof" "area" "I", Cond.fieldLink RX1 13 "RainReservoir$Roof" "yieldPercent" "I", Cond.fieldLink RX1 16 "RainReservoir$Roof" "flush" "I", Cond.fieldLink RX1 19 "RainReservoir$Roof" "gutter" "I", Cond.fieldLink RX1 29 "RainReservoir$Roof" "water" "I", Cond.fieldLink RX1 32 "RainReservoir$Roof" "spilledInAll" "I", Cond.methodLink RX1 25 yX1_set, Cond.instanceMethod yX1_set, Cond.selects RX1 yX1_set yX1_set, Cond.code yX1_set cX1_set 5 none, Cond.methodLink RX1 22 yX1_clearAmounts, Cond.instanceMethod yX1_clearAmounts, Cond.selects RX1 yX1_clearAmounts yX1_clearAmounts, Cond.code yX1_clearAmounts cX1_clearAmounts 1 none, Cond.methodLink RX2 58 yX4_copyFrom, Cond.instanceMethod yX4_copyFrom, Cond.selects RX4 yX4_copyFrom yX4_copyFrom, Cond.initialized RX4, Cond.code yX4_copyFrom cX4_copyFrom 3 none, Cond.fieldLink RX4 22 "RainReservoir$Users" "count" "I", Cond.fieldLink RX4 11 "RainReservoir$Users" "rows" "[LRainReservoir$User;", Cond.methodLink RX4 26 yX3_copyFrom, Cond.instanceMethod yX3_copyFrom, Cond.selects RX3 yX3_copyFrom yX3_copyFrom]
def wsX5_setReservoir_r4 : List Cond := [Cond.initialized RX3, Cond.code yX3_copyFrom cX3_copyFrom 2 none, Cond.fieldLink RX3 9 "RainReservoir$User" "demand" "I", Cond.fieldLink RX3 15 "RainReservoir$User" "weight" "I", Cond.fieldLink RX3 25 "RainReservoir$User" "gotLatest" "I", Cond.fieldLink RX3 28 "RainReservoir$User" "gotInAll" "I", Cond.methodLink RX3 21 yX3_set, Cond.instanceMethod yX3_set, Cond.selects RX3 yX3_set yX3_set, Cond.code yX3_set cX3_set 3 none, Cond.methodLink RX3 18 yX3_clearAmounts, Cond.instanceMethod yX3_clearAmounts, Cond.selects RX3 yX3_clearAmounts yX3_clearAmounts, Cond.code yX3_clearAmounts cX3_clearAmounts 1 none, Cond.methodLink RX5 99 yX2_dropAboveCapacity, Cond.instanceMethod yX2_dropAboveCapacity, Cond.selects RX2 yX2_dropAboveCapacity yX2_dropAboveCapacity, Cond.code yX2_dropAboveCapacity cX2_dropAboveCapacity 2 (some .int), Cond.methodLink RX2 94 Lib.Math.max.name, Cond.static Lib.Math.max.name, Cond.initialized "java/lang/Math", Cond.code Lib.Math.max.name Lib.Math.max.code 2 (some .int)]
def wsX5_setReservoir : List Cond := .code yX5_setReservoir cX5_setReservoir 5 (some .int) :: ((wsX5_setReservoir_r1 ++ (wsX5_setReservoir_r2 ++ (wsX5_setReservoir_r3 ++ wsX5_setReservoir_r4))) ++ wsX50 ++ wsX20 ++ wsX10 ++ wsX40 ++ wsX30 ++ (vx_atS RX5 228 "java/lang/IllegalArgumentException" ["java/lang/RuntimeException", "java/lang/Exception"]).filter goodWord)
def wsX5_setWays_r1 : List Cond := [Cond.fieldLink RX5 10 "RainReservoir" "now" "LRainReservoir$State;", Cond.fieldLink RX5 103 "RainReservoir$State" "rule" "I", Cond.fieldLink RX5 106 "RainReservoir$State" "evaporation" "I", Cond.fieldLink RX5 109 "RainReservoir$State" "dryLimit" "I", Cond.methodLink RX5 30 yX5_checkRange, Cond.static yX5_checkRange, Cond.initialized RX5, Cond.code yX5_checkRange cX5_checkRange 3 none, Cond.classLink RX5 224 "java/lang/IllegalArgumentException", Cond.initialized "java/lang/IllegalArgumentException", Cond.methodLink RX5 46 yX5_save, Cond.instanceMethod yX5_save, Cond.selects RX5 yX5_save yX5_save, Cond.code yX5_save cX5_save 3 none, Cond.fieldLink RX5 207 "RainReservoir" "savedCount" "I", Cond.fieldLink RX5 19 "RainReservoir" "saved" "[LRainReservoir$State;", Cond.methodLink RX5 212 yX2_copyFrom, Cond.instanceMethod yX2_copyFrom, Cond.selects RX2 yX2_copyFrom yX2_copyFrom, Cond.initialized RX2, Cond.code yX2_copyFrom cX2_copyFrom 3 none, Cond.fieldLink RX2 9 "RainReservoir$State" "capacity" "I", Cond.fieldLink RX2 39 "RainReservoir$State" "floor" "I", Cond.fieldLink RX2 42 "RainReservoir$State" "topUp" "I"]
def wsX5_setWays_r2 : List Cond := [Cond.fieldLink RX2 45 "RainReservoir$State" "evaporation" "I", Cond.fieldLink RX2 15 "RainReservoir$State" "dryLimit" "I", Cond.fieldLink RX2 48 "RainReservoir$State" "rule" "I", Cond.fieldLink RX2 51 "RainReservoir$State" "roofCount" "I", Cond.fieldLink RX2 20 "RainReservoir$State" "roofs" "[LRainReservoir$Roof;", Cond.fieldLink RX2 28 "RainReservoir$State" "users" "LRainReservoir$Users;", Cond.fieldLink RX2 61 "RainReservoir$State" "rainCount" "I", Cond.fieldLink RX2 32 "RainReservoir$State" "rains" "[I", Cond.methodLink RX2 64 arraycopyName, Cond.native arraycopyName, Cond.static arraycopyName, Cond.initialized "java/lang/System", Cond.fieldLink RX2 70 "RainReservoir$State" "doneCount" "I", Cond.fieldLink RX2 36 "RainReservoir$State" "accounts" "[I", Cond.fieldLink RX2 73 "RainReservoir$State" "level" "I", Cond.fieldLink RX2 76 "RainReservoir$State" "dryDays" "I", Cond.fieldLink RX2 79 "RainReservoir$State" "looseOverflow" "J", Cond.methodLink RX2 54 yX1_copyFrom, Cond.instanceMethod yX1_copyFrom, Cond.selects RX1 yX1_copyFrom yX1_copyFrom, Cond.initialized RX1, Cond.code yX1_copyFrom cX1_copyFrom 2 none, Cond.fieldLink RX1 7 "RainReservoir$Roof" "area" "I", Cond.fieldLink RX1 13 "RainReservoir$Roof" "yieldPercent" "I"]
def wsX5_setWays_r3 : List Cond := [Cond.fieldLink RX1 16 "RainReservoir$Roof" "flush" "I", Cond.fieldLink RX1 19 "RainReservoir$Roof" "gutter" "I", Cond.fieldLink RX1 29 "RainReservoir$Roof" "water" "I", Cond.fieldLink RX1 32 "RainReservoir$Roof" "spilledInAll" "I", Cond.methodLink RX1 25 yX1_set, Cond.instanceMethod yX1_set, Cond.selects RX1 yX1_set yX1_set, Cond.code yX1_set cX1_set 5 none, Cond.methodLink RX1 22 yX1_clearAmounts, Cond.instanceMethod yX1_clearAmounts, Cond.selects RX1 yX1_clearAmounts yX1_clearAmounts, Cond.code yX1_clearAmounts cX1_clearAmounts 1 none, Cond.methodLink RX2 58 yX4_copyFrom, Cond.instanceMethod yX4_copyFrom, Cond.selects RX4 yX4_copyFrom yX4_copyFrom, Cond.initialized RX4, Cond.code yX4_copyFrom cX4_copyFrom 3 none, Cond.fieldLink RX4 22 "RainReservoir$Users" "count" "I", Cond.fieldLink RX4 11 "RainReservoir$Users" "rows" "[LRainReservoir$User;", Cond.methodLink RX4 26 yX3_copyFrom, Cond.instanceMethod yX3_copyFrom, Cond.selects RX3 yX3_copyFrom yX3_copyFrom, Cond.initialized RX3, Cond.code yX3_copyFrom cX3_copyFrom 2 none]
def wsX5_setWays_r4 : List Cond := [Cond.fieldLink RX3 9 "RainReservoir$User" "demand" "I", Cond.fieldLink RX3 15 "RainReservoir$User" "weight" "I", Cond.fieldLink RX3 25 "RainReservoir$User" "gotLatest" "I", Cond.fieldLink RX3 28 "RainReservoir$User" "gotInAll" "I", Cond.methodLink RX3 21 yX3_set, Cond.instanceMethod yX3_set, Cond.selects RX3 yX3_set yX3_set, Cond.code yX3_set cX3_set 3 none, Cond.methodLink RX3 18 yX3_clearAmounts, Cond.instanceMethod yX3_clearAmounts, Cond.selects RX3 yX3_clearAmounts yX3_clearAmounts, Cond.code yX3_clearAmounts cX3_clearAmounts 1 none]
def wsX5_setWays : List Cond := .code yX5_setWays cX5_setWays 5 (some .int) :: ((wsX5_setWays_r1 ++ (wsX5_setWays_r2 ++ (wsX5_setWays_r3 ++ wsX5_setWays_r4))) ++ wsX50 ++ wsX20 ++ wsX10 ++ wsX40 ++ wsX30 ++ (vx_atS RX5 228 "java/lang/IllegalArgumentException" ["java/lang/RuntimeException", "java/lang/Exception"]).filter goodWord)
def wsX5_setting_r1 : List Cond := [Cond.fieldLink RX5 10 "RainReservoir" "now" "LRainReservoir$State;", Cond.methodLink RX5 30 yX5_checkRange, Cond.static yX5_checkRange, Cond.initialized RX5, Cond.code yX5_checkRange cX5_checkRange 3 none, Cond.classLink RX5 224 "java/lang/IllegalArgumentException", Cond.initialized "java/lang/IllegalArgumentException", Cond.methodLink RX5 112 yX2_settingValue, Cond.instanceMethod yX2_settingValue, Cond.selects RX2 yX2_settingValue yX2_settingValue, Cond.initialized RX2, Cond.code yX2_settingValue cX2_settingValue 2 (some .int), Cond.fieldLink RX2 9 "RainReservoir$State" "capacity" "I", Cond.fieldLink RX2 39 "RainReservoir$State" "floor" "I", Cond.fieldLink RX2 42 "RainReservoir$State" "topUp" "I", Cond.fieldLink RX2 45 "RainReservoir$State" "evaporation" "I", Cond.fieldLink RX2 15 "RainReservoir$State" "dryLimit" "I", Cond.fieldLink RX2 48 "RainReservoir$State" "rule" "I", Cond.fieldLink RX2 51 "RainReservoir$State" "roofCount" "I", Cond.fieldLink RX2 28 "RainReservoir$State" "users" "LRainReservoir$Users;", Cond.fieldLink RX2 87 "RainReservoir$Users" "count" "I", Cond.fieldLink RX2 61 "RainReservoir$State" "rainCount" "I", Cond.fieldLink RX2 70 "RainReservoir$State" "doneCount" "I", Cond.fieldLink RX2 73 "RainReservoir$State" "level" "I"]
def wsX5_setting_r2 : List Cond := [Cond.fieldLink RX2 76 "RainReservoir$State" "dryDays" "I"]
def wsX5_setting : List Cond := .code yX5_setting cX5_setting 2 (some .int) :: ((wsX5_setting_r1 ++ wsX5_setting_r2) ++ wsX50 ++ wsX20 ++ wsX40 ++ (vx_atS RX5 228 "java/lang/IllegalArgumentException" ["java/lang/RuntimeException", "java/lang/Exception"]).filter goodWord)
def wsX5_roof : List Cond := .code yX5_roof cX5_roof 3 (some .int) :: ([.fieldLink RX5 10 "RainReservoir" "now" "LRainReservoir$State;", .fieldLink RX5 35 "RainReservoir$State" "roofCount" "I", .fieldLink RX5 49 "RainReservoir$State" "roofs" "[LRainReservoir$Roof;", .methodLink RX5 79 yX5_checkIndex, .static yX5_checkIndex, .initialized RX5, .code yX5_checkIndex cX5_checkIndex 2 none, .classLink RX5 229 "java/lang/IndexOutOfBoundsException", .initialized "java/lang/IndexOutOfBoundsException", .methodLink RX5 30 yX5_checkRange, .static yX5_checkRange, .code yX5_checkRange cX5_checkRange 3 none, .classLink RX5 224 "java/lang/IllegalArgumentException", .initialized "java/lang/IllegalArgumentException", .methodLink RX5 116 yX1_value, .instanceMethod yX1_value, .selects RX1 yX1_value yX1_value, .initialized RX1, .code yX1_value cX1_value 2 (some .int), .fieldLink RX1 7 "RainReservoir$Roof" "area" "I", .fieldLink RX1 13 "RainReservoir$Roof" "yieldPercent" "I", .fieldLink RX1 16 "RainReservoir$Roof" "flush" "I", .fieldLink RX1 19 "RainReservoir$Roof" "gutter" "I", .fieldLink RX1 29 "RainReservoir$Roof" "water" "I"] ++ wsX50 ++ wsX20 ++ wsX10 ++ (vx_atS RX5 233 "java/lang/IndexOutOfBoundsException" ["java/lang/RuntimeException", "java/lang/Exception"]).filter goodWord ++ (vx_atS RX5 228 "java/lang/IllegalArgumentException" ["java/lang/RuntimeException", "java/lang/Exception"]).filter goodWord)
def wsX5_user : List Cond := .code yX5_user cX5_user 3 (some .int) :: ([.fieldLink RX5 10 "RainReservoir" "now" "LRainReservoir$State;", .fieldLink RX5 59 "RainReservoir$State" "users" "LRainReservoir$Users;", .fieldLink RX5 63 "RainReservoir$Users" "count" "I", .fieldLink RX5 70 "RainReservoir$Users" "rows" "[LRainReservoir$User;", .methodLink RX5 79 yX5_checkIndex, .static yX5_checkIndex, .initialized RX5, .code yX5_checkIndex cX5_checkIndex 2 none, .classLink RX5 229 "java/lang/IndexOutOfBoundsException", .initialized "java/lang/IndexOutOfBoundsException", .methodLink RX5 30 yX5_checkRange, .static yX5_checkRange, .code yX5_checkRange cX5_checkRange 3 none, .classLink RX5 224 "java/lang/IllegalArgumentException", .initialized "java/lang/IllegalArgumentException", .methodLink RX5 119 yX3_value, .instanceMethod yX3_value, .selects RX3 yX3_value yX3_value, .initialized RX3, .code yX3_value cX3_value 2 (some .int), .fieldLink RX3 9 "RainReservoir$User" "demand" "I", .fieldLink RX3 15 "RainReservoir$User" "weight" "I", .fieldLink RX3 25 "RainReservoir$User" "gotLatest" "I", .fieldLink RX3 28 "RainReservoir$User" "gotInAll" "I"] ++ wsX50 ++ wsX20 ++ wsX40 ++ wsX30 ++ (vx_atS RX5 233 "java/lang/IndexOutOfBoundsException" ["java/lang/RuntimeException", "java/lang/Exception"]).filter goodWord ++ (vx_atS RX5 228 "java/lang/IllegalArgumentException" ["java/lang/RuntimeException", "java/lang/Exception"]).filter goodWord)
def wsX5_checkRoomForDays : List Cond := .code yX5_checkRoomForDays cX5_checkRoomForDays 2 none :: ([.classLink RX5 39 "java/lang/IllegalStateException", .initialized "java/lang/IllegalStateException", .fieldLink RX5 10 "RainReservoir" "now" "LRainReservoir$State;", .fieldLink RX5 127 "RainReservoir$State" "rainCount" "I"] ++ wsX50 ++ wsX20 ++ (vx_atS RX5 43 "java/lang/IllegalStateException" ["java/lang/RuntimeException", "java/lang/Exception"]).filter goodWord)
def wsX5_addRain_r1 : List Cond := [Cond.fieldLink RX5 10 "RainReservoir" "now" "LRainReservoir$State;", Cond.fieldLink RX5 127 "RainReservoir$State" "rainCount" "I", Cond.methodLink RX5 30 yX5_checkRange, Cond.static yX5_checkRange, Cond.initialized RX5, Cond.code yX5_checkRange cX5_checkRange 3 none, Cond.classLink RX5 224 "java/lang/IllegalArgumentException", Cond.initialized "java/lang/IllegalArgumentException", Cond.methodLink RX5 120 yX5_checkRoomForDays, Cond.instanceMethod yX5_checkRoomForDays, Cond.selects RX5 yX5_checkRoomForDays yX5_checkRoomForDays, Cond.code yX5_checkRoomForDays cX5_checkRoomForDays 2 none, Cond.classLink RX5 39 "java/lang/IllegalStateException", Cond.initialized "java/lang/IllegalStateException", Cond.methodLink RX5 46 yX5_save, Cond.instanceMethod yX5_save, Cond.selects RX5 yX5_save yX5_save, Cond.code yX5_save cX5_save 3 none, Cond.fieldLink RX5 207 "RainReservoir" "savedCount" "I", Cond.fieldLink RX5 19 "RainReservoir" "saved" "[LRainReservoir$State;", Cond.methodLink RX5 212 yX2_copyFrom, Cond.instanceMethod yX2_copyFrom, Cond.selects RX2 yX2_copyFrom yX2_copyFrom, Cond.initialized RX2]
def wsX5_addRain_r2 : List Cond := [Cond.code yX2_copyFrom cX2_copyFrom 3 none, Cond.fieldLink RX2 9 "RainReservoir$State" "capacity" "I", Cond.fieldLink RX2 39 "RainReservoir$State" "floor" "I", Cond.fieldLink RX2 42 "RainReservoir$State" "topUp" "I", Cond.fieldLink RX2 45 "RainReservoir$State" "evaporation" "I", Cond.fieldLink RX2 15 "RainReservoir$State" "dryLimit" "I", Cond.fieldLink RX2 48 "RainReservoir$State" "rule" "I", Cond.fieldLink RX2 51 "RainReservoir$State" "roofCount" "I", Cond.fieldLink RX2 20 "RainReservoir$State" "roofs" "[LRainReservoir$Roof;", Cond.fieldLink RX2 28 "RainReservoir$State" "users" "LRainReservoir$Users;", Cond.fieldLink RX2 61 "RainReservoir$State" "rainCount" "I", Cond.fieldLink RX2 32 "RainReservoir$State" "rains" "[I", Cond.methodLink RX2 64 arraycopyName, Cond.native arraycopyName, Cond.static arraycopyName, Cond.initialized "java/lang/System", Cond.fieldLink RX2 70 "RainReservoir$State" "doneCount" "I", Cond.fieldLink RX2 36 "RainReservoir$State" "accounts" "[I", Cond.fieldLink RX2 73 "RainReservoir$State" "level" "I", Cond.fieldLink RX2 76 "RainReservoir$State" "dryDays" "I", Cond.fieldLink RX2 79 "RainReservoir$State" "looseOverflow" "J", Cond.methodLink RX2 54 yX1_copyFrom, Cond.instanceMethod yX1_copyFrom, Cond.selects RX1 yX1_copyFrom yX1_copyFrom]
def wsX5_addRain_r3 : List Cond := [Cond.initialized RX1, Cond.code yX1_copyFrom cX1_copyFrom 2 none, Cond.fieldLink RX1 7 "RainReservoir$Roof" "area" "I", Cond.fieldLink RX1 13 "RainReservoir$Roof" "yieldPercent" "I", Cond.fieldLink RX1 16 "RainReservoir$Roof" "flush" "I", Cond.fieldLink RX1 19 "RainReservoir$Roof" "gutter" "I", Cond.fieldLink RX1 29 "RainReservoir$Roof" "water" "I", Cond.fieldLink RX1 32 "RainReservoir$Roof" "spilledInAll" "I", Cond.methodLink RX1 25 yX1_set, Cond.instanceMethod yX1_set, Cond.selects RX1 yX1_set yX1_set, Cond.code yX1_set cX1_set 5 none, Cond.methodLink RX1 22 yX1_clearAmounts, Cond.instanceMethod yX1_clearAmounts, Cond.selects RX1 yX1_clearAmounts yX1_clearAmounts, Cond.code yX1_clearAmounts cX1_clearAmounts 1 none, Cond.methodLink RX2 58 yX4_copyFrom, Cond.instanceMethod yX4_copyFrom, Cond.selects RX4 yX4_copyFrom yX4_copyFrom, Cond.initialized RX4, Cond.code yX4_copyFrom cX4_copyFrom 3 none, Cond.fieldLink RX4 22 "RainReservoir$Users" "count" "I", Cond.fieldLink RX4 11 "RainReservoir$Users" "rows" "[LRainReservoir$User;", Cond.methodLink RX4 26 yX3_copyFrom]
def wsX5_addRain_r4 : List Cond := [Cond.instanceMethod yX3_copyFrom, Cond.selects RX3 yX3_copyFrom yX3_copyFrom, Cond.initialized RX3, Cond.code yX3_copyFrom cX3_copyFrom 2 none, Cond.fieldLink RX3 9 "RainReservoir$User" "demand" "I", Cond.fieldLink RX3 15 "RainReservoir$User" "weight" "I", Cond.fieldLink RX3 25 "RainReservoir$User" "gotLatest" "I", Cond.fieldLink RX3 28 "RainReservoir$User" "gotInAll" "I", Cond.methodLink RX3 21 yX3_set, Cond.instanceMethod yX3_set, Cond.selects RX3 yX3_set yX3_set, Cond.code yX3_set cX3_set 3 none, Cond.methodLink RX3 18 yX3_clearAmounts, Cond.instanceMethod yX3_clearAmounts, Cond.selects RX3 yX3_clearAmounts yX3_clearAmounts, Cond.code yX3_clearAmounts cX3_clearAmounts 1 none, Cond.methodLink RX5 124 yX2_putRain, Cond.instanceMethod yX2_putRain, Cond.selects RX2 yX2_putRain yX2_putRain, Cond.code yX2_putRain cX2_putRain 2 none]
def wsX5_addRain : List Cond := .code yX5_addRain cX5_addRain 4 (some .int) :: ((wsX5_addRain_r1 ++ (wsX5_addRain_r2 ++ (wsX5_addRain_r3 ++ wsX5_addRain_r4))) ++ wsX50 ++ wsX20 ++ wsX10 ++ wsX40 ++ wsX30 ++ (vx_atS RX5 228 "java/lang/IllegalArgumentException" ["java/lang/RuntimeException", "java/lang/Exception"]).filter goodWord ++ (vx_atS RX5 43 "java/lang/IllegalStateException" ["java/lang/RuntimeException", "java/lang/Exception"]).filter goodWord)
def wsX5_nextRandom : List Cond := .code yX5_nextRandom cX5_nextRandom 2 (some .long) :: ([.constantLong RX5 236 (1103515245), .constantLong RX5 238 (12345), .constantLong RX5 240 (2147483648)])
def wsX5_addRandomRain_r1 : List Cond := [Cond.constant RX5 130 (999999), Cond.constantLong RX5 135 (65536), Cond.constantLong RX5 137 (100), Cond.fieldLink RX5 10 "RainReservoir" "now" "LRainReservoir$State;", Cond.fieldLink RX5 127 "RainReservoir$State" "rainCount" "I", Cond.methodLink RX5 30 yX5_checkRange, Cond.static yX5_checkRange, Cond.initialized RX5, Cond.code yX5_checkRange cX5_checkRange 3 none, Cond.classLink RX5 224 "java/lang/IllegalArgumentException", Cond.initialized "java/lang/IllegalArgumentException", Cond.methodLink RX5 120 yX5_checkRoomForDays, Cond.instanceMethod yX5_checkRoomForDays, Cond.selects RX5 yX5_checkRoomForDays yX5_checkRoomForDays, Cond.code yX5_checkRoomForDays cX5_checkRoomForDays 2 none, Cond.classLink RX5 39 "java/lang/IllegalStateException", Cond.initialized "java/lang/IllegalStateException", Cond.methodLink RX5 46 yX5_save, Cond.instanceMethod yX5_save, Cond.selects RX5 yX5_save yX5_save, Cond.code yX5_save cX5_save 3 none, Cond.fieldLink RX5 207 "RainReservoir" "savedCount" "I", Cond.fieldLink RX5 19 "RainReservoir" "saved" "[LRainReservoir$State;", Cond.methodLink RX5 212 yX2_copyFrom]
def wsX5_addRandomRain_r2 : List Cond := [Cond.instanceMethod yX2_copyFrom, Cond.selects RX2 yX2_copyFrom yX2_copyFrom, Cond.initialized RX2, Cond.code yX2_copyFrom cX2_copyFrom 3 none, Cond.fieldLink RX2 9 "RainReservoir$State" "capacity" "I", Cond.fieldLink RX2 39 "RainReservoir$State" "floor" "I", Cond.fieldLink RX2 42 "RainReservoir$State" "topUp" "I", Cond.fieldLink RX2 45 "RainReservoir$State" "evaporation" "I", Cond.fieldLink RX2 15 "RainReservoir$State" "dryLimit" "I", Cond.fieldLink RX2 48 "RainReservoir$State" "rule" "I", Cond.fieldLink RX2 51 "RainReservoir$State" "roofCount" "I", Cond.fieldLink RX2 20 "RainReservoir$State" "roofs" "[LRainReservoir$Roof;", Cond.fieldLink RX2 28 "RainReservoir$State" "users" "LRainReservoir$Users;", Cond.fieldLink RX2 61 "RainReservoir$State" "rainCount" "I", Cond.fieldLink RX2 32 "RainReservoir$State" "rains" "[I", Cond.methodLink RX2 64 arraycopyName, Cond.native arraycopyName, Cond.static arraycopyName, Cond.initialized "java/lang/System", Cond.fieldLink RX2 70 "RainReservoir$State" "doneCount" "I", Cond.fieldLink RX2 36 "RainReservoir$State" "accounts" "[I", Cond.fieldLink RX2 73 "RainReservoir$State" "level" "I", Cond.fieldLink RX2 76 "RainReservoir$State" "dryDays" "I", Cond.fieldLink RX2 79 "RainReservoir$State" "looseOverflow" "J"]
def wsX5_addRandomRain_r3 : List Cond := [Cond.methodLink RX2 54 yX1_copyFrom, Cond.instanceMethod yX1_copyFrom, Cond.selects RX1 yX1_copyFrom yX1_copyFrom, Cond.initialized RX1, Cond.code yX1_copyFrom cX1_copyFrom 2 none, Cond.fieldLink RX1 7 "RainReservoir$Roof" "area" "I", Cond.fieldLink RX1 13 "RainReservoir$Roof" "yieldPercent" "I", Cond.fieldLink RX1 16 "RainReservoir$Roof" "flush" "I", Cond.fieldLink RX1 19 "RainReservoir$Roof" "gutter" "I", Cond.fieldLink RX1 29 "RainReservoir$Roof" "water" "I", Cond.fieldLink RX1 32 "RainReservoir$Roof" "spilledInAll" "I", Cond.methodLink RX1 25 yX1_set, Cond.instanceMethod yX1_set, Cond.selects RX1 yX1_set yX1_set, Cond.code yX1_set cX1_set 5 none, Cond.methodLink RX1 22 yX1_clearAmounts, Cond.instanceMethod yX1_clearAmounts, Cond.selects RX1 yX1_clearAmounts yX1_clearAmounts, Cond.code yX1_clearAmounts cX1_clearAmounts 1 none, Cond.methodLink RX2 58 yX4_copyFrom, Cond.instanceMethod yX4_copyFrom, Cond.selects RX4 yX4_copyFrom yX4_copyFrom, Cond.initialized RX4, Cond.code yX4_copyFrom cX4_copyFrom 3 none]
def wsX5_addRandomRain_r4 : List Cond := [Cond.fieldLink RX4 22 "RainReservoir$Users" "count" "I", Cond.fieldLink RX4 11 "RainReservoir$Users" "rows" "[LRainReservoir$User;", Cond.methodLink RX4 26 yX3_copyFrom, Cond.instanceMethod yX3_copyFrom, Cond.selects RX3 yX3_copyFrom yX3_copyFrom, Cond.initialized RX3, Cond.code yX3_copyFrom cX3_copyFrom 2 none, Cond.fieldLink RX3 9 "RainReservoir$User" "demand" "I", Cond.fieldLink RX3 15 "RainReservoir$User" "weight" "I", Cond.fieldLink RX3 25 "RainReservoir$User" "gotLatest" "I", Cond.fieldLink RX3 28 "RainReservoir$User" "gotInAll" "I", Cond.methodLink RX3 21 yX3_set, Cond.instanceMethod yX3_set, Cond.selects RX3 yX3_set yX3_set, Cond.code yX3_set cX3_set 3 none, Cond.methodLink RX3 18 yX3_clearAmounts, Cond.instanceMethod yX3_clearAmounts, Cond.selects RX3 yX3_clearAmounts yX3_clearAmounts, Cond.code yX3_clearAmounts cX3_clearAmounts 1 none, Cond.methodLink RX5 131 yX5_nextRandom, Cond.static yX5_nextRandom, Cond.code yX5_nextRandom cX5_nextRandom 2 (some .long), Cond.constantLong RX5 236 (1103515245), Cond.constantLong RX5 238 (12345)]
def wsX5_addRandomRain_r5 : List Cond := [Cond.constantLong RX5 240 (2147483648), Cond.methodLink RX5 124 yX2_putRain, Cond.instanceMethod yX2_putRain, Cond.selects RX2 yX2_putRain yX2_putRain, Cond.code yX2_putRain cX2_putRain 2 none]
def wsX5_addRandomRain : List Cond := .code yX5_addRandomRain cX5_addRandomRain 9 (some .int) :: ((wsX5_addRandomRain_r1 ++ (wsX5_addRandomRain_r2 ++ (wsX5_addRandomRain_r3 ++ (wsX5_addRandomRain_r4 ++ wsX5_addRandomRain_r5)))) ++ wsX50 ++ wsX20 ++ wsX10 ++ wsX40 ++ wsX30 ++ (vx_atS RX5 228 "java/lang/IllegalArgumentException" ["java/lang/RuntimeException", "java/lang/Exception"]).filter goodWord ++ (vx_atS RX5 43 "java/lang/IllegalStateException" ["java/lang/RuntimeException", "java/lang/Exception"]).filter goodWord)
def wsX5_rain : List Cond := .code yX5_rain cX5_rain 2 (some .int) :: ([.fieldLink RX5 10 "RainReservoir" "now" "LRainReservoir$State;", .fieldLink RX5 127 "RainReservoir$State" "rainCount" "I", .fieldLink RX5 139 "RainReservoir$State" "rains" "[I", .methodLink RX5 79 yX5_checkIndex, .static yX5_checkIndex, .initialized RX5, .code yX5_checkIndex cX5_checkIndex 2 none, .classLink RX5 229 "java/lang/IndexOutOfBoundsException", .initialized "java/lang/IndexOutOfBoundsException"] ++ wsX50 ++ wsX20 ++ (vx_atS RX5 233 "java/lang/IndexOutOfBoundsException" ["java/lang/RuntimeException", "java/lang/Exception"]).filter goodWord)
def wsX5_run_r1 : List Cond := [Cond.classLink RX5 39 "java/lang/IllegalStateException", Cond.initialized "java/lang/IllegalStateException", Cond.fieldLink RX5 10 "RainReservoir" "now" "LRainReservoir$State;", Cond.fieldLink RX5 127 "RainReservoir$State" "rainCount" "I", Cond.fieldLink RX5 143 "RainReservoir$State" "doneCount" "I", Cond.methodLink RX5 30 yX5_checkRange, Cond.static yX5_checkRange, Cond.initialized RX5, Cond.code yX5_checkRange cX5_checkRange 3 none, Cond.classLink RX5 224 "java/lang/IllegalArgumentException", Cond.initialized "java/lang/IllegalArgumentException", Cond.methodLink RX5 46 yX5_save, Cond.instanceMethod yX5_save, Cond.selects RX5 yX5_save yX5_save, Cond.code yX5_save cX5_save 3 none, Cond.fieldLink RX5 207 "RainReservoir" "savedCount" "I", Cond.fieldLink RX5 19 "RainReservoir" "saved" "[LRainReservoir$State;", Cond.methodLink RX5 212 yX2_copyFrom, Cond.instanceMethod yX2_copyFrom, Cond.selects RX2 yX2_copyFrom yX2_copyFrom, Cond.initialized RX2, Cond.code yX2_copyFrom cX2_copyFrom 3 none, Cond.fieldLink RX2 9 "RainReservoir$State" "capacity" "I", Cond.fieldLink RX2 39 "RainReservoir$State" "floor" "I"]
def wsX5_run_r2 : List Cond := [Cond.fieldLink RX2 42 "RainReservoir$State" "topUp" "I", Cond.fieldLink RX2 45 "RainReservoir$State" "evaporation" "I", Cond.fieldLink RX2 15 "RainReservoir$State" "dryLimit" "I", Cond.fieldLink RX2 48 "RainReservoir$State" "rule" "I", Cond.fieldLink RX2 51 "RainReservoir$State" "roofCount" "I", Cond.fieldLink RX2 20 "RainReservoir$State" "roofs" "[LRainReservoir$Roof;", Cond.fieldLink RX2 28 "RainReservoir$State" "users" "LRainReservoir$Users;", Cond.fieldLink RX2 61 "RainReservoir$State" "rainCount" "I", Cond.fieldLink RX2 32 "RainReservoir$State" "rains" "[I", Cond.methodLink RX2 64 arraycopyName, Cond.native arraycopyName, Cond.static arraycopyName, Cond.initialized "java/lang/System", Cond.fieldLink RX2 70 "RainReservoir$State" "doneCount" "I", Cond.fieldLink RX2 36 "RainReservoir$State" "accounts" "[I", Cond.fieldLink RX2 73 "RainReservoir$State" "level" "I", Cond.fieldLink RX2 76 "RainReservoir$State" "dryDays" "I", Cond.fieldLink RX2 79 "RainReservoir$State" "looseOverflow" "J", Cond.methodLink RX2 54 yX1_copyFrom, Cond.instanceMethod yX1_copyFrom, Cond.selects RX1 yX1_copyFrom yX1_copyFrom, Cond.initialized RX1, Cond.code yX1_copyFrom cX1_copyFrom 2 none, Cond.fieldLink RX1 7 "RainReservoir$Roof" "area" "I"]
def wsX5_run_r3 : List Cond := [Cond.fieldLink RX1 13 "RainReservoir$Roof" "yieldPercent" "I", Cond.fieldLink RX1 16 "RainReservoir$Roof" "flush" "I", Cond.fieldLink RX1 19 "RainReservoir$Roof" "gutter" "I", Cond.fieldLink RX1 29 "RainReservoir$Roof" "water" "I", Cond.fieldLink RX1 32 "RainReservoir$Roof" "spilledInAll" "I", Cond.methodLink RX1 25 yX1_set, Cond.instanceMethod yX1_set, Cond.selects RX1 yX1_set yX1_set, Cond.code yX1_set cX1_set 5 none, Cond.methodLink RX1 22 yX1_clearAmounts, Cond.instanceMethod yX1_clearAmounts, Cond.selects RX1 yX1_clearAmounts yX1_clearAmounts, Cond.code yX1_clearAmounts cX1_clearAmounts 1 none, Cond.methodLink RX2 58 yX4_copyFrom, Cond.instanceMethod yX4_copyFrom, Cond.selects RX4 yX4_copyFrom yX4_copyFrom, Cond.initialized RX4, Cond.code yX4_copyFrom cX4_copyFrom 3 none, Cond.fieldLink RX4 22 "RainReservoir$Users" "count" "I", Cond.fieldLink RX4 11 "RainReservoir$Users" "rows" "[LRainReservoir$User;", Cond.methodLink RX4 26 yX3_copyFrom, Cond.instanceMethod yX3_copyFrom, Cond.selects RX3 yX3_copyFrom yX3_copyFrom, Cond.initialized RX3]
def wsX5_run_r4 : List Cond := [Cond.code yX3_copyFrom cX3_copyFrom 2 none, Cond.fieldLink RX3 9 "RainReservoir$User" "demand" "I", Cond.fieldLink RX3 15 "RainReservoir$User" "weight" "I", Cond.fieldLink RX3 25 "RainReservoir$User" "gotLatest" "I", Cond.fieldLink RX3 28 "RainReservoir$User" "gotInAll" "I", Cond.methodLink RX3 21 yX3_set, Cond.instanceMethod yX3_set, Cond.selects RX3 yX3_set yX3_set, Cond.code yX3_set cX3_set 3 none, Cond.methodLink RX3 18 yX3_clearAmounts, Cond.instanceMethod yX3_clearAmounts, Cond.selects RX3 yX3_clearAmounts yX3_clearAmounts, Cond.code yX3_clearAmounts cX3_clearAmounts 1 none, Cond.methodLink RX5 148 yX2_collect, Cond.instanceMethod yX2_collect, Cond.selects RX2 yX2_collect yX2_collect, Cond.code yX2_collect cX2_collect 11 none, Cond.methodLink RX2 99 yX2_drainWhenDry, Cond.instanceMethod yX2_drainWhenDry, Cond.selects RX2 yX2_drainWhenDry yX2_drainWhenDry, Cond.code yX2_drainWhenDry cX2_drainWhenDry 4 (some .int), Cond.methodLink RX2 134 yX1_drain, Cond.instanceMethod yX1_drain, Cond.selects RX1 yX1_drain yX1_drain]
def wsX5_run_r5 : List Cond := [Cond.code yX1_drain cX1_drain 2 (some .int), Cond.methodLink RX2 103 yX1_caught, Cond.instanceMethod yX1_caught, Cond.selects RX1 yX1_caught yX1_caught, Cond.code yX1_caught cX1_caught 2 (some .int), Cond.methodLink RX2 106 yX1_divert, Cond.instanceMethod yX1_divert, Cond.selects RX1 yX1_divert yX1_divert, Cond.code yX1_divert cX1_divert 3 (some .int), Cond.methodLink RX1 35 Lib.Math.min.name, Cond.static Lib.Math.min.name, Cond.initialized "java/lang/Math", Cond.code Lib.Math.min.name Lib.Math.min.code 2 (some .int), Cond.methodLink RX2 109 yX1_spill, Cond.instanceMethod yX1_spill, Cond.selects RX1 yX1_spill yX1_spill, Cond.code yX1_spill cX1_spill 3 (some .int), Cond.methodLink RX1 41 Lib.Math.max.name, Cond.static Lib.Math.max.name, Cond.code Lib.Math.max.name Lib.Math.max.code 2 (some .int), Cond.methodLink RX2 112 yX2_put, Cond.instanceMethod yX2_put, Cond.selects RX2 yX2_put yX2_put, Cond.code yX2_put cX2_put 4 none]
def wsX5_run_r6 : List Cond := [Cond.methodLink RX5 151 yX2_serve, Cond.instanceMethod yX2_serve, Cond.selects RX2 yX2_serve yX2_serve, Cond.code yX2_serve cX2_serve 5 none, Cond.methodLink RX2 94 Lib.Math.max.name, Cond.methodLink RX2 90 yX2_account, Cond.instanceMethod yX2_account, Cond.selects RX2 yX2_account yX2_account, Cond.code yX2_account cX2_account 3 (some .int), Cond.methodLink RX2 116 yX2_dropAboveCapacity, Cond.instanceMethod yX2_dropAboveCapacity, Cond.selects RX2 yX2_dropAboveCapacity yX2_dropAboveCapacity, Cond.code yX2_dropAboveCapacity cX2_dropAboveCapacity 2 (some .int), Cond.methodLink RX2 120 yX4_handOut, Cond.instanceMethod yX4_handOut, Cond.selects RX4 yX4_handOut yX4_handOut, Cond.code yX4_handOut cX4_handOut 6 (some .int), Cond.fieldLink RX4 45 "RainReservoir$User" "gotLatest" "I", Cond.fieldLink RX4 36 "RainReservoir$User" "gotInAll" "I", Cond.methodLink RX4 48 yX4_demandInAll, Cond.instanceMethod yX4_demandInAll, Cond.selects RX4 yX4_demandInAll yX4_demandInAll, Cond.code yX4_demandInAll cX4_demandInAll 3 (some .int), Cond.fieldLink RX4 33 "RainReservoir$User" "demand" "I"]
def wsX5_run_r7 : List Cond := [Cond.methodLink RX4 52 yX4_shareInOrder, Cond.instanceMethod yX4_shareInOrder, Cond.selects RX4 yX4_shareInOrder yX4_shareInOrder, Cond.code yX4_shareInOrder cX4_shareInOrder 3 none, Cond.fieldLink RX4 18 "RainReservoir$Users" "order" "[I", Cond.methodLink RX4 74 yX4_serveOrder, Cond.instanceMethod yX4_serveOrder, Cond.selects RX4 yX4_serveOrder yX4_serveOrder, Cond.code yX4_serveOrder cX4_serveOrder 4 none, Cond.methodLink RX4 70 yX3_give, Cond.instanceMethod yX3_give, Cond.selects RX3 yX3_give yX3_give, Cond.code yX3_give cX3_give 3 (some .int), Cond.methodLink RX3 35 Lib.Math.min.name, Cond.methodLink RX3 31 yX3_lack, Cond.instanceMethod yX3_lack, Cond.selects RX3 yX3_lack yX3_lack, Cond.code yX3_lack cX3_lack 1 (some .int), Cond.methodLink RX4 56 yX4_share, Cond.instanceMethod yX4_share, Cond.selects RX4 yX4_share yX4_share, Cond.code yX4_share cX4_share 4 none, Cond.methodLink RX4 60 yX4_shareByDemand, Cond.instanceMethod yX4_shareByDemand]
def wsX5_run_r8 : List Cond := [Cond.selects RX4 yX4_shareByDemand yX4_shareByDemand, Cond.code yX4_shareByDemand cX4_shareByDemand 7 none, Cond.methodLink RX4 64 yX4_shareInRounds, Cond.instanceMethod yX4_shareInRounds, Cond.selects RX4 yX4_shareInRounds yX4_shareInRounds, Cond.code yX4_shareInRounds cX4_shareInRounds 5 none, Cond.methodLink RX4 86 Lib.Math.min.name, Cond.methodLink RX4 77 yX4_fullRounds, Cond.instanceMethod yX4_fullRounds, Cond.selects RX4 yX4_fullRounds yX4_fullRounds, Cond.code yX4_fullRounds cX4_fullRounds 4 (some .int), Cond.methodLink RX4 89 yX3_lack, Cond.methodLink RX4 83 yX3_portion, Cond.instanceMethod yX3_portion, Cond.selects RX3 yX3_portion yX3_portion, Cond.code yX3_portion cX3_portion 1 (some .int), Cond.methodLink RX4 80 yX4_giveRounds, Cond.instanceMethod yX4_giveRounds, Cond.selects RX4 yX4_giveRounds yX4_giveRounds, Cond.code yX4_giveRounds cX4_giveRounds 4 (some .int), Cond.methodLink RX4 67 yX4_shareSmallestFirst, Cond.instanceMethod yX4_shareSmallestFirst, Cond.selects RX4 yX4_shareSmallestFirst yX4_shareSmallestFirst, Cond.code yX4_shareSmallestFirst cX4_shareSmallestFirst 4 none]
def wsX5_run_r9 : List Cond := [Cond.methodLink RX2 123 yX4_demandInAll, Cond.methodLink RX5 154 yX2_isShort, Cond.instanceMethod yX2_isShort, Cond.selects RX2 yX2_isShort yX2_isShort, Cond.code yX2_isShort cX2_isShort 2 (some .boolean)]
def wsX5_run : List Cond := .code yX5_run cX5_run 5 (some .int) :: ((wsX5_run_r1 ++ (wsX5_run_r2 ++ (wsX5_run_r3 ++ (wsX5_run_r4 ++ (wsX5_run_r5 ++ (wsX5_run_r6 ++ (wsX5_run_r7 ++ (wsX5_run_r8 ++ wsX5_run_r9)))))))) ++ wsX50 ++ wsX20 ++ wsX10 ++ wsX40 ++ wsX30 ++ (vx_atS RX5 43 "java/lang/IllegalStateException" ["java/lang/RuntimeException", "java/lang/Exception"]).filter goodWord ++ (vx_atS RX5 228 "java/lang/IllegalArgumentException" ["java/lang/RuntimeException", "java/lang/Exception"]).filter goodWord)
def wsX5_restart_r1 : List Cond := [Cond.fieldLink RX5 10 "RainReservoir" "now" "LRainReservoir$State;", Cond.fieldLink RX5 143 "RainReservoir$State" "doneCount" "I", Cond.methodLink RX5 46 yX5_save, Cond.instanceMethod yX5_save, Cond.selects RX5 yX5_save yX5_save, Cond.initialized RX5, Cond.code yX5_save cX5_save 3 none, Cond.fieldLink RX5 207 "RainReservoir" "savedCount" "I", Cond.fieldLink RX5 19 "RainReservoir" "saved" "[LRainReservoir$State;", Cond.methodLink RX5 212 yX2_copyFrom, Cond.instanceMethod yX2_copyFrom, Cond.selects RX2 yX2_copyFrom yX2_copyFrom, Cond.initialized RX2, Cond.code yX2_copyFrom cX2_copyFrom 3 none, Cond.fieldLink RX2 9 "RainReservoir$State" "capacity" "I", Cond.fieldLink RX2 39 "RainReservoir$State" "floor" "I", Cond.fieldLink RX2 42 "RainReservoir$State" "topUp" "I", Cond.fieldLink RX2 45 "RainReservoir$State" "evaporation" "I", Cond.fieldLink RX2 15 "RainReservoir$State" "dryLimit" "I", Cond.fieldLink RX2 48 "RainReservoir$State" "rule" "I", Cond.fieldLink RX2 51 "RainReservoir$State" "roofCount" "I", Cond.fieldLink RX2 20 "RainReservoir$State" "roofs" "[LRainReservoir$Roof;", Cond.fieldLink RX2 28 "RainReservoir$State" "users" "LRainReservoir$Users;", Cond.fieldLink RX2 61 "RainReservoir$State" "rainCount" "I"]
def wsX5_restart_r2 : List Cond := [Cond.fieldLink RX2 32 "RainReservoir$State" "rains" "[I", Cond.methodLink RX2 64 arraycopyName, Cond.native arraycopyName, Cond.static arraycopyName, Cond.initialized "java/lang/System", Cond.fieldLink RX2 70 "RainReservoir$State" "doneCount" "I", Cond.fieldLink RX2 36 "RainReservoir$State" "accounts" "[I", Cond.fieldLink RX2 73 "RainReservoir$State" "level" "I", Cond.fieldLink RX2 76 "RainReservoir$State" "dryDays" "I", Cond.fieldLink RX2 79 "RainReservoir$State" "looseOverflow" "J", Cond.methodLink RX2 54 yX1_copyFrom, Cond.instanceMethod yX1_copyFrom, Cond.selects RX1 yX1_copyFrom yX1_copyFrom, Cond.initialized RX1, Cond.code yX1_copyFrom cX1_copyFrom 2 none, Cond.fieldLink RX1 7 "RainReservoir$Roof" "area" "I", Cond.fieldLink RX1 13 "RainReservoir$Roof" "yieldPercent" "I", Cond.fieldLink RX1 16 "RainReservoir$Roof" "flush" "I", Cond.fieldLink RX1 19 "RainReservoir$Roof" "gutter" "I", Cond.fieldLink RX1 29 "RainReservoir$Roof" "water" "I", Cond.fieldLink RX1 32 "RainReservoir$Roof" "spilledInAll" "I", Cond.methodLink RX1 25 yX1_set, Cond.instanceMethod yX1_set, Cond.selects RX1 yX1_set yX1_set]
def wsX5_restart_r3 : List Cond := [Cond.code yX1_set cX1_set 5 none, Cond.methodLink RX1 22 yX1_clearAmounts, Cond.instanceMethod yX1_clearAmounts, Cond.selects RX1 yX1_clearAmounts yX1_clearAmounts, Cond.code yX1_clearAmounts cX1_clearAmounts 1 none, Cond.methodLink RX2 58 yX4_copyFrom, Cond.instanceMethod yX4_copyFrom, Cond.selects RX4 yX4_copyFrom yX4_copyFrom, Cond.initialized RX4, Cond.code yX4_copyFrom cX4_copyFrom 3 none, Cond.fieldLink RX4 22 "RainReservoir$Users" "count" "I", Cond.fieldLink RX4 11 "RainReservoir$Users" "rows" "[LRainReservoir$User;", Cond.methodLink RX4 26 yX3_copyFrom, Cond.instanceMethod yX3_copyFrom, Cond.selects RX3 yX3_copyFrom yX3_copyFrom, Cond.initialized RX3, Cond.code yX3_copyFrom cX3_copyFrom 2 none, Cond.fieldLink RX3 9 "RainReservoir$User" "demand" "I", Cond.fieldLink RX3 15 "RainReservoir$User" "weight" "I", Cond.fieldLink RX3 25 "RainReservoir$User" "gotLatest" "I", Cond.fieldLink RX3 28 "RainReservoir$User" "gotInAll" "I", Cond.methodLink RX3 21 yX3_set, Cond.instanceMethod yX3_set, Cond.selects RX3 yX3_set yX3_set]
def wsX5_restart_r4 : List Cond := [Cond.code yX3_set cX3_set 3 none, Cond.methodLink RX3 18 yX3_clearAmounts, Cond.instanceMethod yX3_clearAmounts, Cond.selects RX3 yX3_clearAmounts yX3_clearAmounts, Cond.code yX3_clearAmounts cX3_clearAmounts 1 none, Cond.methodLink RX5 158 yX2_goBack, Cond.instanceMethod yX2_goBack, Cond.selects RX2 yX2_goBack yX2_goBack, Cond.code yX2_goBack cX2_goBack 2 none, Cond.methodLink RX2 83 yX1_clearAmounts, Cond.methodLink RX2 86 yX4_clearAmounts, Cond.instanceMethod yX4_clearAmounts, Cond.selects RX4 yX4_clearAmounts yX4_clearAmounts, Cond.code yX4_clearAmounts cX4_clearAmounts 2 none, Cond.methodLink RX4 30 yX3_clearAmounts]
def wsX5_restart : List Cond := .code yX5_restart cX5_restart 2 (some .int) :: ((wsX5_restart_r1 ++ (wsX5_restart_r2 ++ (wsX5_restart_r3 ++ wsX5_restart_r4))) ++ wsX50 ++ wsX20 ++ wsX10 ++ wsX40 ++ wsX30)
def wsX5_day : List Cond := .code yX5_day cX5_day 3 (some .int) :: ([.fieldLink RX5 10 "RainReservoir" "now" "LRainReservoir$State;", .fieldLink RX5 143 "RainReservoir$State" "doneCount" "I", .methodLink RX5 79 yX5_checkIndex, .static yX5_checkIndex, .initialized RX5, .code yX5_checkIndex cX5_checkIndex 2 none, .classLink RX5 229 "java/lang/IndexOutOfBoundsException", .initialized "java/lang/IndexOutOfBoundsException", .methodLink RX5 30 yX5_checkRange, .static yX5_checkRange, .code yX5_checkRange cX5_checkRange 3 none, .classLink RX5 224 "java/lang/IllegalArgumentException", .initialized "java/lang/IllegalArgumentException", .methodLink RX5 161 yX2_account, .instanceMethod yX2_account, .selects RX2 yX2_account yX2_account, .initialized RX2, .code yX2_account cX2_account 3 (some .int), .fieldLink RX2 36 "RainReservoir$State" "accounts" "[I"] ++ wsX50 ++ wsX20 ++ (vx_atS RX5 233 "java/lang/IndexOutOfBoundsException" ["java/lang/RuntimeException", "java/lang/Exception"]).filter goodWord ++ (vx_atS RX5 228 "java/lang/IllegalArgumentException" ["java/lang/RuntimeException", "java/lang/Exception"]).filter goodWord)
def wsX5_sum : List Cond := .code yX5_sum cX5_sum 5 (some .long) :: ([.fieldLink RX5 10 "RainReservoir" "now" "LRainReservoir$State;", .fieldLink RX5 95 "RainReservoir$State" "looseOverflow" "J", .fieldLink RX5 143 "RainReservoir$State" "doneCount" "I", .methodLink RX5 30 yX5_checkRange, .static yX5_checkRange, .initialized RX5, .code yX5_checkRange cX5_checkRange 3 none, .classLink RX5 224 "java/lang/IllegalArgumentException", .initialized "java/lang/IllegalArgumentException", .methodLink RX5 161 yX2_account, .instanceMethod yX2_account, .selects RX2 yX2_account yX2_account, .initialized RX2, .code yX2_account cX2_account 3 (some .int), .fieldLink RX2 36 "RainReservoir$State" "accounts" "[I"] ++ wsX50 ++ wsX20 ++ (vx_atS RX5 228 "java/lang/IllegalArgumentException" ["java/lang/RuntimeException", "java/lang/Exception"]).filter goodWord)
def wsX5_reliability : List Cond := .code yX5_reliability cX5_reliability 4 (some .double) :: ([.fieldLink RX5 10 "RainReservoir" "now" "LRainReservoir$State;", .fieldLink RX5 143 "RainReservoir$State" "doneCount" "I", .methodLink RX5 154 yX2_isShort, .instanceMethod yX2_isShort, .selects RX2 yX2_isShort yX2_isShort, .initialized RX2, .code yX2_isShort cX2_isShort 2 (some .boolean), .methodLink RX2 90 yX2_account, .instanceMethod yX2_account, .selects RX2 yX2_account yX2_account, .code yX2_account cX2_account 3 (some .int), .fieldLink RX2 36 "RainReservoir$State" "accounts" "[I"] ++ wsX50 ++ wsX20)
def wsX5_longestShortage : List Cond := .code yX5_longestShortage cX5_longestShortage 4 (some .int) :: ([.fieldLink RX5 10 "RainReservoir" "now" "LRainReservoir$State;", .fieldLink RX5 143 "RainReservoir$State" "doneCount" "I", .methodLink RX5 165 Lib.Math.max.name, .static Lib.Math.max.name, .initialized "java/lang/Math", .code Lib.Math.max.name Lib.Math.max.code 2 (some .int), .methodLink RX5 154 yX2_isShort, .instanceMethod yX2_isShort, .selects RX2 yX2_isShort yX2_isShort, .initialized RX2, .code yX2_isShort cX2_isShort 2 (some .boolean), .methodLink RX2 90 yX2_account, .instanceMethod yX2_account, .selects RX2 yX2_account yX2_account, .code yX2_account cX2_account 3 (some .int), .fieldLink RX2 36 "RainReservoir$State" "accounts" "[I"] ++ wsX50 ++ wsX20)
def wsX5_prepareTrial_r1 : List Cond := [Cond.fieldLink RX5 16 "RainReservoir" "trial" "LRainReservoir$State;", Cond.fieldLink RX5 10 "RainReservoir" "now" "LRainReservoir$State;", Cond.fieldLink RX5 127 "RainReservoir$State" "rainCount" "I", Cond.methodLink RX5 212 yX2_copyFrom, Cond.instanceMethod yX2_copyFrom, Cond.selects RX2 yX2_copyFrom yX2_copyFrom, Cond.initialized RX2, Cond.code yX2_copyFrom cX2_copyFrom 3 none, Cond.fieldLink RX2 9 "RainReservoir$State" "capacity" "I", Cond.fieldLink RX2 39 "RainReservoir$State" "floor" "I", Cond.fieldLink RX2 42 "RainReservoir$State" "topUp" "I", Cond.fieldLink RX2 45 "RainReservoir$State" "evaporation" "I", Cond.fieldLink RX2 15 "RainReservoir$State" "dryLimit" "I", Cond.fieldLink RX2 48 "RainReservoir$State" "rule" "I", Cond.fieldLink RX2 51 "RainReservoir$State" "roofCount" "I", Cond.fieldLink RX2 20 "RainReservoir$State" "roofs" "[LRainReservoir$Roof;", Cond.fieldLink RX2 28 "RainReservoir$State" "users" "LRainReservoir$Users;", Cond.fieldLink RX2 61 "RainReservoir$State" "rainCount" "I", Cond.fieldLink RX2 32 "RainReservoir$State" "rains" "[I", Cond.methodLink RX2 64 arraycopyName, Cond.native arraycopyName, Cond.static arraycopyName, Cond.initialized "java/lang/System", Cond.fieldLink RX2 70 "RainReservoir$State" "doneCount" "I"]
def wsX5_prepareTrial_r2 : List Cond := [Cond.fieldLink RX2 36 "RainReservoir$State" "accounts" "[I", Cond.fieldLink RX2 73 "RainReservoir$State" "level" "I", Cond.fieldLink RX2 76 "RainReservoir$State" "dryDays" "I", Cond.fieldLink RX2 79 "RainReservoir$State" "looseOverflow" "J", Cond.methodLink RX2 54 yX1_copyFrom, Cond.instanceMethod yX1_copyFrom, Cond.selects RX1 yX1_copyFrom yX1_copyFrom, Cond.initialized RX1, Cond.code yX1_copyFrom cX1_copyFrom 2 none, Cond.fieldLink RX1 7 "RainReservoir$Roof" "area" "I", Cond.fieldLink RX1 13 "RainReservoir$Roof" "yieldPercent" "I", Cond.fieldLink RX1 16 "RainReservoir$Roof" "flush" "I", Cond.fieldLink RX1 19 "RainReservoir$Roof" "gutter" "I", Cond.fieldLink RX1 29 "RainReservoir$Roof" "water" "I", Cond.fieldLink RX1 32 "RainReservoir$Roof" "spilledInAll" "I", Cond.methodLink RX1 25 yX1_set, Cond.instanceMethod yX1_set, Cond.selects RX1 yX1_set yX1_set, Cond.code yX1_set cX1_set 5 none, Cond.methodLink RX1 22 yX1_clearAmounts, Cond.instanceMethod yX1_clearAmounts, Cond.selects RX1 yX1_clearAmounts yX1_clearAmounts, Cond.code yX1_clearAmounts cX1_clearAmounts 1 none, Cond.methodLink RX2 58 yX4_copyFrom]
def wsX5_prepareTrial_r3 : List Cond := [Cond.instanceMethod yX4_copyFrom, Cond.selects RX4 yX4_copyFrom yX4_copyFrom, Cond.initialized RX4, Cond.code yX4_copyFrom cX4_copyFrom 3 none, Cond.fieldLink RX4 22 "RainReservoir$Users" "count" "I", Cond.fieldLink RX4 11 "RainReservoir$Users" "rows" "[LRainReservoir$User;", Cond.methodLink RX4 26 yX3_copyFrom, Cond.instanceMethod yX3_copyFrom, Cond.selects RX3 yX3_copyFrom yX3_copyFrom, Cond.initialized RX3, Cond.code yX3_copyFrom cX3_copyFrom 2 none, Cond.fieldLink RX3 9 "RainReservoir$User" "demand" "I", Cond.fieldLink RX3 15 "RainReservoir$User" "weight" "I", Cond.fieldLink RX3 25 "RainReservoir$User" "gotLatest" "I", Cond.fieldLink RX3 28 "RainReservoir$User" "gotInAll" "I", Cond.methodLink RX3 21 yX3_set, Cond.instanceMethod yX3_set, Cond.selects RX3 yX3_set yX3_set, Cond.code yX3_set cX3_set 3 none, Cond.methodLink RX3 18 yX3_clearAmounts, Cond.instanceMethod yX3_clearAmounts, Cond.selects RX3 yX3_clearAmounts yX3_clearAmounts, Cond.code yX3_clearAmounts cX3_clearAmounts 1 none, Cond.methodLink RX5 158 yX2_goBack]
def wsX5_prepareTrial_r4 : List Cond := [Cond.instanceMethod yX2_goBack, Cond.selects RX2 yX2_goBack yX2_goBack, Cond.code yX2_goBack cX2_goBack 2 none, Cond.methodLink RX2 83 yX1_clearAmounts, Cond.methodLink RX2 86 yX4_clearAmounts, Cond.instanceMethod yX4_clearAmounts, Cond.selects RX4 yX4_clearAmounts yX4_clearAmounts, Cond.code yX4_clearAmounts cX4_clearAmounts 2 none, Cond.methodLink RX4 30 yX3_clearAmounts, Cond.methodLink RX5 148 yX2_collect, Cond.instanceMethod yX2_collect, Cond.selects RX2 yX2_collect yX2_collect, Cond.code yX2_collect cX2_collect 11 none, Cond.methodLink RX2 99 yX2_drainWhenDry, Cond.instanceMethod yX2_drainWhenDry, Cond.selects RX2 yX2_drainWhenDry yX2_drainWhenDry, Cond.code yX2_drainWhenDry cX2_drainWhenDry 4 (some .int), Cond.methodLink RX2 134 yX1_drain, Cond.instanceMethod yX1_drain, Cond.selects RX1 yX1_drain yX1_drain, Cond.code yX1_drain cX1_drain 2 (some .int), Cond.methodLink RX2 103 yX1_caught, Cond.instanceMethod yX1_caught, Cond.selects RX1 yX1_caught yX1_caught]
def wsX5_prepareTrial_r5 : List Cond := [Cond.code yX1_caught cX1_caught 2 (some .int), Cond.methodLink RX2 106 yX1_divert, Cond.instanceMethod yX1_divert, Cond.selects RX1 yX1_divert yX1_divert, Cond.code yX1_divert cX1_divert 3 (some .int), Cond.methodLink RX1 35 Lib.Math.min.name, Cond.static Lib.Math.min.name, Cond.initialized "java/lang/Math", Cond.code Lib.Math.min.name Lib.Math.min.code 2 (some .int), Cond.methodLink RX2 109 yX1_spill, Cond.instanceMethod yX1_spill, Cond.selects RX1 yX1_spill yX1_spill, Cond.code yX1_spill cX1_spill 3 (some .int), Cond.methodLink RX1 41 Lib.Math.max.name, Cond.static Lib.Math.max.name, Cond.code Lib.Math.max.name Lib.Math.max.code 2 (some .int), Cond.methodLink RX2 112 yX2_put, Cond.instanceMethod yX2_put, Cond.selects RX2 yX2_put yX2_put, Cond.code yX2_put cX2_put 4 none]
def wsX5_prepareTrial : List Cond := .code yX5_prepareTrial cX5_prepareTrial 2 none :: ((wsX5_prepareTrial_r1 ++ (wsX5_prepareTrial_r2 ++ (wsX5_prepareTrial_r3 ++ (wsX5_prepareTrial_r4 ++ wsX5_prepareTrial_r5)))) ++ wsX50 ++ wsX20 ++ wsX10 ++ wsX40 ++ wsX30)
def wsX5_triedShortDays_r1 : List Cond := [Cond.fieldLink RX5 16 "RainReservoir" "trial" "LRainReservoir$State;", Cond.fieldLink RX5 86 "RainReservoir$State" "capacity" "I", Cond.fieldLink RX5 10 "RainReservoir" "now" "LRainReservoir$State;", Cond.fieldLink RX5 89 "RainReservoir$State" "floor" "I", Cond.methodLink RX5 242 Lib.Math.min.name, Cond.static Lib.Math.min.name, Cond.initialized "java/lang/Math", Cond.code Lib.Math.min.name Lib.Math.min.code 2 (some .int), Cond.fieldLink RX5 92 "RainReservoir$State" "topUp" "I", Cond.methodLink RX5 176 yX2_serveAll, Cond.instanceMethod yX2_serveAll, Cond.selects RX2 yX2_serveAll yX2_serveAll, Cond.initialized RX2, Cond.code yX2_serveAll cX2_serveAll 4 (some .int), Cond.fieldLink RX2 73 "RainReservoir$State" "level" "I", Cond.fieldLink RX2 28 "RainReservoir$State" "users" "LRainReservoir$Users;", Cond.fieldLink RX2 61 "RainReservoir$State" "rainCount" "I", Cond.methodLink RX2 86 yX4_clearAmounts, Cond.instanceMethod yX4_clearAmounts, Cond.selects RX4 yX4_clearAmounts yX4_clearAmounts, Cond.initialized RX4, Cond.code yX4_clearAmounts cX4_clearAmounts 2 none, Cond.fieldLink RX4 22 "RainReservoir$Users" "count" "I", Cond.fieldLink RX4 11 "RainReservoir$Users" "rows" "[LRainReservoir$User;"]
def wsX5_triedShortDays_r2 : List Cond := [Cond.methodLink RX4 30 yX3_clearAmounts, Cond.instanceMethod yX3_clearAmounts, Cond.selects RX3 yX3_clearAmounts yX3_clearAmounts, Cond.initialized RX3, Cond.code yX3_clearAmounts cX3_clearAmounts 1 none, Cond.fieldLink RX3 25 "RainReservoir$User" "gotLatest" "I", Cond.fieldLink RX3 28 "RainReservoir$User" "gotInAll" "I", Cond.methodLink RX2 126 yX2_serve, Cond.instanceMethod yX2_serve, Cond.selects RX2 yX2_serve yX2_serve, Cond.code yX2_serve cX2_serve 5 none, Cond.fieldLink RX2 45 "RainReservoir$State" "evaporation" "I", Cond.fieldLink RX2 39 "RainReservoir$State" "floor" "I", Cond.methodLink RX2 94 Lib.Math.max.name, Cond.static Lib.Math.max.name, Cond.code Lib.Math.max.name Lib.Math.max.code 2 (some .int), Cond.fieldLink RX2 48 "RainReservoir$State" "rule" "I", Cond.fieldLink RX2 42 "RainReservoir$State" "topUp" "I", Cond.methodLink RX2 90 yX2_account, Cond.instanceMethod yX2_account, Cond.selects RX2 yX2_account yX2_account, Cond.code yX2_account cX2_account 3 (some .int), Cond.fieldLink RX2 36 "RainReservoir$State" "accounts" "[I", Cond.methodLink RX2 116 yX2_dropAboveCapacity]
def wsX5_triedShortDays_r3 : List Cond := [Cond.instanceMethod yX2_dropAboveCapacity, Cond.selects RX2 yX2_dropAboveCapacity yX2_dropAboveCapacity, Cond.code yX2_dropAboveCapacity cX2_dropAboveCapacity 2 (some .int), Cond.fieldLink RX2 9 "RainReservoir$State" "capacity" "I", Cond.methodLink RX2 112 yX2_put, Cond.instanceMethod yX2_put, Cond.selects RX2 yX2_put yX2_put, Cond.code yX2_put cX2_put 4 none, Cond.methodLink RX2 120 yX4_handOut, Cond.instanceMethod yX4_handOut, Cond.selects RX4 yX4_handOut yX4_handOut, Cond.code yX4_handOut cX4_handOut 6 (some .int), Cond.fieldLink RX4 45 "RainReservoir$User" "gotLatest" "I", Cond.fieldLink RX4 36 "RainReservoir$User" "gotInAll" "I", Cond.methodLink RX4 48 yX4_demandInAll, Cond.instanceMethod yX4_demandInAll, Cond.selects RX4 yX4_demandInAll yX4_demandInAll, Cond.code yX4_demandInAll cX4_demandInAll 3 (some .int), Cond.fieldLink RX4 33 "RainReservoir$User" "demand" "I", Cond.methodLink RX4 52 yX4_shareInOrder, Cond.instanceMethod yX4_shareInOrder, Cond.selects RX4 yX4_shareInOrder yX4_shareInOrder, Cond.code yX4_shareInOrder cX4_shareInOrder 3 none, Cond.fieldLink RX4 18 "RainReservoir$Users" "order" "[I"]
def wsX5_triedShortDays_r4 : List Cond := [Cond.methodLink RX4 74 yX4_serveOrder, Cond.instanceMethod yX4_serveOrder, Cond.selects RX4 yX4_serveOrder yX4_serveOrder, Cond.code yX4_serveOrder cX4_serveOrder 4 none, Cond.methodLink RX4 70 yX3_give, Cond.instanceMethod yX3_give, Cond.selects RX3 yX3_give yX3_give, Cond.code yX3_give cX3_give 3 (some .int), Cond.methodLink RX3 35 Lib.Math.min.name, Cond.methodLink RX3 31 yX3_lack, Cond.instanceMethod yX3_lack, Cond.selects RX3 yX3_lack yX3_lack, Cond.code yX3_lack cX3_lack 1 (some .int), Cond.fieldLink RX3 9 "RainReservoir$User" "demand" "I", Cond.methodLink RX4 56 yX4_share, Cond.instanceMethod yX4_share, Cond.selects RX4 yX4_share yX4_share, Cond.code yX4_share cX4_share 4 none, Cond.methodLink RX4 60 yX4_shareByDemand, Cond.instanceMethod yX4_shareByDemand, Cond.selects RX4 yX4_shareByDemand yX4_shareByDemand, Cond.code yX4_shareByDemand cX4_shareByDemand 7 none, Cond.methodLink RX4 64 yX4_shareInRounds, Cond.instanceMethod yX4_shareInRounds]
def wsX5_triedShortDays_r5 : List Cond := [Cond.selects RX4 yX4_shareInRounds yX4_shareInRounds, Cond.code yX4_shareInRounds cX4_shareInRounds 5 none, Cond.methodLink RX4 86 Lib.Math.min.name, Cond.methodLink RX4 77 yX4_fullRounds, Cond.instanceMethod yX4_fullRounds, Cond.selects RX4 yX4_fullRounds yX4_fullRounds, Cond.code yX4_fullRounds cX4_fullRounds 4 (some .int), Cond.methodLink RX4 89 yX3_lack, Cond.methodLink RX4 83 yX3_portion, Cond.instanceMethod yX3_portion, Cond.selects RX3 yX3_portion yX3_portion, Cond.code yX3_portion cX3_portion 1 (some .int), Cond.fieldLink RX3 15 "RainReservoir$User" "weight" "I", Cond.methodLink RX4 80 yX4_giveRounds, Cond.instanceMethod yX4_giveRounds, Cond.selects RX4 yX4_giveRounds yX4_giveRounds, Cond.code yX4_giveRounds cX4_giveRounds 4 (some .int), Cond.methodLink RX4 67 yX4_shareSmallestFirst, Cond.instanceMethod yX4_shareSmallestFirst, Cond.selects RX4 yX4_shareSmallestFirst yX4_shareSmallestFirst, Cond.code yX4_shareSmallestFirst cX4_shareSmallestFirst 4 none, Cond.methodLink RX2 123 yX4_demandInAll, Cond.methodLink RX2 130 yX2_isShort, Cond.instanceMethod yX2_isShort]
def wsX5_triedShortDays_r6 : List Cond := [Cond.selects RX2 yX2_isShort yX2_isShort, Cond.code yX2_isShort cX2_isShort 2 (some .boolean)]
def wsX5_triedShortDays : List Cond := .code yX5_triedShortDays cX5_triedShortDays 3 (some .int) :: ((wsX5_triedShortDays_r1 ++ (wsX5_triedShortDays_r2 ++ (wsX5_triedShortDays_r3 ++ (wsX5_triedShortDays_r4 ++ (wsX5_triedShortDays_r5 ++ wsX5_triedShortDays_r6))))) ++ wsX50 ++ wsX20 ++ wsX40 ++ wsX30)
def wsX5_shortDaysWith_r1 : List Cond := [Cond.constant RX5 85 (60000), Cond.methodLink RX5 30 yX5_checkRange, Cond.static yX5_checkRange, Cond.initialized RX5, Cond.code yX5_checkRange cX5_checkRange 3 none, Cond.classLink RX5 224 "java/lang/IllegalArgumentException", Cond.initialized "java/lang/IllegalArgumentException", Cond.methodLink RX5 170 yX5_prepareTrial, Cond.instanceMethod yX5_prepareTrial, Cond.selects RX5 yX5_prepareTrial yX5_prepareTrial, Cond.code yX5_prepareTrial cX5_prepareTrial 2 none, Cond.fieldLink RX5 16 "RainReservoir" "trial" "LRainReservoir$State;", Cond.fieldLink RX5 10 "RainReservoir" "now" "LRainReservoir$State;", Cond.fieldLink RX5 127 "RainReservoir$State" "rainCount" "I", Cond.methodLink RX5 212 yX2_copyFrom, Cond.instanceMethod yX2_copyFrom, Cond.selects RX2 yX2_copyFrom yX2_copyFrom, Cond.initialized RX2, Cond.code yX2_copyFrom cX2_copyFrom 3 none, Cond.fieldLink RX2 9 "RainReservoir$State" "capacity" "I", Cond.fieldLink RX2 39 "RainReservoir$State" "floor" "I", Cond.fieldLink RX2 42 "RainReservoir$State" "topUp" "I", Cond.fieldLink RX2 45 "RainReservoir$State" "evaporation" "I", Cond.fieldLink RX2 15 "RainReservoir$State" "dryLimit" "I"]
def wsX5_shortDaysWith_r2 : List Cond := [Cond.fieldLink RX2 48 "RainReservoir$State" "rule" "I", Cond.fieldLink RX2 51 "RainReservoir$State" "roofCount" "I", Cond.fieldLink RX2 20 "RainReservoir$State" "roofs" "[LRainReservoir$Roof;", Cond.fieldLink RX2 28 "RainReservoir$State" "users" "LRainReservoir$Users;", Cond.fieldLink RX2 61 "RainReservoir$State" "rainCount" "I", Cond.fieldLink RX2 32 "RainReservoir$State" "rains" "[I", Cond.methodLink RX2 64 arraycopyName, Cond.native arraycopyName, Cond.static arraycopyName, Cond.initialized "java/lang/System", Cond.fieldLink RX2 70 "RainReservoir$State" "doneCount" "I", Cond.fieldLink RX2 36 "RainReservoir$State" "accounts" "[I", Cond.fieldLink RX2 73 "RainReservoir$State" "level" "I", Cond.fieldLink RX2 76 "RainReservoir$State" "dryDays" "I", Cond.fieldLink RX2 79 "RainReservoir$State" "looseOverflow" "J", Cond.methodLink RX2 54 yX1_copyFrom, Cond.instanceMethod yX1_copyFrom, Cond.selects RX1 yX1_copyFrom yX1_copyFrom, Cond.initialized RX1, Cond.code yX1_copyFrom cX1_copyFrom 2 none, Cond.fieldLink RX1 7 "RainReservoir$Roof" "area" "I", Cond.fieldLink RX1 13 "RainReservoir$Roof" "yieldPercent" "I", Cond.fieldLink RX1 16 "RainReservoir$Roof" "flush" "I", Cond.fieldLink RX1 19 "RainReservoir$Roof" "gutter" "I"]
def wsX5_shortDaysWith_r3 : List Cond := [Cond.fieldLink RX1 29 "RainReservoir$Roof" "water" "I", Cond.fieldLink RX1 32 "RainReservoir$Roof" "spilledInAll" "I", Cond.methodLink RX1 25 yX1_set, Cond.instanceMethod yX1_set, Cond.selects RX1 yX1_set yX1_set, Cond.code yX1_set cX1_set 5 none, Cond.methodLink RX1 22 yX1_clearAmounts, Cond.instanceMethod yX1_clearAmounts, Cond.selects RX1 yX1_clearAmounts yX1_clearAmounts, Cond.code yX1_clearAmounts cX1_clearAmounts 1 none, Cond.methodLink RX2 58 yX4_copyFrom, Cond.instanceMethod yX4_copyFrom, Cond.selects RX4 yX4_copyFrom yX4_copyFrom, Cond.initialized RX4, Cond.code yX4_copyFrom cX4_copyFrom 3 none, Cond.fieldLink RX4 22 "RainReservoir$Users" "count" "I", Cond.fieldLink RX4 11 "RainReservoir$Users" "rows" "[LRainReservoir$User;", Cond.methodLink RX4 26 yX3_copyFrom, Cond.instanceMethod yX3_copyFrom, Cond.selects RX3 yX3_copyFrom yX3_copyFrom, Cond.initialized RX3, Cond.code yX3_copyFrom cX3_copyFrom 2 none, Cond.fieldLink RX3 9 "RainReservoir$User" "demand" "I", Cond.fieldLink RX3 15 "RainReservoir$User" "weight" "I"]
def wsX5_shortDaysWith_r4 : List Cond := [Cond.fieldLink RX3 25 "RainReservoir$User" "gotLatest" "I", Cond.fieldLink RX3 28 "RainReservoir$User" "gotInAll" "I", Cond.methodLink RX3 21 yX3_set, Cond.instanceMethod yX3_set, Cond.selects RX3 yX3_set yX3_set, Cond.code yX3_set cX3_set 3 none, Cond.methodLink RX3 18 yX3_clearAmounts, Cond.instanceMethod yX3_clearAmounts, Cond.selects RX3 yX3_clearAmounts yX3_clearAmounts, Cond.code yX3_clearAmounts cX3_clearAmounts 1 none, Cond.methodLink RX5 158 yX2_goBack, Cond.instanceMethod yX2_goBack, Cond.selects RX2 yX2_goBack yX2_goBack, Cond.code yX2_goBack cX2_goBack 2 none, Cond.methodLink RX2 83 yX1_clearAmounts, Cond.methodLink RX2 86 yX4_clearAmounts, Cond.instanceMethod yX4_clearAmounts, Cond.selects RX4 yX4_clearAmounts yX4_clearAmounts, Cond.code yX4_clearAmounts cX4_clearAmounts 2 none, Cond.methodLink RX4 30 yX3_clearAmounts, Cond.methodLink RX5 148 yX2_collect, Cond.instanceMethod yX2_collect, Cond.selects RX2 yX2_collect yX2_collect, Cond.code yX2_collect cX2_collect 11 none]
def wsX5_shortDaysWith_r5 : List Cond := [Cond.methodLink RX2 99 yX2_drainWhenDry, Cond.instanceMethod yX2_drainWhenDry, Cond.selects RX2 yX2_drainWhenDry yX2_drainWhenDry, Cond.code yX2_drainWhenDry cX2_drainWhenDry 4 (some .int), Cond.methodLink RX2 134 yX1_drain, Cond.instanceMethod yX1_drain, Cond.selects RX1 yX1_drain yX1_drain, Cond.code yX1_drain cX1_drain 2 (some .int), Cond.methodLink RX2 103 yX1_caught, Cond.instanceMethod yX1_caught, Cond.selects RX1 yX1_caught yX1_caught, Cond.code yX1_caught cX1_caught 2 (some .int), Cond.methodLink RX2 106 yX1_divert, Cond.instanceMethod yX1_divert, Cond.selects RX1 yX1_divert yX1_divert, Cond.code yX1_divert cX1_divert 3 (some .int), Cond.methodLink RX1 35 Lib.Math.min.name, Cond.static Lib.Math.min.name, Cond.initialized "java/lang/Math", Cond.code Lib.Math.min.name Lib.Math.min.code 2 (some .int), Cond.methodLink RX2 109 yX1_spill, Cond.instanceMethod yX1_spill, Cond.selects RX1 yX1_spill yX1_spill, Cond.code yX1_spill cX1_spill 3 (some .int)]
def wsX5_shortDaysWith_r6 : List Cond := [Cond.methodLink RX1 41 Lib.Math.max.name, Cond.static Lib.Math.max.name, Cond.code Lib.Math.max.name Lib.Math.max.code 2 (some .int), Cond.methodLink RX2 112 yX2_put, Cond.instanceMethod yX2_put, Cond.selects RX2 yX2_put yX2_put, Cond.code yX2_put cX2_put 4 none, Cond.methodLink RX5 173 yX5_triedShortDays, Cond.instanceMethod yX5_triedShortDays, Cond.selects RX5 yX5_triedShortDays yX5_triedShortDays, Cond.code yX5_triedShortDays cX5_triedShortDays 3 (some .int), Cond.fieldLink RX5 86 "RainReservoir$State" "capacity" "I", Cond.fieldLink RX5 89 "RainReservoir$State" "floor" "I", Cond.methodLink RX5 242 Lib.Math.min.name, Cond.fieldLink RX5 92 "RainReservoir$State" "topUp" "I", Cond.methodLink RX5 176 yX2_serveAll, Cond.instanceMethod yX2_serveAll, Cond.selects RX2 yX2_serveAll yX2_serveAll, Cond.code yX2_serveAll cX2_serveAll 4 (some .int), Cond.methodLink RX2 126 yX2_serve, Cond.instanceMethod yX2_serve, Cond.selects RX2 yX2_serve yX2_serve, Cond.code yX2_serve cX2_serve 5 none, Cond.methodLink RX2 94 Lib.Math.max.name]
def wsX5_shortDaysWith_r7 : List Cond := [Cond.methodLink RX2 90 yX2_account, Cond.instanceMethod yX2_account, Cond.selects RX2 yX2_account yX2_account, Cond.code yX2_account cX2_account 3 (some .int), Cond.methodLink RX2 116 yX2_dropAboveCapacity, Cond.instanceMethod yX2_dropAboveCapacity, Cond.selects RX2 yX2_dropAboveCapacity yX2_dropAboveCapacity, Cond.code yX2_dropAboveCapacity cX2_dropAboveCapacity 2 (some .int), Cond.methodLink RX2 120 yX4_handOut, Cond.instanceMethod yX4_handOut, Cond.selects RX4 yX4_handOut yX4_handOut, Cond.code yX4_handOut cX4_handOut 6 (some .int), Cond.fieldLink RX4 45 "RainReservoir$User" "gotLatest" "I", Cond.fieldLink RX4 36 "RainReservoir$User" "gotInAll" "I", Cond.methodLink RX4 48 yX4_demandInAll, Cond.instanceMethod yX4_demandInAll, Cond.selects RX4 yX4_demandInAll yX4_demandInAll, Cond.code yX4_demandInAll cX4_demandInAll 3 (some .int), Cond.fieldLink RX4 33 "RainReservoir$User" "demand" "I", Cond.methodLink RX4 52 yX4_shareInOrder, Cond.instanceMethod yX4_shareInOrder, Cond.selects RX4 yX4_shareInOrder yX4_shareInOrder, Cond.code yX4_shareInOrder cX4_shareInOrder 3 none, Cond.fieldLink RX4 18 "RainReservoir$Users" "order" "[I"]
def wsX5_shortDaysWith_r8 : List Cond := [Cond.methodLink RX4 74 yX4_serveOrder, Cond.instanceMethod yX4_serveOrder, Cond.selects RX4 yX4_serveOrder yX4_serveOrder, Cond.code yX4_serveOrder cX4_serveOrder 4 none, Cond.methodLink RX4 70 yX3_give, Cond.instanceMethod yX3_give, Cond.selects RX3 yX3_give yX3_give, Cond.code yX3_give cX3_give 3 (some .int), Cond.methodLink RX3 35 Lib.Math.min.name, Cond.methodLink RX3 31 yX3_lack, Cond.instanceMethod yX3_lack, Cond.selects RX3 yX3_lack yX3_lack, Cond.code yX3_lack cX3_lack 1 (some .int), Cond.methodLink RX4 56 yX4_share, Cond.instanceMethod yX4_share, Cond.selects RX4 yX4_share yX4_share, Cond.code yX4_share cX4_share 4 none, Cond.methodLink RX4 60 yX4_shareByDemand, Cond.instanceMethod yX4_shareByDemand, Cond.selects RX4 yX4_shareByDemand yX4_shareByDemand, Cond.code yX4_shareByDemand cX4_shareByDemand 7 none, Cond.methodLink RX4 64 yX4_shareInRounds, Cond.instanceMethod yX4_shareInRounds, Cond.selects RX4 yX4_shareInRounds yX4_shareInRounds]
def wsX5_shortDaysWith_r9 : List Cond := [Cond.code yX4_shareInRounds cX4_shareInRounds 5 none, Cond.methodLink RX4 86 Lib.Math.min.name, Cond.methodLink RX4 77 yX4_fullRounds, Cond.instanceMethod yX4_fullRounds, Cond.selects RX4 yX4_fullRounds yX4_fullRounds, Cond.code yX4_fullRounds cX4_fullRounds 4 (some .int), Cond.methodLink RX4 89 yX3_lack, Cond.methodLink RX4 83 yX3_portion, Cond.instanceMethod yX3_portion, Cond.selects RX3 yX3_portion yX3_portion, Cond.code yX3_portion cX3_portion 1 (some .int), Cond.methodLink RX4 80 yX4_giveRounds, Cond.instanceMethod yX4_giveRounds, Cond.selects RX4 yX4_giveRounds yX4_giveRounds, Cond.code yX4_giveRounds cX4_giveRounds 4 (some .int), Cond.methodLink RX4 67 yX4_shareSmallestFirst, Cond.instanceMethod yX4_shareSmallestFirst, Cond.selects RX4 yX4_shareSmallestFirst yX4_shareSmallestFirst, Cond.code yX4_shareSmallestFirst cX4_shareSmallestFirst 4 none, Cond.methodLink RX2 123 yX4_demandInAll, Cond.methodLink RX2 130 yX2_isShort, Cond.instanceMethod yX2_isShort, Cond.selects RX2 yX2_isShort yX2_isShort, Cond.code yX2_isShort cX2_isShort 2 (some .boolean)]
def wsX5_shortDaysWith : List Cond := .code yX5_shortDaysWith cX5_shortDaysWith 2 (some .int) :: ((wsX5_shortDaysWith_r1 ++ (wsX5_shortDaysWith_r2 ++ (wsX5_shortDaysWith_r3 ++ (wsX5_shortDaysWith_r4 ++ (wsX5_shortDaysWith_r5 ++ (wsX5_shortDaysWith_r6 ++ (wsX5_shortDaysWith_r7 ++ (wsX5_shortDaysWith_r8 ++ wsX5_shortDaysWith_r9)))))))) ++ wsX50 ++ wsX20 ++ wsX10 ++ wsX40 ++ wsX30 ++ (vx_atS RX5 228 "java/lang/IllegalArgumentException" ["java/lang/RuntimeException", "java/lang/Exception"]).filter goodWord)
def wsX5_capacityFor_r1 : List Cond := [Cond.constant RX5 85 (60000), Cond.methodLink RX5 30 yX5_checkRange, Cond.static yX5_checkRange, Cond.initialized RX5, Cond.code yX5_checkRange cX5_checkRange 3 none, Cond.classLink RX5 224 "java/lang/IllegalArgumentException", Cond.initialized "java/lang/IllegalArgumentException", Cond.methodLink RX5 170 yX5_prepareTrial, Cond.instanceMethod yX5_prepareTrial, Cond.selects RX5 yX5_prepareTrial yX5_prepareTrial, Cond.code yX5_prepareTrial cX5_prepareTrial 2 none, Cond.fieldLink RX5 16 "RainReservoir" "trial" "LRainReservoir$State;", Cond.fieldLink RX5 10 "RainReservoir" "now" "LRainReservoir$State;", Cond.fieldLink RX5 127 "RainReservoir$State" "rainCount" "I", Cond.methodLink RX5 212 yX2_copyFrom, Cond.instanceMethod yX2_copyFrom, Cond.selects RX2 yX2_copyFrom yX2_copyFrom, Cond.initialized RX2, Cond.code yX2_copyFrom cX2_copyFrom 3 none, Cond.fieldLink RX2 9 "RainReservoir$State" "capacity" "I", Cond.fieldLink RX2 39 "RainReservoir$State" "floor" "I", Cond.fieldLink RX2 42 "RainReservoir$State" "topUp" "I", Cond.fieldLink RX2 45 "RainReservoir$State" "evaporation" "I", Cond.fieldLink RX2 15 "RainReservoir$State" "dryLimit" "I"]
def wsX5_capacityFor_r2 : List Cond := [Cond.fieldLink RX2 48 "RainReservoir$State" "rule" "I", Cond.fieldLink RX2 51 "RainReservoir$State" "roofCount" "I", Cond.fieldLink RX2 20 "RainReservoir$State" "roofs" "[LRainReservoir$Roof;", Cond.fieldLink RX2 28 "RainReservoir$State" "users" "LRainReservoir$Users;", Cond.fieldLink RX2 61 "RainReservoir$State" "rainCount" "I", Cond.fieldLink RX2 32 "RainReservoir$State" "rains" "[I", Cond.methodLink RX2 64 arraycopyName, Cond.native arraycopyName, Cond.static arraycopyName, Cond.initialized "java/lang/System", Cond.fieldLink RX2 70 "RainReservoir$State" "doneCount" "I", Cond.fieldLink RX2 36 "RainReservoir$State" "accounts" "[I", Cond.fieldLink RX2 73 "RainReservoir$State" "level" "I", Cond.fieldLink RX2 76 "RainReservoir$State" "dryDays" "I", Cond.fieldLink RX2 79 "RainReservoir$State" "looseOverflow" "J", Cond.methodLink RX2 54 yX1_copyFrom, Cond.instanceMethod yX1_copyFrom, Cond.selects RX1 yX1_copyFrom yX1_copyFrom, Cond.initialized RX1, Cond.code yX1_copyFrom cX1_copyFrom 2 none, Cond.fieldLink RX1 7 "RainReservoir$Roof" "area" "I", Cond.fieldLink RX1 13 "RainReservoir$Roof" "yieldPercent" "I", Cond.fieldLink RX1 16 "RainReservoir$Roof" "flush" "I", Cond.fieldLink RX1 19 "RainReservoir$Roof" "gutter" "I"]
def wsX5_capacityFor_r3 : List Cond := [Cond.fieldLink RX1 29 "RainReservoir$Roof" "water" "I", Cond.fieldLink RX1 32 "RainReservoir$Roof" "spilledInAll" "I", Cond.methodLink RX1 25 yX1_set, Cond.instanceMethod yX1_set, Cond.selects RX1 yX1_set yX1_set, Cond.code yX1_set cX1_set 5 none, Cond.methodLink RX1 22 yX1_clearAmounts, Cond.instanceMethod yX1_clearAmounts, Cond.selects RX1 yX1_clearAmounts yX1_clearAmounts, Cond.code yX1_clearAmounts cX1_clearAmounts 1 none, Cond.methodLink RX2 58 yX4_copyFrom, Cond.instanceMethod yX4_copyFrom, Cond.selects RX4 yX4_copyFrom yX4_copyFrom, Cond.initialized RX4, Cond.code yX4_copyFrom cX4_copyFrom 3 none, Cond.fieldLink RX4 22 "RainReservoir$Users" "count" "I", Cond.fieldLink RX4 11 "RainReservoir$Users" "rows" "[LRainReservoir$User;", Cond.methodLink RX4 26 yX3_copyFrom, Cond.instanceMethod yX3_copyFrom, Cond.selects RX3 yX3_copyFrom yX3_copyFrom, Cond.initialized RX3, Cond.code yX3_copyFrom cX3_copyFrom 2 none, Cond.fieldLink RX3 9 "RainReservoir$User" "demand" "I", Cond.fieldLink RX3 15 "RainReservoir$User" "weight" "I"]
def wsX5_capacityFor_r4 : List Cond := [Cond.fieldLink RX3 25 "RainReservoir$User" "gotLatest" "I", Cond.fieldLink RX3 28 "RainReservoir$User" "gotInAll" "I", Cond.methodLink RX3 21 yX3_set, Cond.instanceMethod yX3_set, Cond.selects RX3 yX3_set yX3_set, Cond.code yX3_set cX3_set 3 none, Cond.methodLink RX3 18 yX3_clearAmounts, Cond.instanceMethod yX3_clearAmounts, Cond.selects RX3 yX3_clearAmounts yX3_clearAmounts, Cond.code yX3_clearAmounts cX3_clearAmounts 1 none, Cond.methodLink RX5 158 yX2_goBack, Cond.instanceMethod yX2_goBack, Cond.selects RX2 yX2_goBack yX2_goBack, Cond.code yX2_goBack cX2_goBack 2 none, Cond.methodLink RX2 83 yX1_clearAmounts, Cond.methodLink RX2 86 yX4_clearAmounts, Cond.instanceMethod yX4_clearAmounts, Cond.selects RX4 yX4_clearAmounts yX4_clearAmounts, Cond.code yX4_clearAmounts cX4_clearAmounts 2 none, Cond.methodLink RX4 30 yX3_clearAmounts, Cond.methodLink RX5 148 yX2_collect, Cond.instanceMethod yX2_collect, Cond.selects RX2 yX2_collect yX2_collect, Cond.code yX2_collect cX2_collect 11 none]
def wsX5_capacityFor_r5 : List Cond := [Cond.methodLink RX2 99 yX2_drainWhenDry, Cond.instanceMethod yX2_drainWhenDry, Cond.selects RX2 yX2_drainWhenDry yX2_drainWhenDry, Cond.code yX2_drainWhenDry cX2_drainWhenDry 4 (some .int), Cond.methodLink RX2 134 yX1_drain, Cond.instanceMethod yX1_drain, Cond.selects RX1 yX1_drain yX1_drain, Cond.code yX1_drain cX1_drain 2 (some .int), Cond.methodLink RX2 103 yX1_caught, Cond.instanceMethod yX1_caught, Cond.selects RX1 yX1_caught yX1_caught, Cond.code yX1_caught cX1_caught 2 (some .int), Cond.methodLink RX2 106 yX1_divert, Cond.instanceMethod yX1_divert, Cond.selects RX1 yX1_divert yX1_divert, Cond.code yX1_divert cX1_divert 3 (some .int), Cond.methodLink RX1 35 Lib.Math.min.name, Cond.static Lib.Math.min.name, Cond.initialized "java/lang/Math", Cond.code Lib.Math.min.name Lib.Math.min.code 2 (some .int), Cond.methodLink RX2 109 yX1_spill, Cond.instanceMethod yX1_spill, Cond.selects RX1 yX1_spill yX1_spill, Cond.code yX1_spill cX1_spill 3 (some .int)]
def wsX5_capacityFor_r6 : List Cond := [Cond.methodLink RX1 41 Lib.Math.max.name, Cond.static Lib.Math.max.name, Cond.code Lib.Math.max.name Lib.Math.max.code 2 (some .int), Cond.methodLink RX2 112 yX2_put, Cond.instanceMethod yX2_put, Cond.selects RX2 yX2_put yX2_put, Cond.code yX2_put cX2_put 4 none, Cond.methodLink RX5 173 yX5_triedShortDays, Cond.instanceMethod yX5_triedShortDays, Cond.selects RX5 yX5_triedShortDays yX5_triedShortDays, Cond.code yX5_triedShortDays cX5_triedShortDays 3 (some .int), Cond.fieldLink RX5 86 "RainReservoir$State" "capacity" "I", Cond.fieldLink RX5 89 "RainReservoir$State" "floor" "I", Cond.methodLink RX5 242 Lib.Math.min.name, Cond.fieldLink RX5 92 "RainReservoir$State" "topUp" "I", Cond.methodLink RX5 176 yX2_serveAll, Cond.instanceMethod yX2_serveAll, Cond.selects RX2 yX2_serveAll yX2_serveAll, Cond.code yX2_serveAll cX2_serveAll 4 (some .int), Cond.methodLink RX2 126 yX2_serve, Cond.instanceMethod yX2_serve, Cond.selects RX2 yX2_serve yX2_serve, Cond.code yX2_serve cX2_serve 5 none, Cond.methodLink RX2 94 Lib.Math.max.name]
def wsX5_capacityFor_r7 : List Cond := [Cond.methodLink RX2 90 yX2_account, Cond.instanceMethod yX2_account, Cond.selects RX2 yX2_account yX2_account, Cond.code yX2_account cX2_account 3 (some .int), Cond.methodLink RX2 116 yX2_dropAboveCapacity, Cond.instanceMethod yX2_dropAboveCapacity, Cond.selects RX2 yX2_dropAboveCapacity yX2_dropAboveCapacity, Cond.code yX2_dropAboveCapacity cX2_dropAboveCapacity 2 (some .int), Cond.methodLink RX2 120 yX4_handOut, Cond.instanceMethod yX4_handOut, Cond.selects RX4 yX4_handOut yX4_handOut, Cond.code yX4_handOut cX4_handOut 6 (some .int), Cond.fieldLink RX4 45 "RainReservoir$User" "gotLatest" "I", Cond.fieldLink RX4 36 "RainReservoir$User" "gotInAll" "I", Cond.methodLink RX4 48 yX4_demandInAll, Cond.instanceMethod yX4_demandInAll, Cond.selects RX4 yX4_demandInAll yX4_demandInAll, Cond.code yX4_demandInAll cX4_demandInAll 3 (some .int), Cond.fieldLink RX4 33 "RainReservoir$User" "demand" "I", Cond.methodLink RX4 52 yX4_shareInOrder, Cond.instanceMethod yX4_shareInOrder, Cond.selects RX4 yX4_shareInOrder yX4_shareInOrder, Cond.code yX4_shareInOrder cX4_shareInOrder 3 none, Cond.fieldLink RX4 18 "RainReservoir$Users" "order" "[I"]
def wsX5_capacityFor_r8 : List Cond := [Cond.methodLink RX4 74 yX4_serveOrder, Cond.instanceMethod yX4_serveOrder, Cond.selects RX4 yX4_serveOrder yX4_serveOrder, Cond.code yX4_serveOrder cX4_serveOrder 4 none, Cond.methodLink RX4 70 yX3_give, Cond.instanceMethod yX3_give, Cond.selects RX3 yX3_give yX3_give, Cond.code yX3_give cX3_give 3 (some .int), Cond.methodLink RX3 35 Lib.Math.min.name, Cond.methodLink RX3 31 yX3_lack, Cond.instanceMethod yX3_lack, Cond.selects RX3 yX3_lack yX3_lack, Cond.code yX3_lack cX3_lack 1 (some .int), Cond.methodLink RX4 56 yX4_share, Cond.instanceMethod yX4_share, Cond.selects RX4 yX4_share yX4_share, Cond.code yX4_share cX4_share 4 none, Cond.methodLink RX4 60 yX4_shareByDemand, Cond.instanceMethod yX4_shareByDemand, Cond.selects RX4 yX4_shareByDemand yX4_shareByDemand, Cond.code yX4_shareByDemand cX4_shareByDemand 7 none, Cond.methodLink RX4 64 yX4_shareInRounds, Cond.instanceMethod yX4_shareInRounds, Cond.selects RX4 yX4_shareInRounds yX4_shareInRounds]
def wsX5_capacityFor_r9 : List Cond := [Cond.code yX4_shareInRounds cX4_shareInRounds 5 none, Cond.methodLink RX4 86 Lib.Math.min.name, Cond.methodLink RX4 77 yX4_fullRounds, Cond.instanceMethod yX4_fullRounds, Cond.selects RX4 yX4_fullRounds yX4_fullRounds, Cond.code yX4_fullRounds cX4_fullRounds 4 (some .int), Cond.methodLink RX4 89 yX3_lack, Cond.methodLink RX4 83 yX3_portion, Cond.instanceMethod yX3_portion, Cond.selects RX3 yX3_portion yX3_portion, Cond.code yX3_portion cX3_portion 1 (some .int), Cond.methodLink RX4 80 yX4_giveRounds, Cond.instanceMethod yX4_giveRounds, Cond.selects RX4 yX4_giveRounds yX4_giveRounds, Cond.code yX4_giveRounds cX4_giveRounds 4 (some .int), Cond.methodLink RX4 67 yX4_shareSmallestFirst, Cond.instanceMethod yX4_shareSmallestFirst, Cond.selects RX4 yX4_shareSmallestFirst yX4_shareSmallestFirst, Cond.code yX4_shareSmallestFirst cX4_shareSmallestFirst 4 none, Cond.methodLink RX2 123 yX4_demandInAll, Cond.methodLink RX2 130 yX2_isShort, Cond.instanceMethod yX2_isShort, Cond.selects RX2 yX2_isShort yX2_isShort, Cond.code yX2_isShort cX2_isShort 2 (some .boolean)]
def wsX5_capacityFor : List Cond := .code yX5_capacityFor cX5_capacityFor 3 (some .int) :: ((wsX5_capacityFor_r1 ++ (wsX5_capacityFor_r2 ++ (wsX5_capacityFor_r3 ++ (wsX5_capacityFor_r4 ++ (wsX5_capacityFor_r5 ++ (wsX5_capacityFor_r6 ++ (wsX5_capacityFor_r7 ++ (wsX5_capacityFor_r8 ++ wsX5_capacityFor_r9)))))))) ++ wsX50 ++ wsX20 ++ wsX10 ++ wsX40 ++ wsX30 ++ (vx_atS RX5 228 "java/lang/IllegalArgumentException" ["java/lang/RuntimeException", "java/lang/Exception"]).filter goodWord)
def wsX5_bestRule_r1 : List Cond := [Cond.fieldLink RX5 16 "RainReservoir" "trial" "LRainReservoir$State;", Cond.fieldLink RX5 103 "RainReservoir$State" "rule" "I", Cond.fieldLink RX5 59 "RainReservoir$State" "users" "LRainReservoir$Users;", Cond.fieldLink RX5 127 "RainReservoir$State" "rainCount" "I", Cond.methodLink RX5 170 yX5_prepareTrial, Cond.instanceMethod yX5_prepareTrial, Cond.selects RX5 yX5_prepareTrial yX5_prepareTrial, Cond.initialized RX5, Cond.code yX5_prepareTrial cX5_prepareTrial 2 none, Cond.fieldLink RX5 10 "RainReservoir" "now" "LRainReservoir$State;", Cond.methodLink RX5 212 yX2_copyFrom, Cond.instanceMethod yX2_copyFrom, Cond.selects RX2 yX2_copyFrom yX2_copyFrom, Cond.initialized RX2, Cond.code yX2_copyFrom cX2_copyFrom 3 none, Cond.fieldLink RX2 9 "RainReservoir$State" "capacity" "I", Cond.fieldLink RX2 39 "RainReservoir$State" "floor" "I", Cond.fieldLink RX2 42 "RainReservoir$State" "topUp" "I", Cond.fieldLink RX2 45 "RainReservoir$State" "evaporation" "I", Cond.fieldLink RX2 15 "RainReservoir$State" "dryLimit" "I", Cond.fieldLink RX2 48 "RainReservoir$State" "rule" "I", Cond.fieldLink RX2 51 "RainReservoir$State" "roofCount" "I", Cond.fieldLink RX2 20 "RainReservoir$State" "roofs" "[LRainReservoir$Roof;", Cond.fieldLink RX2 28 "RainReservoir$State" "users" "LRainReservoir$Users;"]
def wsX5_bestRule_r2 : List Cond := [Cond.fieldLink RX2 61 "RainReservoir$State" "rainCount" "I", Cond.fieldLink RX2 32 "RainReservoir$State" "rains" "[I", Cond.methodLink RX2 64 arraycopyName, Cond.native arraycopyName, Cond.static arraycopyName, Cond.initialized "java/lang/System", Cond.fieldLink RX2 70 "RainReservoir$State" "doneCount" "I", Cond.fieldLink RX2 36 "RainReservoir$State" "accounts" "[I", Cond.fieldLink RX2 73 "RainReservoir$State" "level" "I", Cond.fieldLink RX2 76 "RainReservoir$State" "dryDays" "I", Cond.fieldLink RX2 79 "RainReservoir$State" "looseOverflow" "J", Cond.methodLink RX2 54 yX1_copyFrom, Cond.instanceMethod yX1_copyFrom, Cond.selects RX1 yX1_copyFrom yX1_copyFrom, Cond.initialized RX1, Cond.code yX1_copyFrom cX1_copyFrom 2 none, Cond.fieldLink RX1 7 "RainReservoir$Roof" "area" "I", Cond.fieldLink RX1 13 "RainReservoir$Roof" "yieldPercent" "I", Cond.fieldLink RX1 16 "RainReservoir$Roof" "flush" "I", Cond.fieldLink RX1 19 "RainReservoir$Roof" "gutter" "I", Cond.fieldLink RX1 29 "RainReservoir$Roof" "water" "I", Cond.fieldLink RX1 32 "RainReservoir$Roof" "spilledInAll" "I", Cond.methodLink RX1 25 yX1_set, Cond.instanceMethod yX1_set]
def wsX5_bestRule_r3 : List Cond := [Cond.selects RX1 yX1_set yX1_set, Cond.code yX1_set cX1_set 5 none, Cond.methodLink RX1 22 yX1_clearAmounts, Cond.instanceMethod yX1_clearAmounts, Cond.selects RX1 yX1_clearAmounts yX1_clearAmounts, Cond.code yX1_clearAmounts cX1_clearAmounts 1 none, Cond.methodLink RX2 58 yX4_copyFrom, Cond.instanceMethod yX4_copyFrom, Cond.selects RX4 yX4_copyFrom yX4_copyFrom, Cond.initialized RX4, Cond.code yX4_copyFrom cX4_copyFrom 3 none, Cond.fieldLink RX4 22 "RainReservoir$Users" "count" "I", Cond.fieldLink RX4 11 "RainReservoir$Users" "rows" "[LRainReservoir$User;", Cond.methodLink RX4 26 yX3_copyFrom, Cond.instanceMethod yX3_copyFrom, Cond.selects RX3 yX3_copyFrom yX3_copyFrom, Cond.initialized RX3, Cond.code yX3_copyFrom cX3_copyFrom 2 none, Cond.fieldLink RX3 9 "RainReservoir$User" "demand" "I", Cond.fieldLink RX3 15 "RainReservoir$User" "weight" "I", Cond.fieldLink RX3 25 "RainReservoir$User" "gotLatest" "I", Cond.fieldLink RX3 28 "RainReservoir$User" "gotInAll" "I", Cond.methodLink RX3 21 yX3_set, Cond.instanceMethod yX3_set]
def wsX5_bestRule_r4 : List Cond := [Cond.selects RX3 yX3_set yX3_set, Cond.code yX3_set cX3_set 3 none, Cond.methodLink RX3 18 yX3_clearAmounts, Cond.instanceMethod yX3_clearAmounts, Cond.selects RX3 yX3_clearAmounts yX3_clearAmounts, Cond.code yX3_clearAmounts cX3_clearAmounts 1 none, Cond.methodLink RX5 158 yX2_goBack, Cond.instanceMethod yX2_goBack, Cond.selects RX2 yX2_goBack yX2_goBack, Cond.code yX2_goBack cX2_goBack 2 none, Cond.methodLink RX2 83 yX1_clearAmounts, Cond.methodLink RX2 86 yX4_clearAmounts, Cond.instanceMethod yX4_clearAmounts, Cond.selects RX4 yX4_clearAmounts yX4_clearAmounts, Cond.code yX4_clearAmounts cX4_clearAmounts 2 none, Cond.methodLink RX4 30 yX3_clearAmounts, Cond.methodLink RX5 148 yX2_collect, Cond.instanceMethod yX2_collect, Cond.selects RX2 yX2_collect yX2_collect, Cond.code yX2_collect cX2_collect 11 none, Cond.methodLink RX2 99 yX2_drainWhenDry, Cond.instanceMethod yX2_drainWhenDry, Cond.selects RX2 yX2_drainWhenDry yX2_drainWhenDry, Cond.code yX2_drainWhenDry cX2_drainWhenDry 4 (some .int)]
def wsX5_bestRule_r5 : List Cond := [Cond.methodLink RX2 134 yX1_drain, Cond.instanceMethod yX1_drain, Cond.selects RX1 yX1_drain yX1_drain, Cond.code yX1_drain cX1_drain 2 (some .int), Cond.methodLink RX2 103 yX1_caught, Cond.instanceMethod yX1_caught, Cond.selects RX1 yX1_caught yX1_caught, Cond.code yX1_caught cX1_caught 2 (some .int), Cond.methodLink RX2 106 yX1_divert, Cond.instanceMethod yX1_divert, Cond.selects RX1 yX1_divert yX1_divert, Cond.code yX1_divert cX1_divert 3 (some .int), Cond.methodLink RX1 35 Lib.Math.min.name, Cond.static Lib.Math.min.name, Cond.initialized "java/lang/Math", Cond.code Lib.Math.min.name Lib.Math.min.code 2 (some .int), Cond.methodLink RX2 109 yX1_spill, Cond.instanceMethod yX1_spill, Cond.selects RX1 yX1_spill yX1_spill, Cond.code yX1_spill cX1_spill 3 (some .int), Cond.methodLink RX1 41 Lib.Math.max.name, Cond.static Lib.Math.max.name, Cond.code Lib.Math.max.name Lib.Math.max.code 2 (some .int), Cond.methodLink RX2 112 yX2_put]
def wsX5_bestRule_r6 : List Cond := [Cond.instanceMethod yX2_put, Cond.selects RX2 yX2_put yX2_put, Cond.code yX2_put cX2_put 4 none, Cond.methodLink RX5 176 yX2_serveAll, Cond.instanceMethod yX2_serveAll, Cond.selects RX2 yX2_serveAll yX2_serveAll, Cond.code yX2_serveAll cX2_serveAll 4 (some .int), Cond.methodLink RX2 126 yX2_serve, Cond.instanceMethod yX2_serve, Cond.selects RX2 yX2_serve yX2_serve, Cond.code yX2_serve cX2_serve 5 none, Cond.methodLink RX2 94 Lib.Math.max.name, Cond.methodLink RX2 90 yX2_account, Cond.instanceMethod yX2_account, Cond.selects RX2 yX2_account yX2_account, Cond.code yX2_account cX2_account 3 (some .int), Cond.methodLink RX2 116 yX2_dropAboveCapacity, Cond.instanceMethod yX2_dropAboveCapacity, Cond.selects RX2 yX2_dropAboveCapacity yX2_dropAboveCapacity, Cond.code yX2_dropAboveCapacity cX2_dropAboveCapacity 2 (some .int), Cond.methodLink RX2 120 yX4_handOut, Cond.instanceMethod yX4_handOut, Cond.selects RX4 yX4_handOut yX4_handOut, Cond.code yX4_handOut cX4_handOut 6 (some .int)]
def wsX5_bestRule_r7 : List Cond := [Cond.fieldLink RX4 45 "RainReservoir$User" "gotLatest" "I", Cond.fieldLink RX4 36 "RainReservoir$User" "gotInAll" "I", Cond.methodLink RX4 48 yX4_demandInAll, Cond.instanceMethod yX4_demandInAll, Cond.selects RX4 yX4_demandInAll yX4_demandInAll, Cond.code yX4_demandInAll cX4_demandInAll 3 (some .int), Cond.fieldLink RX4 33 "RainReservoir$User" "demand" "I", Cond.methodLink RX4 52 yX4_shareInOrder, Cond.instanceMethod yX4_shareInOrder, Cond.selects RX4 yX4_shareInOrder yX4_shareInOrder, Cond.code yX4_shareInOrder cX4_shareInOrder 3 none, Cond.fieldLink RX4 18 "RainReservoir$Users" "order" "[I", Cond.methodLink RX4 74 yX4_serveOrder, Cond.instanceMethod yX4_serveOrder, Cond.selects RX4 yX4_serveOrder yX4_serveOrder, Cond.code yX4_serveOrder cX4_serveOrder 4 none, Cond.methodLink RX4 70 yX3_give, Cond.instanceMethod yX3_give, Cond.selects RX3 yX3_give yX3_give, Cond.code yX3_give cX3_give 3 (some .int), Cond.methodLink RX3 35 Lib.Math.min.name, Cond.methodLink RX3 31 yX3_lack, Cond.instanceMethod yX3_lack, Cond.selects RX3 yX3_lack yX3_lack]
def wsX5_bestRule_r8 : List Cond := [Cond.code yX3_lack cX3_lack 1 (some .int), Cond.methodLink RX4 56 yX4_share, Cond.instanceMethod yX4_share, Cond.selects RX4 yX4_share yX4_share, Cond.code yX4_share cX4_share 4 none, Cond.methodLink RX4 60 yX4_shareByDemand, Cond.instanceMethod yX4_shareByDemand, Cond.selects RX4 yX4_shareByDemand yX4_shareByDemand, Cond.code yX4_shareByDemand cX4_shareByDemand 7 none, Cond.methodLink RX4 64 yX4_shareInRounds, Cond.instanceMethod yX4_shareInRounds, Cond.selects RX4 yX4_shareInRounds yX4_shareInRounds, Cond.code yX4_shareInRounds cX4_shareInRounds 5 none, Cond.methodLink RX4 86 Lib.Math.min.name, Cond.methodLink RX4 77 yX4_fullRounds, Cond.instanceMethod yX4_fullRounds, Cond.selects RX4 yX4_fullRounds yX4_fullRounds, Cond.code yX4_fullRounds cX4_fullRounds 4 (some .int), Cond.methodLink RX4 89 yX3_lack, Cond.methodLink RX4 83 yX3_portion, Cond.instanceMethod yX3_portion, Cond.selects RX3 yX3_portion yX3_portion, Cond.code yX3_portion cX3_portion 1 (some .int), Cond.methodLink RX4 80 yX4_giveRounds]
def wsX5_bestRule_r9 : List Cond := [Cond.instanceMethod yX4_giveRounds, Cond.selects RX4 yX4_giveRounds yX4_giveRounds, Cond.code yX4_giveRounds cX4_giveRounds 4 (some .int), Cond.methodLink RX4 67 yX4_shareSmallestFirst, Cond.instanceMethod yX4_shareSmallestFirst, Cond.selects RX4 yX4_shareSmallestFirst yX4_shareSmallestFirst, Cond.code yX4_shareSmallestFirst cX4_shareSmallestFirst 4 none, Cond.methodLink RX2 123 yX4_demandInAll, Cond.methodLink RX2 130 yX2_isShort, Cond.instanceMethod yX2_isShort, Cond.selects RX2 yX2_isShort yX2_isShort, Cond.code yX2_isShort cX2_isShort 2 (some .boolean), Cond.methodLink RX5 179 yX4_greatestLack, Cond.instanceMethod yX4_greatestLack, Cond.selects RX4 yX4_greatestLack yX4_greatestLack, Cond.code yX4_greatestLack cX4_greatestLack 4 (some .int), Cond.methodLink RX4 39 Lib.Math.max.name]
def wsX5_bestRule : List Cond := .code yX5_bestRule cX5_bestRule 5 (some .int) :: ((wsX5_bestRule_r1 ++ (wsX5_bestRule_r2 ++ (wsX5_bestRule_r3 ++ (wsX5_bestRule_r4 ++ (wsX5_bestRule_r5 ++ (wsX5_bestRule_r6 ++ (wsX5_bestRule_r7 ++ (wsX5_bestRule_r8 ++ wsX5_bestRule_r9)))))))) ++ wsX50 ++ wsX20 ++ wsX10 ++ wsX40 ++ wsX30)
def wsX5_sustainable_r1 : List Cond := [Cond.fieldLink RX5 16 "RainReservoir" "trial" "LRainReservoir$State;", Cond.fieldLink RX5 59 "RainReservoir$State" "users" "LRainReservoir$Users;", Cond.fieldLink RX5 10 "RainReservoir" "now" "LRainReservoir$State;", Cond.methodLink RX5 170 yX5_prepareTrial, Cond.instanceMethod yX5_prepareTrial, Cond.selects RX5 yX5_prepareTrial yX5_prepareTrial, Cond.initialized RX5, Cond.code yX5_prepareTrial cX5_prepareTrial 2 none, Cond.fieldLink RX5 127 "RainReservoir$State" "rainCount" "I", Cond.methodLink RX5 212 yX2_copyFrom, Cond.instanceMethod yX2_copyFrom, Cond.selects RX2 yX2_copyFrom yX2_copyFrom, Cond.initialized RX2, Cond.code yX2_copyFrom cX2_copyFrom 3 none, Cond.fieldLink RX2 9 "RainReservoir$State" "capacity" "I", Cond.fieldLink RX2 39 "RainReservoir$State" "floor" "I", Cond.fieldLink RX2 42 "RainReservoir$State" "topUp" "I", Cond.fieldLink RX2 45 "RainReservoir$State" "evaporation" "I", Cond.fieldLink RX2 15 "RainReservoir$State" "dryLimit" "I", Cond.fieldLink RX2 48 "RainReservoir$State" "rule" "I", Cond.fieldLink RX2 51 "RainReservoir$State" "roofCount" "I", Cond.fieldLink RX2 20 "RainReservoir$State" "roofs" "[LRainReservoir$Roof;", Cond.fieldLink RX2 28 "RainReservoir$State" "users" "LRainReservoir$Users;", Cond.fieldLink RX2 61 "RainReservoir$State" "rainCount" "I"]
def wsX5_sustainable_r2 : List Cond := [Cond.fieldLink RX2 32 "RainReservoir$State" "rains" "[I", Cond.methodLink RX2 64 arraycopyName, Cond.native arraycopyName, Cond.static arraycopyName, Cond.initialized "java/lang/System", Cond.fieldLink RX2 70 "RainReservoir$State" "doneCount" "I", Cond.fieldLink RX2 36 "RainReservoir$State" "accounts" "[I", Cond.fieldLink RX2 73 "RainReservoir$State" "level" "I", Cond.fieldLink RX2 76 "RainReservoir$State" "dryDays" "I", Cond.fieldLink RX2 79 "RainReservoir$State" "looseOverflow" "J", Cond.methodLink RX2 54 yX1_copyFrom, Cond.instanceMethod yX1_copyFrom, Cond.selects RX1 yX1_copyFrom yX1_copyFrom, Cond.initialized RX1, Cond.code yX1_copyFrom cX1_copyFrom 2 none, Cond.fieldLink RX1 7 "RainReservoir$Roof" "area" "I", Cond.fieldLink RX1 13 "RainReservoir$Roof" "yieldPercent" "I", Cond.fieldLink RX1 16 "RainReservoir$Roof" "flush" "I", Cond.fieldLink RX1 19 "RainReservoir$Roof" "gutter" "I", Cond.fieldLink RX1 29 "RainReservoir$Roof" "water" "I", Cond.fieldLink RX1 32 "RainReservoir$Roof" "spilledInAll" "I", Cond.methodLink RX1 25 yX1_set, Cond.instanceMethod yX1_set, Cond.selects RX1 yX1_set yX1_set]
def wsX5_sustainable_r3 : List Cond := [Cond.code yX1_set cX1_set 5 none, Cond.methodLink RX1 22 yX1_clearAmounts, Cond.instanceMethod yX1_clearAmounts, Cond.selects RX1 yX1_clearAmounts yX1_clearAmounts, Cond.code yX1_clearAmounts cX1_clearAmounts 1 none, Cond.methodLink RX2 58 yX4_copyFrom, Cond.instanceMethod yX4_copyFrom, Cond.selects RX4 yX4_copyFrom yX4_copyFrom, Cond.initialized RX4, Cond.code yX4_copyFrom cX4_copyFrom 3 none, Cond.fieldLink RX4 22 "RainReservoir$Users" "count" "I", Cond.fieldLink RX4 11 "RainReservoir$Users" "rows" "[LRainReservoir$User;", Cond.methodLink RX4 26 yX3_copyFrom, Cond.instanceMethod yX3_copyFrom, Cond.selects RX3 yX3_copyFrom yX3_copyFrom, Cond.initialized RX3, Cond.code yX3_copyFrom cX3_copyFrom 2 none, Cond.fieldLink RX3 9 "RainReservoir$User" "demand" "I", Cond.fieldLink RX3 15 "RainReservoir$User" "weight" "I", Cond.fieldLink RX3 25 "RainReservoir$User" "gotLatest" "I", Cond.fieldLink RX3 28 "RainReservoir$User" "gotInAll" "I", Cond.methodLink RX3 21 yX3_set, Cond.instanceMethod yX3_set, Cond.selects RX3 yX3_set yX3_set]
def wsX5_sustainable_r4 : List Cond := [Cond.code yX3_set cX3_set 3 none, Cond.methodLink RX3 18 yX3_clearAmounts, Cond.instanceMethod yX3_clearAmounts, Cond.selects RX3 yX3_clearAmounts yX3_clearAmounts, Cond.code yX3_clearAmounts cX3_clearAmounts 1 none, Cond.methodLink RX5 158 yX2_goBack, Cond.instanceMethod yX2_goBack, Cond.selects RX2 yX2_goBack yX2_goBack, Cond.code yX2_goBack cX2_goBack 2 none, Cond.methodLink RX2 83 yX1_clearAmounts, Cond.methodLink RX2 86 yX4_clearAmounts, Cond.instanceMethod yX4_clearAmounts, Cond.selects RX4 yX4_clearAmounts yX4_clearAmounts, Cond.code yX4_clearAmounts cX4_clearAmounts 2 none, Cond.methodLink RX4 30 yX3_clearAmounts, Cond.methodLink RX5 148 yX2_collect, Cond.instanceMethod yX2_collect, Cond.selects RX2 yX2_collect yX2_collect, Cond.code yX2_collect cX2_collect 11 none, Cond.methodLink RX2 99 yX2_drainWhenDry, Cond.instanceMethod yX2_drainWhenDry, Cond.selects RX2 yX2_drainWhenDry yX2_drainWhenDry, Cond.code yX2_drainWhenDry cX2_drainWhenDry 4 (some .int), Cond.methodLink RX2 134 yX1_drain]
def wsX5_sustainable_r5 : List Cond := [Cond.instanceMethod yX1_drain, Cond.selects RX1 yX1_drain yX1_drain, Cond.code yX1_drain cX1_drain 2 (some .int), Cond.methodLink RX2 103 yX1_caught, Cond.instanceMethod yX1_caught, Cond.selects RX1 yX1_caught yX1_caught, Cond.code yX1_caught cX1_caught 2 (some .int), Cond.methodLink RX2 106 yX1_divert, Cond.instanceMethod yX1_divert, Cond.selects RX1 yX1_divert yX1_divert, Cond.code yX1_divert cX1_divert 3 (some .int), Cond.methodLink RX1 35 Lib.Math.min.name, Cond.static Lib.Math.min.name, Cond.initialized "java/lang/Math", Cond.code Lib.Math.min.name Lib.Math.min.code 2 (some .int), Cond.methodLink RX2 109 yX1_spill, Cond.instanceMethod yX1_spill, Cond.selects RX1 yX1_spill yX1_spill, Cond.code yX1_spill cX1_spill 3 (some .int), Cond.methodLink RX1 41 Lib.Math.max.name, Cond.static Lib.Math.max.name, Cond.code Lib.Math.max.name Lib.Math.max.code 2 (some .int), Cond.methodLink RX2 112 yX2_put, Cond.instanceMethod yX2_put]
def wsX5_sustainable_r6 : List Cond := [Cond.selects RX2 yX2_put yX2_put, Cond.code yX2_put cX2_put 4 none, Cond.methodLink RX5 182 yX4_scaleDemands, Cond.instanceMethod yX4_scaleDemands, Cond.selects RX4 yX4_scaleDemands yX4_scaleDemands, Cond.code yX4_scaleDemands cX4_scaleDemands 4 none, Cond.fieldLink RX4 33 "RainReservoir$User" "demand" "I", Cond.methodLink RX5 176 yX2_serveAll, Cond.instanceMethod yX2_serveAll, Cond.selects RX2 yX2_serveAll yX2_serveAll, Cond.code yX2_serveAll cX2_serveAll 4 (some .int), Cond.methodLink RX2 126 yX2_serve, Cond.instanceMethod yX2_serve, Cond.selects RX2 yX2_serve yX2_serve, Cond.code yX2_serve cX2_serve 5 none, Cond.methodLink RX2 94 Lib.Math.max.name, Cond.methodLink RX2 90 yX2_account, Cond.instanceMethod yX2_account, Cond.selects RX2 yX2_account yX2_account, Cond.code yX2_account cX2_account 3 (some .int), Cond.methodLink RX2 116 yX2_dropAboveCapacity, Cond.instanceMethod yX2_dropAboveCapacity, Cond.selects RX2 yX2_dropAboveCapacity yX2_dropAboveCapacity, Cond.code yX2_dropAboveCapacity cX2_dropAboveCapacity 2 (some .int)]
def wsX5_sustainable_r7 : List Cond := [Cond.methodLink RX2 120 yX4_handOut, Cond.instanceMethod yX4_handOut, Cond.selects RX4 yX4_handOut yX4_handOut, Cond.code yX4_handOut cX4_handOut 6 (some .int), Cond.fieldLink RX4 45 "RainReservoir$User" "gotLatest" "I", Cond.fieldLink RX4 36 "RainReservoir$User" "gotInAll" "I", Cond.methodLink RX4 48 yX4_demandInAll, Cond.instanceMethod yX4_demandInAll, Cond.selects RX4 yX4_demandInAll yX4_demandInAll, Cond.code yX4_demandInAll cX4_demandInAll 3 (some .int), Cond.methodLink RX4 52 yX4_shareInOrder, Cond.instanceMethod yX4_shareInOrder, Cond.selects RX4 yX4_shareInOrder yX4_shareInOrder, Cond.code yX4_shareInOrder cX4_shareInOrder 3 none, Cond.fieldLink RX4 18 "RainReservoir$Users" "order" "[I", Cond.methodLink RX4 74 yX4_serveOrder, Cond.instanceMethod yX4_serveOrder, Cond.selects RX4 yX4_serveOrder yX4_serveOrder, Cond.code yX4_serveOrder cX4_serveOrder 4 none, Cond.methodLink RX4 70 yX3_give, Cond.instanceMethod yX3_give, Cond.selects RX3 yX3_give yX3_give, Cond.code yX3_give cX3_give 3 (some .int), Cond.methodLink RX3 35 Lib.Math.min.name]
def wsX5_sustainable_r8 : List Cond := [Cond.methodLink RX3 31 yX3_lack, Cond.instanceMethod yX3_lack, Cond.selects RX3 yX3_lack yX3_lack, Cond.code yX3_lack cX3_lack 1 (some .int), Cond.methodLink RX4 56 yX4_share, Cond.instanceMethod yX4_share, Cond.selects RX4 yX4_share yX4_share, Cond.code yX4_share cX4_share 4 none, Cond.methodLink RX4 60 yX4_shareByDemand, Cond.instanceMethod yX4_shareByDemand, Cond.selects RX4 yX4_shareByDemand yX4_shareByDemand, Cond.code yX4_shareByDemand cX4_shareByDemand 7 none, Cond.methodLink RX4 64 yX4_shareInRounds, Cond.instanceMethod yX4_shareInRounds, Cond.selects RX4 yX4_shareInRounds yX4_shareInRounds, Cond.code yX4_shareInRounds cX4_shareInRounds 5 none, Cond.methodLink RX4 86 Lib.Math.min.name, Cond.methodLink RX4 77 yX4_fullRounds, Cond.instanceMethod yX4_fullRounds, Cond.selects RX4 yX4_fullRounds yX4_fullRounds, Cond.code yX4_fullRounds cX4_fullRounds 4 (some .int), Cond.methodLink RX4 89 yX3_lack, Cond.methodLink RX4 83 yX3_portion, Cond.instanceMethod yX3_portion]
def wsX5_sustainable_r9 : List Cond := [Cond.selects RX3 yX3_portion yX3_portion, Cond.code yX3_portion cX3_portion 1 (some .int), Cond.methodLink RX4 80 yX4_giveRounds, Cond.instanceMethod yX4_giveRounds, Cond.selects RX4 yX4_giveRounds yX4_giveRounds, Cond.code yX4_giveRounds cX4_giveRounds 4 (some .int), Cond.methodLink RX4 67 yX4_shareSmallestFirst, Cond.instanceMethod yX4_shareSmallestFirst, Cond.selects RX4 yX4_shareSmallestFirst yX4_shareSmallestFirst, Cond.code yX4_shareSmallestFirst cX4_shareSmallestFirst 4 none, Cond.methodLink RX2 123 yX4_demandInAll, Cond.methodLink RX2 130 yX2_isShort, Cond.instanceMethod yX2_isShort, Cond.selects RX2 yX2_isShort yX2_isShort, Cond.code yX2_isShort cX2_isShort 2 (some .boolean)]
def wsX5_sustainable : List Cond := .code yX5_sustainable cX5_sustainable 2 (some .int) :: ((wsX5_sustainable_r1 ++ (wsX5_sustainable_r2 ++ (wsX5_sustainable_r3 ++ (wsX5_sustainable_r4 ++ (wsX5_sustainable_r5 ++ (wsX5_sustainable_r6 ++ (wsX5_sustainable_r7 ++ (wsX5_sustainable_r8 ++ wsX5_sustainable_r9)))))))) ++ wsX50 ++ wsX20 ++ wsX10 ++ wsX40 ++ wsX30)
def wsX5_gutterLoss_r1 : List Cond := [Cond.fieldLink RX5 10 "RainReservoir" "now" "LRainReservoir$State;", Cond.fieldLink RX5 35 "RainReservoir$State" "roofCount" "I", Cond.fieldLink RX5 16 "RainReservoir" "trial" "LRainReservoir$State;", Cond.fieldLink RX5 49 "RainReservoir$State" "roofs" "[LRainReservoir$Roof;", Cond.fieldLink RX5 186 "RainReservoir$Roof" "spilledInAll" "I", Cond.methodLink RX5 79 yX5_checkIndex, Cond.static yX5_checkIndex, Cond.initialized RX5, Cond.code yX5_checkIndex cX5_checkIndex 2 none, Cond.classLink RX5 229 "java/lang/IndexOutOfBoundsException", Cond.initialized "java/lang/IndexOutOfBoundsException", Cond.methodLink RX5 170 yX5_prepareTrial, Cond.instanceMethod yX5_prepareTrial, Cond.selects RX5 yX5_prepareTrial yX5_prepareTrial, Cond.code yX5_prepareTrial cX5_prepareTrial 2 none, Cond.fieldLink RX5 127 "RainReservoir$State" "rainCount" "I", Cond.methodLink RX5 212 yX2_copyFrom, Cond.instanceMethod yX2_copyFrom, Cond.selects RX2 yX2_copyFrom yX2_copyFrom, Cond.initialized RX2, Cond.code yX2_copyFrom cX2_copyFrom 3 none, Cond.fieldLink RX2 9 "RainReservoir$State" "capacity" "I", Cond.fieldLink RX2 39 "RainReservoir$State" "floor" "I", Cond.fieldLink RX2 42 "RainReservoir$State" "topUp" "I"]
def wsX5_gutterLoss_r2 : List Cond := [Cond.fieldLink RX2 45 "RainReservoir$State" "evaporation" "I", Cond.fieldLink RX2 15 "RainReservoir$State" "dryLimit" "I", Cond.fieldLink RX2 48 "RainReservoir$State" "rule" "I", Cond.fieldLink RX2 51 "RainReservoir$State" "roofCount" "I", Cond.fieldLink RX2 20 "RainReservoir$State" "roofs" "[LRainReservoir$Roof;", Cond.fieldLink RX2 28 "RainReservoir$State" "users" "LRainReservoir$Users;", Cond.fieldLink RX2 61 "RainReservoir$State" "rainCount" "I", Cond.fieldLink RX2 32 "RainReservoir$State" "rains" "[I", Cond.methodLink RX2 64 arraycopyName, Cond.native arraycopyName, Cond.static arraycopyName, Cond.initialized "java/lang/System", Cond.fieldLink RX2 70 "RainReservoir$State" "doneCount" "I", Cond.fieldLink RX2 36 "RainReservoir$State" "accounts" "[I", Cond.fieldLink RX2 73 "RainReservoir$State" "level" "I", Cond.fieldLink RX2 76 "RainReservoir$State" "dryDays" "I", Cond.fieldLink RX2 79 "RainReservoir$State" "looseOverflow" "J", Cond.methodLink RX2 54 yX1_copyFrom, Cond.instanceMethod yX1_copyFrom, Cond.selects RX1 yX1_copyFrom yX1_copyFrom, Cond.initialized RX1, Cond.code yX1_copyFrom cX1_copyFrom 2 none, Cond.fieldLink RX1 7 "RainReservoir$Roof" "area" "I", Cond.fieldLink RX1 13 "RainReservoir$Roof" "yieldPercent" "I"]
def wsX5_gutterLoss_r3 : List Cond := [Cond.fieldLink RX1 16 "RainReservoir$Roof" "flush" "I", Cond.fieldLink RX1 19 "RainReservoir$Roof" "gutter" "I", Cond.fieldLink RX1 29 "RainReservoir$Roof" "water" "I", Cond.fieldLink RX1 32 "RainReservoir$Roof" "spilledInAll" "I", Cond.methodLink RX1 25 yX1_set, Cond.instanceMethod yX1_set, Cond.selects RX1 yX1_set yX1_set, Cond.code yX1_set cX1_set 5 none, Cond.methodLink RX1 22 yX1_clearAmounts, Cond.instanceMethod yX1_clearAmounts, Cond.selects RX1 yX1_clearAmounts yX1_clearAmounts, Cond.code yX1_clearAmounts cX1_clearAmounts 1 none, Cond.methodLink RX2 58 yX4_copyFrom, Cond.instanceMethod yX4_copyFrom, Cond.selects RX4 yX4_copyFrom yX4_copyFrom, Cond.initialized RX4, Cond.code yX4_copyFrom cX4_copyFrom 3 none, Cond.fieldLink RX4 22 "RainReservoir$Users" "count" "I", Cond.fieldLink RX4 11 "RainReservoir$Users" "rows" "[LRainReservoir$User;", Cond.methodLink RX4 26 yX3_copyFrom, Cond.instanceMethod yX3_copyFrom, Cond.selects RX3 yX3_copyFrom yX3_copyFrom, Cond.initialized RX3, Cond.code yX3_copyFrom cX3_copyFrom 2 none]
def wsX5_gutterLoss_r4 : List Cond := [Cond.fieldLink RX3 9 "RainReservoir$User" "demand" "I", Cond.fieldLink RX3 15 "RainReservoir$User" "weight" "I", Cond.fieldLink RX3 25 "RainReservoir$User" "gotLatest" "I", Cond.fieldLink RX3 28 "RainReservoir$User" "gotInAll" "I", Cond.methodLink RX3 21 yX3_set, Cond.instanceMethod yX3_set, Cond.selects RX3 yX3_set yX3_set, Cond.code yX3_set cX3_set 3 none, Cond.methodLink RX3 18 yX3_clearAmounts, Cond.instanceMethod yX3_clearAmounts, Cond.selects RX3 yX3_clearAmounts yX3_clearAmounts, Cond.code yX3_clearAmounts cX3_clearAmounts 1 none, Cond.methodLink RX5 158 yX2_goBack, Cond.instanceMethod yX2_goBack, Cond.selects RX2 yX2_goBack yX2_goBack, Cond.code yX2_goBack cX2_goBack 2 none, Cond.methodLink RX2 83 yX1_clearAmounts, Cond.methodLink RX2 86 yX4_clearAmounts, Cond.instanceMethod yX4_clearAmounts, Cond.selects RX4 yX4_clearAmounts yX4_clearAmounts, Cond.code yX4_clearAmounts cX4_clearAmounts 2 none, Cond.methodLink RX4 30 yX3_clearAmounts, Cond.methodLink RX5 148 yX2_collect, Cond.instanceMethod yX2_collect]
def wsX5_gutterLoss_r5 : List Cond := [Cond.selects RX2 yX2_collect yX2_collect, Cond.code yX2_collect cX2_collect 11 none, Cond.methodLink RX2 99 yX2_drainWhenDry, Cond.instanceMethod yX2_drainWhenDry, Cond.selects RX2 yX2_drainWhenDry yX2_drainWhenDry, Cond.code yX2_drainWhenDry cX2_drainWhenDry 4 (some .int), Cond.methodLink RX2 134 yX1_drain, Cond.instanceMethod yX1_drain, Cond.selects RX1 yX1_drain yX1_drain, Cond.code yX1_drain cX1_drain 2 (some .int), Cond.methodLink RX2 103 yX1_caught, Cond.instanceMethod yX1_caught, Cond.selects RX1 yX1_caught yX1_caught, Cond.code yX1_caught cX1_caught 2 (some .int), Cond.methodLink RX2 106 yX1_divert, Cond.instanceMethod yX1_divert, Cond.selects RX1 yX1_divert yX1_divert, Cond.code yX1_divert cX1_divert 3 (some .int), Cond.methodLink RX1 35 Lib.Math.min.name, Cond.static Lib.Math.min.name, Cond.initialized "java/lang/Math", Cond.code Lib.Math.min.name Lib.Math.min.code 2 (some .int), Cond.methodLink RX2 109 yX1_spill, Cond.instanceMethod yX1_spill]
def wsX5_gutterLoss_r6 : List Cond := [Cond.selects RX1 yX1_spill yX1_spill, Cond.code yX1_spill cX1_spill 3 (some .int), Cond.methodLink RX1 41 Lib.Math.max.name, Cond.static Lib.Math.max.name, Cond.code Lib.Math.max.name Lib.Math.max.code 2 (some .int), Cond.methodLink RX2 112 yX2_put, Cond.instanceMethod yX2_put, Cond.selects RX2 yX2_put yX2_put, Cond.code yX2_put cX2_put 4 none]
def wsX5_gutterLoss : List Cond := .code yX5_gutterLoss cX5_gutterLoss 2 (some .long) :: ((wsX5_gutterLoss_r1 ++ (wsX5_gutterLoss_r2 ++ (wsX5_gutterLoss_r3 ++ (wsX5_gutterLoss_r4 ++ (wsX5_gutterLoss_r5 ++ wsX5_gutterLoss_r6))))) ++ wsX50 ++ wsX20 ++ wsX10 ++ wsX40 ++ wsX30 ++ (vx_atS RX5 233 "java/lang/IndexOutOfBoundsException" ["java/lang/RuntimeException", "java/lang/Exception"]).filter goodWord)
def wsX5_append : List Cond := .code yX5_append cX5_append 2 (some .int) :: ([.classLink RX5 39 "java/lang/IllegalStateException", .initialized "java/lang/IllegalStateException", .fieldLink RX5 26 "RainReservoir" "text" "LRainReservoir$RainText;", .fieldLink RX5 189 "RainReservoir$RainText" "length" "I", .fieldLink RX5 194 "RainReservoir$RainText" "bytes" "[B", .methodLink RX5 30 yX5_checkRange, .static yX5_checkRange, .initialized RX5, .code yX5_checkRange cX5_checkRange 3 none, .classLink RX5 224 "java/lang/IllegalArgumentException", .initialized "java/lang/IllegalArgumentException"] ++ wsX50 ++ wsX00 ++ (vx_atS RX5 43 "java/lang/IllegalStateException" ["java/lang/RuntimeException", "java/lang/Exception"]).filter goodWord ++ (vx_atS RX5 228 "java/lang/IllegalArgumentException" ["java/lang/RuntimeException", "java/lang/Exception"]).filter goodWord)
def wsX5_clearText : List Cond := .code yX5_clearText cX5_clearText 2 (some .int) :: ([.fieldLink RX5 26 "RainReservoir" "text" "LRainReservoir$RainText;", .fieldLink RX5 189 "RainReservoir$RainText" "length" "I"] ++ wsX50 ++ wsX00)
def wsX5_parse_r1 : List Cond := [Cond.fieldLink RX5 26 "RainReservoir" "text" "LRainReservoir$RainText;", Cond.fieldLink RX5 10 "RainReservoir" "now" "LRainReservoir$State;", Cond.fieldLink RX5 127 "RainReservoir$State" "rainCount" "I", Cond.fieldLink RX5 201 "RainReservoir$RainText" "foundCount" "I", Cond.fieldLink RX5 204 "RainReservoir$RainText" "found" "[I", Cond.methodLink RX5 198 yX0_readItems, Cond.instanceMethod yX0_readItems, Cond.selects RX0 yX0_readItems yX0_readItems, Cond.initialized RX0, Cond.code yX0_readItems cX0_readItems 4 (some .int), Cond.fieldLink RX0 19 "RainReservoir$RainText" "at" "I", Cond.fieldLink RX0 23 "RainReservoir$RainText" "foundCount" "I", Cond.fieldLink RX0 26 "RainReservoir$RainText" "length" "I", Cond.methodLink RX0 29 yX0_readItem, Cond.instanceMethod yX0_readItem, Cond.selects RX0 yX0_readItem yX0_readItem, Cond.code yX0_readItem cX0_readItem 6 (some .int), Cond.fieldLink RX0 37 "RainReservoir$RainText" "number" "I", Cond.fieldLink RX0 15 "RainReservoir$RainText" "found" "[I", Cond.methodLink RX0 33 yX0_readNumber, Cond.instanceMethod yX0_readNumber, Cond.selects RX0 yX0_readNumber yX0_readNumber, Cond.code yX0_readNumber cX0_readNumber 5 (some .int), Cond.fieldLink RX0 9 "RainReservoir$RainText" "bytes" "[B"]
def wsX5_parse_r2 : List Cond := [Cond.methodLink RX0 40 yX0_isNext, Cond.instanceMethod yX0_isNext, Cond.selects RX0 yX0_isNext yX0_isNext, Cond.code yX0_isNext cX0_isNext 2 (some .boolean), Cond.methodLink RX5 46 yX5_save, Cond.instanceMethod yX5_save, Cond.selects RX5 yX5_save yX5_save, Cond.initialized RX5, Cond.code yX5_save cX5_save 3 none, Cond.fieldLink RX5 207 "RainReservoir" "savedCount" "I", Cond.fieldLink RX5 19 "RainReservoir" "saved" "[LRainReservoir$State;", Cond.methodLink RX5 212 yX2_copyFrom, Cond.instanceMethod yX2_copyFrom, Cond.selects RX2 yX2_copyFrom yX2_copyFrom, Cond.initialized RX2, Cond.code yX2_copyFrom cX2_copyFrom 3 none, Cond.fieldLink RX2 9 "RainReservoir$State" "capacity" "I", Cond.fieldLink RX2 39 "RainReservoir$State" "floor" "I", Cond.fieldLink RX2 42 "RainReservoir$State" "topUp" "I", Cond.fieldLink RX2 45 "RainReservoir$State" "evaporation" "I", Cond.fieldLink RX2 15 "RainReservoir$State" "dryLimit" "I", Cond.fieldLink RX2 48 "RainReservoir$State" "rule" "I", Cond.fieldLink RX2 51 "RainReservoir$State" "roofCount" "I", Cond.fieldLink RX2 20 "RainReservoir$State" "roofs" "[LRainReservoir$Roof;"]
def wsX5_parse_r3 : List Cond := [Cond.fieldLink RX2 28 "RainReservoir$State" "users" "LRainReservoir$Users;", Cond.fieldLink RX2 61 "RainReservoir$State" "rainCount" "I", Cond.fieldLink RX2 32 "RainReservoir$State" "rains" "[I", Cond.methodLink RX2 64 arraycopyName, Cond.native arraycopyName, Cond.static arraycopyName, Cond.initialized "java/lang/System", Cond.fieldLink RX2 70 "RainReservoir$State" "doneCount" "I", Cond.fieldLink RX2 36 "RainReservoir$State" "accounts" "[I", Cond.fieldLink RX2 73 "RainReservoir$State" "level" "I", Cond.fieldLink RX2 76 "RainReservoir$State" "dryDays" "I", Cond.fieldLink RX2 79 "RainReservoir$State" "looseOverflow" "J", Cond.methodLink RX2 54 yX1_copyFrom, Cond.instanceMethod yX1_copyFrom, Cond.selects RX1 yX1_copyFrom yX1_copyFrom, Cond.initialized RX1, Cond.code yX1_copyFrom cX1_copyFrom 2 none, Cond.fieldLink RX1 7 "RainReservoir$Roof" "area" "I", Cond.fieldLink RX1 13 "RainReservoir$Roof" "yieldPercent" "I", Cond.fieldLink RX1 16 "RainReservoir$Roof" "flush" "I", Cond.fieldLink RX1 19 "RainReservoir$Roof" "gutter" "I", Cond.fieldLink RX1 29 "RainReservoir$Roof" "water" "I", Cond.fieldLink RX1 32 "RainReservoir$Roof" "spilledInAll" "I", Cond.methodLink RX1 25 yX1_set]
def wsX5_parse_r4 : List Cond := [Cond.instanceMethod yX1_set, Cond.selects RX1 yX1_set yX1_set, Cond.code yX1_set cX1_set 5 none, Cond.methodLink RX1 22 yX1_clearAmounts, Cond.instanceMethod yX1_clearAmounts, Cond.selects RX1 yX1_clearAmounts yX1_clearAmounts, Cond.code yX1_clearAmounts cX1_clearAmounts 1 none, Cond.methodLink RX2 58 yX4_copyFrom, Cond.instanceMethod yX4_copyFrom, Cond.selects RX4 yX4_copyFrom yX4_copyFrom, Cond.initialized RX4, Cond.code yX4_copyFrom cX4_copyFrom 3 none, Cond.fieldLink RX4 22 "RainReservoir$Users" "count" "I", Cond.fieldLink RX4 11 "RainReservoir$Users" "rows" "[LRainReservoir$User;", Cond.methodLink RX4 26 yX3_copyFrom, Cond.instanceMethod yX3_copyFrom, Cond.selects RX3 yX3_copyFrom yX3_copyFrom, Cond.initialized RX3, Cond.code yX3_copyFrom cX3_copyFrom 2 none, Cond.fieldLink RX3 9 "RainReservoir$User" "demand" "I", Cond.fieldLink RX3 15 "RainReservoir$User" "weight" "I", Cond.fieldLink RX3 25 "RainReservoir$User" "gotLatest" "I", Cond.fieldLink RX3 28 "RainReservoir$User" "gotInAll" "I", Cond.methodLink RX3 21 yX3_set]
def wsX5_parse_r5 : List Cond := [Cond.instanceMethod yX3_set, Cond.selects RX3 yX3_set yX3_set, Cond.code yX3_set cX3_set 3 none, Cond.methodLink RX3 18 yX3_clearAmounts, Cond.instanceMethod yX3_clearAmounts, Cond.selects RX3 yX3_clearAmounts yX3_clearAmounts, Cond.code yX3_clearAmounts cX3_clearAmounts 1 none, Cond.methodLink RX5 124 yX2_putRain, Cond.instanceMethod yX2_putRain, Cond.selects RX2 yX2_putRain yX2_putRain, Cond.code yX2_putRain cX2_putRain 2 none]
def wsX5_parse : List Cond := .code yX5_parse cX5_parse 3 (some .int) :: ((wsX5_parse_r1 ++ (wsX5_parse_r2 ++ (wsX5_parse_r3 ++ (wsX5_parse_r4 ++ wsX5_parse_r5)))) ++ wsX50 ++ wsX20 ++ wsX00 ++ wsX10 ++ wsX40 ++ wsX30)
def wsX5_undo_r1 : List Cond := [Cond.classLink RX5 39 "java/lang/IllegalStateException", Cond.initialized "java/lang/IllegalStateException", Cond.fieldLink RX5 207 "RainReservoir" "savedCount" "I", Cond.fieldLink RX5 10 "RainReservoir" "now" "LRainReservoir$State;", Cond.fieldLink RX5 19 "RainReservoir" "saved" "[LRainReservoir$State;", Cond.methodLink RX5 212 yX2_copyFrom, Cond.instanceMethod yX2_copyFrom, Cond.selects RX2 yX2_copyFrom yX2_copyFrom, Cond.initialized RX2, Cond.code yX2_copyFrom cX2_copyFrom 3 none, Cond.fieldLink RX2 9 "RainReservoir$State" "capacity" "I", Cond.fieldLink RX2 39 "RainReservoir$State" "floor" "I", Cond.fieldLink RX2 42 "RainReservoir$State" "topUp" "I", Cond.fieldLink RX2 45 "RainReservoir$State" "evaporation" "I", Cond.fieldLink RX2 15 "RainReservoir$State" "dryLimit" "I", Cond.fieldLink RX2 48 "RainReservoir$State" "rule" "I", Cond.fieldLink RX2 51 "RainReservoir$State" "roofCount" "I", Cond.fieldLink RX2 20 "RainReservoir$State" "roofs" "[LRainReservoir$Roof;", Cond.fieldLink RX2 28 "RainReservoir$State" "users" "LRainReservoir$Users;", Cond.fieldLink RX2 61 "RainReservoir$State" "rainCount" "I", Cond.fieldLink RX2 32 "RainReservoir$State" "rains" "[I", Cond.methodLink RX2 64 arraycopyName, Cond.native arraycopyName, Cond.static arraycopyName]
def wsX5_undo_r2 : List Cond := [Cond.initialized "java/lang/System", Cond.fieldLink RX2 70 "RainReservoir$State" "doneCount" "I", Cond.fieldLink RX2 36 "RainReservoir$State" "accounts" "[I", Cond.fieldLink RX2 73 "RainReservoir$State" "level" "I", Cond.fieldLink RX2 76 "RainReservoir$State" "dryDays" "I", Cond.fieldLink RX2 79 "RainReservoir$State" "looseOverflow" "J", Cond.methodLink RX2 54 yX1_copyFrom, Cond.instanceMethod yX1_copyFrom, Cond.selects RX1 yX1_copyFrom yX1_copyFrom, Cond.initialized RX1, Cond.code yX1_copyFrom cX1_copyFrom 2 none, Cond.fieldLink RX1 7 "RainReservoir$Roof" "area" "I", Cond.fieldLink RX1 13 "RainReservoir$Roof" "yieldPercent" "I", Cond.fieldLink RX1 16 "RainReservoir$Roof" "flush" "I", Cond.fieldLink RX1 19 "RainReservoir$Roof" "gutter" "I", Cond.fieldLink RX1 29 "RainReservoir$Roof" "water" "I", Cond.fieldLink RX1 32 "RainReservoir$Roof" "spilledInAll" "I", Cond.methodLink RX1 25 yX1_set, Cond.instanceMethod yX1_set, Cond.selects RX1 yX1_set yX1_set, Cond.code yX1_set cX1_set 5 none, Cond.methodLink RX1 22 yX1_clearAmounts, Cond.instanceMethod yX1_clearAmounts, Cond.selects RX1 yX1_clearAmounts yX1_clearAmounts]
def wsX5_undo_r3 : List Cond := [Cond.code yX1_clearAmounts cX1_clearAmounts 1 none, Cond.methodLink RX2 58 yX4_copyFrom, Cond.instanceMethod yX4_copyFrom, Cond.selects RX4 yX4_copyFrom yX4_copyFrom, Cond.initialized RX4, Cond.code yX4_copyFrom cX4_copyFrom 3 none, Cond.fieldLink RX4 22 "RainReservoir$Users" "count" "I", Cond.fieldLink RX4 11 "RainReservoir$Users" "rows" "[LRainReservoir$User;", Cond.methodLink RX4 26 yX3_copyFrom, Cond.instanceMethod yX3_copyFrom, Cond.selects RX3 yX3_copyFrom yX3_copyFrom, Cond.initialized RX3, Cond.code yX3_copyFrom cX3_copyFrom 2 none, Cond.fieldLink RX3 9 "RainReservoir$User" "demand" "I", Cond.fieldLink RX3 15 "RainReservoir$User" "weight" "I", Cond.fieldLink RX3 25 "RainReservoir$User" "gotLatest" "I", Cond.fieldLink RX3 28 "RainReservoir$User" "gotInAll" "I", Cond.methodLink RX3 21 yX3_set, Cond.instanceMethod yX3_set, Cond.selects RX3 yX3_set yX3_set, Cond.code yX3_set cX3_set 3 none, Cond.methodLink RX3 18 yX3_clearAmounts, Cond.instanceMethod yX3_clearAmounts, Cond.selects RX3 yX3_clearAmounts yX3_clearAmounts]
def wsX5_undo_r4 : List Cond := [Cond.code yX3_clearAmounts cX3_clearAmounts 1 none]
def wsX5_undo : List Cond := .code yX5_undo cX5_undo 1 (some .int) :: ((wsX5_undo_r1 ++ (wsX5_undo_r2 ++ (wsX5_undo_r3 ++ wsX5_undo_r4))) ++ wsX50 ++ wsX20 ++ wsX10 ++ wsX40 ++ wsX30 ++ (vx_atS RX5 43 "java/lang/IllegalStateException" ["java/lang/RuntimeException", "java/lang/Exception"]).filter goodWord)
def wsX5_digest_r1 : List Cond := [Cond.constantLong RX5 216 (99293), Cond.fieldLink RX5 26 "RainReservoir" "text" "LRainReservoir$RainText;", Cond.fieldLink RX5 189 "RainReservoir$RainText" "length" "I", Cond.constantLong RX5 218 (31), Cond.fieldLink RX5 10 "RainReservoir" "now" "LRainReservoir$State;", Cond.fieldLink RX5 35 "RainReservoir$State" "roofCount" "I", Cond.fieldLink RX5 49 "RainReservoir$State" "roofs" "[LRainReservoir$Roof;", Cond.fieldLink RX5 59 "RainReservoir$State" "users" "LRainReservoir$Users;", Cond.fieldLink RX5 63 "RainReservoir$Users" "count" "I", Cond.fieldLink RX5 70 "RainReservoir$Users" "rows" "[LRainReservoir$User;", Cond.fieldLink RX5 127 "RainReservoir$State" "rainCount" "I", Cond.fieldLink RX5 139 "RainReservoir$State" "rains" "[I", Cond.fieldLink RX5 143 "RainReservoir$State" "doneCount" "I", Cond.fieldLink RX5 207 "RainReservoir" "savedCount" "I", Cond.methodLink RX5 112 yX2_settingValue, Cond.instanceMethod yX2_settingValue, Cond.selects RX2 yX2_settingValue yX2_settingValue, Cond.initialized RX2, Cond.code yX2_settingValue cX2_settingValue 2 (some .int), Cond.fieldLink RX2 9 "RainReservoir$State" "capacity" "I", Cond.fieldLink RX2 39 "RainReservoir$State" "floor" "I", Cond.fieldLink RX2 42 "RainReservoir$State" "topUp" "I", Cond.fieldLink RX2 45 "RainReservoir$State" "evaporation" "I", Cond.fieldLink RX2 15 "RainReservoir$State" "dryLimit" "I"]
def wsX5_digest_r2 : List Cond := [Cond.fieldLink RX2 48 "RainReservoir$State" "rule" "I", Cond.fieldLink RX2 51 "RainReservoir$State" "roofCount" "I", Cond.fieldLink RX2 28 "RainReservoir$State" "users" "LRainReservoir$Users;", Cond.fieldLink RX2 87 "RainReservoir$Users" "count" "I", Cond.fieldLink RX2 61 "RainReservoir$State" "rainCount" "I", Cond.fieldLink RX2 70 "RainReservoir$State" "doneCount" "I", Cond.fieldLink RX2 73 "RainReservoir$State" "level" "I", Cond.fieldLink RX2 76 "RainReservoir$State" "dryDays" "I", Cond.methodLink RX5 116 yX1_value, Cond.instanceMethod yX1_value, Cond.selects RX1 yX1_value yX1_value, Cond.initialized RX1, Cond.code yX1_value cX1_value 2 (some .int), Cond.fieldLink RX1 7 "RainReservoir$Roof" "area" "I", Cond.fieldLink RX1 13 "RainReservoir$Roof" "yieldPercent" "I", Cond.fieldLink RX1 16 "RainReservoir$Roof" "flush" "I", Cond.fieldLink RX1 19 "RainReservoir$Roof" "gutter" "I", Cond.fieldLink RX1 29 "RainReservoir$Roof" "water" "I", Cond.methodLink RX5 119 yX3_value, Cond.instanceMethod yX3_value, Cond.selects RX3 yX3_value yX3_value, Cond.initialized RX3, Cond.code yX3_value cX3_value 2 (some .int), Cond.fieldLink RX3 9 "RainReservoir$User" "demand" "I"]
def wsX5_digest_r3 : List Cond := [Cond.fieldLink RX3 15 "RainReservoir$User" "weight" "I", Cond.fieldLink RX3 25 "RainReservoir$User" "gotLatest" "I", Cond.fieldLink RX3 28 "RainReservoir$User" "gotInAll" "I", Cond.methodLink RX5 161 yX2_account, Cond.instanceMethod yX2_account, Cond.selects RX2 yX2_account yX2_account, Cond.code yX2_account cX2_account 3 (some .int), Cond.fieldLink RX2 36 "RainReservoir$State" "accounts" "[I", Cond.methodLink RX5 220 yX5_sum, Cond.instanceMethod yX5_sum, Cond.selects RX5 yX5_sum yX5_sum, Cond.initialized RX5, Cond.code yX5_sum cX5_sum 5 (some .long), Cond.fieldLink RX5 95 "RainReservoir$State" "looseOverflow" "J", Cond.methodLink RX5 30 yX5_checkRange, Cond.static yX5_checkRange, Cond.code yX5_checkRange cX5_checkRange 3 none, Cond.classLink RX5 224 "java/lang/IllegalArgumentException", Cond.initialized "java/lang/IllegalArgumentException"]
def wsX5_digest : List Cond := .code yX5_digest cX5_digest 5 (some .long) :: ((wsX5_digest_r1 ++ (wsX5_digest_r2 ++ wsX5_digest_r3)) ++ wsX50 ++ wsX00 ++ wsX20 ++ wsX40 ++ wsX10 ++ wsX30 ++ (vx_atS RX5 228 "java/lang/IllegalArgumentException" ["java/lang/RuntimeException", "java/lang/Exception"]).filter goodWord)
def wsX6_init : List Cond := .code yX6_init cX6_init 1 none :: ([.methodLink RX6 1 objectInit, .instanceMethod objectInit, .code objectInit ⟨#[0xb1]⟩ 1 none, .arrayClass .int, .fieldLink RX6 7 "RainReservoirModel" "all" "[I", .fieldLink RX6 13 "RainReservoirModel" "saved" "[I", .fieldLink RX6 16 "RainReservoirModel" "aside" "[I", .arrayClass .long, .fieldLink RX6 19 "RainReservoirModel" "spiltAt" "[J", .fieldLink RX6 23 "RainReservoirModel" "text" "[I"] ++ wsX60)
def wsX6_thrown : List Cond := .code yX6_thrown cX6_thrown 1 (some .int) :: ([.fieldLink RX6 26 "RainReservoirModel" "thrown" "I"] ++ wsX60)
def wsX6_in : List Cond := .code yX6_in cX6_in 6 (some .boolean) :: ([])
def wsX6_goes : List Cond := .code yX6_goes cX6_goes 3 (some .boolean) :: ([.fieldLink RX6 26 "RainReservoirModel" "thrown" "I"] ++ wsX60)
def wsX6_save : List Cond := .code yX6_save cX6_save 2 none :: ([.fieldLink RX6 30 "RainReservoirModel" "savedMany" "I", .fieldLink RX6 13 "RainReservoirModel" "saved" "[I", .fieldLink RX6 7 "RainReservoirModel" "all" "[I"] ++ wsX60)
def wsX6_lays : List Cond := .code yX6_lays cX6_lays 2 none :: ([.fieldLink RX6 16 "RainReservoirModel" "aside" "[I", .fieldLink RX6 7 "RainReservoirModel" "all" "[I"] ++ wsX60)
def wsX6_takesBack : List Cond := .code yX6_takesBack cX6_takesBack 2 none :: ([.fieldLink RX6 7 "RainReservoirModel" "all" "[I", .fieldLink RX6 16 "RainReservoirModel" "aside" "[I"] ++ wsX60)
def wsX6_roofAt : List Cond := .code yX6_roofAt cX6_roofAt 2 (some .int) :: ([])
def wsX6_ofRoof : List Cond := .code yX6_ofRoof cX6_ofRoof 3 (some .int) :: ([.fieldLink RX6 7 "RainReservoirModel" "all" "[I", .methodLink RX6 33 yX6_roofAt, .static yX6_roofAt, .initialized RX6, .code yX6_roofAt cX6_roofAt 2 (some .int)] ++ wsX60)
def wsX6_userAt : List Cond := .code yX6_userAt cX6_userAt 2 (some .int) :: ([])
def wsX6_ofUser : List Cond := .code yX6_ofUser cX6_ofUser 3 (some .int) :: ([.fieldLink RX6 7 "RainReservoirModel" "all" "[I", .methodLink RX6 37 yX6_userAt, .static yX6_userAt, .initialized RX6, .code yX6_userAt cX6_userAt 2 (some .int)] ++ wsX60)
def wsX6_isRoof : List Cond := .code yX6_isRoof cX6_isRoof 2 (some .boolean) :: ([.fieldLink RX6 7 "RainReservoirModel" "all" "[I", .methodLink RX6 40 yX6_in, .static yX6_in, .initialized RX6, .code yX6_in cX6_in 6 (some .boolean)] ++ wsX60)
def wsX6_isUser : List Cond := .code yX6_isUser cX6_isUser 2 (some .boolean) :: ([.fieldLink RX6 7 "RainReservoirModel" "all" "[I", .methodLink RX6 40 yX6_in, .static yX6_in, .initialized RX6, .code yX6_in cX6_in 6 (some .boolean)] ++ wsX60)
def wsX6_addRoof : List Cond := .code yX6_addRoof cX6_addRoof 7 (some .int) :: ([.constantLong RX6 44 (500), .constantLong RX6 46 (100), .constantLong RX6 48 (999), .constantLong RX6 50 (50000), .fieldLink RX6 7 "RainReservoirModel" "all" "[I", .methodLink RX6 40 yX6_in, .static yX6_in, .initialized RX6, .code yX6_in cX6_in 6 (some .boolean), .methodLink RX6 52 yX6_goes, .instanceMethod yX6_goes, .selects RX6 yX6_goes yX6_goes, .code yX6_goes cX6_goes 3 (some .boolean), .fieldLink RX6 26 "RainReservoirModel" "thrown" "I", .methodLink RX6 56 yX6_save, .instanceMethod yX6_save, .selects RX6 yX6_save yX6_save, .code yX6_save cX6_save 2 none, .fieldLink RX6 30 "RainReservoirModel" "savedMany" "I", .fieldLink RX6 13 "RainReservoirModel" "saved" "[I", .methodLink RX6 33 yX6_roofAt, .static yX6_roofAt, .code yX6_roofAt cX6_roofAt 2 (some .int)] ++ wsX60)
def wsX6_addUser : List Cond := .code yX6_addUser cX6_addUser 4 (some .int) :: ([.constantLong RX6 59 (9999), .constantLong RX6 61 (9), .fieldLink RX6 7 "RainReservoirModel" "all" "[I", .methodLink RX6 40 yX6_in, .static yX6_in, .initialized RX6, .code yX6_in cX6_in 6 (some .boolean), .methodLink RX6 52 yX6_goes, .instanceMethod yX6_goes, .selects RX6 yX6_goes yX6_goes, .code yX6_goes cX6_goes 3 (some .boolean), .fieldLink RX6 26 "RainReservoirModel" "thrown" "I", .methodLink RX6 56 yX6_save, .instanceMethod yX6_save, .selects RX6 yX6_save yX6_save, .code yX6_save cX6_save 2 none, .fieldLink RX6 30 "RainReservoirModel" "savedMany" "I", .fieldLink RX6 13 "RainReservoirModel" "saved" "[I", .methodLink RX6 37 yX6_userAt, .static yX6_userAt, .code yX6_userAt cX6_userAt 2 (some .int)] ++ wsX60)
def wsX6_setDemand_r1 : List Cond := [Cond.constantLong RX6 59 (9999), Cond.fieldLink RX6 7 "RainReservoirModel" "all" "[I", Cond.methodLink RX6 63 yX6_isUser, Cond.instanceMethod yX6_isUser, Cond.selects RX6 yX6_isUser yX6_isUser, Cond.initialized RX6, Cond.code yX6_isUser cX6_isUser 2 (some .boolean), Cond.methodLink RX6 40 yX6_in, Cond.static yX6_in, Cond.code yX6_in cX6_in 6 (some .boolean), Cond.methodLink RX6 52 yX6_goes, Cond.instanceMethod yX6_goes, Cond.selects RX6 yX6_goes yX6_goes, Cond.code yX6_goes cX6_goes 3 (some .boolean), Cond.fieldLink RX6 26 "RainReservoirModel" "thrown" "I", Cond.methodLink RX6 56 yX6_save, Cond.instanceMethod yX6_save, Cond.selects RX6 yX6_save yX6_save, Cond.code yX6_save cX6_save 2 none, Cond.fieldLink RX6 30 "RainReservoirModel" "savedMany" "I", Cond.fieldLink RX6 13 "RainReservoirModel" "saved" "[I", Cond.methodLink RX6 67 yX6_ofUser, Cond.instanceMethod yX6_ofUser, Cond.selects RX6 yX6_ofUser yX6_ofUser]
def wsX6_setDemand_r2 : List Cond := [Cond.code yX6_ofUser cX6_ofUser 3 (some .int), Cond.methodLink RX6 37 yX6_userAt, Cond.static yX6_userAt, Cond.code yX6_userAt cX6_userAt 2 (some .int)]
def wsX6_setDemand : List Cond := .code yX6_setDemand cX6_setDemand 4 (some .int) :: ((wsX6_setDemand_r1 ++ wsX6_setDemand_r2) ++ wsX60)
def wsX6_setReservoir : List Cond := .code yX6_setReservoir cX6_setReservoir 5 (some .int) :: ([.constantLong RX6 46 (100), .constantLong RX6 70 (60000), .fieldLink RX6 7 "RainReservoirModel" "all" "[I", .methodLink RX6 40 yX6_in, .static yX6_in, .initialized RX6, .code yX6_in cX6_in 6 (some .boolean), .methodLink RX6 52 yX6_goes, .instanceMethod yX6_goes, .selects RX6 yX6_goes yX6_goes, .code yX6_goes cX6_goes 3 (some .boolean), .fieldLink RX6 26 "RainReservoirModel" "thrown" "I", .methodLink RX6 56 yX6_save, .instanceMethod yX6_save, .selects RX6 yX6_save yX6_save, .code yX6_save cX6_save 2 none, .fieldLink RX6 30 "RainReservoirModel" "savedMany" "I", .fieldLink RX6 13 "RainReservoirModel" "saved" "[I"] ++ wsX60)
def wsX6_setWays : List Cond := .code yX6_setWays cX6_setWays 5 (some .int) :: ([.constantLong RX6 46 (100), .constantLong RX6 72 (20), .constantLong RX6 74 (3), .fieldLink RX6 7 "RainReservoirModel" "all" "[I", .methodLink RX6 40 yX6_in, .static yX6_in, .initialized RX6, .code yX6_in cX6_in 6 (some .boolean), .methodLink RX6 52 yX6_goes, .instanceMethod yX6_goes, .selects RX6 yX6_goes yX6_goes, .code yX6_goes cX6_goes 3 (some .boolean), .fieldLink RX6 26 "RainReservoirModel" "thrown" "I", .methodLink RX6 56 yX6_save, .instanceMethod yX6_save, .selects RX6 yX6_save yX6_save, .code yX6_save cX6_save 2 none, .fieldLink RX6 30 "RainReservoirModel" "savedMany" "I", .fieldLink RX6 13 "RainReservoirModel" "saved" "[I"] ++ wsX60)
def wsX6_setting : List Cond := .code yX6_setting cX6_setting 2 (some .int) :: ([.constantLong RX6 76 (11), .fieldLink RX6 7 "RainReservoirModel" "all" "[I", .methodLink RX6 40 yX6_in, .static yX6_in, .initialized RX6, .code yX6_in cX6_in 6 (some .boolean), .methodLink RX6 52 yX6_goes, .instanceMethod yX6_goes, .selects RX6 yX6_goes yX6_goes, .code yX6_goes cX6_goes 3 (some .boolean), .fieldLink RX6 26 "RainReservoirModel" "thrown" "I"] ++ wsX60)
def wsX6_roof : List Cond := .code yX6_roof cX6_roof 3 (some .int) :: ([.constantLong RX6 81 (4), .methodLink RX6 78 yX6_isRoof, .instanceMethod yX6_isRoof, .selects RX6 yX6_isRoof yX6_isRoof, .initialized RX6, .code yX6_isRoof cX6_isRoof 2 (some .boolean), .fieldLink RX6 7 "RainReservoirModel" "all" "[I", .methodLink RX6 40 yX6_in, .static yX6_in, .code yX6_in cX6_in 6 (some .boolean), .methodLink RX6 52 yX6_goes, .instanceMethod yX6_goes, .selects RX6 yX6_goes yX6_goes, .code yX6_goes cX6_goes 3 (some .boolean), .fieldLink RX6 26 "RainReservoirModel" "thrown" "I", .methodLink RX6 83 yX6_ofRoof, .instanceMethod yX6_ofRoof, .selects RX6 yX6_ofRoof yX6_ofRoof, .code yX6_ofRoof cX6_ofRoof 3 (some .int), .methodLink RX6 33 yX6_roofAt, .static yX6_roofAt, .code yX6_roofAt cX6_roofAt 2 (some .int)] ++ wsX60)
def wsX6_user : List Cond := .code yX6_user cX6_user 3 (some .int) :: ([.constantLong RX6 74 (3), .methodLink RX6 63 yX6_isUser, .instanceMethod yX6_isUser, .selects RX6 yX6_isUser yX6_isUser, .initialized RX6, .code yX6_isUser cX6_isUser 2 (some .boolean), .fieldLink RX6 7 "RainReservoirModel" "all" "[I", .methodLink RX6 40 yX6_in, .static yX6_in, .code yX6_in cX6_in 6 (some .boolean), .methodLink RX6 52 yX6_goes, .instanceMethod yX6_goes, .selects RX6 yX6_goes yX6_goes, .code yX6_goes cX6_goes 3 (some .boolean), .fieldLink RX6 26 "RainReservoirModel" "thrown" "I", .methodLink RX6 67 yX6_ofUser, .instanceMethod yX6_ofUser, .selects RX6 yX6_ofUser yX6_ofUser, .code yX6_ofUser cX6_ofUser 3 (some .int), .methodLink RX6 37 yX6_userAt, .static yX6_userAt, .code yX6_userAt cX6_userAt 2 (some .int)] ++ wsX60)
def wsX6_rains : List Cond := .code yX6_rains cX6_rains 4 none :: ([.fieldLink RX6 7 "RainReservoirModel" "all" "[I"] ++ wsX60)
def wsX6_addRain : List Cond := .code yX6_addRain cX6_addRain 4 (some .int) :: ([.constantLong RX6 86 (200), .constantLong RX6 46 (100), .fieldLink RX6 7 "RainReservoirModel" "all" "[I", .methodLink RX6 40 yX6_in, .static yX6_in, .initialized RX6, .code yX6_in cX6_in 6 (some .boolean), .methodLink RX6 52 yX6_goes, .instanceMethod yX6_goes, .selects RX6 yX6_goes yX6_goes, .code yX6_goes cX6_goes 3 (some .boolean), .fieldLink RX6 26 "RainReservoirModel" "thrown" "I", .methodLink RX6 56 yX6_save, .instanceMethod yX6_save, .selects RX6 yX6_save yX6_save, .code yX6_save cX6_save 2 none, .fieldLink RX6 30 "RainReservoirModel" "savedMany" "I", .fieldLink RX6 13 "RainReservoirModel" "saved" "[I", .methodLink RX6 88 yX6_rains, .instanceMethod yX6_rains, .selects RX6 yX6_rains yX6_rains, .code yX6_rains cX6_rains 4 none] ++ wsX60)
def wsX6_draws : List Cond := .code yX6_draws cX6_draws 2 (some .int) :: ([.constantLong RX6 92 (1103515245), .fieldLink RX6 94 "RainReservoirModel" "s" "J", .constantLong RX6 98 (12345), .constantLong RX6 100 (2147483648), .constantLong RX6 102 (65536)] ++ wsX60)
def wsX6_addRandomRain_r1 : List Cond := [Cond.constantLong RX6 104 (999999), Cond.constantLong RX6 46 (100), Cond.constantLong RX6 86 (200), Cond.fieldLink RX6 7 "RainReservoirModel" "all" "[I", Cond.fieldLink RX6 94 "RainReservoirModel" "s" "J", Cond.methodLink RX6 40 yX6_in, Cond.static yX6_in, Cond.initialized RX6, Cond.code yX6_in cX6_in 6 (some .boolean), Cond.methodLink RX6 52 yX6_goes, Cond.instanceMethod yX6_goes, Cond.selects RX6 yX6_goes yX6_goes, Cond.code yX6_goes cX6_goes 3 (some .boolean), Cond.fieldLink RX6 26 "RainReservoirModel" "thrown" "I", Cond.methodLink RX6 56 yX6_save, Cond.instanceMethod yX6_save, Cond.selects RX6 yX6_save yX6_save, Cond.code yX6_save cX6_save 2 none, Cond.fieldLink RX6 30 "RainReservoirModel" "savedMany" "I", Cond.fieldLink RX6 13 "RainReservoirModel" "saved" "[I", Cond.methodLink RX6 106 yX6_draws, Cond.instanceMethod yX6_draws, Cond.selects RX6 yX6_draws yX6_draws, Cond.code yX6_draws cX6_draws 2 (some .int)]
def wsX6_addRandomRain_r2 : List Cond := [Cond.constantLong RX6 92 (1103515245), Cond.constantLong RX6 98 (12345), Cond.constantLong RX6 100 (2147483648), Cond.constantLong RX6 102 (65536), Cond.methodLink RX6 88 yX6_rains, Cond.instanceMethod yX6_rains, Cond.selects RX6 yX6_rains yX6_rains, Cond.code yX6_rains cX6_rains 4 none]
def wsX6_addRandomRain : List Cond := .code yX6_addRandomRain cX6_addRandomRain 8 (some .int) :: ((wsX6_addRandomRain_r1 ++ wsX6_addRandomRain_r2) ++ wsX60)
def wsX6_rain : List Cond := .code yX6_rain cX6_rain 2 (some .int) :: ([.fieldLink RX6 7 "RainReservoirModel" "all" "[I", .methodLink RX6 40 yX6_in, .static yX6_in, .initialized RX6, .code yX6_in cX6_in 6 (some .boolean), .methodLink RX6 52 yX6_goes, .instanceMethod yX6_goes, .selects RX6 yX6_goes yX6_goes, .code yX6_goes cX6_goes 3 (some .boolean), .fieldLink RX6 26 "RainReservoirModel" "thrown" "I"] ++ wsX60)
def wsX6_tells : List Cond := .code yX6_tells cX6_tells 3 none :: ([.fieldLink RX6 7 "RainReservoirModel" "all" "[I", .fieldLink RX6 110 "RainReservoirModel" "today" "I"] ++ wsX60)
def wsX6_drains : List Cond := .code yX6_drains cX6_drains 2 none :: ([.fieldLink RX6 7 "RainReservoirModel" "all" "[I", .methodLink RX6 83 yX6_ofRoof, .instanceMethod yX6_ofRoof, .selects RX6 yX6_ofRoof yX6_ofRoof, .initialized RX6, .code yX6_ofRoof cX6_ofRoof 3 (some .int), .methodLink RX6 33 yX6_roofAt, .static yX6_roofAt, .code yX6_roofAt cX6_roofAt 2 (some .int), .methodLink RX6 113 yX6_tells, .instanceMethod yX6_tells, .selects RX6 yX6_tells yX6_tells, .code yX6_tells cX6_tells 3 none, .fieldLink RX6 110 "RainReservoirModel" "today" "I"] ++ wsX60)
def wsX6_flows : List Cond := .code yX6_flows cX6_flows 7 (some .int) :: ([.fieldLink RX6 7 "RainReservoirModel" "all" "[I", .fieldLink RX6 19 "RainReservoirModel" "spiltAt" "[J", .methodLink RX6 83 yX6_ofRoof, .instanceMethod yX6_ofRoof, .selects RX6 yX6_ofRoof yX6_ofRoof, .initialized RX6, .code yX6_ofRoof cX6_ofRoof 3 (some .int), .methodLink RX6 33 yX6_roofAt, .static yX6_roofAt, .code yX6_roofAt cX6_roofAt 2 (some .int), .methodLink RX6 113 yX6_tells, .instanceMethod yX6_tells, .selects RX6 yX6_tells yX6_tells, .code yX6_tells cX6_tells 3 none, .fieldLink RX6 110 "RainReservoirModel" "today" "I"] ++ wsX60)
def wsX6_demands : List Cond := .code yX6_demands cX6_demands 3 (some .int) :: ([.fieldLink RX6 7 "RainReservoirModel" "all" "[I", .methodLink RX6 67 yX6_ofUser, .instanceMethod yX6_ofUser, .selects RX6 yX6_ofUser yX6_ofUser, .initialized RX6, .code yX6_ofUser cX6_ofUser 3 (some .int), .methodLink RX6 37 yX6_userAt, .static yX6_userAt, .code yX6_userAt cX6_userAt 2 (some .int)] ++ wsX60)
def wsX6_gives : List Cond := .code yX6_gives cX6_gives 5 none :: ([.fieldLink RX6 125 "RainReservoirModel" "left" "I", .fieldLink RX6 7 "RainReservoirModel" "all" "[I", .methodLink RX6 67 yX6_ofUser, .instanceMethod yX6_ofUser, .selects RX6 yX6_ofUser yX6_ofUser, .initialized RX6, .code yX6_ofUser cX6_ofUser 3 (some .int), .methodLink RX6 37 yX6_userAt, .static yX6_userAt, .code yX6_userAt cX6_userAt 2 (some .int)] ++ wsX60)
def wsX6_inProportion : List Cond := .code yX6_inProportion cX6_inProportion 4 none :: ([.fieldLink RX6 7 "RainReservoirModel" "all" "[I", .fieldLink RX6 125 "RainReservoirModel" "left" "I", .methodLink RX6 67 yX6_ofUser, .instanceMethod yX6_ofUser, .selects RX6 yX6_ofUser yX6_ofUser, .initialized RX6, .code yX6_ofUser cX6_ofUser 3 (some .int), .methodLink RX6 37 yX6_userAt, .static yX6_userAt, .code yX6_userAt cX6_userAt 2 (some .int), .methodLink RX6 144 yX6_gives, .instanceMethod yX6_gives, .selects RX6 yX6_gives yX6_gives, .code yX6_gives cX6_gives 5 none] ++ wsX60)
def wsX6_byOrder : List Cond := .code yX6_byOrder cX6_byOrder 2 none :: ([.fieldLink RX6 7 "RainReservoirModel" "all" "[I", .methodLink RX6 67 yX6_ofUser, .instanceMethod yX6_ofUser, .selects RX6 yX6_ofUser yX6_ofUser, .initialized RX6, .code yX6_ofUser cX6_ofUser 3 (some .int), .methodLink RX6 37 yX6_userAt, .static yX6_userAt, .code yX6_userAt cX6_userAt 2 (some .int), .methodLink RX6 144 yX6_gives, .instanceMethod yX6_gives, .selects RX6 yX6_gives yX6_gives, .code yX6_gives cX6_gives 5 none, .fieldLink RX6 125 "RainReservoirModel" "left" "I"] ++ wsX60)
def wsX6_byWeights : List Cond := .code yX6_byWeights cX6_byWeights 2 none :: ([.fieldLink RX6 125 "RainReservoirModel" "left" "I", .fieldLink RX6 7 "RainReservoirModel" "all" "[I", .methodLink RX6 67 yX6_ofUser, .instanceMethod yX6_ofUser, .selects RX6 yX6_ofUser yX6_ofUser, .initialized RX6, .code yX6_ofUser cX6_ofUser 3 (some .int), .methodLink RX6 37 yX6_userAt, .static yX6_userAt, .code yX6_userAt cX6_userAt 2 (some .int), .methodLink RX6 144 yX6_gives, .instanceMethod yX6_gives, .selects RX6 yX6_gives yX6_gives, .code yX6_gives cX6_gives 5 none] ++ wsX60)
def wsX6_smallestFirst : List Cond := .code yX6_smallestFirst cX6_smallestFirst 6 none :: ([.fieldLink RX6 7 "RainReservoirModel" "all" "[I", .methodLink RX6 67 yX6_ofUser, .instanceMethod yX6_ofUser, .selects RX6 yX6_ofUser yX6_ofUser, .initialized RX6, .code yX6_ofUser cX6_ofUser 3 (some .int), .methodLink RX6 37 yX6_userAt, .static yX6_userAt, .code yX6_userAt cX6_userAt 2 (some .int), .methodLink RX6 144 yX6_gives, .instanceMethod yX6_gives, .selects RX6 yX6_gives yX6_gives, .code yX6_gives cX6_gives 5 none, .fieldLink RX6 125 "RainReservoirModel" "left" "I"] ++ wsX60)
def wsX6_shares_r1 : List Cond := [Cond.fieldLink RX6 125 "RainReservoirModel" "left" "I", Cond.fieldLink RX6 7 "RainReservoirModel" "all" "[I", Cond.methodLink RX6 128 yX6_demands, Cond.instanceMethod yX6_demands, Cond.selects RX6 yX6_demands yX6_demands, Cond.initialized RX6, Cond.code yX6_demands cX6_demands 3 (some .int), Cond.methodLink RX6 67 yX6_ofUser, Cond.instanceMethod yX6_ofUser, Cond.selects RX6 yX6_ofUser yX6_ofUser, Cond.code yX6_ofUser cX6_ofUser 3 (some .int), Cond.methodLink RX6 37 yX6_userAt, Cond.static yX6_userAt, Cond.code yX6_userAt cX6_userAt 2 (some .int), Cond.methodLink RX6 132 yX6_inProportion, Cond.instanceMethod yX6_inProportion, Cond.selects RX6 yX6_inProportion yX6_inProportion, Cond.code yX6_inProportion cX6_inProportion 4 none, Cond.methodLink RX6 144 yX6_gives, Cond.instanceMethod yX6_gives, Cond.selects RX6 yX6_gives yX6_gives, Cond.code yX6_gives cX6_gives 5 none, Cond.methodLink RX6 135 yX6_byOrder, Cond.instanceMethod yX6_byOrder]
def wsX6_shares_r2 : List Cond := [Cond.selects RX6 yX6_byOrder yX6_byOrder, Cond.code yX6_byOrder cX6_byOrder 2 none, Cond.methodLink RX6 138 yX6_byWeights, Cond.instanceMethod yX6_byWeights, Cond.selects RX6 yX6_byWeights yX6_byWeights, Cond.code yX6_byWeights cX6_byWeights 2 none, Cond.methodLink RX6 141 yX6_smallestFirst, Cond.instanceMethod yX6_smallestFirst, Cond.selects RX6 yX6_smallestFirst yX6_smallestFirst, Cond.code yX6_smallestFirst cX6_smallestFirst 6 none, Cond.methodLink RX6 113 yX6_tells, Cond.instanceMethod yX6_tells, Cond.selects RX6 yX6_tells yX6_tells, Cond.code yX6_tells cX6_tells 3 none, Cond.fieldLink RX6 110 "RainReservoirModel" "today" "I"]
def wsX6_shares : List Cond := .code yX6_shares cX6_shares 5 (some .boolean) :: ((wsX6_shares_r1 ++ wsX6_shares_r2) ++ wsX60)
def wsX6_does_r1 : List Cond := [Cond.fieldLink RX6 7 "RainReservoirModel" "all" "[I", Cond.fieldLink RX6 110 "RainReservoirModel" "today" "I", Cond.methodLink RX6 116 yX6_drains, Cond.instanceMethod yX6_drains, Cond.selects RX6 yX6_drains yX6_drains, Cond.initialized RX6, Cond.code yX6_drains cX6_drains 2 none, Cond.methodLink RX6 83 yX6_ofRoof, Cond.instanceMethod yX6_ofRoof, Cond.selects RX6 yX6_ofRoof yX6_ofRoof, Cond.code yX6_ofRoof cX6_ofRoof 3 (some .int), Cond.methodLink RX6 33 yX6_roofAt, Cond.static yX6_roofAt, Cond.code yX6_roofAt cX6_roofAt 2 (some .int), Cond.methodLink RX6 113 yX6_tells, Cond.instanceMethod yX6_tells, Cond.selects RX6 yX6_tells yX6_tells, Cond.code yX6_tells cX6_tells 3 none, Cond.methodLink RX6 119 yX6_flows, Cond.instanceMethod yX6_flows, Cond.selects RX6 yX6_flows yX6_flows, Cond.code yX6_flows cX6_flows 7 (some .int), Cond.fieldLink RX6 19 "RainReservoirModel" "spiltAt" "[J", Cond.methodLink RX6 122 yX6_shares]
def wsX6_does_r2 : List Cond := [Cond.instanceMethod yX6_shares, Cond.selects RX6 yX6_shares yX6_shares, Cond.code yX6_shares cX6_shares 5 (some .boolean), Cond.fieldLink RX6 125 "RainReservoirModel" "left" "I", Cond.methodLink RX6 128 yX6_demands, Cond.instanceMethod yX6_demands, Cond.selects RX6 yX6_demands yX6_demands, Cond.code yX6_demands cX6_demands 3 (some .int), Cond.methodLink RX6 67 yX6_ofUser, Cond.instanceMethod yX6_ofUser, Cond.selects RX6 yX6_ofUser yX6_ofUser, Cond.code yX6_ofUser cX6_ofUser 3 (some .int), Cond.methodLink RX6 37 yX6_userAt, Cond.static yX6_userAt, Cond.code yX6_userAt cX6_userAt 2 (some .int), Cond.methodLink RX6 132 yX6_inProportion, Cond.instanceMethod yX6_inProportion, Cond.selects RX6 yX6_inProportion yX6_inProportion, Cond.code yX6_inProportion cX6_inProportion 4 none, Cond.methodLink RX6 144 yX6_gives, Cond.instanceMethod yX6_gives, Cond.selects RX6 yX6_gives yX6_gives, Cond.code yX6_gives cX6_gives 5 none, Cond.methodLink RX6 135 yX6_byOrder]
def wsX6_does_r3 : List Cond := [Cond.instanceMethod yX6_byOrder, Cond.selects RX6 yX6_byOrder yX6_byOrder, Cond.code yX6_byOrder cX6_byOrder 2 none, Cond.methodLink RX6 138 yX6_byWeights, Cond.instanceMethod yX6_byWeights, Cond.selects RX6 yX6_byWeights yX6_byWeights, Cond.code yX6_byWeights cX6_byWeights 2 none, Cond.methodLink RX6 141 yX6_smallestFirst, Cond.instanceMethod yX6_smallestFirst, Cond.selects RX6 yX6_smallestFirst yX6_smallestFirst, Cond.code yX6_smallestFirst cX6_smallestFirst 6 none]
def wsX6_does : List Cond := .code yX6_does cX6_does 7 (some .boolean) :: ((wsX6_does_r1 ++ (wsX6_does_r2 ++ wsX6_does_r3)) ++ wsX60)
def wsX6_run_r1 : List Cond := [Cond.constantLong RX6 46 (100), Cond.fieldLink RX6 7 "RainReservoirModel" "all" "[I", Cond.methodLink RX6 40 yX6_in, Cond.static yX6_in, Cond.initialized RX6, Cond.code yX6_in cX6_in 6 (some .boolean), Cond.methodLink RX6 52 yX6_goes, Cond.instanceMethod yX6_goes, Cond.selects RX6 yX6_goes yX6_goes, Cond.code yX6_goes cX6_goes 3 (some .boolean), Cond.fieldLink RX6 26 "RainReservoirModel" "thrown" "I", Cond.methodLink RX6 56 yX6_save, Cond.instanceMethod yX6_save, Cond.selects RX6 yX6_save yX6_save, Cond.code yX6_save cX6_save 2 none, Cond.fieldLink RX6 30 "RainReservoirModel" "savedMany" "I", Cond.fieldLink RX6 13 "RainReservoirModel" "saved" "[I", Cond.methodLink RX6 147 yX6_does, Cond.instanceMethod yX6_does, Cond.selects RX6 yX6_does yX6_does, Cond.code yX6_does cX6_does 7 (some .boolean), Cond.fieldLink RX6 110 "RainReservoirModel" "today" "I", Cond.methodLink RX6 116 yX6_drains, Cond.instanceMethod yX6_drains]
def wsX6_run_r2 : List Cond := [Cond.selects RX6 yX6_drains yX6_drains, Cond.code yX6_drains cX6_drains 2 none, Cond.methodLink RX6 83 yX6_ofRoof, Cond.instanceMethod yX6_ofRoof, Cond.selects RX6 yX6_ofRoof yX6_ofRoof, Cond.code yX6_ofRoof cX6_ofRoof 3 (some .int), Cond.methodLink RX6 33 yX6_roofAt, Cond.static yX6_roofAt, Cond.code yX6_roofAt cX6_roofAt 2 (some .int), Cond.methodLink RX6 113 yX6_tells, Cond.instanceMethod yX6_tells, Cond.selects RX6 yX6_tells yX6_tells, Cond.code yX6_tells cX6_tells 3 none, Cond.methodLink RX6 119 yX6_flows, Cond.instanceMethod yX6_flows, Cond.selects RX6 yX6_flows yX6_flows, Cond.code yX6_flows cX6_flows 7 (some .int), Cond.fieldLink RX6 19 "RainReservoirModel" "spiltAt" "[J", Cond.methodLink RX6 122 yX6_shares, Cond.instanceMethod yX6_shares, Cond.selects RX6 yX6_shares yX6_shares, Cond.code yX6_shares cX6_shares 5 (some .boolean), Cond.fieldLink RX6 125 "RainReservoirModel" "left" "I", Cond.methodLink RX6 128 yX6_demands]
def wsX6_run_r3 : List Cond := [Cond.instanceMethod yX6_demands, Cond.selects RX6 yX6_demands yX6_demands, Cond.code yX6_demands cX6_demands 3 (some .int), Cond.methodLink RX6 67 yX6_ofUser, Cond.instanceMethod yX6_ofUser, Cond.selects RX6 yX6_ofUser yX6_ofUser, Cond.code yX6_ofUser cX6_ofUser 3 (some .int), Cond.methodLink RX6 37 yX6_userAt, Cond.static yX6_userAt, Cond.code yX6_userAt cX6_userAt 2 (some .int), Cond.methodLink RX6 132 yX6_inProportion, Cond.instanceMethod yX6_inProportion, Cond.selects RX6 yX6_inProportion yX6_inProportion, Cond.code yX6_inProportion cX6_inProportion 4 none, Cond.methodLink RX6 144 yX6_gives, Cond.instanceMethod yX6_gives, Cond.selects RX6 yX6_gives yX6_gives, Cond.code yX6_gives cX6_gives 5 none, Cond.methodLink RX6 135 yX6_byOrder, Cond.instanceMethod yX6_byOrder, Cond.selects RX6 yX6_byOrder yX6_byOrder, Cond.code yX6_byOrder cX6_byOrder 2 none, Cond.methodLink RX6 138 yX6_byWeights, Cond.instanceMethod yX6_byWeights]
def wsX6_run_r4 : List Cond := [Cond.selects RX6 yX6_byWeights yX6_byWeights, Cond.code yX6_byWeights cX6_byWeights 2 none, Cond.methodLink RX6 141 yX6_smallestFirst, Cond.instanceMethod yX6_smallestFirst, Cond.selects RX6 yX6_smallestFirst yX6_smallestFirst, Cond.code yX6_smallestFirst cX6_smallestFirst 6 none]
def wsX6_run : List Cond := .code yX6_run cX6_run 5 (some .int) :: ((wsX6_run_r1 ++ (wsX6_run_r2 ++ (wsX6_run_r3 ++ wsX6_run_r4))) ++ wsX60)
def wsX6_goesBack : List Cond := .code yX6_goesBack cX6_goesBack 2 none :: ([.fieldLink RX6 7 "RainReservoirModel" "all" "[I", .methodLink RX6 33 yX6_roofAt, .static yX6_roofAt, .initialized RX6, .code yX6_roofAt cX6_roofAt 2 (some .int), .methodLink RX6 37 yX6_userAt, .static yX6_userAt, .code yX6_userAt cX6_userAt 2 (some .int)] ++ wsX60)
def wsX6_restart : List Cond := .code yX6_restart cX6_restart 2 (some .int) :: ([.fieldLink RX6 26 "RainReservoirModel" "thrown" "I", .fieldLink RX6 7 "RainReservoirModel" "all" "[I", .methodLink RX6 56 yX6_save, .instanceMethod yX6_save, .selects RX6 yX6_save yX6_save, .initialized RX6, .code yX6_save cX6_save 2 none, .fieldLink RX6 30 "RainReservoirModel" "savedMany" "I", .fieldLink RX6 13 "RainReservoirModel" "saved" "[I", .methodLink RX6 151 yX6_goesBack, .instanceMethod yX6_goesBack, .selects RX6 yX6_goesBack yX6_goesBack, .code yX6_goesBack cX6_goesBack 2 none, .methodLink RX6 33 yX6_roofAt, .static yX6_roofAt, .code yX6_roofAt cX6_roofAt 2 (some .int), .methodLink RX6 37 yX6_userAt, .static yX6_userAt, .code yX6_userAt cX6_userAt 2 (some .int)] ++ wsX60)
def wsX6_day : List Cond := .code yX6_day cX6_day 3 (some .int) :: ([.fieldLink RX6 7 "RainReservoirModel" "all" "[I", .constantLong RX6 61 (9), .methodLink RX6 40 yX6_in, .static yX6_in, .initialized RX6, .code yX6_in cX6_in 6 (some .boolean), .methodLink RX6 52 yX6_goes, .instanceMethod yX6_goes, .selects RX6 yX6_goes yX6_goes, .code yX6_goes cX6_goes 3 (some .boolean), .fieldLink RX6 26 "RainReservoirModel" "thrown" "I"] ++ wsX60)
def wsX6_sumOf : List Cond := .code yX6_sumOf cX6_sumOf 5 (some .long) :: ([.fieldLink RX6 7 "RainReservoirModel" "all" "[I"] ++ wsX60)
def wsX6_sum : List Cond := .code yX6_sum cX6_sum 2 (some .long) :: ([.constantLong RX6 61 (9), .methodLink RX6 40 yX6_in, .static yX6_in, .initialized RX6, .code yX6_in cX6_in 6 (some .boolean), .methodLink RX6 52 yX6_goes, .instanceMethod yX6_goes, .selects RX6 yX6_goes yX6_goes, .code yX6_goes cX6_goes 3 (some .boolean), .fieldLink RX6 26 "RainReservoirModel" "thrown" "I", .methodLink RX6 154 yX6_sumOf, .instanceMethod yX6_sumOf, .selects RX6 yX6_sumOf yX6_sumOf, .code yX6_sumOf cX6_sumOf 5 (some .long), .fieldLink RX6 7 "RainReservoirModel" "all" "[I"] ++ wsX60)
def wsX6_wasShort : List Cond := .code yX6_wasShort cX6_wasShort 2 (some .boolean) :: ([.fieldLink RX6 7 "RainReservoirModel" "all" "[I"] ++ wsX60)
def wsX6_reliability : List Cond := .code yX6_reliability cX6_reliability 3 (some .double) :: ([.fieldLink RX6 26 "RainReservoirModel" "thrown" "I", .fieldLink RX6 7 "RainReservoirModel" "all" "[I", .methodLink RX6 158 yX6_wasShort, .instanceMethod yX6_wasShort, .selects RX6 yX6_wasShort yX6_wasShort, .initialized RX6, .code yX6_wasShort cX6_wasShort 2 (some .boolean)] ++ wsX60)
def wsX6_longestShortage : List Cond := .code yX6_longestShortage cX6_longestShortage 4 (some .int) :: ([.fieldLink RX6 26 "RainReservoirModel" "thrown" "I", .fieldLink RX6 7 "RainReservoirModel" "all" "[I", .methodLink RX6 158 yX6_wasShort, .instanceMethod yX6_wasShort, .selects RX6 yX6_wasShort yX6_wasShort, .initialized RX6, .code yX6_wasShort cX6_wasShort 2 (some .boolean)] ++ wsX60)
def wsX6_shortDays_r1 : List Cond := [Cond.fieldLink RX6 19 "RainReservoirModel" "spiltAt" "[J", Cond.fieldLink RX6 7 "RainReservoirModel" "all" "[I", Cond.methodLink RX6 151 yX6_goesBack, Cond.instanceMethod yX6_goesBack, Cond.selects RX6 yX6_goesBack yX6_goesBack, Cond.initialized RX6, Cond.code yX6_goesBack cX6_goesBack 2 none, Cond.methodLink RX6 33 yX6_roofAt, Cond.static yX6_roofAt, Cond.code yX6_roofAt cX6_roofAt 2 (some .int), Cond.methodLink RX6 37 yX6_userAt, Cond.static yX6_userAt, Cond.code yX6_userAt cX6_userAt 2 (some .int), Cond.methodLink RX6 147 yX6_does, Cond.instanceMethod yX6_does, Cond.selects RX6 yX6_does yX6_does, Cond.code yX6_does cX6_does 7 (some .boolean), Cond.fieldLink RX6 110 "RainReservoirModel" "today" "I", Cond.methodLink RX6 116 yX6_drains, Cond.instanceMethod yX6_drains, Cond.selects RX6 yX6_drains yX6_drains, Cond.code yX6_drains cX6_drains 2 none, Cond.methodLink RX6 83 yX6_ofRoof, Cond.instanceMethod yX6_ofRoof]
def wsX6_shortDays_r2 : List Cond := [Cond.selects RX6 yX6_ofRoof yX6_ofRoof, Cond.code yX6_ofRoof cX6_ofRoof 3 (some .int), Cond.methodLink RX6 113 yX6_tells, Cond.instanceMethod yX6_tells, Cond.selects RX6 yX6_tells yX6_tells, Cond.code yX6_tells cX6_tells 3 none, Cond.methodLink RX6 119 yX6_flows, Cond.instanceMethod yX6_flows, Cond.selects RX6 yX6_flows yX6_flows, Cond.code yX6_flows cX6_flows 7 (some .int), Cond.methodLink RX6 122 yX6_shares, Cond.instanceMethod yX6_shares, Cond.selects RX6 yX6_shares yX6_shares, Cond.code yX6_shares cX6_shares 5 (some .boolean), Cond.fieldLink RX6 125 "RainReservoirModel" "left" "I", Cond.methodLink RX6 128 yX6_demands, Cond.instanceMethod yX6_demands, Cond.selects RX6 yX6_demands yX6_demands, Cond.code yX6_demands cX6_demands 3 (some .int), Cond.methodLink RX6 67 yX6_ofUser, Cond.instanceMethod yX6_ofUser, Cond.selects RX6 yX6_ofUser yX6_ofUser, Cond.code yX6_ofUser cX6_ofUser 3 (some .int), Cond.methodLink RX6 132 yX6_inProportion]
def wsX6_shortDays_r3 : List Cond := [Cond.instanceMethod yX6_inProportion, Cond.selects RX6 yX6_inProportion yX6_inProportion, Cond.code yX6_inProportion cX6_inProportion 4 none, Cond.methodLink RX6 144 yX6_gives, Cond.instanceMethod yX6_gives, Cond.selects RX6 yX6_gives yX6_gives, Cond.code yX6_gives cX6_gives 5 none, Cond.methodLink RX6 135 yX6_byOrder, Cond.instanceMethod yX6_byOrder, Cond.selects RX6 yX6_byOrder yX6_byOrder, Cond.code yX6_byOrder cX6_byOrder 2 none, Cond.methodLink RX6 138 yX6_byWeights, Cond.instanceMethod yX6_byWeights, Cond.selects RX6 yX6_byWeights yX6_byWeights, Cond.code yX6_byWeights cX6_byWeights 2 none, Cond.methodLink RX6 141 yX6_smallestFirst, Cond.instanceMethod yX6_smallestFirst, Cond.selects RX6 yX6_smallestFirst yX6_smallestFirst, Cond.code yX6_smallestFirst cX6_smallestFirst 6 none]
def wsX6_shortDays : List Cond := .code yX6_shortDays cX6_shortDays 2 (some .int) :: ((wsX6_shortDays_r1 ++ (wsX6_shortDays_r2 ++ wsX6_shortDays_r3)) ++ wsX60)
def wsX6_shortWith_r1 : List Cond := [Cond.fieldLink RX6 7 "RainReservoirModel" "all" "[I", Cond.methodLink RX6 161 yX6_shortDays, Cond.instanceMethod yX6_shortDays, Cond.selects RX6 yX6_shortDays yX6_shortDays, Cond.initialized RX6, Cond.code yX6_shortDays cX6_shortDays 2 (some .int), Cond.fieldLink RX6 19 "RainReservoirModel" "spiltAt" "[J", Cond.methodLink RX6 151 yX6_goesBack, Cond.instanceMethod yX6_goesBack, Cond.selects RX6 yX6_goesBack yX6_goesBack, Cond.code yX6_goesBack cX6_goesBack 2 none, Cond.methodLink RX6 33 yX6_roofAt, Cond.static yX6_roofAt, Cond.code yX6_roofAt cX6_roofAt 2 (some .int), Cond.methodLink RX6 37 yX6_userAt, Cond.static yX6_userAt, Cond.code yX6_userAt cX6_userAt 2 (some .int), Cond.methodLink RX6 147 yX6_does, Cond.instanceMethod yX6_does, Cond.selects RX6 yX6_does yX6_does, Cond.code yX6_does cX6_does 7 (some .boolean), Cond.fieldLink RX6 110 "RainReservoirModel" "today" "I", Cond.methodLink RX6 116 yX6_drains, Cond.instanceMethod yX6_drains]
def wsX6_shortWith_r2 : List Cond := [Cond.selects RX6 yX6_drains yX6_drains, Cond.code yX6_drains cX6_drains 2 none, Cond.methodLink RX6 83 yX6_ofRoof, Cond.instanceMethod yX6_ofRoof, Cond.selects RX6 yX6_ofRoof yX6_ofRoof, Cond.code yX6_ofRoof cX6_ofRoof 3 (some .int), Cond.methodLink RX6 113 yX6_tells, Cond.instanceMethod yX6_tells, Cond.selects RX6 yX6_tells yX6_tells, Cond.code yX6_tells cX6_tells 3 none, Cond.methodLink RX6 119 yX6_flows, Cond.instanceMethod yX6_flows, Cond.selects RX6 yX6_flows yX6_flows, Cond.code yX6_flows cX6_flows 7 (some .int), Cond.methodLink RX6 122 yX6_shares, Cond.instanceMethod yX6_shares, Cond.selects RX6 yX6_shares yX6_shares, Cond.code yX6_shares cX6_shares 5 (some .boolean), Cond.fieldLink RX6 125 "RainReservoirModel" "left" "I", Cond.methodLink RX6 128 yX6_demands, Cond.instanceMethod yX6_demands, Cond.selects RX6 yX6_demands yX6_demands, Cond.code yX6_demands cX6_demands 3 (some .int), Cond.methodLink RX6 67 yX6_ofUser]
def wsX6_shortWith_r3 : List Cond := [Cond.instanceMethod yX6_ofUser, Cond.selects RX6 yX6_ofUser yX6_ofUser, Cond.code yX6_ofUser cX6_ofUser 3 (some .int), Cond.methodLink RX6 132 yX6_inProportion, Cond.instanceMethod yX6_inProportion, Cond.selects RX6 yX6_inProportion yX6_inProportion, Cond.code yX6_inProportion cX6_inProportion 4 none, Cond.methodLink RX6 144 yX6_gives, Cond.instanceMethod yX6_gives, Cond.selects RX6 yX6_gives yX6_gives, Cond.code yX6_gives cX6_gives 5 none, Cond.methodLink RX6 135 yX6_byOrder, Cond.instanceMethod yX6_byOrder, Cond.selects RX6 yX6_byOrder yX6_byOrder, Cond.code yX6_byOrder cX6_byOrder 2 none, Cond.methodLink RX6 138 yX6_byWeights, Cond.instanceMethod yX6_byWeights, Cond.selects RX6 yX6_byWeights yX6_byWeights, Cond.code yX6_byWeights cX6_byWeights 2 none, Cond.methodLink RX6 141 yX6_smallestFirst, Cond.instanceMethod yX6_smallestFirst, Cond.selects RX6 yX6_smallestFirst yX6_smallestFirst, Cond.code yX6_smallestFirst cX6_smallestFirst 6 none, Cond.methodLink RX6 164 yX6_takesBack]
def wsX6_shortWith_r4 : List Cond := [Cond.instanceMethod yX6_takesBack, Cond.selects RX6 yX6_takesBack yX6_takesBack, Cond.code yX6_takesBack cX6_takesBack 2 none, Cond.fieldLink RX6 16 "RainReservoirModel" "aside" "[I"]
def wsX6_shortWith : List Cond := .code yX6_shortWith cX6_shortWith 3 (some .int) :: ((wsX6_shortWith_r1 ++ (wsX6_shortWith_r2 ++ (wsX6_shortWith_r3 ++ wsX6_shortWith_r4))) ++ wsX60)
def wsX6_shortDaysWith_r1 : List Cond := [Cond.constantLong RX6 46 (100), Cond.constantLong RX6 70 (60000), Cond.methodLink RX6 40 yX6_in, Cond.static yX6_in, Cond.initialized RX6, Cond.code yX6_in cX6_in 6 (some .boolean), Cond.methodLink RX6 52 yX6_goes, Cond.instanceMethod yX6_goes, Cond.selects RX6 yX6_goes yX6_goes, Cond.code yX6_goes cX6_goes 3 (some .boolean), Cond.fieldLink RX6 26 "RainReservoirModel" "thrown" "I", Cond.methodLink RX6 167 yX6_lays, Cond.instanceMethod yX6_lays, Cond.selects RX6 yX6_lays yX6_lays, Cond.code yX6_lays cX6_lays 2 none, Cond.fieldLink RX6 16 "RainReservoirModel" "aside" "[I", Cond.fieldLink RX6 7 "RainReservoirModel" "all" "[I", Cond.methodLink RX6 170 yX6_shortWith, Cond.instanceMethod yX6_shortWith, Cond.selects RX6 yX6_shortWith yX6_shortWith, Cond.code yX6_shortWith cX6_shortWith 3 (some .int), Cond.methodLink RX6 161 yX6_shortDays, Cond.instanceMethod yX6_shortDays, Cond.selects RX6 yX6_shortDays yX6_shortDays]
def wsX6_shortDaysWith_r2 : List Cond := [Cond.code yX6_shortDays cX6_shortDays 2 (some .int), Cond.fieldLink RX6 19 "RainReservoirModel" "spiltAt" "[J", Cond.methodLink RX6 151 yX6_goesBack, Cond.instanceMethod yX6_goesBack, Cond.selects RX6 yX6_goesBack yX6_goesBack, Cond.code yX6_goesBack cX6_goesBack 2 none, Cond.methodLink RX6 33 yX6_roofAt, Cond.static yX6_roofAt, Cond.code yX6_roofAt cX6_roofAt 2 (some .int), Cond.methodLink RX6 37 yX6_userAt, Cond.static yX6_userAt, Cond.code yX6_userAt cX6_userAt 2 (some .int), Cond.methodLink RX6 147 yX6_does, Cond.instanceMethod yX6_does, Cond.selects RX6 yX6_does yX6_does, Cond.code yX6_does cX6_does 7 (some .boolean), Cond.fieldLink RX6 110 "RainReservoirModel" "today" "I", Cond.methodLink RX6 116 yX6_drains, Cond.instanceMethod yX6_drains, Cond.selects RX6 yX6_drains yX6_drains, Cond.code yX6_drains cX6_drains 2 none, Cond.methodLink RX6 83 yX6_ofRoof, Cond.instanceMethod yX6_ofRoof, Cond.selects RX6 yX6_ofRoof yX6_ofRoof]
def wsX6_shortDaysWith_r3 : List Cond := [Cond.code yX6_ofRoof cX6_ofRoof 3 (some .int), Cond.methodLink RX6 113 yX6_tells, Cond.instanceMethod yX6_tells, Cond.selects RX6 yX6_tells yX6_tells, Cond.code yX6_tells cX6_tells 3 none, Cond.methodLink RX6 119 yX6_flows, Cond.instanceMethod yX6_flows, Cond.selects RX6 yX6_flows yX6_flows, Cond.code yX6_flows cX6_flows 7 (some .int), Cond.methodLink RX6 122 yX6_shares, Cond.instanceMethod yX6_shares, Cond.selects RX6 yX6_shares yX6_shares, Cond.code yX6_shares cX6_shares 5 (some .boolean), Cond.fieldLink RX6 125 "RainReservoirModel" "left" "I", Cond.methodLink RX6 128 yX6_demands, Cond.instanceMethod yX6_demands, Cond.selects RX6 yX6_demands yX6_demands, Cond.code yX6_demands cX6_demands 3 (some .int), Cond.methodLink RX6 67 yX6_ofUser, Cond.instanceMethod yX6_ofUser, Cond.selects RX6 yX6_ofUser yX6_ofUser, Cond.code yX6_ofUser cX6_ofUser 3 (some .int), Cond.methodLink RX6 132 yX6_inProportion, Cond.instanceMethod yX6_inProportion]
def wsX6_shortDaysWith_r4 : List Cond := [Cond.selects RX6 yX6_inProportion yX6_inProportion, Cond.code yX6_inProportion cX6_inProportion 4 none, Cond.methodLink RX6 144 yX6_gives, Cond.instanceMethod yX6_gives, Cond.selects RX6 yX6_gives yX6_gives, Cond.code yX6_gives cX6_gives 5 none, Cond.methodLink RX6 135 yX6_byOrder, Cond.instanceMethod yX6_byOrder, Cond.selects RX6 yX6_byOrder yX6_byOrder, Cond.code yX6_byOrder cX6_byOrder 2 none, Cond.methodLink RX6 138 yX6_byWeights, Cond.instanceMethod yX6_byWeights, Cond.selects RX6 yX6_byWeights yX6_byWeights, Cond.code yX6_byWeights cX6_byWeights 2 none, Cond.methodLink RX6 141 yX6_smallestFirst, Cond.instanceMethod yX6_smallestFirst, Cond.selects RX6 yX6_smallestFirst yX6_smallestFirst, Cond.code yX6_smallestFirst cX6_smallestFirst 6 none, Cond.methodLink RX6 164 yX6_takesBack, Cond.instanceMethod yX6_takesBack, Cond.selects RX6 yX6_takesBack yX6_takesBack, Cond.code yX6_takesBack cX6_takesBack 2 none]
def wsX6_shortDaysWith : List Cond := .code yX6_shortDaysWith cX6_shortDaysWith 2 (some .int) :: ((wsX6_shortDaysWith_r1 ++ (wsX6_shortDaysWith_r2 ++ (wsX6_shortDaysWith_r3 ++ wsX6_shortDaysWith_r4))) ++ wsX60)
def wsX6_capacityFor_r1 : List Cond := [Cond.constantLong RX6 46 (100), Cond.constant RX6 173 (60000), Cond.methodLink RX6 40 yX6_in, Cond.static yX6_in, Cond.initialized RX6, Cond.code yX6_in cX6_in 6 (some .boolean), Cond.methodLink RX6 52 yX6_goes, Cond.instanceMethod yX6_goes, Cond.selects RX6 yX6_goes yX6_goes, Cond.code yX6_goes cX6_goes 3 (some .boolean), Cond.fieldLink RX6 26 "RainReservoirModel" "thrown" "I", Cond.methodLink RX6 167 yX6_lays, Cond.instanceMethod yX6_lays, Cond.selects RX6 yX6_lays yX6_lays, Cond.code yX6_lays cX6_lays 2 none, Cond.fieldLink RX6 16 "RainReservoirModel" "aside" "[I", Cond.fieldLink RX6 7 "RainReservoirModel" "all" "[I", Cond.methodLink RX6 170 yX6_shortWith, Cond.instanceMethod yX6_shortWith, Cond.selects RX6 yX6_shortWith yX6_shortWith, Cond.code yX6_shortWith cX6_shortWith 3 (some .int), Cond.methodLink RX6 161 yX6_shortDays, Cond.instanceMethod yX6_shortDays, Cond.selects RX6 yX6_shortDays yX6_shortDays]
def wsX6_capacityFor_r2 : List Cond := [Cond.code yX6_shortDays cX6_shortDays 2 (some .int), Cond.fieldLink RX6 19 "RainReservoirModel" "spiltAt" "[J", Cond.methodLink RX6 151 yX6_goesBack, Cond.instanceMethod yX6_goesBack, Cond.selects RX6 yX6_goesBack yX6_goesBack, Cond.code yX6_goesBack cX6_goesBack 2 none, Cond.methodLink RX6 33 yX6_roofAt, Cond.static yX6_roofAt, Cond.code yX6_roofAt cX6_roofAt 2 (some .int), Cond.methodLink RX6 37 yX6_userAt, Cond.static yX6_userAt, Cond.code yX6_userAt cX6_userAt 2 (some .int), Cond.methodLink RX6 147 yX6_does, Cond.instanceMethod yX6_does, Cond.selects RX6 yX6_does yX6_does, Cond.code yX6_does cX6_does 7 (some .boolean), Cond.fieldLink RX6 110 "RainReservoirModel" "today" "I", Cond.methodLink RX6 116 yX6_drains, Cond.instanceMethod yX6_drains, Cond.selects RX6 yX6_drains yX6_drains, Cond.code yX6_drains cX6_drains 2 none, Cond.methodLink RX6 83 yX6_ofRoof, Cond.instanceMethod yX6_ofRoof, Cond.selects RX6 yX6_ofRoof yX6_ofRoof]
def wsX6_capacityFor_r3 : List Cond := [Cond.code yX6_ofRoof cX6_ofRoof 3 (some .int), Cond.methodLink RX6 113 yX6_tells, Cond.instanceMethod yX6_tells, Cond.selects RX6 yX6_tells yX6_tells, Cond.code yX6_tells cX6_tells 3 none, Cond.methodLink RX6 119 yX6_flows, Cond.instanceMethod yX6_flows, Cond.selects RX6 yX6_flows yX6_flows, Cond.code yX6_flows cX6_flows 7 (some .int), Cond.methodLink RX6 122 yX6_shares, Cond.instanceMethod yX6_shares, Cond.selects RX6 yX6_shares yX6_shares, Cond.code yX6_shares cX6_shares 5 (some .boolean), Cond.fieldLink RX6 125 "RainReservoirModel" "left" "I", Cond.methodLink RX6 128 yX6_demands, Cond.instanceMethod yX6_demands, Cond.selects RX6 yX6_demands yX6_demands, Cond.code yX6_demands cX6_demands 3 (some .int), Cond.methodLink RX6 67 yX6_ofUser, Cond.instanceMethod yX6_ofUser, Cond.selects RX6 yX6_ofUser yX6_ofUser, Cond.code yX6_ofUser cX6_ofUser 3 (some .int), Cond.methodLink RX6 132 yX6_inProportion, Cond.instanceMethod yX6_inProportion]
def wsX6_capacityFor_r4 : List Cond := [Cond.selects RX6 yX6_inProportion yX6_inProportion, Cond.code yX6_inProportion cX6_inProportion 4 none, Cond.methodLink RX6 144 yX6_gives, Cond.instanceMethod yX6_gives, Cond.selects RX6 yX6_gives yX6_gives, Cond.code yX6_gives cX6_gives 5 none, Cond.methodLink RX6 135 yX6_byOrder, Cond.instanceMethod yX6_byOrder, Cond.selects RX6 yX6_byOrder yX6_byOrder, Cond.code yX6_byOrder cX6_byOrder 2 none, Cond.methodLink RX6 138 yX6_byWeights, Cond.instanceMethod yX6_byWeights, Cond.selects RX6 yX6_byWeights yX6_byWeights, Cond.code yX6_byWeights cX6_byWeights 2 none, Cond.methodLink RX6 141 yX6_smallestFirst, Cond.instanceMethod yX6_smallestFirst, Cond.selects RX6 yX6_smallestFirst yX6_smallestFirst, Cond.code yX6_smallestFirst cX6_smallestFirst 6 none, Cond.methodLink RX6 164 yX6_takesBack, Cond.instanceMethod yX6_takesBack, Cond.selects RX6 yX6_takesBack yX6_takesBack, Cond.code yX6_takesBack cX6_takesBack 2 none]
def wsX6_capacityFor : List Cond := .code yX6_capacityFor cX6_capacityFor 3 (some .int) :: ((wsX6_capacityFor_r1 ++ (wsX6_capacityFor_r2 ++ (wsX6_capacityFor_r3 ++ wsX6_capacityFor_r4))) ++ wsX60)
def wsX6_mostLack : List Cond := .code yX6_mostLack cX6_mostLack 4 (some .int) :: ([.fieldLink RX6 7 "RainReservoirModel" "all" "[I", .methodLink RX6 67 yX6_ofUser, .instanceMethod yX6_ofUser, .selects RX6 yX6_ofUser yX6_ofUser, .initialized RX6, .code yX6_ofUser cX6_ofUser 3 (some .int), .methodLink RX6 37 yX6_userAt, .static yX6_userAt, .code yX6_userAt cX6_userAt 2 (some .int)] ++ wsX60)
def wsX6_bestRule_r1 : List Cond := [Cond.fieldLink RX6 26 "RainReservoirModel" "thrown" "I", Cond.fieldLink RX6 7 "RainReservoirModel" "all" "[I", Cond.methodLink RX6 167 yX6_lays, Cond.instanceMethod yX6_lays, Cond.selects RX6 yX6_lays yX6_lays, Cond.initialized RX6, Cond.code yX6_lays cX6_lays 2 none, Cond.fieldLink RX6 16 "RainReservoirModel" "aside" "[I", Cond.methodLink RX6 161 yX6_shortDays, Cond.instanceMethod yX6_shortDays, Cond.selects RX6 yX6_shortDays yX6_shortDays, Cond.code yX6_shortDays cX6_shortDays 2 (some .int), Cond.fieldLink RX6 19 "RainReservoirModel" "spiltAt" "[J", Cond.methodLink RX6 151 yX6_goesBack, Cond.instanceMethod yX6_goesBack, Cond.selects RX6 yX6_goesBack yX6_goesBack, Cond.code yX6_goesBack cX6_goesBack 2 none, Cond.methodLink RX6 33 yX6_roofAt, Cond.static yX6_roofAt, Cond.code yX6_roofAt cX6_roofAt 2 (some .int), Cond.methodLink RX6 37 yX6_userAt, Cond.static yX6_userAt, Cond.code yX6_userAt cX6_userAt 2 (some .int), Cond.methodLink RX6 147 yX6_does]
def wsX6_bestRule_r2 : List Cond := [Cond.instanceMethod yX6_does, Cond.selects RX6 yX6_does yX6_does, Cond.code yX6_does cX6_does 7 (some .boolean), Cond.fieldLink RX6 110 "RainReservoirModel" "today" "I", Cond.methodLink RX6 116 yX6_drains, Cond.instanceMethod yX6_drains, Cond.selects RX6 yX6_drains yX6_drains, Cond.code yX6_drains cX6_drains 2 none, Cond.methodLink RX6 83 yX6_ofRoof, Cond.instanceMethod yX6_ofRoof, Cond.selects RX6 yX6_ofRoof yX6_ofRoof, Cond.code yX6_ofRoof cX6_ofRoof 3 (some .int), Cond.methodLink RX6 113 yX6_tells, Cond.instanceMethod yX6_tells, Cond.selects RX6 yX6_tells yX6_tells, Cond.code yX6_tells cX6_tells 3 none, Cond.methodLink RX6 119 yX6_flows, Cond.instanceMethod yX6_flows, Cond.selects RX6 yX6_flows yX6_flows, Cond.code yX6_flows cX6_flows 7 (some .int), Cond.methodLink RX6 122 yX6_shares, Cond.instanceMethod yX6_shares, Cond.selects RX6 yX6_shares yX6_shares, Cond.code yX6_shares cX6_shares 5 (some .boolean)]
def wsX6_bestRule_r3 : List Cond := [Cond.fieldLink RX6 125 "RainReservoirModel" "left" "I", Cond.methodLink RX6 128 yX6_demands, Cond.instanceMethod yX6_demands, Cond.selects RX6 yX6_demands yX6_demands, Cond.code yX6_demands cX6_demands 3 (some .int), Cond.methodLink RX6 67 yX6_ofUser, Cond.instanceMethod yX6_ofUser, Cond.selects RX6 yX6_ofUser yX6_ofUser, Cond.code yX6_ofUser cX6_ofUser 3 (some .int), Cond.methodLink RX6 132 yX6_inProportion, Cond.instanceMethod yX6_inProportion, Cond.selects RX6 yX6_inProportion yX6_inProportion, Cond.code yX6_inProportion cX6_inProportion 4 none, Cond.methodLink RX6 144 yX6_gives, Cond.instanceMethod yX6_gives, Cond.selects RX6 yX6_gives yX6_gives, Cond.code yX6_gives cX6_gives 5 none, Cond.methodLink RX6 135 yX6_byOrder, Cond.instanceMethod yX6_byOrder, Cond.selects RX6 yX6_byOrder yX6_byOrder, Cond.code yX6_byOrder cX6_byOrder 2 none, Cond.methodLink RX6 138 yX6_byWeights, Cond.instanceMethod yX6_byWeights, Cond.selects RX6 yX6_byWeights yX6_byWeights]
def wsX6_bestRule_r4 : List Cond := [Cond.code yX6_byWeights cX6_byWeights 2 none, Cond.methodLink RX6 141 yX6_smallestFirst, Cond.instanceMethod yX6_smallestFirst, Cond.selects RX6 yX6_smallestFirst yX6_smallestFirst, Cond.code yX6_smallestFirst cX6_smallestFirst 6 none, Cond.methodLink RX6 174 yX6_mostLack, Cond.instanceMethod yX6_mostLack, Cond.selects RX6 yX6_mostLack yX6_mostLack, Cond.code yX6_mostLack cX6_mostLack 4 (some .int), Cond.methodLink RX6 164 yX6_takesBack, Cond.instanceMethod yX6_takesBack, Cond.selects RX6 yX6_takesBack yX6_takesBack, Cond.code yX6_takesBack cX6_takesBack 2 none]
def wsX6_bestRule : List Cond := .code yX6_bestRule cX6_bestRule 7 (some .int) :: ((wsX6_bestRule_r1 ++ (wsX6_bestRule_r2 ++ (wsX6_bestRule_r3 ++ wsX6_bestRule_r4))) ++ wsX60)
def wsX6_sustainable_r1 : List Cond := [Cond.fieldLink RX6 26 "RainReservoirModel" "thrown" "I", Cond.fieldLink RX6 7 "RainReservoirModel" "all" "[I", Cond.methodLink RX6 167 yX6_lays, Cond.instanceMethod yX6_lays, Cond.selects RX6 yX6_lays yX6_lays, Cond.initialized RX6, Cond.code yX6_lays cX6_lays 2 none, Cond.fieldLink RX6 16 "RainReservoirModel" "aside" "[I", Cond.methodLink RX6 37 yX6_userAt, Cond.static yX6_userAt, Cond.code yX6_userAt cX6_userAt 2 (some .int), Cond.methodLink RX6 67 yX6_ofUser, Cond.instanceMethod yX6_ofUser, Cond.selects RX6 yX6_ofUser yX6_ofUser, Cond.code yX6_ofUser cX6_ofUser 3 (some .int), Cond.methodLink RX6 161 yX6_shortDays, Cond.instanceMethod yX6_shortDays, Cond.selects RX6 yX6_shortDays yX6_shortDays, Cond.code yX6_shortDays cX6_shortDays 2 (some .int), Cond.fieldLink RX6 19 "RainReservoirModel" "spiltAt" "[J", Cond.methodLink RX6 151 yX6_goesBack, Cond.instanceMethod yX6_goesBack, Cond.selects RX6 yX6_goesBack yX6_goesBack, Cond.code yX6_goesBack cX6_goesBack 2 none]
def wsX6_sustainable_r2 : List Cond := [Cond.methodLink RX6 33 yX6_roofAt, Cond.static yX6_roofAt, Cond.code yX6_roofAt cX6_roofAt 2 (some .int), Cond.methodLink RX6 147 yX6_does, Cond.instanceMethod yX6_does, Cond.selects RX6 yX6_does yX6_does, Cond.code yX6_does cX6_does 7 (some .boolean), Cond.fieldLink RX6 110 "RainReservoirModel" "today" "I", Cond.methodLink RX6 116 yX6_drains, Cond.instanceMethod yX6_drains, Cond.selects RX6 yX6_drains yX6_drains, Cond.code yX6_drains cX6_drains 2 none, Cond.methodLink RX6 83 yX6_ofRoof, Cond.instanceMethod yX6_ofRoof, Cond.selects RX6 yX6_ofRoof yX6_ofRoof, Cond.code yX6_ofRoof cX6_ofRoof 3 (some .int), Cond.methodLink RX6 113 yX6_tells, Cond.instanceMethod yX6_tells, Cond.selects RX6 yX6_tells yX6_tells, Cond.code yX6_tells cX6_tells 3 none, Cond.methodLink RX6 119 yX6_flows, Cond.instanceMethod yX6_flows, Cond.selects RX6 yX6_flows yX6_flows, Cond.code yX6_flows cX6_flows 7 (some .int)]
def wsX6_sustainable_r3 : List Cond := [Cond.methodLink RX6 122 yX6_shares, Cond.instanceMethod yX6_shares, Cond.selects RX6 yX6_shares yX6_shares, Cond.code yX6_shares cX6_shares 5 (some .boolean), Cond.fieldLink RX6 125 "RainReservoirModel" "left" "I", Cond.methodLink RX6 128 yX6_demands, Cond.instanceMethod yX6_demands, Cond.selects RX6 yX6_demands yX6_demands, Cond.code yX6_demands cX6_demands 3 (some .int), Cond.methodLink RX6 132 yX6_inProportion, Cond.instanceMethod yX6_inProportion, Cond.selects RX6 yX6_inProportion yX6_inProportion, Cond.code yX6_inProportion cX6_inProportion 4 none, Cond.methodLink RX6 144 yX6_gives, Cond.instanceMethod yX6_gives, Cond.selects RX6 yX6_gives yX6_gives, Cond.code yX6_gives cX6_gives 5 none, Cond.methodLink RX6 135 yX6_byOrder, Cond.instanceMethod yX6_byOrder, Cond.selects RX6 yX6_byOrder yX6_byOrder, Cond.code yX6_byOrder cX6_byOrder 2 none, Cond.methodLink RX6 138 yX6_byWeights, Cond.instanceMethod yX6_byWeights, Cond.selects RX6 yX6_byWeights yX6_byWeights]
def wsX6_sustainable_r4 : List Cond := [Cond.code yX6_byWeights cX6_byWeights 2 none, Cond.methodLink RX6 141 yX6_smallestFirst, Cond.instanceMethod yX6_smallestFirst, Cond.selects RX6 yX6_smallestFirst yX6_smallestFirst, Cond.code yX6_smallestFirst cX6_smallestFirst 6 none, Cond.methodLink RX6 164 yX6_takesBack, Cond.instanceMethod yX6_takesBack, Cond.selects RX6 yX6_takesBack yX6_takesBack, Cond.code yX6_takesBack cX6_takesBack 2 none]
def wsX6_sustainable : List Cond := .code yX6_sustainable cX6_sustainable 3 (some .int) :: ((wsX6_sustainable_r1 ++ (wsX6_sustainable_r2 ++ (wsX6_sustainable_r3 ++ wsX6_sustainable_r4))) ++ wsX60)
def wsX6_gutterLoss_r1 : List Cond := [Cond.fieldLink RX6 19 "RainReservoirModel" "spiltAt" "[J", Cond.methodLink RX6 78 yX6_isRoof, Cond.instanceMethod yX6_isRoof, Cond.selects RX6 yX6_isRoof yX6_isRoof, Cond.initialized RX6, Cond.code yX6_isRoof cX6_isRoof 2 (some .boolean), Cond.fieldLink RX6 7 "RainReservoirModel" "all" "[I", Cond.methodLink RX6 40 yX6_in, Cond.static yX6_in, Cond.code yX6_in cX6_in 6 (some .boolean), Cond.methodLink RX6 52 yX6_goes, Cond.instanceMethod yX6_goes, Cond.selects RX6 yX6_goes yX6_goes, Cond.code yX6_goes cX6_goes 3 (some .boolean), Cond.fieldLink RX6 26 "RainReservoirModel" "thrown" "I", Cond.methodLink RX6 167 yX6_lays, Cond.instanceMethod yX6_lays, Cond.selects RX6 yX6_lays yX6_lays, Cond.code yX6_lays cX6_lays 2 none, Cond.fieldLink RX6 16 "RainReservoirModel" "aside" "[I", Cond.methodLink RX6 161 yX6_shortDays, Cond.instanceMethod yX6_shortDays, Cond.selects RX6 yX6_shortDays yX6_shortDays, Cond.code yX6_shortDays cX6_shortDays 2 (some .int)]
def wsX6_gutterLoss_r2 : List Cond := [Cond.methodLink RX6 151 yX6_goesBack, Cond.instanceMethod yX6_goesBack, Cond.selects RX6 yX6_goesBack yX6_goesBack, Cond.code yX6_goesBack cX6_goesBack 2 none, Cond.methodLink RX6 33 yX6_roofAt, Cond.static yX6_roofAt, Cond.code yX6_roofAt cX6_roofAt 2 (some .int), Cond.methodLink RX6 37 yX6_userAt, Cond.static yX6_userAt, Cond.code yX6_userAt cX6_userAt 2 (some .int), Cond.methodLink RX6 147 yX6_does, Cond.instanceMethod yX6_does, Cond.selects RX6 yX6_does yX6_does, Cond.code yX6_does cX6_does 7 (some .boolean), Cond.fieldLink RX6 110 "RainReservoirModel" "today" "I", Cond.methodLink RX6 116 yX6_drains, Cond.instanceMethod yX6_drains, Cond.selects RX6 yX6_drains yX6_drains, Cond.code yX6_drains cX6_drains 2 none, Cond.methodLink RX6 83 yX6_ofRoof, Cond.instanceMethod yX6_ofRoof, Cond.selects RX6 yX6_ofRoof yX6_ofRoof, Cond.code yX6_ofRoof cX6_ofRoof 3 (some .int), Cond.methodLink RX6 113 yX6_tells]
def wsX6_gutterLoss_r3 : List Cond := [Cond.instanceMethod yX6_tells, Cond.selects RX6 yX6_tells yX6_tells, Cond.code yX6_tells cX6_tells 3 none, Cond.methodLink RX6 119 yX6_flows, Cond.instanceMethod yX6_flows, Cond.selects RX6 yX6_flows yX6_flows, Cond.code yX6_flows cX6_flows 7 (some .int), Cond.methodLink RX6 122 yX6_shares, Cond.instanceMethod yX6_shares, Cond.selects RX6 yX6_shares yX6_shares, Cond.code yX6_shares cX6_shares 5 (some .boolean), Cond.fieldLink RX6 125 "RainReservoirModel" "left" "I", Cond.methodLink RX6 128 yX6_demands, Cond.instanceMethod yX6_demands, Cond.selects RX6 yX6_demands yX6_demands, Cond.code yX6_demands cX6_demands 3 (some .int), Cond.methodLink RX6 67 yX6_ofUser, Cond.instanceMethod yX6_ofUser, Cond.selects RX6 yX6_ofUser yX6_ofUser, Cond.code yX6_ofUser cX6_ofUser 3 (some .int), Cond.methodLink RX6 132 yX6_inProportion, Cond.instanceMethod yX6_inProportion, Cond.selects RX6 yX6_inProportion yX6_inProportion, Cond.code yX6_inProportion cX6_inProportion 4 none]
def wsX6_gutterLoss_r4 : List Cond := [Cond.methodLink RX6 144 yX6_gives, Cond.instanceMethod yX6_gives, Cond.selects RX6 yX6_gives yX6_gives, Cond.code yX6_gives cX6_gives 5 none, Cond.methodLink RX6 135 yX6_byOrder, Cond.instanceMethod yX6_byOrder, Cond.selects RX6 yX6_byOrder yX6_byOrder, Cond.code yX6_byOrder cX6_byOrder 2 none, Cond.methodLink RX6 138 yX6_byWeights, Cond.instanceMethod yX6_byWeights, Cond.selects RX6 yX6_byWeights yX6_byWeights, Cond.code yX6_byWeights cX6_byWeights 2 none, Cond.methodLink RX6 141 yX6_smallestFirst, Cond.instanceMethod yX6_smallestFirst, Cond.selects RX6 yX6_smallestFirst yX6_smallestFirst, Cond.code yX6_smallestFirst cX6_smallestFirst 6 none, Cond.methodLink RX6 164 yX6_takesBack, Cond.instanceMethod yX6_takesBack, Cond.selects RX6 yX6_takesBack yX6_takesBack, Cond.code yX6_takesBack cX6_takesBack 2 none]
def wsX6_gutterLoss : List Cond := .code yX6_gutterLoss cX6_gutterLoss 3 (some .long) :: ((wsX6_gutterLoss_r1 ++ (wsX6_gutterLoss_r2 ++ (wsX6_gutterLoss_r3 ++ wsX6_gutterLoss_r4))) ++ wsX60)
def wsX6_append : List Cond := .code yX6_append cX6_append 2 (some .int) :: ([.constantLong RX6 177 (127), .fieldLink RX6 179 "RainReservoirModel" "textLong" "I", .fieldLink RX6 23 "RainReservoirModel" "text" "[I", .methodLink RX6 40 yX6_in, .static yX6_in, .initialized RX6, .code yX6_in cX6_in 6 (some .boolean), .methodLink RX6 52 yX6_goes, .instanceMethod yX6_goes, .selects RX6 yX6_goes yX6_goes, .code yX6_goes cX6_goes 3 (some .boolean), .fieldLink RX6 26 "RainReservoirModel" "thrown" "I"] ++ wsX60)
def wsX6_clearText : List Cond := .code yX6_clearText cX6_clearText 2 (some .int) :: ([.fieldLink RX6 26 "RainReservoirModel" "thrown" "I", .fieldLink RX6 179 "RainReservoirModel" "textLong" "I"] ++ wsX60)
def wsX6_isFigure : List Cond := .code yX6_isFigure cX6_isFigure 1 (some .boolean) :: ([.fieldLink RX6 182 "RainReservoirModel" "place" "I", .fieldLink RX6 179 "RainReservoirModel" "textLong" "I", .fieldLink RX6 23 "RainReservoirModel" "text" "[I", .constantLong RX6 185 (48), .constantLong RX6 187 (57), .methodLink RX6 40 yX6_in, .static yX6_in, .initialized RX6, .code yX6_in cX6_in 6 (some .boolean)] ++ wsX60)
def wsX6_passesByte : List Cond := .code yX6_passesByte cX6_passesByte 3 (some .boolean) :: ([.fieldLink RX6 182 "RainReservoirModel" "place" "I", .fieldLink RX6 179 "RainReservoirModel" "textLong" "I", .fieldLink RX6 23 "RainReservoirModel" "text" "[I"] ++ wsX60)
def wsX6_reads : List Cond := .code yX6_reads cX6_reads 6 (some .boolean) :: ([.fieldLink RX6 182 "RainReservoirModel" "place" "I", .fieldLink RX6 189 "RainReservoirModel" "number" "I", .fieldLink RX6 23 "RainReservoirModel" "text" "[I", .methodLink RX6 192 yX6_isFigure, .instanceMethod yX6_isFigure, .selects RX6 yX6_isFigure yX6_isFigure, .initialized RX6, .code yX6_isFigure cX6_isFigure 1 (some .boolean), .fieldLink RX6 179 "RainReservoirModel" "textLong" "I", .constantLong RX6 185 (48), .constantLong RX6 187 (57), .methodLink RX6 40 yX6_in, .static yX6_in, .code yX6_in cX6_in 6 (some .boolean)] ++ wsX60)
def wsX6_readsItem_r1 : List Cond := [Cond.fieldLink RX6 189 "RainReservoirModel" "number" "I", Cond.fieldLink RX6 182 "RainReservoirModel" "place" "I", Cond.fieldLink RX6 179 "RainReservoirModel" "textLong" "I", Cond.fieldLink RX6 23 "RainReservoirModel" "text" "[I", Cond.fieldLink RX6 7 "RainReservoirModel" "all" "[I", Cond.methodLink RX6 195 yX6_reads, Cond.instanceMethod yX6_reads, Cond.selects RX6 yX6_reads yX6_reads, Cond.initialized RX6, Cond.code yX6_reads cX6_reads 6 (some .boolean), Cond.methodLink RX6 192 yX6_isFigure, Cond.instanceMethod yX6_isFigure, Cond.selects RX6 yX6_isFigure yX6_isFigure, Cond.code yX6_isFigure cX6_isFigure 1 (some .boolean), Cond.constantLong RX6 185 (48), Cond.constantLong RX6 187 (57), Cond.methodLink RX6 40 yX6_in, Cond.static yX6_in, Cond.code yX6_in cX6_in 6 (some .boolean), Cond.methodLink RX6 199 yX6_passesByte, Cond.instanceMethod yX6_passesByte, Cond.selects RX6 yX6_passesByte yX6_passesByte, Cond.code yX6_passesByte cX6_passesByte 3 (some .boolean), Cond.methodLink RX6 88 yX6_rains]
def wsX6_readsItem_r2 : List Cond := [Cond.instanceMethod yX6_rains, Cond.selects RX6 yX6_rains yX6_rains, Cond.code yX6_rains cX6_rains 4 none]
def wsX6_readsItem : List Cond := .code yX6_readsItem cX6_readsItem 4 (some .boolean) :: ((wsX6_readsItem_r1 ++ wsX6_readsItem_r2) ++ wsX60)
def wsX6_parse_r1 : List Cond := [Cond.fieldLink RX6 26 "RainReservoirModel" "thrown" "I", Cond.fieldLink RX6 182 "RainReservoirModel" "place" "I", Cond.fieldLink RX6 179 "RainReservoirModel" "textLong" "I", Cond.fieldLink RX6 7 "RainReservoirModel" "all" "[I", Cond.fieldLink RX6 16 "RainReservoirModel" "aside" "[I", Cond.methodLink RX6 167 yX6_lays, Cond.instanceMethod yX6_lays, Cond.selects RX6 yX6_lays yX6_lays, Cond.initialized RX6, Cond.code yX6_lays cX6_lays 2 none, Cond.methodLink RX6 202 yX6_readsItem, Cond.instanceMethod yX6_readsItem, Cond.selects RX6 yX6_readsItem yX6_readsItem, Cond.code yX6_readsItem cX6_readsItem 4 (some .boolean), Cond.fieldLink RX6 189 "RainReservoirModel" "number" "I", Cond.fieldLink RX6 23 "RainReservoirModel" "text" "[I", Cond.methodLink RX6 195 yX6_reads, Cond.instanceMethod yX6_reads, Cond.selects RX6 yX6_reads yX6_reads, Cond.code yX6_reads cX6_reads 6 (some .boolean), Cond.methodLink RX6 192 yX6_isFigure, Cond.instanceMethod yX6_isFigure, Cond.selects RX6 yX6_isFigure yX6_isFigure, Cond.code yX6_isFigure cX6_isFigure 1 (some .boolean)]
def wsX6_parse_r2 : List Cond := [Cond.constantLong RX6 185 (48), Cond.constantLong RX6 187 (57), Cond.methodLink RX6 40 yX6_in, Cond.static yX6_in, Cond.code yX6_in cX6_in 6 (some .boolean), Cond.methodLink RX6 199 yX6_passesByte, Cond.instanceMethod yX6_passesByte, Cond.selects RX6 yX6_passesByte yX6_passesByte, Cond.code yX6_passesByte cX6_passesByte 3 (some .boolean), Cond.methodLink RX6 88 yX6_rains, Cond.instanceMethod yX6_rains, Cond.selects RX6 yX6_rains yX6_rains, Cond.code yX6_rains cX6_rains 4 none, Cond.methodLink RX6 164 yX6_takesBack, Cond.instanceMethod yX6_takesBack, Cond.selects RX6 yX6_takesBack yX6_takesBack, Cond.code yX6_takesBack cX6_takesBack 2 none, Cond.methodLink RX6 56 yX6_save, Cond.instanceMethod yX6_save, Cond.selects RX6 yX6_save yX6_save, Cond.code yX6_save cX6_save 2 none, Cond.fieldLink RX6 30 "RainReservoirModel" "savedMany" "I", Cond.fieldLink RX6 13 "RainReservoirModel" "saved" "[I"]
def wsX6_parse : List Cond := .code yX6_parse cX6_parse 3 (some .int) :: ((wsX6_parse_r1 ++ wsX6_parse_r2) ++ wsX60)
def wsX6_undo : List Cond := .code yX6_undo cX6_undo 2 (some .int) :: ([.fieldLink RX6 30 "RainReservoirModel" "savedMany" "I", .fieldLink RX6 7 "RainReservoirModel" "all" "[I", .fieldLink RX6 13 "RainReservoirModel" "saved" "[I", .methodLink RX6 52 yX6_goes, .instanceMethod yX6_goes, .selects RX6 yX6_goes yX6_goes, .initialized RX6, .code yX6_goes cX6_goes 3 (some .boolean), .fieldLink RX6 26 "RainReservoirModel" "thrown" "I"] ++ wsX60)
def wsX6_sums : List Cond := .code yX6_sums cX6_sums 4 (some .long) :: ([.constantLong RX6 205 (31)])
def wsX6_withPlaces : List Cond := .code yX6_withPlaces cX6_withPlaces 8 (some .long) :: ([.fieldLink RX6 7 "RainReservoirModel" "all" "[I", .methodLink RX6 207 yX6_sums, .static yX6_sums, .initialized RX6, .code yX6_sums cX6_sums 4 (some .long), .constantLong RX6 205 (31)] ++ wsX60)
def wsX6_digest : List Cond := .code yX6_digest cX6_digest 4 (some .long) :: ([.fieldLink RX6 26 "RainReservoirModel" "thrown" "I", .constantLong RX6 211 (3203), .fieldLink RX6 179 "RainReservoirModel" "textLong" "I", .fieldLink RX6 7 "RainReservoirModel" "all" "[I", .fieldLink RX6 30 "RainReservoirModel" "savedMany" "I", .methodLink RX6 207 yX6_sums, .static yX6_sums, .initialized RX6, .code yX6_sums cX6_sums 4 (some .long), .constantLong RX6 205 (31), .methodLink RX6 213 yX6_withPlaces, .instanceMethod yX6_withPlaces, .selects RX6 yX6_withPlaces yX6_withPlaces, .code yX6_withPlaces cX6_withPlaces 8 (some .long), .methodLink RX6 154 yX6_sumOf, .instanceMethod yX6_sumOf, .selects RX6 yX6_sumOf yX6_sumOf, .code yX6_sumOf cX6_sumOf 5 (some .long)] ++ wsX60)
def wsJ9_max_7cf53 : List Cond := .code yJ9_max_7cf53 cJ9_max_7cf53 2 (some .int) :: ([])
def wsJ9_min_7cf53 : List Cond := .code yJ9_min_7cf53 cJ9_min_7cf53 2 (some .int) :: ([])
def wsL_addRoof_r1 : List Cond := [Cond.classLink RL 13 "java/lang/IllegalArgumentException", Cond.classLink RL 15 "java/lang/IllegalStateException", Cond.methodLink RL 7 yX5_addRoof, Cond.instanceMethod yX5_addRoof, Cond.selects RX5 yX5_addRoof yX5_addRoof, Cond.initialized RX5, Cond.code yX5_addRoof cX5_addRoof 5 (some .int), Cond.classLink RX5 39 "java/lang/IllegalStateException", Cond.initialized "java/lang/IllegalStateException", Cond.constant RX5 34 (50000), Cond.fieldLink RX5 10 "RainReservoir" "now" "LRainReservoir$State;", Cond.fieldLink RX5 35 "RainReservoir$State" "roofCount" "I", Cond.fieldLink RX5 49 "RainReservoir$State" "roofs" "[LRainReservoir$Roof;", Cond.methodLink RX5 30 yX5_checkRange, Cond.static yX5_checkRange, Cond.code yX5_checkRange cX5_checkRange 3 none, Cond.classLink RX5 224 "java/lang/IllegalArgumentException", Cond.initialized "java/lang/IllegalArgumentException", Cond.methodLink RX5 46 yX5_save, Cond.instanceMethod yX5_save, Cond.selects RX5 yX5_save yX5_save, Cond.code yX5_save cX5_save 3 none, Cond.fieldLink RX5 207 "RainReservoir" "savedCount" "I", Cond.fieldLink RX5 19 "RainReservoir" "saved" "[LRainReservoir$State;"]
def wsL_addRoof_r2 : List Cond := [Cond.methodLink RX5 212 yX2_copyFrom, Cond.instanceMethod yX2_copyFrom, Cond.selects RX2 yX2_copyFrom yX2_copyFrom, Cond.initialized RX2, Cond.code yX2_copyFrom cX2_copyFrom 3 none, Cond.fieldLink RX2 9 "RainReservoir$State" "capacity" "I", Cond.fieldLink RX2 39 "RainReservoir$State" "floor" "I", Cond.fieldLink RX2 42 "RainReservoir$State" "topUp" "I", Cond.fieldLink RX2 45 "RainReservoir$State" "evaporation" "I", Cond.fieldLink RX2 15 "RainReservoir$State" "dryLimit" "I", Cond.fieldLink RX2 48 "RainReservoir$State" "rule" "I", Cond.fieldLink RX2 51 "RainReservoir$State" "roofCount" "I", Cond.fieldLink RX2 20 "RainReservoir$State" "roofs" "[LRainReservoir$Roof;", Cond.fieldLink RX2 28 "RainReservoir$State" "users" "LRainReservoir$Users;", Cond.fieldLink RX2 61 "RainReservoir$State" "rainCount" "I", Cond.fieldLink RX2 32 "RainReservoir$State" "rains" "[I", Cond.methodLink RX2 64 arraycopyName, Cond.native arraycopyName, Cond.static arraycopyName, Cond.initialized "java/lang/System", Cond.fieldLink RX2 70 "RainReservoir$State" "doneCount" "I", Cond.fieldLink RX2 36 "RainReservoir$State" "accounts" "[I", Cond.fieldLink RX2 73 "RainReservoir$State" "level" "I", Cond.fieldLink RX2 76 "RainReservoir$State" "dryDays" "I"]
def wsL_addRoof_r3 : List Cond := [Cond.fieldLink RX2 79 "RainReservoir$State" "looseOverflow" "J", Cond.methodLink RX2 54 yX1_copyFrom, Cond.instanceMethod yX1_copyFrom, Cond.selects RX1 yX1_copyFrom yX1_copyFrom, Cond.initialized RX1, Cond.code yX1_copyFrom cX1_copyFrom 2 none, Cond.fieldLink RX1 7 "RainReservoir$Roof" "area" "I", Cond.fieldLink RX1 13 "RainReservoir$Roof" "yieldPercent" "I", Cond.fieldLink RX1 16 "RainReservoir$Roof" "flush" "I", Cond.fieldLink RX1 19 "RainReservoir$Roof" "gutter" "I", Cond.fieldLink RX1 29 "RainReservoir$Roof" "water" "I", Cond.fieldLink RX1 32 "RainReservoir$Roof" "spilledInAll" "I", Cond.methodLink RX1 25 yX1_set, Cond.instanceMethod yX1_set, Cond.selects RX1 yX1_set yX1_set, Cond.code yX1_set cX1_set 5 none, Cond.methodLink RX1 22 yX1_clearAmounts, Cond.instanceMethod yX1_clearAmounts, Cond.selects RX1 yX1_clearAmounts yX1_clearAmounts, Cond.code yX1_clearAmounts cX1_clearAmounts 1 none, Cond.methodLink RX2 58 yX4_copyFrom, Cond.instanceMethod yX4_copyFrom, Cond.selects RX4 yX4_copyFrom yX4_copyFrom, Cond.initialized RX4]
def wsL_addRoof_r4 : List Cond := [Cond.code yX4_copyFrom cX4_copyFrom 3 none, Cond.fieldLink RX4 22 "RainReservoir$Users" "count" "I", Cond.fieldLink RX4 11 "RainReservoir$Users" "rows" "[LRainReservoir$User;", Cond.methodLink RX4 26 yX3_copyFrom, Cond.instanceMethod yX3_copyFrom, Cond.selects RX3 yX3_copyFrom yX3_copyFrom, Cond.initialized RX3, Cond.code yX3_copyFrom cX3_copyFrom 2 none, Cond.fieldLink RX3 9 "RainReservoir$User" "demand" "I", Cond.fieldLink RX3 15 "RainReservoir$User" "weight" "I", Cond.fieldLink RX3 25 "RainReservoir$User" "gotLatest" "I", Cond.fieldLink RX3 28 "RainReservoir$User" "gotInAll" "I", Cond.methodLink RX3 21 yX3_set, Cond.instanceMethod yX3_set, Cond.selects RX3 yX3_set yX3_set, Cond.code yX3_set cX3_set 3 none, Cond.methodLink RX3 18 yX3_clearAmounts, Cond.instanceMethod yX3_clearAmounts, Cond.selects RX3 yX3_clearAmounts yX3_clearAmounts, Cond.code yX3_clearAmounts cX3_clearAmounts 1 none, Cond.methodLink RX5 53 yX1_set]
def wsL_addRoof : List Cond := .codeWith yL_addRoof cL_addRoof 7 (some .int) [(0, 14, 17, 13), (0, 14, 21, 15)] :: ((wsL_addRoof_r1 ++ (wsL_addRoof_r2 ++ (wsL_addRoof_r3 ++ wsL_addRoof_r4))) ++ wsX50 ++ wsX20 ++ wsX10 ++ wsX40 ++ wsX30 ++ (vx_atS RX5 43 "java/lang/IllegalStateException" ["java/lang/RuntimeException", "java/lang/Exception"]).filter goodWord ++ (vx_atS RX5 228 "java/lang/IllegalArgumentException" ["java/lang/RuntimeException", "java/lang/Exception"]).filter goodWord)
def wsL_addUser_r1 : List Cond := [Cond.classLink RL 13 "java/lang/IllegalArgumentException", Cond.classLink RL 15 "java/lang/IllegalStateException", Cond.methodLink RL 17 yX5_addUser, Cond.instanceMethod yX5_addUser, Cond.selects RX5 yX5_addUser yX5_addUser, Cond.initialized RX5, Cond.code yX5_addUser cX5_addUser 3 (some .int), Cond.classLink RX5 39 "java/lang/IllegalStateException", Cond.initialized "java/lang/IllegalStateException", Cond.fieldLink RX5 10 "RainReservoir" "now" "LRainReservoir$State;", Cond.fieldLink RX5 59 "RainReservoir$State" "users" "LRainReservoir$Users;", Cond.fieldLink RX5 63 "RainReservoir$Users" "count" "I", Cond.fieldLink RX5 70 "RainReservoir$Users" "rows" "[LRainReservoir$User;", Cond.methodLink RX5 30 yX5_checkRange, Cond.static yX5_checkRange, Cond.code yX5_checkRange cX5_checkRange 3 none, Cond.classLink RX5 224 "java/lang/IllegalArgumentException", Cond.initialized "java/lang/IllegalArgumentException", Cond.methodLink RX5 46 yX5_save, Cond.instanceMethod yX5_save, Cond.selects RX5 yX5_save yX5_save, Cond.code yX5_save cX5_save 3 none, Cond.fieldLink RX5 207 "RainReservoir" "savedCount" "I", Cond.fieldLink RX5 19 "RainReservoir" "saved" "[LRainReservoir$State;"]
def wsL_addUser_r2 : List Cond := [Cond.methodLink RX5 212 yX2_copyFrom, Cond.instanceMethod yX2_copyFrom, Cond.selects RX2 yX2_copyFrom yX2_copyFrom, Cond.initialized RX2, Cond.code yX2_copyFrom cX2_copyFrom 3 none, Cond.fieldLink RX2 9 "RainReservoir$State" "capacity" "I", Cond.fieldLink RX2 39 "RainReservoir$State" "floor" "I", Cond.fieldLink RX2 42 "RainReservoir$State" "topUp" "I", Cond.fieldLink RX2 45 "RainReservoir$State" "evaporation" "I", Cond.fieldLink RX2 15 "RainReservoir$State" "dryLimit" "I", Cond.fieldLink RX2 48 "RainReservoir$State" "rule" "I", Cond.fieldLink RX2 51 "RainReservoir$State" "roofCount" "I", Cond.fieldLink RX2 20 "RainReservoir$State" "roofs" "[LRainReservoir$Roof;", Cond.fieldLink RX2 28 "RainReservoir$State" "users" "LRainReservoir$Users;", Cond.fieldLink RX2 61 "RainReservoir$State" "rainCount" "I", Cond.fieldLink RX2 32 "RainReservoir$State" "rains" "[I", Cond.methodLink RX2 64 arraycopyName, Cond.native arraycopyName, Cond.static arraycopyName, Cond.initialized "java/lang/System", Cond.fieldLink RX2 70 "RainReservoir$State" "doneCount" "I", Cond.fieldLink RX2 36 "RainReservoir$State" "accounts" "[I", Cond.fieldLink RX2 73 "RainReservoir$State" "level" "I", Cond.fieldLink RX2 76 "RainReservoir$State" "dryDays" "I"]
def wsL_addUser_r3 : List Cond := [Cond.fieldLink RX2 79 "RainReservoir$State" "looseOverflow" "J", Cond.methodLink RX2 54 yX1_copyFrom, Cond.instanceMethod yX1_copyFrom, Cond.selects RX1 yX1_copyFrom yX1_copyFrom, Cond.initialized RX1, Cond.code yX1_copyFrom cX1_copyFrom 2 none, Cond.fieldLink RX1 7 "RainReservoir$Roof" "area" "I", Cond.fieldLink RX1 13 "RainReservoir$Roof" "yieldPercent" "I", Cond.fieldLink RX1 16 "RainReservoir$Roof" "flush" "I", Cond.fieldLink RX1 19 "RainReservoir$Roof" "gutter" "I", Cond.fieldLink RX1 29 "RainReservoir$Roof" "water" "I", Cond.fieldLink RX1 32 "RainReservoir$Roof" "spilledInAll" "I", Cond.methodLink RX1 25 yX1_set, Cond.instanceMethod yX1_set, Cond.selects RX1 yX1_set yX1_set, Cond.code yX1_set cX1_set 5 none, Cond.methodLink RX1 22 yX1_clearAmounts, Cond.instanceMethod yX1_clearAmounts, Cond.selects RX1 yX1_clearAmounts yX1_clearAmounts, Cond.code yX1_clearAmounts cX1_clearAmounts 1 none, Cond.methodLink RX2 58 yX4_copyFrom, Cond.instanceMethod yX4_copyFrom, Cond.selects RX4 yX4_copyFrom yX4_copyFrom, Cond.initialized RX4]
def wsL_addUser_r4 : List Cond := [Cond.code yX4_copyFrom cX4_copyFrom 3 none, Cond.fieldLink RX4 22 "RainReservoir$Users" "count" "I", Cond.fieldLink RX4 11 "RainReservoir$Users" "rows" "[LRainReservoir$User;", Cond.methodLink RX4 26 yX3_copyFrom, Cond.instanceMethod yX3_copyFrom, Cond.selects RX3 yX3_copyFrom yX3_copyFrom, Cond.initialized RX3, Cond.code yX3_copyFrom cX3_copyFrom 2 none, Cond.fieldLink RX3 9 "RainReservoir$User" "demand" "I", Cond.fieldLink RX3 15 "RainReservoir$User" "weight" "I", Cond.fieldLink RX3 25 "RainReservoir$User" "gotLatest" "I", Cond.fieldLink RX3 28 "RainReservoir$User" "gotInAll" "I", Cond.methodLink RX3 21 yX3_set, Cond.instanceMethod yX3_set, Cond.selects RX3 yX3_set yX3_set, Cond.code yX3_set cX3_set 3 none, Cond.methodLink RX3 18 yX3_clearAmounts, Cond.instanceMethod yX3_clearAmounts, Cond.selects RX3 yX3_clearAmounts yX3_clearAmounts, Cond.code yX3_clearAmounts cX3_clearAmounts 1 none, Cond.methodLink RX5 74 yX3_set]
def wsL_addUser : List Cond := .codeWith yL_addUser cL_addUser 5 (some .int) [(0, 10, 13, 13), (0, 10, 17, 15)] :: ((wsL_addUser_r1 ++ (wsL_addUser_r2 ++ (wsL_addUser_r3 ++ wsL_addUser_r4))) ++ wsX50 ++ wsX20 ++ wsX40 ++ wsX10 ++ wsX30 ++ (vx_atS RX5 43 "java/lang/IllegalStateException" ["java/lang/RuntimeException", "java/lang/Exception"]).filter goodWord ++ (vx_atS RX5 228 "java/lang/IllegalArgumentException" ["java/lang/RuntimeException", "java/lang/Exception"]).filter goodWord)
def wsL_setDemand_r1 : List Cond := [Cond.classLink RL 24 "java/lang/IndexOutOfBoundsException", Cond.classLink RL 13 "java/lang/IllegalArgumentException", Cond.methodLink RL 21 yX5_setDemand, Cond.instanceMethod yX5_setDemand, Cond.selects RX5 yX5_setDemand yX5_setDemand, Cond.initialized RX5, Cond.code yX5_setDemand cX5_setDemand 5 (some .int), Cond.fieldLink RX5 10 "RainReservoir" "now" "LRainReservoir$State;", Cond.fieldLink RX5 59 "RainReservoir$State" "users" "LRainReservoir$Users;", Cond.fieldLink RX5 63 "RainReservoir$Users" "count" "I", Cond.fieldLink RX5 70 "RainReservoir$Users" "rows" "[LRainReservoir$User;", Cond.fieldLink RX5 82 "RainReservoir$User" "demand" "I", Cond.methodLink RX5 79 yX5_checkIndex, Cond.static yX5_checkIndex, Cond.code yX5_checkIndex cX5_checkIndex 2 none, Cond.classLink RX5 229 "java/lang/IndexOutOfBoundsException", Cond.initialized "java/lang/IndexOutOfBoundsException", Cond.methodLink RX5 30 yX5_checkRange, Cond.static yX5_checkRange, Cond.code yX5_checkRange cX5_checkRange 3 none, Cond.classLink RX5 224 "java/lang/IllegalArgumentException", Cond.initialized "java/lang/IllegalArgumentException", Cond.methodLink RX5 46 yX5_save, Cond.instanceMethod yX5_save]
def wsL_setDemand_r2 : List Cond := [Cond.selects RX5 yX5_save yX5_save, Cond.code yX5_save cX5_save 3 none, Cond.fieldLink RX5 207 "RainReservoir" "savedCount" "I", Cond.fieldLink RX5 19 "RainReservoir" "saved" "[LRainReservoir$State;", Cond.methodLink RX5 212 yX2_copyFrom, Cond.instanceMethod yX2_copyFrom, Cond.selects RX2 yX2_copyFrom yX2_copyFrom, Cond.initialized RX2, Cond.code yX2_copyFrom cX2_copyFrom 3 none, Cond.fieldLink RX2 9 "RainReservoir$State" "capacity" "I", Cond.fieldLink RX2 39 "RainReservoir$State" "floor" "I", Cond.fieldLink RX2 42 "RainReservoir$State" "topUp" "I", Cond.fieldLink RX2 45 "RainReservoir$State" "evaporation" "I", Cond.fieldLink RX2 15 "RainReservoir$State" "dryLimit" "I", Cond.fieldLink RX2 48 "RainReservoir$State" "rule" "I", Cond.fieldLink RX2 51 "RainReservoir$State" "roofCount" "I", Cond.fieldLink RX2 20 "RainReservoir$State" "roofs" "[LRainReservoir$Roof;", Cond.fieldLink RX2 28 "RainReservoir$State" "users" "LRainReservoir$Users;", Cond.fieldLink RX2 61 "RainReservoir$State" "rainCount" "I", Cond.fieldLink RX2 32 "RainReservoir$State" "rains" "[I", Cond.methodLink RX2 64 arraycopyName, Cond.native arraycopyName, Cond.static arraycopyName, Cond.initialized "java/lang/System"]
def wsL_setDemand_r3 : List Cond := [Cond.fieldLink RX2 70 "RainReservoir$State" "doneCount" "I", Cond.fieldLink RX2 36 "RainReservoir$State" "accounts" "[I", Cond.fieldLink RX2 73 "RainReservoir$State" "level" "I", Cond.fieldLink RX2 76 "RainReservoir$State" "dryDays" "I", Cond.fieldLink RX2 79 "RainReservoir$State" "looseOverflow" "J", Cond.methodLink RX2 54 yX1_copyFrom, Cond.instanceMethod yX1_copyFrom, Cond.selects RX1 yX1_copyFrom yX1_copyFrom, Cond.initialized RX1, Cond.code yX1_copyFrom cX1_copyFrom 2 none, Cond.fieldLink RX1 7 "RainReservoir$Roof" "area" "I", Cond.fieldLink RX1 13 "RainReservoir$Roof" "yieldPercent" "I", Cond.fieldLink RX1 16 "RainReservoir$Roof" "flush" "I", Cond.fieldLink RX1 19 "RainReservoir$Roof" "gutter" "I", Cond.fieldLink RX1 29 "RainReservoir$Roof" "water" "I", Cond.fieldLink RX1 32 "RainReservoir$Roof" "spilledInAll" "I", Cond.methodLink RX1 25 yX1_set, Cond.instanceMethod yX1_set, Cond.selects RX1 yX1_set yX1_set, Cond.code yX1_set cX1_set 5 none, Cond.methodLink RX1 22 yX1_clearAmounts, Cond.instanceMethod yX1_clearAmounts, Cond.selects RX1 yX1_clearAmounts yX1_clearAmounts, Cond.code yX1_clearAmounts cX1_clearAmounts 1 none]
def wsL_setDemand_r4 : List Cond := [Cond.methodLink RX2 58 yX4_copyFrom, Cond.instanceMethod yX4_copyFrom, Cond.selects RX4 yX4_copyFrom yX4_copyFrom, Cond.initialized RX4, Cond.code yX4_copyFrom cX4_copyFrom 3 none, Cond.fieldLink RX4 22 "RainReservoir$Users" "count" "I", Cond.fieldLink RX4 11 "RainReservoir$Users" "rows" "[LRainReservoir$User;", Cond.methodLink RX4 26 yX3_copyFrom, Cond.instanceMethod yX3_copyFrom, Cond.selects RX3 yX3_copyFrom yX3_copyFrom, Cond.initialized RX3, Cond.code yX3_copyFrom cX3_copyFrom 2 none, Cond.fieldLink RX3 9 "RainReservoir$User" "demand" "I", Cond.fieldLink RX3 15 "RainReservoir$User" "weight" "I", Cond.fieldLink RX3 25 "RainReservoir$User" "gotLatest" "I", Cond.fieldLink RX3 28 "RainReservoir$User" "gotInAll" "I", Cond.methodLink RX3 21 yX3_set, Cond.instanceMethod yX3_set, Cond.selects RX3 yX3_set yX3_set, Cond.code yX3_set cX3_set 3 none, Cond.methodLink RX3 18 yX3_clearAmounts, Cond.instanceMethod yX3_clearAmounts, Cond.selects RX3 yX3_clearAmounts yX3_clearAmounts, Cond.code yX3_clearAmounts cX3_clearAmounts 1 none]
def wsL_setDemand : List Cond := .codeWith yL_setDemand cL_setDemand 5 (some .int) [(0, 10, 13, 24), (0, 10, 17, 13)] :: ((wsL_setDemand_r1 ++ (wsL_setDemand_r2 ++ (wsL_setDemand_r3 ++ wsL_setDemand_r4))) ++ wsX50 ++ wsX20 ++ wsX40 ++ wsX30 ++ wsX10 ++ (vx_atS RX5 233 "java/lang/IndexOutOfBoundsException" ["java/lang/RuntimeException", "java/lang/Exception"]).filter goodWord ++ (vx_atS RX5 228 "java/lang/IllegalArgumentException" ["java/lang/RuntimeException", "java/lang/Exception"]).filter goodWord)
def wsL_setReservoir_r1 : List Cond := [Cond.classLink RL 13 "java/lang/IllegalArgumentException", Cond.methodLink RL 26 yX5_setReservoir, Cond.instanceMethod yX5_setReservoir, Cond.selects RX5 yX5_setReservoir yX5_setReservoir, Cond.initialized RX5, Cond.code yX5_setReservoir cX5_setReservoir 5 (some .int), Cond.constant RX5 85 (60000), Cond.fieldLink RX5 10 "RainReservoir" "now" "LRainReservoir$State;", Cond.fieldLink RX5 86 "RainReservoir$State" "capacity" "I", Cond.fieldLink RX5 89 "RainReservoir$State" "floor" "I", Cond.fieldLink RX5 92 "RainReservoir$State" "topUp" "I", Cond.fieldLink RX5 95 "RainReservoir$State" "looseOverflow" "J", Cond.methodLink RX5 30 yX5_checkRange, Cond.static yX5_checkRange, Cond.code yX5_checkRange cX5_checkRange 3 none, Cond.classLink RX5 224 "java/lang/IllegalArgumentException", Cond.initialized "java/lang/IllegalArgumentException", Cond.methodLink RX5 46 yX5_save, Cond.instanceMethod yX5_save, Cond.selects RX5 yX5_save yX5_save, Cond.code yX5_save cX5_save 3 none, Cond.fieldLink RX5 207 "RainReservoir" "savedCount" "I", Cond.fieldLink RX5 19 "RainReservoir" "saved" "[LRainReservoir$State;", Cond.methodLink RX5 212 yX2_copyFrom]
def wsL_setReservoir_r2 : List Cond := [Cond.instanceMethod yX2_copyFrom, Cond.selects RX2 yX2_copyFrom yX2_copyFrom, Cond.initialized RX2, Cond.code yX2_copyFrom cX2_copyFrom 3 none, Cond.fieldLink RX2 9 "RainReservoir$State" "capacity" "I", Cond.fieldLink RX2 39 "RainReservoir$State" "floor" "I", Cond.fieldLink RX2 42 "RainReservoir$State" "topUp" "I", Cond.fieldLink RX2 45 "RainReservoir$State" "evaporation" "I", Cond.fieldLink RX2 15 "RainReservoir$State" "dryLimit" "I", Cond.fieldLink RX2 48 "RainReservoir$State" "rule" "I", Cond.fieldLink RX2 51 "RainReservoir$State" "roofCount" "I", Cond.fieldLink RX2 20 "RainReservoir$State" "roofs" "[LRainReservoir$Roof;", Cond.fieldLink RX2 28 "RainReservoir$State" "users" "LRainReservoir$Users;", Cond.fieldLink RX2 61 "RainReservoir$State" "rainCount" "I", Cond.fieldLink RX2 32 "RainReservoir$State" "rains" "[I", Cond.methodLink RX2 64 arraycopyName, Cond.native arraycopyName, Cond.static arraycopyName, Cond.initialized "java/lang/System", Cond.fieldLink RX2 70 "RainReservoir$State" "doneCount" "I", Cond.fieldLink RX2 36 "RainReservoir$State" "accounts" "[I", Cond.fieldLink RX2 73 "RainReservoir$State" "level" "I", Cond.fieldLink RX2 76 "RainReservoir$State" "dryDays" "I", Cond.fieldLink RX2 79 "RainReservoir$State" "looseOverflow" "J"]
def wsL_setReservoir_r3 : List Cond := [Cond.methodLink RX2 54 yX1_copyFrom, Cond.instanceMethod yX1_copyFrom, Cond.selects RX1 yX1_copyFrom yX1_copyFrom, Cond.initialized RX1, Cond.code yX1_copyFrom cX1_copyFrom 2 none, Cond.fieldLink RX1 7 "RainReservoir$Roof" "area" "I", Cond.fieldLink RX1 13 "RainReservoir$Roof" "yieldPercent" "I", Cond.fieldLink RX1 16 "RainReservoir$Roof" "flush" "I", Cond.fieldLink RX1 19 "RainReservoir$Roof" "gutter" "I", Cond.fieldLink RX1 29 "RainReservoir$Roof" "water" "I", Cond.fieldLink RX1 32 "RainReservoir$Roof" "spilledInAll" "I", Cond.methodLink RX1 25 yX1_set, Cond.instanceMethod yX1_set, Cond.selects RX1 yX1_set yX1_set, Cond.code yX1_set cX1_set 5 none, Cond.methodLink RX1 22 yX1_clearAmounts, Cond.instanceMethod yX1_clearAmounts, Cond.selects RX1 yX1_clearAmounts yX1_clearAmounts, Cond.code yX1_clearAmounts cX1_clearAmounts 1 none, Cond.methodLink RX2 58 yX4_copyFrom, Cond.instanceMethod yX4_copyFrom, Cond.selects RX4 yX4_copyFrom yX4_copyFrom, Cond.initialized RX4, Cond.code yX4_copyFrom cX4_copyFrom 3 none]
def wsL_setReservoir_r4 : List Cond := [Cond.fieldLink RX4 22 "RainReservoir$Users" "count" "I", Cond.fieldLink RX4 11 "RainReservoir$Users" "rows" "[LRainReservoir$User;", Cond.methodLink RX4 26 yX3_copyFrom, Cond.instanceMethod yX3_copyFrom, Cond.selects RX3 yX3_copyFrom yX3_copyFrom, Cond.initialized RX3, Cond.code yX3_copyFrom cX3_copyFrom 2 none, Cond.fieldLink RX3 9 "RainReservoir$User" "demand" "I", Cond.fieldLink RX3 15 "RainReservoir$User" "weight" "I", Cond.fieldLink RX3 25 "RainReservoir$User" "gotLatest" "I", Cond.fieldLink RX3 28 "RainReservoir$User" "gotInAll" "I", Cond.methodLink RX3 21 yX3_set, Cond.instanceMethod yX3_set, Cond.selects RX3 yX3_set yX3_set, Cond.code yX3_set cX3_set 3 none, Cond.methodLink RX3 18 yX3_clearAmounts, Cond.instanceMethod yX3_clearAmounts, Cond.selects RX3 yX3_clearAmounts yX3_clearAmounts, Cond.code yX3_clearAmounts cX3_clearAmounts 1 none, Cond.methodLink RX5 99 yX2_dropAboveCapacity, Cond.instanceMethod yX2_dropAboveCapacity, Cond.selects RX2 yX2_dropAboveCapacity yX2_dropAboveCapacity, Cond.code yX2_dropAboveCapacity cX2_dropAboveCapacity 2 (some .int), Cond.methodLink RX2 94 Lib.Math.max.name]
def wsL_setReservoir_r5 : List Cond := [Cond.static Lib.Math.max.name, Cond.initialized "java/lang/Math", Cond.code Lib.Math.max.name Lib.Math.max.code 2 (some .int)]
def wsL_setReservoir : List Cond := .codeWith yL_setReservoir cL_setReservoir 6 (some .int) [(0, 12, 15, 13)] :: ((wsL_setReservoir_r1 ++ (wsL_setReservoir_r2 ++ (wsL_setReservoir_r3 ++ (wsL_setReservoir_r4 ++ wsL_setReservoir_r5)))) ++ wsX50 ++ wsX20 ++ wsX10 ++ wsX40 ++ wsX30 ++ (vx_atS RX5 228 "java/lang/IllegalArgumentException" ["java/lang/RuntimeException", "java/lang/Exception"]).filter goodWord)
def wsL_setWays_r1 : List Cond := [Cond.classLink RL 13 "java/lang/IllegalArgumentException", Cond.methodLink RL 30 yX5_setWays, Cond.instanceMethod yX5_setWays, Cond.selects RX5 yX5_setWays yX5_setWays, Cond.initialized RX5, Cond.code yX5_setWays cX5_setWays 5 (some .int), Cond.fieldLink RX5 10 "RainReservoir" "now" "LRainReservoir$State;", Cond.fieldLink RX5 103 "RainReservoir$State" "rule" "I", Cond.fieldLink RX5 106 "RainReservoir$State" "evaporation" "I", Cond.fieldLink RX5 109 "RainReservoir$State" "dryLimit" "I", Cond.methodLink RX5 30 yX5_checkRange, Cond.static yX5_checkRange, Cond.code yX5_checkRange cX5_checkRange 3 none, Cond.classLink RX5 224 "java/lang/IllegalArgumentException", Cond.initialized "java/lang/IllegalArgumentException", Cond.methodLink RX5 46 yX5_save, Cond.instanceMethod yX5_save, Cond.selects RX5 yX5_save yX5_save, Cond.code yX5_save cX5_save 3 none, Cond.fieldLink RX5 207 "RainReservoir" "savedCount" "I", Cond.fieldLink RX5 19 "RainReservoir" "saved" "[LRainReservoir$State;", Cond.methodLink RX5 212 yX2_copyFrom, Cond.instanceMethod yX2_copyFrom, Cond.selects RX2 yX2_copyFrom yX2_copyFrom]
def wsL_setWays_r2 : List Cond := [Cond.initialized RX2, Cond.code yX2_copyFrom cX2_copyFrom 3 none, Cond.fieldLink RX2 9 "RainReservoir$State" "capacity" "I", Cond.fieldLink RX2 39 "RainReservoir$State" "floor" "I", Cond.fieldLink RX2 42 "RainReservoir$State" "topUp" "I", Cond.fieldLink RX2 45 "RainReservoir$State" "evaporation" "I", Cond.fieldLink RX2 15 "RainReservoir$State" "dryLimit" "I", Cond.fieldLink RX2 48 "RainReservoir$State" "rule" "I", Cond.fieldLink RX2 51 "RainReservoir$State" "roofCount" "I", Cond.fieldLink RX2 20 "RainReservoir$State" "roofs" "[LRainReservoir$Roof;", Cond.fieldLink RX2 28 "RainReservoir$State" "users" "LRainReservoir$Users;", Cond.fieldLink RX2 61 "RainReservoir$State" "rainCount" "I", Cond.fieldLink RX2 32 "RainReservoir$State" "rains" "[I", Cond.methodLink RX2 64 arraycopyName, Cond.native arraycopyName, Cond.static arraycopyName, Cond.initialized "java/lang/System", Cond.fieldLink RX2 70 "RainReservoir$State" "doneCount" "I", Cond.fieldLink RX2 36 "RainReservoir$State" "accounts" "[I", Cond.fieldLink RX2 73 "RainReservoir$State" "level" "I", Cond.fieldLink RX2 76 "RainReservoir$State" "dryDays" "I", Cond.fieldLink RX2 79 "RainReservoir$State" "looseOverflow" "J", Cond.methodLink RX2 54 yX1_copyFrom, Cond.instanceMethod yX1_copyFrom]
def wsL_setWays_r3 : List Cond := [Cond.selects RX1 yX1_copyFrom yX1_copyFrom, Cond.initialized RX1, Cond.code yX1_copyFrom cX1_copyFrom 2 none, Cond.fieldLink RX1 7 "RainReservoir$Roof" "area" "I", Cond.fieldLink RX1 13 "RainReservoir$Roof" "yieldPercent" "I", Cond.fieldLink RX1 16 "RainReservoir$Roof" "flush" "I", Cond.fieldLink RX1 19 "RainReservoir$Roof" "gutter" "I", Cond.fieldLink RX1 29 "RainReservoir$Roof" "water" "I", Cond.fieldLink RX1 32 "RainReservoir$Roof" "spilledInAll" "I", Cond.methodLink RX1 25 yX1_set, Cond.instanceMethod yX1_set, Cond.selects RX1 yX1_set yX1_set, Cond.code yX1_set cX1_set 5 none, Cond.methodLink RX1 22 yX1_clearAmounts, Cond.instanceMethod yX1_clearAmounts, Cond.selects RX1 yX1_clearAmounts yX1_clearAmounts, Cond.code yX1_clearAmounts cX1_clearAmounts 1 none, Cond.methodLink RX2 58 yX4_copyFrom, Cond.instanceMethod yX4_copyFrom, Cond.selects RX4 yX4_copyFrom yX4_copyFrom, Cond.initialized RX4, Cond.code yX4_copyFrom cX4_copyFrom 3 none, Cond.fieldLink RX4 22 "RainReservoir$Users" "count" "I", Cond.fieldLink RX4 11 "RainReservoir$Users" "rows" "[LRainReservoir$User;"]
def wsL_setWays_r4 : List Cond := [Cond.methodLink RX4 26 yX3_copyFrom, Cond.instanceMethod yX3_copyFrom, Cond.selects RX3 yX3_copyFrom yX3_copyFrom, Cond.initialized RX3, Cond.code yX3_copyFrom cX3_copyFrom 2 none, Cond.fieldLink RX3 9 "RainReservoir$User" "demand" "I", Cond.fieldLink RX3 15 "RainReservoir$User" "weight" "I", Cond.fieldLink RX3 25 "RainReservoir$User" "gotLatest" "I", Cond.fieldLink RX3 28 "RainReservoir$User" "gotInAll" "I", Cond.methodLink RX3 21 yX3_set, Cond.instanceMethod yX3_set, Cond.selects RX3 yX3_set yX3_set, Cond.code yX3_set cX3_set 3 none, Cond.methodLink RX3 18 yX3_clearAmounts, Cond.instanceMethod yX3_clearAmounts, Cond.selects RX3 yX3_clearAmounts yX3_clearAmounts, Cond.code yX3_clearAmounts cX3_clearAmounts 1 none]
def wsL_setWays : List Cond := .codeWith yL_setWays cL_setWays 6 (some .int) [(0, 12, 15, 13)] :: ((wsL_setWays_r1 ++ (wsL_setWays_r2 ++ (wsL_setWays_r3 ++ wsL_setWays_r4))) ++ wsX50 ++ wsX20 ++ wsX10 ++ wsX40 ++ wsX30 ++ (vx_atS RX5 228 "java/lang/IllegalArgumentException" ["java/lang/RuntimeException", "java/lang/Exception"]).filter goodWord)
def wsL_setting_r1 : List Cond := [Cond.classLink RL 13 "java/lang/IllegalArgumentException", Cond.methodLink RL 33 yX5_setting, Cond.instanceMethod yX5_setting, Cond.selects RX5 yX5_setting yX5_setting, Cond.initialized RX5, Cond.code yX5_setting cX5_setting 2 (some .int), Cond.fieldLink RX5 10 "RainReservoir" "now" "LRainReservoir$State;", Cond.methodLink RX5 30 yX5_checkRange, Cond.static yX5_checkRange, Cond.code yX5_checkRange cX5_checkRange 3 none, Cond.classLink RX5 224 "java/lang/IllegalArgumentException", Cond.initialized "java/lang/IllegalArgumentException", Cond.methodLink RX5 112 yX2_settingValue, Cond.instanceMethod yX2_settingValue, Cond.selects RX2 yX2_settingValue yX2_settingValue, Cond.initialized RX2, Cond.code yX2_settingValue cX2_settingValue 2 (some .int), Cond.fieldLink RX2 9 "RainReservoir$State" "capacity" "I", Cond.fieldLink RX2 39 "RainReservoir$State" "floor" "I", Cond.fieldLink RX2 42 "RainReservoir$State" "topUp" "I", Cond.fieldLink RX2 45 "RainReservoir$State" "evaporation" "I", Cond.fieldLink RX2 15 "RainReservoir$State" "dryLimit" "I", Cond.fieldLink RX2 48 "RainReservoir$State" "rule" "I", Cond.fieldLink RX2 51 "RainReservoir$State" "roofCount" "I"]
def wsL_setting_r2 : List Cond := [Cond.fieldLink RX2 28 "RainReservoir$State" "users" "LRainReservoir$Users;", Cond.fieldLink RX2 87 "RainReservoir$Users" "count" "I", Cond.fieldLink RX2 61 "RainReservoir$State" "rainCount" "I", Cond.fieldLink RX2 70 "RainReservoir$State" "doneCount" "I", Cond.fieldLink RX2 73 "RainReservoir$State" "level" "I", Cond.fieldLink RX2 76 "RainReservoir$State" "dryDays" "I"]
def wsL_setting : List Cond := .codeWith yL_setting cL_setting 4 (some .int) [(0, 9, 12, 13)] :: ((wsL_setting_r1 ++ wsL_setting_r2) ++ wsX50 ++ wsX20 ++ wsX40 ++ (vx_atS RX5 228 "java/lang/IllegalArgumentException" ["java/lang/RuntimeException", "java/lang/Exception"]).filter goodWord)
def wsL_roof_r1 : List Cond := [Cond.classLink RL 24 "java/lang/IndexOutOfBoundsException", Cond.classLink RL 13 "java/lang/IllegalArgumentException", Cond.methodLink RL 37 yX5_roof, Cond.instanceMethod yX5_roof, Cond.selects RX5 yX5_roof yX5_roof, Cond.initialized RX5, Cond.code yX5_roof cX5_roof 3 (some .int), Cond.fieldLink RX5 10 "RainReservoir" "now" "LRainReservoir$State;", Cond.fieldLink RX5 35 "RainReservoir$State" "roofCount" "I", Cond.fieldLink RX5 49 "RainReservoir$State" "roofs" "[LRainReservoir$Roof;", Cond.methodLink RX5 79 yX5_checkIndex, Cond.static yX5_checkIndex, Cond.code yX5_checkIndex cX5_checkIndex 2 none, Cond.classLink RX5 229 "java/lang/IndexOutOfBoundsException", Cond.initialized "java/lang/IndexOutOfBoundsException", Cond.methodLink RX5 30 yX5_checkRange, Cond.static yX5_checkRange, Cond.code yX5_checkRange cX5_checkRange 3 none, Cond.classLink RX5 224 "java/lang/IllegalArgumentException", Cond.initialized "java/lang/IllegalArgumentException", Cond.methodLink RX5 116 yX1_value, Cond.instanceMethod yX1_value, Cond.selects RX1 yX1_value yX1_value, Cond.initialized RX1]
def wsL_roof_r2 : List Cond := [Cond.code yX1_value cX1_value 2 (some .int), Cond.fieldLink RX1 7 "RainReservoir$Roof" "area" "I", Cond.fieldLink RX1 13 "RainReservoir$Roof" "yieldPercent" "I", Cond.fieldLink RX1 16 "RainReservoir$Roof" "flush" "I", Cond.fieldLink RX1 19 "RainReservoir$Roof" "gutter" "I", Cond.fieldLink RX1 29 "RainReservoir$Roof" "water" "I"]
def wsL_roof : List Cond := .codeWith yL_roof cL_roof 5 (some .int) [(0, 10, 13, 24), (0, 10, 17, 13)] :: ((wsL_roof_r1 ++ wsL_roof_r2) ++ wsX50 ++ wsX20 ++ wsX10 ++ (vx_atS RX5 233 "java/lang/IndexOutOfBoundsException" ["java/lang/RuntimeException", "java/lang/Exception"]).filter goodWord ++ (vx_atS RX5 228 "java/lang/IllegalArgumentException" ["java/lang/RuntimeException", "java/lang/Exception"]).filter goodWord)
def wsL_user_r1 : List Cond := [Cond.classLink RL 24 "java/lang/IndexOutOfBoundsException", Cond.classLink RL 13 "java/lang/IllegalArgumentException", Cond.methodLink RL 40 yX5_user, Cond.instanceMethod yX5_user, Cond.selects RX5 yX5_user yX5_user, Cond.initialized RX5, Cond.code yX5_user cX5_user 3 (some .int), Cond.fieldLink RX5 10 "RainReservoir" "now" "LRainReservoir$State;", Cond.fieldLink RX5 59 "RainReservoir$State" "users" "LRainReservoir$Users;", Cond.fieldLink RX5 63 "RainReservoir$Users" "count" "I", Cond.fieldLink RX5 70 "RainReservoir$Users" "rows" "[LRainReservoir$User;", Cond.methodLink RX5 79 yX5_checkIndex, Cond.static yX5_checkIndex, Cond.code yX5_checkIndex cX5_checkIndex 2 none, Cond.classLink RX5 229 "java/lang/IndexOutOfBoundsException", Cond.initialized "java/lang/IndexOutOfBoundsException", Cond.methodLink RX5 30 yX5_checkRange, Cond.static yX5_checkRange, Cond.code yX5_checkRange cX5_checkRange 3 none, Cond.classLink RX5 224 "java/lang/IllegalArgumentException", Cond.initialized "java/lang/IllegalArgumentException", Cond.methodLink RX5 119 yX3_value, Cond.instanceMethod yX3_value, Cond.selects RX3 yX3_value yX3_value]
def wsL_user_r2 : List Cond := [Cond.initialized RX3, Cond.code yX3_value cX3_value 2 (some .int), Cond.fieldLink RX3 9 "RainReservoir$User" "demand" "I", Cond.fieldLink RX3 15 "RainReservoir$User" "weight" "I", Cond.fieldLink RX3 25 "RainReservoir$User" "gotLatest" "I", Cond.fieldLink RX3 28 "RainReservoir$User" "gotInAll" "I"]
def wsL_user : List Cond := .codeWith yL_user cL_user 5 (some .int) [(0, 10, 13, 24), (0, 10, 17, 13)] :: ((wsL_user_r1 ++ wsL_user_r2) ++ wsX50 ++ wsX20 ++ wsX40 ++ wsX30 ++ (vx_atS RX5 233 "java/lang/IndexOutOfBoundsException" ["java/lang/RuntimeException", "java/lang/Exception"]).filter goodWord ++ (vx_atS RX5 228 "java/lang/IllegalArgumentException" ["java/lang/RuntimeException", "java/lang/Exception"]).filter goodWord)
def wsL_addRain_r1 : List Cond := [Cond.classLink RL 13 "java/lang/IllegalArgumentException", Cond.classLink RL 15 "java/lang/IllegalStateException", Cond.methodLink RL 43 yX5_addRain, Cond.instanceMethod yX5_addRain, Cond.selects RX5 yX5_addRain yX5_addRain, Cond.initialized RX5, Cond.code yX5_addRain cX5_addRain 4 (some .int), Cond.fieldLink RX5 10 "RainReservoir" "now" "LRainReservoir$State;", Cond.fieldLink RX5 127 "RainReservoir$State" "rainCount" "I", Cond.methodLink RX5 30 yX5_checkRange, Cond.static yX5_checkRange, Cond.code yX5_checkRange cX5_checkRange 3 none, Cond.classLink RX5 224 "java/lang/IllegalArgumentException", Cond.initialized "java/lang/IllegalArgumentException", Cond.methodLink RX5 120 yX5_checkRoomForDays, Cond.instanceMethod yX5_checkRoomForDays, Cond.selects RX5 yX5_checkRoomForDays yX5_checkRoomForDays, Cond.code yX5_checkRoomForDays cX5_checkRoomForDays 2 none, Cond.classLink RX5 39 "java/lang/IllegalStateException", Cond.initialized "java/lang/IllegalStateException", Cond.methodLink RX5 46 yX5_save, Cond.instanceMethod yX5_save, Cond.selects RX5 yX5_save yX5_save, Cond.code yX5_save cX5_save 3 none]
def wsL_addRain_r2 : List Cond := [Cond.fieldLink RX5 207 "RainReservoir" "savedCount" "I", Cond.fieldLink RX5 19 "RainReservoir" "saved" "[LRainReservoir$State;", Cond.methodLink RX5 212 yX2_copyFrom, Cond.instanceMethod yX2_copyFrom, Cond.selects RX2 yX2_copyFrom yX2_copyFrom, Cond.initialized RX2, Cond.code yX2_copyFrom cX2_copyFrom 3 none, Cond.fieldLink RX2 9 "RainReservoir$State" "capacity" "I", Cond.fieldLink RX2 39 "RainReservoir$State" "floor" "I", Cond.fieldLink RX2 42 "RainReservoir$State" "topUp" "I", Cond.fieldLink RX2 45 "RainReservoir$State" "evaporation" "I", Cond.fieldLink RX2 15 "RainReservoir$State" "dryLimit" "I", Cond.fieldLink RX2 48 "RainReservoir$State" "rule" "I", Cond.fieldLink RX2 51 "RainReservoir$State" "roofCount" "I", Cond.fieldLink RX2 20 "RainReservoir$State" "roofs" "[LRainReservoir$Roof;", Cond.fieldLink RX2 28 "RainReservoir$State" "users" "LRainReservoir$Users;", Cond.fieldLink RX2 61 "RainReservoir$State" "rainCount" "I", Cond.fieldLink RX2 32 "RainReservoir$State" "rains" "[I", Cond.methodLink RX2 64 arraycopyName, Cond.native arraycopyName, Cond.static arraycopyName, Cond.initialized "java/lang/System", Cond.fieldLink RX2 70 "RainReservoir$State" "doneCount" "I", Cond.fieldLink RX2 36 "RainReservoir$State" "accounts" "[I"]
def wsL_addRain_r3 : List Cond := [Cond.fieldLink RX2 73 "RainReservoir$State" "level" "I", Cond.fieldLink RX2 76 "RainReservoir$State" "dryDays" "I", Cond.fieldLink RX2 79 "RainReservoir$State" "looseOverflow" "J", Cond.methodLink RX2 54 yX1_copyFrom, Cond.instanceMethod yX1_copyFrom, Cond.selects RX1 yX1_copyFrom yX1_copyFrom, Cond.initialized RX1, Cond.code yX1_copyFrom cX1_copyFrom 2 none, Cond.fieldLink RX1 7 "RainReservoir$Roof" "area" "I", Cond.fieldLink RX1 13 "RainReservoir$Roof" "yieldPercent" "I", Cond.fieldLink RX1 16 "RainReservoir$Roof" "flush" "I", Cond.fieldLink RX1 19 "RainReservoir$Roof" "gutter" "I", Cond.fieldLink RX1 29 "RainReservoir$Roof" "water" "I", Cond.fieldLink RX1 32 "RainReservoir$Roof" "spilledInAll" "I", Cond.methodLink RX1 25 yX1_set, Cond.instanceMethod yX1_set, Cond.selects RX1 yX1_set yX1_set, Cond.code yX1_set cX1_set 5 none, Cond.methodLink RX1 22 yX1_clearAmounts, Cond.instanceMethod yX1_clearAmounts, Cond.selects RX1 yX1_clearAmounts yX1_clearAmounts, Cond.code yX1_clearAmounts cX1_clearAmounts 1 none, Cond.methodLink RX2 58 yX4_copyFrom, Cond.instanceMethod yX4_copyFrom]
def wsL_addRain_r4 : List Cond := [Cond.selects RX4 yX4_copyFrom yX4_copyFrom, Cond.initialized RX4, Cond.code yX4_copyFrom cX4_copyFrom 3 none, Cond.fieldLink RX4 22 "RainReservoir$Users" "count" "I", Cond.fieldLink RX4 11 "RainReservoir$Users" "rows" "[LRainReservoir$User;", Cond.methodLink RX4 26 yX3_copyFrom, Cond.instanceMethod yX3_copyFrom, Cond.selects RX3 yX3_copyFrom yX3_copyFrom, Cond.initialized RX3, Cond.code yX3_copyFrom cX3_copyFrom 2 none, Cond.fieldLink RX3 9 "RainReservoir$User" "demand" "I", Cond.fieldLink RX3 15 "RainReservoir$User" "weight" "I", Cond.fieldLink RX3 25 "RainReservoir$User" "gotLatest" "I", Cond.fieldLink RX3 28 "RainReservoir$User" "gotInAll" "I", Cond.methodLink RX3 21 yX3_set, Cond.instanceMethod yX3_set, Cond.selects RX3 yX3_set yX3_set, Cond.code yX3_set cX3_set 3 none, Cond.methodLink RX3 18 yX3_clearAmounts, Cond.instanceMethod yX3_clearAmounts, Cond.selects RX3 yX3_clearAmounts yX3_clearAmounts, Cond.code yX3_clearAmounts cX3_clearAmounts 1 none, Cond.methodLink RX5 124 yX2_putRain, Cond.instanceMethod yX2_putRain]
def wsL_addRain_r5 : List Cond := [Cond.selects RX2 yX2_putRain yX2_putRain, Cond.code yX2_putRain cX2_putRain 2 none]
def wsL_addRain : List Cond := .codeWith yL_addRain cL_addRain 5 (some .int) [(0, 10, 13, 13), (0, 10, 17, 15)] :: ((wsL_addRain_r1 ++ (wsL_addRain_r2 ++ (wsL_addRain_r3 ++ (wsL_addRain_r4 ++ wsL_addRain_r5)))) ++ wsX50 ++ wsX20 ++ wsX10 ++ wsX40 ++ wsX30 ++ (vx_atS RX5 228 "java/lang/IllegalArgumentException" ["java/lang/RuntimeException", "java/lang/Exception"]).filter goodWord ++ (vx_atS RX5 43 "java/lang/IllegalStateException" ["java/lang/RuntimeException", "java/lang/Exception"]).filter goodWord)
def wsL_addRandomRain_r1 : List Cond := [Cond.classLink RL 13 "java/lang/IllegalArgumentException", Cond.classLink RL 15 "java/lang/IllegalStateException", Cond.methodLink RL 46 yX5_addRandomRain, Cond.instanceMethod yX5_addRandomRain, Cond.selects RX5 yX5_addRandomRain yX5_addRandomRain, Cond.initialized RX5, Cond.code yX5_addRandomRain cX5_addRandomRain 9 (some .int), Cond.constant RX5 130 (999999), Cond.constantLong RX5 135 (65536), Cond.constantLong RX5 137 (100), Cond.fieldLink RX5 10 "RainReservoir" "now" "LRainReservoir$State;", Cond.fieldLink RX5 127 "RainReservoir$State" "rainCount" "I", Cond.methodLink RX5 30 yX5_checkRange, Cond.static yX5_checkRange, Cond.code yX5_checkRange cX5_checkRange 3 none, Cond.classLink RX5 224 "java/lang/IllegalArgumentException", Cond.initialized "java/lang/IllegalArgumentException", Cond.methodLink RX5 120 yX5_checkRoomForDays, Cond.instanceMethod yX5_checkRoomForDays, Cond.selects RX5 yX5_checkRoomForDays yX5_checkRoomForDays, Cond.code yX5_checkRoomForDays cX5_checkRoomForDays 2 none, Cond.classLink RX5 39 "java/lang/IllegalStateException", Cond.initialized "java/lang/IllegalStateException", Cond.methodLink RX5 46 yX5_save]
def wsL_addRandomRain_r2 : List Cond := [Cond.instanceMethod yX5_save, Cond.selects RX5 yX5_save yX5_save, Cond.code yX5_save cX5_save 3 none, Cond.fieldLink RX5 207 "RainReservoir" "savedCount" "I", Cond.fieldLink RX5 19 "RainReservoir" "saved" "[LRainReservoir$State;", Cond.methodLink RX5 212 yX2_copyFrom, Cond.instanceMethod yX2_copyFrom, Cond.selects RX2 yX2_copyFrom yX2_copyFrom, Cond.initialized RX2, Cond.code yX2_copyFrom cX2_copyFrom 3 none, Cond.fieldLink RX2 9 "RainReservoir$State" "capacity" "I", Cond.fieldLink RX2 39 "RainReservoir$State" "floor" "I", Cond.fieldLink RX2 42 "RainReservoir$State" "topUp" "I", Cond.fieldLink RX2 45 "RainReservoir$State" "evaporation" "I", Cond.fieldLink RX2 15 "RainReservoir$State" "dryLimit" "I", Cond.fieldLink RX2 48 "RainReservoir$State" "rule" "I", Cond.fieldLink RX2 51 "RainReservoir$State" "roofCount" "I", Cond.fieldLink RX2 20 "RainReservoir$State" "roofs" "[LRainReservoir$Roof;", Cond.fieldLink RX2 28 "RainReservoir$State" "users" "LRainReservoir$Users;", Cond.fieldLink RX2 61 "RainReservoir$State" "rainCount" "I", Cond.fieldLink RX2 32 "RainReservoir$State" "rains" "[I", Cond.methodLink RX2 64 arraycopyName, Cond.native arraycopyName, Cond.static arraycopyName]
def wsL_addRandomRain_r3 : List Cond := [Cond.initialized "java/lang/System", Cond.fieldLink RX2 70 "RainReservoir$State" "doneCount" "I", Cond.fieldLink RX2 36 "RainReservoir$State" "accounts" "[I", Cond.fieldLink RX2 73 "RainReservoir$State" "level" "I", Cond.fieldLink RX2 76 "RainReservoir$State" "dryDays" "I", Cond.fieldLink RX2 79 "RainReservoir$State" "looseOverflow" "J", Cond.methodLink RX2 54 yX1_copyFrom, Cond.instanceMethod yX1_copyFrom, Cond.selects RX1 yX1_copyFrom yX1_copyFrom, Cond.initialized RX1, Cond.code yX1_copyFrom cX1_copyFrom 2 none, Cond.fieldLink RX1 7 "RainReservoir$Roof" "area" "I", Cond.fieldLink RX1 13 "RainReservoir$Roof" "yieldPercent" "I", Cond.fieldLink RX1 16 "RainReservoir$Roof" "flush" "I", Cond.fieldLink RX1 19 "RainReservoir$Roof" "gutter" "I", Cond.fieldLink RX1 29 "RainReservoir$Roof" "water" "I", Cond.fieldLink RX1 32 "RainReservoir$Roof" "spilledInAll" "I", Cond.methodLink RX1 25 yX1_set, Cond.instanceMethod yX1_set, Cond.selects RX1 yX1_set yX1_set, Cond.code yX1_set cX1_set 5 none, Cond.methodLink RX1 22 yX1_clearAmounts, Cond.instanceMethod yX1_clearAmounts, Cond.selects RX1 yX1_clearAmounts yX1_clearAmounts]
def wsL_addRandomRain_r4 : List Cond := [Cond.code yX1_clearAmounts cX1_clearAmounts 1 none, Cond.methodLink RX2 58 yX4_copyFrom, Cond.instanceMethod yX4_copyFrom, Cond.selects RX4 yX4_copyFrom yX4_copyFrom, Cond.initialized RX4, Cond.code yX4_copyFrom cX4_copyFrom 3 none, Cond.fieldLink RX4 22 "RainReservoir$Users" "count" "I", Cond.fieldLink RX4 11 "RainReservoir$Users" "rows" "[LRainReservoir$User;", Cond.methodLink RX4 26 yX3_copyFrom, Cond.instanceMethod yX3_copyFrom, Cond.selects RX3 yX3_copyFrom yX3_copyFrom, Cond.initialized RX3, Cond.code yX3_copyFrom cX3_copyFrom 2 none, Cond.fieldLink RX3 9 "RainReservoir$User" "demand" "I", Cond.fieldLink RX3 15 "RainReservoir$User" "weight" "I", Cond.fieldLink RX3 25 "RainReservoir$User" "gotLatest" "I", Cond.fieldLink RX3 28 "RainReservoir$User" "gotInAll" "I", Cond.methodLink RX3 21 yX3_set, Cond.instanceMethod yX3_set, Cond.selects RX3 yX3_set yX3_set, Cond.code yX3_set cX3_set 3 none, Cond.methodLink RX3 18 yX3_clearAmounts, Cond.instanceMethod yX3_clearAmounts, Cond.selects RX3 yX3_clearAmounts yX3_clearAmounts]
def wsL_addRandomRain_r5 : List Cond := [Cond.code yX3_clearAmounts cX3_clearAmounts 1 none, Cond.methodLink RX5 131 yX5_nextRandom, Cond.static yX5_nextRandom, Cond.code yX5_nextRandom cX5_nextRandom 2 (some .long), Cond.constantLong RX5 236 (1103515245), Cond.constantLong RX5 238 (12345), Cond.constantLong RX5 240 (2147483648), Cond.methodLink RX5 124 yX2_putRain, Cond.instanceMethod yX2_putRain, Cond.selects RX2 yX2_putRain yX2_putRain, Cond.code yX2_putRain cX2_putRain 2 none]
def wsL_addRandomRain : List Cond := .codeWith yL_addRandomRain cL_addRandomRain 7 (some .int) [(0, 14, 17, 13), (0, 14, 21, 15)] :: ((wsL_addRandomRain_r1 ++ (wsL_addRandomRain_r2 ++ (wsL_addRandomRain_r3 ++ (wsL_addRandomRain_r4 ++ wsL_addRandomRain_r5)))) ++ wsX50 ++ wsX20 ++ wsX10 ++ wsX40 ++ wsX30 ++ (vx_atS RX5 228 "java/lang/IllegalArgumentException" ["java/lang/RuntimeException", "java/lang/Exception"]).filter goodWord ++ (vx_atS RX5 43 "java/lang/IllegalStateException" ["java/lang/RuntimeException", "java/lang/Exception"]).filter goodWord)
def wsL_rain : List Cond := .codeWith yL_rain cL_rain 4 (some .int) [(0, 9, 12, 24)] :: ([.classLink RL 24 "java/lang/IndexOutOfBoundsException", .methodLink RL 49 yX5_rain, .instanceMethod yX5_rain, .selects RX5 yX5_rain yX5_rain, .initialized RX5, .code yX5_rain cX5_rain 2 (some .int), .fieldLink RX5 10 "RainReservoir" "now" "LRainReservoir$State;", .fieldLink RX5 127 "RainReservoir$State" "rainCount" "I", .fieldLink RX5 139 "RainReservoir$State" "rains" "[I", .methodLink RX5 79 yX5_checkIndex, .static yX5_checkIndex, .code yX5_checkIndex cX5_checkIndex 2 none, .classLink RX5 229 "java/lang/IndexOutOfBoundsException", .initialized "java/lang/IndexOutOfBoundsException"] ++ wsX50 ++ wsX20 ++ (vx_atS RX5 233 "java/lang/IndexOutOfBoundsException" ["java/lang/RuntimeException", "java/lang/Exception"]).filter goodWord)
def wsL_run_r1 : List Cond := [Cond.classLink RL 13 "java/lang/IllegalArgumentException", Cond.classLink RL 15 "java/lang/IllegalStateException", Cond.methodLink RL 52 yX5_run, Cond.instanceMethod yX5_run, Cond.selects RX5 yX5_run yX5_run, Cond.initialized RX5, Cond.code yX5_run cX5_run 5 (some .int), Cond.classLink RX5 39 "java/lang/IllegalStateException", Cond.initialized "java/lang/IllegalStateException", Cond.fieldLink RX5 10 "RainReservoir" "now" "LRainReservoir$State;", Cond.fieldLink RX5 127 "RainReservoir$State" "rainCount" "I", Cond.fieldLink RX5 143 "RainReservoir$State" "doneCount" "I", Cond.methodLink RX5 30 yX5_checkRange, Cond.static yX5_checkRange, Cond.code yX5_checkRange cX5_checkRange 3 none, Cond.classLink RX5 224 "java/lang/IllegalArgumentException", Cond.initialized "java/lang/IllegalArgumentException", Cond.methodLink RX5 46 yX5_save, Cond.instanceMethod yX5_save, Cond.selects RX5 yX5_save yX5_save, Cond.code yX5_save cX5_save 3 none, Cond.fieldLink RX5 207 "RainReservoir" "savedCount" "I", Cond.fieldLink RX5 19 "RainReservoir" "saved" "[LRainReservoir$State;", Cond.methodLink RX5 212 yX2_copyFrom]
def wsL_run_r2 : List Cond := [Cond.instanceMethod yX2_copyFrom, Cond.selects RX2 yX2_copyFrom yX2_copyFrom, Cond.initialized RX2, Cond.code yX2_copyFrom cX2_copyFrom 3 none, Cond.fieldLink RX2 9 "RainReservoir$State" "capacity" "I", Cond.fieldLink RX2 39 "RainReservoir$State" "floor" "I", Cond.fieldLink RX2 42 "RainReservoir$State" "topUp" "I", Cond.fieldLink RX2 45 "RainReservoir$State" "evaporation" "I", Cond.fieldLink RX2 15 "RainReservoir$State" "dryLimit" "I", Cond.fieldLink RX2 48 "RainReservoir$State" "rule" "I", Cond.fieldLink RX2 51 "RainReservoir$State" "roofCount" "I", Cond.fieldLink RX2 20 "RainReservoir$State" "roofs" "[LRainReservoir$Roof;", Cond.fieldLink RX2 28 "RainReservoir$State" "users" "LRainReservoir$Users;", Cond.fieldLink RX2 61 "RainReservoir$State" "rainCount" "I", Cond.fieldLink RX2 32 "RainReservoir$State" "rains" "[I", Cond.methodLink RX2 64 arraycopyName, Cond.native arraycopyName, Cond.static arraycopyName, Cond.initialized "java/lang/System", Cond.fieldLink RX2 70 "RainReservoir$State" "doneCount" "I", Cond.fieldLink RX2 36 "RainReservoir$State" "accounts" "[I", Cond.fieldLink RX2 73 "RainReservoir$State" "level" "I", Cond.fieldLink RX2 76 "RainReservoir$State" "dryDays" "I", Cond.fieldLink RX2 79 "RainReservoir$State" "looseOverflow" "J"]
def wsL_run_r3 : List Cond := [Cond.methodLink RX2 54 yX1_copyFrom, Cond.instanceMethod yX1_copyFrom, Cond.selects RX1 yX1_copyFrom yX1_copyFrom, Cond.initialized RX1, Cond.code yX1_copyFrom cX1_copyFrom 2 none, Cond.fieldLink RX1 7 "RainReservoir$Roof" "area" "I", Cond.fieldLink RX1 13 "RainReservoir$Roof" "yieldPercent" "I", Cond.fieldLink RX1 16 "RainReservoir$Roof" "flush" "I", Cond.fieldLink RX1 19 "RainReservoir$Roof" "gutter" "I", Cond.fieldLink RX1 29 "RainReservoir$Roof" "water" "I", Cond.fieldLink RX1 32 "RainReservoir$Roof" "spilledInAll" "I", Cond.methodLink RX1 25 yX1_set, Cond.instanceMethod yX1_set, Cond.selects RX1 yX1_set yX1_set, Cond.code yX1_set cX1_set 5 none, Cond.methodLink RX1 22 yX1_clearAmounts, Cond.instanceMethod yX1_clearAmounts, Cond.selects RX1 yX1_clearAmounts yX1_clearAmounts, Cond.code yX1_clearAmounts cX1_clearAmounts 1 none, Cond.methodLink RX2 58 yX4_copyFrom, Cond.instanceMethod yX4_copyFrom, Cond.selects RX4 yX4_copyFrom yX4_copyFrom, Cond.initialized RX4, Cond.code yX4_copyFrom cX4_copyFrom 3 none]
def wsL_run_r4 : List Cond := [Cond.fieldLink RX4 22 "RainReservoir$Users" "count" "I", Cond.fieldLink RX4 11 "RainReservoir$Users" "rows" "[LRainReservoir$User;", Cond.methodLink RX4 26 yX3_copyFrom, Cond.instanceMethod yX3_copyFrom, Cond.selects RX3 yX3_copyFrom yX3_copyFrom, Cond.initialized RX3, Cond.code yX3_copyFrom cX3_copyFrom 2 none, Cond.fieldLink RX3 9 "RainReservoir$User" "demand" "I", Cond.fieldLink RX3 15 "RainReservoir$User" "weight" "I", Cond.fieldLink RX3 25 "RainReservoir$User" "gotLatest" "I", Cond.fieldLink RX3 28 "RainReservoir$User" "gotInAll" "I", Cond.methodLink RX3 21 yX3_set, Cond.instanceMethod yX3_set, Cond.selects RX3 yX3_set yX3_set, Cond.code yX3_set cX3_set 3 none, Cond.methodLink RX3 18 yX3_clearAmounts, Cond.instanceMethod yX3_clearAmounts, Cond.selects RX3 yX3_clearAmounts yX3_clearAmounts, Cond.code yX3_clearAmounts cX3_clearAmounts 1 none, Cond.methodLink RX5 148 yX2_collect, Cond.instanceMethod yX2_collect, Cond.selects RX2 yX2_collect yX2_collect, Cond.code yX2_collect cX2_collect 11 none, Cond.methodLink RX2 99 yX2_drainWhenDry]
def wsL_run_r5 : List Cond := [Cond.instanceMethod yX2_drainWhenDry, Cond.selects RX2 yX2_drainWhenDry yX2_drainWhenDry, Cond.code yX2_drainWhenDry cX2_drainWhenDry 4 (some .int), Cond.methodLink RX2 134 yX1_drain, Cond.instanceMethod yX1_drain, Cond.selects RX1 yX1_drain yX1_drain, Cond.code yX1_drain cX1_drain 2 (some .int), Cond.methodLink RX2 103 yX1_caught, Cond.instanceMethod yX1_caught, Cond.selects RX1 yX1_caught yX1_caught, Cond.code yX1_caught cX1_caught 2 (some .int), Cond.methodLink RX2 106 yX1_divert, Cond.instanceMethod yX1_divert, Cond.selects RX1 yX1_divert yX1_divert, Cond.code yX1_divert cX1_divert 3 (some .int), Cond.methodLink RX1 35 Lib.Math.min.name, Cond.static Lib.Math.min.name, Cond.initialized "java/lang/Math", Cond.code Lib.Math.min.name Lib.Math.min.code 2 (some .int), Cond.methodLink RX2 109 yX1_spill, Cond.instanceMethod yX1_spill, Cond.selects RX1 yX1_spill yX1_spill, Cond.code yX1_spill cX1_spill 3 (some .int), Cond.methodLink RX1 41 Lib.Math.max.name]
def wsL_run_r6 : List Cond := [Cond.static Lib.Math.max.name, Cond.code Lib.Math.max.name Lib.Math.max.code 2 (some .int), Cond.methodLink RX2 112 yX2_put, Cond.instanceMethod yX2_put, Cond.selects RX2 yX2_put yX2_put, Cond.code yX2_put cX2_put 4 none, Cond.methodLink RX5 151 yX2_serve, Cond.instanceMethod yX2_serve, Cond.selects RX2 yX2_serve yX2_serve, Cond.code yX2_serve cX2_serve 5 none, Cond.methodLink RX2 94 Lib.Math.max.name, Cond.methodLink RX2 90 yX2_account, Cond.instanceMethod yX2_account, Cond.selects RX2 yX2_account yX2_account, Cond.code yX2_account cX2_account 3 (some .int), Cond.methodLink RX2 116 yX2_dropAboveCapacity, Cond.instanceMethod yX2_dropAboveCapacity, Cond.selects RX2 yX2_dropAboveCapacity yX2_dropAboveCapacity, Cond.code yX2_dropAboveCapacity cX2_dropAboveCapacity 2 (some .int), Cond.methodLink RX2 120 yX4_handOut, Cond.instanceMethod yX4_handOut, Cond.selects RX4 yX4_handOut yX4_handOut, Cond.code yX4_handOut cX4_handOut 6 (some .int), Cond.fieldLink RX4 45 "RainReservoir$User" "gotLatest" "I"]
def wsL_run_r7 : List Cond := [Cond.fieldLink RX4 36 "RainReservoir$User" "gotInAll" "I", Cond.methodLink RX4 48 yX4_demandInAll, Cond.instanceMethod yX4_demandInAll, Cond.selects RX4 yX4_demandInAll yX4_demandInAll, Cond.code yX4_demandInAll cX4_demandInAll 3 (some .int), Cond.fieldLink RX4 33 "RainReservoir$User" "demand" "I", Cond.methodLink RX4 52 yX4_shareInOrder, Cond.instanceMethod yX4_shareInOrder, Cond.selects RX4 yX4_shareInOrder yX4_shareInOrder, Cond.code yX4_shareInOrder cX4_shareInOrder 3 none, Cond.fieldLink RX4 18 "RainReservoir$Users" "order" "[I", Cond.methodLink RX4 74 yX4_serveOrder, Cond.instanceMethod yX4_serveOrder, Cond.selects RX4 yX4_serveOrder yX4_serveOrder, Cond.code yX4_serveOrder cX4_serveOrder 4 none, Cond.methodLink RX4 70 yX3_give, Cond.instanceMethod yX3_give, Cond.selects RX3 yX3_give yX3_give, Cond.code yX3_give cX3_give 3 (some .int), Cond.methodLink RX3 35 Lib.Math.min.name, Cond.methodLink RX3 31 yX3_lack, Cond.instanceMethod yX3_lack, Cond.selects RX3 yX3_lack yX3_lack, Cond.code yX3_lack cX3_lack 1 (some .int)]
def wsL_run_r8 : List Cond := [Cond.methodLink RX4 56 yX4_share, Cond.instanceMethod yX4_share, Cond.selects RX4 yX4_share yX4_share, Cond.code yX4_share cX4_share 4 none, Cond.methodLink RX4 60 yX4_shareByDemand, Cond.instanceMethod yX4_shareByDemand, Cond.selects RX4 yX4_shareByDemand yX4_shareByDemand, Cond.code yX4_shareByDemand cX4_shareByDemand 7 none, Cond.methodLink RX4 64 yX4_shareInRounds, Cond.instanceMethod yX4_shareInRounds, Cond.selects RX4 yX4_shareInRounds yX4_shareInRounds, Cond.code yX4_shareInRounds cX4_shareInRounds 5 none, Cond.methodLink RX4 86 Lib.Math.min.name, Cond.methodLink RX4 77 yX4_fullRounds, Cond.instanceMethod yX4_fullRounds, Cond.selects RX4 yX4_fullRounds yX4_fullRounds, Cond.code yX4_fullRounds cX4_fullRounds 4 (some .int), Cond.methodLink RX4 89 yX3_lack, Cond.methodLink RX4 83 yX3_portion, Cond.instanceMethod yX3_portion, Cond.selects RX3 yX3_portion yX3_portion, Cond.code yX3_portion cX3_portion 1 (some .int), Cond.methodLink RX4 80 yX4_giveRounds, Cond.instanceMethod yX4_giveRounds]
def wsL_run_r9 : List Cond := [Cond.selects RX4 yX4_giveRounds yX4_giveRounds, Cond.code yX4_giveRounds cX4_giveRounds 4 (some .int), Cond.methodLink RX4 67 yX4_shareSmallestFirst, Cond.instanceMethod yX4_shareSmallestFirst, Cond.selects RX4 yX4_shareSmallestFirst yX4_shareSmallestFirst, Cond.code yX4_shareSmallestFirst cX4_shareSmallestFirst 4 none, Cond.methodLink RX2 123 yX4_demandInAll, Cond.methodLink RX5 154 yX2_isShort, Cond.instanceMethod yX2_isShort, Cond.selects RX2 yX2_isShort yX2_isShort, Cond.code yX2_isShort cX2_isShort 2 (some .boolean)]
def wsL_run : List Cond := .codeWith yL_run cL_run 4 (some .int) [(0, 9, 12, 13), (0, 9, 15, 15)] :: ((wsL_run_r1 ++ (wsL_run_r2 ++ (wsL_run_r3 ++ (wsL_run_r4 ++ (wsL_run_r5 ++ (wsL_run_r6 ++ (wsL_run_r7 ++ (wsL_run_r8 ++ wsL_run_r9)))))))) ++ wsX50 ++ wsX20 ++ wsX10 ++ wsX40 ++ wsX30 ++ (vx_atS RX5 43 "java/lang/IllegalStateException" ["java/lang/RuntimeException", "java/lang/Exception"]).filter goodWord ++ (vx_atS RX5 228 "java/lang/IllegalArgumentException" ["java/lang/RuntimeException", "java/lang/Exception"]).filter goodWord)
def wsL_day_r1 : List Cond := [Cond.classLink RL 24 "java/lang/IndexOutOfBoundsException", Cond.classLink RL 13 "java/lang/IllegalArgumentException", Cond.methodLink RL 55 yX5_day, Cond.instanceMethod yX5_day, Cond.selects RX5 yX5_day yX5_day, Cond.initialized RX5, Cond.code yX5_day cX5_day 3 (some .int), Cond.fieldLink RX5 10 "RainReservoir" "now" "LRainReservoir$State;", Cond.fieldLink RX5 143 "RainReservoir$State" "doneCount" "I", Cond.methodLink RX5 79 yX5_checkIndex, Cond.static yX5_checkIndex, Cond.code yX5_checkIndex cX5_checkIndex 2 none, Cond.classLink RX5 229 "java/lang/IndexOutOfBoundsException", Cond.initialized "java/lang/IndexOutOfBoundsException", Cond.methodLink RX5 30 yX5_checkRange, Cond.static yX5_checkRange, Cond.code yX5_checkRange cX5_checkRange 3 none, Cond.classLink RX5 224 "java/lang/IllegalArgumentException", Cond.initialized "java/lang/IllegalArgumentException", Cond.methodLink RX5 161 yX2_account, Cond.instanceMethod yX2_account, Cond.selects RX2 yX2_account yX2_account, Cond.initialized RX2, Cond.code yX2_account cX2_account 3 (some .int)]
def wsL_day_r2 : List Cond := [Cond.fieldLink RX2 36 "RainReservoir$State" "accounts" "[I"]
def wsL_day : List Cond := .codeWith yL_day cL_day 5 (some .int) [(0, 10, 13, 24), (0, 10, 17, 13)] :: ((wsL_day_r1 ++ wsL_day_r2) ++ wsX50 ++ wsX20 ++ (vx_atS RX5 233 "java/lang/IndexOutOfBoundsException" ["java/lang/RuntimeException", "java/lang/Exception"]).filter goodWord ++ (vx_atS RX5 228 "java/lang/IllegalArgumentException" ["java/lang/RuntimeException", "java/lang/Exception"]).filter goodWord)
def wsL_sum : List Cond := .codeWith yL_sum cL_sum 4 (some .int) [(0, 8, 11, 13)] :: ([.classLink RL 13 "java/lang/IllegalArgumentException", .methodLink RL 58 yX5_sum, .instanceMethod yX5_sum, .selects RX5 yX5_sum yX5_sum, .initialized RX5, .code yX5_sum cX5_sum 5 (some .long), .fieldLink RX5 10 "RainReservoir" "now" "LRainReservoir$State;", .fieldLink RX5 95 "RainReservoir$State" "looseOverflow" "J", .fieldLink RX5 143 "RainReservoir$State" "doneCount" "I", .methodLink RX5 30 yX5_checkRange, .static yX5_checkRange, .code yX5_checkRange cX5_checkRange 3 none, .classLink RX5 224 "java/lang/IllegalArgumentException", .initialized "java/lang/IllegalArgumentException", .methodLink RX5 161 yX2_account, .instanceMethod yX2_account, .selects RX2 yX2_account yX2_account, .initialized RX2, .code yX2_account cX2_account 3 (some .int), .fieldLink RX2 36 "RainReservoir$State" "accounts" "[I"] ++ wsX50 ++ wsX20 ++ (vx_atS RX5 228 "java/lang/IllegalArgumentException" ["java/lang/RuntimeException", "java/lang/Exception"]).filter goodWord)
def wsL_shortDaysWith_r1 : List Cond := [Cond.classLink RL 13 "java/lang/IllegalArgumentException", Cond.methodLink RL 62 yX5_shortDaysWith, Cond.instanceMethod yX5_shortDaysWith, Cond.selects RX5 yX5_shortDaysWith yX5_shortDaysWith, Cond.initialized RX5, Cond.code yX5_shortDaysWith cX5_shortDaysWith 2 (some .int), Cond.constant RX5 85 (60000), Cond.methodLink RX5 30 yX5_checkRange, Cond.static yX5_checkRange, Cond.code yX5_checkRange cX5_checkRange 3 none, Cond.classLink RX5 224 "java/lang/IllegalArgumentException", Cond.initialized "java/lang/IllegalArgumentException", Cond.methodLink RX5 170 yX5_prepareTrial, Cond.instanceMethod yX5_prepareTrial, Cond.selects RX5 yX5_prepareTrial yX5_prepareTrial, Cond.code yX5_prepareTrial cX5_prepareTrial 2 none, Cond.fieldLink RX5 16 "RainReservoir" "trial" "LRainReservoir$State;", Cond.fieldLink RX5 10 "RainReservoir" "now" "LRainReservoir$State;", Cond.fieldLink RX5 127 "RainReservoir$State" "rainCount" "I", Cond.methodLink RX5 212 yX2_copyFrom, Cond.instanceMethod yX2_copyFrom, Cond.selects RX2 yX2_copyFrom yX2_copyFrom, Cond.initialized RX2, Cond.code yX2_copyFrom cX2_copyFrom 3 none]
def wsL_shortDaysWith_r2 : List Cond := [Cond.fieldLink RX2 9 "RainReservoir$State" "capacity" "I", Cond.fieldLink RX2 39 "RainReservoir$State" "floor" "I", Cond.fieldLink RX2 42 "RainReservoir$State" "topUp" "I", Cond.fieldLink RX2 45 "RainReservoir$State" "evaporation" "I", Cond.fieldLink RX2 15 "RainReservoir$State" "dryLimit" "I", Cond.fieldLink RX2 48 "RainReservoir$State" "rule" "I", Cond.fieldLink RX2 51 "RainReservoir$State" "roofCount" "I", Cond.fieldLink RX2 20 "RainReservoir$State" "roofs" "[LRainReservoir$Roof;", Cond.fieldLink RX2 28 "RainReservoir$State" "users" "LRainReservoir$Users;", Cond.fieldLink RX2 61 "RainReservoir$State" "rainCount" "I", Cond.fieldLink RX2 32 "RainReservoir$State" "rains" "[I", Cond.methodLink RX2 64 arraycopyName, Cond.native arraycopyName, Cond.static arraycopyName, Cond.initialized "java/lang/System", Cond.fieldLink RX2 70 "RainReservoir$State" "doneCount" "I", Cond.fieldLink RX2 36 "RainReservoir$State" "accounts" "[I", Cond.fieldLink RX2 73 "RainReservoir$State" "level" "I", Cond.fieldLink RX2 76 "RainReservoir$State" "dryDays" "I", Cond.fieldLink RX2 79 "RainReservoir$State" "looseOverflow" "J", Cond.methodLink RX2 54 yX1_copyFrom, Cond.instanceMethod yX1_copyFrom, Cond.selects RX1 yX1_copyFrom yX1_copyFrom, Cond.initialized RX1]
def wsL_shortDaysWith_r3 : List Cond := [Cond.code yX1_copyFrom cX1_copyFrom 2 none, Cond.fieldLink RX1 7 "RainReservoir$Roof" "area" "I", Cond.fieldLink RX1 13 "RainReservoir$Roof" "yieldPercent" "I", Cond.fieldLink RX1 16 "RainReservoir$Roof" "flush" "I", Cond.fieldLink RX1 19 "RainReservoir$Roof" "gutter" "I", Cond.fieldLink RX1 29 "RainReservoir$Roof" "water" "I", Cond.fieldLink RX1 32 "RainReservoir$Roof" "spilledInAll" "I", Cond.methodLink RX1 25 yX1_set, Cond.instanceMethod yX1_set, Cond.selects RX1 yX1_set yX1_set, Cond.code yX1_set cX1_set 5 none, Cond.methodLink RX1 22 yX1_clearAmounts, Cond.instanceMethod yX1_clearAmounts, Cond.selects RX1 yX1_clearAmounts yX1_clearAmounts, Cond.code yX1_clearAmounts cX1_clearAmounts 1 none, Cond.methodLink RX2 58 yX4_copyFrom, Cond.instanceMethod yX4_copyFrom, Cond.selects RX4 yX4_copyFrom yX4_copyFrom, Cond.initialized RX4, Cond.code yX4_copyFrom cX4_copyFrom 3 none, Cond.fieldLink RX4 22 "RainReservoir$Users" "count" "I", Cond.fieldLink RX4 11 "RainReservoir$Users" "rows" "[LRainReservoir$User;", Cond.methodLink RX4 26 yX3_copyFrom, Cond.instanceMethod yX3_copyFrom]
def wsL_shortDaysWith_r4 : List Cond := [Cond.selects RX3 yX3_copyFrom yX3_copyFrom, Cond.initialized RX3, Cond.code yX3_copyFrom cX3_copyFrom 2 none, Cond.fieldLink RX3 9 "RainReservoir$User" "demand" "I", Cond.fieldLink RX3 15 "RainReservoir$User" "weight" "I", Cond.fieldLink RX3 25 "RainReservoir$User" "gotLatest" "I", Cond.fieldLink RX3 28 "RainReservoir$User" "gotInAll" "I", Cond.methodLink RX3 21 yX3_set, Cond.instanceMethod yX3_set, Cond.selects RX3 yX3_set yX3_set, Cond.code yX3_set cX3_set 3 none, Cond.methodLink RX3 18 yX3_clearAmounts, Cond.instanceMethod yX3_clearAmounts, Cond.selects RX3 yX3_clearAmounts yX3_clearAmounts, Cond.code yX3_clearAmounts cX3_clearAmounts 1 none, Cond.methodLink RX5 158 yX2_goBack, Cond.instanceMethod yX2_goBack, Cond.selects RX2 yX2_goBack yX2_goBack, Cond.code yX2_goBack cX2_goBack 2 none, Cond.methodLink RX2 83 yX1_clearAmounts, Cond.methodLink RX2 86 yX4_clearAmounts, Cond.instanceMethod yX4_clearAmounts, Cond.selects RX4 yX4_clearAmounts yX4_clearAmounts, Cond.code yX4_clearAmounts cX4_clearAmounts 2 none]
def wsL_shortDaysWith_r5 : List Cond := [Cond.methodLink RX4 30 yX3_clearAmounts, Cond.methodLink RX5 148 yX2_collect, Cond.instanceMethod yX2_collect, Cond.selects RX2 yX2_collect yX2_collect, Cond.code yX2_collect cX2_collect 11 none, Cond.methodLink RX2 99 yX2_drainWhenDry, Cond.instanceMethod yX2_drainWhenDry, Cond.selects RX2 yX2_drainWhenDry yX2_drainWhenDry, Cond.code yX2_drainWhenDry cX2_drainWhenDry 4 (some .int), Cond.methodLink RX2 134 yX1_drain, Cond.instanceMethod yX1_drain, Cond.selects RX1 yX1_drain yX1_drain, Cond.code yX1_drain cX1_drain 2 (some .int), Cond.methodLink RX2 103 yX1_caught, Cond.instanceMethod yX1_caught, Cond.selects RX1 yX1_caught yX1_caught, Cond.code yX1_caught cX1_caught 2 (some .int), Cond.methodLink RX2 106 yX1_divert, Cond.instanceMethod yX1_divert, Cond.selects RX1 yX1_divert yX1_divert, Cond.code yX1_divert cX1_divert 3 (some .int), Cond.methodLink RX1 35 Lib.Math.min.name, Cond.static Lib.Math.min.name, Cond.initialized "java/lang/Math"]
def wsL_shortDaysWith_r6 : List Cond := [Cond.code Lib.Math.min.name Lib.Math.min.code 2 (some .int), Cond.methodLink RX2 109 yX1_spill, Cond.instanceMethod yX1_spill, Cond.selects RX1 yX1_spill yX1_spill, Cond.code yX1_spill cX1_spill 3 (some .int), Cond.methodLink RX1 41 Lib.Math.max.name, Cond.static Lib.Math.max.name, Cond.code Lib.Math.max.name Lib.Math.max.code 2 (some .int), Cond.methodLink RX2 112 yX2_put, Cond.instanceMethod yX2_put, Cond.selects RX2 yX2_put yX2_put, Cond.code yX2_put cX2_put 4 none, Cond.methodLink RX5 173 yX5_triedShortDays, Cond.instanceMethod yX5_triedShortDays, Cond.selects RX5 yX5_triedShortDays yX5_triedShortDays, Cond.code yX5_triedShortDays cX5_triedShortDays 3 (some .int), Cond.fieldLink RX5 86 "RainReservoir$State" "capacity" "I", Cond.fieldLink RX5 89 "RainReservoir$State" "floor" "I", Cond.methodLink RX5 242 Lib.Math.min.name, Cond.fieldLink RX5 92 "RainReservoir$State" "topUp" "I", Cond.methodLink RX5 176 yX2_serveAll, Cond.instanceMethod yX2_serveAll, Cond.selects RX2 yX2_serveAll yX2_serveAll, Cond.code yX2_serveAll cX2_serveAll 4 (some .int)]
def wsL_shortDaysWith_r7 : List Cond := [Cond.methodLink RX2 126 yX2_serve, Cond.instanceMethod yX2_serve, Cond.selects RX2 yX2_serve yX2_serve, Cond.code yX2_serve cX2_serve 5 none, Cond.methodLink RX2 94 Lib.Math.max.name, Cond.methodLink RX2 90 yX2_account, Cond.instanceMethod yX2_account, Cond.selects RX2 yX2_account yX2_account, Cond.code yX2_account cX2_account 3 (some .int), Cond.methodLink RX2 116 yX2_dropAboveCapacity, Cond.instanceMethod yX2_dropAboveCapacity, Cond.selects RX2 yX2_dropAboveCapacity yX2_dropAboveCapacity, Cond.code yX2_dropAboveCapacity cX2_dropAboveCapacity 2 (some .int), Cond.methodLink RX2 120 yX4_handOut, Cond.instanceMethod yX4_handOut, Cond.selects RX4 yX4_handOut yX4_handOut, Cond.code yX4_handOut cX4_handOut 6 (some .int), Cond.fieldLink RX4 45 "RainReservoir$User" "gotLatest" "I", Cond.fieldLink RX4 36 "RainReservoir$User" "gotInAll" "I", Cond.methodLink RX4 48 yX4_demandInAll, Cond.instanceMethod yX4_demandInAll, Cond.selects RX4 yX4_demandInAll yX4_demandInAll, Cond.code yX4_demandInAll cX4_demandInAll 3 (some .int), Cond.fieldLink RX4 33 "RainReservoir$User" "demand" "I"]
def wsL_shortDaysWith_r8 : List Cond := [Cond.methodLink RX4 52 yX4_shareInOrder, Cond.instanceMethod yX4_shareInOrder, Cond.selects RX4 yX4_shareInOrder yX4_shareInOrder, Cond.code yX4_shareInOrder cX4_shareInOrder 3 none, Cond.fieldLink RX4 18 "RainReservoir$Users" "order" "[I", Cond.methodLink RX4 74 yX4_serveOrder, Cond.instanceMethod yX4_serveOrder, Cond.selects RX4 yX4_serveOrder yX4_serveOrder, Cond.code yX4_serveOrder cX4_serveOrder 4 none, Cond.methodLink RX4 70 yX3_give, Cond.instanceMethod yX3_give, Cond.selects RX3 yX3_give yX3_give, Cond.code yX3_give cX3_give 3 (some .int), Cond.methodLink RX3 35 Lib.Math.min.name, Cond.methodLink RX3 31 yX3_lack, Cond.instanceMethod yX3_lack, Cond.selects RX3 yX3_lack yX3_lack, Cond.code yX3_lack cX3_lack 1 (some .int), Cond.methodLink RX4 56 yX4_share, Cond.instanceMethod yX4_share, Cond.selects RX4 yX4_share yX4_share, Cond.code yX4_share cX4_share 4 none, Cond.methodLink RX4 60 yX4_shareByDemand, Cond.instanceMethod yX4_shareByDemand]
def wsL_shortDaysWith_r9 : List Cond := [Cond.selects RX4 yX4_shareByDemand yX4_shareByDemand, Cond.code yX4_shareByDemand cX4_shareByDemand 7 none, Cond.methodLink RX4 64 yX4_shareInRounds, Cond.instanceMethod yX4_shareInRounds, Cond.selects RX4 yX4_shareInRounds yX4_shareInRounds, Cond.code yX4_shareInRounds cX4_shareInRounds 5 none, Cond.methodLink RX4 86 Lib.Math.min.name, Cond.methodLink RX4 77 yX4_fullRounds, Cond.instanceMethod yX4_fullRounds, Cond.selects RX4 yX4_fullRounds yX4_fullRounds, Cond.code yX4_fullRounds cX4_fullRounds 4 (some .int), Cond.methodLink RX4 89 yX3_lack, Cond.methodLink RX4 83 yX3_portion, Cond.instanceMethod yX3_portion, Cond.selects RX3 yX3_portion yX3_portion, Cond.code yX3_portion cX3_portion 1 (some .int), Cond.methodLink RX4 80 yX4_giveRounds, Cond.instanceMethod yX4_giveRounds, Cond.selects RX4 yX4_giveRounds yX4_giveRounds, Cond.code yX4_giveRounds cX4_giveRounds 4 (some .int), Cond.methodLink RX4 67 yX4_shareSmallestFirst, Cond.instanceMethod yX4_shareSmallestFirst, Cond.selects RX4 yX4_shareSmallestFirst yX4_shareSmallestFirst, Cond.code yX4_shareSmallestFirst cX4_shareSmallestFirst 4 none]
def wsL_shortDaysWith_r10 : List Cond := [Cond.methodLink RX2 123 yX4_demandInAll, Cond.methodLink RX2 130 yX2_isShort, Cond.instanceMethod yX2_isShort, Cond.selects RX2 yX2_isShort yX2_isShort, Cond.code yX2_isShort cX2_isShort 2 (some .boolean)]
def wsL_shortDaysWith : List Cond := .codeWith yL_shortDaysWith cL_shortDaysWith 4 (some .int) [(0, 9, 12, 13)] :: ((wsL_shortDaysWith_r1 ++ (wsL_shortDaysWith_r2 ++ (wsL_shortDaysWith_r3 ++ (wsL_shortDaysWith_r4 ++ (wsL_shortDaysWith_r5 ++ (wsL_shortDaysWith_r6 ++ (wsL_shortDaysWith_r7 ++ (wsL_shortDaysWith_r8 ++ (wsL_shortDaysWith_r9 ++ wsL_shortDaysWith_r10))))))))) ++ wsX50 ++ wsX20 ++ wsX10 ++ wsX40 ++ wsX30 ++ (vx_atS RX5 228 "java/lang/IllegalArgumentException" ["java/lang/RuntimeException", "java/lang/Exception"]).filter goodWord)
def wsL_capacityFor_r1 : List Cond := [Cond.classLink RL 13 "java/lang/IllegalArgumentException", Cond.methodLink RL 65 yX5_capacityFor, Cond.instanceMethod yX5_capacityFor, Cond.selects RX5 yX5_capacityFor yX5_capacityFor, Cond.initialized RX5, Cond.code yX5_capacityFor cX5_capacityFor 3 (some .int), Cond.constant RX5 85 (60000), Cond.methodLink RX5 30 yX5_checkRange, Cond.static yX5_checkRange, Cond.code yX5_checkRange cX5_checkRange 3 none, Cond.classLink RX5 224 "java/lang/IllegalArgumentException", Cond.initialized "java/lang/IllegalArgumentException", Cond.methodLink RX5 170 yX5_prepareTrial, Cond.instanceMethod yX5_prepareTrial, Cond.selects RX5 yX5_prepareTrial yX5_prepareTrial, Cond.code yX5_prepareTrial cX5_prepareTrial 2 none, Cond.fieldLink RX5 16 "RainReservoir" "trial" "LRainReservoir$State;", Cond.fieldLink RX5 10 "RainReservoir" "now" "LRainReservoir$State;", Cond.fieldLink RX5 127 "RainReservoir$State" "rainCount" "I", Cond.methodLink RX5 212 yX2_copyFrom, Cond.instanceMethod yX2_copyFrom, Cond.selects RX2 yX2_copyFrom yX2_copyFrom, Cond.initialized RX2, Cond.code yX2_copyFrom cX2_copyFrom 3 none]
def wsL_capacityFor_r2 : List Cond := [Cond.fieldLink RX2 9 "RainReservoir$State" "capacity" "I", Cond.fieldLink RX2 39 "RainReservoir$State" "floor" "I", Cond.fieldLink RX2 42 "RainReservoir$State" "topUp" "I", Cond.fieldLink RX2 45 "RainReservoir$State" "evaporation" "I", Cond.fieldLink RX2 15 "RainReservoir$State" "dryLimit" "I", Cond.fieldLink RX2 48 "RainReservoir$State" "rule" "I", Cond.fieldLink RX2 51 "RainReservoir$State" "roofCount" "I", Cond.fieldLink RX2 20 "RainReservoir$State" "roofs" "[LRainReservoir$Roof;", Cond.fieldLink RX2 28 "RainReservoir$State" "users" "LRainReservoir$Users;", Cond.fieldLink RX2 61 "RainReservoir$State" "rainCount" "I", Cond.fieldLink RX2 32 "RainReservoir$State" "rains" "[I", Cond.methodLink RX2 64 arraycopyName, Cond.native arraycopyName, Cond.static arraycopyName, Cond.initialized "java/lang/System", Cond.fieldLink RX2 70 "RainReservoir$State" "doneCount" "I", Cond.fieldLink RX2 36 "RainReservoir$State" "accounts" "[I", Cond.fieldLink RX2 73 "RainReservoir$State" "level" "I", Cond.fieldLink RX2 76 "RainReservoir$State" "dryDays" "I", Cond.fieldLink RX2 79 "RainReservoir$State" "looseOverflow" "J", Cond.methodLink RX2 54 yX1_copyFrom, Cond.instanceMethod yX1_copyFrom, Cond.selects RX1 yX1_copyFrom yX1_copyFrom, Cond.initialized RX1]
def wsL_capacityFor_r3 : List Cond := [Cond.code yX1_copyFrom cX1_copyFrom 2 none, Cond.fieldLink RX1 7 "RainReservoir$Roof" "area" "I", Cond.fieldLink RX1 13 "RainReservoir$Roof" "yieldPercent" "I", Cond.fieldLink RX1 16 "RainReservoir$Roof" "flush" "I", Cond.fieldLink RX1 19 "RainReservoir$Roof" "gutter" "I", Cond.fieldLink RX1 29 "RainReservoir$Roof" "water" "I", Cond.fieldLink RX1 32 "RainReservoir$Roof" "spilledInAll" "I", Cond.methodLink RX1 25 yX1_set, Cond.instanceMethod yX1_set, Cond.selects RX1 yX1_set yX1_set, Cond.code yX1_set cX1_set 5 none, Cond.methodLink RX1 22 yX1_clearAmounts, Cond.instanceMethod yX1_clearAmounts, Cond.selects RX1 yX1_clearAmounts yX1_clearAmounts, Cond.code yX1_clearAmounts cX1_clearAmounts 1 none, Cond.methodLink RX2 58 yX4_copyFrom, Cond.instanceMethod yX4_copyFrom, Cond.selects RX4 yX4_copyFrom yX4_copyFrom, Cond.initialized RX4, Cond.code yX4_copyFrom cX4_copyFrom 3 none, Cond.fieldLink RX4 22 "RainReservoir$Users" "count" "I", Cond.fieldLink RX4 11 "RainReservoir$Users" "rows" "[LRainReservoir$User;", Cond.methodLink RX4 26 yX3_copyFrom, Cond.instanceMethod yX3_copyFrom]
def wsL_capacityFor_r4 : List Cond := [Cond.selects RX3 yX3_copyFrom yX3_copyFrom, Cond.initialized RX3, Cond.code yX3_copyFrom cX3_copyFrom 2 none, Cond.fieldLink RX3 9 "RainReservoir$User" "demand" "I", Cond.fieldLink RX3 15 "RainReservoir$User" "weight" "I", Cond.fieldLink RX3 25 "RainReservoir$User" "gotLatest" "I", Cond.fieldLink RX3 28 "RainReservoir$User" "gotInAll" "I", Cond.methodLink RX3 21 yX3_set, Cond.instanceMethod yX3_set, Cond.selects RX3 yX3_set yX3_set, Cond.code yX3_set cX3_set 3 none, Cond.methodLink RX3 18 yX3_clearAmounts, Cond.instanceMethod yX3_clearAmounts, Cond.selects RX3 yX3_clearAmounts yX3_clearAmounts, Cond.code yX3_clearAmounts cX3_clearAmounts 1 none, Cond.methodLink RX5 158 yX2_goBack, Cond.instanceMethod yX2_goBack, Cond.selects RX2 yX2_goBack yX2_goBack, Cond.code yX2_goBack cX2_goBack 2 none, Cond.methodLink RX2 83 yX1_clearAmounts, Cond.methodLink RX2 86 yX4_clearAmounts, Cond.instanceMethod yX4_clearAmounts, Cond.selects RX4 yX4_clearAmounts yX4_clearAmounts, Cond.code yX4_clearAmounts cX4_clearAmounts 2 none]
def wsL_capacityFor_r5 : List Cond := [Cond.methodLink RX4 30 yX3_clearAmounts, Cond.methodLink RX5 148 yX2_collect, Cond.instanceMethod yX2_collect, Cond.selects RX2 yX2_collect yX2_collect, Cond.code yX2_collect cX2_collect 11 none, Cond.methodLink RX2 99 yX2_drainWhenDry, Cond.instanceMethod yX2_drainWhenDry, Cond.selects RX2 yX2_drainWhenDry yX2_drainWhenDry, Cond.code yX2_drainWhenDry cX2_drainWhenDry 4 (some .int), Cond.methodLink RX2 134 yX1_drain, Cond.instanceMethod yX1_drain, Cond.selects RX1 yX1_drain yX1_drain, Cond.code yX1_drain cX1_drain 2 (some .int), Cond.methodLink RX2 103 yX1_caught, Cond.instanceMethod yX1_caught, Cond.selects RX1 yX1_caught yX1_caught, Cond.code yX1_caught cX1_caught 2 (some .int), Cond.methodLink RX2 106 yX1_divert, Cond.instanceMethod yX1_divert, Cond.selects RX1 yX1_divert yX1_divert, Cond.code yX1_divert cX1_divert 3 (some .int), Cond.methodLink RX1 35 Lib.Math.min.name, Cond.static Lib.Math.min.name, Cond.initialized "java/lang/Math"]
def wsL_capacityFor_r6 : List Cond := [Cond.code Lib.Math.min.name Lib.Math.min.code 2 (some .int), Cond.methodLink RX2 109 yX1_spill, Cond.instanceMethod yX1_spill, Cond.selects RX1 yX1_spill yX1_spill, Cond.code yX1_spill cX1_spill 3 (some .int), Cond.methodLink RX1 41 Lib.Math.max.name, Cond.static Lib.Math.max.name, Cond.code Lib.Math.max.name Lib.Math.max.code 2 (some .int), Cond.methodLink RX2 112 yX2_put, Cond.instanceMethod yX2_put, Cond.selects RX2 yX2_put yX2_put, Cond.code yX2_put cX2_put 4 none, Cond.methodLink RX5 173 yX5_triedShortDays, Cond.instanceMethod yX5_triedShortDays, Cond.selects RX5 yX5_triedShortDays yX5_triedShortDays, Cond.code yX5_triedShortDays cX5_triedShortDays 3 (some .int), Cond.fieldLink RX5 86 "RainReservoir$State" "capacity" "I", Cond.fieldLink RX5 89 "RainReservoir$State" "floor" "I", Cond.methodLink RX5 242 Lib.Math.min.name, Cond.fieldLink RX5 92 "RainReservoir$State" "topUp" "I", Cond.methodLink RX5 176 yX2_serveAll, Cond.instanceMethod yX2_serveAll, Cond.selects RX2 yX2_serveAll yX2_serveAll, Cond.code yX2_serveAll cX2_serveAll 4 (some .int)]
def wsL_capacityFor_r7 : List Cond := [Cond.methodLink RX2 126 yX2_serve, Cond.instanceMethod yX2_serve, Cond.selects RX2 yX2_serve yX2_serve, Cond.code yX2_serve cX2_serve 5 none, Cond.methodLink RX2 94 Lib.Math.max.name, Cond.methodLink RX2 90 yX2_account, Cond.instanceMethod yX2_account, Cond.selects RX2 yX2_account yX2_account, Cond.code yX2_account cX2_account 3 (some .int), Cond.methodLink RX2 116 yX2_dropAboveCapacity, Cond.instanceMethod yX2_dropAboveCapacity, Cond.selects RX2 yX2_dropAboveCapacity yX2_dropAboveCapacity, Cond.code yX2_dropAboveCapacity cX2_dropAboveCapacity 2 (some .int), Cond.methodLink RX2 120 yX4_handOut, Cond.instanceMethod yX4_handOut, Cond.selects RX4 yX4_handOut yX4_handOut, Cond.code yX4_handOut cX4_handOut 6 (some .int), Cond.fieldLink RX4 45 "RainReservoir$User" "gotLatest" "I", Cond.fieldLink RX4 36 "RainReservoir$User" "gotInAll" "I", Cond.methodLink RX4 48 yX4_demandInAll, Cond.instanceMethod yX4_demandInAll, Cond.selects RX4 yX4_demandInAll yX4_demandInAll, Cond.code yX4_demandInAll cX4_demandInAll 3 (some .int), Cond.fieldLink RX4 33 "RainReservoir$User" "demand" "I"]
def wsL_capacityFor_r8 : List Cond := [Cond.methodLink RX4 52 yX4_shareInOrder, Cond.instanceMethod yX4_shareInOrder, Cond.selects RX4 yX4_shareInOrder yX4_shareInOrder, Cond.code yX4_shareInOrder cX4_shareInOrder 3 none, Cond.fieldLink RX4 18 "RainReservoir$Users" "order" "[I", Cond.methodLink RX4 74 yX4_serveOrder, Cond.instanceMethod yX4_serveOrder, Cond.selects RX4 yX4_serveOrder yX4_serveOrder, Cond.code yX4_serveOrder cX4_serveOrder 4 none, Cond.methodLink RX4 70 yX3_give, Cond.instanceMethod yX3_give, Cond.selects RX3 yX3_give yX3_give, Cond.code yX3_give cX3_give 3 (some .int), Cond.methodLink RX3 35 Lib.Math.min.name, Cond.methodLink RX3 31 yX3_lack, Cond.instanceMethod yX3_lack, Cond.selects RX3 yX3_lack yX3_lack, Cond.code yX3_lack cX3_lack 1 (some .int), Cond.methodLink RX4 56 yX4_share, Cond.instanceMethod yX4_share, Cond.selects RX4 yX4_share yX4_share, Cond.code yX4_share cX4_share 4 none, Cond.methodLink RX4 60 yX4_shareByDemand, Cond.instanceMethod yX4_shareByDemand]
def wsL_capacityFor_r9 : List Cond := [Cond.selects RX4 yX4_shareByDemand yX4_shareByDemand, Cond.code yX4_shareByDemand cX4_shareByDemand 7 none, Cond.methodLink RX4 64 yX4_shareInRounds, Cond.instanceMethod yX4_shareInRounds, Cond.selects RX4 yX4_shareInRounds yX4_shareInRounds, Cond.code yX4_shareInRounds cX4_shareInRounds 5 none, Cond.methodLink RX4 86 Lib.Math.min.name, Cond.methodLink RX4 77 yX4_fullRounds, Cond.instanceMethod yX4_fullRounds, Cond.selects RX4 yX4_fullRounds yX4_fullRounds, Cond.code yX4_fullRounds cX4_fullRounds 4 (some .int), Cond.methodLink RX4 89 yX3_lack, Cond.methodLink RX4 83 yX3_portion, Cond.instanceMethod yX3_portion, Cond.selects RX3 yX3_portion yX3_portion, Cond.code yX3_portion cX3_portion 1 (some .int), Cond.methodLink RX4 80 yX4_giveRounds, Cond.instanceMethod yX4_giveRounds, Cond.selects RX4 yX4_giveRounds yX4_giveRounds, Cond.code yX4_giveRounds cX4_giveRounds 4 (some .int), Cond.methodLink RX4 67 yX4_shareSmallestFirst, Cond.instanceMethod yX4_shareSmallestFirst, Cond.selects RX4 yX4_shareSmallestFirst yX4_shareSmallestFirst, Cond.code yX4_shareSmallestFirst cX4_shareSmallestFirst 4 none]
def wsL_capacityFor_r10 : List Cond := [Cond.methodLink RX2 123 yX4_demandInAll, Cond.methodLink RX2 130 yX2_isShort, Cond.instanceMethod yX2_isShort, Cond.selects RX2 yX2_isShort yX2_isShort, Cond.code yX2_isShort cX2_isShort 2 (some .boolean)]
def wsL_capacityFor : List Cond := .codeWith yL_capacityFor cL_capacityFor 4 (some .int) [(0, 9, 12, 13)] :: ((wsL_capacityFor_r1 ++ (wsL_capacityFor_r2 ++ (wsL_capacityFor_r3 ++ (wsL_capacityFor_r4 ++ (wsL_capacityFor_r5 ++ (wsL_capacityFor_r6 ++ (wsL_capacityFor_r7 ++ (wsL_capacityFor_r8 ++ (wsL_capacityFor_r9 ++ wsL_capacityFor_r10))))))))) ++ wsX50 ++ wsX20 ++ wsX10 ++ wsX40 ++ wsX30 ++ (vx_atS RX5 228 "java/lang/IllegalArgumentException" ["java/lang/RuntimeException", "java/lang/Exception"]).filter goodWord)
def wsL_gutterLoss_r1 : List Cond := [Cond.classLink RL 24 "java/lang/IndexOutOfBoundsException", Cond.methodLink RL 68 yX5_gutterLoss, Cond.instanceMethod yX5_gutterLoss, Cond.selects RX5 yX5_gutterLoss yX5_gutterLoss, Cond.initialized RX5, Cond.code yX5_gutterLoss cX5_gutterLoss 2 (some .long), Cond.fieldLink RX5 10 "RainReservoir" "now" "LRainReservoir$State;", Cond.fieldLink RX5 35 "RainReservoir$State" "roofCount" "I", Cond.fieldLink RX5 16 "RainReservoir" "trial" "LRainReservoir$State;", Cond.fieldLink RX5 49 "RainReservoir$State" "roofs" "[LRainReservoir$Roof;", Cond.fieldLink RX5 186 "RainReservoir$Roof" "spilledInAll" "I", Cond.methodLink RX5 79 yX5_checkIndex, Cond.static yX5_checkIndex, Cond.code yX5_checkIndex cX5_checkIndex 2 none, Cond.classLink RX5 229 "java/lang/IndexOutOfBoundsException", Cond.initialized "java/lang/IndexOutOfBoundsException", Cond.methodLink RX5 170 yX5_prepareTrial, Cond.instanceMethod yX5_prepareTrial, Cond.selects RX5 yX5_prepareTrial yX5_prepareTrial, Cond.code yX5_prepareTrial cX5_prepareTrial 2 none, Cond.fieldLink RX5 127 "RainReservoir$State" "rainCount" "I", Cond.methodLink RX5 212 yX2_copyFrom, Cond.instanceMethod yX2_copyFrom, Cond.selects RX2 yX2_copyFrom yX2_copyFrom]
def wsL_gutterLoss_r2 : List Cond := [Cond.initialized RX2, Cond.code yX2_copyFrom cX2_copyFrom 3 none, Cond.fieldLink RX2 9 "RainReservoir$State" "capacity" "I", Cond.fieldLink RX2 39 "RainReservoir$State" "floor" "I", Cond.fieldLink RX2 42 "RainReservoir$State" "topUp" "I", Cond.fieldLink RX2 45 "RainReservoir$State" "evaporation" "I", Cond.fieldLink RX2 15 "RainReservoir$State" "dryLimit" "I", Cond.fieldLink RX2 48 "RainReservoir$State" "rule" "I", Cond.fieldLink RX2 51 "RainReservoir$State" "roofCount" "I", Cond.fieldLink RX2 20 "RainReservoir$State" "roofs" "[LRainReservoir$Roof;", Cond.fieldLink RX2 28 "RainReservoir$State" "users" "LRainReservoir$Users;", Cond.fieldLink RX2 61 "RainReservoir$State" "rainCount" "I", Cond.fieldLink RX2 32 "RainReservoir$State" "rains" "[I", Cond.methodLink RX2 64 arraycopyName, Cond.native arraycopyName, Cond.static arraycopyName, Cond.initialized "java/lang/System", Cond.fieldLink RX2 70 "RainReservoir$State" "doneCount" "I", Cond.fieldLink RX2 36 "RainReservoir$State" "accounts" "[I", Cond.fieldLink RX2 73 "RainReservoir$State" "level" "I", Cond.fieldLink RX2 76 "RainReservoir$State" "dryDays" "I", Cond.fieldLink RX2 79 "RainReservoir$State" "looseOverflow" "J", Cond.methodLink RX2 54 yX1_copyFrom, Cond.instanceMethod yX1_copyFrom]
def wsL_gutterLoss_r3 : List Cond := [Cond.selects RX1 yX1_copyFrom yX1_copyFrom, Cond.initialized RX1, Cond.code yX1_copyFrom cX1_copyFrom 2 none, Cond.fieldLink RX1 7 "RainReservoir$Roof" "area" "I", Cond.fieldLink RX1 13 "RainReservoir$Roof" "yieldPercent" "I", Cond.fieldLink RX1 16 "RainReservoir$Roof" "flush" "I", Cond.fieldLink RX1 19 "RainReservoir$Roof" "gutter" "I", Cond.fieldLink RX1 29 "RainReservoir$Roof" "water" "I", Cond.fieldLink RX1 32 "RainReservoir$Roof" "spilledInAll" "I", Cond.methodLink RX1 25 yX1_set, Cond.instanceMethod yX1_set, Cond.selects RX1 yX1_set yX1_set, Cond.code yX1_set cX1_set 5 none, Cond.methodLink RX1 22 yX1_clearAmounts, Cond.instanceMethod yX1_clearAmounts, Cond.selects RX1 yX1_clearAmounts yX1_clearAmounts, Cond.code yX1_clearAmounts cX1_clearAmounts 1 none, Cond.methodLink RX2 58 yX4_copyFrom, Cond.instanceMethod yX4_copyFrom, Cond.selects RX4 yX4_copyFrom yX4_copyFrom, Cond.initialized RX4, Cond.code yX4_copyFrom cX4_copyFrom 3 none, Cond.fieldLink RX4 22 "RainReservoir$Users" "count" "I", Cond.fieldLink RX4 11 "RainReservoir$Users" "rows" "[LRainReservoir$User;"]
def wsL_gutterLoss_r4 : List Cond := [Cond.methodLink RX4 26 yX3_copyFrom, Cond.instanceMethod yX3_copyFrom, Cond.selects RX3 yX3_copyFrom yX3_copyFrom, Cond.initialized RX3, Cond.code yX3_copyFrom cX3_copyFrom 2 none, Cond.fieldLink RX3 9 "RainReservoir$User" "demand" "I", Cond.fieldLink RX3 15 "RainReservoir$User" "weight" "I", Cond.fieldLink RX3 25 "RainReservoir$User" "gotLatest" "I", Cond.fieldLink RX3 28 "RainReservoir$User" "gotInAll" "I", Cond.methodLink RX3 21 yX3_set, Cond.instanceMethod yX3_set, Cond.selects RX3 yX3_set yX3_set, Cond.code yX3_set cX3_set 3 none, Cond.methodLink RX3 18 yX3_clearAmounts, Cond.instanceMethod yX3_clearAmounts, Cond.selects RX3 yX3_clearAmounts yX3_clearAmounts, Cond.code yX3_clearAmounts cX3_clearAmounts 1 none, Cond.methodLink RX5 158 yX2_goBack, Cond.instanceMethod yX2_goBack, Cond.selects RX2 yX2_goBack yX2_goBack, Cond.code yX2_goBack cX2_goBack 2 none, Cond.methodLink RX2 83 yX1_clearAmounts, Cond.methodLink RX2 86 yX4_clearAmounts, Cond.instanceMethod yX4_clearAmounts]
def wsL_gutterLoss_r5 : List Cond := [Cond.selects RX4 yX4_clearAmounts yX4_clearAmounts, Cond.code yX4_clearAmounts cX4_clearAmounts 2 none, Cond.methodLink RX4 30 yX3_clearAmounts, Cond.methodLink RX5 148 yX2_collect, Cond.instanceMethod yX2_collect, Cond.selects RX2 yX2_collect yX2_collect, Cond.code yX2_collect cX2_collect 11 none, Cond.methodLink RX2 99 yX2_drainWhenDry, Cond.instanceMethod yX2_drainWhenDry, Cond.selects RX2 yX2_drainWhenDry yX2_drainWhenDry, Cond.code yX2_drainWhenDry cX2_drainWhenDry 4 (some .int), Cond.methodLink RX2 134 yX1_drain, Cond.instanceMethod yX1_drain, Cond.selects RX1 yX1_drain yX1_drain, Cond.code yX1_drain cX1_drain 2 (some .int), Cond.methodLink RX2 103 yX1_caught, Cond.instanceMethod yX1_caught, Cond.selects RX1 yX1_caught yX1_caught, Cond.code yX1_caught cX1_caught 2 (some .int), Cond.methodLink RX2 106 yX1_divert, Cond.instanceMethod yX1_divert, Cond.selects RX1 yX1_divert yX1_divert, Cond.code yX1_divert cX1_divert 3 (some .int), Cond.methodLink RX1 35 Lib.Math.min.name]
def wsL_gutterLoss_r6 : List Cond := [Cond.static Lib.Math.min.name, Cond.initialized "java/lang/Math", Cond.code Lib.Math.min.name Lib.Math.min.code 2 (some .int), Cond.methodLink RX2 109 yX1_spill, Cond.instanceMethod yX1_spill, Cond.selects RX1 yX1_spill yX1_spill, Cond.code yX1_spill cX1_spill 3 (some .int), Cond.methodLink RX1 41 Lib.Math.max.name, Cond.static Lib.Math.max.name, Cond.code Lib.Math.max.name Lib.Math.max.code 2 (some .int), Cond.methodLink RX2 112 yX2_put, Cond.instanceMethod yX2_put, Cond.selects RX2 yX2_put yX2_put, Cond.code yX2_put cX2_put 4 none]
def wsL_gutterLoss : List Cond := .codeWith yL_gutterLoss cL_gutterLoss 4 (some .int) [(0, 8, 11, 24)] :: ((wsL_gutterLoss_r1 ++ (wsL_gutterLoss_r2 ++ (wsL_gutterLoss_r3 ++ (wsL_gutterLoss_r4 ++ (wsL_gutterLoss_r5 ++ wsL_gutterLoss_r6))))) ++ wsX50 ++ wsX20 ++ wsX10 ++ wsX40 ++ wsX30 ++ (vx_atS RX5 233 "java/lang/IndexOutOfBoundsException" ["java/lang/RuntimeException", "java/lang/Exception"]).filter goodWord)
def wsL_append : List Cond := .codeWith yL_append cL_append 4 (some .int) [(0, 9, 12, 13), (0, 9, 15, 15)] :: ([.classLink RL 13 "java/lang/IllegalArgumentException", .classLink RL 15 "java/lang/IllegalStateException", .methodLink RL 71 yX5_append, .instanceMethod yX5_append, .selects RX5 yX5_append yX5_append, .initialized RX5, .code yX5_append cX5_append 2 (some .int), .classLink RX5 39 "java/lang/IllegalStateException", .initialized "java/lang/IllegalStateException", .fieldLink RX5 26 "RainReservoir" "text" "LRainReservoir$RainText;", .fieldLink RX5 189 "RainReservoir$RainText" "length" "I", .fieldLink RX5 194 "RainReservoir$RainText" "bytes" "[B", .methodLink RX5 30 yX5_checkRange, .static yX5_checkRange, .code yX5_checkRange cX5_checkRange 3 none, .classLink RX5 224 "java/lang/IllegalArgumentException", .initialized "java/lang/IllegalArgumentException"] ++ wsX50 ++ wsX00 ++ (vx_atS RX5 43 "java/lang/IllegalStateException" ["java/lang/RuntimeException", "java/lang/Exception"]).filter goodWord ++ (vx_atS RX5 228 "java/lang/IllegalArgumentException" ["java/lang/RuntimeException", "java/lang/Exception"]).filter goodWord)
def wsL_undo_r1 : List Cond := [Cond.classLink RL 15 "java/lang/IllegalStateException", Cond.methodLink RL 74 yX5_undo, Cond.instanceMethod yX5_undo, Cond.selects RX5 yX5_undo yX5_undo, Cond.initialized RX5, Cond.code yX5_undo cX5_undo 1 (some .int), Cond.classLink RX5 39 "java/lang/IllegalStateException", Cond.initialized "java/lang/IllegalStateException", Cond.fieldLink RX5 207 "RainReservoir" "savedCount" "I", Cond.fieldLink RX5 10 "RainReservoir" "now" "LRainReservoir$State;", Cond.fieldLink RX5 19 "RainReservoir" "saved" "[LRainReservoir$State;", Cond.methodLink RX5 212 yX2_copyFrom, Cond.instanceMethod yX2_copyFrom, Cond.selects RX2 yX2_copyFrom yX2_copyFrom, Cond.initialized RX2, Cond.code yX2_copyFrom cX2_copyFrom 3 none, Cond.fieldLink RX2 9 "RainReservoir$State" "capacity" "I", Cond.fieldLink RX2 39 "RainReservoir$State" "floor" "I", Cond.fieldLink RX2 42 "RainReservoir$State" "topUp" "I", Cond.fieldLink RX2 45 "RainReservoir$State" "evaporation" "I", Cond.fieldLink RX2 15 "RainReservoir$State" "dryLimit" "I", Cond.fieldLink RX2 48 "RainReservoir$State" "rule" "I", Cond.fieldLink RX2 51 "RainReservoir$State" "roofCount" "I", Cond.fieldLink RX2 20 "RainReservoir$State" "roofs" "[LRainReservoir$Roof;"]
def wsL_undo_r2 : List Cond := [Cond.fieldLink RX2 28 "RainReservoir$State" "users" "LRainReservoir$Users;", Cond.fieldLink RX2 61 "RainReservoir$State" "rainCount" "I", Cond.fieldLink RX2 32 "RainReservoir$State" "rains" "[I", Cond.methodLink RX2 64 arraycopyName, Cond.native arraycopyName, Cond.static arraycopyName, Cond.initialized "java/lang/System", Cond.fieldLink RX2 70 "RainReservoir$State" "doneCount" "I", Cond.fieldLink RX2 36 "RainReservoir$State" "accounts" "[I", Cond.fieldLink RX2 73 "RainReservoir$State" "level" "I", Cond.fieldLink RX2 76 "RainReservoir$State" "dryDays" "I", Cond.fieldLink RX2 79 "RainReservoir$State" "looseOverflow" "J", Cond.methodLink RX2 54 yX1_copyFrom, Cond.instanceMethod yX1_copyFrom, Cond.selects RX1 yX1_copyFrom yX1_copyFrom, Cond.initialized RX1, Cond.code yX1_copyFrom cX1_copyFrom 2 none, Cond.fieldLink RX1 7 "RainReservoir$Roof" "area" "I", Cond.fieldLink RX1 13 "RainReservoir$Roof" "yieldPercent" "I", Cond.fieldLink RX1 16 "RainReservoir$Roof" "flush" "I", Cond.fieldLink RX1 19 "RainReservoir$Roof" "gutter" "I", Cond.fieldLink RX1 29 "RainReservoir$Roof" "water" "I", Cond.fieldLink RX1 32 "RainReservoir$Roof" "spilledInAll" "I", Cond.methodLink RX1 25 yX1_set]
def wsL_undo_r3 : List Cond := [Cond.instanceMethod yX1_set, Cond.selects RX1 yX1_set yX1_set, Cond.code yX1_set cX1_set 5 none, Cond.methodLink RX1 22 yX1_clearAmounts, Cond.instanceMethod yX1_clearAmounts, Cond.selects RX1 yX1_clearAmounts yX1_clearAmounts, Cond.code yX1_clearAmounts cX1_clearAmounts 1 none, Cond.methodLink RX2 58 yX4_copyFrom, Cond.instanceMethod yX4_copyFrom, Cond.selects RX4 yX4_copyFrom yX4_copyFrom, Cond.initialized RX4, Cond.code yX4_copyFrom cX4_copyFrom 3 none, Cond.fieldLink RX4 22 "RainReservoir$Users" "count" "I", Cond.fieldLink RX4 11 "RainReservoir$Users" "rows" "[LRainReservoir$User;", Cond.methodLink RX4 26 yX3_copyFrom, Cond.instanceMethod yX3_copyFrom, Cond.selects RX3 yX3_copyFrom yX3_copyFrom, Cond.initialized RX3, Cond.code yX3_copyFrom cX3_copyFrom 2 none, Cond.fieldLink RX3 9 "RainReservoir$User" "demand" "I", Cond.fieldLink RX3 15 "RainReservoir$User" "weight" "I", Cond.fieldLink RX3 25 "RainReservoir$User" "gotLatest" "I", Cond.fieldLink RX3 28 "RainReservoir$User" "gotInAll" "I", Cond.methodLink RX3 21 yX3_set]
def wsL_undo_r4 : List Cond := [Cond.instanceMethod yX3_set, Cond.selects RX3 yX3_set yX3_set, Cond.code yX3_set cX3_set 3 none, Cond.methodLink RX3 18 yX3_clearAmounts, Cond.instanceMethod yX3_clearAmounts, Cond.selects RX3 yX3_clearAmounts yX3_clearAmounts, Cond.code yX3_clearAmounts cX3_clearAmounts 1 none]
def wsL_undo : List Cond := .codeWith yL_undo cL_undo 3 (some .int) [(0, 8, 11, 15)] :: ((wsL_undo_r1 ++ (wsL_undo_r2 ++ (wsL_undo_r3 ++ wsL_undo_r4))) ++ wsX50 ++ wsX20 ++ wsX10 ++ wsX40 ++ wsX30 ++ (vx_atS RX5 43 "java/lang/IllegalStateException" ["java/lang/RuntimeException", "java/lang/Exception"]).filter goodWord)
def wsL_law0_r1 : List Cond := [Cond.classLink RL 8 RX5, Cond.instantiable RX5 5, Cond.initialized RX5, Cond.classLink RL 79 RX6, Cond.instantiable RX6 13, Cond.initialized RX6, Cond.arrayClass .long, Cond.methodLink RL 78 yX5_init, Cond.instanceMethod yX5_init, Cond.code yX5_init cX5_init 2 none, Cond.methodLink RX5 1 objectInit, Cond.instanceMethod objectInit, Cond.code objectInit ⟨#[0xb1]⟩ 1 none, Cond.classLink RX5 7 RX2, Cond.instantiable RX2 16, Cond.initialized RX2, Cond.fieldLink RX5 10 "RainReservoir" "now" "LRainReservoir$State;", Cond.fieldLink RX5 16 "RainReservoir" "trial" "LRainReservoir$State;", Cond.fieldLink RX5 19 "RainReservoir" "saved" "[LRainReservoir$State;", Cond.classLink RX5 23 RX0, Cond.instantiable RX0 6, Cond.initialized RX0, Cond.fieldLink RX5 26 "RainReservoir" "text" "LRainReservoir$RainText;", Cond.methodLink RX5 9 yX2_init]
def wsL_law0_r2 : List Cond := [Cond.instanceMethod yX2_init, Cond.code yX2_init cX2_init 2 none, Cond.methodLink RX2 3 objectInit, Cond.fieldLink RX2 9 "RainReservoir$State" "capacity" "I", Cond.fieldLink RX2 15 "RainReservoir$State" "dryLimit" "I", Cond.classLink RX2 18 RX1, Cond.fieldLink RX2 20 "RainReservoir$State" "roofs" "[LRainReservoir$Roof;", Cond.instantiable RX1 6, Cond.initialized RX1, Cond.classLink RX2 25 RX4, Cond.instantiable RX4 3, Cond.initialized RX4, Cond.fieldLink RX2 28 "RainReservoir$State" "users" "LRainReservoir$Users;", Cond.arrayClass .int, Cond.fieldLink RX2 32 "RainReservoir$State" "rains" "[I", Cond.fieldLink RX2 36 "RainReservoir$State" "accounts" "[I", Cond.instanceMethod yX1_init, Cond.code yX1_init cX1_init 1 none, Cond.methodLink RX1 1 objectInit, Cond.methodLink RX2 27 yX4_init, Cond.instanceMethod yX4_init, Cond.code yX4_init cX4_init 2 none, Cond.methodLink RX4 3 objectInit, Cond.classLink RX4 9 RX3]
def wsL_law0_r3 : List Cond := [Cond.fieldLink RX4 11 "RainReservoir$Users" "rows" "[LRainReservoir$User;", Cond.instantiable RX3 4, Cond.initialized RX3, Cond.fieldLink RX4 18 "RainReservoir$Users" "order" "[I", Cond.instanceMethod yX3_init, Cond.code yX3_init cX3_init 1 none, Cond.methodLink RX3 3 objectInit, Cond.methodLink RX5 25 yX0_init, Cond.instanceMethod yX0_init, Cond.code yX0_init cX0_init 1 none, Cond.methodLink RX0 3 objectInit, Cond.arrayClass .byte, Cond.fieldLink RX0 9 "RainReservoir$RainText" "bytes" "[B", Cond.fieldLink RX0 15 "RainReservoir$RainText" "found" "[I", Cond.methodLink RL 81 yX6_init, Cond.instanceMethod yX6_init, Cond.code yX6_init cX6_init 1 none, Cond.methodLink RX6 1 objectInit, Cond.fieldLink RX6 7 "RainReservoirModel" "all" "[I", Cond.fieldLink RX6 13 "RainReservoirModel" "saved" "[I", Cond.fieldLink RX6 16 "RainReservoirModel" "aside" "[I", Cond.fieldLink RX6 19 "RainReservoirModel" "spiltAt" "[J", Cond.fieldLink RX6 23 "RainReservoirModel" "text" "[I", Cond.methodLink RL 82 yL_addRoof]
def wsL_law0_r4 : List Cond := [Cond.static yL_addRoof, Cond.initialized RL, Cond.codeWith yL_addRoof cL_addRoof 7 (some .int) [(0, 14, 17, 13), (0, 14, 21, 15)], Cond.classLink RL 13 "java/lang/IllegalArgumentException", Cond.classLink RL 15 "java/lang/IllegalStateException", Cond.methodLink RL 7 yX5_addRoof, Cond.instanceMethod yX5_addRoof, Cond.selects RX5 yX5_addRoof yX5_addRoof, Cond.code yX5_addRoof cX5_addRoof 5 (some .int), Cond.classLink RX5 39 "java/lang/IllegalStateException", Cond.initialized "java/lang/IllegalStateException", Cond.constant RX5 34 (50000), Cond.fieldLink RX5 35 "RainReservoir$State" "roofCount" "I", Cond.fieldLink RX5 49 "RainReservoir$State" "roofs" "[LRainReservoir$Roof;", Cond.methodLink RX5 30 yX5_checkRange, Cond.static yX5_checkRange, Cond.code yX5_checkRange cX5_checkRange 3 none, Cond.classLink RX5 224 "java/lang/IllegalArgumentException", Cond.initialized "java/lang/IllegalArgumentException", Cond.methodLink RX5 46 yX5_save, Cond.instanceMethod yX5_save, Cond.selects RX5 yX5_save yX5_save, Cond.code yX5_save cX5_save 3 none, Cond.fieldLink RX5 207 "RainReservoir" "savedCount" "I"]
def wsL_law0_r5 : List Cond := [Cond.methodLink RX5 212 yX2_copyFrom, Cond.instanceMethod yX2_copyFrom, Cond.selects RX2 yX2_copyFrom yX2_copyFrom, Cond.code yX2_copyFrom cX2_copyFrom 3 none, Cond.fieldLink RX2 39 "RainReservoir$State" "floor" "I", Cond.fieldLink RX2 42 "RainReservoir$State" "topUp" "I", Cond.fieldLink RX2 45 "RainReservoir$State" "evaporation" "I", Cond.fieldLink RX2 48 "RainReservoir$State" "rule" "I", Cond.fieldLink RX2 51 "RainReservoir$State" "roofCount" "I", Cond.fieldLink RX2 61 "RainReservoir$State" "rainCount" "I", Cond.methodLink RX2 64 arraycopyName, Cond.native arraycopyName, Cond.static arraycopyName, Cond.initialized "java/lang/System", Cond.fieldLink RX2 70 "RainReservoir$State" "doneCount" "I", Cond.fieldLink RX2 73 "RainReservoir$State" "level" "I", Cond.fieldLink RX2 76 "RainReservoir$State" "dryDays" "I", Cond.fieldLink RX2 79 "RainReservoir$State" "looseOverflow" "J", Cond.methodLink RX2 54 yX1_copyFrom, Cond.instanceMethod yX1_copyFrom, Cond.selects RX1 yX1_copyFrom yX1_copyFrom, Cond.code yX1_copyFrom cX1_copyFrom 2 none, Cond.fieldLink RX1 7 "RainReservoir$Roof" "area" "I", Cond.fieldLink RX1 13 "RainReservoir$Roof" "yieldPercent" "I"]
def wsL_law0_r6 : List Cond := [Cond.fieldLink RX1 16 "RainReservoir$Roof" "flush" "I", Cond.fieldLink RX1 19 "RainReservoir$Roof" "gutter" "I", Cond.fieldLink RX1 29 "RainReservoir$Roof" "water" "I", Cond.fieldLink RX1 32 "RainReservoir$Roof" "spilledInAll" "I", Cond.methodLink RX1 25 yX1_set, Cond.instanceMethod yX1_set, Cond.selects RX1 yX1_set yX1_set, Cond.code yX1_set cX1_set 5 none, Cond.methodLink RX1 22 yX1_clearAmounts, Cond.instanceMethod yX1_clearAmounts, Cond.selects RX1 yX1_clearAmounts yX1_clearAmounts, Cond.code yX1_clearAmounts cX1_clearAmounts 1 none, Cond.methodLink RX2 58 yX4_copyFrom, Cond.instanceMethod yX4_copyFrom, Cond.selects RX4 yX4_copyFrom yX4_copyFrom, Cond.code yX4_copyFrom cX4_copyFrom 3 none, Cond.fieldLink RX4 22 "RainReservoir$Users" "count" "I", Cond.methodLink RX4 26 yX3_copyFrom, Cond.instanceMethod yX3_copyFrom, Cond.selects RX3 yX3_copyFrom yX3_copyFrom, Cond.code yX3_copyFrom cX3_copyFrom 2 none, Cond.fieldLink RX3 9 "RainReservoir$User" "demand" "I", Cond.fieldLink RX3 15 "RainReservoir$User" "weight" "I", Cond.fieldLink RX3 25 "RainReservoir$User" "gotLatest" "I"]
def wsL_law0_r7 : List Cond := [Cond.fieldLink RX3 28 "RainReservoir$User" "gotInAll" "I", Cond.methodLink RX3 21 yX3_set, Cond.instanceMethod yX3_set, Cond.selects RX3 yX3_set yX3_set, Cond.code yX3_set cX3_set 3 none, Cond.methodLink RX3 18 yX3_clearAmounts, Cond.instanceMethod yX3_clearAmounts, Cond.selects RX3 yX3_clearAmounts yX3_clearAmounts, Cond.code yX3_clearAmounts cX3_clearAmounts 1 none, Cond.methodLink RX5 53 yX1_set, Cond.methodLink RL 87 yX6_addRoof, Cond.instanceMethod yX6_addRoof, Cond.selects RX6 yX6_addRoof yX6_addRoof, Cond.code yX6_addRoof cX6_addRoof 7 (some .int), Cond.constantLong RX6 44 (500), Cond.constantLong RX6 46 (100), Cond.constantLong RX6 48 (999), Cond.constantLong RX6 50 (50000), Cond.methodLink RX6 40 yX6_in, Cond.static yX6_in, Cond.code yX6_in cX6_in 6 (some .boolean), Cond.methodLink RX6 52 yX6_goes, Cond.instanceMethod yX6_goes, Cond.selects RX6 yX6_goes yX6_goes]
def wsL_law0_r8 : List Cond := [Cond.code yX6_goes cX6_goes 3 (some .boolean), Cond.fieldLink RX6 26 "RainReservoirModel" "thrown" "I", Cond.methodLink RX6 56 yX6_save, Cond.instanceMethod yX6_save, Cond.selects RX6 yX6_save yX6_save, Cond.code yX6_save cX6_save 2 none, Cond.fieldLink RX6 30 "RainReservoirModel" "savedMany" "I", Cond.methodLink RX6 33 yX6_roofAt, Cond.static yX6_roofAt, Cond.code yX6_roofAt cX6_roofAt 2 (some .int), Cond.methodLink RL 88 yX6_thrown, Cond.instanceMethod yX6_thrown, Cond.selects RX6 yX6_thrown yX6_thrown, Cond.code yX6_thrown cX6_thrown 1 (some .int), Cond.methodLink RL 91 yL_addUser, Cond.static yL_addUser, Cond.codeWith yL_addUser cL_addUser 5 (some .int) [(0, 10, 13, 13), (0, 10, 17, 15)], Cond.methodLink RL 17 yX5_addUser, Cond.instanceMethod yX5_addUser, Cond.selects RX5 yX5_addUser yX5_addUser, Cond.code yX5_addUser cX5_addUser 3 (some .int), Cond.fieldLink RX5 59 "RainReservoir$State" "users" "LRainReservoir$Users;", Cond.fieldLink RX5 63 "RainReservoir$Users" "count" "I", Cond.fieldLink RX5 70 "RainReservoir$Users" "rows" "[LRainReservoir$User;"]
def wsL_law0_r9 : List Cond := [Cond.methodLink RX5 74 yX3_set, Cond.methodLink RL 94 yX6_addUser, Cond.instanceMethod yX6_addUser, Cond.selects RX6 yX6_addUser yX6_addUser, Cond.code yX6_addUser cX6_addUser 4 (some .int), Cond.constantLong RX6 59 (9999), Cond.constantLong RX6 61 (9), Cond.methodLink RX6 37 yX6_userAt, Cond.static yX6_userAt, Cond.code yX6_userAt cX6_userAt 2 (some .int), Cond.methodLink RL 95 yL_setDemand, Cond.static yL_setDemand, Cond.codeWith yL_setDemand cL_setDemand 5 (some .int) [(0, 10, 13, 24), (0, 10, 17, 13)], Cond.classLink RL 24 "java/lang/IndexOutOfBoundsException", Cond.methodLink RL 21 yX5_setDemand, Cond.instanceMethod yX5_setDemand, Cond.selects RX5 yX5_setDemand yX5_setDemand, Cond.code yX5_setDemand cX5_setDemand 5 (some .int), Cond.fieldLink RX5 82 "RainReservoir$User" "demand" "I", Cond.methodLink RX5 79 yX5_checkIndex, Cond.static yX5_checkIndex, Cond.code yX5_checkIndex cX5_checkIndex 2 none, Cond.classLink RX5 229 "java/lang/IndexOutOfBoundsException", Cond.initialized "java/lang/IndexOutOfBoundsException"]
def wsL_law0_r10 : List Cond := [Cond.methodLink RL 97 yX6_setDemand, Cond.instanceMethod yX6_setDemand, Cond.selects RX6 yX6_setDemand yX6_setDemand, Cond.code yX6_setDemand cX6_setDemand 4 (some .int), Cond.methodLink RX6 63 yX6_isUser, Cond.instanceMethod yX6_isUser, Cond.selects RX6 yX6_isUser yX6_isUser, Cond.code yX6_isUser cX6_isUser 2 (some .boolean), Cond.methodLink RX6 67 yX6_ofUser, Cond.instanceMethod yX6_ofUser, Cond.selects RX6 yX6_ofUser yX6_ofUser, Cond.code yX6_ofUser cX6_ofUser 3 (some .int), Cond.methodLink RL 98 yL_setReservoir, Cond.static yL_setReservoir, Cond.codeWith yL_setReservoir cL_setReservoir 6 (some .int) [(0, 12, 15, 13)], Cond.methodLink RL 26 yX5_setReservoir, Cond.instanceMethod yX5_setReservoir, Cond.selects RX5 yX5_setReservoir yX5_setReservoir, Cond.code yX5_setReservoir cX5_setReservoir 5 (some .int), Cond.constant RX5 85 (60000), Cond.fieldLink RX5 86 "RainReservoir$State" "capacity" "I", Cond.fieldLink RX5 89 "RainReservoir$State" "floor" "I", Cond.fieldLink RX5 92 "RainReservoir$State" "topUp" "I", Cond.fieldLink RX5 95 "RainReservoir$State" "looseOverflow" "J"]
def wsL_law0_r11 : List Cond := [Cond.methodLink RX5 99 yX2_dropAboveCapacity, Cond.instanceMethod yX2_dropAboveCapacity, Cond.selects RX2 yX2_dropAboveCapacity yX2_dropAboveCapacity, Cond.code yX2_dropAboveCapacity cX2_dropAboveCapacity 2 (some .int), Cond.methodLink RX2 94 Lib.Math.max.name, Cond.static Lib.Math.max.name, Cond.initialized "java/lang/Math", Cond.code Lib.Math.max.name Lib.Math.max.code 2 (some .int), Cond.methodLink RL 101 yX6_setReservoir, Cond.instanceMethod yX6_setReservoir, Cond.selects RX6 yX6_setReservoir yX6_setReservoir, Cond.code yX6_setReservoir cX6_setReservoir 5 (some .int), Cond.constantLong RX6 70 (60000), Cond.methodLink RL 102 yL_setWays, Cond.static yL_setWays, Cond.codeWith yL_setWays cL_setWays 6 (some .int) [(0, 12, 15, 13)], Cond.methodLink RL 30 yX5_setWays, Cond.instanceMethod yX5_setWays, Cond.selects RX5 yX5_setWays yX5_setWays, Cond.code yX5_setWays cX5_setWays 5 (some .int), Cond.fieldLink RX5 103 "RainReservoir$State" "rule" "I", Cond.fieldLink RX5 106 "RainReservoir$State" "evaporation" "I", Cond.fieldLink RX5 109 "RainReservoir$State" "dryLimit" "I", Cond.methodLink RL 104 yX6_setWays]
def wsL_law0_r12 : List Cond := [Cond.instanceMethod yX6_setWays, Cond.selects RX6 yX6_setWays yX6_setWays, Cond.code yX6_setWays cX6_setWays 5 (some .int), Cond.constantLong RX6 72 (20), Cond.constantLong RX6 74 (3), Cond.methodLink RL 105 yL_setting, Cond.static yL_setting, Cond.codeWith yL_setting cL_setting 4 (some .int) [(0, 9, 12, 13)], Cond.methodLink RL 33 yX5_setting, Cond.instanceMethod yX5_setting, Cond.selects RX5 yX5_setting yX5_setting, Cond.code yX5_setting cX5_setting 2 (some .int), Cond.methodLink RX5 112 yX2_settingValue, Cond.instanceMethod yX2_settingValue, Cond.selects RX2 yX2_settingValue yX2_settingValue, Cond.code yX2_settingValue cX2_settingValue 2 (some .int), Cond.fieldLink RX2 87 "RainReservoir$Users" "count" "I", Cond.methodLink RL 108 yX6_setting, Cond.instanceMethod yX6_setting, Cond.selects RX6 yX6_setting yX6_setting, Cond.code yX6_setting cX6_setting 2 (some .int), Cond.constantLong RX6 76 (11), Cond.methodLink RL 109 yL_roof, Cond.static yL_roof]
def wsL_law0_r13 : List Cond := [Cond.codeWith yL_roof cL_roof 5 (some .int) [(0, 10, 13, 24), (0, 10, 17, 13)], Cond.methodLink RL 37 yX5_roof, Cond.instanceMethod yX5_roof, Cond.selects RX5 yX5_roof yX5_roof, Cond.code yX5_roof cX5_roof 3 (some .int), Cond.methodLink RX5 116 yX1_value, Cond.instanceMethod yX1_value, Cond.selects RX1 yX1_value yX1_value, Cond.code yX1_value cX1_value 2 (some .int), Cond.methodLink RL 111 yX6_roof, Cond.instanceMethod yX6_roof, Cond.selects RX6 yX6_roof yX6_roof, Cond.code yX6_roof cX6_roof 3 (some .int), Cond.constantLong RX6 81 (4), Cond.methodLink RX6 78 yX6_isRoof, Cond.instanceMethod yX6_isRoof, Cond.selects RX6 yX6_isRoof yX6_isRoof, Cond.code yX6_isRoof cX6_isRoof 2 (some .boolean), Cond.methodLink RX6 83 yX6_ofRoof, Cond.instanceMethod yX6_ofRoof, Cond.selects RX6 yX6_ofRoof yX6_ofRoof, Cond.code yX6_ofRoof cX6_ofRoof 3 (some .int), Cond.methodLink RL 112 yL_user, Cond.static yL_user]
def wsL_law0_r14 : List Cond := [Cond.codeWith yL_user cL_user 5 (some .int) [(0, 10, 13, 24), (0, 10, 17, 13)], Cond.methodLink RL 40 yX5_user, Cond.instanceMethod yX5_user, Cond.selects RX5 yX5_user yX5_user, Cond.code yX5_user cX5_user 3 (some .int), Cond.methodLink RX5 119 yX3_value, Cond.instanceMethod yX3_value, Cond.selects RX3 yX3_value yX3_value, Cond.code yX3_value cX3_value 2 (some .int), Cond.methodLink RL 114 yX6_user, Cond.instanceMethod yX6_user, Cond.selects RX6 yX6_user yX6_user, Cond.code yX6_user cX6_user 3 (some .int), Cond.methodLink RL 115 yL_addRain, Cond.static yL_addRain, Cond.codeWith yL_addRain cL_addRain 5 (some .int) [(0, 10, 13, 13), (0, 10, 17, 15)], Cond.methodLink RL 43 yX5_addRain, Cond.instanceMethod yX5_addRain, Cond.selects RX5 yX5_addRain yX5_addRain, Cond.code yX5_addRain cX5_addRain 4 (some .int), Cond.fieldLink RX5 127 "RainReservoir$State" "rainCount" "I", Cond.methodLink RX5 120 yX5_checkRoomForDays, Cond.instanceMethod yX5_checkRoomForDays, Cond.selects RX5 yX5_checkRoomForDays yX5_checkRoomForDays]
def wsL_law0_r15 : List Cond := [Cond.code yX5_checkRoomForDays cX5_checkRoomForDays 2 none, Cond.methodLink RX5 124 yX2_putRain, Cond.instanceMethod yX2_putRain, Cond.selects RX2 yX2_putRain yX2_putRain, Cond.code yX2_putRain cX2_putRain 2 none, Cond.methodLink RL 117 yX6_addRain, Cond.instanceMethod yX6_addRain, Cond.selects RX6 yX6_addRain yX6_addRain, Cond.code yX6_addRain cX6_addRain 4 (some .int), Cond.constantLong RX6 86 (200), Cond.methodLink RX6 88 yX6_rains, Cond.instanceMethod yX6_rains, Cond.selects RX6 yX6_rains yX6_rains, Cond.code yX6_rains cX6_rains 4 none, Cond.methodLink RL 118 yL_addRandomRain, Cond.static yL_addRandomRain, Cond.codeWith yL_addRandomRain cL_addRandomRain 7 (some .int) [(0, 14, 17, 13), (0, 14, 21, 15)], Cond.methodLink RL 46 yX5_addRandomRain, Cond.instanceMethod yX5_addRandomRain, Cond.selects RX5 yX5_addRandomRain yX5_addRandomRain, Cond.code yX5_addRandomRain cX5_addRandomRain 9 (some .int), Cond.constant RX5 130 (999999), Cond.constantLong RX5 135 (65536), Cond.constantLong RX5 137 (100)]
def wsL_law0_r16 : List Cond := [Cond.methodLink RX5 131 yX5_nextRandom, Cond.static yX5_nextRandom, Cond.code yX5_nextRandom cX5_nextRandom 2 (some .long), Cond.constantLong RX5 236 (1103515245), Cond.constantLong RX5 238 (12345), Cond.constantLong RX5 240 (2147483648), Cond.methodLink RL 120 yX6_addRandomRain, Cond.instanceMethod yX6_addRandomRain, Cond.selects RX6 yX6_addRandomRain yX6_addRandomRain, Cond.code yX6_addRandomRain cX6_addRandomRain 8 (some .int), Cond.constantLong RX6 104 (999999), Cond.fieldLink RX6 94 "RainReservoirModel" "s" "J", Cond.methodLink RX6 106 yX6_draws, Cond.instanceMethod yX6_draws, Cond.selects RX6 yX6_draws yX6_draws, Cond.code yX6_draws cX6_draws 2 (some .int), Cond.constantLong RX6 92 (1103515245), Cond.constantLong RX6 98 (12345), Cond.constantLong RX6 100 (2147483648), Cond.constantLong RX6 102 (65536), Cond.methodLink RL 121 yL_rain, Cond.static yL_rain, Cond.codeWith yL_rain cL_rain 4 (some .int) [(0, 9, 12, 24)], Cond.methodLink RL 49 yX5_rain]
def wsL_law0_r17 : List Cond := [Cond.instanceMethod yX5_rain, Cond.selects RX5 yX5_rain yX5_rain, Cond.code yX5_rain cX5_rain 2 (some .int), Cond.fieldLink RX5 139 "RainReservoir$State" "rains" "[I", Cond.methodLink RL 123 yX6_rain, Cond.instanceMethod yX6_rain, Cond.selects RX6 yX6_rain yX6_rain, Cond.code yX6_rain cX6_rain 2 (some .int), Cond.methodLink RL 124 yL_run, Cond.static yL_run, Cond.codeWith yL_run cL_run 4 (some .int) [(0, 9, 12, 13), (0, 9, 15, 15)], Cond.methodLink RL 52 yX5_run, Cond.instanceMethod yX5_run, Cond.selects RX5 yX5_run yX5_run, Cond.code yX5_run cX5_run 5 (some .int), Cond.fieldLink RX5 143 "RainReservoir$State" "doneCount" "I", Cond.methodLink RX5 148 yX2_collect, Cond.instanceMethod yX2_collect, Cond.selects RX2 yX2_collect yX2_collect, Cond.code yX2_collect cX2_collect 11 none, Cond.methodLink RX2 99 yX2_drainWhenDry, Cond.instanceMethod yX2_drainWhenDry, Cond.selects RX2 yX2_drainWhenDry yX2_drainWhenDry, Cond.code yX2_drainWhenDry cX2_drainWhenDry 4 (some .int)]
def wsL_law0_r18 : List Cond := [Cond.methodLink RX2 134 yX1_drain, Cond.instanceMethod yX1_drain, Cond.selects RX1 yX1_drain yX1_drain, Cond.code yX1_drain cX1_drain 2 (some .int), Cond.methodLink RX2 103 yX1_caught, Cond.instanceMethod yX1_caught, Cond.selects RX1 yX1_caught yX1_caught, Cond.code yX1_caught cX1_caught 2 (some .int), Cond.methodLink RX2 106 yX1_divert, Cond.instanceMethod yX1_divert, Cond.selects RX1 yX1_divert yX1_divert, Cond.code yX1_divert cX1_divert 3 (some .int), Cond.methodLink RX1 35 Lib.Math.min.name, Cond.static Lib.Math.min.name, Cond.code Lib.Math.min.name Lib.Math.min.code 2 (some .int), Cond.methodLink RX2 109 yX1_spill, Cond.instanceMethod yX1_spill, Cond.selects RX1 yX1_spill yX1_spill, Cond.code yX1_spill cX1_spill 3 (some .int), Cond.methodLink RX1 41 Lib.Math.max.name, Cond.methodLink RX2 112 yX2_put, Cond.instanceMethod yX2_put, Cond.selects RX2 yX2_put yX2_put, Cond.code yX2_put cX2_put 4 none]
def wsL_law0_r19 : List Cond := [Cond.methodLink RX5 151 yX2_serve, Cond.instanceMethod yX2_serve, Cond.selects RX2 yX2_serve yX2_serve, Cond.code yX2_serve cX2_serve 5 none, Cond.methodLink RX2 90 yX2_account, Cond.instanceMethod yX2_account, Cond.selects RX2 yX2_account yX2_account, Cond.code yX2_account cX2_account 3 (some .int), Cond.methodLink RX2 116 yX2_dropAboveCapacity, Cond.methodLink RX2 120 yX4_handOut, Cond.instanceMethod yX4_handOut, Cond.selects RX4 yX4_handOut yX4_handOut, Cond.code yX4_handOut cX4_handOut 6 (some .int), Cond.fieldLink RX4 45 "RainReservoir$User" "gotLatest" "I", Cond.fieldLink RX4 36 "RainReservoir$User" "gotInAll" "I", Cond.methodLink RX4 48 yX4_demandInAll, Cond.instanceMethod yX4_demandInAll, Cond.selects RX4 yX4_demandInAll yX4_demandInAll, Cond.code yX4_demandInAll cX4_demandInAll 3 (some .int), Cond.fieldLink RX4 33 "RainReservoir$User" "demand" "I", Cond.methodLink RX4 52 yX4_shareInOrder, Cond.instanceMethod yX4_shareInOrder, Cond.selects RX4 yX4_shareInOrder yX4_shareInOrder, Cond.code yX4_shareInOrder cX4_shareInOrder 3 none]
def wsL_law0_r20 : List Cond := [Cond.methodLink RX4 74 yX4_serveOrder, Cond.instanceMethod yX4_serveOrder, Cond.selects RX4 yX4_serveOrder yX4_serveOrder, Cond.code yX4_serveOrder cX4_serveOrder 4 none, Cond.methodLink RX4 70 yX3_give, Cond.instanceMethod yX3_give, Cond.selects RX3 yX3_give yX3_give, Cond.code yX3_give cX3_give 3 (some .int), Cond.methodLink RX3 35 Lib.Math.min.name, Cond.methodLink RX3 31 yX3_lack, Cond.instanceMethod yX3_lack, Cond.selects RX3 yX3_lack yX3_lack, Cond.code yX3_lack cX3_lack 1 (some .int), Cond.methodLink RX4 56 yX4_share, Cond.instanceMethod yX4_share, Cond.selects RX4 yX4_share yX4_share, Cond.code yX4_share cX4_share 4 none, Cond.methodLink RX4 60 yX4_shareByDemand, Cond.instanceMethod yX4_shareByDemand, Cond.selects RX4 yX4_shareByDemand yX4_shareByDemand, Cond.code yX4_shareByDemand cX4_shareByDemand 7 none, Cond.methodLink RX4 64 yX4_shareInRounds, Cond.instanceMethod yX4_shareInRounds, Cond.selects RX4 yX4_shareInRounds yX4_shareInRounds]
def wsL_law0_r21 : List Cond := [Cond.code yX4_shareInRounds cX4_shareInRounds 5 none, Cond.methodLink RX4 86 Lib.Math.min.name, Cond.methodLink RX4 77 yX4_fullRounds, Cond.instanceMethod yX4_fullRounds, Cond.selects RX4 yX4_fullRounds yX4_fullRounds, Cond.code yX4_fullRounds cX4_fullRounds 4 (some .int), Cond.methodLink RX4 89 yX3_lack, Cond.methodLink RX4 83 yX3_portion, Cond.instanceMethod yX3_portion, Cond.selects RX3 yX3_portion yX3_portion, Cond.code yX3_portion cX3_portion 1 (some .int), Cond.methodLink RX4 80 yX4_giveRounds, Cond.instanceMethod yX4_giveRounds, Cond.selects RX4 yX4_giveRounds yX4_giveRounds, Cond.code yX4_giveRounds cX4_giveRounds 4 (some .int), Cond.methodLink RX4 67 yX4_shareSmallestFirst, Cond.instanceMethod yX4_shareSmallestFirst, Cond.selects RX4 yX4_shareSmallestFirst yX4_shareSmallestFirst, Cond.code yX4_shareSmallestFirst cX4_shareSmallestFirst 4 none, Cond.methodLink RX2 123 yX4_demandInAll, Cond.methodLink RX5 154 yX2_isShort, Cond.instanceMethod yX2_isShort, Cond.selects RX2 yX2_isShort yX2_isShort, Cond.code yX2_isShort cX2_isShort 2 (some .boolean)]
def wsL_law0_r22 : List Cond := [Cond.methodLink RL 126 yX6_run, Cond.instanceMethod yX6_run, Cond.selects RX6 yX6_run yX6_run, Cond.code yX6_run cX6_run 5 (some .int), Cond.methodLink RX6 147 yX6_does, Cond.instanceMethod yX6_does, Cond.selects RX6 yX6_does yX6_does, Cond.code yX6_does cX6_does 7 (some .boolean), Cond.fieldLink RX6 110 "RainReservoirModel" "today" "I", Cond.methodLink RX6 116 yX6_drains, Cond.instanceMethod yX6_drains, Cond.selects RX6 yX6_drains yX6_drains, Cond.code yX6_drains cX6_drains 2 none, Cond.methodLink RX6 113 yX6_tells, Cond.instanceMethod yX6_tells, Cond.selects RX6 yX6_tells yX6_tells, Cond.code yX6_tells cX6_tells 3 none, Cond.methodLink RX6 119 yX6_flows, Cond.instanceMethod yX6_flows, Cond.selects RX6 yX6_flows yX6_flows, Cond.code yX6_flows cX6_flows 7 (some .int), Cond.methodLink RX6 122 yX6_shares, Cond.instanceMethod yX6_shares, Cond.selects RX6 yX6_shares yX6_shares]
def wsL_law0_r23 : List Cond := [Cond.code yX6_shares cX6_shares 5 (some .boolean), Cond.fieldLink RX6 125 "RainReservoirModel" "left" "I", Cond.methodLink RX6 128 yX6_demands, Cond.instanceMethod yX6_demands, Cond.selects RX6 yX6_demands yX6_demands, Cond.code yX6_demands cX6_demands 3 (some .int), Cond.methodLink RX6 132 yX6_inProportion, Cond.instanceMethod yX6_inProportion, Cond.selects RX6 yX6_inProportion yX6_inProportion, Cond.code yX6_inProportion cX6_inProportion 4 none, Cond.methodLink RX6 144 yX6_gives, Cond.instanceMethod yX6_gives, Cond.selects RX6 yX6_gives yX6_gives, Cond.code yX6_gives cX6_gives 5 none, Cond.methodLink RX6 135 yX6_byOrder, Cond.instanceMethod yX6_byOrder, Cond.selects RX6 yX6_byOrder yX6_byOrder, Cond.code yX6_byOrder cX6_byOrder 2 none, Cond.methodLink RX6 138 yX6_byWeights, Cond.instanceMethod yX6_byWeights, Cond.selects RX6 yX6_byWeights yX6_byWeights, Cond.code yX6_byWeights cX6_byWeights 2 none, Cond.methodLink RX6 141 yX6_smallestFirst, Cond.instanceMethod yX6_smallestFirst]
def wsL_law0_r24 : List Cond := [Cond.selects RX6 yX6_smallestFirst yX6_smallestFirst, Cond.code yX6_smallestFirst cX6_smallestFirst 6 none, Cond.methodLink RL 127 yX5_restart, Cond.instanceMethod yX5_restart, Cond.selects RX5 yX5_restart yX5_restart, Cond.code yX5_restart cX5_restart 2 (some .int), Cond.methodLink RX5 158 yX2_goBack, Cond.instanceMethod yX2_goBack, Cond.selects RX2 yX2_goBack yX2_goBack, Cond.code yX2_goBack cX2_goBack 2 none, Cond.methodLink RX2 83 yX1_clearAmounts, Cond.methodLink RX2 86 yX4_clearAmounts, Cond.instanceMethod yX4_clearAmounts, Cond.selects RX4 yX4_clearAmounts yX4_clearAmounts, Cond.code yX4_clearAmounts cX4_clearAmounts 2 none, Cond.methodLink RX4 30 yX3_clearAmounts, Cond.methodLink RL 130 yX6_restart, Cond.instanceMethod yX6_restart, Cond.selects RX6 yX6_restart yX6_restart, Cond.code yX6_restart cX6_restart 2 (some .int), Cond.methodLink RX6 151 yX6_goesBack, Cond.instanceMethod yX6_goesBack, Cond.selects RX6 yX6_goesBack yX6_goesBack, Cond.code yX6_goesBack cX6_goesBack 2 none]
def wsL_law0_r25 : List Cond := [Cond.methodLink RL 131 yL_day, Cond.static yL_day, Cond.codeWith yL_day cL_day 5 (some .int) [(0, 10, 13, 24), (0, 10, 17, 13)], Cond.methodLink RL 55 yX5_day, Cond.instanceMethod yX5_day, Cond.selects RX5 yX5_day yX5_day, Cond.code yX5_day cX5_day 3 (some .int), Cond.methodLink RX5 161 yX2_account, Cond.methodLink RL 133 yX6_day, Cond.instanceMethod yX6_day, Cond.selects RX6 yX6_day yX6_day, Cond.code yX6_day cX6_day 3 (some .int), Cond.methodLink RL 134 yL_sum, Cond.static yL_sum, Cond.codeWith yL_sum cL_sum 4 (some .int) [(0, 8, 11, 13)], Cond.methodLink RL 58 yX5_sum, Cond.instanceMethod yX5_sum, Cond.selects RX5 yX5_sum yX5_sum, Cond.code yX5_sum cX5_sum 5 (some .long), Cond.methodLink RL 136 yX6_sum, Cond.instanceMethod yX6_sum, Cond.selects RX6 yX6_sum yX6_sum, Cond.code yX6_sum cX6_sum 2 (some .long), Cond.methodLink RX6 154 yX6_sumOf]
def wsL_law0_r26 : List Cond := [Cond.instanceMethod yX6_sumOf, Cond.selects RX6 yX6_sumOf yX6_sumOf, Cond.code yX6_sumOf cX6_sumOf 5 (some .long), Cond.methodLink RL 137 yX5_reliability, Cond.instanceMethod yX5_reliability, Cond.selects RX5 yX5_reliability yX5_reliability, Cond.code yX5_reliability cX5_reliability 4 (some .double), Cond.methodLink RL 141 yX6_reliability, Cond.instanceMethod yX6_reliability, Cond.selects RX6 yX6_reliability yX6_reliability, Cond.code yX6_reliability cX6_reliability 3 (some .double), Cond.methodLink RX6 158 yX6_wasShort, Cond.instanceMethod yX6_wasShort, Cond.selects RX6 yX6_wasShort yX6_wasShort, Cond.code yX6_wasShort cX6_wasShort 2 (some .boolean), Cond.methodLink RL 142 yX5_longestShortage, Cond.instanceMethod yX5_longestShortage, Cond.selects RX5 yX5_longestShortage yX5_longestShortage, Cond.code yX5_longestShortage cX5_longestShortage 4 (some .int), Cond.methodLink RX5 165 Lib.Math.max.name, Cond.methodLink RL 145 yX6_longestShortage, Cond.instanceMethod yX6_longestShortage, Cond.selects RX6 yX6_longestShortage yX6_longestShortage, Cond.code yX6_longestShortage cX6_longestShortage 4 (some .int)]
def wsL_law0_r27 : List Cond := [Cond.methodLink RL 146 yL_shortDaysWith, Cond.static yL_shortDaysWith, Cond.codeWith yL_shortDaysWith cL_shortDaysWith 4 (some .int) [(0, 9, 12, 13)], Cond.methodLink RL 62 yX5_shortDaysWith, Cond.instanceMethod yX5_shortDaysWith, Cond.selects RX5 yX5_shortDaysWith yX5_shortDaysWith, Cond.code yX5_shortDaysWith cX5_shortDaysWith 2 (some .int), Cond.methodLink RX5 170 yX5_prepareTrial, Cond.instanceMethod yX5_prepareTrial, Cond.selects RX5 yX5_prepareTrial yX5_prepareTrial, Cond.code yX5_prepareTrial cX5_prepareTrial 2 none, Cond.methodLink RX5 173 yX5_triedShortDays, Cond.instanceMethod yX5_triedShortDays, Cond.selects RX5 yX5_triedShortDays yX5_triedShortDays, Cond.code yX5_triedShortDays cX5_triedShortDays 3 (some .int), Cond.methodLink RX5 242 Lib.Math.min.name, Cond.methodLink RX5 176 yX2_serveAll, Cond.instanceMethod yX2_serveAll, Cond.selects RX2 yX2_serveAll yX2_serveAll, Cond.code yX2_serveAll cX2_serveAll 4 (some .int), Cond.methodLink RX2 126 yX2_serve, Cond.methodLink RX2 130 yX2_isShort, Cond.methodLink RL 148 yX6_shortDaysWith, Cond.instanceMethod yX6_shortDaysWith]
def wsL_law0_r28 : List Cond := [Cond.selects RX6 yX6_shortDaysWith yX6_shortDaysWith, Cond.code yX6_shortDaysWith cX6_shortDaysWith 2 (some .int), Cond.methodLink RX6 167 yX6_lays, Cond.instanceMethod yX6_lays, Cond.selects RX6 yX6_lays yX6_lays, Cond.code yX6_lays cX6_lays 2 none, Cond.methodLink RX6 170 yX6_shortWith, Cond.instanceMethod yX6_shortWith, Cond.selects RX6 yX6_shortWith yX6_shortWith, Cond.code yX6_shortWith cX6_shortWith 3 (some .int), Cond.methodLink RX6 161 yX6_shortDays, Cond.instanceMethod yX6_shortDays, Cond.selects RX6 yX6_shortDays yX6_shortDays, Cond.code yX6_shortDays cX6_shortDays 2 (some .int), Cond.methodLink RX6 164 yX6_takesBack, Cond.instanceMethod yX6_takesBack, Cond.selects RX6 yX6_takesBack yX6_takesBack, Cond.code yX6_takesBack cX6_takesBack 2 none, Cond.methodLink RL 149 yL_capacityFor, Cond.static yL_capacityFor, Cond.codeWith yL_capacityFor cL_capacityFor 4 (some .int) [(0, 9, 12, 13)], Cond.methodLink RL 65 yX5_capacityFor, Cond.instanceMethod yX5_capacityFor, Cond.selects RX5 yX5_capacityFor yX5_capacityFor]
def wsL_law0_r29 : List Cond := [Cond.code yX5_capacityFor cX5_capacityFor 3 (some .int), Cond.methodLink RL 151 yX6_capacityFor, Cond.instanceMethod yX6_capacityFor, Cond.selects RX6 yX6_capacityFor yX6_capacityFor, Cond.code yX6_capacityFor cX6_capacityFor 3 (some .int), Cond.constant RX6 173 (60000), Cond.methodLink RL 152 yX5_bestRule, Cond.instanceMethod yX5_bestRule, Cond.selects RX5 yX5_bestRule yX5_bestRule, Cond.code yX5_bestRule cX5_bestRule 5 (some .int), Cond.methodLink RX5 179 yX4_greatestLack, Cond.instanceMethod yX4_greatestLack, Cond.selects RX4 yX4_greatestLack yX4_greatestLack, Cond.code yX4_greatestLack cX4_greatestLack 4 (some .int), Cond.methodLink RX4 39 Lib.Math.max.name, Cond.methodLink RL 155 yX6_bestRule, Cond.instanceMethod yX6_bestRule, Cond.selects RX6 yX6_bestRule yX6_bestRule, Cond.code yX6_bestRule cX6_bestRule 7 (some .int), Cond.methodLink RX6 174 yX6_mostLack, Cond.instanceMethod yX6_mostLack, Cond.selects RX6 yX6_mostLack yX6_mostLack, Cond.code yX6_mostLack cX6_mostLack 4 (some .int), Cond.methodLink RL 156 yX5_sustainable]
def wsL_law0_r30 : List Cond := [Cond.instanceMethod yX5_sustainable, Cond.selects RX5 yX5_sustainable yX5_sustainable, Cond.code yX5_sustainable cX5_sustainable 2 (some .int), Cond.methodLink RX5 182 yX4_scaleDemands, Cond.instanceMethod yX4_scaleDemands, Cond.selects RX4 yX4_scaleDemands yX4_scaleDemands, Cond.code yX4_scaleDemands cX4_scaleDemands 4 none, Cond.methodLink RL 159 yX6_sustainable, Cond.instanceMethod yX6_sustainable, Cond.selects RX6 yX6_sustainable yX6_sustainable, Cond.code yX6_sustainable cX6_sustainable 3 (some .int), Cond.methodLink RL 160 yL_gutterLoss, Cond.static yL_gutterLoss, Cond.codeWith yL_gutterLoss cL_gutterLoss 4 (some .int) [(0, 8, 11, 24)], Cond.methodLink RL 68 yX5_gutterLoss, Cond.instanceMethod yX5_gutterLoss, Cond.selects RX5 yX5_gutterLoss yX5_gutterLoss, Cond.code yX5_gutterLoss cX5_gutterLoss 2 (some .long), Cond.fieldLink RX5 186 "RainReservoir$Roof" "spilledInAll" "I", Cond.methodLink RL 162 yX6_gutterLoss, Cond.instanceMethod yX6_gutterLoss, Cond.selects RX6 yX6_gutterLoss yX6_gutterLoss, Cond.code yX6_gutterLoss cX6_gutterLoss 3 (some .long), Cond.methodLink RL 163 yL_append]
def wsL_law0_r31 : List Cond := [Cond.static yL_append, Cond.codeWith yL_append cL_append 4 (some .int) [(0, 9, 12, 13), (0, 9, 15, 15)], Cond.methodLink RL 71 yX5_append, Cond.instanceMethod yX5_append, Cond.selects RX5 yX5_append yX5_append, Cond.code yX5_append cX5_append 2 (some .int), Cond.fieldLink RX5 189 "RainReservoir$RainText" "length" "I", Cond.fieldLink RX5 194 "RainReservoir$RainText" "bytes" "[B", Cond.methodLink RL 165 yX6_append, Cond.instanceMethod yX6_append, Cond.selects RX6 yX6_append yX6_append, Cond.code yX6_append cX6_append 2 (some .int), Cond.constantLong RX6 177 (127), Cond.fieldLink RX6 179 "RainReservoirModel" "textLong" "I", Cond.methodLink RL 166 yX5_clearText, Cond.instanceMethod yX5_clearText, Cond.selects RX5 yX5_clearText yX5_clearText, Cond.code yX5_clearText cX5_clearText 2 (some .int), Cond.methodLink RL 169 yX6_clearText, Cond.instanceMethod yX6_clearText, Cond.selects RX6 yX6_clearText yX6_clearText, Cond.code yX6_clearText cX6_clearText 2 (some .int), Cond.methodLink RL 170 yX5_parse, Cond.instanceMethod yX5_parse]
def wsL_law0_r32 : List Cond := [Cond.selects RX5 yX5_parse yX5_parse, Cond.code yX5_parse cX5_parse 3 (some .int), Cond.fieldLink RX5 201 "RainReservoir$RainText" "foundCount" "I", Cond.fieldLink RX5 204 "RainReservoir$RainText" "found" "[I", Cond.methodLink RX5 198 yX0_readItems, Cond.instanceMethod yX0_readItems, Cond.selects RX0 yX0_readItems yX0_readItems, Cond.code yX0_readItems cX0_readItems 4 (some .int), Cond.fieldLink RX0 19 "RainReservoir$RainText" "at" "I", Cond.fieldLink RX0 23 "RainReservoir$RainText" "foundCount" "I", Cond.fieldLink RX0 26 "RainReservoir$RainText" "length" "I", Cond.methodLink RX0 29 yX0_readItem, Cond.instanceMethod yX0_readItem, Cond.selects RX0 yX0_readItem yX0_readItem, Cond.code yX0_readItem cX0_readItem 6 (some .int), Cond.fieldLink RX0 37 "RainReservoir$RainText" "number" "I", Cond.methodLink RX0 33 yX0_readNumber, Cond.instanceMethod yX0_readNumber, Cond.selects RX0 yX0_readNumber yX0_readNumber, Cond.code yX0_readNumber cX0_readNumber 5 (some .int), Cond.methodLink RX0 40 yX0_isNext, Cond.instanceMethod yX0_isNext, Cond.selects RX0 yX0_isNext yX0_isNext, Cond.code yX0_isNext cX0_isNext 2 (some .boolean)]
def wsL_law0_r33 : List Cond := [Cond.methodLink RL 173 yX6_parse, Cond.instanceMethod yX6_parse, Cond.selects RX6 yX6_parse yX6_parse, Cond.code yX6_parse cX6_parse 3 (some .int), Cond.fieldLink RX6 182 "RainReservoirModel" "place" "I", Cond.methodLink RX6 202 yX6_readsItem, Cond.instanceMethod yX6_readsItem, Cond.selects RX6 yX6_readsItem yX6_readsItem, Cond.code yX6_readsItem cX6_readsItem 4 (some .boolean), Cond.fieldLink RX6 189 "RainReservoirModel" "number" "I", Cond.methodLink RX6 195 yX6_reads, Cond.instanceMethod yX6_reads, Cond.selects RX6 yX6_reads yX6_reads, Cond.code yX6_reads cX6_reads 6 (some .boolean), Cond.methodLink RX6 192 yX6_isFigure, Cond.instanceMethod yX6_isFigure, Cond.selects RX6 yX6_isFigure yX6_isFigure, Cond.code yX6_isFigure cX6_isFigure 1 (some .boolean), Cond.constantLong RX6 185 (48), Cond.constantLong RX6 187 (57), Cond.methodLink RX6 199 yX6_passesByte, Cond.instanceMethod yX6_passesByte, Cond.selects RX6 yX6_passesByte yX6_passesByte, Cond.code yX6_passesByte cX6_passesByte 3 (some .boolean)]
def wsL_law0_r34 : List Cond := [Cond.methodLink RL 174 yL_undo, Cond.static yL_undo, Cond.codeWith yL_undo cL_undo 3 (some .int) [(0, 8, 11, 15)], Cond.methodLink RL 74 yX5_undo, Cond.instanceMethod yX5_undo, Cond.selects RX5 yX5_undo yX5_undo, Cond.code yX5_undo cX5_undo 1 (some .int), Cond.methodLink RL 177 yX6_undo, Cond.instanceMethod yX6_undo, Cond.selects RX6 yX6_undo yX6_undo, Cond.code yX6_undo cX6_undo 2 (some .int), Cond.methodLink RL 178 yX5_digest, Cond.instanceMethod yX5_digest, Cond.selects RX5 yX5_digest yX5_digest, Cond.code yX5_digest cX5_digest 5 (some .long), Cond.constantLong RX5 216 (99293), Cond.constantLong RX5 218 (31), Cond.methodLink RX5 220 yX5_sum, Cond.methodLink RL 182 yX6_digest, Cond.instanceMethod yX6_digest, Cond.selects RX6 yX6_digest yX6_digest, Cond.code yX6_digest cX6_digest 4 (some .long), Cond.constantLong RX6 211 (3203), Cond.methodLink RX6 207 yX6_sums]
def wsL_law0_r35 : List Cond := [Cond.static yX6_sums, Cond.code yX6_sums cX6_sums 4 (some .long), Cond.constantLong RX6 205 (31), Cond.methodLink RX6 213 yX6_withPlaces, Cond.instanceMethod yX6_withPlaces, Cond.selects RX6 yX6_withPlaces yX6_withPlaces, Cond.code yX6_withPlaces cX6_withPlaces 8 (some .long)]
def wsL_law0 : List Cond := (wsL_law0_r1 ++ (wsL_law0_r2 ++ (wsL_law0_r3 ++ (wsL_law0_r4 ++ (wsL_law0_r5 ++ (wsL_law0_r6 ++ (wsL_law0_r7 ++ (wsL_law0_r8 ++ (wsL_law0_r9 ++ (wsL_law0_r10 ++ (wsL_law0_r11 ++ (wsL_law0_r12 ++ (wsL_law0_r13 ++ (wsL_law0_r14 ++ (wsL_law0_r15 ++ (wsL_law0_r16 ++ (wsL_law0_r17 ++ (wsL_law0_r18 ++ (wsL_law0_r19 ++ (wsL_law0_r20 ++ (wsL_law0_r21 ++ (wsL_law0_r22 ++ (wsL_law0_r23 ++ (wsL_law0_r24 ++ (wsL_law0_r25 ++ (wsL_law0_r26 ++ (wsL_law0_r27 ++ (wsL_law0_r28 ++ (wsL_law0_r29 ++ (wsL_law0_r30 ++ (wsL_law0_r31 ++ (wsL_law0_r32 ++ (wsL_law0_r33 ++ (wsL_law0_r34 ++ wsL_law0_r35)))))))))))))))))))))))))))))))))) ++ wsX50 ++ wsX60 ++ wsX20 ++ wsX00 ++ wsX10 ++ wsX40 ++ wsX30 ++ ([] : List Cond)
def wsL_law : List Cond := wsL_law0 ++ (vx_atS RX5 43 "java/lang/IllegalStateException" ["java/lang/RuntimeException", "java/lang/Exception"]).filter goodWord ++ (vx_atS RX5 228 "java/lang/IllegalArgumentException" ["java/lang/RuntimeException", "java/lang/Exception"]).filter goodWord ++ (vx_atS RX5 233 "java/lang/IndexOutOfBoundsException" ["java/lang/RuntimeException", "java/lang/Exception"]).filter goodWord
abbrev vwCl : List vw_C := [(RX0, TX0, 6), (RX1, TX1, 6), (RX2, TX2, 16), (RX3, TX3, 4), (RX4, TX4, 3), (RX5, TX5, 5), (RX6, TX6, 13)]
end
section
theorem dX0_init_0 : decode cX0_init 0 = .ok (.aload_n 0, 1) := by decide +kernel
theorem dX0_init_1 : decode cX0_init 1 = .ok (.invokespecial 3, 3) := by decide +kernel
theorem dX0_init_4 : decode cX0_init 4 = .ok (.aload_n 0, 1) := by decide +kernel
theorem dX0_init_5 : decode cX0_init 5 = .ok (.bipush 120, 2) := by decide +kernel
theorem dX0_init_7 : decode cX0_init 7 = .ok (.newarray .byte, 2) := by decide +kernel
theorem dX0_init_9 : decode cX0_init 9 = .ok (.putfield 9, 3) := by decide +kernel
theorem dX0_init_12 : decode cX0_init 12 = .ok (.aload_n 0, 1) := by decide +kernel
theorem dX0_init_13 : decode cX0_init 13 = .ok (.bipush 100, 2) := by decide +kernel
theorem dX0_init_15 : decode cX0_init 15 = .ok (.newarray .int, 2) := by decide +kernel
theorem dX0_init_17 : decode cX0_init 17 = .ok (.putfield 15, 3) := by decide +kernel
theorem dX0_init_20 : decode cX0_init 20 = .ok (.return_, 1) := by decide +kernel
set_option maxRecDepth 20000 in
theorem ggX0_readItems_X0_readItem : GoodIn wsX0_readItems wsX0_readItem := goodIn_r _ [8, 9, 1, 2, 10, 11, 12, 13, 7, 14, 3, 15, 16, 17, 18, 19, 20, 21, 22, 23, 24, 25] (by decide +kernel) (by decide +kernel)
set_option maxRecDepth 20000 in
theorem gX0_readItems_X0_readItem : GoodIn wsX0_readItems (wsV RX0 29 RX0 yX0_readItem wsX0_readItem) := goodIn_app (goodIn_of _ (by decide +kernel)) ggX0_readItems_X0_readItem
theorem dX0_readItems_0 : decode cX0_readItems 0 = .ok (.aload_n 0, 1) := by decide +kernel
theorem dX0_readItems_1 : decode cX0_readItems 1 = .ok (.iconst 0, 1) := by decide +kernel
theorem dX0_readItems_2 : decode cX0_readItems 2 = .ok (.putfield 19, 3) := by decide +kernel
theorem dX0_readItems_5 : decode cX0_readItems 5 = .ok (.aload_n 0, 1) := by decide +kernel
theorem dX0_readItems_6 : decode cX0_readItems 6 = .ok (.iconst 0, 1) := by decide +kernel
theorem dX0_readItems_7 : decode cX0_readItems 7 = .ok (.putfield 23, 3) := by decide +kernel
theorem dX0_readItems_10 : decode cX0_readItems 10 = .ok (.iconst (-1), 1) := by decide +kernel
theorem dX0_readItems_11 : decode cX0_readItems 11 = .ok (.istore_n 2, 1) := by decide +kernel
theorem dX0_readItems_12 : decode cX0_readItems 12 = .ok (.iconst 0, 1) := by decide +kernel
theorem dX0_readItems_13 : decode cX0_readItems 13 = .ok (.istore_n 3, 1) := by decide +kernel
theorem dX0_readItems_14 : decode cX0_readItems 14 = .ok (.iload_n 3, 1) := by decide +kernel
theorem dX0_readItems_15 : decode cX0_readItems 15 = .ok (.bipush 120, 2) := by decide +kernel
theorem dX0_readItems_17 : decode cX0_readItems 17 = .ok (.if_icmp .ge 34, 3) := by decide +kernel
theorem dX0_readItems_20 : decode cX0_readItems 20 = .ok (.aload_n 0, 1) := by decide +kernel
theorem dX0_readItems_21 : decode cX0_readItems 21 = .ok (.getfield 19, 3) := by decide +kernel
theorem dX0_readItems_24 : decode cX0_readItems 24 = .ok (.aload_n 0, 1) := by decide +kernel
theorem dX0_readItems_25 : decode cX0_readItems 25 = .ok (.getfield 26, 3) := by decide +kernel
theorem dX0_readItems_28 : decode cX0_readItems 28 = .ok (.if_icmp .ge 23, 3) := by decide +kernel
theorem dX0_readItems_31 : decode cX0_readItems 31 = .ok (.iload_n 2, 1) := by decide +kernel
theorem dX0_readItems_32 : decode cX0_readItems 32 = .ok (.iconst (-1), 1) := by decide +kernel
theorem dX0_readItems_33 : decode cX0_readItems 33 = .ok (.if_icmp .ne 18, 3) := by decide +kernel
theorem dX0_readItems_36 : decode cX0_readItems 36 = .ok (.aload_n 0, 1) := by decide +kernel
theorem dX0_readItems_37 : decode cX0_readItems 37 = .ok (.bipush 100, 2) := by decide +kernel
theorem dX0_readItems_39 : decode cX0_readItems 39 = .ok (.iload_n 1, 1) := by decide +kernel
theorem dX0_readItems_40 : decode cX0_readItems 40 = .ok (.isub, 1) := by decide +kernel
theorem dX0_readItems_41 : decode cX0_readItems 41 = .ok (.invokevirtual 29, 3) := by decide +kernel
theorem dX0_readItems_44 : decode cX0_readItems 44 = .ok (.istore_n 2, 1) := by decide +kernel
theorem dX0_readItems_45 : decode cX0_readItems 45 = .ok (.iinc 3 1, 3) := by decide +kernel
theorem dX0_readItems_48 : decode cX0_readItems 48 = .ok (.goto (-34), 3) := by decide +kernel
theorem dX0_readItems_51 : decode cX0_readItems 51 = .ok (.iload_n 2, 1) := by decide +kernel
theorem dX0_readItems_52 : decode cX0_readItems 52 = .ok (.ireturn, 1) := by decide +kernel
set_option maxRecDepth 20000 in
theorem ggX0_readItem_X0_readNumber : GoodIn wsX0_readItem wsX0_readNumber := goodIn_r _ [9, 2, 1, 10, 11, 16, 17, 18, 19, 20, 21] (by decide +kernel) (by decide +kernel)
set_option maxRecDepth 20000 in
theorem gX0_readItem_X0_readNumber : GoodIn wsX0_readItem (wsV RX0 33 RX0 yX0_readNumber wsX0_readNumber) := goodIn_app (goodIn_of _ (by decide +kernel)) ggX0_readItem_X0_readNumber
set_option maxRecDepth 20000 in
theorem ggX0_readItem_X0_isNext : GoodIn wsX0_readItem wsX0_isNext := goodIn_r _ [15, 2, 10, 11, 16, 17, 18, 19, 20, 21] (by decide +kernel) (by decide +kernel)
set_option maxRecDepth 20000 in
theorem gX0_readItem_X0_isNext : GoodIn wsX0_readItem (wsV RX0 40 RX0 yX0_isNext wsX0_isNext) := goodIn_app (goodIn_of _ (by decide +kernel)) ggX0_readItem_X0_isNext
theorem dX0_readItem_0 : decode cX0_readItem 0 = .ok (.aload_n 0, 1) := by decide +kernel
theorem dX0_readItem_1 : decode cX0_readItem 1 = .ok (.iconst 3, 1) := by decide +kernel
theorem dX0_readItem_2 : decode cX0_readItem 2 = .ok (.iconst 0, 1) := by decide +kernel
theorem dX0_readItem_3 : decode cX0_readItem 3 = .ok (.sipush 200, 3) := by decide +kernel
theorem dX0_readItem_6 : decode cX0_readItem 6 = .ok (.invokevirtual 33, 3) := by decide +kernel
theorem dX0_readItem_9 : decode cX0_readItem 9 = .ok (.istore_n 2, 1) := by decide +kernel
theorem dX0_readItem_10 : decode cX0_readItem 10 = .ok (.iload_n 2, 1) := by decide +kernel
theorem dX0_readItem_11 : decode cX0_readItem 11 = .ok (.iconst (-1), 1) := by decide +kernel
theorem dX0_readItem_12 : decode cX0_readItem 12 = .ok (.if_icmp .eq 5, 3) := by decide +kernel
theorem dX0_readItem_15 : decode cX0_readItem 15 = .ok (.iload_n 2, 1) := by decide +kernel
theorem dX0_readItem_16 : decode cX0_readItem 16 = .ok (.ireturn, 1) := by decide +kernel
theorem dX0_readItem_17 : decode cX0_readItem 17 = .ok (.aload_n 0, 1) := by decide +kernel
theorem dX0_readItem_18 : decode cX0_readItem 18 = .ok (.getfield 37, 3) := by decide +kernel
theorem dX0_readItem_21 : decode cX0_readItem 21 = .ok (.istore_n 3, 1) := by decide +kernel
theorem dX0_readItem_22 : decode cX0_readItem 22 = .ok (.iconst 1, 1) := by decide +kernel
theorem dX0_readItem_23 : decode cX0_readItem 23 = .ok (.istore 4, 2) := by decide +kernel
theorem dX0_readItem_25 : decode cX0_readItem 25 = .ok (.aload_n 0, 1) := by decide +kernel
theorem dX0_readItem_26 : decode cX0_readItem 26 = .ok (.bipush 120, 2) := by decide +kernel
theorem dX0_readItem_28 : decode cX0_readItem 28 = .ok (.invokevirtual 40, 3) := by decide +kernel
theorem dX0_readItem_31 : decode cX0_readItem 31 = .ok (.ifCond .eq 35, 3) := by decide +kernel
theorem dX0_readItem_34 : decode cX0_readItem 34 = .ok (.aload_n 0, 1) := by decide +kernel
theorem dX0_readItem_35 : decode cX0_readItem 35 = .ok (.dup, 1) := by decide +kernel
theorem dX0_readItem_36 : decode cX0_readItem 36 = .ok (.getfield 19, 3) := by decide +kernel
theorem dX0_readItem_39 : decode cX0_readItem 39 = .ok (.iconst 1, 1) := by decide +kernel
theorem dX0_readItem_40 : decode cX0_readItem 40 = .ok (.iadd, 1) := by decide +kernel
theorem dX0_readItem_41 : decode cX0_readItem 41 = .ok (.putfield 19, 3) := by decide +kernel
theorem dX0_readItem_44 : decode cX0_readItem 44 = .ok (.aload_n 0, 1) := by decide +kernel
theorem dX0_readItem_45 : decode cX0_readItem 45 = .ok (.iconst 2, 1) := by decide +kernel
theorem dX0_readItem_46 : decode cX0_readItem 46 = .ok (.iconst 1, 1) := by decide +kernel
theorem dX0_readItem_47 : decode cX0_readItem 47 = .ok (.bipush 99, 2) := by decide +kernel
theorem dX0_readItem_49 : decode cX0_readItem 49 = .ok (.invokevirtual 33, 3) := by decide +kernel
theorem dX0_readItem_52 : decode cX0_readItem 52 = .ok (.istore_n 2, 1) := by decide +kernel
theorem dX0_readItem_53 : decode cX0_readItem 53 = .ok (.iload_n 2, 1) := by decide +kernel
theorem dX0_readItem_54 : decode cX0_readItem 54 = .ok (.iconst (-1), 1) := by decide +kernel
theorem dX0_readItem_55 : decode cX0_readItem 55 = .ok (.if_icmp .eq 5, 3) := by decide +kernel
theorem dX0_readItem_58 : decode cX0_readItem 58 = .ok (.iload_n 2, 1) := by decide +kernel
theorem dX0_readItem_59 : decode cX0_readItem 59 = .ok (.ireturn, 1) := by decide +kernel
theorem dX0_readItem_60 : decode cX0_readItem 60 = .ok (.aload_n 0, 1) := by decide +kernel
theorem dX0_readItem_61 : decode cX0_readItem 61 = .ok (.getfield 37, 3) := by decide +kernel
theorem dX0_readItem_64 : decode cX0_readItem 64 = .ok (.istore 4, 2) := by decide +kernel
theorem dX0_readItem_66 : decode cX0_readItem 66 = .ok (.aload_n 0, 1) := by decide +kernel
theorem dX0_readItem_67 : decode cX0_readItem 67 = .ok (.bipush 59, 2) := by decide +kernel
theorem dX0_readItem_69 : decode cX0_readItem 69 = .ok (.invokevirtual 40, 3) := by decide +kernel
theorem dX0_readItem_72 : decode cX0_readItem 72 = .ok (.ifCond .eq 14, 3) := by decide +kernel
theorem dX0_readItem_75 : decode cX0_readItem 75 = .ok (.aload_n 0, 1) := by decide +kernel
theorem dX0_readItem_76 : decode cX0_readItem 76 = .ok (.getfield 23, 3) := by decide +kernel
theorem dX0_readItem_79 : decode cX0_readItem 79 = .ok (.iload 4, 2) := by decide +kernel
theorem dX0_readItem_81 : decode cX0_readItem 81 = .ok (.iadd, 1) := by decide +kernel
theorem dX0_readItem_82 : decode cX0_readItem 82 = .ok (.iload_n 1, 1) := by decide +kernel
theorem dX0_readItem_83 : decode cX0_readItem 83 = .ok (.if_icmp .le 8, 3) := by decide +kernel
theorem dX0_readItem_86 : decode cX0_readItem 86 = .ok (.aload_n 0, 1) := by decide +kernel
theorem dX0_readItem_87 : decode cX0_readItem 87 = .ok (.getfield 19, 3) := by decide +kernel
theorem dX0_readItem_90 : decode cX0_readItem 90 = .ok (.ireturn, 1) := by decide +kernel
theorem dX0_readItem_91 : decode cX0_readItem 91 = .ok (.aload_n 0, 1) := by decide +kernel
theorem dX0_readItem_92 : decode cX0_readItem 92 = .ok (.dup, 1) := by decide +kernel
theorem dX0_readItem_93 : decode cX0_readItem 93 = .ok (.getfield 19, 3) := by decide +kernel
theorem dX0_readItem_96 : decode cX0_readItem 96 = .ok (.iconst 1, 1) := by decide +kernel
theorem dX0_readItem_97 : decode cX0_readItem 97 = .ok (.iadd, 1) := by decide +kernel
theorem dX0_readItem_98 : decode cX0_readItem 98 = .ok (.putfield 19, 3) := by decide +kernel
theorem dX0_readItem_101 : decode cX0_readItem 101 = .ok (.iconst 0, 1) := by decide +kernel
theorem dX0_readItem_102 : decode cX0_readItem 102 = .ok (.istore 5, 2) := by decide +kernel
theorem dX0_readItem_104 : decode cX0_readItem 104 = .ok (.iload 5, 2) := by decide +kernel
theorem dX0_readItem_106 : decode cX0_readItem 106 = .ok (.iload 4, 2) := by decide +kernel
theorem dX0_readItem_108 : decode cX0_readItem 108 = .ok (.if_icmp .ge 29, 3) := by decide +kernel
theorem dX0_readItem_111 : decode cX0_readItem 111 = .ok (.aload_n 0, 1) := by decide +kernel
theorem dX0_readItem_112 : decode cX0_readItem 112 = .ok (.getfield 15, 3) := by decide +kernel
theorem dX0_readItem_115 : decode cX0_readItem 115 = .ok (.aload_n 0, 1) := by decide +kernel
theorem dX0_readItem_116 : decode cX0_readItem 116 = .ok (.getfield 23, 3) := by decide +kernel
theorem dX0_readItem_119 : decode cX0_readItem 119 = .ok (.iload_n 3, 1) := by decide +kernel
theorem dX0_readItem_120 : decode cX0_readItem 120 = .ok (.iastore, 1) := by decide +kernel
theorem dX0_readItem_121 : decode cX0_readItem 121 = .ok (.aload_n 0, 1) := by decide +kernel
theorem dX0_readItem_122 : decode cX0_readItem 122 = .ok (.dup, 1) := by decide +kernel
theorem dX0_readItem_123 : decode cX0_readItem 123 = .ok (.getfield 23, 3) := by decide +kernel
theorem dX0_readItem_126 : decode cX0_readItem 126 = .ok (.iconst 1, 1) := by decide +kernel
theorem dX0_readItem_127 : decode cX0_readItem 127 = .ok (.iadd, 1) := by decide +kernel
theorem dX0_readItem_128 : decode cX0_readItem 128 = .ok (.putfield 23, 3) := by decide +kernel
theorem dX0_readItem_131 : decode cX0_readItem 131 = .ok (.iinc 5 1, 3) := by decide +kernel
theorem dX0_readItem_134 : decode cX0_readItem 134 = .ok (.goto (-30), 3) := by decide +kernel
theorem dX0_readItem_137 : decode cX0_readItem 137 = .ok (.iconst (-1), 1) := by decide +kernel
theorem dX0_readItem_138 : decode cX0_readItem 138 = .ok (.ireturn, 1) := by decide +kernel
theorem dX0_readNumber_0 : decode cX0_readNumber 0 = .ok (.aload_n 0, 1) := by decide +kernel
theorem dX0_readNumber_1 : decode cX0_readNumber 1 = .ok (.getfield 19, 3) := by decide +kernel
theorem dX0_readNumber_4 : decode cX0_readNumber 4 = .ok (.istore 4, 2) := by decide +kernel
theorem dX0_readNumber_6 : decode cX0_readNumber 6 = .ok (.aload_n 0, 1) := by decide +kernel
theorem dX0_readNumber_7 : decode cX0_readNumber 7 = .ok (.iconst 0, 1) := by decide +kernel
theorem dX0_readNumber_8 : decode cX0_readNumber 8 = .ok (.putfield 37, 3) := by decide +kernel
theorem dX0_readNumber_11 : decode cX0_readNumber 11 = .ok (.aload_n 0, 1) := by decide +kernel
theorem dX0_readNumber_12 : decode cX0_readNumber 12 = .ok (.getfield 19, 3) := by decide +kernel
theorem dX0_readNumber_15 : decode cX0_readNumber 15 = .ok (.aload_n 0, 1) := by decide +kernel
theorem dX0_readNumber_16 : decode cX0_readNumber 16 = .ok (.getfield 26, 3) := by decide +kernel
theorem dX0_readNumber_19 : decode cX0_readNumber 19 = .ok (.if_icmp .ge 84, 3) := by decide +kernel
theorem dX0_readNumber_22 : decode cX0_readNumber 22 = .ok (.aload_n 0, 1) := by decide +kernel
theorem dX0_readNumber_23 : decode cX0_readNumber 23 = .ok (.getfield 9, 3) := by decide +kernel
theorem dX0_readNumber_26 : decode cX0_readNumber 26 = .ok (.aload_n 0, 1) := by decide +kernel
theorem dX0_readNumber_27 : decode cX0_readNumber 27 = .ok (.getfield 19, 3) := by decide +kernel
theorem dX0_readNumber_30 : decode cX0_readNumber 30 = .ok (.baload, 1) := by decide +kernel
theorem dX0_readNumber_31 : decode cX0_readNumber 31 = .ok (.bipush 48, 2) := by decide +kernel
theorem dX0_readNumber_33 : decode cX0_readNumber 33 = .ok (.if_icmp .lt 70, 3) := by decide +kernel
theorem dX0_readNumber_36 : decode cX0_readNumber 36 = .ok (.aload_n 0, 1) := by decide +kernel
theorem dX0_readNumber_37 : decode cX0_readNumber 37 = .ok (.getfield 9, 3) := by decide +kernel
theorem dX0_readNumber_40 : decode cX0_readNumber 40 = .ok (.aload_n 0, 1) := by decide +kernel
theorem dX0_readNumber_41 : decode cX0_readNumber 41 = .ok (.getfield 19, 3) := by decide +kernel
theorem dX0_readNumber_44 : decode cX0_readNumber 44 = .ok (.baload, 1) := by decide +kernel
theorem dX0_readNumber_45 : decode cX0_readNumber 45 = .ok (.bipush 57, 2) := by decide +kernel
theorem dX0_readNumber_47 : decode cX0_readNumber 47 = .ok (.if_icmp .gt 56, 3) := by decide +kernel
theorem dX0_readNumber_50 : decode cX0_readNumber 50 = .ok (.aload_n 0, 1) := by decide +kernel
theorem dX0_readNumber_51 : decode cX0_readNumber 51 = .ok (.getfield 19, 3) := by decide +kernel
theorem dX0_readNumber_54 : decode cX0_readNumber 54 = .ok (.iload 4, 2) := by decide +kernel
theorem dX0_readNumber_56 : decode cX0_readNumber 56 = .ok (.isub, 1) := by decide +kernel
theorem dX0_readNumber_57 : decode cX0_readNumber 57 = .ok (.iload_n 1, 1) := by decide +kernel
theorem dX0_readNumber_58 : decode cX0_readNumber 58 = .ok (.if_icmp .lt 8, 3) := by decide +kernel
theorem dX0_readNumber_61 : decode cX0_readNumber 61 = .ok (.aload_n 0, 1) := by decide +kernel
theorem dX0_readNumber_62 : decode cX0_readNumber 62 = .ok (.getfield 19, 3) := by decide +kernel
theorem dX0_readNumber_65 : decode cX0_readNumber 65 = .ok (.ireturn, 1) := by decide +kernel
theorem dX0_readNumber_66 : decode cX0_readNumber 66 = .ok (.aload_n 0, 1) := by decide +kernel
theorem dX0_readNumber_67 : decode cX0_readNumber 67 = .ok (.aload_n 0, 1) := by decide +kernel
theorem dX0_readNumber_68 : decode cX0_readNumber 68 = .ok (.getfield 37, 3) := by decide +kernel
theorem dX0_readNumber_71 : decode cX0_readNumber 71 = .ok (.bipush 10, 2) := by decide +kernel
theorem dX0_readNumber_73 : decode cX0_readNumber 73 = .ok (.imul, 1) := by decide +kernel
theorem dX0_readNumber_74 : decode cX0_readNumber 74 = .ok (.aload_n 0, 1) := by decide +kernel
theorem dX0_readNumber_75 : decode cX0_readNumber 75 = .ok (.getfield 9, 3) := by decide +kernel
theorem dX0_readNumber_78 : decode cX0_readNumber 78 = .ok (.aload_n 0, 1) := by decide +kernel
theorem dX0_readNumber_79 : decode cX0_readNumber 79 = .ok (.getfield 19, 3) := by decide +kernel
theorem dX0_readNumber_82 : decode cX0_readNumber 82 = .ok (.baload, 1) := by decide +kernel
theorem dX0_readNumber_83 : decode cX0_readNumber 83 = .ok (.iadd, 1) := by decide +kernel
theorem dX0_readNumber_84 : decode cX0_readNumber 84 = .ok (.bipush 48, 2) := by decide +kernel
theorem dX0_readNumber_86 : decode cX0_readNumber 86 = .ok (.isub, 1) := by decide +kernel
theorem dX0_readNumber_87 : decode cX0_readNumber 87 = .ok (.putfield 37, 3) := by decide +kernel
theorem dX0_readNumber_90 : decode cX0_readNumber 90 = .ok (.aload_n 0, 1) := by decide +kernel
theorem dX0_readNumber_91 : decode cX0_readNumber 91 = .ok (.dup, 1) := by decide +kernel
theorem dX0_readNumber_92 : decode cX0_readNumber 92 = .ok (.getfield 19, 3) := by decide +kernel
theorem dX0_readNumber_95 : decode cX0_readNumber 95 = .ok (.iconst 1, 1) := by decide +kernel
theorem dX0_readNumber_96 : decode cX0_readNumber 96 = .ok (.iadd, 1) := by decide +kernel
theorem dX0_readNumber_97 : decode cX0_readNumber 97 = .ok (.putfield 19, 3) := by decide +kernel
theorem dX0_readNumber_100 : decode cX0_readNumber 100 = .ok (.goto (-89), 3) := by decide +kernel
theorem dX0_readNumber_103 : decode cX0_readNumber 103 = .ok (.aload_n 0, 1) := by decide +kernel
theorem dX0_readNumber_104 : decode cX0_readNumber 104 = .ok (.getfield 19, 3) := by decide +kernel
theorem dX0_readNumber_107 : decode cX0_readNumber 107 = .ok (.iload 4, 2) := by decide +kernel
theorem dX0_readNumber_109 : decode cX0_readNumber 109 = .ok (.if_icmp .eq 19, 3) := by decide +kernel
theorem dX0_readNumber_112 : decode cX0_readNumber 112 = .ok (.aload_n 0, 1) := by decide +kernel
theorem dX0_readNumber_113 : decode cX0_readNumber 113 = .ok (.getfield 37, 3) := by decide +kernel
theorem dX0_readNumber_116 : decode cX0_readNumber 116 = .ok (.iload_n 2, 1) := by decide +kernel
theorem dX0_readNumber_117 : decode cX0_readNumber 117 = .ok (.if_icmp .lt 11, 3) := by decide +kernel
theorem dX0_readNumber_120 : decode cX0_readNumber 120 = .ok (.aload_n 0, 1) := by decide +kernel
theorem dX0_readNumber_121 : decode cX0_readNumber 121 = .ok (.getfield 37, 3) := by decide +kernel
theorem dX0_readNumber_124 : decode cX0_readNumber 124 = .ok (.iload_n 3, 1) := by decide +kernel
theorem dX0_readNumber_125 : decode cX0_readNumber 125 = .ok (.if_icmp .le 6, 3) := by decide +kernel
theorem dX0_readNumber_128 : decode cX0_readNumber 128 = .ok (.iload 4, 2) := by decide +kernel
theorem dX0_readNumber_130 : decode cX0_readNumber 130 = .ok (.ireturn, 1) := by decide +kernel
theorem dX0_readNumber_131 : decode cX0_readNumber 131 = .ok (.iconst (-1), 1) := by decide +kernel
theorem dX0_readNumber_132 : decode cX0_readNumber 132 = .ok (.ireturn, 1) := by decide +kernel
theorem dX0_isNext_0 : decode cX0_isNext 0 = .ok (.aload_n 0, 1) := by decide +kernel
theorem dX0_isNext_1 : decode cX0_isNext 1 = .ok (.getfield 19, 3) := by decide +kernel
theorem dX0_isNext_4 : decode cX0_isNext 4 = .ok (.aload_n 0, 1) := by decide +kernel
theorem dX0_isNext_5 : decode cX0_isNext 5 = .ok (.getfield 26, 3) := by decide +kernel
theorem dX0_isNext_8 : decode cX0_isNext 8 = .ok (.if_icmp .ge 20, 3) := by decide +kernel
theorem dX0_isNext_11 : decode cX0_isNext 11 = .ok (.aload_n 0, 1) := by decide +kernel
theorem dX0_isNext_12 : decode cX0_isNext 12 = .ok (.getfield 9, 3) := by decide +kernel
theorem dX0_isNext_15 : decode cX0_isNext 15 = .ok (.aload_n 0, 1) := by decide +kernel
theorem dX0_isNext_16 : decode cX0_isNext 16 = .ok (.getfield 19, 3) := by decide +kernel
theorem dX0_isNext_19 : decode cX0_isNext 19 = .ok (.baload, 1) := by decide +kernel
theorem dX0_isNext_20 : decode cX0_isNext 20 = .ok (.iload_n 1, 1) := by decide +kernel
theorem dX0_isNext_21 : decode cX0_isNext 21 = .ok (.if_icmp .ne 7, 3) := by decide +kernel
theorem dX0_isNext_24 : decode cX0_isNext 24 = .ok (.iconst 1, 1) := by decide +kernel
theorem dX0_isNext_25 : decode cX0_isNext 25 = .ok (.goto 4, 3) := by decide +kernel
theorem dX0_isNext_28 : decode cX0_isNext 28 = .ok (.iconst 0, 1) := by decide +kernel
theorem dX0_isNext_29 : decode cX0_isNext 29 = .ok (.ireturn, 1) := by decide +kernel
theorem dX1_init_0 : decode cX1_init 0 = .ok (.aload_n 0, 1) := by decide +kernel
theorem dX1_init_1 : decode cX1_init 1 = .ok (.invokespecial 1, 3) := by decide +kernel
theorem dX1_init_4 : decode cX1_init 4 = .ok (.return_, 1) := by decide +kernel
set_option maxRecDepth 20000 in
theorem ggX1_set_X1_clearAmounts : GoodIn wsX1_set wsX1_clearAmounts := goodIn_r _ [9, 10, 11, 12, 13, 14, 15, 16, 17] (by decide +kernel) (by decide +kernel)
set_option maxRecDepth 20000 in
theorem gX1_set_X1_clearAmounts : GoodIn wsX1_set (wsV RX1 22 RX1 yX1_clearAmounts wsX1_clearAmounts) := goodIn_app (goodIn_of _ (by decide +kernel)) ggX1_set_X1_clearAmounts
theorem dX1_set_0 : decode cX1_set 0 = .ok (.aload_n 0, 1) := by decide +kernel
theorem dX1_set_1 : decode cX1_set 1 = .ok (.iload_n 1, 1) := by decide +kernel
theorem dX1_set_2 : decode cX1_set 2 = .ok (.putfield 7, 3) := by decide +kernel
theorem dX1_set_5 : decode cX1_set 5 = .ok (.aload_n 0, 1) := by decide +kernel
theorem dX1_set_6 : decode cX1_set 6 = .ok (.iload_n 2, 1) := by decide +kernel
theorem dX1_set_7 : decode cX1_set 7 = .ok (.putfield 13, 3) := by decide +kernel
theorem dX1_set_10 : decode cX1_set 10 = .ok (.aload_n 0, 1) := by decide +kernel
theorem dX1_set_11 : decode cX1_set 11 = .ok (.iload_n 3, 1) := by decide +kernel
theorem dX1_set_12 : decode cX1_set 12 = .ok (.putfield 16, 3) := by decide +kernel
theorem dX1_set_15 : decode cX1_set 15 = .ok (.aload_n 0, 1) := by decide +kernel
theorem dX1_set_16 : decode cX1_set 16 = .ok (.iload 4, 2) := by decide +kernel
theorem dX1_set_18 : decode cX1_set 18 = .ok (.putfield 19, 3) := by decide +kernel
theorem dX1_set_21 : decode cX1_set 21 = .ok (.aload_n 0, 1) := by decide +kernel
theorem dX1_set_22 : decode cX1_set 22 = .ok (.invokevirtual 22, 3) := by decide +kernel
theorem dX1_set_25 : decode cX1_set 25 = .ok (.return_, 1) := by decide +kernel
set_option maxRecDepth 20000 in
theorem ggX1_copyFrom_X1_set : GoodIn wsX1_copyFrom wsX1_set := goodIn_r _ [11, 1, 2, 3, 4, 12, 13, 14, 10, 15, 5, 6, 16, 17, 18, 19, 20, 21] (by decide +kernel) (by decide +kernel)
set_option maxRecDepth 20000 in
theorem gX1_copyFrom_X1_set : GoodIn wsX1_copyFrom (wsV RX1 25 RX1 yX1_set wsX1_set) := goodIn_app (goodIn_of _ (by decide +kernel)) ggX1_copyFrom_X1_set
theorem dX1_copyFrom_0 : decode cX1_copyFrom 0 = .ok (.aload_n 0, 1) := by decide +kernel
theorem dX1_copyFrom_1 : decode cX1_copyFrom 1 = .ok (.aload_n 1, 1) := by decide +kernel
theorem dX1_copyFrom_2 : decode cX1_copyFrom 2 = .ok (.getfield 7, 3) := by decide +kernel
theorem dX1_copyFrom_5 : decode cX1_copyFrom 5 = .ok (.aload_n 1, 1) := by decide +kernel
theorem dX1_copyFrom_6 : decode cX1_copyFrom 6 = .ok (.getfield 13, 3) := by decide +kernel
theorem dX1_copyFrom_9 : decode cX1_copyFrom 9 = .ok (.aload_n 1, 1) := by decide +kernel
theorem dX1_copyFrom_10 : decode cX1_copyFrom 10 = .ok (.getfield 16, 3) := by decide +kernel
theorem dX1_copyFrom_13 : decode cX1_copyFrom 13 = .ok (.aload_n 1, 1) := by decide +kernel
theorem dX1_copyFrom_14 : decode cX1_copyFrom 14 = .ok (.getfield 19, 3) := by decide +kernel
theorem dX1_copyFrom_17 : decode cX1_copyFrom 17 = .ok (.invokevirtual 25, 3) := by decide +kernel
theorem dX1_copyFrom_20 : decode cX1_copyFrom 20 = .ok (.aload_n 0, 1) := by decide +kernel
theorem dX1_copyFrom_21 : decode cX1_copyFrom 21 = .ok (.aload_n 1, 1) := by decide +kernel
theorem dX1_copyFrom_22 : decode cX1_copyFrom 22 = .ok (.getfield 29, 3) := by decide +kernel
theorem dX1_copyFrom_25 : decode cX1_copyFrom 25 = .ok (.putfield 29, 3) := by decide +kernel
theorem dX1_copyFrom_28 : decode cX1_copyFrom 28 = .ok (.aload_n 0, 1) := by decide +kernel
theorem dX1_copyFrom_29 : decode cX1_copyFrom 29 = .ok (.aload_n 1, 1) := by decide +kernel
theorem dX1_copyFrom_30 : decode cX1_copyFrom 30 = .ok (.getfield 32, 3) := by decide +kernel
theorem dX1_copyFrom_33 : decode cX1_copyFrom 33 = .ok (.putfield 32, 3) := by decide +kernel
theorem dX1_copyFrom_36 : decode cX1_copyFrom 36 = .ok (.return_, 1) := by decide +kernel
theorem dX1_clearAmounts_0 : decode cX1_clearAmounts 0 = .ok (.aload_n 0, 1) := by decide +kernel
theorem dX1_clearAmounts_1 : decode cX1_clearAmounts 1 = .ok (.iconst 0, 1) := by decide +kernel
theorem dX1_clearAmounts_2 : decode cX1_clearAmounts 2 = .ok (.putfield 29, 3) := by decide +kernel
theorem dX1_clearAmounts_5 : decode cX1_clearAmounts 5 = .ok (.aload_n 0, 1) := by decide +kernel
theorem dX1_clearAmounts_6 : decode cX1_clearAmounts 6 = .ok (.iconst 0, 1) := by decide +kernel
theorem dX1_clearAmounts_7 : decode cX1_clearAmounts 7 = .ok (.putfield 32, 3) := by decide +kernel
theorem dX1_clearAmounts_10 : decode cX1_clearAmounts 10 = .ok (.return_, 1) := by decide +kernel
theorem dX1_value_0 : decode cX1_value 0 = .ok (.iload_n 1, 1) := by decide +kernel
theorem dX1_value_1 : decode cX1_value 1 = .ok (.tableswitch 51 0 3 #[31, 36, 41, 46], 31) := by decide +kernel
theorem dX1_value_32 : decode cX1_value 32 = .ok (.aload_n 0, 1) := by decide +kernel
theorem dX1_value_33 : decode cX1_value 33 = .ok (.getfield 7, 3) := by decide +kernel
theorem dX1_value_36 : decode cX1_value 36 = .ok (.ireturn, 1) := by decide +kernel
theorem dX1_value_37 : decode cX1_value 37 = .ok (.aload_n 0, 1) := by decide +kernel
theorem dX1_value_38 : decode cX1_value 38 = .ok (.getfield 13, 3) := by decide +kernel
theorem dX1_value_41 : decode cX1_value 41 = .ok (.ireturn, 1) := by decide +kernel
theorem dX1_value_42 : decode cX1_value 42 = .ok (.aload_n 0, 1) := by decide +kernel
theorem dX1_value_43 : decode cX1_value 43 = .ok (.getfield 16, 3) := by decide +kernel
theorem dX1_value_46 : decode cX1_value 46 = .ok (.ireturn, 1) := by decide +kernel
theorem dX1_value_47 : decode cX1_value 47 = .ok (.aload_n 0, 1) := by decide +kernel
theorem dX1_value_48 : decode cX1_value 48 = .ok (.getfield 19, 3) := by decide +kernel
theorem dX1_value_51 : decode cX1_value 51 = .ok (.ireturn, 1) := by decide +kernel
theorem dX1_value_52 : decode cX1_value 52 = .ok (.aload_n 0, 1) := by decide +kernel
theorem dX1_value_53 : decode cX1_value 53 = .ok (.getfield 29, 3) := by decide +kernel
theorem dX1_value_56 : decode cX1_value 56 = .ok (.ireturn, 1) := by decide +kernel
theorem dX1_caught_0 : decode cX1_caught 0 = .ok (.aload_n 0, 1) := by decide +kernel
theorem dX1_caught_1 : decode cX1_caught 1 = .ok (.getfield 7, 3) := by decide +kernel
theorem dX1_caught_4 : decode cX1_caught 4 = .ok (.iload_n 1, 1) := by decide +kernel
theorem dX1_caught_5 : decode cX1_caught 5 = .ok (.imul, 1) := by decide +kernel
theorem dX1_caught_6 : decode cX1_caught 6 = .ok (.aload_n 0, 1) := by decide +kernel
theorem dX1_caught_7 : decode cX1_caught 7 = .ok (.getfield 13, 3) := by decide +kernel
theorem dX1_caught_10 : decode cX1_caught 10 = .ok (.imul, 1) := by decide +kernel
theorem dX1_caught_11 : decode cX1_caught 11 = .ok (.bipush 100, 2) := by decide +kernel
theorem dX1_caught_13 : decode cX1_caught 13 = .ok (.idiv, 1) := by decide +kernel
theorem dX1_caught_14 : decode cX1_caught 14 = .ok (.ireturn, 1) := by decide +kernel
theorem dX1_divert_0 : decode cX1_divert 0 = .ok (.iload_n 1, 1) := by decide +kernel
theorem dX1_divert_1 : decode cX1_divert 1 = .ok (.aload_n 0, 1) := by decide +kernel
theorem dX1_divert_2 : decode cX1_divert 2 = .ok (.getfield 16, 3) := by decide +kernel
theorem dX1_divert_5 : decode cX1_divert 5 = .ok (.aload_n 0, 1) := by decide +kernel
theorem dX1_divert_6 : decode cX1_divert 6 = .ok (.getfield 29, 3) := by decide +kernel
theorem dX1_divert_9 : decode cX1_divert 9 = .ok (.isub, 1) := by decide +kernel
theorem dX1_divert_10 : decode cX1_divert 10 = .ok (.invokestatic 35, 3) := by decide +kernel
theorem dX1_divert_13 : decode cX1_divert 13 = .ok (.istore_n 2, 1) := by decide +kernel
theorem dX1_divert_14 : decode cX1_divert 14 = .ok (.aload_n 0, 1) := by decide +kernel
theorem dX1_divert_15 : decode cX1_divert 15 = .ok (.dup, 1) := by decide +kernel
theorem dX1_divert_16 : decode cX1_divert 16 = .ok (.getfield 29, 3) := by decide +kernel
theorem dX1_divert_19 : decode cX1_divert 19 = .ok (.iload_n 2, 1) := by decide +kernel
theorem dX1_divert_20 : decode cX1_divert 20 = .ok (.iadd, 1) := by decide +kernel
theorem dX1_divert_21 : decode cX1_divert 21 = .ok (.putfield 29, 3) := by decide +kernel
theorem dX1_divert_24 : decode cX1_divert 24 = .ok (.iload_n 2, 1) := by decide +kernel
theorem dX1_divert_25 : decode cX1_divert 25 = .ok (.ireturn, 1) := by decide +kernel
theorem dX1_spill_0 : decode cX1_spill 0 = .ok (.iload_n 1, 1) := by decide +kernel
theorem dX1_spill_1 : decode cX1_spill 1 = .ok (.aload_n 0, 1) := by decide +kernel
theorem dX1_spill_2 : decode cX1_spill 2 = .ok (.getfield 19, 3) := by decide +kernel
theorem dX1_spill_5 : decode cX1_spill 5 = .ok (.isub, 1) := by decide +kernel
theorem dX1_spill_6 : decode cX1_spill 6 = .ok (.iconst 0, 1) := by decide +kernel
theorem dX1_spill_7 : decode cX1_spill 7 = .ok (.invokestatic 41, 3) := by decide +kernel
theorem dX1_spill_10 : decode cX1_spill 10 = .ok (.istore_n 2, 1) := by decide +kernel
theorem dX1_spill_11 : decode cX1_spill 11 = .ok (.aload_n 0, 1) := by decide +kernel
theorem dX1_spill_12 : decode cX1_spill 12 = .ok (.dup, 1) := by decide +kernel
theorem dX1_spill_13 : decode cX1_spill 13 = .ok (.getfield 32, 3) := by decide +kernel
theorem dX1_spill_16 : decode cX1_spill 16 = .ok (.iload_n 2, 1) := by decide +kernel
theorem dX1_spill_17 : decode cX1_spill 17 = .ok (.iadd, 1) := by decide +kernel
theorem dX1_spill_18 : decode cX1_spill 18 = .ok (.putfield 32, 3) := by decide +kernel
theorem dX1_spill_21 : decode cX1_spill 21 = .ok (.iload_n 2, 1) := by decide +kernel
theorem dX1_spill_22 : decode cX1_spill 22 = .ok (.ireturn, 1) := by decide +kernel
theorem dX1_drain_0 : decode cX1_drain 0 = .ok (.aload_n 0, 1) := by decide +kernel
theorem dX1_drain_1 : decode cX1_drain 1 = .ok (.getfield 29, 3) := by decide +kernel
theorem dX1_drain_4 : decode cX1_drain 4 = .ok (.istore_n 1, 1) := by decide +kernel
theorem dX1_drain_5 : decode cX1_drain 5 = .ok (.aload_n 0, 1) := by decide +kernel
theorem dX1_drain_6 : decode cX1_drain 6 = .ok (.iconst 0, 1) := by decide +kernel
theorem dX1_drain_7 : decode cX1_drain 7 = .ok (.putfield 29, 3) := by decide +kernel
theorem dX1_drain_10 : decode cX1_drain 10 = .ok (.iload_n 1, 1) := by decide +kernel
theorem dX1_drain_11 : decode cX1_drain 11 = .ok (.ireturn, 1) := by decide +kernel
set_option maxRecDepth 20000 in
theorem ggX2_init_X1_init : GoodIn wsX2_init wsX1_init := goodIn_r _ [18, 19, 2, 3] (by decide +kernel) (by decide +kernel)
set_option maxRecDepth 20000 in
theorem gX2_init_X1_init_n24 : GoodIn wsX2_init (wsX1_init) := ggX2_init_X1_init
set_option maxRecDepth 20000 in
theorem ggX2_init_X4_init : GoodIn wsX2_init wsX4_init := goodIn_r _ [22, 23, 2, 3, 24, 25, 26, 27, 14, 28, 29, 30, 31, 54, 55, 56, 57, 58, 59, 60] (by decide +kernel) (by decide +kernel)
set_option maxRecDepth 20000 in
theorem gX2_init_X4_init : GoodIn wsX2_init (wsX4_init) := ggX2_init_X4_init
theorem dX2_init_0 : decode cX2_init 0 = .ok (.aload_n 0, 1) := by decide +kernel
theorem dX2_init_1 : decode cX2_init 1 = .ok (.invokespecial 3, 3) := by decide +kernel
theorem dX2_init_4 : decode cX2_init 4 = .ok (.aload_n 0, 1) := by decide +kernel
theorem dX2_init_5 : decode cX2_init 5 = .ok (.sipush 10000, 3) := by decide +kernel
theorem dX2_init_8 : decode cX2_init 8 = .ok (.putfield 9, 3) := by decide +kernel
theorem dX2_init_11 : decode cX2_init 11 = .ok (.aload_n 0, 1) := by decide +kernel
theorem dX2_init_12 : decode cX2_init 12 = .ok (.iconst 3, 1) := by decide +kernel
theorem dX2_init_13 : decode cX2_init 13 = .ok (.putfield 15, 3) := by decide +kernel
theorem dX2_init_16 : decode cX2_init 16 = .ok (.aload_n 0, 1) := by decide +kernel
theorem dX2_init_17 : decode cX2_init 17 = .ok (.bipush 6, 2) := by decide +kernel
theorem dX2_init_19 : decode cX2_init 19 = .ok (.anewarray 18, 3) := by decide +kernel
theorem dX2_init_22 : decode cX2_init 22 = .ok (.putfield 20, 3) := by decide +kernel
theorem dX2_init_25 : decode cX2_init 25 = .ok (.iconst 0, 1) := by decide +kernel
theorem dX2_init_26 : decode cX2_init 26 = .ok (.istore_n 1, 1) := by decide +kernel
theorem dX2_init_27 : decode cX2_init 27 = .ok (.iload_n 1, 1) := by decide +kernel
theorem dX2_init_28 : decode cX2_init 28 = .ok (.aload_n 0, 1) := by decide +kernel
theorem dX2_init_29 : decode cX2_init 29 = .ok (.getfield 20, 3) := by decide +kernel
theorem dX2_init_32 : decode cX2_init 32 = .ok (.arraylength, 1) := by decide +kernel
theorem dX2_init_33 : decode cX2_init 33 = .ok (.if_icmp .ge 22, 3) := by decide +kernel
theorem dX2_init_36 : decode cX2_init 36 = .ok (.aload_n 0, 1) := by decide +kernel
theorem dX2_init_37 : decode cX2_init 37 = .ok (.getfield 20, 3) := by decide +kernel
theorem dX2_init_40 : decode cX2_init 40 = .ok (.iload_n 1, 1) := by decide +kernel
theorem dX2_init_41 : decode cX2_init 41 = .ok (.new 18, 3) := by decide +kernel
theorem dX2_init_44 : decode cX2_init 44 = .ok (.dup, 1) := by decide +kernel
theorem dX2_init_45 : decode cX2_init 45 = .ok (.invokespecial 24, 3) := by decide +kernel
theorem dX2_init_48 : decode cX2_init 48 = .ok (.aastore, 1) := by decide +kernel
theorem dX2_init_49 : decode cX2_init 49 = .ok (.iinc 1 1, 3) := by decide +kernel
theorem dX2_init_52 : decode cX2_init 52 = .ok (.goto (-25), 3) := by decide +kernel
theorem dX2_init_55 : decode cX2_init 55 = .ok (.aload_n 0, 1) := by decide +kernel
theorem dX2_init_56 : decode cX2_init 56 = .ok (.new 25, 3) := by decide +kernel
theorem dX2_init_59 : decode cX2_init 59 = .ok (.dup, 1) := by decide +kernel
theorem dX2_init_60 : decode cX2_init 60 = .ok (.invokespecial 27, 3) := by decide +kernel
theorem dX2_init_63 : decode cX2_init 63 = .ok (.putfield 28, 3) := by decide +kernel
theorem dX2_init_66 : decode cX2_init 66 = .ok (.aload_n 0, 1) := by decide +kernel
theorem dX2_init_67 : decode cX2_init 67 = .ok (.bipush 100, 2) := by decide +kernel
theorem dX2_init_69 : decode cX2_init 69 = .ok (.newarray .int, 2) := by decide +kernel
theorem dX2_init_71 : decode cX2_init 71 = .ok (.putfield 32, 3) := by decide +kernel
theorem dX2_init_74 : decode cX2_init 74 = .ok (.aload_n 0, 1) := by decide +kernel
theorem dX2_init_75 : decode cX2_init 75 = .ok (.sipush 1000, 3) := by decide +kernel
theorem dX2_init_78 : decode cX2_init 78 = .ok (.newarray .int, 2) := by decide +kernel
theorem dX2_init_80 : decode cX2_init 80 = .ok (.putfield 36, 3) := by decide +kernel
theorem dX2_init_83 : decode cX2_init 83 = .ok (.return_, 1) := by decide +kernel
set_option maxRecDepth 20000 in
theorem ggX2_copyFrom_X1_copyFrom : GoodIn wsX2_copyFrom wsX1_copyFrom := goodIn_r _ [25, 26, 27, 28, 29, 30, 31, 32, 33, 34, 24, 35, 36, 37, 38, 39, 80, 81, 82, 83, 84, 85] (by decide +kernel) (by decide +kernel)
set_option maxRecDepth 20000 in
theorem gX2_copyFrom_X1_copyFrom : GoodIn wsX2_copyFrom (wsV RX2 54 RX1 yX1_copyFrom wsX1_copyFrom) := goodIn_app (goodIn_of _ (by decide +kernel)) ggX2_copyFrom_X1_copyFrom
set_option maxRecDepth 20000 in
theorem ggX2_copyFrom_X4_copyFrom : GoodIn wsX2_copyFrom wsX4_copyFrom := goodIn_r _ [44, 45, 46, 47, 48, 49, 50, 51, 52, 53, 54, 55, 56, 57, 58, 59, 60, 61, 62, 63, 86, 87, 88, 89, 90, 91, 92] (by decide +kernel) (by decide +kernel)
set_option maxRecDepth 20000 in
theorem gX2_copyFrom_X4_copyFrom : GoodIn wsX2_copyFrom (wsV RX2 58 RX4 yX4_copyFrom wsX4_copyFrom) := goodIn_app (goodIn_of _ (by decide +kernel)) ggX2_copyFrom_X4_copyFrom
theorem dX2_copyFrom_0 : decode cX2_copyFrom 0 = .ok (.aload_n 0, 1) := by decide +kernel
theorem dX2_copyFrom_1 : decode cX2_copyFrom 1 = .ok (.aload_n 1, 1) := by decide +kernel
theorem dX2_copyFrom_2 : decode cX2_copyFrom 2 = .ok (.getfield 9, 3) := by decide +kernel
theorem dX2_copyFrom_5 : decode cX2_copyFrom 5 = .ok (.putfield 9, 3) := by decide +kernel
theorem dX2_copyFrom_8 : decode cX2_copyFrom 8 = .ok (.aload_n 0, 1) := by decide +kernel
theorem dX2_copyFrom_9 : decode cX2_copyFrom 9 = .ok (.aload_n 1, 1) := by decide +kernel
theorem dX2_copyFrom_10 : decode cX2_copyFrom 10 = .ok (.getfield 39, 3) := by decide +kernel
theorem dX2_copyFrom_13 : decode cX2_copyFrom 13 = .ok (.putfield 39, 3) := by decide +kernel
theorem dX2_copyFrom_16 : decode cX2_copyFrom 16 = .ok (.aload_n 0, 1) := by decide +kernel
theorem dX2_copyFrom_17 : decode cX2_copyFrom 17 = .ok (.aload_n 1, 1) := by decide +kernel
theorem dX2_copyFrom_18 : decode cX2_copyFrom 18 = .ok (.getfield 42, 3) := by decide +kernel
theorem dX2_copyFrom_21 : decode cX2_copyFrom 21 = .ok (.putfield 42, 3) := by decide +kernel
theorem dX2_copyFrom_24 : decode cX2_copyFrom 24 = .ok (.aload_n 0, 1) := by decide +kernel
theorem dX2_copyFrom_25 : decode cX2_copyFrom 25 = .ok (.aload_n 1, 1) := by decide +kernel
theorem dX2_copyFrom_26 : decode cX2_copyFrom 26 = .ok (.getfield 45, 3) := by decide +kernel
theorem dX2_copyFrom_29 : decode cX2_copyFrom 29 = .ok (.putfield 45, 3) := by decide +kernel
theorem dX2_copyFrom_32 : decode cX2_copyFrom 32 = .ok (.aload_n 0, 1) := by decide +kernel
theorem dX2_copyFrom_33 : decode cX2_copyFrom 33 = .ok (.aload_n 1, 1) := by decide +kernel
theorem dX2_copyFrom_34 : decode cX2_copyFrom 34 = .ok (.getfield 15, 3) := by decide +kernel
theorem dX2_copyFrom_37 : decode cX2_copyFrom 37 = .ok (.putfield 15, 3) := by decide +kernel
theorem dX2_copyFrom_40 : decode cX2_copyFrom 40 = .ok (.aload_n 0, 1) := by decide +kernel
theorem dX2_copyFrom_41 : decode cX2_copyFrom 41 = .ok (.aload_n 1, 1) := by decide +kernel
theorem dX2_copyFrom_42 : decode cX2_copyFrom 42 = .ok (.getfield 48, 3) := by decide +kernel
theorem dX2_copyFrom_45 : decode cX2_copyFrom 45 = .ok (.putfield 48, 3) := by decide +kernel
theorem dX2_copyFrom_48 : decode cX2_copyFrom 48 = .ok (.aload_n 0, 1) := by decide +kernel
theorem dX2_copyFrom_49 : decode cX2_copyFrom 49 = .ok (.aload_n 1, 1) := by decide +kernel
theorem dX2_copyFrom_50 : decode cX2_copyFrom 50 = .ok (.getfield 51, 3) := by decide +kernel
theorem dX2_copyFrom_53 : decode cX2_copyFrom 53 = .ok (.putfield 51, 3) := by decide +kernel
theorem dX2_copyFrom_56 : decode cX2_copyFrom 56 = .ok (.iconst 0, 1) := by decide +kernel
theorem dX2_copyFrom_57 : decode cX2_copyFrom 57 = .ok (.istore_n 2, 1) := by decide +kernel
theorem dX2_copyFrom_58 : decode cX2_copyFrom 58 = .ok (.iload_n 2, 1) := by decide +kernel
theorem dX2_copyFrom_59 : decode cX2_copyFrom 59 = .ok (.aload_n 0, 1) := by decide +kernel
theorem dX2_copyFrom_60 : decode cX2_copyFrom 60 = .ok (.getfield 51, 3) := by decide +kernel
theorem dX2_copyFrom_63 : decode cX2_copyFrom 63 = .ok (.if_icmp .ge 24, 3) := by decide +kernel
theorem dX2_copyFrom_66 : decode cX2_copyFrom 66 = .ok (.aload_n 0, 1) := by decide +kernel
theorem dX2_copyFrom_67 : decode cX2_copyFrom 67 = .ok (.getfield 20, 3) := by decide +kernel
theorem dX2_copyFrom_70 : decode cX2_copyFrom 70 = .ok (.iload_n 2, 1) := by decide +kernel
theorem dX2_copyFrom_71 : decode cX2_copyFrom 71 = .ok (.aaload, 1) := by decide +kernel
theorem dX2_copyFrom_72 : decode cX2_copyFrom 72 = .ok (.aload_n 1, 1) := by decide +kernel
theorem dX2_copyFrom_73 : decode cX2_copyFrom 73 = .ok (.getfield 20, 3) := by decide +kernel
theorem dX2_copyFrom_76 : decode cX2_copyFrom 76 = .ok (.iload_n 2, 1) := by decide +kernel
theorem dX2_copyFrom_77 : decode cX2_copyFrom 77 = .ok (.aaload, 1) := by decide +kernel
theorem dX2_copyFrom_78 : decode cX2_copyFrom 78 = .ok (.invokevirtual 54, 3) := by decide +kernel
theorem dX2_copyFrom_81 : decode cX2_copyFrom 81 = .ok (.iinc 2 1, 3) := by decide +kernel
theorem dX2_copyFrom_84 : decode cX2_copyFrom 84 = .ok (.goto (-26), 3) := by decide +kernel
theorem dX2_copyFrom_87 : decode cX2_copyFrom 87 = .ok (.aload_n 0, 1) := by decide +kernel
theorem dX2_copyFrom_88 : decode cX2_copyFrom 88 = .ok (.getfield 28, 3) := by decide +kernel
theorem dX2_copyFrom_91 : decode cX2_copyFrom 91 = .ok (.aload_n 1, 1) := by decide +kernel
theorem dX2_copyFrom_92 : decode cX2_copyFrom 92 = .ok (.getfield 28, 3) := by decide +kernel
theorem dX2_copyFrom_95 : decode cX2_copyFrom 95 = .ok (.invokevirtual 58, 3) := by decide +kernel
theorem dX2_copyFrom_98 : decode cX2_copyFrom 98 = .ok (.aload_n 0, 1) := by decide +kernel
theorem dX2_copyFrom_99 : decode cX2_copyFrom 99 = .ok (.aload_n 1, 1) := by decide +kernel
theorem dX2_copyFrom_100 : decode cX2_copyFrom 100 = .ok (.getfield 61, 3) := by decide +kernel
theorem dX2_copyFrom_103 : decode cX2_copyFrom 103 = .ok (.putfield 61, 3) := by decide +kernel
theorem dX2_copyFrom_106 : decode cX2_copyFrom 106 = .ok (.aload_n 1, 1) := by decide +kernel
theorem dX2_copyFrom_107 : decode cX2_copyFrom 107 = .ok (.getfield 32, 3) := by decide +kernel
theorem dX2_copyFrom_110 : decode cX2_copyFrom 110 = .ok (.iconst 0, 1) := by decide +kernel
theorem dX2_copyFrom_111 : decode cX2_copyFrom 111 = .ok (.aload_n 0, 1) := by decide +kernel
theorem dX2_copyFrom_112 : decode cX2_copyFrom 112 = .ok (.getfield 32, 3) := by decide +kernel
theorem dX2_copyFrom_115 : decode cX2_copyFrom 115 = .ok (.iconst 0, 1) := by decide +kernel
theorem dX2_copyFrom_116 : decode cX2_copyFrom 116 = .ok (.aload_n 0, 1) := by decide +kernel
theorem dX2_copyFrom_117 : decode cX2_copyFrom 117 = .ok (.getfield 61, 3) := by decide +kernel
theorem dX2_copyFrom_120 : decode cX2_copyFrom 120 = .ok (.invokestatic 64, 3) := by decide +kernel
theorem dX2_copyFrom_123 : decode cX2_copyFrom 123 = .ok (.aload_n 0, 1) := by decide +kernel
theorem dX2_copyFrom_124 : decode cX2_copyFrom 124 = .ok (.aload_n 1, 1) := by decide +kernel
theorem dX2_copyFrom_125 : decode cX2_copyFrom 125 = .ok (.getfield 70, 3) := by decide +kernel
theorem dX2_copyFrom_128 : decode cX2_copyFrom 128 = .ok (.putfield 70, 3) := by decide +kernel
theorem dX2_copyFrom_131 : decode cX2_copyFrom 131 = .ok (.aload_n 1, 1) := by decide +kernel
theorem dX2_copyFrom_132 : decode cX2_copyFrom 132 = .ok (.getfield 36, 3) := by decide +kernel
theorem dX2_copyFrom_135 : decode cX2_copyFrom 135 = .ok (.iconst 0, 1) := by decide +kernel
theorem dX2_copyFrom_136 : decode cX2_copyFrom 136 = .ok (.aload_n 0, 1) := by decide +kernel
theorem dX2_copyFrom_137 : decode cX2_copyFrom 137 = .ok (.getfield 36, 3) := by decide +kernel
theorem dX2_copyFrom_140 : decode cX2_copyFrom 140 = .ok (.iconst 0, 1) := by decide +kernel
theorem dX2_copyFrom_141 : decode cX2_copyFrom 141 = .ok (.aload_n 0, 1) := by decide +kernel
theorem dX2_copyFrom_142 : decode cX2_copyFrom 142 = .ok (.getfield 70, 3) := by decide +kernel
theorem dX2_copyFrom_145 : decode cX2_copyFrom 145 = .ok (.bipush 10, 2) := by decide +kernel
theorem dX2_copyFrom_147 : decode cX2_copyFrom 147 = .ok (.imul, 1) := by decide +kernel
theorem dX2_copyFrom_148 : decode cX2_copyFrom 148 = .ok (.invokestatic 64, 3) := by decide +kernel
theorem dX2_copyFrom_151 : decode cX2_copyFrom 151 = .ok (.aload_n 0, 1) := by decide +kernel
theorem dX2_copyFrom_152 : decode cX2_copyFrom 152 = .ok (.aload_n 1, 1) := by decide +kernel
theorem dX2_copyFrom_153 : decode cX2_copyFrom 153 = .ok (.getfield 73, 3) := by decide +kernel
theorem dX2_copyFrom_156 : decode cX2_copyFrom 156 = .ok (.putfield 73, 3) := by decide +kernel
theorem dX2_copyFrom_159 : decode cX2_copyFrom 159 = .ok (.aload_n 0, 1) := by decide +kernel
theorem dX2_copyFrom_160 : decode cX2_copyFrom 160 = .ok (.aload_n 1, 1) := by decide +kernel
theorem dX2_copyFrom_161 : decode cX2_copyFrom 161 = .ok (.getfield 76, 3) := by decide +kernel
theorem dX2_copyFrom_164 : decode cX2_copyFrom 164 = .ok (.putfield 76, 3) := by decide +kernel
theorem dX2_copyFrom_167 : decode cX2_copyFrom 167 = .ok (.aload_n 0, 1) := by decide +kernel
theorem dX2_copyFrom_168 : decode cX2_copyFrom 168 = .ok (.aload_n 1, 1) := by decide +kernel
theorem dX2_copyFrom_169 : decode cX2_copyFrom 169 = .ok (.getfield 79, 3) := by decide +kernel
theorem dX2_copyFrom_172 : decode cX2_copyFrom 172 = .ok (.putfield 79, 3) := by decide +kernel
theorem dX2_copyFrom_175 : decode cX2_copyFrom 175 = .ok (.return_, 1) := by decide +kernel
set_option maxRecDepth 20000 in
theorem ggX2_goBack_X1_clearAmounts : GoodIn wsX2_goBack wsX1_clearAmounts := goodIn_r _ [12, 13, 14, 45, 46, 47, 48, 49, 50] (by decide +kernel) (by decide +kernel)
set_option maxRecDepth 20000 in
theorem gX2_goBack_X1_clearAmounts : GoodIn wsX2_goBack (wsV RX2 83 RX1 yX1_clearAmounts wsX1_clearAmounts) := goodIn_app (goodIn_of _ (by decide +kernel)) ggX2_goBack_X1_clearAmounts
set_option maxRecDepth 20000 in
theorem ggX2_goBack_X4_clearAmounts : GoodIn wsX2_goBack wsX4_clearAmounts := goodIn_r _ [19, 20, 21, 22, 23, 24, 25, 26, 27, 28, 51, 52, 53, 54, 55, 56, 57] (by decide +kernel) (by decide +kernel)
set_option maxRecDepth 20000 in
theorem gX2_goBack_X4_clearAmounts : GoodIn wsX2_goBack (wsV RX2 86 RX4 yX4_clearAmounts wsX4_clearAmounts) := goodIn_app (goodIn_of _ (by decide +kernel)) ggX2_goBack_X4_clearAmounts
theorem dX2_goBack_0 : decode cX2_goBack 0 = .ok (.aload_n 0, 1) := by decide +kernel
theorem dX2_goBack_1 : decode cX2_goBack 1 = .ok (.iconst 0, 1) := by decide +kernel
theorem dX2_goBack_2 : decode cX2_goBack 2 = .ok (.putfield 70, 3) := by decide +kernel
theorem dX2_goBack_5 : decode cX2_goBack 5 = .ok (.aload_n 0, 1) := by decide +kernel
theorem dX2_goBack_6 : decode cX2_goBack 6 = .ok (.iconst 0, 1) := by decide +kernel
theorem dX2_goBack_7 : decode cX2_goBack 7 = .ok (.putfield 73, 3) := by decide +kernel
theorem dX2_goBack_10 : decode cX2_goBack 10 = .ok (.aload_n 0, 1) := by decide +kernel
theorem dX2_goBack_11 : decode cX2_goBack 11 = .ok (.iconst 0, 1) := by decide +kernel
theorem dX2_goBack_12 : decode cX2_goBack 12 = .ok (.putfield 76, 3) := by decide +kernel
theorem dX2_goBack_15 : decode cX2_goBack 15 = .ok (.aload_n 0, 1) := by decide +kernel
theorem dX2_goBack_16 : decode cX2_goBack 16 = .ok (.lconst 0, 1) := by decide +kernel
theorem dX2_goBack_17 : decode cX2_goBack 17 = .ok (.putfield 79, 3) := by decide +kernel
theorem dX2_goBack_20 : decode cX2_goBack 20 = .ok (.iconst 0, 1) := by decide +kernel
theorem dX2_goBack_21 : decode cX2_goBack 21 = .ok (.istore_n 1, 1) := by decide +kernel
theorem dX2_goBack_22 : decode cX2_goBack 22 = .ok (.iload_n 1, 1) := by decide +kernel
theorem dX2_goBack_23 : decode cX2_goBack 23 = .ok (.aload_n 0, 1) := by decide +kernel
theorem dX2_goBack_24 : decode cX2_goBack 24 = .ok (.getfield 51, 3) := by decide +kernel
theorem dX2_goBack_27 : decode cX2_goBack 27 = .ok (.if_icmp .ge 18, 3) := by decide +kernel
theorem dX2_goBack_30 : decode cX2_goBack 30 = .ok (.aload_n 0, 1) := by decide +kernel
theorem dX2_goBack_31 : decode cX2_goBack 31 = .ok (.getfield 20, 3) := by decide +kernel
theorem dX2_goBack_34 : decode cX2_goBack 34 = .ok (.iload_n 1, 1) := by decide +kernel
theorem dX2_goBack_35 : decode cX2_goBack 35 = .ok (.aaload, 1) := by decide +kernel
theorem dX2_goBack_36 : decode cX2_goBack 36 = .ok (.invokevirtual 83, 3) := by decide +kernel
theorem dX2_goBack_39 : decode cX2_goBack 39 = .ok (.iinc 1 1, 3) := by decide +kernel
theorem dX2_goBack_42 : decode cX2_goBack 42 = .ok (.goto (-20), 3) := by decide +kernel
theorem dX2_goBack_45 : decode cX2_goBack 45 = .ok (.aload_n 0, 1) := by decide +kernel
theorem dX2_goBack_46 : decode cX2_goBack 46 = .ok (.getfield 28, 3) := by decide +kernel
theorem dX2_goBack_49 : decode cX2_goBack 49 = .ok (.invokevirtual 86, 3) := by decide +kernel
theorem dX2_goBack_52 : decode cX2_goBack 52 = .ok (.return_, 1) := by decide +kernel
theorem dX2_settingValue_0 : decode cX2_settingValue 0 = .ok (.iload_n 1, 1) := by decide +kernel
theorem dX2_settingValue_1 : decode cX2_settingValue 1 = .ok (.tableswitch 117 0 10 #[59, 64, 69, 74, 79, 84, 89, 94, 102, 107, 112], 59) := by decide +kernel
theorem dX2_settingValue_60 : decode cX2_settingValue 60 = .ok (.aload_n 0, 1) := by decide +kernel
theorem dX2_settingValue_61 : decode cX2_settingValue 61 = .ok (.getfield 9, 3) := by decide +kernel
theorem dX2_settingValue_64 : decode cX2_settingValue 64 = .ok (.ireturn, 1) := by decide +kernel
theorem dX2_settingValue_65 : decode cX2_settingValue 65 = .ok (.aload_n 0, 1) := by decide +kernel
theorem dX2_settingValue_66 : decode cX2_settingValue 66 = .ok (.getfield 39, 3) := by decide +kernel
theorem dX2_settingValue_69 : decode cX2_settingValue 69 = .ok (.ireturn, 1) := by decide +kernel
theorem dX2_settingValue_70 : decode cX2_settingValue 70 = .ok (.aload_n 0, 1) := by decide +kernel
theorem dX2_settingValue_71 : decode cX2_settingValue 71 = .ok (.getfield 42, 3) := by decide +kernel
theorem dX2_settingValue_74 : decode cX2_settingValue 74 = .ok (.ireturn, 1) := by decide +kernel
theorem dX2_settingValue_75 : decode cX2_settingValue 75 = .ok (.aload_n 0, 1) := by decide +kernel
theorem dX2_settingValue_76 : decode cX2_settingValue 76 = .ok (.getfield 45, 3) := by decide +kernel
theorem dX2_settingValue_79 : decode cX2_settingValue 79 = .ok (.ireturn, 1) := by decide +kernel
theorem dX2_settingValue_80 : decode cX2_settingValue 80 = .ok (.aload_n 0, 1) := by decide +kernel
theorem dX2_settingValue_81 : decode cX2_settingValue 81 = .ok (.getfield 15, 3) := by decide +kernel
theorem dX2_settingValue_84 : decode cX2_settingValue 84 = .ok (.ireturn, 1) := by decide +kernel
theorem dX2_settingValue_85 : decode cX2_settingValue 85 = .ok (.aload_n 0, 1) := by decide +kernel
theorem dX2_settingValue_86 : decode cX2_settingValue 86 = .ok (.getfield 48, 3) := by decide +kernel
theorem dX2_settingValue_89 : decode cX2_settingValue 89 = .ok (.ireturn, 1) := by decide +kernel
theorem dX2_settingValue_90 : decode cX2_settingValue 90 = .ok (.aload_n 0, 1) := by decide +kernel
theorem dX2_settingValue_91 : decode cX2_settingValue 91 = .ok (.getfield 51, 3) := by decide +kernel
theorem dX2_settingValue_94 : decode cX2_settingValue 94 = .ok (.ireturn, 1) := by decide +kernel
theorem dX2_settingValue_95 : decode cX2_settingValue 95 = .ok (.aload_n 0, 1) := by decide +kernel
theorem dX2_settingValue_96 : decode cX2_settingValue 96 = .ok (.getfield 28, 3) := by decide +kernel
theorem dX2_settingValue_99 : decode cX2_settingValue 99 = .ok (.getfield 87, 3) := by decide +kernel
theorem dX2_settingValue_102 : decode cX2_settingValue 102 = .ok (.ireturn, 1) := by decide +kernel
theorem dX2_settingValue_103 : decode cX2_settingValue 103 = .ok (.aload_n 0, 1) := by decide +kernel
theorem dX2_settingValue_104 : decode cX2_settingValue 104 = .ok (.getfield 61, 3) := by decide +kernel
theorem dX2_settingValue_107 : decode cX2_settingValue 107 = .ok (.ireturn, 1) := by decide +kernel
theorem dX2_settingValue_108 : decode cX2_settingValue 108 = .ok (.aload_n 0, 1) := by decide +kernel
theorem dX2_settingValue_109 : decode cX2_settingValue 109 = .ok (.getfield 70, 3) := by decide +kernel
theorem dX2_settingValue_112 : decode cX2_settingValue 112 = .ok (.ireturn, 1) := by decide +kernel
theorem dX2_settingValue_113 : decode cX2_settingValue 113 = .ok (.aload_n 0, 1) := by decide +kernel
theorem dX2_settingValue_114 : decode cX2_settingValue 114 = .ok (.getfield 73, 3) := by decide +kernel
theorem dX2_settingValue_117 : decode cX2_settingValue 117 = .ok (.ireturn, 1) := by decide +kernel
theorem dX2_settingValue_118 : decode cX2_settingValue 118 = .ok (.aload_n 0, 1) := by decide +kernel
theorem dX2_settingValue_119 : decode cX2_settingValue 119 = .ok (.getfield 76, 3) := by decide +kernel
theorem dX2_settingValue_122 : decode cX2_settingValue 122 = .ok (.ireturn, 1) := by decide +kernel
theorem dX2_putRain_0 : decode cX2_putRain 0 = .ok (.aload_n 0, 1) := by decide +kernel
theorem dX2_putRain_1 : decode cX2_putRain 1 = .ok (.getfield 32, 3) := by decide +kernel
theorem dX2_putRain_4 : decode cX2_putRain 4 = .ok (.aload_n 0, 1) := by decide +kernel
theorem dX2_putRain_5 : decode cX2_putRain 5 = .ok (.getfield 61, 3) := by decide +kernel
theorem dX2_putRain_8 : decode cX2_putRain 8 = .ok (.iload_n 1, 1) := by decide +kernel
theorem dX2_putRain_9 : decode cX2_putRain 9 = .ok (.iastore, 1) := by decide +kernel
theorem dX2_putRain_10 : decode cX2_putRain 10 = .ok (.aload_n 0, 1) := by decide +kernel
theorem dX2_putRain_11 : decode cX2_putRain 11 = .ok (.dup, 1) := by decide +kernel
theorem dX2_putRain_12 : decode cX2_putRain 12 = .ok (.getfield 61, 3) := by decide +kernel
theorem dX2_putRain_15 : decode cX2_putRain 15 = .ok (.iconst 1, 1) := by decide +kernel
theorem dX2_putRain_16 : decode cX2_putRain 16 = .ok (.iadd, 1) := by decide +kernel
theorem dX2_putRain_17 : decode cX2_putRain 17 = .ok (.putfield 61, 3) := by decide +kernel
theorem dX2_putRain_20 : decode cX2_putRain 20 = .ok (.return_, 1) := by decide +kernel
theorem dX2_account_0 : decode cX2_account 0 = .ok (.aload_n 0, 1) := by decide +kernel
theorem dX2_account_1 : decode cX2_account 1 = .ok (.getfield 36, 3) := by decide +kernel
theorem dX2_account_4 : decode cX2_account 4 = .ok (.iload_n 1, 1) := by decide +kernel
theorem dX2_account_5 : decode cX2_account 5 = .ok (.bipush 10, 2) := by decide +kernel
theorem dX2_account_7 : decode cX2_account 7 = .ok (.imul, 1) := by decide +kernel
theorem dX2_account_8 : decode cX2_account 8 = .ok (.iload_n 2, 1) := by decide +kernel
theorem dX2_account_9 : decode cX2_account 9 = .ok (.iadd, 1) := by decide +kernel
theorem dX2_account_10 : decode cX2_account 10 = .ok (.iaload, 1) := by decide +kernel
theorem dX2_account_11 : decode cX2_account 11 = .ok (.ireturn, 1) := by decide +kernel
set_option maxRecDepth 20000 in
theorem ggX2_isShort_X2_account : GoodIn wsX2_isShort wsX2_account := goodIn_r _ [5, 6, 7, 8, 9, 10, 11, 12, 13, 14, 15, 16, 17, 18, 19, 20, 21, 22] (by decide +kernel) (by decide +kernel)
set_option maxRecDepth 20000 in
theorem gX2_isShort_X2_account : GoodIn wsX2_isShort (wsV RX2 90 RX2 yX2_account wsX2_account) := goodIn_app (goodIn_of _ (by decide +kernel)) ggX2_isShort_X2_account
theorem dX2_isShort_0 : decode cX2_isShort 0 = .ok (.aload_n 0, 1) := by decide +kernel
theorem dX2_isShort_1 : decode cX2_isShort 1 = .ok (.iload_n 1, 1) := by decide +kernel
theorem dX2_isShort_2 : decode cX2_isShort 2 = .ok (.bipush 7, 2) := by decide +kernel
theorem dX2_isShort_4 : decode cX2_isShort 4 = .ok (.invokevirtual 90, 3) := by decide +kernel
theorem dX2_isShort_7 : decode cX2_isShort 7 = .ok (.ifCond .le 7, 3) := by decide +kernel
theorem dX2_isShort_10 : decode cX2_isShort 10 = .ok (.iconst 1, 1) := by decide +kernel
theorem dX2_isShort_11 : decode cX2_isShort 11 = .ok (.goto 4, 3) := by decide +kernel
theorem dX2_isShort_14 : decode cX2_isShort 14 = .ok (.iconst 0, 1) := by decide +kernel
theorem dX2_isShort_15 : decode cX2_isShort 15 = .ok (.ireturn, 1) := by decide +kernel
theorem dX2_dropAboveCapacity_0 : decode cX2_dropAboveCapacity 0 = .ok (.aload_n 0, 1) := by decide +kernel
theorem dX2_dropAboveCapacity_1 : decode cX2_dropAboveCapacity 1 = .ok (.getfield 73, 3) := by decide +kernel
theorem dX2_dropAboveCapacity_4 : decode cX2_dropAboveCapacity 4 = .ok (.aload_n 0, 1) := by decide +kernel
theorem dX2_dropAboveCapacity_5 : decode cX2_dropAboveCapacity 5 = .ok (.getfield 9, 3) := by decide +kernel
theorem dX2_dropAboveCapacity_8 : decode cX2_dropAboveCapacity 8 = .ok (.isub, 1) := by decide +kernel
theorem dX2_dropAboveCapacity_9 : decode cX2_dropAboveCapacity 9 = .ok (.iconst 0, 1) := by decide +kernel
theorem dX2_dropAboveCapacity_10 : decode cX2_dropAboveCapacity 10 = .ok (.invokestatic 94, 3) := by decide +kernel
theorem dX2_dropAboveCapacity_13 : decode cX2_dropAboveCapacity 13 = .ok (.istore_n 1, 1) := by decide +kernel
theorem dX2_dropAboveCapacity_14 : decode cX2_dropAboveCapacity 14 = .ok (.aload_n 0, 1) := by decide +kernel
theorem dX2_dropAboveCapacity_15 : decode cX2_dropAboveCapacity 15 = .ok (.dup, 1) := by decide +kernel
theorem dX2_dropAboveCapacity_16 : decode cX2_dropAboveCapacity 16 = .ok (.getfield 73, 3) := by decide +kernel
theorem dX2_dropAboveCapacity_19 : decode cX2_dropAboveCapacity 19 = .ok (.iload_n 1, 1) := by decide +kernel
theorem dX2_dropAboveCapacity_20 : decode cX2_dropAboveCapacity 20 = .ok (.isub, 1) := by decide +kernel
theorem dX2_dropAboveCapacity_21 : decode cX2_dropAboveCapacity 21 = .ok (.putfield 73, 3) := by decide +kernel
theorem dX2_dropAboveCapacity_24 : decode cX2_dropAboveCapacity 24 = .ok (.iload_n 1, 1) := by decide +kernel
theorem dX2_dropAboveCapacity_25 : decode cX2_dropAboveCapacity 25 = .ok (.ireturn, 1) := by decide +kernel
set_option maxRecDepth 20000 in
theorem ggX2_collect_X2_drainWhenDry : GoodIn wsX2_collect wsX2_drainWhenDry := goodIn_r _ [8, 9, 10, 2, 3, 11, 12, 13, 14, 15, 16, 46, 47, 48, 49, 50, 51, 52, 53, 54, 55, 56, 57, 58, 59, 60, 61, 62, 63, 64, 65, 66, 67] (by decide +kernel) (by decide +kernel)
set_option maxRecDepth 20000 in
theorem gX2_collect_X2_drainWhenDry : GoodIn wsX2_collect (wsV RX2 99 RX2 yX2_drainWhenDry wsX2_drainWhenDry) := goodIn_app (goodIn_of _ (by decide +kernel)) ggX2_collect_X2_drainWhenDry
set_option maxRecDepth 20000 in
theorem ggX2_collect_X1_caught : GoodIn wsX2_collect wsX1_caught := goodIn_r _ [20, 21, 22, 62, 63, 64, 65, 66, 67] (by decide +kernel) (by decide +kernel)
set_option maxRecDepth 20000 in
theorem gX2_collect_X1_caught : GoodIn wsX2_collect (wsV RX2 103 RX1 yX1_caught wsX1_caught) := goodIn_app (goodIn_of _ (by decide +kernel)) ggX2_collect_X1_caught
set_option maxRecDepth 20000 in
theorem ggX2_collect_X1_divert : GoodIn wsX2_collect wsX1_divert := goodIn_r _ [26, 27, 16, 28, 29, 30, 31, 62, 63, 64, 65, 66, 67] (by decide +kernel) (by decide +kernel)
set_option maxRecDepth 20000 in
theorem gX2_collect_X1_divert : GoodIn wsX2_collect (wsV RX2 106 RX1 yX1_divert wsX1_divert) := goodIn_app (goodIn_of _ (by decide +kernel)) ggX2_collect_X1_divert
set_option maxRecDepth 20000 in
theorem ggX2_collect_X1_spill : GoodIn wsX2_collect wsX1_spill := goodIn_r _ [35, 36, 37, 38, 30, 39, 40, 62, 63, 64, 65, 66, 67] (by decide +kernel) (by decide +kernel)
set_option maxRecDepth 20000 in
theorem gX2_collect_X1_spill : GoodIn wsX2_collect (wsV RX2 109 RX1 yX1_spill wsX1_spill) := goodIn_app (goodIn_of _ (by decide +kernel)) ggX2_collect_X1_spill
set_option maxRecDepth 20000 in
theorem ggX2_collect_X2_put : GoodIn wsX2_collect wsX2_put := goodIn_r _ [44, 45, 46, 47, 48, 49, 50, 51, 52, 53, 54, 55, 56, 57, 58, 59, 60, 61] (by decide +kernel) (by decide +kernel)
set_option maxRecDepth 20000 in
theorem gX2_collect_X2_put : GoodIn wsX2_collect (wsV RX2 112 RX2 yX2_put wsX2_put) := goodIn_app (goodIn_of _ (by decide +kernel)) ggX2_collect_X2_put
theorem dX2_collect_0 : decode cX2_collect 0 = .ok (.aload_n 0, 1) := by decide +kernel
theorem dX2_collect_1 : decode cX2_collect 1 = .ok (.getfield 32, 3) := by decide +kernel
theorem dX2_collect_4 : decode cX2_collect 4 = .ok (.iload_n 1, 1) := by decide +kernel
theorem dX2_collect_5 : decode cX2_collect 5 = .ok (.iaload, 1) := by decide +kernel
theorem dX2_collect_6 : decode cX2_collect 6 = .ok (.istore_n 2, 1) := by decide +kernel
theorem dX2_collect_7 : decode cX2_collect 7 = .ok (.aload_n 0, 1) := by decide +kernel
theorem dX2_collect_8 : decode cX2_collect 8 = .ok (.iload_n 2, 1) := by decide +kernel
theorem dX2_collect_9 : decode cX2_collect 9 = .ok (.invokevirtual 99, 3) := by decide +kernel
theorem dX2_collect_12 : decode cX2_collect 12 = .ok (.istore_n 3, 1) := by decide +kernel
theorem dX2_collect_13 : decode cX2_collect 13 = .ok (.iconst 0, 1) := by decide +kernel
theorem dX2_collect_14 : decode cX2_collect 14 = .ok (.istore 4, 2) := by decide +kernel
theorem dX2_collect_16 : decode cX2_collect 16 = .ok (.iconst 0, 1) := by decide +kernel
theorem dX2_collect_17 : decode cX2_collect 17 = .ok (.istore 5, 2) := by decide +kernel
theorem dX2_collect_19 : decode cX2_collect 19 = .ok (.iconst 0, 1) := by decide +kernel
theorem dX2_collect_20 : decode cX2_collect 20 = .ok (.istore 6, 2) := by decide +kernel
theorem dX2_collect_22 : decode cX2_collect 22 = .ok (.iconst 0, 1) := by decide +kernel
theorem dX2_collect_23 : decode cX2_collect 23 = .ok (.istore 7, 2) := by decide +kernel
theorem dX2_collect_25 : decode cX2_collect 25 = .ok (.iload 7, 2) := by decide +kernel
theorem dX2_collect_27 : decode cX2_collect 27 = .ok (.aload_n 0, 1) := by decide +kernel
theorem dX2_collect_28 : decode cX2_collect 28 = .ok (.getfield 51, 3) := by decide +kernel
theorem dX2_collect_31 : decode cX2_collect 31 = .ok (.if_icmp .ge 80, 3) := by decide +kernel
theorem dX2_collect_34 : decode cX2_collect 34 = .ok (.aload_n 0, 1) := by decide +kernel
theorem dX2_collect_35 : decode cX2_collect 35 = .ok (.getfield 20, 3) := by decide +kernel
theorem dX2_collect_38 : decode cX2_collect 38 = .ok (.iload 7, 2) := by decide +kernel
theorem dX2_collect_40 : decode cX2_collect 40 = .ok (.aaload, 1) := by decide +kernel
theorem dX2_collect_41 : decode cX2_collect 41 = .ok (.iload_n 2, 1) := by decide +kernel
theorem dX2_collect_42 : decode cX2_collect 42 = .ok (.invokevirtual 103, 3) := by decide +kernel
theorem dX2_collect_45 : decode cX2_collect 45 = .ok (.istore 8, 2) := by decide +kernel
theorem dX2_collect_47 : decode cX2_collect 47 = .ok (.aload_n 0, 1) := by decide +kernel
theorem dX2_collect_48 : decode cX2_collect 48 = .ok (.getfield 20, 3) := by decide +kernel
theorem dX2_collect_51 : decode cX2_collect 51 = .ok (.iload 7, 2) := by decide +kernel
theorem dX2_collect_53 : decode cX2_collect 53 = .ok (.aaload, 1) := by decide +kernel
theorem dX2_collect_54 : decode cX2_collect 54 = .ok (.iload 8, 2) := by decide +kernel
theorem dX2_collect_56 : decode cX2_collect 56 = .ok (.invokevirtual 106, 3) := by decide +kernel
theorem dX2_collect_59 : decode cX2_collect 59 = .ok (.istore 9, 2) := by decide +kernel
theorem dX2_collect_61 : decode cX2_collect 61 = .ok (.aload_n 0, 1) := by decide +kernel
theorem dX2_collect_62 : decode cX2_collect 62 = .ok (.getfield 20, 3) := by decide +kernel
theorem dX2_collect_65 : decode cX2_collect 65 = .ok (.iload 7, 2) := by decide +kernel
theorem dX2_collect_67 : decode cX2_collect 67 = .ok (.aaload, 1) := by decide +kernel
theorem dX2_collect_68 : decode cX2_collect 68 = .ok (.iload 8, 2) := by decide +kernel
theorem dX2_collect_70 : decode cX2_collect 70 = .ok (.iload 9, 2) := by decide +kernel
theorem dX2_collect_72 : decode cX2_collect 72 = .ok (.isub, 1) := by decide +kernel
theorem dX2_collect_73 : decode cX2_collect 73 = .ok (.invokevirtual 109, 3) := by decide +kernel
theorem dX2_collect_76 : decode cX2_collect 76 = .ok (.istore 10, 2) := by decide +kernel
theorem dX2_collect_78 : decode cX2_collect 78 = .ok (.iload 4, 2) := by decide +kernel
theorem dX2_collect_80 : decode cX2_collect 80 = .ok (.iload 8, 2) := by decide +kernel
theorem dX2_collect_82 : decode cX2_collect 82 = .ok (.iload 9, 2) := by decide +kernel
theorem dX2_collect_84 : decode cX2_collect 84 = .ok (.isub, 1) := by decide +kernel
theorem dX2_collect_85 : decode cX2_collect 85 = .ok (.iload 10, 2) := by decide +kernel
theorem dX2_collect_87 : decode cX2_collect 87 = .ok (.isub, 1) := by decide +kernel
theorem dX2_collect_88 : decode cX2_collect 88 = .ok (.iadd, 1) := by decide +kernel
theorem dX2_collect_89 : decode cX2_collect 89 = .ok (.istore 4, 2) := by decide +kernel
theorem dX2_collect_91 : decode cX2_collect 91 = .ok (.iload 5, 2) := by decide +kernel
theorem dX2_collect_93 : decode cX2_collect 93 = .ok (.iload 9, 2) := by decide +kernel
theorem dX2_collect_95 : decode cX2_collect 95 = .ok (.iadd, 1) := by decide +kernel
theorem dX2_collect_96 : decode cX2_collect 96 = .ok (.istore 5, 2) := by decide +kernel
theorem dX2_collect_98 : decode cX2_collect 98 = .ok (.iload 6, 2) := by decide +kernel
theorem dX2_collect_100 : decode cX2_collect 100 = .ok (.iload 10, 2) := by decide +kernel
theorem dX2_collect_102 : decode cX2_collect 102 = .ok (.iadd, 1) := by decide +kernel
theorem dX2_collect_103 : decode cX2_collect 103 = .ok (.istore 6, 2) := by decide +kernel
theorem dX2_collect_105 : decode cX2_collect 105 = .ok (.iinc 7 1, 3) := by decide +kernel
theorem dX2_collect_108 : decode cX2_collect 108 = .ok (.goto (-83), 3) := by decide +kernel
theorem dX2_collect_111 : decode cX2_collect 111 = .ok (.aload_n 0, 1) := by decide +kernel
theorem dX2_collect_112 : decode cX2_collect 112 = .ok (.iload_n 1, 1) := by decide +kernel
theorem dX2_collect_113 : decode cX2_collect 113 = .ok (.iconst 1, 1) := by decide +kernel
theorem dX2_collect_114 : decode cX2_collect 114 = .ok (.iload 4, 2) := by decide +kernel
theorem dX2_collect_116 : decode cX2_collect 116 = .ok (.invokevirtual 112, 3) := by decide +kernel
theorem dX2_collect_119 : decode cX2_collect 119 = .ok (.aload_n 0, 1) := by decide +kernel
theorem dX2_collect_120 : decode cX2_collect 120 = .ok (.iload_n 1, 1) := by decide +kernel
theorem dX2_collect_121 : decode cX2_collect 121 = .ok (.iconst 2, 1) := by decide +kernel
theorem dX2_collect_122 : decode cX2_collect 122 = .ok (.iload 5, 2) := by decide +kernel
theorem dX2_collect_124 : decode cX2_collect 124 = .ok (.invokevirtual 112, 3) := by decide +kernel
theorem dX2_collect_127 : decode cX2_collect 127 = .ok (.aload_n 0, 1) := by decide +kernel
theorem dX2_collect_128 : decode cX2_collect 128 = .ok (.iload_n 1, 1) := by decide +kernel
theorem dX2_collect_129 : decode cX2_collect 129 = .ok (.iconst 3, 1) := by decide +kernel
theorem dX2_collect_130 : decode cX2_collect 130 = .ok (.iload 6, 2) := by decide +kernel
theorem dX2_collect_132 : decode cX2_collect 132 = .ok (.invokevirtual 112, 3) := by decide +kernel
theorem dX2_collect_135 : decode cX2_collect 135 = .ok (.aload_n 0, 1) := by decide +kernel
theorem dX2_collect_136 : decode cX2_collect 136 = .ok (.iload_n 1, 1) := by decide +kernel
theorem dX2_collect_137 : decode cX2_collect 137 = .ok (.bipush 9, 2) := by decide +kernel
theorem dX2_collect_139 : decode cX2_collect 139 = .ok (.iload_n 3, 1) := by decide +kernel
theorem dX2_collect_140 : decode cX2_collect 140 = .ok (.invokevirtual 112, 3) := by decide +kernel
theorem dX2_collect_143 : decode cX2_collect 143 = .ok (.return_, 1) := by decide +kernel
set_option maxRecDepth 20000 in
theorem ggX2_serve_X2_account : GoodIn wsX2_serve wsX2_account := goodIn_r _ [15, 16, 95, 96, 97, 98, 99, 100, 101, 102, 103, 104, 105, 106, 107, 108, 109, 110] (by decide +kernel) (by decide +kernel)
set_option maxRecDepth 20000 in
theorem gX2_serve_X2_account : GoodIn wsX2_serve (wsV RX2 90 RX2 yX2_account wsX2_account) := goodIn_app (goodIn_of _ (by decide +kernel)) ggX2_serve_X2_account
set_option maxRecDepth 20000 in
theorem ggX2_serve_X2_dropAboveCapacity : GoodIn wsX2_serve wsX2_dropAboveCapacity := goodIn_r _ [20, 1, 21, 5, 6, 7, 8, 95, 96, 97, 98, 99, 100, 101, 102, 103, 104, 105, 106, 107, 108, 109, 110] (by decide +kernel) (by decide +kernel)
set_option maxRecDepth 20000 in
theorem gX2_serve_X2_dropAboveCapacity : GoodIn wsX2_serve (wsV RX2 116 RX2 yX2_dropAboveCapacity wsX2_dropAboveCapacity) := goodIn_app (goodIn_of _ (by decide +kernel)) ggX2_serve_X2_dropAboveCapacity
set_option maxRecDepth 20000 in
theorem ggX2_serve_X2_put : GoodIn wsX2_serve wsX2_put := goodIn_r _ [25, 16, 95, 96, 97, 98, 99, 100, 101, 102, 103, 104, 105, 106, 107, 108, 109, 110] (by decide +kernel) (by decide +kernel)
set_option maxRecDepth 20000 in
theorem gX2_serve_X2_put : GoodIn wsX2_serve (wsV RX2 112 RX2 yX2_put wsX2_put) := goodIn_app (goodIn_of _ (by decide +kernel)) ggX2_serve_X2_put
set_option maxRecDepth 20000 in
theorem ggX2_serve_X4_handOut : GoodIn wsX2_serve wsX4_handOut := goodIn_r _ [30, 31, 32, 33, 34, 35, 36, 37, 29, 38, 39, 40, 41, 42, 43, 44, 45, 46, 47, 48, 49, 50, 51, 52, 53, 54, 55, 7, 56, 57, 58, 59, 60, 61, 62, 63, 64, 65, 66, 67, 68, 69, 70, 71, 72, 73, 74, 75, 76, 77, 78, 79, 80, 81, 82, 83, 84, 85, 86, 87, 88, 89, 90, 91, 92, 93, 111, 112, 113, 114, 115, 116, 117] (by decide +kernel) (by decide +kernel)
set_option maxRecDepth 20000 in
theorem gX2_serve_X4_handOut : GoodIn wsX2_serve (wsV RX2 120 RX4 yX4_handOut wsX4_handOut) := goodIn_app (goodIn_of _ (by decide +kernel)) ggX2_serve_X4_handOut
set_option maxRecDepth 20000 in
theorem ggX2_serve_X4_demandInAll : GoodIn wsX2_serve wsX4_demandInAll := goodIn_r _ [38, 31, 32, 39, 111, 112, 113, 114, 115, 116, 117] (by decide +kernel) (by decide +kernel)
set_option maxRecDepth 20000 in
theorem gX2_serve_X4_demandInAll : GoodIn wsX2_serve (wsV RX2 123 RX4 yX4_demandInAll wsX4_demandInAll) := goodIn_app (goodIn_of _ (by decide +kernel)) ggX2_serve_X4_demandInAll
theorem dX2_serve_0 : decode cX2_serve 0 = .ok (.aload_n 0, 1) := by decide +kernel
theorem dX2_serve_1 : decode cX2_serve 1 = .ok (.dup, 1) := by decide +kernel
theorem dX2_serve_2 : decode cX2_serve 2 = .ok (.getfield 73, 3) := by decide +kernel
theorem dX2_serve_5 : decode cX2_serve 5 = .ok (.aload_n 0, 1) := by decide +kernel
theorem dX2_serve_6 : decode cX2_serve 6 = .ok (.iload_n 1, 1) := by decide +kernel
theorem dX2_serve_7 : decode cX2_serve 7 = .ok (.iconst 1, 1) := by decide +kernel
theorem dX2_serve_8 : decode cX2_serve 8 = .ok (.invokevirtual 90, 3) := by decide +kernel
theorem dX2_serve_11 : decode cX2_serve 11 = .ok (.iadd, 1) := by decide +kernel
theorem dX2_serve_12 : decode cX2_serve 12 = .ok (.putfield 73, 3) := by decide +kernel
theorem dX2_serve_15 : decode cX2_serve 15 = .ok (.aload_n 0, 1) := by decide +kernel
theorem dX2_serve_16 : decode cX2_serve 16 = .ok (.iload_n 1, 1) := by decide +kernel
theorem dX2_serve_17 : decode cX2_serve 17 = .ok (.iconst 4, 1) := by decide +kernel
theorem dX2_serve_18 : decode cX2_serve 18 = .ok (.aload_n 0, 1) := by decide +kernel
theorem dX2_serve_19 : decode cX2_serve 19 = .ok (.invokevirtual 116, 3) := by decide +kernel
theorem dX2_serve_22 : decode cX2_serve 22 = .ok (.invokevirtual 112, 3) := by decide +kernel
theorem dX2_serve_25 : decode cX2_serve 25 = .ok (.aload_n 0, 1) := by decide +kernel
theorem dX2_serve_26 : decode cX2_serve 26 = .ok (.getfield 73, 3) := by decide +kernel
theorem dX2_serve_29 : decode cX2_serve 29 = .ok (.aload_n 0, 1) := by decide +kernel
theorem dX2_serve_30 : decode cX2_serve 30 = .ok (.getfield 45, 3) := by decide +kernel
theorem dX2_serve_33 : decode cX2_serve 33 = .ok (.imul, 1) := by decide +kernel
theorem dX2_serve_34 : decode cX2_serve 34 = .ok (.sipush 1000, 3) := by decide +kernel
theorem dX2_serve_37 : decode cX2_serve 37 = .ok (.idiv, 1) := by decide +kernel
theorem dX2_serve_38 : decode cX2_serve 38 = .ok (.istore_n 2, 1) := by decide +kernel
theorem dX2_serve_39 : decode cX2_serve 39 = .ok (.aload_n 0, 1) := by decide +kernel
theorem dX2_serve_40 : decode cX2_serve 40 = .ok (.dup, 1) := by decide +kernel
theorem dX2_serve_41 : decode cX2_serve 41 = .ok (.getfield 73, 3) := by decide +kernel
theorem dX2_serve_44 : decode cX2_serve 44 = .ok (.iload_n 2, 1) := by decide +kernel
theorem dX2_serve_45 : decode cX2_serve 45 = .ok (.isub, 1) := by decide +kernel
theorem dX2_serve_46 : decode cX2_serve 46 = .ok (.putfield 73, 3) := by decide +kernel
theorem dX2_serve_49 : decode cX2_serve 49 = .ok (.aload_n 0, 1) := by decide +kernel
theorem dX2_serve_50 : decode cX2_serve 50 = .ok (.getfield 28, 3) := by decide +kernel
theorem dX2_serve_53 : decode cX2_serve 53 = .ok (.aload_n 0, 1) := by decide +kernel
theorem dX2_serve_54 : decode cX2_serve 54 = .ok (.getfield 73, 3) := by decide +kernel
theorem dX2_serve_57 : decode cX2_serve 57 = .ok (.aload_n 0, 1) := by decide +kernel
theorem dX2_serve_58 : decode cX2_serve 58 = .ok (.getfield 39, 3) := by decide +kernel
theorem dX2_serve_61 : decode cX2_serve 61 = .ok (.isub, 1) := by decide +kernel
theorem dX2_serve_62 : decode cX2_serve 62 = .ok (.iconst 0, 1) := by decide +kernel
theorem dX2_serve_63 : decode cX2_serve 63 = .ok (.invokestatic 94, 3) := by decide +kernel
theorem dX2_serve_66 : decode cX2_serve 66 = .ok (.aload_n 0, 1) := by decide +kernel
theorem dX2_serve_67 : decode cX2_serve 67 = .ok (.getfield 48, 3) := by decide +kernel
theorem dX2_serve_70 : decode cX2_serve 70 = .ok (.invokevirtual 120, 3) := by decide +kernel
theorem dX2_serve_73 : decode cX2_serve 73 = .ok (.istore_n 3, 1) := by decide +kernel
theorem dX2_serve_74 : decode cX2_serve 74 = .ok (.aload_n 0, 1) := by decide +kernel
theorem dX2_serve_75 : decode cX2_serve 75 = .ok (.dup, 1) := by decide +kernel
theorem dX2_serve_76 : decode cX2_serve 76 = .ok (.getfield 73, 3) := by decide +kernel
theorem dX2_serve_79 : decode cX2_serve 79 = .ok (.iload_n 3, 1) := by decide +kernel
theorem dX2_serve_80 : decode cX2_serve 80 = .ok (.isub, 1) := by decide +kernel
theorem dX2_serve_81 : decode cX2_serve 81 = .ok (.putfield 73, 3) := by decide +kernel
theorem dX2_serve_84 : decode cX2_serve 84 = .ok (.aload_n 0, 1) := by decide +kernel
theorem dX2_serve_85 : decode cX2_serve 85 = .ok (.getfield 42, 3) := by decide +kernel
theorem dX2_serve_88 : decode cX2_serve 88 = .ok (.aload_n 0, 1) := by decide +kernel
theorem dX2_serve_89 : decode cX2_serve 89 = .ok (.getfield 73, 3) := by decide +kernel
theorem dX2_serve_92 : decode cX2_serve 92 = .ok (.isub, 1) := by decide +kernel
theorem dX2_serve_93 : decode cX2_serve 93 = .ok (.iconst 0, 1) := by decide +kernel
theorem dX2_serve_94 : decode cX2_serve 94 = .ok (.invokestatic 94, 3) := by decide +kernel
theorem dX2_serve_97 : decode cX2_serve 97 = .ok (.istore 4, 2) := by decide +kernel
theorem dX2_serve_99 : decode cX2_serve 99 = .ok (.aload_n 0, 1) := by decide +kernel
theorem dX2_serve_100 : decode cX2_serve 100 = .ok (.dup, 1) := by decide +kernel
theorem dX2_serve_101 : decode cX2_serve 101 = .ok (.getfield 73, 3) := by decide +kernel
theorem dX2_serve_104 : decode cX2_serve 104 = .ok (.iload 4, 2) := by decide +kernel
theorem dX2_serve_106 : decode cX2_serve 106 = .ok (.iadd, 1) := by decide +kernel
theorem dX2_serve_107 : decode cX2_serve 107 = .ok (.putfield 73, 3) := by decide +kernel
theorem dX2_serve_110 : decode cX2_serve 110 = .ok (.aload_n 0, 1) := by decide +kernel
theorem dX2_serve_111 : decode cX2_serve 111 = .ok (.iload_n 1, 1) := by decide +kernel
theorem dX2_serve_112 : decode cX2_serve 112 = .ok (.iconst 5, 1) := by decide +kernel
theorem dX2_serve_113 : decode cX2_serve 113 = .ok (.iload_n 2, 1) := by decide +kernel
theorem dX2_serve_114 : decode cX2_serve 114 = .ok (.invokevirtual 112, 3) := by decide +kernel
theorem dX2_serve_117 : decode cX2_serve 117 = .ok (.aload_n 0, 1) := by decide +kernel
theorem dX2_serve_118 : decode cX2_serve 118 = .ok (.iload_n 1, 1) := by decide +kernel
theorem dX2_serve_119 : decode cX2_serve 119 = .ok (.bipush 6, 2) := by decide +kernel
theorem dX2_serve_121 : decode cX2_serve 121 = .ok (.iload_n 3, 1) := by decide +kernel
theorem dX2_serve_122 : decode cX2_serve 122 = .ok (.invokevirtual 112, 3) := by decide +kernel
theorem dX2_serve_125 : decode cX2_serve 125 = .ok (.aload_n 0, 1) := by decide +kernel
theorem dX2_serve_126 : decode cX2_serve 126 = .ok (.iload_n 1, 1) := by decide +kernel
theorem dX2_serve_127 : decode cX2_serve 127 = .ok (.bipush 7, 2) := by decide +kernel
theorem dX2_serve_129 : decode cX2_serve 129 = .ok (.aload_n 0, 1) := by decide +kernel
theorem dX2_serve_130 : decode cX2_serve 130 = .ok (.getfield 28, 3) := by decide +kernel
theorem dX2_serve_133 : decode cX2_serve 133 = .ok (.invokevirtual 123, 3) := by decide +kernel
theorem dX2_serve_136 : decode cX2_serve 136 = .ok (.iload_n 3, 1) := by decide +kernel
theorem dX2_serve_137 : decode cX2_serve 137 = .ok (.isub, 1) := by decide +kernel
theorem dX2_serve_138 : decode cX2_serve 138 = .ok (.invokevirtual 112, 3) := by decide +kernel
theorem dX2_serve_141 : decode cX2_serve 141 = .ok (.aload_n 0, 1) := by decide +kernel
theorem dX2_serve_142 : decode cX2_serve 142 = .ok (.iload_n 1, 1) := by decide +kernel
theorem dX2_serve_143 : decode cX2_serve 143 = .ok (.bipush 8, 2) := by decide +kernel
theorem dX2_serve_145 : decode cX2_serve 145 = .ok (.iload 4, 2) := by decide +kernel
theorem dX2_serve_147 : decode cX2_serve 147 = .ok (.invokevirtual 112, 3) := by decide +kernel
theorem dX2_serve_150 : decode cX2_serve 150 = .ok (.aload_n 0, 1) := by decide +kernel
theorem dX2_serve_151 : decode cX2_serve 151 = .ok (.iload_n 1, 1) := by decide +kernel
theorem dX2_serve_152 : decode cX2_serve 152 = .ok (.iconst 0, 1) := by decide +kernel
theorem dX2_serve_153 : decode cX2_serve 153 = .ok (.aload_n 0, 1) := by decide +kernel
theorem dX2_serve_154 : decode cX2_serve 154 = .ok (.getfield 73, 3) := by decide +kernel
theorem dX2_serve_157 : decode cX2_serve 157 = .ok (.invokevirtual 112, 3) := by decide +kernel
theorem dX2_serve_160 : decode cX2_serve 160 = .ok (.return_, 1) := by decide +kernel
set_option maxRecDepth 20000 in
theorem ggX2_serveAll_X4_clearAmounts : GoodIn wsX2_serveAll wsX4_clearAmounts := goodIn_r _ [8, 9, 10, 11, 12, 13, 14, 15, 16, 17, 129, 130, 131, 132, 133, 134, 135] (by decide +kernel) (by decide +kernel)
set_option maxRecDepth 20000 in
theorem gX2_serveAll_X4_clearAmounts : GoodIn wsX2_serveAll (wsV RX2 86 RX4 yX4_clearAmounts wsX4_clearAmounts) := goodIn_app (goodIn_of _ (by decide +kernel)) ggX2_serveAll_X4_clearAmounts
set_option maxRecDepth 20000 in
theorem ggX2_serveAll_X2_serve : GoodIn wsX2_serveAll wsX2_serve := goodIn_r _ [22, 1, 23, 2, 24, 25, 26, 27, 28, 29, 30, 31, 32, 33, 21, 34, 35, 36, 37, 38, 39, 40, 41, 42, 43, 44, 45, 46, 47, 7, 48, 9, 10, 49, 50, 51, 52, 53, 54, 55, 56, 57, 58, 59, 60, 61, 62, 63, 64, 65, 66, 67, 14, 68, 69, 70, 71, 16, 72, 73, 74, 75, 76, 77, 78, 79, 80, 81, 82, 83, 84, 85, 86, 87, 88, 89, 90, 91, 92, 93, 94, 95, 96, 97, 98, 99, 100, 101, 102, 103, 104, 105, 106, 107, 108, 113, 114, 115, 116, 117, 118, 119, 120, 121, 122, 123, 124, 125, 126, 127, 128, 129, 130, 131, 132, 133, 134, 135] (by decide +kernel) (by decide +kernel)
set_option maxRecDepth 20000 in
theorem gX2_serveAll_X2_serve : GoodIn wsX2_serveAll (wsV RX2 126 RX2 yX2_serve wsX2_serve) := goodIn_app (goodIn_of _ (by decide +kernel)) ggX2_serveAll_X2_serve
set_option maxRecDepth 20000 in
theorem ggX2_serveAll_X2_isShort : GoodIn wsX2_serveAll wsX2_isShort := goodIn_r _ [112, 31, 32, 33, 21, 34, 35, 113, 114, 115, 116, 117, 118, 119, 120, 121, 122, 123, 124, 125, 126, 127, 128] (by decide +kernel) (by decide +kernel)
set_option maxRecDepth 20000 in
theorem gX2_serveAll_X2_isShort : GoodIn wsX2_serveAll (wsV RX2 130 RX2 yX2_isShort wsX2_isShort) := goodIn_app (goodIn_of _ (by decide +kernel)) ggX2_serveAll_X2_isShort
theorem dX2_serveAll_0 : decode cX2_serveAll 0 = .ok (.aload_n 0, 1) := by decide +kernel
theorem dX2_serveAll_1 : decode cX2_serveAll 1 = .ok (.iconst 0, 1) := by decide +kernel
theorem dX2_serveAll_2 : decode cX2_serveAll 2 = .ok (.putfield 73, 3) := by decide +kernel
theorem dX2_serveAll_5 : decode cX2_serveAll 5 = .ok (.aload_n 0, 1) := by decide +kernel
theorem dX2_serveAll_6 : decode cX2_serveAll 6 = .ok (.getfield 28, 3) := by decide +kernel
theorem dX2_serveAll_9 : decode cX2_serveAll 9 = .ok (.invokevirtual 86, 3) := by decide +kernel
theorem dX2_serveAll_12 : decode cX2_serveAll 12 = .ok (.iconst 0, 1) := by decide +kernel
theorem dX2_serveAll_13 : decode cX2_serveAll 13 = .ok (.istore_n 2, 1) := by decide +kernel
theorem dX2_serveAll_14 : decode cX2_serveAll 14 = .ok (.iconst 0, 1) := by decide +kernel
theorem dX2_serveAll_15 : decode cX2_serveAll 15 = .ok (.istore_n 3, 1) := by decide +kernel
theorem dX2_serveAll_16 : decode cX2_serveAll 16 = .ok (.iload_n 3, 1) := by decide +kernel
theorem dX2_serveAll_17 : decode cX2_serveAll 17 = .ok (.aload_n 0, 1) := by decide +kernel
theorem dX2_serveAll_18 : decode cX2_serveAll 18 = .ok (.getfield 61, 3) := by decide +kernel
theorem dX2_serveAll_21 : decode cX2_serveAll 21 = .ok (.if_icmp .ge 30, 3) := by decide +kernel
theorem dX2_serveAll_24 : decode cX2_serveAll 24 = .ok (.iload_n 2, 1) := by decide +kernel
theorem dX2_serveAll_25 : decode cX2_serveAll 25 = .ok (.iload_n 1, 1) := by decide +kernel
theorem dX2_serveAll_26 : decode cX2_serveAll 26 = .ok (.if_icmp .gt 25, 3) := by decide +kernel
theorem dX2_serveAll_29 : decode cX2_serveAll 29 = .ok (.aload_n 0, 1) := by decide +kernel
theorem dX2_serveAll_30 : decode cX2_serveAll 30 = .ok (.iload_n 3, 1) := by decide +kernel
theorem dX2_serveAll_31 : decode cX2_serveAll 31 = .ok (.invokevirtual 126, 3) := by decide +kernel
theorem dX2_serveAll_34 : decode cX2_serveAll 34 = .ok (.aload_n 0, 1) := by decide +kernel
theorem dX2_serveAll_35 : decode cX2_serveAll 35 = .ok (.iload_n 3, 1) := by decide +kernel
theorem dX2_serveAll_36 : decode cX2_serveAll 36 = .ok (.invokevirtual 130, 3) := by decide +kernel
theorem dX2_serveAll_39 : decode cX2_serveAll 39 = .ok (.ifCond .eq 6, 3) := by decide +kernel
theorem dX2_serveAll_42 : decode cX2_serveAll 42 = .ok (.iinc 2 1, 3) := by decide +kernel
theorem dX2_serveAll_45 : decode cX2_serveAll 45 = .ok (.iinc 3 1, 3) := by decide +kernel
theorem dX2_serveAll_48 : decode cX2_serveAll 48 = .ok (.goto (-32), 3) := by decide +kernel
theorem dX2_serveAll_51 : decode cX2_serveAll 51 = .ok (.iload_n 2, 1) := by decide +kernel
theorem dX2_serveAll_52 : decode cX2_serveAll 52 = .ok (.ireturn, 1) := by decide +kernel
set_option maxRecDepth 20000 in
theorem ggX2_drainWhenDry_X1_drain : GoodIn wsX2_drainWhenDry wsX1_drain := goodIn_r _ [9, 10, 27, 28, 29, 30, 31, 32] (by decide +kernel) (by decide +kernel)
set_option maxRecDepth 20000 in
theorem gX2_drainWhenDry_X1_drain : GoodIn wsX2_drainWhenDry (wsV RX2 134 RX1 yX1_drain wsX1_drain) := goodIn_app (goodIn_of _ (by decide +kernel)) ggX2_drainWhenDry_X1_drain
theorem dX2_drainWhenDry_0 : decode cX2_drainWhenDry 0 = .ok (.iload_n 1, 1) := by decide +kernel
theorem dX2_drainWhenDry_1 : decode cX2_drainWhenDry 1 = .ok (.ifCond .le 10, 3) := by decide +kernel
theorem dX2_drainWhenDry_4 : decode cX2_drainWhenDry 4 = .ok (.aload_n 0, 1) := by decide +kernel
theorem dX2_drainWhenDry_5 : decode cX2_drainWhenDry 5 = .ok (.iconst 0, 1) := by decide +kernel
theorem dX2_drainWhenDry_6 : decode cX2_drainWhenDry 6 = .ok (.putfield 76, 3) := by decide +kernel
theorem dX2_drainWhenDry_9 : decode cX2_drainWhenDry 9 = .ok (.iconst 0, 1) := by decide +kernel
theorem dX2_drainWhenDry_10 : decode cX2_drainWhenDry 10 = .ok (.ireturn, 1) := by decide +kernel
theorem dX2_drainWhenDry_11 : decode cX2_drainWhenDry 11 = .ok (.aload_n 0, 1) := by decide +kernel
theorem dX2_drainWhenDry_12 : decode cX2_drainWhenDry 12 = .ok (.dup, 1) := by decide +kernel
theorem dX2_drainWhenDry_13 : decode cX2_drainWhenDry 13 = .ok (.getfield 76, 3) := by decide +kernel
theorem dX2_drainWhenDry_16 : decode cX2_drainWhenDry 16 = .ok (.iconst 1, 1) := by decide +kernel
theorem dX2_drainWhenDry_17 : decode cX2_drainWhenDry 17 = .ok (.iadd, 1) := by decide +kernel
theorem dX2_drainWhenDry_18 : decode cX2_drainWhenDry 18 = .ok (.putfield 76, 3) := by decide +kernel
theorem dX2_drainWhenDry_21 : decode cX2_drainWhenDry 21 = .ok (.iconst 0, 1) := by decide +kernel
theorem dX2_drainWhenDry_22 : decode cX2_drainWhenDry 22 = .ok (.istore_n 2, 1) := by decide +kernel
theorem dX2_drainWhenDry_23 : decode cX2_drainWhenDry 23 = .ok (.aload_n 0, 1) := by decide +kernel
theorem dX2_drainWhenDry_24 : decode cX2_drainWhenDry 24 = .ok (.getfield 76, 3) := by decide +kernel
theorem dX2_drainWhenDry_27 : decode cX2_drainWhenDry 27 = .ok (.aload_n 0, 1) := by decide +kernel
theorem dX2_drainWhenDry_28 : decode cX2_drainWhenDry 28 = .ok (.getfield 15, 3) := by decide +kernel
theorem dX2_drainWhenDry_31 : decode cX2_drainWhenDry 31 = .ok (.if_icmp .lt 31, 3) := by decide +kernel
theorem dX2_drainWhenDry_34 : decode cX2_drainWhenDry 34 = .ok (.iconst 0, 1) := by decide +kernel
theorem dX2_drainWhenDry_35 : decode cX2_drainWhenDry 35 = .ok (.istore_n 3, 1) := by decide +kernel
theorem dX2_drainWhenDry_36 : decode cX2_drainWhenDry 36 = .ok (.iload_n 3, 1) := by decide +kernel
theorem dX2_drainWhenDry_37 : decode cX2_drainWhenDry 37 = .ok (.aload_n 0, 1) := by decide +kernel
theorem dX2_drainWhenDry_38 : decode cX2_drainWhenDry 38 = .ok (.getfield 51, 3) := by decide +kernel
theorem dX2_drainWhenDry_41 : decode cX2_drainWhenDry 41 = .ok (.if_icmp .ge 21, 3) := by decide +kernel
theorem dX2_drainWhenDry_44 : decode cX2_drainWhenDry 44 = .ok (.iload_n 2, 1) := by decide +kernel
theorem dX2_drainWhenDry_45 : decode cX2_drainWhenDry 45 = .ok (.aload_n 0, 1) := by decide +kernel
theorem dX2_drainWhenDry_46 : decode cX2_drainWhenDry 46 = .ok (.getfield 20, 3) := by decide +kernel
theorem dX2_drainWhenDry_49 : decode cX2_drainWhenDry 49 = .ok (.iload_n 3, 1) := by decide +kernel
theorem dX2_drainWhenDry_50 : decode cX2_drainWhenDry 50 = .ok (.aaload, 1) := by decide +kernel
theorem dX2_drainWhenDry_51 : decode cX2_drainWhenDry 51 = .ok (.invokevirtual 134, 3) := by decide +kernel
theorem dX2_drainWhenDry_54 : decode cX2_drainWhenDry 54 = .ok (.iadd, 1) := by decide +kernel
theorem dX2_drainWhenDry_55 : decode cX2_drainWhenDry 55 = .ok (.istore_n 2, 1) := by decide +kernel
theorem dX2_drainWhenDry_56 : decode cX2_drainWhenDry 56 = .ok (.iinc 3 1, 3) := by decide +kernel
theorem dX2_drainWhenDry_59 : decode cX2_drainWhenDry 59 = .ok (.goto (-23), 3) := by decide +kernel
theorem dX2_drainWhenDry_62 : decode cX2_drainWhenDry 62 = .ok (.iload_n 2, 1) := by decide +kernel
theorem dX2_drainWhenDry_63 : decode cX2_drainWhenDry 63 = .ok (.ireturn, 1) := by decide +kernel
theorem dX2_put_0 : decode cX2_put 0 = .ok (.aload_n 0, 1) := by decide +kernel
theorem dX2_put_1 : decode cX2_put 1 = .ok (.getfield 36, 3) := by decide +kernel
theorem dX2_put_4 : decode cX2_put 4 = .ok (.iload_n 1, 1) := by decide +kernel
theorem dX2_put_5 : decode cX2_put 5 = .ok (.bipush 10, 2) := by decide +kernel
theorem dX2_put_7 : decode cX2_put 7 = .ok (.imul, 1) := by decide +kernel
theorem dX2_put_8 : decode cX2_put 8 = .ok (.iload_n 2, 1) := by decide +kernel
theorem dX2_put_9 : decode cX2_put 9 = .ok (.iadd, 1) := by decide +kernel
theorem dX2_put_10 : decode cX2_put 10 = .ok (.iload_n 3, 1) := by decide +kernel
theorem dX2_put_11 : decode cX2_put 11 = .ok (.iastore, 1) := by decide +kernel
theorem dX2_put_12 : decode cX2_put 12 = .ok (.return_, 1) := by decide +kernel
theorem dX3_init_0 : decode cX3_init 0 = .ok (.aload_n 0, 1) := by decide +kernel
theorem dX3_init_1 : decode cX3_init 1 = .ok (.invokespecial 3, 3) := by decide +kernel
theorem dX3_init_4 : decode cX3_init 4 = .ok (.return_, 1) := by decide +kernel
set_option maxRecDepth 20000 in
theorem ggX3_set_X3_clearAmounts : GoodIn wsX3_set wsX3_clearAmounts := goodIn_r _ [7, 8, 9, 10, 11, 12, 13] (by decide +kernel) (by decide +kernel)
set_option maxRecDepth 20000 in
theorem gX3_set_X3_clearAmounts : GoodIn wsX3_set (wsV RX3 18 RX3 yX3_clearAmounts wsX3_clearAmounts) := goodIn_app (goodIn_of _ (by decide +kernel)) ggX3_set_X3_clearAmounts
theorem dX3_set_0 : decode cX3_set 0 = .ok (.aload_n 0, 1) := by decide +kernel
theorem dX3_set_1 : decode cX3_set 1 = .ok (.iload_n 1, 1) := by decide +kernel
theorem dX3_set_2 : decode cX3_set 2 = .ok (.putfield 9, 3) := by decide +kernel
theorem dX3_set_5 : decode cX3_set 5 = .ok (.aload_n 0, 1) := by decide +kernel
theorem dX3_set_6 : decode cX3_set 6 = .ok (.iload_n 2, 1) := by decide +kernel
theorem dX3_set_7 : decode cX3_set 7 = .ok (.putfield 15, 3) := by decide +kernel
theorem dX3_set_10 : decode cX3_set 10 = .ok (.aload_n 0, 1) := by decide +kernel
theorem dX3_set_11 : decode cX3_set 11 = .ok (.invokevirtual 18, 3) := by decide +kernel
theorem dX3_set_14 : decode cX3_set 14 = .ok (.return_, 1) := by decide +kernel
set_option maxRecDepth 20000 in
theorem ggX3_copyFrom_X3_set : GoodIn wsX3_copyFrom wsX3_set := goodIn_r _ [9, 1, 2, 10, 11, 12, 8, 13, 3, 4, 14, 15, 16, 17] (by decide +kernel) (by decide +kernel)
set_option maxRecDepth 20000 in
theorem gX3_copyFrom_X3_set : GoodIn wsX3_copyFrom (wsV RX3 21 RX3 yX3_set wsX3_set) := goodIn_app (goodIn_of _ (by decide +kernel)) ggX3_copyFrom_X3_set
theorem dX3_copyFrom_0 : decode cX3_copyFrom 0 = .ok (.aload_n 0, 1) := by decide +kernel
theorem dX3_copyFrom_1 : decode cX3_copyFrom 1 = .ok (.aload_n 1, 1) := by decide +kernel
theorem dX3_copyFrom_2 : decode cX3_copyFrom 2 = .ok (.getfield 9, 3) := by decide +kernel
theorem dX3_copyFrom_5 : decode cX3_copyFrom 5 = .ok (.aload_n 1, 1) := by decide +kernel
theorem dX3_copyFrom_6 : decode cX3_copyFrom 6 = .ok (.getfield 15, 3) := by decide +kernel
theorem dX3_copyFrom_9 : decode cX3_copyFrom 9 = .ok (.invokevirtual 21, 3) := by decide +kernel
theorem dX3_copyFrom_12 : decode cX3_copyFrom 12 = .ok (.aload_n 0, 1) := by decide +kernel
theorem dX3_copyFrom_13 : decode cX3_copyFrom 13 = .ok (.aload_n 1, 1) := by decide +kernel
theorem dX3_copyFrom_14 : decode cX3_copyFrom 14 = .ok (.getfield 25, 3) := by decide +kernel
theorem dX3_copyFrom_17 : decode cX3_copyFrom 17 = .ok (.putfield 25, 3) := by decide +kernel
theorem dX3_copyFrom_20 : decode cX3_copyFrom 20 = .ok (.aload_n 0, 1) := by decide +kernel
theorem dX3_copyFrom_21 : decode cX3_copyFrom 21 = .ok (.aload_n 1, 1) := by decide +kernel
theorem dX3_copyFrom_22 : decode cX3_copyFrom 22 = .ok (.getfield 28, 3) := by decide +kernel
theorem dX3_copyFrom_25 : decode cX3_copyFrom 25 = .ok (.putfield 28, 3) := by decide +kernel
theorem dX3_copyFrom_28 : decode cX3_copyFrom 28 = .ok (.return_, 1) := by decide +kernel
theorem dX3_clearAmounts_0 : decode cX3_clearAmounts 0 = .ok (.aload_n 0, 1) := by decide +kernel
theorem dX3_clearAmounts_1 : decode cX3_clearAmounts 1 = .ok (.iconst 0, 1) := by decide +kernel
theorem dX3_clearAmounts_2 : decode cX3_clearAmounts 2 = .ok (.putfield 25, 3) := by decide +kernel
theorem dX3_clearAmounts_5 : decode cX3_clearAmounts 5 = .ok (.aload_n 0, 1) := by decide +kernel
theorem dX3_clearAmounts_6 : decode cX3_clearAmounts 6 = .ok (.iconst 0, 1) := by decide +kernel
theorem dX3_clearAmounts_7 : decode cX3_clearAmounts 7 = .ok (.putfield 28, 3) := by decide +kernel
theorem dX3_clearAmounts_10 : decode cX3_clearAmounts 10 = .ok (.return_, 1) := by decide +kernel
theorem dX3_value_0 : decode cX3_value 0 = .ok (.iload_n 1, 1) := by decide +kernel
theorem dX3_value_1 : decode cX3_value 1 = .ok (.tableswitch 42 0 2 #[27, 32, 37], 27) := by decide +kernel
theorem dX3_value_28 : decode cX3_value 28 = .ok (.aload_n 0, 1) := by decide +kernel
theorem dX3_value_29 : decode cX3_value 29 = .ok (.getfield 9, 3) := by decide +kernel
theorem dX3_value_32 : decode cX3_value 32 = .ok (.ireturn, 1) := by decide +kernel
theorem dX3_value_33 : decode cX3_value 33 = .ok (.aload_n 0, 1) := by decide +kernel
theorem dX3_value_34 : decode cX3_value 34 = .ok (.getfield 15, 3) := by decide +kernel
theorem dX3_value_37 : decode cX3_value 37 = .ok (.ireturn, 1) := by decide +kernel
theorem dX3_value_38 : decode cX3_value 38 = .ok (.aload_n 0, 1) := by decide +kernel
theorem dX3_value_39 : decode cX3_value 39 = .ok (.getfield 25, 3) := by decide +kernel
theorem dX3_value_42 : decode cX3_value 42 = .ok (.ireturn, 1) := by decide +kernel
theorem dX3_value_43 : decode cX3_value 43 = .ok (.aload_n 0, 1) := by decide +kernel
theorem dX3_value_44 : decode cX3_value 44 = .ok (.getfield 28, 3) := by decide +kernel
theorem dX3_value_47 : decode cX3_value 47 = .ok (.ireturn, 1) := by decide +kernel
theorem dX3_lack_0 : decode cX3_lack 0 = .ok (.aload_n 0, 1) := by decide +kernel
theorem dX3_lack_1 : decode cX3_lack 1 = .ok (.getfield 9, 3) := by decide +kernel
theorem dX3_lack_4 : decode cX3_lack 4 = .ok (.aload_n 0, 1) := by decide +kernel
theorem dX3_lack_5 : decode cX3_lack 5 = .ok (.getfield 25, 3) := by decide +kernel
theorem dX3_lack_8 : decode cX3_lack 8 = .ok (.isub, 1) := by decide +kernel
theorem dX3_lack_9 : decode cX3_lack 9 = .ok (.ireturn, 1) := by decide +kernel
theorem dX3_portion_0 : decode cX3_portion 0 = .ok (.bipush 10, 2) := by decide +kernel
theorem dX3_portion_2 : decode cX3_portion 2 = .ok (.aload_n 0, 1) := by decide +kernel
theorem dX3_portion_3 : decode cX3_portion 3 = .ok (.getfield 15, 3) := by decide +kernel
theorem dX3_portion_6 : decode cX3_portion 6 = .ok (.imul, 1) := by decide +kernel
theorem dX3_portion_7 : decode cX3_portion 7 = .ok (.ireturn, 1) := by decide +kernel
set_option maxRecDepth 20000 in
theorem ggX3_give_X3_lack : GoodIn wsX3_give wsX3_lack := goodIn_r _ [10, 11, 5, 12, 13, 14, 15] (by decide +kernel) (by decide +kernel)
set_option maxRecDepth 20000 in
theorem gX3_give_X3_lack : GoodIn wsX3_give (wsV RX3 31 RX3 yX3_lack wsX3_lack) := goodIn_app (goodIn_of _ (by decide +kernel)) ggX3_give_X3_lack
theorem dX3_give_0 : decode cX3_give 0 = .ok (.iload_n 1, 1) := by decide +kernel
theorem dX3_give_1 : decode cX3_give 1 = .ok (.aload_n 0, 1) := by decide +kernel
theorem dX3_give_2 : decode cX3_give 2 = .ok (.invokevirtual 31, 3) := by decide +kernel
theorem dX3_give_5 : decode cX3_give 5 = .ok (.invokestatic 35, 3) := by decide +kernel
theorem dX3_give_8 : decode cX3_give 8 = .ok (.istore_n 2, 1) := by decide +kernel
theorem dX3_give_9 : decode cX3_give 9 = .ok (.aload_n 0, 1) := by decide +kernel
theorem dX3_give_10 : decode cX3_give 10 = .ok (.dup, 1) := by decide +kernel
theorem dX3_give_11 : decode cX3_give 11 = .ok (.getfield 25, 3) := by decide +kernel
theorem dX3_give_14 : decode cX3_give 14 = .ok (.iload_n 2, 1) := by decide +kernel
theorem dX3_give_15 : decode cX3_give 15 = .ok (.iadd, 1) := by decide +kernel
theorem dX3_give_16 : decode cX3_give 16 = .ok (.putfield 25, 3) := by decide +kernel
theorem dX3_give_19 : decode cX3_give 19 = .ok (.iload_n 2, 1) := by decide +kernel
theorem dX3_give_20 : decode cX3_give 20 = .ok (.ireturn, 1) := by decide +kernel
set_option maxRecDepth 20000 in
theorem ggX4_init_X3_init : GoodIn wsX4_init wsX3_init := goodIn_r _ [11, 12, 2, 3] (by decide +kernel) (by decide +kernel)
set_option maxRecDepth 20000 in
theorem gX4_init_X3_init_n17 : GoodIn wsX4_init (wsX3_init) := ggX4_init_X3_init
theorem dX4_init_0 : decode cX4_init 0 = .ok (.aload_n 0, 1) := by decide +kernel
theorem dX4_init_1 : decode cX4_init 1 = .ok (.invokespecial 3, 3) := by decide +kernel
theorem dX4_init_4 : decode cX4_init 4 = .ok (.aload_n 0, 1) := by decide +kernel
theorem dX4_init_5 : decode cX4_init 5 = .ok (.iconst 5, 1) := by decide +kernel
theorem dX4_init_6 : decode cX4_init 6 = .ok (.anewarray 9, 3) := by decide +kernel
theorem dX4_init_9 : decode cX4_init 9 = .ok (.putfield 11, 3) := by decide +kernel
theorem dX4_init_12 : decode cX4_init 12 = .ok (.iconst 0, 1) := by decide +kernel
theorem dX4_init_13 : decode cX4_init 13 = .ok (.istore_n 1, 1) := by decide +kernel
theorem dX4_init_14 : decode cX4_init 14 = .ok (.iload_n 1, 1) := by decide +kernel
theorem dX4_init_15 : decode cX4_init 15 = .ok (.aload_n 0, 1) := by decide +kernel
theorem dX4_init_16 : decode cX4_init 16 = .ok (.getfield 11, 3) := by decide +kernel
theorem dX4_init_19 : decode cX4_init 19 = .ok (.arraylength, 1) := by decide +kernel
theorem dX4_init_20 : decode cX4_init 20 = .ok (.if_icmp .ge 22, 3) := by decide +kernel
theorem dX4_init_23 : decode cX4_init 23 = .ok (.aload_n 0, 1) := by decide +kernel
theorem dX4_init_24 : decode cX4_init 24 = .ok (.getfield 11, 3) := by decide +kernel
theorem dX4_init_27 : decode cX4_init 27 = .ok (.iload_n 1, 1) := by decide +kernel
theorem dX4_init_28 : decode cX4_init 28 = .ok (.new 9, 3) := by decide +kernel
theorem dX4_init_31 : decode cX4_init 31 = .ok (.dup, 1) := by decide +kernel
theorem dX4_init_32 : decode cX4_init 32 = .ok (.invokespecial 17, 3) := by decide +kernel
theorem dX4_init_35 : decode cX4_init 35 = .ok (.aastore, 1) := by decide +kernel
theorem dX4_init_36 : decode cX4_init 36 = .ok (.iinc 1 1, 3) := by decide +kernel
theorem dX4_init_39 : decode cX4_init 39 = .ok (.goto (-25), 3) := by decide +kernel
theorem dX4_init_42 : decode cX4_init 42 = .ok (.aload_n 0, 1) := by decide +kernel
theorem dX4_init_43 : decode cX4_init 43 = .ok (.iconst 5, 1) := by decide +kernel
theorem dX4_init_44 : decode cX4_init 44 = .ok (.newarray .int, 2) := by decide +kernel
theorem dX4_init_46 : decode cX4_init 46 = .ok (.putfield 18, 3) := by decide +kernel
theorem dX4_init_49 : decode cX4_init 49 = .ok (.return_, 1) := by decide +kernel
set_option maxRecDepth 20000 in
theorem ggX4_copyFrom_X3_copyFrom : GoodIn wsX4_copyFrom wsX3_copyFrom := goodIn_r _ [7, 8, 9, 10, 11, 12, 13, 14, 6, 15, 16, 17, 18, 19, 23, 24, 25, 26] (by decide +kernel) (by decide +kernel)
set_option maxRecDepth 20000 in
theorem gX4_copyFrom_X3_copyFrom : GoodIn wsX4_copyFrom (wsV RX4 26 RX3 yX3_copyFrom wsX3_copyFrom) := goodIn_app (goodIn_of _ (by decide +kernel)) ggX4_copyFrom_X3_copyFrom
theorem dX4_copyFrom_0 : decode cX4_copyFrom 0 = .ok (.aload_n 0, 1) := by decide +kernel
theorem dX4_copyFrom_1 : decode cX4_copyFrom 1 = .ok (.aload_n 1, 1) := by decide +kernel
theorem dX4_copyFrom_2 : decode cX4_copyFrom 2 = .ok (.getfield 22, 3) := by decide +kernel
theorem dX4_copyFrom_5 : decode cX4_copyFrom 5 = .ok (.putfield 22, 3) := by decide +kernel
theorem dX4_copyFrom_8 : decode cX4_copyFrom 8 = .ok (.iconst 0, 1) := by decide +kernel
theorem dX4_copyFrom_9 : decode cX4_copyFrom 9 = .ok (.istore_n 2, 1) := by decide +kernel
theorem dX4_copyFrom_10 : decode cX4_copyFrom 10 = .ok (.iload_n 2, 1) := by decide +kernel
theorem dX4_copyFrom_11 : decode cX4_copyFrom 11 = .ok (.aload_n 0, 1) := by decide +kernel
theorem dX4_copyFrom_12 : decode cX4_copyFrom 12 = .ok (.getfield 22, 3) := by decide +kernel
theorem dX4_copyFrom_15 : decode cX4_copyFrom 15 = .ok (.if_icmp .ge 24, 3) := by decide +kernel
theorem dX4_copyFrom_18 : decode cX4_copyFrom 18 = .ok (.aload_n 0, 1) := by decide +kernel
theorem dX4_copyFrom_19 : decode cX4_copyFrom 19 = .ok (.getfield 11, 3) := by decide +kernel
theorem dX4_copyFrom_22 : decode cX4_copyFrom 22 = .ok (.iload_n 2, 1) := by decide +kernel
theorem dX4_copyFrom_23 : decode cX4_copyFrom 23 = .ok (.aaload, 1) := by decide +kernel
theorem dX4_copyFrom_24 : decode cX4_copyFrom 24 = .ok (.aload_n 1, 1) := by decide +kernel
theorem dX4_copyFrom_25 : decode cX4_copyFrom 25 = .ok (.getfield 11, 3) := by decide +kernel
theorem dX4_copyFrom_28 : decode cX4_copyFrom 28 = .ok (.iload_n 2, 1) := by decide +kernel
theorem dX4_copyFrom_29 : decode cX4_copyFrom 29 = .ok (.aaload, 1) := by decide +kernel
theorem dX4_copyFrom_30 : decode cX4_copyFrom 30 = .ok (.invokevirtual 26, 3) := by decide +kernel
theorem dX4_copyFrom_33 : decode cX4_copyFrom 33 = .ok (.iinc 2 1, 3) := by decide +kernel
theorem dX4_copyFrom_36 : decode cX4_copyFrom 36 = .ok (.goto (-26), 3) := by decide +kernel
theorem dX4_copyFrom_39 : decode cX4_copyFrom 39 = .ok (.return_, 1) := by decide +kernel
set_option maxRecDepth 20000 in
theorem ggX4_clearAmounts_X3_clearAmounts : GoodIn wsX4_clearAmounts wsX3_clearAmounts := goodIn_r _ [7, 8, 9, 13, 14, 15, 16] (by decide +kernel) (by decide +kernel)
set_option maxRecDepth 20000 in
theorem gX4_clearAmounts_X3_clearAmounts : GoodIn wsX4_clearAmounts (wsV RX4 30 RX3 yX3_clearAmounts wsX3_clearAmounts) := goodIn_app (goodIn_of _ (by decide +kernel)) ggX4_clearAmounts_X3_clearAmounts
theorem dX4_clearAmounts_0 : decode cX4_clearAmounts 0 = .ok (.iconst 0, 1) := by decide +kernel
theorem dX4_clearAmounts_1 : decode cX4_clearAmounts 1 = .ok (.istore_n 1, 1) := by decide +kernel
theorem dX4_clearAmounts_2 : decode cX4_clearAmounts 2 = .ok (.iload_n 1, 1) := by decide +kernel
theorem dX4_clearAmounts_3 : decode cX4_clearAmounts 3 = .ok (.aload_n 0, 1) := by decide +kernel
theorem dX4_clearAmounts_4 : decode cX4_clearAmounts 4 = .ok (.getfield 22, 3) := by decide +kernel
theorem dX4_clearAmounts_7 : decode cX4_clearAmounts 7 = .ok (.if_icmp .ge 18, 3) := by decide +kernel
theorem dX4_clearAmounts_10 : decode cX4_clearAmounts 10 = .ok (.aload_n 0, 1) := by decide +kernel
theorem dX4_clearAmounts_11 : decode cX4_clearAmounts 11 = .ok (.getfield 11, 3) := by decide +kernel
theorem dX4_clearAmounts_14 : decode cX4_clearAmounts 14 = .ok (.iload_n 1, 1) := by decide +kernel
theorem dX4_clearAmounts_15 : decode cX4_clearAmounts 15 = .ok (.aaload, 1) := by decide +kernel
theorem dX4_clearAmounts_16 : decode cX4_clearAmounts 16 = .ok (.invokevirtual 30, 3) := by decide +kernel
theorem dX4_clearAmounts_19 : decode cX4_clearAmounts 19 = .ok (.iinc 1 1, 3) := by decide +kernel
theorem dX4_clearAmounts_22 : decode cX4_clearAmounts 22 = .ok (.goto (-20), 3) := by decide +kernel
theorem dX4_clearAmounts_25 : decode cX4_clearAmounts 25 = .ok (.return_, 1) := by decide +kernel
theorem dX4_scaleDemands_0 : decode cX4_scaleDemands 0 = .ok (.iconst 0, 1) := by decide +kernel
theorem dX4_scaleDemands_1 : decode cX4_scaleDemands 1 = .ok (.istore_n 3, 1) := by decide +kernel
theorem dX4_scaleDemands_2 : decode cX4_scaleDemands 2 = .ok (.iload_n 3, 1) := by decide +kernel
theorem dX4_scaleDemands_3 : decode cX4_scaleDemands 3 = .ok (.aload_n 0, 1) := by decide +kernel
theorem dX4_scaleDemands_4 : decode cX4_scaleDemands 4 = .ok (.getfield 22, 3) := by decide +kernel
theorem dX4_scaleDemands_7 : decode cX4_scaleDemands 7 = .ok (.if_icmp .ge 32, 3) := by decide +kernel
theorem dX4_scaleDemands_10 : decode cX4_scaleDemands 10 = .ok (.aload_n 0, 1) := by decide +kernel
theorem dX4_scaleDemands_11 : decode cX4_scaleDemands 11 = .ok (.getfield 11, 3) := by decide +kernel
theorem dX4_scaleDemands_14 : decode cX4_scaleDemands 14 = .ok (.iload_n 3, 1) := by decide +kernel
theorem dX4_scaleDemands_15 : decode cX4_scaleDemands 15 = .ok (.aaload, 1) := by decide +kernel
theorem dX4_scaleDemands_16 : decode cX4_scaleDemands 16 = .ok (.aload_n 1, 1) := by decide +kernel
theorem dX4_scaleDemands_17 : decode cX4_scaleDemands 17 = .ok (.getfield 11, 3) := by decide +kernel
theorem dX4_scaleDemands_20 : decode cX4_scaleDemands 20 = .ok (.iload_n 3, 1) := by decide +kernel
theorem dX4_scaleDemands_21 : decode cX4_scaleDemands 21 = .ok (.aaload, 1) := by decide +kernel
theorem dX4_scaleDemands_22 : decode cX4_scaleDemands 22 = .ok (.getfield 33, 3) := by decide +kernel
theorem dX4_scaleDemands_25 : decode cX4_scaleDemands 25 = .ok (.iload_n 2, 1) := by decide +kernel
theorem dX4_scaleDemands_26 : decode cX4_scaleDemands 26 = .ok (.imul, 1) := by decide +kernel
theorem dX4_scaleDemands_27 : decode cX4_scaleDemands 27 = .ok (.bipush 100, 2) := by decide +kernel
theorem dX4_scaleDemands_29 : decode cX4_scaleDemands 29 = .ok (.idiv, 1) := by decide +kernel
theorem dX4_scaleDemands_30 : decode cX4_scaleDemands 30 = .ok (.putfield 33, 3) := by decide +kernel
theorem dX4_scaleDemands_33 : decode cX4_scaleDemands 33 = .ok (.iinc 3 1, 3) := by decide +kernel
theorem dX4_scaleDemands_36 : decode cX4_scaleDemands 36 = .ok (.goto (-34), 3) := by decide +kernel
theorem dX4_scaleDemands_39 : decode cX4_scaleDemands 39 = .ok (.return_, 1) := by decide +kernel
theorem dX4_demandInAll_0 : decode cX4_demandInAll 0 = .ok (.iconst 0, 1) := by decide +kernel
theorem dX4_demandInAll_1 : decode cX4_demandInAll 1 = .ok (.istore_n 1, 1) := by decide +kernel
theorem dX4_demandInAll_2 : decode cX4_demandInAll 2 = .ok (.iconst 0, 1) := by decide +kernel
theorem dX4_demandInAll_3 : decode cX4_demandInAll 3 = .ok (.istore_n 2, 1) := by decide +kernel
theorem dX4_demandInAll_4 : decode cX4_demandInAll 4 = .ok (.iload_n 2, 1) := by decide +kernel
theorem dX4_demandInAll_5 : decode cX4_demandInAll 5 = .ok (.aload_n 0, 1) := by decide +kernel
theorem dX4_demandInAll_6 : decode cX4_demandInAll 6 = .ok (.getfield 22, 3) := by decide +kernel
theorem dX4_demandInAll_9 : decode cX4_demandInAll 9 = .ok (.if_icmp .ge 21, 3) := by decide +kernel
theorem dX4_demandInAll_12 : decode cX4_demandInAll 12 = .ok (.iload_n 1, 1) := by decide +kernel
theorem dX4_demandInAll_13 : decode cX4_demandInAll 13 = .ok (.aload_n 0, 1) := by decide +kernel
theorem dX4_demandInAll_14 : decode cX4_demandInAll 14 = .ok (.getfield 11, 3) := by decide +kernel
theorem dX4_demandInAll_17 : decode cX4_demandInAll 17 = .ok (.iload_n 2, 1) := by decide +kernel
theorem dX4_demandInAll_18 : decode cX4_demandInAll 18 = .ok (.aaload, 1) := by decide +kernel
theorem dX4_demandInAll_19 : decode cX4_demandInAll 19 = .ok (.getfield 33, 3) := by decide +kernel
theorem dX4_demandInAll_22 : decode cX4_demandInAll 22 = .ok (.iadd, 1) := by decide +kernel
theorem dX4_demandInAll_23 : decode cX4_demandInAll 23 = .ok (.istore_n 1, 1) := by decide +kernel
theorem dX4_demandInAll_24 : decode cX4_demandInAll 24 = .ok (.iinc 2 1, 3) := by decide +kernel
theorem dX4_demandInAll_27 : decode cX4_demandInAll 27 = .ok (.goto (-23), 3) := by decide +kernel
theorem dX4_demandInAll_30 : decode cX4_demandInAll 30 = .ok (.iload_n 1, 1) := by decide +kernel
theorem dX4_demandInAll_31 : decode cX4_demandInAll 31 = .ok (.ireturn, 1) := by decide +kernel
theorem dX4_greatestLack_0 : decode cX4_greatestLack 0 = .ok (.iconst 0, 1) := by decide +kernel
theorem dX4_greatestLack_1 : decode cX4_greatestLack 1 = .ok (.istore_n 2, 1) := by decide +kernel
theorem dX4_greatestLack_2 : decode cX4_greatestLack 2 = .ok (.iconst 0, 1) := by decide +kernel
theorem dX4_greatestLack_3 : decode cX4_greatestLack 3 = .ok (.istore_n 3, 1) := by decide +kernel
theorem dX4_greatestLack_4 : decode cX4_greatestLack 4 = .ok (.iload_n 3, 1) := by decide +kernel
theorem dX4_greatestLack_5 : decode cX4_greatestLack 5 = .ok (.aload_n 0, 1) := by decide +kernel
theorem dX4_greatestLack_6 : decode cX4_greatestLack 6 = .ok (.getfield 22, 3) := by decide +kernel
theorem dX4_greatestLack_9 : decode cX4_greatestLack 9 = .ok (.if_icmp .ge 35, 3) := by decide +kernel
theorem dX4_greatestLack_12 : decode cX4_greatestLack 12 = .ok (.iload_n 2, 1) := by decide +kernel
theorem dX4_greatestLack_13 : decode cX4_greatestLack 13 = .ok (.aload_n 0, 1) := by decide +kernel
theorem dX4_greatestLack_14 : decode cX4_greatestLack 14 = .ok (.getfield 11, 3) := by decide +kernel
theorem dX4_greatestLack_17 : decode cX4_greatestLack 17 = .ok (.iload_n 3, 1) := by decide +kernel
theorem dX4_greatestLack_18 : decode cX4_greatestLack 18 = .ok (.aaload, 1) := by decide +kernel
theorem dX4_greatestLack_19 : decode cX4_greatestLack 19 = .ok (.getfield 33, 3) := by decide +kernel
theorem dX4_greatestLack_22 : decode cX4_greatestLack 22 = .ok (.iload_n 1, 1) := by decide +kernel
theorem dX4_greatestLack_23 : decode cX4_greatestLack 23 = .ok (.imul, 1) := by decide +kernel
theorem dX4_greatestLack_24 : decode cX4_greatestLack 24 = .ok (.aload_n 0, 1) := by decide +kernel
theorem dX4_greatestLack_25 : decode cX4_greatestLack 25 = .ok (.getfield 11, 3) := by decide +kernel
theorem dX4_greatestLack_28 : decode cX4_greatestLack 28 = .ok (.iload_n 3, 1) := by decide +kernel
theorem dX4_greatestLack_29 : decode cX4_greatestLack 29 = .ok (.aaload, 1) := by decide +kernel
theorem dX4_greatestLack_30 : decode cX4_greatestLack 30 = .ok (.getfield 36, 3) := by decide +kernel
theorem dX4_greatestLack_33 : decode cX4_greatestLack 33 = .ok (.isub, 1) := by decide +kernel
theorem dX4_greatestLack_34 : decode cX4_greatestLack 34 = .ok (.invokestatic 39, 3) := by decide +kernel
theorem dX4_greatestLack_37 : decode cX4_greatestLack 37 = .ok (.istore_n 2, 1) := by decide +kernel
theorem dX4_greatestLack_38 : decode cX4_greatestLack 38 = .ok (.iinc 3 1, 3) := by decide +kernel
theorem dX4_greatestLack_41 : decode cX4_greatestLack 41 = .ok (.goto (-37), 3) := by decide +kernel
theorem dX4_greatestLack_44 : decode cX4_greatestLack 44 = .ok (.iload_n 2, 1) := by decide +kernel
theorem dX4_greatestLack_45 : decode cX4_greatestLack 45 = .ok (.ireturn, 1) := by decide +kernel
set_option maxRecDepth 20000 in
theorem ggX4_handOut_X4_demandInAll : GoodIn wsX4_handOut wsX4_demandInAll := goodIn_r _ [9, 1, 2, 10, 66, 67, 68, 69, 70, 71, 72] (by decide +kernel) (by decide +kernel)
set_option maxRecDepth 20000 in
theorem gX4_handOut_X4_demandInAll : GoodIn wsX4_handOut (wsV RX4 48 RX4 yX4_demandInAll wsX4_demandInAll) := goodIn_app (goodIn_of _ (by decide +kernel)) ggX4_handOut_X4_demandInAll
set_option maxRecDepth 20000 in
theorem ggX4_handOut_X4_shareInOrder : GoodIn wsX4_handOut wsX4_shareInOrder := goodIn_r _ [14, 1, 15, 16, 17, 18, 8, 19, 2, 20, 21, 22, 23, 24, 25, 26, 27, 28, 29, 30, 31, 32, 33, 34, 66, 67, 68, 69, 70, 71, 72] (by decide +kernel) (by decide +kernel)
set_option maxRecDepth 20000 in
theorem gX4_handOut_X4_shareInOrder : GoodIn wsX4_handOut (wsV RX4 52 RX4 yX4_shareInOrder wsX4_shareInOrder) := goodIn_app (goodIn_of _ (by decide +kernel)) ggX4_handOut_X4_shareInOrder
set_option maxRecDepth 20000 in
theorem ggX4_handOut_X4_share : GoodIn wsX4_handOut wsX4_share := goodIn_r _ [38, 39, 40, 41, 8, 42, 1, 2, 10, 20, 21, 22, 23, 24, 25, 26, 27, 28, 29, 30, 31, 32, 33, 34, 11, 12, 13, 14, 15, 16, 17, 18, 19, 43, 44, 45, 46, 47, 48, 49, 50, 51, 52, 53, 54, 55, 56, 57, 58, 59, 60, 61, 62, 63, 64, 65, 66, 67, 68, 69, 70, 71, 72] (by decide +kernel) (by decide +kernel)
set_option maxRecDepth 20000 in
theorem gX4_handOut_X4_share : GoodIn wsX4_handOut (wsV RX4 56 RX4 yX4_share wsX4_share) := goodIn_app (goodIn_of _ (by decide +kernel)) ggX4_handOut_X4_share
theorem dX4_handOut_0 : decode cX4_handOut 0 = .ok (.iconst 0, 1) := by decide +kernel
theorem dX4_handOut_1 : decode cX4_handOut 1 = .ok (.istore_n 3, 1) := by decide +kernel
theorem dX4_handOut_2 : decode cX4_handOut 2 = .ok (.iload_n 3, 1) := by decide +kernel
theorem dX4_handOut_3 : decode cX4_handOut 3 = .ok (.aload_n 0, 1) := by decide +kernel
theorem dX4_handOut_4 : decode cX4_handOut 4 = .ok (.getfield 22, 3) := by decide +kernel
theorem dX4_handOut_7 : decode cX4_handOut 7 = .ok (.if_icmp .ge 19, 3) := by decide +kernel
theorem dX4_handOut_10 : decode cX4_handOut 10 = .ok (.aload_n 0, 1) := by decide +kernel
theorem dX4_handOut_11 : decode cX4_handOut 11 = .ok (.getfield 11, 3) := by decide +kernel
theorem dX4_handOut_14 : decode cX4_handOut 14 = .ok (.iload_n 3, 1) := by decide +kernel
theorem dX4_handOut_15 : decode cX4_handOut 15 = .ok (.aaload, 1) := by decide +kernel
theorem dX4_handOut_16 : decode cX4_handOut 16 = .ok (.iconst 0, 1) := by decide +kernel
theorem dX4_handOut_17 : decode cX4_handOut 17 = .ok (.putfield 45, 3) := by decide +kernel
theorem dX4_handOut_20 : decode cX4_handOut 20 = .ok (.iinc 3 1, 3) := by decide +kernel
theorem dX4_handOut_23 : decode cX4_handOut 23 = .ok (.goto (-21), 3) := by decide +kernel
theorem dX4_handOut_26 : decode cX4_handOut 26 = .ok (.aload_n 0, 1) := by decide +kernel
theorem dX4_handOut_27 : decode cX4_handOut 27 = .ok (.invokevirtual 48, 3) := by decide +kernel
theorem dX4_handOut_30 : decode cX4_handOut 30 = .ok (.istore_n 3, 1) := by decide +kernel
theorem dX4_handOut_31 : decode cX4_handOut 31 = .ok (.iload_n 1, 1) := by decide +kernel
theorem dX4_handOut_32 : decode cX4_handOut 32 = .ok (.iload_n 3, 1) := by decide +kernel
theorem dX4_handOut_33 : decode cX4_handOut 33 = .ok (.if_icmp .lt 11, 3) := by decide +kernel
theorem dX4_handOut_36 : decode cX4_handOut 36 = .ok (.aload_n 0, 1) := by decide +kernel
theorem dX4_handOut_37 : decode cX4_handOut 37 = .ok (.iload_n 3, 1) := by decide +kernel
theorem dX4_handOut_38 : decode cX4_handOut 38 = .ok (.invokevirtual 52, 3) := by decide +kernel
theorem dX4_handOut_41 : decode cX4_handOut 41 = .ok (.goto 10, 3) := by decide +kernel
theorem dX4_handOut_44 : decode cX4_handOut 44 = .ok (.aload_n 0, 1) := by decide +kernel
theorem dX4_handOut_45 : decode cX4_handOut 45 = .ok (.iload_n 1, 1) := by decide +kernel
theorem dX4_handOut_46 : decode cX4_handOut 46 = .ok (.iload_n 3, 1) := by decide +kernel
theorem dX4_handOut_47 : decode cX4_handOut 47 = .ok (.iload_n 2, 1) := by decide +kernel
theorem dX4_handOut_48 : decode cX4_handOut 48 = .ok (.invokevirtual 56, 3) := by decide +kernel
theorem dX4_handOut_51 : decode cX4_handOut 51 = .ok (.iconst 0, 1) := by decide +kernel
theorem dX4_handOut_52 : decode cX4_handOut 52 = .ok (.istore 4, 2) := by decide +kernel
theorem dX4_handOut_54 : decode cX4_handOut 54 = .ok (.iconst 0, 1) := by decide +kernel
theorem dX4_handOut_55 : decode cX4_handOut 55 = .ok (.istore 5, 2) := by decide +kernel
theorem dX4_handOut_57 : decode cX4_handOut 57 = .ok (.iload 5, 2) := by decide +kernel
theorem dX4_handOut_59 : decode cX4_handOut 59 = .ok (.aload_n 0, 1) := by decide +kernel
theorem dX4_handOut_60 : decode cX4_handOut 60 = .ok (.getfield 22, 3) := by decide +kernel
theorem dX4_handOut_63 : decode cX4_handOut 63 = .ok (.if_icmp .ge 49, 3) := by decide +kernel
theorem dX4_handOut_66 : decode cX4_handOut 66 = .ok (.aload_n 0, 1) := by decide +kernel
theorem dX4_handOut_67 : decode cX4_handOut 67 = .ok (.getfield 11, 3) := by decide +kernel
theorem dX4_handOut_70 : decode cX4_handOut 70 = .ok (.iload 5, 2) := by decide +kernel
theorem dX4_handOut_72 : decode cX4_handOut 72 = .ok (.aaload, 1) := by decide +kernel
theorem dX4_handOut_73 : decode cX4_handOut 73 = .ok (.dup, 1) := by decide +kernel
theorem dX4_handOut_74 : decode cX4_handOut 74 = .ok (.getfield 36, 3) := by decide +kernel
theorem dX4_handOut_77 : decode cX4_handOut 77 = .ok (.aload_n 0, 1) := by decide +kernel
theorem dX4_handOut_78 : decode cX4_handOut 78 = .ok (.getfield 11, 3) := by decide +kernel
theorem dX4_handOut_81 : decode cX4_handOut 81 = .ok (.iload 5, 2) := by decide +kernel
theorem dX4_handOut_83 : decode cX4_handOut 83 = .ok (.aaload, 1) := by decide +kernel
theorem dX4_handOut_84 : decode cX4_handOut 84 = .ok (.getfield 45, 3) := by decide +kernel
theorem dX4_handOut_87 : decode cX4_handOut 87 = .ok (.iadd, 1) := by decide +kernel
theorem dX4_handOut_88 : decode cX4_handOut 88 = .ok (.putfield 36, 3) := by decide +kernel
theorem dX4_handOut_91 : decode cX4_handOut 91 = .ok (.iload 4, 2) := by decide +kernel
theorem dX4_handOut_93 : decode cX4_handOut 93 = .ok (.aload_n 0, 1) := by decide +kernel
theorem dX4_handOut_94 : decode cX4_handOut 94 = .ok (.getfield 11, 3) := by decide +kernel
theorem dX4_handOut_97 : decode cX4_handOut 97 = .ok (.iload 5, 2) := by decide +kernel
theorem dX4_handOut_99 : decode cX4_handOut 99 = .ok (.aaload, 1) := by decide +kernel
theorem dX4_handOut_100 : decode cX4_handOut 100 = .ok (.getfield 45, 3) := by decide +kernel
theorem dX4_handOut_103 : decode cX4_handOut 103 = .ok (.iadd, 1) := by decide +kernel
theorem dX4_handOut_104 : decode cX4_handOut 104 = .ok (.istore 4, 2) := by decide +kernel
theorem dX4_handOut_106 : decode cX4_handOut 106 = .ok (.iinc 5 1, 3) := by decide +kernel
theorem dX4_handOut_109 : decode cX4_handOut 109 = .ok (.goto (-52), 3) := by decide +kernel
theorem dX4_handOut_112 : decode cX4_handOut 112 = .ok (.iload 4, 2) := by decide +kernel
theorem dX4_handOut_114 : decode cX4_handOut 114 = .ok (.ireturn, 1) := by decide +kernel
set_option maxRecDepth 20000 in
theorem ggX4_share_X4_shareByDemand : GoodIn wsX4_share wsX4_shareByDemand := goodIn_r _ [5, 6, 7, 8, 9, 10, 11, 12, 13, 14, 15, 16, 17, 18, 19, 20, 21, 22, 23, 56, 57, 58, 59, 60, 61, 62] (by decide +kernel) (by decide +kernel)
set_option maxRecDepth 20000 in
theorem gX4_share_X4_shareByDemand : GoodIn wsX4_share (wsV RX4 60 RX4 yX4_shareByDemand wsX4_shareByDemand) := goodIn_app (goodIn_of _ (by decide +kernel)) ggX4_share_X4_shareByDemand
set_option maxRecDepth 20000 in
theorem ggX4_share_X4_shareInOrder : GoodIn wsX4_share wsX4_shareInOrder := goodIn_r _ [27, 6, 28, 29, 30, 31, 4, 32, 7, 9, 10, 11, 12, 13, 14, 15, 16, 17, 18, 19, 20, 21, 22, 23, 56, 57, 58, 59, 60, 61, 62] (by decide +kernel) (by decide +kernel)
set_option maxRecDepth 20000 in
theorem gX4_share_X4_shareInOrder : GoodIn wsX4_share (wsV RX4 52 RX4 yX4_shareInOrder wsX4_shareInOrder) := goodIn_app (goodIn_of _ (by decide +kernel)) ggX4_share_X4_shareInOrder
set_option maxRecDepth 20000 in
theorem ggX4_share_X4_shareInRounds : GoodIn wsX4_share wsX4_shareInRounds := goodIn_r _ [36, 6, 7, 37, 15, 16, 17, 38, 39, 40, 4, 41, 42, 20, 21, 12, 22, 23, 18, 43, 44, 45, 46, 47, 48, 49, 50, 51, 9, 10, 11, 13, 14, 19, 56, 57, 58, 59, 60, 61, 62] (by decide +kernel) (by decide +kernel)
set_option maxRecDepth 20000 in
theorem gX4_share_X4_shareInRounds : GoodIn wsX4_share (wsV RX4 64 RX4 yX4_shareInRounds wsX4_shareInRounds) := goodIn_app (goodIn_of _ (by decide +kernel)) ggX4_share_X4_shareInRounds
set_option maxRecDepth 20000 in
theorem ggX4_share_X4_shareSmallestFirst : GoodIn wsX4_share wsX4_shareSmallestFirst := goodIn_r _ [55, 6, 7, 28, 8, 29, 30, 31, 4, 32, 9, 10, 11, 12, 13, 14, 15, 16, 17, 18, 19, 20, 21, 22, 23, 56, 57, 58, 59, 60, 61, 62] (by decide +kernel) (by decide +kernel)
set_option maxRecDepth 20000 in
theorem gX4_share_X4_shareSmallestFirst : GoodIn wsX4_share (wsV RX4 67 RX4 yX4_shareSmallestFirst wsX4_shareSmallestFirst) := goodIn_app (goodIn_of _ (by decide +kernel)) ggX4_share_X4_shareSmallestFirst
theorem dX4_share_0 : decode cX4_share 0 = .ok (.iload_n 3, 1) := by decide +kernel
theorem dX4_share_1 : decode cX4_share 1 = .ok (.tableswitch 52 0 2 #[27, 36, 44], 27) := by decide +kernel
theorem dX4_share_28 : decode cX4_share 28 = .ok (.aload_n 0, 1) := by decide +kernel
theorem dX4_share_29 : decode cX4_share 29 = .ok (.iload_n 1, 1) := by decide +kernel
theorem dX4_share_30 : decode cX4_share 30 = .ok (.iload_n 2, 1) := by decide +kernel
theorem dX4_share_31 : decode cX4_share 31 = .ok (.invokevirtual 60, 3) := by decide +kernel
theorem dX4_share_34 : decode cX4_share 34 = .ok (.goto 24, 3) := by decide +kernel
theorem dX4_share_37 : decode cX4_share 37 = .ok (.aload_n 0, 1) := by decide +kernel
theorem dX4_share_38 : decode cX4_share 38 = .ok (.iload_n 1, 1) := by decide +kernel
theorem dX4_share_39 : decode cX4_share 39 = .ok (.invokevirtual 52, 3) := by decide +kernel
theorem dX4_share_42 : decode cX4_share 42 = .ok (.goto 16, 3) := by decide +kernel
theorem dX4_share_45 : decode cX4_share 45 = .ok (.aload_n 0, 1) := by decide +kernel
theorem dX4_share_46 : decode cX4_share 46 = .ok (.iload_n 1, 1) := by decide +kernel
theorem dX4_share_47 : decode cX4_share 47 = .ok (.invokevirtual 64, 3) := by decide +kernel
theorem dX4_share_50 : decode cX4_share 50 = .ok (.goto 8, 3) := by decide +kernel
theorem dX4_share_53 : decode cX4_share 53 = .ok (.aload_n 0, 1) := by decide +kernel
theorem dX4_share_54 : decode cX4_share 54 = .ok (.iload_n 1, 1) := by decide +kernel
theorem dX4_share_55 : decode cX4_share 55 = .ok (.invokevirtual 67, 3) := by decide +kernel
theorem dX4_share_58 : decode cX4_share 58 = .ok (.return_, 1) := by decide +kernel
set_option maxRecDepth 20000 in
theorem ggX4_shareByDemand_X3_give : GoodIn wsX4_shareByDemand wsX3_give := goodIn_r _ [8, 9, 10, 11, 12, 13, 14, 15, 16, 7, 17, 18, 22, 23, 24, 25] (by decide +kernel) (by decide +kernel)
set_option maxRecDepth 20000 in
theorem gX4_shareByDemand_X3_give : GoodIn wsX4_shareByDemand (wsV RX4 70 RX3 yX3_give wsX3_give) := goodIn_app (goodIn_of _ (by decide +kernel)) ggX4_shareByDemand_X3_give
theorem dX4_shareByDemand_0 : decode cX4_shareByDemand 0 = .ok (.iload_n 2, 1) := by decide +kernel
theorem dX4_shareByDemand_1 : decode cX4_shareByDemand 1 = .ok (.ifCond .gt 4, 3) := by decide +kernel
theorem dX4_shareByDemand_4 : decode cX4_shareByDemand 4 = .ok (.return_, 1) := by decide +kernel
theorem dX4_shareByDemand_5 : decode cX4_shareByDemand 5 = .ok (.iload_n 1, 1) := by decide +kernel
theorem dX4_shareByDemand_6 : decode cX4_shareByDemand 6 = .ok (.istore_n 3, 1) := by decide +kernel
theorem dX4_shareByDemand_7 : decode cX4_shareByDemand 7 = .ok (.iconst 0, 1) := by decide +kernel
theorem dX4_shareByDemand_8 : decode cX4_shareByDemand 8 = .ok (.istore 4, 2) := by decide +kernel
theorem dX4_shareByDemand_10 : decode cX4_shareByDemand 10 = .ok (.iload 4, 2) := by decide +kernel
theorem dX4_shareByDemand_12 : decode cX4_shareByDemand 12 = .ok (.aload_n 0, 1) := by decide +kernel
theorem dX4_shareByDemand_13 : decode cX4_shareByDemand 13 = .ok (.getfield 22, 3) := by decide +kernel
theorem dX4_shareByDemand_16 : decode cX4_shareByDemand 16 = .ok (.if_icmp .ge 44, 3) := by decide +kernel
theorem dX4_shareByDemand_19 : decode cX4_shareByDemand 19 = .ok (.aload_n 0, 1) := by decide +kernel
theorem dX4_shareByDemand_20 : decode cX4_shareByDemand 20 = .ok (.getfield 11, 3) := by decide +kernel
theorem dX4_shareByDemand_23 : decode cX4_shareByDemand 23 = .ok (.iload 4, 2) := by decide +kernel
theorem dX4_shareByDemand_25 : decode cX4_shareByDemand 25 = .ok (.aaload, 1) := by decide +kernel
theorem dX4_shareByDemand_26 : decode cX4_shareByDemand 26 = .ok (.getfield 33, 3) := by decide +kernel
theorem dX4_shareByDemand_29 : decode cX4_shareByDemand 29 = .ok (.i2l, 1) := by decide +kernel
theorem dX4_shareByDemand_30 : decode cX4_shareByDemand 30 = .ok (.iload_n 1, 1) := by decide +kernel
theorem dX4_shareByDemand_31 : decode cX4_shareByDemand 31 = .ok (.i2l, 1) := by decide +kernel
theorem dX4_shareByDemand_32 : decode cX4_shareByDemand 32 = .ok (.lmul, 1) := by decide +kernel
theorem dX4_shareByDemand_33 : decode cX4_shareByDemand 33 = .ok (.iload_n 2, 1) := by decide +kernel
theorem dX4_shareByDemand_34 : decode cX4_shareByDemand 34 = .ok (.i2l, 1) := by decide +kernel
theorem dX4_shareByDemand_35 : decode cX4_shareByDemand 35 = .ok (.ldiv, 1) := by decide +kernel
theorem dX4_shareByDemand_36 : decode cX4_shareByDemand 36 = .ok (.lstore 5, 2) := by decide +kernel
theorem dX4_shareByDemand_38 : decode cX4_shareByDemand 38 = .ok (.iload_n 3, 1) := by decide +kernel
theorem dX4_shareByDemand_39 : decode cX4_shareByDemand 39 = .ok (.aload_n 0, 1) := by decide +kernel
theorem dX4_shareByDemand_40 : decode cX4_shareByDemand 40 = .ok (.getfield 11, 3) := by decide +kernel
theorem dX4_shareByDemand_43 : decode cX4_shareByDemand 43 = .ok (.iload 4, 2) := by decide +kernel
theorem dX4_shareByDemand_45 : decode cX4_shareByDemand 45 = .ok (.aaload, 1) := by decide +kernel
theorem dX4_shareByDemand_46 : decode cX4_shareByDemand 46 = .ok (.lload 5, 2) := by decide +kernel
theorem dX4_shareByDemand_48 : decode cX4_shareByDemand 48 = .ok (.l2i, 1) := by decide +kernel
theorem dX4_shareByDemand_49 : decode cX4_shareByDemand 49 = .ok (.invokevirtual 70, 3) := by decide +kernel
theorem dX4_shareByDemand_52 : decode cX4_shareByDemand 52 = .ok (.isub, 1) := by decide +kernel
theorem dX4_shareByDemand_53 : decode cX4_shareByDemand 53 = .ok (.istore_n 3, 1) := by decide +kernel
theorem dX4_shareByDemand_54 : decode cX4_shareByDemand 54 = .ok (.iinc 4 1, 3) := by decide +kernel
theorem dX4_shareByDemand_57 : decode cX4_shareByDemand 57 = .ok (.goto (-47), 3) := by decide +kernel
theorem dX4_shareByDemand_60 : decode cX4_shareByDemand 60 = .ok (.iconst 0, 1) := by decide +kernel
theorem dX4_shareByDemand_61 : decode cX4_shareByDemand 61 = .ok (.istore 4, 2) := by decide +kernel
theorem dX4_shareByDemand_63 : decode cX4_shareByDemand 63 = .ok (.iload 4, 2) := by decide +kernel
theorem dX4_shareByDemand_65 : decode cX4_shareByDemand 65 = .ok (.aload_n 0, 1) := by decide +kernel
theorem dX4_shareByDemand_66 : decode cX4_shareByDemand 66 = .ok (.getfield 22, 3) := by decide +kernel
theorem dX4_shareByDemand_69 : decode cX4_shareByDemand 69 = .ok (.if_icmp .ge 27, 3) := by decide +kernel
theorem dX4_shareByDemand_72 : decode cX4_shareByDemand 72 = .ok (.iload_n 3, 1) := by decide +kernel
theorem dX4_shareByDemand_73 : decode cX4_shareByDemand 73 = .ok (.ifCond .le 23, 3) := by decide +kernel
theorem dX4_shareByDemand_76 : decode cX4_shareByDemand 76 = .ok (.iload_n 3, 1) := by decide +kernel
theorem dX4_shareByDemand_77 : decode cX4_shareByDemand 77 = .ok (.aload_n 0, 1) := by decide +kernel
theorem dX4_shareByDemand_78 : decode cX4_shareByDemand 78 = .ok (.getfield 11, 3) := by decide +kernel
theorem dX4_shareByDemand_81 : decode cX4_shareByDemand 81 = .ok (.iload 4, 2) := by decide +kernel
theorem dX4_shareByDemand_83 : decode cX4_shareByDemand 83 = .ok (.aaload, 1) := by decide +kernel
theorem dX4_shareByDemand_84 : decode cX4_shareByDemand 84 = .ok (.iconst 1, 1) := by decide +kernel
theorem dX4_shareByDemand_85 : decode cX4_shareByDemand 85 = .ok (.invokevirtual 70, 3) := by decide +kernel
theorem dX4_shareByDemand_88 : decode cX4_shareByDemand 88 = .ok (.isub, 1) := by decide +kernel
theorem dX4_shareByDemand_89 : decode cX4_shareByDemand 89 = .ok (.istore_n 3, 1) := by decide +kernel
theorem dX4_shareByDemand_90 : decode cX4_shareByDemand 90 = .ok (.iinc 4 1, 3) := by decide +kernel
theorem dX4_shareByDemand_93 : decode cX4_shareByDemand 93 = .ok (.goto (-30), 3) := by decide +kernel
theorem dX4_shareByDemand_96 : decode cX4_shareByDemand 96 = .ok (.return_, 1) := by decide +kernel
set_option maxRecDepth 20000 in
theorem ggX4_shareInOrder_X4_serveOrder : GoodIn wsX4_shareInOrder wsX4_serveOrder := goodIn_r _ [7, 1, 8, 2, 9, 10, 11, 12, 13, 14, 15, 16, 17, 18, 19, 20, 21, 22, 23, 24, 25, 26, 27, 28, 29, 30] (by decide +kernel) (by decide +kernel)
set_option maxRecDepth 20000 in
theorem gX4_shareInOrder_X4_serveOrder : GoodIn wsX4_shareInOrder (wsV RX4 74 RX4 yX4_serveOrder wsX4_serveOrder) := goodIn_app (goodIn_of _ (by decide +kernel)) ggX4_shareInOrder_X4_serveOrder
theorem dX4_shareInOrder_0 : decode cX4_shareInOrder 0 = .ok (.iconst 0, 1) := by decide +kernel
theorem dX4_shareInOrder_1 : decode cX4_shareInOrder 1 = .ok (.istore_n 2, 1) := by decide +kernel
theorem dX4_shareInOrder_2 : decode cX4_shareInOrder 2 = .ok (.iload_n 2, 1) := by decide +kernel
theorem dX4_shareInOrder_3 : decode cX4_shareInOrder 3 = .ok (.aload_n 0, 1) := by decide +kernel
theorem dX4_shareInOrder_4 : decode cX4_shareInOrder 4 = .ok (.getfield 22, 3) := by decide +kernel
theorem dX4_shareInOrder_7 : decode cX4_shareInOrder 7 = .ok (.if_icmp .ge 16, 3) := by decide +kernel
theorem dX4_shareInOrder_10 : decode cX4_shareInOrder 10 = .ok (.aload_n 0, 1) := by decide +kernel
theorem dX4_shareInOrder_11 : decode cX4_shareInOrder 11 = .ok (.getfield 18, 3) := by decide +kernel
theorem dX4_shareInOrder_14 : decode cX4_shareInOrder 14 = .ok (.iload_n 2, 1) := by decide +kernel
theorem dX4_shareInOrder_15 : decode cX4_shareInOrder 15 = .ok (.iload_n 2, 1) := by decide +kernel
theorem dX4_shareInOrder_16 : decode cX4_shareInOrder 16 = .ok (.iastore, 1) := by decide +kernel
theorem dX4_shareInOrder_17 : decode cX4_shareInOrder 17 = .ok (.iinc 2 1, 3) := by decide +kernel
theorem dX4_shareInOrder_20 : decode cX4_shareInOrder 20 = .ok (.goto (-18), 3) := by decide +kernel
theorem dX4_shareInOrder_23 : decode cX4_shareInOrder 23 = .ok (.aload_n 0, 1) := by decide +kernel
theorem dX4_shareInOrder_24 : decode cX4_shareInOrder 24 = .ok (.iload_n 1, 1) := by decide +kernel
theorem dX4_shareInOrder_25 : decode cX4_shareInOrder 25 = .ok (.invokevirtual 74, 3) := by decide +kernel
theorem dX4_shareInOrder_28 : decode cX4_shareInOrder 28 = .ok (.return_, 1) := by decide +kernel
set_option maxRecDepth 20000 in
theorem ggX4_shareSmallestFirst_X4_serveOrder : GoodIn wsX4_shareSmallestFirst wsX4_serveOrder := goodIn_r _ [9, 1, 2, 3, 10, 11, 12, 13, 14, 15, 16, 17, 18, 19, 20, 21, 22, 23, 24, 25, 26, 27, 28, 29, 30, 31] (by decide +kernel) (by decide +kernel)
set_option maxRecDepth 20000 in
theorem gX4_shareSmallestFirst_X4_serveOrder : GoodIn wsX4_shareSmallestFirst (wsV RX4 74 RX4 yX4_serveOrder wsX4_serveOrder) := goodIn_app (goodIn_of _ (by decide +kernel)) ggX4_shareSmallestFirst_X4_serveOrder
theorem dX4_shareSmallestFirst_0 : decode cX4_shareSmallestFirst 0 = .ok (.iconst 0, 1) := by decide +kernel
theorem dX4_shareSmallestFirst_1 : decode cX4_shareSmallestFirst 1 = .ok (.istore_n 2, 1) := by decide +kernel
theorem dX4_shareSmallestFirst_2 : decode cX4_shareSmallestFirst 2 = .ok (.iload_n 2, 1) := by decide +kernel
theorem dX4_shareSmallestFirst_3 : decode cX4_shareSmallestFirst 3 = .ok (.aload_n 0, 1) := by decide +kernel
theorem dX4_shareSmallestFirst_4 : decode cX4_shareSmallestFirst 4 = .ok (.getfield 22, 3) := by decide +kernel
theorem dX4_shareSmallestFirst_7 : decode cX4_shareSmallestFirst 7 = .ok (.if_icmp .ge 70, 3) := by decide +kernel
theorem dX4_shareSmallestFirst_10 : decode cX4_shareSmallestFirst 10 = .ok (.iload_n 2, 1) := by decide +kernel
theorem dX4_shareSmallestFirst_11 : decode cX4_shareSmallestFirst 11 = .ok (.istore_n 3, 1) := by decide +kernel
theorem dX4_shareSmallestFirst_12 : decode cX4_shareSmallestFirst 12 = .ok (.iload_n 3, 1) := by decide +kernel
theorem dX4_shareSmallestFirst_13 : decode cX4_shareSmallestFirst 13 = .ok (.ifCond .le 51, 3) := by decide +kernel
theorem dX4_shareSmallestFirst_16 : decode cX4_shareSmallestFirst 16 = .ok (.aload_n 0, 1) := by decide +kernel
theorem dX4_shareSmallestFirst_17 : decode cX4_shareSmallestFirst 17 = .ok (.getfield 11, 3) := by decide +kernel
theorem dX4_shareSmallestFirst_20 : decode cX4_shareSmallestFirst 20 = .ok (.aload_n 0, 1) := by decide +kernel
theorem dX4_shareSmallestFirst_21 : decode cX4_shareSmallestFirst 21 = .ok (.getfield 18, 3) := by decide +kernel
theorem dX4_shareSmallestFirst_24 : decode cX4_shareSmallestFirst 24 = .ok (.iload_n 3, 1) := by decide +kernel
theorem dX4_shareSmallestFirst_25 : decode cX4_shareSmallestFirst 25 = .ok (.iconst 1, 1) := by decide +kernel
theorem dX4_shareSmallestFirst_26 : decode cX4_shareSmallestFirst 26 = .ok (.isub, 1) := by decide +kernel
theorem dX4_shareSmallestFirst_27 : decode cX4_shareSmallestFirst 27 = .ok (.iaload, 1) := by decide +kernel
theorem dX4_shareSmallestFirst_28 : decode cX4_shareSmallestFirst 28 = .ok (.aaload, 1) := by decide +kernel
theorem dX4_shareSmallestFirst_29 : decode cX4_shareSmallestFirst 29 = .ok (.getfield 33, 3) := by decide +kernel
theorem dX4_shareSmallestFirst_32 : decode cX4_shareSmallestFirst 32 = .ok (.aload_n 0, 1) := by decide +kernel
theorem dX4_shareSmallestFirst_33 : decode cX4_shareSmallestFirst 33 = .ok (.getfield 11, 3) := by decide +kernel
theorem dX4_shareSmallestFirst_36 : decode cX4_shareSmallestFirst 36 = .ok (.iload_n 2, 1) := by decide +kernel
theorem dX4_shareSmallestFirst_37 : decode cX4_shareSmallestFirst 37 = .ok (.aaload, 1) := by decide +kernel
theorem dX4_shareSmallestFirst_38 : decode cX4_shareSmallestFirst 38 = .ok (.getfield 33, 3) := by decide +kernel
theorem dX4_shareSmallestFirst_41 : decode cX4_shareSmallestFirst 41 = .ok (.if_icmp .le 23, 3) := by decide +kernel
theorem dX4_shareSmallestFirst_44 : decode cX4_shareSmallestFirst 44 = .ok (.aload_n 0, 1) := by decide +kernel
theorem dX4_shareSmallestFirst_45 : decode cX4_shareSmallestFirst 45 = .ok (.getfield 18, 3) := by decide +kernel
theorem dX4_shareSmallestFirst_48 : decode cX4_shareSmallestFirst 48 = .ok (.iload_n 3, 1) := by decide +kernel
theorem dX4_shareSmallestFirst_49 : decode cX4_shareSmallestFirst 49 = .ok (.aload_n 0, 1) := by decide +kernel
theorem dX4_shareSmallestFirst_50 : decode cX4_shareSmallestFirst 50 = .ok (.getfield 18, 3) := by decide +kernel
theorem dX4_shareSmallestFirst_53 : decode cX4_shareSmallestFirst 53 = .ok (.iload_n 3, 1) := by decide +kernel
theorem dX4_shareSmallestFirst_54 : decode cX4_shareSmallestFirst 54 = .ok (.iconst 1, 1) := by decide +kernel
theorem dX4_shareSmallestFirst_55 : decode cX4_shareSmallestFirst 55 = .ok (.isub, 1) := by decide +kernel
theorem dX4_shareSmallestFirst_56 : decode cX4_shareSmallestFirst 56 = .ok (.iaload, 1) := by decide +kernel
theorem dX4_shareSmallestFirst_57 : decode cX4_shareSmallestFirst 57 = .ok (.iastore, 1) := by decide +kernel
theorem dX4_shareSmallestFirst_58 : decode cX4_shareSmallestFirst 58 = .ok (.iinc 3 (-1), 3) := by decide +kernel
theorem dX4_shareSmallestFirst_61 : decode cX4_shareSmallestFirst 61 = .ok (.goto (-49), 3) := by decide +kernel
theorem dX4_shareSmallestFirst_64 : decode cX4_shareSmallestFirst 64 = .ok (.aload_n 0, 1) := by decide +kernel
theorem dX4_shareSmallestFirst_65 : decode cX4_shareSmallestFirst 65 = .ok (.getfield 18, 3) := by decide +kernel
theorem dX4_shareSmallestFirst_68 : decode cX4_shareSmallestFirst 68 = .ok (.iload_n 3, 1) := by decide +kernel
theorem dX4_shareSmallestFirst_69 : decode cX4_shareSmallestFirst 69 = .ok (.iload_n 2, 1) := by decide +kernel
theorem dX4_shareSmallestFirst_70 : decode cX4_shareSmallestFirst 70 = .ok (.iastore, 1) := by decide +kernel
theorem dX4_shareSmallestFirst_71 : decode cX4_shareSmallestFirst 71 = .ok (.iinc 2 1, 3) := by decide +kernel
theorem dX4_shareSmallestFirst_74 : decode cX4_shareSmallestFirst 74 = .ok (.goto (-72), 3) := by decide +kernel
theorem dX4_shareSmallestFirst_77 : decode cX4_shareSmallestFirst 77 = .ok (.aload_n 0, 1) := by decide +kernel
theorem dX4_shareSmallestFirst_78 : decode cX4_shareSmallestFirst 78 = .ok (.iload_n 1, 1) := by decide +kernel
theorem dX4_shareSmallestFirst_79 : decode cX4_shareSmallestFirst 79 = .ok (.invokevirtual 74, 3) := by decide +kernel
theorem dX4_shareSmallestFirst_82 : decode cX4_shareSmallestFirst 82 = .ok (.return_, 1) := by decide +kernel
set_option maxRecDepth 20000 in
theorem ggX4_serveOrder_X3_give : GoodIn wsX4_serveOrder wsX3_give := goodIn_r _ [8, 9, 10, 11, 12, 13, 14, 15, 16, 7, 17, 18, 22, 23, 24, 25] (by decide +kernel) (by decide +kernel)
set_option maxRecDepth 20000 in
theorem gX4_serveOrder_X3_give : GoodIn wsX4_serveOrder (wsV RX4 70 RX3 yX3_give wsX3_give) := goodIn_app (goodIn_of _ (by decide +kernel)) ggX4_serveOrder_X3_give
theorem dX4_serveOrder_0 : decode cX4_serveOrder 0 = .ok (.iload_n 1, 1) := by decide +kernel
theorem dX4_serveOrder_1 : decode cX4_serveOrder 1 = .ok (.istore_n 2, 1) := by decide +kernel
theorem dX4_serveOrder_2 : decode cX4_serveOrder 2 = .ok (.iconst 0, 1) := by decide +kernel
theorem dX4_serveOrder_3 : decode cX4_serveOrder 3 = .ok (.istore_n 3, 1) := by decide +kernel
theorem dX4_serveOrder_4 : decode cX4_serveOrder 4 = .ok (.iload_n 3, 1) := by decide +kernel
theorem dX4_serveOrder_5 : decode cX4_serveOrder 5 = .ok (.aload_n 0, 1) := by decide +kernel
theorem dX4_serveOrder_6 : decode cX4_serveOrder 6 = .ok (.getfield 22, 3) := by decide +kernel
theorem dX4_serveOrder_9 : decode cX4_serveOrder 9 = .ok (.if_icmp .ge 27, 3) := by decide +kernel
theorem dX4_serveOrder_12 : decode cX4_serveOrder 12 = .ok (.iload_n 2, 1) := by decide +kernel
theorem dX4_serveOrder_13 : decode cX4_serveOrder 13 = .ok (.aload_n 0, 1) := by decide +kernel
theorem dX4_serveOrder_14 : decode cX4_serveOrder 14 = .ok (.getfield 11, 3) := by decide +kernel
theorem dX4_serveOrder_17 : decode cX4_serveOrder 17 = .ok (.aload_n 0, 1) := by decide +kernel
theorem dX4_serveOrder_18 : decode cX4_serveOrder 18 = .ok (.getfield 18, 3) := by decide +kernel
theorem dX4_serveOrder_21 : decode cX4_serveOrder 21 = .ok (.iload_n 3, 1) := by decide +kernel
theorem dX4_serveOrder_22 : decode cX4_serveOrder 22 = .ok (.iaload, 1) := by decide +kernel
theorem dX4_serveOrder_23 : decode cX4_serveOrder 23 = .ok (.aaload, 1) := by decide +kernel
theorem dX4_serveOrder_24 : decode cX4_serveOrder 24 = .ok (.iload_n 2, 1) := by decide +kernel
theorem dX4_serveOrder_25 : decode cX4_serveOrder 25 = .ok (.invokevirtual 70, 3) := by decide +kernel
theorem dX4_serveOrder_28 : decode cX4_serveOrder 28 = .ok (.isub, 1) := by decide +kernel
theorem dX4_serveOrder_29 : decode cX4_serveOrder 29 = .ok (.istore_n 2, 1) := by decide +kernel
theorem dX4_serveOrder_30 : decode cX4_serveOrder 30 = .ok (.iinc 3 1, 3) := by decide +kernel
theorem dX4_serveOrder_33 : decode cX4_serveOrder 33 = .ok (.goto (-29), 3) := by decide +kernel
theorem dX4_serveOrder_36 : decode cX4_serveOrder 36 = .ok (.return_, 1) := by decide +kernel
set_option maxRecDepth 20000 in
theorem ggX4_shareInRounds_X4_fullRounds : GoodIn wsX4_shareInRounds wsX4_fullRounds := goodIn_r _ [11, 1, 2, 12, 13, 14, 15, 16, 17, 18, 19, 20, 21, 22, 23, 34, 35, 36, 37, 38, 39, 40] (by decide +kernel) (by decide +kernel)
set_option maxRecDepth 20000 in
theorem gX4_shareInRounds_X4_fullRounds : GoodIn wsX4_shareInRounds (wsV RX4 77 RX4 yX4_fullRounds wsX4_fullRounds) := goodIn_app (goodIn_of _ (by decide +kernel)) ggX4_shareInRounds_X4_fullRounds
set_option maxRecDepth 20000 in
theorem ggX4_shareInRounds_X4_giveRounds : GoodIn wsX4_shareInRounds wsX4_giveRounds := goodIn_r _ [27, 1, 2, 19, 20, 21, 15, 22, 23, 28, 29, 30, 31, 32, 4, 5, 6, 18, 33, 13, 14, 16, 17, 34, 35, 36, 37, 38, 39, 40] (by decide +kernel) (by decide +kernel)
set_option maxRecDepth 20000 in
theorem gX4_shareInRounds_X4_giveRounds : GoodIn wsX4_shareInRounds (wsV RX4 80 RX4 yX4_giveRounds wsX4_giveRounds) := goodIn_app (goodIn_of _ (by decide +kernel)) ggX4_shareInRounds_X4_giveRounds
set_option maxRecDepth 20000 in
theorem ggX4_shareInRounds_X3_portion : GoodIn wsX4_shareInRounds wsX3_portion := goodIn_r _ [22, 23, 37, 38, 39, 40] (by decide +kernel) (by decide +kernel)
set_option maxRecDepth 20000 in
theorem gX4_shareInRounds_X3_portion : GoodIn wsX4_shareInRounds (wsV RX4 83 RX3 yX3_portion wsX3_portion) := goodIn_app (goodIn_of _ (by decide +kernel)) ggX4_shareInRounds_X3_portion
set_option maxRecDepth 20000 in
theorem ggX4_shareInRounds_X3_give : GoodIn wsX4_shareInRounds wsX3_give := goodIn_r _ [31, 32, 4, 5, 6, 18, 33, 13, 14, 15, 16, 17, 37, 38, 39, 40] (by decide +kernel) (by decide +kernel)
set_option maxRecDepth 20000 in
theorem gX4_shareInRounds_X3_give : GoodIn wsX4_shareInRounds (wsV RX4 70 RX3 yX3_give wsX3_give) := goodIn_app (goodIn_of _ (by decide +kernel)) ggX4_shareInRounds_X3_give
theorem dX4_shareInRounds_0 : decode cX4_shareInRounds 0 = .ok (.iload_n 1, 1) := by decide +kernel
theorem dX4_shareInRounds_1 : decode cX4_shareInRounds 1 = .ok (.istore_n 2, 1) := by decide +kernel
theorem dX4_shareInRounds_2 : decode cX4_shareInRounds 2 = .ok (.iconst 0, 1) := by decide +kernel
theorem dX4_shareInRounds_3 : decode cX4_shareInRounds 3 = .ok (.istore_n 3, 1) := by decide +kernel
theorem dX4_shareInRounds_4 : decode cX4_shareInRounds 4 = .ok (.iload_n 3, 1) := by decide +kernel
theorem dX4_shareInRounds_5 : decode cX4_shareInRounds 5 = .ok (.aload_n 0, 1) := by decide +kernel
theorem dX4_shareInRounds_6 : decode cX4_shareInRounds 6 = .ok (.getfield 22, 3) := by decide +kernel
theorem dX4_shareInRounds_9 : decode cX4_shareInRounds 9 = .ok (.if_icmp .gt 70, 3) := by decide +kernel
theorem dX4_shareInRounds_12 : decode cX4_shareInRounds 12 = .ok (.iload_n 2, 1) := by decide +kernel
theorem dX4_shareInRounds_13 : decode cX4_shareInRounds 13 = .ok (.ifCond .le 66, 3) := by decide +kernel
theorem dX4_shareInRounds_16 : decode cX4_shareInRounds 16 = .ok (.iload_n 2, 1) := by decide +kernel
theorem dX4_shareInRounds_17 : decode cX4_shareInRounds 17 = .ok (.aload_n 0, 1) := by decide +kernel
theorem dX4_shareInRounds_18 : decode cX4_shareInRounds 18 = .ok (.aload_n 0, 1) := by decide +kernel
theorem dX4_shareInRounds_19 : decode cX4_shareInRounds 19 = .ok (.iload_n 2, 1) := by decide +kernel
theorem dX4_shareInRounds_20 : decode cX4_shareInRounds 20 = .ok (.invokevirtual 77, 3) := by decide +kernel
theorem dX4_shareInRounds_23 : decode cX4_shareInRounds 23 = .ok (.invokevirtual 80, 3) := by decide +kernel
theorem dX4_shareInRounds_26 : decode cX4_shareInRounds 26 = .ok (.isub, 1) := by decide +kernel
theorem dX4_shareInRounds_27 : decode cX4_shareInRounds 27 = .ok (.istore_n 2, 1) := by decide +kernel
theorem dX4_shareInRounds_28 : decode cX4_shareInRounds 28 = .ok (.iconst 0, 1) := by decide +kernel
theorem dX4_shareInRounds_29 : decode cX4_shareInRounds 29 = .ok (.istore 4, 2) := by decide +kernel
theorem dX4_shareInRounds_31 : decode cX4_shareInRounds 31 = .ok (.iload 4, 2) := by decide +kernel
theorem dX4_shareInRounds_33 : decode cX4_shareInRounds 33 = .ok (.aload_n 0, 1) := by decide +kernel
theorem dX4_shareInRounds_34 : decode cX4_shareInRounds 34 = .ok (.getfield 22, 3) := by decide +kernel
theorem dX4_shareInRounds_37 : decode cX4_shareInRounds 37 = .ok (.if_icmp .ge 36, 3) := by decide +kernel
theorem dX4_shareInRounds_40 : decode cX4_shareInRounds 40 = .ok (.iload_n 2, 1) := by decide +kernel
theorem dX4_shareInRounds_41 : decode cX4_shareInRounds 41 = .ok (.aload_n 0, 1) := by decide +kernel
theorem dX4_shareInRounds_42 : decode cX4_shareInRounds 42 = .ok (.getfield 11, 3) := by decide +kernel
theorem dX4_shareInRounds_45 : decode cX4_shareInRounds 45 = .ok (.iload 4, 2) := by decide +kernel
theorem dX4_shareInRounds_47 : decode cX4_shareInRounds 47 = .ok (.aaload, 1) := by decide +kernel
theorem dX4_shareInRounds_48 : decode cX4_shareInRounds 48 = .ok (.iload_n 2, 1) := by decide +kernel
theorem dX4_shareInRounds_49 : decode cX4_shareInRounds 49 = .ok (.aload_n 0, 1) := by decide +kernel
theorem dX4_shareInRounds_50 : decode cX4_shareInRounds 50 = .ok (.getfield 11, 3) := by decide +kernel
theorem dX4_shareInRounds_53 : decode cX4_shareInRounds 53 = .ok (.iload 4, 2) := by decide +kernel
theorem dX4_shareInRounds_55 : decode cX4_shareInRounds 55 = .ok (.aaload, 1) := by decide +kernel
theorem dX4_shareInRounds_56 : decode cX4_shareInRounds 56 = .ok (.invokevirtual 83, 3) := by decide +kernel
theorem dX4_shareInRounds_59 : decode cX4_shareInRounds 59 = .ok (.invokestatic 86, 3) := by decide +kernel
theorem dX4_shareInRounds_62 : decode cX4_shareInRounds 62 = .ok (.invokevirtual 70, 3) := by decide +kernel
theorem dX4_shareInRounds_65 : decode cX4_shareInRounds 65 = .ok (.isub, 1) := by decide +kernel
theorem dX4_shareInRounds_66 : decode cX4_shareInRounds 66 = .ok (.istore_n 2, 1) := by decide +kernel
theorem dX4_shareInRounds_67 : decode cX4_shareInRounds 67 = .ok (.iinc 4 1, 3) := by decide +kernel
theorem dX4_shareInRounds_70 : decode cX4_shareInRounds 70 = .ok (.goto (-39), 3) := by decide +kernel
theorem dX4_shareInRounds_73 : decode cX4_shareInRounds 73 = .ok (.iinc 3 1, 3) := by decide +kernel
theorem dX4_shareInRounds_76 : decode cX4_shareInRounds 76 = .ok (.goto (-72), 3) := by decide +kernel
theorem dX4_shareInRounds_79 : decode cX4_shareInRounds 79 = .ok (.return_, 1) := by decide +kernel
set_option maxRecDepth 20000 in
theorem ggX4_fullRounds_X3_lack : GoodIn wsX4_fullRounds wsX3_lack := goodIn_r _ [7, 8, 9, 18, 19, 20, 21] (by decide +kernel) (by decide +kernel)
set_option maxRecDepth 20000 in
theorem gX4_fullRounds_X3_lack : GoodIn wsX4_fullRounds (wsV RX4 89 RX3 yX3_lack wsX3_lack) := goodIn_app (goodIn_of _ (by decide +kernel)) ggX4_fullRounds_X3_lack
set_option maxRecDepth 20000 in
theorem ggX4_fullRounds_X3_portion : GoodIn wsX4_fullRounds wsX3_portion := goodIn_r _ [13, 14, 18, 19, 20, 21] (by decide +kernel) (by decide +kernel)
set_option maxRecDepth 20000 in
theorem gX4_fullRounds_X3_portion : GoodIn wsX4_fullRounds (wsV RX4 83 RX3 yX3_portion wsX3_portion) := goodIn_app (goodIn_of _ (by decide +kernel)) ggX4_fullRounds_X3_portion
theorem dX4_fullRounds_0 : decode cX4_fullRounds 0 = .ok (.iconst 0, 1) := by decide +kernel
theorem dX4_fullRounds_1 : decode cX4_fullRounds 1 = .ok (.istore_n 2, 1) := by decide +kernel
theorem dX4_fullRounds_2 : decode cX4_fullRounds 2 = .ok (.iconst 0, 1) := by decide +kernel
theorem dX4_fullRounds_3 : decode cX4_fullRounds 3 = .ok (.istore_n 3, 1) := by decide +kernel
theorem dX4_fullRounds_4 : decode cX4_fullRounds 4 = .ok (.iload_n 3, 1) := by decide +kernel
theorem dX4_fullRounds_5 : decode cX4_fullRounds 5 = .ok (.aload_n 0, 1) := by decide +kernel
theorem dX4_fullRounds_6 : decode cX4_fullRounds 6 = .ok (.getfield 22, 3) := by decide +kernel
theorem dX4_fullRounds_9 : decode cX4_fullRounds 9 = .ok (.if_icmp .ge 33, 3) := by decide +kernel
theorem dX4_fullRounds_12 : decode cX4_fullRounds 12 = .ok (.aload_n 0, 1) := by decide +kernel
theorem dX4_fullRounds_13 : decode cX4_fullRounds 13 = .ok (.getfield 11, 3) := by decide +kernel
theorem dX4_fullRounds_16 : decode cX4_fullRounds 16 = .ok (.iload_n 3, 1) := by decide +kernel
theorem dX4_fullRounds_17 : decode cX4_fullRounds 17 = .ok (.aaload, 1) := by decide +kernel
theorem dX4_fullRounds_18 : decode cX4_fullRounds 18 = .ok (.invokevirtual 89, 3) := by decide +kernel
theorem dX4_fullRounds_21 : decode cX4_fullRounds 21 = .ok (.ifCond .le 15, 3) := by decide +kernel
theorem dX4_fullRounds_24 : decode cX4_fullRounds 24 = .ok (.iload_n 2, 1) := by decide +kernel
theorem dX4_fullRounds_25 : decode cX4_fullRounds 25 = .ok (.aload_n 0, 1) := by decide +kernel
theorem dX4_fullRounds_26 : decode cX4_fullRounds 26 = .ok (.getfield 11, 3) := by decide +kernel
theorem dX4_fullRounds_29 : decode cX4_fullRounds 29 = .ok (.iload_n 3, 1) := by decide +kernel
theorem dX4_fullRounds_30 : decode cX4_fullRounds 30 = .ok (.aaload, 1) := by decide +kernel
theorem dX4_fullRounds_31 : decode cX4_fullRounds 31 = .ok (.invokevirtual 83, 3) := by decide +kernel
theorem dX4_fullRounds_34 : decode cX4_fullRounds 34 = .ok (.iadd, 1) := by decide +kernel
theorem dX4_fullRounds_35 : decode cX4_fullRounds 35 = .ok (.istore_n 2, 1) := by decide +kernel
theorem dX4_fullRounds_36 : decode cX4_fullRounds 36 = .ok (.iinc 3 1, 3) := by decide +kernel
theorem dX4_fullRounds_39 : decode cX4_fullRounds 39 = .ok (.goto (-35), 3) := by decide +kernel
theorem dX4_fullRounds_42 : decode cX4_fullRounds 42 = .ok (.iload_n 2, 1) := by decide +kernel
theorem dX4_fullRounds_43 : decode cX4_fullRounds 43 = .ok (.ifCond .le 9, 3) := by decide +kernel
theorem dX4_fullRounds_46 : decode cX4_fullRounds 46 = .ok (.iload_n 1, 1) := by decide +kernel
theorem dX4_fullRounds_47 : decode cX4_fullRounds 47 = .ok (.iload_n 2, 1) := by decide +kernel
theorem dX4_fullRounds_48 : decode cX4_fullRounds 48 = .ok (.idiv, 1) := by decide +kernel
theorem dX4_fullRounds_49 : decode cX4_fullRounds 49 = .ok (.goto 4, 3) := by decide +kernel
theorem dX4_fullRounds_52 : decode cX4_fullRounds 52 = .ok (.iconst 0, 1) := by decide +kernel
theorem dX4_fullRounds_53 : decode cX4_fullRounds 53 = .ok (.ireturn, 1) := by decide +kernel
set_option maxRecDepth 20000 in
theorem ggX4_giveRounds_X3_portion : GoodIn wsX4_giveRounds wsX3_portion := goodIn_r _ [7, 8, 26, 27, 28, 29] (by decide +kernel) (by decide +kernel)
set_option maxRecDepth 20000 in
theorem gX4_giveRounds_X3_portion : GoodIn wsX4_giveRounds (wsV RX4 83 RX3 yX3_portion wsX3_portion) := goodIn_app (goodIn_of _ (by decide +kernel)) ggX4_giveRounds_X3_portion
set_option maxRecDepth 20000 in
theorem ggX4_giveRounds_X3_give : GoodIn wsX4_giveRounds wsX3_give := goodIn_r _ [12, 13, 14, 15, 16, 17, 18, 19, 20, 6, 21, 22, 26, 27, 28, 29] (by decide +kernel) (by decide +kernel)
set_option maxRecDepth 20000 in
theorem gX4_giveRounds_X3_give : GoodIn wsX4_giveRounds (wsV RX4 70 RX3 yX3_give wsX3_give) := goodIn_app (goodIn_of _ (by decide +kernel)) ggX4_giveRounds_X3_give
theorem dX4_giveRounds_0 : decode cX4_giveRounds 0 = .ok (.iconst 0, 1) := by decide +kernel
theorem dX4_giveRounds_1 : decode cX4_giveRounds 1 = .ok (.istore_n 2, 1) := by decide +kernel
theorem dX4_giveRounds_2 : decode cX4_giveRounds 2 = .ok (.iconst 0, 1) := by decide +kernel
theorem dX4_giveRounds_3 : decode cX4_giveRounds 3 = .ok (.istore_n 3, 1) := by decide +kernel
theorem dX4_giveRounds_4 : decode cX4_giveRounds 4 = .ok (.iload_n 3, 1) := by decide +kernel
theorem dX4_giveRounds_5 : decode cX4_giveRounds 5 = .ok (.aload_n 0, 1) := by decide +kernel
theorem dX4_giveRounds_6 : decode cX4_giveRounds 6 = .ok (.getfield 22, 3) := by decide +kernel
theorem dX4_giveRounds_9 : decode cX4_giveRounds 9 = .ok (.if_icmp .ge 32, 3) := by decide +kernel
theorem dX4_giveRounds_12 : decode cX4_giveRounds 12 = .ok (.iload_n 2, 1) := by decide +kernel
theorem dX4_giveRounds_13 : decode cX4_giveRounds 13 = .ok (.aload_n 0, 1) := by decide +kernel
theorem dX4_giveRounds_14 : decode cX4_giveRounds 14 = .ok (.getfield 11, 3) := by decide +kernel
theorem dX4_giveRounds_17 : decode cX4_giveRounds 17 = .ok (.iload_n 3, 1) := by decide +kernel
theorem dX4_giveRounds_18 : decode cX4_giveRounds 18 = .ok (.aaload, 1) := by decide +kernel
theorem dX4_giveRounds_19 : decode cX4_giveRounds 19 = .ok (.iload_n 1, 1) := by decide +kernel
theorem dX4_giveRounds_20 : decode cX4_giveRounds 20 = .ok (.aload_n 0, 1) := by decide +kernel
theorem dX4_giveRounds_21 : decode cX4_giveRounds 21 = .ok (.getfield 11, 3) := by decide +kernel
theorem dX4_giveRounds_24 : decode cX4_giveRounds 24 = .ok (.iload_n 3, 1) := by decide +kernel
theorem dX4_giveRounds_25 : decode cX4_giveRounds 25 = .ok (.aaload, 1) := by decide +kernel
theorem dX4_giveRounds_26 : decode cX4_giveRounds 26 = .ok (.invokevirtual 83, 3) := by decide +kernel
theorem dX4_giveRounds_29 : decode cX4_giveRounds 29 = .ok (.imul, 1) := by decide +kernel
theorem dX4_giveRounds_30 : decode cX4_giveRounds 30 = .ok (.invokevirtual 70, 3) := by decide +kernel
theorem dX4_giveRounds_33 : decode cX4_giveRounds 33 = .ok (.iadd, 1) := by decide +kernel
theorem dX4_giveRounds_34 : decode cX4_giveRounds 34 = .ok (.istore_n 2, 1) := by decide +kernel
theorem dX4_giveRounds_35 : decode cX4_giveRounds 35 = .ok (.iinc 3 1, 3) := by decide +kernel
theorem dX4_giveRounds_38 : decode cX4_giveRounds 38 = .ok (.goto (-34), 3) := by decide +kernel
theorem dX4_giveRounds_41 : decode cX4_giveRounds 41 = .ok (.iload_n 2, 1) := by decide +kernel
theorem dX4_giveRounds_42 : decode cX4_giveRounds 42 = .ok (.ireturn, 1) := by decide +kernel
end
