section
/-- a private method of a class that the tables say can be made, by its rows of tables_1 -/
def lw_okq (q : MethodName × Nat) : Prop := (q.1.cls ≠ "java/lang/invoke/MethodHandle" ∧ q.1.cls ≠ "java/lang/invoke/VarHandle") ∧ Cond.instantiable q.1.cls q.2 ∈ tables_1 ∧ Cond.privateMethod q.1 ∈ tables_1 ∧ Cond.instanceMethod q.1 ∈ tables_1
theorem lw_p0 : lw_okq (⟨"WhileSaltMelts$Reader", "readItem", "([BII)I"⟩, 3) := ⟨⟨by decide +kernel, by decide +kernel⟩, List.mem_of_getElem? (i := 23) (by decide +kernel), List.mem_of_getElem? (i := 279) (by decide +kernel), List.mem_of_getElem? (i := 280) (by decide +kernel)⟩
theorem lw_p1 : lw_okq (⟨"WhileSaltMelts$Table", "addPerson", "(I)Z"⟩, 13) := ⟨⟨by decide +kernel, by decide +kernel⟩, List.mem_of_getElem? (i := 41) (by decide +kernel), List.mem_of_getElem? (i := 293) (by decide +kernel), List.mem_of_getElem? (i := 294) (by decide +kernel)⟩
theorem lw_p2 : lw_okq (⟨"WhileSaltMelts$Table", "addGrain", "(I)Z"⟩, 13) := ⟨⟨by decide +kernel, by decide +kernel⟩, List.mem_of_getElem? (i := 41) (by decide +kernel), List.mem_of_getElem? (i := 297) (by decide +kernel), List.mem_of_getElem? (i := 298) (by decide +kernel)⟩
theorem lw_p3 : lw_okq (⟨"WhileSaltMelts$Table", "addSaying", "(IIII)Z"⟩, 13) := ⟨⟨by decide +kernel, by decide +kernel⟩, List.mem_of_getElem? (i := 41) (by decide +kernel), List.mem_of_getElem? (i := 301) (by decide +kernel), List.mem_of_getElem? (i := 302) (by decide +kernel)⟩
theorem lw_p4 : lw_okq (⟨"WhileSaltMelts$Table", "setWindow", "(I)Z"⟩, 13) := ⟨⟨by decide +kernel, by decide +kernel⟩, List.mem_of_getElem? (i := 41) (by decide +kernel), List.mem_of_getElem? (i := 305) (by decide +kernel), List.mem_of_getElem? (i := 306) (by decide +kernel)⟩
theorem lw_p5 : lw_okq (⟨"WhileSaltMelts$Table", "addDish", "(II)Z"⟩, 13) := ⟨⟨by decide +kernel, by decide +kernel⟩, List.mem_of_getElem? (i := 41) (by decide +kernel), List.mem_of_getElem? (i := 309) (by decide +kernel), List.mem_of_getElem? (i := 310) (by decide +kernel)⟩
theorem lw_p6 : lw_okq (⟨"WhileSaltMelts", "isPerson", "(I)Z"⟩, 13) := ⟨⟨by decide +kernel, by decide +kernel⟩, List.mem_of_getElem? (i := 15) (by decide +kernel), List.mem_of_getElem? (i := 377) (by decide +kernel), List.mem_of_getElem? (i := 378) (by decide +kernel)⟩
theorem lw_p7 : lw_okq (⟨"WhileSaltMelts", "isSaying", "(I)Z"⟩, 13) := ⟨⟨by decide +kernel, by decide +kernel⟩, List.mem_of_getElem? (i := 15) (by decide +kernel), List.mem_of_getElem? (i := 385) (by decide +kernel), List.mem_of_getElem? (i := 386) (by decide +kernel)⟩
theorem lw_p8 : lw_okq (⟨"WhileSaltMelts", "isGrain", "(I)Z"⟩, 13) := ⟨⟨by decide +kernel, by decide +kernel⟩, List.mem_of_getElem? (i := 15) (by decide +kernel), List.mem_of_getElem? (i := 396) (by decide +kernel), List.mem_of_getElem? (i := 397) (by decide +kernel)⟩
theorem lw_p9 : lw_okq (⟨"WhileSaltMelts", "remember", "()V"⟩, 13) := ⟨⟨by decide +kernel, by decide +kernel⟩, List.mem_of_getElem? (i := 15) (by decide +kernel), List.mem_of_getElem? (i := 408) (by decide +kernel), List.mem_of_getElem? (i := 409) (by decide +kernel)⟩
theorem lw_p10 : lw_okq (⟨"WhileSaltMelts", "canBeSaid", "(I)Z"⟩, 13) := ⟨⟨by decide +kernel, by decide +kernel⟩, List.mem_of_getElem? (i := 15) (by decide +kernel), List.mem_of_getElem? (i := 420) (by decide +kernel), List.mem_of_getElem? (i := 421) (by decide +kernel)⟩
theorem lw_p11 : lw_okq (⟨"WhileSaltMelts", "mayAnswerNow", "(I)Z"⟩, 13) := ⟨⟨by decide +kernel, by decide +kernel⟩, List.mem_of_getElem? (i := 15) (by decide +kernel), List.mem_of_getElem? (i := 424) (by decide +kernel), List.mem_of_getElem? (i := 425) (by decide +kernel)⟩
theorem lw_p12 : lw_okq (⟨"WhileSaltMelts", "isDish", "(I)Z"⟩, 13) := ⟨⟨by decide +kernel, by decide +kernel⟩, List.mem_of_getElem? (i := 15) (by decide +kernel), List.mem_of_getElem? (i := 436) (by decide +kernel), List.mem_of_getElem? (i := 437) (by decide +kernel)⟩
theorem lw_p13 : lw_okq (⟨"WhileSaltMelts$Giving", "mostFrom", "(LWhileSaltMelts$Table;III)I"⟩, 3) := ⟨⟨by decide +kernel, by decide +kernel⟩, List.mem_of_getElem? (i := 166) (by decide +kernel), List.mem_of_getElem? (i := 489) (by decide +kernel), List.mem_of_getElem? (i := 490) (by decide +kernel)⟩
theorem lw_p14 : lw_okq (⟨"WhileSaltMelts$Giving", "giveFirst", "(LWhileSaltMelts$Table;LWhileSaltMelts$Evening;)V"⟩, 3) := ⟨⟨by decide +kernel, by decide +kernel⟩, List.mem_of_getElem? (i := 166) (by decide +kernel), List.mem_of_getElem? (i := 494) (by decide +kernel), List.mem_of_getElem? (i := 495) (by decide +kernel)⟩
theorem lw_p15 : lw_okq (⟨"WhileSaltMelts$Giving", "firstGrain", "(LWhileSaltMelts$Table;III)I"⟩, 3) := ⟨⟨by decide +kernel, by decide +kernel⟩, List.mem_of_getElem? (i := 166) (by decide +kernel), List.mem_of_getElem? (i := 498) (by decide +kernel), List.mem_of_getElem? (i := 499) (by decide +kernel)⟩
def lw_privs_1 : List (MethodName × Nat) := [(⟨"WhileSaltMelts$Reader", "readItem", "([BII)I"⟩, 3), (⟨"WhileSaltMelts$Table", "addPerson", "(I)Z"⟩, 13), (⟨"WhileSaltMelts$Table", "addGrain", "(I)Z"⟩, 13), (⟨"WhileSaltMelts$Table", "addSaying", "(IIII)Z"⟩, 13), (⟨"WhileSaltMelts$Table", "setWindow", "(I)Z"⟩, 13), (⟨"WhileSaltMelts$Table", "addDish", "(II)Z"⟩, 13), (⟨"WhileSaltMelts", "isPerson", "(I)Z"⟩, 13), (⟨"WhileSaltMelts", "isSaying", "(I)Z"⟩, 13), (⟨"WhileSaltMelts", "isGrain", "(I)Z"⟩, 13), (⟨"WhileSaltMelts", "remember", "()V"⟩, 13), (⟨"WhileSaltMelts", "canBeSaid", "(I)Z"⟩, 13), (⟨"WhileSaltMelts", "mayAnswerNow", "(I)Z"⟩, 13), (⟨"WhileSaltMelts", "isDish", "(I)Z"⟩, 13), (⟨"WhileSaltMelts$Giving", "mostFrom", "(LWhileSaltMelts$Table;III)I"⟩, 3), (⟨"WhileSaltMelts$Giving", "giveFirst", "(LWhileSaltMelts$Table;LWhileSaltMelts$Evening;)V"⟩, 3), (⟨"WhileSaltMelts$Giving", "firstGrain", "(LWhileSaltMelts$Table;III)I"⟩, 3)]
theorem lw_r1 : ∀ q ∈ lw_privs_1, lw_okq q := List.forall_mem_cons.mpr ⟨lw_p0, List.forall_mem_cons.mpr ⟨lw_p1, List.forall_mem_cons.mpr ⟨lw_p2, List.forall_mem_cons.mpr ⟨lw_p3, List.forall_mem_cons.mpr ⟨lw_p4, List.forall_mem_cons.mpr ⟨lw_p5, List.forall_mem_cons.mpr ⟨lw_p6, List.forall_mem_cons.mpr ⟨lw_p7, List.forall_mem_cons.mpr ⟨lw_p8, List.forall_mem_cons.mpr ⟨lw_p9, List.forall_mem_cons.mpr ⟨lw_p10, List.forall_mem_cons.mpr ⟨lw_p11, List.forall_mem_cons.mpr ⟨lw_p12, List.forall_mem_cons.mpr ⟨lw_p13, List.forall_mem_cons.mpr ⟨lw_p14, List.forall_mem_cons.mpr ⟨lw_p15, fun _ h => absurd h List.not_mem_nil⟩⟩⟩⟩⟩⟩⟩⟩⟩⟩⟩⟩⟩⟩⟩⟩
theorem lw_p16 : lw_okq (⟨"WhileSaltMelts", "findOrder", "()V"⟩, 13) := ⟨⟨by decide +kernel, by decide +kernel⟩, List.mem_of_getElem? (i := 15) (by decide +kernel), List.mem_of_getElem? (i := 506) (by decide +kernel), List.mem_of_getElem? (i := 507) (by decide +kernel)⟩
theorem lw_p17 : lw_okq (⟨"WhileSaltMelts$Order", "freeAll", "()V"⟩, 8) := ⟨⟨by decide +kernel, by decide +kernel⟩, List.mem_of_getElem? (i := 188) (by decide +kernel), List.mem_of_getElem? (i := 521) (by decide +kernel), List.mem_of_getElem? (i := 522) (by decide +kernel)⟩
theorem lw_p18 : lw_okq (⟨"WhileSaltMelts$Order", "keepTrial", "(I)V"⟩, 8) := ⟨⟨by decide +kernel, by decide +kernel⟩, List.mem_of_getElem? (i := 188) (by decide +kernel), List.mem_of_getElem? (i := 528) (by decide +kernel), List.mem_of_getElem? (i := 529) (by decide +kernel)⟩
theorem lw_p19 : lw_okq (⟨"WhileSaltMelts$Order", "mayBeNext", "(LWhileSaltMelts$Table;II)Z"⟩, 8) := ⟨⟨by decide +kernel, by decide +kernel⟩, List.mem_of_getElem? (i := 188) (by decide +kernel), List.mem_of_getElem? (i := 532) (by decide +kernel), List.mem_of_getElem? (i := 533) (by decide +kernel)⟩
theorem lw_p20 : lw_okq (⟨"WhileSaltMelts$Order", "endBehind", "(LWhileSaltMelts$Table;II)I"⟩, 8) := ⟨⟨by decide +kernel, by decide +kernel⟩, List.mem_of_getElem? (i := 188) (by decide +kernel), List.mem_of_getElem? (i := 537) (by decide +kernel), List.mem_of_getElem? (i := 538) (by decide +kernel)⟩
theorem lw_p21 : lw_okq (⟨"WhileSaltMelts", "leadOf", "(IILWhileSaltMelts$Evening;)I"⟩, 13) := ⟨⟨by decide +kernel, by decide +kernel⟩, List.mem_of_getElem? (i := 15) (by decide +kernel), List.mem_of_getElem? (i := 554) (by decide +kernel), List.mem_of_getElem? (i := 555) (by decide +kernel)⟩
theorem lw_p22 : lw_okq (⟨"WhileSaltMeltsModel", "begins", "()V"⟩, 44) := ⟨⟨by decide +kernel, by decide +kernel⟩, List.mem_of_getElem? (i := 593) (by decide +kernel), List.mem_of_getElem? (i := 599) (by decide +kernel), List.mem_of_getElem? (i := 600) (by decide +kernel)⟩
theorem lw_p23 : lw_okq (⟨"WhileSaltMeltsModel", "tells", "(IIIII)V"⟩, 44) := ⟨⟨by decide +kernel, by decide +kernel⟩, List.mem_of_getElem? (i := 593) (by decide +kernel), List.mem_of_getElem? (i := 603) (by decide +kernel), List.mem_of_getElem? (i := 604) (by decide +kernel)⟩
theorem lw_p24 : lw_okq (⟨"WhileSaltMeltsModel", "lays", "()V"⟩, 44) := ⟨⟨by decide +kernel, by decide +kernel⟩, List.mem_of_getElem? (i := 593) (by decide +kernel), List.mem_of_getElem? (i := 607) (by decide +kernel), List.mem_of_getElem? (i := 608) (by decide +kernel)⟩
theorem lw_p25 : lw_okq (⟨"WhileSaltMeltsModel", "findFault", "()I"⟩, 44) := ⟨⟨by decide +kernel, by decide +kernel⟩, List.mem_of_getElem? (i := 593) (by decide +kernel), List.mem_of_getElem? (i := 760) (by decide +kernel), List.mem_of_getElem? (i := 761) (by decide +kernel)⟩
theorem lw_p26 : lw_okq (⟨"WhileSaltMeltsModel", "isItem", "()Z"⟩, 44) := ⟨⟨by decide +kernel, by decide +kernel⟩, List.mem_of_getElem? (i := 593) (by decide +kernel), List.mem_of_getElem? (i := 764) (by decide +kernel), List.mem_of_getElem? (i := 765) (by decide +kernel)⟩
theorem lw_p27 : lw_okq (⟨"WhileSaltMeltsModel", "here", "()I"⟩, 44) := ⟨⟨by decide +kernel, by decide +kernel⟩, List.mem_of_getElem? (i := 593) (by decide +kernel), List.mem_of_getElem? (i := 768) (by decide +kernel), List.mem_of_getElem? (i := 769) (by decide +kernel)⟩
theorem lw_p28 : lw_okq (⟨"WhileSaltMeltsModel", "isPersonItem", "()Z"⟩, 44) := ⟨⟨by decide +kernel, by decide +kernel⟩, List.mem_of_getElem? (i := 593) (by decide +kernel), List.mem_of_getElem? (i := 772) (by decide +kernel), List.mem_of_getElem? (i := 773) (by decide +kernel)⟩
theorem lw_p29 : lw_okq (⟨"WhileSaltMeltsModel", "number", "(I)I"⟩, 44) := ⟨⟨by decide +kernel, by decide +kernel⟩, List.mem_of_getElem? (i := 593) (by decide +kernel), List.mem_of_getElem? (i := 776) (by decide +kernel), List.mem_of_getElem? (i := 777) (by decide +kernel)⟩
theorem lw_p30 : lw_okq (⟨"WhileSaltMeltsModel", "isGrainItem", "()Z"⟩, 44) := ⟨⟨by decide +kernel, by decide +kernel⟩, List.mem_of_getElem? (i := 593) (by decide +kernel), List.mem_of_getElem? (i := 780) (by decide +kernel), List.mem_of_getElem? (i := 781) (by decide +kernel)⟩
theorem lw_p31 : lw_okq (⟨"WhileSaltMeltsModel", "isSayingItem", "()Z"⟩, 44) := ⟨⟨by decide +kernel, by decide +kernel⟩, List.mem_of_getElem? (i := 593) (by decide +kernel), List.mem_of_getElem? (i := 784) (by decide +kernel), List.mem_of_getElem? (i := 785) (by decide +kernel)⟩
def lw_privs_2 : List (MethodName × Nat) := [(⟨"WhileSaltMelts", "findOrder", "()V"⟩, 13), (⟨"WhileSaltMelts$Order", "freeAll", "()V"⟩, 8), (⟨"WhileSaltMelts$Order", "keepTrial", "(I)V"⟩, 8), (⟨"WhileSaltMelts$Order", "mayBeNext", "(LWhileSaltMelts$Table;II)Z"⟩, 8), (⟨"WhileSaltMelts$Order", "endBehind", "(LWhileSaltMelts$Table;II)I"⟩, 8), (⟨"WhileSaltMelts", "leadOf", "(IILWhileSaltMelts$Evening;)I"⟩, 13), (⟨"WhileSaltMeltsModel", "begins", "()V"⟩, 44), (⟨"WhileSaltMeltsModel", "tells", "(IIIII)V"⟩, 44), (⟨"WhileSaltMeltsModel", "lays", "()V"⟩, 44), (⟨"WhileSaltMeltsModel", "findFault", "()I"⟩, 44), (⟨"WhileSaltMeltsModel", "isItem", "()Z"⟩, 44), (⟨"WhileSaltMeltsModel", "here", "()I"⟩, 44), (⟨"WhileSaltMeltsModel", "isPersonItem", "()Z"⟩, 44), (⟨"WhileSaltMeltsModel", "number", "(I)I"⟩, 44), (⟨"WhileSaltMeltsModel", "isGrainItem", "()Z"⟩, 44), (⟨"WhileSaltMeltsModel", "isSayingItem", "()Z"⟩, 44)]
theorem lw_r2 : ∀ q ∈ lw_privs_2, lw_okq q := List.forall_mem_cons.mpr ⟨lw_p16, List.forall_mem_cons.mpr ⟨lw_p17, List.forall_mem_cons.mpr ⟨lw_p18, List.forall_mem_cons.mpr ⟨lw_p19, List.forall_mem_cons.mpr ⟨lw_p20, List.forall_mem_cons.mpr ⟨lw_p21, List.forall_mem_cons.mpr ⟨lw_p22, List.forall_mem_cons.mpr ⟨lw_p23, List.forall_mem_cons.mpr ⟨lw_p24, List.forall_mem_cons.mpr ⟨lw_p25, List.forall_mem_cons.mpr ⟨lw_p26, List.forall_mem_cons.mpr ⟨lw_p27, List.forall_mem_cons.mpr ⟨lw_p28, List.forall_mem_cons.mpr ⟨lw_p29, List.forall_mem_cons.mpr ⟨lw_p30, List.forall_mem_cons.mpr ⟨lw_p31, fun _ h => absurd h List.not_mem_nil⟩⟩⟩⟩⟩⟩⟩⟩⟩⟩⟩⟩⟩⟩⟩⟩
theorem lw_p32 : lw_okq (⟨"WhileSaltMeltsModel", "isWaitItem", "()Z"⟩, 44) := ⟨⟨by decide +kernel, by decide +kernel⟩, List.mem_of_getElem? (i := 593) (by decide +kernel), List.mem_of_getElem? (i := 788) (by decide +kernel), List.mem_of_getElem? (i := 789) (by decide +kernel)⟩
theorem lw_p33 : lw_okq (⟨"WhileSaltMeltsModel", "isDishItem", "()Z"⟩, 44) := ⟨⟨by decide +kernel, by decide +kernel⟩, List.mem_of_getElem? (i := 593) (by decide +kernel), List.mem_of_getElem? (i := 792) (by decide +kernel), List.mem_of_getElem? (i := 793) (by decide +kernel)⟩
theorem lw_p34 : lw_okq (⟨"WhileSaltMeltsModel", "isPerson", "(I)Z"⟩, 44) := ⟨⟨by decide +kernel, by decide +kernel⟩, List.mem_of_getElem? (i := 593) (by decide +kernel), List.mem_of_getElem? (i := 804) (by decide +kernel), List.mem_of_getElem? (i := 805) (by decide +kernel)⟩
theorem lw_p35 : lw_okq (⟨"WhileSaltMeltsModel", "shareOf", "(I)I"⟩, 44) := ⟨⟨by decide +kernel, by decide +kernel⟩, List.mem_of_getElem? (i := 593) (by decide +kernel), List.mem_of_getElem? (i := 808) (by decide +kernel), List.mem_of_getElem? (i := 809) (by decide +kernel)⟩
theorem lw_p36 : lw_okq (⟨"WhileSaltMeltsModel", "isSaying", "(I)Z"⟩, 44) := ⟨⟨by decide +kernel, by decide +kernel⟩, List.mem_of_getElem? (i := 593) (by decide +kernel), List.mem_of_getElem? (i := 819) (by decide +kernel), List.mem_of_getElem? (i := 820) (by decide +kernel)⟩
theorem lw_p37 : lw_okq (⟨"WhileSaltMeltsModel", "isGrain", "(I)Z"⟩, 44) := ⟨⟨by decide +kernel, by decide +kernel⟩, List.mem_of_getElem? (i := 593) (by decide +kernel), List.mem_of_getElem? (i := 827) (by decide +kernel), List.mem_of_getElem? (i := 828) (by decide +kernel)⟩
theorem lw_p38 : lw_okq (⟨"WhileSaltMeltsModel", "isMelting", "()Z"⟩, 44) := ⟨⟨by decide +kernel, by decide +kernel⟩, List.mem_of_getElem? (i := 593) (by decide +kernel), List.mem_of_getElem? (i := 835) (by decide +kernel), List.mem_of_getElem? (i := 836) (by decide +kernel)⟩
theorem lw_p39 : lw_okq (⟨"WhileSaltMeltsModel", "remembers", "()V"⟩, 44) := ⟨⟨by decide +kernel, by decide +kernel⟩, List.mem_of_getElem? (i := 593) (by decide +kernel), List.mem_of_getElem? (i := 839) (by decide +kernel), List.mem_of_getElem? (i := 840) (by decide +kernel)⟩
theorem lw_p40 : lw_okq (⟨"WhileSaltMeltsModel", "isInTime", "(I)Z"⟩, 44) := ⟨⟨by decide +kernel, by decide +kernel⟩, List.mem_of_getElem? (i := 593) (by decide +kernel), List.mem_of_getElem? (i := 847) (by decide +kernel), List.mem_of_getElem? (i := 848) (by decide +kernel)⟩
theorem lw_p41 : lw_okq (⟨"WhileSaltMeltsModel", "unsaid", "()I"⟩, 44) := ⟨⟨by decide +kernel, by decide +kernel⟩, List.mem_of_getElem? (i := 593) (by decide +kernel), List.mem_of_getElem? (i := 870) (by decide +kernel), List.mem_of_getElem? (i := 871) (by decide +kernel)⟩
theorem lw_p42 : lw_okq (⟨"WhileSaltMeltsModel", "findBest", "(III)V"⟩, 44) := ⟨⟨by decide +kernel, by decide +kernel⟩, List.mem_of_getElem? (i := 593) (by decide +kernel), List.mem_of_getElem? (i := 874) (by decide +kernel), List.mem_of_getElem? (i := 875) (by decide +kernel)⟩
theorem lw_p43 : lw_okq (⟨"WhileSaltMeltsModel", "layMouths", "()V"⟩, 44) := ⟨⟨by decide +kernel, by decide +kernel⟩, List.mem_of_getElem? (i := 593) (by decide +kernel), List.mem_of_getElem? (i := 882) (by decide +kernel), List.mem_of_getElem? (i := 883) (by decide +kernel)⟩
theorem lw_p44 : lw_okq (⟨"WhileSaltMeltsModel", "matches", "()I"⟩, 44) := ⟨⟨by decide +kernel, by decide +kernel⟩, List.mem_of_getElem? (i := 593) (by decide +kernel), List.mem_of_getElem? (i := 886) (by decide +kernel), List.mem_of_getElem? (i := 887) (by decide +kernel)⟩
theorem lw_p45 : lw_okq (⟨"WhileSaltMeltsModel", "mayGive", "(III)Z"⟩, 44) := ⟨⟨by decide +kernel, by decide +kernel⟩, List.mem_of_getElem? (i := 593) (by decide +kernel), List.mem_of_getElem? (i := 890) (by decide +kernel), List.mem_of_getElem? (i := 891) (by decide +kernel)⟩
theorem lw_p46 : lw_okq (⟨"WhileSaltMeltsModel", "givenBy", "(III)I"⟩, 44) := ⟨⟨by decide +kernel, by decide +kernel⟩, List.mem_of_getElem? (i := 593) (by decide +kernel), List.mem_of_getElem? (i := 894) (by decide +kernel), List.mem_of_getElem? (i := 895) (by decide +kernel)⟩
theorem lw_p47 : lw_okq (⟨"WhileSaltMeltsModel", "findSoonest", "()I"⟩, 44) := ⟨⟨by decide +kernel, by decide +kernel⟩, List.mem_of_getElem? (i := 593) (by decide +kernel), List.mem_of_getElem? (i := 902) (by decide +kernel), List.mem_of_getElem? (i := 903) (by decide +kernel)⟩
def lw_privs_3 : List (MethodName × Nat) := [(⟨"WhileSaltMeltsModel", "isWaitItem", "()Z"⟩, 44), (⟨"WhileSaltMeltsModel", "isDishItem", "()Z"⟩, 44), (⟨"WhileSaltMeltsModel", "isPerson", "(I)Z"⟩, 44), (⟨"WhileSaltMeltsModel", "shareOf", "(I)I"⟩, 44), (⟨"WhileSaltMeltsModel", "isSaying", "(I)Z"⟩, 44), (⟨"WhileSaltMeltsModel", "isGrain", "(I)Z"⟩, 44), (⟨"WhileSaltMeltsModel", "isMelting", "()Z"⟩, 44), (⟨"WhileSaltMeltsModel", "remembers", "()V"⟩, 44), (⟨"WhileSaltMeltsModel", "isInTime", "(I)Z"⟩, 44), (⟨"WhileSaltMeltsModel", "unsaid", "()I"⟩, 44), (⟨"WhileSaltMeltsModel", "findBest", "(III)V"⟩, 44), (⟨"WhileSaltMeltsModel", "layMouths", "()V"⟩, 44), (⟨"WhileSaltMeltsModel", "matches", "()I"⟩, 44), (⟨"WhileSaltMeltsModel", "mayGive", "(III)Z"⟩, 44), (⟨"WhileSaltMeltsModel", "givenBy", "(III)I"⟩, 44), (⟨"WhileSaltMeltsModel", "findSoonest", "()I"⟩, 44)]
theorem lw_r3 : ∀ q ∈ lw_privs_3, lw_okq q := List.forall_mem_cons.mpr ⟨lw_p32, List.forall_mem_cons.mpr ⟨lw_p33, List.forall_mem_cons.mpr ⟨lw_p34, List.forall_mem_cons.mpr ⟨lw_p35, List.forall_mem_cons.mpr ⟨lw_p36, List.forall_mem_cons.mpr ⟨lw_p37, List.forall_mem_cons.mpr ⟨lw_p38, List.forall_mem_cons.mpr ⟨lw_p39, List.forall_mem_cons.mpr ⟨lw_p40, List.forall_mem_cons.mpr ⟨lw_p41, List.forall_mem_cons.mpr ⟨lw_p42, List.forall_mem_cons.mpr ⟨lw_p43, List.forall_mem_cons.mpr ⟨lw_p44, List.forall_mem_cons.mpr ⟨lw_p45, List.forall_mem_cons.mpr ⟨lw_p46, List.forall_mem_cons.mpr ⟨lw_p47, fun _ h => absurd h List.not_mem_nil⟩⟩⟩⟩⟩⟩⟩⟩⟩⟩⟩⟩⟩⟩⟩⟩
theorem lw_p48 : lw_okq (⟨"WhileSaltMeltsModel", "keepsAnswers", "()Z"⟩, 44) := ⟨⟨by decide +kernel, by decide +kernel⟩, List.mem_of_getElem? (i := 593) (by decide +kernel), List.mem_of_getElem? (i := 906) (by decide +kernel), List.mem_of_getElem? (i := 907) (by decide +kernel)⟩
theorem lw_p49 : lw_okq (⟨"WhileSaltMeltsModel", "runs", "()I"⟩, 44) := ⟨⟨by decide +kernel, by decide +kernel⟩, List.mem_of_getElem? (i := 593) (by decide +kernel), List.mem_of_getElem? (i := 910) (by decide +kernel), List.mem_of_getElem? (i := 911) (by decide +kernel)⟩
theorem lw_p50 : lw_okq (⟨"WhileSaltMeltsModel", "nextRow", "()Z"⟩, 44) := ⟨⟨by decide +kernel, by decide +kernel⟩, List.mem_of_getElem? (i := 593) (by decide +kernel), List.mem_of_getElem? (i := 914) (by decide +kernel), List.mem_of_getElem? (i := 915) (by decide +kernel)⟩
theorem lw_p51 : lw_okq (⟨"WhileSaltMeltsModel", "swap", "(II)V"⟩, 44) := ⟨⟨by decide +kernel, by decide +kernel⟩, List.mem_of_getElem? (i := 593) (by decide +kernel), List.mem_of_getElem? (i := 918) (by decide +kernel), List.mem_of_getElem? (i := 919) (by decide +kernel)⟩
theorem lw_p52 : lw_okq (⟨"WhileSaltMeltsModel", "beside", "(II)I"⟩, 44) := ⟨⟨by decide +kernel, by decide +kernel⟩, List.mem_of_getElem? (i := 593) (by decide +kernel), List.mem_of_getElem? (i := 930) (by decide +kernel), List.mem_of_getElem? (i := 931) (by decide +kernel)⟩
def lw_privs_4 : List (MethodName × Nat) := [(⟨"WhileSaltMeltsModel", "keepsAnswers", "()Z"⟩, 44), (⟨"WhileSaltMeltsModel", "runs", "()I"⟩, 44), (⟨"WhileSaltMeltsModel", "nextRow", "()Z"⟩, 44), (⟨"WhileSaltMeltsModel", "swap", "(II)V"⟩, 44), (⟨"WhileSaltMeltsModel", "beside", "(II)I"⟩, 44)]
theorem lw_r4 : ∀ q ∈ lw_privs_4, lw_okq q := List.forall_mem_cons.mpr ⟨lw_p48, List.forall_mem_cons.mpr ⟨lw_p49, List.forall_mem_cons.mpr ⟨lw_p50, List.forall_mem_cons.mpr ⟨lw_p51, List.forall_mem_cons.mpr ⟨lw_p52, fun _ h => absurd h List.not_mem_nil⟩⟩⟩⟩⟩
def lw_privs : List (MethodName × Nat) := lw_privs_1 ++ (lw_privs_2 ++ (lw_privs_3 ++ (lw_privs_4)))
def lw_tbl : List Cond := k2_sels lw_privs ++ tables_1
theorem lw_privs_ok : ∀ q ∈ lw_privs, lw_okq q := by
  show ∀ q ∈ lw_privs_1 ++ (lw_privs_2 ++ (lw_privs_3 ++ (lw_privs_4))), lw_okq q
  exact List.forall_mem_append.mpr ⟨lw_r1, List.forall_mem_append.mpr ⟨lw_r2, List.forall_mem_append.mpr ⟨lw_r3, lw_r4⟩⟩⟩
end
section
def RX0 : String := "WhileSaltMelts$Evening"
def TX0 : u_T := fun k => match k with
  | 0 => ("WhileSaltMelts$Evening", "second", "I", false)
  | 1 => ("WhileSaltMelts$Evening", "shaker", "I", false)
  | 2 => ("WhileSaltMelts$Evening", "said", "I", false)
  | 3 => ("WhileSaltMelts$Evening", "eaten", "I", false)
  | 4 => ("WhileSaltMelts$Evening", "tongue", "I", false)
  | 5 => ("WhileSaltMelts$Evening", "melted", "I", false)
  | 6 => ("WhileSaltMelts$Evening", "dry", "[I", true)
  | 7 => ("WhileSaltMelts$Evening", "share", "[I", true)
  | 8 => ("WhileSaltMelts$Evening", "listensUntil", "[I", true)
  | _ => ("WhileSaltMelts$Evening", "ended", "[I", true)
def tyX0 : Nat → FieldType := fun k => match k with
  | 0 => .int
  | 1 => .int
  | 2 => .int
  | 3 => .int
  | 4 => .int
  | 5 => .int
  | 6 => .array .int
  | 7 => .array .int
  | 8 => .array .int
  | _ => .array .int
theorem nmX0 : ∀ a, a < 10 → ∀ b, b < 10 → a ≠ b → (TX0 a).2.1 ≠ (TX0 b).2.1 := by decide +kernel
theorem tyX0_ok : ∀ k, k < 10 → parseFieldDescriptor (TX0 k).2.2.1 = some (tyX0 k) := by decide +kernel
def RX1 : String := "WhileSaltMelts$Giving"
def TX1 : u_T := fun k => match k with
  | 0 => ("WhileSaltMelts$Giving", "most", "[[I", true)
  | 1 => ("WhileSaltMelts$Giving", "grainOf", "[I", true)
  | _ => ("WhileSaltMelts$Giving", "given", "I", false)
def tyX1 : Nat → FieldType := fun k => match k with
  | 0 => .array (.array .int)
  | 1 => .array .int
  | _ => .int
theorem nmX1 : ∀ a, a < 3 → ∀ b, b < 3 → a ≠ b → (TX1 a).2.1 ≠ (TX1 b).2.1 := by decide +kernel
theorem tyX1_ok : ∀ k, k < 3 → parseFieldDescriptor (TX1 k).2.2.1 = some (tyX1 k) := by decide +kernel
def RX2 : String := "WhileSaltMelts$Order"
def TX2 : u_T := fun k => match k with
  | 0 => ("WhileSaltMelts$Order", "count", "I", false)
  | 1 => ("WhileSaltMelts$Order", "soonest", "I", false)
  | 2 => ("WhileSaltMelts$Order", "first", "[I", true)
  | 3 => ("WhileSaltMelts$Order", "chosen", "I", false)
  | 4 => ("WhileSaltMelts$Order", "melting", "[I", true)
  | 5 => ("WhileSaltMelts$Order", "trial", "[I", true)
  | 6 => ("WhileSaltMelts$Order", "free", "[I", true)
  | _ => ("WhileSaltMelts$Order", "end", "[I", true)
def tyX2 : Nat → FieldType := fun k => match k with
  | 0 => .int
  | 1 => .int
  | 2 => .array .int
  | 3 => .int
  | 4 => .array .int
  | 5 => .array .int
  | 6 => .array .int
  | _ => .array .int
theorem nmX2 : ∀ a, a < 8 → ∀ b, b < 8 → a ≠ b → (TX2 a).2.1 ≠ (TX2 b).2.1 := by decide +kernel
theorem tyX2_ok : ∀ k, k < 8 → parseFieldDescriptor (TX2 k).2.2.1 = some (tyX2 k) := by decide +kernel
def RX3 : String := "WhileSaltMelts$Reader"
def TX3 : u_T := fun k => match k with
  | 0 => ("WhileSaltMelts$Reader", "letter", "I", false)
  | 1 => ("WhileSaltMelts$Reader", "number", "[I", true)
  | _ => ("WhileSaltMelts$Reader", "numbers", "I", false)
def tyX3 : Nat → FieldType := fun k => match k with
  | 0 => .int
  | 1 => .array .int
  | _ => .int
theorem nmX3 : ∀ a, a < 3 → ∀ b, b < 3 → a ≠ b → (TX3 a).2.1 ≠ (TX3 b).2.1 := by decide +kernel
theorem tyX3_ok : ∀ k, k < 3 → parseFieldDescriptor (TX3 k).2.2.1 = some (tyX3 k) := by decide +kernel
def RX4 : String := "WhileSaltMelts$Table"
def TX4 : u_T := fun k => match k with
  | 0 => ("WhileSaltMelts$Table", "persons", "I", false)
  | 1 => ("WhileSaltMelts$Table", "dry", "[I", true)
  | 2 => ("WhileSaltMelts$Table", "grains", "I", false)
  | 3 => ("WhileSaltMelts$Table", "size", "[I", true)
  | 4 => ("WhileSaltMelts$Table", "sayings", "I", false)
  | 5 => ("WhileSaltMelts$Table", "speaker", "[I", true)
  | 6 => ("WhileSaltMelts$Table", "seconds", "[I", true)
  | 7 => ("WhileSaltMelts$Table", "worth", "[I", true)
  | 8 => ("WhileSaltMelts$Table", "answered", "[I", true)
  | 9 => ("WhileSaltMelts$Table", "dishes", "I", false)
  | 10 => ("WhileSaltMelts$Table", "eater", "[I", true)
  | 11 => ("WhileSaltMelts$Table", "drier", "[I", true)
  | _ => ("WhileSaltMelts$Table", "window", "I", false)
def tyX4 : Nat → FieldType := fun k => match k with
  | 0 => .int
  | 1 => .array .int
  | 2 => .int
  | 3 => .array .int
  | 4 => .int
  | 5 => .array .int
  | 6 => .array .int
  | 7 => .array .int
  | 8 => .array .int
  | 9 => .int
  | 10 => .array .int
  | 11 => .array .int
  | _ => .int
theorem nmX4 : ∀ a, a < 13 → ∀ b, b < 13 → a ≠ b → (TX4 a).2.1 ≠ (TX4 b).2.1 := by decide +kernel
theorem tyX4_ok : ∀ k, k < 13 → parseFieldDescriptor (TX4 k).2.2.1 = some (tyX4 k) := by decide +kernel
def RX5 : String := "WhileSaltMelts"
def TX5 : u_T := fun k => match k with
  | 0 => ("WhileSaltMelts", "text", "[B", true)
  | 1 => ("WhileSaltMelts", "textLength", "I", false)
  | 2 => ("WhileSaltMelts", "reader", "LWhileSaltMelts$Reader;", true)
  | 3 => ("WhileSaltMelts", "laid", "LWhileSaltMelts$Table;", false)
  | 4 => ("WhileSaltMelts", "draft", "LWhileSaltMelts$Table;", false)
  | 5 => ("WhileSaltMelts", "now", "LWhileSaltMelts$Evening;", true)
  | 6 => ("WhileSaltMelts", "tried", "LWhileSaltMelts$Evening;", true)
  | 7 => ("WhileSaltMelts", "before", "[LWhileSaltMelts$Evening;", true)
  | 8 => ("WhileSaltMelts", "undoable", "I", false)
  | 9 => ("WhileSaltMelts", "kept", "[LWhileSaltMelts$Evening;", true)
  | 10 => ("WhileSaltMelts", "keptCount", "I", false)
  | 11 => ("WhileSaltMelts", "giving", "LWhileSaltMelts$Giving;", true)
  | _ => ("WhileSaltMelts", "order", "LWhileSaltMelts$Order;", true)
def tyX5 : Nat → FieldType := fun k => match k with
  | 0 => .array .byte
  | 1 => .int
  | 2 => .object "WhileSaltMelts$Reader"
  | 3 => .object "WhileSaltMelts$Table"
  | 4 => .object "WhileSaltMelts$Table"
  | 5 => .object "WhileSaltMelts$Evening"
  | 6 => .object "WhileSaltMelts$Evening"
  | 7 => .array (.object "WhileSaltMelts$Evening")
  | 8 => .int
  | 9 => .array (.object "WhileSaltMelts$Evening")
  | 10 => .int
  | 11 => .object "WhileSaltMelts$Giving"
  | _ => .object "WhileSaltMelts$Order"
theorem nmX5 : ∀ a, a < 13 → ∀ b, b < 13 → a ≠ b → (TX5 a).2.1 ≠ (TX5 b).2.1 := by decide +kernel
theorem tyX5_ok : ∀ k, k < 13 → parseFieldDescriptor (TX5 k).2.2.1 = some (tyX5 k) := by decide +kernel
def RX6 : String := "WhileSaltMeltsModel"
def TX6 : u_T := fun k => match k with
  | 0 => ("WhileSaltMeltsModel", "persons", "I", false)
  | 1 => ("WhileSaltMeltsModel", "grains", "I", false)
  | 2 => ("WhileSaltMeltsModel", "sayings", "I", false)
  | 3 => ("WhileSaltMeltsModel", "dishes", "I", false)
  | 4 => ("WhileSaltMeltsModel", "wait", "I", false)
  | 5 => ("WhileSaltMeltsModel", "toldDry", "[I", true)
  | 6 => ("WhileSaltMeltsModel", "sizes", "[I", true)
  | 7 => ("WhileSaltMeltsModel", "speaker", "[I", true)
  | 8 => ("WhileSaltMeltsModel", "length", "[I", true)
  | 9 => ("WhileSaltMeltsModel", "value", "[I", true)
  | 10 => ("WhileSaltMeltsModel", "answers", "[I", true)
  | 11 => ("WhileSaltMeltsModel", "eater", "[I", true)
  | 12 => ("WhileSaltMeltsModel", "drier", "[I", true)
  | 13 => ("WhileSaltMeltsModel", "st", "[I", true)
  | 14 => ("WhileSaltMeltsModel", "undone", "[I", true)
  | 15 => ("WhileSaltMeltsModel", "undoMany", "I", false)
  | 16 => ("WhileSaltMeltsModel", "kept", "[I", true)
  | 17 => ("WhileSaltMeltsModel", "keptMany", "I", false)
  | 18 => ("WhileSaltMeltsModel", "text", "[I", true)
  | 19 => ("WhileSaltMeltsModel", "size", "I", false)
  | 20 => ("WhileSaltMeltsModel", "at", "I", false)
  | 21 => ("WhileSaltMeltsModel", "saidPersons", "I", false)
  | 22 => ("WhileSaltMeltsModel", "saidGrains", "I", false)
  | 23 => ("WhileSaltMeltsModel", "saidSayings", "I", false)
  | 24 => ("WhileSaltMeltsModel", "saidDishes", "I", false)
  | 25 => ("WhileSaltMeltsModel", "saidWait", "I", false)
  | 26 => ("WhileSaltMeltsModel", "saidDry", "[I", true)
  | 27 => ("WhileSaltMeltsModel", "saidSizes", "[I", true)
  | 28 => ("WhileSaltMeltsModel", "saidSpeaker", "[I", true)
  | 29 => ("WhileSaltMeltsModel", "saidLength", "[I", true)
  | 30 => ("WhileSaltMeltsModel", "saidValue", "[I", true)
  | 31 => ("WhileSaltMeltsModel", "saidAnswers", "[I", true)
  | 32 => ("WhileSaltMeltsModel", "saidEater", "[I", true)
  | 33 => ("WhileSaltMeltsModel", "saidDrier", "[I", true)
  | 34 => ("WhileSaltMeltsModel", "bestSet", "I", false)
  | 35 => ("WhileSaltMeltsModel", "bestWorth", "I", false)
  | 36 => ("WhileSaltMeltsModel", "bestLong", "I", false)
  | 37 => ("WhileSaltMeltsModel", "most", "[I", true)
  | 38 => ("WhileSaltMeltsModel", "mouth", "[I", true)
  | 39 => ("WhileSaltMeltsModel", "given", "[I", true)
  | 40 => ("WhileSaltMeltsModel", "row", "[I", true)
  | 41 => ("WhileSaltMeltsModel", "bestRow", "[I", true)
  | 42 => ("WhileSaltMeltsModel", "begun", "[I", true)
  | _ => ("WhileSaltMeltsModel", "rowMany", "I", false)
def tyX6 : Nat → FieldType := fun k => match k with
  | 0 => .int
  | 1 => .int
  | 2 => .int
  | 3 => .int
  | 4 => .int
  | 5 => .array .int
  | 6 => .array .int
  | 7 => .array .int
  | 8 => .array .int
  | 9 => .array .int
  | 10 => .array .int
  | 11 => .array .int
  | 12 => .array .int
  | 13 => .array .int
  | 14 => .array .int
  | 15 => .int
  | 16 => .array .int
  | 17 => .int
  | 18 => .array .int
  | 19 => .int
  | 20 => .int
  | 21 => .int
  | 22 => .int
  | 23 => .int
  | 24 => .int
  | 25 => .int
  | 26 => .array .int
  | 27 => .array .int
  | 28 => .array .int
  | 29 => .array .int
  | 30 => .array .int
  | 31 => .array .int
  | 32 => .array .int
  | 33 => .array .int
  | 34 => .int
  | 35 => .int
  | 36 => .int
  | 37 => .array .int
  | 38 => .array .int
  | 39 => .array .int
  | 40 => .array .int
  | 41 => .array .int
  | 42 => .array .int
  | _ => .int
theorem nmX6 : ∀ a, a < 44 → ∀ b, b < 44 → a ≠ b → (TX6 a).2.1 ≠ (TX6 b).2.1 := by decide +kernel
theorem tyX6_ok : ∀ k, k < 44 → parseFieldDescriptor (TX6 k).2.2.1 = some (tyX6 k) := by decide +kernel
def RJ6 : String := "java/lang/Integer"
def TJ6 : u_T := fun k => match k with
  | _ => ("", "", "", false)
def tyJ6 : Nat → FieldType := fun k => match k with
  | _ => .int
def RJ9 : String := "java/lang/Math"
def TJ9 : u_T := fun k => match k with
  | _ => ("", "", "", false)
def tyJ9 : Nat → FieldType := fun k => match k with
  | _ => .int
def RJ0 : String := "java/lang/String"
def TJ0 : u_T := fun k => match k with
  | _ => ("", "", "", false)
def tyJ0 : Nat → FieldType := fun k => match k with
  | _ => .int
def RJ1 : String := "java/lang/StringLatin1"
def TJ1 : u_T := fun k => match k with
  | _ => ("", "", "", false)
def tyJ1 : Nat → FieldType := fun k => match k with
  | _ => .int
def RJ2 : String := "java/lang/StringUTF16"
def TJ2 : u_T := fun k => match k with
  | _ => ("", "", "", false)
def tyJ2 : Nat → FieldType := fun k => match k with
  | _ => .int
def RJ3 : String := "jdk/internal/util/Preconditions"
def TJ3 : u_T := fun k => match k with
  | _ => ("", "", "", false)
def tyJ3 : Nat → FieldType := fun k => match k with
  | _ => .int
def RL : String := "WhileSaltMeltsLaw"
abbrev Mt : Type := MethodName × ByteArray × Nat × Option FieldType
abbrev m_0_init : Mt := (⟨"WhileSaltMelts$Evening", "<init>", "()V"⟩, prog_2_method_1_code, 1, none)
abbrev m_0_begin : Mt := (⟨"WhileSaltMelts$Evening", "begin", "(LWhileSaltMelts$Table;)V"⟩, prog_2_method_2_code, 3, none)
abbrev m_0_copyFrom : Mt := (⟨"WhileSaltMelts$Evening", "copyFrom", "(LWhileSaltMelts$Evening;)V"⟩, prog_2_method_3_code, 3, none)
abbrev m_0_aGrainMelts : Mt := (⟨"WhileSaltMelts$Evening", "aGrainMelts", "()Z"⟩, prog_2_method_4_code, 1, (some .boolean))
abbrev m_0_eatDish : Mt := (⟨"WhileSaltMelts$Evening", "eatDish", "(LWhileSaltMelts$Table;I)I"⟩, prog_2_method_5_code, 4, (some .int))
abbrev m_1_init : Mt := (⟨"WhileSaltMelts$Giving", "<init>", "()V"⟩, prog_3_method_1_code, 1, none)
abbrev m_1_give : Mt := (⟨"WhileSaltMelts$Giving", "give", "(LWhileSaltMelts$Table;LWhileSaltMelts$Evening;)V"⟩, prog_3_method_2_code, 5, none)
abbrev m_1_grainsFor : Mt := (⟨"WhileSaltMelts$Giving", "grainsFor", "(LWhileSaltMelts$Table;LWhileSaltMelts$Evening;I)I"⟩, prog_3_method_3_code, 5, (some .int))
abbrev m_1_mostFrom : Mt := (⟨"WhileSaltMelts$Giving", "mostFrom", "(LWhileSaltMelts$Table;III)I"⟩, prog_3_method_4_code, 7, (some .int))
abbrev m_1_giveFirst : Mt := (⟨"WhileSaltMelts$Giving", "giveFirst", "(LWhileSaltMelts$Table;LWhileSaltMelts$Evening;)V"⟩, prog_3_method_5_code, 6, none)
abbrev m_1_firstGrain : Mt := (⟨"WhileSaltMelts$Giving", "firstGrain", "(LWhileSaltMelts$Table;III)I"⟩, prog_3_method_6_code, 6, (some .int))
abbrev m_2_init : Mt := (⟨"WhileSaltMelts$Order", "<init>", "()V"⟩, prog_4_method_1_code, 1, none)
abbrev m_2_find : Mt := (⟨"WhileSaltMelts$Order", "find", "(LWhileSaltMelts$Table;LWhileSaltMelts$Evening;LWhileSaltMelts$Giving;)V"⟩, prog_4_method_2_code, 6, none)
abbrev m_2_freeAll : Mt := (⟨"WhileSaltMelts$Order", "freeAll", "()V"⟩, prog_4_method_3_code, 2, none)
abbrev m_2_tryFrom : Mt := (⟨"WhileSaltMelts$Order", "tryFrom", "(LWhileSaltMelts$Order;LWhileSaltMelts$Table;III)V"⟩, prog_4_method_4_code, 9, none)
abbrev m_2_endBehind : Mt := (⟨"WhileSaltMelts$Order", "endBehind", "(LWhileSaltMelts$Table;II)I"⟩, prog_4_method_5_code, 6, (some .int))
abbrev m_2_mayBeNext : Mt := (⟨"WhileSaltMelts$Order", "mayBeNext", "(LWhileSaltMelts$Table;II)Z"⟩, prog_4_method_6_code, 6, (some .boolean))
abbrev m_2_keepTrial : Mt := (⟨"WhileSaltMelts$Order", "keepTrial", "(I)V"⟩, prog_4_method_7_code, 3, none)
abbrev m_2_countLate : Mt := (⟨"WhileSaltMelts$Order", "countLate", "(LWhileSaltMelts$Table;)I"⟩, prog_4_method_8_code, 7, (some .int))
abbrev m_3_init : Mt := (⟨"WhileSaltMelts$Reader", "<init>", "()V"⟩, prog_5_method_1_code, 1, none)
abbrev m_3_readTable : Mt := (⟨"WhileSaltMelts$Reader", "readTable", "([BILWhileSaltMelts$Table;)I"⟩, prog_5_method_2_code, 6, (some .int))
abbrev m_3_readItem : Mt := (⟨"WhileSaltMelts$Reader", "readItem", "([BII)I"⟩, prog_5_method_3_code, 9, (some .int))
abbrev m_3_isFigure : Mt := (⟨"WhileSaltMelts$Reader", "isFigure", "(I)Z"⟩, prog_5_method_4_code, 1, (some .boolean))
abbrev m_4_init : Mt := (⟨"WhileSaltMelts$Table", "<init>", "()V"⟩, prog_6_method_1_code, 1, none)
abbrev m_4_clear : Mt := (⟨"WhileSaltMelts$Table", "clear", "()V"⟩, prog_6_method_2_code, 1, none)
abbrev m_4_add : Mt := (⟨"WhileSaltMelts$Table", "add", "(I[II)Z"⟩, prog_6_method_3_code, 4, (some .boolean))
abbrev m_4_addPerson : Mt := (⟨"WhileSaltMelts$Table", "addPerson", "(I)Z"⟩, prog_6_method_4_code, 2, (some .boolean))
abbrev m_4_addGrain : Mt := (⟨"WhileSaltMelts$Table", "addGrain", "(I)Z"⟩, prog_6_method_5_code, 2, (some .boolean))
abbrev m_4_addSaying : Mt := (⟨"WhileSaltMelts$Table", "addSaying", "(IIII)Z"⟩, prog_6_method_6_code, 5, (some .boolean))
abbrev m_4_setWindow : Mt := (⟨"WhileSaltMelts$Table", "setWindow", "(I)Z"⟩, prog_6_method_7_code, 2, (some .boolean))
abbrev m_4_addDish : Mt := (⟨"WhileSaltMelts$Table", "addDish", "(II)Z"⟩, prog_6_method_8_code, 3, (some .boolean))
abbrev m_4_sayingsOf : Mt := (⟨"WhileSaltMelts$Table", "sayingsOf", "(I)I"⟩, prog_6_method_9_code, 4, (some .int))
abbrev m_4_bestSet : Mt := (⟨"WhileSaltMelts$Table", "bestSet", "(III)I"⟩, prog_6_method_10_code, 9, (some .int))
abbrev m_4_worthOf : Mt := (⟨"WhileSaltMelts$Table", "worthOf", "(I)I"⟩, prog_6_method_11_code, 2, (some .int))
abbrev m_4_secondsOf : Mt := (⟨"WhileSaltMelts$Table", "secondsOf", "(I)I"⟩, prog_6_method_12_code, 2, (some .int))
abbrev m_4_sizeOf : Mt := (⟨"WhileSaltMelts$Table", "sizeOf", "(I)I"⟩, prog_6_method_13_code, 2, (some .int))
abbrev m_4_sumOf : Mt := (⟨"WhileSaltMelts$Table", "sumOf", "([III)I"⟩, prog_6_method_14_code, 5, (some .int))
abbrev m_5_init : Mt := (⟨"WhileSaltMelts", "<init>", "()V"⟩, prog_1_method_1_code, 3, none)
abbrev m_5_write : Mt := (⟨"WhileSaltMelts", "write", "(IJ)I"⟩, prog_1_method_2_code, 5, (some .int))
abbrev m_5_wipe : Mt := (⟨"WhileSaltMelts", "wipe", "()I"⟩, prog_1_method_3_code, 2, (some .int))
abbrev m_5_fault : Mt := (⟨"WhileSaltMelts", "fault", "()I"⟩, prog_1_method_4_code, 1, (some .int))
abbrev m_5_lay : Mt := (⟨"WhileSaltMelts", "lay", "()I"⟩, prog_1_method_5_code, 2, (some .int))
abbrev m_5_person : Mt := (⟨"WhileSaltMelts", "person", "(II)I"⟩, prog_1_method_6_code, 3, (some .int))
abbrev m_5_saying : Mt := (⟨"WhileSaltMelts", "saying", "(II)I"⟩, prog_1_method_7_code, 3, (some .int))
abbrev m_5_melts : Mt := (⟨"WhileSaltMelts", "melts", "(II)I"⟩, prog_1_method_8_code, 3, (some .int))
abbrev m_5_take : Mt := (⟨"WhileSaltMelts", "take", "(II)I"⟩, prog_1_method_9_code, 4, (some .int))
abbrev m_5_say : Mt := (⟨"WhileSaltMelts", "say", "(I)I"⟩, prog_1_method_10_code, 2, (some .int))
abbrev m_5_pass : Mt := (⟨"WhileSaltMelts", "pass", "(I)I"⟩, prog_1_method_11_code, 2, (some .int))
abbrev m_5_eat : Mt := (⟨"WhileSaltMelts", "eat", "(I)I"⟩, prog_1_method_12_code, 2, (some .int))
abbrev m_5_undo : Mt := (⟨"WhileSaltMelts", "undo", "()I"⟩, prog_1_method_13_code, 1, (some .int))
abbrev m_5_best : Mt := (⟨"WhileSaltMelts", "best", "(III)I"⟩, prog_1_method_14_code, 5, (some .int))
abbrev m_5_match : Mt := (⟨"WhileSaltMelts", "match", "(I)I"⟩, prog_1_method_15_code, 2, (some .int))
abbrev m_5_soonest : Mt := (⟨"WhileSaltMelts", "soonest", "(I)I"⟩, prog_1_method_16_code, 2, (some .int))
abbrev m_5_late : Mt := (⟨"WhileSaltMelts", "late", "()I"⟩, prog_1_method_17_code, 1, (some .int))
abbrev m_5_dish : Mt := (⟨"WhileSaltMelts", "dish", "(II)I"⟩, prog_1_method_18_code, 7, (some .int))
abbrev m_5_spoke : Mt := (⟨"WhileSaltMelts", "spoke", "(III)I"⟩, prog_1_method_19_code, 7, (some .int))
abbrev m_5_winter : Mt := (⟨"WhileSaltMelts", "winter", "(III)I"⟩, prog_1_method_20_code, 10, (some .int))
abbrev m_5_keep : Mt := (⟨"WhileSaltMelts", "keep", "()I"⟩, prog_1_method_21_code, 1, (some .int))
abbrev m_5_back : Mt := (⟨"WhileSaltMelts", "back", "()I"⟩, prog_1_method_22_code, 1, (some .int))
abbrev m_5_count : Mt := (⟨"WhileSaltMelts", "count", "(I)I"⟩, prog_1_method_23_code, 2, (some .int))
abbrev m_5_isPerson : Mt := (⟨"WhileSaltMelts", "isPerson", "(I)Z"⟩, prog_1_method_24_code, 2, (some .boolean))
abbrev m_5_isGrain : Mt := (⟨"WhileSaltMelts", "isGrain", "(I)Z"⟩, prog_1_method_25_code, 2, (some .boolean))
abbrev m_5_isSaying : Mt := (⟨"WhileSaltMelts", "isSaying", "(I)Z"⟩, prog_1_method_26_code, 2, (some .boolean))
abbrev m_5_isDish : Mt := (⟨"WhileSaltMelts", "isDish", "(I)Z"⟩, prog_1_method_27_code, 2, (some .boolean))
abbrev m_5_isIn : Mt := (⟨"WhileSaltMelts", "isIn", "(II)Z"⟩, prog_1_method_28_code, 2, (some .boolean))
abbrev m_5_canBeSaid : Mt := (⟨"WhileSaltMelts", "canBeSaid", "(I)Z"⟩, prog_1_method_29_code, 2, (some .boolean))
abbrev m_5_mayAnswerNow : Mt := (⟨"WhileSaltMelts", "mayAnswerNow", "(I)Z"⟩, prog_1_method_30_code, 2, (some .boolean))
abbrev m_5_remember : Mt := (⟨"WhileSaltMelts", "remember", "()V"⟩, prog_1_method_31_code, 3, none)
abbrev m_5_findOrder : Mt := (⟨"WhileSaltMelts", "findOrder", "()V"⟩, prog_1_method_32_code, 1, none)
abbrev m_5_leadOf : Mt := (⟨"WhileSaltMelts", "leadOf", "(IILWhileSaltMelts$Evening;)I"⟩, prog_1_method_33_code, 4, (some .int))
abbrev m_5_drawOf : Mt := (⟨"WhileSaltMelts", "drawOf", "(II)I"⟩, prog_1_method_34_code, 4, (some .int))
abbrev m_5_remainder : Mt := (⟨"WhileSaltMelts", "remainder", "(II)I"⟩, prog_1_method_35_code, 2, (some .int))
abbrev m_6_init : Mt := (⟨"WhileSaltMeltsModel", "<init>", "()V"⟩, prog_8_method_1_code, 1, none)
abbrev m_6_in : Mt := (⟨"WhileSaltMeltsModel", "in", "(III)Z"⟩, prog_8_method_3_code, 3, (some .boolean))
abbrev m_6_has : Mt := (⟨"WhileSaltMeltsModel", "has", "(II)Z"⟩, prog_8_method_4_code, 2, (some .boolean))
abbrev m_6_isPerson : Mt := (⟨"WhileSaltMeltsModel", "isPerson", "(I)Z"⟩, prog_8_method_5_code, 2, (some .boolean))
abbrev m_6_isGrain : Mt := (⟨"WhileSaltMeltsModel", "isGrain", "(I)Z"⟩, prog_8_method_6_code, 2, (some .boolean))
abbrev m_6_isSaying : Mt := (⟨"WhileSaltMeltsModel", "isSaying", "(I)Z"⟩, prog_8_method_7_code, 2, (some .boolean))
abbrev m_6_write : Mt := (⟨"WhileSaltMeltsModel", "write", "(IJ)I"⟩, prog_8_method_8_code, 5, (some .int))
abbrev m_6_wipe : Mt := (⟨"WhileSaltMeltsModel", "wipe", "()I"⟩, prog_8_method_9_code, 2, (some .int))
abbrev m_6_begins : Mt := (⟨"WhileSaltMeltsModel", "begins", "()V"⟩, prog_8_method_10_code, 1, none)
abbrev m_6_tells : Mt := (⟨"WhileSaltMeltsModel", "tells", "(IIIII)V"⟩, prog_8_method_11_code, 6, none)
abbrev m_6_here : Mt := (⟨"WhileSaltMeltsModel", "here", "()I"⟩, prog_8_method_12_code, 1, (some .int))
abbrev m_6_number : Mt := (⟨"WhileSaltMeltsModel", "number", "(I)I"⟩, prog_8_method_13_code, 4, (some .int))
abbrev m_6_isPersonItem : Mt := (⟨"WhileSaltMeltsModel", "isPersonItem", "()Z"⟩, prog_8_method_14_code, 2, (some .boolean))
abbrev m_6_isGrainItem : Mt := (⟨"WhileSaltMeltsModel", "isGrainItem", "()Z"⟩, prog_8_method_15_code, 2, (some .boolean))
abbrev m_6_isSayingItem : Mt := (⟨"WhileSaltMeltsModel", "isSayingItem", "()Z"⟩, prog_8_method_16_code, 6, (some .boolean))
abbrev m_6_isDishItem : Mt := (⟨"WhileSaltMeltsModel", "isDishItem", "()Z"⟩, prog_8_method_17_code, 3, (some .boolean))
abbrev m_6_isWaitItem : Mt := (⟨"WhileSaltMeltsModel", "isWaitItem", "()Z"⟩, prog_8_method_18_code, 2, (some .boolean))
abbrev m_6_isItem : Mt := (⟨"WhileSaltMeltsModel", "isItem", "()Z"⟩, prog_8_method_19_code, 2, (some .boolean))
abbrev m_6_findFault : Mt := (⟨"WhileSaltMeltsModel", "findFault", "()I"⟩, prog_8_method_20_code, 2, (some .int))
abbrev m_6_fault : Mt := (⟨"WhileSaltMeltsModel", "fault", "()I"⟩, prog_8_method_21_code, 1, (some .int))
abbrev m_6_lays : Mt := (⟨"WhileSaltMeltsModel", "lays", "()V"⟩, prog_8_method_22_code, 2, none)
abbrev m_6_lay : Mt := (⟨"WhileSaltMeltsModel", "lay", "()I"⟩, prog_8_method_23_code, 1, (some .int))
abbrev m_6_shareOf : Mt := (⟨"WhileSaltMeltsModel", "shareOf", "(I)I"⟩, prog_8_method_24_code, 4, (some .int))
abbrev m_6_person : Mt := (⟨"WhileSaltMeltsModel", "person", "(II)I"⟩, prog_8_method_25_code, 3, (some .int))
abbrev m_6_saying : Mt := (⟨"WhileSaltMeltsModel", "saying", "(II)I"⟩, prog_8_method_26_code, 3, (some .int))
abbrev m_6_melts : Mt := (⟨"WhileSaltMeltsModel", "melts", "(II)I"⟩, prog_8_method_27_code, 3, (some .int))
abbrev m_6_isMelting : Mt := (⟨"WhileSaltMeltsModel", "isMelting", "()Z"⟩, prog_8_method_28_code, 1, (some .boolean))
abbrev m_6_remembers : Mt := (⟨"WhileSaltMeltsModel", "remembers", "()V"⟩, prog_8_method_29_code, 2, none)
abbrev m_6_take : Mt := (⟨"WhileSaltMeltsModel", "take", "(II)I"⟩, prog_8_method_30_code, 4, (some .int))
abbrev m_6_isInTime : Mt := (⟨"WhileSaltMeltsModel", "isInTime", "(I)Z"⟩, prog_8_method_31_code, 3, (some .boolean))
abbrev m_6_say : Mt := (⟨"WhileSaltMeltsModel", "say", "(I)I"⟩, prog_8_method_32_code, 2, (some .int))
abbrev m_6_pass : Mt := (⟨"WhileSaltMeltsModel", "pass", "(I)I"⟩, prog_8_method_33_code, 2, (some .int))
abbrev m_6_dryBy : Mt := (⟨"WhileSaltMeltsModel", "dryBy", "(II)I"⟩, prog_8_method_34_code, 3, (some .int))
abbrev m_6_eat : Mt := (⟨"WhileSaltMeltsModel", "eat", "(I)I"⟩, prog_8_method_35_code, 3, (some .int))
abbrev m_6_undo : Mt := (⟨"WhileSaltMeltsModel", "undo", "()I"⟩, prog_8_method_36_code, 2, (some .int))
abbrev m_6_findBest : Mt := (⟨"WhileSaltMeltsModel", "findBest", "(III)V"⟩, prog_8_method_37_code, 9, none)
abbrev m_6_unsaid : Mt := (⟨"WhileSaltMeltsModel", "unsaid", "()I"⟩, prog_8_method_38_code, 1, (some .int))
abbrev m_6_best : Mt := (⟨"WhileSaltMeltsModel", "best", "(III)I"⟩, prog_8_method_39_code, 4, (some .int))
abbrev m_6_layMouths : Mt := (⟨"WhileSaltMeltsModel", "layMouths", "()V"⟩, prog_8_method_40_code, 2, none)
abbrev m_6_mayGive : Mt := (⟨"WhileSaltMeltsModel", "mayGive", "(III)Z"⟩, prog_8_method_41_code, 4, (some .boolean))
abbrev m_6_givenBy : Mt := (⟨"WhileSaltMeltsModel", "givenBy", "(III)I"⟩, prog_8_method_42_code, 4, (some .int))
abbrev m_6_matches : Mt := (⟨"WhileSaltMeltsModel", "matches", "()I"⟩, prog_8_method_43_code, 6, (some .int))
abbrev m_6_match : Mt := (⟨"WhileSaltMeltsModel", "match", "(I)I"⟩, prog_8_method_44_code, 3, (some .int))
abbrev m_6_nextRow : Mt := (⟨"WhileSaltMeltsModel", "nextRow", "()Z"⟩, prog_8_method_45_code, 5, (some .boolean))
abbrev m_6_swap : Mt := (⟨"WhileSaltMeltsModel", "swap", "(II)V"⟩, prog_8_method_46_code, 4, none)
abbrev m_6_keepsAnswers : Mt := (⟨"WhileSaltMeltsModel", "keepsAnswers", "()Z"⟩, prog_8_method_47_code, 5, (some .boolean))
abbrev m_6_runs : Mt := (⟨"WhileSaltMeltsModel", "runs", "()I"⟩, prog_8_method_48_code, 8, (some .int))
abbrev m_6_findSoonest : Mt := (⟨"WhileSaltMeltsModel", "findSoonest", "()I"⟩, prog_8_method_49_code, 5, (some .int))
abbrev m_6_soonest : Mt := (⟨"WhileSaltMeltsModel", "soonest", "(I)I"⟩, prog_8_method_50_code, 3, (some .int))
abbrev m_6_late : Mt := (⟨"WhileSaltMeltsModel", "late", "()I"⟩, prog_8_method_51_code, 5, (some .int))
abbrev m_6_beside : Mt := (⟨"WhileSaltMeltsModel", "beside", "(II)I"⟩, prog_8_method_52_code, 6, (some .int))
abbrev m_6_dish : Mt := (⟨"WhileSaltMeltsModel", "dish", "(II)I"⟩, prog_8_method_53_code, 7, (some .int))
abbrev m_6_spoke : Mt := (⟨"WhileSaltMeltsModel", "spoke", "(III)I"⟩, prog_8_method_54_code, 9, (some .int))
abbrev m_6_winter : Mt := (⟨"WhileSaltMeltsModel", "winter", "(III)I"⟩, prog_8_method_55_code, 11, (some .int))
abbrev m_6_keep : Mt := (⟨"WhileSaltMeltsModel", "keep", "()I"⟩, prog_8_method_56_code, 2, (some .int))
abbrev m_6_back : Mt := (⟨"WhileSaltMeltsModel", "back", "()I"⟩, prog_8_method_57_code, 2, (some .int))
abbrev m_6_count : Mt := (⟨"WhileSaltMeltsModel", "count", "(I)I"⟩, prog_8_method_58_code, 2, (some .int))
abbrev m_J6_bitCount_0f7a4 : Mt := (⟨"java/lang/Integer", "bitCount", "(I)I"⟩, prog_9_method_49_code, 1, (some .int))
abbrev m_J9_max_7cf53 : Mt := (⟨"java/lang/Math", "max", "(II)I"⟩, prog_10_method_65_code, 2, (some .int))
abbrev m_J9_min_7cf53 : Mt := (⟨"java/lang/Math", "min", "(II)I"⟩, prog_10_method_69_code, 2, (some .int))
abbrev m_J0_length_8abf5 : Mt := (⟨"java/lang/String", "length", "()I"⟩, prog_11_method_54_code, 1, (some .int))
abbrev m_J0_charAt_5068e : Mt := (⟨"java/lang/String", "charAt", "(I)C"⟩, prog_11_method_56_code, 2, (some .char))
abbrev m_J0_coder_7d493 : Mt := (⟨"java/lang/String", "coder", "()B"⟩, prog_11_method_152_code, 1, (some .byte))
abbrev m_J0_isLatin1_aae02 : Mt := (⟨"java/lang/String", "isLatin1", "()Z"⟩, prog_11_method_154_code, 1, (some .boolean))
abbrev m_J0_checkIndex_df160 : Mt := (⟨"java/lang/String", "checkIndex", "(II)V"⟩, prog_11_method_155_code, 2, none)
abbrev m_J1_charAt_3b067 : Mt := (⟨"java/lang/StringLatin1", "charAt", "([BI)C"⟩, prog_12_method_2_code, 2, (some .char))
abbrev m_J2_getChar_3b067 : Mt := (⟨"java/lang/StringUTF16", "getChar", "([BI)C"⟩, prog_13_method_5_code, 2, (some .char))
abbrev m_J2_length_9d52b : Mt := (⟨"java/lang/StringUTF16", "length", "([B)I"⟩, prog_13_method_6_code, 1, (some .int))
abbrev m_J2_charAt_3b067 : Mt := (⟨"java/lang/StringUTF16", "charAt", "([BI)C"⟩, prog_13_method_83_code, 2, (some .char))
abbrev m_J2_checkIndex_2214a : Mt := (⟨"java/lang/StringUTF16", "checkIndex", "(I[B)V"⟩, prog_13_method_91_code, 2, none)
abbrev m_J3_checkIndex_8e157 : Mt := (⟨"jdk/internal/util/Preconditions", "checkIndex", "(IILjava/util/function/BiFunction;)I"⟩, prog_14_method_11_code, 3, (some .int))
abbrev m_L_law : Mt := (⟨"WhileSaltMeltsLaw", "law", "([I)Z"⟩, code, 4, some .boolean)
abbrev cls : List vw_C := [(RX0, TX0, 10), (RX1, TX1, 3), (RX2, TX2, 8), (RX3, TX3, 3), (RX4, TX4, 13), (RX5, TX5, 13), (RX6, TX6, 44)]
def WS : List Cond := lw_tbl.filter goodWord
def Dec (y : Mt) (pc : Nat) (i : Instr) (n pc2 : Nat) : Prop := decode y.2.1 pc = .ok (i, n) ∧ pc + n = pc2
def DecJ (y : Mt) (pc : Nat) (i : Int → Instr) (pc2 tgt : Nat) : Prop := ∃ off : Int, decode y.2.1 pc = .ok (i off, 3) ∧ pc + 3 = pc2 ∧ (pc : Int) + off = (tgt : Int)
theorem wm {w : Cond} (i : Nat) (h : tables_1[i]? = some w) (g : goodWord w = true) : w ∈ WS := List.mem_filter.mpr ⟨List.mem_append_right _ (List.mem_of_getElem? h), g⟩
theorem wp {w : Cond} (i : Nat) (h : (k2_sels lw_privs)[i]? = some w) (g : goodWord w = true) : w ∈ WS := List.mem_filter.mpr ⟨List.mem_append_left _ (List.mem_of_getElem? h), g⟩
/-- what a method needs of the words to be called -/
def MI (y : Mt) (n : Nat) : Prop := (Cond.code y.1 y.2.1 y.2.2.1 y.2.2.2 ∈ WS ∧ Cond.initialized y.1.cls ∈ WS) ∧ (y.1.cls ≠ "java/lang/invoke/MethodHandle" ∧ y.1.cls ≠ "java/lang/invoke/VarHandle" ∧ (parseMethodDescriptor y.1.desc).map (fun d => d.parameters.length) = some n)
def LV (own : String) (idx : Nat) (y : Mt) : Prop := Cond.methodLink own idx y.1 ∈ WS ∧ Cond.instanceMethod y.1 ∈ WS ∧ Cond.selects y.1.cls y.1 y.1 ∈ WS
def LTS (own : String) (idx : Nat) (y : Mt) : Prop := Cond.methodLink own idx y.1 ∈ WS ∧ Cond.static y.1 ∈ WS
def LI (own : String) (idx : Nat) (y : Mt) : Prop := Cond.methodLink own idx y.1 ∈ WS ∧ Cond.instanceMethod y.1 ∈ WS
def FL (own : String) (idx ci k : Nat) : Prop := ∃ r : vw_C, cls[ci]? = some r ∧ k < r.2.2 ∧ Cond.fieldLink own idx (r.2.1 k).1 (r.2.1 k).2.1 (r.2.1 k).2.2.1 ∈ WS
def NW : List Cond := [Cond.methodLinkNest "WhileSaltMelts" 15  (⟨"WhileSaltMelts$Reader", "<init>", "()V"⟩ : MethodName) "WhileSaltMelts", Cond.methodLinkNest "WhileSaltMelts" 22  (⟨"WhileSaltMelts$Table", "<init>", "()V"⟩ : MethodName) "WhileSaltMelts", Cond.methodLinkNest "WhileSaltMelts" 32  (⟨"WhileSaltMelts$Evening", "<init>", "()V"⟩ : MethodName) "WhileSaltMelts", Cond.methodLinkNest "WhileSaltMelts" 49  (⟨"WhileSaltMelts$Giving", "<init>", "()V"⟩ : MethodName) "WhileSaltMelts", Cond.methodLinkNest "WhileSaltMelts" 56  (⟨"WhileSaltMelts$Order", "<init>", "()V"⟩ : MethodName) "WhileSaltMelts", Cond.methodLinkNest "WhileSaltMelts$Table" 84  (⟨"WhileSaltMelts", "isIn", "(II)Z"⟩ : MethodName) "WhileSaltMelts", Cond.methodLinkNest "WhileSaltMelts$Giving" 46  (⟨"WhileSaltMelts", "isIn", "(II)Z"⟩ : MethodName) "WhileSaltMelts", Cond.methodLinkNest "WhileSaltMelts$Order" 99  (⟨"WhileSaltMelts", "isIn", "(II)Z"⟩ : MethodName) "WhileSaltMelts"]
theorem nw_ok : ∀ w ∈ NW, w ∈ tables_1 := by
  intro w hw
  simp only [NW, List.mem_cons, List.not_mem_nil, or_false] at hw
  rcases hw with rfl | rfl | rfl | rfl | rfl | rfl | rfl | rfl
  · exact List.mem_of_getElem? (i := 24) (by decide +kernel)
  · exact List.mem_of_getElem? (i := 42) (by decide +kernel)
  · exact List.mem_of_getElem? (i := 115) (by decide +kernel)
  · exact List.mem_of_getElem? (i := 167) (by decide +kernel)
  · exact List.mem_of_getElem? (i := 189) (by decide +kernel)
  · exact List.mem_of_getElem? (i := 470) (by decide +kernel)
  · exact List.mem_of_getElem? (i := 487) (by decide +kernel)
  · exact List.mem_of_getElem? (i := 535) (by decide +kernel)
def LSN (own : String) (idx : Nat) (y : Mt) : Prop := (∃ host : String, Cond.methodLinkNest own idx y.1 host ∈ NW) ∧ Cond.static y.1 ∈ WS
def LIN (own : String) (idx : Nat) (y : Mt) : Prop := (∃ host : String, Cond.methodLinkNest own idx y.1 host ∈ NW) ∧ Cond.instanceMethod y.1 ∈ WS
theorem uw0 : ∀ w ∈ u_ws RX0 TX0 10, w ∈ WS := by
  intro w hw
  obtain ⟨k, hk, rfl⟩ := List.mem_map.mp hw
  have hk := List.mem_range.mp hk
  match k, hk with
  | 0, _ => exact wm 143 (by decide +kernel) (by decide +kernel)
  | 1, _ => exact wm 145 (by decide +kernel) (by decide +kernel)
  | 2, _ => exact wm 147 (by decide +kernel) (by decide +kernel)
  | 3, _ => exact wm 149 (by decide +kernel) (by decide +kernel)
  | 4, _ => exact wm 151 (by decide +kernel) (by decide +kernel)
  | 5, _ => exact wm 153 (by decide +kernel) (by decide +kernel)
  | 6, _ => exact wm 155 (by decide +kernel) (by decide +kernel)
  | 7, _ => exact wm 157 (by decide +kernel) (by decide +kernel)
  | 8, _ => exact wm 159 (by decide +kernel) (by decide +kernel)
  | 9, _ => exact wm 161 (by decide +kernel) (by decide +kernel)
  | k + 10, hk => exact absurd hk (by omega)
theorem uw1 : ∀ w ∈ u_ws RX1 TX1 3, w ∈ WS := by
  intro w hw
  obtain ⟨k, hk, rfl⟩ := List.mem_map.mp hw
  have hk := List.mem_range.mp hk
  match k, hk with
  | 0, _ => exact wm 180 (by decide +kernel) (by decide +kernel)
  | 1, _ => exact wm 182 (by decide +kernel) (by decide +kernel)
  | 2, _ => exact wm 184 (by decide +kernel) (by decide +kernel)
  | k + 3, hk => exact absurd hk (by omega)
theorem uw2 : ∀ w ∈ u_ws RX2 TX2 8, w ∈ WS := by
  intro w hw
  obtain ⟨k, hk, rfl⟩ := List.mem_map.mp hw
  have hk := List.mem_range.mp hk
  match k, hk with
  | 0, _ => exact wm 204 (by decide +kernel) (by decide +kernel)
  | 1, _ => exact wm 206 (by decide +kernel) (by decide +kernel)
  | 2, _ => exact wm 208 (by decide +kernel) (by decide +kernel)
  | 3, _ => exact wm 210 (by decide +kernel) (by decide +kernel)
  | 4, _ => exact wm 212 (by decide +kernel) (by decide +kernel)
  | 5, _ => exact wm 214 (by decide +kernel) (by decide +kernel)
  | 6, _ => exact wm 216 (by decide +kernel) (by decide +kernel)
  | 7, _ => exact wm 218 (by decide +kernel) (by decide +kernel)
  | k + 8, hk => exact absurd hk (by omega)
theorem uw3 : ∀ w ∈ u_ws RX3 TX3 3, w ∈ WS := by
  intro w hw
  obtain ⟨k, hk, rfl⟩ := List.mem_map.mp hw
  have hk := List.mem_range.mp hk
  match k, hk with
  | 0, _ => exact wm 31 (by decide +kernel) (by decide +kernel)
  | 1, _ => exact wm 33 (by decide +kernel) (by decide +kernel)
  | 2, _ => exact wm 35 (by decide +kernel) (by decide +kernel)
  | k + 3, hk => exact absurd hk (by omega)
theorem uw4 : ∀ w ∈ u_ws RX4 TX4 13, w ∈ WS := by
  intro w hw
  obtain ⟨k, hk, rfl⟩ := List.mem_map.mp hw
  have hk := List.mem_range.mp hk
  match k, hk with
  | 0, _ => exact wm 86 (by decide +kernel) (by decide +kernel)
  | 1, _ => exact wm 88 (by decide +kernel) (by decide +kernel)
  | 2, _ => exact wm 90 (by decide +kernel) (by decide +kernel)
  | 3, _ => exact wm 92 (by decide +kernel) (by decide +kernel)
  | 4, _ => exact wm 94 (by decide +kernel) (by decide +kernel)
  | 5, _ => exact wm 96 (by decide +kernel) (by decide +kernel)
  | 6, _ => exact wm 98 (by decide +kernel) (by decide +kernel)
  | 7, _ => exact wm 100 (by decide +kernel) (by decide +kernel)
  | 8, _ => exact wm 102 (by decide +kernel) (by decide +kernel)
  | 9, _ => exact wm 104 (by decide +kernel) (by decide +kernel)
  | 10, _ => exact wm 106 (by decide +kernel) (by decide +kernel)
  | 11, _ => exact wm 108 (by decide +kernel) (by decide +kernel)
  | 12, _ => exact wm 110 (by decide +kernel) (by decide +kernel)
  | k + 13, hk => exact absurd hk (by omega)
theorem uw5 : ∀ w ∈ u_ws RX5 TX5 13, w ∈ WS := by
  intro w hw
  obtain ⟨k, hk, rfl⟩ := List.mem_map.mp hw
  have hk := List.mem_range.mp hk
  match k, hk with
  | 0, _ => exact wm 329 (by decide +kernel) (by decide +kernel)
  | 1, _ => exact wm 331 (by decide +kernel) (by decide +kernel)
  | 2, _ => exact wm 333 (by decide +kernel) (by decide +kernel)
  | 3, _ => exact wm 335 (by decide +kernel) (by decide +kernel)
  | 4, _ => exact wm 337 (by decide +kernel) (by decide +kernel)
  | 5, _ => exact wm 339 (by decide +kernel) (by decide +kernel)
  | 6, _ => exact wm 341 (by decide +kernel) (by decide +kernel)
  | 7, _ => exact wm 343 (by decide +kernel) (by decide +kernel)
  | 8, _ => exact wm 345 (by decide +kernel) (by decide +kernel)
  | 9, _ => exact wm 347 (by decide +kernel) (by decide +kernel)
  | 10, _ => exact wm 349 (by decide +kernel) (by decide +kernel)
  | 11, _ => exact wm 351 (by decide +kernel) (by decide +kernel)
  | 12, _ => exact wm 353 (by decide +kernel) (by decide +kernel)
  | k + 13, hk => exact absurd hk (by omega)
theorem uw6 : ∀ w ∈ u_ws RX6 TX6 44, w ∈ WS := by
  intro w hw
  obtain ⟨k, hk, rfl⟩ := List.mem_map.mp hw
  have hk := List.mem_range.mp hk
  match k, hk with
  | 0, _ => exact wm 654 (by decide +kernel) (by decide +kernel)
  | 1, _ => exact wm 656 (by decide +kernel) (by decide +kernel)
  | 2, _ => exact wm 658 (by decide +kernel) (by decide +kernel)
  | 3, _ => exact wm 660 (by decide +kernel) (by decide +kernel)
  | 4, _ => exact wm 662 (by decide +kernel) (by decide +kernel)
  | 5, _ => exact wm 664 (by decide +kernel) (by decide +kernel)
  | 6, _ => exact wm 666 (by decide +kernel) (by decide +kernel)
  | 7, _ => exact wm 668 (by decide +kernel) (by decide +kernel)
  | 8, _ => exact wm 670 (by decide +kernel) (by decide +kernel)
  | 9, _ => exact wm 672 (by decide +kernel) (by decide +kernel)
  | 10, _ => exact wm 674 (by decide +kernel) (by decide +kernel)
  | 11, _ => exact wm 676 (by decide +kernel) (by decide +kernel)
  | 12, _ => exact wm 678 (by decide +kernel) (by decide +kernel)
  | 13, _ => exact wm 680 (by decide +kernel) (by decide +kernel)
  | 14, _ => exact wm 682 (by decide +kernel) (by decide +kernel)
  | 15, _ => exact wm 684 (by decide +kernel) (by decide +kernel)
  | 16, _ => exact wm 686 (by decide +kernel) (by decide +kernel)
  | 17, _ => exact wm 688 (by decide +kernel) (by decide +kernel)
  | 18, _ => exact wm 690 (by decide +kernel) (by decide +kernel)
  | 19, _ => exact wm 692 (by decide +kernel) (by decide +kernel)
  | 20, _ => exact wm 694 (by decide +kernel) (by decide +kernel)
  | 21, _ => exact wm 696 (by decide +kernel) (by decide +kernel)
  | 22, _ => exact wm 698 (by decide +kernel) (by decide +kernel)
  | 23, _ => exact wm 700 (by decide +kernel) (by decide +kernel)
  | 24, _ => exact wm 702 (by decide +kernel) (by decide +kernel)
  | 25, _ => exact wm 704 (by decide +kernel) (by decide +kernel)
  | 26, _ => exact wm 706 (by decide +kernel) (by decide +kernel)
  | 27, _ => exact wm 708 (by decide +kernel) (by decide +kernel)
  | 28, _ => exact wm 710 (by decide +kernel) (by decide +kernel)
  | 29, _ => exact wm 712 (by decide +kernel) (by decide +kernel)
  | 30, _ => exact wm 714 (by decide +kernel) (by decide +kernel)
  | 31, _ => exact wm 716 (by decide +kernel) (by decide +kernel)
  | 32, _ => exact wm 718 (by decide +kernel) (by decide +kernel)
  | 33, _ => exact wm 720 (by decide +kernel) (by decide +kernel)
  | 34, _ => exact wm 722 (by decide +kernel) (by decide +kernel)
  | 35, _ => exact wm 724 (by decide +kernel) (by decide +kernel)
  | 36, _ => exact wm 726 (by decide +kernel) (by decide +kernel)
  | 37, _ => exact wm 728 (by decide +kernel) (by decide +kernel)
  | 38, _ => exact wm 730 (by decide +kernel) (by decide +kernel)
  | 39, _ => exact wm 732 (by decide +kernel) (by decide +kernel)
  | 40, _ => exact wm 734 (by decide +kernel) (by decide +kernel)
  | 41, _ => exact wm 736 (by decide +kernel) (by decide +kernel)
  | 42, _ => exact wm 738 (by decide +kernel) (by decide +kernel)
  | 43, _ => exact wm 740 (by decide +kernel) (by decide +kernel)
  | k + 44, hk => exact absurd hk (by omega)
theorem mi_0_init : MI m_0_init 0 := ⟨⟨wm 117 (by decide +kernel) (by decide +kernel), wm 4 (by decide +kernel) (by decide +kernel)⟩, ⟨by decide +kernel, by decide +kernel, by decide +kernel⟩⟩
theorem mi_0_begin : MI m_0_begin 1 := ⟨⟨wm 315 (by decide +kernel) (by decide +kernel), wm 4 (by decide +kernel) (by decide +kernel)⟩, ⟨by decide +kernel, by decide +kernel, by decide +kernel⟩⟩
theorem mi_0_copyFrom : MI m_0_copyFrom 1 := ⟨⟨wm 414 (by decide +kernel) (by decide +kernel), wm 4 (by decide +kernel) (by decide +kernel)⟩, ⟨by decide +kernel, by decide +kernel, by decide +kernel⟩⟩
theorem mi_0_aGrainMelts : MI m_0_aGrainMelts 0 := ⟨⟨wm 406 (by decide +kernel) (by decide +kernel), wm 4 (by decide +kernel) (by decide +kernel)⟩, ⟨by decide +kernel, by decide +kernel, by decide +kernel⟩⟩
theorem mi_0_eatDish : MI m_0_eatDish 2 := ⟨⟨wm 442 (by decide +kernel) (by decide +kernel), wm 4 (by decide +kernel) (by decide +kernel)⟩, ⟨by decide +kernel, by decide +kernel, by decide +kernel⟩⟩
theorem mi_1_init : MI m_1_init 0 := ⟨⟨wm 169 (by decide +kernel) (by decide +kernel), wm 5 (by decide +kernel) (by decide +kernel)⟩, ⟨by decide +kernel, by decide +kernel, by decide +kernel⟩⟩
theorem mi_1_give : MI m_1_give 2 := ⟨⟨wm 483 (by decide +kernel) (by decide +kernel), wm 5 (by decide +kernel) (by decide +kernel)⟩, ⟨by decide +kernel, by decide +kernel, by decide +kernel⟩⟩
theorem mi_1_grainsFor : MI m_1_grainsFor 3 := ⟨⟨wm 486 (by decide +kernel) (by decide +kernel), wm 5 (by decide +kernel) (by decide +kernel)⟩, ⟨by decide +kernel, by decide +kernel, by decide +kernel⟩⟩
theorem mi_1_mostFrom : MI m_1_mostFrom 4 := ⟨⟨wm 491 (by decide +kernel) (by decide +kernel), wm 5 (by decide +kernel) (by decide +kernel)⟩, ⟨by decide +kernel, by decide +kernel, by decide +kernel⟩⟩
theorem mi_1_giveFirst : MI m_1_giveFirst 2 := ⟨⟨wm 496 (by decide +kernel) (by decide +kernel), wm 5 (by decide +kernel) (by decide +kernel)⟩, ⟨by decide +kernel, by decide +kernel, by decide +kernel⟩⟩
theorem mi_1_firstGrain : MI m_1_firstGrain 4 := ⟨⟨wm 500 (by decide +kernel) (by decide +kernel), wm 5 (by decide +kernel) (by decide +kernel)⟩, ⟨by decide +kernel, by decide +kernel, by decide +kernel⟩⟩
theorem mi_2_init : MI m_2_init 0 := ⟨⟨wm 191 (by decide +kernel) (by decide +kernel), wm 6 (by decide +kernel) (by decide +kernel)⟩, ⟨by decide +kernel, by decide +kernel, by decide +kernel⟩⟩
theorem mi_2_find : MI m_2_find 3 := ⟨⟨wm 512 (by decide +kernel) (by decide +kernel), wm 6 (by decide +kernel) (by decide +kernel)⟩, ⟨by decide +kernel, by decide +kernel, by decide +kernel⟩⟩
theorem mi_2_freeAll : MI m_2_freeAll 0 := ⟨⟨wm 523 (by decide +kernel) (by decide +kernel), wm 6 (by decide +kernel) (by decide +kernel)⟩, ⟨by decide +kernel, by decide +kernel, by decide +kernel⟩⟩
theorem mi_2_tryFrom : MI m_2_tryFrom 5 := ⟨⟨wm 526 (by decide +kernel) (by decide +kernel), wm 6 (by decide +kernel) (by decide +kernel)⟩, ⟨by decide +kernel, by decide +kernel, by decide +kernel⟩⟩
theorem mi_2_endBehind : MI m_2_endBehind 3 := ⟨⟨wm 539 (by decide +kernel) (by decide +kernel), wm 6 (by decide +kernel) (by decide +kernel)⟩, ⟨by decide +kernel, by decide +kernel, by decide +kernel⟩⟩
theorem mi_2_mayBeNext : MI m_2_mayBeNext 3 := ⟨⟨wm 534 (by decide +kernel) (by decide +kernel), wm 6 (by decide +kernel) (by decide +kernel)⟩, ⟨by decide +kernel, by decide +kernel, by decide +kernel⟩⟩
theorem mi_2_keepTrial : MI m_2_keepTrial 1 := ⟨⟨wm 530 (by decide +kernel) (by decide +kernel), wm 6 (by decide +kernel) (by decide +kernel)⟩, ⟨by decide +kernel, by decide +kernel, by decide +kernel⟩⟩
theorem mi_2_countLate : MI m_2_countLate 1 := ⟨⟨wm 548 (by decide +kernel) (by decide +kernel), wm 6 (by decide +kernel) (by decide +kernel)⟩, ⟨by decide +kernel, by decide +kernel, by decide +kernel⟩⟩
theorem mi_3_init : MI m_3_init 0 := ⟨⟨wm 26 (by decide +kernel) (by decide +kernel), wm 2 (by decide +kernel) (by decide +kernel)⟩, ⟨by decide +kernel, by decide +kernel, by decide +kernel⟩⟩
theorem mi_3_readTable : MI m_3_readTable 3 := ⟨⟨wm 273 (by decide +kernel) (by decide +kernel), wm 2 (by decide +kernel) (by decide +kernel)⟩, ⟨by decide +kernel, by decide +kernel, by decide +kernel⟩⟩
theorem mi_3_readItem : MI m_3_readItem 3 := ⟨⟨wm 281 (by decide +kernel) (by decide +kernel), wm 2 (by decide +kernel) (by decide +kernel)⟩, ⟨by decide +kernel, by decide +kernel, by decide +kernel⟩⟩
theorem mi_3_isFigure : MI m_3_isFigure 1 := ⟨⟨wm 287 (by decide +kernel) (by decide +kernel), wm 2 (by decide +kernel) (by decide +kernel)⟩, ⟨by decide +kernel, by decide +kernel, by decide +kernel⟩⟩
theorem mi_4_init : MI m_4_init 0 := ⟨⟨wm 44 (by decide +kernel) (by decide +kernel), wm 3 (by decide +kernel) (by decide +kernel)⟩, ⟨by decide +kernel, by decide +kernel, by decide +kernel⟩⟩
theorem mi_4_clear : MI m_4_clear 0 := ⟨⟨wm 277 (by decide +kernel) (by decide +kernel), wm 3 (by decide +kernel) (by decide +kernel)⟩, ⟨by decide +kernel, by decide +kernel, by decide +kernel⟩⟩
theorem mi_4_add : MI m_4_add 3 := ⟨⟨wm 291 (by decide +kernel) (by decide +kernel), wm 3 (by decide +kernel) (by decide +kernel)⟩, ⟨by decide +kernel, by decide +kernel, by decide +kernel⟩⟩
theorem mi_4_addPerson : MI m_4_addPerson 1 := ⟨⟨wm 295 (by decide +kernel) (by decide +kernel), wm 3 (by decide +kernel) (by decide +kernel)⟩, ⟨by decide +kernel, by decide +kernel, by decide +kernel⟩⟩
theorem mi_4_addGrain : MI m_4_addGrain 1 := ⟨⟨wm 299 (by decide +kernel) (by decide +kernel), wm 3 (by decide +kernel) (by decide +kernel)⟩, ⟨by decide +kernel, by decide +kernel, by decide +kernel⟩⟩
theorem mi_4_addSaying : MI m_4_addSaying 4 := ⟨⟨wm 303 (by decide +kernel) (by decide +kernel), wm 3 (by decide +kernel) (by decide +kernel)⟩, ⟨by decide +kernel, by decide +kernel, by decide +kernel⟩⟩
theorem mi_4_setWindow : MI m_4_setWindow 1 := ⟨⟨wm 307 (by decide +kernel) (by decide +kernel), wm 3 (by decide +kernel) (by decide +kernel)⟩, ⟨by decide +kernel, by decide +kernel, by decide +kernel⟩⟩
theorem mi_4_addDish : MI m_4_addDish 2 := ⟨⟨wm 311 (by decide +kernel) (by decide +kernel), wm 3 (by decide +kernel) (by decide +kernel)⟩, ⟨by decide +kernel, by decide +kernel, by decide +kernel⟩⟩
theorem mi_4_sayingsOf : MI m_4_sayingsOf 1 := ⟨⟨wm 462 (by decide +kernel) (by decide +kernel), wm 3 (by decide +kernel) (by decide +kernel)⟩, ⟨by decide +kernel, by decide +kernel, by decide +kernel⟩⟩
theorem mi_4_bestSet : MI m_4_bestSet 3 := ⟨⟨wm 458 (by decide +kernel) (by decide +kernel), wm 3 (by decide +kernel) (by decide +kernel)⟩, ⟨by decide +kernel, by decide +kernel, by decide +kernel⟩⟩
theorem mi_4_worthOf : MI m_4_worthOf 1 := ⟨⟨wm 474 (by decide +kernel) (by decide +kernel), wm 3 (by decide +kernel) (by decide +kernel)⟩, ⟨by decide +kernel, by decide +kernel, by decide +kernel⟩⟩
theorem mi_4_secondsOf : MI m_4_secondsOf 1 := ⟨⟨wm 466 (by decide +kernel) (by decide +kernel), wm 3 (by decide +kernel) (by decide +kernel)⟩, ⟨by decide +kernel, by decide +kernel, by decide +kernel⟩⟩
theorem mi_4_sizeOf : MI m_4_sizeOf 1 := ⟨⟨wm 565 (by decide +kernel) (by decide +kernel), wm 3 (by decide +kernel) (by decide +kernel)⟩, ⟨by decide +kernel, by decide +kernel, by decide +kernel⟩⟩
theorem mi_4_sumOf : MI m_4_sumOf 3 := ⟨⟨wm 469 (by decide +kernel) (by decide +kernel), wm 3 (by decide +kernel) (by decide +kernel)⟩, ⟨by decide +kernel, by decide +kernel, by decide +kernel⟩⟩
theorem mi_5_init : MI m_5_init 0 := ⟨⟨wm 18 (by decide +kernel) (by decide +kernel), wm 1 (by decide +kernel) (by decide +kernel)⟩, ⟨by decide +kernel, by decide +kernel, by decide +kernel⟩⟩
theorem mi_5_write : MI m_5_write 2 := ⟨⟨wm 359 (by decide +kernel) (by decide +kernel), wm 1 (by decide +kernel) (by decide +kernel)⟩, ⟨by decide +kernel, by decide +kernel, by decide +kernel⟩⟩
theorem mi_5_wipe : MI m_5_wipe 0 := ⟨⟨wm 363 (by decide +kernel) (by decide +kernel), wm 1 (by decide +kernel) (by decide +kernel)⟩, ⟨by decide +kernel, by decide +kernel, by decide +kernel⟩⟩
theorem mi_5_fault : MI m_5_fault 0 := ⟨⟨wm 367 (by decide +kernel) (by decide +kernel), wm 1 (by decide +kernel) (by decide +kernel)⟩, ⟨by decide +kernel, by decide +kernel, by decide +kernel⟩⟩
theorem mi_5_lay : MI m_5_lay 0 := ⟨⟨wm 371 (by decide +kernel) (by decide +kernel), wm 1 (by decide +kernel) (by decide +kernel)⟩, ⟨by decide +kernel, by decide +kernel, by decide +kernel⟩⟩
theorem mi_5_person : MI m_5_person 2 := ⟨⟨wm 375 (by decide +kernel) (by decide +kernel), wm 1 (by decide +kernel) (by decide +kernel)⟩, ⟨by decide +kernel, by decide +kernel, by decide +kernel⟩⟩
theorem mi_5_saying : MI m_5_saying 2 := ⟨⟨wm 383 (by decide +kernel) (by decide +kernel), wm 1 (by decide +kernel) (by decide +kernel)⟩, ⟨by decide +kernel, by decide +kernel, by decide +kernel⟩⟩
theorem mi_5_melts : MI m_5_melts 2 := ⟨⟨wm 394 (by decide +kernel) (by decide +kernel), wm 1 (by decide +kernel) (by decide +kernel)⟩, ⟨by decide +kernel, by decide +kernel, by decide +kernel⟩⟩
theorem mi_5_take : MI m_5_take 2 := ⟨⟨wm 402 (by decide +kernel) (by decide +kernel), wm 1 (by decide +kernel) (by decide +kernel)⟩, ⟨by decide +kernel, by decide +kernel, by decide +kernel⟩⟩
theorem mi_5_say : MI m_5_say 1 := ⟨⟨wm 418 (by decide +kernel) (by decide +kernel), wm 1 (by decide +kernel) (by decide +kernel)⟩, ⟨by decide +kernel, by decide +kernel, by decide +kernel⟩⟩
theorem mi_5_pass : MI m_5_pass 1 := ⟨⟨wm 430 (by decide +kernel) (by decide +kernel), wm 1 (by decide +kernel) (by decide +kernel)⟩, ⟨by decide +kernel, by decide +kernel, by decide +kernel⟩⟩
theorem mi_5_eat : MI m_5_eat 1 := ⟨⟨wm 434 (by decide +kernel) (by decide +kernel), wm 1 (by decide +kernel) (by decide +kernel)⟩, ⟨by decide +kernel, by decide +kernel, by decide +kernel⟩⟩
theorem mi_5_undo : MI m_5_undo 0 := ⟨⟨wm 450 (by decide +kernel) (by decide +kernel), wm 1 (by decide +kernel) (by decide +kernel)⟩, ⟨by decide +kernel, by decide +kernel, by decide +kernel⟩⟩
theorem mi_5_best : MI m_5_best 3 := ⟨⟨wm 454 (by decide +kernel) (by decide +kernel), wm 1 (by decide +kernel) (by decide +kernel)⟩, ⟨by decide +kernel, by decide +kernel, by decide +kernel⟩⟩
theorem mi_5_match : MI m_5_match 1 := ⟨⟨wm 479 (by decide +kernel) (by decide +kernel), wm 1 (by decide +kernel) (by decide +kernel)⟩, ⟨by decide +kernel, by decide +kernel, by decide +kernel⟩⟩
theorem mi_5_soonest : MI m_5_soonest 1 := ⟨⟨wm 504 (by decide +kernel) (by decide +kernel), wm 1 (by decide +kernel) (by decide +kernel)⟩, ⟨by decide +kernel, by decide +kernel, by decide +kernel⟩⟩
theorem mi_5_late : MI m_5_late 0 := ⟨⟨wm 544 (by decide +kernel) (by decide +kernel), wm 1 (by decide +kernel) (by decide +kernel)⟩, ⟨by decide +kernel, by decide +kernel, by decide +kernel⟩⟩
theorem mi_5_dish : MI m_5_dish 2 := ⟨⟨wm 552 (by decide +kernel) (by decide +kernel), wm 1 (by decide +kernel) (by decide +kernel)⟩, ⟨by decide +kernel, by decide +kernel, by decide +kernel⟩⟩
theorem mi_5_spoke : MI m_5_spoke 3 := ⟨⟨wm 561 (by decide +kernel) (by decide +kernel), wm 1 (by decide +kernel) (by decide +kernel)⟩, ⟨by decide +kernel, by decide +kernel, by decide +kernel⟩⟩
theorem mi_5_winter : MI m_5_winter 3 := ⟨⟨wm 569 (by decide +kernel) (by decide +kernel), wm 1 (by decide +kernel) (by decide +kernel)⟩, ⟨by decide +kernel, by decide +kernel, by decide +kernel⟩⟩
theorem mi_5_keep : MI m_5_keep 0 := ⟨⟨wm 583 (by decide +kernel) (by decide +kernel), wm 1 (by decide +kernel) (by decide +kernel)⟩, ⟨by decide +kernel, by decide +kernel, by decide +kernel⟩⟩
theorem mi_5_back : MI m_5_back 0 := ⟨⟨wm 587 (by decide +kernel) (by decide +kernel), wm 1 (by decide +kernel) (by decide +kernel)⟩, ⟨by decide +kernel, by decide +kernel, by decide +kernel⟩⟩
theorem mi_5_count : MI m_5_count 1 := ⟨⟨wm 591 (by decide +kernel) (by decide +kernel), wm 1 (by decide +kernel) (by decide +kernel)⟩, ⟨by decide +kernel, by decide +kernel, by decide +kernel⟩⟩
theorem mi_5_isPerson : MI m_5_isPerson 1 := ⟨⟨wm 379 (by decide +kernel) (by decide +kernel), wm 1 (by decide +kernel) (by decide +kernel)⟩, ⟨by decide +kernel, by decide +kernel, by decide +kernel⟩⟩
theorem mi_5_isGrain : MI m_5_isGrain 1 := ⟨⟨wm 398 (by decide +kernel) (by decide +kernel), wm 1 (by decide +kernel) (by decide +kernel)⟩, ⟨by decide +kernel, by decide +kernel, by decide +kernel⟩⟩
theorem mi_5_isSaying : MI m_5_isSaying 1 := ⟨⟨wm 387 (by decide +kernel) (by decide +kernel), wm 1 (by decide +kernel) (by decide +kernel)⟩, ⟨by decide +kernel, by decide +kernel, by decide +kernel⟩⟩
theorem mi_5_isDish : MI m_5_isDish 1 := ⟨⟨wm 438 (by decide +kernel) (by decide +kernel), wm 1 (by decide +kernel) (by decide +kernel)⟩, ⟨by decide +kernel, by decide +kernel, by decide +kernel⟩⟩
theorem mi_5_isIn : MI m_5_isIn 2 := ⟨⟨wm 390 (by decide +kernel) (by decide +kernel), wm 1 (by decide +kernel) (by decide +kernel)⟩, ⟨by decide +kernel, by decide +kernel, by decide +kernel⟩⟩
theorem mi_5_canBeSaid : MI m_5_canBeSaid 1 := ⟨⟨wm 422 (by decide +kernel) (by decide +kernel), wm 1 (by decide +kernel) (by decide +kernel)⟩, ⟨by decide +kernel, by decide +kernel, by decide +kernel⟩⟩
theorem mi_5_mayAnswerNow : MI m_5_mayAnswerNow 1 := ⟨⟨wm 426 (by decide +kernel) (by decide +kernel), wm 1 (by decide +kernel) (by decide +kernel)⟩, ⟨by decide +kernel, by decide +kernel, by decide +kernel⟩⟩
theorem mi_5_remember : MI m_5_remember 0 := ⟨⟨wm 410 (by decide +kernel) (by decide +kernel), wm 1 (by decide +kernel) (by decide +kernel)⟩, ⟨by decide +kernel, by decide +kernel, by decide +kernel⟩⟩
theorem mi_5_findOrder : MI m_5_findOrder 0 := ⟨⟨wm 508 (by decide +kernel) (by decide +kernel), wm 1 (by decide +kernel) (by decide +kernel)⟩, ⟨by decide +kernel, by decide +kernel, by decide +kernel⟩⟩
theorem mi_5_leadOf : MI m_5_leadOf 3 := ⟨⟨wm 556 (by decide +kernel) (by decide +kernel), wm 1 (by decide +kernel) (by decide +kernel)⟩, ⟨by decide +kernel, by decide +kernel, by decide +kernel⟩⟩
theorem mi_5_drawOf : MI m_5_drawOf 2 := ⟨⟨wm 572 (by decide +kernel) (by decide +kernel), wm 1 (by decide +kernel) (by decide +kernel)⟩, ⟨by decide +kernel, by decide +kernel, by decide +kernel⟩⟩
theorem mi_5_remainder : MI m_5_remainder 2 := ⟨⟨wm 578 (by decide +kernel) (by decide +kernel), wm 1 (by decide +kernel) (by decide +kernel)⟩, ⟨by decide +kernel, by decide +kernel, by decide +kernel⟩⟩
theorem mi_6_init : MI m_6_init 0 := ⟨⟨wm 596 (by decide +kernel) (by decide +kernel), wm 12 (by decide +kernel) (by decide +kernel)⟩, ⟨by decide +kernel, by decide +kernel, by decide +kernel⟩⟩
theorem mi_6_in : MI m_6_in 3 := ⟨⟨wm 749 (by decide +kernel) (by decide +kernel), wm 12 (by decide +kernel) (by decide +kernel)⟩, ⟨by decide +kernel, by decide +kernel, by decide +kernel⟩⟩
theorem mi_6_has : MI m_6_has 2 := ⟨⟨wm 813 (by decide +kernel) (by decide +kernel), wm 12 (by decide +kernel) (by decide +kernel)⟩, ⟨by decide +kernel, by decide +kernel, by decide +kernel⟩⟩
theorem mi_6_isPerson : MI m_6_isPerson 1 := ⟨⟨wm 806 (by decide +kernel) (by decide +kernel), wm 12 (by decide +kernel) (by decide +kernel)⟩, ⟨by decide +kernel, by decide +kernel, by decide +kernel⟩⟩
theorem mi_6_isGrain : MI m_6_isGrain 1 := ⟨⟨wm 829 (by decide +kernel) (by decide +kernel), wm 12 (by decide +kernel) (by decide +kernel)⟩, ⟨by decide +kernel, by decide +kernel, by decide +kernel⟩⟩
theorem mi_6_isSaying : MI m_6_isSaying 1 := ⟨⟨wm 821 (by decide +kernel) (by decide +kernel), wm 12 (by decide +kernel) (by decide +kernel)⟩, ⟨by decide +kernel, by decide +kernel, by decide +kernel⟩⟩
theorem mi_6_write : MI m_6_write 2 := ⟨⟨wm 746 (by decide +kernel) (by decide +kernel), wm 12 (by decide +kernel) (by decide +kernel)⟩, ⟨by decide +kernel, by decide +kernel, by decide +kernel⟩⟩
theorem mi_6_wipe : MI m_6_wipe 0 := ⟨⟨wm 754 (by decide +kernel) (by decide +kernel), wm 12 (by decide +kernel) (by decide +kernel)⟩, ⟨by decide +kernel, by decide +kernel, by decide +kernel⟩⟩
theorem mi_6_begins : MI m_6_begins 0 := ⟨⟨wm 601 (by decide +kernel) (by decide +kernel), wm 12 (by decide +kernel) (by decide +kernel)⟩, ⟨by decide +kernel, by decide +kernel, by decide +kernel⟩⟩
theorem mi_6_tells : MI m_6_tells 5 := ⟨⟨wm 605 (by decide +kernel) (by decide +kernel), wm 12 (by decide +kernel) (by decide +kernel)⟩, ⟨by decide +kernel, by decide +kernel, by decide +kernel⟩⟩
theorem mi_6_here : MI m_6_here 0 := ⟨⟨wm 770 (by decide +kernel) (by decide +kernel), wm 12 (by decide +kernel) (by decide +kernel)⟩, ⟨by decide +kernel, by decide +kernel, by decide +kernel⟩⟩
theorem mi_6_number : MI m_6_number 1 := ⟨⟨wm 778 (by decide +kernel) (by decide +kernel), wm 12 (by decide +kernel) (by decide +kernel)⟩, ⟨by decide +kernel, by decide +kernel, by decide +kernel⟩⟩
theorem mi_6_isPersonItem : MI m_6_isPersonItem 0 := ⟨⟨wm 774 (by decide +kernel) (by decide +kernel), wm 12 (by decide +kernel) (by decide +kernel)⟩, ⟨by decide +kernel, by decide +kernel, by decide +kernel⟩⟩
theorem mi_6_isGrainItem : MI m_6_isGrainItem 0 := ⟨⟨wm 782 (by decide +kernel) (by decide +kernel), wm 12 (by decide +kernel) (by decide +kernel)⟩, ⟨by decide +kernel, by decide +kernel, by decide +kernel⟩⟩
theorem mi_6_isSayingItem : MI m_6_isSayingItem 0 := ⟨⟨wm 786 (by decide +kernel) (by decide +kernel), wm 12 (by decide +kernel) (by decide +kernel)⟩, ⟨by decide +kernel, by decide +kernel, by decide +kernel⟩⟩
theorem mi_6_isDishItem : MI m_6_isDishItem 0 := ⟨⟨wm 794 (by decide +kernel) (by decide +kernel), wm 12 (by decide +kernel) (by decide +kernel)⟩, ⟨by decide +kernel, by decide +kernel, by decide +kernel⟩⟩
theorem mi_6_isWaitItem : MI m_6_isWaitItem 0 := ⟨⟨wm 790 (by decide +kernel) (by decide +kernel), wm 12 (by decide +kernel) (by decide +kernel)⟩, ⟨by decide +kernel, by decide +kernel, by decide +kernel⟩⟩
theorem mi_6_isItem : MI m_6_isItem 0 := ⟨⟨wm 766 (by decide +kernel) (by decide +kernel), wm 12 (by decide +kernel) (by decide +kernel)⟩, ⟨by decide +kernel, by decide +kernel, by decide +kernel⟩⟩
theorem mi_6_findFault : MI m_6_findFault 0 := ⟨⟨wm 762 (by decide +kernel) (by decide +kernel), wm 12 (by decide +kernel) (by decide +kernel)⟩, ⟨by decide +kernel, by decide +kernel, by decide +kernel⟩⟩
theorem mi_6_fault : MI m_6_fault 0 := ⟨⟨wm 758 (by decide +kernel) (by decide +kernel), wm 12 (by decide +kernel) (by decide +kernel)⟩, ⟨by decide +kernel, by decide +kernel, by decide +kernel⟩⟩
theorem mi_6_lays : MI m_6_lays 0 := ⟨⟨wm 609 (by decide +kernel) (by decide +kernel), wm 12 (by decide +kernel) (by decide +kernel)⟩, ⟨by decide +kernel, by decide +kernel, by decide +kernel⟩⟩
theorem mi_6_lay : MI m_6_lay 0 := ⟨⟨wm 798 (by decide +kernel) (by decide +kernel), wm 12 (by decide +kernel) (by decide +kernel)⟩, ⟨by decide +kernel, by decide +kernel, by decide +kernel⟩⟩
theorem mi_6_shareOf : MI m_6_shareOf 1 := ⟨⟨wm 810 (by decide +kernel) (by decide +kernel), wm 12 (by decide +kernel) (by decide +kernel)⟩, ⟨by decide +kernel, by decide +kernel, by decide +kernel⟩⟩
theorem mi_6_person : MI m_6_person 2 := ⟨⟨wm 802 (by decide +kernel) (by decide +kernel), wm 12 (by decide +kernel) (by decide +kernel)⟩, ⟨by decide +kernel, by decide +kernel, by decide +kernel⟩⟩
theorem mi_6_saying : MI m_6_saying 2 := ⟨⟨wm 817 (by decide +kernel) (by decide +kernel), wm 12 (by decide +kernel) (by decide +kernel)⟩, ⟨by decide +kernel, by decide +kernel, by decide +kernel⟩⟩
theorem mi_6_melts : MI m_6_melts 2 := ⟨⟨wm 825 (by decide +kernel) (by decide +kernel), wm 12 (by decide +kernel) (by decide +kernel)⟩, ⟨by decide +kernel, by decide +kernel, by decide +kernel⟩⟩
theorem mi_6_isMelting : MI m_6_isMelting 0 := ⟨⟨wm 837 (by decide +kernel) (by decide +kernel), wm 12 (by decide +kernel) (by decide +kernel)⟩, ⟨by decide +kernel, by decide +kernel, by decide +kernel⟩⟩
theorem mi_6_remembers : MI m_6_remembers 0 := ⟨⟨wm 841 (by decide +kernel) (by decide +kernel), wm 12 (by decide +kernel) (by decide +kernel)⟩, ⟨by decide +kernel, by decide +kernel, by decide +kernel⟩⟩
theorem mi_6_take : MI m_6_take 2 := ⟨⟨wm 833 (by decide +kernel) (by decide +kernel), wm 12 (by decide +kernel) (by decide +kernel)⟩, ⟨by decide +kernel, by decide +kernel, by decide +kernel⟩⟩
theorem mi_6_isInTime : MI m_6_isInTime 1 := ⟨⟨wm 849 (by decide +kernel) (by decide +kernel), wm 12 (by decide +kernel) (by decide +kernel)⟩, ⟨by decide +kernel, by decide +kernel, by decide +kernel⟩⟩
theorem mi_6_say : MI m_6_say 1 := ⟨⟨wm 845 (by decide +kernel) (by decide +kernel), wm 12 (by decide +kernel) (by decide +kernel)⟩, ⟨by decide +kernel, by decide +kernel, by decide +kernel⟩⟩
theorem mi_6_pass : MI m_6_pass 1 := ⟨⟨wm 853 (by decide +kernel) (by decide +kernel), wm 12 (by decide +kernel) (by decide +kernel)⟩, ⟨by decide +kernel, by decide +kernel, by decide +kernel⟩⟩
theorem mi_6_dryBy : MI m_6_dryBy 2 := ⟨⟨wm 860 (by decide +kernel) (by decide +kernel), wm 12 (by decide +kernel) (by decide +kernel)⟩, ⟨by decide +kernel, by decide +kernel, by decide +kernel⟩⟩
theorem mi_6_eat : MI m_6_eat 1 := ⟨⟨wm 857 (by decide +kernel) (by decide +kernel), wm 12 (by decide +kernel) (by decide +kernel)⟩, ⟨by decide +kernel, by decide +kernel, by decide +kernel⟩⟩
theorem mi_6_undo : MI m_6_undo 0 := ⟨⟨wm 864 (by decide +kernel) (by decide +kernel), wm 12 (by decide +kernel) (by decide +kernel)⟩, ⟨by decide +kernel, by decide +kernel, by decide +kernel⟩⟩
theorem mi_6_findBest : MI m_6_findBest 3 := ⟨⟨wm 876 (by decide +kernel) (by decide +kernel), wm 12 (by decide +kernel) (by decide +kernel)⟩, ⟨by decide +kernel, by decide +kernel, by decide +kernel⟩⟩
theorem mi_6_unsaid : MI m_6_unsaid 0 := ⟨⟨wm 872 (by decide +kernel) (by decide +kernel), wm 12 (by decide +kernel) (by decide +kernel)⟩, ⟨by decide +kernel, by decide +kernel, by decide +kernel⟩⟩
theorem mi_6_best : MI m_6_best 3 := ⟨⟨wm 868 (by decide +kernel) (by decide +kernel), wm 12 (by decide +kernel) (by decide +kernel)⟩, ⟨by decide +kernel, by decide +kernel, by decide +kernel⟩⟩
theorem mi_6_layMouths : MI m_6_layMouths 0 := ⟨⟨wm 884 (by decide +kernel) (by decide +kernel), wm 12 (by decide +kernel) (by decide +kernel)⟩, ⟨by decide +kernel, by decide +kernel, by decide +kernel⟩⟩
theorem mi_6_mayGive : MI m_6_mayGive 3 := ⟨⟨wm 892 (by decide +kernel) (by decide +kernel), wm 12 (by decide +kernel) (by decide +kernel)⟩, ⟨by decide +kernel, by decide +kernel, by decide +kernel⟩⟩
theorem mi_6_givenBy : MI m_6_givenBy 3 := ⟨⟨wm 896 (by decide +kernel) (by decide +kernel), wm 12 (by decide +kernel) (by decide +kernel)⟩, ⟨by decide +kernel, by decide +kernel, by decide +kernel⟩⟩
theorem mi_6_matches : MI m_6_matches 0 := ⟨⟨wm 888 (by decide +kernel) (by decide +kernel), wm 12 (by decide +kernel) (by decide +kernel)⟩, ⟨by decide +kernel, by decide +kernel, by decide +kernel⟩⟩
theorem mi_6_match : MI m_6_match 1 := ⟨⟨wm 880 (by decide +kernel) (by decide +kernel), wm 12 (by decide +kernel) (by decide +kernel)⟩, ⟨by decide +kernel, by decide +kernel, by decide +kernel⟩⟩
theorem mi_6_nextRow : MI m_6_nextRow 0 := ⟨⟨wm 916 (by decide +kernel) (by decide +kernel), wm 12 (by decide +kernel) (by decide +kernel)⟩, ⟨by decide +kernel, by decide +kernel, by decide +kernel⟩⟩
theorem mi_6_swap : MI m_6_swap 2 := ⟨⟨wm 920 (by decide +kernel) (by decide +kernel), wm 12 (by decide +kernel) (by decide +kernel)⟩, ⟨by decide +kernel, by decide +kernel, by decide +kernel⟩⟩
theorem mi_6_keepsAnswers : MI m_6_keepsAnswers 0 := ⟨⟨wm 908 (by decide +kernel) (by decide +kernel), wm 12 (by decide +kernel) (by decide +kernel)⟩, ⟨by decide +kernel, by decide +kernel, by decide +kernel⟩⟩
theorem mi_6_runs : MI m_6_runs 0 := ⟨⟨wm 912 (by decide +kernel) (by decide +kernel), wm 12 (by decide +kernel) (by decide +kernel)⟩, ⟨by decide +kernel, by decide +kernel, by decide +kernel⟩⟩
theorem mi_6_findSoonest : MI m_6_findSoonest 0 := ⟨⟨wm 904 (by decide +kernel) (by decide +kernel), wm 12 (by decide +kernel) (by decide +kernel)⟩, ⟨by decide +kernel, by decide +kernel, by decide +kernel⟩⟩
theorem mi_6_soonest : MI m_6_soonest 1 := ⟨⟨wm 900 (by decide +kernel) (by decide +kernel), wm 12 (by decide +kernel) (by decide +kernel)⟩, ⟨by decide +kernel, by decide +kernel, by decide +kernel⟩⟩
theorem mi_6_late : MI m_6_late 0 := ⟨⟨wm 924 (by decide +kernel) (by decide +kernel), wm 12 (by decide +kernel) (by decide +kernel)⟩, ⟨by decide +kernel, by decide +kernel, by decide +kernel⟩⟩
theorem mi_6_beside : MI m_6_beside 2 := ⟨⟨wm 932 (by decide +kernel) (by decide +kernel), wm 12 (by decide +kernel) (by decide +kernel)⟩, ⟨by decide +kernel, by decide +kernel, by decide +kernel⟩⟩
theorem mi_6_dish : MI m_6_dish 2 := ⟨⟨wm 928 (by decide +kernel) (by decide +kernel), wm 12 (by decide +kernel) (by decide +kernel)⟩, ⟨by decide +kernel, by decide +kernel, by decide +kernel⟩⟩
theorem mi_6_spoke : MI m_6_spoke 3 := ⟨⟨wm 936 (by decide +kernel) (by decide +kernel), wm 12 (by decide +kernel) (by decide +kernel)⟩, ⟨by decide +kernel, by decide +kernel, by decide +kernel⟩⟩
theorem mi_6_winter : MI m_6_winter 3 := ⟨⟨wm 940 (by decide +kernel) (by decide +kernel), wm 12 (by decide +kernel) (by decide +kernel)⟩, ⟨by decide +kernel, by decide +kernel, by decide +kernel⟩⟩
theorem mi_6_keep : MI m_6_keep 0 := ⟨⟨wm 947 (by decide +kernel) (by decide +kernel), wm 12 (by decide +kernel) (by decide +kernel)⟩, ⟨by decide +kernel, by decide +kernel, by decide +kernel⟩⟩
theorem mi_6_back : MI m_6_back 0 := ⟨⟨wm 951 (by decide +kernel) (by decide +kernel), wm 12 (by decide +kernel) (by decide +kernel)⟩, ⟨by decide +kernel, by decide +kernel, by decide +kernel⟩⟩
theorem mi_6_count : MI m_6_count 1 := ⟨⟨wm 955 (by decide +kernel) (by decide +kernel), wm 12 (by decide +kernel) (by decide +kernel)⟩, ⟨by decide +kernel, by decide +kernel, by decide +kernel⟩⟩
theorem mi_J6_bitCount_0f7a4 : MI m_J6_bitCount_0f7a4 1 := ⟨⟨wm 515 (by decide +kernel) (by decide +kernel), wm 13 (by decide +kernel) (by decide +kernel)⟩, ⟨by decide +kernel, by decide +kernel, by decide +kernel⟩⟩
theorem mi_J9_max_7cf53 : MI m_J9_max_7cf53 2 := ⟨⟨wm 446 (by decide +kernel) (by decide +kernel), wm 11 (by decide +kernel) (by decide +kernel)⟩, ⟨by decide +kernel, by decide +kernel, by decide +kernel⟩⟩
theorem mi_J9_min_7cf53 : MI m_J9_min_7cf53 2 := ⟨⟨wm 284 (by decide +kernel) (by decide +kernel), wm 11 (by decide +kernel) (by decide +kernel)⟩, ⟨by decide +kernel, by decide +kernel, by decide +kernel⟩⟩
theorem mi_J0_length_8abf5 : MI m_J0_length_8abf5 0 := ⟨⟨wm 225 (by decide +kernel) (by decide +kernel), wm 7 (by decide +kernel) (by decide +kernel)⟩, ⟨by decide +kernel, by decide +kernel, by decide +kernel⟩⟩
theorem mi_J0_charAt_5068e : MI m_J0_charAt_5068e 1 := ⟨⟨wm 235 (by decide +kernel) (by decide +kernel), wm 7 (by decide +kernel) (by decide +kernel)⟩, ⟨by decide +kernel, by decide +kernel, by decide +kernel⟩⟩
theorem mi_J0_coder_7d493 : MI m_J0_coder_7d493 0 := ⟨⟨wm 229 (by decide +kernel) (by decide +kernel), wm 7 (by decide +kernel) (by decide +kernel)⟩, ⟨by decide +kernel, by decide +kernel, by decide +kernel⟩⟩
theorem mi_J0_isLatin1_aae02 : MI m_J0_isLatin1_aae02 0 := ⟨⟨wm 239 (by decide +kernel) (by decide +kernel), wm 7 (by decide +kernel) (by decide +kernel)⟩, ⟨by decide +kernel, by decide +kernel, by decide +kernel⟩⟩
theorem mi_J0_checkIndex_df160 : MI m_J0_checkIndex_df160 2 := ⟨⟨wm 245 (by decide +kernel) (by decide +kernel), wm 7 (by decide +kernel) (by decide +kernel)⟩, ⟨by decide +kernel, by decide +kernel, by decide +kernel⟩⟩
theorem mi_J1_charAt_3b067 : MI m_J1_charAt_3b067 2 := ⟨⟨wm 242 (by decide +kernel) (by decide +kernel), wm 8 (by decide +kernel) (by decide +kernel)⟩, ⟨by decide +kernel, by decide +kernel, by decide +kernel⟩⟩
theorem mi_J2_getChar_3b067 : MI m_J2_getChar_3b067 2 := ⟨⟨wm 263 (by decide +kernel) (by decide +kernel), wm 10 (by decide +kernel) (by decide +kernel)⟩, ⟨by decide +kernel, by decide +kernel, by decide +kernel⟩⟩
theorem mi_J2_length_9d52b : MI m_J2_length_9d52b 1 := ⟨⟨wm 259 (by decide +kernel) (by decide +kernel), wm 10 (by decide +kernel) (by decide +kernel)⟩, ⟨by decide +kernel, by decide +kernel, by decide +kernel⟩⟩
theorem mi_J2_charAt_3b067 : MI m_J2_charAt_3b067 2 := ⟨⟨wm 253 (by decide +kernel) (by decide +kernel), wm 10 (by decide +kernel) (by decide +kernel)⟩, ⟨by decide +kernel, by decide +kernel, by decide +kernel⟩⟩
theorem mi_J2_checkIndex_2214a : MI m_J2_checkIndex_2214a 2 := ⟨⟨wm 256 (by decide +kernel) (by decide +kernel), wm 10 (by decide +kernel) (by decide +kernel)⟩, ⟨by decide +kernel, by decide +kernel, by decide +kernel⟩⟩
theorem mi_J3_checkIndex_8e157 : MI m_J3_checkIndex_8e157 3 := ⟨⟨wm 250 (by decide +kernel) (by decide +kernel), wm 9 (by decide +kernel) (by decide +kernel)⟩, ⟨by decide +kernel, by decide +kernel, by decide +kernel⟩⟩
theorem l_L_9 : LI "WhileSaltMeltsLaw" 9 m_5_init := ⟨wm 16 (by decide +kernel) (by decide +kernel), wm 17 (by decide +kernel) (by decide +kernel)⟩
theorem l_5_15 : LIN "WhileSaltMelts" 15 m_3_init := ⟨⟨"WhileSaltMelts", List.mem_of_getElem? (i := 0) (by decide +kernel)⟩, wm 25 (by decide +kernel) (by decide +kernel)⟩
theorem f_3_24 : FL "WhileSaltMelts$Reader" 24 3 0 := ⟨_, rfl, by decide +kernel, wm 28 (by decide +kernel) (by decide +kernel)⟩
theorem f_3_9 : FL "WhileSaltMelts$Reader" 9 3 1 := ⟨_, rfl, by decide +kernel, wm 29 (by decide +kernel) (by decide +kernel)⟩
theorem f_3_28 : FL "WhileSaltMelts$Reader" 28 3 2 := ⟨_, rfl, by decide +kernel, wm 30 (by decide +kernel) (by decide +kernel)⟩
theorem l_5_22 : LIN "WhileSaltMelts" 22 m_4_init := ⟨⟨"WhileSaltMelts", List.mem_of_getElem? (i := 1) (by decide +kernel)⟩, wm 43 (by decide +kernel) (by decide +kernel)⟩
theorem f_4_36 : FL "WhileSaltMelts$Table" 36 4 0 := ⟨_, rfl, by decide +kernel, wm 46 (by decide +kernel) (by decide +kernel)⟩
theorem f_5_85 : FL "WhileSaltMelts" 85 4 0 := ⟨_, rfl, by decide +kernel, wm 47 (by decide +kernel) (by decide +kernel)⟩
theorem f_4_9 : FL "WhileSaltMelts$Table" 9 4 1 := ⟨_, rfl, by decide +kernel, wm 48 (by decide +kernel) (by decide +kernel)⟩
theorem f_0_48 : FL "WhileSaltMelts$Evening" 48 4 1 := ⟨_, rfl, by decide +kernel, wm 49 (by decide +kernel) (by decide +kernel)⟩
theorem f_5_222 : FL "WhileSaltMelts" 222 4 1 := ⟨_, rfl, by decide +kernel, wm 50 (by decide +kernel) (by decide +kernel)⟩
theorem f_1_20 : FL "WhileSaltMelts$Giving" 20 4 2 := ⟨_, rfl, by decide +kernel, wm 51 (by decide +kernel) (by decide +kernel)⟩
theorem f_4_40 : FL "WhileSaltMelts$Table" 40 4 2 := ⟨_, rfl, by decide +kernel, wm 52 (by decide +kernel) (by decide +kernel)⟩
theorem f_0_28 : FL "WhileSaltMelts$Evening" 28 4 2 := ⟨_, rfl, by decide +kernel, wm 53 (by decide +kernel) (by decide +kernel)⟩
theorem f_5_88 : FL "WhileSaltMelts" 88 4 2 := ⟨_, rfl, by decide +kernel, wm 54 (by decide +kernel) (by decide +kernel)⟩
theorem f_4_15 : FL "WhileSaltMelts$Table" 15 4 3 := ⟨_, rfl, by decide +kernel, wm 55 (by decide +kernel) (by decide +kernel)⟩
theorem f_2_57 : FL "WhileSaltMelts$Order" 57 4 3 := ⟨_, rfl, by decide +kernel, wm 56 (by decide +kernel) (by decide +kernel)⟩
theorem f_1_50 : FL "WhileSaltMelts$Giving" 50 4 3 := ⟨_, rfl, by decide +kernel, wm 57 (by decide +kernel) (by decide +kernel)⟩
theorem f_5_139 : FL "WhileSaltMelts" 139 4 3 := ⟨_, rfl, by decide +kernel, wm 58 (by decide +kernel) (by decide +kernel)⟩
theorem f_4_43 : FL "WhileSaltMelts$Table" 43 4 4 := ⟨_, rfl, by decide +kernel, wm 59 (by decide +kernel) (by decide +kernel)⟩
theorem f_1_26 : FL "WhileSaltMelts$Giving" 26 4 4 := ⟨_, rfl, by decide +kernel, wm 60 (by decide +kernel) (by decide +kernel)⟩
theorem f_2_49 : FL "WhileSaltMelts$Order" 49 4 4 := ⟨_, rfl, by decide +kernel, wm 61 (by decide +kernel) (by decide +kernel)⟩
theorem f_5_233 : FL "WhileSaltMelts" 233 4 4 := ⟨_, rfl, by decide +kernel, wm 62 (by decide +kernel) (by decide +kernel)⟩
theorem f_4_18 : FL "WhileSaltMelts$Table" 18 4 5 := ⟨_, rfl, by decide +kernel, wm 63 (by decide +kernel) (by decide +kernel)⟩
theorem f_2_65 : FL "WhileSaltMelts$Order" 65 4 5 := ⟨_, rfl, by decide +kernel, wm 64 (by decide +kernel) (by decide +kernel)⟩
theorem f_1_56 : FL "WhileSaltMelts$Giving" 56 4 5 := ⟨_, rfl, by decide +kernel, wm 65 (by decide +kernel) (by decide +kernel)⟩
theorem f_5_114 : FL "WhileSaltMelts" 114 4 5 := ⟨_, rfl, by decide +kernel, wm 66 (by decide +kernel) (by decide +kernel)⟩
theorem f_4_21 : FL "WhileSaltMelts$Table" 21 4 6 := ⟨_, rfl, by decide +kernel, wm 67 (by decide +kernel) (by decide +kernel)⟩
theorem f_1_59 : FL "WhileSaltMelts$Giving" 59 4 6 := ⟨_, rfl, by decide +kernel, wm 68 (by decide +kernel) (by decide +kernel)⟩
theorem f_2_93 : FL "WhileSaltMelts$Order" 93 4 6 := ⟨_, rfl, by decide +kernel, wm 69 (by decide +kernel) (by decide +kernel)⟩
theorem f_5_117 : FL "WhileSaltMelts" 117 4 6 := ⟨_, rfl, by decide +kernel, wm 70 (by decide +kernel) (by decide +kernel)⟩
theorem f_4_24 : FL "WhileSaltMelts$Table" 24 4 7 := ⟨_, rfl, by decide +kernel, wm 71 (by decide +kernel) (by decide +kernel)⟩
theorem f_1_62 : FL "WhileSaltMelts$Giving" 62 4 7 := ⟨_, rfl, by decide +kernel, wm 72 (by decide +kernel) (by decide +kernel)⟩
theorem f_5_120 : FL "WhileSaltMelts" 120 4 7 := ⟨_, rfl, by decide +kernel, wm 73 (by decide +kernel) (by decide +kernel)⟩
theorem f_4_27 : FL "WhileSaltMelts$Table" 27 4 8 := ⟨_, rfl, by decide +kernel, wm 74 (by decide +kernel) (by decide +kernel)⟩
theorem f_2_96 : FL "WhileSaltMelts$Order" 96 4 8 := ⟨_, rfl, by decide +kernel, wm 75 (by decide +kernel) (by decide +kernel)⟩
theorem f_5_123 : FL "WhileSaltMelts" 123 4 8 := ⟨_, rfl, by decide +kernel, wm 76 (by decide +kernel) (by decide +kernel)⟩
theorem f_4_46 : FL "WhileSaltMelts$Table" 46 4 9 := ⟨_, rfl, by decide +kernel, wm 77 (by decide +kernel) (by decide +kernel)⟩
theorem f_5_216 : FL "WhileSaltMelts" 216 4 9 := ⟨_, rfl, by decide +kernel, wm 78 (by decide +kernel) (by decide +kernel)⟩
theorem f_4_30 : FL "WhileSaltMelts$Table" 30 4 10 := ⟨_, rfl, by decide +kernel, wm 79 (by decide +kernel) (by decide +kernel)⟩
theorem f_0_49 : FL "WhileSaltMelts$Evening" 49 4 10 := ⟨_, rfl, by decide +kernel, wm 80 (by decide +kernel) (by decide +kernel)⟩
theorem f_4_33 : FL "WhileSaltMelts$Table" 33 4 11 := ⟨_, rfl, by decide +kernel, wm 81 (by decide +kernel) (by decide +kernel)⟩
theorem f_0_52 : FL "WhileSaltMelts$Evening" 52 4 11 := ⟨_, rfl, by decide +kernel, wm 82 (by decide +kernel) (by decide +kernel)⟩
theorem f_4_49 : FL "WhileSaltMelts$Table" 49 4 12 := ⟨_, rfl, by decide +kernel, wm 83 (by decide +kernel) (by decide +kernel)⟩
theorem f_2_103 : FL "WhileSaltMelts$Order" 103 4 12 := ⟨_, rfl, by decide +kernel, wm 84 (by decide +kernel) (by decide +kernel)⟩
theorem f_5_239 : FL "WhileSaltMelts" 239 4 12 := ⟨_, rfl, by decide +kernel, wm 85 (by decide +kernel) (by decide +kernel)⟩
theorem l_5_32 : LIN "WhileSaltMelts" 32 m_0_init := ⟨⟨"WhileSaltMelts", List.mem_of_getElem? (i := 2) (by decide +kernel)⟩, wm 116 (by decide +kernel) (by decide +kernel)⟩
theorem f_0_24 : FL "WhileSaltMelts$Evening" 24 0 0 := ⟨_, rfl, by decide +kernel, wm 119 (by decide +kernel) (by decide +kernel)⟩
theorem f_5_146 : FL "WhileSaltMelts" 146 0 0 := ⟨_, rfl, by decide +kernel, wm 120 (by decide +kernel) (by decide +kernel)⟩
theorem f_0_33 : FL "WhileSaltMelts$Evening" 33 0 1 := ⟨_, rfl, by decide +kernel, wm 121 (by decide +kernel) (by decide +kernel)⟩
theorem f_1_74 : FL "WhileSaltMelts$Giving" 74 0 1 := ⟨_, rfl, by decide +kernel, wm 122 (by decide +kernel) (by decide +kernel)⟩
theorem f_5_149 : FL "WhileSaltMelts" 149 0 1 := ⟨_, rfl, by decide +kernel, wm 123 (by decide +kernel) (by decide +kernel)⟩
theorem f_0_36 : FL "WhileSaltMelts$Evening" 36 0 2 := ⟨_, rfl, by decide +kernel, wm 124 (by decide +kernel) (by decide +kernel)⟩
theorem f_1_41 : FL "WhileSaltMelts$Giving" 41 0 2 := ⟨_, rfl, by decide +kernel, wm 125 (by decide +kernel) (by decide +kernel)⟩
theorem f_5_126 : FL "WhileSaltMelts" 126 0 2 := ⟨_, rfl, by decide +kernel, wm 126 (by decide +kernel) (by decide +kernel)⟩
theorem f_0_39 : FL "WhileSaltMelts$Evening" 39 0 3 := ⟨_, rfl, by decide +kernel, wm 127 (by decide +kernel) (by decide +kernel)⟩
theorem f_5_167 : FL "WhileSaltMelts" 167 0 3 := ⟨_, rfl, by decide +kernel, wm 128 (by decide +kernel) (by decide +kernel)⟩
theorem f_0_42 : FL "WhileSaltMelts$Evening" 42 0 4 := ⟨_, rfl, by decide +kernel, wm 129 (by decide +kernel) (by decide +kernel)⟩
theorem f_5_155 : FL "WhileSaltMelts" 155 0 4 := ⟨_, rfl, by decide +kernel, wm 130 (by decide +kernel) (by decide +kernel)⟩
theorem f_0_45 : FL "WhileSaltMelts$Evening" 45 0 5 := ⟨_, rfl, by decide +kernel, wm 131 (by decide +kernel) (by decide +kernel)⟩
theorem f_5_158 : FL "WhileSaltMelts" 158 0 5 := ⟨_, rfl, by decide +kernel, wm 132 (by decide +kernel) (by decide +kernel)⟩
theorem f_0_9 : FL "WhileSaltMelts$Evening" 9 0 6 := ⟨_, rfl, by decide +kernel, wm 133 (by decide +kernel) (by decide +kernel)⟩
theorem f_2_60 : FL "WhileSaltMelts$Order" 60 0 6 := ⟨_, rfl, by decide +kernel, wm 134 (by decide +kernel) (by decide +kernel)⟩
theorem f_1_53 : FL "WhileSaltMelts$Giving" 53 0 6 := ⟨_, rfl, by decide +kernel, wm 135 (by decide +kernel) (by decide +kernel)⟩
theorem f_5_101 : FL "WhileSaltMelts" 101 0 6 := ⟨_, rfl, by decide +kernel, wm 136 (by decide +kernel) (by decide +kernel)⟩
theorem f_0_15 : FL "WhileSaltMelts$Evening" 15 0 7 := ⟨_, rfl, by decide +kernel, wm 137 (by decide +kernel) (by decide +kernel)⟩
theorem f_5_105 : FL "WhileSaltMelts" 105 0 7 := ⟨_, rfl, by decide +kernel, wm 138 (by decide +kernel) (by decide +kernel)⟩
theorem f_0_18 : FL "WhileSaltMelts$Evening" 18 0 8 := ⟨_, rfl, by decide +kernel, wm 139 (by decide +kernel) (by decide +kernel)⟩
theorem f_5_108 : FL "WhileSaltMelts" 108 0 8 := ⟨_, rfl, by decide +kernel, wm 140 (by decide +kernel) (by decide +kernel)⟩
theorem f_0_21 : FL "WhileSaltMelts$Evening" 21 0 9 := ⟨_, rfl, by decide +kernel, wm 141 (by decide +kernel) (by decide +kernel)⟩
theorem f_5_133 : FL "WhileSaltMelts" 133 0 9 := ⟨_, rfl, by decide +kernel, wm 142 (by decide +kernel) (by decide +kernel)⟩
theorem l_5_49 : LIN "WhileSaltMelts" 49 m_1_init := ⟨⟨"WhileSaltMelts", List.mem_of_getElem? (i := 3) (by decide +kernel)⟩, wm 168 (by decide +kernel) (by decide +kernel)⟩
theorem f_1_11 : FL "WhileSaltMelts$Giving" 11 1 0 := ⟨_, rfl, by decide +kernel, wm 173 (by decide +kernel) (by decide +kernel)⟩
theorem f_1_16 : FL "WhileSaltMelts$Giving" 16 1 1 := ⟨_, rfl, by decide +kernel, wm 174 (by decide +kernel) (by decide +kernel)⟩
theorem f_2_54 : FL "WhileSaltMelts$Order" 54 1 1 := ⟨_, rfl, by decide +kernel, wm 175 (by decide +kernel) (by decide +kernel)⟩
theorem f_5_193 : FL "WhileSaltMelts" 193 1 1 := ⟨_, rfl, by decide +kernel, wm 176 (by decide +kernel) (by decide +kernel)⟩
theorem f_2_27 : FL "WhileSaltMelts$Order" 27 1 2 := ⟨_, rfl, by decide +kernel, wm 177 (by decide +kernel) (by decide +kernel)⟩
theorem f_1_71 : FL "WhileSaltMelts$Giving" 71 1 2 := ⟨_, rfl, by decide +kernel, wm 178 (by decide +kernel) (by decide +kernel)⟩
theorem f_5_190 : FL "WhileSaltMelts" 190 1 2 := ⟨_, rfl, by decide +kernel, wm 179 (by decide +kernel) (by decide +kernel)⟩
theorem l_5_56 : LIN "WhileSaltMelts" 56 m_2_init := ⟨⟨"WhileSaltMelts", List.mem_of_getElem? (i := 4) (by decide +kernel)⟩, wm 190 (by decide +kernel) (by decide +kernel)⟩
theorem f_2_42 : FL "WhileSaltMelts$Order" 42 2 0 := ⟨_, rfl, by decide +kernel, wm 193 (by decide +kernel) (by decide +kernel)⟩
theorem f_5_202 : FL "WhileSaltMelts" 202 2 0 := ⟨_, rfl, by decide +kernel, wm 194 (by decide +kernel) (by decide +kernel)⟩
theorem f_2_46 : FL "WhileSaltMelts$Order" 46 2 1 := ⟨_, rfl, by decide +kernel, wm 195 (by decide +kernel) (by decide +kernel)⟩
theorem f_5_199 : FL "WhileSaltMelts" 199 2 1 := ⟨_, rfl, by decide +kernel, wm 196 (by decide +kernel) (by decide +kernel)⟩
theorem f_2_9 : FL "WhileSaltMelts$Order" 9 2 2 := ⟨_, rfl, by decide +kernel, wm 197 (by decide +kernel) (by decide +kernel)⟩
theorem f_5_205 : FL "WhileSaltMelts" 205 2 2 := ⟨_, rfl, by decide +kernel, wm 198 (by decide +kernel) (by decide +kernel)⟩
theorem f_2_33 : FL "WhileSaltMelts$Order" 33 2 3 := ⟨_, rfl, by decide +kernel, wm 199 (by decide +kernel) (by decide +kernel)⟩
theorem f_2_15 : FL "WhileSaltMelts$Order" 15 2 4 := ⟨_, rfl, by decide +kernel, wm 200 (by decide +kernel) (by decide +kernel)⟩
theorem f_2_18 : FL "WhileSaltMelts$Order" 18 2 5 := ⟨_, rfl, by decide +kernel, wm 201 (by decide +kernel) (by decide +kernel)⟩
theorem f_2_21 : FL "WhileSaltMelts$Order" 21 2 6 := ⟨_, rfl, by decide +kernel, wm 202 (by decide +kernel) (by decide +kernel)⟩
theorem f_2_24 : FL "WhileSaltMelts$Order" 24 2 7 := ⟨_, rfl, by decide +kernel, wm 203 (by decide +kernel) (by decide +kernel)⟩
theorem l_5_63 : LV "WhileSaltMelts" 63 m_J0_length_8abf5 := ⟨wm 222 (by decide +kernel) (by decide +kernel), wm 223 (by decide +kernel) (by decide +kernel), wm 224 (by decide +kernel) (by decide +kernel)⟩
theorem l_J0_335 : LV "java/lang/String" 335 m_J0_coder_7d493 := ⟨wm 226 (by decide +kernel) (by decide +kernel), wm 227 (by decide +kernel) (by decide +kernel), wm 228 (by decide +kernel) (by decide +kernel)⟩
theorem l_5_69 : LV "WhileSaltMelts" 69 m_J0_charAt_5068e := ⟨wm 232 (by decide +kernel) (by decide +kernel), wm 233 (by decide +kernel) (by decide +kernel), wm 234 (by decide +kernel) (by decide +kernel)⟩
theorem l_J0_492 : LV "java/lang/String" 492 m_J0_isLatin1_aae02 := ⟨wm 236 (by decide +kernel) (by decide +kernel), wm 237 (by decide +kernel) (by decide +kernel), wm 238 (by decide +kernel) (by decide +kernel)⟩
theorem l_J0_495 : LTS "java/lang/String" 495 m_J1_charAt_3b067 := ⟨wm 240 (by decide +kernel) (by decide +kernel), wm 241 (by decide +kernel) (by decide +kernel)⟩
theorem l_J1_9 : LTS "java/lang/StringLatin1" 9 m_J0_checkIndex_df160 := ⟨wm 243 (by decide +kernel) (by decide +kernel), wm 244 (by decide +kernel) (by decide +kernel)⟩
theorem l_J0_1059 : LTS "java/lang/String" 1059 m_J3_checkIndex_8e157 := ⟨wm 248 (by decide +kernel) (by decide +kernel), wm 249 (by decide +kernel) (by decide +kernel)⟩
theorem l_J0_498 : LTS "java/lang/String" 498 m_J2_charAt_3b067 := ⟨wm 251 (by decide +kernel) (by decide +kernel), wm 252 (by decide +kernel) (by decide +kernel)⟩
theorem l_J2_67 : LTS "java/lang/StringUTF16" 67 m_J2_checkIndex_2214a := ⟨wm 254 (by decide +kernel) (by decide +kernel), wm 255 (by decide +kernel) (by decide +kernel)⟩
theorem l_J2_48 : LTS "java/lang/StringUTF16" 48 m_J2_length_9d52b := ⟨wm 257 (by decide +kernel) (by decide +kernel), wm 258 (by decide +kernel) (by decide +kernel)⟩
theorem l_J2_414 : LTS "java/lang/StringUTF16" 414 m_J0_checkIndex_df160 := ⟨wm 260 (by decide +kernel) (by decide +kernel), wm 244 (by decide +kernel) (by decide +kernel)⟩
theorem l_J2_71 : LTS "java/lang/StringUTF16" 71 m_J2_getChar_3b067 := ⟨wm 261 (by decide +kernel) (by decide +kernel), wm 262 (by decide +kernel) (by decide +kernel)⟩
theorem l_5_73 : LV "WhileSaltMelts" 73 m_3_readTable := ⟨wm 270 (by decide +kernel) (by decide +kernel), wm 271 (by decide +kernel) (by decide +kernel), wm 272 (by decide +kernel) (by decide +kernel)⟩
theorem l_3_15 : LV "WhileSaltMelts$Reader" 15 m_4_clear := ⟨wm 274 (by decide +kernel) (by decide +kernel), wm 275 (by decide +kernel) (by decide +kernel), wm 276 (by decide +kernel) (by decide +kernel)⟩
theorem l_3_20 : LV "WhileSaltMelts$Reader" 20 m_3_readItem := ⟨wm 278 (by decide +kernel) (by decide +kernel), wm 280 (by decide +kernel) (by decide +kernel), wp 0 (by decide +kernel) (by decide +kernel)⟩
theorem l_3_35 : LTS "WhileSaltMelts$Reader" 35 m_J9_min_7cf53 := ⟨wm 282 (by decide +kernel) (by decide +kernel), wm 283 (by decide +kernel) (by decide +kernel)⟩
theorem l_3_41 : LTS "WhileSaltMelts$Reader" 41 m_3_isFigure := ⟨wm 285 (by decide +kernel) (by decide +kernel), wm 286 (by decide +kernel) (by decide +kernel)⟩
theorem l_3_31 : LV "WhileSaltMelts$Reader" 31 m_4_add := ⟨wm 288 (by decide +kernel) (by decide +kernel), wm 289 (by decide +kernel) (by decide +kernel), wm 290 (by decide +kernel) (by decide +kernel)⟩
theorem l_4_52 : LV "WhileSaltMelts$Table" 52 m_4_addPerson := ⟨wm 292 (by decide +kernel) (by decide +kernel), wm 294 (by decide +kernel) (by decide +kernel), wp 1 (by decide +kernel) (by decide +kernel)⟩
theorem l_4_56 : LV "WhileSaltMelts$Table" 56 m_4_addGrain := ⟨wm 296 (by decide +kernel) (by decide +kernel), wm 298 (by decide +kernel) (by decide +kernel), wp 2 (by decide +kernel) (by decide +kernel)⟩
theorem l_4_59 : LV "WhileSaltMelts$Table" 59 m_4_addSaying := ⟨wm 300 (by decide +kernel) (by decide +kernel), wm 302 (by decide +kernel) (by decide +kernel), wp 3 (by decide +kernel) (by decide +kernel)⟩
theorem l_4_63 : LV "WhileSaltMelts$Table" 63 m_4_setWindow := ⟨wm 304 (by decide +kernel) (by decide +kernel), wm 306 (by decide +kernel) (by decide +kernel), wp 4 (by decide +kernel) (by decide +kernel)⟩
theorem l_4_66 : LV "WhileSaltMelts$Table" 66 m_4_addDish := ⟨wm 308 (by decide +kernel) (by decide +kernel), wm 310 (by decide +kernel) (by decide +kernel), wp 5 (by decide +kernel) (by decide +kernel)⟩
theorem l_5_77 : LV "WhileSaltMelts" 77 m_0_begin := ⟨wm 312 (by decide +kernel) (by decide +kernel), wm 313 (by decide +kernel) (by decide +kernel), wm 314 (by decide +kernel) (by decide +kernel)⟩
theorem f_5_9 : FL "WhileSaltMelts" 9 5 0 := ⟨_, rfl, by decide +kernel, wm 316 (by decide +kernel) (by decide +kernel)⟩
theorem f_5_81 : FL "WhileSaltMelts" 81 5 1 := ⟨_, rfl, by decide +kernel, wm 317 (by decide +kernel) (by decide +kernel)⟩
theorem f_5_16 : FL "WhileSaltMelts" 16 5 2 := ⟨_, rfl, by decide +kernel, wm 318 (by decide +kernel) (by decide +kernel)⟩
theorem f_5_23 : FL "WhileSaltMelts" 23 5 3 := ⟨_, rfl, by decide +kernel, wm 319 (by decide +kernel) (by decide +kernel)⟩
theorem f_5_27 : FL "WhileSaltMelts" 27 5 4 := ⟨_, rfl, by decide +kernel, wm 320 (by decide +kernel) (by decide +kernel)⟩
theorem f_5_33 : FL "WhileSaltMelts" 33 5 5 := ⟨_, rfl, by decide +kernel, wm 321 (by decide +kernel) (by decide +kernel)⟩
theorem f_5_37 : FL "WhileSaltMelts" 37 5 6 := ⟨_, rfl, by decide +kernel, wm 322 (by decide +kernel) (by decide +kernel)⟩
theorem f_5_40 : FL "WhileSaltMelts" 40 5 7 := ⟨_, rfl, by decide +kernel, wm 323 (by decide +kernel) (by decide +kernel)⟩
theorem f_5_91 : FL "WhileSaltMelts" 91 5 8 := ⟨_, rfl, by decide +kernel, wm 324 (by decide +kernel) (by decide +kernel)⟩
theorem f_5_44 : FL "WhileSaltMelts" 44 5 9 := ⟨_, rfl, by decide +kernel, wm 325 (by decide +kernel) (by decide +kernel)⟩
theorem f_5_94 : FL "WhileSaltMelts" 94 5 10 := ⟨_, rfl, by decide +kernel, wm 326 (by decide +kernel) (by decide +kernel)⟩
theorem f_5_50 : FL "WhileSaltMelts" 50 5 11 := ⟨_, rfl, by decide +kernel, wm 327 (by decide +kernel) (by decide +kernel)⟩
theorem f_5_57 : FL "WhileSaltMelts" 57 5 12 := ⟨_, rfl, by decide +kernel, wm 328 (by decide +kernel) (by decide +kernel)⟩
theorem l_L_15 : LV "WhileSaltMeltsLaw" 15 m_5_write := ⟨wm 356 (by decide +kernel) (by decide +kernel), wm 357 (by decide +kernel) (by decide +kernel), wm 358 (by decide +kernel) (by decide +kernel)⟩
theorem l_L_20 : LV "WhileSaltMeltsLaw" 20 m_5_wipe := ⟨wm 360 (by decide +kernel) (by decide +kernel), wm 361 (by decide +kernel) (by decide +kernel), wm 362 (by decide +kernel) (by decide +kernel)⟩
theorem l_L_25 : LV "WhileSaltMeltsLaw" 25 m_5_fault := ⟨wm 364 (by decide +kernel) (by decide +kernel), wm 365 (by decide +kernel) (by decide +kernel), wm 366 (by decide +kernel) (by decide +kernel)⟩
theorem l_L_29 : LV "WhileSaltMeltsLaw" 29 m_5_lay := ⟨wm 368 (by decide +kernel) (by decide +kernel), wm 369 (by decide +kernel) (by decide +kernel), wm 370 (by decide +kernel) (by decide +kernel)⟩
theorem l_L_33 : LV "WhileSaltMeltsLaw" 33 m_5_person := ⟨wm 372 (by decide +kernel) (by decide +kernel), wm 373 (by decide +kernel) (by decide +kernel), wm 374 (by decide +kernel) (by decide +kernel)⟩
theorem l_5_97 : LV "WhileSaltMelts" 97 m_5_isPerson := ⟨wm 376 (by decide +kernel) (by decide +kernel), wm 378 (by decide +kernel) (by decide +kernel), wp 6 (by decide +kernel) (by decide +kernel)⟩
theorem l_L_38 : LV "WhileSaltMeltsLaw" 38 m_5_saying := ⟨wm 380 (by decide +kernel) (by decide +kernel), wm 381 (by decide +kernel) (by decide +kernel), wm 382 (by decide +kernel) (by decide +kernel)⟩
theorem l_5_111 : LV "WhileSaltMelts" 111 m_5_isSaying := ⟨wm 384 (by decide +kernel) (by decide +kernel), wm 386 (by decide +kernel) (by decide +kernel), wp 7 (by decide +kernel) (by decide +kernel)⟩
theorem l_5_129 : LTS "WhileSaltMelts" 129 m_5_isIn := ⟨wm 388 (by decide +kernel) (by decide +kernel), wm 389 (by decide +kernel) (by decide +kernel)⟩
theorem l_L_42 : LV "WhileSaltMeltsLaw" 42 m_5_melts := ⟨wm 391 (by decide +kernel) (by decide +kernel), wm 392 (by decide +kernel) (by decide +kernel), wm 393 (by decide +kernel) (by decide +kernel)⟩
theorem l_5_136 : LV "WhileSaltMelts" 136 m_5_isGrain := ⟨wm 395 (by decide +kernel) (by decide +kernel), wm 397 (by decide +kernel) (by decide +kernel), wp 8 (by decide +kernel) (by decide +kernel)⟩
theorem l_L_46 : LV "WhileSaltMeltsLaw" 46 m_5_take := ⟨wm 399 (by decide +kernel) (by decide +kernel), wm 400 (by decide +kernel) (by decide +kernel), wm 401 (by decide +kernel) (by decide +kernel)⟩
theorem l_5_142 : LV "WhileSaltMelts" 142 m_0_aGrainMelts := ⟨wm 403 (by decide +kernel) (by decide +kernel), wm 404 (by decide +kernel) (by decide +kernel), wm 405 (by decide +kernel) (by decide +kernel)⟩
theorem l_5_152 : LV "WhileSaltMelts" 152 m_5_remember := ⟨wm 407 (by decide +kernel) (by decide +kernel), wm 409 (by decide +kernel) (by decide +kernel), wp 9 (by decide +kernel) (by decide +kernel)⟩
theorem l_5_174 : LV "WhileSaltMelts" 174 m_0_copyFrom := ⟨wm 411 (by decide +kernel) (by decide +kernel), wm 412 (by decide +kernel) (by decide +kernel), wm 413 (by decide +kernel) (by decide +kernel)⟩
theorem l_L_50 : LV "WhileSaltMeltsLaw" 50 m_5_say := ⟨wm 415 (by decide +kernel) (by decide +kernel), wm 416 (by decide +kernel) (by decide +kernel), wm 417 (by decide +kernel) (by decide +kernel)⟩
theorem l_5_161 : LV "WhileSaltMelts" 161 m_5_canBeSaid := ⟨wm 419 (by decide +kernel) (by decide +kernel), wm 421 (by decide +kernel) (by decide +kernel), wp 10 (by decide +kernel) (by decide +kernel)⟩
theorem l_5_236 : LV "WhileSaltMelts" 236 m_5_mayAnswerNow := ⟨wm 423 (by decide +kernel) (by decide +kernel), wm 425 (by decide +kernel) (by decide +kernel), wp 11 (by decide +kernel) (by decide +kernel)⟩
theorem l_L_55 : LV "WhileSaltMeltsLaw" 55 m_5_pass := ⟨wm 427 (by decide +kernel) (by decide +kernel), wm 428 (by decide +kernel) (by decide +kernel), wm 429 (by decide +kernel) (by decide +kernel)⟩
theorem l_L_59 : LV "WhileSaltMeltsLaw" 59 m_5_eat := ⟨wm 431 (by decide +kernel) (by decide +kernel), wm 432 (by decide +kernel) (by decide +kernel), wm 433 (by decide +kernel) (by decide +kernel)⟩
theorem l_5_164 : LV "WhileSaltMelts" 164 m_5_isDish := ⟨wm 435 (by decide +kernel) (by decide +kernel), wm 437 (by decide +kernel) (by decide +kernel), wp 12 (by decide +kernel) (by decide +kernel)⟩
theorem l_5_170 : LV "WhileSaltMelts" 170 m_0_eatDish := ⟨wm 439 (by decide +kernel) (by decide +kernel), wm 440 (by decide +kernel) (by decide +kernel), wm 441 (by decide +kernel) (by decide +kernel)⟩
theorem l_0_55 : LTS "WhileSaltMelts$Evening" 55 m_J9_min_7cf53 := ⟨wm 443 (by decide +kernel) (by decide +kernel), wm 283 (by decide +kernel) (by decide +kernel)⟩
theorem l_0_61 : LTS "WhileSaltMelts$Evening" 61 m_J9_max_7cf53 := ⟨wm 444 (by decide +kernel) (by decide +kernel), wm 445 (by decide +kernel) (by decide +kernel)⟩
theorem l_L_63 : LV "WhileSaltMeltsLaw" 63 m_5_undo := ⟨wm 447 (by decide +kernel) (by decide +kernel), wm 448 (by decide +kernel) (by decide +kernel), wm 449 (by decide +kernel) (by decide +kernel)⟩
theorem l_L_67 : LV "WhileSaltMeltsLaw" 67 m_5_best := ⟨wm 451 (by decide +kernel) (by decide +kernel), wm 452 (by decide +kernel) (by decide +kernel), wm 453 (by decide +kernel) (by decide +kernel)⟩
theorem l_5_178 : LV "WhileSaltMelts" 178 m_4_bestSet := ⟨wm 455 (by decide +kernel) (by decide +kernel), wm 456 (by decide +kernel) (by decide +kernel), wm 457 (by decide +kernel) (by decide +kernel)⟩
theorem l_4_70 : LV "WhileSaltMelts$Table" 70 m_4_sayingsOf := ⟨wm 459 (by decide +kernel) (by decide +kernel), wm 460 (by decide +kernel) (by decide +kernel), wm 461 (by decide +kernel) (by decide +kernel)⟩
theorem l_4_74 : LV "WhileSaltMelts$Table" 74 m_4_secondsOf := ⟨wm 463 (by decide +kernel) (by decide +kernel), wm 464 (by decide +kernel) (by decide +kernel), wm 465 (by decide +kernel) (by decide +kernel)⟩
theorem l_4_80 : LTS "WhileSaltMelts$Table" 80 m_4_sumOf := ⟨wm 467 (by decide +kernel) (by decide +kernel), wm 468 (by decide +kernel) (by decide +kernel)⟩
theorem l_4_84 : LSN "WhileSaltMelts$Table" 84 m_5_isIn := ⟨⟨"WhileSaltMelts", List.mem_of_getElem? (i := 5) (by decide +kernel)⟩, wm 389 (by decide +kernel) (by decide +kernel)⟩
theorem l_4_77 : LV "WhileSaltMelts$Table" 77 m_4_worthOf := ⟨wm 471 (by decide +kernel) (by decide +kernel), wm 472 (by decide +kernel) (by decide +kernel), wm 473 (by decide +kernel) (by decide +kernel)⟩
theorem l_5_182 : LV "WhileSaltMelts" 182 m_4_worthOf := ⟨wm 475 (by decide +kernel) (by decide +kernel), wm 472 (by decide +kernel) (by decide +kernel), wm 473 (by decide +kernel) (by decide +kernel)⟩
theorem l_L_72 : LV "WhileSaltMeltsLaw" 72 m_5_match := ⟨wm 476 (by decide +kernel) (by decide +kernel), wm 477 (by decide +kernel) (by decide +kernel), wm 478 (by decide +kernel) (by decide +kernel)⟩
theorem l_5_186 : LV "WhileSaltMelts" 186 m_1_give := ⟨wm 480 (by decide +kernel) (by decide +kernel), wm 481 (by decide +kernel) (by decide +kernel), wm 482 (by decide +kernel) (by decide +kernel)⟩
theorem l_1_29 : LTS "WhileSaltMelts$Giving" 29 m_1_grainsFor := ⟨wm 484 (by decide +kernel) (by decide +kernel), wm 485 (by decide +kernel) (by decide +kernel)⟩
theorem l_1_46 : LSN "WhileSaltMelts$Giving" 46 m_5_isIn := ⟨⟨"WhileSaltMelts", List.mem_of_getElem? (i := 6) (by decide +kernel)⟩, wm 389 (by decide +kernel) (by decide +kernel)⟩
theorem l_1_33 : LV "WhileSaltMelts$Giving" 33 m_1_mostFrom := ⟨wm 488 (by decide +kernel) (by decide +kernel), wm 490 (by decide +kernel) (by decide +kernel), wp 13 (by decide +kernel) (by decide +kernel)⟩
theorem l_1_65 : LTS "WhileSaltMelts$Giving" 65 m_J9_max_7cf53 := ⟨wm 492 (by decide +kernel) (by decide +kernel), wm 445 (by decide +kernel) (by decide +kernel)⟩
theorem l_1_37 : LV "WhileSaltMelts$Giving" 37 m_1_giveFirst := ⟨wm 493 (by decide +kernel) (by decide +kernel), wm 495 (by decide +kernel) (by decide +kernel), wp 14 (by decide +kernel) (by decide +kernel)⟩
theorem l_1_77 : LV "WhileSaltMelts$Giving" 77 m_1_firstGrain := ⟨wm 497 (by decide +kernel) (by decide +kernel), wm 499 (by decide +kernel) (by decide +kernel), wp 15 (by decide +kernel) (by decide +kernel)⟩
theorem l_L_76 : LV "WhileSaltMeltsLaw" 76 m_5_soonest := ⟨wm 501 (by decide +kernel) (by decide +kernel), wm 502 (by decide +kernel) (by decide +kernel), wm 503 (by decide +kernel) (by decide +kernel)⟩
theorem l_5_196 : LV "WhileSaltMelts" 196 m_5_findOrder := ⟨wm 505 (by decide +kernel) (by decide +kernel), wm 507 (by decide +kernel) (by decide +kernel), wp 16 (by decide +kernel) (by decide +kernel)⟩
theorem l_5_242 : LV "WhileSaltMelts" 242 m_2_find := ⟨wm 509 (by decide +kernel) (by decide +kernel), wm 510 (by decide +kernel) (by decide +kernel), wm 511 (by decide +kernel) (by decide +kernel)⟩
theorem l_2_36 : LTS "WhileSaltMelts$Order" 36 m_J6_bitCount_0f7a4 := ⟨wm 513 (by decide +kernel) (by decide +kernel), wm 514 (by decide +kernel) (by decide +kernel)⟩
theorem k_J6_265 : Cond.constant "java/lang/Integer" 265 1431655765 ∈ WS := wm 516 (by decide +kernel) (by decide +kernel)
theorem k_J6_266 : Cond.constant "java/lang/Integer" 266 858993459 ∈ WS := wm 517 (by decide +kernel) (by decide +kernel)
theorem k_J6_267 : Cond.constant "java/lang/Integer" 267 252645135 ∈ WS := wm 518 (by decide +kernel) (by decide +kernel)
theorem k_2_45 : Cond.constant "WhileSaltMelts$Order" 45 1000000 ∈ WS := wm 519 (by decide +kernel) (by decide +kernel)
theorem l_2_68 : LV "WhileSaltMelts$Order" 68 m_2_freeAll := ⟨wm 520 (by decide +kernel) (by decide +kernel), wm 522 (by decide +kernel) (by decide +kernel), wp 17 (by decide +kernel) (by decide +kernel)⟩
theorem l_2_71 : LTS "WhileSaltMelts$Order" 71 m_2_tryFrom := ⟨wm 524 (by decide +kernel) (by decide +kernel), wm 525 (by decide +kernel) (by decide +kernel)⟩
theorem l_2_75 : LV "WhileSaltMelts$Order" 75 m_2_keepTrial := ⟨wm 527 (by decide +kernel) (by decide +kernel), wm 529 (by decide +kernel) (by decide +kernel), wp 18 (by decide +kernel) (by decide +kernel)⟩
theorem l_2_79 : LV "WhileSaltMelts$Order" 79 m_2_mayBeNext := ⟨wm 531 (by decide +kernel) (by decide +kernel), wm 533 (by decide +kernel) (by decide +kernel), wp 19 (by decide +kernel) (by decide +kernel)⟩
theorem l_2_99 : LSN "WhileSaltMelts$Order" 99 m_5_isIn := ⟨⟨"WhileSaltMelts", List.mem_of_getElem? (i := 7) (by decide +kernel)⟩, wm 389 (by decide +kernel) (by decide +kernel)⟩
theorem l_2_83 : LV "WhileSaltMelts$Order" 83 m_2_endBehind := ⟨wm 536 (by decide +kernel) (by decide +kernel), wm 538 (by decide +kernel) (by decide +kernel), wp 20 (by decide +kernel) (by decide +kernel)⟩
theorem l_2_87 : LTS "WhileSaltMelts$Order" 87 m_J9_max_7cf53 := ⟨wm 540 (by decide +kernel) (by decide +kernel), wm 445 (by decide +kernel) (by decide +kernel)⟩
theorem l_L_80 : LV "WhileSaltMeltsLaw" 80 m_5_late := ⟨wm 541 (by decide +kernel) (by decide +kernel), wm 542 (by decide +kernel) (by decide +kernel), wm 543 (by decide +kernel) (by decide +kernel)⟩
theorem l_5_208 : LV "WhileSaltMelts" 208 m_2_countLate := ⟨wm 545 (by decide +kernel) (by decide +kernel), wm 546 (by decide +kernel) (by decide +kernel), wm 547 (by decide +kernel) (by decide +kernel)⟩
theorem l_L_84 : LV "WhileSaltMeltsLaw" 84 m_5_dish := ⟨wm 549 (by decide +kernel) (by decide +kernel), wm 550 (by decide +kernel) (by decide +kernel), wm 551 (by decide +kernel) (by decide +kernel)⟩
theorem l_5_212 : LV "WhileSaltMelts" 212 m_5_leadOf := ⟨wm 553 (by decide +kernel) (by decide +kernel), wm 555 (by decide +kernel) (by decide +kernel), wp 21 (by decide +kernel) (by decide +kernel)⟩
theorem l_5_246 : LV "WhileSaltMelts" 246 m_4_sayingsOf := ⟨wm 557 (by decide +kernel) (by decide +kernel), wm 460 (by decide +kernel) (by decide +kernel), wm 461 (by decide +kernel) (by decide +kernel)⟩
theorem l_L_88 : LV "WhileSaltMeltsLaw" 88 m_5_spoke := ⟨wm 558 (by decide +kernel) (by decide +kernel), wm 559 (by decide +kernel) (by decide +kernel), wm 560 (by decide +kernel) (by decide +kernel)⟩
theorem l_5_219 : LV "WhileSaltMelts" 219 m_4_sizeOf := ⟨wm 562 (by decide +kernel) (by decide +kernel), wm 563 (by decide +kernel) (by decide +kernel), wm 564 (by decide +kernel) (by decide +kernel)⟩
theorem l_L_92 : LV "WhileSaltMeltsLaw" 92 m_5_winter := ⟨wm 566 (by decide +kernel) (by decide +kernel), wm 567 (by decide +kernel) (by decide +kernel), wm 568 (by decide +kernel) (by decide +kernel)⟩
theorem l_5_223 : LTS "WhileSaltMelts" 223 m_5_drawOf := ⟨wm 570 (by decide +kernel) (by decide +kernel), wm 571 (by decide +kernel) (by decide +kernel)⟩
theorem k_5_249 : Cond.constantLong "WhileSaltMelts" 249 7919 ∈ WS := wm 573 (by decide +kernel) (by decide +kernel)
theorem k_5_251 : Cond.constantLong "WhileSaltMelts" 251 6151 ∈ WS := wm 574 (by decide +kernel) (by decide +kernel)
theorem k_5_253 : Cond.constantLong "WhileSaltMelts" 253 65521 ∈ WS := wm 575 (by decide +kernel) (by decide +kernel)
theorem l_5_227 : LTS "WhileSaltMelts" 227 m_5_remainder := ⟨wm 576 (by decide +kernel) (by decide +kernel), wm 577 (by decide +kernel) (by decide +kernel)⟩
theorem l_5_230 : LV "WhileSaltMelts" 230 m_4_secondsOf := ⟨wm 579 (by decide +kernel) (by decide +kernel), wm 464 (by decide +kernel) (by decide +kernel), wm 465 (by decide +kernel) (by decide +kernel)⟩
theorem l_L_96 : LV "WhileSaltMeltsLaw" 96 m_5_keep := ⟨wm 580 (by decide +kernel) (by decide +kernel), wm 581 (by decide +kernel) (by decide +kernel), wm 582 (by decide +kernel) (by decide +kernel)⟩
theorem l_L_100 : LV "WhileSaltMeltsLaw" 100 m_5_back := ⟨wm 584 (by decide +kernel) (by decide +kernel), wm 585 (by decide +kernel) (by decide +kernel), wm 586 (by decide +kernel) (by decide +kernel)⟩
theorem l_L_104 : LV "WhileSaltMeltsLaw" 104 m_5_count := ⟨wm 588 (by decide +kernel) (by decide +kernel), wm 589 (by decide +kernel) (by decide +kernel), wm 590 (by decide +kernel) (by decide +kernel)⟩
theorem l_L_12 : LI "WhileSaltMeltsLaw" 12 m_6_init := ⟨wm 594 (by decide +kernel) (by decide +kernel), wm 595 (by decide +kernel) (by decide +kernel)⟩
theorem l_6_88 : LV "WhileSaltMeltsModel" 88 m_6_begins := ⟨wm 598 (by decide +kernel) (by decide +kernel), wm 600 (by decide +kernel) (by decide +kernel), wp 22 (by decide +kernel) (by decide +kernel)⟩
theorem l_6_101 : LV "WhileSaltMeltsModel" 101 m_6_tells := ⟨wm 602 (by decide +kernel) (by decide +kernel), wm 604 (by decide +kernel) (by decide +kernel), wp 23 (by decide +kernel) (by decide +kernel)⟩
theorem l_6_105 : LV "WhileSaltMeltsModel" 105 m_6_lays := ⟨wm 606 (by decide +kernel) (by decide +kernel), wm 608 (by decide +kernel) (by decide +kernel), wp 24 (by decide +kernel) (by decide +kernel)⟩
theorem f_6_108 : FL "WhileSaltMeltsModel" 108 6 0 := ⟨_, rfl, by decide +kernel, wm 610 (by decide +kernel) (by decide +kernel)⟩
theorem f_6_115 : FL "WhileSaltMeltsModel" 115 6 1 := ⟨_, rfl, by decide +kernel, wm 611 (by decide +kernel) (by decide +kernel)⟩
theorem f_6_118 : FL "WhileSaltMeltsModel" 118 6 2 := ⟨_, rfl, by decide +kernel, wm 612 (by decide +kernel) (by decide +kernel)⟩
theorem f_6_165 : FL "WhileSaltMeltsModel" 165 6 3 := ⟨_, rfl, by decide +kernel, wm 613 (by decide +kernel) (by decide +kernel)⟩
theorem f_6_168 : FL "WhileSaltMeltsModel" 168 6 4 := ⟨_, rfl, by decide +kernel, wm 614 (by decide +kernel) (by decide +kernel)⟩
theorem f_6_7 : FL "WhileSaltMeltsModel" 7 6 5 := ⟨_, rfl, by decide +kernel, wm 615 (by decide +kernel) (by decide +kernel)⟩
theorem f_6_13 : FL "WhileSaltMeltsModel" 13 6 6 := ⟨_, rfl, by decide +kernel, wm 616 (by decide +kernel) (by decide +kernel)⟩
theorem f_6_16 : FL "WhileSaltMeltsModel" 16 6 7 := ⟨_, rfl, by decide +kernel, wm 617 (by decide +kernel) (by decide +kernel)⟩
theorem f_6_19 : FL "WhileSaltMeltsModel" 19 6 8 := ⟨_, rfl, by decide +kernel, wm 618 (by decide +kernel) (by decide +kernel)⟩
theorem f_6_22 : FL "WhileSaltMeltsModel" 22 6 9 := ⟨_, rfl, by decide +kernel, wm 619 (by decide +kernel) (by decide +kernel)⟩
theorem f_6_25 : FL "WhileSaltMeltsModel" 25 6 10 := ⟨_, rfl, by decide +kernel, wm 620 (by decide +kernel) (by decide +kernel)⟩
theorem f_6_28 : FL "WhileSaltMeltsModel" 28 6 11 := ⟨_, rfl, by decide +kernel, wm 621 (by decide +kernel) (by decide +kernel)⟩
theorem f_6_31 : FL "WhileSaltMeltsModel" 31 6 12 := ⟨_, rfl, by decide +kernel, wm 622 (by decide +kernel) (by decide +kernel)⟩
theorem f_6_34 : FL "WhileSaltMeltsModel" 34 6 13 := ⟨_, rfl, by decide +kernel, wm 623 (by decide +kernel) (by decide +kernel)⟩
theorem f_6_37 : FL "WhileSaltMeltsModel" 37 6 14 := ⟨_, rfl, by decide +kernel, wm 624 (by decide +kernel) (by decide +kernel)⟩
theorem f_6_171 : FL "WhileSaltMeltsModel" 171 6 15 := ⟨_, rfl, by decide +kernel, wm 625 (by decide +kernel) (by decide +kernel)⟩
theorem f_6_40 : FL "WhileSaltMeltsModel" 40 6 16 := ⟨_, rfl, by decide +kernel, wm 626 (by decide +kernel) (by decide +kernel)⟩
theorem f_6_174 : FL "WhileSaltMeltsModel" 174 6 17 := ⟨_, rfl, by decide +kernel, wm 627 (by decide +kernel) (by decide +kernel)⟩
theorem f_6_43 : FL "WhileSaltMeltsModel" 43 6 18 := ⟨_, rfl, by decide +kernel, wm 628 (by decide +kernel) (by decide +kernel)⟩
theorem f_6_121 : FL "WhileSaltMeltsModel" 121 6 19 := ⟨_, rfl, by decide +kernel, wm 629 (by decide +kernel) (by decide +kernel)⟩
theorem f_6_126 : FL "WhileSaltMeltsModel" 126 6 20 := ⟨_, rfl, by decide +kernel, wm 630 (by decide +kernel) (by decide +kernel)⟩
theorem f_6_91 : FL "WhileSaltMeltsModel" 91 6 21 := ⟨_, rfl, by decide +kernel, wm 631 (by decide +kernel) (by decide +kernel)⟩
theorem f_6_95 : FL "WhileSaltMeltsModel" 95 6 22 := ⟨_, rfl, by decide +kernel, wm 632 (by decide +kernel) (by decide +kernel)⟩
theorem f_6_98 : FL "WhileSaltMeltsModel" 98 6 23 := ⟨_, rfl, by decide +kernel, wm 633 (by decide +kernel) (by decide +kernel)⟩
theorem f_6_129 : FL "WhileSaltMeltsModel" 129 6 24 := ⟨_, rfl, by decide +kernel, wm 634 (by decide +kernel) (by decide +kernel)⟩
theorem f_6_132 : FL "WhileSaltMeltsModel" 132 6 25 := ⟨_, rfl, by decide +kernel, wm 635 (by decide +kernel) (by decide +kernel)⟩
theorem f_6_46 : FL "WhileSaltMeltsModel" 46 6 26 := ⟨_, rfl, by decide +kernel, wm 636 (by decide +kernel) (by decide +kernel)⟩
theorem f_6_49 : FL "WhileSaltMeltsModel" 49 6 27 := ⟨_, rfl, by decide +kernel, wm 637 (by decide +kernel) (by decide +kernel)⟩
theorem f_6_52 : FL "WhileSaltMeltsModel" 52 6 28 := ⟨_, rfl, by decide +kernel, wm 638 (by decide +kernel) (by decide +kernel)⟩
theorem f_6_55 : FL "WhileSaltMeltsModel" 55 6 29 := ⟨_, rfl, by decide +kernel, wm 639 (by decide +kernel) (by decide +kernel)⟩
theorem f_6_58 : FL "WhileSaltMeltsModel" 58 6 30 := ⟨_, rfl, by decide +kernel, wm 640 (by decide +kernel) (by decide +kernel)⟩
theorem f_6_61 : FL "WhileSaltMeltsModel" 61 6 31 := ⟨_, rfl, by decide +kernel, wm 641 (by decide +kernel) (by decide +kernel)⟩
theorem f_6_64 : FL "WhileSaltMeltsModel" 64 6 32 := ⟨_, rfl, by decide +kernel, wm 642 (by decide +kernel) (by decide +kernel)⟩
theorem f_6_67 : FL "WhileSaltMeltsModel" 67 6 33 := ⟨_, rfl, by decide +kernel, wm 643 (by decide +kernel) (by decide +kernel)⟩
theorem f_6_207 : FL "WhileSaltMeltsModel" 207 6 34 := ⟨_, rfl, by decide +kernel, wm 644 (by decide +kernel) (by decide +kernel)⟩
theorem f_6_210 : FL "WhileSaltMeltsModel" 210 6 35 := ⟨_, rfl, by decide +kernel, wm 645 (by decide +kernel) (by decide +kernel)⟩
theorem f_6_213 : FL "WhileSaltMeltsModel" 213 6 36 := ⟨_, rfl, by decide +kernel, wm 646 (by decide +kernel) (by decide +kernel)⟩
theorem f_6_70 : FL "WhileSaltMeltsModel" 70 6 37 := ⟨_, rfl, by decide +kernel, wm 647 (by decide +kernel) (by decide +kernel)⟩
theorem f_6_73 : FL "WhileSaltMeltsModel" 73 6 38 := ⟨_, rfl, by decide +kernel, wm 648 (by decide +kernel) (by decide +kernel)⟩
theorem f_6_76 : FL "WhileSaltMeltsModel" 76 6 39 := ⟨_, rfl, by decide +kernel, wm 649 (by decide +kernel) (by decide +kernel)⟩
theorem f_6_79 : FL "WhileSaltMeltsModel" 79 6 40 := ⟨_, rfl, by decide +kernel, wm 650 (by decide +kernel) (by decide +kernel)⟩
theorem f_6_82 : FL "WhileSaltMeltsModel" 82 6 41 := ⟨_, rfl, by decide +kernel, wm 651 (by decide +kernel) (by decide +kernel)⟩
theorem f_6_85 : FL "WhileSaltMeltsModel" 85 6 42 := ⟨_, rfl, by decide +kernel, wm 652 (by decide +kernel) (by decide +kernel)⟩
theorem f_6_236 : FL "WhileSaltMeltsModel" 236 6 43 := ⟨_, rfl, by decide +kernel, wm 653 (by decide +kernel) (by decide +kernel)⟩
theorem l_L_19 : LV "WhileSaltMeltsLaw" 19 m_6_write := ⟨wm 743 (by decide +kernel) (by decide +kernel), wm 744 (by decide +kernel) (by decide +kernel), wm 745 (by decide +kernel) (by decide +kernel)⟩
theorem l_6_111 : LTS "WhileSaltMeltsModel" 111 m_6_in := ⟨wm 747 (by decide +kernel) (by decide +kernel), wm 748 (by decide +kernel) (by decide +kernel)⟩
theorem k_6_124 : Cond.constantLong "WhileSaltMeltsModel" 124 255 ∈ WS := wm 750 (by decide +kernel) (by decide +kernel)
theorem l_L_24 : LV "WhileSaltMeltsLaw" 24 m_6_wipe := ⟨wm 751 (by decide +kernel) (by decide +kernel), wm 752 (by decide +kernel) (by decide +kernel), wm 753 (by decide +kernel) (by decide +kernel)⟩
theorem l_L_28 : LV "WhileSaltMeltsLaw" 28 m_6_fault := ⟨wm 755 (by decide +kernel) (by decide +kernel), wm 756 (by decide +kernel) (by decide +kernel), wm 757 (by decide +kernel) (by decide +kernel)⟩
theorem l_6_162 : LV "WhileSaltMeltsModel" 162 m_6_findFault := ⟨wm 759 (by decide +kernel) (by decide +kernel), wm 761 (by decide +kernel) (by decide +kernel), wp 25 (by decide +kernel) (by decide +kernel)⟩
theorem l_6_159 : LV "WhileSaltMeltsModel" 159 m_6_isItem := ⟨wm 763 (by decide +kernel) (by decide +kernel), wm 765 (by decide +kernel) (by decide +kernel), wp 26 (by decide +kernel) (by decide +kernel)⟩
theorem l_6_135 : LV "WhileSaltMeltsModel" 135 m_6_here := ⟨wm 767 (by decide +kernel) (by decide +kernel), wm 769 (by decide +kernel) (by decide +kernel), wp 27 (by decide +kernel) (by decide +kernel)⟩
theorem l_6_143 : LV "WhileSaltMeltsModel" 143 m_6_isPersonItem := ⟨wm 771 (by decide +kernel) (by decide +kernel), wm 773 (by decide +kernel) (by decide +kernel), wp 28 (by decide +kernel) (by decide +kernel)⟩
theorem l_6_139 : LV "WhileSaltMeltsModel" 139 m_6_number := ⟨wm 775 (by decide +kernel) (by decide +kernel), wm 777 (by decide +kernel) (by decide +kernel), wp 29 (by decide +kernel) (by decide +kernel)⟩
theorem l_6_147 : LV "WhileSaltMeltsModel" 147 m_6_isGrainItem := ⟨wm 779 (by decide +kernel) (by decide +kernel), wm 781 (by decide +kernel) (by decide +kernel), wp 30 (by decide +kernel) (by decide +kernel)⟩
theorem l_6_150 : LV "WhileSaltMeltsModel" 150 m_6_isSayingItem := ⟨wm 783 (by decide +kernel) (by decide +kernel), wm 785 (by decide +kernel) (by decide +kernel), wp 31 (by decide +kernel) (by decide +kernel)⟩
theorem l_6_153 : LV "WhileSaltMeltsModel" 153 m_6_isWaitItem := ⟨wm 787 (by decide +kernel) (by decide +kernel), wm 789 (by decide +kernel) (by decide +kernel), wp 32 (by decide +kernel) (by decide +kernel)⟩
theorem l_6_156 : LV "WhileSaltMeltsModel" 156 m_6_isDishItem := ⟨wm 791 (by decide +kernel) (by decide +kernel), wm 793 (by decide +kernel) (by decide +kernel), wp 33 (by decide +kernel) (by decide +kernel)⟩
theorem l_L_32 : LV "WhileSaltMeltsLaw" 32 m_6_lay := ⟨wm 795 (by decide +kernel) (by decide +kernel), wm 796 (by decide +kernel) (by decide +kernel), wm 797 (by decide +kernel) (by decide +kernel)⟩
theorem l_L_37 : LV "WhileSaltMeltsLaw" 37 m_6_person := ⟨wm 799 (by decide +kernel) (by decide +kernel), wm 800 (by decide +kernel) (by decide +kernel), wm 801 (by decide +kernel) (by decide +kernel)⟩
theorem l_6_181 : LV "WhileSaltMeltsModel" 181 m_6_isPerson := ⟨wm 803 (by decide +kernel) (by decide +kernel), wm 805 (by decide +kernel) (by decide +kernel), wp 34 (by decide +kernel) (by decide +kernel)⟩
theorem l_6_185 : LV "WhileSaltMeltsModel" 185 m_6_shareOf := ⟨wm 807 (by decide +kernel) (by decide +kernel), wm 809 (by decide +kernel) (by decide +kernel), wp 35 (by decide +kernel) (by decide +kernel)⟩
theorem l_6_177 : LTS "WhileSaltMeltsModel" 177 m_6_has := ⟨wm 811 (by decide +kernel) (by decide +kernel), wm 812 (by decide +kernel) (by decide +kernel)⟩
theorem l_L_41 : LV "WhileSaltMeltsLaw" 41 m_6_saying := ⟨wm 814 (by decide +kernel) (by decide +kernel), wm 815 (by decide +kernel) (by decide +kernel), wm 816 (by decide +kernel) (by decide +kernel)⟩
theorem l_6_188 : LV "WhileSaltMeltsModel" 188 m_6_isSaying := ⟨wm 818 (by decide +kernel) (by decide +kernel), wm 820 (by decide +kernel) (by decide +kernel), wp 36 (by decide +kernel) (by decide +kernel)⟩
theorem l_L_45 : LV "WhileSaltMeltsLaw" 45 m_6_melts := ⟨wm 822 (by decide +kernel) (by decide +kernel), wm 823 (by decide +kernel) (by decide +kernel), wm 824 (by decide +kernel) (by decide +kernel)⟩
theorem l_6_191 : LV "WhileSaltMeltsModel" 191 m_6_isGrain := ⟨wm 826 (by decide +kernel) (by decide +kernel), wm 828 (by decide +kernel) (by decide +kernel), wp 37 (by decide +kernel) (by decide +kernel)⟩
theorem l_L_49 : LV "WhileSaltMeltsLaw" 49 m_6_take := ⟨wm 830 (by decide +kernel) (by decide +kernel), wm 831 (by decide +kernel) (by decide +kernel), wm 832 (by decide +kernel) (by decide +kernel)⟩
theorem l_6_194 : LV "WhileSaltMeltsModel" 194 m_6_isMelting := ⟨wm 834 (by decide +kernel) (by decide +kernel), wm 836 (by decide +kernel) (by decide +kernel), wp 38 (by decide +kernel) (by decide +kernel)⟩
theorem l_6_197 : LV "WhileSaltMeltsModel" 197 m_6_remembers := ⟨wm 838 (by decide +kernel) (by decide +kernel), wm 840 (by decide +kernel) (by decide +kernel), wp 39 (by decide +kernel) (by decide +kernel)⟩
theorem l_L_54 : LV "WhileSaltMeltsLaw" 54 m_6_say := ⟨wm 842 (by decide +kernel) (by decide +kernel), wm 843 (by decide +kernel) (by decide +kernel), wm 844 (by decide +kernel) (by decide +kernel)⟩
theorem l_6_200 : LV "WhileSaltMeltsModel" 200 m_6_isInTime := ⟨wm 846 (by decide +kernel) (by decide +kernel), wm 848 (by decide +kernel) (by decide +kernel), wp 40 (by decide +kernel) (by decide +kernel)⟩
theorem l_L_58 : LV "WhileSaltMeltsLaw" 58 m_6_pass := ⟨wm 850 (by decide +kernel) (by decide +kernel), wm 851 (by decide +kernel) (by decide +kernel), wm 852 (by decide +kernel) (by decide +kernel)⟩
theorem l_L_62 : LV "WhileSaltMeltsLaw" 62 m_6_eat := ⟨wm 854 (by decide +kernel) (by decide +kernel), wm 855 (by decide +kernel) (by decide +kernel), wm 856 (by decide +kernel) (by decide +kernel)⟩
theorem l_6_203 : LTS "WhileSaltMeltsModel" 203 m_6_dryBy := ⟨wm 858 (by decide +kernel) (by decide +kernel), wm 859 (by decide +kernel) (by decide +kernel)⟩
theorem l_L_66 : LV "WhileSaltMeltsLaw" 66 m_6_undo := ⟨wm 861 (by decide +kernel) (by decide +kernel), wm 862 (by decide +kernel) (by decide +kernel), wm 863 (by decide +kernel) (by decide +kernel)⟩
theorem l_L_71 : LV "WhileSaltMeltsLaw" 71 m_6_best := ⟨wm 865 (by decide +kernel) (by decide +kernel), wm 866 (by decide +kernel) (by decide +kernel), wm 867 (by decide +kernel) (by decide +kernel)⟩
theorem l_6_216 : LV "WhileSaltMeltsModel" 216 m_6_unsaid := ⟨wm 869 (by decide +kernel) (by decide +kernel), wm 871 (by decide +kernel) (by decide +kernel), wp 41 (by decide +kernel) (by decide +kernel)⟩
theorem l_6_219 : LV "WhileSaltMeltsModel" 219 m_6_findBest := ⟨wm 873 (by decide +kernel) (by decide +kernel), wm 875 (by decide +kernel) (by decide +kernel), wp 42 (by decide +kernel) (by decide +kernel)⟩
theorem l_L_75 : LV "WhileSaltMeltsLaw" 75 m_6_match := ⟨wm 877 (by decide +kernel) (by decide +kernel), wm 878 (by decide +kernel) (by decide +kernel), wm 879 (by decide +kernel) (by decide +kernel)⟩
theorem l_6_230 : LV "WhileSaltMeltsModel" 230 m_6_layMouths := ⟨wm 881 (by decide +kernel) (by decide +kernel), wm 883 (by decide +kernel) (by decide +kernel), wp 43 (by decide +kernel) (by decide +kernel)⟩
theorem l_6_233 : LV "WhileSaltMeltsModel" 233 m_6_matches := ⟨wm 885 (by decide +kernel) (by decide +kernel), wm 887 (by decide +kernel) (by decide +kernel), wp 44 (by decide +kernel) (by decide +kernel)⟩
theorem l_6_223 : LV "WhileSaltMeltsModel" 223 m_6_mayGive := ⟨wm 889 (by decide +kernel) (by decide +kernel), wm 891 (by decide +kernel) (by decide +kernel), wp 45 (by decide +kernel) (by decide +kernel)⟩
theorem l_6_226 : LV "WhileSaltMeltsModel" 226 m_6_givenBy := ⟨wm 893 (by decide +kernel) (by decide +kernel), wm 895 (by decide +kernel) (by decide +kernel), wp 46 (by decide +kernel) (by decide +kernel)⟩
theorem l_L_79 : LV "WhileSaltMeltsLaw" 79 m_6_soonest := ⟨wm 897 (by decide +kernel) (by decide +kernel), wm 898 (by decide +kernel) (by decide +kernel), wm 899 (by decide +kernel) (by decide +kernel)⟩
theorem l_6_252 : LV "WhileSaltMeltsModel" 252 m_6_findSoonest := ⟨wm 901 (by decide +kernel) (by decide +kernel), wm 903 (by decide +kernel) (by decide +kernel), wp 47 (by decide +kernel) (by decide +kernel)⟩
theorem l_6_243 : LV "WhileSaltMeltsModel" 243 m_6_keepsAnswers := ⟨wm 905 (by decide +kernel) (by decide +kernel), wm 907 (by decide +kernel) (by decide +kernel), wp 48 (by decide +kernel) (by decide +kernel)⟩
theorem l_6_246 : LV "WhileSaltMeltsModel" 246 m_6_runs := ⟨wm 909 (by decide +kernel) (by decide +kernel), wm 911 (by decide +kernel) (by decide +kernel), wp 49 (by decide +kernel) (by decide +kernel)⟩
theorem l_6_249 : LV "WhileSaltMeltsModel" 249 m_6_nextRow := ⟨wm 913 (by decide +kernel) (by decide +kernel), wm 915 (by decide +kernel) (by decide +kernel), wp 50 (by decide +kernel) (by decide +kernel)⟩
theorem l_6_239 : LV "WhileSaltMeltsModel" 239 m_6_swap := ⟨wm 917 (by decide +kernel) (by decide +kernel), wm 919 (by decide +kernel) (by decide +kernel), wp 51 (by decide +kernel) (by decide +kernel)⟩
theorem l_L_83 : LV "WhileSaltMeltsLaw" 83 m_6_late := ⟨wm 921 (by decide +kernel) (by decide +kernel), wm 922 (by decide +kernel) (by decide +kernel), wm 923 (by decide +kernel) (by decide +kernel)⟩
theorem l_L_87 : LV "WhileSaltMeltsLaw" 87 m_6_dish := ⟨wm 925 (by decide +kernel) (by decide +kernel), wm 926 (by decide +kernel) (by decide +kernel), wm 927 (by decide +kernel) (by decide +kernel)⟩
theorem l_6_255 : LV "WhileSaltMeltsModel" 255 m_6_beside := ⟨wm 929 (by decide +kernel) (by decide +kernel), wm 931 (by decide +kernel) (by decide +kernel), wp 52 (by decide +kernel) (by decide +kernel)⟩
theorem l_L_91 : LV "WhileSaltMeltsLaw" 91 m_6_spoke := ⟨wm 933 (by decide +kernel) (by decide +kernel), wm 934 (by decide +kernel) (by decide +kernel), wm 935 (by decide +kernel) (by decide +kernel)⟩
theorem l_L_95 : LV "WhileSaltMeltsLaw" 95 m_6_winter := ⟨wm 937 (by decide +kernel) (by decide +kernel), wm 938 (by decide +kernel) (by decide +kernel), wm 939 (by decide +kernel) (by decide +kernel)⟩
theorem k_6_258 : Cond.constantLong "WhileSaltMeltsModel" 258 7919 ∈ WS := wm 941 (by decide +kernel) (by decide +kernel)
theorem k_6_260 : Cond.constantLong "WhileSaltMeltsModel" 260 6151 ∈ WS := wm 942 (by decide +kernel) (by decide +kernel)
theorem k_6_262 : Cond.constantLong "WhileSaltMeltsModel" 262 65521 ∈ WS := wm 943 (by decide +kernel) (by decide +kernel)
theorem l_L_99 : LV "WhileSaltMeltsLaw" 99 m_6_keep := ⟨wm 944 (by decide +kernel) (by decide +kernel), wm 945 (by decide +kernel) (by decide +kernel), wm 946 (by decide +kernel) (by decide +kernel)⟩
theorem l_L_103 : LV "WhileSaltMeltsLaw" 103 m_6_back := ⟨wm 948 (by decide +kernel) (by decide +kernel), wm 949 (by decide +kernel) (by decide +kernel), wm 950 (by decide +kernel) (by decide +kernel)⟩
theorem l_L_107 : LV "WhileSaltMeltsLaw" 107 m_6_count := ⟨wm 952 (by decide +kernel) (by decide +kernel), wm 953 (by decide +kernel) (by decide +kernel), wm 954 (by decide +kernel) (by decide +kernel)⟩
theorem k_L_13 : Cond.constantLong "WhileSaltMeltsLaw" 13 4294967295 ∈ WS := wm 956 (by decide +kernel) (by decide +kernel)
end
section
theorem D_4_init_0 : Dec m_4_init 0 (.aload_n 0) 1 1 := ⟨by decide +kernel, rfl⟩
theorem D_4_init_1 : Dec m_4_init 1 (.invokespecial 3) 3 4 := ⟨by decide +kernel, rfl⟩
theorem D_4_init_4 : Dec m_4_init 4 (.aload_n 0) 1 5 := ⟨by decide +kernel, rfl⟩
theorem D_4_init_5 : Dec m_4_init 5 (.iconst 5) 1 6 := ⟨by decide +kernel, rfl⟩
theorem D_4_init_6 : Dec m_4_init 6 (.newarray .int) 2 8 := ⟨by decide +kernel, rfl⟩
theorem D_4_init_8 : Dec m_4_init 8 (.putfield 9) 3 11 := ⟨by decide +kernel, rfl⟩
theorem D_4_init_11 : Dec m_4_init 11 (.aload_n 0) 1 12 := ⟨by decide +kernel, rfl⟩
theorem D_4_init_12 : Dec m_4_init 12 (.bipush 8) 2 14 := ⟨by decide +kernel, rfl⟩
theorem D_4_init_14 : Dec m_4_init 14 (.newarray .int) 2 16 := ⟨by decide +kernel, rfl⟩
theorem D_4_init_16 : Dec m_4_init 16 (.putfield 15) 3 19 := ⟨by decide +kernel, rfl⟩
theorem D_4_init_19 : Dec m_4_init 19 (.aload_n 0) 1 20 := ⟨by decide +kernel, rfl⟩
theorem D_4_init_20 : Dec m_4_init 20 (.bipush 7) 2 22 := ⟨by decide +kernel, rfl⟩
theorem D_4_init_22 : Dec m_4_init 22 (.newarray .int) 2 24 := ⟨by decide +kernel, rfl⟩
theorem D_4_init_24 : Dec m_4_init 24 (.putfield 18) 3 27 := ⟨by decide +kernel, rfl⟩
theorem D_4_init_27 : Dec m_4_init 27 (.aload_n 0) 1 28 := ⟨by decide +kernel, rfl⟩
theorem D_4_init_28 : Dec m_4_init 28 (.bipush 7) 2 30 := ⟨by decide +kernel, rfl⟩
theorem D_4_init_30 : Dec m_4_init 30 (.newarray .int) 2 32 := ⟨by decide +kernel, rfl⟩
theorem D_4_init_32 : Dec m_4_init 32 (.putfield 21) 3 35 := ⟨by decide +kernel, rfl⟩
theorem D_4_init_35 : Dec m_4_init 35 (.aload_n 0) 1 36 := ⟨by decide +kernel, rfl⟩
theorem D_4_init_36 : Dec m_4_init 36 (.bipush 7) 2 38 := ⟨by decide +kernel, rfl⟩
theorem D_4_init_38 : Dec m_4_init 38 (.newarray .int) 2 40 := ⟨by decide +kernel, rfl⟩
theorem D_4_init_40 : Dec m_4_init 40 (.putfield 24) 3 43 := ⟨by decide +kernel, rfl⟩
theorem D_4_init_43 : Dec m_4_init 43 (.aload_n 0) 1 44 := ⟨by decide +kernel, rfl⟩
theorem D_4_init_44 : Dec m_4_init 44 (.bipush 7) 2 46 := ⟨by decide +kernel, rfl⟩
theorem D_4_init_46 : Dec m_4_init 46 (.newarray .int) 2 48 := ⟨by decide +kernel, rfl⟩
theorem D_4_init_48 : Dec m_4_init 48 (.putfield 27) 3 51 := ⟨by decide +kernel, rfl⟩
theorem D_4_init_51 : Dec m_4_init 51 (.aload_n 0) 1 52 := ⟨by decide +kernel, rfl⟩
theorem D_4_init_52 : Dec m_4_init 52 (.iconst 4) 1 53 := ⟨by decide +kernel, rfl⟩
theorem D_4_init_53 : Dec m_4_init 53 (.newarray .int) 2 55 := ⟨by decide +kernel, rfl⟩
theorem D_4_init_55 : Dec m_4_init 55 (.putfield 30) 3 58 := ⟨by decide +kernel, rfl⟩
theorem D_4_init_58 : Dec m_4_init 58 (.aload_n 0) 1 59 := ⟨by decide +kernel, rfl⟩
theorem D_4_init_59 : Dec m_4_init 59 (.iconst 4) 1 60 := ⟨by decide +kernel, rfl⟩
theorem D_4_init_60 : Dec m_4_init 60 (.newarray .int) 2 62 := ⟨by decide +kernel, rfl⟩
theorem D_4_init_62 : Dec m_4_init 62 (.putfield 33) 3 65 := ⟨by decide +kernel, rfl⟩
theorem D_4_init_65 : Dec m_4_init 65 (.return_) 1 66 := ⟨by decide +kernel, rfl⟩
theorem D_4_clear_0 : Dec m_4_clear 0 (.aload_n 0) 1 1 := ⟨by decide +kernel, rfl⟩
theorem D_4_clear_1 : Dec m_4_clear 1 (.iconst 0) 1 2 := ⟨by decide +kernel, rfl⟩
theorem D_4_clear_2 : Dec m_4_clear 2 (.putfield 36) 3 5 := ⟨by decide +kernel, rfl⟩
theorem D_4_clear_5 : Dec m_4_clear 5 (.aload_n 0) 1 6 := ⟨by decide +kernel, rfl⟩
theorem D_4_clear_6 : Dec m_4_clear 6 (.iconst 0) 1 7 := ⟨by decide +kernel, rfl⟩
theorem D_4_clear_7 : Dec m_4_clear 7 (.putfield 40) 3 10 := ⟨by decide +kernel, rfl⟩
theorem D_4_clear_10 : Dec m_4_clear 10 (.aload_n 0) 1 11 := ⟨by decide +kernel, rfl⟩
theorem D_4_clear_11 : Dec m_4_clear 11 (.iconst 0) 1 12 := ⟨by decide +kernel, rfl⟩
theorem D_4_clear_12 : Dec m_4_clear 12 (.putfield 43) 3 15 := ⟨by decide +kernel, rfl⟩
theorem D_4_clear_15 : Dec m_4_clear 15 (.aload_n 0) 1 16 := ⟨by decide +kernel, rfl⟩
theorem D_4_clear_16 : Dec m_4_clear 16 (.iconst 0) 1 17 := ⟨by decide +kernel, rfl⟩
theorem D_4_clear_17 : Dec m_4_clear 17 (.putfield 46) 3 20 := ⟨by decide +kernel, rfl⟩
theorem D_4_clear_20 : Dec m_4_clear 20 (.aload_n 0) 1 21 := ⟨by decide +kernel, rfl⟩
theorem D_4_clear_21 : Dec m_4_clear 21 (.bipush 20) 2 23 := ⟨by decide +kernel, rfl⟩
theorem D_4_clear_23 : Dec m_4_clear 23 (.putfield 49) 3 26 := ⟨by decide +kernel, rfl⟩
theorem D_4_clear_26 : Dec m_4_clear 26 (.return_) 1 27 := ⟨by decide +kernel, rfl⟩
theorem D_4_add_0 : Dec m_4_add 0 (.aload_n 2) 1 1 := ⟨by decide +kernel, rfl⟩
theorem D_4_add_1 : Dec m_4_add 1 (.arraylength) 1 2 := ⟨by decide +kernel, rfl⟩
theorem D_4_add_2 : Dec m_4_add 2 (.iconst 4) 1 3 := ⟨by decide +kernel, rfl⟩
theorem D_4_add_3 : DecJ m_4_add 3 (.if_icmp .ge) 6 8 := ⟨5, by decide +kernel, rfl, rfl⟩
theorem D_4_add_6 : Dec m_4_add 6 (.iconst 0) 1 7 := ⟨by decide +kernel, rfl⟩
theorem D_4_add_7 : Dec m_4_add 7 (.ireturn) 1 8 := ⟨by decide +kernel, rfl⟩
theorem D_4_add_8 : Dec m_4_add 8 (.iload_n 1) 1 9 := ⟨by decide +kernel, rfl⟩
theorem D_4_add_9 : Dec m_4_add 9 (.lookupswitch 168 #[(97, 123), (100, 144), (103, 72), (112, 51), (119, 93)]) 51 60 := ⟨by decide +kernel, rfl⟩
theorem D_4_add_60 : Dec m_4_add 60 (.iload_n 3) 1 61 := ⟨by decide +kernel, rfl⟩
theorem D_4_add_61 : Dec m_4_add 61 (.iconst 1) 1 62 := ⟨by decide +kernel, rfl⟩
theorem D_4_add_62 : DecJ m_4_add 62 (.if_icmp .ne) 65 79 := ⟨17, by decide +kernel, rfl, rfl⟩
theorem D_4_add_65 : Dec m_4_add 65 (.aload_n 0) 1 66 := ⟨by decide +kernel, rfl⟩
theorem D_4_add_66 : Dec m_4_add 66 (.aload_n 2) 1 67 := ⟨by decide +kernel, rfl⟩
theorem D_4_add_67 : Dec m_4_add 67 (.iconst 0) 1 68 := ⟨by decide +kernel, rfl⟩
theorem D_4_add_68 : Dec m_4_add 68 (.iaload) 1 69 := ⟨by decide +kernel, rfl⟩
theorem D_4_add_69 : Dec m_4_add 69 (.invokevirtual 52) 3 72 := ⟨by decide +kernel, rfl⟩
theorem D_4_add_72 : DecJ m_4_add 72 (.ifCond .eq) 75 79 := ⟨7, by decide +kernel, rfl, rfl⟩
theorem D_4_add_75 : Dec m_4_add 75 (.iconst 1) 1 76 := ⟨by decide +kernel, rfl⟩
theorem D_4_add_76 : DecJ m_4_add 76 (.goto) 79 80 := ⟨4, by decide +kernel, rfl, rfl⟩
theorem D_4_add_79 : Dec m_4_add 79 (.iconst 0) 1 80 := ⟨by decide +kernel, rfl⟩
theorem D_4_add_80 : Dec m_4_add 80 (.ireturn) 1 81 := ⟨by decide +kernel, rfl⟩
theorem D_4_add_81 : Dec m_4_add 81 (.iload_n 3) 1 82 := ⟨by decide +kernel, rfl⟩
theorem D_4_add_82 : Dec m_4_add 82 (.iconst 1) 1 83 := ⟨by decide +kernel, rfl⟩
theorem D_4_add_83 : DecJ m_4_add 83 (.if_icmp .ne) 86 100 := ⟨17, by decide +kernel, rfl, rfl⟩
theorem D_4_add_86 : Dec m_4_add 86 (.aload_n 0) 1 87 := ⟨by decide +kernel, rfl⟩
theorem D_4_add_87 : Dec m_4_add 87 (.aload_n 2) 1 88 := ⟨by decide +kernel, rfl⟩
theorem D_4_add_88 : Dec m_4_add 88 (.iconst 0) 1 89 := ⟨by decide +kernel, rfl⟩
theorem D_4_add_89 : Dec m_4_add 89 (.iaload) 1 90 := ⟨by decide +kernel, rfl⟩
theorem D_4_add_90 : Dec m_4_add 90 (.invokevirtual 56) 3 93 := ⟨by decide +kernel, rfl⟩
theorem D_4_add_93 : DecJ m_4_add 93 (.ifCond .eq) 96 100 := ⟨7, by decide +kernel, rfl, rfl⟩
theorem D_4_add_96 : Dec m_4_add 96 (.iconst 1) 1 97 := ⟨by decide +kernel, rfl⟩
theorem D_4_add_97 : DecJ m_4_add 97 (.goto) 100 101 := ⟨4, by decide +kernel, rfl, rfl⟩
theorem D_4_add_100 : Dec m_4_add 100 (.iconst 0) 1 101 := ⟨by decide +kernel, rfl⟩
theorem D_4_add_101 : Dec m_4_add 101 (.ireturn) 1 102 := ⟨by decide +kernel, rfl⟩
theorem D_4_add_102 : Dec m_4_add 102 (.iload_n 3) 1 103 := ⟨by decide +kernel, rfl⟩
theorem D_4_add_103 : Dec m_4_add 103 (.iconst 4) 1 104 := ⟨by decide +kernel, rfl⟩
theorem D_4_add_104 : DecJ m_4_add 104 (.if_icmp .ne) 107 130 := ⟨26, by decide +kernel, rfl, rfl⟩
theorem D_4_add_107 : Dec m_4_add 107 (.aload_n 0) 1 108 := ⟨by decide +kernel, rfl⟩
theorem D_4_add_108 : Dec m_4_add 108 (.aload_n 2) 1 109 := ⟨by decide +kernel, rfl⟩
theorem D_4_add_109 : Dec m_4_add 109 (.iconst 0) 1 110 := ⟨by decide +kernel, rfl⟩
theorem D_4_add_110 : Dec m_4_add 110 (.iaload) 1 111 := ⟨by decide +kernel, rfl⟩
theorem D_4_add_111 : Dec m_4_add 111 (.aload_n 2) 1 112 := ⟨by decide +kernel, rfl⟩
theorem D_4_add_112 : Dec m_4_add 112 (.iconst 1) 1 113 := ⟨by decide +kernel, rfl⟩
theorem D_4_add_113 : Dec m_4_add 113 (.iaload) 1 114 := ⟨by decide +kernel, rfl⟩
theorem D_4_add_114 : Dec m_4_add 114 (.aload_n 2) 1 115 := ⟨by decide +kernel, rfl⟩
theorem D_4_add_115 : Dec m_4_add 115 (.iconst 2) 1 116 := ⟨by decide +kernel, rfl⟩
theorem D_4_add_116 : Dec m_4_add 116 (.iaload) 1 117 := ⟨by decide +kernel, rfl⟩
theorem D_4_add_117 : Dec m_4_add 117 (.aload_n 2) 1 118 := ⟨by decide +kernel, rfl⟩
theorem D_4_add_118 : Dec m_4_add 118 (.iconst 3) 1 119 := ⟨by decide +kernel, rfl⟩
theorem D_4_add_119 : Dec m_4_add 119 (.iaload) 1 120 := ⟨by decide +kernel, rfl⟩
theorem D_4_add_120 : Dec m_4_add 120 (.invokevirtual 59) 3 123 := ⟨by decide +kernel, rfl⟩
theorem D_4_add_123 : DecJ m_4_add 123 (.ifCond .eq) 126 130 := ⟨7, by decide +kernel, rfl, rfl⟩
theorem D_4_add_126 : Dec m_4_add 126 (.iconst 1) 1 127 := ⟨by decide +kernel, rfl⟩
theorem D_4_add_127 : DecJ m_4_add 127 (.goto) 130 131 := ⟨4, by decide +kernel, rfl, rfl⟩
theorem D_4_add_130 : Dec m_4_add 130 (.iconst 0) 1 131 := ⟨by decide +kernel, rfl⟩
theorem D_4_add_131 : Dec m_4_add 131 (.ireturn) 1 132 := ⟨by decide +kernel, rfl⟩
theorem D_4_add_132 : Dec m_4_add 132 (.iload_n 3) 1 133 := ⟨by decide +kernel, rfl⟩
theorem D_4_add_133 : Dec m_4_add 133 (.iconst 1) 1 134 := ⟨by decide +kernel, rfl⟩
theorem D_4_add_134 : DecJ m_4_add 134 (.if_icmp .ne) 137 151 := ⟨17, by decide +kernel, rfl, rfl⟩
theorem D_4_add_137 : Dec m_4_add 137 (.aload_n 0) 1 138 := ⟨by decide +kernel, rfl⟩
theorem D_4_add_138 : Dec m_4_add 138 (.aload_n 2) 1 139 := ⟨by decide +kernel, rfl⟩
theorem D_4_add_139 : Dec m_4_add 139 (.iconst 0) 1 140 := ⟨by decide +kernel, rfl⟩
theorem D_4_add_140 : Dec m_4_add 140 (.iaload) 1 141 := ⟨by decide +kernel, rfl⟩
theorem D_4_add_141 : Dec m_4_add 141 (.invokevirtual 63) 3 144 := ⟨by decide +kernel, rfl⟩
theorem D_4_add_144 : DecJ m_4_add 144 (.ifCond .eq) 147 151 := ⟨7, by decide +kernel, rfl, rfl⟩
theorem D_4_add_147 : Dec m_4_add 147 (.iconst 1) 1 148 := ⟨by decide +kernel, rfl⟩
theorem D_4_add_148 : DecJ m_4_add 148 (.goto) 151 152 := ⟨4, by decide +kernel, rfl, rfl⟩
theorem D_4_add_151 : Dec m_4_add 151 (.iconst 0) 1 152 := ⟨by decide +kernel, rfl⟩
theorem D_4_add_152 : Dec m_4_add 152 (.ireturn) 1 153 := ⟨by decide +kernel, rfl⟩
theorem D_4_add_153 : Dec m_4_add 153 (.iload_n 3) 1 154 := ⟨by decide +kernel, rfl⟩
theorem D_4_add_154 : Dec m_4_add 154 (.iconst 2) 1 155 := ⟨by decide +kernel, rfl⟩
theorem D_4_add_155 : DecJ m_4_add 155 (.if_icmp .ne) 158 175 := ⟨20, by decide +kernel, rfl, rfl⟩
theorem D_4_add_158 : Dec m_4_add 158 (.aload_n 0) 1 159 := ⟨by decide +kernel, rfl⟩
theorem D_4_add_159 : Dec m_4_add 159 (.aload_n 2) 1 160 := ⟨by decide +kernel, rfl⟩
theorem D_4_add_160 : Dec m_4_add 160 (.iconst 0) 1 161 := ⟨by decide +kernel, rfl⟩
theorem D_4_add_161 : Dec m_4_add 161 (.iaload) 1 162 := ⟨by decide +kernel, rfl⟩
theorem D_4_add_162 : Dec m_4_add 162 (.aload_n 2) 1 163 := ⟨by decide +kernel, rfl⟩
theorem D_4_add_163 : Dec m_4_add 163 (.iconst 1) 1 164 := ⟨by decide +kernel, rfl⟩
theorem D_4_add_164 : Dec m_4_add 164 (.iaload) 1 165 := ⟨by decide +kernel, rfl⟩
theorem D_4_add_165 : Dec m_4_add 165 (.invokevirtual 66) 3 168 := ⟨by decide +kernel, rfl⟩
theorem D_4_add_168 : DecJ m_4_add 168 (.ifCond .eq) 171 175 := ⟨7, by decide +kernel, rfl, rfl⟩
theorem D_4_add_171 : Dec m_4_add 171 (.iconst 1) 1 172 := ⟨by decide +kernel, rfl⟩
theorem D_4_add_172 : DecJ m_4_add 172 (.goto) 175 176 := ⟨4, by decide +kernel, rfl, rfl⟩
theorem D_4_add_175 : Dec m_4_add 175 (.iconst 0) 1 176 := ⟨by decide +kernel, rfl⟩
theorem D_4_add_176 : Dec m_4_add 176 (.ireturn) 1 177 := ⟨by decide +kernel, rfl⟩
theorem D_4_add_177 : Dec m_4_add 177 (.iconst 0) 1 178 := ⟨by decide +kernel, rfl⟩
theorem D_4_add_178 : Dec m_4_add 178 (.ireturn) 1 179 := ⟨by decide +kernel, rfl⟩
theorem D_4_addPerson_0 : Dec m_4_addPerson 0 (.aload_n 0) 1 1 := ⟨by decide +kernel, rfl⟩
theorem D_4_addPerson_1 : Dec m_4_addPerson 1 (.getfield 36) 3 4 := ⟨by decide +kernel, rfl⟩
theorem D_4_addPerson_4 : Dec m_4_addPerson 4 (.iconst 5) 1 5 := ⟨by decide +kernel, rfl⟩
theorem D_4_addPerson_5 : DecJ m_4_addPerson 5 (.if_icmp .ge) 8 19 := ⟨14, by decide +kernel, rfl, rfl⟩
theorem D_4_addPerson_8 : Dec m_4_addPerson 8 (.iload_n 1) 1 9 := ⟨by decide +kernel, rfl⟩
theorem D_4_addPerson_9 : Dec m_4_addPerson 9 (.iconst 1) 1 10 := ⟨by decide +kernel, rfl⟩
theorem D_4_addPerson_10 : DecJ m_4_addPerson 10 (.if_icmp .lt) 13 19 := ⟨9, by decide +kernel, rfl, rfl⟩
theorem D_4_addPerson_13 : Dec m_4_addPerson 13 (.iload_n 1) 1 14 := ⟨by decide +kernel, rfl⟩
theorem D_4_addPerson_14 : Dec m_4_addPerson 14 (.bipush 9) 2 16 := ⟨by decide +kernel, rfl⟩
theorem D_4_addPerson_16 : DecJ m_4_addPerson 16 (.if_icmp .le) 19 21 := ⟨5, by decide +kernel, rfl, rfl⟩
theorem D_4_addPerson_19 : Dec m_4_addPerson 19 (.iconst 0) 1 20 := ⟨by decide +kernel, rfl⟩
theorem D_4_addPerson_20 : Dec m_4_addPerson 20 (.ireturn) 1 21 := ⟨by decide +kernel, rfl⟩
theorem D_4_addPerson_21 : Dec m_4_addPerson 21 (.aload_n 0) 1 22 := ⟨by decide +kernel, rfl⟩
theorem D_4_addPerson_22 : Dec m_4_addPerson 22 (.getfield 9) 3 25 := ⟨by decide +kernel, rfl⟩
theorem D_4_addPerson_25 : Dec m_4_addPerson 25 (.aload_n 0) 1 26 := ⟨by decide +kernel, rfl⟩
theorem D_4_addPerson_26 : Dec m_4_addPerson 26 (.getfield 36) 3 29 := ⟨by decide +kernel, rfl⟩
theorem D_4_addPerson_29 : Dec m_4_addPerson 29 (.iload_n 1) 1 30 := ⟨by decide +kernel, rfl⟩
theorem D_4_addPerson_30 : Dec m_4_addPerson 30 (.iastore) 1 31 := ⟨by decide +kernel, rfl⟩
theorem D_4_addPerson_31 : Dec m_4_addPerson 31 (.aload_n 0) 1 32 := ⟨by decide +kernel, rfl⟩
theorem D_4_addPerson_32 : Dec m_4_addPerson 32 (.dup) 1 33 := ⟨by decide +kernel, rfl⟩
theorem D_4_addPerson_33 : Dec m_4_addPerson 33 (.getfield 36) 3 36 := ⟨by decide +kernel, rfl⟩
theorem D_4_addPerson_36 : Dec m_4_addPerson 36 (.iconst 1) 1 37 := ⟨by decide +kernel, rfl⟩
theorem D_4_addPerson_37 : Dec m_4_addPerson 37 (.iadd) 1 38 := ⟨by decide +kernel, rfl⟩
theorem D_4_addPerson_38 : Dec m_4_addPerson 38 (.putfield 36) 3 41 := ⟨by decide +kernel, rfl⟩
theorem D_4_addPerson_41 : Dec m_4_addPerson 41 (.iconst 1) 1 42 := ⟨by decide +kernel, rfl⟩
theorem D_4_addPerson_42 : Dec m_4_addPerson 42 (.ireturn) 1 43 := ⟨by decide +kernel, rfl⟩
theorem D_4_addGrain_0 : Dec m_4_addGrain 0 (.aload_n 0) 1 1 := ⟨by decide +kernel, rfl⟩
theorem D_4_addGrain_1 : Dec m_4_addGrain 1 (.getfield 40) 3 4 := ⟨by decide +kernel, rfl⟩
theorem D_4_addGrain_4 : Dec m_4_addGrain 4 (.bipush 8) 2 6 := ⟨by decide +kernel, rfl⟩
theorem D_4_addGrain_6 : DecJ m_4_addGrain 6 (.if_icmp .ge) 9 20 := ⟨14, by decide +kernel, rfl, rfl⟩
theorem D_4_addGrain_9 : Dec m_4_addGrain 9 (.iload_n 1) 1 10 := ⟨by decide +kernel, rfl⟩
theorem D_4_addGrain_10 : Dec m_4_addGrain 10 (.iconst 1) 1 11 := ⟨by decide +kernel, rfl⟩
theorem D_4_addGrain_11 : DecJ m_4_addGrain 11 (.if_icmp .lt) 14 20 := ⟨9, by decide +kernel, rfl, rfl⟩
theorem D_4_addGrain_14 : Dec m_4_addGrain 14 (.iload_n 1) 1 15 := ⟨by decide +kernel, rfl⟩
theorem D_4_addGrain_15 : Dec m_4_addGrain 15 (.bipush 9) 2 17 := ⟨by decide +kernel, rfl⟩
theorem D_4_addGrain_17 : DecJ m_4_addGrain 17 (.if_icmp .le) 20 22 := ⟨5, by decide +kernel, rfl, rfl⟩
theorem D_4_addGrain_20 : Dec m_4_addGrain 20 (.iconst 0) 1 21 := ⟨by decide +kernel, rfl⟩
theorem D_4_addGrain_21 : Dec m_4_addGrain 21 (.ireturn) 1 22 := ⟨by decide +kernel, rfl⟩
theorem D_4_addGrain_22 : Dec m_4_addGrain 22 (.aload_n 0) 1 23 := ⟨by decide +kernel, rfl⟩
theorem D_4_addGrain_23 : Dec m_4_addGrain 23 (.getfield 15) 3 26 := ⟨by decide +kernel, rfl⟩
theorem D_4_addGrain_26 : Dec m_4_addGrain 26 (.aload_n 0) 1 27 := ⟨by decide +kernel, rfl⟩
theorem D_4_addGrain_27 : Dec m_4_addGrain 27 (.getfield 40) 3 30 := ⟨by decide +kernel, rfl⟩
theorem D_4_addGrain_30 : Dec m_4_addGrain 30 (.iload_n 1) 1 31 := ⟨by decide +kernel, rfl⟩
theorem D_4_addGrain_31 : Dec m_4_addGrain 31 (.iastore) 1 32 := ⟨by decide +kernel, rfl⟩
theorem D_4_addGrain_32 : Dec m_4_addGrain 32 (.aload_n 0) 1 33 := ⟨by decide +kernel, rfl⟩
theorem D_4_addGrain_33 : Dec m_4_addGrain 33 (.dup) 1 34 := ⟨by decide +kernel, rfl⟩
theorem D_4_addGrain_34 : Dec m_4_addGrain 34 (.getfield 40) 3 37 := ⟨by decide +kernel, rfl⟩
theorem D_4_addGrain_37 : Dec m_4_addGrain 37 (.iconst 1) 1 38 := ⟨by decide +kernel, rfl⟩
theorem D_4_addGrain_38 : Dec m_4_addGrain 38 (.iadd) 1 39 := ⟨by decide +kernel, rfl⟩
theorem D_4_addGrain_39 : Dec m_4_addGrain 39 (.putfield 40) 3 42 := ⟨by decide +kernel, rfl⟩
theorem D_4_addGrain_42 : Dec m_4_addGrain 42 (.iconst 1) 1 43 := ⟨by decide +kernel, rfl⟩
theorem D_4_addGrain_43 : Dec m_4_addGrain 43 (.ireturn) 1 44 := ⟨by decide +kernel, rfl⟩
theorem D_4_addSaying_0 : Dec m_4_addSaying 0 (.aload_n 0) 1 1 := ⟨by decide +kernel, rfl⟩
theorem D_4_addSaying_1 : Dec m_4_addSaying 1 (.getfield 43) 3 4 := ⟨by decide +kernel, rfl⟩
theorem D_4_addSaying_4 : Dec m_4_addSaying 4 (.bipush 7) 2 6 := ⟨by decide +kernel, rfl⟩
theorem D_4_addSaying_6 : DecJ m_4_addSaying 6 (.if_icmp .ge) 9 28 := ⟨22, by decide +kernel, rfl, rfl⟩
theorem D_4_addSaying_9 : Dec m_4_addSaying 9 (.iload_n 1) 1 10 := ⟨by decide +kernel, rfl⟩
theorem D_4_addSaying_10 : Dec m_4_addSaying 10 (.aload_n 0) 1 11 := ⟨by decide +kernel, rfl⟩
theorem D_4_addSaying_11 : Dec m_4_addSaying 11 (.getfield 36) 3 14 := ⟨by decide +kernel, rfl⟩
theorem D_4_addSaying_14 : DecJ m_4_addSaying 14 (.if_icmp .ge) 17 28 := ⟨14, by decide +kernel, rfl, rfl⟩
theorem D_4_addSaying_17 : Dec m_4_addSaying 17 (.iload_n 2) 1 18 := ⟨by decide +kernel, rfl⟩
theorem D_4_addSaying_18 : Dec m_4_addSaying 18 (.iconst 1) 1 19 := ⟨by decide +kernel, rfl⟩
theorem D_4_addSaying_19 : DecJ m_4_addSaying 19 (.if_icmp .lt) 22 28 := ⟨9, by decide +kernel, rfl, rfl⟩
theorem D_4_addSaying_22 : Dec m_4_addSaying 22 (.iload_n 2) 1 23 := ⟨by decide +kernel, rfl⟩
theorem D_4_addSaying_23 : Dec m_4_addSaying 23 (.bipush 60) 2 25 := ⟨by decide +kernel, rfl⟩
theorem D_4_addSaying_25 : DecJ m_4_addSaying 25 (.if_icmp .le) 28 30 := ⟨5, by decide +kernel, rfl, rfl⟩
theorem D_4_addSaying_28 : Dec m_4_addSaying 28 (.iconst 0) 1 29 := ⟨by decide +kernel, rfl⟩
theorem D_4_addSaying_29 : Dec m_4_addSaying 29 (.ireturn) 1 30 := ⟨by decide +kernel, rfl⟩
theorem D_4_addSaying_30 : Dec m_4_addSaying 30 (.iload 4) 2 32 := ⟨by decide +kernel, rfl⟩
theorem D_4_addSaying_32 : Dec m_4_addSaying 32 (.bipush 99) 2 34 := ⟨by decide +kernel, rfl⟩
theorem D_4_addSaying_34 : DecJ m_4_addSaying 34 (.if_icmp .eq) 37 59 := ⟨25, by decide +kernel, rfl, rfl⟩
theorem D_4_addSaying_37 : Dec m_4_addSaying 37 (.iload 4) 2 39 := ⟨by decide +kernel, rfl⟩
theorem D_4_addSaying_39 : Dec m_4_addSaying 39 (.aload_n 0) 1 40 := ⟨by decide +kernel, rfl⟩
theorem D_4_addSaying_40 : Dec m_4_addSaying 40 (.getfield 43) 3 43 := ⟨by decide +kernel, rfl⟩
theorem D_4_addSaying_43 : DecJ m_4_addSaying 43 (.if_icmp .ge) 46 57 := ⟨14, by decide +kernel, rfl, rfl⟩
theorem D_4_addSaying_46 : Dec m_4_addSaying 46 (.aload_n 0) 1 47 := ⟨by decide +kernel, rfl⟩
theorem D_4_addSaying_47 : Dec m_4_addSaying 47 (.getfield 18) 3 50 := ⟨by decide +kernel, rfl⟩
theorem D_4_addSaying_50 : Dec m_4_addSaying 50 (.iload 4) 2 52 := ⟨by decide +kernel, rfl⟩
theorem D_4_addSaying_52 : Dec m_4_addSaying 52 (.iaload) 1 53 := ⟨by decide +kernel, rfl⟩
theorem D_4_addSaying_53 : Dec m_4_addSaying 53 (.iload_n 1) 1 54 := ⟨by decide +kernel, rfl⟩
theorem D_4_addSaying_54 : DecJ m_4_addSaying 54 (.if_icmp .ne) 57 59 := ⟨5, by decide +kernel, rfl, rfl⟩
theorem D_4_addSaying_57 : Dec m_4_addSaying 57 (.iconst 0) 1 58 := ⟨by decide +kernel, rfl⟩
theorem D_4_addSaying_58 : Dec m_4_addSaying 58 (.ireturn) 1 59 := ⟨by decide +kernel, rfl⟩
theorem D_4_addSaying_59 : Dec m_4_addSaying 59 (.aload_n 0) 1 60 := ⟨by decide +kernel, rfl⟩
theorem D_4_addSaying_60 : Dec m_4_addSaying 60 (.getfield 18) 3 63 := ⟨by decide +kernel, rfl⟩
theorem D_4_addSaying_63 : Dec m_4_addSaying 63 (.aload_n 0) 1 64 := ⟨by decide +kernel, rfl⟩
theorem D_4_addSaying_64 : Dec m_4_addSaying 64 (.getfield 43) 3 67 := ⟨by decide +kernel, rfl⟩
theorem D_4_addSaying_67 : Dec m_4_addSaying 67 (.iload_n 1) 1 68 := ⟨by decide +kernel, rfl⟩
theorem D_4_addSaying_68 : Dec m_4_addSaying 68 (.iastore) 1 69 := ⟨by decide +kernel, rfl⟩
theorem D_4_addSaying_69 : Dec m_4_addSaying 69 (.aload_n 0) 1 70 := ⟨by decide +kernel, rfl⟩
theorem D_4_addSaying_70 : Dec m_4_addSaying 70 (.getfield 21) 3 73 := ⟨by decide +kernel, rfl⟩
theorem D_4_addSaying_73 : Dec m_4_addSaying 73 (.aload_n 0) 1 74 := ⟨by decide +kernel, rfl⟩
theorem D_4_addSaying_74 : Dec m_4_addSaying 74 (.getfield 43) 3 77 := ⟨by decide +kernel, rfl⟩
theorem D_4_addSaying_77 : Dec m_4_addSaying 77 (.iload_n 2) 1 78 := ⟨by decide +kernel, rfl⟩
theorem D_4_addSaying_78 : Dec m_4_addSaying 78 (.iastore) 1 79 := ⟨by decide +kernel, rfl⟩
theorem D_4_addSaying_79 : Dec m_4_addSaying 79 (.aload_n 0) 1 80 := ⟨by decide +kernel, rfl⟩
theorem D_4_addSaying_80 : Dec m_4_addSaying 80 (.getfield 24) 3 83 := ⟨by decide +kernel, rfl⟩
theorem D_4_addSaying_83 : Dec m_4_addSaying 83 (.aload_n 0) 1 84 := ⟨by decide +kernel, rfl⟩
theorem D_4_addSaying_84 : Dec m_4_addSaying 84 (.getfield 43) 3 87 := ⟨by decide +kernel, rfl⟩
theorem D_4_addSaying_87 : Dec m_4_addSaying 87 (.iload_n 3) 1 88 := ⟨by decide +kernel, rfl⟩
theorem D_4_addSaying_88 : Dec m_4_addSaying 88 (.iastore) 1 89 := ⟨by decide +kernel, rfl⟩
theorem D_4_addSaying_89 : Dec m_4_addSaying 89 (.aload_n 0) 1 90 := ⟨by decide +kernel, rfl⟩
theorem D_4_addSaying_90 : Dec m_4_addSaying 90 (.getfield 27) 3 93 := ⟨by decide +kernel, rfl⟩
theorem D_4_addSaying_93 : Dec m_4_addSaying 93 (.aload_n 0) 1 94 := ⟨by decide +kernel, rfl⟩
theorem D_4_addSaying_94 : Dec m_4_addSaying 94 (.getfield 43) 3 97 := ⟨by decide +kernel, rfl⟩
theorem D_4_addSaying_97 : Dec m_4_addSaying 97 (.iload 4) 2 99 := ⟨by decide +kernel, rfl⟩
theorem D_4_addSaying_99 : Dec m_4_addSaying 99 (.bipush 99) 2 101 := ⟨by decide +kernel, rfl⟩
theorem D_4_addSaying_101 : DecJ m_4_addSaying 101 (.if_icmp .ne) 104 109 := ⟨8, by decide +kernel, rfl, rfl⟩
theorem D_4_addSaying_104 : Dec m_4_addSaying 104 (.bipush (-4)) 2 106 := ⟨by decide +kernel, rfl⟩
theorem D_4_addSaying_106 : DecJ m_4_addSaying 106 (.goto) 109 111 := ⟨5, by decide +kernel, rfl, rfl⟩
theorem D_4_addSaying_109 : Dec m_4_addSaying 109 (.iload 4) 2 111 := ⟨by decide +kernel, rfl⟩
theorem D_4_addSaying_111 : Dec m_4_addSaying 111 (.iastore) 1 112 := ⟨by decide +kernel, rfl⟩
theorem D_4_addSaying_112 : Dec m_4_addSaying 112 (.aload_n 0) 1 113 := ⟨by decide +kernel, rfl⟩
theorem D_4_addSaying_113 : Dec m_4_addSaying 113 (.dup) 1 114 := ⟨by decide +kernel, rfl⟩
theorem D_4_addSaying_114 : Dec m_4_addSaying 114 (.getfield 43) 3 117 := ⟨by decide +kernel, rfl⟩
theorem D_4_addSaying_117 : Dec m_4_addSaying 117 (.iconst 1) 1 118 := ⟨by decide +kernel, rfl⟩
theorem D_4_addSaying_118 : Dec m_4_addSaying 118 (.iadd) 1 119 := ⟨by decide +kernel, rfl⟩
theorem D_4_addSaying_119 : Dec m_4_addSaying 119 (.putfield 43) 3 122 := ⟨by decide +kernel, rfl⟩
theorem D_4_addSaying_122 : Dec m_4_addSaying 122 (.iconst 1) 1 123 := ⟨by decide +kernel, rfl⟩
theorem D_4_addSaying_123 : Dec m_4_addSaying 123 (.ireturn) 1 124 := ⟨by decide +kernel, rfl⟩
theorem D_4_setWindow_0 : Dec m_4_setWindow 0 (.aload_n 0) 1 1 := ⟨by decide +kernel, rfl⟩
theorem D_4_setWindow_1 : Dec m_4_setWindow 1 (.iload_n 1) 1 2 := ⟨by decide +kernel, rfl⟩
theorem D_4_setWindow_2 : Dec m_4_setWindow 2 (.putfield 49) 3 5 := ⟨by decide +kernel, rfl⟩
theorem D_4_setWindow_5 : Dec m_4_setWindow 5 (.iconst 1) 1 6 := ⟨by decide +kernel, rfl⟩
theorem D_4_setWindow_6 : Dec m_4_setWindow 6 (.ireturn) 1 7 := ⟨by decide +kernel, rfl⟩
theorem D_4_addDish_0 : Dec m_4_addDish 0 (.aload_n 0) 1 1 := ⟨by decide +kernel, rfl⟩
theorem D_4_addDish_1 : Dec m_4_addDish 1 (.getfield 46) 3 4 := ⟨by decide +kernel, rfl⟩
theorem D_4_addDish_4 : Dec m_4_addDish 4 (.iconst 4) 1 5 := ⟨by decide +kernel, rfl⟩
theorem D_4_addDish_5 : DecJ m_4_addDish 5 (.if_icmp .ge) 8 22 := ⟨17, by decide +kernel, rfl, rfl⟩
theorem D_4_addDish_8 : Dec m_4_addDish 8 (.iload_n 1) 1 9 := ⟨by decide +kernel, rfl⟩
theorem D_4_addDish_9 : Dec m_4_addDish 9 (.aload_n 0) 1 10 := ⟨by decide +kernel, rfl⟩
theorem D_4_addDish_10 : Dec m_4_addDish 10 (.getfield 36) 3 13 := ⟨by decide +kernel, rfl⟩
theorem D_4_addDish_13 : DecJ m_4_addDish 13 (.if_icmp .ge) 16 22 := ⟨9, by decide +kernel, rfl, rfl⟩
theorem D_4_addDish_16 : Dec m_4_addDish 16 (.iload_n 2) 1 17 := ⟨by decide +kernel, rfl⟩
theorem D_4_addDish_17 : Dec m_4_addDish 17 (.bipush 9) 2 19 := ⟨by decide +kernel, rfl⟩
theorem D_4_addDish_19 : DecJ m_4_addDish 19 (.if_icmp .le) 22 24 := ⟨5, by decide +kernel, rfl, rfl⟩
theorem D_4_addDish_22 : Dec m_4_addDish 22 (.iconst 0) 1 23 := ⟨by decide +kernel, rfl⟩
theorem D_4_addDish_23 : Dec m_4_addDish 23 (.ireturn) 1 24 := ⟨by decide +kernel, rfl⟩
theorem D_4_addDish_24 : Dec m_4_addDish 24 (.aload_n 0) 1 25 := ⟨by decide +kernel, rfl⟩
theorem D_4_addDish_25 : Dec m_4_addDish 25 (.getfield 30) 3 28 := ⟨by decide +kernel, rfl⟩
theorem D_4_addDish_28 : Dec m_4_addDish 28 (.aload_n 0) 1 29 := ⟨by decide +kernel, rfl⟩
theorem D_4_addDish_29 : Dec m_4_addDish 29 (.getfield 46) 3 32 := ⟨by decide +kernel, rfl⟩
theorem D_4_addDish_32 : Dec m_4_addDish 32 (.iload_n 1) 1 33 := ⟨by decide +kernel, rfl⟩
theorem D_4_addDish_33 : Dec m_4_addDish 33 (.iastore) 1 34 := ⟨by decide +kernel, rfl⟩
theorem D_4_addDish_34 : Dec m_4_addDish 34 (.aload_n 0) 1 35 := ⟨by decide +kernel, rfl⟩
theorem D_4_addDish_35 : Dec m_4_addDish 35 (.getfield 33) 3 38 := ⟨by decide +kernel, rfl⟩
theorem D_4_addDish_38 : Dec m_4_addDish 38 (.aload_n 0) 1 39 := ⟨by decide +kernel, rfl⟩
theorem D_4_addDish_39 : Dec m_4_addDish 39 (.getfield 46) 3 42 := ⟨by decide +kernel, rfl⟩
theorem D_4_addDish_42 : Dec m_4_addDish 42 (.iload_n 2) 1 43 := ⟨by decide +kernel, rfl⟩
theorem D_4_addDish_43 : Dec m_4_addDish 43 (.iconst 5) 1 44 := ⟨by decide +kernel, rfl⟩
theorem D_4_addDish_44 : Dec m_4_addDish 44 (.isub) 1 45 := ⟨by decide +kernel, rfl⟩
theorem D_4_addDish_45 : Dec m_4_addDish 45 (.iastore) 1 46 := ⟨by decide +kernel, rfl⟩
theorem D_4_addDish_46 : Dec m_4_addDish 46 (.aload_n 0) 1 47 := ⟨by decide +kernel, rfl⟩
theorem D_4_addDish_47 : Dec m_4_addDish 47 (.dup) 1 48 := ⟨by decide +kernel, rfl⟩
theorem D_4_addDish_48 : Dec m_4_addDish 48 (.getfield 46) 3 51 := ⟨by decide +kernel, rfl⟩
theorem D_4_addDish_51 : Dec m_4_addDish 51 (.iconst 1) 1 52 := ⟨by decide +kernel, rfl⟩
theorem D_4_addDish_52 : Dec m_4_addDish 52 (.iadd) 1 53 := ⟨by decide +kernel, rfl⟩
theorem D_4_addDish_53 : Dec m_4_addDish 53 (.putfield 46) 3 56 := ⟨by decide +kernel, rfl⟩
theorem D_4_addDish_56 : Dec m_4_addDish 56 (.iconst 1) 1 57 := ⟨by decide +kernel, rfl⟩
theorem D_4_addDish_57 : Dec m_4_addDish 57 (.ireturn) 1 58 := ⟨by decide +kernel, rfl⟩
theorem D_4_sayingsOf_0 : Dec m_4_sayingsOf 0 (.iconst 0) 1 1 := ⟨by decide +kernel, rfl⟩
theorem D_4_sayingsOf_1 : Dec m_4_sayingsOf 1 (.istore_n 2) 1 2 := ⟨by decide +kernel, rfl⟩
theorem D_4_sayingsOf_2 : Dec m_4_sayingsOf 2 (.iconst 0) 1 3 := ⟨by decide +kernel, rfl⟩
theorem D_4_sayingsOf_3 : Dec m_4_sayingsOf 3 (.istore_n 3) 1 4 := ⟨by decide +kernel, rfl⟩
theorem D_4_sayingsOf_4 : Dec m_4_sayingsOf 4 (.iload_n 3) 1 5 := ⟨by decide +kernel, rfl⟩
theorem D_4_sayingsOf_5 : Dec m_4_sayingsOf 5 (.aload_n 0) 1 6 := ⟨by decide +kernel, rfl⟩
theorem D_4_sayingsOf_6 : Dec m_4_sayingsOf 6 (.getfield 43) 3 9 := ⟨by decide +kernel, rfl⟩
theorem D_4_sayingsOf_9 : DecJ m_4_sayingsOf 9 (.if_icmp .ge) 12 40 := ⟨31, by decide +kernel, rfl, rfl⟩
theorem D_4_sayingsOf_12 : Dec m_4_sayingsOf 12 (.iload_n 3) 1 13 := ⟨by decide +kernel, rfl⟩
theorem D_4_sayingsOf_13 : Dec m_4_sayingsOf 13 (.bipush 7) 2 15 := ⟨by decide +kernel, rfl⟩
theorem D_4_sayingsOf_15 : DecJ m_4_sayingsOf 15 (.if_icmp .ge) 18 40 := ⟨25, by decide +kernel, rfl, rfl⟩
theorem D_4_sayingsOf_18 : Dec m_4_sayingsOf 18 (.aload_n 0) 1 19 := ⟨by decide +kernel, rfl⟩
theorem D_4_sayingsOf_19 : Dec m_4_sayingsOf 19 (.getfield 18) 3 22 := ⟨by decide +kernel, rfl⟩
theorem D_4_sayingsOf_22 : Dec m_4_sayingsOf 22 (.iload_n 3) 1 23 := ⟨by decide +kernel, rfl⟩
theorem D_4_sayingsOf_23 : Dec m_4_sayingsOf 23 (.iaload) 1 24 := ⟨by decide +kernel, rfl⟩
theorem D_4_sayingsOf_24 : Dec m_4_sayingsOf 24 (.iload_n 1) 1 25 := ⟨by decide +kernel, rfl⟩
theorem D_4_sayingsOf_25 : DecJ m_4_sayingsOf 25 (.if_icmp .ne) 28 34 := ⟨9, by decide +kernel, rfl, rfl⟩
theorem D_4_sayingsOf_28 : Dec m_4_sayingsOf 28 (.iload_n 2) 1 29 := ⟨by decide +kernel, rfl⟩
theorem D_4_sayingsOf_29 : Dec m_4_sayingsOf 29 (.iconst 1) 1 30 := ⟨by decide +kernel, rfl⟩
theorem D_4_sayingsOf_30 : Dec m_4_sayingsOf 30 (.iload_n 3) 1 31 := ⟨by decide +kernel, rfl⟩
theorem D_4_sayingsOf_31 : Dec m_4_sayingsOf 31 (.ishl) 1 32 := ⟨by decide +kernel, rfl⟩
theorem D_4_sayingsOf_32 : Dec m_4_sayingsOf 32 (.ior) 1 33 := ⟨by decide +kernel, rfl⟩
theorem D_4_sayingsOf_33 : Dec m_4_sayingsOf 33 (.istore_n 2) 1 34 := ⟨by decide +kernel, rfl⟩
theorem D_4_sayingsOf_34 : Dec m_4_sayingsOf 34 (.iinc 3 1) 3 37 := ⟨by decide +kernel, rfl⟩
theorem D_4_sayingsOf_37 : DecJ m_4_sayingsOf 37 (.goto) 40 4 := ⟨-33, by decide +kernel, rfl, rfl⟩
theorem D_4_sayingsOf_40 : Dec m_4_sayingsOf 40 (.iload_n 2) 1 41 := ⟨by decide +kernel, rfl⟩
theorem D_4_sayingsOf_41 : Dec m_4_sayingsOf 41 (.ireturn) 1 42 := ⟨by decide +kernel, rfl⟩
theorem D_4_bestSet_0 : Dec m_4_bestSet 0 (.aload_n 0) 1 1 := ⟨by decide +kernel, rfl⟩
theorem D_4_bestSet_1 : Dec m_4_bestSet 1 (.iload_n 1) 1 2 := ⟨by decide +kernel, rfl⟩
theorem D_4_bestSet_2 : Dec m_4_bestSet 2 (.invokevirtual 70) 3 5 := ⟨by decide +kernel, rfl⟩
theorem D_4_bestSet_5 : Dec m_4_bestSet 5 (.iconst (-1)) 1 6 := ⟨by decide +kernel, rfl⟩
theorem D_4_bestSet_6 : Dec m_4_bestSet 6 (.ixor) 1 7 := ⟨by decide +kernel, rfl⟩
theorem D_4_bestSet_7 : Dec m_4_bestSet 7 (.iload_n 2) 1 8 := ⟨by decide +kernel, rfl⟩
theorem D_4_bestSet_8 : Dec m_4_bestSet 8 (.ior) 1 9 := ⟨by decide +kernel, rfl⟩
theorem D_4_bestSet_9 : Dec m_4_bestSet 9 (.istore 4) 2 11 := ⟨by decide +kernel, rfl⟩
theorem D_4_bestSet_11 : Dec m_4_bestSet 11 (.iconst 0) 1 12 := ⟨by decide +kernel, rfl⟩
theorem D_4_bestSet_12 : Dec m_4_bestSet 12 (.istore 5) 2 14 := ⟨by decide +kernel, rfl⟩
theorem D_4_bestSet_14 : Dec m_4_bestSet 14 (.iconst 0) 1 15 := ⟨by decide +kernel, rfl⟩
theorem D_4_bestSet_15 : Dec m_4_bestSet 15 (.istore 6) 2 17 := ⟨by decide +kernel, rfl⟩
theorem D_4_bestSet_17 : Dec m_4_bestSet 17 (.iconst 0) 1 18 := ⟨by decide +kernel, rfl⟩
theorem D_4_bestSet_18 : Dec m_4_bestSet 18 (.istore 7) 2 20 := ⟨by decide +kernel, rfl⟩
theorem D_4_bestSet_20 : Dec m_4_bestSet 20 (.iload 7) 2 22 := ⟨by decide +kernel, rfl⟩
theorem D_4_bestSet_22 : Dec m_4_bestSet 22 (.iconst 1) 1 23 := ⟨by decide +kernel, rfl⟩
theorem D_4_bestSet_23 : Dec m_4_bestSet 23 (.aload_n 0) 1 24 := ⟨by decide +kernel, rfl⟩
theorem D_4_bestSet_24 : Dec m_4_bestSet 24 (.getfield 43) 3 27 := ⟨by decide +kernel, rfl⟩
theorem D_4_bestSet_27 : Dec m_4_bestSet 27 (.ishl) 1 28 := ⟨by decide +kernel, rfl⟩
theorem D_4_bestSet_28 : DecJ m_4_bestSet 28 (.if_icmp .ge) 31 78 := ⟨50, by decide +kernel, rfl, rfl⟩
theorem D_4_bestSet_31 : Dec m_4_bestSet 31 (.iload 7) 2 33 := ⟨by decide +kernel, rfl⟩
theorem D_4_bestSet_33 : Dec m_4_bestSet 33 (.iload 4) 2 35 := ⟨by decide +kernel, rfl⟩
theorem D_4_bestSet_35 : Dec m_4_bestSet 35 (.iand) 1 36 := ⟨by decide +kernel, rfl⟩
theorem D_4_bestSet_36 : DecJ m_4_bestSet 36 (.ifCond .ne) 39 72 := ⟨36, by decide +kernel, rfl, rfl⟩
theorem D_4_bestSet_39 : Dec m_4_bestSet 39 (.aload_n 0) 1 40 := ⟨by decide +kernel, rfl⟩
theorem D_4_bestSet_40 : Dec m_4_bestSet 40 (.iload 7) 2 42 := ⟨by decide +kernel, rfl⟩
theorem D_4_bestSet_42 : Dec m_4_bestSet 42 (.invokevirtual 74) 3 45 := ⟨by decide +kernel, rfl⟩
theorem D_4_bestSet_45 : Dec m_4_bestSet 45 (.iload_n 3) 1 46 := ⟨by decide +kernel, rfl⟩
theorem D_4_bestSet_46 : DecJ m_4_bestSet 46 (.if_icmp .gt) 49 72 := ⟨26, by decide +kernel, rfl, rfl⟩
theorem D_4_bestSet_49 : Dec m_4_bestSet 49 (.aload_n 0) 1 50 := ⟨by decide +kernel, rfl⟩
theorem D_4_bestSet_50 : Dec m_4_bestSet 50 (.iload 7) 2 52 := ⟨by decide +kernel, rfl⟩
theorem D_4_bestSet_52 : Dec m_4_bestSet 52 (.invokevirtual 77) 3 55 := ⟨by decide +kernel, rfl⟩
theorem D_4_bestSet_55 : Dec m_4_bestSet 55 (.istore 8) 2 57 := ⟨by decide +kernel, rfl⟩
theorem D_4_bestSet_57 : Dec m_4_bestSet 57 (.iload 8) 2 59 := ⟨by decide +kernel, rfl⟩
theorem D_4_bestSet_59 : Dec m_4_bestSet 59 (.iload 6) 2 61 := ⟨by decide +kernel, rfl⟩
theorem D_4_bestSet_61 : DecJ m_4_bestSet 61 (.if_icmp .le) 64 72 := ⟨11, by decide +kernel, rfl, rfl⟩
theorem D_4_bestSet_64 : Dec m_4_bestSet 64 (.iload 8) 2 66 := ⟨by decide +kernel, rfl⟩
theorem D_4_bestSet_66 : Dec m_4_bestSet 66 (.istore 6) 2 68 := ⟨by decide +kernel, rfl⟩
theorem D_4_bestSet_68 : Dec m_4_bestSet 68 (.iload 7) 2 70 := ⟨by decide +kernel, rfl⟩
theorem D_4_bestSet_70 : Dec m_4_bestSet 70 (.istore 5) 2 72 := ⟨by decide +kernel, rfl⟩
theorem D_4_bestSet_72 : Dec m_4_bestSet 72 (.iinc 7 1) 3 75 := ⟨by decide +kernel, rfl⟩
theorem D_4_bestSet_75 : DecJ m_4_bestSet 75 (.goto) 78 20 := ⟨-55, by decide +kernel, rfl, rfl⟩
theorem D_4_bestSet_78 : Dec m_4_bestSet 78 (.iload 5) 2 80 := ⟨by decide +kernel, rfl⟩
theorem D_4_bestSet_80 : Dec m_4_bestSet 80 (.ireturn) 1 81 := ⟨by decide +kernel, rfl⟩
theorem D_4_worthOf_0 : Dec m_4_worthOf 0 (.aload_n 0) 1 1 := ⟨by decide +kernel, rfl⟩
theorem D_4_worthOf_1 : Dec m_4_worthOf 1 (.getfield 24) 3 4 := ⟨by decide +kernel, rfl⟩
theorem D_4_worthOf_4 : Dec m_4_worthOf 4 (.aload_n 0) 1 5 := ⟨by decide +kernel, rfl⟩
theorem D_4_worthOf_5 : Dec m_4_worthOf 5 (.getfield 43) 3 8 := ⟨by decide +kernel, rfl⟩
theorem D_4_worthOf_8 : Dec m_4_worthOf 8 (.iload_n 1) 1 9 := ⟨by decide +kernel, rfl⟩
theorem D_4_worthOf_9 : Dec m_4_worthOf 9 (.invokestatic 80) 3 12 := ⟨by decide +kernel, rfl⟩
theorem D_4_worthOf_12 : Dec m_4_worthOf 12 (.ireturn) 1 13 := ⟨by decide +kernel, rfl⟩
theorem D_4_secondsOf_0 : Dec m_4_secondsOf 0 (.aload_n 0) 1 1 := ⟨by decide +kernel, rfl⟩
theorem D_4_secondsOf_1 : Dec m_4_secondsOf 1 (.getfield 21) 3 4 := ⟨by decide +kernel, rfl⟩
theorem D_4_secondsOf_4 : Dec m_4_secondsOf 4 (.aload_n 0) 1 5 := ⟨by decide +kernel, rfl⟩
theorem D_4_secondsOf_5 : Dec m_4_secondsOf 5 (.getfield 43) 3 8 := ⟨by decide +kernel, rfl⟩
theorem D_4_secondsOf_8 : Dec m_4_secondsOf 8 (.iload_n 1) 1 9 := ⟨by decide +kernel, rfl⟩
theorem D_4_secondsOf_9 : Dec m_4_secondsOf 9 (.invokestatic 80) 3 12 := ⟨by decide +kernel, rfl⟩
theorem D_4_secondsOf_12 : Dec m_4_secondsOf 12 (.ireturn) 1 13 := ⟨by decide +kernel, rfl⟩
theorem D_4_sizeOf_0 : Dec m_4_sizeOf 0 (.aload_n 0) 1 1 := ⟨by decide +kernel, rfl⟩
theorem D_4_sizeOf_1 : Dec m_4_sizeOf 1 (.getfield 15) 3 4 := ⟨by decide +kernel, rfl⟩
theorem D_4_sizeOf_4 : Dec m_4_sizeOf 4 (.aload_n 0) 1 5 := ⟨by decide +kernel, rfl⟩
theorem D_4_sizeOf_5 : Dec m_4_sizeOf 5 (.getfield 40) 3 8 := ⟨by decide +kernel, rfl⟩
theorem D_4_sizeOf_8 : Dec m_4_sizeOf 8 (.iload_n 1) 1 9 := ⟨by decide +kernel, rfl⟩
theorem D_4_sizeOf_9 : Dec m_4_sizeOf 9 (.invokestatic 80) 3 12 := ⟨by decide +kernel, rfl⟩
theorem D_4_sizeOf_12 : Dec m_4_sizeOf 12 (.ireturn) 1 13 := ⟨by decide +kernel, rfl⟩
theorem D_4_sumOf_0 : Dec m_4_sumOf 0 (.iconst 0) 1 1 := ⟨by decide +kernel, rfl⟩
theorem D_4_sumOf_1 : Dec m_4_sumOf 1 (.istore_n 3) 1 2 := ⟨by decide +kernel, rfl⟩
theorem D_4_sumOf_2 : Dec m_4_sumOf 2 (.iconst 0) 1 3 := ⟨by decide +kernel, rfl⟩
theorem D_4_sumOf_3 : Dec m_4_sumOf 3 (.istore 4) 2 5 := ⟨by decide +kernel, rfl⟩
theorem D_4_sumOf_5 : Dec m_4_sumOf 5 (.iload 4) 2 7 := ⟨by decide +kernel, rfl⟩
theorem D_4_sumOf_7 : Dec m_4_sumOf 7 (.iload_n 1) 1 8 := ⟨by decide +kernel, rfl⟩
theorem D_4_sumOf_8 : DecJ m_4_sumOf 8 (.if_icmp .ge) 11 40 := ⟨32, by decide +kernel, rfl, rfl⟩
theorem D_4_sumOf_11 : Dec m_4_sumOf 11 (.iload 4) 2 13 := ⟨by decide +kernel, rfl⟩
theorem D_4_sumOf_13 : Dec m_4_sumOf 13 (.aload_n 0) 1 14 := ⟨by decide +kernel, rfl⟩
theorem D_4_sumOf_14 : Dec m_4_sumOf 14 (.arraylength) 1 15 := ⟨by decide +kernel, rfl⟩
theorem D_4_sumOf_15 : DecJ m_4_sumOf 15 (.if_icmp .ge) 18 40 := ⟨25, by decide +kernel, rfl, rfl⟩
theorem D_4_sumOf_18 : Dec m_4_sumOf 18 (.iload_n 2) 1 19 := ⟨by decide +kernel, rfl⟩
theorem D_4_sumOf_19 : Dec m_4_sumOf 19 (.iload 4) 2 21 := ⟨by decide +kernel, rfl⟩
theorem D_4_sumOf_21 : Dec m_4_sumOf 21 (.invokestatic 84) 3 24 := ⟨by decide +kernel, rfl⟩
theorem D_4_sumOf_24 : DecJ m_4_sumOf 24 (.ifCond .eq) 27 34 := ⟨10, by decide +kernel, rfl, rfl⟩
theorem D_4_sumOf_27 : Dec m_4_sumOf 27 (.iload_n 3) 1 28 := ⟨by decide +kernel, rfl⟩
theorem D_4_sumOf_28 : Dec m_4_sumOf 28 (.aload_n 0) 1 29 := ⟨by decide +kernel, rfl⟩
theorem D_4_sumOf_29 : Dec m_4_sumOf 29 (.iload 4) 2 31 := ⟨by decide +kernel, rfl⟩
theorem D_4_sumOf_31 : Dec m_4_sumOf 31 (.iaload) 1 32 := ⟨by decide +kernel, rfl⟩
theorem D_4_sumOf_32 : Dec m_4_sumOf 32 (.iadd) 1 33 := ⟨by decide +kernel, rfl⟩
theorem D_4_sumOf_33 : Dec m_4_sumOf 33 (.istore_n 3) 1 34 := ⟨by decide +kernel, rfl⟩
theorem D_4_sumOf_34 : Dec m_4_sumOf 34 (.iinc 4 1) 3 37 := ⟨by decide +kernel, rfl⟩
theorem D_4_sumOf_37 : DecJ m_4_sumOf 37 (.goto) 40 5 := ⟨-32, by decide +kernel, rfl, rfl⟩
theorem D_4_sumOf_40 : Dec m_4_sumOf 40 (.iload_n 3) 1 41 := ⟨by decide +kernel, rfl⟩
theorem D_4_sumOf_41 : Dec m_4_sumOf 41 (.ireturn) 1 42 := ⟨by decide +kernel, rfl⟩
end
section
theorem D_0_init_0 : Dec m_0_init 0 (.aload_n 0) 1 1 := ⟨by decide +kernel, rfl⟩
theorem D_0_init_1 : Dec m_0_init 1 (.invokespecial 3) 3 4 := ⟨by decide +kernel, rfl⟩
theorem D_0_init_4 : Dec m_0_init 4 (.aload_n 0) 1 5 := ⟨by decide +kernel, rfl⟩
theorem D_0_init_5 : Dec m_0_init 5 (.iconst 5) 1 6 := ⟨by decide +kernel, rfl⟩
theorem D_0_init_6 : Dec m_0_init 6 (.newarray .int) 2 8 := ⟨by decide +kernel, rfl⟩
theorem D_0_init_8 : Dec m_0_init 8 (.putfield 9) 3 11 := ⟨by decide +kernel, rfl⟩
theorem D_0_init_11 : Dec m_0_init 11 (.aload_n 0) 1 12 := ⟨by decide +kernel, rfl⟩
theorem D_0_init_12 : Dec m_0_init 12 (.iconst 5) 1 13 := ⟨by decide +kernel, rfl⟩
theorem D_0_init_13 : Dec m_0_init 13 (.newarray .int) 2 15 := ⟨by decide +kernel, rfl⟩
theorem D_0_init_15 : Dec m_0_init 15 (.putfield 15) 3 18 := ⟨by decide +kernel, rfl⟩
theorem D_0_init_18 : Dec m_0_init 18 (.aload_n 0) 1 19 := ⟨by decide +kernel, rfl⟩
theorem D_0_init_19 : Dec m_0_init 19 (.iconst 5) 1 20 := ⟨by decide +kernel, rfl⟩
theorem D_0_init_20 : Dec m_0_init 20 (.newarray .int) 2 22 := ⟨by decide +kernel, rfl⟩
theorem D_0_init_22 : Dec m_0_init 22 (.putfield 18) 3 25 := ⟨by decide +kernel, rfl⟩
theorem D_0_init_25 : Dec m_0_init 25 (.aload_n 0) 1 26 := ⟨by decide +kernel, rfl⟩
theorem D_0_init_26 : Dec m_0_init 26 (.bipush 7) 2 28 := ⟨by decide +kernel, rfl⟩
theorem D_0_init_28 : Dec m_0_init 28 (.newarray .int) 2 30 := ⟨by decide +kernel, rfl⟩
theorem D_0_init_30 : Dec m_0_init 30 (.putfield 21) 3 33 := ⟨by decide +kernel, rfl⟩
theorem D_0_init_33 : Dec m_0_init 33 (.return_) 1 34 := ⟨by decide +kernel, rfl⟩
theorem D_0_begin_0 : Dec m_0_begin 0 (.aload_n 0) 1 1 := ⟨by decide +kernel, rfl⟩
theorem D_0_begin_1 : Dec m_0_begin 1 (.iconst 0) 1 2 := ⟨by decide +kernel, rfl⟩
theorem D_0_begin_2 : Dec m_0_begin 2 (.putfield 24) 3 5 := ⟨by decide +kernel, rfl⟩
theorem D_0_begin_5 : Dec m_0_begin 5 (.aload_n 0) 1 6 := ⟨by decide +kernel, rfl⟩
theorem D_0_begin_6 : Dec m_0_begin 6 (.iconst 1) 1 7 := ⟨by decide +kernel, rfl⟩
theorem D_0_begin_7 : Dec m_0_begin 7 (.aload_n 1) 1 8 := ⟨by decide +kernel, rfl⟩
theorem D_0_begin_8 : Dec m_0_begin 8 (.getfield 28) 3 11 := ⟨by decide +kernel, rfl⟩
theorem D_0_begin_11 : Dec m_0_begin 11 (.ishl) 1 12 := ⟨by decide +kernel, rfl⟩
theorem D_0_begin_12 : Dec m_0_begin 12 (.iconst 1) 1 13 := ⟨by decide +kernel, rfl⟩
theorem D_0_begin_13 : Dec m_0_begin 13 (.isub) 1 14 := ⟨by decide +kernel, rfl⟩
theorem D_0_begin_14 : Dec m_0_begin 14 (.putfield 33) 3 17 := ⟨by decide +kernel, rfl⟩
theorem D_0_begin_17 : Dec m_0_begin 17 (.aload_n 0) 1 18 := ⟨by decide +kernel, rfl⟩
theorem D_0_begin_18 : Dec m_0_begin 18 (.iconst 0) 1 19 := ⟨by decide +kernel, rfl⟩
theorem D_0_begin_19 : Dec m_0_begin 19 (.putfield 36) 3 22 := ⟨by decide +kernel, rfl⟩
theorem D_0_begin_22 : Dec m_0_begin 22 (.aload_n 0) 1 23 := ⟨by decide +kernel, rfl⟩
theorem D_0_begin_23 : Dec m_0_begin 23 (.iconst 0) 1 24 := ⟨by decide +kernel, rfl⟩
theorem D_0_begin_24 : Dec m_0_begin 24 (.putfield 39) 3 27 := ⟨by decide +kernel, rfl⟩
theorem D_0_begin_27 : Dec m_0_begin 27 (.aload_n 0) 1 28 := ⟨by decide +kernel, rfl⟩
theorem D_0_begin_28 : Dec m_0_begin 28 (.iconst 0) 1 29 := ⟨by decide +kernel, rfl⟩
theorem D_0_begin_29 : Dec m_0_begin 29 (.putfield 42) 3 32 := ⟨by decide +kernel, rfl⟩
theorem D_0_begin_32 : Dec m_0_begin 32 (.aload_n 0) 1 33 := ⟨by decide +kernel, rfl⟩
theorem D_0_begin_33 : Dec m_0_begin 33 (.iconst 0) 1 34 := ⟨by decide +kernel, rfl⟩
theorem D_0_begin_34 : Dec m_0_begin 34 (.putfield 45) 3 37 := ⟨by decide +kernel, rfl⟩
theorem D_0_begin_37 : Dec m_0_begin 37 (.iconst 0) 1 38 := ⟨by decide +kernel, rfl⟩
theorem D_0_begin_38 : Dec m_0_begin 38 (.istore_n 2) 1 39 := ⟨by decide +kernel, rfl⟩
theorem D_0_begin_39 : Dec m_0_begin 39 (.iload_n 2) 1 40 := ⟨by decide +kernel, rfl⟩
theorem D_0_begin_40 : Dec m_0_begin 40 (.iconst 5) 1 41 := ⟨by decide +kernel, rfl⟩
theorem D_0_begin_41 : DecJ m_0_begin 41 (.if_icmp .ge) 44 76 := ⟨35, by decide +kernel, rfl, rfl⟩
theorem D_0_begin_44 : Dec m_0_begin 44 (.aload_n 0) 1 45 := ⟨by decide +kernel, rfl⟩
theorem D_0_begin_45 : Dec m_0_begin 45 (.getfield 9) 3 48 := ⟨by decide +kernel, rfl⟩
theorem D_0_begin_48 : Dec m_0_begin 48 (.iload_n 2) 1 49 := ⟨by decide +kernel, rfl⟩
theorem D_0_begin_49 : Dec m_0_begin 49 (.aload_n 1) 1 50 := ⟨by decide +kernel, rfl⟩
theorem D_0_begin_50 : Dec m_0_begin 50 (.getfield 48) 3 53 := ⟨by decide +kernel, rfl⟩
theorem D_0_begin_53 : Dec m_0_begin 53 (.iload_n 2) 1 54 := ⟨by decide +kernel, rfl⟩
theorem D_0_begin_54 : Dec m_0_begin 54 (.iaload) 1 55 := ⟨by decide +kernel, rfl⟩
theorem D_0_begin_55 : Dec m_0_begin 55 (.iastore) 1 56 := ⟨by decide +kernel, rfl⟩
theorem D_0_begin_56 : Dec m_0_begin 56 (.aload_n 0) 1 57 := ⟨by decide +kernel, rfl⟩
theorem D_0_begin_57 : Dec m_0_begin 57 (.getfield 15) 3 60 := ⟨by decide +kernel, rfl⟩
theorem D_0_begin_60 : Dec m_0_begin 60 (.iload_n 2) 1 61 := ⟨by decide +kernel, rfl⟩
theorem D_0_begin_61 : Dec m_0_begin 61 (.iconst 0) 1 62 := ⟨by decide +kernel, rfl⟩
theorem D_0_begin_62 : Dec m_0_begin 62 (.iastore) 1 63 := ⟨by decide +kernel, rfl⟩
theorem D_0_begin_63 : Dec m_0_begin 63 (.aload_n 0) 1 64 := ⟨by decide +kernel, rfl⟩
theorem D_0_begin_64 : Dec m_0_begin 64 (.getfield 18) 3 67 := ⟨by decide +kernel, rfl⟩
theorem D_0_begin_67 : Dec m_0_begin 67 (.iload_n 2) 1 68 := ⟨by decide +kernel, rfl⟩
theorem D_0_begin_68 : Dec m_0_begin 68 (.iconst 0) 1 69 := ⟨by decide +kernel, rfl⟩
theorem D_0_begin_69 : Dec m_0_begin 69 (.iastore) 1 70 := ⟨by decide +kernel, rfl⟩
theorem D_0_begin_70 : Dec m_0_begin 70 (.iinc 2 1) 3 73 := ⟨by decide +kernel, rfl⟩
theorem D_0_begin_73 : DecJ m_0_begin 73 (.goto) 76 39 := ⟨-34, by decide +kernel, rfl, rfl⟩
theorem D_0_begin_76 : Dec m_0_begin 76 (.iconst 0) 1 77 := ⟨by decide +kernel, rfl⟩
theorem D_0_begin_77 : Dec m_0_begin 77 (.istore_n 2) 1 78 := ⟨by decide +kernel, rfl⟩
theorem D_0_begin_78 : Dec m_0_begin 78 (.iload_n 2) 1 79 := ⟨by decide +kernel, rfl⟩
theorem D_0_begin_79 : Dec m_0_begin 79 (.bipush 7) 2 81 := ⟨by decide +kernel, rfl⟩
theorem D_0_begin_81 : DecJ m_0_begin 81 (.if_icmp .ge) 84 97 := ⟨16, by decide +kernel, rfl, rfl⟩
theorem D_0_begin_84 : Dec m_0_begin 84 (.aload_n 0) 1 85 := ⟨by decide +kernel, rfl⟩
theorem D_0_begin_85 : Dec m_0_begin 85 (.getfield 21) 3 88 := ⟨by decide +kernel, rfl⟩
theorem D_0_begin_88 : Dec m_0_begin 88 (.iload_n 2) 1 89 := ⟨by decide +kernel, rfl⟩
theorem D_0_begin_89 : Dec m_0_begin 89 (.iconst 0) 1 90 := ⟨by decide +kernel, rfl⟩
theorem D_0_begin_90 : Dec m_0_begin 90 (.iastore) 1 91 := ⟨by decide +kernel, rfl⟩
theorem D_0_begin_91 : Dec m_0_begin 91 (.iinc 2 1) 3 94 := ⟨by decide +kernel, rfl⟩
theorem D_0_begin_94 : DecJ m_0_begin 94 (.goto) 97 78 := ⟨-16, by decide +kernel, rfl, rfl⟩
theorem D_0_begin_97 : Dec m_0_begin 97 (.return_) 1 98 := ⟨by decide +kernel, rfl⟩
theorem D_0_copyFrom_0 : Dec m_0_copyFrom 0 (.aload_n 0) 1 1 := ⟨by decide +kernel, rfl⟩
theorem D_0_copyFrom_1 : Dec m_0_copyFrom 1 (.aload_n 1) 1 2 := ⟨by decide +kernel, rfl⟩
theorem D_0_copyFrom_2 : Dec m_0_copyFrom 2 (.getfield 24) 3 5 := ⟨by decide +kernel, rfl⟩
theorem D_0_copyFrom_5 : Dec m_0_copyFrom 5 (.putfield 24) 3 8 := ⟨by decide +kernel, rfl⟩
theorem D_0_copyFrom_8 : Dec m_0_copyFrom 8 (.aload_n 0) 1 9 := ⟨by decide +kernel, rfl⟩
theorem D_0_copyFrom_9 : Dec m_0_copyFrom 9 (.aload_n 1) 1 10 := ⟨by decide +kernel, rfl⟩
theorem D_0_copyFrom_10 : Dec m_0_copyFrom 10 (.getfield 33) 3 13 := ⟨by decide +kernel, rfl⟩
theorem D_0_copyFrom_13 : Dec m_0_copyFrom 13 (.putfield 33) 3 16 := ⟨by decide +kernel, rfl⟩
theorem D_0_copyFrom_16 : Dec m_0_copyFrom 16 (.aload_n 0) 1 17 := ⟨by decide +kernel, rfl⟩
theorem D_0_copyFrom_17 : Dec m_0_copyFrom 17 (.aload_n 1) 1 18 := ⟨by decide +kernel, rfl⟩
theorem D_0_copyFrom_18 : Dec m_0_copyFrom 18 (.getfield 36) 3 21 := ⟨by decide +kernel, rfl⟩
theorem D_0_copyFrom_21 : Dec m_0_copyFrom 21 (.putfield 36) 3 24 := ⟨by decide +kernel, rfl⟩
theorem D_0_copyFrom_24 : Dec m_0_copyFrom 24 (.aload_n 0) 1 25 := ⟨by decide +kernel, rfl⟩
theorem D_0_copyFrom_25 : Dec m_0_copyFrom 25 (.aload_n 1) 1 26 := ⟨by decide +kernel, rfl⟩
theorem D_0_copyFrom_26 : Dec m_0_copyFrom 26 (.getfield 39) 3 29 := ⟨by decide +kernel, rfl⟩
theorem D_0_copyFrom_29 : Dec m_0_copyFrom 29 (.putfield 39) 3 32 := ⟨by decide +kernel, rfl⟩
theorem D_0_copyFrom_32 : Dec m_0_copyFrom 32 (.aload_n 0) 1 33 := ⟨by decide +kernel, rfl⟩
theorem D_0_copyFrom_33 : Dec m_0_copyFrom 33 (.aload_n 1) 1 34 := ⟨by decide +kernel, rfl⟩
theorem D_0_copyFrom_34 : Dec m_0_copyFrom 34 (.getfield 42) 3 37 := ⟨by decide +kernel, rfl⟩
theorem D_0_copyFrom_37 : Dec m_0_copyFrom 37 (.putfield 42) 3 40 := ⟨by decide +kernel, rfl⟩
theorem D_0_copyFrom_40 : Dec m_0_copyFrom 40 (.aload_n 0) 1 41 := ⟨by decide +kernel, rfl⟩
theorem D_0_copyFrom_41 : Dec m_0_copyFrom 41 (.aload_n 1) 1 42 := ⟨by decide +kernel, rfl⟩
theorem D_0_copyFrom_42 : Dec m_0_copyFrom 42 (.getfield 45) 3 45 := ⟨by decide +kernel, rfl⟩
theorem D_0_copyFrom_45 : Dec m_0_copyFrom 45 (.putfield 45) 3 48 := ⟨by decide +kernel, rfl⟩
theorem D_0_copyFrom_48 : Dec m_0_copyFrom 48 (.iconst 0) 1 49 := ⟨by decide +kernel, rfl⟩
theorem D_0_copyFrom_49 : Dec m_0_copyFrom 49 (.istore_n 2) 1 50 := ⟨by decide +kernel, rfl⟩
theorem D_0_copyFrom_50 : Dec m_0_copyFrom 50 (.iload_n 2) 1 51 := ⟨by decide +kernel, rfl⟩
theorem D_0_copyFrom_51 : Dec m_0_copyFrom 51 (.iconst 5) 1 52 := ⟨by decide +kernel, rfl⟩
theorem D_0_copyFrom_52 : DecJ m_0_copyFrom 52 (.if_icmp .ge) 55 97 := ⟨45, by decide +kernel, rfl, rfl⟩
theorem D_0_copyFrom_55 : Dec m_0_copyFrom 55 (.aload_n 0) 1 56 := ⟨by decide +kernel, rfl⟩
theorem D_0_copyFrom_56 : Dec m_0_copyFrom 56 (.getfield 9) 3 59 := ⟨by decide +kernel, rfl⟩
theorem D_0_copyFrom_59 : Dec m_0_copyFrom 59 (.iload_n 2) 1 60 := ⟨by decide +kernel, rfl⟩
theorem D_0_copyFrom_60 : Dec m_0_copyFrom 60 (.aload_n 1) 1 61 := ⟨by decide +kernel, rfl⟩
theorem D_0_copyFrom_61 : Dec m_0_copyFrom 61 (.getfield 9) 3 64 := ⟨by decide +kernel, rfl⟩
theorem D_0_copyFrom_64 : Dec m_0_copyFrom 64 (.iload_n 2) 1 65 := ⟨by decide +kernel, rfl⟩
theorem D_0_copyFrom_65 : Dec m_0_copyFrom 65 (.iaload) 1 66 := ⟨by decide +kernel, rfl⟩
theorem D_0_copyFrom_66 : Dec m_0_copyFrom 66 (.iastore) 1 67 := ⟨by decide +kernel, rfl⟩
theorem D_0_copyFrom_67 : Dec m_0_copyFrom 67 (.aload_n 0) 1 68 := ⟨by decide +kernel, rfl⟩
theorem D_0_copyFrom_68 : Dec m_0_copyFrom 68 (.getfield 15) 3 71 := ⟨by decide +kernel, rfl⟩
theorem D_0_copyFrom_71 : Dec m_0_copyFrom 71 (.iload_n 2) 1 72 := ⟨by decide +kernel, rfl⟩
theorem D_0_copyFrom_72 : Dec m_0_copyFrom 72 (.aload_n 1) 1 73 := ⟨by decide +kernel, rfl⟩
theorem D_0_copyFrom_73 : Dec m_0_copyFrom 73 (.getfield 15) 3 76 := ⟨by decide +kernel, rfl⟩
theorem D_0_copyFrom_76 : Dec m_0_copyFrom 76 (.iload_n 2) 1 77 := ⟨by decide +kernel, rfl⟩
theorem D_0_copyFrom_77 : Dec m_0_copyFrom 77 (.iaload) 1 78 := ⟨by decide +kernel, rfl⟩
theorem D_0_copyFrom_78 : Dec m_0_copyFrom 78 (.iastore) 1 79 := ⟨by decide +kernel, rfl⟩
theorem D_0_copyFrom_79 : Dec m_0_copyFrom 79 (.aload_n 0) 1 80 := ⟨by decide +kernel, rfl⟩
theorem D_0_copyFrom_80 : Dec m_0_copyFrom 80 (.getfield 18) 3 83 := ⟨by decide +kernel, rfl⟩
theorem D_0_copyFrom_83 : Dec m_0_copyFrom 83 (.iload_n 2) 1 84 := ⟨by decide +kernel, rfl⟩
theorem D_0_copyFrom_84 : Dec m_0_copyFrom 84 (.aload_n 1) 1 85 := ⟨by decide +kernel, rfl⟩
theorem D_0_copyFrom_85 : Dec m_0_copyFrom 85 (.getfield 18) 3 88 := ⟨by decide +kernel, rfl⟩
theorem D_0_copyFrom_88 : Dec m_0_copyFrom 88 (.iload_n 2) 1 89 := ⟨by decide +kernel, rfl⟩
theorem D_0_copyFrom_89 : Dec m_0_copyFrom 89 (.iaload) 1 90 := ⟨by decide +kernel, rfl⟩
theorem D_0_copyFrom_90 : Dec m_0_copyFrom 90 (.iastore) 1 91 := ⟨by decide +kernel, rfl⟩
theorem D_0_copyFrom_91 : Dec m_0_copyFrom 91 (.iinc 2 1) 3 94 := ⟨by decide +kernel, rfl⟩
theorem D_0_copyFrom_94 : DecJ m_0_copyFrom 94 (.goto) 97 50 := ⟨-44, by decide +kernel, rfl, rfl⟩
theorem D_0_copyFrom_97 : Dec m_0_copyFrom 97 (.iconst 0) 1 98 := ⟨by decide +kernel, rfl⟩
theorem D_0_copyFrom_98 : Dec m_0_copyFrom 98 (.istore_n 2) 1 99 := ⟨by decide +kernel, rfl⟩
theorem D_0_copyFrom_99 : Dec m_0_copyFrom 99 (.iload_n 2) 1 100 := ⟨by decide +kernel, rfl⟩
theorem D_0_copyFrom_100 : Dec m_0_copyFrom 100 (.bipush 7) 2 102 := ⟨by decide +kernel, rfl⟩
theorem D_0_copyFrom_102 : DecJ m_0_copyFrom 102 (.if_icmp .ge) 105 123 := ⟨21, by decide +kernel, rfl, rfl⟩
theorem D_0_copyFrom_105 : Dec m_0_copyFrom 105 (.aload_n 0) 1 106 := ⟨by decide +kernel, rfl⟩
theorem D_0_copyFrom_106 : Dec m_0_copyFrom 106 (.getfield 21) 3 109 := ⟨by decide +kernel, rfl⟩
theorem D_0_copyFrom_109 : Dec m_0_copyFrom 109 (.iload_n 2) 1 110 := ⟨by decide +kernel, rfl⟩
theorem D_0_copyFrom_110 : Dec m_0_copyFrom 110 (.aload_n 1) 1 111 := ⟨by decide +kernel, rfl⟩
theorem D_0_copyFrom_111 : Dec m_0_copyFrom 111 (.getfield 21) 3 114 := ⟨by decide +kernel, rfl⟩
theorem D_0_copyFrom_114 : Dec m_0_copyFrom 114 (.iload_n 2) 1 115 := ⟨by decide +kernel, rfl⟩
theorem D_0_copyFrom_115 : Dec m_0_copyFrom 115 (.iaload) 1 116 := ⟨by decide +kernel, rfl⟩
theorem D_0_copyFrom_116 : Dec m_0_copyFrom 116 (.iastore) 1 117 := ⟨by decide +kernel, rfl⟩
theorem D_0_copyFrom_117 : Dec m_0_copyFrom 117 (.iinc 2 1) 3 120 := ⟨by decide +kernel, rfl⟩
theorem D_0_copyFrom_120 : DecJ m_0_copyFrom 120 (.goto) 123 99 := ⟨-21, by decide +kernel, rfl, rfl⟩
theorem D_0_copyFrom_123 : Dec m_0_copyFrom 123 (.return_) 1 124 := ⟨by decide +kernel, rfl⟩
theorem D_0_aGrainMelts_0 : Dec m_0_aGrainMelts 0 (.aload_n 0) 1 1 := ⟨by decide +kernel, rfl⟩
theorem D_0_aGrainMelts_1 : Dec m_0_aGrainMelts 1 (.getfield 24) 3 4 := ⟨by decide +kernel, rfl⟩
theorem D_0_aGrainMelts_4 : Dec m_0_aGrainMelts 4 (.aload_n 0) 1 5 := ⟨by decide +kernel, rfl⟩
theorem D_0_aGrainMelts_5 : Dec m_0_aGrainMelts 5 (.getfield 45) 3 8 := ⟨by decide +kernel, rfl⟩
theorem D_0_aGrainMelts_8 : DecJ m_0_aGrainMelts 8 (.if_icmp .ge) 11 15 := ⟨7, by decide +kernel, rfl, rfl⟩
theorem D_0_aGrainMelts_11 : Dec m_0_aGrainMelts 11 (.iconst 1) 1 12 := ⟨by decide +kernel, rfl⟩
theorem D_0_aGrainMelts_12 : DecJ m_0_aGrainMelts 12 (.goto) 15 16 := ⟨4, by decide +kernel, rfl, rfl⟩
theorem D_0_aGrainMelts_15 : Dec m_0_aGrainMelts 15 (.iconst 0) 1 16 := ⟨by decide +kernel, rfl⟩
theorem D_0_aGrainMelts_16 : Dec m_0_aGrainMelts 16 (.ireturn) 1 17 := ⟨by decide +kernel, rfl⟩
theorem D_0_eatDish_0 : Dec m_0_eatDish 0 (.aload_n 1) 1 1 := ⟨by decide +kernel, rfl⟩
theorem D_0_eatDish_1 : Dec m_0_eatDish 1 (.getfield 49) 3 4 := ⟨by decide +kernel, rfl⟩
theorem D_0_eatDish_4 : Dec m_0_eatDish 4 (.iload_n 2) 1 5 := ⟨by decide +kernel, rfl⟩
theorem D_0_eatDish_5 : Dec m_0_eatDish 5 (.iaload) 1 6 := ⟨by decide +kernel, rfl⟩
theorem D_0_eatDish_6 : Dec m_0_eatDish 6 (.istore_n 3) 1 7 := ⟨by decide +kernel, rfl⟩
theorem D_0_eatDish_7 : Dec m_0_eatDish 7 (.aload_n 0) 1 8 := ⟨by decide +kernel, rfl⟩
theorem D_0_eatDish_8 : Dec m_0_eatDish 8 (.dup) 1 9 := ⟨by decide +kernel, rfl⟩
theorem D_0_eatDish_9 : Dec m_0_eatDish 9 (.getfield 39) 3 12 := ⟨by decide +kernel, rfl⟩
theorem D_0_eatDish_12 : Dec m_0_eatDish 12 (.iconst 1) 1 13 := ⟨by decide +kernel, rfl⟩
theorem D_0_eatDish_13 : Dec m_0_eatDish 13 (.iload_n 2) 1 14 := ⟨by decide +kernel, rfl⟩
theorem D_0_eatDish_14 : Dec m_0_eatDish 14 (.ishl) 1 15 := ⟨by decide +kernel, rfl⟩
theorem D_0_eatDish_15 : Dec m_0_eatDish 15 (.ior) 1 16 := ⟨by decide +kernel, rfl⟩
theorem D_0_eatDish_16 : Dec m_0_eatDish 16 (.putfield 39) 3 19 := ⟨by decide +kernel, rfl⟩
theorem D_0_eatDish_19 : Dec m_0_eatDish 19 (.aload_n 0) 1 20 := ⟨by decide +kernel, rfl⟩
theorem D_0_eatDish_20 : Dec m_0_eatDish 20 (.getfield 9) 3 23 := ⟨by decide +kernel, rfl⟩
theorem D_0_eatDish_23 : Dec m_0_eatDish 23 (.iload_n 3) 1 24 := ⟨by decide +kernel, rfl⟩
theorem D_0_eatDish_24 : Dec m_0_eatDish 24 (.iconst 1) 1 25 := ⟨by decide +kernel, rfl⟩
theorem D_0_eatDish_25 : Dec m_0_eatDish 25 (.bipush 9) 2 27 := ⟨by decide +kernel, rfl⟩
theorem D_0_eatDish_27 : Dec m_0_eatDish 27 (.aload_n 0) 1 28 := ⟨by decide +kernel, rfl⟩
theorem D_0_eatDish_28 : Dec m_0_eatDish 28 (.getfield 9) 3 31 := ⟨by decide +kernel, rfl⟩
theorem D_0_eatDish_31 : Dec m_0_eatDish 31 (.iload_n 3) 1 32 := ⟨by decide +kernel, rfl⟩
theorem D_0_eatDish_32 : Dec m_0_eatDish 32 (.iaload) 1 33 := ⟨by decide +kernel, rfl⟩
theorem D_0_eatDish_33 : Dec m_0_eatDish 33 (.aload_n 1) 1 34 := ⟨by decide +kernel, rfl⟩
theorem D_0_eatDish_34 : Dec m_0_eatDish 34 (.getfield 52) 3 37 := ⟨by decide +kernel, rfl⟩
theorem D_0_eatDish_37 : Dec m_0_eatDish 37 (.iload_n 2) 1 38 := ⟨by decide +kernel, rfl⟩
theorem D_0_eatDish_38 : Dec m_0_eatDish 38 (.iaload) 1 39 := ⟨by decide +kernel, rfl⟩
theorem D_0_eatDish_39 : Dec m_0_eatDish 39 (.iadd) 1 40 := ⟨by decide +kernel, rfl⟩
theorem D_0_eatDish_40 : Dec m_0_eatDish 40 (.invokestatic 55) 3 43 := ⟨by decide +kernel, rfl⟩
theorem D_0_eatDish_43 : Dec m_0_eatDish 43 (.invokestatic 61) 3 46 := ⟨by decide +kernel, rfl⟩
theorem D_0_eatDish_46 : Dec m_0_eatDish 46 (.iastore) 1 47 := ⟨by decide +kernel, rfl⟩
theorem D_0_eatDish_47 : Dec m_0_eatDish 47 (.aload_n 0) 1 48 := ⟨by decide +kernel, rfl⟩
theorem D_0_eatDish_48 : Dec m_0_eatDish 48 (.getfield 9) 3 51 := ⟨by decide +kernel, rfl⟩
theorem D_0_eatDish_51 : Dec m_0_eatDish 51 (.iload_n 3) 1 52 := ⟨by decide +kernel, rfl⟩
theorem D_0_eatDish_52 : Dec m_0_eatDish 52 (.iaload) 1 53 := ⟨by decide +kernel, rfl⟩
theorem D_0_eatDish_53 : Dec m_0_eatDish 53 (.ireturn) 1 54 := ⟨by decide +kernel, rfl⟩
theorem D_3_init_0 : Dec m_3_init 0 (.aload_n 0) 1 1 := ⟨by decide +kernel, rfl⟩
theorem D_3_init_1 : Dec m_3_init 1 (.invokespecial 3) 3 4 := ⟨by decide +kernel, rfl⟩
theorem D_3_init_4 : Dec m_3_init 4 (.aload_n 0) 1 5 := ⟨by decide +kernel, rfl⟩
theorem D_3_init_5 : Dec m_3_init 5 (.iconst 4) 1 6 := ⟨by decide +kernel, rfl⟩
theorem D_3_init_6 : Dec m_3_init 6 (.newarray .int) 2 8 := ⟨by decide +kernel, rfl⟩
theorem D_3_init_8 : Dec m_3_init 8 (.putfield 9) 3 11 := ⟨by decide +kernel, rfl⟩
theorem D_3_init_11 : Dec m_3_init 11 (.return_) 1 12 := ⟨by decide +kernel, rfl⟩
theorem D_3_readTable_0 : Dec m_3_readTable 0 (.aload_n 3) 1 1 := ⟨by decide +kernel, rfl⟩
theorem D_3_readTable_1 : Dec m_3_readTable 1 (.invokevirtual 15) 3 4 := ⟨by decide +kernel, rfl⟩
theorem D_3_readTable_4 : Dec m_3_readTable 4 (.iconst 0) 1 5 := ⟨by decide +kernel, rfl⟩
theorem D_3_readTable_5 : Dec m_3_readTable 5 (.istore 4) 2 7 := ⟨by decide +kernel, rfl⟩
theorem D_3_readTable_7 : Dec m_3_readTable 7 (.iload 4) 2 9 := ⟨by decide +kernel, rfl⟩
theorem D_3_readTable_9 : Dec m_3_readTable 9 (.iload_n 2) 1 10 := ⟨by decide +kernel, rfl⟩
theorem D_3_readTable_10 : DecJ m_3_readTable 10 (.if_icmp .ge) 13 59 := ⟨49, by decide +kernel, rfl, rfl⟩
theorem D_3_readTable_13 : Dec m_3_readTable 13 (.aload_n 0) 1 14 := ⟨by decide +kernel, rfl⟩
theorem D_3_readTable_14 : Dec m_3_readTable 14 (.aload_n 1) 1 15 := ⟨by decide +kernel, rfl⟩
theorem D_3_readTable_15 : Dec m_3_readTable 15 (.iload_n 2) 1 16 := ⟨by decide +kernel, rfl⟩
theorem D_3_readTable_16 : Dec m_3_readTable 16 (.iload 4) 2 18 := ⟨by decide +kernel, rfl⟩
theorem D_3_readTable_18 : Dec m_3_readTable 18 (.invokevirtual 20) 3 21 := ⟨by decide +kernel, rfl⟩
theorem D_3_readTable_21 : Dec m_3_readTable 21 (.istore 5) 2 23 := ⟨by decide +kernel, rfl⟩
theorem D_3_readTable_23 : Dec m_3_readTable 23 (.iload 5) 2 25 := ⟨by decide +kernel, rfl⟩
theorem D_3_readTable_25 : Dec m_3_readTable 25 (.iload 4) 2 27 := ⟨by decide +kernel, rfl⟩
theorem D_3_readTable_27 : DecJ m_3_readTable 27 (.if_icmp .le) 30 49 := ⟨22, by decide +kernel, rfl, rfl⟩
theorem D_3_readTable_30 : Dec m_3_readTable 30 (.aload_n 3) 1 31 := ⟨by decide +kernel, rfl⟩
theorem D_3_readTable_31 : Dec m_3_readTable 31 (.aload_n 0) 1 32 := ⟨by decide +kernel, rfl⟩
theorem D_3_readTable_32 : Dec m_3_readTable 32 (.getfield 24) 3 35 := ⟨by decide +kernel, rfl⟩
theorem D_3_readTable_35 : Dec m_3_readTable 35 (.aload_n 0) 1 36 := ⟨by decide +kernel, rfl⟩
theorem D_3_readTable_36 : Dec m_3_readTable 36 (.getfield 9) 3 39 := ⟨by decide +kernel, rfl⟩
theorem D_3_readTable_39 : Dec m_3_readTable 39 (.aload_n 0) 1 40 := ⟨by decide +kernel, rfl⟩
theorem D_3_readTable_40 : Dec m_3_readTable 40 (.getfield 28) 3 43 := ⟨by decide +kernel, rfl⟩
theorem D_3_readTable_43 : Dec m_3_readTable 43 (.invokevirtual 31) 3 46 := ⟨by decide +kernel, rfl⟩
theorem D_3_readTable_46 : DecJ m_3_readTable 46 (.ifCond .ne) 49 52 := ⟨6, by decide +kernel, rfl, rfl⟩
theorem D_3_readTable_49 : Dec m_3_readTable 49 (.iload 4) 2 51 := ⟨by decide +kernel, rfl⟩
theorem D_3_readTable_51 : Dec m_3_readTable 51 (.ireturn) 1 52 := ⟨by decide +kernel, rfl⟩
theorem D_3_readTable_52 : Dec m_3_readTable 52 (.iload 5) 2 54 := ⟨by decide +kernel, rfl⟩
theorem D_3_readTable_54 : Dec m_3_readTable 54 (.istore 4) 2 56 := ⟨by decide +kernel, rfl⟩
theorem D_3_readTable_56 : DecJ m_3_readTable 56 (.goto) 59 7 := ⟨-49, by decide +kernel, rfl, rfl⟩
theorem D_3_readTable_59 : Dec m_3_readTable 59 (.bipush (-4)) 2 61 := ⟨by decide +kernel, rfl⟩
theorem D_3_readTable_61 : Dec m_3_readTable 61 (.ireturn) 1 62 := ⟨by decide +kernel, rfl⟩
theorem D_3_readItem_0 : Dec m_3_readItem 0 (.iload_n 2) 1 1 := ⟨by decide +kernel, rfl⟩
theorem D_3_readItem_1 : Dec m_3_readItem 1 (.aload_n 1) 1 2 := ⟨by decide +kernel, rfl⟩
theorem D_3_readItem_2 : Dec m_3_readItem 2 (.arraylength) 1 3 := ⟨by decide +kernel, rfl⟩
theorem D_3_readItem_3 : Dec m_3_readItem 3 (.invokestatic 35) 3 6 := ⟨by decide +kernel, rfl⟩
theorem D_3_readItem_6 : Dec m_3_readItem 6 (.istore 4) 2 8 := ⟨by decide +kernel, rfl⟩
theorem D_3_readItem_8 : Dec m_3_readItem 8 (.iload_n 3) 1 9 := ⟨by decide +kernel, rfl⟩
theorem D_3_readItem_9 : DecJ m_3_readItem 9 (.ifCond .lt) 12 18 := ⟨9, by decide +kernel, rfl, rfl⟩
theorem D_3_readItem_12 : Dec m_3_readItem 12 (.iload_n 3) 1 13 := ⟨by decide +kernel, rfl⟩
theorem D_3_readItem_13 : Dec m_3_readItem 13 (.iload 4) 2 15 := ⟨by decide +kernel, rfl⟩
theorem D_3_readItem_15 : DecJ m_3_readItem 15 (.if_icmp .lt) 18 20 := ⟨5, by decide +kernel, rfl, rfl⟩
theorem D_3_readItem_18 : Dec m_3_readItem 18 (.iconst (-1)) 1 19 := ⟨by decide +kernel, rfl⟩
theorem D_3_readItem_19 : Dec m_3_readItem 19 (.ireturn) 1 20 := ⟨by decide +kernel, rfl⟩
theorem D_3_readItem_20 : Dec m_3_readItem 20 (.aload_n 0) 1 21 := ⟨by decide +kernel, rfl⟩
theorem D_3_readItem_21 : Dec m_3_readItem 21 (.aload_n 1) 1 22 := ⟨by decide +kernel, rfl⟩
theorem D_3_readItem_22 : Dec m_3_readItem 22 (.iload_n 3) 1 23 := ⟨by decide +kernel, rfl⟩
theorem D_3_readItem_23 : Dec m_3_readItem 23 (.baload) 1 24 := ⟨by decide +kernel, rfl⟩
theorem D_3_readItem_24 : Dec m_3_readItem 24 (.putfield 24) 3 27 := ⟨by decide +kernel, rfl⟩
theorem D_3_readItem_27 : Dec m_3_readItem 27 (.aload_n 0) 1 28 := ⟨by decide +kernel, rfl⟩
theorem D_3_readItem_28 : Dec m_3_readItem 28 (.iconst 0) 1 29 := ⟨by decide +kernel, rfl⟩
theorem D_3_readItem_29 : Dec m_3_readItem 29 (.putfield 28) 3 32 := ⟨by decide +kernel, rfl⟩
theorem D_3_readItem_32 : Dec m_3_readItem 32 (.iload_n 3) 1 33 := ⟨by decide +kernel, rfl⟩
theorem D_3_readItem_33 : Dec m_3_readItem 33 (.iconst 1) 1 34 := ⟨by decide +kernel, rfl⟩
theorem D_3_readItem_34 : Dec m_3_readItem 34 (.iadd) 1 35 := ⟨by decide +kernel, rfl⟩
theorem D_3_readItem_35 : Dec m_3_readItem 35 (.istore 5) 2 37 := ⟨by decide +kernel, rfl⟩
theorem D_3_readItem_37 : Dec m_3_readItem 37 (.aload_n 0) 1 38 := ⟨by decide +kernel, rfl⟩
theorem D_3_readItem_38 : Dec m_3_readItem 38 (.getfield 28) 3 41 := ⟨by decide +kernel, rfl⟩
theorem D_3_readItem_41 : Dec m_3_readItem 41 (.iconst 4) 1 42 := ⟨by decide +kernel, rfl⟩
theorem D_3_readItem_42 : DecJ m_3_readItem 42 (.if_icmp .ge) 45 164 := ⟨122, by decide +kernel, rfl, rfl⟩
theorem D_3_readItem_45 : Dec m_3_readItem 45 (.iconst 0) 1 46 := ⟨by decide +kernel, rfl⟩
theorem D_3_readItem_46 : Dec m_3_readItem 46 (.istore 6) 2 48 := ⟨by decide +kernel, rfl⟩
theorem D_3_readItem_48 : Dec m_3_readItem 48 (.iconst 0) 1 49 := ⟨by decide +kernel, rfl⟩
theorem D_3_readItem_49 : Dec m_3_readItem 49 (.istore 7) 2 51 := ⟨by decide +kernel, rfl⟩
theorem D_3_readItem_51 : Dec m_3_readItem 51 (.iload 7) 2 53 := ⟨by decide +kernel, rfl⟩
theorem D_3_readItem_53 : Dec m_3_readItem 53 (.iconst 2) 1 54 := ⟨by decide +kernel, rfl⟩
theorem D_3_readItem_54 : DecJ m_3_readItem 54 (.if_icmp .ge) 57 98 := ⟨44, by decide +kernel, rfl, rfl⟩
theorem D_3_readItem_57 : Dec m_3_readItem 57 (.iload 5) 2 59 := ⟨by decide +kernel, rfl⟩
theorem D_3_readItem_59 : Dec m_3_readItem 59 (.iload 4) 2 61 := ⟨by decide +kernel, rfl⟩
theorem D_3_readItem_61 : DecJ m_3_readItem 61 (.if_icmp .ge) 64 98 := ⟨37, by decide +kernel, rfl, rfl⟩
theorem D_3_readItem_64 : Dec m_3_readItem 64 (.aload_n 1) 1 65 := ⟨by decide +kernel, rfl⟩
theorem D_3_readItem_65 : Dec m_3_readItem 65 (.iload 5) 2 67 := ⟨by decide +kernel, rfl⟩
theorem D_3_readItem_67 : Dec m_3_readItem 67 (.baload) 1 68 := ⟨by decide +kernel, rfl⟩
theorem D_3_readItem_68 : Dec m_3_readItem 68 (.invokestatic 41) 3 71 := ⟨by decide +kernel, rfl⟩
theorem D_3_readItem_71 : DecJ m_3_readItem 71 (.ifCond .eq) 74 98 := ⟨27, by decide +kernel, rfl, rfl⟩
theorem D_3_readItem_74 : Dec m_3_readItem 74 (.iload 6) 2 76 := ⟨by decide +kernel, rfl⟩
theorem D_3_readItem_76 : Dec m_3_readItem 76 (.bipush 10) 2 78 := ⟨by decide +kernel, rfl⟩
theorem D_3_readItem_78 : Dec m_3_readItem 78 (.imul) 1 79 := ⟨by decide +kernel, rfl⟩
theorem D_3_readItem_79 : Dec m_3_readItem 79 (.aload_n 1) 1 80 := ⟨by decide +kernel, rfl⟩
theorem D_3_readItem_80 : Dec m_3_readItem 80 (.iload 5) 2 82 := ⟨by decide +kernel, rfl⟩
theorem D_3_readItem_82 : Dec m_3_readItem 82 (.baload) 1 83 := ⟨by decide +kernel, rfl⟩
theorem D_3_readItem_83 : Dec m_3_readItem 83 (.iadd) 1 84 := ⟨by decide +kernel, rfl⟩
theorem D_3_readItem_84 : Dec m_3_readItem 84 (.bipush 48) 2 86 := ⟨by decide +kernel, rfl⟩
theorem D_3_readItem_86 : Dec m_3_readItem 86 (.isub) 1 87 := ⟨by decide +kernel, rfl⟩
theorem D_3_readItem_87 : Dec m_3_readItem 87 (.istore 6) 2 89 := ⟨by decide +kernel, rfl⟩
theorem D_3_readItem_89 : Dec m_3_readItem 89 (.iinc 7 1) 3 92 := ⟨by decide +kernel, rfl⟩
theorem D_3_readItem_92 : Dec m_3_readItem 92 (.iinc 5 1) 3 95 := ⟨by decide +kernel, rfl⟩
theorem D_3_readItem_95 : DecJ m_3_readItem 95 (.goto) 98 51 := ⟨-44, by decide +kernel, rfl, rfl⟩
theorem D_3_readItem_98 : Dec m_3_readItem 98 (.iload 7) 2 100 := ⟨by decide +kernel, rfl⟩
theorem D_3_readItem_100 : DecJ m_3_readItem 100 (.ifCond .eq) 103 110 := ⟨10, by decide +kernel, rfl, rfl⟩
theorem D_3_readItem_103 : Dec m_3_readItem 103 (.iload 5) 2 105 := ⟨by decide +kernel, rfl⟩
theorem D_3_readItem_105 : Dec m_3_readItem 105 (.iload 4) 2 107 := ⟨by decide +kernel, rfl⟩
theorem D_3_readItem_107 : DecJ m_3_readItem 107 (.if_icmp .lt) 110 112 := ⟨5, by decide +kernel, rfl, rfl⟩
theorem D_3_readItem_110 : Dec m_3_readItem 110 (.iconst (-1)) 1 111 := ⟨by decide +kernel, rfl⟩
theorem D_3_readItem_111 : Dec m_3_readItem 111 (.ireturn) 1 112 := ⟨by decide +kernel, rfl⟩
theorem D_3_readItem_112 : Dec m_3_readItem 112 (.aload_n 0) 1 113 := ⟨by decide +kernel, rfl⟩
theorem D_3_readItem_113 : Dec m_3_readItem 113 (.getfield 9) 3 116 := ⟨by decide +kernel, rfl⟩
theorem D_3_readItem_116 : Dec m_3_readItem 116 (.aload_n 0) 1 117 := ⟨by decide +kernel, rfl⟩
theorem D_3_readItem_117 : Dec m_3_readItem 117 (.getfield 28) 3 120 := ⟨by decide +kernel, rfl⟩
theorem D_3_readItem_120 : Dec m_3_readItem 120 (.iload 6) 2 122 := ⟨by decide +kernel, rfl⟩
theorem D_3_readItem_122 : Dec m_3_readItem 122 (.iastore) 1 123 := ⟨by decide +kernel, rfl⟩
theorem D_3_readItem_123 : Dec m_3_readItem 123 (.aload_n 0) 1 124 := ⟨by decide +kernel, rfl⟩
theorem D_3_readItem_124 : Dec m_3_readItem 124 (.dup) 1 125 := ⟨by decide +kernel, rfl⟩
theorem D_3_readItem_125 : Dec m_3_readItem 125 (.getfield 28) 3 128 := ⟨by decide +kernel, rfl⟩
theorem D_3_readItem_128 : Dec m_3_readItem 128 (.iconst 1) 1 129 := ⟨by decide +kernel, rfl⟩
theorem D_3_readItem_129 : Dec m_3_readItem 129 (.iadd) 1 130 := ⟨by decide +kernel, rfl⟩
theorem D_3_readItem_130 : Dec m_3_readItem 130 (.putfield 28) 3 133 := ⟨by decide +kernel, rfl⟩
theorem D_3_readItem_133 : Dec m_3_readItem 133 (.aload_n 1) 1 134 := ⟨by decide +kernel, rfl⟩
theorem D_3_readItem_134 : Dec m_3_readItem 134 (.iload 5) 2 136 := ⟨by decide +kernel, rfl⟩
theorem D_3_readItem_136 : Dec m_3_readItem 136 (.baload) 1 137 := ⟨by decide +kernel, rfl⟩
theorem D_3_readItem_137 : Dec m_3_readItem 137 (.istore 8) 2 139 := ⟨by decide +kernel, rfl⟩
theorem D_3_readItem_139 : Dec m_3_readItem 139 (.iinc 5 1) 3 142 := ⟨by decide +kernel, rfl⟩
theorem D_3_readItem_142 : Dec m_3_readItem 142 (.iload 8) 2 144 := ⟨by decide +kernel, rfl⟩
theorem D_3_readItem_144 : Dec m_3_readItem 144 (.bipush 59) 2 146 := ⟨by decide +kernel, rfl⟩
theorem D_3_readItem_146 : DecJ m_3_readItem 146 (.if_icmp .ne) 149 152 := ⟨6, by decide +kernel, rfl, rfl⟩
theorem D_3_readItem_149 : Dec m_3_readItem 149 (.iload 5) 2 151 := ⟨by decide +kernel, rfl⟩
theorem D_3_readItem_151 : Dec m_3_readItem 151 (.ireturn) 1 152 := ⟨by decide +kernel, rfl⟩
theorem D_3_readItem_152 : Dec m_3_readItem 152 (.iload 8) 2 154 := ⟨by decide +kernel, rfl⟩
theorem D_3_readItem_154 : Dec m_3_readItem 154 (.bipush 44) 2 156 := ⟨by decide +kernel, rfl⟩
theorem D_3_readItem_156 : DecJ m_3_readItem 156 (.if_icmp .eq) 159 161 := ⟨5, by decide +kernel, rfl, rfl⟩
theorem D_3_readItem_159 : Dec m_3_readItem 159 (.iconst (-1)) 1 160 := ⟨by decide +kernel, rfl⟩
theorem D_3_readItem_160 : Dec m_3_readItem 160 (.ireturn) 1 161 := ⟨by decide +kernel, rfl⟩
theorem D_3_readItem_161 : DecJ m_3_readItem 161 (.goto) 164 37 := ⟨-124, by decide +kernel, rfl, rfl⟩
theorem D_3_readItem_164 : Dec m_3_readItem 164 (.iconst (-1)) 1 165 := ⟨by decide +kernel, rfl⟩
theorem D_3_readItem_165 : Dec m_3_readItem 165 (.ireturn) 1 166 := ⟨by decide +kernel, rfl⟩
theorem D_3_isFigure_0 : Dec m_3_isFigure 0 (.iload_n 0) 1 1 := ⟨by decide +kernel, rfl⟩
theorem D_3_isFigure_1 : Dec m_3_isFigure 1 (.bipush 48) 2 3 := ⟨by decide +kernel, rfl⟩
theorem D_3_isFigure_3 : DecJ m_3_isFigure 3 (.if_icmp .lt) 6 16 := ⟨13, by decide +kernel, rfl, rfl⟩
theorem D_3_isFigure_6 : Dec m_3_isFigure 6 (.iload_n 0) 1 7 := ⟨by decide +kernel, rfl⟩
theorem D_3_isFigure_7 : Dec m_3_isFigure 7 (.bipush 57) 2 9 := ⟨by decide +kernel, rfl⟩
theorem D_3_isFigure_9 : DecJ m_3_isFigure 9 (.if_icmp .gt) 12 16 := ⟨7, by decide +kernel, rfl, rfl⟩
theorem D_3_isFigure_12 : Dec m_3_isFigure 12 (.iconst 1) 1 13 := ⟨by decide +kernel, rfl⟩
theorem D_3_isFigure_13 : DecJ m_3_isFigure 13 (.goto) 16 17 := ⟨4, by decide +kernel, rfl, rfl⟩
theorem D_3_isFigure_16 : Dec m_3_isFigure 16 (.iconst 0) 1 17 := ⟨by decide +kernel, rfl⟩
theorem D_3_isFigure_17 : Dec m_3_isFigure 17 (.ireturn) 1 18 := ⟨by decide +kernel, rfl⟩
end
section
theorem D_1_init_0 : Dec m_1_init 0 (.aload_n 0) 1 1 := ⟨by decide +kernel, rfl⟩
theorem D_1_init_1 : Dec m_1_init 1 (.invokespecial 3) 3 4 := ⟨by decide +kernel, rfl⟩
theorem D_1_init_4 : Dec m_1_init 4 (.aload_n 0) 1 5 := ⟨by decide +kernel, rfl⟩
theorem D_1_init_5 : Dec m_1_init 5 (.bipush 8) 2 7 := ⟨by decide +kernel, rfl⟩
theorem D_1_init_7 : Dec m_1_init 7 (.sipush 256) 3 10 := ⟨by decide +kernel, rfl⟩
theorem D_1_init_10 : Dec m_1_init 10 (.multianewarray 9 2) 4 14 := ⟨by decide +kernel, rfl⟩
theorem D_1_init_14 : Dec m_1_init 14 (.putfield 11) 3 17 := ⟨by decide +kernel, rfl⟩
theorem D_1_init_17 : Dec m_1_init 17 (.aload_n 0) 1 18 := ⟨by decide +kernel, rfl⟩
theorem D_1_init_18 : Dec m_1_init 18 (.bipush 7) 2 20 := ⟨by decide +kernel, rfl⟩
theorem D_1_init_20 : Dec m_1_init 20 (.newarray .int) 2 22 := ⟨by decide +kernel, rfl⟩
theorem D_1_init_22 : Dec m_1_init 22 (.putfield 16) 3 25 := ⟨by decide +kernel, rfl⟩
theorem D_1_init_25 : Dec m_1_init 25 (.return_) 1 26 := ⟨by decide +kernel, rfl⟩
theorem D_1_give_0 : Dec m_1_give 0 (.iconst 0) 1 1 := ⟨by decide +kernel, rfl⟩
theorem D_1_give_1 : Dec m_1_give 1 (.istore_n 3) 1 2 := ⟨by decide +kernel, rfl⟩
theorem D_1_give_2 : Dec m_1_give 2 (.iload_n 3) 1 3 := ⟨by decide +kernel, rfl⟩
theorem D_1_give_3 : Dec m_1_give 3 (.iconst 1) 1 4 := ⟨by decide +kernel, rfl⟩
theorem D_1_give_4 : Dec m_1_give 4 (.aload_n 1) 1 5 := ⟨by decide +kernel, rfl⟩
theorem D_1_give_5 : Dec m_1_give 5 (.getfield 20) 3 8 := ⟨by decide +kernel, rfl⟩
theorem D_1_give_8 : Dec m_1_give 8 (.ishl) 1 9 := ⟨by decide +kernel, rfl⟩
theorem D_1_give_9 : DecJ m_1_give 9 (.if_icmp .ge) 12 30 := ⟨21, by decide +kernel, rfl, rfl⟩
theorem D_1_give_12 : Dec m_1_give 12 (.aload_n 0) 1 13 := ⟨by decide +kernel, rfl⟩
theorem D_1_give_13 : Dec m_1_give 13 (.getfield 11) 3 16 := ⟨by decide +kernel, rfl⟩
theorem D_1_give_16 : Dec m_1_give 16 (.aload_n 1) 1 17 := ⟨by decide +kernel, rfl⟩
theorem D_1_give_17 : Dec m_1_give 17 (.getfield 26) 3 20 := ⟨by decide +kernel, rfl⟩
theorem D_1_give_20 : Dec m_1_give 20 (.aaload) 1 21 := ⟨by decide +kernel, rfl⟩
theorem D_1_give_21 : Dec m_1_give 21 (.iload_n 3) 1 22 := ⟨by decide +kernel, rfl⟩
theorem D_1_give_22 : Dec m_1_give 22 (.iconst 0) 1 23 := ⟨by decide +kernel, rfl⟩
theorem D_1_give_23 : Dec m_1_give 23 (.iastore) 1 24 := ⟨by decide +kernel, rfl⟩
theorem D_1_give_24 : Dec m_1_give 24 (.iinc 3 1) 3 27 := ⟨by decide +kernel, rfl⟩
theorem D_1_give_27 : DecJ m_1_give 27 (.goto) 30 2 := ⟨-25, by decide +kernel, rfl, rfl⟩
theorem D_1_give_30 : Dec m_1_give 30 (.aload_n 1) 1 31 := ⟨by decide +kernel, rfl⟩
theorem D_1_give_31 : Dec m_1_give 31 (.getfield 26) 3 34 := ⟨by decide +kernel, rfl⟩
theorem D_1_give_34 : Dec m_1_give 34 (.iconst 1) 1 35 := ⟨by decide +kernel, rfl⟩
theorem D_1_give_35 : Dec m_1_give 35 (.isub) 1 36 := ⟨by decide +kernel, rfl⟩
theorem D_1_give_36 : Dec m_1_give 36 (.istore_n 3) 1 37 := ⟨by decide +kernel, rfl⟩
theorem D_1_give_37 : Dec m_1_give 37 (.iload_n 3) 1 38 := ⟨by decide +kernel, rfl⟩
theorem D_1_give_38 : DecJ m_1_give 38 (.ifCond .lt) 41 90 := ⟨52, by decide +kernel, rfl, rfl⟩
theorem D_1_give_41 : Dec m_1_give 41 (.iconst 0) 1 42 := ⟨by decide +kernel, rfl⟩
theorem D_1_give_42 : Dec m_1_give 42 (.istore 4) 2 44 := ⟨by decide +kernel, rfl⟩
theorem D_1_give_44 : Dec m_1_give 44 (.iload 4) 2 46 := ⟨by decide +kernel, rfl⟩
theorem D_1_give_46 : Dec m_1_give 46 (.iconst 1) 1 47 := ⟨by decide +kernel, rfl⟩
theorem D_1_give_47 : Dec m_1_give 47 (.aload_n 1) 1 48 := ⟨by decide +kernel, rfl⟩
theorem D_1_give_48 : Dec m_1_give 48 (.getfield 20) 3 51 := ⟨by decide +kernel, rfl⟩
theorem D_1_give_51 : Dec m_1_give 51 (.ishl) 1 52 := ⟨by decide +kernel, rfl⟩
theorem D_1_give_52 : DecJ m_1_give 52 (.if_icmp .ge) 55 84 := ⟨32, by decide +kernel, rfl, rfl⟩
theorem D_1_give_55 : Dec m_1_give 55 (.aload_n 0) 1 56 := ⟨by decide +kernel, rfl⟩
theorem D_1_give_56 : Dec m_1_give 56 (.getfield 11) 3 59 := ⟨by decide +kernel, rfl⟩
theorem D_1_give_59 : Dec m_1_give 59 (.iload_n 3) 1 60 := ⟨by decide +kernel, rfl⟩
theorem D_1_give_60 : Dec m_1_give 60 (.aaload) 1 61 := ⟨by decide +kernel, rfl⟩
theorem D_1_give_61 : Dec m_1_give 61 (.iload 4) 2 63 := ⟨by decide +kernel, rfl⟩
theorem D_1_give_63 : Dec m_1_give 63 (.aload_n 0) 1 64 := ⟨by decide +kernel, rfl⟩
theorem D_1_give_64 : Dec m_1_give 64 (.aload_n 1) 1 65 := ⟨by decide +kernel, rfl⟩
theorem D_1_give_65 : Dec m_1_give 65 (.aload_n 1) 1 66 := ⟨by decide +kernel, rfl⟩
theorem D_1_give_66 : Dec m_1_give 66 (.aload_n 2) 1 67 := ⟨by decide +kernel, rfl⟩
theorem D_1_give_67 : Dec m_1_give 67 (.iload_n 3) 1 68 := ⟨by decide +kernel, rfl⟩
theorem D_1_give_68 : Dec m_1_give 68 (.invokestatic 29) 3 71 := ⟨by decide +kernel, rfl⟩
theorem D_1_give_71 : Dec m_1_give 71 (.iload_n 3) 1 72 := ⟨by decide +kernel, rfl⟩
theorem D_1_give_72 : Dec m_1_give 72 (.iload 4) 2 74 := ⟨by decide +kernel, rfl⟩
theorem D_1_give_74 : Dec m_1_give 74 (.invokevirtual 33) 3 77 := ⟨by decide +kernel, rfl⟩
theorem D_1_give_77 : Dec m_1_give 77 (.iastore) 1 78 := ⟨by decide +kernel, rfl⟩
theorem D_1_give_78 : Dec m_1_give 78 (.iinc 4 1) 3 81 := ⟨by decide +kernel, rfl⟩
theorem D_1_give_81 : DecJ m_1_give 81 (.goto) 84 44 := ⟨-37, by decide +kernel, rfl, rfl⟩
theorem D_1_give_84 : Dec m_1_give 84 (.iinc 3 (-1)) 3 87 := ⟨by decide +kernel, rfl⟩
theorem D_1_give_87 : DecJ m_1_give 87 (.goto) 90 37 := ⟨-50, by decide +kernel, rfl, rfl⟩
theorem D_1_give_90 : Dec m_1_give 90 (.aload_n 0) 1 91 := ⟨by decide +kernel, rfl⟩
theorem D_1_give_91 : Dec m_1_give 91 (.aload_n 1) 1 92 := ⟨by decide +kernel, rfl⟩
theorem D_1_give_92 : Dec m_1_give 92 (.aload_n 2) 1 93 := ⟨by decide +kernel, rfl⟩
theorem D_1_give_93 : Dec m_1_give 93 (.invokevirtual 37) 3 96 := ⟨by decide +kernel, rfl⟩
theorem D_1_give_96 : Dec m_1_give 96 (.return_) 1 97 := ⟨by decide +kernel, rfl⟩
theorem D_1_grainsFor_0 : Dec m_1_grainsFor 0 (.aload_n 1) 1 1 := ⟨by decide +kernel, rfl⟩
theorem D_1_grainsFor_1 : Dec m_1_grainsFor 1 (.getfield 41) 3 4 := ⟨by decide +kernel, rfl⟩
theorem D_1_grainsFor_4 : Dec m_1_grainsFor 4 (.iload_n 2) 1 5 := ⟨by decide +kernel, rfl⟩
theorem D_1_grainsFor_5 : Dec m_1_grainsFor 5 (.invokestatic 46) 3 8 := ⟨by decide +kernel, rfl⟩
theorem D_1_grainsFor_8 : DecJ m_1_grainsFor 8 (.ifCond .eq) 11 13 := ⟨5, by decide +kernel, rfl, rfl⟩
theorem D_1_grainsFor_11 : Dec m_1_grainsFor 11 (.iconst 0) 1 12 := ⟨by decide +kernel, rfl⟩
theorem D_1_grainsFor_12 : Dec m_1_grainsFor 12 (.ireturn) 1 13 := ⟨by decide +kernel, rfl⟩
theorem D_1_grainsFor_13 : Dec m_1_grainsFor 13 (.iconst 0) 1 14 := ⟨by decide +kernel, rfl⟩
theorem D_1_grainsFor_14 : Dec m_1_grainsFor 14 (.istore_n 3) 1 15 := ⟨by decide +kernel, rfl⟩
theorem D_1_grainsFor_15 : Dec m_1_grainsFor 15 (.iconst 0) 1 16 := ⟨by decide +kernel, rfl⟩
theorem D_1_grainsFor_16 : Dec m_1_grainsFor 16 (.istore 4) 2 18 := ⟨by decide +kernel, rfl⟩
theorem D_1_grainsFor_18 : Dec m_1_grainsFor 18 (.iload 4) 2 20 := ⟨by decide +kernel, rfl⟩
theorem D_1_grainsFor_20 : Dec m_1_grainsFor 20 (.aload_n 0) 1 21 := ⟨by decide +kernel, rfl⟩
theorem D_1_grainsFor_21 : Dec m_1_grainsFor 21 (.getfield 20) 3 24 := ⟨by decide +kernel, rfl⟩
theorem D_1_grainsFor_24 : DecJ m_1_grainsFor 24 (.if_icmp .ge) 27 68 := ⟨44, by decide +kernel, rfl, rfl⟩
theorem D_1_grainsFor_27 : Dec m_1_grainsFor 27 (.aload_n 0) 1 28 := ⟨by decide +kernel, rfl⟩
theorem D_1_grainsFor_28 : Dec m_1_grainsFor 28 (.getfield 50) 3 31 := ⟨by decide +kernel, rfl⟩
theorem D_1_grainsFor_31 : Dec m_1_grainsFor 31 (.iload 4) 2 33 := ⟨by decide +kernel, rfl⟩
theorem D_1_grainsFor_33 : Dec m_1_grainsFor 33 (.iaload) 1 34 := ⟨by decide +kernel, rfl⟩
theorem D_1_grainsFor_34 : Dec m_1_grainsFor 34 (.aload_n 1) 1 35 := ⟨by decide +kernel, rfl⟩
theorem D_1_grainsFor_35 : Dec m_1_grainsFor 35 (.getfield 53) 3 38 := ⟨by decide +kernel, rfl⟩
theorem D_1_grainsFor_38 : Dec m_1_grainsFor 38 (.aload_n 0) 1 39 := ⟨by decide +kernel, rfl⟩
theorem D_1_grainsFor_39 : Dec m_1_grainsFor 39 (.getfield 56) 3 42 := ⟨by decide +kernel, rfl⟩
theorem D_1_grainsFor_42 : Dec m_1_grainsFor 42 (.iload_n 2) 1 43 := ⟨by decide +kernel, rfl⟩
theorem D_1_grainsFor_43 : Dec m_1_grainsFor 43 (.iaload) 1 44 := ⟨by decide +kernel, rfl⟩
theorem D_1_grainsFor_44 : Dec m_1_grainsFor 44 (.iaload) 1 45 := ⟨by decide +kernel, rfl⟩
theorem D_1_grainsFor_45 : Dec m_1_grainsFor 45 (.imul) 1 46 := ⟨by decide +kernel, rfl⟩
theorem D_1_grainsFor_46 : Dec m_1_grainsFor 46 (.aload_n 0) 1 47 := ⟨by decide +kernel, rfl⟩
theorem D_1_grainsFor_47 : Dec m_1_grainsFor 47 (.getfield 59) 3 50 := ⟨by decide +kernel, rfl⟩
theorem D_1_grainsFor_50 : Dec m_1_grainsFor 50 (.iload_n 2) 1 51 := ⟨by decide +kernel, rfl⟩
theorem D_1_grainsFor_51 : Dec m_1_grainsFor 51 (.iaload) 1 52 := ⟨by decide +kernel, rfl⟩
theorem D_1_grainsFor_52 : DecJ m_1_grainsFor 52 (.if_icmp .lt) 55 62 := ⟨10, by decide +kernel, rfl, rfl⟩
theorem D_1_grainsFor_55 : Dec m_1_grainsFor 55 (.iload_n 3) 1 56 := ⟨by decide +kernel, rfl⟩
theorem D_1_grainsFor_56 : Dec m_1_grainsFor 56 (.iconst 1) 1 57 := ⟨by decide +kernel, rfl⟩
theorem D_1_grainsFor_57 : Dec m_1_grainsFor 57 (.iload 4) 2 59 := ⟨by decide +kernel, rfl⟩
theorem D_1_grainsFor_59 : Dec m_1_grainsFor 59 (.ishl) 1 60 := ⟨by decide +kernel, rfl⟩
theorem D_1_grainsFor_60 : Dec m_1_grainsFor 60 (.ior) 1 61 := ⟨by decide +kernel, rfl⟩
theorem D_1_grainsFor_61 : Dec m_1_grainsFor 61 (.istore_n 3) 1 62 := ⟨by decide +kernel, rfl⟩
theorem D_1_grainsFor_62 : Dec m_1_grainsFor 62 (.iinc 4 1) 3 65 := ⟨by decide +kernel, rfl⟩
theorem D_1_grainsFor_65 : DecJ m_1_grainsFor 65 (.goto) 68 18 := ⟨-47, by decide +kernel, rfl, rfl⟩
theorem D_1_grainsFor_68 : Dec m_1_grainsFor 68 (.iload_n 3) 1 69 := ⟨by decide +kernel, rfl⟩
theorem D_1_grainsFor_69 : Dec m_1_grainsFor 69 (.ireturn) 1 70 := ⟨by decide +kernel, rfl⟩
theorem D_1_mostFrom_0 : Dec m_1_mostFrom 0 (.aload_n 0) 1 1 := ⟨by decide +kernel, rfl⟩
theorem D_1_mostFrom_1 : Dec m_1_mostFrom 1 (.getfield 11) 3 4 := ⟨by decide +kernel, rfl⟩
theorem D_1_mostFrom_4 : Dec m_1_mostFrom 4 (.iload_n 3) 1 5 := ⟨by decide +kernel, rfl⟩
theorem D_1_mostFrom_5 : Dec m_1_mostFrom 5 (.iconst 1) 1 6 := ⟨by decide +kernel, rfl⟩
theorem D_1_mostFrom_6 : Dec m_1_mostFrom 6 (.iadd) 1 7 := ⟨by decide +kernel, rfl⟩
theorem D_1_mostFrom_7 : Dec m_1_mostFrom 7 (.aaload) 1 8 := ⟨by decide +kernel, rfl⟩
theorem D_1_mostFrom_8 : Dec m_1_mostFrom 8 (.iload 4) 2 10 := ⟨by decide +kernel, rfl⟩
theorem D_1_mostFrom_10 : Dec m_1_mostFrom 10 (.iaload) 1 11 := ⟨by decide +kernel, rfl⟩
theorem D_1_mostFrom_11 : Dec m_1_mostFrom 11 (.istore 5) 2 13 := ⟨by decide +kernel, rfl⟩
theorem D_1_mostFrom_13 : Dec m_1_mostFrom 13 (.iconst 0) 1 14 := ⟨by decide +kernel, rfl⟩
theorem D_1_mostFrom_14 : Dec m_1_mostFrom 14 (.istore 6) 2 16 := ⟨by decide +kernel, rfl⟩
theorem D_1_mostFrom_16 : Dec m_1_mostFrom 16 (.iload 6) 2 18 := ⟨by decide +kernel, rfl⟩
theorem D_1_mostFrom_18 : Dec m_1_mostFrom 18 (.aload_n 1) 1 19 := ⟨by decide +kernel, rfl⟩
theorem D_1_mostFrom_19 : Dec m_1_mostFrom 19 (.getfield 20) 3 22 := ⟨by decide +kernel, rfl⟩
theorem D_1_mostFrom_22 : DecJ m_1_mostFrom 22 (.if_icmp .ge) 25 75 := ⟨53, by decide +kernel, rfl, rfl⟩
theorem D_1_mostFrom_25 : Dec m_1_mostFrom 25 (.iload 4) 2 27 := ⟨by decide +kernel, rfl⟩
theorem D_1_mostFrom_27 : Dec m_1_mostFrom 27 (.iload_n 2) 1 28 := ⟨by decide +kernel, rfl⟩
theorem D_1_mostFrom_28 : Dec m_1_mostFrom 28 (.iand) 1 29 := ⟨by decide +kernel, rfl⟩
theorem D_1_mostFrom_29 : Dec m_1_mostFrom 29 (.iload 6) 2 31 := ⟨by decide +kernel, rfl⟩
theorem D_1_mostFrom_31 : Dec m_1_mostFrom 31 (.invokestatic 46) 3 34 := ⟨by decide +kernel, rfl⟩
theorem D_1_mostFrom_34 : DecJ m_1_mostFrom 34 (.ifCond .eq) 37 69 := ⟨35, by decide +kernel, rfl, rfl⟩
theorem D_1_mostFrom_37 : Dec m_1_mostFrom 37 (.iload 5) 2 39 := ⟨by decide +kernel, rfl⟩
theorem D_1_mostFrom_39 : Dec m_1_mostFrom 39 (.aload_n 1) 1 40 := ⟨by decide +kernel, rfl⟩
theorem D_1_mostFrom_40 : Dec m_1_mostFrom 40 (.getfield 62) 3 43 := ⟨by decide +kernel, rfl⟩
theorem D_1_mostFrom_43 : Dec m_1_mostFrom 43 (.iload_n 3) 1 44 := ⟨by decide +kernel, rfl⟩
theorem D_1_mostFrom_44 : Dec m_1_mostFrom 44 (.iaload) 1 45 := ⟨by decide +kernel, rfl⟩
theorem D_1_mostFrom_45 : Dec m_1_mostFrom 45 (.aload_n 0) 1 46 := ⟨by decide +kernel, rfl⟩
theorem D_1_mostFrom_46 : Dec m_1_mostFrom 46 (.getfield 11) 3 49 := ⟨by decide +kernel, rfl⟩
theorem D_1_mostFrom_49 : Dec m_1_mostFrom 49 (.iload_n 3) 1 50 := ⟨by decide +kernel, rfl⟩
theorem D_1_mostFrom_50 : Dec m_1_mostFrom 50 (.iconst 1) 1 51 := ⟨by decide +kernel, rfl⟩
theorem D_1_mostFrom_51 : Dec m_1_mostFrom 51 (.iadd) 1 52 := ⟨by decide +kernel, rfl⟩
theorem D_1_mostFrom_52 : Dec m_1_mostFrom 52 (.aaload) 1 53 := ⟨by decide +kernel, rfl⟩
theorem D_1_mostFrom_53 : Dec m_1_mostFrom 53 (.iload 4) 2 55 := ⟨by decide +kernel, rfl⟩
theorem D_1_mostFrom_55 : Dec m_1_mostFrom 55 (.iconst 1) 1 56 := ⟨by decide +kernel, rfl⟩
theorem D_1_mostFrom_56 : Dec m_1_mostFrom 56 (.iload 6) 2 58 := ⟨by decide +kernel, rfl⟩
theorem D_1_mostFrom_58 : Dec m_1_mostFrom 58 (.ishl) 1 59 := ⟨by decide +kernel, rfl⟩
theorem D_1_mostFrom_59 : Dec m_1_mostFrom 59 (.iconst (-1)) 1 60 := ⟨by decide +kernel, rfl⟩
theorem D_1_mostFrom_60 : Dec m_1_mostFrom 60 (.ixor) 1 61 := ⟨by decide +kernel, rfl⟩
theorem D_1_mostFrom_61 : Dec m_1_mostFrom 61 (.iand) 1 62 := ⟨by decide +kernel, rfl⟩
theorem D_1_mostFrom_62 : Dec m_1_mostFrom 62 (.iaload) 1 63 := ⟨by decide +kernel, rfl⟩
theorem D_1_mostFrom_63 : Dec m_1_mostFrom 63 (.iadd) 1 64 := ⟨by decide +kernel, rfl⟩
theorem D_1_mostFrom_64 : Dec m_1_mostFrom 64 (.invokestatic 65) 3 67 := ⟨by decide +kernel, rfl⟩
theorem D_1_mostFrom_67 : Dec m_1_mostFrom 67 (.istore 5) 2 69 := ⟨by decide +kernel, rfl⟩
theorem D_1_mostFrom_69 : Dec m_1_mostFrom 69 (.iinc 6 1) 3 72 := ⟨by decide +kernel, rfl⟩
theorem D_1_mostFrom_72 : DecJ m_1_mostFrom 72 (.goto) 75 16 := ⟨-56, by decide +kernel, rfl, rfl⟩
theorem D_1_mostFrom_75 : Dec m_1_mostFrom 75 (.iload 5) 2 77 := ⟨by decide +kernel, rfl⟩
theorem D_1_mostFrom_77 : Dec m_1_mostFrom 77 (.ireturn) 1 78 := ⟨by decide +kernel, rfl⟩
theorem D_1_giveFirst_0 : Dec m_1_giveFirst 0 (.aload_n 0) 1 1 := ⟨by decide +kernel, rfl⟩
theorem D_1_giveFirst_1 : Dec m_1_giveFirst 1 (.iconst 0) 1 2 := ⟨by decide +kernel, rfl⟩
theorem D_1_giveFirst_2 : Dec m_1_giveFirst 2 (.putfield 71) 3 5 := ⟨by decide +kernel, rfl⟩
theorem D_1_giveFirst_5 : Dec m_1_giveFirst 5 (.aload_n 2) 1 6 := ⟨by decide +kernel, rfl⟩
theorem D_1_giveFirst_6 : Dec m_1_giveFirst 6 (.getfield 74) 3 9 := ⟨by decide +kernel, rfl⟩
theorem D_1_giveFirst_9 : Dec m_1_giveFirst 9 (.istore_n 3) 1 10 := ⟨by decide +kernel, rfl⟩
theorem D_1_giveFirst_10 : Dec m_1_giveFirst 10 (.iconst 0) 1 11 := ⟨by decide +kernel, rfl⟩
theorem D_1_giveFirst_11 : Dec m_1_giveFirst 11 (.istore 4) 2 13 := ⟨by decide +kernel, rfl⟩
theorem D_1_giveFirst_13 : Dec m_1_giveFirst 13 (.iload 4) 2 15 := ⟨by decide +kernel, rfl⟩
theorem D_1_giveFirst_15 : Dec m_1_giveFirst 15 (.aload_n 1) 1 16 := ⟨by decide +kernel, rfl⟩
theorem D_1_giveFirst_16 : Dec m_1_giveFirst 16 (.getfield 26) 3 19 := ⟨by decide +kernel, rfl⟩
theorem D_1_giveFirst_19 : DecJ m_1_giveFirst 19 (.if_icmp .ge) 22 85 := ⟨66, by decide +kernel, rfl, rfl⟩
theorem D_1_giveFirst_22 : Dec m_1_giveFirst 22 (.aload_n 0) 1 23 := ⟨by decide +kernel, rfl⟩
theorem D_1_giveFirst_23 : Dec m_1_giveFirst 23 (.aload_n 1) 1 24 := ⟨by decide +kernel, rfl⟩
theorem D_1_giveFirst_24 : Dec m_1_giveFirst 24 (.iload_n 3) 1 25 := ⟨by decide +kernel, rfl⟩
theorem D_1_giveFirst_25 : Dec m_1_giveFirst 25 (.aload_n 1) 1 26 := ⟨by decide +kernel, rfl⟩
theorem D_1_giveFirst_26 : Dec m_1_giveFirst 26 (.aload_n 2) 1 27 := ⟨by decide +kernel, rfl⟩
theorem D_1_giveFirst_27 : Dec m_1_giveFirst 27 (.iload 4) 2 29 := ⟨by decide +kernel, rfl⟩
theorem D_1_giveFirst_29 : Dec m_1_giveFirst 29 (.invokestatic 29) 3 32 := ⟨by decide +kernel, rfl⟩
theorem D_1_giveFirst_32 : Dec m_1_giveFirst 32 (.iand) 1 33 := ⟨by decide +kernel, rfl⟩
theorem D_1_giveFirst_33 : Dec m_1_giveFirst 33 (.iload 4) 2 35 := ⟨by decide +kernel, rfl⟩
theorem D_1_giveFirst_35 : Dec m_1_giveFirst 35 (.iload_n 3) 1 36 := ⟨by decide +kernel, rfl⟩
theorem D_1_giveFirst_36 : Dec m_1_giveFirst 36 (.invokevirtual 77) 3 39 := ⟨by decide +kernel, rfl⟩
theorem D_1_giveFirst_39 : Dec m_1_giveFirst 39 (.istore 5) 2 41 := ⟨by decide +kernel, rfl⟩
theorem D_1_giveFirst_41 : Dec m_1_giveFirst 41 (.aload_n 0) 1 42 := ⟨by decide +kernel, rfl⟩
theorem D_1_giveFirst_42 : Dec m_1_giveFirst 42 (.getfield 16) 3 45 := ⟨by decide +kernel, rfl⟩
theorem D_1_giveFirst_45 : Dec m_1_giveFirst 45 (.iload 4) 2 47 := ⟨by decide +kernel, rfl⟩
theorem D_1_giveFirst_47 : Dec m_1_giveFirst 47 (.iload 5) 2 49 := ⟨by decide +kernel, rfl⟩
theorem D_1_giveFirst_49 : Dec m_1_giveFirst 49 (.iastore) 1 50 := ⟨by decide +kernel, rfl⟩
theorem D_1_giveFirst_50 : Dec m_1_giveFirst 50 (.iload 5) 2 52 := ⟨by decide +kernel, rfl⟩
theorem D_1_giveFirst_52 : Dec m_1_giveFirst 52 (.bipush (-4)) 2 54 := ⟨by decide +kernel, rfl⟩
theorem D_1_giveFirst_54 : DecJ m_1_giveFirst 54 (.if_icmp .eq) 57 79 := ⟨25, by decide +kernel, rfl, rfl⟩
theorem D_1_giveFirst_57 : Dec m_1_giveFirst 57 (.aload_n 0) 1 58 := ⟨by decide +kernel, rfl⟩
theorem D_1_giveFirst_58 : Dec m_1_giveFirst 58 (.dup) 1 59 := ⟨by decide +kernel, rfl⟩
theorem D_1_giveFirst_59 : Dec m_1_giveFirst 59 (.getfield 71) 3 62 := ⟨by decide +kernel, rfl⟩
theorem D_1_giveFirst_62 : Dec m_1_giveFirst 62 (.iconst 1) 1 63 := ⟨by decide +kernel, rfl⟩
theorem D_1_giveFirst_63 : Dec m_1_giveFirst 63 (.iload 4) 2 65 := ⟨by decide +kernel, rfl⟩
theorem D_1_giveFirst_65 : Dec m_1_giveFirst 65 (.ishl) 1 66 := ⟨by decide +kernel, rfl⟩
theorem D_1_giveFirst_66 : Dec m_1_giveFirst 66 (.ior) 1 67 := ⟨by decide +kernel, rfl⟩
theorem D_1_giveFirst_67 : Dec m_1_giveFirst 67 (.putfield 71) 3 70 := ⟨by decide +kernel, rfl⟩
theorem D_1_giveFirst_70 : Dec m_1_giveFirst 70 (.iload_n 3) 1 71 := ⟨by decide +kernel, rfl⟩
theorem D_1_giveFirst_71 : Dec m_1_giveFirst 71 (.iconst 1) 1 72 := ⟨by decide +kernel, rfl⟩
theorem D_1_giveFirst_72 : Dec m_1_giveFirst 72 (.iload 5) 2 74 := ⟨by decide +kernel, rfl⟩
theorem D_1_giveFirst_74 : Dec m_1_giveFirst 74 (.ishl) 1 75 := ⟨by decide +kernel, rfl⟩
theorem D_1_giveFirst_75 : Dec m_1_giveFirst 75 (.iconst (-1)) 1 76 := ⟨by decide +kernel, rfl⟩
theorem D_1_giveFirst_76 : Dec m_1_giveFirst 76 (.ixor) 1 77 := ⟨by decide +kernel, rfl⟩
theorem D_1_giveFirst_77 : Dec m_1_giveFirst 77 (.iand) 1 78 := ⟨by decide +kernel, rfl⟩
theorem D_1_giveFirst_78 : Dec m_1_giveFirst 78 (.istore_n 3) 1 79 := ⟨by decide +kernel, rfl⟩
theorem D_1_giveFirst_79 : Dec m_1_giveFirst 79 (.iinc 4 1) 3 82 := ⟨by decide +kernel, rfl⟩
theorem D_1_giveFirst_82 : DecJ m_1_giveFirst 82 (.goto) 85 13 := ⟨-69, by decide +kernel, rfl, rfl⟩
theorem D_1_giveFirst_85 : Dec m_1_giveFirst 85 (.return_) 1 86 := ⟨by decide +kernel, rfl⟩
theorem D_1_firstGrain_0 : Dec m_1_firstGrain 0 (.iconst 0) 1 1 := ⟨by decide +kernel, rfl⟩
theorem D_1_firstGrain_1 : Dec m_1_firstGrain 1 (.istore 5) 2 3 := ⟨by decide +kernel, rfl⟩
theorem D_1_firstGrain_3 : Dec m_1_firstGrain 3 (.iload 5) 2 5 := ⟨by decide +kernel, rfl⟩
theorem D_1_firstGrain_5 : Dec m_1_firstGrain 5 (.aload_n 1) 1 6 := ⟨by decide +kernel, rfl⟩
theorem D_1_firstGrain_6 : Dec m_1_firstGrain 6 (.getfield 20) 3 9 := ⟨by decide +kernel, rfl⟩
theorem D_1_firstGrain_9 : DecJ m_1_firstGrain 9 (.if_icmp .ge) 12 67 := ⟨58, by decide +kernel, rfl, rfl⟩
theorem D_1_firstGrain_12 : Dec m_1_firstGrain 12 (.iload_n 2) 1 13 := ⟨by decide +kernel, rfl⟩
theorem D_1_firstGrain_13 : Dec m_1_firstGrain 13 (.iload 5) 2 15 := ⟨by decide +kernel, rfl⟩
theorem D_1_firstGrain_15 : Dec m_1_firstGrain 15 (.invokestatic 46) 3 18 := ⟨by decide +kernel, rfl⟩
theorem D_1_firstGrain_18 : DecJ m_1_firstGrain 18 (.ifCond .eq) 21 61 := ⟨43, by decide +kernel, rfl, rfl⟩
theorem D_1_firstGrain_21 : Dec m_1_firstGrain 21 (.aload_n 1) 1 22 := ⟨by decide +kernel, rfl⟩
theorem D_1_firstGrain_22 : Dec m_1_firstGrain 22 (.getfield 62) 3 25 := ⟨by decide +kernel, rfl⟩
theorem D_1_firstGrain_25 : Dec m_1_firstGrain 25 (.iload_n 3) 1 26 := ⟨by decide +kernel, rfl⟩
theorem D_1_firstGrain_26 : Dec m_1_firstGrain 26 (.iaload) 1 27 := ⟨by decide +kernel, rfl⟩
theorem D_1_firstGrain_27 : Dec m_1_firstGrain 27 (.aload_n 0) 1 28 := ⟨by decide +kernel, rfl⟩
theorem D_1_firstGrain_28 : Dec m_1_firstGrain 28 (.getfield 11) 3 31 := ⟨by decide +kernel, rfl⟩
theorem D_1_firstGrain_31 : Dec m_1_firstGrain 31 (.iload_n 3) 1 32 := ⟨by decide +kernel, rfl⟩
theorem D_1_firstGrain_32 : Dec m_1_firstGrain 32 (.iconst 1) 1 33 := ⟨by decide +kernel, rfl⟩
theorem D_1_firstGrain_33 : Dec m_1_firstGrain 33 (.iadd) 1 34 := ⟨by decide +kernel, rfl⟩
theorem D_1_firstGrain_34 : Dec m_1_firstGrain 34 (.aaload) 1 35 := ⟨by decide +kernel, rfl⟩
theorem D_1_firstGrain_35 : Dec m_1_firstGrain 35 (.iload 4) 2 37 := ⟨by decide +kernel, rfl⟩
theorem D_1_firstGrain_37 : Dec m_1_firstGrain 37 (.iconst 1) 1 38 := ⟨by decide +kernel, rfl⟩
theorem D_1_firstGrain_38 : Dec m_1_firstGrain 38 (.iload 5) 2 40 := ⟨by decide +kernel, rfl⟩
theorem D_1_firstGrain_40 : Dec m_1_firstGrain 40 (.ishl) 1 41 := ⟨by decide +kernel, rfl⟩
theorem D_1_firstGrain_41 : Dec m_1_firstGrain 41 (.iconst (-1)) 1 42 := ⟨by decide +kernel, rfl⟩
theorem D_1_firstGrain_42 : Dec m_1_firstGrain 42 (.ixor) 1 43 := ⟨by decide +kernel, rfl⟩
theorem D_1_firstGrain_43 : Dec m_1_firstGrain 43 (.iand) 1 44 := ⟨by decide +kernel, rfl⟩
theorem D_1_firstGrain_44 : Dec m_1_firstGrain 44 (.iaload) 1 45 := ⟨by decide +kernel, rfl⟩
theorem D_1_firstGrain_45 : Dec m_1_firstGrain 45 (.iadd) 1 46 := ⟨by decide +kernel, rfl⟩
theorem D_1_firstGrain_46 : Dec m_1_firstGrain 46 (.aload_n 0) 1 47 := ⟨by decide +kernel, rfl⟩
theorem D_1_firstGrain_47 : Dec m_1_firstGrain 47 (.getfield 11) 3 50 := ⟨by decide +kernel, rfl⟩
theorem D_1_firstGrain_50 : Dec m_1_firstGrain 50 (.iload_n 3) 1 51 := ⟨by decide +kernel, rfl⟩
theorem D_1_firstGrain_51 : Dec m_1_firstGrain 51 (.aaload) 1 52 := ⟨by decide +kernel, rfl⟩
theorem D_1_firstGrain_52 : Dec m_1_firstGrain 52 (.iload 4) 2 54 := ⟨by decide +kernel, rfl⟩
theorem D_1_firstGrain_54 : Dec m_1_firstGrain 54 (.iaload) 1 55 := ⟨by decide +kernel, rfl⟩
theorem D_1_firstGrain_55 : DecJ m_1_firstGrain 55 (.if_icmp .ne) 58 61 := ⟨6, by decide +kernel, rfl, rfl⟩
theorem D_1_firstGrain_58 : Dec m_1_firstGrain 58 (.iload 5) 2 60 := ⟨by decide +kernel, rfl⟩
theorem D_1_firstGrain_60 : Dec m_1_firstGrain 60 (.ireturn) 1 61 := ⟨by decide +kernel, rfl⟩
theorem D_1_firstGrain_61 : Dec m_1_firstGrain 61 (.iinc 5 1) 3 64 := ⟨by decide +kernel, rfl⟩
theorem D_1_firstGrain_64 : DecJ m_1_firstGrain 64 (.goto) 67 3 := ⟨-61, by decide +kernel, rfl, rfl⟩
theorem D_1_firstGrain_67 : Dec m_1_firstGrain 67 (.bipush (-4)) 2 69 := ⟨by decide +kernel, rfl⟩
theorem D_1_firstGrain_69 : Dec m_1_firstGrain 69 (.ireturn) 1 70 := ⟨by decide +kernel, rfl⟩
theorem D_2_init_0 : Dec m_2_init 0 (.aload_n 0) 1 1 := ⟨by decide +kernel, rfl⟩
theorem D_2_init_1 : Dec m_2_init 1 (.invokespecial 3) 3 4 := ⟨by decide +kernel, rfl⟩
theorem D_2_init_4 : Dec m_2_init 4 (.aload_n 0) 1 5 := ⟨by decide +kernel, rfl⟩
theorem D_2_init_5 : Dec m_2_init 5 (.bipush 7) 2 7 := ⟨by decide +kernel, rfl⟩
theorem D_2_init_7 : Dec m_2_init 7 (.newarray .int) 2 9 := ⟨by decide +kernel, rfl⟩
theorem D_2_init_9 : Dec m_2_init 9 (.putfield 9) 3 12 := ⟨by decide +kernel, rfl⟩
theorem D_2_init_12 : Dec m_2_init 12 (.aload_n 0) 1 13 := ⟨by decide +kernel, rfl⟩
theorem D_2_init_13 : Dec m_2_init 13 (.bipush 7) 2 15 := ⟨by decide +kernel, rfl⟩
theorem D_2_init_15 : Dec m_2_init 15 (.newarray .int) 2 17 := ⟨by decide +kernel, rfl⟩
theorem D_2_init_17 : Dec m_2_init 17 (.putfield 15) 3 20 := ⟨by decide +kernel, rfl⟩
theorem D_2_init_20 : Dec m_2_init 20 (.aload_n 0) 1 21 := ⟨by decide +kernel, rfl⟩
theorem D_2_init_21 : Dec m_2_init 21 (.bipush 7) 2 23 := ⟨by decide +kernel, rfl⟩
theorem D_2_init_23 : Dec m_2_init 23 (.newarray .int) 2 25 := ⟨by decide +kernel, rfl⟩
theorem D_2_init_25 : Dec m_2_init 25 (.putfield 18) 3 28 := ⟨by decide +kernel, rfl⟩
theorem D_2_init_28 : Dec m_2_init 28 (.aload_n 0) 1 29 := ⟨by decide +kernel, rfl⟩
theorem D_2_init_29 : Dec m_2_init 29 (.iconst 5) 1 30 := ⟨by decide +kernel, rfl⟩
theorem D_2_init_30 : Dec m_2_init 30 (.newarray .int) 2 32 := ⟨by decide +kernel, rfl⟩
theorem D_2_init_32 : Dec m_2_init 32 (.putfield 21) 3 35 := ⟨by decide +kernel, rfl⟩
theorem D_2_init_35 : Dec m_2_init 35 (.aload_n 0) 1 36 := ⟨by decide +kernel, rfl⟩
theorem D_2_init_36 : Dec m_2_init 36 (.bipush 7) 2 38 := ⟨by decide +kernel, rfl⟩
theorem D_2_init_38 : Dec m_2_init 38 (.newarray .int) 2 40 := ⟨by decide +kernel, rfl⟩
theorem D_2_init_40 : Dec m_2_init 40 (.putfield 24) 3 43 := ⟨by decide +kernel, rfl⟩
theorem D_2_init_43 : Dec m_2_init 43 (.return_) 1 44 := ⟨by decide +kernel, rfl⟩
theorem D_2_find_0 : Dec m_2_find 0 (.aload_n 0) 1 1 := ⟨by decide +kernel, rfl⟩
theorem D_2_find_1 : Dec m_2_find 1 (.aload_n 3) 1 2 := ⟨by decide +kernel, rfl⟩
theorem D_2_find_2 : Dec m_2_find 2 (.getfield 27) 3 5 := ⟨by decide +kernel, rfl⟩
theorem D_2_find_5 : Dec m_2_find 5 (.putfield 33) 3 8 := ⟨by decide +kernel, rfl⟩
theorem D_2_find_8 : Dec m_2_find 8 (.aload_n 0) 1 9 := ⟨by decide +kernel, rfl⟩
theorem D_2_find_9 : Dec m_2_find 9 (.aload_n 0) 1 10 := ⟨by decide +kernel, rfl⟩
theorem D_2_find_10 : Dec m_2_find 10 (.getfield 33) 3 13 := ⟨by decide +kernel, rfl⟩
theorem D_2_find_13 : Dec m_2_find 13 (.invokestatic 36) 3 16 := ⟨by decide +kernel, rfl⟩
theorem D_2_find_16 : Dec m_2_find 16 (.putfield 42) 3 19 := ⟨by decide +kernel, rfl⟩
theorem D_2_find_19 : Dec m_2_find 19 (.aload_n 0) 1 20 := ⟨by decide +kernel, rfl⟩
theorem D_2_find_20 : Dec m_2_find 20 (.ldc 45) 2 22 := ⟨by decide +kernel, rfl⟩
theorem D_2_find_22 : Dec m_2_find 22 (.putfield 46) 3 25 := ⟨by decide +kernel, rfl⟩
theorem D_2_find_25 : Dec m_2_find 25 (.iconst 0) 1 26 := ⟨by decide +kernel, rfl⟩
theorem D_2_find_26 : Dec m_2_find 26 (.istore 4) 2 28 := ⟨by decide +kernel, rfl⟩
theorem D_2_find_28 : Dec m_2_find 28 (.iload 4) 2 30 := ⟨by decide +kernel, rfl⟩
theorem D_2_find_30 : Dec m_2_find 30 (.aload_n 1) 1 31 := ⟨by decide +kernel, rfl⟩
theorem D_2_find_31 : Dec m_2_find 31 (.getfield 49) 3 34 := ⟨by decide +kernel, rfl⟩
theorem D_2_find_34 : DecJ m_2_find 34 (.if_icmp .ge) 37 90 := ⟨56, by decide +kernel, rfl, rfl⟩
theorem D_2_find_37 : Dec m_2_find 37 (.aload_n 3) 1 38 := ⟨by decide +kernel, rfl⟩
theorem D_2_find_38 : Dec m_2_find 38 (.getfield 54) 3 41 := ⟨by decide +kernel, rfl⟩
theorem D_2_find_41 : Dec m_2_find 41 (.iload 4) 2 43 := ⟨by decide +kernel, rfl⟩
theorem D_2_find_43 : Dec m_2_find 43 (.iaload) 1 44 := ⟨by decide +kernel, rfl⟩
theorem D_2_find_44 : Dec m_2_find 44 (.istore 5) 2 46 := ⟨by decide +kernel, rfl⟩
theorem D_2_find_46 : Dec m_2_find 46 (.aload_n 0) 1 47 := ⟨by decide +kernel, rfl⟩
theorem D_2_find_47 : Dec m_2_find 47 (.getfield 15) 3 50 := ⟨by decide +kernel, rfl⟩
theorem D_2_find_50 : Dec m_2_find 50 (.iload 4) 2 52 := ⟨by decide +kernel, rfl⟩
theorem D_2_find_52 : Dec m_2_find 52 (.iload 5) 2 54 := ⟨by decide +kernel, rfl⟩
theorem D_2_find_54 : Dec m_2_find 54 (.bipush (-4)) 2 56 := ⟨by decide +kernel, rfl⟩
theorem D_2_find_56 : DecJ m_2_find 56 (.if_icmp .ne) 59 63 := ⟨7, by decide +kernel, rfl, rfl⟩
theorem D_2_find_59 : Dec m_2_find 59 (.iconst 0) 1 60 := ⟨by decide +kernel, rfl⟩
theorem D_2_find_60 : DecJ m_2_find 60 (.goto) 63 83 := ⟨23, by decide +kernel, rfl, rfl⟩
theorem D_2_find_63 : Dec m_2_find 63 (.aload_n 1) 1 64 := ⟨by decide +kernel, rfl⟩
theorem D_2_find_64 : Dec m_2_find 64 (.getfield 57) 3 67 := ⟨by decide +kernel, rfl⟩
theorem D_2_find_67 : Dec m_2_find 67 (.iload 5) 2 69 := ⟨by decide +kernel, rfl⟩
theorem D_2_find_69 : Dec m_2_find 69 (.iaload) 1 70 := ⟨by decide +kernel, rfl⟩
theorem D_2_find_70 : Dec m_2_find 70 (.aload_n 2) 1 71 := ⟨by decide +kernel, rfl⟩
theorem D_2_find_71 : Dec m_2_find 71 (.getfield 60) 3 74 := ⟨by decide +kernel, rfl⟩
theorem D_2_find_74 : Dec m_2_find 74 (.aload_n 1) 1 75 := ⟨by decide +kernel, rfl⟩
theorem D_2_find_75 : Dec m_2_find 75 (.getfield 65) 3 78 := ⟨by decide +kernel, rfl⟩
theorem D_2_find_78 : Dec m_2_find 78 (.iload 4) 2 80 := ⟨by decide +kernel, rfl⟩
theorem D_2_find_80 : Dec m_2_find 80 (.iaload) 1 81 := ⟨by decide +kernel, rfl⟩
theorem D_2_find_81 : Dec m_2_find 81 (.iaload) 1 82 := ⟨by decide +kernel, rfl⟩
theorem D_2_find_82 : Dec m_2_find 82 (.imul) 1 83 := ⟨by decide +kernel, rfl⟩
theorem D_2_find_83 : Dec m_2_find 83 (.iastore) 1 84 := ⟨by decide +kernel, rfl⟩
theorem D_2_find_84 : Dec m_2_find 84 (.iinc 4 1) 3 87 := ⟨by decide +kernel, rfl⟩
theorem D_2_find_87 : DecJ m_2_find 87 (.goto) 90 28 := ⟨-59, by decide +kernel, rfl, rfl⟩
theorem D_2_find_90 : Dec m_2_find 90 (.aload_n 0) 1 91 := ⟨by decide +kernel, rfl⟩
theorem D_2_find_91 : Dec m_2_find 91 (.invokevirtual 68) 3 94 := ⟨by decide +kernel, rfl⟩
theorem D_2_find_94 : Dec m_2_find 94 (.aload_n 0) 1 95 := ⟨by decide +kernel, rfl⟩
theorem D_2_find_95 : Dec m_2_find 95 (.aload_n 1) 1 96 := ⟨by decide +kernel, rfl⟩
theorem D_2_find_96 : Dec m_2_find 96 (.iconst 0) 1 97 := ⟨by decide +kernel, rfl⟩
theorem D_2_find_97 : Dec m_2_find 97 (.iconst 0) 1 98 := ⟨by decide +kernel, rfl⟩
theorem D_2_find_98 : Dec m_2_find 98 (.iconst 0) 1 99 := ⟨by decide +kernel, rfl⟩
theorem D_2_find_99 : Dec m_2_find 99 (.invokestatic 71) 3 102 := ⟨by decide +kernel, rfl⟩
theorem D_2_find_102 : Dec m_2_find 102 (.return_) 1 103 := ⟨by decide +kernel, rfl⟩
theorem D_2_freeAll_0 : Dec m_2_freeAll 0 (.iconst 0) 1 1 := ⟨by decide +kernel, rfl⟩
theorem D_2_freeAll_1 : Dec m_2_freeAll 1 (.istore_n 1) 1 2 := ⟨by decide +kernel, rfl⟩
theorem D_2_freeAll_2 : Dec m_2_freeAll 2 (.iload_n 1) 1 3 := ⟨by decide +kernel, rfl⟩
theorem D_2_freeAll_3 : Dec m_2_freeAll 3 (.iconst 5) 1 4 := ⟨by decide +kernel, rfl⟩
theorem D_2_freeAll_4 : DecJ m_2_freeAll 4 (.if_icmp .ge) 7 20 := ⟨16, by decide +kernel, rfl, rfl⟩
theorem D_2_freeAll_7 : Dec m_2_freeAll 7 (.aload_n 0) 1 8 := ⟨by decide +kernel, rfl⟩
theorem D_2_freeAll_8 : Dec m_2_freeAll 8 (.getfield 21) 3 11 := ⟨by decide +kernel, rfl⟩
theorem D_2_freeAll_11 : Dec m_2_freeAll 11 (.iload_n 1) 1 12 := ⟨by decide +kernel, rfl⟩
theorem D_2_freeAll_12 : Dec m_2_freeAll 12 (.iconst 0) 1 13 := ⟨by decide +kernel, rfl⟩
theorem D_2_freeAll_13 : Dec m_2_freeAll 13 (.iastore) 1 14 := ⟨by decide +kernel, rfl⟩
theorem D_2_freeAll_14 : Dec m_2_freeAll 14 (.iinc 1 1) 3 17 := ⟨by decide +kernel, rfl⟩
theorem D_2_freeAll_17 : DecJ m_2_freeAll 17 (.goto) 20 2 := ⟨-15, by decide +kernel, rfl, rfl⟩
theorem D_2_freeAll_20 : Dec m_2_freeAll 20 (.return_) 1 21 := ⟨by decide +kernel, rfl⟩
theorem D_2_tryFrom_0 : Dec m_2_tryFrom 0 (.iload_n 2) 1 1 := ⟨by decide +kernel, rfl⟩
theorem D_2_tryFrom_1 : Dec m_2_tryFrom 1 (.aload_n 0) 1 2 := ⟨by decide +kernel, rfl⟩
theorem D_2_tryFrom_2 : Dec m_2_tryFrom 2 (.getfield 42) 3 5 := ⟨by decide +kernel, rfl⟩
theorem D_2_tryFrom_5 : DecJ m_2_tryFrom 5 (.if_icmp .ge) 8 14 := ⟨9, by decide +kernel, rfl, rfl⟩
theorem D_2_tryFrom_8 : Dec m_2_tryFrom 8 (.iload_n 2) 1 9 := ⟨by decide +kernel, rfl⟩
theorem D_2_tryFrom_9 : Dec m_2_tryFrom 9 (.bipush 7) 2 11 := ⟨by decide +kernel, rfl⟩
theorem D_2_tryFrom_11 : DecJ m_2_tryFrom 11 (.if_icmp .lt) 14 21 := ⟨10, by decide +kernel, rfl, rfl⟩
theorem D_2_tryFrom_14 : Dec m_2_tryFrom 14 (.aload_n 0) 1 15 := ⟨by decide +kernel, rfl⟩
theorem D_2_tryFrom_15 : Dec m_2_tryFrom 15 (.iload 4) 2 17 := ⟨by decide +kernel, rfl⟩
theorem D_2_tryFrom_17 : Dec m_2_tryFrom 17 (.invokevirtual 75) 3 20 := ⟨by decide +kernel, rfl⟩
theorem D_2_tryFrom_20 : Dec m_2_tryFrom 20 (.return_) 1 21 := ⟨by decide +kernel, rfl⟩
theorem D_2_tryFrom_21 : Dec m_2_tryFrom 21 (.iconst 0) 1 22 := ⟨by decide +kernel, rfl⟩
theorem D_2_tryFrom_22 : Dec m_2_tryFrom 22 (.istore 5) 2 24 := ⟨by decide +kernel, rfl⟩
theorem D_2_tryFrom_24 : Dec m_2_tryFrom 24 (.iload 5) 2 26 := ⟨by decide +kernel, rfl⟩
theorem D_2_tryFrom_26 : Dec m_2_tryFrom 26 (.aload_n 1) 1 27 := ⟨by decide +kernel, rfl⟩
theorem D_2_tryFrom_27 : Dec m_2_tryFrom 27 (.getfield 49) 3 30 := ⟨by decide +kernel, rfl⟩
theorem D_2_tryFrom_30 : DecJ m_2_tryFrom 30 (.if_icmp .ge) 33 121 := ⟨91, by decide +kernel, rfl, rfl⟩
theorem D_2_tryFrom_33 : Dec m_2_tryFrom 33 (.aload_n 0) 1 34 := ⟨by decide +kernel, rfl⟩
theorem D_2_tryFrom_34 : Dec m_2_tryFrom 34 (.aload_n 1) 1 35 := ⟨by decide +kernel, rfl⟩
theorem D_2_tryFrom_35 : Dec m_2_tryFrom 35 (.iload_n 3) 1 36 := ⟨by decide +kernel, rfl⟩
theorem D_2_tryFrom_36 : Dec m_2_tryFrom 36 (.iload 5) 2 38 := ⟨by decide +kernel, rfl⟩
theorem D_2_tryFrom_38 : Dec m_2_tryFrom 38 (.invokevirtual 79) 3 41 := ⟨by decide +kernel, rfl⟩
theorem D_2_tryFrom_41 : DecJ m_2_tryFrom 41 (.ifCond .eq) 44 115 := ⟨74, by decide +kernel, rfl, rfl⟩
theorem D_2_tryFrom_44 : Dec m_2_tryFrom 44 (.aload_n 1) 1 45 := ⟨by decide +kernel, rfl⟩
theorem D_2_tryFrom_45 : Dec m_2_tryFrom 45 (.getfield 65) 3 48 := ⟨by decide +kernel, rfl⟩
theorem D_2_tryFrom_48 : Dec m_2_tryFrom 48 (.iload 5) 2 50 := ⟨by decide +kernel, rfl⟩
theorem D_2_tryFrom_50 : Dec m_2_tryFrom 50 (.iaload) 1 51 := ⟨by decide +kernel, rfl⟩
theorem D_2_tryFrom_51 : Dec m_2_tryFrom 51 (.istore 6) 2 53 := ⟨by decide +kernel, rfl⟩
theorem D_2_tryFrom_53 : Dec m_2_tryFrom 53 (.aload_n 0) 1 54 := ⟨by decide +kernel, rfl⟩
theorem D_2_tryFrom_54 : Dec m_2_tryFrom 54 (.getfield 21) 3 57 := ⟨by decide +kernel, rfl⟩
theorem D_2_tryFrom_57 : Dec m_2_tryFrom 57 (.iload 6) 2 59 := ⟨by decide +kernel, rfl⟩
theorem D_2_tryFrom_59 : Dec m_2_tryFrom 59 (.iaload) 1 60 := ⟨by decide +kernel, rfl⟩
theorem D_2_tryFrom_60 : Dec m_2_tryFrom 60 (.istore 7) 2 62 := ⟨by decide +kernel, rfl⟩
theorem D_2_tryFrom_62 : Dec m_2_tryFrom 62 (.aload_n 0) 1 63 := ⟨by decide +kernel, rfl⟩
theorem D_2_tryFrom_63 : Dec m_2_tryFrom 63 (.aload_n 1) 1 64 := ⟨by decide +kernel, rfl⟩
theorem D_2_tryFrom_64 : Dec m_2_tryFrom 64 (.iload 5) 2 66 := ⟨by decide +kernel, rfl⟩
theorem D_2_tryFrom_66 : Dec m_2_tryFrom 66 (.iload 4) 2 68 := ⟨by decide +kernel, rfl⟩
theorem D_2_tryFrom_68 : Dec m_2_tryFrom 68 (.invokevirtual 83) 3 71 := ⟨by decide +kernel, rfl⟩
theorem D_2_tryFrom_71 : Dec m_2_tryFrom 71 (.istore 8) 2 73 := ⟨by decide +kernel, rfl⟩
theorem D_2_tryFrom_73 : Dec m_2_tryFrom 73 (.iload 8) 2 75 := ⟨by decide +kernel, rfl⟩
theorem D_2_tryFrom_75 : Dec m_2_tryFrom 75 (.aload_n 0) 1 76 := ⟨by decide +kernel, rfl⟩
theorem D_2_tryFrom_76 : Dec m_2_tryFrom 76 (.getfield 46) 3 79 := ⟨by decide +kernel, rfl⟩
theorem D_2_tryFrom_79 : DecJ m_2_tryFrom 79 (.if_icmp .ge) 82 106 := ⟨27, by decide +kernel, rfl, rfl⟩
theorem D_2_tryFrom_82 : Dec m_2_tryFrom 82 (.aload_n 0) 1 83 := ⟨by decide +kernel, rfl⟩
theorem D_2_tryFrom_83 : Dec m_2_tryFrom 83 (.getfield 18) 3 86 := ⟨by decide +kernel, rfl⟩
theorem D_2_tryFrom_86 : Dec m_2_tryFrom 86 (.iload_n 2) 1 87 := ⟨by decide +kernel, rfl⟩
theorem D_2_tryFrom_87 : Dec m_2_tryFrom 87 (.iload 5) 2 89 := ⟨by decide +kernel, rfl⟩
theorem D_2_tryFrom_89 : Dec m_2_tryFrom 89 (.iastore) 1 90 := ⟨by decide +kernel, rfl⟩
theorem D_2_tryFrom_90 : Dec m_2_tryFrom 90 (.aload_n 0) 1 91 := ⟨by decide +kernel, rfl⟩
theorem D_2_tryFrom_91 : Dec m_2_tryFrom 91 (.aload_n 1) 1 92 := ⟨by decide +kernel, rfl⟩
theorem D_2_tryFrom_92 : Dec m_2_tryFrom 92 (.iload_n 2) 1 93 := ⟨by decide +kernel, rfl⟩
theorem D_2_tryFrom_93 : Dec m_2_tryFrom 93 (.iconst 1) 1 94 := ⟨by decide +kernel, rfl⟩
theorem D_2_tryFrom_94 : Dec m_2_tryFrom 94 (.iadd) 1 95 := ⟨by decide +kernel, rfl⟩
theorem D_2_tryFrom_95 : Dec m_2_tryFrom 95 (.iload_n 3) 1 96 := ⟨by decide +kernel, rfl⟩
theorem D_2_tryFrom_96 : Dec m_2_tryFrom 96 (.iconst 1) 1 97 := ⟨by decide +kernel, rfl⟩
theorem D_2_tryFrom_97 : Dec m_2_tryFrom 97 (.iload 5) 2 99 := ⟨by decide +kernel, rfl⟩
theorem D_2_tryFrom_99 : Dec m_2_tryFrom 99 (.ishl) 1 100 := ⟨by decide +kernel, rfl⟩
theorem D_2_tryFrom_100 : Dec m_2_tryFrom 100 (.ior) 1 101 := ⟨by decide +kernel, rfl⟩
theorem D_2_tryFrom_101 : Dec m_2_tryFrom 101 (.iload 8) 2 103 := ⟨by decide +kernel, rfl⟩
theorem D_2_tryFrom_103 : Dec m_2_tryFrom 103 (.invokestatic 71) 3 106 := ⟨by decide +kernel, rfl⟩
theorem D_2_tryFrom_106 : Dec m_2_tryFrom 106 (.aload_n 0) 1 107 := ⟨by decide +kernel, rfl⟩
theorem D_2_tryFrom_107 : Dec m_2_tryFrom 107 (.getfield 21) 3 110 := ⟨by decide +kernel, rfl⟩
theorem D_2_tryFrom_110 : Dec m_2_tryFrom 110 (.iload 6) 2 112 := ⟨by decide +kernel, rfl⟩
theorem D_2_tryFrom_112 : Dec m_2_tryFrom 112 (.iload 7) 2 114 := ⟨by decide +kernel, rfl⟩
theorem D_2_tryFrom_114 : Dec m_2_tryFrom 114 (.iastore) 1 115 := ⟨by decide +kernel, rfl⟩
theorem D_2_tryFrom_115 : Dec m_2_tryFrom 115 (.iinc 5 1) 3 118 := ⟨by decide +kernel, rfl⟩
theorem D_2_tryFrom_118 : DecJ m_2_tryFrom 118 (.goto) 121 24 := ⟨-94, by decide +kernel, rfl, rfl⟩
theorem D_2_tryFrom_121 : Dec m_2_tryFrom 121 (.return_) 1 122 := ⟨by decide +kernel, rfl⟩
theorem D_2_endBehind_0 : Dec m_2_endBehind 0 (.aload_n 1) 1 1 := ⟨by decide +kernel, rfl⟩
theorem D_2_endBehind_1 : Dec m_2_endBehind 1 (.getfield 65) 3 4 := ⟨by decide +kernel, rfl⟩
theorem D_2_endBehind_4 : Dec m_2_endBehind 4 (.iload_n 2) 1 5 := ⟨by decide +kernel, rfl⟩
theorem D_2_endBehind_5 : Dec m_2_endBehind 5 (.iaload) 1 6 := ⟨by decide +kernel, rfl⟩
theorem D_2_endBehind_6 : Dec m_2_endBehind 6 (.istore 4) 2 8 := ⟨by decide +kernel, rfl⟩
theorem D_2_endBehind_8 : Dec m_2_endBehind 8 (.iload_n 3) 1 9 := ⟨by decide +kernel, rfl⟩
theorem D_2_endBehind_9 : Dec m_2_endBehind 9 (.aload_n 0) 1 10 := ⟨by decide +kernel, rfl⟩
theorem D_2_endBehind_10 : Dec m_2_endBehind 10 (.getfield 21) 3 13 := ⟨by decide +kernel, rfl⟩
theorem D_2_endBehind_13 : Dec m_2_endBehind 13 (.iload 4) 2 15 := ⟨by decide +kernel, rfl⟩
theorem D_2_endBehind_15 : Dec m_2_endBehind 15 (.iaload) 1 16 := ⟨by decide +kernel, rfl⟩
theorem D_2_endBehind_16 : Dec m_2_endBehind 16 (.invokestatic 87) 3 19 := ⟨by decide +kernel, rfl⟩
theorem D_2_endBehind_19 : Dec m_2_endBehind 19 (.istore 5) 2 21 := ⟨by decide +kernel, rfl⟩
theorem D_2_endBehind_21 : Dec m_2_endBehind 21 (.aload_n 0) 1 22 := ⟨by decide +kernel, rfl⟩
theorem D_2_endBehind_22 : Dec m_2_endBehind 22 (.getfield 21) 3 25 := ⟨by decide +kernel, rfl⟩
theorem D_2_endBehind_25 : Dec m_2_endBehind 25 (.iload 4) 2 27 := ⟨by decide +kernel, rfl⟩
theorem D_2_endBehind_27 : Dec m_2_endBehind 27 (.iload 5) 2 29 := ⟨by decide +kernel, rfl⟩
theorem D_2_endBehind_29 : Dec m_2_endBehind 29 (.iconst 2) 1 30 := ⟨by decide +kernel, rfl⟩
theorem D_2_endBehind_30 : Dec m_2_endBehind 30 (.aload_n 0) 1 31 := ⟨by decide +kernel, rfl⟩
theorem D_2_endBehind_31 : Dec m_2_endBehind 31 (.getfield 15) 3 34 := ⟨by decide +kernel, rfl⟩
theorem D_2_endBehind_34 : Dec m_2_endBehind 34 (.iload_n 2) 1 35 := ⟨by decide +kernel, rfl⟩
theorem D_2_endBehind_35 : Dec m_2_endBehind 35 (.iaload) 1 36 := ⟨by decide +kernel, rfl⟩
theorem D_2_endBehind_36 : Dec m_2_endBehind 36 (.imul) 1 37 := ⟨by decide +kernel, rfl⟩
theorem D_2_endBehind_37 : Dec m_2_endBehind 37 (.iadd) 1 38 := ⟨by decide +kernel, rfl⟩
theorem D_2_endBehind_38 : Dec m_2_endBehind 38 (.iastore) 1 39 := ⟨by decide +kernel, rfl⟩
theorem D_2_endBehind_39 : Dec m_2_endBehind 39 (.iload 5) 2 41 := ⟨by decide +kernel, rfl⟩
theorem D_2_endBehind_41 : Dec m_2_endBehind 41 (.aload_n 1) 1 42 := ⟨by decide +kernel, rfl⟩
theorem D_2_endBehind_42 : Dec m_2_endBehind 42 (.getfield 93) 3 45 := ⟨by decide +kernel, rfl⟩
theorem D_2_endBehind_45 : Dec m_2_endBehind 45 (.iload_n 2) 1 46 := ⟨by decide +kernel, rfl⟩
theorem D_2_endBehind_46 : Dec m_2_endBehind 46 (.iaload) 1 47 := ⟨by decide +kernel, rfl⟩
theorem D_2_endBehind_47 : Dec m_2_endBehind 47 (.iadd) 1 48 := ⟨by decide +kernel, rfl⟩
theorem D_2_endBehind_48 : Dec m_2_endBehind 48 (.ireturn) 1 49 := ⟨by decide +kernel, rfl⟩
theorem D_2_mayBeNext_0 : Dec m_2_mayBeNext 0 (.aload_n 1) 1 1 := ⟨by decide +kernel, rfl⟩
theorem D_2_mayBeNext_1 : Dec m_2_mayBeNext 1 (.getfield 96) 3 4 := ⟨by decide +kernel, rfl⟩
theorem D_2_mayBeNext_4 : Dec m_2_mayBeNext 4 (.iload_n 3) 1 5 := ⟨by decide +kernel, rfl⟩
theorem D_2_mayBeNext_5 : Dec m_2_mayBeNext 5 (.iaload) 1 6 := ⟨by decide +kernel, rfl⟩
theorem D_2_mayBeNext_6 : Dec m_2_mayBeNext 6 (.istore 4) 2 8 := ⟨by decide +kernel, rfl⟩
theorem D_2_mayBeNext_8 : Dec m_2_mayBeNext 8 (.iload 4) 2 10 := ⟨by decide +kernel, rfl⟩
theorem D_2_mayBeNext_10 : Dec m_2_mayBeNext 10 (.bipush (-4)) 2 12 := ⟨by decide +kernel, rfl⟩
theorem D_2_mayBeNext_12 : DecJ m_2_mayBeNext 12 (.if_icmp .eq) 15 35 := ⟨23, by decide +kernel, rfl, rfl⟩
theorem D_2_mayBeNext_15 : Dec m_2_mayBeNext 15 (.aload_n 0) 1 16 := ⟨by decide +kernel, rfl⟩
theorem D_2_mayBeNext_16 : Dec m_2_mayBeNext 16 (.getfield 33) 3 19 := ⟨by decide +kernel, rfl⟩
theorem D_2_mayBeNext_19 : Dec m_2_mayBeNext 19 (.iload_n 2) 1 20 := ⟨by decide +kernel, rfl⟩
theorem D_2_mayBeNext_20 : Dec m_2_mayBeNext 20 (.iconst (-1)) 1 21 := ⟨by decide +kernel, rfl⟩
theorem D_2_mayBeNext_21 : Dec m_2_mayBeNext 21 (.ixor) 1 22 := ⟨by decide +kernel, rfl⟩
theorem D_2_mayBeNext_22 : Dec m_2_mayBeNext 22 (.iand) 1 23 := ⟨by decide +kernel, rfl⟩
theorem D_2_mayBeNext_23 : Dec m_2_mayBeNext 23 (.iload 4) 2 25 := ⟨by decide +kernel, rfl⟩
theorem D_2_mayBeNext_25 : Dec m_2_mayBeNext 25 (.invokestatic 99) 3 28 := ⟨by decide +kernel, rfl⟩
theorem D_2_mayBeNext_28 : DecJ m_2_mayBeNext 28 (.ifCond .eq) 31 35 := ⟨7, by decide +kernel, rfl, rfl⟩
theorem D_2_mayBeNext_31 : Dec m_2_mayBeNext 31 (.iconst 1) 1 32 := ⟨by decide +kernel, rfl⟩
theorem D_2_mayBeNext_32 : DecJ m_2_mayBeNext 32 (.goto) 35 36 := ⟨4, by decide +kernel, rfl, rfl⟩
theorem D_2_mayBeNext_35 : Dec m_2_mayBeNext 35 (.iconst 0) 1 36 := ⟨by decide +kernel, rfl⟩
theorem D_2_mayBeNext_36 : Dec m_2_mayBeNext 36 (.istore 5) 2 38 := ⟨by decide +kernel, rfl⟩
theorem D_2_mayBeNext_38 : Dec m_2_mayBeNext 38 (.aload_n 0) 1 39 := ⟨by decide +kernel, rfl⟩
theorem D_2_mayBeNext_39 : Dec m_2_mayBeNext 39 (.getfield 33) 3 42 := ⟨by decide +kernel, rfl⟩
theorem D_2_mayBeNext_42 : Dec m_2_mayBeNext 42 (.iload_n 2) 1 43 := ⟨by decide +kernel, rfl⟩
theorem D_2_mayBeNext_43 : Dec m_2_mayBeNext 43 (.iconst (-1)) 1 44 := ⟨by decide +kernel, rfl⟩
theorem D_2_mayBeNext_44 : Dec m_2_mayBeNext 44 (.ixor) 1 45 := ⟨by decide +kernel, rfl⟩
theorem D_2_mayBeNext_45 : Dec m_2_mayBeNext 45 (.iand) 1 46 := ⟨by decide +kernel, rfl⟩
theorem D_2_mayBeNext_46 : Dec m_2_mayBeNext 46 (.iload_n 3) 1 47 := ⟨by decide +kernel, rfl⟩
theorem D_2_mayBeNext_47 : Dec m_2_mayBeNext 47 (.invokestatic 99) 3 50 := ⟨by decide +kernel, rfl⟩
theorem D_2_mayBeNext_50 : DecJ m_2_mayBeNext 50 (.ifCond .eq) 53 62 := ⟨12, by decide +kernel, rfl, rfl⟩
theorem D_2_mayBeNext_53 : Dec m_2_mayBeNext 53 (.iload 5) 2 55 := ⟨by decide +kernel, rfl⟩
theorem D_2_mayBeNext_55 : DecJ m_2_mayBeNext 55 (.ifCond .ne) 58 62 := ⟨7, by decide +kernel, rfl, rfl⟩
theorem D_2_mayBeNext_58 : Dec m_2_mayBeNext 58 (.iconst 1) 1 59 := ⟨by decide +kernel, rfl⟩
theorem D_2_mayBeNext_59 : DecJ m_2_mayBeNext 59 (.goto) 62 63 := ⟨4, by decide +kernel, rfl, rfl⟩
theorem D_2_mayBeNext_62 : Dec m_2_mayBeNext 62 (.iconst 0) 1 63 := ⟨by decide +kernel, rfl⟩
theorem D_2_mayBeNext_63 : Dec m_2_mayBeNext 63 (.ireturn) 1 64 := ⟨by decide +kernel, rfl⟩
theorem D_2_keepTrial_0 : Dec m_2_keepTrial 0 (.aload_n 0) 1 1 := ⟨by decide +kernel, rfl⟩
theorem D_2_keepTrial_1 : Dec m_2_keepTrial 1 (.iload_n 1) 1 2 := ⟨by decide +kernel, rfl⟩
theorem D_2_keepTrial_2 : Dec m_2_keepTrial 2 (.putfield 46) 3 5 := ⟨by decide +kernel, rfl⟩
theorem D_2_keepTrial_5 : Dec m_2_keepTrial 5 (.iconst 0) 1 6 := ⟨by decide +kernel, rfl⟩
theorem D_2_keepTrial_6 : Dec m_2_keepTrial 6 (.istore_n 2) 1 7 := ⟨by decide +kernel, rfl⟩
theorem D_2_keepTrial_7 : Dec m_2_keepTrial 7 (.iload_n 2) 1 8 := ⟨by decide +kernel, rfl⟩
theorem D_2_keepTrial_8 : Dec m_2_keepTrial 8 (.bipush 7) 2 10 := ⟨by decide +kernel, rfl⟩
theorem D_2_keepTrial_10 : DecJ m_2_keepTrial 10 (.if_icmp .ge) 13 31 := ⟨21, by decide +kernel, rfl, rfl⟩
theorem D_2_keepTrial_13 : Dec m_2_keepTrial 13 (.aload_n 0) 1 14 := ⟨by decide +kernel, rfl⟩
theorem D_2_keepTrial_14 : Dec m_2_keepTrial 14 (.getfield 9) 3 17 := ⟨by decide +kernel, rfl⟩
theorem D_2_keepTrial_17 : Dec m_2_keepTrial 17 (.iload_n 2) 1 18 := ⟨by decide +kernel, rfl⟩
theorem D_2_keepTrial_18 : Dec m_2_keepTrial 18 (.aload_n 0) 1 19 := ⟨by decide +kernel, rfl⟩
theorem D_2_keepTrial_19 : Dec m_2_keepTrial 19 (.getfield 18) 3 22 := ⟨by decide +kernel, rfl⟩
theorem D_2_keepTrial_22 : Dec m_2_keepTrial 22 (.iload_n 2) 1 23 := ⟨by decide +kernel, rfl⟩
theorem D_2_keepTrial_23 : Dec m_2_keepTrial 23 (.iaload) 1 24 := ⟨by decide +kernel, rfl⟩
theorem D_2_keepTrial_24 : Dec m_2_keepTrial 24 (.iastore) 1 25 := ⟨by decide +kernel, rfl⟩
theorem D_2_keepTrial_25 : Dec m_2_keepTrial 25 (.iinc 2 1) 3 28 := ⟨by decide +kernel, rfl⟩
theorem D_2_keepTrial_28 : DecJ m_2_keepTrial 28 (.goto) 31 7 := ⟨-21, by decide +kernel, rfl, rfl⟩
theorem D_2_keepTrial_31 : Dec m_2_keepTrial 31 (.return_) 1 32 := ⟨by decide +kernel, rfl⟩
theorem D_2_countLate_0 : Dec m_2_countLate 0 (.iconst 0) 1 1 := ⟨by decide +kernel, rfl⟩
theorem D_2_countLate_1 : Dec m_2_countLate 1 (.istore_n 2) 1 2 := ⟨by decide +kernel, rfl⟩
theorem D_2_countLate_2 : Dec m_2_countLate 2 (.iconst 0) 1 3 := ⟨by decide +kernel, rfl⟩
theorem D_2_countLate_3 : Dec m_2_countLate 3 (.istore_n 3) 1 4 := ⟨by decide +kernel, rfl⟩
theorem D_2_countLate_4 : Dec m_2_countLate 4 (.aload_n 0) 1 5 := ⟨by decide +kernel, rfl⟩
theorem D_2_countLate_5 : Dec m_2_countLate 5 (.invokevirtual 68) 3 8 := ⟨by decide +kernel, rfl⟩
theorem D_2_countLate_8 : Dec m_2_countLate 8 (.iconst 0) 1 9 := ⟨by decide +kernel, rfl⟩
theorem D_2_countLate_9 : Dec m_2_countLate 9 (.istore 4) 2 11 := ⟨by decide +kernel, rfl⟩
theorem D_2_countLate_11 : Dec m_2_countLate 11 (.iload 4) 2 13 := ⟨by decide +kernel, rfl⟩
theorem D_2_countLate_13 : Dec m_2_countLate 13 (.aload_n 0) 1 14 := ⟨by decide +kernel, rfl⟩
theorem D_2_countLate_14 : Dec m_2_countLate 14 (.getfield 42) 3 17 := ⟨by decide +kernel, rfl⟩
theorem D_2_countLate_17 : DecJ m_2_countLate 17 (.if_icmp .ge) 20 114 := ⟨97, by decide +kernel, rfl, rfl⟩
theorem D_2_countLate_20 : Dec m_2_countLate 20 (.iload 4) 2 22 := ⟨by decide +kernel, rfl⟩
theorem D_2_countLate_22 : Dec m_2_countLate 22 (.bipush 7) 2 24 := ⟨by decide +kernel, rfl⟩
theorem D_2_countLate_24 : DecJ m_2_countLate 24 (.if_icmp .ge) 27 114 := ⟨90, by decide +kernel, rfl, rfl⟩
theorem D_2_countLate_27 : Dec m_2_countLate 27 (.aload_n 0) 1 28 := ⟨by decide +kernel, rfl⟩
theorem D_2_countLate_28 : Dec m_2_countLate 28 (.getfield 9) 3 31 := ⟨by decide +kernel, rfl⟩
theorem D_2_countLate_31 : Dec m_2_countLate 31 (.iload 4) 2 33 := ⟨by decide +kernel, rfl⟩
theorem D_2_countLate_33 : Dec m_2_countLate 33 (.iaload) 1 34 := ⟨by decide +kernel, rfl⟩
theorem D_2_countLate_34 : Dec m_2_countLate 34 (.istore 5) 2 36 := ⟨by decide +kernel, rfl⟩
theorem D_2_countLate_36 : Dec m_2_countLate 36 (.aload_n 1) 1 37 := ⟨by decide +kernel, rfl⟩
theorem D_2_countLate_37 : Dec m_2_countLate 37 (.getfield 96) 3 40 := ⟨by decide +kernel, rfl⟩
theorem D_2_countLate_40 : Dec m_2_countLate 40 (.iload 5) 2 42 := ⟨by decide +kernel, rfl⟩
theorem D_2_countLate_42 : Dec m_2_countLate 42 (.iaload) 1 43 := ⟨by decide +kernel, rfl⟩
theorem D_2_countLate_43 : Dec m_2_countLate 43 (.istore 6) 2 45 := ⟨by decide +kernel, rfl⟩
theorem D_2_countLate_45 : Dec m_2_countLate 45 (.aload_n 0) 1 46 := ⟨by decide +kernel, rfl⟩
theorem D_2_countLate_46 : Dec m_2_countLate 46 (.aload_n 1) 1 47 := ⟨by decide +kernel, rfl⟩
theorem D_2_countLate_47 : Dec m_2_countLate 47 (.iload 5) 2 49 := ⟨by decide +kernel, rfl⟩
theorem D_2_countLate_49 : Dec m_2_countLate 49 (.iload_n 3) 1 50 := ⟨by decide +kernel, rfl⟩
theorem D_2_countLate_50 : Dec m_2_countLate 50 (.invokevirtual 83) 3 53 := ⟨by decide +kernel, rfl⟩
theorem D_2_countLate_53 : Dec m_2_countLate 53 (.istore_n 3) 1 54 := ⟨by decide +kernel, rfl⟩
theorem D_2_countLate_54 : Dec m_2_countLate 54 (.aload_n 0) 1 55 := ⟨by decide +kernel, rfl⟩
theorem D_2_countLate_55 : Dec m_2_countLate 55 (.getfield 24) 3 58 := ⟨by decide +kernel, rfl⟩
theorem D_2_countLate_58 : Dec m_2_countLate 58 (.iload 5) 2 60 := ⟨by decide +kernel, rfl⟩
theorem D_2_countLate_60 : Dec m_2_countLate 60 (.iload_n 3) 1 61 := ⟨by decide +kernel, rfl⟩
theorem D_2_countLate_61 : Dec m_2_countLate 61 (.iastore) 1 62 := ⟨by decide +kernel, rfl⟩
theorem D_2_countLate_62 : Dec m_2_countLate 62 (.iload 6) 2 64 := ⟨by decide +kernel, rfl⟩
theorem D_2_countLate_64 : Dec m_2_countLate 64 (.bipush (-4)) 2 66 := ⟨by decide +kernel, rfl⟩
theorem D_2_countLate_66 : DecJ m_2_countLate 66 (.if_icmp .eq) 69 108 := ⟨42, by decide +kernel, rfl, rfl⟩
theorem D_2_countLate_69 : Dec m_2_countLate 69 (.aload_n 0) 1 70 := ⟨by decide +kernel, rfl⟩
theorem D_2_countLate_70 : Dec m_2_countLate 70 (.getfield 33) 3 73 := ⟨by decide +kernel, rfl⟩
theorem D_2_countLate_73 : Dec m_2_countLate 73 (.iload 6) 2 75 := ⟨by decide +kernel, rfl⟩
theorem D_2_countLate_75 : Dec m_2_countLate 75 (.invokestatic 99) 3 78 := ⟨by decide +kernel, rfl⟩
theorem D_2_countLate_78 : DecJ m_2_countLate 78 (.ifCond .eq) 81 108 := ⟨30, by decide +kernel, rfl, rfl⟩
theorem D_2_countLate_81 : Dec m_2_countLate 81 (.iload_n 3) 1 82 := ⟨by decide +kernel, rfl⟩
theorem D_2_countLate_82 : Dec m_2_countLate 82 (.aload_n 1) 1 83 := ⟨by decide +kernel, rfl⟩
theorem D_2_countLate_83 : Dec m_2_countLate 83 (.getfield 93) 3 86 := ⟨by decide +kernel, rfl⟩
theorem D_2_countLate_86 : Dec m_2_countLate 86 (.iload 5) 2 88 := ⟨by decide +kernel, rfl⟩
theorem D_2_countLate_88 : Dec m_2_countLate 88 (.iaload) 1 89 := ⟨by decide +kernel, rfl⟩
theorem D_2_countLate_89 : Dec m_2_countLate 89 (.isub) 1 90 := ⟨by decide +kernel, rfl⟩
theorem D_2_countLate_90 : Dec m_2_countLate 90 (.aload_n 0) 1 91 := ⟨by decide +kernel, rfl⟩
theorem D_2_countLate_91 : Dec m_2_countLate 91 (.getfield 24) 3 94 := ⟨by decide +kernel, rfl⟩
theorem D_2_countLate_94 : Dec m_2_countLate 94 (.iload 6) 2 96 := ⟨by decide +kernel, rfl⟩
theorem D_2_countLate_96 : Dec m_2_countLate 96 (.iaload) 1 97 := ⟨by decide +kernel, rfl⟩
theorem D_2_countLate_97 : Dec m_2_countLate 97 (.aload_n 1) 1 98 := ⟨by decide +kernel, rfl⟩
theorem D_2_countLate_98 : Dec m_2_countLate 98 (.getfield 103) 3 101 := ⟨by decide +kernel, rfl⟩
theorem D_2_countLate_101 : Dec m_2_countLate 101 (.iadd) 1 102 := ⟨by decide +kernel, rfl⟩
theorem D_2_countLate_102 : DecJ m_2_countLate 102 (.if_icmp .le) 105 108 := ⟨6, by decide +kernel, rfl, rfl⟩
theorem D_2_countLate_105 : Dec m_2_countLate 105 (.iinc 2 1) 3 108 := ⟨by decide +kernel, rfl⟩
theorem D_2_countLate_108 : Dec m_2_countLate 108 (.iinc 4 1) 3 111 := ⟨by decide +kernel, rfl⟩
theorem D_2_countLate_111 : DecJ m_2_countLate 111 (.goto) 114 11 := ⟨-100, by decide +kernel, rfl, rfl⟩
theorem D_2_countLate_114 : Dec m_2_countLate 114 (.iload_n 2) 1 115 := ⟨by decide +kernel, rfl⟩
theorem D_2_countLate_115 : Dec m_2_countLate 115 (.ireturn) 1 116 := ⟨by decide +kernel, rfl⟩
end
section
theorem D_5_init_0 : Dec m_5_init 0 (.aload_n 0) 1 1 := ⟨by decide +kernel, rfl⟩
theorem D_5_init_1 : Dec m_5_init 1 (.invokespecial 1) 3 4 := ⟨by decide +kernel, rfl⟩
theorem D_5_init_4 : Dec m_5_init 4 (.aload_n 0) 1 5 := ⟨by decide +kernel, rfl⟩
theorem D_5_init_5 : Dec m_5_init 5 (.sipush 300) 3 8 := ⟨by decide +kernel, rfl⟩
theorem D_5_init_8 : Dec m_5_init 8 (.newarray .byte) 2 10 := ⟨by decide +kernel, rfl⟩
theorem D_5_init_10 : Dec m_5_init 10 (.putfield 9) 3 13 := ⟨by decide +kernel, rfl⟩
theorem D_5_init_13 : Dec m_5_init 13 (.aload_n 0) 1 14 := ⟨by decide +kernel, rfl⟩
theorem D_5_init_14 : Dec m_5_init 14 (.new 13) 3 17 := ⟨by decide +kernel, rfl⟩
theorem D_5_init_17 : Dec m_5_init 17 (.dup) 1 18 := ⟨by decide +kernel, rfl⟩
theorem D_5_init_18 : Dec m_5_init 18 (.invokespecial 15) 3 21 := ⟨by decide +kernel, rfl⟩
theorem D_5_init_21 : Dec m_5_init 21 (.putfield 16) 3 24 := ⟨by decide +kernel, rfl⟩
theorem D_5_init_24 : Dec m_5_init 24 (.aload_n 0) 1 25 := ⟨by decide +kernel, rfl⟩
theorem D_5_init_25 : Dec m_5_init 25 (.new 20) 3 28 := ⟨by decide +kernel, rfl⟩
theorem D_5_init_28 : Dec m_5_init 28 (.dup) 1 29 := ⟨by decide +kernel, rfl⟩
theorem D_5_init_29 : Dec m_5_init 29 (.invokespecial 22) 3 32 := ⟨by decide +kernel, rfl⟩
theorem D_5_init_32 : Dec m_5_init 32 (.putfield 23) 3 35 := ⟨by decide +kernel, rfl⟩
theorem D_5_init_35 : Dec m_5_init 35 (.aload_n 0) 1 36 := ⟨by decide +kernel, rfl⟩
theorem D_5_init_36 : Dec m_5_init 36 (.new 20) 3 39 := ⟨by decide +kernel, rfl⟩
theorem D_5_init_39 : Dec m_5_init 39 (.dup) 1 40 := ⟨by decide +kernel, rfl⟩
theorem D_5_init_40 : Dec m_5_init 40 (.invokespecial 22) 3 43 := ⟨by decide +kernel, rfl⟩
theorem D_5_init_43 : Dec m_5_init 43 (.putfield 27) 3 46 := ⟨by decide +kernel, rfl⟩
theorem D_5_init_46 : Dec m_5_init 46 (.aload_n 0) 1 47 := ⟨by decide +kernel, rfl⟩
theorem D_5_init_47 : Dec m_5_init 47 (.new 30) 3 50 := ⟨by decide +kernel, rfl⟩
theorem D_5_init_50 : Dec m_5_init 50 (.dup) 1 51 := ⟨by decide +kernel, rfl⟩
theorem D_5_init_51 : Dec m_5_init 51 (.invokespecial 32) 3 54 := ⟨by decide +kernel, rfl⟩
theorem D_5_init_54 : Dec m_5_init 54 (.putfield 33) 3 57 := ⟨by decide +kernel, rfl⟩
theorem D_5_init_57 : Dec m_5_init 57 (.aload_n 0) 1 58 := ⟨by decide +kernel, rfl⟩
theorem D_5_init_58 : Dec m_5_init 58 (.new 30) 3 61 := ⟨by decide +kernel, rfl⟩
theorem D_5_init_61 : Dec m_5_init 61 (.dup) 1 62 := ⟨by decide +kernel, rfl⟩
theorem D_5_init_62 : Dec m_5_init 62 (.invokespecial 32) 3 65 := ⟨by decide +kernel, rfl⟩
theorem D_5_init_65 : Dec m_5_init 65 (.putfield 37) 3 68 := ⟨by decide +kernel, rfl⟩
theorem D_5_init_68 : Dec m_5_init 68 (.aload_n 0) 1 69 := ⟨by decide +kernel, rfl⟩
theorem D_5_init_69 : Dec m_5_init 69 (.bipush 8) 2 71 := ⟨by decide +kernel, rfl⟩
theorem D_5_init_71 : Dec m_5_init 71 (.anewarray 30) 3 74 := ⟨by decide +kernel, rfl⟩
theorem D_5_init_74 : Dec m_5_init 74 (.putfield 40) 3 77 := ⟨by decide +kernel, rfl⟩
theorem D_5_init_77 : Dec m_5_init 77 (.aload_n 0) 1 78 := ⟨by decide +kernel, rfl⟩
theorem D_5_init_78 : Dec m_5_init 78 (.iconst 2) 1 79 := ⟨by decide +kernel, rfl⟩
theorem D_5_init_79 : Dec m_5_init 79 (.anewarray 30) 3 82 := ⟨by decide +kernel, rfl⟩
theorem D_5_init_82 : Dec m_5_init 82 (.putfield 44) 3 85 := ⟨by decide +kernel, rfl⟩
theorem D_5_init_85 : Dec m_5_init 85 (.aload_n 0) 1 86 := ⟨by decide +kernel, rfl⟩
theorem D_5_init_86 : Dec m_5_init 86 (.new 47) 3 89 := ⟨by decide +kernel, rfl⟩
theorem D_5_init_89 : Dec m_5_init 89 (.dup) 1 90 := ⟨by decide +kernel, rfl⟩
theorem D_5_init_90 : Dec m_5_init 90 (.invokespecial 49) 3 93 := ⟨by decide +kernel, rfl⟩
theorem D_5_init_93 : Dec m_5_init 93 (.putfield 50) 3 96 := ⟨by decide +kernel, rfl⟩
theorem D_5_init_96 : Dec m_5_init 96 (.aload_n 0) 1 97 := ⟨by decide +kernel, rfl⟩
theorem D_5_init_97 : Dec m_5_init 97 (.new 54) 3 100 := ⟨by decide +kernel, rfl⟩
theorem D_5_init_100 : Dec m_5_init 100 (.dup) 1 101 := ⟨by decide +kernel, rfl⟩
theorem D_5_init_101 : Dec m_5_init 101 (.invokespecial 56) 3 104 := ⟨by decide +kernel, rfl⟩
theorem D_5_init_104 : Dec m_5_init 104 (.putfield 57) 3 107 := ⟨by decide +kernel, rfl⟩
theorem D_5_init_107 : Dec m_5_init 107 (.iconst 0) 1 108 := ⟨by decide +kernel, rfl⟩
theorem D_5_init_108 : Dec m_5_init 108 (.istore_n 1) 1 109 := ⟨by decide +kernel, rfl⟩
theorem D_5_init_109 : Dec m_5_init 109 (.iload_n 1) 1 110 := ⟨by decide +kernel, rfl⟩
theorem D_5_init_110 : Dec m_5_init 110 (.bipush 8) 2 112 := ⟨by decide +kernel, rfl⟩
theorem D_5_init_112 : DecJ m_5_init 112 (.if_icmp .ge) 115 134 := ⟨22, by decide +kernel, rfl, rfl⟩
theorem D_5_init_115 : Dec m_5_init 115 (.aload_n 0) 1 116 := ⟨by decide +kernel, rfl⟩
theorem D_5_init_116 : Dec m_5_init 116 (.getfield 40) 3 119 := ⟨by decide +kernel, rfl⟩
theorem D_5_init_119 : Dec m_5_init 119 (.iload_n 1) 1 120 := ⟨by decide +kernel, rfl⟩
theorem D_5_init_120 : Dec m_5_init 120 (.new 30) 3 123 := ⟨by decide +kernel, rfl⟩
theorem D_5_init_123 : Dec m_5_init 123 (.dup) 1 124 := ⟨by decide +kernel, rfl⟩
theorem D_5_init_124 : Dec m_5_init 124 (.invokespecial 32) 3 127 := ⟨by decide +kernel, rfl⟩
theorem D_5_init_127 : Dec m_5_init 127 (.aastore) 1 128 := ⟨by decide +kernel, rfl⟩
theorem D_5_init_128 : Dec m_5_init 128 (.iinc 1 1) 3 131 := ⟨by decide +kernel, rfl⟩
theorem D_5_init_131 : DecJ m_5_init 131 (.goto) 134 109 := ⟨-22, by decide +kernel, rfl, rfl⟩
theorem D_5_init_134 : Dec m_5_init 134 (.iconst 0) 1 135 := ⟨by decide +kernel, rfl⟩
theorem D_5_init_135 : Dec m_5_init 135 (.istore_n 1) 1 136 := ⟨by decide +kernel, rfl⟩
theorem D_5_init_136 : Dec m_5_init 136 (.iload_n 1) 1 137 := ⟨by decide +kernel, rfl⟩
theorem D_5_init_137 : Dec m_5_init 137 (.iconst 2) 1 138 := ⟨by decide +kernel, rfl⟩
theorem D_5_init_138 : DecJ m_5_init 138 (.if_icmp .ge) 141 160 := ⟨22, by decide +kernel, rfl, rfl⟩
theorem D_5_init_141 : Dec m_5_init 141 (.aload_n 0) 1 142 := ⟨by decide +kernel, rfl⟩
theorem D_5_init_142 : Dec m_5_init 142 (.getfield 44) 3 145 := ⟨by decide +kernel, rfl⟩
theorem D_5_init_145 : Dec m_5_init 145 (.iload_n 1) 1 146 := ⟨by decide +kernel, rfl⟩
theorem D_5_init_146 : Dec m_5_init 146 (.new 30) 3 149 := ⟨by decide +kernel, rfl⟩
theorem D_5_init_149 : Dec m_5_init 149 (.dup) 1 150 := ⟨by decide +kernel, rfl⟩
theorem D_5_init_150 : Dec m_5_init 150 (.invokespecial 32) 3 153 := ⟨by decide +kernel, rfl⟩
theorem D_5_init_153 : Dec m_5_init 153 (.aastore) 1 154 := ⟨by decide +kernel, rfl⟩
theorem D_5_init_154 : Dec m_5_init 154 (.iinc 1 1) 3 157 := ⟨by decide +kernel, rfl⟩
theorem D_5_init_157 : DecJ m_5_init 157 (.goto) 160 136 := ⟨-21, by decide +kernel, rfl, rfl⟩
theorem D_5_init_160 : Dec m_5_init 160 (.ldc 61) 2 162 := ⟨by decide +kernel, rfl⟩
theorem D_5_init_162 : Dec m_5_init 162 (.invokevirtual 63) 3 165 := ⟨by decide +kernel, rfl⟩
theorem D_5_init_165 : Dec m_5_init 165 (.istore_n 1) 1 166 := ⟨by decide +kernel, rfl⟩
theorem D_5_init_166 : Dec m_5_init 166 (.iconst 0) 1 167 := ⟨by decide +kernel, rfl⟩
theorem D_5_init_167 : Dec m_5_init 167 (.istore_n 2) 1 168 := ⟨by decide +kernel, rfl⟩
theorem D_5_init_168 : Dec m_5_init 168 (.iload_n 2) 1 169 := ⟨by decide +kernel, rfl⟩
theorem D_5_init_169 : Dec m_5_init 169 (.iload_n 1) 1 170 := ⟨by decide +kernel, rfl⟩
theorem D_5_init_170 : DecJ m_5_init 170 (.if_icmp .ge) 173 199 := ⟨29, by decide +kernel, rfl, rfl⟩
theorem D_5_init_173 : Dec m_5_init 173 (.iload_n 2) 1 174 := ⟨by decide +kernel, rfl⟩
theorem D_5_init_174 : Dec m_5_init 174 (.sipush 300) 3 177 := ⟨by decide +kernel, rfl⟩
theorem D_5_init_177 : DecJ m_5_init 177 (.if_icmp .ge) 180 199 := ⟨22, by decide +kernel, rfl, rfl⟩
theorem D_5_init_180 : Dec m_5_init 180 (.aload_n 0) 1 181 := ⟨by decide +kernel, rfl⟩
theorem D_5_init_181 : Dec m_5_init 181 (.getfield 9) 3 184 := ⟨by decide +kernel, rfl⟩
theorem D_5_init_184 : Dec m_5_init 184 (.iload_n 2) 1 185 := ⟨by decide +kernel, rfl⟩
theorem D_5_init_185 : Dec m_5_init 185 (.ldc 61) 2 187 := ⟨by decide +kernel, rfl⟩
theorem D_5_init_187 : Dec m_5_init 187 (.iload_n 2) 1 188 := ⟨by decide +kernel, rfl⟩
theorem D_5_init_188 : Dec m_5_init 188 (.invokevirtual 69) 3 191 := ⟨by decide +kernel, rfl⟩
theorem D_5_init_191 : Dec m_5_init 191 (.i2b) 1 192 := ⟨by decide +kernel, rfl⟩
theorem D_5_init_192 : Dec m_5_init 192 (.bastore) 1 193 := ⟨by decide +kernel, rfl⟩
theorem D_5_init_193 : Dec m_5_init 193 (.iinc 2 1) 3 196 := ⟨by decide +kernel, rfl⟩
theorem D_5_init_196 : DecJ m_5_init 196 (.goto) 199 168 := ⟨-28, by decide +kernel, rfl, rfl⟩
theorem D_5_init_199 : Dec m_5_init 199 (.aload_n 0) 1 200 := ⟨by decide +kernel, rfl⟩
theorem D_5_init_200 : Dec m_5_init 200 (.getfield 16) 3 203 := ⟨by decide +kernel, rfl⟩
theorem D_5_init_203 : Dec m_5_init 203 (.aload_n 0) 1 204 := ⟨by decide +kernel, rfl⟩
theorem D_5_init_204 : Dec m_5_init 204 (.getfield 9) 3 207 := ⟨by decide +kernel, rfl⟩
theorem D_5_init_207 : Dec m_5_init 207 (.iload_n 1) 1 208 := ⟨by decide +kernel, rfl⟩
theorem D_5_init_208 : Dec m_5_init 208 (.aload_n 0) 1 209 := ⟨by decide +kernel, rfl⟩
theorem D_5_init_209 : Dec m_5_init 209 (.getfield 23) 3 212 := ⟨by decide +kernel, rfl⟩
theorem D_5_init_212 : Dec m_5_init 212 (.invokevirtual 73) 3 215 := ⟨by decide +kernel, rfl⟩
theorem D_5_init_215 : Dec m_5_init 215 (.pop) 1 216 := ⟨by decide +kernel, rfl⟩
theorem D_5_init_216 : Dec m_5_init 216 (.aload_n 0) 1 217 := ⟨by decide +kernel, rfl⟩
theorem D_5_init_217 : Dec m_5_init 217 (.getfield 33) 3 220 := ⟨by decide +kernel, rfl⟩
theorem D_5_init_220 : Dec m_5_init 220 (.aload_n 0) 1 221 := ⟨by decide +kernel, rfl⟩
theorem D_5_init_221 : Dec m_5_init 221 (.getfield 23) 3 224 := ⟨by decide +kernel, rfl⟩
theorem D_5_init_224 : Dec m_5_init 224 (.invokevirtual 77) 3 227 := ⟨by decide +kernel, rfl⟩
theorem D_5_init_227 : Dec m_5_init 227 (.return_) 1 228 := ⟨by decide +kernel, rfl⟩
theorem D_5_write_0 : Dec m_5_write 0 (.iload_n 1) 1 1 := ⟨by decide +kernel, rfl⟩
theorem D_5_write_1 : Dec m_5_write 1 (.iconst 1) 1 2 := ⟨by decide +kernel, rfl⟩
theorem D_5_write_2 : DecJ m_5_write 2 (.if_icmp .lt) 5 11 := ⟨9, by decide +kernel, rfl, rfl⟩
theorem D_5_write_5 : Dec m_5_write 5 (.iload_n 1) 1 6 := ⟨by decide +kernel, rfl⟩
theorem D_5_write_6 : Dec m_5_write 6 (.bipush 8) 2 8 := ⟨by decide +kernel, rfl⟩
theorem D_5_write_8 : DecJ m_5_write 8 (.if_icmp .le) 11 13 := ⟨5, by decide +kernel, rfl, rfl⟩
theorem D_5_write_11 : Dec m_5_write 11 (.iconst (-1)) 1 12 := ⟨by decide +kernel, rfl⟩
theorem D_5_write_12 : Dec m_5_write 12 (.ireturn) 1 13 := ⟨by decide +kernel, rfl⟩
theorem D_5_write_13 : Dec m_5_write 13 (.aload_n 0) 1 14 := ⟨by decide +kernel, rfl⟩
theorem D_5_write_14 : Dec m_5_write 14 (.getfield 81) 3 17 := ⟨by decide +kernel, rfl⟩
theorem D_5_write_17 : Dec m_5_write 17 (.iload_n 1) 1 18 := ⟨by decide +kernel, rfl⟩
theorem D_5_write_18 : Dec m_5_write 18 (.iadd) 1 19 := ⟨by decide +kernel, rfl⟩
theorem D_5_write_19 : Dec m_5_write 19 (.sipush 300) 3 22 := ⟨by decide +kernel, rfl⟩
theorem D_5_write_22 : DecJ m_5_write 22 (.if_icmp .le) 25 28 := ⟨6, by decide +kernel, rfl, rfl⟩
theorem D_5_write_25 : Dec m_5_write 25 (.bipush (-3)) 2 27 := ⟨by decide +kernel, rfl⟩
theorem D_5_write_27 : Dec m_5_write 27 (.ireturn) 1 28 := ⟨by decide +kernel, rfl⟩
theorem D_5_write_28 : Dec m_5_write 28 (.iload_n 1) 1 29 := ⟨by decide +kernel, rfl⟩
theorem D_5_write_29 : Dec m_5_write 29 (.iconst 1) 1 30 := ⟨by decide +kernel, rfl⟩
theorem D_5_write_30 : Dec m_5_write 30 (.isub) 1 31 := ⟨by decide +kernel, rfl⟩
theorem D_5_write_31 : Dec m_5_write 31 (.istore 4) 2 33 := ⟨by decide +kernel, rfl⟩
theorem D_5_write_33 : Dec m_5_write 33 (.iload 4) 2 35 := ⟨by decide +kernel, rfl⟩
theorem D_5_write_35 : DecJ m_5_write 35 (.ifCond .lt) 38 72 := ⟨37, by decide +kernel, rfl, rfl⟩
theorem D_5_write_38 : Dec m_5_write 38 (.aload_n 0) 1 39 := ⟨by decide +kernel, rfl⟩
theorem D_5_write_39 : Dec m_5_write 39 (.getfield 9) 3 42 := ⟨by decide +kernel, rfl⟩
theorem D_5_write_42 : Dec m_5_write 42 (.aload_n 0) 1 43 := ⟨by decide +kernel, rfl⟩
theorem D_5_write_43 : Dec m_5_write 43 (.getfield 81) 3 46 := ⟨by decide +kernel, rfl⟩
theorem D_5_write_46 : Dec m_5_write 46 (.lload_n 2) 1 47 := ⟨by decide +kernel, rfl⟩
theorem D_5_write_47 : Dec m_5_write 47 (.bipush 8) 2 49 := ⟨by decide +kernel, rfl⟩
theorem D_5_write_49 : Dec m_5_write 49 (.iload 4) 2 51 := ⟨by decide +kernel, rfl⟩
theorem D_5_write_51 : Dec m_5_write 51 (.imul) 1 52 := ⟨by decide +kernel, rfl⟩
theorem D_5_write_52 : Dec m_5_write 52 (.lushr) 1 53 := ⟨by decide +kernel, rfl⟩
theorem D_5_write_53 : Dec m_5_write 53 (.l2i) 1 54 := ⟨by decide +kernel, rfl⟩
theorem D_5_write_54 : Dec m_5_write 54 (.i2b) 1 55 := ⟨by decide +kernel, rfl⟩
theorem D_5_write_55 : Dec m_5_write 55 (.bastore) 1 56 := ⟨by decide +kernel, rfl⟩
theorem D_5_write_56 : Dec m_5_write 56 (.aload_n 0) 1 57 := ⟨by decide +kernel, rfl⟩
theorem D_5_write_57 : Dec m_5_write 57 (.dup) 1 58 := ⟨by decide +kernel, rfl⟩
theorem D_5_write_58 : Dec m_5_write 58 (.getfield 81) 3 61 := ⟨by decide +kernel, rfl⟩
theorem D_5_write_61 : Dec m_5_write 61 (.iconst 1) 1 62 := ⟨by decide +kernel, rfl⟩
theorem D_5_write_62 : Dec m_5_write 62 (.iadd) 1 63 := ⟨by decide +kernel, rfl⟩
theorem D_5_write_63 : Dec m_5_write 63 (.putfield 81) 3 66 := ⟨by decide +kernel, rfl⟩
theorem D_5_write_66 : Dec m_5_write 66 (.iinc 4 (-1)) 3 69 := ⟨by decide +kernel, rfl⟩
theorem D_5_write_69 : DecJ m_5_write 69 (.goto) 72 33 := ⟨-36, by decide +kernel, rfl, rfl⟩
theorem D_5_write_72 : Dec m_5_write 72 (.aload_n 0) 1 73 := ⟨by decide +kernel, rfl⟩
theorem D_5_write_73 : Dec m_5_write 73 (.getfield 81) 3 76 := ⟨by decide +kernel, rfl⟩
theorem D_5_write_76 : Dec m_5_write 76 (.ireturn) 1 77 := ⟨by decide +kernel, rfl⟩
theorem D_5_wipe_0 : Dec m_5_wipe 0 (.aload_n 0) 1 1 := ⟨by decide +kernel, rfl⟩
theorem D_5_wipe_1 : Dec m_5_wipe 1 (.getfield 81) 3 4 := ⟨by decide +kernel, rfl⟩
theorem D_5_wipe_4 : Dec m_5_wipe 4 (.istore_n 1) 1 5 := ⟨by decide +kernel, rfl⟩
theorem D_5_wipe_5 : Dec m_5_wipe 5 (.aload_n 0) 1 6 := ⟨by decide +kernel, rfl⟩
theorem D_5_wipe_6 : Dec m_5_wipe 6 (.iconst 0) 1 7 := ⟨by decide +kernel, rfl⟩
theorem D_5_wipe_7 : Dec m_5_wipe 7 (.putfield 81) 3 10 := ⟨by decide +kernel, rfl⟩
theorem D_5_wipe_10 : Dec m_5_wipe 10 (.iload_n 1) 1 11 := ⟨by decide +kernel, rfl⟩
theorem D_5_wipe_11 : Dec m_5_wipe 11 (.ireturn) 1 12 := ⟨by decide +kernel, rfl⟩
theorem D_5_fault_0 : Dec m_5_fault 0 (.aload_n 0) 1 1 := ⟨by decide +kernel, rfl⟩
theorem D_5_fault_1 : Dec m_5_fault 1 (.getfield 16) 3 4 := ⟨by decide +kernel, rfl⟩
theorem D_5_fault_4 : Dec m_5_fault 4 (.aload_n 0) 1 5 := ⟨by decide +kernel, rfl⟩
theorem D_5_fault_5 : Dec m_5_fault 5 (.getfield 9) 3 8 := ⟨by decide +kernel, rfl⟩
theorem D_5_fault_8 : Dec m_5_fault 8 (.aload_n 0) 1 9 := ⟨by decide +kernel, rfl⟩
theorem D_5_fault_9 : Dec m_5_fault 9 (.getfield 81) 3 12 := ⟨by decide +kernel, rfl⟩
theorem D_5_fault_12 : Dec m_5_fault 12 (.aload_n 0) 1 13 := ⟨by decide +kernel, rfl⟩
theorem D_5_fault_13 : Dec m_5_fault 13 (.getfield 27) 3 16 := ⟨by decide +kernel, rfl⟩
theorem D_5_fault_16 : Dec m_5_fault 16 (.invokevirtual 73) 3 19 := ⟨by decide +kernel, rfl⟩
theorem D_5_fault_19 : Dec m_5_fault 19 (.ireturn) 1 20 := ⟨by decide +kernel, rfl⟩
theorem D_5_lay_0 : Dec m_5_lay 0 (.aload_n 0) 1 1 := ⟨by decide +kernel, rfl⟩
theorem D_5_lay_1 : Dec m_5_lay 1 (.getfield 16) 3 4 := ⟨by decide +kernel, rfl⟩
theorem D_5_lay_4 : Dec m_5_lay 4 (.aload_n 0) 1 5 := ⟨by decide +kernel, rfl⟩
theorem D_5_lay_5 : Dec m_5_lay 5 (.getfield 9) 3 8 := ⟨by decide +kernel, rfl⟩
theorem D_5_lay_8 : Dec m_5_lay 8 (.aload_n 0) 1 9 := ⟨by decide +kernel, rfl⟩
theorem D_5_lay_9 : Dec m_5_lay 9 (.getfield 81) 3 12 := ⟨by decide +kernel, rfl⟩
theorem D_5_lay_12 : Dec m_5_lay 12 (.aload_n 0) 1 13 := ⟨by decide +kernel, rfl⟩
theorem D_5_lay_13 : Dec m_5_lay 13 (.getfield 27) 3 16 := ⟨by decide +kernel, rfl⟩
theorem D_5_lay_16 : Dec m_5_lay 16 (.invokevirtual 73) 3 19 := ⟨by decide +kernel, rfl⟩
theorem D_5_lay_19 : Dec m_5_lay 19 (.bipush (-4)) 2 21 := ⟨by decide +kernel, rfl⟩
theorem D_5_lay_21 : DecJ m_5_lay 21 (.if_icmp .ne) 24 46 := ⟨25, by decide +kernel, rfl, rfl⟩
theorem D_5_lay_24 : Dec m_5_lay 24 (.aload_n 0) 1 25 := ⟨by decide +kernel, rfl⟩
theorem D_5_lay_25 : Dec m_5_lay 25 (.getfield 27) 3 28 := ⟨by decide +kernel, rfl⟩
theorem D_5_lay_28 : Dec m_5_lay 28 (.getfield 85) 3 31 := ⟨by decide +kernel, rfl⟩
theorem D_5_lay_31 : Dec m_5_lay 31 (.iconst 1) 1 32 := ⟨by decide +kernel, rfl⟩
theorem D_5_lay_32 : DecJ m_5_lay 32 (.if_icmp .lt) 35 46 := ⟨14, by decide +kernel, rfl, rfl⟩
theorem D_5_lay_35 : Dec m_5_lay 35 (.aload_n 0) 1 36 := ⟨by decide +kernel, rfl⟩
theorem D_5_lay_36 : Dec m_5_lay 36 (.getfield 27) 3 39 := ⟨by decide +kernel, rfl⟩
theorem D_5_lay_39 : Dec m_5_lay 39 (.getfield 88) 3 42 := ⟨by decide +kernel, rfl⟩
theorem D_5_lay_42 : Dec m_5_lay 42 (.iconst 1) 1 43 := ⟨by decide +kernel, rfl⟩
theorem D_5_lay_43 : DecJ m_5_lay 43 (.if_icmp .ge) 46 49 := ⟨6, by decide +kernel, rfl, rfl⟩
theorem D_5_lay_46 : Dec m_5_lay 46 (.bipush (-2)) 2 48 := ⟨by decide +kernel, rfl⟩
theorem D_5_lay_48 : Dec m_5_lay 48 (.ireturn) 1 49 := ⟨by decide +kernel, rfl⟩
theorem D_5_lay_49 : Dec m_5_lay 49 (.aload_n 0) 1 50 := ⟨by decide +kernel, rfl⟩
theorem D_5_lay_50 : Dec m_5_lay 50 (.getfield 27) 3 53 := ⟨by decide +kernel, rfl⟩
theorem D_5_lay_53 : Dec m_5_lay 53 (.astore_n 1) 1 54 := ⟨by decide +kernel, rfl⟩
theorem D_5_lay_54 : Dec m_5_lay 54 (.aload_n 0) 1 55 := ⟨by decide +kernel, rfl⟩
theorem D_5_lay_55 : Dec m_5_lay 55 (.aload_n 0) 1 56 := ⟨by decide +kernel, rfl⟩
theorem D_5_lay_56 : Dec m_5_lay 56 (.getfield 23) 3 59 := ⟨by decide +kernel, rfl⟩
theorem D_5_lay_59 : Dec m_5_lay 59 (.putfield 27) 3 62 := ⟨by decide +kernel, rfl⟩
theorem D_5_lay_62 : Dec m_5_lay 62 (.aload_n 0) 1 63 := ⟨by decide +kernel, rfl⟩
theorem D_5_lay_63 : Dec m_5_lay 63 (.aload_n 1) 1 64 := ⟨by decide +kernel, rfl⟩
theorem D_5_lay_64 : Dec m_5_lay 64 (.putfield 23) 3 67 := ⟨by decide +kernel, rfl⟩
theorem D_5_lay_67 : Dec m_5_lay 67 (.aload_n 0) 1 68 := ⟨by decide +kernel, rfl⟩
theorem D_5_lay_68 : Dec m_5_lay 68 (.getfield 33) 3 71 := ⟨by decide +kernel, rfl⟩
theorem D_5_lay_71 : Dec m_5_lay 71 (.aload_n 0) 1 72 := ⟨by decide +kernel, rfl⟩
theorem D_5_lay_72 : Dec m_5_lay 72 (.getfield 23) 3 75 := ⟨by decide +kernel, rfl⟩
theorem D_5_lay_75 : Dec m_5_lay 75 (.invokevirtual 77) 3 78 := ⟨by decide +kernel, rfl⟩
theorem D_5_lay_78 : Dec m_5_lay 78 (.aload_n 0) 1 79 := ⟨by decide +kernel, rfl⟩
theorem D_5_lay_79 : Dec m_5_lay 79 (.iconst 0) 1 80 := ⟨by decide +kernel, rfl⟩
theorem D_5_lay_80 : Dec m_5_lay 80 (.putfield 91) 3 83 := ⟨by decide +kernel, rfl⟩
theorem D_5_lay_83 : Dec m_5_lay 83 (.aload_n 0) 1 84 := ⟨by decide +kernel, rfl⟩
theorem D_5_lay_84 : Dec m_5_lay 84 (.iconst 0) 1 85 := ⟨by decide +kernel, rfl⟩
theorem D_5_lay_85 : Dec m_5_lay 85 (.putfield 94) 3 88 := ⟨by decide +kernel, rfl⟩
theorem D_5_lay_88 : Dec m_5_lay 88 (.aload_n 0) 1 89 := ⟨by decide +kernel, rfl⟩
theorem D_5_lay_89 : Dec m_5_lay 89 (.getfield 23) 3 92 := ⟨by decide +kernel, rfl⟩
theorem D_5_lay_92 : Dec m_5_lay 92 (.getfield 85) 3 95 := ⟨by decide +kernel, rfl⟩
theorem D_5_lay_95 : Dec m_5_lay 95 (.ireturn) 1 96 := ⟨by decide +kernel, rfl⟩
theorem D_5_person_0 : Dec m_5_person 0 (.aload_n 0) 1 1 := ⟨by decide +kernel, rfl⟩
theorem D_5_person_1 : Dec m_5_person 1 (.iload_n 1) 1 2 := ⟨by decide +kernel, rfl⟩
theorem D_5_person_2 : Dec m_5_person 2 (.invokevirtual 97) 3 5 := ⟨by decide +kernel, rfl⟩
theorem D_5_person_5 : DecJ m_5_person 5 (.ifCond .ne) 8 10 := ⟨5, by decide +kernel, rfl, rfl⟩
theorem D_5_person_8 : Dec m_5_person 8 (.iconst (-1)) 1 9 := ⟨by decide +kernel, rfl⟩
theorem D_5_person_9 : Dec m_5_person 9 (.ireturn) 1 10 := ⟨by decide +kernel, rfl⟩
theorem D_5_person_10 : Dec m_5_person 10 (.iload_n 2) 1 11 := ⟨by decide +kernel, rfl⟩
theorem D_5_person_11 : Dec m_5_person 11 (.tableswitch 55 0 2 #[25, 35, 45]) 25 36 := ⟨by decide +kernel, rfl⟩
theorem D_5_person_36 : Dec m_5_person 36 (.aload_n 0) 1 37 := ⟨by decide +kernel, rfl⟩
theorem D_5_person_37 : Dec m_5_person 37 (.getfield 33) 3 40 := ⟨by decide +kernel, rfl⟩
theorem D_5_person_40 : Dec m_5_person 40 (.getfield 101) 3 43 := ⟨by decide +kernel, rfl⟩
theorem D_5_person_43 : Dec m_5_person 43 (.iload_n 1) 1 44 := ⟨by decide +kernel, rfl⟩
theorem D_5_person_44 : Dec m_5_person 44 (.iaload) 1 45 := ⟨by decide +kernel, rfl⟩
theorem D_5_person_45 : Dec m_5_person 45 (.ireturn) 1 46 := ⟨by decide +kernel, rfl⟩
theorem D_5_person_46 : Dec m_5_person 46 (.aload_n 0) 1 47 := ⟨by decide +kernel, rfl⟩
theorem D_5_person_47 : Dec m_5_person 47 (.getfield 33) 3 50 := ⟨by decide +kernel, rfl⟩
theorem D_5_person_50 : Dec m_5_person 50 (.getfield 105) 3 53 := ⟨by decide +kernel, rfl⟩
theorem D_5_person_53 : Dec m_5_person 53 (.iload_n 1) 1 54 := ⟨by decide +kernel, rfl⟩
theorem D_5_person_54 : Dec m_5_person 54 (.iaload) 1 55 := ⟨by decide +kernel, rfl⟩
theorem D_5_person_55 : Dec m_5_person 55 (.ireturn) 1 56 := ⟨by decide +kernel, rfl⟩
theorem D_5_person_56 : Dec m_5_person 56 (.aload_n 0) 1 57 := ⟨by decide +kernel, rfl⟩
theorem D_5_person_57 : Dec m_5_person 57 (.getfield 33) 3 60 := ⟨by decide +kernel, rfl⟩
theorem D_5_person_60 : Dec m_5_person 60 (.getfield 108) 3 63 := ⟨by decide +kernel, rfl⟩
theorem D_5_person_63 : Dec m_5_person 63 (.iload_n 1) 1 64 := ⟨by decide +kernel, rfl⟩
theorem D_5_person_64 : Dec m_5_person 64 (.iaload) 1 65 := ⟨by decide +kernel, rfl⟩
theorem D_5_person_65 : Dec m_5_person 65 (.ireturn) 1 66 := ⟨by decide +kernel, rfl⟩
theorem D_5_person_66 : Dec m_5_person 66 (.iconst (-1)) 1 67 := ⟨by decide +kernel, rfl⟩
theorem D_5_person_67 : Dec m_5_person 67 (.ireturn) 1 68 := ⟨by decide +kernel, rfl⟩
theorem D_5_saying_0 : Dec m_5_saying 0 (.aload_n 0) 1 1 := ⟨by decide +kernel, rfl⟩
theorem D_5_saying_1 : Dec m_5_saying 1 (.iload_n 1) 1 2 := ⟨by decide +kernel, rfl⟩
theorem D_5_saying_2 : Dec m_5_saying 2 (.invokevirtual 111) 3 5 := ⟨by decide +kernel, rfl⟩
theorem D_5_saying_5 : DecJ m_5_saying 5 (.ifCond .ne) 8 10 := ⟨5, by decide +kernel, rfl, rfl⟩
theorem D_5_saying_8 : Dec m_5_saying 8 (.iconst (-1)) 1 9 := ⟨by decide +kernel, rfl⟩
theorem D_5_saying_9 : Dec m_5_saying 9 (.ireturn) 1 10 := ⟨by decide +kernel, rfl⟩
theorem D_5_saying_10 : Dec m_5_saying 10 (.iload_n 2) 1 11 := ⟨by decide +kernel, rfl⟩
theorem D_5_saying_11 : Dec m_5_saying 11 (.tableswitch 102 0 4 #[33, 43, 53, 63, 73]) 33 44 := ⟨by decide +kernel, rfl⟩
theorem D_5_saying_44 : Dec m_5_saying 44 (.aload_n 0) 1 45 := ⟨by decide +kernel, rfl⟩
theorem D_5_saying_45 : Dec m_5_saying 45 (.getfield 23) 3 48 := ⟨by decide +kernel, rfl⟩
theorem D_5_saying_48 : Dec m_5_saying 48 (.getfield 114) 3 51 := ⟨by decide +kernel, rfl⟩
theorem D_5_saying_51 : Dec m_5_saying 51 (.iload_n 1) 1 52 := ⟨by decide +kernel, rfl⟩
theorem D_5_saying_52 : Dec m_5_saying 52 (.iaload) 1 53 := ⟨by decide +kernel, rfl⟩
theorem D_5_saying_53 : Dec m_5_saying 53 (.ireturn) 1 54 := ⟨by decide +kernel, rfl⟩
theorem D_5_saying_54 : Dec m_5_saying 54 (.aload_n 0) 1 55 := ⟨by decide +kernel, rfl⟩
theorem D_5_saying_55 : Dec m_5_saying 55 (.getfield 23) 3 58 := ⟨by decide +kernel, rfl⟩
theorem D_5_saying_58 : Dec m_5_saying 58 (.getfield 117) 3 61 := ⟨by decide +kernel, rfl⟩
theorem D_5_saying_61 : Dec m_5_saying 61 (.iload_n 1) 1 62 := ⟨by decide +kernel, rfl⟩
theorem D_5_saying_62 : Dec m_5_saying 62 (.iaload) 1 63 := ⟨by decide +kernel, rfl⟩
theorem D_5_saying_63 : Dec m_5_saying 63 (.ireturn) 1 64 := ⟨by decide +kernel, rfl⟩
theorem D_5_saying_64 : Dec m_5_saying 64 (.aload_n 0) 1 65 := ⟨by decide +kernel, rfl⟩
theorem D_5_saying_65 : Dec m_5_saying 65 (.getfield 23) 3 68 := ⟨by decide +kernel, rfl⟩
theorem D_5_saying_68 : Dec m_5_saying 68 (.getfield 120) 3 71 := ⟨by decide +kernel, rfl⟩
theorem D_5_saying_71 : Dec m_5_saying 71 (.iload_n 1) 1 72 := ⟨by decide +kernel, rfl⟩
theorem D_5_saying_72 : Dec m_5_saying 72 (.iaload) 1 73 := ⟨by decide +kernel, rfl⟩
theorem D_5_saying_73 : Dec m_5_saying 73 (.ireturn) 1 74 := ⟨by decide +kernel, rfl⟩
theorem D_5_saying_74 : Dec m_5_saying 74 (.aload_n 0) 1 75 := ⟨by decide +kernel, rfl⟩
theorem D_5_saying_75 : Dec m_5_saying 75 (.getfield 23) 3 78 := ⟨by decide +kernel, rfl⟩
theorem D_5_saying_78 : Dec m_5_saying 78 (.getfield 123) 3 81 := ⟨by decide +kernel, rfl⟩
theorem D_5_saying_81 : Dec m_5_saying 81 (.iload_n 1) 1 82 := ⟨by decide +kernel, rfl⟩
theorem D_5_saying_82 : Dec m_5_saying 82 (.iaload) 1 83 := ⟨by decide +kernel, rfl⟩
theorem D_5_saying_83 : Dec m_5_saying 83 (.ireturn) 1 84 := ⟨by decide +kernel, rfl⟩
theorem D_5_saying_84 : Dec m_5_saying 84 (.aload_n 0) 1 85 := ⟨by decide +kernel, rfl⟩
theorem D_5_saying_85 : Dec m_5_saying 85 (.getfield 33) 3 88 := ⟨by decide +kernel, rfl⟩
theorem D_5_saying_88 : Dec m_5_saying 88 (.getfield 126) 3 91 := ⟨by decide +kernel, rfl⟩
theorem D_5_saying_91 : Dec m_5_saying 91 (.iload_n 1) 1 92 := ⟨by decide +kernel, rfl⟩
theorem D_5_saying_92 : Dec m_5_saying 92 (.invokestatic 129) 3 95 := ⟨by decide +kernel, rfl⟩
theorem D_5_saying_95 : DecJ m_5_saying 95 (.ifCond .eq) 98 110 := ⟨15, by decide +kernel, rfl, rfl⟩
theorem D_5_saying_98 : Dec m_5_saying 98 (.aload_n 0) 1 99 := ⟨by decide +kernel, rfl⟩
theorem D_5_saying_99 : Dec m_5_saying 99 (.getfield 33) 3 102 := ⟨by decide +kernel, rfl⟩
theorem D_5_saying_102 : Dec m_5_saying 102 (.getfield 133) 3 105 := ⟨by decide +kernel, rfl⟩
theorem D_5_saying_105 : Dec m_5_saying 105 (.iload_n 1) 1 106 := ⟨by decide +kernel, rfl⟩
theorem D_5_saying_106 : Dec m_5_saying 106 (.iaload) 1 107 := ⟨by decide +kernel, rfl⟩
theorem D_5_saying_107 : DecJ m_5_saying 107 (.goto) 110 112 := ⟨5, by decide +kernel, rfl, rfl⟩
theorem D_5_saying_110 : Dec m_5_saying 110 (.bipush (-4)) 2 112 := ⟨by decide +kernel, rfl⟩
theorem D_5_saying_112 : Dec m_5_saying 112 (.ireturn) 1 113 := ⟨by decide +kernel, rfl⟩
theorem D_5_saying_113 : Dec m_5_saying 113 (.iconst (-1)) 1 114 := ⟨by decide +kernel, rfl⟩
theorem D_5_saying_114 : Dec m_5_saying 114 (.ireturn) 1 115 := ⟨by decide +kernel, rfl⟩
theorem D_5_melts_0 : Dec m_5_melts 0 (.aload_n 0) 1 1 := ⟨by decide +kernel, rfl⟩
theorem D_5_melts_1 : Dec m_5_melts 1 (.iload_n 1) 1 2 := ⟨by decide +kernel, rfl⟩
theorem D_5_melts_2 : Dec m_5_melts 2 (.invokevirtual 97) 3 5 := ⟨by decide +kernel, rfl⟩
theorem D_5_melts_5 : DecJ m_5_melts 5 (.ifCond .eq) 8 16 := ⟨11, by decide +kernel, rfl, rfl⟩
theorem D_5_melts_8 : Dec m_5_melts 8 (.aload_n 0) 1 9 := ⟨by decide +kernel, rfl⟩
theorem D_5_melts_9 : Dec m_5_melts 9 (.iload_n 2) 1 10 := ⟨by decide +kernel, rfl⟩
theorem D_5_melts_10 : Dec m_5_melts 10 (.invokevirtual 136) 3 13 := ⟨by decide +kernel, rfl⟩
theorem D_5_melts_13 : DecJ m_5_melts 13 (.ifCond .ne) 16 18 := ⟨5, by decide +kernel, rfl, rfl⟩
theorem D_5_melts_16 : Dec m_5_melts 16 (.iconst (-1)) 1 17 := ⟨by decide +kernel, rfl⟩
theorem D_5_melts_17 : Dec m_5_melts 17 (.ireturn) 1 18 := ⟨by decide +kernel, rfl⟩
theorem D_5_melts_18 : Dec m_5_melts 18 (.aload_n 0) 1 19 := ⟨by decide +kernel, rfl⟩
theorem D_5_melts_19 : Dec m_5_melts 19 (.getfield 23) 3 22 := ⟨by decide +kernel, rfl⟩
theorem D_5_melts_22 : Dec m_5_melts 22 (.getfield 139) 3 25 := ⟨by decide +kernel, rfl⟩
theorem D_5_melts_25 : Dec m_5_melts 25 (.iload_n 2) 1 26 := ⟨by decide +kernel, rfl⟩
theorem D_5_melts_26 : Dec m_5_melts 26 (.iaload) 1 27 := ⟨by decide +kernel, rfl⟩
theorem D_5_melts_27 : Dec m_5_melts 27 (.aload_n 0) 1 28 := ⟨by decide +kernel, rfl⟩
theorem D_5_melts_28 : Dec m_5_melts 28 (.getfield 33) 3 31 := ⟨by decide +kernel, rfl⟩
theorem D_5_melts_31 : Dec m_5_melts 31 (.getfield 101) 3 34 := ⟨by decide +kernel, rfl⟩
theorem D_5_melts_34 : Dec m_5_melts 34 (.iload_n 1) 1 35 := ⟨by decide +kernel, rfl⟩
theorem D_5_melts_35 : Dec m_5_melts 35 (.iaload) 1 36 := ⟨by decide +kernel, rfl⟩
theorem D_5_melts_36 : Dec m_5_melts 36 (.imul) 1 37 := ⟨by decide +kernel, rfl⟩
theorem D_5_melts_37 : Dec m_5_melts 37 (.ireturn) 1 38 := ⟨by decide +kernel, rfl⟩
theorem D_5_take_0 : Dec m_5_take 0 (.aload_n 0) 1 1 := ⟨by decide +kernel, rfl⟩
theorem D_5_take_1 : Dec m_5_take 1 (.iload_n 1) 1 2 := ⟨by decide +kernel, rfl⟩
theorem D_5_take_2 : Dec m_5_take 2 (.invokevirtual 97) 3 5 := ⟨by decide +kernel, rfl⟩
theorem D_5_take_5 : DecJ m_5_take 5 (.ifCond .eq) 8 16 := ⟨11, by decide +kernel, rfl, rfl⟩
theorem D_5_take_8 : Dec m_5_take 8 (.aload_n 0) 1 9 := ⟨by decide +kernel, rfl⟩
theorem D_5_take_9 : Dec m_5_take 9 (.iload_n 2) 1 10 := ⟨by decide +kernel, rfl⟩
theorem D_5_take_10 : Dec m_5_take 10 (.invokevirtual 136) 3 13 := ⟨by decide +kernel, rfl⟩
theorem D_5_take_13 : DecJ m_5_take 13 (.ifCond .ne) 16 18 := ⟨5, by decide +kernel, rfl, rfl⟩
theorem D_5_take_16 : Dec m_5_take 16 (.iconst (-1)) 1 17 := ⟨by decide +kernel, rfl⟩
theorem D_5_take_17 : Dec m_5_take 17 (.ireturn) 1 18 := ⟨by decide +kernel, rfl⟩
theorem D_5_take_18 : Dec m_5_take 18 (.aload_n 0) 1 19 := ⟨by decide +kernel, rfl⟩
theorem D_5_take_19 : Dec m_5_take 19 (.getfield 33) 3 22 := ⟨by decide +kernel, rfl⟩
theorem D_5_take_22 : Dec m_5_take 22 (.invokevirtual 142) 3 25 := ⟨by decide +kernel, rfl⟩
theorem D_5_take_25 : DecJ m_5_take 25 (.ifCond .ne) 28 61 := ⟨36, by decide +kernel, rfl, rfl⟩
theorem D_5_take_28 : Dec m_5_take 28 (.aload_n 0) 1 29 := ⟨by decide +kernel, rfl⟩
theorem D_5_take_29 : Dec m_5_take 29 (.getfield 33) 3 32 := ⟨by decide +kernel, rfl⟩
theorem D_5_take_32 : Dec m_5_take 32 (.getfield 146) 3 35 := ⟨by decide +kernel, rfl⟩
theorem D_5_take_35 : Dec m_5_take 35 (.aload_n 0) 1 36 := ⟨by decide +kernel, rfl⟩
theorem D_5_take_36 : Dec m_5_take 36 (.getfield 33) 3 39 := ⟨by decide +kernel, rfl⟩
theorem D_5_take_39 : Dec m_5_take 39 (.getfield 108) 3 42 := ⟨by decide +kernel, rfl⟩
theorem D_5_take_42 : Dec m_5_take 42 (.iload_n 1) 1 43 := ⟨by decide +kernel, rfl⟩
theorem D_5_take_43 : Dec m_5_take 43 (.iaload) 1 44 := ⟨by decide +kernel, rfl⟩
theorem D_5_take_44 : DecJ m_5_take 44 (.if_icmp .lt) 47 61 := ⟨17, by decide +kernel, rfl, rfl⟩
theorem D_5_take_47 : Dec m_5_take 47 (.aload_n 0) 1 48 := ⟨by decide +kernel, rfl⟩
theorem D_5_take_48 : Dec m_5_take 48 (.getfield 33) 3 51 := ⟨by decide +kernel, rfl⟩
theorem D_5_take_51 : Dec m_5_take 51 (.getfield 149) 3 54 := ⟨by decide +kernel, rfl⟩
theorem D_5_take_54 : Dec m_5_take 54 (.iload_n 2) 1 55 := ⟨by decide +kernel, rfl⟩
theorem D_5_take_55 : Dec m_5_take 55 (.invokestatic 129) 3 58 := ⟨by decide +kernel, rfl⟩
theorem D_5_take_58 : DecJ m_5_take 58 (.ifCond .ne) 61 64 := ⟨6, by decide +kernel, rfl, rfl⟩
theorem D_5_take_61 : Dec m_5_take 61 (.bipush (-2)) 2 63 := ⟨by decide +kernel, rfl⟩
theorem D_5_take_63 : Dec m_5_take 63 (.ireturn) 1 64 := ⟨by decide +kernel, rfl⟩
theorem D_5_take_64 : Dec m_5_take 64 (.aload_n 0) 1 65 := ⟨by decide +kernel, rfl⟩
theorem D_5_take_65 : Dec m_5_take 65 (.invokevirtual 152) 3 68 := ⟨by decide +kernel, rfl⟩
theorem D_5_take_68 : Dec m_5_take 68 (.aload_n 0) 1 69 := ⟨by decide +kernel, rfl⟩
theorem D_5_take_69 : Dec m_5_take 69 (.getfield 23) 3 72 := ⟨by decide +kernel, rfl⟩
theorem D_5_take_72 : Dec m_5_take 72 (.getfield 139) 3 75 := ⟨by decide +kernel, rfl⟩
theorem D_5_take_75 : Dec m_5_take 75 (.iload_n 2) 1 76 := ⟨by decide +kernel, rfl⟩
theorem D_5_take_76 : Dec m_5_take 76 (.iaload) 1 77 := ⟨by decide +kernel, rfl⟩
theorem D_5_take_77 : Dec m_5_take 77 (.aload_n 0) 1 78 := ⟨by decide +kernel, rfl⟩
theorem D_5_take_78 : Dec m_5_take 78 (.getfield 33) 3 81 := ⟨by decide +kernel, rfl⟩
theorem D_5_take_81 : Dec m_5_take 81 (.getfield 101) 3 84 := ⟨by decide +kernel, rfl⟩
theorem D_5_take_84 : Dec m_5_take 84 (.iload_n 1) 1 85 := ⟨by decide +kernel, rfl⟩
theorem D_5_take_85 : Dec m_5_take 85 (.iaload) 1 86 := ⟨by decide +kernel, rfl⟩
theorem D_5_take_86 : Dec m_5_take 86 (.imul) 1 87 := ⟨by decide +kernel, rfl⟩
theorem D_5_take_87 : Dec m_5_take 87 (.istore_n 3) 1 88 := ⟨by decide +kernel, rfl⟩
theorem D_5_take_88 : Dec m_5_take 88 (.aload_n 0) 1 89 := ⟨by decide +kernel, rfl⟩
theorem D_5_take_89 : Dec m_5_take 89 (.getfield 33) 3 92 := ⟨by decide +kernel, rfl⟩
theorem D_5_take_92 : Dec m_5_take 92 (.dup) 1 93 := ⟨by decide +kernel, rfl⟩
theorem D_5_take_93 : Dec m_5_take 93 (.getfield 149) 3 96 := ⟨by decide +kernel, rfl⟩
theorem D_5_take_96 : Dec m_5_take 96 (.iconst 1) 1 97 := ⟨by decide +kernel, rfl⟩
theorem D_5_take_97 : Dec m_5_take 97 (.iload_n 2) 1 98 := ⟨by decide +kernel, rfl⟩
theorem D_5_take_98 : Dec m_5_take 98 (.ishl) 1 99 := ⟨by decide +kernel, rfl⟩
theorem D_5_take_99 : Dec m_5_take 99 (.iconst (-1)) 1 100 := ⟨by decide +kernel, rfl⟩
theorem D_5_take_100 : Dec m_5_take 100 (.ixor) 1 101 := ⟨by decide +kernel, rfl⟩
theorem D_5_take_101 : Dec m_5_take 101 (.iand) 1 102 := ⟨by decide +kernel, rfl⟩
theorem D_5_take_102 : Dec m_5_take 102 (.putfield 149) 3 105 := ⟨by decide +kernel, rfl⟩
theorem D_5_take_105 : Dec m_5_take 105 (.aload_n 0) 1 106 := ⟨by decide +kernel, rfl⟩
theorem D_5_take_106 : Dec m_5_take 106 (.getfield 33) 3 109 := ⟨by decide +kernel, rfl⟩
theorem D_5_take_109 : Dec m_5_take 109 (.iload_n 1) 1 110 := ⟨by decide +kernel, rfl⟩
theorem D_5_take_110 : Dec m_5_take 110 (.putfield 155) 3 113 := ⟨by decide +kernel, rfl⟩
theorem D_5_take_113 : Dec m_5_take 113 (.aload_n 0) 1 114 := ⟨by decide +kernel, rfl⟩
theorem D_5_take_114 : Dec m_5_take 114 (.getfield 33) 3 117 := ⟨by decide +kernel, rfl⟩
theorem D_5_take_117 : Dec m_5_take 117 (.aload_n 0) 1 118 := ⟨by decide +kernel, rfl⟩
theorem D_5_take_118 : Dec m_5_take 118 (.getfield 33) 3 121 := ⟨by decide +kernel, rfl⟩
theorem D_5_take_121 : Dec m_5_take 121 (.getfield 146) 3 124 := ⟨by decide +kernel, rfl⟩
theorem D_5_take_124 : Dec m_5_take 124 (.iload_n 3) 1 125 := ⟨by decide +kernel, rfl⟩
theorem D_5_take_125 : Dec m_5_take 125 (.iadd) 1 126 := ⟨by decide +kernel, rfl⟩
theorem D_5_take_126 : Dec m_5_take 126 (.putfield 158) 3 129 := ⟨by decide +kernel, rfl⟩
theorem D_5_take_129 : Dec m_5_take 129 (.aload_n 0) 1 130 := ⟨by decide +kernel, rfl⟩
theorem D_5_take_130 : Dec m_5_take 130 (.getfield 33) 3 133 := ⟨by decide +kernel, rfl⟩
theorem D_5_take_133 : Dec m_5_take 133 (.getfield 108) 3 136 := ⟨by decide +kernel, rfl⟩
theorem D_5_take_136 : Dec m_5_take 136 (.iload_n 1) 1 137 := ⟨by decide +kernel, rfl⟩
theorem D_5_take_137 : Dec m_5_take 137 (.aload_n 0) 1 138 := ⟨by decide +kernel, rfl⟩
theorem D_5_take_138 : Dec m_5_take 138 (.getfield 33) 3 141 := ⟨by decide +kernel, rfl⟩
theorem D_5_take_141 : Dec m_5_take 141 (.getfield 158) 3 144 := ⟨by decide +kernel, rfl⟩
theorem D_5_take_144 : Dec m_5_take 144 (.iload_n 3) 1 145 := ⟨by decide +kernel, rfl⟩
theorem D_5_take_145 : Dec m_5_take 145 (.iadd) 1 146 := ⟨by decide +kernel, rfl⟩
theorem D_5_take_146 : Dec m_5_take 146 (.iastore) 1 147 := ⟨by decide +kernel, rfl⟩
theorem D_5_take_147 : Dec m_5_take 147 (.aload_n 0) 1 148 := ⟨by decide +kernel, rfl⟩
theorem D_5_take_148 : Dec m_5_take 148 (.getfield 33) 3 151 := ⟨by decide +kernel, rfl⟩
theorem D_5_take_151 : Dec m_5_take 151 (.getfield 158) 3 154 := ⟨by decide +kernel, rfl⟩
theorem D_5_take_154 : Dec m_5_take 154 (.ireturn) 1 155 := ⟨by decide +kernel, rfl⟩
theorem D_5_say_0 : Dec m_5_say 0 (.aload_n 0) 1 1 := ⟨by decide +kernel, rfl⟩
theorem D_5_say_1 : Dec m_5_say 1 (.iload_n 1) 1 2 := ⟨by decide +kernel, rfl⟩
theorem D_5_say_2 : Dec m_5_say 2 (.invokevirtual 111) 3 5 := ⟨by decide +kernel, rfl⟩
theorem D_5_say_5 : DecJ m_5_say 5 (.ifCond .ne) 8 10 := ⟨5, by decide +kernel, rfl, rfl⟩
theorem D_5_say_8 : Dec m_5_say 8 (.iconst (-1)) 1 9 := ⟨by decide +kernel, rfl⟩
theorem D_5_say_9 : Dec m_5_say 9 (.ireturn) 1 10 := ⟨by decide +kernel, rfl⟩
theorem D_5_say_10 : Dec m_5_say 10 (.aload_n 0) 1 11 := ⟨by decide +kernel, rfl⟩
theorem D_5_say_11 : Dec m_5_say 11 (.iload_n 1) 1 12 := ⟨by decide +kernel, rfl⟩
theorem D_5_say_12 : Dec m_5_say 12 (.invokevirtual 161) 3 15 := ⟨by decide +kernel, rfl⟩
theorem D_5_say_15 : DecJ m_5_say 15 (.ifCond .ne) 18 21 := ⟨6, by decide +kernel, rfl, rfl⟩
theorem D_5_say_18 : Dec m_5_say 18 (.bipush (-2)) 2 20 := ⟨by decide +kernel, rfl⟩
theorem D_5_say_20 : Dec m_5_say 20 (.ireturn) 1 21 := ⟨by decide +kernel, rfl⟩
theorem D_5_say_21 : Dec m_5_say 21 (.aload_n 0) 1 22 := ⟨by decide +kernel, rfl⟩
theorem D_5_say_22 : Dec m_5_say 22 (.invokevirtual 152) 3 25 := ⟨by decide +kernel, rfl⟩
theorem D_5_say_25 : Dec m_5_say 25 (.aload_n 0) 1 26 := ⟨by decide +kernel, rfl⟩
theorem D_5_say_26 : Dec m_5_say 26 (.getfield 33) 3 29 := ⟨by decide +kernel, rfl⟩
theorem D_5_say_29 : Dec m_5_say 29 (.dup) 1 30 := ⟨by decide +kernel, rfl⟩
theorem D_5_say_30 : Dec m_5_say 30 (.getfield 146) 3 33 := ⟨by decide +kernel, rfl⟩
theorem D_5_say_33 : Dec m_5_say 33 (.aload_n 0) 1 34 := ⟨by decide +kernel, rfl⟩
theorem D_5_say_34 : Dec m_5_say 34 (.getfield 23) 3 37 := ⟨by decide +kernel, rfl⟩
theorem D_5_say_37 : Dec m_5_say 37 (.getfield 117) 3 40 := ⟨by decide +kernel, rfl⟩
theorem D_5_say_40 : Dec m_5_say 40 (.iload_n 1) 1 41 := ⟨by decide +kernel, rfl⟩
theorem D_5_say_41 : Dec m_5_say 41 (.iaload) 1 42 := ⟨by decide +kernel, rfl⟩
theorem D_5_say_42 : Dec m_5_say 42 (.iadd) 1 43 := ⟨by decide +kernel, rfl⟩
theorem D_5_say_43 : Dec m_5_say 43 (.putfield 146) 3 46 := ⟨by decide +kernel, rfl⟩
theorem D_5_say_46 : Dec m_5_say 46 (.aload_n 0) 1 47 := ⟨by decide +kernel, rfl⟩
theorem D_5_say_47 : Dec m_5_say 47 (.getfield 33) 3 50 := ⟨by decide +kernel, rfl⟩
theorem D_5_say_50 : Dec m_5_say 50 (.dup) 1 51 := ⟨by decide +kernel, rfl⟩
theorem D_5_say_51 : Dec m_5_say 51 (.getfield 126) 3 54 := ⟨by decide +kernel, rfl⟩
theorem D_5_say_54 : Dec m_5_say 54 (.iconst 1) 1 55 := ⟨by decide +kernel, rfl⟩
theorem D_5_say_55 : Dec m_5_say 55 (.iload_n 1) 1 56 := ⟨by decide +kernel, rfl⟩
theorem D_5_say_56 : Dec m_5_say 56 (.ishl) 1 57 := ⟨by decide +kernel, rfl⟩
theorem D_5_say_57 : Dec m_5_say 57 (.ior) 1 58 := ⟨by decide +kernel, rfl⟩
theorem D_5_say_58 : Dec m_5_say 58 (.putfield 126) 3 61 := ⟨by decide +kernel, rfl⟩
theorem D_5_say_61 : Dec m_5_say 61 (.aload_n 0) 1 62 := ⟨by decide +kernel, rfl⟩
theorem D_5_say_62 : Dec m_5_say 62 (.getfield 33) 3 65 := ⟨by decide +kernel, rfl⟩
theorem D_5_say_65 : Dec m_5_say 65 (.getfield 133) 3 68 := ⟨by decide +kernel, rfl⟩
theorem D_5_say_68 : Dec m_5_say 68 (.iload_n 1) 1 69 := ⟨by decide +kernel, rfl⟩
theorem D_5_say_69 : Dec m_5_say 69 (.aload_n 0) 1 70 := ⟨by decide +kernel, rfl⟩
theorem D_5_say_70 : Dec m_5_say 70 (.getfield 33) 3 73 := ⟨by decide +kernel, rfl⟩
theorem D_5_say_73 : Dec m_5_say 73 (.getfield 146) 3 76 := ⟨by decide +kernel, rfl⟩
theorem D_5_say_76 : Dec m_5_say 76 (.iastore) 1 77 := ⟨by decide +kernel, rfl⟩
theorem D_5_say_77 : Dec m_5_say 77 (.aload_n 0) 1 78 := ⟨by decide +kernel, rfl⟩
theorem D_5_say_78 : Dec m_5_say 78 (.getfield 33) 3 81 := ⟨by decide +kernel, rfl⟩
theorem D_5_say_81 : Dec m_5_say 81 (.getfield 105) 3 84 := ⟨by decide +kernel, rfl⟩
theorem D_5_say_84 : Dec m_5_say 84 (.aload_n 0) 1 85 := ⟨by decide +kernel, rfl⟩
theorem D_5_say_85 : Dec m_5_say 85 (.getfield 33) 3 88 := ⟨by decide +kernel, rfl⟩
theorem D_5_say_88 : Dec m_5_say 88 (.getfield 155) 3 91 := ⟨by decide +kernel, rfl⟩
theorem D_5_say_91 : Dec m_5_say 91 (.dup2) 1 92 := ⟨by decide +kernel, rfl⟩
theorem D_5_say_92 : Dec m_5_say 92 (.iaload) 1 93 := ⟨by decide +kernel, rfl⟩
theorem D_5_say_93 : Dec m_5_say 93 (.aload_n 0) 1 94 := ⟨by decide +kernel, rfl⟩
theorem D_5_say_94 : Dec m_5_say 94 (.getfield 23) 3 97 := ⟨by decide +kernel, rfl⟩
theorem D_5_say_97 : Dec m_5_say 97 (.getfield 117) 3 100 := ⟨by decide +kernel, rfl⟩
theorem D_5_say_100 : Dec m_5_say 100 (.iload_n 1) 1 101 := ⟨by decide +kernel, rfl⟩
theorem D_5_say_101 : Dec m_5_say 101 (.iaload) 1 102 := ⟨by decide +kernel, rfl⟩
theorem D_5_say_102 : Dec m_5_say 102 (.iadd) 1 103 := ⟨by decide +kernel, rfl⟩
theorem D_5_say_103 : Dec m_5_say 103 (.iastore) 1 104 := ⟨by decide +kernel, rfl⟩
theorem D_5_say_104 : Dec m_5_say 104 (.aload_n 0) 1 105 := ⟨by decide +kernel, rfl⟩
theorem D_5_say_105 : Dec m_5_say 105 (.getfield 33) 3 108 := ⟨by decide +kernel, rfl⟩
theorem D_5_say_108 : Dec m_5_say 108 (.getfield 146) 3 111 := ⟨by decide +kernel, rfl⟩
theorem D_5_say_111 : Dec m_5_say 111 (.ireturn) 1 112 := ⟨by decide +kernel, rfl⟩
theorem D_5_pass_0 : Dec m_5_pass 0 (.iload_n 1) 1 1 := ⟨by decide +kernel, rfl⟩
theorem D_5_pass_1 : Dec m_5_pass 1 (.iconst 1) 1 2 := ⟨by decide +kernel, rfl⟩
theorem D_5_pass_2 : DecJ m_5_pass 2 (.if_icmp .lt) 5 12 := ⟨10, by decide +kernel, rfl, rfl⟩
theorem D_5_pass_5 : Dec m_5_pass 5 (.iload_n 1) 1 6 := ⟨by decide +kernel, rfl⟩
theorem D_5_pass_6 : Dec m_5_pass 6 (.sipush 600) 3 9 := ⟨by decide +kernel, rfl⟩
theorem D_5_pass_9 : DecJ m_5_pass 9 (.if_icmp .le) 12 14 := ⟨5, by decide +kernel, rfl, rfl⟩
theorem D_5_pass_12 : Dec m_5_pass 12 (.iconst (-1)) 1 13 := ⟨by decide +kernel, rfl⟩
theorem D_5_pass_13 : Dec m_5_pass 13 (.ireturn) 1 14 := ⟨by decide +kernel, rfl⟩
theorem D_5_pass_14 : Dec m_5_pass 14 (.aload_n 0) 1 15 := ⟨by decide +kernel, rfl⟩
theorem D_5_pass_15 : Dec m_5_pass 15 (.getfield 33) 3 18 := ⟨by decide +kernel, rfl⟩
theorem D_5_pass_18 : Dec m_5_pass 18 (.getfield 146) 3 21 := ⟨by decide +kernel, rfl⟩
theorem D_5_pass_21 : Dec m_5_pass 21 (.iload_n 1) 1 22 := ⟨by decide +kernel, rfl⟩
theorem D_5_pass_22 : Dec m_5_pass 22 (.iadd) 1 23 := ⟨by decide +kernel, rfl⟩
theorem D_5_pass_23 : Dec m_5_pass 23 (.sipush 9999) 3 26 := ⟨by decide +kernel, rfl⟩
theorem D_5_pass_26 : DecJ m_5_pass 26 (.if_icmp .le) 29 32 := ⟨6, by decide +kernel, rfl, rfl⟩
theorem D_5_pass_29 : Dec m_5_pass 29 (.bipush (-2)) 2 31 := ⟨by decide +kernel, rfl⟩
theorem D_5_pass_31 : Dec m_5_pass 31 (.ireturn) 1 32 := ⟨by decide +kernel, rfl⟩
theorem D_5_pass_32 : Dec m_5_pass 32 (.aload_n 0) 1 33 := ⟨by decide +kernel, rfl⟩
theorem D_5_pass_33 : Dec m_5_pass 33 (.invokevirtual 152) 3 36 := ⟨by decide +kernel, rfl⟩
theorem D_5_pass_36 : Dec m_5_pass 36 (.aload_n 0) 1 37 := ⟨by decide +kernel, rfl⟩
theorem D_5_pass_37 : Dec m_5_pass 37 (.getfield 33) 3 40 := ⟨by decide +kernel, rfl⟩
theorem D_5_pass_40 : Dec m_5_pass 40 (.dup) 1 41 := ⟨by decide +kernel, rfl⟩
theorem D_5_pass_41 : Dec m_5_pass 41 (.getfield 146) 3 44 := ⟨by decide +kernel, rfl⟩
theorem D_5_pass_44 : Dec m_5_pass 44 (.iload_n 1) 1 45 := ⟨by decide +kernel, rfl⟩
theorem D_5_pass_45 : Dec m_5_pass 45 (.iadd) 1 46 := ⟨by decide +kernel, rfl⟩
theorem D_5_pass_46 : Dec m_5_pass 46 (.putfield 146) 3 49 := ⟨by decide +kernel, rfl⟩
theorem D_5_pass_49 : Dec m_5_pass 49 (.aload_n 0) 1 50 := ⟨by decide +kernel, rfl⟩
theorem D_5_pass_50 : Dec m_5_pass 50 (.getfield 33) 3 53 := ⟨by decide +kernel, rfl⟩
theorem D_5_pass_53 : Dec m_5_pass 53 (.getfield 146) 3 56 := ⟨by decide +kernel, rfl⟩
theorem D_5_pass_56 : Dec m_5_pass 56 (.ireturn) 1 57 := ⟨by decide +kernel, rfl⟩
theorem D_5_eat_0 : Dec m_5_eat 0 (.aload_n 0) 1 1 := ⟨by decide +kernel, rfl⟩
theorem D_5_eat_1 : Dec m_5_eat 1 (.iload_n 1) 1 2 := ⟨by decide +kernel, rfl⟩
theorem D_5_eat_2 : Dec m_5_eat 2 (.invokevirtual 164) 3 5 := ⟨by decide +kernel, rfl⟩
theorem D_5_eat_5 : DecJ m_5_eat 5 (.ifCond .ne) 8 10 := ⟨5, by decide +kernel, rfl, rfl⟩
theorem D_5_eat_8 : Dec m_5_eat 8 (.iconst (-1)) 1 9 := ⟨by decide +kernel, rfl⟩
theorem D_5_eat_9 : Dec m_5_eat 9 (.ireturn) 1 10 := ⟨by decide +kernel, rfl⟩
theorem D_5_eat_10 : Dec m_5_eat 10 (.aload_n 0) 1 11 := ⟨by decide +kernel, rfl⟩
theorem D_5_eat_11 : Dec m_5_eat 11 (.getfield 33) 3 14 := ⟨by decide +kernel, rfl⟩
theorem D_5_eat_14 : Dec m_5_eat 14 (.invokevirtual 142) 3 17 := ⟨by decide +kernel, rfl⟩
theorem D_5_eat_17 : DecJ m_5_eat 17 (.ifCond .ne) 20 34 := ⟨17, by decide +kernel, rfl, rfl⟩
theorem D_5_eat_20 : Dec m_5_eat 20 (.aload_n 0) 1 21 := ⟨by decide +kernel, rfl⟩
theorem D_5_eat_21 : Dec m_5_eat 21 (.getfield 33) 3 24 := ⟨by decide +kernel, rfl⟩
theorem D_5_eat_24 : Dec m_5_eat 24 (.getfield 167) 3 27 := ⟨by decide +kernel, rfl⟩
theorem D_5_eat_27 : Dec m_5_eat 27 (.iload_n 1) 1 28 := ⟨by decide +kernel, rfl⟩
theorem D_5_eat_28 : Dec m_5_eat 28 (.invokestatic 129) 3 31 := ⟨by decide +kernel, rfl⟩
theorem D_5_eat_31 : DecJ m_5_eat 31 (.ifCond .eq) 34 37 := ⟨6, by decide +kernel, rfl, rfl⟩
theorem D_5_eat_34 : Dec m_5_eat 34 (.bipush (-2)) 2 36 := ⟨by decide +kernel, rfl⟩
theorem D_5_eat_36 : Dec m_5_eat 36 (.ireturn) 1 37 := ⟨by decide +kernel, rfl⟩
theorem D_5_eat_37 : Dec m_5_eat 37 (.aload_n 0) 1 38 := ⟨by decide +kernel, rfl⟩
theorem D_5_eat_38 : Dec m_5_eat 38 (.invokevirtual 152) 3 41 := ⟨by decide +kernel, rfl⟩
theorem D_5_eat_41 : Dec m_5_eat 41 (.aload_n 0) 1 42 := ⟨by decide +kernel, rfl⟩
theorem D_5_eat_42 : Dec m_5_eat 42 (.getfield 33) 3 45 := ⟨by decide +kernel, rfl⟩
theorem D_5_eat_45 : Dec m_5_eat 45 (.aload_n 0) 1 46 := ⟨by decide +kernel, rfl⟩
theorem D_5_eat_46 : Dec m_5_eat 46 (.getfield 23) 3 49 := ⟨by decide +kernel, rfl⟩
theorem D_5_eat_49 : Dec m_5_eat 49 (.iload_n 1) 1 50 := ⟨by decide +kernel, rfl⟩
theorem D_5_eat_50 : Dec m_5_eat 50 (.invokevirtual 170) 3 53 := ⟨by decide +kernel, rfl⟩
theorem D_5_eat_53 : Dec m_5_eat 53 (.ireturn) 1 54 := ⟨by decide +kernel, rfl⟩
theorem D_5_undo_0 : Dec m_5_undo 0 (.aload_n 0) 1 1 := ⟨by decide +kernel, rfl⟩
theorem D_5_undo_1 : Dec m_5_undo 1 (.getfield 91) 3 4 := ⟨by decide +kernel, rfl⟩
theorem D_5_undo_4 : Dec m_5_undo 4 (.iconst 1) 1 5 := ⟨by decide +kernel, rfl⟩
theorem D_5_undo_5 : DecJ m_5_undo 5 (.if_icmp .ge) 8 11 := ⟨6, by decide +kernel, rfl, rfl⟩
theorem D_5_undo_8 : Dec m_5_undo 8 (.bipush (-2)) 2 10 := ⟨by decide +kernel, rfl⟩
theorem D_5_undo_10 : Dec m_5_undo 10 (.ireturn) 1 11 := ⟨by decide +kernel, rfl⟩
theorem D_5_undo_11 : Dec m_5_undo 11 (.aload_n 0) 1 12 := ⟨by decide +kernel, rfl⟩
theorem D_5_undo_12 : Dec m_5_undo 12 (.dup) 1 13 := ⟨by decide +kernel, rfl⟩
theorem D_5_undo_13 : Dec m_5_undo 13 (.getfield 91) 3 16 := ⟨by decide +kernel, rfl⟩
theorem D_5_undo_16 : Dec m_5_undo 16 (.iconst 1) 1 17 := ⟨by decide +kernel, rfl⟩
theorem D_5_undo_17 : Dec m_5_undo 17 (.isub) 1 18 := ⟨by decide +kernel, rfl⟩
theorem D_5_undo_18 : Dec m_5_undo 18 (.putfield 91) 3 21 := ⟨by decide +kernel, rfl⟩
theorem D_5_undo_21 : Dec m_5_undo 21 (.aload_n 0) 1 22 := ⟨by decide +kernel, rfl⟩
theorem D_5_undo_22 : Dec m_5_undo 22 (.getfield 33) 3 25 := ⟨by decide +kernel, rfl⟩
theorem D_5_undo_25 : Dec m_5_undo 25 (.aload_n 0) 1 26 := ⟨by decide +kernel, rfl⟩
theorem D_5_undo_26 : Dec m_5_undo 26 (.getfield 40) 3 29 := ⟨by decide +kernel, rfl⟩
theorem D_5_undo_29 : Dec m_5_undo 29 (.aload_n 0) 1 30 := ⟨by decide +kernel, rfl⟩
theorem D_5_undo_30 : Dec m_5_undo 30 (.getfield 91) 3 33 := ⟨by decide +kernel, rfl⟩
theorem D_5_undo_33 : Dec m_5_undo 33 (.aaload) 1 34 := ⟨by decide +kernel, rfl⟩
theorem D_5_undo_34 : Dec m_5_undo 34 (.invokevirtual 174) 3 37 := ⟨by decide +kernel, rfl⟩
theorem D_5_undo_37 : Dec m_5_undo 37 (.aload_n 0) 1 38 := ⟨by decide +kernel, rfl⟩
theorem D_5_undo_38 : Dec m_5_undo 38 (.getfield 91) 3 41 := ⟨by decide +kernel, rfl⟩
theorem D_5_undo_41 : Dec m_5_undo 41 (.ireturn) 1 42 := ⟨by decide +kernel, rfl⟩
theorem D_5_best_0 : Dec m_5_best 0 (.aload_n 0) 1 1 := ⟨by decide +kernel, rfl⟩
theorem D_5_best_1 : Dec m_5_best 1 (.iload_n 1) 1 2 := ⟨by decide +kernel, rfl⟩
theorem D_5_best_2 : Dec m_5_best 2 (.invokevirtual 97) 3 5 := ⟨by decide +kernel, rfl⟩
theorem D_5_best_5 : DecJ m_5_best 5 (.ifCond .eq) 8 25 := ⟨20, by decide +kernel, rfl, rfl⟩
theorem D_5_best_8 : Dec m_5_best 8 (.aload_n 0) 1 9 := ⟨by decide +kernel, rfl⟩
theorem D_5_best_9 : Dec m_5_best 9 (.iload_n 2) 1 10 := ⟨by decide +kernel, rfl⟩
theorem D_5_best_10 : Dec m_5_best 10 (.invokevirtual 136) 3 13 := ⟨by decide +kernel, rfl⟩
theorem D_5_best_13 : DecJ m_5_best 13 (.ifCond .eq) 16 25 := ⟨12, by decide +kernel, rfl, rfl⟩
theorem D_5_best_16 : Dec m_5_best 16 (.iload_n 3) 1 17 := ⟨by decide +kernel, rfl⟩
theorem D_5_best_17 : DecJ m_5_best 17 (.ifCond .lt) 20 25 := ⟨8, by decide +kernel, rfl, rfl⟩
theorem D_5_best_20 : Dec m_5_best 20 (.iload_n 3) 1 21 := ⟨by decide +kernel, rfl⟩
theorem D_5_best_21 : Dec m_5_best 21 (.iconst 1) 1 22 := ⟨by decide +kernel, rfl⟩
theorem D_5_best_22 : DecJ m_5_best 22 (.if_icmp .le) 25 27 := ⟨5, by decide +kernel, rfl, rfl⟩
theorem D_5_best_25 : Dec m_5_best 25 (.iconst (-1)) 1 26 := ⟨by decide +kernel, rfl⟩
theorem D_5_best_26 : Dec m_5_best 26 (.ireturn) 1 27 := ⟨by decide +kernel, rfl⟩
theorem D_5_best_27 : Dec m_5_best 27 (.aload_n 0) 1 28 := ⟨by decide +kernel, rfl⟩
theorem D_5_best_28 : Dec m_5_best 28 (.getfield 23) 3 31 := ⟨by decide +kernel, rfl⟩
theorem D_5_best_31 : Dec m_5_best 31 (.iload_n 1) 1 32 := ⟨by decide +kernel, rfl⟩
theorem D_5_best_32 : Dec m_5_best 32 (.aload_n 0) 1 33 := ⟨by decide +kernel, rfl⟩
theorem D_5_best_33 : Dec m_5_best 33 (.getfield 33) 3 36 := ⟨by decide +kernel, rfl⟩
theorem D_5_best_36 : Dec m_5_best 36 (.getfield 126) 3 39 := ⟨by decide +kernel, rfl⟩
theorem D_5_best_39 : Dec m_5_best 39 (.aload_n 0) 1 40 := ⟨by decide +kernel, rfl⟩
theorem D_5_best_40 : Dec m_5_best 40 (.getfield 23) 3 43 := ⟨by decide +kernel, rfl⟩
theorem D_5_best_43 : Dec m_5_best 43 (.getfield 139) 3 46 := ⟨by decide +kernel, rfl⟩
theorem D_5_best_46 : Dec m_5_best 46 (.iload_n 2) 1 47 := ⟨by decide +kernel, rfl⟩
theorem D_5_best_47 : Dec m_5_best 47 (.iaload) 1 48 := ⟨by decide +kernel, rfl⟩
theorem D_5_best_48 : Dec m_5_best 48 (.aload_n 0) 1 49 := ⟨by decide +kernel, rfl⟩
theorem D_5_best_49 : Dec m_5_best 49 (.getfield 33) 3 52 := ⟨by decide +kernel, rfl⟩
theorem D_5_best_52 : Dec m_5_best 52 (.getfield 101) 3 55 := ⟨by decide +kernel, rfl⟩
theorem D_5_best_55 : Dec m_5_best 55 (.iload_n 1) 1 56 := ⟨by decide +kernel, rfl⟩
theorem D_5_best_56 : Dec m_5_best 56 (.iaload) 1 57 := ⟨by decide +kernel, rfl⟩
theorem D_5_best_57 : Dec m_5_best 57 (.imul) 1 58 := ⟨by decide +kernel, rfl⟩
theorem D_5_best_58 : Dec m_5_best 58 (.invokevirtual 178) 3 61 := ⟨by decide +kernel, rfl⟩
theorem D_5_best_61 : Dec m_5_best 61 (.istore 4) 2 63 := ⟨by decide +kernel, rfl⟩
theorem D_5_best_63 : Dec m_5_best 63 (.iload_n 3) 1 64 := ⟨by decide +kernel, rfl⟩
theorem D_5_best_64 : DecJ m_5_best 64 (.ifCond .ne) 67 72 := ⟨8, by decide +kernel, rfl, rfl⟩
theorem D_5_best_67 : Dec m_5_best 67 (.iload 4) 2 69 := ⟨by decide +kernel, rfl⟩
theorem D_5_best_69 : DecJ m_5_best 69 (.goto) 72 81 := ⟨12, by decide +kernel, rfl, rfl⟩
theorem D_5_best_72 : Dec m_5_best 72 (.aload_n 0) 1 73 := ⟨by decide +kernel, rfl⟩
theorem D_5_best_73 : Dec m_5_best 73 (.getfield 23) 3 76 := ⟨by decide +kernel, rfl⟩
theorem D_5_best_76 : Dec m_5_best 76 (.iload 4) 2 78 := ⟨by decide +kernel, rfl⟩
theorem D_5_best_78 : Dec m_5_best 78 (.invokevirtual 182) 3 81 := ⟨by decide +kernel, rfl⟩
theorem D_5_best_81 : Dec m_5_best 81 (.ireturn) 1 82 := ⟨by decide +kernel, rfl⟩
theorem D_5_match_0 : Dec m_5_match 0 (.iload_n 1) 1 1 := ⟨by decide +kernel, rfl⟩
theorem D_5_match_1 : Dec m_5_match 1 (.iconst (-1)) 1 2 := ⟨by decide +kernel, rfl⟩
theorem D_5_match_2 : DecJ m_5_match 2 (.if_icmp .eq) 5 15 := ⟨13, by decide +kernel, rfl, rfl⟩
theorem D_5_match_5 : Dec m_5_match 5 (.aload_n 0) 1 6 := ⟨by decide +kernel, rfl⟩
theorem D_5_match_6 : Dec m_5_match 6 (.iload_n 1) 1 7 := ⟨by decide +kernel, rfl⟩
theorem D_5_match_7 : Dec m_5_match 7 (.invokevirtual 111) 3 10 := ⟨by decide +kernel, rfl⟩
theorem D_5_match_10 : DecJ m_5_match 10 (.ifCond .ne) 13 15 := ⟨5, by decide +kernel, rfl, rfl⟩
theorem D_5_match_13 : Dec m_5_match 13 (.iconst (-1)) 1 14 := ⟨by decide +kernel, rfl⟩
theorem D_5_match_14 : Dec m_5_match 14 (.ireturn) 1 15 := ⟨by decide +kernel, rfl⟩
theorem D_5_match_15 : Dec m_5_match 15 (.aload_n 0) 1 16 := ⟨by decide +kernel, rfl⟩
theorem D_5_match_16 : Dec m_5_match 16 (.getfield 50) 3 19 := ⟨by decide +kernel, rfl⟩
theorem D_5_match_19 : Dec m_5_match 19 (.aload_n 0) 1 20 := ⟨by decide +kernel, rfl⟩
theorem D_5_match_20 : Dec m_5_match 20 (.getfield 23) 3 23 := ⟨by decide +kernel, rfl⟩
theorem D_5_match_23 : Dec m_5_match 23 (.aload_n 0) 1 24 := ⟨by decide +kernel, rfl⟩
theorem D_5_match_24 : Dec m_5_match 24 (.getfield 33) 3 27 := ⟨by decide +kernel, rfl⟩
theorem D_5_match_27 : Dec m_5_match 27 (.invokevirtual 186) 3 30 := ⟨by decide +kernel, rfl⟩
theorem D_5_match_30 : Dec m_5_match 30 (.iload_n 1) 1 31 := ⟨by decide +kernel, rfl⟩
theorem D_5_match_31 : Dec m_5_match 31 (.iconst (-1)) 1 32 := ⟨by decide +kernel, rfl⟩
theorem D_5_match_32 : DecJ m_5_match 32 (.if_icmp .ne) 35 52 := ⟨20, by decide +kernel, rfl, rfl⟩
theorem D_5_match_35 : Dec m_5_match 35 (.aload_n 0) 1 36 := ⟨by decide +kernel, rfl⟩
theorem D_5_match_36 : Dec m_5_match 36 (.getfield 23) 3 39 := ⟨by decide +kernel, rfl⟩
theorem D_5_match_39 : Dec m_5_match 39 (.aload_n 0) 1 40 := ⟨by decide +kernel, rfl⟩
theorem D_5_match_40 : Dec m_5_match 40 (.getfield 50) 3 43 := ⟨by decide +kernel, rfl⟩
theorem D_5_match_43 : Dec m_5_match 43 (.getfield 190) 3 46 := ⟨by decide +kernel, rfl⟩
theorem D_5_match_46 : Dec m_5_match 46 (.invokevirtual 182) 3 49 := ⟨by decide +kernel, rfl⟩
theorem D_5_match_49 : DecJ m_5_match 49 (.goto) 52 61 := ⟨12, by decide +kernel, rfl, rfl⟩
theorem D_5_match_52 : Dec m_5_match 52 (.aload_n 0) 1 53 := ⟨by decide +kernel, rfl⟩
theorem D_5_match_53 : Dec m_5_match 53 (.getfield 50) 3 56 := ⟨by decide +kernel, rfl⟩
theorem D_5_match_56 : Dec m_5_match 56 (.getfield 193) 3 59 := ⟨by decide +kernel, rfl⟩
theorem D_5_match_59 : Dec m_5_match 59 (.iload_n 1) 1 60 := ⟨by decide +kernel, rfl⟩
theorem D_5_match_60 : Dec m_5_match 60 (.iaload) 1 61 := ⟨by decide +kernel, rfl⟩
theorem D_5_match_61 : Dec m_5_match 61 (.ireturn) 1 62 := ⟨by decide +kernel, rfl⟩
theorem D_5_soonest_0 : Dec m_5_soonest 0 (.iload_n 1) 1 1 := ⟨by decide +kernel, rfl⟩
theorem D_5_soonest_1 : Dec m_5_soonest 1 (.iconst (-1)) 1 2 := ⟨by decide +kernel, rfl⟩
theorem D_5_soonest_2 : DecJ m_5_soonest 2 (.if_icmp .ge) 5 7 := ⟨5, by decide +kernel, rfl, rfl⟩
theorem D_5_soonest_5 : Dec m_5_soonest 5 (.iconst (-1)) 1 6 := ⟨by decide +kernel, rfl⟩
theorem D_5_soonest_6 : Dec m_5_soonest 6 (.ireturn) 1 7 := ⟨by decide +kernel, rfl⟩
theorem D_5_soonest_7 : Dec m_5_soonest 7 (.aload_n 0) 1 8 := ⟨by decide +kernel, rfl⟩
theorem D_5_soonest_8 : Dec m_5_soonest 8 (.invokevirtual 196) 3 11 := ⟨by decide +kernel, rfl⟩
theorem D_5_soonest_11 : Dec m_5_soonest 11 (.iload_n 1) 1 12 := ⟨by decide +kernel, rfl⟩
theorem D_5_soonest_12 : Dec m_5_soonest 12 (.iconst (-1)) 1 13 := ⟨by decide +kernel, rfl⟩
theorem D_5_soonest_13 : DecJ m_5_soonest 13 (.if_icmp .ne) 16 24 := ⟨11, by decide +kernel, rfl, rfl⟩
theorem D_5_soonest_16 : Dec m_5_soonest 16 (.aload_n 0) 1 17 := ⟨by decide +kernel, rfl⟩
theorem D_5_soonest_17 : Dec m_5_soonest 17 (.getfield 57) 3 20 := ⟨by decide +kernel, rfl⟩
theorem D_5_soonest_20 : Dec m_5_soonest 20 (.getfield 199) 3 23 := ⟨by decide +kernel, rfl⟩
theorem D_5_soonest_23 : Dec m_5_soonest 23 (.ireturn) 1 24 := ⟨by decide +kernel, rfl⟩
theorem D_5_soonest_24 : Dec m_5_soonest 24 (.iload_n 1) 1 25 := ⟨by decide +kernel, rfl⟩
theorem D_5_soonest_25 : Dec m_5_soonest 25 (.aload_n 0) 1 26 := ⟨by decide +kernel, rfl⟩
theorem D_5_soonest_26 : Dec m_5_soonest 26 (.getfield 57) 3 29 := ⟨by decide +kernel, rfl⟩
theorem D_5_soonest_29 : Dec m_5_soonest 29 (.getfield 202) 3 32 := ⟨by decide +kernel, rfl⟩
theorem D_5_soonest_32 : DecJ m_5_soonest 32 (.if_icmp .ge) 35 53 := ⟨21, by decide +kernel, rfl, rfl⟩
theorem D_5_soonest_35 : Dec m_5_soonest 35 (.iload_n 1) 1 36 := ⟨by decide +kernel, rfl⟩
theorem D_5_soonest_36 : Dec m_5_soonest 36 (.bipush 7) 2 38 := ⟨by decide +kernel, rfl⟩
theorem D_5_soonest_38 : DecJ m_5_soonest 38 (.if_icmp .ge) 41 53 := ⟨15, by decide +kernel, rfl, rfl⟩
theorem D_5_soonest_41 : Dec m_5_soonest 41 (.aload_n 0) 1 42 := ⟨by decide +kernel, rfl⟩
theorem D_5_soonest_42 : Dec m_5_soonest 42 (.getfield 57) 3 45 := ⟨by decide +kernel, rfl⟩
theorem D_5_soonest_45 : Dec m_5_soonest 45 (.getfield 205) 3 48 := ⟨by decide +kernel, rfl⟩
theorem D_5_soonest_48 : Dec m_5_soonest 48 (.iload_n 1) 1 49 := ⟨by decide +kernel, rfl⟩
theorem D_5_soonest_49 : Dec m_5_soonest 49 (.iaload) 1 50 := ⟨by decide +kernel, rfl⟩
theorem D_5_soonest_50 : DecJ m_5_soonest 50 (.goto) 53 55 := ⟨5, by decide +kernel, rfl, rfl⟩
theorem D_5_soonest_53 : Dec m_5_soonest 53 (.bipush (-4)) 2 55 := ⟨by decide +kernel, rfl⟩
theorem D_5_soonest_55 : Dec m_5_soonest 55 (.ireturn) 1 56 := ⟨by decide +kernel, rfl⟩
theorem D_5_late_0 : Dec m_5_late 0 (.aload_n 0) 1 1 := ⟨by decide +kernel, rfl⟩
theorem D_5_late_1 : Dec m_5_late 1 (.invokevirtual 196) 3 4 := ⟨by decide +kernel, rfl⟩
theorem D_5_late_4 : Dec m_5_late 4 (.aload_n 0) 1 5 := ⟨by decide +kernel, rfl⟩
theorem D_5_late_5 : Dec m_5_late 5 (.getfield 57) 3 8 := ⟨by decide +kernel, rfl⟩
theorem D_5_late_8 : Dec m_5_late 8 (.aload_n 0) 1 9 := ⟨by decide +kernel, rfl⟩
theorem D_5_late_9 : Dec m_5_late 9 (.getfield 23) 3 12 := ⟨by decide +kernel, rfl⟩
theorem D_5_late_12 : Dec m_5_late 12 (.invokevirtual 208) 3 15 := ⟨by decide +kernel, rfl⟩
theorem D_5_late_15 : Dec m_5_late 15 (.ireturn) 1 16 := ⟨by decide +kernel, rfl⟩
theorem D_5_dish_0 : Dec m_5_dish 0 (.aload_n 0) 1 1 := ⟨by decide +kernel, rfl⟩
theorem D_5_dish_1 : Dec m_5_dish 1 (.iload_n 1) 1 2 := ⟨by decide +kernel, rfl⟩
theorem D_5_dish_2 : Dec m_5_dish 2 (.invokevirtual 97) 3 5 := ⟨by decide +kernel, rfl⟩
theorem D_5_dish_5 : DecJ m_5_dish 5 (.ifCond .eq) 8 21 := ⟨16, by decide +kernel, rfl, rfl⟩
theorem D_5_dish_8 : Dec m_5_dish 8 (.aload_n 0) 1 9 := ⟨by decide +kernel, rfl⟩
theorem D_5_dish_9 : Dec m_5_dish 9 (.iload_n 2) 1 10 := ⟨by decide +kernel, rfl⟩
theorem D_5_dish_10 : Dec m_5_dish 10 (.invokevirtual 97) 3 13 := ⟨by decide +kernel, rfl⟩
theorem D_5_dish_13 : DecJ m_5_dish 13 (.ifCond .eq) 16 21 := ⟨8, by decide +kernel, rfl, rfl⟩
theorem D_5_dish_16 : Dec m_5_dish 16 (.iload_n 1) 1 17 := ⟨by decide +kernel, rfl⟩
theorem D_5_dish_17 : Dec m_5_dish 17 (.iload_n 2) 1 18 := ⟨by decide +kernel, rfl⟩
theorem D_5_dish_18 : DecJ m_5_dish 18 (.if_icmp .ne) 21 23 := ⟨5, by decide +kernel, rfl, rfl⟩
theorem D_5_dish_21 : Dec m_5_dish 21 (.iconst (-1)) 1 22 := ⟨by decide +kernel, rfl⟩
theorem D_5_dish_22 : Dec m_5_dish 22 (.ireturn) 1 23 := ⟨by decide +kernel, rfl⟩
theorem D_5_dish_23 : Dec m_5_dish 23 (.aload_n 0) 1 24 := ⟨by decide +kernel, rfl⟩
theorem D_5_dish_24 : Dec m_5_dish 24 (.iload_n 1) 1 25 := ⟨by decide +kernel, rfl⟩
theorem D_5_dish_25 : Dec m_5_dish 25 (.iload_n 2) 1 26 := ⟨by decide +kernel, rfl⟩
theorem D_5_dish_26 : Dec m_5_dish 26 (.aload_n 0) 1 27 := ⟨by decide +kernel, rfl⟩
theorem D_5_dish_27 : Dec m_5_dish 27 (.getfield 33) 3 30 := ⟨by decide +kernel, rfl⟩
theorem D_5_dish_30 : Dec m_5_dish 30 (.invokevirtual 212) 3 33 := ⟨by decide +kernel, rfl⟩
theorem D_5_dish_33 : Dec m_5_dish 33 (.istore_n 3) 1 34 := ⟨by decide +kernel, rfl⟩
theorem D_5_dish_34 : Dec m_5_dish 34 (.bipush (-4)) 2 36 := ⟨by decide +kernel, rfl⟩
theorem D_5_dish_36 : Dec m_5_dish 36 (.istore 4) 2 38 := ⟨by decide +kernel, rfl⟩
theorem D_5_dish_38 : Dec m_5_dish 38 (.iconst 0) 1 39 := ⟨by decide +kernel, rfl⟩
theorem D_5_dish_39 : Dec m_5_dish 39 (.istore 5) 2 41 := ⟨by decide +kernel, rfl⟩
theorem D_5_dish_41 : Dec m_5_dish 41 (.iload 5) 2 43 := ⟨by decide +kernel, rfl⟩
theorem D_5_dish_43 : Dec m_5_dish 43 (.aload_n 0) 1 44 := ⟨by decide +kernel, rfl⟩
theorem D_5_dish_44 : Dec m_5_dish 44 (.getfield 23) 3 47 := ⟨by decide +kernel, rfl⟩
theorem D_5_dish_47 : Dec m_5_dish 47 (.getfield 216) 3 50 := ⟨by decide +kernel, rfl⟩
theorem D_5_dish_50 : DecJ m_5_dish 50 (.if_icmp .ge) 53 124 := ⟨74, by decide +kernel, rfl, rfl⟩
theorem D_5_dish_53 : Dec m_5_dish 53 (.aload_n 0) 1 54 := ⟨by decide +kernel, rfl⟩
theorem D_5_dish_54 : Dec m_5_dish 54 (.getfield 33) 3 57 := ⟨by decide +kernel, rfl⟩
theorem D_5_dish_57 : Dec m_5_dish 57 (.getfield 167) 3 60 := ⟨by decide +kernel, rfl⟩
theorem D_5_dish_60 : Dec m_5_dish 60 (.iload 5) 2 62 := ⟨by decide +kernel, rfl⟩
theorem D_5_dish_62 : Dec m_5_dish 62 (.invokestatic 129) 3 65 := ⟨by decide +kernel, rfl⟩
theorem D_5_dish_65 : DecJ m_5_dish 65 (.ifCond .ne) 68 118 := ⟨53, by decide +kernel, rfl, rfl⟩
theorem D_5_dish_68 : Dec m_5_dish 68 (.aload_n 0) 1 69 := ⟨by decide +kernel, rfl⟩
theorem D_5_dish_69 : Dec m_5_dish 69 (.getfield 37) 3 72 := ⟨by decide +kernel, rfl⟩
theorem D_5_dish_72 : Dec m_5_dish 72 (.aload_n 0) 1 73 := ⟨by decide +kernel, rfl⟩
theorem D_5_dish_73 : Dec m_5_dish 73 (.getfield 33) 3 76 := ⟨by decide +kernel, rfl⟩
theorem D_5_dish_76 : Dec m_5_dish 76 (.invokevirtual 174) 3 79 := ⟨by decide +kernel, rfl⟩
theorem D_5_dish_79 : Dec m_5_dish 79 (.aload_n 0) 1 80 := ⟨by decide +kernel, rfl⟩
theorem D_5_dish_80 : Dec m_5_dish 80 (.getfield 37) 3 83 := ⟨by decide +kernel, rfl⟩
theorem D_5_dish_83 : Dec m_5_dish 83 (.aload_n 0) 1 84 := ⟨by decide +kernel, rfl⟩
theorem D_5_dish_84 : Dec m_5_dish 84 (.getfield 23) 3 87 := ⟨by decide +kernel, rfl⟩
theorem D_5_dish_87 : Dec m_5_dish 87 (.iload 5) 2 89 := ⟨by decide +kernel, rfl⟩
theorem D_5_dish_89 : Dec m_5_dish 89 (.invokevirtual 170) 3 92 := ⟨by decide +kernel, rfl⟩
theorem D_5_dish_92 : Dec m_5_dish 92 (.pop) 1 93 := ⟨by decide +kernel, rfl⟩
theorem D_5_dish_93 : Dec m_5_dish 93 (.aload_n 0) 1 94 := ⟨by decide +kernel, rfl⟩
theorem D_5_dish_94 : Dec m_5_dish 94 (.iload_n 1) 1 95 := ⟨by decide +kernel, rfl⟩
theorem D_5_dish_95 : Dec m_5_dish 95 (.iload_n 2) 1 96 := ⟨by decide +kernel, rfl⟩
theorem D_5_dish_96 : Dec m_5_dish 96 (.aload_n 0) 1 97 := ⟨by decide +kernel, rfl⟩
theorem D_5_dish_97 : Dec m_5_dish 97 (.getfield 37) 3 100 := ⟨by decide +kernel, rfl⟩
theorem D_5_dish_100 : Dec m_5_dish 100 (.invokevirtual 212) 3 103 := ⟨by decide +kernel, rfl⟩
theorem D_5_dish_103 : Dec m_5_dish 103 (.istore 6) 2 105 := ⟨by decide +kernel, rfl⟩
theorem D_5_dish_105 : Dec m_5_dish 105 (.iload 6) 2 107 := ⟨by decide +kernel, rfl⟩
theorem D_5_dish_107 : Dec m_5_dish 107 (.iload_n 3) 1 108 := ⟨by decide +kernel, rfl⟩
theorem D_5_dish_108 : DecJ m_5_dish 108 (.if_icmp .le) 111 118 := ⟨10, by decide +kernel, rfl, rfl⟩
theorem D_5_dish_111 : Dec m_5_dish 111 (.iload 6) 2 113 := ⟨by decide +kernel, rfl⟩
theorem D_5_dish_113 : Dec m_5_dish 113 (.istore_n 3) 1 114 := ⟨by decide +kernel, rfl⟩
theorem D_5_dish_114 : Dec m_5_dish 114 (.iload 5) 2 116 := ⟨by decide +kernel, rfl⟩
theorem D_5_dish_116 : Dec m_5_dish 116 (.istore 4) 2 118 := ⟨by decide +kernel, rfl⟩
theorem D_5_dish_118 : Dec m_5_dish 118 (.iinc 5 1) 3 121 := ⟨by decide +kernel, rfl⟩
theorem D_5_dish_121 : DecJ m_5_dish 121 (.goto) 124 41 := ⟨-80, by decide +kernel, rfl, rfl⟩
theorem D_5_dish_124 : Dec m_5_dish 124 (.iload 4) 2 126 := ⟨by decide +kernel, rfl⟩
theorem D_5_dish_126 : Dec m_5_dish 126 (.ireturn) 1 127 := ⟨by decide +kernel, rfl⟩
theorem D_5_spoke_0 : Dec m_5_spoke 0 (.aload_n 0) 1 1 := ⟨by decide +kernel, rfl⟩
theorem D_5_spoke_1 : Dec m_5_spoke 1 (.iload_n 1) 1 2 := ⟨by decide +kernel, rfl⟩
theorem D_5_spoke_2 : Dec m_5_spoke 2 (.invokevirtual 97) 3 5 := ⟨by decide +kernel, rfl⟩
theorem D_5_spoke_5 : DecJ m_5_spoke 5 (.ifCond .eq) 8 29 := ⟨24, by decide +kernel, rfl, rfl⟩
theorem D_5_spoke_8 : Dec m_5_spoke 8 (.iload_n 2) 1 9 := ⟨by decide +kernel, rfl⟩
theorem D_5_spoke_9 : Dec m_5_spoke 9 (.iconst 1) 1 10 := ⟨by decide +kernel, rfl⟩
theorem D_5_spoke_10 : DecJ m_5_spoke 10 (.if_icmp .lt) 13 29 := ⟨19, by decide +kernel, rfl, rfl⟩
theorem D_5_spoke_13 : Dec m_5_spoke 13 (.iload_n 2) 1 14 := ⟨by decide +kernel, rfl⟩
theorem D_5_spoke_14 : Dec m_5_spoke 14 (.sipush 500) 3 17 := ⟨by decide +kernel, rfl⟩
theorem D_5_spoke_17 : DecJ m_5_spoke 17 (.if_icmp .gt) 20 29 := ⟨12, by decide +kernel, rfl, rfl⟩
theorem D_5_spoke_20 : Dec m_5_spoke 20 (.iload_n 3) 1 21 := ⟨by decide +kernel, rfl⟩
theorem D_5_spoke_21 : DecJ m_5_spoke 21 (.ifCond .lt) 24 29 := ⟨8, by decide +kernel, rfl, rfl⟩
theorem D_5_spoke_24 : Dec m_5_spoke 24 (.iload_n 3) 1 25 := ⟨by decide +kernel, rfl⟩
theorem D_5_spoke_25 : Dec m_5_spoke 25 (.iconst 1) 1 26 := ⟨by decide +kernel, rfl⟩
theorem D_5_spoke_26 : DecJ m_5_spoke 26 (.if_icmp .le) 29 31 := ⟨5, by decide +kernel, rfl, rfl⟩
theorem D_5_spoke_29 : Dec m_5_spoke 29 (.iconst (-1)) 1 30 := ⟨by decide +kernel, rfl⟩
theorem D_5_spoke_30 : Dec m_5_spoke 30 (.ireturn) 1 31 := ⟨by decide +kernel, rfl⟩
theorem D_5_spoke_31 : Dec m_5_spoke 31 (.iconst 0) 1 32 := ⟨by decide +kernel, rfl⟩
theorem D_5_spoke_32 : Dec m_5_spoke 32 (.istore 4) 2 34 := ⟨by decide +kernel, rfl⟩
theorem D_5_spoke_34 : Dec m_5_spoke 34 (.iconst 0) 1 35 := ⟨by decide +kernel, rfl⟩
theorem D_5_spoke_35 : Dec m_5_spoke 35 (.istore 5) 2 37 := ⟨by decide +kernel, rfl⟩
theorem D_5_spoke_37 : Dec m_5_spoke 37 (.iconst 0) 1 38 := ⟨by decide +kernel, rfl⟩
theorem D_5_spoke_38 : Dec m_5_spoke 38 (.istore 6) 2 40 := ⟨by decide +kernel, rfl⟩
theorem D_5_spoke_40 : Dec m_5_spoke 40 (.iload 6) 2 42 := ⟨by decide +kernel, rfl⟩
theorem D_5_spoke_42 : Dec m_5_spoke 42 (.iconst 1) 1 43 := ⟨by decide +kernel, rfl⟩
theorem D_5_spoke_43 : Dec m_5_spoke 43 (.aload_n 0) 1 44 := ⟨by decide +kernel, rfl⟩
theorem D_5_spoke_44 : Dec m_5_spoke 44 (.getfield 23) 3 47 := ⟨by decide +kernel, rfl⟩
theorem D_5_spoke_47 : Dec m_5_spoke 47 (.getfield 88) 3 50 := ⟨by decide +kernel, rfl⟩
theorem D_5_spoke_50 : Dec m_5_spoke 50 (.ishl) 1 51 := ⟨by decide +kernel, rfl⟩
theorem D_5_spoke_51 : DecJ m_5_spoke 51 (.if_icmp .ge) 54 103 := ⟨52, by decide +kernel, rfl, rfl⟩
theorem D_5_spoke_54 : Dec m_5_spoke 54 (.aload_n 0) 1 55 := ⟨by decide +kernel, rfl⟩
theorem D_5_spoke_55 : Dec m_5_spoke 55 (.getfield 23) 3 58 := ⟨by decide +kernel, rfl⟩
theorem D_5_spoke_58 : Dec m_5_spoke 58 (.iload 6) 2 60 := ⟨by decide +kernel, rfl⟩
theorem D_5_spoke_60 : Dec m_5_spoke 60 (.invokevirtual 219) 3 63 := ⟨by decide +kernel, rfl⟩
theorem D_5_spoke_63 : Dec m_5_spoke 63 (.aload_n 0) 1 64 := ⟨by decide +kernel, rfl⟩
theorem D_5_spoke_64 : Dec m_5_spoke 64 (.getfield 23) 3 67 := ⟨by decide +kernel, rfl⟩
theorem D_5_spoke_67 : Dec m_5_spoke 67 (.getfield 222) 3 70 := ⟨by decide +kernel, rfl⟩
theorem D_5_spoke_70 : Dec m_5_spoke 70 (.iload_n 1) 1 71 := ⟨by decide +kernel, rfl⟩
theorem D_5_spoke_71 : Dec m_5_spoke 71 (.iaload) 1 72 := ⟨by decide +kernel, rfl⟩
theorem D_5_spoke_72 : Dec m_5_spoke 72 (.imul) 1 73 := ⟨by decide +kernel, rfl⟩
theorem D_5_spoke_73 : Dec m_5_spoke 73 (.iload_n 2) 1 74 := ⟨by decide +kernel, rfl⟩
theorem D_5_spoke_74 : DecJ m_5_spoke 74 (.if_icmp .ne) 77 97 := ⟨23, by decide +kernel, rfl, rfl⟩
theorem D_5_spoke_77 : Dec m_5_spoke 77 (.iload 4) 2 79 := ⟨by decide +kernel, rfl⟩
theorem D_5_spoke_79 : DecJ m_5_spoke 79 (.ifCond .ne) 82 87 := ⟨8, by decide +kernel, rfl, rfl⟩
theorem D_5_spoke_82 : Dec m_5_spoke 82 (.iload 6) 2 84 := ⟨by decide +kernel, rfl⟩
theorem D_5_spoke_84 : DecJ m_5_spoke 84 (.goto) 87 92 := ⟨8, by decide +kernel, rfl, rfl⟩
theorem D_5_spoke_87 : Dec m_5_spoke 87 (.iload 5) 2 89 := ⟨by decide +kernel, rfl⟩
theorem D_5_spoke_89 : Dec m_5_spoke 89 (.iload 6) 2 91 := ⟨by decide +kernel, rfl⟩
theorem D_5_spoke_91 : Dec m_5_spoke 91 (.iand) 1 92 := ⟨by decide +kernel, rfl⟩
theorem D_5_spoke_92 : Dec m_5_spoke 92 (.istore 5) 2 94 := ⟨by decide +kernel, rfl⟩
theorem D_5_spoke_94 : Dec m_5_spoke 94 (.iinc 4 1) 3 97 := ⟨by decide +kernel, rfl⟩
theorem D_5_spoke_97 : Dec m_5_spoke 97 (.iinc 6 1) 3 100 := ⟨by decide +kernel, rfl⟩
theorem D_5_spoke_100 : DecJ m_5_spoke 100 (.goto) 103 40 := ⟨-60, by decide +kernel, rfl, rfl⟩
theorem D_5_spoke_103 : Dec m_5_spoke 103 (.iload_n 3) 1 104 := ⟨by decide +kernel, rfl⟩
theorem D_5_spoke_104 : DecJ m_5_spoke 104 (.ifCond .ne) 107 112 := ⟨8, by decide +kernel, rfl, rfl⟩
theorem D_5_spoke_107 : Dec m_5_spoke 107 (.iload 4) 2 109 := ⟨by decide +kernel, rfl⟩
theorem D_5_spoke_109 : DecJ m_5_spoke 109 (.goto) 112 114 := ⟨5, by decide +kernel, rfl, rfl⟩
theorem D_5_spoke_112 : Dec m_5_spoke 112 (.iload 5) 2 114 := ⟨by decide +kernel, rfl⟩
theorem D_5_spoke_114 : Dec m_5_spoke 114 (.ireturn) 1 115 := ⟨by decide +kernel, rfl⟩
theorem D_5_winter_0 : Dec m_5_winter 0 (.iload_n 1) 1 1 := ⟨by decide +kernel, rfl⟩
theorem D_5_winter_1 : DecJ m_5_winter 1 (.ifCond .lt) 4 35 := ⟨34, by decide +kernel, rfl, rfl⟩
theorem D_5_winter_4 : Dec m_5_winter 4 (.iload_n 1) 1 5 := ⟨by decide +kernel, rfl⟩
theorem D_5_winter_5 : Dec m_5_winter 5 (.sipush 9999) 3 8 := ⟨by decide +kernel, rfl⟩
theorem D_5_winter_8 : DecJ m_5_winter 8 (.if_icmp .gt) 11 35 := ⟨27, by decide +kernel, rfl, rfl⟩
theorem D_5_winter_11 : Dec m_5_winter 11 (.iload_n 2) 1 12 := ⟨by decide +kernel, rfl⟩
theorem D_5_winter_12 : Dec m_5_winter 12 (.iconst 1) 1 13 := ⟨by decide +kernel, rfl⟩
theorem D_5_winter_13 : DecJ m_5_winter 13 (.if_icmp .lt) 16 35 := ⟨22, by decide +kernel, rfl, rfl⟩
theorem D_5_winter_16 : Dec m_5_winter 16 (.iload_n 2) 1 17 := ⟨by decide +kernel, rfl⟩
theorem D_5_winter_17 : Dec m_5_winter 17 (.bipush 100) 2 19 := ⟨by decide +kernel, rfl⟩
theorem D_5_winter_19 : DecJ m_5_winter 19 (.if_icmp .gt) 22 35 := ⟨16, by decide +kernel, rfl, rfl⟩
theorem D_5_winter_22 : Dec m_5_winter 22 (.iload_n 3) 1 23 := ⟨by decide +kernel, rfl⟩
theorem D_5_winter_23 : Dec m_5_winter 23 (.iconst (-1)) 1 24 := ⟨by decide +kernel, rfl⟩
theorem D_5_winter_24 : DecJ m_5_winter 24 (.if_icmp .eq) 27 37 := ⟨13, by decide +kernel, rfl, rfl⟩
theorem D_5_winter_27 : Dec m_5_winter 27 (.aload_n 0) 1 28 := ⟨by decide +kernel, rfl⟩
theorem D_5_winter_28 : Dec m_5_winter 28 (.iload_n 3) 1 29 := ⟨by decide +kernel, rfl⟩
theorem D_5_winter_29 : Dec m_5_winter 29 (.invokevirtual 97) 3 32 := ⟨by decide +kernel, rfl⟩
theorem D_5_winter_32 : DecJ m_5_winter 32 (.ifCond .ne) 35 37 := ⟨5, by decide +kernel, rfl, rfl⟩
end
section
theorem D_5_winter_35 : Dec m_5_winter 35 (.iconst (-1)) 1 36 := ⟨by decide +kernel, rfl⟩
theorem D_5_winter_36 : Dec m_5_winter 36 (.ireturn) 1 37 := ⟨by decide +kernel, rfl⟩
theorem D_5_winter_37 : Dec m_5_winter 37 (.iconst 0) 1 38 := ⟨by decide +kernel, rfl⟩
theorem D_5_winter_38 : Dec m_5_winter 38 (.istore 4) 2 40 := ⟨by decide +kernel, rfl⟩
theorem D_5_winter_40 : Dec m_5_winter 40 (.iconst 0) 1 41 := ⟨by decide +kernel, rfl⟩
theorem D_5_winter_41 : Dec m_5_winter 41 (.istore 5) 2 43 := ⟨by decide +kernel, rfl⟩
theorem D_5_winter_43 : Dec m_5_winter 43 (.iload 5) 2 45 := ⟨by decide +kernel, rfl⟩
theorem D_5_winter_45 : Dec m_5_winter 45 (.iload_n 2) 1 46 := ⟨by decide +kernel, rfl⟩
theorem D_5_winter_46 : DecJ m_5_winter 46 (.if_icmp .ge) 49 169 := ⟨123, by decide +kernel, rfl, rfl⟩
theorem D_5_winter_49 : Dec m_5_winter 49 (.iload_n 1) 1 50 := ⟨by decide +kernel, rfl⟩
theorem D_5_winter_50 : Dec m_5_winter 50 (.iload 5) 2 52 := ⟨by decide +kernel, rfl⟩
theorem D_5_winter_52 : Dec m_5_winter 52 (.invokestatic 223) 3 55 := ⟨by decide +kernel, rfl⟩
theorem D_5_winter_55 : Dec m_5_winter 55 (.istore 6) 2 57 := ⟨by decide +kernel, rfl⟩
theorem D_5_winter_57 : Dec m_5_winter 57 (.iload 6) 2 59 := ⟨by decide +kernel, rfl⟩
theorem D_5_winter_59 : Dec m_5_winter 59 (.aload_n 0) 1 60 := ⟨by decide +kernel, rfl⟩
theorem D_5_winter_60 : Dec m_5_winter 60 (.getfield 23) 3 63 := ⟨by decide +kernel, rfl⟩
theorem D_5_winter_63 : Dec m_5_winter 63 (.getfield 85) 3 66 := ⟨by decide +kernel, rfl⟩
theorem D_5_winter_66 : Dec m_5_winter 66 (.invokestatic 227) 3 69 := ⟨by decide +kernel, rfl⟩
theorem D_5_winter_69 : Dec m_5_winter 69 (.istore 7) 2 71 := ⟨by decide +kernel, rfl⟩
theorem D_5_winter_71 : Dec m_5_winter 71 (.iload 6) 2 73 := ⟨by decide +kernel, rfl⟩
theorem D_5_winter_73 : Dec m_5_winter 73 (.bipush 8) 2 75 := ⟨by decide +kernel, rfl⟩
theorem D_5_winter_75 : Dec m_5_winter 75 (.idiv) 1 76 := ⟨by decide +kernel, rfl⟩
theorem D_5_winter_76 : Dec m_5_winter 76 (.aload_n 0) 1 77 := ⟨by decide +kernel, rfl⟩
theorem D_5_winter_77 : Dec m_5_winter 77 (.getfield 23) 3 80 := ⟨by decide +kernel, rfl⟩
theorem D_5_winter_80 : Dec m_5_winter 80 (.getfield 88) 3 83 := ⟨by decide +kernel, rfl⟩
theorem D_5_winter_83 : Dec m_5_winter 83 (.invokestatic 227) 3 86 := ⟨by decide +kernel, rfl⟩
theorem D_5_winter_86 : Dec m_5_winter 86 (.istore 8) 2 88 := ⟨by decide +kernel, rfl⟩
theorem D_5_winter_88 : Dec m_5_winter 88 (.iload_n 3) 1 89 := ⟨by decide +kernel, rfl⟩
theorem D_5_winter_89 : Dec m_5_winter 89 (.iconst (-1)) 1 90 := ⟨by decide +kernel, rfl⟩
theorem D_5_winter_90 : DecJ m_5_winter 90 (.if_icmp .eq) 93 99 := ⟨9, by decide +kernel, rfl, rfl⟩
theorem D_5_winter_93 : Dec m_5_winter 93 (.iload_n 3) 1 94 := ⟨by decide +kernel, rfl⟩
theorem D_5_winter_94 : Dec m_5_winter 94 (.iload 7) 2 96 := ⟨by decide +kernel, rfl⟩
theorem D_5_winter_96 : DecJ m_5_winter 96 (.if_icmp .ne) 99 163 := ⟨67, by decide +kernel, rfl, rfl⟩
theorem D_5_winter_99 : Dec m_5_winter 99 (.aload_n 0) 1 100 := ⟨by decide +kernel, rfl⟩
theorem D_5_winter_100 : Dec m_5_winter 100 (.getfield 23) 3 103 := ⟨by decide +kernel, rfl⟩
theorem D_5_winter_103 : Dec m_5_winter 103 (.iload 7) 2 105 := ⟨by decide +kernel, rfl⟩
theorem D_5_winter_105 : Dec m_5_winter 105 (.iconst 0) 1 106 := ⟨by decide +kernel, rfl⟩
theorem D_5_winter_106 : Dec m_5_winter 106 (.aload_n 0) 1 107 := ⟨by decide +kernel, rfl⟩
theorem D_5_winter_107 : Dec m_5_winter 107 (.getfield 23) 3 110 := ⟨by decide +kernel, rfl⟩
theorem D_5_winter_110 : Dec m_5_winter 110 (.getfield 139) 3 113 := ⟨by decide +kernel, rfl⟩
theorem D_5_winter_113 : Dec m_5_winter 113 (.iload 8) 2 115 := ⟨by decide +kernel, rfl⟩
theorem D_5_winter_115 : Dec m_5_winter 115 (.iaload) 1 116 := ⟨by decide +kernel, rfl⟩
theorem D_5_winter_116 : Dec m_5_winter 116 (.aload_n 0) 1 117 := ⟨by decide +kernel, rfl⟩
theorem D_5_winter_117 : Dec m_5_winter 117 (.getfield 23) 3 120 := ⟨by decide +kernel, rfl⟩
theorem D_5_winter_120 : Dec m_5_winter 120 (.getfield 222) 3 123 := ⟨by decide +kernel, rfl⟩
theorem D_5_winter_123 : Dec m_5_winter 123 (.iload 7) 2 125 := ⟨by decide +kernel, rfl⟩
theorem D_5_winter_125 : Dec m_5_winter 125 (.iaload) 1 126 := ⟨by decide +kernel, rfl⟩
theorem D_5_winter_126 : Dec m_5_winter 126 (.imul) 1 127 := ⟨by decide +kernel, rfl⟩
theorem D_5_winter_127 : Dec m_5_winter 127 (.invokevirtual 178) 3 130 := ⟨by decide +kernel, rfl⟩
theorem D_5_winter_130 : Dec m_5_winter 130 (.istore 9) 2 132 := ⟨by decide +kernel, rfl⟩
theorem D_5_winter_132 : Dec m_5_winter 132 (.iload 4) 2 134 := ⟨by decide +kernel, rfl⟩
theorem D_5_winter_134 : Dec m_5_winter 134 (.iload_n 3) 1 135 := ⟨by decide +kernel, rfl⟩
theorem D_5_winter_135 : Dec m_5_winter 135 (.iconst (-1)) 1 136 := ⟨by decide +kernel, rfl⟩
theorem D_5_winter_136 : DecJ m_5_winter 136 (.if_icmp .ne) 139 151 := ⟨15, by decide +kernel, rfl, rfl⟩
theorem D_5_winter_139 : Dec m_5_winter 139 (.aload_n 0) 1 140 := ⟨by decide +kernel, rfl⟩
theorem D_5_winter_140 : Dec m_5_winter 140 (.getfield 23) 3 143 := ⟨by decide +kernel, rfl⟩
theorem D_5_winter_143 : Dec m_5_winter 143 (.iload 9) 2 145 := ⟨by decide +kernel, rfl⟩
theorem D_5_winter_145 : Dec m_5_winter 145 (.invokevirtual 182) 3 148 := ⟨by decide +kernel, rfl⟩
theorem D_5_winter_148 : DecJ m_5_winter 148 (.goto) 151 160 := ⟨12, by decide +kernel, rfl, rfl⟩
theorem D_5_winter_151 : Dec m_5_winter 151 (.aload_n 0) 1 152 := ⟨by decide +kernel, rfl⟩
theorem D_5_winter_152 : Dec m_5_winter 152 (.getfield 23) 3 155 := ⟨by decide +kernel, rfl⟩
theorem D_5_winter_155 : Dec m_5_winter 155 (.iload 9) 2 157 := ⟨by decide +kernel, rfl⟩
theorem D_5_winter_157 : Dec m_5_winter 157 (.invokevirtual 230) 3 160 := ⟨by decide +kernel, rfl⟩
theorem D_5_winter_160 : Dec m_5_winter 160 (.iadd) 1 161 := ⟨by decide +kernel, rfl⟩
theorem D_5_winter_161 : Dec m_5_winter 161 (.istore 4) 2 163 := ⟨by decide +kernel, rfl⟩
theorem D_5_winter_163 : Dec m_5_winter 163 (.iinc 5 1) 3 166 := ⟨by decide +kernel, rfl⟩
theorem D_5_winter_166 : DecJ m_5_winter 166 (.goto) 169 43 := ⟨-123, by decide +kernel, rfl, rfl⟩
theorem D_5_winter_169 : Dec m_5_winter 169 (.iload 4) 2 171 := ⟨by decide +kernel, rfl⟩
theorem D_5_winter_171 : Dec m_5_winter 171 (.ireturn) 1 172 := ⟨by decide +kernel, rfl⟩
theorem D_5_keep_0 : Dec m_5_keep 0 (.aload_n 0) 1 1 := ⟨by decide +kernel, rfl⟩
theorem D_5_keep_1 : Dec m_5_keep 1 (.getfield 94) 3 4 := ⟨by decide +kernel, rfl⟩
theorem D_5_keep_4 : Dec m_5_keep 4 (.iconst 2) 1 5 := ⟨by decide +kernel, rfl⟩
theorem D_5_keep_5 : DecJ m_5_keep 5 (.if_icmp .lt) 8 11 := ⟨6, by decide +kernel, rfl, rfl⟩
theorem D_5_keep_8 : Dec m_5_keep 8 (.bipush (-3)) 2 10 := ⟨by decide +kernel, rfl⟩
theorem D_5_keep_10 : Dec m_5_keep 10 (.ireturn) 1 11 := ⟨by decide +kernel, rfl⟩
theorem D_5_keep_11 : Dec m_5_keep 11 (.aload_n 0) 1 12 := ⟨by decide +kernel, rfl⟩
theorem D_5_keep_12 : Dec m_5_keep 12 (.getfield 44) 3 15 := ⟨by decide +kernel, rfl⟩
theorem D_5_keep_15 : Dec m_5_keep 15 (.aload_n 0) 1 16 := ⟨by decide +kernel, rfl⟩
theorem D_5_keep_16 : Dec m_5_keep 16 (.getfield 94) 3 19 := ⟨by decide +kernel, rfl⟩
theorem D_5_keep_19 : Dec m_5_keep 19 (.aaload) 1 20 := ⟨by decide +kernel, rfl⟩
theorem D_5_keep_20 : Dec m_5_keep 20 (.aload_n 0) 1 21 := ⟨by decide +kernel, rfl⟩
theorem D_5_keep_21 : Dec m_5_keep 21 (.getfield 33) 3 24 := ⟨by decide +kernel, rfl⟩
theorem D_5_keep_24 : Dec m_5_keep 24 (.invokevirtual 174) 3 27 := ⟨by decide +kernel, rfl⟩
theorem D_5_keep_27 : Dec m_5_keep 27 (.aload_n 0) 1 28 := ⟨by decide +kernel, rfl⟩
theorem D_5_keep_28 : Dec m_5_keep 28 (.dup) 1 29 := ⟨by decide +kernel, rfl⟩
theorem D_5_keep_29 : Dec m_5_keep 29 (.getfield 94) 3 32 := ⟨by decide +kernel, rfl⟩
theorem D_5_keep_32 : Dec m_5_keep 32 (.iconst 1) 1 33 := ⟨by decide +kernel, rfl⟩
theorem D_5_keep_33 : Dec m_5_keep 33 (.iadd) 1 34 := ⟨by decide +kernel, rfl⟩
theorem D_5_keep_34 : Dec m_5_keep 34 (.putfield 94) 3 37 := ⟨by decide +kernel, rfl⟩
theorem D_5_keep_37 : Dec m_5_keep 37 (.aload_n 0) 1 38 := ⟨by decide +kernel, rfl⟩
theorem D_5_keep_38 : Dec m_5_keep 38 (.getfield 94) 3 41 := ⟨by decide +kernel, rfl⟩
theorem D_5_keep_41 : Dec m_5_keep 41 (.ireturn) 1 42 := ⟨by decide +kernel, rfl⟩
theorem D_5_back_0 : Dec m_5_back 0 (.aload_n 0) 1 1 := ⟨by decide +kernel, rfl⟩
theorem D_5_back_1 : Dec m_5_back 1 (.getfield 94) 3 4 := ⟨by decide +kernel, rfl⟩
theorem D_5_back_4 : Dec m_5_back 4 (.iconst 1) 1 5 := ⟨by decide +kernel, rfl⟩
theorem D_5_back_5 : DecJ m_5_back 5 (.if_icmp .ge) 8 11 := ⟨6, by decide +kernel, rfl, rfl⟩
theorem D_5_back_8 : Dec m_5_back 8 (.bipush (-2)) 2 10 := ⟨by decide +kernel, rfl⟩
theorem D_5_back_10 : Dec m_5_back 10 (.ireturn) 1 11 := ⟨by decide +kernel, rfl⟩
theorem D_5_back_11 : Dec m_5_back 11 (.aload_n 0) 1 12 := ⟨by decide +kernel, rfl⟩
theorem D_5_back_12 : Dec m_5_back 12 (.dup) 1 13 := ⟨by decide +kernel, rfl⟩
theorem D_5_back_13 : Dec m_5_back 13 (.getfield 94) 3 16 := ⟨by decide +kernel, rfl⟩
theorem D_5_back_16 : Dec m_5_back 16 (.iconst 1) 1 17 := ⟨by decide +kernel, rfl⟩
theorem D_5_back_17 : Dec m_5_back 17 (.isub) 1 18 := ⟨by decide +kernel, rfl⟩
theorem D_5_back_18 : Dec m_5_back 18 (.putfield 94) 3 21 := ⟨by decide +kernel, rfl⟩
theorem D_5_back_21 : Dec m_5_back 21 (.aload_n 0) 1 22 := ⟨by decide +kernel, rfl⟩
theorem D_5_back_22 : Dec m_5_back 22 (.getfield 33) 3 25 := ⟨by decide +kernel, rfl⟩
theorem D_5_back_25 : Dec m_5_back 25 (.aload_n 0) 1 26 := ⟨by decide +kernel, rfl⟩
theorem D_5_back_26 : Dec m_5_back 26 (.getfield 44) 3 29 := ⟨by decide +kernel, rfl⟩
theorem D_5_back_29 : Dec m_5_back 29 (.aload_n 0) 1 30 := ⟨by decide +kernel, rfl⟩
theorem D_5_back_30 : Dec m_5_back 30 (.getfield 94) 3 33 := ⟨by decide +kernel, rfl⟩
theorem D_5_back_33 : Dec m_5_back 33 (.aaload) 1 34 := ⟨by decide +kernel, rfl⟩
theorem D_5_back_34 : Dec m_5_back 34 (.invokevirtual 174) 3 37 := ⟨by decide +kernel, rfl⟩
theorem D_5_back_37 : Dec m_5_back 37 (.aload_n 0) 1 38 := ⟨by decide +kernel, rfl⟩
theorem D_5_back_38 : Dec m_5_back 38 (.iconst 0) 1 39 := ⟨by decide +kernel, rfl⟩
theorem D_5_back_39 : Dec m_5_back 39 (.putfield 91) 3 42 := ⟨by decide +kernel, rfl⟩
theorem D_5_back_42 : Dec m_5_back 42 (.aload_n 0) 1 43 := ⟨by decide +kernel, rfl⟩
theorem D_5_back_43 : Dec m_5_back 43 (.getfield 94) 3 46 := ⟨by decide +kernel, rfl⟩
theorem D_5_back_46 : Dec m_5_back 46 (.ireturn) 1 47 := ⟨by decide +kernel, rfl⟩
theorem D_5_count_0 : Dec m_5_count 0 (.iload_n 1) 1 1 := ⟨by decide +kernel, rfl⟩
theorem D_5_count_1 : Dec m_5_count 1 (.tableswitch 138 0 10 #[59, 67, 75, 83, 91, 99, 107, 115, 123, 128, 133]) 59 60 := ⟨by decide +kernel, rfl⟩
theorem D_5_count_60 : Dec m_5_count 60 (.aload_n 0) 1 61 := ⟨by decide +kernel, rfl⟩
theorem D_5_count_61 : Dec m_5_count 61 (.getfield 23) 3 64 := ⟨by decide +kernel, rfl⟩
theorem D_5_count_64 : Dec m_5_count 64 (.getfield 85) 3 67 := ⟨by decide +kernel, rfl⟩
theorem D_5_count_67 : Dec m_5_count 67 (.ireturn) 1 68 := ⟨by decide +kernel, rfl⟩
theorem D_5_count_68 : Dec m_5_count 68 (.aload_n 0) 1 69 := ⟨by decide +kernel, rfl⟩
theorem D_5_count_69 : Dec m_5_count 69 (.getfield 23) 3 72 := ⟨by decide +kernel, rfl⟩
theorem D_5_count_72 : Dec m_5_count 72 (.getfield 88) 3 75 := ⟨by decide +kernel, rfl⟩
theorem D_5_count_75 : Dec m_5_count 75 (.ireturn) 1 76 := ⟨by decide +kernel, rfl⟩
theorem D_5_count_76 : Dec m_5_count 76 (.aload_n 0) 1 77 := ⟨by decide +kernel, rfl⟩
theorem D_5_count_77 : Dec m_5_count 77 (.getfield 23) 3 80 := ⟨by decide +kernel, rfl⟩
theorem D_5_count_80 : Dec m_5_count 80 (.getfield 233) 3 83 := ⟨by decide +kernel, rfl⟩
theorem D_5_count_83 : Dec m_5_count 83 (.ireturn) 1 84 := ⟨by decide +kernel, rfl⟩
theorem D_5_count_84 : Dec m_5_count 84 (.aload_n 0) 1 85 := ⟨by decide +kernel, rfl⟩
theorem D_5_count_85 : Dec m_5_count 85 (.getfield 23) 3 88 := ⟨by decide +kernel, rfl⟩
theorem D_5_count_88 : Dec m_5_count 88 (.getfield 216) 3 91 := ⟨by decide +kernel, rfl⟩
theorem D_5_count_91 : Dec m_5_count 91 (.ireturn) 1 92 := ⟨by decide +kernel, rfl⟩
theorem D_5_count_92 : Dec m_5_count 92 (.aload_n 0) 1 93 := ⟨by decide +kernel, rfl⟩
theorem D_5_count_93 : Dec m_5_count 93 (.getfield 33) 3 96 := ⟨by decide +kernel, rfl⟩
theorem D_5_count_96 : Dec m_5_count 96 (.getfield 146) 3 99 := ⟨by decide +kernel, rfl⟩
theorem D_5_count_99 : Dec m_5_count 99 (.ireturn) 1 100 := ⟨by decide +kernel, rfl⟩
theorem D_5_count_100 : Dec m_5_count 100 (.aload_n 0) 1 101 := ⟨by decide +kernel, rfl⟩
theorem D_5_count_101 : Dec m_5_count 101 (.getfield 33) 3 104 := ⟨by decide +kernel, rfl⟩
theorem D_5_count_104 : Dec m_5_count 104 (.getfield 149) 3 107 := ⟨by decide +kernel, rfl⟩
theorem D_5_count_107 : Dec m_5_count 107 (.ireturn) 1 108 := ⟨by decide +kernel, rfl⟩
theorem D_5_count_108 : Dec m_5_count 108 (.aload_n 0) 1 109 := ⟨by decide +kernel, rfl⟩
theorem D_5_count_109 : Dec m_5_count 109 (.getfield 33) 3 112 := ⟨by decide +kernel, rfl⟩
theorem D_5_count_112 : Dec m_5_count 112 (.getfield 126) 3 115 := ⟨by decide +kernel, rfl⟩
theorem D_5_count_115 : Dec m_5_count 115 (.ireturn) 1 116 := ⟨by decide +kernel, rfl⟩
theorem D_5_count_116 : Dec m_5_count 116 (.aload_n 0) 1 117 := ⟨by decide +kernel, rfl⟩
theorem D_5_count_117 : Dec m_5_count 117 (.getfield 33) 3 120 := ⟨by decide +kernel, rfl⟩
theorem D_5_count_120 : Dec m_5_count 120 (.getfield 167) 3 123 := ⟨by decide +kernel, rfl⟩
theorem D_5_count_123 : Dec m_5_count 123 (.ireturn) 1 124 := ⟨by decide +kernel, rfl⟩
theorem D_5_count_124 : Dec m_5_count 124 (.aload_n 0) 1 125 := ⟨by decide +kernel, rfl⟩
theorem D_5_count_125 : Dec m_5_count 125 (.getfield 91) 3 128 := ⟨by decide +kernel, rfl⟩
theorem D_5_count_128 : Dec m_5_count 128 (.ireturn) 1 129 := ⟨by decide +kernel, rfl⟩
theorem D_5_count_129 : Dec m_5_count 129 (.aload_n 0) 1 130 := ⟨by decide +kernel, rfl⟩
theorem D_5_count_130 : Dec m_5_count 130 (.getfield 94) 3 133 := ⟨by decide +kernel, rfl⟩
theorem D_5_count_133 : Dec m_5_count 133 (.ireturn) 1 134 := ⟨by decide +kernel, rfl⟩
theorem D_5_count_134 : Dec m_5_count 134 (.aload_n 0) 1 135 := ⟨by decide +kernel, rfl⟩
theorem D_5_count_135 : Dec m_5_count 135 (.getfield 81) 3 138 := ⟨by decide +kernel, rfl⟩
theorem D_5_count_138 : Dec m_5_count 138 (.ireturn) 1 139 := ⟨by decide +kernel, rfl⟩
theorem D_5_count_139 : Dec m_5_count 139 (.iconst (-1)) 1 140 := ⟨by decide +kernel, rfl⟩
theorem D_5_count_140 : Dec m_5_count 140 (.ireturn) 1 141 := ⟨by decide +kernel, rfl⟩
theorem D_5_isPerson_0 : Dec m_5_isPerson 0 (.iload_n 1) 1 1 := ⟨by decide +kernel, rfl⟩
theorem D_5_isPerson_1 : DecJ m_5_isPerson 1 (.ifCond .lt) 4 24 := ⟨23, by decide +kernel, rfl, rfl⟩
theorem D_5_isPerson_4 : Dec m_5_isPerson 4 (.iload_n 1) 1 5 := ⟨by decide +kernel, rfl⟩
theorem D_5_isPerson_5 : Dec m_5_isPerson 5 (.aload_n 0) 1 6 := ⟨by decide +kernel, rfl⟩
theorem D_5_isPerson_6 : Dec m_5_isPerson 6 (.getfield 23) 3 9 := ⟨by decide +kernel, rfl⟩
theorem D_5_isPerson_9 : Dec m_5_isPerson 9 (.getfield 85) 3 12 := ⟨by decide +kernel, rfl⟩
theorem D_5_isPerson_12 : DecJ m_5_isPerson 12 (.if_icmp .ge) 15 24 := ⟨12, by decide +kernel, rfl, rfl⟩
theorem D_5_isPerson_15 : Dec m_5_isPerson 15 (.iload_n 1) 1 16 := ⟨by decide +kernel, rfl⟩
theorem D_5_isPerson_16 : Dec m_5_isPerson 16 (.iconst 5) 1 17 := ⟨by decide +kernel, rfl⟩
theorem D_5_isPerson_17 : DecJ m_5_isPerson 17 (.if_icmp .ge) 20 24 := ⟨7, by decide +kernel, rfl, rfl⟩
theorem D_5_isPerson_20 : Dec m_5_isPerson 20 (.iconst 1) 1 21 := ⟨by decide +kernel, rfl⟩
theorem D_5_isPerson_21 : DecJ m_5_isPerson 21 (.goto) 24 25 := ⟨4, by decide +kernel, rfl, rfl⟩
theorem D_5_isPerson_24 : Dec m_5_isPerson 24 (.iconst 0) 1 25 := ⟨by decide +kernel, rfl⟩
theorem D_5_isPerson_25 : Dec m_5_isPerson 25 (.ireturn) 1 26 := ⟨by decide +kernel, rfl⟩
theorem D_5_isGrain_0 : Dec m_5_isGrain 0 (.iload_n 1) 1 1 := ⟨by decide +kernel, rfl⟩
theorem D_5_isGrain_1 : DecJ m_5_isGrain 1 (.ifCond .lt) 4 25 := ⟨24, by decide +kernel, rfl, rfl⟩
theorem D_5_isGrain_4 : Dec m_5_isGrain 4 (.iload_n 1) 1 5 := ⟨by decide +kernel, rfl⟩
theorem D_5_isGrain_5 : Dec m_5_isGrain 5 (.aload_n 0) 1 6 := ⟨by decide +kernel, rfl⟩
theorem D_5_isGrain_6 : Dec m_5_isGrain 6 (.getfield 23) 3 9 := ⟨by decide +kernel, rfl⟩
theorem D_5_isGrain_9 : Dec m_5_isGrain 9 (.getfield 88) 3 12 := ⟨by decide +kernel, rfl⟩
theorem D_5_isGrain_12 : DecJ m_5_isGrain 12 (.if_icmp .ge) 15 25 := ⟨13, by decide +kernel, rfl, rfl⟩
theorem D_5_isGrain_15 : Dec m_5_isGrain 15 (.iload_n 1) 1 16 := ⟨by decide +kernel, rfl⟩
theorem D_5_isGrain_16 : Dec m_5_isGrain 16 (.bipush 8) 2 18 := ⟨by decide +kernel, rfl⟩
theorem D_5_isGrain_18 : DecJ m_5_isGrain 18 (.if_icmp .ge) 21 25 := ⟨7, by decide +kernel, rfl, rfl⟩
theorem D_5_isGrain_21 : Dec m_5_isGrain 21 (.iconst 1) 1 22 := ⟨by decide +kernel, rfl⟩
theorem D_5_isGrain_22 : DecJ m_5_isGrain 22 (.goto) 25 26 := ⟨4, by decide +kernel, rfl, rfl⟩
theorem D_5_isGrain_25 : Dec m_5_isGrain 25 (.iconst 0) 1 26 := ⟨by decide +kernel, rfl⟩
theorem D_5_isGrain_26 : Dec m_5_isGrain 26 (.ireturn) 1 27 := ⟨by decide +kernel, rfl⟩
theorem D_5_isSaying_0 : Dec m_5_isSaying 0 (.iload_n 1) 1 1 := ⟨by decide +kernel, rfl⟩
theorem D_5_isSaying_1 : DecJ m_5_isSaying 1 (.ifCond .lt) 4 25 := ⟨24, by decide +kernel, rfl, rfl⟩
theorem D_5_isSaying_4 : Dec m_5_isSaying 4 (.iload_n 1) 1 5 := ⟨by decide +kernel, rfl⟩
theorem D_5_isSaying_5 : Dec m_5_isSaying 5 (.aload_n 0) 1 6 := ⟨by decide +kernel, rfl⟩
theorem D_5_isSaying_6 : Dec m_5_isSaying 6 (.getfield 23) 3 9 := ⟨by decide +kernel, rfl⟩
theorem D_5_isSaying_9 : Dec m_5_isSaying 9 (.getfield 233) 3 12 := ⟨by decide +kernel, rfl⟩
theorem D_5_isSaying_12 : DecJ m_5_isSaying 12 (.if_icmp .ge) 15 25 := ⟨13, by decide +kernel, rfl, rfl⟩
theorem D_5_isSaying_15 : Dec m_5_isSaying 15 (.iload_n 1) 1 16 := ⟨by decide +kernel, rfl⟩
theorem D_5_isSaying_16 : Dec m_5_isSaying 16 (.bipush 7) 2 18 := ⟨by decide +kernel, rfl⟩
theorem D_5_isSaying_18 : DecJ m_5_isSaying 18 (.if_icmp .ge) 21 25 := ⟨7, by decide +kernel, rfl, rfl⟩
theorem D_5_isSaying_21 : Dec m_5_isSaying 21 (.iconst 1) 1 22 := ⟨by decide +kernel, rfl⟩
theorem D_5_isSaying_22 : DecJ m_5_isSaying 22 (.goto) 25 26 := ⟨4, by decide +kernel, rfl, rfl⟩
theorem D_5_isSaying_25 : Dec m_5_isSaying 25 (.iconst 0) 1 26 := ⟨by decide +kernel, rfl⟩
theorem D_5_isSaying_26 : Dec m_5_isSaying 26 (.ireturn) 1 27 := ⟨by decide +kernel, rfl⟩
theorem D_5_isDish_0 : Dec m_5_isDish 0 (.iload_n 1) 1 1 := ⟨by decide +kernel, rfl⟩
theorem D_5_isDish_1 : DecJ m_5_isDish 1 (.ifCond .lt) 4 24 := ⟨23, by decide +kernel, rfl, rfl⟩
theorem D_5_isDish_4 : Dec m_5_isDish 4 (.iload_n 1) 1 5 := ⟨by decide +kernel, rfl⟩
theorem D_5_isDish_5 : Dec m_5_isDish 5 (.aload_n 0) 1 6 := ⟨by decide +kernel, rfl⟩
theorem D_5_isDish_6 : Dec m_5_isDish 6 (.getfield 23) 3 9 := ⟨by decide +kernel, rfl⟩
theorem D_5_isDish_9 : Dec m_5_isDish 9 (.getfield 216) 3 12 := ⟨by decide +kernel, rfl⟩
theorem D_5_isDish_12 : DecJ m_5_isDish 12 (.if_icmp .ge) 15 24 := ⟨12, by decide +kernel, rfl, rfl⟩
theorem D_5_isDish_15 : Dec m_5_isDish 15 (.iload_n 1) 1 16 := ⟨by decide +kernel, rfl⟩
theorem D_5_isDish_16 : Dec m_5_isDish 16 (.iconst 4) 1 17 := ⟨by decide +kernel, rfl⟩
theorem D_5_isDish_17 : DecJ m_5_isDish 17 (.if_icmp .ge) 20 24 := ⟨7, by decide +kernel, rfl, rfl⟩
theorem D_5_isDish_20 : Dec m_5_isDish 20 (.iconst 1) 1 21 := ⟨by decide +kernel, rfl⟩
theorem D_5_isDish_21 : DecJ m_5_isDish 21 (.goto) 24 25 := ⟨4, by decide +kernel, rfl, rfl⟩
theorem D_5_isDish_24 : Dec m_5_isDish 24 (.iconst 0) 1 25 := ⟨by decide +kernel, rfl⟩
theorem D_5_isDish_25 : Dec m_5_isDish 25 (.ireturn) 1 26 := ⟨by decide +kernel, rfl⟩
theorem D_5_isIn_0 : Dec m_5_isIn 0 (.iload_n 0) 1 1 := ⟨by decide +kernel, rfl⟩
theorem D_5_isIn_1 : Dec m_5_isIn 1 (.iload_n 1) 1 2 := ⟨by decide +kernel, rfl⟩
theorem D_5_isIn_2 : Dec m_5_isIn 2 (.ishr) 1 3 := ⟨by decide +kernel, rfl⟩
theorem D_5_isIn_3 : Dec m_5_isIn 3 (.iconst 1) 1 4 := ⟨by decide +kernel, rfl⟩
theorem D_5_isIn_4 : Dec m_5_isIn 4 (.iand) 1 5 := ⟨by decide +kernel, rfl⟩
theorem D_5_isIn_5 : Dec m_5_isIn 5 (.iconst 1) 1 6 := ⟨by decide +kernel, rfl⟩
theorem D_5_isIn_6 : DecJ m_5_isIn 6 (.if_icmp .ne) 9 13 := ⟨7, by decide +kernel, rfl, rfl⟩
theorem D_5_isIn_9 : Dec m_5_isIn 9 (.iconst 1) 1 10 := ⟨by decide +kernel, rfl⟩
theorem D_5_isIn_10 : DecJ m_5_isIn 10 (.goto) 13 14 := ⟨4, by decide +kernel, rfl, rfl⟩
theorem D_5_isIn_13 : Dec m_5_isIn 13 (.iconst 0) 1 14 := ⟨by decide +kernel, rfl⟩
theorem D_5_isIn_14 : Dec m_5_isIn 14 (.ireturn) 1 15 := ⟨by decide +kernel, rfl⟩
theorem D_5_canBeSaid_0 : Dec m_5_canBeSaid 0 (.aload_n 0) 1 1 := ⟨by decide +kernel, rfl⟩
theorem D_5_canBeSaid_1 : Dec m_5_canBeSaid 1 (.getfield 33) 3 4 := ⟨by decide +kernel, rfl⟩
theorem D_5_canBeSaid_4 : Dec m_5_canBeSaid 4 (.invokevirtual 142) 3 7 := ⟨by decide +kernel, rfl⟩
theorem D_5_canBeSaid_7 : DecJ m_5_canBeSaid 7 (.ifCond .eq) 10 104 := ⟨97, by decide +kernel, rfl, rfl⟩
theorem D_5_canBeSaid_10 : Dec m_5_canBeSaid 10 (.aload_n 0) 1 11 := ⟨by decide +kernel, rfl⟩
theorem D_5_canBeSaid_11 : Dec m_5_canBeSaid 11 (.aload_n 0) 1 12 := ⟨by decide +kernel, rfl⟩
theorem D_5_canBeSaid_12 : Dec m_5_canBeSaid 12 (.getfield 33) 3 15 := ⟨by decide +kernel, rfl⟩
theorem D_5_canBeSaid_15 : Dec m_5_canBeSaid 15 (.getfield 155) 3 18 := ⟨by decide +kernel, rfl⟩
theorem D_5_canBeSaid_18 : Dec m_5_canBeSaid 18 (.invokevirtual 97) 3 21 := ⟨by decide +kernel, rfl⟩
theorem D_5_canBeSaid_21 : DecJ m_5_canBeSaid 21 (.ifCond .eq) 24 104 := ⟨83, by decide +kernel, rfl, rfl⟩
theorem D_5_canBeSaid_24 : Dec m_5_canBeSaid 24 (.aload_n 0) 1 25 := ⟨by decide +kernel, rfl⟩
theorem D_5_canBeSaid_25 : Dec m_5_canBeSaid 25 (.getfield 33) 3 28 := ⟨by decide +kernel, rfl⟩
theorem D_5_canBeSaid_28 : Dec m_5_canBeSaid 28 (.getfield 155) 3 31 := ⟨by decide +kernel, rfl⟩
theorem D_5_canBeSaid_31 : Dec m_5_canBeSaid 31 (.aload_n 0) 1 32 := ⟨by decide +kernel, rfl⟩
theorem D_5_canBeSaid_32 : Dec m_5_canBeSaid 32 (.getfield 23) 3 35 := ⟨by decide +kernel, rfl⟩
theorem D_5_canBeSaid_35 : Dec m_5_canBeSaid 35 (.getfield 114) 3 38 := ⟨by decide +kernel, rfl⟩
theorem D_5_canBeSaid_38 : Dec m_5_canBeSaid 38 (.iload_n 1) 1 39 := ⟨by decide +kernel, rfl⟩
theorem D_5_canBeSaid_39 : Dec m_5_canBeSaid 39 (.iaload) 1 40 := ⟨by decide +kernel, rfl⟩
theorem D_5_canBeSaid_40 : DecJ m_5_canBeSaid 40 (.if_icmp .ne) 43 104 := ⟨64, by decide +kernel, rfl, rfl⟩
theorem D_5_canBeSaid_43 : Dec m_5_canBeSaid 43 (.aload_n 0) 1 44 := ⟨by decide +kernel, rfl⟩
theorem D_5_canBeSaid_44 : Dec m_5_canBeSaid 44 (.getfield 33) 3 47 := ⟨by decide +kernel, rfl⟩
theorem D_5_canBeSaid_47 : Dec m_5_canBeSaid 47 (.getfield 126) 3 50 := ⟨by decide +kernel, rfl⟩
theorem D_5_canBeSaid_50 : Dec m_5_canBeSaid 50 (.iload_n 1) 1 51 := ⟨by decide +kernel, rfl⟩
theorem D_5_canBeSaid_51 : Dec m_5_canBeSaid 51 (.invokestatic 129) 3 54 := ⟨by decide +kernel, rfl⟩
theorem D_5_canBeSaid_54 : DecJ m_5_canBeSaid 54 (.ifCond .ne) 57 104 := ⟨50, by decide +kernel, rfl, rfl⟩
theorem D_5_canBeSaid_57 : Dec m_5_canBeSaid 57 (.aload_n 0) 1 58 := ⟨by decide +kernel, rfl⟩
theorem D_5_canBeSaid_58 : Dec m_5_canBeSaid 58 (.getfield 33) 3 61 := ⟨by decide +kernel, rfl⟩
theorem D_5_canBeSaid_61 : Dec m_5_canBeSaid 61 (.getfield 146) 3 64 := ⟨by decide +kernel, rfl⟩
theorem D_5_canBeSaid_64 : Dec m_5_canBeSaid 64 (.aload_n 0) 1 65 := ⟨by decide +kernel, rfl⟩
theorem D_5_canBeSaid_65 : Dec m_5_canBeSaid 65 (.getfield 23) 3 68 := ⟨by decide +kernel, rfl⟩
theorem D_5_canBeSaid_68 : Dec m_5_canBeSaid 68 (.getfield 117) 3 71 := ⟨by decide +kernel, rfl⟩
theorem D_5_canBeSaid_71 : Dec m_5_canBeSaid 71 (.iload_n 1) 1 72 := ⟨by decide +kernel, rfl⟩
theorem D_5_canBeSaid_72 : Dec m_5_canBeSaid 72 (.iaload) 1 73 := ⟨by decide +kernel, rfl⟩
theorem D_5_canBeSaid_73 : Dec m_5_canBeSaid 73 (.iadd) 1 74 := ⟨by decide +kernel, rfl⟩
theorem D_5_canBeSaid_74 : Dec m_5_canBeSaid 74 (.aload_n 0) 1 75 := ⟨by decide +kernel, rfl⟩
theorem D_5_canBeSaid_75 : Dec m_5_canBeSaid 75 (.getfield 33) 3 78 := ⟨by decide +kernel, rfl⟩
theorem D_5_canBeSaid_78 : Dec m_5_canBeSaid 78 (.getfield 158) 3 81 := ⟨by decide +kernel, rfl⟩
theorem D_5_canBeSaid_81 : DecJ m_5_canBeSaid 81 (.if_icmp .gt) 84 104 := ⟨23, by decide +kernel, rfl, rfl⟩
theorem D_5_canBeSaid_84 : Dec m_5_canBeSaid 84 (.aload_n 0) 1 85 := ⟨by decide +kernel, rfl⟩
theorem D_5_canBeSaid_85 : Dec m_5_canBeSaid 85 (.aload_n 0) 1 86 := ⟨by decide +kernel, rfl⟩
theorem D_5_canBeSaid_86 : Dec m_5_canBeSaid 86 (.getfield 23) 3 89 := ⟨by decide +kernel, rfl⟩
theorem D_5_canBeSaid_89 : Dec m_5_canBeSaid 89 (.getfield 123) 3 92 := ⟨by decide +kernel, rfl⟩
theorem D_5_canBeSaid_92 : Dec m_5_canBeSaid 92 (.iload_n 1) 1 93 := ⟨by decide +kernel, rfl⟩
theorem D_5_canBeSaid_93 : Dec m_5_canBeSaid 93 (.iaload) 1 94 := ⟨by decide +kernel, rfl⟩
theorem D_5_canBeSaid_94 : Dec m_5_canBeSaid 94 (.invokevirtual 236) 3 97 := ⟨by decide +kernel, rfl⟩
theorem D_5_canBeSaid_97 : DecJ m_5_canBeSaid 97 (.ifCond .eq) 100 104 := ⟨7, by decide +kernel, rfl, rfl⟩
theorem D_5_canBeSaid_100 : Dec m_5_canBeSaid 100 (.iconst 1) 1 101 := ⟨by decide +kernel, rfl⟩
theorem D_5_canBeSaid_101 : DecJ m_5_canBeSaid 101 (.goto) 104 105 := ⟨4, by decide +kernel, rfl, rfl⟩
theorem D_5_canBeSaid_104 : Dec m_5_canBeSaid 104 (.iconst 0) 1 105 := ⟨by decide +kernel, rfl⟩
theorem D_5_canBeSaid_105 : Dec m_5_canBeSaid 105 (.ireturn) 1 106 := ⟨by decide +kernel, rfl⟩
theorem D_5_mayAnswerNow_0 : Dec m_5_mayAnswerNow 0 (.aload_n 0) 1 1 := ⟨by decide +kernel, rfl⟩
theorem D_5_mayAnswerNow_1 : Dec m_5_mayAnswerNow 1 (.iload_n 1) 1 2 := ⟨by decide +kernel, rfl⟩
theorem D_5_mayAnswerNow_2 : Dec m_5_mayAnswerNow 2 (.invokevirtual 111) 3 5 := ⟨by decide +kernel, rfl⟩
theorem D_5_mayAnswerNow_5 : DecJ m_5_mayAnswerNow 5 (.ifCond .ne) 8 10 := ⟨5, by decide +kernel, rfl, rfl⟩
theorem D_5_mayAnswerNow_8 : Dec m_5_mayAnswerNow 8 (.iconst 1) 1 9 := ⟨by decide +kernel, rfl⟩
theorem D_5_mayAnswerNow_9 : Dec m_5_mayAnswerNow 9 (.ireturn) 1 10 := ⟨by decide +kernel, rfl⟩
theorem D_5_mayAnswerNow_10 : Dec m_5_mayAnswerNow 10 (.aload_n 0) 1 11 := ⟨by decide +kernel, rfl⟩
theorem D_5_mayAnswerNow_11 : Dec m_5_mayAnswerNow 11 (.getfield 33) 3 14 := ⟨by decide +kernel, rfl⟩
theorem D_5_mayAnswerNow_14 : Dec m_5_mayAnswerNow 14 (.getfield 126) 3 17 := ⟨by decide +kernel, rfl⟩
theorem D_5_mayAnswerNow_17 : Dec m_5_mayAnswerNow 17 (.iload_n 1) 1 18 := ⟨by decide +kernel, rfl⟩
theorem D_5_mayAnswerNow_18 : Dec m_5_mayAnswerNow 18 (.invokestatic 129) 3 21 := ⟨by decide +kernel, rfl⟩
theorem D_5_mayAnswerNow_21 : DecJ m_5_mayAnswerNow 21 (.ifCond .eq) 24 55 := ⟨34, by decide +kernel, rfl, rfl⟩
theorem D_5_mayAnswerNow_24 : Dec m_5_mayAnswerNow 24 (.aload_n 0) 1 25 := ⟨by decide +kernel, rfl⟩
theorem D_5_mayAnswerNow_25 : Dec m_5_mayAnswerNow 25 (.getfield 33) 3 28 := ⟨by decide +kernel, rfl⟩
theorem D_5_mayAnswerNow_28 : Dec m_5_mayAnswerNow 28 (.getfield 133) 3 31 := ⟨by decide +kernel, rfl⟩
theorem D_5_mayAnswerNow_31 : Dec m_5_mayAnswerNow 31 (.iload_n 1) 1 32 := ⟨by decide +kernel, rfl⟩
theorem D_5_mayAnswerNow_32 : Dec m_5_mayAnswerNow 32 (.iaload) 1 33 := ⟨by decide +kernel, rfl⟩
theorem D_5_mayAnswerNow_33 : Dec m_5_mayAnswerNow 33 (.aload_n 0) 1 34 := ⟨by decide +kernel, rfl⟩
theorem D_5_mayAnswerNow_34 : Dec m_5_mayAnswerNow 34 (.getfield 23) 3 37 := ⟨by decide +kernel, rfl⟩
theorem D_5_mayAnswerNow_37 : Dec m_5_mayAnswerNow 37 (.getfield 239) 3 40 := ⟨by decide +kernel, rfl⟩
theorem D_5_mayAnswerNow_40 : Dec m_5_mayAnswerNow 40 (.iadd) 1 41 := ⟨by decide +kernel, rfl⟩
theorem D_5_mayAnswerNow_41 : Dec m_5_mayAnswerNow 41 (.aload_n 0) 1 42 := ⟨by decide +kernel, rfl⟩
theorem D_5_mayAnswerNow_42 : Dec m_5_mayAnswerNow 42 (.getfield 33) 3 45 := ⟨by decide +kernel, rfl⟩
theorem D_5_mayAnswerNow_45 : Dec m_5_mayAnswerNow 45 (.getfield 146) 3 48 := ⟨by decide +kernel, rfl⟩
theorem D_5_mayAnswerNow_48 : DecJ m_5_mayAnswerNow 48 (.if_icmp .lt) 51 55 := ⟨7, by decide +kernel, rfl, rfl⟩
theorem D_5_mayAnswerNow_51 : Dec m_5_mayAnswerNow 51 (.iconst 1) 1 52 := ⟨by decide +kernel, rfl⟩
theorem D_5_mayAnswerNow_52 : DecJ m_5_mayAnswerNow 52 (.goto) 55 56 := ⟨4, by decide +kernel, rfl, rfl⟩
theorem D_5_mayAnswerNow_55 : Dec m_5_mayAnswerNow 55 (.iconst 0) 1 56 := ⟨by decide +kernel, rfl⟩
theorem D_5_mayAnswerNow_56 : Dec m_5_mayAnswerNow 56 (.ireturn) 1 57 := ⟨by decide +kernel, rfl⟩
theorem D_5_remember_0 : Dec m_5_remember 0 (.aload_n 0) 1 1 := ⟨by decide +kernel, rfl⟩
theorem D_5_remember_1 : Dec m_5_remember 1 (.getfield 91) 3 4 := ⟨by decide +kernel, rfl⟩
theorem D_5_remember_4 : Dec m_5_remember 4 (.bipush 8) 2 6 := ⟨by decide +kernel, rfl⟩
theorem D_5_remember_6 : DecJ m_5_remember 6 (.if_icmp .lt) 9 58 := ⟨52, by decide +kernel, rfl, rfl⟩
theorem D_5_remember_9 : Dec m_5_remember 9 (.aload_n 0) 1 10 := ⟨by decide +kernel, rfl⟩
theorem D_5_remember_10 : Dec m_5_remember 10 (.getfield 40) 3 13 := ⟨by decide +kernel, rfl⟩
theorem D_5_remember_13 : Dec m_5_remember 13 (.iconst 0) 1 14 := ⟨by decide +kernel, rfl⟩
theorem D_5_remember_14 : Dec m_5_remember 14 (.aaload) 1 15 := ⟨by decide +kernel, rfl⟩
theorem D_5_remember_15 : Dec m_5_remember 15 (.astore_n 1) 1 16 := ⟨by decide +kernel, rfl⟩
theorem D_5_remember_16 : Dec m_5_remember 16 (.iconst 1) 1 17 := ⟨by decide +kernel, rfl⟩
theorem D_5_remember_17 : Dec m_5_remember 17 (.istore_n 2) 1 18 := ⟨by decide +kernel, rfl⟩
theorem D_5_remember_18 : Dec m_5_remember 18 (.iload_n 2) 1 19 := ⟨by decide +kernel, rfl⟩
theorem D_5_remember_19 : Dec m_5_remember 19 (.bipush 8) 2 21 := ⟨by decide +kernel, rfl⟩
theorem D_5_remember_21 : DecJ m_5_remember 21 (.if_icmp .ge) 24 44 := ⟨23, by decide +kernel, rfl, rfl⟩
theorem D_5_remember_24 : Dec m_5_remember 24 (.aload_n 0) 1 25 := ⟨by decide +kernel, rfl⟩
theorem D_5_remember_25 : Dec m_5_remember 25 (.getfield 40) 3 28 := ⟨by decide +kernel, rfl⟩
theorem D_5_remember_28 : Dec m_5_remember 28 (.iload_n 2) 1 29 := ⟨by decide +kernel, rfl⟩
theorem D_5_remember_29 : Dec m_5_remember 29 (.iconst 1) 1 30 := ⟨by decide +kernel, rfl⟩
theorem D_5_remember_30 : Dec m_5_remember 30 (.isub) 1 31 := ⟨by decide +kernel, rfl⟩
theorem D_5_remember_31 : Dec m_5_remember 31 (.aload_n 0) 1 32 := ⟨by decide +kernel, rfl⟩
theorem D_5_remember_32 : Dec m_5_remember 32 (.getfield 40) 3 35 := ⟨by decide +kernel, rfl⟩
theorem D_5_remember_35 : Dec m_5_remember 35 (.iload_n 2) 1 36 := ⟨by decide +kernel, rfl⟩
theorem D_5_remember_36 : Dec m_5_remember 36 (.aaload) 1 37 := ⟨by decide +kernel, rfl⟩
theorem D_5_remember_37 : Dec m_5_remember 37 (.aastore) 1 38 := ⟨by decide +kernel, rfl⟩
theorem D_5_remember_38 : Dec m_5_remember 38 (.iinc 2 1) 3 41 := ⟨by decide +kernel, rfl⟩
theorem D_5_remember_41 : DecJ m_5_remember 41 (.goto) 44 18 := ⟨-23, by decide +kernel, rfl, rfl⟩
theorem D_5_remember_44 : Dec m_5_remember 44 (.aload_n 0) 1 45 := ⟨by decide +kernel, rfl⟩
theorem D_5_remember_45 : Dec m_5_remember 45 (.getfield 40) 3 48 := ⟨by decide +kernel, rfl⟩
theorem D_5_remember_48 : Dec m_5_remember 48 (.bipush 7) 2 50 := ⟨by decide +kernel, rfl⟩
theorem D_5_remember_50 : Dec m_5_remember 50 (.aload_n 1) 1 51 := ⟨by decide +kernel, rfl⟩
theorem D_5_remember_51 : Dec m_5_remember 51 (.aastore) 1 52 := ⟨by decide +kernel, rfl⟩
theorem D_5_remember_52 : Dec m_5_remember 52 (.aload_n 0) 1 53 := ⟨by decide +kernel, rfl⟩
theorem D_5_remember_53 : Dec m_5_remember 53 (.bipush 7) 2 55 := ⟨by decide +kernel, rfl⟩
theorem D_5_remember_55 : Dec m_5_remember 55 (.putfield 91) 3 58 := ⟨by decide +kernel, rfl⟩
theorem D_5_remember_58 : Dec m_5_remember 58 (.aload_n 0) 1 59 := ⟨by decide +kernel, rfl⟩
theorem D_5_remember_59 : Dec m_5_remember 59 (.getfield 40) 3 62 := ⟨by decide +kernel, rfl⟩
theorem D_5_remember_62 : Dec m_5_remember 62 (.aload_n 0) 1 63 := ⟨by decide +kernel, rfl⟩
theorem D_5_remember_63 : Dec m_5_remember 63 (.getfield 91) 3 66 := ⟨by decide +kernel, rfl⟩
theorem D_5_remember_66 : Dec m_5_remember 66 (.aaload) 1 67 := ⟨by decide +kernel, rfl⟩
theorem D_5_remember_67 : Dec m_5_remember 67 (.aload_n 0) 1 68 := ⟨by decide +kernel, rfl⟩
theorem D_5_remember_68 : Dec m_5_remember 68 (.getfield 33) 3 71 := ⟨by decide +kernel, rfl⟩
theorem D_5_remember_71 : Dec m_5_remember 71 (.invokevirtual 174) 3 74 := ⟨by decide +kernel, rfl⟩
theorem D_5_remember_74 : Dec m_5_remember 74 (.aload_n 0) 1 75 := ⟨by decide +kernel, rfl⟩
theorem D_5_remember_75 : Dec m_5_remember 75 (.dup) 1 76 := ⟨by decide +kernel, rfl⟩
theorem D_5_remember_76 : Dec m_5_remember 76 (.getfield 91) 3 79 := ⟨by decide +kernel, rfl⟩
theorem D_5_remember_79 : Dec m_5_remember 79 (.iconst 1) 1 80 := ⟨by decide +kernel, rfl⟩
theorem D_5_remember_80 : Dec m_5_remember 80 (.iadd) 1 81 := ⟨by decide +kernel, rfl⟩
theorem D_5_remember_81 : Dec m_5_remember 81 (.putfield 91) 3 84 := ⟨by decide +kernel, rfl⟩
theorem D_5_remember_84 : Dec m_5_remember 84 (.return_) 1 85 := ⟨by decide +kernel, rfl⟩
theorem D_5_findOrder_0 : Dec m_5_findOrder 0 (.aload_n 0) 1 1 := ⟨by decide +kernel, rfl⟩
theorem D_5_findOrder_1 : Dec m_5_findOrder 1 (.getfield 50) 3 4 := ⟨by decide +kernel, rfl⟩
theorem D_5_findOrder_4 : Dec m_5_findOrder 4 (.aload_n 0) 1 5 := ⟨by decide +kernel, rfl⟩
theorem D_5_findOrder_5 : Dec m_5_findOrder 5 (.getfield 23) 3 8 := ⟨by decide +kernel, rfl⟩
theorem D_5_findOrder_8 : Dec m_5_findOrder 8 (.aload_n 0) 1 9 := ⟨by decide +kernel, rfl⟩
theorem D_5_findOrder_9 : Dec m_5_findOrder 9 (.getfield 33) 3 12 := ⟨by decide +kernel, rfl⟩
theorem D_5_findOrder_12 : Dec m_5_findOrder 12 (.invokevirtual 186) 3 15 := ⟨by decide +kernel, rfl⟩
theorem D_5_findOrder_15 : Dec m_5_findOrder 15 (.aload_n 0) 1 16 := ⟨by decide +kernel, rfl⟩
theorem D_5_findOrder_16 : Dec m_5_findOrder 16 (.getfield 57) 3 19 := ⟨by decide +kernel, rfl⟩
theorem D_5_findOrder_19 : Dec m_5_findOrder 19 (.aload_n 0) 1 20 := ⟨by decide +kernel, rfl⟩
theorem D_5_findOrder_20 : Dec m_5_findOrder 20 (.getfield 23) 3 23 := ⟨by decide +kernel, rfl⟩
theorem D_5_findOrder_23 : Dec m_5_findOrder 23 (.aload_n 0) 1 24 := ⟨by decide +kernel, rfl⟩
theorem D_5_findOrder_24 : Dec m_5_findOrder 24 (.getfield 33) 3 27 := ⟨by decide +kernel, rfl⟩
theorem D_5_findOrder_27 : Dec m_5_findOrder 27 (.aload_n 0) 1 28 := ⟨by decide +kernel, rfl⟩
theorem D_5_findOrder_28 : Dec m_5_findOrder 28 (.getfield 50) 3 31 := ⟨by decide +kernel, rfl⟩
theorem D_5_findOrder_31 : Dec m_5_findOrder 31 (.invokevirtual 242) 3 34 := ⟨by decide +kernel, rfl⟩
theorem D_5_findOrder_34 : Dec m_5_findOrder 34 (.return_) 1 35 := ⟨by decide +kernel, rfl⟩
theorem D_5_leadOf_0 : Dec m_5_leadOf 0 (.aload_n 0) 1 1 := ⟨by decide +kernel, rfl⟩
theorem D_5_leadOf_1 : Dec m_5_leadOf 1 (.getfield 50) 3 4 := ⟨by decide +kernel, rfl⟩
theorem D_5_leadOf_4 : Dec m_5_leadOf 4 (.aload_n 0) 1 5 := ⟨by decide +kernel, rfl⟩
theorem D_5_leadOf_5 : Dec m_5_leadOf 5 (.getfield 23) 3 8 := ⟨by decide +kernel, rfl⟩
theorem D_5_leadOf_8 : Dec m_5_leadOf 8 (.aload_n 3) 1 9 := ⟨by decide +kernel, rfl⟩
theorem D_5_leadOf_9 : Dec m_5_leadOf 9 (.invokevirtual 186) 3 12 := ⟨by decide +kernel, rfl⟩
theorem D_5_leadOf_12 : Dec m_5_leadOf 12 (.aload_n 0) 1 13 := ⟨by decide +kernel, rfl⟩
theorem D_5_leadOf_13 : Dec m_5_leadOf 13 (.getfield 23) 3 16 := ⟨by decide +kernel, rfl⟩
theorem D_5_leadOf_16 : Dec m_5_leadOf 16 (.aload_n 0) 1 17 := ⟨by decide +kernel, rfl⟩
theorem D_5_leadOf_17 : Dec m_5_leadOf 17 (.getfield 50) 3 20 := ⟨by decide +kernel, rfl⟩
theorem D_5_leadOf_20 : Dec m_5_leadOf 20 (.getfield 190) 3 23 := ⟨by decide +kernel, rfl⟩
theorem D_5_leadOf_23 : Dec m_5_leadOf 23 (.aload_n 0) 1 24 := ⟨by decide +kernel, rfl⟩
theorem D_5_leadOf_24 : Dec m_5_leadOf 24 (.getfield 23) 3 27 := ⟨by decide +kernel, rfl⟩
theorem D_5_leadOf_27 : Dec m_5_leadOf 27 (.iload_n 1) 1 28 := ⟨by decide +kernel, rfl⟩
theorem D_5_leadOf_28 : Dec m_5_leadOf 28 (.invokevirtual 246) 3 31 := ⟨by decide +kernel, rfl⟩
theorem D_5_leadOf_31 : Dec m_5_leadOf 31 (.iand) 1 32 := ⟨by decide +kernel, rfl⟩
theorem D_5_leadOf_32 : Dec m_5_leadOf 32 (.invokevirtual 182) 3 35 := ⟨by decide +kernel, rfl⟩
theorem D_5_leadOf_35 : Dec m_5_leadOf 35 (.aload_n 0) 1 36 := ⟨by decide +kernel, rfl⟩
theorem D_5_leadOf_36 : Dec m_5_leadOf 36 (.getfield 23) 3 39 := ⟨by decide +kernel, rfl⟩
theorem D_5_leadOf_39 : Dec m_5_leadOf 39 (.aload_n 0) 1 40 := ⟨by decide +kernel, rfl⟩
theorem D_5_leadOf_40 : Dec m_5_leadOf 40 (.getfield 50) 3 43 := ⟨by decide +kernel, rfl⟩
theorem D_5_leadOf_43 : Dec m_5_leadOf 43 (.getfield 190) 3 46 := ⟨by decide +kernel, rfl⟩
theorem D_5_leadOf_46 : Dec m_5_leadOf 46 (.aload_n 0) 1 47 := ⟨by decide +kernel, rfl⟩
theorem D_5_leadOf_47 : Dec m_5_leadOf 47 (.getfield 23) 3 50 := ⟨by decide +kernel, rfl⟩
theorem D_5_leadOf_50 : Dec m_5_leadOf 50 (.iload_n 2) 1 51 := ⟨by decide +kernel, rfl⟩
theorem D_5_leadOf_51 : Dec m_5_leadOf 51 (.invokevirtual 246) 3 54 := ⟨by decide +kernel, rfl⟩
theorem D_5_leadOf_54 : Dec m_5_leadOf 54 (.iand) 1 55 := ⟨by decide +kernel, rfl⟩
theorem D_5_leadOf_55 : Dec m_5_leadOf 55 (.invokevirtual 182) 3 58 := ⟨by decide +kernel, rfl⟩
theorem D_5_leadOf_58 : Dec m_5_leadOf 58 (.isub) 1 59 := ⟨by decide +kernel, rfl⟩
theorem D_5_leadOf_59 : Dec m_5_leadOf 59 (.ireturn) 1 60 := ⟨by decide +kernel, rfl⟩
theorem D_5_drawOf_0 : Dec m_5_drawOf 0 (.ldc2_w 249) 3 3 := ⟨by decide +kernel, rfl⟩
theorem D_5_drawOf_3 : Dec m_5_drawOf 3 (.iload_n 0) 1 4 := ⟨by decide +kernel, rfl⟩
theorem D_5_drawOf_4 : Dec m_5_drawOf 4 (.i2l) 1 5 := ⟨by decide +kernel, rfl⟩
theorem D_5_drawOf_5 : Dec m_5_drawOf 5 (.lmul) 1 6 := ⟨by decide +kernel, rfl⟩
theorem D_5_drawOf_6 : Dec m_5_drawOf 6 (.ldc2_w 251) 3 9 := ⟨by decide +kernel, rfl⟩
theorem D_5_drawOf_9 : Dec m_5_drawOf 9 (.iload_n 1) 1 10 := ⟨by decide +kernel, rfl⟩
theorem D_5_drawOf_10 : Dec m_5_drawOf 10 (.i2l) 1 11 := ⟨by decide +kernel, rfl⟩
theorem D_5_drawOf_11 : Dec m_5_drawOf 11 (.lmul) 1 12 := ⟨by decide +kernel, rfl⟩
theorem D_5_drawOf_12 : Dec m_5_drawOf 12 (.ladd) 1 13 := ⟨by decide +kernel, rfl⟩
theorem D_5_drawOf_13 : Dec m_5_drawOf 13 (.lconst 1) 1 14 := ⟨by decide +kernel, rfl⟩
theorem D_5_drawOf_14 : Dec m_5_drawOf 14 (.ladd) 1 15 := ⟨by decide +kernel, rfl⟩
theorem D_5_drawOf_15 : Dec m_5_drawOf 15 (.lstore_n 2) 1 16 := ⟨by decide +kernel, rfl⟩
theorem D_5_drawOf_16 : Dec m_5_drawOf 16 (.lload_n 2) 1 17 := ⟨by decide +kernel, rfl⟩
theorem D_5_drawOf_17 : Dec m_5_drawOf 17 (.lload_n 2) 1 18 := ⟨by decide +kernel, rfl⟩
theorem D_5_drawOf_18 : Dec m_5_drawOf 18 (.lmul) 1 19 := ⟨by decide +kernel, rfl⟩
theorem D_5_drawOf_19 : Dec m_5_drawOf 19 (.ldc2_w 253) 3 22 := ⟨by decide +kernel, rfl⟩
theorem D_5_drawOf_22 : Dec m_5_drawOf 22 (.lrem) 1 23 := ⟨by decide +kernel, rfl⟩
theorem D_5_drawOf_23 : Dec m_5_drawOf 23 (.l2i) 1 24 := ⟨by decide +kernel, rfl⟩
theorem D_5_drawOf_24 : Dec m_5_drawOf 24 (.ireturn) 1 25 := ⟨by decide +kernel, rfl⟩
theorem D_5_remainder_0 : Dec m_5_remainder 0 (.iload_n 1) 1 1 := ⟨by decide +kernel, rfl⟩
theorem D_5_remainder_1 : Dec m_5_remainder 1 (.iconst 1) 1 2 := ⟨by decide +kernel, rfl⟩
theorem D_5_remainder_2 : DecJ m_5_remainder 2 (.if_icmp .ge) 5 9 := ⟨7, by decide +kernel, rfl, rfl⟩
theorem D_5_remainder_5 : Dec m_5_remainder 5 (.iconst 0) 1 6 := ⟨by decide +kernel, rfl⟩
theorem D_5_remainder_6 : DecJ m_5_remainder 6 (.goto) 9 12 := ⟨6, by decide +kernel, rfl, rfl⟩
theorem D_5_remainder_9 : Dec m_5_remainder 9 (.iload_n 0) 1 10 := ⟨by decide +kernel, rfl⟩
theorem D_5_remainder_10 : Dec m_5_remainder 10 (.iload_n 1) 1 11 := ⟨by decide +kernel, rfl⟩
theorem D_5_remainder_11 : Dec m_5_remainder 11 (.irem) 1 12 := ⟨by decide +kernel, rfl⟩
theorem D_5_remainder_12 : Dec m_5_remainder 12 (.ireturn) 1 13 := ⟨by decide +kernel, rfl⟩
end
section
theorem D_6_init_0 : Dec m_6_init 0 (.aload_n 0) 1 1 := ⟨by decide +kernel, rfl⟩
theorem D_6_init_1 : Dec m_6_init 1 (.invokespecial 1) 3 4 := ⟨by decide +kernel, rfl⟩
theorem D_6_init_4 : Dec m_6_init 4 (.aload_n 0) 1 5 := ⟨by decide +kernel, rfl⟩
theorem D_6_init_5 : Dec m_6_init 5 (.iconst 5) 1 6 := ⟨by decide +kernel, rfl⟩
theorem D_6_init_6 : Dec m_6_init 6 (.newarray .int) 2 8 := ⟨by decide +kernel, rfl⟩
theorem D_6_init_8 : Dec m_6_init 8 (.putfield 7) 3 11 := ⟨by decide +kernel, rfl⟩
theorem D_6_init_11 : Dec m_6_init 11 (.aload_n 0) 1 12 := ⟨by decide +kernel, rfl⟩
theorem D_6_init_12 : Dec m_6_init 12 (.bipush 8) 2 14 := ⟨by decide +kernel, rfl⟩
theorem D_6_init_14 : Dec m_6_init 14 (.newarray .int) 2 16 := ⟨by decide +kernel, rfl⟩
theorem D_6_init_16 : Dec m_6_init 16 (.putfield 13) 3 19 := ⟨by decide +kernel, rfl⟩
theorem D_6_init_19 : Dec m_6_init 19 (.aload_n 0) 1 20 := ⟨by decide +kernel, rfl⟩
theorem D_6_init_20 : Dec m_6_init 20 (.bipush 7) 2 22 := ⟨by decide +kernel, rfl⟩
theorem D_6_init_22 : Dec m_6_init 22 (.newarray .int) 2 24 := ⟨by decide +kernel, rfl⟩
theorem D_6_init_24 : Dec m_6_init 24 (.putfield 16) 3 27 := ⟨by decide +kernel, rfl⟩
theorem D_6_init_27 : Dec m_6_init 27 (.aload_n 0) 1 28 := ⟨by decide +kernel, rfl⟩
theorem D_6_init_28 : Dec m_6_init 28 (.bipush 7) 2 30 := ⟨by decide +kernel, rfl⟩
theorem D_6_init_30 : Dec m_6_init 30 (.newarray .int) 2 32 := ⟨by decide +kernel, rfl⟩
theorem D_6_init_32 : Dec m_6_init 32 (.putfield 19) 3 35 := ⟨by decide +kernel, rfl⟩
theorem D_6_init_35 : Dec m_6_init 35 (.aload_n 0) 1 36 := ⟨by decide +kernel, rfl⟩
theorem D_6_init_36 : Dec m_6_init 36 (.bipush 7) 2 38 := ⟨by decide +kernel, rfl⟩
theorem D_6_init_38 : Dec m_6_init 38 (.newarray .int) 2 40 := ⟨by decide +kernel, rfl⟩
theorem D_6_init_40 : Dec m_6_init 40 (.putfield 22) 3 43 := ⟨by decide +kernel, rfl⟩
theorem D_6_init_43 : Dec m_6_init 43 (.aload_n 0) 1 44 := ⟨by decide +kernel, rfl⟩
theorem D_6_init_44 : Dec m_6_init 44 (.bipush 7) 2 46 := ⟨by decide +kernel, rfl⟩
theorem D_6_init_46 : Dec m_6_init 46 (.newarray .int) 2 48 := ⟨by decide +kernel, rfl⟩
theorem D_6_init_48 : Dec m_6_init 48 (.putfield 25) 3 51 := ⟨by decide +kernel, rfl⟩
theorem D_6_init_51 : Dec m_6_init 51 (.aload_n 0) 1 52 := ⟨by decide +kernel, rfl⟩
theorem D_6_init_52 : Dec m_6_init 52 (.iconst 4) 1 53 := ⟨by decide +kernel, rfl⟩
theorem D_6_init_53 : Dec m_6_init 53 (.newarray .int) 2 55 := ⟨by decide +kernel, rfl⟩
theorem D_6_init_55 : Dec m_6_init 55 (.putfield 28) 3 58 := ⟨by decide +kernel, rfl⟩
theorem D_6_init_58 : Dec m_6_init 58 (.aload_n 0) 1 59 := ⟨by decide +kernel, rfl⟩
theorem D_6_init_59 : Dec m_6_init 59 (.iconst 4) 1 60 := ⟨by decide +kernel, rfl⟩
theorem D_6_init_60 : Dec m_6_init 60 (.newarray .int) 2 62 := ⟨by decide +kernel, rfl⟩
theorem D_6_init_62 : Dec m_6_init 62 (.putfield 31) 3 65 := ⟨by decide +kernel, rfl⟩
theorem D_6_init_65 : Dec m_6_init 65 (.aload_n 0) 1 66 := ⟨by decide +kernel, rfl⟩
theorem D_6_init_66 : Dec m_6_init 66 (.bipush 23) 2 68 := ⟨by decide +kernel, rfl⟩
theorem D_6_init_68 : Dec m_6_init 68 (.newarray .int) 2 70 := ⟨by decide +kernel, rfl⟩
theorem D_6_init_70 : Dec m_6_init 70 (.putfield 34) 3 73 := ⟨by decide +kernel, rfl⟩
theorem D_6_init_73 : Dec m_6_init 73 (.aload_n 0) 1 74 := ⟨by decide +kernel, rfl⟩
theorem D_6_init_74 : Dec m_6_init 74 (.sipush 184) 3 77 := ⟨by decide +kernel, rfl⟩
theorem D_6_init_77 : Dec m_6_init 77 (.newarray .int) 2 79 := ⟨by decide +kernel, rfl⟩
theorem D_6_init_79 : Dec m_6_init 79 (.putfield 37) 3 82 := ⟨by decide +kernel, rfl⟩
theorem D_6_init_82 : Dec m_6_init 82 (.aload_n 0) 1 83 := ⟨by decide +kernel, rfl⟩
theorem D_6_init_83 : Dec m_6_init 83 (.bipush 46) 2 85 := ⟨by decide +kernel, rfl⟩
theorem D_6_init_85 : Dec m_6_init 85 (.newarray .int) 2 87 := ⟨by decide +kernel, rfl⟩
theorem D_6_init_87 : Dec m_6_init 87 (.putfield 40) 3 90 := ⟨by decide +kernel, rfl⟩
theorem D_6_init_90 : Dec m_6_init 90 (.aload_n 0) 1 91 := ⟨by decide +kernel, rfl⟩
theorem D_6_init_91 : Dec m_6_init 91 (.sipush 300) 3 94 := ⟨by decide +kernel, rfl⟩
theorem D_6_init_94 : Dec m_6_init 94 (.newarray .int) 2 96 := ⟨by decide +kernel, rfl⟩
theorem D_6_init_96 : Dec m_6_init 96 (.putfield 43) 3 99 := ⟨by decide +kernel, rfl⟩
theorem D_6_init_99 : Dec m_6_init 99 (.aload_n 0) 1 100 := ⟨by decide +kernel, rfl⟩
theorem D_6_init_100 : Dec m_6_init 100 (.iconst 5) 1 101 := ⟨by decide +kernel, rfl⟩
theorem D_6_init_101 : Dec m_6_init 101 (.newarray .int) 2 103 := ⟨by decide +kernel, rfl⟩
theorem D_6_init_103 : Dec m_6_init 103 (.putfield 46) 3 106 := ⟨by decide +kernel, rfl⟩
theorem D_6_init_106 : Dec m_6_init 106 (.aload_n 0) 1 107 := ⟨by decide +kernel, rfl⟩
theorem D_6_init_107 : Dec m_6_init 107 (.bipush 8) 2 109 := ⟨by decide +kernel, rfl⟩
theorem D_6_init_109 : Dec m_6_init 109 (.newarray .int) 2 111 := ⟨by decide +kernel, rfl⟩
theorem D_6_init_111 : Dec m_6_init 111 (.putfield 49) 3 114 := ⟨by decide +kernel, rfl⟩
theorem D_6_init_114 : Dec m_6_init 114 (.aload_n 0) 1 115 := ⟨by decide +kernel, rfl⟩
theorem D_6_init_115 : Dec m_6_init 115 (.bipush 7) 2 117 := ⟨by decide +kernel, rfl⟩
theorem D_6_init_117 : Dec m_6_init 117 (.newarray .int) 2 119 := ⟨by decide +kernel, rfl⟩
theorem D_6_init_119 : Dec m_6_init 119 (.putfield 52) 3 122 := ⟨by decide +kernel, rfl⟩
theorem D_6_init_122 : Dec m_6_init 122 (.aload_n 0) 1 123 := ⟨by decide +kernel, rfl⟩
theorem D_6_init_123 : Dec m_6_init 123 (.bipush 7) 2 125 := ⟨by decide +kernel, rfl⟩
theorem D_6_init_125 : Dec m_6_init 125 (.newarray .int) 2 127 := ⟨by decide +kernel, rfl⟩
theorem D_6_init_127 : Dec m_6_init 127 (.putfield 55) 3 130 := ⟨by decide +kernel, rfl⟩
theorem D_6_init_130 : Dec m_6_init 130 (.aload_n 0) 1 131 := ⟨by decide +kernel, rfl⟩
theorem D_6_init_131 : Dec m_6_init 131 (.bipush 7) 2 133 := ⟨by decide +kernel, rfl⟩
theorem D_6_init_133 : Dec m_6_init 133 (.newarray .int) 2 135 := ⟨by decide +kernel, rfl⟩
theorem D_6_init_135 : Dec m_6_init 135 (.putfield 58) 3 138 := ⟨by decide +kernel, rfl⟩
theorem D_6_init_138 : Dec m_6_init 138 (.aload_n 0) 1 139 := ⟨by decide +kernel, rfl⟩
theorem D_6_init_139 : Dec m_6_init 139 (.bipush 7) 2 141 := ⟨by decide +kernel, rfl⟩
theorem D_6_init_141 : Dec m_6_init 141 (.newarray .int) 2 143 := ⟨by decide +kernel, rfl⟩
theorem D_6_init_143 : Dec m_6_init 143 (.putfield 61) 3 146 := ⟨by decide +kernel, rfl⟩
theorem D_6_init_146 : Dec m_6_init 146 (.aload_n 0) 1 147 := ⟨by decide +kernel, rfl⟩
theorem D_6_init_147 : Dec m_6_init 147 (.iconst 4) 1 148 := ⟨by decide +kernel, rfl⟩
theorem D_6_init_148 : Dec m_6_init 148 (.newarray .int) 2 150 := ⟨by decide +kernel, rfl⟩
theorem D_6_init_150 : Dec m_6_init 150 (.putfield 64) 3 153 := ⟨by decide +kernel, rfl⟩
theorem D_6_init_153 : Dec m_6_init 153 (.aload_n 0) 1 154 := ⟨by decide +kernel, rfl⟩
theorem D_6_init_154 : Dec m_6_init 154 (.iconst 4) 1 155 := ⟨by decide +kernel, rfl⟩
theorem D_6_init_155 : Dec m_6_init 155 (.newarray .int) 2 157 := ⟨by decide +kernel, rfl⟩
theorem D_6_init_157 : Dec m_6_init 157 (.putfield 67) 3 160 := ⟨by decide +kernel, rfl⟩
theorem D_6_init_160 : Dec m_6_init 160 (.aload_n 0) 1 161 := ⟨by decide +kernel, rfl⟩
theorem D_6_init_161 : Dec m_6_init 161 (.sipush 2048) 3 164 := ⟨by decide +kernel, rfl⟩
theorem D_6_init_164 : Dec m_6_init 164 (.newarray .int) 2 166 := ⟨by decide +kernel, rfl⟩
theorem D_6_init_166 : Dec m_6_init 166 (.putfield 70) 3 169 := ⟨by decide +kernel, rfl⟩
theorem D_6_init_169 : Dec m_6_init 169 (.aload_n 0) 1 170 := ⟨by decide +kernel, rfl⟩
theorem D_6_init_170 : Dec m_6_init 170 (.iconst 5) 1 171 := ⟨by decide +kernel, rfl⟩
theorem D_6_init_171 : Dec m_6_init 171 (.newarray .int) 2 173 := ⟨by decide +kernel, rfl⟩
theorem D_6_init_173 : Dec m_6_init 173 (.putfield 73) 3 176 := ⟨by decide +kernel, rfl⟩
theorem D_6_init_176 : Dec m_6_init 176 (.aload_n 0) 1 177 := ⟨by decide +kernel, rfl⟩
theorem D_6_init_177 : Dec m_6_init 177 (.bipush 7) 2 179 := ⟨by decide +kernel, rfl⟩
theorem D_6_init_179 : Dec m_6_init 179 (.newarray .int) 2 181 := ⟨by decide +kernel, rfl⟩
theorem D_6_init_181 : Dec m_6_init 181 (.putfield 76) 3 184 := ⟨by decide +kernel, rfl⟩
theorem D_6_init_184 : Dec m_6_init 184 (.aload_n 0) 1 185 := ⟨by decide +kernel, rfl⟩
theorem D_6_init_185 : Dec m_6_init 185 (.bipush 7) 2 187 := ⟨by decide +kernel, rfl⟩
theorem D_6_init_187 : Dec m_6_init 187 (.newarray .int) 2 189 := ⟨by decide +kernel, rfl⟩
theorem D_6_init_189 : Dec m_6_init 189 (.putfield 79) 3 192 := ⟨by decide +kernel, rfl⟩
theorem D_6_init_192 : Dec m_6_init 192 (.aload_n 0) 1 193 := ⟨by decide +kernel, rfl⟩
theorem D_6_init_193 : Dec m_6_init 193 (.bipush 7) 2 195 := ⟨by decide +kernel, rfl⟩
theorem D_6_init_195 : Dec m_6_init 195 (.newarray .int) 2 197 := ⟨by decide +kernel, rfl⟩
theorem D_6_init_197 : Dec m_6_init 197 (.putfield 82) 3 200 := ⟨by decide +kernel, rfl⟩
theorem D_6_init_200 : Dec m_6_init 200 (.aload_n 0) 1 201 := ⟨by decide +kernel, rfl⟩
theorem D_6_init_201 : Dec m_6_init 201 (.bipush 7) 2 203 := ⟨by decide +kernel, rfl⟩
theorem D_6_init_203 : Dec m_6_init 203 (.newarray .int) 2 205 := ⟨by decide +kernel, rfl⟩
theorem D_6_init_205 : Dec m_6_init 205 (.putfield 85) 3 208 := ⟨by decide +kernel, rfl⟩
theorem D_6_init_208 : Dec m_6_init 208 (.aload_n 0) 1 209 := ⟨by decide +kernel, rfl⟩
theorem D_6_init_209 : Dec m_6_init 209 (.invokevirtual 88) 3 212 := ⟨by decide +kernel, rfl⟩
theorem D_6_init_212 : Dec m_6_init 212 (.aload_n 0) 1 213 := ⟨by decide +kernel, rfl⟩
theorem D_6_init_213 : Dec m_6_init 213 (.iconst 2) 1 214 := ⟨by decide +kernel, rfl⟩
theorem D_6_init_214 : Dec m_6_init 214 (.putfield 91) 3 217 := ⟨by decide +kernel, rfl⟩
theorem D_6_init_217 : Dec m_6_init 217 (.aload_n 0) 1 218 := ⟨by decide +kernel, rfl⟩
theorem D_6_init_218 : Dec m_6_init 218 (.iconst 2) 1 219 := ⟨by decide +kernel, rfl⟩
theorem D_6_init_219 : Dec m_6_init 219 (.putfield 95) 3 222 := ⟨by decide +kernel, rfl⟩
theorem D_6_init_222 : Dec m_6_init 222 (.aload_n 0) 1 223 := ⟨by decide +kernel, rfl⟩
theorem D_6_init_223 : Dec m_6_init 223 (.iconst 2) 1 224 := ⟨by decide +kernel, rfl⟩
theorem D_6_init_224 : Dec m_6_init 224 (.putfield 98) 3 227 := ⟨by decide +kernel, rfl⟩
theorem D_6_init_227 : Dec m_6_init 227 (.aload_n 0) 1 228 := ⟨by decide +kernel, rfl⟩
theorem D_6_init_228 : Dec m_6_init 228 (.getfield 46) 3 231 := ⟨by decide +kernel, rfl⟩
theorem D_6_init_231 : Dec m_6_init 231 (.iconst 0) 1 232 := ⟨by decide +kernel, rfl⟩
theorem D_6_init_232 : Dec m_6_init 232 (.iconst 3) 1 233 := ⟨by decide +kernel, rfl⟩
theorem D_6_init_233 : Dec m_6_init 233 (.iastore) 1 234 := ⟨by decide +kernel, rfl⟩
theorem D_6_init_234 : Dec m_6_init 234 (.aload_n 0) 1 235 := ⟨by decide +kernel, rfl⟩
theorem D_6_init_235 : Dec m_6_init 235 (.getfield 46) 3 238 := ⟨by decide +kernel, rfl⟩
theorem D_6_init_238 : Dec m_6_init 238 (.iconst 1) 1 239 := ⟨by decide +kernel, rfl⟩
theorem D_6_init_239 : Dec m_6_init 239 (.iconst 5) 1 240 := ⟨by decide +kernel, rfl⟩
theorem D_6_init_240 : Dec m_6_init 240 (.iastore) 1 241 := ⟨by decide +kernel, rfl⟩
theorem D_6_init_241 : Dec m_6_init 241 (.aload_n 0) 1 242 := ⟨by decide +kernel, rfl⟩
theorem D_6_init_242 : Dec m_6_init 242 (.getfield 49) 3 245 := ⟨by decide +kernel, rfl⟩
theorem D_6_init_245 : Dec m_6_init 245 (.iconst 0) 1 246 := ⟨by decide +kernel, rfl⟩
theorem D_6_init_246 : Dec m_6_init 246 (.iconst 4) 1 247 := ⟨by decide +kernel, rfl⟩
theorem D_6_init_247 : Dec m_6_init 247 (.iastore) 1 248 := ⟨by decide +kernel, rfl⟩
theorem D_6_init_248 : Dec m_6_init 248 (.aload_n 0) 1 249 := ⟨by decide +kernel, rfl⟩
theorem D_6_init_249 : Dec m_6_init 249 (.getfield 49) 3 252 := ⟨by decide +kernel, rfl⟩
theorem D_6_init_252 : Dec m_6_init 252 (.iconst 1) 1 253 := ⟨by decide +kernel, rfl⟩
theorem D_6_init_253 : Dec m_6_init 253 (.bipush 6) 2 255 := ⟨by decide +kernel, rfl⟩
theorem D_6_init_255 : Dec m_6_init 255 (.iastore) 1 256 := ⟨by decide +kernel, rfl⟩
theorem D_6_init_256 : Dec m_6_init 256 (.aload_n 0) 1 257 := ⟨by decide +kernel, rfl⟩
theorem D_6_init_257 : Dec m_6_init 257 (.iconst 0) 1 258 := ⟨by decide +kernel, rfl⟩
theorem D_6_init_258 : Dec m_6_init 258 (.iconst 0) 1 259 := ⟨by decide +kernel, rfl⟩
theorem D_6_init_259 : Dec m_6_init 259 (.bipush 10) 2 261 := ⟨by decide +kernel, rfl⟩
theorem D_6_init_261 : Dec m_6_init 261 (.iconst 5) 1 262 := ⟨by decide +kernel, rfl⟩
theorem D_6_init_262 : Dec m_6_init 262 (.bipush (-4)) 2 264 := ⟨by decide +kernel, rfl⟩
theorem D_6_init_264 : Dec m_6_init 264 (.invokevirtual 101) 3 267 := ⟨by decide +kernel, rfl⟩
theorem D_6_init_267 : Dec m_6_init 267 (.aload_n 0) 1 268 := ⟨by decide +kernel, rfl⟩
theorem D_6_init_268 : Dec m_6_init 268 (.iconst 1) 1 269 := ⟨by decide +kernel, rfl⟩
theorem D_6_init_269 : Dec m_6_init 269 (.iconst 1) 1 270 := ⟨by decide +kernel, rfl⟩
theorem D_6_init_270 : Dec m_6_init 270 (.bipush 20) 2 272 := ⟨by decide +kernel, rfl⟩
theorem D_6_init_272 : Dec m_6_init 272 (.bipush 7) 2 274 := ⟨by decide +kernel, rfl⟩
theorem D_6_init_274 : Dec m_6_init 274 (.iconst 0) 1 275 := ⟨by decide +kernel, rfl⟩
theorem D_6_init_275 : Dec m_6_init 275 (.invokevirtual 101) 3 278 := ⟨by decide +kernel, rfl⟩
theorem D_6_init_278 : Dec m_6_init 278 (.aload_n 0) 1 279 := ⟨by decide +kernel, rfl⟩
theorem D_6_init_279 : Dec m_6_init 279 (.invokevirtual 105) 3 282 := ⟨by decide +kernel, rfl⟩
theorem D_6_init_282 : Dec m_6_init 282 (.return_) 1 283 := ⟨by decide +kernel, rfl⟩
theorem D_6_in_0 : Dec m_6_in 0 (.iload_n 0) 1 1 := ⟨by decide +kernel, rfl⟩
theorem D_6_in_1 : Dec m_6_in 1 (.iload_n 1) 1 2 := ⟨by decide +kernel, rfl⟩
theorem D_6_in_2 : DecJ m_6_in 2 (.if_icmp .lt) 5 14 := ⟨12, by decide +kernel, rfl, rfl⟩
theorem D_6_in_5 : Dec m_6_in 5 (.iload_n 0) 1 6 := ⟨by decide +kernel, rfl⟩
theorem D_6_in_6 : Dec m_6_in 6 (.iload_n 2) 1 7 := ⟨by decide +kernel, rfl⟩
theorem D_6_in_7 : DecJ m_6_in 7 (.if_icmp .gt) 10 14 := ⟨7, by decide +kernel, rfl, rfl⟩
theorem D_6_in_10 : Dec m_6_in 10 (.iconst 1) 1 11 := ⟨by decide +kernel, rfl⟩
theorem D_6_in_11 : DecJ m_6_in 11 (.goto) 14 15 := ⟨4, by decide +kernel, rfl, rfl⟩
theorem D_6_in_14 : Dec m_6_in 14 (.iconst 0) 1 15 := ⟨by decide +kernel, rfl⟩
theorem D_6_in_15 : Dec m_6_in 15 (.ireturn) 1 16 := ⟨by decide +kernel, rfl⟩
theorem D_6_has_0 : Dec m_6_has 0 (.iload_n 0) 1 1 := ⟨by decide +kernel, rfl⟩
theorem D_6_has_1 : Dec m_6_has 1 (.iload_n 1) 1 2 := ⟨by decide +kernel, rfl⟩
theorem D_6_has_2 : Dec m_6_has 2 (.ishr) 1 3 := ⟨by decide +kernel, rfl⟩
theorem D_6_has_3 : Dec m_6_has 3 (.iconst 1) 1 4 := ⟨by decide +kernel, rfl⟩
theorem D_6_has_4 : Dec m_6_has 4 (.iand) 1 5 := ⟨by decide +kernel, rfl⟩
theorem D_6_has_5 : Dec m_6_has 5 (.iconst 1) 1 6 := ⟨by decide +kernel, rfl⟩
theorem D_6_has_6 : DecJ m_6_has 6 (.if_icmp .ne) 9 13 := ⟨7, by decide +kernel, rfl, rfl⟩
theorem D_6_has_9 : Dec m_6_has 9 (.iconst 1) 1 10 := ⟨by decide +kernel, rfl⟩
theorem D_6_has_10 : DecJ m_6_has 10 (.goto) 13 14 := ⟨4, by decide +kernel, rfl, rfl⟩
theorem D_6_has_13 : Dec m_6_has 13 (.iconst 0) 1 14 := ⟨by decide +kernel, rfl⟩
theorem D_6_has_14 : Dec m_6_has 14 (.ireturn) 1 15 := ⟨by decide +kernel, rfl⟩
theorem D_6_isPerson_0 : Dec m_6_isPerson 0 (.iload_n 1) 1 1 := ⟨by decide +kernel, rfl⟩
theorem D_6_isPerson_1 : Dec m_6_isPerson 1 (.iconst 0) 1 2 := ⟨by decide +kernel, rfl⟩
theorem D_6_isPerson_2 : Dec m_6_isPerson 2 (.aload_n 0) 1 3 := ⟨by decide +kernel, rfl⟩
theorem D_6_isPerson_3 : Dec m_6_isPerson 3 (.getfield 108) 3 6 := ⟨by decide +kernel, rfl⟩
theorem D_6_isPerson_6 : Dec m_6_isPerson 6 (.iconst 1) 1 7 := ⟨by decide +kernel, rfl⟩
theorem D_6_isPerson_7 : Dec m_6_isPerson 7 (.isub) 1 8 := ⟨by decide +kernel, rfl⟩
theorem D_6_isPerson_8 : Dec m_6_isPerson 8 (.invokestatic 111) 3 11 := ⟨by decide +kernel, rfl⟩
theorem D_6_isPerson_11 : Dec m_6_isPerson 11 (.ireturn) 1 12 := ⟨by decide +kernel, rfl⟩
theorem D_6_isGrain_0 : Dec m_6_isGrain 0 (.iload_n 1) 1 1 := ⟨by decide +kernel, rfl⟩
theorem D_6_isGrain_1 : Dec m_6_isGrain 1 (.iconst 0) 1 2 := ⟨by decide +kernel, rfl⟩
theorem D_6_isGrain_2 : Dec m_6_isGrain 2 (.aload_n 0) 1 3 := ⟨by decide +kernel, rfl⟩
theorem D_6_isGrain_3 : Dec m_6_isGrain 3 (.getfield 115) 3 6 := ⟨by decide +kernel, rfl⟩
theorem D_6_isGrain_6 : Dec m_6_isGrain 6 (.iconst 1) 1 7 := ⟨by decide +kernel, rfl⟩
theorem D_6_isGrain_7 : Dec m_6_isGrain 7 (.isub) 1 8 := ⟨by decide +kernel, rfl⟩
theorem D_6_isGrain_8 : Dec m_6_isGrain 8 (.invokestatic 111) 3 11 := ⟨by decide +kernel, rfl⟩
theorem D_6_isGrain_11 : Dec m_6_isGrain 11 (.ireturn) 1 12 := ⟨by decide +kernel, rfl⟩
theorem D_6_isSaying_0 : Dec m_6_isSaying 0 (.iload_n 1) 1 1 := ⟨by decide +kernel, rfl⟩
theorem D_6_isSaying_1 : Dec m_6_isSaying 1 (.iconst 0) 1 2 := ⟨by decide +kernel, rfl⟩
theorem D_6_isSaying_2 : Dec m_6_isSaying 2 (.aload_n 0) 1 3 := ⟨by decide +kernel, rfl⟩
theorem D_6_isSaying_3 : Dec m_6_isSaying 3 (.getfield 118) 3 6 := ⟨by decide +kernel, rfl⟩
theorem D_6_isSaying_6 : Dec m_6_isSaying 6 (.iconst 1) 1 7 := ⟨by decide +kernel, rfl⟩
theorem D_6_isSaying_7 : Dec m_6_isSaying 7 (.isub) 1 8 := ⟨by decide +kernel, rfl⟩
theorem D_6_isSaying_8 : Dec m_6_isSaying 8 (.invokestatic 111) 3 11 := ⟨by decide +kernel, rfl⟩
theorem D_6_isSaying_11 : Dec m_6_isSaying 11 (.ireturn) 1 12 := ⟨by decide +kernel, rfl⟩
theorem D_6_write_0 : Dec m_6_write 0 (.iload_n 1) 1 1 := ⟨by decide +kernel, rfl⟩
theorem D_6_write_1 : Dec m_6_write 1 (.iconst 1) 1 2 := ⟨by decide +kernel, rfl⟩
theorem D_6_write_2 : Dec m_6_write 2 (.bipush 8) 2 4 := ⟨by decide +kernel, rfl⟩
theorem D_6_write_4 : Dec m_6_write 4 (.invokestatic 111) 3 7 := ⟨by decide +kernel, rfl⟩
theorem D_6_write_7 : DecJ m_6_write 7 (.ifCond .ne) 10 12 := ⟨5, by decide +kernel, rfl, rfl⟩
theorem D_6_write_10 : Dec m_6_write 10 (.iconst (-1)) 1 11 := ⟨by decide +kernel, rfl⟩
theorem D_6_write_11 : Dec m_6_write 11 (.ireturn) 1 12 := ⟨by decide +kernel, rfl⟩
theorem D_6_write_12 : Dec m_6_write 12 (.aload_n 0) 1 13 := ⟨by decide +kernel, rfl⟩
theorem D_6_write_13 : Dec m_6_write 13 (.getfield 121) 3 16 := ⟨by decide +kernel, rfl⟩
theorem D_6_write_16 : Dec m_6_write 16 (.iload_n 1) 1 17 := ⟨by decide +kernel, rfl⟩
theorem D_6_write_17 : Dec m_6_write 17 (.iadd) 1 18 := ⟨by decide +kernel, rfl⟩
theorem D_6_write_18 : Dec m_6_write 18 (.sipush 300) 3 21 := ⟨by decide +kernel, rfl⟩
theorem D_6_write_21 : DecJ m_6_write 21 (.if_icmp .le) 24 27 := ⟨6, by decide +kernel, rfl, rfl⟩
theorem D_6_write_24 : Dec m_6_write 24 (.bipush (-3)) 2 26 := ⟨by decide +kernel, rfl⟩
theorem D_6_write_26 : Dec m_6_write 26 (.ireturn) 1 27 := ⟨by decide +kernel, rfl⟩
theorem D_6_write_27 : Dec m_6_write 27 (.iload_n 1) 1 28 := ⟨by decide +kernel, rfl⟩
theorem D_6_write_28 : Dec m_6_write 28 (.iconst 1) 1 29 := ⟨by decide +kernel, rfl⟩
theorem D_6_write_29 : Dec m_6_write 29 (.isub) 1 30 := ⟨by decide +kernel, rfl⟩
theorem D_6_write_30 : Dec m_6_write 30 (.istore 4) 2 32 := ⟨by decide +kernel, rfl⟩
theorem D_6_write_32 : Dec m_6_write 32 (.iload 4) 2 34 := ⟨by decide +kernel, rfl⟩
theorem D_6_write_34 : DecJ m_6_write 34 (.ifCond .lt) 37 74 := ⟨40, by decide +kernel, rfl, rfl⟩
theorem D_6_write_37 : Dec m_6_write 37 (.aload_n 0) 1 38 := ⟨by decide +kernel, rfl⟩
theorem D_6_write_38 : Dec m_6_write 38 (.getfield 43) 3 41 := ⟨by decide +kernel, rfl⟩
theorem D_6_write_41 : Dec m_6_write 41 (.aload_n 0) 1 42 := ⟨by decide +kernel, rfl⟩
theorem D_6_write_42 : Dec m_6_write 42 (.getfield 121) 3 45 := ⟨by decide +kernel, rfl⟩
theorem D_6_write_45 : Dec m_6_write 45 (.lload_n 2) 1 46 := ⟨by decide +kernel, rfl⟩
theorem D_6_write_46 : Dec m_6_write 46 (.bipush 8) 2 48 := ⟨by decide +kernel, rfl⟩
theorem D_6_write_48 : Dec m_6_write 48 (.iload 4) 2 50 := ⟨by decide +kernel, rfl⟩
theorem D_6_write_50 : Dec m_6_write 50 (.imul) 1 51 := ⟨by decide +kernel, rfl⟩
theorem D_6_write_51 : Dec m_6_write 51 (.lshr) 1 52 := ⟨by decide +kernel, rfl⟩
theorem D_6_write_52 : Dec m_6_write 52 (.ldc2_w 124) 3 55 := ⟨by decide +kernel, rfl⟩
theorem D_6_write_55 : Dec m_6_write 55 (.land) 1 56 := ⟨by decide +kernel, rfl⟩
theorem D_6_write_56 : Dec m_6_write 56 (.l2i) 1 57 := ⟨by decide +kernel, rfl⟩
theorem D_6_write_57 : Dec m_6_write 57 (.iastore) 1 58 := ⟨by decide +kernel, rfl⟩
theorem D_6_write_58 : Dec m_6_write 58 (.aload_n 0) 1 59 := ⟨by decide +kernel, rfl⟩
theorem D_6_write_59 : Dec m_6_write 59 (.dup) 1 60 := ⟨by decide +kernel, rfl⟩
theorem D_6_write_60 : Dec m_6_write 60 (.getfield 121) 3 63 := ⟨by decide +kernel, rfl⟩
theorem D_6_write_63 : Dec m_6_write 63 (.iconst 1) 1 64 := ⟨by decide +kernel, rfl⟩
theorem D_6_write_64 : Dec m_6_write 64 (.iadd) 1 65 := ⟨by decide +kernel, rfl⟩
theorem D_6_write_65 : Dec m_6_write 65 (.putfield 121) 3 68 := ⟨by decide +kernel, rfl⟩
theorem D_6_write_68 : Dec m_6_write 68 (.iinc 4 (-1)) 3 71 := ⟨by decide +kernel, rfl⟩
theorem D_6_write_71 : DecJ m_6_write 71 (.goto) 74 32 := ⟨-39, by decide +kernel, rfl, rfl⟩
theorem D_6_write_74 : Dec m_6_write 74 (.aload_n 0) 1 75 := ⟨by decide +kernel, rfl⟩
theorem D_6_write_75 : Dec m_6_write 75 (.getfield 121) 3 78 := ⟨by decide +kernel, rfl⟩
theorem D_6_write_78 : Dec m_6_write 78 (.ireturn) 1 79 := ⟨by decide +kernel, rfl⟩
theorem D_6_wipe_0 : Dec m_6_wipe 0 (.aload_n 0) 1 1 := ⟨by decide +kernel, rfl⟩
theorem D_6_wipe_1 : Dec m_6_wipe 1 (.getfield 121) 3 4 := ⟨by decide +kernel, rfl⟩
theorem D_6_wipe_4 : Dec m_6_wipe 4 (.istore_n 1) 1 5 := ⟨by decide +kernel, rfl⟩
theorem D_6_wipe_5 : Dec m_6_wipe 5 (.aload_n 0) 1 6 := ⟨by decide +kernel, rfl⟩
theorem D_6_wipe_6 : Dec m_6_wipe 6 (.iconst 0) 1 7 := ⟨by decide +kernel, rfl⟩
theorem D_6_wipe_7 : Dec m_6_wipe 7 (.putfield 121) 3 10 := ⟨by decide +kernel, rfl⟩
theorem D_6_wipe_10 : Dec m_6_wipe 10 (.iload_n 1) 1 11 := ⟨by decide +kernel, rfl⟩
theorem D_6_wipe_11 : Dec m_6_wipe 11 (.ireturn) 1 12 := ⟨by decide +kernel, rfl⟩
theorem D_6_begins_0 : Dec m_6_begins 0 (.aload_n 0) 1 1 := ⟨by decide +kernel, rfl⟩
theorem D_6_begins_1 : Dec m_6_begins 1 (.iconst 0) 1 2 := ⟨by decide +kernel, rfl⟩
theorem D_6_begins_2 : Dec m_6_begins 2 (.putfield 126) 3 5 := ⟨by decide +kernel, rfl⟩
theorem D_6_begins_5 : Dec m_6_begins 5 (.aload_n 0) 1 6 := ⟨by decide +kernel, rfl⟩
theorem D_6_begins_6 : Dec m_6_begins 6 (.iconst 0) 1 7 := ⟨by decide +kernel, rfl⟩
theorem D_6_begins_7 : Dec m_6_begins 7 (.putfield 91) 3 10 := ⟨by decide +kernel, rfl⟩
theorem D_6_begins_10 : Dec m_6_begins 10 (.aload_n 0) 1 11 := ⟨by decide +kernel, rfl⟩
theorem D_6_begins_11 : Dec m_6_begins 11 (.iconst 0) 1 12 := ⟨by decide +kernel, rfl⟩
theorem D_6_begins_12 : Dec m_6_begins 12 (.putfield 95) 3 15 := ⟨by decide +kernel, rfl⟩
theorem D_6_begins_15 : Dec m_6_begins 15 (.aload_n 0) 1 16 := ⟨by decide +kernel, rfl⟩
theorem D_6_begins_16 : Dec m_6_begins 16 (.iconst 0) 1 17 := ⟨by decide +kernel, rfl⟩
theorem D_6_begins_17 : Dec m_6_begins 17 (.putfield 98) 3 20 := ⟨by decide +kernel, rfl⟩
theorem D_6_begins_20 : Dec m_6_begins 20 (.aload_n 0) 1 21 := ⟨by decide +kernel, rfl⟩
theorem D_6_begins_21 : Dec m_6_begins 21 (.iconst 0) 1 22 := ⟨by decide +kernel, rfl⟩
theorem D_6_begins_22 : Dec m_6_begins 22 (.putfield 129) 3 25 := ⟨by decide +kernel, rfl⟩
theorem D_6_begins_25 : Dec m_6_begins 25 (.aload_n 0) 1 26 := ⟨by decide +kernel, rfl⟩
theorem D_6_begins_26 : Dec m_6_begins 26 (.bipush 20) 2 28 := ⟨by decide +kernel, rfl⟩
theorem D_6_begins_28 : Dec m_6_begins 28 (.putfield 132) 3 31 := ⟨by decide +kernel, rfl⟩
theorem D_6_begins_31 : Dec m_6_begins 31 (.return_) 1 32 := ⟨by decide +kernel, rfl⟩
theorem D_6_tells_0 : Dec m_6_tells 0 (.aload_n 0) 1 1 := ⟨by decide +kernel, rfl⟩
theorem D_6_tells_1 : Dec m_6_tells 1 (.getfield 52) 3 4 := ⟨by decide +kernel, rfl⟩
theorem D_6_tells_4 : Dec m_6_tells 4 (.iload_n 1) 1 5 := ⟨by decide +kernel, rfl⟩
theorem D_6_tells_5 : Dec m_6_tells 5 (.iload_n 2) 1 6 := ⟨by decide +kernel, rfl⟩
theorem D_6_tells_6 : Dec m_6_tells 6 (.iastore) 1 7 := ⟨by decide +kernel, rfl⟩
theorem D_6_tells_7 : Dec m_6_tells 7 (.aload_n 0) 1 8 := ⟨by decide +kernel, rfl⟩
theorem D_6_tells_8 : Dec m_6_tells 8 (.getfield 55) 3 11 := ⟨by decide +kernel, rfl⟩
theorem D_6_tells_11 : Dec m_6_tells 11 (.iload_n 1) 1 12 := ⟨by decide +kernel, rfl⟩
theorem D_6_tells_12 : Dec m_6_tells 12 (.iload_n 3) 1 13 := ⟨by decide +kernel, rfl⟩
theorem D_6_tells_13 : Dec m_6_tells 13 (.iastore) 1 14 := ⟨by decide +kernel, rfl⟩
theorem D_6_tells_14 : Dec m_6_tells 14 (.aload_n 0) 1 15 := ⟨by decide +kernel, rfl⟩
theorem D_6_tells_15 : Dec m_6_tells 15 (.getfield 58) 3 18 := ⟨by decide +kernel, rfl⟩
theorem D_6_tells_18 : Dec m_6_tells 18 (.iload_n 1) 1 19 := ⟨by decide +kernel, rfl⟩
theorem D_6_tells_19 : Dec m_6_tells 19 (.iload 4) 2 21 := ⟨by decide +kernel, rfl⟩
theorem D_6_tells_21 : Dec m_6_tells 21 (.iastore) 1 22 := ⟨by decide +kernel, rfl⟩
theorem D_6_tells_22 : Dec m_6_tells 22 (.aload_n 0) 1 23 := ⟨by decide +kernel, rfl⟩
theorem D_6_tells_23 : Dec m_6_tells 23 (.getfield 61) 3 26 := ⟨by decide +kernel, rfl⟩
theorem D_6_tells_26 : Dec m_6_tells 26 (.iload_n 1) 1 27 := ⟨by decide +kernel, rfl⟩
theorem D_6_tells_27 : Dec m_6_tells 27 (.iload 5) 2 29 := ⟨by decide +kernel, rfl⟩
theorem D_6_tells_29 : Dec m_6_tells 29 (.iastore) 1 30 := ⟨by decide +kernel, rfl⟩
theorem D_6_tells_30 : Dec m_6_tells 30 (.return_) 1 31 := ⟨by decide +kernel, rfl⟩
theorem D_6_here_0 : Dec m_6_here 0 (.aload_n 0) 1 1 := ⟨by decide +kernel, rfl⟩
theorem D_6_here_1 : Dec m_6_here 1 (.getfield 126) 3 4 := ⟨by decide +kernel, rfl⟩
theorem D_6_here_4 : Dec m_6_here 4 (.aload_n 0) 1 5 := ⟨by decide +kernel, rfl⟩
theorem D_6_here_5 : Dec m_6_here 5 (.getfield 121) 3 8 := ⟨by decide +kernel, rfl⟩
theorem D_6_here_8 : DecJ m_6_here 8 (.if_icmp .ge) 11 23 := ⟨15, by decide +kernel, rfl, rfl⟩
theorem D_6_here_11 : Dec m_6_here 11 (.aload_n 0) 1 12 := ⟨by decide +kernel, rfl⟩
theorem D_6_here_12 : Dec m_6_here 12 (.getfield 43) 3 15 := ⟨by decide +kernel, rfl⟩
theorem D_6_here_15 : Dec m_6_here 15 (.aload_n 0) 1 16 := ⟨by decide +kernel, rfl⟩
theorem D_6_here_16 : Dec m_6_here 16 (.getfield 126) 3 19 := ⟨by decide +kernel, rfl⟩
theorem D_6_here_19 : Dec m_6_here 19 (.iaload) 1 20 := ⟨by decide +kernel, rfl⟩
theorem D_6_here_20 : DecJ m_6_here 20 (.goto) 23 24 := ⟨4, by decide +kernel, rfl, rfl⟩
theorem D_6_here_23 : Dec m_6_here 23 (.iconst (-1)) 1 24 := ⟨by decide +kernel, rfl⟩
theorem D_6_here_24 : Dec m_6_here 24 (.ireturn) 1 25 := ⟨by decide +kernel, rfl⟩
theorem D_6_number_0 : Dec m_6_number 0 (.iconst (-1)) 1 1 := ⟨by decide +kernel, rfl⟩
theorem D_6_number_1 : Dec m_6_number 1 (.istore_n 2) 1 2 := ⟨by decide +kernel, rfl⟩
theorem D_6_number_2 : Dec m_6_number 2 (.iconst 0) 1 3 := ⟨by decide +kernel, rfl⟩
theorem D_6_number_3 : Dec m_6_number 3 (.istore_n 3) 1 4 := ⟨by decide +kernel, rfl⟩
theorem D_6_number_4 : Dec m_6_number 4 (.iload_n 3) 1 5 := ⟨by decide +kernel, rfl⟩
theorem D_6_number_5 : Dec m_6_number 5 (.iconst 2) 1 6 := ⟨by decide +kernel, rfl⟩
theorem D_6_number_6 : DecJ m_6_number 6 (.if_icmp .ge) 9 60 := ⟨54, by decide +kernel, rfl, rfl⟩
theorem D_6_number_9 : Dec m_6_number 9 (.aload_n 0) 1 10 := ⟨by decide +kernel, rfl⟩
theorem D_6_number_10 : Dec m_6_number 10 (.invokevirtual 135) 3 13 := ⟨by decide +kernel, rfl⟩
theorem D_6_number_13 : Dec m_6_number 13 (.bipush 48) 2 15 := ⟨by decide +kernel, rfl⟩
theorem D_6_number_15 : Dec m_6_number 15 (.bipush 57) 2 17 := ⟨by decide +kernel, rfl⟩
theorem D_6_number_17 : Dec m_6_number 17 (.invokestatic 111) 3 20 := ⟨by decide +kernel, rfl⟩
theorem D_6_number_20 : DecJ m_6_number 20 (.ifCond .eq) 23 60 := ⟨40, by decide +kernel, rfl, rfl⟩
theorem D_6_number_23 : Dec m_6_number 23 (.iload_n 3) 1 24 := ⟨by decide +kernel, rfl⟩
theorem D_6_number_24 : DecJ m_6_number 24 (.ifCond .ne) 27 31 := ⟨7, by decide +kernel, rfl, rfl⟩
theorem D_6_number_27 : Dec m_6_number 27 (.iconst 0) 1 28 := ⟨by decide +kernel, rfl⟩
theorem D_6_number_28 : DecJ m_6_number 28 (.goto) 31 35 := ⟨7, by decide +kernel, rfl, rfl⟩
theorem D_6_number_31 : Dec m_6_number 31 (.bipush 10) 2 33 := ⟨by decide +kernel, rfl⟩
theorem D_6_number_33 : Dec m_6_number 33 (.iload_n 2) 1 34 := ⟨by decide +kernel, rfl⟩
theorem D_6_number_34 : Dec m_6_number 34 (.imul) 1 35 := ⟨by decide +kernel, rfl⟩
theorem D_6_number_35 : Dec m_6_number 35 (.aload_n 0) 1 36 := ⟨by decide +kernel, rfl⟩
theorem D_6_number_36 : Dec m_6_number 36 (.invokevirtual 135) 3 39 := ⟨by decide +kernel, rfl⟩
theorem D_6_number_39 : Dec m_6_number 39 (.iadd) 1 40 := ⟨by decide +kernel, rfl⟩
theorem D_6_number_40 : Dec m_6_number 40 (.bipush 48) 2 42 := ⟨by decide +kernel, rfl⟩
theorem D_6_number_42 : Dec m_6_number 42 (.isub) 1 43 := ⟨by decide +kernel, rfl⟩
theorem D_6_number_43 : Dec m_6_number 43 (.istore_n 2) 1 44 := ⟨by decide +kernel, rfl⟩
theorem D_6_number_44 : Dec m_6_number 44 (.aload_n 0) 1 45 := ⟨by decide +kernel, rfl⟩
theorem D_6_number_45 : Dec m_6_number 45 (.dup) 1 46 := ⟨by decide +kernel, rfl⟩
theorem D_6_number_46 : Dec m_6_number 46 (.getfield 126) 3 49 := ⟨by decide +kernel, rfl⟩
theorem D_6_number_49 : Dec m_6_number 49 (.iconst 1) 1 50 := ⟨by decide +kernel, rfl⟩
theorem D_6_number_50 : Dec m_6_number 50 (.iadd) 1 51 := ⟨by decide +kernel, rfl⟩
theorem D_6_number_51 : Dec m_6_number 51 (.putfield 126) 3 54 := ⟨by decide +kernel, rfl⟩
theorem D_6_number_54 : Dec m_6_number 54 (.iinc 3 1) 3 57 := ⟨by decide +kernel, rfl⟩
theorem D_6_number_57 : DecJ m_6_number 57 (.goto) 60 4 := ⟨-53, by decide +kernel, rfl, rfl⟩
theorem D_6_number_60 : Dec m_6_number 60 (.iload_n 2) 1 61 := ⟨by decide +kernel, rfl⟩
theorem D_6_number_61 : DecJ m_6_number 61 (.ifCond .lt) 64 76 := ⟨15, by decide +kernel, rfl, rfl⟩
theorem D_6_number_64 : Dec m_6_number 64 (.aload_n 0) 1 65 := ⟨by decide +kernel, rfl⟩
theorem D_6_number_65 : Dec m_6_number 65 (.invokevirtual 135) 3 68 := ⟨by decide +kernel, rfl⟩
theorem D_6_number_68 : Dec m_6_number 68 (.iload_n 1) 1 69 := ⟨by decide +kernel, rfl⟩
theorem D_6_number_69 : DecJ m_6_number 69 (.if_icmp .ne) 72 76 := ⟨7, by decide +kernel, rfl, rfl⟩
theorem D_6_number_72 : Dec m_6_number 72 (.iconst 1) 1 73 := ⟨by decide +kernel, rfl⟩
theorem D_6_number_73 : DecJ m_6_number 73 (.goto) 76 77 := ⟨4, by decide +kernel, rfl, rfl⟩
theorem D_6_number_76 : Dec m_6_number 76 (.iconst 0) 1 77 := ⟨by decide +kernel, rfl⟩
theorem D_6_number_77 : Dec m_6_number 77 (.istore_n 3) 1 78 := ⟨by decide +kernel, rfl⟩
theorem D_6_number_78 : Dec m_6_number 78 (.aload_n 0) 1 79 := ⟨by decide +kernel, rfl⟩
theorem D_6_number_79 : Dec m_6_number 79 (.dup) 1 80 := ⟨by decide +kernel, rfl⟩
theorem D_6_number_80 : Dec m_6_number 80 (.getfield 126) 3 83 := ⟨by decide +kernel, rfl⟩
theorem D_6_number_83 : Dec m_6_number 83 (.iload_n 3) 1 84 := ⟨by decide +kernel, rfl⟩
theorem D_6_number_84 : DecJ m_6_number 84 (.ifCond .eq) 87 91 := ⟨7, by decide +kernel, rfl, rfl⟩
theorem D_6_number_87 : Dec m_6_number 87 (.iconst 1) 1 88 := ⟨by decide +kernel, rfl⟩
theorem D_6_number_88 : DecJ m_6_number 88 (.goto) 91 92 := ⟨4, by decide +kernel, rfl, rfl⟩
theorem D_6_number_91 : Dec m_6_number 91 (.iconst 0) 1 92 := ⟨by decide +kernel, rfl⟩
theorem D_6_number_92 : Dec m_6_number 92 (.iadd) 1 93 := ⟨by decide +kernel, rfl⟩
theorem D_6_number_93 : Dec m_6_number 93 (.putfield 126) 3 96 := ⟨by decide +kernel, rfl⟩
theorem D_6_number_96 : Dec m_6_number 96 (.iload_n 3) 1 97 := ⟨by decide +kernel, rfl⟩
theorem D_6_number_97 : DecJ m_6_number 97 (.ifCond .eq) 100 104 := ⟨7, by decide +kernel, rfl, rfl⟩
theorem D_6_number_100 : Dec m_6_number 100 (.iload_n 2) 1 101 := ⟨by decide +kernel, rfl⟩
theorem D_6_number_101 : DecJ m_6_number 101 (.goto) 104 105 := ⟨4, by decide +kernel, rfl, rfl⟩
theorem D_6_number_104 : Dec m_6_number 104 (.iconst (-1)) 1 105 := ⟨by decide +kernel, rfl⟩
theorem D_6_number_105 : Dec m_6_number 105 (.ireturn) 1 106 := ⟨by decide +kernel, rfl⟩
theorem D_6_isPersonItem_0 : Dec m_6_isPersonItem 0 (.aload_n 0) 1 1 := ⟨by decide +kernel, rfl⟩
theorem D_6_isPersonItem_1 : Dec m_6_isPersonItem 1 (.bipush 59) 2 3 := ⟨by decide +kernel, rfl⟩
theorem D_6_isPersonItem_3 : Dec m_6_isPersonItem 3 (.invokevirtual 139) 3 6 := ⟨by decide +kernel, rfl⟩
theorem D_6_isPersonItem_6 : Dec m_6_isPersonItem 6 (.istore_n 1) 1 7 := ⟨by decide +kernel, rfl⟩
theorem D_6_isPersonItem_7 : Dec m_6_isPersonItem 7 (.iload_n 1) 1 8 := ⟨by decide +kernel, rfl⟩
theorem D_6_isPersonItem_8 : Dec m_6_isPersonItem 8 (.iconst 1) 1 9 := ⟨by decide +kernel, rfl⟩
theorem D_6_isPersonItem_9 : Dec m_6_isPersonItem 9 (.bipush 9) 2 11 := ⟨by decide +kernel, rfl⟩
theorem D_6_isPersonItem_11 : Dec m_6_isPersonItem 11 (.invokestatic 111) 3 14 := ⟨by decide +kernel, rfl⟩
theorem D_6_isPersonItem_14 : DecJ m_6_isPersonItem 14 (.ifCond .eq) 17 25 := ⟨11, by decide +kernel, rfl, rfl⟩
theorem D_6_isPersonItem_17 : Dec m_6_isPersonItem 17 (.aload_n 0) 1 18 := ⟨by decide +kernel, rfl⟩
theorem D_6_isPersonItem_18 : Dec m_6_isPersonItem 18 (.getfield 91) 3 21 := ⟨by decide +kernel, rfl⟩
theorem D_6_isPersonItem_21 : Dec m_6_isPersonItem 21 (.iconst 5) 1 22 := ⟨by decide +kernel, rfl⟩
theorem D_6_isPersonItem_22 : DecJ m_6_isPersonItem 22 (.if_icmp .ne) 25 27 := ⟨5, by decide +kernel, rfl, rfl⟩
theorem D_6_isPersonItem_25 : Dec m_6_isPersonItem 25 (.iconst 0) 1 26 := ⟨by decide +kernel, rfl⟩
theorem D_6_isPersonItem_26 : Dec m_6_isPersonItem 26 (.ireturn) 1 27 := ⟨by decide +kernel, rfl⟩
theorem D_6_isPersonItem_27 : Dec m_6_isPersonItem 27 (.aload_n 0) 1 28 := ⟨by decide +kernel, rfl⟩
theorem D_6_isPersonItem_28 : Dec m_6_isPersonItem 28 (.getfield 46) 3 31 := ⟨by decide +kernel, rfl⟩
theorem D_6_isPersonItem_31 : Dec m_6_isPersonItem 31 (.aload_n 0) 1 32 := ⟨by decide +kernel, rfl⟩
theorem D_6_isPersonItem_32 : Dec m_6_isPersonItem 32 (.getfield 91) 3 35 := ⟨by decide +kernel, rfl⟩
theorem D_6_isPersonItem_35 : Dec m_6_isPersonItem 35 (.iload_n 1) 1 36 := ⟨by decide +kernel, rfl⟩
theorem D_6_isPersonItem_36 : Dec m_6_isPersonItem 36 (.iastore) 1 37 := ⟨by decide +kernel, rfl⟩
theorem D_6_isPersonItem_37 : Dec m_6_isPersonItem 37 (.aload_n 0) 1 38 := ⟨by decide +kernel, rfl⟩
theorem D_6_isPersonItem_38 : Dec m_6_isPersonItem 38 (.dup) 1 39 := ⟨by decide +kernel, rfl⟩
theorem D_6_isPersonItem_39 : Dec m_6_isPersonItem 39 (.getfield 91) 3 42 := ⟨by decide +kernel, rfl⟩
theorem D_6_isPersonItem_42 : Dec m_6_isPersonItem 42 (.iconst 1) 1 43 := ⟨by decide +kernel, rfl⟩
theorem D_6_isPersonItem_43 : Dec m_6_isPersonItem 43 (.iadd) 1 44 := ⟨by decide +kernel, rfl⟩
theorem D_6_isPersonItem_44 : Dec m_6_isPersonItem 44 (.putfield 91) 3 47 := ⟨by decide +kernel, rfl⟩
theorem D_6_isPersonItem_47 : Dec m_6_isPersonItem 47 (.iconst 1) 1 48 := ⟨by decide +kernel, rfl⟩
theorem D_6_isPersonItem_48 : Dec m_6_isPersonItem 48 (.ireturn) 1 49 := ⟨by decide +kernel, rfl⟩
theorem D_6_isGrainItem_0 : Dec m_6_isGrainItem 0 (.aload_n 0) 1 1 := ⟨by decide +kernel, rfl⟩
theorem D_6_isGrainItem_1 : Dec m_6_isGrainItem 1 (.bipush 59) 2 3 := ⟨by decide +kernel, rfl⟩
theorem D_6_isGrainItem_3 : Dec m_6_isGrainItem 3 (.invokevirtual 139) 3 6 := ⟨by decide +kernel, rfl⟩
theorem D_6_isGrainItem_6 : Dec m_6_isGrainItem 6 (.istore_n 1) 1 7 := ⟨by decide +kernel, rfl⟩
theorem D_6_isGrainItem_7 : Dec m_6_isGrainItem 7 (.iload_n 1) 1 8 := ⟨by decide +kernel, rfl⟩
theorem D_6_isGrainItem_8 : Dec m_6_isGrainItem 8 (.iconst 1) 1 9 := ⟨by decide +kernel, rfl⟩
theorem D_6_isGrainItem_9 : Dec m_6_isGrainItem 9 (.bipush 9) 2 11 := ⟨by decide +kernel, rfl⟩
theorem D_6_isGrainItem_11 : Dec m_6_isGrainItem 11 (.invokestatic 111) 3 14 := ⟨by decide +kernel, rfl⟩
theorem D_6_isGrainItem_14 : DecJ m_6_isGrainItem 14 (.ifCond .eq) 17 26 := ⟨12, by decide +kernel, rfl, rfl⟩
theorem D_6_isGrainItem_17 : Dec m_6_isGrainItem 17 (.aload_n 0) 1 18 := ⟨by decide +kernel, rfl⟩
theorem D_6_isGrainItem_18 : Dec m_6_isGrainItem 18 (.getfield 95) 3 21 := ⟨by decide +kernel, rfl⟩
theorem D_6_isGrainItem_21 : Dec m_6_isGrainItem 21 (.bipush 8) 2 23 := ⟨by decide +kernel, rfl⟩
theorem D_6_isGrainItem_23 : DecJ m_6_isGrainItem 23 (.if_icmp .ne) 26 28 := ⟨5, by decide +kernel, rfl, rfl⟩
theorem D_6_isGrainItem_26 : Dec m_6_isGrainItem 26 (.iconst 0) 1 27 := ⟨by decide +kernel, rfl⟩
theorem D_6_isGrainItem_27 : Dec m_6_isGrainItem 27 (.ireturn) 1 28 := ⟨by decide +kernel, rfl⟩
theorem D_6_isGrainItem_28 : Dec m_6_isGrainItem 28 (.aload_n 0) 1 29 := ⟨by decide +kernel, rfl⟩
theorem D_6_isGrainItem_29 : Dec m_6_isGrainItem 29 (.getfield 49) 3 32 := ⟨by decide +kernel, rfl⟩
theorem D_6_isGrainItem_32 : Dec m_6_isGrainItem 32 (.aload_n 0) 1 33 := ⟨by decide +kernel, rfl⟩
theorem D_6_isGrainItem_33 : Dec m_6_isGrainItem 33 (.getfield 95) 3 36 := ⟨by decide +kernel, rfl⟩
theorem D_6_isGrainItem_36 : Dec m_6_isGrainItem 36 (.iload_n 1) 1 37 := ⟨by decide +kernel, rfl⟩
theorem D_6_isGrainItem_37 : Dec m_6_isGrainItem 37 (.iastore) 1 38 := ⟨by decide +kernel, rfl⟩
theorem D_6_isGrainItem_38 : Dec m_6_isGrainItem 38 (.aload_n 0) 1 39 := ⟨by decide +kernel, rfl⟩
theorem D_6_isGrainItem_39 : Dec m_6_isGrainItem 39 (.dup) 1 40 := ⟨by decide +kernel, rfl⟩
theorem D_6_isGrainItem_40 : Dec m_6_isGrainItem 40 (.getfield 95) 3 43 := ⟨by decide +kernel, rfl⟩
theorem D_6_isGrainItem_43 : Dec m_6_isGrainItem 43 (.iconst 1) 1 44 := ⟨by decide +kernel, rfl⟩
theorem D_6_isGrainItem_44 : Dec m_6_isGrainItem 44 (.iadd) 1 45 := ⟨by decide +kernel, rfl⟩
theorem D_6_isGrainItem_45 : Dec m_6_isGrainItem 45 (.putfield 95) 3 48 := ⟨by decide +kernel, rfl⟩
theorem D_6_isGrainItem_48 : Dec m_6_isGrainItem 48 (.iconst 1) 1 49 := ⟨by decide +kernel, rfl⟩
theorem D_6_isGrainItem_49 : Dec m_6_isGrainItem 49 (.ireturn) 1 50 := ⟨by decide +kernel, rfl⟩
theorem D_6_isSayingItem_0 : Dec m_6_isSayingItem 0 (.aload_n 0) 1 1 := ⟨by decide +kernel, rfl⟩
theorem D_6_isSayingItem_1 : Dec m_6_isSayingItem 1 (.bipush 44) 2 3 := ⟨by decide +kernel, rfl⟩
theorem D_6_isSayingItem_3 : Dec m_6_isSayingItem 3 (.invokevirtual 139) 3 6 := ⟨by decide +kernel, rfl⟩
theorem D_6_isSayingItem_6 : Dec m_6_isSayingItem 6 (.istore_n 1) 1 7 := ⟨by decide +kernel, rfl⟩
theorem D_6_isSayingItem_7 : Dec m_6_isSayingItem 7 (.iload_n 1) 1 8 := ⟨by decide +kernel, rfl⟩
theorem D_6_isSayingItem_8 : Dec m_6_isSayingItem 8 (.iconst 0) 1 9 := ⟨by decide +kernel, rfl⟩
theorem D_6_isSayingItem_9 : Dec m_6_isSayingItem 9 (.aload_n 0) 1 10 := ⟨by decide +kernel, rfl⟩
theorem D_6_isSayingItem_10 : Dec m_6_isSayingItem 10 (.getfield 91) 3 13 := ⟨by decide +kernel, rfl⟩
theorem D_6_isSayingItem_13 : Dec m_6_isSayingItem 13 (.iconst 1) 1 14 := ⟨by decide +kernel, rfl⟩
theorem D_6_isSayingItem_14 : Dec m_6_isSayingItem 14 (.isub) 1 15 := ⟨by decide +kernel, rfl⟩
theorem D_6_isSayingItem_15 : Dec m_6_isSayingItem 15 (.invokestatic 111) 3 18 := ⟨by decide +kernel, rfl⟩
theorem D_6_isSayingItem_18 : DecJ m_6_isSayingItem 18 (.ifCond .ne) 21 23 := ⟨5, by decide +kernel, rfl, rfl⟩
theorem D_6_isSayingItem_21 : Dec m_6_isSayingItem 21 (.iconst 0) 1 22 := ⟨by decide +kernel, rfl⟩
theorem D_6_isSayingItem_22 : Dec m_6_isSayingItem 22 (.ireturn) 1 23 := ⟨by decide +kernel, rfl⟩
theorem D_6_isSayingItem_23 : Dec m_6_isSayingItem 23 (.aload_n 0) 1 24 := ⟨by decide +kernel, rfl⟩
theorem D_6_isSayingItem_24 : Dec m_6_isSayingItem 24 (.bipush 44) 2 26 := ⟨by decide +kernel, rfl⟩
theorem D_6_isSayingItem_26 : Dec m_6_isSayingItem 26 (.invokevirtual 139) 3 29 := ⟨by decide +kernel, rfl⟩
theorem D_6_isSayingItem_29 : Dec m_6_isSayingItem 29 (.istore_n 2) 1 30 := ⟨by decide +kernel, rfl⟩
theorem D_6_isSayingItem_30 : Dec m_6_isSayingItem 30 (.iload_n 2) 1 31 := ⟨by decide +kernel, rfl⟩
theorem D_6_isSayingItem_31 : Dec m_6_isSayingItem 31 (.iconst 1) 1 32 := ⟨by decide +kernel, rfl⟩
theorem D_6_isSayingItem_32 : Dec m_6_isSayingItem 32 (.bipush 60) 2 34 := ⟨by decide +kernel, rfl⟩
theorem D_6_isSayingItem_34 : Dec m_6_isSayingItem 34 (.invokestatic 111) 3 37 := ⟨by decide +kernel, rfl⟩
theorem D_6_isSayingItem_37 : DecJ m_6_isSayingItem 37 (.ifCond .ne) 40 42 := ⟨5, by decide +kernel, rfl, rfl⟩
theorem D_6_isSayingItem_40 : Dec m_6_isSayingItem 40 (.iconst 0) 1 41 := ⟨by decide +kernel, rfl⟩
theorem D_6_isSayingItem_41 : Dec m_6_isSayingItem 41 (.ireturn) 1 42 := ⟨by decide +kernel, rfl⟩
theorem D_6_isSayingItem_42 : Dec m_6_isSayingItem 42 (.aload_n 0) 1 43 := ⟨by decide +kernel, rfl⟩
theorem D_6_isSayingItem_43 : Dec m_6_isSayingItem 43 (.bipush 44) 2 45 := ⟨by decide +kernel, rfl⟩
theorem D_6_isSayingItem_45 : Dec m_6_isSayingItem 45 (.invokevirtual 139) 3 48 := ⟨by decide +kernel, rfl⟩
theorem D_6_isSayingItem_48 : Dec m_6_isSayingItem 48 (.istore_n 3) 1 49 := ⟨by decide +kernel, rfl⟩
theorem D_6_isSayingItem_49 : Dec m_6_isSayingItem 49 (.iload_n 3) 1 50 := ⟨by decide +kernel, rfl⟩
theorem D_6_isSayingItem_50 : DecJ m_6_isSayingItem 50 (.ifCond .ge) 53 55 := ⟨5, by decide +kernel, rfl, rfl⟩
theorem D_6_isSayingItem_53 : Dec m_6_isSayingItem 53 (.iconst 0) 1 54 := ⟨by decide +kernel, rfl⟩
theorem D_6_isSayingItem_54 : Dec m_6_isSayingItem 54 (.ireturn) 1 55 := ⟨by decide +kernel, rfl⟩
theorem D_6_isSayingItem_55 : Dec m_6_isSayingItem 55 (.aload_n 0) 1 56 := ⟨by decide +kernel, rfl⟩
theorem D_6_isSayingItem_56 : Dec m_6_isSayingItem 56 (.bipush 59) 2 58 := ⟨by decide +kernel, rfl⟩
theorem D_6_isSayingItem_58 : Dec m_6_isSayingItem 58 (.invokevirtual 139) 3 61 := ⟨by decide +kernel, rfl⟩
theorem D_6_isSayingItem_61 : Dec m_6_isSayingItem 61 (.istore 4) 2 63 := ⟨by decide +kernel, rfl⟩
theorem D_6_isSayingItem_63 : Dec m_6_isSayingItem 63 (.iload 4) 2 65 := ⟨by decide +kernel, rfl⟩
theorem D_6_isSayingItem_65 : Dec m_6_isSayingItem 65 (.bipush 99) 2 67 := ⟨by decide +kernel, rfl⟩
theorem D_6_isSayingItem_67 : DecJ m_6_isSayingItem 67 (.if_icmp .eq) 70 96 := ⟨29, by decide +kernel, rfl, rfl⟩
theorem D_6_isSayingItem_70 : Dec m_6_isSayingItem 70 (.iload 4) 2 72 := ⟨by decide +kernel, rfl⟩
theorem D_6_isSayingItem_72 : Dec m_6_isSayingItem 72 (.iconst 0) 1 73 := ⟨by decide +kernel, rfl⟩
theorem D_6_isSayingItem_73 : Dec m_6_isSayingItem 73 (.aload_n 0) 1 74 := ⟨by decide +kernel, rfl⟩
theorem D_6_isSayingItem_74 : Dec m_6_isSayingItem 74 (.getfield 98) 3 77 := ⟨by decide +kernel, rfl⟩
theorem D_6_isSayingItem_77 : Dec m_6_isSayingItem 77 (.iconst 1) 1 78 := ⟨by decide +kernel, rfl⟩
theorem D_6_isSayingItem_78 : Dec m_6_isSayingItem 78 (.isub) 1 79 := ⟨by decide +kernel, rfl⟩
theorem D_6_isSayingItem_79 : Dec m_6_isSayingItem 79 (.invokestatic 111) 3 82 := ⟨by decide +kernel, rfl⟩
theorem D_6_isSayingItem_82 : DecJ m_6_isSayingItem 82 (.ifCond .eq) 85 100 := ⟨18, by decide +kernel, rfl, rfl⟩
theorem D_6_isSayingItem_85 : Dec m_6_isSayingItem 85 (.aload_n 0) 1 86 := ⟨by decide +kernel, rfl⟩
theorem D_6_isSayingItem_86 : Dec m_6_isSayingItem 86 (.getfield 52) 3 89 := ⟨by decide +kernel, rfl⟩
theorem D_6_isSayingItem_89 : Dec m_6_isSayingItem 89 (.iload 4) 2 91 := ⟨by decide +kernel, rfl⟩
theorem D_6_isSayingItem_91 : Dec m_6_isSayingItem 91 (.iaload) 1 92 := ⟨by decide +kernel, rfl⟩
theorem D_6_isSayingItem_92 : Dec m_6_isSayingItem 92 (.iload_n 1) 1 93 := ⟨by decide +kernel, rfl⟩
theorem D_6_isSayingItem_93 : DecJ m_6_isSayingItem 93 (.if_icmp .eq) 96 100 := ⟨7, by decide +kernel, rfl, rfl⟩
theorem D_6_isSayingItem_96 : Dec m_6_isSayingItem 96 (.iconst 1) 1 97 := ⟨by decide +kernel, rfl⟩
theorem D_6_isSayingItem_97 : DecJ m_6_isSayingItem 97 (.goto) 100 101 := ⟨4, by decide +kernel, rfl, rfl⟩
theorem D_6_isSayingItem_100 : Dec m_6_isSayingItem 100 (.iconst 0) 1 101 := ⟨by decide +kernel, rfl⟩
theorem D_6_isSayingItem_101 : Dec m_6_isSayingItem 101 (.istore 5) 2 103 := ⟨by decide +kernel, rfl⟩
theorem D_6_isSayingItem_103 : Dec m_6_isSayingItem 103 (.iload 5) 2 105 := ⟨by decide +kernel, rfl⟩
theorem D_6_isSayingItem_105 : DecJ m_6_isSayingItem 105 (.ifCond .eq) 108 117 := ⟨12, by decide +kernel, rfl, rfl⟩
theorem D_6_isSayingItem_108 : Dec m_6_isSayingItem 108 (.aload_n 0) 1 109 := ⟨by decide +kernel, rfl⟩
theorem D_6_isSayingItem_109 : Dec m_6_isSayingItem 109 (.getfield 98) 3 112 := ⟨by decide +kernel, rfl⟩
theorem D_6_isSayingItem_112 : Dec m_6_isSayingItem 112 (.bipush 7) 2 114 := ⟨by decide +kernel, rfl⟩
theorem D_6_isSayingItem_114 : DecJ m_6_isSayingItem 114 (.if_icmp .ne) 117 119 := ⟨5, by decide +kernel, rfl, rfl⟩
theorem D_6_isSayingItem_117 : Dec m_6_isSayingItem 117 (.iconst 0) 1 118 := ⟨by decide +kernel, rfl⟩
theorem D_6_isSayingItem_118 : Dec m_6_isSayingItem 118 (.ireturn) 1 119 := ⟨by decide +kernel, rfl⟩
theorem D_6_isSayingItem_119 : Dec m_6_isSayingItem 119 (.aload_n 0) 1 120 := ⟨by decide +kernel, rfl⟩
theorem D_6_isSayingItem_120 : Dec m_6_isSayingItem 120 (.aload_n 0) 1 121 := ⟨by decide +kernel, rfl⟩
theorem D_6_isSayingItem_121 : Dec m_6_isSayingItem 121 (.getfield 98) 3 124 := ⟨by decide +kernel, rfl⟩
theorem D_6_isSayingItem_124 : Dec m_6_isSayingItem 124 (.iload_n 1) 1 125 := ⟨by decide +kernel, rfl⟩
theorem D_6_isSayingItem_125 : Dec m_6_isSayingItem 125 (.iload_n 2) 1 126 := ⟨by decide +kernel, rfl⟩
theorem D_6_isSayingItem_126 : Dec m_6_isSayingItem 126 (.iload_n 3) 1 127 := ⟨by decide +kernel, rfl⟩
theorem D_6_isSayingItem_127 : Dec m_6_isSayingItem 127 (.iload 4) 2 129 := ⟨by decide +kernel, rfl⟩
theorem D_6_isSayingItem_129 : Dec m_6_isSayingItem 129 (.bipush 99) 2 131 := ⟨by decide +kernel, rfl⟩
theorem D_6_isSayingItem_131 : DecJ m_6_isSayingItem 131 (.if_icmp .ne) 134 139 := ⟨8, by decide +kernel, rfl, rfl⟩
theorem D_6_isSayingItem_134 : Dec m_6_isSayingItem 134 (.bipush (-4)) 2 136 := ⟨by decide +kernel, rfl⟩
theorem D_6_isSayingItem_136 : DecJ m_6_isSayingItem 136 (.goto) 139 141 := ⟨5, by decide +kernel, rfl, rfl⟩
theorem D_6_isSayingItem_139 : Dec m_6_isSayingItem 139 (.iload 4) 2 141 := ⟨by decide +kernel, rfl⟩
theorem D_6_isSayingItem_141 : Dec m_6_isSayingItem 141 (.invokevirtual 101) 3 144 := ⟨by decide +kernel, rfl⟩
theorem D_6_isSayingItem_144 : Dec m_6_isSayingItem 144 (.aload_n 0) 1 145 := ⟨by decide +kernel, rfl⟩
theorem D_6_isSayingItem_145 : Dec m_6_isSayingItem 145 (.dup) 1 146 := ⟨by decide +kernel, rfl⟩
theorem D_6_isSayingItem_146 : Dec m_6_isSayingItem 146 (.getfield 98) 3 149 := ⟨by decide +kernel, rfl⟩
theorem D_6_isSayingItem_149 : Dec m_6_isSayingItem 149 (.iconst 1) 1 150 := ⟨by decide +kernel, rfl⟩
theorem D_6_isSayingItem_150 : Dec m_6_isSayingItem 150 (.iadd) 1 151 := ⟨by decide +kernel, rfl⟩
theorem D_6_isSayingItem_151 : Dec m_6_isSayingItem 151 (.putfield 98) 3 154 := ⟨by decide +kernel, rfl⟩
theorem D_6_isSayingItem_154 : Dec m_6_isSayingItem 154 (.iconst 1) 1 155 := ⟨by decide +kernel, rfl⟩
theorem D_6_isSayingItem_155 : Dec m_6_isSayingItem 155 (.ireturn) 1 156 := ⟨by decide +kernel, rfl⟩
theorem D_6_isDishItem_0 : Dec m_6_isDishItem 0 (.aload_n 0) 1 1 := ⟨by decide +kernel, rfl⟩
theorem D_6_isDishItem_1 : Dec m_6_isDishItem 1 (.bipush 44) 2 3 := ⟨by decide +kernel, rfl⟩
theorem D_6_isDishItem_3 : Dec m_6_isDishItem 3 (.invokevirtual 139) 3 6 := ⟨by decide +kernel, rfl⟩
theorem D_6_isDishItem_6 : Dec m_6_isDishItem 6 (.istore_n 1) 1 7 := ⟨by decide +kernel, rfl⟩
theorem D_6_isDishItem_7 : Dec m_6_isDishItem 7 (.iload_n 1) 1 8 := ⟨by decide +kernel, rfl⟩
theorem D_6_isDishItem_8 : Dec m_6_isDishItem 8 (.iconst 0) 1 9 := ⟨by decide +kernel, rfl⟩
theorem D_6_isDishItem_9 : Dec m_6_isDishItem 9 (.aload_n 0) 1 10 := ⟨by decide +kernel, rfl⟩
theorem D_6_isDishItem_10 : Dec m_6_isDishItem 10 (.getfield 91) 3 13 := ⟨by decide +kernel, rfl⟩
theorem D_6_isDishItem_13 : Dec m_6_isDishItem 13 (.iconst 1) 1 14 := ⟨by decide +kernel, rfl⟩
theorem D_6_isDishItem_14 : Dec m_6_isDishItem 14 (.isub) 1 15 := ⟨by decide +kernel, rfl⟩
theorem D_6_isDishItem_15 : Dec m_6_isDishItem 15 (.invokestatic 111) 3 18 := ⟨by decide +kernel, rfl⟩
theorem D_6_isDishItem_18 : DecJ m_6_isDishItem 18 (.ifCond .ne) 21 23 := ⟨5, by decide +kernel, rfl, rfl⟩
theorem D_6_isDishItem_21 : Dec m_6_isDishItem 21 (.iconst 0) 1 22 := ⟨by decide +kernel, rfl⟩
theorem D_6_isDishItem_22 : Dec m_6_isDishItem 22 (.ireturn) 1 23 := ⟨by decide +kernel, rfl⟩
theorem D_6_isDishItem_23 : Dec m_6_isDishItem 23 (.aload_n 0) 1 24 := ⟨by decide +kernel, rfl⟩
theorem D_6_isDishItem_24 : Dec m_6_isDishItem 24 (.bipush 59) 2 26 := ⟨by decide +kernel, rfl⟩
theorem D_6_isDishItem_26 : Dec m_6_isDishItem 26 (.invokevirtual 139) 3 29 := ⟨by decide +kernel, rfl⟩
theorem D_6_isDishItem_29 : Dec m_6_isDishItem 29 (.istore_n 2) 1 30 := ⟨by decide +kernel, rfl⟩
theorem D_6_isDishItem_30 : Dec m_6_isDishItem 30 (.iload_n 2) 1 31 := ⟨by decide +kernel, rfl⟩
theorem D_6_isDishItem_31 : Dec m_6_isDishItem 31 (.iconst 0) 1 32 := ⟨by decide +kernel, rfl⟩
theorem D_6_isDishItem_32 : Dec m_6_isDishItem 32 (.bipush 9) 2 34 := ⟨by decide +kernel, rfl⟩
theorem D_6_isDishItem_34 : Dec m_6_isDishItem 34 (.invokestatic 111) 3 37 := ⟨by decide +kernel, rfl⟩
theorem D_6_isDishItem_37 : DecJ m_6_isDishItem 37 (.ifCond .eq) 40 48 := ⟨11, by decide +kernel, rfl, rfl⟩
theorem D_6_isDishItem_40 : Dec m_6_isDishItem 40 (.aload_n 0) 1 41 := ⟨by decide +kernel, rfl⟩
theorem D_6_isDishItem_41 : Dec m_6_isDishItem 41 (.getfield 129) 3 44 := ⟨by decide +kernel, rfl⟩
theorem D_6_isDishItem_44 : Dec m_6_isDishItem 44 (.iconst 4) 1 45 := ⟨by decide +kernel, rfl⟩
theorem D_6_isDishItem_45 : DecJ m_6_isDishItem 45 (.if_icmp .ne) 48 50 := ⟨5, by decide +kernel, rfl, rfl⟩
theorem D_6_isDishItem_48 : Dec m_6_isDishItem 48 (.iconst 0) 1 49 := ⟨by decide +kernel, rfl⟩
theorem D_6_isDishItem_49 : Dec m_6_isDishItem 49 (.ireturn) 1 50 := ⟨by decide +kernel, rfl⟩
theorem D_6_isDishItem_50 : Dec m_6_isDishItem 50 (.aload_n 0) 1 51 := ⟨by decide +kernel, rfl⟩
theorem D_6_isDishItem_51 : Dec m_6_isDishItem 51 (.getfield 64) 3 54 := ⟨by decide +kernel, rfl⟩
theorem D_6_isDishItem_54 : Dec m_6_isDishItem 54 (.aload_n 0) 1 55 := ⟨by decide +kernel, rfl⟩
theorem D_6_isDishItem_55 : Dec m_6_isDishItem 55 (.getfield 129) 3 58 := ⟨by decide +kernel, rfl⟩
theorem D_6_isDishItem_58 : Dec m_6_isDishItem 58 (.iload_n 1) 1 59 := ⟨by decide +kernel, rfl⟩
theorem D_6_isDishItem_59 : Dec m_6_isDishItem 59 (.iastore) 1 60 := ⟨by decide +kernel, rfl⟩
theorem D_6_isDishItem_60 : Dec m_6_isDishItem 60 (.aload_n 0) 1 61 := ⟨by decide +kernel, rfl⟩
theorem D_6_isDishItem_61 : Dec m_6_isDishItem 61 (.getfield 67) 3 64 := ⟨by decide +kernel, rfl⟩
theorem D_6_isDishItem_64 : Dec m_6_isDishItem 64 (.aload_n 0) 1 65 := ⟨by decide +kernel, rfl⟩
theorem D_6_isDishItem_65 : Dec m_6_isDishItem 65 (.getfield 129) 3 68 := ⟨by decide +kernel, rfl⟩
theorem D_6_isDishItem_68 : Dec m_6_isDishItem 68 (.iload_n 2) 1 69 := ⟨by decide +kernel, rfl⟩
theorem D_6_isDishItem_69 : Dec m_6_isDishItem 69 (.iconst 5) 1 70 := ⟨by decide +kernel, rfl⟩
theorem D_6_isDishItem_70 : Dec m_6_isDishItem 70 (.isub) 1 71 := ⟨by decide +kernel, rfl⟩
theorem D_6_isDishItem_71 : Dec m_6_isDishItem 71 (.iastore) 1 72 := ⟨by decide +kernel, rfl⟩
theorem D_6_isDishItem_72 : Dec m_6_isDishItem 72 (.aload_n 0) 1 73 := ⟨by decide +kernel, rfl⟩
theorem D_6_isDishItem_73 : Dec m_6_isDishItem 73 (.dup) 1 74 := ⟨by decide +kernel, rfl⟩
theorem D_6_isDishItem_74 : Dec m_6_isDishItem 74 (.getfield 129) 3 77 := ⟨by decide +kernel, rfl⟩
theorem D_6_isDishItem_77 : Dec m_6_isDishItem 77 (.iconst 1) 1 78 := ⟨by decide +kernel, rfl⟩
theorem D_6_isDishItem_78 : Dec m_6_isDishItem 78 (.iadd) 1 79 := ⟨by decide +kernel, rfl⟩
theorem D_6_isDishItem_79 : Dec m_6_isDishItem 79 (.putfield 129) 3 82 := ⟨by decide +kernel, rfl⟩
theorem D_6_isDishItem_82 : Dec m_6_isDishItem 82 (.iconst 1) 1 83 := ⟨by decide +kernel, rfl⟩
theorem D_6_isDishItem_83 : Dec m_6_isDishItem 83 (.ireturn) 1 84 := ⟨by decide +kernel, rfl⟩
theorem D_6_isWaitItem_0 : Dec m_6_isWaitItem 0 (.aload_n 0) 1 1 := ⟨by decide +kernel, rfl⟩
theorem D_6_isWaitItem_1 : Dec m_6_isWaitItem 1 (.bipush 59) 2 3 := ⟨by decide +kernel, rfl⟩
theorem D_6_isWaitItem_3 : Dec m_6_isWaitItem 3 (.invokevirtual 139) 3 6 := ⟨by decide +kernel, rfl⟩
theorem D_6_isWaitItem_6 : Dec m_6_isWaitItem 6 (.istore_n 1) 1 7 := ⟨by decide +kernel, rfl⟩
theorem D_6_isWaitItem_7 : Dec m_6_isWaitItem 7 (.aload_n 0) 1 8 := ⟨by decide +kernel, rfl⟩
theorem D_6_isWaitItem_8 : Dec m_6_isWaitItem 8 (.iload_n 1) 1 9 := ⟨by decide +kernel, rfl⟩
theorem D_6_isWaitItem_9 : Dec m_6_isWaitItem 9 (.putfield 132) 3 12 := ⟨by decide +kernel, rfl⟩
theorem D_6_isWaitItem_12 : Dec m_6_isWaitItem 12 (.iload_n 1) 1 13 := ⟨by decide +kernel, rfl⟩
theorem D_6_isWaitItem_13 : DecJ m_6_isWaitItem 13 (.ifCond .lt) 16 20 := ⟨7, by decide +kernel, rfl, rfl⟩
theorem D_6_isWaitItem_16 : Dec m_6_isWaitItem 16 (.iconst 1) 1 17 := ⟨by decide +kernel, rfl⟩
theorem D_6_isWaitItem_17 : DecJ m_6_isWaitItem 17 (.goto) 20 21 := ⟨4, by decide +kernel, rfl, rfl⟩
theorem D_6_isWaitItem_20 : Dec m_6_isWaitItem 20 (.iconst 0) 1 21 := ⟨by decide +kernel, rfl⟩
theorem D_6_isWaitItem_21 : Dec m_6_isWaitItem 21 (.ireturn) 1 22 := ⟨by decide +kernel, rfl⟩
theorem D_6_isItem_0 : Dec m_6_isItem 0 (.aload_n 0) 1 1 := ⟨by decide +kernel, rfl⟩
theorem D_6_isItem_1 : Dec m_6_isItem 1 (.invokevirtual 135) 3 4 := ⟨by decide +kernel, rfl⟩
theorem D_6_isItem_4 : Dec m_6_isItem 4 (.istore_n 1) 1 5 := ⟨by decide +kernel, rfl⟩
theorem D_6_isItem_5 : Dec m_6_isItem 5 (.aload_n 0) 1 6 := ⟨by decide +kernel, rfl⟩
theorem D_6_isItem_6 : Dec m_6_isItem 6 (.dup) 1 7 := ⟨by decide +kernel, rfl⟩
theorem D_6_isItem_7 : Dec m_6_isItem 7 (.getfield 126) 3 10 := ⟨by decide +kernel, rfl⟩
theorem D_6_isItem_10 : Dec m_6_isItem 10 (.iconst 1) 1 11 := ⟨by decide +kernel, rfl⟩
theorem D_6_isItem_11 : Dec m_6_isItem 11 (.iadd) 1 12 := ⟨by decide +kernel, rfl⟩
theorem D_6_isItem_12 : Dec m_6_isItem 12 (.putfield 126) 3 15 := ⟨by decide +kernel, rfl⟩
theorem D_6_isItem_15 : Dec m_6_isItem 15 (.iload_n 1) 1 16 := ⟨by decide +kernel, rfl⟩
theorem D_6_isItem_16 : Dec m_6_isItem 16 (.lookupswitch 77 #[(97, 67), (100, 72), (103, 57), (112, 52), (119, 62)]) 52 68 := ⟨by decide +kernel, rfl⟩
theorem D_6_isItem_68 : Dec m_6_isItem 68 (.aload_n 0) 1 69 := ⟨by decide +kernel, rfl⟩
theorem D_6_isItem_69 : Dec m_6_isItem 69 (.invokevirtual 143) 3 72 := ⟨by decide +kernel, rfl⟩
theorem D_6_isItem_72 : Dec m_6_isItem 72 (.ireturn) 1 73 := ⟨by decide +kernel, rfl⟩
theorem D_6_isItem_73 : Dec m_6_isItem 73 (.aload_n 0) 1 74 := ⟨by decide +kernel, rfl⟩
theorem D_6_isItem_74 : Dec m_6_isItem 74 (.invokevirtual 147) 3 77 := ⟨by decide +kernel, rfl⟩
theorem D_6_isItem_77 : Dec m_6_isItem 77 (.ireturn) 1 78 := ⟨by decide +kernel, rfl⟩
theorem D_6_isItem_78 : Dec m_6_isItem 78 (.aload_n 0) 1 79 := ⟨by decide +kernel, rfl⟩
theorem D_6_isItem_79 : Dec m_6_isItem 79 (.invokevirtual 150) 3 82 := ⟨by decide +kernel, rfl⟩
theorem D_6_isItem_82 : Dec m_6_isItem 82 (.ireturn) 1 83 := ⟨by decide +kernel, rfl⟩
theorem D_6_isItem_83 : Dec m_6_isItem 83 (.aload_n 0) 1 84 := ⟨by decide +kernel, rfl⟩
theorem D_6_isItem_84 : Dec m_6_isItem 84 (.invokevirtual 153) 3 87 := ⟨by decide +kernel, rfl⟩
theorem D_6_isItem_87 : Dec m_6_isItem 87 (.ireturn) 1 88 := ⟨by decide +kernel, rfl⟩
theorem D_6_isItem_88 : Dec m_6_isItem 88 (.aload_n 0) 1 89 := ⟨by decide +kernel, rfl⟩
theorem D_6_isItem_89 : Dec m_6_isItem 89 (.invokevirtual 156) 3 92 := ⟨by decide +kernel, rfl⟩
theorem D_6_isItem_92 : Dec m_6_isItem 92 (.ireturn) 1 93 := ⟨by decide +kernel, rfl⟩
theorem D_6_isItem_93 : Dec m_6_isItem 93 (.iconst 0) 1 94 := ⟨by decide +kernel, rfl⟩
theorem D_6_isItem_94 : Dec m_6_isItem 94 (.ireturn) 1 95 := ⟨by decide +kernel, rfl⟩
theorem D_6_findFault_0 : Dec m_6_findFault 0 (.aload_n 0) 1 1 := ⟨by decide +kernel, rfl⟩
theorem D_6_findFault_1 : Dec m_6_findFault 1 (.invokevirtual 88) 3 4 := ⟨by decide +kernel, rfl⟩
theorem D_6_findFault_4 : Dec m_6_findFault 4 (.aload_n 0) 1 5 := ⟨by decide +kernel, rfl⟩
theorem D_6_findFault_5 : Dec m_6_findFault 5 (.getfield 126) 3 8 := ⟨by decide +kernel, rfl⟩
theorem D_6_findFault_8 : Dec m_6_findFault 8 (.aload_n 0) 1 9 := ⟨by decide +kernel, rfl⟩
theorem D_6_findFault_9 : Dec m_6_findFault 9 (.getfield 121) 3 12 := ⟨by decide +kernel, rfl⟩
theorem D_6_findFault_12 : DecJ m_6_findFault 12 (.if_icmp .ge) 15 32 := ⟨20, by decide +kernel, rfl, rfl⟩
theorem D_6_findFault_15 : Dec m_6_findFault 15 (.aload_n 0) 1 16 := ⟨by decide +kernel, rfl⟩
theorem D_6_findFault_16 : Dec m_6_findFault 16 (.getfield 126) 3 19 := ⟨by decide +kernel, rfl⟩
theorem D_6_findFault_19 : Dec m_6_findFault 19 (.istore_n 1) 1 20 := ⟨by decide +kernel, rfl⟩
theorem D_6_findFault_20 : Dec m_6_findFault 20 (.aload_n 0) 1 21 := ⟨by decide +kernel, rfl⟩
theorem D_6_findFault_21 : Dec m_6_findFault 21 (.invokevirtual 159) 3 24 := ⟨by decide +kernel, rfl⟩
theorem D_6_findFault_24 : DecJ m_6_findFault 24 (.ifCond .ne) 27 29 := ⟨5, by decide +kernel, rfl, rfl⟩
theorem D_6_findFault_27 : Dec m_6_findFault 27 (.iload_n 1) 1 28 := ⟨by decide +kernel, rfl⟩
theorem D_6_findFault_28 : Dec m_6_findFault 28 (.ireturn) 1 29 := ⟨by decide +kernel, rfl⟩
theorem D_6_findFault_29 : DecJ m_6_findFault 29 (.goto) 32 4 := ⟨-25, by decide +kernel, rfl, rfl⟩
theorem D_6_findFault_32 : Dec m_6_findFault 32 (.bipush (-4)) 2 34 := ⟨by decide +kernel, rfl⟩
theorem D_6_findFault_34 : Dec m_6_findFault 34 (.ireturn) 1 35 := ⟨by decide +kernel, rfl⟩
theorem D_6_fault_0 : Dec m_6_fault 0 (.aload_n 0) 1 1 := ⟨by decide +kernel, rfl⟩
theorem D_6_fault_1 : Dec m_6_fault 1 (.invokevirtual 162) 3 4 := ⟨by decide +kernel, rfl⟩
theorem D_6_fault_4 : Dec m_6_fault 4 (.ireturn) 1 5 := ⟨by decide +kernel, rfl⟩
theorem D_6_lays_0 : Dec m_6_lays 0 (.aload_n 0) 1 1 := ⟨by decide +kernel, rfl⟩
theorem D_6_lays_1 : Dec m_6_lays 1 (.aload_n 0) 1 2 := ⟨by decide +kernel, rfl⟩
theorem D_6_lays_2 : Dec m_6_lays 2 (.getfield 91) 3 5 := ⟨by decide +kernel, rfl⟩
theorem D_6_lays_5 : Dec m_6_lays 5 (.putfield 108) 3 8 := ⟨by decide +kernel, rfl⟩
theorem D_6_lays_8 : Dec m_6_lays 8 (.aload_n 0) 1 9 := ⟨by decide +kernel, rfl⟩
theorem D_6_lays_9 : Dec m_6_lays 9 (.aload_n 0) 1 10 := ⟨by decide +kernel, rfl⟩
theorem D_6_lays_10 : Dec m_6_lays 10 (.getfield 95) 3 13 := ⟨by decide +kernel, rfl⟩
theorem D_6_lays_13 : Dec m_6_lays 13 (.putfield 115) 3 16 := ⟨by decide +kernel, rfl⟩
theorem D_6_lays_16 : Dec m_6_lays 16 (.aload_n 0) 1 17 := ⟨by decide +kernel, rfl⟩
theorem D_6_lays_17 : Dec m_6_lays 17 (.aload_n 0) 1 18 := ⟨by decide +kernel, rfl⟩
theorem D_6_lays_18 : Dec m_6_lays 18 (.getfield 98) 3 21 := ⟨by decide +kernel, rfl⟩
theorem D_6_lays_21 : Dec m_6_lays 21 (.putfield 118) 3 24 := ⟨by decide +kernel, rfl⟩
theorem D_6_lays_24 : Dec m_6_lays 24 (.aload_n 0) 1 25 := ⟨by decide +kernel, rfl⟩
theorem D_6_lays_25 : Dec m_6_lays 25 (.aload_n 0) 1 26 := ⟨by decide +kernel, rfl⟩
theorem D_6_lays_26 : Dec m_6_lays 26 (.getfield 129) 3 29 := ⟨by decide +kernel, rfl⟩
theorem D_6_lays_29 : Dec m_6_lays 29 (.putfield 165) 3 32 := ⟨by decide +kernel, rfl⟩
theorem D_6_lays_32 : Dec m_6_lays 32 (.aload_n 0) 1 33 := ⟨by decide +kernel, rfl⟩
theorem D_6_lays_33 : Dec m_6_lays 33 (.aload_n 0) 1 34 := ⟨by decide +kernel, rfl⟩
theorem D_6_lays_34 : Dec m_6_lays 34 (.getfield 132) 3 37 := ⟨by decide +kernel, rfl⟩
theorem D_6_lays_37 : Dec m_6_lays 37 (.putfield 168) 3 40 := ⟨by decide +kernel, rfl⟩
theorem D_6_lays_40 : Dec m_6_lays 40 (.iconst 0) 1 41 := ⟨by decide +kernel, rfl⟩
theorem D_6_lays_41 : Dec m_6_lays 41 (.istore_n 1) 1 42 := ⟨by decide +kernel, rfl⟩
theorem D_6_lays_42 : Dec m_6_lays 42 (.iload_n 1) 1 43 := ⟨by decide +kernel, rfl⟩
theorem D_6_lays_43 : Dec m_6_lays 43 (.bipush 23) 2 45 := ⟨by decide +kernel, rfl⟩
theorem D_6_lays_45 : DecJ m_6_lays 45 (.if_icmp .ge) 48 61 := ⟨16, by decide +kernel, rfl, rfl⟩
theorem D_6_lays_48 : Dec m_6_lays 48 (.aload_n 0) 1 49 := ⟨by decide +kernel, rfl⟩
theorem D_6_lays_49 : Dec m_6_lays 49 (.getfield 34) 3 52 := ⟨by decide +kernel, rfl⟩
theorem D_6_lays_52 : Dec m_6_lays 52 (.iload_n 1) 1 53 := ⟨by decide +kernel, rfl⟩
theorem D_6_lays_53 : Dec m_6_lays 53 (.iconst 0) 1 54 := ⟨by decide +kernel, rfl⟩
theorem D_6_lays_54 : Dec m_6_lays 54 (.iastore) 1 55 := ⟨by decide +kernel, rfl⟩
theorem D_6_lays_55 : Dec m_6_lays 55 (.iinc 1 1) 3 58 := ⟨by decide +kernel, rfl⟩
theorem D_6_lays_58 : DecJ m_6_lays 58 (.goto) 61 42 := ⟨-16, by decide +kernel, rfl, rfl⟩
theorem D_6_lays_61 : Dec m_6_lays 61 (.aload_n 0) 1 62 := ⟨by decide +kernel, rfl⟩
theorem D_6_lays_62 : Dec m_6_lays 62 (.getfield 34) 3 65 := ⟨by decide +kernel, rfl⟩
theorem D_6_lays_65 : Dec m_6_lays 65 (.iconst 1) 1 66 := ⟨by decide +kernel, rfl⟩
theorem D_6_lays_66 : Dec m_6_lays 66 (.bipush (-4)) 2 68 := ⟨by decide +kernel, rfl⟩
theorem D_6_lays_68 : Dec m_6_lays 68 (.iastore) 1 69 := ⟨by decide +kernel, rfl⟩
theorem D_6_lays_69 : Dec m_6_lays 69 (.aload_n 0) 1 70 := ⟨by decide +kernel, rfl⟩
theorem D_6_lays_70 : Dec m_6_lays 70 (.getfield 34) 3 73 := ⟨by decide +kernel, rfl⟩
theorem D_6_lays_73 : Dec m_6_lays 73 (.iconst 3) 1 74 := ⟨by decide +kernel, rfl⟩
theorem D_6_lays_74 : Dec m_6_lays 74 (.iconst 1) 1 75 := ⟨by decide +kernel, rfl⟩
theorem D_6_lays_75 : Dec m_6_lays 75 (.aload_n 0) 1 76 := ⟨by decide +kernel, rfl⟩
theorem D_6_lays_76 : Dec m_6_lays 76 (.getfield 115) 3 79 := ⟨by decide +kernel, rfl⟩
theorem D_6_lays_79 : Dec m_6_lays 79 (.ishl) 1 80 := ⟨by decide +kernel, rfl⟩
theorem D_6_lays_80 : Dec m_6_lays 80 (.iconst 1) 1 81 := ⟨by decide +kernel, rfl⟩
theorem D_6_lays_81 : Dec m_6_lays 81 (.isub) 1 82 := ⟨by decide +kernel, rfl⟩
theorem D_6_lays_82 : Dec m_6_lays 82 (.iastore) 1 83 := ⟨by decide +kernel, rfl⟩
theorem D_6_lays_83 : Dec m_6_lays 83 (.iconst 0) 1 84 := ⟨by decide +kernel, rfl⟩
theorem D_6_lays_84 : Dec m_6_lays 84 (.istore_n 1) 1 85 := ⟨by decide +kernel, rfl⟩
theorem D_6_lays_85 : Dec m_6_lays 85 (.iload_n 1) 1 86 := ⟨by decide +kernel, rfl⟩
theorem D_6_lays_86 : Dec m_6_lays 86 (.aload_n 0) 1 87 := ⟨by decide +kernel, rfl⟩
theorem D_6_lays_87 : Dec m_6_lays 87 (.getfield 108) 3 90 := ⟨by decide +kernel, rfl⟩
theorem D_6_lays_90 : DecJ m_6_lays 90 (.if_icmp .ge) 93 126 := ⟨36, by decide +kernel, rfl, rfl⟩
theorem D_6_lays_93 : Dec m_6_lays 93 (.aload_n 0) 1 94 := ⟨by decide +kernel, rfl⟩
theorem D_6_lays_94 : Dec m_6_lays 94 (.getfield 7) 3 97 := ⟨by decide +kernel, rfl⟩
theorem D_6_lays_97 : Dec m_6_lays 97 (.iload_n 1) 1 98 := ⟨by decide +kernel, rfl⟩
theorem D_6_lays_98 : Dec m_6_lays 98 (.aload_n 0) 1 99 := ⟨by decide +kernel, rfl⟩
theorem D_6_lays_99 : Dec m_6_lays 99 (.getfield 46) 3 102 := ⟨by decide +kernel, rfl⟩
theorem D_6_lays_102 : Dec m_6_lays 102 (.iload_n 1) 1 103 := ⟨by decide +kernel, rfl⟩
theorem D_6_lays_103 : Dec m_6_lays 103 (.iaload) 1 104 := ⟨by decide +kernel, rfl⟩
theorem D_6_lays_104 : Dec m_6_lays 104 (.iastore) 1 105 := ⟨by decide +kernel, rfl⟩
theorem D_6_lays_105 : Dec m_6_lays 105 (.aload_n 0) 1 106 := ⟨by decide +kernel, rfl⟩
theorem D_6_lays_106 : Dec m_6_lays 106 (.getfield 34) 3 109 := ⟨by decide +kernel, rfl⟩
theorem D_6_lays_109 : Dec m_6_lays 109 (.bipush 11) 2 111 := ⟨by decide +kernel, rfl⟩
theorem D_6_lays_111 : Dec m_6_lays 111 (.iload_n 1) 1 112 := ⟨by decide +kernel, rfl⟩
theorem D_6_lays_112 : Dec m_6_lays 112 (.iadd) 1 113 := ⟨by decide +kernel, rfl⟩
theorem D_6_lays_113 : Dec m_6_lays 113 (.aload_n 0) 1 114 := ⟨by decide +kernel, rfl⟩
theorem D_6_lays_114 : Dec m_6_lays 114 (.getfield 46) 3 117 := ⟨by decide +kernel, rfl⟩
theorem D_6_lays_117 : Dec m_6_lays 117 (.iload_n 1) 1 118 := ⟨by decide +kernel, rfl⟩
theorem D_6_lays_118 : Dec m_6_lays 118 (.iaload) 1 119 := ⟨by decide +kernel, rfl⟩
theorem D_6_lays_119 : Dec m_6_lays 119 (.iastore) 1 120 := ⟨by decide +kernel, rfl⟩
theorem D_6_lays_120 : Dec m_6_lays 120 (.iinc 1 1) 3 123 := ⟨by decide +kernel, rfl⟩
theorem D_6_lays_123 : DecJ m_6_lays 123 (.goto) 126 85 := ⟨-38, by decide +kernel, rfl, rfl⟩
theorem D_6_lays_126 : Dec m_6_lays 126 (.iconst 0) 1 127 := ⟨by decide +kernel, rfl⟩
theorem D_6_lays_127 : Dec m_6_lays 127 (.istore_n 1) 1 128 := ⟨by decide +kernel, rfl⟩
theorem D_6_lays_128 : Dec m_6_lays 128 (.iload_n 1) 1 129 := ⟨by decide +kernel, rfl⟩
theorem D_6_lays_129 : Dec m_6_lays 129 (.aload_n 0) 1 130 := ⟨by decide +kernel, rfl⟩
theorem D_6_lays_130 : Dec m_6_lays 130 (.getfield 115) 3 133 := ⟨by decide +kernel, rfl⟩
theorem D_6_lays_133 : DecJ m_6_lays 133 (.if_icmp .ge) 136 154 := ⟨21, by decide +kernel, rfl, rfl⟩
theorem D_6_lays_136 : Dec m_6_lays 136 (.aload_n 0) 1 137 := ⟨by decide +kernel, rfl⟩
theorem D_6_lays_137 : Dec m_6_lays 137 (.getfield 13) 3 140 := ⟨by decide +kernel, rfl⟩
theorem D_6_lays_140 : Dec m_6_lays 140 (.iload_n 1) 1 141 := ⟨by decide +kernel, rfl⟩
theorem D_6_lays_141 : Dec m_6_lays 141 (.aload_n 0) 1 142 := ⟨by decide +kernel, rfl⟩
theorem D_6_lays_142 : Dec m_6_lays 142 (.getfield 49) 3 145 := ⟨by decide +kernel, rfl⟩
theorem D_6_lays_145 : Dec m_6_lays 145 (.iload_n 1) 1 146 := ⟨by decide +kernel, rfl⟩
theorem D_6_lays_146 : Dec m_6_lays 146 (.iaload) 1 147 := ⟨by decide +kernel, rfl⟩
theorem D_6_lays_147 : Dec m_6_lays 147 (.iastore) 1 148 := ⟨by decide +kernel, rfl⟩
theorem D_6_lays_148 : Dec m_6_lays 148 (.iinc 1 1) 3 151 := ⟨by decide +kernel, rfl⟩
theorem D_6_lays_151 : DecJ m_6_lays 151 (.goto) 154 128 := ⟨-23, by decide +kernel, rfl, rfl⟩
theorem D_6_lays_154 : Dec m_6_lays 154 (.iconst 0) 1 155 := ⟨by decide +kernel, rfl⟩
theorem D_6_lays_155 : Dec m_6_lays 155 (.istore_n 1) 1 156 := ⟨by decide +kernel, rfl⟩
theorem D_6_lays_156 : Dec m_6_lays 156 (.iload_n 1) 1 157 := ⟨by decide +kernel, rfl⟩
theorem D_6_lays_157 : Dec m_6_lays 157 (.bipush 7) 2 159 := ⟨by decide +kernel, rfl⟩
theorem D_6_lays_159 : DecJ m_6_lays 159 (.if_icmp .ge) 162 227 := ⟨68, by decide +kernel, rfl, rfl⟩
theorem D_6_lays_162 : Dec m_6_lays 162 (.aload_n 0) 1 163 := ⟨by decide +kernel, rfl⟩
theorem D_6_lays_163 : Dec m_6_lays 163 (.getfield 16) 3 166 := ⟨by decide +kernel, rfl⟩
theorem D_6_lays_166 : Dec m_6_lays 166 (.iload_n 1) 1 167 := ⟨by decide +kernel, rfl⟩
theorem D_6_lays_167 : Dec m_6_lays 167 (.aload_n 0) 1 168 := ⟨by decide +kernel, rfl⟩
theorem D_6_lays_168 : Dec m_6_lays 168 (.getfield 52) 3 171 := ⟨by decide +kernel, rfl⟩
theorem D_6_lays_171 : Dec m_6_lays 171 (.iload_n 1) 1 172 := ⟨by decide +kernel, rfl⟩
theorem D_6_lays_172 : Dec m_6_lays 172 (.iaload) 1 173 := ⟨by decide +kernel, rfl⟩
theorem D_6_lays_173 : Dec m_6_lays 173 (.iastore) 1 174 := ⟨by decide +kernel, rfl⟩
theorem D_6_lays_174 : Dec m_6_lays 174 (.aload_n 0) 1 175 := ⟨by decide +kernel, rfl⟩
theorem D_6_lays_175 : Dec m_6_lays 175 (.getfield 19) 3 178 := ⟨by decide +kernel, rfl⟩
theorem D_6_lays_178 : Dec m_6_lays 178 (.iload_n 1) 1 179 := ⟨by decide +kernel, rfl⟩
theorem D_6_lays_179 : Dec m_6_lays 179 (.aload_n 0) 1 180 := ⟨by decide +kernel, rfl⟩
theorem D_6_lays_180 : Dec m_6_lays 180 (.getfield 55) 3 183 := ⟨by decide +kernel, rfl⟩
theorem D_6_lays_183 : Dec m_6_lays 183 (.iload_n 1) 1 184 := ⟨by decide +kernel, rfl⟩
theorem D_6_lays_184 : Dec m_6_lays 184 (.iaload) 1 185 := ⟨by decide +kernel, rfl⟩
theorem D_6_lays_185 : Dec m_6_lays 185 (.iastore) 1 186 := ⟨by decide +kernel, rfl⟩
theorem D_6_lays_186 : Dec m_6_lays 186 (.aload_n 0) 1 187 := ⟨by decide +kernel, rfl⟩
theorem D_6_lays_187 : Dec m_6_lays 187 (.getfield 22) 3 190 := ⟨by decide +kernel, rfl⟩
theorem D_6_lays_190 : Dec m_6_lays 190 (.iload_n 1) 1 191 := ⟨by decide +kernel, rfl⟩
theorem D_6_lays_191 : Dec m_6_lays 191 (.aload_n 0) 1 192 := ⟨by decide +kernel, rfl⟩
theorem D_6_lays_192 : Dec m_6_lays 192 (.getfield 58) 3 195 := ⟨by decide +kernel, rfl⟩
theorem D_6_lays_195 : Dec m_6_lays 195 (.iload_n 1) 1 196 := ⟨by decide +kernel, rfl⟩
theorem D_6_lays_196 : Dec m_6_lays 196 (.iaload) 1 197 := ⟨by decide +kernel, rfl⟩
theorem D_6_lays_197 : Dec m_6_lays 197 (.iastore) 1 198 := ⟨by decide +kernel, rfl⟩
theorem D_6_lays_198 : Dec m_6_lays 198 (.aload_n 0) 1 199 := ⟨by decide +kernel, rfl⟩
theorem D_6_lays_199 : Dec m_6_lays 199 (.getfield 25) 3 202 := ⟨by decide +kernel, rfl⟩
theorem D_6_lays_202 : Dec m_6_lays 202 (.iload_n 1) 1 203 := ⟨by decide +kernel, rfl⟩
theorem D_6_lays_203 : Dec m_6_lays 203 (.aload_n 0) 1 204 := ⟨by decide +kernel, rfl⟩
theorem D_6_lays_204 : Dec m_6_lays 204 (.getfield 61) 3 207 := ⟨by decide +kernel, rfl⟩
theorem D_6_lays_207 : Dec m_6_lays 207 (.iload_n 1) 1 208 := ⟨by decide +kernel, rfl⟩
theorem D_6_lays_208 : Dec m_6_lays 208 (.iaload) 1 209 := ⟨by decide +kernel, rfl⟩
theorem D_6_lays_209 : Dec m_6_lays 209 (.iastore) 1 210 := ⟨by decide +kernel, rfl⟩
theorem D_6_lays_210 : Dec m_6_lays 210 (.aload_n 0) 1 211 := ⟨by decide +kernel, rfl⟩
theorem D_6_lays_211 : Dec m_6_lays 211 (.getfield 34) 3 214 := ⟨by decide +kernel, rfl⟩
theorem D_6_lays_214 : Dec m_6_lays 214 (.bipush 16) 2 216 := ⟨by decide +kernel, rfl⟩
theorem D_6_lays_216 : Dec m_6_lays 216 (.iload_n 1) 1 217 := ⟨by decide +kernel, rfl⟩
theorem D_6_lays_217 : Dec m_6_lays 217 (.iadd) 1 218 := ⟨by decide +kernel, rfl⟩
theorem D_6_lays_218 : Dec m_6_lays 218 (.bipush (-4)) 2 220 := ⟨by decide +kernel, rfl⟩
theorem D_6_lays_220 : Dec m_6_lays 220 (.iastore) 1 221 := ⟨by decide +kernel, rfl⟩
theorem D_6_lays_221 : Dec m_6_lays 221 (.iinc 1 1) 3 224 := ⟨by decide +kernel, rfl⟩
theorem D_6_lays_224 : DecJ m_6_lays 224 (.goto) 227 156 := ⟨-68, by decide +kernel, rfl, rfl⟩
theorem D_6_lays_227 : Dec m_6_lays 227 (.iconst 0) 1 228 := ⟨by decide +kernel, rfl⟩
theorem D_6_lays_228 : Dec m_6_lays 228 (.istore_n 1) 1 229 := ⟨by decide +kernel, rfl⟩
theorem D_6_lays_229 : Dec m_6_lays 229 (.iload_n 1) 1 230 := ⟨by decide +kernel, rfl⟩
theorem D_6_lays_230 : Dec m_6_lays 230 (.iconst 4) 1 231 := ⟨by decide +kernel, rfl⟩
theorem D_6_lays_231 : DecJ m_6_lays 231 (.if_icmp .ge) 234 264 := ⟨33, by decide +kernel, rfl, rfl⟩
theorem D_6_lays_234 : Dec m_6_lays 234 (.aload_n 0) 1 235 := ⟨by decide +kernel, rfl⟩
theorem D_6_lays_235 : Dec m_6_lays 235 (.getfield 28) 3 238 := ⟨by decide +kernel, rfl⟩
theorem D_6_lays_238 : Dec m_6_lays 238 (.iload_n 1) 1 239 := ⟨by decide +kernel, rfl⟩
theorem D_6_lays_239 : Dec m_6_lays 239 (.aload_n 0) 1 240 := ⟨by decide +kernel, rfl⟩
theorem D_6_lays_240 : Dec m_6_lays 240 (.getfield 64) 3 243 := ⟨by decide +kernel, rfl⟩
theorem D_6_lays_243 : Dec m_6_lays 243 (.iload_n 1) 1 244 := ⟨by decide +kernel, rfl⟩
theorem D_6_lays_244 : Dec m_6_lays 244 (.iaload) 1 245 := ⟨by decide +kernel, rfl⟩
theorem D_6_lays_245 : Dec m_6_lays 245 (.iastore) 1 246 := ⟨by decide +kernel, rfl⟩
theorem D_6_lays_246 : Dec m_6_lays 246 (.aload_n 0) 1 247 := ⟨by decide +kernel, rfl⟩
theorem D_6_lays_247 : Dec m_6_lays 247 (.getfield 31) 3 250 := ⟨by decide +kernel, rfl⟩
theorem D_6_lays_250 : Dec m_6_lays 250 (.iload_n 1) 1 251 := ⟨by decide +kernel, rfl⟩
theorem D_6_lays_251 : Dec m_6_lays 251 (.aload_n 0) 1 252 := ⟨by decide +kernel, rfl⟩
theorem D_6_lays_252 : Dec m_6_lays 252 (.getfield 67) 3 255 := ⟨by decide +kernel, rfl⟩
theorem D_6_lays_255 : Dec m_6_lays 255 (.iload_n 1) 1 256 := ⟨by decide +kernel, rfl⟩
theorem D_6_lays_256 : Dec m_6_lays 256 (.iaload) 1 257 := ⟨by decide +kernel, rfl⟩
theorem D_6_lays_257 : Dec m_6_lays 257 (.iastore) 1 258 := ⟨by decide +kernel, rfl⟩
theorem D_6_lays_258 : Dec m_6_lays 258 (.iinc 1 1) 3 261 := ⟨by decide +kernel, rfl⟩
theorem D_6_lays_261 : DecJ m_6_lays 261 (.goto) 264 229 := ⟨-32, by decide +kernel, rfl, rfl⟩
theorem D_6_lays_264 : Dec m_6_lays 264 (.aload_n 0) 1 265 := ⟨by decide +kernel, rfl⟩
theorem D_6_lays_265 : Dec m_6_lays 265 (.iconst 0) 1 266 := ⟨by decide +kernel, rfl⟩
theorem D_6_lays_266 : Dec m_6_lays 266 (.putfield 171) 3 269 := ⟨by decide +kernel, rfl⟩
theorem D_6_lays_269 : Dec m_6_lays 269 (.aload_n 0) 1 270 := ⟨by decide +kernel, rfl⟩
theorem D_6_lays_270 : Dec m_6_lays 270 (.iconst 0) 1 271 := ⟨by decide +kernel, rfl⟩
theorem D_6_lays_271 : Dec m_6_lays 271 (.putfield 174) 3 274 := ⟨by decide +kernel, rfl⟩
theorem D_6_lays_274 : Dec m_6_lays 274 (.return_) 1 275 := ⟨by decide +kernel, rfl⟩
theorem D_6_lay_0 : Dec m_6_lay 0 (.aload_n 0) 1 1 := ⟨by decide +kernel, rfl⟩
theorem D_6_lay_1 : Dec m_6_lay 1 (.invokevirtual 162) 3 4 := ⟨by decide +kernel, rfl⟩
theorem D_6_lay_4 : Dec m_6_lay 4 (.bipush (-4)) 2 6 := ⟨by decide +kernel, rfl⟩
theorem D_6_lay_6 : DecJ m_6_lay 6 (.if_icmp .ne) 9 23 := ⟨17, by decide +kernel, rfl, rfl⟩
theorem D_6_lay_9 : Dec m_6_lay 9 (.aload_n 0) 1 10 := ⟨by decide +kernel, rfl⟩
theorem D_6_lay_10 : Dec m_6_lay 10 (.getfield 91) 3 13 := ⟨by decide +kernel, rfl⟩
theorem D_6_lay_13 : DecJ m_6_lay 13 (.ifCond .eq) 16 23 := ⟨10, by decide +kernel, rfl, rfl⟩
theorem D_6_lay_16 : Dec m_6_lay 16 (.aload_n 0) 1 17 := ⟨by decide +kernel, rfl⟩
theorem D_6_lay_17 : Dec m_6_lay 17 (.getfield 95) 3 20 := ⟨by decide +kernel, rfl⟩
theorem D_6_lay_20 : DecJ m_6_lay 20 (.ifCond .ne) 23 26 := ⟨6, by decide +kernel, rfl, rfl⟩
theorem D_6_lay_23 : Dec m_6_lay 23 (.bipush (-2)) 2 25 := ⟨by decide +kernel, rfl⟩
theorem D_6_lay_25 : Dec m_6_lay 25 (.ireturn) 1 26 := ⟨by decide +kernel, rfl⟩
end
section
theorem D_6_lay_26 : Dec m_6_lay 26 (.aload_n 0) 1 27 := ⟨by decide +kernel, rfl⟩
theorem D_6_lay_27 : Dec m_6_lay 27 (.invokevirtual 105) 3 30 := ⟨by decide +kernel, rfl⟩
theorem D_6_lay_30 : Dec m_6_lay 30 (.aload_n 0) 1 31 := ⟨by decide +kernel, rfl⟩
theorem D_6_lay_31 : Dec m_6_lay 31 (.getfield 108) 3 34 := ⟨by decide +kernel, rfl⟩
theorem D_6_lay_34 : Dec m_6_lay 34 (.ireturn) 1 35 := ⟨by decide +kernel, rfl⟩
theorem D_6_shareOf_0 : Dec m_6_shareOf 0 (.iconst 0) 1 1 := ⟨by decide +kernel, rfl⟩
theorem D_6_shareOf_1 : Dec m_6_shareOf 1 (.istore_n 2) 1 2 := ⟨by decide +kernel, rfl⟩
theorem D_6_shareOf_2 : Dec m_6_shareOf 2 (.iconst 0) 1 3 := ⟨by decide +kernel, rfl⟩
theorem D_6_shareOf_3 : Dec m_6_shareOf 3 (.istore_n 3) 1 4 := ⟨by decide +kernel, rfl⟩
theorem D_6_shareOf_4 : Dec m_6_shareOf 4 (.iload_n 3) 1 5 := ⟨by decide +kernel, rfl⟩
theorem D_6_shareOf_5 : Dec m_6_shareOf 5 (.aload_n 0) 1 6 := ⟨by decide +kernel, rfl⟩
theorem D_6_shareOf_6 : Dec m_6_shareOf 6 (.getfield 118) 3 9 := ⟨by decide +kernel, rfl⟩
theorem D_6_shareOf_9 : DecJ m_6_shareOf 9 (.if_icmp .ge) 12 54 := ⟨45, by decide +kernel, rfl, rfl⟩
theorem D_6_shareOf_12 : Dec m_6_shareOf 12 (.iload_n 2) 1 13 := ⟨by decide +kernel, rfl⟩
theorem D_6_shareOf_13 : Dec m_6_shareOf 13 (.aload_n 0) 1 14 := ⟨by decide +kernel, rfl⟩
theorem D_6_shareOf_14 : Dec m_6_shareOf 14 (.getfield 34) 3 17 := ⟨by decide +kernel, rfl⟩
theorem D_6_shareOf_17 : Dec m_6_shareOf 17 (.iconst 4) 1 18 := ⟨by decide +kernel, rfl⟩
theorem D_6_shareOf_18 : Dec m_6_shareOf 18 (.iaload) 1 19 := ⟨by decide +kernel, rfl⟩
theorem D_6_shareOf_19 : Dec m_6_shareOf 19 (.iload_n 3) 1 20 := ⟨by decide +kernel, rfl⟩
theorem D_6_shareOf_20 : Dec m_6_shareOf 20 (.invokestatic 177) 3 23 := ⟨by decide +kernel, rfl⟩
theorem D_6_shareOf_23 : DecJ m_6_shareOf 23 (.ifCond .eq) 26 45 := ⟨22, by decide +kernel, rfl, rfl⟩
theorem D_6_shareOf_26 : Dec m_6_shareOf 26 (.aload_n 0) 1 27 := ⟨by decide +kernel, rfl⟩
theorem D_6_shareOf_27 : Dec m_6_shareOf 27 (.getfield 16) 3 30 := ⟨by decide +kernel, rfl⟩
theorem D_6_shareOf_30 : Dec m_6_shareOf 30 (.iload_n 3) 1 31 := ⟨by decide +kernel, rfl⟩
theorem D_6_shareOf_31 : Dec m_6_shareOf 31 (.iaload) 1 32 := ⟨by decide +kernel, rfl⟩
theorem D_6_shareOf_32 : Dec m_6_shareOf 32 (.iload_n 1) 1 33 := ⟨by decide +kernel, rfl⟩
theorem D_6_shareOf_33 : DecJ m_6_shareOf 33 (.if_icmp .ne) 36 45 := ⟨12, by decide +kernel, rfl, rfl⟩
theorem D_6_shareOf_36 : Dec m_6_shareOf 36 (.aload_n 0) 1 37 := ⟨by decide +kernel, rfl⟩
theorem D_6_shareOf_37 : Dec m_6_shareOf 37 (.getfield 19) 3 40 := ⟨by decide +kernel, rfl⟩
theorem D_6_shareOf_40 : Dec m_6_shareOf 40 (.iload_n 3) 1 41 := ⟨by decide +kernel, rfl⟩
theorem D_6_shareOf_41 : Dec m_6_shareOf 41 (.iaload) 1 42 := ⟨by decide +kernel, rfl⟩
theorem D_6_shareOf_42 : DecJ m_6_shareOf 42 (.goto) 45 46 := ⟨4, by decide +kernel, rfl, rfl⟩
theorem D_6_shareOf_45 : Dec m_6_shareOf 45 (.iconst 0) 1 46 := ⟨by decide +kernel, rfl⟩
theorem D_6_shareOf_46 : Dec m_6_shareOf 46 (.iadd) 1 47 := ⟨by decide +kernel, rfl⟩
theorem D_6_shareOf_47 : Dec m_6_shareOf 47 (.istore_n 2) 1 48 := ⟨by decide +kernel, rfl⟩
theorem D_6_shareOf_48 : Dec m_6_shareOf 48 (.iinc 3 1) 3 51 := ⟨by decide +kernel, rfl⟩
theorem D_6_shareOf_51 : DecJ m_6_shareOf 51 (.goto) 54 4 := ⟨-47, by decide +kernel, rfl, rfl⟩
theorem D_6_shareOf_54 : Dec m_6_shareOf 54 (.iload_n 2) 1 55 := ⟨by decide +kernel, rfl⟩
theorem D_6_shareOf_55 : Dec m_6_shareOf 55 (.ireturn) 1 56 := ⟨by decide +kernel, rfl⟩
theorem D_6_person_0 : Dec m_6_person 0 (.aload_n 0) 1 1 := ⟨by decide +kernel, rfl⟩
theorem D_6_person_1 : Dec m_6_person 1 (.iload_n 1) 1 2 := ⟨by decide +kernel, rfl⟩
theorem D_6_person_2 : Dec m_6_person 2 (.invokevirtual 181) 3 5 := ⟨by decide +kernel, rfl⟩
theorem D_6_person_5 : DecJ m_6_person 5 (.ifCond .eq) 8 17 := ⟨12, by decide +kernel, rfl, rfl⟩
theorem D_6_person_8 : Dec m_6_person 8 (.iload_n 2) 1 9 := ⟨by decide +kernel, rfl⟩
theorem D_6_person_9 : Dec m_6_person 9 (.iconst 0) 1 10 := ⟨by decide +kernel, rfl⟩
theorem D_6_person_10 : Dec m_6_person 10 (.iconst 2) 1 11 := ⟨by decide +kernel, rfl⟩
theorem D_6_person_11 : Dec m_6_person 11 (.invokestatic 111) 3 14 := ⟨by decide +kernel, rfl⟩
theorem D_6_person_14 : DecJ m_6_person 14 (.ifCond .ne) 17 19 := ⟨5, by decide +kernel, rfl, rfl⟩
theorem D_6_person_17 : Dec m_6_person 17 (.iconst (-1)) 1 18 := ⟨by decide +kernel, rfl⟩
theorem D_6_person_18 : Dec m_6_person 18 (.ireturn) 1 19 := ⟨by decide +kernel, rfl⟩
theorem D_6_person_19 : Dec m_6_person 19 (.iload_n 2) 1 20 := ⟨by decide +kernel, rfl⟩
theorem D_6_person_20 : DecJ m_6_person 20 (.ifCond .ne) 23 35 := ⟨15, by decide +kernel, rfl, rfl⟩
theorem D_6_person_23 : Dec m_6_person 23 (.aload_n 0) 1 24 := ⟨by decide +kernel, rfl⟩
theorem D_6_person_24 : Dec m_6_person 24 (.getfield 34) 3 27 := ⟨by decide +kernel, rfl⟩
theorem D_6_person_27 : Dec m_6_person 27 (.bipush 11) 2 29 := ⟨by decide +kernel, rfl⟩
theorem D_6_person_29 : Dec m_6_person 29 (.iload_n 1) 1 30 := ⟨by decide +kernel, rfl⟩
theorem D_6_person_30 : Dec m_6_person 30 (.iadd) 1 31 := ⟨by decide +kernel, rfl⟩
theorem D_6_person_31 : Dec m_6_person 31 (.iaload) 1 32 := ⟨by decide +kernel, rfl⟩
theorem D_6_person_32 : DecJ m_6_person 32 (.goto) 35 57 := ⟨25, by decide +kernel, rfl, rfl⟩
theorem D_6_person_35 : Dec m_6_person 35 (.iload_n 2) 1 36 := ⟨by decide +kernel, rfl⟩
theorem D_6_person_36 : Dec m_6_person 36 (.iconst 1) 1 37 := ⟨by decide +kernel, rfl⟩
theorem D_6_person_37 : DecJ m_6_person 37 (.if_icmp .ne) 40 48 := ⟨11, by decide +kernel, rfl, rfl⟩
theorem D_6_person_40 : Dec m_6_person 40 (.aload_n 0) 1 41 := ⟨by decide +kernel, rfl⟩
theorem D_6_person_41 : Dec m_6_person 41 (.iload_n 1) 1 42 := ⟨by decide +kernel, rfl⟩
theorem D_6_person_42 : Dec m_6_person 42 (.invokevirtual 185) 3 45 := ⟨by decide +kernel, rfl⟩
theorem D_6_person_45 : DecJ m_6_person 45 (.goto) 48 57 := ⟨12, by decide +kernel, rfl, rfl⟩
theorem D_6_person_48 : Dec m_6_person 48 (.aload_n 0) 1 49 := ⟨by decide +kernel, rfl⟩
theorem D_6_person_49 : Dec m_6_person 49 (.getfield 34) 3 52 := ⟨by decide +kernel, rfl⟩
theorem D_6_person_52 : Dec m_6_person 52 (.bipush 6) 2 54 := ⟨by decide +kernel, rfl⟩
theorem D_6_person_54 : Dec m_6_person 54 (.iload_n 1) 1 55 := ⟨by decide +kernel, rfl⟩
theorem D_6_person_55 : Dec m_6_person 55 (.iadd) 1 56 := ⟨by decide +kernel, rfl⟩
theorem D_6_person_56 : Dec m_6_person 56 (.iaload) 1 57 := ⟨by decide +kernel, rfl⟩
theorem D_6_person_57 : Dec m_6_person 57 (.ireturn) 1 58 := ⟨by decide +kernel, rfl⟩
theorem D_6_saying_0 : Dec m_6_saying 0 (.aload_n 0) 1 1 := ⟨by decide +kernel, rfl⟩
theorem D_6_saying_1 : Dec m_6_saying 1 (.iload_n 1) 1 2 := ⟨by decide +kernel, rfl⟩
theorem D_6_saying_2 : Dec m_6_saying 2 (.invokevirtual 188) 3 5 := ⟨by decide +kernel, rfl⟩
theorem D_6_saying_5 : DecJ m_6_saying 5 (.ifCond .eq) 8 17 := ⟨12, by decide +kernel, rfl, rfl⟩
theorem D_6_saying_8 : Dec m_6_saying 8 (.iload_n 2) 1 9 := ⟨by decide +kernel, rfl⟩
theorem D_6_saying_9 : Dec m_6_saying 9 (.iconst 0) 1 10 := ⟨by decide +kernel, rfl⟩
theorem D_6_saying_10 : Dec m_6_saying 10 (.iconst 4) 1 11 := ⟨by decide +kernel, rfl⟩
theorem D_6_saying_11 : Dec m_6_saying 11 (.invokestatic 111) 3 14 := ⟨by decide +kernel, rfl⟩
theorem D_6_saying_14 : DecJ m_6_saying 14 (.ifCond .ne) 17 19 := ⟨5, by decide +kernel, rfl, rfl⟩
theorem D_6_saying_17 : Dec m_6_saying 17 (.iconst (-1)) 1 18 := ⟨by decide +kernel, rfl⟩
theorem D_6_saying_18 : Dec m_6_saying 18 (.ireturn) 1 19 := ⟨by decide +kernel, rfl⟩
theorem D_6_saying_19 : Dec m_6_saying 19 (.iload_n 2) 1 20 := ⟨by decide +kernel, rfl⟩
theorem D_6_saying_20 : Dec m_6_saying 20 (.tableswitch 60 0 3 #[32, 39, 46, 53]) 32 52 := ⟨by decide +kernel, rfl⟩
theorem D_6_saying_52 : Dec m_6_saying 52 (.aload_n 0) 1 53 := ⟨by decide +kernel, rfl⟩
theorem D_6_saying_53 : Dec m_6_saying 53 (.getfield 16) 3 56 := ⟨by decide +kernel, rfl⟩
theorem D_6_saying_56 : Dec m_6_saying 56 (.iload_n 1) 1 57 := ⟨by decide +kernel, rfl⟩
theorem D_6_saying_57 : Dec m_6_saying 57 (.iaload) 1 58 := ⟨by decide +kernel, rfl⟩
theorem D_6_saying_58 : Dec m_6_saying 58 (.ireturn) 1 59 := ⟨by decide +kernel, rfl⟩
theorem D_6_saying_59 : Dec m_6_saying 59 (.aload_n 0) 1 60 := ⟨by decide +kernel, rfl⟩
theorem D_6_saying_60 : Dec m_6_saying 60 (.getfield 19) 3 63 := ⟨by decide +kernel, rfl⟩
theorem D_6_saying_63 : Dec m_6_saying 63 (.iload_n 1) 1 64 := ⟨by decide +kernel, rfl⟩
theorem D_6_saying_64 : Dec m_6_saying 64 (.iaload) 1 65 := ⟨by decide +kernel, rfl⟩
theorem D_6_saying_65 : Dec m_6_saying 65 (.ireturn) 1 66 := ⟨by decide +kernel, rfl⟩
theorem D_6_saying_66 : Dec m_6_saying 66 (.aload_n 0) 1 67 := ⟨by decide +kernel, rfl⟩
theorem D_6_saying_67 : Dec m_6_saying 67 (.getfield 22) 3 70 := ⟨by decide +kernel, rfl⟩
theorem D_6_saying_70 : Dec m_6_saying 70 (.iload_n 1) 1 71 := ⟨by decide +kernel, rfl⟩
theorem D_6_saying_71 : Dec m_6_saying 71 (.iaload) 1 72 := ⟨by decide +kernel, rfl⟩
theorem D_6_saying_72 : Dec m_6_saying 72 (.ireturn) 1 73 := ⟨by decide +kernel, rfl⟩
theorem D_6_saying_73 : Dec m_6_saying 73 (.aload_n 0) 1 74 := ⟨by decide +kernel, rfl⟩
theorem D_6_saying_74 : Dec m_6_saying 74 (.getfield 25) 3 77 := ⟨by decide +kernel, rfl⟩
theorem D_6_saying_77 : Dec m_6_saying 77 (.iload_n 1) 1 78 := ⟨by decide +kernel, rfl⟩
theorem D_6_saying_78 : Dec m_6_saying 78 (.iaload) 1 79 := ⟨by decide +kernel, rfl⟩
theorem D_6_saying_79 : Dec m_6_saying 79 (.ireturn) 1 80 := ⟨by decide +kernel, rfl⟩
theorem D_6_saying_80 : Dec m_6_saying 80 (.aload_n 0) 1 81 := ⟨by decide +kernel, rfl⟩
theorem D_6_saying_81 : Dec m_6_saying 81 (.getfield 34) 3 84 := ⟨by decide +kernel, rfl⟩
theorem D_6_saying_84 : Dec m_6_saying 84 (.bipush 16) 2 86 := ⟨by decide +kernel, rfl⟩
theorem D_6_saying_86 : Dec m_6_saying 86 (.iload_n 1) 1 87 := ⟨by decide +kernel, rfl⟩
theorem D_6_saying_87 : Dec m_6_saying 87 (.iadd) 1 88 := ⟨by decide +kernel, rfl⟩
theorem D_6_saying_88 : Dec m_6_saying 88 (.iaload) 1 89 := ⟨by decide +kernel, rfl⟩
theorem D_6_saying_89 : Dec m_6_saying 89 (.ireturn) 1 90 := ⟨by decide +kernel, rfl⟩
theorem D_6_melts_0 : Dec m_6_melts 0 (.aload_n 0) 1 1 := ⟨by decide +kernel, rfl⟩
theorem D_6_melts_1 : Dec m_6_melts 1 (.iload_n 1) 1 2 := ⟨by decide +kernel, rfl⟩
theorem D_6_melts_2 : Dec m_6_melts 2 (.invokevirtual 181) 3 5 := ⟨by decide +kernel, rfl⟩
theorem D_6_melts_5 : DecJ m_6_melts 5 (.ifCond .eq) 8 35 := ⟨30, by decide +kernel, rfl, rfl⟩
theorem D_6_melts_8 : Dec m_6_melts 8 (.aload_n 0) 1 9 := ⟨by decide +kernel, rfl⟩
theorem D_6_melts_9 : Dec m_6_melts 9 (.iload_n 2) 1 10 := ⟨by decide +kernel, rfl⟩
theorem D_6_melts_10 : Dec m_6_melts 10 (.invokevirtual 191) 3 13 := ⟨by decide +kernel, rfl⟩
theorem D_6_melts_13 : DecJ m_6_melts 13 (.ifCond .eq) 16 35 := ⟨22, by decide +kernel, rfl, rfl⟩
theorem D_6_melts_16 : Dec m_6_melts 16 (.aload_n 0) 1 17 := ⟨by decide +kernel, rfl⟩
theorem D_6_melts_17 : Dec m_6_melts 17 (.getfield 13) 3 20 := ⟨by decide +kernel, rfl⟩
theorem D_6_melts_20 : Dec m_6_melts 20 (.iload_n 2) 1 21 := ⟨by decide +kernel, rfl⟩
theorem D_6_melts_21 : Dec m_6_melts 21 (.iaload) 1 22 := ⟨by decide +kernel, rfl⟩
theorem D_6_melts_22 : Dec m_6_melts 22 (.aload_n 0) 1 23 := ⟨by decide +kernel, rfl⟩
theorem D_6_melts_23 : Dec m_6_melts 23 (.getfield 34) 3 26 := ⟨by decide +kernel, rfl⟩
theorem D_6_melts_26 : Dec m_6_melts 26 (.bipush 11) 2 28 := ⟨by decide +kernel, rfl⟩
theorem D_6_melts_28 : Dec m_6_melts 28 (.iload_n 1) 1 29 := ⟨by decide +kernel, rfl⟩
theorem D_6_melts_29 : Dec m_6_melts 29 (.iadd) 1 30 := ⟨by decide +kernel, rfl⟩
theorem D_6_melts_30 : Dec m_6_melts 30 (.iaload) 1 31 := ⟨by decide +kernel, rfl⟩
theorem D_6_melts_31 : Dec m_6_melts 31 (.imul) 1 32 := ⟨by decide +kernel, rfl⟩
theorem D_6_melts_32 : DecJ m_6_melts 32 (.goto) 35 36 := ⟨4, by decide +kernel, rfl, rfl⟩
theorem D_6_melts_35 : Dec m_6_melts 35 (.iconst (-1)) 1 36 := ⟨by decide +kernel, rfl⟩
theorem D_6_melts_36 : Dec m_6_melts 36 (.ireturn) 1 37 := ⟨by decide +kernel, rfl⟩
theorem D_6_isMelting_0 : Dec m_6_isMelting 0 (.aload_n 0) 1 1 := ⟨by decide +kernel, rfl⟩
theorem D_6_isMelting_1 : Dec m_6_isMelting 1 (.getfield 34) 3 4 := ⟨by decide +kernel, rfl⟩
theorem D_6_isMelting_4 : Dec m_6_isMelting 4 (.iconst 1) 1 5 := ⟨by decide +kernel, rfl⟩
theorem D_6_isMelting_5 : Dec m_6_isMelting 5 (.iaload) 1 6 := ⟨by decide +kernel, rfl⟩
theorem D_6_isMelting_6 : Dec m_6_isMelting 6 (.bipush (-4)) 2 8 := ⟨by decide +kernel, rfl⟩
theorem D_6_isMelting_8 : DecJ m_6_isMelting 8 (.if_icmp .eq) 11 30 := ⟨22, by decide +kernel, rfl, rfl⟩
theorem D_6_isMelting_11 : Dec m_6_isMelting 11 (.aload_n 0) 1 12 := ⟨by decide +kernel, rfl⟩
theorem D_6_isMelting_12 : Dec m_6_isMelting 12 (.getfield 34) 3 15 := ⟨by decide +kernel, rfl⟩
theorem D_6_isMelting_15 : Dec m_6_isMelting 15 (.iconst 0) 1 16 := ⟨by decide +kernel, rfl⟩
theorem D_6_isMelting_16 : Dec m_6_isMelting 16 (.iaload) 1 17 := ⟨by decide +kernel, rfl⟩
theorem D_6_isMelting_17 : Dec m_6_isMelting 17 (.aload_n 0) 1 18 := ⟨by decide +kernel, rfl⟩
theorem D_6_isMelting_18 : Dec m_6_isMelting 18 (.getfield 34) 3 21 := ⟨by decide +kernel, rfl⟩
theorem D_6_isMelting_21 : Dec m_6_isMelting 21 (.iconst 2) 1 22 := ⟨by decide +kernel, rfl⟩
theorem D_6_isMelting_22 : Dec m_6_isMelting 22 (.iaload) 1 23 := ⟨by decide +kernel, rfl⟩
theorem D_6_isMelting_23 : DecJ m_6_isMelting 23 (.if_icmp .ge) 26 30 := ⟨7, by decide +kernel, rfl, rfl⟩
theorem D_6_isMelting_26 : Dec m_6_isMelting 26 (.iconst 1) 1 27 := ⟨by decide +kernel, rfl⟩
theorem D_6_isMelting_27 : DecJ m_6_isMelting 27 (.goto) 30 31 := ⟨4, by decide +kernel, rfl, rfl⟩
theorem D_6_isMelting_30 : Dec m_6_isMelting 30 (.iconst 0) 1 31 := ⟨by decide +kernel, rfl⟩
theorem D_6_isMelting_31 : Dec m_6_isMelting 31 (.ireturn) 1 32 := ⟨by decide +kernel, rfl⟩
theorem D_6_remembers_0 : Dec m_6_remembers 0 (.aload_n 0) 1 1 := ⟨by decide +kernel, rfl⟩
theorem D_6_remembers_1 : Dec m_6_remembers 1 (.getfield 171) 3 4 := ⟨by decide +kernel, rfl⟩
theorem D_6_remembers_4 : Dec m_6_remembers 4 (.bipush 8) 2 6 := ⟨by decide +kernel, rfl⟩
theorem D_6_remembers_6 : DecJ m_6_remembers 6 (.if_icmp .ne) 9 49 := ⟨43, by decide +kernel, rfl, rfl⟩
theorem D_6_remembers_9 : Dec m_6_remembers 9 (.iconst 0) 1 10 := ⟨by decide +kernel, rfl⟩
theorem D_6_remembers_10 : Dec m_6_remembers 10 (.istore_n 1) 1 11 := ⟨by decide +kernel, rfl⟩
theorem D_6_remembers_11 : Dec m_6_remembers 11 (.iload_n 1) 1 12 := ⟨by decide +kernel, rfl⟩
theorem D_6_remembers_12 : Dec m_6_remembers 12 (.sipush 161) 3 15 := ⟨by decide +kernel, rfl⟩
theorem D_6_remembers_15 : DecJ m_6_remembers 15 (.if_icmp .ge) 18 39 := ⟨24, by decide +kernel, rfl, rfl⟩
theorem D_6_remembers_18 : Dec m_6_remembers 18 (.aload_n 0) 1 19 := ⟨by decide +kernel, rfl⟩
theorem D_6_remembers_19 : Dec m_6_remembers 19 (.getfield 37) 3 22 := ⟨by decide +kernel, rfl⟩
theorem D_6_remembers_22 : Dec m_6_remembers 22 (.iload_n 1) 1 23 := ⟨by decide +kernel, rfl⟩
theorem D_6_remembers_23 : Dec m_6_remembers 23 (.aload_n 0) 1 24 := ⟨by decide +kernel, rfl⟩
theorem D_6_remembers_24 : Dec m_6_remembers 24 (.getfield 37) 3 27 := ⟨by decide +kernel, rfl⟩
theorem D_6_remembers_27 : Dec m_6_remembers 27 (.iload_n 1) 1 28 := ⟨by decide +kernel, rfl⟩
theorem D_6_remembers_28 : Dec m_6_remembers 28 (.bipush 23) 2 30 := ⟨by decide +kernel, rfl⟩
theorem D_6_remembers_30 : Dec m_6_remembers 30 (.iadd) 1 31 := ⟨by decide +kernel, rfl⟩
theorem D_6_remembers_31 : Dec m_6_remembers 31 (.iaload) 1 32 := ⟨by decide +kernel, rfl⟩
theorem D_6_remembers_32 : Dec m_6_remembers 32 (.iastore) 1 33 := ⟨by decide +kernel, rfl⟩
theorem D_6_remembers_33 : Dec m_6_remembers 33 (.iinc 1 1) 3 36 := ⟨by decide +kernel, rfl⟩
theorem D_6_remembers_36 : DecJ m_6_remembers 36 (.goto) 39 11 := ⟨-25, by decide +kernel, rfl, rfl⟩
theorem D_6_remembers_39 : Dec m_6_remembers 39 (.aload_n 0) 1 40 := ⟨by decide +kernel, rfl⟩
theorem D_6_remembers_40 : Dec m_6_remembers 40 (.dup) 1 41 := ⟨by decide +kernel, rfl⟩
theorem D_6_remembers_41 : Dec m_6_remembers 41 (.getfield 171) 3 44 := ⟨by decide +kernel, rfl⟩
theorem D_6_remembers_44 : Dec m_6_remembers 44 (.iconst 1) 1 45 := ⟨by decide +kernel, rfl⟩
theorem D_6_remembers_45 : Dec m_6_remembers 45 (.isub) 1 46 := ⟨by decide +kernel, rfl⟩
theorem D_6_remembers_46 : Dec m_6_remembers 46 (.putfield 171) 3 49 := ⟨by decide +kernel, rfl⟩
theorem D_6_remembers_49 : Dec m_6_remembers 49 (.iconst 0) 1 50 := ⟨by decide +kernel, rfl⟩
theorem D_6_remembers_50 : Dec m_6_remembers 50 (.istore_n 1) 1 51 := ⟨by decide +kernel, rfl⟩
theorem D_6_remembers_51 : Dec m_6_remembers 51 (.iload_n 1) 1 52 := ⟨by decide +kernel, rfl⟩
theorem D_6_remembers_52 : Dec m_6_remembers 52 (.bipush 23) 2 54 := ⟨by decide +kernel, rfl⟩
theorem D_6_remembers_54 : DecJ m_6_remembers 54 (.if_icmp .ge) 57 83 := ⟨29, by decide +kernel, rfl, rfl⟩
theorem D_6_remembers_57 : Dec m_6_remembers 57 (.aload_n 0) 1 58 := ⟨by decide +kernel, rfl⟩
theorem D_6_remembers_58 : Dec m_6_remembers 58 (.getfield 37) 3 61 := ⟨by decide +kernel, rfl⟩
theorem D_6_remembers_61 : Dec m_6_remembers 61 (.bipush 23) 2 63 := ⟨by decide +kernel, rfl⟩
theorem D_6_remembers_63 : Dec m_6_remembers 63 (.aload_n 0) 1 64 := ⟨by decide +kernel, rfl⟩
theorem D_6_remembers_64 : Dec m_6_remembers 64 (.getfield 171) 3 67 := ⟨by decide +kernel, rfl⟩
theorem D_6_remembers_67 : Dec m_6_remembers 67 (.imul) 1 68 := ⟨by decide +kernel, rfl⟩
theorem D_6_remembers_68 : Dec m_6_remembers 68 (.iload_n 1) 1 69 := ⟨by decide +kernel, rfl⟩
theorem D_6_remembers_69 : Dec m_6_remembers 69 (.iadd) 1 70 := ⟨by decide +kernel, rfl⟩
theorem D_6_remembers_70 : Dec m_6_remembers 70 (.aload_n 0) 1 71 := ⟨by decide +kernel, rfl⟩
theorem D_6_remembers_71 : Dec m_6_remembers 71 (.getfield 34) 3 74 := ⟨by decide +kernel, rfl⟩
theorem D_6_remembers_74 : Dec m_6_remembers 74 (.iload_n 1) 1 75 := ⟨by decide +kernel, rfl⟩
theorem D_6_remembers_75 : Dec m_6_remembers 75 (.iaload) 1 76 := ⟨by decide +kernel, rfl⟩
theorem D_6_remembers_76 : Dec m_6_remembers 76 (.iastore) 1 77 := ⟨by decide +kernel, rfl⟩
theorem D_6_remembers_77 : Dec m_6_remembers 77 (.iinc 1 1) 3 80 := ⟨by decide +kernel, rfl⟩
theorem D_6_remembers_80 : DecJ m_6_remembers 80 (.goto) 83 51 := ⟨-29, by decide +kernel, rfl, rfl⟩
theorem D_6_remembers_83 : Dec m_6_remembers 83 (.aload_n 0) 1 84 := ⟨by decide +kernel, rfl⟩
theorem D_6_remembers_84 : Dec m_6_remembers 84 (.dup) 1 85 := ⟨by decide +kernel, rfl⟩
theorem D_6_remembers_85 : Dec m_6_remembers 85 (.getfield 171) 3 88 := ⟨by decide +kernel, rfl⟩
theorem D_6_remembers_88 : Dec m_6_remembers 88 (.iconst 1) 1 89 := ⟨by decide +kernel, rfl⟩
theorem D_6_remembers_89 : Dec m_6_remembers 89 (.iadd) 1 90 := ⟨by decide +kernel, rfl⟩
theorem D_6_remembers_90 : Dec m_6_remembers 90 (.putfield 171) 3 93 := ⟨by decide +kernel, rfl⟩
theorem D_6_remembers_93 : Dec m_6_remembers 93 (.return_) 1 94 := ⟨by decide +kernel, rfl⟩
theorem D_6_take_0 : Dec m_6_take 0 (.aload_n 0) 1 1 := ⟨by decide +kernel, rfl⟩
theorem D_6_take_1 : Dec m_6_take 1 (.iload_n 1) 1 2 := ⟨by decide +kernel, rfl⟩
theorem D_6_take_2 : Dec m_6_take 2 (.invokevirtual 181) 3 5 := ⟨by decide +kernel, rfl⟩
theorem D_6_take_5 : DecJ m_6_take 5 (.ifCond .eq) 8 16 := ⟨11, by decide +kernel, rfl, rfl⟩
theorem D_6_take_8 : Dec m_6_take 8 (.aload_n 0) 1 9 := ⟨by decide +kernel, rfl⟩
theorem D_6_take_9 : Dec m_6_take 9 (.iload_n 2) 1 10 := ⟨by decide +kernel, rfl⟩
theorem D_6_take_10 : Dec m_6_take 10 (.invokevirtual 191) 3 13 := ⟨by decide +kernel, rfl⟩
theorem D_6_take_13 : DecJ m_6_take 13 (.ifCond .ne) 16 18 := ⟨5, by decide +kernel, rfl, rfl⟩
theorem D_6_take_16 : Dec m_6_take 16 (.iconst (-1)) 1 17 := ⟨by decide +kernel, rfl⟩
theorem D_6_take_17 : Dec m_6_take 17 (.ireturn) 1 18 := ⟨by decide +kernel, rfl⟩
theorem D_6_take_18 : Dec m_6_take 18 (.aload_n 0) 1 19 := ⟨by decide +kernel, rfl⟩
theorem D_6_take_19 : Dec m_6_take 19 (.invokevirtual 194) 3 22 := ⟨by decide +kernel, rfl⟩
theorem D_6_take_22 : DecJ m_6_take 22 (.ifCond .ne) 25 56 := ⟨34, by decide +kernel, rfl, rfl⟩
theorem D_6_take_25 : Dec m_6_take 25 (.aload_n 0) 1 26 := ⟨by decide +kernel, rfl⟩
theorem D_6_take_26 : Dec m_6_take 26 (.getfield 34) 3 29 := ⟨by decide +kernel, rfl⟩
theorem D_6_take_29 : Dec m_6_take 29 (.iconst 0) 1 30 := ⟨by decide +kernel, rfl⟩
theorem D_6_take_30 : Dec m_6_take 30 (.iaload) 1 31 := ⟨by decide +kernel, rfl⟩
theorem D_6_take_31 : Dec m_6_take 31 (.aload_n 0) 1 32 := ⟨by decide +kernel, rfl⟩
theorem D_6_take_32 : Dec m_6_take 32 (.getfield 34) 3 35 := ⟨by decide +kernel, rfl⟩
theorem D_6_take_35 : Dec m_6_take 35 (.bipush 6) 2 37 := ⟨by decide +kernel, rfl⟩
theorem D_6_take_37 : Dec m_6_take 37 (.iload_n 1) 1 38 := ⟨by decide +kernel, rfl⟩
theorem D_6_take_38 : Dec m_6_take 38 (.iadd) 1 39 := ⟨by decide +kernel, rfl⟩
theorem D_6_take_39 : Dec m_6_take 39 (.iaload) 1 40 := ⟨by decide +kernel, rfl⟩
theorem D_6_take_40 : DecJ m_6_take 40 (.if_icmp .lt) 43 56 := ⟨16, by decide +kernel, rfl, rfl⟩
theorem D_6_take_43 : Dec m_6_take 43 (.aload_n 0) 1 44 := ⟨by decide +kernel, rfl⟩
theorem D_6_take_44 : Dec m_6_take 44 (.getfield 34) 3 47 := ⟨by decide +kernel, rfl⟩
theorem D_6_take_47 : Dec m_6_take 47 (.iconst 3) 1 48 := ⟨by decide +kernel, rfl⟩
theorem D_6_take_48 : Dec m_6_take 48 (.iaload) 1 49 := ⟨by decide +kernel, rfl⟩
theorem D_6_take_49 : Dec m_6_take 49 (.iload_n 2) 1 50 := ⟨by decide +kernel, rfl⟩
theorem D_6_take_50 : Dec m_6_take 50 (.invokestatic 177) 3 53 := ⟨by decide +kernel, rfl⟩
theorem D_6_take_53 : DecJ m_6_take 53 (.ifCond .ne) 56 59 := ⟨6, by decide +kernel, rfl, rfl⟩
theorem D_6_take_56 : Dec m_6_take 56 (.bipush (-2)) 2 58 := ⟨by decide +kernel, rfl⟩
theorem D_6_take_58 : Dec m_6_take 58 (.ireturn) 1 59 := ⟨by decide +kernel, rfl⟩
theorem D_6_take_59 : Dec m_6_take 59 (.aload_n 0) 1 60 := ⟨by decide +kernel, rfl⟩
theorem D_6_take_60 : Dec m_6_take 60 (.invokevirtual 197) 3 63 := ⟨by decide +kernel, rfl⟩
theorem D_6_take_63 : Dec m_6_take 63 (.aload_n 0) 1 64 := ⟨by decide +kernel, rfl⟩
theorem D_6_take_64 : Dec m_6_take 64 (.getfield 13) 3 67 := ⟨by decide +kernel, rfl⟩
theorem D_6_take_67 : Dec m_6_take 67 (.iload_n 2) 1 68 := ⟨by decide +kernel, rfl⟩
theorem D_6_take_68 : Dec m_6_take 68 (.iaload) 1 69 := ⟨by decide +kernel, rfl⟩
theorem D_6_take_69 : Dec m_6_take 69 (.aload_n 0) 1 70 := ⟨by decide +kernel, rfl⟩
theorem D_6_take_70 : Dec m_6_take 70 (.getfield 34) 3 73 := ⟨by decide +kernel, rfl⟩
theorem D_6_take_73 : Dec m_6_take 73 (.bipush 11) 2 75 := ⟨by decide +kernel, rfl⟩
theorem D_6_take_75 : Dec m_6_take 75 (.iload_n 1) 1 76 := ⟨by decide +kernel, rfl⟩
theorem D_6_take_76 : Dec m_6_take 76 (.iadd) 1 77 := ⟨by decide +kernel, rfl⟩
theorem D_6_take_77 : Dec m_6_take 77 (.iaload) 1 78 := ⟨by decide +kernel, rfl⟩
theorem D_6_take_78 : Dec m_6_take 78 (.imul) 1 79 := ⟨by decide +kernel, rfl⟩
theorem D_6_take_79 : Dec m_6_take 79 (.istore_n 3) 1 80 := ⟨by decide +kernel, rfl⟩
theorem D_6_take_80 : Dec m_6_take 80 (.aload_n 0) 1 81 := ⟨by decide +kernel, rfl⟩
theorem D_6_take_81 : Dec m_6_take 81 (.getfield 34) 3 84 := ⟨by decide +kernel, rfl⟩
theorem D_6_take_84 : Dec m_6_take 84 (.iconst 1) 1 85 := ⟨by decide +kernel, rfl⟩
theorem D_6_take_85 : Dec m_6_take 85 (.iload_n 1) 1 86 := ⟨by decide +kernel, rfl⟩
theorem D_6_take_86 : Dec m_6_take 86 (.iastore) 1 87 := ⟨by decide +kernel, rfl⟩
theorem D_6_take_87 : Dec m_6_take 87 (.aload_n 0) 1 88 := ⟨by decide +kernel, rfl⟩
theorem D_6_take_88 : Dec m_6_take 88 (.getfield 34) 3 91 := ⟨by decide +kernel, rfl⟩
theorem D_6_take_91 : Dec m_6_take 91 (.iconst 2) 1 92 := ⟨by decide +kernel, rfl⟩
theorem D_6_take_92 : Dec m_6_take 92 (.aload_n 0) 1 93 := ⟨by decide +kernel, rfl⟩
theorem D_6_take_93 : Dec m_6_take 93 (.getfield 34) 3 96 := ⟨by decide +kernel, rfl⟩
theorem D_6_take_96 : Dec m_6_take 96 (.iconst 0) 1 97 := ⟨by decide +kernel, rfl⟩
theorem D_6_take_97 : Dec m_6_take 97 (.iaload) 1 98 := ⟨by decide +kernel, rfl⟩
theorem D_6_take_98 : Dec m_6_take 98 (.iload_n 3) 1 99 := ⟨by decide +kernel, rfl⟩
theorem D_6_take_99 : Dec m_6_take 99 (.iadd) 1 100 := ⟨by decide +kernel, rfl⟩
theorem D_6_take_100 : Dec m_6_take 100 (.iastore) 1 101 := ⟨by decide +kernel, rfl⟩
theorem D_6_take_101 : Dec m_6_take 101 (.aload_n 0) 1 102 := ⟨by decide +kernel, rfl⟩
theorem D_6_take_102 : Dec m_6_take 102 (.getfield 34) 3 105 := ⟨by decide +kernel, rfl⟩
theorem D_6_take_105 : Dec m_6_take 105 (.bipush 6) 2 107 := ⟨by decide +kernel, rfl⟩
theorem D_6_take_107 : Dec m_6_take 107 (.iload_n 1) 1 108 := ⟨by decide +kernel, rfl⟩
theorem D_6_take_108 : Dec m_6_take 108 (.iadd) 1 109 := ⟨by decide +kernel, rfl⟩
theorem D_6_take_109 : Dec m_6_take 109 (.aload_n 0) 1 110 := ⟨by decide +kernel, rfl⟩
theorem D_6_take_110 : Dec m_6_take 110 (.getfield 34) 3 113 := ⟨by decide +kernel, rfl⟩
theorem D_6_take_113 : Dec m_6_take 113 (.iconst 0) 1 114 := ⟨by decide +kernel, rfl⟩
theorem D_6_take_114 : Dec m_6_take 114 (.iaload) 1 115 := ⟨by decide +kernel, rfl⟩
theorem D_6_take_115 : Dec m_6_take 115 (.iconst 2) 1 116 := ⟨by decide +kernel, rfl⟩
theorem D_6_take_116 : Dec m_6_take 116 (.iload_n 3) 1 117 := ⟨by decide +kernel, rfl⟩
theorem D_6_take_117 : Dec m_6_take 117 (.imul) 1 118 := ⟨by decide +kernel, rfl⟩
theorem D_6_take_118 : Dec m_6_take 118 (.iadd) 1 119 := ⟨by decide +kernel, rfl⟩
theorem D_6_take_119 : Dec m_6_take 119 (.iastore) 1 120 := ⟨by decide +kernel, rfl⟩
theorem D_6_take_120 : Dec m_6_take 120 (.aload_n 0) 1 121 := ⟨by decide +kernel, rfl⟩
theorem D_6_take_121 : Dec m_6_take 121 (.getfield 34) 3 124 := ⟨by decide +kernel, rfl⟩
theorem D_6_take_124 : Dec m_6_take 124 (.iconst 3) 1 125 := ⟨by decide +kernel, rfl⟩
theorem D_6_take_125 : Dec m_6_take 125 (.dup2) 1 126 := ⟨by decide +kernel, rfl⟩
theorem D_6_take_126 : Dec m_6_take 126 (.iaload) 1 127 := ⟨by decide +kernel, rfl⟩
theorem D_6_take_127 : Dec m_6_take 127 (.iconst 1) 1 128 := ⟨by decide +kernel, rfl⟩
theorem D_6_take_128 : Dec m_6_take 128 (.iload_n 2) 1 129 := ⟨by decide +kernel, rfl⟩
theorem D_6_take_129 : Dec m_6_take 129 (.ishl) 1 130 := ⟨by decide +kernel, rfl⟩
theorem D_6_take_130 : Dec m_6_take 130 (.iconst (-1)) 1 131 := ⟨by decide +kernel, rfl⟩
theorem D_6_take_131 : Dec m_6_take 131 (.ixor) 1 132 := ⟨by decide +kernel, rfl⟩
theorem D_6_take_132 : Dec m_6_take 132 (.iand) 1 133 := ⟨by decide +kernel, rfl⟩
theorem D_6_take_133 : Dec m_6_take 133 (.iastore) 1 134 := ⟨by decide +kernel, rfl⟩
theorem D_6_take_134 : Dec m_6_take 134 (.aload_n 0) 1 135 := ⟨by decide +kernel, rfl⟩
theorem D_6_take_135 : Dec m_6_take 135 (.getfield 34) 3 138 := ⟨by decide +kernel, rfl⟩
theorem D_6_take_138 : Dec m_6_take 138 (.iconst 2) 1 139 := ⟨by decide +kernel, rfl⟩
theorem D_6_take_139 : Dec m_6_take 139 (.iaload) 1 140 := ⟨by decide +kernel, rfl⟩
theorem D_6_take_140 : Dec m_6_take 140 (.ireturn) 1 141 := ⟨by decide +kernel, rfl⟩
theorem D_6_isInTime_0 : Dec m_6_isInTime 0 (.aload_n 0) 1 1 := ⟨by decide +kernel, rfl⟩
theorem D_6_isInTime_1 : Dec m_6_isInTime 1 (.getfield 25) 3 4 := ⟨by decide +kernel, rfl⟩
theorem D_6_isInTime_4 : Dec m_6_isInTime 4 (.iload_n 1) 1 5 := ⟨by decide +kernel, rfl⟩
theorem D_6_isInTime_5 : Dec m_6_isInTime 5 (.iaload) 1 6 := ⟨by decide +kernel, rfl⟩
theorem D_6_isInTime_6 : Dec m_6_isInTime 6 (.istore_n 2) 1 7 := ⟨by decide +kernel, rfl⟩
theorem D_6_isInTime_7 : Dec m_6_isInTime 7 (.iload_n 2) 1 8 := ⟨by decide +kernel, rfl⟩
theorem D_6_isInTime_8 : Dec m_6_isInTime 8 (.bipush (-4)) 2 10 := ⟨by decide +kernel, rfl⟩
theorem D_6_isInTime_10 : DecJ m_6_isInTime 10 (.if_icmp .eq) 13 49 := ⟨39, by decide +kernel, rfl, rfl⟩
theorem D_6_isInTime_13 : Dec m_6_isInTime 13 (.aload_n 0) 1 14 := ⟨by decide +kernel, rfl⟩
theorem D_6_isInTime_14 : Dec m_6_isInTime 14 (.getfield 34) 3 17 := ⟨by decide +kernel, rfl⟩
theorem D_6_isInTime_17 : Dec m_6_isInTime 17 (.iconst 4) 1 18 := ⟨by decide +kernel, rfl⟩
theorem D_6_isInTime_18 : Dec m_6_isInTime 18 (.iaload) 1 19 := ⟨by decide +kernel, rfl⟩
theorem D_6_isInTime_19 : Dec m_6_isInTime 19 (.iload_n 2) 1 20 := ⟨by decide +kernel, rfl⟩
theorem D_6_isInTime_20 : Dec m_6_isInTime 20 (.invokestatic 177) 3 23 := ⟨by decide +kernel, rfl⟩
theorem D_6_isInTime_23 : DecJ m_6_isInTime 23 (.ifCond .eq) 26 53 := ⟨30, by decide +kernel, rfl, rfl⟩
theorem D_6_isInTime_26 : Dec m_6_isInTime 26 (.aload_n 0) 1 27 := ⟨by decide +kernel, rfl⟩
theorem D_6_isInTime_27 : Dec m_6_isInTime 27 (.getfield 34) 3 30 := ⟨by decide +kernel, rfl⟩
theorem D_6_isInTime_30 : Dec m_6_isInTime 30 (.iconst 0) 1 31 := ⟨by decide +kernel, rfl⟩
theorem D_6_isInTime_31 : Dec m_6_isInTime 31 (.iaload) 1 32 := ⟨by decide +kernel, rfl⟩
theorem D_6_isInTime_32 : Dec m_6_isInTime 32 (.aload_n 0) 1 33 := ⟨by decide +kernel, rfl⟩
theorem D_6_isInTime_33 : Dec m_6_isInTime 33 (.getfield 34) 3 36 := ⟨by decide +kernel, rfl⟩
theorem D_6_isInTime_36 : Dec m_6_isInTime 36 (.bipush 16) 2 38 := ⟨by decide +kernel, rfl⟩
theorem D_6_isInTime_38 : Dec m_6_isInTime 38 (.iload_n 2) 1 39 := ⟨by decide +kernel, rfl⟩
theorem D_6_isInTime_39 : Dec m_6_isInTime 39 (.iadd) 1 40 := ⟨by decide +kernel, rfl⟩
theorem D_6_isInTime_40 : Dec m_6_isInTime 40 (.iaload) 1 41 := ⟨by decide +kernel, rfl⟩
theorem D_6_isInTime_41 : Dec m_6_isInTime 41 (.isub) 1 42 := ⟨by decide +kernel, rfl⟩
theorem D_6_isInTime_42 : Dec m_6_isInTime 42 (.aload_n 0) 1 43 := ⟨by decide +kernel, rfl⟩
theorem D_6_isInTime_43 : Dec m_6_isInTime 43 (.getfield 168) 3 46 := ⟨by decide +kernel, rfl⟩
theorem D_6_isInTime_46 : DecJ m_6_isInTime 46 (.if_icmp .gt) 49 53 := ⟨7, by decide +kernel, rfl, rfl⟩
theorem D_6_isInTime_49 : Dec m_6_isInTime 49 (.iconst 1) 1 50 := ⟨by decide +kernel, rfl⟩
theorem D_6_isInTime_50 : DecJ m_6_isInTime 50 (.goto) 53 54 := ⟨4, by decide +kernel, rfl, rfl⟩
theorem D_6_isInTime_53 : Dec m_6_isInTime 53 (.iconst 0) 1 54 := ⟨by decide +kernel, rfl⟩
theorem D_6_isInTime_54 : Dec m_6_isInTime 54 (.ireturn) 1 55 := ⟨by decide +kernel, rfl⟩
theorem D_6_say_0 : Dec m_6_say 0 (.aload_n 0) 1 1 := ⟨by decide +kernel, rfl⟩
theorem D_6_say_1 : Dec m_6_say 1 (.iload_n 1) 1 2 := ⟨by decide +kernel, rfl⟩
theorem D_6_say_2 : Dec m_6_say 2 (.invokevirtual 188) 3 5 := ⟨by decide +kernel, rfl⟩
theorem D_6_say_5 : DecJ m_6_say 5 (.ifCond .ne) 8 10 := ⟨5, by decide +kernel, rfl, rfl⟩
theorem D_6_say_8 : Dec m_6_say 8 (.iconst (-1)) 1 9 := ⟨by decide +kernel, rfl⟩
theorem D_6_say_9 : Dec m_6_say 9 (.ireturn) 1 10 := ⟨by decide +kernel, rfl⟩
theorem D_6_say_10 : Dec m_6_say 10 (.aload_n 0) 1 11 := ⟨by decide +kernel, rfl⟩
theorem D_6_say_11 : Dec m_6_say 11 (.invokevirtual 194) 3 14 := ⟨by decide +kernel, rfl⟩
theorem D_6_say_14 : DecJ m_6_say 14 (.ifCond .eq) 17 75 := ⟨61, by decide +kernel, rfl, rfl⟩
theorem D_6_say_17 : Dec m_6_say 17 (.aload_n 0) 1 18 := ⟨by decide +kernel, rfl⟩
theorem D_6_say_18 : Dec m_6_say 18 (.getfield 34) 3 21 := ⟨by decide +kernel, rfl⟩
theorem D_6_say_21 : Dec m_6_say 21 (.iconst 1) 1 22 := ⟨by decide +kernel, rfl⟩
theorem D_6_say_22 : Dec m_6_say 22 (.iaload) 1 23 := ⟨by decide +kernel, rfl⟩
theorem D_6_say_23 : Dec m_6_say 23 (.aload_n 0) 1 24 := ⟨by decide +kernel, rfl⟩
theorem D_6_say_24 : Dec m_6_say 24 (.getfield 16) 3 27 := ⟨by decide +kernel, rfl⟩
theorem D_6_say_27 : Dec m_6_say 27 (.iload_n 1) 1 28 := ⟨by decide +kernel, rfl⟩
theorem D_6_say_28 : Dec m_6_say 28 (.iaload) 1 29 := ⟨by decide +kernel, rfl⟩
theorem D_6_say_29 : DecJ m_6_say 29 (.if_icmp .ne) 32 75 := ⟨46, by decide +kernel, rfl, rfl⟩
theorem D_6_say_32 : Dec m_6_say 32 (.aload_n 0) 1 33 := ⟨by decide +kernel, rfl⟩
theorem D_6_say_33 : Dec m_6_say 33 (.getfield 34) 3 36 := ⟨by decide +kernel, rfl⟩
theorem D_6_say_36 : Dec m_6_say 36 (.iconst 4) 1 37 := ⟨by decide +kernel, rfl⟩
theorem D_6_say_37 : Dec m_6_say 37 (.iaload) 1 38 := ⟨by decide +kernel, rfl⟩
theorem D_6_say_38 : Dec m_6_say 38 (.iload_n 1) 1 39 := ⟨by decide +kernel, rfl⟩
theorem D_6_say_39 : Dec m_6_say 39 (.invokestatic 177) 3 42 := ⟨by decide +kernel, rfl⟩
theorem D_6_say_42 : DecJ m_6_say 42 (.ifCond .ne) 45 75 := ⟨33, by decide +kernel, rfl, rfl⟩
theorem D_6_say_45 : Dec m_6_say 45 (.aload_n 0) 1 46 := ⟨by decide +kernel, rfl⟩
theorem D_6_say_46 : Dec m_6_say 46 (.getfield 34) 3 49 := ⟨by decide +kernel, rfl⟩
theorem D_6_say_49 : Dec m_6_say 49 (.iconst 0) 1 50 := ⟨by decide +kernel, rfl⟩
theorem D_6_say_50 : Dec m_6_say 50 (.iaload) 1 51 := ⟨by decide +kernel, rfl⟩
theorem D_6_say_51 : Dec m_6_say 51 (.aload_n 0) 1 52 := ⟨by decide +kernel, rfl⟩
theorem D_6_say_52 : Dec m_6_say 52 (.getfield 19) 3 55 := ⟨by decide +kernel, rfl⟩
theorem D_6_say_55 : Dec m_6_say 55 (.iload_n 1) 1 56 := ⟨by decide +kernel, rfl⟩
theorem D_6_say_56 : Dec m_6_say 56 (.iaload) 1 57 := ⟨by decide +kernel, rfl⟩
theorem D_6_say_57 : Dec m_6_say 57 (.iadd) 1 58 := ⟨by decide +kernel, rfl⟩
theorem D_6_say_58 : Dec m_6_say 58 (.aload_n 0) 1 59 := ⟨by decide +kernel, rfl⟩
theorem D_6_say_59 : Dec m_6_say 59 (.getfield 34) 3 62 := ⟨by decide +kernel, rfl⟩
theorem D_6_say_62 : Dec m_6_say 62 (.iconst 2) 1 63 := ⟨by decide +kernel, rfl⟩
theorem D_6_say_63 : Dec m_6_say 63 (.iaload) 1 64 := ⟨by decide +kernel, rfl⟩
theorem D_6_say_64 : DecJ m_6_say 64 (.if_icmp .gt) 67 75 := ⟨11, by decide +kernel, rfl, rfl⟩
theorem D_6_say_67 : Dec m_6_say 67 (.aload_n 0) 1 68 := ⟨by decide +kernel, rfl⟩
theorem D_6_say_68 : Dec m_6_say 68 (.iload_n 1) 1 69 := ⟨by decide +kernel, rfl⟩
theorem D_6_say_69 : Dec m_6_say 69 (.invokevirtual 200) 3 72 := ⟨by decide +kernel, rfl⟩
theorem D_6_say_72 : DecJ m_6_say 72 (.ifCond .ne) 75 78 := ⟨6, by decide +kernel, rfl, rfl⟩
theorem D_6_say_75 : Dec m_6_say 75 (.bipush (-2)) 2 77 := ⟨by decide +kernel, rfl⟩
theorem D_6_say_77 : Dec m_6_say 77 (.ireturn) 1 78 := ⟨by decide +kernel, rfl⟩
theorem D_6_say_78 : Dec m_6_say 78 (.aload_n 0) 1 79 := ⟨by decide +kernel, rfl⟩
theorem D_6_say_79 : Dec m_6_say 79 (.invokevirtual 197) 3 82 := ⟨by decide +kernel, rfl⟩
theorem D_6_say_82 : Dec m_6_say 82 (.aload_n 0) 1 83 := ⟨by decide +kernel, rfl⟩
theorem D_6_say_83 : Dec m_6_say 83 (.getfield 34) 3 86 := ⟨by decide +kernel, rfl⟩
theorem D_6_say_86 : Dec m_6_say 86 (.iconst 0) 1 87 := ⟨by decide +kernel, rfl⟩
theorem D_6_say_87 : Dec m_6_say 87 (.dup2) 1 88 := ⟨by decide +kernel, rfl⟩
theorem D_6_say_88 : Dec m_6_say 88 (.iaload) 1 89 := ⟨by decide +kernel, rfl⟩
theorem D_6_say_89 : Dec m_6_say 89 (.aload_n 0) 1 90 := ⟨by decide +kernel, rfl⟩
theorem D_6_say_90 : Dec m_6_say 90 (.getfield 19) 3 93 := ⟨by decide +kernel, rfl⟩
theorem D_6_say_93 : Dec m_6_say 93 (.iload_n 1) 1 94 := ⟨by decide +kernel, rfl⟩
theorem D_6_say_94 : Dec m_6_say 94 (.iaload) 1 95 := ⟨by decide +kernel, rfl⟩
theorem D_6_say_95 : Dec m_6_say 95 (.iadd) 1 96 := ⟨by decide +kernel, rfl⟩
theorem D_6_say_96 : Dec m_6_say 96 (.iastore) 1 97 := ⟨by decide +kernel, rfl⟩
theorem D_6_say_97 : Dec m_6_say 97 (.aload_n 0) 1 98 := ⟨by decide +kernel, rfl⟩
theorem D_6_say_98 : Dec m_6_say 98 (.getfield 34) 3 101 := ⟨by decide +kernel, rfl⟩
theorem D_6_say_101 : Dec m_6_say 101 (.iconst 4) 1 102 := ⟨by decide +kernel, rfl⟩
theorem D_6_say_102 : Dec m_6_say 102 (.dup2) 1 103 := ⟨by decide +kernel, rfl⟩
theorem D_6_say_103 : Dec m_6_say 103 (.iaload) 1 104 := ⟨by decide +kernel, rfl⟩
theorem D_6_say_104 : Dec m_6_say 104 (.iconst 1) 1 105 := ⟨by decide +kernel, rfl⟩
theorem D_6_say_105 : Dec m_6_say 105 (.iload_n 1) 1 106 := ⟨by decide +kernel, rfl⟩
theorem D_6_say_106 : Dec m_6_say 106 (.ishl) 1 107 := ⟨by decide +kernel, rfl⟩
theorem D_6_say_107 : Dec m_6_say 107 (.ior) 1 108 := ⟨by decide +kernel, rfl⟩
theorem D_6_say_108 : Dec m_6_say 108 (.iastore) 1 109 := ⟨by decide +kernel, rfl⟩
theorem D_6_say_109 : Dec m_6_say 109 (.aload_n 0) 1 110 := ⟨by decide +kernel, rfl⟩
theorem D_6_say_110 : Dec m_6_say 110 (.getfield 34) 3 113 := ⟨by decide +kernel, rfl⟩
theorem D_6_say_113 : Dec m_6_say 113 (.bipush 16) 2 115 := ⟨by decide +kernel, rfl⟩
theorem D_6_say_115 : Dec m_6_say 115 (.iload_n 1) 1 116 := ⟨by decide +kernel, rfl⟩
theorem D_6_say_116 : Dec m_6_say 116 (.iadd) 1 117 := ⟨by decide +kernel, rfl⟩
theorem D_6_say_117 : Dec m_6_say 117 (.aload_n 0) 1 118 := ⟨by decide +kernel, rfl⟩
theorem D_6_say_118 : Dec m_6_say 118 (.getfield 34) 3 121 := ⟨by decide +kernel, rfl⟩
theorem D_6_say_121 : Dec m_6_say 121 (.iconst 0) 1 122 := ⟨by decide +kernel, rfl⟩
theorem D_6_say_122 : Dec m_6_say 122 (.iaload) 1 123 := ⟨by decide +kernel, rfl⟩
theorem D_6_say_123 : Dec m_6_say 123 (.iastore) 1 124 := ⟨by decide +kernel, rfl⟩
theorem D_6_say_124 : Dec m_6_say 124 (.aload_n 0) 1 125 := ⟨by decide +kernel, rfl⟩
theorem D_6_say_125 : Dec m_6_say 125 (.getfield 34) 3 128 := ⟨by decide +kernel, rfl⟩
theorem D_6_say_128 : Dec m_6_say 128 (.iconst 0) 1 129 := ⟨by decide +kernel, rfl⟩
theorem D_6_say_129 : Dec m_6_say 129 (.iaload) 1 130 := ⟨by decide +kernel, rfl⟩
theorem D_6_say_130 : Dec m_6_say 130 (.ireturn) 1 131 := ⟨by decide +kernel, rfl⟩
theorem D_6_pass_0 : Dec m_6_pass 0 (.iload_n 1) 1 1 := ⟨by decide +kernel, rfl⟩
theorem D_6_pass_1 : Dec m_6_pass 1 (.iconst 1) 1 2 := ⟨by decide +kernel, rfl⟩
theorem D_6_pass_2 : Dec m_6_pass 2 (.sipush 600) 3 5 := ⟨by decide +kernel, rfl⟩
theorem D_6_pass_5 : Dec m_6_pass 5 (.invokestatic 111) 3 8 := ⟨by decide +kernel, rfl⟩
theorem D_6_pass_8 : DecJ m_6_pass 8 (.ifCond .ne) 11 13 := ⟨5, by decide +kernel, rfl, rfl⟩
theorem D_6_pass_11 : Dec m_6_pass 11 (.iconst (-1)) 1 12 := ⟨by decide +kernel, rfl⟩
theorem D_6_pass_12 : Dec m_6_pass 12 (.ireturn) 1 13 := ⟨by decide +kernel, rfl⟩
theorem D_6_pass_13 : Dec m_6_pass 13 (.aload_n 0) 1 14 := ⟨by decide +kernel, rfl⟩
theorem D_6_pass_14 : Dec m_6_pass 14 (.getfield 34) 3 17 := ⟨by decide +kernel, rfl⟩
theorem D_6_pass_17 : Dec m_6_pass 17 (.iconst 0) 1 18 := ⟨by decide +kernel, rfl⟩
theorem D_6_pass_18 : Dec m_6_pass 18 (.iaload) 1 19 := ⟨by decide +kernel, rfl⟩
theorem D_6_pass_19 : Dec m_6_pass 19 (.iload_n 1) 1 20 := ⟨by decide +kernel, rfl⟩
theorem D_6_pass_20 : Dec m_6_pass 20 (.iadd) 1 21 := ⟨by decide +kernel, rfl⟩
theorem D_6_pass_21 : Dec m_6_pass 21 (.sipush 9999) 3 24 := ⟨by decide +kernel, rfl⟩
theorem D_6_pass_24 : DecJ m_6_pass 24 (.if_icmp .le) 27 30 := ⟨6, by decide +kernel, rfl, rfl⟩
theorem D_6_pass_27 : Dec m_6_pass 27 (.bipush (-2)) 2 29 := ⟨by decide +kernel, rfl⟩
theorem D_6_pass_29 : Dec m_6_pass 29 (.ireturn) 1 30 := ⟨by decide +kernel, rfl⟩
theorem D_6_pass_30 : Dec m_6_pass 30 (.aload_n 0) 1 31 := ⟨by decide +kernel, rfl⟩
theorem D_6_pass_31 : Dec m_6_pass 31 (.invokevirtual 197) 3 34 := ⟨by decide +kernel, rfl⟩
theorem D_6_pass_34 : Dec m_6_pass 34 (.aload_n 0) 1 35 := ⟨by decide +kernel, rfl⟩
theorem D_6_pass_35 : Dec m_6_pass 35 (.getfield 34) 3 38 := ⟨by decide +kernel, rfl⟩
theorem D_6_pass_38 : Dec m_6_pass 38 (.iconst 0) 1 39 := ⟨by decide +kernel, rfl⟩
theorem D_6_pass_39 : Dec m_6_pass 39 (.dup2) 1 40 := ⟨by decide +kernel, rfl⟩
theorem D_6_pass_40 : Dec m_6_pass 40 (.iaload) 1 41 := ⟨by decide +kernel, rfl⟩
theorem D_6_pass_41 : Dec m_6_pass 41 (.iload_n 1) 1 42 := ⟨by decide +kernel, rfl⟩
theorem D_6_pass_42 : Dec m_6_pass 42 (.iadd) 1 43 := ⟨by decide +kernel, rfl⟩
theorem D_6_pass_43 : Dec m_6_pass 43 (.iastore) 1 44 := ⟨by decide +kernel, rfl⟩
theorem D_6_pass_44 : Dec m_6_pass 44 (.aload_n 0) 1 45 := ⟨by decide +kernel, rfl⟩
theorem D_6_pass_45 : Dec m_6_pass 45 (.getfield 34) 3 48 := ⟨by decide +kernel, rfl⟩
theorem D_6_pass_48 : Dec m_6_pass 48 (.iconst 0) 1 49 := ⟨by decide +kernel, rfl⟩
theorem D_6_pass_49 : Dec m_6_pass 49 (.iaload) 1 50 := ⟨by decide +kernel, rfl⟩
theorem D_6_pass_50 : Dec m_6_pass 50 (.ireturn) 1 51 := ⟨by decide +kernel, rfl⟩
theorem D_6_dryBy_0 : Dec m_6_dryBy 0 (.iload_n 0) 1 1 := ⟨by decide +kernel, rfl⟩
theorem D_6_dryBy_1 : Dec m_6_dryBy 1 (.iload_n 1) 1 2 := ⟨by decide +kernel, rfl⟩
theorem D_6_dryBy_2 : Dec m_6_dryBy 2 (.iadd) 1 3 := ⟨by decide +kernel, rfl⟩
theorem D_6_dryBy_3 : Dec m_6_dryBy 3 (.istore_n 2) 1 4 := ⟨by decide +kernel, rfl⟩
theorem D_6_dryBy_4 : Dec m_6_dryBy 4 (.iload_n 2) 1 5 := ⟨by decide +kernel, rfl⟩
theorem D_6_dryBy_5 : Dec m_6_dryBy 5 (.iconst 1) 1 6 := ⟨by decide +kernel, rfl⟩
theorem D_6_dryBy_6 : DecJ m_6_dryBy 6 (.if_icmp .ge) 9 13 := ⟨7, by decide +kernel, rfl, rfl⟩
theorem D_6_dryBy_9 : Dec m_6_dryBy 9 (.iconst 1) 1 10 := ⟨by decide +kernel, rfl⟩
theorem D_6_dryBy_10 : DecJ m_6_dryBy 10 (.goto) 13 25 := ⟨15, by decide +kernel, rfl, rfl⟩
theorem D_6_dryBy_13 : Dec m_6_dryBy 13 (.iload_n 2) 1 14 := ⟨by decide +kernel, rfl⟩
theorem D_6_dryBy_14 : Dec m_6_dryBy 14 (.bipush 9) 2 16 := ⟨by decide +kernel, rfl⟩
theorem D_6_dryBy_16 : DecJ m_6_dryBy 16 (.if_icmp .le) 19 24 := ⟨8, by decide +kernel, rfl, rfl⟩
theorem D_6_dryBy_19 : Dec m_6_dryBy 19 (.bipush 9) 2 21 := ⟨by decide +kernel, rfl⟩
theorem D_6_dryBy_21 : DecJ m_6_dryBy 21 (.goto) 24 25 := ⟨4, by decide +kernel, rfl, rfl⟩
theorem D_6_dryBy_24 : Dec m_6_dryBy 24 (.iload_n 2) 1 25 := ⟨by decide +kernel, rfl⟩
theorem D_6_dryBy_25 : Dec m_6_dryBy 25 (.ireturn) 1 26 := ⟨by decide +kernel, rfl⟩
theorem D_6_eat_0 : Dec m_6_eat 0 (.iload_n 1) 1 1 := ⟨by decide +kernel, rfl⟩
theorem D_6_eat_1 : Dec m_6_eat 1 (.iconst 0) 1 2 := ⟨by decide +kernel, rfl⟩
theorem D_6_eat_2 : Dec m_6_eat 2 (.aload_n 0) 1 3 := ⟨by decide +kernel, rfl⟩
theorem D_6_eat_3 : Dec m_6_eat 3 (.getfield 165) 3 6 := ⟨by decide +kernel, rfl⟩
theorem D_6_eat_6 : Dec m_6_eat 6 (.iconst 1) 1 7 := ⟨by decide +kernel, rfl⟩
theorem D_6_eat_7 : Dec m_6_eat 7 (.isub) 1 8 := ⟨by decide +kernel, rfl⟩
theorem D_6_eat_8 : Dec m_6_eat 8 (.invokestatic 111) 3 11 := ⟨by decide +kernel, rfl⟩
theorem D_6_eat_11 : DecJ m_6_eat 11 (.ifCond .ne) 14 16 := ⟨5, by decide +kernel, rfl, rfl⟩
theorem D_6_eat_14 : Dec m_6_eat 14 (.iconst (-1)) 1 15 := ⟨by decide +kernel, rfl⟩
theorem D_6_eat_15 : Dec m_6_eat 15 (.ireturn) 1 16 := ⟨by decide +kernel, rfl⟩
theorem D_6_eat_16 : Dec m_6_eat 16 (.aload_n 0) 1 17 := ⟨by decide +kernel, rfl⟩
theorem D_6_eat_17 : Dec m_6_eat 17 (.getfield 34) 3 20 := ⟨by decide +kernel, rfl⟩
theorem D_6_eat_20 : Dec m_6_eat 20 (.iconst 5) 1 21 := ⟨by decide +kernel, rfl⟩
theorem D_6_eat_21 : Dec m_6_eat 21 (.iaload) 1 22 := ⟨by decide +kernel, rfl⟩
theorem D_6_eat_22 : Dec m_6_eat 22 (.iload_n 1) 1 23 := ⟨by decide +kernel, rfl⟩
theorem D_6_eat_23 : Dec m_6_eat 23 (.invokestatic 177) 3 26 := ⟨by decide +kernel, rfl⟩
theorem D_6_eat_26 : DecJ m_6_eat 26 (.ifCond .ne) 29 36 := ⟨10, by decide +kernel, rfl, rfl⟩
theorem D_6_eat_29 : Dec m_6_eat 29 (.aload_n 0) 1 30 := ⟨by decide +kernel, rfl⟩
theorem D_6_eat_30 : Dec m_6_eat 30 (.invokevirtual 194) 3 33 := ⟨by decide +kernel, rfl⟩
theorem D_6_eat_33 : DecJ m_6_eat 33 (.ifCond .eq) 36 39 := ⟨6, by decide +kernel, rfl, rfl⟩
theorem D_6_eat_36 : Dec m_6_eat 36 (.bipush (-2)) 2 38 := ⟨by decide +kernel, rfl⟩
theorem D_6_eat_38 : Dec m_6_eat 38 (.ireturn) 1 39 := ⟨by decide +kernel, rfl⟩
theorem D_6_eat_39 : Dec m_6_eat 39 (.aload_n 0) 1 40 := ⟨by decide +kernel, rfl⟩
theorem D_6_eat_40 : Dec m_6_eat 40 (.invokevirtual 197) 3 43 := ⟨by decide +kernel, rfl⟩
theorem D_6_eat_43 : Dec m_6_eat 43 (.aload_n 0) 1 44 := ⟨by decide +kernel, rfl⟩
theorem D_6_eat_44 : Dec m_6_eat 44 (.getfield 28) 3 47 := ⟨by decide +kernel, rfl⟩
theorem D_6_eat_47 : Dec m_6_eat 47 (.iload_n 1) 1 48 := ⟨by decide +kernel, rfl⟩
theorem D_6_eat_48 : Dec m_6_eat 48 (.iaload) 1 49 := ⟨by decide +kernel, rfl⟩
theorem D_6_eat_49 : Dec m_6_eat 49 (.istore_n 2) 1 50 := ⟨by decide +kernel, rfl⟩
theorem D_6_eat_50 : Dec m_6_eat 50 (.aload_n 0) 1 51 := ⟨by decide +kernel, rfl⟩
theorem D_6_eat_51 : Dec m_6_eat 51 (.getfield 34) 3 54 := ⟨by decide +kernel, rfl⟩
theorem D_6_eat_54 : Dec m_6_eat 54 (.iconst 5) 1 55 := ⟨by decide +kernel, rfl⟩
theorem D_6_eat_55 : Dec m_6_eat 55 (.dup2) 1 56 := ⟨by decide +kernel, rfl⟩
theorem D_6_eat_56 : Dec m_6_eat 56 (.iaload) 1 57 := ⟨by decide +kernel, rfl⟩
theorem D_6_eat_57 : Dec m_6_eat 57 (.iconst 1) 1 58 := ⟨by decide +kernel, rfl⟩
theorem D_6_eat_58 : Dec m_6_eat 58 (.iload_n 1) 1 59 := ⟨by decide +kernel, rfl⟩
theorem D_6_eat_59 : Dec m_6_eat 59 (.ishl) 1 60 := ⟨by decide +kernel, rfl⟩
theorem D_6_eat_60 : Dec m_6_eat 60 (.ior) 1 61 := ⟨by decide +kernel, rfl⟩
theorem D_6_eat_61 : Dec m_6_eat 61 (.iastore) 1 62 := ⟨by decide +kernel, rfl⟩
theorem D_6_eat_62 : Dec m_6_eat 62 (.aload_n 0) 1 63 := ⟨by decide +kernel, rfl⟩
theorem D_6_eat_63 : Dec m_6_eat 63 (.getfield 34) 3 66 := ⟨by decide +kernel, rfl⟩
theorem D_6_eat_66 : Dec m_6_eat 66 (.bipush 11) 2 68 := ⟨by decide +kernel, rfl⟩
theorem D_6_eat_68 : Dec m_6_eat 68 (.iload_n 2) 1 69 := ⟨by decide +kernel, rfl⟩
theorem D_6_eat_69 : Dec m_6_eat 69 (.iadd) 1 70 := ⟨by decide +kernel, rfl⟩
theorem D_6_eat_70 : Dec m_6_eat 70 (.aload_n 0) 1 71 := ⟨by decide +kernel, rfl⟩
theorem D_6_eat_71 : Dec m_6_eat 71 (.getfield 34) 3 74 := ⟨by decide +kernel, rfl⟩
theorem D_6_eat_74 : Dec m_6_eat 74 (.bipush 11) 2 76 := ⟨by decide +kernel, rfl⟩
theorem D_6_eat_76 : Dec m_6_eat 76 (.iload_n 2) 1 77 := ⟨by decide +kernel, rfl⟩
theorem D_6_eat_77 : Dec m_6_eat 77 (.iadd) 1 78 := ⟨by decide +kernel, rfl⟩
theorem D_6_eat_78 : Dec m_6_eat 78 (.iaload) 1 79 := ⟨by decide +kernel, rfl⟩
theorem D_6_eat_79 : Dec m_6_eat 79 (.aload_n 0) 1 80 := ⟨by decide +kernel, rfl⟩
theorem D_6_eat_80 : Dec m_6_eat 80 (.getfield 31) 3 83 := ⟨by decide +kernel, rfl⟩
theorem D_6_eat_83 : Dec m_6_eat 83 (.iload_n 1) 1 84 := ⟨by decide +kernel, rfl⟩
theorem D_6_eat_84 : Dec m_6_eat 84 (.iaload) 1 85 := ⟨by decide +kernel, rfl⟩
theorem D_6_eat_85 : Dec m_6_eat 85 (.invokestatic 203) 3 88 := ⟨by decide +kernel, rfl⟩
theorem D_6_eat_88 : Dec m_6_eat 88 (.iastore) 1 89 := ⟨by decide +kernel, rfl⟩
theorem D_6_eat_89 : Dec m_6_eat 89 (.aload_n 0) 1 90 := ⟨by decide +kernel, rfl⟩
theorem D_6_eat_90 : Dec m_6_eat 90 (.getfield 34) 3 93 := ⟨by decide +kernel, rfl⟩
theorem D_6_eat_93 : Dec m_6_eat 93 (.bipush 11) 2 95 := ⟨by decide +kernel, rfl⟩
theorem D_6_eat_95 : Dec m_6_eat 95 (.iload_n 2) 1 96 := ⟨by decide +kernel, rfl⟩
theorem D_6_eat_96 : Dec m_6_eat 96 (.iadd) 1 97 := ⟨by decide +kernel, rfl⟩
theorem D_6_eat_97 : Dec m_6_eat 97 (.iaload) 1 98 := ⟨by decide +kernel, rfl⟩
theorem D_6_eat_98 : Dec m_6_eat 98 (.ireturn) 1 99 := ⟨by decide +kernel, rfl⟩
theorem D_6_undo_0 : Dec m_6_undo 0 (.aload_n 0) 1 1 := ⟨by decide +kernel, rfl⟩
theorem D_6_undo_1 : Dec m_6_undo 1 (.getfield 171) 3 4 := ⟨by decide +kernel, rfl⟩
theorem D_6_undo_4 : DecJ m_6_undo 4 (.ifCond .ne) 7 10 := ⟨6, by decide +kernel, rfl, rfl⟩
theorem D_6_undo_7 : Dec m_6_undo 7 (.bipush (-2)) 2 9 := ⟨by decide +kernel, rfl⟩
theorem D_6_undo_9 : Dec m_6_undo 9 (.ireturn) 1 10 := ⟨by decide +kernel, rfl⟩
theorem D_6_undo_10 : Dec m_6_undo 10 (.aload_n 0) 1 11 := ⟨by decide +kernel, rfl⟩
theorem D_6_undo_11 : Dec m_6_undo 11 (.dup) 1 12 := ⟨by decide +kernel, rfl⟩
theorem D_6_undo_12 : Dec m_6_undo 12 (.getfield 171) 3 15 := ⟨by decide +kernel, rfl⟩
theorem D_6_undo_15 : Dec m_6_undo 15 (.iconst 1) 1 16 := ⟨by decide +kernel, rfl⟩
theorem D_6_undo_16 : Dec m_6_undo 16 (.isub) 1 17 := ⟨by decide +kernel, rfl⟩
theorem D_6_undo_17 : Dec m_6_undo 17 (.putfield 171) 3 20 := ⟨by decide +kernel, rfl⟩
theorem D_6_undo_20 : Dec m_6_undo 20 (.iconst 0) 1 21 := ⟨by decide +kernel, rfl⟩
theorem D_6_undo_21 : Dec m_6_undo 21 (.istore_n 1) 1 22 := ⟨by decide +kernel, rfl⟩
theorem D_6_undo_22 : Dec m_6_undo 22 (.iload_n 1) 1 23 := ⟨by decide +kernel, rfl⟩
theorem D_6_undo_23 : Dec m_6_undo 23 (.bipush 23) 2 25 := ⟨by decide +kernel, rfl⟩
theorem D_6_undo_25 : DecJ m_6_undo 25 (.if_icmp .ge) 28 54 := ⟨29, by decide +kernel, rfl, rfl⟩
theorem D_6_undo_28 : Dec m_6_undo 28 (.aload_n 0) 1 29 := ⟨by decide +kernel, rfl⟩
theorem D_6_undo_29 : Dec m_6_undo 29 (.getfield 34) 3 32 := ⟨by decide +kernel, rfl⟩
theorem D_6_undo_32 : Dec m_6_undo 32 (.iload_n 1) 1 33 := ⟨by decide +kernel, rfl⟩
theorem D_6_undo_33 : Dec m_6_undo 33 (.aload_n 0) 1 34 := ⟨by decide +kernel, rfl⟩
theorem D_6_undo_34 : Dec m_6_undo 34 (.getfield 37) 3 37 := ⟨by decide +kernel, rfl⟩
theorem D_6_undo_37 : Dec m_6_undo 37 (.bipush 23) 2 39 := ⟨by decide +kernel, rfl⟩
theorem D_6_undo_39 : Dec m_6_undo 39 (.aload_n 0) 1 40 := ⟨by decide +kernel, rfl⟩
theorem D_6_undo_40 : Dec m_6_undo 40 (.getfield 171) 3 43 := ⟨by decide +kernel, rfl⟩
theorem D_6_undo_43 : Dec m_6_undo 43 (.imul) 1 44 := ⟨by decide +kernel, rfl⟩
theorem D_6_undo_44 : Dec m_6_undo 44 (.iload_n 1) 1 45 := ⟨by decide +kernel, rfl⟩
theorem D_6_undo_45 : Dec m_6_undo 45 (.iadd) 1 46 := ⟨by decide +kernel, rfl⟩
theorem D_6_undo_46 : Dec m_6_undo 46 (.iaload) 1 47 := ⟨by decide +kernel, rfl⟩
theorem D_6_undo_47 : Dec m_6_undo 47 (.iastore) 1 48 := ⟨by decide +kernel, rfl⟩
theorem D_6_undo_48 : Dec m_6_undo 48 (.iinc 1 1) 3 51 := ⟨by decide +kernel, rfl⟩
theorem D_6_undo_51 : DecJ m_6_undo 51 (.goto) 54 22 := ⟨-29, by decide +kernel, rfl, rfl⟩
theorem D_6_undo_54 : Dec m_6_undo 54 (.aload_n 0) 1 55 := ⟨by decide +kernel, rfl⟩
theorem D_6_undo_55 : Dec m_6_undo 55 (.getfield 171) 3 58 := ⟨by decide +kernel, rfl⟩
theorem D_6_undo_58 : Dec m_6_undo 58 (.ireturn) 1 59 := ⟨by decide +kernel, rfl⟩
theorem D_6_findBest_0 : Dec m_6_findBest 0 (.aload_n 0) 1 1 := ⟨by decide +kernel, rfl⟩
theorem D_6_findBest_1 : Dec m_6_findBest 1 (.iconst 0) 1 2 := ⟨by decide +kernel, rfl⟩
theorem D_6_findBest_2 : Dec m_6_findBest 2 (.putfield 207) 3 5 := ⟨by decide +kernel, rfl⟩
theorem D_6_findBest_5 : Dec m_6_findBest 5 (.aload_n 0) 1 6 := ⟨by decide +kernel, rfl⟩
theorem D_6_findBest_6 : Dec m_6_findBest 6 (.iconst 0) 1 7 := ⟨by decide +kernel, rfl⟩
theorem D_6_findBest_7 : Dec m_6_findBest 7 (.putfield 210) 3 10 := ⟨by decide +kernel, rfl⟩
theorem D_6_findBest_10 : Dec m_6_findBest 10 (.aload_n 0) 1 11 := ⟨by decide +kernel, rfl⟩
theorem D_6_findBest_11 : Dec m_6_findBest 11 (.iconst 0) 1 12 := ⟨by decide +kernel, rfl⟩
theorem D_6_findBest_12 : Dec m_6_findBest 12 (.putfield 213) 3 15 := ⟨by decide +kernel, rfl⟩
theorem D_6_findBest_15 : Dec m_6_findBest 15 (.iconst 0) 1 16 := ⟨by decide +kernel, rfl⟩
theorem D_6_findBest_16 : Dec m_6_findBest 16 (.istore 4) 2 18 := ⟨by decide +kernel, rfl⟩
theorem D_6_findBest_18 : Dec m_6_findBest 18 (.iload 4) 2 20 := ⟨by decide +kernel, rfl⟩
theorem D_6_findBest_20 : Dec m_6_findBest 20 (.iconst 1) 1 21 := ⟨by decide +kernel, rfl⟩
theorem D_6_findBest_21 : Dec m_6_findBest 21 (.aload_n 0) 1 22 := ⟨by decide +kernel, rfl⟩
theorem D_6_findBest_22 : Dec m_6_findBest 22 (.getfield 118) 3 25 := ⟨by decide +kernel, rfl⟩
theorem D_6_findBest_25 : Dec m_6_findBest 25 (.ishl) 1 26 := ⟨by decide +kernel, rfl⟩
theorem D_6_findBest_26 : DecJ m_6_findBest 26 (.if_icmp .ge) 29 170 := ⟨144, by decide +kernel, rfl, rfl⟩
theorem D_6_findBest_29 : Dec m_6_findBest 29 (.iconst 0) 1 30 := ⟨by decide +kernel, rfl⟩
theorem D_6_findBest_30 : Dec m_6_findBest 30 (.istore 5) 2 32 := ⟨by decide +kernel, rfl⟩
theorem D_6_findBest_32 : Dec m_6_findBest 32 (.iconst 0) 1 33 := ⟨by decide +kernel, rfl⟩
theorem D_6_findBest_33 : Dec m_6_findBest 33 (.istore 6) 2 35 := ⟨by decide +kernel, rfl⟩
theorem D_6_findBest_35 : Dec m_6_findBest 35 (.iload 4) 2 37 := ⟨by decide +kernel, rfl⟩
theorem D_6_findBest_37 : Dec m_6_findBest 37 (.iload_n 3) 1 38 := ⟨by decide +kernel, rfl⟩
theorem D_6_findBest_38 : Dec m_6_findBest 38 (.iconst (-1)) 1 39 := ⟨by decide +kernel, rfl⟩
theorem D_6_findBest_39 : Dec m_6_findBest 39 (.ixor) 1 40 := ⟨by decide +kernel, rfl⟩
theorem D_6_findBest_40 : Dec m_6_findBest 40 (.iand) 1 41 := ⟨by decide +kernel, rfl⟩
theorem D_6_findBest_41 : DecJ m_6_findBest 41 (.ifCond .ne) 44 48 := ⟨7, by decide +kernel, rfl, rfl⟩
theorem D_6_findBest_44 : Dec m_6_findBest 44 (.iconst 1) 1 45 := ⟨by decide +kernel, rfl⟩
theorem D_6_findBest_45 : DecJ m_6_findBest 45 (.goto) 48 49 := ⟨4, by decide +kernel, rfl, rfl⟩
theorem D_6_findBest_48 : Dec m_6_findBest 48 (.iconst 0) 1 49 := ⟨by decide +kernel, rfl⟩
theorem D_6_findBest_49 : Dec m_6_findBest 49 (.istore 7) 2 51 := ⟨by decide +kernel, rfl⟩
theorem D_6_findBest_51 : Dec m_6_findBest 51 (.iconst 0) 1 52 := ⟨by decide +kernel, rfl⟩
theorem D_6_findBest_52 : Dec m_6_findBest 52 (.istore 8) 2 54 := ⟨by decide +kernel, rfl⟩
theorem D_6_findBest_54 : Dec m_6_findBest 54 (.iload 8) 2 56 := ⟨by decide +kernel, rfl⟩
theorem D_6_findBest_56 : Dec m_6_findBest 56 (.aload_n 0) 1 57 := ⟨by decide +kernel, rfl⟩
theorem D_6_findBest_57 : Dec m_6_findBest 57 (.getfield 118) 3 60 := ⟨by decide +kernel, rfl⟩
theorem D_6_findBest_60 : DecJ m_6_findBest 60 (.if_icmp .ge) 63 126 := ⟨66, by decide +kernel, rfl, rfl⟩
theorem D_6_findBest_63 : Dec m_6_findBest 63 (.iload 4) 2 65 := ⟨by decide +kernel, rfl⟩
theorem D_6_findBest_65 : Dec m_6_findBest 65 (.iload 8) 2 67 := ⟨by decide +kernel, rfl⟩
theorem D_6_findBest_67 : Dec m_6_findBest 67 (.invokestatic 177) 3 70 := ⟨by decide +kernel, rfl⟩
theorem D_6_findBest_70 : DecJ m_6_findBest 70 (.ifCond .eq) 73 120 := ⟨50, by decide +kernel, rfl, rfl⟩
theorem D_6_findBest_73 : Dec m_6_findBest 73 (.iload 7) 2 75 := ⟨by decide +kernel, rfl⟩
theorem D_6_findBest_75 : DecJ m_6_findBest 75 (.ifCond .eq) 78 93 := ⟨18, by decide +kernel, rfl, rfl⟩
theorem D_6_findBest_78 : Dec m_6_findBest 78 (.aload_n 0) 1 79 := ⟨by decide +kernel, rfl⟩
theorem D_6_findBest_79 : Dec m_6_findBest 79 (.getfield 16) 3 82 := ⟨by decide +kernel, rfl⟩
theorem D_6_findBest_82 : Dec m_6_findBest 82 (.iload 8) 2 84 := ⟨by decide +kernel, rfl⟩
theorem D_6_findBest_84 : Dec m_6_findBest 84 (.iaload) 1 85 := ⟨by decide +kernel, rfl⟩
theorem D_6_findBest_85 : Dec m_6_findBest 85 (.iload_n 1) 1 86 := ⟨by decide +kernel, rfl⟩
theorem D_6_findBest_86 : DecJ m_6_findBest 86 (.if_icmp .ne) 89 93 := ⟨7, by decide +kernel, rfl, rfl⟩
theorem D_6_findBest_89 : Dec m_6_findBest 89 (.iconst 1) 1 90 := ⟨by decide +kernel, rfl⟩
theorem D_6_findBest_90 : DecJ m_6_findBest 90 (.goto) 93 94 := ⟨4, by decide +kernel, rfl, rfl⟩
theorem D_6_findBest_93 : Dec m_6_findBest 93 (.iconst 0) 1 94 := ⟨by decide +kernel, rfl⟩
theorem D_6_findBest_94 : Dec m_6_findBest 94 (.istore 7) 2 96 := ⟨by decide +kernel, rfl⟩
theorem D_6_findBest_96 : Dec m_6_findBest 96 (.iload 5) 2 98 := ⟨by decide +kernel, rfl⟩
theorem D_6_findBest_98 : Dec m_6_findBest 98 (.aload_n 0) 1 99 := ⟨by decide +kernel, rfl⟩
theorem D_6_findBest_99 : Dec m_6_findBest 99 (.getfield 19) 3 102 := ⟨by decide +kernel, rfl⟩
theorem D_6_findBest_102 : Dec m_6_findBest 102 (.iload 8) 2 104 := ⟨by decide +kernel, rfl⟩
theorem D_6_findBest_104 : Dec m_6_findBest 104 (.iaload) 1 105 := ⟨by decide +kernel, rfl⟩
theorem D_6_findBest_105 : Dec m_6_findBest 105 (.iadd) 1 106 := ⟨by decide +kernel, rfl⟩
theorem D_6_findBest_106 : Dec m_6_findBest 106 (.istore 5) 2 108 := ⟨by decide +kernel, rfl⟩
theorem D_6_findBest_108 : Dec m_6_findBest 108 (.iload 6) 2 110 := ⟨by decide +kernel, rfl⟩
theorem D_6_findBest_110 : Dec m_6_findBest 110 (.aload_n 0) 1 111 := ⟨by decide +kernel, rfl⟩
theorem D_6_findBest_111 : Dec m_6_findBest 111 (.getfield 22) 3 114 := ⟨by decide +kernel, rfl⟩
theorem D_6_findBest_114 : Dec m_6_findBest 114 (.iload 8) 2 116 := ⟨by decide +kernel, rfl⟩
theorem D_6_findBest_116 : Dec m_6_findBest 116 (.iaload) 1 117 := ⟨by decide +kernel, rfl⟩
theorem D_6_findBest_117 : Dec m_6_findBest 117 (.iadd) 1 118 := ⟨by decide +kernel, rfl⟩
theorem D_6_findBest_118 : Dec m_6_findBest 118 (.istore 6) 2 120 := ⟨by decide +kernel, rfl⟩
theorem D_6_findBest_120 : Dec m_6_findBest 120 (.iinc 8 1) 3 123 := ⟨by decide +kernel, rfl⟩
theorem D_6_findBest_123 : DecJ m_6_findBest 123 (.goto) 126 54 := ⟨-69, by decide +kernel, rfl, rfl⟩
theorem D_6_findBest_126 : Dec m_6_findBest 126 (.iload 7) 2 128 := ⟨by decide +kernel, rfl⟩
theorem D_6_findBest_128 : DecJ m_6_findBest 128 (.ifCond .eq) 131 164 := ⟨36, by decide +kernel, rfl, rfl⟩
theorem D_6_findBest_131 : Dec m_6_findBest 131 (.iload 5) 2 133 := ⟨by decide +kernel, rfl⟩
theorem D_6_findBest_133 : Dec m_6_findBest 133 (.iload_n 2) 1 134 := ⟨by decide +kernel, rfl⟩
theorem D_6_findBest_134 : DecJ m_6_findBest 134 (.if_icmp .gt) 137 164 := ⟨30, by decide +kernel, rfl, rfl⟩
theorem D_6_findBest_137 : Dec m_6_findBest 137 (.iload 6) 2 139 := ⟨by decide +kernel, rfl⟩
theorem D_6_findBest_139 : Dec m_6_findBest 139 (.aload_n 0) 1 140 := ⟨by decide +kernel, rfl⟩
theorem D_6_findBest_140 : Dec m_6_findBest 140 (.getfield 210) 3 143 := ⟨by decide +kernel, rfl⟩
theorem D_6_findBest_143 : DecJ m_6_findBest 143 (.if_icmp .le) 146 164 := ⟨21, by decide +kernel, rfl, rfl⟩
theorem D_6_findBest_146 : Dec m_6_findBest 146 (.aload_n 0) 1 147 := ⟨by decide +kernel, rfl⟩
theorem D_6_findBest_147 : Dec m_6_findBest 147 (.iload 4) 2 149 := ⟨by decide +kernel, rfl⟩
theorem D_6_findBest_149 : Dec m_6_findBest 149 (.putfield 207) 3 152 := ⟨by decide +kernel, rfl⟩
theorem D_6_findBest_152 : Dec m_6_findBest 152 (.aload_n 0) 1 153 := ⟨by decide +kernel, rfl⟩
theorem D_6_findBest_153 : Dec m_6_findBest 153 (.iload 6) 2 155 := ⟨by decide +kernel, rfl⟩
theorem D_6_findBest_155 : Dec m_6_findBest 155 (.putfield 210) 3 158 := ⟨by decide +kernel, rfl⟩
theorem D_6_findBest_158 : Dec m_6_findBest 158 (.aload_n 0) 1 159 := ⟨by decide +kernel, rfl⟩
theorem D_6_findBest_159 : Dec m_6_findBest 159 (.iload 5) 2 161 := ⟨by decide +kernel, rfl⟩
theorem D_6_findBest_161 : Dec m_6_findBest 161 (.putfield 213) 3 164 := ⟨by decide +kernel, rfl⟩
theorem D_6_findBest_164 : Dec m_6_findBest 164 (.iinc 4 1) 3 167 := ⟨by decide +kernel, rfl⟩
theorem D_6_findBest_167 : DecJ m_6_findBest 167 (.goto) 170 18 := ⟨-149, by decide +kernel, rfl, rfl⟩
theorem D_6_findBest_170 : Dec m_6_findBest 170 (.return_) 1 171 := ⟨by decide +kernel, rfl⟩
theorem D_6_unsaid_0 : Dec m_6_unsaid 0 (.iconst 1) 1 1 := ⟨by decide +kernel, rfl⟩
theorem D_6_unsaid_1 : Dec m_6_unsaid 1 (.aload_n 0) 1 2 := ⟨by decide +kernel, rfl⟩
theorem D_6_unsaid_2 : Dec m_6_unsaid 2 (.getfield 118) 3 5 := ⟨by decide +kernel, rfl⟩
theorem D_6_unsaid_5 : Dec m_6_unsaid 5 (.ishl) 1 6 := ⟨by decide +kernel, rfl⟩
theorem D_6_unsaid_6 : Dec m_6_unsaid 6 (.iconst 1) 1 7 := ⟨by decide +kernel, rfl⟩
theorem D_6_unsaid_7 : Dec m_6_unsaid 7 (.isub) 1 8 := ⟨by decide +kernel, rfl⟩
theorem D_6_unsaid_8 : Dec m_6_unsaid 8 (.aload_n 0) 1 9 := ⟨by decide +kernel, rfl⟩
theorem D_6_unsaid_9 : Dec m_6_unsaid 9 (.getfield 34) 3 12 := ⟨by decide +kernel, rfl⟩
theorem D_6_unsaid_12 : Dec m_6_unsaid 12 (.iconst 4) 1 13 := ⟨by decide +kernel, rfl⟩
theorem D_6_unsaid_13 : Dec m_6_unsaid 13 (.iaload) 1 14 := ⟨by decide +kernel, rfl⟩
theorem D_6_unsaid_14 : Dec m_6_unsaid 14 (.iconst (-1)) 1 15 := ⟨by decide +kernel, rfl⟩
theorem D_6_unsaid_15 : Dec m_6_unsaid 15 (.ixor) 1 16 := ⟨by decide +kernel, rfl⟩
theorem D_6_unsaid_16 : Dec m_6_unsaid 16 (.iand) 1 17 := ⟨by decide +kernel, rfl⟩
theorem D_6_unsaid_17 : Dec m_6_unsaid 17 (.ireturn) 1 18 := ⟨by decide +kernel, rfl⟩
theorem D_6_best_0 : Dec m_6_best 0 (.aload_n 0) 1 1 := ⟨by decide +kernel, rfl⟩
theorem D_6_best_1 : Dec m_6_best 1 (.iload_n 1) 1 2 := ⟨by decide +kernel, rfl⟩
theorem D_6_best_2 : Dec m_6_best 2 (.invokevirtual 181) 3 5 := ⟨by decide +kernel, rfl⟩
theorem D_6_best_5 : DecJ m_6_best 5 (.ifCond .eq) 8 25 := ⟨20, by decide +kernel, rfl, rfl⟩
theorem D_6_best_8 : Dec m_6_best 8 (.aload_n 0) 1 9 := ⟨by decide +kernel, rfl⟩
theorem D_6_best_9 : Dec m_6_best 9 (.iload_n 2) 1 10 := ⟨by decide +kernel, rfl⟩
theorem D_6_best_10 : Dec m_6_best 10 (.invokevirtual 191) 3 13 := ⟨by decide +kernel, rfl⟩
theorem D_6_best_13 : DecJ m_6_best 13 (.ifCond .eq) 16 25 := ⟨12, by decide +kernel, rfl, rfl⟩
theorem D_6_best_16 : Dec m_6_best 16 (.iload_n 3) 1 17 := ⟨by decide +kernel, rfl⟩
theorem D_6_best_17 : Dec m_6_best 17 (.iconst 0) 1 18 := ⟨by decide +kernel, rfl⟩
theorem D_6_best_18 : Dec m_6_best 18 (.iconst 1) 1 19 := ⟨by decide +kernel, rfl⟩
theorem D_6_best_19 : Dec m_6_best 19 (.invokestatic 111) 3 22 := ⟨by decide +kernel, rfl⟩
theorem D_6_best_22 : DecJ m_6_best 22 (.ifCond .ne) 25 27 := ⟨5, by decide +kernel, rfl, rfl⟩
theorem D_6_best_25 : Dec m_6_best 25 (.iconst (-1)) 1 26 := ⟨by decide +kernel, rfl⟩
theorem D_6_best_26 : Dec m_6_best 26 (.ireturn) 1 27 := ⟨by decide +kernel, rfl⟩
theorem D_6_best_27 : Dec m_6_best 27 (.aload_n 0) 1 28 := ⟨by decide +kernel, rfl⟩
theorem D_6_best_28 : Dec m_6_best 28 (.iload_n 1) 1 29 := ⟨by decide +kernel, rfl⟩
theorem D_6_best_29 : Dec m_6_best 29 (.aload_n 0) 1 30 := ⟨by decide +kernel, rfl⟩
theorem D_6_best_30 : Dec m_6_best 30 (.getfield 13) 3 33 := ⟨by decide +kernel, rfl⟩
theorem D_6_best_33 : Dec m_6_best 33 (.iload_n 2) 1 34 := ⟨by decide +kernel, rfl⟩
theorem D_6_best_34 : Dec m_6_best 34 (.iaload) 1 35 := ⟨by decide +kernel, rfl⟩
theorem D_6_best_35 : Dec m_6_best 35 (.aload_n 0) 1 36 := ⟨by decide +kernel, rfl⟩
theorem D_6_best_36 : Dec m_6_best 36 (.getfield 34) 3 39 := ⟨by decide +kernel, rfl⟩
theorem D_6_best_39 : Dec m_6_best 39 (.bipush 11) 2 41 := ⟨by decide +kernel, rfl⟩
theorem D_6_best_41 : Dec m_6_best 41 (.iload_n 1) 1 42 := ⟨by decide +kernel, rfl⟩
theorem D_6_best_42 : Dec m_6_best 42 (.iadd) 1 43 := ⟨by decide +kernel, rfl⟩
theorem D_6_best_43 : Dec m_6_best 43 (.iaload) 1 44 := ⟨by decide +kernel, rfl⟩
theorem D_6_best_44 : Dec m_6_best 44 (.imul) 1 45 := ⟨by decide +kernel, rfl⟩
theorem D_6_best_45 : Dec m_6_best 45 (.aload_n 0) 1 46 := ⟨by decide +kernel, rfl⟩
theorem D_6_best_46 : Dec m_6_best 46 (.invokevirtual 216) 3 49 := ⟨by decide +kernel, rfl⟩
theorem D_6_best_49 : Dec m_6_best 49 (.invokevirtual 219) 3 52 := ⟨by decide +kernel, rfl⟩
theorem D_6_best_52 : Dec m_6_best 52 (.iload_n 3) 1 53 := ⟨by decide +kernel, rfl⟩
theorem D_6_best_53 : DecJ m_6_best 53 (.ifCond .ne) 56 63 := ⟨10, by decide +kernel, rfl, rfl⟩
theorem D_6_best_56 : Dec m_6_best 56 (.aload_n 0) 1 57 := ⟨by decide +kernel, rfl⟩
theorem D_6_best_57 : Dec m_6_best 57 (.getfield 207) 3 60 := ⟨by decide +kernel, rfl⟩
theorem D_6_best_60 : DecJ m_6_best 60 (.goto) 63 67 := ⟨7, by decide +kernel, rfl, rfl⟩
theorem D_6_best_63 : Dec m_6_best 63 (.aload_n 0) 1 64 := ⟨by decide +kernel, rfl⟩
theorem D_6_best_64 : Dec m_6_best 64 (.getfield 210) 3 67 := ⟨by decide +kernel, rfl⟩
theorem D_6_best_67 : Dec m_6_best 67 (.ireturn) 1 68 := ⟨by decide +kernel, rfl⟩
theorem D_6_layMouths_0 : Dec m_6_layMouths 0 (.iconst 0) 1 1 := ⟨by decide +kernel, rfl⟩
theorem D_6_layMouths_1 : Dec m_6_layMouths 1 (.istore_n 1) 1 2 := ⟨by decide +kernel, rfl⟩
theorem D_6_layMouths_2 : Dec m_6_layMouths 2 (.iload_n 1) 1 3 := ⟨by decide +kernel, rfl⟩
theorem D_6_layMouths_3 : Dec m_6_layMouths 3 (.aload_n 0) 1 4 := ⟨by decide +kernel, rfl⟩
theorem D_6_layMouths_4 : Dec m_6_layMouths 4 (.getfield 108) 3 7 := ⟨by decide +kernel, rfl⟩
theorem D_6_layMouths_7 : DecJ m_6_layMouths 7 (.if_icmp .ge) 10 31 := ⟨24, by decide +kernel, rfl, rfl⟩
theorem D_6_layMouths_10 : Dec m_6_layMouths 10 (.aload_n 0) 1 11 := ⟨by decide +kernel, rfl⟩
theorem D_6_layMouths_11 : Dec m_6_layMouths 11 (.getfield 73) 3 14 := ⟨by decide +kernel, rfl⟩
theorem D_6_layMouths_14 : Dec m_6_layMouths 14 (.iload_n 1) 1 15 := ⟨by decide +kernel, rfl⟩
theorem D_6_layMouths_15 : Dec m_6_layMouths 15 (.aload_n 0) 1 16 := ⟨by decide +kernel, rfl⟩
theorem D_6_layMouths_16 : Dec m_6_layMouths 16 (.getfield 34) 3 19 := ⟨by decide +kernel, rfl⟩
theorem D_6_layMouths_19 : Dec m_6_layMouths 19 (.bipush 11) 2 21 := ⟨by decide +kernel, rfl⟩
theorem D_6_layMouths_21 : Dec m_6_layMouths 21 (.iload_n 1) 1 22 := ⟨by decide +kernel, rfl⟩
theorem D_6_layMouths_22 : Dec m_6_layMouths 22 (.iadd) 1 23 := ⟨by decide +kernel, rfl⟩
theorem D_6_layMouths_23 : Dec m_6_layMouths 23 (.iaload) 1 24 := ⟨by decide +kernel, rfl⟩
theorem D_6_layMouths_24 : Dec m_6_layMouths 24 (.iastore) 1 25 := ⟨by decide +kernel, rfl⟩
theorem D_6_layMouths_25 : Dec m_6_layMouths 25 (.iinc 1 1) 3 28 := ⟨by decide +kernel, rfl⟩
theorem D_6_layMouths_28 : DecJ m_6_layMouths 28 (.goto) 31 2 := ⟨-26, by decide +kernel, rfl, rfl⟩
theorem D_6_layMouths_31 : Dec m_6_layMouths 31 (.return_) 1 32 := ⟨by decide +kernel, rfl⟩
theorem D_6_mayGive_0 : Dec m_6_mayGive 0 (.iload_n 3) 1 1 := ⟨by decide +kernel, rfl⟩
theorem D_6_mayGive_1 : Dec m_6_mayGive 1 (.iload_n 2) 1 2 := ⟨by decide +kernel, rfl⟩
theorem D_6_mayGive_2 : Dec m_6_mayGive 2 (.invokestatic 177) 3 5 := ⟨by decide +kernel, rfl⟩
theorem D_6_mayGive_5 : DecJ m_6_mayGive 5 (.ifCond .eq) 8 52 := ⟨47, by decide +kernel, rfl, rfl⟩
theorem D_6_mayGive_8 : Dec m_6_mayGive 8 (.aload_n 0) 1 9 := ⟨by decide +kernel, rfl⟩
theorem D_6_mayGive_9 : Dec m_6_mayGive 9 (.getfield 34) 3 12 := ⟨by decide +kernel, rfl⟩
theorem D_6_mayGive_12 : Dec m_6_mayGive 12 (.iconst 4) 1 13 := ⟨by decide +kernel, rfl⟩
theorem D_6_mayGive_13 : Dec m_6_mayGive 13 (.iaload) 1 14 := ⟨by decide +kernel, rfl⟩
theorem D_6_mayGive_14 : Dec m_6_mayGive 14 (.iload_n 1) 1 15 := ⟨by decide +kernel, rfl⟩
theorem D_6_mayGive_15 : Dec m_6_mayGive 15 (.invokestatic 177) 3 18 := ⟨by decide +kernel, rfl⟩
theorem D_6_mayGive_18 : DecJ m_6_mayGive 18 (.ifCond .ne) 21 52 := ⟨34, by decide +kernel, rfl, rfl⟩
theorem D_6_mayGive_21 : Dec m_6_mayGive 21 (.aload_n 0) 1 22 := ⟨by decide +kernel, rfl⟩
theorem D_6_mayGive_22 : Dec m_6_mayGive 22 (.getfield 13) 3 25 := ⟨by decide +kernel, rfl⟩
theorem D_6_mayGive_25 : Dec m_6_mayGive 25 (.iload_n 2) 1 26 := ⟨by decide +kernel, rfl⟩
theorem D_6_mayGive_26 : Dec m_6_mayGive 26 (.iaload) 1 27 := ⟨by decide +kernel, rfl⟩
theorem D_6_mayGive_27 : Dec m_6_mayGive 27 (.aload_n 0) 1 28 := ⟨by decide +kernel, rfl⟩
theorem D_6_mayGive_28 : Dec m_6_mayGive 28 (.getfield 73) 3 31 := ⟨by decide +kernel, rfl⟩
theorem D_6_mayGive_31 : Dec m_6_mayGive 31 (.aload_n 0) 1 32 := ⟨by decide +kernel, rfl⟩
theorem D_6_mayGive_32 : Dec m_6_mayGive 32 (.getfield 16) 3 35 := ⟨by decide +kernel, rfl⟩
theorem D_6_mayGive_35 : Dec m_6_mayGive 35 (.iload_n 1) 1 36 := ⟨by decide +kernel, rfl⟩
theorem D_6_mayGive_36 : Dec m_6_mayGive 36 (.iaload) 1 37 := ⟨by decide +kernel, rfl⟩
theorem D_6_mayGive_37 : Dec m_6_mayGive 37 (.iaload) 1 38 := ⟨by decide +kernel, rfl⟩
theorem D_6_mayGive_38 : Dec m_6_mayGive 38 (.imul) 1 39 := ⟨by decide +kernel, rfl⟩
theorem D_6_mayGive_39 : Dec m_6_mayGive 39 (.aload_n 0) 1 40 := ⟨by decide +kernel, rfl⟩
theorem D_6_mayGive_40 : Dec m_6_mayGive 40 (.getfield 19) 3 43 := ⟨by decide +kernel, rfl⟩
theorem D_6_mayGive_43 : Dec m_6_mayGive 43 (.iload_n 1) 1 44 := ⟨by decide +kernel, rfl⟩
theorem D_6_mayGive_44 : Dec m_6_mayGive 44 (.iaload) 1 45 := ⟨by decide +kernel, rfl⟩
theorem D_6_mayGive_45 : DecJ m_6_mayGive 45 (.if_icmp .lt) 48 52 := ⟨7, by decide +kernel, rfl, rfl⟩
theorem D_6_mayGive_48 : Dec m_6_mayGive 48 (.iconst 1) 1 49 := ⟨by decide +kernel, rfl⟩
theorem D_6_mayGive_49 : DecJ m_6_mayGive 49 (.goto) 52 53 := ⟨4, by decide +kernel, rfl, rfl⟩
theorem D_6_mayGive_52 : Dec m_6_mayGive 52 (.iconst 0) 1 53 := ⟨by decide +kernel, rfl⟩
theorem D_6_mayGive_53 : Dec m_6_mayGive 53 (.ireturn) 1 54 := ⟨by decide +kernel, rfl⟩
theorem D_6_givenBy_0 : Dec m_6_givenBy 0 (.aload_n 0) 1 1 := ⟨by decide +kernel, rfl⟩
theorem D_6_givenBy_1 : Dec m_6_givenBy 1 (.getfield 22) 3 4 := ⟨by decide +kernel, rfl⟩
theorem D_6_givenBy_4 : Dec m_6_givenBy 4 (.iload_n 1) 1 5 := ⟨by decide +kernel, rfl⟩
theorem D_6_givenBy_5 : Dec m_6_givenBy 5 (.iaload) 1 6 := ⟨by decide +kernel, rfl⟩
theorem D_6_givenBy_6 : Dec m_6_givenBy 6 (.aload_n 0) 1 7 := ⟨by decide +kernel, rfl⟩
theorem D_6_givenBy_7 : Dec m_6_givenBy 7 (.getfield 70) 3 10 := ⟨by decide +kernel, rfl⟩
theorem D_6_givenBy_10 : Dec m_6_givenBy 10 (.sipush 256) 3 13 := ⟨by decide +kernel, rfl⟩
theorem D_6_givenBy_13 : Dec m_6_givenBy 13 (.iload_n 1) 1 14 := ⟨by decide +kernel, rfl⟩
theorem D_6_givenBy_14 : Dec m_6_givenBy 14 (.iconst 1) 1 15 := ⟨by decide +kernel, rfl⟩
theorem D_6_givenBy_15 : Dec m_6_givenBy 15 (.iadd) 1 16 := ⟨by decide +kernel, rfl⟩
theorem D_6_givenBy_16 : Dec m_6_givenBy 16 (.imul) 1 17 := ⟨by decide +kernel, rfl⟩
theorem D_6_givenBy_17 : Dec m_6_givenBy 17 (.iload_n 3) 1 18 := ⟨by decide +kernel, rfl⟩
theorem D_6_givenBy_18 : Dec m_6_givenBy 18 (.iconst 1) 1 19 := ⟨by decide +kernel, rfl⟩
theorem D_6_givenBy_19 : Dec m_6_givenBy 19 (.iload_n 2) 1 20 := ⟨by decide +kernel, rfl⟩
theorem D_6_givenBy_20 : Dec m_6_givenBy 20 (.ishl) 1 21 := ⟨by decide +kernel, rfl⟩
theorem D_6_givenBy_21 : Dec m_6_givenBy 21 (.iconst (-1)) 1 22 := ⟨by decide +kernel, rfl⟩
theorem D_6_givenBy_22 : Dec m_6_givenBy 22 (.ixor) 1 23 := ⟨by decide +kernel, rfl⟩
theorem D_6_givenBy_23 : Dec m_6_givenBy 23 (.iand) 1 24 := ⟨by decide +kernel, rfl⟩
theorem D_6_givenBy_24 : Dec m_6_givenBy 24 (.iadd) 1 25 := ⟨by decide +kernel, rfl⟩
theorem D_6_givenBy_25 : Dec m_6_givenBy 25 (.iaload) 1 26 := ⟨by decide +kernel, rfl⟩
theorem D_6_givenBy_26 : Dec m_6_givenBy 26 (.iadd) 1 27 := ⟨by decide +kernel, rfl⟩
theorem D_6_givenBy_27 : Dec m_6_givenBy 27 (.ireturn) 1 28 := ⟨by decide +kernel, rfl⟩
theorem D_6_matches_0 : Dec m_6_matches 0 (.iconst 0) 1 1 := ⟨by decide +kernel, rfl⟩
theorem D_6_matches_1 : Dec m_6_matches 1 (.istore_n 1) 1 2 := ⟨by decide +kernel, rfl⟩
theorem D_6_matches_2 : Dec m_6_matches 2 (.iload_n 1) 1 3 := ⟨by decide +kernel, rfl⟩
theorem D_6_matches_3 : Dec m_6_matches 3 (.sipush 256) 3 6 := ⟨by decide +kernel, rfl⟩
theorem D_6_matches_6 : DecJ m_6_matches 6 (.if_icmp .ge) 9 31 := ⟨25, by decide +kernel, rfl, rfl⟩
theorem D_6_matches_9 : Dec m_6_matches 9 (.aload_n 0) 1 10 := ⟨by decide +kernel, rfl⟩
theorem D_6_matches_10 : Dec m_6_matches 10 (.getfield 70) 3 13 := ⟨by decide +kernel, rfl⟩
theorem D_6_matches_13 : Dec m_6_matches 13 (.sipush 256) 3 16 := ⟨by decide +kernel, rfl⟩
theorem D_6_matches_16 : Dec m_6_matches 16 (.aload_n 0) 1 17 := ⟨by decide +kernel, rfl⟩
theorem D_6_matches_17 : Dec m_6_matches 17 (.getfield 118) 3 20 := ⟨by decide +kernel, rfl⟩
theorem D_6_matches_20 : Dec m_6_matches 20 (.imul) 1 21 := ⟨by decide +kernel, rfl⟩
theorem D_6_matches_21 : Dec m_6_matches 21 (.iload_n 1) 1 22 := ⟨by decide +kernel, rfl⟩
theorem D_6_matches_22 : Dec m_6_matches 22 (.iadd) 1 23 := ⟨by decide +kernel, rfl⟩
theorem D_6_matches_23 : Dec m_6_matches 23 (.iconst 0) 1 24 := ⟨by decide +kernel, rfl⟩
theorem D_6_matches_24 : Dec m_6_matches 24 (.iastore) 1 25 := ⟨by decide +kernel, rfl⟩
theorem D_6_matches_25 : Dec m_6_matches 25 (.iinc 1 1) 3 28 := ⟨by decide +kernel, rfl⟩
theorem D_6_matches_28 : DecJ m_6_matches 28 (.goto) 31 2 := ⟨-26, by decide +kernel, rfl, rfl⟩
theorem D_6_matches_31 : Dec m_6_matches 31 (.aload_n 0) 1 32 := ⟨by decide +kernel, rfl⟩
theorem D_6_matches_32 : Dec m_6_matches 32 (.getfield 118) 3 35 := ⟨by decide +kernel, rfl⟩
theorem D_6_matches_35 : Dec m_6_matches 35 (.iconst 1) 1 36 := ⟨by decide +kernel, rfl⟩
theorem D_6_matches_36 : Dec m_6_matches 36 (.isub) 1 37 := ⟨by decide +kernel, rfl⟩
theorem D_6_matches_37 : Dec m_6_matches 37 (.istore_n 1) 1 38 := ⟨by decide +kernel, rfl⟩
end
section
theorem D_6_matches_38 : Dec m_6_matches 38 (.iload_n 1) 1 39 := ⟨by decide +kernel, rfl⟩
theorem D_6_matches_39 : DecJ m_6_matches 39 (.ifCond .lt) 42 150 := ⟨111, by decide +kernel, rfl, rfl⟩
theorem D_6_matches_42 : Dec m_6_matches 42 (.iconst 0) 1 43 := ⟨by decide +kernel, rfl⟩
theorem D_6_matches_43 : Dec m_6_matches 43 (.istore_n 2) 1 44 := ⟨by decide +kernel, rfl⟩
theorem D_6_matches_44 : Dec m_6_matches 44 (.iload_n 2) 1 45 := ⟨by decide +kernel, rfl⟩
theorem D_6_matches_45 : Dec m_6_matches 45 (.iconst 1) 1 46 := ⟨by decide +kernel, rfl⟩
theorem D_6_matches_46 : Dec m_6_matches 46 (.aload_n 0) 1 47 := ⟨by decide +kernel, rfl⟩
theorem D_6_matches_47 : Dec m_6_matches 47 (.getfield 115) 3 50 := ⟨by decide +kernel, rfl⟩
theorem D_6_matches_50 : Dec m_6_matches 50 (.ishl) 1 51 := ⟨by decide +kernel, rfl⟩
theorem D_6_matches_51 : DecJ m_6_matches 51 (.if_icmp .ge) 54 144 := ⟨93, by decide +kernel, rfl, rfl⟩
theorem D_6_matches_54 : Dec m_6_matches 54 (.aload_n 0) 1 55 := ⟨by decide +kernel, rfl⟩
theorem D_6_matches_55 : Dec m_6_matches 55 (.getfield 70) 3 58 := ⟨by decide +kernel, rfl⟩
theorem D_6_matches_58 : Dec m_6_matches 58 (.sipush 256) 3 61 := ⟨by decide +kernel, rfl⟩
theorem D_6_matches_61 : Dec m_6_matches 61 (.iload_n 1) 1 62 := ⟨by decide +kernel, rfl⟩
theorem D_6_matches_62 : Dec m_6_matches 62 (.iconst 1) 1 63 := ⟨by decide +kernel, rfl⟩
theorem D_6_matches_63 : Dec m_6_matches 63 (.iadd) 1 64 := ⟨by decide +kernel, rfl⟩
theorem D_6_matches_64 : Dec m_6_matches 64 (.imul) 1 65 := ⟨by decide +kernel, rfl⟩
theorem D_6_matches_65 : Dec m_6_matches 65 (.iload_n 2) 1 66 := ⟨by decide +kernel, rfl⟩
theorem D_6_matches_66 : Dec m_6_matches 66 (.iadd) 1 67 := ⟨by decide +kernel, rfl⟩
theorem D_6_matches_67 : Dec m_6_matches 67 (.iaload) 1 68 := ⟨by decide +kernel, rfl⟩
theorem D_6_matches_68 : Dec m_6_matches 68 (.istore_n 3) 1 69 := ⟨by decide +kernel, rfl⟩
theorem D_6_matches_69 : Dec m_6_matches 69 (.iconst 0) 1 70 := ⟨by decide +kernel, rfl⟩
theorem D_6_matches_70 : Dec m_6_matches 70 (.istore 4) 2 72 := ⟨by decide +kernel, rfl⟩
theorem D_6_matches_72 : Dec m_6_matches 72 (.iload 4) 2 74 := ⟨by decide +kernel, rfl⟩
theorem D_6_matches_74 : Dec m_6_matches 74 (.aload_n 0) 1 75 := ⟨by decide +kernel, rfl⟩
theorem D_6_matches_75 : Dec m_6_matches 75 (.getfield 115) 3 78 := ⟨by decide +kernel, rfl⟩
theorem D_6_matches_78 : DecJ m_6_matches 78 (.if_icmp .ge) 81 125 := ⟨47, by decide +kernel, rfl, rfl⟩
theorem D_6_matches_81 : Dec m_6_matches 81 (.aload_n 0) 1 82 := ⟨by decide +kernel, rfl⟩
theorem D_6_matches_82 : Dec m_6_matches 82 (.iload_n 1) 1 83 := ⟨by decide +kernel, rfl⟩
theorem D_6_matches_83 : Dec m_6_matches 83 (.iload 4) 2 85 := ⟨by decide +kernel, rfl⟩
theorem D_6_matches_85 : Dec m_6_matches 85 (.iload_n 2) 1 86 := ⟨by decide +kernel, rfl⟩
theorem D_6_matches_86 : Dec m_6_matches 86 (.invokevirtual 223) 3 89 := ⟨by decide +kernel, rfl⟩
theorem D_6_matches_89 : DecJ m_6_matches 89 (.ifCond .eq) 92 103 := ⟨14, by decide +kernel, rfl, rfl⟩
theorem D_6_matches_92 : Dec m_6_matches 92 (.aload_n 0) 1 93 := ⟨by decide +kernel, rfl⟩
theorem D_6_matches_93 : Dec m_6_matches 93 (.iload_n 1) 1 94 := ⟨by decide +kernel, rfl⟩
theorem D_6_matches_94 : Dec m_6_matches 94 (.iload 4) 2 96 := ⟨by decide +kernel, rfl⟩
theorem D_6_matches_96 : Dec m_6_matches 96 (.iload_n 2) 1 97 := ⟨by decide +kernel, rfl⟩
theorem D_6_matches_97 : Dec m_6_matches 97 (.invokevirtual 226) 3 100 := ⟨by decide +kernel, rfl⟩
theorem D_6_matches_100 : DecJ m_6_matches 100 (.goto) 103 104 := ⟨4, by decide +kernel, rfl, rfl⟩
theorem D_6_matches_103 : Dec m_6_matches 103 (.iconst (-1)) 1 104 := ⟨by decide +kernel, rfl⟩
theorem D_6_matches_104 : Dec m_6_matches 104 (.istore 5) 2 106 := ⟨by decide +kernel, rfl⟩
theorem D_6_matches_106 : Dec m_6_matches 106 (.iload 5) 2 108 := ⟨by decide +kernel, rfl⟩
theorem D_6_matches_108 : Dec m_6_matches 108 (.iload_n 3) 1 109 := ⟨by decide +kernel, rfl⟩
theorem D_6_matches_109 : DecJ m_6_matches 109 (.if_icmp .le) 112 117 := ⟨8, by decide +kernel, rfl, rfl⟩
theorem D_6_matches_112 : Dec m_6_matches 112 (.iload 5) 2 114 := ⟨by decide +kernel, rfl⟩
theorem D_6_matches_114 : DecJ m_6_matches 114 (.goto) 117 118 := ⟨4, by decide +kernel, rfl, rfl⟩
theorem D_6_matches_117 : Dec m_6_matches 117 (.iload_n 3) 1 118 := ⟨by decide +kernel, rfl⟩
theorem D_6_matches_118 : Dec m_6_matches 118 (.istore_n 3) 1 119 := ⟨by decide +kernel, rfl⟩
theorem D_6_matches_119 : Dec m_6_matches 119 (.iinc 4 1) 3 122 := ⟨by decide +kernel, rfl⟩
theorem D_6_matches_122 : DecJ m_6_matches 122 (.goto) 125 72 := ⟨-50, by decide +kernel, rfl, rfl⟩
theorem D_6_matches_125 : Dec m_6_matches 125 (.aload_n 0) 1 126 := ⟨by decide +kernel, rfl⟩
theorem D_6_matches_126 : Dec m_6_matches 126 (.getfield 70) 3 129 := ⟨by decide +kernel, rfl⟩
theorem D_6_matches_129 : Dec m_6_matches 129 (.sipush 256) 3 132 := ⟨by decide +kernel, rfl⟩
theorem D_6_matches_132 : Dec m_6_matches 132 (.iload_n 1) 1 133 := ⟨by decide +kernel, rfl⟩
theorem D_6_matches_133 : Dec m_6_matches 133 (.imul) 1 134 := ⟨by decide +kernel, rfl⟩
theorem D_6_matches_134 : Dec m_6_matches 134 (.iload_n 2) 1 135 := ⟨by decide +kernel, rfl⟩
theorem D_6_matches_135 : Dec m_6_matches 135 (.iadd) 1 136 := ⟨by decide +kernel, rfl⟩
theorem D_6_matches_136 : Dec m_6_matches 136 (.iload_n 3) 1 137 := ⟨by decide +kernel, rfl⟩
theorem D_6_matches_137 : Dec m_6_matches 137 (.iastore) 1 138 := ⟨by decide +kernel, rfl⟩
theorem D_6_matches_138 : Dec m_6_matches 138 (.iinc 2 1) 3 141 := ⟨by decide +kernel, rfl⟩
theorem D_6_matches_141 : DecJ m_6_matches 141 (.goto) 144 44 := ⟨-97, by decide +kernel, rfl, rfl⟩
theorem D_6_matches_144 : Dec m_6_matches 144 (.iinc 1 (-1)) 3 147 := ⟨by decide +kernel, rfl⟩
theorem D_6_matches_147 : DecJ m_6_matches 147 (.goto) 150 38 := ⟨-109, by decide +kernel, rfl, rfl⟩
theorem D_6_matches_150 : Dec m_6_matches 150 (.aload_n 0) 1 151 := ⟨by decide +kernel, rfl⟩
theorem D_6_matches_151 : Dec m_6_matches 151 (.getfield 34) 3 154 := ⟨by decide +kernel, rfl⟩
theorem D_6_matches_154 : Dec m_6_matches 154 (.iconst 3) 1 155 := ⟨by decide +kernel, rfl⟩
theorem D_6_matches_155 : Dec m_6_matches 155 (.iaload) 1 156 := ⟨by decide +kernel, rfl⟩
theorem D_6_matches_156 : Dec m_6_matches 156 (.istore_n 1) 1 157 := ⟨by decide +kernel, rfl⟩
theorem D_6_matches_157 : Dec m_6_matches 157 (.aload_n 0) 1 158 := ⟨by decide +kernel, rfl⟩
theorem D_6_matches_158 : Dec m_6_matches 158 (.getfield 70) 3 161 := ⟨by decide +kernel, rfl⟩
theorem D_6_matches_161 : Dec m_6_matches 161 (.iload_n 1) 1 162 := ⟨by decide +kernel, rfl⟩
theorem D_6_matches_162 : Dec m_6_matches 162 (.iaload) 1 163 := ⟨by decide +kernel, rfl⟩
theorem D_6_matches_163 : Dec m_6_matches 163 (.istore_n 2) 1 164 := ⟨by decide +kernel, rfl⟩
theorem D_6_matches_164 : Dec m_6_matches 164 (.iconst 0) 1 165 := ⟨by decide +kernel, rfl⟩
theorem D_6_matches_165 : Dec m_6_matches 165 (.istore_n 3) 1 166 := ⟨by decide +kernel, rfl⟩
theorem D_6_matches_166 : Dec m_6_matches 166 (.iload_n 3) 1 167 := ⟨by decide +kernel, rfl⟩
theorem D_6_matches_167 : Dec m_6_matches 167 (.aload_n 0) 1 168 := ⟨by decide +kernel, rfl⟩
theorem D_6_matches_168 : Dec m_6_matches 168 (.getfield 118) 3 171 := ⟨by decide +kernel, rfl⟩
theorem D_6_matches_171 : DecJ m_6_matches 171 (.if_icmp .ge) 174 274 := ⟨103, by decide +kernel, rfl, rfl⟩
theorem D_6_matches_174 : Dec m_6_matches 174 (.bipush (-4)) 2 176 := ⟨by decide +kernel, rfl⟩
theorem D_6_matches_176 : Dec m_6_matches 176 (.istore 4) 2 178 := ⟨by decide +kernel, rfl⟩
theorem D_6_matches_178 : Dec m_6_matches 178 (.aload_n 0) 1 179 := ⟨by decide +kernel, rfl⟩
theorem D_6_matches_179 : Dec m_6_matches 179 (.getfield 115) 3 182 := ⟨by decide +kernel, rfl⟩
theorem D_6_matches_182 : Dec m_6_matches 182 (.iconst 1) 1 183 := ⟨by decide +kernel, rfl⟩
theorem D_6_matches_183 : Dec m_6_matches 183 (.isub) 1 184 := ⟨by decide +kernel, rfl⟩
theorem D_6_matches_184 : Dec m_6_matches 184 (.istore 5) 2 186 := ⟨by decide +kernel, rfl⟩
theorem D_6_matches_186 : Dec m_6_matches 186 (.iload 5) 2 188 := ⟨by decide +kernel, rfl⟩
theorem D_6_matches_188 : DecJ m_6_matches 188 (.ifCond .lt) 191 240 := ⟨52, by decide +kernel, rfl, rfl⟩
theorem D_6_matches_191 : Dec m_6_matches 191 (.aload_n 0) 1 192 := ⟨by decide +kernel, rfl⟩
theorem D_6_matches_192 : Dec m_6_matches 192 (.iload_n 3) 1 193 := ⟨by decide +kernel, rfl⟩
theorem D_6_matches_193 : Dec m_6_matches 193 (.iload 5) 2 195 := ⟨by decide +kernel, rfl⟩
theorem D_6_matches_195 : Dec m_6_matches 195 (.iload_n 1) 1 196 := ⟨by decide +kernel, rfl⟩
theorem D_6_matches_196 : Dec m_6_matches 196 (.invokevirtual 223) 3 199 := ⟨by decide +kernel, rfl⟩
theorem D_6_matches_199 : DecJ m_6_matches 199 (.ifCond .eq) 202 230 := ⟨31, by decide +kernel, rfl, rfl⟩
theorem D_6_matches_202 : Dec m_6_matches 202 (.aload_n 0) 1 203 := ⟨by decide +kernel, rfl⟩
theorem D_6_matches_203 : Dec m_6_matches 203 (.iload_n 3) 1 204 := ⟨by decide +kernel, rfl⟩
theorem D_6_matches_204 : Dec m_6_matches 204 (.iload 5) 2 206 := ⟨by decide +kernel, rfl⟩
theorem D_6_matches_206 : Dec m_6_matches 206 (.iload_n 1) 1 207 := ⟨by decide +kernel, rfl⟩
theorem D_6_matches_207 : Dec m_6_matches 207 (.invokevirtual 226) 3 210 := ⟨by decide +kernel, rfl⟩
theorem D_6_matches_210 : Dec m_6_matches 210 (.aload_n 0) 1 211 := ⟨by decide +kernel, rfl⟩
theorem D_6_matches_211 : Dec m_6_matches 211 (.getfield 70) 3 214 := ⟨by decide +kernel, rfl⟩
theorem D_6_matches_214 : Dec m_6_matches 214 (.sipush 256) 3 217 := ⟨by decide +kernel, rfl⟩
theorem D_6_matches_217 : Dec m_6_matches 217 (.iload_n 3) 1 218 := ⟨by decide +kernel, rfl⟩
theorem D_6_matches_218 : Dec m_6_matches 218 (.imul) 1 219 := ⟨by decide +kernel, rfl⟩
theorem D_6_matches_219 : Dec m_6_matches 219 (.iload_n 1) 1 220 := ⟨by decide +kernel, rfl⟩
theorem D_6_matches_220 : Dec m_6_matches 220 (.iadd) 1 221 := ⟨by decide +kernel, rfl⟩
theorem D_6_matches_221 : Dec m_6_matches 221 (.iaload) 1 222 := ⟨by decide +kernel, rfl⟩
theorem D_6_matches_222 : DecJ m_6_matches 222 (.if_icmp .ne) 225 230 := ⟨8, by decide +kernel, rfl, rfl⟩
theorem D_6_matches_225 : Dec m_6_matches 225 (.iload 5) 2 227 := ⟨by decide +kernel, rfl⟩
theorem D_6_matches_227 : DecJ m_6_matches 227 (.goto) 230 232 := ⟨5, by decide +kernel, rfl, rfl⟩
theorem D_6_matches_230 : Dec m_6_matches 230 (.iload 4) 2 232 := ⟨by decide +kernel, rfl⟩
theorem D_6_matches_232 : Dec m_6_matches 232 (.istore 4) 2 234 := ⟨by decide +kernel, rfl⟩
theorem D_6_matches_234 : Dec m_6_matches 234 (.iinc 5 (-1)) 3 237 := ⟨by decide +kernel, rfl⟩
theorem D_6_matches_237 : DecJ m_6_matches 237 (.goto) 240 186 := ⟨-51, by decide +kernel, rfl, rfl⟩
theorem D_6_matches_240 : Dec m_6_matches 240 (.aload_n 0) 1 241 := ⟨by decide +kernel, rfl⟩
theorem D_6_matches_241 : Dec m_6_matches 241 (.getfield 76) 3 244 := ⟨by decide +kernel, rfl⟩
theorem D_6_matches_244 : Dec m_6_matches 244 (.iload_n 3) 1 245 := ⟨by decide +kernel, rfl⟩
theorem D_6_matches_245 : Dec m_6_matches 245 (.iload 4) 2 247 := ⟨by decide +kernel, rfl⟩
theorem D_6_matches_247 : Dec m_6_matches 247 (.iastore) 1 248 := ⟨by decide +kernel, rfl⟩
theorem D_6_matches_248 : Dec m_6_matches 248 (.iload_n 1) 1 249 := ⟨by decide +kernel, rfl⟩
theorem D_6_matches_249 : Dec m_6_matches 249 (.iload 4) 2 251 := ⟨by decide +kernel, rfl⟩
theorem D_6_matches_251 : Dec m_6_matches 251 (.bipush (-4)) 2 253 := ⟨by decide +kernel, rfl⟩
theorem D_6_matches_253 : DecJ m_6_matches 253 (.if_icmp .ne) 256 260 := ⟨7, by decide +kernel, rfl, rfl⟩
theorem D_6_matches_256 : Dec m_6_matches 256 (.iconst (-1)) 1 257 := ⟨by decide +kernel, rfl⟩
theorem D_6_matches_257 : DecJ m_6_matches 257 (.goto) 260 266 := ⟨9, by decide +kernel, rfl, rfl⟩
theorem D_6_matches_260 : Dec m_6_matches 260 (.iconst 1) 1 261 := ⟨by decide +kernel, rfl⟩
theorem D_6_matches_261 : Dec m_6_matches 261 (.iload 4) 2 263 := ⟨by decide +kernel, rfl⟩
theorem D_6_matches_263 : Dec m_6_matches 263 (.ishl) 1 264 := ⟨by decide +kernel, rfl⟩
theorem D_6_matches_264 : Dec m_6_matches 264 (.iconst (-1)) 1 265 := ⟨by decide +kernel, rfl⟩
theorem D_6_matches_265 : Dec m_6_matches 265 (.ixor) 1 266 := ⟨by decide +kernel, rfl⟩
theorem D_6_matches_266 : Dec m_6_matches 266 (.iand) 1 267 := ⟨by decide +kernel, rfl⟩
theorem D_6_matches_267 : Dec m_6_matches 267 (.istore_n 1) 1 268 := ⟨by decide +kernel, rfl⟩
theorem D_6_matches_268 : Dec m_6_matches 268 (.iinc 3 1) 3 271 := ⟨by decide +kernel, rfl⟩
theorem D_6_matches_271 : DecJ m_6_matches 271 (.goto) 274 166 := ⟨-105, by decide +kernel, rfl, rfl⟩
theorem D_6_matches_274 : Dec m_6_matches 274 (.iload_n 2) 1 275 := ⟨by decide +kernel, rfl⟩
theorem D_6_matches_275 : Dec m_6_matches 275 (.ireturn) 1 276 := ⟨by decide +kernel, rfl⟩
theorem D_6_match_0 : Dec m_6_match 0 (.iload_n 1) 1 1 := ⟨by decide +kernel, rfl⟩
theorem D_6_match_1 : Dec m_6_match 1 (.iconst (-1)) 1 2 := ⟨by decide +kernel, rfl⟩
theorem D_6_match_2 : DecJ m_6_match 2 (.if_icmp .eq) 5 15 := ⟨13, by decide +kernel, rfl, rfl⟩
theorem D_6_match_5 : Dec m_6_match 5 (.aload_n 0) 1 6 := ⟨by decide +kernel, rfl⟩
theorem D_6_match_6 : Dec m_6_match 6 (.iload_n 1) 1 7 := ⟨by decide +kernel, rfl⟩
theorem D_6_match_7 : Dec m_6_match 7 (.invokevirtual 188) 3 10 := ⟨by decide +kernel, rfl⟩
theorem D_6_match_10 : DecJ m_6_match 10 (.ifCond .ne) 13 15 := ⟨5, by decide +kernel, rfl, rfl⟩
theorem D_6_match_13 : Dec m_6_match 13 (.iconst (-1)) 1 14 := ⟨by decide +kernel, rfl⟩
theorem D_6_match_14 : Dec m_6_match 14 (.ireturn) 1 15 := ⟨by decide +kernel, rfl⟩
theorem D_6_match_15 : Dec m_6_match 15 (.aload_n 0) 1 16 := ⟨by decide +kernel, rfl⟩
theorem D_6_match_16 : Dec m_6_match 16 (.invokevirtual 230) 3 19 := ⟨by decide +kernel, rfl⟩
theorem D_6_match_19 : Dec m_6_match 19 (.aload_n 0) 1 20 := ⟨by decide +kernel, rfl⟩
theorem D_6_match_20 : Dec m_6_match 20 (.invokevirtual 233) 3 23 := ⟨by decide +kernel, rfl⟩
theorem D_6_match_23 : Dec m_6_match 23 (.istore_n 2) 1 24 := ⟨by decide +kernel, rfl⟩
theorem D_6_match_24 : Dec m_6_match 24 (.iload_n 1) 1 25 := ⟨by decide +kernel, rfl⟩
theorem D_6_match_25 : Dec m_6_match 25 (.iconst (-1)) 1 26 := ⟨by decide +kernel, rfl⟩
theorem D_6_match_26 : DecJ m_6_match 26 (.if_icmp .ne) 29 33 := ⟨7, by decide +kernel, rfl, rfl⟩
theorem D_6_match_29 : Dec m_6_match 29 (.iload_n 2) 1 30 := ⟨by decide +kernel, rfl⟩
theorem D_6_match_30 : DecJ m_6_match 30 (.goto) 33 39 := ⟨9, by decide +kernel, rfl, rfl⟩
theorem D_6_match_33 : Dec m_6_match 33 (.aload_n 0) 1 34 := ⟨by decide +kernel, rfl⟩
theorem D_6_match_34 : Dec m_6_match 34 (.getfield 76) 3 37 := ⟨by decide +kernel, rfl⟩
theorem D_6_match_37 : Dec m_6_match 37 (.iload_n 1) 1 38 := ⟨by decide +kernel, rfl⟩
theorem D_6_match_38 : Dec m_6_match 38 (.iaload) 1 39 := ⟨by decide +kernel, rfl⟩
theorem D_6_match_39 : Dec m_6_match 39 (.ireturn) 1 40 := ⟨by decide +kernel, rfl⟩
theorem D_6_nextRow_0 : Dec m_6_nextRow 0 (.aload_n 0) 1 1 := ⟨by decide +kernel, rfl⟩
theorem D_6_nextRow_1 : Dec m_6_nextRow 1 (.getfield 236) 3 4 := ⟨by decide +kernel, rfl⟩
theorem D_6_nextRow_4 : Dec m_6_nextRow 4 (.iconst 2) 1 5 := ⟨by decide +kernel, rfl⟩
theorem D_6_nextRow_5 : Dec m_6_nextRow 5 (.isub) 1 6 := ⟨by decide +kernel, rfl⟩
theorem D_6_nextRow_6 : Dec m_6_nextRow 6 (.istore_n 1) 1 7 := ⟨by decide +kernel, rfl⟩
theorem D_6_nextRow_7 : Dec m_6_nextRow 7 (.iload_n 1) 1 8 := ⟨by decide +kernel, rfl⟩
theorem D_6_nextRow_8 : DecJ m_6_nextRow 8 (.ifCond .lt) 11 34 := ⟨26, by decide +kernel, rfl, rfl⟩
theorem D_6_nextRow_11 : Dec m_6_nextRow 11 (.aload_n 0) 1 12 := ⟨by decide +kernel, rfl⟩
theorem D_6_nextRow_12 : Dec m_6_nextRow 12 (.getfield 79) 3 15 := ⟨by decide +kernel, rfl⟩
theorem D_6_nextRow_15 : Dec m_6_nextRow 15 (.iload_n 1) 1 16 := ⟨by decide +kernel, rfl⟩
theorem D_6_nextRow_16 : Dec m_6_nextRow 16 (.iaload) 1 17 := ⟨by decide +kernel, rfl⟩
theorem D_6_nextRow_17 : Dec m_6_nextRow 17 (.aload_n 0) 1 18 := ⟨by decide +kernel, rfl⟩
theorem D_6_nextRow_18 : Dec m_6_nextRow 18 (.getfield 79) 3 21 := ⟨by decide +kernel, rfl⟩
theorem D_6_nextRow_21 : Dec m_6_nextRow 21 (.iload_n 1) 1 22 := ⟨by decide +kernel, rfl⟩
theorem D_6_nextRow_22 : Dec m_6_nextRow 22 (.iconst 1) 1 23 := ⟨by decide +kernel, rfl⟩
theorem D_6_nextRow_23 : Dec m_6_nextRow 23 (.iadd) 1 24 := ⟨by decide +kernel, rfl⟩
theorem D_6_nextRow_24 : Dec m_6_nextRow 24 (.iaload) 1 25 := ⟨by decide +kernel, rfl⟩
theorem D_6_nextRow_25 : DecJ m_6_nextRow 25 (.if_icmp .le) 28 34 := ⟨9, by decide +kernel, rfl, rfl⟩
theorem D_6_nextRow_28 : Dec m_6_nextRow 28 (.iinc 1 (-1)) 3 31 := ⟨by decide +kernel, rfl⟩
theorem D_6_nextRow_31 : DecJ m_6_nextRow 31 (.goto) 34 7 := ⟨-24, by decide +kernel, rfl, rfl⟩
theorem D_6_nextRow_34 : Dec m_6_nextRow 34 (.iload_n 1) 1 35 := ⟨by decide +kernel, rfl⟩
theorem D_6_nextRow_35 : DecJ m_6_nextRow 35 (.ifCond .ge) 38 40 := ⟨5, by decide +kernel, rfl, rfl⟩
theorem D_6_nextRow_38 : Dec m_6_nextRow 38 (.iconst 0) 1 39 := ⟨by decide +kernel, rfl⟩
theorem D_6_nextRow_39 : Dec m_6_nextRow 39 (.ireturn) 1 40 := ⟨by decide +kernel, rfl⟩
theorem D_6_nextRow_40 : Dec m_6_nextRow 40 (.aload_n 0) 1 41 := ⟨by decide +kernel, rfl⟩
theorem D_6_nextRow_41 : Dec m_6_nextRow 41 (.getfield 236) 3 44 := ⟨by decide +kernel, rfl⟩
theorem D_6_nextRow_44 : Dec m_6_nextRow 44 (.iconst 1) 1 45 := ⟨by decide +kernel, rfl⟩
theorem D_6_nextRow_45 : Dec m_6_nextRow 45 (.isub) 1 46 := ⟨by decide +kernel, rfl⟩
theorem D_6_nextRow_46 : Dec m_6_nextRow 46 (.istore_n 2) 1 47 := ⟨by decide +kernel, rfl⟩
theorem D_6_nextRow_47 : Dec m_6_nextRow 47 (.aload_n 0) 1 48 := ⟨by decide +kernel, rfl⟩
theorem D_6_nextRow_48 : Dec m_6_nextRow 48 (.getfield 79) 3 51 := ⟨by decide +kernel, rfl⟩
theorem D_6_nextRow_51 : Dec m_6_nextRow 51 (.iload_n 2) 1 52 := ⟨by decide +kernel, rfl⟩
theorem D_6_nextRow_52 : Dec m_6_nextRow 52 (.iaload) 1 53 := ⟨by decide +kernel, rfl⟩
theorem D_6_nextRow_53 : Dec m_6_nextRow 53 (.aload_n 0) 1 54 := ⟨by decide +kernel, rfl⟩
theorem D_6_nextRow_54 : Dec m_6_nextRow 54 (.getfield 79) 3 57 := ⟨by decide +kernel, rfl⟩
theorem D_6_nextRow_57 : Dec m_6_nextRow 57 (.iload_n 1) 1 58 := ⟨by decide +kernel, rfl⟩
theorem D_6_nextRow_58 : Dec m_6_nextRow 58 (.iaload) 1 59 := ⟨by decide +kernel, rfl⟩
theorem D_6_nextRow_59 : DecJ m_6_nextRow 59 (.if_icmp .ge) 62 68 := ⟨9, by decide +kernel, rfl, rfl⟩
theorem D_6_nextRow_62 : Dec m_6_nextRow 62 (.iinc 2 (-1)) 3 65 := ⟨by decide +kernel, rfl⟩
theorem D_6_nextRow_65 : DecJ m_6_nextRow 65 (.goto) 68 47 := ⟨-18, by decide +kernel, rfl, rfl⟩
theorem D_6_nextRow_68 : Dec m_6_nextRow 68 (.aload_n 0) 1 69 := ⟨by decide +kernel, rfl⟩
theorem D_6_nextRow_69 : Dec m_6_nextRow 69 (.iload_n 1) 1 70 := ⟨by decide +kernel, rfl⟩
theorem D_6_nextRow_70 : Dec m_6_nextRow 70 (.iload_n 2) 1 71 := ⟨by decide +kernel, rfl⟩
theorem D_6_nextRow_71 : Dec m_6_nextRow 71 (.invokevirtual 239) 3 74 := ⟨by decide +kernel, rfl⟩
theorem D_6_nextRow_74 : Dec m_6_nextRow 74 (.iload_n 1) 1 75 := ⟨by decide +kernel, rfl⟩
theorem D_6_nextRow_75 : Dec m_6_nextRow 75 (.iconst 1) 1 76 := ⟨by decide +kernel, rfl⟩
theorem D_6_nextRow_76 : Dec m_6_nextRow 76 (.iadd) 1 77 := ⟨by decide +kernel, rfl⟩
theorem D_6_nextRow_77 : Dec m_6_nextRow 77 (.istore_n 3) 1 78 := ⟨by decide +kernel, rfl⟩
theorem D_6_nextRow_78 : Dec m_6_nextRow 78 (.aload_n 0) 1 79 := ⟨by decide +kernel, rfl⟩
theorem D_6_nextRow_79 : Dec m_6_nextRow 79 (.getfield 236) 3 82 := ⟨by decide +kernel, rfl⟩
theorem D_6_nextRow_82 : Dec m_6_nextRow 82 (.iconst 1) 1 83 := ⟨by decide +kernel, rfl⟩
theorem D_6_nextRow_83 : Dec m_6_nextRow 83 (.isub) 1 84 := ⟨by decide +kernel, rfl⟩
theorem D_6_nextRow_84 : Dec m_6_nextRow 84 (.istore 4) 2 86 := ⟨by decide +kernel, rfl⟩
theorem D_6_nextRow_86 : Dec m_6_nextRow 86 (.iload_n 3) 1 87 := ⟨by decide +kernel, rfl⟩
theorem D_6_nextRow_87 : Dec m_6_nextRow 87 (.iload 4) 2 89 := ⟨by decide +kernel, rfl⟩
theorem D_6_nextRow_89 : DecJ m_6_nextRow 89 (.if_icmp .ge) 92 108 := ⟨19, by decide +kernel, rfl, rfl⟩
theorem D_6_nextRow_92 : Dec m_6_nextRow 92 (.aload_n 0) 1 93 := ⟨by decide +kernel, rfl⟩
theorem D_6_nextRow_93 : Dec m_6_nextRow 93 (.iload_n 3) 1 94 := ⟨by decide +kernel, rfl⟩
theorem D_6_nextRow_94 : Dec m_6_nextRow 94 (.iload 4) 2 96 := ⟨by decide +kernel, rfl⟩
theorem D_6_nextRow_96 : Dec m_6_nextRow 96 (.invokevirtual 239) 3 99 := ⟨by decide +kernel, rfl⟩
theorem D_6_nextRow_99 : Dec m_6_nextRow 99 (.iinc 3 1) 3 102 := ⟨by decide +kernel, rfl⟩
theorem D_6_nextRow_102 : Dec m_6_nextRow 102 (.iinc 4 (-1)) 3 105 := ⟨by decide +kernel, rfl⟩
theorem D_6_nextRow_105 : DecJ m_6_nextRow 105 (.goto) 108 86 := ⟨-19, by decide +kernel, rfl, rfl⟩
theorem D_6_nextRow_108 : Dec m_6_nextRow 108 (.iconst 1) 1 109 := ⟨by decide +kernel, rfl⟩
theorem D_6_nextRow_109 : Dec m_6_nextRow 109 (.ireturn) 1 110 := ⟨by decide +kernel, rfl⟩
theorem D_6_swap_0 : Dec m_6_swap 0 (.aload_n 0) 1 1 := ⟨by decide +kernel, rfl⟩
theorem D_6_swap_1 : Dec m_6_swap 1 (.getfield 79) 3 4 := ⟨by decide +kernel, rfl⟩
theorem D_6_swap_4 : Dec m_6_swap 4 (.iload_n 1) 1 5 := ⟨by decide +kernel, rfl⟩
theorem D_6_swap_5 : Dec m_6_swap 5 (.iaload) 1 6 := ⟨by decide +kernel, rfl⟩
theorem D_6_swap_6 : Dec m_6_swap 6 (.istore_n 3) 1 7 := ⟨by decide +kernel, rfl⟩
theorem D_6_swap_7 : Dec m_6_swap 7 (.aload_n 0) 1 8 := ⟨by decide +kernel, rfl⟩
theorem D_6_swap_8 : Dec m_6_swap 8 (.getfield 79) 3 11 := ⟨by decide +kernel, rfl⟩
theorem D_6_swap_11 : Dec m_6_swap 11 (.iload_n 1) 1 12 := ⟨by decide +kernel, rfl⟩
theorem D_6_swap_12 : Dec m_6_swap 12 (.aload_n 0) 1 13 := ⟨by decide +kernel, rfl⟩
theorem D_6_swap_13 : Dec m_6_swap 13 (.getfield 79) 3 16 := ⟨by decide +kernel, rfl⟩
theorem D_6_swap_16 : Dec m_6_swap 16 (.iload_n 2) 1 17 := ⟨by decide +kernel, rfl⟩
theorem D_6_swap_17 : Dec m_6_swap 17 (.iaload) 1 18 := ⟨by decide +kernel, rfl⟩
theorem D_6_swap_18 : Dec m_6_swap 18 (.iastore) 1 19 := ⟨by decide +kernel, rfl⟩
theorem D_6_swap_19 : Dec m_6_swap 19 (.aload_n 0) 1 20 := ⟨by decide +kernel, rfl⟩
theorem D_6_swap_20 : Dec m_6_swap 20 (.getfield 79) 3 23 := ⟨by decide +kernel, rfl⟩
theorem D_6_swap_23 : Dec m_6_swap 23 (.iload_n 2) 1 24 := ⟨by decide +kernel, rfl⟩
theorem D_6_swap_24 : Dec m_6_swap 24 (.iload_n 3) 1 25 := ⟨by decide +kernel, rfl⟩
theorem D_6_swap_25 : Dec m_6_swap 25 (.iastore) 1 26 := ⟨by decide +kernel, rfl⟩
theorem D_6_swap_26 : Dec m_6_swap 26 (.return_) 1 27 := ⟨by decide +kernel, rfl⟩
theorem D_6_keepsAnswers_0 : Dec m_6_keepsAnswers 0 (.iconst 0) 1 1 := ⟨by decide +kernel, rfl⟩
theorem D_6_keepsAnswers_1 : Dec m_6_keepsAnswers 1 (.istore_n 1) 1 2 := ⟨by decide +kernel, rfl⟩
theorem D_6_keepsAnswers_2 : Dec m_6_keepsAnswers 2 (.iconst 1) 1 3 := ⟨by decide +kernel, rfl⟩
theorem D_6_keepsAnswers_3 : Dec m_6_keepsAnswers 3 (.istore_n 2) 1 4 := ⟨by decide +kernel, rfl⟩
theorem D_6_keepsAnswers_4 : Dec m_6_keepsAnswers 4 (.iconst 0) 1 5 := ⟨by decide +kernel, rfl⟩
theorem D_6_keepsAnswers_5 : Dec m_6_keepsAnswers 5 (.istore_n 3) 1 6 := ⟨by decide +kernel, rfl⟩
theorem D_6_keepsAnswers_6 : Dec m_6_keepsAnswers 6 (.iload_n 3) 1 7 := ⟨by decide +kernel, rfl⟩
theorem D_6_keepsAnswers_7 : Dec m_6_keepsAnswers 7 (.aload_n 0) 1 8 := ⟨by decide +kernel, rfl⟩
theorem D_6_keepsAnswers_8 : Dec m_6_keepsAnswers 8 (.getfield 236) 3 11 := ⟨by decide +kernel, rfl⟩
theorem D_6_keepsAnswers_11 : DecJ m_6_keepsAnswers 11 (.if_icmp .ge) 14 82 := ⟨71, by decide +kernel, rfl, rfl⟩
theorem D_6_keepsAnswers_14 : Dec m_6_keepsAnswers 14 (.aload_n 0) 1 15 := ⟨by decide +kernel, rfl⟩
theorem D_6_keepsAnswers_15 : Dec m_6_keepsAnswers 15 (.getfield 25) 3 18 := ⟨by decide +kernel, rfl⟩
theorem D_6_keepsAnswers_18 : Dec m_6_keepsAnswers 18 (.aload_n 0) 1 19 := ⟨by decide +kernel, rfl⟩
theorem D_6_keepsAnswers_19 : Dec m_6_keepsAnswers 19 (.getfield 79) 3 22 := ⟨by decide +kernel, rfl⟩
theorem D_6_keepsAnswers_22 : Dec m_6_keepsAnswers 22 (.iload_n 3) 1 23 := ⟨by decide +kernel, rfl⟩
theorem D_6_keepsAnswers_23 : Dec m_6_keepsAnswers 23 (.iaload) 1 24 := ⟨by decide +kernel, rfl⟩
theorem D_6_keepsAnswers_24 : Dec m_6_keepsAnswers 24 (.iaload) 1 25 := ⟨by decide +kernel, rfl⟩
theorem D_6_keepsAnswers_25 : Dec m_6_keepsAnswers 25 (.istore 4) 2 27 := ⟨by decide +kernel, rfl⟩
theorem D_6_keepsAnswers_27 : Dec m_6_keepsAnswers 27 (.iload_n 2) 1 28 := ⟨by decide +kernel, rfl⟩
theorem D_6_keepsAnswers_28 : DecJ m_6_keepsAnswers 28 (.ifCond .eq) 31 63 := ⟨35, by decide +kernel, rfl, rfl⟩
theorem D_6_keepsAnswers_31 : Dec m_6_keepsAnswers 31 (.iload 4) 2 33 := ⟨by decide +kernel, rfl⟩
theorem D_6_keepsAnswers_33 : Dec m_6_keepsAnswers 33 (.bipush (-4)) 2 35 := ⟨by decide +kernel, rfl⟩
theorem D_6_keepsAnswers_35 : DecJ m_6_keepsAnswers 35 (.if_icmp .eq) 38 59 := ⟨24, by decide +kernel, rfl, rfl⟩
theorem D_6_keepsAnswers_38 : Dec m_6_keepsAnswers 38 (.aload_n 0) 1 39 := ⟨by decide +kernel, rfl⟩
theorem D_6_keepsAnswers_39 : Dec m_6_keepsAnswers 39 (.getfield 76) 3 42 := ⟨by decide +kernel, rfl⟩
theorem D_6_keepsAnswers_42 : Dec m_6_keepsAnswers 42 (.iload 4) 2 44 := ⟨by decide +kernel, rfl⟩
theorem D_6_keepsAnswers_44 : Dec m_6_keepsAnswers 44 (.iaload) 1 45 := ⟨by decide +kernel, rfl⟩
theorem D_6_keepsAnswers_45 : Dec m_6_keepsAnswers 45 (.bipush (-4)) 2 47 := ⟨by decide +kernel, rfl⟩
theorem D_6_keepsAnswers_47 : DecJ m_6_keepsAnswers 47 (.if_icmp .eq) 50 59 := ⟨12, by decide +kernel, rfl, rfl⟩
theorem D_6_keepsAnswers_50 : Dec m_6_keepsAnswers 50 (.iload_n 1) 1 51 := ⟨by decide +kernel, rfl⟩
theorem D_6_keepsAnswers_51 : Dec m_6_keepsAnswers 51 (.iload 4) 2 53 := ⟨by decide +kernel, rfl⟩
theorem D_6_keepsAnswers_53 : Dec m_6_keepsAnswers 53 (.invokestatic 177) 3 56 := ⟨by decide +kernel, rfl⟩
theorem D_6_keepsAnswers_56 : DecJ m_6_keepsAnswers 56 (.ifCond .eq) 59 63 := ⟨7, by decide +kernel, rfl, rfl⟩
theorem D_6_keepsAnswers_59 : Dec m_6_keepsAnswers 59 (.iconst 1) 1 60 := ⟨by decide +kernel, rfl⟩
theorem D_6_keepsAnswers_60 : DecJ m_6_keepsAnswers 60 (.goto) 63 64 := ⟨4, by decide +kernel, rfl, rfl⟩
theorem D_6_keepsAnswers_63 : Dec m_6_keepsAnswers 63 (.iconst 0) 1 64 := ⟨by decide +kernel, rfl⟩
theorem D_6_keepsAnswers_64 : Dec m_6_keepsAnswers 64 (.istore_n 2) 1 65 := ⟨by decide +kernel, rfl⟩
theorem D_6_keepsAnswers_65 : Dec m_6_keepsAnswers 65 (.iload_n 1) 1 66 := ⟨by decide +kernel, rfl⟩
theorem D_6_keepsAnswers_66 : Dec m_6_keepsAnswers 66 (.iconst 1) 1 67 := ⟨by decide +kernel, rfl⟩
theorem D_6_keepsAnswers_67 : Dec m_6_keepsAnswers 67 (.aload_n 0) 1 68 := ⟨by decide +kernel, rfl⟩
theorem D_6_keepsAnswers_68 : Dec m_6_keepsAnswers 68 (.getfield 79) 3 71 := ⟨by decide +kernel, rfl⟩
theorem D_6_keepsAnswers_71 : Dec m_6_keepsAnswers 71 (.iload_n 3) 1 72 := ⟨by decide +kernel, rfl⟩
theorem D_6_keepsAnswers_72 : Dec m_6_keepsAnswers 72 (.iaload) 1 73 := ⟨by decide +kernel, rfl⟩
theorem D_6_keepsAnswers_73 : Dec m_6_keepsAnswers 73 (.ishl) 1 74 := ⟨by decide +kernel, rfl⟩
theorem D_6_keepsAnswers_74 : Dec m_6_keepsAnswers 74 (.ior) 1 75 := ⟨by decide +kernel, rfl⟩
theorem D_6_keepsAnswers_75 : Dec m_6_keepsAnswers 75 (.istore_n 1) 1 76 := ⟨by decide +kernel, rfl⟩
theorem D_6_keepsAnswers_76 : Dec m_6_keepsAnswers 76 (.iinc 3 1) 3 79 := ⟨by decide +kernel, rfl⟩
theorem D_6_keepsAnswers_79 : DecJ m_6_keepsAnswers 79 (.goto) 82 6 := ⟨-73, by decide +kernel, rfl, rfl⟩
theorem D_6_keepsAnswers_82 : Dec m_6_keepsAnswers 82 (.iload_n 2) 1 83 := ⟨by decide +kernel, rfl⟩
theorem D_6_keepsAnswers_83 : Dec m_6_keepsAnswers 83 (.ireturn) 1 84 := ⟨by decide +kernel, rfl⟩
theorem D_6_runs_0 : Dec m_6_runs 0 (.iconst 0) 1 1 := ⟨by decide +kernel, rfl⟩
theorem D_6_runs_1 : Dec m_6_runs 1 (.istore_n 1) 1 2 := ⟨by decide +kernel, rfl⟩
theorem D_6_runs_2 : Dec m_6_runs 2 (.iconst 0) 1 3 := ⟨by decide +kernel, rfl⟩
theorem D_6_runs_3 : Dec m_6_runs 3 (.istore_n 2) 1 4 := ⟨by decide +kernel, rfl⟩
theorem D_6_runs_4 : Dec m_6_runs 4 (.iload_n 2) 1 5 := ⟨by decide +kernel, rfl⟩
theorem D_6_runs_5 : Dec m_6_runs 5 (.aload_n 0) 1 6 := ⟨by decide +kernel, rfl⟩
theorem D_6_runs_6 : Dec m_6_runs 6 (.getfield 236) 3 9 := ⟨by decide +kernel, rfl⟩
theorem D_6_runs_9 : DecJ m_6_runs 9 (.if_icmp .ge) 12 139 := ⟨130, by decide +kernel, rfl, rfl⟩
theorem D_6_runs_12 : Dec m_6_runs 12 (.aload_n 0) 1 13 := ⟨by decide +kernel, rfl⟩
theorem D_6_runs_13 : Dec m_6_runs 13 (.getfield 79) 3 16 := ⟨by decide +kernel, rfl⟩
theorem D_6_runs_16 : Dec m_6_runs 16 (.iload_n 2) 1 17 := ⟨by decide +kernel, rfl⟩
theorem D_6_runs_17 : Dec m_6_runs 17 (.iaload) 1 18 := ⟨by decide +kernel, rfl⟩
theorem D_6_runs_18 : Dec m_6_runs 18 (.istore_n 3) 1 19 := ⟨by decide +kernel, rfl⟩
theorem D_6_runs_19 : Dec m_6_runs 19 (.iload_n 1) 1 20 := ⟨by decide +kernel, rfl⟩
theorem D_6_runs_20 : Dec m_6_runs 20 (.istore 4) 2 22 := ⟨by decide +kernel, rfl⟩
theorem D_6_runs_22 : Dec m_6_runs 22 (.iconst 0) 1 23 := ⟨by decide +kernel, rfl⟩
theorem D_6_runs_23 : Dec m_6_runs 23 (.istore 5) 2 25 := ⟨by decide +kernel, rfl⟩
theorem D_6_runs_25 : Dec m_6_runs 25 (.iload 5) 2 27 := ⟨by decide +kernel, rfl⟩
theorem D_6_runs_27 : Dec m_6_runs 27 (.iload_n 2) 1 28 := ⟨by decide +kernel, rfl⟩
theorem D_6_runs_28 : DecJ m_6_runs 28 (.if_icmp .ge) 31 115 := ⟨87, by decide +kernel, rfl, rfl⟩
theorem D_6_runs_31 : Dec m_6_runs 31 (.aload_n 0) 1 32 := ⟨by decide +kernel, rfl⟩
theorem D_6_runs_32 : Dec m_6_runs 32 (.getfield 79) 3 35 := ⟨by decide +kernel, rfl⟩
theorem D_6_runs_35 : Dec m_6_runs 35 (.iload 5) 2 37 := ⟨by decide +kernel, rfl⟩
theorem D_6_runs_37 : Dec m_6_runs 37 (.iaload) 1 38 := ⟨by decide +kernel, rfl⟩
theorem D_6_runs_38 : Dec m_6_runs 38 (.istore 6) 2 40 := ⟨by decide +kernel, rfl⟩
theorem D_6_runs_40 : Dec m_6_runs 40 (.aload_n 0) 1 41 := ⟨by decide +kernel, rfl⟩
theorem D_6_runs_41 : Dec m_6_runs 41 (.getfield 85) 3 44 := ⟨by decide +kernel, rfl⟩
theorem D_6_runs_44 : Dec m_6_runs 44 (.iload 6) 2 46 := ⟨by decide +kernel, rfl⟩
theorem D_6_runs_46 : Dec m_6_runs 46 (.iaload) 1 47 := ⟨by decide +kernel, rfl⟩
theorem D_6_runs_47 : Dec m_6_runs 47 (.iconst 2) 1 48 := ⟨by decide +kernel, rfl⟩
theorem D_6_runs_48 : Dec m_6_runs 48 (.aload_n 0) 1 49 := ⟨by decide +kernel, rfl⟩
theorem D_6_runs_49 : Dec m_6_runs 49 (.getfield 13) 3 52 := ⟨by decide +kernel, rfl⟩
theorem D_6_runs_52 : Dec m_6_runs 52 (.aload_n 0) 1 53 := ⟨by decide +kernel, rfl⟩
theorem D_6_runs_53 : Dec m_6_runs 53 (.getfield 76) 3 56 := ⟨by decide +kernel, rfl⟩
theorem D_6_runs_56 : Dec m_6_runs 56 (.iload 6) 2 58 := ⟨by decide +kernel, rfl⟩
theorem D_6_runs_58 : Dec m_6_runs 58 (.iaload) 1 59 := ⟨by decide +kernel, rfl⟩
theorem D_6_runs_59 : Dec m_6_runs 59 (.iaload) 1 60 := ⟨by decide +kernel, rfl⟩
theorem D_6_runs_60 : Dec m_6_runs 60 (.imul) 1 61 := ⟨by decide +kernel, rfl⟩
theorem D_6_runs_61 : Dec m_6_runs 61 (.aload_n 0) 1 62 := ⟨by decide +kernel, rfl⟩
theorem D_6_runs_62 : Dec m_6_runs 62 (.getfield 73) 3 65 := ⟨by decide +kernel, rfl⟩
theorem D_6_runs_65 : Dec m_6_runs 65 (.aload_n 0) 1 66 := ⟨by decide +kernel, rfl⟩
theorem D_6_runs_66 : Dec m_6_runs 66 (.getfield 16) 3 69 := ⟨by decide +kernel, rfl⟩
theorem D_6_runs_69 : Dec m_6_runs 69 (.iload 6) 2 71 := ⟨by decide +kernel, rfl⟩
theorem D_6_runs_71 : Dec m_6_runs 71 (.iaload) 1 72 := ⟨by decide +kernel, rfl⟩
theorem D_6_runs_72 : Dec m_6_runs 72 (.iaload) 1 73 := ⟨by decide +kernel, rfl⟩
theorem D_6_runs_73 : Dec m_6_runs 73 (.imul) 1 74 := ⟨by decide +kernel, rfl⟩
theorem D_6_runs_74 : Dec m_6_runs 74 (.iadd) 1 75 := ⟨by decide +kernel, rfl⟩
theorem D_6_runs_75 : Dec m_6_runs 75 (.istore 7) 2 77 := ⟨by decide +kernel, rfl⟩
theorem D_6_runs_77 : Dec m_6_runs 77 (.aload_n 0) 1 78 := ⟨by decide +kernel, rfl⟩
theorem D_6_runs_78 : Dec m_6_runs 78 (.getfield 16) 3 81 := ⟨by decide +kernel, rfl⟩
theorem D_6_runs_81 : Dec m_6_runs 81 (.iload 6) 2 83 := ⟨by decide +kernel, rfl⟩
theorem D_6_runs_83 : Dec m_6_runs 83 (.iaload) 1 84 := ⟨by decide +kernel, rfl⟩
theorem D_6_runs_84 : Dec m_6_runs 84 (.aload_n 0) 1 85 := ⟨by decide +kernel, rfl⟩
theorem D_6_runs_85 : Dec m_6_runs 85 (.getfield 16) 3 88 := ⟨by decide +kernel, rfl⟩
theorem D_6_runs_88 : Dec m_6_runs 88 (.iload_n 3) 1 89 := ⟨by decide +kernel, rfl⟩
theorem D_6_runs_89 : Dec m_6_runs 89 (.iaload) 1 90 := ⟨by decide +kernel, rfl⟩
theorem D_6_runs_90 : DecJ m_6_runs 90 (.if_icmp .ne) 93 105 := ⟨15, by decide +kernel, rfl, rfl⟩
theorem D_6_runs_93 : Dec m_6_runs 93 (.iload 7) 2 95 := ⟨by decide +kernel, rfl⟩
theorem D_6_runs_95 : Dec m_6_runs 95 (.iload 4) 2 97 := ⟨by decide +kernel, rfl⟩
theorem D_6_runs_97 : DecJ m_6_runs 97 (.if_icmp .le) 100 105 := ⟨8, by decide +kernel, rfl, rfl⟩
theorem D_6_runs_100 : Dec m_6_runs 100 (.iload 7) 2 102 := ⟨by decide +kernel, rfl⟩
theorem D_6_runs_102 : DecJ m_6_runs 102 (.goto) 105 107 := ⟨5, by decide +kernel, rfl, rfl⟩
theorem D_6_runs_105 : Dec m_6_runs 105 (.iload 4) 2 107 := ⟨by decide +kernel, rfl⟩
theorem D_6_runs_107 : Dec m_6_runs 107 (.istore 4) 2 109 := ⟨by decide +kernel, rfl⟩
theorem D_6_runs_109 : Dec m_6_runs 109 (.iinc 5 1) 3 112 := ⟨by decide +kernel, rfl⟩
theorem D_6_runs_112 : DecJ m_6_runs 112 (.goto) 115 25 := ⟨-87, by decide +kernel, rfl, rfl⟩
theorem D_6_runs_115 : Dec m_6_runs 115 (.aload_n 0) 1 116 := ⟨by decide +kernel, rfl⟩
theorem D_6_runs_116 : Dec m_6_runs 116 (.getfield 85) 3 119 := ⟨by decide +kernel, rfl⟩
theorem D_6_runs_119 : Dec m_6_runs 119 (.iload_n 3) 1 120 := ⟨by decide +kernel, rfl⟩
theorem D_6_runs_120 : Dec m_6_runs 120 (.iload 4) 2 122 := ⟨by decide +kernel, rfl⟩
theorem D_6_runs_122 : Dec m_6_runs 122 (.iastore) 1 123 := ⟨by decide +kernel, rfl⟩
theorem D_6_runs_123 : Dec m_6_runs 123 (.iload 4) 2 125 := ⟨by decide +kernel, rfl⟩
theorem D_6_runs_125 : Dec m_6_runs 125 (.aload_n 0) 1 126 := ⟨by decide +kernel, rfl⟩
theorem D_6_runs_126 : Dec m_6_runs 126 (.getfield 19) 3 129 := ⟨by decide +kernel, rfl⟩
theorem D_6_runs_129 : Dec m_6_runs 129 (.iload_n 3) 1 130 := ⟨by decide +kernel, rfl⟩
theorem D_6_runs_130 : Dec m_6_runs 130 (.iaload) 1 131 := ⟨by decide +kernel, rfl⟩
theorem D_6_runs_131 : Dec m_6_runs 131 (.iadd) 1 132 := ⟨by decide +kernel, rfl⟩
theorem D_6_runs_132 : Dec m_6_runs 132 (.istore_n 1) 1 133 := ⟨by decide +kernel, rfl⟩
theorem D_6_runs_133 : Dec m_6_runs 133 (.iinc 2 1) 3 136 := ⟨by decide +kernel, rfl⟩
theorem D_6_runs_136 : DecJ m_6_runs 136 (.goto) 139 4 := ⟨-132, by decide +kernel, rfl, rfl⟩
theorem D_6_runs_139 : Dec m_6_runs 139 (.iload_n 1) 1 140 := ⟨by decide +kernel, rfl⟩
theorem D_6_runs_140 : Dec m_6_runs 140 (.ireturn) 1 141 := ⟨by decide +kernel, rfl⟩
theorem D_6_findSoonest_0 : Dec m_6_findSoonest 0 (.aload_n 0) 1 1 := ⟨by decide +kernel, rfl⟩
theorem D_6_findSoonest_1 : Dec m_6_findSoonest 1 (.invokevirtual 230) 3 4 := ⟨by decide +kernel, rfl⟩
theorem D_6_findSoonest_4 : Dec m_6_findSoonest 4 (.aload_n 0) 1 5 := ⟨by decide +kernel, rfl⟩
theorem D_6_findSoonest_5 : Dec m_6_findSoonest 5 (.invokevirtual 233) 3 8 := ⟨by decide +kernel, rfl⟩
theorem D_6_findSoonest_8 : Dec m_6_findSoonest 8 (.pop) 1 9 := ⟨by decide +kernel, rfl⟩
theorem D_6_findSoonest_9 : Dec m_6_findSoonest 9 (.aload_n 0) 1 10 := ⟨by decide +kernel, rfl⟩
theorem D_6_findSoonest_10 : Dec m_6_findSoonest 10 (.iconst 0) 1 11 := ⟨by decide +kernel, rfl⟩
theorem D_6_findSoonest_11 : Dec m_6_findSoonest 11 (.putfield 236) 3 14 := ⟨by decide +kernel, rfl⟩
theorem D_6_findSoonest_14 : Dec m_6_findSoonest 14 (.iconst 0) 1 15 := ⟨by decide +kernel, rfl⟩
theorem D_6_findSoonest_15 : Dec m_6_findSoonest 15 (.istore_n 1) 1 16 := ⟨by decide +kernel, rfl⟩
theorem D_6_findSoonest_16 : Dec m_6_findSoonest 16 (.iload_n 1) 1 17 := ⟨by decide +kernel, rfl⟩
theorem D_6_findSoonest_17 : Dec m_6_findSoonest 17 (.aload_n 0) 1 18 := ⟨by decide +kernel, rfl⟩
theorem D_6_findSoonest_18 : Dec m_6_findSoonest 18 (.getfield 118) 3 21 := ⟨by decide +kernel, rfl⟩
theorem D_6_findSoonest_21 : DecJ m_6_findSoonest 21 (.if_icmp .ge) 24 61 := ⟨40, by decide +kernel, rfl, rfl⟩
theorem D_6_findSoonest_24 : Dec m_6_findSoonest 24 (.aload_n 0) 1 25 := ⟨by decide +kernel, rfl⟩
theorem D_6_findSoonest_25 : Dec m_6_findSoonest 25 (.getfield 76) 3 28 := ⟨by decide +kernel, rfl⟩
theorem D_6_findSoonest_28 : Dec m_6_findSoonest 28 (.iload_n 1) 1 29 := ⟨by decide +kernel, rfl⟩
theorem D_6_findSoonest_29 : Dec m_6_findSoonest 29 (.iaload) 1 30 := ⟨by decide +kernel, rfl⟩
theorem D_6_findSoonest_30 : Dec m_6_findSoonest 30 (.bipush (-4)) 2 32 := ⟨by decide +kernel, rfl⟩
theorem D_6_findSoonest_32 : DecJ m_6_findSoonest 32 (.if_icmp .eq) 35 55 := ⟨23, by decide +kernel, rfl, rfl⟩
theorem D_6_findSoonest_35 : Dec m_6_findSoonest 35 (.aload_n 0) 1 36 := ⟨by decide +kernel, rfl⟩
theorem D_6_findSoonest_36 : Dec m_6_findSoonest 36 (.getfield 79) 3 39 := ⟨by decide +kernel, rfl⟩
theorem D_6_findSoonest_39 : Dec m_6_findSoonest 39 (.aload_n 0) 1 40 := ⟨by decide +kernel, rfl⟩
theorem D_6_findSoonest_40 : Dec m_6_findSoonest 40 (.getfield 236) 3 43 := ⟨by decide +kernel, rfl⟩
theorem D_6_findSoonest_43 : Dec m_6_findSoonest 43 (.iload_n 1) 1 44 := ⟨by decide +kernel, rfl⟩
theorem D_6_findSoonest_44 : Dec m_6_findSoonest 44 (.iastore) 1 45 := ⟨by decide +kernel, rfl⟩
theorem D_6_findSoonest_45 : Dec m_6_findSoonest 45 (.aload_n 0) 1 46 := ⟨by decide +kernel, rfl⟩
theorem D_6_findSoonest_46 : Dec m_6_findSoonest 46 (.dup) 1 47 := ⟨by decide +kernel, rfl⟩
theorem D_6_findSoonest_47 : Dec m_6_findSoonest 47 (.getfield 236) 3 50 := ⟨by decide +kernel, rfl⟩
theorem D_6_findSoonest_50 : Dec m_6_findSoonest 50 (.iconst 1) 1 51 := ⟨by decide +kernel, rfl⟩
theorem D_6_findSoonest_51 : Dec m_6_findSoonest 51 (.iadd) 1 52 := ⟨by decide +kernel, rfl⟩
theorem D_6_findSoonest_52 : Dec m_6_findSoonest 52 (.putfield 236) 3 55 := ⟨by decide +kernel, rfl⟩
theorem D_6_findSoonest_55 : Dec m_6_findSoonest 55 (.iinc 1 1) 3 58 := ⟨by decide +kernel, rfl⟩
theorem D_6_findSoonest_58 : DecJ m_6_findSoonest 58 (.goto) 61 16 := ⟨-42, by decide +kernel, rfl, rfl⟩
theorem D_6_findSoonest_61 : Dec m_6_findSoonest 61 (.bipush (-4)) 2 63 := ⟨by decide +kernel, rfl⟩
theorem D_6_findSoonest_63 : Dec m_6_findSoonest 63 (.istore_n 1) 1 64 := ⟨by decide +kernel, rfl⟩
theorem D_6_findSoonest_64 : Dec m_6_findSoonest 64 (.iconst 1) 1 65 := ⟨by decide +kernel, rfl⟩
theorem D_6_findSoonest_65 : Dec m_6_findSoonest 65 (.istore_n 2) 1 66 := ⟨by decide +kernel, rfl⟩
theorem D_6_findSoonest_66 : Dec m_6_findSoonest 66 (.iload_n 2) 1 67 := ⟨by decide +kernel, rfl⟩
theorem D_6_findSoonest_67 : DecJ m_6_findSoonest 67 (.ifCond .eq) 70 146 := ⟨79, by decide +kernel, rfl, rfl⟩
theorem D_6_findSoonest_70 : Dec m_6_findSoonest 70 (.aload_n 0) 1 71 := ⟨by decide +kernel, rfl⟩
theorem D_6_findSoonest_71 : Dec m_6_findSoonest 71 (.invokevirtual 243) 3 74 := ⟨by decide +kernel, rfl⟩
theorem D_6_findSoonest_74 : DecJ m_6_findSoonest 74 (.ifCond .eq) 77 84 := ⟨10, by decide +kernel, rfl, rfl⟩
theorem D_6_findSoonest_77 : Dec m_6_findSoonest 77 (.aload_n 0) 1 78 := ⟨by decide +kernel, rfl⟩
theorem D_6_findSoonest_78 : Dec m_6_findSoonest 78 (.invokevirtual 246) 3 81 := ⟨by decide +kernel, rfl⟩
theorem D_6_findSoonest_81 : DecJ m_6_findSoonest 81 (.goto) 84 86 := ⟨5, by decide +kernel, rfl, rfl⟩
theorem D_6_findSoonest_84 : Dec m_6_findSoonest 84 (.bipush (-4)) 2 86 := ⟨by decide +kernel, rfl⟩
theorem D_6_findSoonest_86 : Dec m_6_findSoonest 86 (.istore_n 3) 1 87 := ⟨by decide +kernel, rfl⟩
theorem D_6_findSoonest_87 : Dec m_6_findSoonest 87 (.iload_n 3) 1 88 := ⟨by decide +kernel, rfl⟩
theorem D_6_findSoonest_88 : Dec m_6_findSoonest 88 (.bipush (-4)) 2 90 := ⟨by decide +kernel, rfl⟩
theorem D_6_findSoonest_90 : DecJ m_6_findSoonest 90 (.if_icmp .eq) 93 138 := ⟨48, by decide +kernel, rfl, rfl⟩
theorem D_6_findSoonest_93 : Dec m_6_findSoonest 93 (.iload_n 1) 1 94 := ⟨by decide +kernel, rfl⟩
theorem D_6_findSoonest_94 : Dec m_6_findSoonest 94 (.bipush (-4)) 2 96 := ⟨by decide +kernel, rfl⟩
theorem D_6_findSoonest_96 : DecJ m_6_findSoonest 96 (.if_icmp .eq) 99 104 := ⟨8, by decide +kernel, rfl, rfl⟩
theorem D_6_findSoonest_99 : Dec m_6_findSoonest 99 (.iload_n 3) 1 100 := ⟨by decide +kernel, rfl⟩
theorem D_6_findSoonest_100 : Dec m_6_findSoonest 100 (.iload_n 1) 1 101 := ⟨by decide +kernel, rfl⟩
theorem D_6_findSoonest_101 : DecJ m_6_findSoonest 101 (.if_icmp .ge) 104 138 := ⟨37, by decide +kernel, rfl, rfl⟩
theorem D_6_findSoonest_104 : Dec m_6_findSoonest 104 (.iload_n 3) 1 105 := ⟨by decide +kernel, rfl⟩
theorem D_6_findSoonest_105 : Dec m_6_findSoonest 105 (.istore_n 1) 1 106 := ⟨by decide +kernel, rfl⟩
theorem D_6_findSoonest_106 : Dec m_6_findSoonest 106 (.iconst 0) 1 107 := ⟨by decide +kernel, rfl⟩
theorem D_6_findSoonest_107 : Dec m_6_findSoonest 107 (.istore 4) 2 109 := ⟨by decide +kernel, rfl⟩
theorem D_6_findSoonest_109 : Dec m_6_findSoonest 109 (.iload 4) 2 111 := ⟨by decide +kernel, rfl⟩
theorem D_6_findSoonest_111 : Dec m_6_findSoonest 111 (.aload_n 0) 1 112 := ⟨by decide +kernel, rfl⟩
theorem D_6_findSoonest_112 : Dec m_6_findSoonest 112 (.getfield 236) 3 115 := ⟨by decide +kernel, rfl⟩
theorem D_6_findSoonest_115 : DecJ m_6_findSoonest 115 (.if_icmp .ge) 118 138 := ⟨23, by decide +kernel, rfl, rfl⟩
theorem D_6_findSoonest_118 : Dec m_6_findSoonest 118 (.aload_n 0) 1 119 := ⟨by decide +kernel, rfl⟩
theorem D_6_findSoonest_119 : Dec m_6_findSoonest 119 (.getfield 82) 3 122 := ⟨by decide +kernel, rfl⟩
theorem D_6_findSoonest_122 : Dec m_6_findSoonest 122 (.iload 4) 2 124 := ⟨by decide +kernel, rfl⟩
theorem D_6_findSoonest_124 : Dec m_6_findSoonest 124 (.aload_n 0) 1 125 := ⟨by decide +kernel, rfl⟩
theorem D_6_findSoonest_125 : Dec m_6_findSoonest 125 (.getfield 79) 3 128 := ⟨by decide +kernel, rfl⟩
theorem D_6_findSoonest_128 : Dec m_6_findSoonest 128 (.iload 4) 2 130 := ⟨by decide +kernel, rfl⟩
theorem D_6_findSoonest_130 : Dec m_6_findSoonest 130 (.iaload) 1 131 := ⟨by decide +kernel, rfl⟩
theorem D_6_findSoonest_131 : Dec m_6_findSoonest 131 (.iastore) 1 132 := ⟨by decide +kernel, rfl⟩
theorem D_6_findSoonest_132 : Dec m_6_findSoonest 132 (.iinc 4 1) 3 135 := ⟨by decide +kernel, rfl⟩
theorem D_6_findSoonest_135 : DecJ m_6_findSoonest 135 (.goto) 138 109 := ⟨-26, by decide +kernel, rfl, rfl⟩
theorem D_6_findSoonest_138 : Dec m_6_findSoonest 138 (.aload_n 0) 1 139 := ⟨by decide +kernel, rfl⟩
theorem D_6_findSoonest_139 : Dec m_6_findSoonest 139 (.invokevirtual 249) 3 142 := ⟨by decide +kernel, rfl⟩
theorem D_6_findSoonest_142 : Dec m_6_findSoonest 142 (.istore_n 2) 1 143 := ⟨by decide +kernel, rfl⟩
theorem D_6_findSoonest_143 : DecJ m_6_findSoonest 143 (.goto) 146 66 := ⟨-77, by decide +kernel, rfl, rfl⟩
theorem D_6_findSoonest_146 : Dec m_6_findSoonest 146 (.iconst 0) 1 147 := ⟨by decide +kernel, rfl⟩
theorem D_6_findSoonest_147 : Dec m_6_findSoonest 147 (.istore_n 3) 1 148 := ⟨by decide +kernel, rfl⟩
theorem D_6_findSoonest_148 : Dec m_6_findSoonest 148 (.iload_n 3) 1 149 := ⟨by decide +kernel, rfl⟩
theorem D_6_findSoonest_149 : Dec m_6_findSoonest 149 (.aload_n 0) 1 150 := ⟨by decide +kernel, rfl⟩
theorem D_6_findSoonest_150 : Dec m_6_findSoonest 150 (.getfield 236) 3 153 := ⟨by decide +kernel, rfl⟩
theorem D_6_findSoonest_153 : DecJ m_6_findSoonest 153 (.if_icmp .ge) 156 174 := ⟨21, by decide +kernel, rfl, rfl⟩
theorem D_6_findSoonest_156 : Dec m_6_findSoonest 156 (.aload_n 0) 1 157 := ⟨by decide +kernel, rfl⟩
theorem D_6_findSoonest_157 : Dec m_6_findSoonest 157 (.getfield 79) 3 160 := ⟨by decide +kernel, rfl⟩
theorem D_6_findSoonest_160 : Dec m_6_findSoonest 160 (.iload_n 3) 1 161 := ⟨by decide +kernel, rfl⟩
theorem D_6_findSoonest_161 : Dec m_6_findSoonest 161 (.aload_n 0) 1 162 := ⟨by decide +kernel, rfl⟩
theorem D_6_findSoonest_162 : Dec m_6_findSoonest 162 (.getfield 82) 3 165 := ⟨by decide +kernel, rfl⟩
theorem D_6_findSoonest_165 : Dec m_6_findSoonest 165 (.iload_n 3) 1 166 := ⟨by decide +kernel, rfl⟩
theorem D_6_findSoonest_166 : Dec m_6_findSoonest 166 (.iaload) 1 167 := ⟨by decide +kernel, rfl⟩
theorem D_6_findSoonest_167 : Dec m_6_findSoonest 167 (.iastore) 1 168 := ⟨by decide +kernel, rfl⟩
theorem D_6_findSoonest_168 : Dec m_6_findSoonest 168 (.iinc 3 1) 3 171 := ⟨by decide +kernel, rfl⟩
theorem D_6_findSoonest_171 : DecJ m_6_findSoonest 171 (.goto) 174 148 := ⟨-23, by decide +kernel, rfl, rfl⟩
theorem D_6_findSoonest_174 : Dec m_6_findSoonest 174 (.aload_n 0) 1 175 := ⟨by decide +kernel, rfl⟩
theorem D_6_findSoonest_175 : Dec m_6_findSoonest 175 (.invokevirtual 246) 3 178 := ⟨by decide +kernel, rfl⟩
theorem D_6_findSoonest_178 : Dec m_6_findSoonest 178 (.ireturn) 1 179 := ⟨by decide +kernel, rfl⟩
theorem D_6_soonest_0 : Dec m_6_soonest 0 (.iload_n 1) 1 1 := ⟨by decide +kernel, rfl⟩
theorem D_6_soonest_1 : Dec m_6_soonest 1 (.iconst (-1)) 1 2 := ⟨by decide +kernel, rfl⟩
theorem D_6_soonest_2 : DecJ m_6_soonest 2 (.if_icmp .ge) 5 7 := ⟨5, by decide +kernel, rfl, rfl⟩
theorem D_6_soonest_5 : Dec m_6_soonest 5 (.iconst (-1)) 1 6 := ⟨by decide +kernel, rfl⟩
theorem D_6_soonest_6 : Dec m_6_soonest 6 (.ireturn) 1 7 := ⟨by decide +kernel, rfl⟩
theorem D_6_soonest_7 : Dec m_6_soonest 7 (.aload_n 0) 1 8 := ⟨by decide +kernel, rfl⟩
theorem D_6_soonest_8 : Dec m_6_soonest 8 (.invokevirtual 252) 3 11 := ⟨by decide +kernel, rfl⟩
theorem D_6_soonest_11 : Dec m_6_soonest 11 (.istore_n 2) 1 12 := ⟨by decide +kernel, rfl⟩
theorem D_6_soonest_12 : Dec m_6_soonest 12 (.iload_n 1) 1 13 := ⟨by decide +kernel, rfl⟩
theorem D_6_soonest_13 : Dec m_6_soonest 13 (.iconst (-1)) 1 14 := ⟨by decide +kernel, rfl⟩
theorem D_6_soonest_14 : DecJ m_6_soonest 14 (.if_icmp .ne) 17 21 := ⟨7, by decide +kernel, rfl, rfl⟩
theorem D_6_soonest_17 : Dec m_6_soonest 17 (.iload_n 2) 1 18 := ⟨by decide +kernel, rfl⟩
theorem D_6_soonest_18 : DecJ m_6_soonest 18 (.goto) 21 40 := ⟨22, by decide +kernel, rfl, rfl⟩
theorem D_6_soonest_21 : Dec m_6_soonest 21 (.iload_n 1) 1 22 := ⟨by decide +kernel, rfl⟩
theorem D_6_soonest_22 : Dec m_6_soonest 22 (.aload_n 0) 1 23 := ⟨by decide +kernel, rfl⟩
theorem D_6_soonest_23 : Dec m_6_soonest 23 (.getfield 236) 3 26 := ⟨by decide +kernel, rfl⟩
theorem D_6_soonest_26 : DecJ m_6_soonest 26 (.if_icmp .ge) 29 38 := ⟨12, by decide +kernel, rfl, rfl⟩
theorem D_6_soonest_29 : Dec m_6_soonest 29 (.aload_n 0) 1 30 := ⟨by decide +kernel, rfl⟩
theorem D_6_soonest_30 : Dec m_6_soonest 30 (.getfield 79) 3 33 := ⟨by decide +kernel, rfl⟩
theorem D_6_soonest_33 : Dec m_6_soonest 33 (.iload_n 1) 1 34 := ⟨by decide +kernel, rfl⟩
theorem D_6_soonest_34 : Dec m_6_soonest 34 (.iaload) 1 35 := ⟨by decide +kernel, rfl⟩
theorem D_6_soonest_35 : DecJ m_6_soonest 35 (.goto) 38 40 := ⟨5, by decide +kernel, rfl, rfl⟩
theorem D_6_soonest_38 : Dec m_6_soonest 38 (.bipush (-4)) 2 40 := ⟨by decide +kernel, rfl⟩
theorem D_6_soonest_40 : Dec m_6_soonest 40 (.ireturn) 1 41 := ⟨by decide +kernel, rfl⟩
theorem D_6_late_0 : Dec m_6_late 0 (.aload_n 0) 1 1 := ⟨by decide +kernel, rfl⟩
theorem D_6_late_1 : Dec m_6_late 1 (.invokevirtual 252) 3 4 := ⟨by decide +kernel, rfl⟩
theorem D_6_late_4 : Dec m_6_late 4 (.pop) 1 5 := ⟨by decide +kernel, rfl⟩
theorem D_6_late_5 : Dec m_6_late 5 (.iconst 0) 1 6 := ⟨by decide +kernel, rfl⟩
theorem D_6_late_6 : Dec m_6_late 6 (.istore_n 1) 1 7 := ⟨by decide +kernel, rfl⟩
theorem D_6_late_7 : Dec m_6_late 7 (.iconst 0) 1 8 := ⟨by decide +kernel, rfl⟩
theorem D_6_late_8 : Dec m_6_late 8 (.istore_n 2) 1 9 := ⟨by decide +kernel, rfl⟩
theorem D_6_late_9 : Dec m_6_late 9 (.iload_n 2) 1 10 := ⟨by decide +kernel, rfl⟩
theorem D_6_late_10 : Dec m_6_late 10 (.aload_n 0) 1 11 := ⟨by decide +kernel, rfl⟩
theorem D_6_late_11 : Dec m_6_late 11 (.getfield 236) 3 14 := ⟨by decide +kernel, rfl⟩
theorem D_6_late_14 : DecJ m_6_late 14 (.if_icmp .ge) 17 94 := ⟨80, by decide +kernel, rfl, rfl⟩
theorem D_6_late_17 : Dec m_6_late 17 (.aload_n 0) 1 18 := ⟨by decide +kernel, rfl⟩
theorem D_6_late_18 : Dec m_6_late 18 (.getfield 79) 3 21 := ⟨by decide +kernel, rfl⟩
theorem D_6_late_21 : Dec m_6_late 21 (.iload_n 2) 1 22 := ⟨by decide +kernel, rfl⟩
theorem D_6_late_22 : Dec m_6_late 22 (.iaload) 1 23 := ⟨by decide +kernel, rfl⟩
theorem D_6_late_23 : Dec m_6_late 23 (.istore_n 3) 1 24 := ⟨by decide +kernel, rfl⟩
theorem D_6_late_24 : Dec m_6_late 24 (.aload_n 0) 1 25 := ⟨by decide +kernel, rfl⟩
theorem D_6_late_25 : Dec m_6_late 25 (.getfield 25) 3 28 := ⟨by decide +kernel, rfl⟩
theorem D_6_late_28 : Dec m_6_late 28 (.iload_n 3) 1 29 := ⟨by decide +kernel, rfl⟩
theorem D_6_late_29 : Dec m_6_late 29 (.iaload) 1 30 := ⟨by decide +kernel, rfl⟩
theorem D_6_late_30 : Dec m_6_late 30 (.istore 4) 2 32 := ⟨by decide +kernel, rfl⟩
theorem D_6_late_32 : Dec m_6_late 32 (.iload_n 1) 1 33 := ⟨by decide +kernel, rfl⟩
theorem D_6_late_33 : Dec m_6_late 33 (.iload 4) 2 35 := ⟨by decide +kernel, rfl⟩
theorem D_6_late_35 : Dec m_6_late 35 (.bipush (-4)) 2 37 := ⟨by decide +kernel, rfl⟩
theorem D_6_late_37 : DecJ m_6_late 37 (.if_icmp .eq) 40 85 := ⟨48, by decide +kernel, rfl, rfl⟩
theorem D_6_late_40 : Dec m_6_late 40 (.aload_n 0) 1 41 := ⟨by decide +kernel, rfl⟩
theorem D_6_late_41 : Dec m_6_late 41 (.getfield 76) 3 44 := ⟨by decide +kernel, rfl⟩
theorem D_6_late_44 : Dec m_6_late 44 (.iload 4) 2 46 := ⟨by decide +kernel, rfl⟩
theorem D_6_late_46 : Dec m_6_late 46 (.iaload) 1 47 := ⟨by decide +kernel, rfl⟩
theorem D_6_late_47 : Dec m_6_late 47 (.bipush (-4)) 2 49 := ⟨by decide +kernel, rfl⟩
theorem D_6_late_49 : DecJ m_6_late 49 (.if_icmp .eq) 52 85 := ⟨36, by decide +kernel, rfl, rfl⟩
theorem D_6_late_52 : Dec m_6_late 52 (.aload_n 0) 1 53 := ⟨by decide +kernel, rfl⟩
theorem D_6_late_53 : Dec m_6_late 53 (.getfield 85) 3 56 := ⟨by decide +kernel, rfl⟩
theorem D_6_late_56 : Dec m_6_late 56 (.iload_n 3) 1 57 := ⟨by decide +kernel, rfl⟩
theorem D_6_late_57 : Dec m_6_late 57 (.iaload) 1 58 := ⟨by decide +kernel, rfl⟩
theorem D_6_late_58 : Dec m_6_late 58 (.aload_n 0) 1 59 := ⟨by decide +kernel, rfl⟩
theorem D_6_late_59 : Dec m_6_late 59 (.getfield 85) 3 62 := ⟨by decide +kernel, rfl⟩
theorem D_6_late_62 : Dec m_6_late 62 (.iload 4) 2 64 := ⟨by decide +kernel, rfl⟩
theorem D_6_late_64 : Dec m_6_late 64 (.iaload) 1 65 := ⟨by decide +kernel, rfl⟩
theorem D_6_late_65 : Dec m_6_late 65 (.aload_n 0) 1 66 := ⟨by decide +kernel, rfl⟩
theorem D_6_late_66 : Dec m_6_late 66 (.getfield 19) 3 69 := ⟨by decide +kernel, rfl⟩
theorem D_6_late_69 : Dec m_6_late 69 (.iload 4) 2 71 := ⟨by decide +kernel, rfl⟩
theorem D_6_late_71 : Dec m_6_late 71 (.iaload) 1 72 := ⟨by decide +kernel, rfl⟩
theorem D_6_late_72 : Dec m_6_late 72 (.iadd) 1 73 := ⟨by decide +kernel, rfl⟩
theorem D_6_late_73 : Dec m_6_late 73 (.aload_n 0) 1 74 := ⟨by decide +kernel, rfl⟩
theorem D_6_late_74 : Dec m_6_late 74 (.getfield 168) 3 77 := ⟨by decide +kernel, rfl⟩
theorem D_6_late_77 : Dec m_6_late 77 (.iadd) 1 78 := ⟨by decide +kernel, rfl⟩
theorem D_6_late_78 : DecJ m_6_late 78 (.if_icmp .le) 81 85 := ⟨7, by decide +kernel, rfl, rfl⟩
theorem D_6_late_81 : Dec m_6_late 81 (.iconst 1) 1 82 := ⟨by decide +kernel, rfl⟩
theorem D_6_late_82 : DecJ m_6_late 82 (.goto) 85 86 := ⟨4, by decide +kernel, rfl, rfl⟩
theorem D_6_late_85 : Dec m_6_late 85 (.iconst 0) 1 86 := ⟨by decide +kernel, rfl⟩
theorem D_6_late_86 : Dec m_6_late 86 (.iadd) 1 87 := ⟨by decide +kernel, rfl⟩
theorem D_6_late_87 : Dec m_6_late 87 (.istore_n 1) 1 88 := ⟨by decide +kernel, rfl⟩
theorem D_6_late_88 : Dec m_6_late 88 (.iinc 2 1) 3 91 := ⟨by decide +kernel, rfl⟩
theorem D_6_late_91 : DecJ m_6_late 91 (.goto) 94 9 := ⟨-82, by decide +kernel, rfl, rfl⟩
theorem D_6_late_94 : Dec m_6_late 94 (.iload_n 1) 1 95 := ⟨by decide +kernel, rfl⟩
theorem D_6_late_95 : Dec m_6_late 95 (.ireturn) 1 96 := ⟨by decide +kernel, rfl⟩
theorem D_6_beside_0 : Dec m_6_beside 0 (.aload_n 0) 1 1 := ⟨by decide +kernel, rfl⟩
theorem D_6_beside_1 : Dec m_6_beside 1 (.invokevirtual 233) 3 4 := ⟨by decide +kernel, rfl⟩
theorem D_6_beside_4 : Dec m_6_beside 4 (.pop) 1 5 := ⟨by decide +kernel, rfl⟩
theorem D_6_beside_5 : Dec m_6_beside 5 (.iconst 0) 1 6 := ⟨by decide +kernel, rfl⟩
theorem D_6_beside_6 : Dec m_6_beside 6 (.istore_n 3) 1 7 := ⟨by decide +kernel, rfl⟩
theorem D_6_beside_7 : Dec m_6_beside 7 (.iconst 0) 1 8 := ⟨by decide +kernel, rfl⟩
theorem D_6_beside_8 : Dec m_6_beside 8 (.istore 4) 2 10 := ⟨by decide +kernel, rfl⟩
theorem D_6_beside_10 : Dec m_6_beside 10 (.iload 4) 2 12 := ⟨by decide +kernel, rfl⟩
theorem D_6_beside_12 : Dec m_6_beside 12 (.aload_n 0) 1 13 := ⟨by decide +kernel, rfl⟩
theorem D_6_beside_13 : Dec m_6_beside 13 (.getfield 118) 3 16 := ⟨by decide +kernel, rfl⟩
theorem D_6_beside_16 : DecJ m_6_beside 16 (.if_icmp .ge) 19 87 := ⟨71, by decide +kernel, rfl, rfl⟩
theorem D_6_beside_19 : Dec m_6_beside 19 (.aload_n 0) 1 20 := ⟨by decide +kernel, rfl⟩
theorem D_6_beside_20 : Dec m_6_beside 20 (.getfield 16) 3 23 := ⟨by decide +kernel, rfl⟩
theorem D_6_beside_23 : Dec m_6_beside 23 (.iload 4) 2 25 := ⟨by decide +kernel, rfl⟩
theorem D_6_beside_25 : Dec m_6_beside 25 (.iaload) 1 26 := ⟨by decide +kernel, rfl⟩
theorem D_6_beside_26 : Dec m_6_beside 26 (.iload_n 1) 1 27 := ⟨by decide +kernel, rfl⟩
theorem D_6_beside_27 : DecJ m_6_beside 27 (.if_icmp .ne) 30 34 := ⟨7, by decide +kernel, rfl, rfl⟩
theorem D_6_beside_30 : Dec m_6_beside 30 (.iconst 1) 1 31 := ⟨by decide +kernel, rfl⟩
theorem D_6_beside_31 : DecJ m_6_beside 31 (.goto) 34 50 := ⟨19, by decide +kernel, rfl, rfl⟩
theorem D_6_beside_34 : Dec m_6_beside 34 (.aload_n 0) 1 35 := ⟨by decide +kernel, rfl⟩
theorem D_6_beside_35 : Dec m_6_beside 35 (.getfield 16) 3 38 := ⟨by decide +kernel, rfl⟩
theorem D_6_beside_38 : Dec m_6_beside 38 (.iload 4) 2 40 := ⟨by decide +kernel, rfl⟩
theorem D_6_beside_40 : Dec m_6_beside 40 (.iaload) 1 41 := ⟨by decide +kernel, rfl⟩
theorem D_6_beside_41 : Dec m_6_beside 41 (.iload_n 2) 1 42 := ⟨by decide +kernel, rfl⟩
theorem D_6_beside_42 : DecJ m_6_beside 42 (.if_icmp .ne) 45 49 := ⟨7, by decide +kernel, rfl, rfl⟩
theorem D_6_beside_45 : Dec m_6_beside 45 (.iconst (-1)) 1 46 := ⟨by decide +kernel, rfl⟩
theorem D_6_beside_46 : DecJ m_6_beside 46 (.goto) 49 50 := ⟨4, by decide +kernel, rfl, rfl⟩
theorem D_6_beside_49 : Dec m_6_beside 49 (.iconst 0) 1 50 := ⟨by decide +kernel, rfl⟩
theorem D_6_beside_50 : Dec m_6_beside 50 (.istore 5) 2 52 := ⟨by decide +kernel, rfl⟩
theorem D_6_beside_52 : Dec m_6_beside 52 (.iload_n 3) 1 53 := ⟨by decide +kernel, rfl⟩
theorem D_6_beside_53 : Dec m_6_beside 53 (.aload_n 0) 1 54 := ⟨by decide +kernel, rfl⟩
theorem D_6_beside_54 : Dec m_6_beside 54 (.getfield 76) 3 57 := ⟨by decide +kernel, rfl⟩
theorem D_6_beside_57 : Dec m_6_beside 57 (.iload 4) 2 59 := ⟨by decide +kernel, rfl⟩
theorem D_6_beside_59 : Dec m_6_beside 59 (.iaload) 1 60 := ⟨by decide +kernel, rfl⟩
theorem D_6_beside_60 : Dec m_6_beside 60 (.bipush (-4)) 2 62 := ⟨by decide +kernel, rfl⟩
theorem D_6_beside_62 : DecJ m_6_beside 62 (.if_icmp .ne) 65 69 := ⟨7, by decide +kernel, rfl, rfl⟩
theorem D_6_beside_65 : Dec m_6_beside 65 (.iconst 0) 1 66 := ⟨by decide +kernel, rfl⟩
theorem D_6_beside_66 : DecJ m_6_beside 66 (.goto) 69 79 := ⟨13, by decide +kernel, rfl, rfl⟩
theorem D_6_beside_69 : Dec m_6_beside 69 (.iload 5) 2 71 := ⟨by decide +kernel, rfl⟩
theorem D_6_beside_71 : Dec m_6_beside 71 (.aload_n 0) 1 72 := ⟨by decide +kernel, rfl⟩
theorem D_6_beside_72 : Dec m_6_beside 72 (.getfield 22) 3 75 := ⟨by decide +kernel, rfl⟩
theorem D_6_beside_75 : Dec m_6_beside 75 (.iload 4) 2 77 := ⟨by decide +kernel, rfl⟩
theorem D_6_beside_77 : Dec m_6_beside 77 (.iaload) 1 78 := ⟨by decide +kernel, rfl⟩
theorem D_6_beside_78 : Dec m_6_beside 78 (.imul) 1 79 := ⟨by decide +kernel, rfl⟩
theorem D_6_beside_79 : Dec m_6_beside 79 (.iadd) 1 80 := ⟨by decide +kernel, rfl⟩
theorem D_6_beside_80 : Dec m_6_beside 80 (.istore_n 3) 1 81 := ⟨by decide +kernel, rfl⟩
theorem D_6_beside_81 : Dec m_6_beside 81 (.iinc 4 1) 3 84 := ⟨by decide +kernel, rfl⟩
theorem D_6_beside_84 : DecJ m_6_beside 84 (.goto) 87 10 := ⟨-74, by decide +kernel, rfl, rfl⟩
theorem D_6_beside_87 : Dec m_6_beside 87 (.iload_n 3) 1 88 := ⟨by decide +kernel, rfl⟩
theorem D_6_beside_88 : Dec m_6_beside 88 (.ireturn) 1 89 := ⟨by decide +kernel, rfl⟩
theorem D_6_dish_0 : Dec m_6_dish 0 (.aload_n 0) 1 1 := ⟨by decide +kernel, rfl⟩
theorem D_6_dish_1 : Dec m_6_dish 1 (.iload_n 1) 1 2 := ⟨by decide +kernel, rfl⟩
theorem D_6_dish_2 : Dec m_6_dish 2 (.invokevirtual 181) 3 5 := ⟨by decide +kernel, rfl⟩
theorem D_6_dish_5 : DecJ m_6_dish 5 (.ifCond .eq) 8 21 := ⟨16, by decide +kernel, rfl, rfl⟩
theorem D_6_dish_8 : Dec m_6_dish 8 (.aload_n 0) 1 9 := ⟨by decide +kernel, rfl⟩
theorem D_6_dish_9 : Dec m_6_dish 9 (.iload_n 2) 1 10 := ⟨by decide +kernel, rfl⟩
theorem D_6_dish_10 : Dec m_6_dish 10 (.invokevirtual 181) 3 13 := ⟨by decide +kernel, rfl⟩
theorem D_6_dish_13 : DecJ m_6_dish 13 (.ifCond .eq) 16 21 := ⟨8, by decide +kernel, rfl, rfl⟩
theorem D_6_dish_16 : Dec m_6_dish 16 (.iload_n 1) 1 17 := ⟨by decide +kernel, rfl⟩
theorem D_6_dish_17 : Dec m_6_dish 17 (.iload_n 2) 1 18 := ⟨by decide +kernel, rfl⟩
theorem D_6_dish_18 : DecJ m_6_dish 18 (.if_icmp .ne) 21 23 := ⟨5, by decide +kernel, rfl, rfl⟩
theorem D_6_dish_21 : Dec m_6_dish 21 (.iconst (-1)) 1 22 := ⟨by decide +kernel, rfl⟩
theorem D_6_dish_22 : Dec m_6_dish 22 (.ireturn) 1 23 := ⟨by decide +kernel, rfl⟩
theorem D_6_dish_23 : Dec m_6_dish 23 (.aload_n 0) 1 24 := ⟨by decide +kernel, rfl⟩
theorem D_6_dish_24 : Dec m_6_dish 24 (.invokevirtual 230) 3 27 := ⟨by decide +kernel, rfl⟩
theorem D_6_dish_27 : Dec m_6_dish 27 (.aload_n 0) 1 28 := ⟨by decide +kernel, rfl⟩
theorem D_6_dish_28 : Dec m_6_dish 28 (.iload_n 1) 1 29 := ⟨by decide +kernel, rfl⟩
theorem D_6_dish_29 : Dec m_6_dish 29 (.iload_n 2) 1 30 := ⟨by decide +kernel, rfl⟩
theorem D_6_dish_30 : Dec m_6_dish 30 (.invokevirtual 255) 3 33 := ⟨by decide +kernel, rfl⟩
theorem D_6_dish_33 : Dec m_6_dish 33 (.istore_n 3) 1 34 := ⟨by decide +kernel, rfl⟩
theorem D_6_dish_34 : Dec m_6_dish 34 (.bipush (-4)) 2 36 := ⟨by decide +kernel, rfl⟩
theorem D_6_dish_36 : Dec m_6_dish 36 (.istore 4) 2 38 := ⟨by decide +kernel, rfl⟩
theorem D_6_dish_38 : Dec m_6_dish 38 (.iconst 0) 1 39 := ⟨by decide +kernel, rfl⟩
theorem D_6_dish_39 : Dec m_6_dish 39 (.istore 5) 2 41 := ⟨by decide +kernel, rfl⟩
theorem D_6_dish_41 : Dec m_6_dish 41 (.iload 5) 2 43 := ⟨by decide +kernel, rfl⟩
theorem D_6_dish_43 : Dec m_6_dish 43 (.aload_n 0) 1 44 := ⟨by decide +kernel, rfl⟩
theorem D_6_dish_44 : Dec m_6_dish 44 (.getfield 165) 3 47 := ⟨by decide +kernel, rfl⟩
theorem D_6_dish_47 : DecJ m_6_dish 47 (.if_icmp .ge) 50 144 := ⟨97, by decide +kernel, rfl, rfl⟩
theorem D_6_dish_50 : Dec m_6_dish 50 (.aload_n 0) 1 51 := ⟨by decide +kernel, rfl⟩
theorem D_6_dish_51 : Dec m_6_dish 51 (.getfield 34) 3 54 := ⟨by decide +kernel, rfl⟩
theorem D_6_dish_54 : Dec m_6_dish 54 (.iconst 5) 1 55 := ⟨by decide +kernel, rfl⟩
theorem D_6_dish_55 : Dec m_6_dish 55 (.iaload) 1 56 := ⟨by decide +kernel, rfl⟩
theorem D_6_dish_56 : Dec m_6_dish 56 (.iload 5) 2 58 := ⟨by decide +kernel, rfl⟩
theorem D_6_dish_58 : Dec m_6_dish 58 (.invokestatic 177) 3 61 := ⟨by decide +kernel, rfl⟩
theorem D_6_dish_61 : DecJ m_6_dish 61 (.ifCond .ne) 64 138 := ⟨77, by decide +kernel, rfl, rfl⟩
theorem D_6_dish_64 : Dec m_6_dish 64 (.aload_n 0) 1 65 := ⟨by decide +kernel, rfl⟩
theorem D_6_dish_65 : Dec m_6_dish 65 (.invokevirtual 230) 3 68 := ⟨by decide +kernel, rfl⟩
theorem D_6_dish_68 : Dec m_6_dish 68 (.aload_n 0) 1 69 := ⟨by decide +kernel, rfl⟩
theorem D_6_dish_69 : Dec m_6_dish 69 (.getfield 73) 3 72 := ⟨by decide +kernel, rfl⟩
theorem D_6_dish_72 : Dec m_6_dish 72 (.aload_n 0) 1 73 := ⟨by decide +kernel, rfl⟩
theorem D_6_dish_73 : Dec m_6_dish 73 (.getfield 28) 3 76 := ⟨by decide +kernel, rfl⟩
theorem D_6_dish_76 : Dec m_6_dish 76 (.iload 5) 2 78 := ⟨by decide +kernel, rfl⟩
theorem D_6_dish_78 : Dec m_6_dish 78 (.iaload) 1 79 := ⟨by decide +kernel, rfl⟩
theorem D_6_dish_79 : Dec m_6_dish 79 (.aload_n 0) 1 80 := ⟨by decide +kernel, rfl⟩
theorem D_6_dish_80 : Dec m_6_dish 80 (.getfield 73) 3 83 := ⟨by decide +kernel, rfl⟩
theorem D_6_dish_83 : Dec m_6_dish 83 (.aload_n 0) 1 84 := ⟨by decide +kernel, rfl⟩
theorem D_6_dish_84 : Dec m_6_dish 84 (.getfield 28) 3 87 := ⟨by decide +kernel, rfl⟩
theorem D_6_dish_87 : Dec m_6_dish 87 (.iload 5) 2 89 := ⟨by decide +kernel, rfl⟩
theorem D_6_dish_89 : Dec m_6_dish 89 (.iaload) 1 90 := ⟨by decide +kernel, rfl⟩
theorem D_6_dish_90 : Dec m_6_dish 90 (.iaload) 1 91 := ⟨by decide +kernel, rfl⟩
theorem D_6_dish_91 : Dec m_6_dish 91 (.aload_n 0) 1 92 := ⟨by decide +kernel, rfl⟩
theorem D_6_dish_92 : Dec m_6_dish 92 (.getfield 31) 3 95 := ⟨by decide +kernel, rfl⟩
theorem D_6_dish_95 : Dec m_6_dish 95 (.iload 5) 2 97 := ⟨by decide +kernel, rfl⟩
theorem D_6_dish_97 : Dec m_6_dish 97 (.iaload) 1 98 := ⟨by decide +kernel, rfl⟩
theorem D_6_dish_98 : Dec m_6_dish 98 (.invokestatic 203) 3 101 := ⟨by decide +kernel, rfl⟩
theorem D_6_dish_101 : Dec m_6_dish 101 (.iastore) 1 102 := ⟨by decide +kernel, rfl⟩
theorem D_6_dish_102 : Dec m_6_dish 102 (.aload_n 0) 1 103 := ⟨by decide +kernel, rfl⟩
theorem D_6_dish_103 : Dec m_6_dish 103 (.iload_n 1) 1 104 := ⟨by decide +kernel, rfl⟩
theorem D_6_dish_104 : Dec m_6_dish 104 (.iload_n 2) 1 105 := ⟨by decide +kernel, rfl⟩
theorem D_6_dish_105 : Dec m_6_dish 105 (.invokevirtual 255) 3 108 := ⟨by decide +kernel, rfl⟩
theorem D_6_dish_108 : Dec m_6_dish 108 (.istore 6) 2 110 := ⟨by decide +kernel, rfl⟩
theorem D_6_dish_110 : Dec m_6_dish 110 (.iload 6) 2 112 := ⟨by decide +kernel, rfl⟩
theorem D_6_dish_112 : Dec m_6_dish 112 (.iload_n 3) 1 113 := ⟨by decide +kernel, rfl⟩
theorem D_6_dish_113 : DecJ m_6_dish 113 (.if_icmp .le) 116 121 := ⟨8, by decide +kernel, rfl, rfl⟩
theorem D_6_dish_116 : Dec m_6_dish 116 (.iload 5) 2 118 := ⟨by decide +kernel, rfl⟩
theorem D_6_dish_118 : DecJ m_6_dish 118 (.goto) 121 123 := ⟨5, by decide +kernel, rfl, rfl⟩
theorem D_6_dish_121 : Dec m_6_dish 121 (.iload 4) 2 123 := ⟨by decide +kernel, rfl⟩
theorem D_6_dish_123 : Dec m_6_dish 123 (.istore 4) 2 125 := ⟨by decide +kernel, rfl⟩
theorem D_6_dish_125 : Dec m_6_dish 125 (.iload 6) 2 127 := ⟨by decide +kernel, rfl⟩
theorem D_6_dish_127 : Dec m_6_dish 127 (.iload_n 3) 1 128 := ⟨by decide +kernel, rfl⟩
theorem D_6_dish_128 : DecJ m_6_dish 128 (.if_icmp .le) 131 136 := ⟨8, by decide +kernel, rfl, rfl⟩
theorem D_6_dish_131 : Dec m_6_dish 131 (.iload 6) 2 133 := ⟨by decide +kernel, rfl⟩
theorem D_6_dish_133 : DecJ m_6_dish 133 (.goto) 136 137 := ⟨4, by decide +kernel, rfl, rfl⟩
theorem D_6_dish_136 : Dec m_6_dish 136 (.iload_n 3) 1 137 := ⟨by decide +kernel, rfl⟩
theorem D_6_dish_137 : Dec m_6_dish 137 (.istore_n 3) 1 138 := ⟨by decide +kernel, rfl⟩
theorem D_6_dish_138 : Dec m_6_dish 138 (.iinc 5 1) 3 141 := ⟨by decide +kernel, rfl⟩
theorem D_6_dish_141 : DecJ m_6_dish 141 (.goto) 144 41 := ⟨-100, by decide +kernel, rfl, rfl⟩
theorem D_6_dish_144 : Dec m_6_dish 144 (.iload 4) 2 146 := ⟨by decide +kernel, rfl⟩
theorem D_6_dish_146 : Dec m_6_dish 146 (.ireturn) 1 147 := ⟨by decide +kernel, rfl⟩
theorem D_6_spoke_0 : Dec m_6_spoke 0 (.aload_n 0) 1 1 := ⟨by decide +kernel, rfl⟩
theorem D_6_spoke_1 : Dec m_6_spoke 1 (.iload_n 1) 1 2 := ⟨by decide +kernel, rfl⟩
theorem D_6_spoke_2 : Dec m_6_spoke 2 (.invokevirtual 181) 3 5 := ⟨by decide +kernel, rfl⟩
theorem D_6_spoke_5 : DecJ m_6_spoke 5 (.ifCond .eq) 8 28 := ⟨23, by decide +kernel, rfl, rfl⟩
theorem D_6_spoke_8 : Dec m_6_spoke 8 (.iload_n 2) 1 9 := ⟨by decide +kernel, rfl⟩
theorem D_6_spoke_9 : Dec m_6_spoke 9 (.iconst 1) 1 10 := ⟨by decide +kernel, rfl⟩
theorem D_6_spoke_10 : Dec m_6_spoke 10 (.sipush 500) 3 13 := ⟨by decide +kernel, rfl⟩
theorem D_6_spoke_13 : Dec m_6_spoke 13 (.invokestatic 111) 3 16 := ⟨by decide +kernel, rfl⟩
theorem D_6_spoke_16 : DecJ m_6_spoke 16 (.ifCond .eq) 19 28 := ⟨12, by decide +kernel, rfl, rfl⟩
theorem D_6_spoke_19 : Dec m_6_spoke 19 (.iload_n 3) 1 20 := ⟨by decide +kernel, rfl⟩
theorem D_6_spoke_20 : Dec m_6_spoke 20 (.iconst 0) 1 21 := ⟨by decide +kernel, rfl⟩
theorem D_6_spoke_21 : Dec m_6_spoke 21 (.iconst 1) 1 22 := ⟨by decide +kernel, rfl⟩
theorem D_6_spoke_22 : Dec m_6_spoke 22 (.invokestatic 111) 3 25 := ⟨by decide +kernel, rfl⟩
theorem D_6_spoke_25 : DecJ m_6_spoke 25 (.ifCond .ne) 28 30 := ⟨5, by decide +kernel, rfl, rfl⟩
theorem D_6_spoke_28 : Dec m_6_spoke 28 (.iconst (-1)) 1 29 := ⟨by decide +kernel, rfl⟩
theorem D_6_spoke_29 : Dec m_6_spoke 29 (.ireturn) 1 30 := ⟨by decide +kernel, rfl⟩
theorem D_6_spoke_30 : Dec m_6_spoke 30 (.iconst 0) 1 31 := ⟨by decide +kernel, rfl⟩
theorem D_6_spoke_31 : Dec m_6_spoke 31 (.istore 4) 2 33 := ⟨by decide +kernel, rfl⟩
theorem D_6_spoke_33 : Dec m_6_spoke 33 (.iconst (-1)) 1 34 := ⟨by decide +kernel, rfl⟩
theorem D_6_spoke_34 : Dec m_6_spoke 34 (.istore 5) 2 36 := ⟨by decide +kernel, rfl⟩
theorem D_6_spoke_36 : Dec m_6_spoke 36 (.iconst 0) 1 37 := ⟨by decide +kernel, rfl⟩
theorem D_6_spoke_37 : Dec m_6_spoke 37 (.istore 6) 2 39 := ⟨by decide +kernel, rfl⟩
theorem D_6_spoke_39 : Dec m_6_spoke 39 (.iload 6) 2 41 := ⟨by decide +kernel, rfl⟩
theorem D_6_spoke_41 : Dec m_6_spoke 41 (.iconst 1) 1 42 := ⟨by decide +kernel, rfl⟩
theorem D_6_spoke_42 : Dec m_6_spoke 42 (.aload_n 0) 1 43 := ⟨by decide +kernel, rfl⟩
theorem D_6_spoke_43 : Dec m_6_spoke 43 (.getfield 115) 3 46 := ⟨by decide +kernel, rfl⟩
theorem D_6_spoke_46 : Dec m_6_spoke 46 (.ishl) 1 47 := ⟨by decide +kernel, rfl⟩
theorem D_6_spoke_47 : DecJ m_6_spoke 47 (.if_icmp .ge) 50 126 := ⟨79, by decide +kernel, rfl, rfl⟩
theorem D_6_spoke_50 : Dec m_6_spoke 50 (.iconst 0) 1 51 := ⟨by decide +kernel, rfl⟩
theorem D_6_spoke_51 : Dec m_6_spoke 51 (.istore 7) 2 53 := ⟨by decide +kernel, rfl⟩
theorem D_6_spoke_53 : Dec m_6_spoke 53 (.iconst 0) 1 54 := ⟨by decide +kernel, rfl⟩
theorem D_6_spoke_54 : Dec m_6_spoke 54 (.istore 8) 2 56 := ⟨by decide +kernel, rfl⟩
theorem D_6_spoke_56 : Dec m_6_spoke 56 (.iload 8) 2 58 := ⟨by decide +kernel, rfl⟩
theorem D_6_spoke_58 : Dec m_6_spoke 58 (.aload_n 0) 1 59 := ⟨by decide +kernel, rfl⟩
theorem D_6_spoke_59 : Dec m_6_spoke 59 (.getfield 115) 3 62 := ⟨by decide +kernel, rfl⟩
theorem D_6_spoke_62 : DecJ m_6_spoke 62 (.if_icmp .ge) 65 104 := ⟨42, by decide +kernel, rfl, rfl⟩
theorem D_6_spoke_65 : Dec m_6_spoke 65 (.iload 7) 2 67 := ⟨by decide +kernel, rfl⟩
theorem D_6_spoke_67 : Dec m_6_spoke 67 (.iload 6) 2 69 := ⟨by decide +kernel, rfl⟩
theorem D_6_spoke_69 : Dec m_6_spoke 69 (.iload 8) 2 71 := ⟨by decide +kernel, rfl⟩
theorem D_6_spoke_71 : Dec m_6_spoke 71 (.invokestatic 177) 3 74 := ⟨by decide +kernel, rfl⟩
theorem D_6_spoke_74 : DecJ m_6_spoke 74 (.ifCond .eq) 77 94 := ⟨20, by decide +kernel, rfl, rfl⟩
theorem D_6_spoke_77 : Dec m_6_spoke 77 (.aload_n 0) 1 78 := ⟨by decide +kernel, rfl⟩
theorem D_6_spoke_78 : Dec m_6_spoke 78 (.getfield 13) 3 81 := ⟨by decide +kernel, rfl⟩
theorem D_6_spoke_81 : Dec m_6_spoke 81 (.iload 8) 2 83 := ⟨by decide +kernel, rfl⟩
theorem D_6_spoke_83 : Dec m_6_spoke 83 (.iaload) 1 84 := ⟨by decide +kernel, rfl⟩
theorem D_6_spoke_84 : Dec m_6_spoke 84 (.aload_n 0) 1 85 := ⟨by decide +kernel, rfl⟩
theorem D_6_spoke_85 : Dec m_6_spoke 85 (.getfield 7) 3 88 := ⟨by decide +kernel, rfl⟩
theorem D_6_spoke_88 : Dec m_6_spoke 88 (.iload_n 1) 1 89 := ⟨by decide +kernel, rfl⟩
theorem D_6_spoke_89 : Dec m_6_spoke 89 (.iaload) 1 90 := ⟨by decide +kernel, rfl⟩
theorem D_6_spoke_90 : Dec m_6_spoke 90 (.imul) 1 91 := ⟨by decide +kernel, rfl⟩
theorem D_6_spoke_91 : DecJ m_6_spoke 91 (.goto) 94 95 := ⟨4, by decide +kernel, rfl, rfl⟩
theorem D_6_spoke_94 : Dec m_6_spoke 94 (.iconst 0) 1 95 := ⟨by decide +kernel, rfl⟩
theorem D_6_spoke_95 : Dec m_6_spoke 95 (.iadd) 1 96 := ⟨by decide +kernel, rfl⟩
theorem D_6_spoke_96 : Dec m_6_spoke 96 (.istore 7) 2 98 := ⟨by decide +kernel, rfl⟩
theorem D_6_spoke_98 : Dec m_6_spoke 98 (.iinc 8 1) 3 101 := ⟨by decide +kernel, rfl⟩
theorem D_6_spoke_101 : DecJ m_6_spoke 101 (.goto) 104 56 := ⟨-45, by decide +kernel, rfl, rfl⟩
theorem D_6_spoke_104 : Dec m_6_spoke 104 (.iload 7) 2 106 := ⟨by decide +kernel, rfl⟩
theorem D_6_spoke_106 : Dec m_6_spoke 106 (.iload_n 2) 1 107 := ⟨by decide +kernel, rfl⟩
theorem D_6_spoke_107 : DecJ m_6_spoke 107 (.if_icmp .ne) 110 120 := ⟨13, by decide +kernel, rfl, rfl⟩
theorem D_6_spoke_110 : Dec m_6_spoke 110 (.iinc 4 1) 3 113 := ⟨by decide +kernel, rfl⟩
theorem D_6_spoke_113 : Dec m_6_spoke 113 (.iload 5) 2 115 := ⟨by decide +kernel, rfl⟩
theorem D_6_spoke_115 : Dec m_6_spoke 115 (.iload 6) 2 117 := ⟨by decide +kernel, rfl⟩
theorem D_6_spoke_117 : Dec m_6_spoke 117 (.iand) 1 118 := ⟨by decide +kernel, rfl⟩
theorem D_6_spoke_118 : Dec m_6_spoke 118 (.istore 5) 2 120 := ⟨by decide +kernel, rfl⟩
theorem D_6_spoke_120 : Dec m_6_spoke 120 (.iinc 6 1) 3 123 := ⟨by decide +kernel, rfl⟩
theorem D_6_spoke_123 : DecJ m_6_spoke 123 (.goto) 126 39 := ⟨-84, by decide +kernel, rfl, rfl⟩
theorem D_6_spoke_126 : Dec m_6_spoke 126 (.iload_n 3) 1 127 := ⟨by decide +kernel, rfl⟩
theorem D_6_spoke_127 : DecJ m_6_spoke 127 (.ifCond .ne) 130 135 := ⟨8, by decide +kernel, rfl, rfl⟩
theorem D_6_spoke_130 : Dec m_6_spoke 130 (.iload 4) 2 132 := ⟨by decide +kernel, rfl⟩
theorem D_6_spoke_132 : DecJ m_6_spoke 132 (.goto) 135 146 := ⟨14, by decide +kernel, rfl, rfl⟩
theorem D_6_spoke_135 : Dec m_6_spoke 135 (.iload 4) 2 137 := ⟨by decide +kernel, rfl⟩
theorem D_6_spoke_137 : DecJ m_6_spoke 137 (.ifCond .ne) 140 144 := ⟨7, by decide +kernel, rfl, rfl⟩
theorem D_6_spoke_140 : Dec m_6_spoke 140 (.iconst 0) 1 141 := ⟨by decide +kernel, rfl⟩
theorem D_6_spoke_141 : DecJ m_6_spoke 141 (.goto) 144 146 := ⟨5, by decide +kernel, rfl, rfl⟩
theorem D_6_spoke_144 : Dec m_6_spoke 144 (.iload 5) 2 146 := ⟨by decide +kernel, rfl⟩
theorem D_6_spoke_146 : Dec m_6_spoke 146 (.ireturn) 1 147 := ⟨by decide +kernel, rfl⟩
theorem D_6_winter_0 : Dec m_6_winter 0 (.iload_n 1) 1 1 := ⟨by decide +kernel, rfl⟩
theorem D_6_winter_1 : Dec m_6_winter 1 (.iconst 0) 1 2 := ⟨by decide +kernel, rfl⟩
theorem D_6_winter_2 : Dec m_6_winter 2 (.sipush 9999) 3 5 := ⟨by decide +kernel, rfl⟩
theorem D_6_winter_5 : Dec m_6_winter 5 (.invokestatic 111) 3 8 := ⟨by decide +kernel, rfl⟩
theorem D_6_winter_8 : DecJ m_6_winter 8 (.ifCond .eq) 11 34 := ⟨26, by decide +kernel, rfl, rfl⟩
theorem D_6_winter_11 : Dec m_6_winter 11 (.iload_n 2) 1 12 := ⟨by decide +kernel, rfl⟩
theorem D_6_winter_12 : Dec m_6_winter 12 (.iconst 1) 1 13 := ⟨by decide +kernel, rfl⟩
theorem D_6_winter_13 : Dec m_6_winter 13 (.bipush 100) 2 15 := ⟨by decide +kernel, rfl⟩
theorem D_6_winter_15 : Dec m_6_winter 15 (.invokestatic 111) 3 18 := ⟨by decide +kernel, rfl⟩
theorem D_6_winter_18 : DecJ m_6_winter 18 (.ifCond .eq) 21 34 := ⟨16, by decide +kernel, rfl, rfl⟩
theorem D_6_winter_21 : Dec m_6_winter 21 (.iload_n 3) 1 22 := ⟨by decide +kernel, rfl⟩
theorem D_6_winter_22 : Dec m_6_winter 22 (.iconst (-1)) 1 23 := ⟨by decide +kernel, rfl⟩
theorem D_6_winter_23 : DecJ m_6_winter 23 (.if_icmp .eq) 26 36 := ⟨13, by decide +kernel, rfl, rfl⟩
theorem D_6_winter_26 : Dec m_6_winter 26 (.aload_n 0) 1 27 := ⟨by decide +kernel, rfl⟩
theorem D_6_winter_27 : Dec m_6_winter 27 (.iload_n 3) 1 28 := ⟨by decide +kernel, rfl⟩
theorem D_6_winter_28 : Dec m_6_winter 28 (.invokevirtual 181) 3 31 := ⟨by decide +kernel, rfl⟩
theorem D_6_winter_31 : DecJ m_6_winter 31 (.ifCond .ne) 34 36 := ⟨5, by decide +kernel, rfl, rfl⟩
theorem D_6_winter_34 : Dec m_6_winter 34 (.iconst (-1)) 1 35 := ⟨by decide +kernel, rfl⟩
theorem D_6_winter_35 : Dec m_6_winter 35 (.ireturn) 1 36 := ⟨by decide +kernel, rfl⟩
theorem D_6_winter_36 : Dec m_6_winter 36 (.iconst 0) 1 37 := ⟨by decide +kernel, rfl⟩
theorem D_6_winter_37 : Dec m_6_winter 37 (.istore 4) 2 39 := ⟨by decide +kernel, rfl⟩
theorem D_6_winter_39 : Dec m_6_winter 39 (.iconst 0) 1 40 := ⟨by decide +kernel, rfl⟩
theorem D_6_winter_40 : Dec m_6_winter 40 (.istore 5) 2 42 := ⟨by decide +kernel, rfl⟩
theorem D_6_winter_42 : Dec m_6_winter 42 (.iload 5) 2 44 := ⟨by decide +kernel, rfl⟩
theorem D_6_winter_44 : Dec m_6_winter 44 (.iload_n 2) 1 45 := ⟨by decide +kernel, rfl⟩
theorem D_6_winter_45 : DecJ m_6_winter 45 (.if_icmp .ge) 48 158 := ⟨113, by decide +kernel, rfl, rfl⟩
theorem D_6_winter_48 : Dec m_6_winter 48 (.ldc2_w 258) 3 51 := ⟨by decide +kernel, rfl⟩
theorem D_6_winter_51 : Dec m_6_winter 51 (.iload_n 1) 1 52 := ⟨by decide +kernel, rfl⟩
theorem D_6_winter_52 : Dec m_6_winter 52 (.i2l) 1 53 := ⟨by decide +kernel, rfl⟩
theorem D_6_winter_53 : Dec m_6_winter 53 (.lmul) 1 54 := ⟨by decide +kernel, rfl⟩
theorem D_6_winter_54 : Dec m_6_winter 54 (.ldc2_w 260) 3 57 := ⟨by decide +kernel, rfl⟩
theorem D_6_winter_57 : Dec m_6_winter 57 (.iload 5) 2 59 := ⟨by decide +kernel, rfl⟩
theorem D_6_winter_59 : Dec m_6_winter 59 (.i2l) 1 60 := ⟨by decide +kernel, rfl⟩
theorem D_6_winter_60 : Dec m_6_winter 60 (.lmul) 1 61 := ⟨by decide +kernel, rfl⟩
theorem D_6_winter_61 : Dec m_6_winter 61 (.ladd) 1 62 := ⟨by decide +kernel, rfl⟩
theorem D_6_winter_62 : Dec m_6_winter 62 (.lconst 1) 1 63 := ⟨by decide +kernel, rfl⟩
theorem D_6_winter_63 : Dec m_6_winter 63 (.ladd) 1 64 := ⟨by decide +kernel, rfl⟩
theorem D_6_winter_64 : Dec m_6_winter 64 (.lstore 6) 2 66 := ⟨by decide +kernel, rfl⟩
theorem D_6_winter_66 : Dec m_6_winter 66 (.lload 6) 2 68 := ⟨by decide +kernel, rfl⟩
theorem D_6_winter_68 : Dec m_6_winter 68 (.lload 6) 2 70 := ⟨by decide +kernel, rfl⟩
end
section
theorem D_6_winter_70 : Dec m_6_winter 70 (.lmul) 1 71 := ⟨by decide +kernel, rfl⟩
theorem D_6_winter_71 : Dec m_6_winter 71 (.ldc2_w 262) 3 74 := ⟨by decide +kernel, rfl⟩
theorem D_6_winter_74 : Dec m_6_winter 74 (.lrem) 1 75 := ⟨by decide +kernel, rfl⟩
theorem D_6_winter_75 : Dec m_6_winter 75 (.l2i) 1 76 := ⟨by decide +kernel, rfl⟩
theorem D_6_winter_76 : Dec m_6_winter 76 (.istore 8) 2 78 := ⟨by decide +kernel, rfl⟩
theorem D_6_winter_78 : Dec m_6_winter 78 (.iload 8) 2 80 := ⟨by decide +kernel, rfl⟩
theorem D_6_winter_80 : Dec m_6_winter 80 (.aload_n 0) 1 81 := ⟨by decide +kernel, rfl⟩
theorem D_6_winter_81 : Dec m_6_winter 81 (.getfield 108) 3 84 := ⟨by decide +kernel, rfl⟩
theorem D_6_winter_84 : Dec m_6_winter 84 (.irem) 1 85 := ⟨by decide +kernel, rfl⟩
theorem D_6_winter_85 : Dec m_6_winter 85 (.istore 9) 2 87 := ⟨by decide +kernel, rfl⟩
theorem D_6_winter_87 : Dec m_6_winter 87 (.iload 8) 2 89 := ⟨by decide +kernel, rfl⟩
theorem D_6_winter_89 : Dec m_6_winter 89 (.bipush 8) 2 91 := ⟨by decide +kernel, rfl⟩
theorem D_6_winter_91 : Dec m_6_winter 91 (.idiv) 1 92 := ⟨by decide +kernel, rfl⟩
theorem D_6_winter_92 : Dec m_6_winter 92 (.aload_n 0) 1 93 := ⟨by decide +kernel, rfl⟩
theorem D_6_winter_93 : Dec m_6_winter 93 (.getfield 115) 3 96 := ⟨by decide +kernel, rfl⟩
theorem D_6_winter_96 : Dec m_6_winter 96 (.irem) 1 97 := ⟨by decide +kernel, rfl⟩
theorem D_6_winter_97 : Dec m_6_winter 97 (.istore 10) 2 99 := ⟨by decide +kernel, rfl⟩
theorem D_6_winter_99 : Dec m_6_winter 99 (.aload_n 0) 1 100 := ⟨by decide +kernel, rfl⟩
theorem D_6_winter_100 : Dec m_6_winter 100 (.iload 9) 2 102 := ⟨by decide +kernel, rfl⟩
theorem D_6_winter_102 : Dec m_6_winter 102 (.aload_n 0) 1 103 := ⟨by decide +kernel, rfl⟩
theorem D_6_winter_103 : Dec m_6_winter 103 (.getfield 13) 3 106 := ⟨by decide +kernel, rfl⟩
theorem D_6_winter_106 : Dec m_6_winter 106 (.iload 10) 2 108 := ⟨by decide +kernel, rfl⟩
theorem D_6_winter_108 : Dec m_6_winter 108 (.iaload) 1 109 := ⟨by decide +kernel, rfl⟩
theorem D_6_winter_109 : Dec m_6_winter 109 (.aload_n 0) 1 110 := ⟨by decide +kernel, rfl⟩
theorem D_6_winter_110 : Dec m_6_winter 110 (.getfield 7) 3 113 := ⟨by decide +kernel, rfl⟩
theorem D_6_winter_113 : Dec m_6_winter 113 (.iload 9) 2 115 := ⟨by decide +kernel, rfl⟩
theorem D_6_winter_115 : Dec m_6_winter 115 (.iaload) 1 116 := ⟨by decide +kernel, rfl⟩
theorem D_6_winter_116 : Dec m_6_winter 116 (.imul) 1 117 := ⟨by decide +kernel, rfl⟩
theorem D_6_winter_117 : Dec m_6_winter 117 (.iconst (-1)) 1 118 := ⟨by decide +kernel, rfl⟩
theorem D_6_winter_118 : Dec m_6_winter 118 (.invokevirtual 219) 3 121 := ⟨by decide +kernel, rfl⟩
theorem D_6_winter_121 : Dec m_6_winter 121 (.iload 4) 2 123 := ⟨by decide +kernel, rfl⟩
theorem D_6_winter_123 : Dec m_6_winter 123 (.iload_n 3) 1 124 := ⟨by decide +kernel, rfl⟩
theorem D_6_winter_124 : Dec m_6_winter 124 (.iconst (-1)) 1 125 := ⟨by decide +kernel, rfl⟩
theorem D_6_winter_125 : DecJ m_6_winter 125 (.if_icmp .ne) 128 135 := ⟨10, by decide +kernel, rfl, rfl⟩
theorem D_6_winter_128 : Dec m_6_winter 128 (.aload_n 0) 1 129 := ⟨by decide +kernel, rfl⟩
theorem D_6_winter_129 : Dec m_6_winter 129 (.getfield 210) 3 132 := ⟨by decide +kernel, rfl⟩
theorem D_6_winter_132 : DecJ m_6_winter 132 (.goto) 135 149 := ⟨17, by decide +kernel, rfl, rfl⟩
theorem D_6_winter_135 : Dec m_6_winter 135 (.iload_n 3) 1 136 := ⟨by decide +kernel, rfl⟩
theorem D_6_winter_136 : Dec m_6_winter 136 (.iload 9) 2 138 := ⟨by decide +kernel, rfl⟩
theorem D_6_winter_138 : DecJ m_6_winter 138 (.if_icmp .ne) 141 148 := ⟨10, by decide +kernel, rfl, rfl⟩
theorem D_6_winter_141 : Dec m_6_winter 141 (.aload_n 0) 1 142 := ⟨by decide +kernel, rfl⟩
theorem D_6_winter_142 : Dec m_6_winter 142 (.getfield 213) 3 145 := ⟨by decide +kernel, rfl⟩
theorem D_6_winter_145 : DecJ m_6_winter 145 (.goto) 148 149 := ⟨4, by decide +kernel, rfl, rfl⟩
theorem D_6_winter_148 : Dec m_6_winter 148 (.iconst 0) 1 149 := ⟨by decide +kernel, rfl⟩
theorem D_6_winter_149 : Dec m_6_winter 149 (.iadd) 1 150 := ⟨by decide +kernel, rfl⟩
theorem D_6_winter_150 : Dec m_6_winter 150 (.istore 4) 2 152 := ⟨by decide +kernel, rfl⟩
theorem D_6_winter_152 : Dec m_6_winter 152 (.iinc 5 1) 3 155 := ⟨by decide +kernel, rfl⟩
theorem D_6_winter_155 : DecJ m_6_winter 155 (.goto) 158 42 := ⟨-113, by decide +kernel, rfl, rfl⟩
theorem D_6_winter_158 : Dec m_6_winter 158 (.iload 4) 2 160 := ⟨by decide +kernel, rfl⟩
theorem D_6_winter_160 : Dec m_6_winter 160 (.ireturn) 1 161 := ⟨by decide +kernel, rfl⟩
theorem D_6_keep_0 : Dec m_6_keep 0 (.aload_n 0) 1 1 := ⟨by decide +kernel, rfl⟩
theorem D_6_keep_1 : Dec m_6_keep 1 (.getfield 174) 3 4 := ⟨by decide +kernel, rfl⟩
theorem D_6_keep_4 : Dec m_6_keep 4 (.iconst 2) 1 5 := ⟨by decide +kernel, rfl⟩
theorem D_6_keep_5 : DecJ m_6_keep 5 (.if_icmp .ne) 8 11 := ⟨6, by decide +kernel, rfl, rfl⟩
theorem D_6_keep_8 : Dec m_6_keep 8 (.bipush (-3)) 2 10 := ⟨by decide +kernel, rfl⟩
theorem D_6_keep_10 : Dec m_6_keep 10 (.ireturn) 1 11 := ⟨by decide +kernel, rfl⟩
theorem D_6_keep_11 : Dec m_6_keep 11 (.iconst 0) 1 12 := ⟨by decide +kernel, rfl⟩
theorem D_6_keep_12 : Dec m_6_keep 12 (.istore_n 1) 1 13 := ⟨by decide +kernel, rfl⟩
theorem D_6_keep_13 : Dec m_6_keep 13 (.iload_n 1) 1 14 := ⟨by decide +kernel, rfl⟩
theorem D_6_keep_14 : Dec m_6_keep 14 (.bipush 23) 2 16 := ⟨by decide +kernel, rfl⟩
theorem D_6_keep_16 : DecJ m_6_keep 16 (.if_icmp .ge) 19 45 := ⟨29, by decide +kernel, rfl, rfl⟩
theorem D_6_keep_19 : Dec m_6_keep 19 (.aload_n 0) 1 20 := ⟨by decide +kernel, rfl⟩
theorem D_6_keep_20 : Dec m_6_keep 20 (.getfield 40) 3 23 := ⟨by decide +kernel, rfl⟩
theorem D_6_keep_23 : Dec m_6_keep 23 (.bipush 23) 2 25 := ⟨by decide +kernel, rfl⟩
theorem D_6_keep_25 : Dec m_6_keep 25 (.aload_n 0) 1 26 := ⟨by decide +kernel, rfl⟩
theorem D_6_keep_26 : Dec m_6_keep 26 (.getfield 174) 3 29 := ⟨by decide +kernel, rfl⟩
theorem D_6_keep_29 : Dec m_6_keep 29 (.imul) 1 30 := ⟨by decide +kernel, rfl⟩
theorem D_6_keep_30 : Dec m_6_keep 30 (.iload_n 1) 1 31 := ⟨by decide +kernel, rfl⟩
theorem D_6_keep_31 : Dec m_6_keep 31 (.iadd) 1 32 := ⟨by decide +kernel, rfl⟩
theorem D_6_keep_32 : Dec m_6_keep 32 (.aload_n 0) 1 33 := ⟨by decide +kernel, rfl⟩
theorem D_6_keep_33 : Dec m_6_keep 33 (.getfield 34) 3 36 := ⟨by decide +kernel, rfl⟩
theorem D_6_keep_36 : Dec m_6_keep 36 (.iload_n 1) 1 37 := ⟨by decide +kernel, rfl⟩
theorem D_6_keep_37 : Dec m_6_keep 37 (.iaload) 1 38 := ⟨by decide +kernel, rfl⟩
theorem D_6_keep_38 : Dec m_6_keep 38 (.iastore) 1 39 := ⟨by decide +kernel, rfl⟩
theorem D_6_keep_39 : Dec m_6_keep 39 (.iinc 1 1) 3 42 := ⟨by decide +kernel, rfl⟩
theorem D_6_keep_42 : DecJ m_6_keep 42 (.goto) 45 13 := ⟨-29, by decide +kernel, rfl, rfl⟩
theorem D_6_keep_45 : Dec m_6_keep 45 (.aload_n 0) 1 46 := ⟨by decide +kernel, rfl⟩
theorem D_6_keep_46 : Dec m_6_keep 46 (.dup) 1 47 := ⟨by decide +kernel, rfl⟩
theorem D_6_keep_47 : Dec m_6_keep 47 (.getfield 174) 3 50 := ⟨by decide +kernel, rfl⟩
theorem D_6_keep_50 : Dec m_6_keep 50 (.iconst 1) 1 51 := ⟨by decide +kernel, rfl⟩
theorem D_6_keep_51 : Dec m_6_keep 51 (.iadd) 1 52 := ⟨by decide +kernel, rfl⟩
theorem D_6_keep_52 : Dec m_6_keep 52 (.putfield 174) 3 55 := ⟨by decide +kernel, rfl⟩
theorem D_6_keep_55 : Dec m_6_keep 55 (.aload_n 0) 1 56 := ⟨by decide +kernel, rfl⟩
theorem D_6_keep_56 : Dec m_6_keep 56 (.getfield 174) 3 59 := ⟨by decide +kernel, rfl⟩
theorem D_6_keep_59 : Dec m_6_keep 59 (.ireturn) 1 60 := ⟨by decide +kernel, rfl⟩
theorem D_6_back_0 : Dec m_6_back 0 (.aload_n 0) 1 1 := ⟨by decide +kernel, rfl⟩
theorem D_6_back_1 : Dec m_6_back 1 (.getfield 174) 3 4 := ⟨by decide +kernel, rfl⟩
theorem D_6_back_4 : DecJ m_6_back 4 (.ifCond .ne) 7 10 := ⟨6, by decide +kernel, rfl, rfl⟩
theorem D_6_back_7 : Dec m_6_back 7 (.bipush (-2)) 2 9 := ⟨by decide +kernel, rfl⟩
theorem D_6_back_9 : Dec m_6_back 9 (.ireturn) 1 10 := ⟨by decide +kernel, rfl⟩
theorem D_6_back_10 : Dec m_6_back 10 (.aload_n 0) 1 11 := ⟨by decide +kernel, rfl⟩
theorem D_6_back_11 : Dec m_6_back 11 (.dup) 1 12 := ⟨by decide +kernel, rfl⟩
theorem D_6_back_12 : Dec m_6_back 12 (.getfield 174) 3 15 := ⟨by decide +kernel, rfl⟩
theorem D_6_back_15 : Dec m_6_back 15 (.iconst 1) 1 16 := ⟨by decide +kernel, rfl⟩
theorem D_6_back_16 : Dec m_6_back 16 (.isub) 1 17 := ⟨by decide +kernel, rfl⟩
theorem D_6_back_17 : Dec m_6_back 17 (.putfield 174) 3 20 := ⟨by decide +kernel, rfl⟩
theorem D_6_back_20 : Dec m_6_back 20 (.iconst 0) 1 21 := ⟨by decide +kernel, rfl⟩
theorem D_6_back_21 : Dec m_6_back 21 (.istore_n 1) 1 22 := ⟨by decide +kernel, rfl⟩
theorem D_6_back_22 : Dec m_6_back 22 (.iload_n 1) 1 23 := ⟨by decide +kernel, rfl⟩
theorem D_6_back_23 : Dec m_6_back 23 (.bipush 23) 2 25 := ⟨by decide +kernel, rfl⟩
theorem D_6_back_25 : DecJ m_6_back 25 (.if_icmp .ge) 28 54 := ⟨29, by decide +kernel, rfl, rfl⟩
theorem D_6_back_28 : Dec m_6_back 28 (.aload_n 0) 1 29 := ⟨by decide +kernel, rfl⟩
theorem D_6_back_29 : Dec m_6_back 29 (.getfield 34) 3 32 := ⟨by decide +kernel, rfl⟩
theorem D_6_back_32 : Dec m_6_back 32 (.iload_n 1) 1 33 := ⟨by decide +kernel, rfl⟩
theorem D_6_back_33 : Dec m_6_back 33 (.aload_n 0) 1 34 := ⟨by decide +kernel, rfl⟩
theorem D_6_back_34 : Dec m_6_back 34 (.getfield 40) 3 37 := ⟨by decide +kernel, rfl⟩
theorem D_6_back_37 : Dec m_6_back 37 (.bipush 23) 2 39 := ⟨by decide +kernel, rfl⟩
theorem D_6_back_39 : Dec m_6_back 39 (.aload_n 0) 1 40 := ⟨by decide +kernel, rfl⟩
theorem D_6_back_40 : Dec m_6_back 40 (.getfield 174) 3 43 := ⟨by decide +kernel, rfl⟩
theorem D_6_back_43 : Dec m_6_back 43 (.imul) 1 44 := ⟨by decide +kernel, rfl⟩
theorem D_6_back_44 : Dec m_6_back 44 (.iload_n 1) 1 45 := ⟨by decide +kernel, rfl⟩
theorem D_6_back_45 : Dec m_6_back 45 (.iadd) 1 46 := ⟨by decide +kernel, rfl⟩
theorem D_6_back_46 : Dec m_6_back 46 (.iaload) 1 47 := ⟨by decide +kernel, rfl⟩
theorem D_6_back_47 : Dec m_6_back 47 (.iastore) 1 48 := ⟨by decide +kernel, rfl⟩
theorem D_6_back_48 : Dec m_6_back 48 (.iinc 1 1) 3 51 := ⟨by decide +kernel, rfl⟩
theorem D_6_back_51 : DecJ m_6_back 51 (.goto) 54 22 := ⟨-29, by decide +kernel, rfl, rfl⟩
theorem D_6_back_54 : Dec m_6_back 54 (.aload_n 0) 1 55 := ⟨by decide +kernel, rfl⟩
theorem D_6_back_55 : Dec m_6_back 55 (.iconst 0) 1 56 := ⟨by decide +kernel, rfl⟩
theorem D_6_back_56 : Dec m_6_back 56 (.putfield 171) 3 59 := ⟨by decide +kernel, rfl⟩
theorem D_6_back_59 : Dec m_6_back 59 (.aload_n 0) 1 60 := ⟨by decide +kernel, rfl⟩
theorem D_6_back_60 : Dec m_6_back 60 (.getfield 174) 3 63 := ⟨by decide +kernel, rfl⟩
theorem D_6_back_63 : Dec m_6_back 63 (.ireturn) 1 64 := ⟨by decide +kernel, rfl⟩
theorem D_6_count_0 : Dec m_6_count 0 (.iload_n 1) 1 1 := ⟨by decide +kernel, rfl⟩
theorem D_6_count_1 : Dec m_6_count 1 (.tableswitch 122 0 10 #[59, 64, 69, 74, 79, 86, 93, 100, 107, 112, 117]) 59 60 := ⟨by decide +kernel, rfl⟩
theorem D_6_count_60 : Dec m_6_count 60 (.aload_n 0) 1 61 := ⟨by decide +kernel, rfl⟩
theorem D_6_count_61 : Dec m_6_count 61 (.getfield 108) 3 64 := ⟨by decide +kernel, rfl⟩
theorem D_6_count_64 : Dec m_6_count 64 (.ireturn) 1 65 := ⟨by decide +kernel, rfl⟩
theorem D_6_count_65 : Dec m_6_count 65 (.aload_n 0) 1 66 := ⟨by decide +kernel, rfl⟩
theorem D_6_count_66 : Dec m_6_count 66 (.getfield 115) 3 69 := ⟨by decide +kernel, rfl⟩
theorem D_6_count_69 : Dec m_6_count 69 (.ireturn) 1 70 := ⟨by decide +kernel, rfl⟩
theorem D_6_count_70 : Dec m_6_count 70 (.aload_n 0) 1 71 := ⟨by decide +kernel, rfl⟩
theorem D_6_count_71 : Dec m_6_count 71 (.getfield 118) 3 74 := ⟨by decide +kernel, rfl⟩
theorem D_6_count_74 : Dec m_6_count 74 (.ireturn) 1 75 := ⟨by decide +kernel, rfl⟩
theorem D_6_count_75 : Dec m_6_count 75 (.aload_n 0) 1 76 := ⟨by decide +kernel, rfl⟩
theorem D_6_count_76 : Dec m_6_count 76 (.getfield 165) 3 79 := ⟨by decide +kernel, rfl⟩
theorem D_6_count_79 : Dec m_6_count 79 (.ireturn) 1 80 := ⟨by decide +kernel, rfl⟩
theorem D_6_count_80 : Dec m_6_count 80 (.aload_n 0) 1 81 := ⟨by decide +kernel, rfl⟩
theorem D_6_count_81 : Dec m_6_count 81 (.getfield 34) 3 84 := ⟨by decide +kernel, rfl⟩
theorem D_6_count_84 : Dec m_6_count 84 (.iconst 0) 1 85 := ⟨by decide +kernel, rfl⟩
theorem D_6_count_85 : Dec m_6_count 85 (.iaload) 1 86 := ⟨by decide +kernel, rfl⟩
theorem D_6_count_86 : Dec m_6_count 86 (.ireturn) 1 87 := ⟨by decide +kernel, rfl⟩
theorem D_6_count_87 : Dec m_6_count 87 (.aload_n 0) 1 88 := ⟨by decide +kernel, rfl⟩
theorem D_6_count_88 : Dec m_6_count 88 (.getfield 34) 3 91 := ⟨by decide +kernel, rfl⟩
theorem D_6_count_91 : Dec m_6_count 91 (.iconst 3) 1 92 := ⟨by decide +kernel, rfl⟩
theorem D_6_count_92 : Dec m_6_count 92 (.iaload) 1 93 := ⟨by decide +kernel, rfl⟩
theorem D_6_count_93 : Dec m_6_count 93 (.ireturn) 1 94 := ⟨by decide +kernel, rfl⟩
theorem D_6_count_94 : Dec m_6_count 94 (.aload_n 0) 1 95 := ⟨by decide +kernel, rfl⟩
theorem D_6_count_95 : Dec m_6_count 95 (.getfield 34) 3 98 := ⟨by decide +kernel, rfl⟩
theorem D_6_count_98 : Dec m_6_count 98 (.iconst 4) 1 99 := ⟨by decide +kernel, rfl⟩
theorem D_6_count_99 : Dec m_6_count 99 (.iaload) 1 100 := ⟨by decide +kernel, rfl⟩
theorem D_6_count_100 : Dec m_6_count 100 (.ireturn) 1 101 := ⟨by decide +kernel, rfl⟩
theorem D_6_count_101 : Dec m_6_count 101 (.aload_n 0) 1 102 := ⟨by decide +kernel, rfl⟩
theorem D_6_count_102 : Dec m_6_count 102 (.getfield 34) 3 105 := ⟨by decide +kernel, rfl⟩
theorem D_6_count_105 : Dec m_6_count 105 (.iconst 5) 1 106 := ⟨by decide +kernel, rfl⟩
theorem D_6_count_106 : Dec m_6_count 106 (.iaload) 1 107 := ⟨by decide +kernel, rfl⟩
theorem D_6_count_107 : Dec m_6_count 107 (.ireturn) 1 108 := ⟨by decide +kernel, rfl⟩
theorem D_6_count_108 : Dec m_6_count 108 (.aload_n 0) 1 109 := ⟨by decide +kernel, rfl⟩
theorem D_6_count_109 : Dec m_6_count 109 (.getfield 171) 3 112 := ⟨by decide +kernel, rfl⟩
theorem D_6_count_112 : Dec m_6_count 112 (.ireturn) 1 113 := ⟨by decide +kernel, rfl⟩
theorem D_6_count_113 : Dec m_6_count 113 (.aload_n 0) 1 114 := ⟨by decide +kernel, rfl⟩
theorem D_6_count_114 : Dec m_6_count 114 (.getfield 174) 3 117 := ⟨by decide +kernel, rfl⟩
theorem D_6_count_117 : Dec m_6_count 117 (.ireturn) 1 118 := ⟨by decide +kernel, rfl⟩
theorem D_6_count_118 : Dec m_6_count 118 (.aload_n 0) 1 119 := ⟨by decide +kernel, rfl⟩
theorem D_6_count_119 : Dec m_6_count 119 (.getfield 121) 3 122 := ⟨by decide +kernel, rfl⟩
theorem D_6_count_122 : Dec m_6_count 122 (.ireturn) 1 123 := ⟨by decide +kernel, rfl⟩
theorem D_6_count_123 : Dec m_6_count 123 (.iconst (-1)) 1 124 := ⟨by decide +kernel, rfl⟩
theorem D_6_count_124 : Dec m_6_count 124 (.ireturn) 1 125 := ⟨by decide +kernel, rfl⟩
end
section
theorem D_J0_length_8abf5_0 : Dec m_J0_length_8abf5 0 (.aload_n 0) 1 1 := ⟨by decide +kernel, rfl⟩
theorem D_J0_length_8abf5_1 : Dec m_J0_length_8abf5 1 (.getfield 9) 3 4 := ⟨by decide +kernel, rfl⟩
theorem D_J0_length_8abf5_4 : Dec m_J0_length_8abf5 4 (.arraylength) 1 5 := ⟨by decide +kernel, rfl⟩
theorem D_J0_length_8abf5_5 : Dec m_J0_length_8abf5 5 (.aload_n 0) 1 6 := ⟨by decide +kernel, rfl⟩
theorem D_J0_length_8abf5_6 : Dec m_J0_length_8abf5 6 (.invokevirtual 335) 3 9 := ⟨by decide +kernel, rfl⟩
theorem D_J0_length_8abf5_9 : Dec m_J0_length_8abf5 9 (.ishr) 1 10 := ⟨by decide +kernel, rfl⟩
theorem D_J0_length_8abf5_10 : Dec m_J0_length_8abf5 10 (.ireturn) 1 11 := ⟨by decide +kernel, rfl⟩
theorem D_J0_charAt_5068e_0 : Dec m_J0_charAt_5068e 0 (.aload_n 0) 1 1 := ⟨by decide +kernel, rfl⟩
theorem D_J0_charAt_5068e_1 : Dec m_J0_charAt_5068e 1 (.invokevirtual 492) 3 4 := ⟨by decide +kernel, rfl⟩
theorem D_J0_charAt_5068e_4 : DecJ m_J0_charAt_5068e 4 (.ifCond .eq) 7 16 := ⟨12, by decide +kernel, rfl, rfl⟩
theorem D_J0_charAt_5068e_7 : Dec m_J0_charAt_5068e 7 (.aload_n 0) 1 8 := ⟨by decide +kernel, rfl⟩
theorem D_J0_charAt_5068e_8 : Dec m_J0_charAt_5068e 8 (.getfield 9) 3 11 := ⟨by decide +kernel, rfl⟩
theorem D_J0_charAt_5068e_11 : Dec m_J0_charAt_5068e 11 (.iload_n 1) 1 12 := ⟨by decide +kernel, rfl⟩
theorem D_J0_charAt_5068e_12 : Dec m_J0_charAt_5068e 12 (.invokestatic 495) 3 15 := ⟨by decide +kernel, rfl⟩
theorem D_J0_charAt_5068e_15 : Dec m_J0_charAt_5068e 15 (.ireturn) 1 16 := ⟨by decide +kernel, rfl⟩
theorem D_J0_charAt_5068e_16 : Dec m_J0_charAt_5068e 16 (.aload_n 0) 1 17 := ⟨by decide +kernel, rfl⟩
theorem D_J0_charAt_5068e_17 : Dec m_J0_charAt_5068e 17 (.getfield 9) 3 20 := ⟨by decide +kernel, rfl⟩
theorem D_J0_charAt_5068e_20 : Dec m_J0_charAt_5068e 20 (.iload_n 1) 1 21 := ⟨by decide +kernel, rfl⟩
theorem D_J0_charAt_5068e_21 : Dec m_J0_charAt_5068e 21 (.invokestatic 498) 3 24 := ⟨by decide +kernel, rfl⟩
theorem D_J0_charAt_5068e_24 : Dec m_J0_charAt_5068e 24 (.ireturn) 1 25 := ⟨by decide +kernel, rfl⟩
theorem D_J0_coder_7d493_0 : Dec m_J0_coder_7d493 0 (.getstatic 38) 3 3 := ⟨by decide +kernel, rfl⟩
theorem D_J0_coder_7d493_3 : DecJ m_J0_coder_7d493 3 (.ifCond .eq) 6 13 := ⟨10, by decide +kernel, rfl, rfl⟩
theorem D_J0_coder_7d493_6 : Dec m_J0_coder_7d493 6 (.aload_n 0) 1 7 := ⟨by decide +kernel, rfl⟩
theorem D_J0_coder_7d493_7 : Dec m_J0_coder_7d493 7 (.getfield 15) 3 10 := ⟨by decide +kernel, rfl⟩
theorem D_J0_coder_7d493_10 : DecJ m_J0_coder_7d493 10 (.goto) 13 14 := ⟨4, by decide +kernel, rfl, rfl⟩
theorem D_J0_coder_7d493_13 : Dec m_J0_coder_7d493 13 (.iconst 1) 1 14 := ⟨by decide +kernel, rfl⟩
theorem D_J0_coder_7d493_14 : Dec m_J0_coder_7d493 14 (.ireturn) 1 15 := ⟨by decide +kernel, rfl⟩
theorem D_J0_isLatin1_aae02_0 : Dec m_J0_isLatin1_aae02 0 (.getstatic 38) 3 3 := ⟨by decide +kernel, rfl⟩
theorem D_J0_isLatin1_aae02_3 : DecJ m_J0_isLatin1_aae02 3 (.ifCond .eq) 6 17 := ⟨14, by decide +kernel, rfl, rfl⟩
theorem D_J0_isLatin1_aae02_6 : Dec m_J0_isLatin1_aae02 6 (.aload_n 0) 1 7 := ⟨by decide +kernel, rfl⟩
theorem D_J0_isLatin1_aae02_7 : Dec m_J0_isLatin1_aae02 7 (.getfield 15) 3 10 := ⟨by decide +kernel, rfl⟩
theorem D_J0_isLatin1_aae02_10 : DecJ m_J0_isLatin1_aae02 10 (.ifCond .ne) 13 17 := ⟨7, by decide +kernel, rfl, rfl⟩
theorem D_J0_isLatin1_aae02_13 : Dec m_J0_isLatin1_aae02 13 (.iconst 1) 1 14 := ⟨by decide +kernel, rfl⟩
theorem D_J0_isLatin1_aae02_14 : DecJ m_J0_isLatin1_aae02 14 (.goto) 17 18 := ⟨4, by decide +kernel, rfl, rfl⟩
theorem D_J0_isLatin1_aae02_17 : Dec m_J0_isLatin1_aae02 17 (.iconst 0) 1 18 := ⟨by decide +kernel, rfl⟩
theorem D_J0_isLatin1_aae02_18 : Dec m_J0_isLatin1_aae02 18 (.ireturn) 1 19 := ⟨by decide +kernel, rfl⟩
theorem D_J0_checkIndex_df160_0 : Dec m_J0_checkIndex_df160 0 (.iload_n 0) 1 1 := ⟨by decide +kernel, rfl⟩
theorem D_J0_checkIndex_df160_1 : Dec m_J0_checkIndex_df160 1 (.iload_n 1) 1 2 := ⟨by decide +kernel, rfl⟩
theorem D_J0_checkIndex_df160_2 : Dec m_J0_checkIndex_df160 2 (.getstatic 1053) 3 5 := ⟨by decide +kernel, rfl⟩
theorem D_J0_checkIndex_df160_5 : Dec m_J0_checkIndex_df160 5 (.invokestatic 1059) 3 8 := ⟨by decide +kernel, rfl⟩
theorem D_J0_checkIndex_df160_8 : Dec m_J0_checkIndex_df160 8 (.pop) 1 9 := ⟨by decide +kernel, rfl⟩
theorem D_J0_checkIndex_df160_9 : Dec m_J0_checkIndex_df160 9 (.return_) 1 10 := ⟨by decide +kernel, rfl⟩
theorem D_J1_charAt_3b067_0 : Dec m_J1_charAt_3b067 0 (.iload_n 1) 1 1 := ⟨by decide +kernel, rfl⟩
theorem D_J1_charAt_3b067_1 : Dec m_J1_charAt_3b067 1 (.aload_n 0) 1 2 := ⟨by decide +kernel, rfl⟩
theorem D_J1_charAt_3b067_2 : Dec m_J1_charAt_3b067 2 (.arraylength) 1 3 := ⟨by decide +kernel, rfl⟩
theorem D_J1_charAt_3b067_3 : Dec m_J1_charAt_3b067 3 (.invokestatic 9) 3 6 := ⟨by decide +kernel, rfl⟩
theorem D_J1_charAt_3b067_6 : Dec m_J1_charAt_3b067 6 (.aload_n 0) 1 7 := ⟨by decide +kernel, rfl⟩
theorem D_J1_charAt_3b067_7 : Dec m_J1_charAt_3b067 7 (.iload_n 1) 1 8 := ⟨by decide +kernel, rfl⟩
theorem D_J1_charAt_3b067_8 : Dec m_J1_charAt_3b067 8 (.baload) 1 9 := ⟨by decide +kernel, rfl⟩
theorem D_J1_charAt_3b067_9 : Dec m_J1_charAt_3b067 9 (.sipush 255) 3 12 := ⟨by decide +kernel, rfl⟩
theorem D_J1_charAt_3b067_12 : Dec m_J1_charAt_3b067 12 (.iand) 1 13 := ⟨by decide +kernel, rfl⟩
theorem D_J1_charAt_3b067_13 : Dec m_J1_charAt_3b067 13 (.i2c) 1 14 := ⟨by decide +kernel, rfl⟩
theorem D_J1_charAt_3b067_14 : Dec m_J1_charAt_3b067 14 (.ireturn) 1 15 := ⟨by decide +kernel, rfl⟩
theorem D_J2_getChar_3b067_0 : Dec m_J2_getChar_3b067 0 (.getstatic 44) 3 3 := ⟨by decide +kernel, rfl⟩
theorem D_J2_getChar_3b067_3 : DecJ m_J2_getChar_3b067 3 (.ifCond .ne) 6 28 := ⟨25, by decide +kernel, rfl, rfl⟩
theorem D_J2_getChar_3b067_6 : Dec m_J2_getChar_3b067 6 (.iload_n 1) 1 7 := ⟨by decide +kernel, rfl⟩
theorem D_J2_getChar_3b067_7 : DecJ m_J2_getChar_3b067 7 (.ifCond .lt) 10 18 := ⟨11, by decide +kernel, rfl, rfl⟩
theorem D_J2_getChar_3b067_10 : Dec m_J2_getChar_3b067 10 (.iload_n 1) 1 11 := ⟨by decide +kernel, rfl⟩
theorem D_J2_getChar_3b067_11 : Dec m_J2_getChar_3b067 11 (.aload_n 0) 1 12 := ⟨by decide +kernel, rfl⟩
theorem D_J2_getChar_3b067_12 : Dec m_J2_getChar_3b067 12 (.invokestatic 48) 3 15 := ⟨by decide +kernel, rfl⟩
theorem D_J2_getChar_3b067_15 : DecJ m_J2_getChar_3b067 15 (.if_icmp .lt) 18 28 := ⟨13, by decide +kernel, rfl, rfl⟩
theorem D_J2_getChar_3b067_18 : Dec m_J2_getChar_3b067 18 (.new 52) 3 21 := ⟨by decide +kernel, rfl⟩
theorem D_J2_getChar_3b067_21 : Dec m_J2_getChar_3b067 21 (.dup) 1 22 := ⟨by decide +kernel, rfl⟩
theorem D_J2_getChar_3b067_22 : Dec m_J2_getChar_3b067 22 (.ldc 54) 2 24 := ⟨by decide +kernel, rfl⟩
theorem D_J2_getChar_3b067_24 : Dec m_J2_getChar_3b067 24 (.invokespecial 56) 3 27 := ⟨by decide +kernel, rfl⟩
theorem D_J2_getChar_3b067_27 : Dec m_J2_getChar_3b067 27 (.athrow) 1 28 := ⟨by decide +kernel, rfl⟩
theorem D_J2_getChar_3b067_28 : Dec m_J2_getChar_3b067 28 (.iload_n 1) 1 29 := ⟨by decide +kernel, rfl⟩
theorem D_J2_getChar_3b067_29 : Dec m_J2_getChar_3b067 29 (.iconst 1) 1 30 := ⟨by decide +kernel, rfl⟩
theorem D_J2_getChar_3b067_30 : Dec m_J2_getChar_3b067 30 (.ishl) 1 31 := ⟨by decide +kernel, rfl⟩
theorem D_J2_getChar_3b067_31 : Dec m_J2_getChar_3b067 31 (.istore_n 1) 1 32 := ⟨by decide +kernel, rfl⟩
theorem D_J2_getChar_3b067_32 : Dec m_J2_getChar_3b067 32 (.aload_n 0) 1 33 := ⟨by decide +kernel, rfl⟩
theorem D_J2_getChar_3b067_33 : Dec m_J2_getChar_3b067 33 (.iload_n 1) 1 34 := ⟨by decide +kernel, rfl⟩
theorem D_J2_getChar_3b067_34 : Dec m_J2_getChar_3b067 34 (.iinc 1 1) 3 37 := ⟨by decide +kernel, rfl⟩
theorem D_J2_getChar_3b067_37 : Dec m_J2_getChar_3b067 37 (.baload) 1 38 := ⟨by decide +kernel, rfl⟩
theorem D_J2_getChar_3b067_38 : Dec m_J2_getChar_3b067 38 (.sipush 255) 3 41 := ⟨by decide +kernel, rfl⟩
theorem D_J2_getChar_3b067_41 : Dec m_J2_getChar_3b067 41 (.iand) 1 42 := ⟨by decide +kernel, rfl⟩
theorem D_J2_getChar_3b067_42 : Dec m_J2_getChar_3b067 42 (.getstatic 59) 3 45 := ⟨by decide +kernel, rfl⟩
theorem D_J2_getChar_3b067_45 : Dec m_J2_getChar_3b067 45 (.ishl) 1 46 := ⟨by decide +kernel, rfl⟩
theorem D_J2_getChar_3b067_46 : Dec m_J2_getChar_3b067 46 (.aload_n 0) 1 47 := ⟨by decide +kernel, rfl⟩
theorem D_J2_getChar_3b067_47 : Dec m_J2_getChar_3b067 47 (.iload_n 1) 1 48 := ⟨by decide +kernel, rfl⟩
theorem D_J2_getChar_3b067_48 : Dec m_J2_getChar_3b067 48 (.baload) 1 49 := ⟨by decide +kernel, rfl⟩
theorem D_J2_getChar_3b067_49 : Dec m_J2_getChar_3b067 49 (.sipush 255) 3 52 := ⟨by decide +kernel, rfl⟩
theorem D_J2_getChar_3b067_52 : Dec m_J2_getChar_3b067 52 (.iand) 1 53 := ⟨by decide +kernel, rfl⟩
theorem D_J2_getChar_3b067_53 : Dec m_J2_getChar_3b067 53 (.getstatic 63) 3 56 := ⟨by decide +kernel, rfl⟩
theorem D_J2_getChar_3b067_56 : Dec m_J2_getChar_3b067 56 (.ishl) 1 57 := ⟨by decide +kernel, rfl⟩
theorem D_J2_getChar_3b067_57 : Dec m_J2_getChar_3b067 57 (.ior) 1 58 := ⟨by decide +kernel, rfl⟩
theorem D_J2_getChar_3b067_58 : Dec m_J2_getChar_3b067 58 (.i2c) 1 59 := ⟨by decide +kernel, rfl⟩
theorem D_J2_getChar_3b067_59 : Dec m_J2_getChar_3b067 59 (.ireturn) 1 60 := ⟨by decide +kernel, rfl⟩
theorem D_J2_length_9d52b_0 : Dec m_J2_length_9d52b 0 (.aload_n 0) 1 1 := ⟨by decide +kernel, rfl⟩
theorem D_J2_length_9d52b_1 : Dec m_J2_length_9d52b 1 (.arraylength) 1 2 := ⟨by decide +kernel, rfl⟩
theorem D_J2_length_9d52b_2 : Dec m_J2_length_9d52b 2 (.iconst 1) 1 3 := ⟨by decide +kernel, rfl⟩
theorem D_J2_length_9d52b_3 : Dec m_J2_length_9d52b 3 (.ishr) 1 4 := ⟨by decide +kernel, rfl⟩
theorem D_J2_length_9d52b_4 : Dec m_J2_length_9d52b 4 (.ireturn) 1 5 := ⟨by decide +kernel, rfl⟩
theorem D_J2_charAt_3b067_0 : Dec m_J2_charAt_3b067 0 (.iload_n 1) 1 1 := ⟨by decide +kernel, rfl⟩
theorem D_J2_charAt_3b067_1 : Dec m_J2_charAt_3b067 1 (.aload_n 0) 1 2 := ⟨by decide +kernel, rfl⟩
theorem D_J2_charAt_3b067_2 : Dec m_J2_charAt_3b067 2 (.invokestatic 67) 3 5 := ⟨by decide +kernel, rfl⟩
theorem D_J2_charAt_3b067_5 : Dec m_J2_charAt_3b067 5 (.aload_n 0) 1 6 := ⟨by decide +kernel, rfl⟩
theorem D_J2_charAt_3b067_6 : Dec m_J2_charAt_3b067 6 (.iload_n 1) 1 7 := ⟨by decide +kernel, rfl⟩
theorem D_J2_charAt_3b067_7 : Dec m_J2_charAt_3b067 7 (.invokestatic 71) 3 10 := ⟨by decide +kernel, rfl⟩
theorem D_J2_charAt_3b067_10 : Dec m_J2_charAt_3b067 10 (.ireturn) 1 11 := ⟨by decide +kernel, rfl⟩
theorem D_J2_checkIndex_2214a_0 : Dec m_J2_checkIndex_2214a 0 (.iload_n 0) 1 1 := ⟨by decide +kernel, rfl⟩
theorem D_J2_checkIndex_2214a_1 : Dec m_J2_checkIndex_2214a 1 (.aload_n 1) 1 2 := ⟨by decide +kernel, rfl⟩
theorem D_J2_checkIndex_2214a_2 : Dec m_J2_checkIndex_2214a 2 (.invokestatic 48) 3 5 := ⟨by decide +kernel, rfl⟩
theorem D_J2_checkIndex_2214a_5 : Dec m_J2_checkIndex_2214a 5 (.invokestatic 414) 3 8 := ⟨by decide +kernel, rfl⟩
theorem D_J2_checkIndex_2214a_8 : Dec m_J2_checkIndex_2214a 8 (.return_) 1 9 := ⟨by decide +kernel, rfl⟩
theorem D_J3_checkIndex_8e157_0 : Dec m_J3_checkIndex_8e157 0 (.iload_n 0) 1 1 := ⟨by decide +kernel, rfl⟩
theorem D_J3_checkIndex_8e157_1 : DecJ m_J3_checkIndex_8e157 1 (.ifCond .lt) 4 9 := ⟨8, by decide +kernel, rfl, rfl⟩
theorem D_J3_checkIndex_8e157_4 : Dec m_J3_checkIndex_8e157 4 (.iload_n 0) 1 5 := ⟨by decide +kernel, rfl⟩
theorem D_J3_checkIndex_8e157_5 : Dec m_J3_checkIndex_8e157 5 (.iload_n 1) 1 6 := ⟨by decide +kernel, rfl⟩
theorem D_J3_checkIndex_8e157_6 : DecJ m_J3_checkIndex_8e157 6 (.if_icmp .lt) 9 16 := ⟨10, by decide +kernel, rfl, rfl⟩
theorem D_J3_checkIndex_8e157_9 : Dec m_J3_checkIndex_8e157 9 (.aload_n 2) 1 10 := ⟨by decide +kernel, rfl⟩
theorem D_J3_checkIndex_8e157_10 : Dec m_J3_checkIndex_8e157 10 (.iload_n 0) 1 11 := ⟨by decide +kernel, rfl⟩
theorem D_J3_checkIndex_8e157_11 : Dec m_J3_checkIndex_8e157 11 (.iload_n 1) 1 12 := ⟨by decide +kernel, rfl⟩
theorem D_J3_checkIndex_8e157_12 : Dec m_J3_checkIndex_8e157 12 (.invokestatic 95) 3 15 := ⟨by decide +kernel, rfl⟩
theorem D_J3_checkIndex_8e157_15 : Dec m_J3_checkIndex_8e157 15 (.athrow) 1 16 := ⟨by decide +kernel, rfl⟩
theorem D_J3_checkIndex_8e157_16 : Dec m_J3_checkIndex_8e157 16 (.iload_n 0) 1 17 := ⟨by decide +kernel, rfl⟩
theorem D_J3_checkIndex_8e157_17 : Dec m_J3_checkIndex_8e157 17 (.ireturn) 1 18 := ⟨by decide +kernel, rfl⟩
theorem D_J6_bitCount_0f7a4_0 : Dec m_J6_bitCount_0f7a4 0 (.iload_n 0) 1 1 := ⟨by decide +kernel, rfl⟩
theorem D_J6_bitCount_0f7a4_1 : Dec m_J6_bitCount_0f7a4 1 (.iload_n 0) 1 2 := ⟨by decide +kernel, rfl⟩
theorem D_J6_bitCount_0f7a4_2 : Dec m_J6_bitCount_0f7a4 2 (.iconst 1) 1 3 := ⟨by decide +kernel, rfl⟩
theorem D_J6_bitCount_0f7a4_3 : Dec m_J6_bitCount_0f7a4 3 (.iushr) 1 4 := ⟨by decide +kernel, rfl⟩
theorem D_J6_bitCount_0f7a4_4 : Dec m_J6_bitCount_0f7a4 4 (.ldc_w 265) 3 7 := ⟨by decide +kernel, rfl⟩
theorem D_J6_bitCount_0f7a4_7 : Dec m_J6_bitCount_0f7a4 7 (.iand) 1 8 := ⟨by decide +kernel, rfl⟩
theorem D_J6_bitCount_0f7a4_8 : Dec m_J6_bitCount_0f7a4 8 (.isub) 1 9 := ⟨by decide +kernel, rfl⟩
theorem D_J6_bitCount_0f7a4_9 : Dec m_J6_bitCount_0f7a4 9 (.istore_n 0) 1 10 := ⟨by decide +kernel, rfl⟩
theorem D_J6_bitCount_0f7a4_10 : Dec m_J6_bitCount_0f7a4 10 (.iload_n 0) 1 11 := ⟨by decide +kernel, rfl⟩
theorem D_J6_bitCount_0f7a4_11 : Dec m_J6_bitCount_0f7a4 11 (.ldc_w 266) 3 14 := ⟨by decide +kernel, rfl⟩
theorem D_J6_bitCount_0f7a4_14 : Dec m_J6_bitCount_0f7a4 14 (.iand) 1 15 := ⟨by decide +kernel, rfl⟩
theorem D_J6_bitCount_0f7a4_15 : Dec m_J6_bitCount_0f7a4 15 (.iload_n 0) 1 16 := ⟨by decide +kernel, rfl⟩
theorem D_J6_bitCount_0f7a4_16 : Dec m_J6_bitCount_0f7a4 16 (.iconst 2) 1 17 := ⟨by decide +kernel, rfl⟩
theorem D_J6_bitCount_0f7a4_17 : Dec m_J6_bitCount_0f7a4 17 (.iushr) 1 18 := ⟨by decide +kernel, rfl⟩
theorem D_J6_bitCount_0f7a4_18 : Dec m_J6_bitCount_0f7a4 18 (.ldc_w 266) 3 21 := ⟨by decide +kernel, rfl⟩
theorem D_J6_bitCount_0f7a4_21 : Dec m_J6_bitCount_0f7a4 21 (.iand) 1 22 := ⟨by decide +kernel, rfl⟩
theorem D_J6_bitCount_0f7a4_22 : Dec m_J6_bitCount_0f7a4 22 (.iadd) 1 23 := ⟨by decide +kernel, rfl⟩
theorem D_J6_bitCount_0f7a4_23 : Dec m_J6_bitCount_0f7a4 23 (.istore_n 0) 1 24 := ⟨by decide +kernel, rfl⟩
theorem D_J6_bitCount_0f7a4_24 : Dec m_J6_bitCount_0f7a4 24 (.iload_n 0) 1 25 := ⟨by decide +kernel, rfl⟩
theorem D_J6_bitCount_0f7a4_25 : Dec m_J6_bitCount_0f7a4 25 (.iload_n 0) 1 26 := ⟨by decide +kernel, rfl⟩
theorem D_J6_bitCount_0f7a4_26 : Dec m_J6_bitCount_0f7a4 26 (.iconst 4) 1 27 := ⟨by decide +kernel, rfl⟩
theorem D_J6_bitCount_0f7a4_27 : Dec m_J6_bitCount_0f7a4 27 (.iushr) 1 28 := ⟨by decide +kernel, rfl⟩
theorem D_J6_bitCount_0f7a4_28 : Dec m_J6_bitCount_0f7a4 28 (.iadd) 1 29 := ⟨by decide +kernel, rfl⟩
theorem D_J6_bitCount_0f7a4_29 : Dec m_J6_bitCount_0f7a4 29 (.ldc_w 267) 3 32 := ⟨by decide +kernel, rfl⟩
theorem D_J6_bitCount_0f7a4_32 : Dec m_J6_bitCount_0f7a4 32 (.iand) 1 33 := ⟨by decide +kernel, rfl⟩
theorem D_J6_bitCount_0f7a4_33 : Dec m_J6_bitCount_0f7a4 33 (.istore_n 0) 1 34 := ⟨by decide +kernel, rfl⟩
theorem D_J6_bitCount_0f7a4_34 : Dec m_J6_bitCount_0f7a4 34 (.iload_n 0) 1 35 := ⟨by decide +kernel, rfl⟩
theorem D_J6_bitCount_0f7a4_35 : Dec m_J6_bitCount_0f7a4 35 (.iload_n 0) 1 36 := ⟨by decide +kernel, rfl⟩
theorem D_J6_bitCount_0f7a4_36 : Dec m_J6_bitCount_0f7a4 36 (.bipush 8) 2 38 := ⟨by decide +kernel, rfl⟩
theorem D_J6_bitCount_0f7a4_38 : Dec m_J6_bitCount_0f7a4 38 (.iushr) 1 39 := ⟨by decide +kernel, rfl⟩
theorem D_J6_bitCount_0f7a4_39 : Dec m_J6_bitCount_0f7a4 39 (.iadd) 1 40 := ⟨by decide +kernel, rfl⟩
theorem D_J6_bitCount_0f7a4_40 : Dec m_J6_bitCount_0f7a4 40 (.istore_n 0) 1 41 := ⟨by decide +kernel, rfl⟩
theorem D_J6_bitCount_0f7a4_41 : Dec m_J6_bitCount_0f7a4 41 (.iload_n 0) 1 42 := ⟨by decide +kernel, rfl⟩
theorem D_J6_bitCount_0f7a4_42 : Dec m_J6_bitCount_0f7a4 42 (.iload_n 0) 1 43 := ⟨by decide +kernel, rfl⟩
theorem D_J6_bitCount_0f7a4_43 : Dec m_J6_bitCount_0f7a4 43 (.bipush 16) 2 45 := ⟨by decide +kernel, rfl⟩
theorem D_J6_bitCount_0f7a4_45 : Dec m_J6_bitCount_0f7a4 45 (.iushr) 1 46 := ⟨by decide +kernel, rfl⟩
theorem D_J6_bitCount_0f7a4_46 : Dec m_J6_bitCount_0f7a4 46 (.iadd) 1 47 := ⟨by decide +kernel, rfl⟩
theorem D_J6_bitCount_0f7a4_47 : Dec m_J6_bitCount_0f7a4 47 (.istore_n 0) 1 48 := ⟨by decide +kernel, rfl⟩
theorem D_J6_bitCount_0f7a4_48 : Dec m_J6_bitCount_0f7a4 48 (.iload_n 0) 1 49 := ⟨by decide +kernel, rfl⟩
theorem D_J6_bitCount_0f7a4_49 : Dec m_J6_bitCount_0f7a4 49 (.bipush 63) 2 51 := ⟨by decide +kernel, rfl⟩
theorem D_J6_bitCount_0f7a4_51 : Dec m_J6_bitCount_0f7a4 51 (.iand) 1 52 := ⟨by decide +kernel, rfl⟩
theorem D_J6_bitCount_0f7a4_52 : Dec m_J6_bitCount_0f7a4 52 (.ireturn) 1 53 := ⟨by decide +kernel, rfl⟩
theorem D_J9_max_7cf53_0 : Dec m_J9_max_7cf53 0 (.iload_n 0) 1 1 := ⟨by decide +kernel, rfl⟩
theorem D_J9_max_7cf53_1 : Dec m_J9_max_7cf53 1 (.iload_n 1) 1 2 := ⟨by decide +kernel, rfl⟩
theorem D_J9_max_7cf53_2 : DecJ m_J9_max_7cf53 2 (.if_icmp .lt) 5 9 := ⟨7, by decide +kernel, rfl, rfl⟩
theorem D_J9_max_7cf53_5 : Dec m_J9_max_7cf53 5 (.iload_n 0) 1 6 := ⟨by decide +kernel, rfl⟩
theorem D_J9_max_7cf53_6 : DecJ m_J9_max_7cf53 6 (.goto) 9 10 := ⟨4, by decide +kernel, rfl, rfl⟩
theorem D_J9_max_7cf53_9 : Dec m_J9_max_7cf53 9 (.iload_n 1) 1 10 := ⟨by decide +kernel, rfl⟩
theorem D_J9_max_7cf53_10 : Dec m_J9_max_7cf53 10 (.ireturn) 1 11 := ⟨by decide +kernel, rfl⟩
theorem D_J9_min_7cf53_0 : Dec m_J9_min_7cf53 0 (.iload_n 0) 1 1 := ⟨by decide +kernel, rfl⟩
theorem D_J9_min_7cf53_1 : Dec m_J9_min_7cf53 1 (.iload_n 1) 1 2 := ⟨by decide +kernel, rfl⟩
theorem D_J9_min_7cf53_2 : DecJ m_J9_min_7cf53 2 (.if_icmp .gt) 5 9 := ⟨7, by decide +kernel, rfl, rfl⟩
theorem D_J9_min_7cf53_5 : Dec m_J9_min_7cf53 5 (.iload_n 0) 1 6 := ⟨by decide +kernel, rfl⟩
theorem D_J9_min_7cf53_6 : DecJ m_J9_min_7cf53 6 (.goto) 9 10 := ⟨4, by decide +kernel, rfl, rfl⟩
theorem D_J9_min_7cf53_9 : Dec m_J9_min_7cf53 9 (.iload_n 1) 1 10 := ⟨by decide +kernel, rfl⟩
theorem D_J9_min_7cf53_10 : Dec m_J9_min_7cf53 10 (.ireturn) 1 11 := ⟨by decide +kernel, rfl⟩
end
section
theorem D_L_law_0 : Dec m_L_law 0 (.new 7) 3 3 := ⟨by decide +kernel, rfl⟩
theorem D_L_law_3 : Dec m_L_law 3 (.dup) 1 4 := ⟨by decide +kernel, rfl⟩
theorem D_L_law_4 : Dec m_L_law 4 (.invokespecial 9) 3 7 := ⟨by decide +kernel, rfl⟩
theorem D_L_law_7 : Dec m_L_law 7 (.astore_n 1) 1 8 := ⟨by decide +kernel, rfl⟩
theorem D_L_law_8 : Dec m_L_law 8 (.new 10) 3 11 := ⟨by decide +kernel, rfl⟩
theorem D_L_law_11 : Dec m_L_law 11 (.dup) 1 12 := ⟨by decide +kernel, rfl⟩
theorem D_L_law_12 : Dec m_L_law 12 (.invokespecial 12) 3 15 := ⟨by decide +kernel, rfl⟩
theorem D_L_law_15 : Dec m_L_law 15 (.astore_n 2) 1 16 := ⟨by decide +kernel, rfl⟩
theorem D_L_law_16 : Dec m_L_law 16 (.iconst 0) 1 17 := ⟨by decide +kernel, rfl⟩
theorem D_L_law_17 : Dec m_L_law 17 (.istore_n 3) 1 18 := ⟨by decide +kernel, rfl⟩
theorem D_L_law_18 : Dec m_L_law 18 (.iload_n 3) 1 19 := ⟨by decide +kernel, rfl⟩
theorem D_L_law_19 : Dec m_L_law 19 (.aload_n 0) 1 20 := ⟨by decide +kernel, rfl⟩
theorem D_L_law_20 : Dec m_L_law 20 (.arraylength) 1 21 := ⟨by decide +kernel, rfl⟩
theorem D_L_law_21 : Dec m_L_law 21 (.iconst 4) 1 22 := ⟨by decide +kernel, rfl⟩
theorem D_L_law_22 : Dec m_L_law 22 (.isub) 1 23 := ⟨by decide +kernel, rfl⟩
theorem D_L_law_23 : DecJ m_L_law 23 (.if_icmp .gt) 26 728 := ⟨705, by decide +kernel, rfl, rfl⟩
theorem D_L_law_26 : Dec m_L_law 26 (.aload_n 0) 1 27 := ⟨by decide +kernel, rfl⟩
theorem D_L_law_27 : Dec m_L_law 27 (.iload_n 3) 1 28 := ⟨by decide +kernel, rfl⟩
theorem D_L_law_28 : Dec m_L_law 28 (.iaload) 1 29 := ⟨by decide +kernel, rfl⟩
theorem D_L_law_29 : Dec m_L_law 29 (.bipush 31) 2 31 := ⟨by decide +kernel, rfl⟩
theorem D_L_law_31 : Dec m_L_law 31 (.iand) 1 32 := ⟨by decide +kernel, rfl⟩
theorem D_L_law_32 : Dec m_L_law 32 (.tableswitch 690 0 21 #[104, 167, 180, 193, 206, 239, 272, 305, 338, 361, 384, 407, 420, 463, 486, 509, 522, 555, 598, 641, 654, 667]) 104 136 := ⟨by decide +kernel, rfl⟩
theorem D_L_law_136 : Dec m_L_law 136 (.aload_n 1) 1 137 := ⟨by decide +kernel, rfl⟩
theorem D_L_law_137 : Dec m_L_law 137 (.aload_n 0) 1 138 := ⟨by decide +kernel, rfl⟩
theorem D_L_law_138 : Dec m_L_law 138 (.iload_n 3) 1 139 := ⟨by decide +kernel, rfl⟩
theorem D_L_law_139 : Dec m_L_law 139 (.iconst 1) 1 140 := ⟨by decide +kernel, rfl⟩
theorem D_L_law_140 : Dec m_L_law 140 (.iadd) 1 141 := ⟨by decide +kernel, rfl⟩
theorem D_L_law_141 : Dec m_L_law 141 (.iaload) 1 142 := ⟨by decide +kernel, rfl⟩
theorem D_L_law_142 : Dec m_L_law 142 (.aload_n 0) 1 143 := ⟨by decide +kernel, rfl⟩
theorem D_L_law_143 : Dec m_L_law 143 (.iload_n 3) 1 144 := ⟨by decide +kernel, rfl⟩
theorem D_L_law_144 : Dec m_L_law 144 (.iconst 2) 1 145 := ⟨by decide +kernel, rfl⟩
theorem D_L_law_145 : Dec m_L_law 145 (.iadd) 1 146 := ⟨by decide +kernel, rfl⟩
theorem D_L_law_146 : Dec m_L_law 146 (.iaload) 1 147 := ⟨by decide +kernel, rfl⟩
theorem D_L_law_147 : Dec m_L_law 147 (.i2l) 1 148 := ⟨by decide +kernel, rfl⟩
theorem D_L_law_148 : Dec m_L_law 148 (.bipush 32) 2 150 := ⟨by decide +kernel, rfl⟩
theorem D_L_law_150 : Dec m_L_law 150 (.lshl) 1 151 := ⟨by decide +kernel, rfl⟩
theorem D_L_law_151 : Dec m_L_law 151 (.aload_n 0) 1 152 := ⟨by decide +kernel, rfl⟩
theorem D_L_law_152 : Dec m_L_law 152 (.iload_n 3) 1 153 := ⟨by decide +kernel, rfl⟩
theorem D_L_law_153 : Dec m_L_law 153 (.iconst 3) 1 154 := ⟨by decide +kernel, rfl⟩
theorem D_L_law_154 : Dec m_L_law 154 (.iadd) 1 155 := ⟨by decide +kernel, rfl⟩
theorem D_L_law_155 : Dec m_L_law 155 (.iaload) 1 156 := ⟨by decide +kernel, rfl⟩
theorem D_L_law_156 : Dec m_L_law 156 (.i2l) 1 157 := ⟨by decide +kernel, rfl⟩
theorem D_L_law_157 : Dec m_L_law 157 (.ldc2_w 13) 3 160 := ⟨by decide +kernel, rfl⟩
theorem D_L_law_160 : Dec m_L_law 160 (.land) 1 161 := ⟨by decide +kernel, rfl⟩
theorem D_L_law_161 : Dec m_L_law 161 (.lor) 1 162 := ⟨by decide +kernel, rfl⟩
theorem D_L_law_162 : Dec m_L_law 162 (.invokevirtual 15) 3 165 := ⟨by decide +kernel, rfl⟩
theorem D_L_law_165 : Dec m_L_law 165 (.aload_n 2) 1 166 := ⟨by decide +kernel, rfl⟩
theorem D_L_law_166 : Dec m_L_law 166 (.aload_n 0) 1 167 := ⟨by decide +kernel, rfl⟩
theorem D_L_law_167 : Dec m_L_law 167 (.iload_n 3) 1 168 := ⟨by decide +kernel, rfl⟩
theorem D_L_law_168 : Dec m_L_law 168 (.iconst 1) 1 169 := ⟨by decide +kernel, rfl⟩
theorem D_L_law_169 : Dec m_L_law 169 (.iadd) 1 170 := ⟨by decide +kernel, rfl⟩
theorem D_L_law_170 : Dec m_L_law 170 (.iaload) 1 171 := ⟨by decide +kernel, rfl⟩
theorem D_L_law_171 : Dec m_L_law 171 (.aload_n 0) 1 172 := ⟨by decide +kernel, rfl⟩
theorem D_L_law_172 : Dec m_L_law 172 (.iload_n 3) 1 173 := ⟨by decide +kernel, rfl⟩
theorem D_L_law_173 : Dec m_L_law 173 (.iconst 2) 1 174 := ⟨by decide +kernel, rfl⟩
theorem D_L_law_174 : Dec m_L_law 174 (.iadd) 1 175 := ⟨by decide +kernel, rfl⟩
theorem D_L_law_175 : Dec m_L_law 175 (.iaload) 1 176 := ⟨by decide +kernel, rfl⟩
theorem D_L_law_176 : Dec m_L_law 176 (.i2l) 1 177 := ⟨by decide +kernel, rfl⟩
theorem D_L_law_177 : Dec m_L_law 177 (.bipush 32) 2 179 := ⟨by decide +kernel, rfl⟩
theorem D_L_law_179 : Dec m_L_law 179 (.lshl) 1 180 := ⟨by decide +kernel, rfl⟩
theorem D_L_law_180 : Dec m_L_law 180 (.aload_n 0) 1 181 := ⟨by decide +kernel, rfl⟩
theorem D_L_law_181 : Dec m_L_law 181 (.iload_n 3) 1 182 := ⟨by decide +kernel, rfl⟩
theorem D_L_law_182 : Dec m_L_law 182 (.iconst 3) 1 183 := ⟨by decide +kernel, rfl⟩
theorem D_L_law_183 : Dec m_L_law 183 (.iadd) 1 184 := ⟨by decide +kernel, rfl⟩
theorem D_L_law_184 : Dec m_L_law 184 (.iaload) 1 185 := ⟨by decide +kernel, rfl⟩
theorem D_L_law_185 : Dec m_L_law 185 (.i2l) 1 186 := ⟨by decide +kernel, rfl⟩
theorem D_L_law_186 : Dec m_L_law 186 (.ldc2_w 13) 3 189 := ⟨by decide +kernel, rfl⟩
theorem D_L_law_189 : Dec m_L_law 189 (.land) 1 190 := ⟨by decide +kernel, rfl⟩
theorem D_L_law_190 : Dec m_L_law 190 (.lor) 1 191 := ⟨by decide +kernel, rfl⟩
theorem D_L_law_191 : Dec m_L_law 191 (.invokevirtual 19) 3 194 := ⟨by decide +kernel, rfl⟩
theorem D_L_law_194 : DecJ m_L_law 194 (.if_icmp .eq) 197 722 := ⟨528, by decide +kernel, rfl, rfl⟩
theorem D_L_law_197 : Dec m_L_law 197 (.iconst 0) 1 198 := ⟨by decide +kernel, rfl⟩
theorem D_L_law_198 : Dec m_L_law 198 (.ireturn) 1 199 := ⟨by decide +kernel, rfl⟩
theorem D_L_law_199 : Dec m_L_law 199 (.aload_n 1) 1 200 := ⟨by decide +kernel, rfl⟩
theorem D_L_law_200 : Dec m_L_law 200 (.invokevirtual 20) 3 203 := ⟨by decide +kernel, rfl⟩
theorem D_L_law_203 : Dec m_L_law 203 (.aload_n 2) 1 204 := ⟨by decide +kernel, rfl⟩
theorem D_L_law_204 : Dec m_L_law 204 (.invokevirtual 24) 3 207 := ⟨by decide +kernel, rfl⟩
theorem D_L_law_207 : DecJ m_L_law 207 (.if_icmp .eq) 210 722 := ⟨515, by decide +kernel, rfl, rfl⟩
theorem D_L_law_210 : Dec m_L_law 210 (.iconst 0) 1 211 := ⟨by decide +kernel, rfl⟩
theorem D_L_law_211 : Dec m_L_law 211 (.ireturn) 1 212 := ⟨by decide +kernel, rfl⟩
theorem D_L_law_212 : Dec m_L_law 212 (.aload_n 1) 1 213 := ⟨by decide +kernel, rfl⟩
theorem D_L_law_213 : Dec m_L_law 213 (.invokevirtual 25) 3 216 := ⟨by decide +kernel, rfl⟩
theorem D_L_law_216 : Dec m_L_law 216 (.aload_n 2) 1 217 := ⟨by decide +kernel, rfl⟩
theorem D_L_law_217 : Dec m_L_law 217 (.invokevirtual 28) 3 220 := ⟨by decide +kernel, rfl⟩
theorem D_L_law_220 : DecJ m_L_law 220 (.if_icmp .eq) 223 722 := ⟨502, by decide +kernel, rfl, rfl⟩
theorem D_L_law_223 : Dec m_L_law 223 (.iconst 0) 1 224 := ⟨by decide +kernel, rfl⟩
theorem D_L_law_224 : Dec m_L_law 224 (.ireturn) 1 225 := ⟨by decide +kernel, rfl⟩
theorem D_L_law_225 : Dec m_L_law 225 (.aload_n 1) 1 226 := ⟨by decide +kernel, rfl⟩
theorem D_L_law_226 : Dec m_L_law 226 (.invokevirtual 29) 3 229 := ⟨by decide +kernel, rfl⟩
theorem D_L_law_229 : Dec m_L_law 229 (.aload_n 2) 1 230 := ⟨by decide +kernel, rfl⟩
theorem D_L_law_230 : Dec m_L_law 230 (.invokevirtual 32) 3 233 := ⟨by decide +kernel, rfl⟩
theorem D_L_law_233 : DecJ m_L_law 233 (.if_icmp .eq) 236 722 := ⟨489, by decide +kernel, rfl, rfl⟩
theorem D_L_law_236 : Dec m_L_law 236 (.iconst 0) 1 237 := ⟨by decide +kernel, rfl⟩
theorem D_L_law_237 : Dec m_L_law 237 (.ireturn) 1 238 := ⟨by decide +kernel, rfl⟩
theorem D_L_law_238 : Dec m_L_law 238 (.aload_n 1) 1 239 := ⟨by decide +kernel, rfl⟩
theorem D_L_law_239 : Dec m_L_law 239 (.aload_n 0) 1 240 := ⟨by decide +kernel, rfl⟩
theorem D_L_law_240 : Dec m_L_law 240 (.iload_n 3) 1 241 := ⟨by decide +kernel, rfl⟩
theorem D_L_law_241 : Dec m_L_law 241 (.iconst 1) 1 242 := ⟨by decide +kernel, rfl⟩
theorem D_L_law_242 : Dec m_L_law 242 (.iadd) 1 243 := ⟨by decide +kernel, rfl⟩
theorem D_L_law_243 : Dec m_L_law 243 (.iaload) 1 244 := ⟨by decide +kernel, rfl⟩
theorem D_L_law_244 : Dec m_L_law 244 (.aload_n 0) 1 245 := ⟨by decide +kernel, rfl⟩
theorem D_L_law_245 : Dec m_L_law 245 (.iload_n 3) 1 246 := ⟨by decide +kernel, rfl⟩
theorem D_L_law_246 : Dec m_L_law 246 (.iconst 2) 1 247 := ⟨by decide +kernel, rfl⟩
theorem D_L_law_247 : Dec m_L_law 247 (.iadd) 1 248 := ⟨by decide +kernel, rfl⟩
theorem D_L_law_248 : Dec m_L_law 248 (.iaload) 1 249 := ⟨by decide +kernel, rfl⟩
theorem D_L_law_249 : Dec m_L_law 249 (.invokevirtual 33) 3 252 := ⟨by decide +kernel, rfl⟩
theorem D_L_law_252 : Dec m_L_law 252 (.aload_n 2) 1 253 := ⟨by decide +kernel, rfl⟩
theorem D_L_law_253 : Dec m_L_law 253 (.aload_n 0) 1 254 := ⟨by decide +kernel, rfl⟩
theorem D_L_law_254 : Dec m_L_law 254 (.iload_n 3) 1 255 := ⟨by decide +kernel, rfl⟩
theorem D_L_law_255 : Dec m_L_law 255 (.iconst 1) 1 256 := ⟨by decide +kernel, rfl⟩
theorem D_L_law_256 : Dec m_L_law 256 (.iadd) 1 257 := ⟨by decide +kernel, rfl⟩
theorem D_L_law_257 : Dec m_L_law 257 (.iaload) 1 258 := ⟨by decide +kernel, rfl⟩
theorem D_L_law_258 : Dec m_L_law 258 (.aload_n 0) 1 259 := ⟨by decide +kernel, rfl⟩
theorem D_L_law_259 : Dec m_L_law 259 (.iload_n 3) 1 260 := ⟨by decide +kernel, rfl⟩
theorem D_L_law_260 : Dec m_L_law 260 (.iconst 2) 1 261 := ⟨by decide +kernel, rfl⟩
theorem D_L_law_261 : Dec m_L_law 261 (.iadd) 1 262 := ⟨by decide +kernel, rfl⟩
theorem D_L_law_262 : Dec m_L_law 262 (.iaload) 1 263 := ⟨by decide +kernel, rfl⟩
theorem D_L_law_263 : Dec m_L_law 263 (.invokevirtual 37) 3 266 := ⟨by decide +kernel, rfl⟩
theorem D_L_law_266 : DecJ m_L_law 266 (.if_icmp .eq) 269 722 := ⟨456, by decide +kernel, rfl, rfl⟩
theorem D_L_law_269 : Dec m_L_law 269 (.iconst 0) 1 270 := ⟨by decide +kernel, rfl⟩
theorem D_L_law_270 : Dec m_L_law 270 (.ireturn) 1 271 := ⟨by decide +kernel, rfl⟩
theorem D_L_law_271 : Dec m_L_law 271 (.aload_n 1) 1 272 := ⟨by decide +kernel, rfl⟩
theorem D_L_law_272 : Dec m_L_law 272 (.aload_n 0) 1 273 := ⟨by decide +kernel, rfl⟩
theorem D_L_law_273 : Dec m_L_law 273 (.iload_n 3) 1 274 := ⟨by decide +kernel, rfl⟩
theorem D_L_law_274 : Dec m_L_law 274 (.iconst 1) 1 275 := ⟨by decide +kernel, rfl⟩
theorem D_L_law_275 : Dec m_L_law 275 (.iadd) 1 276 := ⟨by decide +kernel, rfl⟩
theorem D_L_law_276 : Dec m_L_law 276 (.iaload) 1 277 := ⟨by decide +kernel, rfl⟩
theorem D_L_law_277 : Dec m_L_law 277 (.aload_n 0) 1 278 := ⟨by decide +kernel, rfl⟩
theorem D_L_law_278 : Dec m_L_law 278 (.iload_n 3) 1 279 := ⟨by decide +kernel, rfl⟩
theorem D_L_law_279 : Dec m_L_law 279 (.iconst 2) 1 280 := ⟨by decide +kernel, rfl⟩
theorem D_L_law_280 : Dec m_L_law 280 (.iadd) 1 281 := ⟨by decide +kernel, rfl⟩
theorem D_L_law_281 : Dec m_L_law 281 (.iaload) 1 282 := ⟨by decide +kernel, rfl⟩
theorem D_L_law_282 : Dec m_L_law 282 (.invokevirtual 38) 3 285 := ⟨by decide +kernel, rfl⟩
theorem D_L_law_285 : Dec m_L_law 285 (.aload_n 2) 1 286 := ⟨by decide +kernel, rfl⟩
theorem D_L_law_286 : Dec m_L_law 286 (.aload_n 0) 1 287 := ⟨by decide +kernel, rfl⟩
theorem D_L_law_287 : Dec m_L_law 287 (.iload_n 3) 1 288 := ⟨by decide +kernel, rfl⟩
theorem D_L_law_288 : Dec m_L_law 288 (.iconst 1) 1 289 := ⟨by decide +kernel, rfl⟩
theorem D_L_law_289 : Dec m_L_law 289 (.iadd) 1 290 := ⟨by decide +kernel, rfl⟩
theorem D_L_law_290 : Dec m_L_law 290 (.iaload) 1 291 := ⟨by decide +kernel, rfl⟩
theorem D_L_law_291 : Dec m_L_law 291 (.aload_n 0) 1 292 := ⟨by decide +kernel, rfl⟩
theorem D_L_law_292 : Dec m_L_law 292 (.iload_n 3) 1 293 := ⟨by decide +kernel, rfl⟩
theorem D_L_law_293 : Dec m_L_law 293 (.iconst 2) 1 294 := ⟨by decide +kernel, rfl⟩
theorem D_L_law_294 : Dec m_L_law 294 (.iadd) 1 295 := ⟨by decide +kernel, rfl⟩
theorem D_L_law_295 : Dec m_L_law 295 (.iaload) 1 296 := ⟨by decide +kernel, rfl⟩
theorem D_L_law_296 : Dec m_L_law 296 (.invokevirtual 41) 3 299 := ⟨by decide +kernel, rfl⟩
theorem D_L_law_299 : DecJ m_L_law 299 (.if_icmp .eq) 302 722 := ⟨423, by decide +kernel, rfl, rfl⟩
theorem D_L_law_302 : Dec m_L_law 302 (.iconst 0) 1 303 := ⟨by decide +kernel, rfl⟩
theorem D_L_law_303 : Dec m_L_law 303 (.ireturn) 1 304 := ⟨by decide +kernel, rfl⟩
theorem D_L_law_304 : Dec m_L_law 304 (.aload_n 1) 1 305 := ⟨by decide +kernel, rfl⟩
theorem D_L_law_305 : Dec m_L_law 305 (.aload_n 0) 1 306 := ⟨by decide +kernel, rfl⟩
theorem D_L_law_306 : Dec m_L_law 306 (.iload_n 3) 1 307 := ⟨by decide +kernel, rfl⟩
theorem D_L_law_307 : Dec m_L_law 307 (.iconst 1) 1 308 := ⟨by decide +kernel, rfl⟩
theorem D_L_law_308 : Dec m_L_law 308 (.iadd) 1 309 := ⟨by decide +kernel, rfl⟩
theorem D_L_law_309 : Dec m_L_law 309 (.iaload) 1 310 := ⟨by decide +kernel, rfl⟩
theorem D_L_law_310 : Dec m_L_law 310 (.aload_n 0) 1 311 := ⟨by decide +kernel, rfl⟩
theorem D_L_law_311 : Dec m_L_law 311 (.iload_n 3) 1 312 := ⟨by decide +kernel, rfl⟩
theorem D_L_law_312 : Dec m_L_law 312 (.iconst 2) 1 313 := ⟨by decide +kernel, rfl⟩
theorem D_L_law_313 : Dec m_L_law 313 (.iadd) 1 314 := ⟨by decide +kernel, rfl⟩
theorem D_L_law_314 : Dec m_L_law 314 (.iaload) 1 315 := ⟨by decide +kernel, rfl⟩
theorem D_L_law_315 : Dec m_L_law 315 (.invokevirtual 42) 3 318 := ⟨by decide +kernel, rfl⟩
theorem D_L_law_318 : Dec m_L_law 318 (.aload_n 2) 1 319 := ⟨by decide +kernel, rfl⟩
theorem D_L_law_319 : Dec m_L_law 319 (.aload_n 0) 1 320 := ⟨by decide +kernel, rfl⟩
theorem D_L_law_320 : Dec m_L_law 320 (.iload_n 3) 1 321 := ⟨by decide +kernel, rfl⟩
theorem D_L_law_321 : Dec m_L_law 321 (.iconst 1) 1 322 := ⟨by decide +kernel, rfl⟩
theorem D_L_law_322 : Dec m_L_law 322 (.iadd) 1 323 := ⟨by decide +kernel, rfl⟩
theorem D_L_law_323 : Dec m_L_law 323 (.iaload) 1 324 := ⟨by decide +kernel, rfl⟩
theorem D_L_law_324 : Dec m_L_law 324 (.aload_n 0) 1 325 := ⟨by decide +kernel, rfl⟩
theorem D_L_law_325 : Dec m_L_law 325 (.iload_n 3) 1 326 := ⟨by decide +kernel, rfl⟩
theorem D_L_law_326 : Dec m_L_law 326 (.iconst 2) 1 327 := ⟨by decide +kernel, rfl⟩
theorem D_L_law_327 : Dec m_L_law 327 (.iadd) 1 328 := ⟨by decide +kernel, rfl⟩
theorem D_L_law_328 : Dec m_L_law 328 (.iaload) 1 329 := ⟨by decide +kernel, rfl⟩
theorem D_L_law_329 : Dec m_L_law 329 (.invokevirtual 45) 3 332 := ⟨by decide +kernel, rfl⟩
theorem D_L_law_332 : DecJ m_L_law 332 (.if_icmp .eq) 335 722 := ⟨390, by decide +kernel, rfl, rfl⟩
theorem D_L_law_335 : Dec m_L_law 335 (.iconst 0) 1 336 := ⟨by decide +kernel, rfl⟩
theorem D_L_law_336 : Dec m_L_law 336 (.ireturn) 1 337 := ⟨by decide +kernel, rfl⟩
theorem D_L_law_337 : Dec m_L_law 337 (.aload_n 1) 1 338 := ⟨by decide +kernel, rfl⟩
theorem D_L_law_338 : Dec m_L_law 338 (.aload_n 0) 1 339 := ⟨by decide +kernel, rfl⟩
theorem D_L_law_339 : Dec m_L_law 339 (.iload_n 3) 1 340 := ⟨by decide +kernel, rfl⟩
theorem D_L_law_340 : Dec m_L_law 340 (.iconst 1) 1 341 := ⟨by decide +kernel, rfl⟩
theorem D_L_law_341 : Dec m_L_law 341 (.iadd) 1 342 := ⟨by decide +kernel, rfl⟩
theorem D_L_law_342 : Dec m_L_law 342 (.iaload) 1 343 := ⟨by decide +kernel, rfl⟩
theorem D_L_law_343 : Dec m_L_law 343 (.aload_n 0) 1 344 := ⟨by decide +kernel, rfl⟩
theorem D_L_law_344 : Dec m_L_law 344 (.iload_n 3) 1 345 := ⟨by decide +kernel, rfl⟩
theorem D_L_law_345 : Dec m_L_law 345 (.iconst 2) 1 346 := ⟨by decide +kernel, rfl⟩
theorem D_L_law_346 : Dec m_L_law 346 (.iadd) 1 347 := ⟨by decide +kernel, rfl⟩
theorem D_L_law_347 : Dec m_L_law 347 (.iaload) 1 348 := ⟨by decide +kernel, rfl⟩
theorem D_L_law_348 : Dec m_L_law 348 (.invokevirtual 46) 3 351 := ⟨by decide +kernel, rfl⟩
theorem D_L_law_351 : Dec m_L_law 351 (.aload_n 2) 1 352 := ⟨by decide +kernel, rfl⟩
theorem D_L_law_352 : Dec m_L_law 352 (.aload_n 0) 1 353 := ⟨by decide +kernel, rfl⟩
theorem D_L_law_353 : Dec m_L_law 353 (.iload_n 3) 1 354 := ⟨by decide +kernel, rfl⟩
theorem D_L_law_354 : Dec m_L_law 354 (.iconst 1) 1 355 := ⟨by decide +kernel, rfl⟩
theorem D_L_law_355 : Dec m_L_law 355 (.iadd) 1 356 := ⟨by decide +kernel, rfl⟩
theorem D_L_law_356 : Dec m_L_law 356 (.iaload) 1 357 := ⟨by decide +kernel, rfl⟩
theorem D_L_law_357 : Dec m_L_law 357 (.aload_n 0) 1 358 := ⟨by decide +kernel, rfl⟩
theorem D_L_law_358 : Dec m_L_law 358 (.iload_n 3) 1 359 := ⟨by decide +kernel, rfl⟩
theorem D_L_law_359 : Dec m_L_law 359 (.iconst 2) 1 360 := ⟨by decide +kernel, rfl⟩
theorem D_L_law_360 : Dec m_L_law 360 (.iadd) 1 361 := ⟨by decide +kernel, rfl⟩
theorem D_L_law_361 : Dec m_L_law 361 (.iaload) 1 362 := ⟨by decide +kernel, rfl⟩
theorem D_L_law_362 : Dec m_L_law 362 (.invokevirtual 49) 3 365 := ⟨by decide +kernel, rfl⟩
theorem D_L_law_365 : DecJ m_L_law 365 (.if_icmp .eq) 368 722 := ⟨357, by decide +kernel, rfl, rfl⟩
theorem D_L_law_368 : Dec m_L_law 368 (.iconst 0) 1 369 := ⟨by decide +kernel, rfl⟩
theorem D_L_law_369 : Dec m_L_law 369 (.ireturn) 1 370 := ⟨by decide +kernel, rfl⟩
theorem D_L_law_370 : Dec m_L_law 370 (.aload_n 1) 1 371 := ⟨by decide +kernel, rfl⟩
theorem D_L_law_371 : Dec m_L_law 371 (.aload_n 0) 1 372 := ⟨by decide +kernel, rfl⟩
theorem D_L_law_372 : Dec m_L_law 372 (.iload_n 3) 1 373 := ⟨by decide +kernel, rfl⟩
theorem D_L_law_373 : Dec m_L_law 373 (.iconst 1) 1 374 := ⟨by decide +kernel, rfl⟩
theorem D_L_law_374 : Dec m_L_law 374 (.iadd) 1 375 := ⟨by decide +kernel, rfl⟩
theorem D_L_law_375 : Dec m_L_law 375 (.iaload) 1 376 := ⟨by decide +kernel, rfl⟩
theorem D_L_law_376 : Dec m_L_law 376 (.invokevirtual 50) 3 379 := ⟨by decide +kernel, rfl⟩
theorem D_L_law_379 : Dec m_L_law 379 (.aload_n 2) 1 380 := ⟨by decide +kernel, rfl⟩
theorem D_L_law_380 : Dec m_L_law 380 (.aload_n 0) 1 381 := ⟨by decide +kernel, rfl⟩
theorem D_L_law_381 : Dec m_L_law 381 (.iload_n 3) 1 382 := ⟨by decide +kernel, rfl⟩
theorem D_L_law_382 : Dec m_L_law 382 (.iconst 1) 1 383 := ⟨by decide +kernel, rfl⟩
theorem D_L_law_383 : Dec m_L_law 383 (.iadd) 1 384 := ⟨by decide +kernel, rfl⟩
theorem D_L_law_384 : Dec m_L_law 384 (.iaload) 1 385 := ⟨by decide +kernel, rfl⟩
theorem D_L_law_385 : Dec m_L_law 385 (.invokevirtual 54) 3 388 := ⟨by decide +kernel, rfl⟩
theorem D_L_law_388 : DecJ m_L_law 388 (.if_icmp .eq) 391 722 := ⟨334, by decide +kernel, rfl, rfl⟩
theorem D_L_law_391 : Dec m_L_law 391 (.iconst 0) 1 392 := ⟨by decide +kernel, rfl⟩
theorem D_L_law_392 : Dec m_L_law 392 (.ireturn) 1 393 := ⟨by decide +kernel, rfl⟩
theorem D_L_law_393 : Dec m_L_law 393 (.aload_n 1) 1 394 := ⟨by decide +kernel, rfl⟩
theorem D_L_law_394 : Dec m_L_law 394 (.aload_n 0) 1 395 := ⟨by decide +kernel, rfl⟩
theorem D_L_law_395 : Dec m_L_law 395 (.iload_n 3) 1 396 := ⟨by decide +kernel, rfl⟩
theorem D_L_law_396 : Dec m_L_law 396 (.iconst 1) 1 397 := ⟨by decide +kernel, rfl⟩
theorem D_L_law_397 : Dec m_L_law 397 (.iadd) 1 398 := ⟨by decide +kernel, rfl⟩
theorem D_L_law_398 : Dec m_L_law 398 (.iaload) 1 399 := ⟨by decide +kernel, rfl⟩
theorem D_L_law_399 : Dec m_L_law 399 (.invokevirtual 55) 3 402 := ⟨by decide +kernel, rfl⟩
theorem D_L_law_402 : Dec m_L_law 402 (.aload_n 2) 1 403 := ⟨by decide +kernel, rfl⟩
theorem D_L_law_403 : Dec m_L_law 403 (.aload_n 0) 1 404 := ⟨by decide +kernel, rfl⟩
theorem D_L_law_404 : Dec m_L_law 404 (.iload_n 3) 1 405 := ⟨by decide +kernel, rfl⟩
theorem D_L_law_405 : Dec m_L_law 405 (.iconst 1) 1 406 := ⟨by decide +kernel, rfl⟩
theorem D_L_law_406 : Dec m_L_law 406 (.iadd) 1 407 := ⟨by decide +kernel, rfl⟩
theorem D_L_law_407 : Dec m_L_law 407 (.iaload) 1 408 := ⟨by decide +kernel, rfl⟩
theorem D_L_law_408 : Dec m_L_law 408 (.invokevirtual 58) 3 411 := ⟨by decide +kernel, rfl⟩
theorem D_L_law_411 : DecJ m_L_law 411 (.if_icmp .eq) 414 722 := ⟨311, by decide +kernel, rfl, rfl⟩
theorem D_L_law_414 : Dec m_L_law 414 (.iconst 0) 1 415 := ⟨by decide +kernel, rfl⟩
theorem D_L_law_415 : Dec m_L_law 415 (.ireturn) 1 416 := ⟨by decide +kernel, rfl⟩
theorem D_L_law_416 : Dec m_L_law 416 (.aload_n 1) 1 417 := ⟨by decide +kernel, rfl⟩
theorem D_L_law_417 : Dec m_L_law 417 (.aload_n 0) 1 418 := ⟨by decide +kernel, rfl⟩
theorem D_L_law_418 : Dec m_L_law 418 (.iload_n 3) 1 419 := ⟨by decide +kernel, rfl⟩
theorem D_L_law_419 : Dec m_L_law 419 (.iconst 1) 1 420 := ⟨by decide +kernel, rfl⟩
theorem D_L_law_420 : Dec m_L_law 420 (.iadd) 1 421 := ⟨by decide +kernel, rfl⟩
theorem D_L_law_421 : Dec m_L_law 421 (.iaload) 1 422 := ⟨by decide +kernel, rfl⟩
theorem D_L_law_422 : Dec m_L_law 422 (.invokevirtual 59) 3 425 := ⟨by decide +kernel, rfl⟩
theorem D_L_law_425 : Dec m_L_law 425 (.aload_n 2) 1 426 := ⟨by decide +kernel, rfl⟩
theorem D_L_law_426 : Dec m_L_law 426 (.aload_n 0) 1 427 := ⟨by decide +kernel, rfl⟩
theorem D_L_law_427 : Dec m_L_law 427 (.iload_n 3) 1 428 := ⟨by decide +kernel, rfl⟩
theorem D_L_law_428 : Dec m_L_law 428 (.iconst 1) 1 429 := ⟨by decide +kernel, rfl⟩
theorem D_L_law_429 : Dec m_L_law 429 (.iadd) 1 430 := ⟨by decide +kernel, rfl⟩
theorem D_L_law_430 : Dec m_L_law 430 (.iaload) 1 431 := ⟨by decide +kernel, rfl⟩
theorem D_L_law_431 : Dec m_L_law 431 (.invokevirtual 62) 3 434 := ⟨by decide +kernel, rfl⟩
theorem D_L_law_434 : DecJ m_L_law 434 (.if_icmp .eq) 437 722 := ⟨288, by decide +kernel, rfl, rfl⟩
theorem D_L_law_437 : Dec m_L_law 437 (.iconst 0) 1 438 := ⟨by decide +kernel, rfl⟩
theorem D_L_law_438 : Dec m_L_law 438 (.ireturn) 1 439 := ⟨by decide +kernel, rfl⟩
theorem D_L_law_439 : Dec m_L_law 439 (.aload_n 1) 1 440 := ⟨by decide +kernel, rfl⟩
theorem D_L_law_440 : Dec m_L_law 440 (.invokevirtual 63) 3 443 := ⟨by decide +kernel, rfl⟩
theorem D_L_law_443 : Dec m_L_law 443 (.aload_n 2) 1 444 := ⟨by decide +kernel, rfl⟩
theorem D_L_law_444 : Dec m_L_law 444 (.invokevirtual 66) 3 447 := ⟨by decide +kernel, rfl⟩
theorem D_L_law_447 : DecJ m_L_law 447 (.if_icmp .eq) 450 722 := ⟨275, by decide +kernel, rfl, rfl⟩
theorem D_L_law_450 : Dec m_L_law 450 (.iconst 0) 1 451 := ⟨by decide +kernel, rfl⟩
theorem D_L_law_451 : Dec m_L_law 451 (.ireturn) 1 452 := ⟨by decide +kernel, rfl⟩
theorem D_L_law_452 : Dec m_L_law 452 (.aload_n 1) 1 453 := ⟨by decide +kernel, rfl⟩
theorem D_L_law_453 : Dec m_L_law 453 (.aload_n 0) 1 454 := ⟨by decide +kernel, rfl⟩
theorem D_L_law_454 : Dec m_L_law 454 (.iload_n 3) 1 455 := ⟨by decide +kernel, rfl⟩
theorem D_L_law_455 : Dec m_L_law 455 (.iconst 1) 1 456 := ⟨by decide +kernel, rfl⟩
theorem D_L_law_456 : Dec m_L_law 456 (.iadd) 1 457 := ⟨by decide +kernel, rfl⟩
theorem D_L_law_457 : Dec m_L_law 457 (.iaload) 1 458 := ⟨by decide +kernel, rfl⟩
theorem D_L_law_458 : Dec m_L_law 458 (.aload_n 0) 1 459 := ⟨by decide +kernel, rfl⟩
theorem D_L_law_459 : Dec m_L_law 459 (.iload_n 3) 1 460 := ⟨by decide +kernel, rfl⟩
theorem D_L_law_460 : Dec m_L_law 460 (.iconst 2) 1 461 := ⟨by decide +kernel, rfl⟩
theorem D_L_law_461 : Dec m_L_law 461 (.iadd) 1 462 := ⟨by decide +kernel, rfl⟩
theorem D_L_law_462 : Dec m_L_law 462 (.iaload) 1 463 := ⟨by decide +kernel, rfl⟩
theorem D_L_law_463 : Dec m_L_law 463 (.aload_n 0) 1 464 := ⟨by decide +kernel, rfl⟩
theorem D_L_law_464 : Dec m_L_law 464 (.iload_n 3) 1 465 := ⟨by decide +kernel, rfl⟩
theorem D_L_law_465 : Dec m_L_law 465 (.iconst 3) 1 466 := ⟨by decide +kernel, rfl⟩
theorem D_L_law_466 : Dec m_L_law 466 (.iadd) 1 467 := ⟨by decide +kernel, rfl⟩
theorem D_L_law_467 : Dec m_L_law 467 (.iaload) 1 468 := ⟨by decide +kernel, rfl⟩
theorem D_L_law_468 : Dec m_L_law 468 (.invokevirtual 67) 3 471 := ⟨by decide +kernel, rfl⟩
theorem D_L_law_471 : Dec m_L_law 471 (.aload_n 2) 1 472 := ⟨by decide +kernel, rfl⟩
theorem D_L_law_472 : Dec m_L_law 472 (.aload_n 0) 1 473 := ⟨by decide +kernel, rfl⟩
theorem D_L_law_473 : Dec m_L_law 473 (.iload_n 3) 1 474 := ⟨by decide +kernel, rfl⟩
theorem D_L_law_474 : Dec m_L_law 474 (.iconst 1) 1 475 := ⟨by decide +kernel, rfl⟩
theorem D_L_law_475 : Dec m_L_law 475 (.iadd) 1 476 := ⟨by decide +kernel, rfl⟩
theorem D_L_law_476 : Dec m_L_law 476 (.iaload) 1 477 := ⟨by decide +kernel, rfl⟩
theorem D_L_law_477 : Dec m_L_law 477 (.aload_n 0) 1 478 := ⟨by decide +kernel, rfl⟩
theorem D_L_law_478 : Dec m_L_law 478 (.iload_n 3) 1 479 := ⟨by decide +kernel, rfl⟩
theorem D_L_law_479 : Dec m_L_law 479 (.iconst 2) 1 480 := ⟨by decide +kernel, rfl⟩
theorem D_L_law_480 : Dec m_L_law 480 (.iadd) 1 481 := ⟨by decide +kernel, rfl⟩
theorem D_L_law_481 : Dec m_L_law 481 (.iaload) 1 482 := ⟨by decide +kernel, rfl⟩
theorem D_L_law_482 : Dec m_L_law 482 (.aload_n 0) 1 483 := ⟨by decide +kernel, rfl⟩
theorem D_L_law_483 : Dec m_L_law 483 (.iload_n 3) 1 484 := ⟨by decide +kernel, rfl⟩
theorem D_L_law_484 : Dec m_L_law 484 (.iconst 3) 1 485 := ⟨by decide +kernel, rfl⟩
theorem D_L_law_485 : Dec m_L_law 485 (.iadd) 1 486 := ⟨by decide +kernel, rfl⟩
theorem D_L_law_486 : Dec m_L_law 486 (.iaload) 1 487 := ⟨by decide +kernel, rfl⟩
theorem D_L_law_487 : Dec m_L_law 487 (.invokevirtual 71) 3 490 := ⟨by decide +kernel, rfl⟩
theorem D_L_law_490 : DecJ m_L_law 490 (.if_icmp .eq) 493 722 := ⟨232, by decide +kernel, rfl, rfl⟩
theorem D_L_law_493 : Dec m_L_law 493 (.iconst 0) 1 494 := ⟨by decide +kernel, rfl⟩
theorem D_L_law_494 : Dec m_L_law 494 (.ireturn) 1 495 := ⟨by decide +kernel, rfl⟩
theorem D_L_law_495 : Dec m_L_law 495 (.aload_n 1) 1 496 := ⟨by decide +kernel, rfl⟩
theorem D_L_law_496 : Dec m_L_law 496 (.aload_n 0) 1 497 := ⟨by decide +kernel, rfl⟩
theorem D_L_law_497 : Dec m_L_law 497 (.iload_n 3) 1 498 := ⟨by decide +kernel, rfl⟩
theorem D_L_law_498 : Dec m_L_law 498 (.iconst 1) 1 499 := ⟨by decide +kernel, rfl⟩
theorem D_L_law_499 : Dec m_L_law 499 (.iadd) 1 500 := ⟨by decide +kernel, rfl⟩
theorem D_L_law_500 : Dec m_L_law 500 (.iaload) 1 501 := ⟨by decide +kernel, rfl⟩
theorem D_L_law_501 : Dec m_L_law 501 (.invokevirtual 72) 3 504 := ⟨by decide +kernel, rfl⟩
theorem D_L_law_504 : Dec m_L_law 504 (.aload_n 2) 1 505 := ⟨by decide +kernel, rfl⟩
theorem D_L_law_505 : Dec m_L_law 505 (.aload_n 0) 1 506 := ⟨by decide +kernel, rfl⟩
theorem D_L_law_506 : Dec m_L_law 506 (.iload_n 3) 1 507 := ⟨by decide +kernel, rfl⟩
theorem D_L_law_507 : Dec m_L_law 507 (.iconst 1) 1 508 := ⟨by decide +kernel, rfl⟩
theorem D_L_law_508 : Dec m_L_law 508 (.iadd) 1 509 := ⟨by decide +kernel, rfl⟩
theorem D_L_law_509 : Dec m_L_law 509 (.iaload) 1 510 := ⟨by decide +kernel, rfl⟩
theorem D_L_law_510 : Dec m_L_law 510 (.invokevirtual 75) 3 513 := ⟨by decide +kernel, rfl⟩
theorem D_L_law_513 : DecJ m_L_law 513 (.if_icmp .eq) 516 722 := ⟨209, by decide +kernel, rfl, rfl⟩
theorem D_L_law_516 : Dec m_L_law 516 (.iconst 0) 1 517 := ⟨by decide +kernel, rfl⟩
theorem D_L_law_517 : Dec m_L_law 517 (.ireturn) 1 518 := ⟨by decide +kernel, rfl⟩
theorem D_L_law_518 : Dec m_L_law 518 (.aload_n 1) 1 519 := ⟨by decide +kernel, rfl⟩
theorem D_L_law_519 : Dec m_L_law 519 (.aload_n 0) 1 520 := ⟨by decide +kernel, rfl⟩
theorem D_L_law_520 : Dec m_L_law 520 (.iload_n 3) 1 521 := ⟨by decide +kernel, rfl⟩
theorem D_L_law_521 : Dec m_L_law 521 (.iconst 1) 1 522 := ⟨by decide +kernel, rfl⟩
theorem D_L_law_522 : Dec m_L_law 522 (.iadd) 1 523 := ⟨by decide +kernel, rfl⟩
theorem D_L_law_523 : Dec m_L_law 523 (.iaload) 1 524 := ⟨by decide +kernel, rfl⟩
theorem D_L_law_524 : Dec m_L_law 524 (.invokevirtual 76) 3 527 := ⟨by decide +kernel, rfl⟩
theorem D_L_law_527 : Dec m_L_law 527 (.aload_n 2) 1 528 := ⟨by decide +kernel, rfl⟩
theorem D_L_law_528 : Dec m_L_law 528 (.aload_n 0) 1 529 := ⟨by decide +kernel, rfl⟩
theorem D_L_law_529 : Dec m_L_law 529 (.iload_n 3) 1 530 := ⟨by decide +kernel, rfl⟩
theorem D_L_law_530 : Dec m_L_law 530 (.iconst 1) 1 531 := ⟨by decide +kernel, rfl⟩
theorem D_L_law_531 : Dec m_L_law 531 (.iadd) 1 532 := ⟨by decide +kernel, rfl⟩
theorem D_L_law_532 : Dec m_L_law 532 (.iaload) 1 533 := ⟨by decide +kernel, rfl⟩
theorem D_L_law_533 : Dec m_L_law 533 (.invokevirtual 79) 3 536 := ⟨by decide +kernel, rfl⟩
theorem D_L_law_536 : DecJ m_L_law 536 (.if_icmp .eq) 539 722 := ⟨186, by decide +kernel, rfl, rfl⟩
theorem D_L_law_539 : Dec m_L_law 539 (.iconst 0) 1 540 := ⟨by decide +kernel, rfl⟩
theorem D_L_law_540 : Dec m_L_law 540 (.ireturn) 1 541 := ⟨by decide +kernel, rfl⟩
theorem D_L_law_541 : Dec m_L_law 541 (.aload_n 1) 1 542 := ⟨by decide +kernel, rfl⟩
theorem D_L_law_542 : Dec m_L_law 542 (.invokevirtual 80) 3 545 := ⟨by decide +kernel, rfl⟩
theorem D_L_law_545 : Dec m_L_law 545 (.aload_n 2) 1 546 := ⟨by decide +kernel, rfl⟩
theorem D_L_law_546 : Dec m_L_law 546 (.invokevirtual 83) 3 549 := ⟨by decide +kernel, rfl⟩
theorem D_L_law_549 : DecJ m_L_law 549 (.if_icmp .eq) 552 722 := ⟨173, by decide +kernel, rfl, rfl⟩
theorem D_L_law_552 : Dec m_L_law 552 (.iconst 0) 1 553 := ⟨by decide +kernel, rfl⟩
theorem D_L_law_553 : Dec m_L_law 553 (.ireturn) 1 554 := ⟨by decide +kernel, rfl⟩
theorem D_L_law_554 : Dec m_L_law 554 (.aload_n 1) 1 555 := ⟨by decide +kernel, rfl⟩
theorem D_L_law_555 : Dec m_L_law 555 (.aload_n 0) 1 556 := ⟨by decide +kernel, rfl⟩
theorem D_L_law_556 : Dec m_L_law 556 (.iload_n 3) 1 557 := ⟨by decide +kernel, rfl⟩
theorem D_L_law_557 : Dec m_L_law 557 (.iconst 1) 1 558 := ⟨by decide +kernel, rfl⟩
theorem D_L_law_558 : Dec m_L_law 558 (.iadd) 1 559 := ⟨by decide +kernel, rfl⟩
theorem D_L_law_559 : Dec m_L_law 559 (.iaload) 1 560 := ⟨by decide +kernel, rfl⟩
theorem D_L_law_560 : Dec m_L_law 560 (.aload_n 0) 1 561 := ⟨by decide +kernel, rfl⟩
theorem D_L_law_561 : Dec m_L_law 561 (.iload_n 3) 1 562 := ⟨by decide +kernel, rfl⟩
theorem D_L_law_562 : Dec m_L_law 562 (.iconst 2) 1 563 := ⟨by decide +kernel, rfl⟩
theorem D_L_law_563 : Dec m_L_law 563 (.iadd) 1 564 := ⟨by decide +kernel, rfl⟩
theorem D_L_law_564 : Dec m_L_law 564 (.iaload) 1 565 := ⟨by decide +kernel, rfl⟩
theorem D_L_law_565 : Dec m_L_law 565 (.invokevirtual 84) 3 568 := ⟨by decide +kernel, rfl⟩
theorem D_L_law_568 : Dec m_L_law 568 (.aload_n 2) 1 569 := ⟨by decide +kernel, rfl⟩
theorem D_L_law_569 : Dec m_L_law 569 (.aload_n 0) 1 570 := ⟨by decide +kernel, rfl⟩
theorem D_L_law_570 : Dec m_L_law 570 (.iload_n 3) 1 571 := ⟨by decide +kernel, rfl⟩
theorem D_L_law_571 : Dec m_L_law 571 (.iconst 1) 1 572 := ⟨by decide +kernel, rfl⟩
theorem D_L_law_572 : Dec m_L_law 572 (.iadd) 1 573 := ⟨by decide +kernel, rfl⟩
theorem D_L_law_573 : Dec m_L_law 573 (.iaload) 1 574 := ⟨by decide +kernel, rfl⟩
theorem D_L_law_574 : Dec m_L_law 574 (.aload_n 0) 1 575 := ⟨by decide +kernel, rfl⟩
theorem D_L_law_575 : Dec m_L_law 575 (.iload_n 3) 1 576 := ⟨by decide +kernel, rfl⟩
theorem D_L_law_576 : Dec m_L_law 576 (.iconst 2) 1 577 := ⟨by decide +kernel, rfl⟩
theorem D_L_law_577 : Dec m_L_law 577 (.iadd) 1 578 := ⟨by decide +kernel, rfl⟩
theorem D_L_law_578 : Dec m_L_law 578 (.iaload) 1 579 := ⟨by decide +kernel, rfl⟩
theorem D_L_law_579 : Dec m_L_law 579 (.invokevirtual 87) 3 582 := ⟨by decide +kernel, rfl⟩
theorem D_L_law_582 : DecJ m_L_law 582 (.if_icmp .eq) 585 722 := ⟨140, by decide +kernel, rfl, rfl⟩
theorem D_L_law_585 : Dec m_L_law 585 (.iconst 0) 1 586 := ⟨by decide +kernel, rfl⟩
theorem D_L_law_586 : Dec m_L_law 586 (.ireturn) 1 587 := ⟨by decide +kernel, rfl⟩
theorem D_L_law_587 : Dec m_L_law 587 (.aload_n 1) 1 588 := ⟨by decide +kernel, rfl⟩
theorem D_L_law_588 : Dec m_L_law 588 (.aload_n 0) 1 589 := ⟨by decide +kernel, rfl⟩
theorem D_L_law_589 : Dec m_L_law 589 (.iload_n 3) 1 590 := ⟨by decide +kernel, rfl⟩
theorem D_L_law_590 : Dec m_L_law 590 (.iconst 1) 1 591 := ⟨by decide +kernel, rfl⟩
theorem D_L_law_591 : Dec m_L_law 591 (.iadd) 1 592 := ⟨by decide +kernel, rfl⟩
theorem D_L_law_592 : Dec m_L_law 592 (.iaload) 1 593 := ⟨by decide +kernel, rfl⟩
theorem D_L_law_593 : Dec m_L_law 593 (.aload_n 0) 1 594 := ⟨by decide +kernel, rfl⟩
theorem D_L_law_594 : Dec m_L_law 594 (.iload_n 3) 1 595 := ⟨by decide +kernel, rfl⟩
theorem D_L_law_595 : Dec m_L_law 595 (.iconst 2) 1 596 := ⟨by decide +kernel, rfl⟩
theorem D_L_law_596 : Dec m_L_law 596 (.iadd) 1 597 := ⟨by decide +kernel, rfl⟩
theorem D_L_law_597 : Dec m_L_law 597 (.iaload) 1 598 := ⟨by decide +kernel, rfl⟩
theorem D_L_law_598 : Dec m_L_law 598 (.aload_n 0) 1 599 := ⟨by decide +kernel, rfl⟩
theorem D_L_law_599 : Dec m_L_law 599 (.iload_n 3) 1 600 := ⟨by decide +kernel, rfl⟩
theorem D_L_law_600 : Dec m_L_law 600 (.iconst 3) 1 601 := ⟨by decide +kernel, rfl⟩
theorem D_L_law_601 : Dec m_L_law 601 (.iadd) 1 602 := ⟨by decide +kernel, rfl⟩
theorem D_L_law_602 : Dec m_L_law 602 (.iaload) 1 603 := ⟨by decide +kernel, rfl⟩
theorem D_L_law_603 : Dec m_L_law 603 (.invokevirtual 88) 3 606 := ⟨by decide +kernel, rfl⟩
theorem D_L_law_606 : Dec m_L_law 606 (.aload_n 2) 1 607 := ⟨by decide +kernel, rfl⟩
theorem D_L_law_607 : Dec m_L_law 607 (.aload_n 0) 1 608 := ⟨by decide +kernel, rfl⟩
theorem D_L_law_608 : Dec m_L_law 608 (.iload_n 3) 1 609 := ⟨by decide +kernel, rfl⟩
theorem D_L_law_609 : Dec m_L_law 609 (.iconst 1) 1 610 := ⟨by decide +kernel, rfl⟩
theorem D_L_law_610 : Dec m_L_law 610 (.iadd) 1 611 := ⟨by decide +kernel, rfl⟩
theorem D_L_law_611 : Dec m_L_law 611 (.iaload) 1 612 := ⟨by decide +kernel, rfl⟩
theorem D_L_law_612 : Dec m_L_law 612 (.aload_n 0) 1 613 := ⟨by decide +kernel, rfl⟩
theorem D_L_law_613 : Dec m_L_law 613 (.iload_n 3) 1 614 := ⟨by decide +kernel, rfl⟩
theorem D_L_law_614 : Dec m_L_law 614 (.iconst 2) 1 615 := ⟨by decide +kernel, rfl⟩
theorem D_L_law_615 : Dec m_L_law 615 (.iadd) 1 616 := ⟨by decide +kernel, rfl⟩
theorem D_L_law_616 : Dec m_L_law 616 (.iaload) 1 617 := ⟨by decide +kernel, rfl⟩
theorem D_L_law_617 : Dec m_L_law 617 (.aload_n 0) 1 618 := ⟨by decide +kernel, rfl⟩
theorem D_L_law_618 : Dec m_L_law 618 (.iload_n 3) 1 619 := ⟨by decide +kernel, rfl⟩
theorem D_L_law_619 : Dec m_L_law 619 (.iconst 3) 1 620 := ⟨by decide +kernel, rfl⟩
theorem D_L_law_620 : Dec m_L_law 620 (.iadd) 1 621 := ⟨by decide +kernel, rfl⟩
theorem D_L_law_621 : Dec m_L_law 621 (.iaload) 1 622 := ⟨by decide +kernel, rfl⟩
theorem D_L_law_622 : Dec m_L_law 622 (.invokevirtual 91) 3 625 := ⟨by decide +kernel, rfl⟩
theorem D_L_law_625 : DecJ m_L_law 625 (.if_icmp .eq) 628 722 := ⟨97, by decide +kernel, rfl, rfl⟩
theorem D_L_law_628 : Dec m_L_law 628 (.iconst 0) 1 629 := ⟨by decide +kernel, rfl⟩
theorem D_L_law_629 : Dec m_L_law 629 (.ireturn) 1 630 := ⟨by decide +kernel, rfl⟩
theorem D_L_law_630 : Dec m_L_law 630 (.aload_n 1) 1 631 := ⟨by decide +kernel, rfl⟩
theorem D_L_law_631 : Dec m_L_law 631 (.aload_n 0) 1 632 := ⟨by decide +kernel, rfl⟩
theorem D_L_law_632 : Dec m_L_law 632 (.iload_n 3) 1 633 := ⟨by decide +kernel, rfl⟩
theorem D_L_law_633 : Dec m_L_law 633 (.iconst 1) 1 634 := ⟨by decide +kernel, rfl⟩
theorem D_L_law_634 : Dec m_L_law 634 (.iadd) 1 635 := ⟨by decide +kernel, rfl⟩
theorem D_L_law_635 : Dec m_L_law 635 (.iaload) 1 636 := ⟨by decide +kernel, rfl⟩
theorem D_L_law_636 : Dec m_L_law 636 (.aload_n 0) 1 637 := ⟨by decide +kernel, rfl⟩
theorem D_L_law_637 : Dec m_L_law 637 (.iload_n 3) 1 638 := ⟨by decide +kernel, rfl⟩
theorem D_L_law_638 : Dec m_L_law 638 (.iconst 2) 1 639 := ⟨by decide +kernel, rfl⟩
theorem D_L_law_639 : Dec m_L_law 639 (.iadd) 1 640 := ⟨by decide +kernel, rfl⟩
theorem D_L_law_640 : Dec m_L_law 640 (.iaload) 1 641 := ⟨by decide +kernel, rfl⟩
theorem D_L_law_641 : Dec m_L_law 641 (.aload_n 0) 1 642 := ⟨by decide +kernel, rfl⟩
theorem D_L_law_642 : Dec m_L_law 642 (.iload_n 3) 1 643 := ⟨by decide +kernel, rfl⟩
theorem D_L_law_643 : Dec m_L_law 643 (.iconst 3) 1 644 := ⟨by decide +kernel, rfl⟩
theorem D_L_law_644 : Dec m_L_law 644 (.iadd) 1 645 := ⟨by decide +kernel, rfl⟩
theorem D_L_law_645 : Dec m_L_law 645 (.iaload) 1 646 := ⟨by decide +kernel, rfl⟩
theorem D_L_law_646 : Dec m_L_law 646 (.invokevirtual 92) 3 649 := ⟨by decide +kernel, rfl⟩
theorem D_L_law_649 : Dec m_L_law 649 (.aload_n 2) 1 650 := ⟨by decide +kernel, rfl⟩
theorem D_L_law_650 : Dec m_L_law 650 (.aload_n 0) 1 651 := ⟨by decide +kernel, rfl⟩
theorem D_L_law_651 : Dec m_L_law 651 (.iload_n 3) 1 652 := ⟨by decide +kernel, rfl⟩
theorem D_L_law_652 : Dec m_L_law 652 (.iconst 1) 1 653 := ⟨by decide +kernel, rfl⟩
theorem D_L_law_653 : Dec m_L_law 653 (.iadd) 1 654 := ⟨by decide +kernel, rfl⟩
theorem D_L_law_654 : Dec m_L_law 654 (.iaload) 1 655 := ⟨by decide +kernel, rfl⟩
theorem D_L_law_655 : Dec m_L_law 655 (.aload_n 0) 1 656 := ⟨by decide +kernel, rfl⟩
theorem D_L_law_656 : Dec m_L_law 656 (.iload_n 3) 1 657 := ⟨by decide +kernel, rfl⟩
theorem D_L_law_657 : Dec m_L_law 657 (.iconst 2) 1 658 := ⟨by decide +kernel, rfl⟩
theorem D_L_law_658 : Dec m_L_law 658 (.iadd) 1 659 := ⟨by decide +kernel, rfl⟩
theorem D_L_law_659 : Dec m_L_law 659 (.iaload) 1 660 := ⟨by decide +kernel, rfl⟩
theorem D_L_law_660 : Dec m_L_law 660 (.aload_n 0) 1 661 := ⟨by decide +kernel, rfl⟩
theorem D_L_law_661 : Dec m_L_law 661 (.iload_n 3) 1 662 := ⟨by decide +kernel, rfl⟩
theorem D_L_law_662 : Dec m_L_law 662 (.iconst 3) 1 663 := ⟨by decide +kernel, rfl⟩
theorem D_L_law_663 : Dec m_L_law 663 (.iadd) 1 664 := ⟨by decide +kernel, rfl⟩
theorem D_L_law_664 : Dec m_L_law 664 (.iaload) 1 665 := ⟨by decide +kernel, rfl⟩
theorem D_L_law_665 : Dec m_L_law 665 (.invokevirtual 95) 3 668 := ⟨by decide +kernel, rfl⟩
theorem D_L_law_668 : DecJ m_L_law 668 (.if_icmp .eq) 671 722 := ⟨54, by decide +kernel, rfl, rfl⟩
theorem D_L_law_671 : Dec m_L_law 671 (.iconst 0) 1 672 := ⟨by decide +kernel, rfl⟩
theorem D_L_law_672 : Dec m_L_law 672 (.ireturn) 1 673 := ⟨by decide +kernel, rfl⟩
theorem D_L_law_673 : Dec m_L_law 673 (.aload_n 1) 1 674 := ⟨by decide +kernel, rfl⟩
theorem D_L_law_674 : Dec m_L_law 674 (.invokevirtual 96) 3 677 := ⟨by decide +kernel, rfl⟩
theorem D_L_law_677 : Dec m_L_law 677 (.aload_n 2) 1 678 := ⟨by decide +kernel, rfl⟩
theorem D_L_law_678 : Dec m_L_law 678 (.invokevirtual 99) 3 681 := ⟨by decide +kernel, rfl⟩
theorem D_L_law_681 : DecJ m_L_law 681 (.if_icmp .eq) 684 722 := ⟨41, by decide +kernel, rfl, rfl⟩
theorem D_L_law_684 : Dec m_L_law 684 (.iconst 0) 1 685 := ⟨by decide +kernel, rfl⟩
theorem D_L_law_685 : Dec m_L_law 685 (.ireturn) 1 686 := ⟨by decide +kernel, rfl⟩
theorem D_L_law_686 : Dec m_L_law 686 (.aload_n 1) 1 687 := ⟨by decide +kernel, rfl⟩
theorem D_L_law_687 : Dec m_L_law 687 (.invokevirtual 100) 3 690 := ⟨by decide +kernel, rfl⟩
theorem D_L_law_690 : Dec m_L_law 690 (.aload_n 2) 1 691 := ⟨by decide +kernel, rfl⟩
theorem D_L_law_691 : Dec m_L_law 691 (.invokevirtual 103) 3 694 := ⟨by decide +kernel, rfl⟩
theorem D_L_law_694 : DecJ m_L_law 694 (.if_icmp .eq) 697 722 := ⟨28, by decide +kernel, rfl, rfl⟩
theorem D_L_law_697 : Dec m_L_law 697 (.iconst 0) 1 698 := ⟨by decide +kernel, rfl⟩
theorem D_L_law_698 : Dec m_L_law 698 (.ireturn) 1 699 := ⟨by decide +kernel, rfl⟩
theorem D_L_law_699 : Dec m_L_law 699 (.aload_n 1) 1 700 := ⟨by decide +kernel, rfl⟩
theorem D_L_law_700 : Dec m_L_law 700 (.aload_n 0) 1 701 := ⟨by decide +kernel, rfl⟩
theorem D_L_law_701 : Dec m_L_law 701 (.iload_n 3) 1 702 := ⟨by decide +kernel, rfl⟩
theorem D_L_law_702 : Dec m_L_law 702 (.iconst 1) 1 703 := ⟨by decide +kernel, rfl⟩
theorem D_L_law_703 : Dec m_L_law 703 (.iadd) 1 704 := ⟨by decide +kernel, rfl⟩
theorem D_L_law_704 : Dec m_L_law 704 (.iaload) 1 705 := ⟨by decide +kernel, rfl⟩
theorem D_L_law_705 : Dec m_L_law 705 (.invokevirtual 104) 3 708 := ⟨by decide +kernel, rfl⟩
theorem D_L_law_708 : Dec m_L_law 708 (.aload_n 2) 1 709 := ⟨by decide +kernel, rfl⟩
theorem D_L_law_709 : Dec m_L_law 709 (.aload_n 0) 1 710 := ⟨by decide +kernel, rfl⟩
theorem D_L_law_710 : Dec m_L_law 710 (.iload_n 3) 1 711 := ⟨by decide +kernel, rfl⟩
theorem D_L_law_711 : Dec m_L_law 711 (.iconst 1) 1 712 := ⟨by decide +kernel, rfl⟩
theorem D_L_law_712 : Dec m_L_law 712 (.iadd) 1 713 := ⟨by decide +kernel, rfl⟩
theorem D_L_law_713 : Dec m_L_law 713 (.iaload) 1 714 := ⟨by decide +kernel, rfl⟩
theorem D_L_law_714 : Dec m_L_law 714 (.invokevirtual 107) 3 717 := ⟨by decide +kernel, rfl⟩
theorem D_L_law_717 : DecJ m_L_law 717 (.if_icmp .eq) 720 722 := ⟨5, by decide +kernel, rfl, rfl⟩
theorem D_L_law_720 : Dec m_L_law 720 (.iconst 0) 1 721 := ⟨by decide +kernel, rfl⟩
theorem D_L_law_721 : Dec m_L_law 721 (.ireturn) 1 722 := ⟨by decide +kernel, rfl⟩
theorem D_L_law_722 : Dec m_L_law 722 (.iinc 3 4) 3 725 := ⟨by decide +kernel, rfl⟩
theorem D_L_law_725 : DecJ m_L_law 725 (.goto) 728 18 := ⟨-707, by decide +kernel, rfl, rfl⟩
theorem D_L_law_728 : Dec m_L_law 728 (.iconst 1) 1 729 := ⟨by decide +kernel, rfl⟩
theorem D_L_law_729 : Dec m_L_law 729 (.ireturn) 1 730 := ⟨by decide +kernel, rfl⟩
end
section
/-! the machine's judgement over a heap of numbered cells and whole numbers: the rows of the kit, once each -/
def ii (z : Int) : Int32 := Int32.ofInt z
def vi (z : Int) : Value := .int (ii z)
def ll (z : Int) : Int64 := Int64.ofInt z
def vl (z : Int) : Value := .long (ll z)
abbrev B3 (a : Int) : Prop := -2147483648 ≤ a ∧ a ≤ 2147483647
theorem ii_toInt (x : Int32) : ii x.toInt = x := Int32.ofInt_toInt x
theorem toInt_ii {a : Int} (h : B3 a) : (ii a).toInt = a := Int32.toInt_ofInt_of_le (by have := h.1; omega) (by have := h.2; omega)
theorem B3_toInt (x : Int32) : B3 x.toInt := ⟨by have := x.le_toInt; omega, by have := x.toInt_lt; omega⟩
theorem ii_add (a b : Int) : ii a + ii b = ii (a + b) := (Int32.ofInt_add a b).symm
theorem ii_sub (a b : Int) : ii a - ii b = ii (a - b) := (Int32.ofInt_sub a b).symm
theorem ii_mul (a b : Int) : ii a * ii b = ii (a * b) := (Int32.ofInt_mul a b).symm
theorem ll_add (a b : Int) : ll a + ll b = ll (a + b) := (Int64.ofInt_add a b).symm
theorem ll_mul (a b : Int) : ll a * ll b = ll (a * b) := (Int64.ofInt_mul a b).symm
theorem ii_inj {a b : Int} (ha : B3 a) (hb : B3 b) (h : ii a = ii b) : a = b := by rw [← toInt_ii ha, ← toInt_ii hb, h]
theorem ii_lt {a b : Int} (ha : B3 a) (hb : B3 b) : ii a < ii b ↔ a < b := by rw [Int32.lt_iff_toInt_lt, toInt_ii ha, toInt_ii hb]
theorem ii_le {a b : Int} (ha : B3 a) (hb : B3 b) : ii a ≤ ii b ↔ a ≤ b := by rw [Int32.le_iff_toInt_le, toInt_ii ha, toInt_ii hb]
theorem ii_zero : ii 0 = 0 := rfl
theorem ii_clamp {a : Int} (ha : B3 a) : (ii a).toNatClampNeg = a.toNat := Int32.toNatClampNeg_ofInt_of_le (by have := ha.1; omega) (by have := ha.2; omega)
theorem vp_ii {j : Int} {n : Nat} (h0 : 0 ≤ j) (h1 : j < n) (hn : n ≤ 2147483647) : vp_in (ii j) n := by
  have hb : B3 j := ⟨by omega, by omega⟩
  rintro (h | h)
  · rw [← ii_zero, ii_lt hb ⟨by omega, by omega⟩] at h; omega
  · rw [ii_clamp hb] at h; omega
def iAnd (a b : Int) : Int := (ii a &&& ii b).toInt
def iOr (a b : Int) : Int := (ii a ||| ii b).toInt
def iXor (a b : Int) : Int := (ii a ^^^ ii b).toInt
def iShl (a b : Int) : Int := (ii a <<< (ii b &&& 31)).toInt
def iShr (a b : Int) : Int := (ii a >>> (ii b &&& 31)).toInt
def iUshr (a b : Int) : Int := ((ii a).toUInt32 >>> ((ii b).toUInt32 &&& Int32.toUInt32 31)).toInt32.toInt
def iByte (a : Int) : Int := ((ii a).toInt8.toInt32).toInt
theorem ii_div {a b : Int} (ha0 : 0 ≤ a) (ha : B3 a) (hb0 : 0 < b) (hb : B3 b) : ii a / ii b = ii (a / b) := by
  rw [← ii_toInt (ii a / ii b), Int32.toInt_div_of_ne_right, toInt_ii ha, toInt_ii hb, Int.tdiv_eq_ediv_of_nonneg ha0]
  intro h
  have := ii_inj hb ⟨by omega, by omega⟩ (show ii b = ii (-1) from h)
  omega
theorem ll_div {a b : Int} (ha0 : 0 ≤ a) (ha : a < 9223372036854775808) (hb0 : 0 < b) (hb : b < 9223372036854775808) : ll a / ll b = ll (a / b) := by
  unfold ll
  rw [← Int.tdiv_eq_ediv_of_nonneg ha0, Int64.ofInt_tdiv] <;> simp only [Int64.toInt_minValue, Int64.toInt_maxValue] <;> omega
theorem ii_ne0 {a : Int} (ha : B3 a) (h : a ≠ 0) : ¬ ii a = 0 := fun e => h (ii_inj ha ⟨by omega, by omega⟩ (e.trans ii_zero.symm))
abbrev Ce : Type := (Nat × Nat × (Int → Int)) ⊕ (Nat × Nat × (Nat → Option Nat)) ⊕ (Nat × List Value)
abbrev Hp : Type := Nat → Option Ce
/-- an array of whole numbers (0: int, 1: byte) -/
def ia (t n : Nat) (F : Int → Int) : Ce := .inl (t, n, fun j => if 0 ≤ j ∧ j < (n : Int) then F j else 0)
def ra (t n : Nat) (G : Nat → Option Nat) : Ce := .inr (.inl (t, n, G))
def ob (c : Nat) (fs : List Value) : Ce := .inr (.inr (c, fs))
def hset (h : Hp) (o : Nat) (c : Ce) : Hp := fun q => if q = o then some c else h q
def ups (F : Int → Int) (j v : Int) : Int → Int := fun q => if q = j then v else F q
theorem ia_ext {t n : Nat} {F G : Int → Int} (h : ∀ j : Int, 0 ≤ j → j < n → F j = G j) : ia t n F = ia t n G := by
  unfold ia
  congr 3
  funext j
  by_cases hj : 0 ≤ j ∧ j < (n : Int)
  · rw [if_pos hj, if_pos hj, h j hj.1 hj.2]
  · rw [if_neg hj, if_neg hj]
/-- classes, arrays' classes; the script's address; where the numbered cells begin; the heap ahead of them -/
abbrev Cx : Type := (va_G × (Nat → ClassId) × (Nat → ClassId)) × Nat × Nat × Heap
def ad (X : Cx) : Nat → Nat
  | 0 => X.2.1
  | k + 1 => X.2.2.1 + k
def vr (X : Cx) : Value → Value
  | .ref k => .ref (ad X k)
  | v => v
theorem vr_cat (X : Cx) (v : Value) : (vr X v).category = v.category := by cases v <;> rfl
def rl (X : Cx) (c : Ce) : va_E := match c with
  | .inl (t, n, F) => .inl (X.1.2.1 t, n, .inl (fun j => ii (F (j : Int))))
  | .inr (.inl (t, n, G)) => .inl (X.1.2.2 t, n, .inr (.inr (.inr (.inr (fun j => (G j).map (ad X))))))
  | .inr (.inr (ci, fs)) => .inr (ci, fs.map (vr X))
def tysX (X : Cx) : List (ClassId × FieldType) := [(X.1.2.1 0, .int), (X.1.2.1 1, .byte), (X.1.2.2 0, .object "WhileSaltMelts$Evening"), (X.1.2.2 1, .array .int)]
def Kn (X : Cx) (U : State) : Prop := va_K X.1.1 cls (tysX X) U ∧ (∀ w ∈ NW, va_Nw w U) ∧ va_AO "WhileSaltMelts$Evening" U
theorem nw_warm {s U : State} (hW : s.WarmedH U.vm) (h : ∀ w ∈ NW, va_Nw w s) : ∀ w ∈ NW, va_Nw w U := by
  intro w hw
  have hZ := h w hw
  simp only [NW, List.mem_cons, List.not_mem_nil, or_false] at hw
  rcases hw with rfl | rfl | rfl | rfl | rfl | rfl | rfl | rfl <;> exact va_Nw.warmM hW hZ
theorem nw_same {u U : State} (e : u.vm = U.vm) (h : ∀ w ∈ NW, va_Nw w u) : ∀ w ∈ NW, va_Nw w U := by
  intro w hw
  have hZ := h w hw
  simp only [NW, List.mem_cons, List.not_mem_nil, or_false] at hw
  rcases hw with rfl | rfl | rfl | rfl | rfl | rfl | rfl | rfl <;> exact va_Nw.same rfl e hZ
theorem Kn.warm {X : Cx} {s U : State} (hW : s.WarmedH U.vm) (h : Kn X s) : Kn X U := ⟨va_K.moved hW.alike h.1, nw_warm hW h.2.1, h.2.2.moved hW.alike⟩
theorem Kn.same {X : Cx} {u U : State} (e : u.vm = U.vm) (h : Kn X u) : Kn X U := by
  have ha : u.vm.Alike U.vm := by rw [e]; exact Vm.Alike.refl _
  exact ⟨va_K.moved ha h.1, nw_same e h.2.1, h.2.2.moved ha⟩
def Rp (X : Cx) (z : Nat × Nat) (h : Hp) (H : Heap) : Prop := h 0 = none ∧ H.size = X.2.2.1 + z.1 ∧ (∀ q : Nat, q < X.2.2.1 → H[q]? = X.2.2.2[q]?) ∧ ∀ (k : Nat) (c : Ce), h (k + 1) = some c → va_at X.1.1 cls (X.2.2.1 + k, rl X c) H
theorem Rp.at {X : Cx} {z : Nat × Nat} {h : Hp} {H : Heap} (hR : Rp X z h H) {o : Nat} {c : Ce} (ho : h o = some c) : va_at X.1.1 cls (ad X o, rl X c) H := by
  cases o with
  | zero => rw [hR.1] at ho; cases ho
  | succ k => exact hR.2.2.2 k c ho
theorem Rp.base {X : Cx} {z : Nat × Nat} {h : Hp} {H : Heap} (hR : Rp X z h H) {o : Nat} {c : Ce} (ho : h o = some c) : X.2.2.1 ≤ ad X o := by
  cases o with
  | zero => rw [hR.1] at ho; cases ho
  | succ k => exact Nat.le_add_right _ _
theorem Rp.set {X : Cx} {z : Nat × Nat} {h : Hp} {H H1 : Heap} (hR : Rp X z h H) {o : Nat} {c0 c : Ce} (ho : h o = some c0) (he : va_at X.1.1 cls (ad X o, rl X c) H1) (hn : ∀ q : Nat, q ≠ ad X o → H1[q]? = H[q]?) (hs : H1.size = H.size) : Rp X z (hset h o c) H1 := by
  cases o with
  | zero => rw [hR.1] at ho; cases ho
  | succ k0 =>
    refine ⟨by simp [hset, hR.1], hs.trans hR.2.1, fun q hq => ?_, fun k c' hk => ?_⟩
    · rw [hn q (by show q ≠ X.2.2.1 + k0; omega)]; exact hR.2.2.1 q hq
    · by_cases hkk : k = k0
      · subst hkk
        simp [hset] at hk
        subst hk
        exact he
      · have hk' : h (k + 1) = some c' := by simpa [hset, hkk] using hk
        exact (hR.2.2.2 k c' hk').kept (hn _ (by show X.2.2.1 + k ≠ X.2.2.1 + k0; omega))
theorem va_P1 {D : va_G} {cl : List vw_C} {q : Nat × va_E} {H : Heap} (h : va_at D cl q H) : va_P D cl [q] H := by
  intro k x hx
  cases k with
  | zero => cases hx; exact h
  | succ k => simp at hx
/-! locals -/
def lg : List (Nat × Value) → Nat → Option Value
  | [], _ => none
  | (i, v) :: t, k => cond (Nat.beq i k) (some v) (lg t k)
def lpa : List (Nat × Value) → Nat → Value → Bool → List (Nat × Value) → Option (List (Nat × Value))
  | [], _, _, true, acc => some acc
  | [], k, v, false, acc => some ((k, v) :: acc)
  | (i, w) :: t, k, v, b, acc => cond (Nat.beq i k) (lpa t k v true ((k, v) :: acc)) (lpa t k v b ((i, w) :: acc))
def okp (ls : List (Nat × Value)) (k : Nat) : Bool := ls.all (fun q => cond (Nat.beq (q.1 + 1) k) (!(Nat.beq q.2.category 2)) true)
def okp2 (ls : List (Nat × Value)) (k : Nat) : Bool := ls.all (fun q => cond (Nat.beq (q.1 + 1) k) (!(Nat.beq q.2.category 2)) true && !(Nat.beq q.1 (k + 1)))
theorem nbeq_f {i k : Nat} (h : i ≠ k) : Nat.beq i k = false := by
  cases hx : Nat.beq i k with
  | true => exact absurd (Nat.eq_of_beq_eq_true hx) h
  | false => rfl
theorem lg_mem {ls : List (Nat × Value)} {k : Nat} {v : Value} (h : lg ls k = some v) : (k, v) ∈ ls := by
  induction ls with
  | nil => cases h
  | cons q t ih =>
    obtain ⟨i, w⟩ := q
    by_cases e : i = k
    · subst e
      simp [lg] at h
      subst h
      exact List.mem_cons_self
    · have : Nat.beq i k = false := nbeq_f e
      simp [lg, this] at h
      exact List.mem_cons_of_mem _ (ih h)
abbrev lm (X : Cx) (ls : List (Nat × Value)) : List (Nat × Value) := ls.map (fun q => (q.1, vr X q.2))
theorem lh_at {X : Cx} {L : Array Slot} {n k : Nat} {v : Value} {ls : List (Nat × Value)} (hl : lv_has L n (lm X ls)) (h : lg ls k = some v) : L[k]? = some (.val (vr X v)) :=
  hl.2.2 (k, vr X v) (List.mem_map.mpr ⟨(k, v), lg_mem h, rfl⟩)
theorem lpa_mem {k : Nat} {v : Value} : ∀ (ls : List (Nat × Value)) (b : Bool) (acc ls2 : List (Nat × Value)), lpa ls k v b acc = some ls2 → ∀ q ∈ ls2, q = (k, v) ∨ (q ∈ ls ∧ q.1 ≠ k) ∨ q ∈ acc := by
  intro ls
  induction ls with
  | nil =>
    intro b acc ls2 h q hq
    cases b with
    | true => cases h; exact Or.inr (Or.inr hq)
    | false =>
      cases h
      rcases List.mem_cons.mp hq with h | h
      · exact Or.inl h
      · exact Or.inr (Or.inr h)
  | cons p t ih =>
    obtain ⟨i, w⟩ := p
    intro b acc ls2 h q hq
    by_cases e : i = k
    · have e1 : Nat.beq i k = true := by simp [Nat.beq_eq, e]
      simp only [lpa, e1, cond_true] at h
      rcases ih _ _ _ h q hq with h1 | h1 | h1
      · exact Or.inl h1
      · exact Or.inr (Or.inl ⟨List.mem_cons_of_mem _ h1.1, h1.2⟩)
      · rcases List.mem_cons.mp h1 with h2 | h2
        · exact Or.inl h2
        · exact Or.inr (Or.inr h2)
    · have e1 : Nat.beq i k = false := nbeq_f e
      simp only [lpa, e1, cond_false] at h
      rcases ih _ _ _ h q hq with h1 | h1 | h1
      · exact Or.inl h1
      · exact Or.inr (Or.inl ⟨List.mem_cons_of_mem _ h1.1, h1.2⟩)
      · rcases List.mem_cons.mp h1 with h2 | h2
        · subst h2
          exact Or.inr (Or.inl ⟨List.mem_cons_self, e⟩)
        · exact Or.inr (Or.inr h2)
theorem lp_mem {ls ls2 : List (Nat × Value)} {k : Nat} {v : Value} (h : lpa ls k v false [] = some ls2) {q : Nat × Value} (hq : q ∈ ls2) : q = (k, v) ∨ (q ∈ ls ∧ q.1 ≠ k) := by
  rcases lpa_mem ls false [] ls2 h q hq with h1 | h1 | h1
  · exact Or.inl h1
  · exact Or.inr h1
  · cases h1
theorem lh_put {X : Cx} {L' : Array Slot} {n k : Nat} {v : Value} {ls ls2 : List (Nat × Value)} (hlp : lpa ls k v false [] = some ls2) (ho : okp ls k = true)
    (h : lv_has L' n ((k, vr X v) :: (lm X ls).filter (fun q => !(q.1 == k) && !(q.1 + 1 == k && q.2.category == 2)))) : lv_has L' n (lm X ls2) := by
  refine ⟨h.1, h.2.1, fun q hq => h.2.2 q ?_⟩
  obtain ⟨w, hw, rfl⟩ := List.mem_map.mp hq
  rcases lp_mem hlp hw with rfl | ⟨h1, h2⟩
  · exact List.mem_cons_self
  · refine List.mem_cons_of_mem _ (List.mem_filter.mpr ⟨List.mem_map.mpr ⟨w, h1, rfl⟩, ?_⟩)
    have h3 := List.all_eq_true.mp ho w h1
    by_cases e : w.1 + 1 = k
    · have : Nat.beq (w.1 + 1) k = true := by simp [Nat.beq_eq, e]
      rw [this] at h3
      have h4 : w.2.category ≠ 2 := by
        intro e2
        rw [e2] at h3
        cases h3
      simp [h2, vr_cat, h4]
    · simp [h2, e]
theorem lh_put2 {X : Cx} {L' : Array Slot} {n k : Nat} {v : Value} {ls ls2 : List (Nat × Value)} (hlp : lpa ls k v false [] = some ls2) (ho : okp2 ls k = true)
    (h : lv_has L' n ((k, vr X v) :: (lm X ls).filter (fun q => !(q.1 == k) && (!(q.1 == k + 1) && !(q.1 + 1 == k && q.2.category == 2))))) : lv_has L' n (lm X ls2) := by
  refine ⟨h.1, h.2.1, fun q hq => h.2.2 q ?_⟩
  obtain ⟨w, hw, rfl⟩ := List.mem_map.mp hq
  rcases lp_mem hlp hw with rfl | ⟨h1, h2⟩
  · exact List.mem_cons_self
  · refine List.mem_cons_of_mem _ (List.mem_filter.mpr ⟨List.mem_map.mpr ⟨w, h1, rfl⟩, ?_⟩)
    have h3 := List.all_eq_true.mp ho w h1
    rw [Bool.and_eq_true] at h3
    have h5 : w.1 ≠ k + 1 := by
      intro e
      have : Nat.beq w.1 (k + 1) = true := by simp [Nat.beq_eq, e]
      rw [this] at h3
      exact absurd h3.2 (by decide)
    by_cases e : w.1 + 1 = k
    · have : Nat.beq (w.1 + 1) k = true := by simp [Nat.beq_eq, e]
      rw [this] at h3
      have h4 : w.2.category ≠ 2 := by
        intro e2
        rw [e2] at h3
        cases h3.1
      simp [h2, h5, vr_cat, h4]
    · simp [h2, h5, e]
theorem lh_sub {X : Cx} {L : Array Slot} {n : Nat} {ls ls' : List (Nat × Value)} (hl : lv_has L n (lm X ls)) (h : ls'.map (fun q => lg ls q.1) = ls'.map (fun q => some q.2)) : lv_has L n (lm X ls') := by
  refine ⟨hl.1, hl.2.1, fun q hq => ?_⟩
  obtain ⟨w, hw, rfl⟩ := List.mem_map.mp hq
  have : lg ls w.1 = some w.2 := List.map_inj_left.mp h w hw
  exact lh_at hl this
theorem la_map (X : Cx) (as : List Value) : ∀ i : Nat, lv_args i (as.map (vr X)) = (lv_args i as).map (fun q => (q.1, vr X q.2)) := by
  induction as with
  | nil => intro i; rfl
  | cons v t ih =>
    intro i
    show (i, vr X v) :: lv_args _ (t.map (vr X)) = (i, vr X v) :: (lv_args _ t).map _
    rw [vr_cat, ih]
theorem sl_len (X : Cx) (as : List Value) : (lg_sl (as.map (vr X))).length = (lg_sl as).length := by
  induction as with
  | nil => rfl
  | cons v t ih =>
    simp only [lg_sl, List.map_cons, List.flatMap_cons, List.length_append, vr_cat] at ih ⊢
    rw [ih]
    split <;> rfl
/-! the judgement -/
def Fx (X : Cx) (d : Nat) (y : Mt) (p : Program) (R : Room) (s : State) (m : MethodId) (args : Array Value) (meth : Method) (c : Code) (mc ms : Nat) : Prop :=
  CallFix p m c y.2.1 y.2.2.1 s args WS y.1.cls ∧ meth.sig.returnType = y.2.2.2 ∧ meth.locks = false ∧ meth.name = y.1.name ∧ Kn X s ∧ d ≤ R.frames ∧ 40 * d ≤ R.locals ∧ mc ≤ R.cells ∧ ms ≤ R.slots
def QX (X : Cx) (zf : Nat × Nat) (Q : Option Value → Hp → Prop) : Array Value → State → Outcome → State → Prop := fun _ _ oc t => ∃ (r : Option Value) (h' : Hp), oc = .returned (r.map (vr X)) ∧ Q r h' ∧ Rp X zf h' t.heap
def PX (X : Cx) (as : List Value) (z : Nat × Nat) (h : Hp) : Array Value → State → Prop := fun a U => a = (as.map (vr X)).toArray ∧ Kn X U ∧ Rp X z h U.heap
def FX (X : Cx) : Addr → Prop := fun q => X.2.2.1 ≤ q
def WW (d : Nat) (y : Mt) (zf : Nat × Nat) (Q : Option Value → Hp → Prop) (z : Nat × Nat) (h : Hp) (pc : Nat) (ls : List (Nat × Value)) (st : List Value) : Prop :=
  ∀ (X : Cx) (l : Launch) (p : Program) (e : Env) (R : Room) (s : State) (m : MethodId) (args : Array Value) (below : List Frame) (meth : Method) (c : Code) (H : Heap) (locs : List Loc) (cells slots mc ms : Nat) (L : Array Slot),
    Fx X d y p R s m args meth c mc ms → Rp X z h H → (∀ q ∈ locs, FX X q.base) → lv_has L y.2.2.1 (lm X ls) → cells + zf.1 = mc + z.1 → slots + zf.2 = ms + z.2 → z.1 ≤ zf.1 → z.2 ≤ zf.2 →
    W p l e R s m args below meth c H locs cells slots (MQ below (QX X zf Q) args s mc ms (FX X)) (F0 m pc L (st.map (vr X)))
def wsm (y : Mt) : List Cond := Cond.code y.1 y.2.1 y.2.2.1 y.2.2.2 :: WS
def rmX (d : Nat) (z zf : Nat × Nat) : Room := { frames := d, cells := zf.1 - z.1, slots := zf.2 - z.2, locals := 40 * d }
/-- a method's contract: from these arguments and this heap it comes to an end with Q -/
def Ct (d : Nat) (y : Mt) (as : List Value) (z zf : Nat × Nat) (h : Hp) (Q : Option Value → Hp → Prop) : Prop := (z.1 ≤ zf.1 ∧ z.2 ≤ zf.2) ∧ ∀ (X : Cx) (l : Launch), Met l y.1 (wsm y) (rmX d z zf) (PX X as z h) (QX X zf Q) (zf.1 - z.1) (zf.2 - z.2) (FX X)
theorem Ct.of {d : Nat} {y : Mt} {as : List Value} {z zf : Nat × Nat} {h : Hp} {Q : Option Value → Hp → Prop} (hp : plainName y.1.cls = true) (hz : z.1 ≤ zf.1 ∧ z.2 ≤ zf.2) (hn : (lg_sl as).length ≤ y.2.2.1) (body : WW d y zf Q z h 0 (lv_args 0 as) []) : Ct d y as z zf h Q := by
  refine ⟨hz, fun X l => Met.ofW (cc := y.2.1) (maxL := y.2.2.1) (ret := y.2.2.2) hp rfl ?_⟩
  intro p e s m args below meth c s₁ B hml hv
  obtain ⟨rfl, hK, hR⟩ := hv
  have hts := atoms_spec (ws := wsm y) B.pre
  rw [lg_entry_eq]
  have hl := lv_entry (as.map (vr X)) (n := y.2.2.1) (by rw [sl_len]; exact hn)
  rw [la_map] at hl
  refine body X l p e _ s m _ below meth c s.heap [] 0 0 _ _ _ ⟨⟨B.exec, B.bytes, hml, findClass_of_methodNamed B.named, fun w hw => hts w (List.mem_cons_of_mem _ hw)⟩, B.returns, B.notSynchronized, (name_of_methodNamed B.named B.method).1, hK, Nat.le_refl _, Nat.le_refl _, Nat.le_refl _, Nat.le_refl _⟩ hR (fun q hq => by cases hq) hl ?_ ?_ hz.1 hz.2
  · have := hz.1; omega
  · have := hz.2; omega
theorem Ct.weaken {d d' : Nat} {y : Mt} {as : List Value} {z zf : Nat × Nat} {h : Hp} {Q Q' : Option Value → Hp → Prop} (hc : Ct d y as z zf h Q) (hQ : ∀ r h', Q r h' → Q' r h') : Ct d y as z zf h Q' := by
  refine ⟨hc.1, fun X l => ?_⟩
  intro p e ha hcc hk s m args below hf h1 h2 h3
  obtain ⟨k, o, g1, g2, g3, g4, g5⟩ := hc.2 X l p e ha hcc hk s m args below hf h1 h2 h3
  obtain ⟨r, h', q1, q2, q3⟩ := g4
  exact ⟨k, o, g1, g2, g3, ⟨r, h', q1, hQ r h' q2, q3⟩, g5⟩
theorem gw {w : Cond} (h : w ∈ WS) : w ∈ WS ∧ ((w.onTables && w.keeps) = true ∨ ∃ ty, w = .arrayClass ty) := ⟨h, good_of_word (List.mem_filter.mp h).2⟩
theorem gws {y : Mt} (h : Cond.code y.1 y.2.1 y.2.2.1 y.2.2.2 ∈ WS) : GoodIn WS (wsm y) := by
  intro w hw
  rcases List.mem_cons.mp hw with rfl | hw
  · exact gw h
  · exact gw hw
theorem blindX (X : Cx) (as : List Value) (z : Nat × Nat) (h : Hp) : FrameBlind (PX X as z h) := fun a U g mk q => ⟨q.1, Kn.same (u := U) rfl q.2.1, q.2.2⟩

section XR
variable {d : Nat} {y : Mt} {zf : Nat × Nat} {Q : Option Value → Hp → Prop} {z : Nat × Nat} {h : Hp} {pc pc2 tgt : Nat} {ls : List (Nat × Value)} {st : List Value}

theorem x_iadd {a b : Int} (hd : Dec y pc (.iadd) 1 pc2) (K : WW d y zf Q z h pc2 ls (vi (a + b) :: st)) : WW d y zf Q z h pc ls (vi b :: vi a :: st) := by
  intro X l p e R s m args below meth c H locs cells slots mc ms L F hR hq hl e1 e2 e3 e4
  obtain ⟨hd, rfl⟩ := hd
  exact lv_iadd F.1.1 F.1.2.1 (x := ii a) (y := ii b) hd (by rw [ii_add]; exact K X l p e R s m args below meth c H locs cells slots mc ms L F hR hq hl e1 e2 e3 e4)
theorem x_isub {a b : Int} (hd : Dec y pc (.isub) 1 pc2) (K : WW d y zf Q z h pc2 ls (vi (a - b) :: st)) : WW d y zf Q z h pc ls (vi b :: vi a :: st) := by
  intro X l p e R s m args below meth c H locs cells slots mc ms L F hR hq hl e1 e2 e3 e4
  obtain ⟨hd, rfl⟩ := hd
  exact lv_isub F.1.1 F.1.2.1 (x := ii a) (y := ii b) hd (by rw [ii_sub]; exact K X l p e R s m args below meth c H locs cells slots mc ms L F hR hq hl e1 e2 e3 e4)
theorem x_imul {a b : Int} (hd : Dec y pc (.imul) 1 pc2) (K : WW d y zf Q z h pc2 ls (vi (a * b) :: st)) : WW d y zf Q z h pc ls (vi b :: vi a :: st) := by
  intro X l p e R s m args below meth c H locs cells slots mc ms L F hR hq hl e1 e2 e3 e4
  obtain ⟨hd, rfl⟩ := hd
  exact lv_imul F.1.1 F.1.2.1 (x := ii a) (y := ii b) hd (by rw [ii_mul]; exact K X l p e R s m args below meth c H locs cells slots mc ms L F hR hq hl e1 e2 e3 e4)
theorem x_iand {a b : Int} (hd : Dec y pc (.iand) 1 pc2) (K : WW d y zf Q z h pc2 ls (vi (iAnd a b) :: st)) : WW d y zf Q z h pc ls (vi b :: vi a :: st) := by
  intro X l p e R s m args below meth c H locs cells slots mc ms L F hR hq hl e1 e2 e3 e4
  obtain ⟨hd, rfl⟩ := hd
  exact lv_iand F.1.1 F.1.2.1 (x := ii a) (y := ii b) hd (by rw [← ii_toInt (ii a &&& ii b)]; exact K X l p e R s m args below meth c H locs cells slots mc ms L F hR hq hl e1 e2 e3 e4)
theorem x_ior {a b : Int} (hd : Dec y pc (.ior) 1 pc2) (K : WW d y zf Q z h pc2 ls (vi (iOr a b) :: st)) : WW d y zf Q z h pc ls (vi b :: vi a :: st) := by
  intro X l p e R s m args below meth c H locs cells slots mc ms L F hR hq hl e1 e2 e3 e4
  obtain ⟨hd, rfl⟩ := hd
  exact lv_ior F.1.1 F.1.2.1 (x := ii a) (y := ii b) hd (by rw [← ii_toInt (ii a ||| ii b)]; exact K X l p e R s m args below meth c H locs cells slots mc ms L F hR hq hl e1 e2 e3 e4)
theorem x_ixor {a b : Int} (hd : Dec y pc (.ixor) 1 pc2) (K : WW d y zf Q z h pc2 ls (vi (iXor a b) :: st)) : WW d y zf Q z h pc ls (vi b :: vi a :: st) := by
  intro X l p e R s m args below meth c H locs cells slots mc ms L F hR hq hl e1 e2 e3 e4
  obtain ⟨hd, rfl⟩ := hd
  exact lv_ixor F.1.1 F.1.2.1 (x := ii a) (y := ii b) hd (by rw [← ii_toInt (ii a ^^^ ii b)]; exact K X l p e R s m args below meth c H locs cells slots mc ms L F hR hq hl e1 e2 e3 e4)
theorem x_ishl {a b : Int} (hd : Dec y pc (.ishl) 1 pc2) (K : WW d y zf Q z h pc2 ls (vi (iShl a b) :: st)) : WW d y zf Q z h pc ls (vi b :: vi a :: st) := by
  intro X l p e R s m args below meth c H locs cells slots mc ms L F hR hq hl e1 e2 e3 e4
  obtain ⟨hd, rfl⟩ := hd
  exact lv_ishl F.1.1 F.1.2.1 (x := ii a) (y := ii b) hd (by rw [← ii_toInt (ii a <<< (ii b &&& 31))]; exact K X l p e R s m args below meth c H locs cells slots mc ms L F hR hq hl e1 e2 e3 e4)
theorem x_ishr {a b : Int} (hd : Dec y pc (.ishr) 1 pc2) (K : WW d y zf Q z h pc2 ls (vi (iShr a b) :: st)) : WW d y zf Q z h pc ls (vi b :: vi a :: st) := by
  intro X l p e R s m args below meth c H locs cells slots mc ms L F hR hq hl e1 e2 e3 e4
  obtain ⟨hd, rfl⟩ := hd
  exact lv_ishr F.1.1 F.1.2.1 (x := ii a) (y := ii b) hd (by rw [← ii_toInt (ii a >>> (ii b &&& 31))]; exact K X l p e R s m args below meth c H locs cells slots mc ms L F hR hq hl e1 e2 e3 e4)
theorem x_iushr {a b : Int} (hd : Dec y pc (.iushr) 1 pc2) (K : WW d y zf Q z h pc2 ls (vi (iUshr a b) :: st)) : WW d y zf Q z h pc ls (vi b :: vi a :: st) := by
  intro X l p e R s m args below meth c H locs cells slots mc ms L F hR hq hl e1 e2 e3 e4
  obtain ⟨hd, rfl⟩ := hd
  exact lv_iushr F.1.1 F.1.2.1 (x := ii a) (y := ii b) (v := ii (iUshr a b)) hd (ii_toInt _).symm (K X l p e R s m args below meth c H locs cells slots mc ms L F hR hq hl e1 e2 e3 e4)
theorem x_idiv {a b : Int} (hd : Dec y pc (.idiv) 1 pc2) (ha0 : 0 ≤ a) (ha : B3 a) (hb0 : 0 < b) (hb : B3 b) (K : WW d y zf Q z h pc2 ls (vi (a / b) :: st)) : WW d y zf Q z h pc ls (vi b :: vi a :: st) := by
  intro X l p e R s m args below meth c H locs cells slots mc ms L F hR hq hl e1 e2 e3 e4
  obtain ⟨hd, rfl⟩ := hd
  exact lv_idiv F.1.1 F.1.2.1 (x := ii a) (y := ii b) hd (ii_ne0 hb (by omega)) (by rw [ii_div ha0 ha hb0 hb]; exact K X l p e R s m args below meth c H locs cells slots mc ms L F hR hq hl e1 e2 e3 e4)
theorem x_irem {a b : Int} (hd : Dec y pc (.irem) 1 pc2) (ha0 : 0 ≤ a) (ha : B3 a) (hb0 : 0 < b) (hb : B3 b) (K : WW d y zf Q z h pc2 ls (vi (a % b) :: st)) : WW d y zf Q z h pc ls (vi b :: vi a :: st) := by
  intro X l p e R s m args below meth c H locs cells slots mc ms L F hR hq hl e1 e2 e3 e4
  obtain ⟨hd, rfl⟩ := hd
  exact lv_irem F.1.1 F.1.2.1 (x := ii a) (y := ii b) hd (ii_ne0 hb (by omega)) (by rw [ii_div ha0 ha hb0 hb, ii_mul, ii_sub, show a - a / b * b = a % b by rw [Int.emod_def, Int.mul_comm]]; exact K X l p e R s m args below meth c H locs cells slots mc ms L F hR hq hl e1 e2 e3 e4)
theorem x_ladd {a b : Int} (hd : Dec y pc (.ladd) 1 pc2) (K : WW d y zf Q z h pc2 ls (vl (a + b) :: st)) : WW d y zf Q z h pc ls (vl b :: vl a :: st) := by
  intro X l p e R s m args below meth c H locs cells slots mc ms L F hR hq hl e1 e2 e3 e4
  obtain ⟨hd, rfl⟩ := hd
  exact lv_ladd F.1.1 F.1.2.1 (x := ll a) (y := ll b) hd (by rw [ll_add]; exact K X l p e R s m args below meth c H locs cells slots mc ms L F hR hq hl e1 e2 e3 e4)
theorem x_lmul {a b : Int} (hd : Dec y pc (.lmul) 1 pc2) (K : WW d y zf Q z h pc2 ls (vl (a * b) :: st)) : WW d y zf Q z h pc ls (vl b :: vl a :: st) := by
  intro X l p e R s m args below meth c H locs cells slots mc ms L F hR hq hl e1 e2 e3 e4
  obtain ⟨hd, rfl⟩ := hd
  exact lv_lmul F.1.1 F.1.2.1 (x := ll a) (y := ll b) hd (by rw [ll_mul]; exact K X l p e R s m args below meth c H locs cells slots mc ms L F hR hq hl e1 e2 e3 e4)
theorem x_lrem {a b : Int} (hd : Dec y pc (.lrem) 1 pc2) (ha0 : 0 ≤ a) (ha : a < 9223372036854775808) (hb0 : 0 < b) (hb : b < 9223372036854775808) (K : WW d y zf Q z h pc2 ls (vl (a % b) :: st)) : WW d y zf Q z h pc ls (vl b :: vl a :: st) := by
  intro X l p e R s m args below meth c H locs cells slots mc ms L F hR hq hl e1 e2 e3 e4
  obtain ⟨hd, rfl⟩ := hd
  refine lv_lrem F.1.1 F.1.2.1 (x := ll a) (y := ll b) hd (fun e => ?_) (by rw [ll_div ha0 ha hb0 hb, ll_mul, show ll a - ll (a / b * b) = ll (a % b) by rw [Int.emod_def, Int.mul_comm]; exact (Int64.ofInt_sub _ _).symm]; exact K X l p e R s m args below meth c H locs cells slots mc ms L F hR hq hl e1 e2 e3 e4)
  have h9 : (ll b).toInt = b := Int64.toInt_ofInt_of_le (by omega) (by omega)
  rw [e] at h9
  have h8 : (0 : Int64).toInt = 0 := by decide
  omega
theorem x_land {a b : Int64} (hd : Dec y pc (.land) 1 pc2) (K : WW d y zf Q z h pc2 ls (.long (a &&& b) :: st)) : WW d y zf Q z h pc ls (.long b :: .long a :: st) := by
  intro X l p e R s m args below meth c H locs cells slots mc ms L F hR hq hl e1 e2 e3 e4
  obtain ⟨hd, rfl⟩ := hd
  exact lv_land F.1.1 F.1.2.1 (x := a) (y := b) hd (K X l p e R s m args below meth c H locs cells slots mc ms L F hR hq hl e1 e2 e3 e4)
theorem x_lor {a b : Int64} (hd : Dec y pc (.lor) 1 pc2) (K : WW d y zf Q z h pc2 ls (.long (a ||| b) :: st)) : WW d y zf Q z h pc ls (.long b :: .long a :: st) := by
  intro X l p e R s m args below meth c H locs cells slots mc ms L F hR hq hl e1 e2 e3 e4
  obtain ⟨hd, rfl⟩ := hd
  exact lv_lor F.1.1 F.1.2.1 (x := a) (y := b) hd (K X l p e R s m args below meth c H locs cells slots mc ms L F hR hq hl e1 e2 e3 e4)
theorem x_lushr {a : Int64} {b : Int} (hd : Dec y pc (.lushr) 1 pc2) (K : WW d y zf Q z h pc2 ls (.long ((a.toUInt64 >>> ((ii b).toInt64.toUInt64 &&& Int64.toUInt64 63)).toInt64) :: st)) : WW d y zf Q z h pc ls (vi b :: .long a :: st) := by
  intro X l p e R s m args below meth c H locs cells slots mc ms L F hR hq hl e1 e2 e3 e4
  obtain ⟨hd, rfl⟩ := hd
  exact lv_lushr F.1.1 F.1.2.1 (x := a) (y := ii b) hd rfl (K X l p e R s m args below meth c H locs cells slots mc ms L F hR hq hl e1 e2 e3 e4)
theorem x_lshr {a : Int64} {b : Int} (hd : Dec y pc (.lshr) 1 pc2) (K : WW d y zf Q z h pc2 ls (.long (a >>> ((ii b).toInt64 &&& 63)) :: st)) : WW d y zf Q z h pc ls (vi b :: .long a :: st) := by
  intro X l p e R s m args below meth c H locs cells slots mc ms L F hR hq hl e1 e2 e3 e4
  obtain ⟨hd, rfl⟩ := hd
  exact lv_lshr F.1.1 F.1.2.1 (x := a) (y := ii b) hd rfl (K X l p e R s m args below meth c H locs cells slots mc ms L F hR hq hl e1 e2 e3 e4)
theorem x_lshl {a : Int64} {b : Int} (hd : Dec y pc (.lshl) 1 pc2) (K : WW d y zf Q z h pc2 ls (.long (a <<< ((ii b).toInt64 &&& 63)) :: st)) : WW d y zf Q z h pc ls (vi b :: .long a :: st) := by
  intro X l p e R s m args below meth c H locs cells slots mc ms L F hR hq hl e1 e2 e3 e4
  obtain ⟨hd, rfl⟩ := hd
  exact lv_lshl F.1.1 F.1.2.1 (x := a) (y := ii b) hd rfl (K X l p e R s m args below meth c H locs cells slots mc ms L F hR hq hl e1 e2 e3 e4)
theorem x_i2l {a : Int} (hd : Dec y pc (.i2l) 1 pc2) (ha : B3 a) (K : WW d y zf Q z h pc2 ls (vl a :: st)) : WW d y zf Q z h pc ls (vi a :: st) := by
  intro X l p e R s m args below meth c H locs cells slots mc ms L F hR hq hl e1 e2 e3 e4
  obtain ⟨hd, rfl⟩ := hd
  exact lv_i2l F.1.1 F.1.2.1 (x := ii a) (v := ll a) hd (Int64.toInt.inj (by rw [Int32.toInt_toInt64, toInt_ii ha]; exact (Int64.toInt_ofInt_of_le (by have := ha.1; omega) (by have := ha.2; omega)).symm)) (K X l p e R s m args below meth c H locs cells slots mc ms L F hR hq hl e1 e2 e3 e4)
theorem x_i2lr {a : Int} (hd : Dec y pc (.i2l) 1 pc2) (K : WW d y zf Q z h pc2 ls (.long (ii a).toInt64 :: st)) : WW d y zf Q z h pc ls (vi a :: st) := by
  intro X l p e R s m args below meth c H locs cells slots mc ms L F hR hq hl e1 e2 e3 e4
  obtain ⟨hd, rfl⟩ := hd
  exact lv_i2l F.1.1 F.1.2.1 (x := ii a) hd rfl (K X l p e R s m args below meth c H locs cells slots mc ms L F hR hq hl e1 e2 e3 e4)
theorem x_l2i {a : Int64} (hd : Dec y pc (.l2i) 1 pc2) (K : WW d y zf Q z h pc2 ls (vi a.toInt32.toInt :: st)) : WW d y zf Q z h pc ls (.long a :: st) := by
  intro X l p e R s m args below meth c H locs cells slots mc ms L F hR hq hl e1 e2 e3 e4
  obtain ⟨hd, rfl⟩ := hd
  exact lv_l2i F.1.1 F.1.2.1 (x := a) (v := ii a.toInt32.toInt) hd (ii_toInt _).symm (K X l p e R s m args below meth c H locs cells slots mc ms L F hR hq hl e1 e2 e3 e4)
theorem x_l2il {a : Int} (hd : Dec y pc (.l2i) 1 pc2) (K : WW d y zf Q z h pc2 ls (vi a :: st)) : WW d y zf Q z h pc ls (vl a :: st) := by
  intro X l p e R s m args below meth c H locs cells slots mc ms L F hR hq hl e1 e2 e3 e4
  obtain ⟨hd, rfl⟩ := hd
  exact lv_l2i F.1.1 F.1.2.1 (x := ll a) (v := ii a) hd Int64.toInt32_ofInt (K X l p e R s m args below meth c H locs cells slots mc ms L F hR hq hl e1 e2 e3 e4)
theorem x_i2b {a : Int} (hd : Dec y pc (.i2b) 1 pc2) (K : WW d y zf Q z h pc2 ls (vi (iByte a) :: st)) : WW d y zf Q z h pc ls (vi a :: st) := by
  intro X l p e R s m args below meth c H locs cells slots mc ms L F hR hq hl e1 e2 e3 e4
  obtain ⟨hd, rfl⟩ := hd
  exact lv_i2b F.1.1 F.1.2.1 (x := ii a) (v := ii (iByte a)) hd (ii_toInt _).symm (K X l p e R s m args below meth c H locs cells slots mc ms L F hR hq hl e1 e2 e3 e4)
theorem x_iconst {n : Int} (hd : Dec y pc (.iconst n) 1 pc2) (K : WW d y zf Q z h pc2 ls (vi n :: st)) : WW d y zf Q z h pc ls (st) := by
  intro X l p e R s m args below meth c H locs cells slots mc ms L F hR hq hl e1 e2 e3 e4
  obtain ⟨hd, rfl⟩ := hd
  exact lv_iconst F.1.1 F.1.2.1 (v := ii n) hd rfl (K X l p e R s m args below meth c H locs cells slots mc ms L F hR hq hl e1 e2 e3 e4)
theorem x_bipush {n : Int} (hd : Dec y pc (.bipush n) 2 pc2) (hv : (Int8.ofInt n).toInt32 = ii n) (K : WW d y zf Q z h pc2 ls (vi n :: st)) : WW d y zf Q z h pc ls (st) := by
  intro X l p e R s m args below meth c H locs cells slots mc ms L F hR hq hl e1 e2 e3 e4
  obtain ⟨hd, rfl⟩ := hd
  exact lv_bipush F.1.1 F.1.2.1 (v := ii n) hd hv (K X l p e R s m args below meth c H locs cells slots mc ms L F hR hq hl e1 e2 e3 e4)
theorem x_sipush {n : Int} (hd : Dec y pc (.sipush n) 3 pc2) (hv : (Int16.ofInt n).toInt32 = ii n) (K : WW d y zf Q z h pc2 ls (vi n :: st)) : WW d y zf Q z h pc ls (st) := by
  intro X l p e R s m args below meth c H locs cells slots mc ms L F hR hq hl e1 e2 e3 e4
  obtain ⟨hd, rfl⟩ := hd
  exact lv_sipush F.1.1 F.1.2.1 (v := ii n) hd hv (K X l p e R s m args below meth c H locs cells slots mc ms L F hR hq hl e1 e2 e3 e4)
theorem x_lconst {n : Fin 2} {k : Int} (hd : Dec y pc (.lconst n) 1 pc2) (hv : Int64.ofNat (n : Nat) = ll k) (K : WW d y zf Q z h pc2 ls (vl k :: st)) : WW d y zf Q z h pc ls (st) := by
  intro X l p e R s m args below meth c H locs cells slots mc ms L F hR hq hl e1 e2 e3 e4
  obtain ⟨hd, rfl⟩ := hd
  exact lv_lconst F.1.1 F.1.2.1 (v := ll k) hd hv (K X l p e R s m args below meth c H locs cells slots mc ms L F hR hq hl e1 e2 e3 e4)
theorem x_ldc {idx : Nat} {n : Int} (hd : Dec y pc (.ldc idx) 2 pc2) (hk : Cond.constant y.1.cls idx (ii n) ∈ WS) (K : WW d y zf Q z h pc2 ls (vi n :: st)) : WW d y zf Q z h pc ls (st) := by
  intro X l p e R s m args below meth c H locs cells slots mc ms L F hR hq hl e1 e2 e3 e4
  obtain ⟨hd, rfl⟩ := hd
  exact lv_ldc F.1.1 F.1.2.1 (v := ii n) F.1.2.2.2.1 (F.1.2.2.2.2 _ hk) hd (K X l p e R s m args below meth c H locs cells slots mc ms L F hR hq hl e1 e2 e3 e4)
theorem x_ldcw {idx : Nat} {n : Int} (hd : Dec y pc (.ldc_w idx) 3 pc2) (hk : Cond.constant y.1.cls idx (ii n) ∈ WS) (K : WW d y zf Q z h pc2 ls (vi n :: st)) : WW d y zf Q z h pc ls (st) := by
  intro X l p e R s m args below meth c H locs cells slots mc ms L F hR hq hl e1 e2 e3 e4
  obtain ⟨hd, rfl⟩ := hd
  exact lv_ldcw F.1.1 F.1.2.1 (v := ii n) F.1.2.2.2.1 (F.1.2.2.2.2 _ hk) hd (K X l p e R s m args below meth c H locs cells slots mc ms L F hR hq hl e1 e2 e3 e4)
theorem x_ldc2 {idx : Nat} {n : Int} (hd : Dec y pc (.ldc2_w idx) 3 pc2) (hk : Cond.constantLong y.1.cls idx (ll n) ∈ WS) (K : WW d y zf Q z h pc2 ls (vl n :: st)) : WW d y zf Q z h pc ls (st) := by
  intro X l p e R s m args below meth c H locs cells slots mc ms L F hR hq hl e1 e2 e3 e4
  obtain ⟨hd, rfl⟩ := hd
  exact lv_ldc2 F.1.1 F.1.2.1 (v := ll n) F.1.2.2.2.1 (F.1.2.2.2.2 _ hk) hd (K X l p e R s m args below meth c H locs cells slots mc ms L F hR hq hl e1 e2 e3 e4)
theorem x_dup {v : Value} (hd : Dec y pc (.dup) 1 pc2) (hc : v.category = 1) (K : WW d y zf Q z h pc2 ls (v :: v :: st)) : WW d y zf Q z h pc ls (v :: st) := by
  intro X l p e R s m args below meth c H locs cells slots mc ms L F hR hq hl e1 e2 e3 e4
  obtain ⟨hd, rfl⟩ := hd
  exact lv_dup F.1.1 F.1.2.1 hd ((vr_cat X v).trans hc) (K X l p e R s m args below meth c H locs cells slots mc ms L F hR hq hl e1 e2 e3 e4)
theorem x_pop {v : Value} (hd : Dec y pc (.pop) 1 pc2) (hc : v.category = 1) (K : WW d y zf Q z h pc2 ls (st)) : WW d y zf Q z h pc ls (v :: st) := by
  intro X l p e R s m args below meth c H locs cells slots mc ms L F hR hq hl e1 e2 e3 e4
  obtain ⟨hd, rfl⟩ := hd
  exact lv_pop F.1.1 F.1.2.1 (va := vr X v) hd ((vr_cat X v).trans hc) (K X l p e R s m args below meth c H locs cells slots mc ms L F hR hq hl e1 e2 e3 e4)
theorem x_dup2 {v w : Value} (hd : Dec y pc (.dup2) 1 pc2) (hc : v.category = 1) (hw : w.category = 1) (K : WW d y zf Q z h pc2 ls (v :: w :: v :: w :: st)) : WW d y zf Q z h pc ls (v :: w :: st) := by
  intro X l p e R s m args below meth c H locs cells slots mc ms L F hR hq hl e1 e2 e3 e4
  obtain ⟨hd, rfl⟩ := hd
  exact lv_dup2_11 F.1.1 F.1.2.1 (va := vr X v) (vb := vr X w) hd ((vr_cat X v).trans hc) ((vr_cat X w).trans hw) (K X l p e R s m args below meth c H locs cells slots mc ms L F hR hq hl e1 e2 e3 e4)
theorem x_iload_n {k : Fin 4} {a : Int} (hd : Dec y pc (.iload_n k) 1 pc2) (hv : lg ls (k : Nat) = some (vi a)) (K : WW d y zf Q z h pc2 ls (vi a :: st)) : WW d y zf Q z h pc ls (st) := by
  intro X l p e R s m args below meth c H locs cells slots mc ms L F hR hq hl e1 e2 e3 e4
  obtain ⟨hd, rfl⟩ := hd
  exact lv_iload_n F.1.1 F.1.2.1 hd rfl (lh_at hl hv) (K X l p e R s m args below meth c H locs cells slots mc ms L F hR hq hl e1 e2 e3 e4)
theorem x_iload {k : Nat} {a : Int} (hd : Dec y pc (.iload k) 2 pc2) (hv : lg ls k = some (vi a)) (K : WW d y zf Q z h pc2 ls (vi a :: st)) : WW d y zf Q z h pc ls (st) := by
  intro X l p e R s m args below meth c H locs cells slots mc ms L F hR hq hl e1 e2 e3 e4
  obtain ⟨hd, rfl⟩ := hd
  exact lv_iload F.1.1 F.1.2.1 hd (lh_at hl hv) (K X l p e R s m args below meth c H locs cells slots mc ms L F hR hq hl e1 e2 e3 e4)
theorem x_aload_n {k : Fin 4} {a : Nat} (hd : Dec y pc (.aload_n k) 1 pc2) (hv : lg ls (k : Nat) = some (.ref a)) (K : WW d y zf Q z h pc2 ls (.ref a :: st)) : WW d y zf Q z h pc ls (st) := by
  intro X l p e R s m args below meth c H locs cells slots mc ms L F hR hq hl e1 e2 e3 e4
  obtain ⟨hd, rfl⟩ := hd
  exact lv_aload_n F.1.1 F.1.2.1 hd rfl (lh_at hl hv) (K X l p e R s m args below meth c H locs cells slots mc ms L F hR hq hl e1 e2 e3 e4)
theorem x_aload {k : Nat} {a : Nat} (hd : Dec y pc (.aload k) 2 pc2) (hv : lg ls k = some (.ref a)) (K : WW d y zf Q z h pc2 ls (.ref a :: st)) : WW d y zf Q z h pc ls (st) := by
  intro X l p e R s m args below meth c H locs cells slots mc ms L F hR hq hl e1 e2 e3 e4
  obtain ⟨hd, rfl⟩ := hd
  exact lv_aload F.1.1 F.1.2.1 hd (lh_at hl hv) (K X l p e R s m args below meth c H locs cells slots mc ms L F hR hq hl e1 e2 e3 e4)
theorem x_lload_n {k : Fin 4} {a : Int64} (hd : Dec y pc (.lload_n k) 1 pc2) (hv : lg ls (k : Nat) = some (.long a)) (K : WW d y zf Q z h pc2 ls (.long a :: st)) : WW d y zf Q z h pc ls (st) := by
  intro X l p e R s m args below meth c H locs cells slots mc ms L F hR hq hl e1 e2 e3 e4
  obtain ⟨hd, rfl⟩ := hd
  exact lv_lload_n F.1.1 F.1.2.1 hd rfl (lh_at hl hv) (K X l p e R s m args below meth c H locs cells slots mc ms L F hR hq hl e1 e2 e3 e4)
theorem x_lload {k : Nat} {a : Int64} (hd : Dec y pc (.lload k) 2 pc2) (hv : lg ls k = some (.long a)) (K : WW d y zf Q z h pc2 ls (.long a :: st)) : WW d y zf Q z h pc ls (st) := by
  intro X l p e R s m args below meth c H locs cells slots mc ms L F hR hq hl e1 e2 e3 e4
  obtain ⟨hd, rfl⟩ := hd
  exact lv_lload F.1.1 F.1.2.1 hd (lh_at hl hv) (K X l p e R s m args below meth c H locs cells slots mc ms L F hR hq hl e1 e2 e3 e4)
theorem x_istore_n {k : Fin 4} {a : Int} (hd : Dec y pc (.istore_n k) 1 pc2) (hn : Nat.ble ((k : Nat) + 1) y.2.2.1 = true) (hok : okp ls (k : Nat) = true) {ls2 : List (Nat × Value)} (hlp : lpa ls (k : Nat) (vi a) false [] = some ls2) (K : WW d y zf Q z h pc2 ls2 st) : WW d y zf Q z h pc ls (vi a :: st) := by
  intro X l p e R s m args below meth c H locs cells slots mc ms L F hR hq hl e1 e2 e3 e4
  obtain ⟨hd, rfl⟩ := hd
  exact lv_istore_n F.1.1 F.1.2.1 hd rfl hl (Nat.le_of_ble_eq_true hn) rfl (fun L' hl' => K X l p e R s m args below meth c H locs cells slots mc ms L' F hR hq (lh_put hlp hok hl') e1 e2 e3 e4)
theorem x_istore {k : Nat} {a : Int} (hd : Dec y pc (.istore k) 2 pc2) (hn : Nat.ble (k + 1) y.2.2.1 = true) (hok : okp ls k = true) {ls2 : List (Nat × Value)} (hlp : lpa ls k (vi a) false [] = some ls2) (K : WW d y zf Q z h pc2 ls2 st) : WW d y zf Q z h pc ls (vi a :: st) := by
  intro X l p e R s m args below meth c H locs cells slots mc ms L F hR hq hl e1 e2 e3 e4
  obtain ⟨hd, rfl⟩ := hd
  exact lv_istore F.1.1 F.1.2.1 hd hl (Nat.le_of_ble_eq_true hn) rfl (fun L' hl' => K X l p e R s m args below meth c H locs cells slots mc ms L' F hR hq (lh_put hlp hok hl') e1 e2 e3 e4)
theorem x_astore_n {k : Fin 4} {a : Nat} (hd : Dec y pc (.astore_n k) 1 pc2) (hn : Nat.ble ((k : Nat) + 1) y.2.2.1 = true) (hok : okp ls (k : Nat) = true) {ls2 : List (Nat × Value)} (hlp : lpa ls (k : Nat) (.ref a) false [] = some ls2) (K : WW d y zf Q z h pc2 ls2 st) : WW d y zf Q z h pc ls (.ref a :: st) := by
  intro X l p e R s m args below meth c H locs cells slots mc ms L F hR hq hl e1 e2 e3 e4
  obtain ⟨hd, rfl⟩ := hd
  exact lv_astore_n F.1.1 F.1.2.1 hd rfl hl (Nat.le_of_ble_eq_true hn) rfl (fun L' hl' => K X l p e R s m args below meth c H locs cells slots mc ms L' F hR hq (lh_put hlp hok hl') e1 e2 e3 e4)
theorem x_astore {k : Nat} {a : Nat} (hd : Dec y pc (.astore k) 2 pc2) (hn : Nat.ble (k + 1) y.2.2.1 = true) (hok : okp ls k = true) {ls2 : List (Nat × Value)} (hlp : lpa ls k (.ref a) false [] = some ls2) (K : WW d y zf Q z h pc2 ls2 st) : WW d y zf Q z h pc ls (.ref a :: st) := by
  intro X l p e R s m args below meth c H locs cells slots mc ms L F hR hq hl e1 e2 e3 e4
  obtain ⟨hd, rfl⟩ := hd
  exact lv_astore F.1.1 F.1.2.1 hd hl (Nat.le_of_ble_eq_true hn) rfl (fun L' hl' => K X l p e R s m args below meth c H locs cells slots mc ms L' F hR hq (lh_put hlp hok hl') e1 e2 e3 e4)
theorem x_lstore_n {k : Fin 4} {a : Int64} (hd : Dec y pc (.lstore_n k) 1 pc2) (hn : Nat.ble ((k : Nat) + 2) y.2.2.1 = true) (hok : okp2 ls (k : Nat) = true) {ls2 : List (Nat × Value)} (hlp : lpa ls (k : Nat) (.long a) false [] = some ls2) (K : WW d y zf Q z h pc2 ls2 st) : WW d y zf Q z h pc ls (.long a :: st) := by
  intro X l p e R s m args below meth c H locs cells slots mc ms L F hR hq hl e1 e2 e3 e4
  obtain ⟨hd, rfl⟩ := hd
  exact lv_lstore_n F.1.1 F.1.2.1 hd rfl hl (Nat.le_of_ble_eq_true hn) rfl (fun L' hl' => K X l p e R s m args below meth c H locs cells slots mc ms L' F hR hq (lh_put2 hlp hok hl') e1 e2 e3 e4)
theorem x_lstore {k : Nat} {a : Int64} (hd : Dec y pc (.lstore k) 2 pc2) (hn : Nat.ble (k + 2) y.2.2.1 = true) (hok : okp2 ls k = true) {ls2 : List (Nat × Value)} (hlp : lpa ls k (.long a) false [] = some ls2) (K : WW d y zf Q z h pc2 ls2 st) : WW d y zf Q z h pc ls (.long a :: st) := by
  intro X l p e R s m args below meth c H locs cells slots mc ms L F hR hq hl e1 e2 e3 e4
  obtain ⟨hd, rfl⟩ := hd
  exact lv_lstore F.1.1 F.1.2.1 hd hl (Nat.le_of_ble_eq_true hn) rfl (fun L' hl' => K X l p e R s m args below meth c H locs cells slots mc ms L' F hR hq (lh_put2 hlp hok hl') e1 e2 e3 e4)
theorem x_iinc {k : Nat} {n a : Int} (hd : Dec y pc (.iinc k n) 3 pc2) (hv : lg ls k = some (vi a)) (hn : Nat.ble (k + 1) y.2.2.1 = true) (hok : okp ls k = true) {ls2 : List (Nat × Value)} (hlp : lpa ls k (vi (a + n)) false [] = some ls2) (K : WW d y zf Q z h pc2 ls2 st) : WW d y zf Q z h pc ls st := by
  intro X l p e R s m args below meth c H locs cells slots mc ms L F hR hq hl e1 e2 e3 e4
  obtain ⟨hd, rfl⟩ := hd
  obtain ⟨j, hj⟩ := List.getElem?_of_mem (lg_mem hv)
  exact lv_iinc F.1.1 F.1.2.1 (v := ii (a + n)) hd hl (k := j) (x := ii a) (by rw [List.getElem?_map, hj]; rfl) (ii_add a n) (Nat.le_of_ble_eq_true hn) rfl (fun L' hl' => K X l p e R s m args below meth c H locs cells slots mc ms L' F hR hq (lh_put hlp hok hl') e1 e2 e3 e4)
theorem x_icmp_eq {a b : Int} (hd : DecJ y pc (.if_icmp .eq) pc2 tgt) (ha : B3 a) (hb : B3 b) (K1 : a = b → WW d y zf Q z h tgt ls st) (K2 : a ≠ b → WW d y zf Q z h pc2 ls st) : WW d y zf Q z h pc ls (vi b :: vi a :: st) := by
  intro X l p e R s m args below meth c H locs cells slots mc ms L F hR hq hl e1 e2 e3 e4
  obtain ⟨off, hd, rfl, ht⟩ := hd
  exact lv_icmp_eq F.1.1 F.1.2.1 (x := ii a) (y := ii b) hd ht (fun q => K1 (ii_inj ha hb q) X l p e R s m args below meth c H locs cells slots mc ms L F hR hq hl e1 e2 e3 e4) (fun q => K2 (fun e => q (congrArg ii e)) X l p e R s m args below meth c H locs cells slots mc ms L F hR hq hl e1 e2 e3 e4)
theorem x_if_eq {a : Int} (hd : DecJ y pc (.ifCond .eq) pc2 tgt) (ha : B3 a) (K1 : a = 0 → WW d y zf Q z h tgt ls st) (K2 : a ≠ 0 → WW d y zf Q z h pc2 ls st) : WW d y zf Q z h pc ls (vi a :: st) := by
  intro X l p e R s m args below meth c H locs cells slots mc ms L F hR hq hl e1 e2 e3 e4
  obtain ⟨off, hd, rfl, ht⟩ := hd
  exact lv_if_eq F.1.1 F.1.2.1 (x := ii a) hd ht (fun q => K1 (ii_inj ha (show B3 0 from ⟨by omega, by omega⟩) q) X l p e R s m args below meth c H locs cells slots mc ms L F hR hq hl e1 e2 e3 e4) (fun q => K2 (fun e => q (congrArg ii e)) X l p e R s m args below meth c H locs cells slots mc ms L F hR hq hl e1 e2 e3 e4)
theorem x_icmp_ne {a b : Int} (hd : DecJ y pc (.if_icmp .ne) pc2 tgt) (ha : B3 a) (hb : B3 b) (K1 : a ≠ b → WW d y zf Q z h tgt ls st) (K2 : a = b → WW d y zf Q z h pc2 ls st) : WW d y zf Q z h pc ls (vi b :: vi a :: st) := by
  intro X l p e R s m args below meth c H locs cells slots mc ms L F hR hq hl e1 e2 e3 e4
  obtain ⟨off, hd, rfl, ht⟩ := hd
  exact lv_icmp_ne F.1.1 F.1.2.1 (x := ii a) (y := ii b) hd ht (fun q => K1 (fun e => q (congrArg ii e)) X l p e R s m args below meth c H locs cells slots mc ms L F hR hq hl e1 e2 e3 e4) (fun q => K2 (ii_inj ha hb q) X l p e R s m args below meth c H locs cells slots mc ms L F hR hq hl e1 e2 e3 e4)
theorem x_if_ne {a : Int} (hd : DecJ y pc (.ifCond .ne) pc2 tgt) (ha : B3 a) (K1 : a ≠ 0 → WW d y zf Q z h tgt ls st) (K2 : a = 0 → WW d y zf Q z h pc2 ls st) : WW d y zf Q z h pc ls (vi a :: st) := by
  intro X l p e R s m args below meth c H locs cells slots mc ms L F hR hq hl e1 e2 e3 e4
  obtain ⟨off, hd, rfl, ht⟩ := hd
  exact lv_if_ne F.1.1 F.1.2.1 (x := ii a) hd ht (fun q => K1 (fun e => q (congrArg ii e)) X l p e R s m args below meth c H locs cells slots mc ms L F hR hq hl e1 e2 e3 e4) (fun q => K2 (ii_inj ha (show B3 0 from ⟨by omega, by omega⟩) q) X l p e R s m args below meth c H locs cells slots mc ms L F hR hq hl e1 e2 e3 e4)
theorem x_icmp_lt {a b : Int} (hd : DecJ y pc (.if_icmp .lt) pc2 tgt) (ha : B3 a) (hb : B3 b) (K1 : a < b → WW d y zf Q z h tgt ls st) (K2 : b ≤ a → WW d y zf Q z h pc2 ls st) : WW d y zf Q z h pc ls (vi b :: vi a :: st) := by
  intro X l p e R s m args below meth c H locs cells slots mc ms L F hR hq hl e1 e2 e3 e4
  obtain ⟨off, hd, rfl, ht⟩ := hd
  exact lv_icmp_lt F.1.1 F.1.2.1 (x := ii a) (y := ii b) hd ht (fun q => K1 ((ii_lt ha hb).mp q) X l p e R s m args below meth c H locs cells slots mc ms L F hR hq hl e1 e2 e3 e4) (fun q => K2 (Int.not_lt.mp (fun e => q ((ii_lt ha hb).mpr e))) X l p e R s m args below meth c H locs cells slots mc ms L F hR hq hl e1 e2 e3 e4)
theorem x_if_lt {a : Int} (hd : DecJ y pc (.ifCond .lt) pc2 tgt) (ha : B3 a) (K1 : a < 0 → WW d y zf Q z h tgt ls st) (K2 : 0 ≤ a → WW d y zf Q z h pc2 ls st) : WW d y zf Q z h pc ls (vi a :: st) := by
  intro X l p e R s m args below meth c H locs cells slots mc ms L F hR hq hl e1 e2 e3 e4
  obtain ⟨off, hd, rfl, ht⟩ := hd
  exact lv_if_lt F.1.1 F.1.2.1 (x := ii a) hd ht (fun q => K1 ((ii_lt ha (show B3 0 from ⟨by omega, by omega⟩)).mp q) X l p e R s m args below meth c H locs cells slots mc ms L F hR hq hl e1 e2 e3 e4) (fun q => K2 (Int.not_lt.mp (fun e => q ((ii_lt ha (show B3 0 from ⟨by omega, by omega⟩)).mpr e))) X l p e R s m args below meth c H locs cells slots mc ms L F hR hq hl e1 e2 e3 e4)
theorem x_icmp_ge {a b : Int} (hd : DecJ y pc (.if_icmp .ge) pc2 tgt) (ha : B3 a) (hb : B3 b) (K1 : b ≤ a → WW d y zf Q z h tgt ls st) (K2 : a < b → WW d y zf Q z h pc2 ls st) : WW d y zf Q z h pc ls (vi b :: vi a :: st) := by
  intro X l p e R s m args below meth c H locs cells slots mc ms L F hR hq hl e1 e2 e3 e4
  obtain ⟨off, hd, rfl, ht⟩ := hd
  exact lv_icmp_ge F.1.1 F.1.2.1 (x := ii a) (y := ii b) hd ht (fun q => K1 ((ii_le hb ha).mp q) X l p e R s m args below meth c H locs cells slots mc ms L F hR hq hl e1 e2 e3 e4) (fun q => K2 (Int.not_le.mp (fun e => q ((ii_le hb ha).mpr e))) X l p e R s m args below meth c H locs cells slots mc ms L F hR hq hl e1 e2 e3 e4)
theorem x_if_ge {a : Int} (hd : DecJ y pc (.ifCond .ge) pc2 tgt) (ha : B3 a) (K1 : 0 ≤ a → WW d y zf Q z h tgt ls st) (K2 : a < 0 → WW d y zf Q z h pc2 ls st) : WW d y zf Q z h pc ls (vi a :: st) := by
  intro X l p e R s m args below meth c H locs cells slots mc ms L F hR hq hl e1 e2 e3 e4
  obtain ⟨off, hd, rfl, ht⟩ := hd
  exact lv_if_ge F.1.1 F.1.2.1 (x := ii a) hd ht (fun q => K1 ((ii_le (show B3 0 from ⟨by omega, by omega⟩) ha).mp q) X l p e R s m args below meth c H locs cells slots mc ms L F hR hq hl e1 e2 e3 e4) (fun q => K2 (Int.not_le.mp (fun e => q ((ii_le (show B3 0 from ⟨by omega, by omega⟩) ha).mpr e))) X l p e R s m args below meth c H locs cells slots mc ms L F hR hq hl e1 e2 e3 e4)
theorem x_icmp_gt {a b : Int} (hd : DecJ y pc (.if_icmp .gt) pc2 tgt) (ha : B3 a) (hb : B3 b) (K1 : b < a → WW d y zf Q z h tgt ls st) (K2 : a ≤ b → WW d y zf Q z h pc2 ls st) : WW d y zf Q z h pc ls (vi b :: vi a :: st) := by
  intro X l p e R s m args below meth c H locs cells slots mc ms L F hR hq hl e1 e2 e3 e4
  obtain ⟨off, hd, rfl, ht⟩ := hd
  exact lv_icmp_gt F.1.1 F.1.2.1 (x := ii a) (y := ii b) hd ht (fun q => K1 ((ii_lt hb ha).mp q) X l p e R s m args below meth c H locs cells slots mc ms L F hR hq hl e1 e2 e3 e4) (fun q => K2 (Int.not_lt.mp (fun e => q ((ii_lt hb ha).mpr e))) X l p e R s m args below meth c H locs cells slots mc ms L F hR hq hl e1 e2 e3 e4)
theorem x_if_gt {a : Int} (hd : DecJ y pc (.ifCond .gt) pc2 tgt) (ha : B3 a) (K1 : 0 < a → WW d y zf Q z h tgt ls st) (K2 : a ≤ 0 → WW d y zf Q z h pc2 ls st) : WW d y zf Q z h pc ls (vi a :: st) := by
  intro X l p e R s m args below meth c H locs cells slots mc ms L F hR hq hl e1 e2 e3 e4
  obtain ⟨off, hd, rfl, ht⟩ := hd
  exact lv_if_gt F.1.1 F.1.2.1 (x := ii a) hd ht (fun q => K1 ((ii_lt (show B3 0 from ⟨by omega, by omega⟩) ha).mp q) X l p e R s m args below meth c H locs cells slots mc ms L F hR hq hl e1 e2 e3 e4) (fun q => K2 (Int.not_lt.mp (fun e => q ((ii_lt (show B3 0 from ⟨by omega, by omega⟩) ha).mpr e))) X l p e R s m args below meth c H locs cells slots mc ms L F hR hq hl e1 e2 e3 e4)
theorem x_icmp_le {a b : Int} (hd : DecJ y pc (.if_icmp .le) pc2 tgt) (ha : B3 a) (hb : B3 b) (K1 : a ≤ b → WW d y zf Q z h tgt ls st) (K2 : b < a → WW d y zf Q z h pc2 ls st) : WW d y zf Q z h pc ls (vi b :: vi a :: st) := by
  intro X l p e R s m args below meth c H locs cells slots mc ms L F hR hq hl e1 e2 e3 e4
  obtain ⟨off, hd, rfl, ht⟩ := hd
  exact lv_icmp_le F.1.1 F.1.2.1 (x := ii a) (y := ii b) hd ht (fun q => K1 ((ii_le ha hb).mp q) X l p e R s m args below meth c H locs cells slots mc ms L F hR hq hl e1 e2 e3 e4) (fun q => K2 (Int.not_le.mp (fun e => q ((ii_le ha hb).mpr e))) X l p e R s m args below meth c H locs cells slots mc ms L F hR hq hl e1 e2 e3 e4)
theorem x_if_le {a : Int} (hd : DecJ y pc (.ifCond .le) pc2 tgt) (ha : B3 a) (K1 : a ≤ 0 → WW d y zf Q z h tgt ls st) (K2 : 0 < a → WW d y zf Q z h pc2 ls st) : WW d y zf Q z h pc ls (vi a :: st) := by
  intro X l p e R s m args below meth c H locs cells slots mc ms L F hR hq hl e1 e2 e3 e4
  obtain ⟨off, hd, rfl, ht⟩ := hd
  exact lv_if_le F.1.1 F.1.2.1 (x := ii a) hd ht (fun q => K1 ((ii_le ha (show B3 0 from ⟨by omega, by omega⟩)).mp q) X l p e R s m args below meth c H locs cells slots mc ms L F hR hq hl e1 e2 e3 e4) (fun q => K2 (Int.not_le.mp (fun e => q ((ii_le ha (show B3 0 from ⟨by omega, by omega⟩)).mpr e))) X l p e R s m args below meth c H locs cells slots mc ms L F hR hq hl e1 e2 e3 e4)
def bi (c : Prop) [Decidable c] : Int := if c then 1 else 0
theorem bi_B3 (c : Prop) [Decidable c] : B3 (bi c) := by unfold bi; split <;> exact ⟨by omega, by omega⟩
theorem bi_0 {c : Prop} [Decidable c] (hh : bi c = 0) : ¬ c := fun hc => by rw [bi, if_pos hc] at hh; omega
theorem bi_1 {c : Prop} [Decidable c] (hh : bi c ≠ 0) : c := by by_cases hc : c; exact hc; rw [bi, if_neg hc] at hh; omega
theorem bi_t {c : Prop} [Decidable c] (hc : c) : bi c = 1 := if_pos hc
theorem bi_f {c : Prop} [Decidable c] (hc : ¬ c) : bi c = 0 := if_neg hc
theorem x_if_eqb {cc : Prop} [Decidable cc] (hd : DecJ y pc (.ifCond .eq) pc2 tgt) (K1 : ¬ cc → WW d y zf Q z h tgt ls st) (K2 : cc → WW d y zf Q z h pc2 ls st) : WW d y zf Q z h pc ls (vi (bi cc) :: st) := x_if_eq hd (bi_B3 cc) (fun q => K1 (bi_0 q)) (fun q => K2 (bi_1 q))
theorem x_if_neb {cc : Prop} [Decidable cc] (hd : DecJ y pc (.ifCond .ne) pc2 tgt) (K1 : cc → WW d y zf Q z h tgt ls st) (K2 : ¬ cc → WW d y zf Q z h pc2 ls st) : WW d y zf Q z h pc ls (vi (bi cc) :: st) := x_if_ne hd (bi_B3 cc) (fun q => K1 (bi_1 q)) (fun q => K2 (bi_0 q))
theorem x_goto (hd : DecJ y pc .goto pc2 tgt) (K : WW d y zf Q z h tgt ls st) : WW d y zf Q z h pc ls st := by
  intro X l p e R s m args below meth c H locs cells slots mc ms L F hR hq hl e1 e2 e3 e4
  obtain ⟨off, hd, -, ht⟩ := hd
  exact lv_goto F.1.1 F.1.2.1 hd ht (K X l p e R s m args below meth c H locs cells slots mc ms L F hR hq hl e1 e2 e3 e4)
theorem x_tswOut {dflt lo hi : Int} {offs : Array Int} {len : Nat} {a : Int} (hd : Dec y pc (.tableswitch dflt lo hi offs) len pc2) (ha : B3 a) (hh : a < lo ∨ hi < a) (ht : (pc : Int) + dflt = (tgt : Int)) (K : WW d y zf Q z h tgt ls st) : WW d y zf Q z h pc ls (vi a :: st) := by
  intro X l p e R s m args below meth c H locs cells slots mc ms L F hR hq hl e1 e2 e3 e4
  exact lv_tableOut F.1.1 F.1.2.1 (x := ii a) hd.1 (by rw [toInt_ii ha]; exact hh) ht (K X l p e R s m args below meth c H locs cells slots mc ms L F hR hq hl e1 e2 e3 e4)
theorem x_tswIn {dflt lo hi : Int} {offs : Array Int} {len : Nat} {a off : Int} (hd : Dec y pc (.tableswitch dflt lo hi offs) len pc2) (ha : B3 a) (h1 : lo ≤ a) (h2 : a ≤ hi) (ho : offs[(a - lo).toNat]? = some off) (ht : (pc : Int) + off = (tgt : Int)) (K : WW d y zf Q z h tgt ls st) : WW d y zf Q z h pc ls (vi a :: st) := by
  intro X l p e R s m args below meth c H locs cells slots mc ms L F hR hq hl e1 e2 e3 e4
  exact lv_tableIn F.1.1 F.1.2.1 (x := ii a) hd.1 (by rw [toInt_ii ha]; omega) (by rw [toInt_ii ha]; omega) (by rw [toInt_ii ha]; exact ho) ht (K X l p e R s m args below meth c H locs cells slots mc ms L F hR hq hl e1 e2 e3 e4)
theorem x_lsw {dflt : Int} {ps : Array (Int × Int)} {len : Nat} {a off : Int} (hd : Dec y pc (.lookupswitch dflt ps) len pc2) (ha : B3 a) (hp : (ps.toList.zip (ps.toList.drop 1)).all (fun (a, next) => a.1 < next.1) = true) (ho : Op.lookupswitch.offset ps.toList dflt a = off) (ht : (pc : Int) + off = (tgt : Int)) (K : WW d y zf Q z h tgt ls st) : WW d y zf Q z h pc ls (vi a :: st) := by
  intro X l p e R s m args below meth c H locs cells slots mc ms L F hR hq hl e1 e2 e3 e4
  exact lv_lookup F.1.1 F.1.2.1 (x := ii a) hd.1 hp (by rw [toInt_ii ha]; exact ho) ht (K X l p e R s m args below meth c H locs cells slots mc ms L F hR hq hl e1 e2 e3 e4)
theorem WW.sub {ls' : List (Nat × Value)} (K : WW d y zf Q z h pc ls' st) (hh : ls'.map (fun q => lg ls q.1) = ls'.map (fun q => some q.2)) : WW d y zf Q z h pc ls st := by
  intro X l p e R s m args below meth c H locs cells slots mc ms L F hR hq hl e1 e2 e3 e4
  exact K X l p e R s m args below meth c H locs cells slots mc ms L F hR hq (lh_sub hl hh) e1 e2 e3 e4
/-! returns -/
theorem x_ireturn {v : Int} {ty : FieldType} (hd : Dec y pc .ireturn 1 pc2) (hr : y.2.2.2 = some ty) (hn : narrow ty (vi v) = vi v) (hz : z = zf) (hQ : Q (some (vi v)) h) : WW d y zf Q z h pc ls [vi v] := by
  intro X l p e R s m args below meth c H locs cells slots mc ms L F hR hq hl e1 e2 e3 e4
  subst hz
  obtain rfl : cells = mc := by omega
  obtain rfl : slots = ms := by omega
  have hlocks : meth.locks = false := F.2.2.1
  exact W.zret (v := ii v) F.1.1 F.1.2.1 (F.2.1.trans hr) hn (fun t ht hW => ⟨some (vi v), h, rfl, hQ, by rw [ht]; exact hR⟩) hq hd.1
theorem x_return (hd : Dec y pc .return_ 1 pc2) (hr : y.2.2.2 = none) (hz : z = zf) (hQ : Q none h) : WW d y zf Q z h pc ls [] := by
  intro X l p e R s m args below meth c H locs cells slots mc ms L F hR hq hl e1 e2 e3 e4
  subst hz
  obtain rfl : cells = mc := by omega
  obtain rfl : slots = ms := by omega
  have hlocks : meth.locks = false := F.2.2.1
  exact W.vret F.1.1 F.1.2.1 (F.2.1.trans hr) (fun t ht hW => ⟨none, h, rfl, hQ, by rw [ht]; exact hR⟩) hq hd.1
end XR
end
section
theorem uwAll {ci : Nat} {r : vw_C} (hc : cls[ci]? = some r) : ∀ w ∈ u_ws r.1 r.2.1 r.2.2, w ∈ WS := by
  match ci, hc with
  | 0, hc => cases hc; exact uw0
  | 1, hc => cases hc; exact uw1
  | 2, hc => cases hc; exact uw2
  | 3, hc => cases hc; exact uw3
  | 4, hc => cases hc; exact uw4
  | 5, hc => cases hc; exact uw5
  | 6, hc => cases hc; exact uw6
  | n + 7, hc => simp [cls] at hc
theorem tyAll {ci : Nat} {r : vw_C} (hc : cls[ci]? = some r) : ∃ ty0 : Nat → FieldType, (∀ k, k < r.2.2 → parseFieldDescriptor (r.2.1 k).2.2.1 = some (ty0 k)) ∧ ∀ a, a < r.2.2 → ∀ b, b < r.2.2 → a ≠ b → (r.2.1 a).2.1 ≠ (r.2.1 b).2.1 := by
  match ci, hc with
  | 0, hc => cases hc; exact ⟨tyX0, tyX0_ok, nmX0⟩
  | 1, hc => cases hc; exact ⟨tyX1, tyX1_ok, nmX1⟩
  | 2, hc => cases hc; exact ⟨tyX2, tyX2_ok, nmX2⟩
  | 3, hc => cases hc; exact ⟨tyX3, tyX3_ok, nmX3⟩
  | 4, hc => cases hc; exact ⟨tyX4, tyX4_ok, nmX4⟩
  | 5, hc => cases hc; exact ⟨tyX5, tyX5_ok, nmX5⟩
  | 6, hc => cases hc; exact ⟨tyX6, tyX6_ok, nmX6⟩
  | n + 7, hc => simp [cls] at hc
theorem wmax : Cond.code Lib.Math.max.name Lib.Math.max.code 2 (some .int) ∈ WS := wm 446 (by decide +kernel) (by decide +kernel)
theorem wmin : Cond.code Lib.Math.min.name Lib.Math.min.code 2 (some .int) ∈ WS := wm 284 (by decide +kernel) (by decide +kernel)
theorem wmath : Cond.initialized "java/lang/Math" ∈ WS := wm 11 (by decide +kernel) (by decide +kernel)
section XH
variable {d : Nat} {y : Mt} {zf : Nat × Nat} {Q : Option Value → Hp → Prop} {z : Nat × Nat} {h : Hp} {pc pc2 tgt : Nat} {ls : List (Nat × Value)} {st : List Value}
theorem hset_eq (h : Hp) (o : Nat) (c : Ce) : hset h o c o = some c := if_pos rfl
theorem hset_ne (h : Hp) {o q : Nat} (c : Ce) (hq : q ≠ o) : hset h o c q = h q := if_neg hq
theorem x_getfield {idx ci k o : Nat} {fs : List Value} {v : Value} (hd : Dec y pc (.getfield idx) 3 pc2) (hf : FL y.1.cls idx ci k) (ho : h o = some (ob ci fs)) (hv : fs[k]? = some v) (K : WW d y zf Q z h pc2 ls (v :: st)) : WW d y zf Q z h pc ls (.ref o :: st) := by
  intro X l p e R s m args below meth c H locs cells slots mc ms L F hR hq hl e1 e2 e3 e4
  obtain ⟨hd, rfl⟩ := hd
  obtain ⟨r, hc, hk, hw⟩ := hf
  exact va_get (ws := [(ad X o, rl X (ob ci fs))]) (D := X.1.1) (cl := cls) (tys := tysX X) F.1.1 F.1.2.1 F.1.2.2.2.2 (uwAll hc) F.1.2.2.2.1 F.2.2.2.2.1.1 (va_P1 (hR.at ho)) 0 rfl (C := r.1) (T := r.2.1) (N := r.2.2) hc k hk (F.1.2.2.2.2 _ hw) (fun _ h9 => h9) (v := vr X v) (by rw [List.getElem?_map, hv]; rfl) hd (K X l p e R s m args below meth c H locs cells slots mc ms L F hR hq hl e1 e2 e3 e4)
/-- a store into a field, its value of the field's type -/
theorem x_put {idx ci k o : Nat} {fs : List Value} {v : Value} (ty : FieldType) (hd : Dec y pc (.putfield idx) 3 pc2) (hf : FL y.1.cls idx ci k) (ho : h o = some (ob ci fs)) (hx : cls[ci]?.map (fun r => ((r.2.1 k).2.2.2, parseFieldDescriptor (r.2.1 k).2.2.1)) = some (false, some ty)) (hn : ∀ X : Cx, narrow ty (vr X v) = vr X v) (hfit : ∀ X : Cx, fits ty (vr X v) = true) (hl9 : Nat.ble (k + 1) fs.length = true)
    (K : ∀ h1 : Hp, h1 o = some (ob ci (fs.set k v)) → (∀ q, q ≠ o → h1 q = h q) → WW d y zf Q z h1 pc2 ls st) : WW d y zf Q z h pc ls (v :: .ref o :: st) := by
  intro X l p e R s m args below meth c H locs cells slots mc ms L F hR hq hl e1 e2 e3 e4
  obtain ⟨hd, rfl⟩ := hd
  obtain ⟨r, hc, hk, hw⟩ := hf
  rw [hc] at hx
  have hx1 : (r.2.1 k).2.2.2 = false := congrArg Prod.fst (Option.some.inj hx)
  have hx2 : parseFieldDescriptor (r.2.1 k).2.2.1 = some ty := congrArg Prod.snd (Option.some.inj hx)
  obtain ⟨ty0, t1, t2⟩ := tyAll hc
  have hts := F.1.2.2.2.2
  have hK := F.2.2.2.2.1.1
  have hap := va_apart (own := y.1.cls) hts (uwAll hc) ty0 t1 t2 hK (C := r.1) (T := r.2.1) (N := r.2.2) hc
  obtain ⟨r', h1, cell, q1, q2, q3, q4⟩ := hR.at ho
  have hr : r' = r := Option.some.inj (h1.symm.trans hc)
  subst hr
  obtain ⟨hS, hfc, kC, hkC, hkind⟩ := hK.1 ci _ hc
  obtain ⟨cf, kf, fi, f, hi, hsl⟩ := hS k hk
  have hlay := hts _ (uwAll hc _ (u_in_lay hk))
  unfold u_lay at hlay
  rw [if_neg (by rw [hx1]; decide)] at hlay
  have hst := (u_facts hfc hkC (u_lays hts (uwAll hc) hk) hi).1
  have h6 := u_store hfc hkC hkind hlay hi hx2 (hn X) (hfit X)
  refine W.putK F.1.1 F.1.2.1 (f := f) ⟨F.1.2.2.2.1, hts _ hw, ⟨_, _, _, hi⟩, hst⟩ (by rw [q2]; exact h6) q1 q3 (by rw [hsl]; exact k2_hasslot (q4 k hk)) rfl rfl hd fun H' e1' e2' e3' => ?_
  rw [hsl] at e1' ⊢
  have hat : va_at X.1.1 cls (ad X o, rl X (ob ci (fs.set k v))) H' := by
    refine ⟨r', hc, t_OB.to (V := updV (vp_V (fs.map (vr X))) k (vr X v)) ⟨_, e1', q2, q3, t_set q4 hap hk _⟩ (fun j _ => ?_)⟩
    rw [vp_updV_set (by rw [List.length_map]; exact Nat.le_of_ble_eq_true hl9) (vr X v) j, ← List.map_set]
  refine K (hset h o (ob ci (fs.set k v))) (hset_eq _ _ _) (fun q hq => hset_ne _ _ hq) X l p e R s m args below meth c H' _ cells slots mc ms L F (hR.set ho hat e3' e2') (fun q hq' => ?_) hl e1 e2 e3 e4
  rcases List.mem_append.mp hq' with h9 | h9
  · exact hq q h9
  · rw [List.mem_singleton.mp h9]; exact hR.base ho
theorem x_putI {idx ci k o : Nat} {fs : List Value} {a : Int} (hd : Dec y pc (.putfield idx) 3 pc2) (hf : FL y.1.cls idx ci k) (ho : h o = some (ob ci fs)) (hx : cls[ci]?.map (fun r => ((r.2.1 k).2.2.2, parseFieldDescriptor (r.2.1 k).2.2.1)) = some (false, some .int)) (hl9 : Nat.ble (k + 1) fs.length = true)
    (K : ∀ h1 : Hp, h1 o = some (ob ci (fs.set k (vi a))) → (∀ q, q ≠ o → h1 q = h q) → WW d y zf Q z h1 pc2 ls st) : WW d y zf Q z h pc ls (vi a :: .ref o :: st) := x_put .int hd hf ho hx (fun _ => rfl) (fun _ => rfl) hl9 K
theorem x_putR {idx ci k o o2 : Nat} {fs : List Value} (C : String) (hd : Dec y pc (.putfield idx) 3 pc2) (hf : FL y.1.cls idx ci k) (ho : h o = some (ob ci fs)) (hx : cls[ci]?.map (fun r => ((r.2.1 k).2.2.2, parseFieldDescriptor (r.2.1 k).2.2.1)) = some (false, some (.object C))) (hl9 : Nat.ble (k + 1) fs.length = true)
    (K : ∀ h1 : Hp, h1 o = some (ob ci (fs.set k (.ref o2))) → (∀ q, q ≠ o → h1 q = h q) → WW d y zf Q z h1 pc2 ls st) : WW d y zf Q z h pc ls (.ref o2 :: .ref o :: st) := x_put (.object C) hd hf ho hx (fun _ => rfl) (fun _ => rfl) hl9 K
/-! arrays of whole numbers -/
theorem ia_read {X : Cx} {z : Nat × Nat} {h : Hp} {H : Heap} (hR : Rp X z h H) {o t n : Nat} {Fn : Int → Int} (ho : h o = some (ia t n Fn)) : H[ad X o]? = some (arrV (X.1.2.1 t) n (fun j => .int (ii (if 0 ≤ (j : Int) ∧ (j : Int) < (n : Int) then Fn j else 0)))) := by
  have := hR.at ho
  exact this
theorem ia_val {n : Nat} {Fn : Int → Int} {j : Int} (h0 : 0 ≤ j) (h1 : j < n) (hb : B3 j) : (if 0 ≤ (((ii j).toNatClampNeg : Nat) : Int) ∧ (((ii j).toNatClampNeg : Nat) : Int) < (n : Int) then Fn ((ii j).toNatClampNeg : Nat) else 0) = Fn j := by
  rw [ii_clamp hb, Int.toNat_of_nonneg h0, if_pos ⟨h0, h1⟩]
theorem x_iaload {o n : Nat} {Fn : Int → Int} {j : Int} (hd : Dec y pc .iaload 1 pc2) (ho : h o = some (ia 0 n Fn)) (h0 : 0 ≤ j) (h1 : j < n) (hn : Nat.ble n 100000 = true) (K : WW d y zf Q z h pc2 ls (vi (Fn j) :: st)) : WW d y zf Q z h pc ls (vi j :: .ref o :: st) := by
  intro X l p e R s m args below meth c H locs cells slots mc ms L F hR hq hl e1 e2 e3 e4
  obtain ⟨hd, rfl⟩ := hd
  have hn' := Nat.le_of_ble_eq_true hn
  have hb : B3 j := ⟨by omega, by omega⟩
  have hlt : (ii j).toNatClampNeg < n := by rw [ii_clamp hb]; omega
  refine W.iald (j := ii j) (v := .int (ii (Fn j))) F.1.1 F.1.2.1 (ia_read hR ho) ((F.2.2.2.2.1.1.2 0 (X.1.2.1 0, .int) rfl).1 _ _) (fun q => by cases q) (by rw [arrV_size]; exact vp_ii h0 h1 (by omega)) ?_ rfl rfl hd (K X l p e R s m args below meth c H locs cells slots mc ms L F hR hq hl e1 e2 e3 e4)
  rw [arrV_read _ _ hlt, ia_val h0 h1 hb]
theorem x_baload {o n : Nat} {Fn : Int → Int} {j : Int} (hd : Dec y pc .baload 1 pc2) (ho : h o = some (ia 1 n Fn)) (h0 : 0 ≤ j) (h1 : j < n) (hn : Nat.ble n 100000 = true) (K : WW d y zf Q z h pc2 ls (vi (Fn j) :: st)) : WW d y zf Q z h pc ls (vi j :: .ref o :: st) := by
  intro X l p e R s m args below meth c H locs cells slots mc ms L F hR hq hl e1 e2 e3 e4
  obtain ⟨hd, rfl⟩ := hd
  have hn' := Nat.le_of_ble_eq_true hn
  have hb : B3 j := ⟨by omega, by omega⟩
  have hlt : (ii j).toNatClampNeg < n := by rw [ii_clamp hb]; omega
  refine W.bald (j := ii j) (v := .int (ii (Fn j))) F.1.1 F.1.2.1 (ia_read hR ho) ((F.2.2.2.2.1.1.2 1 (X.1.2.1 1, .byte) rfl).1 _ _) (fun q => by cases q) (by rw [arrV_size]; exact vp_ii h0 h1 (by omega)) ?_ rfl rfl hd (K X l p e R s m args below meth c H locs cells slots mc ms L F hR hq hl e1 e2 e3 e4)
  rw [arrV_read _ _ hlt, ia_val h0 h1 hb]
theorem ia_wrote {X : Cx} {t n : Nat} {Fn : Int → Int} {j v : Int} (h0 : 0 ≤ j) (h1 : j < n) (hb : B3 j) : (arrV (X.1.2.1 t) n (fun j => .int (ii (if 0 ≤ (j : Int) ∧ (j : Int) < (n : Int) then Fn j else 0)))).setSlot (ii j).toNatClampNeg (.int (ii v)) = arrV (X.1.2.1 t) n (fun q => .int (ii (if 0 ≤ (q : Int) ∧ (q : Int) < (n : Int) then ups Fn j v q else 0))) := by
  rw [arrV_store]
  congr 1
  funext q
  rw [ii_clamp hb]
  by_cases e : q = j.toNat
  · subst e
    have e2 : ((j.toNat : Nat) : Int) = j := Int.toNat_of_nonneg h0
    simp [updV, ups, e2, h0, h1]
  · have e2 : (q : Int) ≠ j := by omega
    simp [updV, ups, e, e2]
theorem x_iastore {o n : Nat} {Fn : Int → Int} {j v : Int} (hd : Dec y pc .iastore 1 pc2) (ho : h o = some (ia 0 n Fn)) (h0 : 0 ≤ j) (h1 : j < n) (hn : Nat.ble n 100000 = true)
    (K : ∀ h1 : Hp, h1 o = some (ia 0 n (ups Fn j v)) → (∀ q, q ≠ o → h1 q = h q) → WW d y zf Q z h1 pc2 ls st) : WW d y zf Q z h pc ls (vi v :: vi j :: .ref o :: st) := by
  intro X l p e R s m args below meth c H locs cells slots mc ms L F hR hq hl e1 e2 e3 e4
  obtain ⟨hd, rfl⟩ := hd
  have hn' := Nat.le_of_ble_eq_true hn
  have hb : B3 j := ⟨by omega, by omega⟩
  refine W.iast (j := ii j) (x := ii v) F.1.1 F.1.2.1 (ia_read hR ho) ((F.2.2.2.2.1.1.2 0 (X.1.2.1 0, .int) rfl).1 _ _) (fun q => by cases q) (by rw [arrV_size]; exact vp_ii h0 h1 (by omega)) rfl rfl hd fun H' e1' e2' e3' => ?_
  rw [ia_wrote h0 h1 hb] at e1'
  refine K (hset h o (ia 0 n (ups Fn j v))) (hset_eq _ _ _) (fun q hq => hset_ne _ _ hq) X l p e R s m args below meth c H' _ cells slots mc ms L F (hR.set ho e1' e3' e2') (fun q hq' => ?_) hl e1 e2 e3 e4
  rcases List.mem_append.mp hq' with h9 | h9
  · exact hq q h9
  · rw [List.mem_singleton.mp h9]; exact hR.base ho
theorem x_bastore {o n : Nat} {Fn : Int → Int} {j v : Int} (hd : Dec y pc .bastore 1 pc2) (ho : h o = some (ia 1 n Fn)) (h0 : 0 ≤ j) (h1 : j < n) (hn : Nat.ble n 100000 = true)
    (K : ∀ h1 : Hp, h1 o = some (ia 1 n (ups Fn j (iByte v))) → (∀ q, q ≠ o → h1 q = h q) → WW d y zf Q z h1 pc2 ls st) : WW d y zf Q z h pc ls (vi v :: vi j :: .ref o :: st) := by
  intro X l p e R s m args below meth c H locs cells slots mc ms L F hR hq hl e1 e2 e3 e4
  obtain ⟨hd, rfl⟩ := hd
  have hn' := Nat.le_of_ble_eq_true hn
  have hb : B3 j := ⟨by omega, by omega⟩
  refine W.bast (j := ii j) (x := ii v) F.1.1 F.1.2.1 (ia_read hR ho) ((F.2.2.2.2.1.1.2 1 (X.1.2.1 1, .byte) rfl).1 _ _) (fun q => by cases q) (by rw [arrV_size]; exact vp_ii h0 h1 (by omega)) rfl rfl hd fun H' e1' e2' e3' => ?_
  have ev : narrow .byte (.int (ii v)) = .int (ii (iByte v)) := congrArg Value.int (ii_toInt _).symm
  rw [ev, ia_wrote h0 h1 hb] at e1'
  refine K (hset h o (ia 1 n (ups Fn j (iByte v)))) (hset_eq _ _ _) (fun q hq => hset_ne _ _ hq) X l p e R s m args below meth c H' _ cells slots mc ms L F (hR.set ho e1' e3' e2') (fun q hq' => ?_) hl e1 e2 e3 e4
  rcases List.mem_append.mp hq' with h9 | h9
  · exact hq q h9
  · rw [List.mem_singleton.mp h9]; exact hR.base ho
theorem x_alen {o n : Nat} {Fn : Int → Int} (hd : Dec y pc .arraylength 1 pc2) (ho : h o = some (ia 0 n Fn)) (K : WW d y zf Q z h pc2 ls (vi n :: st)) : WW d y zf Q z h pc ls (.ref o :: st) := by
  intro X l p e R s m args below meth c H locs cells slots mc ms L F hR hq hl e1 e2 e3 e4
  obtain ⟨hd, rfl⟩ := hd
  exact va_alen (ws := [(ad X o, rl X (ia 0 n Fn))]) (D := X.1.1) (cl := cls) (tys := tysX X) F.1.1 F.1.2.1 F.2.2.2.2.1.1 (va_P1 (hR.at ho)) 0 0 (cA := X.1.2.1 0) rfl (ty := .int) rfl (v := ii n) rfl hd (K X l p e R s m args below meth c H locs cells slots mc ms L F hR hq hl e1 e2 e3 e4)
theorem x_alenB {o n : Nat} {Fn : Int → Int} (hd : Dec y pc .arraylength 1 pc2) (ho : h o = some (ia 1 n Fn)) (K : WW d y zf Q z h pc2 ls (vi n :: st)) : WW d y zf Q z h pc ls (.ref o :: st) := by
  intro X l p e R s m args below meth c H locs cells slots mc ms L F hR hq hl e1 e2 e3 e4
  obtain ⟨hd, rfl⟩ := hd
  exact va_alen (ws := [(ad X o, rl X (ia 1 n Fn))]) (D := X.1.1) (cl := cls) (tys := tysX X) F.1.1 F.1.2.1 F.2.2.2.2.1.1 (va_P1 (hR.at ho)) 0 1 (cA := X.1.2.1 1) rfl (ty := .byte) rfl (v := ii n) rfl hd (K X l p e R s m args below meth c H locs cells slots mc ms L F hR hq hl e1 e2 e3 e4)
/-! arrays of references -/
theorem ra_read {X : Cx} {z : Nat × Nat} {h : Hp} {H : Heap} (hR : Rp X z h H) {o t n : Nat} {G : Nat → Option Nat} (ho : h o = some (ra t n G)) : H[ad X o]? = some (arrV (X.1.2.2 t) n (fun j => va_rf ((G j).map (ad X)))) := by
  have := hR.at ho
  exact this
theorem x_aaload0 {o n q0 : Nat} {G : Nat → Option Nat} {j : Int} (hd : Dec y pc .aaload 1 pc2) (ho : h o = some (ra 0 n G)) (h0 : 0 ≤ j) (h1 : j < n) (hn : Nat.ble n 100000 = true) (hg : G j.toNat = some q0) (K : WW d y zf Q z h pc2 ls (.ref q0 :: st)) : WW d y zf Q z h pc ls (vi j :: .ref o :: st) := by
  intro X l p e R s m args below meth c H locs cells slots mc ms L F hR hq hl e1 e2 e3 e4
  obtain ⟨hd, rfl⟩ := hd
  have hn' := Nat.le_of_ble_eq_true hn
  have hb : B3 j := ⟨by omega, by omega⟩
  have hlt : (ii j).toNatClampNeg < n := by rw [ii_clamp hb]; omega
  refine W.aald (j := ii j) (v := .ref (ad X q0)) (ty := .object "WhileSaltMelts$Evening") F.1.1 F.1.2.1 (ra_read hR ho) ((F.2.2.2.2.1.1.2 2 (X.1.2.2 0, .object "WhileSaltMelts$Evening") rfl).1 _ _) rfl (fun q => by cases q) (by rw [arrV_size]; exact vp_ii h0 h1 (by omega)) ?_ rfl rfl hd (K X l p e R s m args below meth c H locs cells slots mc ms L F hR hq hl e1 e2 e3 e4)
  rw [arrV_read _ _ hlt, ii_clamp hb, hg]
  rfl
theorem x_aaload1 {o n q0 : Nat} {G : Nat → Option Nat} {j : Int} (hd : Dec y pc .aaload 1 pc2) (ho : h o = some (ra 1 n G)) (h0 : 0 ≤ j) (h1 : j < n) (hn : Nat.ble n 100000 = true) (hg : G j.toNat = some q0) (K : WW d y zf Q z h pc2 ls (.ref q0 :: st)) : WW d y zf Q z h pc ls (vi j :: .ref o :: st) := by
  intro X l p e R s m args below meth c H locs cells slots mc ms L F hR hq hl e1 e2 e3 e4
  obtain ⟨hd, rfl⟩ := hd
  have hn' := Nat.le_of_ble_eq_true hn
  have hb : B3 j := ⟨by omega, by omega⟩
  have hlt : (ii j).toNatClampNeg < n := by rw [ii_clamp hb]; omega
  refine W.aald (j := ii j) (v := .ref (ad X q0)) (ty := .array .int) F.1.1 F.1.2.1 (ra_read hR ho) ((F.2.2.2.2.1.1.2 3 (X.1.2.2 1, .array .int) rfl).1 _ _) rfl (fun q => by cases q) (by rw [arrV_size]; exact vp_ii h0 h1 (by omega)) ?_ rfl rfl hd (K X l p e R s m args below meth c H locs cells slots mc ms L F hR hq hl e1 e2 e3 e4)
  rw [arrV_read _ _ hlt, ii_clamp hb, hg]
  rfl
def upo (G : Nat → Option Nat) (j : Int) (v : Nat) : Nat → Option Nat := fun q => if q = j.toNat then some v else G q
theorem x_aastore {o n v : Nat} {vs : List Value} {G : Nat → Option Nat} {j : Int} (hd : Dec y pc .aastore 1 pc2) (ho : h o = some (ra 0 n G)) (hv : h v = some (ob 0 vs)) (h0 : 0 ≤ j) (h1 : j < n) (hn : Nat.ble n 100000 = true)
    (K : ∀ h1 : Hp, h1 o = some (ra 0 n (upo G j v)) → (∀ q, q ≠ o → h1 q = h q) → WW d y zf Q z h1 pc2 ls st) : WW d y zf Q z h pc ls (.ref v :: vi j :: .ref o :: st) := by
  intro X l p e R s m args below meth c H locs cells slots mc ms L F hR hq hl e1 e2 e3 e4
  obtain ⟨hd, rfl⟩ := hd
  have hn' := Nat.le_of_ble_eq_true hn
  have hb : B3 j := ⟨by omega, by omega⟩
  have hlt : (ii j).toNatClampNeg < n := by rw [ii_clamp hb]; omega
  have hin := vp_ii h0 h1 (show n ≤ 2147483647 by omega)
  have hK := F.2.2.2.2.1.1
  obtain ⟨r', hr', cellV, g1, g2, g3, -⟩ := hR.at hv
  have hcls := (hK.1 0 _ rfl).2
  obtain ⟨kA, comp, k1, k2, k3, -⟩ := (hK.2 2 (X.1.2.2 0, .object "WhileSaltMelts$Evening") rfl).2
  have hcomp : comp = X.1.1.1 0 := Option.some.inj (k3.symm.trans hcls.1)
  subst hcomp
  obtain ⟨kC, hkC, -⟩ := hcls.2
  refine W.aast (j := ii j) F.1.1 F.1.2.1 (ra_read hR ho) (fun q h => by cases h) (fun h => by cases h) k1 k2 rfl hkC ⟨fun q => hin (Or.inl q), by rw [arrV_size]; exact hlt⟩ g1 (fun q h => by rw [g3] at h; cases h) (by rw [g2]; exact hkC) (by rw [g2]; exact va_assign hcls) rfl rfl hd fun H' e1' e2' e3' => ?_
  have hat : va_at X.1.1 cls (ad X o, rl X (ra 0 n (upo G j v))) H' := by
    show H'[ad X o]? = some (arrV (X.1.2.2 0) n (fun q => va_rf ((upo G j v q).map (ad X))))
    rw [e1', arrV_store, ii_clamp hb]
    congr 2
    funext q
    by_cases e : q = j.toNat
    · subst e
      simp [updV, upo, va_rf]
    · simp [updV, upo, e]
  refine K (hset h o (ra 0 n (upo G j v))) (hset_eq _ _ _) (fun q hq => hset_ne _ _ hq) X l p e R s m args below meth c H' _ cells slots mc ms L F (hR.set ho hat e3' e2') (fun q hq' => ?_) hl e1 e2 e3 e4
  rcases List.mem_append.mp hq' with h9 | h9
  · exact hq q h9
  · rw [List.mem_singleton.mp h9]; exact hR.base ho
/-! calls -/
def pushR : Option Value → List Value → List Value
  | some v, r => v :: r
  | none, r => r
theorem cat_vr (X : Cx) (st : List Value) : ((st.map (vr X)).map fun v => v.category) = st.map fun v => v.category := by
  rw [List.map_map]
  exact List.map_congr_left (fun v _ => vr_cat X v)
theorem WW.call {rest : List Value} {z2 : Nat × Nat} {Q' : Option Value → Hp → Prop} (K : ∀ r h', Q' r h' → WW d y zf Q z2 h' (pc + 3) ls (pushR r rest)) (hz2 : z.1 ≤ zf.1 ∧ z.2 ≤ zf.2 → z2.1 ≤ zf.1 ∧ z2.2 ≤ zf.2) (hz : z.1 ≤ z2.1 ∧ z.2 ≤ z2.2)
    {X : Cx} {l : Launch} {p : Program} {e : Env} {R : Room} {s : State} {m : MethodId} {args : Array Value} {below : List Frame} {meth : Method} {c : Code} {H : Heap} {locs : List Loc} {cells slots mc ms : Nat} {L : Array Slot} {a : Array Value} {st0 : List Value}
    (F : Fx X d y p R s m args meth c mc ms) (hq : ∀ q ∈ locs, FX X q.base) (hl : lv_has L y.2.2.1 (lm X ls)) (e1 : cells + zf.1 = mc + z.1) (e2 : slots + zf.2 = ms + z.2) (e3 : z.1 ≤ zf.1) (e4 : z.2 ≤ zf.2)
    (hr : va_Run p l e R s m args below meth c H locs cells slots (z2.1 - z.1) (z2.2 - z.2) (F0 m pc L st0) (rest.map (vr X)) (QX X z2 Q' a) (FX X)) : W p l e R s m args below meth c H locs cells slots (MQ below (QX X zf Q) args s mc ms (FX X)) (F0 m pc L st0) := by
  intro T hT XX
  obtain ⟨v, s0, t, T', L', h0, X', hL, g1, g2, ⟨r, h', q1, q2, q3⟩, stp⟩ := hr T hT XX
  cases q1
  have h9 := hz2 ⟨e3, e4⟩
  have hst : (r.map (vr X)).toList ++ rest.map (vr X) = (pushR r rest).map (vr X) := by cases r <;> rfl
  have hW := K r h' q2 X l p e R s m args below meth c T'.heap (locs ++ L') (cells + (z2.1 - z.1)) (slots + (z2.2 - z.2)) mc ms L F (by rw [g1]; exact q3) (fun q hq' => (List.mem_append.mp hq').elim (hq q) (hL q)) hl (by omega) (by omega) h9.1 h9.2
  rw [← hst] at hW
  obtain ⟨t2, a1, b1⟩ := hW T' rfl X'
  exact ⟨t2, stp t2 a1, b1⟩
theorem room_ok {d d' : Nat} {y' : Mt} {R : Room} {z z2 : Nat × Nat} (hdd : d' + 1 ≤ d) (hml : Nat.ble y'.2.2.1 21 = true) (h1 : d ≤ R.frames) (h2 : 40 * d ≤ R.locals) : (rmX d' z z2).frames + 1 ≤ R.frames ∧ 8 + (y'.2.2.1 + 11) + (rmX d' z z2).locals ≤ R.locals := by
  have := Nat.le_of_ble_eq_true hml
  refine ⟨by show d' + 1 ≤ _; omega, by show 8 + (y'.2.2.1 + 11) + 40 * d' ≤ _; omega⟩
theorem x_invS {d' idx n : Nat} {y' : Mt} {as rest : List Value} {z2 : Nat × Nat} {Q' : Option Value → Hp → Prop} (hd : Dec y pc (.invokestatic idx) 3 pc2) (hk : LTS y.1.cls idx y') (hm : MI y' n) (hc : Ct d' y' as z z2 h Q') (hown : y'.1.cls = y.1.cls) (hn : as.length = n) (hdd : d' + 1 ≤ d) (hml : Nat.ble y'.2.2.1 21 = true) (hz2 : z.1 ≤ zf.1 ∧ z.2 ≤ zf.2 → z2.1 ≤ zf.1 ∧ z2.2 ≤ zf.2) (hst : st = as.reverse ++ rest) (hcat : Nat.ble ((rest.map fun v => v.category).sum) 8 = true)
    (K : ∀ r h', Q' r h' → WW d y zf Q z2 h' pc2 ls (pushR r rest)) : WW d y zf Q z h pc ls st := by
  intro X l p e R s m args below meth c H locs cells slots mc ms L F hR hq hl e1 e2 e3 e4
  obtain ⟨hd, rfl⟩ := hd
  have h9 := hz2 ⟨e3, e4⟩
  have hz := hc.1
  refine WW.call K hz2 hz F hq hl e1 e2 e3 e4 (va_runS (As := as.map (vr X)) (n := n) F.1 (hc.2 X l) (cwS n F.1.2.2.2.2 (fun w hw => ?_) rfl rfl rfl ⟨hown, hm.2.1, hm.2.2.1, hm.2.2.2⟩ (room_ok hdd hml F.2.2.2.2.2.1 F.2.2.2.2.2.2.1)) ⟨blindX X as z h, fun U hU hW => ⟨rfl, Kn.warm hW F.2.2.2.2.1, by rw [hU]; exact hR⟩⟩ rfl (by rw [List.length_map]; exact hn) hl.1 (by rw [hst, List.map_append, List.map_reverse]) (by rw [cat_vr]; show 2 * 0 + _ ≤ 8; have := Nat.le_of_ble_eq_true hcat; omega) hd ?_)
  · rcases List.mem_append.mp hw with hw | hw
    · simp only [List.mem_cons, List.not_mem_nil, or_false] at hw
      rcases hw with rfl | rfl | rfl
      · exact gw hk.1
      · exact gw hk.2
      · rw [← hown]; exact gw hm.1.2
    · exact gws hm.1.1 w hw
  · have := F.2.2.2.2.2.2.2.1
    have := F.2.2.2.2.2.2.2.2
    constructor <;> omega
theorem x_invS2 {d' idx n : Nat} {y' : Mt} {as rest : List Value} {z2 : Nat × Nat} {Q' : Option Value → Hp → Prop} (hd : Dec y pc (.invokestatic idx) 3 pc2) (hk : LTS y.1.cls idx y') (hm : MI y' n) (hc : Ct d' y' as z z2 h Q') (hn : as.length = n) (hdd : d' + 1 ≤ d) (hml : Nat.ble y'.2.2.1 21 = true) (hz2 : z.1 ≤ zf.1 ∧ z.2 ≤ zf.2 → z2.1 ≤ zf.1 ∧ z2.2 ≤ zf.2) (hst : st = as.reverse ++ rest) (hcat : Nat.ble ((rest.map fun v => v.category).sum) 8 = true)
    (K : ∀ r h', Q' r h' → WW d y zf Q z2 h' pc2 ls (pushR r rest)) : WW d y zf Q z h pc ls st := by
  intro X l p e R s m args below meth c H locs cells slots mc ms L F hR hq hl e1 e2 e3 e4
  obtain ⟨hd, rfl⟩ := hd
  have h9 := hz2 ⟨e3, e4⟩
  have hz := hc.1
  have hts := F.1.2.2.2.2
  refine WW.call K hz2 hz F hq hl e1 e2 e3 e4 (va_runS (As := as.map (vr X)) (n := n) F.1 (hc.2 X l) ⟨callB_of n hts (gws hm.1.1) rfl rfl rfl (hts _ hm.1.2) (hts _ hk.1) hm.2 (room_ok hdd hml F.2.2.2.2.2.1 F.2.2.2.2.2.2.1), hts _ hk.2⟩ ⟨blindX X as z h, fun U hU hW => ⟨rfl, Kn.warm hW F.2.2.2.2.1, by rw [hU]; exact hR⟩⟩ rfl (by rw [List.length_map]; exact hn) hl.1 (by rw [hst, List.map_append, List.map_reverse]) (by rw [cat_vr]; show 2 * 0 + _ ≤ 8; have := Nat.le_of_ble_eq_true hcat; omega) hd ?_)
  have := F.2.2.2.2.2.2.2.1
  have := F.2.2.2.2.2.2.2.2
  constructor <;> omega
theorem x_invSN {d' idx n : Nat} {y' : Mt} {as rest : List Value} {z2 : Nat × Nat} {Q' : Option Value → Hp → Prop} (hd : Dec y pc (.invokestatic idx) 3 pc2) (hk : LSN y.1.cls idx y') (hm : MI y' n) (hc : Ct d' y' as z z2 h Q') (hn : as.length = n) (hdd : d' + 1 ≤ d) (hml : Nat.ble y'.2.2.1 21 = true) (hz2 : z.1 ≤ zf.1 ∧ z.2 ≤ zf.2 → z2.1 ≤ zf.1 ∧ z2.2 ≤ zf.2) (hst : st = as.reverse ++ rest) (hcat : Nat.ble ((rest.map fun v => v.category).sum) 8 = true)
    (K : ∀ r h', Q' r h' → WW d y zf Q z2 h' pc2 ls (pushR r rest)) : WW d y zf Q z h pc ls st := by
  intro X l p e R s m args below meth c H locs cells slots mc ms L F hR hq hl e1 e2 e3 e4
  obtain ⟨hd, rfl⟩ := hd
  have h9 := hz2 ⟨e3, e4⟩
  have hz := hc.1
  have hts := F.1.2.2.2.2
  obtain ⟨⟨host, hh⟩, hs⟩ := hk
  refine WW.call K hz2 hz F hq hl e1 e2 e3 e4 (va_runSN (As := as.map (vr X)) (n := n) (host := host) F.1 (hc.2 X l) ⟨va_cnB n hts (gws hm.1.1) rfl rfl rfl (F.2.2.2.2.1.2.1 _ hh) (hts _ hm.1.2) hm.2 (room_ok hdd hml F.2.2.2.2.2.1 F.2.2.2.2.2.2.1), hts _ hs, trivial⟩ ⟨blindX X as z h, fun U hU hW => ⟨rfl, Kn.warm hW F.2.2.2.2.1, by rw [hU]; exact hR⟩⟩ rfl (by rw [List.length_map]; exact hn) hl.1 (by rw [hst, List.map_append, List.map_reverse]) (by rw [cat_vr]; show 2 * 0 + _ ≤ 8; have := Nat.le_of_ble_eq_true hcat; omega) hd ?_)
  have := F.2.2.2.2.2.2.2.1
  have := F.2.2.2.2.2.2.2.2
  constructor <;> omega
theorem x_recv {X : Cx} {H : Heap} {s : State} {o ci : Nat} {fs : List Value} {C : String} (hR : Rp X z h H) (hK : Kn X s) (ho : h o = some (ob ci fs)) (hC : (cls[ci]?).map (fun r => r.1) = some C) : ∃ cell : Cell, H[ad X o]? = some cell ∧ cell.vm.isStatics = false ∧ s.vm.findClass C = some cell.cls := by
  obtain ⟨r, hr⟩ : ∃ r, cls[ci]? = some r := by
    cases hx : cls[ci]? with
    | none => rw [hx] at hC; cases hC
    | some r => exact ⟨r, rfl⟩
  rw [hr] at hC
  have hC' : r.1 = C := Option.some.inj hC
  rw [← hC']
  exact va_recv (ws := [(ad X o, rl X (ob ci fs))]) hK.1 (va_P1 (hR.at ho)) hr (q0 := 0) rfl
theorem x_invV {d' idx n o ci : Nat} {fs : List Value} {y' : Mt} {as rest : List Value} {z2 : Nat × Nat} {Q' : Option Value → Hp → Prop} (hd : Dec y pc (.invokevirtual idx) 3 pc2) (hk : LV y.1.cls idx y') (hm : MI y' n) (hc : Ct d' y' (.ref o :: as) z z2 h Q') (ho : h o = some (ob ci fs)) (hC : (cls[ci]?).map (fun r => r.1) = some y'.1.cls) (hn : as.length = n) (hdd : d' + 1 ≤ d) (hml : Nat.ble y'.2.2.1 21 = true) (hz2 : z.1 ≤ zf.1 ∧ z.2 ≤ zf.2 → z2.1 ≤ zf.1 ∧ z2.2 ≤ zf.2) (hst : st = as.reverse ++ .ref o :: rest) (hcat : Nat.ble ((rest.map fun v => v.category).sum) 8 = true)
    (K : ∀ r h', Q' r h' → WW d y zf Q z2 h' pc2 ls (pushR r rest)) : WW d y zf Q z h pc ls st := by
  intro X l p e R s m args below meth c H locs cells slots mc ms L F hR hq hl e1 e2 e3 e4
  obtain ⟨hd, rfl⟩ := hd
  have h9 := hz2 ⟨e3, e4⟩
  have hz := hc.1
  have hts := F.1.2.2.2.2
  refine WW.call K hz2 hz F hq hl e1 e2 e3 e4 (va_runV (As := as.map (vr X)) (n := n) (C := y'.1.cls) F.1 (hc.2 X l) ⟨callB_of n hts (gws hm.1.1) rfl rfl rfl (hts _ hm.1.2) (hts _ hk.1) hm.2 (room_ok hdd hml F.2.2.2.2.2.1 F.2.2.2.2.2.2.1), hts _ hk.2.1, hts _ hk.2.2⟩ ⟨blindX X (.ref o :: as) z h, x_recv hR F.2.2.2.2.1 ho hC, fun U hU hW => ⟨rfl, Kn.warm hW F.2.2.2.2.1, by rw [hU]; exact hR⟩⟩ rfl (by rw [List.length_map]; exact hn) hl.1 (by rw [hst, List.map_append, List.map_reverse]; rfl) (by rw [cat_vr]; show 2 * 0 + _ ≤ 8; have := Nat.le_of_ble_eq_true hcat; omega) hd ?_)
  have := F.2.2.2.2.2.2.2.1
  have := F.2.2.2.2.2.2.2.2
  constructor <;> omega
theorem x_max {idx : Nat} {a b : Int} (hd : Dec y pc (.invokestatic idx) 3 pc2) (hk : LTS y.1.cls idx m_J9_max_7cf53) (ha : B3 a) (hb : B3 b) (hdd : 1 ≤ d) (hcat : Nat.ble ((st.map fun v => v.category).sum) 8 = true) (K : WW d y zf Q z h pc2 ls (vi (if a < b then b else a) :: st)) : WW d y zf Q z h pc ls (vi b :: vi a :: st) := by
  intro X l p e R s m args below meth c H locs cells slots mc ms L F hR hq hl e1 e2 e3 e4
  obtain ⟨hd, rfl⟩ := hd
  have hts := F.1.2.2.2.2
  have r1 := F.2.2.2.2.2.1
  have r2 := F.2.2.2.2.2.2.1
  have r3 := F.2.2.2.2.2.2.2.1
  have r4 := F.2.2.2.2.2.2.2.2
  refine va_mmax F.1.1 F.1.2.1 (F.1.2.2.1.trans hl.1.symm) F.1.2.2.2.1 (hts _ hk.1) (hts _ hk.2) (hts _ wmath) (hts _ wmax) (by omega) (by rw [cat_vr]; have := Nat.le_of_ble_eq_true hcat; omega) (by omega) (by omega) (x := ii a) (y := ii b) hd ?_
  have e9 : (if ii a < ii b then ii b else ii a) = ii (if a < b then b else a) := by
    by_cases hc : a < b
    · rw [if_pos hc, if_pos ((ii_lt ha hb).mpr hc)]
    · rw [if_neg hc, if_neg (fun q => hc ((ii_lt ha hb).mp q))]
  rw [e9]
  exact K X l p e R s m args below meth c H locs cells slots mc ms L F hR hq hl e1 e2 e3 e4
theorem x_min {idx : Nat} {a b : Int} (hd : Dec y pc (.invokestatic idx) 3 pc2) (hk : LTS y.1.cls idx m_J9_min_7cf53) (ha : B3 a) (hb : B3 b) (hdd : 1 ≤ d) (hcat : Nat.ble ((st.map fun v => v.category).sum) 8 = true) (K : WW d y zf Q z h pc2 ls (vi (if b < a then b else a) :: st)) : WW d y zf Q z h pc ls (vi b :: vi a :: st) := by
  intro X l p e R s m args below meth c H locs cells slots mc ms L F hR hq hl e1 e2 e3 e4
  obtain ⟨hd, rfl⟩ := hd
  have hts := F.1.2.2.2.2
  have r1 := F.2.2.2.2.2.1
  have r2 := F.2.2.2.2.2.2.1
  have r3 := F.2.2.2.2.2.2.2.1
  have r4 := F.2.2.2.2.2.2.2.2
  refine va_mmin F.1.1 F.1.2.1 (F.1.2.2.1.trans hl.1.symm) F.1.2.2.2.1 (hts _ hk.1) (hts _ hk.2) (hts _ wmath) (hts _ wmin) (by omega) (by rw [cat_vr]; have := Nat.le_of_ble_eq_true hcat; omega) (by omega) (by omega) (x := ii a) (y := ii b) hd ?_
  have e9 : (if ii b < ii a then ii b else ii a) = ii (if b < a then b else a) := by
    by_cases hc : b < a
    · rw [if_pos hc, if_pos ((ii_lt hb ha).mpr hc)]
    · rw [if_neg hc, if_neg (fun q => hc ((ii_lt hb ha).mp q))]
  rw [e9]
  exact K X l p e R s m args below meth c H locs cells slots mc ms L F hR hq hl e1 e2 e3 e4
end XH
end
section
/-! bits of whole numbers -/
def tb (a : Int) (i : Nat) : Bool := (ii a).toBitVec.getLsbD i
abbrev hasB (a k : Int) : Prop := iAnd (iShr a k) 1 = 1
theorem iAnd_B3 (a b : Int) : B3 (iAnd a b) := B3_toInt _
theorem iOr_B3 (a b : Int) : B3 (iOr a b) := B3_toInt _
theorem iXor_B3 (a b : Int) : B3 (iXor a b) := B3_toInt _
theorem iShl_B3 (a b : Int) : B3 (iShl a b) := B3_toInt _
theorem iShr_B3 (a b : Int) : B3 (iShr a b) := B3_toInt _
theorem ii_iAnd (a b : Int) : ii (iAnd a b) = ii a &&& ii b := ii_toInt _
theorem ii_iOr (a b : Int) : ii (iOr a b) = ii a ||| ii b := ii_toInt _
theorem ii_iXor (a b : Int) : ii (iXor a b) = ii a ^^^ ii b := ii_toInt _
theorem ii_iShl (a b : Int) : ii (iShl a b) = ii a <<< (ii b &&& 31) := ii_toInt _
theorem ii_iShr (a b : Int) : ii (iShr a b) = ii a >>> (ii b &&& 31) := ii_toInt _
theorem tb_and (a b : Int) (i : Nat) : tb (iAnd a b) i = (tb a i && tb b i) := by unfold tb; rw [ii_iAnd, Int32.toBitVec_and, BitVec.getLsbD_and]
theorem tb_or (a b : Int) (i : Nat) : tb (iOr a b) i = (tb a i || tb b i) := by unfold tb; rw [ii_iOr, Int32.toBitVec_or, BitVec.getLsbD_or]
theorem tb_xor (a b : Int) (i : Nat) : tb (iXor a b) i = (tb a i ^^ tb b i) := by unfold tb; rw [ii_iXor, Int32.toBitVec_xor, BitVec.getLsbD_xor]
theorem tb_m1 : ∀ i, i < 32 → tb (-1) i = true := by decide +kernel
theorem tb_0 (i : Nat) : tb 0 i = false := BitVec.getLsbD_zero
theorem tb_big {a : Int} {i : Nat} (h : 32 ≤ i) : tb a i = false := BitVec.getLsbD_of_ge _ _ h
theorem tb_not (a : Int) {i : Nat} (h : i < 32) : tb (iXor a (-1)) i = !tb a i := by rw [tb_xor, tb_m1 i h]; cases tb a i <;> rfl
theorem tb_shl1 : ∀ g : Nat, g < 32 → ∀ i, i < 32 → tb (iShl 1 (g : Int)) i = decide (i = g) := by decide +kernel
theorem sm_ii : ∀ n : Nat, n < 32 → ((ii (n : Int) &&& 31).toBitVec.smod 32).toNat = n := by decide +kernel
theorem tb_shr (a : Int) {g : Nat} (hg : g < 32) {i : Nat} (hi : g + i < 32) : tb (iShr a (g : Int)) i = tb a (g + i) := by
  unfold tb
  rw [ii_iShr, Int32.toBitVec_shiftRight]
  show ((ii a).toBitVec.sshiftRight ((ii (g : Int) &&& 31).toBitVec.smod 32).toNat).getLsbD i = _
  rw [sm_ii g hg, BitVec.getLsbD_sshiftRight]
  have : i < 32 := by omega
  simp [this, hi]
theorem tb_ext {a b : Int} (ha : B3 a) (hb : B3 b) (h : ∀ i, i < 32 → tb a i = tb b i) : a = b :=
  ii_inj ha hb (Int32.toBitVec_inj.mp (BitVec.eq_of_getLsbD_eq (fun i hi => h i hi)))
theorem tb_1 : ∀ i, i < 32 → tb 1 i = decide (i = 0) := by decide +kernel
theorem has_tb (a : Int) {k : Nat} (hk : k < 32) : hasB a (k : Int) ↔ tb a k = true := by
  have h0 : tb (iAnd (iShr a (k : Int)) 1) 0 = tb a k := by
    rw [tb_and, tb_shr a hk (by omega), tb_1 0 (by omega)]
    simp
  constructor
  · intro h
    rw [← h0, show iAnd (iShr a (k : Int)) 1 = 1 from h]
    decide +kernel
  · intro h
    show iAnd (iShr a (k : Int)) 1 = 1
    refine tb_ext (iAnd_B3 _ _) ⟨by omega, by omega⟩ fun i hi => ?_
    rw [tb_and, tb_1 i hi]
    by_cases e : i = 0
    · subst e
      rw [tb_shr a hk (by omega)]
      simp [h]
    · simp [e]
/-! sums over a set; the told table T by the class's fields: 0 persons 1 dry 2 grains 3 size 4 sayings 5 speaker 6 seconds 7 worth 8 answered 9 dishes 10 eater 11 drier 12 window -/
abbrev TT : Type := Nat → Int → Int
def sumSet (F : Int → Int) (s : Int) : Nat → Int
  | 0 => 0
  | k + 1 => sumSet F s k + (if hasB s (k : Int) then F (k : Int) else 0)
theorem sumSet_le {F : Int → Int} {s M : Int} (hM : 0 ≤ M) (n : Nat) (h : ∀ k : Nat, k < n → 0 ≤ F k ∧ F k ≤ M) : 0 ≤ sumSet F s n ∧ sumSet F s n ≤ M * n := by
  induction n with
  | zero => simp [sumSet]
  | succ n ih =>
    obtain ⟨h1, h2⟩ := ih (fun k hk => h k (by omega))
    obtain ⟨h3, h4⟩ := h n (by omega)
    have e : M * ((n + 1 : Nat) : Int) = M * n + M := by rw [Int.natCast_add, Int.mul_add]; simp
    rw [e]
    simp only [sumSet]
    split <;> omega
def TabAt (h : Hp) (t : Nat) (T : TT) : Prop :=
  h t = some (ob 4 [vi (T 0 0), .ref (t + 1), vi (T 2 0), .ref (t + 2), vi (T 4 0), .ref (t + 3), .ref (t + 4), .ref (t + 5), .ref (t + 6), vi (T 9 0), .ref (t + 7), .ref (t + 8), vi (T 12 0)]) ∧
  h (t + 1) = some (ia 0 5 (T 1)) ∧ h (t + 2) = some (ia 0 8 (T 3)) ∧ h (t + 3) = some (ia 0 7 (T 5)) ∧ h (t + 4) = some (ia 0 7 (T 6)) ∧ h (t + 5) = some (ia 0 7 (T 7)) ∧ h (t + 6) = some (ia 0 7 (T 8)) ∧ h (t + 7) = some (ia 0 4 (T 10)) ∧ h (t + 8) = some (ia 0 4 (T 11))
theorem TabAt.kept {h h1 : Hp} {t : Nat} {T : TT} (H : TabAt h t T) (hk : ∀ q : Nat, t ≤ q → q ≤ t + 8 → h1 q = h q) : TabAt h1 t T := by
  obtain ⟨a0, a1, a2, a3, a4, a5, a6, a7, a8⟩ := H
  exact ⟨(hk _ (by omega) (by omega)).trans a0, (hk _ (by omega) (by omega)).trans a1, (hk _ (by omega) (by omega)).trans a2, (hk _ (by omega) (by omega)).trans a3, (hk _ (by omega) (by omega)).trans a4, (hk _ (by omega) (by omega)).trans a5, (hk _ (by omega) (by omega)).trans a6, (hk _ (by omega) (by omega)).trans a7, (hk _ (by omega) (by omega)).trans a8⟩
/-- an evening by the class's fields: 0 second 1 shaker 2 said 3 eaten 4 tongue 5 melted 6 dry 7 share 8 listensUntil 9 ended -/
def EvAt (h : Hp) (e : Nat) (E : TT) : Prop :=
  h e = some (ob 0 [vi (E 0 0), vi (E 1 0), vi (E 2 0), vi (E 3 0), vi (E 4 0), vi (E 5 0), .ref (e + 1), .ref (e + 2), .ref (e + 3), .ref (e + 4)]) ∧
  h (e + 1) = some (ia 0 5 (E 6)) ∧ h (e + 2) = some (ia 0 5 (E 7)) ∧ h (e + 3) = some (ia 0 5 (E 8)) ∧ h (e + 4) = some (ia 0 7 (E 9))
theorem EvAt.kept {h h1 : Hp} {t : Nat} {T : TT} (H : EvAt h t T) (hk : ∀ q : Nat, t ≤ q → q ≤ t + 4 → h1 q = h q) : EvAt h1 t T := by
  obtain ⟨a0, a1, a2, a3, a4⟩ := H
  exact ⟨(hk _ (by omega) (by omega)).trans a0, (hk _ (by omega) (by omega)).trans a1, (hk _ (by omega) (by omega)).trans a2, (hk _ (by omega) (by omega)).trans a3, (hk _ (by omega) (by omega)).trans a4⟩
/-- what a told table's numbers are -/
def TabOk (T : TT) : Prop := (0 ≤ T 0 0 ∧ T 0 0 ≤ 5) ∧ (0 ≤ T 2 0 ∧ T 2 0 ≤ 8) ∧ (0 ≤ T 4 0 ∧ T 4 0 ≤ 7) ∧ (0 ≤ T 9 0 ∧ T 9 0 ≤ 4) ∧ (0 ≤ T 12 0 ∧ T 12 0 ≤ 99) ∧
  (∀ i : Int, 0 ≤ i → i < T 0 0 → 1 ≤ T 1 i ∧ T 1 i ≤ 9) ∧ (∀ g : Int, 0 ≤ g → g < T 2 0 → 1 ≤ T 3 g ∧ T 3 g ≤ 9) ∧
  (∀ s : Int, 0 ≤ s → s < T 4 0 → (0 ≤ T 5 s ∧ T 5 s < T 0 0) ∧ (1 ≤ T 6 s ∧ T 6 s ≤ 60) ∧ (0 ≤ T 7 s ∧ T 7 s ≤ 99) ∧ (T 8 s = -4 ∨ 0 ≤ T 8 s ∧ T 8 s < s ∧ T 5 (T 8 s) ≠ T 5 s)) ∧
  (∀ k : Int, 0 ≤ k → k < T 9 0 → (0 ≤ T 10 k ∧ T 10 k < T 0 0) ∧ -5 ≤ T 11 k ∧ T 11 k ≤ 4)
end
section
theorem tb_nat (k : Nat) {i : Nat} (hi : i < 32) : tb (k : Int) i = k.testBit i := by
  unfold tb ii
  rw [Int32.ofInt_eq_ofNat]
  show (BitVec.ofNat 32 k).getLsbD i = _
  rw [BitVec.getLsbD_ofNat]
  simp [hi]
theorem tb_lt {k n i : Nat} (hk : k < 2 ^ n) (hi : n ≤ i) : tb (k : Int) i = false := by
  by_cases h : i < 32
  · rw [tb_nat k h]
    exact Nat.testBit_lt_two_pow (Nat.lt_of_lt_of_le hk (Nat.pow_le_pow_right (by omega) hi))
  · exact tb_big (by omega)
theorem shl1_pow : ∀ n : Nat, n < 9 → iShl 1 (n : Int) = ((2 ^ n : Nat) : Int) := by decide +kernel
theorem pow_le {n m : Nat} (h : n ≤ m) : 2 ^ n ≤ 2 ^ m := Nat.pow_le_pow_right (by omega) h
theorem tb_eq0 {a : Int} (ha : B3 a) : a = 0 ↔ ∀ i, i < 32 → tb a i = false := by
  constructor
  · intro h i _
    rw [h]
    exact tb_0 i
  · intro h
    exact tb_ext ha ⟨by omega, by omega⟩ fun i hi => by rw [h i hi, tb_0]
/-- the sayings of i among the first k, as bits -/
def soF (T : TT) (i : Int) : Nat → Int
  | 0 => 0
  | k + 1 => if T 5 (k : Int) = i then iOr (soF T i k) (iShl 1 (k : Int)) else soF T i k
theorem soF_B3 (T : TT) (i : Int) (k : Nat) : B3 (soF T i k) := by
  induction k with
  | zero => exact ⟨by simp [soF], by simp [soF]⟩
  | succ k ih =>
    simp only [soF]
    split
    · exact iOr_B3 _ _
    · exact ih
theorem tb_soF (T : TT) (i : Int) (k : Nat) (hk : k ≤ 31) (j : Nat) (hj : j < 32) : tb (soF T i k) j = decide (j < k ∧ T 5 (j : Int) = i) := by
  induction k with
  | zero => simp [soF, tb_0]
  | succ k ih =>
    have ih := ih (by omega)
    simp only [soF]
    by_cases h : T 5 (k : Int) = i
    · rw [if_pos h, tb_or, ih, tb_shl1 k (by omega) j hj]
      by_cases e : j = k
      · subst e
        simp [h]
      · have : j < k + 1 ↔ j < k := by omega
        simp [e, this]
    · rw [if_neg h, ih]
      by_cases e : j = k
      · subst e
        simp [h]
      · have : j < k + 1 ↔ j < k := by omega
        simp [this]
/-- may i say all of the set, none said -/
def okS (T : TT) (i said : Int) (set : Nat) : Prop := ∀ s : Nat, s < (T 4 0).toNat → hasB (set : Int) (s : Int) → T 5 (s : Int) = i ∧ ¬ hasB said (s : Int)
def okD (T : TT) (i said : Int) (set : Nat) : Decidable (okS T i said set) := inferInstanceAs (Decidable (∀ s : Nat, s < (T 4 0).toNat → hasB (set : Int) (s : Int) → T 5 (s : Int) = i ∧ ¬ hasB said (s : Int)))
def bstC (T : TT) (i said m most : Int) (k : Nat) : Prop := okS T i said k ∧ sumSet (T 6) k (T 4 0).toNat ≤ m ∧ most < sumSet (T 7) k (T 4 0).toNat
/-- of the first k sets the one of most worth, and that worth -/
noncomputable def bst (T : TT) (i said m : Int) : Nat → Int × Int
  | 0 => (0, 0)
  | k + 1 => @ite _ (bstC T i said m (bst T i said m k).2 k) (Classical.propDecidable _) ((k : Int), sumSet (T 7) k (T 4 0).toNat) (bst T i said m k)
theorem bst_t {T : TT} {i said m : Int} {k : Nat} (h : bstC T i said m (bst T i said m k).2 k) : bst T i said m (k + 1) = ((k : Int), sumSet (T 7) k (T 4 0).toNat) := by
  simp only [bst]
  rw [if_pos h]
theorem bst_f {T : TT} {i said m : Int} {k : Nat} (h : ¬ bstC T i said m (bst T i said m k).2 k) : bst T i said m (k + 1) = bst T i said m k := by
  simp only [bst]
  rw [if_neg h]
theorem bst_rng {T : TT} (hk : TabOk T) {i said m : Int} (n : Nat) (hn : n ≤ 128) : (0 ≤ (bst T i said m n).1 ∧ (bst T i said m n).1 ≤ 128) ∧ 0 ≤ (bst T i said m n).2 ∧ (bst T i said m n).2 ≤ 693 := by
  induction n with
  | zero => simp [bst]
  | succ n ih =>
    have ih := ih (by omega)
    by_cases h : bstC T i said m (bst T i said m n).2 n
    · rw [bst_t h]
      have h7 := hk.2.2.1
      have h1 := sumSet_le (F := T 7) (s := (n : Int)) (M := 99) (by omega) (T 4 0).toNat (fun k hk2 => (hk.2.2.2.2.2.2.2.1 (k : Int) (by omega) (by omega)).2.2.1)
      refine ⟨⟨by show 0 ≤ (n : Int); omega, by show (n : Int) ≤ 128; omega⟩, h1.1, ?_⟩
      show sumSet (T 7) (n : Int) (T 4 0).toNat ≤ 693
      omega
    · rw [bst_f h]; exact ih
theorem others_0 {T : TT} (hk : TabOk T) {i said : Int} {set : Nat} (hs : set < 2 ^ (T 4 0).toNat) : iAnd (set : Int) (iOr (iXor (soF T i (T 4 0).toNat) (-1)) said) = 0 ↔ okS T i said set := by
  have h7 := hk.2.2.1
  rw [tb_eq0 (iAnd_B3 _ _)]
  constructor
  · intro h s hs2 hb
    have h1 := h s (by omega)
    rw [has_tb _ (by omega)] at hb
    rw [tb_and, hb, tb_or, tb_not _ (by omega), tb_soF _ _ _ (by omega) _ (by omega)] at h1
    rw [has_tb _ (by omega)]
    simp at h1
    refine ⟨(h1.1).2, by simp [h1.2]⟩
  · intro h j hj
    rw [tb_and]
    by_cases e : j < (T 4 0).toNat
    · cases hb : tb (set : Int) j with
      | false => rfl
      | true =>
        obtain ⟨h1, h2⟩ := h j e ((has_tb _ (by omega)).mpr hb)
        rw [has_tb _ (by omega)] at h2
        rw [tb_or, tb_not _ hj, tb_soF _ _ _ (by omega) _ hj]
        simp [e, h1, h2]
    · rw [tb_lt hs (by omega)]
      rfl
end
section
/-! the told text, by its bytes (Bt, e of them) -/
abbrev dgt (Bt : Int → Int) (e p : Int) : Prop := p < e ∧ 48 ≤ Bt p ∧ Bt p ≤ 57
def nd (Bt : Int → Int) (e p : Int) : Int := if dgt Bt e p then (if dgt Bt e (p + 1) then 2 else 1) else 0
def nv (Bt : Int → Int) (e p : Int) : Int := if dgt Bt e p then (if dgt Bt e (p + 1) then 10 * (Bt p - 48) + (Bt (p + 1) - 48) else Bt p - 48) else 0
theorem nd_0 {Bt : Int → Int} {e p : Int} (h : ¬ dgt Bt e p) : nd Bt e p = 0 ∧ nv Bt e p = 0 := by simp only [nd, nv, if_neg h, and_self]
theorem nd_1 {Bt : Int → Int} {e p : Int} (h : dgt Bt e p) (h2 : ¬ dgt Bt e (p + 1)) : nd Bt e p = 1 ∧ nv Bt e p = Bt p - 48 := by simp only [nd, nv, if_pos h, if_neg h2, and_self]
theorem nd_2 {Bt : Int → Int} {e p : Int} (h : dgt Bt e p) (h2 : dgt Bt e (p + 1)) : nd Bt e p = 2 ∧ nv Bt e p = 10 * (Bt p - 48) + (Bt (p + 1) - 48) := by simp only [nd, nv, if_pos h, if_pos h2, and_self]
theorem nd_rng (Bt : Int → Int) (e p : Int) : 0 ≤ nd Bt e p ∧ nd Bt e p ≤ 2 ∧ 0 ≤ nv Bt e p ∧ nv Bt e p ≤ 99 := by
  by_cases h : dgt Bt e p
  · by_cases h2 : dgt Bt e (p + 1)
    · obtain ⟨a, b⟩ := nd_2 h h2
      rw [a, b]; omega
    · obtain ⟨a, b⟩ := nd_1 h h2
      rw [a, b]; omega
  · obtain ⟨a, b⟩ := nd_0 h
    rw [a, b]; omega
/-- numbers parted by , up to ; (k at most): the place behind, the numbers -/
def rd (Bt : Int → Int) (e : Int) : Nat → Int → Option (Int × List Int)
  | 0, _ => none
  | k + 1, p => if nd Bt e p = 0 ∨ e ≤ p + nd Bt e p then none
    else if Bt (p + nd Bt e p) = 59 then some (p + nd Bt e p + 1, [nv Bt e p])
    else if Bt (p + nd Bt e p) = 44 then (rd Bt e k (p + nd Bt e p + 1)).map (fun x => (x.1, nv Bt e p :: x.2))
    else none
def up2 (T : TT) (k : Nat) (j v : Int) : TT := fun a b => if a = k ∧ b = j then v else T a b
theorem up2_row (T : TT) (k : Nat) (j v : Int) : up2 T k j v k = ups (T k) j v := by funext b; simp [up2, ups]
theorem up2_ne (T : TT) {k a : Nat} (j v : Int) (h : a ≠ k) : up2 T k j v a = T a := by funext b; simp [up2, h]
theorem up2_at (T : TT) (k : Nat) (j v : Int) : up2 T k j v k j = v := by simp [up2]
def addP (T : TT) (v : Int) : TT := up2 (up2 T 1 (T 0 0) v) 0 0 (T 0 0 + 1)
def addG (T : TT) (v : Int) : TT := up2 (up2 T 3 (T 2 0) v) 2 0 (T 2 0 + 1)
def addW (T : TT) (a b c k : Int) : TT := up2 (up2 (up2 (up2 (up2 T 5 (T 4 0) a) 6 (T 4 0) b) 7 (T 4 0) c) 8 (T 4 0) (if k = 99 then -4 else k)) 4 0 (T 4 0 + 1)
def addA (T : TT) (v : Int) : TT := up2 T 12 0 v
def addDi (T : TT) (a b : Int) : TT := up2 (up2 (up2 T 10 (T 9 0) a) 11 (T 9 0) (b - 5)) 9 0 (T 9 0 + 1)
abbrev okP (T : TT) (v : Int) : Prop := T 0 0 < 5 ∧ 1 ≤ v ∧ v ≤ 9
abbrev okG (T : TT) (v : Int) : Prop := T 2 0 < 8 ∧ 1 ≤ v ∧ v ≤ 9
abbrev okW (T : TT) (a b _c k : Int) : Prop := T 4 0 < 7 ∧ a < T 0 0 ∧ 1 ≤ b ∧ b ≤ 60 ∧ (k = 99 ∨ k < T 4 0 ∧ T 5 k ≠ a)
abbrev okDi (T : TT) (a b : Int) : Prop := T 9 0 < 4 ∧ a < T 0 0 ∧ b ≤ 9
/-- the table behind an item, if it is so -/
def addI (T : TT) (lt : Int) (l : List Int) (T' : TT) : Prop :=
  (lt = 112 ∧ ∃ v, l = [v] ∧ okP T v ∧ T' = addP T v) ∨ (lt = 103 ∧ ∃ v, l = [v] ∧ okG T v ∧ T' = addG T v) ∨
  (lt = 119 ∧ ∃ a b c k, l = [a, b, c, k] ∧ okW T a b c k ∧ T' = addW T a b c k) ∨ (lt = 97 ∧ ∃ v, l = [v] ∧ T' = addA T v) ∨
  (lt = 100 ∧ ∃ a b, l = [a, b] ∧ okDi T a b ∧ T' = addDi T a b)
theorem len1 {l : List Int} (h : l.length = 1) : ∃ v, l = [v] := by
  match l, h with
  | [v], _ => exact ⟨v, rfl⟩
theorem len2 {l : List Int} (h : l.length = 2) : ∃ a b, l = [a, b] := by
  match l, h with
  | [a, b], _ => exact ⟨a, b, rfl⟩
theorem len4 {l : List Int} (h : l.length = 4) : ∃ a b c k, l = [a, b, c, k] := by
  match l, h with
  | [a, b, c, k], _ => exact ⟨a, b, c, k, rfl⟩
theorem rd_rng (Bt : Int → Int) (e : Int) : ∀ (k : Nat) (p : Int) (q : Int) (l : List Int), rd Bt e k p = some (q, l) → p < q ∧ q ≤ e ∧ l.length ≤ k ∧ ∀ v ∈ l, 0 ≤ v ∧ v ≤ 99 := by
  intro k
  induction k with
  | zero => intro p q l h; simp [rd] at h
  | succ k ih =>
    intro p q l h
    have hr := nd_rng Bt e p
    simp only [rd] at h
    split at h
    · cases h
    next h1 =>
      split at h
      next h2 =>
        simp only [Option.some.injEq, Prod.mk.injEq] at h
        obtain ⟨rfl, rfl⟩ := h
        refine ⟨by omega, by omega, by simp, fun v hv => ?_⟩
        rw [List.mem_singleton.mp hv]
        exact hr.2.2
      next h2 =>
        split at h
        next h3 =>
          cases hx : rd Bt e k (p + nd Bt e p + 1) with
          | none => rw [hx] at h; cases h
          | some x =>
            obtain ⟨q2, l2⟩ := x
            rw [hx] at h
            simp only [Option.map_some, Option.some.injEq, Prod.mk.injEq] at h
            obtain ⟨rfl, rfl⟩ := h
            obtain ⟨g1, g2, g3, g4⟩ := ih _ _ _ hx
            refine ⟨by omega, g2, by simp; omega, fun v hv => ?_⟩
            rcases List.mem_cons.mp hv with rfl | hv
            · exact hr.2.2
            · exact g4 v hv
        next h3 => cases h
end
section
theorem ok_clear (T : TT) : TabOk (up2 (up2 (up2 (up2 (up2 T 0 0 0) 2 0 0) 4 0 0) 9 0 0) 12 0 20) := by
  refine ⟨?_, ?_, ?_, ?_, ?_, fun i h0 h1 => ?_, fun i h0 h1 => ?_, fun i h0 h1 => ?_, fun i h0 h1 => ?_⟩ <;> simp [up2] at * <;> omega
theorem ok_addP {T : TT} {v : Int} (hk : TabOk T) (h : okP T v) : TabOk (addP T v) := by
  obtain ⟨k0, k2, k4, k9, k12, k1, k3, k5, k10⟩ := hk
  refine ⟨?_, ?_, ?_, ?_, ?_, fun i h0 h1 => ?_, fun i h0 h1 => ?_, fun i h0 h1 => ?_, fun i h0 h1 => ?_⟩
  · simp [addP, up2]; omega
  · simpa [addP, up2] using k2
  · simpa [addP, up2] using k4
  · simpa [addP, up2] using k9
  · simpa [addP, up2] using k12
  · simp [addP, up2] at h1 ⊢
    by_cases e : i = T 0 0
    · rw [if_pos e]; omega
    · rw [if_neg e]; exact k1 i h0 (by omega)
  · simp [addP, up2] at h1 ⊢
    exact k3 i h0 h1
  · simp [addP, up2] at h1 ⊢
    have := k5 i h0 h1
    exact ⟨⟨this.1.1, by omega⟩, this.2⟩
  · simp [addP, up2] at h1 ⊢
    have := k10 i h0 h1
    exact ⟨⟨this.1.1, by omega⟩, this.2⟩
theorem ok_addG {T : TT} {v : Int} (hk : TabOk T) (h : okG T v) : TabOk (addG T v) := by
  obtain ⟨k0, k2, k4, k9, k12, k1, k3, k5, k10⟩ := hk
  refine ⟨?_, ?_, ?_, ?_, ?_, fun i h0 h1 => ?_, fun i h0 h1 => ?_, fun i h0 h1 => ?_, fun i h0 h1 => ?_⟩
  · simpa [addG, up2] using k0
  · simp [addG, up2]; omega
  · simpa [addG, up2] using k4
  · simpa [addG, up2] using k9
  · simpa [addG, up2] using k12
  · simp [addG, up2] at h1 ⊢
    exact k1 i h0 h1
  · simp [addG, up2] at h1 ⊢
    by_cases e : i = T 2 0
    · rw [if_pos e]; omega
    · rw [if_neg e]; exact k3 i h0 (by omega)
  · simp [addG, up2] at h1 ⊢
    exact k5 i h0 h1
  · simp [addG, up2] at h1 ⊢
    exact k10 i h0 h1
theorem ok_addA {T : TT} {v : Int} (hk : TabOk T) (h : 0 ≤ v ∧ v ≤ 99) : TabOk (addA T v) := by
  obtain ⟨k0, k2, k4, k9, k12, k1, k3, k5, k10⟩ := hk
  refine ⟨?_, ?_, ?_, ?_, ?_, fun i h0 h1 => ?_, fun i h0 h1 => ?_, fun i h0 h1 => ?_, fun i h0 h1 => ?_⟩
  · simpa [addA, up2] using k0
  · simpa [addA, up2] using k2
  · simpa [addA, up2] using k4
  · simpa [addA, up2] using k9
  · simp [addA, up2]; omega
  · simp [addA, up2] at h1 ⊢
    exact k1 i h0 h1
  · simp [addA, up2] at h1 ⊢
    exact k3 i h0 h1
  · simp [addA, up2] at h1 ⊢
    exact k5 i h0 h1
  · simp [addA, up2] at h1 ⊢
    exact k10 i h0 h1
theorem ok_addDi {T : TT} {a b : Int} (hk : TabOk T) (h : okDi T a b) (ha : 0 ≤ a) (hb : 0 ≤ b) : TabOk (addDi T a b) := by
  obtain ⟨k0, k2, k4, k9, k12, k1, k3, k5, k10⟩ := hk
  refine ⟨?_, ?_, ?_, ?_, ?_, fun i h0 h1 => ?_, fun i h0 h1 => ?_, fun i h0 h1 => ?_, fun i h0 h1 => ?_⟩
  · simpa [addDi, up2] using k0
  · simpa [addDi, up2] using k2
  · simpa [addDi, up2] using k4
  · simp [addDi, up2]; omega
  · simpa [addDi, up2] using k12
  · simp [addDi, up2] at h1 ⊢
    exact k1 i h0 h1
  · simp [addDi, up2] at h1 ⊢
    exact k3 i h0 h1
  · simp [addDi, up2] at h1 ⊢
    exact k5 i h0 h1
  · simp [addDi, up2] at h1 ⊢
    by_cases e : i = T 9 0
    · rw [if_pos e, if_pos e]; omega
    · rw [if_neg e, if_neg e]; exact k10 i h0 (by omega)
theorem ok_addW {T : TT} {a b c k : Int} (hk : TabOk T) (h : okW T a b c k) (ha : 0 ≤ a) (hc : 0 ≤ c ∧ c ≤ 99) (hkk : 0 ≤ k) : TabOk (addW T a b c k) := by
  obtain ⟨k0, k2, k4, k9, k12, k1, k3, k5, k10⟩ := hk
  refine ⟨?_, ?_, ?_, ?_, ?_, fun i h0 h1 => ?_, fun i h0 h1 => ?_, fun i h0 h1 => ?_, fun i h0 h1 => ?_⟩
  · simpa [addW, up2] using k0
  · simpa [addW, up2] using k2
  · simp [addW, up2]; omega
  · simpa [addW, up2] using k9
  · simpa [addW, up2] using k12
  · simp [addW, up2] at h1 ⊢
    exact k1 i h0 h1
  · simp [addW, up2] at h1 ⊢
    exact k3 i h0 h1
  · simp [addW, up2] at h1 ⊢
    by_cases e : i = T 4 0
    · simp only [e, if_true]
      refine ⟨⟨ha, h.2.1⟩, ⟨h.2.2.1, h.2.2.2.1⟩, hc, ?_⟩
      rcases h.2.2.2.2 with e2 | ⟨e2, e3⟩
      · left; rw [if_pos e2]
      · by_cases e4 : k = 99
        · left; rw [if_pos e4]
        · right
          rw [if_neg e4, if_neg (by omega)]
          exact ⟨hkk, e2, e3⟩
    · simp only [e, if_false]
      have := k5 i h0 (by omega)
      refine ⟨this.1, this.2.1, this.2.2.1, ?_⟩
      rcases this.2.2.2 with e2 | e2
      · exact Or.inl e2
      · right
        rw [if_neg (by omega)]
        exact e2
  · simp [addW, up2] at h1 ⊢
    exact k10 i h0 h1
theorem ok_addI {T T' : TT} {lt : Int} {l : List Int} (hk : TabOk T) (hv : ∀ v ∈ l, 0 ≤ v ∧ v ≤ 99) (h : addI T lt l T') : TabOk T' := by
  rcases h with ⟨-, v, rfl, h1, rfl⟩ | ⟨-, v, rfl, h1, rfl⟩ | ⟨-, a, b, c, k, rfl, h1, rfl⟩ | ⟨-, v, rfl, rfl⟩ | ⟨-, a, b, rfl, h1, rfl⟩
  · exact ok_addP hk h1
  · exact ok_addG hk h1
  · exact ok_addW hk h1 (hv a (by simp)).1 (hv c (by simp)) (hv k (by simp)).1
  · exact ok_addA hk (hv v (by simp))
  · exact ok_addDi hk h1 (hv a (by simp)).1 (hv b (by simp)).1
/-- reading items from i on, T told so far: the fault (or -4) and the table behind -/
def prsR (Bt : Int → Int) (e : Int) : Nat → TT → Int → Int → TT → Prop
  | 0, T, i, f, T' => e ≤ i ∧ f = -4 ∧ T' = T
  | n + 1, T, i, f, T' => (e ≤ i ∧ f = -4 ∧ T' = T) ∨ (i < e ∧ ∃ q l T1, rd Bt e 4 (i + 1) = some (q, l) ∧ addI T (Bt i) l T1 ∧ prsR Bt e n T1 q f T') ∨
      (i < e ∧ f = i ∧ T' = T ∧ ∀ q l, rd Bt e 4 (i + 1) = some (q, l) → ∀ T1, ¬ addI T (Bt i) l T1)
theorem prsR_ok {Bt : Int → Int} {e : Int} : ∀ (n : Nat) (T : TT) (i f : Int) (T' : TT), TabOk T → prsR Bt e n T i f T' → TabOk T' := by
  intro n
  induction n with
  | zero =>
    intro T i f T' hk h
    obtain ⟨-, -, rfl⟩ := h
    exact hk
  | succ n ih =>
    intro T i f T' hk h
    rcases h with ⟨-, -, rfl⟩ | ⟨-, q, l, T1, h1, h2, h3⟩ | ⟨-, -, rfl, -⟩
    · exact hk
    · exact ih _ _ _ _ (ok_addI hk (rd_rng Bt e _ _ _ _ h1).2.2.2 h2) h3
    · exact hk
def clr0 (T : TT) : TT := up2 (up2 (up2 (up2 (up2 T 0 0 0) 2 0 0) 4 0 0) 9 0 0) 12 0 20
end
section
/-! MATCH: what is worth most, which grain each gets -/
theorem iAnd_nat {k : Nat} (hk : k < 2 ^ 31) (b : Int) : iAnd (k : Int) b = ((k &&& (ii b).toBitVec.toNat : Nat) : Int) := by
  have hle : k &&& (ii b).toBitVec.toNat ≤ k := Nat.and_le_left
  refine tb_ext (iAnd_B3 _ _) ⟨by omega, by omega⟩ fun i hi => ?_
  rw [tb_and, tb_nat k hi, tb_nat _ hi, Nat.testBit_and]
  rfl
theorem iAnd_le {k : Nat} (hk : k < 2 ^ 31) (b : Int) : ∃ m : Nat, m ≤ k ∧ iAnd (k : Int) b = (m : Int) := ⟨_, Nat.and_le_left, iAnd_nat hk b⟩
def clr (set g : Int) : Int := iAnd set (iXor (iShl 1 g) (-1))
def mx (a b : Int) : Int := if a < b then b else a
def may (T : TT) (D : Int → Int) (sd s g set : Int) : Prop := hasB set g ∧ ¬ hasB sd s ∧ T 6 s ≤ T 3 g * D (T 5 s)
noncomputable def mfold (T : TT) (D : Int → Int) (sd s : Int) (M : Int → Int) (set : Int) : Nat → Int
  | 0 => M set
  | g + 1 => @ite _ (may T D sd s (g : Int) set) (Classical.propDecidable _) (mx (mfold T D sd s M set g) (T 7 s + M (clr set (g : Int)))) (mfold T D sd s M set g)
theorem mfold_t {T : TT} {D : Int → Int} {sd s : Int} {M : Int → Int} {set : Int} {g : Nat} (h : may T D sd s (g : Int) set) : mfold T D sd s M set (g + 1) = mx (mfold T D sd s M set g) (T 7 s + M (clr set (g : Int))) := by
  simp only [mfold]
  rw [if_pos h]
theorem mfold_f {T : TT} {D : Int → Int} {sd s : Int} {M : Int → Int} {set : Int} {g : Nat} (h : ¬ may T D sd s (g : Int) set) : mfold T D sd s M set (g + 1) = mfold T D sd s M set g := by
  simp only [mfold]
  rw [if_neg h]
abbrev nGr (T : TT) : Nat := (T 2 0).toNat
abbrev nSa (T : TT) : Nat := (T 4 0).toNat
/-- by the last r sayings -/
noncomputable def mst (T : TT) (D : Int → Int) (sd : Int) : Nat → Int → Int
  | 0, _ => 0
  | r + 1, set => mfold T D sd ((nSa T - (r + 1) : Nat) : Int) (mst T D sd r) set (nGr T)
noncomputable def ms (T : TT) (D : Int → Int) (sd : Int) (s : Nat) (set : Int) : Int := mst T D sd (nSa T - s) set
theorem ms_end (T : TT) (D : Int → Int) (sd : Int) (set : Int) : ms T D sd (nSa T) set = 0 := by
  unfold ms
  rw [Nat.sub_self]
  rfl
theorem ms_step (T : TT) (D : Int → Int) (sd : Int) {s : Nat} (hs : s < nSa T) (set : Int) : ms T D sd s set = mfold T D sd (s : Int) (ms T D sd (s + 1)) set (nGr T) := by
  have e : nSa T - s = (nSa T - (s + 1)) + 1 := by omega
  have e2 : nSa T - (nSa T - (s + 1) + 1) = s := by omega
  show mst T D sd (nSa T - s) set = _
  rw [e]
  show mfold T D sd ((nSa T - (nSa T - (s + 1) + 1) : Nat) : Int) (mst T D sd (nSa T - (s + 1))) set (nGr T) = _
  rw [e2]
  rfl
theorem mfold_rng {T : TT} {D : Int → Int} {sd s : Int} {M : Int → Int} {set B : Int} (h7 : 0 ≤ T 7 s ∧ T 7 s ≤ 99) (hM : ∀ q, 0 ≤ M q ∧ M q ≤ B) (n : Nat) : 0 ≤ mfold T D sd s M set n ∧ mfold T D sd s M set n ≤ B + 99 := by
  induction n with
  | zero => have := hM set; simp only [mfold]; omega
  | succ n ih =>
    by_cases h : may T D sd s (n : Int) set
    · rw [mfold_t h]
      have := hM (clr set (n : Int))
      unfold mx
      split <;> omega
    · rw [mfold_f h]; exact ih
theorem mst_rng {T : TT} (hk : TabOk T) (D : Int → Int) (sd : Int) (r : Nat) : r ≤ nSa T → ∀ set, 0 ≤ mst T D sd r set ∧ mst T D sd r set ≤ 99 * (r : Int) := by
  induction r with
  | zero => intro _ set; simp [mst]
  | succ r ih =>
    intro hr set
    have h4 := hk.2.2.1
    have hn : ((nSa T - (r + 1) : Nat) : Int) < T 4 0 := by unfold nSa at hr ⊢; omega
    have := mfold_rng (D := D) (sd := sd) (set := set) (hk.2.2.2.2.2.2.2.1 ((nSa T - (r + 1) : Nat) : Int) (by omega) hn).2.2.1 (ih (by omega)) (nGr T)
    refine ⟨this.1, ?_⟩
    have e : 99 * (((r + 1 : Nat)) : Int) = 99 * (r : Int) + 99 := by omega
    rw [e]
    exact this.2
theorem ms_rng {T : TT} (hk : TabOk T) (D : Int → Int) (sd : Int) (s : Nat) (set : Int) : 0 ≤ ms T D sd s set ∧ ms T D sd s set ≤ 693 := by
  have := mst_rng hk D sd (nSa T - s) (by omega) set
  have h4 := hk.2.2.1
  unfold ms
  unfold nSa at this ⊢
  omega
/-- the grains that melt long enough for the saying s -/
def gfF (T : TT) (D : Int → Int) (s : Int) : Nat → Int
  | 0 => 0
  | g + 1 => if T 6 s ≤ T 3 (g : Int) * D (T 5 s) then iOr (gfF T D s g) (iShl 1 (g : Int)) else gfF T D s g
def gf (T : TT) (D : Int → Int) (sd s : Int) : Int := if hasB sd s then 0 else gfF T D s (nGr T)
theorem gfF_B3 (T : TT) (D : Int → Int) (s : Int) (k : Nat) : B3 (gfF T D s k) := by
  induction k with
  | zero => exact ⟨by simp [gfF], by simp [gfF]⟩
  | succ k ih =>
    simp only [gfF]
    split
    · exact iOr_B3 _ _
    · exact ih
theorem tb_gfF (T : TT) (D : Int → Int) (s : Int) (k : Nat) (hk : k ≤ 31) (j : Nat) (hj : j < 32) : tb (gfF T D s k) j = decide (j < k ∧ T 6 s ≤ T 3 (j : Int) * D (T 5 s)) := by
  induction k with
  | zero => simp [gfF, tb_0]
  | succ k ih =>
    have ih := ih (by omega)
    simp only [gfF]
    by_cases h : T 6 s ≤ T 3 (k : Int) * D (T 5 s)
    · rw [if_pos h, tb_or, ih, tb_shl1 k (by omega) j hj]
      by_cases e : j = k
      · subst e
        simp [h]
      · have : j < k + 1 ↔ j < k := by omega
        simp [e, this]
    · rw [if_neg h, ih]
      by_cases e : j = k
      · subst e
        simp [h]
      · have : j < k + 1 ↔ j < k := by omega
        simp [this]
theorem may_gf {T : TT} (hk : TabOk T) {D : Int → Int} {sd s set : Int} {g : Nat} (hg : g < nGr T) : hasB (iAnd set (gf T D sd s)) (g : Int) ↔ may T D sd s (g : Int) set := by
  have h2 := hk.2.1
  have hg2 : g < 8 := by unfold nGr at hg; omega
  unfold may gf
  rw [has_tb _ (by omega), has_tb _ (by omega), tb_and]
  by_cases hs : hasB sd s
  · rw [if_pos hs, tb_0]
    simp [hs]
  · rw [if_neg hs, tb_gfF _ _ _ _ (by unfold nGr; omega) _ (by omega)]
    simp [hs, hg]
/-- the first grain by which the most is reached -/
noncomputable def ffd (T : TT) (D : Int → Int) (sd s : Int) (M : Int → Int) (B set : Int) : Nat → Int
  | 0 => -4
  | k + 1 => @ite _ (may T D sd s ((nGr T - (k + 1) : Nat) : Int) set ∧ T 7 s + M (clr set ((nGr T - (k + 1) : Nat) : Int)) = B) (Classical.propDecidable _) ((nGr T - (k + 1) : Nat) : Int) (ffd T D sd s M B set k)
theorem ffd_t {T : TT} {D : Int → Int} {sd s : Int} {M : Int → Int} {B set : Int} {k g : Nat} (hg : g + (k + 1) = nGr T) (h : may T D sd s (g : Int) set ∧ T 7 s + M (clr set (g : Int)) = B) : ffd T D sd s M B set (k + 1) = (g : Int) := by
  obtain rfl : g = nGr T - (k + 1) := by omega
  simp only [ffd]
  rw [if_pos h]
theorem ffd_f {T : TT} {D : Int → Int} {sd s : Int} {M : Int → Int} {B set : Int} {k g : Nat} (hg : g + (k + 1) = nGr T) (h : ¬ (may T D sd s (g : Int) set ∧ T 7 s + M (clr set (g : Int)) = B)) : ffd T D sd s M B set (k + 1) = ffd T D sd s M B set k := by
  obtain rfl : g = nGr T - (k + 1) := by omega
  simp only [ffd]
  rw [if_neg h]
theorem ffd_rng {T : TT} {D : Int → Int} {sd s : Int} {M : Int → Int} {B set : Int} : ∀ k : Nat, k ≤ nGr T → ffd T D sd s M B set k = -4 ∨ ∃ g : Nat, g < nGr T ∧ ffd T D sd s M B set k = (g : Int) ∧ may T D sd s (g : Int) set := by
  intro k
  induction k with
  | zero => intro _; exact Or.inl rfl
  | succ k ih =>
    intro hk
    have hg : (nGr T - (k + 1)) + (k + 1) = nGr T := by omega
    by_cases h : may T D sd s ((nGr T - (k + 1) : Nat) : Int) set ∧ T 7 s + M (clr set ((nGr T - (k + 1) : Nat) : Int)) = B
    · exact Or.inr ⟨nGr T - (k + 1), by omega, ffd_t hg h, h.1⟩
    · rw [ffd_f hg h]
      exact ih (by omega)
noncomputable def gAt (T : TT) (D : Int → Int) (sd : Int) (s : Nat) (set : Int) : Int := ffd T D sd (s : Int) (ms T D sd (s + 1)) (ms T D sd s set) set (nGr T)
noncomputable def lft (T : TT) (D : Int → Int) (sd sh : Int) : Nat → Int
  | 0 => sh
  | s + 1 => if gAt T D sd s (lft T D sd sh s) = -4 then lft T D sd sh s else clr (lft T D sd sh s) (gAt T D sd s (lft T D sd sh s))
/-- the grain that the saying s gets, or -4 -/
noncomputable def gOf (T : TT) (D : Int → Int) (sd sh : Int) (s : Nat) : Int := gAt T D sd s (lft T D sd sh s)
noncomputable def gvn (T : TT) (D : Int → Int) (sd sh : Int) : Nat → Int
  | 0 => 0
  | s + 1 => if gOf T D sd sh s = -4 then gvn T D sd sh s else iOr (gvn T D sd sh s) (iShl 1 (s : Int))
theorem gAt_rng (T : TT) (D : Int → Int) (sd : Int) (s : Nat) (set : Int) : gAt T D sd s set = -4 ∨ ∃ g : Nat, g < nGr T ∧ gAt T D sd s set = (g : Int) ∧ may T D sd (s : Int) (g : Int) set := ffd_rng (nGr T) (Nat.le_refl _)
theorem lft_nat {T : TT} (hk : TabOk T) {D : Int → Int} {sd : Int} {k0 : Nat} (hk0 : k0 < 2 ^ nGr T) : ∀ s : Nat, ∃ k : Nat, k < 2 ^ nGr T ∧ lft T D sd (k0 : Int) s = (k : Int) := by
  have h2 := hk.2.1
  have hp : 2 ^ nGr T ≤ 256 := pow_le (m := 8) (by unfold nGr; omega)
  intro s
  induction s with
  | zero => exact ⟨k0, hk0, rfl⟩
  | succ s ih =>
    obtain ⟨k, h1, h2⟩ := ih
    simp only [lft]
    rw [h2]
    split
    · exact ⟨k, h1, rfl⟩
    · obtain ⟨m, h3, h4⟩ := iAnd_le (k := k) (by omega) (iXor (iShl 1 (gAt T D sd s (k : Int))) (-1))
      exact ⟨m, by omega, h4⟩
theorem gvn_B3 (T : TT) (D : Int → Int) (sd sh : Int) (k : Nat) : B3 (gvn T D sd sh k) := by
  induction k with
  | zero => exact ⟨by simp [gvn], by simp [gvn]⟩
  | succ k ih =>
    simp only [gvn]
    split
    · exact ih
    · exact iOr_B3 _ _
theorem tb_gvn (T : TT) (D : Int → Int) (sd sh : Int) (k : Nat) (hk : k ≤ 31) (j : Nat) (hj : j < 32) : tb (gvn T D sd sh k) j = decide (j < k ∧ gOf T D sd sh j ≠ -4) := by
  induction k with
  | zero => simp [gvn, tb_0]
  | succ k ih =>
    have ih := ih (by omega)
    simp only [gvn]
    by_cases h : gOf T D sd sh k = -4
    · rw [if_pos h, ih]
      by_cases e : j = k
      · subst e
        simp [h]
      · have : j < k + 1 ↔ j < k := by omega
        simp [this]
    · rw [if_neg h, tb_or, ih, tb_shl1 k (by omega) j hj]
      by_cases e : j = k
      · subst e
        simp [h]
      · have : j < k + 1 ↔ j < k := by omega
        simp [e, this]
theorem gvn_nat {T : TT} (hk : TabOk T) {D : Int → Int} {sd sh : Int} : 0 ≤ gvn T D sd sh (nSa T) ∧ gvn T D sd sh (nSa T) < 128 := by
  have h4 := hk.2.2.1
  have e : gvn T D sd sh (nSa T) = iAnd ((127 : Nat) : Int) (gvn T D sd sh (nSa T)) := by
    refine tb_ext (gvn_B3 _ _ _ _ _) (iAnd_B3 _ _) fun i hi => ?_
    rw [tb_and, tb_gvn _ _ _ _ _ (by unfold nSa; omega) _ hi, tb_nat _ hi]
    by_cases h : i < 7
    · have : Nat.testBit 127 i = true := (by decide : ∀ i : Nat, i < 7 → Nat.testBit 127 i = true) i h
      rw [this]; simp
    · have : ¬ i < nSa T := by unfold nSa; omega
      simp [this]
  obtain ⟨m, h1, h2⟩ := iAnd_le (k := 127) (by omega) (gvn T D sd sh (nSa T))
  rw [e, h2]
  omega
/-- the giving's cells -/
def GvAt (h : Hp) (o : Nat) (gv : Int) (Go : Int → Int) : Prop := h o = some (ob 1 [.ref (o + 1), .ref (o + 10), vi gv]) ∧ h (o + 1) = some (ra 1 8 (fun s => if s < 8 then some (o + 2 + s) else none)) ∧ h (o + 10) = some (ia 0 7 Go) ∧ ∀ s : Nat, s < 8 → ∃ M : Int → Int, h (o + 2 + s) = some (ia 0 256 M)
theorem GvAt.kept {h h1 : Hp} {o : Nat} {gv : Int} {Go : Int → Int} (H : GvAt h o gv Go) (hk : ∀ q : Nat, o ≤ q → q ≤ o + 10 → h1 q = h q) : GvAt h1 o gv Go := by
  obtain ⟨a, b, c, e⟩ := H
  refine ⟨(hk _ (by omega) (by omega)).trans a, (hk _ (by omega) (by omega)).trans b, (hk _ (by omega) (by omega)).trans c, fun s hs => ?_⟩
  obtain ⟨M, hM⟩ := e s hs
  exact ⟨M, (hk _ (by omega) (by omega)).trans hM⟩
end
section
/-! SOONEST: rows of sayings, when they end -/
abbrev candP (G : Int → Int) (pre : List Int) (s : Int) : Prop := G s ≠ -4 ∧ s ∉ pre
abbrev ansP (T : TT) (G : Int → Int) (pre : List Int) (s : Int) : Prop := T 8 s = -4 ∨ G (T 8 s) = -4 ∨ T 8 s ∈ pre
def Rows (T : TT) (G : Int → Int) : Nat → List Int → List (List Int)
  | 0, pre => [pre]
  | k + 1, pre => (List.range (nSa T)).flatMap (fun s : Nat => if candP G pre (s : Int) ∧ ansP T G pre (s : Int) then Rows T G k (pre ++ [(s : Int)]) else [])
def stp (T : TT) (mel : Int → Int) (st : (Int → Int) × Int) (s : Int) : (Int → Int) × Int := (ups st.1 (T 5 s) (mx st.2 (st.1 (T 5 s)) + 2 * mel s), mx st.2 (st.1 (T 5 s)) + T 6 s)
def sim (T : TT) (mel : Int → Int) (l : List Int) : (Int → Int) × Int := l.foldl (stp T mel) (fun _ => 0, 0)
theorem sim_snoc (T : TT) (mel : Int → Int) (l : List Int) (s : Int) : sim T mel (l ++ [s]) = stp T mel (sim T mel l) s := by
  unfold sim
  rw [List.foldl_append]
  rfl
abbrev MelOk (T : TT) (mel : Int → Int) : Prop := ∀ s : Int, 0 ≤ s → s < T 4 0 → 0 ≤ mel s ∧ mel s ≤ 81
abbrev InS (T : TT) (l : List Int) : Prop := ∀ s ∈ l, 0 ≤ s ∧ s < T 4 0
theorem mx_le {a b c : Int} (h1 : a ≤ c) (h2 : b ≤ c) : mx a b ≤ c := by unfold mx; split <;> omega
theorem mx_ge1 (a b : Int) : a ≤ mx a b := by unfold mx; split <;> omega
theorem mx_ge2 (a b : Int) : b ≤ mx a b := by unfold mx; split <;> omega
theorem stp_rng {T : TT} (hk : TabOk T) {mel : Int → Int} (hm : MelOk T mel) {st : (Int → Int) × Int} {s B : Int} (hs : 0 ≤ s ∧ s < T 4 0) (h1 : ∀ p, 0 ≤ st.1 p ∧ st.1 p ≤ B) (h2 : 0 ≤ st.2 ∧ st.2 ≤ B) : (∀ p, 0 ≤ (stp T mel st s).1 p ∧ (stp T mel st s).1 p ≤ B + 222) ∧ st.2 ≤ (stp T mel st s).2 ∧ (stp T mel st s).2 ≤ B + 222 := by
  have k5 := (hk.2.2.2.2.2.2.2.1 s hs.1 hs.2).2.1
  have hms := hm s hs.1 hs.2
  have a1 := mx_ge1 st.2 (st.1 (T 5 s))
  have a3 := mx_le h2.2 (h1 (T 5 s)).2
  refine ⟨fun p => ?_, ?_, ?_⟩
  · simp only [stp, ups]
    have := h1 p
    split <;> omega
  · simp only [stp]; omega
  · simp only [stp]; omega
theorem sim_fold_rng {T : TT} (hk : TabOk T) {mel : Int → Int} (hm : MelOk T mel) : ∀ (l : List Int) (st : (Int → Int) × Int) (B : Int), InS T l → (∀ p, 0 ≤ st.1 p ∧ st.1 p ≤ B) → 0 ≤ st.2 ∧ st.2 ≤ B → (∀ p, 0 ≤ (l.foldl (stp T mel) st).1 p ∧ (l.foldl (stp T mel) st).1 p ≤ B + 222 * l.length) ∧ st.2 ≤ (l.foldl (stp T mel) st).2 ∧ (l.foldl (stp T mel) st).2 ≤ B + 222 * l.length := by
  intro l
  induction l with
  | nil => intro st B _ h1 h2; simp; exact ⟨h1, h2.2⟩
  | cons s t ih =>
    intro st B hi h1 h2
    obtain ⟨g1, g2, g3⟩ := stp_rng hk hm (hi s List.mem_cons_self) h1 h2
    obtain ⟨w1, w2, w3⟩ := ih (stp T mel st s) (B + 222) (fun x hx => hi x (List.mem_cons_of_mem _ hx)) g1 ⟨by omega, g3⟩
    simp only [List.foldl_cons, List.length_cons]
    refine ⟨fun p => ?_, by omega, by omega⟩
    have := w1 p
    omega
theorem sim_rng {T : TT} (hk : TabOk T) {mel : Int → Int} (hm : MelOk T mel) {l : List Int} (hi : InS T l) : (∀ p, 0 ≤ (sim T mel l).1 p ∧ (sim T mel l).1 p ≤ 222 * l.length) ∧ 0 ≤ (sim T mel l).2 ∧ (sim T mel l).2 ≤ 222 * l.length := by
  obtain ⟨a, b, c⟩ := sim_fold_rng hk hm l (fun _ => 0, 0) 0 hi (fun _ => ⟨Int.le_refl _, Int.le_refl _⟩) ⟨Int.le_refl _, Int.le_refl _⟩
  unfold sim
  exact ⟨fun p => by have := a p; omega, by omega, by omega⟩
theorem sim_mono {T : TT} (hk : TabOk T) {mel : Int → Int} (hm : MelOk T mel) {pre l : List Int} (hp : InS T pre) (hl : InS T l) : (sim T mel pre).2 ≤ (sim T mel (pre ++ l)).2 := by
  obtain ⟨a, b, c⟩ := sim_rng hk hm hp
  obtain ⟨-, w, -⟩ := sim_fold_rng hk hm l (sim T mel pre) (222 * pre.length) hl a ⟨b, c⟩
  have : sim T mel (pre ++ l) = l.foldl (stp T mel) (sim T mel pre) := by unfold sim; rw [List.foldl_append]
  rw [this]
  exact w
theorem Rows_mem (T : TT) (G : Int → Int) : ∀ (k : Nat) (pre r : List Int), r ∈ Rows T G k pre → ∃ l : List Int, r = pre ++ l ∧ l.length = k ∧ ∀ s ∈ l, (0 ≤ s ∧ s < (nSa T : Int)) ∧ G s ≠ -4 := by
  intro k
  induction k with
  | zero =>
    intro pre r h
    simp only [Rows, List.mem_singleton] at h
    exact ⟨[], by simp [h], rfl, fun s hs => by cases hs⟩
  | succ k ih =>
    intro pre r h
    simp only [Rows, List.mem_flatMap, List.mem_range] at h
    obtain ⟨s, hs, hr⟩ := h
    split at hr
    next hc =>
      obtain ⟨l, h1, h2, h3⟩ := ih _ _ hr
      refine ⟨(s : Int) :: l, by rw [h1]; simp, by simp [h2], fun x hx => ?_⟩
      rcases List.mem_cons.mp hx with rfl | hx
      · exact ⟨⟨by omega, by omega⟩, hc.1.1⟩
      · exact h3 x hx
    next => cases hr
def updB (T : TT) (mel : Int → Int) (b : Int × List Int) (r : List Int) : Int × List Int := if (sim T mel r).2 < b.1 then ((sim T mel r).2, r) else b
def bestB (T : TT) (mel : Int → Int) (b : Int × List Int) (rs : List (List Int)) : Int × List Int := rs.foldl (updB T mel) b
theorem bestB_same {T : TT} {mel : Int → Int} {b : Int × List Int} : ∀ rs : List (List Int), (∀ r ∈ rs, b.1 ≤ (sim T mel r).2) → bestB T mel b rs = b := by
  intro rs
  induction rs with
  | nil => intro _; rfl
  | cons r t ih =>
    intro h
    have e : updB T mel b r = b := by
      unfold updB
      rw [if_neg (by have := h r List.mem_cons_self; omega)]
    show bestB T mel (updB T mel b r) t = b
    rw [e]
    exact ih (fun x hx => h x (List.mem_cons_of_mem _ hx))
theorem prune {T : TT} (hk : TabOk T) {mel : Int → Int} (hm : MelOk T mel) {G : Int → Int} {k : Nat} {pre : List Int} {b : Int × List Int} (hp : InS T pre) (h : b.1 ≤ (sim T mel pre).2) : bestB T mel b (Rows T G k pre) = b := by
  refine bestB_same _ fun r hr => ?_
  obtain ⟨l, h1, -, h3⟩ := Rows_mem T G k pre r hr
  have h4 := hk.2.2.1
  have := sim_mono hk hm hp (l := l) (fun s hs => by have := (h3 s hs).1; unfold nSa at this; exact ⟨this.1, by omega⟩)
  rw [h1]
  omega
/-- what the first s sayings as the next one give -/
def RowsTo (T : TT) (G : Int → Int) (k : Nat) (pre : List Int) (s : Nat) : List (List Int) := (List.range s).flatMap (fun s : Nat => if candP G pre (s : Int) ∧ ansP T G pre (s : Int) then Rows T G k (pre ++ [(s : Int)]) else [])
theorem RowsTo_succ (T : TT) (G : Int → Int) (k : Nat) (pre : List Int) (s : Nat) : RowsTo T G k pre (s + 1) = RowsTo T G k pre s ++ (if candP G pre (s : Int) ∧ ansP T G pre (s : Int) then Rows T G k (pre ++ [(s : Int)]) else []) := by
  unfold RowsTo
  rw [List.range_succ, List.flatMap_append]
  simp
theorem bestB_app (T : TT) (mel : Int → Int) (b : Int × List Int) (x y : List (List Int)) : bestB T mel b (x ++ y) = bestB T mel (bestB T mel b x) y := by
  unfold bestB
  rw [List.foldl_append]
theorem bestB_le (T : TT) (mel : Int → Int) : ∀ (rs : List (List Int)) (b : Int × List Int), (bestB T mel b rs).1 ≤ b.1 := by
  intro rs
  induction rs with
  | nil => intro b; exact Int.le_refl _
  | cons r t ih =>
    intro b
    refine Int.le_trans (ih (updB T mel b r)) ?_
    unfold updB
    split
    · omega
    · exact Int.le_refl _
theorem bestB_ge {T : TT} (hk : TabOk T) {mel : Int → Int} (hm : MelOk T mel) : ∀ (rs : List (List Int)) (b : Int × List Int), 0 ≤ b.1 → (∀ r ∈ rs, InS T r) → 0 ≤ (bestB T mel b rs).1 := by
  intro rs
  induction rs with
  | nil => intro b h _; exact h
  | cons r t ih =>
    intro b h hi
    refine ih (updB T mel b r) ?_ (fun x hx => hi x (List.mem_cons_of_mem _ hx))
    unfold updB
    split
    · exact (sim_rng hk hm (hi r List.mem_cons_self)).2.1
    · exact h
end
section
theorem nb_bi (c : Prop) [Decidable c] : narrow .boolean (vi (bi c)) = vi (bi c) := by
  unfold bi
  split <;> decide +kernel
theorem nb_0 : narrow .boolean (vi 0) = vi 0 := by decide +kernel
theorem nb_1 : narrow .boolean (vi 1) = vi 1 := by decide +kernel
/-- a pure answer: the heap stays -/
abbrev Pu (v : Int) (h : Hp) : Option Value → Hp → Prop := fun r h' => r = some (vi v) ∧ h = h'
theorem Pu.t {c : Prop} [Decidable c] {h : Hp} (hc : c) : Pu (bi c) h (some (vi 1)) h := ⟨by rw [bi_t hc], rfl⟩
theorem Pu.f {c : Prop} [Decidable c] {h : Hp} (hc : ¬ c) : Pu (bi c) h (some (vi 0)) h := ⟨by rw [bi_f hc], rfl⟩
theorem Pu.e {v w : Int} {h : Hp} (e : v = w) : Pu w h (some (vi v)) h := ⟨by rw [e], rfl⟩
theorem c_5_isIn {d : Nat} (hd : 0 ≤ d) {z : Nat × Nat} {h : Hp} {a k : Int} : Ct d m_5_isIn [vi a, vi k] z z h (Pu (bi (hasB a k)) h) := by
  refine Ct.of (by decide) ⟨Nat.le_refl _, Nat.le_refl _⟩ (Nat.le_of_ble_eq_true rfl) ?_
  have hb := iAnd_B3 (iShr a k) 1
  refine x_iload_n D_5_isIn_0 rfl ?_
  refine x_iload_n D_5_isIn_1 rfl ?_
  refine x_ishr D_5_isIn_2 ?_
  refine x_iconst D_5_isIn_3 ?_
  refine x_iand D_5_isIn_4 ?_
  refine x_iconst D_5_isIn_5 ?_
  refine x_icmp_ne D_5_isIn_6 hb ⟨by omega, by omega⟩ (fun c6 => ?_) (fun c6 => ?_)
  · refine x_iconst D_5_isIn_13 ?_
    refine x_ireturn D_5_isIn_14 rfl (by first | rfl | exact nb_bi _ | decide +kernel) rfl ?_
    first | exact Pu.t (by assumption) | exact Pu.f (by assumption)
  refine x_iconst D_5_isIn_9 ?_
  refine x_goto D_5_isIn_10 ?_
  refine x_ireturn D_5_isIn_14 rfl (by first | rfl | exact nb_bi _ | decide +kernel) rfl ?_
  first | exact Pu.t (by assumption) | exact Pu.f (by assumption)
theorem c_6_has {d : Nat} (hd : 0 ≤ d) {z : Nat × Nat} {h : Hp} {a k : Int} : Ct d m_6_has [vi a, vi k] z z h (Pu (bi (hasB a k)) h) := by
  refine Ct.of (by decide) ⟨Nat.le_refl _, Nat.le_refl _⟩ (Nat.le_of_ble_eq_true rfl) ?_
  have hb := iAnd_B3 (iShr a k) 1
  refine x_iload_n D_6_has_0 rfl ?_
  refine x_iload_n D_6_has_1 rfl ?_
  refine x_ishr D_6_has_2 ?_
  refine x_iconst D_6_has_3 ?_
  refine x_iand D_6_has_4 ?_
  refine x_iconst D_6_has_5 ?_
  refine x_icmp_ne D_6_has_6 hb ⟨by omega, by omega⟩ (fun c6 => ?_) (fun c6 => ?_)
  · refine x_iconst D_6_has_13 ?_
    refine x_ireturn D_6_has_14 rfl (by first | rfl | exact nb_bi _ | decide +kernel) rfl ?_
    first | exact Pu.t (by assumption) | exact Pu.f (by assumption)
  refine x_iconst D_6_has_9 ?_
  refine x_goto D_6_has_10 ?_
  refine x_ireturn D_6_has_14 rfl (by first | rfl | exact nb_bi _ | decide +kernel) rfl ?_
  first | exact Pu.t (by assumption) | exact Pu.f (by assumption)
theorem c_6_in {d : Nat} (hd : 0 ≤ d) {z : Nat × Nat} {h : Hp} {v a b : Int} (hv : B3 v) (ha : B3 a) (hb : B3 b) : Ct d m_6_in [vi v, vi a, vi b] z z h (Pu (bi (a ≤ v ∧ v ≤ b)) h) := by
  refine Ct.of (by decide) ⟨Nat.le_refl _, Nat.le_refl _⟩ (Nat.le_of_ble_eq_true rfl) ?_
  refine x_iload_n D_6_in_0 rfl ?_
  refine x_iload_n D_6_in_1 rfl ?_
  refine x_icmp_lt D_6_in_2 hv ha (fun c2 => ?_) (fun c2 => ?_)
  · refine x_iconst D_6_in_14 ?_
    refine x_ireturn D_6_in_15 rfl (by first | rfl | exact nb_bi _ | decide +kernel) rfl ?_
    first | exact Pu.t (by omega) | exact Pu.f (by omega)
  refine x_iload_n D_6_in_5 rfl ?_
  refine x_iload_n D_6_in_6 rfl ?_
  refine x_icmp_gt D_6_in_7 hv hb (fun c7 => ?_) (fun c7 => ?_)
  · refine x_iconst D_6_in_14 ?_
    refine x_ireturn D_6_in_15 rfl (by first | rfl | exact nb_bi _ | decide +kernel) rfl ?_
    first | exact Pu.t (by omega) | exact Pu.f (by omega)
  refine x_iconst D_6_in_10 ?_
  refine x_goto D_6_in_11 ?_
  refine x_ireturn D_6_in_15 rfl (by first | rfl | exact nb_bi _ | decide +kernel) rfl ?_
  first | exact Pu.t (by omega) | exact Pu.f (by omega)
theorem c_4_sumOf {d : Nat} (hd : 1 ≤ d) {z : Nat × Nat} {h : Hp} {r n c : Nat} {Fn : Int → Int} {s : Int} (hr : h r = some (ia 0 n Fn)) (hn : n ≤ 8) (hc : c ≤ n) : Ct d m_4_sumOf [.ref r, vi c, vi s] z z h (Pu (sumSet Fn s c) h) := by
  refine Ct.of (by decide) ⟨Nat.le_refl _, Nat.le_refl _⟩ (Nat.le_of_ble_eq_true rfl) ?_
  have hn' : Nat.ble n 100000 = true := Nat.ble_eq_true_of_le (by omega)
  have loop : ∀ (f k : Nat) (t : Int), t = sumSet Fn s k → k ≤ c → c = k + f → WW d m_4_sumOf z (Pu (sumSet Fn s c) h) z h 5 [(0, .ref r), (1, vi c), (2, vi s), (3, vi t), (4, vi k)] [] := by
    intro f
    induction f with
    | zero =>
      intro k t ht h8 hf
      refine x_iload D_4_sumOf_5 rfl ?_
      refine x_iload_n D_4_sumOf_7 rfl ?_
      refine x_icmp_ge D_4_sumOf_8 ⟨by omega, by omega⟩ ⟨by omega, by omega⟩ (fun c8 => ?_) (fun c8 => ?_)
      · refine x_iload_n D_4_sumOf_40 rfl ?_
        refine x_ireturn D_4_sumOf_41 rfl (by first | rfl | exact nb_bi _ | decide +kernel) rfl ?_
        exact Pu.e (by rw [ht, hf]; rfl)
      exact absurd c8 (by omega)
    | succ f ih =>
      intro k t ht h8 hf
      refine x_iload D_4_sumOf_5 rfl ?_
      refine x_iload_n D_4_sumOf_7 rfl ?_
      refine x_icmp_ge D_4_sumOf_8 ⟨by omega, by omega⟩ ⟨by omega, by omega⟩ (fun c8 => ?_) (fun c8 => ?_)
      · exact absurd c8 (by omega)
      refine x_iload D_4_sumOf_11 rfl ?_
      refine x_aload_n D_4_sumOf_13 rfl ?_
      refine x_alen D_4_sumOf_14 (by assumption) ?_
      refine x_icmp_ge D_4_sumOf_15 ⟨by omega, by omega⟩ ⟨by omega, by omega⟩ (fun c15 => ?_) (fun c15 => ?_)
      · exact absurd c15 (by omega)
      refine x_iload_n D_4_sumOf_18 rfl ?_
      refine x_iload D_4_sumOf_19 rfl ?_
      refine x_invSN (d' := d - 1) D_4_sumOf_21 l_4_84 mi_5_isIn (c_5_isIn (by omega))  rfl (by omega) rfl (fun q => q) rfl rfl (fun r21 h21 q21 => ?_)
      obtain ⟨rfl, rfl⟩ := q21
      refine x_if_eqb D_4_sumOf_24 (fun c24 => ?_) (fun c24 => ?_)
      · exact (show WW _ _ _ _ _ _ _ _ _ from (by
        refine x_iinc D_4_sumOf_34 rfl rfl rfl rfl ?_
        refine x_goto D_4_sumOf_37 ?_
        exact (ih (k + 1) _ (by rw [ht, sumSet, if_neg c24, Int.add_zero]) (by omega) (by omega)).sub rfl))
      refine x_iload_n D_4_sumOf_27 rfl ?_
      refine x_aload_n D_4_sumOf_28 rfl ?_
      refine x_iload D_4_sumOf_29 rfl ?_
      refine x_iaload D_4_sumOf_31 (by assumption) (by omega) (by omega) hn' ?_
      refine x_iadd D_4_sumOf_32 ?_
      refine x_istore_n D_4_sumOf_33 rfl rfl rfl ?_
      refine x_iinc D_4_sumOf_34 rfl rfl rfl rfl ?_
      refine x_goto D_4_sumOf_37 ?_
      exact (ih (k + 1) _ (by rw [ht, sumSet, if_pos c24]) (by omega) (by omega)).sub rfl
  refine x_iconst D_4_sumOf_0 ?_
  refine x_istore_n D_4_sumOf_1 rfl rfl rfl ?_
  refine x_iconst D_4_sumOf_2 ?_
  refine x_istore D_4_sumOf_3 rfl rfl rfl ?_
  exact (loop c 0 0 rfl (by omega) (by omega)).sub rfl
theorem c_4_worthOf {d : Nat} (hd : 2 ≤ d) {z : Nat × Nat} {h : Hp} {t : Nat} {T : TT} {s : Int} (hT : TabAt h t T) (hk : TabOk T) : Ct d m_4_worthOf [.ref t, vi s] z z h (Pu (sumSet (T 7) s (T 4 0).toNat) h) := by
  refine Ct.of (by decide) ⟨Nat.le_refl _, Nat.le_refl _⟩ (Nat.le_of_ble_eq_true rfl) ?_
  obtain ⟨a0, a1, a2, a3, a4, a5, a6, a7, a8⟩ := hT
  obtain ⟨-, -, k4, -⟩ := hk
  obtain ⟨c, hc⟩ : ∃ c : Nat, T 4 0 = (c : Int) := ⟨_, (Int.toNat_of_nonneg k4.1).symm⟩
  rw [hc] at a0 k4 ⊢
  refine x_aload_n D_4_worthOf_0 rfl ?_
  refine x_getfield D_4_worthOf_1 f_4_24 (by assumption) rfl ?_
  refine x_aload_n D_4_worthOf_4 rfl ?_
  refine x_getfield D_4_worthOf_5 f_4_43 (by assumption) rfl ?_
  refine x_iload_n D_4_worthOf_8 rfl ?_
  refine x_invS2 (d' := d - 1) D_4_worthOf_9 l_4_80 mi_4_sumOf (c_4_sumOf (by omega) a5 (by omega) (by omega))  rfl (by omega) rfl (fun q => q) rfl rfl (fun r9 h9 q9 => ?_)
  obtain ⟨rfl, rfl⟩ := q9
  refine x_ireturn D_4_worthOf_12 rfl (by first | rfl | exact nb_bi _ | decide +kernel) rfl ?_
  exact ⟨rfl, rfl⟩
theorem c_4_secondsOf {d : Nat} (hd : 2 ≤ d) {z : Nat × Nat} {h : Hp} {t : Nat} {T : TT} {s : Int} (hT : TabAt h t T) (hk : TabOk T) : Ct d m_4_secondsOf [.ref t, vi s] z z h (Pu (sumSet (T 6) s (T 4 0).toNat) h) := by
  refine Ct.of (by decide) ⟨Nat.le_refl _, Nat.le_refl _⟩ (Nat.le_of_ble_eq_true rfl) ?_
  obtain ⟨a0, a1, a2, a3, a4, a5, a6, a7, a8⟩ := hT
  obtain ⟨-, -, k4, -⟩ := hk
  obtain ⟨c, hc⟩ : ∃ c : Nat, T 4 0 = (c : Int) := ⟨_, (Int.toNat_of_nonneg k4.1).symm⟩
  rw [hc] at a0 k4 ⊢
  refine x_aload_n D_4_secondsOf_0 rfl ?_
  refine x_getfield D_4_secondsOf_1 f_4_21 (by assumption) rfl ?_
  refine x_aload_n D_4_secondsOf_4 rfl ?_
  refine x_getfield D_4_secondsOf_5 f_4_43 (by assumption) rfl ?_
  refine x_iload_n D_4_secondsOf_8 rfl ?_
  refine x_invS2 (d' := d - 1) D_4_secondsOf_9 l_4_80 mi_4_sumOf (c_4_sumOf (by omega) a4 (by omega) (by omega))  rfl (by omega) rfl (fun q => q) rfl rfl (fun r9 h9 q9 => ?_)
  obtain ⟨rfl, rfl⟩ := q9
  refine x_ireturn D_4_secondsOf_12 rfl (by first | rfl | exact nb_bi _ | decide +kernel) rfl ?_
  exact ⟨rfl, rfl⟩
theorem c_4_sizeOf {d : Nat} (hd : 2 ≤ d) {z : Nat × Nat} {h : Hp} {t : Nat} {T : TT} {s : Int} (hT : TabAt h t T) (hk : TabOk T) : Ct d m_4_sizeOf [.ref t, vi s] z z h (Pu (sumSet (T 3) s (T 2 0).toNat) h) := by
  refine Ct.of (by decide) ⟨Nat.le_refl _, Nat.le_refl _⟩ (Nat.le_of_ble_eq_true rfl) ?_
  obtain ⟨a0, a1, a2, a3, a4, a5, a6, a7, a8⟩ := hT
  obtain ⟨-, k4, -⟩ := hk
  obtain ⟨c, hc⟩ : ∃ c : Nat, T 2 0 = (c : Int) := ⟨_, (Int.toNat_of_nonneg k4.1).symm⟩
  rw [hc] at a0 k4 ⊢
  refine x_aload_n D_4_sizeOf_0 rfl ?_
  refine x_getfield D_4_sizeOf_1 f_4_15 (by assumption) rfl ?_
  refine x_aload_n D_4_sizeOf_4 rfl ?_
  refine x_getfield D_4_sizeOf_5 f_4_40 (by assumption) rfl ?_
  refine x_iload_n D_4_sizeOf_8 rfl ?_
  refine x_invS2 (d' := d - 1) D_4_sizeOf_9 l_4_80 mi_4_sumOf (c_4_sumOf (by omega) a2 (by omega) (by omega))  rfl (by omega) rfl (fun q => q) rfl rfl (fun r9 h9 q9 => ?_)
  obtain ⟨rfl, rfl⟩ := q9
  refine x_ireturn D_4_sizeOf_12 rfl (by first | rfl | exact nb_bi _ | decide +kernel) rfl ?_
  exact ⟨rfl, rfl⟩
end
section
theorem c_4_sayingsOf {d : Nat} (hd : 1 ≤ d) {z : Nat × Nat} {h : Hp} {t : Nat} {T : TT} {i : Int} (hT : TabAt h t T) (hk : TabOk T) (hi : B3 i) : Ct d m_4_sayingsOf [.ref t, vi i] z z h (Pu (soF T i (T 4 0).toNat) h) := by
  refine Ct.of (by decide) ⟨Nat.le_refl _, Nat.le_refl _⟩ (Nat.le_of_ble_eq_true rfl) ?_
  obtain ⟨a0, a1, a2, a3, a4, a5, a6, a7, a8⟩ := hT
  have k4 := hk.2.2.1
  have k5 := hk.2.2.2.2.2.2.2.1
  have k0 := hk.1
  obtain ⟨c, hc⟩ : ∃ c : Nat, T 4 0 = (c : Int) := ⟨_, (Int.toNat_of_nonneg k4.1).symm⟩
  have hc2 : (T 4 0).toNat = c := by omega
  rw [hc2]
  have loop : ∀ (f k : Nat) (v : Int), v = soF T i k → c = k + f → WW d m_4_sayingsOf z (Pu (soF T i c) h) z h 4 [(0, .ref t), (1, vi i), (2, vi v), (3, vi k)] [] := by
    intro f
    induction f with
    | zero =>
      intro k v hv hf
      refine x_iload_n D_4_sayingsOf_4 rfl ?_
      refine x_aload_n D_4_sayingsOf_5 rfl ?_
      refine x_getfield D_4_sayingsOf_6 f_4_43 (by assumption) rfl ?_
      refine x_icmp_ge D_4_sayingsOf_9 ⟨by omega, by omega⟩ ⟨by omega, by omega⟩ (fun c9 => ?_) (fun c9 => ?_)
      · refine x_iload_n D_4_sayingsOf_40 rfl ?_
        refine x_ireturn D_4_sayingsOf_41 rfl (by first | rfl | exact nb_bi _ | decide +kernel) rfl ?_
        exact Pu.e (by rw [hv, hf]; rfl)
      exact absurd c9 (by omega)
    | succ f ih =>
      intro k v hv hf
      have hr := (k5 k (by omega) (by omega)).1
      refine x_iload_n D_4_sayingsOf_4 rfl ?_
      refine x_aload_n D_4_sayingsOf_5 rfl ?_
      refine x_getfield D_4_sayingsOf_6 f_4_43 (by assumption) rfl ?_
      refine x_icmp_ge D_4_sayingsOf_9 ⟨by omega, by omega⟩ ⟨by omega, by omega⟩ (fun c9 => ?_) (fun c9 => ?_)
      · exact absurd c9 (by omega)
      refine x_iload_n D_4_sayingsOf_12 rfl ?_
      refine x_bipush D_4_sayingsOf_13 (by decide +kernel) ?_
      refine x_icmp_ge D_4_sayingsOf_15 ⟨by omega, by omega⟩ ⟨by omega, by omega⟩ (fun c15 => ?_) (fun c15 => ?_)
      · exact absurd c15 (by omega)
      refine x_aload_n D_4_sayingsOf_18 rfl ?_
      refine x_getfield D_4_sayingsOf_19 f_4_18 (by assumption) rfl ?_
      refine x_iload_n D_4_sayingsOf_22 rfl ?_
      refine x_iaload D_4_sayingsOf_23 (by assumption) (by omega) (by omega) rfl ?_
      refine x_iload_n D_4_sayingsOf_24 rfl ?_
      refine x_icmp_ne D_4_sayingsOf_25 ⟨by omega, by omega⟩ hi (fun c25 => ?_) (fun c25 => ?_)
      · refine x_iinc D_4_sayingsOf_34 rfl rfl rfl rfl ?_
        refine x_goto D_4_sayingsOf_37 ?_
        first | exact (ih (k + 1) _ (by rw [hv, soF, if_neg c25]) (by omega)).sub rfl | exact (ih (k + 1) _ (by rw [hv, soF, if_pos c25]) (by omega)).sub rfl
      refine x_iload_n D_4_sayingsOf_28 rfl ?_
      refine x_iconst D_4_sayingsOf_29 ?_
      refine x_iload_n D_4_sayingsOf_30 rfl ?_
      refine x_ishl D_4_sayingsOf_31 ?_
      refine x_ior D_4_sayingsOf_32 ?_
      refine x_istore_n D_4_sayingsOf_33 rfl rfl rfl ?_
      refine x_iinc D_4_sayingsOf_34 rfl rfl rfl rfl ?_
      refine x_goto D_4_sayingsOf_37 ?_
      first | exact (ih (k + 1) _ (by rw [hv, soF, if_neg c25]) (by omega)).sub rfl | exact (ih (k + 1) _ (by rw [hv, soF, if_pos c25]) (by omega)).sub rfl
  refine x_iconst D_4_sayingsOf_0 ?_
  refine x_istore_n D_4_sayingsOf_1 rfl rfl rfl ?_
  refine x_iconst D_4_sayingsOf_2 ?_
  refine x_istore_n D_4_sayingsOf_3 rfl rfl rfl ?_
  exact (loop c 0 0 rfl (by omega)).sub rfl
theorem c_4_bestSet {d : Nat} (hd : 3 ≤ d) {z : Nat × Nat} {h : Hp} {t : Nat} {T : TT} {i said m : Int} (hT : TabAt h t T) (hk : TabOk T) (hi : B3 i) (hs : B3 said) (hm : B3 m) : Ct d m_4_bestSet [.ref t, vi i, vi said, vi m] z z h (Pu (bst T i said m (2 ^ (T 4 0).toNat)).1 h) := by
  refine Ct.of (by decide) ⟨Nat.le_refl _, Nat.le_refl _⟩ (Nat.le_of_ble_eq_true rfl) ?_
  have hT' := hT
  obtain ⟨a0, a1, a2, a3, a4, a5, a6, a7, a8⟩ := hT
  have k4 := hk.2.2.1
  have k5 := hk.2.2.2.2.2.2.2.1
  obtain ⟨c, hc⟩ : ∃ c : Nat, T 4 0 = (c : Int) := ⟨_, (Int.toNat_of_nonneg k4.1).symm⟩
  have hc2 : (T 4 0).toNat = c := by omega
  have hsh := shl1_pow c (by omega)
  have hpw : 2 ^ c ≤ 128 := pow_le (m := 7) (by omega)
  rw [hc2]
  have loop : ∀ (f k : Nat) (fo mo w : Int), bst T i said m k = (fo, mo) → 2 ^ c = k + f → WW d m_4_bestSet z (Pu (bst T i said m (2 ^ c)).1 h) z h 20 [(0, .ref t), (1, vi i), (2, vi said), (3, vi m), (4, vi (iOr (iXor (soF T i c) (-1)) said)), (5, vi fo), (6, vi mo), (7, vi k)] [] := by
    intro f
    induction f with
    | zero =>
      intro k fo mo w hb hf
      refine x_iload D_4_bestSet_20 rfl ?_
      refine x_iconst D_4_bestSet_22 ?_
      refine x_aload_n D_4_bestSet_23 rfl ?_
      refine x_getfield D_4_bestSet_24 f_4_43 (by assumption) rfl ?_
      refine x_ishl D_4_bestSet_27 ?_
      rw [hc]
      refine x_icmp_ge D_4_bestSet_28 ⟨by omega, by omega⟩ (iShl_B3 _ _) (fun c28 => ?_) (fun c28 => ?_)
      · refine x_iload D_4_bestSet_78 rfl ?_
        refine x_ireturn D_4_bestSet_80 rfl (by first | rfl | exact nb_bi _ | decide +kernel) rfl ?_
        exact Pu.e (by rw [hf, Nat.add_zero, hb])
      exact absurd c28 (by rw [hsh]; omega)
    | succ f ih =>
      intro k fo mo w hb hf
      have hrg := bst_rng hk (i := i) (said := said) (m := m) k (by omega)
      rw [hb] at hrg
      dsimp only at hrg
      have s7 := sumSet_le (F := T 7) (s := (k : Int)) (M := 99) (by omega) c (fun q hq => (k5 (q : Int) (by omega) (by omega)).2.2.1)
      have s6 := sumSet_le (F := T 6) (s := (k : Int)) (M := 60) (by omega) c (fun q hq => ⟨by have := (k5 (q : Int) (by omega) (by omega)).2.1; omega, (k5 (q : Int) (by omega) (by omega)).2.1.2⟩)
      have ho := others_0 hk (i := i) (said := said) (set := k) (by rw [hc2]; omega)
      rw [hc2] at ho
      have hC : bstC T i said m (bst T i said m k).2 k ↔ iAnd (k : Int) (iOr (iXor (soF T i c) (-1)) said) = 0 ∧ sumSet (T 6) k c ≤ m ∧ mo < sumSet (T 7) k c := by
        unfold bstC
        rw [hb, hc2, ho]
      have hno : ¬ (iAnd (k : Int) (iOr (iXor (soF T i c) (-1)) said) = 0 ∧ sumSet (T 6) k c ≤ m ∧ mo < sumSet (T 7) k c) → bst T i said m (k + 1) = (fo, mo) := fun q => by rw [bst_f (fun e => q (hC.mp e)), hb]
      have hyes : (iAnd (k : Int) (iOr (iXor (soF T i c) (-1)) said) = 0 ∧ sumSet (T 6) k c ≤ m ∧ mo < sumSet (T 7) k c) → bst T i said m (k + 1) = ((k : Int), sumSet (T 7) k c) := fun q => by rw [bst_t (hC.mpr q), hc2]
      refine x_iload D_4_bestSet_20 rfl ?_
      refine x_iconst D_4_bestSet_22 ?_
      refine x_aload_n D_4_bestSet_23 rfl ?_
      refine x_getfield D_4_bestSet_24 f_4_43 (by assumption) rfl ?_
      refine x_ishl D_4_bestSet_27 ?_
      rw [hc]
      refine x_icmp_ge D_4_bestSet_28 ⟨by omega, by omega⟩ (iShl_B3 _ _) (fun c28 => ?_) (fun c28 => ?_)
      · exact absurd c28 (by rw [hsh]; omega)
      refine x_iload D_4_bestSet_31 rfl ?_
      refine x_iload D_4_bestSet_33 rfl ?_
      refine x_iand D_4_bestSet_35 ?_
      refine x_if_ne D_4_bestSet_36 (iAnd_B3 _ _) (fun c36 => ?_) (fun c36 => ?_)
      · refine x_iinc D_4_bestSet_72 rfl rfl rfl rfl ?_
        refine x_goto D_4_bestSet_75 ?_
        first | exact (ih (k + 1) _ _ 0 (hno (fun e => c36 e.1)) (by omega)).sub rfl | exact (ih (k + 1) _ _ 0 (hno (fun e => by omega)) (by omega)).sub rfl | exact (ih (k + 1) _ _ 0 (hyes ⟨c36, by omega, by omega⟩) (by omega)).sub rfl
      refine x_aload_n D_4_bestSet_39 rfl ?_
      refine x_iload D_4_bestSet_40 rfl ?_
      refine x_invV (d' := d - 1) D_4_bestSet_42 l_4_74 mi_4_secondsOf (c_4_secondsOf (by omega) hT' hk) (by assumption) rfl rfl (by omega) rfl (fun q => q) rfl rfl (fun r42 h42 q42 => ?_)
      obtain ⟨rfl, rfl⟩ := q42
      rw [hc2]
      refine x_iload_n D_4_bestSet_45 rfl ?_
      refine x_icmp_gt D_4_bestSet_46 ⟨by omega, by omega⟩ hm (fun c46 => ?_) (fun c46 => ?_)
      · refine x_iinc D_4_bestSet_72 rfl rfl rfl rfl ?_
        refine x_goto D_4_bestSet_75 ?_
        first | exact (ih (k + 1) _ _ 0 (hno (fun e => c36 e.1)) (by omega)).sub rfl | exact (ih (k + 1) _ _ 0 (hno (fun e => by omega)) (by omega)).sub rfl | exact (ih (k + 1) _ _ 0 (hyes ⟨c36, by omega, by omega⟩) (by omega)).sub rfl
      refine x_aload_n D_4_bestSet_49 rfl ?_
      refine x_iload D_4_bestSet_50 rfl ?_
      refine x_invV (d' := d - 1) D_4_bestSet_52 l_4_77 mi_4_worthOf (c_4_worthOf (by omega) hT' hk) (by assumption) rfl rfl (by omega) rfl (fun q => q) rfl rfl (fun r52 h52 q52 => ?_)
      obtain ⟨rfl, rfl⟩ := q52
      rw [hc2]
      refine x_istore D_4_bestSet_55 rfl rfl rfl ?_
      refine x_iload D_4_bestSet_57 rfl ?_
      refine x_iload D_4_bestSet_59 rfl ?_
      refine x_icmp_le D_4_bestSet_61 ⟨by omega, by omega⟩ ⟨by omega, by omega⟩ (fun c61 => ?_) (fun c61 => ?_)
      · refine x_iinc D_4_bestSet_72 rfl rfl rfl rfl ?_
        refine x_goto D_4_bestSet_75 ?_
        first | exact (ih (k + 1) _ _ 0 (hno (fun e => c36 e.1)) (by omega)).sub rfl | exact (ih (k + 1) _ _ 0 (hno (fun e => by omega)) (by omega)).sub rfl | exact (ih (k + 1) _ _ 0 (hyes ⟨c36, by omega, by omega⟩) (by omega)).sub rfl
      refine x_iload D_4_bestSet_64 rfl ?_
      refine x_istore D_4_bestSet_66 rfl rfl rfl ?_
      refine x_iload D_4_bestSet_68 rfl ?_
      refine x_istore D_4_bestSet_70 rfl rfl rfl ?_
      refine x_iinc D_4_bestSet_72 rfl rfl rfl rfl ?_
      refine x_goto D_4_bestSet_75 ?_
      first | exact (ih (k + 1) _ _ 0 (hno (fun e => c36 e.1)) (by omega)).sub rfl | exact (ih (k + 1) _ _ 0 (hno (fun e => by omega)) (by omega)).sub rfl | exact (ih (k + 1) _ _ 0 (hyes ⟨c36, by omega, by omega⟩) (by omega)).sub rfl
  refine x_aload_n D_4_bestSet_0 rfl ?_
  refine x_iload_n D_4_bestSet_1 rfl ?_
  refine x_invV (d' := d - 1) D_4_bestSet_2 l_4_70 mi_4_sayingsOf (c_4_sayingsOf (by omega) hT' hk hi) (by assumption) rfl rfl (by omega) rfl (fun q => q) rfl rfl (fun r2 h2 q2 => ?_)
  obtain ⟨rfl, rfl⟩ := q2
  rw [hc2]
  refine x_iconst D_4_bestSet_5 ?_
  refine x_ixor D_4_bestSet_6 ?_
  refine x_iload_n D_4_bestSet_7 rfl ?_
  refine x_ior D_4_bestSet_8 ?_
  refine x_istore D_4_bestSet_9 rfl rfl rfl ?_
  refine x_iconst D_4_bestSet_11 ?_
  refine x_istore D_4_bestSet_12 rfl rfl rfl ?_
  refine x_iconst D_4_bestSet_14 ?_
  refine x_istore D_4_bestSet_15 rfl rfl rfl ?_
  refine x_iconst D_4_bestSet_17 ?_
  refine x_istore D_4_bestSet_18 rfl rfl rfl ?_
  exact (loop (2 ^ c) 0 0 0 0 rfl (by omega)).sub rfl
end
section
theorem c_3_isFigure {d : Nat} (hd : 0 ≤ d) {z : Nat × Nat} {h : Hp} {v : Int} (hv : B3 v) : Ct d m_3_isFigure [vi v] z z h (Pu (bi (48 ≤ v ∧ v ≤ 57)) h) := by
  refine Ct.of (by decide) ⟨Nat.le_refl _, Nat.le_refl _⟩ (Nat.le_of_ble_eq_true rfl) ?_
  refine x_iload_n D_3_isFigure_0 rfl ?_
  refine x_bipush D_3_isFigure_1 (by decide +kernel) ?_
  refine x_icmp_lt D_3_isFigure_3 hv ⟨by omega, by omega⟩ (fun c3 => ?_) (fun c3 => ?_)
  · refine x_iconst D_3_isFigure_16 ?_
    refine x_ireturn D_3_isFigure_17 rfl (by first | rfl | exact nb_bi _ | decide +kernel) rfl ?_
    first | exact Pu.t (by omega) | exact Pu.f (by omega)
  refine x_iload_n D_3_isFigure_6 rfl ?_
  refine x_bipush D_3_isFigure_7 (by decide +kernel) ?_
  refine x_icmp_gt D_3_isFigure_9 hv ⟨by omega, by omega⟩ (fun c9 => ?_) (fun c9 => ?_)
  · refine x_iconst D_3_isFigure_16 ?_
    refine x_ireturn D_3_isFigure_17 rfl (by first | rfl | exact nb_bi _ | decide +kernel) rfl ?_
    first | exact Pu.t (by omega) | exact Pu.f (by omega)
  refine x_iconst D_3_isFigure_12 ?_
  refine x_goto D_3_isFigure_13 ?_
  refine x_ireturn D_3_isFigure_17 rfl (by first | rfl | exact nb_bi _ | decide +kernel) rfl ?_
  first | exact Pu.t (by omega) | exact Pu.f (by omega)
/-- void, the table at t is T now, nothing else changed -/
abbrev TQ (t : Nat) (h0 : Hp) (v : Option Value) (T : TT) : Option Value → Hp → Prop := fun r h' => r = v ∧ TabAt h' t T ∧ ∀ q : Nat, (q < t ∨ t + 8 < q) → h' q = h0 q
theorem c_4_clear {d : Nat} (hd : 0 ≤ d) {z : Nat × Nat} {h : Hp} {t : Nat} {T : TT} (hT : TabAt h t T) : Ct d m_4_clear [.ref t] z z h (TQ t h none (up2 (up2 (up2 (up2 (up2 T 0 0 0) 2 0 0) 4 0 0) 9 0 0) 12 0 20)) := by
  refine Ct.of (by decide) ⟨Nat.le_refl _, Nat.le_refl _⟩ (Nat.le_of_ble_eq_true rfl) ?_
  obtain ⟨a0, a1, a2, a3, a4, a5, a6, a7, a8⟩ := hT
  have hfr : ∀ q : Nat, (q < t ∨ t + 8 < q) → h q = h q := fun _ _ => rfl
  refine x_aload_n D_4_clear_0 rfl ?_
  refine x_iconst D_4_clear_1 ?_
  refine x_putI D_4_clear_2 f_4_36 (by assumption) (by decide +kernel) rfl (fun h2 e2 n2 => ?_)
  simp only [List.set_cons_zero, List.set_cons_succ] at e2
  first | (replace a0 := (n2 _ (by omega)).trans a0) | (replace a0 := e2)
  first | (replace a1 := (n2 _ (by omega)).trans a1) | (replace a1 := e2)
  first | (replace a2 := (n2 _ (by omega)).trans a2) | (replace a2 := e2)
  first | (replace a3 := (n2 _ (by omega)).trans a3) | (replace a3 := e2)
  first | (replace a4 := (n2 _ (by omega)).trans a4) | (replace a4 := e2)
  first | (replace a5 := (n2 _ (by omega)).trans a5) | (replace a5 := e2)
  first | (replace a6 := (n2 _ (by omega)).trans a6) | (replace a6 := e2)
  first | (replace a7 := (n2 _ (by omega)).trans a7) | (replace a7 := e2)
  first | (replace a8 := (n2 _ (by omega)).trans a8) | (replace a8 := e2)
  replace hfr := fun q hq => (n2 q (by omega)).trans (hfr q hq)
  refine x_aload_n D_4_clear_5 rfl ?_
  refine x_iconst D_4_clear_6 ?_
  refine x_putI D_4_clear_7 f_4_40 (by assumption) (by decide +kernel) rfl (fun h7 e7 n7 => ?_)
  simp only [List.set_cons_zero, List.set_cons_succ] at e7
  first | (replace a0 := (n7 _ (by omega)).trans a0) | (replace a0 := e7)
  first | (replace a1 := (n7 _ (by omega)).trans a1) | (replace a1 := e7)
  first | (replace a2 := (n7 _ (by omega)).trans a2) | (replace a2 := e7)
  first | (replace a3 := (n7 _ (by omega)).trans a3) | (replace a3 := e7)
  first | (replace a4 := (n7 _ (by omega)).trans a4) | (replace a4 := e7)
  first | (replace a5 := (n7 _ (by omega)).trans a5) | (replace a5 := e7)
  first | (replace a6 := (n7 _ (by omega)).trans a6) | (replace a6 := e7)
  first | (replace a7 := (n7 _ (by omega)).trans a7) | (replace a7 := e7)
  first | (replace a8 := (n7 _ (by omega)).trans a8) | (replace a8 := e7)
  replace hfr := fun q hq => (n7 q (by omega)).trans (hfr q hq)
  refine x_aload_n D_4_clear_10 rfl ?_
  refine x_iconst D_4_clear_11 ?_
  refine x_putI D_4_clear_12 f_4_43 (by assumption) (by decide +kernel) rfl (fun h12 e12 n12 => ?_)
  simp only [List.set_cons_zero, List.set_cons_succ] at e12
  first | (replace a0 := (n12 _ (by omega)).trans a0) | (replace a0 := e12)
  first | (replace a1 := (n12 _ (by omega)).trans a1) | (replace a1 := e12)
  first | (replace a2 := (n12 _ (by omega)).trans a2) | (replace a2 := e12)
  first | (replace a3 := (n12 _ (by omega)).trans a3) | (replace a3 := e12)
  first | (replace a4 := (n12 _ (by omega)).trans a4) | (replace a4 := e12)
  first | (replace a5 := (n12 _ (by omega)).trans a5) | (replace a5 := e12)
  first | (replace a6 := (n12 _ (by omega)).trans a6) | (replace a6 := e12)
  first | (replace a7 := (n12 _ (by omega)).trans a7) | (replace a7 := e12)
  first | (replace a8 := (n12 _ (by omega)).trans a8) | (replace a8 := e12)
  replace hfr := fun q hq => (n12 q (by omega)).trans (hfr q hq)
  refine x_aload_n D_4_clear_15 rfl ?_
  refine x_iconst D_4_clear_16 ?_
  refine x_putI D_4_clear_17 f_4_46 (by assumption) (by decide +kernel) rfl (fun h17 e17 n17 => ?_)
  simp only [List.set_cons_zero, List.set_cons_succ] at e17
  first | (replace a0 := (n17 _ (by omega)).trans a0) | (replace a0 := e17)
  first | (replace a1 := (n17 _ (by omega)).trans a1) | (replace a1 := e17)
  first | (replace a2 := (n17 _ (by omega)).trans a2) | (replace a2 := e17)
  first | (replace a3 := (n17 _ (by omega)).trans a3) | (replace a3 := e17)
  first | (replace a4 := (n17 _ (by omega)).trans a4) | (replace a4 := e17)
  first | (replace a5 := (n17 _ (by omega)).trans a5) | (replace a5 := e17)
  first | (replace a6 := (n17 _ (by omega)).trans a6) | (replace a6 := e17)
  first | (replace a7 := (n17 _ (by omega)).trans a7) | (replace a7 := e17)
  first | (replace a8 := (n17 _ (by omega)).trans a8) | (replace a8 := e17)
  replace hfr := fun q hq => (n17 q (by omega)).trans (hfr q hq)
  refine x_aload_n D_4_clear_20 rfl ?_
  refine x_bipush D_4_clear_21 (by decide +kernel) ?_
  refine x_putI D_4_clear_23 f_4_49 (by assumption) (by decide +kernel) rfl (fun h23 e23 n23 => ?_)
  simp only [List.set_cons_zero, List.set_cons_succ] at e23
  first | (replace a0 := (n23 _ (by omega)).trans a0) | (replace a0 := e23)
  first | (replace a1 := (n23 _ (by omega)).trans a1) | (replace a1 := e23)
  first | (replace a2 := (n23 _ (by omega)).trans a2) | (replace a2 := e23)
  first | (replace a3 := (n23 _ (by omega)).trans a3) | (replace a3 := e23)
  first | (replace a4 := (n23 _ (by omega)).trans a4) | (replace a4 := e23)
  first | (replace a5 := (n23 _ (by omega)).trans a5) | (replace a5 := e23)
  first | (replace a6 := (n23 _ (by omega)).trans a6) | (replace a6 := e23)
  first | (replace a7 := (n23 _ (by omega)).trans a7) | (replace a7 := e23)
  first | (replace a8 := (n23 _ (by omega)).trans a8) | (replace a8 := e23)
  replace hfr := fun q hq => (n23 q (by omega)).trans (hfr q hq)
  refine x_return D_4_clear_26 rfl rfl ?_
  exact ⟨rfl, ⟨a0, a1, a2, a3, a4, a5, a6, a7, a8⟩, hfr⟩
theorem c_4_setWindow {d : Nat} (hd : 0 ≤ d) {z : Nat × Nat} {h : Hp} {t : Nat} {T : TT} {v : Int} (hT : TabAt h t T) : Ct d m_4_setWindow [.ref t, vi v] z z h (TQ t h (some (vi 1)) (addA T v)) := by
  refine Ct.of (by decide) ⟨Nat.le_refl _, Nat.le_refl _⟩ (Nat.le_of_ble_eq_true rfl) ?_
  obtain ⟨a0, a1, a2, a3, a4, a5, a6, a7, a8⟩ := hT
  have hfr : ∀ q : Nat, (q < t ∨ t + 8 < q) → h q = h q := fun _ _ => rfl
  refine x_aload_n D_4_setWindow_0 rfl ?_
  refine x_iload_n D_4_setWindow_1 rfl ?_
  refine x_putI D_4_setWindow_2 f_4_49 (by assumption) (by decide +kernel) rfl (fun h2 e2 n2 => ?_)
  simp only [List.set_cons_zero, List.set_cons_succ] at e2
  first | (replace a0 := (n2 _ (by omega)).trans a0) | (replace a0 := e2)
  first | (replace a1 := (n2 _ (by omega)).trans a1) | (replace a1 := e2)
  first | (replace a2 := (n2 _ (by omega)).trans a2) | (replace a2 := e2)
  first | (replace a3 := (n2 _ (by omega)).trans a3) | (replace a3 := e2)
  first | (replace a4 := (n2 _ (by omega)).trans a4) | (replace a4 := e2)
  first | (replace a5 := (n2 _ (by omega)).trans a5) | (replace a5 := e2)
  first | (replace a6 := (n2 _ (by omega)).trans a6) | (replace a6 := e2)
  first | (replace a7 := (n2 _ (by omega)).trans a7) | (replace a7 := e2)
  first | (replace a8 := (n2 _ (by omega)).trans a8) | (replace a8 := e2)
  replace hfr := fun q hq => (n2 q (by omega)).trans (hfr q hq)
  refine x_iconst D_4_setWindow_5 ?_
  refine x_ireturn D_4_setWindow_6 rfl (by first | rfl | exact nb_bi _ | decide +kernel) rfl ?_
  exact ⟨rfl, ⟨a0, a1, a2, a3, a4, a5, a6, a7, a8⟩, hfr⟩
abbrev TQ2 (t : Nat) (h0 : Hp) (c : Prop) [Decidable c] (T T' : TT) : Option Value → Hp → Prop := fun r h' => r = some (vi (bi c)) ∧ TabAt h' t (if c then T' else T) ∧ ∀ q : Nat, (q < t ∨ t + 8 < q) → h' q = h0 q
theorem TQ2.t {t : Nat} {h0 h' : Hp} {c : Prop} [Decidable c] {T T' : TT} (hc : c) (hT : TabAt h' t T') (hf : ∀ q : Nat, (q < t ∨ t + 8 < q) → h' q = h0 q) : TQ2 t h0 c T T' (some (vi 1)) h' := ⟨by rw [bi_t hc], by rw [if_pos hc]; exact hT, hf⟩
theorem TQ2.f {t : Nat} {h0 h' : Hp} {c : Prop} [Decidable c] {T T' : TT} (hc : ¬ c) (hT : TabAt h' t T) (hf : ∀ q : Nat, (q < t ∨ t + 8 < q) → h' q = h0 q) : TQ2 t h0 c T T' (some (vi 0)) h' := ⟨by rw [bi_f hc], by rw [if_neg hc]; exact hT, hf⟩
theorem c_4_addPerson {d : Nat} (hd : 0 ≤ d) {z : Nat × Nat} {h : Hp} {t : Nat} {T : TT} {v : Int} (hT : TabAt h t T) (hk : TabOk T) (hv : B3 v) : Ct d m_4_addPerson [.ref t, vi v] z z h (TQ2 t h (okP T v) T (addP T v)) := by
  refine Ct.of (by decide) ⟨Nat.le_refl _, Nat.le_refl _⟩ (Nat.le_of_ble_eq_true rfl) ?_
  obtain ⟨a0, a1, a2, a3, a4, a5, a6, a7, a8⟩ := hT
  have k0 := hk.1
  have hfr : ∀ q : Nat, (q < t ∨ t + 8 < q) → h q = h q := fun _ _ => rfl
  refine x_aload_n D_4_addPerson_0 rfl ?_
  refine x_getfield D_4_addPerson_1 f_4_36 (by assumption) rfl ?_
  refine x_iconst D_4_addPerson_4 ?_
  refine x_icmp_ge D_4_addPerson_5 ⟨by omega, by omega⟩ ⟨by omega, by omega⟩ (fun c5 => ?_) (fun c5 => ?_)
  · refine x_iconst D_4_addPerson_19 ?_
    refine x_ireturn D_4_addPerson_20 rfl (by first | rfl | exact nb_bi _ | decide +kernel) rfl ?_
    exact TQ2.f (fun e => by have := e.1; have := e.2; omega) ⟨a0, a1, a2, a3, a4, a5, a6, a7, a8⟩ hfr
  refine x_iload_n D_4_addPerson_8 rfl ?_
  refine x_iconst D_4_addPerson_9 ?_
  refine x_icmp_lt D_4_addPerson_10 hv ⟨by omega, by omega⟩ (fun c10 => ?_) (fun c10 => ?_)
  · refine x_iconst D_4_addPerson_19 ?_
    refine x_ireturn D_4_addPerson_20 rfl (by first | rfl | exact nb_bi _ | decide +kernel) rfl ?_
    exact TQ2.f (fun e => by have := e.1; have := e.2; omega) ⟨a0, a1, a2, a3, a4, a5, a6, a7, a8⟩ hfr
  refine x_iload_n D_4_addPerson_13 rfl ?_
  refine x_bipush D_4_addPerson_14 (by decide +kernel) ?_
  refine x_icmp_le D_4_addPerson_16 hv ⟨by omega, by omega⟩ (fun c16 => ?_) (fun c16 => ?_)
  · refine x_aload_n D_4_addPerson_21 rfl ?_
    refine x_getfield D_4_addPerson_22 f_4_9 (by assumption) rfl ?_
    refine x_aload_n D_4_addPerson_25 rfl ?_
    refine x_getfield D_4_addPerson_26 f_4_36 (by assumption) rfl ?_
    refine x_iload_n D_4_addPerson_29 rfl ?_
    refine x_iastore D_4_addPerson_30 (by assumption) (by omega) (by omega) rfl (fun h30 e30 n30 => ?_)
    first | (replace a0 := (n30 _ (by omega)).trans a0) | (replace a0 := e30)
    first | (replace a1 := (n30 _ (by omega)).trans a1) | (replace a1 := e30)
    first | (replace a2 := (n30 _ (by omega)).trans a2) | (replace a2 := e30)
    first | (replace a3 := (n30 _ (by omega)).trans a3) | (replace a3 := e30)
    first | (replace a4 := (n30 _ (by omega)).trans a4) | (replace a4 := e30)
    first | (replace a5 := (n30 _ (by omega)).trans a5) | (replace a5 := e30)
    first | (replace a6 := (n30 _ (by omega)).trans a6) | (replace a6 := e30)
    first | (replace a7 := (n30 _ (by omega)).trans a7) | (replace a7 := e30)
    first | (replace a8 := (n30 _ (by omega)).trans a8) | (replace a8 := e30)
    replace hfr := fun q hq => (n30 q (by omega)).trans (hfr q hq)
    refine x_aload_n D_4_addPerson_31 rfl ?_
    refine x_dup D_4_addPerson_32 rfl ?_
    refine x_getfield D_4_addPerson_33 f_4_36 (by assumption) rfl ?_
    refine x_iconst D_4_addPerson_36 ?_
    refine x_iadd D_4_addPerson_37 ?_
    refine x_putI D_4_addPerson_38 f_4_36 (by assumption) (by decide +kernel) rfl (fun h38 e38 n38 => ?_)
    simp only [List.set_cons_zero, List.set_cons_succ] at e38
    first | (replace a0 := (n38 _ (by omega)).trans a0) | (replace a0 := e38)
    first | (replace a1 := (n38 _ (by omega)).trans a1) | (replace a1 := e38)
    first | (replace a2 := (n38 _ (by omega)).trans a2) | (replace a2 := e38)
    first | (replace a3 := (n38 _ (by omega)).trans a3) | (replace a3 := e38)
    first | (replace a4 := (n38 _ (by omega)).trans a4) | (replace a4 := e38)
    first | (replace a5 := (n38 _ (by omega)).trans a5) | (replace a5 := e38)
    first | (replace a6 := (n38 _ (by omega)).trans a6) | (replace a6 := e38)
    first | (replace a7 := (n38 _ (by omega)).trans a7) | (replace a7 := e38)
    first | (replace a8 := (n38 _ (by omega)).trans a8) | (replace a8 := e38)
    replace hfr := fun q hq => (n38 q (by omega)).trans (hfr q hq)
    refine x_iconst D_4_addPerson_41 ?_
    refine x_ireturn D_4_addPerson_42 rfl (by first | rfl | exact nb_bi _ | decide +kernel) rfl ?_
    refine TQ2.t ⟨by omega, by omega, by omega⟩ ?_ hfr
    refine ⟨a0, ?_, a2, a3, a4, a5, a6, a7, a8⟩
    rw [a1]
    exact congrArg some (ia_ext fun j _ _ => by simp [addP, up2, ups])
  refine x_iconst D_4_addPerson_19 ?_
  refine x_ireturn D_4_addPerson_20 rfl (by first | rfl | exact nb_bi _ | decide +kernel) rfl ?_
  exact TQ2.f (fun e => by have := e.1; have := e.2; omega) ⟨a0, a1, a2, a3, a4, a5, a6, a7, a8⟩ hfr
theorem c_4_addGrain {d : Nat} (hd : 0 ≤ d) {z : Nat × Nat} {h : Hp} {t : Nat} {T : TT} {v : Int} (hT : TabAt h t T) (hk : TabOk T) (hv : B3 v) : Ct d m_4_addGrain [.ref t, vi v] z z h (TQ2 t h (okG T v) T (addG T v)) := by
  refine Ct.of (by decide) ⟨Nat.le_refl _, Nat.le_refl _⟩ (Nat.le_of_ble_eq_true rfl) ?_
  obtain ⟨a0, a1, a2, a3, a4, a5, a6, a7, a8⟩ := hT
  have k0 := hk.2.1
  have hfr : ∀ q : Nat, (q < t ∨ t + 8 < q) → h q = h q := fun _ _ => rfl
  refine x_aload_n D_4_addGrain_0 rfl ?_
  refine x_getfield D_4_addGrain_1 f_4_40 (by assumption) rfl ?_
  refine x_bipush D_4_addGrain_4 (by decide +kernel) ?_
  refine x_icmp_ge D_4_addGrain_6 ⟨by omega, by omega⟩ ⟨by omega, by omega⟩ (fun c6 => ?_) (fun c6 => ?_)
  · refine x_iconst D_4_addGrain_20 ?_
    refine x_ireturn D_4_addGrain_21 rfl (by first | rfl | exact nb_bi _ | decide +kernel) rfl ?_
    exact TQ2.f (fun e => by have := e.1; have := e.2; omega) ⟨a0, a1, a2, a3, a4, a5, a6, a7, a8⟩ hfr
  refine x_iload_n D_4_addGrain_9 rfl ?_
  refine x_iconst D_4_addGrain_10 ?_
  refine x_icmp_lt D_4_addGrain_11 hv ⟨by omega, by omega⟩ (fun c11 => ?_) (fun c11 => ?_)
  · refine x_iconst D_4_addGrain_20 ?_
    refine x_ireturn D_4_addGrain_21 rfl (by first | rfl | exact nb_bi _ | decide +kernel) rfl ?_
    exact TQ2.f (fun e => by have := e.1; have := e.2; omega) ⟨a0, a1, a2, a3, a4, a5, a6, a7, a8⟩ hfr
  refine x_iload_n D_4_addGrain_14 rfl ?_
  refine x_bipush D_4_addGrain_15 (by decide +kernel) ?_
  refine x_icmp_le D_4_addGrain_17 hv ⟨by omega, by omega⟩ (fun c17 => ?_) (fun c17 => ?_)
  · refine x_aload_n D_4_addGrain_22 rfl ?_
    refine x_getfield D_4_addGrain_23 f_4_15 (by assumption) rfl ?_
    refine x_aload_n D_4_addGrain_26 rfl ?_
    refine x_getfield D_4_addGrain_27 f_4_40 (by assumption) rfl ?_
    refine x_iload_n D_4_addGrain_30 rfl ?_
    refine x_iastore D_4_addGrain_31 (by assumption) (by omega) (by omega) rfl (fun h31 e31 n31 => ?_)
    first | (replace a0 := (n31 _ (by omega)).trans a0) | (replace a0 := e31)
    first | (replace a1 := (n31 _ (by omega)).trans a1) | (replace a1 := e31)
    first | (replace a2 := (n31 _ (by omega)).trans a2) | (replace a2 := e31)
    first | (replace a3 := (n31 _ (by omega)).trans a3) | (replace a3 := e31)
    first | (replace a4 := (n31 _ (by omega)).trans a4) | (replace a4 := e31)
    first | (replace a5 := (n31 _ (by omega)).trans a5) | (replace a5 := e31)
    first | (replace a6 := (n31 _ (by omega)).trans a6) | (replace a6 := e31)
    first | (replace a7 := (n31 _ (by omega)).trans a7) | (replace a7 := e31)
    first | (replace a8 := (n31 _ (by omega)).trans a8) | (replace a8 := e31)
    replace hfr := fun q hq => (n31 q (by omega)).trans (hfr q hq)
    refine x_aload_n D_4_addGrain_32 rfl ?_
    refine x_dup D_4_addGrain_33 rfl ?_
    refine x_getfield D_4_addGrain_34 f_4_40 (by assumption) rfl ?_
    refine x_iconst D_4_addGrain_37 ?_
    refine x_iadd D_4_addGrain_38 ?_
    refine x_putI D_4_addGrain_39 f_4_40 (by assumption) (by decide +kernel) rfl (fun h39 e39 n39 => ?_)
    simp only [List.set_cons_zero, List.set_cons_succ] at e39
    first | (replace a0 := (n39 _ (by omega)).trans a0) | (replace a0 := e39)
    first | (replace a1 := (n39 _ (by omega)).trans a1) | (replace a1 := e39)
    first | (replace a2 := (n39 _ (by omega)).trans a2) | (replace a2 := e39)
    first | (replace a3 := (n39 _ (by omega)).trans a3) | (replace a3 := e39)
    first | (replace a4 := (n39 _ (by omega)).trans a4) | (replace a4 := e39)
    first | (replace a5 := (n39 _ (by omega)).trans a5) | (replace a5 := e39)
    first | (replace a6 := (n39 _ (by omega)).trans a6) | (replace a6 := e39)
    first | (replace a7 := (n39 _ (by omega)).trans a7) | (replace a7 := e39)
    first | (replace a8 := (n39 _ (by omega)).trans a8) | (replace a8 := e39)
    replace hfr := fun q hq => (n39 q (by omega)).trans (hfr q hq)
    refine x_iconst D_4_addGrain_42 ?_
    refine x_ireturn D_4_addGrain_43 rfl (by first | rfl | exact nb_bi _ | decide +kernel) rfl ?_
    refine TQ2.t ⟨by omega, by omega, by omega⟩ ?_ hfr
    refine ⟨a0, a1, ?_, a3, a4, a5, a6, a7, a8⟩
    rw [a2]
    exact congrArg some (ia_ext fun j _ _ => by simp [addG, up2, ups])
  refine x_iconst D_4_addGrain_20 ?_
  refine x_ireturn D_4_addGrain_21 rfl (by first | rfl | exact nb_bi _ | decide +kernel) rfl ?_
  exact TQ2.f (fun e => by have := e.1; have := e.2; omega) ⟨a0, a1, a2, a3, a4, a5, a6, a7, a8⟩ hfr
theorem c_4_addDish {d : Nat} (hd : 0 ≤ d) {z : Nat × Nat} {h : Hp} {t : Nat} {T : TT} {a b : Int} (hT : TabAt h t T) (hk : TabOk T) (ha : 0 ≤ a ∧ a ≤ 99) (hb : 0 ≤ b ∧ b ≤ 99) : Ct d m_4_addDish [.ref t, vi a, vi b] z z h (TQ2 t h (okDi T a b) T (addDi T a b)) := by
  refine Ct.of (by decide) ⟨Nat.le_refl _, Nat.le_refl _⟩ (Nat.le_of_ble_eq_true rfl) ?_
  obtain ⟨a0, a1, a2, a3, a4, a5, a6, a7, a8⟩ := hT
  have k0 := hk.1
  have k9 := hk.2.2.2.1
  have hfr : ∀ q : Nat, (q < t ∨ t + 8 < q) → h q = h q := fun _ _ => rfl
  refine x_aload_n D_4_addDish_0 rfl ?_
  refine x_getfield D_4_addDish_1 f_4_46 (by assumption) rfl ?_
  refine x_iconst D_4_addDish_4 ?_
  refine x_icmp_ge D_4_addDish_5 ⟨by omega, by omega⟩ ⟨by omega, by omega⟩ (fun c5 => ?_) (fun c5 => ?_)
  · refine x_iconst D_4_addDish_22 ?_
    refine x_ireturn D_4_addDish_23 rfl (by first | rfl | exact nb_bi _ | decide +kernel) rfl ?_
    exact TQ2.f (fun e => by have := e.1; have := e.2; omega) ⟨a0, a1, a2, a3, a4, a5, a6, a7, a8⟩ hfr
  refine x_iload_n D_4_addDish_8 rfl ?_
  refine x_aload_n D_4_addDish_9 rfl ?_
  refine x_getfield D_4_addDish_10 f_4_36 (by assumption) rfl ?_
  refine x_icmp_ge D_4_addDish_13 ⟨by omega, by omega⟩ ⟨by omega, by omega⟩ (fun c13 => ?_) (fun c13 => ?_)
  · refine x_iconst D_4_addDish_22 ?_
    refine x_ireturn D_4_addDish_23 rfl (by first | rfl | exact nb_bi _ | decide +kernel) rfl ?_
    exact TQ2.f (fun e => by have := e.1; have := e.2; omega) ⟨a0, a1, a2, a3, a4, a5, a6, a7, a8⟩ hfr
  refine x_iload_n D_4_addDish_16 rfl ?_
  refine x_bipush D_4_addDish_17 (by decide +kernel) ?_
  refine x_icmp_le D_4_addDish_19 ⟨by omega, by omega⟩ ⟨by omega, by omega⟩ (fun c19 => ?_) (fun c19 => ?_)
  · refine x_aload_n D_4_addDish_24 rfl ?_
    refine x_getfield D_4_addDish_25 f_4_30 (by assumption) rfl ?_
    refine x_aload_n D_4_addDish_28 rfl ?_
    refine x_getfield D_4_addDish_29 f_4_46 (by assumption) rfl ?_
    refine x_iload_n D_4_addDish_32 rfl ?_
    refine x_iastore D_4_addDish_33 (by assumption) (by omega) (by omega) rfl (fun h33 e33 n33 => ?_)
    first | (replace a0 := (n33 _ (by omega)).trans a0) | (replace a0 := e33)
    first | (replace a1 := (n33 _ (by omega)).trans a1) | (replace a1 := e33)
    first | (replace a2 := (n33 _ (by omega)).trans a2) | (replace a2 := e33)
    first | (replace a3 := (n33 _ (by omega)).trans a3) | (replace a3 := e33)
    first | (replace a4 := (n33 _ (by omega)).trans a4) | (replace a4 := e33)
    first | (replace a5 := (n33 _ (by omega)).trans a5) | (replace a5 := e33)
    first | (replace a6 := (n33 _ (by omega)).trans a6) | (replace a6 := e33)
    first | (replace a7 := (n33 _ (by omega)).trans a7) | (replace a7 := e33)
    first | (replace a8 := (n33 _ (by omega)).trans a8) | (replace a8 := e33)
    replace hfr := fun q hq => (n33 q (by omega)).trans (hfr q hq)
    refine x_aload_n D_4_addDish_34 rfl ?_
    refine x_getfield D_4_addDish_35 f_4_33 (by assumption) rfl ?_
    refine x_aload_n D_4_addDish_38 rfl ?_
    refine x_getfield D_4_addDish_39 f_4_46 (by assumption) rfl ?_
    refine x_iload_n D_4_addDish_42 rfl ?_
    refine x_iconst D_4_addDish_43 ?_
    refine x_isub D_4_addDish_44 ?_
    refine x_iastore D_4_addDish_45 (by assumption) (by omega) (by omega) rfl (fun h45 e45 n45 => ?_)
    first | (replace a0 := (n45 _ (by omega)).trans a0) | (replace a0 := e45)
    first | (replace a1 := (n45 _ (by omega)).trans a1) | (replace a1 := e45)
    first | (replace a2 := (n45 _ (by omega)).trans a2) | (replace a2 := e45)
    first | (replace a3 := (n45 _ (by omega)).trans a3) | (replace a3 := e45)
    first | (replace a4 := (n45 _ (by omega)).trans a4) | (replace a4 := e45)
    first | (replace a5 := (n45 _ (by omega)).trans a5) | (replace a5 := e45)
    first | (replace a6 := (n45 _ (by omega)).trans a6) | (replace a6 := e45)
    first | (replace a7 := (n45 _ (by omega)).trans a7) | (replace a7 := e45)
    first | (replace a8 := (n45 _ (by omega)).trans a8) | (replace a8 := e45)
    replace hfr := fun q hq => (n45 q (by omega)).trans (hfr q hq)
    refine x_aload_n D_4_addDish_46 rfl ?_
    refine x_dup D_4_addDish_47 rfl ?_
    refine x_getfield D_4_addDish_48 f_4_46 (by assumption) rfl ?_
    refine x_iconst D_4_addDish_51 ?_
    refine x_iadd D_4_addDish_52 ?_
    refine x_putI D_4_addDish_53 f_4_46 (by assumption) (by decide +kernel) rfl (fun h53 e53 n53 => ?_)
    simp only [List.set_cons_zero, List.set_cons_succ] at e53
    first | (replace a0 := (n53 _ (by omega)).trans a0) | (replace a0 := e53)
    first | (replace a1 := (n53 _ (by omega)).trans a1) | (replace a1 := e53)
    first | (replace a2 := (n53 _ (by omega)).trans a2) | (replace a2 := e53)
    first | (replace a3 := (n53 _ (by omega)).trans a3) | (replace a3 := e53)
    first | (replace a4 := (n53 _ (by omega)).trans a4) | (replace a4 := e53)
    first | (replace a5 := (n53 _ (by omega)).trans a5) | (replace a5 := e53)
    first | (replace a6 := (n53 _ (by omega)).trans a6) | (replace a6 := e53)
    first | (replace a7 := (n53 _ (by omega)).trans a7) | (replace a7 := e53)
    first | (replace a8 := (n53 _ (by omega)).trans a8) | (replace a8 := e53)
    replace hfr := fun q hq => (n53 q (by omega)).trans (hfr q hq)
    refine x_iconst D_4_addDish_56 ?_
    refine x_ireturn D_4_addDish_57 rfl (by first | rfl | exact nb_bi _ | decide +kernel) rfl ?_
    refine TQ2.t ⟨by omega, by omega, by omega⟩ ?_ hfr
    refine ⟨a0, a1, a2, a3, a4, a5, a6, ?_, ?_⟩
    · rw [a7]
      exact congrArg some (ia_ext fun j _ _ => by simp [addDi, up2, ups])
    · rw [a8]
      exact congrArg some (ia_ext fun j _ _ => by simp [addDi, up2, ups])
  refine x_iconst D_4_addDish_22 ?_
  refine x_ireturn D_4_addDish_23 rfl (by first | rfl | exact nb_bi _ | decide +kernel) rfl ?_
  exact TQ2.f (fun e => by have := e.1; have := e.2; omega) ⟨a0, a1, a2, a3, a4, a5, a6, a7, a8⟩ hfr
theorem c_4_addSaying {d : Nat} (hd : 0 ≤ d) {z : Nat × Nat} {h : Hp} {t : Nat} {T : TT} {a b c k : Int} (hT : TabAt h t T) (hk : TabOk T) (ha : 0 ≤ a ∧ a ≤ 99) (hb : 0 ≤ b ∧ b ≤ 99) (hc : 0 ≤ c ∧ c ≤ 99) (hkk : 0 ≤ k ∧ k ≤ 99) : Ct d m_4_addSaying [.ref t, vi a, vi b, vi c, vi k] z z h (TQ2 t h (okW T a b c k) T (addW T a b c k)) := by
  refine Ct.of (by decide) ⟨Nat.le_refl _, Nat.le_refl _⟩ (Nat.le_of_ble_eq_true rfl) ?_
  obtain ⟨a0, a1, a2, a3, a4, a5, a6, a7, a8⟩ := hT
  have k0 := hk.1
  have k4 := hk.2.2.1
  have k5 := hk.2.2.2.2.2.2.2.1
  have hfr : ∀ q : Nat, (q < t ∨ t + 8 < q) → h q = h q := fun _ _ => rfl
  refine x_aload_n D_4_addSaying_0 rfl ?_
  refine x_getfield D_4_addSaying_1 f_4_43 (by assumption) rfl ?_
  refine x_bipush D_4_addSaying_4 (by decide +kernel) ?_
  refine x_icmp_ge D_4_addSaying_6 ⟨by omega, by omega⟩ ⟨by omega, by omega⟩ (fun c6 => ?_) (fun c6 => ?_)
  · refine x_iconst D_4_addSaying_28 ?_
    refine x_ireturn D_4_addSaying_29 rfl (by first | rfl | exact nb_bi _ | decide +kernel) rfl ?_
    exact TQ2.f (fun e => by have := e.1; have := e.2.1; have := e.2.2.1; have := e.2.2.2.1; omega) ⟨a0, a1, a2, a3, a4, a5, a6, a7, a8⟩ hfr
  refine x_iload_n D_4_addSaying_9 rfl ?_
  refine x_aload_n D_4_addSaying_10 rfl ?_
  refine x_getfield D_4_addSaying_11 f_4_36 (by assumption) rfl ?_
  refine x_icmp_ge D_4_addSaying_14 ⟨by omega, by omega⟩ ⟨by omega, by omega⟩ (fun c14 => ?_) (fun c14 => ?_)
  · refine x_iconst D_4_addSaying_28 ?_
    refine x_ireturn D_4_addSaying_29 rfl (by first | rfl | exact nb_bi _ | decide +kernel) rfl ?_
    exact TQ2.f (fun e => by have := e.1; have := e.2.1; have := e.2.2.1; have := e.2.2.2.1; omega) ⟨a0, a1, a2, a3, a4, a5, a6, a7, a8⟩ hfr
  refine x_iload_n D_4_addSaying_17 rfl ?_
  refine x_iconst D_4_addSaying_18 ?_
  refine x_icmp_lt D_4_addSaying_19 ⟨by omega, by omega⟩ ⟨by omega, by omega⟩ (fun c19 => ?_) (fun c19 => ?_)
  · refine x_iconst D_4_addSaying_28 ?_
    refine x_ireturn D_4_addSaying_29 rfl (by first | rfl | exact nb_bi _ | decide +kernel) rfl ?_
    exact TQ2.f (fun e => by have := e.1; have := e.2.1; have := e.2.2.1; have := e.2.2.2.1; omega) ⟨a0, a1, a2, a3, a4, a5, a6, a7, a8⟩ hfr
  refine x_iload_n D_4_addSaying_22 rfl ?_
  refine x_bipush D_4_addSaying_23 (by decide +kernel) ?_
  refine x_icmp_le D_4_addSaying_25 ⟨by omega, by omega⟩ ⟨by omega, by omega⟩ (fun c25 => ?_) (fun c25 => ?_)
  · refine x_iload D_4_addSaying_30 rfl ?_
    refine x_bipush D_4_addSaying_32 (by decide +kernel) ?_
    refine x_icmp_eq D_4_addSaying_34 ⟨by omega, by omega⟩ ⟨by omega, by omega⟩ (fun c34 => ?_) (fun c34 => ?_)
    · refine x_aload_n D_4_addSaying_59 rfl ?_
      refine x_getfield D_4_addSaying_60 f_4_18 (by assumption) rfl ?_
      refine x_aload_n D_4_addSaying_63 rfl ?_
      refine x_getfield D_4_addSaying_64 f_4_43 (by assumption) rfl ?_
      refine x_iload_n D_4_addSaying_67 rfl ?_
      refine x_iastore D_4_addSaying_68 (by assumption) (by omega) (by omega) rfl (fun h68 e68 n68 => ?_)
      first | (replace a0 := (n68 _ (by omega)).trans a0) | (replace a0 := e68)
      first | (replace a1 := (n68 _ (by omega)).trans a1) | (replace a1 := e68)
      first | (replace a2 := (n68 _ (by omega)).trans a2) | (replace a2 := e68)
      first | (replace a3 := (n68 _ (by omega)).trans a3) | (replace a3 := e68)
      first | (replace a4 := (n68 _ (by omega)).trans a4) | (replace a4 := e68)
      first | (replace a5 := (n68 _ (by omega)).trans a5) | (replace a5 := e68)
      first | (replace a6 := (n68 _ (by omega)).trans a6) | (replace a6 := e68)
      first | (replace a7 := (n68 _ (by omega)).trans a7) | (replace a7 := e68)
      first | (replace a8 := (n68 _ (by omega)).trans a8) | (replace a8 := e68)
      replace hfr := fun q hq => (n68 q (by omega)).trans (hfr q hq)
      refine x_aload_n D_4_addSaying_69 rfl ?_
      refine x_getfield D_4_addSaying_70 f_4_21 (by assumption) rfl ?_
      refine x_aload_n D_4_addSaying_73 rfl ?_
      refine x_getfield D_4_addSaying_74 f_4_43 (by assumption) rfl ?_
      refine x_iload_n D_4_addSaying_77 rfl ?_
      refine x_iastore D_4_addSaying_78 (by assumption) (by omega) (by omega) rfl (fun h78 e78 n78 => ?_)
      first | (replace a0 := (n78 _ (by omega)).trans a0) | (replace a0 := e78)
      first | (replace a1 := (n78 _ (by omega)).trans a1) | (replace a1 := e78)
      first | (replace a2 := (n78 _ (by omega)).trans a2) | (replace a2 := e78)
      first | (replace a3 := (n78 _ (by omega)).trans a3) | (replace a3 := e78)
      first | (replace a4 := (n78 _ (by omega)).trans a4) | (replace a4 := e78)
      first | (replace a5 := (n78 _ (by omega)).trans a5) | (replace a5 := e78)
      first | (replace a6 := (n78 _ (by omega)).trans a6) | (replace a6 := e78)
      first | (replace a7 := (n78 _ (by omega)).trans a7) | (replace a7 := e78)
      first | (replace a8 := (n78 _ (by omega)).trans a8) | (replace a8 := e78)
      replace hfr := fun q hq => (n78 q (by omega)).trans (hfr q hq)
      refine x_aload_n D_4_addSaying_79 rfl ?_
      refine x_getfield D_4_addSaying_80 f_4_24 (by assumption) rfl ?_
      refine x_aload_n D_4_addSaying_83 rfl ?_
      refine x_getfield D_4_addSaying_84 f_4_43 (by assumption) rfl ?_
      refine x_iload_n D_4_addSaying_87 rfl ?_
      refine x_iastore D_4_addSaying_88 (by assumption) (by omega) (by omega) rfl (fun h88 e88 n88 => ?_)
      first | (replace a0 := (n88 _ (by omega)).trans a0) | (replace a0 := e88)
      first | (replace a1 := (n88 _ (by omega)).trans a1) | (replace a1 := e88)
      first | (replace a2 := (n88 _ (by omega)).trans a2) | (replace a2 := e88)
      first | (replace a3 := (n88 _ (by omega)).trans a3) | (replace a3 := e88)
      first | (replace a4 := (n88 _ (by omega)).trans a4) | (replace a4 := e88)
      first | (replace a5 := (n88 _ (by omega)).trans a5) | (replace a5 := e88)
      first | (replace a6 := (n88 _ (by omega)).trans a6) | (replace a6 := e88)
      first | (replace a7 := (n88 _ (by omega)).trans a7) | (replace a7 := e88)
      first | (replace a8 := (n88 _ (by omega)).trans a8) | (replace a8 := e88)
      replace hfr := fun q hq => (n88 q (by omega)).trans (hfr q hq)
      refine x_aload_n D_4_addSaying_89 rfl ?_
      refine x_getfield D_4_addSaying_90 f_4_27 (by assumption) rfl ?_
      refine x_aload_n D_4_addSaying_93 rfl ?_
      refine x_getfield D_4_addSaying_94 f_4_43 (by assumption) rfl ?_
      refine x_iload D_4_addSaying_97 rfl ?_
      refine x_bipush D_4_addSaying_99 (by decide +kernel) ?_
      refine x_icmp_ne D_4_addSaying_101 ⟨by omega, by omega⟩ ⟨by omega, by omega⟩ (fun c101 => ?_) (fun c101 => ?_)
      · refine x_iload D_4_addSaying_109 rfl ?_
        refine x_iastore D_4_addSaying_111 (by assumption) (by omega) (by omega) rfl (fun h111 e111 n111 => ?_)
        first | (replace a0 := (n111 _ (by omega)).trans a0) | (replace a0 := e111)
        first | (replace a1 := (n111 _ (by omega)).trans a1) | (replace a1 := e111)
        first | (replace a2 := (n111 _ (by omega)).trans a2) | (replace a2 := e111)
        first | (replace a3 := (n111 _ (by omega)).trans a3) | (replace a3 := e111)
        first | (replace a4 := (n111 _ (by omega)).trans a4) | (replace a4 := e111)
        first | (replace a5 := (n111 _ (by omega)).trans a5) | (replace a5 := e111)
        first | (replace a6 := (n111 _ (by omega)).trans a6) | (replace a6 := e111)
        first | (replace a7 := (n111 _ (by omega)).trans a7) | (replace a7 := e111)
        first | (replace a8 := (n111 _ (by omega)).trans a8) | (replace a8 := e111)
        replace hfr := fun q hq => (n111 q (by omega)).trans (hfr q hq)
        refine x_aload_n D_4_addSaying_112 rfl ?_
        refine x_dup D_4_addSaying_113 rfl ?_
        refine x_getfield D_4_addSaying_114 f_4_43 (by assumption) rfl ?_
        refine x_iconst D_4_addSaying_117 ?_
        refine x_iadd D_4_addSaying_118 ?_
        refine x_putI D_4_addSaying_119 f_4_43 (by assumption) (by decide +kernel) rfl (fun h119 e119 n119 => ?_)
        simp only [List.set_cons_zero, List.set_cons_succ] at e119
        first | (replace a0 := (n119 _ (by omega)).trans a0) | (replace a0 := e119)
        first | (replace a1 := (n119 _ (by omega)).trans a1) | (replace a1 := e119)
        first | (replace a2 := (n119 _ (by omega)).trans a2) | (replace a2 := e119)
        first | (replace a3 := (n119 _ (by omega)).trans a3) | (replace a3 := e119)
        first | (replace a4 := (n119 _ (by omega)).trans a4) | (replace a4 := e119)
        first | (replace a5 := (n119 _ (by omega)).trans a5) | (replace a5 := e119)
        first | (replace a6 := (n119 _ (by omega)).trans a6) | (replace a6 := e119)
        first | (replace a7 := (n119 _ (by omega)).trans a7) | (replace a7 := e119)
        first | (replace a8 := (n119 _ (by omega)).trans a8) | (replace a8 := e119)
        replace hfr := fun q hq => (n119 q (by omega)).trans (hfr q hq)
        refine x_iconst D_4_addSaying_122 ?_
        refine x_ireturn D_4_addSaying_123 rfl (by first | rfl | exact nb_bi _ | decide +kernel) rfl ?_
        first
        | (exfalso; omega)
        | (refine TQ2.t ⟨by omega, by omega, by omega, by omega, by first | exact Or.inl (by omega) | exact Or.inr ⟨by omega, by omega⟩⟩ ⟨a0, a1, a2, ?_, ?_, ?_, ?_, a7, a8⟩ hfr <;> first | (rw [a3]; exact congrArg some (ia_ext fun j _ _ => by simp [addW, up2, ups])) | (rw [a4]; exact congrArg some (ia_ext fun j _ _ => by simp [addW, up2, ups])) | (rw [a5]; exact congrArg some (ia_ext fun j _ _ => by simp [addW, up2, ups])) | (rw [a6]; exact congrArg some (ia_ext fun j _ _ => by simp [addW, up2, ups, c101])))
      refine x_bipush D_4_addSaying_104 (by decide +kernel) ?_
      refine x_goto D_4_addSaying_106 ?_
      refine x_iastore D_4_addSaying_111 (by assumption) (by omega) (by omega) rfl (fun h111 e111 n111 => ?_)
      first | (replace a0 := (n111 _ (by omega)).trans a0) | (replace a0 := e111)
      first | (replace a1 := (n111 _ (by omega)).trans a1) | (replace a1 := e111)
      first | (replace a2 := (n111 _ (by omega)).trans a2) | (replace a2 := e111)
      first | (replace a3 := (n111 _ (by omega)).trans a3) | (replace a3 := e111)
      first | (replace a4 := (n111 _ (by omega)).trans a4) | (replace a4 := e111)
      first | (replace a5 := (n111 _ (by omega)).trans a5) | (replace a5 := e111)
      first | (replace a6 := (n111 _ (by omega)).trans a6) | (replace a6 := e111)
      first | (replace a7 := (n111 _ (by omega)).trans a7) | (replace a7 := e111)
      first | (replace a8 := (n111 _ (by omega)).trans a8) | (replace a8 := e111)
      replace hfr := fun q hq => (n111 q (by omega)).trans (hfr q hq)
      refine x_aload_n D_4_addSaying_112 rfl ?_
      refine x_dup D_4_addSaying_113 rfl ?_
      refine x_getfield D_4_addSaying_114 f_4_43 (by assumption) rfl ?_
      refine x_iconst D_4_addSaying_117 ?_
      refine x_iadd D_4_addSaying_118 ?_
      refine x_putI D_4_addSaying_119 f_4_43 (by assumption) (by decide +kernel) rfl (fun h119 e119 n119 => ?_)
      simp only [List.set_cons_zero, List.set_cons_succ] at e119
      first | (replace a0 := (n119 _ (by omega)).trans a0) | (replace a0 := e119)
      first | (replace a1 := (n119 _ (by omega)).trans a1) | (replace a1 := e119)
      first | (replace a2 := (n119 _ (by omega)).trans a2) | (replace a2 := e119)
      first | (replace a3 := (n119 _ (by omega)).trans a3) | (replace a3 := e119)
      first | (replace a4 := (n119 _ (by omega)).trans a4) | (replace a4 := e119)
      first | (replace a5 := (n119 _ (by omega)).trans a5) | (replace a5 := e119)
      first | (replace a6 := (n119 _ (by omega)).trans a6) | (replace a6 := e119)
      first | (replace a7 := (n119 _ (by omega)).trans a7) | (replace a7 := e119)
      first | (replace a8 := (n119 _ (by omega)).trans a8) | (replace a8 := e119)
      replace hfr := fun q hq => (n119 q (by omega)).trans (hfr q hq)
      refine x_iconst D_4_addSaying_122 ?_
      refine x_ireturn D_4_addSaying_123 rfl (by first | rfl | exact nb_bi _ | decide +kernel) rfl ?_
      first
      | (exfalso; omega)
      | (refine TQ2.t ⟨by omega, by omega, by omega, by omega, by first | exact Or.inl (by omega) | exact Or.inr ⟨by omega, by omega⟩⟩ ⟨a0, a1, a2, ?_, ?_, ?_, ?_, a7, a8⟩ hfr <;> first | (rw [a3]; exact congrArg some (ia_ext fun j _ _ => by simp [addW, up2, ups])) | (rw [a4]; exact congrArg some (ia_ext fun j _ _ => by simp [addW, up2, ups])) | (rw [a5]; exact congrArg some (ia_ext fun j _ _ => by simp [addW, up2, ups])) | (rw [a6]; exact congrArg some (ia_ext fun j _ _ => by simp [addW, up2, ups, c101])))
    refine x_iload D_4_addSaying_37 rfl ?_
    refine x_aload_n D_4_addSaying_39 rfl ?_
    refine x_getfield D_4_addSaying_40 f_4_43 (by assumption) rfl ?_
    refine x_icmp_ge D_4_addSaying_43 ⟨by omega, by omega⟩ ⟨by omega, by omega⟩ (fun c43 => ?_) (fun c43 => ?_)
    · refine x_iconst D_4_addSaying_57 ?_
      refine x_ireturn D_4_addSaying_58 rfl (by first | rfl | exact nb_bi _ | decide +kernel) rfl ?_
      exact TQ2.f (fun e => by rcases e.2.2.2.2 with e | e <;> first | omega | exact absurd (by omega) e.2) ⟨a0, a1, a2, a3, a4, a5, a6, a7, a8⟩ hfr
    refine x_aload_n D_4_addSaying_46 rfl ?_
    refine x_getfield D_4_addSaying_47 f_4_18 (by assumption) rfl ?_
    refine x_iload D_4_addSaying_50 rfl ?_
    have hsp := (k5 k (by omega) (by omega)).1
    refine x_iaload D_4_addSaying_52 (by assumption) (by omega) (by omega) rfl ?_
    refine x_iload_n D_4_addSaying_53 rfl ?_
    refine x_icmp_ne D_4_addSaying_54 ⟨by omega, by omega⟩ ⟨by omega, by omega⟩ (fun c54 => ?_) (fun c54 => ?_)
    · refine x_aload_n D_4_addSaying_59 rfl ?_
      refine x_getfield D_4_addSaying_60 f_4_18 (by assumption) rfl ?_
      refine x_aload_n D_4_addSaying_63 rfl ?_
      refine x_getfield D_4_addSaying_64 f_4_43 (by assumption) rfl ?_
      refine x_iload_n D_4_addSaying_67 rfl ?_
      refine x_iastore D_4_addSaying_68 (by assumption) (by omega) (by omega) rfl (fun h68 e68 n68 => ?_)
      first | (replace a0 := (n68 _ (by omega)).trans a0) | (replace a0 := e68)
      first | (replace a1 := (n68 _ (by omega)).trans a1) | (replace a1 := e68)
      first | (replace a2 := (n68 _ (by omega)).trans a2) | (replace a2 := e68)
      first | (replace a3 := (n68 _ (by omega)).trans a3) | (replace a3 := e68)
      first | (replace a4 := (n68 _ (by omega)).trans a4) | (replace a4 := e68)
      first | (replace a5 := (n68 _ (by omega)).trans a5) | (replace a5 := e68)
      first | (replace a6 := (n68 _ (by omega)).trans a6) | (replace a6 := e68)
      first | (replace a7 := (n68 _ (by omega)).trans a7) | (replace a7 := e68)
      first | (replace a8 := (n68 _ (by omega)).trans a8) | (replace a8 := e68)
      replace hfr := fun q hq => (n68 q (by omega)).trans (hfr q hq)
      refine x_aload_n D_4_addSaying_69 rfl ?_
      refine x_getfield D_4_addSaying_70 f_4_21 (by assumption) rfl ?_
      refine x_aload_n D_4_addSaying_73 rfl ?_
      refine x_getfield D_4_addSaying_74 f_4_43 (by assumption) rfl ?_
      refine x_iload_n D_4_addSaying_77 rfl ?_
      refine x_iastore D_4_addSaying_78 (by assumption) (by omega) (by omega) rfl (fun h78 e78 n78 => ?_)
      first | (replace a0 := (n78 _ (by omega)).trans a0) | (replace a0 := e78)
      first | (replace a1 := (n78 _ (by omega)).trans a1) | (replace a1 := e78)
      first | (replace a2 := (n78 _ (by omega)).trans a2) | (replace a2 := e78)
      first | (replace a3 := (n78 _ (by omega)).trans a3) | (replace a3 := e78)
      first | (replace a4 := (n78 _ (by omega)).trans a4) | (replace a4 := e78)
      first | (replace a5 := (n78 _ (by omega)).trans a5) | (replace a5 := e78)
      first | (replace a6 := (n78 _ (by omega)).trans a6) | (replace a6 := e78)
      first | (replace a7 := (n78 _ (by omega)).trans a7) | (replace a7 := e78)
      first | (replace a8 := (n78 _ (by omega)).trans a8) | (replace a8 := e78)
      replace hfr := fun q hq => (n78 q (by omega)).trans (hfr q hq)
      refine x_aload_n D_4_addSaying_79 rfl ?_
      refine x_getfield D_4_addSaying_80 f_4_24 (by assumption) rfl ?_
      refine x_aload_n D_4_addSaying_83 rfl ?_
      refine x_getfield D_4_addSaying_84 f_4_43 (by assumption) rfl ?_
      refine x_iload_n D_4_addSaying_87 rfl ?_
      refine x_iastore D_4_addSaying_88 (by assumption) (by omega) (by omega) rfl (fun h88 e88 n88 => ?_)
      first | (replace a0 := (n88 _ (by omega)).trans a0) | (replace a0 := e88)
      first | (replace a1 := (n88 _ (by omega)).trans a1) | (replace a1 := e88)
      first | (replace a2 := (n88 _ (by omega)).trans a2) | (replace a2 := e88)
      first | (replace a3 := (n88 _ (by omega)).trans a3) | (replace a3 := e88)
      first | (replace a4 := (n88 _ (by omega)).trans a4) | (replace a4 := e88)
      first | (replace a5 := (n88 _ (by omega)).trans a5) | (replace a5 := e88)
      first | (replace a6 := (n88 _ (by omega)).trans a6) | (replace a6 := e88)
      first | (replace a7 := (n88 _ (by omega)).trans a7) | (replace a7 := e88)
      first | (replace a8 := (n88 _ (by omega)).trans a8) | (replace a8 := e88)
      replace hfr := fun q hq => (n88 q (by omega)).trans (hfr q hq)
      refine x_aload_n D_4_addSaying_89 rfl ?_
      refine x_getfield D_4_addSaying_90 f_4_27 (by assumption) rfl ?_
      refine x_aload_n D_4_addSaying_93 rfl ?_
      refine x_getfield D_4_addSaying_94 f_4_43 (by assumption) rfl ?_
      refine x_iload D_4_addSaying_97 rfl ?_
      refine x_bipush D_4_addSaying_99 (by decide +kernel) ?_
      refine x_icmp_ne D_4_addSaying_101 ⟨by omega, by omega⟩ ⟨by omega, by omega⟩ (fun c101 => ?_) (fun c101 => ?_)
      · refine x_iload D_4_addSaying_109 rfl ?_
        refine x_iastore D_4_addSaying_111 (by assumption) (by omega) (by omega) rfl (fun h111 e111 n111 => ?_)
        first | (replace a0 := (n111 _ (by omega)).trans a0) | (replace a0 := e111)
        first | (replace a1 := (n111 _ (by omega)).trans a1) | (replace a1 := e111)
        first | (replace a2 := (n111 _ (by omega)).trans a2) | (replace a2 := e111)
        first | (replace a3 := (n111 _ (by omega)).trans a3) | (replace a3 := e111)
        first | (replace a4 := (n111 _ (by omega)).trans a4) | (replace a4 := e111)
        first | (replace a5 := (n111 _ (by omega)).trans a5) | (replace a5 := e111)
        first | (replace a6 := (n111 _ (by omega)).trans a6) | (replace a6 := e111)
        first | (replace a7 := (n111 _ (by omega)).trans a7) | (replace a7 := e111)
        first | (replace a8 := (n111 _ (by omega)).trans a8) | (replace a8 := e111)
        replace hfr := fun q hq => (n111 q (by omega)).trans (hfr q hq)
        refine x_aload_n D_4_addSaying_112 rfl ?_
        refine x_dup D_4_addSaying_113 rfl ?_
        refine x_getfield D_4_addSaying_114 f_4_43 (by assumption) rfl ?_
        refine x_iconst D_4_addSaying_117 ?_
        refine x_iadd D_4_addSaying_118 ?_
        refine x_putI D_4_addSaying_119 f_4_43 (by assumption) (by decide +kernel) rfl (fun h119 e119 n119 => ?_)
        simp only [List.set_cons_zero, List.set_cons_succ] at e119
        first | (replace a0 := (n119 _ (by omega)).trans a0) | (replace a0 := e119)
        first | (replace a1 := (n119 _ (by omega)).trans a1) | (replace a1 := e119)
        first | (replace a2 := (n119 _ (by omega)).trans a2) | (replace a2 := e119)
        first | (replace a3 := (n119 _ (by omega)).trans a3) | (replace a3 := e119)
        first | (replace a4 := (n119 _ (by omega)).trans a4) | (replace a4 := e119)
        first | (replace a5 := (n119 _ (by omega)).trans a5) | (replace a5 := e119)
        first | (replace a6 := (n119 _ (by omega)).trans a6) | (replace a6 := e119)
        first | (replace a7 := (n119 _ (by omega)).trans a7) | (replace a7 := e119)
        first | (replace a8 := (n119 _ (by omega)).trans a8) | (replace a8 := e119)
        replace hfr := fun q hq => (n119 q (by omega)).trans (hfr q hq)
        refine x_iconst D_4_addSaying_122 ?_
        refine x_ireturn D_4_addSaying_123 rfl (by first | rfl | exact nb_bi _ | decide +kernel) rfl ?_
        first
        | (exfalso; omega)
        | (refine TQ2.t ⟨by omega, by omega, by omega, by omega, by first | exact Or.inl (by omega) | exact Or.inr ⟨by omega, by omega⟩⟩ ⟨a0, a1, a2, ?_, ?_, ?_, ?_, a7, a8⟩ hfr <;> first | (rw [a3]; exact congrArg some (ia_ext fun j _ _ => by simp [addW, up2, ups])) | (rw [a4]; exact congrArg some (ia_ext fun j _ _ => by simp [addW, up2, ups])) | (rw [a5]; exact congrArg some (ia_ext fun j _ _ => by simp [addW, up2, ups])) | (rw [a6]; exact congrArg some (ia_ext fun j _ _ => by simp [addW, up2, ups, c101])))
      refine x_bipush D_4_addSaying_104 (by decide +kernel) ?_
      refine x_goto D_4_addSaying_106 ?_
      refine x_iastore D_4_addSaying_111 (by assumption) (by omega) (by omega) rfl (fun h111 e111 n111 => ?_)
      first | (replace a0 := (n111 _ (by omega)).trans a0) | (replace a0 := e111)
      first | (replace a1 := (n111 _ (by omega)).trans a1) | (replace a1 := e111)
      first | (replace a2 := (n111 _ (by omega)).trans a2) | (replace a2 := e111)
      first | (replace a3 := (n111 _ (by omega)).trans a3) | (replace a3 := e111)
      first | (replace a4 := (n111 _ (by omega)).trans a4) | (replace a4 := e111)
      first | (replace a5 := (n111 _ (by omega)).trans a5) | (replace a5 := e111)
      first | (replace a6 := (n111 _ (by omega)).trans a6) | (replace a6 := e111)
      first | (replace a7 := (n111 _ (by omega)).trans a7) | (replace a7 := e111)
      first | (replace a8 := (n111 _ (by omega)).trans a8) | (replace a8 := e111)
      replace hfr := fun q hq => (n111 q (by omega)).trans (hfr q hq)
      refine x_aload_n D_4_addSaying_112 rfl ?_
      refine x_dup D_4_addSaying_113 rfl ?_
      refine x_getfield D_4_addSaying_114 f_4_43 (by assumption) rfl ?_
      refine x_iconst D_4_addSaying_117 ?_
      refine x_iadd D_4_addSaying_118 ?_
      refine x_putI D_4_addSaying_119 f_4_43 (by assumption) (by decide +kernel) rfl (fun h119 e119 n119 => ?_)
      simp only [List.set_cons_zero, List.set_cons_succ] at e119
      first | (replace a0 := (n119 _ (by omega)).trans a0) | (replace a0 := e119)
      first | (replace a1 := (n119 _ (by omega)).trans a1) | (replace a1 := e119)
      first | (replace a2 := (n119 _ (by omega)).trans a2) | (replace a2 := e119)
      first | (replace a3 := (n119 _ (by omega)).trans a3) | (replace a3 := e119)
      first | (replace a4 := (n119 _ (by omega)).trans a4) | (replace a4 := e119)
      first | (replace a5 := (n119 _ (by omega)).trans a5) | (replace a5 := e119)
      first | (replace a6 := (n119 _ (by omega)).trans a6) | (replace a6 := e119)
      first | (replace a7 := (n119 _ (by omega)).trans a7) | (replace a7 := e119)
      first | (replace a8 := (n119 _ (by omega)).trans a8) | (replace a8 := e119)
      replace hfr := fun q hq => (n119 q (by omega)).trans (hfr q hq)
      refine x_iconst D_4_addSaying_122 ?_
      refine x_ireturn D_4_addSaying_123 rfl (by first | rfl | exact nb_bi _ | decide +kernel) rfl ?_
      first
      | (exfalso; omega)
      | (refine TQ2.t ⟨by omega, by omega, by omega, by omega, by first | exact Or.inl (by omega) | exact Or.inr ⟨by omega, by omega⟩⟩ ⟨a0, a1, a2, ?_, ?_, ?_, ?_, a7, a8⟩ hfr <;> first | (rw [a3]; exact congrArg some (ia_ext fun j _ _ => by simp [addW, up2, ups])) | (rw [a4]; exact congrArg some (ia_ext fun j _ _ => by simp [addW, up2, ups])) | (rw [a5]; exact congrArg some (ia_ext fun j _ _ => by simp [addW, up2, ups])) | (rw [a6]; exact congrArg some (ia_ext fun j _ _ => by simp [addW, up2, ups, c101])))
    refine x_iconst D_4_addSaying_57 ?_
    refine x_ireturn D_4_addSaying_58 rfl (by first | rfl | exact nb_bi _ | decide +kernel) rfl ?_
    exact TQ2.f (fun e => by rcases e.2.2.2.2 with e | e <;> first | omega | exact absurd (by omega) e.2) ⟨a0, a1, a2, a3, a4, a5, a6, a7, a8⟩ hfr
  refine x_iconst D_4_addSaying_28 ?_
  refine x_ireturn D_4_addSaying_29 rfl (by first | rfl | exact nb_bi _ | decide +kernel) rfl ?_
  exact TQ2.f (fun e => by have := e.1; have := e.2.1; have := e.2.2.1; have := e.2.2.2.1; omega) ⟨a0, a1, a2, a3, a4, a5, a6, a7, a8⟩ hfr
end
section
abbrev AQ (t : Nat) (h0 : Hp) (T : TT) (lt : Int) (l : List Int) : Option Value → Hp → Prop := fun r h' => ((∃ T', addI T lt l T' ∧ r = some (vi 1) ∧ TabAt h' t T') ∨ ((∀ T', ¬ addI T lt l T') ∧ r = some (vi 0) ∧ TabAt h' t T)) ∧ ∀ q : Nat, (q < t ∨ t + 8 < q) → h' q = h0 q
theorem c_4_add {d : Nat} (hd : 1 ≤ d) {z : Nat × Nat} {h : Hp} {t nr : Nat} {T : TT} {N : Int → Int} {lt : Int} {l : List Int} (hT : TabAt h t T) (hk : TabOk T) (hN : h nr = some (ia 0 4 N)) (hlt : B3 lt) (hl : l.length ≤ 4) (hNl : ∀ j : Nat, j < l.length → N (j : Int) = l.getD j 0) (hv : ∀ v ∈ l, 0 ≤ v ∧ v ≤ 99) : Ct d m_4_add [.ref t, vi lt, .ref nr, vi (l.length : Int)] z z h (AQ t h T lt l) := by
  refine Ct.of (by decide) ⟨Nat.le_refl _, Nat.le_refl _⟩ (Nat.le_of_ble_eq_true rfl) ?_
  have hfr : ∀ q : Nat, (q < t ∨ t + 8 < q) → h q = h q := fun _ _ => rfl
  have bad : ∀ h' : Hp, (∀ q : Nat, (q < t ∨ t + 8 < q) → h' q = h q) → TabAt h' t T → (∀ T', ¬ addI T lt l T') → AQ t h T lt l (some (vi 0)) h' := fun h' hf ht hn => ⟨Or.inr ⟨hn, rfl, ht⟩, hf⟩
  refine x_aload_n D_4_add_0 rfl ?_
  refine x_alen D_4_add_1 (by assumption) ?_
  refine x_iconst D_4_add_2 ?_
  refine x_icmp_ge D_4_add_3 ⟨by omega, by omega⟩ ⟨by omega, by omega⟩ (fun c3 => ?_) (fun c3 => ?_)
  · refine x_iload_n D_4_add_8 rfl ?_
    by_cases w9_97 : lt = 97
    · refine x_lsw D_4_add_9 (tgt := 132) (off := 123) ⟨by omega, by omega⟩ (by decide +kernel) (by rw [w9_97]; decide +kernel) (by omega) ?_
      refine x_iload_n D_4_add_132 rfl ?_
      refine x_iconst D_4_add_133 ?_
      refine x_icmp_ne D_4_add_134 ⟨by omega, by omega⟩ ⟨by omega, by omega⟩ (fun c134 => ?_) (fun c134 => ?_)
      · refine x_iconst D_4_add_151 ?_
        refine x_ireturn D_4_add_152 rfl nb_0 rfl ?_
        refine bad _ hfr hT fun T' e => ?_
        rcases e with ⟨e, v, e2, -⟩ | ⟨e, v, e2, -⟩ | ⟨e, a, b, c, k, e2, -⟩ | ⟨e, v, e2, -⟩ | ⟨e, a, b, e2, -⟩ <;> first | omega | (rw [e2] at c134; exact c134 rfl)
      obtain ⟨v, rfl⟩ := len1 (l := l) (by omega)
      have hN0 : N 0 = v := hNl 0 (by simp)
      refine x_aload_n D_4_add_137 rfl ?_
      refine x_aload_n D_4_add_138 rfl ?_
      refine x_iconst D_4_add_139 ?_
      refine x_iaload D_4_add_140 (by assumption) (by omega) (by omega) rfl ?_
      refine x_invV (d' := d - 1) D_4_add_141 l_4_63 mi_4_setWindow (c_4_setWindow (v := N 0) (by omega) hT) (hT.1) rfl rfl (by omega) rfl (fun q => q) rfl rfl (fun r141 h141 q141 => ?_)
      obtain ⟨rfl, hT2, hf2⟩ := q141
      rw [hN0] at hT2
      rw [show vi 1 = vi (bi True) from by rw [bi_t trivial]]
      refine x_if_eqb D_4_add_144 (fun c144 => ?_) (fun c144 => ?_)
      · refine x_iconst D_4_add_151 ?_
        refine x_ireturn D_4_add_152 rfl (by first | rfl | exact nb_bi _ | decide +kernel) rfl ?_
        first
        | exact absurd trivial c144
        | exact ⟨Or.inl ⟨_, Or.inr (Or.inr (Or.inr (Or.inl ⟨by omega, v, rfl, rfl⟩))), rfl, hT2⟩, hf2⟩
      refine x_iconst D_4_add_147 ?_
      refine x_goto D_4_add_148 ?_
      refine x_ireturn D_4_add_152 rfl (by first | rfl | exact nb_bi _ | decide +kernel) rfl ?_
      first
      | exact absurd trivial c144
      | exact ⟨Or.inl ⟨_, Or.inr (Or.inr (Or.inr (Or.inl ⟨by omega, v, rfl, rfl⟩))), rfl, hT2⟩, hf2⟩
    by_cases w9_100 : lt = 100
    · refine x_lsw D_4_add_9 (tgt := 153) (off := 144) ⟨by omega, by omega⟩ (by decide +kernel) (by rw [w9_100]; decide +kernel) (by omega) ?_
      refine x_iload_n D_4_add_153 rfl ?_
      refine x_iconst D_4_add_154 ?_
      refine x_icmp_ne D_4_add_155 ⟨by omega, by omega⟩ ⟨by omega, by omega⟩ (fun c155 => ?_) (fun c155 => ?_)
      · refine x_iconst D_4_add_175 ?_
        refine x_ireturn D_4_add_176 rfl nb_0 rfl ?_
        refine bad _ hfr hT fun T' e => ?_
        rcases e with ⟨e, v, e2, -⟩ | ⟨e, v, e2, -⟩ | ⟨e, a, b, c, k, e2, -⟩ | ⟨e, v, e2, -⟩ | ⟨e, a, b, e2, -⟩ <;> first | omega | (rw [e2] at c155; exact c155 rfl)
      obtain ⟨v0, v1, rfl⟩ := len2 (l := l) (by omega)
      have hv0 := hv v0 (by simp)
      have hv1 := hv v1 (by simp)
      have hN0 : N 0 = v0 := hNl 0 (by simp)
      have hN1 : N 1 = v1 := hNl 1 (by simp)
      refine x_aload_n D_4_add_158 rfl ?_
      refine x_aload_n D_4_add_159 rfl ?_
      refine x_iconst D_4_add_160 ?_
      refine x_iaload D_4_add_161 (by assumption) (by omega) (by omega) rfl ?_
      refine x_aload_n D_4_add_162 rfl ?_
      refine x_iconst D_4_add_163 ?_
      refine x_iaload D_4_add_164 (by assumption) (by omega) (by omega) rfl ?_
      refine x_invV (d' := d - 1) D_4_add_165 l_4_66 mi_4_addDish (c_4_addDish (a := N 0) (b := N 1) (by omega) hT hk (by rw [hN0]; exact hv0) (by rw [hN1]; exact hv1)) (hT.1) rfl rfl (by omega) rfl (fun q => q) rfl rfl (fun r165 h165 q165 => ?_)
      obtain ⟨rfl, hT2, hf2⟩ := q165
      rw [hN0, hN1] at hT2
      refine x_if_eqb D_4_add_168 (fun c168 => ?_) (fun c168 => ?_)
      · refine x_iconst D_4_add_175 ?_
        refine x_ireturn D_4_add_176 rfl (by first | rfl | exact nb_bi _ | decide +kernel) rfl ?_
        first
        | (rw [hN0, hN1] at c168; rw [if_pos c168] at hT2; exact ⟨Or.inl ⟨_, Or.inr (Or.inr (Or.inr (Or.inr ⟨by omega, v0, v1, rfl, c168, rfl⟩))), rfl, hT2⟩, hf2⟩)
        | (rw [hN0, hN1] at c168; rw [if_neg c168] at hT2; refine bad _ hf2 hT2 fun T' e => ?_; rcases e with ⟨e, -⟩ | ⟨e, -⟩ | ⟨e, -⟩ | ⟨e, -⟩ | ⟨e, a, b, e2, e3, -⟩ <;> first | omega | (cases e2; exact c168 e3))
      refine x_iconst D_4_add_171 ?_
      refine x_goto D_4_add_172 ?_
      refine x_ireturn D_4_add_176 rfl (by first | rfl | exact nb_bi _ | decide +kernel) rfl ?_
      first
      | (rw [hN0, hN1] at c168; rw [if_pos c168] at hT2; exact ⟨Or.inl ⟨_, Or.inr (Or.inr (Or.inr (Or.inr ⟨by omega, v0, v1, rfl, c168, rfl⟩))), rfl, hT2⟩, hf2⟩)
      | (rw [hN0, hN1] at c168; rw [if_neg c168] at hT2; refine bad _ hf2 hT2 fun T' e => ?_; rcases e with ⟨e, -⟩ | ⟨e, -⟩ | ⟨e, -⟩ | ⟨e, -⟩ | ⟨e, a, b, e2, e3, -⟩ <;> first | omega | (cases e2; exact c168 e3))
    by_cases w9_103 : lt = 103
    · refine x_lsw D_4_add_9 (tgt := 81) (off := 72) ⟨by omega, by omega⟩ (by decide +kernel) (by rw [w9_103]; decide +kernel) (by omega) ?_
      refine x_iload_n D_4_add_81 rfl ?_
      refine x_iconst D_4_add_82 ?_
      refine x_icmp_ne D_4_add_83 ⟨by omega, by omega⟩ ⟨by omega, by omega⟩ (fun c83 => ?_) (fun c83 => ?_)
      · refine x_iconst D_4_add_100 ?_
        refine x_ireturn D_4_add_101 rfl nb_0 rfl ?_
        refine bad _ hfr hT fun T' e => ?_
        rcases e with ⟨e, v, e2, -⟩ | ⟨e, v, e2, -⟩ | ⟨e, a, b, c, k, e2, -⟩ | ⟨e, v, e2, -⟩ | ⟨e, a, b, e2, -⟩ <;> first | omega | (rw [e2] at c83; exact c83 rfl)
      obtain ⟨v, rfl⟩ := len1 (l := l) (by omega)
      have hv0 := hv v (List.mem_singleton.mpr rfl)
      have hN0 : N 0 = v := hNl 0 (by simp)
      refine x_aload_n D_4_add_86 rfl ?_
      refine x_aload_n D_4_add_87 rfl ?_
      refine x_iconst D_4_add_88 ?_
      refine x_iaload D_4_add_89 (by assumption) (by omega) (by omega) rfl ?_
      refine x_invV (d' := d - 1) D_4_add_90 l_4_56 mi_4_addGrain (c_4_addGrain (v := N 0) (by omega) hT hk (by rw [hN0]; exact ⟨by omega, by omega⟩)) (hT.1) rfl rfl (by omega) rfl (fun q => q) rfl rfl (fun r90 h90 q90 => ?_)
      obtain ⟨rfl, hT2, hf2⟩ := q90
      rw [hN0] at hT2
      refine x_if_eqb D_4_add_93 (fun c93 => ?_) (fun c93 => ?_)
      · refine x_iconst D_4_add_100 ?_
        refine x_ireturn D_4_add_101 rfl (by first | rfl | exact nb_bi _ | decide +kernel) rfl ?_
        first
        | (rw [hN0] at c93; rw [if_pos c93] at hT2; exact ⟨Or.inl ⟨_, Or.inr (Or.inl ⟨by omega, v, rfl, c93, rfl⟩), rfl, hT2⟩, hf2⟩)
        | (rw [hN0] at c93; rw [if_neg c93] at hT2; refine bad _ hf2 hT2 fun T' e => ?_; rcases e with ⟨e, -⟩ | ⟨e, v', e2, e3, -⟩ | ⟨e, -⟩ | ⟨e, -⟩ | ⟨e, -⟩ <;> first | omega | (cases e2; exact c93 e3))
      refine x_iconst D_4_add_96 ?_
      refine x_goto D_4_add_97 ?_
      refine x_ireturn D_4_add_101 rfl (by first | rfl | exact nb_bi _ | decide +kernel) rfl ?_
      first
      | (rw [hN0] at c93; rw [if_pos c93] at hT2; exact ⟨Or.inl ⟨_, Or.inr (Or.inl ⟨by omega, v, rfl, c93, rfl⟩), rfl, hT2⟩, hf2⟩)
      | (rw [hN0] at c93; rw [if_neg c93] at hT2; refine bad _ hf2 hT2 fun T' e => ?_; rcases e with ⟨e, -⟩ | ⟨e, v', e2, e3, -⟩ | ⟨e, -⟩ | ⟨e, -⟩ | ⟨e, -⟩ <;> first | omega | (cases e2; exact c93 e3))
    by_cases w9_112 : lt = 112
    · refine x_lsw D_4_add_9 (tgt := 60) (off := 51) ⟨by omega, by omega⟩ (by decide +kernel) (by rw [w9_112]; decide +kernel) (by omega) ?_
      refine x_iload_n D_4_add_60 rfl ?_
      refine x_iconst D_4_add_61 ?_
      refine x_icmp_ne D_4_add_62 ⟨by omega, by omega⟩ ⟨by omega, by omega⟩ (fun c62 => ?_) (fun c62 => ?_)
      · refine x_iconst D_4_add_79 ?_
        refine x_ireturn D_4_add_80 rfl nb_0 rfl ?_
        refine bad _ hfr hT fun T' e => ?_
        rcases e with ⟨e, v, e2, -⟩ | ⟨e, v, e2, -⟩ | ⟨e, a, b, c, k, e2, -⟩ | ⟨e, v, e2, -⟩ | ⟨e, a, b, e2, -⟩ <;> first | omega | (rw [e2] at c62; exact c62 rfl)
      obtain ⟨v, rfl⟩ := len1 (l := l) (by omega)
      have hv0 := hv v (List.mem_singleton.mpr rfl)
      have hN0 : N 0 = v := hNl 0 (by simp)
      refine x_aload_n D_4_add_65 rfl ?_
      refine x_aload_n D_4_add_66 rfl ?_
      refine x_iconst D_4_add_67 ?_
      refine x_iaload D_4_add_68 (by assumption) (by omega) (by omega) rfl ?_
      refine x_invV (d' := d - 1) D_4_add_69 l_4_52 mi_4_addPerson (c_4_addPerson (v := N 0) (by omega) hT hk (by rw [hN0]; exact ⟨by omega, by omega⟩)) (hT.1) rfl rfl (by omega) rfl (fun q => q) rfl rfl (fun r69 h69 q69 => ?_)
      obtain ⟨rfl, hT2, hf2⟩ := q69
      rw [hN0] at hT2
      refine x_if_eqb D_4_add_72 (fun c72 => ?_) (fun c72 => ?_)
      · refine x_iconst D_4_add_79 ?_
        refine x_ireturn D_4_add_80 rfl (by first | rfl | exact nb_bi _ | decide +kernel) rfl ?_
        first
        | (rw [hN0] at c72; rw [if_pos c72] at hT2; exact ⟨Or.inl ⟨_, Or.inl ⟨by omega, v, rfl, c72, rfl⟩, rfl, hT2⟩, hf2⟩)
        | (rw [hN0] at c72; rw [if_neg c72] at hT2; refine bad _ hf2 hT2 fun T' e => ?_; rcases e with ⟨e, v', e2, e3, -⟩ | ⟨e, -⟩ | ⟨e, -⟩ | ⟨e, -⟩ | ⟨e, -⟩ <;> first | omega | (cases e2; exact c72 e3))
      refine x_iconst D_4_add_75 ?_
      refine x_goto D_4_add_76 ?_
      refine x_ireturn D_4_add_80 rfl (by first | rfl | exact nb_bi _ | decide +kernel) rfl ?_
      first
      | (rw [hN0] at c72; rw [if_pos c72] at hT2; exact ⟨Or.inl ⟨_, Or.inl ⟨by omega, v, rfl, c72, rfl⟩, rfl, hT2⟩, hf2⟩)
      | (rw [hN0] at c72; rw [if_neg c72] at hT2; refine bad _ hf2 hT2 fun T' e => ?_; rcases e with ⟨e, v', e2, e3, -⟩ | ⟨e, -⟩ | ⟨e, -⟩ | ⟨e, -⟩ | ⟨e, -⟩ <;> first | omega | (cases e2; exact c72 e3))
    by_cases w9_119 : lt = 119
    · refine x_lsw D_4_add_9 (tgt := 102) (off := 93) ⟨by omega, by omega⟩ (by decide +kernel) (by rw [w9_119]; decide +kernel) (by omega) ?_
      refine x_iload_n D_4_add_102 rfl ?_
      refine x_iconst D_4_add_103 ?_
      refine x_icmp_ne D_4_add_104 ⟨by omega, by omega⟩ ⟨by omega, by omega⟩ (fun c104 => ?_) (fun c104 => ?_)
      · refine x_iconst D_4_add_130 ?_
        refine x_ireturn D_4_add_131 rfl nb_0 rfl ?_
        refine bad _ hfr hT fun T' e => ?_
        rcases e with ⟨e, v, e2, -⟩ | ⟨e, v, e2, -⟩ | ⟨e, a, b, c, k, e2, -⟩ | ⟨e, v, e2, -⟩ | ⟨e, a, b, e2, -⟩ <;> first | omega | (rw [e2] at c104; exact c104 rfl)
      obtain ⟨v0, v1, v2, v3, rfl⟩ := len4 (l := l) (by omega)
      have hv0 := hv v0 (by simp)
      have hv1 := hv v1 (by simp)
      have hv2 := hv v2 (by simp)
      have hv3 := hv v3 (by simp)
      have hN0 : N 0 = v0 := hNl 0 (by simp)
      have hN1 : N 1 = v1 := hNl 1 (by simp)
      have hN2 : N 2 = v2 := hNl 2 (by simp)
      have hN3 : N 3 = v3 := hNl 3 (by simp)
      refine x_aload_n D_4_add_107 rfl ?_
      refine x_aload_n D_4_add_108 rfl ?_
      refine x_iconst D_4_add_109 ?_
      refine x_iaload D_4_add_110 (by assumption) (by omega) (by omega) rfl ?_
      refine x_aload_n D_4_add_111 rfl ?_
      refine x_iconst D_4_add_112 ?_
      refine x_iaload D_4_add_113 (by assumption) (by omega) (by omega) rfl ?_
      refine x_aload_n D_4_add_114 rfl ?_
      refine x_iconst D_4_add_115 ?_
      refine x_iaload D_4_add_116 (by assumption) (by omega) (by omega) rfl ?_
      refine x_aload_n D_4_add_117 rfl ?_
      refine x_iconst D_4_add_118 ?_
      refine x_iaload D_4_add_119 (by assumption) (by omega) (by omega) rfl ?_
      refine x_invV (d' := d - 1) D_4_add_120 l_4_59 mi_4_addSaying (c_4_addSaying (a := N 0) (b := N 1) (c := N 2) (k := N 3) (by omega) hT hk (by rw [hN0]; exact hv0) (by rw [hN1]; exact hv1) (by rw [hN2]; exact hv2) (by rw [hN3]; exact hv3)) (hT.1) rfl rfl (by omega) rfl (fun q => q) rfl rfl (fun r120 h120 q120 => ?_)
      obtain ⟨rfl, hT2, hf2⟩ := q120
      rw [hN0, hN1, hN2, hN3] at hT2
      refine x_if_eqb D_4_add_123 (fun c123 => ?_) (fun c123 => ?_)
      · refine x_iconst D_4_add_130 ?_
        refine x_ireturn D_4_add_131 rfl (by first | rfl | exact nb_bi _ | decide +kernel) rfl ?_
        first
        | (rw [hN0, hN1, hN2, hN3] at c123; rw [if_pos c123] at hT2; exact ⟨Or.inl ⟨_, Or.inr (Or.inr (Or.inl ⟨by omega, v0, v1, v2, v3, rfl, c123, rfl⟩)), rfl, hT2⟩, hf2⟩)
        | (rw [hN0, hN1, hN2, hN3] at c123; rw [if_neg c123] at hT2; refine bad _ hf2 hT2 fun T' e => ?_; rcases e with ⟨e, -⟩ | ⟨e, -⟩ | ⟨e, a, b, c, k, e2, e3, -⟩ | ⟨e, -⟩ | ⟨e, -⟩ <;> first | omega | (cases e2; exact c123 e3))
      refine x_iconst D_4_add_126 ?_
      refine x_goto D_4_add_127 ?_
      refine x_ireturn D_4_add_131 rfl (by first | rfl | exact nb_bi _ | decide +kernel) rfl ?_
      first
      | (rw [hN0, hN1, hN2, hN3] at c123; rw [if_pos c123] at hT2; exact ⟨Or.inl ⟨_, Or.inr (Or.inr (Or.inl ⟨by omega, v0, v1, v2, v3, rfl, c123, rfl⟩)), rfl, hT2⟩, hf2⟩)
      | (rw [hN0, hN1, hN2, hN3] at c123; rw [if_neg c123] at hT2; refine bad _ hf2 hT2 fun T' e => ?_; rcases e with ⟨e, -⟩ | ⟨e, -⟩ | ⟨e, a, b, c, k, e2, e3, -⟩ | ⟨e, -⟩ | ⟨e, -⟩ <;> first | omega | (cases e2; exact c123 e3))
    refine x_lsw D_4_add_9 (tgt := 177) (off := 168) ⟨by omega, by omega⟩ (by decide +kernel) (by simp [Op.lookupswitch.offset, Ne.symm w9_97, Ne.symm w9_100, Ne.symm w9_103, Ne.symm w9_112, Ne.symm w9_119]) (by omega) ?_
    refine x_iconst D_4_add_177 ?_
    refine x_ireturn D_4_add_178 rfl (by first | rfl | exact nb_bi _ | decide +kernel) rfl ?_
    refine bad _ hfr hT fun T' e => ?_
    rcases e with ⟨e, -⟩ | ⟨e, -⟩ | ⟨e, -⟩ | ⟨e, -⟩ | ⟨e, -⟩ <;> omega
  exact absurd c3 (by omega)
end
section
abbrev RdQ (r : Nat) (h0 : Hp) (lt : Int) (o : Option (Int × List Int)) : Option Value → Hp → Prop := fun res h' => (∀ q : Nat, (q < r ∨ r + 1 < q) → h' q = h0 q) ∧ ∃ (N : Int → Int) (m : Int), h' r = some (ob 3 [vi lt, .ref (r + 1), vi m]) ∧ h' (r + 1) = some (ia 0 4 N) ∧ (o = none → res = some (vi (-1))) ∧ ∀ q l, o = some (q, l) → res = some (vi q) ∧ m = (l.length : Int) ∧ ∀ j : Nat, j < l.length → N (j : Int) = l.getD j 0
theorem getD_snoc {pre : List Int} {w : Int} {N : Int → Int} (h : ∀ j : Nat, j < pre.length → N (j : Int) = pre.getD j 0) : ∀ j : Nat, j < (pre ++ [w]).length → ups N (pre.length : Int) w (j : Int) = (pre ++ [w]).getD j 0 := by
  intro j hj
  by_cases e : j = pre.length
  · subst e
    simp [ups]
  · have hj2 : j < pre.length := by simp at hj; omega
    have : (j : Int) ≠ (pre.length : Int) := by omega
    simp only [ups, if_neg this]
    rw [h j hj2]
    simp [List.getD_eq_getElem?_getD, List.getElem?_append_left hj2]
theorem c_3_readItem {d : Nat} (hd : 1 ≤ d) {z : Nat × Nat} {h : Hp} {r b : Nat} {lt0 m0 e p0 : Int} {N0 Bt : Int → Int} (hR : h r = some (ob 3 [vi lt0, .ref (r + 1), vi m0])) (hN : h (r + 1) = some (ia 0 4 N0)) (hB : h b = some (ia 1 300 Bt)) (hb : b < r ∨ r + 1 < b) (he : 0 ≤ e ∧ e ≤ 300) (hBt : ∀ j : Int, -128 ≤ Bt j ∧ Bt j ≤ 127) (ha : 0 ≤ p0 ∧ p0 < e) : Ct d m_3_readItem [.ref r, .ref b, vi e, vi p0] z z h (RdQ r h (Bt p0) (rd Bt e 4 (p0 + 1))) := by
  refine Ct.of (by decide) ⟨Nat.le_refl _, Nat.le_refl _⟩ (Nat.le_of_ble_eq_true rfl) ?_
  have hfr : ∀ q : Nat, (q < r ∨ r + 1 < q) → h q = h q := fun _ _ => rfl
  have fin_n : ∀ (h' : Hp) (N : Int → Int) (m : Int), (∀ q : Nat, (q < r ∨ r + 1 < q) → h' q = h q) → h' r = some (ob 3 [vi (Bt p0), .ref (r + 1), vi m]) → h' (r + 1) = some (ia 0 4 N) → rd Bt e 4 (p0 + 1) = none → RdQ r h (Bt p0) (rd Bt e 4 (p0 + 1)) (some (vi (-1))) h' := fun h' N m g1 g2 g3 g4 => ⟨g1, N, m, g2, g3, fun _ => rfl, fun q l g5 => by rw [g4] at g5; cases g5⟩
  have loop : ∀ (k : Nat) (pre : List Int) (p : Int) (hh : Hp) (N : Int → Int), pre.length + k = 4 → p0 < p → p ≤ e → (∀ j : Nat, j < pre.length → N (j : Int) = pre.getD j 0) → rd Bt e 4 (p0 + 1) = (rd Bt e k p).map (fun x => (x.1, pre ++ x.2)) → hh r = some (ob 3 [vi (Bt p0), .ref (r + 1), vi (pre.length : Int)]) → hh (r + 1) = some (ia 0 4 N) → hh b = some (ia 1 300 Bt) → (∀ q : Nat, (q < r ∨ r + 1 < q) → hh q = h q) →
      WW d m_3_readItem z (RdQ r h (Bt p0) (rd Bt e 4 (p0 + 1))) z hh 37 [(0, .ref r), (1, .ref b), (4, vi e), (5, vi p)] [] := by
    intro k
    induction k with
    | zero =>
      intro pre p hh N hlen hp hpe hNp hO hR hN hB hfr
      refine x_aload_n D_3_readItem_37 rfl ?_
      refine x_getfield D_3_readItem_38 f_3_28 (by assumption) rfl ?_
      refine x_iconst D_3_readItem_41 ?_
      refine x_icmp_ge D_3_readItem_42 ⟨by omega, by omega⟩ ⟨by omega, by omega⟩ (fun c42 => ?_) (fun c42 => ?_)
      · refine x_iconst D_3_readItem_164 ?_
        refine x_ireturn D_3_readItem_165 rfl (by first | rfl | exact nb_bi _ | decide +kernel) rfl ?_
        exact fin_n _ _ _ hfr hR hN (by rw [hO]; rfl)
      exact absurd c42 (by omega)
    | succ k ih =>
      intro pre p hh N hlen hp hpe hNp hO hR hN hB hfr
      have hrg := nd_rng Bt e p
      have L98 : WW d m_3_readItem z (RdQ r h (Bt p0) (rd Bt e 4 (p0 + 1))) z hh 98 [(0, .ref r), (1, .ref b), (4, vi e), (5, vi (p + nd Bt e p)), (6, vi (nv Bt e p)), (7, vi (nd Bt e p))] [] := by
        refine x_iload D_3_readItem_98 rfl ?_
        refine x_if_eq D_3_readItem_100 ⟨by omega, by omega⟩ (fun c100 => ?_) (fun c100 => ?_)
        · refine x_iconst D_3_readItem_110 ?_
          refine x_ireturn D_3_readItem_111 rfl (by first | rfl | exact nb_bi _ | decide +kernel) rfl ?_
          exact fin_n _ _ _ hfr hR hN (by rw [hO, rd, if_pos (by omega)]; rfl)
        refine x_iload D_3_readItem_103 rfl ?_
        refine x_iload D_3_readItem_105 rfl ?_
        refine x_icmp_lt D_3_readItem_107 ⟨by omega, by omega⟩ ⟨by omega, by omega⟩ (fun c107 => ?_) (fun c107 => ?_)
        · refine x_aload_n D_3_readItem_112 rfl ?_
          refine x_getfield D_3_readItem_113 f_3_9 (by assumption) rfl ?_
          refine x_aload_n D_3_readItem_116 rfl ?_
          refine x_getfield D_3_readItem_117 f_3_28 (by assumption) rfl ?_
          refine x_iload D_3_readItem_120 rfl ?_
          refine x_iastore D_3_readItem_122 (by assumption) (by omega) (by omega) rfl (fun h122 e122 n122 => ?_)
          first | (replace hR := (n122 _ (by omega)).trans hR) | (replace hR := e122)
          first | (replace hN := (n122 _ (by omega)).trans hN) | (replace hN := e122)
          first | (replace hB := (n122 _ (by omega)).trans hB) | (replace hB := e122)
          replace hfr := fun q hq => (n122 q (by omega)).trans (hfr q hq)
          refine x_aload_n D_3_readItem_123 rfl ?_
          refine x_dup D_3_readItem_124 rfl ?_
          refine x_getfield D_3_readItem_125 f_3_28 (by assumption) rfl ?_
          refine x_iconst D_3_readItem_128 ?_
          refine x_iadd D_3_readItem_129 ?_
          refine x_putI D_3_readItem_130 f_3_28 (by assumption) (by decide +kernel) rfl (fun h130 e130 n130 => ?_)
          simp only [List.set_cons_zero, List.set_cons_succ] at e130
          first | (replace hR := (n130 _ (by omega)).trans hR) | (replace hR := e130)
          first | (replace hN := (n130 _ (by omega)).trans hN) | (replace hN := e130)
          first | (replace hB := (n130 _ (by omega)).trans hB) | (replace hB := e130)
          replace hfr := fun q hq => (n130 q (by omega)).trans (hfr q hq)
          refine x_aload_n D_3_readItem_133 rfl ?_
          refine x_iload D_3_readItem_134 rfl ?_
          have hby := hBt (p + nd Bt e p)
          refine x_baload D_3_readItem_136 (by assumption) (by omega) (by omega) rfl ?_
          refine x_istore D_3_readItem_137 rfl rfl rfl ?_
          refine x_iinc D_3_readItem_139 rfl rfl rfl rfl ?_
          refine x_iload D_3_readItem_142 rfl ?_
          refine x_bipush D_3_readItem_144 (by decide +kernel) ?_
          refine x_icmp_ne D_3_readItem_146 ⟨by omega, by omega⟩ ⟨by omega, by omega⟩ (fun c146 => ?_) (fun c146 => ?_)
          · refine x_iload D_3_readItem_152 rfl ?_
            refine x_bipush D_3_readItem_154 (by decide +kernel) ?_
            refine x_icmp_eq D_3_readItem_156 ⟨by omega, by omega⟩ ⟨by omega, by omega⟩ (fun c156 => ?_) (fun c156 => ?_)
            · refine x_goto D_3_readItem_161 ?_
              refine (ih (pre ++ [nv Bt e p]) (p + nd Bt e p + 1) _ _ (by simp; omega) (by omega) (by omega) (getD_snoc hNp) ?_ (by rw [hR]; simp) hN hB hfr).sub rfl
              rw [hO, rd, if_neg (by omega), if_neg c146, if_pos c156]
              cases rd Bt e k (p + nd Bt e p + 1) <;> simp
            refine x_iconst D_3_readItem_159 ?_
            refine x_ireturn D_3_readItem_160 rfl (by first | rfl | exact nb_bi _ | decide +kernel) rfl ?_
            exact fin_n _ _ _ hfr hR hN (by rw [hO, rd, if_neg (by omega), if_neg c146, if_neg c156]; rfl)
          refine x_iload D_3_readItem_149 rfl ?_
          refine x_ireturn D_3_readItem_151 rfl (by first | rfl | exact nb_bi _ | decide +kernel) rfl ?_
          refine ⟨hfr, _, _, hR, hN, fun g => ?_, fun q l g => ?_⟩
          · rw [hO, rd, if_neg (by omega), if_pos c146] at g
            cases g
          · rw [hO, rd, if_neg (by omega), if_pos c146] at g
            simp only [Option.map_some, Option.some.injEq, Prod.mk.injEq] at g
            obtain ⟨g1, g2⟩ := g
            subst g1
            subst g2
            refine ⟨rfl, by simp, getD_snoc hNp⟩
        refine x_iconst D_3_readItem_110 ?_
        refine x_ireturn D_3_readItem_111 rfl (by first | rfl | exact nb_bi _ | decide +kernel) rfl ?_
        exact fin_n _ _ _ hfr hR hN (by rw [hO, rd, if_pos (by omega)]; rfl)
      refine x_aload_n D_3_readItem_37 rfl ?_
      refine x_getfield D_3_readItem_38 f_3_28 (by assumption) rfl ?_
      refine x_iconst D_3_readItem_41 ?_
      refine x_icmp_ge D_3_readItem_42 ⟨by omega, by omega⟩ ⟨by omega, by omega⟩ (fun c42 => ?_) (fun c42 => ?_)
      · exact absurd c42 (by omega)
      refine x_iconst D_3_readItem_45 ?_
      refine x_istore D_3_readItem_46 rfl rfl rfl ?_
      refine x_iconst D_3_readItem_48 ?_
      refine x_istore D_3_readItem_49 rfl rfl rfl ?_
      refine x_iload D_3_readItem_51 rfl ?_
      refine x_iconst D_3_readItem_53 ?_
      refine x_icmp_ge D_3_readItem_54 ⟨by omega, by omega⟩ ⟨by omega, by omega⟩ (fun c54 => ?_) (fun c54 => ?_)
      · exact absurd c54 (by omega)
      refine x_iload D_3_readItem_57 rfl ?_
      refine x_iload D_3_readItem_59 rfl ?_
      refine x_icmp_ge D_3_readItem_61 ⟨by omega, by omega⟩ ⟨by omega, by omega⟩ (fun c61 => ?_) (fun c61 => ?_)
      · first
        | (obtain ⟨g1, g2⟩ := nd_0 (Bt := Bt) (e := e) (p := p) (fun g => by have := g.1; have := g.2; omega); rw [g1, g2, Int.add_zero] at L98; exact L98.sub rfl)
        | (obtain ⟨g1, g2⟩ := nd_1 (Bt := Bt) (e := e) (p := p) ⟨by omega, by omega⟩ (fun g => by have := g.1; have := g.2; omega); rw [g1, g2] at L98; rw [show 0 * 10 + Bt p - 48 = Bt p - 48 by omega, show (0 : Int) + 1 = 1 by omega]; exact L98.sub rfl)
        | (obtain ⟨g1, g2⟩ := nd_2 (Bt := Bt) (e := e) (p := p) ⟨by omega, by omega⟩ ⟨by omega, by omega⟩; rw [g1, g2] at L98; rw [show (0 * 10 + Bt p - 48) * 10 + Bt (p + 1) - 48 = 10 * (Bt p - 48) + (Bt (p + 1) - 48) by omega, show (0 : Int) + 1 + 1 = 2 by omega, show p + 1 + 1 = p + 2 by omega]; exact L98.sub rfl)
      refine x_aload_n D_3_readItem_64 rfl ?_
      refine x_iload D_3_readItem_65 rfl ?_
      have hby := hBt p
      have hby1 := hBt (p + 1)
      refine x_baload D_3_readItem_67 (by assumption) (by omega) (by omega) rfl ?_
      refine x_invS2 (d' := d - 1) D_3_readItem_68 l_3_41 mi_3_isFigure (c_3_isFigure (by omega) ⟨by omega, by omega⟩)  rfl (by omega) rfl (fun q => q) rfl rfl (fun r68 h68 q68 => ?_)
      obtain ⟨rfl, rfl⟩ := q68
      refine x_if_eqb D_3_readItem_71 (fun c71 => ?_) (fun c71 => ?_)
      · first
        | (obtain ⟨g1, g2⟩ := nd_0 (Bt := Bt) (e := e) (p := p) (fun g => by have := g.1; have := g.2; omega); rw [g1, g2, Int.add_zero] at L98; exact L98.sub rfl)
        | (obtain ⟨g1, g2⟩ := nd_1 (Bt := Bt) (e := e) (p := p) ⟨by omega, by omega⟩ (fun g => by have := g.1; have := g.2; omega); rw [g1, g2] at L98; rw [show 0 * 10 + Bt p - 48 = Bt p - 48 by omega, show (0 : Int) + 1 = 1 by omega]; exact L98.sub rfl)
        | (obtain ⟨g1, g2⟩ := nd_2 (Bt := Bt) (e := e) (p := p) ⟨by omega, by omega⟩ ⟨by omega, by omega⟩; rw [g1, g2] at L98; rw [show (0 * 10 + Bt p - 48) * 10 + Bt (p + 1) - 48 = 10 * (Bt p - 48) + (Bt (p + 1) - 48) by omega, show (0 : Int) + 1 + 1 = 2 by omega, show p + 1 + 1 = p + 2 by omega]; exact L98.sub rfl)
      refine x_iload D_3_readItem_74 rfl ?_
      refine x_bipush D_3_readItem_76 (by decide +kernel) ?_
      refine x_imul D_3_readItem_78 ?_
      refine x_aload_n D_3_readItem_79 rfl ?_
      refine x_iload D_3_readItem_80 rfl ?_
      refine x_baload D_3_readItem_82 (by assumption) (by omega) (by omega) rfl ?_
      refine x_iadd D_3_readItem_83 ?_
      refine x_bipush D_3_readItem_84 (by decide +kernel) ?_
      refine x_isub D_3_readItem_86 ?_
      refine x_istore D_3_readItem_87 rfl rfl rfl ?_
      refine x_iinc D_3_readItem_89 rfl rfl rfl rfl ?_
      refine x_iinc D_3_readItem_92 rfl rfl rfl rfl ?_
      refine x_goto D_3_readItem_95 ?_
      refine x_iload D_3_readItem_51 rfl ?_
      refine x_iconst D_3_readItem_53 ?_
      refine x_icmp_ge D_3_readItem_54 ⟨by omega, by omega⟩ ⟨by omega, by omega⟩ (fun c54 => ?_) (fun c54 => ?_)
      · exact absurd c54 (by omega)
      refine x_iload D_3_readItem_57 rfl ?_
      refine x_iload D_3_readItem_59 rfl ?_
      refine x_icmp_ge D_3_readItem_61 ⟨by omega, by omega⟩ ⟨by omega, by omega⟩ (fun c61 => ?_) (fun c61 => ?_)
      · first
        | (obtain ⟨g1, g2⟩ := nd_0 (Bt := Bt) (e := e) (p := p) (fun g => by have := g.1; have := g.2; omega); rw [g1, g2, Int.add_zero] at L98; exact L98.sub rfl)
        | (obtain ⟨g1, g2⟩ := nd_1 (Bt := Bt) (e := e) (p := p) ⟨by omega, by omega⟩ (fun g => by have := g.1; have := g.2; omega); rw [g1, g2] at L98; rw [show 0 * 10 + Bt p - 48 = Bt p - 48 by omega, show (0 : Int) + 1 = 1 by omega]; exact L98.sub rfl)
        | (obtain ⟨g1, g2⟩ := nd_2 (Bt := Bt) (e := e) (p := p) ⟨by omega, by omega⟩ ⟨by omega, by omega⟩; rw [g1, g2] at L98; rw [show (0 * 10 + Bt p - 48) * 10 + Bt (p + 1) - 48 = 10 * (Bt p - 48) + (Bt (p + 1) - 48) by omega, show (0 : Int) + 1 + 1 = 2 by omega, show p + 1 + 1 = p + 2 by omega]; exact L98.sub rfl)
      refine x_aload_n D_3_readItem_64 rfl ?_
      refine x_iload D_3_readItem_65 rfl ?_
      have hby := hBt p
      have hby1 := hBt (p + 1)
      refine x_baload D_3_readItem_67 (by assumption) (by omega) (by omega) rfl ?_
      refine x_invS2 (d' := d - 1) D_3_readItem_68 l_3_41 mi_3_isFigure (c_3_isFigure (by omega) ⟨by omega, by omega⟩)  rfl (by omega) rfl (fun q => q) rfl rfl (fun r68 h68 q68 => ?_)
      obtain ⟨rfl, rfl⟩ := q68
      refine x_if_eqb D_3_readItem_71 (fun c71 => ?_) (fun c71 => ?_)
      · first
        | (obtain ⟨g1, g2⟩ := nd_0 (Bt := Bt) (e := e) (p := p) (fun g => by have := g.1; have := g.2; omega); rw [g1, g2, Int.add_zero] at L98; exact L98.sub rfl)
        | (obtain ⟨g1, g2⟩ := nd_1 (Bt := Bt) (e := e) (p := p) ⟨by omega, by omega⟩ (fun g => by have := g.1; have := g.2; omega); rw [g1, g2] at L98; rw [show 0 * 10 + Bt p - 48 = Bt p - 48 by omega, show (0 : Int) + 1 = 1 by omega]; exact L98.sub rfl)
        | (obtain ⟨g1, g2⟩ := nd_2 (Bt := Bt) (e := e) (p := p) ⟨by omega, by omega⟩ ⟨by omega, by omega⟩; rw [g1, g2] at L98; rw [show (0 * 10 + Bt p - 48) * 10 + Bt (p + 1) - 48 = 10 * (Bt p - 48) + (Bt (p + 1) - 48) by omega, show (0 : Int) + 1 + 1 = 2 by omega, show p + 1 + 1 = p + 2 by omega]; exact L98.sub rfl)
      refine x_iload D_3_readItem_74 rfl ?_
      refine x_bipush D_3_readItem_76 (by decide +kernel) ?_
      refine x_imul D_3_readItem_78 ?_
      refine x_aload_n D_3_readItem_79 rfl ?_
      refine x_iload D_3_readItem_80 rfl ?_
      refine x_baload D_3_readItem_82 (by assumption) (by omega) (by omega) rfl ?_
      refine x_iadd D_3_readItem_83 ?_
      refine x_bipush D_3_readItem_84 (by decide +kernel) ?_
      refine x_isub D_3_readItem_86 ?_
      refine x_istore D_3_readItem_87 rfl rfl rfl ?_
      refine x_iinc D_3_readItem_89 rfl rfl rfl rfl ?_
      refine x_iinc D_3_readItem_92 rfl rfl rfl rfl ?_
      refine x_goto D_3_readItem_95 ?_
      refine x_iload D_3_readItem_51 rfl ?_
      refine x_iconst D_3_readItem_53 ?_
      refine x_icmp_ge D_3_readItem_54 ⟨by omega, by omega⟩ ⟨by omega, by omega⟩ (fun c54 => ?_) (fun c54 => ?_)
      · first
        | (obtain ⟨g1, g2⟩ := nd_0 (Bt := Bt) (e := e) (p := p) (fun g => by have := g.1; have := g.2; omega); rw [g1, g2, Int.add_zero] at L98; exact L98.sub rfl)
        | (obtain ⟨g1, g2⟩ := nd_1 (Bt := Bt) (e := e) (p := p) ⟨by omega, by omega⟩ (fun g => by have := g.1; have := g.2; omega); rw [g1, g2] at L98; rw [show 0 * 10 + Bt p - 48 = Bt p - 48 by omega, show (0 : Int) + 1 = 1 by omega]; exact L98.sub rfl)
        | (obtain ⟨g1, g2⟩ := nd_2 (Bt := Bt) (e := e) (p := p) ⟨by omega, by omega⟩ ⟨by omega, by omega⟩; rw [g1, g2] at L98; rw [show (0 * 10 + Bt p - 48) * 10 + Bt (p + 1) - 48 = 10 * (Bt p - 48) + (Bt (p + 1) - 48) by omega, show (0 : Int) + 1 + 1 = 2 by omega, show p + 1 + 1 = p + 2 by omega]; exact L98.sub rfl)
      exact absurd c54 (by omega)
  have hby := hBt p0
  refine x_iload_n D_3_readItem_0 rfl ?_
  refine x_aload_n D_3_readItem_1 rfl ?_
  refine x_alenB D_3_readItem_2 hB ?_
  refine x_min D_3_readItem_3 l_3_35 ⟨by omega, by omega⟩ ⟨by omega, by omega⟩ (by omega) rfl ?_
  rw [if_neg (by omega)]
  refine x_istore D_3_readItem_6 rfl rfl rfl ?_
  refine x_iload_n D_3_readItem_8 rfl ?_
  refine x_if_lt D_3_readItem_9 ⟨by omega, by omega⟩ (fun c9 => ?_) (fun c9 => ?_)
  · exact absurd c9 (by omega)
  refine x_iload_n D_3_readItem_12 rfl ?_
  refine x_iload D_3_readItem_13 rfl ?_
  refine x_icmp_lt D_3_readItem_15 ⟨by omega, by omega⟩ ⟨by omega, by omega⟩ (fun c15 => ?_) (fun c15 => ?_)
  · refine x_aload_n D_3_readItem_20 rfl ?_
    refine x_aload_n D_3_readItem_21 rfl ?_
    refine x_iload_n D_3_readItem_22 rfl ?_
    refine x_baload D_3_readItem_23 (by assumption) (by omega) (by omega) rfl ?_
    refine x_putI D_3_readItem_24 f_3_24 (by assumption) (by decide +kernel) rfl (fun h24 e24 n24 => ?_)
    simp only [List.set_cons_zero, List.set_cons_succ] at e24
    first | (replace hR := (n24 _ (by omega)).trans hR) | (replace hR := e24)
    first | (replace hN := (n24 _ (by omega)).trans hN) | (replace hN := e24)
    first | (replace hB := (n24 _ (by omega)).trans hB) | (replace hB := e24)
    replace hfr := fun q hq => (n24 q (by omega)).trans (hfr q hq)
    refine x_aload_n D_3_readItem_27 rfl ?_
    refine x_iconst D_3_readItem_28 ?_
    refine x_putI D_3_readItem_29 f_3_28 (by assumption) (by decide +kernel) rfl (fun h29 e29 n29 => ?_)
    simp only [List.set_cons_zero, List.set_cons_succ] at e29
    first | (replace hR := (n29 _ (by omega)).trans hR) | (replace hR := e29)
    first | (replace hN := (n29 _ (by omega)).trans hN) | (replace hN := e29)
    first | (replace hB := (n29 _ (by omega)).trans hB) | (replace hB := e29)
    replace hfr := fun q hq => (n29 q (by omega)).trans (hfr q hq)
    refine x_iload_n D_3_readItem_32 rfl ?_
    refine x_iconst D_3_readItem_33 ?_
    refine x_iadd D_3_readItem_34 ?_
    refine x_istore D_3_readItem_35 rfl rfl rfl ?_
    exact (loop 4 [] (p0 + 1) _ _ rfl (by omega) (by omega) (fun j hj => absurd hj (by simp)) (by cases rd Bt e 4 (p0 + 1) <;> rfl) hR hN hB hfr).sub rfl
  exact absurd c15 (by omega)
end
section
theorem c_3_readTable {d : Nat} (hd : 3 ≤ d) {z : Nat × Nat} {h : Hp} {r b t : Nat} {lt0 m0 e : Int} {N0 Bt : Int → Int} {T0 : TT} (hR : h r = some (ob 3 [vi lt0, .ref (r + 1), vi m0])) (hN : h (r + 1) = some (ia 0 4 N0)) (hB : h b = some (ia 1 300 Bt)) (hT0 : TabAt h t T0) (hb : b < r ∨ r + 1 < b) (hbt : b < t ∨ t + 8 < b) (hrt : r + 1 < t ∨ t + 8 < r) (he : 0 ≤ e ∧ e ≤ 300) (hBt : ∀ j : Int, -128 ≤ Bt j ∧ Bt j ≤ 127) :
    Ct d m_3_readTable [.ref r, .ref b, vi e, .ref t] z z h (fun res h' => ∃ (f : Int) (T' : TT) (lt m : Int) (N : Int → Int), res = some (vi f) ∧ prsR Bt e e.toNat (clr0 T0) 0 f T' ∧ TabAt h' t T' ∧ h' r = some (ob 3 [vi lt, .ref (r + 1), vi m]) ∧ h' (r + 1) = some (ia 0 4 N) ∧ ∀ q : Nat, (q < t ∨ t + 8 < q) → (q < r ∨ r + 1 < q) → h' q = h q) := by
  refine Ct.of (by decide) ⟨Nat.le_refl _, Nat.le_refl _⟩ (Nat.le_of_ble_eq_true rfl) ?_
  have s1 : r < t ∨ t + 8 < r := by omega
  have s2 : r + 1 < t ∨ t + 8 < r + 1 := by omega
  have loop : ∀ (n : Nat) (T : TT) (i lt m : Int) (hh : Hp) (N : Int → Int), TabOk T → 0 ≤ i → i ≤ e → e - i ≤ n → (∀ f T', prsR Bt e n T i f T' → prsR Bt e e.toNat (clr0 T0) 0 f T') → TabAt hh t T → hh r = some (ob 3 [vi lt, .ref (r + 1), vi m]) → hh (r + 1) = some (ia 0 4 N) → hh b = some (ia 1 300 Bt) → (∀ q : Nat, (q < t ∨ t + 8 < q) → (q < r ∨ r + 1 < q) → hh q = h q) →
      WW d m_3_readTable z (fun res h' => ∃ (f : Int) (T' : TT) (lt m : Int) (N : Int → Int), res = some (vi f) ∧ prsR Bt e e.toNat (clr0 T0) 0 f T' ∧ TabAt h' t T' ∧ h' r = some (ob 3 [vi lt, .ref (r + 1), vi m]) ∧ h' (r + 1) = some (ia 0 4 N) ∧ ∀ q : Nat, (q < t ∨ t + 8 < q) → (q < r ∨ r + 1 < q) → h' q = h q) z hh 7 [(0, .ref r), (1, .ref b), (2, vi e), (3, .ref t), (4, vi i)] [] := by
    intro n
    induction n with
    | zero =>
      intro T i lt m hh N hk h0 hi hn hC hT hR hN hB hfr
      refine x_iload D_3_readTable_7 rfl ?_
      refine x_iload_n D_3_readTable_9 rfl ?_
      refine x_icmp_ge D_3_readTable_10 ⟨by omega, by omega⟩ ⟨by omega, by omega⟩ (fun c10 => ?_) (fun c10 => ?_)
      · refine x_bipush D_3_readTable_59 (by decide +kernel) ?_
        refine x_ireturn D_3_readTable_61 rfl (by first | rfl | exact nb_bi _ | decide +kernel) rfl ?_
        exact ⟨_, T, _, _, _, rfl, hC _ _ ⟨by omega, rfl, rfl⟩, hT, hR, hN, hfr⟩
      exact absurd c10 (by omega)
    | succ n ih =>
      intro T i lt m hh N hk h0 hi hn hC hT hR hN hB hfr
      refine x_iload D_3_readTable_7 rfl ?_
      refine x_iload_n D_3_readTable_9 rfl ?_
      refine x_icmp_ge D_3_readTable_10 ⟨by omega, by omega⟩ ⟨by omega, by omega⟩ (fun c10 => ?_) (fun c10 => ?_)
      · refine x_bipush D_3_readTable_59 (by decide +kernel) ?_
        refine x_ireturn D_3_readTable_61 rfl (by first | rfl | exact nb_bi _ | decide +kernel) rfl ?_
        exact ⟨_, T, _, _, _, rfl, hC _ _ (Or.inl ⟨by omega, rfl, rfl⟩), hT, hR, hN, hfr⟩
      refine x_aload_n D_3_readTable_13 rfl ?_
      refine x_aload_n D_3_readTable_14 rfl ?_
      refine x_iload_n D_3_readTable_15 rfl ?_
      refine x_iload D_3_readTable_16 rfl ?_
      refine x_invV (d' := d - 1) D_3_readTable_18 l_3_20 mi_3_readItem (c_3_readItem (by omega) hR hN hB hb he hBt ⟨by omega, by omega⟩) (by assumption) rfl rfl (by omega) rfl (fun q => q) rfl rfl (fun r18 h18 q18 => ?_)
      obtain ⟨hf, N2, m2, g1, g2, g3, g4⟩ := q18
      obtain ⟨nx, hnx, hnr, hcase⟩ : ∃ nx : Int, r18 = some (vi nx) ∧ (-1 ≤ nx ∧ nx ≤ 300) ∧ ((nx = -1 ∧ rd Bt e 4 (i + 1) = none) ∨ (i < nx ∧ nx ≤ e ∧ ∃ l : List Int, rd Bt e 4 (i + 1) = some (nx, l) ∧ m2 = (l.length : Int) ∧ (∀ j : Nat, j < l.length → N2 (j : Int) = l.getD j 0) ∧ l.length ≤ 4 ∧ ∀ v ∈ l, 0 ≤ v ∧ v ≤ 99)) := by
        cases hx : rd Bt e 4 (i + 1) with
        | none => exact ⟨-1, g3 hx, ⟨by omega, by omega⟩, Or.inl ⟨rfl, rfl⟩⟩
        | some x =>
          obtain ⟨q, l⟩ := x
          obtain ⟨w1, w2, w3⟩ := g4 q l hx
          obtain ⟨w4, w5, w6, w7⟩ := rd_rng Bt e _ _ _ _ hx
          exact ⟨q, w1, ⟨by omega, by omega⟩, Or.inr ⟨by omega, w5, l, rfl, w2, w3, w6, w7⟩⟩
      subst hnx
      have hT1 : TabAt h18 t T := hT.kept (fun q q1 q2 => hf q (by omega))
      have hB1 : h18 b = some (ia 1 300 Bt) := (hf b (by omega)).trans hB
      have hfr1 : ∀ q : Nat, (q < t ∨ t + 8 < q) → (q < r ∨ r + 1 < q) → h18 q = h q := fun q q1 q2 => (hf q q2).trans (hfr q q1 q2)
      have hlt := hBt i
      refine x_istore D_3_readTable_21 rfl rfl rfl ?_
      refine x_iload D_3_readTable_23 rfl ?_
      refine x_iload D_3_readTable_25 rfl ?_
      refine x_icmp_le D_3_readTable_27 ⟨by omega, by omega⟩ ⟨by omega, by omega⟩ (fun c27 => ?_) (fun c27 => ?_)
      · have hnone : rd Bt e 4 (i + 1) = none := by
          rcases hcase with w | w
          · exact w.2
          · exfalso; omega
        refine x_iload D_3_readTable_49 rfl ?_
        refine x_ireturn D_3_readTable_51 rfl rfl rfl ?_
        exact ⟨_, T, _, _, _, rfl, hC _ _ (Or.inr (Or.inr ⟨by omega, rfl, rfl, fun q l g => by rw [hnone] at g; cases g⟩)), hT1, g1, g2, hfr1⟩
      obtain ⟨l, hl1, hl2, hl3, hl4, hl5⟩ : ∃ l : List Int, rd Bt e 4 (i + 1) = some (nx, l) ∧ m2 = (l.length : Int) ∧ (∀ j : Nat, j < l.length → N2 (j : Int) = l.getD j 0) ∧ l.length ≤ 4 ∧ ∀ v ∈ l, 0 ≤ v ∧ v ≤ 99 := by
        rcases hcase with w | w
        · exfalso; omega
        · exact w.2.2
      subst hl2
      have hne : nx ≤ e := by
        rcases hcase with w | w
        · exfalso; omega
        · exact w.2.1
      refine x_aload_n D_3_readTable_30 rfl ?_
      refine x_aload_n D_3_readTable_31 rfl ?_
      refine x_getfield D_3_readTable_32 f_3_24 (by assumption) rfl ?_
      refine x_aload_n D_3_readTable_35 rfl ?_
      refine x_getfield D_3_readTable_36 f_3_9 (by assumption) rfl ?_
      refine x_aload_n D_3_readTable_39 rfl ?_
      refine x_getfield D_3_readTable_40 f_3_28 (by assumption) rfl ?_
      refine x_invV (d' := d - 1) D_3_readTable_43 l_3_31 mi_4_add (c_4_add (by omega) hT1 hk g2 ⟨by omega, by omega⟩ hl4 hl3 hl5) (hT1.1) rfl rfl (by omega) rfl (fun q => q) rfl rfl (fun r43 h43 q43 => ?_)
      obtain ⟨w0, hf2⟩ := q43
      obtain ⟨xx, hxx, hxr, w1⟩ : ∃ xx : Int, r43 = some (vi xx) ∧ (0 ≤ xx ∧ xx ≤ 1) ∧ ((xx = 1 ∧ ∃ T', addI T (Bt i) l T' ∧ TabAt h43 t T') ∨ (xx = 0 ∧ (∀ T', ¬ addI T (Bt i) l T') ∧ TabAt h43 t T)) := by
        rcases w0 with ⟨T', a1, a2, a3⟩ | ⟨a1, a2, a3⟩
        · exact ⟨1, a2, ⟨by omega, by omega⟩, Or.inl ⟨rfl, T', a1, a3⟩⟩
        · exact ⟨0, a2, ⟨by omega, by omega⟩, Or.inr ⟨rfl, a1, a3⟩⟩
      subst hxx
      have g1' := (hf2 r s1).trans g1
      have g2' := (hf2 (r + 1) s2).trans g2
      have hB2 : h43 b = some (ia 1 300 Bt) := (hf2 b hbt).trans hB1
      have hfr2 : ∀ q : Nat, (q < t ∨ t + 8 < q) → (q < r ∨ r + 1 < q) → h43 q = h q := fun q q1 q2 => (hf2 q q1).trans (hfr1 q q1 q2)
      refine x_if_ne D_3_readTable_46 ⟨by omega, by omega⟩ (fun c46 => ?_) (fun c46 => ?_)
      · refine x_iload D_3_readTable_52 rfl ?_
        refine x_istore D_3_readTable_54 rfl rfl rfl ?_
        refine x_goto D_3_readTable_56 ?_
        obtain ⟨T', a1, a2⟩ : ∃ T', addI T (Bt i) l T' ∧ TabAt h43 t T' := by
          rcases w1 with w | w
          · exact w.2
          · exfalso; omega
        exact (ih T' nx _ _ _ _ (ok_addI hk hl5 a1) (by omega) (by omega) (by omega) (fun f T2 g => hC f T2 (Or.inr (Or.inl ⟨by omega, nx, l, T', hl1, a1, g⟩))) a2 g1' g2' hB2 hfr2).sub rfl
      refine x_iload D_3_readTable_49 rfl ?_
      refine x_ireturn D_3_readTable_51 rfl (by first | rfl | exact nb_bi _ | decide +kernel) rfl ?_
      obtain ⟨a1, a2⟩ : (∀ T', ¬ addI T (Bt i) l T') ∧ TabAt h43 t T := by
        rcases w1 with w | w
        · exfalso; omega
        · exact w.2
      exact ⟨_, T, _, _, _, rfl, hC _ _ (Or.inr (Or.inr ⟨by omega, rfl, rfl, fun q l' g T1 => by rw [hl1] at g; cases g; exact a1 T1⟩)), a2, g1', g2', hfr2⟩
  refine x_aload_n D_3_readTable_0 rfl ?_
  refine x_invV (d' := d - 1) D_3_readTable_1 l_3_15 mi_4_clear (c_4_clear (by omega) hT0) (hT0.1) rfl rfl (by omega) rfl (fun q => q) rfl rfl (fun r1 h1 q1 => ?_)
  obtain ⟨rfl, hT1, hf⟩ := q1
  refine x_iconst D_3_readTable_4 ?_
  refine x_istore D_3_readTable_5 rfl rfl rfl ?_
  exact (loop e.toNat (clr0 T0) 0 _ _ _ _ (ok_clear T0) (by omega) (by omega) (by omega) (fun _ _ g => g) hT1 ((hf r (by omega)).trans hR) ((hf (r + 1) (by omega)).trans hN) ((hf b (by omega)).trans hB) (fun q q1 q2 => hf q q1)).sub rfl
end
section
def mkE (a0 a1 a2 a3 a4 a5 : Int) (f6 f7 f8 f9 : Int → Int) : TT
  | 0, _ => a0
  | 1, _ => a1
  | 2, _ => a2
  | 3, _ => a3
  | 4, _ => a4
  | 5, _ => a5
  | 6, j => f6 j
  | 7, j => f7 j
  | 8, j => f8 j
  | _, j => f9 j
abbrev EQ1 (e : Nat) (h0 : Hp) (v : Option Value) (E : TT) : Option Value → Hp → Prop := fun r h' => r = v ∧ EvAt h' e E ∧ ∀ q : Nat, (q < e ∨ e + 4 < q) → h' q = h0 q
theorem c_0_aGrainMelts {d : Nat} (hd : 0 ≤ d) {z : Nat × Nat} {h : Hp} {e : Nat} {E : TT} (hE : EvAt h e E) (h0 : B3 (E 0 0)) (h5 : B3 (E 5 0)) : Ct d m_0_aGrainMelts [.ref e] z z h (Pu (bi (E 0 0 < E 5 0)) h) := by
  refine Ct.of (by decide) ⟨Nat.le_refl _, Nat.le_refl _⟩ (Nat.le_of_ble_eq_true rfl) ?_
  obtain ⟨a0, a1, a2, a3, a4⟩ := hE
  refine x_aload_n D_0_aGrainMelts_0 rfl ?_
  refine x_getfield D_0_aGrainMelts_1 f_0_24 (by assumption) rfl ?_
  refine x_aload_n D_0_aGrainMelts_4 rfl ?_
  refine x_getfield D_0_aGrainMelts_5 f_0_45 (by assumption) rfl ?_
  refine x_icmp_ge D_0_aGrainMelts_8 h0 h5 (fun c8 => ?_) (fun c8 => ?_)
  · refine x_iconst D_0_aGrainMelts_15 ?_
    refine x_ireturn D_0_aGrainMelts_16 rfl (by first | rfl | exact nb_bi _ | decide +kernel) rfl ?_
    first | exact Pu.t (by omega) | exact Pu.f (by omega)
  refine x_iconst D_0_aGrainMelts_11 ?_
  refine x_goto D_0_aGrainMelts_12 ?_
  refine x_ireturn D_0_aGrainMelts_16 rfl (by first | rfl | exact nb_bi _ | decide +kernel) rfl ?_
  first | exact Pu.t (by omega) | exact Pu.f (by omega)
theorem c_0_begin {d : Nat} (hd : 0 ≤ d) {z : Nat × Nat} {h : Hp} {e t : Nat} {E T : TT} (hE : EvAt h e E) (hT : TabAt h t T) (hs : e + 4 < t ∨ t + 8 < e) : Ct d m_0_begin [.ref e, .ref t] z z h (EQ1 e h none (mkE 0 (iShl 1 (T 2 0) - 1) 0 0 0 0 (T 1) (fun _ => 0) (fun _ => 0) (fun _ => 0))) := by
  refine Ct.of (by decide) ⟨Nat.le_refl _, Nat.le_refl _⟩ (Nat.le_of_ble_eq_true rfl) ?_
  have loop2 : ∀ (f : Nat) (k : Int) (hh : Hp) (F9 : Int → Int), 0 ≤ k → k ≤ 7 → 7 - k ≤ f → (∀ j : Int, 0 ≤ j → j < k → F9 j = 0) →
      hh e = some (ob 0 [vi 0, vi (iShl 1 (T 2 0) - 1), vi 0, vi 0, vi 0, vi 0, .ref (e + 1), .ref (e + 2), .ref (e + 3), .ref (e + 4)]) → hh (e + 1) = some (ia 0 5 (T 1)) → hh (e + 2) = some (ia 0 5 (fun _ => 0)) → hh (e + 3) = some (ia 0 5 (fun _ => 0)) → hh (e + 4) = some (ia 0 7 F9) → (∀ q : Nat, (q < e ∨ e + 4 < q) → hh q = h q) →
      WW d m_0_begin z (EQ1 e h none (mkE 0 (iShl 1 (T 2 0) - 1) 0 0 0 0 (T 1) (fun _ => 0) (fun _ => 0) (fun _ => 0))) z hh 78 [(0, .ref e), (1, .ref t), (2, vi k)] [] := by
    intro f
    induction f with
    | zero =>
      intro k hh F9 h0 h7 hf hF a0 a1 a2 a3 a4 hfr
      refine x_iload_n D_0_begin_78 rfl ?_
      refine x_bipush D_0_begin_79 (by decide +kernel) ?_
      refine x_icmp_ge D_0_begin_81 ⟨by omega, by omega⟩ ⟨by omega, by omega⟩ (fun c81 => ?_) (fun c81 => ?_)
      · refine x_return D_0_begin_97 rfl rfl ?_
        exact ⟨rfl, ⟨a0, a1, a2, a3, a4.trans (congrArg some (ia_ext fun j h0 h1 => hF j h0 (by omega)))⟩, hfr⟩
      exact absurd c81 (by omega)
    | succ f ih =>
      intro k hh F9 h0 h7 hf hF a0 a1 a2 a3 a4 hfr
      refine x_iload_n D_0_begin_78 rfl ?_
      refine x_bipush D_0_begin_79 (by decide +kernel) ?_
      refine x_icmp_ge D_0_begin_81 ⟨by omega, by omega⟩ ⟨by omega, by omega⟩ (fun c81 => ?_) (fun c81 => ?_)
      · refine x_return D_0_begin_97 rfl rfl ?_
        exact ⟨rfl, ⟨a0, a1, a2, a3, a4.trans (congrArg some (ia_ext fun j h0 h1 => hF j h0 (by omega)))⟩, hfr⟩
      refine x_aload_n D_0_begin_84 rfl ?_
      refine x_getfield D_0_begin_85 f_0_21 (by assumption) rfl ?_
      refine x_iload_n D_0_begin_88 rfl ?_
      refine x_iconst D_0_begin_89 ?_
      refine x_iastore D_0_begin_90 (by assumption) (by omega) (by omega) rfl (fun h90 e90 n90 => ?_)
      first | (replace a0 := (n90 _ (by omega)).trans a0) | (replace a0 := e90)
      first | (replace a1 := (n90 _ (by omega)).trans a1) | (replace a1 := e90)
      first | (replace a2 := (n90 _ (by omega)).trans a2) | (replace a2 := e90)
      first | (replace a3 := (n90 _ (by omega)).trans a3) | (replace a3 := e90)
      first | (replace a4 := (n90 _ (by omega)).trans a4) | (replace a4 := e90)
      replace hfr := fun q hq => (n90 q (by omega)).trans (hfr q hq)
      refine x_iinc D_0_begin_91 rfl rfl rfl rfl ?_
      refine x_goto D_0_begin_94 ?_
      refine (ih (k + 1) _ _ (by omega) (by omega) (by omega) (fun j q1 q2 => ?_) a0 a1 a2 a3 a4 hfr).sub rfl
      by_cases e1 : j = k
      · simp [ups, e1]
      · simp only [ups, if_neg e1]; exact hF j q1 (by omega)
  have loop1 : ∀ (f : Nat) (k : Int) (hh : Hp) (F6 F7 F8 F9 : Int → Int), 0 ≤ k → k ≤ 5 → 5 - k ≤ f → (∀ j : Int, 0 ≤ j → j < k → F6 j = T 1 j ∧ F7 j = 0 ∧ F8 j = 0) →
      hh e = some (ob 0 [vi 0, vi (iShl 1 (T 2 0) - 1), vi 0, vi 0, vi 0, vi 0, .ref (e + 1), .ref (e + 2), .ref (e + 3), .ref (e + 4)]) → hh (e + 1) = some (ia 0 5 F6) → hh (e + 2) = some (ia 0 5 F7) → hh (e + 3) = some (ia 0 5 F8) → hh (e + 4) = some (ia 0 7 F9) → (∀ q : Nat, (q < e ∨ e + 4 < q) → hh q = h q) →
      WW d m_0_begin z (EQ1 e h none (mkE 0 (iShl 1 (T 2 0) - 1) 0 0 0 0 (T 1) (fun _ => 0) (fun _ => 0) (fun _ => 0))) z hh 39 [(0, .ref e), (1, .ref t), (2, vi k)] [] := by
    intro f
    induction f with
    | zero =>
      intro k hh F6 F7 F8 F9 h0 h7 hf hF a0 a1 a2 a3 a4 hfr
      refine x_iload_n D_0_begin_39 rfl ?_
      refine x_iconst D_0_begin_40 ?_
      refine x_icmp_ge D_0_begin_41 ⟨by omega, by omega⟩ ⟨by omega, by omega⟩ (fun c41 => ?_) (fun c41 => ?_)
      · refine x_iconst D_0_begin_76 ?_
        refine x_istore_n D_0_begin_77 rfl rfl rfl ?_
        exact (loop2 7 0 _ _ (by omega) (by omega) (by omega) (fun j q1 q2 => absurd q1 (by omega)) a0 (a1.trans (congrArg some (ia_ext fun j h0 h1 => (hF j h0 (by omega)).1))) (a2.trans (congrArg some (ia_ext fun j h0 h1 => (hF j h0 (by omega)).2.1))) (a3.trans (congrArg some (ia_ext fun j h0 h1 => (hF j h0 (by omega)).2.2))) a4 hfr).sub rfl
      exact absurd c41 (by omega)
    | succ f ih =>
      intro k hh F6 F7 F8 F9 h0 h7 hf hF a0 a1 a2 a3 a4 hfr
      have hT1 : TabAt hh t T := hT.kept (fun q q1 q2 => hfr q (by omega))
      obtain ⟨b0, b1, -⟩ := hT1
      refine x_iload_n D_0_begin_39 rfl ?_
      refine x_iconst D_0_begin_40 ?_
      refine x_icmp_ge D_0_begin_41 ⟨by omega, by omega⟩ ⟨by omega, by omega⟩ (fun c41 => ?_) (fun c41 => ?_)
      · refine x_iconst D_0_begin_76 ?_
        refine x_istore_n D_0_begin_77 rfl rfl rfl ?_
        exact (loop2 7 0 _ _ (by omega) (by omega) (by omega) (fun j q1 q2 => absurd q1 (by omega)) a0 (a1.trans (congrArg some (ia_ext fun j h0 h1 => (hF j h0 (by omega)).1))) (a2.trans (congrArg some (ia_ext fun j h0 h1 => (hF j h0 (by omega)).2.1))) (a3.trans (congrArg some (ia_ext fun j h0 h1 => (hF j h0 (by omega)).2.2))) a4 hfr).sub rfl
      refine x_aload_n D_0_begin_44 rfl ?_
      refine x_getfield D_0_begin_45 f_0_9 (by assumption) rfl ?_
      refine x_iload_n D_0_begin_48 rfl ?_
      refine x_aload_n D_0_begin_49 rfl ?_
      refine x_getfield D_0_begin_50 f_0_48 (by assumption) rfl ?_
      refine x_iload_n D_0_begin_53 rfl ?_
      refine x_iaload D_0_begin_54 (by assumption) (by omega) (by omega) rfl ?_
      refine x_iastore D_0_begin_55 (by assumption) (by omega) (by omega) rfl (fun h55 e55 n55 => ?_)
      first | (replace a0 := (n55 _ (by omega)).trans a0) | (replace a0 := e55)
      first | (replace a1 := (n55 _ (by omega)).trans a1) | (replace a1 := e55)
      first | (replace a2 := (n55 _ (by omega)).trans a2) | (replace a2 := e55)
      first | (replace a3 := (n55 _ (by omega)).trans a3) | (replace a3 := e55)
      first | (replace a4 := (n55 _ (by omega)).trans a4) | (replace a4 := e55)
      first | (replace b0 := (n55 _ (by omega)).trans b0) | (replace b0 := e55)
      first | (replace b1 := (n55 _ (by omega)).trans b1) | (replace b1 := e55)
      replace hfr := fun q hq => (n55 q (by omega)).trans (hfr q hq)
      refine x_aload_n D_0_begin_56 rfl ?_
      refine x_getfield D_0_begin_57 f_0_15 (by assumption) rfl ?_
      refine x_iload_n D_0_begin_60 rfl ?_
      refine x_iconst D_0_begin_61 ?_
      refine x_iastore D_0_begin_62 (by assumption) (by omega) (by omega) rfl (fun h62 e62 n62 => ?_)
      first | (replace a0 := (n62 _ (by omega)).trans a0) | (replace a0 := e62)
      first | (replace a1 := (n62 _ (by omega)).trans a1) | (replace a1 := e62)
      first | (replace a2 := (n62 _ (by omega)).trans a2) | (replace a2 := e62)
      first | (replace a3 := (n62 _ (by omega)).trans a3) | (replace a3 := e62)
      first | (replace a4 := (n62 _ (by omega)).trans a4) | (replace a4 := e62)
      first | (replace b0 := (n62 _ (by omega)).trans b0) | (replace b0 := e62)
      first | (replace b1 := (n62 _ (by omega)).trans b1) | (replace b1 := e62)
      replace hfr := fun q hq => (n62 q (by omega)).trans (hfr q hq)
      refine x_aload_n D_0_begin_63 rfl ?_
      refine x_getfield D_0_begin_64 f_0_18 (by assumption) rfl ?_
      refine x_iload_n D_0_begin_67 rfl ?_
      refine x_iconst D_0_begin_68 ?_
      refine x_iastore D_0_begin_69 (by assumption) (by omega) (by omega) rfl (fun h69 e69 n69 => ?_)
      first | (replace a0 := (n69 _ (by omega)).trans a0) | (replace a0 := e69)
      first | (replace a1 := (n69 _ (by omega)).trans a1) | (replace a1 := e69)
      first | (replace a2 := (n69 _ (by omega)).trans a2) | (replace a2 := e69)
      first | (replace a3 := (n69 _ (by omega)).trans a3) | (replace a3 := e69)
      first | (replace a4 := (n69 _ (by omega)).trans a4) | (replace a4 := e69)
      first | (replace b0 := (n69 _ (by omega)).trans b0) | (replace b0 := e69)
      first | (replace b1 := (n69 _ (by omega)).trans b1) | (replace b1 := e69)
      replace hfr := fun q hq => (n69 q (by omega)).trans (hfr q hq)
      refine x_iinc D_0_begin_70 rfl rfl rfl rfl ?_
      refine x_goto D_0_begin_73 ?_
      refine (ih (k + 1) _ _ _ _ _ (by omega) (by omega) (by omega) (fun j q1 q2 => ?_) a0 a1 a2 a3 a4 hfr).sub rfl
      by_cases e1 : j = k
      · simp [ups, e1]
      · simp only [ups, if_neg e1]; exact hF j q1 (by omega)
  obtain ⟨a0, a1, a2, a3, a4⟩ := hE
  obtain ⟨b0, b1, -⟩ := hT
  have hfr : ∀ q : Nat, (q < e ∨ e + 4 < q) → h q = h q := fun _ _ => rfl
  refine x_aload_n D_0_begin_0 rfl ?_
  refine x_iconst D_0_begin_1 ?_
  refine x_putI D_0_begin_2 f_0_24 (by assumption) (by decide +kernel) rfl (fun h2 e2 n2 => ?_)
  simp only [List.set_cons_zero, List.set_cons_succ] at e2
  first | (replace a0 := (n2 _ (by omega)).trans a0) | (replace a0 := e2)
  first | (replace a1 := (n2 _ (by omega)).trans a1) | (replace a1 := e2)
  first | (replace a2 := (n2 _ (by omega)).trans a2) | (replace a2 := e2)
  first | (replace a3 := (n2 _ (by omega)).trans a3) | (replace a3 := e2)
  first | (replace a4 := (n2 _ (by omega)).trans a4) | (replace a4 := e2)
  first | (replace b0 := (n2 _ (by omega)).trans b0) | (replace b0 := e2)
  first | (replace b1 := (n2 _ (by omega)).trans b1) | (replace b1 := e2)
  replace hfr := fun q hq => (n2 q (by omega)).trans (hfr q hq)
  refine x_aload_n D_0_begin_5 rfl ?_
  refine x_iconst D_0_begin_6 ?_
  refine x_aload_n D_0_begin_7 rfl ?_
  refine x_getfield D_0_begin_8 f_0_28 (by assumption) rfl ?_
  refine x_ishl D_0_begin_11 ?_
  refine x_iconst D_0_begin_12 ?_
  refine x_isub D_0_begin_13 ?_
  refine x_putI D_0_begin_14 f_0_33 (by assumption) (by decide +kernel) rfl (fun h14 e14 n14 => ?_)
  simp only [List.set_cons_zero, List.set_cons_succ] at e14
  first | (replace a0 := (n14 _ (by omega)).trans a0) | (replace a0 := e14)
  first | (replace a1 := (n14 _ (by omega)).trans a1) | (replace a1 := e14)
  first | (replace a2 := (n14 _ (by omega)).trans a2) | (replace a2 := e14)
  first | (replace a3 := (n14 _ (by omega)).trans a3) | (replace a3 := e14)
  first | (replace a4 := (n14 _ (by omega)).trans a4) | (replace a4 := e14)
  first | (replace b0 := (n14 _ (by omega)).trans b0) | (replace b0 := e14)
  first | (replace b1 := (n14 _ (by omega)).trans b1) | (replace b1 := e14)
  replace hfr := fun q hq => (n14 q (by omega)).trans (hfr q hq)
  refine x_aload_n D_0_begin_17 rfl ?_
  refine x_iconst D_0_begin_18 ?_
  refine x_putI D_0_begin_19 f_0_36 (by assumption) (by decide +kernel) rfl (fun h19 e19 n19 => ?_)
  simp only [List.set_cons_zero, List.set_cons_succ] at e19
  first | (replace a0 := (n19 _ (by omega)).trans a0) | (replace a0 := e19)
  first | (replace a1 := (n19 _ (by omega)).trans a1) | (replace a1 := e19)
  first | (replace a2 := (n19 _ (by omega)).trans a2) | (replace a2 := e19)
  first | (replace a3 := (n19 _ (by omega)).trans a3) | (replace a3 := e19)
  first | (replace a4 := (n19 _ (by omega)).trans a4) | (replace a4 := e19)
  first | (replace b0 := (n19 _ (by omega)).trans b0) | (replace b0 := e19)
  first | (replace b1 := (n19 _ (by omega)).trans b1) | (replace b1 := e19)
  replace hfr := fun q hq => (n19 q (by omega)).trans (hfr q hq)
  refine x_aload_n D_0_begin_22 rfl ?_
  refine x_iconst D_0_begin_23 ?_
  refine x_putI D_0_begin_24 f_0_39 (by assumption) (by decide +kernel) rfl (fun h24 e24 n24 => ?_)
  simp only [List.set_cons_zero, List.set_cons_succ] at e24
  first | (replace a0 := (n24 _ (by omega)).trans a0) | (replace a0 := e24)
  first | (replace a1 := (n24 _ (by omega)).trans a1) | (replace a1 := e24)
  first | (replace a2 := (n24 _ (by omega)).trans a2) | (replace a2 := e24)
  first | (replace a3 := (n24 _ (by omega)).trans a3) | (replace a3 := e24)
  first | (replace a4 := (n24 _ (by omega)).trans a4) | (replace a4 := e24)
  first | (replace b0 := (n24 _ (by omega)).trans b0) | (replace b0 := e24)
  first | (replace b1 := (n24 _ (by omega)).trans b1) | (replace b1 := e24)
  replace hfr := fun q hq => (n24 q (by omega)).trans (hfr q hq)
  refine x_aload_n D_0_begin_27 rfl ?_
  refine x_iconst D_0_begin_28 ?_
  refine x_putI D_0_begin_29 f_0_42 (by assumption) (by decide +kernel) rfl (fun h29 e29 n29 => ?_)
  simp only [List.set_cons_zero, List.set_cons_succ] at e29
  first | (replace a0 := (n29 _ (by omega)).trans a0) | (replace a0 := e29)
  first | (replace a1 := (n29 _ (by omega)).trans a1) | (replace a1 := e29)
  first | (replace a2 := (n29 _ (by omega)).trans a2) | (replace a2 := e29)
  first | (replace a3 := (n29 _ (by omega)).trans a3) | (replace a3 := e29)
  first | (replace a4 := (n29 _ (by omega)).trans a4) | (replace a4 := e29)
  first | (replace b0 := (n29 _ (by omega)).trans b0) | (replace b0 := e29)
  first | (replace b1 := (n29 _ (by omega)).trans b1) | (replace b1 := e29)
  replace hfr := fun q hq => (n29 q (by omega)).trans (hfr q hq)
  refine x_aload_n D_0_begin_32 rfl ?_
  refine x_iconst D_0_begin_33 ?_
  refine x_putI D_0_begin_34 f_0_45 (by assumption) (by decide +kernel) rfl (fun h34 e34 n34 => ?_)
  simp only [List.set_cons_zero, List.set_cons_succ] at e34
  first | (replace a0 := (n34 _ (by omega)).trans a0) | (replace a0 := e34)
  first | (replace a1 := (n34 _ (by omega)).trans a1) | (replace a1 := e34)
  first | (replace a2 := (n34 _ (by omega)).trans a2) | (replace a2 := e34)
  first | (replace a3 := (n34 _ (by omega)).trans a3) | (replace a3 := e34)
  first | (replace a4 := (n34 _ (by omega)).trans a4) | (replace a4 := e34)
  first | (replace b0 := (n34 _ (by omega)).trans b0) | (replace b0 := e34)
  first | (replace b1 := (n34 _ (by omega)).trans b1) | (replace b1 := e34)
  replace hfr := fun q hq => (n34 q (by omega)).trans (hfr q hq)
  refine x_iconst D_0_begin_37 ?_
  refine x_istore_n D_0_begin_38 rfl rfl rfl ?_
  exact (loop1 5 0 _ _ _ _ _ (by omega) (by omega) (by omega) (fun j q1 q2 => absurd q1 (by omega)) a0 a1 a2 a3 a4 hfr).sub rfl
theorem c_0_copyFrom {d : Nat} (hd : 0 ≤ d) {z : Nat × Nat} {h : Hp} {e t : Nat} {E T : TT} (hE : EvAt h e E) (hT : EvAt h t T) (hs : e + 4 < t ∨ t + 4 < e) : Ct d m_0_copyFrom [.ref e, .ref t] z z h (EQ1 e h none T) := by
  refine Ct.of (by decide) ⟨Nat.le_refl _, Nat.le_refl _⟩ (Nat.le_of_ble_eq_true rfl) ?_
  have loop2 : ∀ (f : Nat) (k : Int) (hh : Hp) (F9 : Int → Int), 0 ≤ k → k ≤ 7 → 7 - k ≤ f → (∀ j : Int, 0 ≤ j → j < k → F9 j = T 9 j) →
      hh e = some (ob 0 [vi (T 0 0), vi (T 1 0), vi (T 2 0), vi (T 3 0), vi (T 4 0), vi (T 5 0), .ref (e + 1), .ref (e + 2), .ref (e + 3), .ref (e + 4)]) → hh (e + 1) = some (ia 0 5 (T 6)) → hh (e + 2) = some (ia 0 5 (T 7)) → hh (e + 3) = some (ia 0 5 (T 8)) → hh (e + 4) = some (ia 0 7 F9) → (∀ q : Nat, (q < e ∨ e + 4 < q) → hh q = h q) →
      WW d m_0_copyFrom z (EQ1 e h none T) z hh 99 [(0, .ref e), (1, .ref t), (2, vi k)] [] := by
    intro f
    induction f with
    | zero =>
      intro k hh F9 h0 h7 hf hF a0 a1 a2 a3 a4 hfr
      refine x_iload_n D_0_copyFrom_99 rfl ?_
      refine x_bipush D_0_copyFrom_100 (by decide +kernel) ?_
      refine x_icmp_ge D_0_copyFrom_102 ⟨by omega, by omega⟩ ⟨by omega, by omega⟩ (fun c102 => ?_) (fun c102 => ?_)
      · refine x_return D_0_copyFrom_123 rfl rfl ?_
        exact ⟨rfl, ⟨a0, a1, a2, a3, a4.trans (congrArg some (ia_ext fun j h0 h1 => hF j h0 (by omega)))⟩, hfr⟩
      exact absurd c102 (by omega)
    | succ f ih =>
      intro k hh F9 h0 h7 hf hF a0 a1 a2 a3 a4 hfr
      have hT1 : EvAt hh t T := hT.kept (fun q q1 q2 => hfr q (by omega))
      obtain ⟨b0, b1, b2, b3, b4⟩ := hT1
      refine x_iload_n D_0_copyFrom_99 rfl ?_
      refine x_bipush D_0_copyFrom_100 (by decide +kernel) ?_
      refine x_icmp_ge D_0_copyFrom_102 ⟨by omega, by omega⟩ ⟨by omega, by omega⟩ (fun c102 => ?_) (fun c102 => ?_)
      · refine x_return D_0_copyFrom_123 rfl rfl ?_
        exact ⟨rfl, ⟨a0, a1, a2, a3, a4.trans (congrArg some (ia_ext fun j h0 h1 => hF j h0 (by omega)))⟩, hfr⟩
      refine x_aload_n D_0_copyFrom_105 rfl ?_
      refine x_getfield D_0_copyFrom_106 f_0_21 (by assumption) rfl ?_
      refine x_iload_n D_0_copyFrom_109 rfl ?_
      refine x_aload_n D_0_copyFrom_110 rfl ?_
      refine x_getfield D_0_copyFrom_111 f_0_21 (by assumption) rfl ?_
      refine x_iload_n D_0_copyFrom_114 rfl ?_
      refine x_iaload D_0_copyFrom_115 (by assumption) (by omega) (by omega) rfl ?_
      refine x_iastore D_0_copyFrom_116 (by assumption) (by omega) (by omega) rfl (fun h116 e116 n116 => ?_)
      first | (replace a0 := (n116 _ (by omega)).trans a0) | (replace a0 := e116)
      first | (replace a1 := (n116 _ (by omega)).trans a1) | (replace a1 := e116)
      first | (replace a2 := (n116 _ (by omega)).trans a2) | (replace a2 := e116)
      first | (replace a3 := (n116 _ (by omega)).trans a3) | (replace a3 := e116)
      first | (replace a4 := (n116 _ (by omega)).trans a4) | (replace a4 := e116)
      replace hfr := fun q hq => (n116 q (by omega)).trans (hfr q hq)
      refine x_iinc D_0_copyFrom_117 rfl rfl rfl rfl ?_
      refine x_goto D_0_copyFrom_120 ?_
      refine (ih (k + 1) _ _ (by omega) (by omega) (by omega) (fun j q1 q2 => ?_) a0 a1 a2 a3 a4 hfr).sub rfl
      by_cases e1 : j = k
      · simp [ups, e1]
      · simp only [ups, if_neg e1]; exact hF j q1 (by omega)
  have loop1 : ∀ (f : Nat) (k : Int) (hh : Hp) (F6 F7 F8 F9 : Int → Int), 0 ≤ k → k ≤ 5 → 5 - k ≤ f → (∀ j : Int, 0 ≤ j → j < k → F6 j = T 6 j ∧ F7 j = T 7 j ∧ F8 j = T 8 j) →
      hh e = some (ob 0 [vi (T 0 0), vi (T 1 0), vi (T 2 0), vi (T 3 0), vi (T 4 0), vi (T 5 0), .ref (e + 1), .ref (e + 2), .ref (e + 3), .ref (e + 4)]) → hh (e + 1) = some (ia 0 5 F6) → hh (e + 2) = some (ia 0 5 F7) → hh (e + 3) = some (ia 0 5 F8) → hh (e + 4) = some (ia 0 7 F9) → (∀ q : Nat, (q < e ∨ e + 4 < q) → hh q = h q) →
      WW d m_0_copyFrom z (EQ1 e h none T) z hh 50 [(0, .ref e), (1, .ref t), (2, vi k)] [] := by
    intro f
    induction f with
    | zero =>
      intro k hh F6 F7 F8 F9 h0 h7 hf hF a0 a1 a2 a3 a4 hfr
      refine x_iload_n D_0_copyFrom_50 rfl ?_
      refine x_iconst D_0_copyFrom_51 ?_
      refine x_icmp_ge D_0_copyFrom_52 ⟨by omega, by omega⟩ ⟨by omega, by omega⟩ (fun c52 => ?_) (fun c52 => ?_)
      · refine x_iconst D_0_copyFrom_97 ?_
        refine x_istore_n D_0_copyFrom_98 rfl rfl rfl ?_
        exact (loop2 7 0 _ _ (by omega) (by omega) (by omega) (fun j q1 q2 => absurd q1 (by omega)) a0 (a1.trans (congrArg some (ia_ext fun j h0 h1 => (hF j h0 (by omega)).1))) (a2.trans (congrArg some (ia_ext fun j h0 h1 => (hF j h0 (by omega)).2.1))) (a3.trans (congrArg some (ia_ext fun j h0 h1 => (hF j h0 (by omega)).2.2))) a4 hfr).sub rfl
      exact absurd c52 (by omega)
    | succ f ih =>
      intro k hh F6 F7 F8 F9 h0 h7 hf hF a0 a1 a2 a3 a4 hfr
      have hT1 : EvAt hh t T := hT.kept (fun q q1 q2 => hfr q (by omega))
      obtain ⟨b0, b1, b2, b3, b4⟩ := hT1
      refine x_iload_n D_0_copyFrom_50 rfl ?_
      refine x_iconst D_0_copyFrom_51 ?_
      refine x_icmp_ge D_0_copyFrom_52 ⟨by omega, by omega⟩ ⟨by omega, by omega⟩ (fun c52 => ?_) (fun c52 => ?_)
      · refine x_iconst D_0_copyFrom_97 ?_
        refine x_istore_n D_0_copyFrom_98 rfl rfl rfl ?_
        exact (loop2 7 0 _ _ (by omega) (by omega) (by omega) (fun j q1 q2 => absurd q1 (by omega)) a0 (a1.trans (congrArg some (ia_ext fun j h0 h1 => (hF j h0 (by omega)).1))) (a2.trans (congrArg some (ia_ext fun j h0 h1 => (hF j h0 (by omega)).2.1))) (a3.trans (congrArg some (ia_ext fun j h0 h1 => (hF j h0 (by omega)).2.2))) a4 hfr).sub rfl
      refine x_aload_n D_0_copyFrom_55 rfl ?_
      refine x_getfield D_0_copyFrom_56 f_0_9 (by assumption) rfl ?_
      refine x_iload_n D_0_copyFrom_59 rfl ?_
      refine x_aload_n D_0_copyFrom_60 rfl ?_
      refine x_getfield D_0_copyFrom_61 f_0_9 (by assumption) rfl ?_
      refine x_iload_n D_0_copyFrom_64 rfl ?_
      refine x_iaload D_0_copyFrom_65 (by assumption) (by omega) (by omega) rfl ?_
      refine x_iastore D_0_copyFrom_66 (by assumption) (by omega) (by omega) rfl (fun h66 e66 n66 => ?_)
      first | (replace a0 := (n66 _ (by omega)).trans a0) | (replace a0 := e66)
      first | (replace a1 := (n66 _ (by omega)).trans a1) | (replace a1 := e66)
      first | (replace a2 := (n66 _ (by omega)).trans a2) | (replace a2 := e66)
      first | (replace a3 := (n66 _ (by omega)).trans a3) | (replace a3 := e66)
      first | (replace a4 := (n66 _ (by omega)).trans a4) | (replace a4 := e66)
      first | (replace b0 := (n66 _ (by omega)).trans b0) | (replace b0 := e66)
      first | (replace b1 := (n66 _ (by omega)).trans b1) | (replace b1 := e66)
      first | (replace b2 := (n66 _ (by omega)).trans b2) | (replace b2 := e66)
      first | (replace b3 := (n66 _ (by omega)).trans b3) | (replace b3 := e66)
      replace hfr := fun q hq => (n66 q (by omega)).trans (hfr q hq)
      refine x_aload_n D_0_copyFrom_67 rfl ?_
      refine x_getfield D_0_copyFrom_68 f_0_15 (by assumption) rfl ?_
      refine x_iload_n D_0_copyFrom_71 rfl ?_
      refine x_aload_n D_0_copyFrom_72 rfl ?_
      refine x_getfield D_0_copyFrom_73 f_0_15 (by assumption) rfl ?_
      refine x_iload_n D_0_copyFrom_76 rfl ?_
      refine x_iaload D_0_copyFrom_77 (by assumption) (by omega) (by omega) rfl ?_
      refine x_iastore D_0_copyFrom_78 (by assumption) (by omega) (by omega) rfl (fun h78 e78 n78 => ?_)
      first | (replace a0 := (n78 _ (by omega)).trans a0) | (replace a0 := e78)
      first | (replace a1 := (n78 _ (by omega)).trans a1) | (replace a1 := e78)
      first | (replace a2 := (n78 _ (by omega)).trans a2) | (replace a2 := e78)
      first | (replace a3 := (n78 _ (by omega)).trans a3) | (replace a3 := e78)
      first | (replace a4 := (n78 _ (by omega)).trans a4) | (replace a4 := e78)
      first | (replace b0 := (n78 _ (by omega)).trans b0) | (replace b0 := e78)
      first | (replace b1 := (n78 _ (by omega)).trans b1) | (replace b1 := e78)
      first | (replace b2 := (n78 _ (by omega)).trans b2) | (replace b2 := e78)
      first | (replace b3 := (n78 _ (by omega)).trans b3) | (replace b3 := e78)
      replace hfr := fun q hq => (n78 q (by omega)).trans (hfr q hq)
      refine x_aload_n D_0_copyFrom_79 rfl ?_
      refine x_getfield D_0_copyFrom_80 f_0_18 (by assumption) rfl ?_
      refine x_iload_n D_0_copyFrom_83 rfl ?_
      refine x_aload_n D_0_copyFrom_84 rfl ?_
      refine x_getfield D_0_copyFrom_85 f_0_18 (by assumption) rfl ?_
      refine x_iload_n D_0_copyFrom_88 rfl ?_
      refine x_iaload D_0_copyFrom_89 (by assumption) (by omega) (by omega) rfl ?_
      refine x_iastore D_0_copyFrom_90 (by assumption) (by omega) (by omega) rfl (fun h90 e90 n90 => ?_)
      first | (replace a0 := (n90 _ (by omega)).trans a0) | (replace a0 := e90)
      first | (replace a1 := (n90 _ (by omega)).trans a1) | (replace a1 := e90)
      first | (replace a2 := (n90 _ (by omega)).trans a2) | (replace a2 := e90)
      first | (replace a3 := (n90 _ (by omega)).trans a3) | (replace a3 := e90)
      first | (replace a4 := (n90 _ (by omega)).trans a4) | (replace a4 := e90)
      first | (replace b0 := (n90 _ (by omega)).trans b0) | (replace b0 := e90)
      first | (replace b1 := (n90 _ (by omega)).trans b1) | (replace b1 := e90)
      first | (replace b2 := (n90 _ (by omega)).trans b2) | (replace b2 := e90)
      first | (replace b3 := (n90 _ (by omega)).trans b3) | (replace b3 := e90)
      replace hfr := fun q hq => (n90 q (by omega)).trans (hfr q hq)
      refine x_iinc D_0_copyFrom_91 rfl rfl rfl rfl ?_
      refine x_goto D_0_copyFrom_94 ?_
      refine (ih (k + 1) _ _ _ _ _ (by omega) (by omega) (by omega) (fun j q1 q2 => ?_) a0 a1 a2 a3 a4 hfr).sub rfl
      by_cases e1 : j = k
      · simp [ups, e1]
      · simp only [ups, if_neg e1]; exact hF j q1 (by omega)
  obtain ⟨a0, a1, a2, a3, a4⟩ := hE
  obtain ⟨b0, b1, b2, b3, b4⟩ := hT
  have hfr : ∀ q : Nat, (q < e ∨ e + 4 < q) → h q = h q := fun _ _ => rfl
  refine x_aload_n D_0_copyFrom_0 rfl ?_
  refine x_aload_n D_0_copyFrom_1 rfl ?_
  refine x_getfield D_0_copyFrom_2 f_0_24 (by assumption) rfl ?_
  refine x_putI D_0_copyFrom_5 f_0_24 (by assumption) (by decide +kernel) rfl (fun h5 e5 n5 => ?_)
  simp only [List.set_cons_zero, List.set_cons_succ] at e5
  first | (replace a0 := (n5 _ (by omega)).trans a0) | (replace a0 := e5)
  first | (replace a1 := (n5 _ (by omega)).trans a1) | (replace a1 := e5)
  first | (replace a2 := (n5 _ (by omega)).trans a2) | (replace a2 := e5)
  first | (replace a3 := (n5 _ (by omega)).trans a3) | (replace a3 := e5)
  first | (replace a4 := (n5 _ (by omega)).trans a4) | (replace a4 := e5)
  first | (replace b0 := (n5 _ (by omega)).trans b0) | (replace b0 := e5)
  first | (replace b1 := (n5 _ (by omega)).trans b1) | (replace b1 := e5)
  first | (replace b2 := (n5 _ (by omega)).trans b2) | (replace b2 := e5)
  first | (replace b3 := (n5 _ (by omega)).trans b3) | (replace b3 := e5)
  first | (replace b4 := (n5 _ (by omega)).trans b4) | (replace b4 := e5)
  replace hfr := fun q hq => (n5 q (by omega)).trans (hfr q hq)
  refine x_aload_n D_0_copyFrom_8 rfl ?_
  refine x_aload_n D_0_copyFrom_9 rfl ?_
  refine x_getfield D_0_copyFrom_10 f_0_33 (by assumption) rfl ?_
  refine x_putI D_0_copyFrom_13 f_0_33 (by assumption) (by decide +kernel) rfl (fun h13 e13 n13 => ?_)
  simp only [List.set_cons_zero, List.set_cons_succ] at e13
  first | (replace a0 := (n13 _ (by omega)).trans a0) | (replace a0 := e13)
  first | (replace a1 := (n13 _ (by omega)).trans a1) | (replace a1 := e13)
  first | (replace a2 := (n13 _ (by omega)).trans a2) | (replace a2 := e13)
  first | (replace a3 := (n13 _ (by omega)).trans a3) | (replace a3 := e13)
  first | (replace a4 := (n13 _ (by omega)).trans a4) | (replace a4 := e13)
  first | (replace b0 := (n13 _ (by omega)).trans b0) | (replace b0 := e13)
  first | (replace b1 := (n13 _ (by omega)).trans b1) | (replace b1 := e13)
  first | (replace b2 := (n13 _ (by omega)).trans b2) | (replace b2 := e13)
  first | (replace b3 := (n13 _ (by omega)).trans b3) | (replace b3 := e13)
  first | (replace b4 := (n13 _ (by omega)).trans b4) | (replace b4 := e13)
  replace hfr := fun q hq => (n13 q (by omega)).trans (hfr q hq)
  refine x_aload_n D_0_copyFrom_16 rfl ?_
  refine x_aload_n D_0_copyFrom_17 rfl ?_
  refine x_getfield D_0_copyFrom_18 f_0_36 (by assumption) rfl ?_
  refine x_putI D_0_copyFrom_21 f_0_36 (by assumption) (by decide +kernel) rfl (fun h21 e21 n21 => ?_)
  simp only [List.set_cons_zero, List.set_cons_succ] at e21
  first | (replace a0 := (n21 _ (by omega)).trans a0) | (replace a0 := e21)
  first | (replace a1 := (n21 _ (by omega)).trans a1) | (replace a1 := e21)
  first | (replace a2 := (n21 _ (by omega)).trans a2) | (replace a2 := e21)
  first | (replace a3 := (n21 _ (by omega)).trans a3) | (replace a3 := e21)
  first | (replace a4 := (n21 _ (by omega)).trans a4) | (replace a4 := e21)
  first | (replace b0 := (n21 _ (by omega)).trans b0) | (replace b0 := e21)
  first | (replace b1 := (n21 _ (by omega)).trans b1) | (replace b1 := e21)
  first | (replace b2 := (n21 _ (by omega)).trans b2) | (replace b2 := e21)
  first | (replace b3 := (n21 _ (by omega)).trans b3) | (replace b3 := e21)
  first | (replace b4 := (n21 _ (by omega)).trans b4) | (replace b4 := e21)
  replace hfr := fun q hq => (n21 q (by omega)).trans (hfr q hq)
  refine x_aload_n D_0_copyFrom_24 rfl ?_
  refine x_aload_n D_0_copyFrom_25 rfl ?_
  refine x_getfield D_0_copyFrom_26 f_0_39 (by assumption) rfl ?_
  refine x_putI D_0_copyFrom_29 f_0_39 (by assumption) (by decide +kernel) rfl (fun h29 e29 n29 => ?_)
  simp only [List.set_cons_zero, List.set_cons_succ] at e29
  first | (replace a0 := (n29 _ (by omega)).trans a0) | (replace a0 := e29)
  first | (replace a1 := (n29 _ (by omega)).trans a1) | (replace a1 := e29)
  first | (replace a2 := (n29 _ (by omega)).trans a2) | (replace a2 := e29)
  first | (replace a3 := (n29 _ (by omega)).trans a3) | (replace a3 := e29)
  first | (replace a4 := (n29 _ (by omega)).trans a4) | (replace a4 := e29)
  first | (replace b0 := (n29 _ (by omega)).trans b0) | (replace b0 := e29)
  first | (replace b1 := (n29 _ (by omega)).trans b1) | (replace b1 := e29)
  first | (replace b2 := (n29 _ (by omega)).trans b2) | (replace b2 := e29)
  first | (replace b3 := (n29 _ (by omega)).trans b3) | (replace b3 := e29)
  first | (replace b4 := (n29 _ (by omega)).trans b4) | (replace b4 := e29)
  replace hfr := fun q hq => (n29 q (by omega)).trans (hfr q hq)
  refine x_aload_n D_0_copyFrom_32 rfl ?_
  refine x_aload_n D_0_copyFrom_33 rfl ?_
  refine x_getfield D_0_copyFrom_34 f_0_42 (by assumption) rfl ?_
  refine x_putI D_0_copyFrom_37 f_0_42 (by assumption) (by decide +kernel) rfl (fun h37 e37 n37 => ?_)
  simp only [List.set_cons_zero, List.set_cons_succ] at e37
  first | (replace a0 := (n37 _ (by omega)).trans a0) | (replace a0 := e37)
  first | (replace a1 := (n37 _ (by omega)).trans a1) | (replace a1 := e37)
  first | (replace a2 := (n37 _ (by omega)).trans a2) | (replace a2 := e37)
  first | (replace a3 := (n37 _ (by omega)).trans a3) | (replace a3 := e37)
  first | (replace a4 := (n37 _ (by omega)).trans a4) | (replace a4 := e37)
  first | (replace b0 := (n37 _ (by omega)).trans b0) | (replace b0 := e37)
  first | (replace b1 := (n37 _ (by omega)).trans b1) | (replace b1 := e37)
  first | (replace b2 := (n37 _ (by omega)).trans b2) | (replace b2 := e37)
  first | (replace b3 := (n37 _ (by omega)).trans b3) | (replace b3 := e37)
  first | (replace b4 := (n37 _ (by omega)).trans b4) | (replace b4 := e37)
  replace hfr := fun q hq => (n37 q (by omega)).trans (hfr q hq)
  refine x_aload_n D_0_copyFrom_40 rfl ?_
  refine x_aload_n D_0_copyFrom_41 rfl ?_
  refine x_getfield D_0_copyFrom_42 f_0_45 (by assumption) rfl ?_
  refine x_putI D_0_copyFrom_45 f_0_45 (by assumption) (by decide +kernel) rfl (fun h45 e45 n45 => ?_)
  simp only [List.set_cons_zero, List.set_cons_succ] at e45
  first | (replace a0 := (n45 _ (by omega)).trans a0) | (replace a0 := e45)
  first | (replace a1 := (n45 _ (by omega)).trans a1) | (replace a1 := e45)
  first | (replace a2 := (n45 _ (by omega)).trans a2) | (replace a2 := e45)
  first | (replace a3 := (n45 _ (by omega)).trans a3) | (replace a3 := e45)
  first | (replace a4 := (n45 _ (by omega)).trans a4) | (replace a4 := e45)
  first | (replace b0 := (n45 _ (by omega)).trans b0) | (replace b0 := e45)
  first | (replace b1 := (n45 _ (by omega)).trans b1) | (replace b1 := e45)
  first | (replace b2 := (n45 _ (by omega)).trans b2) | (replace b2 := e45)
  first | (replace b3 := (n45 _ (by omega)).trans b3) | (replace b3 := e45)
  first | (replace b4 := (n45 _ (by omega)).trans b4) | (replace b4 := e45)
  replace hfr := fun q hq => (n45 q (by omega)).trans (hfr q hq)
  refine x_iconst D_0_copyFrom_48 ?_
  refine x_istore_n D_0_copyFrom_49 rfl rfl rfl ?_
  exact (loop1 5 0 _ _ _ _ _ (by omega) (by omega) (by omega) (fun j q1 q2 => absurd q1 (by omega)) a0 a1 a2 a3 a4 hfr).sub rfl
/-- how dry with so much more, within 1 and 9 -/
def dryBy (a b : Int) : Int := if a + b < 1 then 1 else if a + b > 9 then 9 else a + b
theorem c_0_eatDish {d : Nat} (hd : 1 ≤ d) {z : Nat × Nat} {h : Hp} {e t : Nat} {E T : TT} {k : Int} (hE : EvAt h e E) (hT : TabAt h t T) (hs : e + 4 < t ∨ t + 8 < e) (hk : TabOk T) (h0 : 0 ≤ k) (h1 : k < T 9 0) (hdr : ∀ i : Int, 0 ≤ i → i < T 0 0 → 1 ≤ E 6 i ∧ E 6 i ≤ 9) :
    Ct d m_0_eatDish [.ref e, .ref t, vi k] z z h (EQ1 e h (some (vi (dryBy (E 6 (T 10 k)) (T 11 k)))) (mkE (E 0 0) (E 1 0) (E 2 0) (iOr (E 3 0) (iShl 1 k)) (E 4 0) (E 5 0) (ups (E 6) (T 10 k) (dryBy (E 6 (T 10 k)) (T 11 k))) (E 7) (E 8) (E 9))) := by
  refine Ct.of (by decide) ⟨Nat.le_refl _, Nat.le_refl _⟩ (Nat.le_of_ble_eq_true rfl) ?_
  obtain ⟨a0, a1, a2, a3, a4⟩ := hE
  obtain ⟨b0, b1, b2, b3, b4, b5, b6, b7, b8⟩ := hT
  have k10 := hk.2.2.2.2.2.2.2.2 k h0 h1
  have k0 := hk.1
  have k9 := hk.2.2.2.1
  have hdk := hdr (T 10 k) k10.1.1 k10.1.2
  have hfr : ∀ q : Nat, (q < e ∨ e + 4 < q) → h q = h q := fun _ _ => rfl
  have eq : (if (1 : Int) < (if E 6 (T 10 k) + T 11 k < 9 then E 6 (T 10 k) + T 11 k else 9) then (if E 6 (T 10 k) + T 11 k < 9 then E 6 (T 10 k) + T 11 k else 9) else 1) = dryBy (E 6 (T 10 k)) (T 11 k) := by
    unfold dryBy
    split <;> split <;> split <;> (try split) <;> omega
  have hbd : B3 (if E 6 (T 10 k) + T 11 k < 9 then E 6 (T 10 k) + T 11 k else 9) := by split <;> exact ⟨by omega, by omega⟩
  refine x_aload_n D_0_eatDish_0 rfl ?_
  refine x_getfield D_0_eatDish_1 f_0_49 (by assumption) rfl ?_
  refine x_iload_n D_0_eatDish_4 rfl ?_
  refine x_iaload D_0_eatDish_5 (by assumption) (by omega) (by omega) rfl ?_
  refine x_istore_n D_0_eatDish_6 rfl rfl rfl ?_
  refine x_aload_n D_0_eatDish_7 rfl ?_
  refine x_dup D_0_eatDish_8 rfl ?_
  refine x_getfield D_0_eatDish_9 f_0_39 (by assumption) rfl ?_
  refine x_iconst D_0_eatDish_12 ?_
  refine x_iload_n D_0_eatDish_13 rfl ?_
  refine x_ishl D_0_eatDish_14 ?_
  refine x_ior D_0_eatDish_15 ?_
  refine x_putI D_0_eatDish_16 f_0_39 (by assumption) (by decide +kernel) rfl (fun h16 e16 n16 => ?_)
  simp only [List.set_cons_zero, List.set_cons_succ] at e16
  first | (replace a0 := (n16 _ (by omega)).trans a0) | (replace a0 := e16)
  first | (replace a1 := (n16 _ (by omega)).trans a1) | (replace a1 := e16)
  first | (replace a2 := (n16 _ (by omega)).trans a2) | (replace a2 := e16)
  first | (replace a3 := (n16 _ (by omega)).trans a3) | (replace a3 := e16)
  first | (replace a4 := (n16 _ (by omega)).trans a4) | (replace a4 := e16)
  first | (replace b0 := (n16 _ (by omega)).trans b0) | (replace b0 := e16)
  first | (replace b1 := (n16 _ (by omega)).trans b1) | (replace b1 := e16)
  first | (replace b2 := (n16 _ (by omega)).trans b2) | (replace b2 := e16)
  first | (replace b3 := (n16 _ (by omega)).trans b3) | (replace b3 := e16)
  first | (replace b4 := (n16 _ (by omega)).trans b4) | (replace b4 := e16)
  first | (replace b5 := (n16 _ (by omega)).trans b5) | (replace b5 := e16)
  first | (replace b6 := (n16 _ (by omega)).trans b6) | (replace b6 := e16)
  first | (replace b7 := (n16 _ (by omega)).trans b7) | (replace b7 := e16)
  first | (replace b8 := (n16 _ (by omega)).trans b8) | (replace b8 := e16)
  replace hfr := fun q hq => (n16 q (by omega)).trans (hfr q hq)
  refine x_aload_n D_0_eatDish_19 rfl ?_
  refine x_getfield D_0_eatDish_20 f_0_9 (by assumption) rfl ?_
  refine x_iload_n D_0_eatDish_23 rfl ?_
  refine x_iconst D_0_eatDish_24 ?_
  refine x_bipush D_0_eatDish_25 (by decide +kernel) ?_
  refine x_aload_n D_0_eatDish_27 rfl ?_
  refine x_getfield D_0_eatDish_28 f_0_9 (by assumption) rfl ?_
  refine x_iload_n D_0_eatDish_31 rfl ?_
  refine x_iaload D_0_eatDish_32 (by assumption) (by omega) (by omega) rfl ?_
  refine x_aload_n D_0_eatDish_33 rfl ?_
  refine x_getfield D_0_eatDish_34 f_0_52 (by assumption) rfl ?_
  refine x_iload_n D_0_eatDish_37 rfl ?_
  refine x_iaload D_0_eatDish_38 (by assumption) (by omega) (by omega) rfl ?_
  refine x_iadd D_0_eatDish_39 ?_
  refine x_min D_0_eatDish_40 l_0_55 ⟨by omega, by omega⟩ ⟨by omega, by omega⟩ (by omega) rfl ?_
  refine x_max D_0_eatDish_43 l_0_61 ⟨by omega, by omega⟩ hbd (by omega) rfl ?_
  rw [eq]
  refine x_iastore D_0_eatDish_46 (by assumption) (by omega) (by omega) rfl (fun h46 e46 n46 => ?_)
  first | (replace a0 := (n46 _ (by omega)).trans a0) | (replace a0 := e46)
  first | (replace a1 := (n46 _ (by omega)).trans a1) | (replace a1 := e46)
  first | (replace a2 := (n46 _ (by omega)).trans a2) | (replace a2 := e46)
  first | (replace a3 := (n46 _ (by omega)).trans a3) | (replace a3 := e46)
  first | (replace a4 := (n46 _ (by omega)).trans a4) | (replace a4 := e46)
  first | (replace b0 := (n46 _ (by omega)).trans b0) | (replace b0 := e46)
  first | (replace b1 := (n46 _ (by omega)).trans b1) | (replace b1 := e46)
  first | (replace b2 := (n46 _ (by omega)).trans b2) | (replace b2 := e46)
  first | (replace b3 := (n46 _ (by omega)).trans b3) | (replace b3 := e46)
  first | (replace b4 := (n46 _ (by omega)).trans b4) | (replace b4 := e46)
  first | (replace b5 := (n46 _ (by omega)).trans b5) | (replace b5 := e46)
  first | (replace b6 := (n46 _ (by omega)).trans b6) | (replace b6 := e46)
  first | (replace b7 := (n46 _ (by omega)).trans b7) | (replace b7 := e46)
  first | (replace b8 := (n46 _ (by omega)).trans b8) | (replace b8 := e46)
  replace hfr := fun q hq => (n46 q (by omega)).trans (hfr q hq)
  refine x_aload_n D_0_eatDish_47 rfl ?_
  refine x_getfield D_0_eatDish_48 f_0_9 (by assumption) rfl ?_
  refine x_iload_n D_0_eatDish_51 rfl ?_
  refine x_iaload D_0_eatDish_52 (by assumption) (by omega) (by omega) rfl ?_
  refine x_ireturn D_0_eatDish_53 rfl (by first | rfl | exact nb_bi _ | decide +kernel) rfl ?_
  exact ⟨by simp [ups], ⟨a0, a1, a2, a3, a4⟩, hfr⟩
end
section
/-- the evening's mouths are as D says -/
abbrev DrOk (T E : TT) (D : Int → Int) : Prop := ∀ i : Int, 0 ≤ i → i < T 0 0 → E 6 i = D i ∧ 1 ≤ D i ∧ D i ≤ 9
theorem melt_rng {a b : Int} (h1 : 1 ≤ a ∧ a ≤ 9) (h2 : 1 ≤ b ∧ b ≤ 9) : 1 ≤ a * b ∧ a * b ≤ 81 := by
  obtain ⟨h3, h4⟩ := h1
  have : a = 1 ∨ a = 2 ∨ a = 3 ∨ a = 4 ∨ a = 5 ∨ a = 6 ∨ a = 7 ∨ a = 8 ∨ a = 9 := by omega
  rcases this with rfl | rfl | rfl | rfl | rfl | rfl | rfl | rfl | rfl <;> omega
theorem c_1_grainsFor {d : Nat} (hd : 1 ≤ d) {z : Nat × Nat} {h : Hp} {t e : Nat} {T E : TT} {D : Int → Int} {s : Int} (hT : TabAt h t T) (hE : EvAt h e E) (hk : TabOk T) (hD : DrOk T E D) (hs : 0 ≤ s ∧ s < T 4 0) : Ct d m_1_grainsFor [.ref t, .ref e, vi s] z z h (Pu (gf T D (E 2 0) s) h) := by
  refine Ct.of (by decide) ⟨Nat.le_refl _, Nat.le_refl _⟩ (Nat.le_of_ble_eq_true rfl) ?_
  obtain ⟨a0, a1, a2, a3, a4, a5, a6, a7, a8⟩ := hT
  obtain ⟨b0, b1, b2, b3, b4⟩ := hE
  have k2 := hk.2.1
  have k0 := hk.1
  have k4 := hk.2.2.1
  have k5 := hk.2.2.2.2.2.2.2.1 s hs.1 hs.2
  have hDs := hD (T 5 s) k5.1.1 k5.1.2
  have k3 := hk.2.2.2.2.2.2.1
  obtain ⟨c, hc⟩ : ∃ c : Nat, T 2 0 = (c : Int) := ⟨_, (Int.toNat_of_nonneg k2.1).symm⟩
  have hc2 : nGr T = c := by unfold nGr; omega
  by_cases hsd : hasB (E 2 0) s
  · have eg : gf T D (E 2 0) s = 0 := by unfold gf; rw [if_pos hsd]
    rw [eg]
    refine x_aload_n D_1_grainsFor_0 rfl ?_
    refine x_getfield D_1_grainsFor_1 f_1_41 (by assumption) rfl ?_
    refine x_iload_n D_1_grainsFor_4 rfl ?_
    refine x_invSN (d' := d - 1) D_1_grainsFor_5 l_1_46 mi_5_isIn (c_5_isIn (by omega))  rfl (by omega) rfl (fun q => q) rfl rfl (fun r5 h5 q5 => ?_)
    obtain ⟨rfl, rfl⟩ := q5
    refine x_if_eqb D_1_grainsFor_8 (fun c8 => ?_) (fun c8 => ?_)
    · exact absurd hsd c8
    refine x_iconst D_1_grainsFor_11 ?_
    refine x_ireturn D_1_grainsFor_12 rfl (by first | rfl | exact nb_bi _ | decide +kernel) rfl ?_
    exact ⟨rfl, rfl⟩
  have eg : gf T D (E 2 0) s = gfF T D s c := by unfold gf; rw [if_neg hsd, hc2]
  rw [eg]
  have loop : ∀ (f k : Nat) (v : Int), v = gfF T D s k → c = k + f → WW d m_1_grainsFor z (Pu (gfF T D s c) h) z h 18 [(0, .ref t), (1, .ref e), (2, vi s), (3, vi v), (4, vi k)] [] := by
    intro f
    induction f with
    | zero =>
      intro k v hv hf
      refine x_iload D_1_grainsFor_18 rfl ?_
      refine x_aload_n D_1_grainsFor_20 rfl ?_
      refine x_getfield D_1_grainsFor_21 f_1_20 (by assumption) rfl ?_
      refine x_icmp_ge D_1_grainsFor_24 ⟨by omega, by omega⟩ ⟨by omega, by omega⟩ (fun c24 => ?_) (fun c24 => ?_)
      · refine x_iload_n D_1_grainsFor_68 rfl ?_
        refine x_ireturn D_1_grainsFor_69 rfl (by first | rfl | exact nb_bi _ | decide +kernel) rfl ?_
        exact Pu.e (by rw [hv, hf]; rfl)
      exact absurd c24 (by omega)
    | succ f ih =>
      intro k v hv hf
      have hm := melt_rng (k3 (k : Int) (by omega) (by omega)) hDs.2
      refine x_iload D_1_grainsFor_18 rfl ?_
      refine x_aload_n D_1_grainsFor_20 rfl ?_
      refine x_getfield D_1_grainsFor_21 f_1_20 (by assumption) rfl ?_
      refine x_icmp_ge D_1_grainsFor_24 ⟨by omega, by omega⟩ ⟨by omega, by omega⟩ (fun c24 => ?_) (fun c24 => ?_)
      · exact absurd c24 (by omega)
      refine x_aload_n D_1_grainsFor_27 rfl ?_
      refine x_getfield D_1_grainsFor_28 f_1_50 (by assumption) rfl ?_
      refine x_iload D_1_grainsFor_31 rfl ?_
      refine x_iaload D_1_grainsFor_33 (by assumption) (by omega) (by omega) rfl ?_
      refine x_aload_n D_1_grainsFor_34 rfl ?_
      refine x_getfield D_1_grainsFor_35 f_1_53 (by assumption) rfl ?_
      refine x_aload_n D_1_grainsFor_38 rfl ?_
      refine x_getfield D_1_grainsFor_39 f_1_56 (by assumption) rfl ?_
      refine x_iload_n D_1_grainsFor_42 rfl ?_
      refine x_iaload D_1_grainsFor_43 (by assumption) (by omega) (by omega) rfl ?_
      refine x_iaload D_1_grainsFor_44 (by assumption) (by omega) (by omega) rfl ?_
      rw [hDs.1]
      refine x_imul D_1_grainsFor_45 ?_
      refine x_aload_n D_1_grainsFor_46 rfl ?_
      refine x_getfield D_1_grainsFor_47 f_1_59 (by assumption) rfl ?_
      refine x_iload_n D_1_grainsFor_50 rfl ?_
      refine x_iaload D_1_grainsFor_51 (by assumption) (by omega) (by omega) rfl ?_
      refine x_icmp_lt D_1_grainsFor_52 ⟨by omega, by omega⟩ ⟨by omega, by omega⟩ (fun c52 => ?_) (fun c52 => ?_)
      · refine x_iinc D_1_grainsFor_62 rfl rfl rfl rfl ?_
        refine x_goto D_1_grainsFor_65 ?_
        first | exact (ih (k + 1) _ (by rw [hv, gfF, if_neg (by omega)]) (by omega)).sub rfl | exact (ih (k + 1) _ (by rw [hv, gfF, if_pos (by omega)]) (by omega)).sub rfl
      refine x_iload_n D_1_grainsFor_55 rfl ?_
      refine x_iconst D_1_grainsFor_56 ?_
      refine x_iload D_1_grainsFor_57 rfl ?_
      refine x_ishl D_1_grainsFor_59 ?_
      refine x_ior D_1_grainsFor_60 ?_
      refine x_istore_n D_1_grainsFor_61 rfl rfl rfl ?_
      refine x_iinc D_1_grainsFor_62 rfl rfl rfl rfl ?_
      refine x_goto D_1_grainsFor_65 ?_
      first | exact (ih (k + 1) _ (by rw [hv, gfF, if_neg (by omega)]) (by omega)).sub rfl | exact (ih (k + 1) _ (by rw [hv, gfF, if_pos (by omega)]) (by omega)).sub rfl
  refine x_aload_n D_1_grainsFor_0 rfl ?_
  refine x_getfield D_1_grainsFor_1 f_1_41 (by assumption) rfl ?_
  refine x_iload_n D_1_grainsFor_4 rfl ?_
  refine x_invSN (d' := d - 1) D_1_grainsFor_5 l_1_46 mi_5_isIn (c_5_isIn (by omega))  rfl (by omega) rfl (fun q => q) rfl rfl (fun r5 h5 q5 => ?_)
  obtain ⟨rfl, rfl⟩ := q5
  refine x_if_eqb D_1_grainsFor_8 (fun c8 => ?_) (fun c8 => ?_)
  · refine x_iconst D_1_grainsFor_13 ?_
    refine x_istore_n D_1_grainsFor_14 rfl rfl rfl ?_
    refine x_iconst D_1_grainsFor_15 ?_
    refine x_istore D_1_grainsFor_16 rfl rfl rfl ?_
    exact (loop c 0 0 rfl (by omega)).sub rfl
  exact absurd c8 hsd
theorem rowG {o s : Nat} (hs : s < 8) : (fun s : Nat => if s < 8 then some (o + 2 + s) else none) ((s : Int).toNat) = some (o + 2 + s) := by
  simp [hs]
theorem c_1_mostFrom {d : Nat} (hd : 1 ≤ d) {z : Nat × Nat} {h : Hp} {o t : Nat} {T : TT} {D : Int → Int} {sd gv : Int} {s k : Nat} {M1 M : Int → Int} (hO : h o = some (ob 1 [.ref (o + 1), .ref (o + 10), vi gv])) (hG : h (o + 1) = some (ra 1 8 (fun s => if s < 8 then some (o + 2 + s) else none))) (hR : h (o + 2 + (s + 1)) = some (ia 0 256 M1)) (hT : TabAt h t T) (hk : TabOk T) (hs : s < nSa T) (hkk : k < 2 ^ nGr T) (hM : ∀ q : Nat, q < 2 ^ nGr T → M1 (q : Int) = M (q : Int)) (hMr : ∀ q, 0 ≤ M q ∧ M q ≤ 693) :
    Ct d m_1_mostFrom [.ref o, .ref t, vi (gf T D sd s), vi s, vi k] z z h (Pu (mfold T D sd s M k (nGr T)) h) := by
  refine Ct.of (by decide) ⟨Nat.le_refl _, Nat.le_refl _⟩ (Nat.le_of_ble_eq_true rfl) ?_
  obtain ⟨a0, a1, a2, a3, a4, a5, a6, a7, a8⟩ := hT
  have k2 := hk.2.1
  have k4 := hk.2.2.1
  have hs4 : (s : Int) < T 4 0 := by unfold nSa at hs; omega
  have k5 := (hk.2.2.2.2.2.2.2.1 (s : Int) (by omega) hs4).2.2.1
  obtain ⟨c, hc⟩ : ∃ c : Nat, T 2 0 = (c : Int) := ⟨_, (Int.toNat_of_nonneg k2.1).symm⟩
  have hc2 : nGr T = c := by unfold nGr; omega
  have hp : 2 ^ nGr T ≤ 256 := pow_le (m := 8) (by omega)
  rw [hc2] at hkk hM hp
  have loop : ∀ (f g : Nat) (v : Int), v = mfold T D sd s M k g → c = g + f → WW d m_1_mostFrom z (Pu (mfold T D sd s M k (nGr T)) h) z h 16 [(0, .ref o), (1, .ref t), (2, vi (gf T D sd s)), (3, vi s), (4, vi k), (5, vi v), (6, vi g)] [] := by
    intro f
    induction f with
    | zero =>
      intro g v hv hf
      refine x_iload D_1_mostFrom_16 rfl ?_
      refine x_aload_n D_1_mostFrom_18 rfl ?_
      refine x_getfield D_1_mostFrom_19 f_1_20 (by assumption) rfl ?_
      refine x_icmp_ge D_1_mostFrom_22 ⟨by omega, by omega⟩ ⟨by omega, by omega⟩ (fun c22 => ?_) (fun c22 => ?_)
      · refine x_iload D_1_mostFrom_75 rfl ?_
        refine x_ireturn D_1_mostFrom_77 rfl (by first | rfl | exact nb_bi _ | decide +kernel) rfl ?_
        exact Pu.e (by rw [hv, hc2, hf]; rfl)
      exact absurd c22 (by omega)
    | succ f ih =>
      intro g v hv hf
      have hmg := may_gf hk (D := D) (sd := sd) (s := (s : Int)) (set := (k : Int)) (g := g) (by omega)
      obtain ⟨m, hm1, hm2⟩ := iAnd_le (k := k) (by omega) (iXor (iShl 1 (g : Int)) (-1))
      have hMm := hMr (m : Int)
      have hvr := mfold_rng (D := D) (sd := sd) (set := (k : Int)) k5 hMr g
      rw [← hv] at hvr
      refine x_iload D_1_mostFrom_16 rfl ?_
      refine x_aload_n D_1_mostFrom_18 rfl ?_
      refine x_getfield D_1_mostFrom_19 f_1_20 (by assumption) rfl ?_
      refine x_icmp_ge D_1_mostFrom_22 ⟨by omega, by omega⟩ ⟨by omega, by omega⟩ (fun c22 => ?_) (fun c22 => ?_)
      · exact absurd c22 (by omega)
      refine x_iload D_1_mostFrom_25 rfl ?_
      refine x_iload_n D_1_mostFrom_27 rfl ?_
      refine x_iand D_1_mostFrom_28 ?_
      refine x_iload D_1_mostFrom_29 rfl ?_
      refine x_invSN (d' := d - 1) D_1_mostFrom_31 l_1_46 mi_5_isIn (c_5_isIn (by omega))  rfl (by omega) rfl (fun q => q) rfl rfl (fun r31 h31 q31 => ?_)
      obtain ⟨rfl, rfl⟩ := q31
      refine x_if_eqb D_1_mostFrom_34 (fun c34 => ?_) (fun c34 => ?_)
      · refine x_iinc D_1_mostFrom_69 rfl rfl rfl rfl ?_
        refine x_goto D_1_mostFrom_72 ?_
        first | exact (ih (g + 1) _ (by rw [hv, mfold_f (fun q => c34 (hmg.mpr q))]) (by omega)).sub rfl | exact (ih (g + 1) _ (by rw [mfold_t (hmg.mp c34), hv, clr, hm2]; rfl) (by omega)).sub rfl
      refine x_iload D_1_mostFrom_37 rfl ?_
      refine x_aload_n D_1_mostFrom_39 rfl ?_
      refine x_getfield D_1_mostFrom_40 f_1_62 (by assumption) rfl ?_
      refine x_iload_n D_1_mostFrom_43 rfl ?_
      refine x_iaload D_1_mostFrom_44 (by assumption) (by omega) (by omega) rfl ?_
      refine x_aload_n D_1_mostFrom_45 rfl ?_
      refine x_getfield D_1_mostFrom_46 f_1_11 (by assumption) rfl ?_
      refine x_iload_n D_1_mostFrom_49 rfl ?_
      refine x_iconst D_1_mostFrom_50 ?_
      refine x_iadd D_1_mostFrom_51 ?_
      refine x_aaload1 D_1_mostFrom_52 hG (by omega) (by omega) rfl (q0 := o + 2 + (s + 1)) (rowG (s := s + 1) (by omega)) ?_
      refine x_iload D_1_mostFrom_53 rfl ?_
      refine x_iconst D_1_mostFrom_55 ?_
      refine x_iload D_1_mostFrom_56 rfl ?_
      refine x_ishl D_1_mostFrom_58 ?_
      refine x_iconst D_1_mostFrom_59 ?_
      refine x_ixor D_1_mostFrom_60 ?_
      refine x_iand D_1_mostFrom_61 ?_
      rw [hm2]
      refine x_iaload D_1_mostFrom_62 (by assumption) (by omega) (by omega) rfl ?_
      rw [hM m (by omega)]
      refine x_iadd D_1_mostFrom_63 ?_
      refine x_max D_1_mostFrom_64 l_1_65 ⟨by omega, by omega⟩ ⟨by omega, by omega⟩ (by omega) rfl ?_
      refine x_istore D_1_mostFrom_67 rfl rfl rfl ?_
      refine x_iinc D_1_mostFrom_69 rfl rfl rfl rfl ?_
      refine x_goto D_1_mostFrom_72 ?_
      first | exact (ih (g + 1) _ (by rw [hv, mfold_f (fun q => c34 (hmg.mpr q))]) (by omega)).sub rfl | exact (ih (g + 1) _ (by rw [mfold_t (hmg.mp c34), hv, clr, hm2]; rfl) (by omega)).sub rfl
  refine x_aload_n D_1_mostFrom_0 rfl ?_
  refine x_getfield D_1_mostFrom_1 f_1_11 (by assumption) rfl ?_
  refine x_iload_n D_1_mostFrom_4 rfl ?_
  refine x_iconst D_1_mostFrom_5 ?_
  refine x_iadd D_1_mostFrom_6 ?_
  refine x_aaload1 D_1_mostFrom_7 hG (by omega) (by omega) rfl (q0 := o + 2 + (s + 1)) (rowG (s := s + 1) (by omega)) ?_
  refine x_iload D_1_mostFrom_8 rfl ?_
  refine x_iaload D_1_mostFrom_10 (by assumption) (by omega) (by omega) rfl ?_
  rw [hM k (by omega)]
  refine x_istore D_1_mostFrom_11 rfl rfl rfl ?_
  refine x_iconst D_1_mostFrom_13 ?_
  refine x_istore D_1_mostFrom_14 rfl rfl rfl ?_
  exact (loop c 0 _ rfl (by omega)).sub rfl
theorem c_1_firstGrain {d : Nat} (hd : 1 ≤ d) {z : Nat × Nat} {h : Hp} {o t : Nat} {T : TT} {D : Int → Int} {sd gv : Int} {s k : Nat} {M0 M1 M : Int → Int} {B : Int} (hO : h o = some (ob 1 [.ref (o + 1), .ref (o + 10), vi gv])) (hG : h (o + 1) = some (ra 1 8 (fun s => if s < 8 then some (o + 2 + s) else none))) (hR : h (o + 2 + (s + 1)) = some (ia 0 256 M1)) (hR0 : h (o + 2 + s) = some (ia 0 256 M0)) (hT : TabAt h t T) (hk : TabOk T) (hs : s < nSa T) (hkk : k < 2 ^ nGr T) (hM : ∀ q : Nat, q < 2 ^ nGr T → M1 (q : Int) = M (q : Int)) (hMr : ∀ q, 0 ≤ M q ∧ M q ≤ 693) (hB : M0 (k : Int) = B) (hBr : 0 ≤ B ∧ B ≤ 693) :
    Ct d m_1_firstGrain [.ref o, .ref t, vi (iAnd k (gf T D sd s)), vi s, vi k] z z h (Pu (ffd T D sd s M B k (nGr T)) h) := by
  refine Ct.of (by decide) ⟨Nat.le_refl _, Nat.le_refl _⟩ (Nat.le_of_ble_eq_true rfl) ?_
  obtain ⟨a0, a1, a2, a3, a4, a5, a6, a7, a8⟩ := hT
  have k2 := hk.2.1
  have k4 := hk.2.2.1
  have hs4 : (s : Int) < T 4 0 := by unfold nSa at hs; omega
  have k5 := (hk.2.2.2.2.2.2.2.1 (s : Int) (by omega) hs4).2.2.1
  obtain ⟨c, hc⟩ : ∃ c : Nat, T 2 0 = (c : Int) := ⟨_, (Int.toNat_of_nonneg k2.1).symm⟩
  have hc2 : nGr T = c := by unfold nGr; omega
  have hp : 2 ^ nGr T ≤ 256 := pow_le (m := 8) (by omega)
  rw [hc2] at hkk hM hp
  have loop : ∀ (f g : Nat), ffd T D sd s M B k (nGr T) = ffd T D sd s M B k f → c = g + f → WW d m_1_firstGrain z (Pu (ffd T D sd s M B k (nGr T)) h) z h 3 [(0, .ref o), (1, .ref t), (2, vi (iAnd k (gf T D sd s))), (3, vi s), (4, vi k), (5, vi g)] [] := by
    intro f
    induction f with
    | zero =>
      intro g hv hf
      refine x_iload D_1_firstGrain_3 rfl ?_
      refine x_aload_n D_1_firstGrain_5 rfl ?_
      refine x_getfield D_1_firstGrain_6 f_1_20 (by assumption) rfl ?_
      refine x_icmp_ge D_1_firstGrain_9 ⟨by omega, by omega⟩ ⟨by omega, by omega⟩ (fun c9 => ?_) (fun c9 => ?_)
      · refine x_bipush D_1_firstGrain_67 (by decide +kernel) ?_
        refine x_ireturn D_1_firstGrain_69 rfl (by first | rfl | exact nb_bi _ | decide +kernel) rfl ?_
        exact Pu.e (by rw [hv]; rfl)
      exact absurd c9 (by omega)
    | succ f ih =>
      intro g hv hf
      have hmg := may_gf hk (D := D) (sd := sd) (s := (s : Int)) (set := (k : Int)) (g := g) (by omega)
      obtain ⟨m, hm1, hm2⟩ := iAnd_le (k := k) (by omega) (iXor (iShl 1 (g : Int)) (-1))
      have hMm := hMr (m : Int)
      have hcl : clr (k : Int) (g : Int) = (m : Int) := hm2
      refine x_iload D_1_firstGrain_3 rfl ?_
      refine x_aload_n D_1_firstGrain_5 rfl ?_
      refine x_getfield D_1_firstGrain_6 f_1_20 (by assumption) rfl ?_
      refine x_icmp_ge D_1_firstGrain_9 ⟨by omega, by omega⟩ ⟨by omega, by omega⟩ (fun c9 => ?_) (fun c9 => ?_)
      · exact absurd c9 (by omega)
      refine x_iload_n D_1_firstGrain_12 rfl ?_
      refine x_iload D_1_firstGrain_13 rfl ?_
      refine x_invSN (d' := d - 1) D_1_firstGrain_15 l_1_46 mi_5_isIn (c_5_isIn (by omega))  rfl (by omega) rfl (fun q => q) rfl rfl (fun r15 h15 q15 => ?_)
      obtain ⟨rfl, rfl⟩ := q15
      refine x_if_eqb D_1_firstGrain_18 (fun c18 => ?_) (fun c18 => ?_)
      · refine x_iinc D_1_firstGrain_61 rfl rfl rfl rfl ?_
        refine x_goto D_1_firstGrain_64 ?_
        first | exact (ih (g + 1) (by rw [hv, ffd_f (g := g) (by omega) (fun q => c18 (hmg.mpr q.1))]) (by omega)).sub rfl | exact (ih (g + 1) (by rw [hv, ffd_f (g := g) (by omega) (fun q => c55 (by rw [← hcl]; exact q.2))]) (by omega)).sub rfl
      refine x_aload_n D_1_firstGrain_21 rfl ?_
      refine x_getfield D_1_firstGrain_22 f_1_62 (by assumption) rfl ?_
      refine x_iload_n D_1_firstGrain_25 rfl ?_
      refine x_iaload D_1_firstGrain_26 (by assumption) (by omega) (by omega) rfl ?_
      refine x_aload_n D_1_firstGrain_27 rfl ?_
      refine x_getfield D_1_firstGrain_28 f_1_11 (by assumption) rfl ?_
      refine x_iload_n D_1_firstGrain_31 rfl ?_
      refine x_iconst D_1_firstGrain_32 ?_
      refine x_iadd D_1_firstGrain_33 ?_
      refine x_aaload1 D_1_firstGrain_34 hG (by omega) (by omega) rfl (q0 := o + 2 + (s + 1)) (rowG (s := s + 1) (by omega)) ?_
      refine x_iload D_1_firstGrain_35 rfl ?_
      refine x_iconst D_1_firstGrain_37 ?_
      refine x_iload D_1_firstGrain_38 rfl ?_
      refine x_ishl D_1_firstGrain_40 ?_
      refine x_iconst D_1_firstGrain_41 ?_
      refine x_ixor D_1_firstGrain_42 ?_
      refine x_iand D_1_firstGrain_43 ?_
      rw [hm2]
      refine x_iaload D_1_firstGrain_44 (by assumption) (by omega) (by omega) rfl ?_
      rw [hM m (by omega)]
      refine x_iadd D_1_firstGrain_45 ?_
      refine x_aload_n D_1_firstGrain_46 rfl ?_
      refine x_getfield D_1_firstGrain_47 f_1_11 (by assumption) rfl ?_
      refine x_iload_n D_1_firstGrain_50 rfl ?_
      refine x_aaload1 D_1_firstGrain_51 hG (by omega) (by omega) rfl (q0 := o + 2 + s) (rowG (s := s) (by omega)) ?_
      refine x_iload D_1_firstGrain_52 rfl ?_
      refine x_iaload D_1_firstGrain_54 (by assumption) (by omega) (by omega) rfl ?_
      rw [hB]
      refine x_icmp_ne D_1_firstGrain_55 ⟨by omega, by omega⟩ ⟨by omega, by omega⟩ (fun c55 => ?_) (fun c55 => ?_)
      · refine x_iinc D_1_firstGrain_61 rfl rfl rfl rfl ?_
        refine x_goto D_1_firstGrain_64 ?_
        first | exact (ih (g + 1) (by rw [hv, ffd_f (g := g) (by omega) (fun q => c18 (hmg.mpr q.1))]) (by omega)).sub rfl | exact (ih (g + 1) (by rw [hv, ffd_f (g := g) (by omega) (fun q => c55 (by rw [← hcl]; exact q.2))]) (by omega)).sub rfl
      refine x_iload D_1_firstGrain_58 rfl ?_
      refine x_ireturn D_1_firstGrain_60 rfl (by first | rfl | exact nb_bi _ | decide +kernel) rfl ?_
      exact Pu.e (by rw [hv, ffd_t (by omega) ⟨hmg.mp c18, by rw [hcl]; exact c55⟩])
  refine x_iconst D_1_firstGrain_0 ?_
  refine x_istore D_1_firstGrain_1 rfl rfl rfl ?_
  exact (loop c 0 (by rw [hc2]) (by omega)).sub rfl
end
section
theorem c_1_giveFirst {d : Nat} (hd : 2 ≤ d) {z : Nat × Nat} {h : Hp} {o t e k0 : Nat} {T E : TT} {D : Int → Int} {gv0 : Int} {Go0 : Int → Int} (hO : h o = some (ob 1 [.ref (o + 1), .ref (o + 10), vi gv0])) (hG : h (o + 1) = some (ra 1 8 (fun s => if s < 8 then some (o + 2 + s) else none))) (hGo : h (o + 10) = some (ia 0 7 Go0)) (hRow : ∀ s : Nat, s ≤ nSa T → ∃ M : Int → Int, h (o + 2 + s) = some (ia 0 256 M) ∧ ∀ q : Nat, q < 2 ^ nGr T → M (q : Int) = ms T D (E 2 0) s q) (hT : TabAt h t T) (hE : EvAt h e E) (hk : TabOk T) (hD : DrOk T E D) (hsh : E 1 0 = (k0 : Int)) (hk0 : k0 < 2 ^ nGr T) (ht : t + 8 < o ∨ o + 10 < t) (he : e + 4 < o ∨ o + 10 < e) :
    Ct d m_1_giveFirst [.ref o, .ref t, .ref e] z z h (fun r h' => r = none ∧ h' o = some (ob 1 [.ref (o + 1), .ref (o + 10), vi (gvn T D (E 2 0) (E 1 0) (nSa T))]) ∧ (∃ Go : Int → Int, h' (o + 10) = some (ia 0 7 Go) ∧ ∀ s : Nat, s < nSa T → Go (s : Int) = gOf T D (E 2 0) (E 1 0) s) ∧ ∀ q : Nat, (q ≠ o ∧ q ≠ o + 10) → h' q = h q) := by
  refine Ct.of (by decide) ⟨Nat.le_refl _, Nat.le_refl _⟩ (Nat.le_of_ble_eq_true rfl) ?_
  have k2 := hk.2.1
  have k4 := hk.2.2.1
  obtain ⟨c, hc⟩ : ∃ c : Nat, T 4 0 = (c : Int) := ⟨_, (Int.toNat_of_nonneg k4.1).symm⟩
  have hc2 : nSa T = c := by unfold nSa; omega
  have hn8 : nGr T ≤ 8 := by unfold nGr; omega
  have hp : 2 ^ nGr T ≤ 256 := pow_le (m := 8) hn8
  rw [hc2] at hRow ⊢
  have loop : ∀ (f s : Nat) (hh : Hp) (lf gv : Int) (Go : Int → Int), lf = lft T D (E 2 0) (E 1 0) s → gv = gvn T D (E 2 0) (E 1 0) s → (∀ q : Nat, q < s → Go (q : Int) = gOf T D (E 2 0) (E 1 0) q) → c = s + f → hh o = some (ob 1 [.ref (o + 1), .ref (o + 10), vi gv]) → hh (o + 10) = some (ia 0 7 Go) → (∀ q : Nat, (q ≠ o ∧ q ≠ o + 10) → hh q = h q) →
      WW d m_1_giveFirst z (fun r h' => r = none ∧ h' o = some (ob 1 [.ref (o + 1), .ref (o + 10), vi (gvn T D (E 2 0) (E 1 0) c)]) ∧ (∃ Go : Int → Int, h' (o + 10) = some (ia 0 7 Go) ∧ ∀ s : Nat, s < c → Go (s : Int) = gOf T D (E 2 0) (E 1 0) s) ∧ ∀ q : Nat, (q ≠ o ∧ q ≠ o + 10) → h' q = h q) z hh 13 [(0, .ref o), (1, .ref t), (2, .ref e), (3, vi lf), (4, vi s)] [] := by
    intro f
    induction f with
    | zero =>
      intro s hh lf gv Go hlf hgv hGs hf hO hGo hfr
      have hT1 : TabAt hh t T := hT.kept (fun q q1 q2 => hfr q (by omega))
      obtain ⟨b0, -⟩ := hT1
      refine x_iload D_1_giveFirst_13 rfl ?_
      refine x_aload_n D_1_giveFirst_15 rfl ?_
      refine x_getfield D_1_giveFirst_16 f_1_26 (by assumption) rfl ?_
      refine x_icmp_ge D_1_giveFirst_19 ⟨by omega, by omega⟩ ⟨by omega, by omega⟩ (fun c19 => ?_) (fun c19 => ?_)
      · refine x_return D_1_giveFirst_85 rfl rfl ?_
        refine ⟨rfl, ?_, ⟨Go, hGo, fun q hq => hGs q (by omega)⟩, hfr⟩
        rw [hO, hgv, hf]
        rfl
      exact absurd c19 (by omega)
    | succ f ih =>
      intro s hh lf gv Go hlf hgv hGs hf hO hGo hfr
      have hT1 : TabAt hh t T := hT.kept (fun q q1 q2 => hfr q (by omega))
      have hE1 : EvAt hh e E := hE.kept (fun q q1 q2 => hfr q (by omega))
      obtain ⟨b0, -⟩ := id hT1
      have hG1 := (hfr (o + 1) (by omega)).trans hG
      obtain ⟨M0, r0, r1⟩ := hRow s (by omega)
      obtain ⟨M1, r2, r3⟩ := hRow (s + 1) (by omega)
      have r0 := (hfr (o + 2 + s) (by omega)).trans r0
      have r2 := (hfr (o + 2 + (s + 1)) (by omega)).trans r2
      obtain ⟨k, hk1, hk2⟩ := lft_nat hk (D := D) (sd := E 2 0) hk0 s
      rw [← hsh] at hk2
      have hlk : lf = (k : Int) := hlf.trans hk2
      subst hlk
      have hgo : ffd T D (E 2 0) (s : Int) (ms T D (E 2 0) (s + 1)) (ms T D (E 2 0) s k) k (nGr T) = gOf T D (E 2 0) (E 1 0) s := by
        show _ = gAt T D (E 2 0) s (lft T D (E 2 0) (E 1 0) s)
        rw [hk2]
        rfl
      have hgr := gAt_rng T D (E 2 0) s (lft T D (E 2 0) (E 1 0) s)
      have hgr2 : -4 ≤ gOf T D (E 2 0) (E 1 0) s ∧ gOf T D (E 2 0) (E 1 0) s ≤ 8 := by
        rcases hgr with w | ⟨g, w1, w2, -⟩
        · show -4 ≤ gAt _ _ _ _ _ ∧ gAt _ _ _ _ _ ≤ 8
          omega
        · show -4 ≤ gAt _ _ _ _ _ ∧ gAt _ _ _ _ _ ≤ 8
          omega
      have hGs' : ∀ q : Nat, q < s + 1 → ups Go (s : Int) (gOf T D (E 2 0) (E 1 0) s) (q : Int) = gOf T D (E 2 0) (E 1 0) q := by
        intro q hq
        by_cases e1 : q = s
        · subst e1; simp [ups]
        · have : (q : Int) ≠ (s : Int) := by omega
          simp only [ups, if_neg this]
          exact hGs q (by omega)
      have hl0 : gOf T D (E 2 0) (E 1 0) s = -4 → (k : Int) = lft T D (E 2 0) (E 1 0) (s + 1) := by
        intro w
        have w2 : gAt T D (E 2 0) s (lft T D (E 2 0) (E 1 0) s) = -4 := w
        simp only [lft]
        rw [if_pos w2, hk2]
      have hl1 : gOf T D (E 2 0) (E 1 0) s ≠ -4 → iAnd (k : Int) (iXor (iShl 1 (gOf T D (E 2 0) (E 1 0) s)) (-1)) = lft T D (E 2 0) (E 1 0) (s + 1) := by
        intro w
        have w2 : gAt T D (E 2 0) s (lft T D (E 2 0) (E 1 0) s) ≠ -4 := w
        simp only [lft]
        rw [if_neg w2, hk2]
        show _ = clr _ _
        unfold clr gOf
        rw [hk2]
      have hv0 : gOf T D (E 2 0) (E 1 0) s = -4 → gv = gvn T D (E 2 0) (E 1 0) (s + 1) := by
        intro w
        simp only [gvn]
        rw [if_pos w, hgv]
      have hv1 : gOf T D (E 2 0) (E 1 0) s ≠ -4 → iOr gv (iShl 1 (s : Int)) = gvn T D (E 2 0) (E 1 0) (s + 1) := by
        intro w
        simp only [gvn]
        rw [if_neg w, hgv]
      refine x_iload D_1_giveFirst_13 rfl ?_
      refine x_aload_n D_1_giveFirst_15 rfl ?_
      refine x_getfield D_1_giveFirst_16 f_1_26 (by assumption) rfl ?_
      refine x_icmp_ge D_1_giveFirst_19 ⟨by omega, by omega⟩ ⟨by omega, by omega⟩ (fun c19 => ?_) (fun c19 => ?_)
      · exact absurd c19 (by omega)
      refine x_aload_n D_1_giveFirst_22 rfl ?_
      refine x_aload_n D_1_giveFirst_23 rfl ?_
      refine x_iload_n D_1_giveFirst_24 rfl ?_
      refine x_aload_n D_1_giveFirst_25 rfl ?_
      refine x_aload_n D_1_giveFirst_26 rfl ?_
      refine x_iload D_1_giveFirst_27 rfl ?_
      refine x_invS2 (d' := d - 1) D_1_giveFirst_29 l_1_29 mi_1_grainsFor (c_1_grainsFor (by omega) hT1 hE1 hk hD ⟨by omega, by omega⟩)  rfl (by omega) rfl (fun q => q) rfl rfl (fun r29 h29 q29 => ?_)
      obtain ⟨rfl, rfl⟩ := q29
      refine x_iand D_1_giveFirst_32 ?_
      refine x_iload D_1_giveFirst_33 rfl ?_
      refine x_iload_n D_1_giveFirst_35 rfl ?_
      refine x_invV (d' := d - 1) D_1_giveFirst_36 l_1_77 mi_1_firstGrain (c_1_firstGrain (D := D) (sd := E 2 0) (M := ms T D (E 2 0) (s + 1)) (B := ms T D (E 2 0) s k) (by omega) hO hG1 r2 r0 hT1 hk (by omega) hk1 r3 (fun q => ms_rng hk D (E 2 0) (s + 1) q) (r1 k hk1) (ms_rng hk D (E 2 0) s k)) (by assumption) rfl rfl (by omega) rfl (fun q => q) rfl rfl (fun r36 h36 q36 => ?_)
      obtain ⟨rfl, rfl⟩ := q36
      rw [hgo]
      refine x_istore D_1_giveFirst_39 rfl rfl rfl ?_
      refine x_aload_n D_1_giveFirst_41 rfl ?_
      refine x_getfield D_1_giveFirst_42 f_1_16 (by assumption) rfl ?_
      refine x_iload D_1_giveFirst_45 rfl ?_
      refine x_iload D_1_giveFirst_47 rfl ?_
      refine x_iastore D_1_giveFirst_49 (by assumption) (by omega) (by omega) rfl (fun h49 e49 n49 => ?_)
      first | (replace hO := (n49 _ (by omega)).trans hO) | (replace hO := e49)
      first | (replace hGo := (n49 _ (by omega)).trans hGo) | (replace hGo := e49)
      replace hfr := fun q hq => (n49 q (by omega)).trans (hfr q hq)
      refine x_iload D_1_giveFirst_50 rfl ?_
      refine x_bipush D_1_giveFirst_52 (by decide +kernel) ?_
      refine x_icmp_eq D_1_giveFirst_54 ⟨by omega, by omega⟩ ⟨by omega, by omega⟩ (fun c54 => ?_) (fun c54 => ?_)
      · refine x_iinc D_1_giveFirst_79 rfl rfl rfl rfl ?_
        refine x_goto D_1_giveFirst_82 ?_
        first | exact (ih (s + 1) _ _ _ _ (hl0 c54) (hv0 c54) hGs' (by omega) hO hGo hfr).sub rfl | exact (ih (s + 1) _ _ _ _ (hl1 c54) (hv1 c54) hGs' (by omega) hO hGo hfr).sub rfl
      refine x_aload_n D_1_giveFirst_57 rfl ?_
      refine x_dup D_1_giveFirst_58 rfl ?_
      refine x_getfield D_1_giveFirst_59 f_1_71 (by assumption) rfl ?_
      refine x_iconst D_1_giveFirst_62 ?_
      refine x_iload D_1_giveFirst_63 rfl ?_
      refine x_ishl D_1_giveFirst_65 ?_
      refine x_ior D_1_giveFirst_66 ?_
      refine x_putI D_1_giveFirst_67 f_1_71 (by assumption) (by decide +kernel) rfl (fun h67 e67 n67 => ?_)
      simp only [List.set_cons_zero, List.set_cons_succ] at e67
      first | (replace hO := (n67 _ (by omega)).trans hO) | (replace hO := e67)
      first | (replace hGo := (n67 _ (by omega)).trans hGo) | (replace hGo := e67)
      replace hfr := fun q hq => (n67 q (by omega)).trans (hfr q hq)
      refine x_iload_n D_1_giveFirst_70 rfl ?_
      refine x_iconst D_1_giveFirst_71 ?_
      refine x_iload D_1_giveFirst_72 rfl ?_
      refine x_ishl D_1_giveFirst_74 ?_
      refine x_iconst D_1_giveFirst_75 ?_
      refine x_ixor D_1_giveFirst_76 ?_
      refine x_iand D_1_giveFirst_77 ?_
      refine x_istore_n D_1_giveFirst_78 rfl rfl rfl ?_
      refine x_iinc D_1_giveFirst_79 rfl rfl rfl rfl ?_
      refine x_goto D_1_giveFirst_82 ?_
      first | exact (ih (s + 1) _ _ _ _ (hl0 c54) (hv0 c54) hGs' (by omega) hO hGo hfr).sub rfl | exact (ih (s + 1) _ _ _ _ (hl1 c54) (hv1 c54) hGs' (by omega) hO hGo hfr).sub rfl
  have hfr : ∀ q : Nat, (q ≠ o ∧ q ≠ o + 10) → h q = h q := fun _ _ => rfl
  obtain ⟨b0, b1, b2, b3, b4⟩ := id hE
  refine x_aload_n D_1_giveFirst_0 rfl ?_
  refine x_iconst D_1_giveFirst_1 ?_
  refine x_putI D_1_giveFirst_2 f_1_71 (by assumption) (by decide +kernel) rfl (fun h2 e2 n2 => ?_)
  simp only [List.set_cons_zero, List.set_cons_succ] at e2
  first | (replace hO := (n2 _ (by omega)).trans hO) | (replace hO := e2)
  first | (replace hGo := (n2 _ (by omega)).trans hGo) | (replace hGo := e2)
  first | (replace b0 := (n2 _ (by omega)).trans b0) | (replace b0 := e2)
  replace hfr := fun q hq => (n2 q (by omega)).trans (hfr q hq)
  refine x_aload_n D_1_giveFirst_5 rfl ?_
  refine x_getfield D_1_giveFirst_6 f_1_74 (by assumption) rfl ?_
  refine x_istore_n D_1_giveFirst_9 rfl rfl rfl ?_
  refine x_iconst D_1_giveFirst_10 ?_
  refine x_istore D_1_giveFirst_11 rfl rfl rfl ?_
  exact (loop c 0 _ _ _ _ rfl rfl (fun q hq => absurd hq (by omega)) (by omega) hO hGo hfr).sub rfl
/-- what give leaves -/
abbrev GvQ (o : Nat) (h : Hp) (T : TT) (D : Int → Int) (sd sh : Int) : Option Value → Hp → Prop := fun r h' => r = none ∧ (∃ Go : Int → Int, GvAt h' o (gvn T D sd sh (nSa T)) Go ∧ ∀ s : Nat, s < nSa T → Go (s : Int) = gOf T D sd sh s) ∧ ∀ q : Nat, (q < o ∨ o + 10 < q) → h' q = h q
theorem c_1_give {d : Nat} (hd : 3 ≤ d) {z : Nat × Nat} {h : Hp} {o t e k0 : Nat} {T E : TT} {D : Int → Int} {gv0 : Int} {Go0 : Int → Int} (hV : GvAt h o gv0 Go0) (hT : TabAt h t T) (hE : EvAt h e E) (hk : TabOk T) (hD : DrOk T E D) (hsh : E 1 0 = (k0 : Int)) (hk0 : k0 < 2 ^ nGr T) (ht : t + 8 < o ∨ o + 10 < t) (he : e + 4 < o ∨ o + 10 < e) :
    Ct d m_1_give [.ref o, .ref t, .ref e] z z h (GvQ o h T D (E 2 0) (E 1 0)) := by
  refine Ct.of (by decide) ⟨Nat.le_refl _, Nat.le_refl _⟩ (Nat.le_of_ble_eq_true rfl) ?_
  have k2 := hk.2.1
  have k4 := hk.2.2.1
  obtain ⟨c, hc⟩ : ∃ c : Nat, T 4 0 = (c : Int) := ⟨_, (Int.toNat_of_nonneg k4.1).symm⟩
  have hc2 : nSa T = c := by unfold nSa; omega
  obtain ⟨n, hn⟩ : ∃ n : Nat, T 2 0 = (n : Int) := ⟨_, (Int.toNat_of_nonneg k2.1).symm⟩
  have hn2 : nGr T = n := by unfold nGr; omega
  have hn8 : nGr T ≤ 8 := by omega
  have hp : 2 ^ nGr T ≤ 256 := pow_le (m := 8) hn8
  have hsl := shl1_pow n (by omega)
  obtain ⟨hO, hG, hGo, hRw⟩ := hV
  rw [hn2] at hp
  -- the end: rows are right, giveFirst
  have fin : ∀ (hh : Hp) (x : Int), (∀ s : Nat, s ≤ c → ∃ M : Int → Int, hh (o + 2 + s) = some (ia 0 256 M) ∧ ∀ q : Nat, q < 2 ^ n → M (q : Int) = ms T D (E 2 0) s q) → (∀ s : Nat, s < 8 → ∃ M : Int → Int, hh (o + 2 + s) = some (ia 0 256 M)) → (∀ q : Nat, (q < o + 2 ∨ o + 9 < q) → hh q = h q) → x = -1 →
      WW d m_1_give z (GvQ o h T D (E 2 0) (E 1 0)) z hh 37 [(0, .ref o), (1, .ref t), (2, .ref e), (3, vi x)] [] := by
    intro hh x hR hA hfr hx
    have hT1 : TabAt hh t T := hT.kept (fun q q1 q2 => hfr q (by omega))
    have hE1 : EvAt hh e E := hE.kept (fun q q1 q2 => hfr q (by omega))
    have hO1 := (hfr o (by omega)).trans hO
    have hG1 := (hfr (o + 1) (by omega)).trans hG
    have hGo1 := (hfr (o + 10) (by omega)).trans hGo
    refine x_iload_n D_1_give_37 rfl ?_
    refine x_if_lt D_1_give_38 ⟨by omega, by omega⟩ (fun c38 => ?_) (fun c38 => ?_)
    · refine x_aload_n D_1_give_90 rfl ?_
      refine x_aload_n D_1_give_91 rfl ?_
      refine x_aload_n D_1_give_92 rfl ?_
      refine x_invV (d' := d - 1) D_1_give_93 l_1_37 mi_1_giveFirst (c_1_giveFirst (D := D) (k0 := k0) (by omega) hO1 hG1 hGo1 (by rw [hc2, hn2]; exact hR) hT1 hE1 hk hD hsh hk0 ht he) (by assumption) rfl rfl (by omega) rfl (fun q => q) rfl rfl (fun r93 h93 q93 => ?_)
      obtain ⟨rfl, g1, ⟨Go, g2, g3⟩, g4⟩ := q93
      refine x_return D_1_give_96 rfl rfl ?_
      refine ⟨rfl, ⟨Go, ⟨g1, (g4 (o + 1) (by omega)).trans hG1, g2, fun s hs => ?_⟩, g3⟩, fun q hq => (g4 q (by omega)).trans (hfr q (by omega))⟩
      obtain ⟨M, hM⟩ := hA s hs
      exact ⟨M, (g4 (o + 2 + s) (by omega)).trans hM⟩
    exact absurd c38 (by omega)
  have outer : ∀ (s1 : Nat) (hh : Hp) (x : Int), s1 ≤ c → (∀ s : Nat, s1 ≤ s → s ≤ c → ∃ M : Int → Int, hh (o + 2 + s) = some (ia 0 256 M) ∧ ∀ q : Nat, q < 2 ^ n → M (q : Int) = ms T D (E 2 0) s q) → (∀ s : Nat, s < 8 → ∃ M : Int → Int, hh (o + 2 + s) = some (ia 0 256 M)) → (∀ q : Nat, (q < o + 2 ∨ o + 9 < q) → hh q = h q) → x = (s1 : Int) - 1 →
      WW d m_1_give z (GvQ o h T D (E 2 0) (E 1 0)) z hh 37 [(0, .ref o), (1, .ref t), (2, .ref e), (3, vi x)] [] := by
    intro s1
    induction s1 with
    | zero =>
      intro hh x h1 hR hA hfr hx
      exact fin hh x (fun s hs => hR s (by omega) hs) hA hfr (by omega)
    | succ s ihs =>
      intro hh x h1 hR hA hfr hx
      obtain rfl : x = (s : Int) := by omega
      have hs8 : (s : Int) < T 4 0 := by omega
      have inner : ∀ (f k : Nat) (hh : Hp) (M : Int → Int), 2 ^ n = k + f → (∀ q : Nat, q < k → M (q : Int) = ms T D (E 2 0) s q) → hh (o + 2 + s) = some (ia 0 256 M) → (∀ s' : Nat, s + 1 ≤ s' → s' ≤ c → ∃ M : Int → Int, hh (o + 2 + s') = some (ia 0 256 M) ∧ ∀ q : Nat, q < 2 ^ n → M (q : Int) = ms T D (E 2 0) s' q) → (∀ s : Nat, s < 8 → ∃ M : Int → Int, hh (o + 2 + s) = some (ia 0 256 M)) → (∀ q : Nat, (q < o + 2 ∨ o + 9 < q) → hh q = h q) →
          WW d m_1_give z (GvQ o h T D (E 2 0) (E 1 0)) z hh 44 [(0, .ref o), (1, .ref t), (2, .ref e), (3, vi s), (4, vi k)] [] := by
        intro f
        induction f with
        | zero =>
          intro k hh M hf hM hr hR hA hfr
          have hT1 : TabAt hh t T := hT.kept (fun q q1 q2 => hfr q (by omega))
          obtain ⟨b0, -⟩ := id hT1
          refine x_iload D_1_give_44 rfl ?_
          refine x_iconst D_1_give_46 ?_
          refine x_aload_n D_1_give_47 rfl ?_
          refine x_getfield D_1_give_48 f_1_20 (by assumption) rfl ?_
          refine x_ishl D_1_give_51 ?_
          rw [hn]
          refine x_icmp_ge D_1_give_52 ⟨by omega, by omega⟩ (iShl_B3 _ _) (fun c52 => ?_) (fun c52 => ?_)
          · refine x_iinc D_1_give_84 rfl rfl rfl rfl ?_
            refine x_goto D_1_give_87 ?_
            refine (ihs hh _ (by omega) (fun s' q1 q2 => ?_) hA hfr (by omega)).sub rfl
            by_cases e1 : s' = s
            · subst e1; exact ⟨M, hr, fun q hq => hM q (by omega)⟩
            · exact hR s' (by omega) q2
          exact absurd c52 (by rw [hsl]; omega)
        | succ f ih =>
          intro k hh M hf hM hr hR hA hfr
          have hT1 : TabAt hh t T := hT.kept (fun q q1 q2 => hfr q (by omega))
          have hE1 : EvAt hh e E := hE.kept (fun q q1 q2 => hfr q (by omega))
          obtain ⟨b0, -⟩ := id hT1
          have hO1 := (hfr o (by omega)).trans hO
          have hG1 := (hfr (o + 1) (by omega)).trans hG
          obtain ⟨M1, r2, r3⟩ := hR (s + 1) (by omega) (by omega)
          have hmm : mfold T D (E 2 0) (s : Int) (ms T D (E 2 0) (s + 1)) (k : Int) (nGr T) = ms T D (E 2 0) s (k : Int) := (ms_step T D (E 2 0) (by omega) (k : Int)).symm
          have hM' : ∀ q : Nat, q < k + 1 → ups M (k : Int) (ms T D (E 2 0) s (k : Int)) (q : Int) = ms T D (E 2 0) s q := by
            intro q hq
            by_cases e1 : q = k
            · subst e1; simp [ups]
            · have : (q : Int) ≠ (k : Int) := by omega
              simp only [ups, if_neg this]
              exact hM q (by omega)
          refine x_iload D_1_give_44 rfl ?_
          refine x_iconst D_1_give_46 ?_
          refine x_aload_n D_1_give_47 rfl ?_
          refine x_getfield D_1_give_48 f_1_20 (by assumption) rfl ?_
          refine x_ishl D_1_give_51 ?_
          rw [hn]
          refine x_icmp_ge D_1_give_52 ⟨by omega, by omega⟩ (iShl_B3 _ _) (fun c52 => ?_) (fun c52 => ?_)
          · exact absurd c52 (by rw [hsl]; omega)
          refine x_aload_n D_1_give_55 rfl ?_
          refine x_getfield D_1_give_56 f_1_11 (by assumption) rfl ?_
          refine x_iload_n D_1_give_59 rfl ?_
          refine x_aaload1 D_1_give_60 hG1 (by omega) (by omega) rfl (q0 := o + 2 + s) (rowG (s := s) (by omega)) ?_
          refine x_iload D_1_give_61 rfl ?_
          refine x_aload_n D_1_give_63 rfl ?_
          refine x_aload_n D_1_give_64 rfl ?_
          refine x_aload_n D_1_give_65 rfl ?_
          refine x_aload_n D_1_give_66 rfl ?_
          refine x_iload_n D_1_give_67 rfl ?_
          refine x_invS2 (d' := d - 1) D_1_give_68 l_1_29 mi_1_grainsFor (c_1_grainsFor (by omega) hT1 hE1 hk hD ⟨by omega, hs8⟩)  rfl (by omega) rfl (fun q => q) rfl rfl (fun r68 h68 q68 => ?_)
          obtain ⟨rfl, rfl⟩ := q68
          refine x_iload_n D_1_give_71 rfl ?_
          refine x_iload D_1_give_72 rfl ?_
          refine x_invV (d' := d - 1) D_1_give_74 l_1_33 mi_1_mostFrom (c_1_mostFrom (D := D) (sd := E 2 0) (M := ms T D (E 2 0) (s + 1)) (by omega) hO1 hG1 r2 hT1 hk (by omega) (by rw [hn2]; omega) (by rw [hn2]; exact r3) (fun q => ms_rng hk D (E 2 0) (s + 1) q)) (by assumption) rfl rfl (by omega) rfl (fun q => q) rfl rfl (fun r74 h74 q74 => ?_)
          obtain ⟨rfl, rfl⟩ := q74
          rw [hmm]
          refine x_iastore D_1_give_77 (by assumption) (by omega) (by omega) rfl (fun h77 e77 n77 => ?_)
          first | (replace hr := (n77 _ (by omega)).trans hr) | (replace hr := e77)
          replace hfr := fun q hq => (n77 q (by omega)).trans (hfr q hq)
          have hR2 : ∀ s' : Nat, s + 1 ≤ s' → s' ≤ c → ∃ M : Int → Int, h77 (o + 2 + s') = some (ia 0 256 M) ∧ ∀ q : Nat, q < 2 ^ n → M (q : Int) = ms T D (E 2 0) s' q := by
            intro s' q1 q2
            obtain ⟨M', w1, w2⟩ := hR s' q1 q2
            exact ⟨M', (n77 _ (by omega)).trans w1, w2⟩
          have hA2 : ∀ s' : Nat, s' < 8 → ∃ M : Int → Int, h77 (o + 2 + s') = some (ia 0 256 M) := by
            intro s' q1
            by_cases e1 : s' = s
            · subst e1; exact ⟨_, hr⟩
            · obtain ⟨M', w1⟩ := hA s' q1
              exact ⟨M', (n77 _ (by omega)).trans w1⟩
          refine x_iinc D_1_give_78 rfl rfl rfl rfl ?_
          refine x_goto D_1_give_81 ?_
          exact (ih (k + 1) _ _ (by omega) hM' hr hR2 hA2 hfr).sub rfl
      have hT1 : TabAt hh t T := hT.kept (fun q q1 q2 => hfr q (by omega))
      obtain ⟨b0, -⟩ := id hT1
      obtain ⟨M, hM⟩ := hA s (by omega)
      refine x_iload_n D_1_give_37 rfl ?_
      refine x_if_lt D_1_give_38 ⟨by omega, by omega⟩ (fun c38 => ?_) (fun c38 => ?_)
      · exact absurd c38 (by omega)
      refine x_iconst D_1_give_41 ?_
      refine x_istore D_1_give_42 rfl rfl rfl ?_
      exact (inner (2 ^ n) 0 hh M (by omega) (fun q hq => absurd hq (by omega)) hM (fun s' q1 q2 => hR s' q1 q2) hA hfr).sub rfl
  have zero : ∀ (f k : Nat) (hh : Hp) (M : Int → Int), 2 ^ n = k + f → (∀ q : Nat, q < k → M (q : Int) = 0) → hh (o + 2 + c) = some (ia 0 256 M) → (∀ s : Nat, s < 8 → ∃ M : Int → Int, hh (o + 2 + s) = some (ia 0 256 M)) → (∀ q : Nat, (q < o + 2 ∨ o + 9 < q) → hh q = h q) →
      WW d m_1_give z (GvQ o h T D (E 2 0) (E 1 0)) z hh 2 [(0, .ref o), (1, .ref t), (2, .ref e), (3, vi k)] [] := by
    intro f
    induction f with
    | zero =>
      intro k hh M hf hM hr hA hfr
      have hT1 : TabAt hh t T := hT.kept (fun q q1 q2 => hfr q (by omega))
      obtain ⟨b0, -⟩ := id hT1
      refine x_iload_n D_1_give_2 rfl ?_
      refine x_iconst D_1_give_3 ?_
      refine x_aload_n D_1_give_4 rfl ?_
      refine x_getfield D_1_give_5 f_1_20 (by assumption) rfl ?_
      refine x_ishl D_1_give_8 ?_
      rw [hn]
      refine x_icmp_ge D_1_give_9 ⟨by omega, by omega⟩ (iShl_B3 _ _) (fun c9 => ?_) (fun c9 => ?_)
      · refine x_aload_n D_1_give_30 rfl ?_
        refine x_getfield D_1_give_31 f_1_26 (by assumption) rfl ?_
        refine x_iconst D_1_give_34 ?_
        refine x_isub D_1_give_35 ?_
        refine x_istore_n D_1_give_36 rfl rfl rfl ?_
        refine (outer c hh _ (Nat.le_refl _) (fun s q1 q2 => ?_) hA hfr (by omega)).sub rfl
        obtain rfl : s = c := by omega
        exact ⟨M, hr, fun q hq => by rw [hM q (by omega), ← hc2, ms_end]⟩
      exact absurd c9 (by rw [hsl]; omega)
    | succ f ih =>
      intro k hh M hf hM hr hA hfr
      have hT1 : TabAt hh t T := hT.kept (fun q q1 q2 => hfr q (by omega))
      obtain ⟨b0, -⟩ := id hT1
      have hO1 := (hfr o (by omega)).trans hO
      have hG1 := (hfr (o + 1) (by omega)).trans hG
      refine x_iload_n D_1_give_2 rfl ?_
      refine x_iconst D_1_give_3 ?_
      refine x_aload_n D_1_give_4 rfl ?_
      refine x_getfield D_1_give_5 f_1_20 (by assumption) rfl ?_
      refine x_ishl D_1_give_8 ?_
      rw [hn]
      refine x_icmp_ge D_1_give_9 ⟨by omega, by omega⟩ (iShl_B3 _ _) (fun c9 => ?_) (fun c9 => ?_)
      · exact absurd c9 (by rw [hsl]; omega)
      refine x_aload_n D_1_give_12 rfl ?_
      refine x_getfield D_1_give_13 f_1_11 (by assumption) rfl ?_
      refine x_aload_n D_1_give_16 rfl ?_
      refine x_getfield D_1_give_17 f_1_26 (by assumption) rfl ?_
      rw [hc]
      refine x_aaload1 D_1_give_20 hG1 (by omega) (by omega) rfl (q0 := o + 2 + c) (rowG (s := c) (by omega)) ?_
      refine x_iload_n D_1_give_21 rfl ?_
      refine x_iconst D_1_give_22 ?_
      refine x_iastore D_1_give_23 (by assumption) (by omega) (by omega) rfl (fun h23 e23 n23 => ?_)
      first | (replace hr := (n23 _ (by omega)).trans hr) | (replace hr := e23)
      replace hfr := fun q hq => (n23 q (by omega)).trans (hfr q hq)
      have hA2 : ∀ s' : Nat, s' < 8 → ∃ M : Int → Int, h23 (o + 2 + s') = some (ia 0 256 M) := by
        intro s' q1
        by_cases e1 : s' = c
        · subst e1; exact ⟨_, hr⟩
        · obtain ⟨M', w1⟩ := hA s' q1
          exact ⟨M', (n23 _ (by omega)).trans w1⟩
      refine x_iinc D_1_give_24 rfl rfl rfl rfl ?_
      refine x_goto D_1_give_27 ?_
      refine (ih (k + 1) _ _ (by omega) (fun q hq => ?_) hr hA2 hfr).sub rfl
      by_cases e1 : q = k
      · subst e1; simp [ups]
      · have : (q : Int) ≠ (k : Int) := by omega
        simp only [ups, if_neg this]
        exact hM q (by omega)
  obtain ⟨M, hM⟩ := hRw c (by omega)
  refine x_iconst D_1_give_0 ?_
  refine x_istore_n D_1_give_1 rfl rfl rfl ?_
  exact (zero (2 ^ n) 0 _ M (by omega) (fun q hq => absurd hq (by omega)) hM hRw (fun q hq => rfl)).sub rfl
end
section
theorem c_2_freeAll {d : Nat} (hd : 0 ≤ d) {z : Nat × Nat} {h : Hp} {o : Nat} {ct so gv : Int} {Fr : Int → Int} (hO : h o = some (ob 2 [vi ct, vi so, .ref (o + 1), vi gv, .ref (o + 2), .ref (o + 3), .ref (o + 4), .ref (o + 5)])) (hF : h (o + 4) = some (ia 0 5 Fr)) : Ct d m_2_freeAll [.ref o] z z h (fun r h' => r = none ∧ h' (o + 4) = some (ia 0 5 (fun _ => 0)) ∧ ∀ q : Nat, q ≠ o + 4 → h' q = h q) := by
  refine Ct.of (by decide) ⟨Nat.le_refl _, Nat.le_refl _⟩ (Nat.le_of_ble_eq_true rfl) ?_
  have loop : ∀ (f : Nat) (k : Int) (hh : Hp) (F9 : Int → Int), 0 ≤ k → k ≤ 5 → 5 - k ≤ f → (∀ j : Int, 0 ≤ j → j < k → F9 j = 0) → hh o = some (ob 2 [vi ct, vi so, .ref (o + 1), vi gv, .ref (o + 2), .ref (o + 3), .ref (o + 4), .ref (o + 5)]) → hh (o + 4) = some (ia 0 5 F9) → (∀ q : Nat, q ≠ o + 4 → hh q = h q) →
      WW d m_2_freeAll z (fun r h' => r = none ∧ h' (o + 4) = some (ia 0 5 (fun _ => 0)) ∧ ∀ q : Nat, q ≠ o + 4 → h' q = h q) z hh 2 [(0, .ref o), (1, vi k)] [] := by
    intro f
    induction f with
    | zero =>
      intro k hh F9 h0 h7 hf hF9 a0 a4 hfr
      refine x_iload_n D_2_freeAll_2 rfl ?_
      refine x_iconst D_2_freeAll_3 ?_
      refine x_icmp_ge D_2_freeAll_4 ⟨by omega, by omega⟩ ⟨by omega, by omega⟩ (fun c4 => ?_) (fun c4 => ?_)
      · refine x_return D_2_freeAll_20 rfl rfl ?_
        exact ⟨rfl, a4.trans (congrArg some (ia_ext fun j h0 h1 => hF9 j h0 (by omega))), hfr⟩
      exact absurd c4 (by omega)
    | succ f ih =>
      intro k hh F9 h0 h7 hf hF9 a0 a4 hfr
      refine x_iload_n D_2_freeAll_2 rfl ?_
      refine x_iconst D_2_freeAll_3 ?_
      refine x_icmp_ge D_2_freeAll_4 ⟨by omega, by omega⟩ ⟨by omega, by omega⟩ (fun c4 => ?_) (fun c4 => ?_)
      · refine x_return D_2_freeAll_20 rfl rfl ?_
        exact ⟨rfl, a4.trans (congrArg some (ia_ext fun j h0 h1 => hF9 j h0 (by omega))), hfr⟩
      refine x_aload_n D_2_freeAll_7 rfl ?_
      refine x_getfield D_2_freeAll_8 f_2_21 (by assumption) rfl ?_
      refine x_iload_n D_2_freeAll_11 rfl ?_
      refine x_iconst D_2_freeAll_12 ?_
      refine x_iastore D_2_freeAll_13 (by assumption) (by omega) (by omega) rfl (fun h13 e13 n13 => ?_)
      first | (replace a0 := (n13 _ (by omega)).trans a0) | (replace a0 := e13)
      first | (replace a4 := (n13 _ (by omega)).trans a4) | (replace a4 := e13)
      replace hfr := fun q hq => (n13 q (by omega)).trans (hfr q hq)
      refine x_iinc D_2_freeAll_14 rfl rfl rfl rfl ?_
      refine x_goto D_2_freeAll_17 ?_
      refine (ih (k + 1) _ _ (by omega) (by omega) (by omega) (fun j q1 q2 => ?_) a0 a4 hfr).sub rfl
      by_cases e1 : j = k
      · simp [ups, e1]
      · simp only [ups, if_neg e1]; exact hF9 j q1 (by omega)
  refine x_iconst D_2_freeAll_0 ?_
  refine x_istore_n D_2_freeAll_1 rfl rfl rfl ?_
  exact (loop 5 0 _ _ (by omega) (by omega) (by omega) (fun j q1 q2 => absurd q1 (by omega)) hO hF (fun q hq => rfl)).sub rfl
theorem c_2_keepTrial {d : Nat} (hd : 0 ≤ d) {z : Nat × Nat} {h : Hp} {o : Nat} {ct so gv en : Int} {Fi Tr : Int → Int} (hO : h o = some (ob 2 [vi ct, vi so, .ref (o + 1), vi gv, .ref (o + 2), .ref (o + 3), .ref (o + 4), .ref (o + 5)])) (hF : h (o + 1) = some (ia 0 7 Fi)) (hT : h (o + 3) = some (ia 0 7 Tr)) : Ct d m_2_keepTrial [.ref o, vi en] z z h (fun r h' => r = none ∧ h' o = some (ob 2 [vi ct, vi en, .ref (o + 1), vi gv, .ref (o + 2), .ref (o + 3), .ref (o + 4), .ref (o + 5)]) ∧ h' (o + 1) = some (ia 0 7 Tr) ∧ ∀ q : Nat, (q ≠ o ∧ q ≠ o + 1) → h' q = h q) := by
  refine Ct.of (by decide) ⟨Nat.le_refl _, Nat.le_refl _⟩ (Nat.le_of_ble_eq_true rfl) ?_
  have loop : ∀ (f : Nat) (k : Int) (hh : Hp) (F9 : Int → Int), 0 ≤ k → k ≤ 7 → 7 - k ≤ f → (∀ j : Int, 0 ≤ j → j < k → F9 j = Tr j) → hh o = some (ob 2 [vi ct, vi en, .ref (o + 1), vi gv, .ref (o + 2), .ref (o + 3), .ref (o + 4), .ref (o + 5)]) → hh (o + 1) = some (ia 0 7 F9) → hh (o + 3) = some (ia 0 7 Tr) → (∀ q : Nat, (q ≠ o ∧ q ≠ o + 1) → hh q = h q) →
      WW d m_2_keepTrial z (fun r h' => r = none ∧ h' o = some (ob 2 [vi ct, vi en, .ref (o + 1), vi gv, .ref (o + 2), .ref (o + 3), .ref (o + 4), .ref (o + 5)]) ∧ h' (o + 1) = some (ia 0 7 Tr) ∧ ∀ q : Nat, (q ≠ o ∧ q ≠ o + 1) → h' q = h q) z hh 7 [(0, .ref o), (2, vi k)] [] := by
    intro f
    induction f with
    | zero =>
      intro k hh F9 h0 h7 hf hF9 a0 a1 a3 hfr
      refine x_iload_n D_2_keepTrial_7 rfl ?_
      refine x_bipush D_2_keepTrial_8 (by decide +kernel) ?_
      refine x_icmp_ge D_2_keepTrial_10 ⟨by omega, by omega⟩ ⟨by omega, by omega⟩ (fun c10 => ?_) (fun c10 => ?_)
      · refine x_return D_2_keepTrial_31 rfl rfl ?_
        exact ⟨rfl, a0, a1.trans (congrArg some (ia_ext fun j h0 h1 => hF9 j h0 (by omega))), hfr⟩
      exact absurd c10 (by omega)
    | succ f ih =>
      intro k hh F9 h0 h7 hf hF9 a0 a1 a3 hfr
      refine x_iload_n D_2_keepTrial_7 rfl ?_
      refine x_bipush D_2_keepTrial_8 (by decide +kernel) ?_
      refine x_icmp_ge D_2_keepTrial_10 ⟨by omega, by omega⟩ ⟨by omega, by omega⟩ (fun c10 => ?_) (fun c10 => ?_)
      · refine x_return D_2_keepTrial_31 rfl rfl ?_
        exact ⟨rfl, a0, a1.trans (congrArg some (ia_ext fun j h0 h1 => hF9 j h0 (by omega))), hfr⟩
      refine x_aload_n D_2_keepTrial_13 rfl ?_
      refine x_getfield D_2_keepTrial_14 f_2_9 (by assumption) rfl ?_
      refine x_iload_n D_2_keepTrial_17 rfl ?_
      refine x_aload_n D_2_keepTrial_18 rfl ?_
      refine x_getfield D_2_keepTrial_19 f_2_18 (by assumption) rfl ?_
      refine x_iload_n D_2_keepTrial_22 rfl ?_
      refine x_iaload D_2_keepTrial_23 (by assumption) (by omega) (by omega) rfl ?_
      refine x_iastore D_2_keepTrial_24 (by assumption) (by omega) (by omega) rfl (fun h24 e24 n24 => ?_)
      first | (replace a0 := (n24 _ (by omega)).trans a0) | (replace a0 := e24)
      first | (replace a1 := (n24 _ (by omega)).trans a1) | (replace a1 := e24)
      first | (replace a3 := (n24 _ (by omega)).trans a3) | (replace a3 := e24)
      replace hfr := fun q hq => (n24 q (by omega)).trans (hfr q hq)
      refine x_iinc D_2_keepTrial_25 rfl rfl rfl rfl ?_
      refine x_goto D_2_keepTrial_28 ?_
      refine (ih (k + 1) _ _ (by omega) (by omega) (by omega) (fun j q1 q2 => ?_) a0 a1 a3 hfr).sub rfl
      by_cases e1 : j = k
      · simp [ups, e1]
      · simp only [ups, if_neg e1]; exact hF9 j q1 (by omega)
  have hfr : ∀ q : Nat, (q ≠ o ∧ q ≠ o + 1) → h q = h q := fun _ _ => rfl
  refine x_aload_n D_2_keepTrial_0 rfl ?_
  refine x_iload_n D_2_keepTrial_1 rfl ?_
  refine x_putI D_2_keepTrial_2 f_2_46 (by assumption) (by decide +kernel) rfl (fun h2 e2 n2 => ?_)
  simp only [List.set_cons_zero, List.set_cons_succ] at e2
  first | (replace hO := (n2 _ (by omega)).trans hO) | (replace hO := e2)
  first | (replace hF := (n2 _ (by omega)).trans hF) | (replace hF := e2)
  first | (replace hT := (n2 _ (by omega)).trans hT) | (replace hT := e2)
  replace hfr := fun q hq => (n2 q (by omega)).trans (hfr q hq)
  refine x_iconst D_2_keepTrial_5 ?_
  refine x_istore_n D_2_keepTrial_6 rfl rfl rfl ?_
  exact (loop 7 0 _ _ (by omega) (by omega) (by omega) (fun j q1 q2 => absurd q1 (by omega)) hO hF hT hfr).sub rfl
theorem c_2_endBehind {d : Nat} (hd : 1 ≤ d) {z : Nat × Nat} {h : Hp} {o t : Nat} {T : TT} {ct so gv s en B : Int} {Fr Me : Int → Int} (hO : h o = some (ob 2 [vi ct, vi so, .ref (o + 1), vi gv, .ref (o + 2), .ref (o + 3), .ref (o + 4), .ref (o + 5)])) (hM : h (o + 2) = some (ia 0 7 Me)) (hF : h (o + 4) = some (ia 0 5 Fr)) (hT : TabAt h t T) (hk : TabOk T) (ht : t + 8 < o ∨ o + 5 < t) (hs : 0 ≤ s ∧ s < T 4 0) (hen : 0 ≤ en ∧ en ≤ 10000) (hfr0 : 0 ≤ Fr (T 5 s) ∧ Fr (T 5 s) ≤ 10000) (hme : 0 ≤ Me s ∧ Me s ≤ 81) :
    Ct d m_2_endBehind [.ref o, .ref t, vi s, vi en] z z h (fun r h' => r = some (vi (mx en (Fr (T 5 s)) + T 6 s)) ∧ h' (o + 4) = some (ia 0 5 (ups Fr (T 5 s) (mx en (Fr (T 5 s)) + 2 * Me s))) ∧ ∀ q : Nat, q ≠ o + 4 → h' q = h q) := by
  refine Ct.of (by decide) ⟨Nat.le_refl _, Nat.le_refl _⟩ (Nat.le_of_ble_eq_true rfl) ?_
  obtain ⟨b0, b1, b2, b3, b4, b5, b6, b7, b8⟩ := hT
  have k4 := hk.2.2.1
  have k0 := hk.1
  have k5 := hk.2.2.2.2.2.2.2.1 s hs.1 hs.2
  have hfr : ∀ q : Nat, q ≠ o + 4 → h q = h q := fun _ _ => rfl
  refine x_aload_n D_2_endBehind_0 rfl ?_
  refine x_getfield D_2_endBehind_1 f_2_65 (by assumption) rfl ?_
  refine x_iload_n D_2_endBehind_4 rfl ?_
  refine x_iaload D_2_endBehind_5 (by assumption) (by omega) (by omega) rfl ?_
  refine x_istore D_2_endBehind_6 rfl rfl rfl ?_
  refine x_iload_n D_2_endBehind_8 rfl ?_
  refine x_aload_n D_2_endBehind_9 rfl ?_
  refine x_getfield D_2_endBehind_10 f_2_21 (by assumption) rfl ?_
  refine x_iload D_2_endBehind_13 rfl ?_
  refine x_iaload D_2_endBehind_15 (by assumption) (by omega) (by omega) rfl ?_
  refine x_max D_2_endBehind_16 l_2_87 ⟨by omega, by omega⟩ ⟨by omega, by omega⟩ (by omega) rfl ?_
  refine x_istore D_2_endBehind_19 rfl rfl rfl ?_
  refine x_aload_n D_2_endBehind_21 rfl ?_
  refine x_getfield D_2_endBehind_22 f_2_21 (by assumption) rfl ?_
  refine x_iload D_2_endBehind_25 rfl ?_
  refine x_iload D_2_endBehind_27 rfl ?_
  refine x_iconst D_2_endBehind_29 ?_
  refine x_aload_n D_2_endBehind_30 rfl ?_
  refine x_getfield D_2_endBehind_31 f_2_15 (by assumption) rfl ?_
  refine x_iload_n D_2_endBehind_34 rfl ?_
  refine x_iaload D_2_endBehind_35 (by assumption) (by omega) (by omega) rfl ?_
  refine x_imul D_2_endBehind_36 ?_
  refine x_iadd D_2_endBehind_37 ?_
  refine x_iastore D_2_endBehind_38 (by assumption) (by omega) (by omega) rfl (fun h38 e38 n38 => ?_)
  first | (replace hO := (n38 _ (by omega)).trans hO) | (replace hO := e38)
  first | (replace hM := (n38 _ (by omega)).trans hM) | (replace hM := e38)
  first | (replace hF := (n38 _ (by omega)).trans hF) | (replace hF := e38)
  first | (replace b0 := (n38 _ (by omega)).trans b0) | (replace b0 := e38)
  first | (replace b3 := (n38 _ (by omega)).trans b3) | (replace b3 := e38)
  first | (replace b4 := (n38 _ (by omega)).trans b4) | (replace b4 := e38)
  replace hfr := fun q hq => (n38 q (by omega)).trans (hfr q hq)
  refine x_iload D_2_endBehind_39 rfl ?_
  refine x_aload_n D_2_endBehind_41 rfl ?_
  refine x_getfield D_2_endBehind_42 f_2_93 (by assumption) rfl ?_
  refine x_iload_n D_2_endBehind_45 rfl ?_
  refine x_iaload D_2_endBehind_46 (by assumption) (by omega) (by omega) rfl ?_
  refine x_iadd D_2_endBehind_47 ?_
  refine x_ireturn D_2_endBehind_48 rfl (by first | rfl | exact nb_bi _ | decide +kernel) rfl ?_
  exact ⟨rfl, hF, hfr⟩
theorem c_2_mayBeNext {d : Nat} (hd : 1 ≤ d) {z : Nat × Nat} {h : Hp} {o t : Nat} {T : TT} {G : Int → Int} {pre : List Int} {ct so gv dn : Int} {s : Nat} (hO : h o = some (ob 2 [vi ct, vi so, .ref (o + 1), vi gv, .ref (o + 2), .ref (o + 3), .ref (o + 4), .ref (o + 5)])) (hT : TabAt h t T) (hk : TabOk T) (hs : s < nSa T) (hgv : ∀ j : Nat, j < nSa T → (tb gv j = true ↔ G (j : Int) ≠ -4)) (hdn : ∀ j : Nat, j < nSa T → (tb dn j = true ↔ (j : Int) ∈ pre)) :
    Ct d m_2_mayBeNext [.ref o, .ref t, vi dn, vi s] z z h (Pu (bi (candP G pre (s : Int) ∧ ansP T G pre (s : Int))) h) := by
  refine Ct.of (by decide) ⟨Nat.le_refl _, Nat.le_refl _⟩ (Nat.le_of_ble_eq_true rfl) ?_
  obtain ⟨b0, b1, b2, b3, b4, b5, b6, b7, b8⟩ := hT
  have k4 := hk.2.2.1
  have hs4 : (s : Int) < T 4 0 := by unfold nSa at hs; omega
  have k8 := (hk.2.2.2.2.2.2.2.1 (s : Int) (by omega) hs4).2.2.2
  have key : ∀ j : Nat, j < nSa T → (hasB (iAnd gv (iXor dn (-1))) (j : Int) ↔ candP G pre (j : Int)) := by
    intro j hj
    have hj7 : j < 7 := by unfold nSa at hj; omega
    rw [has_tb _ (by omega), tb_and, tb_not _ (by omega)]
    have h1 := hgv j hj
    have h2 := hdn j hj
    rw [Bool.and_eq_true, Bool.not_eq_true']
    constructor
    · rintro ⟨w1, w2⟩
      exact ⟨h1.mp w1, fun q => by rw [h2.mpr q] at w2; cases w2⟩
    · rintro ⟨w1, w2⟩
      refine ⟨h1.mpr w1, ?_⟩
      cases x : tb dn j with
      | false => rfl
      | true => exact absurd (h2.mp x) w2
  have keyA : T 8 (s : Int) ≠ -4 → (hasB (iAnd gv (iXor dn (-1))) (T 8 (s : Int)) ↔ ¬ ansP T G pre (s : Int)) := by
    intro hne
    obtain ⟨j, hj⟩ : ∃ j : Nat, T 8 (s : Int) = (j : Int) := ⟨(T 8 (s : Int)).toNat, by omega⟩
    unfold ansP
    rw [hj] at k8 hne ⊢
    have hj2 : j < nSa T := by
      rcases k8 with w | w
      · omega
      · unfold nSa; omega
    rw [key j hj2]
    unfold candP
    constructor
    · intro w q
      rcases q with q | q | q
      · exact hne q
      · exact w.1 q
      · exact w.2 q
    · intro w
      exact ⟨fun q => w (Or.inr (Or.inl q)), fun q => w (Or.inr (Or.inr q))⟩
  have keyS := key s hs
  refine x_aload_n D_2_mayBeNext_0 rfl ?_
  refine x_getfield D_2_mayBeNext_1 f_2_96 (by assumption) rfl ?_
  refine x_iload_n D_2_mayBeNext_4 rfl ?_
  refine x_iaload D_2_mayBeNext_5 (by assumption) (by omega) (by omega) rfl ?_
  refine x_istore D_2_mayBeNext_6 rfl rfl rfl ?_
  refine x_iload D_2_mayBeNext_8 rfl ?_
  refine x_bipush D_2_mayBeNext_10 (by decide +kernel) ?_
  refine x_icmp_eq D_2_mayBeNext_12 ⟨by omega, by omega⟩ ⟨by omega, by omega⟩ (fun c12 => ?_) (fun c12 => ?_)
  · refine x_iconst D_2_mayBeNext_35 ?_
    refine x_istore D_2_mayBeNext_36 rfl rfl rfl ?_
    refine x_aload_n D_2_mayBeNext_38 rfl ?_
    refine x_getfield D_2_mayBeNext_39 f_2_33 (by assumption) rfl ?_
    refine x_iload_n D_2_mayBeNext_42 rfl ?_
    refine x_iconst D_2_mayBeNext_43 ?_
    refine x_ixor D_2_mayBeNext_44 ?_
    refine x_iand D_2_mayBeNext_45 ?_
    refine x_iload_n D_2_mayBeNext_46 rfl ?_
    refine x_invSN (d' := d - 1) D_2_mayBeNext_47 l_2_99 mi_5_isIn (c_5_isIn (by omega))  rfl (by omega) rfl (fun q => q) rfl rfl (fun r47 h47 q47 => ?_)
    obtain ⟨rfl, rfl⟩ := q47
    refine x_if_eqb D_2_mayBeNext_50 (fun c50 => ?_) (fun c50 => ?_)
    · refine x_iconst D_2_mayBeNext_62 ?_
      refine x_ireturn D_2_mayBeNext_63 rfl (by first | rfl | exact nb_bi _ | decide +kernel) rfl ?_
      first
      | exact Pu.t ⟨keyS.mp (by assumption), Decidable.byContradiction (fun q => absurd ((keyA (by assumption)).mpr q) (by assumption))⟩
      | exact Pu.t ⟨keyS.mp (by assumption), Or.inl (by assumption)⟩
      | exact Pu.f (fun q => absurd (keyS.mpr q.1) (by assumption))
      | exact Pu.f (fun q => (keyA (by assumption)).mp (by assumption) q.2)
      | (exfalso; omega)
    refine x_iload D_2_mayBeNext_53 rfl ?_
    refine x_if_ne D_2_mayBeNext_55 ⟨by omega, by omega⟩ (fun c55 => ?_) (fun c55 => ?_)
    · refine x_iconst D_2_mayBeNext_62 ?_
      refine x_ireturn D_2_mayBeNext_63 rfl (by first | rfl | exact nb_bi _ | decide +kernel) rfl ?_
      first
      | exact Pu.t ⟨keyS.mp (by assumption), Decidable.byContradiction (fun q => absurd ((keyA (by assumption)).mpr q) (by assumption))⟩
      | exact Pu.t ⟨keyS.mp (by assumption), Or.inl (by assumption)⟩
      | exact Pu.f (fun q => absurd (keyS.mpr q.1) (by assumption))
      | exact Pu.f (fun q => (keyA (by assumption)).mp (by assumption) q.2)
      | (exfalso; omega)
    refine x_iconst D_2_mayBeNext_58 ?_
    refine x_goto D_2_mayBeNext_59 ?_
    refine x_ireturn D_2_mayBeNext_63 rfl (by first | rfl | exact nb_bi _ | decide +kernel) rfl ?_
    first
    | exact Pu.t ⟨keyS.mp (by assumption), Decidable.byContradiction (fun q => absurd ((keyA (by assumption)).mpr q) (by assumption))⟩
    | exact Pu.t ⟨keyS.mp (by assumption), Or.inl (by assumption)⟩
    | exact Pu.f (fun q => absurd (keyS.mpr q.1) (by assumption))
    | exact Pu.f (fun q => (keyA (by assumption)).mp (by assumption) q.2)
    | (exfalso; omega)
  refine x_aload_n D_2_mayBeNext_15 rfl ?_
  refine x_getfield D_2_mayBeNext_16 f_2_33 (by assumption) rfl ?_
  refine x_iload_n D_2_mayBeNext_19 rfl ?_
  refine x_iconst D_2_mayBeNext_20 ?_
  refine x_ixor D_2_mayBeNext_21 ?_
  refine x_iand D_2_mayBeNext_22 ?_
  refine x_iload D_2_mayBeNext_23 rfl ?_
  refine x_invSN (d' := d - 1) D_2_mayBeNext_25 l_2_99 mi_5_isIn (c_5_isIn (by omega))  rfl (by omega) rfl (fun q => q) rfl rfl (fun r25 h25 q25 => ?_)
  obtain ⟨rfl, rfl⟩ := q25
  refine x_if_eqb D_2_mayBeNext_28 (fun c28 => ?_) (fun c28 => ?_)
  · refine x_iconst D_2_mayBeNext_35 ?_
    refine x_istore D_2_mayBeNext_36 rfl rfl rfl ?_
    refine x_aload_n D_2_mayBeNext_38 rfl ?_
    refine x_getfield D_2_mayBeNext_39 f_2_33 (by assumption) rfl ?_
    refine x_iload_n D_2_mayBeNext_42 rfl ?_
    refine x_iconst D_2_mayBeNext_43 ?_
    refine x_ixor D_2_mayBeNext_44 ?_
    refine x_iand D_2_mayBeNext_45 ?_
    refine x_iload_n D_2_mayBeNext_46 rfl ?_
    refine x_invSN (d' := d - 1) D_2_mayBeNext_47 l_2_99 mi_5_isIn (c_5_isIn (by omega))  rfl (by omega) rfl (fun q => q) rfl rfl (fun r47 h47 q47 => ?_)
    obtain ⟨rfl, rfl⟩ := q47
    refine x_if_eqb D_2_mayBeNext_50 (fun c50 => ?_) (fun c50 => ?_)
    · refine x_iconst D_2_mayBeNext_62 ?_
      refine x_ireturn D_2_mayBeNext_63 rfl (by first | rfl | exact nb_bi _ | decide +kernel) rfl ?_
      first
      | exact Pu.t ⟨keyS.mp (by assumption), Decidable.byContradiction (fun q => absurd ((keyA (by assumption)).mpr q) (by assumption))⟩
      | exact Pu.t ⟨keyS.mp (by assumption), Or.inl (by assumption)⟩
      | exact Pu.f (fun q => absurd (keyS.mpr q.1) (by assumption))
      | exact Pu.f (fun q => (keyA (by assumption)).mp (by assumption) q.2)
      | (exfalso; omega)
    refine x_iload D_2_mayBeNext_53 rfl ?_
    refine x_if_ne D_2_mayBeNext_55 ⟨by omega, by omega⟩ (fun c55 => ?_) (fun c55 => ?_)
    · refine x_iconst D_2_mayBeNext_62 ?_
      refine x_ireturn D_2_mayBeNext_63 rfl (by first | rfl | exact nb_bi _ | decide +kernel) rfl ?_
      first
      | exact Pu.t ⟨keyS.mp (by assumption), Decidable.byContradiction (fun q => absurd ((keyA (by assumption)).mpr q) (by assumption))⟩
      | exact Pu.t ⟨keyS.mp (by assumption), Or.inl (by assumption)⟩
      | exact Pu.f (fun q => absurd (keyS.mpr q.1) (by assumption))
      | exact Pu.f (fun q => (keyA (by assumption)).mp (by assumption) q.2)
      | (exfalso; omega)
    refine x_iconst D_2_mayBeNext_58 ?_
    refine x_goto D_2_mayBeNext_59 ?_
    refine x_ireturn D_2_mayBeNext_63 rfl (by first | rfl | exact nb_bi _ | decide +kernel) rfl ?_
    first
    | exact Pu.t ⟨keyS.mp (by assumption), Decidable.byContradiction (fun q => absurd ((keyA (by assumption)).mpr q) (by assumption))⟩
    | exact Pu.t ⟨keyS.mp (by assumption), Or.inl (by assumption)⟩
    | exact Pu.f (fun q => absurd (keyS.mpr q.1) (by assumption))
    | exact Pu.f (fun q => (keyA (by assumption)).mp (by assumption) q.2)
    | (exfalso; omega)
  refine x_iconst D_2_mayBeNext_31 ?_
  refine x_goto D_2_mayBeNext_32 ?_
  refine x_istore D_2_mayBeNext_36 rfl rfl rfl ?_
  refine x_aload_n D_2_mayBeNext_38 rfl ?_
  refine x_getfield D_2_mayBeNext_39 f_2_33 (by assumption) rfl ?_
  refine x_iload_n D_2_mayBeNext_42 rfl ?_
  refine x_iconst D_2_mayBeNext_43 ?_
  refine x_ixor D_2_mayBeNext_44 ?_
  refine x_iand D_2_mayBeNext_45 ?_
  refine x_iload_n D_2_mayBeNext_46 rfl ?_
  refine x_invSN (d' := d - 1) D_2_mayBeNext_47 l_2_99 mi_5_isIn (c_5_isIn (by omega))  rfl (by omega) rfl (fun q => q) rfl rfl (fun r47 h47 q47 => ?_)
  obtain ⟨rfl, rfl⟩ := q47
  refine x_if_eqb D_2_mayBeNext_50 (fun c50 => ?_) (fun c50 => ?_)
  · refine x_iconst D_2_mayBeNext_62 ?_
    refine x_ireturn D_2_mayBeNext_63 rfl (by first | rfl | exact nb_bi _ | decide +kernel) rfl ?_
    first
    | exact Pu.t ⟨keyS.mp (by assumption), Decidable.byContradiction (fun q => absurd ((keyA (by assumption)).mpr q) (by assumption))⟩
    | exact Pu.t ⟨keyS.mp (by assumption), Or.inl (by assumption)⟩
    | exact Pu.f (fun q => absurd (keyS.mpr q.1) (by assumption))
    | exact Pu.f (fun q => (keyA (by assumption)).mp (by assumption) q.2)
    | (exfalso; omega)
  refine x_iload D_2_mayBeNext_53 rfl ?_
  refine x_if_ne D_2_mayBeNext_55 ⟨by omega, by omega⟩ (fun c55 => ?_) (fun c55 => ?_)
  · refine x_iconst D_2_mayBeNext_62 ?_
    refine x_ireturn D_2_mayBeNext_63 rfl (by first | rfl | exact nb_bi _ | decide +kernel) rfl ?_
    first
    | exact Pu.t ⟨keyS.mp (by assumption), Decidable.byContradiction (fun q => absurd ((keyA (by assumption)).mpr q) (by assumption))⟩
    | exact Pu.t ⟨keyS.mp (by assumption), Or.inl (by assumption)⟩
    | exact Pu.f (fun q => absurd (keyS.mpr q.1) (by assumption))
    | exact Pu.f (fun q => (keyA (by assumption)).mp (by assumption) q.2)
    | (exfalso; omega)
  refine x_iconst D_2_mayBeNext_58 ?_
  refine x_goto D_2_mayBeNext_59 ?_
  refine x_ireturn D_2_mayBeNext_63 rfl (by first | rfl | exact nb_bi _ | decide +kernel) rfl ?_
  first
  | exact Pu.t ⟨keyS.mp (by assumption), Decidable.byContradiction (fun q => absurd ((keyA (by assumption)).mpr q) (by assumption))⟩
  | exact Pu.t ⟨keyS.mp (by assumption), Or.inl (by assumption)⟩
  | exact Pu.f (fun q => absurd (keyS.mpr q.1) (by assumption))
  | exact Pu.f (fun q => (keyA (by assumption)).mp (by assumption) q.2)
  | (exfalso; omega)
end
