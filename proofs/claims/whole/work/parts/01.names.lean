-- ===== PART A: goes FIRST, ahead of the names: the tables' words, and 'selects' of the private methods out of them =====
/-- a private method of a class that the tables say can be made, by its rows of tables_1 -/
def lw_okq (q : MethodName × Nat) : Prop := (q.1.cls ≠ "java/lang/invoke/MethodHandle" ∧ q.1.cls ≠ "java/lang/invoke/VarHandle") ∧ Cond.instantiable q.1.cls q.2 ∈ tables_1 ∧ Cond.privateMethod q.1 ∈ tables_1 ∧ Cond.instanceMethod q.1 ∈ tables_1
theorem lw_p0 : lw_okq (⟨"SignalsSighted", "counted", "(I)I"⟩, 9) := ⟨⟨by decide +kernel, by decide +kernel⟩, List.mem_of_getElem? (i := 17) (by decide +kernel), List.mem_of_getElem? (i := 256) (by decide +kernel), List.mem_of_getElem? (i := 257) (by decide +kernel)⟩
theorem lw_p1 : lw_okq (⟨"SignalsSighted", "refused", "(I)I"⟩, 9) := ⟨⟨by decide +kernel, by decide +kernel⟩, List.mem_of_getElem? (i := 17) (by decide +kernel), List.mem_of_getElem? (i := 260) (by decide +kernel), List.mem_of_getElem? (i := 261) (by decide +kernel)⟩
theorem lw_p2 : lw_okq (⟨"SignalsSighted", "hearStatements", "()I"⟩, 9) := ⟨⟨by decide +kernel, by decide +kernel⟩, List.mem_of_getElem? (i := 17) (by decide +kernel), List.mem_of_getElem? (i := 268) (by decide +kernel), List.mem_of_getElem? (i := 269) (by decide +kernel)⟩
theorem lw_p3 : lw_okq (⟨"SignalsSighted$Letters", "readWord", "()Z"⟩, 7) := ⟨⟨by decide +kernel, by decide +kernel⟩, List.mem_of_getElem? (i := 141) (by decide +kernel), List.mem_of_getElem? (i := 284) (by decide +kernel), List.mem_of_getElem? (i := 285) (by decide +kernel)⟩
theorem lw_p4 : lw_okq (⟨"SignalsSighted$Letters", "beginsWord", "(III)Z"⟩, 7) := ⟨⟨by decide +kernel, by decide +kernel⟩, List.mem_of_getElem? (i := 141) (by decide +kernel), List.mem_of_getElem? (i := 288) (by decide +kernel), List.mem_of_getElem? (i := 289) (by decide +kernel)⟩
theorem lw_p5 : lw_okq (⟨"SignalsSighted$Letters", "readName", "()Z"⟩, 7) := ⟨⟨by decide +kernel, by decide +kernel⟩, List.mem_of_getElem? (i := 141) (by decide +kernel), List.mem_of_getElem? (i := 350) (by decide +kernel), List.mem_of_getElem? (i := 351) (by decide +kernel)⟩
theorem lw_p6 : lw_okq (⟨"SignalsSighted$Letters", "readSign", "(C)Z"⟩, 7) := ⟨⟨by decide +kernel, by decide +kernel⟩, List.mem_of_getElem? (i := 141) (by decide +kernel), List.mem_of_getElem? (i := 354) (by decide +kernel), List.mem_of_getElem? (i := 355) (by decide +kernel)⟩
theorem lw_p7 : lw_okq (⟨"SignalsSighted$Letters", "isBetween", "(CC)Z"⟩, 7) := ⟨⟨by decide +kernel, by decide +kernel⟩, List.mem_of_getElem? (i := 141) (by decide +kernel), List.mem_of_getElem? (i := 358) (by decide +kernel), List.mem_of_getElem? (i := 359) (by decide +kernel)⟩
theorem lw_p8 : lw_okq (⟨"SignalsSighted$Letters", "readNumber", "(I)Z"⟩, 7) := ⟨⟨by decide +kernel, by decide +kernel⟩, List.mem_of_getElem? (i := 141) (by decide +kernel), List.mem_of_getElem? (i := 364) (by decide +kernel), List.mem_of_getElem? (i := 365) (by decide +kernel)⟩
theorem lw_p9 : lw_okq (⟨"SignalsSighted$Line", "postAt", "(I)I"⟩, 13) := ⟨⟨by decide +kernel, by decide +kernel⟩, List.mem_of_getElem? (i := 25) (by decide +kernel), List.mem_of_getElem? (i := 410) (by decide +kernel), List.mem_of_getElem? (i := 411) (by decide +kernel)⟩
theorem lw_p10 : lw_okq (⟨"SignalsSighted$Line", "removePost", "(I)V"⟩, 13) := ⟨⟨by decide +kernel, by decide +kernel⟩, List.mem_of_getElem? (i := 25) (by decide +kernel), List.mem_of_getElem? (i := 430) (by decide +kernel), List.mem_of_getElem? (i := 431) (by decide +kernel)⟩
theorem lw_p11 : lw_okq (⟨"SignalsSighted$Letters", "sayPlace", "(LSignalsSighted$Line;)I"⟩, 7) := ⟨⟨by decide +kernel, by decide +kernel⟩, List.mem_of_getElem? (i := 141) (by decide +kernel), List.mem_of_getElem? (i := 438) (by decide +kernel), List.mem_of_getElem? (i := 439) (by decide +kernel)⟩
theorem lw_p12 : lw_okq (⟨"SignalsSighted$Places", "find", "([CII)I"⟩, 4) := ⟨⟨by decide +kernel, by decide +kernel⟩, List.mem_of_getElem? (i := 33) (by decide +kernel), List.mem_of_getElem? (i := 447) (by decide +kernel), List.mem_of_getElem? (i := 448) (by decide +kernel)⟩
theorem lw_p13 : lw_okq (⟨"SignalsSighted$Places", "isNamed", "(I[CII)Z"⟩, 4) := ⟨⟨by decide +kernel, by decide +kernel⟩, List.mem_of_getElem? (i := 33) (by decide +kernel), List.mem_of_getElem? (i := 451) (by decide +kernel), List.mem_of_getElem? (i := 452) (by decide +kernel)⟩
theorem lw_p14 : lw_okq (⟨"SignalsSighted$Line", "isBridged", "(II)Z"⟩, 13) := ⟨⟨by decide +kernel, by decide +kernel⟩, List.mem_of_getElem? (i := 25) (by decide +kernel), List.mem_of_getElem? (i := 556) (by decide +kernel), List.mem_of_getElem? (i := 557) (by decide +kernel)⟩
theorem lw_p15 : lw_okq (⟨"SignalsSighted$Line", "warningFor", "(LSignalsSighted$Train;III)I"⟩, 13) := ⟨⟨by decide +kernel, by decide +kernel⟩, List.mem_of_getElem? (i := 25) (by decide +kernel), List.mem_of_getElem? (i := 605) (by decide +kernel), List.mem_of_getElem? (i := 606) (by decide +kernel)⟩
def lw_privs_1 : List (MethodName × Nat) := [(⟨"SignalsSighted", "counted", "(I)I"⟩, 9), (⟨"SignalsSighted", "refused", "(I)I"⟩, 9), (⟨"SignalsSighted", "hearStatements", "()I"⟩, 9), (⟨"SignalsSighted$Letters", "readWord", "()Z"⟩, 7), (⟨"SignalsSighted$Letters", "beginsWord", "(III)Z"⟩, 7), (⟨"SignalsSighted$Letters", "readName", "()Z"⟩, 7), (⟨"SignalsSighted$Letters", "readSign", "(C)Z"⟩, 7), (⟨"SignalsSighted$Letters", "isBetween", "(CC)Z"⟩, 7), (⟨"SignalsSighted$Letters", "readNumber", "(I)Z"⟩, 7), (⟨"SignalsSighted$Line", "postAt", "(I)I"⟩, 13), (⟨"SignalsSighted$Line", "removePost", "(I)V"⟩, 13), (⟨"SignalsSighted$Letters", "sayPlace", "(LSignalsSighted$Line;)I"⟩, 7), (⟨"SignalsSighted$Places", "find", "([CII)I"⟩, 4), (⟨"SignalsSighted$Places", "isNamed", "(I[CII)Z"⟩, 4), (⟨"SignalsSighted$Line", "isBridged", "(II)Z"⟩, 13), (⟨"SignalsSighted$Line", "warningFor", "(LSignalsSighted$Train;III)I"⟩, 13)]
theorem lw_r1 : ∀ q ∈ lw_privs_1, lw_okq q := List.forall_mem_cons.mpr ⟨lw_p0, List.forall_mem_cons.mpr ⟨lw_p1, List.forall_mem_cons.mpr ⟨lw_p2, List.forall_mem_cons.mpr ⟨lw_p3, List.forall_mem_cons.mpr ⟨lw_p4, List.forall_mem_cons.mpr ⟨lw_p5, List.forall_mem_cons.mpr ⟨lw_p6, List.forall_mem_cons.mpr ⟨lw_p7, List.forall_mem_cons.mpr ⟨lw_p8, List.forall_mem_cons.mpr ⟨lw_p9, List.forall_mem_cons.mpr ⟨lw_p10, List.forall_mem_cons.mpr ⟨lw_p11, List.forall_mem_cons.mpr ⟨lw_p12, List.forall_mem_cons.mpr ⟨lw_p13, List.forall_mem_cons.mpr ⟨lw_p14, List.forall_mem_cons.mpr ⟨lw_p15, fun _ h => absurd h List.not_mem_nil⟩⟩⟩⟩⟩⟩⟩⟩⟩⟩⟩⟩⟩⟩⟩⟩
theorem lw_p16 : lw_okq (⟨"SignalsSighted$Moves", "prepare", "(LSignalsSighted$Line;)V"⟩, 4) := ⟨⟨by decide +kernel, by decide +kernel⟩, List.mem_of_getElem? (i := 173) (by decide +kernel), List.mem_of_getElem? (i := 627) (by decide +kernel), List.mem_of_getElem? (i := 628) (by decide +kernel)⟩
theorem lw_p17 : lw_okq (⟨"SignalsSighted$Moves", "leastSum", "(LSignalsSighted$Line;)I"⟩, 4) := ⟨⟨by decide +kernel, by decide +kernel⟩, List.mem_of_getElem? (i := 173) (by decide +kernel), List.mem_of_getElem? (i := 636) (by decide +kernel), List.mem_of_getElem? (i := 637) (by decide +kernel)⟩
theorem lw_p18 : lw_okq (⟨"SignalsSighted$Moves", "mayStand", "(II)Z"⟩, 4) := ⟨⟨by decide +kernel, by decide +kernel⟩, List.mem_of_getElem? (i := 173) (by decide +kernel), List.mem_of_getElem? (i := 641) (by decide +kernel), List.mem_of_getElem? (i := 642) (by decide +kernel)⟩
theorem lw_p19 : lw_okq (⟨"SignalsSighted$Moves", "firstCellBy", "(LSignalsSighted$Line;II)I"⟩, 4) := ⟨⟨by decide +kernel, by decide +kernel⟩, List.mem_of_getElem? (i := 173) (by decide +kernel), List.mem_of_getElem? (i := 649) (by decide +kernel), List.mem_of_getElem? (i := 650) (by decide +kernel)⟩
theorem lw_p20 : lw_okq (⟨"SignalsSighted", "refusedLong", "(I)J"⟩, 9) := ⟨⟨by decide +kernel, by decide +kernel⟩, List.mem_of_getElem? (i := 17) (by decide +kernel), List.mem_of_getElem? (i := 662) (by decide +kernel), List.mem_of_getElem? (i := 663) (by decide +kernel)⟩
theorem lw_p21 : lw_okq (⟨"SignalsSighted$Line", "isRepeated", "(IIII)Z"⟩, 13) := ⟨⟨by decide +kernel, by decide +kernel⟩, List.mem_of_getElem? (i := 25) (by decide +kernel), List.mem_of_getElem? (i := 719) (by decide +kernel), List.mem_of_getElem? (i := 720) (by decide +kernel)⟩
theorem lw_p22 : lw_okq (⟨"SignalsSighted$Line", "areAlike", "(III)Z"⟩, 13) := ⟨⟨by decide +kernel, by decide +kernel⟩, List.mem_of_getElem? (i := 25) (by decide +kernel), List.mem_of_getElem? (i := 723) (by decide +kernel), List.mem_of_getElem? (i := 724) (by decide +kernel)⟩
theorem lw_p23 : lw_okq (⟨"SignalsSighted", "safeWays", "(I)I"⟩, 9) := ⟨⟨by decide +kernel, by decide +kernel⟩, List.mem_of_getElem? (i := 17) (by decide +kernel), List.mem_of_getElem? (i := 739) (by decide +kernel), List.mem_of_getElem? (i := 740) (by decide +kernel)⟩
theorem lw_p24 : lw_okq (⟨"SignalsSighted", "kindsThatFit", "(LSignalsSighted$Shelf;)I"⟩, 9) := ⟨⟨by decide +kernel, by decide +kernel⟩, List.mem_of_getElem? (i := 17) (by decide +kernel), List.mem_of_getElem? (i := 836) (by decide +kernel), List.mem_of_getElem? (i := 837) (by decide +kernel)⟩
theorem lw_p25 : lw_okq (⟨"SignalsSighted", "timesFit", "(LSignalsSighted$Shelf;)Z"⟩, 9) := ⟨⟨by decide +kernel, by decide +kernel⟩, List.mem_of_getElem? (i := 17) (by decide +kernel), List.mem_of_getElem? (i := 840) (by decide +kernel), List.mem_of_getElem? (i := 841) (by decide +kernel)⟩
theorem lw_p26 : lw_okq (⟨"SignalsSighted", "figuresThatFit", "(LSignalsSighted$Shelf;)I"⟩, 9) := ⟨⟨by decide +kernel, by decide +kernel⟩, List.mem_of_getElem? (i := 17) (by decide +kernel), List.mem_of_getElem? (i := 844) (by decide +kernel), List.mem_of_getElem? (i := 845) (by decide +kernel)⟩
theorem lw_p27 : lw_okq (⟨"SignalsSightedModel", "no", "(I)I"⟩, 37) := ⟨⟨by decide +kernel, by decide +kernel⟩, List.mem_of_getElem? (i := 875) (by decide +kernel), List.mem_of_getElem? (i := 997) (by decide +kernel), List.mem_of_getElem? (i := 998) (by decide +kernel)⟩
theorem lw_p28 : lw_okq (⟨"SignalsSightedModel", "cuts", "()V"⟩, 37) := ⟨⟨by decide +kernel, by decide +kernel⟩, List.mem_of_getElem? (i := 875) (by decide +kernel), List.mem_of_getElem? (i := 1001) (by decide +kernel), List.mem_of_getElem? (i := 1002) (by decide +kernel)⟩
theorem lw_p29 : lw_okq (⟨"SignalsSightedModel", "isCell", "(I)Z"⟩, 37) := ⟨⟨by decide +kernel, by decide +kernel⟩, List.mem_of_getElem? (i := 875) (by decide +kernel), List.mem_of_getElem? (i := 1009) (by decide +kernel), List.mem_of_getElem? (i := 1010) (by decide +kernel)⟩
theorem lw_p30 : lw_okq (⟨"SignalsSightedModel", "isBridge", "(I)Z"⟩, 37) := ⟨⟨by decide +kernel, by decide +kernel⟩, List.mem_of_getElem? (i := 875) (by decide +kernel), List.mem_of_getElem? (i := 1024) (by decide +kernel), List.mem_of_getElem? (i := 1025) (by decide +kernel)⟩
theorem lw_p31 : lw_okq (⟨"SignalsSightedModel", "postOn", "(I)I"⟩, 37) := ⟨⟨by decide +kernel, by decide +kernel⟩, List.mem_of_getElem? (i := 875) (by decide +kernel), List.mem_of_getElem? (i := 1032) (by decide +kernel), List.mem_of_getElem? (i := 1033) (by decide +kernel)⟩
def lw_privs_2 : List (MethodName × Nat) := [(⟨"SignalsSighted$Moves", "prepare", "(LSignalsSighted$Line;)V"⟩, 4), (⟨"SignalsSighted$Moves", "leastSum", "(LSignalsSighted$Line;)I"⟩, 4), (⟨"SignalsSighted$Moves", "mayStand", "(II)Z"⟩, 4), (⟨"SignalsSighted$Moves", "firstCellBy", "(LSignalsSighted$Line;II)I"⟩, 4), (⟨"SignalsSighted", "refusedLong", "(I)J"⟩, 9), (⟨"SignalsSighted$Line", "isRepeated", "(IIII)Z"⟩, 13), (⟨"SignalsSighted$Line", "areAlike", "(III)Z"⟩, 13), (⟨"SignalsSighted", "safeWays", "(I)I"⟩, 9), (⟨"SignalsSighted", "kindsThatFit", "(LSignalsSighted$Shelf;)I"⟩, 9), (⟨"SignalsSighted", "timesFit", "(LSignalsSighted$Shelf;)Z"⟩, 9), (⟨"SignalsSighted", "figuresThatFit", "(LSignalsSighted$Shelf;)I"⟩, 9), (⟨"SignalsSightedModel", "no", "(I)I"⟩, 37), (⟨"SignalsSightedModel", "cuts", "()V"⟩, 37), (⟨"SignalsSightedModel", "isCell", "(I)Z"⟩, 37), (⟨"SignalsSightedModel", "isBridge", "(I)Z"⟩, 37), (⟨"SignalsSightedModel", "postOn", "(I)I"⟩, 37)]
theorem lw_r2 : ∀ q ∈ lw_privs_2, lw_okq q := List.forall_mem_cons.mpr ⟨lw_p16, List.forall_mem_cons.mpr ⟨lw_p17, List.forall_mem_cons.mpr ⟨lw_p18, List.forall_mem_cons.mpr ⟨lw_p19, List.forall_mem_cons.mpr ⟨lw_p20, List.forall_mem_cons.mpr ⟨lw_p21, List.forall_mem_cons.mpr ⟨lw_p22, List.forall_mem_cons.mpr ⟨lw_p23, List.forall_mem_cons.mpr ⟨lw_p24, List.forall_mem_cons.mpr ⟨lw_p25, List.forall_mem_cons.mpr ⟨lw_p26, List.forall_mem_cons.mpr ⟨lw_p27, List.forall_mem_cons.mpr ⟨lw_p28, List.forall_mem_cons.mpr ⟨lw_p29, List.forall_mem_cons.mpr ⟨lw_p30, List.forall_mem_cons.mpr ⟨lw_p31, fun _ h => absurd h List.not_mem_nil⟩⟩⟩⟩⟩⟩⟩⟩⟩⟩⟩⟩⟩⟩⟩⟩
theorem lw_p32 : lw_okq (⟨"SignalsSightedModel", "isPost", "(I)Z"⟩, 37) := ⟨⟨by decide +kernel, by decide +kernel⟩, List.mem_of_getElem? (i := 875) (by decide +kernel), List.mem_of_getElem? (i := 1040) (by decide +kernel), List.mem_of_getElem? (i := 1041) (by decide +kernel)⟩
theorem lw_p33 : lw_okq (⟨"SignalsSightedModel", "isTrain", "(I)Z"⟩, 37) := ⟨⟨by decide +kernel, by decide +kernel⟩, List.mem_of_getElem? (i := 875) (by decide +kernel), List.mem_of_getElem? (i := 1064) (by decide +kernel), List.mem_of_getElem? (i := 1065) (by decide +kernel)⟩
theorem lw_p34 : lw_okq (⟨"SignalsSightedModel", "eye", "(I)I"⟩, 37) := ⟨⟨by decide +kernel, by decide +kernel⟩, List.mem_of_getElem? (i := 875) (by decide +kernel), List.mem_of_getElem? (i := 1068) (by decide +kernel), List.mem_of_getElem? (i := 1069) (by decide +kernel)⟩
theorem lw_p35 : lw_okq (⟨"SignalsSightedModel", "timeOf", "(II)I"⟩, 37) := ⟨⟨by decide +kernel, by decide +kernel⟩, List.mem_of_getElem? (i := 875) (by decide +kernel), List.mem_of_getElem? (i := 1083) (by decide +kernel), List.mem_of_getElem? (i := 1084) (by decide +kernel)⟩
theorem lw_p36 : lw_okq (⟨"SignalsSightedModel", "timeBy", "(IIIII)I"⟩, 37) := ⟨⟨by decide +kernel, by decide +kernel⟩, List.mem_of_getElem? (i := 875) (by decide +kernel), List.mem_of_getElem? (i := 1087) (by decide +kernel), List.mem_of_getElem? (i := 1088) (by decide +kernel)⟩
theorem lw_p37 : lw_okq (⟨"SignalsSightedModel", "isBridged", "(I)Z"⟩, 37) := ⟨⟨by decide +kernel, by decide +kernel⟩, List.mem_of_getElem? (i := 875) (by decide +kernel), List.mem_of_getElem? (i := 1092) (by decide +kernel), List.mem_of_getElem? (i := 1093) (by decide +kernel)⟩
theorem lw_p38 : lw_okq (⟨"SignalsSightedModel", "isClear", "(IIII)Z"⟩, 37) := ⟨⟨by decide +kernel, by decide +kernel⟩, List.mem_of_getElem? (i := 875) (by decide +kernel), List.mem_of_getElem? (i := 1100) (by decide +kernel), List.mem_of_getElem? (i := 1101) (by decide +kernel)⟩
theorem lw_p39 : lw_okq (⟨"SignalsSightedModel", "isBarred", "(III)Z"⟩, 37) := ⟨⟨by decide +kernel, by decide +kernel⟩, List.mem_of_getElem? (i := 875) (by decide +kernel), List.mem_of_getElem? (i := 1105) (by decide +kernel), List.mem_of_getElem? (i := 1106) (by decide +kernel)⟩
theorem lw_p40 : lw_okq (⟨"SignalsSightedModel", "isSeen", "(III)Z"⟩, 37) := ⟨⟨by decide +kernel, by decide +kernel⟩, List.mem_of_getElem? (i := 875) (by decide +kernel), List.mem_of_getElem? (i := 1116) (by decide +kernel), List.mem_of_getElem? (i := 1117) (by decide +kernel)⟩
theorem lw_p41 : lw_okq (⟨"SignalsSightedModel", "firstOf", "(II)I"⟩, 37) := ⟨⟨by decide +kernel, by decide +kernel⟩, List.mem_of_getElem? (i := 875) (by decide +kernel), List.mem_of_getElem? (i := 1124) (by decide +kernel), List.mem_of_getElem? (i := 1125) (by decide +kernel)⟩
theorem lw_p42 : lw_okq (⟨"SignalsSightedModel", "warnedOf", "(II)I"⟩, 37) := ⟨⟨by decide +kernel, by decide +kernel⟩, List.mem_of_getElem? (i := 875) (by decide +kernel), List.mem_of_getElem? (i := 1132) (by decide +kernel), List.mem_of_getElem? (i := 1133) (by decide +kernel)⟩
theorem lw_p43 : lw_okq (⟨"SignalsSightedModel", "isSafe", "()Z"⟩, 37) := ⟨⟨by decide +kernel, by decide +kernel⟩, List.mem_of_getElem? (i := 875) (by decide +kernel), List.mem_of_getElem? (i := 1140) (by decide +kernel), List.mem_of_getElem? (i := 1141) (by decide +kernel)⟩
theorem lw_p44 : lw_okq (⟨"SignalsSightedModel", "isKeptByAll", "(I)Z"⟩, 37) := ⟨⟨by decide +kernel, by decide +kernel⟩, List.mem_of_getElem? (i := 875) (by decide +kernel), List.mem_of_getElem? (i := 1144) (by decide +kernel), List.mem_of_getElem? (i := 1145) (by decide +kernel)⟩
theorem lw_p45 : lw_okq (⟨"SignalsSightedModel", "isKept", "(II)Z"⟩, 37) := ⟨⟨by decide +kernel, by decide +kernel⟩, List.mem_of_getElem? (i := 875) (by decide +kernel), List.mem_of_getElem? (i := 1148) (by decide +kernel), List.mem_of_getElem? (i := 1149) (by decide +kernel)⟩
theorem lw_p46 : lw_okq (⟨"SignalsSightedModel", "moves", "()I"⟩, 37) := ⟨⟨by decide +kernel, by decide +kernel⟩, List.mem_of_getElem? (i := 875) (by decide +kernel), List.mem_of_getElem? (i := 1156) (by decide +kernel), List.mem_of_getElem? (i := 1157) (by decide +kernel)⟩
theorem lw_p47 : lw_okq (⟨"SignalsSightedModel", "looksWhere", "()V"⟩, 37) := ⟨⟨by decide +kernel, by decide +kernel⟩, List.mem_of_getElem? (i := 875) (by decide +kernel), List.mem_of_getElem? (i := 1160) (by decide +kernel), List.mem_of_getElem? (i := 1161) (by decide +kernel)⟩
def lw_privs_3 : List (MethodName × Nat) := [(⟨"SignalsSightedModel", "isPost", "(I)Z"⟩, 37), (⟨"SignalsSightedModel", "isTrain", "(I)Z"⟩, 37), (⟨"SignalsSightedModel", "eye", "(I)I"⟩, 37), (⟨"SignalsSightedModel", "timeOf", "(II)I"⟩, 37), (⟨"SignalsSightedModel", "timeBy", "(IIIII)I"⟩, 37), (⟨"SignalsSightedModel", "isBridged", "(I)Z"⟩, 37), (⟨"SignalsSightedModel", "isClear", "(IIII)Z"⟩, 37), (⟨"SignalsSightedModel", "isBarred", "(III)Z"⟩, 37), (⟨"SignalsSightedModel", "isSeen", "(III)Z"⟩, 37), (⟨"SignalsSightedModel", "firstOf", "(II)I"⟩, 37), (⟨"SignalsSightedModel", "warnedOf", "(II)I"⟩, 37), (⟨"SignalsSightedModel", "isSafe", "()Z"⟩, 37), (⟨"SignalsSightedModel", "isKeptByAll", "(I)Z"⟩, 37), (⟨"SignalsSightedModel", "isKept", "(II)Z"⟩, 37), (⟨"SignalsSightedModel", "moves", "()I"⟩, 37), (⟨"SignalsSightedModel", "looksWhere", "()V"⟩, 37)]
theorem lw_r3 : ∀ q ∈ lw_privs_3, lw_okq q := List.forall_mem_cons.mpr ⟨lw_p32, List.forall_mem_cons.mpr ⟨lw_p33, List.forall_mem_cons.mpr ⟨lw_p34, List.forall_mem_cons.mpr ⟨lw_p35, List.forall_mem_cons.mpr ⟨lw_p36, List.forall_mem_cons.mpr ⟨lw_p37, List.forall_mem_cons.mpr ⟨lw_p38, List.forall_mem_cons.mpr ⟨lw_p39, List.forall_mem_cons.mpr ⟨lw_p40, List.forall_mem_cons.mpr ⟨lw_p41, List.forall_mem_cons.mpr ⟨lw_p42, List.forall_mem_cons.mpr ⟨lw_p43, List.forall_mem_cons.mpr ⟨lw_p44, List.forall_mem_cons.mpr ⟨lw_p45, List.forall_mem_cons.mpr ⟨lw_p46, List.forall_mem_cons.mpr ⟨lw_p47, fun _ h => absurd h List.not_mem_nil⟩⟩⟩⟩⟩⟩⟩⟩⟩⟩⟩⟩⟩⟩⟩⟩
theorem lw_p48 : lw_okq (⟨"SignalsSightedModel", "lines", "()V"⟩, 37) := ⟨⟨by decide +kernel, by decide +kernel⟩, List.mem_of_getElem? (i := 875) (by decide +kernel), List.mem_of_getElem? (i := 1164) (by decide +kernel), List.mem_of_getElem? (i := 1165) (by decide +kernel)⟩
theorem lw_p49 : lw_okq (⟨"SignalsSightedModel", "nextFor", "(II)I"⟩, 37) := ⟨⟨by decide +kernel, by decide +kernel⟩, List.mem_of_getElem? (i := 875) (by decide +kernel), List.mem_of_getElem? (i := 1168) (by decide +kernel), List.mem_of_getElem? (i := 1169) (by decide +kernel)⟩
theorem lw_p50 : lw_okq (⟨"SignalsSightedModel", "movedBy", "()I"⟩, 37) := ⟨⟨by decide +kernel, by decide +kernel⟩, List.mem_of_getElem? (i := 875) (by decide +kernel), List.mem_of_getElem? (i := 1172) (by decide +kernel), List.mem_of_getElem? (i := 1173) (by decide +kernel)⟩
theorem lw_p51 : lw_okq (⟨"SignalsSightedModel", "isEarlier", "()Z"⟩, 37) := ⟨⟨by decide +kernel, by decide +kernel⟩, List.mem_of_getElem? (i := 875) (by decide +kernel), List.mem_of_getElem? (i := 1176) (by decide +kernel), List.mem_of_getElem? (i := 1177) (by decide +kernel)⟩
theorem lw_p52 : lw_okq (⟨"SignalsSightedModel", "far", "(I)J"⟩, 37) := ⟨⟨by decide +kernel, by decide +kernel⟩, List.mem_of_getElem? (i := 875) (by decide +kernel), List.mem_of_getElem? (i := 1188) (by decide +kernel), List.mem_of_getElem? (i := 1189) (by decide +kernel)⟩
theorem lw_p53 : lw_okq (⟨"SignalsSightedModel", "keptMany", "()I"⟩, 37) := ⟨⟨by decide +kernel, by decide +kernel⟩, List.mem_of_getElem? (i := 875) (by decide +kernel), List.mem_of_getElem? (i := 1193) (by decide +kernel), List.mem_of_getElem? (i := 1194) (by decide +kernel)⟩
theorem lw_p54 : lw_okq (⟨"SignalsSightedModel", "keeps", "([I)V"⟩, 37) := ⟨⟨by decide +kernel, by decide +kernel⟩, List.mem_of_getElem? (i := 875) (by decide +kernel), List.mem_of_getElem? (i := 1197) (by decide +kernel), List.mem_of_getElem? (i := 1198) (by decide +kernel)⟩
theorem lw_p55 : lw_okq (⟨"SignalsSightedModel", "again", "([I)V"⟩, 37) := ⟨⟨by decide +kernel, by decide +kernel⟩, List.mem_of_getElem? (i := 875) (by decide +kernel), List.mem_of_getElem? (i := 1202) (by decide +kernel), List.mem_of_getElem? (i := 1203) (by decide +kernel)⟩
theorem lw_p56 : lw_okq (⟨"SignalsSightedModel", "seenFrom", "(II)I"⟩, 37) := ⟨⟨by decide +kernel, by decide +kernel⟩, List.mem_of_getElem? (i := 875) (by decide +kernel), List.mem_of_getElem? (i := 1218) (by decide +kernel), List.mem_of_getElem? (i := 1219) (by decide +kernel)⟩
theorem lw_p57 : lw_okq (⟨"SignalsSightedModel", "areAlike", "(III)Z"⟩, 37) := ⟨⟨by decide +kernel, by decide +kernel⟩, List.mem_of_getElem? (i := 875) (by decide +kernel), List.mem_of_getElem? (i := 1238) (by decide +kernel), List.mem_of_getElem? (i := 1239) (by decide +kernel)⟩
theorem lw_p58 : lw_okq (⟨"SignalsSightedModel", "warnedAll", "()I"⟩, 37) := ⟨⟨by decide +kernel, by decide +kernel⟩, List.mem_of_getElem? (i := 875) (by decide +kernel), List.mem_of_getElem? (i := 1260) (by decide +kernel), List.mem_of_getElem? (i := 1261) (by decide +kernel)⟩
theorem lw_p59 : lw_okq (⟨"SignalsSightedModel", "empties", "(III)V"⟩, 37) := ⟨⟨by decide +kernel, by decide +kernel⟩, List.mem_of_getElem? (i := 875) (by decide +kernel), List.mem_of_getElem? (i := 1286) (by decide +kernel), List.mem_of_getElem? (i := 1287) (by decide +kernel)⟩
theorem lw_p60 : lw_okq (⟨"SignalsSightedModel", "barred", "(II)I"⟩, 37) := ⟨⟨by decide +kernel, by decide +kernel⟩, List.mem_of_getElem? (i := 875) (by decide +kernel), List.mem_of_getElem? (i := 1298) (by decide +kernel), List.mem_of_getElem? (i := 1299) (by decide +kernel)⟩
theorem lw_p61 : lw_okq (⟨"SignalsSightedModel", "areTimes", "(IIII)Z"⟩, 37) := ⟨⟨by decide +kernel, by decide +kernel⟩, List.mem_of_getElem? (i := 875) (by decide +kernel), List.mem_of_getElem? (i := 1317) (by decide +kernel), List.mem_of_getElem? (i := 1318) (by decide +kernel)⟩
theorem lw_p62 : lw_okq (⟨"SignalsSightedModel", "tellsAll", "()I"⟩, 37) := ⟨⟨by decide +kernel, by decide +kernel⟩, List.mem_of_getElem? (i := 875) (by decide +kernel), List.mem_of_getElem? (i := 1333) (by decide +kernel), List.mem_of_getElem? (i := 1334) (by decide +kernel)⟩
theorem lw_p63 : lw_okq (⟨"SignalsSightedModel", "statement", "()I"⟩, 37) := ⟨⟨by decide +kernel, by decide +kernel⟩, List.mem_of_getElem? (i := 875) (by decide +kernel), List.mem_of_getElem? (i := 1337) (by decide +kernel), List.mem_of_getElem? (i := 1338) (by decide +kernel)⟩
def lw_privs_4 : List (MethodName × Nat) := [(⟨"SignalsSightedModel", "lines", "()V"⟩, 37), (⟨"SignalsSightedModel", "nextFor", "(II)I"⟩, 37), (⟨"SignalsSightedModel", "movedBy", "()I"⟩, 37), (⟨"SignalsSightedModel", "isEarlier", "()Z"⟩, 37), (⟨"SignalsSightedModel", "far", "(I)J"⟩, 37), (⟨"SignalsSightedModel", "keptMany", "()I"⟩, 37), (⟨"SignalsSightedModel", "keeps", "([I)V"⟩, 37), (⟨"SignalsSightedModel", "again", "([I)V"⟩, 37), (⟨"SignalsSightedModel", "seenFrom", "(II)I"⟩, 37), (⟨"SignalsSightedModel", "areAlike", "(III)Z"⟩, 37), (⟨"SignalsSightedModel", "warnedAll", "()I"⟩, 37), (⟨"SignalsSightedModel", "empties", "(III)V"⟩, 37), (⟨"SignalsSightedModel", "barred", "(II)I"⟩, 37), (⟨"SignalsSightedModel", "areTimes", "(IIII)Z"⟩, 37), (⟨"SignalsSightedModel", "tellsAll", "()I"⟩, 37), (⟨"SignalsSightedModel", "statement", "()I"⟩, 37)]
theorem lw_r4 : ∀ q ∈ lw_privs_4, lw_okq q := List.forall_mem_cons.mpr ⟨lw_p48, List.forall_mem_cons.mpr ⟨lw_p49, List.forall_mem_cons.mpr ⟨lw_p50, List.forall_mem_cons.mpr ⟨lw_p51, List.forall_mem_cons.mpr ⟨lw_p52, List.forall_mem_cons.mpr ⟨lw_p53, List.forall_mem_cons.mpr ⟨lw_p54, List.forall_mem_cons.mpr ⟨lw_p55, List.forall_mem_cons.mpr ⟨lw_p56, List.forall_mem_cons.mpr ⟨lw_p57, List.forall_mem_cons.mpr ⟨lw_p58, List.forall_mem_cons.mpr ⟨lw_p59, List.forall_mem_cons.mpr ⟨lw_p60, List.forall_mem_cons.mpr ⟨lw_p61, List.forall_mem_cons.mpr ⟨lw_p62, List.forall_mem_cons.mpr ⟨lw_p63, fun _ h => absurd h List.not_mem_nil⟩⟩⟩⟩⟩⟩⟩⟩⟩⟩⟩⟩⟩⟩⟩⟩
theorem lw_p64 : lw_okq (⟨"SignalsSightedModel", "readWord", "()I"⟩, 37) := ⟨⟨by decide +kernel, by decide +kernel⟩, List.mem_of_getElem? (i := 875) (by decide +kernel), List.mem_of_getElem? (i := 1341) (by decide +kernel), List.mem_of_getElem? (i := 1342) (by decide +kernel)⟩
theorem lw_p65 : lw_okq (⟨"SignalsSightedModel", "here", "()I"⟩, 37) := ⟨⟨by decide +kernel, by decide +kernel⟩, List.mem_of_getElem? (i := 875) (by decide +kernel), List.mem_of_getElem? (i := 1357) (by decide +kernel), List.mem_of_getElem? (i := 1358) (by decide +kernel)⟩
theorem lw_p66 : lw_okq (⟨"SignalsSightedModel", "reads", "()Z"⟩, 37) := ⟨⟨by decide +kernel, by decide +kernel⟩, List.mem_of_getElem? (i := 875) (by decide +kernel), List.mem_of_getElem? (i := 1361) (by decide +kernel), List.mem_of_getElem? (i := 1362) (by decide +kernel)⟩
theorem lw_p67 : lw_okq (⟨"SignalsSightedModel", "takes", "(I)Z"⟩, 37) := ⟨⟨by decide +kernel, by decide +kernel⟩, List.mem_of_getElem? (i := 875) (by decide +kernel), List.mem_of_getElem? (i := 1365) (by decide +kernel), List.mem_of_getElem? (i := 1366) (by decide +kernel)⟩
theorem lw_p68 : lw_okq (⟨"SignalsSightedModel", "readNumber", "(I)Z"⟩, 37) := ⟨⟨by decide +kernel, by decide +kernel⟩, List.mem_of_getElem? (i := 875) (by decide +kernel), List.mem_of_getElem? (i := 1372) (by decide +kernel), List.mem_of_getElem? (i := 1373) (by decide +kernel)⟩
theorem lw_p69 : lw_okq (⟨"SignalsSightedModel", "does", "(I)I"⟩, 37) := ⟨⟨by decide +kernel, by decide +kernel⟩, List.mem_of_getElem? (i := 875) (by decide +kernel), List.mem_of_getElem? (i := 1376) (by decide +kernel), List.mem_of_getElem? (i := 1377) (by decide +kernel)⟩
theorem lw_p70 : lw_okq (⟨"SignalsSightedModel", "places", "(I)I"⟩, 37) := ⟨⟨by decide +kernel, by decide +kernel⟩, List.mem_of_getElem? (i := 875) (by decide +kernel), List.mem_of_getElem? (i := 1386) (by decide +kernel), List.mem_of_getElem? (i := 1387) (by decide +kernel)⟩
theorem lw_p71 : lw_okq (⟨"SignalsSightedModel", "named", "()I"⟩, 37) := ⟨⟨by decide +kernel, by decide +kernel⟩, List.mem_of_getElem? (i := 875) (by decide +kernel), List.mem_of_getElem? (i := 1390) (by decide +kernel), List.mem_of_getElem? (i := 1391) (by decide +kernel)⟩
def lw_privs_5 : List (MethodName × Nat) := [(⟨"SignalsSightedModel", "readWord", "()I"⟩, 37), (⟨"SignalsSightedModel", "here", "()I"⟩, 37), (⟨"SignalsSightedModel", "reads", "()Z"⟩, 37), (⟨"SignalsSightedModel", "takes", "(I)Z"⟩, 37), (⟨"SignalsSightedModel", "readNumber", "(I)Z"⟩, 37), (⟨"SignalsSightedModel", "does", "(I)I"⟩, 37), (⟨"SignalsSightedModel", "places", "(I)I"⟩, 37), (⟨"SignalsSightedModel", "named", "()I"⟩, 37)]
theorem lw_r5 : ∀ q ∈ lw_privs_5, lw_okq q := List.forall_mem_cons.mpr ⟨lw_p64, List.forall_mem_cons.mpr ⟨lw_p65, List.forall_mem_cons.mpr ⟨lw_p66, List.forall_mem_cons.mpr ⟨lw_p67, List.forall_mem_cons.mpr ⟨lw_p68, List.forall_mem_cons.mpr ⟨lw_p69, List.forall_mem_cons.mpr ⟨lw_p70, List.forall_mem_cons.mpr ⟨lw_p71, fun _ h => absurd h List.not_mem_nil⟩⟩⟩⟩⟩⟩⟩⟩
def lw_privs : List (MethodName × Nat) := lw_privs_1 ++ (lw_privs_2 ++ (lw_privs_3 ++ (lw_privs_4 ++ (lw_privs_5))))
def lw_tbl : List Cond := k2_sels lw_privs ++ tables_1
theorem lw_privs_ok : ∀ q ∈ lw_privs, lw_okq q := by
  show ∀ q ∈ lw_privs_1 ++ (lw_privs_2 ++ (lw_privs_3 ++ (lw_privs_4 ++ (lw_privs_5)))), lw_okq q
  exact List.forall_mem_append.mpr ⟨lw_r1, List.forall_mem_append.mpr ⟨lw_r2, List.forall_mem_append.mpr ⟨lw_r3, List.forall_mem_append.mpr ⟨lw_r4, lw_r5⟩⟩⟩⟩
theorem goodIn_r {big : List Cond} (ws : List Cond) (ps : List Nat) (hp : ws = ps.filterMap (fun i => big[i]?)) (h : ws.all goodWord = true) : GoodIn big ws := by
  intro w hw
  have h1 := List.all_eq_true.mp h w hw
  rw [hp] at hw
  obtain ⟨i, -, hi⟩ := List.mem_filterMap.mp hw
  have hm : w ∈ big := by first | exact List.mem_of_getElem? hi | exact List.getElem?_mem hi
  exact ⟨hm, good_of_word h1⟩
theorem goodIn_app {big a b : List Cond} (ha : GoodIn big a) (hb : GoodIn big b) : GoodIn big (a ++ b) := fun w h => (List.mem_append.mp h).elim (ha w) (hb w)
theorem goodIn_ca {big a b : List Cond} {c : Cond} (ha : GoodIn big (c :: a)) (hb : GoodIn big b) : GoodIn big (c :: (a ++ b)) := fun w h => (List.mem_cons.mp h).elim (fun e => ha w (List.mem_cons.mpr (Or.inl e))) (fun h => (List.mem_append.mp h).elim (fun h => ha w (List.mem_cons.mpr (Or.inr h))) (hb w))
theorem goodIn_sub {big ws : List Cond} (hm : ∀ w ∈ ws, w ∈ big) (h : ws.all goodWord = true) : GoodIn big ws := fun w hw => ⟨hm w hw, good_of_word (List.all_eq_true.mp h w hw)⟩
def RX0 : String := "SignalsSighted$Letters"
def TX0 : u_T := fun k => match k with
  | 0 => ("SignalsSighted$Letters", "size", "I", false)
  | 1 => ("SignalsSighted$Letters", "at", "I", false)
  | 2 => ("SignalsSighted$Letters", "signs", "[C", true)
  | 3 => ("SignalsSighted$Letters", "word", "I", false)
  | 4 => ("SignalsSighted$Letters", "nameBegin", "I", false)
  | 5 => ("SignalsSighted$Letters", "nameLength", "I", false)
  | _ => ("SignalsSighted$Letters", "numbers", "[I", true)
def tyX0 : Nat → FieldType := fun k => match k with
  | 0 => .int
  | 1 => .int
  | 2 => .array .char
  | 3 => .int
  | 4 => .int
  | 5 => .int
  | _ => .array .int
abbrev wsX00 : List Cond := u_ws RX0 TX0 7
theorem nmX0 : ∀ a, a < 7 → ∀ b, b < 7 → a ≠ b → (TX0 a).2.1 ≠ (TX0 b).2.1 := by decide +kernel
theorem tyX0_ok : ∀ k, k < 7 → parseFieldDescriptor (TX0 k).2.2.1 = some (tyX0 k) := by decide +kernel
abbrev cX0_init : ByteArray := prog_2_method_1_code
def yX0_init : MethodName := ⟨RX0, "<init>", "()V"⟩
abbrev cX0_add : ByteArray := prog_2_method_2_code
def yX0_add : MethodName := ⟨RX0, "add", "(I)I"⟩
abbrev cX0_clear : ByteArray := prog_2_method_3_code
def yX0_clear : MethodName := ⟨RX0, "clear", "()V"⟩
abbrev cX0_rewind : ByteArray := prog_2_method_4_code
def yX0_rewind : MethodName := ⟨RX0, "rewind", "()V"⟩
abbrev cX0_hasMore : ByteArray := prog_2_method_5_code
def yX0_hasMore : MethodName := ⟨RX0, "hasMore", "()Z"⟩
abbrev cX0_faultOfForm : ByteArray := prog_2_method_6_code
def yX0_faultOfForm : MethodName := ⟨RX0, "faultOfForm", "()I"⟩
abbrev cX0_readStatement : ByteArray := prog_2_method_7_code
def yX0_readStatement : MethodName := ⟨RX0, "readStatement", "()Z"⟩
abbrev cX0_readWord : ByteArray := prog_2_method_8_code
def yX0_readWord : MethodName := ⟨RX0, "readWord", "()Z"⟩
abbrev cX0_beginsWord : ByteArray := prog_2_method_9_code
def yX0_beginsWord : MethodName := ⟨RX0, "beginsWord", "(III)Z"⟩
abbrev cX0_textOf : ByteArray := prog_2_method_10_code
def yX0_textOf : MethodName := ⟨RX0, "textOf", "(I)Ljava/lang/String;"⟩
abbrev cX0_readName : ByteArray := prog_2_method_11_code
def yX0_readName : MethodName := ⟨RX0, "readName", "()Z"⟩
abbrev cX0_readNumber : ByteArray := prog_2_method_12_code
def yX0_readNumber : MethodName := ⟨RX0, "readNumber", "(I)Z"⟩
abbrev cX0_readSign : ByteArray := prog_2_method_13_code
def yX0_readSign : MethodName := ⟨RX0, "readSign", "(C)Z"⟩
abbrev cX0_isBetween : ByteArray := prog_2_method_14_code
def yX0_isBetween : MethodName := ⟨RX0, "isBetween", "(CC)Z"⟩
abbrev cX0_sayTo : ByteArray := prog_2_method_15_code
def yX0_sayTo : MethodName := ⟨RX0, "sayTo", "(LSignalsSighted$Line;)I"⟩
abbrev cX0_sayPlace : ByteArray := prog_2_method_16_code
def yX0_sayPlace : MethodName := ⟨RX0, "sayPlace", "(LSignalsSighted$Line;)I"⟩
def RX1 : String := "SignalsSighted$Line"
def TX1 : u_T := fun k => match k with
  | 0 => ("SignalsSighted$Line", "cells", "I", false)
  | 1 => ("SignalsSighted$Line", "ground", "[I", true)
  | 2 => ("SignalsSighted$Line", "bridgeCount", "I", false)
  | 3 => ("SignalsSighted$Line", "bridgeCell", "[I", true)
  | 4 => ("SignalsSighted$Line", "low", "[I", true)
  | 5 => ("SignalsSighted$Line", "high", "[I", true)
  | 6 => ("SignalsSighted$Line", "postCount", "I", false)
  | 7 => ("SignalsSighted$Line", "postCell", "[I", true)
  | 8 => ("SignalsSighted$Line", "tall", "[I", true)
  | 9 => ("SignalsSighted$Line", "trainCount", "I", false)
  | 10 => ("SignalsSighted$Line", "trains", "[LSignalsSighted$Train;", true)
  | 11 => ("SignalsSighted$Line", "need", "I", false)
  | _ => ("SignalsSighted$Line", "places", "LSignalsSighted$Places;", true)
def tyX1 : Nat → FieldType := fun k => match k with
  | 0 => .int
  | 1 => .array .int
  | 2 => .int
  | 3 => .array .int
  | 4 => .array .int
  | 5 => .array .int
  | 6 => .int
  | 7 => .array .int
  | 8 => .array .int
  | 9 => .int
  | 10 => .array (.object "SignalsSighted$Train")
  | 11 => .int
  | _ => .object "SignalsSighted$Places"
abbrev wsX10 : List Cond := u_ws RX1 TX1 13
theorem nmX1 : ∀ a, a < 13 → ∀ b, b < 13 → a ≠ b → (TX1 a).2.1 ≠ (TX1 b).2.1 := by decide +kernel
theorem tyX1_ok : ∀ k, k < 13 → parseFieldDescriptor (TX1 k).2.2.1 = some (tyX1 k) := by decide +kernel
abbrev cX1_init : ByteArray := prog_3_method_1_code
def yX1_init : MethodName := ⟨RX1, "<init>", "()V"⟩
abbrev cX1_copyFrom : ByteArray := prog_3_method_2_code
def yX1_copyFrom : MethodName := ⟨RX1, "copyFrom", "(LSignalsSighted$Line;)V"⟩
abbrev cX1_hasCell : ByteArray := prog_3_method_3_code
def yX1_hasCell : MethodName := ⟨RX1, "hasCell", "(I)Z"⟩
abbrev cX1_hasBridge : ByteArray := prog_3_method_4_code
def yX1_hasBridge : MethodName := ⟨RX1, "hasBridge", "(I)Z"⟩
abbrev cX1_hasPost : ByteArray := prog_3_method_5_code
def yX1_hasPost : MethodName := ⟨RX1, "hasPost", "(I)Z"⟩
abbrev cX1_hasTrain : ByteArray := prog_3_method_6_code
def yX1_hasTrain : MethodName := ⟨RX1, "hasTrain", "(I)Z"⟩
abbrev cX1_allBridges : ByteArray := prog_3_method_7_code
def yX1_allBridges : MethodName := ⟨RX1, "allBridges", "()I"⟩
abbrev cX1_resize : ByteArray := prog_3_method_8_code
def yX1_resize : MethodName := ⟨RX1, "resize", "(I)I"⟩
abbrev cX1_setGround : ByteArray := prog_3_method_9_code
def yX1_setGround : MethodName := ⟨RX1, "setGround", "(II)I"⟩
abbrev cX1_addBridge : ByteArray := prog_3_method_10_code
def yX1_addBridge : MethodName := ⟨RX1, "addBridge", "(III)I"⟩
abbrev cX1_removeBridge : ByteArray := prog_3_method_11_code
def yX1_removeBridge : MethodName := ⟨RX1, "removeBridge", "(I)V"⟩
abbrev cX1_addPost : ByteArray := prog_3_method_12_code
def yX1_addPost : MethodName := ⟨RX1, "addPost", "(II)I"⟩
abbrev cX1_setPost : ByteArray := prog_3_method_13_code
def yX1_setPost : MethodName := ⟨RX1, "setPost", "(III)I"⟩
abbrev cX1_postAt : ByteArray := prog_3_method_14_code
def yX1_postAt : MethodName := ⟨RX1, "postAt", "(I)I"⟩
abbrev cX1_removePost : ByteArray := prog_3_method_15_code
def yX1_removePost : MethodName := ⟨RX1, "removePost", "(I)V"⟩
abbrev cX1_addTrain : ByteArray := prog_3_method_16_code
def yX1_addTrain : MethodName := ⟨RX1, "addTrain", "(IIII)I"⟩
abbrev cX1_setNeed : ByteArray := prog_3_method_17_code
def yX1_setNeed : MethodName := ⟨RX1, "setNeed", "(I)I"⟩
abbrev cX1_drawGround : ByteArray := prog_3_method_18_code
def yX1_drawGround : MethodName := ⟨RX1, "drawGround", "(I)I"⟩
abbrev cX1_timeIn : ByteArray := prog_3_method_19_code
def yX1_timeIn : MethodName := ⟨RX1, "timeIn", "(LSignalsSighted$Train;II)I"⟩
abbrev cX1_isBridged : ByteArray := prog_3_method_20_code
def yX1_isBridged : MethodName := ⟨RX1, "isBridged", "(II)Z"⟩
abbrev cX1_isClear : ByteArray := prog_3_method_21_code
def yX1_isClear : MethodName := ⟨RX1, "isClear", "(IIIII)Z"⟩
abbrev cX1_seesPost : ByteArray := prog_3_method_22_code
def yX1_seesPost : MethodName := ⟨RX1, "seesPost", "(LSignalsSighted$Train;III)Z"⟩
abbrev cX1_firstCell : ByteArray := prog_3_method_23_code
def yX1_firstCell : MethodName := ⟨RX1, "firstCell", "(LSignalsSighted$Train;III)I"⟩
abbrev cX1_warningOf : ByteArray := prog_3_method_24_code
def yX1_warningOf : MethodName := ⟨RX1, "warningOf", "(LSignalsSighted$Train;II)I"⟩
abbrev cX1_warningFor : ByteArray := prog_3_method_25_code
def yX1_warningFor : MethodName := ⟨RX1, "warningFor", "(LSignalsSighted$Train;III)I"⟩
abbrev cX1_keepsAll : ByteArray := prog_3_method_26_code
def yX1_keepsAll : MethodName := ⟨RX1, "keepsAll", "(II)Z"⟩
abbrev cX1_keptPairs : ByteArray := prog_3_method_27_code
def yX1_keptPairs : MethodName := ⟨RX1, "keptPairs", "(I)I"⟩
abbrev cX1_isSafe : ByteArray := prog_3_method_28_code
def yX1_isSafe : MethodName := ⟨RX1, "isSafe", "(I)Z"⟩
abbrev cX1_allWarnings : ByteArray := prog_3_method_29_code
def yX1_allWarnings : MethodName := ⟨RX1, "allWarnings", "()I"⟩
abbrev cX1_postsSeen : ByteArray := prog_3_method_30_code
def yX1_postsSeen : MethodName := ⟨RX1, "postsSeen", "(LSignalsSighted$Train;I)I"⟩
abbrev cX1_cellOfMost : ByteArray := prog_3_method_31_code
def yX1_cellOfMost : MethodName := ⟨RX1, "cellOfMost", "(LSignalsSighted$Train;)I"⟩
abbrev cX1_blindCells : ByteArray := prog_3_method_32_code
def yX1_blindCells : MethodName := ⟨RX1, "blindCells", "(LSignalsSighted$Train;)I"⟩
abbrev cX1_unlikeStretches : ByteArray := prog_3_method_33_code
def yX1_unlikeStretches : MethodName := ⟨RX1, "unlikeStretches", "(I)I"⟩
abbrev cX1_firstRepeated : ByteArray := prog_3_method_34_code
def yX1_firstRepeated : MethodName := ⟨RX1, "firstRepeated", "(I)I"⟩
abbrev cX1_isRepeated : ByteArray := prog_3_method_35_code
def yX1_isRepeated : MethodName := ⟨RX1, "isRepeated", "(IIII)Z"⟩
abbrev cX1_areAlike : ByteArray := prog_3_method_36_code
def yX1_areAlike : MethodName := ⟨RX1, "areAlike", "(III)Z"⟩
def RX2 : String := "SignalsSighted$Moves"
def TX2 : u_T := fun k => match k with
  | 0 => ("SignalsSighted$Moves", "good", "[Z", true)
  | 1 => ("SignalsSighted$Moves", "order", "[I", true)
  | 2 => ("SignalsSighted$Moves", "chosen", "[I", true)
  | _ => ("SignalsSighted$Moves", "reach", "[I", true)
def tyX2 : Nat → FieldType := fun k => match k with
  | 0 => .array .boolean
  | 1 => .array .int
  | 2 => .array .int
  | _ => .array .int
abbrev wsX20 : List Cond := u_ws RX2 TX2 4
theorem nmX2 : ∀ a, a < 4 → ∀ b, b < 4 → a ≠ b → (TX2 a).2.1 ≠ (TX2 b).2.1 := by decide +kernel
theorem tyX2_ok : ∀ k, k < 4 → parseFieldDescriptor (TX2 k).2.2.1 = some (tyX2 k) := by decide +kernel
abbrev cX2_init : ByteArray := prog_4_method_1_code
def yX2_init : MethodName := ⟨RX2, "<init>", "()V"⟩
abbrev cX2_answer : ByteArray := prog_4_method_2_code
def yX2_answer : MethodName := ⟨RX2, "answer", "(LSignalsSighted$Line;I)I"⟩
abbrev cX2_prepare : ByteArray := prog_4_method_3_code
def yX2_prepare : MethodName := ⟨RX2, "prepare", "(LSignalsSighted$Line;)V"⟩
abbrev cX2_firstCellBy : ByteArray := prog_4_method_4_code
def yX2_firstCellBy : MethodName := ⟨RX2, "firstCellBy", "(LSignalsSighted$Line;II)I"⟩
abbrev cX2_leastSum : ByteArray := prog_4_method_5_code
def yX2_leastSum : MethodName := ⟨RX2, "leastSum", "(LSignalsSighted$Line;)I"⟩
abbrev cX2_mayStand : ByteArray := prog_4_method_6_code
def yX2_mayStand : MethodName := ⟨RX2, "mayStand", "(II)Z"⟩
def RX3 : String := "SignalsSighted$Places"
def TX3 : u_T := fun k => match k with
  | 0 => ("SignalsSighted$Places", "size", "I", false)
  | 1 => ("SignalsSighted$Places", "where", "[I", true)
  | 2 => ("SignalsSighted$Places", "lengths", "[I", true)
  | _ => ("SignalsSighted$Places", "names", "[C", true)
def tyX3 : Nat → FieldType := fun k => match k with
  | 0 => .int
  | 1 => .array .int
  | 2 => .array .int
  | _ => .array .char
abbrev wsX30 : List Cond := u_ws RX3 TX3 4
theorem nmX3 : ∀ a, a < 4 → ∀ b, b < 4 → a ≠ b → (TX3 a).2.1 ≠ (TX3 b).2.1 := by decide +kernel
theorem tyX3_ok : ∀ k, k < 4 → parseFieldDescriptor (TX3 k).2.2.1 = some (tyX3 k) := by decide +kernel
abbrev cX3_init : ByteArray := prog_5_method_1_code
def yX3_init : MethodName := ⟨RX3, "<init>", "()V"⟩
abbrev cX3_has : ByteArray := prog_5_method_2_code
def yX3_has : MethodName := ⟨RX3, "has", "(I)Z"⟩
abbrev cX3_letterOf : ByteArray := prog_5_method_3_code
def yX3_letterOf : MethodName := ⟨RX3, "letterOf", "(II)I"⟩
abbrev cX3_copyFrom : ByteArray := prog_5_method_4_code
def yX3_copyFrom : MethodName := ⟨RX3, "copyFrom", "(LSignalsSighted$Places;)V"⟩
abbrev cX3_tell : ByteArray := prog_5_method_5_code
def yX3_tell : MethodName := ⟨RX3, "tell", "([CIII)I"⟩
abbrev cX3_find : ByteArray := prog_5_method_6_code
def yX3_find : MethodName := ⟨RX3, "find", "([CII)I"⟩
abbrev cX3_isNamed : ByteArray := prog_5_method_7_code
def yX3_isNamed : MethodName := ⟨RX3, "isNamed", "(I[CII)Z"⟩
abbrev cX3_dropFrom : ByteArray := prog_5_method_8_code
def yX3_dropFrom : MethodName := ⟨RX3, "dropFrom", "(I)V"⟩
def RX4 : String := "SignalsSighted$Shelf"
def TX4 : u_T := fun k => match k with
  | 0 => ("SignalsSighted$Shelf", "sort", "I", false)
  | 1 => ("SignalsSighted$Shelf", "size", "I", false)
  | 2 => ("SignalsSighted$Shelf", "row", "[J", true)
  | _ => ("SignalsSighted$Shelf", "train", "LSignalsSighted$Train;", true)
def tyX4 : Nat → FieldType := fun k => match k with
  | 0 => .int
  | 1 => .int
  | 2 => .array .long
  | _ => .object "SignalsSighted$Train"
abbrev wsX40 : List Cond := u_ws RX4 TX4 4
theorem nmX4 : ∀ a, a < 4 → ∀ b, b < 4 → a ≠ b → (TX4 a).2.1 ≠ (TX4 b).2.1 := by decide +kernel
theorem tyX4_ok : ∀ k, k < 4 → parseFieldDescriptor (TX4 k).2.2.1 = some (tyX4 k) := by decide +kernel
abbrev cX4_init : ByteArray := prog_6_method_1_code
def yX4_init : MethodName := ⟨RX4, "<init>", "()V"⟩
abbrev cX4_becomeRow : ByteArray := prog_6_method_2_code
def yX4_becomeRow : MethodName := ⟨RX4, "becomeRow", "(II)V"⟩
abbrev cX4_takeTrain : ByteArray := prog_6_method_3_code
def yX4_takeTrain : MethodName := ⟨RX4, "takeTrain", "(LSignalsSighted$Train;)V"⟩
abbrev cX4_faultOfSort : ByteArray := prog_6_method_4_code
def yX4_faultOfSort : MethodName := ⟨RX4, "faultOfSort", "(I)I"⟩
abbrev cX4_faultOfPlace : ByteArray := prog_6_method_5_code
def yX4_faultOfPlace : MethodName := ⟨RX4, "faultOfPlace", "(I)I"⟩
abbrev cX4_write : ByteArray := prog_6_method_6_code
def yX4_write : MethodName := ⟨RX4, "write", "(IJ)V"⟩
def RX5 : String := "SignalsSighted$Train"
def TX5 : u_T := fun k => match k with
  | 0 => ("SignalsSighted$Train", "kind", "I", false)
  | 1 => ("SignalsSighted$Train", "figure", "I", false)
  | 2 => ("SignalsSighted$Train", "slow", "I", false)
  | _ => ("SignalsSighted$Train", "way", "I", false)
def tyX5 : Nat → FieldType := fun k => match k with
  | 0 => .int
  | 1 => .int
  | 2 => .int
  | _ => .int
abbrev wsX50 : List Cond := u_ws RX5 TX5 4
theorem nmX5 : ∀ a, a < 4 → ∀ b, b < 4 → a ≠ b → (TX5 a).2.1 ≠ (TX5 b).2.1 := by decide +kernel
theorem tyX5_ok : ∀ k, k < 4 → parseFieldDescriptor (TX5 k).2.2.1 = some (tyX5 k) := by decide +kernel
abbrev cX5_init : ByteArray := prog_7_method_1_code
def yX5_init : MethodName := ⟨RX5, "<init>", "()V"⟩
abbrev cX5_copyFrom : ByteArray := prog_7_method_2_code
def yX5_copyFrom : MethodName := ⟨RX5, "copyFrom", "(LSignalsSighted$Train;)V"⟩
abbrev cX5_eye : ByteArray := prog_7_method_3_code
def yX5_eye : MethodName := ⟨RX5, "eye", "()I"⟩
abbrev cX5_timeFor : ByteArray := prog_7_method_4_code
def yX5_timeFor : MethodName := ⟨RX5, "timeFor", "(IZ)I"⟩
abbrev cX5_step : ByteArray := prog_7_method_5_code
def yX5_step : MethodName := ⟨RX5, "step", "()I"⟩
abbrev cX5_isOf : ByteArray := prog_7_method_6_code
def yX5_isOf : MethodName := ⟨RX5, "isOf", "(I)Z"⟩
def RX6 : String := "SignalsSighted"
def TX6 : u_T := fun k => match k with
  | 0 => ("SignalsSighted", "line", "LSignalsSighted$Line;", true)
  | 1 => ("SignalsSighted", "kept", "LSignalsSighted$Line;", true)
  | 2 => ("SignalsSighted", "trial", "LSignalsSighted$Line;", true)
  | 3 => ("SignalsSighted", "imageTaken", "Z", false)
  | 4 => ("SignalsSighted", "letters", "LSignalsSighted$Letters;", true)
  | 5 => ("SignalsSighted", "shelves", "[LSignalsSighted$Shelf;", true)
  | 6 => ("SignalsSighted", "moves", "LSignalsSighted$Moves;", true)
  | 7 => ("SignalsSighted", "guess", "LSignalsSighted$Train;", true)
  | _ => ("SignalsSighted", "refusals", "[I", true)
def tyX6 : Nat → FieldType := fun k => match k with
  | 0 => .object "SignalsSighted$Line"
  | 1 => .object "SignalsSighted$Line"
  | 2 => .object "SignalsSighted$Line"
  | 3 => .boolean
  | 4 => .object "SignalsSighted$Letters"
  | 5 => .array (.object "SignalsSighted$Shelf")
  | 6 => .object "SignalsSighted$Moves"
  | 7 => .object "SignalsSighted$Train"
  | _ => .array .int
abbrev wsX60 : List Cond := u_ws RX6 TX6 9
theorem nmX6 : ∀ a, a < 9 → ∀ b, b < 9 → a ≠ b → (TX6 a).2.1 ≠ (TX6 b).2.1 := by decide +kernel
theorem tyX6_ok : ∀ k, k < 9 → parseFieldDescriptor (TX6 k).2.2.1 = some (tyX6 k) := by decide +kernel
abbrev cX6_init : ByteArray := prog_1_method_1_code
def yX6_init : MethodName := ⟨RX6, "<init>", "()V"⟩
abbrev cX6_letter : ByteArray := prog_1_method_2_code
def yX6_letter : MethodName := ⟨RX6, "letter", "(I)I"⟩
abbrev cX6_tells : ByteArray := prog_1_method_3_code
def yX6_tells : MethodName := ⟨RX6, "tells", "()I"⟩
abbrev cX6_cells : ByteArray := prog_1_method_4_code
def yX6_cells : MethodName := ⟨RX6, "cells", "(I)I"⟩
abbrev cX6_ground : ByteArray := prog_1_method_5_code
def yX6_ground : MethodName := ⟨RX6, "ground", "(II)I"⟩
abbrev cX6_bridge : ByteArray := prog_1_method_6_code
def yX6_bridge : MethodName := ⟨RX6, "bridge", "(III)I"⟩
abbrev cX6_fells : ByteArray := prog_1_method_7_code
def yX6_fells : MethodName := ⟨RX6, "fells", "(I)I"⟩
abbrev cX6_post : ByteArray := prog_1_method_8_code
def yX6_post : MethodName := ⟨RX6, "post", "(II)I"⟩
abbrev cX6_sets : ByteArray := prog_1_method_9_code
def yX6_sets : MethodName := ⟨RX6, "sets", "(III)I"⟩
abbrev cX6_train : ByteArray := prog_1_method_10_code
def yX6_train : MethodName := ⟨RX6, "train", "(IIII)I"⟩
abbrev cX6_need : ByteArray := prog_1_method_11_code
def yX6_need : MethodName := ⟨RX6, "need", "(I)I"⟩
abbrev cX6_ofBridge : ByteArray := prog_1_method_12_code
def yX6_ofBridge : MethodName := ⟨RX6, "ofBridge", "(II)I"⟩
abbrev cX6_ofPost : ByteArray := prog_1_method_13_code
def yX6_ofPost : MethodName := ⟨RX6, "ofPost", "(II)I"⟩
abbrev cX6_ofTrain : ByteArray := prog_1_method_14_code
def yX6_ofTrain : MethodName := ⟨RX6, "ofTrain", "(II)I"⟩
abbrev cX6_height : ByteArray := prog_1_method_15_code
def yX6_height : MethodName := ⟨RX6, "height", "(I)I"⟩
abbrev cX6_time : ByteArray := prog_1_method_16_code
def yX6_time : MethodName := ⟨RX6, "time", "(II)I"⟩
abbrev cX6_sight : ByteArray := prog_1_method_17_code
def yX6_sight : MethodName := ⟨RX6, "sight", "(IIII)I"⟩
abbrev cX6_sees : ByteArray := prog_1_method_18_code
def yX6_sees : MethodName := ⟨RX6, "sees", "(III)I"⟩
abbrev cX6_first : ByteArray := prog_1_method_19_code
def yX6_first : MethodName := ⟨RX6, "first", "(II)I"⟩
abbrev cX6_warned : ByteArray := prog_1_method_20_code
def yX6_warned : MethodName := ⟨RX6, "warned", "(II)I"⟩
abbrev cX6_safe : ByteArray := prog_1_method_21_code
def yX6_safe : MethodName := ⟨RX6, "safe", "()I"⟩
abbrev cX6_moved : ByteArray := prog_1_method_22_code
def yX6_moved : MethodName := ⟨RX6, "moved", "(I)I"⟩
abbrev cX6_raised : ByteArray := prog_1_method_23_code
def yX6_raised : MethodName := ⟨RX6, "raised", "(I)I"⟩
abbrev cX6_freed : ByteArray := prog_1_method_24_code
def yX6_freed : MethodName := ⟨RX6, "freed", "(I)J"⟩
abbrev cX6_worst : ByteArray := prog_1_method_25_code
def yX6_worst : MethodName := ⟨RX6, "worst", "()I"⟩
abbrev cX6_slowest : ByteArray := prog_1_method_26_code
def yX6_slowest : MethodName := ⟨RX6, "slowest", "(II)I"⟩
abbrev cX6_atOnce : ByteArray := prog_1_method_27_code
def yX6_atOnce : MethodName := ⟨RX6, "atOnce", "(II)I"⟩
abbrev cX6_most : ByteArray := prog_1_method_28_code
def yX6_most : MethodName := ⟨RX6, "most", "(II)I"⟩
abbrev cX6_nearest : ByteArray := prog_1_method_29_code
def yX6_nearest : MethodName := ⟨RX6, "nearest", "(II)I"⟩
abbrev cX6_shadow : ByteArray := prog_1_method_30_code
def yX6_shadow : MethodName := ⟨RX6, "shadow", "(III)I"⟩
abbrev cX6_alike : ByteArray := prog_1_method_31_code
def yX6_alike : MethodName := ⟨RX6, "alike", "(II)I"⟩
abbrev cX6_steepest : ByteArray := prog_1_method_32_code
def yX6_steepest : MethodName := ⟨RX6, "steepest", "(I)I"⟩
abbrev cX6_down : ByteArray := prog_1_method_33_code
def yX6_down : MethodName := ⟨RX6, "down", "(II)J"⟩
abbrev cX6_mean : ByteArray := prog_1_method_34_code
def yX6_mean : MethodName := ⟨RX6, "mean", "(I)J"⟩
abbrev cX6_name : ByteArray := prog_1_method_35_code
def yX6_name : MethodName := ⟨RX6, "name", "(II)I"⟩
abbrev cX6_placeAt : ByteArray := prog_1_method_36_code
def yX6_placeAt : MethodName := ⟨RX6, "placeAt", "(I)I"⟩
abbrev cX6_shelf : ByteArray := prog_1_method_37_code
def yX6_shelf : MethodName := ⟨RX6, "shelf", "(III)I"⟩
abbrev cX6_lay : ByteArray := prog_1_method_38_code
def yX6_lay : MethodName := ⟨RX6, "lay", "(II)I"⟩
abbrev cX6_put : ByteArray := prog_1_method_39_code
def yX6_put : MethodName := ⟨RX6, "put", "(IIJ)I"⟩
abbrev cX6_look : ByteArray := prog_1_method_40_code
def yX6_look : MethodName := ⟨RX6, "look", "(II)J"⟩
abbrev cX6_taken : ByteArray := prog_1_method_41_code
def yX6_taken : MethodName := ⟨RX6, "taken", "(II)I"⟩
abbrev cX6_whatIs : ByteArray := prog_1_method_42_code
def yX6_whatIs : MethodName := ⟨RX6, "whatIs", "(III)I"⟩
abbrev cX6_judge : ByteArray := prog_1_method_43_code
def yX6_judge : MethodName := ⟨RX6, "judge", "(II)I"⟩
abbrev cX6_lots : ByteArray := prog_1_method_44_code
def yX6_lots : MethodName := ⟨RX6, "lots", "(III)I"⟩
abbrev cX6_image : ByteArray := prog_1_method_45_code
def yX6_image : MethodName := ⟨RX6, "image", "()I"⟩
abbrev cX6_on : ByteArray := prog_1_method_46_code
def yX6_on : MethodName := ⟨RX6, "on", "()I"⟩
abbrev cX6_count : ByteArray := prog_1_method_47_code
def yX6_count : MethodName := ⟨RX6, "count", "(I)I"⟩
abbrev cX6_refused : ByteArray := prog_1_method_48_code
def yX6_refused : MethodName := ⟨RX6, "refused", "(I)I"⟩
abbrev cX6_refusedLong : ByteArray := prog_1_method_49_code
def yX6_refusedLong : MethodName := ⟨RX6, "refusedLong", "(I)J"⟩
abbrev cX6_counted : ByteArray := prog_1_method_50_code
def yX6_counted : MethodName := ⟨RX6, "counted", "(I)I"⟩
abbrev cX6_oneIf : ByteArray := prog_1_method_51_code
def yX6_oneIf : MethodName := ⟨RX6, "oneIf", "(Z)I"⟩
abbrev cX6_hasShelf : ByteArray := prog_1_method_52_code
def yX6_hasShelf : MethodName := ⟨RX6, "hasShelf", "(I)Z"⟩
abbrev cX6_hearStatements : ByteArray := prog_1_method_53_code
def yX6_hearStatements : MethodName := ⟨RX6, "hearStatements", "()I"⟩
abbrev cX6_safeWays : ByteArray := prog_1_method_54_code
def yX6_safeWays : MethodName := ⟨RX6, "safeWays", "(I)I"⟩
abbrev cX6_power : ByteArray := prog_1_method_55_code
def yX6_power : MethodName := ⟨RX6, "power", "(II)I"⟩
abbrev cX6_partOf : ByteArray := prog_1_method_56_code
def yX6_partOf : MethodName := ⟨RX6, "partOf", "(III)J"⟩
abbrev cX6_commonDivisor : ByteArray := prog_1_method_57_code
def yX6_commonDivisor : MethodName := ⟨RX6, "commonDivisor", "(II)I"⟩
abbrev cX6_kindsThatFit : ByteArray := prog_1_method_58_code
def yX6_kindsThatFit : MethodName := ⟨RX6, "kindsThatFit", "(LSignalsSighted$Shelf;)I"⟩
abbrev cX6_figuresThatFit : ByteArray := prog_1_method_59_code
def yX6_figuresThatFit : MethodName := ⟨RX6, "figuresThatFit", "(LSignalsSighted$Shelf;)I"⟩
abbrev cX6_timesFit : ByteArray := prog_1_method_60_code
def yX6_timesFit : MethodName := ⟨RX6, "timesFit", "(LSignalsSighted$Shelf;)Z"⟩
def RX7 : String := "SignalsSightedModel"
def TX7 : u_T := fun k => match k with
  | 0 => ("SignalsSightedModel", "cells", "I", false)
  | 1 => ("SignalsSightedModel", "ground", "[I", true)
  | 2 => ("SignalsSightedModel", "bridges", "I", false)
  | 3 => ("SignalsSightedModel", "bridgeAt", "[I", true)
  | 4 => ("SignalsSightedModel", "low", "[I", true)
  | 5 => ("SignalsSightedModel", "high", "[I", true)
  | 6 => ("SignalsSightedModel", "posts", "I", false)
  | 7 => ("SignalsSightedModel", "postAt", "[I", true)
  | 8 => ("SignalsSightedModel", "tall", "[I", true)
  | 9 => ("SignalsSightedModel", "trains", "I", false)
  | 10 => ("SignalsSightedModel", "kind", "[I", true)
  | 11 => ("SignalsSightedModel", "figure", "[I", true)
  | 12 => ("SignalsSightedModel", "slow", "[I", true)
  | 13 => ("SignalsSightedModel", "way", "[I", true)
  | 14 => ("SignalsSightedModel", "need", "I", false)
  | 15 => ("SignalsSightedModel", "names", "I", false)
  | 16 => ("SignalsSightedModel", "name", "[I", true)
  | 17 => ("SignalsSightedModel", "nameSize", "[I", true)
  | 18 => ("SignalsSightedModel", "nameAt", "[I", true)
  | 19 => ("SignalsSightedModel", "letter", "[I", true)
  | 20 => ("SignalsSightedModel", "letters", "I", false)
  | 21 => ("SignalsSightedModel", "refusals", "[I", true)
  | 22 => ("SignalsSightedModel", "imaged", "[I", true)
  | 23 => ("SignalsSightedModel", "before", "[I", true)
  | 24 => ("SignalsSightedModel", "hasImage", "Z", false)
  | 25 => ("SignalsSightedModel", "gone", "I", false)
  | 26 => ("SignalsSightedModel", "mayBe", "[I", true)
  | 27 => ("SignalsSightedModel", "along", "[I", true)
  | 28 => ("SignalsSightedModel", "place", "[I", true)
  | 29 => ("SignalsSightedModel", "best", "[I", true)
  | 30 => ("SignalsSightedModel", "sort", "[I", true)
  | 31 => ("SignalsSightedModel", "size", "[I", true)
  | 32 => ("SignalsSightedModel", "cell", "[J", true)
  | 33 => ("SignalsSightedModel", "at", "I", false)
  | 34 => ("SignalsSightedModel", "number", "[I", true)
  | 35 => ("SignalsSightedModel", "readName", "[I", true)
  | _ => ("SignalsSightedModel", "readSize", "I", false)
def tyX7 : Nat → FieldType := fun k => match k with
  | 0 => .int
  | 1 => .array .int
  | 2 => .int
  | 3 => .array .int
  | 4 => .array .int
  | 5 => .array .int
  | 6 => .int
  | 7 => .array .int
  | 8 => .array .int
  | 9 => .int
  | 10 => .array .int
  | 11 => .array .int
  | 12 => .array .int
  | 13 => .array .int
  | 14 => .int
  | 15 => .int
  | 16 => .array .int
  | 17 => .array .int
  | 18 => .array .int
  | 19 => .array .int
  | 20 => .int
  | 21 => .array .int
  | 22 => .array .int
  | 23 => .array .int
  | 24 => .boolean
  | 25 => .int
  | 26 => .array .int
  | 27 => .array .int
  | 28 => .array .int
  | 29 => .array .int
  | 30 => .array .int
  | 31 => .array .int
  | 32 => .array .long
  | 33 => .int
  | 34 => .array .int
  | 35 => .array .int
  | _ => .int
abbrev wsX70 : List Cond := u_ws RX7 TX7 37
theorem nmX7 : ∀ a, a < 37 → ∀ b, b < 37 → a ≠ b → (TX7 a).2.1 ≠ (TX7 b).2.1 := by decide +kernel
theorem tyX7_ok : ∀ k, k < 37 → parseFieldDescriptor (TX7 k).2.2.1 = some (tyX7 k) := by decide +kernel
abbrev cX7_init : ByteArray := prog_9_method_1_code
def yX7_init : MethodName := ⟨RX7, "<init>", "()V"⟩
abbrev cX7_in : ByteArray := prog_9_method_2_code
def yX7_in : MethodName := ⟨RX7, "in", "(III)Z"⟩
abbrev cX7_has : ByteArray := prog_9_method_3_code
def yX7_has : MethodName := ⟨RX7, "has", "(II)Z"⟩
abbrev cX7_no : ByteArray := prog_9_method_4_code
def yX7_no : MethodName := ⟨RX7, "no", "(I)I"⟩
abbrev cX7_far : ByteArray := prog_9_method_5_code
def yX7_far : MethodName := ⟨RX7, "far", "(I)J"⟩
abbrev cX7_isCell : ByteArray := prog_9_method_6_code
def yX7_isCell : MethodName := ⟨RX7, "isCell", "(I)Z"⟩
abbrev cX7_isBridge : ByteArray := prog_9_method_7_code
def yX7_isBridge : MethodName := ⟨RX7, "isBridge", "(I)Z"⟩
abbrev cX7_isPost : ByteArray := prog_9_method_8_code
def yX7_isPost : MethodName := ⟨RX7, "isPost", "(I)Z"⟩
abbrev cX7_isTrain : ByteArray := prog_9_method_9_code
def yX7_isTrain : MethodName := ⟨RX7, "isTrain", "(I)Z"⟩
abbrev cX7_cuts : ByteArray := prog_9_method_10_code
def yX7_cuts : MethodName := ⟨RX7, "cuts", "()V"⟩
abbrev cX7_cells : ByteArray := prog_9_method_11_code
def yX7_cells : MethodName := ⟨RX7, "cells", "(I)I"⟩
abbrev cX7_ground : ByteArray := prog_9_method_12_code
def yX7_ground : MethodName := ⟨RX7, "ground", "(II)I"⟩
abbrev cX7_bridge : ByteArray := prog_9_method_13_code
def yX7_bridge : MethodName := ⟨RX7, "bridge", "(III)I"⟩
abbrev cX7_fells : ByteArray := prog_9_method_14_code
def yX7_fells : MethodName := ⟨RX7, "fells", "(I)I"⟩
abbrev cX7_postOn : ByteArray := prog_9_method_15_code
def yX7_postOn : MethodName := ⟨RX7, "postOn", "(I)I"⟩
abbrev cX7_post : ByteArray := prog_9_method_16_code
def yX7_post : MethodName := ⟨RX7, "post", "(II)I"⟩
abbrev cX7_sets : ByteArray := prog_9_method_17_code
def yX7_sets : MethodName := ⟨RX7, "sets", "(III)I"⟩
abbrev cX7_train : ByteArray := prog_9_method_18_code
def yX7_train : MethodName := ⟨RX7, "train", "(IIII)I"⟩
abbrev cX7_need : ByteArray := prog_9_method_19_code
def yX7_need : MethodName := ⟨RX7, "need", "(I)I"⟩
abbrev cX7_ofBridge : ByteArray := prog_9_method_20_code
def yX7_ofBridge : MethodName := ⟨RX7, "ofBridge", "(II)I"⟩
abbrev cX7_ofPost : ByteArray := prog_9_method_21_code
def yX7_ofPost : MethodName := ⟨RX7, "ofPost", "(II)I"⟩
abbrev cX7_eyeBy : ByteArray := prog_9_method_22_code
def yX7_eyeBy : MethodName := ⟨RX7, "eyeBy", "(II)I"⟩
abbrev cX7_eye : ByteArray := prog_9_method_23_code
def yX7_eye : MethodName := ⟨RX7, "eye", "(I)I"⟩
abbrev cX7_ofTrain : ByteArray := prog_9_method_24_code
def yX7_ofTrain : MethodName := ⟨RX7, "ofTrain", "(II)I"⟩
abbrev cX7_height : ByteArray := prog_9_method_25_code
def yX7_height : MethodName := ⟨RX7, "height", "(I)I"⟩
abbrev cX7_isBridged : ByteArray := prog_9_method_26_code
def yX7_isBridged : MethodName := ⟨RX7, "isBridged", "(I)Z"⟩
abbrev cX7_timeBy : ByteArray := prog_9_method_27_code
def yX7_timeBy : MethodName := ⟨RX7, "timeBy", "(IIIII)I"⟩
abbrev cX7_timeOf : ByteArray := prog_9_method_28_code
def yX7_timeOf : MethodName := ⟨RX7, "timeOf", "(II)I"⟩
abbrev cX7_time : ByteArray := prog_9_method_29_code
def yX7_time : MethodName := ⟨RX7, "time", "(II)I"⟩
abbrev cX7_isClear : ByteArray := prog_9_method_30_code
def yX7_isClear : MethodName := ⟨RX7, "isClear", "(IIII)Z"⟩
abbrev cX7_isBarred : ByteArray := prog_9_method_31_code
def yX7_isBarred : MethodName := ⟨RX7, "isBarred", "(III)Z"⟩
abbrev cX7_sight : ByteArray := prog_9_method_32_code
def yX7_sight : MethodName := ⟨RX7, "sight", "(IIII)I"⟩
abbrev cX7_isSeen : ByteArray := prog_9_method_33_code
def yX7_isSeen : MethodName := ⟨RX7, "isSeen", "(III)Z"⟩
abbrev cX7_sees : ByteArray := prog_9_method_34_code
def yX7_sees : MethodName := ⟨RX7, "sees", "(III)I"⟩
abbrev cX7_firstOf : ByteArray := prog_9_method_35_code
def yX7_firstOf : MethodName := ⟨RX7, "firstOf", "(II)I"⟩
abbrev cX7_warnedOf : ByteArray := prog_9_method_36_code
def yX7_warnedOf : MethodName := ⟨RX7, "warnedOf", "(II)I"⟩
abbrev cX7_isKept : ByteArray := prog_9_method_37_code
def yX7_isKept : MethodName := ⟨RX7, "isKept", "(II)Z"⟩
abbrev cX7_isKeptByAll : ByteArray := prog_9_method_38_code
def yX7_isKeptByAll : MethodName := ⟨RX7, "isKeptByAll", "(I)Z"⟩
abbrev cX7_isSafe : ByteArray := prog_9_method_39_code
def yX7_isSafe : MethodName := ⟨RX7, "isSafe", "()Z"⟩
abbrev cX7_first : ByteArray := prog_9_method_40_code
def yX7_first : MethodName := ⟨RX7, "first", "(II)I"⟩
abbrev cX7_warned : ByteArray := prog_9_method_41_code
def yX7_warned : MethodName := ⟨RX7, "warned", "(II)I"⟩
abbrev cX7_safe : ByteArray := prog_9_method_42_code
def yX7_safe : MethodName := ⟨RX7, "safe", "()I"⟩
abbrev cX7_keptMany : ByteArray := prog_9_method_43_code
def yX7_keptMany : MethodName := ⟨RX7, "keptMany", "()I"⟩
abbrev cX7_warnedAll : ByteArray := prog_9_method_44_code
def yX7_warnedAll : MethodName := ⟨RX7, "warnedAll", "()I"⟩
abbrev cX7_looksWhere : ByteArray := prog_9_method_45_code
def yX7_looksWhere : MethodName := ⟨RX7, "looksWhere", "()V"⟩
abbrev cX7_lines : ByteArray := prog_9_method_46_code
def yX7_lines : MethodName := ⟨RX7, "lines", "()V"⟩
abbrev cX7_nextFor : ByteArray := prog_9_method_47_code
def yX7_nextFor : MethodName := ⟨RX7, "nextFor", "(II)I"⟩
abbrev cX7_movedBy : ByteArray := prog_9_method_48_code
def yX7_movedBy : MethodName := ⟨RX7, "movedBy", "()I"⟩
abbrev cX7_isEarlier : ByteArray := prog_9_method_49_code
def yX7_isEarlier : MethodName := ⟨RX7, "isEarlier", "()Z"⟩
abbrev cX7_moves : ByteArray := prog_9_method_50_code
def yX7_moves : MethodName := ⟨RX7, "moves", "()I"⟩
abbrev cX7_moved : ByteArray := prog_9_method_51_code
def yX7_moved : MethodName := ⟨RX7, "moved", "(I)I"⟩
abbrev cX7_raised : ByteArray := prog_9_method_52_code
def yX7_raised : MethodName := ⟨RX7, "raised", "(I)I"⟩
abbrev cX7_freed : ByteArray := prog_9_method_53_code
def yX7_freed : MethodName := ⟨RX7, "freed", "(I)J"⟩
abbrev cX7_worst : ByteArray := prog_9_method_54_code
def yX7_worst : MethodName := ⟨RX7, "worst", "()I"⟩
abbrev cX7_slowest : ByteArray := prog_9_method_55_code
def yX7_slowest : MethodName := ⟨RX7, "slowest", "(II)I"⟩
abbrev cX7_seenFrom : ByteArray := prog_9_method_56_code
def yX7_seenFrom : MethodName := ⟨RX7, "seenFrom", "(II)I"⟩
abbrev cX7_atOnce : ByteArray := prog_9_method_57_code
def yX7_atOnce : MethodName := ⟨RX7, "atOnce", "(II)I"⟩
abbrev cX7_most : ByteArray := prog_9_method_58_code
def yX7_most : MethodName := ⟨RX7, "most", "(II)I"⟩
abbrev cX7_nearest : ByteArray := prog_9_method_59_code
def yX7_nearest : MethodName := ⟨RX7, "nearest", "(II)I"⟩
abbrev cX7_shadow : ByteArray := prog_9_method_60_code
def yX7_shadow : MethodName := ⟨RX7, "shadow", "(III)I"⟩
abbrev cX7_areAlike : ByteArray := prog_9_method_61_code
def yX7_areAlike : MethodName := ⟨RX7, "areAlike", "(III)Z"⟩
abbrev cX7_alike : ByteArray := prog_9_method_62_code
def yX7_alike : MethodName := ⟨RX7, "alike", "(II)I"⟩
abbrev cX7_steepest : ByteArray := prog_9_method_63_code
def yX7_steepest : MethodName := ⟨RX7, "steepest", "(I)I"⟩
abbrev cX7_divisor : ByteArray := prog_9_method_64_code
def yX7_divisor : MethodName := ⟨RX7, "divisor", "(JJ)J"⟩
abbrev cX7_part : ByteArray := prog_9_method_65_code
def yX7_part : MethodName := ⟨RX7, "part", "(JJI)J"⟩
abbrev cX7_down : ByteArray := prog_9_method_66_code
def yX7_down : MethodName := ⟨RX7, "down", "(II)J"⟩
abbrev cX7_mean : ByteArray := prog_9_method_67_code
def yX7_mean : MethodName := ⟨RX7, "mean", "(I)J"⟩
abbrev cX7_lots : ByteArray := prog_9_method_68_code
def yX7_lots : MethodName := ⟨RX7, "lots", "(III)I"⟩
abbrev cX7_name : ByteArray := prog_9_method_69_code
def yX7_name : MethodName := ⟨RX7, "name", "(II)I"⟩
abbrev cX7_placeAt : ByteArray := prog_9_method_70_code
def yX7_placeAt : MethodName := ⟨RX7, "placeAt", "(I)I"⟩
abbrev cX7_isShelf : ByteArray := prog_9_method_71_code
def yX7_isShelf : MethodName := ⟨RX7, "isShelf", "(I)Z"⟩
abbrev cX7_empties : ByteArray := prog_9_method_72_code
def yX7_empties : MethodName := ⟨RX7, "empties", "(III)V"⟩
abbrev cX7_shelf : ByteArray := prog_9_method_73_code
def yX7_shelf : MethodName := ⟨RX7, "shelf", "(III)I"⟩
abbrev cX7_lay : ByteArray := prog_9_method_74_code
def yX7_lay : MethodName := ⟨RX7, "lay", "(II)I"⟩
abbrev cX7_barred : ByteArray := prog_9_method_75_code
def yX7_barred : MethodName := ⟨RX7, "barred", "(II)I"⟩
abbrev cX7_put : ByteArray := prog_9_method_76_code
def yX7_put : MethodName := ⟨RX7, "put", "(IIJ)I"⟩
abbrev cX7_look : ByteArray := prog_9_method_77_code
def yX7_look : MethodName := ⟨RX7, "look", "(II)J"⟩
abbrev cX7_isUnder : ByteArray := prog_9_method_78_code
def yX7_isUnder : MethodName := ⟨RX7, "isUnder", "(II)Z"⟩
abbrev cX7_taken : ByteArray := prog_9_method_79_code
def yX7_taken : MethodName := ⟨RX7, "taken", "(II)I"⟩
abbrev cX7_areTimes : ByteArray := prog_9_method_80_code
def yX7_areTimes : MethodName := ⟨RX7, "areTimes", "(IIII)Z"⟩
abbrev cX7_whatIs : ByteArray := prog_9_method_81_code
def yX7_whatIs : MethodName := ⟨RX7, "whatIs", "(III)I"⟩
abbrev cX7_judge : ByteArray := prog_9_method_82_code
def yX7_judge : MethodName := ⟨RX7, "judge", "(II)I"⟩
abbrev cX7_letter : ByteArray := prog_9_method_83_code
def yX7_letter : MethodName := ⟨RX7, "letter", "(I)I"⟩
abbrev cX7_word : ByteArray := prog_9_method_84_code
def yX7_word : MethodName := ⟨RX7, "word", "(I)Ljava/lang/String;"⟩
abbrev cX7_numbersOf : ByteArray := prog_9_method_85_code
def yX7_numbersOf : MethodName := ⟨RX7, "numbersOf", "(I)I"⟩
abbrev cX7_here : ByteArray := prog_9_method_86_code
def yX7_here : MethodName := ⟨RX7, "here", "()I"⟩
abbrev cX7_takes : ByteArray := prog_9_method_87_code
def yX7_takes : MethodName := ⟨RX7, "takes", "(I)Z"⟩
abbrev cX7_readWord : ByteArray := prog_9_method_88_code
def yX7_readWord : MethodName := ⟨RX7, "readWord", "()I"⟩
abbrev cX7_readNumber : ByteArray := prog_9_method_89_code
def yX7_readNumber : MethodName := ⟨RX7, "readNumber", "(I)Z"⟩
abbrev cX7_reads : ByteArray := prog_9_method_90_code
def yX7_reads : MethodName := ⟨RX7, "reads", "()Z"⟩
abbrev cX7_statement : ByteArray := prog_9_method_91_code
def yX7_statement : MethodName := ⟨RX7, "statement", "()I"⟩
abbrev cX7_named : ByteArray := prog_9_method_92_code
def yX7_named : MethodName := ⟨RX7, "named", "()I"⟩
abbrev cX7_places : ByteArray := prog_9_method_93_code
def yX7_places : MethodName := ⟨RX7, "places", "(I)I"⟩
abbrev cX7_does : ByteArray := prog_9_method_94_code
def yX7_does : MethodName := ⟨RX7, "does", "(I)I"⟩
abbrev cX7_tellsAll : ByteArray := prog_9_method_95_code
def yX7_tellsAll : MethodName := ⟨RX7, "tellsAll", "()I"⟩
abbrev cX7_tells : ByteArray := prog_9_method_96_code
def yX7_tells : MethodName := ⟨RX7, "tells", "()I"⟩
abbrev cX7_keeps : ByteArray := prog_9_method_97_code
def yX7_keeps : MethodName := ⟨RX7, "keeps", "([I)V"⟩
abbrev cX7_again : ByteArray := prog_9_method_98_code
def yX7_again : MethodName := ⟨RX7, "again", "([I)V"⟩
abbrev cX7_image : ByteArray := prog_9_method_99_code
def yX7_image : MethodName := ⟨RX7, "image", "()I"⟩
abbrev cX7_on : ByteArray := prog_9_method_100_code
def yX7_on : MethodName := ⟨RX7, "on", "()I"⟩
abbrev cX7_count : ByteArray := prog_9_method_101_code
def yX7_count : MethodName := ⟨RX7, "count", "(I)I"⟩
def RJ6 : String := "java/lang/Integer"
def TJ6 : u_T := fun k => match k with
  | _ => ("", "", "", false)
def tyJ6 : Nat → FieldType := fun k => match k with
  | _ => .int
abbrev wsJ60 : List Cond := u_ws RJ6 TJ6 0
theorem nmJ6 : ∀ a, a < 0 → ∀ b, b < 0 → a ≠ b → (TJ6 a).2.1 ≠ (TJ6 b).2.1 := by decide +kernel
theorem tyJ6_ok : ∀ k, k < 0 → parseFieldDescriptor (TJ6 k).2.2.1 = some (tyJ6 k) := by decide +kernel
abbrev cJ6_bitCount_0f7a4 : ByteArray := prog_10_method_49_code
def yJ6_bitCount_0f7a4 : MethodName := ⟨RJ6, "bitCount", "(I)I"⟩
def RJ9 : String := "java/lang/Math"
def TJ9 : u_T := fun k => match k with
  | _ => ("", "", "", false)
def tyJ9 : Nat → FieldType := fun k => match k with
  | _ => .int
abbrev wsJ90 : List Cond := u_ws RJ9 TJ9 0
theorem nmJ9 : ∀ a, a < 0 → ∀ b, b < 0 → a ≠ b → (TJ9 a).2.1 ≠ (TJ9 b).2.1 := by decide +kernel
theorem tyJ9_ok : ∀ k, k < 0 → parseFieldDescriptor (TJ9 k).2.2.1 = some (tyJ9 k) := by decide +kernel
abbrev cJ9_abs_0f7a4 : ByteArray := prog_11_method_59_code
def yJ9_abs_0f7a4 : MethodName := ⟨RJ9, "abs", "(I)I"⟩
abbrev cJ9_max_7cf53 : ByteArray := prog_11_method_65_code
def yJ9_max_7cf53 : MethodName := ⟨RJ9, "max", "(II)I"⟩
abbrev cJ9_min_7cf53 : ByteArray := prog_11_method_69_code
def yJ9_min_7cf53 : MethodName := ⟨RJ9, "min", "(II)I"⟩
def RJ0 : String := "java/lang/String"
def TJ0 : u_T := fun k => match k with
  | _ => ("", "", "", false)
def tyJ0 : Nat → FieldType := fun k => match k with
  | _ => .int
abbrev wsJ00 : List Cond := u_ws RJ0 TJ0 0
theorem nmJ0 : ∀ a, a < 0 → ∀ b, b < 0 → a ≠ b → (TJ0 a).2.1 ≠ (TJ0 b).2.1 := by decide +kernel
theorem tyJ0_ok : ∀ k, k < 0 → parseFieldDescriptor (TJ0 k).2.2.1 = some (tyJ0 k) := by decide +kernel
abbrev cJ0_length_8abf5 : ByteArray := prog_12_method_54_code
def yJ0_length_8abf5 : MethodName := ⟨RJ0, "length", "()I"⟩
abbrev cJ0_charAt_5068e : ByteArray := prog_12_method_56_code
def yJ0_charAt_5068e : MethodName := ⟨RJ0, "charAt", "(I)C"⟩
abbrev cJ0_coder_7d493 : ByteArray := prog_12_method_152_code
def yJ0_coder_7d493 : MethodName := ⟨RJ0, "coder", "()B"⟩
abbrev cJ0_isLatin1_aae02 : ByteArray := prog_12_method_154_code
def yJ0_isLatin1_aae02 : MethodName := ⟨RJ0, "isLatin1", "()Z"⟩
abbrev cJ0_checkIndex_df160 : ByteArray := prog_12_method_155_code
def yJ0_checkIndex_df160 : MethodName := ⟨RJ0, "checkIndex", "(II)V"⟩
def RJ1 : String := "java/lang/StringLatin1"
def TJ1 : u_T := fun k => match k with
  | _ => ("", "", "", false)
def tyJ1 : Nat → FieldType := fun k => match k with
  | _ => .int
abbrev wsJ10 : List Cond := u_ws RJ1 TJ1 0
theorem nmJ1 : ∀ a, a < 0 → ∀ b, b < 0 → a ≠ b → (TJ1 a).2.1 ≠ (TJ1 b).2.1 := by decide +kernel
theorem tyJ1_ok : ∀ k, k < 0 → parseFieldDescriptor (TJ1 k).2.2.1 = some (tyJ1 k) := by decide +kernel
abbrev cJ1_charAt_3b067 : ByteArray := prog_13_method_2_code
def yJ1_charAt_3b067 : MethodName := ⟨RJ1, "charAt", "([BI)C"⟩
def RJ2 : String := "java/lang/StringUTF16"
def TJ2 : u_T := fun k => match k with
  | _ => ("", "", "", false)
def tyJ2 : Nat → FieldType := fun k => match k with
  | _ => .int
abbrev wsJ20 : List Cond := u_ws RJ2 TJ2 0
theorem nmJ2 : ∀ a, a < 0 → ∀ b, b < 0 → a ≠ b → (TJ2 a).2.1 ≠ (TJ2 b).2.1 := by decide +kernel
theorem tyJ2_ok : ∀ k, k < 0 → parseFieldDescriptor (TJ2 k).2.2.1 = some (tyJ2 k) := by decide +kernel
abbrev cJ2_getChar_3b067 : ByteArray := prog_14_method_5_code
def yJ2_getChar_3b067 : MethodName := ⟨RJ2, "getChar", "([BI)C"⟩
abbrev cJ2_length_9d52b : ByteArray := prog_14_method_6_code
def yJ2_length_9d52b : MethodName := ⟨RJ2, "length", "([B)I"⟩
abbrev cJ2_charAt_3b067 : ByteArray := prog_14_method_83_code
def yJ2_charAt_3b067 : MethodName := ⟨RJ2, "charAt", "([BI)C"⟩
abbrev cJ2_checkIndex_2214a : ByteArray := prog_14_method_91_code
def yJ2_checkIndex_2214a : MethodName := ⟨RJ2, "checkIndex", "(I[B)V"⟩
def RJ10 : String := "java/lang/System"
def TJ10 : u_T := fun k => match k with
  | _ => ("", "", "", false)
def tyJ10 : Nat → FieldType := fun k => match k with
  | _ => .int
abbrev wsJ100 : List Cond := u_ws RJ10 TJ10 0
theorem nmJ10 : ∀ a, a < 0 → ∀ b, b < 0 → a ≠ b → (TJ10 a).2.1 ≠ (TJ10 b).2.1 := by decide +kernel
theorem tyJ10_ok : ∀ k, k < 0 → parseFieldDescriptor (TJ10 k).2.2.1 = some (tyJ10 k) := by decide +kernel
def RJ3 : String := "jdk/internal/util/Preconditions"
def TJ3 : u_T := fun k => match k with
  | _ => ("", "", "", false)
def tyJ3 : Nat → FieldType := fun k => match k with
  | _ => .int
abbrev wsJ30 : List Cond := u_ws RJ3 TJ3 0
theorem nmJ3 : ∀ a, a < 0 → ∀ b, b < 0 → a ≠ b → (TJ3 a).2.1 ≠ (TJ3 b).2.1 := by decide +kernel
theorem tyJ3_ok : ∀ k, k < 0 → parseFieldDescriptor (TJ3 k).2.2.1 = some (tyJ3 k) := by decide +kernel
abbrev cJ3_checkIndex_8e157 : ByteArray := prog_16_method_11_code
def yJ3_checkIndex_8e157 : MethodName := ⟨RJ3, "checkIndex", "(IILjava/util/function/BiFunction;)I"⟩
def RL : String := "SignalsSightedLaw"
abbrev cL_law : ByteArray := code
def yL_law : MethodName := ⟨RL, "law", "([I)Z"⟩
