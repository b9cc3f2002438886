section
-- ===== PART A: goes FIRST, ahead of the names: the tables' words, and 'selects' of the private methods out of them =====
/-- a private method of a class that the tables say can be made, by its rows of tables_1 -/
def lw_okq (q : MethodName × Nat) : Prop := (q.1.cls ≠ "java/lang/invoke/MethodHandle" ∧ q.1.cls ≠ "java/lang/invoke/VarHandle") ∧ Cond.instantiable q.1.cls q.2 ∈ tables_1 ∧ Cond.privateMethod q.1 ∈ tables_1 ∧ Cond.instanceMethod q.1 ∈ tables_1
theorem lw_p0 : lw_okq (⟨"HasteRoads$Text", "passBlanks", "()V"⟩, 6) := ⟨⟨by decide +kernel, by decide +kernel⟩, List.mem_of_getElem? (i := 126) (by decide +kernel), List.mem_of_getElem? (i := 313) (by decide +kernel), List.mem_of_getElem? (i := 314) (by decide +kernel)⟩
theorem lw_p1 : lw_okq (⟨"HasteRoads$Text", "tellClause", "(LHasteRoads$World;)V"⟩, 6) := ⟨⟨by decide +kernel, by decide +kernel⟩, List.mem_of_getElem? (i := 126) (by decide +kernel), List.mem_of_getElem? (i := 317) (by decide +kernel), List.mem_of_getElem? (i := 318) (by decide +kernel)⟩
theorem lw_p2 : lw_okq (⟨"HasteRoads$Text", "tellPlace", "(LHasteRoads$World;I)V"⟩, 6) := ⟨⟨by decide +kernel, by decide +kernel⟩, List.mem_of_getElem? (i := 126) (by decide +kernel), List.mem_of_getElem? (i := 321) (by decide +kernel), List.mem_of_getElem? (i := 322) (by decide +kernel)⟩
theorem lw_p3 : lw_okq (⟨"HasteRoads$Text", "blame", "(II)V"⟩, 6) := ⟨⟨by decide +kernel, by decide +kernel⟩, List.mem_of_getElem? (i := 126) (by decide +kernel), List.mem_of_getElem? (i := 325) (by decide +kernel), List.mem_of_getElem? (i := 326) (by decide +kernel)⟩
theorem lw_p4 : lw_okq (⟨"HasteRoads$Text", "number", "(II)I"⟩, 6) := ⟨⟨by decide +kernel, by decide +kernel⟩, List.mem_of_getElem? (i := 126) (by decide +kernel), List.mem_of_getElem? (i := 329) (by decide +kernel), List.mem_of_getElem? (i := 330) (by decide +kernel)⟩
theorem lw_p5 : lw_okq (⟨"HasteRoads$Text", "tellRoad", "(LHasteRoads$World;I)V"⟩, 6) := ⟨⟨by decide +kernel, by decide +kernel⟩, List.mem_of_getElem? (i := 126) (by decide +kernel), List.mem_of_getElem? (i := 340) (by decide +kernel), List.mem_of_getElem? (i := 341) (by decide +kernel)⟩
theorem lw_p6 : lw_okq (⟨"HasteRoads$Text", "tellPerson", "(LHasteRoads$World;I)V"⟩, 6) := ⟨⟨by decide +kernel, by decide +kernel⟩, List.mem_of_getElem? (i := 126) (by decide +kernel), List.mem_of_getElem? (i := 344) (by decide +kernel), List.mem_of_getElem? (i := 345) (by decide +kernel)⟩
theorem lw_p7 : lw_okq (⟨"HasteRoads$Text", "tellClock", "(LHasteRoads$World;)V"⟩, 6) := ⟨⟨by decide +kernel, by decide +kernel⟩, List.mem_of_getElem? (i := 126) (by decide +kernel), List.mem_of_getElem? (i := 348) (by decide +kernel), List.mem_of_getElem? (i := 349) (by decide +kernel)⟩
theorem lw_p8 : lw_okq (⟨"HasteRoads$Text", "passEnd", "()V"⟩, 6) := ⟨⟨by decide +kernel, by decide +kernel⟩, List.mem_of_getElem? (i := 126) (by decide +kernel), List.mem_of_getElem? (i := 352) (by decide +kernel), List.mem_of_getElem? (i := 353) (by decide +kernel)⟩
theorem lw_p9 : lw_okq (⟨"HasteRoads$World", "draw", "(I)I"⟩, 16) := ⟨⟨by decide +kernel, by decide +kernel⟩, List.mem_of_getElem? (i := 22) (by decide +kernel), List.mem_of_getElem? (i := 478) (by decide +kernel), List.mem_of_getElem? (i := 479) (by decide +kernel)⟩
theorem lw_p10 : lw_okq (⟨"HasteRoads$World", "waysFrom", "(I)I"⟩, 16) := ⟨⟨by decide +kernel, by decide +kernel⟩, List.mem_of_getElem? (i := 22) (by decide +kernel), List.mem_of_getElem? (i := 487) (by decide +kernel), List.mem_of_getElem? (i := 488) (by decide +kernel)⟩
theorem lw_p11 : lw_okq (⟨"HasteRoads$World", "roadOfWay", "(II)I"⟩, 16) := ⟨⟨by decide +kernel, by decide +kernel⟩, List.mem_of_getElem? (i := 22) (by decide +kernel), List.mem_of_getElem? (i := 492) (by decide +kernel), List.mem_of_getElem? (i := 493) (by decide +kernel)⟩
theorem lw_p12 : lw_okq (⟨"HasteRoads$Search", "settleLayer", "(IIII)V"⟩, 5) := ⟨⟨by decide +kernel, by decide +kernel⟩, List.mem_of_getElem? (i := 154) (by decide +kernel), List.mem_of_getElem? (i := 510) (by decide +kernel), List.mem_of_getElem? (i := 511) (by decide +kernel)⟩
theorem lw_p13 : lw_okq (⟨"HasteRoads$Search", "nearest", "(I)I"⟩, 5) := ⟨⟨by decide +kernel, by decide +kernel⟩, List.mem_of_getElem? (i := 154) (by decide +kernel), List.mem_of_getElem? (i := 514) (by decide +kernel), List.mem_of_getElem? (i := 515) (by decide +kernel)⟩
theorem lw_p14 : lw_okq (⟨"HasteRoads$Search", "spread", "(IIII)V"⟩, 5) := ⟨⟨by decide +kernel, by decide +kernel⟩, List.mem_of_getElem? (i := 154) (by decide +kernel), List.mem_of_getElem? (i := 518) (by decide +kernel), List.mem_of_getElem? (i := 519) (by decide +kernel)⟩
theorem lw_p15 : lw_okq (⟨"HasteRoads$Search", "reach", "(IIII)V"⟩, 5) := ⟨⟨by decide +kernel, by decide +kernel⟩, List.mem_of_getElem? (i := 154) (by decide +kernel), List.mem_of_getElem? (i := 523) (by decide +kernel), List.mem_of_getElem? (i := 524) (by decide +kernel)⟩
def lw_privs_1 : List (MethodName × Nat) := [(⟨"HasteRoads$Text", "passBlanks", "()V"⟩, 6), (⟨"HasteRoads$Text", "tellClause", "(LHasteRoads$World;)V"⟩, 6), (⟨"HasteRoads$Text", "tellPlace", "(LHasteRoads$World;I)V"⟩, 6), (⟨"HasteRoads$Text", "blame", "(II)V"⟩, 6), (⟨"HasteRoads$Text", "number", "(II)I"⟩, 6), (⟨"HasteRoads$Text", "tellRoad", "(LHasteRoads$World;I)V"⟩, 6), (⟨"HasteRoads$Text", "tellPerson", "(LHasteRoads$World;I)V"⟩, 6), (⟨"HasteRoads$Text", "tellClock", "(LHasteRoads$World;)V"⟩, 6), (⟨"HasteRoads$Text", "passEnd", "()V"⟩, 6), (⟨"HasteRoads$World", "draw", "(I)I"⟩, 16), (⟨"HasteRoads$World", "waysFrom", "(I)I"⟩, 16), (⟨"HasteRoads$World", "roadOfWay", "(II)I"⟩, 16), (⟨"HasteRoads$Search", "settleLayer", "(IIII)V"⟩, 5), (⟨"HasteRoads$Search", "nearest", "(I)I"⟩, 5), (⟨"HasteRoads$Search", "spread", "(IIII)V"⟩, 5), (⟨"HasteRoads$Search", "reach", "(IIII)V"⟩, 5)]
theorem lw_r1 : ∀ q ∈ lw_privs_1, lw_okq q := List.forall_mem_cons.mpr ⟨lw_p0, List.forall_mem_cons.mpr ⟨lw_p1, List.forall_mem_cons.mpr ⟨lw_p2, List.forall_mem_cons.mpr ⟨lw_p3, List.forall_mem_cons.mpr ⟨lw_p4, List.forall_mem_cons.mpr ⟨lw_p5, List.forall_mem_cons.mpr ⟨lw_p6, List.forall_mem_cons.mpr ⟨lw_p7, List.forall_mem_cons.mpr ⟨lw_p8, List.forall_mem_cons.mpr ⟨lw_p9, List.forall_mem_cons.mpr ⟨lw_p10, List.forall_mem_cons.mpr ⟨lw_p11, List.forall_mem_cons.mpr ⟨lw_p12, List.forall_mem_cons.mpr ⟨lw_p13, List.forall_mem_cons.mpr ⟨lw_p14, List.forall_mem_cons.mpr ⟨lw_p15, fun _ h => absurd h List.not_mem_nil⟩⟩⟩⟩⟩⟩⟩⟩⟩⟩⟩⟩⟩⟩⟩⟩
theorem lw_p16 : lw_okq (⟨"HasteRoads$Search", "lastUnsettled", "()I"⟩, 5) := ⟨⟨by decide +kernel, by decide +kernel⟩, List.mem_of_getElem? (i := 154) (by decide +kernel), List.mem_of_getElem? (i := 554) (by decide +kernel), List.mem_of_getElem? (i := 555) (by decide +kernel)⟩
theorem lw_p17 : lw_okq (⟨"HasteRoads$Search", "spreadBack", "(II)V"⟩, 5) := ⟨⟨by decide +kernel, by decide +kernel⟩, List.mem_of_getElem? (i := 154) (by decide +kernel), List.mem_of_getElem? (i := 558) (by decide +kernel), List.mem_of_getElem? (i := 559) (by decide +kernel)⟩
theorem lw_p18 : lw_okq (⟨"HasteRoads$Search", "reachBack", "(III)V"⟩, 5) := ⟨⟨by decide +kernel, by decide +kernel⟩, List.mem_of_getElem? (i := 154) (by decide +kernel), List.mem_of_getElem? (i := 562) (by decide +kernel), List.mem_of_getElem? (i := 563) (by decide +kernel)⟩
theorem lw_p19 : lw_okq (⟨"HasteRoads$Search", "leavesBy", "(IIIII)I"⟩, 5) := ⟨⟨by decide +kernel, by decide +kernel⟩, List.mem_of_getElem? (i := 154) (by decide +kernel), List.mem_of_getElem? (i := 566) (by decide +kernel), List.mem_of_getElem? (i := 567) (by decide +kernel)⟩
theorem lw_p20 : lw_okq (⟨"HasteRoads$Search", "firstStep", "(I)I"⟩, 5) := ⟨⟨by decide +kernel, by decide +kernel⟩, List.mem_of_getElem? (i := 154) (by decide +kernel), List.mem_of_getElem? (i := 571) (by decide +kernel), List.mem_of_getElem? (i := 572) (by decide +kernel)⟩
theorem lw_p21 : lw_okq (⟨"HasteRoads", "fewestInns", "()I"⟩, 11) := ⟨⟨by decide +kernel, by decide +kernel⟩, List.mem_of_getElem? (i := 14) (by decide +kernel), List.mem_of_getElem? (i := 592) (by decide +kernel), List.mem_of_getElem? (i := 593) (by decide +kernel)⟩
theorem lw_p22 : lw_okq (⟨"HasteRoads", "allInTimeWith", "(I)Z"⟩, 11) := ⟨⟨by decide +kernel, by decide +kernel⟩, List.mem_of_getElem? (i := 14) (by decide +kernel), List.mem_of_getElem? (i := 600) (by decide +kernel), List.mem_of_getElem? (i := 601) (by decide +kernel)⟩
theorem lw_p23 : lw_okq (⟨"HasteRoads$Message", "nearest", "()I"⟩, 5) := ⟨⟨by decide +kernel, by decide +kernel⟩, List.mem_of_getElem? (i := 176) (by decide +kernel), List.mem_of_getElem? (i := 619) (by decide +kernel), List.mem_of_getElem? (i := 620) (by decide +kernel)⟩
theorem lw_p24 : lw_okq (⟨"HasteRoads$Message", "takeOn", "(II)V"⟩, 5) := ⟨⟨by decide +kernel, by decide +kernel⟩, List.mem_of_getElem? (i := 176) (by decide +kernel), List.mem_of_getElem? (i := 623) (by decide +kernel), List.mem_of_getElem? (i := 624) (by decide +kernel)⟩
theorem lw_p25 : lw_okq (⟨"HasteRoads$Chase", "begin", "(LHasteRoads$World;)V"⟩, 3) := ⟨⟨by decide +kernel, by decide +kernel⟩, List.mem_of_getElem? (i := 198) (by decide +kernel), List.mem_of_getElem? (i := 668) (by decide +kernel), List.mem_of_getElem? (i := 669) (by decide +kernel)⟩
theorem lw_p26 : lw_okq (⟨"HasteRoads$Chase", "lookOn", "(I)V"⟩, 3) := ⟨⟨by decide +kernel, by decide +kernel⟩, List.mem_of_getElem? (i := 198) (by decide +kernel), List.mem_of_getElem? (i := 672) (by decide +kernel), List.mem_of_getElem? (i := 673) (by decide +kernel)⟩
theorem lw_p27 : lw_okq (⟨"HasteRoadsModel", "advances", "()V"⟩, 39) := ⟨⟨by decide +kernel, by decide +kernel⟩, List.mem_of_getElem? (i := 742) (by decide +kernel), List.mem_of_getElem? (i := 879) (by decide +kernel), List.mem_of_getElem? (i := 880) (by decide +kernel)⟩
theorem lw_p28 : lw_okq (⟨"HasteRoadsModel", "letterAt", "(I)I"⟩, 39) := ⟨⟨by decide +kernel, by decide +kernel⟩, List.mem_of_getElem? (i := 742) (by decide +kernel), List.mem_of_getElem? (i := 883) (by decide +kernel), List.mem_of_getElem? (i := 884) (by decide +kernel)⟩
theorem lw_p29 : lw_okq (⟨"HasteRoadsModel", "isWell", "()Z"⟩, 39) := ⟨⟨by decide +kernel, by decide +kernel⟩, List.mem_of_getElem? (i := 742) (by decide +kernel), List.mem_of_getElem? (i := 887) (by decide +kernel), List.mem_of_getElem? (i := 888) (by decide +kernel)⟩
theorem lw_p30 : lw_okq (⟨"HasteRoadsModel", "fails", "(I)V"⟩, 39) := ⟨⟨by decide +kernel, by decide +kernel⟩, List.mem_of_getElem? (i := 742) (by decide +kernel), List.mem_of_getElem? (i := 891) (by decide +kernel), List.mem_of_getElem? (i := 892) (by decide +kernel)⟩
theorem lw_p31 : lw_okq (⟨"HasteRoadsModel", "isFull", "()Z"⟩, 39) := ⟨⟨by decide +kernel, by decide +kernel⟩, List.mem_of_getElem? (i := 742) (by decide +kernel), List.mem_of_getElem? (i := 895) (by decide +kernel), List.mem_of_getElem? (i := 896) (by decide +kernel)⟩
def lw_privs_2 : List (MethodName × Nat) := [(⟨"HasteRoads$Search", "lastUnsettled", "()I"⟩, 5), (⟨"HasteRoads$Search", "spreadBack", "(II)V"⟩, 5), (⟨"HasteRoads$Search", "reachBack", "(III)V"⟩, 5), (⟨"HasteRoads$Search", "leavesBy", "(IIIII)I"⟩, 5), (⟨"HasteRoads$Search", "firstStep", "(I)I"⟩, 5), (⟨"HasteRoads", "fewestInns", "()I"⟩, 11), (⟨"HasteRoads", "allInTimeWith", "(I)Z"⟩, 11), (⟨"HasteRoads$Message", "nearest", "()I"⟩, 5), (⟨"HasteRoads$Message", "takeOn", "(II)V"⟩, 5), (⟨"HasteRoads$Chase", "begin", "(LHasteRoads$World;)V"⟩, 3), (⟨"HasteRoads$Chase", "lookOn", "(I)V"⟩, 3), (⟨"HasteRoadsModel", "advances", "()V"⟩, 39), (⟨"HasteRoadsModel", "letterAt", "(I)I"⟩, 39), (⟨"HasteRoadsModel", "isWell", "()Z"⟩, 39), (⟨"HasteRoadsModel", "fails", "(I)V"⟩, 39), (⟨"HasteRoadsModel", "isFull", "()Z"⟩, 39)]
theorem lw_r2 : ∀ q ∈ lw_privs_2, lw_okq q := List.forall_mem_cons.mpr ⟨lw_p16, List.forall_mem_cons.mpr ⟨lw_p17, List.forall_mem_cons.mpr ⟨lw_p18, List.forall_mem_cons.mpr ⟨lw_p19, List.forall_mem_cons.mpr ⟨lw_p20, List.forall_mem_cons.mpr ⟨lw_p21, List.forall_mem_cons.mpr ⟨lw_p22, List.forall_mem_cons.mpr ⟨lw_p23, List.forall_mem_cons.mpr ⟨lw_p24, List.forall_mem_cons.mpr ⟨lw_p25, List.forall_mem_cons.mpr ⟨lw_p26, List.forall_mem_cons.mpr ⟨lw_p27, List.forall_mem_cons.mpr ⟨lw_p28, List.forall_mem_cons.mpr ⟨lw_p29, List.forall_mem_cons.mpr ⟨lw_p30, List.forall_mem_cons.mpr ⟨lw_p31, fun _ h => absurd h List.not_mem_nil⟩⟩⟩⟩⟩⟩⟩⟩⟩⟩⟩⟩⟩⟩⟩⟩
theorem lw_p32 : lw_okq (⟨"HasteRoadsModel", "clause", "(I)V"⟩, 39) := ⟨⟨by decide +kernel, by decide +kernel⟩, List.mem_of_getElem? (i := 742) (by decide +kernel), List.mem_of_getElem? (i := 899) (by decide +kernel), List.mem_of_getElem? (i := 900) (by decide +kernel)⟩
theorem lw_p33 : lw_okq (⟨"HasteRoadsModel", "number", "(IIIZ)I"⟩, 39) := ⟨⟨by decide +kernel, by decide +kernel⟩, List.mem_of_getElem? (i := 742) (by decide +kernel), List.mem_of_getElem? (i := 903) (by decide +kernel), List.mem_of_getElem? (i := 904) (by decide +kernel)⟩
theorem lw_p34 : lw_okq (⟨"HasteRoadsModel", "spot", "()I"⟩, 39) := ⟨⟨by decide +kernel, by decide +kernel⟩, List.mem_of_getElem? (i := 742) (by decide +kernel), List.mem_of_getElem? (i := 907) (by decide +kernel), List.mem_of_getElem? (i := 908) (by decide +kernel)⟩
theorem lw_p35 : lw_okq (⟨"HasteRoadsModel", "ends", "()V"⟩, 39) := ⟨⟨by decide +kernel, by decide +kernel⟩, List.mem_of_getElem? (i := 742) (by decide +kernel), List.mem_of_getElem? (i := 911) (by decide +kernel), List.mem_of_getElem? (i := 912) (by decide +kernel)⟩
theorem lw_p36 : lw_okq (⟨"HasteRoadsModel", "settles", "()V"⟩, 39) := ⟨⟨by decide +kernel, by decide +kernel⟩, List.mem_of_getElem? (i := 742) (by decide +kernel), List.mem_of_getElem? (i := 915) (by decide +kernel), List.mem_of_getElem? (i := 916) (by decide +kernel)⟩
theorem lw_p37 : lw_okq (⟨"HasteRoadsModel", "isRoad", "(I)Z"⟩, 39) := ⟨⟨by decide +kernel, by decide +kernel⟩, List.mem_of_getElem? (i := 742) (by decide +kernel), List.mem_of_getElem? (i := 931) (by decide +kernel), List.mem_of_getElem? (i := 932) (by decide +kernel)⟩
theorem lw_p38 : lw_okq (⟨"HasteRoadsModel", "isPerson", "(I)Z"⟩, 39) := ⟨⟨by decide +kernel, by decide +kernel⟩, List.mem_of_getElem? (i := 742) (by decide +kernel), List.mem_of_getElem? (i := 940) (by decide +kernel), List.mem_of_getElem? (i := 941) (by decide +kernel)⟩
theorem lw_p39 : lw_okq (⟨"HasteRoadsModel", "hurry", "([IIIII)I"⟩, 39) := ⟨⟨by decide +kernel, by decide +kernel⟩, List.mem_of_getElem? (i := 742) (by decide +kernel), List.mem_of_getElem? (i := 944) (by decide +kernel), List.mem_of_getElem? (i := 945) (by decide +kernel)⟩
theorem lw_p40 : lw_okq (⟨"HasteRoadsModel", "due", "(I)I"⟩, 39) := ⟨⟨by decide +kernel, by decide +kernel⟩, List.mem_of_getElem? (i := 742) (by decide +kernel), List.mem_of_getElem? (i := 948) (by decide +kernel), List.mem_of_getElem? (i := 949) (by decide +kernel)⟩
theorem lw_p41 : lw_okq (⟨"HasteRoadsModel", "isPlace", "(I)Z"⟩, 39) := ⟨⟨by decide +kernel, by decide +kernel⟩, List.mem_of_getElem? (i := 742) (by decide +kernel), List.mem_of_getElem? (i := 956) (by decide +kernel), List.mem_of_getElem? (i := 957) (by decide +kernel)⟩
theorem lw_p42 : lw_okq (⟨"HasteRoadsModel", "otherEnd", "(II)I"⟩, 39) := ⟨⟨by decide +kernel, by decide +kernel⟩, List.mem_of_getElem? (i := 742) (by decide +kernel), List.mem_of_getElem? (i := 961) (by decide +kernel), List.mem_of_getElem? (i := 962) (by decide +kernel)⟩
theorem lw_p43 : lw_okq (⟨"HasteRoadsModel", "time", "([IIIIII)I"⟩, 39) := ⟨⟨by decide +kernel, by decide +kernel⟩, List.mem_of_getElem? (i := 742) (by decide +kernel), List.mem_of_getElem? (i := 966) (by decide +kernel), List.mem_of_getElem? (i := 967) (by decide +kernel)⟩
theorem lw_p44 : lw_okq (⟨"HasteRoadsModel", "goes", "([IIII)V"⟩, 39) := ⟨⟨by decide +kernel, by decide +kernel⟩, List.mem_of_getElem? (i := 742) (by decide +kernel), List.mem_of_getElem? (i := 975) (by decide +kernel), List.mem_of_getElem? (i := 976) (by decide +kernel)⟩
theorem lw_p45 : lw_okq (⟨"HasteRoadsModel", "puts", "(IIZ)I"⟩, 39) := ⟨⟨by decide +kernel, by decide +kernel⟩, List.mem_of_getElem? (i := 742) (by decide +kernel), List.mem_of_getElem? (i := 994) (by decide +kernel), List.mem_of_getElem? (i := 995) (by decide +kernel)⟩
theorem lw_p46 : lw_okq (⟨"HasteRoadsModel", "draw", "(I)I"⟩, 39) := ⟨⟨by decide +kernel, by decide +kernel⟩, List.mem_of_getElem? (i := 742) (by decide +kernel), List.mem_of_getElem? (i := 1010) (by decide +kernel), List.mem_of_getElem? (i := 1011) (by decide +kernel)⟩
theorem lw_p47 : lw_okq (⟨"HasteRoadsModel", "roadsFrom", "(I)I"⟩, 39) := ⟨⟨by decide +kernel, by decide +kernel⟩, List.mem_of_getElem? (i := 742) (by decide +kernel), List.mem_of_getElem? (i := 1017) (by decide +kernel), List.mem_of_getElem? (i := 1018) (by decide +kernel)⟩
def lw_privs_3 : List (MethodName × Nat) := [(⟨"HasteRoadsModel", "clause", "(I)V"⟩, 39), (⟨"HasteRoadsModel", "number", "(IIIZ)I"⟩, 39), (⟨"HasteRoadsModel", "spot", "()I"⟩, 39), (⟨"HasteRoadsModel", "ends", "()V"⟩, 39), (⟨"HasteRoadsModel", "settles", "()V"⟩, 39), (⟨"HasteRoadsModel", "isRoad", "(I)Z"⟩, 39), (⟨"HasteRoadsModel", "isPerson", "(I)Z"⟩, 39), (⟨"HasteRoadsModel", "hurry", "([IIIII)I"⟩, 39), (⟨"HasteRoadsModel", "due", "(I)I"⟩, 39), (⟨"HasteRoadsModel", "isPlace", "(I)Z"⟩, 39), (⟨"HasteRoadsModel", "otherEnd", "(II)I"⟩, 39), (⟨"HasteRoadsModel", "time", "([IIIIII)I"⟩, 39), (⟨"HasteRoadsModel", "goes", "([IIII)V"⟩, 39), (⟨"HasteRoadsModel", "puts", "(IIZ)I"⟩, 39), (⟨"HasteRoadsModel", "draw", "(I)I"⟩, 39), (⟨"HasteRoadsModel", "roadsFrom", "(I)I"⟩, 39)]
theorem lw_r3 : ∀ q ∈ lw_privs_3, lw_okq q := List.forall_mem_cons.mpr ⟨lw_p32, List.forall_mem_cons.mpr ⟨lw_p33, List.forall_mem_cons.mpr ⟨lw_p34, List.forall_mem_cons.mpr ⟨lw_p35, List.forall_mem_cons.mpr ⟨lw_p36, List.forall_mem_cons.mpr ⟨lw_p37, List.forall_mem_cons.mpr ⟨lw_p38, List.forall_mem_cons.mpr ⟨lw_p39, List.forall_mem_cons.mpr ⟨lw_p40, List.forall_mem_cons.mpr ⟨lw_p41, List.forall_mem_cons.mpr ⟨lw_p42, List.forall_mem_cons.mpr ⟨lw_p43, List.forall_mem_cons.mpr ⟨lw_p44, List.forall_mem_cons.mpr ⟨lw_p45, List.forall_mem_cons.mpr ⟨lw_p46, List.forall_mem_cons.mpr ⟨lw_p47, fun _ h => absurd h List.not_mem_nil⟩⟩⟩⟩⟩⟩⟩⟩⟩⟩⟩⟩⟩⟩⟩⟩
theorem lw_p48 : lw_okq (⟨"HasteRoadsModel", "roadFrom", "(II)I"⟩, 39) := ⟨⟨by decide +kernel, by decide +kernel⟩, List.mem_of_getElem? (i := 742) (by decide +kernel), List.mem_of_getElem? (i := 1021) (by decide +kernel), List.mem_of_getElem? (i := 1022) (by decide +kernel)⟩
theorem lw_p49 : lw_okq (⟨"HasteRoadsModel", "asNow", "()V"⟩, 39) := ⟨⟨by decide +kernel, by decide +kernel⟩, List.mem_of_getElem? (i := 742) (by decide +kernel), List.mem_of_getElem? (i := 1029) (by decide +kernel), List.mem_of_getElem? (i := 1030) (by decide +kernel)⟩
theorem lw_p50 : lw_okq (⟨"HasteRoadsModel", "soonestOf", "(II)I"⟩, 39) := ⟨⟨by decide +kernel, by decide +kernel⟩, List.mem_of_getElem? (i := 742) (by decide +kernel), List.mem_of_getElem? (i := 1033) (by decide +kernel), List.mem_of_getElem? (i := 1034) (by decide +kernel)⟩
theorem lw_p51 : lw_okq (⟨"HasteRoadsModel", "spreads", "(IIII)V"⟩, 39) := ⟨⟨by decide +kernel, by decide +kernel⟩, List.mem_of_getElem? (i := 742) (by decide +kernel), List.mem_of_getElem? (i := 1037) (by decide +kernel), List.mem_of_getElem? (i := 1038) (by decide +kernel)⟩
theorem lw_p52 : lw_okq (⟨"HasteRoadsModel", "comes", "(II)V"⟩, 39) := ⟨⟨by decide +kernel, by decide +kernel⟩, List.mem_of_getElem? (i := 742) (by decide +kernel), List.mem_of_getElem? (i := 1042) (by decide +kernel), List.mem_of_getElem? (i := 1043) (by decide +kernel)⟩
theorem lw_p53 : lw_okq (⟨"HasteRoadsModel", "nextNode", "()I"⟩, 39) := ⟨⟨by decide +kernel, by decide +kernel⟩, List.mem_of_getElem? (i := 742) (by decide +kernel), List.mem_of_getElem? (i := 1046) (by decide +kernel), List.mem_of_getElem? (i := 1047) (by decide +kernel)⟩
theorem lw_p54 : lw_okq (⟨"HasteRoadsModel", "soonestAt", "(I)I"⟩, 39) := ⟨⟨by decide +kernel, by decide +kernel⟩, List.mem_of_getElem? (i := 742) (by decide +kernel), List.mem_of_getElem? (i := 1050) (by decide +kernel), List.mem_of_getElem? (i := 1051) (by decide +kernel)⟩
theorem lw_p55 : lw_okq (⟨"HasteRoadsModel", "errand", "(I)I"⟩, 39) := ⟨⟨by decide +kernel, by decide +kernel⟩, List.mem_of_getElem? (i := 742) (by decide +kernel), List.mem_of_getElem? (i := 1061) (by decide +kernel), List.mem_of_getElem? (i := 1062) (by decide +kernel)⟩
theorem lw_p56 : lw_okq (⟨"HasteRoadsModel", "nextStep", "(II)I"⟩, 39) := ⟨⟨by decide +kernel, by decide +kernel⟩, List.mem_of_getElem? (i := 742) (by decide +kernel), List.mem_of_getElem? (i := 1065) (by decide +kernel), List.mem_of_getElem? (i := 1066) (by decide +kernel)⟩
theorem lw_p57 : lw_okq (⟨"HasteRoadsModel", "isStep", "(III)Z"⟩, 39) := ⟨⟨by decide +kernel, by decide +kernel⟩, List.mem_of_getElem? (i := 742) (by decide +kernel), List.mem_of_getElem? (i := 1069) (by decide +kernel), List.mem_of_getElem? (i := 1070) (by decide +kernel)⟩
theorem lw_p58 : lw_okq (⟨"HasteRoadsModel", "saves", "()V"⟩, 39) := ⟨⟨by decide +kernel, by decide +kernel⟩, List.mem_of_getElem? (i := 742) (by decide +kernel), List.mem_of_getElem? (i := 1073) (by decide +kernel), List.mem_of_getElem? (i := 1074) (by decide +kernel)⟩
theorem lw_p59 : lw_okq (⟨"HasteRoadsModel", "restores", "()V"⟩, 39) := ⟨⟨by decide +kernel, by decide +kernel⟩, List.mem_of_getElem? (i := 742) (by decide +kernel), List.mem_of_getElem? (i := 1077) (by decide +kernel), List.mem_of_getElem? (i := 1078) (by decide +kernel)⟩
theorem lw_p60 : lw_okq (⟨"HasteRoadsModel", "areInTime", "()Z"⟩, 39) := ⟨⟨by decide +kernel, by decide +kernel⟩, List.mem_of_getElem? (i := 742) (by decide +kernel), List.mem_of_getElem? (i := 1092) (by decide +kernel), List.mem_of_getElem? (i := 1093) (by decide +kernel)⟩
theorem lw_p61 : lw_okq (⟨"HasteRoadsModel", "carries", "(II)V"⟩, 39) := ⟨⟨by decide +kernel, by decide +kernel⟩, List.mem_of_getElem? (i := 742) (by decide +kernel), List.mem_of_getElem? (i := 1100) (by decide +kernel), List.mem_of_getElem? (i := 1101) (by decide +kernel)⟩
theorem lw_p62 : lw_okq (⟨"HasteRoadsModel", "nextPlace", "()I"⟩, 39) := ⟨⟨by decide +kernel, by decide +kernel⟩, List.mem_of_getElem? (i := 742) (by decide +kernel), List.mem_of_getElem? (i := 1104) (by decide +kernel), List.mem_of_getElem? (i := 1105) (by decide +kernel)⟩
theorem lw_p63 : lw_okq (⟨"HasteRoadsModel", "together", "()I"⟩, 39) := ⟨⟨by decide +kernel, by decide +kernel⟩, List.mem_of_getElem? (i := 742) (by decide +kernel), List.mem_of_getElem? (i := 1116) (by decide +kernel), List.mem_of_getElem? (i := 1117) (by decide +kernel)⟩
def lw_privs_4 : List (MethodName × Nat) := [(⟨"HasteRoadsModel", "roadFrom", "(II)I"⟩, 39), (⟨"HasteRoadsModel", "asNow", "()V"⟩, 39), (⟨"HasteRoadsModel", "soonestOf", "(II)I"⟩, 39), (⟨"HasteRoadsModel", "spreads", "(IIII)V"⟩, 39), (⟨"HasteRoadsModel", "comes", "(II)V"⟩, 39), (⟨"HasteRoadsModel", "nextNode", "()I"⟩, 39), (⟨"HasteRoadsModel", "soonestAt", "(I)I"⟩, 39), (⟨"HasteRoadsModel", "errand", "(I)I"⟩, 39), (⟨"HasteRoadsModel", "nextStep", "(II)I"⟩, 39), (⟨"HasteRoadsModel", "isStep", "(III)Z"⟩, 39), (⟨"HasteRoadsModel", "saves", "()V"⟩, 39), (⟨"HasteRoadsModel", "restores", "()V"⟩, 39), (⟨"HasteRoadsModel", "areInTime", "()Z"⟩, 39), (⟨"HasteRoadsModel", "carries", "(II)V"⟩, 39), (⟨"HasteRoadsModel", "nextPlace", "()I"⟩, 39), (⟨"HasteRoadsModel", "together", "()I"⟩, 39)]
theorem lw_r4 : ∀ q ∈ lw_privs_4, lw_okq q := List.forall_mem_cons.mpr ⟨lw_p48, List.forall_mem_cons.mpr ⟨lw_p49, List.forall_mem_cons.mpr ⟨lw_p50, List.forall_mem_cons.mpr ⟨lw_p51, List.forall_mem_cons.mpr ⟨lw_p52, List.forall_mem_cons.mpr ⟨lw_p53, List.forall_mem_cons.mpr ⟨lw_p54, List.forall_mem_cons.mpr ⟨lw_p55, List.forall_mem_cons.mpr ⟨lw_p56, List.forall_mem_cons.mpr ⟨lw_p57, List.forall_mem_cons.mpr ⟨lw_p58, List.forall_mem_cons.mpr ⟨lw_p59, List.forall_mem_cons.mpr ⟨lw_p60, List.forall_mem_cons.mpr ⟨lw_p61, List.forall_mem_cons.mpr ⟨lw_p62, List.forall_mem_cons.mpr ⟨lw_p63, fun _ h => absurd h List.not_mem_nil⟩⟩⟩⟩⟩⟩⟩⟩⟩⟩⟩⟩⟩⟩⟩⟩
theorem lw_p64 : lw_okq (⟨"HasteRoadsModel", "fled", "(II)I"⟩, 39) := ⟨⟨by decide +kernel, by decide +kernel⟩, List.mem_of_getElem? (i := 742) (by decide +kernel), List.mem_of_getElem? (i := 1132) (by decide +kernel), List.mem_of_getElem? (i := 1133) (by decide +kernel)⟩
theorem lw_p65 : lw_okq (⟨"HasteRoadsModel", "isNear", "(II)Z"⟩, 39) := ⟨⟨by decide +kernel, by decide +kernel⟩, List.mem_of_getElem? (i := 742) (by decide +kernel), List.mem_of_getElem? (i := 1136) (by decide +kernel), List.mem_of_getElem? (i := 1137) (by decide +kernel)⟩
theorem lw_p66 : lw_okq (⟨"HasteRoadsModel", "guarded", "(II)I"⟩, 39) := ⟨⟨by decide +kernel, by decide +kernel⟩, List.mem_of_getElem? (i := 742) (by decide +kernel), List.mem_of_getElem? (i := 1140) (by decide +kernel), List.mem_of_getElem? (i := 1141) (by decide +kernel)⟩
theorem lw_p67 : lw_okq (⟨"HasteRoadsModel", "roundsOn", "(III)V"⟩, 39) := ⟨⟨by decide +kernel, by decide +kernel⟩, List.mem_of_getElem? (i := 742) (by decide +kernel), List.mem_of_getElem? (i := 1148) (by decide +kernel), List.mem_of_getElem? (i := 1149) (by decide +kernel)⟩
theorem lw_p68 : lw_okq (⟨"HasteRoadsModel", "reaches", "(II)V"⟩, 39) := ⟨⟨by decide +kernel, by decide +kernel⟩, List.mem_of_getElem? (i := 742) (by decide +kernel), List.mem_of_getElem? (i := 1152) (by decide +kernel), List.mem_of_getElem? (i := 1153) (by decide +kernel)⟩
theorem lw_p69 : lw_okq (⟨"HasteRoadsModel", "nextFar", "(I)I"⟩, 39) := ⟨⟨by decide +kernel, by decide +kernel⟩, List.mem_of_getElem? (i := 742) (by decide +kernel), List.mem_of_getElem? (i := 1156) (by decide +kernel), List.mem_of_getElem? (i := 1157) (by decide +kernel)⟩
theorem lw_p70 : lw_okq (⟨"HasteRoadsModel", "spentAt", "(I)I"⟩, 39) := ⟨⟨by decide +kernel, by decide +kernel⟩, List.mem_of_getElem? (i := 742) (by decide +kernel), List.mem_of_getElem? (i := 1168) (by decide +kernel), List.mem_of_getElem? (i := 1169) (by decide +kernel)⟩
def lw_privs_5 : List (MethodName × Nat) := [(⟨"HasteRoadsModel", "fled", "(II)I"⟩, 39), (⟨"HasteRoadsModel", "isNear", "(II)Z"⟩, 39), (⟨"HasteRoadsModel", "guarded", "(II)I"⟩, 39), (⟨"HasteRoadsModel", "roundsOn", "(III)V"⟩, 39), (⟨"HasteRoadsModel", "reaches", "(II)V"⟩, 39), (⟨"HasteRoadsModel", "nextFar", "(I)I"⟩, 39), (⟨"HasteRoadsModel", "spentAt", "(I)I"⟩, 39)]
theorem lw_r5 : ∀ q ∈ lw_privs_5, lw_okq q := List.forall_mem_cons.mpr ⟨lw_p64, List.forall_mem_cons.mpr ⟨lw_p65, List.forall_mem_cons.mpr ⟨lw_p66, List.forall_mem_cons.mpr ⟨lw_p67, List.forall_mem_cons.mpr ⟨lw_p68, List.forall_mem_cons.mpr ⟨lw_p69, List.forall_mem_cons.mpr ⟨lw_p70, fun _ h => absurd h List.not_mem_nil⟩⟩⟩⟩⟩⟩⟩
def lw_privs : List (MethodName × Nat) := lw_privs_1 ++ (lw_privs_2 ++ (lw_privs_3 ++ (lw_privs_4 ++ (lw_privs_5))))
def lw_tbl : List Cond := k2_sels lw_privs ++ tables_1
theorem lw_privs_ok : ∀ q ∈ lw_privs, lw_okq q := by
  show ∀ q ∈ lw_privs_1 ++ (lw_privs_2 ++ (lw_privs_3 ++ (lw_privs_4 ++ (lw_privs_5)))), lw_okq q
  exact List.forall_mem_append.mpr ⟨lw_r1, List.forall_mem_append.mpr ⟨lw_r2, List.forall_mem_append.mpr ⟨lw_r3, List.forall_mem_append.mpr ⟨lw_r4, lw_r5⟩⟩⟩⟩
end
section
def RX0 : String := "HasteRoads$Book"
def TX0 : u_T := fun k => match k with
  | 0 => ("HasteRoads$Book", "count", "I", false)
  | _ => ("HasteRoads$Book", "steps", "[I", true)
def tyX0 : Nat → FieldType := fun k => match k with
  | 0 => .int
  | _ => .array .int
theorem nmX0 : ∀ a, a < 2 → ∀ b, b < 2 → a ≠ b → (TX0 a).2.1 ≠ (TX0 b).2.1 := by decide +kernel
theorem tyX0_ok : ∀ k, k < 2 → parseFieldDescriptor (TX0 k).2.2.1 = some (tyX0 k) := by decide +kernel
abbrev cX0_init : ByteArray := prog_2_method_1_code
def yX0_init : MethodName := ⟨RX0, "<init>", "()V"⟩
abbrev cX0_add : ByteArray := prog_2_method_2_code
def yX0_add : MethodName := ⟨RX0, "add", "(I)I"⟩
abbrev cX0_follow : ByteArray := prog_2_method_3_code
def yX0_follow : MethodName := ⟨RX0, "follow", "(LHasteRoads$World;I)I"⟩
def RX1 : String := "HasteRoads$Chase"
def TX1 : u_T := fun k => match k with
  | 0 => ("HasteRoads$Chase", "near", "[I", true)
  | 1 => ("HasteRoads$Chase", "caught", "[I", true)
  | _ => ("HasteRoads$Chase", "catching", "[I", true)
def tyX1 : Nat → FieldType := fun k => match k with
  | 0 => .array .int
  | 1 => .array .int
  | _ => .array .int
theorem nmX1 : ∀ a, a < 3 → ∀ b, b < 3 → a ≠ b → (TX1 a).2.1 ≠ (TX1 b).2.1 := by decide +kernel
theorem tyX1_ok : ∀ k, k < 3 → parseFieldDescriptor (TX1 k).2.2.1 = some (tyX1 k) := by decide +kernel
abbrev cX1_init : ByteArray := prog_3_method_1_code
def yX1_init : MethodName := ⟨RX1, "<init>", "()V"⟩
abbrev cX1_turns : ByteArray := prog_3_method_2_code
def yX1_turns : MethodName := ⟨RX1, "turns", "(LHasteRoads$World;II)I"⟩
abbrev cX1_begin : ByteArray := prog_3_method_3_code
def yX1_begin : MethodName := ⟨RX1, "begin", "(LHasteRoads$World;)V"⟩
abbrev cX1_lookOn : ByteArray := prog_3_method_4_code
def yX1_lookOn : MethodName := ⟨RX1, "lookOn", "(I)V"⟩
def RX2 : String := "HasteRoads$Ledger"
def TX2 : u_T := fun k => match k with
  | 0 => ("HasteRoads$Ledger", "count", "I", false)
  | 1 => ("HasteRoads$Ledger", "person", "[I", true)
  | 2 => ("HasteRoads$Ledger", "road", "[I", true)
  | 3 => ("HasteRoads$Ledger", "from", "[I", true)
  | 4 => ("HasteRoads$Ledger", "minute", "[I", true)
  | _ => ("HasteRoads$Ledger", "minutes", "[I", true)
def tyX2 : Nat → FieldType := fun k => match k with
  | 0 => .int
  | 1 => .array .int
  | 2 => .array .int
  | 3 => .array .int
  | 4 => .array .int
  | _ => .array .int
theorem nmX2 : ∀ a, a < 6 → ∀ b, b < 6 → a ≠ b → (TX2 a).2.1 ≠ (TX2 b).2.1 := by decide +kernel
theorem tyX2_ok : ∀ k, k < 6 → parseFieldDescriptor (TX2 k).2.2.1 = some (tyX2 k) := by decide +kernel
abbrev cX2_init : ByteArray := prog_4_method_1_code
def yX2_init : MethodName := ⟨RX2, "<init>", "()V"⟩
abbrev cX2_add : ByteArray := prog_4_method_2_code
def yX2_add : MethodName := ⟨RX2, "add", "(IIIII)I"⟩
abbrev cX2_spentIn : ByteArray := prog_4_method_3_code
def yX2_spentIn : MethodName := ⟨RX2, "spentIn", "(LHasteRoads$World;I)I"⟩
def RX3 : String := "HasteRoads$Message"
def TX3 : u_T := fun k => match k with
  | 0 => ("HasteRoads$Message", "world", "LHasteRoads$World;", true)
  | 1 => ("HasteRoads$Message", "search", "LHasteRoads$Search;", true)
  | 2 => ("HasteRoads$Message", "minute", "[I", true)
  | 3 => ("HasteRoads$Message", "carriers", "[I", true)
  | _ => ("HasteRoads$Message", "settled", "[Z", true)
def tyX3 : Nat → FieldType := fun k => match k with
  | 0 => .object "HasteRoads$World"
  | 1 => .object "HasteRoads$Search"
  | 2 => .array .int
  | 3 => .array .int
  | _ => .array .boolean
theorem nmX3 : ∀ a, a < 5 → ∀ b, b < 5 → a ≠ b → (TX3 a).2.1 ≠ (TX3 b).2.1 := by decide +kernel
theorem tyX3_ok : ∀ k, k < 5 → parseFieldDescriptor (TX3 k).2.2.1 = some (tyX3 k) := by decide +kernel
abbrev cX3_init : ByteArray := prog_5_method_1_code
def yX3_init : MethodName := ⟨RX3, "<init>", "(LHasteRoads$World;LHasteRoads$Search;)V"⟩
abbrev cX3_carry : ByteArray := prog_5_method_2_code
def yX3_carry : MethodName := ⟨RX3, "carry", "(I)V"⟩
abbrev cX3_minuteAt : ByteArray := prog_5_method_3_code
def yX3_minuteAt : MethodName := ⟨RX3, "minuteAt", "(I)I"⟩
abbrev cX3_carriersTo : ByteArray := prog_5_method_4_code
def yX3_carriersTo : MethodName := ⟨RX3, "carriersTo", "(I)I"⟩
abbrev cX3_nearest : ByteArray := prog_5_method_5_code
def yX3_nearest : MethodName := ⟨RX3, "nearest", "()I"⟩
abbrev cX3_takeOn : ByteArray := prog_5_method_6_code
def yX3_takeOn : MethodName := ⟨RX3, "takeOn", "(II)V"⟩
def RX4 : String := "HasteRoads$Search"
def TX4 : u_T := fun k => match k with
  | 0 => ("HasteRoads$Search", "world", "LHasteRoads$World;", true)
  | 1 => ("HasteRoads$Search", "soonest", "[I", true)
  | 2 => ("HasteRoads$Search", "latest", "[I", true)
  | 3 => ("HasteRoads$Search", "settled", "[Z", true)
  | _ => ("HasteRoads$Search", "calmest", "[I", true)
def tyX4 : Nat → FieldType := fun k => match k with
  | 0 => .object "HasteRoads$World"
  | 1 => .array .int
  | 2 => .array .int
  | 3 => .array .boolean
  | _ => .array .int
theorem nmX4 : ∀ a, a < 5 → ∀ b, b < 5 → a ≠ b → (TX4 a).2.1 ≠ (TX4 b).2.1 := by decide +kernel
theorem tyX4_ok : ∀ k, k < 5 → parseFieldDescriptor (TX4 k).2.2.1 = some (tyX4 k) := by decide +kernel
abbrev cX4_init : ByteArray := prog_6_method_1_code
def yX4_init : MethodName := ⟨RX4, "<init>", "(LHasteRoads$World;)V"⟩
abbrev cX4_explore : ByteArray := prog_6_method_2_code
def yX4_explore : MethodName := ⟨RX4, "explore", "(III)V"⟩
abbrev cX4_soonestAt : ByteArray := prog_6_method_3_code
def yX4_soonestAt : MethodName := ⟨RX4, "soonestAt", "(I)I"⟩
abbrev cX4_soonestWith : ByteArray := prog_6_method_4_code
def yX4_soonestWith : MethodName := ⟨RX4, "soonestWith", "(I)I"⟩
abbrev cX4_soonestAtErrand : ByteArray := prog_6_method_5_code
def yX4_soonestAtErrand : MethodName := ⟨RX4, "soonestAtErrand", "(I)I"⟩
abbrev cX4_allTogether : ByteArray := prog_6_method_6_code
def yX4_allTogether : MethodName := ⟨RX4, "allTogether", "()I"⟩
abbrev cX4_settleLayer : ByteArray := prog_6_method_7_code
def yX4_settleLayer : MethodName := ⟨RX4, "settleLayer", "(IIII)V"⟩
abbrev cX4_nearest : ByteArray := prog_6_method_8_code
def yX4_nearest : MethodName := ⟨RX4, "nearest", "(I)I"⟩
abbrev cX4_spread : ByteArray := prog_6_method_9_code
def yX4_spread : MethodName := ⟨RX4, "spread", "(IIII)V"⟩
abbrev cX4_reach : ByteArray := prog_6_method_10_code
def yX4_reach : MethodName := ⟨RX4, "reach", "(IIII)V"⟩
abbrev cX4_lookBack : ByteArray := prog_6_method_11_code
def yX4_lookBack : MethodName := ⟨RX4, "lookBack", "(II)V"⟩
abbrev cX4_latestAt : ByteArray := prog_6_method_12_code
def yX4_latestAt : MethodName := ⟨RX4, "latestAt", "(II)I"⟩
abbrev cX4_lastUnsettled : ByteArray := prog_6_method_13_code
def yX4_lastUnsettled : MethodName := ⟨RX4, "lastUnsettled", "()I"⟩
abbrev cX4_spreadBack : ByteArray := prog_6_method_14_code
def yX4_spreadBack : MethodName := ⟨RX4, "spreadBack", "(II)V"⟩
abbrev cX4_reachBack : ByteArray := prog_6_method_15_code
def yX4_reachBack : MethodName := ⟨RX4, "reachBack", "(III)V"⟩
abbrev cX4_leavesBy : ByteArray := prog_6_method_16_code
def yX4_leavesBy : MethodName := ⟨RX4, "leavesBy", "(IIIII)I"⟩
abbrev cX4_stepAt : ByteArray := prog_6_method_17_code
def yX4_stepAt : MethodName := ⟨RX4, "stepAt", "(II)I"⟩
abbrev cX4_firstStep : ByteArray := prog_6_method_18_code
def yX4_firstStep : MethodName := ⟨RX4, "firstStep", "(I)I"⟩
def RX5 : String := "HasteRoads$Text"
def TX5 : u_T := fun k => match k with
  | 0 => ("HasteRoads$Text", "letters", "[I", true)
  | 1 => ("HasteRoads$Text", "length", "I", false)
  | 2 => ("HasteRoads$Text", "faultAt", "I", false)
  | 3 => ("HasteRoads$Text", "fault", "I", false)
  | 4 => ("HasteRoads$Text", "next", "I", false)
  | _ => ("HasteRoads$Text", "numberAt", "I", false)
def tyX5 : Nat → FieldType := fun k => match k with
  | 0 => .array .int
  | 1 => .int
  | 2 => .int
  | 3 => .int
  | 4 => .int
  | _ => .int
theorem nmX5 : ∀ a, a < 6 → ∀ b, b < 6 → a ≠ b → (TX5 a).2.1 ≠ (TX5 b).2.1 := by decide +kernel
theorem tyX5_ok : ∀ k, k < 6 → parseFieldDescriptor (TX5 k).2.2.1 = some (tyX5 k) := by decide +kernel
abbrev cX5_init : ByteArray := prog_7_method_1_code
def yX5_init : MethodName := ⟨RX5, "<init>", "()V"⟩
abbrev cX5_add : ByteArray := prog_7_method_2_code
def yX5_add : MethodName := ⟨RX5, "add", "(I)I"⟩
abbrev cX5_tell : ByteArray := prog_7_method_3_code
def yX5_tell : MethodName := ⟨RX5, "tell", "(LHasteRoads$World;)I"⟩
abbrev cX5_blame : ByteArray := prog_7_method_4_code
def yX5_blame : MethodName := ⟨RX5, "blame", "(II)V"⟩
abbrev cX5_passBlanks : ByteArray := prog_7_method_5_code
def yX5_passBlanks : MethodName := ⟨RX5, "passBlanks", "()V"⟩
abbrev cX5_tellClause : ByteArray := prog_7_method_6_code
def yX5_tellClause : MethodName := ⟨RX5, "tellClause", "(LHasteRoads$World;)V"⟩
abbrev cX5_passEnd : ByteArray := prog_7_method_7_code
def yX5_passEnd : MethodName := ⟨RX5, "passEnd", "()V"⟩
abbrev cX5_tellPlace : ByteArray := prog_7_method_8_code
def yX5_tellPlace : MethodName := ⟨RX5, "tellPlace", "(LHasteRoads$World;I)V"⟩
abbrev cX5_tellRoad : ByteArray := prog_7_method_9_code
def yX5_tellRoad : MethodName := ⟨RX5, "tellRoad", "(LHasteRoads$World;I)V"⟩
abbrev cX5_tellPerson : ByteArray := prog_7_method_10_code
def yX5_tellPerson : MethodName := ⟨RX5, "tellPerson", "(LHasteRoads$World;I)V"⟩
abbrev cX5_tellClock : ByteArray := prog_7_method_11_code
def yX5_tellClock : MethodName := ⟨RX5, "tellClock", "(LHasteRoads$World;)V"⟩
abbrev cX5_number : ByteArray := prog_7_method_12_code
def yX5_number : MethodName := ⟨RX5, "number", "(II)I"⟩
abbrev cX5_isFigure : ByteArray := prog_7_method_13_code
def yX5_isFigure : MethodName := ⟨RX5, "isFigure", "(I)Z"⟩
def RX6 : String := "HasteRoads$World"
def TX6 : u_T := fun k => match k with
  | 0 => ("HasteRoads$World", "places", "I", false)
  | 1 => ("HasteRoads$World", "roads", "I", false)
  | 2 => ("HasteRoads$World", "persons", "I", false)
  | 3 => ("HasteRoads$World", "inns", "I", false)
  | 4 => ("HasteRoads$World", "clocks", "I", false)
  | 5 => ("HasteRoads$World", "seed", "I", false)
  | 6 => ("HasteRoads$World", "endA", "[I", true)
  | 7 => ("HasteRoads$World", "endB", "[I", true)
  | 8 => ("HasteRoads$World", "miles", "[I", true)
  | 9 => ("HasteRoads$World", "errand", "[I", true)
  | 10 => ("HasteRoads$World", "haste", "[I", true)
  | 11 => ("HasteRoads$World", "due", "[I", true)
  | 12 => ("HasteRoads$World", "place", "[I", true)
  | 13 => ("HasteRoads$World", "calm", "[I", true)
  | 14 => ("HasteRoads$World", "load", "[I", true)
  | _ => ("HasteRoads$World", "minute", "[I", true)
def tyX6 : Nat → FieldType := fun k => match k with
  | 0 => .int
  | 1 => .int
  | 2 => .int
  | 3 => .int
  | 4 => .int
  | 5 => .int
  | 6 => .array .int
  | 7 => .array .int
  | 8 => .array .int
  | 9 => .array .int
  | 10 => .array .int
  | 11 => .array .int
  | 12 => .array .int
  | 13 => .array .int
  | 14 => .array .int
  | _ => .array .int
theorem nmX6 : ∀ a, a < 16 → ∀ b, b < 16 → a ≠ b → (TX6 a).2.1 ≠ (TX6 b).2.1 := by decide +kernel
theorem tyX6_ok : ∀ k, k < 16 → parseFieldDescriptor (TX6 k).2.2.1 = some (tyX6 k) := by decide +kernel
abbrev cX6_init : ByteArray := prog_8_method_1_code
def yX6_init : MethodName := ⟨RX6, "<init>", "()V"⟩
abbrev cX6_clear : ByteArray := prog_8_method_2_code
def yX6_clear : MethodName := ⟨RX6, "clear", "()V"⟩
abbrev cX6_become : ByteArray := prog_8_method_3_code
def yX6_become : MethodName := ⟨RX6, "become", "(LHasteRoads$World;)V"⟩
abbrev cX6_hasPlace : ByteArray := prog_8_method_4_code
def yX6_hasPlace : MethodName := ⟨RX6, "hasPlace", "(I)Z"⟩
abbrev cX6_hasRoad : ByteArray := prog_8_method_5_code
def yX6_hasRoad : MethodName := ⟨RX6, "hasRoad", "(I)Z"⟩
abbrev cX6_hasPerson : ByteArray := prog_8_method_6_code
def yX6_hasPerson : MethodName := ⟨RX6, "hasPerson", "(I)Z"⟩
abbrev cX6_hasInn : ByteArray := prog_8_method_7_code
def yX6_hasInn : MethodName := ⟨RX6, "hasInn", "(I)Z"⟩
abbrev cX6_allPlaces : ByteArray := prog_8_method_8_code
def yX6_allPlaces : MethodName := ⟨RX6, "allPlaces", "()I"⟩
abbrev cX6_otherEnd : ByteArray := prog_8_method_9_code
def yX6_otherEnd : MethodName := ⟨RX6, "otherEnd", "(II)I"⟩
abbrev cX6_hurry : ByteArray := prog_8_method_10_code
def yX6_hurry : MethodName := ⟨RX6, "hurry", "(III)I"⟩
abbrev cX6_lasts : ByteArray := prog_8_method_11_code
def yX6_lasts : MethodName := ⟨RX6, "lasts", "(IIIII)I"⟩
abbrev cX6_lastsHurried : ByteArray := prog_8_method_12_code
def yX6_lastsHurried : MethodName := ⟨RX6, "lastsHurried", "(II)I"⟩
abbrev cX6_canMove : ByteArray := prog_8_method_13_code
def yX6_canMove : MethodName := ⟨RX6, "canMove", "(III)Z"⟩
abbrev cX6_move : ByteArray := prog_8_method_14_code
def yX6_move : MethodName := ⟨RX6, "move", "(III)V"⟩
abbrev cX6_rest : ByteArray := prog_8_method_15_code
def yX6_rest : MethodName := ⟨RX6, "rest", "(II)V"⟩
abbrev cX6_calmAfter : ByteArray := prog_8_method_16_code
def yX6_calmAfter : MethodName := ⟨RX6, "calmAfter", "(III)I"⟩
abbrev cX6_wander : ByteArray := prog_8_method_17_code
def yX6_wander : MethodName := ⟨RX6, "wander", "()V"⟩
abbrev cX6_draw : ByteArray := prog_8_method_18_code
def yX6_draw : MethodName := ⟨RX6, "draw", "(I)I"⟩
abbrev cX6_waysFrom : ByteArray := prog_8_method_19_code
def yX6_waysFrom : MethodName := ⟨RX6, "waysFrom", "(I)I"⟩
abbrev cX6_roadOfWay : ByteArray := prog_8_method_20_code
def yX6_roadOfWay : MethodName := ⟨RX6, "roadOfWay", "(II)I"⟩
abbrev cX6_greatestMinute : ByteArray := prog_8_method_21_code
def yX6_greatestMinute : MethodName := ⟨RX6, "greatestMinute", "()I"⟩
def RX7 : String := "HasteRoads"
def TX7 : u_T := fun k => match k with
  | 0 => ("HasteRoads", "now", "LHasteRoads$World;", true)
  | 1 => ("HasteRoads", "tried", "LHasteRoads$World;", true)
  | 2 => ("HasteRoads", "images", "[LHasteRoads$World;", true)
  | 3 => ("HasteRoads", "kept", "[Z", true)
  | 4 => ("HasteRoads", "text", "LHasteRoads$Text;", true)
  | 5 => ("HasteRoads", "search", "LHasteRoads$Search;", true)
  | 6 => ("HasteRoads", "message", "LHasteRoads$Message;", true)
  | 7 => ("HasteRoads", "chase", "LHasteRoads$Chase;", true)
  | 8 => ("HasteRoads", "ledger", "LHasteRoads$Ledger;", true)
  | 9 => ("HasteRoads", "book", "LHasteRoads$Book;", true)
  | _ => ("HasteRoads", "soonestOfFirst", "[I", true)
def tyX7 : Nat → FieldType := fun k => match k with
  | 0 => .object "HasteRoads$World"
  | 1 => .object "HasteRoads$World"
  | 2 => .array (.object "HasteRoads$World")
  | 3 => .array .boolean
  | 4 => .object "HasteRoads$Text"
  | 5 => .object "HasteRoads$Search"
  | 6 => .object "HasteRoads$Message"
  | 7 => .object "HasteRoads$Chase"
  | 8 => .object "HasteRoads$Ledger"
  | 9 => .object "HasteRoads$Book"
  | _ => .array .int
theorem nmX7 : ∀ a, a < 11 → ∀ b, b < 11 → a ≠ b → (TX7 a).2.1 ≠ (TX7 b).2.1 := by decide +kernel
theorem tyX7_ok : ∀ k, k < 11 → parseFieldDescriptor (TX7 k).2.2.1 = some (tyX7 k) := by decide +kernel
abbrev cX7_init : ByteArray := prog_1_method_1_code
def yX7_init : MethodName := ⟨RX7, "<init>", "()V"⟩
abbrev cX7_feed : ByteArray := prog_1_method_2_code
def yX7_feed : MethodName := ⟨RX7, "feed", "(I)I"⟩
abbrev cX7_land : ByteArray := prog_1_method_3_code
def yX7_land : MethodName := ⟨RX7, "land", "()I"⟩
abbrev cX7_fault : ByteArray := prog_1_method_4_code
def yX7_fault : MethodName := ⟨RX7, "fault", "()I"⟩
abbrev cX7_told : ByteArray := prog_1_method_5_code
def yX7_told : MethodName := ⟨RX7, "told", "(I)I"⟩
abbrev cX7_road : ByteArray := prog_1_method_6_code
def yX7_road : MethodName := ⟨RX7, "road", "(II)I"⟩
abbrev cX7_person : ByteArray := prog_1_method_7_code
def yX7_person : MethodName := ⟨RX7, "person", "(II)I"⟩
abbrev cX7_takes : ByteArray := prog_1_method_8_code
def yX7_takes : MethodName := ⟨RX7, "takes", "(IIIII)I"⟩
abbrev cX7_go : ByteArray := prog_1_method_9_code
def yX7_go : MethodName := ⟨RX7, "go", "(III)I"⟩
abbrev cX7_await : ByteArray := prog_1_method_10_code
def yX7_await : MethodName := ⟨RX7, "await", "(II)I"⟩
abbrev cX7_load : ByteArray := prog_1_method_11_code
def yX7_load : MethodName := ⟨RX7, "load", "(II)I"⟩
abbrev cX7_inn : ByteArray := prog_1_method_12_code
def yX7_inn : MethodName := ⟨RX7, "inn", "(IZ)I"⟩
abbrev cX7_clock : ByteArray := prog_1_method_13_code
def yX7_clock : MethodName := ⟨RX7, "clock", "(IZ)I"⟩
abbrev cX7_miles : ByteArray := prog_1_method_14_code
def yX7_miles : MethodName := ⟨RX7, "miles", "(II)I"⟩
abbrev cX7_drift : ByteArray := prog_1_method_15_code
def yX7_drift : MethodName := ⟨RX7, "drift", "(I)I"⟩
abbrev cX7_soonest : ByteArray := prog_1_method_16_code
def yX7_soonest : MethodName := ⟨RX7, "soonest", "(II)I"⟩
abbrev cX7_step : ByteArray := prog_1_method_17_code
def yX7_step : MethodName := ⟨RX7, "step", "(II)I"⟩
abbrev cX7_latest : ByteArray := prog_1_method_18_code
def yX7_latest : MethodName := ⟨RX7, "latest", "(I)I"⟩
abbrev cX7_inns : ByteArray := prog_1_method_19_code
def yX7_inns : MethodName := ⟨RX7, "inns", "(I)I"⟩
abbrev cX7_relay : ByteArray := prog_1_method_20_code
def yX7_relay : MethodName := ⟨RX7, "relay", "(III)I"⟩
abbrev cX7_meet : ByteArray := prog_1_method_21_code
def yX7_meet : MethodName := ⟨RX7, "meet", "(III)I"⟩
abbrev cX7_cost : ByteArray := prog_1_method_22_code
def yX7_cost : MethodName := ⟨RX7, "cost", "(I)I"⟩
abbrev cX7_shorter : ByteArray := prog_1_method_23_code
def yX7_shorter : MethodName := ⟨RX7, "shorter", "(I)I"⟩
abbrev cX7_lend : ByteArray := prog_1_method_24_code
def yX7_lend : MethodName := ⟨RX7, "lend", "(III)I"⟩
abbrev cX7_guard : ByteArray := prog_1_method_25_code
def yX7_guard : MethodName := ⟨RX7, "guard", "(II)I"⟩
abbrev cX7_round : ByteArray := prog_1_method_26_code
def yX7_round : MethodName := ⟨RX7, "round", "(II)I"⟩
abbrev cX7_took : ByteArray := prog_1_method_27_code
def yX7_took : MethodName := ⟨RX7, "took", "(IIIII)I"⟩
abbrev cX7_spent : ByteArray := prog_1_method_28_code
def yX7_spent : MethodName := ⟨RX7, "spent", "(I)I"⟩
abbrev cX7_lie : ByteArray := prog_1_method_29_code
def yX7_lie : MethodName := ⟨RX7, "lie", "()I"⟩
abbrev cX7_write : ByteArray := prog_1_method_30_code
def yX7_write : MethodName := ⟨RX7, "write", "(I)I"⟩
abbrev cX7_tear : ByteArray := prog_1_method_31_code
def yX7_tear : MethodName := ⟨RX7, "tear", "()I"⟩
abbrev cX7_judge : ByteArray := prog_1_method_32_code
def yX7_judge : MethodName := ⟨RX7, "judge", "(II)I"⟩
abbrev cX7_seed : ByteArray := prog_1_method_33_code
def yX7_seed : MethodName := ⟨RX7, "seed", "(I)I"⟩
abbrev cX7_keep : ByteArray := prog_1_method_34_code
def yX7_keep : MethodName := ⟨RX7, "keep", "(I)I"⟩
abbrev cX7_goBack : ByteArray := prog_1_method_35_code
def yX7_goBack : MethodName := ⟨RX7, "goBack", "(I)I"⟩
abbrev cX7_outside : ByteArray := prog_1_method_36_code
def yX7_outside : MethodName := ⟨RX7, "outside", "(III)Z"⟩
abbrev cX7_withBit : ByteArray := prog_1_method_37_code
def yX7_withBit : MethodName := ⟨RX7, "withBit", "(IIZ)I"⟩
abbrev cX7_fewestInns : ByteArray := prog_1_method_38_code
def yX7_fewestInns : MethodName := ⟨RX7, "fewestInns", "()I"⟩
abbrev cX7_allInTimeWith : ByteArray := prog_1_method_39_code
def yX7_allInTimeWith : MethodName := ⟨RX7, "allInTimeWith", "(I)Z"⟩
def RX8 : String := "HasteRoadsModel"
def TX8 : u_T := fun k => match k with
  | 0 => ("HasteRoadsModel", "thrown", "I", false)
  | 1 => ("HasteRoadsModel", "text", "[I", true)
  | 2 => ("HasteRoadsModel", "typed", "I", false)
  | 3 => ("HasteRoadsModel", "next", "I", false)
  | 4 => ("HasteRoadsModel", "token", "I", false)
  | 5 => ("HasteRoadsModel", "place", "I", false)
  | 6 => ("HasteRoadsModel", "value", "I", false)
  | 7 => ("HasteRoadsModel", "figures", "I", false)
  | 8 => ("HasteRoadsModel", "fault", "I", false)
  | 9 => ("HasteRoadsModel", "faultAt", "I", false)
  | 10 => ("HasteRoadsModel", "places", "I", false)
  | 11 => ("HasteRoadsModel", "roads", "I", false)
  | 12 => ("HasteRoadsModel", "persons", "I", false)
  | 13 => ("HasteRoadsModel", "road", "[I", true)
  | 14 => ("HasteRoadsModel", "person", "[I", true)
  | 15 => ("HasteRoadsModel", "draftPlaces", "I", false)
  | 16 => ("HasteRoadsModel", "draftRoads", "I", false)
  | 17 => ("HasteRoadsModel", "draftPersons", "I", false)
  | 18 => ("HasteRoadsModel", "draftInns", "I", false)
  | 19 => ("HasteRoadsModel", "draftClocks", "I", false)
  | 20 => ("HasteRoadsModel", "s", "[I", true)
  | 21 => ("HasteRoadsModel", "w", "[I", true)
  | 22 => ("HasteRoadsModel", "kept", "[I", true)
  | 23 => ("HasteRoadsModel", "isKept", "[Z", true)
  | 24 => ("HasteRoadsModel", "tooks", "[I", true)
  | 25 => ("HasteRoadsModel", "tookMany", "I", false)
  | 26 => ("HasteRoadsModel", "book", "[I", true)
  | 27 => ("HasteRoadsModel", "bookMany", "I", false)
  | 28 => ("HasteRoadsModel", "near", "[I", true)
  | 29 => ("HasteRoadsModel", "over", "[Z", true)
  | 30 => ("HasteRoadsModel", "far", "[I", true)
  | 31 => ("HasteRoadsModel", "met", "[Z", true)
  | 32 => ("HasteRoadsModel", "was", "[I", true)
  | 33 => ("HasteRoadsModel", "message", "[I", true)
  | 34 => ("HasteRoadsModel", "hands", "[I", true)
  | 35 => ("HasteRoadsModel", "sent", "[Z", true)
  | 36 => ("HasteRoadsModel", "one", "[I", true)
  | 37 => ("HasteRoadsModel", "turns", "[I", true)
  | _ => ("HasteRoadsModel", "later", "[I", true)
def tyX8 : Nat → FieldType := fun k => match k with
  | 0 => .int
  | 1 => .array .int
  | 2 => .int
  | 3 => .int
  | 4 => .int
  | 5 => .int
  | 6 => .int
  | 7 => .int
  | 8 => .int
  | 9 => .int
  | 10 => .int
  | 11 => .int
  | 12 => .int
  | 13 => .array .int
  | 14 => .array .int
  | 15 => .int
  | 16 => .int
  | 17 => .int
  | 18 => .int
  | 19 => .int
  | 20 => .array .int
  | 21 => .array .int
  | 22 => .array .int
  | 23 => .array .boolean
  | 24 => .array .int
  | 25 => .int
  | 26 => .array .int
  | 27 => .int
  | 28 => .array .int
  | 29 => .array .boolean
  | 30 => .array .int
  | 31 => .array .boolean
  | 32 => .array .int
  | 33 => .array .int
  | 34 => .array .int
  | 35 => .array .boolean
  | 36 => .array .int
  | 37 => .array .int
  | _ => .array .int
theorem nmX8 : ∀ a, a < 39 → ∀ b, b < 39 → a ≠ b → (TX8 a).2.1 ≠ (TX8 b).2.1 := by decide +kernel
theorem tyX8_ok : ∀ k, k < 39 → parseFieldDescriptor (TX8 k).2.2.1 = some (tyX8 k) := by decide +kernel
abbrev cX8_init : ByteArray := prog_10_method_1_code
def yX8_init : MethodName := ⟨RX8, "<init>", "()V"⟩
abbrev cX8_in : ByteArray := prog_10_method_3_code
def yX8_in : MethodName := ⟨RX8, "in", "(III)Z"⟩
abbrev cX8_ones : ByteArray := prog_10_method_4_code
def yX8_ones : MethodName := ⟨RX8, "ones", "(I)I"⟩
abbrev cX8_feed : ByteArray := prog_10_method_5_code
def yX8_feed : MethodName := ⟨RX8, "feed", "(I)I"⟩
abbrev cX8_letterAt : ByteArray := prog_10_method_6_code
def yX8_letterAt : MethodName := ⟨RX8, "letterAt", "(I)I"⟩
abbrev cX8_advances : ByteArray := prog_10_method_7_code
def yX8_advances : MethodName := ⟨RX8, "advances", "()V"⟩
abbrev cX8_isWell : ByteArray := prog_10_method_8_code
def yX8_isWell : MethodName := ⟨RX8, "isWell", "()Z"⟩
abbrev cX8_fails : ByteArray := prog_10_method_9_code
def yX8_fails : MethodName := ⟨RX8, "fails", "(I)V"⟩
abbrev cX8_number : ByteArray := prog_10_method_10_code
def yX8_number : MethodName := ⟨RX8, "number", "(IIIZ)I"⟩
abbrev cX8_spot : ByteArray := prog_10_method_11_code
def yX8_spot : MethodName := ⟨RX8, "spot", "()I"⟩
abbrev cX8_clause : ByteArray := prog_10_method_12_code
def yX8_clause : MethodName := ⟨RX8, "clause", "(I)V"⟩
abbrev cX8_isFull : ByteArray := prog_10_method_13_code
def yX8_isFull : MethodName := ⟨RX8, "isFull", "()Z"⟩
abbrev cX8_land : ByteArray := prog_10_method_14_code
def yX8_land : MethodName := ⟨RX8, "land", "()I"⟩
abbrev cX8_ends : ByteArray := prog_10_method_15_code
def yX8_ends : MethodName := ⟨RX8, "ends", "()V"⟩
abbrev cX8_settles : ByteArray := prog_10_method_16_code
def yX8_settles : MethodName := ⟨RX8, "settles", "()V"⟩
abbrev cX8_fault : ByteArray := prog_10_method_17_code
def yX8_fault : MethodName := ⟨RX8, "fault", "()I"⟩
abbrev cX8_told : ByteArray := prog_10_method_18_code
def yX8_told : MethodName := ⟨RX8, "told", "(I)I"⟩
abbrev cX8_isPlace : ByteArray := prog_10_method_19_code
def yX8_isPlace : MethodName := ⟨RX8, "isPlace", "(I)Z"⟩
abbrev cX8_isRoad : ByteArray := prog_10_method_20_code
def yX8_isRoad : MethodName := ⟨RX8, "isRoad", "(I)Z"⟩
abbrev cX8_isPerson : ByteArray := prog_10_method_21_code
def yX8_isPerson : MethodName := ⟨RX8, "isPerson", "(I)Z"⟩
abbrev cX8_road : ByteArray := prog_10_method_22_code
def yX8_road : MethodName := ⟨RX8, "road", "(II)I"⟩
abbrev cX8_errand : ByteArray := prog_10_method_23_code
def yX8_errand : MethodName := ⟨RX8, "errand", "(I)I"⟩
abbrev cX8_due : ByteArray := prog_10_method_24_code
def yX8_due : MethodName := ⟨RX8, "due", "(I)I"⟩
abbrev cX8_hurry : ByteArray := prog_10_method_25_code
def yX8_hurry : MethodName := ⟨RX8, "hurry", "([IIIII)I"⟩
abbrev cX8_time : ByteArray := prog_10_method_26_code
def yX8_time : MethodName := ⟨RX8, "time", "([IIIIII)I"⟩
abbrev cX8_person : ByteArray := prog_10_method_27_code
def yX8_person : MethodName := ⟨RX8, "person", "(II)I"⟩
abbrev cX8_otherEnd : ByteArray := prog_10_method_28_code
def yX8_otherEnd : MethodName := ⟨RX8, "otherEnd", "(II)I"⟩
abbrev cX8_takes : ByteArray := prog_10_method_29_code
def yX8_takes : MethodName := ⟨RX8, "takes", "(IIIII)I"⟩
abbrev cX8_goes : ByteArray := prog_10_method_30_code
def yX8_goes : MethodName := ⟨RX8, "goes", "([IIII)V"⟩
abbrev cX8_waits : ByteArray := prog_10_method_31_code
def yX8_waits : MethodName := ⟨RX8, "waits", "([II)V"⟩
abbrev cX8_go : ByteArray := prog_10_method_32_code
def yX8_go : MethodName := ⟨RX8, "go", "(III)I"⟩
abbrev cX8_await : ByteArray := prog_10_method_33_code
def yX8_await : MethodName := ⟨RX8, "await", "(II)I"⟩
abbrev cX8_load : ByteArray := prog_10_method_34_code
def yX8_load : MethodName := ⟨RX8, "load", "(II)I"⟩
abbrev cX8_puts : ByteArray := prog_10_method_35_code
def yX8_puts : MethodName := ⟨RX8, "puts", "(IIZ)I"⟩
abbrev cX8_inn : ByteArray := prog_10_method_36_code
def yX8_inn : MethodName := ⟨RX8, "inn", "(IZ)I"⟩
abbrev cX8_clock : ByteArray := prog_10_method_37_code
def yX8_clock : MethodName := ⟨RX8, "clock", "(IZ)I"⟩
abbrev cX8_miles : ByteArray := prog_10_method_38_code
def yX8_miles : MethodName := ⟨RX8, "miles", "(II)I"⟩
abbrev cX8_draw : ByteArray := prog_10_method_39_code
def yX8_draw : MethodName := ⟨RX8, "draw", "(I)I"⟩
abbrev cX8_roadsFrom : ByteArray := prog_10_method_40_code
def yX8_roadsFrom : MethodName := ⟨RX8, "roadsFrom", "(I)I"⟩
abbrev cX8_roadFrom : ByteArray := prog_10_method_41_code
def yX8_roadFrom : MethodName := ⟨RX8, "roadFrom", "(II)I"⟩
abbrev cX8_drift : ByteArray := prog_10_method_42_code
def yX8_drift : MethodName := ⟨RX8, "drift", "(I)I"⟩
abbrev cX8_asNow : ByteArray := prog_10_method_43_code
def yX8_asNow : MethodName := ⟨RX8, "asNow", "()V"⟩
abbrev cX8_nextNode : ByteArray := prog_10_method_44_code
def yX8_nextNode : MethodName := ⟨RX8, "nextNode", "()I"⟩
abbrev cX8_comes : ByteArray := prog_10_method_45_code
def yX8_comes : MethodName := ⟨RX8, "comes", "(II)V"⟩
abbrev cX8_spreads : ByteArray := prog_10_method_46_code
def yX8_spreads : MethodName := ⟨RX8, "spreads", "(IIII)V"⟩
abbrev cX8_soonestAt : ByteArray := prog_10_method_47_code
def yX8_soonestAt : MethodName := ⟨RX8, "soonestAt", "(I)I"⟩
abbrev cX8_soonestOf : ByteArray := prog_10_method_48_code
def yX8_soonestOf : MethodName := ⟨RX8, "soonestOf", "(II)I"⟩
abbrev cX8_told_ : ByteArray := prog_10_method_49_code
def yX8_told_ : MethodName := ⟨RX8, "told", "(ZI)I"⟩
abbrev cX8_soonest : ByteArray := prog_10_method_50_code
def yX8_soonest : MethodName := ⟨RX8, "soonest", "(II)I"⟩
abbrev cX8_saves : ByteArray := prog_10_method_51_code
def yX8_saves : MethodName := ⟨RX8, "saves", "()V"⟩
abbrev cX8_restores : ByteArray := prog_10_method_52_code
def yX8_restores : MethodName := ⟨RX8, "restores", "()V"⟩
abbrev cX8_isStep : ByteArray := prog_10_method_53_code
def yX8_isStep : MethodName := ⟨RX8, "isStep", "(III)Z"⟩
abbrev cX8_nextStep : ByteArray := prog_10_method_54_code
def yX8_nextStep : MethodName := ⟨RX8, "nextStep", "(II)I"⟩
abbrev cX8_step : ByteArray := prog_10_method_55_code
def yX8_step : MethodName := ⟨RX8, "step", "(II)I"⟩
abbrev cX8_latest : ByteArray := prog_10_method_56_code
def yX8_latest : MethodName := ⟨RX8, "latest", "(I)I"⟩
abbrev cX8_areInTime : ByteArray := prog_10_method_57_code
def yX8_areInTime : MethodName := ⟨RX8, "areInTime", "()Z"⟩
abbrev cX8_inns : ByteArray := prog_10_method_58_code
def yX8_inns : MethodName := ⟨RX8, "inns", "(I)I"⟩
abbrev cX8_nextPlace : ByteArray := prog_10_method_59_code
def yX8_nextPlace : MethodName := ⟨RX8, "nextPlace", "()I"⟩
abbrev cX8_carries : ByteArray := prog_10_method_60_code
def yX8_carries : MethodName := ⟨RX8, "carries", "(II)V"⟩
abbrev cX8_relay : ByteArray := prog_10_method_61_code
def yX8_relay : MethodName := ⟨RX8, "relay", "(III)I"⟩
abbrev cX8_meet : ByteArray := prog_10_method_62_code
def yX8_meet : MethodName := ⟨RX8, "meet", "(III)I"⟩
abbrev cX8_together : ByteArray := prog_10_method_63_code
def yX8_together : MethodName := ⟨RX8, "together", "()I"⟩
abbrev cX8_cost : ByteArray := prog_10_method_64_code
def yX8_cost : MethodName := ⟨RX8, "cost", "(I)I"⟩
abbrev cX8_shorter : ByteArray := prog_10_method_65_code
def yX8_shorter : MethodName := ⟨RX8, "shorter", "(I)I"⟩
abbrev cX8_lend : ByteArray := prog_10_method_66_code
def yX8_lend : MethodName := ⟨RX8, "lend", "(III)I"⟩
abbrev cX8_isNear : ByteArray := prog_10_method_67_code
def yX8_isNear : MethodName := ⟨RX8, "isNear", "(II)Z"⟩
abbrev cX8_guarded : ByteArray := prog_10_method_68_code
def yX8_guarded : MethodName := ⟨RX8, "guarded", "(II)I"⟩
abbrev cX8_fled : ByteArray := prog_10_method_69_code
def yX8_fled : MethodName := ⟨RX8, "fled", "(II)I"⟩
abbrev cX8_guard : ByteArray := prog_10_method_70_code
def yX8_guard : MethodName := ⟨RX8, "guard", "(II)I"⟩
abbrev cX8_nextFar : ByteArray := prog_10_method_71_code
def yX8_nextFar : MethodName := ⟨RX8, "nextFar", "(I)I"⟩
abbrev cX8_round : ByteArray := prog_10_method_72_code
def yX8_round : MethodName := ⟨RX8, "round", "(II)I"⟩
abbrev cX8_reaches : ByteArray := prog_10_method_73_code
def yX8_reaches : MethodName := ⟨RX8, "reaches", "(II)V"⟩
abbrev cX8_roundsOn : ByteArray := prog_10_method_74_code
def yX8_roundsOn : MethodName := ⟨RX8, "roundsOn", "(III)V"⟩
abbrev cX8_took : ByteArray := prog_10_method_75_code
def yX8_took : MethodName := ⟨RX8, "took", "(IIIII)I"⟩
abbrev cX8_spentAt : ByteArray := prog_10_method_76_code
def yX8_spentAt : MethodName := ⟨RX8, "spentAt", "(I)I"⟩
abbrev cX8_spent : ByteArray := prog_10_method_77_code
def yX8_spent : MethodName := ⟨RX8, "spent", "(I)I"⟩
abbrev cX8_lie : ByteArray := prog_10_method_78_code
def yX8_lie : MethodName := ⟨RX8, "lie", "()I"⟩
abbrev cX8_write : ByteArray := prog_10_method_79_code
def yX8_write : MethodName := ⟨RX8, "write", "(I)I"⟩
abbrev cX8_tear : ByteArray := prog_10_method_80_code
def yX8_tear : MethodName := ⟨RX8, "tear", "()I"⟩
abbrev cX8_judge : ByteArray := prog_10_method_81_code
def yX8_judge : MethodName := ⟨RX8, "judge", "(II)I"⟩
abbrev cX8_seed : ByteArray := prog_10_method_82_code
def yX8_seed : MethodName := ⟨RX8, "seed", "(I)I"⟩
abbrev cX8_keep : ByteArray := prog_10_method_83_code
def yX8_keep : MethodName := ⟨RX8, "keep", "(I)I"⟩
abbrev cX8_goBack : ByteArray := prog_10_method_84_code
def yX8_goBack : MethodName := ⟨RX8, "goBack", "(I)I"⟩
def RJ6 : String := "java/lang/Integer"
abbrev cJ6_bitCount_0f7a4 : ByteArray := prog_11_method_49_code
def yJ6_bitCount_0f7a4 : MethodName := ⟨RJ6, "bitCount", "(I)I"⟩
def RL : String := "HasteRoadsLaw"
abbrev cL_law : ByteArray := code
abbrev vwCl : List vw_C := [(RX0, TX0, 2), (RX1, TX1, 3), (RX2, TX2, 6), (RX3, TX3, 5), (RX4, TX4, 5), (RX5, TX5, 6), (RX6, TX6, 16), (RX7, TX7, 11), (RX8, TX8, 39)]
end
section
/-! the words that a call may take along -/
def gtbl : List Cond := lw_tbl.filter goodWord
theorem gm {w : Cond} (i : Nat) (h : lw_tbl[i]? = some w) (hg : goodWord w = true) : w ∈ gtbl := List.mem_filter.mpr ⟨List.mem_of_getElem? h, hg⟩
def wsOf (y : MethodName) (b : ByteArray) (n : Nat) (r : Option FieldType) : List Cond := .code y b n r :: gtbl
theorem gtbl_good : ∀ w ∈ gtbl, goodWord w = true := fun _ h => (List.mem_filter.mp h).2
theorem good_ws {y : MethodName} {b : ByteArray} {n : Nat} {r : Option FieldType} (h : Cond.code y b n r ∈ gtbl) : GoodIn gtbl (wsOf y b n r) := by
  intro w hw
  rcases List.mem_cons.mp hw with rfl | hw
  · exact ⟨h, good_of_word (gtbl_good _ h)⟩
  · exact ⟨hw, good_of_word (gtbl_good _ hw)⟩
/-! the world: 92 cells; a state gives each int of each cell -/
abbrev St : Type := Nat → Nat → Int32
def up (S : St) (c k : Nat) (v : Int32) : St := fun c' k' => if c' = c ∧ k' = k then v else S c' k'
def cpS (S : St) (a d n : Nat) : St := fun c' k' => if c' = d ∧ k' < n then S a k' else S c' k'
abbrev ix (i : Int32) : Nat := i.toNatClampNeg
def kindL : List Nat := [9, 0, 0, 0, 0, 0, 0, 0, 0, 0, 0, 9, 0, 0, 0, 0, 0, 0, 0, 0, 0, 0, 9, 0, 0, 0, 0, 0, 0, 0, 0, 0, 0, 9, 0, 0, 0, 0, 0, 0, 0, 0, 0, 0, 10, 2, 1, 0, 8, 0, 7, 0, 0, 1, 0, 6, 0, 0, 1, 4, 0, 0, 0, 5, 0, 0, 0, 0, 0, 3, 0, 11, 0, 0, 0, 0, 0, 0, 1, 0, 0, 0, 1, 0, 1, 0, 0, 0, 1, 0, 0, 0]
def sizL : List Nat := [16, 9, 9, 9, 4, 4, 4, 4, 4, 4, 4, 16, 9, 9, 9, 4, 4, 4, 4, 4, 4, 4, 16, 9, 9, 9, 4, 4, 4, 4, 4, 4, 4, 16, 9, 9, 9, 4, 4, 4, 4, 4, 4, 4, 11, 2, 2, 6, 6, 250, 5, 2304, 36, 36, 6, 5, 6, 6, 6, 3, 6, 6, 6, 6, 20, 20, 20, 20, 20, 2, 30, 39, 250, 54, 40, 28, 28, 56, 2, 100, 30, 36, 36, 2304, 2304, 28, 6, 6, 6, 6, 36, 36]
def rfL : List (List Nat) := [[0, 0, 0, 0, 0, 0, 2, 3, 4, 5, 6, 7, 8, 9, 10, 11], [], [], [], [], [], [], [], [], [], [], [0, 0, 0, 0, 0, 0, 13, 14, 15, 16, 17, 18, 19, 20, 21, 22], [], [], [], [], [], [], [], [], [], [], [0, 0, 0, 0, 0, 0, 24, 25, 26, 27, 28, 29, 30, 31, 32, 33], [], [], [], [], [], [], [], [], [], [], [0, 0, 0, 0, 0, 0, 35, 36, 37, 38, 39, 40, 41, 42, 43, 44], [], [], [], [], [], [], [], [], [], [], [1, 12, 46, 47, 49, 51, 56, 60, 64, 70, 48], [], [], [], [50, 0, 0, 0, 0, 0], [], [12, 52, 53, 54, 55], [], [], [], [], [12, 51, 57, 58, 59], [], [], [], [61, 62, 63], [], [], [], [0, 65, 66, 67, 68, 69], [], [], [], [], [], [0, 71], [], [0, 73, 0, 0, 0, 0, 0, 0, 0, 0, 0, 0, 0, 74, 75, 0, 0, 0, 0, 0, 76, 77, 78, 79, 80, 0, 81, 0, 82, 83, 84, 85, 86, 87, 88, 89, 90, 91, 92], [], [], [], [], [], [], [], [], [], [], [], [], [], [], [], [], [], [], [], []]
def kd (c : Nat) : Nat := kindL.getD c 0
def sz (c : Nat) : Nat := sizL.getD c 0
def rfo (c k : Nat) : Nat := (rfL.getD c []).getD k 0
def fvl (ad : Nat → Nat) (S : St) (c k : Nat) : Value := match rfo c k with
  | 0 => .int (S c k)
  | d + 1 => .ref (ad d)
abbrev Cy : Type := ClassId × ClassId × ClassId
def ent (cy : Cy) (ad : Nat → Nat) (S : St) (c : Nat) : va_E := match kd c with
  | 0 => .inl (cy.1, sz c, .inl (S c))
  | 1 => .inl (cy.2.1, sz c, .inl (S c))
  | 2 => .inl (cy.2.2, sz c, .inr (.inr (.inr (.inr (fun i => some (ad (22 + 11 * i)))))))
  | n + 3 => .inr (n, (List.range (sz c)).map (fvl ad S c))
def wl (cy : Cy) (ad : Nat → Nat) (S : St) : va_W := (List.range 92).map (fun c => (ad c, ent cy ad S c))
theorem wl_at (cy : Cy) (ad : Nat → Nat) (S : St) {c : Nat} (h : c < 92) : (wl cy ad S)[c]? = some (ad c, ent cy ad S c) := by
  simp [wl, h]
theorem wl_set {cy : Cy} {ad : Nat → Nat} {S S' : St} {c : Nat} {e : va_E} (h : c < 92) (hc : ent cy ad S' c = e) (ho : ∀ c', c' ≠ c → ent cy ad S' c' = ent cy ad S c') : (wl cy ad S).set c (ad c, e) = wl cy ad S' := by
  subst hc
  apply List.ext_getElem?
  intro i
  by_cases hi : i = c
  · subst hi
    rw [List.getElem?_set_self (by simpa [wl] using h), wl_at cy ad S' h]
  · rw [List.getElem?_set_ne (fun q => hi q.symm)]
    by_cases h2 : i < 92
    · rw [wl_at cy ad S h2, wl_at cy ad S' h2, ho i hi]
    · simp [wl, h2]
theorem ent_up_ne {cy : Cy} {ad : Nat → Nat} {S : St} {c k : Nat} {v : Int32} : ∀ c', c' ≠ c → ent cy ad (up S c k v) c' = ent cy ad S c' := by
  intro c' h
  have e : up S c k v c' = S c' := by funext k'; simp [up, h]
  have e2 : fvl ad (up S c k v) c' = fvl ad S c' := by funext k'; simp [fvl, e]
  simp only [ent, e, e2]
theorem ent_cp_ne {cy : Cy} {ad : Nat → Nat} {S : St} {a d n : Nat} : ∀ c', c' ≠ d → ent cy ad (cpS S a d n) c' = ent cy ad S c' := by
  intro c' h
  have e : cpS S a d n c' = S c' := by funext k'; simp [cpS, h]
  have e2 : fvl ad (cpS S a d n) c' = fvl ad S c' := by funext k'; simp [fvl, e]
  simp only [ent, e, e2]
theorem ent_obj {cy : Cy} {ad : Nat → Nat} {S : St} {c ci N : Nat} (hk : kd c = ci + 3) (hz : sz c = N) : ent cy ad S c = .inr (ci, (List.range N).map (fvl ad S c)) := by
  simp only [ent, hk, hz]
theorem ent_int {cy : Cy} {ad : Nat → Nat} {S : St} {c N : Nat} (hk : kd c = 0) (hz : sz c = N) : ent cy ad S c = .inl (cy.1, N, .inl (S c)) := by
  simp only [ent, hk, hz]
theorem ent_boo {cy : Cy} {ad : Nat → Nat} {S : St} {c N : Nat} (hk : kd c = 1) (hz : sz c = N) : ent cy ad S c = .inl (cy.2.1, N, .inl (S c)) := by
  simp only [ent, hk, hz]
theorem ent_ref {cy : Cy} {ad : Nat → Nat} {S : St} {c N : Nat} (hk : kd c = 2) (hz : sz c = N) : ent cy ad S c = .inl (cy.2.2, N, .inr (.inr (.inr (.inr (fun i => some (ad (22 + 11 * i))))))) := by
  simp only [ent, hk, hz]
theorem map_range_set {α : Type} {N k : Nat} {f g : Nat → α} {v : α} (hk : g k = v) (ho : ∀ j, j ≠ k → g j = f j) : ((List.range N).map f).set k v = (List.range N).map g := by
  subst hk
  apply List.ext_getElem?
  intro i
  by_cases hi : i = k
  · subst hi
    by_cases h : i < N
    · rw [List.getElem?_set_self (by simpa using h)]; simp [h]
    · simp [h]
  · rw [List.getElem?_set_ne (fun q => hi q.symm)]
    by_cases h : i < N
    · simp [h, ho i hi]
    · simp [h]
theorem up_row {S : St} {c k : Nat} {v : Int32} : up S c k v c = upd (S c) k v := by
  funext j
  simp [up, upd]
theorem fvl_int {ad : Nat → Nat} {S : St} {c k : Nat} (h : rfo c k = 0) : fvl ad S c k = .int (S c k) := by simp [fvl, h]
theorem fvl_ref {ad : Nat → Nat} {S : St} {c k d : Nat} (h : rfo c k = d + 1) : fvl ad S c k = .ref (ad d) := by simp [fvl, h]
/-! cells by kind -/
def AI (c n : Nat) : Prop := c < 92 ∧ kd c = 0 ∧ sz c = n
def AZ (c n : Nat) : Prop := c < 92 ∧ kd c = 1 ∧ sz c = n
def Ob (c ci N : Nat) : Prop := c < 92 ∧ kd c = ci + 3 ∧ sz c = N
def isW (o : Nat) : Prop := o = 0 ∨ o = 11 ∨ o = 22 ∨ o = 33
theorem isW.ob {o : Nat} (h : isW o) : Ob o 6 16 := by rcases h with rfl | rfl | rfl | rfl <;> exact ⟨by decide, by decide, by decide⟩
theorem isW.a9 {o : Nat} (h : isW o) (j : Nat) (hj : j < 3) : AI (o + (j + 1)) 9 := by
  rcases h with rfl | rfl | rfl | rfl <;> (match j, hj with
    | 0, _ => exact ⟨by decide, by decide, by decide⟩
    | 1, _ => exact ⟨by decide, by decide, by decide⟩
    | 2, _ => exact ⟨by decide, by decide, by decide⟩)
theorem isW.a4 {o : Nat} (h : isW o) (j : Nat) (hj : j < 7) : AI (o + (j + 4)) 4 := by
  rcases h with rfl | rfl | rfl | rfl <;> (match j, hj with
    | 0, _ => exact ⟨by decide, by decide, by decide⟩
    | 1, _ => exact ⟨by decide, by decide, by decide⟩
    | 2, _ => exact ⟨by decide, by decide, by decide⟩
    | 3, _ => exact ⟨by decide, by decide, by decide⟩
    | 4, _ => exact ⟨by decide, by decide, by decide⟩
    | 5, _ => exact ⟨by decide, by decide, by decide⟩
    | 6, _ => exact ⟨by decide, by decide, by decide⟩)
theorem isW.ri {o : Nat} (h : isW o) (k : Nat) (hk : k < 6) : rfo o k = 0 := by
  rcases h with rfl | rfl | rfl | rfl <;> (match k, hk with
    | 0, _ => decide
    | 1, _ => decide
    | 2, _ => decide
    | 3, _ => decide
    | 4, _ => decide
    | 5, _ => decide)
theorem isW.rr {o : Nat} (h : isW o) (j : Nat) (hj : j < 10) : rfo o (j + 6) = o + (j + 1) + 1 := by
  rcases h with rfl | rfl | rfl | rfl <;> (match j, hj with
    | 0, _ => decide
    | 1, _ => decide
    | 2, _ => decide
    | 3, _ => decide
    | 4, _ => decide
    | 5, _ => decide
    | 6, _ => decide
    | 7, _ => decide
    | 8, _ => decide
    | 9, _ => decide)
theorem isW.r0 (i : Nat) (h : i < 2) : isW (22 + 11 * i) := by
  match i, h with
  | 0, _ => exact Or.inr (Or.inr (Or.inl rfl))
  | 1, _ => exact Or.inr (Or.inr (Or.inr rfl))
/-! what a walk stands in -/
abbrev Gx : Type := va_G × Cy × (Nat → Nat)
abbrev Cx : Type := Program × Launch × Env × Room × State × MethodId × Array Value × List Frame × Method × Code × Gx × (Nat × Nat) × (State → Prop)
abbrev xl (X : Cx) : Launch := X.2.1
abbrev xR (X : Cx) : Room := X.2.2.2.1
abbrev xs (X : Cx) : State := X.2.2.2.2.1
abbrev xm (X : Cx) : MethodId := X.2.2.2.2.2.1
abbrev xargs (X : Cx) : Array Value := X.2.2.2.2.2.2.1
abbrev xbelow (X : Cx) : List Frame := X.2.2.2.2.2.2.2.1
abbrev xmeth (X : Cx) : Method := X.2.2.2.2.2.2.2.2.1
abbrev xc (X : Cx) : Code := X.2.2.2.2.2.2.2.2.2.1
abbrev xG (X : Cx) : Gx := X.2.2.2.2.2.2.2.2.2.2.1
abbrev xcs (X : Cx) : Nat × Nat := X.2.2.2.2.2.2.2.2.2.2.2.1
abbrev xQ (X : Cx) : State → Prop := X.2.2.2.2.2.2.2.2.2.2.2.2
abbrev xad (X : Cx) : Nat → Nat := (xG X).2.2
def Fr (ad : Nat → Nat) : Nat → Prop := fun q => ∃ c, c < 92 ∧ q = ad c
def Inj (ad : Nat → Nat) : Prop := ∀ i j : Nat, i < 92 → j < 92 → ad i = ad j → i = j
abbrev WP (G : Gx) (S : St) (H : Heap) : Prop := va_P G.1 vwCl (wl G.2.1 G.2.2 S) H
def nestO : Cond := .methodLinkNest RX5 118 yX7_outside RX7
def nestB : Cond := .methodLinkNest RX5 68 yX7_withBit RX7
abbrev tysOf (cy : Cy) : List (ClassId × FieldType) := [(cy.1, .int), (cy.2.1, .boolean), (cy.2.2, .object RX6)]
def Kt (G : Gx) (U : State) : Prop := va_K G.1 vwCl (tysOf G.2.1) U ∧ va_Nw nestO U ∧ va_Nw nestB U
theorem Kt.warm {G : Gx} {s U : State} (hW : s.WarmedH U.vm) (h : Kt G s) : Kt G U := ⟨va_K.moved hW.alike h.1, va_Nw.warmM hW h.2.1, va_Nw.warmM hW h.2.2⟩
theorem Kt.same {G : Gx} {s U : State} (e : s.vm = U.vm) (h : Kt G s) : Kt G U := ⟨va_K.moved (by rw [e]; exact Vm.Alike.refl _) h.1, va_Nw.same rfl e h.2.1, va_Nw.same rfl e h.2.2⟩
def Wp (X : Cx) (nL pc : Nat) (L : List (Nat × Value)) (st : List Value) (S : St) : Prop :=
  ∀ (H : Heap) (locs : List Loc) (ls : Array Slot), lv_has ls nL L → WP (xG X) S H → va_S (Fr (xad X)) (xs X).heap H locs → W X.1 (xl X) X.2.2.1 (xR X) (xs X) (xm X) (xargs X) (xbelow X) (xmeth X) (xc X) H locs (xcs X).1 (xcs X).2 (xQ X) (F0 (xm X) pc ls st)
def Ok (X : Cx) (cc : ByteArray) (nL : Nat) (own : String) (fr lo : Nat) : Prop :=
  X.1.tables.exec = Jvm.exec ∧ (xc X).code = cc ∧ (xc X).maxLocals = nL ∧ (xs X).vm.findClass own = some (xm X).cls ∧ (∀ w ∈ gtbl, w.before (xargs X) (xs X) = true) ∧ Kt (xG X) (xs X) ∧ Inj (xad X) ∧ (fr ≤ (xR X).frames ∧ lo ≤ (xR X).locals) ∧ (xcs X).1 ≤ (xR X).cells ∧ (xcs X).2 ≤ (xR X).slots
theorem wl_D {cy : Cy} {ad : Nat → Nat} (S : St) (h : Inj ad) : va_D (Fr ad) (wl cy ad S) := by
  have key : ∀ (i : Nat) (p : Nat × va_E), (wl cy ad S)[i]? = some p → i < 92 ∧ p.1 = ad i := by
    intro i p hp
    by_cases h2 : i < 92
    · rw [wl_at cy ad S h2] at hp
      exact ⟨h2, by rw [← Option.some.inj hp]⟩
    · simp [wl, h2] at hp
  refine ⟨fun i j p q hp hq e => ?_, fun k q hk => ⟨k, (key k q hk).1, (key k q hk).2⟩⟩
  obtain ⟨a1, a2⟩ := key i p hp
  obtain ⟨b1, b2⟩ := key j q hq
  exact h i j a1 b1 (by rw [← a2, ← b2]; exact e)
section Rows
variable {X : Cx} {cc : ByteArray} {nL pc fr lo : Nat} {own : String} {L : List (Nat × Value)} {st : List Value} {S : St}
theorem r_iconst {n : Int} {v : Int32} (ok : Ok X cc nL own fr lo) (d : decode cc pc = .ok (.iconst n, 1)) (hv : Int32.ofInt n = v) (k : Wp X nL (pc + 1) L (.int v :: st) S) : Wp X nL pc L st S :=
  fun H locs ls hl hP hS => lv_iconst ok.1 ok.2.1 d hv (k H locs ls hl hP hS)
theorem r_bipush {n : Int} {v : Int32} (ok : Ok X cc nL own fr lo) (d : decode cc pc = .ok (.bipush n, 2)) (hv : (Int8.ofInt n).toInt32 = v) (k : Wp X nL (pc + 2) L (.int v :: st) S) : Wp X nL pc L st S :=
  fun H locs ls hl hP hS => lv_bipush ok.1 ok.2.1 d hv (k H locs ls hl hP hS)
theorem r_sipush {n : Int} {v : Int32} (ok : Ok X cc nL own fr lo) (d : decode cc pc = .ok (.sipush n, 3)) (hv : (Int16.ofInt n).toInt32 = v) (k : Wp X nL (pc + 3) L (.int v :: st) S) : Wp X nL pc L st S :=
  fun H locs ls hl hP hS => lv_sipush ok.1 ok.2.1 d hv (k H locs ls hl hP hS)
theorem r_ldc {idx : Nat} {v : Int32} (ok : Ok X cc nL own fr lo) (d : decode cc pc = .ok (.ldc idx, 2)) (hw : Cond.constant own idx v ∈ gtbl) (k : Wp X nL (pc + 2) L (.int v :: st) S) : Wp X nL pc L st S :=
  fun H locs ls hl hP hS => lv_ldc ok.1 ok.2.1 ok.2.2.2.1 (ok.2.2.2.2.1 _ hw) d (k H locs ls hl hP hS)
theorem r_ldcw {idx : Nat} {v : Int32} (ok : Ok X cc nL own fr lo) (d : decode cc pc = .ok (.ldc_w idx, 3)) (hw : Cond.constant own idx v ∈ gtbl) (k : Wp X nL (pc + 3) L (.int v :: st) S) : Wp X nL pc L st S :=
  fun H locs ls hl hP hS => lv_ldcw ok.1 ok.2.1 ok.2.2.2.1 (ok.2.2.2.2.1 _ hw) d (k H locs ls hl hP hS)
theorem r_ldc2 {idx : Nat} {v : Int64} (ok : Ok X cc nL own fr lo) (d : decode cc pc = .ok (.ldc2_w idx, 3)) (hw : Cond.constantLong own idx v ∈ gtbl) (k : Wp X nL (pc + 3) L (.long v :: st) S) : Wp X nL pc L st S :=
  fun H locs ls hl hP hS => lv_ldc2 ok.1 ok.2.1 ok.2.2.2.1 (ok.2.2.2.2.1 _ hw) d (k H locs ls hl hP hS)
theorem r_iload_n {kf : Fin 4} {x : Int32} (ok : Ok X cc nL own fr lo) (d : decode cc pc = .ok (.iload_n kf, 1)) (j : Nat) (hj : L[j]? = some ((kf : Nat), .int x)) (k : Wp X nL (pc + 1) L (.int x :: st) S) : Wp X nL pc L st S :=
  fun H locs ls hl hP hS => lv_iload_n ok.1 ok.2.1 d rfl (lv_at hl j hj) (k H locs ls hl hP hS)
theorem r_iload {i : Nat} {x : Int32} (ok : Ok X cc nL own fr lo) (d : decode cc pc = .ok (.iload i, 2)) (j : Nat) (hj : L[j]? = some (i, .int x)) (k : Wp X nL (pc + 2) L (.int x :: st) S) : Wp X nL pc L st S :=
  fun H locs ls hl hP hS => lv_iload ok.1 ok.2.1 d (lv_at hl j hj) (k H locs ls hl hP hS)
theorem r_aload_n {kf : Fin 4} {x : Nat} (ok : Ok X cc nL own fr lo) (d : decode cc pc = .ok (.aload_n kf, 1)) (j : Nat) (hj : L[j]? = some ((kf : Nat), .ref x)) (k : Wp X nL (pc + 1) L (.ref x :: st) S) : Wp X nL pc L st S :=
  fun H locs ls hl hP hS => lv_aload_n ok.1 ok.2.1 d rfl (lv_at hl j hj) (k H locs ls hl hP hS)
theorem r_istore_n {kf : Fin 4} {x : Int32} (ok : Ok X cc nL own fr lo) (d : decode cc pc = .ok (.istore_n kf, 1)) (hn : (kf : Nat) < nL) (L' : List (Nat × Value)) (ks : List Nat) (hl' : lv_pick (((kf : Nat), Value.int x) :: L.filter (fun q => !(q.1 == (kf : Nat)) && !(q.1 + 1 == (kf : Nat) && q.2.category == 2))) ks = L') (k : Wp X nL (pc + 1) L' st S) : Wp X nL pc L (.int x :: st) S :=
  fun H locs _ hl hP hS => lv_istore_n ok.1 ok.2.1 d rfl hl hn rfl (fun ls' h' => k H locs ls' (lv_sub h' ks hl') hP hS)
theorem r_istore {i : Nat} {x : Int32} (ok : Ok X cc nL own fr lo) (d : decode cc pc = .ok (.istore i, 2)) (hn : i < nL) (L' : List (Nat × Value)) (ks : List Nat) (hl' : lv_pick ((i, Value.int x) :: L.filter (fun q => !(q.1 == i) && !(q.1 + 1 == i && q.2.category == 2))) ks = L') (k : Wp X nL (pc + 2) L' st S) : Wp X nL pc L (.int x :: st) S :=
  fun H locs _ hl hP hS => lv_istore ok.1 ok.2.1 d hl hn rfl (fun ls' h' => k H locs ls' (lv_sub h' ks hl') hP hS)
theorem r_iinc {i : Nat} {n : Int} {x v : Int32} (ok : Ok X cc nL own fr lo) (d : decode cc pc = .ok (.iinc i n, 3)) (j : Nat) (hj : L[j]? = some (i, .int x)) (hv : x + Int32.ofInt n = v) (hn : i < nL) (L' : List (Nat × Value)) (ks : List Nat) (hl' : lv_pick ((i, Value.int v) :: L.filter (fun q => !(q.1 == i) && !(q.1 + 1 == i && q.2.category == 2))) ks = L') (k : Wp X nL (pc + 3) L' st S) : Wp X nL pc L st S :=
  fun H locs _ hl hP hS => lv_iinc ok.1 ok.2.1 d hl hj hv hn rfl (fun ls' h' => k H locs ls' (lv_sub h' ks hl') hP hS)
theorem r_sub (L' : List (Nat × Value)) (ks : List Nat) (hl' : lv_pick L ks = L') (k : Wp X nL pc L' st S) : Wp X nL pc L st S :=
  fun H locs ls hl hP hS => k H locs ls (lv_sub hl ks hl') hP hS
theorem r_iadd {x y : Int32} (ok : Ok X cc nL own fr lo) (d : decode cc pc = .ok (.iadd, 1)) (k : Wp X nL (pc + 1) L (.int (x + y) :: st) S) : Wp X nL pc L (.int y :: .int x :: st) S :=
  fun H locs ls hl hP hS => lv_iadd ok.1 ok.2.1 d (k H locs ls hl hP hS)
theorem r_isub {x y : Int32} (ok : Ok X cc nL own fr lo) (d : decode cc pc = .ok (.isub, 1)) (k : Wp X nL (pc + 1) L (.int (x - y) :: st) S) : Wp X nL pc L (.int y :: .int x :: st) S :=
  fun H locs ls hl hP hS => lv_isub ok.1 ok.2.1 d (k H locs ls hl hP hS)
theorem r_imul {x y : Int32} (ok : Ok X cc nL own fr lo) (d : decode cc pc = .ok (.imul, 1)) (k : Wp X nL (pc + 1) L (.int (x * y) :: st) S) : Wp X nL pc L (.int y :: .int x :: st) S :=
  fun H locs ls hl hP hS => lv_imul ok.1 ok.2.1 d (k H locs ls hl hP hS)
theorem r_iand {x y : Int32} (ok : Ok X cc nL own fr lo) (d : decode cc pc = .ok (.iand, 1)) (k : Wp X nL (pc + 1) L (.int (x &&& y) :: st) S) : Wp X nL pc L (.int y :: .int x :: st) S :=
  fun H locs ls hl hP hS => lv_iand ok.1 ok.2.1 d (k H locs ls hl hP hS)
theorem r_ior {x y : Int32} (ok : Ok X cc nL own fr lo) (d : decode cc pc = .ok (.ior, 1)) (k : Wp X nL (pc + 1) L (.int (x ||| y) :: st) S) : Wp X nL pc L (.int y :: .int x :: st) S :=
  fun H locs ls hl hP hS => lv_ior ok.1 ok.2.1 d (k H locs ls hl hP hS)
theorem r_ixor {x y : Int32} (ok : Ok X cc nL own fr lo) (d : decode cc pc = .ok (.ixor, 1)) (k : Wp X nL (pc + 1) L (.int (x ^^^ y) :: st) S) : Wp X nL pc L (.int y :: .int x :: st) S :=
  fun H locs ls hl hP hS => lv_ixor ok.1 ok.2.1 d (k H locs ls hl hP hS)
theorem r_ishl {x y : Int32} (ok : Ok X cc nL own fr lo) (d : decode cc pc = .ok (.ishl, 1)) (k : Wp X nL (pc + 1) L (.int (x <<< (y &&& 31)) :: st) S) : Wp X nL pc L (.int y :: .int x :: st) S :=
  fun H locs ls hl hP hS => lv_ishl ok.1 ok.2.1 d (k H locs ls hl hP hS)
theorem r_ishr {x y : Int32} (ok : Ok X cc nL own fr lo) (d : decode cc pc = .ok (.ishr, 1)) (k : Wp X nL (pc + 1) L (.int (x >>> (y &&& 31)) :: st) S) : Wp X nL pc L (.int y :: .int x :: st) S :=
  fun H locs ls hl hP hS => lv_ishr ok.1 ok.2.1 d (k H locs ls hl hP hS)
def iushr (x y : Int32) : Int32 := (x.toUInt32 >>> (y.toUInt32 &&& Int32.toUInt32 31)).toInt32
theorem r_iushr {x y : Int32} (ok : Ok X cc nL own fr lo) (d : decode cc pc = .ok (.iushr, 1)) (k : Wp X nL (pc + 1) L (.int (iushr x y) :: st) S) : Wp X nL pc L (.int y :: .int x :: st) S :=
  fun H locs ls hl hP hS => lv_iushr ok.1 ok.2.1 d rfl (k H locs ls hl hP hS)
theorem r_idiv {x y : Int32} (ok : Ok X cc nL own fr lo) (d : decode cc pc = .ok (.idiv, 1)) (h0 : ¬ y = 0) (k : Wp X nL (pc + 1) L (.int (x / y) :: st) S) : Wp X nL pc L (.int y :: .int x :: st) S :=
  fun H locs ls hl hP hS => lv_idiv ok.1 ok.2.1 d h0 (k H locs ls hl hP hS)
theorem r_irem {x y : Int32} (ok : Ok X cc nL own fr lo) (d : decode cc pc = .ok (.irem, 1)) (h0 : ¬ y = 0) (k : Wp X nL (pc + 1) L (.int (x - x / y * y) :: st) S) : Wp X nL pc L (.int y :: .int x :: st) S :=
  fun H locs ls hl hP hS => lv_irem ok.1 ok.2.1 d h0 (k H locs ls hl hP hS)
theorem r_i2l {x : Int32} (ok : Ok X cc nL own fr lo) (d : decode cc pc = .ok (.i2l, 1)) (k : Wp X nL (pc + 1) L (.long x.toInt64 :: st) S) : Wp X nL pc L (.int x :: st) S :=
  fun H locs ls hl hP hS => lv_i2l ok.1 ok.2.1 d rfl (k H locs ls hl hP hS)
theorem r_l2i {x : Int64} (ok : Ok X cc nL own fr lo) (d : decode cc pc = .ok (.l2i, 1)) (k : Wp X nL (pc + 1) L (.int x.toInt32 :: st) S) : Wp X nL pc L (.long x :: st) S :=
  fun H locs ls hl hP hS => lv_l2i ok.1 ok.2.1 d rfl (k H locs ls hl hP hS)
theorem r_lmul {x y : Int64} (ok : Ok X cc nL own fr lo) (d : decode cc pc = .ok (.lmul, 1)) (k : Wp X nL (pc + 1) L (.long (x * y) :: st) S) : Wp X nL pc L (.long y :: .long x :: st) S :=
  fun H locs ls hl hP hS => lv_lmul ok.1 ok.2.1 d (k H locs ls hl hP hS)
theorem r_ladd {x y : Int64} (ok : Ok X cc nL own fr lo) (d : decode cc pc = .ok (.ladd, 1)) (k : Wp X nL (pc + 1) L (.long (x + y) :: st) S) : Wp X nL pc L (.long y :: .long x :: st) S :=
  fun H locs ls hl hP hS => lv_ladd ok.1 ok.2.1 d (k H locs ls hl hP hS)
theorem r_land {x y : Int64} (ok : Ok X cc nL own fr lo) (d : decode cc pc = .ok (.land, 1)) (k : Wp X nL (pc + 1) L (.long (x &&& y) :: st) S) : Wp X nL pc L (.long y :: .long x :: st) S :=
  fun H locs ls hl hP hS => lv_land ok.1 ok.2.1 d (k H locs ls hl hP hS)
theorem r_dup {v : Value} (ok : Ok X cc nL own fr lo) (d : decode cc pc = .ok (.dup, 1)) (hv : v.category = 1) (k : Wp X nL (pc + 1) L (v :: v :: st) S) : Wp X nL pc L (v :: st) S :=
  fun H locs ls hl hP hS => lv_dup ok.1 ok.2.1 d hv (k H locs ls hl hP hS)
theorem r_dup2 {u v : Value} (ok : Ok X cc nL own fr lo) (d : decode cc pc = .ok (.dup2, 1)) (hu : u.category = 1) (hv : v.category = 1) (k : Wp X nL (pc + 1) L (u :: v :: u :: v :: st) S) : Wp X nL pc L (u :: v :: st) S :=
  fun H locs ls hl hP hS => lv_dup2_11 ok.1 ok.2.1 d hu hv (k H locs ls hl hP hS)
theorem r_goto {off : Int} {tgt : Nat} (ok : Ok X cc nL own fr lo) (d : decode cc pc = .ok (.goto off, 3)) (ht : (pc : Int) + off = (tgt : Int)) (k : Wp X nL tgt L st S) : Wp X nL pc L st S :=
  fun H locs ls hl hP hS => lv_goto ok.1 ok.2.1 d ht (k H locs ls hl hP hS)
theorem r_icmp_eq {x y : Int32} {off : Int} {tgt : Nat} (ok : Ok X cc nL own fr lo) (d : decode cc pc = .ok (.if_icmp .eq off, 3)) (ht : (pc : Int) + off = (tgt : Int)) (kt : x = y → Wp X nL tgt L st S) (kf : ¬ x = y → Wp X nL (pc + 3) L st S) : Wp X nL pc L (.int y :: .int x :: st) S :=
  fun H locs ls hl hP hS => lv_icmp_eq ok.1 ok.2.1 d ht (fun h => kt h H locs ls hl hP hS) (fun h => kf h H locs ls hl hP hS)
theorem r_icmp_ne {x y : Int32} {off : Int} {tgt : Nat} (ok : Ok X cc nL own fr lo) (d : decode cc pc = .ok (.if_icmp .ne off, 3)) (ht : (pc : Int) + off = (tgt : Int)) (kt : ¬ x = y → Wp X nL tgt L st S) (kf : x = y → Wp X nL (pc + 3) L st S) : Wp X nL pc L (.int y :: .int x :: st) S :=
  fun H locs ls hl hP hS => lv_icmp_ne ok.1 ok.2.1 d ht (fun h => kt h H locs ls hl hP hS) (fun h => kf h H locs ls hl hP hS)
theorem r_icmp_lt {x y : Int32} {off : Int} {tgt : Nat} (ok : Ok X cc nL own fr lo) (d : decode cc pc = .ok (.if_icmp .lt off, 3)) (ht : (pc : Int) + off = (tgt : Int)) (kt : x < y → Wp X nL tgt L st S) (kf : ¬ x < y → Wp X nL (pc + 3) L st S) : Wp X nL pc L (.int y :: .int x :: st) S :=
  fun H locs ls hl hP hS => lv_icmp_lt ok.1 ok.2.1 d ht (fun h => kt h H locs ls hl hP hS) (fun h => kf h H locs ls hl hP hS)
theorem r_icmp_ge {x y : Int32} {off : Int} {tgt : Nat} (ok : Ok X cc nL own fr lo) (d : decode cc pc = .ok (.if_icmp .ge off, 3)) (ht : (pc : Int) + off = (tgt : Int)) (kt : y ≤ x → Wp X nL tgt L st S) (kf : ¬ y ≤ x → Wp X nL (pc + 3) L st S) : Wp X nL pc L (.int y :: .int x :: st) S :=
  fun H locs ls hl hP hS => lv_icmp_ge ok.1 ok.2.1 d ht (fun h => kt h H locs ls hl hP hS) (fun h => kf h H locs ls hl hP hS)
theorem r_icmp_gt {x y : Int32} {off : Int} {tgt : Nat} (ok : Ok X cc nL own fr lo) (d : decode cc pc = .ok (.if_icmp .gt off, 3)) (ht : (pc : Int) + off = (tgt : Int)) (kt : y < x → Wp X nL tgt L st S) (kf : ¬ y < x → Wp X nL (pc + 3) L st S) : Wp X nL pc L (.int y :: .int x :: st) S :=
  fun H locs ls hl hP hS => lv_icmp_gt ok.1 ok.2.1 d ht (fun h => kt h H locs ls hl hP hS) (fun h => kf h H locs ls hl hP hS)
theorem r_icmp_le {x y : Int32} {off : Int} {tgt : Nat} (ok : Ok X cc nL own fr lo) (d : decode cc pc = .ok (.if_icmp .le off, 3)) (ht : (pc : Int) + off = (tgt : Int)) (kt : x ≤ y → Wp X nL tgt L st S) (kf : ¬ x ≤ y → Wp X nL (pc + 3) L st S) : Wp X nL pc L (.int y :: .int x :: st) S :=
  fun H locs ls hl hP hS => lv_icmp_le ok.1 ok.2.1 d ht (fun h => kt h H locs ls hl hP hS) (fun h => kf h H locs ls hl hP hS)
theorem r_if_eq {x : Int32} {off : Int} {tgt : Nat} (ok : Ok X cc nL own fr lo) (d : decode cc pc = .ok (.ifCond .eq off, 3)) (ht : (pc : Int) + off = (tgt : Int)) (kt : x = 0 → Wp X nL tgt L st S) (kf : ¬ x = 0 → Wp X nL (pc + 3) L st S) : Wp X nL pc L (.int x :: st) S :=
  fun H locs ls hl hP hS => lv_if_eq ok.1 ok.2.1 d ht (fun h => kt h H locs ls hl hP hS) (fun h => kf h H locs ls hl hP hS)
theorem r_if_ne {x : Int32} {off : Int} {tgt : Nat} (ok : Ok X cc nL own fr lo) (d : decode cc pc = .ok (.ifCond .ne off, 3)) (ht : (pc : Int) + off = (tgt : Int)) (kt : ¬ x = 0 → Wp X nL tgt L st S) (kf : x = 0 → Wp X nL (pc + 3) L st S) : Wp X nL pc L (.int x :: st) S :=
  fun H locs ls hl hP hS => lv_if_ne ok.1 ok.2.1 d ht (fun h => kt h H locs ls hl hP hS) (fun h => kf h H locs ls hl hP hS)
theorem r_if_lt {x : Int32} {off : Int} {tgt : Nat} (ok : Ok X cc nL own fr lo) (d : decode cc pc = .ok (.ifCond .lt off, 3)) (ht : (pc : Int) + off = (tgt : Int)) (kt : x < 0 → Wp X nL tgt L st S) (kf : ¬ x < 0 → Wp X nL (pc + 3) L st S) : Wp X nL pc L (.int x :: st) S :=
  fun H locs ls hl hP hS => lv_if_lt ok.1 ok.2.1 d ht (fun h => kt h H locs ls hl hP hS) (fun h => kf h H locs ls hl hP hS)
theorem r_if_ge {x : Int32} {off : Int} {tgt : Nat} (ok : Ok X cc nL own fr lo) (d : decode cc pc = .ok (.ifCond .ge off, 3)) (ht : (pc : Int) + off = (tgt : Int)) (kt : 0 ≤ x → Wp X nL tgt L st S) (kf : ¬ 0 ≤ x → Wp X nL (pc + 3) L st S) : Wp X nL pc L (.int x :: st) S :=
  fun H locs ls hl hP hS => lv_if_ge ok.1 ok.2.1 d ht (fun h => kt h H locs ls hl hP hS) (fun h => kf h H locs ls hl hP hS)
theorem r_if_gt {x : Int32} {off : Int} {tgt : Nat} (ok : Ok X cc nL own fr lo) (d : decode cc pc = .ok (.ifCond .gt off, 3)) (ht : (pc : Int) + off = (tgt : Int)) (kt : 0 < x → Wp X nL tgt L st S) (kf : ¬ 0 < x → Wp X nL (pc + 3) L st S) : Wp X nL pc L (.int x :: st) S :=
  fun H locs ls hl hP hS => lv_if_gt ok.1 ok.2.1 d ht (fun h => kt h H locs ls hl hP hS) (fun h => kf h H locs ls hl hP hS)
theorem r_if_le {x : Int32} {off : Int} {tgt : Nat} (ok : Ok X cc nL own fr lo) (d : decode cc pc = .ok (.ifCond .le off, 3)) (ht : (pc : Int) + off = (tgt : Int)) (kt : x ≤ 0 → Wp X nL tgt L st S) (kf : ¬ x ≤ 0 → Wp X nL (pc + 3) L st S) : Wp X nL pc L (.int x :: st) S :=
  fun H locs ls hl hP hS => lv_if_le ok.1 ok.2.1 d ht (fun h => kt h H locs ls hl hP hS) (fun h => kf h H locs ls hl hP hS)
theorem r_get {c ci N idx : Nat} {C : String} {T : u_T} (ok : Ok X cc nL own fr lo) (hc : Ob c ci N) (hcl : vwCl[ci]? = some (C, T, N)) (hin : ∀ w ∈ u_ws C T N, w ∈ gtbl) (k : Nat) (hk : k < N) (hw : Cond.fieldLink own idx (T k).1 (T k).2.1 (T k).2.2.1 ∈ gtbl) (d : decode cc pc = .ok (.getfield idx, 3)) (kk : Wp X nL (pc + 3) L (fvl (xad X) S c k :: st) S) : Wp X nL pc L (.ref (xad X c) :: st) S :=
  fun H locs ls hl hP hS => va_get (D := (xG X).1) (ci := ci) (C := C) (T := T) (N := N) ok.1 ok.2.1 ok.2.2.2.2.1 hin ok.2.2.2.1 ok.2.2.2.2.2.1.1 hP c ((wl_at _ _ _ hc.1).trans (congrArg some (Prod.ext rfl (ent_obj hc.2.1 hc.2.2)))) hcl k hk (ok.2.2.2.2.1 _ hw) (fun _ h9 => h9) (by simp [hk]) d (kk H locs ls hl hP hS)
theorem r_put {c ci N idx : Nat} {C : String} {T : u_T} {v : Int32} (ok : Ok X cc nL own fr lo) (hc : Ob c ci N) (hcl : vwCl[ci]? = some (C, T, N)) (hin : ∀ w ∈ u_ws C T N, w ∈ gtbl) (ty0 : Nat → FieldType) (hty : ∀ k, k < N → parseFieldDescriptor (T k).2.2.1 = some (ty0 k)) (hnm : ∀ a, a < N → ∀ b, b < N → a ≠ b → (T a).2.1 ≠ (T b).2.1) (k : Nat) (hk : k < N) (hw : Cond.fieldLink own idx (T k).1 (T k).2.1 (T k).2.2.1 ∈ gtbl) (hf : (T k).2.2.2 = false) (hi : ty0 k = .int) (hr : rfo c k = 0) (d : decode cc pc = .ok (.putfield idx, 3)) (kk : Wp X nL (pc + 3) L st (up S c k v)) : Wp X nL pc L (.int v :: .ref (xad X c) :: st) S := by
  intro H locs ls hl hP hS
  refine va_put (D := (xG X).1) (ci := ci) (ty := .int) (v := .int v) (C := C) (T := T) (N := N) ok.1 ok.2.1 ok.2.2.2.2.1 hin ty0 hty hnm ok.2.2.2.1 ok.2.2.2.2.2.1.1 hP (wl_D S ok.2.2.2.2.2.2.1) hS c ((wl_at _ _ _ hc.1).trans (congrArg some (Prod.ext rfl (ent_obj hc.2.1 hc.2.2)))) hcl k hk (ok.2.2.2.2.1 _ hw) (fun _ h9 => h9) hf (by rw [hty k hk, hi]) rfl rfl (by simpa using hk) d (fun H1 locs1 hP1 _ hS1 => ?_)
  have e : ((wl (xG X).2.1 (xad X) S).set c (xad X c, .inr (ci, ((List.range N).map (fvl (xad X) S c)).set k (.int v)))) = wl (xG X).2.1 (xad X) (up S c k v) := by
    refine wl_set hc.1 ?_ ent_up_ne
    rw [ent_obj hc.2.1 hc.2.2]
    refine congrArg (fun z => Sum.inr (ci, z)) (map_range_set (by rw [fvl_int hr]; simp [up]) (fun j hj => ?_)).symm
    simp [fvl, up, hj]
  exact kk H1 locs1 ls hl (by rw [e] at hP1; exact hP1) hS1
theorem r_iald {c n : Nat} {i : Int32} (ok : Ok X cc nL own fr lo) (hc : AI c n) (hin : vp_in i n) (d : decode cc pc = .ok (.iaload, 1)) (kk : Wp X nL (pc + 1) L (.int (S c (ix i)) :: st) S) : Wp X nL pc L (.int i :: .ref (xad X c) :: st) S :=
  fun H locs ls hl hP hS => va_iald (D := (xG X).1) ok.1 ok.2.1 ok.2.2.2.2.2.1.1 hP c 0 ((wl_at _ _ _ hc.1).trans (congrArg some (Prod.ext rfl (ent_int hc.2.1 hc.2.2)))) rfl hin d (kk H locs ls hl hP hS)
theorem r_zald {c n : Nat} {i : Int32} (ok : Ok X cc nL own fr lo) (hc : AZ c n) (hin : vp_in i n) (d : decode cc pc = .ok (.baload, 1)) (kk : Wp X nL (pc + 1) L (.int (S c (ix i)) :: st) S) : Wp X nL pc L (.int i :: .ref (xad X c) :: st) S :=
  fun H locs ls hl hP hS => va_zald (D := (xG X).1) ok.1 ok.2.1 ok.2.2.2.2.2.1.1 hP c 1 ((wl_at _ _ _ hc.1).trans (congrArg some (Prod.ext rfl (ent_boo hc.2.1 hc.2.2)))) rfl hin d (kk H locs ls hl hP hS)
theorem r_aald {c n : Nat} {i : Int32} (ok : Ok X cc nL own fr lo) (hc : c < 92 ∧ kd c = 2 ∧ sz c = n) (hin : vp_in i n) (d : decode cc pc = .ok (.aaload, 1)) (kk : Wp X nL (pc + 1) L (.ref (xad X (22 + 11 * ix i)) :: st) S) : Wp X nL pc L (.int i :: .ref (xad X c) :: st) S :=
  fun H locs ls hl hP hS => va_aldq (D := (xG X).1) ok.1 ok.2.1 ok.2.2.2.2.2.1.1 hP c 2 ((wl_at _ _ _ hc.1).trans (congrArg some (Prod.ext rfl (ent_ref hc.2.1 hc.2.2)))) rfl hin d (kk H locs ls hl hP hS)
theorem r_iast {c n : Nat} {i v : Int32} (ok : Ok X cc nL own fr lo) (hc : AI c n) (hin : vp_in i n) (d : decode cc pc = .ok (.iastore, 1)) (kk : Wp X nL (pc + 1) L st (up S c (ix i) v)) : Wp X nL pc L (.int v :: .int i :: .ref (xad X c) :: st) S := by
  intro H locs ls hl hP hS
  refine va_iast (D := (xG X).1) ok.1 ok.2.1 ok.2.2.2.2.2.1.1 hP (wl_D S ok.2.2.2.2.2.2.1) hS c 0 ((wl_at _ _ _ hc.1).trans (congrArg some (Prod.ext rfl (ent_int hc.2.1 hc.2.2)))) rfl hin d (fun H1 locs1 hP1 _ hS1 => ?_)
  have e : (wl (xG X).2.1 (xad X) S).set c (xad X c, .inl ((xG X).2.1.1, n, .inl (upd (S c) (ix i) v))) = wl (xG X).2.1 (xad X) (up S c (ix i) v) := by
    refine wl_set hc.1 ?_ ent_up_ne
    rw [ent_int hc.2.1 hc.2.2, up_row]
  exact kk H1 locs1 ls hl (by rw [e] at hP1; exact hP1) hS1
theorem nar_bool {v : Int32} (h : v = 0 ∨ v = 1) : vp_nar .boolean v = v := by rcases h with rfl | rfl <;> decide
theorem r_zast {c n : Nat} {i v : Int32} (ok : Ok X cc nL own fr lo) (hc : AZ c n) (hin : vp_in i n) (hv : v = 0 ∨ v = 1) (d : decode cc pc = .ok (.bastore, 1)) (kk : Wp X nL (pc + 1) L st (up S c (ix i) v)) : Wp X nL pc L (.int v :: .int i :: .ref (xad X c) :: st) S := by
  intro H locs ls hl hP hS
  refine va_zast (D := (xG X).1) ok.1 ok.2.1 ok.2.2.2.2.2.1.1 hP (wl_D S ok.2.2.2.2.2.2.1) hS c 1 ((wl_at _ _ _ hc.1).trans (congrArg some (Prod.ext rfl (ent_boo hc.2.1 hc.2.2)))) rfl hin d (fun H1 locs1 hP1 _ hS1 => ?_)
  rw [nar_bool hv] at hP1
  have e : (wl (xG X).2.1 (xad X) S).set c (xad X c, .inl ((xG X).2.1.2.1, n, .inl (upd (S c) (ix i) v))) = wl (xG X).2.1 (xad X) (up S c (ix i) v) := by
    refine wl_set hc.1 ?_ ent_up_ne
    rw [ent_boo hc.2.1 hc.2.2, up_row]
  exact kk H1 locs1 ls hl (by rw [e] at hP1; exact hP1) hS1
theorem r_max {idx : Nat} {x y : Int32} (ok : Ok X cc nL own fr lo) (d : decode cc pc = .ok (.invokestatic idx, 3)) (hw : Cond.methodLink own idx Lib.Math.max.name ∈ gtbl) (h1 : Cond.static Lib.Math.max.name ∈ gtbl) (h2 : Cond.initialized "java/lang/Math" ∈ gtbl) (h3 : Cond.code Lib.Math.max.name Lib.Math.max.code 2 (some .int) ∈ gtbl) (hf : 1 ≤ fr) (hs : (st.map fun v => v.category).sum + 13 ≤ lo) (k : Wp X nL (pc + 3) L (.int (if x < y then y else x) :: st) S) : Wp X nL pc L (.int y :: .int x :: st) S :=
  fun H locs ls hl hP hS => va_mmax ok.1 ok.2.1 (ok.2.2.1.trans hl.1.symm) ok.2.2.2.1 (ok.2.2.2.2.1 _ hw) (ok.2.2.2.2.1 _ h1) (ok.2.2.2.2.1 _ h2) (ok.2.2.2.2.1 _ h3) (Nat.le_trans hf ok.2.2.2.2.2.2.2.1.1) (Nat.le_trans hs ok.2.2.2.2.2.2.2.1.2) ok.2.2.2.2.2.2.2.2.1 ok.2.2.2.2.2.2.2.2.2 d (k H locs ls hl hP hS)
theorem r_min {idx : Nat} {x y : Int32} (ok : Ok X cc nL own fr lo) (d : decode cc pc = .ok (.invokestatic idx, 3)) (hw : Cond.methodLink own idx Lib.Math.min.name ∈ gtbl) (h1 : Cond.static Lib.Math.min.name ∈ gtbl) (h2 : Cond.initialized "java/lang/Math" ∈ gtbl) (h3 : Cond.code Lib.Math.min.name Lib.Math.min.code 2 (some .int) ∈ gtbl) (hf : 1 ≤ fr) (hs : (st.map fun v => v.category).sum + 13 ≤ lo) (k : Wp X nL (pc + 3) L (.int (if y < x then y else x) :: st) S) : Wp X nL pc L (.int y :: .int x :: st) S :=
  fun H locs ls hl hP hS => va_mmin ok.1 ok.2.1 (ok.2.2.1.trans hl.1.symm) ok.2.2.2.1 (ok.2.2.2.2.1 _ hw) (ok.2.2.2.2.1 _ h1) (ok.2.2.2.2.1 _ h2) (ok.2.2.2.2.1 _ h3) (Nat.le_trans hf ok.2.2.2.2.2.2.2.1.1) (Nat.le_trans hs ok.2.2.2.2.2.2.2.1.2) ok.2.2.2.2.2.2.2.2.1 ok.2.2.2.2.2.2.2.2.2 d (k H locs ls hl hP hS)
theorem r_copy {idx c a N : Nat} {n : Int32} (ok : Ok X cc nL own fr lo) (ha : AI a N) (hc : AI c N) (d : decode cc pc = .ok (.invokestatic idx, 3)) (hw : Cond.methodLink own idx arraycopyName ∈ gtbl) (h1 : Cond.native arraycopyName ∈ gtbl) (h2 : Cond.static arraycopyName ∈ gtbl) (h3 : Cond.initialized "java/lang/System" ∈ gtbl) (hn0 : ¬ n < 0) (hn : n.toNatClampNeg = N) (hf : 1 ≤ fr) (hs : (st.map fun v => v.category).sum + (nativeFrameWords "java/lang/System" "arraycopy" 5 + 11) ≤ lo) (k : Wp X nL (pc + 3) L st (cpS S a c N)) : Wp X nL pc L (.int n :: .int 0 :: .ref (xad X c) :: .int 0 :: .ref (xad X a) :: st) S := by
  intro H locs ls hl hP hS
  refine va_copyi (D := (xG X).1) ok.1 ok.2.1 (ok.2.2.1.trans hl.1.symm) ok.2.2.2.1 (ok.2.2.2.2.1 _ hw) (ok.2.2.2.2.1 _ h1) (ok.2.2.2.2.1 _ h2) (ok.2.2.2.2.1 _ h3) ok.2.2.2.2.2.1.1 hP (wl_D S ok.2.2.2.2.2.2.1) hS a c 0 0 ((wl_at _ _ _ ha.1).trans (congrArg some (Prod.ext rfl (ent_int ha.2.1 ha.2.2)))) ((wl_at _ _ _ hc.1).trans (congrArg some (Prod.ext rfl (ent_int hc.2.1 hc.2.2)))) rfl rfl rfl (by decide) (by decide) hn0 (by rw [hn, sb_cl0]; omega) (by rw [hn, sb_cl0]; omega) (fun _ _ => rfl) (Nat.le_trans hf ok.2.2.2.2.2.2.2.1.1) (Nat.le_trans hs ok.2.2.2.2.2.2.2.1.2) d (fun H1 locs1 hP1 _ hS1 => ?_)
  rw [hn, sb_cl0] at hP1
  have e : (wl (xG X).2.1 (xad X) S).set c (xad X c, .inl ((xG X).2.1.1, N, .inl (va_cpy (S a) (S c) 0 0 N))) = wl (xG X).2.1 (xad X) (cpS S a c N) := by
    refine wl_set hc.1 ?_ ent_cp_ne
    rw [ent_int hc.2.1 hc.2.2]
    refine congrArg (fun z => Sum.inl ((xG X).2.1.1, N, Sum.inl z)) (funext fun j => ?_)
    simp [cpS, va_cpy]
  exact k H1 locs1 ls hl (by rw [e] at hP1; exact hP1) hS1
end Rows
/-! contracts -/
def PreC (G : Gx) (av : List Value) (S : St) : Array Value → State → Prop := va_Pc av (fun U => WP G S U.heap ∧ Inj G.2.2 ∧ Kt G U)
def PoI (G : Gx) (post : Int32 → St → Prop) : Array Value → State → Outcome → State → Prop := va_Qi post (fun S' t => WP G S' t.heap) (Fr G.2.2)
def PoV (G : Gx) (post : St → Prop) : Array Value → State → Outcome → State → Prop := va_Qv post (fun S' t => WP G S' t.heap) (Fr G.2.2)
abbrev rmOf (f lo : Nat) : Room := { frames := f, cells := 0, slots := 0, locals := lo }
abbrev MtI (l : Launch) (y : MethodName) (b : ByteArray) (n : Nat) (r : Option FieldType) (f lo : Nat) (G : Gx) (av : List Value) (S : St) (post : Int32 → St → Prop) : Prop := Met l y (wsOf y b n r) (rmOf f lo) (PreC G av S) (PoI G post) 0 0 (Fr G.2.2)
abbrev MtV (l : Launch) (y : MethodName) (b : ByteArray) (n : Nat) (f lo : Nat) (G : Gx) (av : List Value) (S : St) (post : St → Prop) : Prop := Met l y (wsOf y b n none) (rmOf f lo) (PreC G av S) (PoV G post) 0 0 (Fr G.2.2)
def RetI (X : Cx) (cc : ByteArray) (nL : Nat) (post : Int32 → St → Prop) : Prop := ∀ (pc : Nat) (L : List (Nat × Value)) (v : Int32) (S : St), decode cc pc = .ok (.ireturn, 1) → post v S → Wp X nL pc L [.int v] S
def RetZ (X : Cx) (cc : ByteArray) (nL : Nat) (post : Int32 → St → Prop) : Prop := ∀ (pc : Nat) (L : List (Nat × Value)) (v : Int32) (S : St), decode cc pc = .ok (.ireturn, 1) → (v = 0 ∨ v = 1) → post v S → Wp X nL pc L [.int v] S
def RetV (X : Cx) (cc : ByteArray) (nL : Nat) (post : St → Prop) : Prop := ∀ (pc : Nat) (L : List (Nat × Value)) (S : St), decode cc pc = .ok (.return_, 1) → post S → Wp X nL pc L [] S
theorem PreC.blind {G : Gx} {av : List Value} {S : St} : FrameBlind (PreC G av S) := fun _ _ _ _ q => ⟨q.1, q.2.1, q.2.2.1, q.2.2.2.same rfl⟩
section Entry
variable {l : Launch} {y : MethodName} {b : ByteArray} {n f lo : Nat} {G : Gx} {av : List Value} {S : St}
theorem ctx_entry {own : String} {ret : Option FieldType} {Qc : Array Value → State → Outcome → State → Prop} {K : Cx → Prop} (hy : plainName y.cls = true) (hown : y.cls = own) (hn : (lg_sl av).length ≤ n)
    (hK : ∀ p e s m args below meth c, meth.locks = false → meth.sig.returnType = ret → Ok (p, l, e, rmOf f lo, s, m, args, below, meth, c, G, (0, 0), MQ below Qc args s 0 0 (Fr G.2.2)) b n own f lo → K (p, l, e, rmOf f lo, s, m, args, below, meth, c, G, (0, 0), MQ below Qc args s 0 0 (Fr G.2.2)))
    (body : ∀ X : Cx, xl X = l → xG X = G → Ok X b n own f lo → K X → Wp X n 0 (lv_args 0 av) [] S) : Met l y (wsOf y b n ret) (rmOf f lo) (PreC G av S) Qc 0 0 (Fr G.2.2) := by
  refine Met.ofW (cc := b) (maxL := n) (ret := ret) hy rfl ?_
  intro p e s m args below meth c s₁ B hml hv
  obtain ⟨rfl, hP, hI, hKt⟩ := hv
  have hts := atoms_spec (ws := wsOf y b n ret) B.pre
  have hfc : s.vm.findClass own = some m.cls := hown ▸ findClass_of_methodNamed B.named
  have hok : Ok (p, l, e, rmOf f lo, s, m, av.toArray, below, meth, c, G, (0, 0), MQ below Qc av.toArray s 0 0 (Fr G.2.2)) b n own f lo := ⟨B.exec, B.bytes, hml, hfc, fun w hw => hts w (List.mem_cons_of_mem _ hw), hKt, hI, ⟨Nat.le_refl _, Nat.le_refl _⟩, Nat.zero_le _, Nat.zero_le _⟩
  have hl := lv_entry av (n := n) hn
  rw [lg_entry_eq]
  exact body _ rfl rfl hok (hK p e s m _ below meth c B.notSynchronized B.returns hok) s.heap [] _ hl hP va_S.rf
theorem ctI {own : String} {post : Int32 → St → Prop} (hy : plainName y.cls = true) (hown : y.cls = own) (hn : (lg_sl av).length ≤ n) (body : ∀ X : Cx, xl X = l → xG X = G → Ok X b n own f lo → RetI X b n post → Wp X n 0 (lv_args 0 av) [] S) : MtI l y b n (some .int) f lo G av S post := by
  refine ctx_entry (K := fun X => RetI X b n post) hy hown hn ?_ body
  intro p e s m args below meth c hlk hr ok pc L v S' d hp H locs ls _ hP hS
  exact W.iret ok.1 ok.2.1 hr (fun t ht _ => ⟨⟨v, S', rfl, hp, by show WP G S' t.heap; rw [ht]; exact hP⟩, hS.F ht⟩) hS.2.2 d hlk
theorem ctZ {own : String} {post : Int32 → St → Prop} (hy : plainName y.cls = true) (hown : y.cls = own) (hn : (lg_sl av).length ≤ n) (body : ∀ X : Cx, xl X = l → xG X = G → Ok X b n own f lo → RetZ X b n post → Wp X n 0 (lv_args 0 av) [] S) : MtI l y b n (some .boolean) f lo G av S post := by
  refine ctx_entry (K := fun X => RetZ X b n post) hy hown hn ?_ body
  intro p e s m args below meth c hlk hr ok pc L v S' d hv hp H locs ls _ hP hS
  exact W.zret ok.1 ok.2.1 hr (by rcases hv with rfl | rfl <;> decide) (fun t ht _ => ⟨⟨v, S', rfl, hp, by show WP G S' t.heap; rw [ht]; exact hP⟩, hS.F ht⟩) hS.2.2 d hlk
theorem ctV {own : String} {post : St → Prop} (hy : plainName y.cls = true) (hown : y.cls = own) (hn : (lg_sl av).length ≤ n) (body : ∀ X : Cx, xl X = l → xG X = G → Ok X b n own f lo → RetV X b n post → Wp X n 0 (lv_args 0 av) [] S) : MtV l y b n f lo G av S post := by
  refine ctx_entry (K := fun X => RetV X b n post) hy hown hn ?_ body
  intro p e s m args below meth c hlk hr ok pc L S' d hp H locs ls _ hP hS
  exact W.vret ok.1 ok.2.1 hr (fun t ht _ => ⟨⟨S', rfl, hp, by show WP G S' t.heap; rw [ht]; exact hP⟩, hS.F ht⟩) hS.2.2 d hlk
end Entry
section Calls
variable {X : Cx} {cc : ByteArray} {nL pc fr lo : Nat} {own : String} {L : List (Nat × Value)} {st : List Value} {S : St} {y : MethodName} {b : ByteArray} {n f lo1 idx N : Nat} {ret : Option FieldType} {As : List Value} {post : Int32 → St → Prop} {postV : St → Prop}
theorem wp_run {Qc : Array Value → State → Outcome → State → Prop} (ok : Ok X cc nL own fr lo) (hi : Cond.initialized y.cls ∈ gtbl) (hm : Cond.instanceMethod y ∈ gtbl) (hs : Cond.selects y.cls y y ∈ gtbl) (hcode : Cond.code y b n ret ∈ gtbl) (hlink : Cond.methodLink own idx y ∈ gtbl) (hd : y.cls ≠ "java/lang/invoke/MethodHandle" ∧ y.cls ≠ "java/lang/invoke/VarHandle" ∧ (parseMethodDescriptor y.desc).map (fun d => d.parameters.length) = some As.length) {c0 ci NN : Nat} {T : u_T} (ho : Ob c0 ci NN) (hcl : vwCl[ci]? = some (y.cls, T, NN)) (hroom : f + 1 ≤ fr ∧ 8 + (n + 11) + lo1 ≤ lo) (hst : (st.map fun v => v.category).sum ≤ 8) (d : decode cc pc = .ok (.invokevirtual idx, 3))
    (hM : Met (xl X) y (wsOf y b n ret) (rmOf f lo1) (PreC (xG X) (.ref (xad X c0) :: As) S) Qc 0 0 (Fr (xad X))) {H : Heap} {locs : List Loc} {ls : Array Slot} (hl : lv_has ls nL L) (hP : WP (xG X) S H) {stk : List Value} (hstk : stk = As.reverse ++ .ref (xad X c0) :: st) :
    va_Run X.1 (xl X) X.2.2.1 (xR X) (xs X) (xm X) (xargs X) (xbelow X) (xmeth X) (xc X) H locs (xcs X).1 (xcs X).2 0 0 (F0 (xm X) pc ls stk) st (Qc (Value.ref (xad X c0) :: As).toArray) (Fr (xad X)) := by
  have hB : CallB (xR X) (xs X) (xargs X) own idx y b n ret (wsOf y b n ret) (rmOf f lo1) 0 0 As.length := callB_of As.length ok.2.2.2.2.1 (good_ws hcode) rfl rfl rfl (ok.2.2.2.2.1 _ hi) (ok.2.2.2.2.1 _ hlink) hd ⟨Nat.le_trans hroom.1 ok.2.2.2.2.2.2.2.1.1, Nat.le_trans hroom.2 ok.2.2.2.2.2.2.2.1.2⟩
  exact va_runV (As := As) ⟨ok.1, ok.2.1, ok.2.2.1, ok.2.2.2.1, ok.2.2.2.2.1⟩ hM ⟨hB, ok.2.2.2.2.1 _ hm, ok.2.2.2.2.1 _ hs⟩ ⟨PreC.blind, va_recv ok.2.2.2.2.2.1.1 hP hcl ((wl_at _ _ _ ho.1).trans (congrArg some (Prod.ext rfl (ent_obj ho.2.1 ho.2.2)))), fun U hU hW => ⟨rfl, by rw [hU]; exact hP, ok.2.2.2.2.2.2.1, ok.2.2.2.2.2.1.warm hW⟩⟩ rfl rfl hl.1 hstk (lv_room hst) d ⟨ok.2.2.2.2.2.2.2.2.1, ok.2.2.2.2.2.2.2.2.2⟩
theorem r_callVi (ok : Ok X cc nL own fr lo) (hi : Cond.initialized y.cls ∈ gtbl) (hm : Cond.instanceMethod y ∈ gtbl) (hs : Cond.selects y.cls y y ∈ gtbl) (hcode : Cond.code y b n ret ∈ gtbl) (hlink : Cond.methodLink own idx y ∈ gtbl) (hd : y.cls ≠ "java/lang/invoke/MethodHandle" ∧ y.cls ≠ "java/lang/invoke/VarHandle" ∧ (parseMethodDescriptor y.desc).map (fun d => d.parameters.length) = some As.length) {c0 ci NN : Nat} {T : u_T} (ho : Ob c0 ci NN) (hcl : vwCl[ci]? = some (y.cls, T, NN)) (hroom : f + 1 ≤ fr ∧ 8 + (n + 11) + lo1 ≤ lo) (hst : (st.map fun v => v.category).sum ≤ 8) (d : decode cc pc = .ok (.invokevirtual idx, 3)) {stk : List Value} (hstk : stk = As.reverse ++ .ref (xad X c0) :: st)
    (hM : MtI (xl X) y b n ret f lo1 (xG X) (.ref (xad X c0) :: As) S post) (kk : ∀ (r : Int32) (S' : St), post r S' → Wp X nL (pc + 3) L (.int r :: st) S') : Wp X nL pc L stk S := by
  intro H locs ls hl hP hS
  refine va_calli (wp_run ok hi hm hs hcode hlink hd ho hcl hroom hst d hM hl hP hstk) hS (fun _ _ h => h) (fun _ h => h) (fun r S' t H1 locs1 ht _ hp hB _ _ hS1 => ?_)
  exact kk r S' hp H1 locs1 ls hl (by rw [← ht]; exact hB) hS1
theorem r_callVv (ok : Ok X cc nL own fr lo) (hi : Cond.initialized y.cls ∈ gtbl) (hm : Cond.instanceMethod y ∈ gtbl) (hs : Cond.selects y.cls y y ∈ gtbl) (hcode : Cond.code y b n none ∈ gtbl) (hlink : Cond.methodLink own idx y ∈ gtbl) (hd : y.cls ≠ "java/lang/invoke/MethodHandle" ∧ y.cls ≠ "java/lang/invoke/VarHandle" ∧ (parseMethodDescriptor y.desc).map (fun d => d.parameters.length) = some As.length) {c0 ci NN : Nat} {T : u_T} (ho : Ob c0 ci NN) (hcl : vwCl[ci]? = some (y.cls, T, NN)) (hroom : f + 1 ≤ fr ∧ 8 + (n + 11) + lo1 ≤ lo) (hst : (st.map fun v => v.category).sum ≤ 8) (d : decode cc pc = .ok (.invokevirtual idx, 3)) {stk : List Value} (hstk : stk = As.reverse ++ .ref (xad X c0) :: st)
    (hM : MtV (xl X) y b n f lo1 (xG X) (.ref (xad X c0) :: As) S postV) (kk : ∀ (S' : St), postV S' → Wp X nL (pc + 3) L st S') : Wp X nL pc L stk S := by
  intro H locs ls hl hP hS
  refine va_callv (wp_run ok hi hm hs hcode hlink hd ho hcl hroom hst d hM hl hP hstk) hS (fun _ _ h => h) (fun _ h => h) (fun S' t H1 locs1 ht _ hp hB _ _ hS1 => ?_)
  exact kk S' hp H1 locs1 ls hl (by rw [← ht]; exact hB) hS1
theorem wp_runS {Qc : Array Value → State → Outcome → State → Prop} (ok : Ok X cc nL own fr lo) (hi : Cond.initialized y.cls ∈ gtbl) (hsc : Cond.static y ∈ gtbl) (hcode : Cond.code y b n ret ∈ gtbl) (hlink : Cond.methodLink own idx y ∈ gtbl) (hd : y.cls ≠ "java/lang/invoke/MethodHandle" ∧ y.cls ≠ "java/lang/invoke/VarHandle" ∧ (parseMethodDescriptor y.desc).map (fun d => d.parameters.length) = some As.length) (hroom : f + 1 ≤ fr ∧ 8 + (n + 11) + lo1 ≤ lo) (hst : (st.map fun v => v.category).sum ≤ 8) (d : decode cc pc = .ok (.invokestatic idx, 3))
    (hM : Met (xl X) y (wsOf y b n ret) (rmOf f lo1) (PreC (xG X) As S) Qc 0 0 (Fr (xad X))) {H : Heap} {locs : List Loc} {ls : Array Slot} (hl : lv_has ls nL L) (hP : WP (xG X) S H) {stk : List Value} (hstk : stk = As.reverse ++ st) :
    va_Run X.1 (xl X) X.2.2.1 (xR X) (xs X) (xm X) (xargs X) (xbelow X) (xmeth X) (xc X) H locs (xcs X).1 (xcs X).2 0 0 (F0 (xm X) pc ls stk) st (Qc As.toArray) (Fr (xad X)) := by
  have hB : CallB (xR X) (xs X) (xargs X) own idx y b n ret (wsOf y b n ret) (rmOf f lo1) 0 0 As.length := callB_of As.length ok.2.2.2.2.1 (good_ws hcode) rfl rfl rfl (ok.2.2.2.2.1 _ hi) (ok.2.2.2.2.1 _ hlink) hd ⟨Nat.le_trans hroom.1 ok.2.2.2.2.2.2.2.1.1, Nat.le_trans hroom.2 ok.2.2.2.2.2.2.2.1.2⟩
  exact va_runS (As := As) ⟨ok.1, ok.2.1, ok.2.2.1, ok.2.2.2.1, ok.2.2.2.2.1⟩ hM ⟨hB, ok.2.2.2.2.1 _ hsc⟩ ⟨PreC.blind, fun U hU hW => ⟨rfl, by rw [hU]; exact hP, ok.2.2.2.2.2.2.1, ok.2.2.2.2.2.1.warm hW⟩⟩ rfl rfl hl.1 hstk (lv_room hst) d ⟨ok.2.2.2.2.2.2.2.2.1, ok.2.2.2.2.2.2.2.2.2⟩
theorem r_callSi (ok : Ok X cc nL own fr lo) (hi : Cond.initialized y.cls ∈ gtbl) (hsc : Cond.static y ∈ gtbl) (hcode : Cond.code y b n ret ∈ gtbl) (hlink : Cond.methodLink own idx y ∈ gtbl) (hd : y.cls ≠ "java/lang/invoke/MethodHandle" ∧ y.cls ≠ "java/lang/invoke/VarHandle" ∧ (parseMethodDescriptor y.desc).map (fun d => d.parameters.length) = some As.length) (hroom : f + 1 ≤ fr ∧ 8 + (n + 11) + lo1 ≤ lo) (hst : (st.map fun v => v.category).sum ≤ 8) (d : decode cc pc = .ok (.invokestatic idx, 3)) {stk : List Value} (hstk : stk = As.reverse ++ st)
    (hM : MtI (xl X) y b n ret f lo1 (xG X) As S post) (kk : ∀ (r : Int32) (S' : St), post r S' → Wp X nL (pc + 3) L (.int r :: st) S') : Wp X nL pc L stk S := by
  intro H locs ls hl hP hS
  refine va_calli (wp_runS ok hi hsc hcode hlink hd hroom hst d hM hl hP hstk) hS (fun _ _ h => h) (fun _ h => h) (fun r S' t H1 locs1 ht _ hp hB _ _ hS1 => ?_)
  exact kk r S' hp H1 locs1 ls hl (by rw [← ht]; exact hB) hS1
theorem r_callSv (ok : Ok X cc nL own fr lo) (hi : Cond.initialized y.cls ∈ gtbl) (hsc : Cond.static y ∈ gtbl) (hcode : Cond.code y b n none ∈ gtbl) (hlink : Cond.methodLink own idx y ∈ gtbl) (hd : y.cls ≠ "java/lang/invoke/MethodHandle" ∧ y.cls ≠ "java/lang/invoke/VarHandle" ∧ (parseMethodDescriptor y.desc).map (fun d => d.parameters.length) = some As.length) (hroom : f + 1 ≤ fr ∧ 8 + (n + 11) + lo1 ≤ lo) (hst : (st.map fun v => v.category).sum ≤ 8) (d : decode cc pc = .ok (.invokestatic idx, 3)) {stk : List Value} (hstk : stk = As.reverse ++ st)
    (hM : MtV (xl X) y b n f lo1 (xG X) As S postV) (kk : ∀ (S' : St), postV S' → Wp X nL (pc + 3) L st S') : Wp X nL pc L stk S := by
  intro H locs ls hl hP hS
  refine va_callv (wp_runS ok hi hsc hcode hlink hd hroom hst d hM hl hP hstk) hS (fun _ _ h => h) (fun _ h => h) (fun S' t H1 locs1 ht _ hp hB _ _ hS1 => ?_)
  exact kk S' hp H1 locs1 ls hl (by rw [← ht]; exact hB) hS1
theorem r_callNi {host : String} (ok : Ok X cc nL own fr lo) (hi : Cond.initialized y.cls ∈ gtbl) (hsc : Cond.static y ∈ gtbl) (hcode : Cond.code y b n ret ∈ gtbl) (hlink : va_Nw (.methodLinkNest own idx y host) (xs X)) (hd : y.cls ≠ "java/lang/invoke/MethodHandle" ∧ y.cls ≠ "java/lang/invoke/VarHandle" ∧ (parseMethodDescriptor y.desc).map (fun d => d.parameters.length) = some As.length) (hroom : f + 1 ≤ fr ∧ 8 + (n + 11) + lo1 ≤ lo) (hst : (st.map fun v => v.category).sum ≤ 8) (d : decode cc pc = .ok (.invokestatic idx, 3)) {stk : List Value} (hstk : stk = As.reverse ++ st)
    (hM : MtI (xl X) y b n ret f lo1 (xG X) As S post) (kk : ∀ (r : Int32) (S' : St), post r S' → Wp X nL (pc + 3) L (.int r :: st) S') : Wp X nL pc L stk S := by
  intro H locs ls hl hP hS
  have hB := va_cnB (mc := 0) (ms := 0) (rm := rmOf f lo1) (R := xR X) As.length ok.2.2.2.2.1 (good_ws hcode) rfl rfl rfl hlink (ok.2.2.2.2.1 _ hi) hd ⟨Nat.le_trans hroom.1 ok.2.2.2.2.2.2.2.1.1, Nat.le_trans hroom.2 ok.2.2.2.2.2.2.2.1.2⟩
  refine va_calli (va_runSN (As := As) ⟨ok.1, ok.2.1, ok.2.2.1, ok.2.2.2.1, ok.2.2.2.2.1⟩ hM ⟨hB, ok.2.2.2.2.1 _ hsc, trivial⟩ ⟨PreC.blind, fun U hU hW => ⟨rfl, by rw [hU]; exact hP, ok.2.2.2.2.2.2.1, ok.2.2.2.2.2.1.warm hW⟩⟩ rfl rfl hl.1 hstk (lv_room hst) d ⟨ok.2.2.2.2.2.2.2.2.1, ok.2.2.2.2.2.2.2.2.2⟩) hS (fun _ _ h => h) (fun _ h => h) (fun r S' t H1 locs1 ht _ hp hB _ _ hS1 => ?_)
  exact kk r S' hp H1 locs1 ls hl (by rw [← ht]; exact hB) hS1
end Calls
end
