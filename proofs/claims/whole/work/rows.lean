section
-- ===== PART A: goes FIRST, ahead of the names: the tables' words, and 'selects' of the private methods out of them =====
/-- a private method of a class that the tables say can be made, by its rows of tables_1 -/
def lw_okq (q : MethodName × Nat) : Prop := (q.1.cls ≠ "java/lang/invoke/MethodHandle" ∧ q.1.cls ≠ "java/lang/invoke/VarHandle") ∧ Cond.instantiable q.1.cls q.2 ∈ tables_1 ∧ Cond.privateMethod q.1 ∈ tables_1 ∧ Cond.instanceMethod q.1 ∈ tables_1
theorem lw_p0 : lw_okq (⟨"CoatBetween", "rowOf", "(I)LCoatBetween$Row;"⟩, 18) := ⟨⟨by decide +kernel, by decide +kernel⟩, List.mem_of_getElem? (i := 18) (by decide +kernel), List.mem_of_getElem? (i := 338) (by decide +kernel), List.mem_of_getElem? (i := 339) (by decide +kernel)⟩
theorem lw_p1 : lw_okq (⟨"CoatBetween", "found", "(I)I"⟩, 18) := ⟨⟨by decide +kernel, by decide +kernel⟩, List.mem_of_getElem? (i := 18) (by decide +kernel), List.mem_of_getElem? (i := 342) (by decide +kernel), List.mem_of_getElem? (i := 343) (by decide +kernel)⟩
theorem lw_p2 : lw_okq (⟨"CoatBetween", "textOf", "(I)LCoatBetween$Row;"⟩, 18) := ⟨⟨by decide +kernel, by decide +kernel⟩, List.mem_of_getElem? (i := 18) (by decide +kernel), List.mem_of_getElem? (i := 416) (by decide +kernel), List.mem_of_getElem? (i := 417) (by decide +kernel)⟩
theorem lw_p3 : lw_okq (⟨"CoatBetween$Reader", "readHouse", "(LCoatBetween$Row;LCoatBetween$Lane;)V"⟩, 2) := ⟨⟨by decide +kernel, by decide +kernel⟩, List.mem_of_getElem? (i := 110) (by decide +kernel), List.mem_of_getElem? (i := 438) (by decide +kernel), List.mem_of_getElem? (i := 439) (by decide +kernel)⟩
theorem lw_p4 : lw_okq (⟨"CoatBetween$Reader", "stop", "()V"⟩, 2) := ⟨⟨by decide +kernel, by decide +kernel⟩, List.mem_of_getElem? (i := 110) (by decide +kernel), List.mem_of_getElem? (i := 442) (by decide +kernel), List.mem_of_getElem? (i := 443) (by decide +kernel)⟩
theorem lw_p5 : lw_okq (⟨"CoatBetween$Reader", "readNumber", "(LCoatBetween$Row;I)I"⟩, 2) := ⟨⟨by decide +kernel, by decide +kernel⟩, List.mem_of_getElem? (i := 110) (by decide +kernel), List.mem_of_getElem? (i := 446) (by decide +kernel), List.mem_of_getElem? (i := 447) (by decide +kernel)⟩
theorem lw_p6 : lw_okq (⟨"CoatBetween$Reader", "figureHere", "(LCoatBetween$Row;)I"⟩, 2) := ⟨⟨by decide +kernel, by decide +kernel⟩, List.mem_of_getElem? (i := 110) (by decide +kernel), List.mem_of_getElem? (i := 450) (by decide +kernel), List.mem_of_getElem? (i := 451) (by decide +kernel)⟩
theorem lw_p7 : lw_okq (⟨"CoatBetween$Reader", "readNeed", "(LCoatBetween$Row;LCoatBetween$Lane;)V"⟩, 2) := ⟨⟨by decide +kernel, by decide +kernel⟩, List.mem_of_getElem? (i := 110) (by decide +kernel), List.mem_of_getElem? (i := 458) (by decide +kernel), List.mem_of_getElem? (i := 459) (by decide +kernel)⟩
theorem lw_p8 : lw_okq (⟨"CoatBetween$Reader", "readSign", "(LCoatBetween$Row;C)Z"⟩, 2) := ⟨⟨by decide +kernel, by decide +kernel⟩, List.mem_of_getElem? (i := 110) (by decide +kernel), List.mem_of_getElem? (i := 471) (by decide +kernel), List.mem_of_getElem? (i := 472) (by decide +kernel)⟩
theorem lw_p9 : lw_okq (⟨"CoatBetween$Reader", "readFigure", "(LCoatBetween$Row;I)I"⟩, 2) := ⟨⟨by decide +kernel, by decide +kernel⟩, List.mem_of_getElem? (i := 110) (by decide +kernel), List.mem_of_getElem? (i := 475) (by decide +kernel), List.mem_of_getElem? (i := 476) (by decide +kernel)⟩
theorem lw_p10 : lw_okq (⟨"CoatBetween", "wrongInOrder", "(LCoatBetween$Row;)I"⟩, 18) := ⟨⟨by decide +kernel, by decide +kernel⟩, List.mem_of_getElem? (i := 18) (by decide +kernel), List.mem_of_getElem? (i := 570) (by decide +kernel), List.mem_of_getElem? (i := 571) (by decide +kernel)⟩
theorem lw_p11 : lw_okq (⟨"CoatBetween", "goAlong", "(LCoatBetween$Row;)V"⟩, 18) := ⟨⟨by decide +kernel, by decide +kernel⟩, List.mem_of_getElem? (i := 18) (by decide +kernel), List.mem_of_getElem? (i := 580) (by decide +kernel), List.mem_of_getElem? (i := 581) (by decide +kernel)⟩
theorem lw_p12 : lw_okq (⟨"CoatBetween$Way", "has", "(I)Z"⟩, 6) := ⟨⟨by decide +kernel, by decide +kernel⟩, List.mem_of_getElem? (i := 148) (by decide +kernel), List.mem_of_getElem? (i := 631) (by decide +kernel), List.mem_of_getElem? (i := 632) (by decide +kernel)⟩
theorem lw_p13 : lw_okq (⟨"CoatBetween", "reachFromStart", "(I)V"⟩, 18) := ⟨⟨by decide +kernel, by decide +kernel⟩, List.mem_of_getElem? (i := 18) (by decide +kernel), List.mem_of_getElem? (i := 648) (by decide +kernel), List.mem_of_getElem? (i := 649) (by decide +kernel)⟩
theorem lw_p14 : lw_okq (⟨"CoatBetween$Planner", "spread", "(II)V"⟩, 4) := ⟨⟨by decide +kernel, by decide +kernel⟩, List.mem_of_getElem? (i := 179) (by decide +kernel), List.mem_of_getElem? (i := 656) (by decide +kernel), List.mem_of_getElem? (i := 657) (by decide +kernel)⟩
theorem lw_p15 : lw_okq (⟨"CoatBetween$Planner", "leastEnding", "(III)I"⟩, 4) := ⟨⟨by decide +kernel, by decide +kernel⟩, List.mem_of_getElem? (i := 179) (by decide +kernel), List.mem_of_getElem? (i := 662) (by decide +kernel), List.mem_of_getElem? (i := 663) (by decide +kernel)⟩
def lw_privs_1 : List (MethodName × Nat) := [(⟨"CoatBetween", "rowOf", "(I)LCoatBetween$Row;"⟩, 18), (⟨"CoatBetween", "found", "(I)I"⟩, 18), (⟨"CoatBetween", "textOf", "(I)LCoatBetween$Row;"⟩, 18), (⟨"CoatBetween$Reader", "readHouse", "(LCoatBetween$Row;LCoatBetween$Lane;)V"⟩, 2), (⟨"CoatBetween$Reader", "stop", "()V"⟩, 2), (⟨"CoatBetween$Reader", "readNumber", "(LCoatBetween$Row;I)I"⟩, 2), (⟨"CoatBetween$Reader", "figureHere", "(LCoatBetween$Row;)I"⟩, 2), (⟨"CoatBetween$Reader", "readNeed", "(LCoatBetween$Row;LCoatBetween$Lane;)V"⟩, 2), (⟨"CoatBetween$Reader", "readSign", "(LCoatBetween$Row;C)Z"⟩, 2), (⟨"CoatBetween$Reader", "readFigure", "(LCoatBetween$Row;I)I"⟩, 2), (⟨"CoatBetween", "wrongInOrder", "(LCoatBetween$Row;)I"⟩, 18), (⟨"CoatBetween", "goAlong", "(LCoatBetween$Row;)V"⟩, 18), (⟨"CoatBetween$Way", "has", "(I)Z"⟩, 6), (⟨"CoatBetween", "reachFromStart", "(I)V"⟩, 18), (⟨"CoatBetween$Planner", "spread", "(II)V"⟩, 4), (⟨"CoatBetween$Planner", "leastEnding", "(III)I"⟩, 4)]
theorem lw_r1 : ∀ q ∈ lw_privs_1, lw_okq q := List.forall_mem_cons.mpr ⟨lw_p0, List.forall_mem_cons.mpr ⟨lw_p1, List.forall_mem_cons.mpr ⟨lw_p2, List.forall_mem_cons.mpr ⟨lw_p3, List.forall_mem_cons.mpr ⟨lw_p4, List.forall_mem_cons.mpr ⟨lw_p5, List.forall_mem_cons.mpr ⟨lw_p6, List.forall_mem_cons.mpr ⟨lw_p7, List.forall_mem_cons.mpr ⟨lw_p8, List.forall_mem_cons.mpr ⟨lw_p9, List.forall_mem_cons.mpr ⟨lw_p10, List.forall_mem_cons.mpr ⟨lw_p11, List.forall_mem_cons.mpr ⟨lw_p12, List.forall_mem_cons.mpr ⟨lw_p13, List.forall_mem_cons.mpr ⟨lw_p14, List.forall_mem_cons.mpr ⟨lw_p15, fun _ h => absurd h List.not_mem_nil⟩⟩⟩⟩⟩⟩⟩⟩⟩⟩⟩⟩⟩⟩⟩⟩
theorem lw_p16 : lw_okq (⟨"CoatBetween$Lane", "bitsOf", "(I)I"⟩, 6) := ⟨⟨by decide +kernel, by decide +kernel⟩, List.mem_of_getElem? (i := 28) (by decide +kernel), List.mem_of_getElem? (i := 694) (by decide +kernel), List.mem_of_getElem? (i := 695) (by decide +kernel)⟩
theorem lw_p17 : lw_okq (⟨"CoatBetween", "goFirstOrder", "(I)Z"⟩, 18) := ⟨⟨by decide +kernel, by decide +kernel⟩, List.mem_of_getElem? (i := 18) (by decide +kernel), List.mem_of_getElem? (i := 708) (by decide +kernel), List.mem_of_getElem? (i := 709) (by decide +kernel)⟩
theorem lw_p18 : lw_okq (⟨"CoatBetween", "tellWay", "(LCoatBetween$Row;)V"⟩, 18) := ⟨⟨by decide +kernel, by decide +kernel⟩, List.mem_of_getElem? (i := 18) (by decide +kernel), List.mem_of_getElem? (i := 714) (by decide +kernel), List.mem_of_getElem? (i := 715) (by decide +kernel)⟩
theorem lw_p19 : lw_okq (⟨"CoatBetween$Tally", "numberTo", "(III)V"⟩, 2) := ⟨⟨by decide +kernel, by decide +kernel⟩, List.mem_of_getElem? (i := 726) (by decide +kernel), List.mem_of_getElem? (i := 745) (by decide +kernel), List.mem_of_getElem? (i := 746) (by decide +kernel)⟩
theorem lw_p20 : lw_okq (⟨"CoatBetween$Tally", "setNumber", "(IIII)V"⟩, 2) := ⟨⟨by decide +kernel, by decide +kernel⟩, List.mem_of_getElem? (i := 726) (by decide +kernel), List.mem_of_getElem? (i := 750) (by decide +kernel), List.mem_of_getElem? (i := 751) (by decide +kernel)⟩
theorem lw_p21 : lw_okq (⟨"CoatBetween$Tally", "numberOf", "(III)I"⟩, 2) := ⟨⟨by decide +kernel, by decide +kernel⟩, List.mem_of_getElem? (i := 726) (by decide +kernel), List.mem_of_getElem? (i := 758) (by decide +kernel), List.mem_of_getElem? (i := 759) (by decide +kernel)⟩
theorem lw_p22 : lw_okq (⟨"CoatBetween$Tally", "sumOf", "(II)I"⟩, 2) := ⟨⟨by decide +kernel, by decide +kernel⟩, List.mem_of_getElem? (i := 726) (by decide +kernel), List.mem_of_getElem? (i := 763) (by decide +kernel), List.mem_of_getElem? (i := 764) (by decide +kernel)⟩
theorem lw_p23 : lw_okq (⟨"CoatBetween$Chooser", "addLetter", "(I)V"⟩, 4) := ⟨⟨by decide +kernel, by decide +kernel⟩, List.mem_of_getElem? (i := 198) (by decide +kernel), List.mem_of_getElem? (i := 796) (by decide +kernel), List.mem_of_getElem? (i := 797) (by decide +kernel)⟩
theorem lw_p24 : lw_okq (⟨"CoatBetween$Chooser", "nextByRule", "()I"⟩, 4) := ⟨⟨by decide +kernel, by decide +kernel⟩, List.mem_of_getElem? (i := 198) (by decide +kernel), List.mem_of_getElem? (i := 806) (by decide +kernel), List.mem_of_getElem? (i := 807) (by decide +kernel)⟩
theorem lw_p25 : lw_okq (⟨"CoatBetween$Chooser", "isAhead", "(II)Z"⟩, 4) := ⟨⟨by decide +kernel, by decide +kernel⟩, List.mem_of_getElem? (i := 198) (by decide +kernel), List.mem_of_getElem? (i := 817) (by decide +kernel), List.mem_of_getElem? (i := 818) (by decide +kernel)⟩
theorem lw_p26 : lw_okq (⟨"CoatBetween$Chooser", "rankOf", "(II)I"⟩, 4) := ⟨⟨by decide +kernel, by decide +kernel⟩, List.mem_of_getElem? (i := 198) (by decide +kernel), List.mem_of_getElem? (i := 821) (by decide +kernel), List.mem_of_getElem? (i := 822) (by decide +kernel)⟩
theorem lw_p27 : lw_okq (⟨"CoatBetween$Planner", "mendOnce", "(II)V"⟩, 4) := ⟨⟨by decide +kernel, by decide +kernel⟩, List.mem_of_getElem? (i := 179) (by decide +kernel), List.mem_of_getElem? (i := 879) (by decide +kernel), List.mem_of_getElem? (i := 880) (by decide +kernel)⟩
theorem lw_p28 : lw_okq (⟨"CoatBetween", "tellFraction", "(JJ)V"⟩, 18) := ⟨⟨by decide +kernel, by decide +kernel⟩, List.mem_of_getElem? (i := 18) (by decide +kernel), List.mem_of_getElem? (i := 902) (by decide +kernel), List.mem_of_getElem? (i := 903) (by decide +kernel)⟩
theorem lw_p29 : lw_okq (⟨"CoatBetween", "carryByParts", "(ILCoatBetween$Row;)I"⟩, 18) := ⟨⟨by decide +kernel, by decide +kernel⟩, List.mem_of_getElem? (i := 18) (by decide +kernel), List.mem_of_getElem? (i := 928) (by decide +kernel), List.mem_of_getElem? (i := 929) (by decide +kernel)⟩
theorem lw_p30 : lw_okq (⟨"CoatBetween$Ledger", "settle", "(IIII)V"⟩, 7) := ⟨⟨by decide +kernel, by decide +kernel⟩, List.mem_of_getElem? (i := 217) (by decide +kernel), List.mem_of_getElem? (i := 953) (by decide +kernel), List.mem_of_getElem? (i := 954) (by decide +kernel)⟩
theorem lw_p31 : lw_okq (⟨"CoatBetween$Ledger", "move", "(III)V"⟩, 7) := ⟨⟨by decide +kernel, by decide +kernel⟩, List.mem_of_getElem? (i := 217) (by decide +kernel), List.mem_of_getElem? (i := 961) (by decide +kernel), List.mem_of_getElem? (i := 962) (by decide +kernel)⟩
def lw_privs_2 : List (MethodName × Nat) := [(⟨"CoatBetween$Lane", "bitsOf", "(I)I"⟩, 6), (⟨"CoatBetween", "goFirstOrder", "(I)Z"⟩, 18), (⟨"CoatBetween", "tellWay", "(LCoatBetween$Row;)V"⟩, 18), (⟨"CoatBetween$Tally", "numberTo", "(III)V"⟩, 2), (⟨"CoatBetween$Tally", "setNumber", "(IIII)V"⟩, 2), (⟨"CoatBetween$Tally", "numberOf", "(III)I"⟩, 2), (⟨"CoatBetween$Tally", "sumOf", "(II)I"⟩, 2), (⟨"CoatBetween$Chooser", "addLetter", "(I)V"⟩, 4), (⟨"CoatBetween$Chooser", "nextByRule", "()I"⟩, 4), (⟨"CoatBetween$Chooser", "isAhead", "(II)Z"⟩, 4), (⟨"CoatBetween$Chooser", "rankOf", "(II)I"⟩, 4), (⟨"CoatBetween$Planner", "mendOnce", "(II)V"⟩, 4), (⟨"CoatBetween", "tellFraction", "(JJ)V"⟩, 18), (⟨"CoatBetween", "carryByParts", "(ILCoatBetween$Row;)I"⟩, 18), (⟨"CoatBetween$Ledger", "settle", "(IIII)V"⟩, 7), (⟨"CoatBetween$Ledger", "move", "(III)V"⟩, 7)]
theorem lw_r2 : ∀ q ∈ lw_privs_2, lw_okq q := List.forall_mem_cons.mpr ⟨lw_p16, List.forall_mem_cons.mpr ⟨lw_p17, List.forall_mem_cons.mpr ⟨lw_p18, List.forall_mem_cons.mpr ⟨lw_p19, List.forall_mem_cons.mpr ⟨lw_p20, List.forall_mem_cons.mpr ⟨lw_p21, List.forall_mem_cons.mpr ⟨lw_p22, List.forall_mem_cons.mpr ⟨lw_p23, List.forall_mem_cons.mpr ⟨lw_p24, List.forall_mem_cons.mpr ⟨lw_p25, List.forall_mem_cons.mpr ⟨lw_p26, List.forall_mem_cons.mpr ⟨lw_p27, List.forall_mem_cons.mpr ⟨lw_p28, List.forall_mem_cons.mpr ⟨lw_p29, List.forall_mem_cons.mpr ⟨lw_p30, List.forall_mem_cons.mpr ⟨lw_p31, fun _ h => absurd h List.not_mem_nil⟩⟩⟩⟩⟩⟩⟩⟩⟩⟩⟩⟩⟩⟩⟩⟩
theorem lw_p32 : lw_okq (⟨"CoatBetween$Pairs", "has", "(I)Z"⟩, 3) := ⟨⟨by decide +kernel, by decide +kernel⟩, List.mem_of_getElem? (i := 246) (by decide +kernel), List.mem_of_getElem? (i := 1014) (by decide +kernel), List.mem_of_getElem? (i := 1015) (by decide +kernel)⟩
theorem lw_p33 : lw_okq (⟨"CoatBetween", "agreesWithTracks", "(III)Z"⟩, 18) := ⟨⟨by decide +kernel, by decide +kernel⟩, List.mem_of_getElem? (i := 18) (by decide +kernel), List.mem_of_getElem? (i := 1041) (by decide +kernel), List.mem_of_getElem? (i := 1042) (by decide +kernel)⟩
theorem lw_p34 : lw_okq (⟨"CoatBetween", "canGo", "(IIII)Z"⟩, 18) := ⟨⟨by decide +kernel, by decide +kernel⟩, List.mem_of_getElem? (i := 18) (by decide +kernel), List.mem_of_getElem? (i := 1046) (by decide +kernel), List.mem_of_getElem? (i := 1047) (by decide +kernel)⟩
theorem lw_p35 : lw_okq (⟨"CoatBetween", "mixHouses", "(J)J"⟩, 18) := ⟨⟨by decide +kernel, by decide +kernel⟩, List.mem_of_getElem? (i := 18) (by decide +kernel), List.mem_of_getElem? (i := 1115) (by decide +kernel), List.mem_of_getElem? (i := 1116) (by decide +kernel)⟩
theorem lw_p36 : lw_okq (⟨"CoatBetween", "mixNeeds", "(J)J"⟩, 18) := ⟨⟨by decide +kernel, by decide +kernel⟩, List.mem_of_getElem? (i := 18) (by decide +kernel), List.mem_of_getElem? (i := 1119) (by decide +kernel), List.mem_of_getElem? (i := 1120) (by decide +kernel)⟩
theorem lw_p37 : lw_okq (⟨"CoatBetweenModel", "meets", "(I)I"⟩, 44) := ⟨⟨by decide +kernel, by decide +kernel⟩, List.mem_of_getElem? (i := 1129) (by decide +kernel), List.mem_of_getElem? (i := 1299) (by decide +kernel), List.mem_of_getElem? (i := 1300) (by decide +kernel)⟩
theorem lw_p38 : lw_okq (⟨"CoatBetweenModel", "rowAt", "(II)I"⟩, 44) := ⟨⟨by decide +kernel, by decide +kernel⟩, List.mem_of_getElem? (i := 1129) (by decide +kernel), List.mem_of_getElem? (i := 1307) (by decide +kernel), List.mem_of_getElem? (i := 1308) (by decide +kernel)⟩
theorem lw_p39 : lw_okq (⟨"CoatBetweenModel", "tells", "(II)I"⟩, 44) := ⟨⟨by decide +kernel, by decide +kernel⟩, List.mem_of_getElem? (i := 1129) (by decide +kernel), List.mem_of_getElem? (i := 1311) (by decide +kernel), List.mem_of_getElem? (i := 1312) (by decide +kernel)⟩
theorem lw_p40 : lw_okq (⟨"CoatBetweenModel", "faultOf", "(I)I"⟩, 44) := ⟨⟨by decide +kernel, by decide +kernel⟩, List.mem_of_getElem? (i := 1129) (by decide +kernel), List.mem_of_getElem? (i := 1346) (by decide +kernel), List.mem_of_getElem? (i := 1347) (by decide +kernel)⟩
theorem lw_p41 : lw_okq (⟨"CoatBetweenModel", "byteAt", "(II)I"⟩, 44) := ⟨⟨by decide +kernel, by decide +kernel⟩, List.mem_of_getElem? (i := 1129) (by decide +kernel), List.mem_of_getElem? (i := 1350) (by decide +kernel), List.mem_of_getElem? (i := 1351) (by decide +kernel)⟩
theorem lw_p42 : lw_okq (⟨"CoatBetweenModel", "readsItem", "(I)Z"⟩, 44) := ⟨⟨by decide +kernel, by decide +kernel⟩, List.mem_of_getElem? (i := 1129) (by decide +kernel), List.mem_of_getElem? (i := 1354) (by decide +kernel), List.mem_of_getElem? (i := 1355) (by decide +kernel)⟩
theorem lw_p43 : lw_okq (⟨"CoatBetweenModel", "readsHouse", "(I)Z"⟩, 44) := ⟨⟨by decide +kernel, by decide +kernel⟩, List.mem_of_getElem? (i := 1129) (by decide +kernel), List.mem_of_getElem? (i := 1361) (by decide +kernel), List.mem_of_getElem? (i := 1362) (by decide +kernel)⟩
theorem lw_p44 : lw_okq (⟨"CoatBetweenModel", "number", "(III)Z"⟩, 44) := ⟨⟨by decide +kernel, by decide +kernel⟩, List.mem_of_getElem? (i := 1129) (by decide +kernel), List.mem_of_getElem? (i := 1365) (by decide +kernel), List.mem_of_getElem? (i := 1366) (by decide +kernel)⟩
theorem lw_p45 : lw_okq (⟨"CoatBetweenModel", "readsNeed", "(II)Z"⟩, 44) := ⟨⟨by decide +kernel, by decide +kernel⟩, List.mem_of_getElem? (i := 1129) (by decide +kernel), List.mem_of_getElem? (i := 1369) (by decide +kernel), List.mem_of_getElem? (i := 1370) (by decide +kernel)⟩
theorem lw_p46 : lw_okq (⟨"CoatBetweenModel", "sign", "(II)Z"⟩, 44) := ⟨⟨by decide +kernel, by decide +kernel⟩, List.mem_of_getElem? (i := 1129) (by decide +kernel), List.mem_of_getElem? (i := 1373) (by decide +kernel), List.mem_of_getElem? (i := 1374) (by decide +kernel)⟩
theorem lw_p47 : lw_okq (⟨"CoatBetweenModel", "figure", "(III)Z"⟩, 44) := ⟨⟨by decide +kernel, by decide +kernel⟩, List.mem_of_getElem? (i := 1129) (by decide +kernel), List.mem_of_getElem? (i := 1377) (by decide +kernel), List.mem_of_getElem? (i := 1378) (by decide +kernel)⟩
def lw_privs_3 : List (MethodName × Nat) := [(⟨"CoatBetween$Pairs", "has", "(I)Z"⟩, 3), (⟨"CoatBetween", "agreesWithTracks", "(III)Z"⟩, 18), (⟨"CoatBetween", "canGo", "(IIII)Z"⟩, 18), (⟨"CoatBetween", "mixHouses", "(J)J"⟩, 18), (⟨"CoatBetween", "mixNeeds", "(J)J"⟩, 18), (⟨"CoatBetweenModel", "meets", "(I)I"⟩, 44), (⟨"CoatBetweenModel", "rowAt", "(II)I"⟩, 44), (⟨"CoatBetweenModel", "tells", "(II)I"⟩, 44), (⟨"CoatBetweenModel", "faultOf", "(I)I"⟩, 44), (⟨"CoatBetweenModel", "byteAt", "(II)I"⟩, 44), (⟨"CoatBetweenModel", "readsItem", "(I)Z"⟩, 44), (⟨"CoatBetweenModel", "readsHouse", "(I)Z"⟩, 44), (⟨"CoatBetweenModel", "number", "(III)Z"⟩, 44), (⟨"CoatBetweenModel", "readsNeed", "(II)Z"⟩, 44), (⟨"CoatBetweenModel", "sign", "(II)Z"⟩, 44), (⟨"CoatBetweenModel", "figure", "(III)Z"⟩, 44)]
theorem lw_r3 : ∀ q ∈ lw_privs_3, lw_okq q := List.forall_mem_cons.mpr ⟨lw_p32, List.forall_mem_cons.mpr ⟨lw_p33, List.forall_mem_cons.mpr ⟨lw_p34, List.forall_mem_cons.mpr ⟨lw_p35, List.forall_mem_cons.mpr ⟨lw_p36, List.forall_mem_cons.mpr ⟨lw_p37, List.forall_mem_cons.mpr ⟨lw_p38, List.forall_mem_cons.mpr ⟨lw_p39, List.forall_mem_cons.mpr ⟨lw_p40, List.forall_mem_cons.mpr ⟨lw_p41, List.forall_mem_cons.mpr ⟨lw_p42, List.forall_mem_cons.mpr ⟨lw_p43, List.forall_mem_cons.mpr ⟨lw_p44, List.forall_mem_cons.mpr ⟨lw_p45, List.forall_mem_cons.mpr ⟨lw_p46, List.forall_mem_cons.mpr ⟨lw_p47, fun _ h => absurd h List.not_mem_nil⟩⟩⟩⟩⟩⟩⟩⟩⟩⟩⟩⟩⟩⟩⟩⟩
theorem lw_p48 : lw_okq (⟨"CoatBetweenModel", "isHouse", "(I)Z"⟩, 44) := ⟨⟨by decide +kernel, by decide +kernel⟩, List.mem_of_getElem? (i := 1129) (by decide +kernel), List.mem_of_getElem? (i := 1389) (by decide +kernel), List.mem_of_getElem? (i := 1390) (by decide +kernel)⟩
theorem lw_p49 : lw_okq (⟨"CoatBetweenModel", "isNeed", "(I)Z"⟩, 44) := ⟨⟨by decide +kernel, by decide +kernel⟩, List.mem_of_getElem? (i := 1129) (by decide +kernel), List.mem_of_getElem? (i := 1397) (by decide +kernel), List.mem_of_getElem? (i := 1398) (by decide +kernel)⟩
theorem lw_p50 : lw_okq (⟨"CoatBetweenModel", "needAt", "(II)I"⟩, 44) := ⟨⟨by decide +kernel, by decide +kernel⟩, List.mem_of_getElem? (i := 1129) (by decide +kernel), List.mem_of_getElem? (i := 1401) (by decide +kernel), List.mem_of_getElem? (i := 1402) (by decide +kernel)⟩
theorem lw_p51 : lw_okq (⟨"CoatBetweenModel", "kind", "(I)I"⟩, 44) := ⟨⟨by decide +kernel, by decide +kernel⟩, List.mem_of_getElem? (i := 1129) (by decide +kernel), List.mem_of_getElem? (i := 1409) (by decide +kernel), List.mem_of_getElem? (i := 1410) (by decide +kernel)⟩
theorem lw_p52 : lw_okq (⟨"CoatBetweenModel", "isMust", "(I)Z"⟩, 44) := ⟨⟨by decide +kernel, by decide +kernel⟩, List.mem_of_getElem? (i := 1129) (by decide +kernel), List.mem_of_getElem? (i := 1413) (by decide +kernel), List.mem_of_getElem? (i := 1414) (by decide +kernel)⟩
theorem lw_p53 : lw_okq (⟨"CoatBetweenModel", "isLot", "(I)Z"⟩, 44) := ⟨⟨by decide +kernel, by decide +kernel⟩, List.mem_of_getElem? (i := 1129) (by decide +kernel), List.mem_of_getElem? (i := 1417) (by decide +kernel), List.mem_of_getElem? (i := 1418) (by decide +kernel)⟩
theorem lw_p54 : lw_okq (⟨"CoatBetweenModel", "carryOf", "(II)I"⟩, 44) := ⟨⟨by decide +kernel, by decide +kernel⟩, List.mem_of_getElem? (i := 1129) (by decide +kernel), List.mem_of_getElem? (i := 1429) (by decide +kernel), List.mem_of_getElem? (i := 1430) (by decide +kernel)⟩
theorem lw_p55 : lw_okq (⟨"CoatBetweenModel", "needLine", "(I)I"⟩, 44) := ⟨⟨by decide +kernel, by decide +kernel⟩, List.mem_of_getElem? (i := 1129) (by decide +kernel), List.mem_of_getElem? (i := 1444) (by decide +kernel), List.mem_of_getElem? (i := 1445) (by decide +kernel)⟩
theorem lw_p56 : lw_okq (⟨"CoatBetweenModel", "does", "()I"⟩, 44) := ⟨⟨by decide +kernel, by decide +kernel⟩, List.mem_of_getElem? (i := 1129) (by decide +kernel), List.mem_of_getElem? (i := 1451) (by decide +kernel), List.mem_of_getElem? (i := 1452) (by decide +kernel)⟩
theorem lw_p57 : lw_okq (⟨"CoatBetweenModel", "beginOf", "(III)I"⟩, 44) := ⟨⟨by decide +kernel, by decide +kernel⟩, List.mem_of_getElem? (i := 1129) (by decide +kernel), List.mem_of_getElem? (i := 1455) (by decide +kernel), List.mem_of_getElem? (i := 1456) (by decide +kernel)⟩
theorem lw_p58 : lw_okq (⟨"CoatBetweenModel", "isSet", "(I)Z"⟩, 44) := ⟨⟨by decide +kernel, by decide +kernel⟩, List.mem_of_getElem? (i := 1129) (by decide +kernel), List.mem_of_getElem? (i := 1470) (by decide +kernel), List.mem_of_getElem? (i := 1471) (by decide +kernel)⟩
theorem lw_p59 : lw_okq (⟨"CoatBetweenModel", "full", "()I"⟩, 44) := ⟨⟨by decide +kernel, by decide +kernel⟩, List.mem_of_getElem? (i := 1129) (by decide +kernel), List.mem_of_getElem? (i := 1474) (by decide +kernel), List.mem_of_getElem? (i := 1475) (by decide +kernel)⟩
theorem lw_p60 : lw_okq (⟨"CoatBetweenModel", "layEnds", "(I)V"⟩, 44) := ⟨⟨by decide +kernel, by decide +kernel⟩, List.mem_of_getElem? (i := 1129) (by decide +kernel), List.mem_of_getElem? (i := 1478) (by decide +kernel), List.mem_of_getElem? (i := 1479) (by decide +kernel)⟩
theorem lw_p61 : lw_okq (⟨"CoatBetweenModel", "endOf", "(III)I"⟩, 44) := ⟨⟨by decide +kernel, by decide +kernel⟩, List.mem_of_getElem? (i := 1129) (by decide +kernel), List.mem_of_getElem? (i := 1482) (by decide +kernel), List.mem_of_getElem? (i := 1483) (by decide +kernel)⟩
theorem lw_p62 : lw_okq (⟨"CoatBetweenModel", "worthOf", "(I)I"⟩, 44) := ⟨⟨by decide +kernel, by decide +kernel⟩, List.mem_of_getElem? (i := 1129) (by decide +kernel), List.mem_of_getElem? (i := 1493) (by decide +kernel), List.mem_of_getElem? (i := 1494) (by decide +kernel)⟩
theorem lw_p63 : lw_okq (⟨"CoatBetweenModel", "musts", "()I"⟩, 44) := ⟨⟨by decide +kernel, by decide +kernel⟩, List.mem_of_getElem? (i := 1129) (by decide +kernel), List.mem_of_getElem? (i := 1501) (by decide +kernel), List.mem_of_getElem? (i := 1502) (by decide +kernel)⟩
def lw_privs_4 : List (MethodName × Nat) := [(⟨"CoatBetweenModel", "isHouse", "(I)Z"⟩, 44), (⟨"CoatBetweenModel", "isNeed", "(I)Z"⟩, 44), (⟨"CoatBetweenModel", "needAt", "(II)I"⟩, 44), (⟨"CoatBetweenModel", "kind", "(I)I"⟩, 44), (⟨"CoatBetweenModel", "isMust", "(I)Z"⟩, 44), (⟨"CoatBetweenModel", "isLot", "(I)Z"⟩, 44), (⟨"CoatBetweenModel", "carryOf", "(II)I"⟩, 44), (⟨"CoatBetweenModel", "needLine", "(I)I"⟩, 44), (⟨"CoatBetweenModel", "does", "()I"⟩, 44), (⟨"CoatBetweenModel", "beginOf", "(III)I"⟩, 44), (⟨"CoatBetweenModel", "isSet", "(I)Z"⟩, 44), (⟨"CoatBetweenModel", "full", "()I"⟩, 44), (⟨"CoatBetweenModel", "layEnds", "(I)V"⟩, 44), (⟨"CoatBetweenModel", "endOf", "(III)I"⟩, 44), (⟨"CoatBetweenModel", "worthOf", "(I)I"⟩, 44), (⟨"CoatBetweenModel", "musts", "()I"⟩, 44)]
theorem lw_r4 : ∀ q ∈ lw_privs_4, lw_okq q := List.forall_mem_cons.mpr ⟨lw_p48, List.forall_mem_cons.mpr ⟨lw_p49, List.forall_mem_cons.mpr ⟨lw_p50, List.forall_mem_cons.mpr ⟨lw_p51, List.forall_mem_cons.mpr ⟨lw_p52, List.forall_mem_cons.mpr ⟨lw_p53, List.forall_mem_cons.mpr ⟨lw_p54, List.forall_mem_cons.mpr ⟨lw_p55, List.forall_mem_cons.mpr ⟨lw_p56, List.forall_mem_cons.mpr ⟨lw_p57, List.forall_mem_cons.mpr ⟨lw_p58, List.forall_mem_cons.mpr ⟨lw_p59, List.forall_mem_cons.mpr ⟨lw_p60, List.forall_mem_cons.mpr ⟨lw_p61, List.forall_mem_cons.mpr ⟨lw_p62, List.forall_mem_cons.mpr ⟨lw_p63, fun _ h => absurd h List.not_mem_nil⟩⟩⟩⟩⟩⟩⟩⟩⟩⟩⟩⟩⟩⟩⟩⟩
theorem lw_p64 : lw_okq (⟨"CoatBetweenModel", "bestOf", "(II)I"⟩, 44) := ⟨⟨by decide +kernel, by decide +kernel⟩, List.mem_of_getElem? (i := 1129) (by decide +kernel), List.mem_of_getElem? (i := 1505) (by decide +kernel), List.mem_of_getElem? (i := 1506) (by decide +kernel)⟩
theorem lw_p65 : lw_okq (⟨"CoatBetweenModel", "layFirst", "(I)Z"⟩, 44) := ⟨⟨by decide +kernel, by decide +kernel⟩, List.mem_of_getElem? (i := 1129) (by decide +kernel), List.mem_of_getElem? (i := 1513) (by decide +kernel), List.mem_of_getElem? (i := 1514) (by decide +kernel)⟩
theorem lw_p66 : lw_okq (⟨"CoatBetweenModel", "firstLine", "(I)V"⟩, 44) := ⟨⟨by decide +kernel, by decide +kernel⟩, List.mem_of_getElem? (i := 1129) (by decide +kernel), List.mem_of_getElem? (i := 1517) (by decide +kernel), List.mem_of_getElem? (i := 1518) (by decide +kernel)⟩
theorem lw_p67 : lw_okq (⟨"CoatBetweenModel", "nextLine", "()Z"⟩, 44) := ⟨⟨by decide +kernel, by decide +kernel⟩, List.mem_of_getElem? (i := 1129) (by decide +kernel), List.mem_of_getElem? (i := 1521) (by decide +kernel), List.mem_of_getElem? (i := 1522) (by decide +kernel)⟩
theorem lw_p68 : lw_okq (⟨"CoatBetweenModel", "swap", "(II)V"⟩, 44) := ⟨⟨by decide +kernel, by decide +kernel⟩, List.mem_of_getElem? (i := 1129) (by decide +kernel), List.mem_of_getElem? (i := 1525) (by decide +kernel), List.mem_of_getElem? (i := 1526) (by decide +kernel)⟩
theorem lw_p69 : lw_okq (⟨"CoatBetweenModel", "lineToRow", "(I)V"⟩, 44) := ⟨⟨by decide +kernel, by decide +kernel⟩, List.mem_of_getElem? (i := 1129) (by decide +kernel), List.mem_of_getElem? (i := 1529) (by decide +kernel), List.mem_of_getElem? (i := 1530) (by decide +kernel)⟩
theorem lw_p70 : lw_okq (⟨"CoatBetweenModel", "ruled", "()I"⟩, 44) := ⟨⟨by decide +kernel, by decide +kernel⟩, List.mem_of_getElem? (i := 1129) (by decide +kernel), List.mem_of_getElem? (i := 1552) (by decide +kernel), List.mem_of_getElem? (i := 1553) (by decide +kernel)⟩
theorem lw_p71 : lw_okq (⟨"CoatBetweenModel", "isAhead", "(III)Z"⟩, 44) := ⟨⟨by decide +kernel, by decide +kernel⟩, List.mem_of_getElem? (i := 1129) (by decide +kernel), List.mem_of_getElem? (i := 1556) (by decide +kernel), List.mem_of_getElem? (i := 1557) (by decide +kernel)⟩
theorem lw_p72 : lw_okq (⟨"CoatBetweenModel", "rankOf", "(III)I"⟩, 44) := ⟨⟨by decide +kernel, by decide +kernel⟩, List.mem_of_getElem? (i := 1129) (by decide +kernel), List.mem_of_getElem? (i := 1560) (by decide +kernel), List.mem_of_getElem? (i := 1561) (by decide +kernel)⟩
theorem lw_p73 : lw_okq (⟨"CoatBetweenModel", "isShared", "(I)Z"⟩, 44) := ⟨⟨by decide +kernel, by decide +kernel⟩, List.mem_of_getElem? (i := 1129) (by decide +kernel), List.mem_of_getElem? (i := 1572) (by decide +kernel), List.mem_of_getElem? (i := 1573) (by decide +kernel)⟩
theorem lw_p74 : lw_okq (⟨"CoatBetweenModel", "layMended", "(III)V"⟩, 44) := ⟨⟨by decide +kernel, by decide +kernel⟩, List.mem_of_getElem? (i := 1129) (by decide +kernel), List.mem_of_getElem? (i := 1584) (by decide +kernel), List.mem_of_getElem? (i := 1585) (by decide +kernel)⟩
theorem lw_p75 : lw_okq (⟨"CoatBetweenModel", "houseBehind", "(IIII)I"⟩, 44) := ⟨⟨by decide +kernel, by decide +kernel⟩, List.mem_of_getElem? (i := 1129) (by decide +kernel), List.mem_of_getElem? (i := 1591) (by decide +kernel), List.mem_of_getElem? (i := 1592) (by decide +kernel)⟩
theorem lw_p76 : lw_okq (⟨"CoatBetweenModel", "fraction", "(JJI)I"⟩, 44) := ⟨⟨by decide +kernel, by decide +kernel⟩, List.mem_of_getElem? (i := 1129) (by decide +kernel), List.mem_of_getElem? (i := 1600) (by decide +kernel), List.mem_of_getElem? (i := 1601) (by decide +kernel)⟩
theorem lw_p77 : lw_okq (⟨"CoatBetweenModel", "doDeal", "(IIII)V"⟩, 44) := ⟨⟨by decide +kernel, by decide +kernel⟩, List.mem_of_getElem? (i := 1129) (by decide +kernel), List.mem_of_getElem? (i := 1619) (by decide +kernel), List.mem_of_getElem? (i := 1620) (by decide +kernel)⟩
theorem lw_p78 : lw_okq (⟨"CoatBetweenModel", "canBegin", "(II)Z"⟩, 44) := ⟨⟨by decide +kernel, by decide +kernel⟩, List.mem_of_getElem? (i := 1129) (by decide +kernel), List.mem_of_getElem? (i := 1655) (by decide +kernel), List.mem_of_getElem? (i := 1656) (by decide +kernel)⟩
theorem lw_p79 : lw_okq (⟨"CoatBetweenModel", "canGo", "(IIII)Z"⟩, 44) := ⟨⟨by decide +kernel, by decide +kernel⟩, List.mem_of_getElem? (i := 1129) (by decide +kernel), List.mem_of_getElem? (i := 1659) (by decide +kernel), List.mem_of_getElem? (i := 1660) (by decide +kernel)⟩
def lw_privs_5 : List (MethodName × Nat) := [(⟨"CoatBetweenModel", "bestOf", "(II)I"⟩, 44), (⟨"CoatBetweenModel", "layFirst", "(I)Z"⟩, 44), (⟨"CoatBetweenModel", "firstLine", "(I)V"⟩, 44), (⟨"CoatBetweenModel", "nextLine", "()Z"⟩, 44), (⟨"CoatBetweenModel", "swap", "(II)V"⟩, 44), (⟨"CoatBetweenModel", "lineToRow", "(I)V"⟩, 44), (⟨"CoatBetweenModel", "ruled", "()I"⟩, 44), (⟨"CoatBetweenModel", "isAhead", "(III)Z"⟩, 44), (⟨"CoatBetweenModel", "rankOf", "(III)I"⟩, 44), (⟨"CoatBetweenModel", "isShared", "(I)Z"⟩, 44), (⟨"CoatBetweenModel", "layMended", "(III)V"⟩, 44), (⟨"CoatBetweenModel", "houseBehind", "(IIII)I"⟩, 44), (⟨"CoatBetweenModel", "fraction", "(JJI)I"⟩, 44), (⟨"CoatBetweenModel", "doDeal", "(IIII)V"⟩, 44), (⟨"CoatBetweenModel", "canBegin", "(II)Z"⟩, 44), (⟨"CoatBetweenModel", "canGo", "(IIII)Z"⟩, 44)]
theorem lw_r5 : ∀ q ∈ lw_privs_5, lw_okq q := List.forall_mem_cons.mpr ⟨lw_p64, List.forall_mem_cons.mpr ⟨lw_p65, List.forall_mem_cons.mpr ⟨lw_p66, List.forall_mem_cons.mpr ⟨lw_p67, List.forall_mem_cons.mpr ⟨lw_p68, List.forall_mem_cons.mpr ⟨lw_p69, List.forall_mem_cons.mpr ⟨lw_p70, List.forall_mem_cons.mpr ⟨lw_p71, List.forall_mem_cons.mpr ⟨lw_p72, List.forall_mem_cons.mpr ⟨lw_p73, List.forall_mem_cons.mpr ⟨lw_p74, List.forall_mem_cons.mpr ⟨lw_p75, List.forall_mem_cons.mpr ⟨lw_p76, List.forall_mem_cons.mpr ⟨lw_p77, List.forall_mem_cons.mpr ⟨lw_p78, List.forall_mem_cons.mpr ⟨lw_p79, fun _ h => absurd h List.not_mem_nil⟩⟩⟩⟩⟩⟩⟩⟩⟩⟩⟩⟩⟩⟩⟩⟩
theorem lw_p80 : lw_okq (⟨"CoatBetweenModel", "counted", "(I)I"⟩, 44) := ⟨⟨by decide +kernel, by decide +kernel⟩, List.mem_of_getElem? (i := 1129) (by decide +kernel), List.mem_of_getElem? (i := 1679) (by decide +kernel), List.mem_of_getElem? (i := 1680) (by decide +kernel)⟩
theorem lw_p81 : lw_okq (⟨"CoatBetweenModel", "mix", "(J)V"⟩, 44) := ⟨⟨by decide +kernel, by decide +kernel⟩, List.mem_of_getElem? (i := 1129) (by decide +kernel), List.mem_of_getElem? (i := 1691) (by decide +kernel), List.mem_of_getElem? (i := 1692) (by decide +kernel)⟩
theorem lw_p82 : lw_okq (⟨"CoatBetweenModel", "mixVillage", "()V"⟩, 44) := ⟨⟨by decide +kernel, by decide +kernel⟩, List.mem_of_getElem? (i := 1129) (by decide +kernel), List.mem_of_getElem? (i := 1696) (by decide +kernel), List.mem_of_getElem? (i := 1697) (by decide +kernel)⟩
def lw_privs_6 : List (MethodName × Nat) := [(⟨"CoatBetweenModel", "counted", "(I)I"⟩, 44), (⟨"CoatBetweenModel", "mix", "(J)V"⟩, 44), (⟨"CoatBetweenModel", "mixVillage", "()V"⟩, 44)]
theorem lw_r6 : ∀ q ∈ lw_privs_6, lw_okq q := List.forall_mem_cons.mpr ⟨lw_p80, List.forall_mem_cons.mpr ⟨lw_p81, List.forall_mem_cons.mpr ⟨lw_p82, fun _ h => absurd h List.not_mem_nil⟩⟩⟩
def lw_privs : List (MethodName × Nat) := lw_privs_1 ++ (lw_privs_2 ++ (lw_privs_3 ++ (lw_privs_4 ++ (lw_privs_5 ++ (lw_privs_6)))))
def lw_tbl : List Cond := k2_sels lw_privs ++ tables_1
theorem lw_privs_ok : ∀ q ∈ lw_privs, lw_okq q := by
  show ∀ q ∈ lw_privs_1 ++ (lw_privs_2 ++ (lw_privs_3 ++ (lw_privs_4 ++ (lw_privs_5 ++ (lw_privs_6))))), lw_okq q
  exact List.forall_mem_append.mpr ⟨lw_r1, List.forall_mem_append.mpr ⟨lw_r2, List.forall_mem_append.mpr ⟨lw_r3, List.forall_mem_append.mpr ⟨lw_r4, List.forall_mem_append.mpr ⟨lw_r5, lw_r6⟩⟩⟩⟩⟩
def RX0 : String := "CoatBetween$Chooser"
def TX0 : u_T := fun k => match k with
  | 0 => ("CoatBetween$Chooser", "lane", "LCoatBetween$Lane;", true)
  | 1 => ("CoatBetween$Chooser", "way", "LCoatBetween$Way;", true)
  | 2 => ("CoatBetween$Chooser", "letters", "[I", true)
  | _ => ("CoatBetween$Chooser", "size", "I", false)
def tyX0 : Nat → FieldType := fun k => match k with
  | 0 => .object "CoatBetween$Lane"
  | 1 => .object "CoatBetween$Way"
  | 2 => .array .int
  | _ => .int
theorem nmX0 : ∀ a, a < 4 → ∀ b, b < 4 → a ≠ b → (TX0 a).2.1 ≠ (TX0 b).2.1 := by decide +kernel
theorem tyX0_ok : ∀ k, k < 4 → parseFieldDescriptor (TX0 k).2.2.1 = some (tyX0 k) := by decide +kernel
abbrev cX0_init : ByteArray := prog_2_method_1_code
def yX0_init : MethodName := ⟨RX0, "<init>", "(LCoatBetween$Lane;LCoatBetween$Way;)V"⟩
abbrev cX0_takeRule : ByteArray := prog_2_method_2_code
def yX0_takeRule : MethodName := ⟨RX0, "takeRule", "(LCoatBetween$Row;)Z"⟩
abbrev cX0_takeNumber : ByteArray := prog_2_method_3_code
def yX0_takeNumber : MethodName := ⟨RX0, "takeNumber", "(I)Z"⟩
abbrev cX0_addLetter : ByteArray := prog_2_method_4_code
def yX0_addLetter : MethodName := ⟨RX0, "addLetter", "(I)V"⟩
abbrev cX0_letterOf : ByteArray := prog_2_method_5_code
def yX0_letterOf : MethodName := ⟨RX0, "letterOf", "(I)I"⟩
abbrev cX0_go : ByteArray := prog_2_method_6_code
def yX0_go : MethodName := ⟨RX0, "go", "()V"⟩
abbrev cX0_nextByRule : ByteArray := prog_2_method_7_code
def yX0_nextByRule : MethodName := ⟨RX0, "nextByRule", "()I"⟩
abbrev cX0_isAhead : ByteArray := prog_2_method_8_code
def yX0_isAhead : MethodName := ⟨RX0, "isAhead", "(II)Z"⟩
abbrev cX0_rankOf : ByteArray := prog_2_method_9_code
def yX0_rankOf : MethodName := ⟨RX0, "rankOf", "(II)I"⟩
def RX1 : String := "CoatBetween$Jobs"
def TX1 : u_T := fun k => match k with
  | 0 => ("CoatBetween$Jobs", "places", "[I", true)
  | 1 => ("CoatBetween$Jobs", "froms", "[I", true)
  | 2 => ("CoatBetween$Jobs", "latests", "[I", true)
  | 3 => ("CoatBetween$Jobs", "lengths", "[I", true)
  | 4 => ("CoatBetween$Jobs", "worths", "[I", true)
  | _ => ("CoatBetween$Jobs", "size", "I", false)
def tyX1 : Nat → FieldType := fun k => match k with
  | 0 => .array .int
  | 1 => .array .int
  | 2 => .array .int
  | 3 => .array .int
  | 4 => .array .int
  | _ => .int
theorem nmX1 : ∀ a, a < 6 → ∀ b, b < 6 → a ≠ b → (TX1 a).2.1 ≠ (TX1 b).2.1 := by decide +kernel
theorem tyX1_ok : ∀ k, k < 6 → parseFieldDescriptor (TX1 k).2.2.1 = some (tyX1 k) := by decide +kernel
abbrev cX1_init : ByteArray := prog_3_method_1_code
def yX1_init : MethodName := ⟨RX1, "<init>", "()V"⟩
abbrev cX1_load : ByteArray := prog_3_method_2_code
def yX1_load : MethodName := ⟨RX1, "load", "(LCoatBetween$Lane;)V"⟩
abbrev cX1_join : ByteArray := prog_3_method_3_code
def yX1_join : MethodName := ⟨RX1, "join", "(ILCoatBetween$Need;LCoatBetween$Need;)V"⟩
abbrev cX1_placeOf : ByteArray := prog_3_method_4_code
def yX1_placeOf : MethodName := ⟨RX1, "placeOf", "(I)I"⟩
abbrev cX1_lengthOf : ByteArray := prog_3_method_5_code
def yX1_lengthOf : MethodName := ⟨RX1, "lengthOf", "(I)I"⟩
abbrev cX1_worthOf : ByteArray := prog_3_method_6_code
def yX1_worthOf : MethodName := ⟨RX1, "worthOf", "(I)I"⟩
abbrev cX1_ending : ByteArray := prog_3_method_7_code
def yX1_ending : MethodName := ⟨RX1, "ending", "(III)I"⟩
def RX2 : String := "CoatBetween$Lane"
def TX2 : u_T := fun k => match k with
  | 0 => ("CoatBetween$Lane", "places", "[I", true)
  | 1 => ("CoatBetween$Lane", "list", "[LCoatBetween$Need;", true)
  | 2 => ("CoatBetween$Lane", "nobodys", "LCoatBetween$Need;", true)
  | 3 => ("CoatBetween$Lane", "houses", "I", false)
  | 4 => ("CoatBetween$Lane", "needs", "I", false)
  | _ => ("CoatBetween$Lane", "startHouse", "I", false)
def tyX2 : Nat → FieldType := fun k => match k with
  | 0 => .array .int
  | 1 => .array (.object "CoatBetween$Need")
  | 2 => .object "CoatBetween$Need"
  | 3 => .int
  | 4 => .int
  | _ => .int
theorem nmX2 : ∀ a, a < 6 → ∀ b, b < 6 → a ≠ b → (TX2 a).2.1 ≠ (TX2 b).2.1 := by decide +kernel
theorem tyX2_ok : ∀ k, k < 6 → parseFieldDescriptor (TX2 k).2.2.1 = some (tyX2 k) := by decide +kernel
abbrev cX2_init : ByteArray := prog_4_method_1_code
def yX2_init : MethodName := ⟨RX2, "<init>", "()V"⟩
abbrev cX2_clear : ByteArray := prog_4_method_2_code
def yX2_clear : MethodName := ⟨RX2, "clear", "()V"⟩
abbrev cX2_addHouse : ByteArray := prog_4_method_3_code
def yX2_addHouse : MethodName := ⟨RX2, "addHouse", "(I)V"⟩
abbrev cX2_addNeed : ByteArray := prog_4_method_4_code
def yX2_addNeed : MethodName := ⟨RX2, "addNeed", "()LCoatBetween$Need;"⟩
abbrev cX2_isHouse : ByteArray := prog_4_method_5_code
def yX2_isHouse : MethodName := ⟨RX2, "isHouse", "(I)Z"⟩
abbrev cX2_isNeed : ByteArray := prog_4_method_6_code
def yX2_isNeed : MethodName := ⟨RX2, "isNeed", "(I)Z"⟩
abbrev cX2_isSet : ByteArray := prog_4_method_7_code
def yX2_isSet : MethodName := ⟨RX2, "isSet", "(I)Z"⟩
abbrev cX2_placeOf : ByteArray := prog_4_method_8_code
def yX2_placeOf : MethodName := ⟨RX2, "placeOf", "(I)I"⟩
abbrev cX2_startPlace : ByteArray := prog_4_method_9_code
def yX2_startPlace : MethodName := ⟨RX2, "startPlace", "()I"⟩
abbrev cX2_carryBetween : ByteArray := prog_4_method_10_code
def yX2_carryBetween : MethodName := ⟨RX2, "carryBetween", "(II)I"⟩
abbrev cX2_needOf : ByteArray := prog_4_method_11_code
def yX2_needOf : MethodName := ⟨RX2, "needOf", "(I)LCoatBetween$Need;"⟩
abbrev cX2_allNeeds : ByteArray := prog_4_method_12_code
def yX2_allNeeds : MethodName := ⟨RX2, "allNeeds", "()I"⟩
abbrev cX2_mustBits : ByteArray := prog_4_method_13_code
def yX2_mustBits : MethodName := ⟨RX2, "mustBits", "()I"⟩
abbrev cX2_lotBits : ByteArray := prog_4_method_14_code
def yX2_lotBits : MethodName := ⟨RX2, "lotBits", "()I"⟩
abbrev cX2_bitsOf : ByteArray := prog_4_method_15_code
def yX2_bitsOf : MethodName := ⟨RX2, "bitsOf", "(I)I"⟩
abbrev cX2_waysToCall : ByteArray := prog_4_method_16_code
def yX2_waysToCall : MethodName := ⟨RX2, "waysToCall", "(I)J"⟩
abbrev cX2_waysInAll : ByteArray := prog_4_method_17_code
def yX2_waysInAll : MethodName := ⟨RX2, "waysInAll", "()J"⟩
abbrev cX2_lotsCalledBy : ByteArray := prog_4_method_18_code
def yX2_lotsCalledBy : MethodName := ⟨RX2, "lotsCalledBy", "(I)I"⟩
def RX3 : String := "CoatBetween$Ledger"
def TX3 : u_T := fun k => match k with
  | 0 => ("CoatBetween$Ledger", "hours", "[I", true)
  | 1 => ("CoatBetween$Ledger", "owed", "[I", true)
  | 2 => ("CoatBetween$Ledger", "kinds", "[I", true)
  | 3 => ("CoatBetween$Ledger", "doers", "[I", true)
  | 4 => ("CoatBetween$Ledger", "others", "[I", true)
  | 5 => ("CoatBetween$Ledger", "amounts", "[I", true)
  | _ => ("CoatBetween$Ledger", "deals", "I", false)
def tyX3 : Nat → FieldType := fun k => match k with
  | 0 => .array .int
  | 1 => .array .int
  | 2 => .array .int
  | 3 => .array .int
  | 4 => .array .int
  | 5 => .array .int
  | _ => .int
theorem nmX3 : ∀ a, a < 7 → ∀ b, b < 7 → a ≠ b → (TX3 a).2.1 ≠ (TX3 b).2.1 := by decide +kernel
theorem tyX3_ok : ∀ k, k < 7 → parseFieldDescriptor (TX3 k).2.2.1 = some (tyX3 k) := by decide +kernel
abbrev cX3_init : ByteArray := prog_5_method_1_code
def yX3_init : MethodName := ⟨RX3, "<init>", "()V"⟩
abbrev cX3_clear : ByteArray := prog_5_method_2_code
def yX3_clear : MethodName := ⟨RX3, "clear", "()V"⟩
abbrev cX3_isOne : ByteArray := prog_5_method_3_code
def yX3_isOne : MethodName := ⟨RX3, "isOne", "(I)Z"⟩
abbrev cX3_hoursOf : ByteArray := prog_5_method_4_code
def yX3_hoursOf : MethodName := ⟨RX3, "hoursOf", "(I)I"⟩
abbrev cX3_setHours : ByteArray := prog_5_method_5_code
def yX3_setHours : MethodName := ⟨RX3, "setHours", "(II)V"⟩
abbrev cX3_owedBy : ByteArray := prog_5_method_6_code
def yX3_owedBy : MethodName := ⟨RX3, "owedBy", "(II)I"⟩
abbrev cX3_setOwed : ByteArray := prog_5_method_7_code
def yX3_setOwed : MethodName := ⟨RX3, "setOwed", "(III)V"⟩
abbrev cX3_owedInAllTo : ByteArray := prog_5_method_8_code
def yX3_owedInAllTo : MethodName := ⟨RX3, "owedInAllTo", "(I)I"⟩
abbrev cX3_isFull : ByteArray := prog_5_method_9_code
def yX3_isFull : MethodName := ⟨RX3, "isFull", "()Z"⟩
abbrev cX3_allows : ByteArray := prog_5_method_10_code
def yX3_allows : MethodName := ⟨RX3, "allows", "(IIII)Z"⟩
abbrev cX3_enter : ByteArray := prog_5_method_11_code
def yX3_enter : MethodName := ⟨RX3, "enter", "(IIII)I"⟩
abbrev cX3_undoFrom : ByteArray := prog_5_method_12_code
def yX3_undoFrom : MethodName := ⟨RX3, "undoFrom", "(I)I"⟩
abbrev cX3_settle : ByteArray := prog_5_method_13_code
def yX3_settle : MethodName := ⟨RX3, "settle", "(IIII)V"⟩
abbrev cX3_move : ByteArray := prog_5_method_14_code
def yX3_move : MethodName := ⟨RX3, "move", "(III)V"⟩
def RX4 : String := "CoatBetween$Need"
def TX4 : u_T := fun k => match k with
  | 0 => ("CoatBetween$Need", "kind", "I", false)
  | 1 => ("CoatBetween$Need", "house", "I", false)
  | 2 => ("CoatBetween$Need", "from", "I", false)
  | 3 => ("CoatBetween$Need", "to", "I", false)
  | 4 => ("CoatBetween$Need", "length", "I", false)
  | 5 => ("CoatBetween$Need", "worth", "I", false)
  | _ => ("CoatBetween$Need", "chance", "I", false)
def tyX4 : Nat → FieldType := fun k => match k with
  | 0 => .int
  | 1 => .int
  | 2 => .int
  | 3 => .int
  | 4 => .int
  | 5 => .int
  | _ => .int
theorem nmX4 : ∀ a, a < 7 → ∀ b, b < 7 → a ≠ b → (TX4 a).2.1 ≠ (TX4 b).2.1 := by decide +kernel
theorem tyX4_ok : ∀ k, k < 7 → parseFieldDescriptor (TX4 k).2.2.1 = some (tyX4 k) := by decide +kernel
abbrev cX4_init : ByteArray := prog_6_method_1_code
def yX4_init : MethodName := ⟨RX4, "<init>", "()V"⟩
abbrev cX4_isA : ByteArray := prog_6_method_2_code
def yX4_isA : MethodName := ⟨RX4, "isA", "(I)Z"⟩
abbrev cX4_lastWatchFrom : ByteArray := prog_6_method_3_code
def yX4_lastWatchFrom : MethodName := ⟨RX4, "lastWatchFrom", "(I)I"⟩
abbrev cX4_latestBeginning : ByteArray := prog_6_method_4_code
def yX4_latestBeginning : MethodName := ⟨RX4, "latestBeginning", "()I"⟩
abbrev cX4_tell : ByteArray := prog_6_method_5_code
def yX4_tell : MethodName := ⟨RX4, "tell", "(I)I"⟩
abbrev cX4_markOf : ByteArray := prog_6_method_6_code
def yX4_markOf : MethodName := ⟨RX4, "markOf", "(I)I"⟩
def RX5 : String := "CoatBetween$Pairs"
def TX5 : u_T := fun k => match k with
  | 0 => ("CoatBetween$Pairs", "houses", "[I", true)
  | 1 => ("CoatBetween$Pairs", "values", "[I", true)
  | _ => ("CoatBetween$Pairs", "size", "I", false)
def tyX5 : Nat → FieldType := fun k => match k with
  | 0 => .array .int
  | 1 => .array .int
  | _ => .int
theorem nmX5 : ∀ a, a < 3 → ∀ b, b < 3 → a ≠ b → (TX5 a).2.1 ≠ (TX5 b).2.1 := by decide +kernel
theorem tyX5_ok : ∀ k, k < 3 → parseFieldDescriptor (TX5 k).2.2.1 = some (tyX5 k) := by decide +kernel
abbrev cX5_init : ByteArray := prog_7_method_1_code
def yX5_init : MethodName := ⟨RX5, "<init>", "(I)V"⟩
abbrev cX5_isFull : ByteArray := prog_7_method_2_code
def yX5_isFull : MethodName := ⟨RX5, "isFull", "()Z"⟩
abbrev cX5_has : ByteArray := prog_7_method_3_code
def yX5_has : MethodName := ⟨RX5, "has", "(I)Z"⟩
abbrev cX5_houseOf : ByteArray := prog_7_method_4_code
def yX5_houseOf : MethodName := ⟨RX5, "houseOf", "(I)I"⟩
abbrev cX5_valueOf : ByteArray := prog_7_method_5_code
def yX5_valueOf : MethodName := ⟨RX5, "valueOf", "(I)I"⟩
abbrev cX5_add : ByteArray := prog_7_method_6_code
def yX5_add : MethodName := ⟨RX5, "add", "(II)V"⟩
abbrev cX5_cutTo : ByteArray := prog_7_method_7_code
def yX5_cutTo : MethodName := ⟨RX5, "cutTo", "(I)V"⟩
abbrev cX5_lastOf : ByteArray := prog_7_method_8_code
def yX5_lastOf : MethodName := ⟨RX5, "lastOf", "(I)I"⟩
abbrev cX5_hasValue : ByteArray := prog_7_method_9_code
def yX5_hasValue : MethodName := ⟨RX5, "hasValue", "(I)Z"⟩
abbrev cX5_takeOut : ByteArray := prog_7_method_10_code
def yX5_takeOut : MethodName := ⟨RX5, "takeOut", "(I)V"⟩
def RX6 : String := "CoatBetween$Planner"
def TX6 : u_T := fun k => match k with
  | 0 => ("CoatBetween$Planner", "jobs", "LCoatBetween$Jobs;", true)
  | 1 => ("CoatBetween$Planner", "ends", "[I", true)
  | 2 => ("CoatBetween$Planner", "least", "[I", true)
  | _ => ("CoatBetween$Planner", "aside", "[I", true)
def tyX6 : Nat → FieldType := fun k => match k with
  | 0 => .object "CoatBetween$Jobs"
  | 1 => .array .int
  | 2 => .array .int
  | _ => .array .int
theorem nmX6 : ∀ a, a < 4 → ∀ b, b < 4 → a ≠ b → (TX6 a).2.1 ≠ (TX6 b).2.1 := by decide +kernel
theorem tyX6_ok : ∀ k, k < 4 → parseFieldDescriptor (TX6 k).2.2.1 = some (tyX6 k) := by decide +kernel
abbrev cX6_init : ByteArray := prog_8_method_1_code
def yX6_init : MethodName := ⟨RX6, "<init>", "(LCoatBetween$Jobs;)V"⟩
abbrev cX6_endOf : ByteArray := prog_8_method_2_code
def yX6_endOf : MethodName := ⟨RX6, "endOf", "(I)I"⟩
abbrev cX6_reach : ByteArray := prog_8_method_3_code
def yX6_reach : MethodName := ⟨RX6, "reach", "(III)V"⟩
abbrev cX6_spread : ByteArray := prog_8_method_4_code
def yX6_spread : MethodName := ⟨RX6, "spread", "(II)V"⟩
abbrev cX6_leastEnding : ByteArray := prog_8_method_5_code
def yX6_leastEnding : MethodName := ⟨RX6, "leastEnding", "(III)I"⟩
abbrev cX6_lesserEnd : ByteArray := prog_8_method_6_code
def yX6_lesserEnd : MethodName := ⟨RX6, "lesserEnd", "(II)I"⟩
abbrev cX6_bestPlan : ByteArray := prog_8_method_7_code
def yX6_bestPlan : MethodName := ⟨RX6, "bestPlan", "(II)I"⟩
abbrev cX6_setAside : ByteArray := prog_8_method_8_code
def yX6_setAside : MethodName := ⟨RX6, "setAside", "()V"⟩
abbrev cX6_mostByTwo : ByteArray := prog_8_method_9_code
def yX6_mostByTwo : MethodName := ⟨RX6, "mostByTwo", "(II)I"⟩
abbrev cX6_mostMendings : ByteArray := prog_8_method_10_code
def yX6_mostMendings : MethodName := ⟨RX6, "mostMendings", "(III)I"⟩
abbrev cX6_mendOnce : ByteArray := prog_8_method_11_code
def yX6_mendOnce : MethodName := ⟨RX6, "mendOnce", "(II)V"⟩
def RX7 : String := "CoatBetween$Reader"
def TX7 : u_T := fun k => match k with
  | 0 => ("CoatBetween$Reader", "place", "I", false)
  | _ => ("CoatBetween$Reader", "faultPlace", "I", false)
def tyX7 : Nat → FieldType := fun k => match k with
  | 0 => .int
  | _ => .int
theorem nmX7 : ∀ a, a < 2 → ∀ b, b < 2 → a ≠ b → (TX7 a).2.1 ≠ (TX7 b).2.1 := by decide +kernel
theorem tyX7_ok : ∀ k, k < 2 → parseFieldDescriptor (TX7 k).2.2.1 = some (tyX7 k) := by decide +kernel
abbrev cX7_init : ByteArray := prog_9_method_1_code
def yX7_init : MethodName := ⟨RX7, "<init>", "()V"⟩
abbrev cX7_read : ByteArray := prog_9_method_2_code
def yX7_read : MethodName := ⟨RX7, "read", "(LCoatBetween$Row;LCoatBetween$Lane;)I"⟩
abbrev cX7_readHouse : ByteArray := prog_9_method_3_code
def yX7_readHouse : MethodName := ⟨RX7, "readHouse", "(LCoatBetween$Row;LCoatBetween$Lane;)V"⟩
abbrev cX7_readNeed : ByteArray := prog_9_method_4_code
def yX7_readNeed : MethodName := ⟨RX7, "readNeed", "(LCoatBetween$Row;LCoatBetween$Lane;)V"⟩
abbrev cX7_stop : ByteArray := prog_9_method_5_code
def yX7_stop : MethodName := ⟨RX7, "stop", "()V"⟩
abbrev cX7_kindOf : ByteArray := prog_9_method_6_code
def yX7_kindOf : MethodName := ⟨RX7, "kindOf", "(I)I"⟩
abbrev cX7_readSign : ByteArray := prog_9_method_7_code
def yX7_readSign : MethodName := ⟨RX7, "readSign", "(LCoatBetween$Row;C)Z"⟩
abbrev cX7_figureHere : ByteArray := prog_9_method_8_code
def yX7_figureHere : MethodName := ⟨RX7, "figureHere", "(LCoatBetween$Row;)I"⟩
abbrev cX7_readNumber : ByteArray := prog_9_method_9_code
def yX7_readNumber : MethodName := ⟨RX7, "readNumber", "(LCoatBetween$Row;I)I"⟩
abbrev cX7_readFigure : ByteArray := prog_9_method_10_code
def yX7_readFigure : MethodName := ⟨RX7, "readFigure", "(LCoatBetween$Row;I)I"⟩
def RX8 : String := "CoatBetween$Row"
def TX8 : u_T := fun k => match k with
  | 0 => ("CoatBetween$Row", "cells", "[I", true)
  | _ => ("CoatBetween$Row", "size", "I", false)
def tyX8 : Nat → FieldType := fun k => match k with
  | 0 => .array .int
  | _ => .int
theorem nmX8 : ∀ a, a < 2 → ∀ b, b < 2 → a ≠ b → (TX8 a).2.1 ≠ (TX8 b).2.1 := by decide +kernel
theorem tyX8_ok : ∀ k, k < 2 → parseFieldDescriptor (TX8 k).2.2.1 = some (tyX8 k) := by decide +kernel
abbrev cX8_init : ByteArray := prog_10_method_1_code
def yX8_init : MethodName := ⟨RX8, "<init>", "(I)V"⟩
abbrev cX8_isMissing : ByteArray := prog_10_method_2_code
def yX8_isMissing : MethodName := ⟨RX8, "isMissing", "()Z"⟩
abbrev cX8_length : ByteArray := prog_10_method_3_code
def yX8_length : MethodName := ⟨RX8, "length", "()I"⟩
abbrev cX8_has : ByteArray := prog_10_method_4_code
def yX8_has : MethodName := ⟨RX8, "has", "(I)Z"⟩
abbrev cX8_hasPart : ByteArray := prog_10_method_5_code
def yX8_hasPart : MethodName := ⟨RX8, "hasPart", "(II)Z"⟩
abbrev cX8_cell : ByteArray := prog_10_method_6_code
def yX8_cell : MethodName := ⟨RX8, "cell", "(I)I"⟩
abbrev cX8_set : ByteArray := prog_10_method_7_code
def yX8_set : MethodName := ⟨RX8, "set", "(II)V"⟩
abbrev cX8_make : ByteArray := prog_10_method_8_code
def yX8_make : MethodName := ⟨RX8, "make", "(II)V"⟩
abbrev cX8_lose : ByteArray := prog_10_method_9_code
def yX8_lose : MethodName := ⟨RX8, "lose", "()V"⟩
abbrev cX8_takePart : ByteArray := prog_10_method_10_code
def yX8_takePart : MethodName := ⟨RX8, "takePart", "(ILCoatBetween$Row;II)V"⟩
abbrev cX8_sum : ByteArray := prog_10_method_11_code
def yX8_sum : MethodName := ⟨RX8, "sum", "()J"⟩
abbrev cX8_isWithin : ByteArray := prog_10_method_12_code
def yX8_isWithin : MethodName := ⟨RX8, "isWithin", "(II)Z"⟩
def RX9 : String := "CoatBetween$Tally"
def TX9 : u_T := fun k => match k with
  | 0 => ("CoatBetween$Tally", "jobs", "LCoatBetween$Jobs;", true)
  | _ => ("CoatBetween$Tally", "numbers", "[I", true)
def tyX9 : Nat → FieldType := fun k => match k with
  | 0 => .object "CoatBetween$Jobs"
  | _ => .array .int
theorem nmX9 : ∀ a, a < 2 → ∀ b, b < 2 → a ≠ b → (TX9 a).2.1 ≠ (TX9 b).2.1 := by decide +kernel
theorem tyX9_ok : ∀ k, k < 2 → parseFieldDescriptor (TX9 k).2.2.1 = some (tyX9 k) := by decide +kernel
abbrev cX9_init : ByteArray := prog_11_method_1_code
def yX9_init : MethodName := ⟨RX9, "<init>", "(LCoatBetween$Jobs;)V"⟩
abbrev cX9_numberOfOrders : ByteArray := prog_11_method_2_code
def yX9_numberOfOrders : MethodName := ⟨RX9, "numberOfOrders", "(II)I"⟩
abbrev cX9_numberTo : ByteArray := prog_11_method_3_code
def yX9_numberTo : MethodName := ⟨RX9, "numberTo", "(III)V"⟩
abbrev cX9_sumOf : ByteArray := prog_11_method_4_code
def yX9_sumOf : MethodName := ⟨RX9, "sumOf", "(II)I"⟩
abbrev cX9_isThere : ByteArray := prog_11_method_5_code
def yX9_isThere : MethodName := ⟨RX9, "isThere", "(III)Z"⟩
abbrev cX9_numberOf : ByteArray := prog_11_method_6_code
def yX9_numberOf : MethodName := ⟨RX9, "numberOf", "(III)I"⟩
abbrev cX9_setNumber : ByteArray := prog_11_method_7_code
def yX9_setNumber : MethodName := ⟨RX9, "setNumber", "(IIII)V"⟩
def RX10 : String := "CoatBetween$Way"
def TX10 : u_T := fun k => match k with
  | 0 => ("CoatBetween$Way", "jobs", "LCoatBetween$Jobs;", true)
  | 1 => ("CoatBetween$Way", "needs", "[I", true)
  | 2 => ("CoatBetween$Way", "beginnings", "[I", true)
  | 3 => ("CoatBetween$Way", "size", "I", false)
  | 4 => ("CoatBetween$Way", "place", "I", false)
  | _ => ("CoatBetween$Way", "free", "I", false)
def tyX10 : Nat → FieldType := fun k => match k with
  | 0 => .object "CoatBetween$Jobs"
  | 1 => .array .int
  | 2 => .array .int
  | 3 => .int
  | 4 => .int
  | _ => .int
theorem nmX10 : ∀ a, a < 6 → ∀ b, b < 6 → a ≠ b → (TX10 a).2.1 ≠ (TX10 b).2.1 := by decide +kernel
theorem tyX10_ok : ∀ k, k < 6 → parseFieldDescriptor (TX10 k).2.2.1 = some (tyX10 k) := by decide +kernel
abbrev cX10_init : ByteArray := prog_12_method_1_code
def yX10_init : MethodName := ⟨RX10, "<init>", "(LCoatBetween$Jobs;)V"⟩
abbrev cX10_beginAt : ByteArray := prog_12_method_2_code
def yX10_beginAt : MethodName := ⟨RX10, "beginAt", "(I)V"⟩
abbrev cX10_meet : ByteArray := prog_12_method_3_code
def yX10_meet : MethodName := ⟨RX10, "meet", "(I)Z"⟩
abbrev cX10_has : ByteArray := prog_12_method_4_code
def yX10_has : MethodName := ⟨RX10, "has", "(I)Z"⟩
abbrev cX10_needOf : ByteArray := prog_12_method_5_code
def yX10_needOf : MethodName := ⟨RX10, "needOf", "(I)I"⟩
abbrev cX10_beginningOf : ByteArray := prog_12_method_6_code
def yX10_beginningOf : MethodName := ⟨RX10, "beginningOf", "(I)I"⟩
abbrev cX10_metBits : ByteArray := prog_12_method_7_code
def yX10_metBits : MethodName := ⟨RX10, "metBits", "()I"⟩
abbrev cX10_worth : ByteArray := prog_12_method_8_code
def yX10_worth : MethodName := ⟨RX10, "worth", "()I"⟩
abbrev cX10_watchesWorn : ByteArray := prog_12_method_9_code
def yX10_watchesWorn : MethodName := ⟨RX10, "watchesWorn", "()I"⟩
def RX11 : String := "CoatBetween"
def TX11 : u_T := fun k => match k with
  | 0 => ("CoatBetween", "rows", "[LCoatBetween$Row;", true)
  | 1 => ("CoatBetween", "texts", "[LCoatBetween$Row;", true)
  | 2 => ("CoatBetween", "lane", "LCoatBetween$Lane;", true)
  | 3 => ("CoatBetween", "draft", "LCoatBetween$Lane;", true)
  | 4 => ("CoatBetween", "reader", "LCoatBetween$Reader;", true)
  | 5 => ("CoatBetween", "jobs", "LCoatBetween$Jobs;", true)
  | 6 => ("CoatBetween", "way", "LCoatBetween$Way;", true)
  | 7 => ("CoatBetween", "planner", "LCoatBetween$Planner;", true)
  | 8 => ("CoatBetween", "chooser", "LCoatBetween$Chooser;", true)
  | 9 => ("CoatBetween", "ledger", "LCoatBetween$Ledger;", true)
  | 10 => ("CoatBetween", "things", "LCoatBetween$Pairs;", true)
  | 11 => ("CoatBetween", "tracks", "LCoatBetween$Pairs;", true)
  | 12 => ("CoatBetween", "findingCounts", "[I", true)
  | 13 => ("CoatBetween", "tally", "LCoatBetween$Tally;", false)
  | 14 => ("CoatBetween", "lastFinding", "I", false)
  | 15 => ("CoatBetween", "told", "I", false)
  | 16 => ("CoatBetween", "over", "J", false)
  | _ => ("CoatBetween", "under", "J", false)
def tyX11 : Nat → FieldType := fun k => match k with
  | 0 => .array (.object "CoatBetween$Row")
  | 1 => .array (.object "CoatBetween$Row")
  | 2 => .object "CoatBetween$Lane"
  | 3 => .object "CoatBetween$Lane"
  | 4 => .object "CoatBetween$Reader"
  | 5 => .object "CoatBetween$Jobs"
  | 6 => .object "CoatBetween$Way"
  | 7 => .object "CoatBetween$Planner"
  | 8 => .object "CoatBetween$Chooser"
  | 9 => .object "CoatBetween$Ledger"
  | 10 => .object "CoatBetween$Pairs"
  | 11 => .object "CoatBetween$Pairs"
  | 12 => .array .int
  | 13 => .object "CoatBetween$Tally"
  | 14 => .int
  | 15 => .int
  | 16 => .long
  | _ => .long
theorem nmX11 : ∀ a, a < 18 → ∀ b, b < 18 → a ≠ b → (TX11 a).2.1 ≠ (TX11 b).2.1 := by decide +kernel
theorem tyX11_ok : ∀ k, k < 18 → parseFieldDescriptor (TX11 k).2.2.1 = some (tyX11 k) := by decide +kernel
abbrev cX11_init : ByteArray := prog_1_method_1_code
def yX11_init : MethodName := ⟨RX11, "<init>", "()V"⟩
abbrev cX11_row : ByteArray := prog_1_method_2_code
def yX11_row : MethodName := ⟨RX11, "row", "(II)I"⟩
abbrev cX11_lay : ByteArray := prog_1_method_3_code
def yX11_lay : MethodName := ⟨RX11, "lay", "(III)I"⟩
abbrev cX11_at : ByteArray := prog_1_method_4_code
def yX11_at : MethodName := ⟨RX11, "at", "(II)I"⟩
abbrev cX11_tear : ByteArray := prog_1_method_5_code
def yX11_tear : MethodName := ⟨RX11, "tear", "(I)I"⟩
abbrev cX11_copy : ByteArray := prog_1_method_6_code
def yX11_copy : MethodName := ⟨RX11, "copy", "(IIIII)I"⟩
abbrev cX11_mean : ByteArray := prog_1_method_7_code
def yX11_mean : MethodName := ⟨RX11, "mean", "(I)I"⟩
abbrev cX11_text : ByteArray := prog_1_method_8_code
def yX11_text : MethodName := ⟨RX11, "text", "(II)I"⟩
abbrev cX11_put : ByteArray := prog_1_method_9_code
def yX11_put : MethodName := ⟨RX11, "put", "(III)I"⟩
abbrev cX11_fault : ByteArray := prog_1_method_10_code
def yX11_fault : MethodName := ⟨RX11, "fault", "(I)I"⟩
abbrev cX11_village : ByteArray := prog_1_method_11_code
def yX11_village : MethodName := ⟨RX11, "village", "(I)I"⟩
abbrev cX11_house : ByteArray := prog_1_method_12_code
def yX11_house : MethodName := ⟨RX11, "house", "(I)I"⟩
abbrev cX11_need : ByteArray := prog_1_method_13_code
def yX11_need : MethodName := ⟨RX11, "need", "(II)I"⟩
abbrev cX11_mark : ByteArray := prog_1_method_14_code
def yX11_mark : MethodName := ⟨RX11, "mark", "(II)I"⟩
abbrev cX11_start : ByteArray := prog_1_method_15_code
def yX11_start : MethodName := ⟨RX11, "start", "(I)I"⟩
abbrev cX11_carry : ByteArray := prog_1_method_16_code
def yX11_carry : MethodName := ⟨RX11, "carry", "(II)I"⟩
abbrev cX11_chance : ByteArray := prog_1_method_17_code
def yX11_chance : MethodName := ⟨RX11, "chance", "(II)I"⟩
abbrev cX11_order : ByteArray := prog_1_method_18_code
def yX11_order : MethodName := ⟨RX11, "order", "(I)I"⟩
abbrev cX11_begins : ByteArray := prog_1_method_19_code
def yX11_begins : MethodName := ⟨RX11, "begins", "(II)I"⟩
abbrev cX11_can : ByteArray := prog_1_method_20_code
def yX11_can : MethodName := ⟨RX11, "can", "(I)I"⟩
abbrev cX11_sets : ByteArray := prog_1_method_21_code
def yX11_sets : MethodName := ⟨RX11, "sets", "()I"⟩
abbrev cX11_best : ByteArray := prog_1_method_22_code
def yX11_best : MethodName := ⟨RX11, "best", "()I"⟩
abbrev cX11_first : ByteArray := prog_1_method_23_code
def yX11_first : MethodName := ⟨RX11, "first", "(II)I"⟩
abbrev cX11_orders : ByteArray := prog_1_method_24_code
def yX11_orders : MethodName := ⟨RX11, "orders", "(I)I"⟩
abbrev cX11_costs : ByteArray := prog_1_method_25_code
def yX11_costs : MethodName := ⟨RX11, "costs", "(I)I"⟩
abbrev cX11_worn : ByteArray := prog_1_method_26_code
def yX11_worn : MethodName := ⟨RX11, "worn", "(I)I"⟩
abbrev cX11_rule : ByteArray := prog_1_method_27_code
def yX11_rule : MethodName := ⟨RX11, "rule", "(II)I"⟩
abbrev cX11_wise : ByteArray := prog_1_method_28_code
def yX11_wise : MethodName := ⟨RX11, "wise", "()I"⟩
abbrev cX11_second : ByteArray := prog_1_method_29_code
def yX11_second : MethodName := ⟨RX11, "second", "(I)I"⟩
abbrev cX11_two : ByteArray := prog_1_method_30_code
def yX11_two : MethodName := ⟨RX11, "two", "(II)I"⟩
abbrev cX11_mends : ByteArray := prog_1_method_31_code
def yX11_mends : MethodName := ⟨RX11, "mends", "(II)I"⟩
abbrev cX11_odds : ByteArray := prog_1_method_32_code
def yX11_odds : MethodName := ⟨RX11, "odds", "()I"⟩
abbrev cX11_call : ByteArray := prog_1_method_33_code
def yX11_call : MethodName := ⟨RX11, "call", "(I)I"⟩
abbrev cX11_keep : ByteArray := prog_1_method_34_code
def yX11_keep : MethodName := ⟨RX11, "keep", "(I)I"⟩
abbrev cX11_deal : ByteArray := prog_1_method_35_code
def yX11_deal : MethodName := ⟨RX11, "deal", "(IIII)I"⟩
abbrev cX11_undo : ByteArray := prog_1_method_36_code
def yX11_undo : MethodName := ⟨RX11, "undo", "(I)I"⟩
abbrev cX11_owes : ByteArray := prog_1_method_37_code
def yX11_owes : MethodName := ⟨RX11, "owes", "(II)I"⟩
abbrev cX11_rich : ByteArray := prog_1_method_38_code
def yX11_rich : MethodName := ⟨RX11, "rich", "()I"⟩
abbrev cX11_pocket : ByteArray := prog_1_method_39_code
def yX11_pocket : MethodName := ⟨RX11, "pocket", "(II)I"⟩
abbrev cX11_find : ByteArray := prog_1_method_40_code
def yX11_find : MethodName := ⟨RX11, "find", "(I)I"⟩
abbrev cX11_track : ByteArray := prog_1_method_41_code
def yX11_track : MethodName := ⟨RX11, "track", "(II)I"⟩
abbrev cX11_forget : ByteArray := prog_1_method_42_code
def yX11_forget : MethodName := ⟨RX11, "forget", "(I)I"⟩
abbrev cX11_could : ByteArray := prog_1_method_43_code
def yX11_could : MethodName := ⟨RX11, "could", "(I)I"⟩
abbrev cX11_liar : ByteArray := prog_1_method_44_code
def yX11_liar : MethodName := ⟨RX11, "liar", "()I"⟩
abbrev cX11_image : ByteArray := prog_1_method_45_code
def yX11_image : MethodName := ⟨RX11, "image", "(I)I"⟩
abbrev cX11_on : ByteArray := prog_1_method_46_code
def yX11_on : MethodName := ⟨RX11, "on", "(I)I"⟩
abbrev cX11_asked : ByteArray := prog_1_method_47_code
def yX11_asked : MethodName := ⟨RX11, "asked", "()I"⟩
abbrev cX11_upper : ByteArray := prog_1_method_48_code
def yX11_upper : MethodName := ⟨RX11, "upper", "()J"⟩
abbrev cX11_lower : ByteArray := prog_1_method_49_code
def yX11_lower : MethodName := ⟨RX11, "lower", "()J"⟩
abbrev cX11_count : ByteArray := prog_1_method_50_code
def yX11_count : MethodName := ⟨RX11, "count", "(I)I"⟩
abbrev cX11_finding : ByteArray := prog_1_method_51_code
def yX11_finding : MethodName := ⟨RX11, "finding", "()I"⟩
abbrev cX11_findings : ByteArray := prog_1_method_52_code
def yX11_findings : MethodName := ⟨RX11, "findings", "(I)I"⟩
abbrev cX11_digest : ByteArray := prog_1_method_53_code
def yX11_digest : MethodName := ⟨RX11, "digest", "()J"⟩
abbrev cX11_rowOf : ByteArray := prog_1_method_54_code
def yX11_rowOf : MethodName := ⟨RX11, "rowOf", "(I)LCoatBetween$Row;"⟩
abbrev cX11_textOf : ByteArray := prog_1_method_55_code
def yX11_textOf : MethodName := ⟨RX11, "textOf", "(I)LCoatBetween$Row;"⟩
abbrev cX11_found : ByteArray := prog_1_method_56_code
def yX11_found : MethodName := ⟨RX11, "found", "(I)I"⟩
abbrev cX11_tellFraction : ByteArray := prog_1_method_57_code
def yX11_tellFraction : MethodName := ⟨RX11, "tellFraction", "(JJ)V"⟩
abbrev cX11_greatestDivisor : ByteArray := prog_1_method_58_code
def yX11_greatestDivisor : MethodName := ⟨RX11, "greatestDivisor", "(JJ)J"⟩
abbrev cX11_bit : ByteArray := prog_1_method_59_code
def yX11_bit : MethodName := ⟨RX11, "bit", "(I)I"⟩
abbrev cX11_isIn : ByteArray := prog_1_method_60_code
def yX11_isIn : MethodName := ⟨RX11, "isIn", "(II)Z"⟩
abbrev cX11_isWatch : ByteArray := prog_1_method_61_code
def yX11_isWatch : MethodName := ⟨RX11, "isWatch", "(I)Z"⟩
abbrev cX11_watchesApart : ByteArray := prog_1_method_62_code
def yX11_watchesApart : MethodName := ⟨RX11, "watchesApart", "(II)I"⟩
abbrev cX11_wrongInOrder : ByteArray := prog_1_method_63_code
def yX11_wrongInOrder : MethodName := ⟨RX11, "wrongInOrder", "(LCoatBetween$Row;)I"⟩
abbrev cX11_goAlong : ByteArray := prog_1_method_64_code
def yX11_goAlong : MethodName := ⟨RX11, "goAlong", "(LCoatBetween$Row;)V"⟩
abbrev cX11_goFirstOrder : ByteArray := prog_1_method_65_code
def yX11_goFirstOrder : MethodName := ⟨RX11, "goFirstOrder", "(I)Z"⟩
abbrev cX11_tellWay : ByteArray := prog_1_method_66_code
def yX11_tellWay : MethodName := ⟨RX11, "tellWay", "(LCoatBetween$Row;)V"⟩
abbrev cX11_reachFromStart : ByteArray := prog_1_method_67_code
def yX11_reachFromStart : MethodName := ⟨RX11, "reachFromStart", "(I)V"⟩
abbrev cX11_carryByParts : ByteArray := prog_1_method_68_code
def yX11_carryByParts : MethodName := ⟨RX11, "carryByParts", "(ILCoatBetween$Row;)I"⟩
abbrev cX11_agreesWithTracks : ByteArray := prog_1_method_69_code
def yX11_agreesWithTracks : MethodName := ⟨RX11, "agreesWithTracks", "(III)Z"⟩
abbrev cX11_canGo : ByteArray := prog_1_method_70_code
def yX11_canGo : MethodName := ⟨RX11, "canGo", "(IIII)Z"⟩
abbrev cX11_numberThere : ByteArray := prog_1_method_71_code
def yX11_numberThere : MethodName := ⟨RX11, "numberThere", "([LCoatBetween$Row;)I"⟩
abbrev cX11_mix : ByteArray := prog_1_method_72_code
def yX11_mix : MethodName := ⟨RX11, "mix", "(JJ)J"⟩
abbrev cX11_mixHouses : ByteArray := prog_1_method_73_code
def yX11_mixHouses : MethodName := ⟨RX11, "mixHouses", "(J)J"⟩
abbrev cX11_mixNeeds : ByteArray := prog_1_method_74_code
def yX11_mixNeeds : MethodName := ⟨RX11, "mixNeeds", "(J)J"⟩
abbrev cX11_mixPairs : ByteArray := prog_1_method_75_code
def yX11_mixPairs : MethodName := ⟨RX11, "mixPairs", "(JLCoatBetween$Pairs;)J"⟩
abbrev cX11_mixRows : ByteArray := prog_1_method_76_code
def yX11_mixRows : MethodName := ⟨RX11, "mixRows", "(J[LCoatBetween$Row;)J"⟩
def RX12 : String := "CoatBetweenModel"
def TX12 : u_T := fun k => match k with
  | 0 => ("CoatBetweenModel", "latest", "I", false)
  | 1 => ("CoatBetweenModel", "came", "[I", true)
  | 2 => ("CoatBetweenModel", "asked", "I", false)
  | 3 => ("CoatBetweenModel", "upper", "J", false)
  | 4 => ("CoatBetweenModel", "lower", "J", false)
  | 5 => ("CoatBetweenModel", "sizes", "[I", true)
  | 6 => ("CoatBetweenModel", "rows", "[I", true)
  | 7 => ("CoatBetweenModel", "copied", "[I", true)
  | 8 => ("CoatBetweenModel", "textSizes", "[I", true)
  | 9 => ("CoatBetweenModel", "bytes", "[B", true)
  | 10 => ("CoatBetweenModel", "houseMany", "I", false)
  | 11 => ("CoatBetweenModel", "places", "[I", true)
  | 12 => ("CoatBetweenModel", "needMany", "I", false)
  | 13 => ("CoatBetweenModel", "needs", "[I", true)
  | 14 => ("CoatBetweenModel", "chances", "[I", true)
  | 15 => ("CoatBetweenModel", "startAt", "I", false)
  | 16 => ("CoatBetweenModel", "readAt", "I", false)
  | 17 => ("CoatBetweenModel", "readNumber", "I", false)
  | 18 => ("CoatBetweenModel", "readHouses", "I", false)
  | 19 => ("CoatBetweenModel", "readNeeds", "I", false)
  | 20 => ("CoatBetweenModel", "readPlaces", "[I", true)
  | 21 => ("CoatBetweenModel", "readNeed", "[I", true)
  | 22 => ("CoatBetweenModel", "line", "[I", true)
  | 23 => ("CoatBetweenModel", "lineMany", "I", false)
  | 24 => ("CoatBetweenModel", "begun", "[I", true)
  | 25 => ("CoatBetweenModel", "gone", "I", false)
  | 26 => ("CoatBetweenModel", "frees", "[I", true)
  | 27 => ("CoatBetweenModel", "ends", "[I", true)
  | 28 => ("CoatBetweenModel", "letters", "[I", true)
  | 29 => ("CoatBetweenModel", "letterMany", "I", false)
  | 30 => ("CoatBetweenModel", "firstEnds", "[I", true)
  | 31 => ("CoatBetweenModel", "kept", "[I", true)
  | 32 => ("CoatBetweenModel", "mended", "[I", true)
  | 33 => ("CoatBetweenModel", "hours", "[I", true)
  | 34 => ("CoatBetweenModel", "owed", "[I", true)
  | 35 => ("CoatBetweenModel", "dealMany", "I", false)
  | 36 => ("CoatBetweenModel", "deals", "[I", true)
  | 37 => ("CoatBetweenModel", "thingMany", "I", false)
  | 38 => ("CoatBetweenModel", "thingHouse", "[I", true)
  | 39 => ("CoatBetweenModel", "things", "[I", true)
  | 40 => ("CoatBetweenModel", "trackMany", "I", false)
  | 41 => ("CoatBetweenModel", "trackHouse", "[I", true)
  | 42 => ("CoatBetweenModel", "trackWatch", "[I", true)
  | _ => ("CoatBetweenModel", "hash", "J", false)
def tyX12 : Nat → FieldType := fun k => match k with
  | 0 => .int
  | 1 => .array .int
  | 2 => .int
  | 3 => .long
  | 4 => .long
  | 5 => .array .int
  | 6 => .array .int
  | 7 => .array .int
  | 8 => .array .int
  | 9 => .array .byte
  | 10 => .int
  | 11 => .array .int
  | 12 => .int
  | 13 => .array .int
  | 14 => .array .int
  | 15 => .int
  | 16 => .int
  | 17 => .int
  | 18 => .int
  | 19 => .int
  | 20 => .array .int
  | 21 => .array .int
  | 22 => .array .int
  | 23 => .int
  | 24 => .array .int
  | 25 => .int
  | 26 => .array .int
  | 27 => .array .int
  | 28 => .array .int
  | 29 => .int
  | 30 => .array .int
  | 31 => .array .int
  | 32 => .array .int
  | 33 => .array .int
  | 34 => .array .int
  | 35 => .int
  | 36 => .array .int
  | 37 => .int
  | 38 => .array .int
  | 39 => .array .int
  | 40 => .int
  | 41 => .array .int
  | 42 => .array .int
  | _ => .long
theorem nmX12 : ∀ a, a < 44 → ∀ b, b < 44 → a ≠ b → (TX12 a).2.1 ≠ (TX12 b).2.1 := by decide +kernel
theorem tyX12_ok : ∀ k, k < 44 → parseFieldDescriptor (TX12 k).2.2.1 = some (tyX12 k) := by decide +kernel
abbrev cX12_init : ByteArray := prog_14_method_1_code
def yX12_init : MethodName := ⟨RX12, "<init>", "()V"⟩
abbrev cX12_in : ByteArray := prog_14_method_2_code
def yX12_in : MethodName := ⟨RX12, "in", "(III)Z"⟩
abbrev cX12_has : ByteArray := prog_14_method_3_code
def yX12_has : MethodName := ⟨RX12, "has", "(II)Z"⟩
abbrev cX12_bits : ByteArray := prog_14_method_4_code
def yX12_bits : MethodName := ⟨RX12, "bits", "(I)I"⟩
abbrev cX12_lesser : ByteArray := prog_14_method_5_code
def yX12_lesser : MethodName := ⟨RX12, "lesser", "(II)I"⟩
abbrev cX12_greater : ByteArray := prog_14_method_6_code
def yX12_greater : MethodName := ⟨RX12, "greater", "(II)I"⟩
abbrev cX12_far : ByteArray := prog_14_method_7_code
def yX12_far : MethodName := ⟨RX12, "far", "(II)I"⟩
abbrev cX12_meets : ByteArray := prog_14_method_8_code
def yX12_meets : MethodName := ⟨RX12, "meets", "(I)I"⟩
abbrev cX12_finding : ByteArray := prog_14_method_9_code
def yX12_finding : MethodName := ⟨RX12, "finding", "()I"⟩
abbrev cX12_findings : ByteArray := prog_14_method_10_code
def yX12_findings : MethodName := ⟨RX12, "findings", "(I)I"⟩
abbrev cX12_tells : ByteArray := prog_14_method_11_code
def yX12_tells : MethodName := ⟨RX12, "tells", "(II)I"⟩
abbrev cX12_asked : ByteArray := prog_14_method_12_code
def yX12_asked : MethodName := ⟨RX12, "asked", "()I"⟩
abbrev cX12_fraction : ByteArray := prog_14_method_13_code
def yX12_fraction : MethodName := ⟨RX12, "fraction", "(JJI)I"⟩
abbrev cX12_upper : ByteArray := prog_14_method_14_code
def yX12_upper : MethodName := ⟨RX12, "upper", "()J"⟩
abbrev cX12_lower : ByteArray := prog_14_method_15_code
def yX12_lower : MethodName := ⟨RX12, "lower", "()J"⟩
abbrev cX12_isRow : ByteArray := prog_14_method_16_code
def yX12_isRow : MethodName := ⟨RX12, "isRow", "(I)Z"⟩
abbrev cX12_rowAt : ByteArray := prog_14_method_17_code
def yX12_rowAt : MethodName := ⟨RX12, "rowAt", "(II)I"⟩
abbrev cX12_row : ByteArray := prog_14_method_18_code
def yX12_row : MethodName := ⟨RX12, "row", "(II)I"⟩
abbrev cX12_lay : ByteArray := prog_14_method_19_code
def yX12_lay : MethodName := ⟨RX12, "lay", "(III)I"⟩
abbrev cX12_at : ByteArray := prog_14_method_20_code
def yX12_at : MethodName := ⟨RX12, "at", "(II)I"⟩
abbrev cX12_tear : ByteArray := prog_14_method_21_code
def yX12_tear : MethodName := ⟨RX12, "tear", "(I)I"⟩
abbrev cX12_copy : ByteArray := prog_14_method_22_code
def yX12_copy : MethodName := ⟨RX12, "copy", "(IIIII)I"⟩
abbrev cX12_mean : ByteArray := prog_14_method_23_code
def yX12_mean : MethodName := ⟨RX12, "mean", "(I)I"⟩
abbrev cX12_isText : ByteArray := prog_14_method_24_code
def yX12_isText : MethodName := ⟨RX12, "isText", "(I)Z"⟩
abbrev cX12_text : ByteArray := prog_14_method_25_code
def yX12_text : MethodName := ⟨RX12, "text", "(II)I"⟩
abbrev cX12_put : ByteArray := prog_14_method_26_code
def yX12_put : MethodName := ⟨RX12, "put", "(III)I"⟩
abbrev cX12_byteAt : ByteArray := prog_14_method_27_code
def yX12_byteAt : MethodName := ⟨RX12, "byteAt", "(II)I"⟩
abbrev cX12_sign : ByteArray := prog_14_method_28_code
def yX12_sign : MethodName := ⟨RX12, "sign", "(II)Z"⟩
abbrev cX12_number : ByteArray := prog_14_method_29_code
def yX12_number : MethodName := ⟨RX12, "number", "(III)Z"⟩
abbrev cX12_figure : ByteArray := prog_14_method_30_code
def yX12_figure : MethodName := ⟨RX12, "figure", "(III)Z"⟩
abbrev cX12_kindOf : ByteArray := prog_14_method_31_code
def yX12_kindOf : MethodName := ⟨RX12, "kindOf", "(I)I"⟩
abbrev cX12_readsHouse : ByteArray := prog_14_method_32_code
def yX12_readsHouse : MethodName := ⟨RX12, "readsHouse", "(I)Z"⟩
abbrev cX12_readsNeed : ByteArray := prog_14_method_33_code
def yX12_readsNeed : MethodName := ⟨RX12, "readsNeed", "(II)Z"⟩
abbrev cX12_readsItem : ByteArray := prog_14_method_34_code
def yX12_readsItem : MethodName := ⟨RX12, "readsItem", "(I)Z"⟩
abbrev cX12_faultOf : ByteArray := prog_14_method_35_code
def yX12_faultOf : MethodName := ⟨RX12, "faultOf", "(I)I"⟩
abbrev cX12_fault : ByteArray := prog_14_method_36_code
def yX12_fault : MethodName := ⟨RX12, "fault", "(I)I"⟩
abbrev cX12_village : ByteArray := prog_14_method_37_code
def yX12_village : MethodName := ⟨RX12, "village", "(I)I"⟩
abbrev cX12_isHouse : ByteArray := prog_14_method_38_code
def yX12_isHouse : MethodName := ⟨RX12, "isHouse", "(I)Z"⟩
abbrev cX12_isNeed : ByteArray := prog_14_method_39_code
def yX12_isNeed : MethodName := ⟨RX12, "isNeed", "(I)Z"⟩
abbrev cX12_carryOf : ByteArray := prog_14_method_40_code
def yX12_carryOf : MethodName := ⟨RX12, "carryOf", "(II)I"⟩
abbrev cX12_kind : ByteArray := prog_14_method_41_code
def yX12_kind : MethodName := ⟨RX12, "kind", "(I)I"⟩
abbrev cX12_needAt : ByteArray := prog_14_method_42_code
def yX12_needAt : MethodName := ⟨RX12, "needAt", "(II)I"⟩
abbrev cX12_isMust : ByteArray := prog_14_method_43_code
def yX12_isMust : MethodName := ⟨RX12, "isMust", "(I)Z"⟩
abbrev cX12_isLot : ByteArray := prog_14_method_44_code
def yX12_isLot : MethodName := ⟨RX12, "isLot", "(I)Z"⟩
abbrev cX12_house : ByteArray := prog_14_method_45_code
def yX12_house : MethodName := ⟨RX12, "house", "(I)I"⟩
abbrev cX12_need : ByteArray := prog_14_method_46_code
def yX12_need : MethodName := ⟨RX12, "need", "(II)I"⟩
abbrev cX12_mark : ByteArray := prog_14_method_47_code
def yX12_mark : MethodName := ⟨RX12, "mark", "(II)I"⟩
abbrev cX12_start : ByteArray := prog_14_method_48_code
def yX12_start : MethodName := ⟨RX12, "start", "(I)I"⟩
abbrev cX12_carry : ByteArray := prog_14_method_49_code
def yX12_carry : MethodName := ⟨RX12, "carry", "(II)I"⟩
abbrev cX12_chance : ByteArray := prog_14_method_50_code
def yX12_chance : MethodName := ⟨RX12, "chance", "(II)I"⟩
abbrev cX12_beginOf : ByteArray := prog_14_method_51_code
def yX12_beginOf : MethodName := ⟨RX12, "beginOf", "(III)I"⟩
abbrev cX12_endOf : ByteArray := prog_14_method_52_code
def yX12_endOf : MethodName := ⟨RX12, "endOf", "(III)I"⟩
abbrev cX12_does : ByteArray := prog_14_method_53_code
def yX12_does : MethodName := ⟨RX12, "does", "()I"⟩
abbrev cX12_needLine : ByteArray := prog_14_method_54_code
def yX12_needLine : MethodName := ⟨RX12, "needLine", "(I)I"⟩
abbrev cX12_order : ByteArray := prog_14_method_55_code
def yX12_order : MethodName := ⟨RX12, "order", "(I)I"⟩
abbrev cX12_begins : ByteArray := prog_14_method_56_code
def yX12_begins : MethodName := ⟨RX12, "begins", "(II)I"⟩
abbrev cX12_full : ByteArray := prog_14_method_57_code
def yX12_full : MethodName := ⟨RX12, "full", "()I"⟩
abbrev cX12_layEnds : ByteArray := prog_14_method_58_code
def yX12_layEnds : MethodName := ⟨RX12, "layEnds", "(I)V"⟩
abbrev cX12_isSet : ByteArray := prog_14_method_59_code
def yX12_isSet : MethodName := ⟨RX12, "isSet", "(I)Z"⟩
abbrev cX12_worthOf : ByteArray := prog_14_method_60_code
def yX12_worthOf : MethodName := ⟨RX12, "worthOf", "(I)I"⟩
abbrev cX12_musts : ByteArray := prog_14_method_61_code
def yX12_musts : MethodName := ⟨RX12, "musts", "()I"⟩
abbrev cX12_can : ByteArray := prog_14_method_62_code
def yX12_can : MethodName := ⟨RX12, "can", "(I)I"⟩
abbrev cX12_sets : ByteArray := prog_14_method_63_code
def yX12_sets : MethodName := ⟨RX12, "sets", "()I"⟩
abbrev cX12_bestOf : ByteArray := prog_14_method_64_code
def yX12_bestOf : MethodName := ⟨RX12, "bestOf", "(II)I"⟩
abbrev cX12_best : ByteArray := prog_14_method_65_code
def yX12_best : MethodName := ⟨RX12, "best", "()I"⟩
abbrev cX12_firstLine : ByteArray := prog_14_method_66_code
def yX12_firstLine : MethodName := ⟨RX12, "firstLine", "(I)V"⟩
abbrev cX12_nextLine : ByteArray := prog_14_method_67_code
def yX12_nextLine : MethodName := ⟨RX12, "nextLine", "()Z"⟩
abbrev cX12_swap : ByteArray := prog_14_method_68_code
def yX12_swap : MethodName := ⟨RX12, "swap", "(II)V"⟩
abbrev cX12_layFirst : ByteArray := prog_14_method_69_code
def yX12_layFirst : MethodName := ⟨RX12, "layFirst", "(I)Z"⟩
abbrev cX12_lineToRow : ByteArray := prog_14_method_70_code
def yX12_lineToRow : MethodName := ⟨RX12, "lineToRow", "(I)V"⟩
abbrev cX12_first : ByteArray := prog_14_method_71_code
def yX12_first : MethodName := ⟨RX12, "first", "(II)I"⟩
abbrev cX12_orders : ByteArray := prog_14_method_72_code
def yX12_orders : MethodName := ⟨RX12, "orders", "(I)I"⟩
abbrev cX12_costs : ByteArray := prog_14_method_73_code
def yX12_costs : MethodName := ⟨RX12, "costs", "(I)I"⟩
abbrev cX12_worn : ByteArray := prog_14_method_74_code
def yX12_worn : MethodName := ⟨RX12, "worn", "(I)I"⟩
abbrev cX12_letterOf : ByteArray := prog_14_method_75_code
def yX12_letterOf : MethodName := ⟨RX12, "letterOf", "(I)I"⟩
abbrev cX12_isAhead : ByteArray := prog_14_method_76_code
def yX12_isAhead : MethodName := ⟨RX12, "isAhead", "(III)Z"⟩
abbrev cX12_rankOf : ByteArray := prog_14_method_77_code
def yX12_rankOf : MethodName := ⟨RX12, "rankOf", "(III)I"⟩
abbrev cX12_ruled : ByteArray := prog_14_method_78_code
def yX12_ruled : MethodName := ⟨RX12, "ruled", "()I"⟩
abbrev cX12_rule : ByteArray := prog_14_method_79_code
def yX12_rule : MethodName := ⟨RX12, "rule", "(II)I"⟩
abbrev cX12_wise : ByteArray := prog_14_method_80_code
def yX12_wise : MethodName := ⟨RX12, "wise", "()I"⟩
abbrev cX12_second : ByteArray := prog_14_method_81_code
def yX12_second : MethodName := ⟨RX12, "second", "(I)I"⟩
abbrev cX12_isShared : ByteArray := prog_14_method_82_code
def yX12_isShared : MethodName := ⟨RX12, "isShared", "(I)Z"⟩
abbrev cX12_two : ByteArray := prog_14_method_83_code
def yX12_two : MethodName := ⟨RX12, "two", "(II)I"⟩
abbrev cX12_spot : ByteArray := prog_14_method_84_code
def yX12_spot : MethodName := ⟨RX12, "spot", "(III)I"⟩
abbrev cX12_mends : ByteArray := prog_14_method_85_code
def yX12_mends : MethodName := ⟨RX12, "mends", "(II)I"⟩
abbrev cX12_houseBehind : ByteArray := prog_14_method_86_code
def yX12_houseBehind : MethodName := ⟨RX12, "houseBehind", "(IIII)I"⟩
abbrev cX12_layMended : ByteArray := prog_14_method_87_code
def yX12_layMended : MethodName := ⟨RX12, "layMended", "(III)V"⟩
abbrev cX12_odds : ByteArray := prog_14_method_88_code
def yX12_odds : MethodName := ⟨RX12, "odds", "()I"⟩
abbrev cX12_call : ByteArray := prog_14_method_89_code
def yX12_call : MethodName := ⟨RX12, "call", "(I)I"⟩
abbrev cX12_keep : ByteArray := prog_14_method_90_code
def yX12_keep : MethodName := ⟨RX12, "keep", "(I)I"⟩
abbrev cX12_doDeal : ByteArray := prog_14_method_91_code
def yX12_doDeal : MethodName := ⟨RX12, "doDeal", "(IIII)V"⟩
abbrev cX12_deal : ByteArray := prog_14_method_92_code
def yX12_deal : MethodName := ⟨RX12, "deal", "(IIII)I"⟩
abbrev cX12_undo : ByteArray := prog_14_method_93_code
def yX12_undo : MethodName := ⟨RX12, "undo", "(I)I"⟩
abbrev cX12_owes : ByteArray := prog_14_method_94_code
def yX12_owes : MethodName := ⟨RX12, "owes", "(II)I"⟩
abbrev cX12_rich : ByteArray := prog_14_method_95_code
def yX12_rich : MethodName := ⟨RX12, "rich", "()I"⟩
abbrev cX12_pocket : ByteArray := prog_14_method_96_code
def yX12_pocket : MethodName := ⟨RX12, "pocket", "(II)I"⟩
abbrev cX12_find : ByteArray := prog_14_method_97_code
def yX12_find : MethodName := ⟨RX12, "find", "(I)I"⟩
abbrev cX12_track : ByteArray := prog_14_method_98_code
def yX12_track : MethodName := ⟨RX12, "track", "(II)I"⟩
abbrev cX12_forget : ByteArray := prog_14_method_99_code
def yX12_forget : MethodName := ⟨RX12, "forget", "(I)I"⟩
abbrev cX12_canGo : ByteArray := prog_14_method_100_code
def yX12_canGo : MethodName := ⟨RX12, "canGo", "(IIII)Z"⟩
abbrev cX12_canBegin : ByteArray := prog_14_method_101_code
def yX12_canBegin : MethodName := ⟨RX12, "canBegin", "(II)Z"⟩
abbrev cX12_could : ByteArray := prog_14_method_102_code
def yX12_could : MethodName := ⟨RX12, "could", "(I)I"⟩
abbrev cX12_liar : ByteArray := prog_14_method_103_code
def yX12_liar : MethodName := ⟨RX12, "liar", "()I"⟩
abbrev cX12_image : ByteArray := prog_14_method_104_code
def yX12_image : MethodName := ⟨RX12, "image", "(I)I"⟩
abbrev cX12_on : ByteArray := prog_14_method_105_code
def yX12_on : MethodName := ⟨RX12, "on", "(I)I"⟩
abbrev cX12_counted : ByteArray := prog_14_method_106_code
def yX12_counted : MethodName := ⟨RX12, "counted", "(I)I"⟩
abbrev cX12_count : ByteArray := prog_14_method_107_code
def yX12_count : MethodName := ⟨RX12, "count", "(I)I"⟩
abbrev cX12_mix : ByteArray := prog_14_method_108_code
def yX12_mix : MethodName := ⟨RX12, "mix", "(J)V"⟩
abbrev cX12_mixVillage : ByteArray := prog_14_method_109_code
def yX12_mixVillage : MethodName := ⟨RX12, "mixVillage", "()V"⟩
abbrev cX12_digest : ByteArray := prog_14_method_110_code
def yX12_digest : MethodName := ⟨RX12, "digest", "()J"⟩
def RL : String := "CoatBetweenLaw"
abbrev cL_law : ByteArray := code
def yL_law : MethodName := ⟨RL, "law", "([I)Z"⟩
abbrev vwCl : List vw_C := [(RX0, TX0, 4), (RX1, TX1, 6), (RX2, TX2, 6), (RX3, TX3, 7), (RX4, TX4, 7), (RX5, TX5, 3), (RX6, TX6, 4), (RX7, TX7, 2), (RX8, TX8, 2), (RX9, TX9, 2), (RX10, TX10, 6), (RX11, TX11, 18), (RX12, TX12, 44)]
/-- the words that all contracts share: those of the tables that stay -/
def gw : List Cond := lw_tbl.filter goodWord
theorem gwp {w : Cond} (h : w ∈ lw_tbl) (g : goodWord w = true) : w ∈ gw := List.mem_filter.mpr ⟨h, g⟩
theorem gw0 {w : Cond} (i : Nat) (h : (k2_sels lw_privs)[i]? = some w) (g : goodWord w = true) : w ∈ gw := gwp (List.mem_append_left _ (List.mem_of_getElem? h)) g
theorem gwt {w : Cond} (h : w ∈ tables_1) (g : goodWord w = true) : w ∈ gw := gwp (List.mem_append_right _ h) g
theorem gw1 {w : Cond} (i : Nat) (h : tables_1_1[i]? = some w) (g : goodWord w = true) : w ∈ gw := gwt (show w ∈ tables_1 from (List.mem_append_left _ (List.mem_of_getElem? h))) g
theorem gw2 {w : Cond} (i : Nat) (h : tables_1_2[i]? = some w) (g : goodWord w = true) : w ∈ gw := gwt (show w ∈ tables_1 from (List.mem_append_right _ (List.mem_append_left _ (List.mem_of_getElem? h)))) g
theorem gw3 {w : Cond} (i : Nat) (h : tables_1_3[i]? = some w) (g : goodWord w = true) : w ∈ gw := gwt (show w ∈ tables_1 from (List.mem_append_right _ (List.mem_append_right _ (List.mem_append_left _ (List.mem_of_getElem? h))))) g
theorem gw4 {w : Cond} (i : Nat) (h : tables_1_4[i]? = some w) (g : goodWord w = true) : w ∈ gw := gwt (show w ∈ tables_1 from (List.mem_append_right _ (List.mem_append_right _ (List.mem_append_right _ (List.mem_append_left _ (List.mem_of_getElem? h)))))) g
theorem gw5 {w : Cond} (i : Nat) (h : tables_1_5[i]? = some w) (g : goodWord w = true) : w ∈ gw := gwt (show w ∈ tables_1 from (List.mem_append_right _ (List.mem_append_right _ (List.mem_append_right _ (List.mem_append_right _ (List.mem_append_left _ (List.mem_of_getElem? h))))))) g
theorem gw6 {w : Cond} (i : Nat) (h : tables_1_6[i]? = some w) (g : goodWord w = true) : w ∈ gw := gwt (show w ∈ tables_1 from (List.mem_append_right _ (List.mem_append_right _ (List.mem_append_right _ (List.mem_append_right _ (List.mem_append_right _ (List.mem_append_left _ (List.mem_of_getElem? h)))))))) g
theorem gw7 {w : Cond} (i : Nat) (h : tables_1_7[i]? = some w) (g : goodWord w = true) : w ∈ gw := gwt (show w ∈ tables_1 from (List.mem_append_right _ (List.mem_append_right _ (List.mem_append_right _ (List.mem_append_right _ (List.mem_append_right _ (List.mem_append_right _ (List.mem_append_left _ (List.mem_of_getElem? h))))))))) g
theorem gw8 {w : Cond} (i : Nat) (h : tables_1_8[i]? = some w) (g : goodWord w = true) : w ∈ gw := gwt (show w ∈ tables_1 from (List.mem_append_right _ (List.mem_append_right _ (List.mem_append_right _ (List.mem_append_right _ (List.mem_append_right _ (List.mem_append_right _ (List.mem_append_right _ (List.mem_of_getElem? h))))))))) g
theorem gw_all {l : List Cond} (h : l.all (fun w => decide (w ∈ lw_tbl) && goodWord w) = true) : ∀ w ∈ l, w ∈ gw := by
  intro w hw
  have h1 := List.all_eq_true.mp h w hw
  simp only [Bool.and_eq_true, decide_eq_true_eq] at h1
  exact gwp h1.1 h1.2
theorem iwX0 : ∀ w ∈ u_ws RX0 TX0 4, w ∈ gw := gw_all (by decide +kernel)
theorem iwX1 : ∀ w ∈ u_ws RX1 TX1 6, w ∈ gw := gw_all (by decide +kernel)
theorem iwX2 : ∀ w ∈ u_ws RX2 TX2 6, w ∈ gw := gw_all (by decide +kernel)
theorem iwX3 : ∀ w ∈ u_ws RX3 TX3 7, w ∈ gw := gw_all (by decide +kernel)
theorem iwX4 : ∀ w ∈ u_ws RX4 TX4 7, w ∈ gw := gw_all (by decide +kernel)
theorem iwX5 : ∀ w ∈ u_ws RX5 TX5 3, w ∈ gw := gw_all (by decide +kernel)
theorem iwX6 : ∀ w ∈ u_ws RX6 TX6 4, w ∈ gw := gw_all (by decide +kernel)
theorem iwX7 : ∀ w ∈ u_ws RX7 TX7 2, w ∈ gw := gw_all (by decide +kernel)
theorem iwX8 : ∀ w ∈ u_ws RX8 TX8 2, w ∈ gw := gw_all (by decide +kernel)
theorem iwX9 : ∀ w ∈ u_ws RX9 TX9 2, w ∈ gw := gw_all (by decide +kernel)
theorem iwX10 : ∀ w ∈ u_ws RX10 TX10 6, w ∈ gw := gw_all (by decide +kernel)
theorem iwX11 : ∀ w ∈ u_ws RX11 TX11 18, w ∈ gw := gw_all (by decide +kernel)
theorem iwX12 : ∀ w ∈ u_ws RX12 TX12 44, w ∈ gw := gw_all (by decide +kernel)
end
section
/-! numbers: all ints by a whole number -/
def iI (z : Int) : Int32 := Int32.ofInt z
def lI (z : Int) : Int64 := Int64.ofInt z
def ir (z : Int) : Prop := -2147483648 ≤ z ∧ z < 2147483648
theorem iI_toInt {z : Int} (h : ir z) : (iI z).toInt = z := Int32.toInt_ofInt_of_le (by have := h.1; omega) (by have := h.2; omega)
theorem iI_of (x : Int32) : iI x.toInt = x := Int32.ofInt_toInt x
theorem ir_toInt (x : Int32) : ir x.toInt := ⟨by have := Int32.le_toInt x; omega, by have := Int32.toInt_lt x; omega⟩
theorem iI_add (a b : Int) : iI a + iI b = iI (a + b) := (Int32.ofInt_add a b).symm
theorem iI_sub (a b : Int) : iI a - iI b = iI (a - b) := (Int32.ofInt_sub a b).symm
theorem iI_mul (a b : Int) : iI a * iI b = iI (a * b) := (Int32.ofInt_mul a b).symm
theorem iI_neg (a : Int) : -iI a = iI (-a) := (Int32.ofInt_neg a).symm
theorem iI_clamp {z : Int} (h : ir z) : (iI z).toNatClampNeg = z.toNat := Int32.toNatClampNeg_ofInt_of_le (by have := h.1; omega) (by have := h.2; omega)
theorem iI_eq {a b : Int} (ha : ir a) (hb : ir b) : iI a = iI b ↔ a = b := by
  rw [← Int32.toInt_inj, iI_toInt ha, iI_toInt hb]
theorem iI_lt {a b : Int} (ha : ir a) (hb : ir b) : iI a < iI b ↔ a < b := by
  rw [Int32.lt_iff_toInt_lt, iI_toInt ha, iI_toInt hb]
theorem iI_le {a b : Int} (ha : ir a) (hb : ir b) : iI a ≤ iI b ↔ a ≤ b := by
  rw [Int32.le_iff_toInt_le, iI_toInt ha, iI_toInt hb]
theorem ir0 : ir 0 := ⟨by decide, by decide⟩
theorem iI_0 : (0 : Int32) = iI 0 := rfl
theorem iI_eq0 {a : Int} (ha : ir a) : iI a = 0 ↔ a = 0 := by rw [iI_0]; exact iI_eq ha ir0
theorem iI_lt0 {a : Int} (ha : ir a) : iI a < 0 ↔ a < 0 := by rw [iI_0]; exact iI_lt ha ir0
theorem iI_ge0 {a : Int} (ha : ir a) : 0 ≤ iI a ↔ 0 ≤ a := by rw [iI_0]; exact iI_le ir0 ha
theorem iI_gt0 {a : Int} (ha : ir a) : 0 < iI a ↔ 0 < a := by rw [iI_0]; exact iI_lt ir0 ha
theorem iI_le0 {a : Int} (ha : ir a) : iI a ≤ 0 ↔ a ≤ 0 := by rw [iI_0]; exact iI_le ha ir0
theorem iI_in {z : Int} {n : Nat} (h0 : 0 ≤ z) (h1 : z < n) (hn : n ≤ 2147483647) : vp_in (iI z) n := by
  have hr : ir z := ⟨by omega, by omega⟩
  rw [vp_in_iff, iI_toInt hr]
  exact ⟨h0, h1⟩
theorem iI_div {a b : Int} (ha : ir a) (hb : ir b) (h : a ≠ -2147483648 ∨ b ≠ -1) : iI a / iI b = iI (a.tdiv b) := by
  rw [← Int32.toInt_inj]
  have e : (iI a / iI b).toInt = a.tdiv b := by
    rcases h with h | h
    · rw [Int32.toInt_div_of_ne_left _ _ (fun q => h ?_), iI_toInt ha, iI_toInt hb]
      have := congrArg Int32.toInt q
      rw [iI_toInt ha] at this
      exact this
    · rw [Int32.toInt_div_of_ne_right _ _ (fun q => h ?_), iI_toInt ha, iI_toInt hb]
      have := congrArg Int32.toInt q
      rw [iI_toInt hb] at this
      exact this
  rw [e]
  have hr : ir (a.tdiv b) := by rw [← e]; exact ir_toInt _
  rw [iI_toInt hr]
theorem lI_add (a b : Int) : lI a + lI b = lI (a + b) := (Int64.ofInt_add a b).symm
theorem lI_sub (a b : Int) : lI a - lI b = lI (a - b) := (Int64.ofInt_sub a b).symm
theorem lI_mul (a b : Int) : lI a * lI b = lI (a * b) := (Int64.ofInt_mul a b).symm
def lr (z : Int) : Prop := -9223372036854775808 ≤ z ∧ z < 9223372036854775808
theorem lI_toInt {z : Int} (h : lr z) : (lI z).toInt = z := Int64.toInt_ofInt_of_le (by have := h.1; omega) (by have := h.2; omega)
theorem lI_eq {a b : Int} (ha : lr a) (hb : lr b) : lI a = lI b ↔ a = b := by
  rw [← Int64.toInt_inj, lI_toInt ha, lI_toInt hb]
theorem lI_lt {a b : Int} (ha : lr a) (hb : lr b) : lI a < lI b ↔ a < b := by
  rw [Int64.lt_iff_toInt_lt, lI_toInt ha, lI_toInt hb]
theorem lI_div {a b : Int} (ha : lr a) (hb : lr b) (h : a ≠ -9223372036854775808) : lI a / lI b = lI (a.tdiv b) := by
  rw [← Int64.toInt_inj]
  have e : (lI a / lI b).toInt = a.tdiv b := by
    rw [Int64.toInt_div_of_ne_left _ _ (fun q => h ?_), lI_toInt ha, lI_toInt hb]
    have := congrArg Int64.toInt q
    rw [lI_toInt ha] at this
    exact this
  rw [e]
  have hr : lr (a.tdiv b) := by
    rw [← e]
    exact ⟨by have := Int64.le_toInt (lI a / lI b); omega, by have := Int64.toInt_lt (lI a / lI b); omega⟩
  rw [lI_toInt hr]
theorem iI_l {z : Int} (h : ir z) : (iI z).toInt64 = lI z := by
  rw [← Int64.toInt_inj, Int32.toInt_toInt64, iI_toInt h, lI_toInt ⟨by have := h.1; omega, by have := h.2; omega⟩]
theorem lI_i (z : Int) : (lI z).toInt32 = iI z := Int64.toInt32_ofInt
theorem iI_bi {n : Int} (h0 : -128 ≤ n) (h1 : n ≤ 127) : (Int8.ofInt n).toInt32 = iI n := Int8.toInt32_ofInt h0 h1
theorem iI_si {n : Int} (h0 : -32768 ≤ n) (h1 : n ≤ 32767) : (Int16.ofInt n).toInt32 = iI n := Int16.toInt32_ofInt h0 h1
/-! the state of the system: cells by numbers of their own, at addresses that are a placement's; what each holds, by whole numbers -/
abbrev Mm : Type := Nat → Nat → Int
abbrev Pl : Type := va_G × (Nat → Nat) × (Nat → ClassId)
abbrev Sh : Type := (Nat × Nat × Nat × Nat) ⊕ (Nat × List (Nat × Nat))
def cz (P : Pl) : Value → Value
  | .ref k => .ref (P.2.1 k)
  | v => v
def shL : List Sh := [.inl (0, 0, 0, 0), .inl (2, 6, 3, 2),
  .inl (2, 4, 15, 2),
  .inr (8, [(2, 4), (0, 0)]),
  .inl (0, 60, 0, 0),
  .inr (8, [(2, 6), (0, 0)]),
  .inl (0, 60, 0, 0),
  .inr (8, [(2, 8), (0, 0)]),
  .inl (0, 60, 0, 0),
  .inr (8, [(2, 10), (0, 0)]),
  .inl (0, 60, 0, 0),
  .inr (8, [(2, 12), (0, 0)]),
  .inl (0, 60, 0, 0),
  .inr (8, [(2, 14), (0, 0)]),
  .inl (0, 60, 0, 0),
  .inr (8, [(2, 16), (0, 0)]),
  .inl (0, 120, 0, 0),
  .inr (8, [(2, 18), (0, 0)]),
  .inl (0, 120, 0, 0),
  .inr (8, [(2, 20), (0, 0)]),
  .inl (0, 120, 0, 0),
  .inr (8, [(2, 22), (0, 0)]),
  .inl (0, 120, 0, 0),
  .inr (2, [(2, 24), (2, 25), (2, 26), (0, 0), (0, 0), (0, 0)]),
  .inl (0, 8, 0, 0),
  .inl (3, 8, 27, 1),
  .inr (4, [(0, 0), (0, 0), (0, 0), (0, 0), (0, 0), (0, 0), (0, 0)]),
  .inr (4, [(0, 0), (0, 0), (0, 0), (0, 0), (0, 0), (0, 0), (0, 0)]),
  .inr (4, [(0, 0), (0, 0), (0, 0), (0, 0), (0, 0), (0, 0), (0, 0)]),
  .inr (4, [(0, 0), (0, 0), (0, 0), (0, 0), (0, 0), (0, 0), (0, 0)]),
  .inr (4, [(0, 0), (0, 0), (0, 0), (0, 0), (0, 0), (0, 0), (0, 0)]),
  .inr (4, [(0, 0), (0, 0), (0, 0), (0, 0), (0, 0), (0, 0), (0, 0)]),
  .inr (4, [(0, 0), (0, 0), (0, 0), (0, 0), (0, 0), (0, 0), (0, 0)]),
  .inr (4, [(0, 0), (0, 0), (0, 0), (0, 0), (0, 0), (0, 0), (0, 0)]),
  .inr (4, [(0, 0), (0, 0), (0, 0), (0, 0), (0, 0), (0, 0), (0, 0)]),
  .inr (2, [(2, 36), (2, 37), (2, 38), (0, 0), (0, 0), (0, 0)]),
  .inl (0, 8, 0, 0),
  .inl (3, 8, 39, 1),
  .inr (4, [(0, 0), (0, 0), (0, 0), (0, 0), (0, 0), (0, 0), (0, 0)]),
  .inr (4, [(0, 0), (0, 0), (0, 0), (0, 0), (0, 0), (0, 0), (0, 0)]),
  .inr (4, [(0, 0), (0, 0), (0, 0), (0, 0), (0, 0), (0, 0), (0, 0)]),
  .inr (4, [(0, 0), (0, 0), (0, 0), (0, 0), (0, 0), (0, 0), (0, 0)]),
  .inr (4, [(0, 0), (0, 0), (0, 0), (0, 0), (0, 0), (0, 0), (0, 0)]),
  .inr (4, [(0, 0), (0, 0), (0, 0), (0, 0), (0, 0), (0, 0), (0, 0)]),
  .inr (4, [(0, 0), (0, 0), (0, 0), (0, 0), (0, 0), (0, 0), (0, 0)]),
  .inr (4, [(0, 0), (0, 0), (0, 0), (0, 0), (0, 0), (0, 0), (0, 0)]),
  .inr (4, [(0, 0), (0, 0), (0, 0), (0, 0), (0, 0), (0, 0), (0, 0)]),
  .inr (7, [(0, 0), (0, 0)]),
  .inr (1, [(2, 49), (2, 50), (2, 51), (2, 52), (2, 53), (0, 0)]),
  .inl (0, 8, 0, 0),
  .inl (0, 8, 0, 0),
  .inl (0, 8, 0, 0),
  .inl (0, 8, 0, 0),
  .inl (0, 8, 0, 0),
  .inr (10, [(2, 48), (2, 55), (2, 56), (0, 0), (0, 0), (0, 0)]),
  .inl (0, 8, 0, 0),
  .inl (0, 8, 0, 0),
  .inr (6, [(2, 48), (2, 58), (2, 59), (2, 60)]),
  .inl (0, 2304, 0, 0),
  .inl (0, 256, 0, 0),
  .inl (0, 256, 0, 0),
  .inr (0, [(2, 23), (2, 54), (2, 62), (0, 0)]),
  .inl (0, 4, 0, 0),
  .inr (3, [(2, 64), (2, 65), (2, 66), (2, 67), (2, 68), (2, 69), (0, 0)]),
  .inl (0, 8, 0, 0),
  .inl (0, 64, 0, 0),
  .inl (0, 16, 0, 0),
  .inl (0, 16, 0, 0),
  .inl (0, 16, 0, 0),
  .inl (0, 16, 0, 0),
  .inr (5, [(2, 71), (2, 72), (0, 0)]),
  .inl (0, 12, 0, 0),
  .inl (0, 12, 0, 0),
  .inr (5, [(2, 74), (2, 75), (0, 0)]),
  .inl (0, 12, 0, 0),
  .inl (0, 12, 0, 0),
  .inl (0, 6, 0, 0),
  .inr (12, [(0, 0), (2, 78), (0, 0), (1, 0), (1, 0), (2, 79), (2, 80), (2, 81), (2, 82), (2, 83), (0, 0), (2, 84), (0, 0), (2, 85), (2, 86), (0, 0), (0, 0), (0, 0), (0, 0), (0, 0), (2, 87), (2, 88), (2, 89), (0, 0), (2, 90), (0, 0), (2, 91), (2, 92), (2, 93), (0, 0), (2, 94), (2, 95), (2, 96), (2, 97), (2, 98), (0, 0), (2, 99), (0, 0), (2, 100), (2, 101), (0, 0), (2, 102), (2, 103), (1, 0)]),
  .inl (0, 6, 0, 0),
  .inl (0, 6, 0, 0),
  .inl (0, 360, 0, 0),
  .inl (0, 60, 0, 0),
  .inl (0, 4, 0, 0),
  .inl (1, 480, 0, 0),
  .inl (0, 8, 0, 0),
  .inl (0, 48, 0, 0),
  .inl (0, 8, 0, 0),
  .inl (0, 8, 0, 0),
  .inl (0, 48, 0, 0),
  .inl (0, 8, 0, 0),
  .inl (0, 8, 0, 0),
  .inl (0, 2048, 0, 0),
  .inl (0, 256, 0, 0),
  .inl (0, 4, 0, 0),
  .inl (0, 256, 0, 0),
  .inl (0, 6, 0, 0),
  .inl (0, 20736, 0, 0),
  .inl (0, 8, 0, 0),
  .inl (0, 64, 0, 0),
  .inl (0, 64, 0, 0),
  .inl (0, 12, 0, 0),
  .inl (0, 12, 0, 0),
  .inl (0, 12, 0, 0),
  .inl (0, 12, 0, 0),
  .inr (9, [(2, 48), (2, 105)]),
  .inl (0, 59392, 0, 0)]
def obj0 (n : Nat) : List (Nat × Nat) := [(2, 1), (2, 2), (2, 23), (2, 35), (2, 47), (2, 48), (2, 54), (2, 57), (2, 61), (2, 63), (2, 70), (2, 73), (2, 76), (if n = 104 then (3, 0) else (2, 104)), (0, 0), (0, 0), (1, 0), (1, 0)]
def shp (n k : Nat) : Sh := if k = 0 then .inr (11, obj0 n) else shL.getD k (.inl (0, 0, 0, 0))
def aval (M : Mm) (k j : Nat) (c : Nat × Nat) : Value := match c.1 with
  | 0 => .int (iI (M k j))
  | 1 => .long (lI (M k j))
  | 2 => .ref c.2
  | _ => .null
def fvs (P : Pl) (M : Mm) (k : Nat) : Nat → List (Nat × Nat) → List Value
  | _, [] => []
  | j, c :: cs => cz P (aval M k j c) :: fvs P M k (j + 1) cs
theorem fvs_get (P : Pl) (M : Mm) (k : Nat) : ∀ (fs : List (Nat × Nat)) (j i : Nat), (fvs P M k j fs)[i]? = (fs[i]?).map fun c => cz P (aval M k (j + i) c)
  | [], j, i => by simp [fvs]
  | c :: cs, j, 0 => by simp [fvs]
  | c :: cs, j, i + 1 => by
    rw [fvs, List.getElem?_cons_succ, List.getElem?_cons_succ, fvs_get P M k cs (j + 1) i, show j + 1 + i = j + (i + 1) by omega]
theorem fvs_len (P : Pl) (M : Mm) (k : Nat) : ∀ (fs : List (Nat × Nat)) (j : Nat), (fvs P M k j fs).length = fs.length
  | [], _ => rfl
  | _ :: cs, j => by rw [fvs, List.length_cons, List.length_cons, fvs_len P M k cs]
def wcS (P : Pl) (M : Mm) (k : Nat) : Sh → va_E
  | .inl (ct, len, b, sd) => .inl (P.2.2 ct, len, if ct ≤ 1 then .inl (fun j => iI (M k j)) else .inr (.inr (.inr (.inr (fun j => some (P.2.1 (b + sd * j)))))))
  | .inr (ci, fs) => .inr (ci, fvs P M k 0 fs)
def wc (P : Pl) (n : Nat) (M : Mm) (k : Nat) : va_E := wcS P M k (shp n k)
def wld (P : Pl) (n : Nat) (M : Mm) : va_W := (List.range n).map fun k => (P.2.1 k, wc P n M k)
theorem wld_get {P : Pl} {n : Nat} {M : Mm} {k : Nat} (h : k < n) : (wld P n M)[k]? = some (P.2.1 k, wc P n M k) := by simp [wld, h]
theorem wld_of {P : Pl} {n : Nat} {M : Mm} {k : Nat} {q : Nat × va_E} (h : (wld P n M)[k]? = some q) : k < n ∧ q = (P.2.1 k, wc P n M k) := by
  have hl : k < (wld P n M).length := (List.getElem?_eq_some_iff.mp h).1
  have hk : k < n := by simpa [wld] using hl
  rw [wld_get hk] at h
  exact ⟨hk, (Option.some.inj h).symm⟩
theorem wld_set {P : Pl} {n : Nat} {M M2 : Mm} {k : Nat} {e : va_E} (hk : k < n) (h1 : wc P n M2 k = e) (h2 : ∀ j, j ≠ k → wc P n M2 j = wc P n M j) : (wld P n M).set k (P.2.1 k, e) = wld P n M2 := by
  apply List.ext_getElem?
  intro i
  by_cases hi : i < n
  · rw [wld_get hi]
    by_cases h : i = k
    · subst h
      rw [List.getElem?_set_self (by simpa [wld] using hi), h1]
    · rw [List.getElem?_set_ne (Ne.symm h), wld_get hi, h2 i h]
  · have a1 : ((wld P n M).set k (P.2.1 k, e)).length ≤ i := by simp [wld]; omega
    have a2 : (wld P n M2).length ≤ i := by simp [wld]; omega
    rw [List.getElem?_eq_none a1, List.getElem?_eq_none a2]
def stM (M : Mm) (k i : Nat) (v : Int) : Mm := fun a b => if a = k ∧ b = i then v else M a b
theorem fvs_off {P : Pl} {M M2 : Mm} {k : Nat} (h : M2 k = M k) : ∀ (fs : List (Nat × Nat)) (j : Nat), fvs P M2 k j fs = fvs P M k j fs
  | [], _ => rfl
  | c :: cs, j => by
    rw [fvs, fvs, fvs_off h cs (j + 1)]
    simp only [aval, h]
theorem wc_off {P : Pl} {n : Nat} {M M2 : Mm} {k : Nat} (h : M2 k = M k) : wc P n M2 k = wc P n M k := by
  unfold wc
  cases shp n k with
  | inl q =>
    obtain ⟨ct, len, b, sd⟩ := q
    simp only [wcS, h]
  | inr q =>
    obtain ⟨ci, fs⟩ := q
    simp only [wcS, fvs_off h]
theorem stM_off {M : Mm} {k i j : Nat} {v : Int} (h : j ≠ k) : stM M k i v j = M j := by
  funext b
  simp [stM, h]
theorem stM_at (M : Mm) (k i : Nat) (v : Int) : stM M k i v k i = v := by simp [stM]
theorem stM_ne (M : Mm) {k i a b : Nat} (v : Int) (h : a ≠ k ∨ b ≠ i) : stM M k i v a b = M a b := by
  unfold stM
  rw [if_neg (by rintro ⟨h1, h2⟩; rcases h with h | h <;> contradiction)]
theorem fvs_set {P : Pl} {M : Mm} {k i : Nat} {v : Int} {c : Nat × Nat} {V : Value} (hV : cz P (aval (stM M k i v) k i c) = V) : ∀ (fs : List (Nat × Nat)) (j q : Nat), fs[q]? = some c → j + q = i → fvs P (stM M k i v) k j fs = (fvs P M k j fs).set q V
  | [], j, q, h, _ => by simp at h
  | c0 :: cs, j, 0, h, e => by
    have e2 : j = i := by omega
    rw [List.getElem?_cons_zero] at h
    cases h
    subst e2
    rw [fvs, fvs, List.set_cons_zero, hV]
    congr 1
    have key : ∀ (l : List (Nat × Nat)) (a : Nat), j < a → fvs P (stM M k j v) k a l = fvs P M k a l := by
      intro l
      induction l with
      | nil => intro a _; rfl
      | cons d ds ih =>
        intro a ha
        rw [fvs, fvs, ih (a + 1) (by omega)]
        simp only [aval, stM_ne M v (show k ≠ k ∨ a ≠ j from Or.inr (by omega))]
    exact key cs (j + 1) (by omega)
  | c0 :: cs, j, q + 1, h, e => by
    rw [List.getElem?_cons_succ] at h
    rw [fvs, fvs, List.set_cons_succ, fvs_set hV cs (j + 1) q h (by omega)]
    simp only [aval, stM_ne M v (show k ≠ k ∨ j ≠ i from Or.inr (by omega))]
/-- the addresses are apart -/
def iP (P : Pl) (n : Nat) : Prop := ∀ i j : Nat, i < n → j < n → P.2.1 i = P.2.1 j → i = j
/-- what a method may change: the cells, and what comes new -/
def aA (P : Pl) (n sz : Nat) : Nat → Prop := fun q => (∃ k : Nat, k < n ∧ q = P.2.1 k) ∨ sz ≤ q
theorem wld_D {P : Pl} {n : Nat} {A : Nat → Prop} (hi : iP P n) (hA : ∀ k, k < n → A (P.2.1 k)) (M : Mm) : va_D A (wld P n M) := by
  refine ⟨fun i j x y hx hy hxy => ?_, fun k q hk => ?_⟩
  · obtain ⟨h1, rfl⟩ := wld_of hx
    obtain ⟨h2, rfl⟩ := wld_of hy
    exact hi i j h1 h2 hxy
  · obtain ⟨h1, rfl⟩ := wld_of hk
    exact hA k h1
def tysP (P : Pl) : List (ClassId × FieldType) := [(P.2.2 0, .int), (P.2.2 1, .byte), (P.2.2 2, .object "CoatBetween$Row"), (P.2.2 3, .object "CoatBetween$Need")]
def NLt (j : Nat) : Int := ([110, 109, 108, 119, 102, 116] : List Int).getD j 0
def RLt (j : Nat) : Int := ([118, 98, 110, 99, 109] : List Int).getD j 0
/-- the two static arrays -/
def Sg (P : Pl) (A : Nat → Prop) (U : State) : Prop := (va_Z "CoatBetween" "NEED_LETTERS" "[C" (.ref (P.2.1 106)) A U U.heap ∧ va_T .char (P.2.1 106) 6 (fun j => .int (iI (NLt j))) A U U.heap) ∧ (va_Z "CoatBetween" "RULE_LETTERS" "[C" (.ref (P.2.1 107)) A U U.heap ∧ va_T .char (P.2.1 107) 5 (fun j => .int (iI (RLt j))) A U U.heap)
theorem Sg_to {P : Pl} {A B : Nat → Prop} {u U : State} (hvm : u.vm.Alike U.vm) (hq : ∀ a : Nat, a < u.heap.size → ¬ A a → U.heap[a]? = u.heap[a]?) (hAB : ∀ q, B q → A q) (h : Sg P A u) : Sg P B U :=
  ⟨⟨((h.1.1.moved hvm).kept hq).narrow hAB, ((h.1.2.moved hvm).kept hq).narrow hAB⟩, ⟨((h.2.1.moved hvm).kept hq).narrow hAB, ((h.2.2.moved hvm).kept hq).narrow hAB⟩⟩
/-! the judgement: at pc, with these locals and this stack, in this state of the system, the method comes to what Q says -/
abbrev Cq : Type := Program × Launch × Env × Room × State × MethodId × Array Value × List Frame × Method × Code × Nat × Pl × Nat × (Nat → Prop) × Nat × Nat × (State → Prop)
def G : Cq → Nat → List (Nat × Value) → List Value → Mm → Prop
  | (p, l, e, R, s, m, args, below, meth, c, nL, P, n, A, cells, slots, Q), pc, lv, st, M => ∀ (H : Heap) (locs : List Loc) (ls : Array Slot), lv_has ls nL (lv.map fun q => (q.1, cz P q.2)) → va_P P.1 vwCl (wld P n M) H → va_S A s.heap H locs → W p l e R s m args below meth c H locs cells slots Q (F0 m pc ls (st.map (cz P)))
/-- what stays in a method: its code, its class, the tables, its room, its number of locals and of cells -/
def Cx : Cq → ByteArray → String → Room → Nat → Nat → Prop
  | (p, l, e, R, s, m, args, below, meth, c, nL, P, n, A, cells, slots, Q), cc, own, R0, nL0, n0 => (p.tables.exec = Jvm.exec ∧ c.code = cc ∧ c.maxLocals = nL ∧ s.vm.findClass own = some m.cls ∧ (∀ w ∈ gw, w.before args s = true)) ∧ va_K P.1 vwCl (tysP P) s ∧ (∀ q, s.heap.size ≤ q → A q) ∧ (∀ k, k < n → A (P.2.1 k)) ∧ iP P n ∧ Sg P A s ∧ meth.locks = false ∧ R = R0 ∧ nL = nL0 ∧ n = n0 ∧ 104 ≤ n ∧ n ≤ 106
theorem lk_of {P : Pl} {ls : Array Slot} {nL : Nat} {lv : List (Nat × Value)} (h : lv_has ls nL (lv.map fun q => (q.1, cz P q.2))) (k : Nat) {i : Nat} {v : Value} (hk : lv[k]? = some (i, v)) : ls[i]? = some (.val (cz P v)) :=
  lv_at h k (by rw [List.getElem?_map, hk]; rfl)
theorem lset_mem {nL : Nat} {ls : Array Slot} {l l2 : List (Nat × Value)} (h : lv_has ls nL l) (hs : ∀ q ∈ l2, q ∈ l) : lv_has ls nL l2 := ⟨h.1, h.2.1, fun q hq => h.2.2 q (hs q hq)⟩
/-- a value of one slot comes to local i; the list stays in the order of the places -/
def lset1 (lv : List (Nat × Value)) (i : Nat) (v : Value) : List (Nat × Value) := lv.filter (fun q => Nat.ble (q.1 + 1) i && !(Nat.beq (q.1 + 1) i && Nat.beq q.2.category 2)) ++ (i, v) :: lv.filter (fun q => Nat.ble (i + 1) q.1)
def lset2 (lv : List (Nat × Value)) (i : Nat) (v : Value) : List (Nat × Value) := lv.filter (fun q => Nat.ble (q.1 + 1) i && !(Nat.beq (q.1 + 1) i && Nat.beq q.2.category 2)) ++ (i, v) :: lv.filter (fun q => Nat.ble (i + 2) q.1)
theorem cz_cat (P : Pl) (v : Value) : (cz P v).category = v.category := by cases v <;> rfl
theorem lset1_in {P : Pl} {lv : List (Nat × Value)} {i : Nat} {v : Value} : ∀ q ∈ (lset1 lv i v).map (fun q => (q.1, cz P q.2)), q ∈ (i, cz P v) :: (lv.map fun q => (q.1, cz P q.2)).filter (fun q => !(q.1 == i) && !(q.1 + 1 == i && q.2.category == 2)) := by
  intro q hq
  obtain ⟨r, hr, rfl⟩ := List.mem_map.mp hq
  unfold lset1 at hr
  rcases List.mem_append.mp hr with hr | hr
  · obtain ⟨h1, h2⟩ := List.mem_filter.mp hr
    refine List.mem_cons_of_mem _ (List.mem_filter.mpr ⟨List.mem_map.mpr ⟨r, h1, rfl⟩, ?_⟩)
    simp only [Bool.and_eq_true, Nat.ble_eq] at h2
    have hne : ¬ r.1 = i := by omega
    simp only [cz_cat, Bool.and_eq_true, Bool.not_eq_true', beq_eq_false_iff_ne, ne_eq]
    refine ⟨hne, ?_⟩
    have h3 := h2.2
    simp only [Bool.not_eq_true', Bool.and_eq_false_iff] at h3
    rcases h3 with h3 | h3
    · simp only [Bool.and_eq_false_iff]
      refine Or.inl ?_
      rw [beq_eq_false_iff_ne]
      intro e
      rw [e] at h3
      simp at h3
    · simp only [Bool.and_eq_false_iff]
      refine Or.inr ?_
      rw [beq_eq_false_iff_ne]
      intro e
      rw [e] at h3
      simp at h3
  · rcases List.mem_cons.mp hr with rfl | hr
    · exact List.mem_cons_self
    · obtain ⟨h1, h2⟩ := List.mem_filter.mp hr
      refine List.mem_cons_of_mem _ (List.mem_filter.mpr ⟨List.mem_map.mpr ⟨r, h1, rfl⟩, ?_⟩)
      rw [Nat.ble_eq] at h2
      have hne : ¬ r.1 = i := by omega
      have hne2 : ¬ r.1 + 1 = i := by omega
      simp [hne, hne2]
theorem g_iconst {X : Cq} {cc : ByteArray} {own : String} {R0 : Room} {nL n : Nat} (cx : Cx X cc own R0 nL n) {pc pc2 : Nat} {lv : List (Nat × Value)} {st : List Value} {M : Mm} {q : Int} (hd : decode cc pc = .ok (.iconst q, 1)) (hp : pc + 1 = pc2) (k : G X pc2 lv (.int (iI q) :: st) M) : G X pc lv st M := by
  obtain ⟨p, l, e, R, s, m, args, below, meth, c, nL2, P, n2, A, cells, slots, Q⟩ := X
  obtain ⟨⟨hx, hb, hml, hown, hts⟩, hK, hA, hAw, hiP, hSg, hlk, hR, hnL, hn, hn1, hn2⟩ := cx
  subst hp
  intro H locs ls hl hP hS
  exact lv_iconst hx hb hd rfl (k H locs ls hl hP hS)
theorem g_bipush {X : Cq} {cc : ByteArray} {own : String} {R0 : Room} {nL n : Nat} (cx : Cx X cc own R0 nL n) {pc pc2 : Nat} {lv : List (Nat × Value)} {st : List Value} {M : Mm} {q : Int} (h0 : -128 ≤ q ∧ q ≤ 127) (hd : decode cc pc = .ok (.bipush q, 2)) (hp : pc + 2 = pc2) (k : G X pc2 lv (.int (iI q) :: st) M) : G X pc lv st M := by
  obtain ⟨p, l, e, R, s, m, args, below, meth, c, nL2, P, n2, A, cells, slots, Q⟩ := X
  obtain ⟨⟨hx, hb, hml, hown, hts⟩, hK, hA, hAw, hiP, hSg, hlk, hR, hnL, hn, hn1, hn2⟩ := cx
  subst hp
  intro H locs ls hl hP hS
  exact lv_bipush hx hb hd (iI_bi h0.1 h0.2) (k H locs ls hl hP hS)
theorem g_sipush {X : Cq} {cc : ByteArray} {own : String} {R0 : Room} {nL n : Nat} (cx : Cx X cc own R0 nL n) {pc pc2 : Nat} {lv : List (Nat × Value)} {st : List Value} {M : Mm} {q : Int} (h0 : -32768 ≤ q ∧ q ≤ 32767) (hd : decode cc pc = .ok (.sipush q, 3)) (hp : pc + 3 = pc2) (k : G X pc2 lv (.int (iI q) :: st) M) : G X pc lv st M := by
  obtain ⟨p, l, e, R, s, m, args, below, meth, c, nL2, P, n2, A, cells, slots, Q⟩ := X
  obtain ⟨⟨hx, hb, hml, hown, hts⟩, hK, hA, hAw, hiP, hSg, hlk, hR, hnL, hn, hn1, hn2⟩ := cx
  subst hp
  intro H locs ls hl hP hS
  exact lv_sipush hx hb hd (iI_si h0.1 h0.2) (k H locs ls hl hP hS)
theorem g_lconst {X : Cq} {cc : ByteArray} {own : String} {R0 : Room} {nL n : Nat} (cx : Cx X cc own R0 nL n) {pc pc2 : Nat} {lv : List (Nat × Value)} {st : List Value} {M : Mm} {q : Fin 2} (z : Int) (hz : Int64.ofNat (q : Nat) = lI z) (hd : decode cc pc = .ok (.lconst q, 1)) (hp : pc + 1 = pc2) (k : G X pc2 lv (.long (lI z) :: st) M) : G X pc lv st M := by
  obtain ⟨p, l, e, R, s, m, args, below, meth, c, nL2, P, n2, A, cells, slots, Q⟩ := X
  obtain ⟨⟨hx, hb, hml, hown, hts⟩, hK, hA, hAw, hiP, hSg, hlk, hR, hnL, hn, hn1, hn2⟩ := cx
  subst hp
  intro H locs ls hl hP hS
  exact lv_lconst hx hb hd hz (k H locs ls hl hP hS)
theorem g_ldc {X : Cq} {cc : ByteArray} {own : String} {R0 : Room} {nL n : Nat} (cx : Cx X cc own R0 nL n) {pc pc2 : Nat} {lv : List (Nat × Value)} {st : List Value} {M : Mm} {i : Nat} {z : Int} (hw : Cond.constant own i (iI z) ∈ gw) (hd : decode cc pc = .ok (.ldc i, 2)) (hp : pc + 2 = pc2) (k : G X pc2 lv (.int (iI z) :: st) M) : G X pc lv st M := by
  obtain ⟨p, l, e, R, s, m, args, below, meth, c, nL2, P, n2, A, cells, slots, Q⟩ := X
  obtain ⟨⟨hx, hb, hml, hown, hts⟩, hK, hA, hAw, hiP, hSg, hlk, hR, hnL, hn, hn1, hn2⟩ := cx
  subst hp
  intro H locs ls hl hP hS
  exact lv_ldc hx hb hown (hts _ hw) hd (k H locs ls hl hP hS)
theorem g_ldcw {X : Cq} {cc : ByteArray} {own : String} {R0 : Room} {nL n : Nat} (cx : Cx X cc own R0 nL n) {pc pc2 : Nat} {lv : List (Nat × Value)} {st : List Value} {M : Mm} {i : Nat} {z : Int} (hw : Cond.constant own i (iI z) ∈ gw) (hd : decode cc pc = .ok (.ldc_w i, 3)) (hp : pc + 3 = pc2) (k : G X pc2 lv (.int (iI z) :: st) M) : G X pc lv st M := by
  obtain ⟨p, l, e, R, s, m, args, below, meth, c, nL2, P, n2, A, cells, slots, Q⟩ := X
  obtain ⟨⟨hx, hb, hml, hown, hts⟩, hK, hA, hAw, hiP, hSg, hlk, hR, hnL, hn, hn1, hn2⟩ := cx
  subst hp
  intro H locs ls hl hP hS
  exact lv_ldcw hx hb hown (hts _ hw) hd (k H locs ls hl hP hS)
theorem g_ldc2 {X : Cq} {cc : ByteArray} {own : String} {R0 : Room} {nL n : Nat} (cx : Cx X cc own R0 nL n) {pc pc2 : Nat} {lv : List (Nat × Value)} {st : List Value} {M : Mm} {i : Nat} {z : Int} (hw : Cond.constantLong own i (lI z) ∈ gw) (hd : decode cc pc = .ok (.ldc2_w i, 3)) (hp : pc + 3 = pc2) (k : G X pc2 lv (.long (lI z) :: st) M) : G X pc lv st M := by
  obtain ⟨p, l, e, R, s, m, args, below, meth, c, nL2, P, n2, A, cells, slots, Q⟩ := X
  obtain ⟨⟨hx, hb, hml, hown, hts⟩, hK, hA, hAw, hiP, hSg, hlk, hR, hnL, hn, hn1, hn2⟩ := cx
  subst hp
  intro H locs ls hl hP hS
  exact lv_ldc2 hx hb hown (hts _ hw) hd (k H locs ls hl hP hS)
theorem g_iload_n {X : Cq} {cc : ByteArray} {own : String} {R0 : Room} {nL n : Nat} (cx : Cx X cc own R0 nL n) {pc pc2 : Nat} {lv : List (Nat × Value)} {st : List Value} {M : Mm} {q : Fin 4} {x : Int32} (j : Nat) (hj : lv[j]? = some ((q : Nat), .int x)) (hd : decode cc pc = .ok (.iload_n q, 1)) (hp : pc + 1 = pc2) (k : G X pc2 lv (.int x :: st) M) : G X pc lv st M := by
  obtain ⟨p, l, e, R, s, m, args, below, meth, c, nL2, P, n2, A, cells, slots, Q⟩ := X
  obtain ⟨⟨hx, hb, hml, hown, hts⟩, hK, hA, hAw, hiP, hSg, hlk, hR, hnL, hn, hn1, hn2⟩ := cx
  subst hp
  intro H locs ls hl hP hS
  exact lv_iload_n hx hb hd rfl (lk_of hl j hj) (k H locs ls hl hP hS)
theorem g_iload {X : Cq} {cc : ByteArray} {own : String} {R0 : Room} {nL n : Nat} (cx : Cx X cc own R0 nL n) {pc pc2 : Nat} {lv : List (Nat × Value)} {st : List Value} {M : Mm} {i : Nat} {x : Int32} (j : Nat) (hj : lv[j]? = some (i, .int x)) (hd : decode cc pc = .ok (.iload i, 2)) (hp : pc + 2 = pc2) (k : G X pc2 lv (.int x :: st) M) : G X pc lv st M := by
  obtain ⟨p, l, e, R, s, m, args, below, meth, c, nL2, P, n2, A, cells, slots, Q⟩ := X
  obtain ⟨⟨hx, hb, hml, hown, hts⟩, hK, hA, hAw, hiP, hSg, hlk, hR, hnL, hn, hn1, hn2⟩ := cx
  subst hp
  intro H locs ls hl hP hS
  exact lv_iload hx hb hd (lk_of hl j hj) (k H locs ls hl hP hS)
theorem g_lload_n {X : Cq} {cc : ByteArray} {own : String} {R0 : Room} {nL n : Nat} (cx : Cx X cc own R0 nL n) {pc pc2 : Nat} {lv : List (Nat × Value)} {st : List Value} {M : Mm} {q : Fin 4} {x : Int64} (j : Nat) (hj : lv[j]? = some ((q : Nat), .long x)) (hd : decode cc pc = .ok (.lload_n q, 1)) (hp : pc + 1 = pc2) (k : G X pc2 lv (.long x :: st) M) : G X pc lv st M := by
  obtain ⟨p, l, e, R, s, m, args, below, meth, c, nL2, P, n2, A, cells, slots, Q⟩ := X
  obtain ⟨⟨hx, hb, hml, hown, hts⟩, hK, hA, hAw, hiP, hSg, hlk, hR, hnL, hn, hn1, hn2⟩ := cx
  subst hp
  intro H locs ls hl hP hS
  exact lv_lload_n hx hb hd rfl (lk_of hl j hj) (k H locs ls hl hP hS)
theorem g_lload {X : Cq} {cc : ByteArray} {own : String} {R0 : Room} {nL n : Nat} (cx : Cx X cc own R0 nL n) {pc pc2 : Nat} {lv : List (Nat × Value)} {st : List Value} {M : Mm} {i : Nat} {x : Int64} (j : Nat) (hj : lv[j]? = some (i, .long x)) (hd : decode cc pc = .ok (.lload i, 2)) (hp : pc + 2 = pc2) (k : G X pc2 lv (.long x :: st) M) : G X pc lv st M := by
  obtain ⟨p, l, e, R, s, m, args, below, meth, c, nL2, P, n2, A, cells, slots, Q⟩ := X
  obtain ⟨⟨hx, hb, hml, hown, hts⟩, hK, hA, hAw, hiP, hSg, hlk, hR, hnL, hn, hn1, hn2⟩ := cx
  subst hp
  intro H locs ls hl hP hS
  exact lv_lload hx hb hd (lk_of hl j hj) (k H locs ls hl hP hS)
theorem g_aload_n {X : Cq} {cc : ByteArray} {own : String} {R0 : Room} {nL n : Nat} (cx : Cx X cc own R0 nL n) {pc pc2 : Nat} {lv : List (Nat × Value)} {st : List Value} {M : Mm} {q : Fin 4} {x : Nat} (j : Nat) (hj : lv[j]? = some ((q : Nat), .ref x)) (hd : decode cc pc = .ok (.aload_n q, 1)) (hp : pc + 1 = pc2) (k : G X pc2 lv (.ref x :: st) M) : G X pc lv st M := by
  obtain ⟨p, l, e, R, s, m, args, below, meth, c, nL2, P, n2, A, cells, slots, Q⟩ := X
  obtain ⟨⟨hx, hb, hml, hown, hts⟩, hK, hA, hAw, hiP, hSg, hlk, hR, hnL, hn, hn1, hn2⟩ := cx
  subst hp
  intro H locs ls hl hP hS
  exact lv_aload_n hx hb hd rfl (lk_of hl j hj) (k H locs ls hl hP hS)
theorem g_aload {X : Cq} {cc : ByteArray} {own : String} {R0 : Room} {nL n : Nat} (cx : Cx X cc own R0 nL n) {pc pc2 : Nat} {lv : List (Nat × Value)} {st : List Value} {M : Mm} {i : Nat} {x : Nat} (j : Nat) (hj : lv[j]? = some (i, .ref x)) (hd : decode cc pc = .ok (.aload i, 2)) (hp : pc + 2 = pc2) (k : G X pc2 lv (.ref x :: st) M) : G X pc lv st M := by
  obtain ⟨p, l, e, R, s, m, args, below, meth, c, nL2, P, n2, A, cells, slots, Q⟩ := X
  obtain ⟨⟨hx, hb, hml, hown, hts⟩, hK, hA, hAw, hiP, hSg, hlk, hR, hnL, hn, hn1, hn2⟩ := cx
  subst hp
  intro H locs ls hl hP hS
  exact lv_aload hx hb hd (lk_of hl j hj) (k H locs ls hl hP hS)
theorem g_aload_nN {X : Cq} {cc : ByteArray} {own : String} {R0 : Room} {nL n : Nat} (cx : Cx X cc own R0 nL n) {pc pc2 : Nat} {lv : List (Nat × Value)} {st : List Value} {M : Mm} {q : Fin 4} (j : Nat) (hj : lv[j]? = some ((q : Nat), .null)) (hd : decode cc pc = .ok (.aload_n q, 1)) (hp : pc + 1 = pc2) (k : G X pc2 lv (.null :: st) M) : G X pc lv st M := by
  obtain ⟨p, l, e, R, s, m, args, below, meth, c, nL2, P, n2, A, cells, slots, Q⟩ := X
  obtain ⟨⟨hx, hb, hml, hown, hts⟩, hK, hA, hAw, hiP, hSg, hlk, hR, hnL, hn, hn1, hn2⟩ := cx
  subst hp
  intro H locs ls hl hP hS
  exact lv_aload_nN hx hb hd rfl (lk_of hl j hj) (k H locs ls hl hP hS)
theorem g_aloadN {X : Cq} {cc : ByteArray} {own : String} {R0 : Room} {nL n : Nat} (cx : Cx X cc own R0 nL n) {pc pc2 : Nat} {lv : List (Nat × Value)} {st : List Value} {M : Mm} {i : Nat} (j : Nat) (hj : lv[j]? = some (i, .null)) (hd : decode cc pc = .ok (.aload i, 2)) (hp : pc + 2 = pc2) (k : G X pc2 lv (.null :: st) M) : G X pc lv st M := by
  obtain ⟨p, l, e, R, s, m, args, below, meth, c, nL2, P, n2, A, cells, slots, Q⟩ := X
  obtain ⟨⟨hx, hb, hml, hown, hts⟩, hK, hA, hAw, hiP, hSg, hlk, hR, hnL, hn, hn1, hn2⟩ := cx
  subst hp
  intro H locs ls hl hP hS
  exact lv_aloadN hx hb hd (lk_of hl j hj) (k H locs ls hl hP hS)
theorem g_istore_n {X : Cq} {cc : ByteArray} {own : String} {R0 : Room} {nL n : Nat} (cx : Cx X cc own R0 nL n) {pc pc2 : Nat} {lv : List (Nat × Value)} {st : List Value} {M : Mm} {q : Fin 4} {x : Int32} {lv2 : List (Nat × Value)} (hl2 : lset1 lv (q : Nat) (.int x) = lv2) (hi : (q : Nat) < nL) (hd : decode cc pc = .ok (.istore_n q, 1)) (hp : pc + 1 = pc2) (k : G X pc2 lv2 st M) : G X pc lv (.int x :: st) M := by
  obtain ⟨p, l, e, R, s, m, args, below, meth, c, nL2, P, n2, A, cells, slots, Q⟩ := X
  obtain ⟨⟨hx, hb, hml, hown, hts⟩, hK, hA, hAw, hiP, hSg, hlk, hR, hnL, hn, hn1, hn2⟩ := cx
  subst hp
  subst hl2
  subst hnL
  intro H locs ls hl hP hS
  exact lv_istore_n hx hb hd rfl hl hi rfl (fun ls2 hl2 => k H locs ls2 (lset_mem hl2 lset1_in) hP hS)
theorem g_istore {X : Cq} {cc : ByteArray} {own : String} {R0 : Room} {nL n : Nat} (cx : Cx X cc own R0 nL n) {pc pc2 : Nat} {lv : List (Nat × Value)} {st : List Value} {M : Mm} {i : Nat} {x : Int32} {lv2 : List (Nat × Value)} (hl2 : lset1 lv i (.int x) = lv2) (hi : i < nL) (hd : decode cc pc = .ok (.istore i, 2)) (hp : pc + 2 = pc2) (k : G X pc2 lv2 st M) : G X pc lv (.int x :: st) M := by
  obtain ⟨p, l, e, R, s, m, args, below, meth, c, nL2, P, n2, A, cells, slots, Q⟩ := X
  obtain ⟨⟨hx, hb, hml, hown, hts⟩, hK, hA, hAw, hiP, hSg, hlk, hR, hnL, hn, hn1, hn2⟩ := cx
  subst hp
  subst hl2
  subst hnL
  intro H locs ls hl hP hS
  exact lv_istore hx hb hd hl hi rfl (fun ls2 hl2 => k H locs ls2 (lset_mem hl2 lset1_in) hP hS)
theorem g_astore_n {X : Cq} {cc : ByteArray} {own : String} {R0 : Room} {nL n : Nat} (cx : Cx X cc own R0 nL n) {pc pc2 : Nat} {lv : List (Nat × Value)} {st : List Value} {M : Mm} {q : Fin 4} {x : Nat} {lv2 : List (Nat × Value)} (hl2 : lset1 lv (q : Nat) (.ref x) = lv2) (hi : (q : Nat) < nL) (hd : decode cc pc = .ok (.astore_n q, 1)) (hp : pc + 1 = pc2) (k : G X pc2 lv2 st M) : G X pc lv (.ref x :: st) M := by
  obtain ⟨p, l, e, R, s, m, args, below, meth, c, nL2, P, n2, A, cells, slots, Q⟩ := X
  obtain ⟨⟨hx, hb, hml, hown, hts⟩, hK, hA, hAw, hiP, hSg, hlk, hR, hnL, hn, hn1, hn2⟩ := cx
  subst hp
  subst hl2
  subst hnL
  intro H locs ls hl hP hS
  exact lv_astore_n hx hb hd rfl hl hi rfl (fun ls2 hl2 => k H locs ls2 (lset_mem hl2 lset1_in) hP hS)
theorem g_astore {X : Cq} {cc : ByteArray} {own : String} {R0 : Room} {nL n : Nat} (cx : Cx X cc own R0 nL n) {pc pc2 : Nat} {lv : List (Nat × Value)} {st : List Value} {M : Mm} {i : Nat} {x : Nat} {lv2 : List (Nat × Value)} (hl2 : lset1 lv i (.ref x) = lv2) (hi : i < nL) (hd : decode cc pc = .ok (.astore i, 2)) (hp : pc + 2 = pc2) (k : G X pc2 lv2 st M) : G X pc lv (.ref x :: st) M := by
  obtain ⟨p, l, e, R, s, m, args, below, meth, c, nL2, P, n2, A, cells, slots, Q⟩ := X
  obtain ⟨⟨hx, hb, hml, hown, hts⟩, hK, hA, hAw, hiP, hSg, hlk, hR, hnL, hn, hn1, hn2⟩ := cx
  subst hp
  subst hl2
  subst hnL
  intro H locs ls hl hP hS
  exact lv_astore hx hb hd hl hi rfl (fun ls2 hl2 => k H locs ls2 (lset_mem hl2 lset1_in) hP hS)
theorem g_astore_nN {X : Cq} {cc : ByteArray} {own : String} {R0 : Room} {nL n : Nat} (cx : Cx X cc own R0 nL n) {pc pc2 : Nat} {lv : List (Nat × Value)} {st : List Value} {M : Mm} {q : Fin 4} {lv2 : List (Nat × Value)} (hl2 : lset1 lv (q : Nat) (.null) = lv2) (hi : (q : Nat) < nL) (hd : decode cc pc = .ok (.astore_n q, 1)) (hp : pc + 1 = pc2) (k : G X pc2 lv2 st M) : G X pc lv (.null :: st) M := by
  obtain ⟨p, l, e, R, s, m, args, below, meth, c, nL2, P, n2, A, cells, slots, Q⟩ := X
  obtain ⟨⟨hx, hb, hml, hown, hts⟩, hK, hA, hAw, hiP, hSg, hlk, hR, hnL, hn, hn1, hn2⟩ := cx
  subst hp
  subst hl2
  subst hnL
  intro H locs ls hl hP hS
  exact lv_astore_nN hx hb hd rfl hl hi rfl (fun ls2 hl2 => k H locs ls2 (lset_mem hl2 lset1_in) hP hS)
theorem lset2_in {P : Pl} {lv : List (Nat × Value)} {i : Nat} {v : Value} : ∀ q ∈ (lset2 lv i v).map (fun q => (q.1, cz P q.2)), q ∈ (i, cz P v) :: (lv.map fun q => (q.1, cz P q.2)).filter (fun q => !(q.1 == i) && (!(q.1 == i + 1) && !(q.1 + 1 == i && q.2.category == 2))) := by
  intro q hq
  obtain ⟨r, hr, rfl⟩ := List.mem_map.mp hq
  unfold lset2 at hr
  rcases List.mem_append.mp hr with hr | hr
  · obtain ⟨h1, h2⟩ := List.mem_filter.mp hr
    refine List.mem_cons_of_mem _ (List.mem_filter.mpr ⟨List.mem_map.mpr ⟨r, h1, rfl⟩, ?_⟩)
    simp only [Bool.and_eq_true, Nat.ble_eq] at h2
    have hne : ¬ r.1 = i := by omega
    have hne3 : ¬ r.1 = i + 1 := by omega
    simp only [cz_cat, Bool.and_eq_true, Bool.not_eq_true', beq_eq_false_iff_ne, ne_eq]
    refine ⟨hne, hne3, ?_⟩
    have h3 := h2.2
    simp only [Bool.not_eq_true', Bool.and_eq_false_iff] at h3
    rcases h3 with h3 | h3
    · simp only [Bool.and_eq_false_iff]
      refine Or.inl ?_
      rw [beq_eq_false_iff_ne]
      intro e
      rw [e] at h3
      simp at h3
    · simp only [Bool.and_eq_false_iff]
      refine Or.inr ?_
      rw [beq_eq_false_iff_ne]
      intro e
      rw [e] at h3
      simp at h3
  · rcases List.mem_cons.mp hr with rfl | hr
    · exact List.mem_cons_self
    · obtain ⟨h1, h2⟩ := List.mem_filter.mp hr
      refine List.mem_cons_of_mem _ (List.mem_filter.mpr ⟨List.mem_map.mpr ⟨r, h1, rfl⟩, ?_⟩)
      rw [Nat.ble_eq] at h2
      have hne : ¬ r.1 = i := by omega
      have hne3 : ¬ r.1 = i + 1 := by omega
      have hne2 : ¬ r.1 + 1 = i := by omega
      simp [hne, hne2, hne3]
theorem g_lstore_n {X : Cq} {cc : ByteArray} {own : String} {R0 : Room} {nL n : Nat} (cx : Cx X cc own R0 nL n) {pc pc2 : Nat} {lv : List (Nat × Value)} {st : List Value} {M : Mm} {q : Fin 4} {x : Int64} {lv2 : List (Nat × Value)} (hl2 : lset2 lv (q : Nat) (.long x) = lv2) (hi : (q : Nat) + 1 < nL) (hd : decode cc pc = .ok (.lstore_n q, 1)) (hp : pc + 1 = pc2) (k : G X pc2 lv2 st M) : G X pc lv (.long x :: st) M := by
  obtain ⟨p, l, e, R, s, m, args, below, meth, c, nL2, P, n2, A, cells, slots, Q⟩ := X
  obtain ⟨⟨hx, hb, hml, hown, hts⟩, hK, hA, hAw, hiP, hSg, hlk, hR, hnL, hn, hn1, hn2⟩ := cx
  subst hp
  subst hl2
  subst hnL
  intro H locs ls hl hP hS
  exact lv_lstore_n hx hb hd rfl hl hi rfl (fun ls2 hl2 => k H locs ls2 (lset_mem hl2 lset2_in) hP hS)
theorem g_lstore {X : Cq} {cc : ByteArray} {own : String} {R0 : Room} {nL n : Nat} (cx : Cx X cc own R0 nL n) {pc pc2 : Nat} {lv : List (Nat × Value)} {st : List Value} {M : Mm} {i : Nat} {x : Int64} {lv2 : List (Nat × Value)} (hl2 : lset2 lv i (.long x) = lv2) (hi : i + 1 < nL) (hd : decode cc pc = .ok (.lstore i, 2)) (hp : pc + 2 = pc2) (k : G X pc2 lv2 st M) : G X pc lv (.long x :: st) M := by
  obtain ⟨p, l, e, R, s, m, args, below, meth, c, nL2, P, n2, A, cells, slots, Q⟩ := X
  obtain ⟨⟨hx, hb, hml, hown, hts⟩, hK, hA, hAw, hiP, hSg, hlk, hR, hnL, hn, hn1, hn2⟩ := cx
  subst hp
  subst hl2
  subst hnL
  intro H locs ls hl hP hS
  exact lv_lstore hx hb hd hl hi rfl (fun ls2 hl2 => k H locs ls2 (lset_mem hl2 lset2_in) hP hS)
theorem g_iinc {X : Cq} {cc : ByteArray} {own : String} {R0 : Room} {nL n : Nat} (cx : Cx X cc own R0 nL n) {pc pc2 : Nat} {lv : List (Nat × Value)} {st : List Value} {M : Mm} {i : Nat} {q z : Int} (j : Nat) (hj : lv[j]? = some (i, .int (iI z))) {lv2 : List (Nat × Value)} (hl2 : lset1 lv i (.int (iI (z + q))) = lv2) (hi : i < nL) (hd : decode cc pc = .ok (.iinc i q, 3)) (hp : pc + 3 = pc2) (k : G X pc2 lv2 st M) : G X pc lv st M := by
  obtain ⟨p, l, e, R, s, m, args, below, meth, c, nL2, P, n2, A, cells, slots, Q⟩ := X
  obtain ⟨⟨hx, hb, hml, hown, hts⟩, hK, hA, hAw, hiP, hSg, hlk, hR, hnL, hn, hn1, hn2⟩ := cx
  subst hp
  subst hl2
  subst hnL
  intro H locs ls hl hP hS
  exact lv_iinc hx hb hd hl (k := j) (x := iI z) (by rw [List.getElem?_map, hj]; rfl) (iI_add z q) hi rfl (fun ls2 hl2 => k H locs ls2 (lset_mem hl2 lset1_in) hP hS)
theorem g_iadd {X : Cq} {cc : ByteArray} {own : String} {R0 : Room} {nL n : Nat} (cx : Cx X cc own R0 nL n) {pc pc2 : Nat} {lv : List (Nat × Value)} {st : List Value} {M : Mm} {a b : Int} (hd : decode cc pc = .ok (.iadd, 1)) (hp : pc + 1 = pc2) (k : G X pc2 lv (.int (iI (a + b)) :: st) M) : G X pc lv (.int (iI b) :: .int (iI a) :: st) M := by
  obtain ⟨p, l, e, R, s, m, args, below, meth, c, nL2, P, n2, A, cells, slots, Q⟩ := X
  obtain ⟨⟨hx, hb, hml, hown, hts⟩, hK, hA, hAw, hiP, hSg, hlk, hR, hnL, hn, hn1, hn2⟩ := cx
  subst hp
  intro H locs ls hl hP hS
  exact lv_iadd hx hb hd (by rw [iI_add]; exact k H locs ls hl hP hS)
theorem g_isub {X : Cq} {cc : ByteArray} {own : String} {R0 : Room} {nL n : Nat} (cx : Cx X cc own R0 nL n) {pc pc2 : Nat} {lv : List (Nat × Value)} {st : List Value} {M : Mm} {a b : Int} (hd : decode cc pc = .ok (.isub, 1)) (hp : pc + 1 = pc2) (k : G X pc2 lv (.int (iI (a - b)) :: st) M) : G X pc lv (.int (iI b) :: .int (iI a) :: st) M := by
  obtain ⟨p, l, e, R, s, m, args, below, meth, c, nL2, P, n2, A, cells, slots, Q⟩ := X
  obtain ⟨⟨hx, hb, hml, hown, hts⟩, hK, hA, hAw, hiP, hSg, hlk, hR, hnL, hn, hn1, hn2⟩ := cx
  subst hp
  intro H locs ls hl hP hS
  exact lv_isub hx hb hd (by rw [iI_sub]; exact k H locs ls hl hP hS)
theorem g_imul {X : Cq} {cc : ByteArray} {own : String} {R0 : Room} {nL n : Nat} (cx : Cx X cc own R0 nL n) {pc pc2 : Nat} {lv : List (Nat × Value)} {st : List Value} {M : Mm} {a b : Int} (hd : decode cc pc = .ok (.imul, 1)) (hp : pc + 1 = pc2) (k : G X pc2 lv (.int (iI (a * b)) :: st) M) : G X pc lv (.int (iI b) :: .int (iI a) :: st) M := by
  obtain ⟨p, l, e, R, s, m, args, below, meth, c, nL2, P, n2, A, cells, slots, Q⟩ := X
  obtain ⟨⟨hx, hb, hml, hown, hts⟩, hK, hA, hAw, hiP, hSg, hlk, hR, hnL, hn, hn1, hn2⟩ := cx
  subst hp
  intro H locs ls hl hP hS
  exact lv_imul hx hb hd (by rw [iI_mul]; exact k H locs ls hl hP hS)
theorem g_ineg {X : Cq} {cc : ByteArray} {own : String} {R0 : Room} {nL n : Nat} (cx : Cx X cc own R0 nL n) {pc pc2 : Nat} {lv : List (Nat × Value)} {st : List Value} {M : Mm} {a : Int} (hd : decode cc pc = .ok (.ineg, 1)) (hp : pc + 1 = pc2) (k : G X pc2 lv (.int (iI (-a)) :: st) M) : G X pc lv (.int (iI a) :: st) M := by
  obtain ⟨p, l, e, R, s, m, args, below, meth, c, nL2, P, n2, A, cells, slots, Q⟩ := X
  obtain ⟨⟨hx, hb, hml, hown, hts⟩, hK, hA, hAw, hiP, hSg, hlk, hR, hnL, hn, hn1, hn2⟩ := cx
  subst hp
  intro H locs ls hl hP hS
  exact lv_ineg hx hb hd (by rw [iI_neg]; exact k H locs ls hl hP hS)
theorem g_ladd {X : Cq} {cc : ByteArray} {own : String} {R0 : Room} {nL n : Nat} (cx : Cx X cc own R0 nL n) {pc pc2 : Nat} {lv : List (Nat × Value)} {st : List Value} {M : Mm} {a b : Int} (hd : decode cc pc = .ok (.ladd, 1)) (hp : pc + 1 = pc2) (k : G X pc2 lv (.long (lI (a + b)) :: st) M) : G X pc lv (.long (lI b) :: .long (lI a) :: st) M := by
  obtain ⟨p, l, e, R, s, m, args, below, meth, c, nL2, P, n2, A, cells, slots, Q⟩ := X
  obtain ⟨⟨hx, hb, hml, hown, hts⟩, hK, hA, hAw, hiP, hSg, hlk, hR, hnL, hn, hn1, hn2⟩ := cx
  subst hp
  intro H locs ls hl hP hS
  exact lv_ladd hx hb hd (by rw [lI_add]; exact k H locs ls hl hP hS)
theorem g_lsub {X : Cq} {cc : ByteArray} {own : String} {R0 : Room} {nL n : Nat} (cx : Cx X cc own R0 nL n) {pc pc2 : Nat} {lv : List (Nat × Value)} {st : List Value} {M : Mm} {a b : Int} (hd : decode cc pc = .ok (.lsub, 1)) (hp : pc + 1 = pc2) (k : G X pc2 lv (.long (lI (a - b)) :: st) M) : G X pc lv (.long (lI b) :: .long (lI a) :: st) M := by
  obtain ⟨p, l, e, R, s, m, args, below, meth, c, nL2, P, n2, A, cells, slots, Q⟩ := X
  obtain ⟨⟨hx, hb, hml, hown, hts⟩, hK, hA, hAw, hiP, hSg, hlk, hR, hnL, hn, hn1, hn2⟩ := cx
  subst hp
  intro H locs ls hl hP hS
  exact lv_lsub hx hb hd (by rw [lI_sub]; exact k H locs ls hl hP hS)
theorem g_lmul {X : Cq} {cc : ByteArray} {own : String} {R0 : Room} {nL n : Nat} (cx : Cx X cc own R0 nL n) {pc pc2 : Nat} {lv : List (Nat × Value)} {st : List Value} {M : Mm} {a b : Int} (hd : decode cc pc = .ok (.lmul, 1)) (hp : pc + 1 = pc2) (k : G X pc2 lv (.long (lI (a * b)) :: st) M) : G X pc lv (.long (lI b) :: .long (lI a) :: st) M := by
  obtain ⟨p, l, e, R, s, m, args, below, meth, c, nL2, P, n2, A, cells, slots, Q⟩ := X
  obtain ⟨⟨hx, hb, hml, hown, hts⟩, hK, hA, hAw, hiP, hSg, hlk, hR, hnL, hn, hn1, hn2⟩ := cx
  subst hp
  intro H locs ls hl hP hS
  exact lv_lmul hx hb hd (by rw [lI_mul]; exact k H locs ls hl hP hS)
theorem g_idiv {X : Cq} {cc : ByteArray} {own : String} {R0 : Room} {nL n : Nat} (cx : Cx X cc own R0 nL n) {pc pc2 : Nat} {lv : List (Nat × Value)} {st : List Value} {M : Mm} {a b : Int} (h0 : ir a ∧ ir b ∧ b ≠ 0 ∧ (a ≠ -2147483648 ∨ b ≠ -1)) (hd : decode cc pc = .ok (.idiv, 1)) (hp : pc + 1 = pc2) (k : G X pc2 lv (.int (iI (a.tdiv b)) :: st) M) : G X pc lv (.int (iI b) :: .int (iI a) :: st) M := by
  obtain ⟨p, l, e, R, s, m, args, below, meth, c, nL2, P, n2, A, cells, slots, Q⟩ := X
  obtain ⟨⟨hx, hb, hml, hown, hts⟩, hK, hA, hAw, hiP, hSg, hlk, hR, hnL, hn, hn1, hn2⟩ := cx
  subst hp
  intro H locs ls hl hP hS
  exact lv_idiv hx hb hd (fun q => h0.2.2.1 ((iI_eq0 h0.2.1).mp q)) (by rw [iI_div h0.1 h0.2.1 h0.2.2.2]; exact k H locs ls hl hP hS)
theorem g_irem {X : Cq} {cc : ByteArray} {own : String} {R0 : Room} {nL n : Nat} (cx : Cx X cc own R0 nL n) {pc pc2 : Nat} {lv : List (Nat × Value)} {st : List Value} {M : Mm} {a b : Int} (h0 : ir a ∧ ir b ∧ b ≠ 0 ∧ (a ≠ -2147483648 ∨ b ≠ -1)) (hd : decode cc pc = .ok (.irem, 1)) (hp : pc + 1 = pc2) (k : G X pc2 lv (.int (iI (a - a.tdiv b * b)) :: st) M) : G X pc lv (.int (iI b) :: .int (iI a) :: st) M := by
  obtain ⟨p, l, e, R, s, m, args, below, meth, c, nL2, P, n2, A, cells, slots, Q⟩ := X
  obtain ⟨⟨hx, hb, hml, hown, hts⟩, hK, hA, hAw, hiP, hSg, hlk, hR, hnL, hn, hn1, hn2⟩ := cx
  subst hp
  intro H locs ls hl hP hS
  exact lv_irem hx hb hd (fun q => h0.2.2.1 ((iI_eq0 h0.2.1).mp q)) (by rw [iI_div h0.1 h0.2.1 h0.2.2.2, iI_mul, iI_sub]; exact k H locs ls hl hP hS)
theorem lI_ne0 {b : Int} (hb : lr b) (h : b ≠ 0) : ¬ lI b = 0 := fun q => h ((lI_eq hb (b := 0) ⟨by decide, by decide⟩).mp q)
theorem g_ldiv {X : Cq} {cc : ByteArray} {own : String} {R0 : Room} {nL n : Nat} (cx : Cx X cc own R0 nL n) {pc pc2 : Nat} {lv : List (Nat × Value)} {st : List Value} {M : Mm} {a b : Int} (h0 : lr a ∧ lr b ∧ b ≠ 0 ∧ a ≠ -9223372036854775808) (hd : decode cc pc = .ok (.ldiv, 1)) (hp : pc + 1 = pc2) (k : G X pc2 lv (.long (lI (a.tdiv b)) :: st) M) : G X pc lv (.long (lI b) :: .long (lI a) :: st) M := by
  obtain ⟨p, l, e, R, s, m, args, below, meth, c, nL2, P, n2, A, cells, slots, Q⟩ := X
  obtain ⟨⟨hx, hb, hml, hown, hts⟩, hK, hA, hAw, hiP, hSg, hlk, hR, hnL, hn, hn1, hn2⟩ := cx
  subst hp
  intro H locs ls hl hP hS
  exact lv_ldiv hx hb hd (lI_ne0 h0.2.1 h0.2.2.1) (by rw [lI_div h0.1 h0.2.1 h0.2.2.2]; exact k H locs ls hl hP hS)
theorem g_lrem {X : Cq} {cc : ByteArray} {own : String} {R0 : Room} {nL n : Nat} (cx : Cx X cc own R0 nL n) {pc pc2 : Nat} {lv : List (Nat × Value)} {st : List Value} {M : Mm} {a b : Int} (h0 : lr a ∧ lr b ∧ b ≠ 0 ∧ a ≠ -9223372036854775808) (hd : decode cc pc = .ok (.lrem, 1)) (hp : pc + 1 = pc2) (k : G X pc2 lv (.long (lI (a - a.tdiv b * b)) :: st) M) : G X pc lv (.long (lI b) :: .long (lI a) :: st) M := by
  obtain ⟨p, l, e, R, s, m, args, below, meth, c, nL2, P, n2, A, cells, slots, Q⟩ := X
  obtain ⟨⟨hx, hb, hml, hown, hts⟩, hK, hA, hAw, hiP, hSg, hlk, hR, hnL, hn, hn1, hn2⟩ := cx
  subst hp
  intro H locs ls hl hP hS
  exact lv_lrem hx hb hd (lI_ne0 h0.2.1 h0.2.2.1) (by rw [lI_div h0.1 h0.2.1 h0.2.2.2, lI_mul, lI_sub]; exact k H locs ls hl hP hS)
theorem g_iand {X : Cq} {cc : ByteArray} {own : String} {R0 : Room} {nL n : Nat} (cx : Cx X cc own R0 nL n) {pc pc2 : Nat} {lv : List (Nat × Value)} {st : List Value} {M : Mm} {x y : Int32} (hd : decode cc pc = .ok (.iand, 1)) (hp : pc + 1 = pc2) (k : G X pc2 lv (.int (x &&& y) :: st) M) : G X pc lv (.int y :: .int x :: st) M := by
  obtain ⟨p, l, e, R, s, m, args, below, meth, c, nL2, P, n2, A, cells, slots, Q⟩ := X
  obtain ⟨⟨hx, hb, hml, hown, hts⟩, hK, hA, hAw, hiP, hSg, hlk, hR, hnL, hn, hn1, hn2⟩ := cx
  subst hp
  intro H locs ls hl hP hS
  exact lv_iand hx hb hd (k H locs ls hl hP hS)
theorem g_ior {X : Cq} {cc : ByteArray} {own : String} {R0 : Room} {nL n : Nat} (cx : Cx X cc own R0 nL n) {pc pc2 : Nat} {lv : List (Nat × Value)} {st : List Value} {M : Mm} {x y : Int32} (hd : decode cc pc = .ok (.ior, 1)) (hp : pc + 1 = pc2) (k : G X pc2 lv (.int (x ||| y) :: st) M) : G X pc lv (.int y :: .int x :: st) M := by
  obtain ⟨p, l, e, R, s, m, args, below, meth, c, nL2, P, n2, A, cells, slots, Q⟩ := X
  obtain ⟨⟨hx, hb, hml, hown, hts⟩, hK, hA, hAw, hiP, hSg, hlk, hR, hnL, hn, hn1, hn2⟩ := cx
  subst hp
  intro H locs ls hl hP hS
  exact lv_ior hx hb hd (k H locs ls hl hP hS)
theorem g_ixor {X : Cq} {cc : ByteArray} {own : String} {R0 : Room} {nL n : Nat} (cx : Cx X cc own R0 nL n) {pc pc2 : Nat} {lv : List (Nat × Value)} {st : List Value} {M : Mm} {x y : Int32} (hd : decode cc pc = .ok (.ixor, 1)) (hp : pc + 1 = pc2) (k : G X pc2 lv (.int (x ^^^ y) :: st) M) : G X pc lv (.int y :: .int x :: st) M := by
  obtain ⟨p, l, e, R, s, m, args, below, meth, c, nL2, P, n2, A, cells, slots, Q⟩ := X
  obtain ⟨⟨hx, hb, hml, hown, hts⟩, hK, hA, hAw, hiP, hSg, hlk, hR, hnL, hn, hn1, hn2⟩ := cx
  subst hp
  intro H locs ls hl hP hS
  exact lv_ixor hx hb hd (k H locs ls hl hP hS)
theorem g_ishl {X : Cq} {cc : ByteArray} {own : String} {R0 : Room} {nL n : Nat} (cx : Cx X cc own R0 nL n) {pc pc2 : Nat} {lv : List (Nat × Value)} {st : List Value} {M : Mm} {x y : Int32} (hd : decode cc pc = .ok (.ishl, 1)) (hp : pc + 1 = pc2) (k : G X pc2 lv (.int (x <<< (y &&& 31)) :: st) M) : G X pc lv (.int y :: .int x :: st) M := by
  obtain ⟨p, l, e, R, s, m, args, below, meth, c, nL2, P, n2, A, cells, slots, Q⟩ := X
  obtain ⟨⟨hx, hb, hml, hown, hts⟩, hK, hA, hAw, hiP, hSg, hlk, hR, hnL, hn, hn1, hn2⟩ := cx
  subst hp
  intro H locs ls hl hP hS
  exact lv_ishl hx hb hd (k H locs ls hl hP hS)
theorem g_ishr {X : Cq} {cc : ByteArray} {own : String} {R0 : Room} {nL n : Nat} (cx : Cx X cc own R0 nL n) {pc pc2 : Nat} {lv : List (Nat × Value)} {st : List Value} {M : Mm} {x y : Int32} (hd : decode cc pc = .ok (.ishr, 1)) (hp : pc + 1 = pc2) (k : G X pc2 lv (.int (x >>> (y &&& 31)) :: st) M) : G X pc lv (.int y :: .int x :: st) M := by
  obtain ⟨p, l, e, R, s, m, args, below, meth, c, nL2, P, n2, A, cells, slots, Q⟩ := X
  obtain ⟨⟨hx, hb, hml, hown, hts⟩, hK, hA, hAw, hiP, hSg, hlk, hR, hnL, hn, hn1, hn2⟩ := cx
  subst hp
  intro H locs ls hl hP hS
  exact lv_ishr hx hb hd (k H locs ls hl hP hS)
theorem g_iushr {X : Cq} {cc : ByteArray} {own : String} {R0 : Room} {nL n : Nat} (cx : Cx X cc own R0 nL n) {pc pc2 : Nat} {lv : List (Nat × Value)} {st : List Value} {M : Mm} {x y : Int32} (hd : decode cc pc = .ok (.iushr, 1)) (hp : pc + 1 = pc2) (k : G X pc2 lv (.int (x.toUInt32 >>> (y.toUInt32 &&& Int32.toUInt32 31)).toInt32 :: st) M) : G X pc lv (.int y :: .int x :: st) M := by
  obtain ⟨p, l, e, R, s, m, args, below, meth, c, nL2, P, n2, A, cells, slots, Q⟩ := X
  obtain ⟨⟨hx, hb, hml, hown, hts⟩, hK, hA, hAw, hiP, hSg, hlk, hR, hnL, hn, hn1, hn2⟩ := cx
  subst hp
  intro H locs ls hl hP hS
  exact lv_iushr hx hb hd rfl (k H locs ls hl hP hS)
theorem g_i2l {X : Cq} {cc : ByteArray} {own : String} {R0 : Room} {nL n : Nat} (cx : Cx X cc own R0 nL n) {pc pc2 : Nat} {lv : List (Nat × Value)} {st : List Value} {M : Mm} {a : Int} (h0 : ir a) (hd : decode cc pc = .ok (.i2l, 1)) (hp : pc + 1 = pc2) (k : G X pc2 lv (.long (lI a) :: st) M) : G X pc lv (.int (iI a) :: st) M := by
  obtain ⟨p, l, e, R, s, m, args, below, meth, c, nL2, P, n2, A, cells, slots, Q⟩ := X
  obtain ⟨⟨hx, hb, hml, hown, hts⟩, hK, hA, hAw, hiP, hSg, hlk, hR, hnL, hn, hn1, hn2⟩ := cx
  subst hp
  intro H locs ls hl hP hS
  exact lv_i2l hx hb hd (iI_l h0) (k H locs ls hl hP hS)
theorem g_l2i {X : Cq} {cc : ByteArray} {own : String} {R0 : Room} {nL n : Nat} (cx : Cx X cc own R0 nL n) {pc pc2 : Nat} {lv : List (Nat × Value)} {st : List Value} {M : Mm} {a : Int} (hd : decode cc pc = .ok (.l2i, 1)) (hp : pc + 1 = pc2) (k : G X pc2 lv (.int (iI a) :: st) M) : G X pc lv (.long (lI a) :: st) M := by
  obtain ⟨p, l, e, R, s, m, args, below, meth, c, nL2, P, n2, A, cells, slots, Q⟩ := X
  obtain ⟨⟨hx, hb, hml, hown, hts⟩, hK, hA, hAw, hiP, hSg, hlk, hR, hnL, hn, hn1, hn2⟩ := cx
  subst hp
  intro H locs ls hl hP hS
  exact lv_l2i hx hb hd (lI_i a) (k H locs ls hl hP hS)
theorem g_i2b {X : Cq} {cc : ByteArray} {own : String} {R0 : Room} {nL n : Nat} (cx : Cx X cc own R0 nL n) {pc pc2 : Nat} {lv : List (Nat × Value)} {st : List Value} {M : Mm} {x : Int32} (hd : decode cc pc = .ok (.i2b, 1)) (hp : pc + 1 = pc2) (k : G X pc2 lv (.int x.toInt8.toInt32 :: st) M) : G X pc lv (.int x :: st) M := by
  obtain ⟨p, l, e, R, s, m, args, below, meth, c, nL2, P, n2, A, cells, slots, Q⟩ := X
  obtain ⟨⟨hx, hb, hml, hown, hts⟩, hK, hA, hAw, hiP, hSg, hlk, hR, hnL, hn, hn1, hn2⟩ := cx
  subst hp
  intro H locs ls hl hP hS
  exact lv_i2b hx hb hd rfl (k H locs ls hl hP hS)
theorem g_lcmp {X : Cq} {cc : ByteArray} {own : String} {R0 : Room} {nL n : Nat} (cx : Cx X cc own R0 nL n) {pc pc2 : Nat} {lv : List (Nat × Value)} {st : List Value} {M : Mm} {a b : Int} (h0 : lr a ∧ lr b) (hd : decode cc pc = .ok (.lcmp, 1)) (hp : pc + 1 = pc2) (k : G X pc2 lv (.int (iI (if b < a then 1 else if a = b then 0 else -1)) :: st) M) : G X pc lv (.long (lI b) :: .long (lI a) :: st) M := by
  obtain ⟨p, l, e, R, s, m, args, below, meth, c, nL2, P, n2, A, cells, slots, Q⟩ := X
  obtain ⟨⟨hx, hb, hml, hown, hts⟩, hK, hA, hAw, hiP, hSg, hlk, hR, hnL, hn, hn1, hn2⟩ := cx
  subst hp
  intro H locs ls hl hP hS
  have e : lg_cmp (lI a) (lI b) = iI (if b < a then 1 else if a = b then 0 else -1) := by
    unfold lg_cmp
    simp only [gt_iff_lt, lI_lt h0.2 h0.1, lI_eq h0.1 h0.2]
    by_cases h1 : b < a
    · rw [if_pos h1, if_pos h1]; rfl
    · by_cases h2 : a = b
      · rw [if_neg h1, if_pos h2, if_neg h1, if_pos h2]; rfl
      · rw [if_neg h1, if_neg h2, if_neg h1, if_neg h2]; rfl
  exact W.lcmp hx hb hd (by rw [e]; exact k H locs ls hl hP hS)
theorem g_dup {X : Cq} {cc : ByteArray} {own : String} {R0 : Room} {nL n : Nat} (cx : Cx X cc own R0 nL n) {pc pc2 : Nat} {lv : List (Nat × Value)} {st : List Value} {M : Mm} {v : Value} (hv : v.category = 1) (hd : decode cc pc = .ok (.dup, 1)) (hp : pc + 1 = pc2) (k : G X pc2 lv (v :: v :: st) M) : G X pc lv (v :: st) M := by
  obtain ⟨p, l, e, R, s, m, args, below, meth, c, nL2, P, n2, A, cells, slots, Q⟩ := X
  obtain ⟨⟨hx, hb, hml, hown, hts⟩, hK, hA, hAw, hiP, hSg, hlk, hR, hnL, hn, hn1, hn2⟩ := cx
  subst hp
  intro H locs ls hl hP hS
  exact lv_dup hx hb hd ((cz_cat P v).trans hv) (k H locs ls hl hP hS)
theorem g_pop {X : Cq} {cc : ByteArray} {own : String} {R0 : Room} {nL n : Nat} (cx : Cx X cc own R0 nL n) {pc pc2 : Nat} {lv : List (Nat × Value)} {st : List Value} {M : Mm} {v : Value} (hv : v.category = 1) (hd : decode cc pc = .ok (.pop, 1)) (hp : pc + 1 = pc2) (k : G X pc2 lv st M) : G X pc lv (v :: st) M := by
  obtain ⟨p, l, e, R, s, m, args, below, meth, c, nL2, P, n2, A, cells, slots, Q⟩ := X
  obtain ⟨⟨hx, hb, hml, hown, hts⟩, hK, hA, hAw, hiP, hSg, hlk, hR, hnL, hn, hn1, hn2⟩ := cx
  subst hp
  intro H locs ls hl hP hS
  exact lv_pop hx hb hd ((cz_cat P v).trans hv) (k H locs ls hl hP hS)
theorem g_dup2 {X : Cq} {cc : ByteArray} {own : String} {R0 : Room} {nL n : Nat} (cx : Cx X cc own R0 nL n) {pc pc2 : Nat} {lv : List (Nat × Value)} {st : List Value} {M : Mm} {v w : Value} (hv : v.category = 1) (hw : w.category = 1) (hd : decode cc pc = .ok (.dup2, 1)) (hp : pc + 1 = pc2) (k : G X pc2 lv (v :: w :: v :: w :: st) M) : G X pc lv (v :: w :: st) M := by
  obtain ⟨p, l, e, R, s, m, args, below, meth, c, nL2, P, n2, A, cells, slots, Q⟩ := X
  obtain ⟨⟨hx, hb, hml, hown, hts⟩, hK, hA, hAw, hiP, hSg, hlk, hR, hnL, hn, hn1, hn2⟩ := cx
  subst hp
  intro H locs ls hl hP hS
  exact lv_dup2_11 hx hb hd ((cz_cat P v).trans hv) ((cz_cat P w).trans hw) (k H locs ls hl hP hS)
theorem g_null {X : Cq} {cc : ByteArray} {own : String} {R0 : Room} {nL n : Nat} (cx : Cx X cc own R0 nL n) {pc pc2 : Nat} {lv : List (Nat × Value)} {st : List Value} {M : Mm}  (hd : decode cc pc = .ok (.aconst_null, 1)) (hp : pc + 1 = pc2) (k : G X pc2 lv (.null :: st) M) : G X pc lv st M := by
  obtain ⟨p, l, e, R, s, m, args, below, meth, c, nL2, P, n2, A, cells, slots, Q⟩ := X
  obtain ⟨⟨hx, hb, hml, hown, hts⟩, hK, hA, hAw, hiP, hSg, hlk, hR, hnL, hn, hn1, hn2⟩ := cx
  subst hp
  intro H locs ls hl hP hS
  exact lv_null hx hb hd (k H locs ls hl hP hS)
theorem g_rwi {X : Cq} {pc : Nat} {lv : List (Nat × Value)} {st : List Value} {M : Mm} {x y : Int32} (e : x = y) (k : G X pc lv (.int y :: st) M) : G X pc lv (.int x :: st) M := e ▸ k
theorem g_rwl {X : Cq} {pc : Nat} {lv : List (Nat × Value)} {st : List Value} {M : Mm} {x y : Int64} (e : x = y) (k : G X pc lv (.long y :: st) M) : G X pc lv (.long x :: st) M := e ▸ k
theorem g_nm {X : Cq} {pc : Nat} {lv : List (Nat × Value)} {st : List Value} {M : Mm} {a : Int} (k : ∀ z : Int, z = a → G X pc lv (.int (iI z) :: st) M) : G X pc lv (.int (iI a) :: st) M := k a rfl
theorem g_nml {X : Cq} {pc : Nat} {lv : List (Nat × Value)} {st : List Value} {M : Mm} {a : Int} (k : ∀ z : Int, z = a → G X pc lv (.long (lI z) :: st) M) : G X pc lv (.long (lI a) :: st) M := k a rfl
theorem g_if_eq {X : Cq} {cc : ByteArray} {own : String} {R0 : Room} {nL n : Nat} (cx : Cx X cc own R0 nL n) {pc pc2 : Nat} {lv : List (Nat × Value)} {st : List Value} {M : Mm} {a off : Int} {tgt : Nat} (h0 : ir a) (hd : decode cc pc = .ok (.ifCond .eq off, 3)) (ht : (pc : Int) + off = (tgt : Int)) (hp : pc + 3 = pc2) (kt : a = 0 → G X tgt lv st M) (kf : ¬ a = 0 → G X pc2 lv st M) : G X pc lv (.int (iI a) :: st) M := by
  obtain ⟨p, l, e, R, s, m, args, below, meth, c, nL2, P, n2, A, cells, slots, Q⟩ := X
  obtain ⟨⟨hx, hb, hml, hown, hts⟩, hK, hA, hAw, hiP, hSg, hlk, hR, hnL, hn, hn1, hn2⟩ := cx
  subst hp
  intro H locs ls hl hP hS
  exact lv_if_eq hx hb hd ht (fun q => kt ((iI_eq0 h0).mp q) H locs ls hl hP hS) (fun q => kf (fun z => q ((iI_eq0 h0).mpr z)) H locs ls hl hP hS)
theorem g_if_ne {X : Cq} {cc : ByteArray} {own : String} {R0 : Room} {nL n : Nat} (cx : Cx X cc own R0 nL n) {pc pc2 : Nat} {lv : List (Nat × Value)} {st : List Value} {M : Mm} {a off : Int} {tgt : Nat} (h0 : ir a) (hd : decode cc pc = .ok (.ifCond .ne off, 3)) (ht : (pc : Int) + off = (tgt : Int)) (hp : pc + 3 = pc2) (kt : ¬ a = 0 → G X tgt lv st M) (kf : a = 0 → G X pc2 lv st M) : G X pc lv (.int (iI a) :: st) M := by
  obtain ⟨p, l, e, R, s, m, args, below, meth, c, nL2, P, n2, A, cells, slots, Q⟩ := X
  obtain ⟨⟨hx, hb, hml, hown, hts⟩, hK, hA, hAw, hiP, hSg, hlk, hR, hnL, hn, hn1, hn2⟩ := cx
  subst hp
  intro H locs ls hl hP hS
  exact lv_if_ne hx hb hd ht (fun q => kt (fun z => q ((iI_eq0 h0).mpr z)) H locs ls hl hP hS) (fun q => kf ((iI_eq0 h0).mp q) H locs ls hl hP hS)
theorem g_if_lt {X : Cq} {cc : ByteArray} {own : String} {R0 : Room} {nL n : Nat} (cx : Cx X cc own R0 nL n) {pc pc2 : Nat} {lv : List (Nat × Value)} {st : List Value} {M : Mm} {a off : Int} {tgt : Nat} (h0 : ir a) (hd : decode cc pc = .ok (.ifCond .lt off, 3)) (ht : (pc : Int) + off = (tgt : Int)) (hp : pc + 3 = pc2) (kt : a < 0 → G X tgt lv st M) (kf : ¬ a < 0 → G X pc2 lv st M) : G X pc lv (.int (iI a) :: st) M := by
  obtain ⟨p, l, e, R, s, m, args, below, meth, c, nL2, P, n2, A, cells, slots, Q⟩ := X
  obtain ⟨⟨hx, hb, hml, hown, hts⟩, hK, hA, hAw, hiP, hSg, hlk, hR, hnL, hn, hn1, hn2⟩ := cx
  subst hp
  intro H locs ls hl hP hS
  exact lv_if_lt hx hb hd ht (fun q => kt ((iI_lt0 h0).mp q) H locs ls hl hP hS) (fun q => kf (fun z => q ((iI_lt0 h0).mpr z)) H locs ls hl hP hS)
theorem g_if_ge {X : Cq} {cc : ByteArray} {own : String} {R0 : Room} {nL n : Nat} (cx : Cx X cc own R0 nL n) {pc pc2 : Nat} {lv : List (Nat × Value)} {st : List Value} {M : Mm} {a off : Int} {tgt : Nat} (h0 : ir a) (hd : decode cc pc = .ok (.ifCond .ge off, 3)) (ht : (pc : Int) + off = (tgt : Int)) (hp : pc + 3 = pc2) (kt : 0 ≤ a → G X tgt lv st M) (kf : ¬ 0 ≤ a → G X pc2 lv st M) : G X pc lv (.int (iI a) :: st) M := by
  obtain ⟨p, l, e, R, s, m, args, below, meth, c, nL2, P, n2, A, cells, slots, Q⟩ := X
  obtain ⟨⟨hx, hb, hml, hown, hts⟩, hK, hA, hAw, hiP, hSg, hlk, hR, hnL, hn, hn1, hn2⟩ := cx
  subst hp
  intro H locs ls hl hP hS
  exact lv_if_ge hx hb hd ht (fun q => kt ((iI_ge0 h0).mp q) H locs ls hl hP hS) (fun q => kf (fun z => q ((iI_ge0 h0).mpr z)) H locs ls hl hP hS)
theorem g_if_gt {X : Cq} {cc : ByteArray} {own : String} {R0 : Room} {nL n : Nat} (cx : Cx X cc own R0 nL n) {pc pc2 : Nat} {lv : List (Nat × Value)} {st : List Value} {M : Mm} {a off : Int} {tgt : Nat} (h0 : ir a) (hd : decode cc pc = .ok (.ifCond .gt off, 3)) (ht : (pc : Int) + off = (tgt : Int)) (hp : pc + 3 = pc2) (kt : 0 < a → G X tgt lv st M) (kf : ¬ 0 < a → G X pc2 lv st M) : G X pc lv (.int (iI a) :: st) M := by
  obtain ⟨p, l, e, R, s, m, args, below, meth, c, nL2, P, n2, A, cells, slots, Q⟩ := X
  obtain ⟨⟨hx, hb, hml, hown, hts⟩, hK, hA, hAw, hiP, hSg, hlk, hR, hnL, hn, hn1, hn2⟩ := cx
  subst hp
  intro H locs ls hl hP hS
  exact lv_if_gt hx hb hd ht (fun q => kt ((iI_gt0 h0).mp q) H locs ls hl hP hS) (fun q => kf (fun z => q ((iI_gt0 h0).mpr z)) H locs ls hl hP hS)
theorem g_if_le {X : Cq} {cc : ByteArray} {own : String} {R0 : Room} {nL n : Nat} (cx : Cx X cc own R0 nL n) {pc pc2 : Nat} {lv : List (Nat × Value)} {st : List Value} {M : Mm} {a off : Int} {tgt : Nat} (h0 : ir a) (hd : decode cc pc = .ok (.ifCond .le off, 3)) (ht : (pc : Int) + off = (tgt : Int)) (hp : pc + 3 = pc2) (kt : a ≤ 0 → G X tgt lv st M) (kf : ¬ a ≤ 0 → G X pc2 lv st M) : G X pc lv (.int (iI a) :: st) M := by
  obtain ⟨p, l, e, R, s, m, args, below, meth, c, nL2, P, n2, A, cells, slots, Q⟩ := X
  obtain ⟨⟨hx, hb, hml, hown, hts⟩, hK, hA, hAw, hiP, hSg, hlk, hR, hnL, hn, hn1, hn2⟩ := cx
  subst hp
  intro H locs ls hl hP hS
  exact lv_if_le hx hb hd ht (fun q => kt ((iI_le0 h0).mp q) H locs ls hl hP hS) (fun q => kf (fun z => q ((iI_le0 h0).mpr z)) H locs ls hl hP hS)
def b2 (p : Prop) [Decidable p] : Int := if p then 1 else 0
theorem b2_0 {p : Prop} [Decidable p] : iI (b2 p) = 0 ↔ ¬ p := by
  unfold b2
  by_cases h : p
  · rw [if_pos h, iI_eq0 ⟨by decide, by decide⟩]; simp [h]
  · rw [if_neg h, iI_eq0 ⟨by decide, by decide⟩]; simp [h]
theorem g_ifb_eq {X : Cq} {cc : ByteArray} {own : String} {R0 : Room} {nL n : Nat} (cx : Cx X cc own R0 nL n) {pc pc2 : Nat} {lv : List (Nat × Value)} {st : List Value} {M : Mm} {φ : Prop} [Decidable φ] {off : Int} {tgt : Nat} (hd : decode cc pc = .ok (.ifCond .eq off, 3)) (ht : (pc : Int) + off = (tgt : Int)) (hp : pc + 3 = pc2) (kt : ¬ φ → G X tgt lv st M) (kf : φ → G X pc2 lv st M) : G X pc lv (.int (iI (b2 φ)) :: st) M := by
  obtain ⟨p, l, e, R, s, m, args, below, meth, c, nL2, P, n2, A, cells, slots, Q⟩ := X
  obtain ⟨⟨hx, hb, hml, hown, hts⟩, hK, hA, hAw, hiP, hSg, hlk, hR, hnL, hn, hn1, hn2⟩ := cx
  subst hp
  intro H locs ls hl hP hS
  exact lv_if_eq hx hb hd ht (fun q => kt (b2_0.mp q) H locs ls hl hP hS) (fun q => kf (Classical.not_not.mp fun z => q (b2_0.mpr z)) H locs ls hl hP hS)
theorem g_ifb_ne {X : Cq} {cc : ByteArray} {own : String} {R0 : Room} {nL n : Nat} (cx : Cx X cc own R0 nL n) {pc pc2 : Nat} {lv : List (Nat × Value)} {st : List Value} {M : Mm} {φ : Prop} [Decidable φ] {off : Int} {tgt : Nat} (hd : decode cc pc = .ok (.ifCond .ne off, 3)) (ht : (pc : Int) + off = (tgt : Int)) (hp : pc + 3 = pc2) (kt : φ → G X tgt lv st M) (kf : ¬ φ → G X pc2 lv st M) : G X pc lv (.int (iI (b2 φ)) :: st) M := by
  obtain ⟨p, l, e, R, s, m, args, below, meth, c, nL2, P, n2, A, cells, slots, Q⟩ := X
  obtain ⟨⟨hx, hb, hml, hown, hts⟩, hK, hA, hAw, hiP, hSg, hlk, hR, hnL, hn, hn1, hn2⟩ := cx
  subst hp
  intro H locs ls hl hP hS
  exact lv_if_ne hx hb hd ht (fun q => kt (Classical.not_not.mp fun z => q (b2_0.mpr z)) H locs ls hl hP hS) (fun q => kf (b2_0.mp q) H locs ls hl hP hS)
theorem g_icmp_eq {X : Cq} {cc : ByteArray} {own : String} {R0 : Room} {nL n : Nat} (cx : Cx X cc own R0 nL n) {pc pc2 : Nat} {lv : List (Nat × Value)} {st : List Value} {M : Mm} {a b off : Int} {tgt : Nat} (h0 : ir a ∧ ir b) (hd : decode cc pc = .ok (.if_icmp .eq off, 3)) (ht : (pc : Int) + off = (tgt : Int)) (hp : pc + 3 = pc2) (kt : a = b → G X tgt lv st M) (kf : ¬ a = b → G X pc2 lv st M) : G X pc lv (.int (iI b) :: .int (iI a) :: st) M := by
  obtain ⟨p, l, e, R, s, m, args, below, meth, c, nL2, P, n2, A, cells, slots, Q⟩ := X
  obtain ⟨⟨hx, hb, hml, hown, hts⟩, hK, hA, hAw, hiP, hSg, hlk, hR, hnL, hn, hn1, hn2⟩ := cx
  subst hp
  intro H locs ls hl hP hS
  exact lv_icmp_eq hx hb hd ht (fun q => kt ((iI_eq h0.1 h0.2).mp q) H locs ls hl hP hS) (fun q => kf (fun z => q ((iI_eq h0.1 h0.2).mpr z)) H locs ls hl hP hS)
theorem g_icmp_ne {X : Cq} {cc : ByteArray} {own : String} {R0 : Room} {nL n : Nat} (cx : Cx X cc own R0 nL n) {pc pc2 : Nat} {lv : List (Nat × Value)} {st : List Value} {M : Mm} {a b off : Int} {tgt : Nat} (h0 : ir a ∧ ir b) (hd : decode cc pc = .ok (.if_icmp .ne off, 3)) (ht : (pc : Int) + off = (tgt : Int)) (hp : pc + 3 = pc2) (kt : ¬ a = b → G X tgt lv st M) (kf : a = b → G X pc2 lv st M) : G X pc lv (.int (iI b) :: .int (iI a) :: st) M := by
  obtain ⟨p, l, e, R, s, m, args, below, meth, c, nL2, P, n2, A, cells, slots, Q⟩ := X
  obtain ⟨⟨hx, hb, hml, hown, hts⟩, hK, hA, hAw, hiP, hSg, hlk, hR, hnL, hn, hn1, hn2⟩ := cx
  subst hp
  intro H locs ls hl hP hS
  exact lv_icmp_ne hx hb hd ht (fun q => kt (fun z => q ((iI_eq h0.1 h0.2).mpr z)) H locs ls hl hP hS) (fun q => kf ((iI_eq h0.1 h0.2).mp q) H locs ls hl hP hS)
theorem g_icmp_lt {X : Cq} {cc : ByteArray} {own : String} {R0 : Room} {nL n : Nat} (cx : Cx X cc own R0 nL n) {pc pc2 : Nat} {lv : List (Nat × Value)} {st : List Value} {M : Mm} {a b off : Int} {tgt : Nat} (h0 : ir a ∧ ir b) (hd : decode cc pc = .ok (.if_icmp .lt off, 3)) (ht : (pc : Int) + off = (tgt : Int)) (hp : pc + 3 = pc2) (kt : a < b → G X tgt lv st M) (kf : ¬ a < b → G X pc2 lv st M) : G X pc lv (.int (iI b) :: .int (iI a) :: st) M := by
  obtain ⟨p, l, e, R, s, m, args, below, meth, c, nL2, P, n2, A, cells, slots, Q⟩ := X
  obtain ⟨⟨hx, hb, hml, hown, hts⟩, hK, hA, hAw, hiP, hSg, hlk, hR, hnL, hn, hn1, hn2⟩ := cx
  subst hp
  intro H locs ls hl hP hS
  exact lv_icmp_lt hx hb hd ht (fun q => kt ((iI_lt h0.1 h0.2).mp q) H locs ls hl hP hS) (fun q => kf (fun z => q ((iI_lt h0.1 h0.2).mpr z)) H locs ls hl hP hS)
theorem g_icmp_ge {X : Cq} {cc : ByteArray} {own : String} {R0 : Room} {nL n : Nat} (cx : Cx X cc own R0 nL n) {pc pc2 : Nat} {lv : List (Nat × Value)} {st : List Value} {M : Mm} {a b off : Int} {tgt : Nat} (h0 : ir a ∧ ir b) (hd : decode cc pc = .ok (.if_icmp .ge off, 3)) (ht : (pc : Int) + off = (tgt : Int)) (hp : pc + 3 = pc2) (kt : b ≤ a → G X tgt lv st M) (kf : ¬ b ≤ a → G X pc2 lv st M) : G X pc lv (.int (iI b) :: .int (iI a) :: st) M := by
  obtain ⟨p, l, e, R, s, m, args, below, meth, c, nL2, P, n2, A, cells, slots, Q⟩ := X
  obtain ⟨⟨hx, hb, hml, hown, hts⟩, hK, hA, hAw, hiP, hSg, hlk, hR, hnL, hn, hn1, hn2⟩ := cx
  subst hp
  intro H locs ls hl hP hS
  exact lv_icmp_ge hx hb hd ht (fun q => kt ((iI_le h0.2 h0.1).mp q) H locs ls hl hP hS) (fun q => kf (fun z => q ((iI_le h0.2 h0.1).mpr z)) H locs ls hl hP hS)
theorem g_icmp_gt {X : Cq} {cc : ByteArray} {own : String} {R0 : Room} {nL n : Nat} (cx : Cx X cc own R0 nL n) {pc pc2 : Nat} {lv : List (Nat × Value)} {st : List Value} {M : Mm} {a b off : Int} {tgt : Nat} (h0 : ir a ∧ ir b) (hd : decode cc pc = .ok (.if_icmp .gt off, 3)) (ht : (pc : Int) + off = (tgt : Int)) (hp : pc + 3 = pc2) (kt : b < a → G X tgt lv st M) (kf : ¬ b < a → G X pc2 lv st M) : G X pc lv (.int (iI b) :: .int (iI a) :: st) M := by
  obtain ⟨p, l, e, R, s, m, args, below, meth, c, nL2, P, n2, A, cells, slots, Q⟩ := X
  obtain ⟨⟨hx, hb, hml, hown, hts⟩, hK, hA, hAw, hiP, hSg, hlk, hR, hnL, hn, hn1, hn2⟩ := cx
  subst hp
  intro H locs ls hl hP hS
  exact lv_icmp_gt hx hb hd ht (fun q => kt ((iI_lt h0.2 h0.1).mp q) H locs ls hl hP hS) (fun q => kf (fun z => q ((iI_lt h0.2 h0.1).mpr z)) H locs ls hl hP hS)
theorem g_icmp_le {X : Cq} {cc : ByteArray} {own : String} {R0 : Room} {nL n : Nat} (cx : Cx X cc own R0 nL n) {pc pc2 : Nat} {lv : List (Nat × Value)} {st : List Value} {M : Mm} {a b off : Int} {tgt : Nat} (h0 : ir a ∧ ir b) (hd : decode cc pc = .ok (.if_icmp .le off, 3)) (ht : (pc : Int) + off = (tgt : Int)) (hp : pc + 3 = pc2) (kt : a ≤ b → G X tgt lv st M) (kf : ¬ a ≤ b → G X pc2 lv st M) : G X pc lv (.int (iI b) :: .int (iI a) :: st) M := by
  obtain ⟨p, l, e, R, s, m, args, below, meth, c, nL2, P, n2, A, cells, slots, Q⟩ := X
  obtain ⟨⟨hx, hb, hml, hown, hts⟩, hK, hA, hAw, hiP, hSg, hlk, hR, hnL, hn, hn1, hn2⟩ := cx
  subst hp
  intro H locs ls hl hP hS
  exact lv_icmp_le hx hb hd ht (fun q => kt ((iI_le h0.1 h0.2).mp q) H locs ls hl hP hS) (fun q => kf (fun z => q ((iI_le h0.1 h0.2).mpr z)) H locs ls hl hP hS)
theorem g_goto {X : Cq} {cc : ByteArray} {own : String} {R0 : Room} {nL n : Nat} (cx : Cx X cc own R0 nL n) {pc pc2 : Nat} {lv : List (Nat × Value)} {st : List Value} {M : Mm} {off : Int} {tgt : Nat} (hd : decode cc pc = .ok (.goto off, 3)) (ht : (pc : Int) + off = (tgt : Int)) (k : G X tgt lv st M) : G X pc lv st M := by
  obtain ⟨p, l, e, R, s, m, args, below, meth, c, nL2, P, n2, A, cells, slots, Q⟩ := X
  obtain ⟨⟨hx, hb, hml, hown, hts⟩, hK, hA, hAw, hiP, hSg, hlk, hR, hnL, hn, hn1, hn2⟩ := cx
  intro H locs ls hl hP hS
  exact lv_goto hx hb hd ht (k H locs ls hl hP hS)
theorem g_ifnull {X : Cq} {cc : ByteArray} {own : String} {R0 : Room} {nL n : Nat} (cx : Cx X cc own R0 nL n) {pc pc2 : Nat} {lv : List (Nat × Value)} {st : List Value} {M : Mm} {x : Nat} {off : Int} (hd : decode cc pc = .ok (.ifnull off, 3)) (hp : pc + 3 = pc2) (k : G X pc2 lv st M) : G X pc lv (.ref x :: st) M := by
  obtain ⟨p, l, e, R, s, m, args, below, meth, c, nL2, P, n2, A, cells, slots, Q⟩ := X
  obtain ⟨⟨hx, hb, hml, hown, hts⟩, hK, hA, hAw, hiP, hSg, hlk, hR, hnL, hn, hn1, hn2⟩ := cx
  subst hp
  intro H locs ls hl hP hS
  exact lv_ifnull hx hb hd (k H locs ls hl hP hS)
theorem g_ifnullN {X : Cq} {cc : ByteArray} {own : String} {R0 : Room} {nL n : Nat} (cx : Cx X cc own R0 nL n) {pc pc2 : Nat} {lv : List (Nat × Value)} {st : List Value} {M : Mm} {off : Int} {tgt : Nat} (hd : decode cc pc = .ok (.ifnull off, 3)) (ht : (pc : Int) + off = (tgt : Int)) (k : G X tgt lv st M) : G X pc lv (.null :: st) M := by
  obtain ⟨p, l, e, R, s, m, args, below, meth, c, nL2, P, n2, A, cells, slots, Q⟩ := X
  obtain ⟨⟨hx, hb, hml, hown, hts⟩, hK, hA, hAw, hiP, hSg, hlk, hR, hnL, hn, hn1, hn2⟩ := cx
  intro H locs ls hl hP hS
  exact lv_ifnullN hx hb hd ht (k H locs ls hl hP hS)
theorem g_ifnonnull {X : Cq} {cc : ByteArray} {own : String} {R0 : Room} {nL n : Nat} (cx : Cx X cc own R0 nL n) {pc pc2 : Nat} {lv : List (Nat × Value)} {st : List Value} {M : Mm} {x : Nat} {off : Int} {tgt : Nat} (hd : decode cc pc = .ok (.ifnonnull off, 3)) (ht : (pc : Int) + off = (tgt : Int)) (k : G X tgt lv st M) : G X pc lv (.ref x :: st) M := by
  obtain ⟨p, l, e, R, s, m, args, below, meth, c, nL2, P, n2, A, cells, slots, Q⟩ := X
  obtain ⟨⟨hx, hb, hml, hown, hts⟩, hK, hA, hAw, hiP, hSg, hlk, hR, hnL, hn, hn1, hn2⟩ := cx
  intro H locs ls hl hP hS
  exact lv_ifnonnull hx hb hd ht (k H locs ls hl hP hS)
theorem g_ifnonnullN {X : Cq} {cc : ByteArray} {own : String} {R0 : Room} {nL n : Nat} (cx : Cx X cc own R0 nL n) {pc pc2 : Nat} {lv : List (Nat × Value)} {st : List Value} {M : Mm} {off : Int} (hd : decode cc pc = .ok (.ifnonnull off, 3)) (hp : pc + 3 = pc2) (k : G X pc2 lv st M) : G X pc lv (.null :: st) M := by
  obtain ⟨p, l, e, R, s, m, args, below, meth, c, nL2, P, n2, A, cells, slots, Q⟩ := X
  obtain ⟨⟨hx, hb, hml, hown, hts⟩, hK, hA, hAw, hiP, hSg, hlk, hR, hnL, hn, hn1, hn2⟩ := cx
  subst hp
  intro H locs ls hl hP hS
  exact lv_ifnonnullN hx hb hd (k H locs ls hl hP hS)
theorem g_swOut {X : Cq} {cc : ByteArray} {own : String} {R0 : Room} {nL n : Nat} (cx : Cx X cc own R0 nL n) {pc pc2 : Nat} {lv : List (Nat × Value)} {st : List Value} {M : Mm} {a dflt lo hi : Int} {offs : Array Int} {len tgt : Nat} (h0 : ir a) (hd : decode cc pc = .ok (.tableswitch dflt lo hi offs, len)) (h : a < lo ∨ hi < a) (ht : (pc : Int) + dflt = (tgt : Int)) (k : G X tgt lv st M) : G X pc lv (.int (iI a) :: st) M := by
  obtain ⟨p, l, e, R, s, m, args, below, meth, c, nL2, P, n2, A, cells, slots, Q⟩ := X
  obtain ⟨⟨hx, hb, hml, hown, hts⟩, hK, hA, hAw, hiP, hSg, hlk, hR, hnL, hn, hn1, hn2⟩ := cx
  intro H locs ls hl hP hS
  exact lv_tableOut hx hb hd (by rw [iI_toInt h0]; exact h) ht (k H locs ls hl hP hS)
theorem g_swIn {X : Cq} {cc : ByteArray} {own : String} {R0 : Room} {nL n : Nat} (cx : Cx X cc own R0 nL n) {pc pc2 : Nat} {lv : List (Nat × Value)} {st : List Value} {M : Mm} {a dflt lo hi off : Int} {offs : Array Int} {len tgt : Nat} (h0 : ir a) (hd : decode cc pc = .ok (.tableswitch dflt lo hi offs, len)) (h1 : ¬ a < lo) (h2 : ¬ hi < a) (ho : offs[(a - lo).toNat]? = some off) (ht : (pc : Int) + off = (tgt : Int)) (k : G X tgt lv st M) : G X pc lv (.int (iI a) :: st) M := by
  obtain ⟨p, l, e, R, s, m, args, below, meth, c, nL2, P, n2, A, cells, slots, Q⟩ := X
  obtain ⟨⟨hx, hb, hml, hown, hts⟩, hK, hA, hAw, hiP, hSg, hlk, hR, hnL, hn, hn1, hn2⟩ := cx
  intro H locs ls hl hP hS
  exact lv_tableIn hx hb hd (by rw [iI_toInt h0]; exact h1) (by rw [iI_toInt h0]; exact h2) (by rw [iI_toInt h0]; exact ho) ht (k H locs ls hl hP hS)
theorem g_lookup {X : Cq} {cc : ByteArray} {own : String} {R0 : Room} {nL n : Nat} (cx : Cx X cc own R0 nL n) {pc pc2 : Nat} {lv : List (Nat × Value)} {st : List Value} {M : Mm} {a dflt off : Int} {ps : Array (Int × Int)} {len tgt : Nat} (h0 : ir a) (hd : decode cc pc = .ok (.lookupswitch dflt ps, len)) (hps : (ps.toList.zip (ps.toList.drop 1)).all (fun (a, next) => a.1 < next.1) = true) (ho : Op.lookupswitch.offset ps.toList dflt a = off) (ht : (pc : Int) + off = (tgt : Int)) (k : G X tgt lv st M) : G X pc lv (.int (iI a) :: st) M := by
  obtain ⟨p, l, e, R, s, m, args, below, meth, c, nL2, P, n2, A, cells, slots, Q⟩ := X
  obtain ⟨⟨hx, hb, hml, hown, hts⟩, hK, hA, hAw, hiP, hSg, hlk, hR, hnL, hn, hn1, hn2⟩ := cx
  intro H locs ls hl hP hS
  exact lv_lookup hx hb hd hps (by rw [iI_toInt h0]; exact ho) ht (k H locs ls hl hP hS)
theorem g_get {X : Cq} {cc : ByteArray} {own : String} {R0 : Room} {nL n : Nat} (cx : Cx X cc own R0 nL n) {pc pc2 : Nat} {lv : List (Nat × Value)} {st : List Value} {M : Mm} {k0 ci j idx : Nat} {fs : List (Nat × Nat)} {cd : Nat × Nat} {C : String} {T : u_T} {N : Nat} (hc : vwCl[ci]? = some (C, T, N)) (hin : ∀ w ∈ u_ws C T N, w ∈ gw) (hs : shp n k0 = .inr (ci, fs)) (hk : k0 < n) (hj : fs[j]? = some cd) (hjN : j < N) {ref : String} (hlink : Cond.fieldLink own idx ref (T j).2.1 (T j).2.2.1 ∈ gw) (href : (T j).1 = ref) {v : Value} (hv : aval M k0 j cd = v) (hd : decode cc pc = .ok (.getfield idx, 3)) (hp : pc + 3 = pc2) (k : G X pc2 lv (v :: st) M) : G X pc lv (.ref k0 :: st) M := by
  obtain ⟨p, l, e, R, s, m, args, below, meth, c, nL2, P, n2, A, cells, slots, Q⟩ := X
  obtain ⟨⟨hx, hb, hml, hown, hts⟩, hK, hA, hAw, hiP, hSg, hlk, hR, hnL, hn, hn1, hn2⟩ := cx
  subst hp
  intro H locs ls hl hP hS
  exact va_get hx hb hts hin hown hK hP k0 (by rw [wld_get (hn ▸ hk)]; unfold wc; rw [hn, hs]; rfl) hc j hjN (hts _ hlink) (fun x h => href ▸ h) (v := cz P v) (by rw [fvs_get, hj]; simp [hv]) hd (k H locs ls hl hP hS)
theorem g_puti {X : Cq} {cc : ByteArray} {own : String} {R0 : Room} {nL n : Nat} (cx : Cx X cc own R0 nL n) {pc pc2 : Nat} {lv : List (Nat × Value)} {st : List Value} {M : Mm} {k0 ci j idx : Nat} {fs : List (Nat × Nat)} {x0 : Nat} {C : String} {T : u_T} {N : Nat} (hc : vwCl[ci]? = some (C, T, N)) (hin : ∀ w ∈ u_ws C T N, w ∈ gw) (hs : shp n k0 = .inr (ci, fs)) (hk : k0 < n) (hj : fs[j]? = some (0, x0)) (hjN : j < N) {ref : String} (hlink : Cond.fieldLink own idx ref (T j).2.1 (T j).2.2.1 ∈ gw) (href : (T j).1 = ref) {ty0 : Nat → FieldType} (hty : ∀ k, k < N → parseFieldDescriptor (T k).2.2.1 = some (ty0 k)) (hnm : ∀ a, a < N → ∀ b, b < N → a ≠ b → (T a).2.1 ≠ (T b).2.1) (hfin : (T j).2.2.2 = false) {z : Int} (ht0 : ty0 j = .int) (hd : decode cc pc = .ok (.putfield idx, 3)) (hp : pc + 3 = pc2) (k : G X pc2 lv st (stM M k0 j z)) : G X pc lv (.int (iI z) :: .ref k0 :: st) M := by
  obtain ⟨p, l, e, R, s, m, args, below, meth, c, nL2, P, n2, A, cells, slots, Q⟩ := X
  obtain ⟨⟨hx, hb, hml, hown, hts⟩, hK, hA, hAw, hiP, hSg, hlk, hR, hnL, hn, hn1, hn2⟩ := cx
  subst hp
  intro H locs ls hl hP hS
  refine va_put hx hb hts hin ty0 hty hnm hown hK hP (wld_D hiP hAw M) hS k0 (by rw [wld_get (hn ▸ hk)]; unfold wc; rw [hn, hs]; rfl) hc j hjN (hts _ hlink) (fun x h => href ▸ h) hfin (ty := .int) (v := .int (iI z)) (by rw [hty j hjN, ht0]) rfl rfl (by rw [fvs_len]; exact (List.getElem?_eq_some_iff.mp hj).1) hd (fun H1 locs1 hP1 hD1 hS1 => k H1 locs1 ls hl ?_ hS1)
  rw [wld_set (M2 := stM M k0 j z) (hn ▸ hk) (by unfold wc; rw [hn, hs]; exact congrArg (fun q => Sum.inr (ci, q)) (fvs_set (by show Value.int (iI (stM M k0 j z k0 j)) = _; rw [stM_at]) fs 0 j hj (Nat.zero_add j))) (fun i hi => wc_off (stM_off hi))] at hP1
  exact hP1
theorem g_putl {X : Cq} {cc : ByteArray} {own : String} {R0 : Room} {nL n : Nat} (cx : Cx X cc own R0 nL n) {pc pc2 : Nat} {lv : List (Nat × Value)} {st : List Value} {M : Mm} {k0 ci j idx : Nat} {fs : List (Nat × Nat)} {x0 : Nat} {C : String} {T : u_T} {N : Nat} (hc : vwCl[ci]? = some (C, T, N)) (hin : ∀ w ∈ u_ws C T N, w ∈ gw) (hs : shp n k0 = .inr (ci, fs)) (hk : k0 < n) (hj : fs[j]? = some (1, x0)) (hjN : j < N) {ref : String} (hlink : Cond.fieldLink own idx ref (T j).2.1 (T j).2.2.1 ∈ gw) (href : (T j).1 = ref) {ty0 : Nat → FieldType} (hty : ∀ k, k < N → parseFieldDescriptor (T k).2.2.1 = some (ty0 k)) (hnm : ∀ a, a < N → ∀ b, b < N → a ≠ b → (T a).2.1 ≠ (T b).2.1) (hfin : (T j).2.2.2 = false) {z : Int} (ht0 : ty0 j = .long) (hd : decode cc pc = .ok (.putfield idx, 3)) (hp : pc + 3 = pc2) (k : G X pc2 lv st (stM M k0 j z)) : G X pc lv (.long (lI z) :: .ref k0 :: st) M := by
  obtain ⟨p, l, e, R, s, m, args, below, meth, c, nL2, P, n2, A, cells, slots, Q⟩ := X
  obtain ⟨⟨hx, hb, hml, hown, hts⟩, hK, hA, hAw, hiP, hSg, hlk, hR, hnL, hn, hn1, hn2⟩ := cx
  subst hp
  intro H locs ls hl hP hS
  refine va_put hx hb hts hin ty0 hty hnm hown hK hP (wld_D hiP hAw M) hS k0 (by rw [wld_get (hn ▸ hk)]; unfold wc; rw [hn, hs]; rfl) hc j hjN (hts _ hlink) (fun x h => href ▸ h) hfin (ty := .long) (v := .long (lI z)) (by rw [hty j hjN, ht0]) rfl rfl (by rw [fvs_len]; exact (List.getElem?_eq_some_iff.mp hj).1) hd (fun H1 locs1 hP1 hD1 hS1 => k H1 locs1 ls hl ?_ hS1)
  rw [wld_set (M2 := stM M k0 j z) (hn ▸ hk) (by unfold wc; rw [hn, hs]; exact congrArg (fun q => Sum.inr (ci, q)) (fvs_set (by show Value.long (lI (stM M k0 j z k0 j)) = _; rw [stM_at]) fs 0 j hj (Nat.zero_add j))) (fun i hi => wc_off (stM_off hi))] at hP1
  exact hP1
theorem g_getN {X : Cq} {cc : ByteArray} {own : String} {R0 : Room} {nL n : Nat} (cx : Cx X cc own R0 nL n) {pc pc2 : Nat} {lv : List (Nat × Value)} {st : List Value} {M : Mm} {k0 ci j idx : Nat} {fs : List (Nat × Nat)} {cd : Nat × Nat} {C : String} {T : u_T} {N : Nat} (hc : vwCl[ci]? = some (C, T, N)) (hin : ∀ w ∈ u_ws C T N, w ∈ gw) (hs : shp n k0 = .inr (ci, fs)) (hk : k0 < n) (hj : fs[j]? = some cd) (hjN : j < N) {ref host : String} (hlink : Cond.fieldLinkNest own idx ref (T j).2.1 (T j).2.2.1 host ∈ gw) (href : (T j).1 = ref) {v : Value} (hv : aval M k0 j cd = v) (hd : decode cc pc = .ok (.getfield idx, 3)) (hp : pc + 3 = pc2) (k : G X pc2 lv (v :: st) M) : G X pc lv (.ref k0 :: st) M := by
  obtain ⟨p, l, e, R, s, m, args, below, meth, c, nL2, P, n2, A, cells, slots, Q⟩ := X
  obtain ⟨⟨hx, hb, hml, hown, hts⟩, hK, hA, hAw, hiP, hSg, hlk, hR, hnL, hn, hn1, hn2⟩ := cx
  subst hp
  intro H locs ls hl hP hS
  exact va_getN hx hb hts hin hown hK hP k0 (by rw [wld_get (hn ▸ hk)]; unfold wc; rw [hn, hs]; rfl) hc j hjN (hts _ hlink) (fun x h => href ▸ h) (v := cz P v) (by rw [fvs_get, hj]; simp [hv]) hd (k H locs ls hl hP hS)
theorem g_putiN {X : Cq} {cc : ByteArray} {own : String} {R0 : Room} {nL n : Nat} (cx : Cx X cc own R0 nL n) {pc pc2 : Nat} {lv : List (Nat × Value)} {st : List Value} {M : Mm} {k0 ci j idx : Nat} {fs : List (Nat × Nat)} {x0 : Nat} {C : String} {T : u_T} {N : Nat} (hc : vwCl[ci]? = some (C, T, N)) (hin : ∀ w ∈ u_ws C T N, w ∈ gw) (hs : shp n k0 = .inr (ci, fs)) (hk : k0 < n) (hj : fs[j]? = some (0, x0)) (hjN : j < N) {ref host : String} (hlink : Cond.fieldLinkNest own idx ref (T j).2.1 (T j).2.2.1 host ∈ gw) (href : (T j).1 = ref) {ty0 : Nat → FieldType} (hty : ∀ k, k < N → parseFieldDescriptor (T k).2.2.1 = some (ty0 k)) (hnm : ∀ a, a < N → ∀ b, b < N → a ≠ b → (T a).2.1 ≠ (T b).2.1) (hfin : (T j).2.2.2 = false) {z : Int} (ht0 : ty0 j = .int) (hd : decode cc pc = .ok (.putfield idx, 3)) (hp : pc + 3 = pc2) (k : G X pc2 lv st (stM M k0 j z)) : G X pc lv (.int (iI z) :: .ref k0 :: st) M := by
  obtain ⟨p, l, e, R, s, m, args, below, meth, c, nL2, P, n2, A, cells, slots, Q⟩ := X
  obtain ⟨⟨hx, hb, hml, hown, hts⟩, hK, hA, hAw, hiP, hSg, hlk, hR, hnL, hn, hn1, hn2⟩ := cx
  subst hp
  intro H locs ls hl hP hS
  refine va_putN hx hb hts hin ty0 hty hnm hown hK hP (wld_D hiP hAw M) hS k0 (by rw [wld_get (hn ▸ hk)]; unfold wc; rw [hn, hs]; rfl) hc j hjN (hts _ hlink) (fun x h => href ▸ h) hfin (ty := .int) (v := .int (iI z)) (by rw [hty j hjN, ht0]) rfl rfl (by rw [fvs_len]; exact (List.getElem?_eq_some_iff.mp hj).1) hd (fun H1 locs1 hP1 hD1 hS1 => k H1 locs1 ls hl ?_ hS1)
  rw [wld_set (M2 := stM M k0 j z) (hn ▸ hk) (by unfold wc; rw [hn, hs]; exact congrArg (fun q => Sum.inr (ci, q)) (fvs_set (by show Value.int (iI (stM M k0 j z k0 j)) = _; rw [stM_at]) fs 0 j hj (Nat.zero_add j))) (fun i hi => wc_off (stM_off hi))] at hP1
  exact hP1
theorem g_putlN {X : Cq} {cc : ByteArray} {own : String} {R0 : Room} {nL n : Nat} (cx : Cx X cc own R0 nL n) {pc pc2 : Nat} {lv : List (Nat × Value)} {st : List Value} {M : Mm} {k0 ci j idx : Nat} {fs : List (Nat × Nat)} {x0 : Nat} {C : String} {T : u_T} {N : Nat} (hc : vwCl[ci]? = some (C, T, N)) (hin : ∀ w ∈ u_ws C T N, w ∈ gw) (hs : shp n k0 = .inr (ci, fs)) (hk : k0 < n) (hj : fs[j]? = some (1, x0)) (hjN : j < N) {ref host : String} (hlink : Cond.fieldLinkNest own idx ref (T j).2.1 (T j).2.2.1 host ∈ gw) (href : (T j).1 = ref) {ty0 : Nat → FieldType} (hty : ∀ k, k < N → parseFieldDescriptor (T k).2.2.1 = some (ty0 k)) (hnm : ∀ a, a < N → ∀ b, b < N → a ≠ b → (T a).2.1 ≠ (T b).2.1) (hfin : (T j).2.2.2 = false) {z : Int} (ht0 : ty0 j = .long) (hd : decode cc pc = .ok (.putfield idx, 3)) (hp : pc + 3 = pc2) (k : G X pc2 lv st (stM M k0 j z)) : G X pc lv (.long (lI z) :: .ref k0 :: st) M := by
  obtain ⟨p, l, e, R, s, m, args, below, meth, c, nL2, P, n2, A, cells, slots, Q⟩ := X
  obtain ⟨⟨hx, hb, hml, hown, hts⟩, hK, hA, hAw, hiP, hSg, hlk, hR, hnL, hn, hn1, hn2⟩ := cx
  subst hp
  intro H locs ls hl hP hS
  refine va_putN hx hb hts hin ty0 hty hnm hown hK hP (wld_D hiP hAw M) hS k0 (by rw [wld_get (hn ▸ hk)]; unfold wc; rw [hn, hs]; rfl) hc j hjN (hts _ hlink) (fun x h => href ▸ h) hfin (ty := .long) (v := .long (lI z)) (by rw [hty j hjN, ht0]) rfl rfl (by rw [fvs_len]; exact (List.getElem?_eq_some_iff.mp hj).1) hd (fun H1 locs1 hP1 hD1 hS1 => k H1 locs1 ls hl ?_ hS1)
  rw [wld_set (M2 := stM M k0 j z) (hn ▸ hk) (by unfold wc; rw [hn, hs]; exact congrArg (fun q => Sum.inr (ci, q)) (fvs_set (by show Value.long (lI (stM M k0 j z k0 j)) = _; rw [stM_at]) fs 0 j hj (Nat.zero_add j))) (fun i hi => wc_off (stM_off hi))] at hP1
  exact hP1
end
