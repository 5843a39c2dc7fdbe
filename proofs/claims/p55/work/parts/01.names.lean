-- ===== PART A: goes FIRST, ahead of the names: the tables' words, and 'selects' of the private methods out of them =====
/-- a private method of a class that the tables say can be made, by its rows of tables_1 -/
def lw_okq (q : MethodName × Nat) : Prop := (q.1.cls ≠ "java/lang/invoke/MethodHandle" ∧ q.1.cls ≠ "java/lang/invoke/VarHandle") ∧ Cond.instantiable q.1.cls q.2 ∈ tables_1 ∧ Cond.privateMethod q.1 ∈ tables_1 ∧ Cond.instanceMethod q.1 ∈ tables_1
theorem lw_p0 : lw_okq (⟨"CoatBetween", "rowOf", "(I)LCoatBetween$Row;"⟩, 18) := ⟨⟨by decide +kernel, by decide +kernel⟩, List.mem_of_getElem? (i := 17) (by decide +kernel), List.mem_of_getElem? (i := 334) (by decide +kernel), List.mem_of_getElem? (i := 335) (by decide +kernel)⟩
theorem lw_p1 : lw_okq (⟨"CoatBetween", "wrongInOrder", "(LCoatBetween$Row;)I"⟩, 18) := ⟨⟨by decide +kernel, by decide +kernel⟩, List.mem_of_getElem? (i := 17) (by decide +kernel), List.mem_of_getElem? (i := 338) (by decide +kernel), List.mem_of_getElem? (i := 339) (by decide +kernel)⟩
theorem lw_p2 : lw_okq (⟨"CoatBetween", "found", "(I)I"⟩, 18) := ⟨⟨by decide +kernel, by decide +kernel⟩, List.mem_of_getElem? (i := 17) (by decide +kernel), List.mem_of_getElem? (i := 368) (by decide +kernel), List.mem_of_getElem? (i := 369) (by decide +kernel)⟩
theorem lw_p3 : lw_okq (⟨"CoatBetween", "goAlong", "(LCoatBetween$Row;)V"⟩, 18) := ⟨⟨by decide +kernel, by decide +kernel⟩, List.mem_of_getElem? (i := 17) (by decide +kernel), List.mem_of_getElem? (i := 372) (by decide +kernel), List.mem_of_getElem? (i := 373) (by decide +kernel)⟩
theorem lw_p4 : lw_okq (⟨"CoatBetween", "reachFromStart", "(I)V"⟩, 18) := ⟨⟨by decide +kernel, by decide +kernel⟩, List.mem_of_getElem? (i := 17) (by decide +kernel), List.mem_of_getElem? (i := 442) (by decide +kernel), List.mem_of_getElem? (i := 443) (by decide +kernel)⟩
theorem lw_p5 : lw_okq (⟨"CoatBetween$Planner", "spread", "(II)V"⟩, 4) := ⟨⟨by decide +kernel, by decide +kernel⟩, List.mem_of_getElem? (i := 175) (by decide +kernel), List.mem_of_getElem? (i := 450) (by decide +kernel), List.mem_of_getElem? (i := 451) (by decide +kernel)⟩
theorem lw_p6 : lw_okq (⟨"CoatBetween$Planner", "leastEnding", "(III)I"⟩, 4) := ⟨⟨by decide +kernel, by decide +kernel⟩, List.mem_of_getElem? (i := 175) (by decide +kernel), List.mem_of_getElem? (i := 456) (by decide +kernel), List.mem_of_getElem? (i := 457) (by decide +kernel)⟩
theorem lw_p7 : lw_okq (⟨"CoatBetween$Lane", "bitsOf", "(I)I"⟩, 6) := ⟨⟨by decide +kernel, by decide +kernel⟩, List.mem_of_getElem? (i := 27) (by decide +kernel), List.mem_of_getElem? (i := 488) (by decide +kernel), List.mem_of_getElem? (i := 489) (by decide +kernel)⟩
theorem lw_p8 : lw_okq (⟨"CoatBetween", "goFirstOrder", "(I)Z"⟩, 18) := ⟨⟨by decide +kernel, by decide +kernel⟩, List.mem_of_getElem? (i := 17) (by decide +kernel), List.mem_of_getElem? (i := 506) (by decide +kernel), List.mem_of_getElem? (i := 507) (by decide +kernel)⟩
theorem lw_p9 : lw_okq (⟨"CoatBetween", "tellWay", "(LCoatBetween$Row;)V"⟩, 18) := ⟨⟨by decide +kernel, by decide +kernel⟩, List.mem_of_getElem? (i := 17) (by decide +kernel), List.mem_of_getElem? (i := 512) (by decide +kernel), List.mem_of_getElem? (i := 513) (by decide +kernel)⟩
theorem lw_p10 : lw_okq (⟨"CoatBetween$Way", "has", "(I)Z"⟩, 6) := ⟨⟨by decide +kernel, by decide +kernel⟩, List.mem_of_getElem? (i := 144) (by decide +kernel), List.mem_of_getElem? (i := 524) (by decide +kernel), List.mem_of_getElem? (i := 525) (by decide +kernel)⟩
theorem lw_p11 : lw_okq (⟨"CoatBetween$Tally", "numberTo", "(III)V"⟩, 2) := ⟨⟨by decide +kernel, by decide +kernel⟩, List.mem_of_getElem? (i := 536) (by decide +kernel), List.mem_of_getElem? (i := 555) (by decide +kernel), List.mem_of_getElem? (i := 556) (by decide +kernel)⟩
theorem lw_p12 : lw_okq (⟨"CoatBetween$Tally", "setNumber", "(IIII)V"⟩, 2) := ⟨⟨by decide +kernel, by decide +kernel⟩, List.mem_of_getElem? (i := 536) (by decide +kernel), List.mem_of_getElem? (i := 560) (by decide +kernel), List.mem_of_getElem? (i := 561) (by decide +kernel)⟩
theorem lw_p13 : lw_okq (⟨"CoatBetween$Tally", "numberOf", "(III)I"⟩, 2) := ⟨⟨by decide +kernel, by decide +kernel⟩, List.mem_of_getElem? (i := 536) (by decide +kernel), List.mem_of_getElem? (i := 568) (by decide +kernel), List.mem_of_getElem? (i := 569) (by decide +kernel)⟩
theorem lw_p14 : lw_okq (⟨"CoatBetween$Tally", "sumOf", "(II)I"⟩, 2) := ⟨⟨by decide +kernel, by decide +kernel⟩, List.mem_of_getElem? (i := 536) (by decide +kernel), List.mem_of_getElem? (i := 573) (by decide +kernel), List.mem_of_getElem? (i := 574) (by decide +kernel)⟩
theorem lw_p15 : lw_okq (⟨"CoatBetween$Chooser", "addLetter", "(I)V"⟩, 4) := ⟨⟨by decide +kernel, by decide +kernel⟩, List.mem_of_getElem? (i := 194) (by decide +kernel), List.mem_of_getElem? (i := 605) (by decide +kernel), List.mem_of_getElem? (i := 606) (by decide +kernel)⟩
def lw_privs_1 : List (MethodName × Nat) := [(⟨"CoatBetween", "rowOf", "(I)LCoatBetween$Row;"⟩, 18), (⟨"CoatBetween", "wrongInOrder", "(LCoatBetween$Row;)I"⟩, 18), (⟨"CoatBetween", "found", "(I)I"⟩, 18), (⟨"CoatBetween", "goAlong", "(LCoatBetween$Row;)V"⟩, 18), (⟨"CoatBetween", "reachFromStart", "(I)V"⟩, 18), (⟨"CoatBetween$Planner", "spread", "(II)V"⟩, 4), (⟨"CoatBetween$Planner", "leastEnding", "(III)I"⟩, 4), (⟨"CoatBetween$Lane", "bitsOf", "(I)I"⟩, 6), (⟨"CoatBetween", "goFirstOrder", "(I)Z"⟩, 18), (⟨"CoatBetween", "tellWay", "(LCoatBetween$Row;)V"⟩, 18), (⟨"CoatBetween$Way", "has", "(I)Z"⟩, 6), (⟨"CoatBetween$Tally", "numberTo", "(III)V"⟩, 2), (⟨"CoatBetween$Tally", "setNumber", "(IIII)V"⟩, 2), (⟨"CoatBetween$Tally", "numberOf", "(III)I"⟩, 2), (⟨"CoatBetween$Tally", "sumOf", "(II)I"⟩, 2), (⟨"CoatBetween$Chooser", "addLetter", "(I)V"⟩, 4)]
theorem lw_r1 : ∀ q ∈ lw_privs_1, lw_okq q := List.forall_mem_cons.mpr ⟨lw_p0, List.forall_mem_cons.mpr ⟨lw_p1, List.forall_mem_cons.mpr ⟨lw_p2, List.forall_mem_cons.mpr ⟨lw_p3, List.forall_mem_cons.mpr ⟨lw_p4, List.forall_mem_cons.mpr ⟨lw_p5, List.forall_mem_cons.mpr ⟨lw_p6, List.forall_mem_cons.mpr ⟨lw_p7, List.forall_mem_cons.mpr ⟨lw_p8, List.forall_mem_cons.mpr ⟨lw_p9, List.forall_mem_cons.mpr ⟨lw_p10, List.forall_mem_cons.mpr ⟨lw_p11, List.forall_mem_cons.mpr ⟨lw_p12, List.forall_mem_cons.mpr ⟨lw_p13, List.forall_mem_cons.mpr ⟨lw_p14, List.forall_mem_cons.mpr ⟨lw_p15, fun _ h => absurd h List.not_mem_nil⟩⟩⟩⟩⟩⟩⟩⟩⟩⟩⟩⟩⟩⟩⟩⟩
theorem lw_p16 : lw_okq (⟨"CoatBetween$Chooser", "nextByRule", "()I"⟩, 4) := ⟨⟨by decide +kernel, by decide +kernel⟩, List.mem_of_getElem? (i := 194) (by decide +kernel), List.mem_of_getElem? (i := 615) (by decide +kernel), List.mem_of_getElem? (i := 616) (by decide +kernel)⟩
theorem lw_p17 : lw_okq (⟨"CoatBetween$Chooser", "isAhead", "(II)Z"⟩, 4) := ⟨⟨by decide +kernel, by decide +kernel⟩, List.mem_of_getElem? (i := 194) (by decide +kernel), List.mem_of_getElem? (i := 626) (by decide +kernel), List.mem_of_getElem? (i := 627) (by decide +kernel)⟩
theorem lw_p18 : lw_okq (⟨"CoatBetween$Chooser", "rankOf", "(II)I"⟩, 4) := ⟨⟨by decide +kernel, by decide +kernel⟩, List.mem_of_getElem? (i := 194) (by decide +kernel), List.mem_of_getElem? (i := 630) (by decide +kernel), List.mem_of_getElem? (i := 631) (by decide +kernel)⟩
theorem lw_p19 : lw_okq (⟨"CoatBetween$Planner", "mendOnce", "(II)V"⟩, 4) := ⟨⟨by decide +kernel, by decide +kernel⟩, List.mem_of_getElem? (i := 175) (by decide +kernel), List.mem_of_getElem? (i := 673) (by decide +kernel), List.mem_of_getElem? (i := 674) (by decide +kernel)⟩
theorem lw_p20 : lw_okq (⟨"CoatBetween", "textOf", "(I)LCoatBetween$Row;"⟩, 18) := ⟨⟨by decide +kernel, by decide +kernel⟩, List.mem_of_getElem? (i := 17) (by decide +kernel), List.mem_of_getElem? (i := 698) (by decide +kernel), List.mem_of_getElem? (i := 699) (by decide +kernel)⟩
theorem lw_p21 : lw_okq (⟨"CoatBetween$Reader", "readHouse", "(LCoatBetween$Row;LCoatBetween$Lane;)V"⟩, 2) := ⟨⟨by decide +kernel, by decide +kernel⟩, List.mem_of_getElem? (i := 106) (by decide +kernel), List.mem_of_getElem? (i := 727) (by decide +kernel), List.mem_of_getElem? (i := 728) (by decide +kernel)⟩
theorem lw_p22 : lw_okq (⟨"CoatBetween$Reader", "stop", "()V"⟩, 2) := ⟨⟨by decide +kernel, by decide +kernel⟩, List.mem_of_getElem? (i := 106) (by decide +kernel), List.mem_of_getElem? (i := 731) (by decide +kernel), List.mem_of_getElem? (i := 732) (by decide +kernel)⟩
theorem lw_p23 : lw_okq (⟨"CoatBetween$Reader", "readNumber", "(LCoatBetween$Row;I)I"⟩, 2) := ⟨⟨by decide +kernel, by decide +kernel⟩, List.mem_of_getElem? (i := 106) (by decide +kernel), List.mem_of_getElem? (i := 735) (by decide +kernel), List.mem_of_getElem? (i := 736) (by decide +kernel)⟩
theorem lw_p24 : lw_okq (⟨"CoatBetween$Reader", "figureHere", "(LCoatBetween$Row;)I"⟩, 2) := ⟨⟨by decide +kernel, by decide +kernel⟩, List.mem_of_getElem? (i := 106) (by decide +kernel), List.mem_of_getElem? (i := 739) (by decide +kernel), List.mem_of_getElem? (i := 740) (by decide +kernel)⟩
theorem lw_p25 : lw_okq (⟨"CoatBetween$Reader", "readNeed", "(LCoatBetween$Row;LCoatBetween$Lane;)V"⟩, 2) := ⟨⟨by decide +kernel, by decide +kernel⟩, List.mem_of_getElem? (i := 106) (by decide +kernel), List.mem_of_getElem? (i := 747) (by decide +kernel), List.mem_of_getElem? (i := 748) (by decide +kernel)⟩
theorem lw_p26 : lw_okq (⟨"CoatBetween$Reader", "readSign", "(LCoatBetween$Row;C)Z"⟩, 2) := ⟨⟨by decide +kernel, by decide +kernel⟩, List.mem_of_getElem? (i := 106) (by decide +kernel), List.mem_of_getElem? (i := 757) (by decide +kernel), List.mem_of_getElem? (i := 758) (by decide +kernel)⟩
theorem lw_p27 : lw_okq (⟨"CoatBetween$Reader", "readFigure", "(LCoatBetween$Row;I)I"⟩, 2) := ⟨⟨by decide +kernel, by decide +kernel⟩, List.mem_of_getElem? (i := 106) (by decide +kernel), List.mem_of_getElem? (i := 761) (by decide +kernel), List.mem_of_getElem? (i := 762) (by decide +kernel)⟩
theorem lw_p28 : lw_okq (⟨"CoatBetween", "tellFraction", "(JJ)V"⟩, 18) := ⟨⟨by decide +kernel, by decide +kernel⟩, List.mem_of_getElem? (i := 17) (by decide +kernel), List.mem_of_getElem? (i := 811) (by decide +kernel), List.mem_of_getElem? (i := 812) (by decide +kernel)⟩
theorem lw_p29 : lw_okq (⟨"CoatBetween", "mixHouses", "(J)J"⟩, 18) := ⟨⟨by decide +kernel, by decide +kernel⟩, List.mem_of_getElem? (i := 17) (by decide +kernel), List.mem_of_getElem? (i := 869) (by decide +kernel), List.mem_of_getElem? (i := 870) (by decide +kernel)⟩
theorem lw_p30 : lw_okq (⟨"CoatBetween", "mixNeeds", "(J)J"⟩, 18) := ⟨⟨by decide +kernel, by decide +kernel⟩, List.mem_of_getElem? (i := 17) (by decide +kernel), List.mem_of_getElem? (i := 884) (by decide +kernel), List.mem_of_getElem? (i := 885) (by decide +kernel)⟩
theorem lw_p31 : lw_okq (⟨"CoatBetween$Pairs", "has", "(I)Z"⟩, 3) := ⟨⟨by decide +kernel, by decide +kernel⟩, List.mem_of_getElem? (i := 242) (by decide +kernel), List.mem_of_getElem? (i := 899) (by decide +kernel), List.mem_of_getElem? (i := 900) (by decide +kernel)⟩
def lw_privs_2 : List (MethodName × Nat) := [(⟨"CoatBetween$Chooser", "nextByRule", "()I"⟩, 4), (⟨"CoatBetween$Chooser", "isAhead", "(II)Z"⟩, 4), (⟨"CoatBetween$Chooser", "rankOf", "(II)I"⟩, 4), (⟨"CoatBetween$Planner", "mendOnce", "(II)V"⟩, 4), (⟨"CoatBetween", "textOf", "(I)LCoatBetween$Row;"⟩, 18), (⟨"CoatBetween$Reader", "readHouse", "(LCoatBetween$Row;LCoatBetween$Lane;)V"⟩, 2), (⟨"CoatBetween$Reader", "stop", "()V"⟩, 2), (⟨"CoatBetween$Reader", "readNumber", "(LCoatBetween$Row;I)I"⟩, 2), (⟨"CoatBetween$Reader", "figureHere", "(LCoatBetween$Row;)I"⟩, 2), (⟨"CoatBetween$Reader", "readNeed", "(LCoatBetween$Row;LCoatBetween$Lane;)V"⟩, 2), (⟨"CoatBetween$Reader", "readSign", "(LCoatBetween$Row;C)Z"⟩, 2), (⟨"CoatBetween$Reader", "readFigure", "(LCoatBetween$Row;I)I"⟩, 2), (⟨"CoatBetween", "tellFraction", "(JJ)V"⟩, 18), (⟨"CoatBetween", "mixHouses", "(J)J"⟩, 18), (⟨"CoatBetween", "mixNeeds", "(J)J"⟩, 18), (⟨"CoatBetween$Pairs", "has", "(I)Z"⟩, 3)]
theorem lw_r2 : ∀ q ∈ lw_privs_2, lw_okq q := List.forall_mem_cons.mpr ⟨lw_p16, List.forall_mem_cons.mpr ⟨lw_p17, List.forall_mem_cons.mpr ⟨lw_p18, List.forall_mem_cons.mpr ⟨lw_p19, List.forall_mem_cons.mpr ⟨lw_p20, List.forall_mem_cons.mpr ⟨lw_p21, List.forall_mem_cons.mpr ⟨lw_p22, List.forall_mem_cons.mpr ⟨lw_p23, List.forall_mem_cons.mpr ⟨lw_p24, List.forall_mem_cons.mpr ⟨lw_p25, List.forall_mem_cons.mpr ⟨lw_p26, List.forall_mem_cons.mpr ⟨lw_p27, List.forall_mem_cons.mpr ⟨lw_p28, List.forall_mem_cons.mpr ⟨lw_p29, List.forall_mem_cons.mpr ⟨lw_p30, List.forall_mem_cons.mpr ⟨lw_p31, fun _ h => absurd h List.not_mem_nil⟩⟩⟩⟩⟩⟩⟩⟩⟩⟩⟩⟩⟩⟩⟩⟩
theorem lw_p32 : lw_okq (⟨"CoatBetween$Ledger", "settle", "(IIII)V"⟩, 7) := ⟨⟨by decide +kernel, by decide +kernel⟩, List.mem_of_getElem? (i := 213) (by decide +kernel), List.mem_of_getElem? (i := 928) (by decide +kernel), List.mem_of_getElem? (i := 929) (by decide +kernel)⟩
theorem lw_p33 : lw_okq (⟨"CoatBetween$Ledger", "move", "(III)V"⟩, 7) := ⟨⟨by decide +kernel, by decide +kernel⟩, List.mem_of_getElem? (i := 213) (by decide +kernel), List.mem_of_getElem? (i := 936) (by decide +kernel), List.mem_of_getElem? (i := 937) (by decide +kernel)⟩
theorem lw_p34 : lw_okq (⟨"CoatBetween", "agreesWithTracks", "(III)Z"⟩, 18) := ⟨⟨by decide +kernel, by decide +kernel⟩, List.mem_of_getElem? (i := 17) (by decide +kernel), List.mem_of_getElem? (i := 1003) (by decide +kernel), List.mem_of_getElem? (i := 1004) (by decide +kernel)⟩
theorem lw_p35 : lw_okq (⟨"CoatBetween", "canGo", "(IIII)Z"⟩, 18) := ⟨⟨by decide +kernel, by decide +kernel⟩, List.mem_of_getElem? (i := 17) (by decide +kernel), List.mem_of_getElem? (i := 1007) (by decide +kernel), List.mem_of_getElem? (i := 1008) (by decide +kernel)⟩
def lw_privs_3 : List (MethodName × Nat) := [(⟨"CoatBetween$Ledger", "settle", "(IIII)V"⟩, 7), (⟨"CoatBetween$Ledger", "move", "(III)V"⟩, 7), (⟨"CoatBetween", "agreesWithTracks", "(III)Z"⟩, 18), (⟨"CoatBetween", "canGo", "(IIII)Z"⟩, 18)]
theorem lw_r3 : ∀ q ∈ lw_privs_3, lw_okq q := List.forall_mem_cons.mpr ⟨lw_p32, List.forall_mem_cons.mpr ⟨lw_p33, List.forall_mem_cons.mpr ⟨lw_p34, List.forall_mem_cons.mpr ⟨lw_p35, fun _ h => absurd h List.not_mem_nil⟩⟩⟩⟩
def lw_privs : List (MethodName × Nat) := lw_privs_1 ++ (lw_privs_2 ++ (lw_privs_3))
def lw_tbl : List Cond := k2_sels lw_privs ++ tables_1
theorem lw_privs_ok : ∀ q ∈ lw_privs, lw_okq q := by
  show ∀ q ∈ lw_privs_1 ++ (lw_privs_2 ++ (lw_privs_3)), lw_okq q
  exact List.forall_mem_append.mpr ⟨lw_r1, List.forall_mem_append.mpr ⟨lw_r2, lw_r3⟩⟩
def RX0 : String := "CoatBetween$Chooser"
def TX0 : u_T := fun k => match k with
  | 0 => ("CoatBetween$Chooser", "lane", "LCoatBetween$Lane;", true)
  | 1 => ("CoatBetween$Chooser", "way", "LCoatBetween$Way;", true)
  | 2 => ("CoatBetween$Chooser", "letters", "[I", true)
  | _ => ("CoatBetween$Chooser", "size", "I", false)
def tyX0 : Nat → FieldType := fun k => match k with
  | 0 => .object "CoatBetween$Lane"
  | 1 => .object "CoatBetween$Way"
  | 2 => .array .int
  | _ => .int
theorem nmX0 : ∀ a, a < 4 → ∀ b, b < 4 → a ≠ b → (TX0 a).2.1 ≠ (TX0 b).2.1 := by decide +kernel
theorem tyX0_ok : ∀ k, k < 4 → parseFieldDescriptor (TX0 k).2.2.1 = some (tyX0 k) := by decide +kernel
abbrev cX0_init : ByteArray := prog_2_method_1_code
def yX0_init : MethodName := ⟨RX0, "<init>", "(LCoatBetween$Lane;LCoatBetween$Way;)V"⟩
abbrev cX0_takeNumber : ByteArray := prog_2_method_3_code
def yX0_takeNumber : MethodName := ⟨RX0, "takeNumber", "(I)Z"⟩
abbrev cX0_addLetter : ByteArray := prog_2_method_4_code
def yX0_addLetter : MethodName := ⟨RX0, "addLetter", "(I)V"⟩
abbrev cX0_go : ByteArray := prog_2_method_6_code
def yX0_go : MethodName := ⟨RX0, "go", "()V"⟩
abbrev cX0_nextByRule : ByteArray := prog_2_method_7_code
def yX0_nextByRule : MethodName := ⟨RX0, "nextByRule", "()I"⟩
abbrev cX0_isAhead : ByteArray := prog_2_method_8_code
def yX0_isAhead : MethodName := ⟨RX0, "isAhead", "(II)Z"⟩
abbrev cX0_rankOf : ByteArray := prog_2_method_9_code
def yX0_rankOf : MethodName := ⟨RX0, "rankOf", "(II)I"⟩
def RX1 : String := "CoatBetween$Jobs"
def TX1 : u_T := fun k => match k with
  | 0 => ("CoatBetween$Jobs", "places", "[I", true)
  | 1 => ("CoatBetween$Jobs", "froms", "[I", true)
  | 2 => ("CoatBetween$Jobs", "latests", "[I", true)
  | 3 => ("CoatBetween$Jobs", "lengths", "[I", true)
  | 4 => ("CoatBetween$Jobs", "worths", "[I", true)
  | _ => ("CoatBetween$Jobs", "size", "I", false)
def tyX1 : Nat → FieldType := fun k => match k with
  | 0 => .array .int
  | 1 => .array .int
  | 2 => .array .int
  | 3 => .array .int
  | 4 => .array .int
  | _ => .int
theorem nmX1 : ∀ a, a < 6 → ∀ b, b < 6 → a ≠ b → (TX1 a).2.1 ≠ (TX1 b).2.1 := by decide +kernel
theorem tyX1_ok : ∀ k, k < 6 → parseFieldDescriptor (TX1 k).2.2.1 = some (tyX1 k) := by decide +kernel
abbrev cX1_init : ByteArray := prog_3_method_1_code
def yX1_init : MethodName := ⟨RX1, "<init>", "()V"⟩
abbrev cX1_load : ByteArray := prog_3_method_2_code
def yX1_load : MethodName := ⟨RX1, "load", "(LCoatBetween$Lane;)V"⟩
abbrev cX1_placeOf : ByteArray := prog_3_method_4_code
def yX1_placeOf : MethodName := ⟨RX1, "placeOf", "(I)I"⟩
abbrev cX1_lengthOf : ByteArray := prog_3_method_5_code
def yX1_lengthOf : MethodName := ⟨RX1, "lengthOf", "(I)I"⟩
abbrev cX1_worthOf : ByteArray := prog_3_method_6_code
def yX1_worthOf : MethodName := ⟨RX1, "worthOf", "(I)I"⟩
abbrev cX1_ending : ByteArray := prog_3_method_7_code
def yX1_ending : MethodName := ⟨RX1, "ending", "(III)I"⟩
def RX2 : String := "CoatBetween$Lane"
def TX2 : u_T := fun k => match k with
  | 0 => ("CoatBetween$Lane", "places", "[I", true)
  | 1 => ("CoatBetween$Lane", "list", "[LCoatBetween$Need;", true)
  | 2 => ("CoatBetween$Lane", "nobodys", "LCoatBetween$Need;", true)
  | 3 => ("CoatBetween$Lane", "houses", "I", false)
  | 4 => ("CoatBetween$Lane", "needs", "I", false)
  | _ => ("CoatBetween$Lane", "startHouse", "I", false)
def tyX2 : Nat → FieldType := fun k => match k with
  | 0 => .array .int
  | 1 => .array (.object "CoatBetween$Need")
  | 2 => .object "CoatBetween$Need"
  | 3 => .int
  | 4 => .int
  | _ => .int
theorem nmX2 : ∀ a, a < 6 → ∀ b, b < 6 → a ≠ b → (TX2 a).2.1 ≠ (TX2 b).2.1 := by decide +kernel
theorem tyX2_ok : ∀ k, k < 6 → parseFieldDescriptor (TX2 k).2.2.1 = some (tyX2 k) := by decide +kernel
abbrev cX2_init : ByteArray := prog_4_method_1_code
def yX2_init : MethodName := ⟨RX2, "<init>", "()V"⟩
abbrev cX2_clear : ByteArray := prog_4_method_2_code
def yX2_clear : MethodName := ⟨RX2, "clear", "()V"⟩
abbrev cX2_addHouse : ByteArray := prog_4_method_3_code
def yX2_addHouse : MethodName := ⟨RX2, "addHouse", "(I)V"⟩
abbrev cX2_addNeed : ByteArray := prog_4_method_4_code
def yX2_addNeed : MethodName := ⟨RX2, "addNeed", "()LCoatBetween$Need;"⟩
abbrev cX2_isHouse : ByteArray := prog_4_method_5_code
def yX2_isHouse : MethodName := ⟨RX2, "isHouse", "(I)Z"⟩
abbrev cX2_isNeed : ByteArray := prog_4_method_6_code
def yX2_isNeed : MethodName := ⟨RX2, "isNeed", "(I)Z"⟩
abbrev cX2_isSet : ByteArray := prog_4_method_7_code
def yX2_isSet : MethodName := ⟨RX2, "isSet", "(I)Z"⟩
abbrev cX2_placeOf : ByteArray := prog_4_method_8_code
def yX2_placeOf : MethodName := ⟨RX2, "placeOf", "(I)I"⟩
abbrev cX2_startPlace : ByteArray := prog_4_method_9_code
def yX2_startPlace : MethodName := ⟨RX2, "startPlace", "()I"⟩
abbrev cX2_carryBetween : ByteArray := prog_4_method_10_code
def yX2_carryBetween : MethodName := ⟨RX2, "carryBetween", "(II)I"⟩
abbrev cX2_needOf : ByteArray := prog_4_method_11_code
def yX2_needOf : MethodName := ⟨RX2, "needOf", "(I)LCoatBetween$Need;"⟩
abbrev cX2_allNeeds : ByteArray := prog_4_method_12_code
def yX2_allNeeds : MethodName := ⟨RX2, "allNeeds", "()I"⟩
abbrev cX2_mustBits : ByteArray := prog_4_method_13_code
def yX2_mustBits : MethodName := ⟨RX2, "mustBits", "()I"⟩
abbrev cX2_lotBits : ByteArray := prog_4_method_14_code
def yX2_lotBits : MethodName := ⟨RX2, "lotBits", "()I"⟩
abbrev cX2_bitsOf : ByteArray := prog_4_method_15_code
def yX2_bitsOf : MethodName := ⟨RX2, "bitsOf", "(I)I"⟩
abbrev cX2_waysToCall : ByteArray := prog_4_method_16_code
def yX2_waysToCall : MethodName := ⟨RX2, "waysToCall", "(I)J"⟩
abbrev cX2_waysInAll : ByteArray := prog_4_method_17_code
def yX2_waysInAll : MethodName := ⟨RX2, "waysInAll", "()J"⟩
abbrev cX2_lotsCalledBy : ByteArray := prog_4_method_18_code
def yX2_lotsCalledBy : MethodName := ⟨RX2, "lotsCalledBy", "(I)I"⟩
def RX3 : String := "CoatBetween$Ledger"
def TX3 : u_T := fun k => match k with
  | 0 => ("CoatBetween$Ledger", "hours", "[I", true)
  | 1 => ("CoatBetween$Ledger", "owed", "[I", true)
  | 2 => ("CoatBetween$Ledger", "kinds", "[I", true)
  | 3 => ("CoatBetween$Ledger", "doers", "[I", true)
  | 4 => ("CoatBetween$Ledger", "others", "[I", true)
  | 5 => ("CoatBetween$Ledger", "amounts", "[I", true)
  | _ => ("CoatBetween$Ledger", "deals", "I", false)
def tyX3 : Nat → FieldType := fun k => match k with
  | 0 => .array .int
  | 1 => .array .int
  | 2 => .array .int
  | 3 => .array .int
  | 4 => .array .int
  | 5 => .array .int
  | _ => .int
theorem nmX3 : ∀ a, a < 7 → ∀ b, b < 7 → a ≠ b → (TX3 a).2.1 ≠ (TX3 b).2.1 := by decide +kernel
theorem tyX3_ok : ∀ k, k < 7 → parseFieldDescriptor (TX3 k).2.2.1 = some (tyX3 k) := by decide +kernel
abbrev cX3_init : ByteArray := prog_5_method_1_code
def yX3_init : MethodName := ⟨RX3, "<init>", "()V"⟩
abbrev cX3_clear : ByteArray := prog_5_method_2_code
def yX3_clear : MethodName := ⟨RX3, "clear", "()V"⟩
abbrev cX3_isOne : ByteArray := prog_5_method_3_code
def yX3_isOne : MethodName := ⟨RX3, "isOne", "(I)Z"⟩
abbrev cX3_hoursOf : ByteArray := prog_5_method_4_code
def yX3_hoursOf : MethodName := ⟨RX3, "hoursOf", "(I)I"⟩
abbrev cX3_setHours : ByteArray := prog_5_method_5_code
def yX3_setHours : MethodName := ⟨RX3, "setHours", "(II)V"⟩
abbrev cX3_owedBy : ByteArray := prog_5_method_6_code
def yX3_owedBy : MethodName := ⟨RX3, "owedBy", "(II)I"⟩
abbrev cX3_setOwed : ByteArray := prog_5_method_7_code
def yX3_setOwed : MethodName := ⟨RX3, "setOwed", "(III)V"⟩
abbrev cX3_owedInAllTo : ByteArray := prog_5_method_8_code
def yX3_owedInAllTo : MethodName := ⟨RX3, "owedInAllTo", "(I)I"⟩
abbrev cX3_isFull : ByteArray := prog_5_method_9_code
def yX3_isFull : MethodName := ⟨RX3, "isFull", "()Z"⟩
abbrev cX3_allows : ByteArray := prog_5_method_10_code
def yX3_allows : MethodName := ⟨RX3, "allows", "(IIII)Z"⟩
abbrev cX3_enter : ByteArray := prog_5_method_11_code
def yX3_enter : MethodName := ⟨RX3, "enter", "(IIII)I"⟩
abbrev cX3_undoFrom : ByteArray := prog_5_method_12_code
def yX3_undoFrom : MethodName := ⟨RX3, "undoFrom", "(I)I"⟩
abbrev cX3_settle : ByteArray := prog_5_method_13_code
def yX3_settle : MethodName := ⟨RX3, "settle", "(IIII)V"⟩
abbrev cX3_move : ByteArray := prog_5_method_14_code
def yX3_move : MethodName := ⟨RX3, "move", "(III)V"⟩
def RX4 : String := "CoatBetween$Need"
def TX4 : u_T := fun k => match k with
  | 0 => ("CoatBetween$Need", "kind", "I", false)
  | 1 => ("CoatBetween$Need", "house", "I", false)
  | 2 => ("CoatBetween$Need", "from", "I", false)
  | 3 => ("CoatBetween$Need", "to", "I", false)
  | 4 => ("CoatBetween$Need", "length", "I", false)
  | 5 => ("CoatBetween$Need", "worth", "I", false)
  | _ => ("CoatBetween$Need", "chance", "I", false)
def tyX4 : Nat → FieldType := fun k => match k with
  | 0 => .int
  | 1 => .int
  | 2 => .int
  | 3 => .int
  | 4 => .int
  | 5 => .int
  | _ => .int
theorem nmX4 : ∀ a, a < 7 → ∀ b, b < 7 → a ≠ b → (TX4 a).2.1 ≠ (TX4 b).2.1 := by decide +kernel
theorem tyX4_ok : ∀ k, k < 7 → parseFieldDescriptor (TX4 k).2.2.1 = some (tyX4 k) := by decide +kernel
abbrev cX4_init : ByteArray := prog_6_method_1_code
def yX4_init : MethodName := ⟨RX4, "<init>", "()V"⟩
abbrev cX4_isA : ByteArray := prog_6_method_2_code
def yX4_isA : MethodName := ⟨RX4, "isA", "(I)Z"⟩
abbrev cX4_latestBeginning : ByteArray := prog_6_method_4_code
def yX4_latestBeginning : MethodName := ⟨RX4, "latestBeginning", "()I"⟩
abbrev cX4_tell : ByteArray := prog_6_method_5_code
def yX4_tell : MethodName := ⟨RX4, "tell", "(I)I"⟩
def RX5 : String := "CoatBetween$Pairs"
def TX5 : u_T := fun k => match k with
  | 0 => ("CoatBetween$Pairs", "houses", "[I", true)
  | 1 => ("CoatBetween$Pairs", "values", "[I", true)
  | _ => ("CoatBetween$Pairs", "size", "I", false)
def tyX5 : Nat → FieldType := fun k => match k with
  | 0 => .array .int
  | 1 => .array .int
  | _ => .int
theorem nmX5 : ∀ a, a < 3 → ∀ b, b < 3 → a ≠ b → (TX5 a).2.1 ≠ (TX5 b).2.1 := by decide +kernel
theorem tyX5_ok : ∀ k, k < 3 → parseFieldDescriptor (TX5 k).2.2.1 = some (tyX5 k) := by decide +kernel
abbrev cX5_init : ByteArray := prog_7_method_1_code
def yX5_init : MethodName := ⟨RX5, "<init>", "(I)V"⟩
abbrev cX5_isFull : ByteArray := prog_7_method_2_code
def yX5_isFull : MethodName := ⟨RX5, "isFull", "()Z"⟩
abbrev cX5_has : ByteArray := prog_7_method_3_code
def yX5_has : MethodName := ⟨RX5, "has", "(I)Z"⟩
abbrev cX5_houseOf : ByteArray := prog_7_method_4_code
def yX5_houseOf : MethodName := ⟨RX5, "houseOf", "(I)I"⟩
abbrev cX5_valueOf : ByteArray := prog_7_method_5_code
def yX5_valueOf : MethodName := ⟨RX5, "valueOf", "(I)I"⟩
abbrev cX5_add : ByteArray := prog_7_method_6_code
def yX5_add : MethodName := ⟨RX5, "add", "(II)V"⟩
abbrev cX5_cutTo : ByteArray := prog_7_method_7_code
def yX5_cutTo : MethodName := ⟨RX5, "cutTo", "(I)V"⟩
abbrev cX5_lastOf : ByteArray := prog_7_method_8_code
def yX5_lastOf : MethodName := ⟨RX5, "lastOf", "(I)I"⟩
abbrev cX5_hasValue : ByteArray := prog_7_method_9_code
def yX5_hasValue : MethodName := ⟨RX5, "hasValue", "(I)Z"⟩
abbrev cX5_takeOut : ByteArray := prog_7_method_10_code
def yX5_takeOut : MethodName := ⟨RX5, "takeOut", "(I)V"⟩
def RX6 : String := "CoatBetween$Planner"
def TX6 : u_T := fun k => match k with
  | 0 => ("CoatBetween$Planner", "jobs", "LCoatBetween$Jobs;", true)
  | 1 => ("CoatBetween$Planner", "ends", "[I", true)
  | 2 => ("CoatBetween$Planner", "least", "[I", true)
  | _ => ("CoatBetween$Planner", "aside", "[I", true)
def tyX6 : Nat → FieldType := fun k => match k with
  | 0 => .object "CoatBetween$Jobs"
  | 1 => .array .int
  | 2 => .array .int
  | _ => .array .int
theorem nmX6 : ∀ a, a < 4 → ∀ b, b < 4 → a ≠ b → (TX6 a).2.1 ≠ (TX6 b).2.1 := by decide +kernel
theorem tyX6_ok : ∀ k, k < 4 → parseFieldDescriptor (TX6 k).2.2.1 = some (tyX6 k) := by decide +kernel
abbrev cX6_init : ByteArray := prog_8_method_1_code
def yX6_init : MethodName := ⟨RX6, "<init>", "(LCoatBetween$Jobs;)V"⟩
abbrev cX6_endOf : ByteArray := prog_8_method_2_code
def yX6_endOf : MethodName := ⟨RX6, "endOf", "(I)I"⟩
abbrev cX6_reach : ByteArray := prog_8_method_3_code
def yX6_reach : MethodName := ⟨RX6, "reach", "(III)V"⟩
abbrev cX6_spread : ByteArray := prog_8_method_4_code
def yX6_spread : MethodName := ⟨RX6, "spread", "(II)V"⟩
abbrev cX6_leastEnding : ByteArray := prog_8_method_5_code
def yX6_leastEnding : MethodName := ⟨RX6, "leastEnding", "(III)I"⟩
abbrev cX6_lesserEnd : ByteArray := prog_8_method_6_code
def yX6_lesserEnd : MethodName := ⟨RX6, "lesserEnd", "(II)I"⟩
abbrev cX6_bestPlan : ByteArray := prog_8_method_7_code
def yX6_bestPlan : MethodName := ⟨RX6, "bestPlan", "(II)I"⟩
abbrev cX6_setAside : ByteArray := prog_8_method_8_code
def yX6_setAside : MethodName := ⟨RX6, "setAside", "()V"⟩
abbrev cX6_mostByTwo : ByteArray := prog_8_method_9_code
def yX6_mostByTwo : MethodName := ⟨RX6, "mostByTwo", "(II)I"⟩
abbrev cX6_mostMendings : ByteArray := prog_8_method_10_code
def yX6_mostMendings : MethodName := ⟨RX6, "mostMendings", "(III)I"⟩
abbrev cX6_mendOnce : ByteArray := prog_8_method_11_code
def yX6_mendOnce : MethodName := ⟨RX6, "mendOnce", "(II)V"⟩
def RX7 : String := "CoatBetween$Reader"
def TX7 : u_T := fun k => match k with
  | 0 => ("CoatBetween$Reader", "place", "I", false)
  | _ => ("CoatBetween$Reader", "faultPlace", "I", false)
def tyX7 : Nat → FieldType := fun k => match k with
  | 0 => .int
  | _ => .int
theorem nmX7 : ∀ a, a < 2 → ∀ b, b < 2 → a ≠ b → (TX7 a).2.1 ≠ (TX7 b).2.1 := by decide +kernel
theorem tyX7_ok : ∀ k, k < 2 → parseFieldDescriptor (TX7 k).2.2.1 = some (tyX7 k) := by decide +kernel
abbrev cX7_init : ByteArray := prog_9_method_1_code
def yX7_init : MethodName := ⟨RX7, "<init>", "()V"⟩
abbrev cX7_read : ByteArray := prog_9_method_2_code
def yX7_read : MethodName := ⟨RX7, "read", "(LCoatBetween$Row;LCoatBetween$Lane;)I"⟩
abbrev cX7_readHouse : ByteArray := prog_9_method_3_code
def yX7_readHouse : MethodName := ⟨RX7, "readHouse", "(LCoatBetween$Row;LCoatBetween$Lane;)V"⟩
abbrev cX7_readNeed : ByteArray := prog_9_method_4_code
def yX7_readNeed : MethodName := ⟨RX7, "readNeed", "(LCoatBetween$Row;LCoatBetween$Lane;)V"⟩
abbrev cX7_stop : ByteArray := prog_9_method_5_code
def yX7_stop : MethodName := ⟨RX7, "stop", "()V"⟩
abbrev cX7_kindOf : ByteArray := prog_9_method_6_code
def yX7_kindOf : MethodName := ⟨RX7, "kindOf", "(I)I"⟩
abbrev cX7_readSign : ByteArray := prog_9_method_7_code
def yX7_readSign : MethodName := ⟨RX7, "readSign", "(LCoatBetween$Row;C)Z"⟩
abbrev cX7_figureHere : ByteArray := prog_9_method_8_code
def yX7_figureHere : MethodName := ⟨RX7, "figureHere", "(LCoatBetween$Row;)I"⟩
abbrev cX7_readNumber : ByteArray := prog_9_method_9_code
def yX7_readNumber : MethodName := ⟨RX7, "readNumber", "(LCoatBetween$Row;I)I"⟩
abbrev cX7_readFigure : ByteArray := prog_9_method_10_code
def yX7_readFigure : MethodName := ⟨RX7, "readFigure", "(LCoatBetween$Row;I)I"⟩
def RX8 : String := "CoatBetween$Row"
def TX8 : u_T := fun k => match k with
  | 0 => ("CoatBetween$Row", "cells", "[I", true)
  | _ => ("CoatBetween$Row", "size", "I", false)
def tyX8 : Nat → FieldType := fun k => match k with
  | 0 => .array .int
  | _ => .int
theorem nmX8 : ∀ a, a < 2 → ∀ b, b < 2 → a ≠ b → (TX8 a).2.1 ≠ (TX8 b).2.1 := by decide +kernel
theorem tyX8_ok : ∀ k, k < 2 → parseFieldDescriptor (TX8 k).2.2.1 = some (tyX8 k) := by decide +kernel
abbrev cX8_init : ByteArray := prog_10_method_1_code
def yX8_init : MethodName := ⟨RX8, "<init>", "(I)V"⟩
abbrev cX8_isMissing : ByteArray := prog_10_method_2_code
def yX8_isMissing : MethodName := ⟨RX8, "isMissing", "()Z"⟩
abbrev cX8_length : ByteArray := prog_10_method_3_code
def yX8_length : MethodName := ⟨RX8, "length", "()I"⟩
abbrev cX8_has : ByteArray := prog_10_method_4_code
def yX8_has : MethodName := ⟨RX8, "has", "(I)Z"⟩
abbrev cX8_cell : ByteArray := prog_10_method_6_code
def yX8_cell : MethodName := ⟨RX8, "cell", "(I)I"⟩
abbrev cX8_set : ByteArray := prog_10_method_7_code
def yX8_set : MethodName := ⟨RX8, "set", "(II)V"⟩
abbrev cX8_make : ByteArray := prog_10_method_8_code
def yX8_make : MethodName := ⟨RX8, "make", "(II)V"⟩
def RX9 : String := "CoatBetween$Tally"
def TX9 : u_T := fun k => match k with
  | 0 => ("CoatBetween$Tally", "jobs", "LCoatBetween$Jobs;", true)
  | _ => ("CoatBetween$Tally", "numbers", "[I", true)
def tyX9 : Nat → FieldType := fun k => match k with
  | 0 => .object "CoatBetween$Jobs"
  | _ => .array .int
theorem nmX9 : ∀ a, a < 2 → ∀ b, b < 2 → a ≠ b → (TX9 a).2.1 ≠ (TX9 b).2.1 := by decide +kernel
theorem tyX9_ok : ∀ k, k < 2 → parseFieldDescriptor (TX9 k).2.2.1 = some (tyX9 k) := by decide +kernel
abbrev cX9_init : ByteArray := prog_11_method_1_code
def yX9_init : MethodName := ⟨RX9, "<init>", "(LCoatBetween$Jobs;)V"⟩
abbrev cX9_numberOfOrders : ByteArray := prog_11_method_2_code
def yX9_numberOfOrders : MethodName := ⟨RX9, "numberOfOrders", "(II)I"⟩
abbrev cX9_numberTo : ByteArray := prog_11_method_3_code
def yX9_numberTo : MethodName := ⟨RX9, "numberTo", "(III)V"⟩
abbrev cX9_sumOf : ByteArray := prog_11_method_4_code
def yX9_sumOf : MethodName := ⟨RX9, "sumOf", "(II)I"⟩
abbrev cX9_isThere : ByteArray := prog_11_method_5_code
def yX9_isThere : MethodName := ⟨RX9, "isThere", "(III)Z"⟩
abbrev cX9_numberOf : ByteArray := prog_11_method_6_code
def yX9_numberOf : MethodName := ⟨RX9, "numberOf", "(III)I"⟩
abbrev cX9_setNumber : ByteArray := prog_11_method_7_code
def yX9_setNumber : MethodName := ⟨RX9, "setNumber", "(IIII)V"⟩
def RX10 : String := "CoatBetween$Way"
def TX10 : u_T := fun k => match k with
  | 0 => ("CoatBetween$Way", "jobs", "LCoatBetween$Jobs;", true)
  | 1 => ("CoatBetween$Way", "needs", "[I", true)
  | 2 => ("CoatBetween$Way", "beginnings", "[I", true)
  | 3 => ("CoatBetween$Way", "size", "I", false)
  | 4 => ("CoatBetween$Way", "place", "I", false)
  | _ => ("CoatBetween$Way", "free", "I", false)
def tyX10 : Nat → FieldType := fun k => match k with
  | 0 => .object "CoatBetween$Jobs"
  | 1 => .array .int
  | 2 => .array .int
  | 3 => .int
  | 4 => .int
  | _ => .int
theorem nmX10 : ∀ a, a < 6 → ∀ b, b < 6 → a ≠ b → (TX10 a).2.1 ≠ (TX10 b).2.1 := by decide +kernel
theorem tyX10_ok : ∀ k, k < 6 → parseFieldDescriptor (TX10 k).2.2.1 = some (tyX10 k) := by decide +kernel
abbrev cX10_init : ByteArray := prog_12_method_1_code
def yX10_init : MethodName := ⟨RX10, "<init>", "(LCoatBetween$Jobs;)V"⟩
abbrev cX10_beginAt : ByteArray := prog_12_method_2_code
def yX10_beginAt : MethodName := ⟨RX10, "beginAt", "(I)V"⟩
abbrev cX10_meet : ByteArray := prog_12_method_3_code
def yX10_meet : MethodName := ⟨RX10, "meet", "(I)Z"⟩
abbrev cX10_has : ByteArray := prog_12_method_4_code
def yX10_has : MethodName := ⟨RX10, "has", "(I)Z"⟩
abbrev cX10_needOf : ByteArray := prog_12_method_5_code
def yX10_needOf : MethodName := ⟨RX10, "needOf", "(I)I"⟩
abbrev cX10_beginningOf : ByteArray := prog_12_method_6_code
def yX10_beginningOf : MethodName := ⟨RX10, "beginningOf", "(I)I"⟩
abbrev cX10_metBits : ByteArray := prog_12_method_7_code
def yX10_metBits : MethodName := ⟨RX10, "metBits", "()I"⟩
abbrev cX10_worth : ByteArray := prog_12_method_8_code
def yX10_worth : MethodName := ⟨RX10, "worth", "()I"⟩
abbrev cX10_watchesWorn : ByteArray := prog_12_method_9_code
def yX10_watchesWorn : MethodName := ⟨RX10, "watchesWorn", "()I"⟩
def RX11 : String := "CoatBetween"
def TX11 : u_T := fun k => match k with
  | 0 => ("CoatBetween", "rows", "[LCoatBetween$Row;", true)
  | 1 => ("CoatBetween", "texts", "[LCoatBetween$Row;", true)
  | 2 => ("CoatBetween", "lane", "LCoatBetween$Lane;", true)
  | 3 => ("CoatBetween", "draft", "LCoatBetween$Lane;", true)
  | 4 => ("CoatBetween", "reader", "LCoatBetween$Reader;", true)
  | 5 => ("CoatBetween", "jobs", "LCoatBetween$Jobs;", true)
  | 6 => ("CoatBetween", "way", "LCoatBetween$Way;", true)
  | 7 => ("CoatBetween", "planner", "LCoatBetween$Planner;", true)
  | 8 => ("CoatBetween", "chooser", "LCoatBetween$Chooser;", true)
  | 9 => ("CoatBetween", "ledger", "LCoatBetween$Ledger;", true)
  | 10 => ("CoatBetween", "things", "LCoatBetween$Pairs;", true)
  | 11 => ("CoatBetween", "tracks", "LCoatBetween$Pairs;", true)
  | 12 => ("CoatBetween", "findingCounts", "[I", true)
  | 13 => ("CoatBetween", "tally", "LCoatBetween$Tally;", false)
  | 14 => ("CoatBetween", "lastFinding", "I", false)
  | 15 => ("CoatBetween", "told", "I", false)
  | 16 => ("CoatBetween", "over", "J", false)
  | _ => ("CoatBetween", "under", "J", false)
def tyX11 : Nat → FieldType := fun k => match k with
  | 0 => .array (.object "CoatBetween$Row")
  | 1 => .array (.object "CoatBetween$Row")
  | 2 => .object "CoatBetween$Lane"
  | 3 => .object "CoatBetween$Lane"
  | 4 => .object "CoatBetween$Reader"
  | 5 => .object "CoatBetween$Jobs"
  | 6 => .object "CoatBetween$Way"
  | 7 => .object "CoatBetween$Planner"
  | 8 => .object "CoatBetween$Chooser"
  | 9 => .object "CoatBetween$Ledger"
  | 10 => .object "CoatBetween$Pairs"
  | 11 => .object "CoatBetween$Pairs"
  | 12 => .array .int
  | 13 => .object "CoatBetween$Tally"
  | 14 => .int
  | 15 => .int
  | 16 => .long
  | _ => .long
theorem nmX11 : ∀ a, a < 18 → ∀ b, b < 18 → a ≠ b → (TX11 a).2.1 ≠ (TX11 b).2.1 := by decide +kernel
theorem tyX11_ok : ∀ k, k < 18 → parseFieldDescriptor (TX11 k).2.2.1 = some (tyX11 k) := by decide +kernel
abbrev cX11_init : ByteArray := prog_1_method_1_code
def yX11_init : MethodName := ⟨RX11, "<init>", "()V"⟩
abbrev cX11_text : ByteArray := prog_1_method_8_code
def yX11_text : MethodName := ⟨RX11, "text", "(II)I"⟩
abbrev cX11_put : ByteArray := prog_1_method_9_code
def yX11_put : MethodName := ⟨RX11, "put", "(III)I"⟩
abbrev cX11_fault : ByteArray := prog_1_method_10_code
def yX11_fault : MethodName := ⟨RX11, "fault", "(I)I"⟩
abbrev cX11_village : ByteArray := prog_1_method_11_code
def yX11_village : MethodName := ⟨RX11, "village", "(I)I"⟩
abbrev cX11_house : ByteArray := prog_1_method_12_code
def yX11_house : MethodName := ⟨RX11, "house", "(I)I"⟩
abbrev cX11_chance : ByteArray := prog_1_method_17_code
def yX11_chance : MethodName := ⟨RX11, "chance", "(II)I"⟩
abbrev cX11_order : ByteArray := prog_1_method_18_code
def yX11_order : MethodName := ⟨RX11, "order", "(I)I"⟩
abbrev cX11_can : ByteArray := prog_1_method_20_code
def yX11_can : MethodName := ⟨RX11, "can", "(I)I"⟩
abbrev cX11_sets : ByteArray := prog_1_method_21_code
def yX11_sets : MethodName := ⟨RX11, "sets", "()I"⟩
abbrev cX11_best : ByteArray := prog_1_method_22_code
def yX11_best : MethodName := ⟨RX11, "best", "()I"⟩
abbrev cX11_first : ByteArray := prog_1_method_23_code
def yX11_first : MethodName := ⟨RX11, "first", "(II)I"⟩
abbrev cX11_orders : ByteArray := prog_1_method_24_code
def yX11_orders : MethodName := ⟨RX11, "orders", "(I)I"⟩
abbrev cX11_costs : ByteArray := prog_1_method_25_code
def yX11_costs : MethodName := ⟨RX11, "costs", "(I)I"⟩
abbrev cX11_worn : ByteArray := prog_1_method_26_code
def yX11_worn : MethodName := ⟨RX11, "worn", "(I)I"⟩
abbrev cX11_wise : ByteArray := prog_1_method_28_code
def yX11_wise : MethodName := ⟨RX11, "wise", "()I"⟩
abbrev cX11_second : ByteArray := prog_1_method_29_code
def yX11_second : MethodName := ⟨RX11, "second", "(I)I"⟩
abbrev cX11_mends : ByteArray := prog_1_method_31_code
def yX11_mends : MethodName := ⟨RX11, "mends", "(II)I"⟩
abbrev cX11_odds : ByteArray := prog_1_method_32_code
def yX11_odds : MethodName := ⟨RX11, "odds", "()I"⟩
abbrev cX11_call : ByteArray := prog_1_method_33_code
def yX11_call : MethodName := ⟨RX11, "call", "(I)I"⟩
abbrev cX11_deal : ByteArray := prog_1_method_35_code
def yX11_deal : MethodName := ⟨RX11, "deal", "(IIII)I"⟩
abbrev cX11_undo : ByteArray := prog_1_method_36_code
def yX11_undo : MethodName := ⟨RX11, "undo", "(I)I"⟩
abbrev cX11_owes : ByteArray := prog_1_method_37_code
def yX11_owes : MethodName := ⟨RX11, "owes", "(II)I"⟩
abbrev cX11_rich : ByteArray := prog_1_method_38_code
def yX11_rich : MethodName := ⟨RX11, "rich", "()I"⟩
abbrev cX11_pocket : ByteArray := prog_1_method_39_code
def yX11_pocket : MethodName := ⟨RX11, "pocket", "(II)I"⟩
abbrev cX11_find : ByteArray := prog_1_method_40_code
def yX11_find : MethodName := ⟨RX11, "find", "(I)I"⟩
abbrev cX11_track : ByteArray := prog_1_method_41_code
def yX11_track : MethodName := ⟨RX11, "track", "(II)I"⟩
abbrev cX11_forget : ByteArray := prog_1_method_42_code
def yX11_forget : MethodName := ⟨RX11, "forget", "(I)I"⟩
abbrev cX11_could : ByteArray := prog_1_method_43_code
def yX11_could : MethodName := ⟨RX11, "could", "(I)I"⟩
abbrev cX11_liar : ByteArray := prog_1_method_44_code
def yX11_liar : MethodName := ⟨RX11, "liar", "()I"⟩
abbrev cX11_asked : ByteArray := prog_1_method_47_code
def yX11_asked : MethodName := ⟨RX11, "asked", "()I"⟩
abbrev cX11_upper : ByteArray := prog_1_method_48_code
def yX11_upper : MethodName := ⟨RX11, "upper", "()J"⟩
abbrev cX11_lower : ByteArray := prog_1_method_49_code
def yX11_lower : MethodName := ⟨RX11, "lower", "()J"⟩
abbrev cX11_count : ByteArray := prog_1_method_50_code
def yX11_count : MethodName := ⟨RX11, "count", "(I)I"⟩
abbrev cX11_digest : ByteArray := prog_1_method_53_code
def yX11_digest : MethodName := ⟨RX11, "digest", "()J"⟩
abbrev cX11_rowOf : ByteArray := prog_1_method_54_code
def yX11_rowOf : MethodName := ⟨RX11, "rowOf", "(I)LCoatBetween$Row;"⟩
abbrev cX11_textOf : ByteArray := prog_1_method_55_code
def yX11_textOf : MethodName := ⟨RX11, "textOf", "(I)LCoatBetween$Row;"⟩
abbrev cX11_found : ByteArray := prog_1_method_56_code
def yX11_found : MethodName := ⟨RX11, "found", "(I)I"⟩
abbrev cX11_tellFraction : ByteArray := prog_1_method_57_code
def yX11_tellFraction : MethodName := ⟨RX11, "tellFraction", "(JJ)V"⟩
abbrev cX11_greatestDivisor : ByteArray := prog_1_method_58_code
def yX11_greatestDivisor : MethodName := ⟨RX11, "greatestDivisor", "(JJ)J"⟩
abbrev cX11_bit : ByteArray := prog_1_method_59_code
def yX11_bit : MethodName := ⟨RX11, "bit", "(I)I"⟩
abbrev cX11_isIn : ByteArray := prog_1_method_60_code
def yX11_isIn : MethodName := ⟨RX11, "isIn", "(II)Z"⟩
abbrev cX11_isWatch : ByteArray := prog_1_method_61_code
def yX11_isWatch : MethodName := ⟨RX11, "isWatch", "(I)Z"⟩
abbrev cX11_watchesApart : ByteArray := prog_1_method_62_code
def yX11_watchesApart : MethodName := ⟨RX11, "watchesApart", "(II)I"⟩
abbrev cX11_wrongInOrder : ByteArray := prog_1_method_63_code
def yX11_wrongInOrder : MethodName := ⟨RX11, "wrongInOrder", "(LCoatBetween$Row;)I"⟩
abbrev cX11_goAlong : ByteArray := prog_1_method_64_code
def yX11_goAlong : MethodName := ⟨RX11, "goAlong", "(LCoatBetween$Row;)V"⟩
abbrev cX11_goFirstOrder : ByteArray := prog_1_method_65_code
def yX11_goFirstOrder : MethodName := ⟨RX11, "goFirstOrder", "(I)Z"⟩
abbrev cX11_tellWay : ByteArray := prog_1_method_66_code
def yX11_tellWay : MethodName := ⟨RX11, "tellWay", "(LCoatBetween$Row;)V"⟩
abbrev cX11_reachFromStart : ByteArray := prog_1_method_67_code
def yX11_reachFromStart : MethodName := ⟨RX11, "reachFromStart", "(I)V"⟩
abbrev cX11_agreesWithTracks : ByteArray := prog_1_method_69_code
def yX11_agreesWithTracks : MethodName := ⟨RX11, "agreesWithTracks", "(III)Z"⟩
abbrev cX11_canGo : ByteArray := prog_1_method_70_code
def yX11_canGo : MethodName := ⟨RX11, "canGo", "(IIII)Z"⟩
abbrev cX11_numberThere : ByteArray := prog_1_method_71_code
def yX11_numberThere : MethodName := ⟨RX11, "numberThere", "([LCoatBetween$Row;)I"⟩
abbrev cX11_mix : ByteArray := prog_1_method_72_code
def yX11_mix : MethodName := ⟨RX11, "mix", "(JJ)J"⟩
abbrev cX11_mixHouses : ByteArray := prog_1_method_73_code
def yX11_mixHouses : MethodName := ⟨RX11, "mixHouses", "(J)J"⟩
abbrev cX11_mixNeeds : ByteArray := prog_1_method_74_code
def yX11_mixNeeds : MethodName := ⟨RX11, "mixNeeds", "(J)J"⟩
abbrev cX11_mixPairs : ByteArray := prog_1_method_75_code
def yX11_mixPairs : MethodName := ⟨RX11, "mixPairs", "(JLCoatBetween$Pairs;)J"⟩
abbrev cX11_mixRows : ByteArray := prog_1_method_76_code
def yX11_mixRows : MethodName := ⟨RX11, "mixRows", "(J[LCoatBetween$Row;)J"⟩
def RX12 : String := "CoatBetweenModel"
def TX12 : u_T := fun k => match k with
  | _ => ("", "", "", false)
def tyX12 : Nat → FieldType := fun k => match k with
  | _ => .int
theorem nmX12 : ∀ a, a < 0 → ∀ b, b < 0 → a ≠ b → (TX12 a).2.1 ≠ (TX12 b).2.1 := by decide +kernel
theorem tyX12_ok : ∀ k, k < 0 → parseFieldDescriptor (TX12 k).2.2.1 = some (tyX12 k) := by decide +kernel
def RL : String := "CoatBetweenLaw"
abbrev cL_cell : ByteArray := method_2_code
def yL_cell : MethodName := ⟨RL, "cell", "([II)I"⟩
abbrev cL_put : ByteArray := method_3_code
def yL_put : MethodName := ⟨RL, "put", "(LCoatBetween;II)I"⟩
abbrev cL_number : ByteArray := method_4_code
def yL_number : MethodName := ⟨RL, "number", "(LCoatBetween;II)I"⟩
abbrev cL_numbers : ByteArray := method_5_code
def yL_numbers : MethodName := ⟨RL, "numbers", "([IIII[I)V"⟩
abbrev cL_village : ByteArray := method_6_code
def yL_village : MethodName := ⟨RL, "village", "(LCoatBetween;[I)Z"⟩
abbrev cL_must : ByteArray := method_12_code
def yL_must : MethodName := ⟨RL, "must", "([II)Z"⟩
abbrev cL_worth : ByteArray := method_14_code
def yL_worth : MethodName := ⟨RL, "worth", "([II)I"⟩
abbrev cL_musts : ByteArray := method_16_code
def yL_musts : MethodName := ⟨RL, "musts", "([I)I"⟩
abbrev cL_law : ByteArray := code
def yL_law : MethodName := ⟨RL, "law", "([I)Z"⟩
abbrev cL_chances : ByteArray := method_20_code
def yL_chances : MethodName := ⟨RL, "chances", "(LCoatBetween;[I[II)Z"⟩
abbrev cL_hours : ByteArray := method_21_code
def yL_hours : MethodName := ⟨RL, "hours", "(LCoatBetween;[II)Z"⟩
abbrev cL_tracks : ByteArray := method_22_code
def yL_tracks : MethodName := ⟨RL, "tracks", "(LCoatBetween;[II)Z"⟩
abbrev vwCl : List vw_C := [(RX0, TX0, 4), (RX1, TX1, 6), (RX2, TX2, 6), (RX3, TX3, 7), (RX4, TX4, 7), (RX5, TX5, 3), (RX6, TX6, 4), (RX7, TX7, 2), (RX8, TX8, 2), (RX9, TX9, 2), (RX10, TX10, 6), (RX11, TX11, 18)]
/-- the words that all contracts share: those of the tables that stay -/
def gw : List Cond := lw_tbl.filter goodWord
theorem gwp {w : Cond} (h : w ∈ lw_tbl) (g : goodWord w = true) : w ∈ gw := List.mem_filter.mpr ⟨h, g⟩
theorem gw0 {w : Cond} (i : Nat) (h : (k2_sels lw_privs)[i]? = some w) (g : goodWord w = true) : w ∈ gw := gwp (List.mem_append_left _ (List.mem_of_getElem? h)) g
theorem gwt {w : Cond} (h : w ∈ tables_1) (g : goodWord w = true) : w ∈ gw := gwp (List.mem_append_right _ h) g
theorem gw1 {w : Cond} (i : Nat) (h : tables_1_1[i]? = some w) (g : goodWord w = true) : w ∈ gw := gwt (show w ∈ tables_1 from (List.mem_append_left _ (List.mem_of_getElem? h))) g
theorem gw2 {w : Cond} (i : Nat) (h : tables_1_2[i]? = some w) (g : goodWord w = true) : w ∈ gw := gwt (show w ∈ tables_1 from (List.mem_append_right _ (List.mem_append_left _ (List.mem_of_getElem? h)))) g
theorem gw3 {w : Cond} (i : Nat) (h : tables_1_3[i]? = some w) (g : goodWord w = true) : w ∈ gw := gwt (show w ∈ tables_1 from (List.mem_append_right _ (List.mem_append_right _ (List.mem_append_left _ (List.mem_of_getElem? h))))) g
theorem gw4 {w : Cond} (i : Nat) (h : tables_1_4[i]? = some w) (g : goodWord w = true) : w ∈ gw := gwt (show w ∈ tables_1 from (List.mem_append_right _ (List.mem_append_right _ (List.mem_append_right _ (List.mem_append_left _ (List.mem_of_getElem? h)))))) g
theorem gw5 {w : Cond} (i : Nat) (h : tables_1_5[i]? = some w) (g : goodWord w = true) : w ∈ gw := gwt (show w ∈ tables_1 from (List.mem_append_right _ (List.mem_append_right _ (List.mem_append_right _ (List.mem_append_right _ (List.mem_of_getElem? h)))))) g
theorem gw_all {l : List Cond} (h : l.all (fun w => decide (w ∈ lw_tbl) && goodWord w) = true) : ∀ w ∈ l, w ∈ gw := by
  intro w hw
  have h1 := List.all_eq_true.mp h w hw
  simp only [Bool.and_eq_true, decide_eq_true_eq] at h1
  exact gwp h1.1 h1.2
theorem iwX0 : ∀ w ∈ u_ws RX0 TX0 4, w ∈ gw := gw_all (by decide +kernel)
theorem iwX1 : ∀ w ∈ u_ws RX1 TX1 6, w ∈ gw := gw_all (by decide +kernel)
theorem iwX2 : ∀ w ∈ u_ws RX2 TX2 6, w ∈ gw := gw_all (by decide +kernel)
theorem iwX3 : ∀ w ∈ u_ws RX3 TX3 7, w ∈ gw := gw_all (by decide +kernel)
theorem iwX4 : ∀ w ∈ u_ws RX4 TX4 7, w ∈ gw := gw_all (by decide +kernel)
theorem iwX5 : ∀ w ∈ u_ws RX5 TX5 3, w ∈ gw := gw_all (by decide +kernel)
theorem iwX6 : ∀ w ∈ u_ws RX6 TX6 4, w ∈ gw := gw_all (by decide +kernel)
theorem iwX7 : ∀ w ∈ u_ws RX7 TX7 2, w ∈ gw := gw_all (by decide +kernel)
theorem iwX8 : ∀ w ∈ u_ws RX8 TX8 2, w ∈ gw := gw_all (by decide +kernel)
theorem iwX9 : ∀ w ∈ u_ws RX9 TX9 2, w ∈ gw := gw_all (by decide +kernel)
theorem iwX10 : ∀ w ∈ u_ws RX10 TX10 6, w ∈ gw := gw_all (by decide +kernel)
theorem iwX11 : ∀ w ∈ u_ws RX11 TX11 18, w ∈ gw := gw_all (by decide +kernel)
