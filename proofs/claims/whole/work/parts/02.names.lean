-- ===== PART A: goes FIRST, ahead of the names: the tables' words, and 'selects' of the private methods out of them =====
/-- a private method of a class that the tables say can be made, by its rows of tables_1 -/
def lw_okq (q : MethodName × Nat) : Prop := (q.1.cls ≠ "java/lang/invoke/MethodHandle" ∧ q.1.cls ≠ "java/lang/invoke/VarHandle") ∧ Cond.instantiable q.1.cls q.2 ∈ tables_1 ∧ Cond.privateMethod q.1 ∈ tables_1 ∧ Cond.instanceMethod q.1 ∈ tables_1
theorem lw_p0 : lw_okq (⟨"FactFinder", "drawAll", "()V"⟩, 5) := ⟨⟨by decide +kernel, by decide +kernel⟩, List.mem_of_getElem? (i := 11) (by decide +kernel), List.mem_of_getElem? (i := 158) (by decide +kernel), List.mem_of_getElem? (i := 159) (by decide +kernel)⟩
theorem lw_p1 : lw_okq (⟨"FactFinder$Figure", "find", "(IIIII)Z"⟩, 7) := ⟨⟨by decide +kernel, by decide +kernel⟩, List.mem_of_getElem? (i := 52) (by decide +kernel), List.mem_of_getElem? (i := 182) (by decide +kernel), List.mem_of_getElem? (i := 183) (by decide +kernel)⟩
theorem lw_p2 : lw_okq (⟨"FactFinder$Figure", "findFree", "()Z"⟩, 7) := ⟨⟨by decide +kernel, by decide +kernel⟩, List.mem_of_getElem? (i := 52) (by decide +kernel), List.mem_of_getElem? (i := 186) (by decide +kernel), List.mem_of_getElem? (i := 187) (by decide +kernel)⟩
theorem lw_p3 : lw_okq (⟨"FactFinder$Figure", "nextNumber", "()J"⟩, 7) := ⟨⟨by decide +kernel, by decide +kernel⟩, List.mem_of_getElem? (i := 52) (by decide +kernel), List.mem_of_getElem? (i := 190) (by decide +kernel), List.mem_of_getElem? (i := 191) (by decide +kernel)⟩
theorem lw_p4 : lw_okq (⟨"FactFinder$Figure", "found", "(JJ)Z"⟩, 7) := ⟨⟨by decide +kernel, by decide +kernel⟩, List.mem_of_getElem? (i := 52) (by decide +kernel), List.mem_of_getElem? (i := 197) (by decide +kernel), List.mem_of_getElem? (i := 198) (by decide +kernel)⟩
theorem lw_p5 : lw_okq (⟨"FactFinder$Figure", "findFoot", "(IIII)Z"⟩, 7) := ⟨⟨by decide +kernel, by decide +kernel⟩, List.mem_of_getElem? (i := 52) (by decide +kernel), List.mem_of_getElem? (i := 203) (by decide +kernel), List.mem_of_getElem? (i := 204) (by decide +kernel)⟩
theorem lw_p6 : lw_okq (⟨"FactFinder$Figure", "findAlong", "(IIJ)Z"⟩, 7) := ⟨⟨by decide +kernel, by decide +kernel⟩, List.mem_of_getElem? (i := 52) (by decide +kernel), List.mem_of_getElem? (i := 216) (by decide +kernel), List.mem_of_getElem? (i := 217) (by decide +kernel)⟩
theorem lw_p7 : lw_okq (⟨"FactFinder$Figure", "findMeet", "(IIII)Z"⟩, 7) := ⟨⟨by decide +kernel, by decide +kernel⟩, List.mem_of_getElem? (i := 52) (by decide +kernel), List.mem_of_getElem? (i := 220) (by decide +kernel), List.mem_of_getElem? (i := 221) (by decide +kernel)⟩
theorem lw_p8 : lw_okq (⟨"FactFinder$Figure", "cross", "(IIII)J"⟩, 7) := ⟨⟨by decide +kernel, by decide +kernel⟩, List.mem_of_getElem? (i := 52) (by decide +kernel), List.mem_of_getElem? (i := 224) (by decide +kernel), List.mem_of_getElem? (i := 225) (by decide +kernel)⟩
theorem lw_p9 : lw_okq (⟨"FactFinder$Figure", "findCentre", "(III)Z"⟩, 7) := ⟨⟨by decide +kernel, by decide +kernel⟩, List.mem_of_getElem? (i := 52) (by decide +kernel), List.mem_of_getElem? (i := 228) (by decide +kernel), List.mem_of_getElem? (i := 229) (by decide +kernel)⟩
theorem lw_p10 : lw_okq (⟨"FactFinder$Figure", "findOnCircle", "(IIJ)Z"⟩, 7) := ⟨⟨by decide +kernel, by decide +kernel⟩, List.mem_of_getElem? (i := 52) (by decide +kernel), List.mem_of_getElem? (i := 233) (by decide +kernel), List.mem_of_getElem? (i := 234) (by decide +kernel)⟩
theorem lw_p11 : lw_okq (⟨"FactFinder$Figure", "findTurnedOut", "(III)Z"⟩, 7) := ⟨⟨by decide +kernel, by decide +kernel⟩, List.mem_of_getElem? (i := 52) (by decide +kernel), List.mem_of_getElem? (i := 238) (by decide +kernel), List.mem_of_getElem? (i := 239) (by decide +kernel)⟩
theorem lw_p12 : lw_okq (⟨"FactFinder", "isThere", "(I)Z"⟩, 5) := ⟨⟨by decide +kernel, by decide +kernel⟩, List.mem_of_getElem? (i := 11) (by decide +kernel), List.mem_of_getElem? (i := 284) (by decide +kernel), List.mem_of_getElem? (i := 285) (by decide +kernel)⟩
theorem lw_p13 : lw_okq (⟨"FactFinder$Findings", "findLeads", "()V"⟩, 9) := ⟨⟨by decide +kernel, by decide +kernel⟩, List.mem_of_getElem? (i := 39) (by decide +kernel), List.mem_of_getElem? (i := 301) (by decide +kernel), List.mem_of_getElem? (i := 302) (by decide +kernel)⟩
theorem lw_p14 : lw_okq (⟨"FactFinder$Findings", "isNew", "(I)Z"⟩, 9) := ⟨⟨by decide +kernel, by decide +kernel⟩, List.mem_of_getElem? (i := 39) (by decide +kernel), List.mem_of_getElem? (i := 305) (by decide +kernel), List.mem_of_getElem? (i := 306) (by decide +kernel)⟩
theorem lw_p15 : lw_okq (⟨"FactFinder$Figure", "dot", "(IIII)J"⟩, 7) := ⟨⟨by decide +kernel, by decide +kernel⟩, List.mem_of_getElem? (i := 52) (by decide +kernel), List.mem_of_getElem? (i := 323) (by decide +kernel), List.mem_of_getElem? (i := 324) (by decide +kernel)⟩
def lw_privs_1 : List (MethodName × Nat) := [(⟨"FactFinder", "drawAll", "()V"⟩, 5), (⟨"FactFinder$Figure", "find", "(IIIII)Z"⟩, 7), (⟨"FactFinder$Figure", "findFree", "()Z"⟩, 7), (⟨"FactFinder$Figure", "nextNumber", "()J"⟩, 7), (⟨"FactFinder$Figure", "found", "(JJ)Z"⟩, 7), (⟨"FactFinder$Figure", "findFoot", "(IIII)Z"⟩, 7), (⟨"FactFinder$Figure", "findAlong", "(IIJ)Z"⟩, 7), (⟨"FactFinder$Figure", "findMeet", "(IIII)Z"⟩, 7), (⟨"FactFinder$Figure", "cross", "(IIII)J"⟩, 7), (⟨"FactFinder$Figure", "findCentre", "(III)Z"⟩, 7), (⟨"FactFinder$Figure", "findOnCircle", "(IIJ)Z"⟩, 7), (⟨"FactFinder$Figure", "findTurnedOut", "(III)Z"⟩, 7), (⟨"FactFinder", "isThere", "(I)Z"⟩, 5), (⟨"FactFinder$Findings", "findLeads", "()V"⟩, 9), (⟨"FactFinder$Findings", "isNew", "(I)Z"⟩, 9), (⟨"FactFinder$Figure", "dot", "(IIII)J"⟩, 7)]
theorem lw_r1 : ∀ q ∈ lw_privs_1, lw_okq q := List.forall_mem_cons.mpr ⟨lw_p0, List.forall_mem_cons.mpr ⟨lw_p1, List.forall_mem_cons.mpr ⟨lw_p2, List.forall_mem_cons.mpr ⟨lw_p3, List.forall_mem_cons.mpr ⟨lw_p4, List.forall_mem_cons.mpr ⟨lw_p5, List.forall_mem_cons.mpr ⟨lw_p6, List.forall_mem_cons.mpr ⟨lw_p7, List.forall_mem_cons.mpr ⟨lw_p8, List.forall_mem_cons.mpr ⟨lw_p9, List.forall_mem_cons.mpr ⟨lw_p10, List.forall_mem_cons.mpr ⟨lw_p11, List.forall_mem_cons.mpr ⟨lw_p12, List.forall_mem_cons.mpr ⟨lw_p13, List.forall_mem_cons.mpr ⟨lw_p14, List.forall_mem_cons.mpr ⟨lw_p15, fun _ h => absurd h List.not_mem_nil⟩⟩⟩⟩⟩⟩⟩⟩⟩⟩⟩⟩⟩⟩⟩⟩
theorem lw_p16 : lw_okq (⟨"FactFinder$Figure", "showsCircle", "(IIII)Z"⟩, 7) := ⟨⟨by decide +kernel, by decide +kernel⟩, List.mem_of_getElem? (i := 52) (by decide +kernel), List.mem_of_getElem? (i := 327) (by decide +kernel), List.mem_of_getElem? (i := 328) (by decide +kernel)⟩
theorem lw_p17 : lw_okq (⟨"FactFinder$Findings", "placesOf", "(I)I"⟩, 9) := ⟨⟨by decide +kernel, by decide +kernel⟩, List.mem_of_getElem? (i := 39) (by decide +kernel), List.mem_of_getElem? (i := 335) (by decide +kernel), List.mem_of_getElem? (i := 336) (by decide +kernel)⟩
theorem lw_p18 : lw_okq (⟨"FactFinder", "areThere", "(IIIIIII)Z"⟩, 5) := ⟨⟨by decide +kernel, by decide +kernel⟩, List.mem_of_getElem? (i := 11) (by decide +kernel), List.mem_of_getElem? (i := 367) (by decide +kernel), List.mem_of_getElem? (i := 368) (by decide +kernel)⟩
theorem lw_p19 : lw_okq (⟨"FactFinder$Drawing", "firstWithLength", "(I)LFactFinder$Figure;"⟩, 5) := ⟨⟨by decide +kernel, by decide +kernel⟩, List.mem_of_getElem? (i := 45) (by decide +kernel), List.mem_of_getElem? (i := 392) (by decide +kernel), List.mem_of_getElem? (i := 393) (by decide +kernel)⟩
theorem lw_p20 : lw_okq (⟨"FactFinder$Drawing", "divide", "(JJ)J"⟩, 5) := ⟨⟨by decide +kernel, by decide +kernel⟩, List.mem_of_getElem? (i := 45) (by decide +kernel), List.mem_of_getElem? (i := 402) (by decide +kernel), List.mem_of_getElem? (i := 403) (by decide +kernel)⟩
theorem lw_p21 : lw_okq (⟨"FactFinder$Findings", "listPairs", "()V"⟩, 9) := ⟨⟨by decide +kernel, by decide +kernel⟩, List.mem_of_getElem? (i := 39) (by decide +kernel), List.mem_of_getElem? (i := 418) (by decide +kernel), List.mem_of_getElem? (i := 419) (by decide +kernel)⟩
theorem lw_p22 : lw_okq (⟨"FactFinder$Findings", "listTriples", "()V"⟩, 9) := ⟨⟨by decide +kernel, by decide +kernel⟩, List.mem_of_getElem? (i := 39) (by decide +kernel), List.mem_of_getElem? (i := 426) (by decide +kernel), List.mem_of_getElem? (i := 427) (by decide +kernel)⟩
theorem lw_p23 : lw_okq (⟨"FactFinder$Findings", "consider", "(II)V"⟩, 9) := ⟨⟨by decide +kernel, by decide +kernel⟩, List.mem_of_getElem? (i := 39) (by decide +kernel), List.mem_of_getElem? (i := 430) (by decide +kernel), List.mem_of_getElem? (i := 431) (by decide +kernel)⟩
theorem lw_p24 : lw_okq (⟨"FactFinder$Findings", "isApart", "(II)Z"⟩, 9) := ⟨⟨by decide +kernel, by decide +kernel⟩, List.mem_of_getElem? (i := 39) (by decide +kernel), List.mem_of_getElem? (i := 434) (by decide +kernel), List.mem_of_getElem? (i := 435) (by decide +kernel)⟩
theorem lw_p25 : lw_okq (⟨"FactFinder$Findings", "listFours", "()V"⟩, 9) := ⟨⟨by decide +kernel, by decide +kernel⟩, List.mem_of_getElem? (i := 39) (by decide +kernel), List.mem_of_getElem? (i := 440) (by decide +kernel), List.mem_of_getElem? (i := 441) (by decide +kernel)⟩
theorem lw_p26 : lw_okq (⟨"FactFinder$Findings", "listMiddles", "()V"⟩, 9) := ⟨⟨by decide +kernel, by decide +kernel⟩, List.mem_of_getElem? (i := 39) (by decide +kernel), List.mem_of_getElem? (i := 445) (by decide +kernel), List.mem_of_getElem? (i := 446) (by decide +kernel)⟩
theorem lw_p27 : lw_okq (⟨"FactFinder$Findings", "listAreas", "()V"⟩, 9) := ⟨⟨by decide +kernel, by decide +kernel⟩, List.mem_of_getElem? (i := 39) (by decide +kernel), List.mem_of_getElem? (i := 449) (by decide +kernel), List.mem_of_getElem? (i := 450) (by decide +kernel)⟩
theorem lw_p28 : lw_okq (⟨"FactFinder$Findings", "findTriples", "(LFactFinder$Figure;)V"⟩, 9) := ⟨⟨by decide +kernel, by decide +kernel⟩, List.mem_of_getElem? (i := 39) (by decide +kernel), List.mem_of_getElem? (i := 457) (by decide +kernel), List.mem_of_getElem? (i := 458) (by decide +kernel)⟩
theorem lw_p29 : lw_okq (⟨"FactFinder$Findings", "listRatios", "()V"⟩, 9) := ⟨⟨by decide +kernel, by decide +kernel⟩, List.mem_of_getElem? (i := 39) (by decide +kernel), List.mem_of_getElem? (i := 462) (by decide +kernel), List.mem_of_getElem? (i := 463) (by decide +kernel)⟩
theorem lw_p30 : lw_okq (⟨"FactFinder$Findings", "listTwoPairs", "(I)V"⟩, 9) := ⟨⟨by decide +kernel, by decide +kernel⟩, List.mem_of_getElem? (i := 39) (by decide +kernel), List.mem_of_getElem? (i := 467) (by decide +kernel), List.mem_of_getElem? (i := 468) (by decide +kernel)⟩
theorem lw_p31 : lw_okq (⟨"FactFinder$Findings", "addRow", "(II)V"⟩, 9) := ⟨⟨by decide +kernel, by decide +kernel⟩, List.mem_of_getElem? (i := 39) (by decide +kernel), List.mem_of_getElem? (i := 495) (by decide +kernel), List.mem_of_getElem? (i := 496) (by decide +kernel)⟩
def lw_privs_2 : List (MethodName × Nat) := [(⟨"FactFinder$Figure", "showsCircle", "(IIII)Z"⟩, 7), (⟨"FactFinder$Findings", "placesOf", "(I)I"⟩, 9), (⟨"FactFinder", "areThere", "(IIIIIII)Z"⟩, 5), (⟨"FactFinder$Drawing", "firstWithLength", "(I)LFactFinder$Figure;"⟩, 5), (⟨"FactFinder$Drawing", "divide", "(JJ)J"⟩, 5), (⟨"FactFinder$Findings", "listPairs", "()V"⟩, 9), (⟨"FactFinder$Findings", "listTriples", "()V"⟩, 9), (⟨"FactFinder$Findings", "consider", "(II)V"⟩, 9), (⟨"FactFinder$Findings", "isApart", "(II)Z"⟩, 9), (⟨"FactFinder$Findings", "listFours", "()V"⟩, 9), (⟨"FactFinder$Findings", "listMiddles", "()V"⟩, 9), (⟨"FactFinder$Findings", "listAreas", "()V"⟩, 9), (⟨"FactFinder$Findings", "findTriples", "(LFactFinder$Figure;)V"⟩, 9), (⟨"FactFinder$Findings", "listRatios", "()V"⟩, 9), (⟨"FactFinder$Findings", "listTwoPairs", "(I)V"⟩, 9), (⟨"FactFinder$Findings", "addRow", "(II)V"⟩, 9)]
theorem lw_r2 : ∀ q ∈ lw_privs_2, lw_okq q := List.forall_mem_cons.mpr ⟨lw_p16, List.forall_mem_cons.mpr ⟨lw_p17, List.forall_mem_cons.mpr ⟨lw_p18, List.forall_mem_cons.mpr ⟨lw_p19, List.forall_mem_cons.mpr ⟨lw_p20, List.forall_mem_cons.mpr ⟨lw_p21, List.forall_mem_cons.mpr ⟨lw_p22, List.forall_mem_cons.mpr ⟨lw_p23, List.forall_mem_cons.mpr ⟨lw_p24, List.forall_mem_cons.mpr ⟨lw_p25, List.forall_mem_cons.mpr ⟨lw_p26, List.forall_mem_cons.mpr ⟨lw_p27, List.forall_mem_cons.mpr ⟨lw_p28, List.forall_mem_cons.mpr ⟨lw_p29, List.forall_mem_cons.mpr ⟨lw_p30, List.forall_mem_cons.mpr ⟨lw_p31, fun _ h => absurd h List.not_mem_nil⟩⟩⟩⟩⟩⟩⟩⟩⟩⟩⟩⟩⟩⟩⟩⟩
theorem lw_p32 : lw_okq (⟨"FactFinder$Findings", "addRing", "(III)V"⟩, 9) := ⟨⟨by decide +kernel, by decide +kernel⟩, List.mem_of_getElem? (i := 39) (by decide +kernel), List.mem_of_getElem? (i := 511) (by decide +kernel), List.mem_of_getElem? (i := 512) (by decide +kernel)⟩
theorem lw_p33 : lw_okq (⟨"FactFinderModel", "drawAll", "()V"⟩, 22) := ⟨⟨by decide +kernel, by decide +kernel⟩, List.mem_of_getElem? (i := 515) (by decide +kernel), List.mem_of_getElem? (i := 521) (by decide +kernel), List.mem_of_getElem? (i := 522) (by decide +kernel)⟩
theorem lw_p34 : lw_okq (⟨"FactFinderModel", "drawFigure", "(I)V"⟩, 22) := ⟨⟨by decide +kernel, by decide +kernel⟩, List.mem_of_getElem? (i := 515) (by decide +kernel), List.mem_of_getElem? (i := 525) (by decide +kernel), List.mem_of_getElem? (i := 526) (by decide +kernel)⟩
theorem lw_p35 : lw_okq (⟨"FactFinderModel", "doStep", "(IIIII)V"⟩, 22) := ⟨⟨by decide +kernel, by decide +kernel⟩, List.mem_of_getElem? (i := 515) (by decide +kernel), List.mem_of_getElem? (i := 530) (by decide +kernel), List.mem_of_getElem? (i := 531) (by decide +kernel)⟩
theorem lw_p36 : lw_okq (⟨"FactFinderModel", "drawn", "()J"⟩, 22) := ⟨⟨by decide +kernel, by decide +kernel⟩, List.mem_of_getElem? (i := 515) (by decide +kernel), List.mem_of_getElem? (i := 534) (by decide +kernel), List.mem_of_getElem? (i := 535) (by decide +kernel)⟩
theorem lw_p37 : lw_okq (⟨"FactFinderModel", "along", "(IIJ)V"⟩, 22) := ⟨⟨by decide +kernel, by decide +kernel⟩, List.mem_of_getElem? (i := 515) (by decide +kernel), List.mem_of_getElem? (i := 549) (by decide +kernel), List.mem_of_getElem? (i := 550) (by decide +kernel)⟩
theorem lw_p38 : lw_okq (⟨"FactFinderModel", "px", "(I)J"⟩, 22) := ⟨⟨by decide +kernel, by decide +kernel⟩, List.mem_of_getElem? (i := 515) (by decide +kernel), List.mem_of_getElem? (i := 553) (by decide +kernel), List.mem_of_getElem? (i := 554) (by decide +kernel)⟩
theorem lw_p39 : lw_okq (⟨"FactFinderModel", "py", "(I)J"⟩, 22) := ⟨⟨by decide +kernel, by decide +kernel⟩, List.mem_of_getElem? (i := 515) (by decide +kernel), List.mem_of_getElem? (i := 557) (by decide +kernel), List.mem_of_getElem? (i := 558) (by decide +kernel)⟩
theorem lw_p40 : lw_okq (⟨"FactFinderModel", "foot", "(JJII)V"⟩, 22) := ⟨⟨by decide +kernel, by decide +kernel⟩, List.mem_of_getElem? (i := 515) (by decide +kernel), List.mem_of_getElem? (i := 561) (by decide +kernel), List.mem_of_getElem? (i := 562) (by decide +kernel)⟩
theorem lw_p41 : lw_okq (⟨"FactFinderModel", "dot", "(IIII)J"⟩, 22) := ⟨⟨by decide +kernel, by decide +kernel⟩, List.mem_of_getElem? (i := 515) (by decide +kernel), List.mem_of_getElem? (i := 565) (by decide +kernel), List.mem_of_getElem? (i := 566) (by decide +kernel)⟩
theorem lw_p42 : lw_okq (⟨"FactFinderModel", "meet", "(IIII)V"⟩, 22) := ⟨⟨by decide +kernel, by decide +kernel⟩, List.mem_of_getElem? (i := 515) (by decide +kernel), List.mem_of_getElem? (i := 569) (by decide +kernel), List.mem_of_getElem? (i := 570) (by decide +kernel)⟩
theorem lw_p43 : lw_okq (⟨"FactFinderModel", "cross", "(IIII)J"⟩, 22) := ⟨⟨by decide +kernel, by decide +kernel⟩, List.mem_of_getElem? (i := 515) (by decide +kernel), List.mem_of_getElem? (i := 573) (by decide +kernel), List.mem_of_getElem? (i := 574) (by decide +kernel)⟩
theorem lw_p44 : lw_okq (⟨"FactFinderModel", "centre", "(III)V"⟩, 22) := ⟨⟨by decide +kernel, by decide +kernel⟩, List.mem_of_getElem? (i := 515) (by decide +kernel), List.mem_of_getElem? (i := 577) (by decide +kernel), List.mem_of_getElem? (i := 578) (by decide +kernel)⟩
theorem lw_p45 : lw_okq (⟨"FactFinderModel", "doMore", "(IIIII)V"⟩, 22) := ⟨⟨by decide +kernel, by decide +kernel⟩, List.mem_of_getElem? (i := 515) (by decide +kernel), List.mem_of_getElem? (i := 581) (by decide +kernel), List.mem_of_getElem? (i := 582) (by decide +kernel)⟩
theorem lw_p46 : lw_okq (⟨"FactFinderModel", "round", "(IIJ)V"⟩, 22) := ⟨⟨by decide +kernel, by decide +kernel⟩, List.mem_of_getElem? (i := 515) (by decide +kernel), List.mem_of_getElem? (i := 585) (by decide +kernel), List.mem_of_getElem? (i := 586) (by decide +kernel)⟩
theorem lw_p47 : lw_okq (⟨"FactFinderModel", "turnOut", "(III)V"⟩, 22) := ⟨⟨by decide +kernel, by decide +kernel⟩, List.mem_of_getElem? (i := 515) (by decide +kernel), List.mem_of_getElem? (i := 590) (by decide +kernel), List.mem_of_getElem? (i := 591) (by decide +kernel)⟩
def lw_privs_3 : List (MethodName × Nat) := [(⟨"FactFinder$Findings", "addRing", "(III)V"⟩, 9), (⟨"FactFinderModel", "drawAll", "()V"⟩, 22), (⟨"FactFinderModel", "drawFigure", "(I)V"⟩, 22), (⟨"FactFinderModel", "doStep", "(IIIII)V"⟩, 22), (⟨"FactFinderModel", "drawn", "()J"⟩, 22), (⟨"FactFinderModel", "along", "(IIJ)V"⟩, 22), (⟨"FactFinderModel", "px", "(I)J"⟩, 22), (⟨"FactFinderModel", "py", "(I)J"⟩, 22), (⟨"FactFinderModel", "foot", "(JJII)V"⟩, 22), (⟨"FactFinderModel", "dot", "(IIII)J"⟩, 22), (⟨"FactFinderModel", "meet", "(IIII)V"⟩, 22), (⟨"FactFinderModel", "cross", "(IIII)J"⟩, 22), (⟨"FactFinderModel", "centre", "(III)V"⟩, 22), (⟨"FactFinderModel", "doMore", "(IIIII)V"⟩, 22), (⟨"FactFinderModel", "round", "(IIJ)V"⟩, 22), (⟨"FactFinderModel", "turnOut", "(III)V"⟩, 22)]
theorem lw_r3 : ∀ q ∈ lw_privs_3, lw_okq q := List.forall_mem_cons.mpr ⟨lw_p32, List.forall_mem_cons.mpr ⟨lw_p33, List.forall_mem_cons.mpr ⟨lw_p34, List.forall_mem_cons.mpr ⟨lw_p35, List.forall_mem_cons.mpr ⟨lw_p36, List.forall_mem_cons.mpr ⟨lw_p37, List.forall_mem_cons.mpr ⟨lw_p38, List.forall_mem_cons.mpr ⟨lw_p39, List.forall_mem_cons.mpr ⟨lw_p40, List.forall_mem_cons.mpr ⟨lw_p41, List.forall_mem_cons.mpr ⟨lw_p42, List.forall_mem_cons.mpr ⟨lw_p43, List.forall_mem_cons.mpr ⟨lw_p44, List.forall_mem_cons.mpr ⟨lw_p45, List.forall_mem_cons.mpr ⟨lw_p46, List.forall_mem_cons.mpr ⟨lw_p47, fun _ h => absurd h List.not_mem_nil⟩⟩⟩⟩⟩⟩⟩⟩⟩⟩⟩⟩⟩⟩⟩⟩
theorem lw_p48 : lw_okq (⟨"FactFinderModel", "setStep", "(IIIIII)V"⟩, 22) := ⟨⟨by decide +kernel, by decide +kernel⟩, List.mem_of_getElem? (i := 515) (by decide +kernel), List.mem_of_getElem? (i := 679) (by decide +kernel), List.mem_of_getElem? (i := 680) (by decide +kernel)⟩
theorem lw_p49 : lw_okq (⟨"FactFinderModel", "isPoint", "(I)Z"⟩, 22) := ⟨⟨by decide +kernel, by decide +kernel⟩, List.mem_of_getElem? (i := 515) (by decide +kernel), List.mem_of_getElem? (i := 687) (by decide +kernel), List.mem_of_getElem? (i := 688) (by decide +kernel)⟩
theorem lw_p50 : lw_okq (⟨"FactFinderModel", "standing", "()I"⟩, 22) := ⟨⟨by decide +kernel, by decide +kernel⟩, List.mem_of_getElem? (i := 515) (by decide +kernel), List.mem_of_getElem? (i := 696) (by decide +kernel), List.mem_of_getElem? (i := 697) (by decide +kernel)⟩
theorem lw_p51 : lw_okq (⟨"FactFinderModel", "places", "(I)I"⟩, 22) := ⟨⟨by decide +kernel, by decide +kernel⟩, List.mem_of_getElem? (i := 515) (by decide +kernel), List.mem_of_getElem? (i := 704) (by decide +kernel), List.mem_of_getElem? (i := 705) (by decide +kernel)⟩
theorem lw_p52 : lw_okq (⟨"FactFinderModel", "findSame", "()V"⟩, 22) := ⟨⟨by decide +kernel, by decide +kernel⟩, List.mem_of_getElem? (i := 515) (by decide +kernel), List.mem_of_getElem? (i := 708) (by decide +kernel), List.mem_of_getElem? (i := 709) (by decide +kernel)⟩
theorem lw_p53 : lw_okq (⟨"FactFinderModel", "setRow", "(IIIIII)V"⟩, 22) := ⟨⟨by decide +kernel, by decide +kernel⟩, List.mem_of_getElem? (i := 515) (by decide +kernel), List.mem_of_getElem? (i := 712) (by decide +kernel), List.mem_of_getElem? (i := 713) (by decide +kernel)⟩
theorem lw_p54 : lw_okq (⟨"FactFinderModel", "isAlways", "(III)Z"⟩, 22) := ⟨⟨by decide +kernel, by decide +kernel⟩, List.mem_of_getElem? (i := 515) (by decide +kernel), List.mem_of_getElem? (i := 716) (by decide +kernel), List.mem_of_getElem? (i := 717) (by decide +kernel)⟩
theorem lw_p55 : lw_okq (⟨"FactFinderModel", "isSo", "(III)Z"⟩, 22) := ⟨⟨by decide +kernel, by decide +kernel⟩, List.mem_of_getElem? (i := 515) (by decide +kernel), List.mem_of_getElem? (i := 720) (by decide +kernel), List.mem_of_getElem? (i := 721) (by decide +kernel)⟩
theorem lw_p56 : lw_okq (⟨"FactFinderModel", "length", "(II)J"⟩, 22) := ⟨⟨by decide +kernel, by decide +kernel⟩, List.mem_of_getElem? (i := 515) (by decide +kernel), List.mem_of_getElem? (i := 724) (by decide +kernel), List.mem_of_getElem? (i := 725) (by decide +kernel)⟩
theorem lw_p57 : lw_okq (⟨"FactFinderModel", "ringOf", "(IIII)J"⟩, 22) := ⟨⟨by decide +kernel, by decide +kernel⟩, List.mem_of_getElem? (i := 515) (by decide +kernel), List.mem_of_getElem? (i := 728) (by decide +kernel), List.mem_of_getElem? (i := 729) (by decide +kernel)⟩
theorem lw_p58 : lw_okq (⟨"FactFinderModel", "lift", "(II)J"⟩, 22) := ⟨⟨by decide +kernel, by decide +kernel⟩, List.mem_of_getElem? (i := 515) (by decide +kernel), List.mem_of_getElem? (i := 732) (by decide +kernel), List.mem_of_getElem? (i := 733) (by decide +kernel)⟩
theorem lw_p59 : lw_okq (⟨"FactFinderModel", "isOrdered", "(I)Z"⟩, 22) := ⟨⟨by decide +kernel, by decide +kernel⟩, List.mem_of_getElem? (i := 515) (by decide +kernel), List.mem_of_getElem? (i := 758) (by decide +kernel), List.mem_of_getElem? (i := 759) (by decide +kernel)⟩
theorem lw_p60 : lw_okq (⟨"FactFinderModel", "isBefore", "()Z"⟩, 22) := ⟨⟨by decide +kernel, by decide +kernel⟩, List.mem_of_getElem? (i := 515) (by decide +kernel), List.mem_of_getElem? (i := 762) (by decide +kernel), List.mem_of_getElem? (i := 763) (by decide +kernel)⟩
theorem lw_p61 : lw_okq (⟨"FactFinderModel", "isHeld", "(I)Z"⟩, 22) := ⟨⟨by decide +kernel, by decide +kernel⟩, List.mem_of_getElem? (i := 515) (by decide +kernel), List.mem_of_getElem? (i := 766) (by decide +kernel), List.mem_of_getElem? (i := 767) (by decide +kernel)⟩
theorem lw_p62 : lw_okq (⟨"FactFinderModel", "walk", "(II)V"⟩, 22) := ⟨⟨by decide +kernel, by decide +kernel⟩, List.mem_of_getElem? (i := 515) (by decide +kernel), List.mem_of_getElem? (i := 774) (by decide +kernel), List.mem_of_getElem? (i := 775) (by decide +kernel)⟩
theorem lw_p63 : lw_okq (⟨"FactFinderModel", "visit", "(I)V"⟩, 22) := ⟨⟨by decide +kernel, by decide +kernel⟩, List.mem_of_getElem? (i := 515) (by decide +kernel), List.mem_of_getElem? (i := 778) (by decide +kernel), List.mem_of_getElem? (i := 779) (by decide +kernel)⟩
def lw_privs_4 : List (MethodName × Nat) := [(⟨"FactFinderModel", "setStep", "(IIIIII)V"⟩, 22), (⟨"FactFinderModel", "isPoint", "(I)Z"⟩, 22), (⟨"FactFinderModel", "standing", "()I"⟩, 22), (⟨"FactFinderModel", "places", "(I)I"⟩, 22), (⟨"FactFinderModel", "findSame", "()V"⟩, 22), (⟨"FactFinderModel", "setRow", "(IIIIII)V"⟩, 22), (⟨"FactFinderModel", "isAlways", "(III)Z"⟩, 22), (⟨"FactFinderModel", "isSo", "(III)Z"⟩, 22), (⟨"FactFinderModel", "length", "(II)J"⟩, 22), (⟨"FactFinderModel", "ringOf", "(IIII)J"⟩, 22), (⟨"FactFinderModel", "lift", "(II)J"⟩, 22), (⟨"FactFinderModel", "isOrdered", "(I)Z"⟩, 22), (⟨"FactFinderModel", "isBefore", "()Z"⟩, 22), (⟨"FactFinderModel", "isHeld", "(I)Z"⟩, 22), (⟨"FactFinderModel", "walk", "(II)V"⟩, 22), (⟨"FactFinderModel", "visit", "(I)V"⟩, 22)]
theorem lw_r4 : ∀ q ∈ lw_privs_4, lw_okq q := List.forall_mem_cons.mpr ⟨lw_p48, List.forall_mem_cons.mpr ⟨lw_p49, List.forall_mem_cons.mpr ⟨lw_p50, List.forall_mem_cons.mpr ⟨lw_p51, List.forall_mem_cons.mpr ⟨lw_p52, List.forall_mem_cons.mpr ⟨lw_p53, List.forall_mem_cons.mpr ⟨lw_p54, List.forall_mem_cons.mpr ⟨lw_p55, List.forall_mem_cons.mpr ⟨lw_p56, List.forall_mem_cons.mpr ⟨lw_p57, List.forall_mem_cons.mpr ⟨lw_p58, List.forall_mem_cons.mpr ⟨lw_p59, List.forall_mem_cons.mpr ⟨lw_p60, List.forall_mem_cons.mpr ⟨lw_p61, List.forall_mem_cons.mpr ⟨lw_p62, List.forall_mem_cons.mpr ⟨lw_p63, fun _ h => absurd h List.not_mem_nil⟩⟩⟩⟩⟩⟩⟩⟩⟩⟩⟩⟩⟩⟩⟩⟩
theorem lw_p64 : lw_okq (⟨"FactFinderModel", "isTold", "(I)Z"⟩, 22) := ⟨⟨by decide +kernel, by decide +kernel⟩, List.mem_of_getElem? (i := 515) (by decide +kernel), List.mem_of_getElem? (i := 782) (by decide +kernel), List.mem_of_getElem? (i := 783) (by decide +kernel)⟩
theorem lw_p65 : lw_okq (⟨"FactFinderModel", "isEmpty", "(III)Z"⟩, 22) := ⟨⟨by decide +kernel, by decide +kernel⟩, List.mem_of_getElem? (i := 515) (by decide +kernel), List.mem_of_getElem? (i := 786) (by decide +kernel), List.mem_of_getElem? (i := 787) (by decide +kernel)⟩
theorem lw_p66 : lw_okq (⟨"FactFinderModel", "walkThird", "(III)V"⟩, 22) := ⟨⟨by decide +kernel, by decide +kernel⟩, List.mem_of_getElem? (i := 515) (by decide +kernel), List.mem_of_getElem? (i := 790) (by decide +kernel), List.mem_of_getElem? (i := 791) (by decide +kernel)⟩
theorem lw_p67 : lw_okq (⟨"FactFinderModel", "walkMore", "(IIII)V"⟩, 22) := ⟨⟨by decide +kernel, by decide +kernel⟩, List.mem_of_getElem? (i := 515) (by decide +kernel), List.mem_of_getElem? (i := 794) (by decide +kernel), List.mem_of_getElem? (i := 795) (by decide +kernel)⟩
theorem lw_p68 : lw_okq (⟨"FactFinderModel", "walkArea", "(IIII)V"⟩, 22) := ⟨⟨by decide +kernel, by decide +kernel⟩, List.mem_of_getElem? (i := 515) (by decide +kernel), List.mem_of_getElem? (i := 798) (by decide +kernel), List.mem_of_getElem? (i := 799) (by decide +kernel)⟩
theorem lw_p69 : lw_okq (⟨"FactFinderModel", "clearSets", "()V"⟩, 22) := ⟨⟨by decide +kernel, by decide +kernel⟩, List.mem_of_getElem? (i := 515) (by decide +kernel), List.mem_of_getElem? (i := 814) (by decide +kernel), List.mem_of_getElem? (i := 815) (by decide +kernel)⟩
theorem lw_p70 : lw_okq (⟨"FactFinderModel", "lineOf", "(II)I"⟩, 22) := ⟨⟨by decide +kernel, by decide +kernel⟩, List.mem_of_getElem? (i := 515) (by decide +kernel), List.mem_of_getElem? (i := 818) (by decide +kernel), List.mem_of_getElem? (i := 819) (by decide +kernel)⟩
theorem lw_p71 : lw_okq (⟨"FactFinderModel", "set", "(I)I"⟩, 22) := ⟨⟨by decide +kernel, by decide +kernel⟩, List.mem_of_getElem? (i := 515) (by decide +kernel), List.mem_of_getElem? (i := 822) (by decide +kernel), List.mem_of_getElem? (i := 823) (by decide +kernel)⟩
theorem lw_p72 : lw_okq (⟨"FactFinderModel", "ringThrough", "(III)I"⟩, 22) := ⟨⟨by decide +kernel, by decide +kernel⟩, List.mem_of_getElem? (i := 515) (by decide +kernel), List.mem_of_getElem? (i := 830) (by decide +kernel), List.mem_of_getElem? (i := 831) (by decide +kernel)⟩
def lw_privs_5 : List (MethodName × Nat) := [(⟨"FactFinderModel", "isTold", "(I)Z"⟩, 22), (⟨"FactFinderModel", "isEmpty", "(III)Z"⟩, 22), (⟨"FactFinderModel", "walkThird", "(III)V"⟩, 22), (⟨"FactFinderModel", "walkMore", "(IIII)V"⟩, 22), (⟨"FactFinderModel", "walkArea", "(IIII)V"⟩, 22), (⟨"FactFinderModel", "clearSets", "()V"⟩, 22), (⟨"FactFinderModel", "lineOf", "(II)I"⟩, 22), (⟨"FactFinderModel", "set", "(I)I"⟩, 22), (⟨"FactFinderModel", "ringThrough", "(III)I"⟩, 22)]
theorem lw_r5 : ∀ q ∈ lw_privs_5, lw_okq q := List.forall_mem_cons.mpr ⟨lw_p64, List.forall_mem_cons.mpr ⟨lw_p65, List.forall_mem_cons.mpr ⟨lw_p66, List.forall_mem_cons.mpr ⟨lw_p67, List.forall_mem_cons.mpr ⟨lw_p68, List.forall_mem_cons.mpr ⟨lw_p69, List.forall_mem_cons.mpr ⟨lw_p70, List.forall_mem_cons.mpr ⟨lw_p71, List.forall_mem_cons.mpr ⟨lw_p72, fun _ h => absurd h List.not_mem_nil⟩⟩⟩⟩⟩⟩⟩⟩⟩
def lw_privs : List (MethodName × Nat) := lw_privs_1 ++ (lw_privs_2 ++ (lw_privs_3 ++ (lw_privs_4 ++ (lw_privs_5))))
def lw_tbl : List Cond := k2_sels lw_privs ++ tables_1
theorem lw_privs_ok : ∀ q ∈ lw_privs, lw_okq q := by
  show ∀ q ∈ lw_privs_1 ++ (lw_privs_2 ++ (lw_privs_3 ++ (lw_privs_4 ++ (lw_privs_5)))), lw_okq q
  exact List.forall_mem_append.mpr ⟨lw_r1, List.forall_mem_append.mpr ⟨lw_r2, List.forall_mem_append.mpr ⟨lw_r3, List.forall_mem_append.mpr ⟨lw_r4, lw_r5⟩⟩⟩⟩

def y_FF_init : MethodName := ⟨"FactFinder", "<init>", "()V"⟩
abbrev c0_FF_init : ByteArray := prog_1_method_1_code
def y_FF_clear : MethodName := ⟨"FactFinder", "clear", "()I"⟩
abbrev c0_FF_clear : ByteArray := prog_1_method_2_code
def y_FF_step : MethodName := ⟨"FactFinder", "step", "(IIIII)I"⟩
abbrev c0_FF_step : ByteArray := prog_1_method_3_code
def y_FF_change : MethodName := ⟨"FactFinder", "change", "(IIIIII)I"⟩
abbrev c0_FF_change : ByteArray := prog_1_method_4_code
def y_FF_draw : MethodName := ⟨"FactFinder", "draw", "(II)I"⟩
abbrev c0_FF_draw : ByteArray := prog_1_method_5_code
def y_FF_count : MethodName := ⟨"FactFinder", "count", "(I)I"⟩
abbrev c0_FF_count : ByteArray := prog_1_method_6_code
def y_FF_told : MethodName := ⟨"FactFinder", "told", "(II)I"⟩
abbrev c0_FF_told : ByteArray := prog_1_method_7_code
def y_FF_falls : MethodName := ⟨"FactFinder", "falls", "(I)I"⟩
abbrev c0_FF_falls : ByteArray := prog_1_method_8_code
def y_FF_place : MethodName := ⟨"FactFinder", "place", "(III)I"⟩
abbrev c0_FF_place : ByteArray := prog_1_method_9_code
def y_FF_holds : MethodName := ⟨"FactFinder", "holds", "(IIIIIII)I"⟩
abbrev c0_FF_holds : ByteArray := prog_1_method_10_code
def y_FF_facts : MethodName := ⟨"FactFinder", "facts", "(I)I"⟩
abbrev c0_FF_facts : ByteArray := prog_1_method_11_code
def y_FF_fact : MethodName := ⟨"FactFinder", "fact", "(III)I"⟩
abbrev c0_FF_fact : ByteArray := prog_1_method_12_code
def y_FF_needs : MethodName := ⟨"FactFinder", "needs", "(III)I"⟩
abbrev c0_FF_needs : ByteArray := prog_1_method_13_code
def y_FF_row : MethodName := ⟨"FactFinder", "row", "(I)I"⟩
abbrev c0_FF_row : ByteArray := prog_1_method_14_code
def y_FF_ring : MethodName := ⟨"FactFinder", "ring", "(I)I"⟩
abbrev c0_FF_ring : ByteArray := prog_1_method_15_code
def y_FF_drawAll : MethodName := ⟨"FactFinder", "drawAll", "()V"⟩
abbrev c0_FF_drawAll : ByteArray := prog_1_method_16_code
def y_FF_isThere : MethodName := ⟨"FactFinder", "isThere", "(I)Z"⟩
abbrev c0_FF_isThere : ByteArray := prog_1_method_17_code
def y_FF_isStep : MethodName := ⟨"FactFinder", "isStep", "(IIIIII)Z"⟩
abbrev c0_FF_isStep : ByteArray := prog_1_method_18_code
def y_FF_isFactKind : MethodName := ⟨"FactFinder", "isFactKind", "(I)Z"⟩
abbrev c0_FF_isFactKind : ByteArray := prog_1_method_19_code
def y_FF_areThere : MethodName := ⟨"FactFinder", "areThere", "(IIIIIII)Z"⟩
abbrev c0_FF_areThere : ByteArray := prog_1_method_20_code
def y_FF_isFact : MethodName := ⟨"FactFinder", "isFact", "(IIIIIII)Z"⟩
abbrev c0_FF_isFact : ByteArray := prog_1_method_21_code
def y_FF_areTwoPairs : MethodName := ⟨"FactFinder", "areTwoPairs", "(IIII)Z"⟩
abbrev c0_FF_areTwoPairs : ByteArray := prog_1_method_22_code
def y_FF_areApartPairs : MethodName := ⟨"FactFinder", "areApartPairs", "(IIII)Z"⟩
abbrev c0_FF_areApartPairs : ByteArray := prog_1_method_23_code
def y_FF_pack : MethodName := ⟨"FactFinder", "pack", "(III)I"⟩
abbrev c0_FF_pack : ByteArray := prog_1_method_24_code
def y_FF_join : MethodName := ⟨"FactFinder", "join", "(II)I"⟩
abbrev c0_FF_join : ByteArray := prog_1_method_25_code
def y_FF_unpack : MethodName := ⟨"FactFinder", "unpack", "(II)I"⟩
abbrev c0_FF_unpack : ByteArray := prog_1_method_26_code
def y_FF_invert : MethodName := ⟨"FactFinder", "invert", "(J)J"⟩
abbrev c0_FF_invert : ByteArray := prog_1_method_27_code
def y_Mo_init : MethodName := ⟨"FactFinderModel", "<init>", "()V"⟩
abbrev c0_Mo_init : ByteArray := prog_8_method_1_code
def y_Mo_isIn : MethodName := ⟨"FactFinderModel", "isIn", "(III)Z"⟩
abbrev c0_Mo_isIn : ByteArray := prog_8_method_2_code
def y_Mo_mod : MethodName := ⟨"FactFinderModel", "mod", "(J)J"⟩
abbrev c0_Mo_mod : ByteArray := prog_8_method_3_code
def y_Mo_inverse : MethodName := ⟨"FactFinderModel", "inverse", "(J)J"⟩
abbrev c0_Mo_inverse : ByteArray := prog_8_method_4_code
def y_Mo_needs1 : MethodName := ⟨"FactFinderModel", "needs", "(I)I"⟩
abbrev c0_Mo_needs1 : ByteArray := prog_8_method_5_code
def y_Mo_drawn : MethodName := ⟨"FactFinderModel", "drawn", "()J"⟩
abbrev c0_Mo_drawn : ByteArray := prog_8_method_6_code
def y_Mo_px : MethodName := ⟨"FactFinderModel", "px", "(I)J"⟩
abbrev c0_Mo_px : ByteArray := prog_8_method_7_code
def y_Mo_py : MethodName := ⟨"FactFinderModel", "py", "(I)J"⟩
abbrev c0_Mo_py : ByteArray := prog_8_method_8_code
def y_Mo_cross : MethodName := ⟨"FactFinderModel", "cross", "(IIII)J"⟩
abbrev c0_Mo_cross : ByteArray := prog_8_method_9_code
def y_Mo_dot : MethodName := ⟨"FactFinderModel", "dot", "(IIII)J"⟩
abbrev c0_Mo_dot : ByteArray := prog_8_method_10_code
def y_Mo_along : MethodName := ⟨"FactFinderModel", "along", "(IIJ)V"⟩
abbrev c0_Mo_along : ByteArray := prog_8_method_11_code
def y_Mo_foot : MethodName := ⟨"FactFinderModel", "foot", "(JJII)V"⟩
abbrev c0_Mo_foot : ByteArray := prog_8_method_12_code
def y_Mo_centre : MethodName := ⟨"FactFinderModel", "centre", "(III)V"⟩
abbrev c0_Mo_centre : ByteArray := prog_8_method_13_code
def y_Mo_meet : MethodName := ⟨"FactFinderModel", "meet", "(IIII)V"⟩
abbrev c0_Mo_meet : ByteArray := prog_8_method_14_code
def y_Mo_doStep : MethodName := ⟨"FactFinderModel", "doStep", "(IIIII)V"⟩
abbrev c0_Mo_doStep : ByteArray := prog_8_method_15_code
def y_Mo_doMore : MethodName := ⟨"FactFinderModel", "doMore", "(IIIII)V"⟩
abbrev c0_Mo_doMore : ByteArray := prog_8_method_16_code
def y_Mo_round : MethodName := ⟨"FactFinderModel", "round", "(IIJ)V"⟩
abbrev c0_Mo_round : ByteArray := prog_8_method_17_code
def y_Mo_turnOut : MethodName := ⟨"FactFinderModel", "turnOut", "(III)V"⟩
abbrev c0_Mo_turnOut : ByteArray := prog_8_method_18_code
def y_Mo_drawFigure : MethodName := ⟨"FactFinderModel", "drawFigure", "(I)V"⟩
abbrev c0_Mo_drawFigure : ByteArray := prog_8_method_19_code
def y_Mo_drawAll : MethodName := ⟨"FactFinderModel", "drawAll", "()V"⟩
abbrev c0_Mo_drawAll : ByteArray := prog_8_method_20_code
def y_Mo_standing : MethodName := ⟨"FactFinderModel", "standing", "()I"⟩
abbrev c0_Mo_standing : ByteArray := prog_8_method_21_code
def y_Mo_clear : MethodName := ⟨"FactFinderModel", "clear", "()I"⟩
abbrev c0_Mo_clear : ByteArray := prog_8_method_22_code
def y_Mo_areThere : MethodName := ⟨"FactFinderModel", "areThere", "(IIIIII)Z"⟩
abbrev c0_Mo_areThere : ByteArray := prog_8_method_23_code
def y_Mo_setStep : MethodName := ⟨"FactFinderModel", "setStep", "(IIIIII)V"⟩
abbrev c0_Mo_setStep : ByteArray := prog_8_method_24_code
def y_Mo_step : MethodName := ⟨"FactFinderModel", "step", "(IIIII)I"⟩
abbrev c0_Mo_step : ByteArray := prog_8_method_25_code
def y_Mo_isPoint : MethodName := ⟨"FactFinderModel", "isPoint", "(I)Z"⟩
abbrev c0_Mo_isPoint : ByteArray := prog_8_method_26_code
def y_Mo_change : MethodName := ⟨"FactFinderModel", "change", "(IIIIII)I"⟩
abbrev c0_Mo_change : ByteArray := prog_8_method_27_code
def y_Mo_draw : MethodName := ⟨"FactFinderModel", "draw", "(II)I"⟩
abbrev c0_Mo_draw : ByteArray := prog_8_method_28_code
def y_Mo_count : MethodName := ⟨"FactFinderModel", "count", "(I)I"⟩
abbrev c0_Mo_count : ByteArray := prog_8_method_29_code
def y_Mo_told : MethodName := ⟨"FactFinderModel", "told", "(II)I"⟩
abbrev c0_Mo_told : ByteArray := prog_8_method_30_code
def y_Mo_falls : MethodName := ⟨"FactFinderModel", "falls", "(I)I"⟩
abbrev c0_Mo_falls : ByteArray := prog_8_method_31_code
def y_Mo_place : MethodName := ⟨"FactFinderModel", "place", "(III)I"⟩
abbrev c0_Mo_place : ByteArray := prog_8_method_32_code
def y_Mo_square : MethodName := ⟨"FactFinderModel", "square", "(J)J"⟩
abbrev c0_Mo_square : ByteArray := prog_8_method_33_code
def y_Mo_length : MethodName := ⟨"FactFinderModel", "length", "(II)J"⟩
abbrev c0_Mo_length : ByteArray := prog_8_method_34_code
def y_Mo_ringOf : MethodName := ⟨"FactFinderModel", "ringOf", "(IIII)J"⟩
abbrev c0_Mo_ringOf : ByteArray := prog_8_method_35_code
def y_Mo_lift : MethodName := ⟨"FactFinderModel", "lift", "(II)J"⟩
abbrev c0_Mo_lift : ByteArray := prog_8_method_36_code
def y_Mo_isSo : MethodName := ⟨"FactFinderModel", "isSo", "(III)Z"⟩
abbrev c0_Mo_isSo : ByteArray := prog_8_method_37_code
def y_Mo_isAlways : MethodName := ⟨"FactFinderModel", "isAlways", "(III)Z"⟩
abbrev c0_Mo_isAlways : ByteArray := prog_8_method_38_code
def y_Mo_isHeld : MethodName := ⟨"FactFinderModel", "isHeld", "(I)Z"⟩
abbrev c0_Mo_isHeld : ByteArray := prog_8_method_39_code
def y_Mo_isOrdered : MethodName := ⟨"FactFinderModel", "isOrdered", "(I)Z"⟩
abbrev c0_Mo_isOrdered : ByteArray := prog_8_method_40_code
def y_Mo_isBefore : MethodName := ⟨"FactFinderModel", "isBefore", "()Z"⟩
abbrev c0_Mo_isBefore : ByteArray := prog_8_method_41_code
def y_Mo_size : MethodName := ⟨"FactFinderModel", "size", "(I)I"⟩
abbrev c0_Mo_size : ByteArray := prog_8_method_42_code
def y_Mo_setRow : MethodName := ⟨"FactFinderModel", "setRow", "(IIIIII)V"⟩
abbrev c0_Mo_setRow : ByteArray := prog_8_method_43_code
def y_Mo_holds : MethodName := ⟨"FactFinderModel", "holds", "(IIIIIII)I"⟩
abbrev c0_Mo_holds : ByteArray := prog_8_method_44_code
def y_Mo_findSame : MethodName := ⟨"FactFinderModel", "findSame", "()V"⟩
abbrev c0_Mo_findSame : ByteArray := prog_8_method_45_code
def y_Mo_places : MethodName := ⟨"FactFinderModel", "places", "(I)I"⟩
abbrev c0_Mo_places : ByteArray := prog_8_method_46_code
def y_Mo_isEmpty : MethodName := ⟨"FactFinderModel", "isEmpty", "(III)Z"⟩
abbrev c0_Mo_isEmpty : ByteArray := prog_8_method_47_code
def y_Mo_isTold : MethodName := ⟨"FactFinderModel", "isTold", "(I)Z"⟩
abbrev c0_Mo_isTold : ByteArray := prog_8_method_48_code
def y_Mo_visit : MethodName := ⟨"FactFinderModel", "visit", "(I)V"⟩
abbrev c0_Mo_visit : ByteArray := prog_8_method_49_code
def y_Mo_walk : MethodName := ⟨"FactFinderModel", "walk", "(II)V"⟩
abbrev c0_Mo_walk : ByteArray := prog_8_method_50_code
def y_Mo_walkThird : MethodName := ⟨"FactFinderModel", "walkThird", "(III)V"⟩
abbrev c0_Mo_walkThird : ByteArray := prog_8_method_51_code
def y_Mo_walkMore : MethodName := ⟨"FactFinderModel", "walkMore", "(IIII)V"⟩
abbrev c0_Mo_walkMore : ByteArray := prog_8_method_52_code
def y_Mo_walkArea : MethodName := ⟨"FactFinderModel", "walkArea", "(IIII)V"⟩
abbrev c0_Mo_walkArea : ByteArray := prog_8_method_53_code
def y_Mo_facts : MethodName := ⟨"FactFinderModel", "facts", "(I)I"⟩
abbrev c0_Mo_facts : ByteArray := prog_8_method_54_code
def y_Mo_fact : MethodName := ⟨"FactFinderModel", "fact", "(III)I"⟩
abbrev c0_Mo_fact : ByteArray := prog_8_method_55_code
def y_Mo_needs3 : MethodName := ⟨"FactFinderModel", "needs", "(III)I"⟩
abbrev c0_Mo_needs3 : ByteArray := prog_8_method_56_code
def y_Mo_clearSets : MethodName := ⟨"FactFinderModel", "clearSets", "()V"⟩
abbrev c0_Mo_clearSets : ByteArray := prog_8_method_57_code
def y_Mo_set : MethodName := ⟨"FactFinderModel", "set", "(I)I"⟩
abbrev c0_Mo_set : ByteArray := prog_8_method_58_code
def y_Mo_row : MethodName := ⟨"FactFinderModel", "row", "(I)I"⟩
abbrev c0_Mo_row : ByteArray := prog_8_method_59_code
def y_Mo_lineOf : MethodName := ⟨"FactFinderModel", "lineOf", "(II)I"⟩
abbrev c0_Mo_lineOf : ByteArray := prog_8_method_60_code
def y_Mo_ring : MethodName := ⟨"FactFinderModel", "ring", "(I)I"⟩
abbrev c0_Mo_ring : ByteArray := prog_8_method_61_code
def y_Mo_ringThrough : MethodName := ⟨"FactFinderModel", "ringThrough", "(III)I"⟩
abbrev c0_Mo_ringThrough : ByteArray := prog_8_method_62_code
def y_Dr_init : MethodName := ⟨"FactFinder$Drawing", "<init>", "()V"⟩
abbrev c0_Dr_init : ByteArray := prog_2_method_1_code
def y_Dr_begin : MethodName := ⟨"FactFinder$Drawing", "begin", "(II)V"⟩
abbrev c0_Dr_begin : ByteArray := prog_2_method_2_code
def y_Dr_goOn : MethodName := ⟨"FactFinder$Drawing", "goOn", "(LFactFinder$Plan;I)V"⟩
abbrev c0_Dr_goOn : ByteArray := prog_2_method_3_code
def y_Dr_firstStanding : MethodName := ⟨"FactFinder$Drawing", "firstStanding", "()LFactFinder$Figure;"⟩
abbrev c0_Dr_firstStanding : ByteArray := prog_2_method_4_code
def y_Dr_bears : MethodName := ⟨"FactFinder$Drawing", "bears", "(II)Z"⟩
abbrev c0_Dr_bears : ByteArray := prog_2_method_5_code
def y_Dr_isShown : MethodName := ⟨"FactFinder$Drawing", "isShown", "(II)Z"⟩
abbrev c0_Dr_isShown : ByteArray := prog_2_method_6_code
def y_Dr_giveNumbers : MethodName := ⟨"FactFinder$Drawing", "giveNumbers", "(I)I"⟩
abbrev c0_Dr_giveNumbers : ByteArray := prog_2_method_7_code
def y_Dr_firstWithLength : MethodName := ⟨"FactFinder$Drawing", "firstWithLength", "(I)LFactFinder$Figure;"⟩
abbrev c0_Dr_firstWithLength : ByteArray := prog_2_method_8_code
def y_Dr_withNumbers : MethodName := ⟨"FactFinder$Drawing", "withNumbers", "(III)I"⟩
abbrev c0_Dr_withNumbers : ByteArray := prog_2_method_9_code
def y_Dr_divide : MethodName := ⟨"FactFinder$Drawing", "divide", "(JJ)J"⟩
abbrev c0_Dr_divide : ByteArray := prog_2_method_10_code
def y_Fi_init : MethodName := ⟨"FactFinder$Figure", "<init>", "()V"⟩
abbrev c0_Fi_init : ByteArray := prog_3_method_1_code
def y_Fi_begin : MethodName := ⟨"FactFinder$Figure", "begin", "(I)V"⟩
abbrev c0_Fi_begin : ByteArray := prog_3_method_2_code
def y_Fi_goOn : MethodName := ⟨"FactFinder$Figure", "goOn", "(LFactFinder$Plan;I)V"⟩
abbrev c0_Fi_goOn : ByteArray := prog_3_method_3_code
def y_Fi_find : MethodName := ⟨"FactFinder$Figure", "find", "(IIIII)Z"⟩
abbrev c0_Fi_find : ByteArray := prog_3_method_4_code
def y_Fi_found : MethodName := ⟨"FactFinder$Figure", "found", "(JJ)Z"⟩
abbrev c0_Fi_found : ByteArray := prog_3_method_5_code
def y_Fi_nextNumber : MethodName := ⟨"FactFinder$Figure", "nextNumber", "()J"⟩
abbrev c0_Fi_nextNumber : ByteArray := prog_3_method_6_code
def y_Fi_findFree : MethodName := ⟨"FactFinder$Figure", "findFree", "()Z"⟩
abbrev c0_Fi_findFree : ByteArray := prog_3_method_7_code
def y_Fi_findAlong : MethodName := ⟨"FactFinder$Figure", "findAlong", "(IIJ)Z"⟩
abbrev c0_Fi_findAlong : ByteArray := prog_3_method_8_code
def y_Fi_findFoot : MethodName := ⟨"FactFinder$Figure", "findFoot", "(IIII)Z"⟩
abbrev c0_Fi_findFoot : ByteArray := prog_3_method_9_code
def y_Fi_findMeet : MethodName := ⟨"FactFinder$Figure", "findMeet", "(IIII)Z"⟩
abbrev c0_Fi_findMeet : ByteArray := prog_3_method_10_code
def y_Fi_findCentre : MethodName := ⟨"FactFinder$Figure", "findCentre", "(III)Z"⟩
abbrev c0_Fi_findCentre : ByteArray := prog_3_method_11_code
def y_Fi_findOnCircle : MethodName := ⟨"FactFinder$Figure", "findOnCircle", "(IIJ)Z"⟩
abbrev c0_Fi_findOnCircle : ByteArray := prog_3_method_12_code
def y_Fi_findTurnedOut : MethodName := ⟨"FactFinder$Figure", "findTurnedOut", "(III)Z"⟩
abbrev c0_Fi_findTurnedOut : ByteArray := prog_3_method_13_code
def y_Fi_cross : MethodName := ⟨"FactFinder$Figure", "cross", "(IIII)J"⟩
abbrev c0_Fi_cross : ByteArray := prog_3_method_14_code
def y_Fi_dot : MethodName := ⟨"FactFinder$Figure", "dot", "(IIII)J"⟩
abbrev c0_Fi_dot : ByteArray := prog_3_method_15_code
def y_Fi_length : MethodName := ⟨"FactFinder$Figure", "length", "(II)J"⟩
abbrev c0_Fi_length : ByteArray := prog_3_method_16_code
def y_Fi_squaredArea : MethodName := ⟨"FactFinder$Figure", "squaredArea", "(III)J"⟩
abbrev c0_Fi_squaredArea : ByteArray := prog_3_method_17_code
def y_Fi_shows : MethodName := ⟨"FactFinder$Figure", "shows", "(II)Z"⟩
abbrev c0_Fi_shows : ByteArray := prog_3_method_18_code
def y_Fi_showsCircle : MethodName := ⟨"FactFinder$Figure", "showsCircle", "(IIII)Z"⟩
abbrev c0_Fi_showsCircle : ByteArray := prog_3_method_19_code
def y_Fs_init : MethodName := ⟨"FactFinder$Findings", "<init>", "()V"⟩
abbrev c0_Fs_init : ByteArray := prog_4_method_1_code
def y_Fs_forget : MethodName := ⟨"FactFinder$Findings", "forget", "(I)V"⟩
abbrev c0_Fs_forget : ByteArray := prog_4_method_2_code
def y_Fs_isNew : MethodName := ⟨"FactFinder$Findings", "isNew", "(I)Z"⟩
abbrev c0_Fs_isNew : ByteArray := prog_4_method_3_code
def y_Fs_countPlaces : MethodName := ⟨"FactFinder$Findings", "countPlaces", "()I"⟩
abbrev c0_Fs_countPlaces : ByteArray := prog_4_method_4_code
def y_Fs_list : MethodName := ⟨"FactFinder$Findings", "list", "(I)LFactFinder$IntList;"⟩
abbrev c0_Fs_list : ByteArray := prog_4_method_5_code
def y_Fs_allRows : MethodName := ⟨"FactFinder$Findings", "allRows", "()LFactFinder$IntList;"⟩
abbrev c0_Fs_allRows : ByteArray := prog_4_method_6_code
def y_Fs_allRings : MethodName := ⟨"FactFinder$Findings", "allRings", "()LFactFinder$IntList;"⟩
abbrev c0_Fs_allRings : ByteArray := prog_4_method_7_code
def y_Fs_addRow : MethodName := ⟨"FactFinder$Findings", "addRow", "(II)V"⟩
abbrev c0_Fs_addRow : ByteArray := prog_4_method_8_code
def y_Fs_addRing : MethodName := ⟨"FactFinder$Findings", "addRing", "(III)V"⟩
abbrev c0_Fs_addRing : ByteArray := prog_4_method_9_code
def y_Fs_findLeads : MethodName := ⟨"FactFinder$Findings", "findLeads", "()V"⟩
abbrev c0_Fs_findLeads : ByteArray := prog_4_method_10_code
def y_Fs_placesOf : MethodName := ⟨"FactFinder$Findings", "placesOf", "(I)I"⟩
abbrev c0_Fs_placesOf : ByteArray := prog_4_method_11_code
def y_Fs_isApart : MethodName := ⟨"FactFinder$Findings", "isApart", "(II)Z"⟩
abbrev c0_Fs_isApart : ByteArray := prog_4_method_12_code
def y_Fs_consider : MethodName := ⟨"FactFinder$Findings", "consider", "(II)V"⟩
abbrev c0_Fs_consider : ByteArray := prog_4_method_13_code
def y_Fs_listPairs : MethodName := ⟨"FactFinder$Findings", "listPairs", "()V"⟩
abbrev c0_Fs_listPairs : ByteArray := prog_4_method_14_code
def y_Fs_listTriples : MethodName := ⟨"FactFinder$Findings", "listTriples", "()V"⟩
abbrev c0_Fs_listTriples : ByteArray := prog_4_method_15_code
def y_Fs_listFours : MethodName := ⟨"FactFinder$Findings", "listFours", "()V"⟩
abbrev c0_Fs_listFours : ByteArray := prog_4_method_16_code
def y_Fs_listMiddles : MethodName := ⟨"FactFinder$Findings", "listMiddles", "()V"⟩
abbrev c0_Fs_listMiddles : ByteArray := prog_4_method_17_code
def y_Fs_listTwoPairs : MethodName := ⟨"FactFinder$Findings", "listTwoPairs", "(I)V"⟩
abbrev c0_Fs_listTwoPairs : ByteArray := prog_4_method_18_code
def y_Fs_listRatios : MethodName := ⟨"FactFinder$Findings", "listRatios", "()V"⟩
abbrev c0_Fs_listRatios : ByteArray := prog_4_method_19_code
def y_Fs_listAreas : MethodName := ⟨"FactFinder$Findings", "listAreas", "()V"⟩
abbrev c0_Fs_listAreas : ByteArray := prog_4_method_20_code
def y_Fs_findTriples : MethodName := ⟨"FactFinder$Findings", "findTriples", "(LFactFinder$Figure;)V"⟩
abbrev c0_Fs_findTriples : ByteArray := prog_4_method_21_code
def y_IL_init : MethodName := ⟨"FactFinder$IntList", "<init>", "(I)V"⟩
abbrev c0_IL_init : ByteArray := prog_5_method_1_code
def y_IL_has : MethodName := ⟨"FactFinder$IntList", "has", "(I)Z"⟩
abbrev c0_IL_has : ByteArray := prog_5_method_2_code
def y_IL_add : MethodName := ⟨"FactFinder$IntList", "add", "(I)V"⟩
abbrev c0_IL_add : ByteArray := prog_5_method_3_code
def y_IL_addRising : MethodName := ⟨"FactFinder$IntList", "addRising", "(I)V"⟩
abbrev c0_IL_addRising : ByteArray := prog_5_method_4_code
def y_Pl_init : MethodName := ⟨"FactFinder$Plan", "<init>", "()V"⟩
abbrev c0_Pl_init : ByteArray := prog_6_method_1_code
def y_Pl_write : MethodName := ⟨"FactFinder$Plan", "write", "(IIIIII)V"⟩
abbrev c0_Pl_write : ByteArray := prog_6_method_2_code
def y_Pl_from : MethodName := ⟨"FactFinder$Plan", "from", "(II)I"⟩
abbrev c0_Pl_from : ByteArray := prog_6_method_3_code
def y_In_bitCount : MethodName := ⟨"java/lang/Integer", "bitCount", "(I)I"⟩
abbrev c0_In_bitCount : ByteArray := prog_9_method_49_code
def T_0 : u_T := fun k => match k with
  | 0 => ("FactFinder", "plan", "LFactFinder$Plan;", true)
  | 1 => ("FactFinder", "findings", "LFactFinder$Findings;", true)
  | 2 => ("FactFinder", "trial", "LFactFinder$Drawing;", true)
  | 3 => ("FactFinder", "seed", "I", false)
  | _ => ("FactFinder", "figures", "I", false)
def ty_0 : Nat → FieldType := fun k => match k with
  | 0 => .object "FactFinder$Plan"
  | 1 => .object "FactFinder$Findings"
  | 2 => .object "FactFinder$Drawing"
  | 3 => .int
  | _ => .int
theorem nok_0 : ∀ a, a < 5 → ∀ b, b < 5 → a ≠ b → (T_0 a).2.1 ≠ (T_0 b).2.1 := by decide +kernel
theorem tok_0 : ∀ k, k < 5 → parseFieldDescriptor (T_0 k).2.2.1 = some (ty_0 k) := by decide +kernel
def T_1 : u_T := fun k => match k with
  | 0 => ("FactFinder$Plan", "kinds", "[I", true)
  | 1 => ("FactFinder$Plan", "sources", "[I", true)
  | _ => ("FactFinder$Plan", "size", "I", false)
def ty_1 : Nat → FieldType := fun k => match k with
  | 0 => .array .int
  | 1 => .array .int
  | _ => .int
theorem nok_1 : ∀ a, a < 3 → ∀ b, b < 3 → a ≠ b → (T_1 a).2.1 ≠ (T_1 b).2.1 := by decide +kernel
theorem tok_1 : ∀ k, k < 3 → parseFieldDescriptor (T_1 k).2.2.1 = some (ty_1 k) := by decide +kernel
def T_2 : u_T := fun k => match k with
  | 0 => ("FactFinder$Findings", "drawing", "LFactFinder$Drawing;", true)
  | 1 => ("FactFinder$Findings", "lists", "[LFactFinder$IntList;", true)
  | 2 => ("FactFinder$Findings", "rows", "LFactFinder$IntList;", true)
  | 3 => ("FactFinder$Findings", "rings", "LFactFinder$IntList;", true)
  | 4 => ("FactFinder$Findings", "leads", "[I", true)
  | 5 => ("FactFinder$Findings", "triples", "LFactFinder$IntList;", true)
  | 6 => ("FactFinder$Findings", "areas", "[J", true)
  | 7 => ("FactFinder$Findings", "points", "I", false)
  | _ => ("FactFinder$Findings", "known", "I", false)
def ty_2 : Nat → FieldType := fun k => match k with
  | 0 => .object "FactFinder$Drawing"
  | 1 => .array (.object "FactFinder$IntList")
  | 2 => .object "FactFinder$IntList"
  | 3 => .object "FactFinder$IntList"
  | 4 => .array .int
  | 5 => .object "FactFinder$IntList"
  | 6 => .array .long
  | 7 => .int
  | _ => .int
theorem nok_2 : ∀ a, a < 9 → ∀ b, b < 9 → a ≠ b → (T_2 a).2.1 ≠ (T_2 b).2.1 := by decide +kernel
theorem tok_2 : ∀ k, k < 9 → parseFieldDescriptor (T_2 k).2.2.1 = some (ty_2 k) := by decide +kernel
def T_3 : u_T := fun k => match k with
  | 0 => ("FactFinder$Drawing", "sheets", "[LFactFinder$Figure;", true)
  | 1 => ("FactFinder$Drawing", "standing", "I", false)
  | 2 => ("FactFinder$Drawing", "size", "I", false)
  | 3 => ("FactFinder$Drawing", "divisor", "J", false)
  | _ => ("FactFinder$Drawing", "inverse", "J", false)
def ty_3 : Nat → FieldType := fun k => match k with
  | 0 => .array (.object "FactFinder$Figure")
  | 1 => .int
  | 2 => .int
  | 3 => .long
  | _ => .long
theorem nok_3 : ∀ a, a < 5 → ∀ b, b < 5 → a ≠ b → (T_3 a).2.1 ≠ (T_3 b).2.1 := by decide +kernel
theorem tok_3 : ∀ k, k < 5 → parseFieldDescriptor (T_3 k).2.2.1 = some (ty_3 k) := by decide +kernel
def T_4 : u_T := fun k => match k with
  | 0 => ("FactFinder$Figure", "x", "[I", true)
  | 1 => ("FactFinder$Figure", "y", "[I", true)
  | 2 => ("FactFinder$Figure", "made", "I", false)
  | 3 => ("FactFinder$Figure", "fallen", "I", false)
  | 4 => ("FactFinder$Figure", "state", "J", false)
  | 5 => ("FactFinder$Figure", "foundX", "I", false)
  | _ => ("FactFinder$Figure", "foundY", "I", false)
def ty_4 : Nat → FieldType := fun k => match k with
  | 0 => .array .int
  | 1 => .array .int
  | 2 => .int
  | 3 => .int
  | 4 => .long
  | 5 => .int
  | _ => .int
theorem nok_4 : ∀ a, a < 7 → ∀ b, b < 7 → a ≠ b → (T_4 a).2.1 ≠ (T_4 b).2.1 := by decide +kernel
theorem tok_4 : ∀ k, k < 7 → parseFieldDescriptor (T_4 k).2.2.1 = some (ty_4 k) := by decide +kernel
def T_5 : u_T := fun k => match k with
  | 0 => ("FactFinder$IntList", "items", "[I", true)
  | _ => ("FactFinder$IntList", "size", "I", false)
def ty_5 : Nat → FieldType := fun k => match k with
  | 0 => .array .int
  | _ => .int
theorem nok_5 : ∀ a, a < 2 → ∀ b, b < 2 → a ≠ b → (T_5 a).2.1 ≠ (T_5 b).2.1 := by decide +kernel
theorem tok_5 : ∀ k, k < 2 → parseFieldDescriptor (T_5 k).2.2.1 = some (ty_5 k) := by decide +kernel
def T_6 : u_T := fun k => match k with
  | 0 => ("FactFinderModel", "many", "I", false)
  | 1 => ("FactFinderModel", "kindOf", "[I", true)
  | 2 => ("FactFinderModel", "need", "[I", true)
  | 3 => ("FactFinderModel", "seed", "I", false)
  | 4 => ("FactFinderModel", "figures", "I", false)
  | 5 => ("FactFinderModel", "xs", "[J", true)
  | 6 => ("FactFinderModel", "ys", "[J", true)
  | 7 => ("FactFinderModel", "fallsAt", "[I", true)
  | 8 => ("FactFinderModel", "figure", "I", false)
  | 9 => ("FactFinderModel", "state", "J", false)
  | 10 => ("FactFinderModel", "x", "J", false)
  | 11 => ("FactFinderModel", "y", "J", false)
  | 12 => ("FactFinderModel", "isFallen", "Z", false)
  | 13 => ("FactFinderModel", "\x72", "[I", true)
  | 14 => ("FactFinderModel", "foundM", "I", false)
  | 15 => ("FactFinderModel", "foundN", "I", false)
  | 16 => ("FactFinderModel", "same", "[Z", true)
  | 17 => ("FactFinderModel", "seen", "I", false)
  | 18 => ("FactFinderModel", "wanted", "I", false)
  | 19 => ("FactFinderModel", "found", "[I", true)
  | 20 => ("FactFinderModel", "isFound", "Z", false)
  | _ => ("FactFinderModel", "isSet", "[Z", true)
def ty_6 : Nat → FieldType := fun k => match k with
  | 0 => .int
  | 1 => .array .int
  | 2 => .array .int
  | 3 => .int
  | 4 => .int
  | 5 => .array .long
  | 6 => .array .long
  | 7 => .array .int
  | 8 => .int
  | 9 => .long
  | 10 => .long
  | 11 => .long
  | 12 => .boolean
  | 13 => .array .int
  | 14 => .int
  | 15 => .int
  | 16 => .array .boolean
  | 17 => .int
  | 18 => .int
  | 19 => .array .int
  | 20 => .boolean
  | _ => .array .boolean
theorem nok_6 : ∀ a, a < 22 → ∀ b, b < 22 → a ≠ b → (T_6 a).2.1 ≠ (T_6 b).2.1 := by decide +kernel
theorem tok_6 : ∀ k, k < 22 → parseFieldDescriptor (T_6 k).2.2.1 = some (ty_6 k) := by decide +kernel
abbrev classes : List vw_C := [("FactFinder", T_0, 5), ("FactFinder$Plan", T_1, 3), ("FactFinder$Findings", T_2, 9), ("FactFinder$Drawing", T_3, 5), ("FactFinder$Figure", T_4, 7), ("FactFinder$IntList", T_5, 2), ("FactFinderModel", T_6, 22)]
def tb_0 : Nat → Int32 := fun j => ([45, 120, 630, 990, 990, 210, 360, 7140, 990] : List Int32).getD j 0
def tb_1 : Nat → Int32 := fun j => ([0, 2, 3, 4, 3, 3, 3, 2, 3, 2, 2, 4, 3, 3] : List Int32).getD j 0
def tb_2 : Nat → Int32 := fun j => ([2, 3, 4, 4, 4, 4, 3, 6, 4] : List Int32).getD j 0
def tb_3 : Nat → Int32 := fun j => ([2, 3, 4, 4, 4, 4, 3, 6, 6] : List Int32).getD j 0
abbrev tysK (K : Nat → ClassId) : List (ClassId × FieldType) := [(K 0, .int), (K 1, .long), (K 2, .boolean), (K 3, .object "FactFinder$Figure"), (K 4, .object "FactFinder$IntList")]
abbrev tbT (t : Nat → Nat) : List fh_Tab := [(("FactFinder", "MOST_FACTS", "[I"), .int, t 0, 9, fun j => .int (tb_0 j)), (("FactFinder", "STEP_POINTS", "[I"), .int, t 1, 14, fun j => .int (tb_1 j)), (("FactFinder", "FACT_POINTS", "[I"), .int, t 2, 9, fun j => .int (tb_2 j)), (("FactFinder", "FACT_WIDTH", "[I"), .int, t 3, 9, fun j => .int (tb_3 j))]
def rm_FF_init : Room := { frames := 7, cells := 0, slots := 0, locals := 170 }
def rm_FF_clear : Room := { frames := 7, cells := 0, slots := 0, locals := 170 }
def rm_FF_step : Room := { frames := 6, cells := 0, slots := 0, locals := 150 }
def rm_FF_change : Room := { frames := 7, cells := 0, slots := 0, locals := 170 }
def rm_FF_draw : Room := { frames := 7, cells := 0, slots := 0, locals := 170 }
def rm_FF_count : Room := { frames := 6, cells := 0, slots := 0, locals := 145 }
def rm_FF_told : Room := { frames := 1, cells := 0, slots := 0, locals := 22 }
def rm_FF_falls : Room := { frames := 0, cells := 0, slots := 0, locals := 0 }
def rm_FF_place : Room := { frames := 1, cells := 0, slots := 0, locals := 21 }
def rm_FF_holds : Room := { frames := 6, cells := 0, slots := 0, locals := 157 }
def rm_FF_facts : Room := { frames := 7, cells := 0, slots := 0, locals := 181 }
def rm_FF_fact : Room := { frames := 7, cells := 0, slots := 0, locals := 181 }
def rm_FF_needs : Room := { frames := 7, cells := 0, slots := 0, locals := 181 }
def rm_FF_row : Room := { frames := 6, cells := 0, slots := 0, locals := 149 }
def rm_FF_ring : Room := { frames := 6, cells := 0, slots := 0, locals := 152 }
def rm_FF_drawAll : Room := { frames := 6, cells := 0, slots := 0, locals := 150 }
def rm_FF_isThere : Room := { frames := 0, cells := 0, slots := 0, locals := 0 }
def rm_FF_isStep : Room := { frames := 0, cells := 0, slots := 0, locals := 0 }
def rm_FF_isFactKind : Room := { frames := 0, cells := 0, slots := 0, locals := 0 }
def rm_FF_areThere : Room := { frames := 1, cells := 0, slots := 0, locals := 21 }
def rm_FF_isFact : Room := { frames := 1, cells := 0, slots := 0, locals := 23 }
def rm_FF_areTwoPairs : Room := { frames := 0, cells := 0, slots := 0, locals := 0 }
def rm_FF_areApartPairs : Room := { frames := 0, cells := 0, slots := 0, locals := 0 }
def rm_FF_pack : Room := { frames := 0, cells := 0, slots := 0, locals := 0 }
def rm_FF_join : Room := { frames := 0, cells := 0, slots := 0, locals := 0 }
def rm_FF_unpack : Room := { frames := 0, cells := 0, slots := 0, locals := 0 }
def rm_FF_invert : Room := { frames := 0, cells := 0, slots := 0, locals := 0 }
def rm_Mo_init : Room := { frames := 7, cells := 0, slots := 0, locals := 174 }
def rm_Mo_isIn : Room := { frames := 0, cells := 0, slots := 0, locals := 0 }
def rm_Mo_mod : Room := { frames := 0, cells := 0, slots := 0, locals := 0 }
def rm_Mo_inverse : Room := { frames := 1, cells := 0, slots := 0, locals := 23 }
def rm_Mo_needs1 : Room := { frames := 0, cells := 0, slots := 0, locals := 0 }
def rm_Mo_drawn : Room := { frames := 0, cells := 0, slots := 0, locals := 0 }
def rm_Mo_px : Room := { frames := 0, cells := 0, slots := 0, locals := 0 }
def rm_Mo_py : Room := { frames := 0, cells := 0, slots := 0, locals := 0 }
def rm_Mo_cross : Room := { frames := 1, cells := 0, slots := 0, locals := 23 }
def rm_Mo_dot : Room := { frames := 1, cells := 0, slots := 0, locals := 23 }
def rm_Mo_along : Room := { frames := 1, cells := 0, slots := 0, locals := 23 }
def rm_Mo_foot : Room := { frames := 2, cells := 0, slots := 0, locals := 50 }
def rm_Mo_centre : Room := { frames := 2, cells := 0, slots := 0, locals := 50 }
def rm_Mo_meet : Room := { frames := 2, cells := 0, slots := 0, locals := 50 }
def rm_Mo_doStep : Room := { frames := 4, cells := 0, slots := 0, locals := 106 }
def rm_Mo_doMore : Room := { frames := 3, cells := 0, slots := 0, locals := 81 }
def rm_Mo_round : Room := { frames := 2, cells := 0, slots := 0, locals := 50 }
def rm_Mo_turnOut : Room := { frames := 2, cells := 0, slots := 0, locals := 50 }
def rm_Mo_drawFigure : Room := { frames := 5, cells := 0, slots := 0, locals := 131 }
def rm_Mo_drawAll : Room := { frames := 6, cells := 0, slots := 0, locals := 153 }
def rm_Mo_standing : Room := { frames := 0, cells := 0, slots := 0, locals := 0 }
def rm_Mo_clear : Room := { frames := 7, cells := 0, slots := 0, locals := 174 }
def rm_Mo_areThere : Room := { frames := 1, cells := 0, slots := 0, locals := 22 }
def rm_Mo_setStep : Room := { frames := 1, cells := 0, slots := 0, locals := 20 }
def rm_Mo_step : Room := { frames := 7, cells := 0, slots := 0, locals := 174 }
def rm_Mo_isPoint : Room := { frames := 1, cells := 0, slots := 0, locals := 22 }
def rm_Mo_change : Room := { frames := 7, cells := 0, slots := 0, locals := 174 }
def rm_Mo_draw : Room := { frames := 7, cells := 0, slots := 0, locals := 174 }
def rm_Mo_count : Room := { frames := 7, cells := 0, slots := 0, locals := 176 }
def rm_Mo_told : Room := { frames := 2, cells := 0, slots := 0, locals := 43 }
def rm_Mo_falls : Room := { frames := 1, cells := 0, slots := 0, locals := 22 }
def rm_Mo_place : Room := { frames := 2, cells := 0, slots := 0, locals := 43 }
def rm_Mo_square : Room := { frames := 0, cells := 0, slots := 0, locals := 0 }
def rm_Mo_length : Room := { frames := 2, cells := 0, slots := 0, locals := 47 }
def rm_Mo_ringOf : Room := { frames := 2, cells := 0, slots := 0, locals := 47 }
def rm_Mo_lift : Room := { frames := 1, cells := 0, slots := 0, locals := 23 }
def rm_Mo_isSo : Room := { frames := 3, cells := 0, slots := 0, locals := 77 }
def rm_Mo_isAlways : Room := { frames := 4, cells := 0, slots := 0, locals := 104 }
def rm_Mo_isHeld : Room := { frames := 5, cells := 0, slots := 0, locals := 129 }
def rm_Mo_isOrdered : Room := { frames := 1, cells := 0, slots := 0, locals := 20 }
def rm_Mo_isBefore : Room := { frames := 0, cells := 0, slots := 0, locals := 0 }
def rm_Mo_size : Room := { frames := 0, cells := 0, slots := 0, locals := 0 }
def rm_Mo_setRow : Room := { frames := 0, cells := 0, slots := 0, locals := 0 }
def rm_Mo_holds : Room := { frames := 6, cells := 0, slots := 0, locals := 152 }
def rm_Mo_findSame : Room := { frames := 5, cells := 0, slots := 0, locals := 129 }
def rm_Mo_places : Room := { frames := 6, cells := 0, slots := 0, locals := 151 }
def rm_Mo_isEmpty : Room := { frames := 3, cells := 0, slots := 0, locals := 69 }
def rm_Mo_isTold : Room := { frames := 6, cells := 0, slots := 0, locals := 152 }
def rm_Mo_visit : Room := { frames := 7, cells := 0, slots := 0, locals := 176 }
def rm_Mo_walk : Room := { frames := 11, cells := 0, slots := 0, locals := 273 }
def rm_Mo_walkThird : Room := { frames := 10, cells := 0, slots := 0, locals := 249 }
def rm_Mo_walkMore : Room := { frames := 9, cells := 0, slots := 0, locals := 224 }
def rm_Mo_walkArea : Room := { frames := 8, cells := 0, slots := 0, locals := 198 }
def rm_Mo_facts : Room := { frames := 12, cells := 0, slots := 0, locals := 297 }
def rm_Mo_fact : Room := { frames := 12, cells := 0, slots := 0, locals := 297 }
def rm_Mo_needs3 : Room := { frames := 12, cells := 0, slots := 0, locals := 297 }
def rm_Mo_clearSets : Room := { frames := 6, cells := 0, slots := 0, locals := 151 }
def rm_Mo_set : Room := { frames := 0, cells := 0, slots := 0, locals := 0 }
def rm_Mo_row : Room := { frames := 7, cells := 0, slots := 0, locals := 176 }
def rm_Mo_lineOf : Room := { frames := 5, cells := 0, slots := 0, locals := 129 }
def rm_Mo_ring : Room := { frames := 7, cells := 0, slots := 0, locals := 176 }
def rm_Mo_ringThrough : Room := { frames := 5, cells := 0, slots := 0, locals := 129 }
def rm_Dr_init : Room := { frames := 0, cells := 0, slots := 0, locals := 0 }
def rm_Dr_begin : Room := { frames := 1, cells := 0, slots := 0, locals := 21 }
def rm_Dr_goOn : Room := { frames := 5, cells := 0, slots := 0, locals := 127 }
def rm_Dr_firstStanding : Room := { frames := 0, cells := 0, slots := 0, locals := 0 }
def rm_Dr_bears : Room := { frames := 5, cells := 0, slots := 0, locals := 135 }
def rm_Dr_isShown : Room := { frames := 3, cells := 0, slots := 0, locals := 80 }
def rm_Dr_giveNumbers : Room := { frames := 4, cells := 0, slots := 0, locals := 103 }
def rm_Dr_firstWithLength : Room := { frames := 1, cells := 0, slots := 0, locals := 26 }
def rm_Dr_withNumbers : Room := { frames := 0, cells := 0, slots := 0, locals := 0 }
def rm_Dr_divide : Room := { frames := 1, cells := 0, slots := 0, locals := 26 }
def rm_Fi_init : Room := { frames := 0, cells := 0, slots := 0, locals := 0 }
def rm_Fi_begin : Room := { frames := 0, cells := 0, slots := 0, locals := 0 }
def rm_Fi_goOn : Room := { frames := 4, cells := 0, slots := 0, locals := 103 }
def rm_Fi_find : Room := { frames := 3, cells := 0, slots := 0, locals := 78 }
def rm_Fi_found : Room := { frames := 0, cells := 0, slots := 0, locals := 0 }
def rm_Fi_nextNumber : Room := { frames := 0, cells := 0, slots := 0, locals := 0 }
def rm_Fi_findFree : Room := { frames := 1, cells := 0, slots := 0, locals := 26 }
def rm_Fi_findAlong : Room := { frames := 1, cells := 0, slots := 0, locals := 26 }
def rm_Fi_findFoot : Room := { frames := 2, cells := 0, slots := 0, locals := 50 }
def rm_Fi_findMeet : Room := { frames := 2, cells := 0, slots := 0, locals := 50 }
def rm_Fi_findCentre : Room := { frames := 1, cells := 0, slots := 0, locals := 26 }
def rm_Fi_findOnCircle : Room := { frames := 1, cells := 0, slots := 0, locals := 26 }
def rm_Fi_findTurnedOut : Room := { frames := 2, cells := 0, slots := 0, locals := 50 }
def rm_Fi_cross : Room := { frames := 0, cells := 0, slots := 0, locals := 0 }
def rm_Fi_dot : Room := { frames := 0, cells := 0, slots := 0, locals := 0 }
def rm_Fi_length : Room := { frames := 0, cells := 0, slots := 0, locals := 0 }
def rm_Fi_squaredArea : Room := { frames := 1, cells := 0, slots := 0, locals := 24 }
def rm_Fi_shows : Room := { frames := 2, cells := 0, slots := 0, locals := 52 }
def rm_Fi_showsCircle : Room := { frames := 1, cells := 0, slots := 0, locals := 26 }
def rm_Fs_init : Room := { frames := 0, cells := 0, slots := 0, locals := 0 }
def rm_Fs_forget : Room := { frames := 0, cells := 0, slots := 0, locals := 0 }
def rm_Fs_isNew : Room := { frames := 0, cells := 0, slots := 0, locals := 0 }
def rm_Fs_countPlaces : Room := { frames := 5, cells := 0, slots := 0, locals := 125 }
def rm_Fs_list : Room := { frames := 6, cells := 0, slots := 0, locals := 160 }
def rm_Fs_allRows : Room := { frames := 5, cells := 0, slots := 0, locals := 127 }
def rm_Fs_allRings : Room := { frames := 5, cells := 0, slots := 0, locals := 129 }
def rm_Fs_addRow : Room := { frames := 4, cells := 0, slots := 0, locals := 103 }
def rm_Fs_addRing : Room := { frames := 4, cells := 0, slots := 0, locals := 103 }
def rm_Fs_findLeads : Room := { frames := 4, cells := 0, slots := 0, locals := 103 }
def rm_Fs_placesOf : Room := { frames := 1, cells := 0, slots := 0, locals := 20 }
def rm_Fs_isApart : Room := { frames := 1, cells := 0, slots := 0, locals := 21 }
def rm_Fs_consider : Room := { frames := 4, cells := 0, slots := 0, locals := 103 }
def rm_Fs_listPairs : Room := { frames := 1, cells := 0, slots := 0, locals := 22 }
def rm_Fs_listTriples : Room := { frames := 5, cells := 0, slots := 0, locals := 125 }
def rm_Fs_listFours : Room := { frames := 5, cells := 0, slots := 0, locals := 125 }
def rm_Fs_listMiddles : Room := { frames := 5, cells := 0, slots := 0, locals := 125 }
def rm_Fs_listTwoPairs : Room := { frames := 5, cells := 0, slots := 0, locals := 125 }
def rm_Fs_listRatios : Room := { frames := 5, cells := 0, slots := 0, locals := 135 }
def rm_Fs_listAreas : Room := { frames := 5, cells := 0, slots := 0, locals := 127 }
def rm_Fs_findTriples : Room := { frames := 4, cells := 0, slots := 0, locals := 103 }
def rm_IL_init : Room := { frames := 0, cells := 0, slots := 0, locals := 0 }
def rm_IL_has : Room := { frames := 0, cells := 0, slots := 0, locals := 0 }
def rm_IL_add : Room := { frames := 0, cells := 0, slots := 0, locals := 0 }
def rm_IL_addRising : Room := { frames := 0, cells := 0, slots := 0, locals := 0 }
def rm_Pl_init : Room := { frames := 0, cells := 0, slots := 0, locals := 0 }
def rm_Pl_write : Room := { frames := 0, cells := 0, slots := 0, locals := 0 }
def rm_Pl_from : Room := { frames := 0, cells := 0, slots := 0, locals := 0 }
def rm_In_bitCount : Room := { frames := 0, cells := 0, slots := 0, locals := 0 }
def fT_0 : List Cond := [.fieldLink "FactFinder$Figure" 22 "FactFinder$Figure" "state" "J", .fieldLink "FactFinder$Figure" 26 "FactFinder$Figure" "made" "I", .fieldLink "FactFinder$Figure" 18 "FactFinder$Figure" "fallen" "I", .fieldLink "FactFinder$Drawing" 25 "FactFinder$Drawing" "size" "I", .fieldLink "FactFinder$Drawing" 11 "FactFinder$Drawing" "sheets" "[LFactFinder$Figure;", .methodLink "FactFinder$Drawing" 29 y_Fi_begin, .fieldLink "FactFinder$Plan" 15 "FactFinder$Plan" "sources" "[I", .constantLong "FactFinder$Figure" 91 48271, .constantLong "FactFinder$Figure" 93 2147483647, .constantLong "FactFinder$Figure" 88 1000003, .fieldLink "FactFinder$Figure" 45 "FactFinder$Figure" "foundX" "I", .fieldLink "FactFinder$Figure" 48 "FactFinder$Figure" "foundY" "I", .constant "FactFinder$Figure" 90 1000003, .methodLink "FactFinder$Figure" 72 y_Fi_nextNumber, .methodLink "FactFinder$Figure" 57 y_Fi_found, .fieldLink "FactFinder$Figure" 9 "FactFinder$Figure" "x" "[I", .fieldLink "FactFinder$Figure" 15 "FactFinder$Figure" "y" "[I", .constantLong "FactFinder" 164 1000003, .constant "FactFinder" 166 1000001, .methodLink "FactFinder$Figure" 95 y_Fi_length, .methodLink "FactFinder$Figure" 76 y_Fi_findAlong, .methodLink "FactFinder$Figure" 103 y_Fi_cross, .constantLong "FactFinder$Figure" 107 2, .methodLink "FactFinder$Figure" 85 y_Fi_findTurnedOut, .methodLink "FactFinder$Figure" 68 y_Fi_findCentre, .methodLink "FactFinder$Figure" 61 y_Fi_findFoot, .methodLink "FactFinder$Figure" 80 y_Fi_findOnCircle, .methodLink "FactFinder$Figure" 65 y_Fi_findMeet, .methodLink "FactFinder$Figure" 51 y_Fi_findFree, .constantLong "FactFinder$Figure" 55 500002, .constantLong "FactFinder$Figure" 83 666669, .fieldLink "FactFinder$Figure" 29 "FactFinder$Plan" "size" "I", .methodLink "FactFinder$Figure" 37 y_Pl_from, .methodLink "FactFinder$Figure" 41 y_Fi_find, .fieldLink "FactFinder$Figure" 34 "FactFinder$Plan" "kinds" "[I", .methodLink "FactFinder$Drawing" 36 y_Fi_goOn, .fieldLink "FactFinder$Drawing" 40 "FactFinder$Figure" "fallen" "I", .fieldLink "FactFinder$Drawing" 33 "FactFinder$Drawing" "standing" "I", .fieldLink "FactFinder$Findings" 48 "FactFinder$Findings" "points" "I", .fieldLink "FactFinder$Findings" 52 "FactFinder$Findings" "known" "I"]
def fT_1 : List Cond := [.fieldLink "FactFinder" 19 "FactFinder" "findings" "LFactFinder$Findings;", .fieldLink "FactFinder" 51 "FactFinder$Findings" "drawing" "LFactFinder$Drawing;", .fieldLink "FactFinder" 30 "FactFinder" "seed" "I", .fieldLink "FactFinder" 34 "FactFinder" "figures" "I", .methodLink "FactFinder" 146 y_Dr_begin, .fieldLink "FactFinder" 10 "FactFinder" "plan" "LFactFinder$Plan;", .methodLink "FactFinder" 54 y_Dr_goOn, .fieldLink "FactFinder" 40 "FactFinder$Plan" "size" "I", .methodLink "FactFinder" 58 y_Fs_forget, .methodLink "FactFinder" 37 y_FF_drawAll, .fieldLink "FactFinder" 78 "FactFinder" "STEP_POINTS" "[I", .fieldLink "FactFinder$Plan" 9 "FactFinder$Plan" "kinds" "[I", .methodLink "FactFinder" 43 y_FF_isStep, .methodLink "FactFinder" 47 y_Pl_write, .methodLink "FactFinder" 62 y_FF_isThere, .fieldLink "FactFinder" 66 "FactFinder$Plan" "kinds" "[I", .fieldLink "FactFinder" 71 "FactFinder$Drawing" "standing" "I", .constant "FactFinder" 70 1000000, .methodLink "FactFinder$Figure" 118 y_Fi_squaredArea, .methodLink "FactFinder$Figure" 115 y_Fi_showsCircle, .methodLink "FactFinder$Figure" 112 y_Fi_dot, .methodLink "FactFinder$Drawing" 51 y_Fi_shows, .methodLink "FactFinder$Findings" 62 y_Fs_isNew, .fieldLink "FactFinder$Findings" 34 "FactFinder$Findings" "leads" "[I", .fieldLink "FactFinder$Findings" 12 "FactFinder$Findings" "drawing" "LFactFinder$Drawing;", .methodLink "FactFinder$Findings" 102 y_Dr_isShown, .constant "java/lang/Integer" 265 1431655765, .constant "java/lang/Integer" 266 858993459, .constant "java/lang/Integer" 267 252645135, .methodLink "FactFinder$Findings" 113 y_In_bitCount, .methodLink "FactFinder$Findings" 55 y_Fs_findLeads, .methodLink "FactFinder$Findings" 58 y_Fs_placesOf, .methodLink "FactFinder" 74 y_Fs_countPlaces, .methodLink "FactFinder" 81 y_Pl_from, .fieldLink "FactFinder" 85 "FactFinder$Drawing" "sheets" "[LFactFinder$Figure;", .fieldLink "FactFinder" 89 "FactFinder$Figure" "fallen" "I", .fieldLink "FactFinder" 94 "FactFinder$Figure" "made" "I", .fieldLink "FactFinder" 97 "FactFinder$Figure" "x" "[I", .fieldLink "FactFinder" 100 "FactFinder$Figure" "y" "[I", .methodLink "FactFinder" 157 y_FF_areTwoPairs]
def fT_2 : List Cond := [.methodLink "FactFinder" 161 y_FF_areApartPairs, .methodLink "FactFinder$Drawing" 66 y_Fi_length, .constant "FactFinder$Drawing" 78 65535, .fieldLink "FactFinder$Drawing" 17 "FactFinder$Drawing" "divisor" "J", .fieldLink "FactFinder$Drawing" 21 "FactFinder$Drawing" "inverse" "J", .constantLong "FactFinder$Drawing" 74 1000003, .methodLink "FactFinder$Drawing" 54 y_Dr_firstWithLength, .methodLink "FactFinder$Drawing" 58 y_Dr_withNumbers, .methodLink "FactFinder$Drawing" 70 y_Dr_divide, .methodLink "FactFinder$Drawing" 47 y_Dr_isShown, .constantLong "FactFinder$Drawing" 76 9, .methodLink "FactFinder$Drawing" 43 y_Dr_giveNumbers, .methodLink "FactFinder" 103 y_FF_isFactKind, .fieldLink "FactFinder" 106 "FactFinder" "FACT_POINTS" "[I", .methodLink "FactFinder" 109 y_FF_areThere, .methodLink "FactFinder" 113 y_FF_isFact, .methodLink "FactFinder" 116 y_FF_pack, .methodLink "FactFinder" 120 y_FF_join, .methodLink "FactFinder" 123 y_Dr_bears, .fieldLink "FactFinder$IntList" 19 "FactFinder$IntList" "size" "I", .fieldLink "FactFinder$IntList" 13 "FactFinder$IntList" "items" "[I", .fieldLink "FactFinder$Findings" 20 "FactFinder$Findings" "lists" "[LFactFinder$IntList;", .methodLink "FactFinder$Findings" 127 y_IL_add, .methodLink "FactFinder$Findings" 124 y_Fs_isApart, .methodLink "FactFinder$Findings" 130 y_Fs_consider, .fieldLink "FactFinder$Findings" 38 "FactFinder$Findings" "triples" "LFactFinder$IntList;", .fieldLink "FactFinder$Findings" 66 "FactFinder$IntList" "size" "I", .fieldLink "FactFinder$Findings" 41 "FactFinder$Findings" "areas" "[J", .methodLink "FactFinder$Findings" 151 y_Fi_squaredArea, .methodLink "FactFinder$Findings" 140 y_Dr_firstStanding, .methodLink "FactFinder$Findings" 144 y_Fs_findTriples, .fieldLink "FactFinder$Findings" 148 "FactFinder$IntList" "items" "[I", .methodLink "FactFinder$Findings" 137 y_Dr_giveNumbers, .methodLink "FactFinder$Findings" 84 y_Fs_listRatios, .methodLink "FactFinder$Findings" 81 y_Fs_listAreas, .methodLink "FactFinder$Findings" 78 y_Fs_listMiddles, .methodLink "FactFinder$Findings" 75 y_Fs_listFours, .methodLink "FactFinder$Findings" 72 y_Fs_listTriples, .methodLink "FactFinder$Findings" 69 y_Fs_listPairs, .methodLink "FactFinder$Findings" 87 y_Fs_listTwoPairs]
def fT_3 : List Cond := [.methodLink "FactFinder" 127 y_Fs_list, .fieldLink "FactFinder" 131 "FactFinder$IntList" "size" "I", .methodLink "FactFinder" 134 y_IL_has, .fieldLink "FactFinder" 137 "FactFinder" "FACT_WIDTH" "[I", .fieldLink "FactFinder" 140 "FactFinder$IntList" "items" "[I", .methodLink "FactFinder" 143 y_FF_unpack, .fieldLink "FactFinder" 26 "FactFinder" "trial" "LFactFinder$Drawing;", .fieldLink "FactFinder$Findings" 27 "FactFinder$Findings" "rows" "LFactFinder$IntList;", .methodLink "FactFinder$Findings" 106 y_IL_addRising, .methodLink "FactFinder$Findings" 90 y_Fs_addRow, .methodLink "FactFinder" 150 y_Fs_allRows, .fieldLink "FactFinder$Findings" 31 "FactFinder$Findings" "rings" "LFactFinder$IntList;", .methodLink "FactFinder$Findings" 94 y_Fs_addRing, .methodLink "FactFinder" 154 y_Fs_allRings, .constantLong "FactFinderModel" 49 1000003, .methodLink "FactFinderModel" 51 y_Mo_mod, .constantLong "FactFinderModel" 55 1000001, .fieldLink "FactFinderModel" 57 "FactFinderModel" "state" "J", .constantLong "FactFinderModel" 61 48271, .constantLong "FactFinderModel" 63 2147483647, .fieldLink "FactFinderModel" 23 "FactFinderModel" "xs" "[J", .fieldLink "FactFinderModel" 65 "FactFinderModel" "figure" "I", .fieldLink "FactFinderModel" 27 "FactFinderModel" "ys" "[J", .methodLink "FactFinderModel" 68 y_Mo_px, .methodLink "FactFinderModel" 72 y_Mo_py, .fieldLink "FactFinderModel" 75 "FactFinderModel" "x" "J", .fieldLink "FactFinderModel" 78 "FactFinderModel" "y" "J", .methodLink "FactFinderModel" 81 y_Mo_dot, .methodLink "FactFinderModel" 89 y_Mo_inverse, .methodLink "FactFinderModel" 92 y_Mo_along, .fieldLink "FactFinderModel" 85 "FactFinderModel" "isFallen" "Z", .methodLink "FactFinderModel" 98 y_Mo_cross, .constantLong "FactFinderModel" 96 2, .methodLink "FactFinderModel" 113 y_Mo_centre, .methodLink "FactFinderModel" 105 y_Mo_foot, .methodLink "FactFinderModel" 101 y_Mo_drawn, .methodLink "FactFinderModel" 121 y_Mo_round, .methodLink "FactFinderModel" 126 y_Mo_turnOut, .constantLong "FactFinderModel" 124 3, .methodLink "FactFinderModel" 109 y_Mo_meet]
def fT_4 : List Cond := [.methodLink "FactFinderModel" 117 y_Mo_doMore, .fieldLink "FactFinderModel" 16 "FactFinderModel" "seed" "I", .fieldLink "FactFinderModel" 30 "FactFinderModel" "fallsAt" "[I", .fieldLink "FactFinderModel" 131 "FactFinderModel" "many" "I", .fieldLink "FactFinderModel" 7 "FactFinderModel" "kindOf" "[I", .fieldLink "FactFinderModel" 13 "FactFinderModel" "need" "[I", .methodLink "FactFinderModel" 134 y_Mo_doStep, .constantLong "FactFinderModel" 129 1000, .fieldLink "FactFinderModel" 20 "FactFinderModel" "figures" "I", .methodLink "FactFinderModel" 137 y_Mo_drawFigure, .methodLink "FactFinderModel" 46 y_Mo_drawAll, .methodLink "FactFinderModel" 141 y_Mo_needs1, .methodLink "FactFinderModel" 145 y_Mo_isIn, .methodLink "FactFinderModel" 149 y_Mo_areThere, .methodLink "FactFinderModel" 153 y_Mo_setStep, .methodLink "FactFinderModel" 157 y_Mo_isPoint, .methodLink "FactFinderModel" 162 y_Mo_standing, .constant "FactFinderModel" 161 1000000, .fieldLink "FactFinderModel" 33 "FactFinderModel" "\x72" "[I", .methodLink "FactFinderModel" 173 y_Mo_square, .methodLink "FactFinderModel" 169 y_Mo_lift, .methodLink "FactFinderModel" 179 y_Mo_ringOf, .methodLink "FactFinderModel" 176 y_Mo_length, .methodLink "FactFinderModel" 182 y_Mo_isSo, .methodLink "FactFinderModel" 198 y_Mo_setRow, .fieldLink "FactFinderModel" 36 "FactFinderModel" "same" "[Z", .methodLink "FactFinderModel" 185 y_Mo_isAlways, .methodLink "FactFinderModel" 210 y_Mo_findSame, .methodLink "FactFinderModel" 166 y_Mo_places, .fieldLink "FactFinderModel" 188 "FactFinderModel" "foundM" "I", .fieldLink "FactFinderModel" 191 "FactFinderModel" "foundN" "I", .methodLink "FactFinderModel" 194 y_Mo_isBefore, .methodLink "FactFinderModel" 201 y_Mo_size, .methodLink "FactFinderModel" 204 y_Mo_isOrdered, .methodLink "FactFinderModel" 207 y_Mo_isHeld, .methodLink "FactFinderModel" 213 y_Mo_isEmpty, .methodLink "FactFinderModel" 216 y_Mo_isTold, .fieldLink "FactFinderModel" 219 "FactFinderModel" "seen" "I", .fieldLink "FactFinderModel" 222 "FactFinderModel" "wanted" "I", .fieldLink "FactFinderModel" 40 "FactFinderModel" "found" "[I"]
def fT_5 : List Cond := [.fieldLink "FactFinderModel" 225 "FactFinderModel" "isFound" "Z", .methodLink "FactFinderModel" 228 y_Mo_visit, .methodLink "FactFinderModel" 237 y_Mo_walkArea, .methodLink "FactFinderModel" 234 y_Mo_walkMore, .methodLink "FactFinderModel" 231 y_Mo_walkThird, .methodLink "FactFinderModel" 240 y_Mo_walk, .fieldLink "FactFinderModel" 43 "FactFinderModel" "isSet" "[Z", .methodLink "FactFinderModel" 244 y_Mo_clearSets, .methodLink "FactFinderModel" 247 y_Mo_lineOf, .methodLink "FactFinderModel" 251 y_Mo_set, .methodLink "FactFinderModel" 254 y_Mo_ringThrough, .code y_Fi_begin c0_Fi_begin 2 none, .initialized "FactFinder$Figure", .instanceMethod y_Fi_begin, .selects "FactFinder$Figure" y_Fi_begin y_Fi_begin, .code y_Dr_begin c0_Dr_begin 4 none, .initialized "FactFinder$Drawing", .instanceMethod y_Dr_begin, .selects "FactFinder$Drawing" y_Dr_begin y_Dr_begin, .code y_Pl_from c0_Pl_from 3 (some .int), .initialized "FactFinder$Plan", .instanceMethod y_Pl_from, .selects "FactFinder$Plan" y_Pl_from y_Pl_from, .code y_Fi_nextNumber c0_Fi_nextNumber 1 (some .long), .instanceMethod y_Fi_nextNumber, .selects "FactFinder$Figure" y_Fi_nextNumber y_Fi_nextNumber, .code y_Fi_found c0_Fi_found 7 (some .boolean), .instanceMethod y_Fi_found, .selects "FactFinder$Figure" y_Fi_found y_Fi_found, .code y_Fi_findFree c0_Fi_findFree 5 (some .boolean), .instanceMethod y_Fi_findFree, .selects "FactFinder$Figure" y_Fi_findFree y_Fi_findFree, .code y_Fi_length c0_Fi_length 7 (some .long), .instanceMethod y_Fi_length, .selects "FactFinder$Figure" y_Fi_length y_Fi_length, .code y_FF_invert c0_FF_invert 7 (some .long), .initialized "FactFinder", .static y_FF_invert, .code y_Fi_findAlong c0_Fi_findAlong 5 (some .boolean), .instanceMethod y_Fi_findAlong]
def fT_6 : List Cond := [.selects "FactFinder$Figure" y_Fi_findAlong y_Fi_findAlong, .code y_Fi_findFoot c0_Fi_findFoot 9 (some .boolean), .instanceMethod y_Fi_findFoot, .selects "FactFinder$Figure" y_Fi_findFoot y_Fi_findFoot, .code y_Fi_cross c0_Fi_cross 5 (some .long), .instanceMethod y_Fi_cross, .selects "FactFinder$Figure" y_Fi_cross y_Fi_cross, .code y_Fi_findMeet c0_Fi_findMeet 7 (some .boolean), .instanceMethod y_Fi_findMeet, .selects "FactFinder$Figure" y_Fi_findMeet y_Fi_findMeet, .code y_Fi_findCentre c0_Fi_findCentre 16 (some .boolean), .instanceMethod y_Fi_findCentre, .selects "FactFinder$Figure" y_Fi_findCentre y_Fi_findCentre, .code y_Fi_findOnCircle c0_Fi_findOnCircle 11 (some .boolean), .instanceMethod y_Fi_findOnCircle, .selects "FactFinder$Figure" y_Fi_findOnCircle y_Fi_findOnCircle, .code y_Fi_findTurnedOut c0_Fi_findTurnedOut 6 (some .boolean), .instanceMethod y_Fi_findTurnedOut, .selects "FactFinder$Figure" y_Fi_findTurnedOut y_Fi_findTurnedOut, .code y_Fi_find c0_Fi_find 6 (some .boolean), .instanceMethod y_Fi_find, .selects "FactFinder$Figure" y_Fi_find y_Fi_find, .code y_Fi_goOn c0_Fi_goOn 5 none, .instanceMethod y_Fi_goOn, .selects "FactFinder$Figure" y_Fi_goOn y_Fi_goOn, .code y_Dr_goOn c0_Dr_goOn 4 none, .instanceMethod y_Dr_goOn, .selects "FactFinder$Drawing" y_Dr_goOn y_Dr_goOn, .code y_Fs_forget c0_Fs_forget 2 none, .initialized "FactFinder$Findings", .instanceMethod y_Fs_forget, .selects "FactFinder$Findings" y_Fs_forget y_Fs_forget, .code y_FF_drawAll c0_FF_drawAll 1 none, .instanceMethod y_FF_drawAll, .selects "FactFinder" y_FF_drawAll y_FF_drawAll, .code y_FF_clear c0_FF_clear 2 (some .int), .instanceMethod y_FF_clear, .selects "FactFinder" y_FF_clear y_FF_clear, .code y_FF_isStep c0_FF_isStep 7 (some .boolean), .static y_FF_isStep]
def fT_7 : List Cond := [.code y_Pl_write c0_Pl_write 9 none, .instanceMethod y_Pl_write, .selects "FactFinder$Plan" y_Pl_write y_Pl_write, .code y_FF_step c0_FF_step 7 (some .int), .instanceMethod y_FF_step, .selects "FactFinder" y_FF_step y_FF_step, .code y_FF_isThere c0_FF_isThere 2 (some .boolean), .instanceMethod y_FF_isThere, .selects "FactFinder" y_FF_isThere y_FF_isThere, .code y_FF_change c0_FF_change 8 (some .int), .instanceMethod y_FF_change, .selects "FactFinder" y_FF_change y_FF_change, .code y_FF_draw c0_FF_draw 3 (some .int), .instanceMethod y_FF_draw, .selects "FactFinder" y_FF_draw y_FF_draw, .code y_Fs_isNew c0_Fs_isNew 3 (some .boolean), .instanceMethod y_Fs_isNew, .selects "FactFinder$Findings" y_Fs_isNew y_Fs_isNew, .code y_FF_pack c0_FF_pack 3 (some .int), .static y_FF_pack, .code y_FF_unpack c0_FF_unpack 2 (some .int), .static y_FF_unpack, .code y_Fi_dot c0_Fi_dot 5 (some .long), .instanceMethod y_Fi_dot, .selects "FactFinder$Figure" y_Fi_dot y_Fi_dot, .code y_Fi_showsCircle c0_Fi_showsCircle 7 (some .boolean), .instanceMethod y_Fi_showsCircle, .selects "FactFinder$Figure" y_Fi_showsCircle y_Fi_showsCircle, .code y_Fi_squaredArea c0_Fi_squaredArea 6 (some .long), .instanceMethod y_Fi_squaredArea, .selects "FactFinder$Figure" y_Fi_squaredArea y_Fi_squaredArea, .code y_Fi_shows c0_Fi_shows 9 (some .boolean), .instanceMethod y_Fi_shows, .selects "FactFinder$Figure" y_Fi_shows y_Fi_shows, .code y_Dr_isShown c0_Dr_isShown 4 (some .boolean), .instanceMethod y_Dr_isShown, .selects "FactFinder$Drawing" y_Dr_isShown y_Dr_isShown, .code y_Fs_findLeads c0_Fs_findLeads 3 none, .instanceMethod y_Fs_findLeads, .selects "FactFinder$Findings" y_Fs_findLeads y_Fs_findLeads]
def fT_8 : List Cond := [.code y_In_bitCount c0_In_bitCount 1 (some .int), .initialized "java/lang/Integer", .static y_In_bitCount, .code y_Fs_placesOf c0_Fs_placesOf 4 (some .int), .instanceMethod y_Fs_placesOf, .selects "FactFinder$Findings" y_Fs_placesOf y_Fs_placesOf, .code y_Fs_countPlaces c0_Fs_countPlaces 1 (some .int), .instanceMethod y_Fs_countPlaces, .selects "FactFinder$Findings" y_Fs_countPlaces y_Fs_countPlaces, .code y_FF_count c0_FF_count 2 (some .int), .instanceMethod y_FF_count, .selects "FactFinder" y_FF_count y_FF_count, .code y_FF_told c0_FF_told 4 (some .int), .instanceMethod y_FF_told, .selects "FactFinder" y_FF_told y_FF_told, .code y_FF_falls c0_FF_falls 2 (some .int), .instanceMethod y_FF_falls, .selects "FactFinder" y_FF_falls y_FF_falls, .code y_FF_place c0_FF_place 5 (some .int), .instanceMethod y_FF_place, .selects "FactFinder" y_FF_place y_FF_place, .code y_FF_isFactKind c0_FF_isFactKind 1 (some .boolean), .static y_FF_isFactKind, .code y_FF_areThere c0_FF_areThere 8 (some .boolean), .instanceMethod y_FF_areThere, .selects "FactFinder" y_FF_areThere y_FF_areThere, .code y_FF_areTwoPairs c0_FF_areTwoPairs 4 (some .boolean), .static y_FF_areTwoPairs, .code y_FF_areApartPairs c0_FF_areApartPairs 4 (some .boolean), .static y_FF_areApartPairs, .code y_FF_isFact c0_FF_isFact 7 (some .boolean), .static y_FF_isFact, .code y_FF_join c0_FF_join 2 (some .int), .static y_FF_join, .code y_Dr_firstWithLength c0_Dr_firstWithLength 4 (some (.object "FactFinder$Figure")), .instanceMethod y_Dr_firstWithLength, .selects "FactFinder$Drawing" y_Dr_firstWithLength y_Dr_firstWithLength, .code y_Dr_withNumbers c0_Dr_withNumbers 4 (some .int), .static y_Dr_withNumbers, .code y_Dr_divide c0_Dr_divide 5 (some .long)]
def fT_9 : List Cond := [.instanceMethod y_Dr_divide, .selects "FactFinder$Drawing" y_Dr_divide y_Dr_divide, .code y_Dr_giveNumbers c0_Dr_giveNumbers 13 (some .int), .instanceMethod y_Dr_giveNumbers, .selects "FactFinder$Drawing" y_Dr_giveNumbers y_Dr_giveNumbers, .code y_Dr_bears c0_Dr_bears 3 (some .boolean), .instanceMethod y_Dr_bears, .selects "FactFinder$Drawing" y_Dr_bears y_Dr_bears, .code y_FF_holds c0_FF_holds 10 (some .int), .instanceMethod y_FF_holds, .selects "FactFinder" y_FF_holds y_FF_holds, .code y_IL_add c0_IL_add 2 none, .initialized "FactFinder$IntList", .instanceMethod y_IL_add, .selects "FactFinder$IntList" y_IL_add y_IL_add, .code y_Fs_listPairs c0_Fs_listPairs 3 none, .instanceMethod y_Fs_listPairs, .selects "FactFinder$Findings" y_Fs_listPairs y_Fs_listPairs, .code y_Fs_isApart c0_Fs_isApart 7 (some .boolean), .instanceMethod y_Fs_isApart, .selects "FactFinder$Findings" y_Fs_isApart y_Fs_isApart, .code y_Fs_consider c0_Fs_consider 3 none, .instanceMethod y_Fs_consider, .selects "FactFinder$Findings" y_Fs_consider y_Fs_consider, .code y_Fs_listTriples c0_Fs_listTriples 4 none, .instanceMethod y_Fs_listTriples, .selects "FactFinder$Findings" y_Fs_listTriples y_Fs_listTriples, .code y_Fs_listFours c0_Fs_listFours 5 none, .instanceMethod y_Fs_listFours, .selects "FactFinder$Findings" y_Fs_listFours y_Fs_listFours, .code y_Fs_listMiddles c0_Fs_listMiddles 4 none, .instanceMethod y_Fs_listMiddles, .selects "FactFinder$Findings" y_Fs_listMiddles y_Fs_listMiddles, .code y_Dr_firstStanding c0_Dr_firstStanding 2 (some (.object "FactFinder$Figure")), .instanceMethod y_Dr_firstStanding, .selects "FactFinder$Drawing" y_Dr_firstStanding y_Dr_firstStanding, .code y_Fs_findTriples c0_Fs_findTriples 5 none, .instanceMethod y_Fs_findTriples, .selects "FactFinder$Findings" y_Fs_findTriples y_Fs_findTriples, .code y_Fs_listAreas c0_Fs_listAreas 4 none]
def fT_10 : List Cond := [.instanceMethod y_Fs_listAreas, .selects "FactFinder$Findings" y_Fs_listAreas y_Fs_listAreas, .code y_Fs_listRatios c0_Fs_listRatios 6 none, .instanceMethod y_Fs_listRatios, .selects "FactFinder$Findings" y_Fs_listRatios y_Fs_listRatios, .code y_Fs_listTwoPairs c0_Fs_listTwoPairs 6 none, .instanceMethod y_Fs_listTwoPairs, .selects "FactFinder$Findings" y_Fs_listTwoPairs y_Fs_listTwoPairs, .code y_Fs_list c0_Fs_list 2 (some (.object "FactFinder$IntList")), .instanceMethod y_Fs_list, .selects "FactFinder$Findings" y_Fs_list y_Fs_list, .code y_FF_facts c0_FF_facts 2 (some .int), .instanceMethod y_FF_facts, .selects "FactFinder" y_FF_facts y_FF_facts, .code y_IL_has c0_IL_has 2 (some .boolean), .instanceMethod y_IL_has, .selects "FactFinder$IntList" y_IL_has y_IL_has, .code y_FF_fact c0_FF_fact 5 (some .int), .instanceMethod y_FF_fact, .selects "FactFinder" y_FF_fact y_FF_fact, .code y_FF_needs c0_FF_needs 5 (some .int), .instanceMethod y_FF_needs, .selects "FactFinder" y_FF_needs y_FF_needs, .code y_IL_addRising c0_IL_addRising 4 none, .instanceMethod y_IL_addRising, .selects "FactFinder$IntList" y_IL_addRising y_IL_addRising, .code y_Fs_addRow c0_Fs_addRow 5 none, .instanceMethod y_Fs_addRow, .selects "FactFinder$Findings" y_Fs_addRow y_Fs_addRow, .code y_Fs_allRows c0_Fs_allRows 3 (some (.object "FactFinder$IntList")), .instanceMethod y_Fs_allRows, .selects "FactFinder$Findings" y_Fs_allRows y_Fs_allRows, .code y_FF_row c0_FF_row 3 (some .int), .instanceMethod y_FF_row, .selects "FactFinder" y_FF_row y_FF_row, .code y_Fs_addRing c0_Fs_addRing 7 none, .instanceMethod y_Fs_addRing, .selects "FactFinder$Findings" y_Fs_addRing y_Fs_addRing, .code y_Fs_allRings c0_Fs_allRings 4 (some (.object "FactFinder$IntList")), .instanceMethod y_Fs_allRings]
def fT_11 : List Cond := [.selects "FactFinder$Findings" y_Fs_allRings y_Fs_allRings, .code y_FF_ring c0_FF_ring 3 (some .int), .instanceMethod y_FF_ring, .selects "FactFinder" y_FF_ring y_FF_ring, .code y_Mo_isIn c0_Mo_isIn 3 (some .boolean), .initialized "FactFinderModel", .static y_Mo_isIn, .code y_Mo_mod c0_Mo_mod 4 (some .long), .static y_Mo_mod, .code y_Mo_inverse c0_Mo_inverse 8 (some .long), .static y_Mo_inverse, .code y_Mo_needs1 c0_Mo_needs1 1 (some .int), .static y_Mo_needs1, .code y_Mo_drawn c0_Mo_drawn 1 (some .long), .instanceMethod y_Mo_drawn, .selects "FactFinderModel" y_Mo_drawn y_Mo_drawn, .code y_Mo_px c0_Mo_px 2 (some .long), .instanceMethod y_Mo_px, .selects "FactFinderModel" y_Mo_px y_Mo_px, .code y_Mo_py c0_Mo_py 2 (some .long), .instanceMethod y_Mo_py, .selects "FactFinderModel" y_Mo_py y_Mo_py, .code y_Mo_cross c0_Mo_cross 5 (some .long), .instanceMethod y_Mo_cross, .selects "FactFinderModel" y_Mo_cross y_Mo_cross, .code y_Mo_dot c0_Mo_dot 5 (some .long), .instanceMethod y_Mo_dot, .selects "FactFinderModel" y_Mo_dot y_Mo_dot, .code y_Mo_along c0_Mo_along 5 none, .instanceMethod y_Mo_along, .selects "FactFinderModel" y_Mo_along y_Mo_along, .code y_Mo_foot c0_Mo_foot 11 none, .instanceMethod y_Mo_foot, .selects "FactFinderModel" y_Mo_foot y_Mo_foot, .code y_Mo_centre c0_Mo_centre 12 none, .instanceMethod y_Mo_centre, .selects "FactFinderModel" y_Mo_centre y_Mo_centre, .code y_Mo_meet c0_Mo_meet 7 none, .instanceMethod y_Mo_meet, .selects "FactFinderModel" y_Mo_meet y_Mo_meet]
def fT_12 : List Cond := [.code y_Mo_round c0_Mo_round 9 none, .instanceMethod y_Mo_round, .selects "FactFinderModel" y_Mo_round y_Mo_round, .code y_Mo_turnOut c0_Mo_turnOut 6 none, .instanceMethod y_Mo_turnOut, .selects "FactFinderModel" y_Mo_turnOut y_Mo_turnOut, .code y_Mo_doMore c0_Mo_doMore 6 none, .instanceMethod y_Mo_doMore, .selects "FactFinderModel" y_Mo_doMore y_Mo_doMore, .code y_Mo_doStep c0_Mo_doStep 6 none, .instanceMethod y_Mo_doStep, .selects "FactFinderModel" y_Mo_doStep y_Mo_doStep, .code y_Mo_drawFigure c0_Mo_drawFigure 3 none, .instanceMethod y_Mo_drawFigure, .selects "FactFinderModel" y_Mo_drawFigure y_Mo_drawFigure, .code y_Mo_drawAll c0_Mo_drawAll 2 none, .instanceMethod y_Mo_drawAll, .selects "FactFinderModel" y_Mo_drawAll y_Mo_drawAll, .code y_Mo_standing c0_Mo_standing 3 (some .int), .instanceMethod y_Mo_standing, .selects "FactFinderModel" y_Mo_standing y_Mo_standing, .code y_Mo_clear c0_Mo_clear 2 (some .int), .instanceMethod y_Mo_clear, .selects "FactFinderModel" y_Mo_clear y_Mo_clear, .code y_Mo_areThere c0_Mo_areThere 7 (some .boolean), .static y_Mo_areThere, .code y_Mo_setStep c0_Mo_setStep 8 none, .instanceMethod y_Mo_setStep, .selects "FactFinderModel" y_Mo_setStep y_Mo_setStep, .code y_Mo_step c0_Mo_step 6 (some .int), .instanceMethod y_Mo_step, .selects "FactFinderModel" y_Mo_step y_Mo_step, .code y_Mo_isPoint c0_Mo_isPoint 2 (some .boolean), .instanceMethod y_Mo_isPoint, .selects "FactFinderModel" y_Mo_isPoint y_Mo_isPoint, .code y_Mo_change c0_Mo_change 8 (some .int), .instanceMethod y_Mo_change, .selects "FactFinderModel" y_Mo_change y_Mo_change, .code y_Mo_draw c0_Mo_draw 3 (some .int), .instanceMethod y_Mo_draw]
def fT_13 : List Cond := [.selects "FactFinderModel" y_Mo_draw y_Mo_draw, .code y_Mo_setRow c0_Mo_setRow 7 none, .instanceMethod y_Mo_setRow, .selects "FactFinderModel" y_Mo_setRow y_Mo_setRow, .code y_Mo_length c0_Mo_length 3 (some .long), .instanceMethod y_Mo_length, .selects "FactFinderModel" y_Mo_length y_Mo_length, .code y_Mo_square c0_Mo_square 2 (some .long), .static y_Mo_square, .code y_Mo_lift c0_Mo_lift 3 (some .long), .instanceMethod y_Mo_lift, .selects "FactFinderModel" y_Mo_lift y_Mo_lift, .code y_Mo_ringOf c0_Mo_ringOf 11 (some .long), .instanceMethod y_Mo_ringOf, .selects "FactFinderModel" y_Mo_ringOf y_Mo_ringOf, .code y_Mo_isSo c0_Mo_isSo 8 (some .boolean), .instanceMethod y_Mo_isSo, .selects "FactFinderModel" y_Mo_isSo y_Mo_isSo, .code y_Mo_isAlways c0_Mo_isAlways 6 (some .boolean), .instanceMethod y_Mo_isAlways, .selects "FactFinderModel" y_Mo_isAlways y_Mo_isAlways, .code y_Mo_findSame c0_Mo_findSame 3 none, .instanceMethod y_Mo_findSame, .selects "FactFinderModel" y_Mo_findSame y_Mo_findSame, .code y_Mo_places c0_Mo_places 6 (some .int), .instanceMethod y_Mo_places, .selects "FactFinderModel" y_Mo_places y_Mo_places, .code y_Mo_count c0_Mo_count 2 (some .int), .instanceMethod y_Mo_count, .selects "FactFinderModel" y_Mo_count y_Mo_count, .code y_Mo_told c0_Mo_told 3 (some .int), .instanceMethod y_Mo_told, .selects "FactFinderModel" y_Mo_told y_Mo_told, .code y_Mo_falls c0_Mo_falls 2 (some .int), .instanceMethod y_Mo_falls, .selects "FactFinderModel" y_Mo_falls y_Mo_falls, .code y_Mo_place c0_Mo_place 4 (some .int), .instanceMethod y_Mo_place, .selects "FactFinderModel" y_Mo_place y_Mo_place, .code y_Mo_isHeld c0_Mo_isHeld 4 (some .boolean)]
def fT_14 : List Cond := [.instanceMethod y_Mo_isHeld, .selects "FactFinderModel" y_Mo_isHeld y_Mo_isHeld, .code y_Mo_isBefore c0_Mo_isBefore 1 (some .boolean), .instanceMethod y_Mo_isBefore, .selects "FactFinderModel" y_Mo_isBefore y_Mo_isBefore, .code y_Mo_isOrdered c0_Mo_isOrdered 3 (some .boolean), .instanceMethod y_Mo_isOrdered, .selects "FactFinderModel" y_Mo_isOrdered y_Mo_isOrdered, .code y_Mo_size c0_Mo_size 1 (some .int), .static y_Mo_size, .code y_Mo_holds c0_Mo_holds 10 (some .int), .instanceMethod y_Mo_holds, .selects "FactFinderModel" y_Mo_holds y_Mo_holds, .code y_Mo_isEmpty c0_Mo_isEmpty 6 (some .boolean), .instanceMethod y_Mo_isEmpty, .selects "FactFinderModel" y_Mo_isEmpty y_Mo_isEmpty, .code y_Mo_isTold c0_Mo_isTold 5 (some .boolean), .instanceMethod y_Mo_isTold, .selects "FactFinderModel" y_Mo_isTold y_Mo_isTold, .code y_Mo_visit c0_Mo_visit 3 none, .instanceMethod y_Mo_visit, .selects "FactFinderModel" y_Mo_visit y_Mo_visit, .code y_Mo_walkArea c0_Mo_walkArea 7 none, .instanceMethod y_Mo_walkArea, .selects "FactFinderModel" y_Mo_walkArea y_Mo_walkArea, .code y_Mo_walkMore c0_Mo_walkMore 6 none, .instanceMethod y_Mo_walkMore, .selects "FactFinderModel" y_Mo_walkMore y_Mo_walkMore, .code y_Mo_walkThird c0_Mo_walkThird 5 none, .instanceMethod y_Mo_walkThird, .selects "FactFinderModel" y_Mo_walkThird y_Mo_walkThird, .code y_Mo_walk c0_Mo_walk 5 none, .instanceMethod y_Mo_walk, .selects "FactFinderModel" y_Mo_walk y_Mo_walk, .code y_Mo_facts c0_Mo_facts 2 (some .int), .instanceMethod y_Mo_facts, .selects "FactFinderModel" y_Mo_facts y_Mo_facts, .code y_Mo_fact c0_Mo_fact 5 (some .int), .instanceMethod y_Mo_fact, .selects "FactFinderModel" y_Mo_fact y_Mo_fact]
def fT_15 : List Cond := [.code y_Mo_needs3 c0_Mo_needs3 6 (some .int), .instanceMethod y_Mo_needs3, .selects "FactFinderModel" y_Mo_needs3 y_Mo_needs3, .code y_Mo_clearSets c0_Mo_clearSets 2 none, .instanceMethod y_Mo_clearSets, .selects "FactFinderModel" y_Mo_clearSets y_Mo_clearSets, .code y_Mo_set c0_Mo_set 5 (some .int), .instanceMethod y_Mo_set, .selects "FactFinderModel" y_Mo_set y_Mo_set, .code y_Mo_lineOf c0_Mo_lineOf 5 (some .int), .instanceMethod y_Mo_lineOf, .selects "FactFinderModel" y_Mo_lineOf y_Mo_lineOf, .code y_Mo_row c0_Mo_row 5 (some .int), .instanceMethod y_Mo_row, .selects "FactFinderModel" y_Mo_row y_Mo_row, .code y_Mo_ringThrough c0_Mo_ringThrough 6 (some .int), .instanceMethod y_Mo_ringThrough, .selects "FactFinderModel" y_Mo_ringThrough y_Mo_ringThrough, .code y_Mo_ring c0_Mo_ring 7 (some .int), .instanceMethod y_Mo_ring, .selects "FactFinderModel" y_Mo_ring y_Mo_ring, .laysFinal "FactFinder" "FactFinder" "plan" "LFactFinder$Plan;", .laysFinal "FactFinder" "FactFinder" "findings" "LFactFinder$Findings;", .laysFinal "FactFinder" "FactFinder" "trial" "LFactFinder$Drawing;", .lays "FactFinder" "FactFinder" "seed" "I", .lays "FactFinder" "FactFinder" "figures" "I", .laysFinal "FactFinder$Plan" "FactFinder$Plan" "kinds" "[I", .laysFinal "FactFinder$Plan" "FactFinder$Plan" "sources" "[I", .lays "FactFinder$Plan" "FactFinder$Plan" "size" "I", .laysFinal "FactFinder$Findings" "FactFinder$Findings" "drawing" "LFactFinder$Drawing;", .laysFinal "FactFinder$Findings" "FactFinder$Findings" "lists" "[LFactFinder$IntList;", .laysFinal "FactFinder$Findings" "FactFinder$Findings" "rows" "LFactFinder$IntList;", .laysFinal "FactFinder$Findings" "FactFinder$Findings" "rings" "LFactFinder$IntList;", .laysFinal "FactFinder$Findings" "FactFinder$Findings" "leads" "[I", .laysFinal "FactFinder$Findings" "FactFinder$Findings" "triples" "LFactFinder$IntList;", .laysFinal "FactFinder$Findings" "FactFinder$Findings" "areas" "[J", .lays "FactFinder$Findings" "FactFinder$Findings" "points" "I", .lays "FactFinder$Findings" "FactFinder$Findings" "known" "I", .laysFinal "FactFinder$Drawing" "FactFinder$Drawing" "sheets" "[LFactFinder$Figure;", .lays "FactFinder$Drawing" "FactFinder$Drawing" "standing" "I"]
def fT_16 : List Cond := [.lays "FactFinder$Drawing" "FactFinder$Drawing" "size" "I", .lays "FactFinder$Drawing" "FactFinder$Drawing" "divisor" "J", .lays "FactFinder$Drawing" "FactFinder$Drawing" "inverse" "J", .laysFinal "FactFinder$Figure" "FactFinder$Figure" "x" "[I", .laysFinal "FactFinder$Figure" "FactFinder$Figure" "y" "[I", .lays "FactFinder$Figure" "FactFinder$Figure" "made" "I", .lays "FactFinder$Figure" "FactFinder$Figure" "fallen" "I", .lays "FactFinder$Figure" "FactFinder$Figure" "state" "J", .lays "FactFinder$Figure" "FactFinder$Figure" "foundX" "I", .lays "FactFinder$Figure" "FactFinder$Figure" "foundY" "I", .laysFinal "FactFinder$IntList" "FactFinder$IntList" "items" "[I", .lays "FactFinder$IntList" "FactFinder$IntList" "size" "I", .lays "FactFinderModel" "FactFinderModel" "many" "I", .laysFinal "FactFinderModel" "FactFinderModel" "kindOf" "[I", .laysFinal "FactFinderModel" "FactFinderModel" "need" "[I", .lays "FactFinderModel" "FactFinderModel" "seed" "I", .lays "FactFinderModel" "FactFinderModel" "figures" "I", .laysFinal "FactFinderModel" "FactFinderModel" "xs" "[J", .laysFinal "FactFinderModel" "FactFinderModel" "ys" "[J", .laysFinal "FactFinderModel" "FactFinderModel" "fallsAt" "[I", .lays "FactFinderModel" "FactFinderModel" "figure" "I", .lays "FactFinderModel" "FactFinderModel" "state" "J", .lays "FactFinderModel" "FactFinderModel" "x" "J", .lays "FactFinderModel" "FactFinderModel" "y" "J", .lays "FactFinderModel" "FactFinderModel" "isFallen" "Z", .laysFinal "FactFinderModel" "FactFinderModel" "\x72" "[I", .lays "FactFinderModel" "FactFinderModel" "foundM" "I", .lays "FactFinderModel" "FactFinderModel" "foundN" "I", .laysFinal "FactFinderModel" "FactFinderModel" "same" "[Z", .lays "FactFinderModel" "FactFinderModel" "seen" "I", .lays "FactFinderModel" "FactFinderModel" "wanted" "I", .laysFinal "FactFinderModel" "FactFinderModel" "found" "[I", .lays "FactFinderModel" "FactFinderModel" "isFound" "Z", .laysFinal "FactFinderModel" "FactFinderModel" "isSet" "[Z", .instantiable "FactFinder" 5, .instantiable "FactFinder$Plan" 3, .instantiable "FactFinder$Findings" 9, .instantiable "FactFinder$Drawing" 5, .instantiable "FactFinder$Figure" 7, .instantiable "FactFinder$IntList" 2]
def fT_17 : List Cond := [.instantiable "FactFinderModel" 22, .arrayClass .int, .arrayClass .long, .arrayClass .boolean, .initialized "FactFinderLaw", .initialized "java/lang/Math", .classLink "FactFinderLaw" 7 "FactFinder", .methodLink "FactFinderLaw" 9 y_FF_init, .instanceMethod y_FF_init, .code y_FF_init c0_FF_init 1 none, .methodLink "FactFinder" 1 (⟨"java/lang/Object", "<init>", "()V"⟩ : MethodName), .instanceMethod (⟨"java/lang/Object", "<init>", "()V"⟩ : MethodName), .code (⟨"java/lang/Object", "<init>", "()V"⟩ : MethodName) object_method_1_code 1 none, .classLink "FactFinder" 7 "FactFinder$Plan", .instanceMethod y_Pl_init, .code y_Pl_init c0_Pl_init 1 none, .methodLink "FactFinder$Plan" 3 (⟨"java/lang/Object", "<init>", "()V"⟩ : MethodName), .classLink "FactFinder" 16 "FactFinder$Findings", .methodLink "FactFinder" 18 y_Fs_init, .instanceMethod y_Fs_init, .code y_Fs_init c0_Fs_init 2 none, .methodLink "FactFinder$Findings" 3 (⟨"java/lang/Object", "<init>", "()V"⟩ : MethodName), .classLink "FactFinder$Findings" 9 "FactFinder$Drawing", .methodLink "FactFinder$Findings" 11 y_Dr_init, .instanceMethod y_Dr_init, .code y_Dr_init c0_Dr_init 2 none, .methodLink "FactFinder$Drawing" 3 (⟨"java/lang/Object", "<init>", "()V"⟩ : MethodName), .classLink "FactFinder$Drawing" 9 "FactFinder$Figure", .instanceMethod y_Fi_init, .code y_Fi_init c0_Fi_init 1 none, .methodLink "FactFinder$Figure" 3 (⟨"java/lang/Object", "<init>", "()V"⟩ : MethodName), .classLink "FactFinder$Findings" 18 "FactFinder$IntList", .methodLink "FactFinder$Findings" 24 y_IL_init, .instanceMethod y_IL_init, .code y_IL_init c0_IL_init 2 none, .methodLink "FactFinder$IntList" 1 (⟨"java/lang/Object", "<init>", "()V"⟩ : MethodName), .methodLink "FactFinder$IntList" 7 (⟨"java/lang/Math", "max", "(II)I"⟩ : MethodName), .static (⟨"java/lang/Math", "max", "(II)I"⟩ : MethodName), .code (⟨"java/lang/Math", "max", "(II)I"⟩ : MethodName) prog_10_method_65_code 2 (some .int), .classLink "FactFinder" 23 "FactFinder$Drawing"]
def fT_18 : List Cond := [.methodLink "FactFinder" 25 y_Dr_init, .methodLink "FactFinderLaw" 13 y_FF_clear, .methodLink "FactFinderLaw" 18 y_FF_step, .methodLink "FactFinderLaw" 23 y_FF_change, .methodLink "FactFinderLaw" 28 y_FF_draw, .methodLink "FactFinderLaw" 33 y_FF_count, .methodLink "FactFinderLaw" 38 y_FF_told, .methodLink "FactFinderLaw" 42 y_FF_falls, .methodLink "FactFinderLaw" 46 y_FF_place, .methodLink "FactFinderLaw" 51 y_FF_holds, .methodLink "FactFinderLaw" 56 y_FF_facts, .methodLink "FactFinderLaw" 60 y_FF_fact, .methodLink "FactFinderLaw" 64 y_FF_needs, .methodLink "FactFinderLaw" 68 y_FF_row, .methodLink "FactFinderLaw" 72 y_FF_ring, .classLink "FactFinderLaw" 10 "FactFinderModel", .methodLink "FactFinderLaw" 12 y_Mo_init, .instanceMethod y_Mo_init, .code y_Mo_init c0_Mo_init 1 none, .methodLink "FactFinderModel" 1 (⟨"java/lang/Object", "<init>", "()V"⟩ : MethodName), .methodLink "FactFinderLaw" 17 y_Mo_clear, .methodLink "FactFinderLaw" 22 y_Mo_step, .methodLink "FactFinderLaw" 27 y_Mo_change, .methodLink "FactFinderLaw" 32 y_Mo_draw, .methodLink "FactFinderLaw" 37 y_Mo_count, .methodLink "FactFinderLaw" 41 y_Mo_told, .methodLink "FactFinderLaw" 45 y_Mo_falls, .methodLink "FactFinderLaw" 50 y_Mo_place, .methodLink "FactFinderLaw" 55 y_Mo_holds, .methodLink "FactFinderLaw" 59 y_Mo_facts, .methodLink "FactFinderLaw" 63 y_Mo_fact, .methodLink "FactFinderLaw" 67 y_Mo_needs3, .methodLink "FactFinderLaw" 71 y_Mo_row, .methodLink "FactFinderLaw" 75 y_Mo_ring, .code objectInit ⟨#[0xb1]⟩ 1 none, .instanceMethod objectInit]
def fT : List Cond := fT_0 ++ (fT_1 ++ (fT_2 ++ (fT_3 ++ (fT_4 ++ (fT_5 ++ (fT_6 ++ (fT_7 ++ (fT_8 ++ (fT_9 ++ (fT_10 ++ (fT_11 ++ (fT_12 ++ (fT_13 ++ (fT_14 ++ (fT_15 ++ (fT_16 ++ (fT_17 ++ (fT_18))))))))))))))))))
theorem fI_0 : ∀ w ∈ fT_0, w ∈ fT := fun _ h => List.mem_append_left _ h
theorem fI_1 : ∀ w ∈ fT_1, w ∈ fT := fun _ h => List.mem_append_right _ (List.mem_append_left _ h)
theorem fI_2 : ∀ w ∈ fT_2, w ∈ fT := fun _ h => List.mem_append_right _ (List.mem_append_right _ (List.mem_append_left _ h))
theorem fI_3 : ∀ w ∈ fT_3, w ∈ fT := fun _ h => List.mem_append_right _ (List.mem_append_right _ (List.mem_append_right _ (List.mem_append_left _ h)))
theorem fI_4 : ∀ w ∈ fT_4, w ∈ fT := fun _ h => List.mem_append_right _ (List.mem_append_right _ (List.mem_append_right _ (List.mem_append_right _ (List.mem_append_left _ h))))
theorem fI_5 : ∀ w ∈ fT_5, w ∈ fT := fun _ h => List.mem_append_right _ (List.mem_append_right _ (List.mem_append_right _ (List.mem_append_right _ (List.mem_append_right _ (List.mem_append_left _ h)))))
theorem fI_6 : ∀ w ∈ fT_6, w ∈ fT := fun _ h => List.mem_append_right _ (List.mem_append_right _ (List.mem_append_right _ (List.mem_append_right _ (List.mem_append_right _ (List.mem_append_right _ (List.mem_append_left _ h))))))
theorem fI_7 : ∀ w ∈ fT_7, w ∈ fT := fun _ h => List.mem_append_right _ (List.mem_append_right _ (List.mem_append_right _ (List.mem_append_right _ (List.mem_append_right _ (List.mem_append_right _ (List.mem_append_right _ (List.mem_append_left _ h)))))))
theorem fI_8 : ∀ w ∈ fT_8, w ∈ fT := fun _ h => List.mem_append_right _ (List.mem_append_right _ (List.mem_append_right _ (List.mem_append_right _ (List.mem_append_right _ (List.mem_append_right _ (List.mem_append_right _ (List.mem_append_right _ (List.mem_append_left _ h))))))))
theorem fI_9 : ∀ w ∈ fT_9, w ∈ fT := fun _ h => List.mem_append_right _ (List.mem_append_right _ (List.mem_append_right _ (List.mem_append_right _ (List.mem_append_right _ (List.mem_append_right _ (List.mem_append_right _ (List.mem_append_right _ (List.mem_append_right _ (List.mem_append_left _ h)))))))))
theorem fI_10 : ∀ w ∈ fT_10, w ∈ fT := fun _ h => List.mem_append_right _ (List.mem_append_right _ (List.mem_append_right _ (List.mem_append_right _ (List.mem_append_right _ (List.mem_append_right _ (List.mem_append_right _ (List.mem_append_right _ (List.mem_append_right _ (List.mem_append_right _ (List.mem_append_left _ h))))))))))
theorem fI_11 : ∀ w ∈ fT_11, w ∈ fT := fun _ h => List.mem_append_right _ (List.mem_append_right _ (List.mem_append_right _ (List.mem_append_right _ (List.mem_append_right _ (List.mem_append_right _ (List.mem_append_right _ (List.mem_append_right _ (List.mem_append_right _ (List.mem_append_right _ (List.mem_append_right _ (List.mem_append_left _ h)))))))))))
theorem fI_12 : ∀ w ∈ fT_12, w ∈ fT := fun _ h => List.mem_append_right _ (List.mem_append_right _ (List.mem_append_right _ (List.mem_append_right _ (List.mem_append_right _ (List.mem_append_right _ (List.mem_append_right _ (List.mem_append_right _ (List.mem_append_right _ (List.mem_append_right _ (List.mem_append_right _ (List.mem_append_right _ (List.mem_append_left _ h))))))))))))
theorem fI_13 : ∀ w ∈ fT_13, w ∈ fT := fun _ h => List.mem_append_right _ (List.mem_append_right _ (List.mem_append_right _ (List.mem_append_right _ (List.mem_append_right _ (List.mem_append_right _ (List.mem_append_right _ (List.mem_append_right _ (List.mem_append_right _ (List.mem_append_right _ (List.mem_append_right _ (List.mem_append_right _ (List.mem_append_right _ (List.mem_append_left _ h)))))))))))))
theorem fI_14 : ∀ w ∈ fT_14, w ∈ fT := fun _ h => List.mem_append_right _ (List.mem_append_right _ (List.mem_append_right _ (List.mem_append_right _ (List.mem_append_right _ (List.mem_append_right _ (List.mem_append_right _ (List.mem_append_right _ (List.mem_append_right _ (List.mem_append_right _ (List.mem_append_right _ (List.mem_append_right _ (List.mem_append_right _ (List.mem_append_right _ (List.mem_append_left _ h))))))))))))))
theorem fI_15 : ∀ w ∈ fT_15, w ∈ fT := fun _ h => List.mem_append_right _ (List.mem_append_right _ (List.mem_append_right _ (List.mem_append_right _ (List.mem_append_right _ (List.mem_append_right _ (List.mem_append_right _ (List.mem_append_right _ (List.mem_append_right _ (List.mem_append_right _ (List.mem_append_right _ (List.mem_append_right _ (List.mem_append_right _ (List.mem_append_right _ (List.mem_append_right _ (List.mem_append_left _ h)))))))))))))))
theorem fI_16 : ∀ w ∈ fT_16, w ∈ fT := fun _ h => List.mem_append_right _ (List.mem_append_right _ (List.mem_append_right _ (List.mem_append_right _ (List.mem_append_right _ (List.mem_append_right _ (List.mem_append_right _ (List.mem_append_right _ (List.mem_append_right _ (List.mem_append_right _ (List.mem_append_right _ (List.mem_append_right _ (List.mem_append_right _ (List.mem_append_right _ (List.mem_append_right _ (List.mem_append_right _ (List.mem_append_left _ h))))))))))))))))
theorem fI_17 : ∀ w ∈ fT_17, w ∈ fT := fun _ h => List.mem_append_right _ (List.mem_append_right _ (List.mem_append_right _ (List.mem_append_right _ (List.mem_append_right _ (List.mem_append_right _ (List.mem_append_right _ (List.mem_append_right _ (List.mem_append_right _ (List.mem_append_right _ (List.mem_append_right _ (List.mem_append_right _ (List.mem_append_right _ (List.mem_append_right _ (List.mem_append_right _ (List.mem_append_right _ (List.mem_append_right _ (List.mem_append_left _ h)))))))))))))))))
theorem fI_18 : ∀ w ∈ fT_18, w ∈ fT := fun _ h => List.mem_append_right _ (List.mem_append_right _ (List.mem_append_right _ (List.mem_append_right _ (List.mem_append_right _ (List.mem_append_right _ (List.mem_append_right _ (List.mem_append_right _ (List.mem_append_right _ (List.mem_append_right _ (List.mem_append_right _ (List.mem_append_right _ (List.mem_append_right _ (List.mem_append_right _ (List.mem_append_right _ (List.mem_append_right _ (List.mem_append_right _ (List.mem_append_right _ (h))))))))))))))))))
def NWL : List Cond := [.methodLinkNest "FactFinder$Figure" 99 y_FF_invert "FactFinder", .fieldLinkNest "FactFinder$Plan" 18 "FactFinder" "STEP_POINTS" "[I" "FactFinder", .methodLinkNest "FactFinder$Figure" 109 y_FF_unpack "FactFinder", .methodLinkNest "FactFinder$Findings" 98 y_FF_pack "FactFinder", .methodLinkNest "FactFinder$Drawing" 62 y_FF_unpack "FactFinder", .methodLinkNest "FactFinder$Drawing" 79 y_FF_invert "FactFinder", .fieldLinkNest "FactFinder$Findings" 118 "FactFinder" "FACT_POINTS" "[I" "FactFinder", .methodLinkNest "FactFinder$Findings" 121 y_FF_unpack "FactFinder", .methodLinkNest "FactFinder$Findings" 109 y_FF_join "FactFinder", .methodLinkNest "FactFinder$Findings" 133 y_FF_areApartPairs "FactFinder", .arrayOver (.object "FactFinder$Figure"), .arrayOver (.object "FactFinder$IntList")]
theorem fT_good : fh_Good fT := fun w hw => List.all_eq_true.mp (show fT.all fh_good = true by decide +kernel) w hw
theorem k_0 : Cond.fieldLink "FactFinder$Figure" 22 "FactFinder$Figure" "state" "J" ∈ fT := fI_0 _ (List.mem_of_getElem? (i := 0) rfl)
theorem k_1 : Cond.fieldLink "FactFinder$Figure" 26 "FactFinder$Figure" "made" "I" ∈ fT := fI_0 _ (List.mem_of_getElem? (i := 1) rfl)
theorem k_2 : Cond.fieldLink "FactFinder$Figure" 18 "FactFinder$Figure" "fallen" "I" ∈ fT := fI_0 _ (List.mem_of_getElem? (i := 2) rfl)
theorem k_3 : Cond.fieldLink "FactFinder$Drawing" 25 "FactFinder$Drawing" "size" "I" ∈ fT := fI_0 _ (List.mem_of_getElem? (i := 3) rfl)
theorem k_4 : Cond.fieldLink "FactFinder$Drawing" 11 "FactFinder$Drawing" "sheets" "[LFactFinder$Figure;" ∈ fT := fI_0 _ (List.mem_of_getElem? (i := 4) rfl)
theorem k_5 : Cond.methodLink "FactFinder$Drawing" 29 y_Fi_begin ∈ fT := fI_0 _ (List.mem_of_getElem? (i := 5) rfl)
theorem k_6 : Cond.fieldLink "FactFinder$Plan" 15 "FactFinder$Plan" "sources" "[I" ∈ fT := fI_0 _ (List.mem_of_getElem? (i := 6) rfl)
theorem k_7 : Cond.constantLong "FactFinder$Figure" 91 48271 ∈ fT := fI_0 _ (List.mem_of_getElem? (i := 7) rfl)
theorem k_8 : Cond.constantLong "FactFinder$Figure" 93 2147483647 ∈ fT := fI_0 _ (List.mem_of_getElem? (i := 8) rfl)
theorem k_9 : Cond.constantLong "FactFinder$Figure" 88 1000003 ∈ fT := fI_0 _ (List.mem_of_getElem? (i := 9) rfl)
theorem k_10 : Cond.fieldLink "FactFinder$Figure" 45 "FactFinder$Figure" "foundX" "I" ∈ fT := fI_0 _ (List.mem_of_getElem? (i := 10) rfl)
theorem k_11 : Cond.fieldLink "FactFinder$Figure" 48 "FactFinder$Figure" "foundY" "I" ∈ fT := fI_0 _ (List.mem_of_getElem? (i := 11) rfl)
theorem k_12 : Cond.constant "FactFinder$Figure" 90 1000003 ∈ fT := fI_0 _ (List.mem_of_getElem? (i := 12) rfl)
theorem k_13 : Cond.methodLink "FactFinder$Figure" 72 y_Fi_nextNumber ∈ fT := fI_0 _ (List.mem_of_getElem? (i := 13) rfl)
theorem k_14 : Cond.methodLink "FactFinder$Figure" 57 y_Fi_found ∈ fT := fI_0 _ (List.mem_of_getElem? (i := 14) rfl)
theorem k_15 : Cond.fieldLink "FactFinder$Figure" 9 "FactFinder$Figure" "x" "[I" ∈ fT := fI_0 _ (List.mem_of_getElem? (i := 15) rfl)
theorem k_16 : Cond.fieldLink "FactFinder$Figure" 15 "FactFinder$Figure" "y" "[I" ∈ fT := fI_0 _ (List.mem_of_getElem? (i := 16) rfl)
theorem k_17 : Cond.constantLong "FactFinder" 164 1000003 ∈ fT := fI_0 _ (List.mem_of_getElem? (i := 17) rfl)
theorem k_18 : Cond.constant "FactFinder" 166 1000001 ∈ fT := fI_0 _ (List.mem_of_getElem? (i := 18) rfl)
theorem k_19 : Cond.methodLink "FactFinder$Figure" 95 y_Fi_length ∈ fT := fI_0 _ (List.mem_of_getElem? (i := 19) rfl)
theorem k_20 : Cond.methodLink "FactFinder$Figure" 76 y_Fi_findAlong ∈ fT := fI_0 _ (List.mem_of_getElem? (i := 20) rfl)
theorem k_21 : Cond.methodLink "FactFinder$Figure" 103 y_Fi_cross ∈ fT := fI_0 _ (List.mem_of_getElem? (i := 21) rfl)
theorem k_22 : Cond.constantLong "FactFinder$Figure" 107 2 ∈ fT := fI_0 _ (List.mem_of_getElem? (i := 22) rfl)
theorem k_23 : Cond.methodLink "FactFinder$Figure" 85 y_Fi_findTurnedOut ∈ fT := fI_0 _ (List.mem_of_getElem? (i := 23) rfl)
theorem k_24 : Cond.methodLink "FactFinder$Figure" 68 y_Fi_findCentre ∈ fT := fI_0 _ (List.mem_of_getElem? (i := 24) rfl)
theorem k_25 : Cond.methodLink "FactFinder$Figure" 61 y_Fi_findFoot ∈ fT := fI_0 _ (List.mem_of_getElem? (i := 25) rfl)
theorem k_26 : Cond.methodLink "FactFinder$Figure" 80 y_Fi_findOnCircle ∈ fT := fI_0 _ (List.mem_of_getElem? (i := 26) rfl)
theorem k_27 : Cond.methodLink "FactFinder$Figure" 65 y_Fi_findMeet ∈ fT := fI_0 _ (List.mem_of_getElem? (i := 27) rfl)
theorem k_28 : Cond.methodLink "FactFinder$Figure" 51 y_Fi_findFree ∈ fT := fI_0 _ (List.mem_of_getElem? (i := 28) rfl)
theorem k_29 : Cond.constantLong "FactFinder$Figure" 55 500002 ∈ fT := fI_0 _ (List.mem_of_getElem? (i := 29) rfl)
theorem k_30 : Cond.constantLong "FactFinder$Figure" 83 666669 ∈ fT := fI_0 _ (List.mem_of_getElem? (i := 30) rfl)
theorem k_31 : Cond.fieldLink "FactFinder$Figure" 29 "FactFinder$Plan" "size" "I" ∈ fT := fI_0 _ (List.mem_of_getElem? (i := 31) rfl)
theorem k_32 : Cond.methodLink "FactFinder$Figure" 37 y_Pl_from ∈ fT := fI_0 _ (List.mem_of_getElem? (i := 32) rfl)
theorem k_33 : Cond.methodLink "FactFinder$Figure" 41 y_Fi_find ∈ fT := fI_0 _ (List.mem_of_getElem? (i := 33) rfl)
theorem k_34 : Cond.fieldLink "FactFinder$Figure" 34 "FactFinder$Plan" "kinds" "[I" ∈ fT := fI_0 _ (List.mem_of_getElem? (i := 34) rfl)
theorem k_35 : Cond.methodLink "FactFinder$Drawing" 36 y_Fi_goOn ∈ fT := fI_0 _ (List.mem_of_getElem? (i := 35) rfl)
theorem k_36 : Cond.fieldLink "FactFinder$Drawing" 40 "FactFinder$Figure" "fallen" "I" ∈ fT := fI_0 _ (List.mem_of_getElem? (i := 36) rfl)
theorem k_37 : Cond.fieldLink "FactFinder$Drawing" 33 "FactFinder$Drawing" "standing" "I" ∈ fT := fI_0 _ (List.mem_of_getElem? (i := 37) rfl)
theorem k_38 : Cond.fieldLink "FactFinder$Findings" 48 "FactFinder$Findings" "points" "I" ∈ fT := fI_0 _ (List.mem_of_getElem? (i := 38) rfl)
theorem k_39 : Cond.fieldLink "FactFinder$Findings" 52 "FactFinder$Findings" "known" "I" ∈ fT := fI_0 _ (List.mem_of_getElem? (i := 39) rfl)
theorem k_40 : Cond.fieldLink "FactFinder" 19 "FactFinder" "findings" "LFactFinder$Findings;" ∈ fT := fI_1 _ (List.mem_of_getElem? (i := 0) rfl)
theorem k_41 : Cond.fieldLink "FactFinder" 51 "FactFinder$Findings" "drawing" "LFactFinder$Drawing;" ∈ fT := fI_1 _ (List.mem_of_getElem? (i := 1) rfl)
theorem k_42 : Cond.fieldLink "FactFinder" 30 "FactFinder" "seed" "I" ∈ fT := fI_1 _ (List.mem_of_getElem? (i := 2) rfl)
theorem k_43 : Cond.fieldLink "FactFinder" 34 "FactFinder" "figures" "I" ∈ fT := fI_1 _ (List.mem_of_getElem? (i := 3) rfl)
theorem k_44 : Cond.methodLink "FactFinder" 146 y_Dr_begin ∈ fT := fI_1 _ (List.mem_of_getElem? (i := 4) rfl)
theorem k_45 : Cond.fieldLink "FactFinder" 10 "FactFinder" "plan" "LFactFinder$Plan;" ∈ fT := fI_1 _ (List.mem_of_getElem? (i := 5) rfl)
theorem k_46 : Cond.methodLink "FactFinder" 54 y_Dr_goOn ∈ fT := fI_1 _ (List.mem_of_getElem? (i := 6) rfl)
theorem k_47 : Cond.fieldLink "FactFinder" 40 "FactFinder$Plan" "size" "I" ∈ fT := fI_1 _ (List.mem_of_getElem? (i := 7) rfl)
theorem k_48 : Cond.methodLink "FactFinder" 58 y_Fs_forget ∈ fT := fI_1 _ (List.mem_of_getElem? (i := 8) rfl)
theorem k_49 : Cond.methodLink "FactFinder" 37 y_FF_drawAll ∈ fT := fI_1 _ (List.mem_of_getElem? (i := 9) rfl)
theorem k_50 : Cond.fieldLink "FactFinder" 78 "FactFinder" "STEP_POINTS" "[I" ∈ fT := fI_1 _ (List.mem_of_getElem? (i := 10) rfl)
theorem k_51 : Cond.fieldLink "FactFinder$Plan" 9 "FactFinder$Plan" "kinds" "[I" ∈ fT := fI_1 _ (List.mem_of_getElem? (i := 11) rfl)
theorem k_52 : Cond.methodLink "FactFinder" 43 y_FF_isStep ∈ fT := fI_1 _ (List.mem_of_getElem? (i := 12) rfl)
theorem k_53 : Cond.methodLink "FactFinder" 47 y_Pl_write ∈ fT := fI_1 _ (List.mem_of_getElem? (i := 13) rfl)
theorem k_54 : Cond.methodLink "FactFinder" 62 y_FF_isThere ∈ fT := fI_1 _ (List.mem_of_getElem? (i := 14) rfl)
theorem k_55 : Cond.fieldLink "FactFinder" 66 "FactFinder$Plan" "kinds" "[I" ∈ fT := fI_1 _ (List.mem_of_getElem? (i := 15) rfl)
theorem k_56 : Cond.fieldLink "FactFinder" 71 "FactFinder$Drawing" "standing" "I" ∈ fT := fI_1 _ (List.mem_of_getElem? (i := 16) rfl)
theorem k_57 : Cond.constant "FactFinder" 70 1000000 ∈ fT := fI_1 _ (List.mem_of_getElem? (i := 17) rfl)
theorem k_58 : Cond.methodLink "FactFinder$Figure" 118 y_Fi_squaredArea ∈ fT := fI_1 _ (List.mem_of_getElem? (i := 18) rfl)
theorem k_59 : Cond.methodLink "FactFinder$Figure" 115 y_Fi_showsCircle ∈ fT := fI_1 _ (List.mem_of_getElem? (i := 19) rfl)
theorem k_60 : Cond.methodLink "FactFinder$Figure" 112 y_Fi_dot ∈ fT := fI_1 _ (List.mem_of_getElem? (i := 20) rfl)
theorem k_61 : Cond.methodLink "FactFinder$Drawing" 51 y_Fi_shows ∈ fT := fI_1 _ (List.mem_of_getElem? (i := 21) rfl)
theorem k_62 : Cond.methodLink "FactFinder$Findings" 62 y_Fs_isNew ∈ fT := fI_1 _ (List.mem_of_getElem? (i := 22) rfl)
theorem k_63 : Cond.fieldLink "FactFinder$Findings" 34 "FactFinder$Findings" "leads" "[I" ∈ fT := fI_1 _ (List.mem_of_getElem? (i := 23) rfl)
theorem k_64 : Cond.fieldLink "FactFinder$Findings" 12 "FactFinder$Findings" "drawing" "LFactFinder$Drawing;" ∈ fT := fI_1 _ (List.mem_of_getElem? (i := 24) rfl)
theorem k_65 : Cond.methodLink "FactFinder$Findings" 102 y_Dr_isShown ∈ fT := fI_1 _ (List.mem_of_getElem? (i := 25) rfl)
theorem k_66 : Cond.constant "java/lang/Integer" 265 1431655765 ∈ fT := fI_1 _ (List.mem_of_getElem? (i := 26) rfl)
theorem k_67 : Cond.constant "java/lang/Integer" 266 858993459 ∈ fT := fI_1 _ (List.mem_of_getElem? (i := 27) rfl)
theorem k_68 : Cond.constant "java/lang/Integer" 267 252645135 ∈ fT := fI_1 _ (List.mem_of_getElem? (i := 28) rfl)
theorem k_69 : Cond.methodLink "FactFinder$Findings" 113 y_In_bitCount ∈ fT := fI_1 _ (List.mem_of_getElem? (i := 29) rfl)
theorem k_70 : Cond.methodLink "FactFinder$Findings" 55 y_Fs_findLeads ∈ fT := fI_1 _ (List.mem_of_getElem? (i := 30) rfl)
theorem k_71 : Cond.methodLink "FactFinder$Findings" 58 y_Fs_placesOf ∈ fT := fI_1 _ (List.mem_of_getElem? (i := 31) rfl)
theorem k_72 : Cond.methodLink "FactFinder" 74 y_Fs_countPlaces ∈ fT := fI_1 _ (List.mem_of_getElem? (i := 32) rfl)
theorem k_73 : Cond.methodLink "FactFinder" 81 y_Pl_from ∈ fT := fI_1 _ (List.mem_of_getElem? (i := 33) rfl)
theorem k_74 : Cond.fieldLink "FactFinder" 85 "FactFinder$Drawing" "sheets" "[LFactFinder$Figure;" ∈ fT := fI_1 _ (List.mem_of_getElem? (i := 34) rfl)
theorem k_75 : Cond.fieldLink "FactFinder" 89 "FactFinder$Figure" "fallen" "I" ∈ fT := fI_1 _ (List.mem_of_getElem? (i := 35) rfl)
theorem k_76 : Cond.fieldLink "FactFinder" 94 "FactFinder$Figure" "made" "I" ∈ fT := fI_1 _ (List.mem_of_getElem? (i := 36) rfl)
theorem k_77 : Cond.fieldLink "FactFinder" 97 "FactFinder$Figure" "x" "[I" ∈ fT := fI_1 _ (List.mem_of_getElem? (i := 37) rfl)
theorem k_78 : Cond.fieldLink "FactFinder" 100 "FactFinder$Figure" "y" "[I" ∈ fT := fI_1 _ (List.mem_of_getElem? (i := 38) rfl)
theorem k_79 : Cond.methodLink "FactFinder" 157 y_FF_areTwoPairs ∈ fT := fI_1 _ (List.mem_of_getElem? (i := 39) rfl)
theorem k_80 : Cond.methodLink "FactFinder" 161 y_FF_areApartPairs ∈ fT := fI_2 _ (List.mem_of_getElem? (i := 0) rfl)
theorem k_81 : Cond.methodLink "FactFinder$Drawing" 66 y_Fi_length ∈ fT := fI_2 _ (List.mem_of_getElem? (i := 1) rfl)
theorem k_82 : Cond.constant "FactFinder$Drawing" 78 65535 ∈ fT := fI_2 _ (List.mem_of_getElem? (i := 2) rfl)
theorem k_83 : Cond.fieldLink "FactFinder$Drawing" 17 "FactFinder$Drawing" "divisor" "J" ∈ fT := fI_2 _ (List.mem_of_getElem? (i := 3) rfl)
theorem k_84 : Cond.fieldLink "FactFinder$Drawing" 21 "FactFinder$Drawing" "inverse" "J" ∈ fT := fI_2 _ (List.mem_of_getElem? (i := 4) rfl)
theorem k_85 : Cond.constantLong "FactFinder$Drawing" 74 1000003 ∈ fT := fI_2 _ (List.mem_of_getElem? (i := 5) rfl)
theorem k_86 : Cond.methodLink "FactFinder$Drawing" 54 y_Dr_firstWithLength ∈ fT := fI_2 _ (List.mem_of_getElem? (i := 6) rfl)
theorem k_87 : Cond.methodLink "FactFinder$Drawing" 58 y_Dr_withNumbers ∈ fT := fI_2 _ (List.mem_of_getElem? (i := 7) rfl)
theorem k_88 : Cond.methodLink "FactFinder$Drawing" 70 y_Dr_divide ∈ fT := fI_2 _ (List.mem_of_getElem? (i := 8) rfl)
theorem k_89 : Cond.methodLink "FactFinder$Drawing" 47 y_Dr_isShown ∈ fT := fI_2 _ (List.mem_of_getElem? (i := 9) rfl)
theorem k_90 : Cond.constantLong "FactFinder$Drawing" 76 9 ∈ fT := fI_2 _ (List.mem_of_getElem? (i := 10) rfl)
theorem k_91 : Cond.methodLink "FactFinder$Drawing" 43 y_Dr_giveNumbers ∈ fT := fI_2 _ (List.mem_of_getElem? (i := 11) rfl)
theorem k_92 : Cond.methodLink "FactFinder" 103 y_FF_isFactKind ∈ fT := fI_2 _ (List.mem_of_getElem? (i := 12) rfl)
theorem k_93 : Cond.fieldLink "FactFinder" 106 "FactFinder" "FACT_POINTS" "[I" ∈ fT := fI_2 _ (List.mem_of_getElem? (i := 13) rfl)
theorem k_94 : Cond.methodLink "FactFinder" 109 y_FF_areThere ∈ fT := fI_2 _ (List.mem_of_getElem? (i := 14) rfl)
theorem k_95 : Cond.methodLink "FactFinder" 113 y_FF_isFact ∈ fT := fI_2 _ (List.mem_of_getElem? (i := 15) rfl)
theorem k_96 : Cond.methodLink "FactFinder" 116 y_FF_pack ∈ fT := fI_2 _ (List.mem_of_getElem? (i := 16) rfl)
theorem k_97 : Cond.methodLink "FactFinder" 120 y_FF_join ∈ fT := fI_2 _ (List.mem_of_getElem? (i := 17) rfl)
theorem k_98 : Cond.methodLink "FactFinder" 123 y_Dr_bears ∈ fT := fI_2 _ (List.mem_of_getElem? (i := 18) rfl)
theorem k_99 : Cond.fieldLink "FactFinder$IntList" 19 "FactFinder$IntList" "size" "I" ∈ fT := fI_2 _ (List.mem_of_getElem? (i := 19) rfl)
theorem k_100 : Cond.fieldLink "FactFinder$IntList" 13 "FactFinder$IntList" "items" "[I" ∈ fT := fI_2 _ (List.mem_of_getElem? (i := 20) rfl)
theorem k_101 : Cond.fieldLink "FactFinder$Findings" 20 "FactFinder$Findings" "lists" "[LFactFinder$IntList;" ∈ fT := fI_2 _ (List.mem_of_getElem? (i := 21) rfl)
theorem k_102 : Cond.methodLink "FactFinder$Findings" 127 y_IL_add ∈ fT := fI_2 _ (List.mem_of_getElem? (i := 22) rfl)
theorem k_103 : Cond.methodLink "FactFinder$Findings" 124 y_Fs_isApart ∈ fT := fI_2 _ (List.mem_of_getElem? (i := 23) rfl)
theorem k_104 : Cond.methodLink "FactFinder$Findings" 130 y_Fs_consider ∈ fT := fI_2 _ (List.mem_of_getElem? (i := 24) rfl)
theorem k_105 : Cond.fieldLink "FactFinder$Findings" 38 "FactFinder$Findings" "triples" "LFactFinder$IntList;" ∈ fT := fI_2 _ (List.mem_of_getElem? (i := 25) rfl)
theorem k_106 : Cond.fieldLink "FactFinder$Findings" 66 "FactFinder$IntList" "size" "I" ∈ fT := fI_2 _ (List.mem_of_getElem? (i := 26) rfl)
theorem k_107 : Cond.fieldLink "FactFinder$Findings" 41 "FactFinder$Findings" "areas" "[J" ∈ fT := fI_2 _ (List.mem_of_getElem? (i := 27) rfl)
theorem k_108 : Cond.methodLink "FactFinder$Findings" 151 y_Fi_squaredArea ∈ fT := fI_2 _ (List.mem_of_getElem? (i := 28) rfl)
theorem k_109 : Cond.methodLink "FactFinder$Findings" 140 y_Dr_firstStanding ∈ fT := fI_2 _ (List.mem_of_getElem? (i := 29) rfl)
theorem k_110 : Cond.methodLink "FactFinder$Findings" 144 y_Fs_findTriples ∈ fT := fI_2 _ (List.mem_of_getElem? (i := 30) rfl)
theorem k_111 : Cond.fieldLink "FactFinder$Findings" 148 "FactFinder$IntList" "items" "[I" ∈ fT := fI_2 _ (List.mem_of_getElem? (i := 31) rfl)
theorem k_112 : Cond.methodLink "FactFinder$Findings" 137 y_Dr_giveNumbers ∈ fT := fI_2 _ (List.mem_of_getElem? (i := 32) rfl)
theorem k_113 : Cond.methodLink "FactFinder$Findings" 84 y_Fs_listRatios ∈ fT := fI_2 _ (List.mem_of_getElem? (i := 33) rfl)
theorem k_114 : Cond.methodLink "FactFinder$Findings" 81 y_Fs_listAreas ∈ fT := fI_2 _ (List.mem_of_getElem? (i := 34) rfl)
theorem k_115 : Cond.methodLink "FactFinder$Findings" 78 y_Fs_listMiddles ∈ fT := fI_2 _ (List.mem_of_getElem? (i := 35) rfl)
theorem k_116 : Cond.methodLink "FactFinder$Findings" 75 y_Fs_listFours ∈ fT := fI_2 _ (List.mem_of_getElem? (i := 36) rfl)
theorem k_117 : Cond.methodLink "FactFinder$Findings" 72 y_Fs_listTriples ∈ fT := fI_2 _ (List.mem_of_getElem? (i := 37) rfl)
theorem k_118 : Cond.methodLink "FactFinder$Findings" 69 y_Fs_listPairs ∈ fT := fI_2 _ (List.mem_of_getElem? (i := 38) rfl)
theorem k_119 : Cond.methodLink "FactFinder$Findings" 87 y_Fs_listTwoPairs ∈ fT := fI_2 _ (List.mem_of_getElem? (i := 39) rfl)
theorem k_120 : Cond.methodLink "FactFinder" 127 y_Fs_list ∈ fT := fI_3 _ (List.mem_of_getElem? (i := 0) rfl)
theorem k_121 : Cond.fieldLink "FactFinder" 131 "FactFinder$IntList" "size" "I" ∈ fT := fI_3 _ (List.mem_of_getElem? (i := 1) rfl)
theorem k_122 : Cond.methodLink "FactFinder" 134 y_IL_has ∈ fT := fI_3 _ (List.mem_of_getElem? (i := 2) rfl)
theorem k_123 : Cond.fieldLink "FactFinder" 137 "FactFinder" "FACT_WIDTH" "[I" ∈ fT := fI_3 _ (List.mem_of_getElem? (i := 3) rfl)
theorem k_124 : Cond.fieldLink "FactFinder" 140 "FactFinder$IntList" "items" "[I" ∈ fT := fI_3 _ (List.mem_of_getElem? (i := 4) rfl)
theorem k_125 : Cond.methodLink "FactFinder" 143 y_FF_unpack ∈ fT := fI_3 _ (List.mem_of_getElem? (i := 5) rfl)
theorem k_126 : Cond.fieldLink "FactFinder" 26 "FactFinder" "trial" "LFactFinder$Drawing;" ∈ fT := fI_3 _ (List.mem_of_getElem? (i := 6) rfl)
theorem k_127 : Cond.fieldLink "FactFinder$Findings" 27 "FactFinder$Findings" "rows" "LFactFinder$IntList;" ∈ fT := fI_3 _ (List.mem_of_getElem? (i := 7) rfl)
theorem k_128 : Cond.methodLink "FactFinder$Findings" 106 y_IL_addRising ∈ fT := fI_3 _ (List.mem_of_getElem? (i := 8) rfl)
theorem k_129 : Cond.methodLink "FactFinder$Findings" 90 y_Fs_addRow ∈ fT := fI_3 _ (List.mem_of_getElem? (i := 9) rfl)
theorem k_130 : Cond.methodLink "FactFinder" 150 y_Fs_allRows ∈ fT := fI_3 _ (List.mem_of_getElem? (i := 10) rfl)
theorem k_131 : Cond.fieldLink "FactFinder$Findings" 31 "FactFinder$Findings" "rings" "LFactFinder$IntList;" ∈ fT := fI_3 _ (List.mem_of_getElem? (i := 11) rfl)
theorem k_132 : Cond.methodLink "FactFinder$Findings" 94 y_Fs_addRing ∈ fT := fI_3 _ (List.mem_of_getElem? (i := 12) rfl)
theorem k_133 : Cond.methodLink "FactFinder" 154 y_Fs_allRings ∈ fT := fI_3 _ (List.mem_of_getElem? (i := 13) rfl)
theorem k_134 : Cond.constantLong "FactFinderModel" 49 1000003 ∈ fT := fI_3 _ (List.mem_of_getElem? (i := 14) rfl)
theorem k_135 : Cond.methodLink "FactFinderModel" 51 y_Mo_mod ∈ fT := fI_3 _ (List.mem_of_getElem? (i := 15) rfl)
theorem k_136 : Cond.constantLong "FactFinderModel" 55 1000001 ∈ fT := fI_3 _ (List.mem_of_getElem? (i := 16) rfl)
theorem k_137 : Cond.fieldLink "FactFinderModel" 57 "FactFinderModel" "state" "J" ∈ fT := fI_3 _ (List.mem_of_getElem? (i := 17) rfl)
theorem k_138 : Cond.constantLong "FactFinderModel" 61 48271 ∈ fT := fI_3 _ (List.mem_of_getElem? (i := 18) rfl)
theorem k_139 : Cond.constantLong "FactFinderModel" 63 2147483647 ∈ fT := fI_3 _ (List.mem_of_getElem? (i := 19) rfl)
theorem k_140 : Cond.fieldLink "FactFinderModel" 23 "FactFinderModel" "xs" "[J" ∈ fT := fI_3 _ (List.mem_of_getElem? (i := 20) rfl)
theorem k_141 : Cond.fieldLink "FactFinderModel" 65 "FactFinderModel" "figure" "I" ∈ fT := fI_3 _ (List.mem_of_getElem? (i := 21) rfl)
theorem k_142 : Cond.fieldLink "FactFinderModel" 27 "FactFinderModel" "ys" "[J" ∈ fT := fI_3 _ (List.mem_of_getElem? (i := 22) rfl)
theorem k_143 : Cond.methodLink "FactFinderModel" 68 y_Mo_px ∈ fT := fI_3 _ (List.mem_of_getElem? (i := 23) rfl)
theorem k_144 : Cond.methodLink "FactFinderModel" 72 y_Mo_py ∈ fT := fI_3 _ (List.mem_of_getElem? (i := 24) rfl)
theorem k_145 : Cond.fieldLink "FactFinderModel" 75 "FactFinderModel" "x" "J" ∈ fT := fI_3 _ (List.mem_of_getElem? (i := 25) rfl)
theorem k_146 : Cond.fieldLink "FactFinderModel" 78 "FactFinderModel" "y" "J" ∈ fT := fI_3 _ (List.mem_of_getElem? (i := 26) rfl)
theorem k_147 : Cond.methodLink "FactFinderModel" 81 y_Mo_dot ∈ fT := fI_3 _ (List.mem_of_getElem? (i := 27) rfl)
theorem k_148 : Cond.methodLink "FactFinderModel" 89 y_Mo_inverse ∈ fT := fI_3 _ (List.mem_of_getElem? (i := 28) rfl)
theorem k_149 : Cond.methodLink "FactFinderModel" 92 y_Mo_along ∈ fT := fI_3 _ (List.mem_of_getElem? (i := 29) rfl)
theorem k_150 : Cond.fieldLink "FactFinderModel" 85 "FactFinderModel" "isFallen" "Z" ∈ fT := fI_3 _ (List.mem_of_getElem? (i := 30) rfl)
theorem k_151 : Cond.methodLink "FactFinderModel" 98 y_Mo_cross ∈ fT := fI_3 _ (List.mem_of_getElem? (i := 31) rfl)
theorem k_152 : Cond.constantLong "FactFinderModel" 96 2 ∈ fT := fI_3 _ (List.mem_of_getElem? (i := 32) rfl)
theorem k_153 : Cond.methodLink "FactFinderModel" 113 y_Mo_centre ∈ fT := fI_3 _ (List.mem_of_getElem? (i := 33) rfl)
theorem k_154 : Cond.methodLink "FactFinderModel" 105 y_Mo_foot ∈ fT := fI_3 _ (List.mem_of_getElem? (i := 34) rfl)
theorem k_155 : Cond.methodLink "FactFinderModel" 101 y_Mo_drawn ∈ fT := fI_3 _ (List.mem_of_getElem? (i := 35) rfl)
theorem k_156 : Cond.methodLink "FactFinderModel" 121 y_Mo_round ∈ fT := fI_3 _ (List.mem_of_getElem? (i := 36) rfl)
theorem k_157 : Cond.methodLink "FactFinderModel" 126 y_Mo_turnOut ∈ fT := fI_3 _ (List.mem_of_getElem? (i := 37) rfl)
theorem k_158 : Cond.constantLong "FactFinderModel" 124 3 ∈ fT := fI_3 _ (List.mem_of_getElem? (i := 38) rfl)
theorem k_159 : Cond.methodLink "FactFinderModel" 109 y_Mo_meet ∈ fT := fI_3 _ (List.mem_of_getElem? (i := 39) rfl)
theorem k_160 : Cond.methodLink "FactFinderModel" 117 y_Mo_doMore ∈ fT := fI_4 _ (List.mem_of_getElem? (i := 0) rfl)
theorem k_161 : Cond.fieldLink "FactFinderModel" 16 "FactFinderModel" "seed" "I" ∈ fT := fI_4 _ (List.mem_of_getElem? (i := 1) rfl)
theorem k_162 : Cond.fieldLink "FactFinderModel" 30 "FactFinderModel" "fallsAt" "[I" ∈ fT := fI_4 _ (List.mem_of_getElem? (i := 2) rfl)
theorem k_163 : Cond.fieldLink "FactFinderModel" 131 "FactFinderModel" "many" "I" ∈ fT := fI_4 _ (List.mem_of_getElem? (i := 3) rfl)
theorem k_164 : Cond.fieldLink "FactFinderModel" 7 "FactFinderModel" "kindOf" "[I" ∈ fT := fI_4 _ (List.mem_of_getElem? (i := 4) rfl)
theorem k_165 : Cond.fieldLink "FactFinderModel" 13 "FactFinderModel" "need" "[I" ∈ fT := fI_4 _ (List.mem_of_getElem? (i := 5) rfl)
theorem k_166 : Cond.methodLink "FactFinderModel" 134 y_Mo_doStep ∈ fT := fI_4 _ (List.mem_of_getElem? (i := 6) rfl)
theorem k_167 : Cond.constantLong "FactFinderModel" 129 1000 ∈ fT := fI_4 _ (List.mem_of_getElem? (i := 7) rfl)
theorem k_168 : Cond.fieldLink "FactFinderModel" 20 "FactFinderModel" "figures" "I" ∈ fT := fI_4 _ (List.mem_of_getElem? (i := 8) rfl)
theorem k_169 : Cond.methodLink "FactFinderModel" 137 y_Mo_drawFigure ∈ fT := fI_4 _ (List.mem_of_getElem? (i := 9) rfl)
theorem k_170 : Cond.methodLink "FactFinderModel" 46 y_Mo_drawAll ∈ fT := fI_4 _ (List.mem_of_getElem? (i := 10) rfl)
theorem k_171 : Cond.methodLink "FactFinderModel" 141 y_Mo_needs1 ∈ fT := fI_4 _ (List.mem_of_getElem? (i := 11) rfl)
theorem k_172 : Cond.methodLink "FactFinderModel" 145 y_Mo_isIn ∈ fT := fI_4 _ (List.mem_of_getElem? (i := 12) rfl)
theorem k_173 : Cond.methodLink "FactFinderModel" 149 y_Mo_areThere ∈ fT := fI_4 _ (List.mem_of_getElem? (i := 13) rfl)
theorem k_174 : Cond.methodLink "FactFinderModel" 153 y_Mo_setStep ∈ fT := fI_4 _ (List.mem_of_getElem? (i := 14) rfl)
theorem k_175 : Cond.methodLink "FactFinderModel" 157 y_Mo_isPoint ∈ fT := fI_4 _ (List.mem_of_getElem? (i := 15) rfl)
theorem k_176 : Cond.methodLink "FactFinderModel" 162 y_Mo_standing ∈ fT := fI_4 _ (List.mem_of_getElem? (i := 16) rfl)
theorem k_177 : Cond.constant "FactFinderModel" 161 1000000 ∈ fT := fI_4 _ (List.mem_of_getElem? (i := 17) rfl)
theorem k_178 : Cond.fieldLink "FactFinderModel" 33 "FactFinderModel" "\x72" "[I" ∈ fT := fI_4 _ (List.mem_of_getElem? (i := 18) rfl)
theorem k_179 : Cond.methodLink "FactFinderModel" 173 y_Mo_square ∈ fT := fI_4 _ (List.mem_of_getElem? (i := 19) rfl)
theorem k_180 : Cond.methodLink "FactFinderModel" 169 y_Mo_lift ∈ fT := fI_4 _ (List.mem_of_getElem? (i := 20) rfl)
theorem k_181 : Cond.methodLink "FactFinderModel" 179 y_Mo_ringOf ∈ fT := fI_4 _ (List.mem_of_getElem? (i := 21) rfl)
theorem k_182 : Cond.methodLink "FactFinderModel" 176 y_Mo_length ∈ fT := fI_4 _ (List.mem_of_getElem? (i := 22) rfl)
theorem k_183 : Cond.methodLink "FactFinderModel" 182 y_Mo_isSo ∈ fT := fI_4 _ (List.mem_of_getElem? (i := 23) rfl)
theorem k_184 : Cond.methodLink "FactFinderModel" 198 y_Mo_setRow ∈ fT := fI_4 _ (List.mem_of_getElem? (i := 24) rfl)
theorem k_185 : Cond.fieldLink "FactFinderModel" 36 "FactFinderModel" "same" "[Z" ∈ fT := fI_4 _ (List.mem_of_getElem? (i := 25) rfl)
theorem k_186 : Cond.methodLink "FactFinderModel" 185 y_Mo_isAlways ∈ fT := fI_4 _ (List.mem_of_getElem? (i := 26) rfl)
theorem k_187 : Cond.methodLink "FactFinderModel" 210 y_Mo_findSame ∈ fT := fI_4 _ (List.mem_of_getElem? (i := 27) rfl)
theorem k_188 : Cond.methodLink "FactFinderModel" 166 y_Mo_places ∈ fT := fI_4 _ (List.mem_of_getElem? (i := 28) rfl)
theorem k_189 : Cond.fieldLink "FactFinderModel" 188 "FactFinderModel" "foundM" "I" ∈ fT := fI_4 _ (List.mem_of_getElem? (i := 29) rfl)
theorem k_190 : Cond.fieldLink "FactFinderModel" 191 "FactFinderModel" "foundN" "I" ∈ fT := fI_4 _ (List.mem_of_getElem? (i := 30) rfl)
theorem k_191 : Cond.methodLink "FactFinderModel" 194 y_Mo_isBefore ∈ fT := fI_4 _ (List.mem_of_getElem? (i := 31) rfl)
theorem k_192 : Cond.methodLink "FactFinderModel" 201 y_Mo_size ∈ fT := fI_4 _ (List.mem_of_getElem? (i := 32) rfl)
theorem k_193 : Cond.methodLink "FactFinderModel" 204 y_Mo_isOrdered ∈ fT := fI_4 _ (List.mem_of_getElem? (i := 33) rfl)
theorem k_194 : Cond.methodLink "FactFinderModel" 207 y_Mo_isHeld ∈ fT := fI_4 _ (List.mem_of_getElem? (i := 34) rfl)
theorem k_195 : Cond.methodLink "FactFinderModel" 213 y_Mo_isEmpty ∈ fT := fI_4 _ (List.mem_of_getElem? (i := 35) rfl)
theorem k_196 : Cond.methodLink "FactFinderModel" 216 y_Mo_isTold ∈ fT := fI_4 _ (List.mem_of_getElem? (i := 36) rfl)
theorem k_197 : Cond.fieldLink "FactFinderModel" 219 "FactFinderModel" "seen" "I" ∈ fT := fI_4 _ (List.mem_of_getElem? (i := 37) rfl)
theorem k_198 : Cond.fieldLink "FactFinderModel" 222 "FactFinderModel" "wanted" "I" ∈ fT := fI_4 _ (List.mem_of_getElem? (i := 38) rfl)
theorem k_199 : Cond.fieldLink "FactFinderModel" 40 "FactFinderModel" "found" "[I" ∈ fT := fI_4 _ (List.mem_of_getElem? (i := 39) rfl)
theorem k_200 : Cond.fieldLink "FactFinderModel" 225 "FactFinderModel" "isFound" "Z" ∈ fT := fI_5 _ (List.mem_of_getElem? (i := 0) rfl)
theorem k_201 : Cond.methodLink "FactFinderModel" 228 y_Mo_visit ∈ fT := fI_5 _ (List.mem_of_getElem? (i := 1) rfl)
theorem k_202 : Cond.methodLink "FactFinderModel" 237 y_Mo_walkArea ∈ fT := fI_5 _ (List.mem_of_getElem? (i := 2) rfl)
theorem k_203 : Cond.methodLink "FactFinderModel" 234 y_Mo_walkMore ∈ fT := fI_5 _ (List.mem_of_getElem? (i := 3) rfl)
theorem k_204 : Cond.methodLink "FactFinderModel" 231 y_Mo_walkThird ∈ fT := fI_5 _ (List.mem_of_getElem? (i := 4) rfl)
theorem k_205 : Cond.methodLink "FactFinderModel" 240 y_Mo_walk ∈ fT := fI_5 _ (List.mem_of_getElem? (i := 5) rfl)
theorem k_206 : Cond.fieldLink "FactFinderModel" 43 "FactFinderModel" "isSet" "[Z" ∈ fT := fI_5 _ (List.mem_of_getElem? (i := 6) rfl)
theorem k_207 : Cond.methodLink "FactFinderModel" 244 y_Mo_clearSets ∈ fT := fI_5 _ (List.mem_of_getElem? (i := 7) rfl)
theorem k_208 : Cond.methodLink "FactFinderModel" 247 y_Mo_lineOf ∈ fT := fI_5 _ (List.mem_of_getElem? (i := 8) rfl)
theorem k_209 : Cond.methodLink "FactFinderModel" 251 y_Mo_set ∈ fT := fI_5 _ (List.mem_of_getElem? (i := 9) rfl)
theorem k_210 : Cond.methodLink "FactFinderModel" 254 y_Mo_ringThrough ∈ fT := fI_5 _ (List.mem_of_getElem? (i := 10) rfl)
theorem k_211 : Cond.code y_Fi_begin c0_Fi_begin 2 none ∈ fT := fI_5 _ (List.mem_of_getElem? (i := 11) rfl)
theorem k_212 : Cond.initialized "FactFinder$Figure" ∈ fT := fI_5 _ (List.mem_of_getElem? (i := 12) rfl)
theorem k_213 : Cond.instanceMethod y_Fi_begin ∈ fT := fI_5 _ (List.mem_of_getElem? (i := 13) rfl)
theorem k_214 : Cond.selects "FactFinder$Figure" y_Fi_begin y_Fi_begin ∈ fT := fI_5 _ (List.mem_of_getElem? (i := 14) rfl)
theorem k_215 : Cond.code y_Dr_begin c0_Dr_begin 4 none ∈ fT := fI_5 _ (List.mem_of_getElem? (i := 15) rfl)
theorem k_216 : Cond.initialized "FactFinder$Drawing" ∈ fT := fI_5 _ (List.mem_of_getElem? (i := 16) rfl)
theorem k_217 : Cond.instanceMethod y_Dr_begin ∈ fT := fI_5 _ (List.mem_of_getElem? (i := 17) rfl)
theorem k_218 : Cond.selects "FactFinder$Drawing" y_Dr_begin y_Dr_begin ∈ fT := fI_5 _ (List.mem_of_getElem? (i := 18) rfl)
theorem k_219 : Cond.code y_Pl_from c0_Pl_from 3 (some .int) ∈ fT := fI_5 _ (List.mem_of_getElem? (i := 19) rfl)
theorem k_220 : Cond.initialized "FactFinder$Plan" ∈ fT := fI_5 _ (List.mem_of_getElem? (i := 20) rfl)
theorem k_221 : Cond.instanceMethod y_Pl_from ∈ fT := fI_5 _ (List.mem_of_getElem? (i := 21) rfl)
theorem k_222 : Cond.selects "FactFinder$Plan" y_Pl_from y_Pl_from ∈ fT := fI_5 _ (List.mem_of_getElem? (i := 22) rfl)
theorem k_223 : Cond.code y_Fi_nextNumber c0_Fi_nextNumber 1 (some .long) ∈ fT := fI_5 _ (List.mem_of_getElem? (i := 23) rfl)
theorem k_224 : Cond.instanceMethod y_Fi_nextNumber ∈ fT := fI_5 _ (List.mem_of_getElem? (i := 24) rfl)
theorem k_225 : Cond.selects "FactFinder$Figure" y_Fi_nextNumber y_Fi_nextNumber ∈ fT := fI_5 _ (List.mem_of_getElem? (i := 25) rfl)
theorem k_226 : Cond.code y_Fi_found c0_Fi_found 7 (some .boolean) ∈ fT := fI_5 _ (List.mem_of_getElem? (i := 26) rfl)
theorem k_227 : Cond.instanceMethod y_Fi_found ∈ fT := fI_5 _ (List.mem_of_getElem? (i := 27) rfl)
theorem k_228 : Cond.selects "FactFinder$Figure" y_Fi_found y_Fi_found ∈ fT := fI_5 _ (List.mem_of_getElem? (i := 28) rfl)
theorem k_229 : Cond.code y_Fi_findFree c0_Fi_findFree 5 (some .boolean) ∈ fT := fI_5 _ (List.mem_of_getElem? (i := 29) rfl)
theorem k_230 : Cond.instanceMethod y_Fi_findFree ∈ fT := fI_5 _ (List.mem_of_getElem? (i := 30) rfl)
theorem k_231 : Cond.selects "FactFinder$Figure" y_Fi_findFree y_Fi_findFree ∈ fT := fI_5 _ (List.mem_of_getElem? (i := 31) rfl)
theorem k_232 : Cond.code y_Fi_length c0_Fi_length 7 (some .long) ∈ fT := fI_5 _ (List.mem_of_getElem? (i := 32) rfl)
theorem k_233 : Cond.instanceMethod y_Fi_length ∈ fT := fI_5 _ (List.mem_of_getElem? (i := 33) rfl)
theorem k_234 : Cond.selects "FactFinder$Figure" y_Fi_length y_Fi_length ∈ fT := fI_5 _ (List.mem_of_getElem? (i := 34) rfl)
theorem k_235 : Cond.code y_FF_invert c0_FF_invert 7 (some .long) ∈ fT := fI_5 _ (List.mem_of_getElem? (i := 35) rfl)
theorem k_236 : Cond.initialized "FactFinder" ∈ fT := fI_5 _ (List.mem_of_getElem? (i := 36) rfl)
theorem k_237 : Cond.static y_FF_invert ∈ fT := fI_5 _ (List.mem_of_getElem? (i := 37) rfl)
theorem k_238 : Cond.code y_Fi_findAlong c0_Fi_findAlong 5 (some .boolean) ∈ fT := fI_5 _ (List.mem_of_getElem? (i := 38) rfl)
theorem k_239 : Cond.instanceMethod y_Fi_findAlong ∈ fT := fI_5 _ (List.mem_of_getElem? (i := 39) rfl)
theorem k_240 : Cond.selects "FactFinder$Figure" y_Fi_findAlong y_Fi_findAlong ∈ fT := fI_6 _ (List.mem_of_getElem? (i := 0) rfl)
theorem k_241 : Cond.code y_Fi_findFoot c0_Fi_findFoot 9 (some .boolean) ∈ fT := fI_6 _ (List.mem_of_getElem? (i := 1) rfl)
theorem k_242 : Cond.instanceMethod y_Fi_findFoot ∈ fT := fI_6 _ (List.mem_of_getElem? (i := 2) rfl)
theorem k_243 : Cond.selects "FactFinder$Figure" y_Fi_findFoot y_Fi_findFoot ∈ fT := fI_6 _ (List.mem_of_getElem? (i := 3) rfl)
theorem k_244 : Cond.code y_Fi_cross c0_Fi_cross 5 (some .long) ∈ fT := fI_6 _ (List.mem_of_getElem? (i := 4) rfl)
theorem k_245 : Cond.instanceMethod y_Fi_cross ∈ fT := fI_6 _ (List.mem_of_getElem? (i := 5) rfl)
theorem k_246 : Cond.selects "FactFinder$Figure" y_Fi_cross y_Fi_cross ∈ fT := fI_6 _ (List.mem_of_getElem? (i := 6) rfl)
theorem k_247 : Cond.code y_Fi_findMeet c0_Fi_findMeet 7 (some .boolean) ∈ fT := fI_6 _ (List.mem_of_getElem? (i := 7) rfl)
theorem k_248 : Cond.instanceMethod y_Fi_findMeet ∈ fT := fI_6 _ (List.mem_of_getElem? (i := 8) rfl)
theorem k_249 : Cond.selects "FactFinder$Figure" y_Fi_findMeet y_Fi_findMeet ∈ fT := fI_6 _ (List.mem_of_getElem? (i := 9) rfl)
theorem k_250 : Cond.code y_Fi_findCentre c0_Fi_findCentre 16 (some .boolean) ∈ fT := fI_6 _ (List.mem_of_getElem? (i := 10) rfl)
theorem k_251 : Cond.instanceMethod y_Fi_findCentre ∈ fT := fI_6 _ (List.mem_of_getElem? (i := 11) rfl)
theorem k_252 : Cond.selects "FactFinder$Figure" y_Fi_findCentre y_Fi_findCentre ∈ fT := fI_6 _ (List.mem_of_getElem? (i := 12) rfl)
theorem k_253 : Cond.code y_Fi_findOnCircle c0_Fi_findOnCircle 11 (some .boolean) ∈ fT := fI_6 _ (List.mem_of_getElem? (i := 13) rfl)
theorem k_254 : Cond.instanceMethod y_Fi_findOnCircle ∈ fT := fI_6 _ (List.mem_of_getElem? (i := 14) rfl)
theorem k_255 : Cond.selects "FactFinder$Figure" y_Fi_findOnCircle y_Fi_findOnCircle ∈ fT := fI_6 _ (List.mem_of_getElem? (i := 15) rfl)
theorem k_256 : Cond.code y_Fi_findTurnedOut c0_Fi_findTurnedOut 6 (some .boolean) ∈ fT := fI_6 _ (List.mem_of_getElem? (i := 16) rfl)
theorem k_257 : Cond.instanceMethod y_Fi_findTurnedOut ∈ fT := fI_6 _ (List.mem_of_getElem? (i := 17) rfl)
theorem k_258 : Cond.selects "FactFinder$Figure" y_Fi_findTurnedOut y_Fi_findTurnedOut ∈ fT := fI_6 _ (List.mem_of_getElem? (i := 18) rfl)
theorem k_259 : Cond.code y_Fi_find c0_Fi_find 6 (some .boolean) ∈ fT := fI_6 _ (List.mem_of_getElem? (i := 19) rfl)
theorem k_260 : Cond.instanceMethod y_Fi_find ∈ fT := fI_6 _ (List.mem_of_getElem? (i := 20) rfl)
theorem k_261 : Cond.selects "FactFinder$Figure" y_Fi_find y_Fi_find ∈ fT := fI_6 _ (List.mem_of_getElem? (i := 21) rfl)
theorem k_262 : Cond.code y_Fi_goOn c0_Fi_goOn 5 none ∈ fT := fI_6 _ (List.mem_of_getElem? (i := 22) rfl)
theorem k_263 : Cond.instanceMethod y_Fi_goOn ∈ fT := fI_6 _ (List.mem_of_getElem? (i := 23) rfl)
theorem k_264 : Cond.selects "FactFinder$Figure" y_Fi_goOn y_Fi_goOn ∈ fT := fI_6 _ (List.mem_of_getElem? (i := 24) rfl)
theorem k_265 : Cond.code y_Dr_goOn c0_Dr_goOn 4 none ∈ fT := fI_6 _ (List.mem_of_getElem? (i := 25) rfl)
theorem k_266 : Cond.instanceMethod y_Dr_goOn ∈ fT := fI_6 _ (List.mem_of_getElem? (i := 26) rfl)
theorem k_267 : Cond.selects "FactFinder$Drawing" y_Dr_goOn y_Dr_goOn ∈ fT := fI_6 _ (List.mem_of_getElem? (i := 27) rfl)
theorem k_268 : Cond.code y_Fs_forget c0_Fs_forget 2 none ∈ fT := fI_6 _ (List.mem_of_getElem? (i := 28) rfl)
theorem k_269 : Cond.initialized "FactFinder$Findings" ∈ fT := fI_6 _ (List.mem_of_getElem? (i := 29) rfl)
theorem k_270 : Cond.instanceMethod y_Fs_forget ∈ fT := fI_6 _ (List.mem_of_getElem? (i := 30) rfl)
theorem k_271 : Cond.selects "FactFinder$Findings" y_Fs_forget y_Fs_forget ∈ fT := fI_6 _ (List.mem_of_getElem? (i := 31) rfl)
theorem k_272 : Cond.code y_FF_drawAll c0_FF_drawAll 1 none ∈ fT := fI_6 _ (List.mem_of_getElem? (i := 32) rfl)
theorem k_273 : Cond.instanceMethod y_FF_drawAll ∈ fT := fI_6 _ (List.mem_of_getElem? (i := 33) rfl)
theorem k_274 : Cond.selects "FactFinder" y_FF_drawAll y_FF_drawAll ∈ fT := fI_6 _ (List.mem_of_getElem? (i := 34) rfl)
theorem k_275 : Cond.code y_FF_clear c0_FF_clear 2 (some .int) ∈ fT := fI_6 _ (List.mem_of_getElem? (i := 35) rfl)
theorem k_276 : Cond.instanceMethod y_FF_clear ∈ fT := fI_6 _ (List.mem_of_getElem? (i := 36) rfl)
theorem k_277 : Cond.selects "FactFinder" y_FF_clear y_FF_clear ∈ fT := fI_6 _ (List.mem_of_getElem? (i := 37) rfl)
theorem k_278 : Cond.code y_FF_isStep c0_FF_isStep 7 (some .boolean) ∈ fT := fI_6 _ (List.mem_of_getElem? (i := 38) rfl)
theorem k_279 : Cond.static y_FF_isStep ∈ fT := fI_6 _ (List.mem_of_getElem? (i := 39) rfl)
theorem k_280 : Cond.code y_Pl_write c0_Pl_write 9 none ∈ fT := fI_7 _ (List.mem_of_getElem? (i := 0) rfl)
theorem k_281 : Cond.instanceMethod y_Pl_write ∈ fT := fI_7 _ (List.mem_of_getElem? (i := 1) rfl)
theorem k_282 : Cond.selects "FactFinder$Plan" y_Pl_write y_Pl_write ∈ fT := fI_7 _ (List.mem_of_getElem? (i := 2) rfl)
theorem k_283 : Cond.code y_FF_step c0_FF_step 7 (some .int) ∈ fT := fI_7 _ (List.mem_of_getElem? (i := 3) rfl)
theorem k_284 : Cond.instanceMethod y_FF_step ∈ fT := fI_7 _ (List.mem_of_getElem? (i := 4) rfl)
theorem k_285 : Cond.selects "FactFinder" y_FF_step y_FF_step ∈ fT := fI_7 _ (List.mem_of_getElem? (i := 5) rfl)
theorem k_286 : Cond.code y_FF_isThere c0_FF_isThere 2 (some .boolean) ∈ fT := fI_7 _ (List.mem_of_getElem? (i := 6) rfl)
theorem k_287 : Cond.instanceMethod y_FF_isThere ∈ fT := fI_7 _ (List.mem_of_getElem? (i := 7) rfl)
theorem k_288 : Cond.selects "FactFinder" y_FF_isThere y_FF_isThere ∈ fT := fI_7 _ (List.mem_of_getElem? (i := 8) rfl)
theorem k_289 : Cond.code y_FF_change c0_FF_change 8 (some .int) ∈ fT := fI_7 _ (List.mem_of_getElem? (i := 9) rfl)
theorem k_290 : Cond.instanceMethod y_FF_change ∈ fT := fI_7 _ (List.mem_of_getElem? (i := 10) rfl)
theorem k_291 : Cond.selects "FactFinder" y_FF_change y_FF_change ∈ fT := fI_7 _ (List.mem_of_getElem? (i := 11) rfl)
theorem k_292 : Cond.code y_FF_draw c0_FF_draw 3 (some .int) ∈ fT := fI_7 _ (List.mem_of_getElem? (i := 12) rfl)
theorem k_293 : Cond.instanceMethod y_FF_draw ∈ fT := fI_7 _ (List.mem_of_getElem? (i := 13) rfl)
theorem k_294 : Cond.selects "FactFinder" y_FF_draw y_FF_draw ∈ fT := fI_7 _ (List.mem_of_getElem? (i := 14) rfl)
theorem k_295 : Cond.code y_Fs_isNew c0_Fs_isNew 3 (some .boolean) ∈ fT := fI_7 _ (List.mem_of_getElem? (i := 15) rfl)
theorem k_296 : Cond.instanceMethod y_Fs_isNew ∈ fT := fI_7 _ (List.mem_of_getElem? (i := 16) rfl)
theorem k_297 : Cond.selects "FactFinder$Findings" y_Fs_isNew y_Fs_isNew ∈ fT := fI_7 _ (List.mem_of_getElem? (i := 17) rfl)
theorem k_298 : Cond.code y_FF_pack c0_FF_pack 3 (some .int) ∈ fT := fI_7 _ (List.mem_of_getElem? (i := 18) rfl)
theorem k_299 : Cond.static y_FF_pack ∈ fT := fI_7 _ (List.mem_of_getElem? (i := 19) rfl)
theorem k_300 : Cond.code y_FF_unpack c0_FF_unpack 2 (some .int) ∈ fT := fI_7 _ (List.mem_of_getElem? (i := 20) rfl)
theorem k_301 : Cond.static y_FF_unpack ∈ fT := fI_7 _ (List.mem_of_getElem? (i := 21) rfl)
theorem k_302 : Cond.code y_Fi_dot c0_Fi_dot 5 (some .long) ∈ fT := fI_7 _ (List.mem_of_getElem? (i := 22) rfl)
theorem k_303 : Cond.instanceMethod y_Fi_dot ∈ fT := fI_7 _ (List.mem_of_getElem? (i := 23) rfl)
theorem k_304 : Cond.selects "FactFinder$Figure" y_Fi_dot y_Fi_dot ∈ fT := fI_7 _ (List.mem_of_getElem? (i := 24) rfl)
theorem k_305 : Cond.code y_Fi_showsCircle c0_Fi_showsCircle 7 (some .boolean) ∈ fT := fI_7 _ (List.mem_of_getElem? (i := 25) rfl)
theorem k_306 : Cond.instanceMethod y_Fi_showsCircle ∈ fT := fI_7 _ (List.mem_of_getElem? (i := 26) rfl)
theorem k_307 : Cond.selects "FactFinder$Figure" y_Fi_showsCircle y_Fi_showsCircle ∈ fT := fI_7 _ (List.mem_of_getElem? (i := 27) rfl)
theorem k_308 : Cond.code y_Fi_squaredArea c0_Fi_squaredArea 6 (some .long) ∈ fT := fI_7 _ (List.mem_of_getElem? (i := 28) rfl)
theorem k_309 : Cond.instanceMethod y_Fi_squaredArea ∈ fT := fI_7 _ (List.mem_of_getElem? (i := 29) rfl)
theorem k_310 : Cond.selects "FactFinder$Figure" y_Fi_squaredArea y_Fi_squaredArea ∈ fT := fI_7 _ (List.mem_of_getElem? (i := 30) rfl)
theorem k_311 : Cond.code y_Fi_shows c0_Fi_shows 9 (some .boolean) ∈ fT := fI_7 _ (List.mem_of_getElem? (i := 31) rfl)
theorem k_312 : Cond.instanceMethod y_Fi_shows ∈ fT := fI_7 _ (List.mem_of_getElem? (i := 32) rfl)
theorem k_313 : Cond.selects "FactFinder$Figure" y_Fi_shows y_Fi_shows ∈ fT := fI_7 _ (List.mem_of_getElem? (i := 33) rfl)
theorem k_314 : Cond.code y_Dr_isShown c0_Dr_isShown 4 (some .boolean) ∈ fT := fI_7 _ (List.mem_of_getElem? (i := 34) rfl)
theorem k_315 : Cond.instanceMethod y_Dr_isShown ∈ fT := fI_7 _ (List.mem_of_getElem? (i := 35) rfl)
theorem k_316 : Cond.selects "FactFinder$Drawing" y_Dr_isShown y_Dr_isShown ∈ fT := fI_7 _ (List.mem_of_getElem? (i := 36) rfl)
theorem k_317 : Cond.code y_Fs_findLeads c0_Fs_findLeads 3 none ∈ fT := fI_7 _ (List.mem_of_getElem? (i := 37) rfl)
theorem k_318 : Cond.instanceMethod y_Fs_findLeads ∈ fT := fI_7 _ (List.mem_of_getElem? (i := 38) rfl)
theorem k_319 : Cond.selects "FactFinder$Findings" y_Fs_findLeads y_Fs_findLeads ∈ fT := fI_7 _ (List.mem_of_getElem? (i := 39) rfl)
theorem k_320 : Cond.code y_In_bitCount c0_In_bitCount 1 (some .int) ∈ fT := fI_8 _ (List.mem_of_getElem? (i := 0) rfl)
theorem k_321 : Cond.initialized "java/lang/Integer" ∈ fT := fI_8 _ (List.mem_of_getElem? (i := 1) rfl)
theorem k_322 : Cond.static y_In_bitCount ∈ fT := fI_8 _ (List.mem_of_getElem? (i := 2) rfl)
theorem k_323 : Cond.code y_Fs_placesOf c0_Fs_placesOf 4 (some .int) ∈ fT := fI_8 _ (List.mem_of_getElem? (i := 3) rfl)
theorem k_324 : Cond.instanceMethod y_Fs_placesOf ∈ fT := fI_8 _ (List.mem_of_getElem? (i := 4) rfl)
theorem k_325 : Cond.selects "FactFinder$Findings" y_Fs_placesOf y_Fs_placesOf ∈ fT := fI_8 _ (List.mem_of_getElem? (i := 5) rfl)
theorem k_326 : Cond.code y_Fs_countPlaces c0_Fs_countPlaces 1 (some .int) ∈ fT := fI_8 _ (List.mem_of_getElem? (i := 6) rfl)
theorem k_327 : Cond.instanceMethod y_Fs_countPlaces ∈ fT := fI_8 _ (List.mem_of_getElem? (i := 7) rfl)
theorem k_328 : Cond.selects "FactFinder$Findings" y_Fs_countPlaces y_Fs_countPlaces ∈ fT := fI_8 _ (List.mem_of_getElem? (i := 8) rfl)
theorem k_329 : Cond.code y_FF_count c0_FF_count 2 (some .int) ∈ fT := fI_8 _ (List.mem_of_getElem? (i := 9) rfl)
theorem k_330 : Cond.instanceMethod y_FF_count ∈ fT := fI_8 _ (List.mem_of_getElem? (i := 10) rfl)
theorem k_331 : Cond.selects "FactFinder" y_FF_count y_FF_count ∈ fT := fI_8 _ (List.mem_of_getElem? (i := 11) rfl)
theorem k_332 : Cond.code y_FF_told c0_FF_told 4 (some .int) ∈ fT := fI_8 _ (List.mem_of_getElem? (i := 12) rfl)
theorem k_333 : Cond.instanceMethod y_FF_told ∈ fT := fI_8 _ (List.mem_of_getElem? (i := 13) rfl)
theorem k_334 : Cond.selects "FactFinder" y_FF_told y_FF_told ∈ fT := fI_8 _ (List.mem_of_getElem? (i := 14) rfl)
theorem k_335 : Cond.code y_FF_falls c0_FF_falls 2 (some .int) ∈ fT := fI_8 _ (List.mem_of_getElem? (i := 15) rfl)
theorem k_336 : Cond.instanceMethod y_FF_falls ∈ fT := fI_8 _ (List.mem_of_getElem? (i := 16) rfl)
theorem k_337 : Cond.selects "FactFinder" y_FF_falls y_FF_falls ∈ fT := fI_8 _ (List.mem_of_getElem? (i := 17) rfl)
theorem k_338 : Cond.code y_FF_place c0_FF_place 5 (some .int) ∈ fT := fI_8 _ (List.mem_of_getElem? (i := 18) rfl)
theorem k_339 : Cond.instanceMethod y_FF_place ∈ fT := fI_8 _ (List.mem_of_getElem? (i := 19) rfl)
theorem k_340 : Cond.selects "FactFinder" y_FF_place y_FF_place ∈ fT := fI_8 _ (List.mem_of_getElem? (i := 20) rfl)
theorem k_341 : Cond.code y_FF_isFactKind c0_FF_isFactKind 1 (some .boolean) ∈ fT := fI_8 _ (List.mem_of_getElem? (i := 21) rfl)
theorem k_342 : Cond.static y_FF_isFactKind ∈ fT := fI_8 _ (List.mem_of_getElem? (i := 22) rfl)
theorem k_343 : Cond.code y_FF_areThere c0_FF_areThere 8 (some .boolean) ∈ fT := fI_8 _ (List.mem_of_getElem? (i := 23) rfl)
theorem k_344 : Cond.instanceMethod y_FF_areThere ∈ fT := fI_8 _ (List.mem_of_getElem? (i := 24) rfl)
theorem k_345 : Cond.selects "FactFinder" y_FF_areThere y_FF_areThere ∈ fT := fI_8 _ (List.mem_of_getElem? (i := 25) rfl)
theorem k_346 : Cond.code y_FF_areTwoPairs c0_FF_areTwoPairs 4 (some .boolean) ∈ fT := fI_8 _ (List.mem_of_getElem? (i := 26) rfl)
theorem k_347 : Cond.static y_FF_areTwoPairs ∈ fT := fI_8 _ (List.mem_of_getElem? (i := 27) rfl)
theorem k_348 : Cond.code y_FF_areApartPairs c0_FF_areApartPairs 4 (some .boolean) ∈ fT := fI_8 _ (List.mem_of_getElem? (i := 28) rfl)
theorem k_349 : Cond.static y_FF_areApartPairs ∈ fT := fI_8 _ (List.mem_of_getElem? (i := 29) rfl)
theorem k_350 : Cond.code y_FF_isFact c0_FF_isFact 7 (some .boolean) ∈ fT := fI_8 _ (List.mem_of_getElem? (i := 30) rfl)
theorem k_351 : Cond.static y_FF_isFact ∈ fT := fI_8 _ (List.mem_of_getElem? (i := 31) rfl)
theorem k_352 : Cond.code y_FF_join c0_FF_join 2 (some .int) ∈ fT := fI_8 _ (List.mem_of_getElem? (i := 32) rfl)
theorem k_353 : Cond.static y_FF_join ∈ fT := fI_8 _ (List.mem_of_getElem? (i := 33) rfl)
theorem k_354 : Cond.code y_Dr_firstWithLength c0_Dr_firstWithLength 4 (some (.object "FactFinder$Figure")) ∈ fT := fI_8 _ (List.mem_of_getElem? (i := 34) rfl)
theorem k_355 : Cond.instanceMethod y_Dr_firstWithLength ∈ fT := fI_8 _ (List.mem_of_getElem? (i := 35) rfl)
theorem k_356 : Cond.selects "FactFinder$Drawing" y_Dr_firstWithLength y_Dr_firstWithLength ∈ fT := fI_8 _ (List.mem_of_getElem? (i := 36) rfl)
theorem k_357 : Cond.code y_Dr_withNumbers c0_Dr_withNumbers 4 (some .int) ∈ fT := fI_8 _ (List.mem_of_getElem? (i := 37) rfl)
theorem k_358 : Cond.static y_Dr_withNumbers ∈ fT := fI_8 _ (List.mem_of_getElem? (i := 38) rfl)
theorem k_359 : Cond.code y_Dr_divide c0_Dr_divide 5 (some .long) ∈ fT := fI_8 _ (List.mem_of_getElem? (i := 39) rfl)
theorem k_360 : Cond.instanceMethod y_Dr_divide ∈ fT := fI_9 _ (List.mem_of_getElem? (i := 0) rfl)
theorem k_361 : Cond.selects "FactFinder$Drawing" y_Dr_divide y_Dr_divide ∈ fT := fI_9 _ (List.mem_of_getElem? (i := 1) rfl)
theorem k_362 : Cond.code y_Dr_giveNumbers c0_Dr_giveNumbers 13 (some .int) ∈ fT := fI_9 _ (List.mem_of_getElem? (i := 2) rfl)
theorem k_363 : Cond.instanceMethod y_Dr_giveNumbers ∈ fT := fI_9 _ (List.mem_of_getElem? (i := 3) rfl)
theorem k_364 : Cond.selects "FactFinder$Drawing" y_Dr_giveNumbers y_Dr_giveNumbers ∈ fT := fI_9 _ (List.mem_of_getElem? (i := 4) rfl)
theorem k_365 : Cond.code y_Dr_bears c0_Dr_bears 3 (some .boolean) ∈ fT := fI_9 _ (List.mem_of_getElem? (i := 5) rfl)
theorem k_366 : Cond.instanceMethod y_Dr_bears ∈ fT := fI_9 _ (List.mem_of_getElem? (i := 6) rfl)
theorem k_367 : Cond.selects "FactFinder$Drawing" y_Dr_bears y_Dr_bears ∈ fT := fI_9 _ (List.mem_of_getElem? (i := 7) rfl)
theorem k_368 : Cond.code y_FF_holds c0_FF_holds 10 (some .int) ∈ fT := fI_9 _ (List.mem_of_getElem? (i := 8) rfl)
theorem k_369 : Cond.instanceMethod y_FF_holds ∈ fT := fI_9 _ (List.mem_of_getElem? (i := 9) rfl)
theorem k_370 : Cond.selects "FactFinder" y_FF_holds y_FF_holds ∈ fT := fI_9 _ (List.mem_of_getElem? (i := 10) rfl)
theorem k_371 : Cond.code y_IL_add c0_IL_add 2 none ∈ fT := fI_9 _ (List.mem_of_getElem? (i := 11) rfl)
theorem k_372 : Cond.initialized "FactFinder$IntList" ∈ fT := fI_9 _ (List.mem_of_getElem? (i := 12) rfl)
theorem k_373 : Cond.instanceMethod y_IL_add ∈ fT := fI_9 _ (List.mem_of_getElem? (i := 13) rfl)
theorem k_374 : Cond.selects "FactFinder$IntList" y_IL_add y_IL_add ∈ fT := fI_9 _ (List.mem_of_getElem? (i := 14) rfl)
theorem k_375 : Cond.code y_Fs_listPairs c0_Fs_listPairs 3 none ∈ fT := fI_9 _ (List.mem_of_getElem? (i := 15) rfl)
theorem k_376 : Cond.instanceMethod y_Fs_listPairs ∈ fT := fI_9 _ (List.mem_of_getElem? (i := 16) rfl)
theorem k_377 : Cond.selects "FactFinder$Findings" y_Fs_listPairs y_Fs_listPairs ∈ fT := fI_9 _ (List.mem_of_getElem? (i := 17) rfl)
theorem k_378 : Cond.code y_Fs_isApart c0_Fs_isApart 7 (some .boolean) ∈ fT := fI_9 _ (List.mem_of_getElem? (i := 18) rfl)
theorem k_379 : Cond.instanceMethod y_Fs_isApart ∈ fT := fI_9 _ (List.mem_of_getElem? (i := 19) rfl)
theorem k_380 : Cond.selects "FactFinder$Findings" y_Fs_isApart y_Fs_isApart ∈ fT := fI_9 _ (List.mem_of_getElem? (i := 20) rfl)
theorem k_381 : Cond.code y_Fs_consider c0_Fs_consider 3 none ∈ fT := fI_9 _ (List.mem_of_getElem? (i := 21) rfl)
theorem k_382 : Cond.instanceMethod y_Fs_consider ∈ fT := fI_9 _ (List.mem_of_getElem? (i := 22) rfl)
theorem k_383 : Cond.selects "FactFinder$Findings" y_Fs_consider y_Fs_consider ∈ fT := fI_9 _ (List.mem_of_getElem? (i := 23) rfl)
theorem k_384 : Cond.code y_Fs_listTriples c0_Fs_listTriples 4 none ∈ fT := fI_9 _ (List.mem_of_getElem? (i := 24) rfl)
theorem k_385 : Cond.instanceMethod y_Fs_listTriples ∈ fT := fI_9 _ (List.mem_of_getElem? (i := 25) rfl)
theorem k_386 : Cond.selects "FactFinder$Findings" y_Fs_listTriples y_Fs_listTriples ∈ fT := fI_9 _ (List.mem_of_getElem? (i := 26) rfl)
theorem k_387 : Cond.code y_Fs_listFours c0_Fs_listFours 5 none ∈ fT := fI_9 _ (List.mem_of_getElem? (i := 27) rfl)
theorem k_388 : Cond.instanceMethod y_Fs_listFours ∈ fT := fI_9 _ (List.mem_of_getElem? (i := 28) rfl)
theorem k_389 : Cond.selects "FactFinder$Findings" y_Fs_listFours y_Fs_listFours ∈ fT := fI_9 _ (List.mem_of_getElem? (i := 29) rfl)
theorem k_390 : Cond.code y_Fs_listMiddles c0_Fs_listMiddles 4 none ∈ fT := fI_9 _ (List.mem_of_getElem? (i := 30) rfl)
theorem k_391 : Cond.instanceMethod y_Fs_listMiddles ∈ fT := fI_9 _ (List.mem_of_getElem? (i := 31) rfl)
theorem k_392 : Cond.selects "FactFinder$Findings" y_Fs_listMiddles y_Fs_listMiddles ∈ fT := fI_9 _ (List.mem_of_getElem? (i := 32) rfl)
theorem k_393 : Cond.code y_Dr_firstStanding c0_Dr_firstStanding 2 (some (.object "FactFinder$Figure")) ∈ fT := fI_9 _ (List.mem_of_getElem? (i := 33) rfl)
theorem k_394 : Cond.instanceMethod y_Dr_firstStanding ∈ fT := fI_9 _ (List.mem_of_getElem? (i := 34) rfl)
theorem k_395 : Cond.selects "FactFinder$Drawing" y_Dr_firstStanding y_Dr_firstStanding ∈ fT := fI_9 _ (List.mem_of_getElem? (i := 35) rfl)
theorem k_396 : Cond.code y_Fs_findTriples c0_Fs_findTriples 5 none ∈ fT := fI_9 _ (List.mem_of_getElem? (i := 36) rfl)
theorem k_397 : Cond.instanceMethod y_Fs_findTriples ∈ fT := fI_9 _ (List.mem_of_getElem? (i := 37) rfl)
theorem k_398 : Cond.selects "FactFinder$Findings" y_Fs_findTriples y_Fs_findTriples ∈ fT := fI_9 _ (List.mem_of_getElem? (i := 38) rfl)
theorem k_399 : Cond.code y_Fs_listAreas c0_Fs_listAreas 4 none ∈ fT := fI_9 _ (List.mem_of_getElem? (i := 39) rfl)
theorem k_400 : Cond.instanceMethod y_Fs_listAreas ∈ fT := fI_10 _ (List.mem_of_getElem? (i := 0) rfl)
theorem k_401 : Cond.selects "FactFinder$Findings" y_Fs_listAreas y_Fs_listAreas ∈ fT := fI_10 _ (List.mem_of_getElem? (i := 1) rfl)
theorem k_402 : Cond.code y_Fs_listRatios c0_Fs_listRatios 6 none ∈ fT := fI_10 _ (List.mem_of_getElem? (i := 2) rfl)
theorem k_403 : Cond.instanceMethod y_Fs_listRatios ∈ fT := fI_10 _ (List.mem_of_getElem? (i := 3) rfl)
theorem k_404 : Cond.selects "FactFinder$Findings" y_Fs_listRatios y_Fs_listRatios ∈ fT := fI_10 _ (List.mem_of_getElem? (i := 4) rfl)
theorem k_405 : Cond.code y_Fs_listTwoPairs c0_Fs_listTwoPairs 6 none ∈ fT := fI_10 _ (List.mem_of_getElem? (i := 5) rfl)
theorem k_406 : Cond.instanceMethod y_Fs_listTwoPairs ∈ fT := fI_10 _ (List.mem_of_getElem? (i := 6) rfl)
theorem k_407 : Cond.selects "FactFinder$Findings" y_Fs_listTwoPairs y_Fs_listTwoPairs ∈ fT := fI_10 _ (List.mem_of_getElem? (i := 7) rfl)
theorem k_408 : Cond.code y_Fs_list c0_Fs_list 2 (some (.object "FactFinder$IntList")) ∈ fT := fI_10 _ (List.mem_of_getElem? (i := 8) rfl)
theorem k_409 : Cond.instanceMethod y_Fs_list ∈ fT := fI_10 _ (List.mem_of_getElem? (i := 9) rfl)
theorem k_410 : Cond.selects "FactFinder$Findings" y_Fs_list y_Fs_list ∈ fT := fI_10 _ (List.mem_of_getElem? (i := 10) rfl)
theorem k_411 : Cond.code y_FF_facts c0_FF_facts 2 (some .int) ∈ fT := fI_10 _ (List.mem_of_getElem? (i := 11) rfl)
theorem k_412 : Cond.instanceMethod y_FF_facts ∈ fT := fI_10 _ (List.mem_of_getElem? (i := 12) rfl)
theorem k_413 : Cond.selects "FactFinder" y_FF_facts y_FF_facts ∈ fT := fI_10 _ (List.mem_of_getElem? (i := 13) rfl)
theorem k_414 : Cond.code y_IL_has c0_IL_has 2 (some .boolean) ∈ fT := fI_10 _ (List.mem_of_getElem? (i := 14) rfl)
theorem k_415 : Cond.instanceMethod y_IL_has ∈ fT := fI_10 _ (List.mem_of_getElem? (i := 15) rfl)
theorem k_416 : Cond.selects "FactFinder$IntList" y_IL_has y_IL_has ∈ fT := fI_10 _ (List.mem_of_getElem? (i := 16) rfl)
theorem k_417 : Cond.code y_FF_fact c0_FF_fact 5 (some .int) ∈ fT := fI_10 _ (List.mem_of_getElem? (i := 17) rfl)
theorem k_418 : Cond.instanceMethod y_FF_fact ∈ fT := fI_10 _ (List.mem_of_getElem? (i := 18) rfl)
theorem k_419 : Cond.selects "FactFinder" y_FF_fact y_FF_fact ∈ fT := fI_10 _ (List.mem_of_getElem? (i := 19) rfl)
theorem k_420 : Cond.code y_FF_needs c0_FF_needs 5 (some .int) ∈ fT := fI_10 _ (List.mem_of_getElem? (i := 20) rfl)
theorem k_421 : Cond.instanceMethod y_FF_needs ∈ fT := fI_10 _ (List.mem_of_getElem? (i := 21) rfl)
theorem k_422 : Cond.selects "FactFinder" y_FF_needs y_FF_needs ∈ fT := fI_10 _ (List.mem_of_getElem? (i := 22) rfl)
theorem k_423 : Cond.code y_IL_addRising c0_IL_addRising 4 none ∈ fT := fI_10 _ (List.mem_of_getElem? (i := 23) rfl)
theorem k_424 : Cond.instanceMethod y_IL_addRising ∈ fT := fI_10 _ (List.mem_of_getElem? (i := 24) rfl)
theorem k_425 : Cond.selects "FactFinder$IntList" y_IL_addRising y_IL_addRising ∈ fT := fI_10 _ (List.mem_of_getElem? (i := 25) rfl)
theorem k_426 : Cond.code y_Fs_addRow c0_Fs_addRow 5 none ∈ fT := fI_10 _ (List.mem_of_getElem? (i := 26) rfl)
theorem k_427 : Cond.instanceMethod y_Fs_addRow ∈ fT := fI_10 _ (List.mem_of_getElem? (i := 27) rfl)
theorem k_428 : Cond.selects "FactFinder$Findings" y_Fs_addRow y_Fs_addRow ∈ fT := fI_10 _ (List.mem_of_getElem? (i := 28) rfl)
theorem k_429 : Cond.code y_Fs_allRows c0_Fs_allRows 3 (some (.object "FactFinder$IntList")) ∈ fT := fI_10 _ (List.mem_of_getElem? (i := 29) rfl)
theorem k_430 : Cond.instanceMethod y_Fs_allRows ∈ fT := fI_10 _ (List.mem_of_getElem? (i := 30) rfl)
theorem k_431 : Cond.selects "FactFinder$Findings" y_Fs_allRows y_Fs_allRows ∈ fT := fI_10 _ (List.mem_of_getElem? (i := 31) rfl)
theorem k_432 : Cond.code y_FF_row c0_FF_row 3 (some .int) ∈ fT := fI_10 _ (List.mem_of_getElem? (i := 32) rfl)
theorem k_433 : Cond.instanceMethod y_FF_row ∈ fT := fI_10 _ (List.mem_of_getElem? (i := 33) rfl)
theorem k_434 : Cond.selects "FactFinder" y_FF_row y_FF_row ∈ fT := fI_10 _ (List.mem_of_getElem? (i := 34) rfl)
theorem k_435 : Cond.code y_Fs_addRing c0_Fs_addRing 7 none ∈ fT := fI_10 _ (List.mem_of_getElem? (i := 35) rfl)
theorem k_436 : Cond.instanceMethod y_Fs_addRing ∈ fT := fI_10 _ (List.mem_of_getElem? (i := 36) rfl)
theorem k_437 : Cond.selects "FactFinder$Findings" y_Fs_addRing y_Fs_addRing ∈ fT := fI_10 _ (List.mem_of_getElem? (i := 37) rfl)
theorem k_438 : Cond.code y_Fs_allRings c0_Fs_allRings 4 (some (.object "FactFinder$IntList")) ∈ fT := fI_10 _ (List.mem_of_getElem? (i := 38) rfl)
theorem k_439 : Cond.instanceMethod y_Fs_allRings ∈ fT := fI_10 _ (List.mem_of_getElem? (i := 39) rfl)
theorem k_440 : Cond.selects "FactFinder$Findings" y_Fs_allRings y_Fs_allRings ∈ fT := fI_11 _ (List.mem_of_getElem? (i := 0) rfl)
theorem k_441 : Cond.code y_FF_ring c0_FF_ring 3 (some .int) ∈ fT := fI_11 _ (List.mem_of_getElem? (i := 1) rfl)
theorem k_442 : Cond.instanceMethod y_FF_ring ∈ fT := fI_11 _ (List.mem_of_getElem? (i := 2) rfl)
theorem k_443 : Cond.selects "FactFinder" y_FF_ring y_FF_ring ∈ fT := fI_11 _ (List.mem_of_getElem? (i := 3) rfl)
theorem k_444 : Cond.code y_Mo_isIn c0_Mo_isIn 3 (some .boolean) ∈ fT := fI_11 _ (List.mem_of_getElem? (i := 4) rfl)
theorem k_445 : Cond.initialized "FactFinderModel" ∈ fT := fI_11 _ (List.mem_of_getElem? (i := 5) rfl)
theorem k_446 : Cond.static y_Mo_isIn ∈ fT := fI_11 _ (List.mem_of_getElem? (i := 6) rfl)
theorem k_447 : Cond.code y_Mo_mod c0_Mo_mod 4 (some .long) ∈ fT := fI_11 _ (List.mem_of_getElem? (i := 7) rfl)
theorem k_448 : Cond.static y_Mo_mod ∈ fT := fI_11 _ (List.mem_of_getElem? (i := 8) rfl)
theorem k_449 : Cond.code y_Mo_inverse c0_Mo_inverse 8 (some .long) ∈ fT := fI_11 _ (List.mem_of_getElem? (i := 9) rfl)
theorem k_450 : Cond.static y_Mo_inverse ∈ fT := fI_11 _ (List.mem_of_getElem? (i := 10) rfl)
theorem k_451 : Cond.code y_Mo_needs1 c0_Mo_needs1 1 (some .int) ∈ fT := fI_11 _ (List.mem_of_getElem? (i := 11) rfl)
theorem k_452 : Cond.static y_Mo_needs1 ∈ fT := fI_11 _ (List.mem_of_getElem? (i := 12) rfl)
theorem k_453 : Cond.code y_Mo_drawn c0_Mo_drawn 1 (some .long) ∈ fT := fI_11 _ (List.mem_of_getElem? (i := 13) rfl)
theorem k_454 : Cond.instanceMethod y_Mo_drawn ∈ fT := fI_11 _ (List.mem_of_getElem? (i := 14) rfl)
theorem k_455 : Cond.selects "FactFinderModel" y_Mo_drawn y_Mo_drawn ∈ fT := fI_11 _ (List.mem_of_getElem? (i := 15) rfl)
theorem k_456 : Cond.code y_Mo_px c0_Mo_px 2 (some .long) ∈ fT := fI_11 _ (List.mem_of_getElem? (i := 16) rfl)
theorem k_457 : Cond.instanceMethod y_Mo_px ∈ fT := fI_11 _ (List.mem_of_getElem? (i := 17) rfl)
theorem k_458 : Cond.selects "FactFinderModel" y_Mo_px y_Mo_px ∈ fT := fI_11 _ (List.mem_of_getElem? (i := 18) rfl)
theorem k_459 : Cond.code y_Mo_py c0_Mo_py 2 (some .long) ∈ fT := fI_11 _ (List.mem_of_getElem? (i := 19) rfl)
theorem k_460 : Cond.instanceMethod y_Mo_py ∈ fT := fI_11 _ (List.mem_of_getElem? (i := 20) rfl)
theorem k_461 : Cond.selects "FactFinderModel" y_Mo_py y_Mo_py ∈ fT := fI_11 _ (List.mem_of_getElem? (i := 21) rfl)
theorem k_462 : Cond.code y_Mo_cross c0_Mo_cross 5 (some .long) ∈ fT := fI_11 _ (List.mem_of_getElem? (i := 22) rfl)
theorem k_463 : Cond.instanceMethod y_Mo_cross ∈ fT := fI_11 _ (List.mem_of_getElem? (i := 23) rfl)
theorem k_464 : Cond.selects "FactFinderModel" y_Mo_cross y_Mo_cross ∈ fT := fI_11 _ (List.mem_of_getElem? (i := 24) rfl)
theorem k_465 : Cond.code y_Mo_dot c0_Mo_dot 5 (some .long) ∈ fT := fI_11 _ (List.mem_of_getElem? (i := 25) rfl)
theorem k_466 : Cond.instanceMethod y_Mo_dot ∈ fT := fI_11 _ (List.mem_of_getElem? (i := 26) rfl)
theorem k_467 : Cond.selects "FactFinderModel" y_Mo_dot y_Mo_dot ∈ fT := fI_11 _ (List.mem_of_getElem? (i := 27) rfl)
theorem k_468 : Cond.code y_Mo_along c0_Mo_along 5 none ∈ fT := fI_11 _ (List.mem_of_getElem? (i := 28) rfl)
theorem k_469 : Cond.instanceMethod y_Mo_along ∈ fT := fI_11 _ (List.mem_of_getElem? (i := 29) rfl)
theorem k_470 : Cond.selects "FactFinderModel" y_Mo_along y_Mo_along ∈ fT := fI_11 _ (List.mem_of_getElem? (i := 30) rfl)
theorem k_471 : Cond.code y_Mo_foot c0_Mo_foot 11 none ∈ fT := fI_11 _ (List.mem_of_getElem? (i := 31) rfl)
theorem k_472 : Cond.instanceMethod y_Mo_foot ∈ fT := fI_11 _ (List.mem_of_getElem? (i := 32) rfl)
theorem k_473 : Cond.selects "FactFinderModel" y_Mo_foot y_Mo_foot ∈ fT := fI_11 _ (List.mem_of_getElem? (i := 33) rfl)
theorem k_474 : Cond.code y_Mo_centre c0_Mo_centre 12 none ∈ fT := fI_11 _ (List.mem_of_getElem? (i := 34) rfl)
theorem k_475 : Cond.instanceMethod y_Mo_centre ∈ fT := fI_11 _ (List.mem_of_getElem? (i := 35) rfl)
theorem k_476 : Cond.selects "FactFinderModel" y_Mo_centre y_Mo_centre ∈ fT := fI_11 _ (List.mem_of_getElem? (i := 36) rfl)
theorem k_477 : Cond.code y_Mo_meet c0_Mo_meet 7 none ∈ fT := fI_11 _ (List.mem_of_getElem? (i := 37) rfl)
theorem k_478 : Cond.instanceMethod y_Mo_meet ∈ fT := fI_11 _ (List.mem_of_getElem? (i := 38) rfl)
theorem k_479 : Cond.selects "FactFinderModel" y_Mo_meet y_Mo_meet ∈ fT := fI_11 _ (List.mem_of_getElem? (i := 39) rfl)
theorem k_480 : Cond.code y_Mo_round c0_Mo_round 9 none ∈ fT := fI_12 _ (List.mem_of_getElem? (i := 0) rfl)
theorem k_481 : Cond.instanceMethod y_Mo_round ∈ fT := fI_12 _ (List.mem_of_getElem? (i := 1) rfl)
theorem k_482 : Cond.selects "FactFinderModel" y_Mo_round y_Mo_round ∈ fT := fI_12 _ (List.mem_of_getElem? (i := 2) rfl)
theorem k_483 : Cond.code y_Mo_turnOut c0_Mo_turnOut 6 none ∈ fT := fI_12 _ (List.mem_of_getElem? (i := 3) rfl)
theorem k_484 : Cond.instanceMethod y_Mo_turnOut ∈ fT := fI_12 _ (List.mem_of_getElem? (i := 4) rfl)
theorem k_485 : Cond.selects "FactFinderModel" y_Mo_turnOut y_Mo_turnOut ∈ fT := fI_12 _ (List.mem_of_getElem? (i := 5) rfl)
theorem k_486 : Cond.code y_Mo_doMore c0_Mo_doMore 6 none ∈ fT := fI_12 _ (List.mem_of_getElem? (i := 6) rfl)
theorem k_487 : Cond.instanceMethod y_Mo_doMore ∈ fT := fI_12 _ (List.mem_of_getElem? (i := 7) rfl)
theorem k_488 : Cond.selects "FactFinderModel" y_Mo_doMore y_Mo_doMore ∈ fT := fI_12 _ (List.mem_of_getElem? (i := 8) rfl)
theorem k_489 : Cond.code y_Mo_doStep c0_Mo_doStep 6 none ∈ fT := fI_12 _ (List.mem_of_getElem? (i := 9) rfl)
theorem k_490 : Cond.instanceMethod y_Mo_doStep ∈ fT := fI_12 _ (List.mem_of_getElem? (i := 10) rfl)
theorem k_491 : Cond.selects "FactFinderModel" y_Mo_doStep y_Mo_doStep ∈ fT := fI_12 _ (List.mem_of_getElem? (i := 11) rfl)
theorem k_492 : Cond.code y_Mo_drawFigure c0_Mo_drawFigure 3 none ∈ fT := fI_12 _ (List.mem_of_getElem? (i := 12) rfl)
theorem k_493 : Cond.instanceMethod y_Mo_drawFigure ∈ fT := fI_12 _ (List.mem_of_getElem? (i := 13) rfl)
theorem k_494 : Cond.selects "FactFinderModel" y_Mo_drawFigure y_Mo_drawFigure ∈ fT := fI_12 _ (List.mem_of_getElem? (i := 14) rfl)
theorem k_495 : Cond.code y_Mo_drawAll c0_Mo_drawAll 2 none ∈ fT := fI_12 _ (List.mem_of_getElem? (i := 15) rfl)
theorem k_496 : Cond.instanceMethod y_Mo_drawAll ∈ fT := fI_12 _ (List.mem_of_getElem? (i := 16) rfl)
theorem k_497 : Cond.selects "FactFinderModel" y_Mo_drawAll y_Mo_drawAll ∈ fT := fI_12 _ (List.mem_of_getElem? (i := 17) rfl)
theorem k_498 : Cond.code y_Mo_standing c0_Mo_standing 3 (some .int) ∈ fT := fI_12 _ (List.mem_of_getElem? (i := 18) rfl)
theorem k_499 : Cond.instanceMethod y_Mo_standing ∈ fT := fI_12 _ (List.mem_of_getElem? (i := 19) rfl)
theorem k_500 : Cond.selects "FactFinderModel" y_Mo_standing y_Mo_standing ∈ fT := fI_12 _ (List.mem_of_getElem? (i := 20) rfl)
theorem k_501 : Cond.code y_Mo_clear c0_Mo_clear 2 (some .int) ∈ fT := fI_12 _ (List.mem_of_getElem? (i := 21) rfl)
theorem k_502 : Cond.instanceMethod y_Mo_clear ∈ fT := fI_12 _ (List.mem_of_getElem? (i := 22) rfl)
theorem k_503 : Cond.selects "FactFinderModel" y_Mo_clear y_Mo_clear ∈ fT := fI_12 _ (List.mem_of_getElem? (i := 23) rfl)
theorem k_504 : Cond.code y_Mo_areThere c0_Mo_areThere 7 (some .boolean) ∈ fT := fI_12 _ (List.mem_of_getElem? (i := 24) rfl)
theorem k_505 : Cond.static y_Mo_areThere ∈ fT := fI_12 _ (List.mem_of_getElem? (i := 25) rfl)
theorem k_506 : Cond.code y_Mo_setStep c0_Mo_setStep 8 none ∈ fT := fI_12 _ (List.mem_of_getElem? (i := 26) rfl)
theorem k_507 : Cond.instanceMethod y_Mo_setStep ∈ fT := fI_12 _ (List.mem_of_getElem? (i := 27) rfl)
theorem k_508 : Cond.selects "FactFinderModel" y_Mo_setStep y_Mo_setStep ∈ fT := fI_12 _ (List.mem_of_getElem? (i := 28) rfl)
theorem k_509 : Cond.code y_Mo_step c0_Mo_step 6 (some .int) ∈ fT := fI_12 _ (List.mem_of_getElem? (i := 29) rfl)
theorem k_510 : Cond.instanceMethod y_Mo_step ∈ fT := fI_12 _ (List.mem_of_getElem? (i := 30) rfl)
theorem k_511 : Cond.selects "FactFinderModel" y_Mo_step y_Mo_step ∈ fT := fI_12 _ (List.mem_of_getElem? (i := 31) rfl)
theorem k_512 : Cond.code y_Mo_isPoint c0_Mo_isPoint 2 (some .boolean) ∈ fT := fI_12 _ (List.mem_of_getElem? (i := 32) rfl)
theorem k_513 : Cond.instanceMethod y_Mo_isPoint ∈ fT := fI_12 _ (List.mem_of_getElem? (i := 33) rfl)
theorem k_514 : Cond.selects "FactFinderModel" y_Mo_isPoint y_Mo_isPoint ∈ fT := fI_12 _ (List.mem_of_getElem? (i := 34) rfl)
theorem k_515 : Cond.code y_Mo_change c0_Mo_change 8 (some .int) ∈ fT := fI_12 _ (List.mem_of_getElem? (i := 35) rfl)
theorem k_516 : Cond.instanceMethod y_Mo_change ∈ fT := fI_12 _ (List.mem_of_getElem? (i := 36) rfl)
theorem k_517 : Cond.selects "FactFinderModel" y_Mo_change y_Mo_change ∈ fT := fI_12 _ (List.mem_of_getElem? (i := 37) rfl)
theorem k_518 : Cond.code y_Mo_draw c0_Mo_draw 3 (some .int) ∈ fT := fI_12 _ (List.mem_of_getElem? (i := 38) rfl)
theorem k_519 : Cond.instanceMethod y_Mo_draw ∈ fT := fI_12 _ (List.mem_of_getElem? (i := 39) rfl)
theorem k_520 : Cond.selects "FactFinderModel" y_Mo_draw y_Mo_draw ∈ fT := fI_13 _ (List.mem_of_getElem? (i := 0) rfl)
theorem k_521 : Cond.code y_Mo_setRow c0_Mo_setRow 7 none ∈ fT := fI_13 _ (List.mem_of_getElem? (i := 1) rfl)
theorem k_522 : Cond.instanceMethod y_Mo_setRow ∈ fT := fI_13 _ (List.mem_of_getElem? (i := 2) rfl)
theorem k_523 : Cond.selects "FactFinderModel" y_Mo_setRow y_Mo_setRow ∈ fT := fI_13 _ (List.mem_of_getElem? (i := 3) rfl)
theorem k_524 : Cond.code y_Mo_length c0_Mo_length 3 (some .long) ∈ fT := fI_13 _ (List.mem_of_getElem? (i := 4) rfl)
theorem k_525 : Cond.instanceMethod y_Mo_length ∈ fT := fI_13 _ (List.mem_of_getElem? (i := 5) rfl)
theorem k_526 : Cond.selects "FactFinderModel" y_Mo_length y_Mo_length ∈ fT := fI_13 _ (List.mem_of_getElem? (i := 6) rfl)
theorem k_527 : Cond.code y_Mo_square c0_Mo_square 2 (some .long) ∈ fT := fI_13 _ (List.mem_of_getElem? (i := 7) rfl)
theorem k_528 : Cond.static y_Mo_square ∈ fT := fI_13 _ (List.mem_of_getElem? (i := 8) rfl)
theorem k_529 : Cond.code y_Mo_lift c0_Mo_lift 3 (some .long) ∈ fT := fI_13 _ (List.mem_of_getElem? (i := 9) rfl)
theorem k_530 : Cond.instanceMethod y_Mo_lift ∈ fT := fI_13 _ (List.mem_of_getElem? (i := 10) rfl)
theorem k_531 : Cond.selects "FactFinderModel" y_Mo_lift y_Mo_lift ∈ fT := fI_13 _ (List.mem_of_getElem? (i := 11) rfl)
theorem k_532 : Cond.code y_Mo_ringOf c0_Mo_ringOf 11 (some .long) ∈ fT := fI_13 _ (List.mem_of_getElem? (i := 12) rfl)
theorem k_533 : Cond.instanceMethod y_Mo_ringOf ∈ fT := fI_13 _ (List.mem_of_getElem? (i := 13) rfl)
theorem k_534 : Cond.selects "FactFinderModel" y_Mo_ringOf y_Mo_ringOf ∈ fT := fI_13 _ (List.mem_of_getElem? (i := 14) rfl)
theorem k_535 : Cond.code y_Mo_isSo c0_Mo_isSo 8 (some .boolean) ∈ fT := fI_13 _ (List.mem_of_getElem? (i := 15) rfl)
theorem k_536 : Cond.instanceMethod y_Mo_isSo ∈ fT := fI_13 _ (List.mem_of_getElem? (i := 16) rfl)
theorem k_537 : Cond.selects "FactFinderModel" y_Mo_isSo y_Mo_isSo ∈ fT := fI_13 _ (List.mem_of_getElem? (i := 17) rfl)
theorem k_538 : Cond.code y_Mo_isAlways c0_Mo_isAlways 6 (some .boolean) ∈ fT := fI_13 _ (List.mem_of_getElem? (i := 18) rfl)
theorem k_539 : Cond.instanceMethod y_Mo_isAlways ∈ fT := fI_13 _ (List.mem_of_getElem? (i := 19) rfl)
theorem k_540 : Cond.selects "FactFinderModel" y_Mo_isAlways y_Mo_isAlways ∈ fT := fI_13 _ (List.mem_of_getElem? (i := 20) rfl)
theorem k_541 : Cond.code y_Mo_findSame c0_Mo_findSame 3 none ∈ fT := fI_13 _ (List.mem_of_getElem? (i := 21) rfl)
theorem k_542 : Cond.instanceMethod y_Mo_findSame ∈ fT := fI_13 _ (List.mem_of_getElem? (i := 22) rfl)
theorem k_543 : Cond.selects "FactFinderModel" y_Mo_findSame y_Mo_findSame ∈ fT := fI_13 _ (List.mem_of_getElem? (i := 23) rfl)
theorem k_544 : Cond.code y_Mo_places c0_Mo_places 6 (some .int) ∈ fT := fI_13 _ (List.mem_of_getElem? (i := 24) rfl)
theorem k_545 : Cond.instanceMethod y_Mo_places ∈ fT := fI_13 _ (List.mem_of_getElem? (i := 25) rfl)
theorem k_546 : Cond.selects "FactFinderModel" y_Mo_places y_Mo_places ∈ fT := fI_13 _ (List.mem_of_getElem? (i := 26) rfl)
theorem k_547 : Cond.code y_Mo_count c0_Mo_count 2 (some .int) ∈ fT := fI_13 _ (List.mem_of_getElem? (i := 27) rfl)
theorem k_548 : Cond.instanceMethod y_Mo_count ∈ fT := fI_13 _ (List.mem_of_getElem? (i := 28) rfl)
theorem k_549 : Cond.selects "FactFinderModel" y_Mo_count y_Mo_count ∈ fT := fI_13 _ (List.mem_of_getElem? (i := 29) rfl)
theorem k_550 : Cond.code y_Mo_told c0_Mo_told 3 (some .int) ∈ fT := fI_13 _ (List.mem_of_getElem? (i := 30) rfl)
theorem k_551 : Cond.instanceMethod y_Mo_told ∈ fT := fI_13 _ (List.mem_of_getElem? (i := 31) rfl)
theorem k_552 : Cond.selects "FactFinderModel" y_Mo_told y_Mo_told ∈ fT := fI_13 _ (List.mem_of_getElem? (i := 32) rfl)
theorem k_553 : Cond.code y_Mo_falls c0_Mo_falls 2 (some .int) ∈ fT := fI_13 _ (List.mem_of_getElem? (i := 33) rfl)
theorem k_554 : Cond.instanceMethod y_Mo_falls ∈ fT := fI_13 _ (List.mem_of_getElem? (i := 34) rfl)
theorem k_555 : Cond.selects "FactFinderModel" y_Mo_falls y_Mo_falls ∈ fT := fI_13 _ (List.mem_of_getElem? (i := 35) rfl)
theorem k_556 : Cond.code y_Mo_place c0_Mo_place 4 (some .int) ∈ fT := fI_13 _ (List.mem_of_getElem? (i := 36) rfl)
theorem k_557 : Cond.instanceMethod y_Mo_place ∈ fT := fI_13 _ (List.mem_of_getElem? (i := 37) rfl)
theorem k_558 : Cond.selects "FactFinderModel" y_Mo_place y_Mo_place ∈ fT := fI_13 _ (List.mem_of_getElem? (i := 38) rfl)
theorem k_559 : Cond.code y_Mo_isHeld c0_Mo_isHeld 4 (some .boolean) ∈ fT := fI_13 _ (List.mem_of_getElem? (i := 39) rfl)
theorem k_560 : Cond.instanceMethod y_Mo_isHeld ∈ fT := fI_14 _ (List.mem_of_getElem? (i := 0) rfl)
theorem k_561 : Cond.selects "FactFinderModel" y_Mo_isHeld y_Mo_isHeld ∈ fT := fI_14 _ (List.mem_of_getElem? (i := 1) rfl)
theorem k_562 : Cond.code y_Mo_isBefore c0_Mo_isBefore 1 (some .boolean) ∈ fT := fI_14 _ (List.mem_of_getElem? (i := 2) rfl)
theorem k_563 : Cond.instanceMethod y_Mo_isBefore ∈ fT := fI_14 _ (List.mem_of_getElem? (i := 3) rfl)
theorem k_564 : Cond.selects "FactFinderModel" y_Mo_isBefore y_Mo_isBefore ∈ fT := fI_14 _ (List.mem_of_getElem? (i := 4) rfl)
theorem k_565 : Cond.code y_Mo_isOrdered c0_Mo_isOrdered 3 (some .boolean) ∈ fT := fI_14 _ (List.mem_of_getElem? (i := 5) rfl)
theorem k_566 : Cond.instanceMethod y_Mo_isOrdered ∈ fT := fI_14 _ (List.mem_of_getElem? (i := 6) rfl)
theorem k_567 : Cond.selects "FactFinderModel" y_Mo_isOrdered y_Mo_isOrdered ∈ fT := fI_14 _ (List.mem_of_getElem? (i := 7) rfl)
theorem k_568 : Cond.code y_Mo_size c0_Mo_size 1 (some .int) ∈ fT := fI_14 _ (List.mem_of_getElem? (i := 8) rfl)
theorem k_569 : Cond.static y_Mo_size ∈ fT := fI_14 _ (List.mem_of_getElem? (i := 9) rfl)
theorem k_570 : Cond.code y_Mo_holds c0_Mo_holds 10 (some .int) ∈ fT := fI_14 _ (List.mem_of_getElem? (i := 10) rfl)
theorem k_571 : Cond.instanceMethod y_Mo_holds ∈ fT := fI_14 _ (List.mem_of_getElem? (i := 11) rfl)
theorem k_572 : Cond.selects "FactFinderModel" y_Mo_holds y_Mo_holds ∈ fT := fI_14 _ (List.mem_of_getElem? (i := 12) rfl)
theorem k_573 : Cond.code y_Mo_isEmpty c0_Mo_isEmpty 6 (some .boolean) ∈ fT := fI_14 _ (List.mem_of_getElem? (i := 13) rfl)
theorem k_574 : Cond.instanceMethod y_Mo_isEmpty ∈ fT := fI_14 _ (List.mem_of_getElem? (i := 14) rfl)
theorem k_575 : Cond.selects "FactFinderModel" y_Mo_isEmpty y_Mo_isEmpty ∈ fT := fI_14 _ (List.mem_of_getElem? (i := 15) rfl)
theorem k_576 : Cond.code y_Mo_isTold c0_Mo_isTold 5 (some .boolean) ∈ fT := fI_14 _ (List.mem_of_getElem? (i := 16) rfl)
theorem k_577 : Cond.instanceMethod y_Mo_isTold ∈ fT := fI_14 _ (List.mem_of_getElem? (i := 17) rfl)
theorem k_578 : Cond.selects "FactFinderModel" y_Mo_isTold y_Mo_isTold ∈ fT := fI_14 _ (List.mem_of_getElem? (i := 18) rfl)
theorem k_579 : Cond.code y_Mo_visit c0_Mo_visit 3 none ∈ fT := fI_14 _ (List.mem_of_getElem? (i := 19) rfl)
theorem k_580 : Cond.instanceMethod y_Mo_visit ∈ fT := fI_14 _ (List.mem_of_getElem? (i := 20) rfl)
theorem k_581 : Cond.selects "FactFinderModel" y_Mo_visit y_Mo_visit ∈ fT := fI_14 _ (List.mem_of_getElem? (i := 21) rfl)
theorem k_582 : Cond.code y_Mo_walkArea c0_Mo_walkArea 7 none ∈ fT := fI_14 _ (List.mem_of_getElem? (i := 22) rfl)
theorem k_583 : Cond.instanceMethod y_Mo_walkArea ∈ fT := fI_14 _ (List.mem_of_getElem? (i := 23) rfl)
theorem k_584 : Cond.selects "FactFinderModel" y_Mo_walkArea y_Mo_walkArea ∈ fT := fI_14 _ (List.mem_of_getElem? (i := 24) rfl)
theorem k_585 : Cond.code y_Mo_walkMore c0_Mo_walkMore 6 none ∈ fT := fI_14 _ (List.mem_of_getElem? (i := 25) rfl)
theorem k_586 : Cond.instanceMethod y_Mo_walkMore ∈ fT := fI_14 _ (List.mem_of_getElem? (i := 26) rfl)
theorem k_587 : Cond.selects "FactFinderModel" y_Mo_walkMore y_Mo_walkMore ∈ fT := fI_14 _ (List.mem_of_getElem? (i := 27) rfl)
theorem k_588 : Cond.code y_Mo_walkThird c0_Mo_walkThird 5 none ∈ fT := fI_14 _ (List.mem_of_getElem? (i := 28) rfl)
theorem k_589 : Cond.instanceMethod y_Mo_walkThird ∈ fT := fI_14 _ (List.mem_of_getElem? (i := 29) rfl)
theorem k_590 : Cond.selects "FactFinderModel" y_Mo_walkThird y_Mo_walkThird ∈ fT := fI_14 _ (List.mem_of_getElem? (i := 30) rfl)
theorem k_591 : Cond.code y_Mo_walk c0_Mo_walk 5 none ∈ fT := fI_14 _ (List.mem_of_getElem? (i := 31) rfl)
theorem k_592 : Cond.instanceMethod y_Mo_walk ∈ fT := fI_14 _ (List.mem_of_getElem? (i := 32) rfl)
theorem k_593 : Cond.selects "FactFinderModel" y_Mo_walk y_Mo_walk ∈ fT := fI_14 _ (List.mem_of_getElem? (i := 33) rfl)
theorem k_594 : Cond.code y_Mo_facts c0_Mo_facts 2 (some .int) ∈ fT := fI_14 _ (List.mem_of_getElem? (i := 34) rfl)
theorem k_595 : Cond.instanceMethod y_Mo_facts ∈ fT := fI_14 _ (List.mem_of_getElem? (i := 35) rfl)
theorem k_596 : Cond.selects "FactFinderModel" y_Mo_facts y_Mo_facts ∈ fT := fI_14 _ (List.mem_of_getElem? (i := 36) rfl)
theorem k_597 : Cond.code y_Mo_fact c0_Mo_fact 5 (some .int) ∈ fT := fI_14 _ (List.mem_of_getElem? (i := 37) rfl)
theorem k_598 : Cond.instanceMethod y_Mo_fact ∈ fT := fI_14 _ (List.mem_of_getElem? (i := 38) rfl)
theorem k_599 : Cond.selects "FactFinderModel" y_Mo_fact y_Mo_fact ∈ fT := fI_14 _ (List.mem_of_getElem? (i := 39) rfl)
theorem k_600 : Cond.code y_Mo_needs3 c0_Mo_needs3 6 (some .int) ∈ fT := fI_15 _ (List.mem_of_getElem? (i := 0) rfl)
theorem k_601 : Cond.instanceMethod y_Mo_needs3 ∈ fT := fI_15 _ (List.mem_of_getElem? (i := 1) rfl)
theorem k_602 : Cond.selects "FactFinderModel" y_Mo_needs3 y_Mo_needs3 ∈ fT := fI_15 _ (List.mem_of_getElem? (i := 2) rfl)
theorem k_603 : Cond.code y_Mo_clearSets c0_Mo_clearSets 2 none ∈ fT := fI_15 _ (List.mem_of_getElem? (i := 3) rfl)
theorem k_604 : Cond.instanceMethod y_Mo_clearSets ∈ fT := fI_15 _ (List.mem_of_getElem? (i := 4) rfl)
theorem k_605 : Cond.selects "FactFinderModel" y_Mo_clearSets y_Mo_clearSets ∈ fT := fI_15 _ (List.mem_of_getElem? (i := 5) rfl)
theorem k_606 : Cond.code y_Mo_set c0_Mo_set 5 (some .int) ∈ fT := fI_15 _ (List.mem_of_getElem? (i := 6) rfl)
theorem k_607 : Cond.instanceMethod y_Mo_set ∈ fT := fI_15 _ (List.mem_of_getElem? (i := 7) rfl)
theorem k_608 : Cond.selects "FactFinderModel" y_Mo_set y_Mo_set ∈ fT := fI_15 _ (List.mem_of_getElem? (i := 8) rfl)
theorem k_609 : Cond.code y_Mo_lineOf c0_Mo_lineOf 5 (some .int) ∈ fT := fI_15 _ (List.mem_of_getElem? (i := 9) rfl)
theorem k_610 : Cond.instanceMethod y_Mo_lineOf ∈ fT := fI_15 _ (List.mem_of_getElem? (i := 10) rfl)
theorem k_611 : Cond.selects "FactFinderModel" y_Mo_lineOf y_Mo_lineOf ∈ fT := fI_15 _ (List.mem_of_getElem? (i := 11) rfl)
theorem k_612 : Cond.code y_Mo_row c0_Mo_row 5 (some .int) ∈ fT := fI_15 _ (List.mem_of_getElem? (i := 12) rfl)
theorem k_613 : Cond.instanceMethod y_Mo_row ∈ fT := fI_15 _ (List.mem_of_getElem? (i := 13) rfl)
theorem k_614 : Cond.selects "FactFinderModel" y_Mo_row y_Mo_row ∈ fT := fI_15 _ (List.mem_of_getElem? (i := 14) rfl)
theorem k_615 : Cond.code y_Mo_ringThrough c0_Mo_ringThrough 6 (some .int) ∈ fT := fI_15 _ (List.mem_of_getElem? (i := 15) rfl)
theorem k_616 : Cond.instanceMethod y_Mo_ringThrough ∈ fT := fI_15 _ (List.mem_of_getElem? (i := 16) rfl)
theorem k_617 : Cond.selects "FactFinderModel" y_Mo_ringThrough y_Mo_ringThrough ∈ fT := fI_15 _ (List.mem_of_getElem? (i := 17) rfl)
theorem k_618 : Cond.code y_Mo_ring c0_Mo_ring 7 (some .int) ∈ fT := fI_15 _ (List.mem_of_getElem? (i := 18) rfl)
theorem k_619 : Cond.instanceMethod y_Mo_ring ∈ fT := fI_15 _ (List.mem_of_getElem? (i := 19) rfl)
theorem k_620 : Cond.selects "FactFinderModel" y_Mo_ring y_Mo_ring ∈ fT := fI_15 _ (List.mem_of_getElem? (i := 20) rfl)
theorem k_621 : Cond.laysFinal "FactFinder" "FactFinder" "plan" "LFactFinder$Plan;" ∈ fT := fI_15 _ (List.mem_of_getElem? (i := 21) rfl)
theorem k_622 : Cond.laysFinal "FactFinder" "FactFinder" "findings" "LFactFinder$Findings;" ∈ fT := fI_15 _ (List.mem_of_getElem? (i := 22) rfl)
theorem k_623 : Cond.laysFinal "FactFinder" "FactFinder" "trial" "LFactFinder$Drawing;" ∈ fT := fI_15 _ (List.mem_of_getElem? (i := 23) rfl)
theorem k_624 : Cond.lays "FactFinder" "FactFinder" "seed" "I" ∈ fT := fI_15 _ (List.mem_of_getElem? (i := 24) rfl)
theorem k_625 : Cond.lays "FactFinder" "FactFinder" "figures" "I" ∈ fT := fI_15 _ (List.mem_of_getElem? (i := 25) rfl)
theorem k_626 : Cond.laysFinal "FactFinder$Plan" "FactFinder$Plan" "kinds" "[I" ∈ fT := fI_15 _ (List.mem_of_getElem? (i := 26) rfl)
theorem k_627 : Cond.laysFinal "FactFinder$Plan" "FactFinder$Plan" "sources" "[I" ∈ fT := fI_15 _ (List.mem_of_getElem? (i := 27) rfl)
theorem k_628 : Cond.lays "FactFinder$Plan" "FactFinder$Plan" "size" "I" ∈ fT := fI_15 _ (List.mem_of_getElem? (i := 28) rfl)
theorem k_629 : Cond.laysFinal "FactFinder$Findings" "FactFinder$Findings" "drawing" "LFactFinder$Drawing;" ∈ fT := fI_15 _ (List.mem_of_getElem? (i := 29) rfl)
theorem k_630 : Cond.laysFinal "FactFinder$Findings" "FactFinder$Findings" "lists" "[LFactFinder$IntList;" ∈ fT := fI_15 _ (List.mem_of_getElem? (i := 30) rfl)
theorem k_631 : Cond.laysFinal "FactFinder$Findings" "FactFinder$Findings" "rows" "LFactFinder$IntList;" ∈ fT := fI_15 _ (List.mem_of_getElem? (i := 31) rfl)
theorem k_632 : Cond.laysFinal "FactFinder$Findings" "FactFinder$Findings" "rings" "LFactFinder$IntList;" ∈ fT := fI_15 _ (List.mem_of_getElem? (i := 32) rfl)
theorem k_633 : Cond.laysFinal "FactFinder$Findings" "FactFinder$Findings" "leads" "[I" ∈ fT := fI_15 _ (List.mem_of_getElem? (i := 33) rfl)
theorem k_634 : Cond.laysFinal "FactFinder$Findings" "FactFinder$Findings" "triples" "LFactFinder$IntList;" ∈ fT := fI_15 _ (List.mem_of_getElem? (i := 34) rfl)
theorem k_635 : Cond.laysFinal "FactFinder$Findings" "FactFinder$Findings" "areas" "[J" ∈ fT := fI_15 _ (List.mem_of_getElem? (i := 35) rfl)
theorem k_636 : Cond.lays "FactFinder$Findings" "FactFinder$Findings" "points" "I" ∈ fT := fI_15 _ (List.mem_of_getElem? (i := 36) rfl)
theorem k_637 : Cond.lays "FactFinder$Findings" "FactFinder$Findings" "known" "I" ∈ fT := fI_15 _ (List.mem_of_getElem? (i := 37) rfl)
theorem k_638 : Cond.laysFinal "FactFinder$Drawing" "FactFinder$Drawing" "sheets" "[LFactFinder$Figure;" ∈ fT := fI_15 _ (List.mem_of_getElem? (i := 38) rfl)
theorem k_639 : Cond.lays "FactFinder$Drawing" "FactFinder$Drawing" "standing" "I" ∈ fT := fI_15 _ (List.mem_of_getElem? (i := 39) rfl)
theorem k_640 : Cond.lays "FactFinder$Drawing" "FactFinder$Drawing" "size" "I" ∈ fT := fI_16 _ (List.mem_of_getElem? (i := 0) rfl)
theorem k_641 : Cond.lays "FactFinder$Drawing" "FactFinder$Drawing" "divisor" "J" ∈ fT := fI_16 _ (List.mem_of_getElem? (i := 1) rfl)
theorem k_642 : Cond.lays "FactFinder$Drawing" "FactFinder$Drawing" "inverse" "J" ∈ fT := fI_16 _ (List.mem_of_getElem? (i := 2) rfl)
theorem k_643 : Cond.laysFinal "FactFinder$Figure" "FactFinder$Figure" "x" "[I" ∈ fT := fI_16 _ (List.mem_of_getElem? (i := 3) rfl)
theorem k_644 : Cond.laysFinal "FactFinder$Figure" "FactFinder$Figure" "y" "[I" ∈ fT := fI_16 _ (List.mem_of_getElem? (i := 4) rfl)
theorem k_645 : Cond.lays "FactFinder$Figure" "FactFinder$Figure" "made" "I" ∈ fT := fI_16 _ (List.mem_of_getElem? (i := 5) rfl)
theorem k_646 : Cond.lays "FactFinder$Figure" "FactFinder$Figure" "fallen" "I" ∈ fT := fI_16 _ (List.mem_of_getElem? (i := 6) rfl)
theorem k_647 : Cond.lays "FactFinder$Figure" "FactFinder$Figure" "state" "J" ∈ fT := fI_16 _ (List.mem_of_getElem? (i := 7) rfl)
theorem k_648 : Cond.lays "FactFinder$Figure" "FactFinder$Figure" "foundX" "I" ∈ fT := fI_16 _ (List.mem_of_getElem? (i := 8) rfl)
theorem k_649 : Cond.lays "FactFinder$Figure" "FactFinder$Figure" "foundY" "I" ∈ fT := fI_16 _ (List.mem_of_getElem? (i := 9) rfl)
theorem k_650 : Cond.laysFinal "FactFinder$IntList" "FactFinder$IntList" "items" "[I" ∈ fT := fI_16 _ (List.mem_of_getElem? (i := 10) rfl)
theorem k_651 : Cond.lays "FactFinder$IntList" "FactFinder$IntList" "size" "I" ∈ fT := fI_16 _ (List.mem_of_getElem? (i := 11) rfl)
theorem k_652 : Cond.lays "FactFinderModel" "FactFinderModel" "many" "I" ∈ fT := fI_16 _ (List.mem_of_getElem? (i := 12) rfl)
theorem k_653 : Cond.laysFinal "FactFinderModel" "FactFinderModel" "kindOf" "[I" ∈ fT := fI_16 _ (List.mem_of_getElem? (i := 13) rfl)
theorem k_654 : Cond.laysFinal "FactFinderModel" "FactFinderModel" "need" "[I" ∈ fT := fI_16 _ (List.mem_of_getElem? (i := 14) rfl)
theorem k_655 : Cond.lays "FactFinderModel" "FactFinderModel" "seed" "I" ∈ fT := fI_16 _ (List.mem_of_getElem? (i := 15) rfl)
theorem k_656 : Cond.lays "FactFinderModel" "FactFinderModel" "figures" "I" ∈ fT := fI_16 _ (List.mem_of_getElem? (i := 16) rfl)
theorem k_657 : Cond.laysFinal "FactFinderModel" "FactFinderModel" "xs" "[J" ∈ fT := fI_16 _ (List.mem_of_getElem? (i := 17) rfl)
theorem k_658 : Cond.laysFinal "FactFinderModel" "FactFinderModel" "ys" "[J" ∈ fT := fI_16 _ (List.mem_of_getElem? (i := 18) rfl)
theorem k_659 : Cond.laysFinal "FactFinderModel" "FactFinderModel" "fallsAt" "[I" ∈ fT := fI_16 _ (List.mem_of_getElem? (i := 19) rfl)
theorem k_660 : Cond.lays "FactFinderModel" "FactFinderModel" "figure" "I" ∈ fT := fI_16 _ (List.mem_of_getElem? (i := 20) rfl)
theorem k_661 : Cond.lays "FactFinderModel" "FactFinderModel" "state" "J" ∈ fT := fI_16 _ (List.mem_of_getElem? (i := 21) rfl)
theorem k_662 : Cond.lays "FactFinderModel" "FactFinderModel" "x" "J" ∈ fT := fI_16 _ (List.mem_of_getElem? (i := 22) rfl)
theorem k_663 : Cond.lays "FactFinderModel" "FactFinderModel" "y" "J" ∈ fT := fI_16 _ (List.mem_of_getElem? (i := 23) rfl)
theorem k_664 : Cond.lays "FactFinderModel" "FactFinderModel" "isFallen" "Z" ∈ fT := fI_16 _ (List.mem_of_getElem? (i := 24) rfl)
theorem k_665 : Cond.laysFinal "FactFinderModel" "FactFinderModel" "\x72" "[I" ∈ fT := fI_16 _ (List.mem_of_getElem? (i := 25) rfl)
theorem k_666 : Cond.lays "FactFinderModel" "FactFinderModel" "foundM" "I" ∈ fT := fI_16 _ (List.mem_of_getElem? (i := 26) rfl)
theorem k_667 : Cond.lays "FactFinderModel" "FactFinderModel" "foundN" "I" ∈ fT := fI_16 _ (List.mem_of_getElem? (i := 27) rfl)
theorem k_668 : Cond.laysFinal "FactFinderModel" "FactFinderModel" "same" "[Z" ∈ fT := fI_16 _ (List.mem_of_getElem? (i := 28) rfl)
theorem k_669 : Cond.lays "FactFinderModel" "FactFinderModel" "seen" "I" ∈ fT := fI_16 _ (List.mem_of_getElem? (i := 29) rfl)
theorem k_670 : Cond.lays "FactFinderModel" "FactFinderModel" "wanted" "I" ∈ fT := fI_16 _ (List.mem_of_getElem? (i := 30) rfl)
theorem k_671 : Cond.laysFinal "FactFinderModel" "FactFinderModel" "found" "[I" ∈ fT := fI_16 _ (List.mem_of_getElem? (i := 31) rfl)
theorem k_672 : Cond.lays "FactFinderModel" "FactFinderModel" "isFound" "Z" ∈ fT := fI_16 _ (List.mem_of_getElem? (i := 32) rfl)
theorem k_673 : Cond.laysFinal "FactFinderModel" "FactFinderModel" "isSet" "[Z" ∈ fT := fI_16 _ (List.mem_of_getElem? (i := 33) rfl)
theorem k_674 : Cond.instantiable "FactFinder" 5 ∈ fT := fI_16 _ (List.mem_of_getElem? (i := 34) rfl)
theorem k_675 : Cond.instantiable "FactFinder$Plan" 3 ∈ fT := fI_16 _ (List.mem_of_getElem? (i := 35) rfl)
theorem k_676 : Cond.instantiable "FactFinder$Findings" 9 ∈ fT := fI_16 _ (List.mem_of_getElem? (i := 36) rfl)
theorem k_677 : Cond.instantiable "FactFinder$Drawing" 5 ∈ fT := fI_16 _ (List.mem_of_getElem? (i := 37) rfl)
theorem k_678 : Cond.instantiable "FactFinder$Figure" 7 ∈ fT := fI_16 _ (List.mem_of_getElem? (i := 38) rfl)
theorem k_679 : Cond.instantiable "FactFinder$IntList" 2 ∈ fT := fI_16 _ (List.mem_of_getElem? (i := 39) rfl)
theorem k_680 : Cond.instantiable "FactFinderModel" 22 ∈ fT := fI_17 _ (List.mem_of_getElem? (i := 0) rfl)
theorem k_681 : Cond.arrayClass .int ∈ fT := fI_17 _ (List.mem_of_getElem? (i := 1) rfl)
theorem k_682 : Cond.arrayClass .long ∈ fT := fI_17 _ (List.mem_of_getElem? (i := 2) rfl)
theorem k_683 : Cond.arrayClass .boolean ∈ fT := fI_17 _ (List.mem_of_getElem? (i := 3) rfl)
theorem k_684 : Cond.initialized "FactFinderLaw" ∈ fT := fI_17 _ (List.mem_of_getElem? (i := 4) rfl)
theorem k_685 : Cond.initialized "java/lang/Math" ∈ fT := fI_17 _ (List.mem_of_getElem? (i := 5) rfl)
theorem k_686 : Cond.classLink "FactFinderLaw" 7 "FactFinder" ∈ fT := fI_17 _ (List.mem_of_getElem? (i := 6) rfl)
theorem k_687 : Cond.methodLink "FactFinderLaw" 9 y_FF_init ∈ fT := fI_17 _ (List.mem_of_getElem? (i := 7) rfl)
theorem k_688 : Cond.instanceMethod y_FF_init ∈ fT := fI_17 _ (List.mem_of_getElem? (i := 8) rfl)
theorem k_689 : Cond.code y_FF_init c0_FF_init 1 none ∈ fT := fI_17 _ (List.mem_of_getElem? (i := 9) rfl)
theorem k_690 : Cond.methodLink "FactFinder" 1 (⟨"java/lang/Object", "<init>", "()V"⟩ : MethodName) ∈ fT := fI_17 _ (List.mem_of_getElem? (i := 10) rfl)
theorem k_691 : Cond.instanceMethod (⟨"java/lang/Object", "<init>", "()V"⟩ : MethodName) ∈ fT := fI_17 _ (List.mem_of_getElem? (i := 11) rfl)
theorem k_692 : Cond.code (⟨"java/lang/Object", "<init>", "()V"⟩ : MethodName) object_method_1_code 1 none ∈ fT := fI_17 _ (List.mem_of_getElem? (i := 12) rfl)
theorem k_693 : Cond.classLink "FactFinder" 7 "FactFinder$Plan" ∈ fT := fI_17 _ (List.mem_of_getElem? (i := 13) rfl)
theorem k_694 : Cond.instanceMethod y_Pl_init ∈ fT := fI_17 _ (List.mem_of_getElem? (i := 14) rfl)
theorem k_695 : Cond.code y_Pl_init c0_Pl_init 1 none ∈ fT := fI_17 _ (List.mem_of_getElem? (i := 15) rfl)
theorem k_696 : Cond.methodLink "FactFinder$Plan" 3 (⟨"java/lang/Object", "<init>", "()V"⟩ : MethodName) ∈ fT := fI_17 _ (List.mem_of_getElem? (i := 16) rfl)
theorem k_697 : Cond.classLink "FactFinder" 16 "FactFinder$Findings" ∈ fT := fI_17 _ (List.mem_of_getElem? (i := 17) rfl)
theorem k_698 : Cond.methodLink "FactFinder" 18 y_Fs_init ∈ fT := fI_17 _ (List.mem_of_getElem? (i := 18) rfl)
theorem k_699 : Cond.instanceMethod y_Fs_init ∈ fT := fI_17 _ (List.mem_of_getElem? (i := 19) rfl)
theorem k_700 : Cond.code y_Fs_init c0_Fs_init 2 none ∈ fT := fI_17 _ (List.mem_of_getElem? (i := 20) rfl)
theorem k_701 : Cond.methodLink "FactFinder$Findings" 3 (⟨"java/lang/Object", "<init>", "()V"⟩ : MethodName) ∈ fT := fI_17 _ (List.mem_of_getElem? (i := 21) rfl)
theorem k_702 : Cond.classLink "FactFinder$Findings" 9 "FactFinder$Drawing" ∈ fT := fI_17 _ (List.mem_of_getElem? (i := 22) rfl)
theorem k_703 : Cond.methodLink "FactFinder$Findings" 11 y_Dr_init ∈ fT := fI_17 _ (List.mem_of_getElem? (i := 23) rfl)
theorem k_704 : Cond.instanceMethod y_Dr_init ∈ fT := fI_17 _ (List.mem_of_getElem? (i := 24) rfl)
theorem k_705 : Cond.code y_Dr_init c0_Dr_init 2 none ∈ fT := fI_17 _ (List.mem_of_getElem? (i := 25) rfl)
theorem k_706 : Cond.methodLink "FactFinder$Drawing" 3 (⟨"java/lang/Object", "<init>", "()V"⟩ : MethodName) ∈ fT := fI_17 _ (List.mem_of_getElem? (i := 26) rfl)
theorem k_707 : Cond.classLink "FactFinder$Drawing" 9 "FactFinder$Figure" ∈ fT := fI_17 _ (List.mem_of_getElem? (i := 27) rfl)
theorem k_708 : Cond.instanceMethod y_Fi_init ∈ fT := fI_17 _ (List.mem_of_getElem? (i := 28) rfl)
theorem k_709 : Cond.code y_Fi_init c0_Fi_init 1 none ∈ fT := fI_17 _ (List.mem_of_getElem? (i := 29) rfl)
theorem k_710 : Cond.methodLink "FactFinder$Figure" 3 (⟨"java/lang/Object", "<init>", "()V"⟩ : MethodName) ∈ fT := fI_17 _ (List.mem_of_getElem? (i := 30) rfl)
theorem k_711 : Cond.classLink "FactFinder$Findings" 18 "FactFinder$IntList" ∈ fT := fI_17 _ (List.mem_of_getElem? (i := 31) rfl)
theorem k_712 : Cond.methodLink "FactFinder$Findings" 24 y_IL_init ∈ fT := fI_17 _ (List.mem_of_getElem? (i := 32) rfl)
theorem k_713 : Cond.instanceMethod y_IL_init ∈ fT := fI_17 _ (List.mem_of_getElem? (i := 33) rfl)
theorem k_714 : Cond.code y_IL_init c0_IL_init 2 none ∈ fT := fI_17 _ (List.mem_of_getElem? (i := 34) rfl)
theorem k_715 : Cond.methodLink "FactFinder$IntList" 1 (⟨"java/lang/Object", "<init>", "()V"⟩ : MethodName) ∈ fT := fI_17 _ (List.mem_of_getElem? (i := 35) rfl)
theorem k_716 : Cond.methodLink "FactFinder$IntList" 7 (⟨"java/lang/Math", "max", "(II)I"⟩ : MethodName) ∈ fT := fI_17 _ (List.mem_of_getElem? (i := 36) rfl)
theorem k_717 : Cond.static (⟨"java/lang/Math", "max", "(II)I"⟩ : MethodName) ∈ fT := fI_17 _ (List.mem_of_getElem? (i := 37) rfl)
theorem k_718 : Cond.code (⟨"java/lang/Math", "max", "(II)I"⟩ : MethodName) prog_10_method_65_code 2 (some .int) ∈ fT := fI_17 _ (List.mem_of_getElem? (i := 38) rfl)
theorem k_719 : Cond.classLink "FactFinder" 23 "FactFinder$Drawing" ∈ fT := fI_17 _ (List.mem_of_getElem? (i := 39) rfl)
theorem k_720 : Cond.methodLink "FactFinder" 25 y_Dr_init ∈ fT := fI_18 _ (List.mem_of_getElem? (i := 0) rfl)
theorem k_721 : Cond.methodLink "FactFinderLaw" 13 y_FF_clear ∈ fT := fI_18 _ (List.mem_of_getElem? (i := 1) rfl)
theorem k_722 : Cond.methodLink "FactFinderLaw" 18 y_FF_step ∈ fT := fI_18 _ (List.mem_of_getElem? (i := 2) rfl)
theorem k_723 : Cond.methodLink "FactFinderLaw" 23 y_FF_change ∈ fT := fI_18 _ (List.mem_of_getElem? (i := 3) rfl)
theorem k_724 : Cond.methodLink "FactFinderLaw" 28 y_FF_draw ∈ fT := fI_18 _ (List.mem_of_getElem? (i := 4) rfl)
theorem k_725 : Cond.methodLink "FactFinderLaw" 33 y_FF_count ∈ fT := fI_18 _ (List.mem_of_getElem? (i := 5) rfl)
theorem k_726 : Cond.methodLink "FactFinderLaw" 38 y_FF_told ∈ fT := fI_18 _ (List.mem_of_getElem? (i := 6) rfl)
theorem k_727 : Cond.methodLink "FactFinderLaw" 42 y_FF_falls ∈ fT := fI_18 _ (List.mem_of_getElem? (i := 7) rfl)
theorem k_728 : Cond.methodLink "FactFinderLaw" 46 y_FF_place ∈ fT := fI_18 _ (List.mem_of_getElem? (i := 8) rfl)
theorem k_729 : Cond.methodLink "FactFinderLaw" 51 y_FF_holds ∈ fT := fI_18 _ (List.mem_of_getElem? (i := 9) rfl)
theorem k_730 : Cond.methodLink "FactFinderLaw" 56 y_FF_facts ∈ fT := fI_18 _ (List.mem_of_getElem? (i := 10) rfl)
theorem k_731 : Cond.methodLink "FactFinderLaw" 60 y_FF_fact ∈ fT := fI_18 _ (List.mem_of_getElem? (i := 11) rfl)
theorem k_732 : Cond.methodLink "FactFinderLaw" 64 y_FF_needs ∈ fT := fI_18 _ (List.mem_of_getElem? (i := 12) rfl)
theorem k_733 : Cond.methodLink "FactFinderLaw" 68 y_FF_row ∈ fT := fI_18 _ (List.mem_of_getElem? (i := 13) rfl)
theorem k_734 : Cond.methodLink "FactFinderLaw" 72 y_FF_ring ∈ fT := fI_18 _ (List.mem_of_getElem? (i := 14) rfl)
theorem k_735 : Cond.classLink "FactFinderLaw" 10 "FactFinderModel" ∈ fT := fI_18 _ (List.mem_of_getElem? (i := 15) rfl)
theorem k_736 : Cond.methodLink "FactFinderLaw" 12 y_Mo_init ∈ fT := fI_18 _ (List.mem_of_getElem? (i := 16) rfl)
theorem k_737 : Cond.instanceMethod y_Mo_init ∈ fT := fI_18 _ (List.mem_of_getElem? (i := 17) rfl)
theorem k_738 : Cond.code y_Mo_init c0_Mo_init 1 none ∈ fT := fI_18 _ (List.mem_of_getElem? (i := 18) rfl)
theorem k_739 : Cond.methodLink "FactFinderModel" 1 (⟨"java/lang/Object", "<init>", "()V"⟩ : MethodName) ∈ fT := fI_18 _ (List.mem_of_getElem? (i := 19) rfl)
theorem k_740 : Cond.methodLink "FactFinderLaw" 17 y_Mo_clear ∈ fT := fI_18 _ (List.mem_of_getElem? (i := 20) rfl)
theorem k_741 : Cond.methodLink "FactFinderLaw" 22 y_Mo_step ∈ fT := fI_18 _ (List.mem_of_getElem? (i := 21) rfl)
theorem k_742 : Cond.methodLink "FactFinderLaw" 27 y_Mo_change ∈ fT := fI_18 _ (List.mem_of_getElem? (i := 22) rfl)
theorem k_743 : Cond.methodLink "FactFinderLaw" 32 y_Mo_draw ∈ fT := fI_18 _ (List.mem_of_getElem? (i := 23) rfl)
theorem k_744 : Cond.methodLink "FactFinderLaw" 37 y_Mo_count ∈ fT := fI_18 _ (List.mem_of_getElem? (i := 24) rfl)
theorem k_745 : Cond.methodLink "FactFinderLaw" 41 y_Mo_told ∈ fT := fI_18 _ (List.mem_of_getElem? (i := 25) rfl)
theorem k_746 : Cond.methodLink "FactFinderLaw" 45 y_Mo_falls ∈ fT := fI_18 _ (List.mem_of_getElem? (i := 26) rfl)
theorem k_747 : Cond.methodLink "FactFinderLaw" 50 y_Mo_place ∈ fT := fI_18 _ (List.mem_of_getElem? (i := 27) rfl)
theorem k_748 : Cond.methodLink "FactFinderLaw" 55 y_Mo_holds ∈ fT := fI_18 _ (List.mem_of_getElem? (i := 28) rfl)
theorem k_749 : Cond.methodLink "FactFinderLaw" 59 y_Mo_facts ∈ fT := fI_18 _ (List.mem_of_getElem? (i := 29) rfl)
theorem k_750 : Cond.methodLink "FactFinderLaw" 63 y_Mo_fact ∈ fT := fI_18 _ (List.mem_of_getElem? (i := 30) rfl)
theorem k_751 : Cond.methodLink "FactFinderLaw" 67 y_Mo_needs3 ∈ fT := fI_18 _ (List.mem_of_getElem? (i := 31) rfl)
theorem k_752 : Cond.methodLink "FactFinderLaw" 71 y_Mo_row ∈ fT := fI_18 _ (List.mem_of_getElem? (i := 32) rfl)
theorem k_753 : Cond.methodLink "FactFinderLaw" 75 y_Mo_ring ∈ fT := fI_18 _ (List.mem_of_getElem? (i := 33) rfl)
theorem k_754 : Cond.code objectInit ⟨#[0xb1]⟩ 1 none ∈ fT := fI_18 _ (List.mem_of_getElem? (i := 34) rfl)
theorem k_755 : Cond.instanceMethod objectInit ∈ fT := fI_18 _ (List.mem_of_getElem? (i := 35) rfl)
theorem kn_0 : Cond.methodLinkNest "FactFinder$Figure" 99 y_FF_invert "FactFinder" ∈ NWL := List.mem_of_getElem? (i := 0) (by decide +kernel)
theorem kn_1 : Cond.fieldLinkNest "FactFinder$Plan" 18 "FactFinder" "STEP_POINTS" "[I" "FactFinder" ∈ NWL := List.mem_of_getElem? (i := 1) (by decide +kernel)
theorem kn_2 : Cond.methodLinkNest "FactFinder$Figure" 109 y_FF_unpack "FactFinder" ∈ NWL := List.mem_of_getElem? (i := 2) (by decide +kernel)
theorem kn_3 : Cond.methodLinkNest "FactFinder$Findings" 98 y_FF_pack "FactFinder" ∈ NWL := List.mem_of_getElem? (i := 3) (by decide +kernel)
theorem kn_4 : Cond.methodLinkNest "FactFinder$Drawing" 62 y_FF_unpack "FactFinder" ∈ NWL := List.mem_of_getElem? (i := 4) (by decide +kernel)
theorem kn_5 : Cond.methodLinkNest "FactFinder$Drawing" 79 y_FF_invert "FactFinder" ∈ NWL := List.mem_of_getElem? (i := 5) (by decide +kernel)
theorem kn_6 : Cond.fieldLinkNest "FactFinder$Findings" 118 "FactFinder" "FACT_POINTS" "[I" "FactFinder" ∈ NWL := List.mem_of_getElem? (i := 6) (by decide +kernel)
theorem kn_7 : Cond.methodLinkNest "FactFinder$Findings" 121 y_FF_unpack "FactFinder" ∈ NWL := List.mem_of_getElem? (i := 7) (by decide +kernel)
theorem kn_8 : Cond.methodLinkNest "FactFinder$Findings" 109 y_FF_join "FactFinder" ∈ NWL := List.mem_of_getElem? (i := 8) (by decide +kernel)
theorem kn_9 : Cond.methodLinkNest "FactFinder$Findings" 133 y_FF_areApartPairs "FactFinder" ∈ NWL := List.mem_of_getElem? (i := 9) (by decide +kernel)
theorem kn_10 : Cond.arrayOver (.object "FactFinder$Figure") ∈ NWL := List.mem_of_getElem? (i := 10) (by decide +kernel)
theorem kn_11 : Cond.arrayOver (.object "FactFinder$IntList") ∈ NWL := List.mem_of_getElem? (i := 11) (by decide +kernel)
theorem in_0 : ∀ w ∈ u_ws "FactFinder" T_0 5, w ∈ fT := by decide +kernel
theorem in_1 : ∀ w ∈ u_ws "FactFinder$Plan" T_1 3, w ∈ fT := by decide +kernel
theorem in_2 : ∀ w ∈ u_ws "FactFinder$Findings" T_2 9, w ∈ fT := by decide +kernel
theorem in_3 : ∀ w ∈ u_ws "FactFinder$Drawing" T_3 5, w ∈ fT := by decide +kernel
theorem in_4 : ∀ w ∈ u_ws "FactFinder$Figure" T_4 7, w ∈ fT := by decide +kernel
theorem in_5 : ∀ w ∈ u_ws "FactFinder$IntList" T_5 2, w ∈ fT := by decide +kernel
theorem in_6 : ∀ w ∈ u_ws "FactFinderModel" T_6 22, w ∈ fT := by decide +kernel
theorem fy_Fi_begin : fh_Y fT y_Fi_begin c0_Fi_begin 2 none 1 := ⟨k_211, k_212, by decide, by decide, by decide +kernel⟩
theorem fst_Fi_begin : Cond.instanceMethod y_Fi_begin ∈ fT ∧ Cond.selects "FactFinder$Figure" y_Fi_begin y_Fi_begin ∈ fT := ⟨k_213, k_214⟩
theorem fy_Dr_begin : fh_Y fT y_Dr_begin c0_Dr_begin 4 none 2 := ⟨k_215, k_216, by decide, by decide, by decide +kernel⟩
theorem fst_Dr_begin : Cond.instanceMethod y_Dr_begin ∈ fT ∧ Cond.selects "FactFinder$Drawing" y_Dr_begin y_Dr_begin ∈ fT := ⟨k_217, k_218⟩
theorem fy_Pl_from : fh_Y fT y_Pl_from c0_Pl_from 3 (some .int) 2 := ⟨k_219, k_220, by decide, by decide, by decide +kernel⟩
theorem fst_Pl_from : Cond.instanceMethod y_Pl_from ∈ fT ∧ Cond.selects "FactFinder$Plan" y_Pl_from y_Pl_from ∈ fT := ⟨k_221, k_222⟩
theorem fy_Fi_nextNumber : fh_Y fT y_Fi_nextNumber c0_Fi_nextNumber 1 (some .long) 0 := ⟨k_223, k_212, by decide, by decide, by decide +kernel⟩
theorem fst_Fi_nextNumber : Cond.instanceMethod y_Fi_nextNumber ∈ fT ∧ Cond.selects "FactFinder$Figure" y_Fi_nextNumber y_Fi_nextNumber ∈ fT := ⟨k_224, k_225⟩
theorem fy_Fi_found : fh_Y fT y_Fi_found c0_Fi_found 7 (some .boolean) 2 := ⟨k_226, k_212, by decide, by decide, by decide +kernel⟩
theorem fst_Fi_found : Cond.instanceMethod y_Fi_found ∈ fT ∧ Cond.selects "FactFinder$Figure" y_Fi_found y_Fi_found ∈ fT := ⟨k_227, k_228⟩
theorem fy_Fi_findFree : fh_Y fT y_Fi_findFree c0_Fi_findFree 5 (some .boolean) 0 := ⟨k_229, k_212, by decide, by decide, by decide +kernel⟩
theorem fst_Fi_findFree : Cond.instanceMethod y_Fi_findFree ∈ fT ∧ Cond.selects "FactFinder$Figure" y_Fi_findFree y_Fi_findFree ∈ fT := ⟨k_230, k_231⟩
theorem fy_Fi_length : fh_Y fT y_Fi_length c0_Fi_length 7 (some .long) 2 := ⟨k_232, k_212, by decide, by decide, by decide +kernel⟩
theorem fst_Fi_length : Cond.instanceMethod y_Fi_length ∈ fT ∧ Cond.selects "FactFinder$Figure" y_Fi_length y_Fi_length ∈ fT := ⟨k_233, k_234⟩
theorem fy_FF_invert : fh_Y fT y_FF_invert c0_FF_invert 7 (some .long) 1 := ⟨k_235, k_236, by decide, by decide, by decide +kernel⟩
theorem fst_FF_invert : Cond.static y_FF_invert ∈ fT := k_237
theorem fy_Fi_findAlong : fh_Y fT y_Fi_findAlong c0_Fi_findAlong 5 (some .boolean) 3 := ⟨k_238, k_212, by decide, by decide, by decide +kernel⟩
theorem fst_Fi_findAlong : Cond.instanceMethod y_Fi_findAlong ∈ fT ∧ Cond.selects "FactFinder$Figure" y_Fi_findAlong y_Fi_findAlong ∈ fT := ⟨k_239, k_240⟩
theorem fy_Fi_findFoot : fh_Y fT y_Fi_findFoot c0_Fi_findFoot 9 (some .boolean) 4 := ⟨k_241, k_212, by decide, by decide, by decide +kernel⟩
theorem fst_Fi_findFoot : Cond.instanceMethod y_Fi_findFoot ∈ fT ∧ Cond.selects "FactFinder$Figure" y_Fi_findFoot y_Fi_findFoot ∈ fT := ⟨k_242, k_243⟩
theorem fy_Fi_cross : fh_Y fT y_Fi_cross c0_Fi_cross 5 (some .long) 4 := ⟨k_244, k_212, by decide, by decide, by decide +kernel⟩
theorem fst_Fi_cross : Cond.instanceMethod y_Fi_cross ∈ fT ∧ Cond.selects "FactFinder$Figure" y_Fi_cross y_Fi_cross ∈ fT := ⟨k_245, k_246⟩
theorem fy_Fi_findMeet : fh_Y fT y_Fi_findMeet c0_Fi_findMeet 7 (some .boolean) 4 := ⟨k_247, k_212, by decide, by decide, by decide +kernel⟩
theorem fst_Fi_findMeet : Cond.instanceMethod y_Fi_findMeet ∈ fT ∧ Cond.selects "FactFinder$Figure" y_Fi_findMeet y_Fi_findMeet ∈ fT := ⟨k_248, k_249⟩
theorem fy_Fi_findCentre : fh_Y fT y_Fi_findCentre c0_Fi_findCentre 16 (some .boolean) 3 := ⟨k_250, k_212, by decide, by decide, by decide +kernel⟩
theorem fst_Fi_findCentre : Cond.instanceMethod y_Fi_findCentre ∈ fT ∧ Cond.selects "FactFinder$Figure" y_Fi_findCentre y_Fi_findCentre ∈ fT := ⟨k_251, k_252⟩
theorem fy_Fi_findOnCircle : fh_Y fT y_Fi_findOnCircle c0_Fi_findOnCircle 11 (some .boolean) 3 := ⟨k_253, k_212, by decide, by decide, by decide +kernel⟩
theorem fst_Fi_findOnCircle : Cond.instanceMethod y_Fi_findOnCircle ∈ fT ∧ Cond.selects "FactFinder$Figure" y_Fi_findOnCircle y_Fi_findOnCircle ∈ fT := ⟨k_254, k_255⟩
theorem fy_Fi_findTurnedOut : fh_Y fT y_Fi_findTurnedOut c0_Fi_findTurnedOut 6 (some .boolean) 3 := ⟨k_256, k_212, by decide, by decide, by decide +kernel⟩
theorem fst_Fi_findTurnedOut : Cond.instanceMethod y_Fi_findTurnedOut ∈ fT ∧ Cond.selects "FactFinder$Figure" y_Fi_findTurnedOut y_Fi_findTurnedOut ∈ fT := ⟨k_257, k_258⟩
theorem fy_Fi_find : fh_Y fT y_Fi_find c0_Fi_find 6 (some .boolean) 5 := ⟨k_259, k_212, by decide, by decide, by decide +kernel⟩
theorem fst_Fi_find : Cond.instanceMethod y_Fi_find ∈ fT ∧ Cond.selects "FactFinder$Figure" y_Fi_find y_Fi_find ∈ fT := ⟨k_260, k_261⟩
theorem fy_Fi_goOn : fh_Y fT y_Fi_goOn c0_Fi_goOn 5 none 2 := ⟨k_262, k_212, by decide, by decide, by decide +kernel⟩
theorem fst_Fi_goOn : Cond.instanceMethod y_Fi_goOn ∈ fT ∧ Cond.selects "FactFinder$Figure" y_Fi_goOn y_Fi_goOn ∈ fT := ⟨k_263, k_264⟩
theorem fy_Dr_goOn : fh_Y fT y_Dr_goOn c0_Dr_goOn 4 none 2 := ⟨k_265, k_216, by decide, by decide, by decide +kernel⟩
theorem fst_Dr_goOn : Cond.instanceMethod y_Dr_goOn ∈ fT ∧ Cond.selects "FactFinder$Drawing" y_Dr_goOn y_Dr_goOn ∈ fT := ⟨k_266, k_267⟩
theorem fy_Fs_forget : fh_Y fT y_Fs_forget c0_Fs_forget 2 none 1 := ⟨k_268, k_269, by decide, by decide, by decide +kernel⟩
theorem fst_Fs_forget : Cond.instanceMethod y_Fs_forget ∈ fT ∧ Cond.selects "FactFinder$Findings" y_Fs_forget y_Fs_forget ∈ fT := ⟨k_270, k_271⟩
theorem fy_FF_drawAll : fh_Y fT y_FF_drawAll c0_FF_drawAll 1 none 0 := ⟨k_272, k_236, by decide, by decide, by decide +kernel⟩
theorem fst_FF_drawAll : Cond.instanceMethod y_FF_drawAll ∈ fT ∧ Cond.selects "FactFinder" y_FF_drawAll y_FF_drawAll ∈ fT := ⟨k_273, k_274⟩
theorem fy_FF_clear : fh_Y fT y_FF_clear c0_FF_clear 2 (some .int) 0 := ⟨k_275, k_236, by decide, by decide, by decide +kernel⟩
theorem fst_FF_clear : Cond.instanceMethod y_FF_clear ∈ fT ∧ Cond.selects "FactFinder" y_FF_clear y_FF_clear ∈ fT := ⟨k_276, k_277⟩
theorem fy_FF_isStep : fh_Y fT y_FF_isStep c0_FF_isStep 7 (some .boolean) 6 := ⟨k_278, k_236, by decide, by decide, by decide +kernel⟩
theorem fst_FF_isStep : Cond.static y_FF_isStep ∈ fT := k_279
theorem fy_Pl_write : fh_Y fT y_Pl_write c0_Pl_write 9 none 6 := ⟨k_280, k_220, by decide, by decide, by decide +kernel⟩
theorem fst_Pl_write : Cond.instanceMethod y_Pl_write ∈ fT ∧ Cond.selects "FactFinder$Plan" y_Pl_write y_Pl_write ∈ fT := ⟨k_281, k_282⟩
theorem fy_FF_step : fh_Y fT y_FF_step c0_FF_step 7 (some .int) 5 := ⟨k_283, k_236, by decide, by decide, by decide +kernel⟩
theorem fst_FF_step : Cond.instanceMethod y_FF_step ∈ fT ∧ Cond.selects "FactFinder" y_FF_step y_FF_step ∈ fT := ⟨k_284, k_285⟩
theorem fy_FF_isThere : fh_Y fT y_FF_isThere c0_FF_isThere 2 (some .boolean) 1 := ⟨k_286, k_236, by decide, by decide, by decide +kernel⟩
theorem fst_FF_isThere : Cond.instanceMethod y_FF_isThere ∈ fT ∧ Cond.selects "FactFinder" y_FF_isThere y_FF_isThere ∈ fT := ⟨k_287, k_288⟩
theorem fy_FF_change : fh_Y fT y_FF_change c0_FF_change 8 (some .int) 6 := ⟨k_289, k_236, by decide, by decide, by decide +kernel⟩
theorem fst_FF_change : Cond.instanceMethod y_FF_change ∈ fT ∧ Cond.selects "FactFinder" y_FF_change y_FF_change ∈ fT := ⟨k_290, k_291⟩
theorem fy_FF_draw : fh_Y fT y_FF_draw c0_FF_draw 3 (some .int) 2 := ⟨k_292, k_236, by decide, by decide, by decide +kernel⟩
theorem fst_FF_draw : Cond.instanceMethod y_FF_draw ∈ fT ∧ Cond.selects "FactFinder" y_FF_draw y_FF_draw ∈ fT := ⟨k_293, k_294⟩
theorem fy_Fs_isNew : fh_Y fT y_Fs_isNew c0_Fs_isNew 3 (some .boolean) 1 := ⟨k_295, k_269, by decide, by decide, by decide +kernel⟩
theorem fst_Fs_isNew : Cond.instanceMethod y_Fs_isNew ∈ fT ∧ Cond.selects "FactFinder$Findings" y_Fs_isNew y_Fs_isNew ∈ fT := ⟨k_296, k_297⟩
theorem fy_FF_pack : fh_Y fT y_FF_pack c0_FF_pack 3 (some .int) 3 := ⟨k_298, k_236, by decide, by decide, by decide +kernel⟩
theorem fst_FF_pack : Cond.static y_FF_pack ∈ fT := k_299
theorem fy_FF_unpack : fh_Y fT y_FF_unpack c0_FF_unpack 2 (some .int) 2 := ⟨k_300, k_236, by decide, by decide, by decide +kernel⟩
theorem fst_FF_unpack : Cond.static y_FF_unpack ∈ fT := k_301
theorem fy_Fi_dot : fh_Y fT y_Fi_dot c0_Fi_dot 5 (some .long) 4 := ⟨k_302, k_212, by decide, by decide, by decide +kernel⟩
theorem fst_Fi_dot : Cond.instanceMethod y_Fi_dot ∈ fT ∧ Cond.selects "FactFinder$Figure" y_Fi_dot y_Fi_dot ∈ fT := ⟨k_303, k_304⟩
theorem fy_Fi_showsCircle : fh_Y fT y_Fi_showsCircle c0_Fi_showsCircle 7 (some .boolean) 4 := ⟨k_305, k_212, by decide, by decide, by decide +kernel⟩
theorem fst_Fi_showsCircle : Cond.instanceMethod y_Fi_showsCircle ∈ fT ∧ Cond.selects "FactFinder$Figure" y_Fi_showsCircle y_Fi_showsCircle ∈ fT := ⟨k_306, k_307⟩
theorem fy_Fi_squaredArea : fh_Y fT y_Fi_squaredArea c0_Fi_squaredArea 6 (some .long) 3 := ⟨k_308, k_212, by decide, by decide, by decide +kernel⟩
theorem fst_Fi_squaredArea : Cond.instanceMethod y_Fi_squaredArea ∈ fT ∧ Cond.selects "FactFinder$Figure" y_Fi_squaredArea y_Fi_squaredArea ∈ fT := ⟨k_309, k_310⟩
theorem fy_Fi_shows : fh_Y fT y_Fi_shows c0_Fi_shows 9 (some .boolean) 2 := ⟨k_311, k_212, by decide, by decide, by decide +kernel⟩
theorem fst_Fi_shows : Cond.instanceMethod y_Fi_shows ∈ fT ∧ Cond.selects "FactFinder$Figure" y_Fi_shows y_Fi_shows ∈ fT := ⟨k_312, k_313⟩
theorem fy_Dr_isShown : fh_Y fT y_Dr_isShown c0_Dr_isShown 4 (some .boolean) 2 := ⟨k_314, k_216, by decide, by decide, by decide +kernel⟩
theorem fst_Dr_isShown : Cond.instanceMethod y_Dr_isShown ∈ fT ∧ Cond.selects "FactFinder$Drawing" y_Dr_isShown y_Dr_isShown ∈ fT := ⟨k_315, k_316⟩
theorem fy_Fs_findLeads : fh_Y fT y_Fs_findLeads c0_Fs_findLeads 3 none 0 := ⟨k_317, k_269, by decide, by decide, by decide +kernel⟩
theorem fst_Fs_findLeads : Cond.instanceMethod y_Fs_findLeads ∈ fT ∧ Cond.selects "FactFinder$Findings" y_Fs_findLeads y_Fs_findLeads ∈ fT := ⟨k_318, k_319⟩
theorem fy_In_bitCount : fh_Y fT y_In_bitCount c0_In_bitCount 1 (some .int) 1 := ⟨k_320, k_321, by decide, by decide, by decide +kernel⟩
theorem fst_In_bitCount : Cond.static y_In_bitCount ∈ fT := k_322
theorem fy_Fs_placesOf : fh_Y fT y_Fs_placesOf c0_Fs_placesOf 4 (some .int) 1 := ⟨k_323, k_269, by decide, by decide, by decide +kernel⟩
theorem fst_Fs_placesOf : Cond.instanceMethod y_Fs_placesOf ∈ fT ∧ Cond.selects "FactFinder$Findings" y_Fs_placesOf y_Fs_placesOf ∈ fT := ⟨k_324, k_325⟩
theorem fy_Fs_countPlaces : fh_Y fT y_Fs_countPlaces c0_Fs_countPlaces 1 (some .int) 0 := ⟨k_326, k_269, by decide, by decide, by decide +kernel⟩
theorem fst_Fs_countPlaces : Cond.instanceMethod y_Fs_countPlaces ∈ fT ∧ Cond.selects "FactFinder$Findings" y_Fs_countPlaces y_Fs_countPlaces ∈ fT := ⟨k_327, k_328⟩
theorem fy_FF_count : fh_Y fT y_FF_count c0_FF_count 2 (some .int) 1 := ⟨k_329, k_236, by decide, by decide, by decide +kernel⟩
theorem fst_FF_count : Cond.instanceMethod y_FF_count ∈ fT ∧ Cond.selects "FactFinder" y_FF_count y_FF_count ∈ fT := ⟨k_330, k_331⟩
theorem fy_FF_told : fh_Y fT y_FF_told c0_FF_told 4 (some .int) 2 := ⟨k_332, k_236, by decide, by decide, by decide +kernel⟩
theorem fst_FF_told : Cond.instanceMethod y_FF_told ∈ fT ∧ Cond.selects "FactFinder" y_FF_told y_FF_told ∈ fT := ⟨k_333, k_334⟩
theorem fy_FF_falls : fh_Y fT y_FF_falls c0_FF_falls 2 (some .int) 1 := ⟨k_335, k_236, by decide, by decide, by decide +kernel⟩
theorem fst_FF_falls : Cond.instanceMethod y_FF_falls ∈ fT ∧ Cond.selects "FactFinder" y_FF_falls y_FF_falls ∈ fT := ⟨k_336, k_337⟩
theorem fy_FF_place : fh_Y fT y_FF_place c0_FF_place 5 (some .int) 3 := ⟨k_338, k_236, by decide, by decide, by decide +kernel⟩
theorem fst_FF_place : Cond.instanceMethod y_FF_place ∈ fT ∧ Cond.selects "FactFinder" y_FF_place y_FF_place ∈ fT := ⟨k_339, k_340⟩
theorem fy_FF_isFactKind : fh_Y fT y_FF_isFactKind c0_FF_isFactKind 1 (some .boolean) 1 := ⟨k_341, k_236, by decide, by decide, by decide +kernel⟩
theorem fst_FF_isFactKind : Cond.static y_FF_isFactKind ∈ fT := k_342
theorem fy_FF_areThere : fh_Y fT y_FF_areThere c0_FF_areThere 8 (some .boolean) 7 := ⟨k_343, k_236, by decide, by decide, by decide +kernel⟩
theorem fst_FF_areThere : Cond.instanceMethod y_FF_areThere ∈ fT ∧ Cond.selects "FactFinder" y_FF_areThere y_FF_areThere ∈ fT := ⟨k_344, k_345⟩
theorem fy_FF_areTwoPairs : fh_Y fT y_FF_areTwoPairs c0_FF_areTwoPairs 4 (some .boolean) 4 := ⟨k_346, k_236, by decide, by decide, by decide +kernel⟩
theorem fst_FF_areTwoPairs : Cond.static y_FF_areTwoPairs ∈ fT := k_347
theorem fy_FF_areApartPairs : fh_Y fT y_FF_areApartPairs c0_FF_areApartPairs 4 (some .boolean) 4 := ⟨k_348, k_236, by decide, by decide, by decide +kernel⟩
theorem fst_FF_areApartPairs : Cond.static y_FF_areApartPairs ∈ fT := k_349
theorem fy_FF_isFact : fh_Y fT y_FF_isFact c0_FF_isFact 7 (some .boolean) 7 := ⟨k_350, k_236, by decide, by decide, by decide +kernel⟩
theorem fst_FF_isFact : Cond.static y_FF_isFact ∈ fT := k_351
theorem fy_FF_join : fh_Y fT y_FF_join c0_FF_join 2 (some .int) 2 := ⟨k_352, k_236, by decide, by decide, by decide +kernel⟩
theorem fst_FF_join : Cond.static y_FF_join ∈ fT := k_353
theorem fy_Dr_firstWithLength : fh_Y fT y_Dr_firstWithLength c0_Dr_firstWithLength 4 (some (.object "FactFinder$Figure")) 1 := ⟨k_354, k_216, by decide, by decide, by decide +kernel⟩
theorem fst_Dr_firstWithLength : Cond.instanceMethod y_Dr_firstWithLength ∈ fT ∧ Cond.selects "FactFinder$Drawing" y_Dr_firstWithLength y_Dr_firstWithLength ∈ fT := ⟨k_355, k_356⟩
theorem fy_Dr_withNumbers : fh_Y fT y_Dr_withNumbers c0_Dr_withNumbers 4 (some .int) 3 := ⟨k_357, k_216, by decide, by decide, by decide +kernel⟩
theorem fst_Dr_withNumbers : Cond.static y_Dr_withNumbers ∈ fT := k_358
theorem fy_Dr_divide : fh_Y fT y_Dr_divide c0_Dr_divide 5 (some .long) 2 := ⟨k_359, k_216, by decide, by decide, by decide +kernel⟩
theorem fst_Dr_divide : Cond.instanceMethod y_Dr_divide ∈ fT ∧ Cond.selects "FactFinder$Drawing" y_Dr_divide y_Dr_divide ∈ fT := ⟨k_360, k_361⟩
theorem fy_Dr_giveNumbers : fh_Y fT y_Dr_giveNumbers c0_Dr_giveNumbers 13 (some .int) 1 := ⟨k_362, k_216, by decide, by decide, by decide +kernel⟩
theorem fst_Dr_giveNumbers : Cond.instanceMethod y_Dr_giveNumbers ∈ fT ∧ Cond.selects "FactFinder$Drawing" y_Dr_giveNumbers y_Dr_giveNumbers ∈ fT := ⟨k_363, k_364⟩
theorem fy_Dr_bears : fh_Y fT y_Dr_bears c0_Dr_bears 3 (some .boolean) 2 := ⟨k_365, k_216, by decide, by decide, by decide +kernel⟩
theorem fst_Dr_bears : Cond.instanceMethod y_Dr_bears ∈ fT ∧ Cond.selects "FactFinder$Drawing" y_Dr_bears y_Dr_bears ∈ fT := ⟨k_366, k_367⟩
theorem fy_FF_holds : fh_Y fT y_FF_holds c0_FF_holds 10 (some .int) 7 := ⟨k_368, k_236, by decide, by decide, by decide +kernel⟩
theorem fst_FF_holds : Cond.instanceMethod y_FF_holds ∈ fT ∧ Cond.selects "FactFinder" y_FF_holds y_FF_holds ∈ fT := ⟨k_369, k_370⟩
theorem fy_IL_add : fh_Y fT y_IL_add c0_IL_add 2 none 1 := ⟨k_371, k_372, by decide, by decide, by decide +kernel⟩
theorem fst_IL_add : Cond.instanceMethod y_IL_add ∈ fT ∧ Cond.selects "FactFinder$IntList" y_IL_add y_IL_add ∈ fT := ⟨k_373, k_374⟩
theorem fy_Fs_listPairs : fh_Y fT y_Fs_listPairs c0_Fs_listPairs 3 none 0 := ⟨k_375, k_269, by decide, by decide, by decide +kernel⟩
theorem fst_Fs_listPairs : Cond.instanceMethod y_Fs_listPairs ∈ fT ∧ Cond.selects "FactFinder$Findings" y_Fs_listPairs y_Fs_listPairs ∈ fT := ⟨k_376, k_377⟩
theorem fy_Fs_isApart : fh_Y fT y_Fs_isApart c0_Fs_isApart 7 (some .boolean) 2 := ⟨k_378, k_269, by decide, by decide, by decide +kernel⟩
theorem fst_Fs_isApart : Cond.instanceMethod y_Fs_isApart ∈ fT ∧ Cond.selects "FactFinder$Findings" y_Fs_isApart y_Fs_isApart ∈ fT := ⟨k_379, k_380⟩
theorem fy_Fs_consider : fh_Y fT y_Fs_consider c0_Fs_consider 3 none 2 := ⟨k_381, k_269, by decide, by decide, by decide +kernel⟩
theorem fst_Fs_consider : Cond.instanceMethod y_Fs_consider ∈ fT ∧ Cond.selects "FactFinder$Findings" y_Fs_consider y_Fs_consider ∈ fT := ⟨k_382, k_383⟩
theorem fy_Fs_listTriples : fh_Y fT y_Fs_listTriples c0_Fs_listTriples 4 none 0 := ⟨k_384, k_269, by decide, by decide, by decide +kernel⟩
theorem fst_Fs_listTriples : Cond.instanceMethod y_Fs_listTriples ∈ fT ∧ Cond.selects "FactFinder$Findings" y_Fs_listTriples y_Fs_listTriples ∈ fT := ⟨k_385, k_386⟩
theorem fy_Fs_listFours : fh_Y fT y_Fs_listFours c0_Fs_listFours 5 none 0 := ⟨k_387, k_269, by decide, by decide, by decide +kernel⟩
theorem fst_Fs_listFours : Cond.instanceMethod y_Fs_listFours ∈ fT ∧ Cond.selects "FactFinder$Findings" y_Fs_listFours y_Fs_listFours ∈ fT := ⟨k_388, k_389⟩
theorem fy_Fs_listMiddles : fh_Y fT y_Fs_listMiddles c0_Fs_listMiddles 4 none 0 := ⟨k_390, k_269, by decide, by decide, by decide +kernel⟩
theorem fst_Fs_listMiddles : Cond.instanceMethod y_Fs_listMiddles ∈ fT ∧ Cond.selects "FactFinder$Findings" y_Fs_listMiddles y_Fs_listMiddles ∈ fT := ⟨k_391, k_392⟩
theorem fy_Dr_firstStanding : fh_Y fT y_Dr_firstStanding c0_Dr_firstStanding 2 (some (.object "FactFinder$Figure")) 0 := ⟨k_393, k_216, by decide, by decide, by decide +kernel⟩
theorem fst_Dr_firstStanding : Cond.instanceMethod y_Dr_firstStanding ∈ fT ∧ Cond.selects "FactFinder$Drawing" y_Dr_firstStanding y_Dr_firstStanding ∈ fT := ⟨k_394, k_395⟩
theorem fy_Fs_findTriples : fh_Y fT y_Fs_findTriples c0_Fs_findTriples 5 none 1 := ⟨k_396, k_269, by decide, by decide, by decide +kernel⟩
theorem fst_Fs_findTriples : Cond.instanceMethod y_Fs_findTriples ∈ fT ∧ Cond.selects "FactFinder$Findings" y_Fs_findTriples y_Fs_findTriples ∈ fT := ⟨k_397, k_398⟩
theorem fy_Fs_listAreas : fh_Y fT y_Fs_listAreas c0_Fs_listAreas 4 none 0 := ⟨k_399, k_269, by decide, by decide, by decide +kernel⟩
theorem fst_Fs_listAreas : Cond.instanceMethod y_Fs_listAreas ∈ fT ∧ Cond.selects "FactFinder$Findings" y_Fs_listAreas y_Fs_listAreas ∈ fT := ⟨k_400, k_401⟩
theorem fy_Fs_listRatios : fh_Y fT y_Fs_listRatios c0_Fs_listRatios 6 none 0 := ⟨k_402, k_269, by decide, by decide, by decide +kernel⟩
theorem fst_Fs_listRatios : Cond.instanceMethod y_Fs_listRatios ∈ fT ∧ Cond.selects "FactFinder$Findings" y_Fs_listRatios y_Fs_listRatios ∈ fT := ⟨k_403, k_404⟩
theorem fy_Fs_listTwoPairs : fh_Y fT y_Fs_listTwoPairs c0_Fs_listTwoPairs 6 none 1 := ⟨k_405, k_269, by decide, by decide, by decide +kernel⟩
theorem fst_Fs_listTwoPairs : Cond.instanceMethod y_Fs_listTwoPairs ∈ fT ∧ Cond.selects "FactFinder$Findings" y_Fs_listTwoPairs y_Fs_listTwoPairs ∈ fT := ⟨k_406, k_407⟩
theorem fy_Fs_list : fh_Y fT y_Fs_list c0_Fs_list 2 (some (.object "FactFinder$IntList")) 1 := ⟨k_408, k_269, by decide, by decide, by decide +kernel⟩
theorem fst_Fs_list : Cond.instanceMethod y_Fs_list ∈ fT ∧ Cond.selects "FactFinder$Findings" y_Fs_list y_Fs_list ∈ fT := ⟨k_409, k_410⟩
theorem fy_FF_facts : fh_Y fT y_FF_facts c0_FF_facts 2 (some .int) 1 := ⟨k_411, k_236, by decide, by decide, by decide +kernel⟩
theorem fst_FF_facts : Cond.instanceMethod y_FF_facts ∈ fT ∧ Cond.selects "FactFinder" y_FF_facts y_FF_facts ∈ fT := ⟨k_412, k_413⟩
theorem fy_IL_has : fh_Y fT y_IL_has c0_IL_has 2 (some .boolean) 1 := ⟨k_414, k_372, by decide, by decide, by decide +kernel⟩
theorem fst_IL_has : Cond.instanceMethod y_IL_has ∈ fT ∧ Cond.selects "FactFinder$IntList" y_IL_has y_IL_has ∈ fT := ⟨k_415, k_416⟩
theorem fy_FF_fact : fh_Y fT y_FF_fact c0_FF_fact 5 (some .int) 3 := ⟨k_417, k_236, by decide, by decide, by decide +kernel⟩
theorem fst_FF_fact : Cond.instanceMethod y_FF_fact ∈ fT ∧ Cond.selects "FactFinder" y_FF_fact y_FF_fact ∈ fT := ⟨k_418, k_419⟩
theorem fy_FF_needs : fh_Y fT y_FF_needs c0_FF_needs 5 (some .int) 3 := ⟨k_420, k_236, by decide, by decide, by decide +kernel⟩
theorem fst_FF_needs : Cond.instanceMethod y_FF_needs ∈ fT ∧ Cond.selects "FactFinder" y_FF_needs y_FF_needs ∈ fT := ⟨k_421, k_422⟩
theorem fy_IL_addRising : fh_Y fT y_IL_addRising c0_IL_addRising 4 none 1 := ⟨k_423, k_372, by decide, by decide, by decide +kernel⟩
theorem fst_IL_addRising : Cond.instanceMethod y_IL_addRising ∈ fT ∧ Cond.selects "FactFinder$IntList" y_IL_addRising y_IL_addRising ∈ fT := ⟨k_424, k_425⟩
theorem fy_Fs_addRow : fh_Y fT y_Fs_addRow c0_Fs_addRow 5 none 2 := ⟨k_426, k_269, by decide, by decide, by decide +kernel⟩
theorem fst_Fs_addRow : Cond.instanceMethod y_Fs_addRow ∈ fT ∧ Cond.selects "FactFinder$Findings" y_Fs_addRow y_Fs_addRow ∈ fT := ⟨k_427, k_428⟩
theorem fy_Fs_allRows : fh_Y fT y_Fs_allRows c0_Fs_allRows 3 (some (.object "FactFinder$IntList")) 0 := ⟨k_429, k_269, by decide, by decide, by decide +kernel⟩
theorem fst_Fs_allRows : Cond.instanceMethod y_Fs_allRows ∈ fT ∧ Cond.selects "FactFinder$Findings" y_Fs_allRows y_Fs_allRows ∈ fT := ⟨k_430, k_431⟩
theorem fy_FF_row : fh_Y fT y_FF_row c0_FF_row 3 (some .int) 1 := ⟨k_432, k_236, by decide, by decide, by decide +kernel⟩
theorem fst_FF_row : Cond.instanceMethod y_FF_row ∈ fT ∧ Cond.selects "FactFinder" y_FF_row y_FF_row ∈ fT := ⟨k_433, k_434⟩
theorem fy_Fs_addRing : fh_Y fT y_Fs_addRing c0_Fs_addRing 7 none 3 := ⟨k_435, k_269, by decide, by decide, by decide +kernel⟩
theorem fst_Fs_addRing : Cond.instanceMethod y_Fs_addRing ∈ fT ∧ Cond.selects "FactFinder$Findings" y_Fs_addRing y_Fs_addRing ∈ fT := ⟨k_436, k_437⟩
theorem fy_Fs_allRings : fh_Y fT y_Fs_allRings c0_Fs_allRings 4 (some (.object "FactFinder$IntList")) 0 := ⟨k_438, k_269, by decide, by decide, by decide +kernel⟩
theorem fst_Fs_allRings : Cond.instanceMethod y_Fs_allRings ∈ fT ∧ Cond.selects "FactFinder$Findings" y_Fs_allRings y_Fs_allRings ∈ fT := ⟨k_439, k_440⟩
theorem fy_FF_ring : fh_Y fT y_FF_ring c0_FF_ring 3 (some .int) 1 := ⟨k_441, k_236, by decide, by decide, by decide +kernel⟩
theorem fst_FF_ring : Cond.instanceMethod y_FF_ring ∈ fT ∧ Cond.selects "FactFinder" y_FF_ring y_FF_ring ∈ fT := ⟨k_442, k_443⟩
theorem fy_Mo_isIn : fh_Y fT y_Mo_isIn c0_Mo_isIn 3 (some .boolean) 3 := ⟨k_444, k_445, by decide, by decide, by decide +kernel⟩
theorem fst_Mo_isIn : Cond.static y_Mo_isIn ∈ fT := k_446
theorem fy_Mo_mod : fh_Y fT y_Mo_mod c0_Mo_mod 4 (some .long) 1 := ⟨k_447, k_445, by decide, by decide, by decide +kernel⟩
theorem fst_Mo_mod : Cond.static y_Mo_mod ∈ fT := k_448
theorem fy_Mo_inverse : fh_Y fT y_Mo_inverse c0_Mo_inverse 8 (some .long) 1 := ⟨k_449, k_445, by decide, by decide, by decide +kernel⟩
theorem fst_Mo_inverse : Cond.static y_Mo_inverse ∈ fT := k_450
theorem fy_Mo_needs1 : fh_Y fT y_Mo_needs1 c0_Mo_needs1 1 (some .int) 1 := ⟨k_451, k_445, by decide, by decide, by decide +kernel⟩
theorem fst_Mo_needs1 : Cond.static y_Mo_needs1 ∈ fT := k_452
theorem fy_Mo_drawn : fh_Y fT y_Mo_drawn c0_Mo_drawn 1 (some .long) 0 := ⟨k_453, k_445, by decide, by decide, by decide +kernel⟩
theorem fst_Mo_drawn : Cond.instanceMethod y_Mo_drawn ∈ fT ∧ Cond.selects "FactFinderModel" y_Mo_drawn y_Mo_drawn ∈ fT := ⟨k_454, k_455⟩
theorem fy_Mo_px : fh_Y fT y_Mo_px c0_Mo_px 2 (some .long) 1 := ⟨k_456, k_445, by decide, by decide, by decide +kernel⟩
theorem fst_Mo_px : Cond.instanceMethod y_Mo_px ∈ fT ∧ Cond.selects "FactFinderModel" y_Mo_px y_Mo_px ∈ fT := ⟨k_457, k_458⟩
theorem fy_Mo_py : fh_Y fT y_Mo_py c0_Mo_py 2 (some .long) 1 := ⟨k_459, k_445, by decide, by decide, by decide +kernel⟩
theorem fst_Mo_py : Cond.instanceMethod y_Mo_py ∈ fT ∧ Cond.selects "FactFinderModel" y_Mo_py y_Mo_py ∈ fT := ⟨k_460, k_461⟩
theorem fy_Mo_cross : fh_Y fT y_Mo_cross c0_Mo_cross 5 (some .long) 4 := ⟨k_462, k_445, by decide, by decide, by decide +kernel⟩
theorem fst_Mo_cross : Cond.instanceMethod y_Mo_cross ∈ fT ∧ Cond.selects "FactFinderModel" y_Mo_cross y_Mo_cross ∈ fT := ⟨k_463, k_464⟩
theorem fy_Mo_dot : fh_Y fT y_Mo_dot c0_Mo_dot 5 (some .long) 4 := ⟨k_465, k_445, by decide, by decide, by decide +kernel⟩
theorem fst_Mo_dot : Cond.instanceMethod y_Mo_dot ∈ fT ∧ Cond.selects "FactFinderModel" y_Mo_dot y_Mo_dot ∈ fT := ⟨k_466, k_467⟩
theorem fy_Mo_along : fh_Y fT y_Mo_along c0_Mo_along 5 none 3 := ⟨k_468, k_445, by decide, by decide, by decide +kernel⟩
theorem fst_Mo_along : Cond.instanceMethod y_Mo_along ∈ fT ∧ Cond.selects "FactFinderModel" y_Mo_along y_Mo_along ∈ fT := ⟨k_469, k_470⟩
theorem fy_Mo_foot : fh_Y fT y_Mo_foot c0_Mo_foot 11 none 4 := ⟨k_471, k_445, by decide, by decide, by decide +kernel⟩
theorem fst_Mo_foot : Cond.instanceMethod y_Mo_foot ∈ fT ∧ Cond.selects "FactFinderModel" y_Mo_foot y_Mo_foot ∈ fT := ⟨k_472, k_473⟩
theorem fy_Mo_centre : fh_Y fT y_Mo_centre c0_Mo_centre 12 none 3 := ⟨k_474, k_445, by decide, by decide, by decide +kernel⟩
theorem fst_Mo_centre : Cond.instanceMethod y_Mo_centre ∈ fT ∧ Cond.selects "FactFinderModel" y_Mo_centre y_Mo_centre ∈ fT := ⟨k_475, k_476⟩
theorem fy_Mo_meet : fh_Y fT y_Mo_meet c0_Mo_meet 7 none 4 := ⟨k_477, k_445, by decide, by decide, by decide +kernel⟩
theorem fst_Mo_meet : Cond.instanceMethod y_Mo_meet ∈ fT ∧ Cond.selects "FactFinderModel" y_Mo_meet y_Mo_meet ∈ fT := ⟨k_478, k_479⟩
theorem fy_Mo_round : fh_Y fT y_Mo_round c0_Mo_round 9 none 3 := ⟨k_480, k_445, by decide, by decide, by decide +kernel⟩
theorem fst_Mo_round : Cond.instanceMethod y_Mo_round ∈ fT ∧ Cond.selects "FactFinderModel" y_Mo_round y_Mo_round ∈ fT := ⟨k_481, k_482⟩
theorem fy_Mo_turnOut : fh_Y fT y_Mo_turnOut c0_Mo_turnOut 6 none 3 := ⟨k_483, k_445, by decide, by decide, by decide +kernel⟩
theorem fst_Mo_turnOut : Cond.instanceMethod y_Mo_turnOut ∈ fT ∧ Cond.selects "FactFinderModel" y_Mo_turnOut y_Mo_turnOut ∈ fT := ⟨k_484, k_485⟩
theorem fy_Mo_doMore : fh_Y fT y_Mo_doMore c0_Mo_doMore 6 none 5 := ⟨k_486, k_445, by decide, by decide, by decide +kernel⟩
theorem fst_Mo_doMore : Cond.instanceMethod y_Mo_doMore ∈ fT ∧ Cond.selects "FactFinderModel" y_Mo_doMore y_Mo_doMore ∈ fT := ⟨k_487, k_488⟩
theorem fy_Mo_doStep : fh_Y fT y_Mo_doStep c0_Mo_doStep 6 none 5 := ⟨k_489, k_445, by decide, by decide, by decide +kernel⟩
theorem fst_Mo_doStep : Cond.instanceMethod y_Mo_doStep ∈ fT ∧ Cond.selects "FactFinderModel" y_Mo_doStep y_Mo_doStep ∈ fT := ⟨k_490, k_491⟩
theorem fy_Mo_drawFigure : fh_Y fT y_Mo_drawFigure c0_Mo_drawFigure 3 none 1 := ⟨k_492, k_445, by decide, by decide, by decide +kernel⟩
theorem fst_Mo_drawFigure : Cond.instanceMethod y_Mo_drawFigure ∈ fT ∧ Cond.selects "FactFinderModel" y_Mo_drawFigure y_Mo_drawFigure ∈ fT := ⟨k_493, k_494⟩
theorem fy_Mo_drawAll : fh_Y fT y_Mo_drawAll c0_Mo_drawAll 2 none 0 := ⟨k_495, k_445, by decide, by decide, by decide +kernel⟩
theorem fst_Mo_drawAll : Cond.instanceMethod y_Mo_drawAll ∈ fT ∧ Cond.selects "FactFinderModel" y_Mo_drawAll y_Mo_drawAll ∈ fT := ⟨k_496, k_497⟩
theorem fy_Mo_standing : fh_Y fT y_Mo_standing c0_Mo_standing 3 (some .int) 0 := ⟨k_498, k_445, by decide, by decide, by decide +kernel⟩
theorem fst_Mo_standing : Cond.instanceMethod y_Mo_standing ∈ fT ∧ Cond.selects "FactFinderModel" y_Mo_standing y_Mo_standing ∈ fT := ⟨k_499, k_500⟩
theorem fy_Mo_clear : fh_Y fT y_Mo_clear c0_Mo_clear 2 (some .int) 0 := ⟨k_501, k_445, by decide, by decide, by decide +kernel⟩
theorem fst_Mo_clear : Cond.instanceMethod y_Mo_clear ∈ fT ∧ Cond.selects "FactFinderModel" y_Mo_clear y_Mo_clear ∈ fT := ⟨k_502, k_503⟩
theorem fy_Mo_areThere : fh_Y fT y_Mo_areThere c0_Mo_areThere 7 (some .boolean) 6 := ⟨k_504, k_445, by decide, by decide, by decide +kernel⟩
theorem fst_Mo_areThere : Cond.static y_Mo_areThere ∈ fT := k_505
theorem fy_Mo_setStep : fh_Y fT y_Mo_setStep c0_Mo_setStep 8 none 6 := ⟨k_506, k_445, by decide, by decide, by decide +kernel⟩
theorem fst_Mo_setStep : Cond.instanceMethod y_Mo_setStep ∈ fT ∧ Cond.selects "FactFinderModel" y_Mo_setStep y_Mo_setStep ∈ fT := ⟨k_507, k_508⟩
theorem fy_Mo_step : fh_Y fT y_Mo_step c0_Mo_step 6 (some .int) 5 := ⟨k_509, k_445, by decide, by decide, by decide +kernel⟩
theorem fst_Mo_step : Cond.instanceMethod y_Mo_step ∈ fT ∧ Cond.selects "FactFinderModel" y_Mo_step y_Mo_step ∈ fT := ⟨k_510, k_511⟩
theorem fy_Mo_isPoint : fh_Y fT y_Mo_isPoint c0_Mo_isPoint 2 (some .boolean) 1 := ⟨k_512, k_445, by decide, by decide, by decide +kernel⟩
theorem fst_Mo_isPoint : Cond.instanceMethod y_Mo_isPoint ∈ fT ∧ Cond.selects "FactFinderModel" y_Mo_isPoint y_Mo_isPoint ∈ fT := ⟨k_513, k_514⟩
theorem fy_Mo_change : fh_Y fT y_Mo_change c0_Mo_change 8 (some .int) 6 := ⟨k_515, k_445, by decide, by decide, by decide +kernel⟩
theorem fst_Mo_change : Cond.instanceMethod y_Mo_change ∈ fT ∧ Cond.selects "FactFinderModel" y_Mo_change y_Mo_change ∈ fT := ⟨k_516, k_517⟩
theorem fy_Mo_draw : fh_Y fT y_Mo_draw c0_Mo_draw 3 (some .int) 2 := ⟨k_518, k_445, by decide, by decide, by decide +kernel⟩
theorem fst_Mo_draw : Cond.instanceMethod y_Mo_draw ∈ fT ∧ Cond.selects "FactFinderModel" y_Mo_draw y_Mo_draw ∈ fT := ⟨k_519, k_520⟩
theorem fy_Mo_setRow : fh_Y fT y_Mo_setRow c0_Mo_setRow 7 none 6 := ⟨k_521, k_445, by decide, by decide, by decide +kernel⟩
theorem fst_Mo_setRow : Cond.instanceMethod y_Mo_setRow ∈ fT ∧ Cond.selects "FactFinderModel" y_Mo_setRow y_Mo_setRow ∈ fT := ⟨k_522, k_523⟩
theorem fy_Mo_length : fh_Y fT y_Mo_length c0_Mo_length 3 (some .long) 2 := ⟨k_524, k_445, by decide, by decide, by decide +kernel⟩
theorem fst_Mo_length : Cond.instanceMethod y_Mo_length ∈ fT ∧ Cond.selects "FactFinderModel" y_Mo_length y_Mo_length ∈ fT := ⟨k_525, k_526⟩
theorem fy_Mo_square : fh_Y fT y_Mo_square c0_Mo_square 2 (some .long) 1 := ⟨k_527, k_445, by decide, by decide, by decide +kernel⟩
theorem fst_Mo_square : Cond.static y_Mo_square ∈ fT := k_528
theorem fy_Mo_lift : fh_Y fT y_Mo_lift c0_Mo_lift 3 (some .long) 2 := ⟨k_529, k_445, by decide, by decide, by decide +kernel⟩
theorem fst_Mo_lift : Cond.instanceMethod y_Mo_lift ∈ fT ∧ Cond.selects "FactFinderModel" y_Mo_lift y_Mo_lift ∈ fT := ⟨k_530, k_531⟩
theorem fy_Mo_ringOf : fh_Y fT y_Mo_ringOf c0_Mo_ringOf 11 (some .long) 4 := ⟨k_532, k_445, by decide, by decide, by decide +kernel⟩
theorem fst_Mo_ringOf : Cond.instanceMethod y_Mo_ringOf ∈ fT ∧ Cond.selects "FactFinderModel" y_Mo_ringOf y_Mo_ringOf ∈ fT := ⟨k_533, k_534⟩
theorem fy_Mo_isSo : fh_Y fT y_Mo_isSo c0_Mo_isSo 8 (some .boolean) 3 := ⟨k_535, k_445, by decide, by decide, by decide +kernel⟩
theorem fst_Mo_isSo : Cond.instanceMethod y_Mo_isSo ∈ fT ∧ Cond.selects "FactFinderModel" y_Mo_isSo y_Mo_isSo ∈ fT := ⟨k_536, k_537⟩
theorem fy_Mo_isAlways : fh_Y fT y_Mo_isAlways c0_Mo_isAlways 6 (some .boolean) 3 := ⟨k_538, k_445, by decide, by decide, by decide +kernel⟩
theorem fst_Mo_isAlways : Cond.instanceMethod y_Mo_isAlways ∈ fT ∧ Cond.selects "FactFinderModel" y_Mo_isAlways y_Mo_isAlways ∈ fT := ⟨k_539, k_540⟩
theorem fy_Mo_findSame : fh_Y fT y_Mo_findSame c0_Mo_findSame 3 none 0 := ⟨k_541, k_445, by decide, by decide, by decide +kernel⟩
theorem fst_Mo_findSame : Cond.instanceMethod y_Mo_findSame ∈ fT ∧ Cond.selects "FactFinderModel" y_Mo_findSame y_Mo_findSame ∈ fT := ⟨k_542, k_543⟩
theorem fy_Mo_places : fh_Y fT y_Mo_places c0_Mo_places 6 (some .int) 1 := ⟨k_544, k_445, by decide, by decide, by decide +kernel⟩
theorem fst_Mo_places : Cond.instanceMethod y_Mo_places ∈ fT ∧ Cond.selects "FactFinderModel" y_Mo_places y_Mo_places ∈ fT := ⟨k_545, k_546⟩
theorem fy_Mo_count : fh_Y fT y_Mo_count c0_Mo_count 2 (some .int) 1 := ⟨k_547, k_445, by decide, by decide, by decide +kernel⟩
theorem fst_Mo_count : Cond.instanceMethod y_Mo_count ∈ fT ∧ Cond.selects "FactFinderModel" y_Mo_count y_Mo_count ∈ fT := ⟨k_548, k_549⟩
theorem fy_Mo_told : fh_Y fT y_Mo_told c0_Mo_told 3 (some .int) 2 := ⟨k_550, k_445, by decide, by decide, by decide +kernel⟩
theorem fst_Mo_told : Cond.instanceMethod y_Mo_told ∈ fT ∧ Cond.selects "FactFinderModel" y_Mo_told y_Mo_told ∈ fT := ⟨k_551, k_552⟩
theorem fy_Mo_falls : fh_Y fT y_Mo_falls c0_Mo_falls 2 (some .int) 1 := ⟨k_553, k_445, by decide, by decide, by decide +kernel⟩
theorem fst_Mo_falls : Cond.instanceMethod y_Mo_falls ∈ fT ∧ Cond.selects "FactFinderModel" y_Mo_falls y_Mo_falls ∈ fT := ⟨k_554, k_555⟩
theorem fy_Mo_place : fh_Y fT y_Mo_place c0_Mo_place 4 (some .int) 3 := ⟨k_556, k_445, by decide, by decide, by decide +kernel⟩
theorem fst_Mo_place : Cond.instanceMethod y_Mo_place ∈ fT ∧ Cond.selects "FactFinderModel" y_Mo_place y_Mo_place ∈ fT := ⟨k_557, k_558⟩
theorem fy_Mo_isHeld : fh_Y fT y_Mo_isHeld c0_Mo_isHeld 4 (some .boolean) 1 := ⟨k_559, k_445, by decide, by decide, by decide +kernel⟩
theorem fst_Mo_isHeld : Cond.instanceMethod y_Mo_isHeld ∈ fT ∧ Cond.selects "FactFinderModel" y_Mo_isHeld y_Mo_isHeld ∈ fT := ⟨k_560, k_561⟩
theorem fy_Mo_isBefore : fh_Y fT y_Mo_isBefore c0_Mo_isBefore 1 (some .boolean) 0 := ⟨k_562, k_445, by decide, by decide, by decide +kernel⟩
theorem fst_Mo_isBefore : Cond.instanceMethod y_Mo_isBefore ∈ fT ∧ Cond.selects "FactFinderModel" y_Mo_isBefore y_Mo_isBefore ∈ fT := ⟨k_563, k_564⟩
theorem fy_Mo_isOrdered : fh_Y fT y_Mo_isOrdered c0_Mo_isOrdered 3 (some .boolean) 1 := ⟨k_565, k_445, by decide, by decide, by decide +kernel⟩
theorem fst_Mo_isOrdered : Cond.instanceMethod y_Mo_isOrdered ∈ fT ∧ Cond.selects "FactFinderModel" y_Mo_isOrdered y_Mo_isOrdered ∈ fT := ⟨k_566, k_567⟩
theorem fy_Mo_size : fh_Y fT y_Mo_size c0_Mo_size 1 (some .int) 1 := ⟨k_568, k_445, by decide, by decide, by decide +kernel⟩
theorem fst_Mo_size : Cond.static y_Mo_size ∈ fT := k_569
theorem fy_Mo_holds : fh_Y fT y_Mo_holds c0_Mo_holds 10 (some .int) 7 := ⟨k_570, k_445, by decide, by decide, by decide +kernel⟩
theorem fst_Mo_holds : Cond.instanceMethod y_Mo_holds ∈ fT ∧ Cond.selects "FactFinderModel" y_Mo_holds y_Mo_holds ∈ fT := ⟨k_571, k_572⟩
theorem fy_Mo_isEmpty : fh_Y fT y_Mo_isEmpty c0_Mo_isEmpty 6 (some .boolean) 3 := ⟨k_573, k_445, by decide, by decide, by decide +kernel⟩
theorem fst_Mo_isEmpty : Cond.instanceMethod y_Mo_isEmpty ∈ fT ∧ Cond.selects "FactFinderModel" y_Mo_isEmpty y_Mo_isEmpty ∈ fT := ⟨k_574, k_575⟩
theorem fy_Mo_isTold : fh_Y fT y_Mo_isTold c0_Mo_isTold 5 (some .boolean) 1 := ⟨k_576, k_445, by decide, by decide, by decide +kernel⟩
theorem fst_Mo_isTold : Cond.instanceMethod y_Mo_isTold ∈ fT ∧ Cond.selects "FactFinderModel" y_Mo_isTold y_Mo_isTold ∈ fT := ⟨k_577, k_578⟩
theorem fy_Mo_visit : fh_Y fT y_Mo_visit c0_Mo_visit 3 none 1 := ⟨k_579, k_445, by decide, by decide, by decide +kernel⟩
theorem fst_Mo_visit : Cond.instanceMethod y_Mo_visit ∈ fT ∧ Cond.selects "FactFinderModel" y_Mo_visit y_Mo_visit ∈ fT := ⟨k_580, k_581⟩
theorem fy_Mo_walkArea : fh_Y fT y_Mo_walkArea c0_Mo_walkArea 7 none 4 := ⟨k_582, k_445, by decide, by decide, by decide +kernel⟩
theorem fst_Mo_walkArea : Cond.instanceMethod y_Mo_walkArea ∈ fT ∧ Cond.selects "FactFinderModel" y_Mo_walkArea y_Mo_walkArea ∈ fT := ⟨k_583, k_584⟩
theorem fy_Mo_walkMore : fh_Y fT y_Mo_walkMore c0_Mo_walkMore 6 none 4 := ⟨k_585, k_445, by decide, by decide, by decide +kernel⟩
theorem fst_Mo_walkMore : Cond.instanceMethod y_Mo_walkMore ∈ fT ∧ Cond.selects "FactFinderModel" y_Mo_walkMore y_Mo_walkMore ∈ fT := ⟨k_586, k_587⟩
theorem fy_Mo_walkThird : fh_Y fT y_Mo_walkThird c0_Mo_walkThird 5 none 3 := ⟨k_588, k_445, by decide, by decide, by decide +kernel⟩
theorem fst_Mo_walkThird : Cond.instanceMethod y_Mo_walkThird ∈ fT ∧ Cond.selects "FactFinderModel" y_Mo_walkThird y_Mo_walkThird ∈ fT := ⟨k_589, k_590⟩
theorem fy_Mo_walk : fh_Y fT y_Mo_walk c0_Mo_walk 5 none 2 := ⟨k_591, k_445, by decide, by decide, by decide +kernel⟩
theorem fst_Mo_walk : Cond.instanceMethod y_Mo_walk ∈ fT ∧ Cond.selects "FactFinderModel" y_Mo_walk y_Mo_walk ∈ fT := ⟨k_592, k_593⟩
theorem fy_Mo_facts : fh_Y fT y_Mo_facts c0_Mo_facts 2 (some .int) 1 := ⟨k_594, k_445, by decide, by decide, by decide +kernel⟩
theorem fst_Mo_facts : Cond.instanceMethod y_Mo_facts ∈ fT ∧ Cond.selects "FactFinderModel" y_Mo_facts y_Mo_facts ∈ fT := ⟨k_595, k_596⟩
theorem fy_Mo_fact : fh_Y fT y_Mo_fact c0_Mo_fact 5 (some .int) 3 := ⟨k_597, k_445, by decide, by decide, by decide +kernel⟩
theorem fst_Mo_fact : Cond.instanceMethod y_Mo_fact ∈ fT ∧ Cond.selects "FactFinderModel" y_Mo_fact y_Mo_fact ∈ fT := ⟨k_598, k_599⟩
theorem fy_Mo_needs3 : fh_Y fT y_Mo_needs3 c0_Mo_needs3 6 (some .int) 3 := ⟨k_600, k_445, by decide, by decide, by decide +kernel⟩
theorem fst_Mo_needs3 : Cond.instanceMethod y_Mo_needs3 ∈ fT ∧ Cond.selects "FactFinderModel" y_Mo_needs3 y_Mo_needs3 ∈ fT := ⟨k_601, k_602⟩
theorem fy_Mo_clearSets : fh_Y fT y_Mo_clearSets c0_Mo_clearSets 2 none 0 := ⟨k_603, k_445, by decide, by decide, by decide +kernel⟩
theorem fst_Mo_clearSets : Cond.instanceMethod y_Mo_clearSets ∈ fT ∧ Cond.selects "FactFinderModel" y_Mo_clearSets y_Mo_clearSets ∈ fT := ⟨k_604, k_605⟩
theorem fy_Mo_set : fh_Y fT y_Mo_set c0_Mo_set 5 (some .int) 1 := ⟨k_606, k_445, by decide, by decide, by decide +kernel⟩
theorem fst_Mo_set : Cond.instanceMethod y_Mo_set ∈ fT ∧ Cond.selects "FactFinderModel" y_Mo_set y_Mo_set ∈ fT := ⟨k_607, k_608⟩
theorem fy_Mo_lineOf : fh_Y fT y_Mo_lineOf c0_Mo_lineOf 5 (some .int) 2 := ⟨k_609, k_445, by decide, by decide, by decide +kernel⟩
theorem fst_Mo_lineOf : Cond.instanceMethod y_Mo_lineOf ∈ fT ∧ Cond.selects "FactFinderModel" y_Mo_lineOf y_Mo_lineOf ∈ fT := ⟨k_610, k_611⟩
theorem fy_Mo_row : fh_Y fT y_Mo_row c0_Mo_row 5 (some .int) 1 := ⟨k_612, k_445, by decide, by decide, by decide +kernel⟩
theorem fst_Mo_row : Cond.instanceMethod y_Mo_row ∈ fT ∧ Cond.selects "FactFinderModel" y_Mo_row y_Mo_row ∈ fT := ⟨k_613, k_614⟩
theorem fy_Mo_ringThrough : fh_Y fT y_Mo_ringThrough c0_Mo_ringThrough 6 (some .int) 3 := ⟨k_615, k_445, by decide, by decide, by decide +kernel⟩
theorem fst_Mo_ringThrough : Cond.instanceMethod y_Mo_ringThrough ∈ fT ∧ Cond.selects "FactFinderModel" y_Mo_ringThrough y_Mo_ringThrough ∈ fT := ⟨k_616, k_617⟩
theorem fy_Mo_ring : fh_Y fT y_Mo_ring c0_Mo_ring 7 (some .int) 1 := ⟨k_618, k_445, by decide, by decide, by decide +kernel⟩
theorem fst_Mo_ring : Cond.instanceMethod y_Mo_ring ∈ fT ∧ Cond.selects "FactFinderModel" y_Mo_ring y_Mo_ring ∈ fT := ⟨k_619, k_620⟩
abbrev fC (l : Launch) (D : va_G) (K : Nat → ClassId) (t : Nat → Nat) (y : MethodName) (c : ByteArray) (n : Nat) (ret : Option FieldType) (rm : Room) (vs : List Value) (h : fh_H) (v : Option Value) (h' : fh_H) : Prop := fh_C l y (Cond.code y c n ret :: fT) rm D classes (tysK K) (tbT t) NWL vs h v h'
