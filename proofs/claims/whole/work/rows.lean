section
-- ===== PART A: goes FIRST, ahead of the names: the tables' words, and 'selects' of the private methods out of them =====
/-- a private method of a class that the tables say can be made, by its rows of tables_1 -/
def lw_okq (q : MethodName × Nat) : Prop := (q.1.cls ≠ "java/lang/invoke/MethodHandle" ∧ q.1.cls ≠ "java/lang/invoke/VarHandle") ∧ Cond.instantiable q.1.cls q.2 ∈ tables_1 ∧ Cond.privateMethod q.1 ∈ tables_1 ∧ Cond.instanceMethod q.1 ∈ tables_1
theorem lw_p0 : lw_okq (⟨"HarpPedals$Reader", "acceptPosition", "(I)Z"⟩, 3) := ⟨⟨by decide +kernel, by decide +kernel⟩, List.mem_of_getElem? (i := 40) (by decide +kernel), List.mem_of_getElem? (i := 285) (by decide +kernel), List.mem_of_getElem? (i := 286) (by decide +kernel)⟩
theorem lw_p1 : lw_okq (⟨"HarpPedals$Reader", "acceptKind", "(I)Z"⟩, 3) := ⟨⟨by decide +kernel, by decide +kernel⟩, List.mem_of_getElem? (i := 40) (by decide +kernel), List.mem_of_getElem? (i := 292) (by decide +kernel), List.mem_of_getElem? (i := 293) (by decide +kernel)⟩
theorem lw_p2 : lw_okq (⟨"HarpPedals$Reader", "acceptTone", "(I)Z"⟩, 3) := ⟨⟨by decide +kernel, by decide +kernel⟩, List.mem_of_getElem? (i := 40) (by decide +kernel), List.mem_of_getElem? (i := 303) (by decide +kernel), List.mem_of_getElem? (i := 304) (by decide +kernel)⟩
theorem lw_p3 : lw_okq (⟨"HarpPedals$Reader", "acceptComma", "(I)Z"⟩, 3) := ⟨⟨by decide +kernel, by decide +kernel⟩, List.mem_of_getElem? (i := 40) (by decide +kernel), List.mem_of_getElem? (i := 321) (by decide +kernel), List.mem_of_getElem? (i := 322) (by decide +kernel)⟩
theorem lw_p4 : lw_okq (⟨"HarpPedals$Planner", "goForward", "(LHarpPedals$Part;I)V"⟩, 12) := ⟨⟨by decide +kernel, by decide +kernel⟩, List.mem_of_getElem? (i := 126) (by decide +kernel), List.mem_of_getElem? (i := 449) (by decide +kernel), List.mem_of_getElem? (i := 450) (by decide +kernel)⟩
theorem lw_p5 : lw_okq (⟨"HarpPedals$Planner", "setGapAheadOf", "(LHarpPedals$Part;II)V"⟩, 12) := ⟨⟨by decide +kernel, by decide +kernel⟩, List.mem_of_getElem? (i := 126) (by decide +kernel), List.mem_of_getElem? (i := 460) (by decide +kernel), List.mem_of_getElem? (i := 461) (by decide +kernel)⟩
theorem lw_p6 : lw_okq (⟨"HarpPedals$Planner", "cross", "([I[IIIZ)V"⟩, 12) := ⟨⟨by decide +kernel, by decide +kernel⟩, List.mem_of_getElem? (i := 126) (by decide +kernel), List.mem_of_getElem? (i := 473) (by decide +kernel), List.mem_of_getElem? (i := 474) (by decide +kernel)⟩
theorem lw_p7 : lw_okq (⟨"HarpPedals$Planner", "spreadByRight", "([IZ)V"⟩, 12) := ⟨⟨by decide +kernel, by decide +kernel⟩, List.mem_of_getElem? (i := 126) (by decide +kernel), List.mem_of_getElem? (i := 478) (by decide +kernel), List.mem_of_getElem? (i := 479) (by decide +kernel)⟩
theorem lw_p8 : lw_okq (⟨"HarpPedals$Planner", "gathered", "([IIIZ)I"⟩, 12) := ⟨⟨by decide +kernel, by decide +kernel⟩, List.mem_of_getElem? (i := 126) (by decide +kernel), List.mem_of_getElem? (i := 496) (by decide +kernel), List.mem_of_getElem? (i := 497) (by decide +kernel)⟩
theorem lw_p9 : lw_okq (⟨"HarpPedals$Planner", "findBest", "(LHarpPedals$Part;)V"⟩, 12) := ⟨⟨by decide +kernel, by decide +kernel⟩, List.mem_of_getElem? (i := 126) (by decide +kernel), List.mem_of_getElem? (i := 542) (by decide +kernel), List.mem_of_getElem? (i := 543) (by decide +kernel)⟩
theorem lw_p10 : lw_okq (⟨"HarpPedals$Planner", "goBackward", "(LHarpPedals$Part;)V"⟩, 12) := ⟨⟨by decide +kernel, by decide +kernel⟩, List.mem_of_getElem? (i := 126) (by decide +kernel), List.mem_of_getElem? (i := 546) (by decide +kernel), List.mem_of_getElem? (i := 547) (by decide +kernel)⟩
theorem lw_p11 : lw_okq (⟨"HarpPedals$Planner", "followBest", "(LHarpPedals$Part;)V"⟩, 12) := ⟨⟨by decide +kernel, by decide +kernel⟩, List.mem_of_getElem? (i := 126) (by decide +kernel), List.mem_of_getElem? (i := 553) (by decide +kernel), List.mem_of_getElem? (i := 554) (by decide +kernel)⟩
theorem lw_p12 : lw_okq (⟨"HarpPedals$Planner", "bestNext", "(I[I)I"⟩, 12) := ⟨⟨by decide +kernel, by decide +kernel⟩, List.mem_of_getElem? (i := 126) (by decide +kernel), List.mem_of_getElem? (i := 557) (by decide +kernel), List.mem_of_getElem? (i := 558) (by decide +kernel)⟩
theorem lw_p13 : lw_okq (⟨"HarpPedals$Player", "nextDraw", "()I"⟩, 6) := ⟨⟨by decide +kernel, by decide +kernel⟩, List.mem_of_getElem? (i := 185) (by decide +kernel), List.mem_of_getElem? (i := 615) (by decide +kernel), List.mem_of_getElem? (i := 616) (by decide +kernel)⟩
theorem lw_p14 : lw_okq (⟨"HarpPedals$Player", "playChord", "(I)V"⟩, 6) := ⟨⟨by decide +kernel, by decide +kernel⟩, List.mem_of_getElem? (i := 185) (by decide +kernel), List.mem_of_getElem? (i := 623) (by decide +kernel), List.mem_of_getElem? (i := 624) (by decide +kernel)⟩
theorem lw_p15 : lw_okq (⟨"HarpPedalsModel", "layOptions", "()V"⟩, 44) := ⟨⟨by decide +kernel, by decide +kernel⟩, List.mem_of_getElem? (i := 659) (by decide +kernel), List.mem_of_getElem? (i := 666) (by decide +kernel), List.mem_of_getElem? (i := 667) (by decide +kernel)⟩
def lw_privs_1 : List (MethodName × Nat) := [(⟨"HarpPedals$Reader", "acceptPosition", "(I)Z"⟩, 3), (⟨"HarpPedals$Reader", "acceptKind", "(I)Z"⟩, 3), (⟨"HarpPedals$Reader", "acceptTone", "(I)Z"⟩, 3), (⟨"HarpPedals$Reader", "acceptComma", "(I)Z"⟩, 3), (⟨"HarpPedals$Planner", "goForward", "(LHarpPedals$Part;I)V"⟩, 12), (⟨"HarpPedals$Planner", "setGapAheadOf", "(LHarpPedals$Part;II)V"⟩, 12), (⟨"HarpPedals$Planner", "cross", "([I[IIIZ)V"⟩, 12), (⟨"HarpPedals$Planner", "spreadByRight", "([IZ)V"⟩, 12), (⟨"HarpPedals$Planner", "gathered", "([IIIZ)I"⟩, 12), (⟨"HarpPedals$Planner", "findBest", "(LHarpPedals$Part;)V"⟩, 12), (⟨"HarpPedals$Planner", "goBackward", "(LHarpPedals$Part;)V"⟩, 12), (⟨"HarpPedals$Planner", "followBest", "(LHarpPedals$Part;)V"⟩, 12), (⟨"HarpPedals$Planner", "bestNext", "(I[I)I"⟩, 12), (⟨"HarpPedals$Player", "nextDraw", "()I"⟩, 6), (⟨"HarpPedals$Player", "playChord", "(I)V"⟩, 6), (⟨"HarpPedalsModel", "layOptions", "()V"⟩, 44)]
theorem lw_r1 : ∀ q ∈ lw_privs_1, lw_okq q := List.forall_mem_cons.mpr ⟨lw_p0, List.forall_mem_cons.mpr ⟨lw_p1, List.forall_mem_cons.mpr ⟨lw_p2, List.forall_mem_cons.mpr ⟨lw_p3, List.forall_mem_cons.mpr ⟨lw_p4, List.forall_mem_cons.mpr ⟨lw_p5, List.forall_mem_cons.mpr ⟨lw_p6, List.forall_mem_cons.mpr ⟨lw_p7, List.forall_mem_cons.mpr ⟨lw_p8, List.forall_mem_cons.mpr ⟨lw_p9, List.forall_mem_cons.mpr ⟨lw_p10, List.forall_mem_cons.mpr ⟨lw_p11, List.forall_mem_cons.mpr ⟨lw_p12, List.forall_mem_cons.mpr ⟨lw_p13, List.forall_mem_cons.mpr ⟨lw_p14, List.forall_mem_cons.mpr ⟨lw_p15, fun _ h => absurd h List.not_mem_nil⟩⟩⟩⟩⟩⟩⟩⟩⟩⟩⟩⟩⟩⟩⟩⟩
theorem lw_p16 : lw_okq (⟨"HarpPedalsModel", "layTables", "()V"⟩, 44) := ⟨⟨by decide +kernel, by decide +kernel⟩, List.mem_of_getElem? (i := 659) (by decide +kernel), List.mem_of_getElem? (i := 670) (by decide +kernel), List.mem_of_getElem? (i := 671) (by decide +kernel)⟩
theorem lw_p17 : lw_okq (⟨"HarpPedalsModel", "positionOf", "(II)I"⟩, 44) := ⟨⟨by decide +kernel, by decide +kernel⟩, List.mem_of_getElem? (i := 659) (by decide +kernel), List.mem_of_getElem? (i := 674) (by decide +kernel), List.mem_of_getElem? (i := 675) (by decide +kernel)⟩
theorem lw_p18 : lw_okq (⟨"HarpPedalsModel", "toneOf", "(II)I"⟩, 44) := ⟨⟨by decide +kernel, by decide +kernel⟩, List.mem_of_getElem? (i := 659) (by decide +kernel), List.mem_of_getElem? (i := 678) (by decide +kernel), List.mem_of_getElem? (i := 679) (by decide +kernel)⟩
theorem lw_p19 : lw_okq (⟨"HarpPedalsModel", "turned", "(III)I"⟩, 44) := ⟨⟨by decide +kernel, by decide +kernel⟩, List.mem_of_getElem? (i := 659) (by decide +kernel), List.mem_of_getElem? (i := 682) (by decide +kernel), List.mem_of_getElem? (i := 683) (by decide +kernel)⟩
theorem lw_p20 : lw_okq (⟨"HarpPedalsModel", "faultOf", "()I"⟩, 44) := ⟨⟨by decide +kernel, by decide +kernel⟩, List.mem_of_getElem? (i := 659) (by decide +kernel), List.mem_of_getElem? (i := 841) (by decide +kernel), List.mem_of_getElem? (i := 842) (by decide +kernel)⟩
theorem lw_p21 : lw_okq (⟨"HarpPedalsModel", "isGood", "(I)Z"⟩, 44) := ⟨⟨by decide +kernel, by decide +kernel⟩, List.mem_of_getElem? (i := 659) (by decide +kernel), List.mem_of_getElem? (i := 845) (by decide +kernel), List.mem_of_getElem? (i := 846) (by decide +kernel)⟩
theorem lw_p22 : lw_okq (⟨"HarpPedalsModel", "isChordSign", "(I)Z"⟩, 44) := ⟨⟨by decide +kernel, by decide +kernel⟩, List.mem_of_getElem? (i := 659) (by decide +kernel), List.mem_of_getElem? (i := 851) (by decide +kernel), List.mem_of_getElem? (i := 852) (by decide +kernel)⟩
theorem lw_p23 : lw_okq (⟨"HarpPedalsModel", "lacks", "()Z"⟩, 44) := ⟨⟨by decide +kernel, by decide +kernel⟩, List.mem_of_getElem? (i := 659) (by decide +kernel), List.mem_of_getElem? (i := 871) (by decide +kernel), List.mem_of_getElem? (i := 872) (by decide +kernel)⟩
theorem lw_p24 : lw_okq (⟨"HarpPedalsModel", "planOf", "(I)I"⟩, 44) := ⟨⟨by decide +kernel, by decide +kernel⟩, List.mem_of_getElem? (i := 659) (by decide +kernel), List.mem_of_getElem? (i := 875) (by decide +kernel), List.mem_of_getElem? (i := 876) (by decide +kernel)⟩
theorem lw_p25 : lw_okq (⟨"HarpPedalsModel", "freshen", "()V"⟩, 44) := ⟨⟨by decide +kernel, by decide +kernel⟩, List.mem_of_getElem? (i := 659) (by decide +kernel), List.mem_of_getElem? (i := 879) (by decide +kernel), List.mem_of_getElem? (i := 880) (by decide +kernel)⟩
theorem lw_p26 : lw_okq (⟨"HarpPedalsModel", "layRest", "(I)V"⟩, 44) := ⟨⟨by decide +kernel, by decide +kernel⟩, List.mem_of_getElem? (i := 659) (by decide +kernel), List.mem_of_getElem? (i := 883) (by decide +kernel), List.mem_of_getElem? (i := 884) (by decide +kernel)⟩
theorem lw_p27 : lw_okq (⟨"HarpPedalsModel", "layFits", "(I)V"⟩, 44) := ⟨⟨by decide +kernel, by decide +kernel⟩, List.mem_of_getElem? (i := 659) (by decide +kernel), List.mem_of_getElem? (i := 887) (by decide +kernel), List.mem_of_getElem? (i := 888) (by decide +kernel)⟩
theorem lw_p28 : lw_okq (⟨"HarpPedalsModel", "shiftedTones", "(II)I"⟩, 44) := ⟨⟨by decide +kernel, by decide +kernel⟩, List.mem_of_getElem? (i := 659) (by decide +kernel), List.mem_of_getElem? (i := 891) (by decide +kernel), List.mem_of_getElem? (i := 892) (by decide +kernel)⟩
theorem lw_p29 : lw_okq (⟨"HarpPedalsModel", "isFitting", "(III)Z"⟩, 44) := ⟨⟨by decide +kernel, by decide +kernel⟩, List.mem_of_getElem? (i := 659) (by decide +kernel), List.mem_of_getElem? (i := 895) (by decide +kernel), List.mem_of_getElem? (i := 896) (by decide +kernel)⟩
theorem lw_p30 : lw_okq (⟨"HarpPedalsModel", "toneIn", "(II)I"⟩, 44) := ⟨⟨by decide +kernel, by decide +kernel⟩, List.mem_of_getElem? (i := 659) (by decide +kernel), List.mem_of_getElem? (i := 899) (by decide +kernel), List.mem_of_getElem? (i := 900) (by decide +kernel)⟩
theorem lw_p31 : lw_okq (⟨"HarpPedalsModel", "bestFrom", "(III)I"⟩, 44) := ⟨⟨by decide +kernel, by decide +kernel⟩, List.mem_of_getElem? (i := 659) (by decide +kernel), List.mem_of_getElem? (i := 904) (by decide +kernel), List.mem_of_getElem? (i := 905) (by decide +kernel)⟩
def lw_privs_2 : List (MethodName × Nat) := [(⟨"HarpPedalsModel", "layTables", "()V"⟩, 44), (⟨"HarpPedalsModel", "positionOf", "(II)I"⟩, 44), (⟨"HarpPedalsModel", "toneOf", "(II)I"⟩, 44), (⟨"HarpPedalsModel", "turned", "(III)I"⟩, 44), (⟨"HarpPedalsModel", "faultOf", "()I"⟩, 44), (⟨"HarpPedalsModel", "isGood", "(I)Z"⟩, 44), (⟨"HarpPedalsModel", "isChordSign", "(I)Z"⟩, 44), (⟨"HarpPedalsModel", "lacks", "()Z"⟩, 44), (⟨"HarpPedalsModel", "planOf", "(I)I"⟩, 44), (⟨"HarpPedalsModel", "freshen", "()V"⟩, 44), (⟨"HarpPedalsModel", "layRest", "(I)V"⟩, 44), (⟨"HarpPedalsModel", "layFits", "(I)V"⟩, 44), (⟨"HarpPedalsModel", "shiftedTones", "(II)I"⟩, 44), (⟨"HarpPedalsModel", "isFitting", "(III)Z"⟩, 44), (⟨"HarpPedalsModel", "toneIn", "(II)I"⟩, 44), (⟨"HarpPedalsModel", "bestFrom", "(III)I"⟩, 44)]
theorem lw_r2 : ∀ q ∈ lw_privs_2, lw_okq q := List.forall_mem_cons.mpr ⟨lw_p16, List.forall_mem_cons.mpr ⟨lw_p17, List.forall_mem_cons.mpr ⟨lw_p18, List.forall_mem_cons.mpr ⟨lw_p19, List.forall_mem_cons.mpr ⟨lw_p20, List.forall_mem_cons.mpr ⟨lw_p21, List.forall_mem_cons.mpr ⟨lw_p22, List.forall_mem_cons.mpr ⟨lw_p23, List.forall_mem_cons.mpr ⟨lw_p24, List.forall_mem_cons.mpr ⟨lw_p25, List.forall_mem_cons.mpr ⟨lw_p26, List.forall_mem_cons.mpr ⟨lw_p27, List.forall_mem_cons.mpr ⟨lw_p28, List.forall_mem_cons.mpr ⟨lw_p29, List.forall_mem_cons.mpr ⟨lw_p30, List.forall_mem_cons.mpr ⟨lw_p31, fun _ h => absurd h List.not_mem_nil⟩⟩⟩⟩⟩⟩⟩⟩⟩⟩⟩⟩⟩⟩⟩⟩
theorem lw_p32 : lw_okq (⟨"HarpPedalsModel", "heldBy", "(II)I"⟩, 44) := ⟨⟨by decide +kernel, by decide +kernel⟩, List.mem_of_getElem? (i := 659) (by decide +kernel), List.mem_of_getElem? (i := 908) (by decide +kernel), List.mem_of_getElem? (i := 909) (by decide +kernel)⟩
theorem lw_p33 : lw_okq (⟨"HarpPedalsModel", "heldPedals", "(II)I"⟩, 44) := ⟨⟨by decide +kernel, by decide +kernel⟩, List.mem_of_getElem? (i := 659) (by decide +kernel), List.mem_of_getElem? (i := 912) (by decide +kernel), List.mem_of_getElem? (i := 913) (by decide +kernel)⟩
theorem lw_p34 : lw_okq (⟨"HarpPedalsModel", "can", "(III)Z"⟩, 44) := ⟨⟨by decide +kernel, by decide +kernel⟩, List.mem_of_getElem? (i := 659) (by decide +kernel), List.mem_of_getElem? (i := 919) (by decide +kernel), List.mem_of_getElem? (i := 920) (by decide +kernel)⟩
theorem lw_p35 : lw_okq (⟨"HarpPedalsModel", "after", "(II)I"⟩, 44) := ⟨⟨by decide +kernel, by decide +kernel⟩, List.mem_of_getElem? (i := 659) (by decide +kernel), List.mem_of_getElem? (i := 923) (by decide +kernel), List.mem_of_getElem? (i := 924) (by decide +kernel)⟩
theorem lw_p36 : lw_okq (⟨"HarpPedalsModel", "movedBy", "(I)I"⟩, 44) := ⟨⟨by decide +kernel, by decide +kernel⟩, List.mem_of_getElem? (i := 659) (by decide +kernel), List.mem_of_getElem? (i := 927) (by decide +kernel), List.mem_of_getElem? (i := 928) (by decide +kernel)⟩
theorem lw_p37 : lw_okq (⟨"HarpPedalsModel", "layCost", "()V"⟩, 44) := ⟨⟨by decide +kernel, by decide +kernel⟩, List.mem_of_getElem? (i := 659) (by decide +kernel), List.mem_of_getElem? (i := 931) (by decide +kernel), List.mem_of_getElem? (i := 932) (by decide +kernel)⟩
theorem lw_p38 : lw_okq (⟨"HarpPedalsModel", "layFrom", "(IIII)V"⟩, 44) := ⟨⟨by decide +kernel, by decide +kernel⟩, List.mem_of_getElem? (i := 659) (by decide +kernel), List.mem_of_getElem? (i := 935) (by decide +kernel), List.mem_of_getElem? (i := 936) (by decide +kernel)⟩
theorem lw_p39 : lw_okq (⟨"HarpPedalsModel", "layBest", "()V"⟩, 44) := ⟨⟨by decide +kernel, by decide +kernel⟩, List.mem_of_getElem? (i := 659) (by decide +kernel), List.mem_of_getElem? (i := 940) (by decide +kernel), List.mem_of_getElem? (i := 941) (by decide +kernel)⟩
theorem lw_p40 : lw_okq (⟨"HarpPedalsModel", "isChord", "(I)Z"⟩, 44) := ⟨⟨by decide +kernel, by decide +kernel⟩, List.mem_of_getElem? (i := 659) (by decide +kernel), List.mem_of_getElem? (i := 948) (by decide +kernel), List.mem_of_getElem? (i := 949) (by decide +kernel)⟩
theorem lw_p41 : lw_okq (⟨"HarpPedalsModel", "settingOf", "(I)I"⟩, 44) := ⟨⟨by decide +kernel, by decide +kernel⟩, List.mem_of_getElem? (i := 659) (by decide +kernel), List.mem_of_getElem? (i := 952) (by decide +kernel), List.mem_of_getElem? (i := 953) (by decide +kernel)⟩
theorem lw_p42 : lw_okq (⟨"HarpPedalsModel", "told", "(I)I"⟩, 44) := ⟨⟨by decide +kernel, by decide +kernel⟩, List.mem_of_getElem? (i := 659) (by decide +kernel), List.mem_of_getElem? (i := 956) (by decide +kernel), List.mem_of_getElem? (i := 957) (by decide +kernel)⟩
theorem lw_p43 : lw_okq (⟨"HarpPedalsModel", "reachOf", "(I)I"⟩, 44) := ⟨⟨by decide +kernel, by decide +kernel⟩, List.mem_of_getElem? (i := 659) (by decide +kernel), List.mem_of_getElem? (i := 964) (by decide +kernel), List.mem_of_getElem? (i := 965) (by decide +kernel)⟩
theorem lw_p44 : lw_okq (⟨"HarpPedalsModel", "shiftedOf", "(I)I"⟩, 44) := ⟨⟨by decide +kernel, by decide +kernel⟩, List.mem_of_getElem? (i := 659) (by decide +kernel), List.mem_of_getElem? (i := 973) (by decide +kernel), List.mem_of_getElem? (i := 974) (by decide +kernel)⟩
theorem lw_p45 : lw_okq (⟨"HarpPedalsModel", "freeOf", "()I"⟩, 44) := ⟨⟨by decide +kernel, by decide +kernel⟩, List.mem_of_getElem? (i := 659) (by decide +kernel), List.mem_of_getElem? (i := 985) (by decide +kernel), List.mem_of_getElem? (i := 986) (by decide +kernel)⟩
theorem lw_p46 : lw_okq (⟨"HarpPedalsModel", "tellChord", "(II)I"⟩, 44) := ⟨⟨by decide +kernel, by decide +kernel⟩, List.mem_of_getElem? (i := 659) (by decide +kernel), List.mem_of_getElem? (i := 993) (by decide +kernel), List.mem_of_getElem? (i := 994) (by decide +kernel)⟩
theorem lw_p47 : lw_okq (⟨"HarpPedalsModel", "fitting", "(II)I"⟩, 44) := ⟨⟨by decide +kernel, by decide +kernel⟩, List.mem_of_getElem? (i := 659) (by decide +kernel), List.mem_of_getElem? (i := 997) (by decide +kernel), List.mem_of_getElem? (i := 998) (by decide +kernel)⟩
def lw_privs_3 : List (MethodName × Nat) := [(⟨"HarpPedalsModel", "heldBy", "(II)I"⟩, 44), (⟨"HarpPedalsModel", "heldPedals", "(II)I"⟩, 44), (⟨"HarpPedalsModel", "can", "(III)Z"⟩, 44), (⟨"HarpPedalsModel", "after", "(II)I"⟩, 44), (⟨"HarpPedalsModel", "movedBy", "(I)I"⟩, 44), (⟨"HarpPedalsModel", "layCost", "()V"⟩, 44), (⟨"HarpPedalsModel", "layFrom", "(IIII)V"⟩, 44), (⟨"HarpPedalsModel", "layBest", "()V"⟩, 44), (⟨"HarpPedalsModel", "isChord", "(I)Z"⟩, 44), (⟨"HarpPedalsModel", "settingOf", "(I)I"⟩, 44), (⟨"HarpPedalsModel", "told", "(I)I"⟩, 44), (⟨"HarpPedalsModel", "reachOf", "(I)I"⟩, 44), (⟨"HarpPedalsModel", "shiftedOf", "(I)I"⟩, 44), (⟨"HarpPedalsModel", "freeOf", "()I"⟩, 44), (⟨"HarpPedalsModel", "tellChord", "(II)I"⟩, 44), (⟨"HarpPedalsModel", "fitting", "(II)I"⟩, 44)]
theorem lw_r3 : ∀ q ∈ lw_privs_3, lw_okq q := List.forall_mem_cons.mpr ⟨lw_p32, List.forall_mem_cons.mpr ⟨lw_p33, List.forall_mem_cons.mpr ⟨lw_p34, List.forall_mem_cons.mpr ⟨lw_p35, List.forall_mem_cons.mpr ⟨lw_p36, List.forall_mem_cons.mpr ⟨lw_p37, List.forall_mem_cons.mpr ⟨lw_p38, List.forall_mem_cons.mpr ⟨lw_p39, List.forall_mem_cons.mpr ⟨lw_p40, List.forall_mem_cons.mpr ⟨lw_p41, List.forall_mem_cons.mpr ⟨lw_p42, List.forall_mem_cons.mpr ⟨lw_p43, List.forall_mem_cons.mpr ⟨lw_p44, List.forall_mem_cons.mpr ⟨lw_p45, List.forall_mem_cons.mpr ⟨lw_p46, List.forall_mem_cons.mpr ⟨lw_p47, fun _ h => absurd h List.not_mem_nil⟩⟩⟩⟩⟩⟩⟩⟩⟩⟩⟩⟩⟩⟩⟩⟩
theorem lw_p48 : lw_okq (⟨"HarpPedalsModel", "sortsOf", "(I)I"⟩, 44) := ⟨⟨by decide +kernel, by decide +kernel⟩, List.mem_of_getElem? (i := 659) (by decide +kernel), List.mem_of_getElem? (i := 1001) (by decide +kernel), List.mem_of_getElem? (i := 1002) (by decide +kernel)⟩
theorem lw_p49 : lw_okq (⟨"HarpPedalsModel", "askOf", "(I)I"⟩, 44) := ⟨⟨by decide +kernel, by decide +kernel⟩, List.mem_of_getElem? (i := 659) (by decide +kernel), List.mem_of_getElem? (i := 1008) (by decide +kernel), List.mem_of_getElem? (i := 1009) (by decide +kernel)⟩
theorem lw_p50 : lw_okq (⟨"HarpPedalsModel", "draw", "(I)I"⟩, 44) := ⟨⟨by decide +kernel, by decide +kernel⟩, List.mem_of_getElem? (i := 659) (by decide +kernel), List.mem_of_getElem? (i := 1059) (by decide +kernel), List.mem_of_getElem? (i := 1060) (by decide +kernel)⟩
theorem lw_p51 : lw_okq (⟨"HarpPedalsModel", "played", "(II)I"⟩, 44) := ⟨⟨by decide +kernel, by decide +kernel⟩, List.mem_of_getElem? (i := 659) (by decide +kernel), List.mem_of_getElem? (i := 1067) (by decide +kernel), List.mem_of_getElem? (i := 1068) (by decide +kernel)⟩
theorem lw_p52 : lw_okq (⟨"HarpPedalsModel", "countOf", "(I)I"⟩, 44) := ⟨⟨by decide +kernel, by decide +kernel⟩, List.mem_of_getElem? (i := 659) (by decide +kernel), List.mem_of_getElem? (i := 1083) (by decide +kernel), List.mem_of_getElem? (i := 1084) (by decide +kernel)⟩
theorem lw_p53 : lw_okq (⟨"HarpPedalsModel", "tonesAll", "()I"⟩, 44) := ⟨⟨by decide +kernel, by decide +kernel⟩, List.mem_of_getElem? (i := 659) (by decide +kernel), List.mem_of_getElem? (i := 1087) (by decide +kernel), List.mem_of_getElem? (i := 1088) (by decide +kernel)⟩
theorem lw_p54 : lw_okq (⟨"HarpPedalsModel", "say", "(J)V"⟩, 44) := ⟨⟨by decide +kernel, by decide +kernel⟩, List.mem_of_getElem? (i := 659) (by decide +kernel), List.mem_of_getElem? (i := 1096) (by decide +kernel), List.mem_of_getElem? (i := 1097) (by decide +kernel)⟩
def lw_privs_4 : List (MethodName × Nat) := [(⟨"HarpPedalsModel", "sortsOf", "(I)I"⟩, 44), (⟨"HarpPedalsModel", "askOf", "(I)I"⟩, 44), (⟨"HarpPedalsModel", "draw", "(I)I"⟩, 44), (⟨"HarpPedalsModel", "played", "(II)I"⟩, 44), (⟨"HarpPedalsModel", "countOf", "(I)I"⟩, 44), (⟨"HarpPedalsModel", "tonesAll", "()I"⟩, 44), (⟨"HarpPedalsModel", "say", "(J)V"⟩, 44)]
theorem lw_r4 : ∀ q ∈ lw_privs_4, lw_okq q := List.forall_mem_cons.mpr ⟨lw_p48, List.forall_mem_cons.mpr ⟨lw_p49, List.forall_mem_cons.mpr ⟨lw_p50, List.forall_mem_cons.mpr ⟨lw_p51, List.forall_mem_cons.mpr ⟨lw_p52, List.forall_mem_cons.mpr ⟨lw_p53, List.forall_mem_cons.mpr ⟨lw_p54, fun _ h => absurd h List.not_mem_nil⟩⟩⟩⟩⟩⟩⟩
def lw_privs : List (MethodName × Nat) := lw_privs_1 ++ (lw_privs_2 ++ (lw_privs_3 ++ (lw_privs_4)))
def lw_tbl : List Cond := k2_sels lw_privs ++ tables_1
theorem lw_privs_ok : ∀ q ∈ lw_privs, lw_okq q := by
  show ∀ q ∈ lw_privs_1 ++ (lw_privs_2 ++ (lw_privs_3 ++ (lw_privs_4))), lw_okq q
  exact List.forall_mem_append.mpr ⟨lw_r1, List.forall_mem_append.mpr ⟨lw_r2, List.forall_mem_append.mpr ⟨lw_r3, lw_r4⟩⟩⟩
-- ===== end of PART A; then your names; then what follows =====
/-! ===== BEGIN words of one list among another's, by their places ===== -/
theorem goodIn_r {big : List Cond} (ws : List Cond) (ps : List Nat) (hp : ws = ps.filterMap (fun i => big[i]?)) (h : ws.all goodWord = true) : GoodIn big ws := by
  intro w hw
  have h1 := List.all_eq_true.mp h w hw
  rw [hp] at hw
  obtain ⟨i, -, hi⟩ := List.mem_filterMap.mp hw
  have hm : w ∈ big := by first | exact List.mem_of_getElem? hi | exact List.getElem?_mem hi
  exact ⟨hm, good_of_word h1⟩
theorem goodIn_app {big a b : List Cond} (ha : GoodIn big a) (hb : GoodIn big b) : GoodIn big (a ++ b) := fun w h => (List.mem_append.mp h).elim (ha w) (hb w)
theorem goodIn_ca {big a b : List Cond} {c : Cond} (ha : GoodIn big (c :: a)) (hb : GoodIn big b) : GoodIn big (c :: (a ++ b)) := fun w h => (List.mem_cons.mp h).elim (fun e => ha w (List.mem_cons.mpr (Or.inl e))) (fun h => (List.mem_append.mp h).elim (fun h => ha w (List.mem_cons.mpr (Or.inr h))) (hb w))
theorem goodIn_sub {big ws : List Cond} (hm : ∀ w ∈ ws, w ∈ big) (h : ws.all goodWord = true) : GoodIn big ws := fun w hw => ⟨hm w hw, good_of_word (List.all_eq_true.mp h w hw)⟩
/-! ===== END ===== -/


/-! ===== BEGIN printed: names, fields, word lists, decode rows ===== -/
def RX0 : String := "HarpPedals$Gap"
def TX0 : u_T := fun k => match k with
  | 0 => ("HarpPedals$Gap", "mostMoves", "I", false)
  | _ => ("HarpPedals$Gap", "held", "I", false)
def tyX0 : Nat → FieldType := fun k => match k with
  | 0 => .int
  | _ => .int
abbrev wsX00 : List Cond := u_ws RX0 TX0 2
theorem nmX0 : ∀ a, a < 2 → ∀ b, b < 2 → a ≠ b → (TX0 a).2.1 ≠ (TX0 b).2.1 := by decide +kernel
theorem tyX0_ok : ∀ k, k < 2 → parseFieldDescriptor (TX0 k).2.2.1 = some (tyX0 k) := by decide +kernel
abbrev cX0_init : ByteArray := prog_2_method_1_code
def yX0_init : MethodName := ⟨RX0, "<init>", "()V"⟩
abbrev cX0_set : ByteArray := prog_2_method_2_code
def yX0_set : MethodName := ⟨RX0, "set", "(II)V"⟩
abbrev cX0_holds : ByteArray := prog_2_method_3_code
def yX0_holds : MethodName := ⟨RX0, "holds", "(II)Z"⟩
abbrev cX0_movesBetween : ByteArray := prog_2_method_4_code
def yX0_movesBetween : MethodName := ⟨RX0, "movesBetween", "(II)I"⟩
def RX1 : String := "HarpPedals$Page"
def TX1 : u_T := fun k => match k with
  | 0 => ("HarpPedals$Page", "codes", "[I", true)
  | _ => ("HarpPedals$Page", "size", "I", false)
def tyX1 : Nat → FieldType := fun k => match k with
  | 0 => .array .int
  | _ => .int
abbrev wsX10 : List Cond := u_ws RX1 TX1 2
theorem nmX1 : ∀ a, a < 2 → ∀ b, b < 2 → a ≠ b → (TX1 a).2.1 ≠ (TX1 b).2.1 := by decide +kernel
theorem tyX1_ok : ∀ k, k < 2 → parseFieldDescriptor (TX1 k).2.2.1 = some (tyX1 k) := by decide +kernel
abbrev cX1_init : ByteArray := prog_3_method_1_code
def yX1_init : MethodName := ⟨RX1, "<init>", "()V"⟩
abbrev cX1_append : ByteArray := prog_3_method_2_code
def yX1_append : MethodName := ⟨RX1, "append", "(I)Z"⟩
abbrev cX1_clear : ByteArray := prog_3_method_3_code
def yX1_clear : MethodName := ⟨RX1, "clear", "()I"⟩
abbrev cX1_readBy : ByteArray := prog_3_method_4_code
def yX1_readBy : MethodName := ⟨RX1, "readBy", "(LHarpPedals$Reader;)I"⟩
def RX2 : String := "HarpPedals$Part"
def TX2 : u_T := fun k => match k with
  | 0 => ("HarpPedals$Part", "begin", "I", false)
  | 1 => ("HarpPedals$Part", "size", "I", false)
  | 2 => ("HarpPedals$Part", "kinds", "[I", true)
  | _ => ("HarpPedals$Part", "tones", "[I", true)
def tyX2 : Nat → FieldType := fun k => match k with
  | 0 => .int
  | 1 => .int
  | 2 => .array .int
  | _ => .array .int
abbrev wsX20 : List Cond := u_ws RX2 TX2 4
theorem nmX2 : ∀ a, a < 4 → ∀ b, b < 4 → a ≠ b → (TX2 a).2.1 ≠ (TX2 b).2.1 := by decide +kernel
theorem tyX2_ok : ∀ k, k < 4 → parseFieldDescriptor (TX2 k).2.2.1 = some (tyX2 k) := by decide +kernel
abbrev cX2_init : ByteArray := prog_4_method_1_code
def yX2_init : MethodName := ⟨RX2, "<init>", "()V"⟩
abbrev cX2_has : ByteArray := prog_4_method_2_code
def yX2_has : MethodName := ⟨RX2, "has", "(I)Z"⟩
abbrev cX2_clear : ByteArray := prog_4_method_3_code
def yX2_clear : MethodName := ⟨RX2, "clear", "()V"⟩
abbrev cX2_become : ByteArray := prog_4_method_4_code
def yX2_become : MethodName := ⟨RX2, "become", "(LHarpPedals$Part;)V"⟩
abbrev cX2_insert : ByteArray := prog_4_method_5_code
def yX2_insert : MethodName := ⟨RX2, "insert", "(III)Z"⟩
abbrev cX2_remove : ByteArray := prog_4_method_6_code
def yX2_remove : MethodName := ⟨RX2, "remove", "(I)V"⟩
abbrev cX2_exchange : ByteArray := prog_4_method_7_code
def yX2_exchange : MethodName := ⟨RX2, "exchange", "(II)V"⟩
abbrev cX2_raise : ByteArray := prog_4_method_8_code
def yX2_raise : MethodName := ⟨RX2, "raise", "(I)V"⟩
abbrev cX2_tonesOfLast : ByteArray := prog_4_method_9_code
def yX2_tonesOfLast : MethodName := ⟨RX2, "tonesOfLast", "()I"⟩
abbrev cX2_addToLast : ByteArray := prog_4_method_10_code
def yX2_addToLast : MethodName := ⟨RX2, "addToLast", "(I)V"⟩
abbrev cX2_tonesOfAll : ByteArray := prog_4_method_11_code
def yX2_tonesOfAll : MethodName := ⟨RX2, "tonesOfAll", "()I"⟩
def RX3 : String := "HarpPedals$Planner"
def TX3 : u_T := fun k => match k with
  | 0 => ("HarpPedals$Planner", "settings", "LHarpPedals$Settings;", true)
  | 1 => ("HarpPedals$Planner", "gap", "LHarpPedals$Gap;", true)
  | 2 => ("HarpPedals$Planner", "oneRow", "[I", true)
  | 3 => ("HarpPedals$Planner", "otherRow", "[I", true)
  | 4 => ("HarpPedals$Planner", "halfway", "[I", true)
  | 5 => ("HarpPedals$Planner", "onward", "[[I", true)
  | 6 => ("HarpPedals$Planner", "reached", "[I", true)
  | 7 => ("HarpPedals$Planner", "best", "[I", true)
  | 8 => ("HarpPedals$Planner", "begin", "I", false)
  | 9 => ("HarpPedals$Planner", "score", "I", false)
  | 10 => ("HarpPedals$Planner", "shiftOfScore", "I", false)
  | _ => ("HarpPedals$Planner", "bestIsKnown", "Z", false)
def tyX3 : Nat → FieldType := fun k => match k with
  | 0 => .object "HarpPedals$Settings"
  | 1 => .object "HarpPedals$Gap"
  | 2 => .array .int
  | 3 => .array .int
  | 4 => .array .int
  | 5 => .array (.array .int)
  | 6 => .array .int
  | 7 => .array .int
  | 8 => .int
  | 9 => .int
  | 10 => .int
  | _ => .boolean
abbrev wsX30 : List Cond := u_ws RX3 TX3 12
theorem nmX3 : ∀ a, a < 12 → ∀ b, b < 12 → a ≠ b → (TX3 a).2.1 ≠ (TX3 b).2.1 := by decide +kernel
theorem tyX3_ok : ∀ k, k < 12 → parseFieldDescriptor (TX3 k).2.2.1 = some (tyX3 k) := by decide +kernel
abbrev cX3_init : ByteArray := prog_5_method_1_code
def yX3_init : MethodName := ⟨RX3, "<init>", "(LHarpPedals$Settings;)V"⟩
abbrev cX3_makeStale : ByteArray := prog_5_method_2_code
def yX3_makeStale : MethodName := ⟨RX3, "makeStale", "()V"⟩
abbrev cX3_fewest : ByteArray := prog_5_method_3_code
def yX3_fewest : MethodName := ⟨RX3, "fewest", "(LHarpPedals$Part;I)I"⟩
abbrev cX3_ways : ByteArray := prog_5_method_4_code
def yX3_ways : MethodName := ⟨RX3, "ways", "(LHarpPedals$Part;)I"⟩
abbrev cX3_stuckAt : ByteArray := prog_5_method_5_code
def yX3_stuckAt : MethodName := ⟨RX3, "stuckAt", "(LHarpPedals$Part;)I"⟩
abbrev cX3_howManyReached : ByteArray := prog_5_method_6_code
def yX3_howManyReached : MethodName := ⟨RX3, "howManyReached", "(LHarpPedals$Part;I)I"⟩
abbrev cX3_bestSetting : ByteArray := prog_5_method_7_code
def yX3_bestSetting : MethodName := ⟨RX3, "bestSetting", "(LHarpPedals$Part;I)I"⟩
abbrev cX3_bestBegin : ByteArray := prog_5_method_8_code
def yX3_bestBegin : MethodName := ⟨RX3, "bestBegin", "(LHarpPedals$Part;)I"⟩
abbrev cX3_goForward : ByteArray := prog_5_method_9_code
def yX3_goForward : MethodName := ⟨RX3, "goForward", "(LHarpPedals$Part;I)V"⟩
abbrev cX3_findBest : ByteArray := prog_5_method_10_code
def yX3_findBest : MethodName := ⟨RX3, "findBest", "(LHarpPedals$Part;)V"⟩
abbrev cX3_goBackward : ByteArray := prog_5_method_11_code
def yX3_goBackward : MethodName := ⟨RX3, "goBackward", "(LHarpPedals$Part;)V"⟩
abbrev cX3_followBest : ByteArray := prog_5_method_12_code
def yX3_followBest : MethodName := ⟨RX3, "followBest", "(LHarpPedals$Part;)V"⟩
abbrev cX3_bestNext : ByteArray := prog_5_method_13_code
def yX3_bestNext : MethodName := ⟨RX3, "bestNext", "(I[I)I"⟩
abbrev cX3_setGapAheadOf : ByteArray := prog_5_method_14_code
def yX3_setGapAheadOf : MethodName := ⟨RX3, "setGapAheadOf", "(LHarpPedals$Part;II)V"⟩
abbrev cX3_cross : ByteArray := prog_5_method_15_code
def yX3_cross : MethodName := ⟨RX3, "cross", "([I[IIIZ)V"⟩
abbrev cX3_spreadByRight : ByteArray := prog_5_method_16_code
def yX3_spreadByRight : MethodName := ⟨RX3, "spreadByRight", "([IZ)V"⟩
abbrev cX3_gathered : ByteArray := prog_5_method_17_code
def yX3_gathered : MethodName := ⟨RX3, "gathered", "([IIIZ)I"⟩
abbrev cX3_joined : ByteArray := prog_5_method_18_code
def yX3_joined : MethodName := ⟨RX3, "joined", "(II)I"⟩
abbrev cX3_howManyScored : ByteArray := prog_5_method_19_code
def yX3_howManyScored : MethodName := ⟨RX3, "howManyScored", "([I)I"⟩
abbrev cX3_bestScore : ByteArray := prog_5_method_20_code
def yX3_bestScore : MethodName := ⟨RX3, "bestScore", "([I)I"⟩
abbrev cX3_settingOfBestScore : ByteArray := prog_5_method_21_code
def yX3_settingOfBestScore : MethodName := ⟨RX3, "settingOfBestScore", "([I)I"⟩
def RX4 : String := "HarpPedals$Player"
def TX4 : u_T := fun k => match k with
  | 0 => ("HarpPedals$Player", "settings", "LHarpPedals$Settings;", true)
  | 1 => ("HarpPedals$Player", "gap", "LHarpPedals$Gap;", true)
  | 2 => ("HarpPedals$Player", "seed", "I", false)
  | 3 => ("HarpPedals$Player", "setting", "I", false)
  | 4 => ("HarpPedals$Player", "chordsPlayed", "I", false)
  | _ => ("HarpPedals$Player", "moves", "I", false)
def tyX4 : Nat → FieldType := fun k => match k with
  | 0 => .object "HarpPedals$Settings"
  | 1 => .object "HarpPedals$Gap"
  | 2 => .int
  | 3 => .int
  | 4 => .int
  | _ => .int
abbrev wsX40 : List Cond := u_ws RX4 TX4 6
theorem nmX4 : ∀ a, a < 6 → ∀ b, b < 6 → a ≠ b → (TX4 a).2.1 ≠ (TX4 b).2.1 := by decide +kernel
theorem tyX4_ok : ∀ k, k < 6 → parseFieldDescriptor (TX4 k).2.2.1 = some (tyX4 k) := by decide +kernel
abbrev cX4_init : ByteArray := prog_6_method_1_code
def yX4_init : MethodName := ⟨RX4, "<init>", "(LHarpPedals$Settings;)V"⟩
abbrev cX4_playDrawn : ByteArray := prog_6_method_2_code
def yX4_playDrawn : MethodName := ⟨RX4, "playDrawn", "(III)V"⟩
abbrev cX4_playChord : ByteArray := prog_6_method_3_code
def yX4_playChord : MethodName := ⟨RX4, "playChord", "(I)V"⟩
abbrev cX4_nextDraw : ByteArray := prog_6_method_4_code
def yX4_nextDraw : MethodName := ⟨RX4, "nextDraw", "()I"⟩
def RX5 : String := "HarpPedals$Reader"
def TX5 : u_T := fun k => match k with
  | 0 => ("HarpPedals$Reader", "draft", "LHarpPedals$Part;", true)
  | 1 => ("HarpPedals$Reader", "lettersRead", "I", false)
  | _ => ("HarpPedals$Reader", "kindIsDue", "Z", false)
def tyX5 : Nat → FieldType := fun k => match k with
  | 0 => .object "HarpPedals$Part"
  | 1 => .int
  | _ => .boolean
abbrev wsX50 : List Cond := u_ws RX5 TX5 3
theorem nmX5 : ∀ a, a < 3 → ∀ b, b < 3 → a ≠ b → (TX5 a).2.1 ≠ (TX5 b).2.1 := by decide +kernel
theorem tyX5_ok : ∀ k, k < 3 → parseFieldDescriptor (TX5 k).2.2.1 = some (tyX5 k) := by decide +kernel
abbrev cX5_init : ByteArray := prog_7_method_1_code
def yX5_init : MethodName := ⟨RX5, "<init>", "()V"⟩
abbrev cX5_restart : ByteArray := prog_7_method_2_code
def yX5_restart : MethodName := ⟨RX5, "restart", "()V"⟩
abbrev cX5_accept : ByteArray := prog_7_method_3_code
def yX5_accept : MethodName := ⟨RX5, "accept", "(I)Z"⟩
abbrev cX5_isWhole : ByteArray := prog_7_method_4_code
def yX5_isWhole : MethodName := ⟨RX5, "isWhole", "()Z"⟩
abbrev cX5_acceptPosition : ByteArray := prog_7_method_5_code
def yX5_acceptPosition : MethodName := ⟨RX5, "acceptPosition", "(I)Z"⟩
abbrev cX5_acceptKind : ByteArray := prog_7_method_6_code
def yX5_acceptKind : MethodName := ⟨RX5, "acceptKind", "(I)Z"⟩
abbrev cX5_acceptTone : ByteArray := prog_7_method_7_code
def yX5_acceptTone : MethodName := ⟨RX5, "acceptTone", "(I)Z"⟩
abbrev cX5_acceptComma : ByteArray := prog_7_method_8_code
def yX5_acceptComma : MethodName := ⟨RX5, "acceptComma", "(I)Z"⟩
abbrev cX5_kindOf : ByteArray := prog_7_method_9_code
def yX5_kindOf : MethodName := ⟨RX5, "kindOf", "(I)I"⟩
def RX6 : String := "HarpPedals$Seen"
def TX6 : u_T := fun k => match k with
  | 0 => ("HarpPedals$Seen", "size", "I", false)
  | 1 => ("HarpPedals$Seen", "chords", "[I", true)
  | _ => ("HarpPedals$Seen", "kindsLeft", "[I", true)
def tyX6 : Nat → FieldType := fun k => match k with
  | 0 => .int
  | 1 => .array .int
  | _ => .array .int
abbrev wsX60 : List Cond := u_ws RX6 TX6 3
theorem nmX6 : ∀ a, a < 3 → ∀ b, b < 3 → a ≠ b → (TX6 a).2.1 ≠ (TX6 b).2.1 := by decide +kernel
theorem tyX6_ok : ∀ k, k < 3 → parseFieldDescriptor (TX6 k).2.2.1 = some (tyX6 k) := by decide +kernel
abbrev cX6_init : ByteArray := prog_8_method_1_code
def yX6_init : MethodName := ⟨RX6, "<init>", "()V"⟩
abbrev cX6_add : ByteArray := prog_8_method_2_code
def yX6_add : MethodName := ⟨RX6, "add", "(IIZ)Z"⟩
abbrev cX6_clear : ByteArray := prog_8_method_3_code
def yX6_clear : MethodName := ⟨RX6, "clear", "()I"⟩
abbrev cX6_become : ByteArray := prog_8_method_4_code
def yX6_become : MethodName := ⟨RX6, "become", "(LHarpPedals$Seen;)V"⟩
abbrev cX6_sortsOf : ByteArray := prog_8_method_5_code
def yX6_sortsOf : MethodName := ⟨RX6, "sortsOf", "(I)I"⟩
abbrev cX6_nextQuestion : ByteArray := prog_8_method_6_code
def yX6_nextQuestion : MethodName := ⟨RX6, "nextQuestion", "(I)I"⟩
abbrev cX6_leftAtWorst : ByteArray := prog_8_method_7_code
def yX6_leftAtWorst : MethodName := ⟨RX6, "leftAtWorst", "(II)I"⟩
def RX7 : String := "HarpPedals$Settings"
def TX7 : u_T := fun k => match k with
  | _ => ("HarpPedals$Settings", "tonesOf", "[I", true)
def tyX7 : Nat → FieldType := fun k => match k with
  | _ => .array .int
abbrev wsX70 : List Cond := u_ws RX7 TX7 1
theorem nmX7 : ∀ a, a < 1 → ∀ b, b < 1 → a ≠ b → (TX7 a).2.1 ≠ (TX7 b).2.1 := by decide +kernel
theorem tyX7_ok : ∀ k, k < 1 → parseFieldDescriptor (TX7 k).2.2.1 = some (tyX7 k) := by decide +kernel
abbrev cX7_init : ByteArray := prog_9_method_1_code
def yX7_init : MethodName := ⟨RX7, "<init>", "()V"⟩
abbrev cX7_fits : ByteArray := prog_9_method_2_code
def yX7_fits : MethodName := ⟨RX7, "fits", "(III)Z"⟩
abbrev cX7_howManyFit : ByteArray := prog_9_method_3_code
def yX7_howManyFit : MethodName := ⟨RX7, "howManyFit", "(II)I"⟩
abbrev cX7_leastThatFits : ByteArray := prog_9_method_4_code
def yX7_leastThatFits : MethodName := ⟨RX7, "leastThatFits", "(II)I"⟩
abbrev cX7_isSetting : ByteArray := prog_9_method_5_code
def yX7_isSetting : MethodName := ⟨RX7, "isSetting", "(I)Z"⟩
abbrev cX7_toneAt : ByteArray := prog_9_method_6_code
def yX7_toneAt : MethodName := ⟨RX7, "toneAt", "(II)I"⟩
abbrev cX7_positionAt : ByteArray := prog_9_method_7_code
def yX7_positionAt : MethodName := ⟨RX7, "positionAt", "(II)I"⟩
abbrev cX7_moved : ByteArray := prog_9_method_8_code
def yX7_moved : MethodName := ⟨RX7, "moved", "(III)I"⟩
abbrev cX7_numberOf : ByteArray := prog_9_method_9_code
def yX7_numberOf : MethodName := ⟨RX7, "numberOf", "(I)I"⟩
abbrev cX7_tonesOfPedals : ByteArray := prog_9_method_10_code
def yX7_tonesOfPedals : MethodName := ⟨RX7, "tonesOfPedals", "(I)I"⟩
def RX8 : String := "HarpPedals"
def TX8 : u_T := fun k => match k with
  | 0 => ("HarpPedals", "page", "LHarpPedals$Page;", true)
  | 1 => ("HarpPedals", "reader", "LHarpPedals$Reader;", true)
  | 2 => ("HarpPedals", "played", "LHarpPedals$Part;", true)
  | 3 => ("HarpPedals", "keptPart", "LHarpPedals$Part;", true)
  | 4 => ("HarpPedals", "seen", "LHarpPedals$Seen;", true)
  | 5 => ("HarpPedals", "keptSeen", "LHarpPedals$Seen;", true)
  | 6 => ("HarpPedals", "settings", "LHarpPedals$Settings;", true)
  | 7 => ("HarpPedals", "planner", "LHarpPedals$Planner;", true)
  | 8 => ("HarpPedals", "player", "LHarpPedals$Player;", true)
  | 9 => ("HarpPedals", "partsRead", "I", false)
  | _ => ("HarpPedals", "shiftsAsked", "I", false)
def tyX8 : Nat → FieldType := fun k => match k with
  | 0 => .object "HarpPedals$Page"
  | 1 => .object "HarpPedals$Reader"
  | 2 => .object "HarpPedals$Part"
  | 3 => .object "HarpPedals$Part"
  | 4 => .object "HarpPedals$Seen"
  | 5 => .object "HarpPedals$Seen"
  | 6 => .object "HarpPedals$Settings"
  | 7 => .object "HarpPedals$Planner"
  | 8 => .object "HarpPedals$Player"
  | 9 => .int
  | _ => .int
abbrev wsX80 : List Cond := u_ws RX8 TX8 11
theorem nmX8 : ∀ a, a < 11 → ∀ b, b < 11 → a ≠ b → (TX8 a).2.1 ≠ (TX8 b).2.1 := by decide +kernel
theorem tyX8_ok : ∀ k, k < 11 → parseFieldDescriptor (TX8 k).2.2.1 = some (tyX8 k) := by decide +kernel
abbrev cX8_init : ByteArray := prog_1_method_1_code
def yX8_init : MethodName := ⟨RX8, "<init>", "()V"⟩
abbrev cX8_letter : ByteArray := prog_1_method_2_code
def yX8_letter : MethodName := ⟨RX8, "letter", "(I)I"⟩
abbrev cX8_blank : ByteArray := prog_1_method_3_code
def yX8_blank : MethodName := ⟨RX8, "blank", "()I"⟩
abbrev cX8_fault : ByteArray := prog_1_method_4_code
def yX8_fault : MethodName := ⟨RX8, "fault", "()I"⟩
abbrev cX8_part : ByteArray := prog_1_method_5_code
def yX8_part : MethodName := ⟨RX8, "part", "()I"⟩
abbrev cX8_chord : ByteArray := prog_1_method_6_code
def yX8_chord : MethodName := ⟨RX8, "chord", "(II)I"⟩
abbrev cX8_as : ByteArray := prog_1_method_7_code
def yX8_as : MethodName := ⟨RX8, "as", "(II)I"⟩
abbrev cX8_tone : ByteArray := prog_1_method_8_code
def yX8_tone : MethodName := ⟨RX8, "tone", "(II)I"⟩
abbrev cX8_press : ByteArray := prog_1_method_9_code
def yX8_press : MethodName := ⟨RX8, "press", "(II)I"⟩
abbrev cX8_put : ByteArray := prog_1_method_10_code
def yX8_put : MethodName := ⟨RX8, "put", "(III)I"⟩
abbrev cX8_take : ByteArray := prog_1_method_11_code
def yX8_take : MethodName := ⟨RX8, "take", "(I)I"⟩
abbrev cX8_swap : ByteArray := prog_1_method_12_code
def yX8_swap : MethodName := ⟨RX8, "swap", "(II)I"⟩
abbrev cX8_change : ByteArray := prog_1_method_13_code
def yX8_change : MethodName := ⟨RX8, "change", "(II)I"⟩
abbrev cX8_shift : ByteArray := prog_1_method_14_code
def yX8_shift : MethodName := ⟨RX8, "shift", "(I)I"⟩
abbrev cX8_plan : ByteArray := prog_1_method_15_code
def yX8_plan : MethodName := ⟨RX8, "plan", "(I)I"⟩
abbrev cX8_setting : ByteArray := prog_1_method_16_code
def yX8_setting : MethodName := ⟨RX8, "setting", "(I)I"⟩
abbrev cX8_reach : ByteArray := prog_1_method_17_code
def yX8_reach : MethodName := ⟨RX8, "reach", "(I)I"⟩
abbrev cX8_shifted : ByteArray := prog_1_method_18_code
def yX8_shifted : MethodName := ⟨RX8, "shifted", "(I)I"⟩
abbrev cX8_leastShift : ByteArray := prog_1_method_19_code
def yX8_leastShift : MethodName := ⟨RX8, "leastShift", "()I"⟩
abbrev cX8_free : ByteArray := prog_1_method_20_code
def yX8_free : MethodName := ⟨RX8, "free", "()I"⟩
abbrev cX8_see : ByteArray := prog_1_method_21_code
def yX8_see : MethodName := ⟨RX8, "see", "(IIZ)I"⟩
abbrev cX8_forget : ByteArray := prog_1_method_22_code
def yX8_forget : MethodName := ⟨RX8, "forget", "()I"⟩
abbrev cX8_drawn : ByteArray := prog_1_method_23_code
def yX8_drawn : MethodName := ⟨RX8, "drawn", "(III)I"⟩
abbrev cX8_image : ByteArray := prog_1_method_24_code
def yX8_image : MethodName := ⟨RX8, "image", "()I"⟩
abbrev cX8_restore : ByteArray := prog_1_method_25_code
def yX8_restore : MethodName := ⟨RX8, "restore", "()I"⟩
abbrev cX8_count : ByteArray := prog_1_method_26_code
def yX8_count : MethodName := ⟨RX8, "count", "(I)I"⟩
abbrev cX8_digest : ByteArray := prog_1_method_27_code
def yX8_digest : MethodName := ⟨RX8, "digest", "()J"⟩
abbrev cX8_isPedal : ByteArray := prog_1_method_28_code
def yX8_isPedal : MethodName := ⟨RX8, "isPedal", "(I)Z"⟩
abbrev cX8_isPosition : ByteArray := prog_1_method_29_code
def yX8_isPosition : MethodName := ⟨RX8, "isPosition", "(I)Z"⟩
abbrev cX8_isKind : ByteArray := prog_1_method_30_code
def yX8_isKind : MethodName := ⟨RX8, "isKind", "(I)Z"⟩
abbrev cX8_isShift : ByteArray := prog_1_method_31_code
def yX8_isShift : MethodName := ⟨RX8, "isShift", "(I)Z"⟩
abbrev cX8_areTones : ByteArray := prog_1_method_32_code
def yX8_areTones : MethodName := ⟨RX8, "areTones", "(I)Z"⟩
abbrev cX8_isHeld : ByteArray := prog_1_method_33_code
def yX8_isHeld : MethodName := ⟨RX8, "isHeld", "(I)Z"⟩
abbrev cX8_raised : ByteArray := prog_1_method_34_code
def yX8_raised : MethodName := ⟨RX8, "raised", "(II)I"⟩
def RX9 : String := "HarpPedalsModel"
def TX9 : u_T := fun k => match k with
  | 0 => ("HarpPedalsModel", "power", "[I", true)
  | 1 => ("HarpPedalsModel", "natural", "[I", true)
  | 2 => ("HarpPedalsModel", "toneAt", "[I", true)
  | 3 => ("HarpPedalsModel", "leftPedal", "[I", true)
  | 4 => ("HarpPedalsModel", "leftBy", "[I", true)
  | 5 => ("HarpPedalsModel", "rightPedal", "[I", true)
  | 6 => ("HarpPedalsModel", "rightBy", "[I", true)
  | 7 => ("HarpPedalsModel", "movedAt", "[I", true)
  | 8 => ("HarpPedalsModel", "bitsAt", "[I", true)
  | 9 => ("HarpPedalsModel", "afterAt", "[I", true)
  | 10 => ("HarpPedalsModel", "page", "[I", true)
  | 11 => ("HarpPedalsModel", "pageMany", "I", false)
  | 12 => ("HarpPedalsModel", "readMany", "I", false)
  | 13 => ("HarpPedalsModel", "readHere", "I", false)
  | 14 => ("HarpPedalsModel", "readKinds", "[I", true)
  | 15 => ("HarpPedalsModel", "readTones", "[I", true)
  | 16 => ("HarpPedalsModel", "chords", "I", false)
  | 17 => ("HarpPedalsModel", "begin", "I", false)
  | 18 => ("HarpPedalsModel", "partsRead", "I", false)
  | 19 => ("HarpPedalsModel", "kinds", "[I", true)
  | 20 => ("HarpPedalsModel", "tones", "[I", true)
  | 21 => ("HarpPedalsModel", "old", "Z", false)
  | 22 => ("HarpPedalsModel", "fits", "[I", true)
  | 23 => ("HarpPedalsModel", "rest", "[I", true)
  | 24 => ("HarpPedalsModel", "cost", "[I", true)
  | 25 => ("HarpPedalsModel", "ways", "[I", true)
  | 26 => ("HarpPedalsModel", "fewest", "I", false)
  | 27 => ("HarpPedalsModel", "waysAll", "I", false)
  | 28 => ("HarpPedalsModel", "stuck", "I", false)
  | 29 => ("HarpPedalsModel", "best", "[I", true)
  | 30 => ("HarpPedalsModel", "reached", "[I", true)
  | 31 => ("HarpPedalsModel", "shiftsAsked", "I", false)
  | 32 => ("HarpPedalsModel", "seenMany", "I", false)
  | 33 => ("HarpPedalsModel", "sights", "[I", true)
  | 34 => ("HarpPedalsModel", "seedNow", "I", false)
  | 35 => ("HarpPedalsModel", "drawnMoves", "I", false)
  | 36 => ("HarpPedalsModel", "keptPart", "I", false)
  | 37 => ("HarpPedalsModel", "keptChords", "I", false)
  | 38 => ("HarpPedalsModel", "keptBegin", "I", false)
  | 39 => ("HarpPedalsModel", "keptSeen", "I", false)
  | 40 => ("HarpPedalsModel", "keptKinds", "[I", true)
  | 41 => ("HarpPedalsModel", "keptTones", "[I", true)
  | 42 => ("HarpPedalsModel", "keptSights", "[I", true)
  | _ => ("HarpPedalsModel", "hash", "J", false)
def tyX9 : Nat → FieldType := fun k => match k with
  | 0 => .array .int
  | 1 => .array .int
  | 2 => .array .int
  | 3 => .array .int
  | 4 => .array .int
  | 5 => .array .int
  | 6 => .array .int
  | 7 => .array .int
  | 8 => .array .int
  | 9 => .array .int
  | 10 => .array .int
  | 11 => .int
  | 12 => .int
  | 13 => .int
  | 14 => .array .int
  | 15 => .array .int
  | 16 => .int
  | 17 => .int
  | 18 => .int
  | 19 => .array .int
  | 20 => .array .int
  | 21 => .boolean
  | 22 => .array .int
  | 23 => .array .int
  | 24 => .array .int
  | 25 => .array .int
  | 26 => .int
  | 27 => .int
  | 28 => .int
  | 29 => .array .int
  | 30 => .array .int
  | 31 => .int
  | 32 => .int
  | 33 => .array .int
  | 34 => .int
  | 35 => .int
  | 36 => .int
  | 37 => .int
  | 38 => .int
  | 39 => .int
  | 40 => .array .int
  | 41 => .array .int
  | 42 => .array .int
  | _ => .long
abbrev wsX90 : List Cond := u_ws RX9 TX9 44
theorem nmX9 : ∀ a, a < 44 → ∀ b, b < 44 → a ≠ b → (TX9 a).2.1 ≠ (TX9 b).2.1 := by decide +kernel
theorem tyX9_ok : ∀ k, k < 44 → parseFieldDescriptor (TX9 k).2.2.1 = some (tyX9 k) := by decide +kernel
abbrev cX9_init : ByteArray := prog_11_method_1_code
def yX9_init : MethodName := ⟨RX9, "<init>", "()V"⟩
abbrev cX9_in : ByteArray := prog_11_method_2_code
def yX9_in : MethodName := ⟨RX9, "in", "(JJJ)Z"⟩
abbrev cX9_copy : ByteArray := prog_11_method_3_code
def yX9_copy : MethodName := ⟨RX9, "copy", "([I[I)V"⟩
abbrev cX9_ones : ByteArray := prog_11_method_4_code
def yX9_ones : MethodName := ⟨RX9, "ones", "(I)I"⟩
abbrev cX9_positionOf : ByteArray := prog_11_method_5_code
def yX9_positionOf : MethodName := ⟨RX9, "positionOf", "(II)I"⟩
abbrev cX9_toneOf : ByteArray := prog_11_method_6_code
def yX9_toneOf : MethodName := ⟨RX9, "toneOf", "(II)I"⟩
abbrev cX9_toneIn : ByteArray := prog_11_method_7_code
def yX9_toneIn : MethodName := ⟨RX9, "toneIn", "(II)I"⟩
abbrev cX9_told : ByteArray := prog_11_method_8_code
def yX9_told : MethodName := ⟨RX9, "told", "(I)I"⟩
abbrev cX9_tone : ByteArray := prog_11_method_9_code
def yX9_tone : MethodName := ⟨RX9, "tone", "(II)I"⟩
abbrev cX9_layOptions : ByteArray := prog_11_method_10_code
def yX9_layOptions : MethodName := ⟨RX9, "layOptions", "()V"⟩
abbrev cX9_movedBy : ByteArray := prog_11_method_11_code
def yX9_movedBy : MethodName := ⟨RX9, "movedBy", "(I)I"⟩
abbrev cX9_layTables : ByteArray := prog_11_method_12_code
def yX9_layTables : MethodName := ⟨RX9, "layTables", "()V"⟩
abbrev cX9_turned : ByteArray := prog_11_method_13_code
def yX9_turned : MethodName := ⟨RX9, "turned", "(III)I"⟩
abbrev cX9_after : ByteArray := prog_11_method_14_code
def yX9_after : MethodName := ⟨RX9, "after", "(II)I"⟩
abbrev cX9_heldPedals : ByteArray := prog_11_method_15_code
def yX9_heldPedals : MethodName := ⟨RX9, "heldPedals", "(II)I"⟩
abbrev cX9_mostOf : ByteArray := prog_11_method_16_code
def yX9_mostOf : MethodName := ⟨RX9, "mostOf", "(I)I"⟩
abbrev cX9_can : ByteArray := prog_11_method_17_code
def yX9_can : MethodName := ⟨RX9, "can", "(III)Z"⟩
abbrev cX9_letter : ByteArray := prog_11_method_18_code
def yX9_letter : MethodName := ⟨RX9, "letter", "(I)I"⟩
abbrev cX9_blank : ByteArray := prog_11_method_19_code
def yX9_blank : MethodName := ⟨RX9, "blank", "()I"⟩
abbrev cX9_kindBy : ByteArray := prog_11_method_20_code
def yX9_kindBy : MethodName := ⟨RX9, "kindBy", "(I)I"⟩
abbrev cX9_isChordSign : ByteArray := prog_11_method_21_code
def yX9_isChordSign : MethodName := ⟨RX9, "isChordSign", "(I)Z"⟩
abbrev cX9_isGood : ByteArray := prog_11_method_22_code
def yX9_isGood : MethodName := ⟨RX9, "isGood", "(I)Z"⟩
abbrev cX9_faultOf : ByteArray := prog_11_method_23_code
def yX9_faultOf : MethodName := ⟨RX9, "faultOf", "()I"⟩
abbrev cX9_fault : ByteArray := prog_11_method_24_code
def yX9_fault : MethodName := ⟨RX9, "fault", "()I"⟩
abbrev cX9_part : ByteArray := prog_11_method_25_code
def yX9_part : MethodName := ⟨RX9, "part", "()I"⟩
abbrev cX9_lacks : ByteArray := prog_11_method_26_code
def yX9_lacks : MethodName := ⟨RX9, "lacks", "()Z"⟩
abbrev cX9_isChord : ByteArray := prog_11_method_27_code
def yX9_isChord : MethodName := ⟨RX9, "isChord", "(I)Z"⟩
abbrev cX9_isFitting : ByteArray := prog_11_method_28_code
def yX9_isFitting : MethodName := ⟨RX9, "isFitting", "(III)Z"⟩
abbrev cX9_shiftedTones : ByteArray := prog_11_method_29_code
def yX9_shiftedTones : MethodName := ⟨RX9, "shiftedTones", "(II)I"⟩
abbrev cX9_layFits : ByteArray := prog_11_method_30_code
def yX9_layFits : MethodName := ⟨RX9, "layFits", "(I)V"⟩
abbrev cX9_heldBy : ByteArray := prog_11_method_31_code
def yX9_heldBy : MethodName := ⟨RX9, "heldBy", "(II)I"⟩
abbrev cX9_bestFrom : ByteArray := prog_11_method_32_code
def yX9_bestFrom : MethodName := ⟨RX9, "bestFrom", "(III)I"⟩
abbrev cX9_layRest : ByteArray := prog_11_method_33_code
def yX9_layRest : MethodName := ⟨RX9, "layRest", "(I)V"⟩
abbrev cX9_layFrom : ByteArray := prog_11_method_34_code
def yX9_layFrom : MethodName := ⟨RX9, "layFrom", "(IIII)V"⟩
abbrev cX9_layCost : ByteArray := prog_11_method_35_code
def yX9_layCost : MethodName := ⟨RX9, "layCost", "()V"⟩
abbrev cX9_layBest : ByteArray := prog_11_method_36_code
def yX9_layBest : MethodName := ⟨RX9, "layBest", "()V"⟩
abbrev cX9_freshen : ByteArray := prog_11_method_37_code
def yX9_freshen : MethodName := ⟨RX9, "freshen", "()V"⟩
abbrev cX9_planOf : ByteArray := prog_11_method_38_code
def yX9_planOf : MethodName := ⟨RX9, "planOf", "(I)I"⟩
abbrev cX9_plan : ByteArray := prog_11_method_39_code
def yX9_plan : MethodName := ⟨RX9, "plan", "(I)I"⟩
abbrev cX9_settingOf : ByteArray := prog_11_method_40_code
def yX9_settingOf : MethodName := ⟨RX9, "settingOf", "(I)I"⟩
abbrev cX9_setting : ByteArray := prog_11_method_41_code
def yX9_setting : MethodName := ⟨RX9, "setting", "(I)I"⟩
abbrev cX9_reachOf : ByteArray := prog_11_method_42_code
def yX9_reachOf : MethodName := ⟨RX9, "reachOf", "(I)I"⟩
abbrev cX9_reach : ByteArray := prog_11_method_43_code
def yX9_reach : MethodName := ⟨RX9, "reach", "(I)I"⟩
abbrev cX9_shiftedOf : ByteArray := prog_11_method_44_code
def yX9_shiftedOf : MethodName := ⟨RX9, "shiftedOf", "(I)I"⟩
abbrev cX9_shifted : ByteArray := prog_11_method_45_code
def yX9_shifted : MethodName := ⟨RX9, "shifted", "(I)I"⟩
abbrev cX9_leastShift : ByteArray := prog_11_method_46_code
def yX9_leastShift : MethodName := ⟨RX9, "leastShift", "()I"⟩
abbrev cX9_freeOf : ByteArray := prog_11_method_47_code
def yX9_freeOf : MethodName := ⟨RX9, "freeOf", "()I"⟩
abbrev cX9_free : ByteArray := prog_11_method_48_code
def yX9_free : MethodName := ⟨RX9, "free", "()I"⟩
abbrev cX9_fitting : ByteArray := prog_11_method_49_code
def yX9_fitting : MethodName := ⟨RX9, "fitting", "(II)I"⟩
abbrev cX9_tellChord : ByteArray := prog_11_method_50_code
def yX9_tellChord : MethodName := ⟨RX9, "tellChord", "(II)I"⟩
abbrev cX9_chord : ByteArray := prog_11_method_51_code
def yX9_chord : MethodName := ⟨RX9, "chord", "(II)I"⟩
abbrev cX9_as : ByteArray := prog_11_method_52_code
def yX9_as : MethodName := ⟨RX9, "as", "(II)I"⟩
abbrev cX9_press : ByteArray := prog_11_method_53_code
def yX9_press : MethodName := ⟨RX9, "press", "(II)I"⟩
abbrev cX9_put : ByteArray := prog_11_method_54_code
def yX9_put : MethodName := ⟨RX9, "put", "(III)I"⟩
abbrev cX9_take : ByteArray := prog_11_method_55_code
def yX9_take : MethodName := ⟨RX9, "take", "(I)I"⟩
abbrev cX9_swap : ByteArray := prog_11_method_56_code
def yX9_swap : MethodName := ⟨RX9, "swap", "(II)I"⟩
abbrev cX9_change : ByteArray := prog_11_method_57_code
def yX9_change : MethodName := ⟨RX9, "change", "(II)I"⟩
abbrev cX9_shift : ByteArray := prog_11_method_58_code
def yX9_shift : MethodName := ⟨RX9, "shift", "(I)I"⟩
abbrev cX9_see : ByteArray := prog_11_method_59_code
def yX9_see : MethodName := ⟨RX9, "see", "(IIZ)I"⟩
abbrev cX9_forget : ByteArray := prog_11_method_60_code
def yX9_forget : MethodName := ⟨RX9, "forget", "()I"⟩
abbrev cX9_sortsBy : ByteArray := prog_11_method_61_code
def yX9_sortsBy : MethodName := ⟨RX9, "sortsBy", "(I)I"⟩
abbrev cX9_sortsOf : ByteArray := prog_11_method_62_code
def yX9_sortsOf : MethodName := ⟨RX9, "sortsOf", "(I)I"⟩
abbrev cX9_askOf : ByteArray := prog_11_method_63_code
def yX9_askOf : MethodName := ⟨RX9, "askOf", "(I)I"⟩
abbrev cX9_draw : ByteArray := prog_11_method_64_code
def yX9_draw : MethodName := ⟨RX9, "draw", "(I)I"⟩
abbrev cX9_played : ByteArray := prog_11_method_65_code
def yX9_played : MethodName := ⟨RX9, "played", "(II)I"⟩
abbrev cX9_drawn : ByteArray := prog_11_method_66_code
def yX9_drawn : MethodName := ⟨RX9, "drawn", "(III)I"⟩
abbrev cX9_image : ByteArray := prog_11_method_67_code
def yX9_image : MethodName := ⟨RX9, "image", "()I"⟩
abbrev cX9_restore : ByteArray := prog_11_method_68_code
def yX9_restore : MethodName := ⟨RX9, "restore", "()I"⟩
abbrev cX9_tonesAll : ByteArray := prog_11_method_69_code
def yX9_tonesAll : MethodName := ⟨RX9, "tonesAll", "()I"⟩
abbrev cX9_countOf : ByteArray := prog_11_method_70_code
def yX9_countOf : MethodName := ⟨RX9, "countOf", "(I)I"⟩
abbrev cX9_count : ByteArray := prog_11_method_71_code
def yX9_count : MethodName := ⟨RX9, "count", "(I)I"⟩
abbrev cX9_say : ByteArray := prog_11_method_72_code
def yX9_say : MethodName := ⟨RX9, "say", "(J)V"⟩
abbrev cX9_digest : ByteArray := prog_11_method_73_code
def yX9_digest : MethodName := ⟨RX9, "digest", "()J"⟩
def RJ6 : String := "java/lang/Integer"
def TJ6 : u_T := fun k => match k with
  | _ => ("", "", "", false)
def tyJ6 : Nat → FieldType := fun k => match k with
  | _ => .int
abbrev wsJ60 : List Cond := u_ws RJ6 TJ6 0
theorem nmJ6 : ∀ a, a < 0 → ∀ b, b < 0 → a ≠ b → (TJ6 a).2.1 ≠ (TJ6 b).2.1 := by decide +kernel
theorem tyJ6_ok : ∀ k, k < 0 → parseFieldDescriptor (TJ6 k).2.2.1 = some (tyJ6 k) := by decide +kernel
abbrev cJ6_bitCount_0f7a4 : ByteArray := prog_12_method_49_code
def yJ6_bitCount_0f7a4 : MethodName := ⟨RJ6, "bitCount", "(I)I"⟩
def RJ9 : String := "java/lang/Math"
def TJ9 : u_T := fun k => match k with
  | _ => ("", "", "", false)
def tyJ9 : Nat → FieldType := fun k => match k with
  | _ => .int
abbrev wsJ90 : List Cond := u_ws RJ9 TJ9 0
theorem nmJ9 : ∀ a, a < 0 → ∀ b, b < 0 → a ≠ b → (TJ9 a).2.1 ≠ (TJ9 b).2.1 := by decide +kernel
theorem tyJ9_ok : ∀ k, k < 0 → parseFieldDescriptor (TJ9 k).2.2.1 = some (tyJ9 k) := by decide +kernel
abbrev cJ9_max_7cf53 : ByteArray := prog_13_method_65_code
def yJ9_max_7cf53 : MethodName := ⟨RJ9, "max", "(II)I"⟩
def RJ10 : String := "java/lang/System"
def TJ10 : u_T := fun k => match k with
  | _ => ("", "", "", false)
def tyJ10 : Nat → FieldType := fun k => match k with
  | _ => .int
abbrev wsJ100 : List Cond := u_ws RJ10 TJ10 0
theorem nmJ10 : ∀ a, a < 0 → ∀ b, b < 0 → a ≠ b → (TJ10 a).2.1 ≠ (TJ10 b).2.1 := by decide +kernel
theorem tyJ10_ok : ∀ k, k < 0 → parseFieldDescriptor (TJ10 k).2.2.1 = some (tyJ10 k) := by decide +kernel
def RJ7 : String := "java/util/Arrays"
def TJ7 : u_T := fun k => match k with
  | _ => ("", "", "", false)
def tyJ7 : Nat → FieldType := fun k => match k with
  | _ => .int
abbrev wsJ70 : List Cond := u_ws RJ7 TJ7 0
theorem nmJ7 : ∀ a, a < 0 → ∀ b, b < 0 → a ≠ b → (TJ7 a).2.1 ≠ (TJ7 b).2.1 := by decide +kernel
theorem tyJ7_ok : ∀ k, k < 0 → parseFieldDescriptor (TJ7 k).2.2.1 = some (tyJ7 k) := by decide +kernel
abbrev cJ7_fill_53178 : ByteArray := prog_15_method_103_code
def yJ7_fill_53178 : MethodName := ⟨RJ7, "fill", "([II)V"⟩
def RL : String := "HarpPedalsLaw"
abbrev cL_law : ByteArray := code
def yL_law : MethodName := ⟨RL, "law", "([I)Z"⟩
def wsX0_init : List Cond := .code yX0_init cX0_init 1 none :: ([.methodLink RX0 3 objectInit, .instanceMethod objectInit, .code objectInit ⟨#[0xb1]⟩ 1 none])
def wsX7_toneAt : List Cond := .code yX7_toneAt cX7_toneAt 2 (some .int) :: ([.fieldLink RX7 26 "HarpPedals$Settings" "NATURAL_TONES" "[I"])
def wsX0_set : List Cond := .code yX0_set cX0_set 6 none :: ([.fieldLink RX0 9 "HarpPedals$Gap" "mostMoves" "I", .fieldLink RX0 15 "HarpPedals$Gap" "held" "I", .methodLink RX0 18 yX7_toneAt, .static yX7_toneAt, .initialized RX7, .code yX7_toneAt cX7_toneAt 2 (some .int), .fieldLink RX7 26 "HarpPedals$Settings" "NATURAL_TONES" "[I"] ++ wsX00)
def wsX0_holds : List Cond := .code yX0_holds cX0_holds 3 (some .boolean) :: ([.fieldLink RX0 15 "HarpPedals$Gap" "held" "I"] ++ wsX00)
def wsX7_positionAt : List Cond := .code yX7_positionAt cX7_positionAt 2 (some .int) :: ([])
def wsX0_movesBetween : List Cond := .code yX0_movesBetween cX0_movesBetween 7 (some .int) :: ([.fieldLink RX0 9 "HarpPedals$Gap" "mostMoves" "I", .methodLink RX0 24 yX7_positionAt, .static yX7_positionAt, .initialized RX7, .code yX7_positionAt cX7_positionAt 2 (some .int), .methodLink RX0 27 yX0_holds, .instanceMethod yX0_holds, .selects RX0 yX0_holds yX0_holds, .initialized RX0, .code yX0_holds cX0_holds 3 (some .boolean), .fieldLink RX0 15 "HarpPedals$Gap" "held" "I"] ++ wsX00)
def wsX1_init : List Cond := .code yX1_init cX1_init 1 none :: ([.methodLink RX1 3 objectInit, .instanceMethod objectInit, .code objectInit ⟨#[0xb1]⟩ 1 none, .arrayClass .int, .fieldLink RX1 9 "HarpPedals$Page" "codes" "[I"] ++ wsX10)
def wsX1_append : List Cond := .code yX1_append cX1_append 2 (some .boolean) :: ([.fieldLink RX1 15 "HarpPedals$Page" "size" "I", .fieldLink RX1 9 "HarpPedals$Page" "codes" "[I"] ++ wsX10)
def wsX1_clear : List Cond := .code yX1_clear cX1_clear 2 (some .int) :: ([.fieldLink RX1 15 "HarpPedals$Page" "size" "I"] ++ wsX10)
def wsX2_clear : List Cond := .code yX2_clear cX2_clear 1 none :: ([.fieldLink RX2 22 "HarpPedals$Part" "begin" "I", .fieldLink RX2 18 "HarpPedals$Part" "size" "I"] ++ wsX20)
def wsX5_restart : List Cond := .code yX5_restart cX5_restart 1 none :: ([.fieldLink RX5 12 "HarpPedals$Reader" "draft" "LHarpPedals$Part;", .fieldLink RX5 21 "HarpPedals$Reader" "lettersRead" "I", .fieldLink RX5 25 "HarpPedals$Reader" "kindIsDue" "Z", .methodLink RX5 18 yX2_clear, .instanceMethod yX2_clear, .selects RX2 yX2_clear yX2_clear, .initialized RX2, .code yX2_clear cX2_clear 1 none, .fieldLink RX2 22 "HarpPedals$Part" "begin" "I", .fieldLink RX2 18 "HarpPedals$Part" "size" "I"] ++ wsX50 ++ wsX20)
def wsX8_isPosition : List Cond := .code yX8_isPosition cX8_isPosition 1 (some .boolean) :: ([])
def wsX5_acceptPosition : List Cond := .code yX5_acceptPosition cX5_acceptPosition 3 (some .boolean) :: ([.fieldLink RX5 12 "HarpPedals$Reader" "draft" "LHarpPedals$Part;", .static yX8_isPosition, .initialized RX8, .code yX8_isPosition cX8_isPosition 1 (some .boolean)] ++ wsX50 ++ wsX20)
def wsX5_kindOf : List Cond := .code yX5_kindOf cX5_kindOf 1 (some .int) :: ([])
def wsX2_insert : List Cond := .code yX2_insert cX2_insert 5 (some .boolean) :: ([.fieldLink RX2 18 "HarpPedals$Part" "size" "I", .fieldLink RX2 9 "HarpPedals$Part" "kinds" "[I", .fieldLink RX2 15 "HarpPedals$Part" "tones" "[I"] ++ wsX20)
def wsX5_acceptKind : List Cond := .code yX5_acceptKind cX5_acceptKind 3 (some .boolean) :: ([.fieldLink RX5 25 "HarpPedals$Reader" "kindIsDue" "Z", .fieldLink RX5 12 "HarpPedals$Reader" "draft" "LHarpPedals$Part;", .methodLink RX5 52 yX5_kindOf, .static yX5_kindOf, .initialized RX5, .code yX5_kindOf cX5_kindOf 1 (some .int), .methodLink RX5 59 yX2_insert, .instanceMethod yX2_insert, .selects RX2 yX2_insert yX2_insert, .initialized RX2, .code yX2_insert cX2_insert 5 (some .boolean), .fieldLink RX2 18 "HarpPedals$Part" "size" "I", .fieldLink RX2 9 "HarpPedals$Part" "kinds" "[I", .fieldLink RX2 15 "HarpPedals$Part" "tones" "[I"] ++ wsX50 ++ wsX20)
def wsX2_tonesOfLast : List Cond := .code yX2_tonesOfLast cX2_tonesOfLast 1 (some .int) :: ([.fieldLink RX2 18 "HarpPedals$Part" "size" "I", .fieldLink RX2 15 "HarpPedals$Part" "tones" "[I"] ++ wsX20)
def wsJ6_bitCount_0f7a4 : List Cond := .code yJ6_bitCount_0f7a4 cJ6_bitCount_0f7a4 1 (some .int) :: ([.constant RJ6 265 (1431655765), .constant RJ6 266 (858993459), .constant RJ6 267 (252645135)])
def wsX2_addToLast : List Cond := .code yX2_addToLast cX2_addToLast 2 none :: ([.fieldLink RX2 18 "HarpPedals$Part" "size" "I", .fieldLink RX2 15 "HarpPedals$Part" "tones" "[I"] ++ wsX20)
def wsX5_acceptTone : List Cond := .code yX5_acceptTone cX5_acceptTone 4 (some .boolean) :: ([.fieldLink RX5 12 "HarpPedals$Reader" "draft" "LHarpPedals$Part;", .methodLink RX5 42 yX2_tonesOfLast, .instanceMethod yX2_tonesOfLast, .selects RX2 yX2_tonesOfLast yX2_tonesOfLast, .initialized RX2, .code yX2_tonesOfLast cX2_tonesOfLast 1 (some .int), .fieldLink RX2 18 "HarpPedals$Part" "size" "I", .fieldLink RX2 15 "HarpPedals$Part" "tones" "[I", .methodLink RX5 63 yJ6_bitCount_0f7a4, .static yJ6_bitCount_0f7a4, .initialized RJ6, .code yJ6_bitCount_0f7a4 cJ6_bitCount_0f7a4 1 (some .int), .constant RJ6 265 (1431655765), .constant RJ6 266 (858993459), .constant RJ6 267 (252645135), .methodLink RX5 68 yX2_addToLast, .instanceMethod yX2_addToLast, .selects RX2 yX2_addToLast yX2_addToLast, .code yX2_addToLast cX2_addToLast 2 none] ++ wsX50 ++ wsX20)
def wsX5_acceptComma : List Cond := .code yX5_acceptComma cX5_acceptComma 2 (some .boolean) :: ([.fieldLink RX5 12 "HarpPedals$Reader" "draft" "LHarpPedals$Part;", .fieldLink RX5 25 "HarpPedals$Reader" "kindIsDue" "Z", .methodLink RX5 42 yX2_tonesOfLast, .instanceMethod yX2_tonesOfLast, .selects RX2 yX2_tonesOfLast yX2_tonesOfLast, .initialized RX2, .code yX2_tonesOfLast cX2_tonesOfLast 1 (some .int), .fieldLink RX2 18 "HarpPedals$Part" "size" "I", .fieldLink RX2 15 "HarpPedals$Part" "tones" "[I"] ++ wsX50 ++ wsX20)
def wsX5_accept_r1 : List Cond := [Cond.fieldLink RX5 21 "HarpPedals$Reader" "lettersRead" "I", Cond.fieldLink RX5 25 "HarpPedals$Reader" "kindIsDue" "Z", Cond.methodLink RX5 29 yX5_acceptPosition, Cond.instanceMethod yX5_acceptPosition, Cond.selects RX5 yX5_acceptPosition yX5_acceptPosition, Cond.initialized RX5, Cond.code yX5_acceptPosition cX5_acceptPosition 3 (some .boolean), Cond.fieldLink RX5 12 "HarpPedals$Reader" "draft" "LHarpPedals$Part;", Cond.static yX8_isPosition, Cond.initialized RX8, Cond.code yX8_isPosition cX8_isPosition 1 (some .boolean), Cond.methodLink RX5 33 yX5_acceptKind, Cond.instanceMethod yX5_acceptKind, Cond.selects RX5 yX5_acceptKind yX5_acceptKind, Cond.code yX5_acceptKind cX5_acceptKind 3 (some .boolean), Cond.methodLink RX5 52 yX5_kindOf, Cond.static yX5_kindOf, Cond.code yX5_kindOf cX5_kindOf 1 (some .int), Cond.methodLink RX5 59 yX2_insert, Cond.instanceMethod yX2_insert, Cond.selects RX2 yX2_insert yX2_insert, Cond.initialized RX2, Cond.code yX2_insert cX2_insert 5 (some .boolean), Cond.fieldLink RX2 18 "HarpPedals$Part" "size" "I"]
def wsX5_accept_r2 : List Cond := [Cond.fieldLink RX2 9 "HarpPedals$Part" "kinds" "[I", Cond.fieldLink RX2 15 "HarpPedals$Part" "tones" "[I", Cond.methodLink RX5 36 yX5_acceptTone, Cond.instanceMethod yX5_acceptTone, Cond.selects RX5 yX5_acceptTone yX5_acceptTone, Cond.code yX5_acceptTone cX5_acceptTone 4 (some .boolean), Cond.methodLink RX5 42 yX2_tonesOfLast, Cond.instanceMethod yX2_tonesOfLast, Cond.selects RX2 yX2_tonesOfLast yX2_tonesOfLast, Cond.code yX2_tonesOfLast cX2_tonesOfLast 1 (some .int), Cond.methodLink RX5 63 yJ6_bitCount_0f7a4, Cond.static yJ6_bitCount_0f7a4, Cond.initialized RJ6, Cond.code yJ6_bitCount_0f7a4 cJ6_bitCount_0f7a4 1 (some .int), Cond.constant RJ6 265 (1431655765), Cond.constant RJ6 266 (858993459), Cond.constant RJ6 267 (252645135), Cond.methodLink RX5 68 yX2_addToLast, Cond.instanceMethod yX2_addToLast, Cond.selects RX2 yX2_addToLast yX2_addToLast, Cond.code yX2_addToLast cX2_addToLast 2 none, Cond.methodLink RX5 39 yX5_acceptComma, Cond.instanceMethod yX5_acceptComma, Cond.selects RX5 yX5_acceptComma yX5_acceptComma]
def wsX5_accept_r3 : List Cond := [Cond.code yX5_acceptComma cX5_acceptComma 2 (some .boolean)]
def wsX5_accept : List Cond := .code yX5_accept cX5_accept 3 (some .boolean) :: ((wsX5_accept_r1 ++ (wsX5_accept_r2 ++ wsX5_accept_r3)) ++ wsX50 ++ wsX20)
def wsX1_readBy_r1 : List Cond := [Cond.fieldLink RX1 15 "HarpPedals$Page" "size" "I", Cond.fieldLink RX1 9 "HarpPedals$Page" "codes" "[I", Cond.methodLink RX1 19 yX5_restart, Cond.instanceMethod yX5_restart, Cond.selects RX5 yX5_restart yX5_restart, Cond.initialized RX5, Cond.code yX5_restart cX5_restart 1 none, Cond.fieldLink RX5 12 "HarpPedals$Reader" "draft" "LHarpPedals$Part;", Cond.fieldLink RX5 21 "HarpPedals$Reader" "lettersRead" "I", Cond.fieldLink RX5 25 "HarpPedals$Reader" "kindIsDue" "Z", Cond.methodLink RX5 18 yX2_clear, Cond.instanceMethod yX2_clear, Cond.selects RX2 yX2_clear yX2_clear, Cond.initialized RX2, Cond.code yX2_clear cX2_clear 1 none, Cond.fieldLink RX2 22 "HarpPedals$Part" "begin" "I", Cond.fieldLink RX2 18 "HarpPedals$Part" "size" "I", Cond.methodLink RX1 24 yX5_accept, Cond.instanceMethod yX5_accept, Cond.selects RX5 yX5_accept yX5_accept, Cond.code yX5_accept cX5_accept 3 (some .boolean), Cond.methodLink RX5 29 yX5_acceptPosition, Cond.instanceMethod yX5_acceptPosition, Cond.selects RX5 yX5_acceptPosition yX5_acceptPosition]
def wsX1_readBy_r2 : List Cond := [Cond.code yX5_acceptPosition cX5_acceptPosition 3 (some .boolean), Cond.static yX8_isPosition, Cond.initialized RX8, Cond.code yX8_isPosition cX8_isPosition 1 (some .boolean), Cond.methodLink RX5 33 yX5_acceptKind, Cond.instanceMethod yX5_acceptKind, Cond.selects RX5 yX5_acceptKind yX5_acceptKind, Cond.code yX5_acceptKind cX5_acceptKind 3 (some .boolean), Cond.methodLink RX5 52 yX5_kindOf, Cond.static yX5_kindOf, Cond.code yX5_kindOf cX5_kindOf 1 (some .int), Cond.methodLink RX5 59 yX2_insert, Cond.instanceMethod yX2_insert, Cond.selects RX2 yX2_insert yX2_insert, Cond.code yX2_insert cX2_insert 5 (some .boolean), Cond.fieldLink RX2 9 "HarpPedals$Part" "kinds" "[I", Cond.fieldLink RX2 15 "HarpPedals$Part" "tones" "[I", Cond.methodLink RX5 36 yX5_acceptTone, Cond.instanceMethod yX5_acceptTone, Cond.selects RX5 yX5_acceptTone yX5_acceptTone, Cond.code yX5_acceptTone cX5_acceptTone 4 (some .boolean), Cond.methodLink RX5 42 yX2_tonesOfLast, Cond.instanceMethod yX2_tonesOfLast, Cond.selects RX2 yX2_tonesOfLast yX2_tonesOfLast]
def wsX1_readBy_r3 : List Cond := [Cond.code yX2_tonesOfLast cX2_tonesOfLast 1 (some .int), Cond.methodLink RX5 63 yJ6_bitCount_0f7a4, Cond.static yJ6_bitCount_0f7a4, Cond.initialized RJ6, Cond.code yJ6_bitCount_0f7a4 cJ6_bitCount_0f7a4 1 (some .int), Cond.constant RJ6 265 (1431655765), Cond.constant RJ6 266 (858993459), Cond.constant RJ6 267 (252645135), Cond.methodLink RX5 68 yX2_addToLast, Cond.instanceMethod yX2_addToLast, Cond.selects RX2 yX2_addToLast yX2_addToLast, Cond.code yX2_addToLast cX2_addToLast 2 none, Cond.methodLink RX5 39 yX5_acceptComma, Cond.instanceMethod yX5_acceptComma, Cond.selects RX5 yX5_acceptComma yX5_acceptComma, Cond.code yX5_acceptComma cX5_acceptComma 2 (some .boolean)]
def wsX1_readBy : List Cond := .code yX1_readBy cX1_readBy 3 (some .int) :: ((wsX1_readBy_r1 ++ (wsX1_readBy_r2 ++ wsX1_readBy_r3)) ++ wsX10 ++ wsX50 ++ wsX20)
def wsX2_init : List Cond := .code yX2_init cX2_init 1 none :: ([.methodLink RX2 3 objectInit, .instanceMethod objectInit, .code objectInit ⟨#[0xb1]⟩ 1 none, .arrayClass .int, .fieldLink RX2 9 "HarpPedals$Part" "kinds" "[I", .fieldLink RX2 15 "HarpPedals$Part" "tones" "[I"] ++ wsX20)
def wsX2_has : List Cond := .code yX2_has cX2_has 2 (some .boolean) :: ([.fieldLink RX2 18 "HarpPedals$Part" "size" "I"] ++ wsX20)
def wsX2_become : List Cond := .code yX2_become cX2_become 2 none :: ([.fieldLink RX2 22 "HarpPedals$Part" "begin" "I", .fieldLink RX2 18 "HarpPedals$Part" "size" "I", .fieldLink RX2 9 "HarpPedals$Part" "kinds" "[I", .methodLink RX2 25 arraycopyName, .native arraycopyName, .static arraycopyName, .initialized "java/lang/System", .fieldLink RX2 15 "HarpPedals$Part" "tones" "[I"] ++ wsX20)
def wsX2_remove : List Cond := .code yX2_remove cX2_remove 3 none :: ([.fieldLink RX2 18 "HarpPedals$Part" "size" "I", .fieldLink RX2 9 "HarpPedals$Part" "kinds" "[I", .fieldLink RX2 15 "HarpPedals$Part" "tones" "[I", .methodLink RX2 31 yX2_has, .instanceMethod yX2_has, .selects RX2 yX2_has yX2_has, .initialized RX2, .code yX2_has cX2_has 2 (some .boolean)] ++ wsX20)
def wsX2_exchange : List Cond := .code yX2_exchange cX2_exchange 5 none :: ([.fieldLink RX2 9 "HarpPedals$Part" "kinds" "[I", .fieldLink RX2 15 "HarpPedals$Part" "tones" "[I", .methodLink RX2 31 yX2_has, .instanceMethod yX2_has, .selects RX2 yX2_has yX2_has, .initialized RX2, .code yX2_has cX2_has 2 (some .boolean), .fieldLink RX2 18 "HarpPedals$Part" "size" "I"] ++ wsX20)
def wsX8_raised : List Cond := .code yX8_raised cX8_raised 2 (some .int) :: ([])
def wsX2_raise : List Cond := .code yX2_raise cX2_raise 3 none :: ([.fieldLink RX2 18 "HarpPedals$Part" "size" "I", .fieldLink RX2 15 "HarpPedals$Part" "tones" "[I", .static yX8_raised, .initialized RX8, .code yX8_raised cX8_raised 2 (some .int)] ++ wsX20)
def wsX2_tonesOfAll : List Cond := .code yX2_tonesOfAll cX2_tonesOfAll 3 (some .int) :: ([.fieldLink RX2 18 "HarpPedals$Part" "size" "I", .fieldLink RX2 15 "HarpPedals$Part" "tones" "[I"] ++ wsX20)
def wsX3_init : List Cond := .code yX3_init cX3_init 2 none :: ([.methodLink RX3 5 objectInit, .instanceMethod objectInit, .code objectInit ⟨#[0xb1]⟩ 1 none, .classLink RX3 11 RX0, .instantiable RX0 2, .initialized RX0, .fieldLink RX3 14 "HarpPedals$Planner" "gap" "LHarpPedals$Gap;", .arrayClass .int, .fieldLink RX3 18 "HarpPedals$Planner" "oneRow" "[I", .fieldLink RX3 22 "HarpPedals$Planner" "otherRow" "[I", .fieldLink RX3 25 "HarpPedals$Planner" "halfway" "[I", .classLink RX3 28 "[[I", .fieldLink RX3 30 "HarpPedals$Planner" "onward" "[[I", .fieldLink RX3 33 "HarpPedals$Planner" "reached" "[I", .fieldLink RX3 36 "HarpPedals$Planner" "best" "[I", .fieldLink RX3 39 "HarpPedals$Planner" "shiftOfScore" "I", .fieldLink RX3 43 "HarpPedals$Planner" "settings" "LHarpPedals$Settings;", .instanceMethod yX0_init, .code yX0_init cX0_init 1 none, .methodLink RX0 3 objectInit] ++ wsX00 ++ wsX30)
def wsX3_makeStale : List Cond := .code yX3_makeStale cX3_makeStale 1 none :: ([.fieldLink RX3 39 "HarpPedals$Planner" "shiftOfScore" "I", .fieldLink RX3 47 "HarpPedals$Planner" "bestIsKnown" "Z"] ++ wsX30)
def wsJ7_fill_53178 : List Cond := .code yJ7_fill_53178 cJ7_fill_53178 4 none :: ([])
def wsX7_isSetting : List Cond := .code yX7_isSetting cX7_isSetting 1 (some .boolean) :: ([])
def wsX8_isHeld : List Cond := .code yX8_isHeld cX8_isHeld 1 (some .boolean) :: ([])
def wsX3_setGapAheadOf : List Cond := .code yX3_setGapAheadOf cX3_setGapAheadOf 5 none :: ([.fieldLink RX3 14 "HarpPedals$Planner" "gap" "LHarpPedals$Gap;", .static yX8_isHeld, .initialized RX8, .code yX8_isHeld cX8_isHeld 1 (some .boolean), .static yX8_raised, .code yX8_raised cX8_raised 2 (some .int), .methodLink RX3 140 yX0_set, .instanceMethod yX0_set, .selects RX0 yX0_set yX0_set, .initialized RX0, .code yX0_set cX0_set 6 none, .fieldLink RX0 9 "HarpPedals$Gap" "mostMoves" "I", .fieldLink RX0 15 "HarpPedals$Gap" "held" "I", .methodLink RX0 18 yX7_toneAt, .static yX7_toneAt, .initialized RX7, .code yX7_toneAt cX7_toneAt 2 (some .int), .fieldLink RX7 26 "HarpPedals$Settings" "NATURAL_TONES" "[I"] ++ wsX20 ++ wsX30 ++ wsX00)
def wsX3_joined : List Cond := .code yX3_joined cX3_joined 3 (some .int) :: ([.constant RX3 59 (1048575), .constant RX3 175 (1000003), .constant RX3 176 (-1048576)])
def wsX3_spreadByRight : List Cond := .code yX3_spreadByRight cX3_spreadByRight 9 none :: ([.constant RX3 58 (1073741824), .constant RX3 161 (1048576), .fieldLink RX3 14 "HarpPedals$Planner" "gap" "LHarpPedals$Gap;", .fieldLink RX3 25 "HarpPedals$Planner" "halfway" "[I", .methodLink RX3 162 yX7_positionAt, .static yX7_positionAt, .initialized RX7, .code yX7_positionAt cX7_positionAt 2 (some .int), .methodLink RX3 165 yX0_holds, .instanceMethod yX0_holds, .selects RX0 yX0_holds yX0_holds, .initialized RX0, .code yX0_holds cX0_holds 3 (some .boolean), .fieldLink RX0 15 "HarpPedals$Gap" "held" "I", .methodLink RX3 172 yX3_joined, .static yX3_joined, .initialized RX3, .code yX3_joined cX3_joined 3 (some .int), .constant RX3 59 (1048575), .constant RX3 175 (1000003), .constant RX3 176 (-1048576)] ++ wsX30 ++ wsX00)
def wsX7_fits : List Cond := .code yX7_fits cX7_fits 5 (some .boolean) :: ([.fieldLink RX7 9 "HarpPedals$Settings" "tonesOf" "[I"] ++ wsX70)
def wsX3_gathered : List Cond := .code yX3_gathered cX3_gathered 10 (some .int) :: ([.fieldLink RX3 14 "HarpPedals$Planner" "gap" "LHarpPedals$Gap;", .constant RX3 58 (1073741824), .constant RX3 161 (1048576), .methodLink RX3 162 yX7_positionAt, .static yX7_positionAt, .initialized RX7, .code yX7_positionAt cX7_positionAt 2 (some .int), .methodLink RX3 165 yX0_holds, .instanceMethod yX0_holds, .selects RX0 yX0_holds yX0_holds, .initialized RX0, .code yX0_holds cX0_holds 3 (some .boolean), .fieldLink RX0 15 "HarpPedals$Gap" "held" "I", .methodLink RX3 172 yX3_joined, .static yX3_joined, .initialized RX3, .code yX3_joined cX3_joined 3 (some .int), .constant RX3 59 (1048575), .constant RX3 175 (1000003), .constant RX3 176 (-1048576)] ++ wsX30 ++ wsX00)
def wsX3_cross_r1 : List Cond := [Cond.fieldLink RX3 14 "HarpPedals$Planner" "gap" "LHarpPedals$Gap;", Cond.fieldLink RX3 25 "HarpPedals$Planner" "halfway" "[I", Cond.methodLink RX3 147 arraycopyName, Cond.native arraycopyName, Cond.static arraycopyName, Cond.initialized "java/lang/System", Cond.fieldLink RX3 43 "HarpPedals$Planner" "settings" "LHarpPedals$Settings;", Cond.constant RX3 58 (1073741824), Cond.methodLink RX3 153 yX3_spreadByRight, Cond.instanceMethod yX3_spreadByRight, Cond.selects RX3 yX3_spreadByRight yX3_spreadByRight, Cond.initialized RX3, Cond.code yX3_spreadByRight cX3_spreadByRight 9 none, Cond.constant RX3 161 (1048576), Cond.methodLink RX3 162 yX7_positionAt, Cond.static yX7_positionAt, Cond.initialized RX7, Cond.code yX7_positionAt cX7_positionAt 2 (some .int), Cond.methodLink RX3 165 yX0_holds, Cond.instanceMethod yX0_holds, Cond.selects RX0 yX0_holds yX0_holds, Cond.initialized RX0, Cond.code yX0_holds cX0_holds 3 (some .boolean), Cond.fieldLink RX0 15 "HarpPedals$Gap" "held" "I"]
def wsX3_cross_r2 : List Cond := [Cond.methodLink RX3 172 yX3_joined, Cond.static yX3_joined, Cond.code yX3_joined cX3_joined 3 (some .int), Cond.constant RX3 59 (1048575), Cond.constant RX3 175 (1000003), Cond.constant RX3 176 (-1048576), Cond.methodLink RX3 126 yX7_fits, Cond.instanceMethod yX7_fits, Cond.selects RX7 yX7_fits yX7_fits, Cond.code yX7_fits cX7_fits 5 (some .boolean), Cond.fieldLink RX7 9 "HarpPedals$Settings" "tonesOf" "[I", Cond.methodLink RX3 157 yX3_gathered, Cond.instanceMethod yX3_gathered, Cond.selects RX3 yX3_gathered yX3_gathered, Cond.code yX3_gathered cX3_gathered 10 (some .int)]
def wsX3_cross : List Cond := .code yX3_cross cX3_cross 11 none :: ((wsX3_cross_r1 ++ wsX3_cross_r2) ++ wsX30 ++ wsX00 ++ wsX70)
def wsX3_howManyScored : List Cond := .code yX3_howManyScored cX3_howManyScored 3 (some .int) :: ([.constant RX3 58 (1073741824)])
def wsX3_bestScore : List Cond := .code yX3_bestScore cX3_bestScore 3 (some .int) :: ([.constant RX3 58 (1073741824), .methodLink RX3 172 yX3_joined, .static yX3_joined, .initialized RX3, .code yX3_joined cX3_joined 3 (some .int), .constant RX3 59 (1048575), .constant RX3 175 (1000003), .constant RX3 176 (-1048576)])
def wsX3_goForward_r1 : List Cond := [Cond.fieldLink RX3 39 "HarpPedals$Planner" "shiftOfScore" "I", Cond.fieldLink RX3 18 "HarpPedals$Planner" "oneRow" "[I", Cond.fieldLink RX3 22 "HarpPedals$Planner" "otherRow" "[I", Cond.constant RX3 58 (1073741824), Cond.fieldLink RX3 33 "HarpPedals$Planner" "reached" "[I", Cond.fieldLink RX3 55 "HarpPedals$Planner" "score" "I", Cond.methodLink RX3 82 yJ7_fill_53178, Cond.static yJ7_fill_53178, Cond.initialized RJ7, Cond.code yJ7_fill_53178 cJ7_fill_53178 4 none, Cond.methodLink RX3 89 yX7_isSetting, Cond.static yX7_isSetting, Cond.initialized RX7, Cond.code yX7_isSetting cX7_isSetting 1 (some .boolean), Cond.methodLink RX3 92 yX3_setGapAheadOf, Cond.instanceMethod yX3_setGapAheadOf, Cond.selects RX3 yX3_setGapAheadOf yX3_setGapAheadOf, Cond.initialized RX3, Cond.code yX3_setGapAheadOf cX3_setGapAheadOf 5 none, Cond.fieldLink RX3 14 "HarpPedals$Planner" "gap" "LHarpPedals$Gap;", Cond.static yX8_isHeld, Cond.initialized RX8, Cond.code yX8_isHeld cX8_isHeld 1 (some .boolean), Cond.static yX8_raised]
def wsX3_goForward_r2 : List Cond := [Cond.code yX8_raised cX8_raised 2 (some .int), Cond.methodLink RX3 140 yX0_set, Cond.instanceMethod yX0_set, Cond.selects RX0 yX0_set yX0_set, Cond.initialized RX0, Cond.code yX0_set cX0_set 6 none, Cond.fieldLink RX0 9 "HarpPedals$Gap" "mostMoves" "I", Cond.fieldLink RX0 15 "HarpPedals$Gap" "held" "I", Cond.methodLink RX0 18 yX7_toneAt, Cond.static yX7_toneAt, Cond.code yX7_toneAt cX7_toneAt 2 (some .int), Cond.fieldLink RX7 26 "HarpPedals$Settings" "NATURAL_TONES" "[I", Cond.methodLink RX3 106 yX3_cross, Cond.instanceMethod yX3_cross, Cond.selects RX3 yX3_cross yX3_cross, Cond.code yX3_cross cX3_cross 11 none, Cond.fieldLink RX3 25 "HarpPedals$Planner" "halfway" "[I", Cond.methodLink RX3 147 arraycopyName, Cond.native arraycopyName, Cond.static arraycopyName, Cond.initialized "java/lang/System", Cond.fieldLink RX3 43 "HarpPedals$Planner" "settings" "LHarpPedals$Settings;", Cond.methodLink RX3 153 yX3_spreadByRight, Cond.instanceMethod yX3_spreadByRight]
def wsX3_goForward_r3 : List Cond := [Cond.selects RX3 yX3_spreadByRight yX3_spreadByRight, Cond.code yX3_spreadByRight cX3_spreadByRight 9 none, Cond.constant RX3 161 (1048576), Cond.methodLink RX3 162 yX7_positionAt, Cond.static yX7_positionAt, Cond.code yX7_positionAt cX7_positionAt 2 (some .int), Cond.methodLink RX3 165 yX0_holds, Cond.instanceMethod yX0_holds, Cond.selects RX0 yX0_holds yX0_holds, Cond.code yX0_holds cX0_holds 3 (some .boolean), Cond.methodLink RX3 172 yX3_joined, Cond.static yX3_joined, Cond.code yX3_joined cX3_joined 3 (some .int), Cond.constant RX3 59 (1048575), Cond.constant RX3 175 (1000003), Cond.constant RX3 176 (-1048576), Cond.methodLink RX3 126 yX7_fits, Cond.instanceMethod yX7_fits, Cond.selects RX7 yX7_fits yX7_fits, Cond.code yX7_fits cX7_fits 5 (some .boolean), Cond.fieldLink RX7 9 "HarpPedals$Settings" "tonesOf" "[I", Cond.methodLink RX3 157 yX3_gathered, Cond.instanceMethod yX3_gathered, Cond.selects RX3 yX3_gathered yX3_gathered]
def wsX3_goForward_r4 : List Cond := [Cond.code yX3_gathered cX3_gathered 10 (some .int), Cond.methodLink RX3 110 yX3_howManyScored, Cond.static yX3_howManyScored, Cond.code yX3_howManyScored cX3_howManyScored 3 (some .int), Cond.methodLink RX3 114 yX3_bestScore, Cond.static yX3_bestScore, Cond.code yX3_bestScore cX3_bestScore 3 (some .int)]
def wsX3_goForward : List Cond := .code yX3_goForward cX3_goForward 7 none :: ((wsX3_goForward_r1 ++ (wsX3_goForward_r2 ++ (wsX3_goForward_r3 ++ wsX3_goForward_r4))) ++ wsX30 ++ wsX20 ++ wsX00 ++ wsX70)
def wsX3_fewest_r1 : List Cond := [Cond.fieldLink RX3 55 "HarpPedals$Planner" "score" "I", Cond.constant RX3 58 (1073741824), Cond.methodLink RX3 51 yX3_goForward, Cond.instanceMethod yX3_goForward, Cond.selects RX3 yX3_goForward yX3_goForward, Cond.initialized RX3, Cond.code yX3_goForward cX3_goForward 7 none, Cond.fieldLink RX3 39 "HarpPedals$Planner" "shiftOfScore" "I", Cond.fieldLink RX3 18 "HarpPedals$Planner" "oneRow" "[I", Cond.fieldLink RX3 22 "HarpPedals$Planner" "otherRow" "[I", Cond.fieldLink RX3 33 "HarpPedals$Planner" "reached" "[I", Cond.methodLink RX3 82 yJ7_fill_53178, Cond.static yJ7_fill_53178, Cond.initialized RJ7, Cond.code yJ7_fill_53178 cJ7_fill_53178 4 none, Cond.methodLink RX3 89 yX7_isSetting, Cond.static yX7_isSetting, Cond.initialized RX7, Cond.code yX7_isSetting cX7_isSetting 1 (some .boolean), Cond.methodLink RX3 92 yX3_setGapAheadOf, Cond.instanceMethod yX3_setGapAheadOf, Cond.selects RX3 yX3_setGapAheadOf yX3_setGapAheadOf, Cond.code yX3_setGapAheadOf cX3_setGapAheadOf 5 none, Cond.fieldLink RX3 14 "HarpPedals$Planner" "gap" "LHarpPedals$Gap;"]
def wsX3_fewest_r2 : List Cond := [Cond.static yX8_isHeld, Cond.initialized RX8, Cond.code yX8_isHeld cX8_isHeld 1 (some .boolean), Cond.static yX8_raised, Cond.code yX8_raised cX8_raised 2 (some .int), Cond.methodLink RX3 140 yX0_set, Cond.instanceMethod yX0_set, Cond.selects RX0 yX0_set yX0_set, Cond.initialized RX0, Cond.code yX0_set cX0_set 6 none, Cond.fieldLink RX0 9 "HarpPedals$Gap" "mostMoves" "I", Cond.fieldLink RX0 15 "HarpPedals$Gap" "held" "I", Cond.methodLink RX0 18 yX7_toneAt, Cond.static yX7_toneAt, Cond.code yX7_toneAt cX7_toneAt 2 (some .int), Cond.fieldLink RX7 26 "HarpPedals$Settings" "NATURAL_TONES" "[I", Cond.methodLink RX3 106 yX3_cross, Cond.instanceMethod yX3_cross, Cond.selects RX3 yX3_cross yX3_cross, Cond.code yX3_cross cX3_cross 11 none, Cond.fieldLink RX3 25 "HarpPedals$Planner" "halfway" "[I", Cond.methodLink RX3 147 arraycopyName, Cond.native arraycopyName, Cond.static arraycopyName]
def wsX3_fewest_r3 : List Cond := [Cond.initialized "java/lang/System", Cond.fieldLink RX3 43 "HarpPedals$Planner" "settings" "LHarpPedals$Settings;", Cond.methodLink RX3 153 yX3_spreadByRight, Cond.instanceMethod yX3_spreadByRight, Cond.selects RX3 yX3_spreadByRight yX3_spreadByRight, Cond.code yX3_spreadByRight cX3_spreadByRight 9 none, Cond.constant RX3 161 (1048576), Cond.methodLink RX3 162 yX7_positionAt, Cond.static yX7_positionAt, Cond.code yX7_positionAt cX7_positionAt 2 (some .int), Cond.methodLink RX3 165 yX0_holds, Cond.instanceMethod yX0_holds, Cond.selects RX0 yX0_holds yX0_holds, Cond.code yX0_holds cX0_holds 3 (some .boolean), Cond.methodLink RX3 172 yX3_joined, Cond.static yX3_joined, Cond.code yX3_joined cX3_joined 3 (some .int), Cond.constant RX3 59 (1048575), Cond.constant RX3 175 (1000003), Cond.constant RX3 176 (-1048576), Cond.methodLink RX3 126 yX7_fits, Cond.instanceMethod yX7_fits, Cond.selects RX7 yX7_fits yX7_fits, Cond.code yX7_fits cX7_fits 5 (some .boolean)]
def wsX3_fewest_r4 : List Cond := [Cond.fieldLink RX7 9 "HarpPedals$Settings" "tonesOf" "[I", Cond.methodLink RX3 157 yX3_gathered, Cond.instanceMethod yX3_gathered, Cond.selects RX3 yX3_gathered yX3_gathered, Cond.code yX3_gathered cX3_gathered 10 (some .int), Cond.methodLink RX3 110 yX3_howManyScored, Cond.static yX3_howManyScored, Cond.code yX3_howManyScored cX3_howManyScored 3 (some .int), Cond.methodLink RX3 114 yX3_bestScore, Cond.static yX3_bestScore, Cond.code yX3_bestScore cX3_bestScore 3 (some .int)]
def wsX3_fewest : List Cond := .code yX3_fewest cX3_fewest 3 (some .int) :: ((wsX3_fewest_r1 ++ (wsX3_fewest_r2 ++ (wsX3_fewest_r3 ++ wsX3_fewest_r4))) ++ wsX30 ++ wsX20 ++ wsX00 ++ wsX70)
def wsX3_ways_r1 : List Cond := [Cond.fieldLink RX3 55 "HarpPedals$Planner" "score" "I", Cond.constant RX3 58 (1073741824), Cond.constant RX3 59 (1048575), Cond.methodLink RX3 51 yX3_goForward, Cond.instanceMethod yX3_goForward, Cond.selects RX3 yX3_goForward yX3_goForward, Cond.initialized RX3, Cond.code yX3_goForward cX3_goForward 7 none, Cond.fieldLink RX3 39 "HarpPedals$Planner" "shiftOfScore" "I", Cond.fieldLink RX3 18 "HarpPedals$Planner" "oneRow" "[I", Cond.fieldLink RX3 22 "HarpPedals$Planner" "otherRow" "[I", Cond.fieldLink RX3 33 "HarpPedals$Planner" "reached" "[I", Cond.methodLink RX3 82 yJ7_fill_53178, Cond.static yJ7_fill_53178, Cond.initialized RJ7, Cond.code yJ7_fill_53178 cJ7_fill_53178 4 none, Cond.methodLink RX3 89 yX7_isSetting, Cond.static yX7_isSetting, Cond.initialized RX7, Cond.code yX7_isSetting cX7_isSetting 1 (some .boolean), Cond.methodLink RX3 92 yX3_setGapAheadOf, Cond.instanceMethod yX3_setGapAheadOf, Cond.selects RX3 yX3_setGapAheadOf yX3_setGapAheadOf, Cond.code yX3_setGapAheadOf cX3_setGapAheadOf 5 none]
def wsX3_ways_r2 : List Cond := [Cond.fieldLink RX3 14 "HarpPedals$Planner" "gap" "LHarpPedals$Gap;", Cond.static yX8_isHeld, Cond.initialized RX8, Cond.code yX8_isHeld cX8_isHeld 1 (some .boolean), Cond.static yX8_raised, Cond.code yX8_raised cX8_raised 2 (some .int), Cond.methodLink RX3 140 yX0_set, Cond.instanceMethod yX0_set, Cond.selects RX0 yX0_set yX0_set, Cond.initialized RX0, Cond.code yX0_set cX0_set 6 none, Cond.fieldLink RX0 9 "HarpPedals$Gap" "mostMoves" "I", Cond.fieldLink RX0 15 "HarpPedals$Gap" "held" "I", Cond.methodLink RX0 18 yX7_toneAt, Cond.static yX7_toneAt, Cond.code yX7_toneAt cX7_toneAt 2 (some .int), Cond.fieldLink RX7 26 "HarpPedals$Settings" "NATURAL_TONES" "[I", Cond.methodLink RX3 106 yX3_cross, Cond.instanceMethod yX3_cross, Cond.selects RX3 yX3_cross yX3_cross, Cond.code yX3_cross cX3_cross 11 none, Cond.fieldLink RX3 25 "HarpPedals$Planner" "halfway" "[I", Cond.methodLink RX3 147 arraycopyName, Cond.native arraycopyName]
def wsX3_ways_r3 : List Cond := [Cond.static arraycopyName, Cond.initialized "java/lang/System", Cond.fieldLink RX3 43 "HarpPedals$Planner" "settings" "LHarpPedals$Settings;", Cond.methodLink RX3 153 yX3_spreadByRight, Cond.instanceMethod yX3_spreadByRight, Cond.selects RX3 yX3_spreadByRight yX3_spreadByRight, Cond.code yX3_spreadByRight cX3_spreadByRight 9 none, Cond.constant RX3 161 (1048576), Cond.methodLink RX3 162 yX7_positionAt, Cond.static yX7_positionAt, Cond.code yX7_positionAt cX7_positionAt 2 (some .int), Cond.methodLink RX3 165 yX0_holds, Cond.instanceMethod yX0_holds, Cond.selects RX0 yX0_holds yX0_holds, Cond.code yX0_holds cX0_holds 3 (some .boolean), Cond.methodLink RX3 172 yX3_joined, Cond.static yX3_joined, Cond.code yX3_joined cX3_joined 3 (some .int), Cond.constant RX3 175 (1000003), Cond.constant RX3 176 (-1048576), Cond.methodLink RX3 126 yX7_fits, Cond.instanceMethod yX7_fits, Cond.selects RX7 yX7_fits yX7_fits, Cond.code yX7_fits cX7_fits 5 (some .boolean)]
def wsX3_ways_r4 : List Cond := [Cond.fieldLink RX7 9 "HarpPedals$Settings" "tonesOf" "[I", Cond.methodLink RX3 157 yX3_gathered, Cond.instanceMethod yX3_gathered, Cond.selects RX3 yX3_gathered yX3_gathered, Cond.code yX3_gathered cX3_gathered 10 (some .int), Cond.methodLink RX3 110 yX3_howManyScored, Cond.static yX3_howManyScored, Cond.code yX3_howManyScored cX3_howManyScored 3 (some .int), Cond.methodLink RX3 114 yX3_bestScore, Cond.static yX3_bestScore, Cond.code yX3_bestScore cX3_bestScore 3 (some .int)]
def wsX3_ways : List Cond := .code yX3_ways cX3_ways 2 (some .int) :: ((wsX3_ways_r1 ++ (wsX3_ways_r2 ++ (wsX3_ways_r3 ++ wsX3_ways_r4))) ++ wsX30 ++ wsX20 ++ wsX00 ++ wsX70)
def wsX3_stuckAt_r1 : List Cond := [Cond.fieldLink RX3 33 "HarpPedals$Planner" "reached" "[I", Cond.methodLink RX3 51 yX3_goForward, Cond.instanceMethod yX3_goForward, Cond.selects RX3 yX3_goForward yX3_goForward, Cond.initialized RX3, Cond.code yX3_goForward cX3_goForward 7 none, Cond.fieldLink RX3 39 "HarpPedals$Planner" "shiftOfScore" "I", Cond.fieldLink RX3 18 "HarpPedals$Planner" "oneRow" "[I", Cond.fieldLink RX3 22 "HarpPedals$Planner" "otherRow" "[I", Cond.constant RX3 58 (1073741824), Cond.fieldLink RX3 55 "HarpPedals$Planner" "score" "I", Cond.methodLink RX3 82 yJ7_fill_53178, Cond.static yJ7_fill_53178, Cond.initialized RJ7, Cond.code yJ7_fill_53178 cJ7_fill_53178 4 none, Cond.methodLink RX3 89 yX7_isSetting, Cond.static yX7_isSetting, Cond.initialized RX7, Cond.code yX7_isSetting cX7_isSetting 1 (some .boolean), Cond.methodLink RX3 92 yX3_setGapAheadOf, Cond.instanceMethod yX3_setGapAheadOf, Cond.selects RX3 yX3_setGapAheadOf yX3_setGapAheadOf, Cond.code yX3_setGapAheadOf cX3_setGapAheadOf 5 none, Cond.fieldLink RX3 14 "HarpPedals$Planner" "gap" "LHarpPedals$Gap;"]
def wsX3_stuckAt_r2 : List Cond := [Cond.static yX8_isHeld, Cond.initialized RX8, Cond.code yX8_isHeld cX8_isHeld 1 (some .boolean), Cond.static yX8_raised, Cond.code yX8_raised cX8_raised 2 (some .int), Cond.methodLink RX3 140 yX0_set, Cond.instanceMethod yX0_set, Cond.selects RX0 yX0_set yX0_set, Cond.initialized RX0, Cond.code yX0_set cX0_set 6 none, Cond.fieldLink RX0 9 "HarpPedals$Gap" "mostMoves" "I", Cond.fieldLink RX0 15 "HarpPedals$Gap" "held" "I", Cond.methodLink RX0 18 yX7_toneAt, Cond.static yX7_toneAt, Cond.code yX7_toneAt cX7_toneAt 2 (some .int), Cond.fieldLink RX7 26 "HarpPedals$Settings" "NATURAL_TONES" "[I", Cond.methodLink RX3 106 yX3_cross, Cond.instanceMethod yX3_cross, Cond.selects RX3 yX3_cross yX3_cross, Cond.code yX3_cross cX3_cross 11 none, Cond.fieldLink RX3 25 "HarpPedals$Planner" "halfway" "[I", Cond.methodLink RX3 147 arraycopyName, Cond.native arraycopyName, Cond.static arraycopyName]
def wsX3_stuckAt_r3 : List Cond := [Cond.initialized "java/lang/System", Cond.fieldLink RX3 43 "HarpPedals$Planner" "settings" "LHarpPedals$Settings;", Cond.methodLink RX3 153 yX3_spreadByRight, Cond.instanceMethod yX3_spreadByRight, Cond.selects RX3 yX3_spreadByRight yX3_spreadByRight, Cond.code yX3_spreadByRight cX3_spreadByRight 9 none, Cond.constant RX3 161 (1048576), Cond.methodLink RX3 162 yX7_positionAt, Cond.static yX7_positionAt, Cond.code yX7_positionAt cX7_positionAt 2 (some .int), Cond.methodLink RX3 165 yX0_holds, Cond.instanceMethod yX0_holds, Cond.selects RX0 yX0_holds yX0_holds, Cond.code yX0_holds cX0_holds 3 (some .boolean), Cond.methodLink RX3 172 yX3_joined, Cond.static yX3_joined, Cond.code yX3_joined cX3_joined 3 (some .int), Cond.constant RX3 59 (1048575), Cond.constant RX3 175 (1000003), Cond.constant RX3 176 (-1048576), Cond.methodLink RX3 126 yX7_fits, Cond.instanceMethod yX7_fits, Cond.selects RX7 yX7_fits yX7_fits, Cond.code yX7_fits cX7_fits 5 (some .boolean)]
def wsX3_stuckAt_r4 : List Cond := [Cond.fieldLink RX7 9 "HarpPedals$Settings" "tonesOf" "[I", Cond.methodLink RX3 157 yX3_gathered, Cond.instanceMethod yX3_gathered, Cond.selects RX3 yX3_gathered yX3_gathered, Cond.code yX3_gathered cX3_gathered 10 (some .int), Cond.methodLink RX3 110 yX3_howManyScored, Cond.static yX3_howManyScored, Cond.code yX3_howManyScored cX3_howManyScored 3 (some .int), Cond.methodLink RX3 114 yX3_bestScore, Cond.static yX3_bestScore, Cond.code yX3_bestScore cX3_bestScore 3 (some .int)]
def wsX3_stuckAt : List Cond := .code yX3_stuckAt cX3_stuckAt 3 (some .int) :: ((wsX3_stuckAt_r1 ++ (wsX3_stuckAt_r2 ++ (wsX3_stuckAt_r3 ++ wsX3_stuckAt_r4))) ++ wsX20 ++ wsX30 ++ wsX00 ++ wsX70)
def wsX3_howManyReached_r1 : List Cond := [Cond.fieldLink RX3 33 "HarpPedals$Planner" "reached" "[I", Cond.methodLink RX3 51 yX3_goForward, Cond.instanceMethod yX3_goForward, Cond.selects RX3 yX3_goForward yX3_goForward, Cond.initialized RX3, Cond.code yX3_goForward cX3_goForward 7 none, Cond.fieldLink RX3 39 "HarpPedals$Planner" "shiftOfScore" "I", Cond.fieldLink RX3 18 "HarpPedals$Planner" "oneRow" "[I", Cond.fieldLink RX3 22 "HarpPedals$Planner" "otherRow" "[I", Cond.constant RX3 58 (1073741824), Cond.fieldLink RX3 55 "HarpPedals$Planner" "score" "I", Cond.methodLink RX3 82 yJ7_fill_53178, Cond.static yJ7_fill_53178, Cond.initialized RJ7, Cond.code yJ7_fill_53178 cJ7_fill_53178 4 none, Cond.methodLink RX3 89 yX7_isSetting, Cond.static yX7_isSetting, Cond.initialized RX7, Cond.code yX7_isSetting cX7_isSetting 1 (some .boolean), Cond.methodLink RX3 92 yX3_setGapAheadOf, Cond.instanceMethod yX3_setGapAheadOf, Cond.selects RX3 yX3_setGapAheadOf yX3_setGapAheadOf, Cond.code yX3_setGapAheadOf cX3_setGapAheadOf 5 none, Cond.fieldLink RX3 14 "HarpPedals$Planner" "gap" "LHarpPedals$Gap;"]
def wsX3_howManyReached_r2 : List Cond := [Cond.static yX8_isHeld, Cond.initialized RX8, Cond.code yX8_isHeld cX8_isHeld 1 (some .boolean), Cond.static yX8_raised, Cond.code yX8_raised cX8_raised 2 (some .int), Cond.methodLink RX3 140 yX0_set, Cond.instanceMethod yX0_set, Cond.selects RX0 yX0_set yX0_set, Cond.initialized RX0, Cond.code yX0_set cX0_set 6 none, Cond.fieldLink RX0 9 "HarpPedals$Gap" "mostMoves" "I", Cond.fieldLink RX0 15 "HarpPedals$Gap" "held" "I", Cond.methodLink RX0 18 yX7_toneAt, Cond.static yX7_toneAt, Cond.code yX7_toneAt cX7_toneAt 2 (some .int), Cond.fieldLink RX7 26 "HarpPedals$Settings" "NATURAL_TONES" "[I", Cond.methodLink RX3 106 yX3_cross, Cond.instanceMethod yX3_cross, Cond.selects RX3 yX3_cross yX3_cross, Cond.code yX3_cross cX3_cross 11 none, Cond.fieldLink RX3 25 "HarpPedals$Planner" "halfway" "[I", Cond.methodLink RX3 147 arraycopyName, Cond.native arraycopyName, Cond.static arraycopyName]
def wsX3_howManyReached_r3 : List Cond := [Cond.initialized "java/lang/System", Cond.fieldLink RX3 43 "HarpPedals$Planner" "settings" "LHarpPedals$Settings;", Cond.methodLink RX3 153 yX3_spreadByRight, Cond.instanceMethod yX3_spreadByRight, Cond.selects RX3 yX3_spreadByRight yX3_spreadByRight, Cond.code yX3_spreadByRight cX3_spreadByRight 9 none, Cond.constant RX3 161 (1048576), Cond.methodLink RX3 162 yX7_positionAt, Cond.static yX7_positionAt, Cond.code yX7_positionAt cX7_positionAt 2 (some .int), Cond.methodLink RX3 165 yX0_holds, Cond.instanceMethod yX0_holds, Cond.selects RX0 yX0_holds yX0_holds, Cond.code yX0_holds cX0_holds 3 (some .boolean), Cond.methodLink RX3 172 yX3_joined, Cond.static yX3_joined, Cond.code yX3_joined cX3_joined 3 (some .int), Cond.constant RX3 59 (1048575), Cond.constant RX3 175 (1000003), Cond.constant RX3 176 (-1048576), Cond.methodLink RX3 126 yX7_fits, Cond.instanceMethod yX7_fits, Cond.selects RX7 yX7_fits yX7_fits, Cond.code yX7_fits cX7_fits 5 (some .boolean)]
def wsX3_howManyReached_r4 : List Cond := [Cond.fieldLink RX7 9 "HarpPedals$Settings" "tonesOf" "[I", Cond.methodLink RX3 157 yX3_gathered, Cond.instanceMethod yX3_gathered, Cond.selects RX3 yX3_gathered yX3_gathered, Cond.code yX3_gathered cX3_gathered 10 (some .int), Cond.methodLink RX3 110 yX3_howManyScored, Cond.static yX3_howManyScored, Cond.code yX3_howManyScored cX3_howManyScored 3 (some .int), Cond.methodLink RX3 114 yX3_bestScore, Cond.static yX3_bestScore, Cond.code yX3_bestScore cX3_bestScore 3 (some .int), Cond.methodLink RX3 65 yX2_has, Cond.instanceMethod yX2_has, Cond.selects RX2 yX2_has yX2_has, Cond.initialized RX2, Cond.code yX2_has cX2_has 2 (some .boolean), Cond.fieldLink RX2 18 "HarpPedals$Part" "size" "I"]
def wsX3_howManyReached : List Cond := .code yX3_howManyReached cX3_howManyReached 3 (some .int) :: ((wsX3_howManyReached_r1 ++ (wsX3_howManyReached_r2 ++ (wsX3_howManyReached_r3 ++ wsX3_howManyReached_r4))) ++ wsX30 ++ wsX20 ++ wsX00 ++ wsX70)
def wsX3_goBackward_r1 : List Cond := [Cond.fieldLink RX3 43 "HarpPedals$Planner" "settings" "LHarpPedals$Settings;", Cond.fieldLink RX3 30 "HarpPedals$Planner" "onward" "[[I", Cond.constant RX3 58 (1073741824), Cond.methodLink RX3 126 yX7_fits, Cond.instanceMethod yX7_fits, Cond.selects RX7 yX7_fits yX7_fits, Cond.initialized RX7, Cond.code yX7_fits cX7_fits 5 (some .boolean), Cond.fieldLink RX7 9 "HarpPedals$Settings" "tonesOf" "[I", Cond.methodLink RX3 92 yX3_setGapAheadOf, Cond.instanceMethod yX3_setGapAheadOf, Cond.selects RX3 yX3_setGapAheadOf yX3_setGapAheadOf, Cond.initialized RX3, Cond.code yX3_setGapAheadOf cX3_setGapAheadOf 5 none, Cond.fieldLink RX3 14 "HarpPedals$Planner" "gap" "LHarpPedals$Gap;", Cond.static yX8_isHeld, Cond.initialized RX8, Cond.code yX8_isHeld cX8_isHeld 1 (some .boolean), Cond.static yX8_raised, Cond.code yX8_raised cX8_raised 2 (some .int), Cond.methodLink RX3 140 yX0_set, Cond.instanceMethod yX0_set, Cond.selects RX0 yX0_set yX0_set, Cond.initialized RX0]
def wsX3_goBackward_r2 : List Cond := [Cond.code yX0_set cX0_set 6 none, Cond.fieldLink RX0 9 "HarpPedals$Gap" "mostMoves" "I", Cond.fieldLink RX0 15 "HarpPedals$Gap" "held" "I", Cond.methodLink RX0 18 yX7_toneAt, Cond.static yX7_toneAt, Cond.code yX7_toneAt cX7_toneAt 2 (some .int), Cond.fieldLink RX7 26 "HarpPedals$Settings" "NATURAL_TONES" "[I", Cond.methodLink RX3 106 yX3_cross, Cond.instanceMethod yX3_cross, Cond.selects RX3 yX3_cross yX3_cross, Cond.code yX3_cross cX3_cross 11 none, Cond.fieldLink RX3 25 "HarpPedals$Planner" "halfway" "[I", Cond.methodLink RX3 147 arraycopyName, Cond.native arraycopyName, Cond.static arraycopyName, Cond.initialized "java/lang/System", Cond.methodLink RX3 153 yX3_spreadByRight, Cond.instanceMethod yX3_spreadByRight, Cond.selects RX3 yX3_spreadByRight yX3_spreadByRight, Cond.code yX3_spreadByRight cX3_spreadByRight 9 none, Cond.constant RX3 161 (1048576), Cond.methodLink RX3 162 yX7_positionAt, Cond.static yX7_positionAt, Cond.code yX7_positionAt cX7_positionAt 2 (some .int)]
def wsX3_goBackward_r3 : List Cond := [Cond.methodLink RX3 165 yX0_holds, Cond.instanceMethod yX0_holds, Cond.selects RX0 yX0_holds yX0_holds, Cond.code yX0_holds cX0_holds 3 (some .boolean), Cond.methodLink RX3 172 yX3_joined, Cond.static yX3_joined, Cond.code yX3_joined cX3_joined 3 (some .int), Cond.constant RX3 59 (1048575), Cond.constant RX3 175 (1000003), Cond.constant RX3 176 (-1048576), Cond.methodLink RX3 157 yX3_gathered, Cond.instanceMethod yX3_gathered, Cond.selects RX3 yX3_gathered yX3_gathered, Cond.code yX3_gathered cX3_gathered 10 (some .int)]
def wsX3_goBackward : List Cond := .code yX3_goBackward cX3_goBackward 5 none :: ((wsX3_goBackward_r1 ++ (wsX3_goBackward_r2 ++ wsX3_goBackward_r3)) ++ wsX20 ++ wsX30 ++ wsX70 ++ wsX00)
def wsX3_settingOfBestScore : List Cond := .code yX3_settingOfBestScore cX3_settingOfBestScore 4 (some .int) :: ([])
def wsX3_bestNext : List Cond := .code yX3_bestNext cX3_bestNext 8 (some .int) :: ([.constant RX3 58 (1073741824), .fieldLink RX3 14 "HarpPedals$Planner" "gap" "LHarpPedals$Gap;", .methodLink RX3 134 yX0_movesBetween, .instanceMethod yX0_movesBetween, .selects RX0 yX0_movesBetween yX0_movesBetween, .initialized RX0, .code yX0_movesBetween cX0_movesBetween 7 (some .int), .fieldLink RX0 9 "HarpPedals$Gap" "mostMoves" "I", .methodLink RX0 24 yX7_positionAt, .static yX7_positionAt, .initialized RX7, .code yX7_positionAt cX7_positionAt 2 (some .int), .methodLink RX0 27 yX0_holds, .instanceMethod yX0_holds, .selects RX0 yX0_holds yX0_holds, .code yX0_holds cX0_holds 3 (some .boolean), .fieldLink RX0 15 "HarpPedals$Gap" "held" "I"] ++ wsX30 ++ wsX00)
def wsX3_followBest_r1 : List Cond := [Cond.fieldLink RX3 30 "HarpPedals$Planner" "onward" "[[I", Cond.fieldLink RX3 36 "HarpPedals$Planner" "best" "[I", Cond.methodLink RX3 92 yX3_setGapAheadOf, Cond.instanceMethod yX3_setGapAheadOf, Cond.selects RX3 yX3_setGapAheadOf yX3_setGapAheadOf, Cond.initialized RX3, Cond.code yX3_setGapAheadOf cX3_setGapAheadOf 5 none, Cond.fieldLink RX3 14 "HarpPedals$Planner" "gap" "LHarpPedals$Gap;", Cond.static yX8_isHeld, Cond.initialized RX8, Cond.code yX8_isHeld cX8_isHeld 1 (some .boolean), Cond.static yX8_raised, Cond.code yX8_raised cX8_raised 2 (some .int), Cond.methodLink RX3 140 yX0_set, Cond.instanceMethod yX0_set, Cond.selects RX0 yX0_set yX0_set, Cond.initialized RX0, Cond.code yX0_set cX0_set 6 none, Cond.fieldLink RX0 9 "HarpPedals$Gap" "mostMoves" "I", Cond.fieldLink RX0 15 "HarpPedals$Gap" "held" "I", Cond.methodLink RX0 18 yX7_toneAt, Cond.static yX7_toneAt, Cond.initialized RX7, Cond.code yX7_toneAt cX7_toneAt 2 (some .int)]
def wsX3_followBest_r2 : List Cond := [Cond.fieldLink RX7 26 "HarpPedals$Settings" "NATURAL_TONES" "[I", Cond.methodLink RX3 130 yX3_bestNext, Cond.instanceMethod yX3_bestNext, Cond.selects RX3 yX3_bestNext yX3_bestNext, Cond.code yX3_bestNext cX3_bestNext 8 (some .int), Cond.constant RX3 58 (1073741824), Cond.methodLink RX3 134 yX0_movesBetween, Cond.instanceMethod yX0_movesBetween, Cond.selects RX0 yX0_movesBetween yX0_movesBetween, Cond.code yX0_movesBetween cX0_movesBetween 7 (some .int), Cond.methodLink RX0 24 yX7_positionAt, Cond.static yX7_positionAt, Cond.code yX7_positionAt cX7_positionAt 2 (some .int), Cond.methodLink RX0 27 yX0_holds, Cond.instanceMethod yX0_holds, Cond.selects RX0 yX0_holds yX0_holds, Cond.code yX0_holds cX0_holds 3 (some .boolean)]
def wsX3_followBest : List Cond := .code yX3_followBest cX3_followBest 4 none :: ((wsX3_followBest_r1 ++ wsX3_followBest_r2) ++ wsX20 ++ wsX30 ++ wsX00)
def wsX3_findBest_r1 : List Cond := [Cond.fieldLink RX3 47 "HarpPedals$Planner" "bestIsKnown" "Z", Cond.fieldLink RX3 30 "HarpPedals$Planner" "onward" "[[I", Cond.fieldLink RX3 79 "HarpPedals$Planner" "begin" "I", Cond.methodLink RX3 117 yX3_goBackward, Cond.instanceMethod yX3_goBackward, Cond.selects RX3 yX3_goBackward yX3_goBackward, Cond.initialized RX3, Cond.code yX3_goBackward cX3_goBackward 5 none, Cond.fieldLink RX3 43 "HarpPedals$Planner" "settings" "LHarpPedals$Settings;", Cond.constant RX3 58 (1073741824), Cond.methodLink RX3 126 yX7_fits, Cond.instanceMethod yX7_fits, Cond.selects RX7 yX7_fits yX7_fits, Cond.initialized RX7, Cond.code yX7_fits cX7_fits 5 (some .boolean), Cond.fieldLink RX7 9 "HarpPedals$Settings" "tonesOf" "[I", Cond.methodLink RX3 92 yX3_setGapAheadOf, Cond.instanceMethod yX3_setGapAheadOf, Cond.selects RX3 yX3_setGapAheadOf yX3_setGapAheadOf, Cond.code yX3_setGapAheadOf cX3_setGapAheadOf 5 none, Cond.fieldLink RX3 14 "HarpPedals$Planner" "gap" "LHarpPedals$Gap;", Cond.static yX8_isHeld, Cond.initialized RX8, Cond.code yX8_isHeld cX8_isHeld 1 (some .boolean)]
def wsX3_findBest_r2 : List Cond := [Cond.static yX8_raised, Cond.code yX8_raised cX8_raised 2 (some .int), Cond.methodLink RX3 140 yX0_set, Cond.instanceMethod yX0_set, Cond.selects RX0 yX0_set yX0_set, Cond.initialized RX0, Cond.code yX0_set cX0_set 6 none, Cond.fieldLink RX0 9 "HarpPedals$Gap" "mostMoves" "I", Cond.fieldLink RX0 15 "HarpPedals$Gap" "held" "I", Cond.methodLink RX0 18 yX7_toneAt, Cond.static yX7_toneAt, Cond.code yX7_toneAt cX7_toneAt 2 (some .int), Cond.fieldLink RX7 26 "HarpPedals$Settings" "NATURAL_TONES" "[I", Cond.methodLink RX3 106 yX3_cross, Cond.instanceMethod yX3_cross, Cond.selects RX3 yX3_cross yX3_cross, Cond.code yX3_cross cX3_cross 11 none, Cond.fieldLink RX3 25 "HarpPedals$Planner" "halfway" "[I", Cond.methodLink RX3 147 arraycopyName, Cond.native arraycopyName, Cond.static arraycopyName, Cond.initialized "java/lang/System", Cond.methodLink RX3 153 yX3_spreadByRight, Cond.instanceMethod yX3_spreadByRight]
def wsX3_findBest_r3 : List Cond := [Cond.selects RX3 yX3_spreadByRight yX3_spreadByRight, Cond.code yX3_spreadByRight cX3_spreadByRight 9 none, Cond.constant RX3 161 (1048576), Cond.methodLink RX3 162 yX7_positionAt, Cond.static yX7_positionAt, Cond.code yX7_positionAt cX7_positionAt 2 (some .int), Cond.methodLink RX3 165 yX0_holds, Cond.instanceMethod yX0_holds, Cond.selects RX0 yX0_holds yX0_holds, Cond.code yX0_holds cX0_holds 3 (some .boolean), Cond.methodLink RX3 172 yX3_joined, Cond.static yX3_joined, Cond.code yX3_joined cX3_joined 3 (some .int), Cond.constant RX3 59 (1048575), Cond.constant RX3 175 (1000003), Cond.constant RX3 176 (-1048576), Cond.methodLink RX3 157 yX3_gathered, Cond.instanceMethod yX3_gathered, Cond.selects RX3 yX3_gathered yX3_gathered, Cond.code yX3_gathered cX3_gathered 10 (some .int), Cond.methodLink RX3 120 yX3_settingOfBestScore, Cond.static yX3_settingOfBestScore, Cond.code yX3_settingOfBestScore cX3_settingOfBestScore 4 (some .int), Cond.methodLink RX3 123 yX3_followBest]
def wsX3_findBest_r4 : List Cond := [Cond.instanceMethod yX3_followBest, Cond.selects RX3 yX3_followBest yX3_followBest, Cond.code yX3_followBest cX3_followBest 4 none, Cond.fieldLink RX3 36 "HarpPedals$Planner" "best" "[I", Cond.methodLink RX3 130 yX3_bestNext, Cond.instanceMethod yX3_bestNext, Cond.selects RX3 yX3_bestNext yX3_bestNext, Cond.code yX3_bestNext cX3_bestNext 8 (some .int), Cond.methodLink RX3 134 yX0_movesBetween, Cond.instanceMethod yX0_movesBetween, Cond.selects RX0 yX0_movesBetween yX0_movesBetween, Cond.code yX0_movesBetween cX0_movesBetween 7 (some .int), Cond.methodLink RX0 24 yX7_positionAt, Cond.methodLink RX0 27 yX0_holds]
def wsX3_findBest : List Cond := .code yX3_findBest cX3_findBest 2 none :: ((wsX3_findBest_r1 ++ (wsX3_findBest_r2 ++ (wsX3_findBest_r3 ++ wsX3_findBest_r4))) ++ wsX30 ++ wsX20 ++ wsX70 ++ wsX00)
def wsX7_numberOf : List Cond := .code yX7_numberOf cX7_numberOf 3 (some .int) :: ([.methodLink RX7 29 yX7_positionAt, .static yX7_positionAt, .initialized RX7, .code yX7_positionAt cX7_positionAt 2 (some .int)])
def wsX3_bestSetting_r1 : List Cond := [Cond.fieldLink RX3 36 "HarpPedals$Planner" "best" "[I", Cond.methodLink RX3 69 yX3_findBest, Cond.instanceMethod yX3_findBest, Cond.selects RX3 yX3_findBest yX3_findBest, Cond.initialized RX3, Cond.code yX3_findBest cX3_findBest 2 none, Cond.fieldLink RX3 47 "HarpPedals$Planner" "bestIsKnown" "Z", Cond.fieldLink RX3 30 "HarpPedals$Planner" "onward" "[[I", Cond.fieldLink RX3 79 "HarpPedals$Planner" "begin" "I", Cond.methodLink RX3 117 yX3_goBackward, Cond.instanceMethod yX3_goBackward, Cond.selects RX3 yX3_goBackward yX3_goBackward, Cond.code yX3_goBackward cX3_goBackward 5 none, Cond.fieldLink RX3 43 "HarpPedals$Planner" "settings" "LHarpPedals$Settings;", Cond.constant RX3 58 (1073741824), Cond.methodLink RX3 126 yX7_fits, Cond.instanceMethod yX7_fits, Cond.selects RX7 yX7_fits yX7_fits, Cond.initialized RX7, Cond.code yX7_fits cX7_fits 5 (some .boolean), Cond.fieldLink RX7 9 "HarpPedals$Settings" "tonesOf" "[I", Cond.methodLink RX3 92 yX3_setGapAheadOf, Cond.instanceMethod yX3_setGapAheadOf, Cond.selects RX3 yX3_setGapAheadOf yX3_setGapAheadOf]
def wsX3_bestSetting_r2 : List Cond := [Cond.code yX3_setGapAheadOf cX3_setGapAheadOf 5 none, Cond.fieldLink RX3 14 "HarpPedals$Planner" "gap" "LHarpPedals$Gap;", Cond.static yX8_isHeld, Cond.initialized RX8, Cond.code yX8_isHeld cX8_isHeld 1 (some .boolean), Cond.static yX8_raised, Cond.code yX8_raised cX8_raised 2 (some .int), Cond.methodLink RX3 140 yX0_set, Cond.instanceMethod yX0_set, Cond.selects RX0 yX0_set yX0_set, Cond.initialized RX0, Cond.code yX0_set cX0_set 6 none, Cond.fieldLink RX0 9 "HarpPedals$Gap" "mostMoves" "I", Cond.fieldLink RX0 15 "HarpPedals$Gap" "held" "I", Cond.methodLink RX0 18 yX7_toneAt, Cond.static yX7_toneAt, Cond.code yX7_toneAt cX7_toneAt 2 (some .int), Cond.fieldLink RX7 26 "HarpPedals$Settings" "NATURAL_TONES" "[I", Cond.methodLink RX3 106 yX3_cross, Cond.instanceMethod yX3_cross, Cond.selects RX3 yX3_cross yX3_cross, Cond.code yX3_cross cX3_cross 11 none, Cond.fieldLink RX3 25 "HarpPedals$Planner" "halfway" "[I", Cond.methodLink RX3 147 arraycopyName]
def wsX3_bestSetting_r3 : List Cond := [Cond.native arraycopyName, Cond.static arraycopyName, Cond.initialized "java/lang/System", Cond.methodLink RX3 153 yX3_spreadByRight, Cond.instanceMethod yX3_spreadByRight, Cond.selects RX3 yX3_spreadByRight yX3_spreadByRight, Cond.code yX3_spreadByRight cX3_spreadByRight 9 none, Cond.constant RX3 161 (1048576), Cond.methodLink RX3 162 yX7_positionAt, Cond.static yX7_positionAt, Cond.code yX7_positionAt cX7_positionAt 2 (some .int), Cond.methodLink RX3 165 yX0_holds, Cond.instanceMethod yX0_holds, Cond.selects RX0 yX0_holds yX0_holds, Cond.code yX0_holds cX0_holds 3 (some .boolean), Cond.methodLink RX3 172 yX3_joined, Cond.static yX3_joined, Cond.code yX3_joined cX3_joined 3 (some .int), Cond.constant RX3 59 (1048575), Cond.constant RX3 175 (1000003), Cond.constant RX3 176 (-1048576), Cond.methodLink RX3 157 yX3_gathered, Cond.instanceMethod yX3_gathered, Cond.selects RX3 yX3_gathered yX3_gathered]
def wsX3_bestSetting_r4 : List Cond := [Cond.code yX3_gathered cX3_gathered 10 (some .int), Cond.methodLink RX3 120 yX3_settingOfBestScore, Cond.static yX3_settingOfBestScore, Cond.code yX3_settingOfBestScore cX3_settingOfBestScore 4 (some .int), Cond.methodLink RX3 123 yX3_followBest, Cond.instanceMethod yX3_followBest, Cond.selects RX3 yX3_followBest yX3_followBest, Cond.code yX3_followBest cX3_followBest 4 none, Cond.methodLink RX3 130 yX3_bestNext, Cond.instanceMethod yX3_bestNext, Cond.selects RX3 yX3_bestNext yX3_bestNext, Cond.code yX3_bestNext cX3_bestNext 8 (some .int), Cond.methodLink RX3 134 yX0_movesBetween, Cond.instanceMethod yX0_movesBetween, Cond.selects RX0 yX0_movesBetween yX0_movesBetween, Cond.code yX0_movesBetween cX0_movesBetween 7 (some .int), Cond.methodLink RX0 24 yX7_positionAt, Cond.methodLink RX0 27 yX0_holds, Cond.methodLink RX3 65 yX2_has, Cond.instanceMethod yX2_has, Cond.selects RX2 yX2_has yX2_has, Cond.initialized RX2, Cond.code yX2_has cX2_has 2 (some .boolean), Cond.fieldLink RX2 18 "HarpPedals$Part" "size" "I"]
def wsX3_bestSetting_r5 : List Cond := [Cond.methodLink RX3 73 yX7_numberOf, Cond.static yX7_numberOf, Cond.code yX7_numberOf cX7_numberOf 3 (some .int), Cond.methodLink RX7 29 yX7_positionAt]
def wsX3_bestSetting : List Cond := .code yX3_bestSetting cX3_bestSetting 4 (some .int) :: ((wsX3_bestSetting_r1 ++ (wsX3_bestSetting_r2 ++ (wsX3_bestSetting_r3 ++ (wsX3_bestSetting_r4 ++ wsX3_bestSetting_r5)))) ++ wsX30 ++ wsX20 ++ wsX70 ++ wsX00)
def wsX3_bestBegin_r1 : List Cond := [Cond.fieldLink RX3 79 "HarpPedals$Planner" "begin" "I", Cond.methodLink RX3 69 yX3_findBest, Cond.instanceMethod yX3_findBest, Cond.selects RX3 yX3_findBest yX3_findBest, Cond.initialized RX3, Cond.code yX3_findBest cX3_findBest 2 none, Cond.fieldLink RX3 47 "HarpPedals$Planner" "bestIsKnown" "Z", Cond.fieldLink RX3 30 "HarpPedals$Planner" "onward" "[[I", Cond.methodLink RX3 117 yX3_goBackward, Cond.instanceMethod yX3_goBackward, Cond.selects RX3 yX3_goBackward yX3_goBackward, Cond.code yX3_goBackward cX3_goBackward 5 none, Cond.fieldLink RX3 43 "HarpPedals$Planner" "settings" "LHarpPedals$Settings;", Cond.constant RX3 58 (1073741824), Cond.methodLink RX3 126 yX7_fits, Cond.instanceMethod yX7_fits, Cond.selects RX7 yX7_fits yX7_fits, Cond.initialized RX7, Cond.code yX7_fits cX7_fits 5 (some .boolean), Cond.fieldLink RX7 9 "HarpPedals$Settings" "tonesOf" "[I", Cond.methodLink RX3 92 yX3_setGapAheadOf, Cond.instanceMethod yX3_setGapAheadOf, Cond.selects RX3 yX3_setGapAheadOf yX3_setGapAheadOf, Cond.code yX3_setGapAheadOf cX3_setGapAheadOf 5 none]
def wsX3_bestBegin_r2 : List Cond := [Cond.fieldLink RX3 14 "HarpPedals$Planner" "gap" "LHarpPedals$Gap;", Cond.static yX8_isHeld, Cond.initialized RX8, Cond.code yX8_isHeld cX8_isHeld 1 (some .boolean), Cond.static yX8_raised, Cond.code yX8_raised cX8_raised 2 (some .int), Cond.methodLink RX3 140 yX0_set, Cond.instanceMethod yX0_set, Cond.selects RX0 yX0_set yX0_set, Cond.initialized RX0, Cond.code yX0_set cX0_set 6 none, Cond.fieldLink RX0 9 "HarpPedals$Gap" "mostMoves" "I", Cond.fieldLink RX0 15 "HarpPedals$Gap" "held" "I", Cond.methodLink RX0 18 yX7_toneAt, Cond.static yX7_toneAt, Cond.code yX7_toneAt cX7_toneAt 2 (some .int), Cond.fieldLink RX7 26 "HarpPedals$Settings" "NATURAL_TONES" "[I", Cond.methodLink RX3 106 yX3_cross, Cond.instanceMethod yX3_cross, Cond.selects RX3 yX3_cross yX3_cross, Cond.code yX3_cross cX3_cross 11 none, Cond.fieldLink RX3 25 "HarpPedals$Planner" "halfway" "[I", Cond.methodLink RX3 147 arraycopyName, Cond.native arraycopyName]
def wsX3_bestBegin_r3 : List Cond := [Cond.static arraycopyName, Cond.initialized "java/lang/System", Cond.methodLink RX3 153 yX3_spreadByRight, Cond.instanceMethod yX3_spreadByRight, Cond.selects RX3 yX3_spreadByRight yX3_spreadByRight, Cond.code yX3_spreadByRight cX3_spreadByRight 9 none, Cond.constant RX3 161 (1048576), Cond.methodLink RX3 162 yX7_positionAt, Cond.static yX7_positionAt, Cond.code yX7_positionAt cX7_positionAt 2 (some .int), Cond.methodLink RX3 165 yX0_holds, Cond.instanceMethod yX0_holds, Cond.selects RX0 yX0_holds yX0_holds, Cond.code yX0_holds cX0_holds 3 (some .boolean), Cond.methodLink RX3 172 yX3_joined, Cond.static yX3_joined, Cond.code yX3_joined cX3_joined 3 (some .int), Cond.constant RX3 59 (1048575), Cond.constant RX3 175 (1000003), Cond.constant RX3 176 (-1048576), Cond.methodLink RX3 157 yX3_gathered, Cond.instanceMethod yX3_gathered, Cond.selects RX3 yX3_gathered yX3_gathered, Cond.code yX3_gathered cX3_gathered 10 (some .int)]
def wsX3_bestBegin_r4 : List Cond := [Cond.methodLink RX3 120 yX3_settingOfBestScore, Cond.static yX3_settingOfBestScore, Cond.code yX3_settingOfBestScore cX3_settingOfBestScore 4 (some .int), Cond.methodLink RX3 123 yX3_followBest, Cond.instanceMethod yX3_followBest, Cond.selects RX3 yX3_followBest yX3_followBest, Cond.code yX3_followBest cX3_followBest 4 none, Cond.fieldLink RX3 36 "HarpPedals$Planner" "best" "[I", Cond.methodLink RX3 130 yX3_bestNext, Cond.instanceMethod yX3_bestNext, Cond.selects RX3 yX3_bestNext yX3_bestNext, Cond.code yX3_bestNext cX3_bestNext 8 (some .int), Cond.methodLink RX3 134 yX0_movesBetween, Cond.instanceMethod yX0_movesBetween, Cond.selects RX0 yX0_movesBetween yX0_movesBetween, Cond.code yX0_movesBetween cX0_movesBetween 7 (some .int), Cond.methodLink RX0 24 yX7_positionAt, Cond.methodLink RX0 27 yX0_holds, Cond.methodLink RX3 73 yX7_numberOf, Cond.static yX7_numberOf, Cond.code yX7_numberOf cX7_numberOf 3 (some .int), Cond.methodLink RX7 29 yX7_positionAt]
def wsX3_bestBegin : List Cond := .code yX3_bestBegin cX3_bestBegin 2 (some .int) :: ((wsX3_bestBegin_r1 ++ (wsX3_bestBegin_r2 ++ (wsX3_bestBegin_r3 ++ wsX3_bestBegin_r4))) ++ wsX30 ++ wsX20 ++ wsX70 ++ wsX00)
def wsX4_init : List Cond := .code yX4_init cX4_init 2 none :: ([.methodLink RX4 3 objectInit, .instanceMethod objectInit, .code objectInit ⟨#[0xb1]⟩ 1 none, .classLink RX4 9 RX0, .instantiable RX0 2, .initialized RX0, .fieldLink RX4 12 "HarpPedals$Player" "gap" "LHarpPedals$Gap;", .fieldLink RX4 18 "HarpPedals$Player" "settings" "LHarpPedals$Settings;", .instanceMethod yX0_init, .code yX0_init cX0_init 1 none, .methodLink RX0 3 objectInit] ++ wsX00 ++ wsX40)
def wsX4_nextDraw : List Cond := .code yX4_nextDraw cX4_nextDraw 1 (some .int) :: ([.constantLong RX4 57 (1103515245), .fieldLink RX4 22 "HarpPedals$Player" "seed" "I", .constantLong RX4 59 (12345), .constantLong RX4 63 (2147483647), .constant RX4 65 (65536)] ++ wsX40)
def wsX4_playChord_r1 : List Cond := [Cond.fieldLink RX4 18 "HarpPedals$Player" "settings" "LHarpPedals$Settings;", Cond.fieldLink RX4 12 "HarpPedals$Player" "gap" "LHarpPedals$Gap;", Cond.fieldLink RX4 26 "HarpPedals$Player" "setting" "I", Cond.fieldLink RX4 29 "HarpPedals$Player" "chordsPlayed" "I", Cond.fieldLink RX4 32 "HarpPedals$Player" "moves" "I", Cond.methodLink RX4 47 yX7_fits, Cond.instanceMethod yX7_fits, Cond.selects RX7 yX7_fits yX7_fits, Cond.initialized RX7, Cond.code yX7_fits cX7_fits 5 (some .boolean), Cond.fieldLink RX7 9 "HarpPedals$Settings" "tonesOf" "[I", Cond.methodLink RX4 53 yX0_movesBetween, Cond.instanceMethod yX0_movesBetween, Cond.selects RX0 yX0_movesBetween yX0_movesBetween, Cond.initialized RX0, Cond.code yX0_movesBetween cX0_movesBetween 7 (some .int), Cond.fieldLink RX0 9 "HarpPedals$Gap" "mostMoves" "I", Cond.methodLink RX0 24 yX7_positionAt, Cond.static yX7_positionAt, Cond.code yX7_positionAt cX7_positionAt 2 (some .int), Cond.methodLink RX0 27 yX0_holds, Cond.instanceMethod yX0_holds, Cond.selects RX0 yX0_holds yX0_holds, Cond.code yX0_holds cX0_holds 3 (some .boolean)]
def wsX4_playChord_r2 : List Cond := [Cond.fieldLink RX0 15 "HarpPedals$Gap" "held" "I"]
def wsX4_playChord : List Cond := .code yX4_playChord cX4_playChord 6 none :: ((wsX4_playChord_r1 ++ wsX4_playChord_r2) ++ wsX40 ++ wsX70 ++ wsX00)
def wsX4_playDrawn_r1 : List Cond := [Cond.fieldLink RX4 22 "HarpPedals$Player" "seed" "I", Cond.fieldLink RX4 26 "HarpPedals$Player" "setting" "I", Cond.fieldLink RX4 29 "HarpPedals$Player" "chordsPlayed" "I", Cond.fieldLink RX4 32 "HarpPedals$Player" "moves" "I", Cond.fieldLink RX4 12 "HarpPedals$Player" "gap" "LHarpPedals$Gap;", Cond.methodLink RX4 35 yX0_set, Cond.instanceMethod yX0_set, Cond.selects RX0 yX0_set yX0_set, Cond.initialized RX0, Cond.code yX0_set cX0_set 6 none, Cond.fieldLink RX0 9 "HarpPedals$Gap" "mostMoves" "I", Cond.fieldLink RX0 15 "HarpPedals$Gap" "held" "I", Cond.methodLink RX0 18 yX7_toneAt, Cond.static yX7_toneAt, Cond.initialized RX7, Cond.code yX7_toneAt cX7_toneAt 2 (some .int), Cond.fieldLink RX7 26 "HarpPedals$Settings" "NATURAL_TONES" "[I", Cond.methodLink RX4 39 yX4_nextDraw, Cond.instanceMethod yX4_nextDraw, Cond.selects RX4 yX4_nextDraw yX4_nextDraw, Cond.initialized RX4, Cond.code yX4_nextDraw cX4_nextDraw 1 (some .int), Cond.constantLong RX4 57 (1103515245), Cond.constantLong RX4 59 (12345)]
def wsX4_playDrawn_r2 : List Cond := [Cond.constantLong RX4 63 (2147483647), Cond.constant RX4 65 (65536), Cond.methodLink RX4 43 yX4_playChord, Cond.instanceMethod yX4_playChord, Cond.selects RX4 yX4_playChord yX4_playChord, Cond.code yX4_playChord cX4_playChord 6 none, Cond.fieldLink RX4 18 "HarpPedals$Player" "settings" "LHarpPedals$Settings;", Cond.methodLink RX4 47 yX7_fits, Cond.instanceMethod yX7_fits, Cond.selects RX7 yX7_fits yX7_fits, Cond.code yX7_fits cX7_fits 5 (some .boolean), Cond.fieldLink RX7 9 "HarpPedals$Settings" "tonesOf" "[I", Cond.methodLink RX4 53 yX0_movesBetween, Cond.instanceMethod yX0_movesBetween, Cond.selects RX0 yX0_movesBetween yX0_movesBetween, Cond.code yX0_movesBetween cX0_movesBetween 7 (some .int), Cond.methodLink RX0 24 yX7_positionAt, Cond.static yX7_positionAt, Cond.code yX7_positionAt cX7_positionAt 2 (some .int), Cond.methodLink RX0 27 yX0_holds, Cond.instanceMethod yX0_holds, Cond.selects RX0 yX0_holds yX0_holds, Cond.code yX0_holds cX0_holds 3 (some .boolean)]
def wsX4_playDrawn : List Cond := .code yX4_playDrawn cX4_playDrawn 7 none :: ((wsX4_playDrawn_r1 ++ wsX4_playDrawn_r2) ++ wsX40 ++ wsX00 ++ wsX70)
def wsX5_init : List Cond := .code yX5_init cX5_init 1 none :: ([.methodLink RX5 3 objectInit, .instanceMethod objectInit, .code objectInit ⟨#[0xb1]⟩ 1 none, .classLink RX5 9 RX2, .instantiable RX2 4, .initialized RX2, .fieldLink RX5 12 "HarpPedals$Reader" "draft" "LHarpPedals$Part;", .instanceMethod yX2_init, .code yX2_init cX2_init 1 none, .methodLink RX2 3 objectInit, .arrayClass .int, .fieldLink RX2 9 "HarpPedals$Part" "kinds" "[I", .fieldLink RX2 15 "HarpPedals$Part" "tones" "[I"] ++ wsX20 ++ wsX50)
def wsX5_isWhole : List Cond := .code yX5_isWhole cX5_isWhole 1 (some .boolean) :: ([.fieldLink RX5 25 "HarpPedals$Reader" "kindIsDue" "Z", .fieldLink RX5 12 "HarpPedals$Reader" "draft" "LHarpPedals$Part;", .methodLink RX5 42 yX2_tonesOfLast, .instanceMethod yX2_tonesOfLast, .selects RX2 yX2_tonesOfLast yX2_tonesOfLast, .initialized RX2, .code yX2_tonesOfLast cX2_tonesOfLast 1 (some .int), .fieldLink RX2 18 "HarpPedals$Part" "size" "I", .fieldLink RX2 15 "HarpPedals$Part" "tones" "[I"] ++ wsX50 ++ wsX20)
def wsX6_init : List Cond := .code yX6_init cX6_init 1 none :: ([.methodLink RX6 3 objectInit, .instanceMethod objectInit, .code objectInit ⟨#[0xb1]⟩ 1 none, .arrayClass .int, .fieldLink RX6 9 "HarpPedals$Seen" "chords" "[I", .fieldLink RX6 15 "HarpPedals$Seen" "kindsLeft" "[I"] ++ wsX60)
def wsX6_add : List Cond := .code yX6_add cX6_add 5 (some .boolean) :: ([.fieldLink RX6 18 "HarpPedals$Seen" "size" "I", .fieldLink RX6 22 "HarpPedals$Seen" "KINDS_THAT_COULD" "[I", .fieldLink RX6 9 "HarpPedals$Seen" "chords" "[I", .fieldLink RX6 15 "HarpPedals$Seen" "kindsLeft" "[I"] ++ wsX60)
def wsX6_clear : List Cond := .code yX6_clear cX6_clear 2 (some .int) :: ([.fieldLink RX6 18 "HarpPedals$Seen" "size" "I"] ++ wsX60)
def wsX6_become : List Cond := .code yX6_become cX6_become 2 none :: ([.fieldLink RX6 18 "HarpPedals$Seen" "size" "I", .fieldLink RX6 9 "HarpPedals$Seen" "chords" "[I", .methodLink RX6 25 arraycopyName, .native arraycopyName, .static arraycopyName, .initialized "java/lang/System", .fieldLink RX6 15 "HarpPedals$Seen" "kindsLeft" "[I"] ++ wsX60)
def wsX6_sortsOf : List Cond := .code yX6_sortsOf cX6_sortsOf 4 (some .int) :: ([.fieldLink RX6 18 "HarpPedals$Seen" "size" "I", .fieldLink RX6 9 "HarpPedals$Seen" "chords" "[I", .fieldLink RX6 15 "HarpPedals$Seen" "kindsLeft" "[I"] ++ wsX60)
def wsX6_leftAtWorst : List Cond := .code yX6_leftAtWorst cX6_leftAtWorst 2 (some .int) :: ([.methodLink RX6 44 Lib.Math.max.name, .static Lib.Math.max.name, .initialized "java/lang/Math", .code Lib.Math.max.name Lib.Math.max.code 2 (some .int), .methodLink RX6 39 yJ6_bitCount_0f7a4, .static yJ6_bitCount_0f7a4, .initialized RJ6, .code yJ6_bitCount_0f7a4 cJ6_bitCount_0f7a4 1 (some .int), .constant RJ6 265 (1431655765), .constant RJ6 266 (858993459), .constant RJ6 267 (252645135)])
def wsX6_nextQuestion : List Cond := .code yX6_nextQuestion cX6_nextQuestion 7 (some .int) :: ([.fieldLink RX6 22 "HarpPedals$Seen" "KINDS_THAT_COULD" "[I", .methodLink RX6 31 yX6_sortsOf, .instanceMethod yX6_sortsOf, .selects RX6 yX6_sortsOf yX6_sortsOf, .initialized RX6, .code yX6_sortsOf cX6_sortsOf 4 (some .int), .fieldLink RX6 18 "HarpPedals$Seen" "size" "I", .fieldLink RX6 9 "HarpPedals$Seen" "chords" "[I", .fieldLink RX6 15 "HarpPedals$Seen" "kindsLeft" "[I", .methodLink RX6 35 yX6_leftAtWorst, .static yX6_leftAtWorst, .code yX6_leftAtWorst cX6_leftAtWorst 2 (some .int), .methodLink RX6 44 Lib.Math.max.name, .static Lib.Math.max.name, .initialized "java/lang/Math", .code Lib.Math.max.name Lib.Math.max.code 2 (some .int), .methodLink RX6 39 yJ6_bitCount_0f7a4, .static yJ6_bitCount_0f7a4, .initialized RJ6, .code yJ6_bitCount_0f7a4 cJ6_bitCount_0f7a4 1 (some .int), .constant RJ6 265 (1431655765), .constant RJ6 266 (858993459), .constant RJ6 267 (252645135)] ++ wsX60)
def wsX7_tonesOfPedals : List Cond := .code yX7_tonesOfPedals cX7_tonesOfPedals 3 (some .int) :: ([.methodLink RX7 29 yX7_positionAt, .static yX7_positionAt, .initialized RX7, .code yX7_positionAt cX7_positionAt 2 (some .int), .methodLink RX7 36 yX7_toneAt, .static yX7_toneAt, .code yX7_toneAt cX7_toneAt 2 (some .int), .fieldLink RX7 26 "HarpPedals$Settings" "NATURAL_TONES" "[I"])
def wsX7_init : List Cond := .code yX7_init cX7_init 2 none :: ([.methodLink RX7 3 objectInit, .instanceMethod objectInit, .code objectInit ⟨#[0xb1]⟩ 1 none, .arrayClass .int, .fieldLink RX7 9 "HarpPedals$Settings" "tonesOf" "[I", .methodLink RX7 15 yX7_tonesOfPedals, .static yX7_tonesOfPedals, .initialized RX7, .code yX7_tonesOfPedals cX7_tonesOfPedals 3 (some .int), .methodLink RX7 29 yX7_positionAt, .static yX7_positionAt, .code yX7_positionAt cX7_positionAt 2 (some .int), .methodLink RX7 36 yX7_toneAt, .static yX7_toneAt, .code yX7_toneAt cX7_toneAt 2 (some .int), .fieldLink RX7 26 "HarpPedals$Settings" "NATURAL_TONES" "[I"] ++ wsX70)
def wsX7_howManyFit : List Cond := .code yX7_howManyFit cX7_howManyFit 5 (some .int) :: ([.methodLink RX7 19 yX7_fits, .instanceMethod yX7_fits, .selects RX7 yX7_fits yX7_fits, .initialized RX7, .code yX7_fits cX7_fits 5 (some .boolean), .fieldLink RX7 9 "HarpPedals$Settings" "tonesOf" "[I"] ++ wsX70)
def wsX7_leastThatFits : List Cond := .code yX7_leastThatFits cX7_leastThatFits 4 (some .int) :: ([.methodLink RX7 19 yX7_fits, .instanceMethod yX7_fits, .selects RX7 yX7_fits yX7_fits, .initialized RX7, .code yX7_fits cX7_fits 5 (some .boolean), .fieldLink RX7 9 "HarpPedals$Settings" "tonesOf" "[I", .methodLink RX7 23 yX7_numberOf, .static yX7_numberOf, .code yX7_numberOf cX7_numberOf 3 (some .int), .methodLink RX7 29 yX7_positionAt, .static yX7_positionAt, .code yX7_positionAt cX7_positionAt 2 (some .int)] ++ wsX70)
def wsX7_moved : List Cond := .code yX7_moved cX7_moved 3 (some .int) :: ([.fieldLink RX7 33 "HarpPedals$Settings" "WEIGHTS" "[I", .methodLink RX7 29 yX7_positionAt, .static yX7_positionAt, .initialized RX7, .code yX7_positionAt cX7_positionAt 2 (some .int)])
def wsX8_init_r1 : List Cond := [Cond.methodLink RX8 1 objectInit, Cond.instanceMethod objectInit, Cond.code objectInit ⟨#[0xb1]⟩ 1 none, Cond.classLink RX8 7 RX1, Cond.instantiable RX1 2, Cond.initialized RX1, Cond.fieldLink RX8 10 "HarpPedals" "page" "LHarpPedals$Page;", Cond.classLink RX8 16 RX5, Cond.instantiable RX5 3, Cond.initialized RX5, Cond.fieldLink RX8 19 "HarpPedals" "reader" "LHarpPedals$Reader;", Cond.classLink RX8 23 RX2, Cond.instantiable RX2 4, Cond.initialized RX2, Cond.fieldLink RX8 26 "HarpPedals" "played" "LHarpPedals$Part;", Cond.fieldLink RX8 30 "HarpPedals" "keptPart" "LHarpPedals$Part;", Cond.classLink RX8 33 RX6, Cond.instantiable RX6 3, Cond.initialized RX6, Cond.fieldLink RX8 36 "HarpPedals" "seen" "LHarpPedals$Seen;", Cond.fieldLink RX8 40 "HarpPedals" "keptSeen" "LHarpPedals$Seen;", Cond.classLink RX8 43 RX7, Cond.instantiable RX7 1, Cond.initialized RX7]
def wsX8_init_r2 : List Cond := [Cond.fieldLink RX8 46 "HarpPedals" "settings" "LHarpPedals$Settings;", Cond.classLink RX8 50 RX3, Cond.instantiable RX3 12, Cond.initialized RX3, Cond.fieldLink RX8 55 "HarpPedals" "planner" "LHarpPedals$Planner;", Cond.classLink RX8 59 RX4, Cond.instantiable RX4 6, Cond.initialized RX4, Cond.fieldLink RX8 62 "HarpPedals" "player" "LHarpPedals$Player;", Cond.instanceMethod yX1_init, Cond.code yX1_init cX1_init 1 none, Cond.methodLink RX1 3 objectInit, Cond.arrayClass .int, Cond.fieldLink RX1 9 "HarpPedals$Page" "codes" "[I", Cond.instanceMethod yX5_init, Cond.code yX5_init cX5_init 1 none, Cond.methodLink RX5 3 objectInit, Cond.classLink RX5 9 RX2, Cond.fieldLink RX5 12 "HarpPedals$Reader" "draft" "LHarpPedals$Part;", Cond.instanceMethod yX2_init, Cond.code yX2_init cX2_init 1 none, Cond.methodLink RX2 3 objectInit, Cond.fieldLink RX2 9 "HarpPedals$Part" "kinds" "[I", Cond.fieldLink RX2 15 "HarpPedals$Part" "tones" "[I"]
def wsX8_init_r3 : List Cond := [Cond.instanceMethod yX6_init, Cond.code yX6_init cX6_init 1 none, Cond.methodLink RX6 3 objectInit, Cond.fieldLink RX6 9 "HarpPedals$Seen" "chords" "[I", Cond.fieldLink RX6 15 "HarpPedals$Seen" "kindsLeft" "[I", Cond.methodLink RX8 45 yX7_init, Cond.instanceMethod yX7_init, Cond.code yX7_init cX7_init 2 none, Cond.methodLink RX7 3 objectInit, Cond.fieldLink RX7 9 "HarpPedals$Settings" "tonesOf" "[I", Cond.methodLink RX7 15 yX7_tonesOfPedals, Cond.static yX7_tonesOfPedals, Cond.code yX7_tonesOfPedals cX7_tonesOfPedals 3 (some .int), Cond.methodLink RX7 29 yX7_positionAt, Cond.static yX7_positionAt, Cond.code yX7_positionAt cX7_positionAt 2 (some .int), Cond.methodLink RX7 36 yX7_toneAt, Cond.static yX7_toneAt, Cond.code yX7_toneAt cX7_toneAt 2 (some .int), Cond.fieldLink RX7 26 "HarpPedals$Settings" "NATURAL_TONES" "[I", Cond.methodLink RX8 52 yX3_init, Cond.instanceMethod yX3_init, Cond.code yX3_init cX3_init 2 none, Cond.methodLink RX3 5 objectInit]
def wsX8_init_r4 : List Cond := [Cond.classLink RX3 11 RX0, Cond.instantiable RX0 2, Cond.initialized RX0, Cond.fieldLink RX3 14 "HarpPedals$Planner" "gap" "LHarpPedals$Gap;", Cond.fieldLink RX3 18 "HarpPedals$Planner" "oneRow" "[I", Cond.fieldLink RX3 22 "HarpPedals$Planner" "otherRow" "[I", Cond.fieldLink RX3 25 "HarpPedals$Planner" "halfway" "[I", Cond.classLink RX3 28 "[[I", Cond.fieldLink RX3 30 "HarpPedals$Planner" "onward" "[[I", Cond.fieldLink RX3 33 "HarpPedals$Planner" "reached" "[I", Cond.fieldLink RX3 36 "HarpPedals$Planner" "best" "[I", Cond.fieldLink RX3 39 "HarpPedals$Planner" "shiftOfScore" "I", Cond.fieldLink RX3 43 "HarpPedals$Planner" "settings" "LHarpPedals$Settings;", Cond.instanceMethod yX0_init, Cond.code yX0_init cX0_init 1 none, Cond.methodLink RX0 3 objectInit, Cond.methodLink RX8 61 yX4_init, Cond.instanceMethod yX4_init, Cond.code yX4_init cX4_init 2 none, Cond.methodLink RX4 3 objectInit, Cond.classLink RX4 9 RX0, Cond.fieldLink RX4 12 "HarpPedals$Player" "gap" "LHarpPedals$Gap;", Cond.fieldLink RX4 18 "HarpPedals$Player" "settings" "LHarpPedals$Settings;"]
def wsX8_init : List Cond := .code yX8_init cX8_init 1 none :: ((wsX8_init_r1 ++ (wsX8_init_r2 ++ (wsX8_init_r3 ++ wsX8_init_r4))) ++ wsX10 ++ wsX80 ++ wsX50 ++ wsX20 ++ wsX60 ++ wsX70 ++ wsX30 ++ wsX40 ++ wsX00)
def wsX8_letter : List Cond := .code yX8_letter cX8_letter 2 (some .int) :: ([.fieldLink RX8 10 "HarpPedals" "page" "LHarpPedals$Page;", .methodLink RX8 66 yX1_append, .instanceMethod yX1_append, .selects RX1 yX1_append yX1_append, .initialized RX1, .code yX1_append cX1_append 2 (some .boolean), .fieldLink RX1 15 "HarpPedals$Page" "size" "I", .fieldLink RX1 9 "HarpPedals$Page" "codes" "[I"] ++ wsX80 ++ wsX10)
def wsX8_blank : List Cond := .code yX8_blank cX8_blank 1 (some .int) :: ([.fieldLink RX8 10 "HarpPedals" "page" "LHarpPedals$Page;", .methodLink RX8 74 yX1_clear, .instanceMethod yX1_clear, .selects RX1 yX1_clear yX1_clear, .initialized RX1, .code yX1_clear cX1_clear 2 (some .int), .fieldLink RX1 15 "HarpPedals$Page" "size" "I"] ++ wsX80 ++ wsX10)
def wsX8_fault_r1 : List Cond := [Cond.fieldLink RX8 10 "HarpPedals" "page" "LHarpPedals$Page;", Cond.fieldLink RX8 19 "HarpPedals" "reader" "LHarpPedals$Reader;", Cond.methodLink RX8 78 yX1_readBy, Cond.instanceMethod yX1_readBy, Cond.selects RX1 yX1_readBy yX1_readBy, Cond.initialized RX1, Cond.code yX1_readBy cX1_readBy 3 (some .int), Cond.fieldLink RX1 15 "HarpPedals$Page" "size" "I", Cond.fieldLink RX1 9 "HarpPedals$Page" "codes" "[I", Cond.methodLink RX1 19 yX5_restart, Cond.instanceMethod yX5_restart, Cond.selects RX5 yX5_restart yX5_restart, Cond.initialized RX5, Cond.code yX5_restart cX5_restart 1 none, Cond.fieldLink RX5 12 "HarpPedals$Reader" "draft" "LHarpPedals$Part;", Cond.fieldLink RX5 21 "HarpPedals$Reader" "lettersRead" "I", Cond.fieldLink RX5 25 "HarpPedals$Reader" "kindIsDue" "Z", Cond.methodLink RX5 18 yX2_clear, Cond.instanceMethod yX2_clear, Cond.selects RX2 yX2_clear yX2_clear, Cond.initialized RX2, Cond.code yX2_clear cX2_clear 1 none, Cond.fieldLink RX2 22 "HarpPedals$Part" "begin" "I", Cond.fieldLink RX2 18 "HarpPedals$Part" "size" "I"]
def wsX8_fault_r2 : List Cond := [Cond.methodLink RX1 24 yX5_accept, Cond.instanceMethod yX5_accept, Cond.selects RX5 yX5_accept yX5_accept, Cond.code yX5_accept cX5_accept 3 (some .boolean), Cond.methodLink RX5 29 yX5_acceptPosition, Cond.instanceMethod yX5_acceptPosition, Cond.selects RX5 yX5_acceptPosition yX5_acceptPosition, Cond.code yX5_acceptPosition cX5_acceptPosition 3 (some .boolean), Cond.static yX8_isPosition, Cond.initialized RX8, Cond.code yX8_isPosition cX8_isPosition 1 (some .boolean), Cond.methodLink RX5 33 yX5_acceptKind, Cond.instanceMethod yX5_acceptKind, Cond.selects RX5 yX5_acceptKind yX5_acceptKind, Cond.code yX5_acceptKind cX5_acceptKind 3 (some .boolean), Cond.methodLink RX5 52 yX5_kindOf, Cond.static yX5_kindOf, Cond.code yX5_kindOf cX5_kindOf 1 (some .int), Cond.methodLink RX5 59 yX2_insert, Cond.instanceMethod yX2_insert, Cond.selects RX2 yX2_insert yX2_insert, Cond.code yX2_insert cX2_insert 5 (some .boolean), Cond.fieldLink RX2 9 "HarpPedals$Part" "kinds" "[I", Cond.fieldLink RX2 15 "HarpPedals$Part" "tones" "[I"]
def wsX8_fault_r3 : List Cond := [Cond.methodLink RX5 36 yX5_acceptTone, Cond.instanceMethod yX5_acceptTone, Cond.selects RX5 yX5_acceptTone yX5_acceptTone, Cond.code yX5_acceptTone cX5_acceptTone 4 (some .boolean), Cond.methodLink RX5 42 yX2_tonesOfLast, Cond.instanceMethod yX2_tonesOfLast, Cond.selects RX2 yX2_tonesOfLast yX2_tonesOfLast, Cond.code yX2_tonesOfLast cX2_tonesOfLast 1 (some .int), Cond.methodLink RX5 63 yJ6_bitCount_0f7a4, Cond.static yJ6_bitCount_0f7a4, Cond.initialized RJ6, Cond.code yJ6_bitCount_0f7a4 cJ6_bitCount_0f7a4 1 (some .int), Cond.constant RJ6 265 (1431655765), Cond.constant RJ6 266 (858993459), Cond.constant RJ6 267 (252645135), Cond.methodLink RX5 68 yX2_addToLast, Cond.instanceMethod yX2_addToLast, Cond.selects RX2 yX2_addToLast yX2_addToLast, Cond.code yX2_addToLast cX2_addToLast 2 none, Cond.methodLink RX5 39 yX5_acceptComma, Cond.instanceMethod yX5_acceptComma, Cond.selects RX5 yX5_acceptComma yX5_acceptComma, Cond.code yX5_acceptComma cX5_acceptComma 2 (some .boolean)]
def wsX8_fault : List Cond := .code yX8_fault cX8_fault 1 (some .int) :: ((wsX8_fault_r1 ++ (wsX8_fault_r2 ++ wsX8_fault_r3)) ++ wsX80 ++ wsX10 ++ wsX50 ++ wsX20)
def wsX8_part_r1 : List Cond := [Cond.fieldLink RX8 10 "HarpPedals" "page" "LHarpPedals$Page;", Cond.fieldLink RX8 19 "HarpPedals" "reader" "LHarpPedals$Reader;", Cond.fieldLink RX8 26 "HarpPedals" "played" "LHarpPedals$Part;", Cond.fieldLink RX8 55 "HarpPedals" "planner" "LHarpPedals$Planner;", Cond.fieldLink RX8 36 "HarpPedals" "seen" "LHarpPedals$Seen;", Cond.fieldLink RX8 30 "HarpPedals" "keptPart" "LHarpPedals$Part;", Cond.fieldLink RX8 99 "HarpPedals" "partsRead" "I", Cond.methodLink RX8 78 yX1_readBy, Cond.instanceMethod yX1_readBy, Cond.selects RX1 yX1_readBy yX1_readBy, Cond.initialized RX1, Cond.code yX1_readBy cX1_readBy 3 (some .int), Cond.fieldLink RX1 15 "HarpPedals$Page" "size" "I", Cond.fieldLink RX1 9 "HarpPedals$Page" "codes" "[I", Cond.methodLink RX1 19 yX5_restart, Cond.instanceMethod yX5_restart, Cond.selects RX5 yX5_restart yX5_restart, Cond.initialized RX5, Cond.code yX5_restart cX5_restart 1 none, Cond.fieldLink RX5 12 "HarpPedals$Reader" "draft" "LHarpPedals$Part;", Cond.fieldLink RX5 21 "HarpPedals$Reader" "lettersRead" "I", Cond.fieldLink RX5 25 "HarpPedals$Reader" "kindIsDue" "Z", Cond.methodLink RX5 18 yX2_clear, Cond.instanceMethod yX2_clear]
def wsX8_part_r2 : List Cond := [Cond.selects RX2 yX2_clear yX2_clear, Cond.initialized RX2, Cond.code yX2_clear cX2_clear 1 none, Cond.fieldLink RX2 22 "HarpPedals$Part" "begin" "I", Cond.fieldLink RX2 18 "HarpPedals$Part" "size" "I", Cond.methodLink RX1 24 yX5_accept, Cond.instanceMethod yX5_accept, Cond.selects RX5 yX5_accept yX5_accept, Cond.code yX5_accept cX5_accept 3 (some .boolean), Cond.methodLink RX5 29 yX5_acceptPosition, Cond.instanceMethod yX5_acceptPosition, Cond.selects RX5 yX5_acceptPosition yX5_acceptPosition, Cond.code yX5_acceptPosition cX5_acceptPosition 3 (some .boolean), Cond.static yX8_isPosition, Cond.initialized RX8, Cond.code yX8_isPosition cX8_isPosition 1 (some .boolean), Cond.methodLink RX5 33 yX5_acceptKind, Cond.instanceMethod yX5_acceptKind, Cond.selects RX5 yX5_acceptKind yX5_acceptKind, Cond.code yX5_acceptKind cX5_acceptKind 3 (some .boolean), Cond.methodLink RX5 52 yX5_kindOf, Cond.static yX5_kindOf, Cond.code yX5_kindOf cX5_kindOf 1 (some .int), Cond.methodLink RX5 59 yX2_insert]
def wsX8_part_r3 : List Cond := [Cond.instanceMethod yX2_insert, Cond.selects RX2 yX2_insert yX2_insert, Cond.code yX2_insert cX2_insert 5 (some .boolean), Cond.fieldLink RX2 9 "HarpPedals$Part" "kinds" "[I", Cond.fieldLink RX2 15 "HarpPedals$Part" "tones" "[I", Cond.methodLink RX5 36 yX5_acceptTone, Cond.instanceMethod yX5_acceptTone, Cond.selects RX5 yX5_acceptTone yX5_acceptTone, Cond.code yX5_acceptTone cX5_acceptTone 4 (some .boolean), Cond.methodLink RX5 42 yX2_tonesOfLast, Cond.instanceMethod yX2_tonesOfLast, Cond.selects RX2 yX2_tonesOfLast yX2_tonesOfLast, Cond.code yX2_tonesOfLast cX2_tonesOfLast 1 (some .int), Cond.methodLink RX5 63 yJ6_bitCount_0f7a4, Cond.static yJ6_bitCount_0f7a4, Cond.initialized RJ6, Cond.code yJ6_bitCount_0f7a4 cJ6_bitCount_0f7a4 1 (some .int), Cond.constant RJ6 265 (1431655765), Cond.constant RJ6 266 (858993459), Cond.constant RJ6 267 (252645135), Cond.methodLink RX5 68 yX2_addToLast, Cond.instanceMethod yX2_addToLast, Cond.selects RX2 yX2_addToLast yX2_addToLast, Cond.code yX2_addToLast cX2_addToLast 2 none]
def wsX8_part_r4 : List Cond := [Cond.methodLink RX5 39 yX5_acceptComma, Cond.instanceMethod yX5_acceptComma, Cond.selects RX5 yX5_acceptComma yX5_acceptComma, Cond.code yX5_acceptComma cX5_acceptComma 2 (some .boolean), Cond.methodLink RX8 82 yX5_isWhole, Cond.instanceMethod yX5_isWhole, Cond.selects RX5 yX5_isWhole yX5_isWhole, Cond.code yX5_isWhole cX5_isWhole 1 (some .boolean), Cond.methodLink RX8 89 yX2_become, Cond.instanceMethod yX2_become, Cond.selects RX2 yX2_become yX2_become, Cond.code yX2_become cX2_become 2 none, Cond.methodLink RX2 25 arraycopyName, Cond.native arraycopyName, Cond.static arraycopyName, Cond.initialized "java/lang/System", Cond.methodLink RX8 93 yX3_makeStale, Cond.instanceMethod yX3_makeStale, Cond.selects RX3 yX3_makeStale yX3_makeStale, Cond.initialized RX3, Cond.code yX3_makeStale cX3_makeStale 1 none, Cond.fieldLink RX3 39 "HarpPedals$Planner" "shiftOfScore" "I", Cond.fieldLink RX3 47 "HarpPedals$Planner" "bestIsKnown" "Z", Cond.methodLink RX8 96 yX6_clear]
def wsX8_part_r5 : List Cond := [Cond.instanceMethod yX6_clear, Cond.selects RX6 yX6_clear yX6_clear, Cond.initialized RX6, Cond.code yX6_clear cX6_clear 2 (some .int), Cond.fieldLink RX6 18 "HarpPedals$Seen" "size" "I", Cond.methodLink RX8 97 yX2_clear, Cond.methodLink RX8 74 yX1_clear, Cond.instanceMethod yX1_clear, Cond.selects RX1 yX1_clear yX1_clear, Cond.code yX1_clear cX1_clear 2 (some .int)]
def wsX8_part : List Cond := .code yX8_part cX8_part 1 (some .int) :: ((wsX8_part_r1 ++ (wsX8_part_r2 ++ (wsX8_part_r3 ++ (wsX8_part_r4 ++ wsX8_part_r5)))) ++ wsX80 ++ wsX10 ++ wsX50 ++ wsX20 ++ wsX30 ++ wsX60)
def wsX8_chord_r1 : List Cond := [Cond.fieldLink RX8 26 "HarpPedals" "played" "LHarpPedals$Part;", Cond.fieldLink RX8 46 "HarpPedals" "settings" "LHarpPedals$Settings;", Cond.fieldLink RX8 36 "HarpPedals" "seen" "LHarpPedals$Seen;", Cond.methodLink RX8 103 yX2_has, Cond.instanceMethod yX2_has, Cond.selects RX2 yX2_has yX2_has, Cond.initialized RX2, Cond.code yX2_has cX2_has 2 (some .boolean), Cond.fieldLink RX2 18 "HarpPedals$Part" "size" "I", Cond.methodLink RX8 113 yX7_howManyFit, Cond.instanceMethod yX7_howManyFit, Cond.selects RX7 yX7_howManyFit yX7_howManyFit, Cond.initialized RX7, Cond.code yX7_howManyFit cX7_howManyFit 5 (some .int), Cond.methodLink RX7 19 yX7_fits, Cond.instanceMethod yX7_fits, Cond.selects RX7 yX7_fits yX7_fits, Cond.code yX7_fits cX7_fits 5 (some .boolean), Cond.fieldLink RX7 9 "HarpPedals$Settings" "tonesOf" "[I", Cond.methodLink RX8 117 yX7_leastThatFits, Cond.instanceMethod yX7_leastThatFits, Cond.selects RX7 yX7_leastThatFits yX7_leastThatFits, Cond.code yX7_leastThatFits cX7_leastThatFits 4 (some .int), Cond.methodLink RX7 23 yX7_numberOf]
def wsX8_chord_r2 : List Cond := [Cond.static yX7_numberOf, Cond.code yX7_numberOf cX7_numberOf 3 (some .int), Cond.methodLink RX7 29 yX7_positionAt, Cond.static yX7_positionAt, Cond.code yX7_positionAt cX7_positionAt 2 (some .int), Cond.methodLink RX8 120 yX6_sortsOf, Cond.instanceMethod yX6_sortsOf, Cond.selects RX6 yX6_sortsOf yX6_sortsOf, Cond.initialized RX6, Cond.code yX6_sortsOf cX6_sortsOf 4 (some .int), Cond.fieldLink RX6 18 "HarpPedals$Seen" "size" "I", Cond.fieldLink RX6 9 "HarpPedals$Seen" "chords" "[I", Cond.fieldLink RX6 15 "HarpPedals$Seen" "kindsLeft" "[I", Cond.methodLink RX8 124 yX6_nextQuestion, Cond.instanceMethod yX6_nextQuestion, Cond.selects RX6 yX6_nextQuestion yX6_nextQuestion, Cond.code yX6_nextQuestion cX6_nextQuestion 7 (some .int), Cond.fieldLink RX6 22 "HarpPedals$Seen" "KINDS_THAT_COULD" "[I", Cond.methodLink RX6 31 yX6_sortsOf, Cond.methodLink RX6 35 yX6_leftAtWorst, Cond.static yX6_leftAtWorst, Cond.code yX6_leftAtWorst cX6_leftAtWorst 2 (some .int), Cond.methodLink RX6 44 Lib.Math.max.name, Cond.static Lib.Math.max.name]
def wsX8_chord_r3 : List Cond := [Cond.initialized "java/lang/Math", Cond.code Lib.Math.max.name Lib.Math.max.code 2 (some .int), Cond.methodLink RX6 39 yJ6_bitCount_0f7a4, Cond.static yJ6_bitCount_0f7a4, Cond.initialized RJ6, Cond.code yJ6_bitCount_0f7a4 cJ6_bitCount_0f7a4 1 (some .int), Cond.constant RJ6 265 (1431655765), Cond.constant RJ6 266 (858993459), Cond.constant RJ6 267 (252645135)]
def wsX8_chord : List Cond := .code yX8_chord cX8_chord 3 (some .int) :: ((wsX8_chord_r1 ++ (wsX8_chord_r2 ++ wsX8_chord_r3)) ++ wsX80 ++ wsX20 ++ wsX70 ++ wsX60)
def wsX8_isKind : List Cond := .code yX8_isKind cX8_isKind 1 (some .boolean) :: ([])
def wsX8_as : List Cond := .code yX8_as cX8_as 5 (some .int) :: ([.fieldLink RX8 26 "HarpPedals" "played" "LHarpPedals$Part;", .methodLink RX8 103 yX2_has, .instanceMethod yX2_has, .selects RX2 yX2_has yX2_has, .initialized RX2, .code yX2_has cX2_has 2 (some .boolean), .fieldLink RX2 18 "HarpPedals$Part" "size" "I", .methodLink RX8 127 yX8_isKind, .static yX8_isKind, .initialized RX8, .code yX8_isKind cX8_isKind 1 (some .boolean), .methodLink RX8 130 yX8_isHeld, .static yX8_isHeld, .code yX8_isHeld cX8_isHeld 1 (some .boolean)] ++ wsX80 ++ wsX20)
def wsX8_isPedal : List Cond := .code yX8_isPedal cX8_isPedal 1 (some .boolean) :: ([])
def wsX8_tone : List Cond := .code yX8_tone cX8_tone 3 (some .int) :: ([.methodLink RX8 133 yX8_isPedal, .static yX8_isPedal, .initialized RX8, .code yX8_isPedal cX8_isPedal 1 (some .boolean), .methodLink RX8 136 yX8_isPosition, .static yX8_isPosition, .code yX8_isPosition cX8_isPosition 1 (some .boolean), .methodLink RX8 139 yX7_toneAt, .static yX7_toneAt, .initialized RX7, .code yX7_toneAt cX7_toneAt 2 (some .int), .fieldLink RX7 26 "HarpPedals$Settings" "NATURAL_TONES" "[I"])
def wsX8_press_r1 : List Cond := [Cond.fieldLink RX8 26 "HarpPedals" "played" "LHarpPedals$Part;", Cond.fieldLink RX8 55 "HarpPedals" "planner" "LHarpPedals$Planner;", Cond.methodLink RX8 133 yX8_isPedal, Cond.static yX8_isPedal, Cond.initialized RX8, Cond.code yX8_isPedal cX8_isPedal 1 (some .boolean), Cond.methodLink RX8 136 yX8_isPosition, Cond.static yX8_isPosition, Cond.code yX8_isPosition cX8_isPosition 1 (some .boolean), Cond.methodLink RX8 145 yX7_moved, Cond.static yX7_moved, Cond.initialized RX7, Cond.code yX7_moved cX7_moved 3 (some .int), Cond.fieldLink RX7 33 "HarpPedals$Settings" "WEIGHTS" "[I", Cond.methodLink RX7 29 yX7_positionAt, Cond.static yX7_positionAt, Cond.code yX7_positionAt cX7_positionAt 2 (some .int), Cond.methodLink RX8 93 yX3_makeStale, Cond.instanceMethod yX3_makeStale, Cond.selects RX3 yX3_makeStale yX3_makeStale, Cond.initialized RX3, Cond.code yX3_makeStale cX3_makeStale 1 none, Cond.fieldLink RX3 39 "HarpPedals$Planner" "shiftOfScore" "I", Cond.fieldLink RX3 47 "HarpPedals$Planner" "bestIsKnown" "Z"]
def wsX8_press_r2 : List Cond := [Cond.methodLink RX8 149 yX7_numberOf, Cond.static yX7_numberOf, Cond.code yX7_numberOf cX7_numberOf 3 (some .int)]
def wsX8_press : List Cond := .code yX8_press cX8_press 3 (some .int) :: ((wsX8_press_r1 ++ wsX8_press_r2) ++ wsX80 ++ wsX20 ++ wsX30)
def wsX8_areTones : List Cond := .code yX8_areTones cX8_areTones 1 (some .boolean) :: ([.methodLink RX8 221 yJ6_bitCount_0f7a4, .static yJ6_bitCount_0f7a4, .initialized RJ6, .code yJ6_bitCount_0f7a4 cJ6_bitCount_0f7a4 1 (some .int), .constant RJ6 265 (1431655765), .constant RJ6 266 (858993459), .constant RJ6 267 (252645135)])
def wsX8_put_r1 : List Cond := [Cond.fieldLink RX8 26 "HarpPedals" "played" "LHarpPedals$Part;", Cond.fieldLink RX8 55 "HarpPedals" "planner" "LHarpPedals$Planner;", Cond.methodLink RX8 127 yX8_isKind, Cond.static yX8_isKind, Cond.initialized RX8, Cond.code yX8_isKind cX8_isKind 1 (some .boolean), Cond.methodLink RX8 152 yX8_areTones, Cond.static yX8_areTones, Cond.code yX8_areTones cX8_areTones 1 (some .boolean), Cond.methodLink RX8 221 yJ6_bitCount_0f7a4, Cond.static yJ6_bitCount_0f7a4, Cond.initialized RJ6, Cond.code yJ6_bitCount_0f7a4 cJ6_bitCount_0f7a4 1 (some .int), Cond.constant RJ6 265 (1431655765), Cond.constant RJ6 266 (858993459), Cond.constant RJ6 267 (252645135), Cond.methodLink RX8 155 yX2_insert, Cond.instanceMethod yX2_insert, Cond.selects RX2 yX2_insert yX2_insert, Cond.initialized RX2, Cond.code yX2_insert cX2_insert 5 (some .boolean), Cond.fieldLink RX2 18 "HarpPedals$Part" "size" "I", Cond.fieldLink RX2 9 "HarpPedals$Part" "kinds" "[I", Cond.fieldLink RX2 15 "HarpPedals$Part" "tones" "[I"]
def wsX8_put_r2 : List Cond := [Cond.methodLink RX8 93 yX3_makeStale, Cond.instanceMethod yX3_makeStale, Cond.selects RX3 yX3_makeStale yX3_makeStale, Cond.initialized RX3, Cond.code yX3_makeStale cX3_makeStale 1 none, Cond.fieldLink RX3 39 "HarpPedals$Planner" "shiftOfScore" "I", Cond.fieldLink RX3 47 "HarpPedals$Planner" "bestIsKnown" "Z"]
def wsX8_put : List Cond := .code yX8_put cX8_put 4 (some .int) :: ((wsX8_put_r1 ++ wsX8_put_r2) ++ wsX80 ++ wsX20 ++ wsX30)
def wsX8_take : List Cond := .code yX8_take cX8_take 2 (some .int) :: ([.fieldLink RX8 26 "HarpPedals" "played" "LHarpPedals$Part;", .fieldLink RX8 55 "HarpPedals" "planner" "LHarpPedals$Planner;", .methodLink RX8 103 yX2_has, .instanceMethod yX2_has, .selects RX2 yX2_has yX2_has, .initialized RX2, .code yX2_has cX2_has 2 (some .boolean), .fieldLink RX2 18 "HarpPedals$Part" "size" "I", .methodLink RX8 159 yX2_remove, .instanceMethod yX2_remove, .selects RX2 yX2_remove yX2_remove, .code yX2_remove cX2_remove 3 none, .fieldLink RX2 9 "HarpPedals$Part" "kinds" "[I", .fieldLink RX2 15 "HarpPedals$Part" "tones" "[I", .methodLink RX2 31 yX2_has, .methodLink RX8 93 yX3_makeStale, .instanceMethod yX3_makeStale, .selects RX3 yX3_makeStale yX3_makeStale, .initialized RX3, .code yX3_makeStale cX3_makeStale 1 none, .fieldLink RX3 39 "HarpPedals$Planner" "shiftOfScore" "I", .fieldLink RX3 47 "HarpPedals$Planner" "bestIsKnown" "Z"] ++ wsX80 ++ wsX20 ++ wsX30)
def wsX8_swap_r1 : List Cond := [Cond.fieldLink RX8 26 "HarpPedals" "played" "LHarpPedals$Part;", Cond.fieldLink RX8 55 "HarpPedals" "planner" "LHarpPedals$Planner;", Cond.methodLink RX8 103 yX2_has, Cond.instanceMethod yX2_has, Cond.selects RX2 yX2_has yX2_has, Cond.initialized RX2, Cond.code yX2_has cX2_has 2 (some .boolean), Cond.fieldLink RX2 18 "HarpPedals$Part" "size" "I", Cond.methodLink RX8 163 yX2_exchange, Cond.instanceMethod yX2_exchange, Cond.selects RX2 yX2_exchange yX2_exchange, Cond.code yX2_exchange cX2_exchange 5 none, Cond.fieldLink RX2 9 "HarpPedals$Part" "kinds" "[I", Cond.fieldLink RX2 15 "HarpPedals$Part" "tones" "[I", Cond.methodLink RX2 31 yX2_has, Cond.methodLink RX8 93 yX3_makeStale, Cond.instanceMethod yX3_makeStale, Cond.selects RX3 yX3_makeStale yX3_makeStale, Cond.initialized RX3, Cond.code yX3_makeStale cX3_makeStale 1 none, Cond.fieldLink RX3 39 "HarpPedals$Planner" "shiftOfScore" "I", Cond.fieldLink RX3 47 "HarpPedals$Planner" "bestIsKnown" "Z", Cond.methodLink RX8 167 yX3_fewest, Cond.instanceMethod yX3_fewest]
def wsX8_swap_r2 : List Cond := [Cond.selects RX3 yX3_fewest yX3_fewest, Cond.code yX3_fewest cX3_fewest 3 (some .int), Cond.fieldLink RX3 55 "HarpPedals$Planner" "score" "I", Cond.constant RX3 58 (1073741824), Cond.methodLink RX3 51 yX3_goForward, Cond.instanceMethod yX3_goForward, Cond.selects RX3 yX3_goForward yX3_goForward, Cond.code yX3_goForward cX3_goForward 7 none, Cond.fieldLink RX3 18 "HarpPedals$Planner" "oneRow" "[I", Cond.fieldLink RX3 22 "HarpPedals$Planner" "otherRow" "[I", Cond.fieldLink RX3 33 "HarpPedals$Planner" "reached" "[I", Cond.methodLink RX3 82 yJ7_fill_53178, Cond.static yJ7_fill_53178, Cond.initialized RJ7, Cond.code yJ7_fill_53178 cJ7_fill_53178 4 none, Cond.methodLink RX3 89 yX7_isSetting, Cond.static yX7_isSetting, Cond.initialized RX7, Cond.code yX7_isSetting cX7_isSetting 1 (some .boolean), Cond.methodLink RX3 92 yX3_setGapAheadOf, Cond.instanceMethod yX3_setGapAheadOf, Cond.selects RX3 yX3_setGapAheadOf yX3_setGapAheadOf, Cond.code yX3_setGapAheadOf cX3_setGapAheadOf 5 none, Cond.fieldLink RX3 14 "HarpPedals$Planner" "gap" "LHarpPedals$Gap;"]
def wsX8_swap_r3 : List Cond := [Cond.static yX8_isHeld, Cond.initialized RX8, Cond.code yX8_isHeld cX8_isHeld 1 (some .boolean), Cond.static yX8_raised, Cond.code yX8_raised cX8_raised 2 (some .int), Cond.methodLink RX3 140 yX0_set, Cond.instanceMethod yX0_set, Cond.selects RX0 yX0_set yX0_set, Cond.initialized RX0, Cond.code yX0_set cX0_set 6 none, Cond.fieldLink RX0 9 "HarpPedals$Gap" "mostMoves" "I", Cond.fieldLink RX0 15 "HarpPedals$Gap" "held" "I", Cond.methodLink RX0 18 yX7_toneAt, Cond.static yX7_toneAt, Cond.code yX7_toneAt cX7_toneAt 2 (some .int), Cond.fieldLink RX7 26 "HarpPedals$Settings" "NATURAL_TONES" "[I", Cond.methodLink RX3 106 yX3_cross, Cond.instanceMethod yX3_cross, Cond.selects RX3 yX3_cross yX3_cross, Cond.code yX3_cross cX3_cross 11 none, Cond.fieldLink RX3 25 "HarpPedals$Planner" "halfway" "[I", Cond.methodLink RX3 147 arraycopyName, Cond.native arraycopyName, Cond.static arraycopyName]
def wsX8_swap_r4 : List Cond := [Cond.initialized "java/lang/System", Cond.fieldLink RX3 43 "HarpPedals$Planner" "settings" "LHarpPedals$Settings;", Cond.methodLink RX3 153 yX3_spreadByRight, Cond.instanceMethod yX3_spreadByRight, Cond.selects RX3 yX3_spreadByRight yX3_spreadByRight, Cond.code yX3_spreadByRight cX3_spreadByRight 9 none, Cond.constant RX3 161 (1048576), Cond.methodLink RX3 162 yX7_positionAt, Cond.static yX7_positionAt, Cond.code yX7_positionAt cX7_positionAt 2 (some .int), Cond.methodLink RX3 165 yX0_holds, Cond.instanceMethod yX0_holds, Cond.selects RX0 yX0_holds yX0_holds, Cond.code yX0_holds cX0_holds 3 (some .boolean), Cond.methodLink RX3 172 yX3_joined, Cond.static yX3_joined, Cond.code yX3_joined cX3_joined 3 (some .int), Cond.constant RX3 59 (1048575), Cond.constant RX3 175 (1000003), Cond.constant RX3 176 (-1048576), Cond.methodLink RX3 126 yX7_fits, Cond.instanceMethod yX7_fits, Cond.selects RX7 yX7_fits yX7_fits, Cond.code yX7_fits cX7_fits 5 (some .boolean)]
def wsX8_swap_r5 : List Cond := [Cond.fieldLink RX7 9 "HarpPedals$Settings" "tonesOf" "[I", Cond.methodLink RX3 157 yX3_gathered, Cond.instanceMethod yX3_gathered, Cond.selects RX3 yX3_gathered yX3_gathered, Cond.code yX3_gathered cX3_gathered 10 (some .int), Cond.methodLink RX3 110 yX3_howManyScored, Cond.static yX3_howManyScored, Cond.code yX3_howManyScored cX3_howManyScored 3 (some .int), Cond.methodLink RX3 114 yX3_bestScore, Cond.static yX3_bestScore, Cond.code yX3_bestScore cX3_bestScore 3 (some .int)]
def wsX8_swap : List Cond := .code yX8_swap cX8_swap 3 (some .int) :: ((wsX8_swap_r1 ++ (wsX8_swap_r2 ++ (wsX8_swap_r3 ++ (wsX8_swap_r4 ++ wsX8_swap_r5)))) ++ wsX80 ++ wsX20 ++ wsX30 ++ wsX00 ++ wsX70)
def wsX8_change : List Cond := .code yX8_change cX8_change 4 (some .int) :: ([.fieldLink RX8 26 "HarpPedals" "played" "LHarpPedals$Part;", .fieldLink RX8 55 "HarpPedals" "planner" "LHarpPedals$Planner;", .methodLink RX8 103 yX2_has, .instanceMethod yX2_has, .selects RX2 yX2_has yX2_has, .initialized RX2, .code yX2_has cX2_has 2 (some .boolean), .fieldLink RX2 18 "HarpPedals$Part" "size" "I", .methodLink RX8 127 yX8_isKind, .static yX8_isKind, .initialized RX8, .code yX8_isKind cX8_isKind 1 (some .boolean), .methodLink RX8 93 yX3_makeStale, .instanceMethod yX3_makeStale, .selects RX3 yX3_makeStale yX3_makeStale, .initialized RX3, .code yX3_makeStale cX3_makeStale 1 none, .fieldLink RX3 39 "HarpPedals$Planner" "shiftOfScore" "I", .fieldLink RX3 47 "HarpPedals$Planner" "bestIsKnown" "Z"] ++ wsX80 ++ wsX20 ++ wsX30)
def wsX8_isShift : List Cond := .code yX8_isShift cX8_isShift 1 (some .boolean) :: ([])
def wsX8_shift_r1 : List Cond := [Cond.fieldLink RX8 26 "HarpPedals" "played" "LHarpPedals$Part;", Cond.fieldLink RX8 55 "HarpPedals" "planner" "LHarpPedals$Planner;", Cond.methodLink RX8 171 yX8_isShift, Cond.static yX8_isShift, Cond.initialized RX8, Cond.code yX8_isShift cX8_isShift 1 (some .boolean), Cond.methodLink RX8 174 yX2_raise, Cond.instanceMethod yX2_raise, Cond.selects RX2 yX2_raise yX2_raise, Cond.initialized RX2, Cond.code yX2_raise cX2_raise 3 none, Cond.fieldLink RX2 18 "HarpPedals$Part" "size" "I", Cond.fieldLink RX2 15 "HarpPedals$Part" "tones" "[I", Cond.static yX8_raised, Cond.code yX8_raised cX8_raised 2 (some .int), Cond.methodLink RX8 93 yX3_makeStale, Cond.instanceMethod yX3_makeStale, Cond.selects RX3 yX3_makeStale yX3_makeStale, Cond.initialized RX3, Cond.code yX3_makeStale cX3_makeStale 1 none, Cond.fieldLink RX3 39 "HarpPedals$Planner" "shiftOfScore" "I", Cond.fieldLink RX3 47 "HarpPedals$Planner" "bestIsKnown" "Z", Cond.methodLink RX8 167 yX3_fewest, Cond.instanceMethod yX3_fewest]
def wsX8_shift_r2 : List Cond := [Cond.selects RX3 yX3_fewest yX3_fewest, Cond.code yX3_fewest cX3_fewest 3 (some .int), Cond.fieldLink RX3 55 "HarpPedals$Planner" "score" "I", Cond.constant RX3 58 (1073741824), Cond.methodLink RX3 51 yX3_goForward, Cond.instanceMethod yX3_goForward, Cond.selects RX3 yX3_goForward yX3_goForward, Cond.code yX3_goForward cX3_goForward 7 none, Cond.fieldLink RX3 18 "HarpPedals$Planner" "oneRow" "[I", Cond.fieldLink RX3 22 "HarpPedals$Planner" "otherRow" "[I", Cond.fieldLink RX3 33 "HarpPedals$Planner" "reached" "[I", Cond.methodLink RX3 82 yJ7_fill_53178, Cond.static yJ7_fill_53178, Cond.initialized RJ7, Cond.code yJ7_fill_53178 cJ7_fill_53178 4 none, Cond.methodLink RX3 89 yX7_isSetting, Cond.static yX7_isSetting, Cond.initialized RX7, Cond.code yX7_isSetting cX7_isSetting 1 (some .boolean), Cond.methodLink RX3 92 yX3_setGapAheadOf, Cond.instanceMethod yX3_setGapAheadOf, Cond.selects RX3 yX3_setGapAheadOf yX3_setGapAheadOf, Cond.code yX3_setGapAheadOf cX3_setGapAheadOf 5 none, Cond.fieldLink RX3 14 "HarpPedals$Planner" "gap" "LHarpPedals$Gap;"]
def wsX8_shift_r3 : List Cond := [Cond.static yX8_isHeld, Cond.code yX8_isHeld cX8_isHeld 1 (some .boolean), Cond.methodLink RX3 140 yX0_set, Cond.instanceMethod yX0_set, Cond.selects RX0 yX0_set yX0_set, Cond.initialized RX0, Cond.code yX0_set cX0_set 6 none, Cond.fieldLink RX0 9 "HarpPedals$Gap" "mostMoves" "I", Cond.fieldLink RX0 15 "HarpPedals$Gap" "held" "I", Cond.methodLink RX0 18 yX7_toneAt, Cond.static yX7_toneAt, Cond.code yX7_toneAt cX7_toneAt 2 (some .int), Cond.fieldLink RX7 26 "HarpPedals$Settings" "NATURAL_TONES" "[I", Cond.methodLink RX3 106 yX3_cross, Cond.instanceMethod yX3_cross, Cond.selects RX3 yX3_cross yX3_cross, Cond.code yX3_cross cX3_cross 11 none, Cond.fieldLink RX3 25 "HarpPedals$Planner" "halfway" "[I", Cond.methodLink RX3 147 arraycopyName, Cond.native arraycopyName, Cond.static arraycopyName, Cond.initialized "java/lang/System", Cond.fieldLink RX3 43 "HarpPedals$Planner" "settings" "LHarpPedals$Settings;", Cond.methodLink RX3 153 yX3_spreadByRight]
def wsX8_shift_r4 : List Cond := [Cond.instanceMethod yX3_spreadByRight, Cond.selects RX3 yX3_spreadByRight yX3_spreadByRight, Cond.code yX3_spreadByRight cX3_spreadByRight 9 none, Cond.constant RX3 161 (1048576), Cond.methodLink RX3 162 yX7_positionAt, Cond.static yX7_positionAt, Cond.code yX7_positionAt cX7_positionAt 2 (some .int), Cond.methodLink RX3 165 yX0_holds, Cond.instanceMethod yX0_holds, Cond.selects RX0 yX0_holds yX0_holds, Cond.code yX0_holds cX0_holds 3 (some .boolean), Cond.methodLink RX3 172 yX3_joined, Cond.static yX3_joined, Cond.code yX3_joined cX3_joined 3 (some .int), Cond.constant RX3 59 (1048575), Cond.constant RX3 175 (1000003), Cond.constant RX3 176 (-1048576), Cond.methodLink RX3 126 yX7_fits, Cond.instanceMethod yX7_fits, Cond.selects RX7 yX7_fits yX7_fits, Cond.code yX7_fits cX7_fits 5 (some .boolean), Cond.fieldLink RX7 9 "HarpPedals$Settings" "tonesOf" "[I", Cond.methodLink RX3 157 yX3_gathered, Cond.instanceMethod yX3_gathered]
def wsX8_shift_r5 : List Cond := [Cond.selects RX3 yX3_gathered yX3_gathered, Cond.code yX3_gathered cX3_gathered 10 (some .int), Cond.methodLink RX3 110 yX3_howManyScored, Cond.static yX3_howManyScored, Cond.code yX3_howManyScored cX3_howManyScored 3 (some .int), Cond.methodLink RX3 114 yX3_bestScore, Cond.static yX3_bestScore, Cond.code yX3_bestScore cX3_bestScore 3 (some .int)]
def wsX8_shift : List Cond := .code yX8_shift cX8_shift 2 (some .int) :: ((wsX8_shift_r1 ++ (wsX8_shift_r2 ++ (wsX8_shift_r3 ++ (wsX8_shift_r4 ++ wsX8_shift_r5)))) ++ wsX80 ++ wsX20 ++ wsX30 ++ wsX00 ++ wsX70)
def wsX8_plan_r1 : List Cond := [Cond.fieldLink RX8 26 "HarpPedals" "played" "LHarpPedals$Part;", Cond.fieldLink RX8 55 "HarpPedals" "planner" "LHarpPedals$Planner;", Cond.methodLink RX8 167 yX3_fewest, Cond.instanceMethod yX3_fewest, Cond.selects RX3 yX3_fewest yX3_fewest, Cond.initialized RX3, Cond.code yX3_fewest cX3_fewest 3 (some .int), Cond.fieldLink RX3 55 "HarpPedals$Planner" "score" "I", Cond.constant RX3 58 (1073741824), Cond.methodLink RX3 51 yX3_goForward, Cond.instanceMethod yX3_goForward, Cond.selects RX3 yX3_goForward yX3_goForward, Cond.code yX3_goForward cX3_goForward 7 none, Cond.fieldLink RX3 39 "HarpPedals$Planner" "shiftOfScore" "I", Cond.fieldLink RX3 18 "HarpPedals$Planner" "oneRow" "[I", Cond.fieldLink RX3 22 "HarpPedals$Planner" "otherRow" "[I", Cond.fieldLink RX3 33 "HarpPedals$Planner" "reached" "[I", Cond.methodLink RX3 82 yJ7_fill_53178, Cond.static yJ7_fill_53178, Cond.initialized RJ7, Cond.code yJ7_fill_53178 cJ7_fill_53178 4 none, Cond.methodLink RX3 89 yX7_isSetting, Cond.static yX7_isSetting, Cond.initialized RX7]
def wsX8_plan_r2 : List Cond := [Cond.code yX7_isSetting cX7_isSetting 1 (some .boolean), Cond.methodLink RX3 92 yX3_setGapAheadOf, Cond.instanceMethod yX3_setGapAheadOf, Cond.selects RX3 yX3_setGapAheadOf yX3_setGapAheadOf, Cond.code yX3_setGapAheadOf cX3_setGapAheadOf 5 none, Cond.fieldLink RX3 14 "HarpPedals$Planner" "gap" "LHarpPedals$Gap;", Cond.static yX8_isHeld, Cond.initialized RX8, Cond.code yX8_isHeld cX8_isHeld 1 (some .boolean), Cond.static yX8_raised, Cond.code yX8_raised cX8_raised 2 (some .int), Cond.methodLink RX3 140 yX0_set, Cond.instanceMethod yX0_set, Cond.selects RX0 yX0_set yX0_set, Cond.initialized RX0, Cond.code yX0_set cX0_set 6 none, Cond.fieldLink RX0 9 "HarpPedals$Gap" "mostMoves" "I", Cond.fieldLink RX0 15 "HarpPedals$Gap" "held" "I", Cond.methodLink RX0 18 yX7_toneAt, Cond.static yX7_toneAt, Cond.code yX7_toneAt cX7_toneAt 2 (some .int), Cond.fieldLink RX7 26 "HarpPedals$Settings" "NATURAL_TONES" "[I", Cond.methodLink RX3 106 yX3_cross, Cond.instanceMethod yX3_cross]
def wsX8_plan_r3 : List Cond := [Cond.selects RX3 yX3_cross yX3_cross, Cond.code yX3_cross cX3_cross 11 none, Cond.fieldLink RX3 25 "HarpPedals$Planner" "halfway" "[I", Cond.methodLink RX3 147 arraycopyName, Cond.native arraycopyName, Cond.static arraycopyName, Cond.initialized "java/lang/System", Cond.fieldLink RX3 43 "HarpPedals$Planner" "settings" "LHarpPedals$Settings;", Cond.methodLink RX3 153 yX3_spreadByRight, Cond.instanceMethod yX3_spreadByRight, Cond.selects RX3 yX3_spreadByRight yX3_spreadByRight, Cond.code yX3_spreadByRight cX3_spreadByRight 9 none, Cond.constant RX3 161 (1048576), Cond.methodLink RX3 162 yX7_positionAt, Cond.static yX7_positionAt, Cond.code yX7_positionAt cX7_positionAt 2 (some .int), Cond.methodLink RX3 165 yX0_holds, Cond.instanceMethod yX0_holds, Cond.selects RX0 yX0_holds yX0_holds, Cond.code yX0_holds cX0_holds 3 (some .boolean), Cond.methodLink RX3 172 yX3_joined, Cond.static yX3_joined, Cond.code yX3_joined cX3_joined 3 (some .int), Cond.constant RX3 59 (1048575)]
def wsX8_plan_r4 : List Cond := [Cond.constant RX3 175 (1000003), Cond.constant RX3 176 (-1048576), Cond.methodLink RX3 126 yX7_fits, Cond.instanceMethod yX7_fits, Cond.selects RX7 yX7_fits yX7_fits, Cond.code yX7_fits cX7_fits 5 (some .boolean), Cond.fieldLink RX7 9 "HarpPedals$Settings" "tonesOf" "[I", Cond.methodLink RX3 157 yX3_gathered, Cond.instanceMethod yX3_gathered, Cond.selects RX3 yX3_gathered yX3_gathered, Cond.code yX3_gathered cX3_gathered 10 (some .int), Cond.methodLink RX3 110 yX3_howManyScored, Cond.static yX3_howManyScored, Cond.code yX3_howManyScored cX3_howManyScored 3 (some .int), Cond.methodLink RX3 114 yX3_bestScore, Cond.static yX3_bestScore, Cond.code yX3_bestScore cX3_bestScore 3 (some .int), Cond.methodLink RX8 177 yX3_ways, Cond.instanceMethod yX3_ways, Cond.selects RX3 yX3_ways yX3_ways, Cond.code yX3_ways cX3_ways 2 (some .int), Cond.methodLink RX8 181 yX3_stuckAt, Cond.instanceMethod yX3_stuckAt, Cond.selects RX3 yX3_stuckAt yX3_stuckAt]
def wsX8_plan_r5 : List Cond := [Cond.code yX3_stuckAt cX3_stuckAt 3 (some .int)]
def wsX8_plan : List Cond := .code yX8_plan cX8_plan 2 (some .int) :: ((wsX8_plan_r1 ++ (wsX8_plan_r2 ++ (wsX8_plan_r3 ++ (wsX8_plan_r4 ++ wsX8_plan_r5)))) ++ wsX80 ++ wsX20 ++ wsX30 ++ wsX00 ++ wsX70)
def wsX8_setting_r1 : List Cond := [Cond.fieldLink RX8 26 "HarpPedals" "played" "LHarpPedals$Part;", Cond.fieldLink RX8 55 "HarpPedals" "planner" "LHarpPedals$Planner;", Cond.methodLink RX8 103 yX2_has, Cond.instanceMethod yX2_has, Cond.selects RX2 yX2_has yX2_has, Cond.initialized RX2, Cond.code yX2_has cX2_has 2 (some .boolean), Cond.fieldLink RX2 18 "HarpPedals$Part" "size" "I", Cond.methodLink RX8 184 yX3_bestSetting, Cond.instanceMethod yX3_bestSetting, Cond.selects RX3 yX3_bestSetting yX3_bestSetting, Cond.initialized RX3, Cond.code yX3_bestSetting cX3_bestSetting 4 (some .int), Cond.fieldLink RX3 36 "HarpPedals$Planner" "best" "[I", Cond.methodLink RX3 69 yX3_findBest, Cond.instanceMethod yX3_findBest, Cond.selects RX3 yX3_findBest yX3_findBest, Cond.code yX3_findBest cX3_findBest 2 none, Cond.fieldLink RX3 47 "HarpPedals$Planner" "bestIsKnown" "Z", Cond.fieldLink RX3 30 "HarpPedals$Planner" "onward" "[[I", Cond.fieldLink RX3 79 "HarpPedals$Planner" "begin" "I", Cond.methodLink RX3 117 yX3_goBackward, Cond.instanceMethod yX3_goBackward, Cond.selects RX3 yX3_goBackward yX3_goBackward]
def wsX8_setting_r2 : List Cond := [Cond.code yX3_goBackward cX3_goBackward 5 none, Cond.fieldLink RX3 43 "HarpPedals$Planner" "settings" "LHarpPedals$Settings;", Cond.constant RX3 58 (1073741824), Cond.methodLink RX3 126 yX7_fits, Cond.instanceMethod yX7_fits, Cond.selects RX7 yX7_fits yX7_fits, Cond.initialized RX7, Cond.code yX7_fits cX7_fits 5 (some .boolean), Cond.fieldLink RX7 9 "HarpPedals$Settings" "tonesOf" "[I", Cond.methodLink RX3 92 yX3_setGapAheadOf, Cond.instanceMethod yX3_setGapAheadOf, Cond.selects RX3 yX3_setGapAheadOf yX3_setGapAheadOf, Cond.code yX3_setGapAheadOf cX3_setGapAheadOf 5 none, Cond.fieldLink RX3 14 "HarpPedals$Planner" "gap" "LHarpPedals$Gap;", Cond.static yX8_isHeld, Cond.initialized RX8, Cond.code yX8_isHeld cX8_isHeld 1 (some .boolean), Cond.static yX8_raised, Cond.code yX8_raised cX8_raised 2 (some .int), Cond.methodLink RX3 140 yX0_set, Cond.instanceMethod yX0_set, Cond.selects RX0 yX0_set yX0_set, Cond.initialized RX0, Cond.code yX0_set cX0_set 6 none]
def wsX8_setting_r3 : List Cond := [Cond.fieldLink RX0 9 "HarpPedals$Gap" "mostMoves" "I", Cond.fieldLink RX0 15 "HarpPedals$Gap" "held" "I", Cond.methodLink RX0 18 yX7_toneAt, Cond.static yX7_toneAt, Cond.code yX7_toneAt cX7_toneAt 2 (some .int), Cond.fieldLink RX7 26 "HarpPedals$Settings" "NATURAL_TONES" "[I", Cond.methodLink RX3 106 yX3_cross, Cond.instanceMethod yX3_cross, Cond.selects RX3 yX3_cross yX3_cross, Cond.code yX3_cross cX3_cross 11 none, Cond.fieldLink RX3 25 "HarpPedals$Planner" "halfway" "[I", Cond.methodLink RX3 147 arraycopyName, Cond.native arraycopyName, Cond.static arraycopyName, Cond.initialized "java/lang/System", Cond.methodLink RX3 153 yX3_spreadByRight, Cond.instanceMethod yX3_spreadByRight, Cond.selects RX3 yX3_spreadByRight yX3_spreadByRight, Cond.code yX3_spreadByRight cX3_spreadByRight 9 none, Cond.constant RX3 161 (1048576), Cond.methodLink RX3 162 yX7_positionAt, Cond.static yX7_positionAt, Cond.code yX7_positionAt cX7_positionAt 2 (some .int), Cond.methodLink RX3 165 yX0_holds]
def wsX8_setting_r4 : List Cond := [Cond.instanceMethod yX0_holds, Cond.selects RX0 yX0_holds yX0_holds, Cond.code yX0_holds cX0_holds 3 (some .boolean), Cond.methodLink RX3 172 yX3_joined, Cond.static yX3_joined, Cond.code yX3_joined cX3_joined 3 (some .int), Cond.constant RX3 59 (1048575), Cond.constant RX3 175 (1000003), Cond.constant RX3 176 (-1048576), Cond.methodLink RX3 157 yX3_gathered, Cond.instanceMethod yX3_gathered, Cond.selects RX3 yX3_gathered yX3_gathered, Cond.code yX3_gathered cX3_gathered 10 (some .int), Cond.methodLink RX3 120 yX3_settingOfBestScore, Cond.static yX3_settingOfBestScore, Cond.code yX3_settingOfBestScore cX3_settingOfBestScore 4 (some .int), Cond.methodLink RX3 123 yX3_followBest, Cond.instanceMethod yX3_followBest, Cond.selects RX3 yX3_followBest yX3_followBest, Cond.code yX3_followBest cX3_followBest 4 none, Cond.methodLink RX3 130 yX3_bestNext, Cond.instanceMethod yX3_bestNext, Cond.selects RX3 yX3_bestNext yX3_bestNext, Cond.code yX3_bestNext cX3_bestNext 8 (some .int)]
def wsX8_setting_r5 : List Cond := [Cond.methodLink RX3 134 yX0_movesBetween, Cond.instanceMethod yX0_movesBetween, Cond.selects RX0 yX0_movesBetween yX0_movesBetween, Cond.code yX0_movesBetween cX0_movesBetween 7 (some .int), Cond.methodLink RX0 24 yX7_positionAt, Cond.methodLink RX0 27 yX0_holds, Cond.methodLink RX3 65 yX2_has, Cond.methodLink RX3 73 yX7_numberOf, Cond.static yX7_numberOf, Cond.code yX7_numberOf cX7_numberOf 3 (some .int), Cond.methodLink RX7 29 yX7_positionAt]
def wsX8_setting : List Cond := .code yX8_setting cX8_setting 2 (some .int) :: ((wsX8_setting_r1 ++ (wsX8_setting_r2 ++ (wsX8_setting_r3 ++ (wsX8_setting_r4 ++ wsX8_setting_r5)))) ++ wsX80 ++ wsX20 ++ wsX30 ++ wsX70 ++ wsX00)
def wsX8_reach_r1 : List Cond := [Cond.fieldLink RX8 26 "HarpPedals" "played" "LHarpPedals$Part;", Cond.fieldLink RX8 55 "HarpPedals" "planner" "LHarpPedals$Planner;", Cond.methodLink RX8 103 yX2_has, Cond.instanceMethod yX2_has, Cond.selects RX2 yX2_has yX2_has, Cond.initialized RX2, Cond.code yX2_has cX2_has 2 (some .boolean), Cond.fieldLink RX2 18 "HarpPedals$Part" "size" "I", Cond.methodLink RX8 187 yX3_howManyReached, Cond.instanceMethod yX3_howManyReached, Cond.selects RX3 yX3_howManyReached yX3_howManyReached, Cond.initialized RX3, Cond.code yX3_howManyReached cX3_howManyReached 3 (some .int), Cond.fieldLink RX3 33 "HarpPedals$Planner" "reached" "[I", Cond.methodLink RX3 51 yX3_goForward, Cond.instanceMethod yX3_goForward, Cond.selects RX3 yX3_goForward yX3_goForward, Cond.code yX3_goForward cX3_goForward 7 none, Cond.fieldLink RX3 39 "HarpPedals$Planner" "shiftOfScore" "I", Cond.fieldLink RX3 18 "HarpPedals$Planner" "oneRow" "[I", Cond.fieldLink RX3 22 "HarpPedals$Planner" "otherRow" "[I", Cond.constant RX3 58 (1073741824), Cond.fieldLink RX3 55 "HarpPedals$Planner" "score" "I", Cond.methodLink RX3 82 yJ7_fill_53178]
def wsX8_reach_r2 : List Cond := [Cond.static yJ7_fill_53178, Cond.initialized RJ7, Cond.code yJ7_fill_53178 cJ7_fill_53178 4 none, Cond.methodLink RX3 89 yX7_isSetting, Cond.static yX7_isSetting, Cond.initialized RX7, Cond.code yX7_isSetting cX7_isSetting 1 (some .boolean), Cond.methodLink RX3 92 yX3_setGapAheadOf, Cond.instanceMethod yX3_setGapAheadOf, Cond.selects RX3 yX3_setGapAheadOf yX3_setGapAheadOf, Cond.code yX3_setGapAheadOf cX3_setGapAheadOf 5 none, Cond.fieldLink RX3 14 "HarpPedals$Planner" "gap" "LHarpPedals$Gap;", Cond.static yX8_isHeld, Cond.initialized RX8, Cond.code yX8_isHeld cX8_isHeld 1 (some .boolean), Cond.static yX8_raised, Cond.code yX8_raised cX8_raised 2 (some .int), Cond.methodLink RX3 140 yX0_set, Cond.instanceMethod yX0_set, Cond.selects RX0 yX0_set yX0_set, Cond.initialized RX0, Cond.code yX0_set cX0_set 6 none, Cond.fieldLink RX0 9 "HarpPedals$Gap" "mostMoves" "I", Cond.fieldLink RX0 15 "HarpPedals$Gap" "held" "I"]
def wsX8_reach_r3 : List Cond := [Cond.methodLink RX0 18 yX7_toneAt, Cond.static yX7_toneAt, Cond.code yX7_toneAt cX7_toneAt 2 (some .int), Cond.fieldLink RX7 26 "HarpPedals$Settings" "NATURAL_TONES" "[I", Cond.methodLink RX3 106 yX3_cross, Cond.instanceMethod yX3_cross, Cond.selects RX3 yX3_cross yX3_cross, Cond.code yX3_cross cX3_cross 11 none, Cond.fieldLink RX3 25 "HarpPedals$Planner" "halfway" "[I", Cond.methodLink RX3 147 arraycopyName, Cond.native arraycopyName, Cond.static arraycopyName, Cond.initialized "java/lang/System", Cond.fieldLink RX3 43 "HarpPedals$Planner" "settings" "LHarpPedals$Settings;", Cond.methodLink RX3 153 yX3_spreadByRight, Cond.instanceMethod yX3_spreadByRight, Cond.selects RX3 yX3_spreadByRight yX3_spreadByRight, Cond.code yX3_spreadByRight cX3_spreadByRight 9 none, Cond.constant RX3 161 (1048576), Cond.methodLink RX3 162 yX7_positionAt, Cond.static yX7_positionAt, Cond.code yX7_positionAt cX7_positionAt 2 (some .int), Cond.methodLink RX3 165 yX0_holds, Cond.instanceMethod yX0_holds]
def wsX8_reach_r4 : List Cond := [Cond.selects RX0 yX0_holds yX0_holds, Cond.code yX0_holds cX0_holds 3 (some .boolean), Cond.methodLink RX3 172 yX3_joined, Cond.static yX3_joined, Cond.code yX3_joined cX3_joined 3 (some .int), Cond.constant RX3 59 (1048575), Cond.constant RX3 175 (1000003), Cond.constant RX3 176 (-1048576), Cond.methodLink RX3 126 yX7_fits, Cond.instanceMethod yX7_fits, Cond.selects RX7 yX7_fits yX7_fits, Cond.code yX7_fits cX7_fits 5 (some .boolean), Cond.fieldLink RX7 9 "HarpPedals$Settings" "tonesOf" "[I", Cond.methodLink RX3 157 yX3_gathered, Cond.instanceMethod yX3_gathered, Cond.selects RX3 yX3_gathered yX3_gathered, Cond.code yX3_gathered cX3_gathered 10 (some .int), Cond.methodLink RX3 110 yX3_howManyScored, Cond.static yX3_howManyScored, Cond.code yX3_howManyScored cX3_howManyScored 3 (some .int), Cond.methodLink RX3 114 yX3_bestScore, Cond.static yX3_bestScore, Cond.code yX3_bestScore cX3_bestScore 3 (some .int), Cond.methodLink RX3 65 yX2_has]
def wsX8_reach : List Cond := .code yX8_reach cX8_reach 2 (some .int) :: ((wsX8_reach_r1 ++ (wsX8_reach_r2 ++ (wsX8_reach_r3 ++ wsX8_reach_r4))) ++ wsX80 ++ wsX20 ++ wsX30 ++ wsX00 ++ wsX70)
def wsX8_shifted_r1 : List Cond := [Cond.fieldLink RX8 26 "HarpPedals" "played" "LHarpPedals$Part;", Cond.fieldLink RX8 55 "HarpPedals" "planner" "LHarpPedals$Planner;", Cond.methodLink RX8 171 yX8_isShift, Cond.static yX8_isShift, Cond.initialized RX8, Cond.code yX8_isShift cX8_isShift 1 (some .boolean), Cond.methodLink RX8 167 yX3_fewest, Cond.instanceMethod yX3_fewest, Cond.selects RX3 yX3_fewest yX3_fewest, Cond.initialized RX3, Cond.code yX3_fewest cX3_fewest 3 (some .int), Cond.fieldLink RX3 55 "HarpPedals$Planner" "score" "I", Cond.constant RX3 58 (1073741824), Cond.methodLink RX3 51 yX3_goForward, Cond.instanceMethod yX3_goForward, Cond.selects RX3 yX3_goForward yX3_goForward, Cond.code yX3_goForward cX3_goForward 7 none, Cond.fieldLink RX3 39 "HarpPedals$Planner" "shiftOfScore" "I", Cond.fieldLink RX3 18 "HarpPedals$Planner" "oneRow" "[I", Cond.fieldLink RX3 22 "HarpPedals$Planner" "otherRow" "[I", Cond.fieldLink RX3 33 "HarpPedals$Planner" "reached" "[I", Cond.methodLink RX3 82 yJ7_fill_53178, Cond.static yJ7_fill_53178, Cond.initialized RJ7]
def wsX8_shifted_r2 : List Cond := [Cond.code yJ7_fill_53178 cJ7_fill_53178 4 none, Cond.methodLink RX3 89 yX7_isSetting, Cond.static yX7_isSetting, Cond.initialized RX7, Cond.code yX7_isSetting cX7_isSetting 1 (some .boolean), Cond.methodLink RX3 92 yX3_setGapAheadOf, Cond.instanceMethod yX3_setGapAheadOf, Cond.selects RX3 yX3_setGapAheadOf yX3_setGapAheadOf, Cond.code yX3_setGapAheadOf cX3_setGapAheadOf 5 none, Cond.fieldLink RX3 14 "HarpPedals$Planner" "gap" "LHarpPedals$Gap;", Cond.static yX8_isHeld, Cond.code yX8_isHeld cX8_isHeld 1 (some .boolean), Cond.static yX8_raised, Cond.code yX8_raised cX8_raised 2 (some .int), Cond.methodLink RX3 140 yX0_set, Cond.instanceMethod yX0_set, Cond.selects RX0 yX0_set yX0_set, Cond.initialized RX0, Cond.code yX0_set cX0_set 6 none, Cond.fieldLink RX0 9 "HarpPedals$Gap" "mostMoves" "I", Cond.fieldLink RX0 15 "HarpPedals$Gap" "held" "I", Cond.methodLink RX0 18 yX7_toneAt, Cond.static yX7_toneAt, Cond.code yX7_toneAt cX7_toneAt 2 (some .int)]
def wsX8_shifted_r3 : List Cond := [Cond.fieldLink RX7 26 "HarpPedals$Settings" "NATURAL_TONES" "[I", Cond.methodLink RX3 106 yX3_cross, Cond.instanceMethod yX3_cross, Cond.selects RX3 yX3_cross yX3_cross, Cond.code yX3_cross cX3_cross 11 none, Cond.fieldLink RX3 25 "HarpPedals$Planner" "halfway" "[I", Cond.methodLink RX3 147 arraycopyName, Cond.native arraycopyName, Cond.static arraycopyName, Cond.initialized "java/lang/System", Cond.fieldLink RX3 43 "HarpPedals$Planner" "settings" "LHarpPedals$Settings;", Cond.methodLink RX3 153 yX3_spreadByRight, Cond.instanceMethod yX3_spreadByRight, Cond.selects RX3 yX3_spreadByRight yX3_spreadByRight, Cond.code yX3_spreadByRight cX3_spreadByRight 9 none, Cond.constant RX3 161 (1048576), Cond.methodLink RX3 162 yX7_positionAt, Cond.static yX7_positionAt, Cond.code yX7_positionAt cX7_positionAt 2 (some .int), Cond.methodLink RX3 165 yX0_holds, Cond.instanceMethod yX0_holds, Cond.selects RX0 yX0_holds yX0_holds, Cond.code yX0_holds cX0_holds 3 (some .boolean), Cond.methodLink RX3 172 yX3_joined]
def wsX8_shifted_r4 : List Cond := [Cond.static yX3_joined, Cond.code yX3_joined cX3_joined 3 (some .int), Cond.constant RX3 59 (1048575), Cond.constant RX3 175 (1000003), Cond.constant RX3 176 (-1048576), Cond.methodLink RX3 126 yX7_fits, Cond.instanceMethod yX7_fits, Cond.selects RX7 yX7_fits yX7_fits, Cond.code yX7_fits cX7_fits 5 (some .boolean), Cond.fieldLink RX7 9 "HarpPedals$Settings" "tonesOf" "[I", Cond.methodLink RX3 157 yX3_gathered, Cond.instanceMethod yX3_gathered, Cond.selects RX3 yX3_gathered yX3_gathered, Cond.code yX3_gathered cX3_gathered 10 (some .int), Cond.methodLink RX3 110 yX3_howManyScored, Cond.static yX3_howManyScored, Cond.code yX3_howManyScored cX3_howManyScored 3 (some .int), Cond.methodLink RX3 114 yX3_bestScore, Cond.static yX3_bestScore, Cond.code yX3_bestScore cX3_bestScore 3 (some .int)]
def wsX8_shifted : List Cond := .code yX8_shifted cX8_shifted 2 (some .int) :: ((wsX8_shifted_r1 ++ (wsX8_shifted_r2 ++ (wsX8_shifted_r3 ++ wsX8_shifted_r4))) ++ wsX80 ++ wsX20 ++ wsX30 ++ wsX00 ++ wsX70)
def wsX8_leastShift_r1 : List Cond := [Cond.fieldLink RX8 26 "HarpPedals" "played" "LHarpPedals$Part;", Cond.fieldLink RX8 190 "HarpPedals" "shiftsAsked" "I", Cond.constant RX8 193 (1073741824), Cond.fieldLink RX8 55 "HarpPedals" "planner" "LHarpPedals$Planner;", Cond.methodLink RX8 167 yX3_fewest, Cond.instanceMethod yX3_fewest, Cond.selects RX3 yX3_fewest yX3_fewest, Cond.initialized RX3, Cond.code yX3_fewest cX3_fewest 3 (some .int), Cond.fieldLink RX3 55 "HarpPedals$Planner" "score" "I", Cond.constant RX3 58 (1073741824), Cond.methodLink RX3 51 yX3_goForward, Cond.instanceMethod yX3_goForward, Cond.selects RX3 yX3_goForward yX3_goForward, Cond.code yX3_goForward cX3_goForward 7 none, Cond.fieldLink RX3 39 "HarpPedals$Planner" "shiftOfScore" "I", Cond.fieldLink RX3 18 "HarpPedals$Planner" "oneRow" "[I", Cond.fieldLink RX3 22 "HarpPedals$Planner" "otherRow" "[I", Cond.fieldLink RX3 33 "HarpPedals$Planner" "reached" "[I", Cond.methodLink RX3 82 yJ7_fill_53178, Cond.static yJ7_fill_53178, Cond.initialized RJ7, Cond.code yJ7_fill_53178 cJ7_fill_53178 4 none, Cond.methodLink RX3 89 yX7_isSetting]
def wsX8_leastShift_r2 : List Cond := [Cond.static yX7_isSetting, Cond.initialized RX7, Cond.code yX7_isSetting cX7_isSetting 1 (some .boolean), Cond.methodLink RX3 92 yX3_setGapAheadOf, Cond.instanceMethod yX3_setGapAheadOf, Cond.selects RX3 yX3_setGapAheadOf yX3_setGapAheadOf, Cond.code yX3_setGapAheadOf cX3_setGapAheadOf 5 none, Cond.fieldLink RX3 14 "HarpPedals$Planner" "gap" "LHarpPedals$Gap;", Cond.static yX8_isHeld, Cond.initialized RX8, Cond.code yX8_isHeld cX8_isHeld 1 (some .boolean), Cond.static yX8_raised, Cond.code yX8_raised cX8_raised 2 (some .int), Cond.methodLink RX3 140 yX0_set, Cond.instanceMethod yX0_set, Cond.selects RX0 yX0_set yX0_set, Cond.initialized RX0, Cond.code yX0_set cX0_set 6 none, Cond.fieldLink RX0 9 "HarpPedals$Gap" "mostMoves" "I", Cond.fieldLink RX0 15 "HarpPedals$Gap" "held" "I", Cond.methodLink RX0 18 yX7_toneAt, Cond.static yX7_toneAt, Cond.code yX7_toneAt cX7_toneAt 2 (some .int), Cond.fieldLink RX7 26 "HarpPedals$Settings" "NATURAL_TONES" "[I"]
def wsX8_leastShift_r3 : List Cond := [Cond.methodLink RX3 106 yX3_cross, Cond.instanceMethod yX3_cross, Cond.selects RX3 yX3_cross yX3_cross, Cond.code yX3_cross cX3_cross 11 none, Cond.fieldLink RX3 25 "HarpPedals$Planner" "halfway" "[I", Cond.methodLink RX3 147 arraycopyName, Cond.native arraycopyName, Cond.static arraycopyName, Cond.initialized "java/lang/System", Cond.fieldLink RX3 43 "HarpPedals$Planner" "settings" "LHarpPedals$Settings;", Cond.methodLink RX3 153 yX3_spreadByRight, Cond.instanceMethod yX3_spreadByRight, Cond.selects RX3 yX3_spreadByRight yX3_spreadByRight, Cond.code yX3_spreadByRight cX3_spreadByRight 9 none, Cond.constant RX3 161 (1048576), Cond.methodLink RX3 162 yX7_positionAt, Cond.static yX7_positionAt, Cond.code yX7_positionAt cX7_positionAt 2 (some .int), Cond.methodLink RX3 165 yX0_holds, Cond.instanceMethod yX0_holds, Cond.selects RX0 yX0_holds yX0_holds, Cond.code yX0_holds cX0_holds 3 (some .boolean), Cond.methodLink RX3 172 yX3_joined, Cond.static yX3_joined]
def wsX8_leastShift_r4 : List Cond := [Cond.code yX3_joined cX3_joined 3 (some .int), Cond.constant RX3 59 (1048575), Cond.constant RX3 175 (1000003), Cond.constant RX3 176 (-1048576), Cond.methodLink RX3 126 yX7_fits, Cond.instanceMethod yX7_fits, Cond.selects RX7 yX7_fits yX7_fits, Cond.code yX7_fits cX7_fits 5 (some .boolean), Cond.fieldLink RX7 9 "HarpPedals$Settings" "tonesOf" "[I", Cond.methodLink RX3 157 yX3_gathered, Cond.instanceMethod yX3_gathered, Cond.selects RX3 yX3_gathered yX3_gathered, Cond.code yX3_gathered cX3_gathered 10 (some .int), Cond.methodLink RX3 110 yX3_howManyScored, Cond.static yX3_howManyScored, Cond.code yX3_howManyScored cX3_howManyScored 3 (some .int), Cond.methodLink RX3 114 yX3_bestScore, Cond.static yX3_bestScore, Cond.code yX3_bestScore cX3_bestScore 3 (some .int)]
def wsX8_leastShift : List Cond := .code yX8_leastShift cX8_leastShift 5 (some .int) :: ((wsX8_leastShift_r1 ++ (wsX8_leastShift_r2 ++ (wsX8_leastShift_r3 ++ wsX8_leastShift_r4))) ++ wsX80 ++ wsX20 ++ wsX30 ++ wsX00 ++ wsX70)
def wsX8_free_r1 : List Cond := [Cond.fieldLink RX8 26 "HarpPedals" "played" "LHarpPedals$Part;", Cond.fieldLink RX8 55 "HarpPedals" "planner" "LHarpPedals$Planner;", Cond.methodLink RX8 194 yX3_bestBegin, Cond.instanceMethod yX3_bestBegin, Cond.selects RX3 yX3_bestBegin yX3_bestBegin, Cond.initialized RX3, Cond.code yX3_bestBegin cX3_bestBegin 2 (some .int), Cond.fieldLink RX3 79 "HarpPedals$Planner" "begin" "I", Cond.methodLink RX3 69 yX3_findBest, Cond.instanceMethod yX3_findBest, Cond.selects RX3 yX3_findBest yX3_findBest, Cond.code yX3_findBest cX3_findBest 2 none, Cond.fieldLink RX3 47 "HarpPedals$Planner" "bestIsKnown" "Z", Cond.fieldLink RX3 30 "HarpPedals$Planner" "onward" "[[I", Cond.methodLink RX3 117 yX3_goBackward, Cond.instanceMethod yX3_goBackward, Cond.selects RX3 yX3_goBackward yX3_goBackward, Cond.code yX3_goBackward cX3_goBackward 5 none, Cond.fieldLink RX3 43 "HarpPedals$Planner" "settings" "LHarpPedals$Settings;", Cond.constant RX3 58 (1073741824), Cond.methodLink RX3 126 yX7_fits, Cond.instanceMethod yX7_fits, Cond.selects RX7 yX7_fits yX7_fits, Cond.initialized RX7]
def wsX8_free_r2 : List Cond := [Cond.code yX7_fits cX7_fits 5 (some .boolean), Cond.fieldLink RX7 9 "HarpPedals$Settings" "tonesOf" "[I", Cond.methodLink RX3 92 yX3_setGapAheadOf, Cond.instanceMethod yX3_setGapAheadOf, Cond.selects RX3 yX3_setGapAheadOf yX3_setGapAheadOf, Cond.code yX3_setGapAheadOf cX3_setGapAheadOf 5 none, Cond.fieldLink RX3 14 "HarpPedals$Planner" "gap" "LHarpPedals$Gap;", Cond.static yX8_isHeld, Cond.initialized RX8, Cond.code yX8_isHeld cX8_isHeld 1 (some .boolean), Cond.static yX8_raised, Cond.code yX8_raised cX8_raised 2 (some .int), Cond.methodLink RX3 140 yX0_set, Cond.instanceMethod yX0_set, Cond.selects RX0 yX0_set yX0_set, Cond.initialized RX0, Cond.code yX0_set cX0_set 6 none, Cond.fieldLink RX0 9 "HarpPedals$Gap" "mostMoves" "I", Cond.fieldLink RX0 15 "HarpPedals$Gap" "held" "I", Cond.methodLink RX0 18 yX7_toneAt, Cond.static yX7_toneAt, Cond.code yX7_toneAt cX7_toneAt 2 (some .int), Cond.fieldLink RX7 26 "HarpPedals$Settings" "NATURAL_TONES" "[I", Cond.methodLink RX3 106 yX3_cross]
def wsX8_free_r3 : List Cond := [Cond.instanceMethod yX3_cross, Cond.selects RX3 yX3_cross yX3_cross, Cond.code yX3_cross cX3_cross 11 none, Cond.fieldLink RX3 25 "HarpPedals$Planner" "halfway" "[I", Cond.methodLink RX3 147 arraycopyName, Cond.native arraycopyName, Cond.static arraycopyName, Cond.initialized "java/lang/System", Cond.methodLink RX3 153 yX3_spreadByRight, Cond.instanceMethod yX3_spreadByRight, Cond.selects RX3 yX3_spreadByRight yX3_spreadByRight, Cond.code yX3_spreadByRight cX3_spreadByRight 9 none, Cond.constant RX3 161 (1048576), Cond.methodLink RX3 162 yX7_positionAt, Cond.static yX7_positionAt, Cond.code yX7_positionAt cX7_positionAt 2 (some .int), Cond.methodLink RX3 165 yX0_holds, Cond.instanceMethod yX0_holds, Cond.selects RX0 yX0_holds yX0_holds, Cond.code yX0_holds cX0_holds 3 (some .boolean), Cond.methodLink RX3 172 yX3_joined, Cond.static yX3_joined, Cond.code yX3_joined cX3_joined 3 (some .int), Cond.constant RX3 59 (1048575)]
def wsX8_free_r4 : List Cond := [Cond.constant RX3 175 (1000003), Cond.constant RX3 176 (-1048576), Cond.methodLink RX3 157 yX3_gathered, Cond.instanceMethod yX3_gathered, Cond.selects RX3 yX3_gathered yX3_gathered, Cond.code yX3_gathered cX3_gathered 10 (some .int), Cond.methodLink RX3 120 yX3_settingOfBestScore, Cond.static yX3_settingOfBestScore, Cond.code yX3_settingOfBestScore cX3_settingOfBestScore 4 (some .int), Cond.methodLink RX3 123 yX3_followBest, Cond.instanceMethod yX3_followBest, Cond.selects RX3 yX3_followBest yX3_followBest, Cond.code yX3_followBest cX3_followBest 4 none, Cond.fieldLink RX3 36 "HarpPedals$Planner" "best" "[I", Cond.methodLink RX3 130 yX3_bestNext, Cond.instanceMethod yX3_bestNext, Cond.selects RX3 yX3_bestNext yX3_bestNext, Cond.code yX3_bestNext cX3_bestNext 8 (some .int), Cond.methodLink RX3 134 yX0_movesBetween, Cond.instanceMethod yX0_movesBetween, Cond.selects RX0 yX0_movesBetween yX0_movesBetween, Cond.code yX0_movesBetween cX0_movesBetween 7 (some .int), Cond.methodLink RX0 24 yX7_positionAt, Cond.methodLink RX0 27 yX0_holds]
def wsX8_free_r5 : List Cond := [Cond.methodLink RX3 73 yX7_numberOf, Cond.static yX7_numberOf, Cond.code yX7_numberOf cX7_numberOf 3 (some .int), Cond.methodLink RX7 29 yX7_positionAt]
def wsX8_free : List Cond := .code yX8_free cX8_free 1 (some .int) :: ((wsX8_free_r1 ++ (wsX8_free_r2 ++ (wsX8_free_r3 ++ (wsX8_free_r4 ++ wsX8_free_r5)))) ++ wsX80 ++ wsX20 ++ wsX30 ++ wsX70 ++ wsX00)
def wsX8_see : List Cond := .code yX8_see cX8_see 4 (some .int) :: ([.fieldLink RX8 26 "HarpPedals" "played" "LHarpPedals$Part;", .fieldLink RX8 36 "HarpPedals" "seen" "LHarpPedals$Seen;", .methodLink RX8 103 yX2_has, .instanceMethod yX2_has, .selects RX2 yX2_has yX2_has, .initialized RX2, .code yX2_has cX2_has 2 (some .boolean), .fieldLink RX2 18 "HarpPedals$Part" "size" "I", .methodLink RX8 197 yX6_add, .instanceMethod yX6_add, .selects RX6 yX6_add yX6_add, .initialized RX6, .code yX6_add cX6_add 5 (some .boolean), .fieldLink RX6 18 "HarpPedals$Seen" "size" "I", .fieldLink RX6 22 "HarpPedals$Seen" "KINDS_THAT_COULD" "[I", .fieldLink RX6 9 "HarpPedals$Seen" "chords" "[I", .fieldLink RX6 15 "HarpPedals$Seen" "kindsLeft" "[I"] ++ wsX80 ++ wsX60 ++ wsX20)
def wsX8_forget : List Cond := .code yX8_forget cX8_forget 1 (some .int) :: ([.fieldLink RX8 36 "HarpPedals" "seen" "LHarpPedals$Seen;", .methodLink RX8 96 yX6_clear, .instanceMethod yX6_clear, .selects RX6 yX6_clear yX6_clear, .initialized RX6, .code yX6_clear cX6_clear 2 (some .int), .fieldLink RX6 18 "HarpPedals$Seen" "size" "I"] ++ wsX80 ++ wsX60)
def wsX8_drawn_r1 : List Cond := [Cond.fieldLink RX8 26 "HarpPedals" "played" "LHarpPedals$Part;", Cond.fieldLink RX8 62 "HarpPedals" "player" "LHarpPedals$Player;", Cond.methodLink RX8 202 yX4_playDrawn, Cond.instanceMethod yX4_playDrawn, Cond.selects RX4 yX4_playDrawn yX4_playDrawn, Cond.initialized RX4, Cond.code yX4_playDrawn cX4_playDrawn 7 none, Cond.fieldLink RX4 22 "HarpPedals$Player" "seed" "I", Cond.fieldLink RX4 26 "HarpPedals$Player" "setting" "I", Cond.fieldLink RX4 29 "HarpPedals$Player" "chordsPlayed" "I", Cond.fieldLink RX4 32 "HarpPedals$Player" "moves" "I", Cond.fieldLink RX4 12 "HarpPedals$Player" "gap" "LHarpPedals$Gap;", Cond.methodLink RX4 35 yX0_set, Cond.instanceMethod yX0_set, Cond.selects RX0 yX0_set yX0_set, Cond.initialized RX0, Cond.code yX0_set cX0_set 6 none, Cond.fieldLink RX0 9 "HarpPedals$Gap" "mostMoves" "I", Cond.fieldLink RX0 15 "HarpPedals$Gap" "held" "I", Cond.methodLink RX0 18 yX7_toneAt, Cond.static yX7_toneAt, Cond.initialized RX7, Cond.code yX7_toneAt cX7_toneAt 2 (some .int), Cond.fieldLink RX7 26 "HarpPedals$Settings" "NATURAL_TONES" "[I"]
def wsX8_drawn_r2 : List Cond := [Cond.methodLink RX4 39 yX4_nextDraw, Cond.instanceMethod yX4_nextDraw, Cond.selects RX4 yX4_nextDraw yX4_nextDraw, Cond.code yX4_nextDraw cX4_nextDraw 1 (some .int), Cond.constantLong RX4 57 (1103515245), Cond.constantLong RX4 59 (12345), Cond.constantLong RX4 63 (2147483647), Cond.constant RX4 65 (65536), Cond.methodLink RX4 43 yX4_playChord, Cond.instanceMethod yX4_playChord, Cond.selects RX4 yX4_playChord yX4_playChord, Cond.code yX4_playChord cX4_playChord 6 none, Cond.fieldLink RX4 18 "HarpPedals$Player" "settings" "LHarpPedals$Settings;", Cond.methodLink RX4 47 yX7_fits, Cond.instanceMethod yX7_fits, Cond.selects RX7 yX7_fits yX7_fits, Cond.code yX7_fits cX7_fits 5 (some .boolean), Cond.fieldLink RX7 9 "HarpPedals$Settings" "tonesOf" "[I", Cond.methodLink RX4 53 yX0_movesBetween, Cond.instanceMethod yX0_movesBetween, Cond.selects RX0 yX0_movesBetween yX0_movesBetween, Cond.code yX0_movesBetween cX0_movesBetween 7 (some .int), Cond.methodLink RX0 24 yX7_positionAt, Cond.static yX7_positionAt]
def wsX8_drawn_r3 : List Cond := [Cond.code yX7_positionAt cX7_positionAt 2 (some .int), Cond.methodLink RX0 27 yX0_holds, Cond.instanceMethod yX0_holds, Cond.selects RX0 yX0_holds yX0_holds, Cond.code yX0_holds cX0_holds 3 (some .boolean)]
def wsX8_drawn : List Cond := .code yX8_drawn cX8_drawn 4 (some .int) :: ((wsX8_drawn_r1 ++ (wsX8_drawn_r2 ++ wsX8_drawn_r3)) ++ wsX80 ++ wsX20 ++ wsX40 ++ wsX00 ++ wsX70)
def wsX8_image_r1 : List Cond := [Cond.fieldLink RX8 26 "HarpPedals" "played" "LHarpPedals$Part;", Cond.fieldLink RX8 30 "HarpPedals" "keptPart" "LHarpPedals$Part;", Cond.fieldLink RX8 40 "HarpPedals" "keptSeen" "LHarpPedals$Seen;", Cond.fieldLink RX8 36 "HarpPedals" "seen" "LHarpPedals$Seen;", Cond.methodLink RX8 89 yX2_become, Cond.instanceMethod yX2_become, Cond.selects RX2 yX2_become yX2_become, Cond.initialized RX2, Cond.code yX2_become cX2_become 2 none, Cond.fieldLink RX2 22 "HarpPedals$Part" "begin" "I", Cond.fieldLink RX2 18 "HarpPedals$Part" "size" "I", Cond.fieldLink RX2 9 "HarpPedals$Part" "kinds" "[I", Cond.methodLink RX2 25 arraycopyName, Cond.native arraycopyName, Cond.static arraycopyName, Cond.initialized "java/lang/System", Cond.fieldLink RX2 15 "HarpPedals$Part" "tones" "[I", Cond.methodLink RX8 215 yX6_become, Cond.instanceMethod yX6_become, Cond.selects RX6 yX6_become yX6_become, Cond.initialized RX6, Cond.code yX6_become cX6_become 2 none, Cond.fieldLink RX6 18 "HarpPedals$Seen" "size" "I", Cond.fieldLink RX6 9 "HarpPedals$Seen" "chords" "[I"]
def wsX8_image_r2 : List Cond := [Cond.methodLink RX6 25 arraycopyName, Cond.fieldLink RX6 15 "HarpPedals$Seen" "kindsLeft" "[I"]
def wsX8_image : List Cond := .code yX8_image cX8_image 1 (some .int) :: ((wsX8_image_r1 ++ wsX8_image_r2) ++ wsX80 ++ wsX20 ++ wsX60)
def wsX8_restore_r1 : List Cond := [Cond.fieldLink RX8 30 "HarpPedals" "keptPart" "LHarpPedals$Part;", Cond.fieldLink RX8 26 "HarpPedals" "played" "LHarpPedals$Part;", Cond.fieldLink RX8 36 "HarpPedals" "seen" "LHarpPedals$Seen;", Cond.fieldLink RX8 40 "HarpPedals" "keptSeen" "LHarpPedals$Seen;", Cond.fieldLink RX8 55 "HarpPedals" "planner" "LHarpPedals$Planner;", Cond.methodLink RX8 89 yX2_become, Cond.instanceMethod yX2_become, Cond.selects RX2 yX2_become yX2_become, Cond.initialized RX2, Cond.code yX2_become cX2_become 2 none, Cond.fieldLink RX2 22 "HarpPedals$Part" "begin" "I", Cond.fieldLink RX2 18 "HarpPedals$Part" "size" "I", Cond.fieldLink RX2 9 "HarpPedals$Part" "kinds" "[I", Cond.methodLink RX2 25 arraycopyName, Cond.native arraycopyName, Cond.static arraycopyName, Cond.initialized "java/lang/System", Cond.fieldLink RX2 15 "HarpPedals$Part" "tones" "[I", Cond.methodLink RX8 215 yX6_become, Cond.instanceMethod yX6_become, Cond.selects RX6 yX6_become yX6_become, Cond.initialized RX6, Cond.code yX6_become cX6_become 2 none, Cond.fieldLink RX6 18 "HarpPedals$Seen" "size" "I"]
def wsX8_restore_r2 : List Cond := [Cond.fieldLink RX6 9 "HarpPedals$Seen" "chords" "[I", Cond.methodLink RX6 25 arraycopyName, Cond.fieldLink RX6 15 "HarpPedals$Seen" "kindsLeft" "[I", Cond.methodLink RX8 93 yX3_makeStale, Cond.instanceMethod yX3_makeStale, Cond.selects RX3 yX3_makeStale yX3_makeStale, Cond.initialized RX3, Cond.code yX3_makeStale cX3_makeStale 1 none, Cond.fieldLink RX3 39 "HarpPedals$Planner" "shiftOfScore" "I", Cond.fieldLink RX3 47 "HarpPedals$Planner" "bestIsKnown" "Z"]
def wsX8_restore : List Cond := .code yX8_restore cX8_restore 1 (some .int) :: ((wsX8_restore_r1 ++ wsX8_restore_r2) ++ wsX80 ++ wsX20 ++ wsX60 ++ wsX30)
def wsX8_count_r1 : List Cond := [Cond.fieldLink RX8 26 "HarpPedals" "played" "LHarpPedals$Part;", Cond.fieldLink RX8 36 "HarpPedals" "seen" "LHarpPedals$Seen;", Cond.fieldLink RX8 10 "HarpPedals" "page" "LHarpPedals$Page;", Cond.fieldLink RX8 99 "HarpPedals" "partsRead" "I", Cond.fieldLink RX8 190 "HarpPedals" "shiftsAsked" "I", Cond.methodLink RX8 149 yX7_numberOf, Cond.static yX7_numberOf, Cond.initialized RX7, Cond.code yX7_numberOf cX7_numberOf 3 (some .int), Cond.methodLink RX7 29 yX7_positionAt, Cond.static yX7_positionAt, Cond.code yX7_positionAt cX7_positionAt 2 (some .int), Cond.methodLink RX8 218 yX2_tonesOfAll, Cond.instanceMethod yX2_tonesOfAll, Cond.selects RX2 yX2_tonesOfAll yX2_tonesOfAll, Cond.initialized RX2, Cond.code yX2_tonesOfAll cX2_tonesOfAll 3 (some .int), Cond.fieldLink RX2 18 "HarpPedals$Part" "size" "I", Cond.fieldLink RX2 15 "HarpPedals$Part" "tones" "[I", Cond.methodLink RX8 221 yJ6_bitCount_0f7a4, Cond.static yJ6_bitCount_0f7a4, Cond.initialized RJ6, Cond.code yJ6_bitCount_0f7a4 cJ6_bitCount_0f7a4 1 (some .int), Cond.constant RJ6 265 (1431655765)]
def wsX8_count_r2 : List Cond := [Cond.constant RJ6 266 (858993459), Cond.constant RJ6 267 (252645135)]
def wsX8_count : List Cond := .code yX8_count cX8_count 2 (some .int) :: ((wsX8_count_r1 ++ wsX8_count_r2) ++ wsX80 ++ wsX20 ++ wsX60 ++ wsX10)
def wsX8_digest_r1 : List Cond := [Cond.constantLong RX8 226 (1423), Cond.fieldLink RX8 26 "HarpPedals" "played" "LHarpPedals$Part;", Cond.constantLong RX8 228 (31), Cond.fieldLink RX8 55 "HarpPedals" "planner" "LHarpPedals$Planner;", Cond.fieldLink RX8 10 "HarpPedals" "page" "LHarpPedals$Page;", Cond.methodLink RX8 230 yX8_chord, Cond.instanceMethod yX8_chord, Cond.selects RX8 yX8_chord yX8_chord, Cond.initialized RX8, Cond.code yX8_chord cX8_chord 3 (some .int), Cond.fieldLink RX8 46 "HarpPedals" "settings" "LHarpPedals$Settings;", Cond.fieldLink RX8 36 "HarpPedals" "seen" "LHarpPedals$Seen;", Cond.methodLink RX8 103 yX2_has, Cond.instanceMethod yX2_has, Cond.selects RX2 yX2_has yX2_has, Cond.initialized RX2, Cond.code yX2_has cX2_has 2 (some .boolean), Cond.fieldLink RX2 18 "HarpPedals$Part" "size" "I", Cond.methodLink RX8 113 yX7_howManyFit, Cond.instanceMethod yX7_howManyFit, Cond.selects RX7 yX7_howManyFit yX7_howManyFit, Cond.initialized RX7, Cond.code yX7_howManyFit cX7_howManyFit 5 (some .int), Cond.methodLink RX7 19 yX7_fits]
def wsX8_digest_r2 : List Cond := [Cond.instanceMethod yX7_fits, Cond.selects RX7 yX7_fits yX7_fits, Cond.code yX7_fits cX7_fits 5 (some .boolean), Cond.fieldLink RX7 9 "HarpPedals$Settings" "tonesOf" "[I", Cond.methodLink RX8 117 yX7_leastThatFits, Cond.instanceMethod yX7_leastThatFits, Cond.selects RX7 yX7_leastThatFits yX7_leastThatFits, Cond.code yX7_leastThatFits cX7_leastThatFits 4 (some .int), Cond.methodLink RX7 23 yX7_numberOf, Cond.static yX7_numberOf, Cond.code yX7_numberOf cX7_numberOf 3 (some .int), Cond.methodLink RX7 29 yX7_positionAt, Cond.static yX7_positionAt, Cond.code yX7_positionAt cX7_positionAt 2 (some .int), Cond.methodLink RX8 120 yX6_sortsOf, Cond.instanceMethod yX6_sortsOf, Cond.selects RX6 yX6_sortsOf yX6_sortsOf, Cond.initialized RX6, Cond.code yX6_sortsOf cX6_sortsOf 4 (some .int), Cond.fieldLink RX6 18 "HarpPedals$Seen" "size" "I", Cond.fieldLink RX6 9 "HarpPedals$Seen" "chords" "[I", Cond.fieldLink RX6 15 "HarpPedals$Seen" "kindsLeft" "[I", Cond.methodLink RX8 124 yX6_nextQuestion, Cond.instanceMethod yX6_nextQuestion]
def wsX8_digest_r3 : List Cond := [Cond.selects RX6 yX6_nextQuestion yX6_nextQuestion, Cond.code yX6_nextQuestion cX6_nextQuestion 7 (some .int), Cond.fieldLink RX6 22 "HarpPedals$Seen" "KINDS_THAT_COULD" "[I", Cond.methodLink RX6 31 yX6_sortsOf, Cond.methodLink RX6 35 yX6_leftAtWorst, Cond.static yX6_leftAtWorst, Cond.code yX6_leftAtWorst cX6_leftAtWorst 2 (some .int), Cond.methodLink RX6 44 Lib.Math.max.name, Cond.static Lib.Math.max.name, Cond.initialized "java/lang/Math", Cond.code Lib.Math.max.name Lib.Math.max.code 2 (some .int), Cond.methodLink RX6 39 yJ6_bitCount_0f7a4, Cond.static yJ6_bitCount_0f7a4, Cond.initialized RJ6, Cond.code yJ6_bitCount_0f7a4 cJ6_bitCount_0f7a4 1 (some .int), Cond.constant RJ6 265 (1431655765), Cond.constant RJ6 266 (858993459), Cond.constant RJ6 267 (252645135), Cond.methodLink RX8 184 yX3_bestSetting, Cond.instanceMethod yX3_bestSetting, Cond.selects RX3 yX3_bestSetting yX3_bestSetting, Cond.initialized RX3, Cond.code yX3_bestSetting cX3_bestSetting 4 (some .int), Cond.fieldLink RX3 36 "HarpPedals$Planner" "best" "[I"]
def wsX8_digest_r4 : List Cond := [Cond.methodLink RX3 69 yX3_findBest, Cond.instanceMethod yX3_findBest, Cond.selects RX3 yX3_findBest yX3_findBest, Cond.code yX3_findBest cX3_findBest 2 none, Cond.fieldLink RX3 47 "HarpPedals$Planner" "bestIsKnown" "Z", Cond.fieldLink RX3 30 "HarpPedals$Planner" "onward" "[[I", Cond.fieldLink RX3 79 "HarpPedals$Planner" "begin" "I", Cond.methodLink RX3 117 yX3_goBackward, Cond.instanceMethod yX3_goBackward, Cond.selects RX3 yX3_goBackward yX3_goBackward, Cond.code yX3_goBackward cX3_goBackward 5 none, Cond.fieldLink RX3 43 "HarpPedals$Planner" "settings" "LHarpPedals$Settings;", Cond.constant RX3 58 (1073741824), Cond.methodLink RX3 126 yX7_fits, Cond.methodLink RX3 92 yX3_setGapAheadOf, Cond.instanceMethod yX3_setGapAheadOf, Cond.selects RX3 yX3_setGapAheadOf yX3_setGapAheadOf, Cond.code yX3_setGapAheadOf cX3_setGapAheadOf 5 none, Cond.fieldLink RX3 14 "HarpPedals$Planner" "gap" "LHarpPedals$Gap;", Cond.static yX8_isHeld, Cond.code yX8_isHeld cX8_isHeld 1 (some .boolean), Cond.static yX8_raised, Cond.code yX8_raised cX8_raised 2 (some .int), Cond.methodLink RX3 140 yX0_set]
def wsX8_digest_r5 : List Cond := [Cond.instanceMethod yX0_set, Cond.selects RX0 yX0_set yX0_set, Cond.initialized RX0, Cond.code yX0_set cX0_set 6 none, Cond.fieldLink RX0 9 "HarpPedals$Gap" "mostMoves" "I", Cond.fieldLink RX0 15 "HarpPedals$Gap" "held" "I", Cond.methodLink RX0 18 yX7_toneAt, Cond.static yX7_toneAt, Cond.code yX7_toneAt cX7_toneAt 2 (some .int), Cond.fieldLink RX7 26 "HarpPedals$Settings" "NATURAL_TONES" "[I", Cond.methodLink RX3 106 yX3_cross, Cond.instanceMethod yX3_cross, Cond.selects RX3 yX3_cross yX3_cross, Cond.code yX3_cross cX3_cross 11 none, Cond.fieldLink RX3 25 "HarpPedals$Planner" "halfway" "[I", Cond.methodLink RX3 147 arraycopyName, Cond.native arraycopyName, Cond.static arraycopyName, Cond.initialized "java/lang/System", Cond.methodLink RX3 153 yX3_spreadByRight, Cond.instanceMethod yX3_spreadByRight, Cond.selects RX3 yX3_spreadByRight yX3_spreadByRight, Cond.code yX3_spreadByRight cX3_spreadByRight 9 none, Cond.constant RX3 161 (1048576)]
def wsX8_digest_r6 : List Cond := [Cond.methodLink RX3 162 yX7_positionAt, Cond.methodLink RX3 165 yX0_holds, Cond.instanceMethod yX0_holds, Cond.selects RX0 yX0_holds yX0_holds, Cond.code yX0_holds cX0_holds 3 (some .boolean), Cond.methodLink RX3 172 yX3_joined, Cond.static yX3_joined, Cond.code yX3_joined cX3_joined 3 (some .int), Cond.constant RX3 59 (1048575), Cond.constant RX3 175 (1000003), Cond.constant RX3 176 (-1048576), Cond.methodLink RX3 157 yX3_gathered, Cond.instanceMethod yX3_gathered, Cond.selects RX3 yX3_gathered yX3_gathered, Cond.code yX3_gathered cX3_gathered 10 (some .int), Cond.methodLink RX3 120 yX3_settingOfBestScore, Cond.static yX3_settingOfBestScore, Cond.code yX3_settingOfBestScore cX3_settingOfBestScore 4 (some .int), Cond.methodLink RX3 123 yX3_followBest, Cond.instanceMethod yX3_followBest, Cond.selects RX3 yX3_followBest yX3_followBest, Cond.code yX3_followBest cX3_followBest 4 none, Cond.methodLink RX3 130 yX3_bestNext, Cond.instanceMethod yX3_bestNext]
def wsX8_digest_r7 : List Cond := [Cond.selects RX3 yX3_bestNext yX3_bestNext, Cond.code yX3_bestNext cX3_bestNext 8 (some .int), Cond.methodLink RX3 134 yX0_movesBetween, Cond.instanceMethod yX0_movesBetween, Cond.selects RX0 yX0_movesBetween yX0_movesBetween, Cond.code yX0_movesBetween cX0_movesBetween 7 (some .int), Cond.methodLink RX0 24 yX7_positionAt, Cond.methodLink RX0 27 yX0_holds, Cond.methodLink RX3 65 yX2_has, Cond.methodLink RX3 73 yX7_numberOf, Cond.methodLink RX8 187 yX3_howManyReached, Cond.instanceMethod yX3_howManyReached, Cond.selects RX3 yX3_howManyReached yX3_howManyReached, Cond.code yX3_howManyReached cX3_howManyReached 3 (some .int), Cond.fieldLink RX3 33 "HarpPedals$Planner" "reached" "[I", Cond.methodLink RX3 51 yX3_goForward, Cond.instanceMethod yX3_goForward, Cond.selects RX3 yX3_goForward yX3_goForward, Cond.code yX3_goForward cX3_goForward 7 none, Cond.fieldLink RX3 39 "HarpPedals$Planner" "shiftOfScore" "I", Cond.fieldLink RX3 18 "HarpPedals$Planner" "oneRow" "[I", Cond.fieldLink RX3 22 "HarpPedals$Planner" "otherRow" "[I", Cond.fieldLink RX3 55 "HarpPedals$Planner" "score" "I", Cond.methodLink RX3 82 yJ7_fill_53178]
def wsX8_digest_r8 : List Cond := [Cond.static yJ7_fill_53178, Cond.initialized RJ7, Cond.code yJ7_fill_53178 cJ7_fill_53178 4 none, Cond.methodLink RX3 89 yX7_isSetting, Cond.static yX7_isSetting, Cond.code yX7_isSetting cX7_isSetting 1 (some .boolean), Cond.methodLink RX3 110 yX3_howManyScored, Cond.static yX3_howManyScored, Cond.code yX3_howManyScored cX3_howManyScored 3 (some .int), Cond.methodLink RX3 114 yX3_bestScore, Cond.static yX3_bestScore, Cond.code yX3_bestScore cX3_bestScore 3 (some .int), Cond.methodLink RX8 233 yX8_plan, Cond.instanceMethod yX8_plan, Cond.selects RX8 yX8_plan yX8_plan, Cond.code yX8_plan cX8_plan 2 (some .int), Cond.methodLink RX8 167 yX3_fewest, Cond.instanceMethod yX3_fewest, Cond.selects RX3 yX3_fewest yX3_fewest, Cond.code yX3_fewest cX3_fewest 3 (some .int), Cond.methodLink RX8 177 yX3_ways, Cond.instanceMethod yX3_ways, Cond.selects RX3 yX3_ways yX3_ways, Cond.code yX3_ways cX3_ways 2 (some .int)]
def wsX8_digest_r9 : List Cond := [Cond.methodLink RX8 181 yX3_stuckAt, Cond.instanceMethod yX3_stuckAt, Cond.selects RX3 yX3_stuckAt yX3_stuckAt, Cond.code yX3_stuckAt cX3_stuckAt 3 (some .int), Cond.methodLink RX8 239 yX8_count, Cond.instanceMethod yX8_count, Cond.selects RX8 yX8_count yX8_count, Cond.code yX8_count cX8_count 2 (some .int), Cond.fieldLink RX8 99 "HarpPedals" "partsRead" "I", Cond.fieldLink RX8 190 "HarpPedals" "shiftsAsked" "I", Cond.methodLink RX8 149 yX7_numberOf, Cond.methodLink RX8 218 yX2_tonesOfAll, Cond.instanceMethod yX2_tonesOfAll, Cond.selects RX2 yX2_tonesOfAll yX2_tonesOfAll, Cond.code yX2_tonesOfAll cX2_tonesOfAll 3 (some .int), Cond.fieldLink RX2 15 "HarpPedals$Part" "tones" "[I", Cond.methodLink RX8 221 yJ6_bitCount_0f7a4]
def wsX8_digest : List Cond := .code yX8_digest cX8_digest 5 (some .long) :: ((wsX8_digest_r1 ++ (wsX8_digest_r2 ++ (wsX8_digest_r3 ++ (wsX8_digest_r4 ++ (wsX8_digest_r5 ++ (wsX8_digest_r6 ++ (wsX8_digest_r7 ++ (wsX8_digest_r8 ++ wsX8_digest_r9)))))))) ++ wsX80 ++ wsX20 ++ wsX10 ++ wsX70 ++ wsX60 ++ wsX30 ++ wsX00)
def wsX9_layOptions : List Cond := .code yX9_layOptions cX9_layOptions 4 none :: ([.fieldLink RX9 19 "HarpPedalsModel" "leftPedal" "[I", .fieldLink RX9 22 "HarpPedalsModel" "leftBy" "[I", .fieldLink RX9 25 "HarpPedalsModel" "rightPedal" "[I", .fieldLink RX9 28 "HarpPedalsModel" "rightBy" "[I"] ++ wsX90)
def wsX9_positionOf : List Cond := .code yX9_positionOf cX9_positionOf 3 (some .int) :: ([.fieldLink RX9 7 "HarpPedalsModel" "power" "[I"] ++ wsX90)
def wsX9_toneOf : List Cond := .code yX9_toneOf cX9_toneOf 3 (some .int) :: ([.fieldLink RX9 13 "HarpPedalsModel" "natural" "[I"] ++ wsX90)
def wsX9_turned : List Cond := .code yX9_turned cX9_turned 5 (some .int) :: ([.fieldLink RX9 7 "HarpPedalsModel" "power" "[I", .methodLink RX9 96 yX9_positionOf, .instanceMethod yX9_positionOf, .selects RX9 yX9_positionOf yX9_positionOf, .initialized RX9, .code yX9_positionOf cX9_positionOf 3 (some .int)] ++ wsX90)
def wsX9_layTables : List Cond := .code yX9_layTables cX9_layTables 3 none :: ([.fieldLink RX9 31 "HarpPedalsModel" "movedAt" "[I", .fieldLink RX9 19 "HarpPedalsModel" "leftPedal" "[I", .fieldLink RX9 25 "HarpPedalsModel" "rightPedal" "[I", .fieldLink RX9 34 "HarpPedalsModel" "bitsAt" "[I", .fieldLink RX9 16 "HarpPedalsModel" "toneAt" "[I", .fieldLink RX9 38 "HarpPedalsModel" "afterAt" "[I", .fieldLink RX9 22 "HarpPedalsModel" "leftBy" "[I", .fieldLink RX9 28 "HarpPedalsModel" "rightBy" "[I", .methodLink RX9 96 yX9_positionOf, .instanceMethod yX9_positionOf, .selects RX9 yX9_positionOf yX9_positionOf, .initialized RX9, .code yX9_positionOf cX9_positionOf 3 (some .int), .fieldLink RX9 7 "HarpPedalsModel" "power" "[I", .methodLink RX9 108 yX9_toneOf, .instanceMethod yX9_toneOf, .selects RX9 yX9_toneOf yX9_toneOf, .code yX9_toneOf cX9_toneOf 3 (some .int), .fieldLink RX9 13 "HarpPedalsModel" "natural" "[I", .methodLink RX9 111 yX9_turned, .instanceMethod yX9_turned, .selects RX9 yX9_turned yX9_turned, .code yX9_turned cX9_turned 5 (some .int)] ++ wsX90)
def wsX9_init_r1 : List Cond := [Cond.methodLink RX9 1 objectInit, Cond.instanceMethod objectInit, Cond.code objectInit ⟨#[0xb1]⟩ 1 none, Cond.arrayClass .int, Cond.fieldLink RX9 7 "HarpPedalsModel" "power" "[I", Cond.fieldLink RX9 13 "HarpPedalsModel" "natural" "[I", Cond.fieldLink RX9 16 "HarpPedalsModel" "toneAt" "[I", Cond.fieldLink RX9 19 "HarpPedalsModel" "leftPedal" "[I", Cond.fieldLink RX9 22 "HarpPedalsModel" "leftBy" "[I", Cond.fieldLink RX9 25 "HarpPedalsModel" "rightPedal" "[I", Cond.fieldLink RX9 28 "HarpPedalsModel" "rightBy" "[I", Cond.fieldLink RX9 31 "HarpPedalsModel" "movedAt" "[I", Cond.fieldLink RX9 34 "HarpPedalsModel" "bitsAt" "[I", Cond.constant RX9 37 (137781), Cond.fieldLink RX9 38 "HarpPedalsModel" "afterAt" "[I", Cond.fieldLink RX9 41 "HarpPedalsModel" "page" "[I", Cond.fieldLink RX9 44 "HarpPedalsModel" "readKinds" "[I", Cond.fieldLink RX9 47 "HarpPedalsModel" "readTones" "[I", Cond.fieldLink RX9 50 "HarpPedalsModel" "kinds" "[I", Cond.fieldLink RX9 53 "HarpPedalsModel" "tones" "[I", Cond.fieldLink RX9 56 "HarpPedalsModel" "fits" "[I", Cond.fieldLink RX9 59 "HarpPedalsModel" "rest" "[I", Cond.fieldLink RX9 62 "HarpPedalsModel" "cost" "[I", Cond.fieldLink RX9 65 "HarpPedalsModel" "ways" "[I"]
def wsX9_init_r2 : List Cond := [Cond.fieldLink RX9 68 "HarpPedalsModel" "best" "[I", Cond.fieldLink RX9 71 "HarpPedalsModel" "reached" "[I", Cond.fieldLink RX9 74 "HarpPedalsModel" "sights" "[I", Cond.fieldLink RX9 77 "HarpPedalsModel" "keptKinds" "[I", Cond.fieldLink RX9 80 "HarpPedalsModel" "keptTones" "[I", Cond.fieldLink RX9 83 "HarpPedalsModel" "keptSights" "[I", Cond.fieldLink RX9 86 "HarpPedalsModel" "keptPart" "I", Cond.methodLink RX9 90 yX9_layOptions, Cond.instanceMethod yX9_layOptions, Cond.selects RX9 yX9_layOptions yX9_layOptions, Cond.initialized RX9, Cond.code yX9_layOptions cX9_layOptions 4 none, Cond.methodLink RX9 93 yX9_layTables, Cond.instanceMethod yX9_layTables, Cond.selects RX9 yX9_layTables yX9_layTables, Cond.code yX9_layTables cX9_layTables 3 none, Cond.methodLink RX9 96 yX9_positionOf, Cond.instanceMethod yX9_positionOf, Cond.selects RX9 yX9_positionOf yX9_positionOf, Cond.code yX9_positionOf cX9_positionOf 3 (some .int), Cond.methodLink RX9 108 yX9_toneOf, Cond.instanceMethod yX9_toneOf, Cond.selects RX9 yX9_toneOf yX9_toneOf, Cond.code yX9_toneOf cX9_toneOf 3 (some .int)]
def wsX9_init_r3 : List Cond := [Cond.methodLink RX9 111 yX9_turned, Cond.instanceMethod yX9_turned, Cond.selects RX9 yX9_turned yX9_turned, Cond.code yX9_turned cX9_turned 5 (some .int)]
def wsX9_init : List Cond := .code yX9_init cX9_init 2 none :: ((wsX9_init_r1 ++ (wsX9_init_r2 ++ wsX9_init_r3)) ++ wsX90)
def wsX9_in : List Cond := .code yX9_in cX9_in 6 (some .boolean) :: ([])
def wsX9_copy : List Cond := .code yX9_copy cX9_copy 3 none :: ([])
def wsX9_ones : List Cond := .code yX9_ones cX9_ones 3 (some .int) :: ([])
def wsX9_toneIn : List Cond := .code yX9_toneIn cX9_toneIn 3 (some .int) :: ([.fieldLink RX9 16 "HarpPedalsModel" "toneAt" "[I"] ++ wsX90)
def wsX9_told : List Cond := .code yX9_told cX9_told 4 (some .int) :: ([.methodLink RX9 96 yX9_positionOf, .instanceMethod yX9_positionOf, .selects RX9 yX9_positionOf yX9_positionOf, .initialized RX9, .code yX9_positionOf cX9_positionOf 3 (some .int), .fieldLink RX9 7 "HarpPedalsModel" "power" "[I"] ++ wsX90)
def wsX9_tone : List Cond := .code yX9_tone cX9_tone 3 (some .int) :: ([.constantLong RX9 100 (6), .constantLong RX9 106 (2), .methodLink RX9 102 yX9_in, .static yX9_in, .initialized RX9, .code yX9_in cX9_in 6 (some .boolean), .methodLink RX9 108 yX9_toneOf, .instanceMethod yX9_toneOf, .selects RX9 yX9_toneOf yX9_toneOf, .code yX9_toneOf cX9_toneOf 3 (some .int), .fieldLink RX9 13 "HarpPedalsModel" "natural" "[I"] ++ wsX90)
def wsX9_movedBy : List Cond := .code yX9_movedBy cX9_movedBy 2 (some .int) :: ([.fieldLink RX9 31 "HarpPedalsModel" "movedAt" "[I"] ++ wsX90)
def wsX9_after : List Cond := .code yX9_after cX9_after 3 (some .int) :: ([.fieldLink RX9 38 "HarpPedalsModel" "afterAt" "[I"] ++ wsX90)
def wsX9_heldPedals : List Cond := .code yX9_heldPedals cX9_heldPedals 5 (some .int) :: ([.methodLink RX9 115 yX9_toneIn, .instanceMethod yX9_toneIn, .selects RX9 yX9_toneIn yX9_toneIn, .initialized RX9, .code yX9_toneIn cX9_toneIn 3 (some .int), .fieldLink RX9 16 "HarpPedalsModel" "toneAt" "[I"] ++ wsX90)
def wsX9_mostOf : List Cond := .code yX9_mostOf cX9_mostOf 1 (some .int) :: ([])
def wsX9_can : List Cond := .code yX9_can cX9_can 4 (some .boolean) :: ([.fieldLink RX9 31 "HarpPedalsModel" "movedAt" "[I", .fieldLink RX9 34 "HarpPedalsModel" "bitsAt" "[I"] ++ wsX90)
def wsX9_letter : List Cond := .code yX9_letter cX9_letter 2 (some .int) :: ([.constantLong RX9 118 (126), .fieldLink RX9 120 "HarpPedalsModel" "pageMany" "I", .fieldLink RX9 41 "HarpPedalsModel" "page" "[I", .methodLink RX9 102 yX9_in, .static yX9_in, .initialized RX9, .code yX9_in cX9_in 6 (some .boolean)] ++ wsX90)
def wsX9_blank : List Cond := .code yX9_blank cX9_blank 2 (some .int) :: ([.fieldLink RX9 120 "HarpPedalsModel" "pageMany" "I"] ++ wsX90)
def wsX9_kindBy : List Cond := .code yX9_kindBy cX9_kindBy 1 (some .int) :: ([])
def wsX9_isChordSign : List Cond := .code yX9_isChordSign cX9_isChordSign 4 (some .boolean) :: ([.fieldLink RX9 41 "HarpPedalsModel" "page" "[I", .fieldLink RX9 123 "HarpPedalsModel" "readHere" "I", .fieldLink RX9 126 "HarpPedalsModel" "readMany" "I", .fieldLink RX9 44 "HarpPedalsModel" "readKinds" "[I", .fieldLink RX9 47 "HarpPedalsModel" "readTones" "[I", .constantLong RX9 133 (97), .constantLong RX9 135 (108), .methodLink RX9 129 yX9_kindBy, .static yX9_kindBy, .initialized RX9, .code yX9_kindBy cX9_kindBy 1 (some .int), .methodLink RX9 102 yX9_in, .static yX9_in, .code yX9_in cX9_in 6 (some .boolean)] ++ wsX90)
def wsX9_isGood : List Cond := .code yX9_isGood cX9_isGood 3 (some .boolean) :: ([.fieldLink RX9 41 "HarpPedalsModel" "page" "[I", .constantLong RX9 137 (48), .constantLong RX9 139 (50), .methodLink RX9 102 yX9_in, .static yX9_in, .initialized RX9, .code yX9_in cX9_in 6 (some .boolean), .methodLink RX9 141 yX9_isChordSign, .instanceMethod yX9_isChordSign, .selects RX9 yX9_isChordSign yX9_isChordSign, .code yX9_isChordSign cX9_isChordSign 4 (some .boolean), .fieldLink RX9 123 "HarpPedalsModel" "readHere" "I", .fieldLink RX9 126 "HarpPedalsModel" "readMany" "I", .fieldLink RX9 44 "HarpPedalsModel" "readKinds" "[I", .fieldLink RX9 47 "HarpPedalsModel" "readTones" "[I", .constantLong RX9 133 (97), .constantLong RX9 135 (108), .methodLink RX9 129 yX9_kindBy, .static yX9_kindBy, .code yX9_kindBy cX9_kindBy 1 (some .int)] ++ wsX90)
def wsX9_faultOf_r1 : List Cond := [Cond.fieldLink RX9 126 "HarpPedalsModel" "readMany" "I", Cond.fieldLink RX9 123 "HarpPedalsModel" "readHere" "I", Cond.fieldLink RX9 120 "HarpPedalsModel" "pageMany" "I", Cond.methodLink RX9 145 yX9_isGood, Cond.instanceMethod yX9_isGood, Cond.selects RX9 yX9_isGood yX9_isGood, Cond.initialized RX9, Cond.code yX9_isGood cX9_isGood 3 (some .boolean), Cond.fieldLink RX9 41 "HarpPedalsModel" "page" "[I", Cond.constantLong RX9 137 (48), Cond.constantLong RX9 139 (50), Cond.methodLink RX9 102 yX9_in, Cond.static yX9_in, Cond.code yX9_in cX9_in 6 (some .boolean), Cond.methodLink RX9 141 yX9_isChordSign, Cond.instanceMethod yX9_isChordSign, Cond.selects RX9 yX9_isChordSign yX9_isChordSign, Cond.code yX9_isChordSign cX9_isChordSign 4 (some .boolean), Cond.fieldLink RX9 44 "HarpPedalsModel" "readKinds" "[I", Cond.fieldLink RX9 47 "HarpPedalsModel" "readTones" "[I", Cond.constantLong RX9 133 (97), Cond.constantLong RX9 135 (108), Cond.methodLink RX9 129 yX9_kindBy, Cond.static yX9_kindBy]
def wsX9_faultOf_r2 : List Cond := [Cond.code yX9_kindBy cX9_kindBy 1 (some .int)]
def wsX9_faultOf : List Cond := .code yX9_faultOf cX9_faultOf 2 (some .int) :: ((wsX9_faultOf_r1 ++ wsX9_faultOf_r2) ++ wsX90)
def wsX9_fault_r1 : List Cond := [Cond.methodLink RX9 148 yX9_faultOf, Cond.instanceMethod yX9_faultOf, Cond.selects RX9 yX9_faultOf yX9_faultOf, Cond.initialized RX9, Cond.code yX9_faultOf cX9_faultOf 2 (some .int), Cond.fieldLink RX9 126 "HarpPedalsModel" "readMany" "I", Cond.fieldLink RX9 123 "HarpPedalsModel" "readHere" "I", Cond.fieldLink RX9 120 "HarpPedalsModel" "pageMany" "I", Cond.methodLink RX9 145 yX9_isGood, Cond.instanceMethod yX9_isGood, Cond.selects RX9 yX9_isGood yX9_isGood, Cond.code yX9_isGood cX9_isGood 3 (some .boolean), Cond.fieldLink RX9 41 "HarpPedalsModel" "page" "[I", Cond.constantLong RX9 137 (48), Cond.constantLong RX9 139 (50), Cond.methodLink RX9 102 yX9_in, Cond.static yX9_in, Cond.code yX9_in cX9_in 6 (some .boolean), Cond.methodLink RX9 141 yX9_isChordSign, Cond.instanceMethod yX9_isChordSign, Cond.selects RX9 yX9_isChordSign yX9_isChordSign, Cond.code yX9_isChordSign cX9_isChordSign 4 (some .boolean), Cond.fieldLink RX9 44 "HarpPedalsModel" "readKinds" "[I", Cond.fieldLink RX9 47 "HarpPedalsModel" "readTones" "[I"]
def wsX9_fault_r2 : List Cond := [Cond.constantLong RX9 133 (97), Cond.constantLong RX9 135 (108), Cond.methodLink RX9 129 yX9_kindBy, Cond.static yX9_kindBy, Cond.code yX9_kindBy cX9_kindBy 1 (some .int)]
def wsX9_fault : List Cond := .code yX9_fault cX9_fault 1 (some .int) :: ((wsX9_fault_r1 ++ wsX9_fault_r2) ++ wsX90)
def wsX9_part_r1 : List Cond := [Cond.fieldLink RX9 120 "HarpPedalsModel" "pageMany" "I", Cond.fieldLink RX9 123 "HarpPedalsModel" "readHere" "I", Cond.fieldLink RX9 152 "HarpPedalsModel" "begin" "I", Cond.fieldLink RX9 41 "HarpPedalsModel" "page" "[I", Cond.fieldLink RX9 126 "HarpPedalsModel" "readMany" "I", Cond.fieldLink RX9 155 "HarpPedalsModel" "chords" "I", Cond.fieldLink RX9 44 "HarpPedalsModel" "readKinds" "[I", Cond.fieldLink RX9 50 "HarpPedalsModel" "kinds" "[I", Cond.fieldLink RX9 47 "HarpPedalsModel" "readTones" "[I", Cond.fieldLink RX9 53 "HarpPedalsModel" "tones" "[I", Cond.fieldLink RX9 162 "HarpPedalsModel" "seenMany" "I", Cond.fieldLink RX9 165 "HarpPedalsModel" "partsRead" "I", Cond.fieldLink RX9 168 "HarpPedalsModel" "old" "Z", Cond.methodLink RX9 148 yX9_faultOf, Cond.instanceMethod yX9_faultOf, Cond.selects RX9 yX9_faultOf yX9_faultOf, Cond.initialized RX9, Cond.code yX9_faultOf cX9_faultOf 2 (some .int), Cond.methodLink RX9 145 yX9_isGood, Cond.instanceMethod yX9_isGood, Cond.selects RX9 yX9_isGood yX9_isGood, Cond.code yX9_isGood cX9_isGood 3 (some .boolean), Cond.constantLong RX9 137 (48), Cond.constantLong RX9 139 (50)]
def wsX9_part_r2 : List Cond := [Cond.methodLink RX9 102 yX9_in, Cond.static yX9_in, Cond.code yX9_in cX9_in 6 (some .boolean), Cond.methodLink RX9 141 yX9_isChordSign, Cond.instanceMethod yX9_isChordSign, Cond.selects RX9 yX9_isChordSign yX9_isChordSign, Cond.code yX9_isChordSign cX9_isChordSign 4 (some .boolean), Cond.constantLong RX9 133 (97), Cond.constantLong RX9 135 (108), Cond.methodLink RX9 129 yX9_kindBy, Cond.static yX9_kindBy, Cond.code yX9_kindBy cX9_kindBy 1 (some .int), Cond.methodLink RX9 158 yX9_copy, Cond.static yX9_copy, Cond.code yX9_copy cX9_copy 3 none]
def wsX9_part : List Cond := .code yX9_part cX9_part 2 (some .int) :: ((wsX9_part_r1 ++ wsX9_part_r2) ++ wsX90)
def wsX9_lacks : List Cond := .code yX9_lacks cX9_lacks 1 (some .boolean) :: ([.fieldLink RX9 155 "HarpPedalsModel" "chords" "I"] ++ wsX90)
def wsX9_isChord : List Cond := .code yX9_isChord cX9_isChord 2 (some .boolean) :: ([.fieldLink RX9 155 "HarpPedalsModel" "chords" "I", .methodLink RX9 102 yX9_in, .static yX9_in, .initialized RX9, .code yX9_in cX9_in 6 (some .boolean)] ++ wsX90)
def wsX9_isFitting : List Cond := .code yX9_isFitting cX9_isFitting 6 (some .boolean) :: ([.methodLink RX9 115 yX9_toneIn, .instanceMethod yX9_toneIn, .selects RX9 yX9_toneIn yX9_toneIn, .initialized RX9, .code yX9_toneIn cX9_toneIn 3 (some .int), .fieldLink RX9 16 "HarpPedalsModel" "toneAt" "[I"] ++ wsX90)
def wsX9_shiftedTones : List Cond := .code yX9_shiftedTones cX9_shiftedTones 3 (some .int) :: ([])
def wsX9_layFits : List Cond := .code yX9_layFits cX9_layFits 5 none :: ([.fieldLink RX9 155 "HarpPedalsModel" "chords" "I", .fieldLink RX9 53 "HarpPedalsModel" "tones" "[I", .fieldLink RX9 56 "HarpPedalsModel" "fits" "[I", .fieldLink RX9 50 "HarpPedalsModel" "kinds" "[I", .methodLink RX9 172 yX9_shiftedTones, .instanceMethod yX9_shiftedTones, .selects RX9 yX9_shiftedTones yX9_shiftedTones, .initialized RX9, .code yX9_shiftedTones cX9_shiftedTones 3 (some .int), .methodLink RX9 175 yX9_isFitting, .instanceMethod yX9_isFitting, .selects RX9 yX9_isFitting yX9_isFitting, .code yX9_isFitting cX9_isFitting 6 (some .boolean), .methodLink RX9 115 yX9_toneIn, .instanceMethod yX9_toneIn, .selects RX9 yX9_toneIn yX9_toneIn, .code yX9_toneIn cX9_toneIn 3 (some .int), .fieldLink RX9 16 "HarpPedalsModel" "toneAt" "[I"] ++ wsX90)
def wsX9_heldBy : List Cond := .code yX9_heldBy cX9_heldBy 3 (some .int) :: ([.fieldLink RX9 50 "HarpPedalsModel" "kinds" "[I", .fieldLink RX9 53 "HarpPedalsModel" "tones" "[I", .methodLink RX9 172 yX9_shiftedTones, .instanceMethod yX9_shiftedTones, .selects RX9 yX9_shiftedTones yX9_shiftedTones, .initialized RX9, .code yX9_shiftedTones cX9_shiftedTones 3 (some .int)] ++ wsX90)
def wsX9_bestFrom_r1 : List Cond := [Cond.fieldLink RX9 50 "HarpPedalsModel" "kinds" "[I", Cond.constant RX9 188 (99999), Cond.fieldLink RX9 59 "HarpPedalsModel" "rest" "[I", Cond.fieldLink RX9 56 "HarpPedalsModel" "fits" "[I", Cond.methodLink RX9 179 yX9_heldBy, Cond.instanceMethod yX9_heldBy, Cond.selects RX9 yX9_heldBy yX9_heldBy, Cond.initialized RX9, Cond.code yX9_heldBy cX9_heldBy 3 (some .int), Cond.fieldLink RX9 53 "HarpPedalsModel" "tones" "[I", Cond.methodLink RX9 172 yX9_shiftedTones, Cond.instanceMethod yX9_shiftedTones, Cond.selects RX9 yX9_shiftedTones yX9_shiftedTones, Cond.code yX9_shiftedTones cX9_shiftedTones 3 (some .int), Cond.methodLink RX9 182 yX9_heldPedals, Cond.instanceMethod yX9_heldPedals, Cond.selects RX9 yX9_heldPedals yX9_heldPedals, Cond.code yX9_heldPedals cX9_heldPedals 5 (some .int), Cond.methodLink RX9 115 yX9_toneIn, Cond.instanceMethod yX9_toneIn, Cond.selects RX9 yX9_toneIn yX9_toneIn, Cond.code yX9_toneIn cX9_toneIn 3 (some .int), Cond.fieldLink RX9 16 "HarpPedalsModel" "toneAt" "[I", Cond.methodLink RX9 185 yX9_mostOf]
def wsX9_bestFrom_r2 : List Cond := [Cond.static yX9_mostOf, Cond.code yX9_mostOf cX9_mostOf 1 (some .int), Cond.methodLink RX9 189 yX9_can, Cond.instanceMethod yX9_can, Cond.selects RX9 yX9_can yX9_can, Cond.code yX9_can cX9_can 4 (some .boolean), Cond.fieldLink RX9 31 "HarpPedalsModel" "movedAt" "[I", Cond.fieldLink RX9 34 "HarpPedalsModel" "bitsAt" "[I", Cond.methodLink RX9 192 yX9_after, Cond.instanceMethod yX9_after, Cond.selects RX9 yX9_after yX9_after, Cond.code yX9_after cX9_after 3 (some .int), Cond.fieldLink RX9 38 "HarpPedalsModel" "afterAt" "[I", Cond.methodLink RX9 195 yX9_movedBy, Cond.instanceMethod yX9_movedBy, Cond.selects RX9 yX9_movedBy yX9_movedBy, Cond.code yX9_movedBy cX9_movedBy 2 (some .int)]
def wsX9_bestFrom : List Cond := .code yX9_bestFrom cX9_bestFrom 10 (some .int) :: ((wsX9_bestFrom_r1 ++ wsX9_bestFrom_r2) ++ wsX90)
def wsX9_layRest_r1 : List Cond := [Cond.fieldLink RX9 155 "HarpPedalsModel" "chords" "I", Cond.fieldLink RX9 59 "HarpPedalsModel" "rest" "[I", Cond.fieldLink RX9 56 "HarpPedalsModel" "fits" "[I", Cond.constant RX9 188 (99999), Cond.methodLink RX9 198 yX9_layFits, Cond.instanceMethod yX9_layFits, Cond.selects RX9 yX9_layFits yX9_layFits, Cond.initialized RX9, Cond.code yX9_layFits cX9_layFits 5 none, Cond.fieldLink RX9 53 "HarpPedalsModel" "tones" "[I", Cond.fieldLink RX9 50 "HarpPedalsModel" "kinds" "[I", Cond.methodLink RX9 172 yX9_shiftedTones, Cond.instanceMethod yX9_shiftedTones, Cond.selects RX9 yX9_shiftedTones yX9_shiftedTones, Cond.code yX9_shiftedTones cX9_shiftedTones 3 (some .int), Cond.methodLink RX9 175 yX9_isFitting, Cond.instanceMethod yX9_isFitting, Cond.selects RX9 yX9_isFitting yX9_isFitting, Cond.code yX9_isFitting cX9_isFitting 6 (some .boolean), Cond.methodLink RX9 115 yX9_toneIn, Cond.instanceMethod yX9_toneIn, Cond.selects RX9 yX9_toneIn yX9_toneIn, Cond.code yX9_toneIn cX9_toneIn 3 (some .int), Cond.fieldLink RX9 16 "HarpPedalsModel" "toneAt" "[I"]
def wsX9_layRest_r2 : List Cond := [Cond.methodLink RX9 202 yX9_bestFrom, Cond.instanceMethod yX9_bestFrom, Cond.selects RX9 yX9_bestFrom yX9_bestFrom, Cond.code yX9_bestFrom cX9_bestFrom 10 (some .int), Cond.methodLink RX9 179 yX9_heldBy, Cond.instanceMethod yX9_heldBy, Cond.selects RX9 yX9_heldBy yX9_heldBy, Cond.code yX9_heldBy cX9_heldBy 3 (some .int), Cond.methodLink RX9 182 yX9_heldPedals, Cond.instanceMethod yX9_heldPedals, Cond.selects RX9 yX9_heldPedals yX9_heldPedals, Cond.code yX9_heldPedals cX9_heldPedals 5 (some .int), Cond.methodLink RX9 185 yX9_mostOf, Cond.static yX9_mostOf, Cond.code yX9_mostOf cX9_mostOf 1 (some .int), Cond.methodLink RX9 189 yX9_can, Cond.instanceMethod yX9_can, Cond.selects RX9 yX9_can yX9_can, Cond.code yX9_can cX9_can 4 (some .boolean), Cond.fieldLink RX9 31 "HarpPedalsModel" "movedAt" "[I", Cond.fieldLink RX9 34 "HarpPedalsModel" "bitsAt" "[I", Cond.methodLink RX9 192 yX9_after, Cond.instanceMethod yX9_after, Cond.selects RX9 yX9_after yX9_after]
def wsX9_layRest_r3 : List Cond := [Cond.code yX9_after cX9_after 3 (some .int), Cond.fieldLink RX9 38 "HarpPedalsModel" "afterAt" "[I", Cond.methodLink RX9 195 yX9_movedBy, Cond.instanceMethod yX9_movedBy, Cond.selects RX9 yX9_movedBy yX9_movedBy, Cond.code yX9_movedBy cX9_movedBy 2 (some .int)]
def wsX9_layRest : List Cond := .code yX9_layRest cX9_layRest 4 none :: ((wsX9_layRest_r1 ++ (wsX9_layRest_r2 ++ wsX9_layRest_r3)) ++ wsX90)
def wsX9_layFrom_r1 : List Cond := [Cond.fieldLink RX9 50 "HarpPedalsModel" "kinds" "[I", Cond.fieldLink RX9 56 "HarpPedalsModel" "fits" "[I", Cond.fieldLink RX9 65 "HarpPedalsModel" "ways" "[I", Cond.fieldLink RX9 62 "HarpPedalsModel" "cost" "[I", Cond.constant RX9 205 (1000003), Cond.methodLink RX9 179 yX9_heldBy, Cond.instanceMethod yX9_heldBy, Cond.selects RX9 yX9_heldBy yX9_heldBy, Cond.initialized RX9, Cond.code yX9_heldBy cX9_heldBy 3 (some .int), Cond.fieldLink RX9 53 "HarpPedalsModel" "tones" "[I", Cond.methodLink RX9 172 yX9_shiftedTones, Cond.instanceMethod yX9_shiftedTones, Cond.selects RX9 yX9_shiftedTones yX9_shiftedTones, Cond.code yX9_shiftedTones cX9_shiftedTones 3 (some .int), Cond.methodLink RX9 182 yX9_heldPedals, Cond.instanceMethod yX9_heldPedals, Cond.selects RX9 yX9_heldPedals yX9_heldPedals, Cond.code yX9_heldPedals cX9_heldPedals 5 (some .int), Cond.methodLink RX9 115 yX9_toneIn, Cond.instanceMethod yX9_toneIn, Cond.selects RX9 yX9_toneIn yX9_toneIn, Cond.code yX9_toneIn cX9_toneIn 3 (some .int), Cond.fieldLink RX9 16 "HarpPedalsModel" "toneAt" "[I"]
def wsX9_layFrom_r2 : List Cond := [Cond.methodLink RX9 185 yX9_mostOf, Cond.static yX9_mostOf, Cond.code yX9_mostOf cX9_mostOf 1 (some .int), Cond.methodLink RX9 192 yX9_after, Cond.instanceMethod yX9_after, Cond.selects RX9 yX9_after yX9_after, Cond.code yX9_after cX9_after 3 (some .int), Cond.fieldLink RX9 38 "HarpPedalsModel" "afterAt" "[I", Cond.methodLink RX9 189 yX9_can, Cond.instanceMethod yX9_can, Cond.selects RX9 yX9_can yX9_can, Cond.code yX9_can cX9_can 4 (some .boolean), Cond.fieldLink RX9 31 "HarpPedalsModel" "movedAt" "[I", Cond.fieldLink RX9 34 "HarpPedalsModel" "bitsAt" "[I", Cond.methodLink RX9 195 yX9_movedBy, Cond.instanceMethod yX9_movedBy, Cond.selects RX9 yX9_movedBy yX9_movedBy, Cond.code yX9_movedBy cX9_movedBy 2 (some .int)]
def wsX9_layFrom : List Cond := .code yX9_layFrom cX9_layFrom 11 none :: ((wsX9_layFrom_r1 ++ wsX9_layFrom_r2) ++ wsX90)
def wsX9_layCost_r1 : List Cond := [Cond.fieldLink RX9 155 "HarpPedalsModel" "chords" "I", Cond.fieldLink RX9 62 "HarpPedalsModel" "cost" "[I", Cond.constant RX9 188 (99999), Cond.fieldLink RX9 65 "HarpPedalsModel" "ways" "[I", Cond.fieldLink RX9 152 "HarpPedalsModel" "begin" "I", Cond.methodLink RX9 206 yX9_layFrom, Cond.instanceMethod yX9_layFrom, Cond.selects RX9 yX9_layFrom yX9_layFrom, Cond.initialized RX9, Cond.code yX9_layFrom cX9_layFrom 11 none, Cond.fieldLink RX9 50 "HarpPedalsModel" "kinds" "[I", Cond.fieldLink RX9 56 "HarpPedalsModel" "fits" "[I", Cond.constant RX9 205 (1000003), Cond.methodLink RX9 179 yX9_heldBy, Cond.instanceMethod yX9_heldBy, Cond.selects RX9 yX9_heldBy yX9_heldBy, Cond.code yX9_heldBy cX9_heldBy 3 (some .int), Cond.fieldLink RX9 53 "HarpPedalsModel" "tones" "[I", Cond.methodLink RX9 172 yX9_shiftedTones, Cond.instanceMethod yX9_shiftedTones, Cond.selects RX9 yX9_shiftedTones yX9_shiftedTones, Cond.code yX9_shiftedTones cX9_shiftedTones 3 (some .int), Cond.methodLink RX9 182 yX9_heldPedals, Cond.instanceMethod yX9_heldPedals]
def wsX9_layCost_r2 : List Cond := [Cond.selects RX9 yX9_heldPedals yX9_heldPedals, Cond.code yX9_heldPedals cX9_heldPedals 5 (some .int), Cond.methodLink RX9 115 yX9_toneIn, Cond.instanceMethod yX9_toneIn, Cond.selects RX9 yX9_toneIn yX9_toneIn, Cond.code yX9_toneIn cX9_toneIn 3 (some .int), Cond.fieldLink RX9 16 "HarpPedalsModel" "toneAt" "[I", Cond.methodLink RX9 185 yX9_mostOf, Cond.static yX9_mostOf, Cond.code yX9_mostOf cX9_mostOf 1 (some .int), Cond.methodLink RX9 192 yX9_after, Cond.instanceMethod yX9_after, Cond.selects RX9 yX9_after yX9_after, Cond.code yX9_after cX9_after 3 (some .int), Cond.fieldLink RX9 38 "HarpPedalsModel" "afterAt" "[I", Cond.methodLink RX9 189 yX9_can, Cond.instanceMethod yX9_can, Cond.selects RX9 yX9_can yX9_can, Cond.code yX9_can cX9_can 4 (some .boolean), Cond.fieldLink RX9 31 "HarpPedalsModel" "movedAt" "[I", Cond.fieldLink RX9 34 "HarpPedalsModel" "bitsAt" "[I", Cond.methodLink RX9 195 yX9_movedBy, Cond.instanceMethod yX9_movedBy, Cond.selects RX9 yX9_movedBy yX9_movedBy]
def wsX9_layCost_r3 : List Cond := [Cond.code yX9_movedBy cX9_movedBy 2 (some .int)]
def wsX9_layCost : List Cond := .code yX9_layCost cX9_layCost 4 none :: ((wsX9_layCost_r1 ++ (wsX9_layCost_r2 ++ wsX9_layCost_r3)) ++ wsX90)
def wsX9_layBest_r1 : List Cond := [Cond.fieldLink RX9 152 "HarpPedalsModel" "begin" "I", Cond.fieldLink RX9 210 "HarpPedalsModel" "fewest" "I", Cond.fieldLink RX9 155 "HarpPedalsModel" "chords" "I", Cond.fieldLink RX9 50 "HarpPedalsModel" "kinds" "[I", Cond.constant RX9 188 (99999), Cond.fieldLink RX9 56 "HarpPedalsModel" "fits" "[I", Cond.fieldLink RX9 59 "HarpPedalsModel" "rest" "[I", Cond.fieldLink RX9 68 "HarpPedalsModel" "best" "[I", Cond.methodLink RX9 179 yX9_heldBy, Cond.instanceMethod yX9_heldBy, Cond.selects RX9 yX9_heldBy yX9_heldBy, Cond.initialized RX9, Cond.code yX9_heldBy cX9_heldBy 3 (some .int), Cond.fieldLink RX9 53 "HarpPedalsModel" "tones" "[I", Cond.methodLink RX9 172 yX9_shiftedTones, Cond.instanceMethod yX9_shiftedTones, Cond.selects RX9 yX9_shiftedTones yX9_shiftedTones, Cond.code yX9_shiftedTones cX9_shiftedTones 3 (some .int), Cond.methodLink RX9 182 yX9_heldPedals, Cond.instanceMethod yX9_heldPedals, Cond.selects RX9 yX9_heldPedals yX9_heldPedals, Cond.code yX9_heldPedals cX9_heldPedals 5 (some .int), Cond.methodLink RX9 115 yX9_toneIn, Cond.instanceMethod yX9_toneIn]
def wsX9_layBest_r2 : List Cond := [Cond.selects RX9 yX9_toneIn yX9_toneIn, Cond.code yX9_toneIn cX9_toneIn 3 (some .int), Cond.fieldLink RX9 16 "HarpPedalsModel" "toneAt" "[I", Cond.methodLink RX9 185 yX9_mostOf, Cond.static yX9_mostOf, Cond.code yX9_mostOf cX9_mostOf 1 (some .int), Cond.methodLink RX9 192 yX9_after, Cond.instanceMethod yX9_after, Cond.selects RX9 yX9_after yX9_after, Cond.code yX9_after cX9_after 3 (some .int), Cond.fieldLink RX9 38 "HarpPedalsModel" "afterAt" "[I", Cond.methodLink RX9 189 yX9_can, Cond.instanceMethod yX9_can, Cond.selects RX9 yX9_can yX9_can, Cond.code yX9_can cX9_can 4 (some .boolean), Cond.fieldLink RX9 31 "HarpPedalsModel" "movedAt" "[I", Cond.fieldLink RX9 34 "HarpPedalsModel" "bitsAt" "[I", Cond.methodLink RX9 195 yX9_movedBy, Cond.instanceMethod yX9_movedBy, Cond.selects RX9 yX9_movedBy yX9_movedBy, Cond.code yX9_movedBy cX9_movedBy 2 (some .int)]
def wsX9_layBest : List Cond := .code yX9_layBest cX9_layBest 11 none :: ((wsX9_layBest_r1 ++ wsX9_layBest_r2) ++ wsX90)
def wsX9_freshen_r1 : List Cond := [Cond.fieldLink RX9 168 "HarpPedalsModel" "old" "Z", Cond.fieldLink RX9 152 "HarpPedalsModel" "begin" "I", Cond.fieldLink RX9 210 "HarpPedalsModel" "fewest" "I", Cond.fieldLink RX9 219 "HarpPedalsModel" "waysAll" "I", Cond.fieldLink RX9 222 "HarpPedalsModel" "stuck" "I", Cond.fieldLink RX9 155 "HarpPedalsModel" "chords" "I", Cond.fieldLink RX9 71 "HarpPedalsModel" "reached" "[I", Cond.fieldLink RX9 62 "HarpPedalsModel" "cost" "[I", Cond.constant RX9 188 (99999), Cond.fieldLink RX9 65 "HarpPedalsModel" "ways" "[I", Cond.constant RX9 205 (1000003), Cond.methodLink RX9 213 yX9_layRest, Cond.instanceMethod yX9_layRest, Cond.selects RX9 yX9_layRest yX9_layRest, Cond.initialized RX9, Cond.code yX9_layRest cX9_layRest 4 none, Cond.fieldLink RX9 59 "HarpPedalsModel" "rest" "[I", Cond.fieldLink RX9 56 "HarpPedalsModel" "fits" "[I", Cond.methodLink RX9 198 yX9_layFits, Cond.instanceMethod yX9_layFits, Cond.selects RX9 yX9_layFits yX9_layFits, Cond.code yX9_layFits cX9_layFits 5 none, Cond.fieldLink RX9 53 "HarpPedalsModel" "tones" "[I", Cond.fieldLink RX9 50 "HarpPedalsModel" "kinds" "[I"]
def wsX9_freshen_r2 : List Cond := [Cond.methodLink RX9 172 yX9_shiftedTones, Cond.instanceMethod yX9_shiftedTones, Cond.selects RX9 yX9_shiftedTones yX9_shiftedTones, Cond.code yX9_shiftedTones cX9_shiftedTones 3 (some .int), Cond.methodLink RX9 175 yX9_isFitting, Cond.instanceMethod yX9_isFitting, Cond.selects RX9 yX9_isFitting yX9_isFitting, Cond.code yX9_isFitting cX9_isFitting 6 (some .boolean), Cond.methodLink RX9 115 yX9_toneIn, Cond.instanceMethod yX9_toneIn, Cond.selects RX9 yX9_toneIn yX9_toneIn, Cond.code yX9_toneIn cX9_toneIn 3 (some .int), Cond.fieldLink RX9 16 "HarpPedalsModel" "toneAt" "[I", Cond.methodLink RX9 202 yX9_bestFrom, Cond.instanceMethod yX9_bestFrom, Cond.selects RX9 yX9_bestFrom yX9_bestFrom, Cond.code yX9_bestFrom cX9_bestFrom 10 (some .int), Cond.methodLink RX9 179 yX9_heldBy, Cond.instanceMethod yX9_heldBy, Cond.selects RX9 yX9_heldBy yX9_heldBy, Cond.code yX9_heldBy cX9_heldBy 3 (some .int), Cond.methodLink RX9 182 yX9_heldPedals, Cond.instanceMethod yX9_heldPedals, Cond.selects RX9 yX9_heldPedals yX9_heldPedals]
def wsX9_freshen_r3 : List Cond := [Cond.code yX9_heldPedals cX9_heldPedals 5 (some .int), Cond.methodLink RX9 185 yX9_mostOf, Cond.static yX9_mostOf, Cond.code yX9_mostOf cX9_mostOf 1 (some .int), Cond.methodLink RX9 189 yX9_can, Cond.instanceMethod yX9_can, Cond.selects RX9 yX9_can yX9_can, Cond.code yX9_can cX9_can 4 (some .boolean), Cond.fieldLink RX9 31 "HarpPedalsModel" "movedAt" "[I", Cond.fieldLink RX9 34 "HarpPedalsModel" "bitsAt" "[I", Cond.methodLink RX9 192 yX9_after, Cond.instanceMethod yX9_after, Cond.selects RX9 yX9_after yX9_after, Cond.code yX9_after cX9_after 3 (some .int), Cond.fieldLink RX9 38 "HarpPedalsModel" "afterAt" "[I", Cond.methodLink RX9 195 yX9_movedBy, Cond.instanceMethod yX9_movedBy, Cond.selects RX9 yX9_movedBy yX9_movedBy, Cond.code yX9_movedBy cX9_movedBy 2 (some .int), Cond.methodLink RX9 216 yX9_layCost, Cond.instanceMethod yX9_layCost, Cond.selects RX9 yX9_layCost yX9_layCost, Cond.code yX9_layCost cX9_layCost 4 none, Cond.methodLink RX9 206 yX9_layFrom]
def wsX9_freshen_r4 : List Cond := [Cond.instanceMethod yX9_layFrom, Cond.selects RX9 yX9_layFrom yX9_layFrom, Cond.code yX9_layFrom cX9_layFrom 11 none, Cond.methodLink RX9 225 yX9_layBest, Cond.instanceMethod yX9_layBest, Cond.selects RX9 yX9_layBest yX9_layBest, Cond.code yX9_layBest cX9_layBest 11 none, Cond.fieldLink RX9 68 "HarpPedalsModel" "best" "[I"]
def wsX9_freshen : List Cond := .code yX9_freshen cX9_freshen 4 none :: ((wsX9_freshen_r1 ++ (wsX9_freshen_r2 ++ (wsX9_freshen_r3 ++ wsX9_freshen_r4))) ++ wsX90)
def wsX9_planOf_r1 : List Cond := [Cond.fieldLink RX9 210 "HarpPedalsModel" "fewest" "I", Cond.constant RX9 188 (99999), Cond.fieldLink RX9 219 "HarpPedalsModel" "waysAll" "I", Cond.fieldLink RX9 222 "HarpPedalsModel" "stuck" "I", Cond.methodLink RX9 228 yX9_freshen, Cond.instanceMethod yX9_freshen, Cond.selects RX9 yX9_freshen yX9_freshen, Cond.initialized RX9, Cond.code yX9_freshen cX9_freshen 4 none, Cond.fieldLink RX9 168 "HarpPedalsModel" "old" "Z", Cond.fieldLink RX9 152 "HarpPedalsModel" "begin" "I", Cond.fieldLink RX9 155 "HarpPedalsModel" "chords" "I", Cond.fieldLink RX9 71 "HarpPedalsModel" "reached" "[I", Cond.fieldLink RX9 62 "HarpPedalsModel" "cost" "[I", Cond.fieldLink RX9 65 "HarpPedalsModel" "ways" "[I", Cond.constant RX9 205 (1000003), Cond.methodLink RX9 213 yX9_layRest, Cond.instanceMethod yX9_layRest, Cond.selects RX9 yX9_layRest yX9_layRest, Cond.code yX9_layRest cX9_layRest 4 none, Cond.fieldLink RX9 59 "HarpPedalsModel" "rest" "[I", Cond.fieldLink RX9 56 "HarpPedalsModel" "fits" "[I", Cond.methodLink RX9 198 yX9_layFits, Cond.instanceMethod yX9_layFits]
def wsX9_planOf_r2 : List Cond := [Cond.selects RX9 yX9_layFits yX9_layFits, Cond.code yX9_layFits cX9_layFits 5 none, Cond.fieldLink RX9 53 "HarpPedalsModel" "tones" "[I", Cond.fieldLink RX9 50 "HarpPedalsModel" "kinds" "[I", Cond.methodLink RX9 172 yX9_shiftedTones, Cond.instanceMethod yX9_shiftedTones, Cond.selects RX9 yX9_shiftedTones yX9_shiftedTones, Cond.code yX9_shiftedTones cX9_shiftedTones 3 (some .int), Cond.methodLink RX9 175 yX9_isFitting, Cond.instanceMethod yX9_isFitting, Cond.selects RX9 yX9_isFitting yX9_isFitting, Cond.code yX9_isFitting cX9_isFitting 6 (some .boolean), Cond.methodLink RX9 115 yX9_toneIn, Cond.instanceMethod yX9_toneIn, Cond.selects RX9 yX9_toneIn yX9_toneIn, Cond.code yX9_toneIn cX9_toneIn 3 (some .int), Cond.fieldLink RX9 16 "HarpPedalsModel" "toneAt" "[I", Cond.methodLink RX9 202 yX9_bestFrom, Cond.instanceMethod yX9_bestFrom, Cond.selects RX9 yX9_bestFrom yX9_bestFrom, Cond.code yX9_bestFrom cX9_bestFrom 10 (some .int), Cond.methodLink RX9 179 yX9_heldBy, Cond.instanceMethod yX9_heldBy, Cond.selects RX9 yX9_heldBy yX9_heldBy]
def wsX9_planOf_r3 : List Cond := [Cond.code yX9_heldBy cX9_heldBy 3 (some .int), Cond.methodLink RX9 182 yX9_heldPedals, Cond.instanceMethod yX9_heldPedals, Cond.selects RX9 yX9_heldPedals yX9_heldPedals, Cond.code yX9_heldPedals cX9_heldPedals 5 (some .int), Cond.methodLink RX9 185 yX9_mostOf, Cond.static yX9_mostOf, Cond.code yX9_mostOf cX9_mostOf 1 (some .int), Cond.methodLink RX9 189 yX9_can, Cond.instanceMethod yX9_can, Cond.selects RX9 yX9_can yX9_can, Cond.code yX9_can cX9_can 4 (some .boolean), Cond.fieldLink RX9 31 "HarpPedalsModel" "movedAt" "[I", Cond.fieldLink RX9 34 "HarpPedalsModel" "bitsAt" "[I", Cond.methodLink RX9 192 yX9_after, Cond.instanceMethod yX9_after, Cond.selects RX9 yX9_after yX9_after, Cond.code yX9_after cX9_after 3 (some .int), Cond.fieldLink RX9 38 "HarpPedalsModel" "afterAt" "[I", Cond.methodLink RX9 195 yX9_movedBy, Cond.instanceMethod yX9_movedBy, Cond.selects RX9 yX9_movedBy yX9_movedBy, Cond.code yX9_movedBy cX9_movedBy 2 (some .int), Cond.methodLink RX9 216 yX9_layCost]
def wsX9_planOf_r4 : List Cond := [Cond.instanceMethod yX9_layCost, Cond.selects RX9 yX9_layCost yX9_layCost, Cond.code yX9_layCost cX9_layCost 4 none, Cond.methodLink RX9 206 yX9_layFrom, Cond.instanceMethod yX9_layFrom, Cond.selects RX9 yX9_layFrom yX9_layFrom, Cond.code yX9_layFrom cX9_layFrom 11 none, Cond.methodLink RX9 225 yX9_layBest, Cond.instanceMethod yX9_layBest, Cond.selects RX9 yX9_layBest yX9_layBest, Cond.code yX9_layBest cX9_layBest 11 none, Cond.fieldLink RX9 68 "HarpPedalsModel" "best" "[I"]
def wsX9_planOf : List Cond := .code yX9_planOf cX9_planOf 2 (some .int) :: ((wsX9_planOf_r1 ++ (wsX9_planOf_r2 ++ (wsX9_planOf_r3 ++ wsX9_planOf_r4))) ++ wsX90)
def wsX9_plan_r1 : List Cond := [Cond.constantLong RX9 106 (2), Cond.methodLink RX9 102 yX9_in, Cond.static yX9_in, Cond.initialized RX9, Cond.code yX9_in cX9_in 6 (some .boolean), Cond.methodLink RX9 231 yX9_lacks, Cond.instanceMethod yX9_lacks, Cond.selects RX9 yX9_lacks yX9_lacks, Cond.code yX9_lacks cX9_lacks 1 (some .boolean), Cond.fieldLink RX9 155 "HarpPedalsModel" "chords" "I", Cond.methodLink RX9 235 yX9_planOf, Cond.instanceMethod yX9_planOf, Cond.selects RX9 yX9_planOf yX9_planOf, Cond.code yX9_planOf cX9_planOf 2 (some .int), Cond.fieldLink RX9 210 "HarpPedalsModel" "fewest" "I", Cond.constant RX9 188 (99999), Cond.fieldLink RX9 219 "HarpPedalsModel" "waysAll" "I", Cond.fieldLink RX9 222 "HarpPedalsModel" "stuck" "I", Cond.methodLink RX9 228 yX9_freshen, Cond.instanceMethod yX9_freshen, Cond.selects RX9 yX9_freshen yX9_freshen, Cond.code yX9_freshen cX9_freshen 4 none, Cond.fieldLink RX9 168 "HarpPedalsModel" "old" "Z", Cond.fieldLink RX9 152 "HarpPedalsModel" "begin" "I"]
def wsX9_plan_r2 : List Cond := [Cond.fieldLink RX9 71 "HarpPedalsModel" "reached" "[I", Cond.fieldLink RX9 62 "HarpPedalsModel" "cost" "[I", Cond.fieldLink RX9 65 "HarpPedalsModel" "ways" "[I", Cond.constant RX9 205 (1000003), Cond.methodLink RX9 213 yX9_layRest, Cond.instanceMethod yX9_layRest, Cond.selects RX9 yX9_layRest yX9_layRest, Cond.code yX9_layRest cX9_layRest 4 none, Cond.fieldLink RX9 59 "HarpPedalsModel" "rest" "[I", Cond.fieldLink RX9 56 "HarpPedalsModel" "fits" "[I", Cond.methodLink RX9 198 yX9_layFits, Cond.instanceMethod yX9_layFits, Cond.selects RX9 yX9_layFits yX9_layFits, Cond.code yX9_layFits cX9_layFits 5 none, Cond.fieldLink RX9 53 "HarpPedalsModel" "tones" "[I", Cond.fieldLink RX9 50 "HarpPedalsModel" "kinds" "[I", Cond.methodLink RX9 172 yX9_shiftedTones, Cond.instanceMethod yX9_shiftedTones, Cond.selects RX9 yX9_shiftedTones yX9_shiftedTones, Cond.code yX9_shiftedTones cX9_shiftedTones 3 (some .int), Cond.methodLink RX9 175 yX9_isFitting, Cond.instanceMethod yX9_isFitting, Cond.selects RX9 yX9_isFitting yX9_isFitting, Cond.code yX9_isFitting cX9_isFitting 6 (some .boolean)]
def wsX9_plan_r3 : List Cond := [Cond.methodLink RX9 115 yX9_toneIn, Cond.instanceMethod yX9_toneIn, Cond.selects RX9 yX9_toneIn yX9_toneIn, Cond.code yX9_toneIn cX9_toneIn 3 (some .int), Cond.fieldLink RX9 16 "HarpPedalsModel" "toneAt" "[I", Cond.methodLink RX9 202 yX9_bestFrom, Cond.instanceMethod yX9_bestFrom, Cond.selects RX9 yX9_bestFrom yX9_bestFrom, Cond.code yX9_bestFrom cX9_bestFrom 10 (some .int), Cond.methodLink RX9 179 yX9_heldBy, Cond.instanceMethod yX9_heldBy, Cond.selects RX9 yX9_heldBy yX9_heldBy, Cond.code yX9_heldBy cX9_heldBy 3 (some .int), Cond.methodLink RX9 182 yX9_heldPedals, Cond.instanceMethod yX9_heldPedals, Cond.selects RX9 yX9_heldPedals yX9_heldPedals, Cond.code yX9_heldPedals cX9_heldPedals 5 (some .int), Cond.methodLink RX9 185 yX9_mostOf, Cond.static yX9_mostOf, Cond.code yX9_mostOf cX9_mostOf 1 (some .int), Cond.methodLink RX9 189 yX9_can, Cond.instanceMethod yX9_can, Cond.selects RX9 yX9_can yX9_can, Cond.code yX9_can cX9_can 4 (some .boolean)]
def wsX9_plan_r4 : List Cond := [Cond.fieldLink RX9 31 "HarpPedalsModel" "movedAt" "[I", Cond.fieldLink RX9 34 "HarpPedalsModel" "bitsAt" "[I", Cond.methodLink RX9 192 yX9_after, Cond.instanceMethod yX9_after, Cond.selects RX9 yX9_after yX9_after, Cond.code yX9_after cX9_after 3 (some .int), Cond.fieldLink RX9 38 "HarpPedalsModel" "afterAt" "[I", Cond.methodLink RX9 195 yX9_movedBy, Cond.instanceMethod yX9_movedBy, Cond.selects RX9 yX9_movedBy yX9_movedBy, Cond.code yX9_movedBy cX9_movedBy 2 (some .int), Cond.methodLink RX9 216 yX9_layCost, Cond.instanceMethod yX9_layCost, Cond.selects RX9 yX9_layCost yX9_layCost, Cond.code yX9_layCost cX9_layCost 4 none, Cond.methodLink RX9 206 yX9_layFrom, Cond.instanceMethod yX9_layFrom, Cond.selects RX9 yX9_layFrom yX9_layFrom, Cond.code yX9_layFrom cX9_layFrom 11 none, Cond.methodLink RX9 225 yX9_layBest, Cond.instanceMethod yX9_layBest, Cond.selects RX9 yX9_layBest yX9_layBest, Cond.code yX9_layBest cX9_layBest 11 none, Cond.fieldLink RX9 68 "HarpPedalsModel" "best" "[I"]
def wsX9_plan : List Cond := .code yX9_plan cX9_plan 2 (some .int) :: ((wsX9_plan_r1 ++ (wsX9_plan_r2 ++ (wsX9_plan_r3 ++ wsX9_plan_r4))) ++ wsX90)
def wsX9_settingOf_r1 : List Cond := [Cond.fieldLink RX9 68 "HarpPedalsModel" "best" "[I", Cond.methodLink RX9 228 yX9_freshen, Cond.instanceMethod yX9_freshen, Cond.selects RX9 yX9_freshen yX9_freshen, Cond.initialized RX9, Cond.code yX9_freshen cX9_freshen 4 none, Cond.fieldLink RX9 168 "HarpPedalsModel" "old" "Z", Cond.fieldLink RX9 152 "HarpPedalsModel" "begin" "I", Cond.fieldLink RX9 210 "HarpPedalsModel" "fewest" "I", Cond.fieldLink RX9 219 "HarpPedalsModel" "waysAll" "I", Cond.fieldLink RX9 222 "HarpPedalsModel" "stuck" "I", Cond.fieldLink RX9 155 "HarpPedalsModel" "chords" "I", Cond.fieldLink RX9 71 "HarpPedalsModel" "reached" "[I", Cond.fieldLink RX9 62 "HarpPedalsModel" "cost" "[I", Cond.constant RX9 188 (99999), Cond.fieldLink RX9 65 "HarpPedalsModel" "ways" "[I", Cond.constant RX9 205 (1000003), Cond.methodLink RX9 213 yX9_layRest, Cond.instanceMethod yX9_layRest, Cond.selects RX9 yX9_layRest yX9_layRest, Cond.code yX9_layRest cX9_layRest 4 none, Cond.fieldLink RX9 59 "HarpPedalsModel" "rest" "[I", Cond.fieldLink RX9 56 "HarpPedalsModel" "fits" "[I", Cond.methodLink RX9 198 yX9_layFits]
def wsX9_settingOf_r2 : List Cond := [Cond.instanceMethod yX9_layFits, Cond.selects RX9 yX9_layFits yX9_layFits, Cond.code yX9_layFits cX9_layFits 5 none, Cond.fieldLink RX9 53 "HarpPedalsModel" "tones" "[I", Cond.fieldLink RX9 50 "HarpPedalsModel" "kinds" "[I", Cond.methodLink RX9 172 yX9_shiftedTones, Cond.instanceMethod yX9_shiftedTones, Cond.selects RX9 yX9_shiftedTones yX9_shiftedTones, Cond.code yX9_shiftedTones cX9_shiftedTones 3 (some .int), Cond.methodLink RX9 175 yX9_isFitting, Cond.instanceMethod yX9_isFitting, Cond.selects RX9 yX9_isFitting yX9_isFitting, Cond.code yX9_isFitting cX9_isFitting 6 (some .boolean), Cond.methodLink RX9 115 yX9_toneIn, Cond.instanceMethod yX9_toneIn, Cond.selects RX9 yX9_toneIn yX9_toneIn, Cond.code yX9_toneIn cX9_toneIn 3 (some .int), Cond.fieldLink RX9 16 "HarpPedalsModel" "toneAt" "[I", Cond.methodLink RX9 202 yX9_bestFrom, Cond.instanceMethod yX9_bestFrom, Cond.selects RX9 yX9_bestFrom yX9_bestFrom, Cond.code yX9_bestFrom cX9_bestFrom 10 (some .int), Cond.methodLink RX9 179 yX9_heldBy, Cond.instanceMethod yX9_heldBy]
def wsX9_settingOf_r3 : List Cond := [Cond.selects RX9 yX9_heldBy yX9_heldBy, Cond.code yX9_heldBy cX9_heldBy 3 (some .int), Cond.methodLink RX9 182 yX9_heldPedals, Cond.instanceMethod yX9_heldPedals, Cond.selects RX9 yX9_heldPedals yX9_heldPedals, Cond.code yX9_heldPedals cX9_heldPedals 5 (some .int), Cond.methodLink RX9 185 yX9_mostOf, Cond.static yX9_mostOf, Cond.code yX9_mostOf cX9_mostOf 1 (some .int), Cond.methodLink RX9 189 yX9_can, Cond.instanceMethod yX9_can, Cond.selects RX9 yX9_can yX9_can, Cond.code yX9_can cX9_can 4 (some .boolean), Cond.fieldLink RX9 31 "HarpPedalsModel" "movedAt" "[I", Cond.fieldLink RX9 34 "HarpPedalsModel" "bitsAt" "[I", Cond.methodLink RX9 192 yX9_after, Cond.instanceMethod yX9_after, Cond.selects RX9 yX9_after yX9_after, Cond.code yX9_after cX9_after 3 (some .int), Cond.fieldLink RX9 38 "HarpPedalsModel" "afterAt" "[I", Cond.methodLink RX9 195 yX9_movedBy, Cond.instanceMethod yX9_movedBy, Cond.selects RX9 yX9_movedBy yX9_movedBy, Cond.code yX9_movedBy cX9_movedBy 2 (some .int)]
def wsX9_settingOf_r4 : List Cond := [Cond.methodLink RX9 216 yX9_layCost, Cond.instanceMethod yX9_layCost, Cond.selects RX9 yX9_layCost yX9_layCost, Cond.code yX9_layCost cX9_layCost 4 none, Cond.methodLink RX9 206 yX9_layFrom, Cond.instanceMethod yX9_layFrom, Cond.selects RX9 yX9_layFrom yX9_layFrom, Cond.code yX9_layFrom cX9_layFrom 11 none, Cond.methodLink RX9 225 yX9_layBest, Cond.instanceMethod yX9_layBest, Cond.selects RX9 yX9_layBest yX9_layBest, Cond.code yX9_layBest cX9_layBest 11 none, Cond.methodLink RX9 238 yX9_told, Cond.instanceMethod yX9_told, Cond.selects RX9 yX9_told yX9_told, Cond.code yX9_told cX9_told 4 (some .int), Cond.methodLink RX9 96 yX9_positionOf, Cond.instanceMethod yX9_positionOf, Cond.selects RX9 yX9_positionOf yX9_positionOf, Cond.code yX9_positionOf cX9_positionOf 3 (some .int), Cond.fieldLink RX9 7 "HarpPedalsModel" "power" "[I"]
def wsX9_settingOf : List Cond := .code yX9_settingOf cX9_settingOf 2 (some .int) :: ((wsX9_settingOf_r1 ++ (wsX9_settingOf_r2 ++ (wsX9_settingOf_r3 ++ wsX9_settingOf_r4))) ++ wsX90)
def wsX9_setting_r1 : List Cond := [Cond.methodLink RX9 241 yX9_isChord, Cond.instanceMethod yX9_isChord, Cond.selects RX9 yX9_isChord yX9_isChord, Cond.initialized RX9, Cond.code yX9_isChord cX9_isChord 2 (some .boolean), Cond.fieldLink RX9 155 "HarpPedalsModel" "chords" "I", Cond.methodLink RX9 102 yX9_in, Cond.static yX9_in, Cond.code yX9_in cX9_in 6 (some .boolean), Cond.methodLink RX9 244 yX9_settingOf, Cond.instanceMethod yX9_settingOf, Cond.selects RX9 yX9_settingOf yX9_settingOf, Cond.code yX9_settingOf cX9_settingOf 2 (some .int), Cond.fieldLink RX9 68 "HarpPedalsModel" "best" "[I", Cond.methodLink RX9 228 yX9_freshen, Cond.instanceMethod yX9_freshen, Cond.selects RX9 yX9_freshen yX9_freshen, Cond.code yX9_freshen cX9_freshen 4 none, Cond.fieldLink RX9 168 "HarpPedalsModel" "old" "Z", Cond.fieldLink RX9 152 "HarpPedalsModel" "begin" "I", Cond.fieldLink RX9 210 "HarpPedalsModel" "fewest" "I", Cond.fieldLink RX9 219 "HarpPedalsModel" "waysAll" "I", Cond.fieldLink RX9 222 "HarpPedalsModel" "stuck" "I", Cond.fieldLink RX9 71 "HarpPedalsModel" "reached" "[I"]
def wsX9_setting_r2 : List Cond := [Cond.fieldLink RX9 62 "HarpPedalsModel" "cost" "[I", Cond.constant RX9 188 (99999), Cond.fieldLink RX9 65 "HarpPedalsModel" "ways" "[I", Cond.constant RX9 205 (1000003), Cond.methodLink RX9 213 yX9_layRest, Cond.instanceMethod yX9_layRest, Cond.selects RX9 yX9_layRest yX9_layRest, Cond.code yX9_layRest cX9_layRest 4 none, Cond.fieldLink RX9 59 "HarpPedalsModel" "rest" "[I", Cond.fieldLink RX9 56 "HarpPedalsModel" "fits" "[I", Cond.methodLink RX9 198 yX9_layFits, Cond.instanceMethod yX9_layFits, Cond.selects RX9 yX9_layFits yX9_layFits, Cond.code yX9_layFits cX9_layFits 5 none, Cond.fieldLink RX9 53 "HarpPedalsModel" "tones" "[I", Cond.fieldLink RX9 50 "HarpPedalsModel" "kinds" "[I", Cond.methodLink RX9 172 yX9_shiftedTones, Cond.instanceMethod yX9_shiftedTones, Cond.selects RX9 yX9_shiftedTones yX9_shiftedTones, Cond.code yX9_shiftedTones cX9_shiftedTones 3 (some .int), Cond.methodLink RX9 175 yX9_isFitting, Cond.instanceMethod yX9_isFitting, Cond.selects RX9 yX9_isFitting yX9_isFitting, Cond.code yX9_isFitting cX9_isFitting 6 (some .boolean)]
def wsX9_setting_r3 : List Cond := [Cond.methodLink RX9 115 yX9_toneIn, Cond.instanceMethod yX9_toneIn, Cond.selects RX9 yX9_toneIn yX9_toneIn, Cond.code yX9_toneIn cX9_toneIn 3 (some .int), Cond.fieldLink RX9 16 "HarpPedalsModel" "toneAt" "[I", Cond.methodLink RX9 202 yX9_bestFrom, Cond.instanceMethod yX9_bestFrom, Cond.selects RX9 yX9_bestFrom yX9_bestFrom, Cond.code yX9_bestFrom cX9_bestFrom 10 (some .int), Cond.methodLink RX9 179 yX9_heldBy, Cond.instanceMethod yX9_heldBy, Cond.selects RX9 yX9_heldBy yX9_heldBy, Cond.code yX9_heldBy cX9_heldBy 3 (some .int), Cond.methodLink RX9 182 yX9_heldPedals, Cond.instanceMethod yX9_heldPedals, Cond.selects RX9 yX9_heldPedals yX9_heldPedals, Cond.code yX9_heldPedals cX9_heldPedals 5 (some .int), Cond.methodLink RX9 185 yX9_mostOf, Cond.static yX9_mostOf, Cond.code yX9_mostOf cX9_mostOf 1 (some .int), Cond.methodLink RX9 189 yX9_can, Cond.instanceMethod yX9_can, Cond.selects RX9 yX9_can yX9_can, Cond.code yX9_can cX9_can 4 (some .boolean)]
def wsX9_setting_r4 : List Cond := [Cond.fieldLink RX9 31 "HarpPedalsModel" "movedAt" "[I", Cond.fieldLink RX9 34 "HarpPedalsModel" "bitsAt" "[I", Cond.methodLink RX9 192 yX9_after, Cond.instanceMethod yX9_after, Cond.selects RX9 yX9_after yX9_after, Cond.code yX9_after cX9_after 3 (some .int), Cond.fieldLink RX9 38 "HarpPedalsModel" "afterAt" "[I", Cond.methodLink RX9 195 yX9_movedBy, Cond.instanceMethod yX9_movedBy, Cond.selects RX9 yX9_movedBy yX9_movedBy, Cond.code yX9_movedBy cX9_movedBy 2 (some .int), Cond.methodLink RX9 216 yX9_layCost, Cond.instanceMethod yX9_layCost, Cond.selects RX9 yX9_layCost yX9_layCost, Cond.code yX9_layCost cX9_layCost 4 none, Cond.methodLink RX9 206 yX9_layFrom, Cond.instanceMethod yX9_layFrom, Cond.selects RX9 yX9_layFrom yX9_layFrom, Cond.code yX9_layFrom cX9_layFrom 11 none, Cond.methodLink RX9 225 yX9_layBest, Cond.instanceMethod yX9_layBest, Cond.selects RX9 yX9_layBest yX9_layBest, Cond.code yX9_layBest cX9_layBest 11 none, Cond.methodLink RX9 238 yX9_told]
def wsX9_setting_r5 : List Cond := [Cond.instanceMethod yX9_told, Cond.selects RX9 yX9_told yX9_told, Cond.code yX9_told cX9_told 4 (some .int), Cond.methodLink RX9 96 yX9_positionOf, Cond.instanceMethod yX9_positionOf, Cond.selects RX9 yX9_positionOf yX9_positionOf, Cond.code yX9_positionOf cX9_positionOf 3 (some .int), Cond.fieldLink RX9 7 "HarpPedalsModel" "power" "[I"]
def wsX9_setting : List Cond := .code yX9_setting cX9_setting 2 (some .int) :: ((wsX9_setting_r1 ++ (wsX9_setting_r2 ++ (wsX9_setting_r3 ++ (wsX9_setting_r4 ++ wsX9_setting_r5)))) ++ wsX90)
def wsX9_reachOf_r1 : List Cond := [Cond.fieldLink RX9 71 "HarpPedalsModel" "reached" "[I", Cond.methodLink RX9 228 yX9_freshen, Cond.instanceMethod yX9_freshen, Cond.selects RX9 yX9_freshen yX9_freshen, Cond.initialized RX9, Cond.code yX9_freshen cX9_freshen 4 none, Cond.fieldLink RX9 168 "HarpPedalsModel" "old" "Z", Cond.fieldLink RX9 152 "HarpPedalsModel" "begin" "I", Cond.fieldLink RX9 210 "HarpPedalsModel" "fewest" "I", Cond.fieldLink RX9 219 "HarpPedalsModel" "waysAll" "I", Cond.fieldLink RX9 222 "HarpPedalsModel" "stuck" "I", Cond.fieldLink RX9 155 "HarpPedalsModel" "chords" "I", Cond.fieldLink RX9 62 "HarpPedalsModel" "cost" "[I", Cond.constant RX9 188 (99999), Cond.fieldLink RX9 65 "HarpPedalsModel" "ways" "[I", Cond.constant RX9 205 (1000003), Cond.methodLink RX9 213 yX9_layRest, Cond.instanceMethod yX9_layRest, Cond.selects RX9 yX9_layRest yX9_layRest, Cond.code yX9_layRest cX9_layRest 4 none, Cond.fieldLink RX9 59 "HarpPedalsModel" "rest" "[I", Cond.fieldLink RX9 56 "HarpPedalsModel" "fits" "[I", Cond.methodLink RX9 198 yX9_layFits, Cond.instanceMethod yX9_layFits]
def wsX9_reachOf_r2 : List Cond := [Cond.selects RX9 yX9_layFits yX9_layFits, Cond.code yX9_layFits cX9_layFits 5 none, Cond.fieldLink RX9 53 "HarpPedalsModel" "tones" "[I", Cond.fieldLink RX9 50 "HarpPedalsModel" "kinds" "[I", Cond.methodLink RX9 172 yX9_shiftedTones, Cond.instanceMethod yX9_shiftedTones, Cond.selects RX9 yX9_shiftedTones yX9_shiftedTones, Cond.code yX9_shiftedTones cX9_shiftedTones 3 (some .int), Cond.methodLink RX9 175 yX9_isFitting, Cond.instanceMethod yX9_isFitting, Cond.selects RX9 yX9_isFitting yX9_isFitting, Cond.code yX9_isFitting cX9_isFitting 6 (some .boolean), Cond.methodLink RX9 115 yX9_toneIn, Cond.instanceMethod yX9_toneIn, Cond.selects RX9 yX9_toneIn yX9_toneIn, Cond.code yX9_toneIn cX9_toneIn 3 (some .int), Cond.fieldLink RX9 16 "HarpPedalsModel" "toneAt" "[I", Cond.methodLink RX9 202 yX9_bestFrom, Cond.instanceMethod yX9_bestFrom, Cond.selects RX9 yX9_bestFrom yX9_bestFrom, Cond.code yX9_bestFrom cX9_bestFrom 10 (some .int), Cond.methodLink RX9 179 yX9_heldBy, Cond.instanceMethod yX9_heldBy, Cond.selects RX9 yX9_heldBy yX9_heldBy]
def wsX9_reachOf_r3 : List Cond := [Cond.code yX9_heldBy cX9_heldBy 3 (some .int), Cond.methodLink RX9 182 yX9_heldPedals, Cond.instanceMethod yX9_heldPedals, Cond.selects RX9 yX9_heldPedals yX9_heldPedals, Cond.code yX9_heldPedals cX9_heldPedals 5 (some .int), Cond.methodLink RX9 185 yX9_mostOf, Cond.static yX9_mostOf, Cond.code yX9_mostOf cX9_mostOf 1 (some .int), Cond.methodLink RX9 189 yX9_can, Cond.instanceMethod yX9_can, Cond.selects RX9 yX9_can yX9_can, Cond.code yX9_can cX9_can 4 (some .boolean), Cond.fieldLink RX9 31 "HarpPedalsModel" "movedAt" "[I", Cond.fieldLink RX9 34 "HarpPedalsModel" "bitsAt" "[I", Cond.methodLink RX9 192 yX9_after, Cond.instanceMethod yX9_after, Cond.selects RX9 yX9_after yX9_after, Cond.code yX9_after cX9_after 3 (some .int), Cond.fieldLink RX9 38 "HarpPedalsModel" "afterAt" "[I", Cond.methodLink RX9 195 yX9_movedBy, Cond.instanceMethod yX9_movedBy, Cond.selects RX9 yX9_movedBy yX9_movedBy, Cond.code yX9_movedBy cX9_movedBy 2 (some .int), Cond.methodLink RX9 216 yX9_layCost]
def wsX9_reachOf_r4 : List Cond := [Cond.instanceMethod yX9_layCost, Cond.selects RX9 yX9_layCost yX9_layCost, Cond.code yX9_layCost cX9_layCost 4 none, Cond.methodLink RX9 206 yX9_layFrom, Cond.instanceMethod yX9_layFrom, Cond.selects RX9 yX9_layFrom yX9_layFrom, Cond.code yX9_layFrom cX9_layFrom 11 none, Cond.methodLink RX9 225 yX9_layBest, Cond.instanceMethod yX9_layBest, Cond.selects RX9 yX9_layBest yX9_layBest, Cond.code yX9_layBest cX9_layBest 11 none, Cond.fieldLink RX9 68 "HarpPedalsModel" "best" "[I"]
def wsX9_reachOf : List Cond := .code yX9_reachOf cX9_reachOf 2 (some .int) :: ((wsX9_reachOf_r1 ++ (wsX9_reachOf_r2 ++ (wsX9_reachOf_r3 ++ wsX9_reachOf_r4))) ++ wsX90)
def wsX9_reach_r1 : List Cond := [Cond.methodLink RX9 241 yX9_isChord, Cond.instanceMethod yX9_isChord, Cond.selects RX9 yX9_isChord yX9_isChord, Cond.initialized RX9, Cond.code yX9_isChord cX9_isChord 2 (some .boolean), Cond.fieldLink RX9 155 "HarpPedalsModel" "chords" "I", Cond.methodLink RX9 102 yX9_in, Cond.static yX9_in, Cond.code yX9_in cX9_in 6 (some .boolean), Cond.methodLink RX9 247 yX9_reachOf, Cond.instanceMethod yX9_reachOf, Cond.selects RX9 yX9_reachOf yX9_reachOf, Cond.code yX9_reachOf cX9_reachOf 2 (some .int), Cond.fieldLink RX9 71 "HarpPedalsModel" "reached" "[I", Cond.methodLink RX9 228 yX9_freshen, Cond.instanceMethod yX9_freshen, Cond.selects RX9 yX9_freshen yX9_freshen, Cond.code yX9_freshen cX9_freshen 4 none, Cond.fieldLink RX9 168 "HarpPedalsModel" "old" "Z", Cond.fieldLink RX9 152 "HarpPedalsModel" "begin" "I", Cond.fieldLink RX9 210 "HarpPedalsModel" "fewest" "I", Cond.fieldLink RX9 219 "HarpPedalsModel" "waysAll" "I", Cond.fieldLink RX9 222 "HarpPedalsModel" "stuck" "I", Cond.fieldLink RX9 62 "HarpPedalsModel" "cost" "[I"]
def wsX9_reach_r2 : List Cond := [Cond.constant RX9 188 (99999), Cond.fieldLink RX9 65 "HarpPedalsModel" "ways" "[I", Cond.constant RX9 205 (1000003), Cond.methodLink RX9 213 yX9_layRest, Cond.instanceMethod yX9_layRest, Cond.selects RX9 yX9_layRest yX9_layRest, Cond.code yX9_layRest cX9_layRest 4 none, Cond.fieldLink RX9 59 "HarpPedalsModel" "rest" "[I", Cond.fieldLink RX9 56 "HarpPedalsModel" "fits" "[I", Cond.methodLink RX9 198 yX9_layFits, Cond.instanceMethod yX9_layFits, Cond.selects RX9 yX9_layFits yX9_layFits, Cond.code yX9_layFits cX9_layFits 5 none, Cond.fieldLink RX9 53 "HarpPedalsModel" "tones" "[I", Cond.fieldLink RX9 50 "HarpPedalsModel" "kinds" "[I", Cond.methodLink RX9 172 yX9_shiftedTones, Cond.instanceMethod yX9_shiftedTones, Cond.selects RX9 yX9_shiftedTones yX9_shiftedTones, Cond.code yX9_shiftedTones cX9_shiftedTones 3 (some .int), Cond.methodLink RX9 175 yX9_isFitting, Cond.instanceMethod yX9_isFitting, Cond.selects RX9 yX9_isFitting yX9_isFitting, Cond.code yX9_isFitting cX9_isFitting 6 (some .boolean), Cond.methodLink RX9 115 yX9_toneIn]
def wsX9_reach_r3 : List Cond := [Cond.instanceMethod yX9_toneIn, Cond.selects RX9 yX9_toneIn yX9_toneIn, Cond.code yX9_toneIn cX9_toneIn 3 (some .int), Cond.fieldLink RX9 16 "HarpPedalsModel" "toneAt" "[I", Cond.methodLink RX9 202 yX9_bestFrom, Cond.instanceMethod yX9_bestFrom, Cond.selects RX9 yX9_bestFrom yX9_bestFrom, Cond.code yX9_bestFrom cX9_bestFrom 10 (some .int), Cond.methodLink RX9 179 yX9_heldBy, Cond.instanceMethod yX9_heldBy, Cond.selects RX9 yX9_heldBy yX9_heldBy, Cond.code yX9_heldBy cX9_heldBy 3 (some .int), Cond.methodLink RX9 182 yX9_heldPedals, Cond.instanceMethod yX9_heldPedals, Cond.selects RX9 yX9_heldPedals yX9_heldPedals, Cond.code yX9_heldPedals cX9_heldPedals 5 (some .int), Cond.methodLink RX9 185 yX9_mostOf, Cond.static yX9_mostOf, Cond.code yX9_mostOf cX9_mostOf 1 (some .int), Cond.methodLink RX9 189 yX9_can, Cond.instanceMethod yX9_can, Cond.selects RX9 yX9_can yX9_can, Cond.code yX9_can cX9_can 4 (some .boolean), Cond.fieldLink RX9 31 "HarpPedalsModel" "movedAt" "[I"]
def wsX9_reach_r4 : List Cond := [Cond.fieldLink RX9 34 "HarpPedalsModel" "bitsAt" "[I", Cond.methodLink RX9 192 yX9_after, Cond.instanceMethod yX9_after, Cond.selects RX9 yX9_after yX9_after, Cond.code yX9_after cX9_after 3 (some .int), Cond.fieldLink RX9 38 "HarpPedalsModel" "afterAt" "[I", Cond.methodLink RX9 195 yX9_movedBy, Cond.instanceMethod yX9_movedBy, Cond.selects RX9 yX9_movedBy yX9_movedBy, Cond.code yX9_movedBy cX9_movedBy 2 (some .int), Cond.methodLink RX9 216 yX9_layCost, Cond.instanceMethod yX9_layCost, Cond.selects RX9 yX9_layCost yX9_layCost, Cond.code yX9_layCost cX9_layCost 4 none, Cond.methodLink RX9 206 yX9_layFrom, Cond.instanceMethod yX9_layFrom, Cond.selects RX9 yX9_layFrom yX9_layFrom, Cond.code yX9_layFrom cX9_layFrom 11 none, Cond.methodLink RX9 225 yX9_layBest, Cond.instanceMethod yX9_layBest, Cond.selects RX9 yX9_layBest yX9_layBest, Cond.code yX9_layBest cX9_layBest 11 none, Cond.fieldLink RX9 68 "HarpPedalsModel" "best" "[I"]
def wsX9_reach : List Cond := .code yX9_reach cX9_reach 2 (some .int) :: ((wsX9_reach_r1 ++ (wsX9_reach_r2 ++ (wsX9_reach_r3 ++ wsX9_reach_r4))) ++ wsX90)
def wsX9_shiftedOf_r1 : List Cond := [Cond.fieldLink RX9 152 "HarpPedalsModel" "begin" "I", Cond.fieldLink RX9 168 "HarpPedalsModel" "old" "Z", Cond.constant RX9 188 (99999), Cond.methodLink RX9 213 yX9_layRest, Cond.instanceMethod yX9_layRest, Cond.selects RX9 yX9_layRest yX9_layRest, Cond.initialized RX9, Cond.code yX9_layRest cX9_layRest 4 none, Cond.fieldLink RX9 155 "HarpPedalsModel" "chords" "I", Cond.fieldLink RX9 59 "HarpPedalsModel" "rest" "[I", Cond.fieldLink RX9 56 "HarpPedalsModel" "fits" "[I", Cond.methodLink RX9 198 yX9_layFits, Cond.instanceMethod yX9_layFits, Cond.selects RX9 yX9_layFits yX9_layFits, Cond.code yX9_layFits cX9_layFits 5 none, Cond.fieldLink RX9 53 "HarpPedalsModel" "tones" "[I", Cond.fieldLink RX9 50 "HarpPedalsModel" "kinds" "[I", Cond.methodLink RX9 172 yX9_shiftedTones, Cond.instanceMethod yX9_shiftedTones, Cond.selects RX9 yX9_shiftedTones yX9_shiftedTones, Cond.code yX9_shiftedTones cX9_shiftedTones 3 (some .int), Cond.methodLink RX9 175 yX9_isFitting, Cond.instanceMethod yX9_isFitting, Cond.selects RX9 yX9_isFitting yX9_isFitting]
def wsX9_shiftedOf_r2 : List Cond := [Cond.code yX9_isFitting cX9_isFitting 6 (some .boolean), Cond.methodLink RX9 115 yX9_toneIn, Cond.instanceMethod yX9_toneIn, Cond.selects RX9 yX9_toneIn yX9_toneIn, Cond.code yX9_toneIn cX9_toneIn 3 (some .int), Cond.fieldLink RX9 16 "HarpPedalsModel" "toneAt" "[I", Cond.methodLink RX9 202 yX9_bestFrom, Cond.instanceMethod yX9_bestFrom, Cond.selects RX9 yX9_bestFrom yX9_bestFrom, Cond.code yX9_bestFrom cX9_bestFrom 10 (some .int), Cond.methodLink RX9 179 yX9_heldBy, Cond.instanceMethod yX9_heldBy, Cond.selects RX9 yX9_heldBy yX9_heldBy, Cond.code yX9_heldBy cX9_heldBy 3 (some .int), Cond.methodLink RX9 182 yX9_heldPedals, Cond.instanceMethod yX9_heldPedals, Cond.selects RX9 yX9_heldPedals yX9_heldPedals, Cond.code yX9_heldPedals cX9_heldPedals 5 (some .int), Cond.methodLink RX9 185 yX9_mostOf, Cond.static yX9_mostOf, Cond.code yX9_mostOf cX9_mostOf 1 (some .int), Cond.methodLink RX9 189 yX9_can, Cond.instanceMethod yX9_can, Cond.selects RX9 yX9_can yX9_can]
def wsX9_shiftedOf_r3 : List Cond := [Cond.code yX9_can cX9_can 4 (some .boolean), Cond.fieldLink RX9 31 "HarpPedalsModel" "movedAt" "[I", Cond.fieldLink RX9 34 "HarpPedalsModel" "bitsAt" "[I", Cond.methodLink RX9 192 yX9_after, Cond.instanceMethod yX9_after, Cond.selects RX9 yX9_after yX9_after, Cond.code yX9_after cX9_after 3 (some .int), Cond.fieldLink RX9 38 "HarpPedalsModel" "afterAt" "[I", Cond.methodLink RX9 195 yX9_movedBy, Cond.instanceMethod yX9_movedBy, Cond.selects RX9 yX9_movedBy yX9_movedBy, Cond.code yX9_movedBy cX9_movedBy 2 (some .int)]
def wsX9_shiftedOf : List Cond := .code yX9_shiftedOf cX9_shiftedOf 3 (some .int) :: ((wsX9_shiftedOf_r1 ++ (wsX9_shiftedOf_r2 ++ wsX9_shiftedOf_r3)) ++ wsX90)
def wsX9_shifted_r1 : List Cond := [Cond.constantLong RX9 250 (11), Cond.methodLink RX9 102 yX9_in, Cond.static yX9_in, Cond.initialized RX9, Cond.code yX9_in cX9_in 6 (some .boolean), Cond.methodLink RX9 231 yX9_lacks, Cond.instanceMethod yX9_lacks, Cond.selects RX9 yX9_lacks yX9_lacks, Cond.code yX9_lacks cX9_lacks 1 (some .boolean), Cond.fieldLink RX9 155 "HarpPedalsModel" "chords" "I", Cond.methodLink RX9 252 yX9_shiftedOf, Cond.instanceMethod yX9_shiftedOf, Cond.selects RX9 yX9_shiftedOf yX9_shiftedOf, Cond.code yX9_shiftedOf cX9_shiftedOf 3 (some .int), Cond.fieldLink RX9 152 "HarpPedalsModel" "begin" "I", Cond.fieldLink RX9 168 "HarpPedalsModel" "old" "Z", Cond.constant RX9 188 (99999), Cond.methodLink RX9 213 yX9_layRest, Cond.instanceMethod yX9_layRest, Cond.selects RX9 yX9_layRest yX9_layRest, Cond.code yX9_layRest cX9_layRest 4 none, Cond.fieldLink RX9 59 "HarpPedalsModel" "rest" "[I", Cond.fieldLink RX9 56 "HarpPedalsModel" "fits" "[I", Cond.methodLink RX9 198 yX9_layFits]
def wsX9_shifted_r2 : List Cond := [Cond.instanceMethod yX9_layFits, Cond.selects RX9 yX9_layFits yX9_layFits, Cond.code yX9_layFits cX9_layFits 5 none, Cond.fieldLink RX9 53 "HarpPedalsModel" "tones" "[I", Cond.fieldLink RX9 50 "HarpPedalsModel" "kinds" "[I", Cond.methodLink RX9 172 yX9_shiftedTones, Cond.instanceMethod yX9_shiftedTones, Cond.selects RX9 yX9_shiftedTones yX9_shiftedTones, Cond.code yX9_shiftedTones cX9_shiftedTones 3 (some .int), Cond.methodLink RX9 175 yX9_isFitting, Cond.instanceMethod yX9_isFitting, Cond.selects RX9 yX9_isFitting yX9_isFitting, Cond.code yX9_isFitting cX9_isFitting 6 (some .boolean), Cond.methodLink RX9 115 yX9_toneIn, Cond.instanceMethod yX9_toneIn, Cond.selects RX9 yX9_toneIn yX9_toneIn, Cond.code yX9_toneIn cX9_toneIn 3 (some .int), Cond.fieldLink RX9 16 "HarpPedalsModel" "toneAt" "[I", Cond.methodLink RX9 202 yX9_bestFrom, Cond.instanceMethod yX9_bestFrom, Cond.selects RX9 yX9_bestFrom yX9_bestFrom, Cond.code yX9_bestFrom cX9_bestFrom 10 (some .int), Cond.methodLink RX9 179 yX9_heldBy, Cond.instanceMethod yX9_heldBy]
def wsX9_shifted_r3 : List Cond := [Cond.selects RX9 yX9_heldBy yX9_heldBy, Cond.code yX9_heldBy cX9_heldBy 3 (some .int), Cond.methodLink RX9 182 yX9_heldPedals, Cond.instanceMethod yX9_heldPedals, Cond.selects RX9 yX9_heldPedals yX9_heldPedals, Cond.code yX9_heldPedals cX9_heldPedals 5 (some .int), Cond.methodLink RX9 185 yX9_mostOf, Cond.static yX9_mostOf, Cond.code yX9_mostOf cX9_mostOf 1 (some .int), Cond.methodLink RX9 189 yX9_can, Cond.instanceMethod yX9_can, Cond.selects RX9 yX9_can yX9_can, Cond.code yX9_can cX9_can 4 (some .boolean), Cond.fieldLink RX9 31 "HarpPedalsModel" "movedAt" "[I", Cond.fieldLink RX9 34 "HarpPedalsModel" "bitsAt" "[I", Cond.methodLink RX9 192 yX9_after, Cond.instanceMethod yX9_after, Cond.selects RX9 yX9_after yX9_after, Cond.code yX9_after cX9_after 3 (some .int), Cond.fieldLink RX9 38 "HarpPedalsModel" "afterAt" "[I", Cond.methodLink RX9 195 yX9_movedBy, Cond.instanceMethod yX9_movedBy, Cond.selects RX9 yX9_movedBy yX9_movedBy, Cond.code yX9_movedBy cX9_movedBy 2 (some .int)]
def wsX9_shifted : List Cond := .code yX9_shifted cX9_shifted 2 (some .int) :: ((wsX9_shifted_r1 ++ (wsX9_shifted_r2 ++ wsX9_shifted_r3)) ++ wsX90)
def wsX9_leastShift_r1 : List Cond := [Cond.fieldLink RX9 255 "HarpPedalsModel" "shiftsAsked" "I", Cond.constant RX9 188 (99999), Cond.methodLink RX9 231 yX9_lacks, Cond.instanceMethod yX9_lacks, Cond.selects RX9 yX9_lacks yX9_lacks, Cond.initialized RX9, Cond.code yX9_lacks cX9_lacks 1 (some .boolean), Cond.fieldLink RX9 155 "HarpPedalsModel" "chords" "I", Cond.methodLink RX9 252 yX9_shiftedOf, Cond.instanceMethod yX9_shiftedOf, Cond.selects RX9 yX9_shiftedOf yX9_shiftedOf, Cond.code yX9_shiftedOf cX9_shiftedOf 3 (some .int), Cond.fieldLink RX9 152 "HarpPedalsModel" "begin" "I", Cond.fieldLink RX9 168 "HarpPedalsModel" "old" "Z", Cond.methodLink RX9 213 yX9_layRest, Cond.instanceMethod yX9_layRest, Cond.selects RX9 yX9_layRest yX9_layRest, Cond.code yX9_layRest cX9_layRest 4 none, Cond.fieldLink RX9 59 "HarpPedalsModel" "rest" "[I", Cond.fieldLink RX9 56 "HarpPedalsModel" "fits" "[I", Cond.methodLink RX9 198 yX9_layFits, Cond.instanceMethod yX9_layFits, Cond.selects RX9 yX9_layFits yX9_layFits, Cond.code yX9_layFits cX9_layFits 5 none]
def wsX9_leastShift_r2 : List Cond := [Cond.fieldLink RX9 53 "HarpPedalsModel" "tones" "[I", Cond.fieldLink RX9 50 "HarpPedalsModel" "kinds" "[I", Cond.methodLink RX9 172 yX9_shiftedTones, Cond.instanceMethod yX9_shiftedTones, Cond.selects RX9 yX9_shiftedTones yX9_shiftedTones, Cond.code yX9_shiftedTones cX9_shiftedTones 3 (some .int), Cond.methodLink RX9 175 yX9_isFitting, Cond.instanceMethod yX9_isFitting, Cond.selects RX9 yX9_isFitting yX9_isFitting, Cond.code yX9_isFitting cX9_isFitting 6 (some .boolean), Cond.methodLink RX9 115 yX9_toneIn, Cond.instanceMethod yX9_toneIn, Cond.selects RX9 yX9_toneIn yX9_toneIn, Cond.code yX9_toneIn cX9_toneIn 3 (some .int), Cond.fieldLink RX9 16 "HarpPedalsModel" "toneAt" "[I", Cond.methodLink RX9 202 yX9_bestFrom, Cond.instanceMethod yX9_bestFrom, Cond.selects RX9 yX9_bestFrom yX9_bestFrom, Cond.code yX9_bestFrom cX9_bestFrom 10 (some .int), Cond.methodLink RX9 179 yX9_heldBy, Cond.instanceMethod yX9_heldBy, Cond.selects RX9 yX9_heldBy yX9_heldBy, Cond.code yX9_heldBy cX9_heldBy 3 (some .int), Cond.methodLink RX9 182 yX9_heldPedals]
def wsX9_leastShift_r3 : List Cond := [Cond.instanceMethod yX9_heldPedals, Cond.selects RX9 yX9_heldPedals yX9_heldPedals, Cond.code yX9_heldPedals cX9_heldPedals 5 (some .int), Cond.methodLink RX9 185 yX9_mostOf, Cond.static yX9_mostOf, Cond.code yX9_mostOf cX9_mostOf 1 (some .int), Cond.methodLink RX9 189 yX9_can, Cond.instanceMethod yX9_can, Cond.selects RX9 yX9_can yX9_can, Cond.code yX9_can cX9_can 4 (some .boolean), Cond.fieldLink RX9 31 "HarpPedalsModel" "movedAt" "[I", Cond.fieldLink RX9 34 "HarpPedalsModel" "bitsAt" "[I", Cond.methodLink RX9 192 yX9_after, Cond.instanceMethod yX9_after, Cond.selects RX9 yX9_after yX9_after, Cond.code yX9_after cX9_after 3 (some .int), Cond.fieldLink RX9 38 "HarpPedalsModel" "afterAt" "[I", Cond.methodLink RX9 195 yX9_movedBy, Cond.instanceMethod yX9_movedBy, Cond.selects RX9 yX9_movedBy yX9_movedBy, Cond.code yX9_movedBy cX9_movedBy 2 (some .int)]
def wsX9_leastShift : List Cond := .code yX9_leastShift cX9_leastShift 5 (some .int) :: ((wsX9_leastShift_r1 ++ (wsX9_leastShift_r2 ++ wsX9_leastShift_r3)) ++ wsX90)
def wsX9_freeOf_r1 : List Cond := [Cond.constant RX9 188 (99999), Cond.methodLink RX9 213 yX9_layRest, Cond.instanceMethod yX9_layRest, Cond.selects RX9 yX9_layRest yX9_layRest, Cond.initialized RX9, Cond.code yX9_layRest cX9_layRest 4 none, Cond.fieldLink RX9 155 "HarpPedalsModel" "chords" "I", Cond.fieldLink RX9 59 "HarpPedalsModel" "rest" "[I", Cond.fieldLink RX9 56 "HarpPedalsModel" "fits" "[I", Cond.methodLink RX9 198 yX9_layFits, Cond.instanceMethod yX9_layFits, Cond.selects RX9 yX9_layFits yX9_layFits, Cond.code yX9_layFits cX9_layFits 5 none, Cond.fieldLink RX9 53 "HarpPedalsModel" "tones" "[I", Cond.fieldLink RX9 50 "HarpPedalsModel" "kinds" "[I", Cond.methodLink RX9 172 yX9_shiftedTones, Cond.instanceMethod yX9_shiftedTones, Cond.selects RX9 yX9_shiftedTones yX9_shiftedTones, Cond.code yX9_shiftedTones cX9_shiftedTones 3 (some .int), Cond.methodLink RX9 175 yX9_isFitting, Cond.instanceMethod yX9_isFitting, Cond.selects RX9 yX9_isFitting yX9_isFitting, Cond.code yX9_isFitting cX9_isFitting 6 (some .boolean), Cond.methodLink RX9 115 yX9_toneIn]
def wsX9_freeOf_r2 : List Cond := [Cond.instanceMethod yX9_toneIn, Cond.selects RX9 yX9_toneIn yX9_toneIn, Cond.code yX9_toneIn cX9_toneIn 3 (some .int), Cond.fieldLink RX9 16 "HarpPedalsModel" "toneAt" "[I", Cond.methodLink RX9 202 yX9_bestFrom, Cond.instanceMethod yX9_bestFrom, Cond.selects RX9 yX9_bestFrom yX9_bestFrom, Cond.code yX9_bestFrom cX9_bestFrom 10 (some .int), Cond.methodLink RX9 179 yX9_heldBy, Cond.instanceMethod yX9_heldBy, Cond.selects RX9 yX9_heldBy yX9_heldBy, Cond.code yX9_heldBy cX9_heldBy 3 (some .int), Cond.methodLink RX9 182 yX9_heldPedals, Cond.instanceMethod yX9_heldPedals, Cond.selects RX9 yX9_heldPedals yX9_heldPedals, Cond.code yX9_heldPedals cX9_heldPedals 5 (some .int), Cond.methodLink RX9 185 yX9_mostOf, Cond.static yX9_mostOf, Cond.code yX9_mostOf cX9_mostOf 1 (some .int), Cond.methodLink RX9 189 yX9_can, Cond.instanceMethod yX9_can, Cond.selects RX9 yX9_can yX9_can, Cond.code yX9_can cX9_can 4 (some .boolean), Cond.fieldLink RX9 31 "HarpPedalsModel" "movedAt" "[I"]
def wsX9_freeOf_r3 : List Cond := [Cond.fieldLink RX9 34 "HarpPedalsModel" "bitsAt" "[I", Cond.methodLink RX9 192 yX9_after, Cond.instanceMethod yX9_after, Cond.selects RX9 yX9_after yX9_after, Cond.code yX9_after cX9_after 3 (some .int), Cond.fieldLink RX9 38 "HarpPedalsModel" "afterAt" "[I", Cond.methodLink RX9 195 yX9_movedBy, Cond.instanceMethod yX9_movedBy, Cond.selects RX9 yX9_movedBy yX9_movedBy, Cond.code yX9_movedBy cX9_movedBy 2 (some .int), Cond.methodLink RX9 238 yX9_told, Cond.instanceMethod yX9_told, Cond.selects RX9 yX9_told yX9_told, Cond.code yX9_told cX9_told 4 (some .int), Cond.methodLink RX9 96 yX9_positionOf, Cond.instanceMethod yX9_positionOf, Cond.selects RX9 yX9_positionOf yX9_positionOf, Cond.code yX9_positionOf cX9_positionOf 3 (some .int), Cond.fieldLink RX9 7 "HarpPedalsModel" "power" "[I"]
def wsX9_freeOf : List Cond := .code yX9_freeOf cX9_freeOf 5 (some .int) :: ((wsX9_freeOf_r1 ++ (wsX9_freeOf_r2 ++ wsX9_freeOf_r3)) ++ wsX90)
def wsX9_free_r1 : List Cond := [Cond.methodLink RX9 231 yX9_lacks, Cond.instanceMethod yX9_lacks, Cond.selects RX9 yX9_lacks yX9_lacks, Cond.initialized RX9, Cond.code yX9_lacks cX9_lacks 1 (some .boolean), Cond.fieldLink RX9 155 "HarpPedalsModel" "chords" "I", Cond.methodLink RX9 258 yX9_freeOf, Cond.instanceMethod yX9_freeOf, Cond.selects RX9 yX9_freeOf yX9_freeOf, Cond.code yX9_freeOf cX9_freeOf 5 (some .int), Cond.constant RX9 188 (99999), Cond.methodLink RX9 213 yX9_layRest, Cond.instanceMethod yX9_layRest, Cond.selects RX9 yX9_layRest yX9_layRest, Cond.code yX9_layRest cX9_layRest 4 none, Cond.fieldLink RX9 59 "HarpPedalsModel" "rest" "[I", Cond.fieldLink RX9 56 "HarpPedalsModel" "fits" "[I", Cond.methodLink RX9 198 yX9_layFits, Cond.instanceMethod yX9_layFits, Cond.selects RX9 yX9_layFits yX9_layFits, Cond.code yX9_layFits cX9_layFits 5 none, Cond.fieldLink RX9 53 "HarpPedalsModel" "tones" "[I", Cond.fieldLink RX9 50 "HarpPedalsModel" "kinds" "[I", Cond.methodLink RX9 172 yX9_shiftedTones]
def wsX9_free_r2 : List Cond := [Cond.instanceMethod yX9_shiftedTones, Cond.selects RX9 yX9_shiftedTones yX9_shiftedTones, Cond.code yX9_shiftedTones cX9_shiftedTones 3 (some .int), Cond.methodLink RX9 175 yX9_isFitting, Cond.instanceMethod yX9_isFitting, Cond.selects RX9 yX9_isFitting yX9_isFitting, Cond.code yX9_isFitting cX9_isFitting 6 (some .boolean), Cond.methodLink RX9 115 yX9_toneIn, Cond.instanceMethod yX9_toneIn, Cond.selects RX9 yX9_toneIn yX9_toneIn, Cond.code yX9_toneIn cX9_toneIn 3 (some .int), Cond.fieldLink RX9 16 "HarpPedalsModel" "toneAt" "[I", Cond.methodLink RX9 202 yX9_bestFrom, Cond.instanceMethod yX9_bestFrom, Cond.selects RX9 yX9_bestFrom yX9_bestFrom, Cond.code yX9_bestFrom cX9_bestFrom 10 (some .int), Cond.methodLink RX9 179 yX9_heldBy, Cond.instanceMethod yX9_heldBy, Cond.selects RX9 yX9_heldBy yX9_heldBy, Cond.code yX9_heldBy cX9_heldBy 3 (some .int), Cond.methodLink RX9 182 yX9_heldPedals, Cond.instanceMethod yX9_heldPedals, Cond.selects RX9 yX9_heldPedals yX9_heldPedals, Cond.code yX9_heldPedals cX9_heldPedals 5 (some .int)]
def wsX9_free_r3 : List Cond := [Cond.methodLink RX9 185 yX9_mostOf, Cond.static yX9_mostOf, Cond.code yX9_mostOf cX9_mostOf 1 (some .int), Cond.methodLink RX9 189 yX9_can, Cond.instanceMethod yX9_can, Cond.selects RX9 yX9_can yX9_can, Cond.code yX9_can cX9_can 4 (some .boolean), Cond.fieldLink RX9 31 "HarpPedalsModel" "movedAt" "[I", Cond.fieldLink RX9 34 "HarpPedalsModel" "bitsAt" "[I", Cond.methodLink RX9 192 yX9_after, Cond.instanceMethod yX9_after, Cond.selects RX9 yX9_after yX9_after, Cond.code yX9_after cX9_after 3 (some .int), Cond.fieldLink RX9 38 "HarpPedalsModel" "afterAt" "[I", Cond.methodLink RX9 195 yX9_movedBy, Cond.instanceMethod yX9_movedBy, Cond.selects RX9 yX9_movedBy yX9_movedBy, Cond.code yX9_movedBy cX9_movedBy 2 (some .int), Cond.methodLink RX9 238 yX9_told, Cond.instanceMethod yX9_told, Cond.selects RX9 yX9_told yX9_told, Cond.code yX9_told cX9_told 4 (some .int), Cond.methodLink RX9 96 yX9_positionOf, Cond.instanceMethod yX9_positionOf]
def wsX9_free_r4 : List Cond := [Cond.selects RX9 yX9_positionOf yX9_positionOf, Cond.code yX9_positionOf cX9_positionOf 3 (some .int), Cond.fieldLink RX9 7 "HarpPedalsModel" "power" "[I"]
def wsX9_free : List Cond := .code yX9_free cX9_free 1 (some .int) :: ((wsX9_free_r1 ++ (wsX9_free_r2 ++ (wsX9_free_r3 ++ wsX9_free_r4))) ++ wsX90)
def wsX9_fitting_r1 : List Cond := [Cond.fieldLink RX9 50 "HarpPedalsModel" "kinds" "[I", Cond.fieldLink RX9 53 "HarpPedalsModel" "tones" "[I", Cond.methodLink RX9 228 yX9_freshen, Cond.instanceMethod yX9_freshen, Cond.selects RX9 yX9_freshen yX9_freshen, Cond.initialized RX9, Cond.code yX9_freshen cX9_freshen 4 none, Cond.fieldLink RX9 168 "HarpPedalsModel" "old" "Z", Cond.fieldLink RX9 152 "HarpPedalsModel" "begin" "I", Cond.fieldLink RX9 210 "HarpPedalsModel" "fewest" "I", Cond.fieldLink RX9 219 "HarpPedalsModel" "waysAll" "I", Cond.fieldLink RX9 222 "HarpPedalsModel" "stuck" "I", Cond.fieldLink RX9 155 "HarpPedalsModel" "chords" "I", Cond.fieldLink RX9 71 "HarpPedalsModel" "reached" "[I", Cond.fieldLink RX9 62 "HarpPedalsModel" "cost" "[I", Cond.constant RX9 188 (99999), Cond.fieldLink RX9 65 "HarpPedalsModel" "ways" "[I", Cond.constant RX9 205 (1000003), Cond.methodLink RX9 213 yX9_layRest, Cond.instanceMethod yX9_layRest, Cond.selects RX9 yX9_layRest yX9_layRest, Cond.code yX9_layRest cX9_layRest 4 none, Cond.fieldLink RX9 59 "HarpPedalsModel" "rest" "[I", Cond.fieldLink RX9 56 "HarpPedalsModel" "fits" "[I"]
def wsX9_fitting_r2 : List Cond := [Cond.methodLink RX9 198 yX9_layFits, Cond.instanceMethod yX9_layFits, Cond.selects RX9 yX9_layFits yX9_layFits, Cond.code yX9_layFits cX9_layFits 5 none, Cond.methodLink RX9 172 yX9_shiftedTones, Cond.instanceMethod yX9_shiftedTones, Cond.selects RX9 yX9_shiftedTones yX9_shiftedTones, Cond.code yX9_shiftedTones cX9_shiftedTones 3 (some .int), Cond.methodLink RX9 175 yX9_isFitting, Cond.instanceMethod yX9_isFitting, Cond.selects RX9 yX9_isFitting yX9_isFitting, Cond.code yX9_isFitting cX9_isFitting 6 (some .boolean), Cond.methodLink RX9 115 yX9_toneIn, Cond.instanceMethod yX9_toneIn, Cond.selects RX9 yX9_toneIn yX9_toneIn, Cond.code yX9_toneIn cX9_toneIn 3 (some .int), Cond.fieldLink RX9 16 "HarpPedalsModel" "toneAt" "[I", Cond.methodLink RX9 202 yX9_bestFrom, Cond.instanceMethod yX9_bestFrom, Cond.selects RX9 yX9_bestFrom yX9_bestFrom, Cond.code yX9_bestFrom cX9_bestFrom 10 (some .int), Cond.methodLink RX9 179 yX9_heldBy, Cond.instanceMethod yX9_heldBy, Cond.selects RX9 yX9_heldBy yX9_heldBy]
def wsX9_fitting_r3 : List Cond := [Cond.code yX9_heldBy cX9_heldBy 3 (some .int), Cond.methodLink RX9 182 yX9_heldPedals, Cond.instanceMethod yX9_heldPedals, Cond.selects RX9 yX9_heldPedals yX9_heldPedals, Cond.code yX9_heldPedals cX9_heldPedals 5 (some .int), Cond.methodLink RX9 185 yX9_mostOf, Cond.static yX9_mostOf, Cond.code yX9_mostOf cX9_mostOf 1 (some .int), Cond.methodLink RX9 189 yX9_can, Cond.instanceMethod yX9_can, Cond.selects RX9 yX9_can yX9_can, Cond.code yX9_can cX9_can 4 (some .boolean), Cond.fieldLink RX9 31 "HarpPedalsModel" "movedAt" "[I", Cond.fieldLink RX9 34 "HarpPedalsModel" "bitsAt" "[I", Cond.methodLink RX9 192 yX9_after, Cond.instanceMethod yX9_after, Cond.selects RX9 yX9_after yX9_after, Cond.code yX9_after cX9_after 3 (some .int), Cond.fieldLink RX9 38 "HarpPedalsModel" "afterAt" "[I", Cond.methodLink RX9 195 yX9_movedBy, Cond.instanceMethod yX9_movedBy, Cond.selects RX9 yX9_movedBy yX9_movedBy, Cond.code yX9_movedBy cX9_movedBy 2 (some .int), Cond.methodLink RX9 216 yX9_layCost]
def wsX9_fitting_r4 : List Cond := [Cond.instanceMethod yX9_layCost, Cond.selects RX9 yX9_layCost yX9_layCost, Cond.code yX9_layCost cX9_layCost 4 none, Cond.methodLink RX9 206 yX9_layFrom, Cond.instanceMethod yX9_layFrom, Cond.selects RX9 yX9_layFrom yX9_layFrom, Cond.code yX9_layFrom cX9_layFrom 11 none, Cond.methodLink RX9 225 yX9_layBest, Cond.instanceMethod yX9_layBest, Cond.selects RX9 yX9_layBest yX9_layBest, Cond.code yX9_layBest cX9_layBest 11 none, Cond.fieldLink RX9 68 "HarpPedalsModel" "best" "[I", Cond.methodLink RX9 238 yX9_told, Cond.instanceMethod yX9_told, Cond.selects RX9 yX9_told yX9_told, Cond.code yX9_told cX9_told 4 (some .int), Cond.methodLink RX9 96 yX9_positionOf, Cond.instanceMethod yX9_positionOf, Cond.selects RX9 yX9_positionOf yX9_positionOf, Cond.code yX9_positionOf cX9_positionOf 3 (some .int), Cond.fieldLink RX9 7 "HarpPedalsModel" "power" "[I"]
def wsX9_fitting : List Cond := .code yX9_fitting cX9_fitting 7 (some .int) :: ((wsX9_fitting_r1 ++ (wsX9_fitting_r2 ++ (wsX9_fitting_r3 ++ wsX9_fitting_r4))) ++ wsX90)
def wsX9_sortsBy : List Cond := .code yX9_sortsBy cX9_sortsBy 1 (some .int) :: ([])
def wsX9_sortsOf : List Cond := .code yX9_sortsOf cX9_sortsOf 5 (some .int) :: ([.fieldLink RX9 162 "HarpPedalsModel" "seenMany" "I", .fieldLink RX9 74 "HarpPedalsModel" "sights" "[I", .methodLink RX9 282 yX9_sortsBy, .static yX9_sortsBy, .initialized RX9, .code yX9_sortsBy cX9_sortsBy 1 (some .int)] ++ wsX90)
def wsX9_askOf : List Cond := .code yX9_askOf cX9_askOf 9 (some .int) :: ([.methodLink RX9 264 yX9_sortsOf, .instanceMethod yX9_sortsOf, .selects RX9 yX9_sortsOf yX9_sortsOf, .initialized RX9, .code yX9_sortsOf cX9_sortsOf 5 (some .int), .fieldLink RX9 162 "HarpPedalsModel" "seenMany" "I", .fieldLink RX9 74 "HarpPedalsModel" "sights" "[I", .methodLink RX9 282 yX9_sortsBy, .static yX9_sortsBy, .code yX9_sortsBy cX9_sortsBy 1 (some .int), .methodLink RX9 277 yX9_ones, .static yX9_ones, .code yX9_ones cX9_ones 3 (some .int)] ++ wsX90)
def wsX9_tellChord_r1 : List Cond := [Cond.fieldLink RX9 50 "HarpPedalsModel" "kinds" "[I", Cond.fieldLink RX9 53 "HarpPedalsModel" "tones" "[I", Cond.methodLink RX9 261 yX9_fitting, Cond.instanceMethod yX9_fitting, Cond.selects RX9 yX9_fitting yX9_fitting, Cond.initialized RX9, Cond.code yX9_fitting cX9_fitting 7 (some .int), Cond.methodLink RX9 228 yX9_freshen, Cond.instanceMethod yX9_freshen, Cond.selects RX9 yX9_freshen yX9_freshen, Cond.code yX9_freshen cX9_freshen 4 none, Cond.fieldLink RX9 168 "HarpPedalsModel" "old" "Z", Cond.fieldLink RX9 152 "HarpPedalsModel" "begin" "I", Cond.fieldLink RX9 210 "HarpPedalsModel" "fewest" "I", Cond.fieldLink RX9 219 "HarpPedalsModel" "waysAll" "I", Cond.fieldLink RX9 222 "HarpPedalsModel" "stuck" "I", Cond.fieldLink RX9 155 "HarpPedalsModel" "chords" "I", Cond.fieldLink RX9 71 "HarpPedalsModel" "reached" "[I", Cond.fieldLink RX9 62 "HarpPedalsModel" "cost" "[I", Cond.constant RX9 188 (99999), Cond.fieldLink RX9 65 "HarpPedalsModel" "ways" "[I", Cond.constant RX9 205 (1000003), Cond.methodLink RX9 213 yX9_layRest, Cond.instanceMethod yX9_layRest]
def wsX9_tellChord_r2 : List Cond := [Cond.selects RX9 yX9_layRest yX9_layRest, Cond.code yX9_layRest cX9_layRest 4 none, Cond.fieldLink RX9 59 "HarpPedalsModel" "rest" "[I", Cond.fieldLink RX9 56 "HarpPedalsModel" "fits" "[I", Cond.methodLink RX9 198 yX9_layFits, Cond.instanceMethod yX9_layFits, Cond.selects RX9 yX9_layFits yX9_layFits, Cond.code yX9_layFits cX9_layFits 5 none, Cond.methodLink RX9 172 yX9_shiftedTones, Cond.instanceMethod yX9_shiftedTones, Cond.selects RX9 yX9_shiftedTones yX9_shiftedTones, Cond.code yX9_shiftedTones cX9_shiftedTones 3 (some .int), Cond.methodLink RX9 175 yX9_isFitting, Cond.instanceMethod yX9_isFitting, Cond.selects RX9 yX9_isFitting yX9_isFitting, Cond.code yX9_isFitting cX9_isFitting 6 (some .boolean), Cond.methodLink RX9 115 yX9_toneIn, Cond.instanceMethod yX9_toneIn, Cond.selects RX9 yX9_toneIn yX9_toneIn, Cond.code yX9_toneIn cX9_toneIn 3 (some .int), Cond.fieldLink RX9 16 "HarpPedalsModel" "toneAt" "[I", Cond.methodLink RX9 202 yX9_bestFrom, Cond.instanceMethod yX9_bestFrom, Cond.selects RX9 yX9_bestFrom yX9_bestFrom]
def wsX9_tellChord_r3 : List Cond := [Cond.code yX9_bestFrom cX9_bestFrom 10 (some .int), Cond.methodLink RX9 179 yX9_heldBy, Cond.instanceMethod yX9_heldBy, Cond.selects RX9 yX9_heldBy yX9_heldBy, Cond.code yX9_heldBy cX9_heldBy 3 (some .int), Cond.methodLink RX9 182 yX9_heldPedals, Cond.instanceMethod yX9_heldPedals, Cond.selects RX9 yX9_heldPedals yX9_heldPedals, Cond.code yX9_heldPedals cX9_heldPedals 5 (some .int), Cond.methodLink RX9 185 yX9_mostOf, Cond.static yX9_mostOf, Cond.code yX9_mostOf cX9_mostOf 1 (some .int), Cond.methodLink RX9 189 yX9_can, Cond.instanceMethod yX9_can, Cond.selects RX9 yX9_can yX9_can, Cond.code yX9_can cX9_can 4 (some .boolean), Cond.fieldLink RX9 31 "HarpPedalsModel" "movedAt" "[I", Cond.fieldLink RX9 34 "HarpPedalsModel" "bitsAt" "[I", Cond.methodLink RX9 192 yX9_after, Cond.instanceMethod yX9_after, Cond.selects RX9 yX9_after yX9_after, Cond.code yX9_after cX9_after 3 (some .int), Cond.fieldLink RX9 38 "HarpPedalsModel" "afterAt" "[I", Cond.methodLink RX9 195 yX9_movedBy]
def wsX9_tellChord_r4 : List Cond := [Cond.instanceMethod yX9_movedBy, Cond.selects RX9 yX9_movedBy yX9_movedBy, Cond.code yX9_movedBy cX9_movedBy 2 (some .int), Cond.methodLink RX9 216 yX9_layCost, Cond.instanceMethod yX9_layCost, Cond.selects RX9 yX9_layCost yX9_layCost, Cond.code yX9_layCost cX9_layCost 4 none, Cond.methodLink RX9 206 yX9_layFrom, Cond.instanceMethod yX9_layFrom, Cond.selects RX9 yX9_layFrom yX9_layFrom, Cond.code yX9_layFrom cX9_layFrom 11 none, Cond.methodLink RX9 225 yX9_layBest, Cond.instanceMethod yX9_layBest, Cond.selects RX9 yX9_layBest yX9_layBest, Cond.code yX9_layBest cX9_layBest 11 none, Cond.fieldLink RX9 68 "HarpPedalsModel" "best" "[I", Cond.methodLink RX9 238 yX9_told, Cond.instanceMethod yX9_told, Cond.selects RX9 yX9_told yX9_told, Cond.code yX9_told cX9_told 4 (some .int), Cond.methodLink RX9 96 yX9_positionOf, Cond.instanceMethod yX9_positionOf, Cond.selects RX9 yX9_positionOf yX9_positionOf, Cond.code yX9_positionOf cX9_positionOf 3 (some .int)]
def wsX9_tellChord_r5 : List Cond := [Cond.fieldLink RX9 7 "HarpPedalsModel" "power" "[I", Cond.methodLink RX9 264 yX9_sortsOf, Cond.instanceMethod yX9_sortsOf, Cond.selects RX9 yX9_sortsOf yX9_sortsOf, Cond.code yX9_sortsOf cX9_sortsOf 5 (some .int), Cond.fieldLink RX9 162 "HarpPedalsModel" "seenMany" "I", Cond.fieldLink RX9 74 "HarpPedalsModel" "sights" "[I", Cond.methodLink RX9 282 yX9_sortsBy, Cond.static yX9_sortsBy, Cond.code yX9_sortsBy cX9_sortsBy 1 (some .int), Cond.methodLink RX9 267 yX9_askOf, Cond.instanceMethod yX9_askOf, Cond.selects RX9 yX9_askOf yX9_askOf, Cond.code yX9_askOf cX9_askOf 9 (some .int), Cond.methodLink RX9 277 yX9_ones, Cond.static yX9_ones, Cond.code yX9_ones cX9_ones 3 (some .int)]
def wsX9_tellChord : List Cond := .code yX9_tellChord cX9_tellChord 3 (some .int) :: ((wsX9_tellChord_r1 ++ (wsX9_tellChord_r2 ++ (wsX9_tellChord_r3 ++ (wsX9_tellChord_r4 ++ wsX9_tellChord_r5)))) ++ wsX90)
def wsX9_chord_r1 : List Cond := [Cond.methodLink RX9 241 yX9_isChord, Cond.instanceMethod yX9_isChord, Cond.selects RX9 yX9_isChord yX9_isChord, Cond.initialized RX9, Cond.code yX9_isChord cX9_isChord 2 (some .boolean), Cond.fieldLink RX9 155 "HarpPedalsModel" "chords" "I", Cond.methodLink RX9 102 yX9_in, Cond.static yX9_in, Cond.code yX9_in cX9_in 6 (some .boolean), Cond.methodLink RX9 270 yX9_tellChord, Cond.instanceMethod yX9_tellChord, Cond.selects RX9 yX9_tellChord yX9_tellChord, Cond.code yX9_tellChord cX9_tellChord 3 (some .int), Cond.fieldLink RX9 50 "HarpPedalsModel" "kinds" "[I", Cond.fieldLink RX9 53 "HarpPedalsModel" "tones" "[I", Cond.methodLink RX9 261 yX9_fitting, Cond.instanceMethod yX9_fitting, Cond.selects RX9 yX9_fitting yX9_fitting, Cond.code yX9_fitting cX9_fitting 7 (some .int), Cond.methodLink RX9 228 yX9_freshen, Cond.instanceMethod yX9_freshen, Cond.selects RX9 yX9_freshen yX9_freshen, Cond.code yX9_freshen cX9_freshen 4 none, Cond.fieldLink RX9 168 "HarpPedalsModel" "old" "Z"]
def wsX9_chord_r2 : List Cond := [Cond.fieldLink RX9 152 "HarpPedalsModel" "begin" "I", Cond.fieldLink RX9 210 "HarpPedalsModel" "fewest" "I", Cond.fieldLink RX9 219 "HarpPedalsModel" "waysAll" "I", Cond.fieldLink RX9 222 "HarpPedalsModel" "stuck" "I", Cond.fieldLink RX9 71 "HarpPedalsModel" "reached" "[I", Cond.fieldLink RX9 62 "HarpPedalsModel" "cost" "[I", Cond.constant RX9 188 (99999), Cond.fieldLink RX9 65 "HarpPedalsModel" "ways" "[I", Cond.constant RX9 205 (1000003), Cond.methodLink RX9 213 yX9_layRest, Cond.instanceMethod yX9_layRest, Cond.selects RX9 yX9_layRest yX9_layRest, Cond.code yX9_layRest cX9_layRest 4 none, Cond.fieldLink RX9 59 "HarpPedalsModel" "rest" "[I", Cond.fieldLink RX9 56 "HarpPedalsModel" "fits" "[I", Cond.methodLink RX9 198 yX9_layFits, Cond.instanceMethod yX9_layFits, Cond.selects RX9 yX9_layFits yX9_layFits, Cond.code yX9_layFits cX9_layFits 5 none, Cond.methodLink RX9 172 yX9_shiftedTones, Cond.instanceMethod yX9_shiftedTones, Cond.selects RX9 yX9_shiftedTones yX9_shiftedTones, Cond.code yX9_shiftedTones cX9_shiftedTones 3 (some .int), Cond.methodLink RX9 175 yX9_isFitting]
def wsX9_chord_r3 : List Cond := [Cond.instanceMethod yX9_isFitting, Cond.selects RX9 yX9_isFitting yX9_isFitting, Cond.code yX9_isFitting cX9_isFitting 6 (some .boolean), Cond.methodLink RX9 115 yX9_toneIn, Cond.instanceMethod yX9_toneIn, Cond.selects RX9 yX9_toneIn yX9_toneIn, Cond.code yX9_toneIn cX9_toneIn 3 (some .int), Cond.fieldLink RX9 16 "HarpPedalsModel" "toneAt" "[I", Cond.methodLink RX9 202 yX9_bestFrom, Cond.instanceMethod yX9_bestFrom, Cond.selects RX9 yX9_bestFrom yX9_bestFrom, Cond.code yX9_bestFrom cX9_bestFrom 10 (some .int), Cond.methodLink RX9 179 yX9_heldBy, Cond.instanceMethod yX9_heldBy, Cond.selects RX9 yX9_heldBy yX9_heldBy, Cond.code yX9_heldBy cX9_heldBy 3 (some .int), Cond.methodLink RX9 182 yX9_heldPedals, Cond.instanceMethod yX9_heldPedals, Cond.selects RX9 yX9_heldPedals yX9_heldPedals, Cond.code yX9_heldPedals cX9_heldPedals 5 (some .int), Cond.methodLink RX9 185 yX9_mostOf, Cond.static yX9_mostOf, Cond.code yX9_mostOf cX9_mostOf 1 (some .int), Cond.methodLink RX9 189 yX9_can]
def wsX9_chord_r4 : List Cond := [Cond.instanceMethod yX9_can, Cond.selects RX9 yX9_can yX9_can, Cond.code yX9_can cX9_can 4 (some .boolean), Cond.fieldLink RX9 31 "HarpPedalsModel" "movedAt" "[I", Cond.fieldLink RX9 34 "HarpPedalsModel" "bitsAt" "[I", Cond.methodLink RX9 192 yX9_after, Cond.instanceMethod yX9_after, Cond.selects RX9 yX9_after yX9_after, Cond.code yX9_after cX9_after 3 (some .int), Cond.fieldLink RX9 38 "HarpPedalsModel" "afterAt" "[I", Cond.methodLink RX9 195 yX9_movedBy, Cond.instanceMethod yX9_movedBy, Cond.selects RX9 yX9_movedBy yX9_movedBy, Cond.code yX9_movedBy cX9_movedBy 2 (some .int), Cond.methodLink RX9 216 yX9_layCost, Cond.instanceMethod yX9_layCost, Cond.selects RX9 yX9_layCost yX9_layCost, Cond.code yX9_layCost cX9_layCost 4 none, Cond.methodLink RX9 206 yX9_layFrom, Cond.instanceMethod yX9_layFrom, Cond.selects RX9 yX9_layFrom yX9_layFrom, Cond.code yX9_layFrom cX9_layFrom 11 none, Cond.methodLink RX9 225 yX9_layBest, Cond.instanceMethod yX9_layBest]
def wsX9_chord_r5 : List Cond := [Cond.selects RX9 yX9_layBest yX9_layBest, Cond.code yX9_layBest cX9_layBest 11 none, Cond.fieldLink RX9 68 "HarpPedalsModel" "best" "[I", Cond.methodLink RX9 238 yX9_told, Cond.instanceMethod yX9_told, Cond.selects RX9 yX9_told yX9_told, Cond.code yX9_told cX9_told 4 (some .int), Cond.methodLink RX9 96 yX9_positionOf, Cond.instanceMethod yX9_positionOf, Cond.selects RX9 yX9_positionOf yX9_positionOf, Cond.code yX9_positionOf cX9_positionOf 3 (some .int), Cond.fieldLink RX9 7 "HarpPedalsModel" "power" "[I", Cond.methodLink RX9 264 yX9_sortsOf, Cond.instanceMethod yX9_sortsOf, Cond.selects RX9 yX9_sortsOf yX9_sortsOf, Cond.code yX9_sortsOf cX9_sortsOf 5 (some .int), Cond.fieldLink RX9 162 "HarpPedalsModel" "seenMany" "I", Cond.fieldLink RX9 74 "HarpPedalsModel" "sights" "[I", Cond.methodLink RX9 282 yX9_sortsBy, Cond.static yX9_sortsBy, Cond.code yX9_sortsBy cX9_sortsBy 1 (some .int), Cond.methodLink RX9 267 yX9_askOf, Cond.instanceMethod yX9_askOf, Cond.selects RX9 yX9_askOf yX9_askOf]
def wsX9_chord_r6 : List Cond := [Cond.code yX9_askOf cX9_askOf 9 (some .int), Cond.methodLink RX9 277 yX9_ones, Cond.static yX9_ones, Cond.code yX9_ones cX9_ones 3 (some .int)]
def wsX9_chord : List Cond := .code yX9_chord cX9_chord 3 (some .int) :: ((wsX9_chord_r1 ++ (wsX9_chord_r2 ++ (wsX9_chord_r3 ++ (wsX9_chord_r4 ++ (wsX9_chord_r5 ++ wsX9_chord_r6))))) ++ wsX90)
def wsX9_as : List Cond := .code yX9_as cX9_as 4 (some .int) :: ([.constantLong RX9 273 (4), .fieldLink RX9 50 "HarpPedalsModel" "kinds" "[I", .methodLink RX9 241 yX9_isChord, .instanceMethod yX9_isChord, .selects RX9 yX9_isChord yX9_isChord, .initialized RX9, .code yX9_isChord cX9_isChord 2 (some .boolean), .fieldLink RX9 155 "HarpPedalsModel" "chords" "I", .methodLink RX9 102 yX9_in, .static yX9_in, .code yX9_in cX9_in 6 (some .boolean)] ++ wsX90)
def wsX9_press : List Cond := .code yX9_press cX9_press 3 (some .int) :: ([.constantLong RX9 100 (6), .constantLong RX9 106 (2), .fieldLink RX9 152 "HarpPedalsModel" "begin" "I", .fieldLink RX9 7 "HarpPedalsModel" "power" "[I", .fieldLink RX9 168 "HarpPedalsModel" "old" "Z", .methodLink RX9 102 yX9_in, .static yX9_in, .initialized RX9, .code yX9_in cX9_in 6 (some .boolean), .methodLink RX9 231 yX9_lacks, .instanceMethod yX9_lacks, .selects RX9 yX9_lacks yX9_lacks, .code yX9_lacks cX9_lacks 1 (some .boolean), .fieldLink RX9 155 "HarpPedalsModel" "chords" "I", .methodLink RX9 96 yX9_positionOf, .instanceMethod yX9_positionOf, .selects RX9 yX9_positionOf yX9_positionOf, .code yX9_positionOf cX9_positionOf 3 (some .int), .methodLink RX9 238 yX9_told, .instanceMethod yX9_told, .selects RX9 yX9_told yX9_told, .code yX9_told cX9_told 4 (some .int)] ++ wsX90)
def wsX9_put : List Cond := .code yX9_put cX9_put 5 (some .int) :: ([.fieldLink RX9 155 "HarpPedalsModel" "chords" "I", .constantLong RX9 273 (4), .constantLong RX9 275 (4095), .fieldLink RX9 50 "HarpPedalsModel" "kinds" "[I", .fieldLink RX9 53 "HarpPedalsModel" "tones" "[I", .fieldLink RX9 168 "HarpPedalsModel" "old" "Z", .methodLink RX9 102 yX9_in, .static yX9_in, .initialized RX9, .code yX9_in cX9_in 6 (some .boolean), .methodLink RX9 277 yX9_ones, .static yX9_ones, .code yX9_ones cX9_ones 3 (some .int), .methodLink RX9 231 yX9_lacks, .instanceMethod yX9_lacks, .selects RX9 yX9_lacks yX9_lacks, .code yX9_lacks cX9_lacks 1 (some .boolean)] ++ wsX90)
def wsX9_take : List Cond := .code yX9_take cX9_take 3 (some .int) :: ([.fieldLink RX9 155 "HarpPedalsModel" "chords" "I", .fieldLink RX9 50 "HarpPedalsModel" "kinds" "[I", .fieldLink RX9 53 "HarpPedalsModel" "tones" "[I", .fieldLink RX9 168 "HarpPedalsModel" "old" "Z", .methodLink RX9 241 yX9_isChord, .instanceMethod yX9_isChord, .selects RX9 yX9_isChord yX9_isChord, .initialized RX9, .code yX9_isChord cX9_isChord 2 (some .boolean), .methodLink RX9 102 yX9_in, .static yX9_in, .code yX9_in cX9_in 6 (some .boolean)] ++ wsX90)
def wsX9_swap_r1 : List Cond := [Cond.fieldLink RX9 50 "HarpPedalsModel" "kinds" "[I", Cond.fieldLink RX9 53 "HarpPedalsModel" "tones" "[I", Cond.fieldLink RX9 168 "HarpPedalsModel" "old" "Z", Cond.methodLink RX9 241 yX9_isChord, Cond.instanceMethod yX9_isChord, Cond.selects RX9 yX9_isChord yX9_isChord, Cond.initialized RX9, Cond.code yX9_isChord cX9_isChord 2 (some .boolean), Cond.fieldLink RX9 155 "HarpPedalsModel" "chords" "I", Cond.methodLink RX9 102 yX9_in, Cond.static yX9_in, Cond.code yX9_in cX9_in 6 (some .boolean), Cond.methodLink RX9 235 yX9_planOf, Cond.instanceMethod yX9_planOf, Cond.selects RX9 yX9_planOf yX9_planOf, Cond.code yX9_planOf cX9_planOf 2 (some .int), Cond.fieldLink RX9 210 "HarpPedalsModel" "fewest" "I", Cond.constant RX9 188 (99999), Cond.fieldLink RX9 219 "HarpPedalsModel" "waysAll" "I", Cond.fieldLink RX9 222 "HarpPedalsModel" "stuck" "I", Cond.methodLink RX9 228 yX9_freshen, Cond.instanceMethod yX9_freshen, Cond.selects RX9 yX9_freshen yX9_freshen, Cond.code yX9_freshen cX9_freshen 4 none]
def wsX9_swap_r2 : List Cond := [Cond.fieldLink RX9 152 "HarpPedalsModel" "begin" "I", Cond.fieldLink RX9 71 "HarpPedalsModel" "reached" "[I", Cond.fieldLink RX9 62 "HarpPedalsModel" "cost" "[I", Cond.fieldLink RX9 65 "HarpPedalsModel" "ways" "[I", Cond.constant RX9 205 (1000003), Cond.methodLink RX9 213 yX9_layRest, Cond.instanceMethod yX9_layRest, Cond.selects RX9 yX9_layRest yX9_layRest, Cond.code yX9_layRest cX9_layRest 4 none, Cond.fieldLink RX9 59 "HarpPedalsModel" "rest" "[I", Cond.fieldLink RX9 56 "HarpPedalsModel" "fits" "[I", Cond.methodLink RX9 198 yX9_layFits, Cond.instanceMethod yX9_layFits, Cond.selects RX9 yX9_layFits yX9_layFits, Cond.code yX9_layFits cX9_layFits 5 none, Cond.methodLink RX9 172 yX9_shiftedTones, Cond.instanceMethod yX9_shiftedTones, Cond.selects RX9 yX9_shiftedTones yX9_shiftedTones, Cond.code yX9_shiftedTones cX9_shiftedTones 3 (some .int), Cond.methodLink RX9 175 yX9_isFitting, Cond.instanceMethod yX9_isFitting, Cond.selects RX9 yX9_isFitting yX9_isFitting, Cond.code yX9_isFitting cX9_isFitting 6 (some .boolean), Cond.methodLink RX9 115 yX9_toneIn]
def wsX9_swap_r3 : List Cond := [Cond.instanceMethod yX9_toneIn, Cond.selects RX9 yX9_toneIn yX9_toneIn, Cond.code yX9_toneIn cX9_toneIn 3 (some .int), Cond.fieldLink RX9 16 "HarpPedalsModel" "toneAt" "[I", Cond.methodLink RX9 202 yX9_bestFrom, Cond.instanceMethod yX9_bestFrom, Cond.selects RX9 yX9_bestFrom yX9_bestFrom, Cond.code yX9_bestFrom cX9_bestFrom 10 (some .int), Cond.methodLink RX9 179 yX9_heldBy, Cond.instanceMethod yX9_heldBy, Cond.selects RX9 yX9_heldBy yX9_heldBy, Cond.code yX9_heldBy cX9_heldBy 3 (some .int), Cond.methodLink RX9 182 yX9_heldPedals, Cond.instanceMethod yX9_heldPedals, Cond.selects RX9 yX9_heldPedals yX9_heldPedals, Cond.code yX9_heldPedals cX9_heldPedals 5 (some .int), Cond.methodLink RX9 185 yX9_mostOf, Cond.static yX9_mostOf, Cond.code yX9_mostOf cX9_mostOf 1 (some .int), Cond.methodLink RX9 189 yX9_can, Cond.instanceMethod yX9_can, Cond.selects RX9 yX9_can yX9_can, Cond.code yX9_can cX9_can 4 (some .boolean), Cond.fieldLink RX9 31 "HarpPedalsModel" "movedAt" "[I"]
def wsX9_swap_r4 : List Cond := [Cond.fieldLink RX9 34 "HarpPedalsModel" "bitsAt" "[I", Cond.methodLink RX9 192 yX9_after, Cond.instanceMethod yX9_after, Cond.selects RX9 yX9_after yX9_after, Cond.code yX9_after cX9_after 3 (some .int), Cond.fieldLink RX9 38 "HarpPedalsModel" "afterAt" "[I", Cond.methodLink RX9 195 yX9_movedBy, Cond.instanceMethod yX9_movedBy, Cond.selects RX9 yX9_movedBy yX9_movedBy, Cond.code yX9_movedBy cX9_movedBy 2 (some .int), Cond.methodLink RX9 216 yX9_layCost, Cond.instanceMethod yX9_layCost, Cond.selects RX9 yX9_layCost yX9_layCost, Cond.code yX9_layCost cX9_layCost 4 none, Cond.methodLink RX9 206 yX9_layFrom, Cond.instanceMethod yX9_layFrom, Cond.selects RX9 yX9_layFrom yX9_layFrom, Cond.code yX9_layFrom cX9_layFrom 11 none, Cond.methodLink RX9 225 yX9_layBest, Cond.instanceMethod yX9_layBest, Cond.selects RX9 yX9_layBest yX9_layBest, Cond.code yX9_layBest cX9_layBest 11 none, Cond.fieldLink RX9 68 "HarpPedalsModel" "best" "[I"]
def wsX9_swap : List Cond := .code yX9_swap cX9_swap 5 (some .int) :: ((wsX9_swap_r1 ++ (wsX9_swap_r2 ++ (wsX9_swap_r3 ++ wsX9_swap_r4))) ++ wsX90)
def wsX9_change : List Cond := .code yX9_change cX9_change 4 (some .int) :: ([.constantLong RX9 273 (4), .fieldLink RX9 50 "HarpPedalsModel" "kinds" "[I", .fieldLink RX9 168 "HarpPedalsModel" "old" "Z", .methodLink RX9 241 yX9_isChord, .instanceMethod yX9_isChord, .selects RX9 yX9_isChord yX9_isChord, .initialized RX9, .code yX9_isChord cX9_isChord 2 (some .boolean), .fieldLink RX9 155 "HarpPedalsModel" "chords" "I", .methodLink RX9 102 yX9_in, .static yX9_in, .code yX9_in cX9_in 6 (some .boolean)] ++ wsX90)
def wsX9_shift_r1 : List Cond := [Cond.constantLong RX9 250 (11), Cond.fieldLink RX9 155 "HarpPedalsModel" "chords" "I", Cond.fieldLink RX9 53 "HarpPedalsModel" "tones" "[I", Cond.fieldLink RX9 168 "HarpPedalsModel" "old" "Z", Cond.methodLink RX9 102 yX9_in, Cond.static yX9_in, Cond.initialized RX9, Cond.code yX9_in cX9_in 6 (some .boolean), Cond.methodLink RX9 231 yX9_lacks, Cond.instanceMethod yX9_lacks, Cond.selects RX9 yX9_lacks yX9_lacks, Cond.code yX9_lacks cX9_lacks 1 (some .boolean), Cond.methodLink RX9 172 yX9_shiftedTones, Cond.instanceMethod yX9_shiftedTones, Cond.selects RX9 yX9_shiftedTones yX9_shiftedTones, Cond.code yX9_shiftedTones cX9_shiftedTones 3 (some .int), Cond.methodLink RX9 235 yX9_planOf, Cond.instanceMethod yX9_planOf, Cond.selects RX9 yX9_planOf yX9_planOf, Cond.code yX9_planOf cX9_planOf 2 (some .int), Cond.fieldLink RX9 210 "HarpPedalsModel" "fewest" "I", Cond.constant RX9 188 (99999), Cond.fieldLink RX9 219 "HarpPedalsModel" "waysAll" "I", Cond.fieldLink RX9 222 "HarpPedalsModel" "stuck" "I"]
def wsX9_shift_r2 : List Cond := [Cond.methodLink RX9 228 yX9_freshen, Cond.instanceMethod yX9_freshen, Cond.selects RX9 yX9_freshen yX9_freshen, Cond.code yX9_freshen cX9_freshen 4 none, Cond.fieldLink RX9 152 "HarpPedalsModel" "begin" "I", Cond.fieldLink RX9 71 "HarpPedalsModel" "reached" "[I", Cond.fieldLink RX9 62 "HarpPedalsModel" "cost" "[I", Cond.fieldLink RX9 65 "HarpPedalsModel" "ways" "[I", Cond.constant RX9 205 (1000003), Cond.methodLink RX9 213 yX9_layRest, Cond.instanceMethod yX9_layRest, Cond.selects RX9 yX9_layRest yX9_layRest, Cond.code yX9_layRest cX9_layRest 4 none, Cond.fieldLink RX9 59 "HarpPedalsModel" "rest" "[I", Cond.fieldLink RX9 56 "HarpPedalsModel" "fits" "[I", Cond.methodLink RX9 198 yX9_layFits, Cond.instanceMethod yX9_layFits, Cond.selects RX9 yX9_layFits yX9_layFits, Cond.code yX9_layFits cX9_layFits 5 none, Cond.fieldLink RX9 50 "HarpPedalsModel" "kinds" "[I", Cond.methodLink RX9 175 yX9_isFitting, Cond.instanceMethod yX9_isFitting, Cond.selects RX9 yX9_isFitting yX9_isFitting, Cond.code yX9_isFitting cX9_isFitting 6 (some .boolean)]
def wsX9_shift_r3 : List Cond := [Cond.methodLink RX9 115 yX9_toneIn, Cond.instanceMethod yX9_toneIn, Cond.selects RX9 yX9_toneIn yX9_toneIn, Cond.code yX9_toneIn cX9_toneIn 3 (some .int), Cond.fieldLink RX9 16 "HarpPedalsModel" "toneAt" "[I", Cond.methodLink RX9 202 yX9_bestFrom, Cond.instanceMethod yX9_bestFrom, Cond.selects RX9 yX9_bestFrom yX9_bestFrom, Cond.code yX9_bestFrom cX9_bestFrom 10 (some .int), Cond.methodLink RX9 179 yX9_heldBy, Cond.instanceMethod yX9_heldBy, Cond.selects RX9 yX9_heldBy yX9_heldBy, Cond.code yX9_heldBy cX9_heldBy 3 (some .int), Cond.methodLink RX9 182 yX9_heldPedals, Cond.instanceMethod yX9_heldPedals, Cond.selects RX9 yX9_heldPedals yX9_heldPedals, Cond.code yX9_heldPedals cX9_heldPedals 5 (some .int), Cond.methodLink RX9 185 yX9_mostOf, Cond.static yX9_mostOf, Cond.code yX9_mostOf cX9_mostOf 1 (some .int), Cond.methodLink RX9 189 yX9_can, Cond.instanceMethod yX9_can, Cond.selects RX9 yX9_can yX9_can, Cond.code yX9_can cX9_can 4 (some .boolean)]
def wsX9_shift_r4 : List Cond := [Cond.fieldLink RX9 31 "HarpPedalsModel" "movedAt" "[I", Cond.fieldLink RX9 34 "HarpPedalsModel" "bitsAt" "[I", Cond.methodLink RX9 192 yX9_after, Cond.instanceMethod yX9_after, Cond.selects RX9 yX9_after yX9_after, Cond.code yX9_after cX9_after 3 (some .int), Cond.fieldLink RX9 38 "HarpPedalsModel" "afterAt" "[I", Cond.methodLink RX9 195 yX9_movedBy, Cond.instanceMethod yX9_movedBy, Cond.selects RX9 yX9_movedBy yX9_movedBy, Cond.code yX9_movedBy cX9_movedBy 2 (some .int), Cond.methodLink RX9 216 yX9_layCost, Cond.instanceMethod yX9_layCost, Cond.selects RX9 yX9_layCost yX9_layCost, Cond.code yX9_layCost cX9_layCost 4 none, Cond.methodLink RX9 206 yX9_layFrom, Cond.instanceMethod yX9_layFrom, Cond.selects RX9 yX9_layFrom yX9_layFrom, Cond.code yX9_layFrom cX9_layFrom 11 none, Cond.methodLink RX9 225 yX9_layBest, Cond.instanceMethod yX9_layBest, Cond.selects RX9 yX9_layBest yX9_layBest, Cond.code yX9_layBest cX9_layBest 11 none, Cond.fieldLink RX9 68 "HarpPedalsModel" "best" "[I"]
def wsX9_shift : List Cond := .code yX9_shift cX9_shift 3 (some .int) :: ((wsX9_shift_r1 ++ (wsX9_shift_r2 ++ (wsX9_shift_r3 ++ wsX9_shift_r4))) ++ wsX90)
def wsX9_see : List Cond := .code yX9_see cX9_see 4 (some .int) :: ([.constantLong RX9 280 (3), .fieldLink RX9 162 "HarpPedalsModel" "seenMany" "I", .fieldLink RX9 74 "HarpPedalsModel" "sights" "[I", .methodLink RX9 241 yX9_isChord, .instanceMethod yX9_isChord, .selects RX9 yX9_isChord yX9_isChord, .initialized RX9, .code yX9_isChord cX9_isChord 2 (some .boolean), .fieldLink RX9 155 "HarpPedalsModel" "chords" "I", .methodLink RX9 102 yX9_in, .static yX9_in, .code yX9_in cX9_in 6 (some .boolean)] ++ wsX90)
def wsX9_forget : List Cond := .code yX9_forget cX9_forget 2 (some .int) :: ([.fieldLink RX9 162 "HarpPedalsModel" "seenMany" "I"] ++ wsX90)
def wsX9_draw : List Cond := .code yX9_draw cX9_draw 2 (some .int) :: ([.constantLong RX9 285 (1103515245), .fieldLink RX9 287 "HarpPedalsModel" "seedNow" "I", .constantLong RX9 290 (12345), .constantLong RX9 292 (2147483647), .constant RX9 294 (65536)] ++ wsX90)
def wsX9_played : List Cond := .code yX9_played cX9_played 9 (some .int) :: ([.fieldLink RX9 295 "HarpPedalsModel" "drawnMoves" "I", .methodLink RX9 192 yX9_after, .instanceMethod yX9_after, .selects RX9 yX9_after yX9_after, .initialized RX9, .code yX9_after cX9_after 3 (some .int), .fieldLink RX9 38 "HarpPedalsModel" "afterAt" "[I", .methodLink RX9 195 yX9_movedBy, .instanceMethod yX9_movedBy, .selects RX9 yX9_movedBy yX9_movedBy, .code yX9_movedBy cX9_movedBy 2 (some .int), .fieldLink RX9 31 "HarpPedalsModel" "movedAt" "[I", .methodLink RX9 175 yX9_isFitting, .instanceMethod yX9_isFitting, .selects RX9 yX9_isFitting yX9_isFitting, .code yX9_isFitting cX9_isFitting 6 (some .boolean), .methodLink RX9 115 yX9_toneIn, .instanceMethod yX9_toneIn, .selects RX9 yX9_toneIn yX9_toneIn, .code yX9_toneIn cX9_toneIn 3 (some .int), .fieldLink RX9 16 "HarpPedalsModel" "toneAt" "[I"] ++ wsX90)
def wsX9_drawn_r1 : List Cond := [Cond.constantLong RX9 298 (30), Cond.constantLong RX9 106 (2), Cond.fieldLink RX9 287 "HarpPedalsModel" "seedNow" "I", Cond.fieldLink RX9 152 "HarpPedalsModel" "begin" "I", Cond.fieldLink RX9 295 "HarpPedalsModel" "drawnMoves" "I", Cond.methodLink RX9 102 yX9_in, Cond.static yX9_in, Cond.initialized RX9, Cond.code yX9_in cX9_in 6 (some .boolean), Cond.methodLink RX9 231 yX9_lacks, Cond.instanceMethod yX9_lacks, Cond.selects RX9 yX9_lacks yX9_lacks, Cond.code yX9_lacks cX9_lacks 1 (some .boolean), Cond.fieldLink RX9 155 "HarpPedalsModel" "chords" "I", Cond.methodLink RX9 300 yX9_draw, Cond.instanceMethod yX9_draw, Cond.selects RX9 yX9_draw yX9_draw, Cond.code yX9_draw cX9_draw 2 (some .int), Cond.constantLong RX9 285 (1103515245), Cond.constantLong RX9 290 (12345), Cond.constantLong RX9 292 (2147483647), Cond.constant RX9 294 (65536), Cond.methodLink RX9 303 yX9_played, Cond.instanceMethod yX9_played]
def wsX9_drawn_r2 : List Cond := [Cond.selects RX9 yX9_played yX9_played, Cond.code yX9_played cX9_played 9 (some .int), Cond.methodLink RX9 192 yX9_after, Cond.instanceMethod yX9_after, Cond.selects RX9 yX9_after yX9_after, Cond.code yX9_after cX9_after 3 (some .int), Cond.fieldLink RX9 38 "HarpPedalsModel" "afterAt" "[I", Cond.methodLink RX9 195 yX9_movedBy, Cond.instanceMethod yX9_movedBy, Cond.selects RX9 yX9_movedBy yX9_movedBy, Cond.code yX9_movedBy cX9_movedBy 2 (some .int), Cond.fieldLink RX9 31 "HarpPedalsModel" "movedAt" "[I", Cond.methodLink RX9 175 yX9_isFitting, Cond.instanceMethod yX9_isFitting, Cond.selects RX9 yX9_isFitting yX9_isFitting, Cond.code yX9_isFitting cX9_isFitting 6 (some .boolean), Cond.methodLink RX9 115 yX9_toneIn, Cond.instanceMethod yX9_toneIn, Cond.selects RX9 yX9_toneIn yX9_toneIn, Cond.code yX9_toneIn cX9_toneIn 3 (some .int), Cond.fieldLink RX9 16 "HarpPedalsModel" "toneAt" "[I"]
def wsX9_drawn : List Cond := .code yX9_drawn cX9_drawn 11 (some .int) :: ((wsX9_drawn_r1 ++ wsX9_drawn_r2) ++ wsX90)
def wsX9_image : List Cond := .code yX9_image cX9_image 1 (some .int) :: ([.fieldLink RX9 50 "HarpPedalsModel" "kinds" "[I", .fieldLink RX9 77 "HarpPedalsModel" "keptKinds" "[I", .fieldLink RX9 53 "HarpPedalsModel" "tones" "[I", .fieldLink RX9 80 "HarpPedalsModel" "keptTones" "[I", .fieldLink RX9 74 "HarpPedalsModel" "sights" "[I", .fieldLink RX9 83 "HarpPedalsModel" "keptSights" "[I", .fieldLink RX9 155 "HarpPedalsModel" "chords" "I", .fieldLink RX9 306 "HarpPedalsModel" "keptChords" "I", .fieldLink RX9 152 "HarpPedalsModel" "begin" "I", .fieldLink RX9 309 "HarpPedalsModel" "keptBegin" "I", .fieldLink RX9 162 "HarpPedalsModel" "seenMany" "I", .fieldLink RX9 312 "HarpPedalsModel" "keptSeen" "I", .fieldLink RX9 165 "HarpPedalsModel" "partsRead" "I", .fieldLink RX9 86 "HarpPedalsModel" "keptPart" "I", .methodLink RX9 231 yX9_lacks, .instanceMethod yX9_lacks, .selects RX9 yX9_lacks yX9_lacks, .initialized RX9, .code yX9_lacks cX9_lacks 1 (some .boolean), .methodLink RX9 158 yX9_copy, .static yX9_copy, .code yX9_copy cX9_copy 3 none] ++ wsX90)
def wsX9_restore : List Cond := .code yX9_restore cX9_restore 1 (some .int) :: ([.fieldLink RX9 86 "HarpPedalsModel" "keptPart" "I", .fieldLink RX9 165 "HarpPedalsModel" "partsRead" "I", .fieldLink RX9 77 "HarpPedalsModel" "keptKinds" "[I", .fieldLink RX9 50 "HarpPedalsModel" "kinds" "[I", .fieldLink RX9 80 "HarpPedalsModel" "keptTones" "[I", .fieldLink RX9 53 "HarpPedalsModel" "tones" "[I", .fieldLink RX9 83 "HarpPedalsModel" "keptSights" "[I", .fieldLink RX9 74 "HarpPedalsModel" "sights" "[I", .fieldLink RX9 306 "HarpPedalsModel" "keptChords" "I", .fieldLink RX9 155 "HarpPedalsModel" "chords" "I", .fieldLink RX9 309 "HarpPedalsModel" "keptBegin" "I", .fieldLink RX9 152 "HarpPedalsModel" "begin" "I", .fieldLink RX9 312 "HarpPedalsModel" "keptSeen" "I", .fieldLink RX9 162 "HarpPedalsModel" "seenMany" "I", .fieldLink RX9 168 "HarpPedalsModel" "old" "Z", .methodLink RX9 158 yX9_copy, .static yX9_copy, .initialized RX9, .code yX9_copy cX9_copy 3 none] ++ wsX90)
def wsX9_tonesAll : List Cond := .code yX9_tonesAll cX9_tonesAll 3 (some .int) :: ([.fieldLink RX9 155 "HarpPedalsModel" "chords" "I", .fieldLink RX9 53 "HarpPedalsModel" "tones" "[I", .methodLink RX9 277 yX9_ones, .static yX9_ones, .initialized RX9, .code yX9_ones cX9_ones 3 (some .int)] ++ wsX90)
def wsX9_countOf_r1 : List Cond := [Cond.fieldLink RX9 155 "HarpPedalsModel" "chords" "I", Cond.fieldLink RX9 152 "HarpPedalsModel" "begin" "I", Cond.fieldLink RX9 162 "HarpPedalsModel" "seenMany" "I", Cond.fieldLink RX9 120 "HarpPedalsModel" "pageMany" "I", Cond.fieldLink RX9 165 "HarpPedalsModel" "partsRead" "I", Cond.fieldLink RX9 255 "HarpPedalsModel" "shiftsAsked" "I", Cond.methodLink RX9 231 yX9_lacks, Cond.instanceMethod yX9_lacks, Cond.selects RX9 yX9_lacks yX9_lacks, Cond.initialized RX9, Cond.code yX9_lacks cX9_lacks 1 (some .boolean), Cond.methodLink RX9 238 yX9_told, Cond.instanceMethod yX9_told, Cond.selects RX9 yX9_told yX9_told, Cond.code yX9_told cX9_told 4 (some .int), Cond.methodLink RX9 96 yX9_positionOf, Cond.instanceMethod yX9_positionOf, Cond.selects RX9 yX9_positionOf yX9_positionOf, Cond.code yX9_positionOf cX9_positionOf 3 (some .int), Cond.fieldLink RX9 7 "HarpPedalsModel" "power" "[I", Cond.methodLink RX9 315 yX9_tonesAll, Cond.instanceMethod yX9_tonesAll, Cond.selects RX9 yX9_tonesAll yX9_tonesAll, Cond.code yX9_tonesAll cX9_tonesAll 3 (some .int)]
def wsX9_countOf_r2 : List Cond := [Cond.fieldLink RX9 53 "HarpPedalsModel" "tones" "[I", Cond.methodLink RX9 277 yX9_ones, Cond.static yX9_ones, Cond.code yX9_ones cX9_ones 3 (some .int)]
def wsX9_countOf : List Cond := .code yX9_countOf cX9_countOf 2 (some .int) :: ((wsX9_countOf_r1 ++ wsX9_countOf_r2) ++ wsX90)
def wsX9_count_r1 : List Cond := [Cond.methodLink RX9 318 yX9_countOf, Cond.instanceMethod yX9_countOf, Cond.selects RX9 yX9_countOf yX9_countOf, Cond.initialized RX9, Cond.code yX9_countOf cX9_countOf 2 (some .int), Cond.fieldLink RX9 155 "HarpPedalsModel" "chords" "I", Cond.fieldLink RX9 152 "HarpPedalsModel" "begin" "I", Cond.fieldLink RX9 162 "HarpPedalsModel" "seenMany" "I", Cond.fieldLink RX9 120 "HarpPedalsModel" "pageMany" "I", Cond.fieldLink RX9 165 "HarpPedalsModel" "partsRead" "I", Cond.fieldLink RX9 255 "HarpPedalsModel" "shiftsAsked" "I", Cond.methodLink RX9 231 yX9_lacks, Cond.instanceMethod yX9_lacks, Cond.selects RX9 yX9_lacks yX9_lacks, Cond.code yX9_lacks cX9_lacks 1 (some .boolean), Cond.methodLink RX9 238 yX9_told, Cond.instanceMethod yX9_told, Cond.selects RX9 yX9_told yX9_told, Cond.code yX9_told cX9_told 4 (some .int), Cond.methodLink RX9 96 yX9_positionOf, Cond.instanceMethod yX9_positionOf, Cond.selects RX9 yX9_positionOf yX9_positionOf, Cond.code yX9_positionOf cX9_positionOf 3 (some .int), Cond.fieldLink RX9 7 "HarpPedalsModel" "power" "[I"]
def wsX9_count_r2 : List Cond := [Cond.methodLink RX9 315 yX9_tonesAll, Cond.instanceMethod yX9_tonesAll, Cond.selects RX9 yX9_tonesAll yX9_tonesAll, Cond.code yX9_tonesAll cX9_tonesAll 3 (some .int), Cond.fieldLink RX9 53 "HarpPedalsModel" "tones" "[I", Cond.methodLink RX9 277 yX9_ones, Cond.static yX9_ones, Cond.code yX9_ones cX9_ones 3 (some .int)]
def wsX9_count : List Cond := .code yX9_count cX9_count 2 (some .int) :: ((wsX9_count_r1 ++ wsX9_count_r2) ++ wsX90)
def wsX9_say : List Cond := .code yX9_say cX9_say 3 none :: ([.constantLong RX9 321 (31), .fieldLink RX9 323 "HarpPedalsModel" "hash" "J"] ++ wsX90)
def wsX9_digest_r1 : List Cond := [Cond.constantLong RX9 327 (1423), Cond.fieldLink RX9 323 "HarpPedalsModel" "hash" "J", Cond.fieldLink RX9 155 "HarpPedalsModel" "chords" "I", Cond.fieldLink RX9 120 "HarpPedalsModel" "pageMany" "I", Cond.fieldLink RX9 41 "HarpPedalsModel" "page" "[I", Cond.methodLink RX9 270 yX9_tellChord, Cond.instanceMethod yX9_tellChord, Cond.selects RX9 yX9_tellChord yX9_tellChord, Cond.initialized RX9, Cond.code yX9_tellChord cX9_tellChord 3 (some .int), Cond.fieldLink RX9 50 "HarpPedalsModel" "kinds" "[I", Cond.fieldLink RX9 53 "HarpPedalsModel" "tones" "[I", Cond.methodLink RX9 261 yX9_fitting, Cond.instanceMethod yX9_fitting, Cond.selects RX9 yX9_fitting yX9_fitting, Cond.code yX9_fitting cX9_fitting 7 (some .int), Cond.methodLink RX9 228 yX9_freshen, Cond.instanceMethod yX9_freshen, Cond.selects RX9 yX9_freshen yX9_freshen, Cond.code yX9_freshen cX9_freshen 4 none, Cond.fieldLink RX9 168 "HarpPedalsModel" "old" "Z", Cond.fieldLink RX9 152 "HarpPedalsModel" "begin" "I", Cond.fieldLink RX9 210 "HarpPedalsModel" "fewest" "I", Cond.fieldLink RX9 219 "HarpPedalsModel" "waysAll" "I"]
def wsX9_digest_r2 : List Cond := [Cond.fieldLink RX9 222 "HarpPedalsModel" "stuck" "I", Cond.fieldLink RX9 71 "HarpPedalsModel" "reached" "[I", Cond.fieldLink RX9 62 "HarpPedalsModel" "cost" "[I", Cond.constant RX9 188 (99999), Cond.fieldLink RX9 65 "HarpPedalsModel" "ways" "[I", Cond.constant RX9 205 (1000003), Cond.methodLink RX9 213 yX9_layRest, Cond.instanceMethod yX9_layRest, Cond.selects RX9 yX9_layRest yX9_layRest, Cond.code yX9_layRest cX9_layRest 4 none, Cond.fieldLink RX9 59 "HarpPedalsModel" "rest" "[I", Cond.fieldLink RX9 56 "HarpPedalsModel" "fits" "[I", Cond.methodLink RX9 198 yX9_layFits, Cond.instanceMethod yX9_layFits, Cond.selects RX9 yX9_layFits yX9_layFits, Cond.code yX9_layFits cX9_layFits 5 none, Cond.methodLink RX9 172 yX9_shiftedTones, Cond.instanceMethod yX9_shiftedTones, Cond.selects RX9 yX9_shiftedTones yX9_shiftedTones, Cond.code yX9_shiftedTones cX9_shiftedTones 3 (some .int), Cond.methodLink RX9 175 yX9_isFitting, Cond.instanceMethod yX9_isFitting, Cond.selects RX9 yX9_isFitting yX9_isFitting, Cond.code yX9_isFitting cX9_isFitting 6 (some .boolean)]
def wsX9_digest_r3 : List Cond := [Cond.methodLink RX9 115 yX9_toneIn, Cond.instanceMethod yX9_toneIn, Cond.selects RX9 yX9_toneIn yX9_toneIn, Cond.code yX9_toneIn cX9_toneIn 3 (some .int), Cond.fieldLink RX9 16 "HarpPedalsModel" "toneAt" "[I", Cond.methodLink RX9 202 yX9_bestFrom, Cond.instanceMethod yX9_bestFrom, Cond.selects RX9 yX9_bestFrom yX9_bestFrom, Cond.code yX9_bestFrom cX9_bestFrom 10 (some .int), Cond.methodLink RX9 179 yX9_heldBy, Cond.instanceMethod yX9_heldBy, Cond.selects RX9 yX9_heldBy yX9_heldBy, Cond.code yX9_heldBy cX9_heldBy 3 (some .int), Cond.methodLink RX9 182 yX9_heldPedals, Cond.instanceMethod yX9_heldPedals, Cond.selects RX9 yX9_heldPedals yX9_heldPedals, Cond.code yX9_heldPedals cX9_heldPedals 5 (some .int), Cond.methodLink RX9 185 yX9_mostOf, Cond.static yX9_mostOf, Cond.code yX9_mostOf cX9_mostOf 1 (some .int), Cond.methodLink RX9 189 yX9_can, Cond.instanceMethod yX9_can, Cond.selects RX9 yX9_can yX9_can, Cond.code yX9_can cX9_can 4 (some .boolean)]
def wsX9_digest_r4 : List Cond := [Cond.fieldLink RX9 31 "HarpPedalsModel" "movedAt" "[I", Cond.fieldLink RX9 34 "HarpPedalsModel" "bitsAt" "[I", Cond.methodLink RX9 192 yX9_after, Cond.instanceMethod yX9_after, Cond.selects RX9 yX9_after yX9_after, Cond.code yX9_after cX9_after 3 (some .int), Cond.fieldLink RX9 38 "HarpPedalsModel" "afterAt" "[I", Cond.methodLink RX9 195 yX9_movedBy, Cond.instanceMethod yX9_movedBy, Cond.selects RX9 yX9_movedBy yX9_movedBy, Cond.code yX9_movedBy cX9_movedBy 2 (some .int), Cond.methodLink RX9 216 yX9_layCost, Cond.instanceMethod yX9_layCost, Cond.selects RX9 yX9_layCost yX9_layCost, Cond.code yX9_layCost cX9_layCost 4 none, Cond.methodLink RX9 206 yX9_layFrom, Cond.instanceMethod yX9_layFrom, Cond.selects RX9 yX9_layFrom yX9_layFrom, Cond.code yX9_layFrom cX9_layFrom 11 none, Cond.methodLink RX9 225 yX9_layBest, Cond.instanceMethod yX9_layBest, Cond.selects RX9 yX9_layBest yX9_layBest, Cond.code yX9_layBest cX9_layBest 11 none, Cond.fieldLink RX9 68 "HarpPedalsModel" "best" "[I"]
def wsX9_digest_r5 : List Cond := [Cond.methodLink RX9 238 yX9_told, Cond.instanceMethod yX9_told, Cond.selects RX9 yX9_told yX9_told, Cond.code yX9_told cX9_told 4 (some .int), Cond.methodLink RX9 96 yX9_positionOf, Cond.instanceMethod yX9_positionOf, Cond.selects RX9 yX9_positionOf yX9_positionOf, Cond.code yX9_positionOf cX9_positionOf 3 (some .int), Cond.fieldLink RX9 7 "HarpPedalsModel" "power" "[I", Cond.methodLink RX9 264 yX9_sortsOf, Cond.instanceMethod yX9_sortsOf, Cond.selects RX9 yX9_sortsOf yX9_sortsOf, Cond.code yX9_sortsOf cX9_sortsOf 5 (some .int), Cond.fieldLink RX9 162 "HarpPedalsModel" "seenMany" "I", Cond.fieldLink RX9 74 "HarpPedalsModel" "sights" "[I", Cond.methodLink RX9 282 yX9_sortsBy, Cond.static yX9_sortsBy, Cond.code yX9_sortsBy cX9_sortsBy 1 (some .int), Cond.methodLink RX9 267 yX9_askOf, Cond.instanceMethod yX9_askOf, Cond.selects RX9 yX9_askOf yX9_askOf, Cond.code yX9_askOf cX9_askOf 9 (some .int), Cond.methodLink RX9 277 yX9_ones, Cond.static yX9_ones]
def wsX9_digest_r6 : List Cond := [Cond.code yX9_ones cX9_ones 3 (some .int), Cond.methodLink RX9 329 yX9_say, Cond.instanceMethod yX9_say, Cond.selects RX9 yX9_say yX9_say, Cond.code yX9_say cX9_say 3 none, Cond.constantLong RX9 321 (31), Cond.methodLink RX9 244 yX9_settingOf, Cond.instanceMethod yX9_settingOf, Cond.selects RX9 yX9_settingOf yX9_settingOf, Cond.code yX9_settingOf cX9_settingOf 2 (some .int), Cond.methodLink RX9 247 yX9_reachOf, Cond.instanceMethod yX9_reachOf, Cond.selects RX9 yX9_reachOf yX9_reachOf, Cond.code yX9_reachOf cX9_reachOf 2 (some .int), Cond.methodLink RX9 235 yX9_planOf, Cond.instanceMethod yX9_planOf, Cond.selects RX9 yX9_planOf yX9_planOf, Cond.code yX9_planOf cX9_planOf 2 (some .int), Cond.methodLink RX9 318 yX9_countOf, Cond.instanceMethod yX9_countOf, Cond.selects RX9 yX9_countOf yX9_countOf, Cond.code yX9_countOf cX9_countOf 2 (some .int), Cond.fieldLink RX9 165 "HarpPedalsModel" "partsRead" "I", Cond.fieldLink RX9 255 "HarpPedalsModel" "shiftsAsked" "I"]
def wsX9_digest_r7 : List Cond := [Cond.methodLink RX9 231 yX9_lacks, Cond.instanceMethod yX9_lacks, Cond.selects RX9 yX9_lacks yX9_lacks, Cond.code yX9_lacks cX9_lacks 1 (some .boolean), Cond.methodLink RX9 315 yX9_tonesAll, Cond.instanceMethod yX9_tonesAll, Cond.selects RX9 yX9_tonesAll yX9_tonesAll, Cond.code yX9_tonesAll cX9_tonesAll 3 (some .int)]
def wsX9_digest : List Cond := .code yX9_digest cX9_digest 3 (some .long) :: ((wsX9_digest_r1 ++ (wsX9_digest_r2 ++ (wsX9_digest_r3 ++ (wsX9_digest_r4 ++ (wsX9_digest_r5 ++ (wsX9_digest_r6 ++ wsX9_digest_r7)))))) ++ wsX90)
def wsJ9_max_7cf53 : List Cond := .code yJ9_max_7cf53 cJ9_max_7cf53 2 (some .int) :: ([])
def wsL_law_r1 : List Cond := [Cond.classLink RL 7 RX8, Cond.instantiable RX8 11, Cond.initialized RX8, Cond.classLink RL 10 RX9, Cond.instantiable RX9 44, Cond.initialized RX9, Cond.methodLink RL 9 yX8_init, Cond.instanceMethod yX8_init, Cond.code yX8_init cX8_init 1 none, Cond.methodLink RX8 1 objectInit, Cond.instanceMethod objectInit, Cond.code objectInit ⟨#[0xb1]⟩ 1 none, Cond.classLink RX8 7 RX1, Cond.instantiable RX1 2, Cond.initialized RX1, Cond.fieldLink RX8 10 "HarpPedals" "page" "LHarpPedals$Page;", Cond.classLink RX8 16 RX5, Cond.instantiable RX5 3, Cond.initialized RX5, Cond.fieldLink RX8 19 "HarpPedals" "reader" "LHarpPedals$Reader;", Cond.classLink RX8 23 RX2, Cond.instantiable RX2 4, Cond.initialized RX2, Cond.fieldLink RX8 26 "HarpPedals" "played" "LHarpPedals$Part;"]
def wsL_law_r2 : List Cond := [Cond.fieldLink RX8 30 "HarpPedals" "keptPart" "LHarpPedals$Part;", Cond.classLink RX8 33 RX6, Cond.instantiable RX6 3, Cond.initialized RX6, Cond.fieldLink RX8 36 "HarpPedals" "seen" "LHarpPedals$Seen;", Cond.fieldLink RX8 40 "HarpPedals" "keptSeen" "LHarpPedals$Seen;", Cond.classLink RX8 43 RX7, Cond.instantiable RX7 1, Cond.initialized RX7, Cond.fieldLink RX8 46 "HarpPedals" "settings" "LHarpPedals$Settings;", Cond.classLink RX8 50 RX3, Cond.instantiable RX3 12, Cond.initialized RX3, Cond.fieldLink RX8 55 "HarpPedals" "planner" "LHarpPedals$Planner;", Cond.classLink RX8 59 RX4, Cond.instantiable RX4 6, Cond.initialized RX4, Cond.fieldLink RX8 62 "HarpPedals" "player" "LHarpPedals$Player;", Cond.instanceMethod yX1_init, Cond.code yX1_init cX1_init 1 none, Cond.methodLink RX1 3 objectInit, Cond.arrayClass .int, Cond.fieldLink RX1 9 "HarpPedals$Page" "codes" "[I", Cond.instanceMethod yX5_init]
def wsL_law_r3 : List Cond := [Cond.code yX5_init cX5_init 1 none, Cond.methodLink RX5 3 objectInit, Cond.classLink RX5 9 RX2, Cond.fieldLink RX5 12 "HarpPedals$Reader" "draft" "LHarpPedals$Part;", Cond.instanceMethod yX2_init, Cond.code yX2_init cX2_init 1 none, Cond.methodLink RX2 3 objectInit, Cond.fieldLink RX2 9 "HarpPedals$Part" "kinds" "[I", Cond.fieldLink RX2 15 "HarpPedals$Part" "tones" "[I", Cond.instanceMethod yX6_init, Cond.code yX6_init cX6_init 1 none, Cond.methodLink RX6 3 objectInit, Cond.fieldLink RX6 9 "HarpPedals$Seen" "chords" "[I", Cond.fieldLink RX6 15 "HarpPedals$Seen" "kindsLeft" "[I", Cond.methodLink RX8 45 yX7_init, Cond.instanceMethod yX7_init, Cond.code yX7_init cX7_init 2 none, Cond.methodLink RX7 3 objectInit, Cond.fieldLink RX7 9 "HarpPedals$Settings" "tonesOf" "[I", Cond.methodLink RX7 15 yX7_tonesOfPedals, Cond.static yX7_tonesOfPedals, Cond.code yX7_tonesOfPedals cX7_tonesOfPedals 3 (some .int), Cond.methodLink RX7 29 yX7_positionAt, Cond.static yX7_positionAt]
def wsL_law_r4 : List Cond := [Cond.code yX7_positionAt cX7_positionAt 2 (some .int), Cond.methodLink RX7 36 yX7_toneAt, Cond.static yX7_toneAt, Cond.code yX7_toneAt cX7_toneAt 2 (some .int), Cond.fieldLink RX7 26 "HarpPedals$Settings" "NATURAL_TONES" "[I", Cond.methodLink RX8 52 yX3_init, Cond.instanceMethod yX3_init, Cond.code yX3_init cX3_init 2 none, Cond.methodLink RX3 5 objectInit, Cond.classLink RX3 11 RX0, Cond.instantiable RX0 2, Cond.initialized RX0, Cond.fieldLink RX3 14 "HarpPedals$Planner" "gap" "LHarpPedals$Gap;", Cond.fieldLink RX3 18 "HarpPedals$Planner" "oneRow" "[I", Cond.fieldLink RX3 22 "HarpPedals$Planner" "otherRow" "[I", Cond.fieldLink RX3 25 "HarpPedals$Planner" "halfway" "[I", Cond.classLink RX3 28 "[[I", Cond.fieldLink RX3 30 "HarpPedals$Planner" "onward" "[[I", Cond.fieldLink RX3 33 "HarpPedals$Planner" "reached" "[I", Cond.fieldLink RX3 36 "HarpPedals$Planner" "best" "[I", Cond.fieldLink RX3 39 "HarpPedals$Planner" "shiftOfScore" "I", Cond.fieldLink RX3 43 "HarpPedals$Planner" "settings" "LHarpPedals$Settings;", Cond.instanceMethod yX0_init, Cond.code yX0_init cX0_init 1 none]
def wsL_law_r5 : List Cond := [Cond.methodLink RX0 3 objectInit, Cond.methodLink RX8 61 yX4_init, Cond.instanceMethod yX4_init, Cond.code yX4_init cX4_init 2 none, Cond.methodLink RX4 3 objectInit, Cond.classLink RX4 9 RX0, Cond.fieldLink RX4 12 "HarpPedals$Player" "gap" "LHarpPedals$Gap;", Cond.fieldLink RX4 18 "HarpPedals$Player" "settings" "LHarpPedals$Settings;", Cond.methodLink RL 12 yX9_init, Cond.instanceMethod yX9_init, Cond.code yX9_init cX9_init 2 none, Cond.methodLink RX9 1 objectInit, Cond.fieldLink RX9 7 "HarpPedalsModel" "power" "[I", Cond.fieldLink RX9 13 "HarpPedalsModel" "natural" "[I", Cond.fieldLink RX9 16 "HarpPedalsModel" "toneAt" "[I", Cond.fieldLink RX9 19 "HarpPedalsModel" "leftPedal" "[I", Cond.fieldLink RX9 22 "HarpPedalsModel" "leftBy" "[I", Cond.fieldLink RX9 25 "HarpPedalsModel" "rightPedal" "[I", Cond.fieldLink RX9 28 "HarpPedalsModel" "rightBy" "[I", Cond.fieldLink RX9 31 "HarpPedalsModel" "movedAt" "[I", Cond.fieldLink RX9 34 "HarpPedalsModel" "bitsAt" "[I", Cond.constant RX9 37 (137781), Cond.fieldLink RX9 38 "HarpPedalsModel" "afterAt" "[I", Cond.fieldLink RX9 41 "HarpPedalsModel" "page" "[I"]
def wsL_law_r6 : List Cond := [Cond.fieldLink RX9 44 "HarpPedalsModel" "readKinds" "[I", Cond.fieldLink RX9 47 "HarpPedalsModel" "readTones" "[I", Cond.fieldLink RX9 50 "HarpPedalsModel" "kinds" "[I", Cond.fieldLink RX9 53 "HarpPedalsModel" "tones" "[I", Cond.fieldLink RX9 56 "HarpPedalsModel" "fits" "[I", Cond.fieldLink RX9 59 "HarpPedalsModel" "rest" "[I", Cond.fieldLink RX9 62 "HarpPedalsModel" "cost" "[I", Cond.fieldLink RX9 65 "HarpPedalsModel" "ways" "[I", Cond.fieldLink RX9 68 "HarpPedalsModel" "best" "[I", Cond.fieldLink RX9 71 "HarpPedalsModel" "reached" "[I", Cond.fieldLink RX9 74 "HarpPedalsModel" "sights" "[I", Cond.fieldLink RX9 77 "HarpPedalsModel" "keptKinds" "[I", Cond.fieldLink RX9 80 "HarpPedalsModel" "keptTones" "[I", Cond.fieldLink RX9 83 "HarpPedalsModel" "keptSights" "[I", Cond.fieldLink RX9 86 "HarpPedalsModel" "keptPart" "I", Cond.methodLink RX9 90 yX9_layOptions, Cond.instanceMethod yX9_layOptions, Cond.selects RX9 yX9_layOptions yX9_layOptions, Cond.code yX9_layOptions cX9_layOptions 4 none, Cond.methodLink RX9 93 yX9_layTables, Cond.instanceMethod yX9_layTables, Cond.selects RX9 yX9_layTables yX9_layTables, Cond.code yX9_layTables cX9_layTables 3 none, Cond.methodLink RX9 96 yX9_positionOf]
def wsL_law_r7 : List Cond := [Cond.instanceMethod yX9_positionOf, Cond.selects RX9 yX9_positionOf yX9_positionOf, Cond.code yX9_positionOf cX9_positionOf 3 (some .int), Cond.methodLink RX9 108 yX9_toneOf, Cond.instanceMethod yX9_toneOf, Cond.selects RX9 yX9_toneOf yX9_toneOf, Cond.code yX9_toneOf cX9_toneOf 3 (some .int), Cond.methodLink RX9 111 yX9_turned, Cond.instanceMethod yX9_turned, Cond.selects RX9 yX9_turned yX9_turned, Cond.code yX9_turned cX9_turned 5 (some .int), Cond.methodLink RL 13 yX8_letter, Cond.instanceMethod yX8_letter, Cond.selects RX8 yX8_letter yX8_letter, Cond.code yX8_letter cX8_letter 2 (some .int), Cond.methodLink RX8 66 yX1_append, Cond.instanceMethod yX1_append, Cond.selects RX1 yX1_append yX1_append, Cond.code yX1_append cX1_append 2 (some .boolean), Cond.fieldLink RX1 15 "HarpPedals$Page" "size" "I", Cond.methodLink RL 17 yX9_letter, Cond.instanceMethod yX9_letter, Cond.selects RX9 yX9_letter yX9_letter, Cond.code yX9_letter cX9_letter 2 (some .int)]
def wsL_law_r8 : List Cond := [Cond.constantLong RX9 118 (126), Cond.fieldLink RX9 120 "HarpPedalsModel" "pageMany" "I", Cond.methodLink RX9 102 yX9_in, Cond.static yX9_in, Cond.code yX9_in cX9_in 6 (some .boolean), Cond.methodLink RL 18 yX8_blank, Cond.instanceMethod yX8_blank, Cond.selects RX8 yX8_blank yX8_blank, Cond.code yX8_blank cX8_blank 1 (some .int), Cond.methodLink RX8 74 yX1_clear, Cond.instanceMethod yX1_clear, Cond.selects RX1 yX1_clear yX1_clear, Cond.code yX1_clear cX1_clear 2 (some .int), Cond.methodLink RL 22 yX9_blank, Cond.instanceMethod yX9_blank, Cond.selects RX9 yX9_blank yX9_blank, Cond.code yX9_blank cX9_blank 2 (some .int), Cond.methodLink RL 23 yX8_fault, Cond.instanceMethod yX8_fault, Cond.selects RX8 yX8_fault yX8_fault, Cond.code yX8_fault cX8_fault 1 (some .int), Cond.methodLink RX8 78 yX1_readBy, Cond.instanceMethod yX1_readBy, Cond.selects RX1 yX1_readBy yX1_readBy]
def wsL_law_r9 : List Cond := [Cond.code yX1_readBy cX1_readBy 3 (some .int), Cond.methodLink RX1 19 yX5_restart, Cond.instanceMethod yX5_restart, Cond.selects RX5 yX5_restart yX5_restart, Cond.code yX5_restart cX5_restart 1 none, Cond.fieldLink RX5 21 "HarpPedals$Reader" "lettersRead" "I", Cond.fieldLink RX5 25 "HarpPedals$Reader" "kindIsDue" "Z", Cond.methodLink RX5 18 yX2_clear, Cond.instanceMethod yX2_clear, Cond.selects RX2 yX2_clear yX2_clear, Cond.code yX2_clear cX2_clear 1 none, Cond.fieldLink RX2 22 "HarpPedals$Part" "begin" "I", Cond.fieldLink RX2 18 "HarpPedals$Part" "size" "I", Cond.methodLink RX1 24 yX5_accept, Cond.instanceMethod yX5_accept, Cond.selects RX5 yX5_accept yX5_accept, Cond.code yX5_accept cX5_accept 3 (some .boolean), Cond.methodLink RX5 29 yX5_acceptPosition, Cond.instanceMethod yX5_acceptPosition, Cond.selects RX5 yX5_acceptPosition yX5_acceptPosition, Cond.code yX5_acceptPosition cX5_acceptPosition 3 (some .boolean), Cond.static yX8_isPosition, Cond.code yX8_isPosition cX8_isPosition 1 (some .boolean), Cond.methodLink RX5 33 yX5_acceptKind]
def wsL_law_r10 : List Cond := [Cond.instanceMethod yX5_acceptKind, Cond.selects RX5 yX5_acceptKind yX5_acceptKind, Cond.code yX5_acceptKind cX5_acceptKind 3 (some .boolean), Cond.methodLink RX5 52 yX5_kindOf, Cond.static yX5_kindOf, Cond.code yX5_kindOf cX5_kindOf 1 (some .int), Cond.methodLink RX5 59 yX2_insert, Cond.instanceMethod yX2_insert, Cond.selects RX2 yX2_insert yX2_insert, Cond.code yX2_insert cX2_insert 5 (some .boolean), Cond.methodLink RX5 36 yX5_acceptTone, Cond.instanceMethod yX5_acceptTone, Cond.selects RX5 yX5_acceptTone yX5_acceptTone, Cond.code yX5_acceptTone cX5_acceptTone 4 (some .boolean), Cond.methodLink RX5 42 yX2_tonesOfLast, Cond.instanceMethod yX2_tonesOfLast, Cond.selects RX2 yX2_tonesOfLast yX2_tonesOfLast, Cond.code yX2_tonesOfLast cX2_tonesOfLast 1 (some .int), Cond.methodLink RX5 63 yJ6_bitCount_0f7a4, Cond.static yJ6_bitCount_0f7a4, Cond.initialized RJ6, Cond.code yJ6_bitCount_0f7a4 cJ6_bitCount_0f7a4 1 (some .int), Cond.constant RJ6 265 (1431655765), Cond.constant RJ6 266 (858993459)]
def wsL_law_r11 : List Cond := [Cond.constant RJ6 267 (252645135), Cond.methodLink RX5 68 yX2_addToLast, Cond.instanceMethod yX2_addToLast, Cond.selects RX2 yX2_addToLast yX2_addToLast, Cond.code yX2_addToLast cX2_addToLast 2 none, Cond.methodLink RX5 39 yX5_acceptComma, Cond.instanceMethod yX5_acceptComma, Cond.selects RX5 yX5_acceptComma yX5_acceptComma, Cond.code yX5_acceptComma cX5_acceptComma 2 (some .boolean), Cond.methodLink RL 26 yX9_fault, Cond.instanceMethod yX9_fault, Cond.selects RX9 yX9_fault yX9_fault, Cond.code yX9_fault cX9_fault 1 (some .int), Cond.methodLink RX9 148 yX9_faultOf, Cond.instanceMethod yX9_faultOf, Cond.selects RX9 yX9_faultOf yX9_faultOf, Cond.code yX9_faultOf cX9_faultOf 2 (some .int), Cond.fieldLink RX9 126 "HarpPedalsModel" "readMany" "I", Cond.fieldLink RX9 123 "HarpPedalsModel" "readHere" "I", Cond.methodLink RX9 145 yX9_isGood, Cond.instanceMethod yX9_isGood, Cond.selects RX9 yX9_isGood yX9_isGood, Cond.code yX9_isGood cX9_isGood 3 (some .boolean), Cond.constantLong RX9 137 (48)]
def wsL_law_r12 : List Cond := [Cond.constantLong RX9 139 (50), Cond.methodLink RX9 141 yX9_isChordSign, Cond.instanceMethod yX9_isChordSign, Cond.selects RX9 yX9_isChordSign yX9_isChordSign, Cond.code yX9_isChordSign cX9_isChordSign 4 (some .boolean), Cond.constantLong RX9 133 (97), Cond.constantLong RX9 135 (108), Cond.methodLink RX9 129 yX9_kindBy, Cond.static yX9_kindBy, Cond.code yX9_kindBy cX9_kindBy 1 (some .int), Cond.methodLink RL 27 yX8_part, Cond.instanceMethod yX8_part, Cond.selects RX8 yX8_part yX8_part, Cond.code yX8_part cX8_part 1 (some .int), Cond.fieldLink RX8 99 "HarpPedals" "partsRead" "I", Cond.methodLink RX8 82 yX5_isWhole, Cond.instanceMethod yX5_isWhole, Cond.selects RX5 yX5_isWhole yX5_isWhole, Cond.code yX5_isWhole cX5_isWhole 1 (some .boolean), Cond.methodLink RX8 89 yX2_become, Cond.instanceMethod yX2_become, Cond.selects RX2 yX2_become yX2_become, Cond.code yX2_become cX2_become 2 none, Cond.methodLink RX2 25 arraycopyName]
def wsL_law_r13 : List Cond := [Cond.native arraycopyName, Cond.static arraycopyName, Cond.initialized "java/lang/System", Cond.methodLink RX8 93 yX3_makeStale, Cond.instanceMethod yX3_makeStale, Cond.selects RX3 yX3_makeStale yX3_makeStale, Cond.code yX3_makeStale cX3_makeStale 1 none, Cond.fieldLink RX3 47 "HarpPedals$Planner" "bestIsKnown" "Z", Cond.methodLink RX8 96 yX6_clear, Cond.instanceMethod yX6_clear, Cond.selects RX6 yX6_clear yX6_clear, Cond.code yX6_clear cX6_clear 2 (some .int), Cond.fieldLink RX6 18 "HarpPedals$Seen" "size" "I", Cond.methodLink RX8 97 yX2_clear, Cond.methodLink RL 30 yX9_part, Cond.instanceMethod yX9_part, Cond.selects RX9 yX9_part yX9_part, Cond.code yX9_part cX9_part 2 (some .int), Cond.fieldLink RX9 152 "HarpPedalsModel" "begin" "I", Cond.fieldLink RX9 155 "HarpPedalsModel" "chords" "I", Cond.fieldLink RX9 162 "HarpPedalsModel" "seenMany" "I", Cond.fieldLink RX9 165 "HarpPedalsModel" "partsRead" "I", Cond.fieldLink RX9 168 "HarpPedalsModel" "old" "Z", Cond.methodLink RX9 158 yX9_copy]
def wsL_law_r14 : List Cond := [Cond.static yX9_copy, Cond.code yX9_copy cX9_copy 3 none, Cond.methodLink RL 31 yX8_chord, Cond.instanceMethod yX8_chord, Cond.selects RX8 yX8_chord yX8_chord, Cond.code yX8_chord cX8_chord 3 (some .int), Cond.methodLink RX8 103 yX2_has, Cond.instanceMethod yX2_has, Cond.selects RX2 yX2_has yX2_has, Cond.code yX2_has cX2_has 2 (some .boolean), Cond.methodLink RX8 113 yX7_howManyFit, Cond.instanceMethod yX7_howManyFit, Cond.selects RX7 yX7_howManyFit yX7_howManyFit, Cond.code yX7_howManyFit cX7_howManyFit 5 (some .int), Cond.methodLink RX7 19 yX7_fits, Cond.instanceMethod yX7_fits, Cond.selects RX7 yX7_fits yX7_fits, Cond.code yX7_fits cX7_fits 5 (some .boolean), Cond.methodLink RX8 117 yX7_leastThatFits, Cond.instanceMethod yX7_leastThatFits, Cond.selects RX7 yX7_leastThatFits yX7_leastThatFits, Cond.code yX7_leastThatFits cX7_leastThatFits 4 (some .int), Cond.methodLink RX7 23 yX7_numberOf, Cond.static yX7_numberOf]
def wsL_law_r15 : List Cond := [Cond.code yX7_numberOf cX7_numberOf 3 (some .int), Cond.methodLink RX8 120 yX6_sortsOf, Cond.instanceMethod yX6_sortsOf, Cond.selects RX6 yX6_sortsOf yX6_sortsOf, Cond.code yX6_sortsOf cX6_sortsOf 4 (some .int), Cond.methodLink RX8 124 yX6_nextQuestion, Cond.instanceMethod yX6_nextQuestion, Cond.selects RX6 yX6_nextQuestion yX6_nextQuestion, Cond.code yX6_nextQuestion cX6_nextQuestion 7 (some .int), Cond.fieldLink RX6 22 "HarpPedals$Seen" "KINDS_THAT_COULD" "[I", Cond.methodLink RX6 31 yX6_sortsOf, Cond.methodLink RX6 35 yX6_leftAtWorst, Cond.static yX6_leftAtWorst, Cond.code yX6_leftAtWorst cX6_leftAtWorst 2 (some .int), Cond.methodLink RX6 44 Lib.Math.max.name, Cond.static Lib.Math.max.name, Cond.initialized "java/lang/Math", Cond.code Lib.Math.max.name Lib.Math.max.code 2 (some .int), Cond.methodLink RX6 39 yJ6_bitCount_0f7a4, Cond.methodLink RL 35 yX9_chord, Cond.instanceMethod yX9_chord, Cond.selects RX9 yX9_chord yX9_chord, Cond.code yX9_chord cX9_chord 3 (some .int), Cond.methodLink RX9 241 yX9_isChord]
def wsL_law_r16 : List Cond := [Cond.instanceMethod yX9_isChord, Cond.selects RX9 yX9_isChord yX9_isChord, Cond.code yX9_isChord cX9_isChord 2 (some .boolean), Cond.methodLink RX9 270 yX9_tellChord, Cond.instanceMethod yX9_tellChord, Cond.selects RX9 yX9_tellChord yX9_tellChord, Cond.code yX9_tellChord cX9_tellChord 3 (some .int), Cond.methodLink RX9 261 yX9_fitting, Cond.instanceMethod yX9_fitting, Cond.selects RX9 yX9_fitting yX9_fitting, Cond.code yX9_fitting cX9_fitting 7 (some .int), Cond.methodLink RX9 228 yX9_freshen, Cond.instanceMethod yX9_freshen, Cond.selects RX9 yX9_freshen yX9_freshen, Cond.code yX9_freshen cX9_freshen 4 none, Cond.fieldLink RX9 210 "HarpPedalsModel" "fewest" "I", Cond.fieldLink RX9 219 "HarpPedalsModel" "waysAll" "I", Cond.fieldLink RX9 222 "HarpPedalsModel" "stuck" "I", Cond.constant RX9 188 (99999), Cond.constant RX9 205 (1000003), Cond.methodLink RX9 213 yX9_layRest, Cond.instanceMethod yX9_layRest, Cond.selects RX9 yX9_layRest yX9_layRest, Cond.code yX9_layRest cX9_layRest 4 none]
def wsL_law_r17 : List Cond := [Cond.methodLink RX9 198 yX9_layFits, Cond.instanceMethod yX9_layFits, Cond.selects RX9 yX9_layFits yX9_layFits, Cond.code yX9_layFits cX9_layFits 5 none, Cond.methodLink RX9 172 yX9_shiftedTones, Cond.instanceMethod yX9_shiftedTones, Cond.selects RX9 yX9_shiftedTones yX9_shiftedTones, Cond.code yX9_shiftedTones cX9_shiftedTones 3 (some .int), Cond.methodLink RX9 175 yX9_isFitting, Cond.instanceMethod yX9_isFitting, Cond.selects RX9 yX9_isFitting yX9_isFitting, Cond.code yX9_isFitting cX9_isFitting 6 (some .boolean), Cond.methodLink RX9 115 yX9_toneIn, Cond.instanceMethod yX9_toneIn, Cond.selects RX9 yX9_toneIn yX9_toneIn, Cond.code yX9_toneIn cX9_toneIn 3 (some .int), Cond.methodLink RX9 202 yX9_bestFrom, Cond.instanceMethod yX9_bestFrom, Cond.selects RX9 yX9_bestFrom yX9_bestFrom, Cond.code yX9_bestFrom cX9_bestFrom 10 (some .int), Cond.methodLink RX9 179 yX9_heldBy, Cond.instanceMethod yX9_heldBy, Cond.selects RX9 yX9_heldBy yX9_heldBy, Cond.code yX9_heldBy cX9_heldBy 3 (some .int)]
def wsL_law_r18 : List Cond := [Cond.methodLink RX9 182 yX9_heldPedals, Cond.instanceMethod yX9_heldPedals, Cond.selects RX9 yX9_heldPedals yX9_heldPedals, Cond.code yX9_heldPedals cX9_heldPedals 5 (some .int), Cond.methodLink RX9 185 yX9_mostOf, Cond.static yX9_mostOf, Cond.code yX9_mostOf cX9_mostOf 1 (some .int), Cond.methodLink RX9 189 yX9_can, Cond.instanceMethod yX9_can, Cond.selects RX9 yX9_can yX9_can, Cond.code yX9_can cX9_can 4 (some .boolean), Cond.methodLink RX9 192 yX9_after, Cond.instanceMethod yX9_after, Cond.selects RX9 yX9_after yX9_after, Cond.code yX9_after cX9_after 3 (some .int), Cond.methodLink RX9 195 yX9_movedBy, Cond.instanceMethod yX9_movedBy, Cond.selects RX9 yX9_movedBy yX9_movedBy, Cond.code yX9_movedBy cX9_movedBy 2 (some .int), Cond.methodLink RX9 216 yX9_layCost, Cond.instanceMethod yX9_layCost, Cond.selects RX9 yX9_layCost yX9_layCost, Cond.code yX9_layCost cX9_layCost 4 none, Cond.methodLink RX9 206 yX9_layFrom]
def wsL_law_r19 : List Cond := [Cond.instanceMethod yX9_layFrom, Cond.selects RX9 yX9_layFrom yX9_layFrom, Cond.code yX9_layFrom cX9_layFrom 11 none, Cond.methodLink RX9 225 yX9_layBest, Cond.instanceMethod yX9_layBest, Cond.selects RX9 yX9_layBest yX9_layBest, Cond.code yX9_layBest cX9_layBest 11 none, Cond.methodLink RX9 238 yX9_told, Cond.instanceMethod yX9_told, Cond.selects RX9 yX9_told yX9_told, Cond.code yX9_told cX9_told 4 (some .int), Cond.methodLink RX9 264 yX9_sortsOf, Cond.instanceMethod yX9_sortsOf, Cond.selects RX9 yX9_sortsOf yX9_sortsOf, Cond.code yX9_sortsOf cX9_sortsOf 5 (some .int), Cond.methodLink RX9 282 yX9_sortsBy, Cond.static yX9_sortsBy, Cond.code yX9_sortsBy cX9_sortsBy 1 (some .int), Cond.methodLink RX9 267 yX9_askOf, Cond.instanceMethod yX9_askOf, Cond.selects RX9 yX9_askOf yX9_askOf, Cond.code yX9_askOf cX9_askOf 9 (some .int), Cond.methodLink RX9 277 yX9_ones, Cond.static yX9_ones]
def wsL_law_r20 : List Cond := [Cond.code yX9_ones cX9_ones 3 (some .int), Cond.methodLink RL 36 yX8_as, Cond.instanceMethod yX8_as, Cond.selects RX8 yX8_as yX8_as, Cond.code yX8_as cX8_as 5 (some .int), Cond.methodLink RX8 127 yX8_isKind, Cond.static yX8_isKind, Cond.code yX8_isKind cX8_isKind 1 (some .boolean), Cond.methodLink RX8 130 yX8_isHeld, Cond.static yX8_isHeld, Cond.code yX8_isHeld cX8_isHeld 1 (some .boolean), Cond.methodLink RL 39 yX9_as, Cond.instanceMethod yX9_as, Cond.selects RX9 yX9_as yX9_as, Cond.code yX9_as cX9_as 4 (some .int), Cond.constantLong RX9 273 (4), Cond.methodLink RL 40 yX8_tone, Cond.instanceMethod yX8_tone, Cond.selects RX8 yX8_tone yX8_tone, Cond.code yX8_tone cX8_tone 3 (some .int), Cond.methodLink RX8 133 yX8_isPedal, Cond.static yX8_isPedal, Cond.code yX8_isPedal cX8_isPedal 1 (some .boolean), Cond.methodLink RX8 136 yX8_isPosition]
def wsL_law_r21 : List Cond := [Cond.methodLink RX8 139 yX7_toneAt, Cond.methodLink RL 43 yX9_tone, Cond.instanceMethod yX9_tone, Cond.selects RX9 yX9_tone yX9_tone, Cond.code yX9_tone cX9_tone 3 (some .int), Cond.constantLong RX9 100 (6), Cond.constantLong RX9 106 (2), Cond.methodLink RL 44 yX8_press, Cond.instanceMethod yX8_press, Cond.selects RX8 yX8_press yX8_press, Cond.code yX8_press cX8_press 3 (some .int), Cond.methodLink RX8 145 yX7_moved, Cond.static yX7_moved, Cond.code yX7_moved cX7_moved 3 (some .int), Cond.fieldLink RX7 33 "HarpPedals$Settings" "WEIGHTS" "[I", Cond.methodLink RX8 149 yX7_numberOf, Cond.methodLink RL 47 yX9_press, Cond.instanceMethod yX9_press, Cond.selects RX9 yX9_press yX9_press, Cond.code yX9_press cX9_press 3 (some .int), Cond.methodLink RX9 231 yX9_lacks, Cond.instanceMethod yX9_lacks, Cond.selects RX9 yX9_lacks yX9_lacks, Cond.code yX9_lacks cX9_lacks 1 (some .boolean)]
def wsL_law_r22 : List Cond := [Cond.methodLink RL 48 yX8_put, Cond.instanceMethod yX8_put, Cond.selects RX8 yX8_put yX8_put, Cond.code yX8_put cX8_put 4 (some .int), Cond.methodLink RX8 152 yX8_areTones, Cond.static yX8_areTones, Cond.code yX8_areTones cX8_areTones 1 (some .boolean), Cond.methodLink RX8 221 yJ6_bitCount_0f7a4, Cond.methodLink RX8 155 yX2_insert, Cond.methodLink RL 52 yX9_put, Cond.instanceMethod yX9_put, Cond.selects RX9 yX9_put yX9_put, Cond.code yX9_put cX9_put 5 (some .int), Cond.constantLong RX9 275 (4095), Cond.methodLink RL 53 yX8_take, Cond.instanceMethod yX8_take, Cond.selects RX8 yX8_take yX8_take, Cond.code yX8_take cX8_take 2 (some .int), Cond.methodLink RX8 159 yX2_remove, Cond.instanceMethod yX2_remove, Cond.selects RX2 yX2_remove yX2_remove, Cond.code yX2_remove cX2_remove 3 none, Cond.methodLink RX2 31 yX2_has, Cond.methodLink RL 56 yX9_take]
def wsL_law_r23 : List Cond := [Cond.instanceMethod yX9_take, Cond.selects RX9 yX9_take yX9_take, Cond.code yX9_take cX9_take 3 (some .int), Cond.methodLink RL 57 yX8_swap, Cond.instanceMethod yX8_swap, Cond.selects RX8 yX8_swap yX8_swap, Cond.code yX8_swap cX8_swap 3 (some .int), Cond.methodLink RX8 163 yX2_exchange, Cond.instanceMethod yX2_exchange, Cond.selects RX2 yX2_exchange yX2_exchange, Cond.code yX2_exchange cX2_exchange 5 none, Cond.methodLink RX8 167 yX3_fewest, Cond.instanceMethod yX3_fewest, Cond.selects RX3 yX3_fewest yX3_fewest, Cond.code yX3_fewest cX3_fewest 3 (some .int), Cond.fieldLink RX3 55 "HarpPedals$Planner" "score" "I", Cond.constant RX3 58 (1073741824), Cond.methodLink RX3 51 yX3_goForward, Cond.instanceMethod yX3_goForward, Cond.selects RX3 yX3_goForward yX3_goForward, Cond.code yX3_goForward cX3_goForward 7 none, Cond.methodLink RX3 82 yJ7_fill_53178, Cond.static yJ7_fill_53178, Cond.initialized RJ7]
def wsL_law_r24 : List Cond := [Cond.code yJ7_fill_53178 cJ7_fill_53178 4 none, Cond.methodLink RX3 89 yX7_isSetting, Cond.static yX7_isSetting, Cond.code yX7_isSetting cX7_isSetting 1 (some .boolean), Cond.methodLink RX3 92 yX3_setGapAheadOf, Cond.instanceMethod yX3_setGapAheadOf, Cond.selects RX3 yX3_setGapAheadOf yX3_setGapAheadOf, Cond.code yX3_setGapAheadOf cX3_setGapAheadOf 5 none, Cond.static yX8_raised, Cond.code yX8_raised cX8_raised 2 (some .int), Cond.methodLink RX3 140 yX0_set, Cond.instanceMethod yX0_set, Cond.selects RX0 yX0_set yX0_set, Cond.code yX0_set cX0_set 6 none, Cond.fieldLink RX0 9 "HarpPedals$Gap" "mostMoves" "I", Cond.fieldLink RX0 15 "HarpPedals$Gap" "held" "I", Cond.methodLink RX0 18 yX7_toneAt, Cond.methodLink RX3 106 yX3_cross, Cond.instanceMethod yX3_cross, Cond.selects RX3 yX3_cross yX3_cross, Cond.code yX3_cross cX3_cross 11 none, Cond.methodLink RX3 147 arraycopyName, Cond.methodLink RX3 153 yX3_spreadByRight, Cond.instanceMethod yX3_spreadByRight]
def wsL_law_r25 : List Cond := [Cond.selects RX3 yX3_spreadByRight yX3_spreadByRight, Cond.code yX3_spreadByRight cX3_spreadByRight 9 none, Cond.constant RX3 161 (1048576), Cond.methodLink RX3 162 yX7_positionAt, Cond.methodLink RX3 165 yX0_holds, Cond.instanceMethod yX0_holds, Cond.selects RX0 yX0_holds yX0_holds, Cond.code yX0_holds cX0_holds 3 (some .boolean), Cond.methodLink RX3 172 yX3_joined, Cond.static yX3_joined, Cond.code yX3_joined cX3_joined 3 (some .int), Cond.constant RX3 59 (1048575), Cond.constant RX3 175 (1000003), Cond.constant RX3 176 (-1048576), Cond.methodLink RX3 126 yX7_fits, Cond.methodLink RX3 157 yX3_gathered, Cond.instanceMethod yX3_gathered, Cond.selects RX3 yX3_gathered yX3_gathered, Cond.code yX3_gathered cX3_gathered 10 (some .int), Cond.methodLink RX3 110 yX3_howManyScored, Cond.static yX3_howManyScored, Cond.code yX3_howManyScored cX3_howManyScored 3 (some .int), Cond.methodLink RX3 114 yX3_bestScore, Cond.static yX3_bestScore]
def wsL_law_r26 : List Cond := [Cond.code yX3_bestScore cX3_bestScore 3 (some .int), Cond.methodLink RL 60 yX9_swap, Cond.instanceMethod yX9_swap, Cond.selects RX9 yX9_swap yX9_swap, Cond.code yX9_swap cX9_swap 5 (some .int), Cond.methodLink RX9 235 yX9_planOf, Cond.instanceMethod yX9_planOf, Cond.selects RX9 yX9_planOf yX9_planOf, Cond.code yX9_planOf cX9_planOf 2 (some .int), Cond.methodLink RL 61 yX8_change, Cond.instanceMethod yX8_change, Cond.selects RX8 yX8_change yX8_change, Cond.code yX8_change cX8_change 4 (some .int), Cond.methodLink RL 64 yX9_change, Cond.instanceMethod yX9_change, Cond.selects RX9 yX9_change yX9_change, Cond.code yX9_change cX9_change 4 (some .int), Cond.methodLink RL 65 yX8_shift, Cond.instanceMethod yX8_shift, Cond.selects RX8 yX8_shift yX8_shift, Cond.code yX8_shift cX8_shift 2 (some .int), Cond.methodLink RX8 171 yX8_isShift, Cond.static yX8_isShift, Cond.code yX8_isShift cX8_isShift 1 (some .boolean)]
def wsL_law_r27 : List Cond := [Cond.methodLink RX8 174 yX2_raise, Cond.instanceMethod yX2_raise, Cond.selects RX2 yX2_raise yX2_raise, Cond.code yX2_raise cX2_raise 3 none, Cond.methodLink RL 68 yX9_shift, Cond.instanceMethod yX9_shift, Cond.selects RX9 yX9_shift yX9_shift, Cond.code yX9_shift cX9_shift 3 (some .int), Cond.constantLong RX9 250 (11), Cond.methodLink RL 69 yX8_plan, Cond.instanceMethod yX8_plan, Cond.selects RX8 yX8_plan yX8_plan, Cond.code yX8_plan cX8_plan 2 (some .int), Cond.methodLink RX8 177 yX3_ways, Cond.instanceMethod yX3_ways, Cond.selects RX3 yX3_ways yX3_ways, Cond.code yX3_ways cX3_ways 2 (some .int), Cond.methodLink RX8 181 yX3_stuckAt, Cond.instanceMethod yX3_stuckAt, Cond.selects RX3 yX3_stuckAt yX3_stuckAt, Cond.code yX3_stuckAt cX3_stuckAt 3 (some .int), Cond.methodLink RL 72 yX9_plan, Cond.instanceMethod yX9_plan, Cond.selects RX9 yX9_plan yX9_plan]
def wsL_law_r28 : List Cond := [Cond.code yX9_plan cX9_plan 2 (some .int), Cond.methodLink RL 73 yX8_setting, Cond.instanceMethod yX8_setting, Cond.selects RX8 yX8_setting yX8_setting, Cond.code yX8_setting cX8_setting 2 (some .int), Cond.methodLink RX8 184 yX3_bestSetting, Cond.instanceMethod yX3_bestSetting, Cond.selects RX3 yX3_bestSetting yX3_bestSetting, Cond.code yX3_bestSetting cX3_bestSetting 4 (some .int), Cond.methodLink RX3 69 yX3_findBest, Cond.instanceMethod yX3_findBest, Cond.selects RX3 yX3_findBest yX3_findBest, Cond.code yX3_findBest cX3_findBest 2 none, Cond.fieldLink RX3 79 "HarpPedals$Planner" "begin" "I", Cond.methodLink RX3 117 yX3_goBackward, Cond.instanceMethod yX3_goBackward, Cond.selects RX3 yX3_goBackward yX3_goBackward, Cond.code yX3_goBackward cX3_goBackward 5 none, Cond.methodLink RX3 120 yX3_settingOfBestScore, Cond.static yX3_settingOfBestScore, Cond.code yX3_settingOfBestScore cX3_settingOfBestScore 4 (some .int), Cond.methodLink RX3 123 yX3_followBest, Cond.instanceMethod yX3_followBest, Cond.selects RX3 yX3_followBest yX3_followBest]
def wsL_law_r29 : List Cond := [Cond.code yX3_followBest cX3_followBest 4 none, Cond.methodLink RX3 130 yX3_bestNext, Cond.instanceMethod yX3_bestNext, Cond.selects RX3 yX3_bestNext yX3_bestNext, Cond.code yX3_bestNext cX3_bestNext 8 (some .int), Cond.methodLink RX3 134 yX0_movesBetween, Cond.instanceMethod yX0_movesBetween, Cond.selects RX0 yX0_movesBetween yX0_movesBetween, Cond.code yX0_movesBetween cX0_movesBetween 7 (some .int), Cond.methodLink RX0 24 yX7_positionAt, Cond.methodLink RX0 27 yX0_holds, Cond.methodLink RX3 65 yX2_has, Cond.methodLink RX3 73 yX7_numberOf, Cond.methodLink RL 76 yX9_setting, Cond.instanceMethod yX9_setting, Cond.selects RX9 yX9_setting yX9_setting, Cond.code yX9_setting cX9_setting 2 (some .int), Cond.methodLink RX9 244 yX9_settingOf, Cond.instanceMethod yX9_settingOf, Cond.selects RX9 yX9_settingOf yX9_settingOf, Cond.code yX9_settingOf cX9_settingOf 2 (some .int), Cond.methodLink RL 77 yX8_reach, Cond.instanceMethod yX8_reach, Cond.selects RX8 yX8_reach yX8_reach]
def wsL_law_r30 : List Cond := [Cond.code yX8_reach cX8_reach 2 (some .int), Cond.methodLink RX8 187 yX3_howManyReached, Cond.instanceMethod yX3_howManyReached, Cond.selects RX3 yX3_howManyReached yX3_howManyReached, Cond.code yX3_howManyReached cX3_howManyReached 3 (some .int), Cond.methodLink RL 80 yX9_reach, Cond.instanceMethod yX9_reach, Cond.selects RX9 yX9_reach yX9_reach, Cond.code yX9_reach cX9_reach 2 (some .int), Cond.methodLink RX9 247 yX9_reachOf, Cond.instanceMethod yX9_reachOf, Cond.selects RX9 yX9_reachOf yX9_reachOf, Cond.code yX9_reachOf cX9_reachOf 2 (some .int), Cond.methodLink RL 81 yX8_shifted, Cond.instanceMethod yX8_shifted, Cond.selects RX8 yX8_shifted yX8_shifted, Cond.code yX8_shifted cX8_shifted 2 (some .int), Cond.methodLink RL 84 yX9_shifted, Cond.instanceMethod yX9_shifted, Cond.selects RX9 yX9_shifted yX9_shifted, Cond.code yX9_shifted cX9_shifted 2 (some .int), Cond.methodLink RX9 252 yX9_shiftedOf, Cond.instanceMethod yX9_shiftedOf, Cond.selects RX9 yX9_shiftedOf yX9_shiftedOf]
def wsL_law_r31 : List Cond := [Cond.code yX9_shiftedOf cX9_shiftedOf 3 (some .int), Cond.methodLink RL 85 yX8_leastShift, Cond.instanceMethod yX8_leastShift, Cond.selects RX8 yX8_leastShift yX8_leastShift, Cond.code yX8_leastShift cX8_leastShift 5 (some .int), Cond.fieldLink RX8 190 "HarpPedals" "shiftsAsked" "I", Cond.constant RX8 193 (1073741824), Cond.methodLink RL 88 yX9_leastShift, Cond.instanceMethod yX9_leastShift, Cond.selects RX9 yX9_leastShift yX9_leastShift, Cond.code yX9_leastShift cX9_leastShift 5 (some .int), Cond.fieldLink RX9 255 "HarpPedalsModel" "shiftsAsked" "I", Cond.methodLink RL 89 yX8_free, Cond.instanceMethod yX8_free, Cond.selects RX8 yX8_free yX8_free, Cond.code yX8_free cX8_free 1 (some .int), Cond.methodLink RX8 194 yX3_bestBegin, Cond.instanceMethod yX3_bestBegin, Cond.selects RX3 yX3_bestBegin yX3_bestBegin, Cond.code yX3_bestBegin cX3_bestBegin 2 (some .int), Cond.methodLink RL 92 yX9_free, Cond.instanceMethod yX9_free, Cond.selects RX9 yX9_free yX9_free, Cond.code yX9_free cX9_free 1 (some .int)]
def wsL_law_r32 : List Cond := [Cond.methodLink RX9 258 yX9_freeOf, Cond.instanceMethod yX9_freeOf, Cond.selects RX9 yX9_freeOf yX9_freeOf, Cond.code yX9_freeOf cX9_freeOf 5 (some .int), Cond.methodLink RL 93 yX8_see, Cond.instanceMethod yX8_see, Cond.selects RX8 yX8_see yX8_see, Cond.code yX8_see cX8_see 4 (some .int), Cond.methodLink RX8 197 yX6_add, Cond.instanceMethod yX6_add, Cond.selects RX6 yX6_add yX6_add, Cond.code yX6_add cX6_add 5 (some .boolean), Cond.methodLink RL 97 yX9_see, Cond.instanceMethod yX9_see, Cond.selects RX9 yX9_see yX9_see, Cond.code yX9_see cX9_see 4 (some .int), Cond.constantLong RX9 280 (3), Cond.methodLink RL 98 yX8_forget, Cond.instanceMethod yX8_forget, Cond.selects RX8 yX8_forget yX8_forget, Cond.code yX8_forget cX8_forget 1 (some .int), Cond.methodLink RL 101 yX9_forget, Cond.instanceMethod yX9_forget, Cond.selects RX9 yX9_forget yX9_forget]
def wsL_law_r33 : List Cond := [Cond.code yX9_forget cX9_forget 2 (some .int), Cond.methodLink RL 102 yX8_drawn, Cond.instanceMethod yX8_drawn, Cond.selects RX8 yX8_drawn yX8_drawn, Cond.code yX8_drawn cX8_drawn 4 (some .int), Cond.methodLink RX8 202 yX4_playDrawn, Cond.instanceMethod yX4_playDrawn, Cond.selects RX4 yX4_playDrawn yX4_playDrawn, Cond.code yX4_playDrawn cX4_playDrawn 7 none, Cond.fieldLink RX4 22 "HarpPedals$Player" "seed" "I", Cond.fieldLink RX4 26 "HarpPedals$Player" "setting" "I", Cond.fieldLink RX4 29 "HarpPedals$Player" "chordsPlayed" "I", Cond.fieldLink RX4 32 "HarpPedals$Player" "moves" "I", Cond.methodLink RX4 35 yX0_set, Cond.methodLink RX4 39 yX4_nextDraw, Cond.instanceMethod yX4_nextDraw, Cond.selects RX4 yX4_nextDraw yX4_nextDraw, Cond.code yX4_nextDraw cX4_nextDraw 1 (some .int), Cond.constantLong RX4 57 (1103515245), Cond.constantLong RX4 59 (12345), Cond.constantLong RX4 63 (2147483647), Cond.constant RX4 65 (65536), Cond.methodLink RX4 43 yX4_playChord, Cond.instanceMethod yX4_playChord]
def wsL_law_r34 : List Cond := [Cond.selects RX4 yX4_playChord yX4_playChord, Cond.code yX4_playChord cX4_playChord 6 none, Cond.methodLink RX4 47 yX7_fits, Cond.methodLink RX4 53 yX0_movesBetween, Cond.methodLink RL 105 yX9_drawn, Cond.instanceMethod yX9_drawn, Cond.selects RX9 yX9_drawn yX9_drawn, Cond.code yX9_drawn cX9_drawn 11 (some .int), Cond.constantLong RX9 298 (30), Cond.fieldLink RX9 287 "HarpPedalsModel" "seedNow" "I", Cond.fieldLink RX9 295 "HarpPedalsModel" "drawnMoves" "I", Cond.methodLink RX9 300 yX9_draw, Cond.instanceMethod yX9_draw, Cond.selects RX9 yX9_draw yX9_draw, Cond.code yX9_draw cX9_draw 2 (some .int), Cond.constantLong RX9 285 (1103515245), Cond.constantLong RX9 290 (12345), Cond.constantLong RX9 292 (2147483647), Cond.constant RX9 294 (65536), Cond.methodLink RX9 303 yX9_played, Cond.instanceMethod yX9_played, Cond.selects RX9 yX9_played yX9_played, Cond.code yX9_played cX9_played 9 (some .int), Cond.methodLink RL 106 yX8_image]
def wsL_law_r35 : List Cond := [Cond.instanceMethod yX8_image, Cond.selects RX8 yX8_image yX8_image, Cond.code yX8_image cX8_image 1 (some .int), Cond.methodLink RX8 215 yX6_become, Cond.instanceMethod yX6_become, Cond.selects RX6 yX6_become yX6_become, Cond.code yX6_become cX6_become 2 none, Cond.methodLink RX6 25 arraycopyName, Cond.methodLink RL 109 yX9_image, Cond.instanceMethod yX9_image, Cond.selects RX9 yX9_image yX9_image, Cond.code yX9_image cX9_image 1 (some .int), Cond.fieldLink RX9 306 "HarpPedalsModel" "keptChords" "I", Cond.fieldLink RX9 309 "HarpPedalsModel" "keptBegin" "I", Cond.fieldLink RX9 312 "HarpPedalsModel" "keptSeen" "I", Cond.methodLink RL 110 yX8_restore, Cond.instanceMethod yX8_restore, Cond.selects RX8 yX8_restore yX8_restore, Cond.code yX8_restore cX8_restore 1 (some .int), Cond.methodLink RL 113 yX9_restore, Cond.instanceMethod yX9_restore, Cond.selects RX9 yX9_restore yX9_restore, Cond.code yX9_restore cX9_restore 1 (some .int), Cond.methodLink RL 114 yX8_count]
def wsL_law_r36 : List Cond := [Cond.instanceMethod yX8_count, Cond.selects RX8 yX8_count yX8_count, Cond.code yX8_count cX8_count 2 (some .int), Cond.methodLink RX8 218 yX2_tonesOfAll, Cond.instanceMethod yX2_tonesOfAll, Cond.selects RX2 yX2_tonesOfAll yX2_tonesOfAll, Cond.code yX2_tonesOfAll cX2_tonesOfAll 3 (some .int), Cond.methodLink RL 117 yX9_count, Cond.instanceMethod yX9_count, Cond.selects RX9 yX9_count yX9_count, Cond.code yX9_count cX9_count 2 (some .int), Cond.methodLink RX9 318 yX9_countOf, Cond.instanceMethod yX9_countOf, Cond.selects RX9 yX9_countOf yX9_countOf, Cond.code yX9_countOf cX9_countOf 2 (some .int), Cond.methodLink RX9 315 yX9_tonesAll, Cond.instanceMethod yX9_tonesAll, Cond.selects RX9 yX9_tonesAll yX9_tonesAll, Cond.code yX9_tonesAll cX9_tonesAll 3 (some .int), Cond.methodLink RL 118 yX8_digest, Cond.instanceMethod yX8_digest, Cond.selects RX8 yX8_digest yX8_digest, Cond.code yX8_digest cX8_digest 5 (some .long), Cond.constantLong RX8 226 (1423)]
def wsL_law_r37 : List Cond := [Cond.constantLong RX8 228 (31), Cond.methodLink RX8 230 yX8_chord, Cond.methodLink RX8 233 yX8_plan, Cond.methodLink RX8 239 yX8_count, Cond.methodLink RL 122 yX9_digest, Cond.instanceMethod yX9_digest, Cond.selects RX9 yX9_digest yX9_digest, Cond.code yX9_digest cX9_digest 3 (some .long), Cond.constantLong RX9 327 (1423), Cond.fieldLink RX9 323 "HarpPedalsModel" "hash" "J", Cond.methodLink RX9 329 yX9_say, Cond.instanceMethod yX9_say, Cond.selects RX9 yX9_say yX9_say, Cond.code yX9_say cX9_say 3 none, Cond.constantLong RX9 321 (31)]
def wsL_law : List Cond := (wsL_law_r1 ++ (wsL_law_r2 ++ (wsL_law_r3 ++ (wsL_law_r4 ++ (wsL_law_r5 ++ (wsL_law_r6 ++ (wsL_law_r7 ++ (wsL_law_r8 ++ (wsL_law_r9 ++ (wsL_law_r10 ++ (wsL_law_r11 ++ (wsL_law_r12 ++ (wsL_law_r13 ++ (wsL_law_r14 ++ (wsL_law_r15 ++ (wsL_law_r16 ++ (wsL_law_r17 ++ (wsL_law_r18 ++ (wsL_law_r19 ++ (wsL_law_r20 ++ (wsL_law_r21 ++ (wsL_law_r22 ++ (wsL_law_r23 ++ (wsL_law_r24 ++ (wsL_law_r25 ++ (wsL_law_r26 ++ (wsL_law_r27 ++ (wsL_law_r28 ++ (wsL_law_r29 ++ (wsL_law_r30 ++ (wsL_law_r31 ++ (wsL_law_r32 ++ (wsL_law_r33 ++ (wsL_law_r34 ++ (wsL_law_r35 ++ (wsL_law_r36 ++ wsL_law_r37)))))))))))))))))))))))))))))))))))) ++ wsX80 ++ wsX90 ++ wsX10 ++ wsX50 ++ wsX20 ++ wsX60 ++ wsX70 ++ wsX30 ++ wsX40 ++ wsX00 ++ ([] : List Cond)
theorem inlX0 : ∀ w ∈ wsX00, w ∈ wsL_law := fun _ h => List.mem_append_left _ (List.mem_append_right _ h)
theorem inlX1 : ∀ w ∈ wsX10, w ∈ wsL_law := fun _ h => List.mem_append_left _ (List.mem_append_left _ (List.mem_append_left _ (List.mem_append_left _ (List.mem_append_left _ (List.mem_append_left _ (List.mem_append_left _ (List.mem_append_left _ (List.mem_append_right _ h))))))))
theorem inlX2 : ∀ w ∈ wsX20, w ∈ wsL_law := fun _ h => List.mem_append_left _ (List.mem_append_left _ (List.mem_append_left _ (List.mem_append_left _ (List.mem_append_left _ (List.mem_append_left _ (List.mem_append_right _ h))))))
theorem inlX3 : ∀ w ∈ wsX30, w ∈ wsL_law := fun _ h => List.mem_append_left _ (List.mem_append_left _ (List.mem_append_left _ (List.mem_append_right _ h)))
theorem inlX4 : ∀ w ∈ wsX40, w ∈ wsL_law := fun _ h => List.mem_append_left _ (List.mem_append_left _ (List.mem_append_right _ h))
theorem inlX5 : ∀ w ∈ wsX50, w ∈ wsL_law := fun _ h => List.mem_append_left _ (List.mem_append_left _ (List.mem_append_left _ (List.mem_append_left _ (List.mem_append_left _ (List.mem_append_left _ (List.mem_append_left _ (List.mem_append_right _ h)))))))
theorem inlX6 : ∀ w ∈ wsX60, w ∈ wsL_law := fun _ h => List.mem_append_left _ (List.mem_append_left _ (List.mem_append_left _ (List.mem_append_left _ (List.mem_append_left _ (List.mem_append_right _ h)))))
theorem inlX7 : ∀ w ∈ wsX70, w ∈ wsL_law := fun _ h => List.mem_append_left _ (List.mem_append_left _ (List.mem_append_left _ (List.mem_append_left _ (List.mem_append_right _ h))))
theorem inlX8 : ∀ w ∈ wsX80, w ∈ wsL_law := fun _ h => List.mem_append_left _ (List.mem_append_left _ (List.mem_append_left _ (List.mem_append_left _ (List.mem_append_left _ (List.mem_append_left _ (List.mem_append_left _ (List.mem_append_left _ (List.mem_append_left _ (List.mem_append_left _ (List.mem_append_right _ h))))))))))
theorem inlX9 : ∀ w ∈ wsX90, w ∈ wsL_law := fun _ h => List.mem_append_left _ (List.mem_append_left _ (List.mem_append_left _ (List.mem_append_left _ (List.mem_append_left _ (List.mem_append_left _ (List.mem_append_left _ (List.mem_append_left _ (List.mem_append_left _ (List.mem_append_right _ h)))))))))
theorem inJ6 : ∀ w ∈ wsJ60, w ∈ lw_tbl := by decide +kernel
theorem inJ9 : ∀ w ∈ wsJ90, w ∈ lw_tbl := by decide +kernel
theorem inJ10 : ∀ w ∈ wsJ100, w ∈ lw_tbl := by decide +kernel
theorem inJ7 : ∀ w ∈ wsJ70, w ∈ lw_tbl := by decide +kernel
abbrev vwCl : List vw_C := [(RX0, TX0, 2), (RX1, TX1, 2), (RX2, TX2, 4), (RX3, TX3, 12), (RX4, TX4, 6), (RX5, TX5, 3), (RX6, TX6, 3), (RX7, TX7, 1), (RX8, TX8, 11), (RX9, TX9, 44)]
end
section
/-! the base: coded worlds (numbers by a place, rows by a place), one call rule for all contracts over such a world -/
def upF (F : Nat → Nat → Int32) (k : Nat) (g : Nat → Int32) : Nat → Nat → Int32 := fun j => if j = k then g else F j
theorem upF_s (F : Nat → Nat → Int32) (k : Nat) (g : Nat → Int32) : upF F k g k = g := if_pos rfl
theorem upF_n (F : Nat → Nat → Int32) {k j : Nat} (g : Nat → Int32) (h : j ≠ k) : upF F k g j = F j := if_neg h
/-- a loop: some number of turns is enough -/
def gLN {V : Type} (body : (V → Prop) → V → Prop) : Nat → V → Prop
  | 0, _ => False
  | n + 1, v => body (gLN body n) v
def gL {V : Type} (body : (V → Prop) → V → Prop) (v : V) : Prop := ∃ n, gLN body n v
/-- a loop by the row of its states: from the one at a to the one at e, where it ends -/
theorem gL_for {V : Type} {body : (V → Prop) → V → Prop} (σ : Nat → V) (e : Nat) (hs : ∀ j, j < e → ∀ again : V → Prop, again (σ (j + 1)) → body again (σ j)) (he : ∀ again : V → Prop, body again (σ e)) : gL body (σ 0) := by
  have h : ∀ d j, j + d = e → gLN body (d + 1) (σ j) := by
    intro d
    induction d with
    | zero => intro j hj; rw [show j = e by omega]; exact he _
    | succ d ih => intro j hj; exact hs j (by omega) _ (ih (j + 1) (by omega))
  exact ⟨e + 1, h e 0 (by omega)⟩
/-- a loop by a measure -/
theorem gL_ms {V : Type} {body : (V → Prop) → V → Prop} (Inv : V → Prop) (μ : V → Nat) (hs : ∀ v, Inv v → ∀ again : V → Prop, (∀ v', Inv v' → μ v' < μ v → again v') → body again v) {v : V} (h : Inv v) : gL body v := by
  have hh : ∀ n v, μ v < n → Inv v → gLN body n v := by
    intro n
    induction n with
    | zero => intro v h; omega
    | succ n ih => intro v h1 h2; exact hs v h2 _ (fun v' a b => ih v' (by omega) a)
  exact ⟨μ v + 1, hh _ _ (Nat.lt_succ_self _) h⟩
def gPre (D : va_G) (tys : List (ClassId × FieldType)) (w : va_W) (E : State → Prop) (av : List Value) : Array Value → State → Prop := va_Pc av (fun U => va_P D vwCl w U.heap ∧ va_K D vwCl tys U ∧ E U)
def gB {S : Type} (D : va_G) (Wd : S → va_W) (u : S) (t : State) : Prop := va_P D vwCl (Wd u) t.heap
def gEok (E : State → Prop) (A : Nat → Prop) : Prop := (∀ U U' : State, U.vm = U'.vm → U.heap = U'.heap → E U → E U') ∧ ∀ s U : State, s.WarmedH U.vm → s.heap.size ≤ U.heap.size → (∀ q : Nat, q < s.heap.size → ¬ A q → U.heap[q]? = s.heap[q]?) → E s → E U
theorem gBlind {D : va_G} {tys : List (ClassId × FieldType)} {w : va_W} {E : State → Prop} {A : Nat → Prop} {av : List Value} (hE : gEok E A) : FrameBlind (gPre D tys w E av) := fun a U g mk q => by
  obtain ⟨q0, qP, qK, qE⟩ := q
  exact ⟨q0, qP, va_K.moved (u := U) (U := U.calling g mk a) (Vm.Alike.refl U.vm) qK, hE.1 U _ rfl rfl qE⟩
theorem gPreS {s : State} {H : Heap} {locs : List Loc} {D : va_G} {tys : List (ClassId × FieldType)} {w : va_W} {E : State → Prop} {A : Nat → Prop} {av : List Value} (hE : gEok E A) (h0 : E s) (hK : va_K D vwCl tys s) (hP : va_P D vwCl w H) (hS : va_S A s.heap H locs) : PreS s H (gPre D tys w E av) av :=
  ⟨gBlind hE, fun U hU hW => ⟨rfl, by rw [hU]; exact hP, va_K.moved hW.alike hK, hE.2 s U hW (by rw [hU]; exact hS.1) (fun q h1 h2 => by rw [hU]; exact hS.2.1 q h1 h2) h0⟩⟩
theorem gPreV {s : State} {H : Heap} {locs : List Loc} {D : va_G} {tys : List (ClassId × FieldType)} {w : va_W} {E : State → Prop} {A : Nat → Prop} {b : Nat} {As : List Value} {ci q0 : Nat} {fs : List Value} {C : String} {T : u_T} {N : Nat} (hE : gEok E A) (h0 : E s) (hK : va_K D vwCl tys s) (hP : va_P D vwCl w H) (hS : va_S A s.heap H locs) (hc : vwCl[ci]? = some (C, T, N)) (he : w[q0]? = some (b, .inr (ci, fs))) : PreV s H C b (gPre D tys w E (.ref b :: As)) As :=
  ⟨gBlind hE, va_recv hK hP hc he, (gPreS hE h0 hK hP hS).2⟩
section GW
variable {p : Program} {l : Launch} {e : Env} {R : Room} {s : State} {m : MethodId} {args : Array Value} {below : List Frame} {meth : Method} {c : Code} {H : Heap} {locs : List Loc} {cells slots : Nat} {Q : State → Prop}
variable {cc : ByteArray} {pc : Nat} {ls : Array Slot} {rest st0 : List Value} {D : va_G} {A : Nat → Prop} {a : Nat} {tys : List (ClassId × FieldType)} {w w' : va_W} {H0 : Heap} {av : Array Value}
theorem gCallI {S : Type} {post : Int32 → S → Prop} {Wd : S → va_W} (hr : va_Run p l e R s m args below meth c H locs cells slots 0 0 (F0 m pc ls st0) rest (va_Qi post (gB D Wd) A av) A) (hS : va_S A H0 H locs)
    (kk : ∀ (r : Int32) (u : S) (H1 : Heap) (locs1 : List Loc), va_P D vwCl (Wd u) H1 → va_S A H0 H1 locs1 → post r u → W p l e R s m args below meth c H1 locs1 cells slots Q (F0 m (pc + 3) ls (.int r :: rest))) : W p l e R s m args below meth c H locs cells slots Q (F0 m pc ls st0) :=
  va_calli hr hS (fun _ _ h => h) (fun _ h => h) (fun r u t H1 locs1 ht _ hw hB _ _ hS1 => kk r u H1 locs1 (by rw [← ht]; exact hB) hS1 hw)
theorem gCallL {S : Type} {post : Int64 → S → Prop} {Wd : S → va_W} (hr : va_Run p l e R s m args below meth c H locs cells slots 0 0 (F0 m pc ls st0) rest (va_Ql post (gB D Wd) A av) A) (hS : va_S A H0 H locs)
    (kk : ∀ (r : Int64) (u : S) (H1 : Heap) (locs1 : List Loc), va_P D vwCl (Wd u) H1 → va_S A H0 H1 locs1 → post r u → W p l e R s m args below meth c H1 locs1 cells slots Q (F0 m (pc + 3) ls (.long r :: rest))) : W p l e R s m args below meth c H locs cells slots Q (F0 m pc ls st0) :=
  va_calll hr hS (fun _ _ h => h) (fun _ h => h) (fun r u t H1 locs1 ht _ hw hB _ _ hS1 => kk r u H1 locs1 (by rw [← ht]; exact hB) hS1 hw)
theorem gCallV {S : Type} {post : S → Prop} {Wd : S → va_W} (hr : va_Run p l e R s m args below meth c H locs cells slots 0 0 (F0 m pc ls st0) rest (va_Qv post (gB D Wd) A av) A) (hS : va_S A H0 H locs)
    (kk : ∀ (u : S) (H1 : Heap) (locs1 : List Loc), va_P D vwCl (Wd u) H1 → va_S A H0 H1 locs1 → post u → W p l e R s m args below meth c H1 locs1 cells slots Q (F0 m (pc + 3) ls rest)) : W p l e R s m args below meth c H locs cells slots Q (F0 m pc ls st0) :=
  va_callv hr hS (fun _ _ h => h) (fun _ h => h) (fun u t H1 locs1 ht _ hw hB _ _ hS1 => kk u H1 locs1 (by rw [← ht]; exact hB) hS1 hw)
theorem gPut (hexec : p.tables.exec = Jvm.exec) (hb : c.code = cc) {own ref C : String} {T : u_T} {N ci index : Nat} {Ts : List Cond} (hts : ∀ w ∈ Ts, w.before args s = true) (hin : ∀ w ∈ u_ws C T N, w ∈ Ts) (ty0 : Nat → FieldType) (hty : ∀ k, k < N → parseFieldDescriptor (T k).2.2.1 = some (ty0 k)) (hnm : ∀ a, a < N → ∀ b, b < N → a ≠ b → (T a).2.1 ≠ (T b).2.1) (hown : s.vm.findClass own = some m.cls) (hK : va_K D vwCl tys s) (hP : va_P D vwCl w H) (hD : va_D A w) (hS0 : va_S A H0 H locs) (q0 : Nat) {fs : List Value} (he : w[q0]? = some (a, .inr (ci, fs))) (hc : vwCl[ci]? = some (C, T, N)) (k : Nat) (hk : k < N) (hlink : (Cond.fieldLink own index ref (T k).2.1 (T k).2.2.1).before args s = true) (hsame : ∀ x, s.fieldFound? (T k).1 (T k).2.1 (T k).2.2.1 = some x → s.fieldFound? ref (T k).2.1 (T k).2.2.1 = some x) (hfin : (T k).2.2.2 = false) {ty : FieldType} {v : Value} (hd : parseFieldDescriptor (T k).2.2.1 = some ty) (hn : narrow ty v = v) (hfit : fits ty v = true) (hl : k < fs.length)
    (hdg : decode cc pc = .ok (.putfield index, 3)) (hset : w.set q0 (a, .inr (ci, fs.set k v)) = w') (kk : ∀ (H1 : Heap) (locs1 : List Loc), va_P D vwCl w' H1 → va_S A H0 H1 locs1 → W p l e R s m args below meth c H1 locs1 cells slots Q (F0 m (pc + 3) ls rest)) : W p l e R s m args below meth c H locs cells slots Q (F0 m pc ls (v :: .ref a :: rest)) :=
  va_put hexec hb hts hin ty0 hty hnm hown hK hP hD hS0 q0 he hc k hk hlink hsame hfin hd hn hfit hl hdg (fun H1 l1 h1 _ h3 => kk H1 l1 (by rw [← hset]; exact h1) h3)
theorem gPutN (hexec : p.tables.exec = Jvm.exec) (hb : c.code = cc) {own ref C host : String} {T : u_T} {N ci index : Nat} {Ts : List Cond} (hts : ∀ w ∈ Ts, w.before args s = true) (hin : ∀ w ∈ u_ws C T N, w ∈ Ts) (ty0 : Nat → FieldType) (hty : ∀ k, k < N → parseFieldDescriptor (T k).2.2.1 = some (ty0 k)) (hnm : ∀ a, a < N → ∀ b, b < N → a ≠ b → (T a).2.1 ≠ (T b).2.1) (hown : s.vm.findClass own = some m.cls) (hK : va_K D vwCl tys s) (hP : va_P D vwCl w H) (hD : va_D A w) (hS0 : va_S A H0 H locs) (q0 : Nat) {fs : List Value} (he : w[q0]? = some (a, .inr (ci, fs))) (hc : vwCl[ci]? = some (C, T, N)) (k : Nat) (hk : k < N) (hlink : (Cond.fieldLinkNest own index ref (T k).2.1 (T k).2.2.1 host).before args s = true) (hsame : ∀ x, s.fieldFound? (T k).1 (T k).2.1 (T k).2.2.1 = some x → s.fieldFound? ref (T k).2.1 (T k).2.2.1 = some x) (hfin : (T k).2.2.2 = false) {ty : FieldType} {v : Value} (hd : parseFieldDescriptor (T k).2.2.1 = some ty) (hn : narrow ty v = v) (hfit : fits ty v = true) (hl : k < fs.length)
    (hdg : decode cc pc = .ok (.putfield index, 3)) (hset : w.set q0 (a, .inr (ci, fs.set k v)) = w') (kk : ∀ (H1 : Heap) (locs1 : List Loc), va_P D vwCl w' H1 → va_S A H0 H1 locs1 → W p l e R s m args below meth c H1 locs1 cells slots Q (F0 m (pc + 3) ls rest)) : W p l e R s m args below meth c H locs cells slots Q (F0 m pc ls (v :: .ref a :: rest)) :=
  va_putN hexec hb hts hin ty0 hty hnm hown hK hP hD hS0 q0 he hc k hk hlink hsame hfin hd hn hfit hl hdg (fun H1 l1 h1 _ h3 => kk H1 l1 (by rw [← hset]; exact h1) h3)
theorem gAst (hexec : p.tables.exec = Jvm.exec) (hb : c.code = cc) (hK : va_K D vwCl tys s) (hP : va_P D vwCl w H) (hD : va_D A w) (hS : va_S A H0 H locs) (q0 t0 : Nat) {cA : ClassId} {n : Nat} {f : Nat → Int32} (ha : w[q0]? = some (a, .inl (cA, n, .inl f))) (ht : tys[t0]? = some (cA, .int)) {i : Int32} {x : Int32} (hin : vp_in i n) (hdg : decode cc pc = .ok (.iastore, 1))
    (hset : w.set q0 (a, .inl (cA, n, .inl (upd f i.toNatClampNeg x))) = w') (kk : ∀ (H1 : Heap) (locs1 : List Loc), va_P D vwCl w' H1 → va_S A H0 H1 locs1 → W p l e R s m args below meth c H1 locs1 cells slots Q (F0 m (pc + 1) ls rest)) : W p l e R s m args below meth c H locs cells slots Q (F0 m pc ls (.int x :: .int i :: .ref a :: rest)) :=
  va_iast hexec hb hK hP hD hS q0 t0 ha ht hin hdg (fun H1 l1 h1 _ h3 => kk H1 l1 (by rw [← hset]; exact h1) h3)
theorem gAldA (hexec : p.tables.exec = Jvm.exec) (hb : c.code = cc) (hK : va_K D vwCl tys s) (hP : va_P D vwCl w H) (q0 t0 : Nat) {cA : ClassId} {n : Nat} {f : Nat → Option Nat} (ha : w[q0]? = some (a, .inl (cA, n, .inr (.inr (.inr (.inr f)))))) (ht : tys[t0]? = some (cA, .array .int)) {i : Int32} (hin : vp_in i n) (hdg : decode cc pc = .ok (.aaload, 1)) {z : Nat} (hz : f i.toNatClampNeg = some z)
    (kk : W p l e R s m args below meth c H locs cells slots Q (F0 m (pc + 1) ls (.ref z :: rest))) : W p l e R s m args below meth c H locs cells slots Q (F0 m pc ls (.int i :: .ref a :: rest)) := by
  have hlt : i.toNatClampNeg < n := Nat.not_le.mp fun q => hin (Or.inr q)
  exact W.aald (v := .ref z) (ty := .array .int) hexec hb (hP q0 _ ha) ((hK.2 t0 _ ht).1 n (fun j => va_rf (f j))) rfl (fun q => by cases q) (by show ¬ (i < 0 ∨ (arrV _ _ _).slots.size ≤ _); rw [arrV_size]; exact hin) (by show (arrV _ _ _).slots[_]? = _; rw [arrV_read _ _ hlt, hz]; rfl) rfl rfl hdg kk
theorem gCopy {cc : ByteArray} (hexec : p.tables.exec = Jvm.exec) (hb : c.code = cc) (hml : c.maxLocals = ls.size) {own : String} {index : Nat} (hown : s.vm.findClass own = some m.cls) (hlink : (Cond.methodLink own index arraycopyName).before args s = true) (hnat : (Cond.native arraycopyName).before args s = true) (hstat : (Cond.static arraycopyName).before args s = true) (hini : (Cond.initialized "java/lang/System").before args s = true)
    (hK : va_K D vwCl tys s) (hP : va_P D vwCl w H) (hD : va_D A w) (hS : va_S A H0 H locs) (q0 q1 t0 : Nat) {a0 : Nat} {c0 : ClassId} {n0 n1 : Nat} {f g : Nat → Int32} (ha0 : w[q0]? = some (a0, .inl (c0, n0, .inl f))) (ha1 : w[q1]? = some (a, .inl (c0, n1, .inl g))) (ht0 : tys[t0]? = some (c0, .int))
    {sp dp n : Int32} (h1 : ¬ sp < 0) (h2 : ¬ dp < 0) (h3 : ¬ n < 0) (h4 : sp.toNatClampNeg + n.toNatClampNeg ≤ n0) (h5 : dp.toNatClampNeg + n.toNatClampNeg ≤ n1)
    (hframes : 1 ≤ R.frames) (hlocals : (rest.map fun v => v.category).sum + (nativeFrameWords "java/lang/System" "arraycopy" 5 + 11) ≤ R.locals) (hdg : decode cc pc = .ok (.invokestatic index, 3))
    (hset : w.set q1 (a, .inl (c0, n1, .inl (va_cpy f g sp.toNatClampNeg dp.toNatClampNeg n.toNatClampNeg))) = w')
    (kk : ∀ (H1 : Heap) (locs1 : List Loc), va_P D vwCl w' H1 → va_S A H0 H1 locs1 → W p l e R s m args below meth c H1 locs1 cells slots Q (F0 m (pc + 3) ls rest)) : W p l e R s m args below meth c H locs cells slots Q (F0 m pc ls (.int n :: .int dp :: .ref a :: .int sp :: .ref a0 :: rest)) :=
  va_copyi hexec hb hml hown hlink hnat hstat hini hK hP hD hS q0 q1 t0 t0 ha0 ha1 ht0 ht0 rfl h1 h2 h3 h4 h5 (fun _ _ => rfl) hframes hlocals hdg (fun H1 l1 h1 _ h3 => kk H1 l1 (by rw [← hset]; exact h1) h3)
end GW
theorem gNar {v : Int32} (h : v = 0 ∨ v = 1) : narrow .boolean (.int v) = .int v := by rcases h with rfl | rfl <;> rfl
theorem gMetI {S : Type} {l : Launch} {y : MethodName} {ws ws' : List Cond} {rm : Room} {cc : ByteArray} {maxL : Nat} {D : va_G} {tys : List (ClassId × FieldType)} {w : va_W} {E : State → Prop} {A : Nat → Prop} {av : List Value} {post : Int32 → S → Prop} {Wd : S → va_W} (hy : plainName y.cls = true) (hw : ws = Cond.code y cc maxL (some .int) :: ws') (hav : (lg_sl av).length ≤ maxL)
    (body : ∀ (p : Program) (e : Env) (R : Room) (s : State) (m : MethodId) (args : Array Value) (below : List Frame) (meth : Method) (c : Code) (Q : State → Prop) (ls : Array Slot), R = rm → p.tables.exec = Jvm.exec → c.code = cc → c.maxLocals = maxL → s.vm.findClass y.cls = some m.cls → (∀ w ∈ ws, w.before args s = true) → va_K D vwCl tys s → E s → va_P D vwCl w s.heap → lv_has ls maxL (lv_args 0 av) →
      (∀ (v : Int32) (u : S) (pc : Nat) (ls : Array Slot) (H : Heap) (locs : List Loc), decode cc pc = .ok (.ireturn, 1) → va_P D vwCl (Wd u) H → va_S A s.heap H locs → post v u → W p l e R s m args below meth c H locs 0 0 Q (F0 m pc ls [.int v])) → W p l e R s m args below meth c s.heap [] 0 0 Q (F0 m 0 ls [])) : Met l y ws rm (gPre D tys w E av) (va_Qi post (gB D Wd) A) 0 0 A := by
  refine Met.ofW (cc := cc) (maxL := maxL) (ret := some .int) hy hw ?_
  intro p e s m args below meth c s₁ B hml hv
  obtain ⟨rfl, hP, hK, hE⟩ := hv
  have hr := B.returns
  have hx := B.exec
  have hb := B.bytes
  have hlocks := B.notSynchronized
  have hl := lv_entry av (n := maxL) hav
  rw [lg_entry_eq]
  generalize (lg_sl av ++ List.replicate (maxL - (lg_sl av).length) Slot.unset).toArray = ls at hl ⊢
  exact body p e _ s m _ below meth c _ ls rfl hx hb hml (findClass_of_methodNamed B.named) (atoms_spec (ws := ws) B.pre) hK hE hP hl (fun v u pc ls H locs hdg hP hS hpost => W.iret (v := v) hx hb hr (fun t ht hW => ⟨⟨v, u, rfl, hpost, by unfold gB; rw [ht]; exact hP⟩, hS.F ht⟩) hS.2.2 hdg)
theorem gMetZ {S : Type} {l : Launch} {y : MethodName} {ws ws' : List Cond} {rm : Room} {cc : ByteArray} {maxL : Nat} {D : va_G} {tys : List (ClassId × FieldType)} {w : va_W} {E : State → Prop} {A : Nat → Prop} {av : List Value} {post : Int32 → S → Prop} {Wd : S → va_W} (hy : plainName y.cls = true) (hw : ws = Cond.code y cc maxL (some .boolean) :: ws') (hav : (lg_sl av).length ≤ maxL)
    (body : ∀ (p : Program) (e : Env) (R : Room) (s : State) (m : MethodId) (args : Array Value) (below : List Frame) (meth : Method) (c : Code) (Q : State → Prop) (ls : Array Slot), R = rm → p.tables.exec = Jvm.exec → c.code = cc → c.maxLocals = maxL → s.vm.findClass y.cls = some m.cls → (∀ w ∈ ws, w.before args s = true) → va_K D vwCl tys s → E s → va_P D vwCl w s.heap → lv_has ls maxL (lv_args 0 av) →
      (∀ (v : Int32) (u : S) (pc : Nat) (ls : Array Slot) (H : Heap) (locs : List Loc), decode cc pc = .ok (.ireturn, 1) → va_P D vwCl (Wd u) H → va_S A s.heap H locs → (v = 0 ∨ v = 1) → post v u → W p l e R s m args below meth c H locs 0 0 Q (F0 m pc ls [.int v])) → W p l e R s m args below meth c s.heap [] 0 0 Q (F0 m 0 ls [])) : Met l y ws rm (gPre D tys w E av) (va_Qi post (gB D Wd) A) 0 0 A := by
  refine Met.ofW (cc := cc) (maxL := maxL) (ret := some .boolean) hy hw ?_
  intro p e s m args below meth c s₁ B hml hv
  obtain ⟨rfl, hP, hK, hE⟩ := hv
  have hr := B.returns
  have hx := B.exec
  have hb := B.bytes
  have hlocks := B.notSynchronized
  have hl := lv_entry av (n := maxL) hav
  rw [lg_entry_eq]
  generalize (lg_sl av ++ List.replicate (maxL - (lg_sl av).length) Slot.unset).toArray = ls at hl ⊢
  exact body p e _ s m _ below meth c _ ls rfl hx hb hml (findClass_of_methodNamed B.named) (atoms_spec (ws := ws) B.pre) hK hE hP hl (fun v u pc ls H locs hdg hP hS h01 hpost => W.zret (v := v) hx hb hr (gNar h01) (fun t ht hW => ⟨⟨v, u, rfl, hpost, by unfold gB; rw [ht]; exact hP⟩, hS.F ht⟩) hS.2.2 hdg)
theorem gMetL {S : Type} {l : Launch} {y : MethodName} {ws ws' : List Cond} {rm : Room} {cc : ByteArray} {maxL : Nat} {D : va_G} {tys : List (ClassId × FieldType)} {w : va_W} {E : State → Prop} {A : Nat → Prop} {av : List Value} {post : Int64 → S → Prop} {Wd : S → va_W} (hy : plainName y.cls = true) (hw : ws = Cond.code y cc maxL (some .long) :: ws') (hav : (lg_sl av).length ≤ maxL)
    (body : ∀ (p : Program) (e : Env) (R : Room) (s : State) (m : MethodId) (args : Array Value) (below : List Frame) (meth : Method) (c : Code) (Q : State → Prop) (ls : Array Slot), R = rm → p.tables.exec = Jvm.exec → c.code = cc → c.maxLocals = maxL → s.vm.findClass y.cls = some m.cls → (∀ w ∈ ws, w.before args s = true) → va_K D vwCl tys s → E s → va_P D vwCl w s.heap → lv_has ls maxL (lv_args 0 av) →
      (∀ (v : Int64) (u : S) (pc : Nat) (ls : Array Slot) (H : Heap) (locs : List Loc), decode cc pc = .ok (.lreturn, 1) → va_P D vwCl (Wd u) H → va_S A s.heap H locs → post v u → W p l e R s m args below meth c H locs 0 0 Q (F0 m pc ls [.long v])) → W p l e R s m args below meth c s.heap [] 0 0 Q (F0 m 0 ls [])) : Met l y ws rm (gPre D tys w E av) (va_Ql post (gB D Wd) A) 0 0 A := by
  refine Met.ofW (cc := cc) (maxL := maxL) (ret := some .long) hy hw ?_
  intro p e s m args below meth c s₁ B hml hv
  obtain ⟨rfl, hP, hK, hE⟩ := hv
  have hr := B.returns
  have hx := B.exec
  have hb := B.bytes
  have hlocks := B.notSynchronized
  have hl := lv_entry av (n := maxL) hav
  rw [lg_entry_eq]
  generalize (lg_sl av ++ List.replicate (maxL - (lg_sl av).length) Slot.unset).toArray = ls at hl ⊢
  exact body p e _ s m _ below meth c _ ls rfl hx hb hml (findClass_of_methodNamed B.named) (atoms_spec (ws := ws) B.pre) hK hE hP hl (fun v u pc ls H locs hdg hP hS hpost => W.lret (v := v) hx hb hr (fun t ht hW => ⟨⟨v, u, rfl, hpost, by unfold gB; rw [ht]; exact hP⟩, hS.F ht⟩) hS.2.2 hdg)
theorem gMetV {S : Type} {l : Launch} {y : MethodName} {ws ws' : List Cond} {rm : Room} {cc : ByteArray} {maxL : Nat} {D : va_G} {tys : List (ClassId × FieldType)} {w : va_W} {E : State → Prop} {A : Nat → Prop} {av : List Value} {post : S → Prop} {Wd : S → va_W} (hy : plainName y.cls = true) (hw : ws = Cond.code y cc maxL none :: ws') (hav : (lg_sl av).length ≤ maxL)
    (body : ∀ (p : Program) (e : Env) (R : Room) (s : State) (m : MethodId) (args : Array Value) (below : List Frame) (meth : Method) (c : Code) (Q : State → Prop) (ls : Array Slot), R = rm → p.tables.exec = Jvm.exec → c.code = cc → c.maxLocals = maxL → s.vm.findClass y.cls = some m.cls → (∀ w ∈ ws, w.before args s = true) → va_K D vwCl tys s → E s → va_P D vwCl w s.heap → lv_has ls maxL (lv_args 0 av) →
      (∀ (u : S) (pc : Nat) (ls : Array Slot) (H : Heap) (locs : List Loc), decode cc pc = .ok (.return_, 1) → va_P D vwCl (Wd u) H → va_S A s.heap H locs → post u → W p l e R s m args below meth c H locs 0 0 Q (F0 m pc ls [])) → W p l e R s m args below meth c s.heap [] 0 0 Q (F0 m 0 ls [])) : Met l y ws rm (gPre D tys w E av) (va_Qv post (gB D Wd) A) 0 0 A := by
  refine Met.ofW (cc := cc) (maxL := maxL) (ret := none) hy hw ?_
  intro p e s m args below meth c s₁ B hml hv
  obtain ⟨rfl, hP, hK, hE⟩ := hv
  have hr := B.returns
  have hx := B.exec
  have hb := B.bytes
  have hlocks := B.notSynchronized
  have hl := lv_entry av (n := maxL) hav
  rw [lg_entry_eq]
  generalize (lg_sl av ++ List.replicate (maxL - (lg_sl av).length) Slot.unset).toArray = ls at hl ⊢
  exact body p e _ s m _ below meth c _ ls rfl hx hb hml (findClass_of_methodNamed B.named) (atoms_spec (ws := ws) B.pre) hK hE hP hl (fun u pc ls H locs hdg hP hS hpost => W.vret hx hb hr (fun t ht hW => ⟨⟨u, rfl, hpost, by unfold gB; rw [ht]; exact hP⟩, hS.F ht⟩) hS.2.2 hdg)
end
section
/-! the coded worlds of the class (c) and of the reference (m): printed by wip/whole/worlds.py -/
def clen (k : Nat) : Nat := if k = 14 then 56 else if k < 21 then 8 else if k < 25 then 6 else if k = 26 then 8 else if k = 27 then 8 else 2187
def cE (q : Nat → Nat) (cI cO : ClassId) (I : Nat → Int32) (F : Nat → Nat → Int32) (k : Nat) : va_E := match k with
  | 0 => .inr (8, [.ref (q 1), .ref (q 2), .ref (q 4), .ref (q 5), .ref (q 6), .ref (q 7), .ref (q 8), .ref (q 9), .ref (q 11), .int (I 0), .int (I 1)])
  | 1 => .inr (1, [.ref (q 14), .int (I 2)])
  | 2 => .inr (5, [.ref (q 3), .int (I 3), .int (I 4)])
  | 3 => .inr (2, [.int (I 5), .int (I 6), .ref (q 15), .ref (q 16)])
  | 4 => .inr (2, [.int (I 7), .int (I 8), .ref (q 17), .ref (q 18)])
  | 5 => .inr (2, [.int (I 9), .int (I 10), .ref (q 19), .ref (q 20)])
  | 6 => .inr (6, [.int (I 11), .ref (q 21), .ref (q 22)])
  | 7 => .inr (6, [.int (I 12), .ref (q 23), .ref (q 24)])
  | 8 => .inr (7, [.ref (q 25)])
  | 9 => .inr (3, [.ref (q 8), .ref (q 10), .ref (q 28), .ref (q 29), .ref (q 30), .ref (q 13), .ref (q 26), .ref (q 27), .int (I 13), .int (I 14), .int (I 15), .int (I 16)])
  | 10 => .inr (0, [.int (I 17), .int (I 18)])
  | 11 => .inr (4, [.ref (q 8), .ref (q 12), .int (I 19), .int (I 20), .int (I 21), .int (I 22)])
  | 12 => .inr (0, [.int (I 23), .int (I 24)])
  | 13 => .inl (cO, 8, .inr (.inr (.inr (.inr (fun i => if i < 8 then some (q (31 + i)) else none)))))
  | k => .inl (cI, clen k, .inl (F k))
def cW (q : Nat → Nat) (cI cO : ClassId) (I : Nat → Int32) (F : Nat → Nat → Int32) : va_W := (List.range 39).map (fun k => (q k, cE q cI cO I F k))
def cA (q : Nat → Nat) : Nat → Prop := fun x => ∃ k : Nat, k < 39 ∧ x = q k
def cOk (q : Nat → Nat) : Prop := ∀ i j : Nat, i < 39 → j < 39 → q i = q j → i = j
section
variable {q : Nat → Nat} {cI cO : ClassId} {I I2 : Nat → Int32} {F F2 : Nat → Nat → Int32}
theorem cW_at (k : Nat) (hk : k < 39) : (cW q cI cO I F)[k]? = some (q k, cE q cI cO I F k) := by unfold cW; rw [List.getElem?_map, List.getElem?_range hk]; rfl
theorem cW_set (k : Nat) (hk : k < 39) {e : va_E} (he : e = cE q cI cO I2 F2 k) (ho : ∀ j : Nat, j < 39 → j ≠ k → cE q cI cO I F j = cE q cI cO I2 F2 j) : (cW q cI cO I F).set k (q k, e) = cW q cI cO I2 F2 := by
  apply List.ext_getElem?
  intro j
  rw [List.getElem?_set]
  have hlen : (cW q cI cO I F).length = 39 := by unfold cW; rw [List.length_map, List.length_range]
  by_cases hj : j < 39
  · by_cases hjk : k = j
    · subst hjk
      rw [if_pos rfl, if_pos (by rw [hlen]; exact hj), cW_at k hj, he]
    · rw [if_neg hjk, cW_at j hj, cW_at j hj, ho j hj (fun q => hjk q.symm)]
  · rw [if_neg (by omega), List.getElem?_eq_none (by rw [hlen]; omega), List.getElem?_eq_none (by unfold cW; rw [List.length_map, List.length_range]; omega)]
theorem cD (hq : cOk q) : va_D (cA q) (cW q cI cO I F) := by
  have hlen : (cW q cI cO I F).length = 39 := by unfold cW; rw [List.length_map, List.length_range]
  have hat : ∀ (i : Nat) (x : Nat × va_E), (cW q cI cO I F)[i]? = some x → i < 39 ∧ x.1 = q i := fun i x hx => by
    have hi : i < 39 := by rw [← hlen]; exact (List.getElem?_eq_some_iff.mp hx).1
    rw [cW_at i hi] at hx
    cases hx
    exact ⟨hi, rfl⟩
  refine ⟨fun i j x y hi hj hxy => ?_, fun k x hk => ?_⟩
  · obtain ⟨a1, a2⟩ := hat i x hi
    obtain ⟨b1, b2⟩ := hat j y hj
    exact hq i j a1 b1 (by rw [← a2, ← b2]; exact hxy)
  · obtain ⟨a1, a2⟩ := hat k x hk
    exact ⟨k, a1, a2⟩
theorem cAt0 : (cW q cI cO I F)[0]? = some (q 0, .inr (8, [.ref (q 1), .ref (q 2), .ref (q 4), .ref (q 5), .ref (q 6), .ref (q 7), .ref (q 8), .ref (q 9), .ref (q 11), .int (I 0), .int (I 1)])) := cW_at 0 (by decide)
theorem cAt1 : (cW q cI cO I F)[1]? = some (q 1, .inr (1, [.ref (q 14), .int (I 2)])) := cW_at 1 (by decide)
theorem cAt2 : (cW q cI cO I F)[2]? = some (q 2, .inr (5, [.ref (q 3), .int (I 3), .int (I 4)])) := cW_at 2 (by decide)
theorem cAt3 : (cW q cI cO I F)[3]? = some (q 3, .inr (2, [.int (I 5), .int (I 6), .ref (q 15), .ref (q 16)])) := cW_at 3 (by decide)
theorem cAt4 : (cW q cI cO I F)[4]? = some (q 4, .inr (2, [.int (I 7), .int (I 8), .ref (q 17), .ref (q 18)])) := cW_at 4 (by decide)
theorem cAt5 : (cW q cI cO I F)[5]? = some (q 5, .inr (2, [.int (I 9), .int (I 10), .ref (q 19), .ref (q 20)])) := cW_at 5 (by decide)
theorem cAt6 : (cW q cI cO I F)[6]? = some (q 6, .inr (6, [.int (I 11), .ref (q 21), .ref (q 22)])) := cW_at 6 (by decide)
theorem cAt7 : (cW q cI cO I F)[7]? = some (q 7, .inr (6, [.int (I 12), .ref (q 23), .ref (q 24)])) := cW_at 7 (by decide)
theorem cAt8 : (cW q cI cO I F)[8]? = some (q 8, .inr (7, [.ref (q 25)])) := cW_at 8 (by decide)
theorem cAt9 : (cW q cI cO I F)[9]? = some (q 9, .inr (3, [.ref (q 8), .ref (q 10), .ref (q 28), .ref (q 29), .ref (q 30), .ref (q 13), .ref (q 26), .ref (q 27), .int (I 13), .int (I 14), .int (I 15), .int (I 16)])) := cW_at 9 (by decide)
theorem cAt10 : (cW q cI cO I F)[10]? = some (q 10, .inr (0, [.int (I 17), .int (I 18)])) := cW_at 10 (by decide)
theorem cAt11 : (cW q cI cO I F)[11]? = some (q 11, .inr (4, [.ref (q 8), .ref (q 12), .int (I 19), .int (I 20), .int (I 21), .int (I 22)])) := cW_at 11 (by decide)
theorem cAt12 : (cW q cI cO I F)[12]? = some (q 12, .inr (0, [.int (I 23), .int (I 24)])) := cW_at 12 (by decide)
theorem cE_arr (k : Nat) (h1 : 14 ≤ k) : cE q cI cO I F k = .inl (cI, clen k, .inl (F k)) := by
  unfold cE
  split <;> first | omega | rfl
theorem cAr (k : Nat) (h1 : 14 ≤ k) (hk : k < 39) : (cW q cI cO I F)[k]? = some (q k, .inl (cI, clen k, .inl (F k))) := by rw [cW_at k hk, cE_arr k h1]
theorem cAr14 : (cW q cI cO I F)[14]? = some (q 14, .inl (cI, 56, .inl (F 14))) := cAr 14 (by decide) (by decide)
theorem cAr15 : (cW q cI cO I F)[15]? = some (q 15, .inl (cI, 8, .inl (F 15))) := cAr 15 (by decide) (by decide)
theorem cAr16 : (cW q cI cO I F)[16]? = some (q 16, .inl (cI, 8, .inl (F 16))) := cAr 16 (by decide) (by decide)
theorem cAr17 : (cW q cI cO I F)[17]? = some (q 17, .inl (cI, 8, .inl (F 17))) := cAr 17 (by decide) (by decide)
theorem cAr18 : (cW q cI cO I F)[18]? = some (q 18, .inl (cI, 8, .inl (F 18))) := cAr 18 (by decide) (by decide)
theorem cAr19 : (cW q cI cO I F)[19]? = some (q 19, .inl (cI, 8, .inl (F 19))) := cAr 19 (by decide) (by decide)
theorem cAr20 : (cW q cI cO I F)[20]? = some (q 20, .inl (cI, 8, .inl (F 20))) := cAr 20 (by decide) (by decide)
theorem cAr21 : (cW q cI cO I F)[21]? = some (q 21, .inl (cI, 6, .inl (F 21))) := cAr 21 (by decide) (by decide)
theorem cAr22 : (cW q cI cO I F)[22]? = some (q 22, .inl (cI, 6, .inl (F 22))) := cAr 22 (by decide) (by decide)
theorem cAr23 : (cW q cI cO I F)[23]? = some (q 23, .inl (cI, 6, .inl (F 23))) := cAr 23 (by decide) (by decide)
theorem cAr24 : (cW q cI cO I F)[24]? = some (q 24, .inl (cI, 6, .inl (F 24))) := cAr 24 (by decide) (by decide)
theorem cAr25 : (cW q cI cO I F)[25]? = some (q 25, .inl (cI, 2187, .inl (F 25))) := cAr 25 (by decide) (by decide)
theorem cAr26 : (cW q cI cO I F)[26]? = some (q 26, .inl (cI, 8, .inl (F 26))) := cAr 26 (by decide) (by decide)
theorem cAr27 : (cW q cI cO I F)[27]? = some (q 27, .inl (cI, 8, .inl (F 27))) := cAr 27 (by decide) (by decide)
theorem cAr28 : (cW q cI cO I F)[28]? = some (q 28, .inl (cI, 2187, .inl (F 28))) := cAr 28 (by decide) (by decide)
theorem cAr29 : (cW q cI cO I F)[29]? = some (q 29, .inl (cI, 2187, .inl (F 29))) := cAr 29 (by decide) (by decide)
theorem cAr30 : (cW q cI cO I F)[30]? = some (q 30, .inl (cI, 2187, .inl (F 30))) := cAr 30 (by decide) (by decide)
theorem cAr31 : (cW q cI cO I F)[31]? = some (q 31, .inl (cI, 2187, .inl (F 31))) := cAr 31 (by decide) (by decide)
theorem cAr32 : (cW q cI cO I F)[32]? = some (q 32, .inl (cI, 2187, .inl (F 32))) := cAr 32 (by decide) (by decide)
theorem cAr33 : (cW q cI cO I F)[33]? = some (q 33, .inl (cI, 2187, .inl (F 33))) := cAr 33 (by decide) (by decide)
theorem cAr34 : (cW q cI cO I F)[34]? = some (q 34, .inl (cI, 2187, .inl (F 34))) := cAr 34 (by decide) (by decide)
theorem cAr35 : (cW q cI cO I F)[35]? = some (q 35, .inl (cI, 2187, .inl (F 35))) := cAr 35 (by decide) (by decide)
theorem cAr36 : (cW q cI cO I F)[36]? = some (q 36, .inl (cI, 2187, .inl (F 36))) := cAr 36 (by decide) (by decide)
theorem cAr37 : (cW q cI cO I F)[37]? = some (q 37, .inl (cI, 2187, .inl (F 37))) := cAr 37 (by decide) (by decide)
theorem cAr38 : (cW q cI cO I F)[38]? = some (q 38, .inl (cI, 2187, .inl (F 38))) := cAr 38 (by decide) (by decide)
theorem cE_low (g : Nat → Int32) (k : Nat) (h1 : 14 ≤ k) : ∀ j : Nat, j < 39 → j ≠ k → cE q cI cO I F j = cE q cI cO I (upF F k g) j := by
  intro j hj hne
  by_cases h : 14 ≤ j
  · rw [cE_arr j h, cE_arr j h, upF_n F g hne]
  · have hc : j = 0 ∨ j = 1 ∨ j = 2 ∨ j = 3 ∨ j = 4 ∨ j = 5 ∨ j = 6 ∨ j = 7 ∨ j = 8 ∨ j = 9 ∨ j = 10 ∨ j = 11 ∨ j = 12 ∨ j = 13 := by omega
    rcases hc with rfl | rfl | rfl | rfl | rfl | rfl | rfl | rfl | rfl | rfl | rfl | rfl | rfl | rfl <;> rfl
theorem cSetA (k : Nat) (h1 : 14 ≤ k) (hk : k < 39) (g : Nat → Int32) : (cW q cI cO I F).set k (q k, .inl (cI, clen k, .inl g)) = cW q cI cO I (upF F k g) := cW_set k hk (by rw [cE_arr k h1, upF_s]) (cE_low g k h1)
theorem cSA14 (g : Nat → Int32) : (cW q cI cO I F).set 14 (q 14, .inl (cI, 56, .inl g)) = cW q cI cO I (upF F 14 g) := cSetA 14 (by decide) (by decide) g
theorem cSA15 (g : Nat → Int32) : (cW q cI cO I F).set 15 (q 15, .inl (cI, 8, .inl g)) = cW q cI cO I (upF F 15 g) := cSetA 15 (by decide) (by decide) g
theorem cSA16 (g : Nat → Int32) : (cW q cI cO I F).set 16 (q 16, .inl (cI, 8, .inl g)) = cW q cI cO I (upF F 16 g) := cSetA 16 (by decide) (by decide) g
theorem cSA17 (g : Nat → Int32) : (cW q cI cO I F).set 17 (q 17, .inl (cI, 8, .inl g)) = cW q cI cO I (upF F 17 g) := cSetA 17 (by decide) (by decide) g
theorem cSA18 (g : Nat → Int32) : (cW q cI cO I F).set 18 (q 18, .inl (cI, 8, .inl g)) = cW q cI cO I (upF F 18 g) := cSetA 18 (by decide) (by decide) g
theorem cSA19 (g : Nat → Int32) : (cW q cI cO I F).set 19 (q 19, .inl (cI, 8, .inl g)) = cW q cI cO I (upF F 19 g) := cSetA 19 (by decide) (by decide) g
theorem cSA20 (g : Nat → Int32) : (cW q cI cO I F).set 20 (q 20, .inl (cI, 8, .inl g)) = cW q cI cO I (upF F 20 g) := cSetA 20 (by decide) (by decide) g
theorem cSA21 (g : Nat → Int32) : (cW q cI cO I F).set 21 (q 21, .inl (cI, 6, .inl g)) = cW q cI cO I (upF F 21 g) := cSetA 21 (by decide) (by decide) g
theorem cSA22 (g : Nat → Int32) : (cW q cI cO I F).set 22 (q 22, .inl (cI, 6, .inl g)) = cW q cI cO I (upF F 22 g) := cSetA 22 (by decide) (by decide) g
theorem cSA23 (g : Nat → Int32) : (cW q cI cO I F).set 23 (q 23, .inl (cI, 6, .inl g)) = cW q cI cO I (upF F 23 g) := cSetA 23 (by decide) (by decide) g
theorem cSA24 (g : Nat → Int32) : (cW q cI cO I F).set 24 (q 24, .inl (cI, 6, .inl g)) = cW q cI cO I (upF F 24 g) := cSetA 24 (by decide) (by decide) g
theorem cSA25 (g : Nat → Int32) : (cW q cI cO I F).set 25 (q 25, .inl (cI, 2187, .inl g)) = cW q cI cO I (upF F 25 g) := cSetA 25 (by decide) (by decide) g
theorem cSA26 (g : Nat → Int32) : (cW q cI cO I F).set 26 (q 26, .inl (cI, 8, .inl g)) = cW q cI cO I (upF F 26 g) := cSetA 26 (by decide) (by decide) g
theorem cSA27 (g : Nat → Int32) : (cW q cI cO I F).set 27 (q 27, .inl (cI, 8, .inl g)) = cW q cI cO I (upF F 27 g) := cSetA 27 (by decide) (by decide) g
theorem cSA28 (g : Nat → Int32) : (cW q cI cO I F).set 28 (q 28, .inl (cI, 2187, .inl g)) = cW q cI cO I (upF F 28 g) := cSetA 28 (by decide) (by decide) g
theorem cSA29 (g : Nat → Int32) : (cW q cI cO I F).set 29 (q 29, .inl (cI, 2187, .inl g)) = cW q cI cO I (upF F 29 g) := cSetA 29 (by decide) (by decide) g
theorem cSA30 (g : Nat → Int32) : (cW q cI cO I F).set 30 (q 30, .inl (cI, 2187, .inl g)) = cW q cI cO I (upF F 30 g) := cSetA 30 (by decide) (by decide) g
theorem cSA31 (g : Nat → Int32) : (cW q cI cO I F).set 31 (q 31, .inl (cI, 2187, .inl g)) = cW q cI cO I (upF F 31 g) := cSetA 31 (by decide) (by decide) g
theorem cSA32 (g : Nat → Int32) : (cW q cI cO I F).set 32 (q 32, .inl (cI, 2187, .inl g)) = cW q cI cO I (upF F 32 g) := cSetA 32 (by decide) (by decide) g
theorem cSA33 (g : Nat → Int32) : (cW q cI cO I F).set 33 (q 33, .inl (cI, 2187, .inl g)) = cW q cI cO I (upF F 33 g) := cSetA 33 (by decide) (by decide) g
theorem cSA34 (g : Nat → Int32) : (cW q cI cO I F).set 34 (q 34, .inl (cI, 2187, .inl g)) = cW q cI cO I (upF F 34 g) := cSetA 34 (by decide) (by decide) g
theorem cSA35 (g : Nat → Int32) : (cW q cI cO I F).set 35 (q 35, .inl (cI, 2187, .inl g)) = cW q cI cO I (upF F 35 g) := cSetA 35 (by decide) (by decide) g
theorem cSA36 (g : Nat → Int32) : (cW q cI cO I F).set 36 (q 36, .inl (cI, 2187, .inl g)) = cW q cI cO I (upF F 36 g) := cSetA 36 (by decide) (by decide) g
theorem cSA37 (g : Nat → Int32) : (cW q cI cO I F).set 37 (q 37, .inl (cI, 2187, .inl g)) = cW q cI cO I (upF F 37 g) := cSetA 37 (by decide) (by decide) g
theorem cSA38 (g : Nat → Int32) : (cW q cI cO I F).set 38 (q 38, .inl (cI, 2187, .inl g)) = cW q cI cO I (upF F 38 g) := cSetA 38 (by decide) (by decide) g
theorem cSet0 (v : Int32) : (cW q cI cO I F).set 0 (q 0, .inr (8, [.ref (q 1), .ref (q 2), .ref (q 4), .ref (q 5), .ref (q 6), .ref (q 7), .ref (q 8), .ref (q 9), .ref (q 11), .int (I 0), .int (I 1)].set 9 (.int v))) = cW q cI cO (upd I 0 v) F := cW_set 0 (by decide) rfl (by
  intro j hj hne
  by_cases h : 14 ≤ j
  · rw [cE_arr j h, cE_arr j h]
  · have hc : j = 0 ∨ j = 1 ∨ j = 2 ∨ j = 3 ∨ j = 4 ∨ j = 5 ∨ j = 6 ∨ j = 7 ∨ j = 8 ∨ j = 9 ∨ j = 10 ∨ j = 11 ∨ j = 12 ∨ j = 13 := by omega
    rcases hc with rfl | rfl | rfl | rfl | rfl | rfl | rfl | rfl | rfl | rfl | rfl | rfl | rfl | rfl <;> first | rfl | exact absurd rfl hne)
theorem cSet1 (v : Int32) : (cW q cI cO I F).set 0 (q 0, .inr (8, [.ref (q 1), .ref (q 2), .ref (q 4), .ref (q 5), .ref (q 6), .ref (q 7), .ref (q 8), .ref (q 9), .ref (q 11), .int (I 0), .int (I 1)].set 10 (.int v))) = cW q cI cO (upd I 1 v) F := cW_set 0 (by decide) rfl (by
  intro j hj hne
  by_cases h : 14 ≤ j
  · rw [cE_arr j h, cE_arr j h]
  · have hc : j = 0 ∨ j = 1 ∨ j = 2 ∨ j = 3 ∨ j = 4 ∨ j = 5 ∨ j = 6 ∨ j = 7 ∨ j = 8 ∨ j = 9 ∨ j = 10 ∨ j = 11 ∨ j = 12 ∨ j = 13 := by omega
    rcases hc with rfl | rfl | rfl | rfl | rfl | rfl | rfl | rfl | rfl | rfl | rfl | rfl | rfl | rfl <;> first | rfl | exact absurd rfl hne)
theorem cSet2 (v : Int32) : (cW q cI cO I F).set 1 (q 1, .inr (1, [.ref (q 14), .int (I 2)].set 1 (.int v))) = cW q cI cO (upd I 2 v) F := cW_set 1 (by decide) rfl (by
  intro j hj hne
  by_cases h : 14 ≤ j
  · rw [cE_arr j h, cE_arr j h]
  · have hc : j = 0 ∨ j = 1 ∨ j = 2 ∨ j = 3 ∨ j = 4 ∨ j = 5 ∨ j = 6 ∨ j = 7 ∨ j = 8 ∨ j = 9 ∨ j = 10 ∨ j = 11 ∨ j = 12 ∨ j = 13 := by omega
    rcases hc with rfl | rfl | rfl | rfl | rfl | rfl | rfl | rfl | rfl | rfl | rfl | rfl | rfl | rfl <;> first | rfl | exact absurd rfl hne)
theorem cSet3 (v : Int32) : (cW q cI cO I F).set 2 (q 2, .inr (5, [.ref (q 3), .int (I 3), .int (I 4)].set 1 (.int v))) = cW q cI cO (upd I 3 v) F := cW_set 2 (by decide) rfl (by
  intro j hj hne
  by_cases h : 14 ≤ j
  · rw [cE_arr j h, cE_arr j h]
  · have hc : j = 0 ∨ j = 1 ∨ j = 2 ∨ j = 3 ∨ j = 4 ∨ j = 5 ∨ j = 6 ∨ j = 7 ∨ j = 8 ∨ j = 9 ∨ j = 10 ∨ j = 11 ∨ j = 12 ∨ j = 13 := by omega
    rcases hc with rfl | rfl | rfl | rfl | rfl | rfl | rfl | rfl | rfl | rfl | rfl | rfl | rfl | rfl <;> first | rfl | exact absurd rfl hne)
theorem cSet4 (v : Int32) : (cW q cI cO I F).set 2 (q 2, .inr (5, [.ref (q 3), .int (I 3), .int (I 4)].set 2 (.int v))) = cW q cI cO (upd I 4 v) F := cW_set 2 (by decide) rfl (by
  intro j hj hne
  by_cases h : 14 ≤ j
  · rw [cE_arr j h, cE_arr j h]
  · have hc : j = 0 ∨ j = 1 ∨ j = 2 ∨ j = 3 ∨ j = 4 ∨ j = 5 ∨ j = 6 ∨ j = 7 ∨ j = 8 ∨ j = 9 ∨ j = 10 ∨ j = 11 ∨ j = 12 ∨ j = 13 := by omega
    rcases hc with rfl | rfl | rfl | rfl | rfl | rfl | rfl | rfl | rfl | rfl | rfl | rfl | rfl | rfl <;> first | rfl | exact absurd rfl hne)
theorem cSet5 (v : Int32) : (cW q cI cO I F).set 3 (q 3, .inr (2, [.int (I 5), .int (I 6), .ref (q 15), .ref (q 16)].set 0 (.int v))) = cW q cI cO (upd I 5 v) F := cW_set 3 (by decide) rfl (by
  intro j hj hne
  by_cases h : 14 ≤ j
  · rw [cE_arr j h, cE_arr j h]
  · have hc : j = 0 ∨ j = 1 ∨ j = 2 ∨ j = 3 ∨ j = 4 ∨ j = 5 ∨ j = 6 ∨ j = 7 ∨ j = 8 ∨ j = 9 ∨ j = 10 ∨ j = 11 ∨ j = 12 ∨ j = 13 := by omega
    rcases hc with rfl | rfl | rfl | rfl | rfl | rfl | rfl | rfl | rfl | rfl | rfl | rfl | rfl | rfl <;> first | rfl | exact absurd rfl hne)
theorem cSet6 (v : Int32) : (cW q cI cO I F).set 3 (q 3, .inr (2, [.int (I 5), .int (I 6), .ref (q 15), .ref (q 16)].set 1 (.int v))) = cW q cI cO (upd I 6 v) F := cW_set 3 (by decide) rfl (by
  intro j hj hne
  by_cases h : 14 ≤ j
  · rw [cE_arr j h, cE_arr j h]
  · have hc : j = 0 ∨ j = 1 ∨ j = 2 ∨ j = 3 ∨ j = 4 ∨ j = 5 ∨ j = 6 ∨ j = 7 ∨ j = 8 ∨ j = 9 ∨ j = 10 ∨ j = 11 ∨ j = 12 ∨ j = 13 := by omega
    rcases hc with rfl | rfl | rfl | rfl | rfl | rfl | rfl | rfl | rfl | rfl | rfl | rfl | rfl | rfl <;> first | rfl | exact absurd rfl hne)
theorem cSet7 (v : Int32) : (cW q cI cO I F).set 4 (q 4, .inr (2, [.int (I 7), .int (I 8), .ref (q 17), .ref (q 18)].set 0 (.int v))) = cW q cI cO (upd I 7 v) F := cW_set 4 (by decide) rfl (by
  intro j hj hne
  by_cases h : 14 ≤ j
  · rw [cE_arr j h, cE_arr j h]
  · have hc : j = 0 ∨ j = 1 ∨ j = 2 ∨ j = 3 ∨ j = 4 ∨ j = 5 ∨ j = 6 ∨ j = 7 ∨ j = 8 ∨ j = 9 ∨ j = 10 ∨ j = 11 ∨ j = 12 ∨ j = 13 := by omega
    rcases hc with rfl | rfl | rfl | rfl | rfl | rfl | rfl | rfl | rfl | rfl | rfl | rfl | rfl | rfl <;> first | rfl | exact absurd rfl hne)
theorem cSet8 (v : Int32) : (cW q cI cO I F).set 4 (q 4, .inr (2, [.int (I 7), .int (I 8), .ref (q 17), .ref (q 18)].set 1 (.int v))) = cW q cI cO (upd I 8 v) F := cW_set 4 (by decide) rfl (by
  intro j hj hne
  by_cases h : 14 ≤ j
  · rw [cE_arr j h, cE_arr j h]
  · have hc : j = 0 ∨ j = 1 ∨ j = 2 ∨ j = 3 ∨ j = 4 ∨ j = 5 ∨ j = 6 ∨ j = 7 ∨ j = 8 ∨ j = 9 ∨ j = 10 ∨ j = 11 ∨ j = 12 ∨ j = 13 := by omega
    rcases hc with rfl | rfl | rfl | rfl | rfl | rfl | rfl | rfl | rfl | rfl | rfl | rfl | rfl | rfl <;> first | rfl | exact absurd rfl hne)
theorem cSet9 (v : Int32) : (cW q cI cO I F).set 5 (q 5, .inr (2, [.int (I 9), .int (I 10), .ref (q 19), .ref (q 20)].set 0 (.int v))) = cW q cI cO (upd I 9 v) F := cW_set 5 (by decide) rfl (by
  intro j hj hne
  by_cases h : 14 ≤ j
  · rw [cE_arr j h, cE_arr j h]
  · have hc : j = 0 ∨ j = 1 ∨ j = 2 ∨ j = 3 ∨ j = 4 ∨ j = 5 ∨ j = 6 ∨ j = 7 ∨ j = 8 ∨ j = 9 ∨ j = 10 ∨ j = 11 ∨ j = 12 ∨ j = 13 := by omega
    rcases hc with rfl | rfl | rfl | rfl | rfl | rfl | rfl | rfl | rfl | rfl | rfl | rfl | rfl | rfl <;> first | rfl | exact absurd rfl hne)
theorem cSet10 (v : Int32) : (cW q cI cO I F).set 5 (q 5, .inr (2, [.int (I 9), .int (I 10), .ref (q 19), .ref (q 20)].set 1 (.int v))) = cW q cI cO (upd I 10 v) F := cW_set 5 (by decide) rfl (by
  intro j hj hne
  by_cases h : 14 ≤ j
  · rw [cE_arr j h, cE_arr j h]
  · have hc : j = 0 ∨ j = 1 ∨ j = 2 ∨ j = 3 ∨ j = 4 ∨ j = 5 ∨ j = 6 ∨ j = 7 ∨ j = 8 ∨ j = 9 ∨ j = 10 ∨ j = 11 ∨ j = 12 ∨ j = 13 := by omega
    rcases hc with rfl | rfl | rfl | rfl | rfl | rfl | rfl | rfl | rfl | rfl | rfl | rfl | rfl | rfl <;> first | rfl | exact absurd rfl hne)
theorem cSet11 (v : Int32) : (cW q cI cO I F).set 6 (q 6, .inr (6, [.int (I 11), .ref (q 21), .ref (q 22)].set 0 (.int v))) = cW q cI cO (upd I 11 v) F := cW_set 6 (by decide) rfl (by
  intro j hj hne
  by_cases h : 14 ≤ j
  · rw [cE_arr j h, cE_arr j h]
  · have hc : j = 0 ∨ j = 1 ∨ j = 2 ∨ j = 3 ∨ j = 4 ∨ j = 5 ∨ j = 6 ∨ j = 7 ∨ j = 8 ∨ j = 9 ∨ j = 10 ∨ j = 11 ∨ j = 12 ∨ j = 13 := by omega
    rcases hc with rfl | rfl | rfl | rfl | rfl | rfl | rfl | rfl | rfl | rfl | rfl | rfl | rfl | rfl <;> first | rfl | exact absurd rfl hne)
theorem cSet12 (v : Int32) : (cW q cI cO I F).set 7 (q 7, .inr (6, [.int (I 12), .ref (q 23), .ref (q 24)].set 0 (.int v))) = cW q cI cO (upd I 12 v) F := cW_set 7 (by decide) rfl (by
  intro j hj hne
  by_cases h : 14 ≤ j
  · rw [cE_arr j h, cE_arr j h]
  · have hc : j = 0 ∨ j = 1 ∨ j = 2 ∨ j = 3 ∨ j = 4 ∨ j = 5 ∨ j = 6 ∨ j = 7 ∨ j = 8 ∨ j = 9 ∨ j = 10 ∨ j = 11 ∨ j = 12 ∨ j = 13 := by omega
    rcases hc with rfl | rfl | rfl | rfl | rfl | rfl | rfl | rfl | rfl | rfl | rfl | rfl | rfl | rfl <;> first | rfl | exact absurd rfl hne)
theorem cSet13 (v : Int32) : (cW q cI cO I F).set 9 (q 9, .inr (3, [.ref (q 8), .ref (q 10), .ref (q 28), .ref (q 29), .ref (q 30), .ref (q 13), .ref (q 26), .ref (q 27), .int (I 13), .int (I 14), .int (I 15), .int (I 16)].set 8 (.int v))) = cW q cI cO (upd I 13 v) F := cW_set 9 (by decide) rfl (by
  intro j hj hne
  by_cases h : 14 ≤ j
  · rw [cE_arr j h, cE_arr j h]
  · have hc : j = 0 ∨ j = 1 ∨ j = 2 ∨ j = 3 ∨ j = 4 ∨ j = 5 ∨ j = 6 ∨ j = 7 ∨ j = 8 ∨ j = 9 ∨ j = 10 ∨ j = 11 ∨ j = 12 ∨ j = 13 := by omega
    rcases hc with rfl | rfl | rfl | rfl | rfl | rfl | rfl | rfl | rfl | rfl | rfl | rfl | rfl | rfl <;> first | rfl | exact absurd rfl hne)
theorem cSet14 (v : Int32) : (cW q cI cO I F).set 9 (q 9, .inr (3, [.ref (q 8), .ref (q 10), .ref (q 28), .ref (q 29), .ref (q 30), .ref (q 13), .ref (q 26), .ref (q 27), .int (I 13), .int (I 14), .int (I 15), .int (I 16)].set 9 (.int v))) = cW q cI cO (upd I 14 v) F := cW_set 9 (by decide) rfl (by
  intro j hj hne
  by_cases h : 14 ≤ j
  · rw [cE_arr j h, cE_arr j h]
  · have hc : j = 0 ∨ j = 1 ∨ j = 2 ∨ j = 3 ∨ j = 4 ∨ j = 5 ∨ j = 6 ∨ j = 7 ∨ j = 8 ∨ j = 9 ∨ j = 10 ∨ j = 11 ∨ j = 12 ∨ j = 13 := by omega
    rcases hc with rfl | rfl | rfl | rfl | rfl | rfl | rfl | rfl | rfl | rfl | rfl | rfl | rfl | rfl <;> first | rfl | exact absurd rfl hne)
theorem cSet15 (v : Int32) : (cW q cI cO I F).set 9 (q 9, .inr (3, [.ref (q 8), .ref (q 10), .ref (q 28), .ref (q 29), .ref (q 30), .ref (q 13), .ref (q 26), .ref (q 27), .int (I 13), .int (I 14), .int (I 15), .int (I 16)].set 10 (.int v))) = cW q cI cO (upd I 15 v) F := cW_set 9 (by decide) rfl (by
  intro j hj hne
  by_cases h : 14 ≤ j
  · rw [cE_arr j h, cE_arr j h]
  · have hc : j = 0 ∨ j = 1 ∨ j = 2 ∨ j = 3 ∨ j = 4 ∨ j = 5 ∨ j = 6 ∨ j = 7 ∨ j = 8 ∨ j = 9 ∨ j = 10 ∨ j = 11 ∨ j = 12 ∨ j = 13 := by omega
    rcases hc with rfl | rfl | rfl | rfl | rfl | rfl | rfl | rfl | rfl | rfl | rfl | rfl | rfl | rfl <;> first | rfl | exact absurd rfl hne)
theorem cSet16 (v : Int32) : (cW q cI cO I F).set 9 (q 9, .inr (3, [.ref (q 8), .ref (q 10), .ref (q 28), .ref (q 29), .ref (q 30), .ref (q 13), .ref (q 26), .ref (q 27), .int (I 13), .int (I 14), .int (I 15), .int (I 16)].set 11 (.int v))) = cW q cI cO (upd I 16 v) F := cW_set 9 (by decide) rfl (by
  intro j hj hne
  by_cases h : 14 ≤ j
  · rw [cE_arr j h, cE_arr j h]
  · have hc : j = 0 ∨ j = 1 ∨ j = 2 ∨ j = 3 ∨ j = 4 ∨ j = 5 ∨ j = 6 ∨ j = 7 ∨ j = 8 ∨ j = 9 ∨ j = 10 ∨ j = 11 ∨ j = 12 ∨ j = 13 := by omega
    rcases hc with rfl | rfl | rfl | rfl | rfl | rfl | rfl | rfl | rfl | rfl | rfl | rfl | rfl | rfl <;> first | rfl | exact absurd rfl hne)
theorem cSet17 (v : Int32) : (cW q cI cO I F).set 10 (q 10, .inr (0, [.int (I 17), .int (I 18)].set 0 (.int v))) = cW q cI cO (upd I 17 v) F := cW_set 10 (by decide) rfl (by
  intro j hj hne
  by_cases h : 14 ≤ j
  · rw [cE_arr j h, cE_arr j h]
  · have hc : j = 0 ∨ j = 1 ∨ j = 2 ∨ j = 3 ∨ j = 4 ∨ j = 5 ∨ j = 6 ∨ j = 7 ∨ j = 8 ∨ j = 9 ∨ j = 10 ∨ j = 11 ∨ j = 12 ∨ j = 13 := by omega
    rcases hc with rfl | rfl | rfl | rfl | rfl | rfl | rfl | rfl | rfl | rfl | rfl | rfl | rfl | rfl <;> first | rfl | exact absurd rfl hne)
theorem cSet18 (v : Int32) : (cW q cI cO I F).set 10 (q 10, .inr (0, [.int (I 17), .int (I 18)].set 1 (.int v))) = cW q cI cO (upd I 18 v) F := cW_set 10 (by decide) rfl (by
  intro j hj hne
  by_cases h : 14 ≤ j
  · rw [cE_arr j h, cE_arr j h]
  · have hc : j = 0 ∨ j = 1 ∨ j = 2 ∨ j = 3 ∨ j = 4 ∨ j = 5 ∨ j = 6 ∨ j = 7 ∨ j = 8 ∨ j = 9 ∨ j = 10 ∨ j = 11 ∨ j = 12 ∨ j = 13 := by omega
    rcases hc with rfl | rfl | rfl | rfl | rfl | rfl | rfl | rfl | rfl | rfl | rfl | rfl | rfl | rfl <;> first | rfl | exact absurd rfl hne)
theorem cSet19 (v : Int32) : (cW q cI cO I F).set 11 (q 11, .inr (4, [.ref (q 8), .ref (q 12), .int (I 19), .int (I 20), .int (I 21), .int (I 22)].set 2 (.int v))) = cW q cI cO (upd I 19 v) F := cW_set 11 (by decide) rfl (by
  intro j hj hne
  by_cases h : 14 ≤ j
  · rw [cE_arr j h, cE_arr j h]
  · have hc : j = 0 ∨ j = 1 ∨ j = 2 ∨ j = 3 ∨ j = 4 ∨ j = 5 ∨ j = 6 ∨ j = 7 ∨ j = 8 ∨ j = 9 ∨ j = 10 ∨ j = 11 ∨ j = 12 ∨ j = 13 := by omega
    rcases hc with rfl | rfl | rfl | rfl | rfl | rfl | rfl | rfl | rfl | rfl | rfl | rfl | rfl | rfl <;> first | rfl | exact absurd rfl hne)
theorem cSet20 (v : Int32) : (cW q cI cO I F).set 11 (q 11, .inr (4, [.ref (q 8), .ref (q 12), .int (I 19), .int (I 20), .int (I 21), .int (I 22)].set 3 (.int v))) = cW q cI cO (upd I 20 v) F := cW_set 11 (by decide) rfl (by
  intro j hj hne
  by_cases h : 14 ≤ j
  · rw [cE_arr j h, cE_arr j h]
  · have hc : j = 0 ∨ j = 1 ∨ j = 2 ∨ j = 3 ∨ j = 4 ∨ j = 5 ∨ j = 6 ∨ j = 7 ∨ j = 8 ∨ j = 9 ∨ j = 10 ∨ j = 11 ∨ j = 12 ∨ j = 13 := by omega
    rcases hc with rfl | rfl | rfl | rfl | rfl | rfl | rfl | rfl | rfl | rfl | rfl | rfl | rfl | rfl <;> first | rfl | exact absurd rfl hne)
theorem cSet21 (v : Int32) : (cW q cI cO I F).set 11 (q 11, .inr (4, [.ref (q 8), .ref (q 12), .int (I 19), .int (I 20), .int (I 21), .int (I 22)].set 4 (.int v))) = cW q cI cO (upd I 21 v) F := cW_set 11 (by decide) rfl (by
  intro j hj hne
  by_cases h : 14 ≤ j
  · rw [cE_arr j h, cE_arr j h]
  · have hc : j = 0 ∨ j = 1 ∨ j = 2 ∨ j = 3 ∨ j = 4 ∨ j = 5 ∨ j = 6 ∨ j = 7 ∨ j = 8 ∨ j = 9 ∨ j = 10 ∨ j = 11 ∨ j = 12 ∨ j = 13 := by omega
    rcases hc with rfl | rfl | rfl | rfl | rfl | rfl | rfl | rfl | rfl | rfl | rfl | rfl | rfl | rfl <;> first | rfl | exact absurd rfl hne)
theorem cSet22 (v : Int32) : (cW q cI cO I F).set 11 (q 11, .inr (4, [.ref (q 8), .ref (q 12), .int (I 19), .int (I 20), .int (I 21), .int (I 22)].set 5 (.int v))) = cW q cI cO (upd I 22 v) F := cW_set 11 (by decide) rfl (by
  intro j hj hne
  by_cases h : 14 ≤ j
  · rw [cE_arr j h, cE_arr j h]
  · have hc : j = 0 ∨ j = 1 ∨ j = 2 ∨ j = 3 ∨ j = 4 ∨ j = 5 ∨ j = 6 ∨ j = 7 ∨ j = 8 ∨ j = 9 ∨ j = 10 ∨ j = 11 ∨ j = 12 ∨ j = 13 := by omega
    rcases hc with rfl | rfl | rfl | rfl | rfl | rfl | rfl | rfl | rfl | rfl | rfl | rfl | rfl | rfl <;> first | rfl | exact absurd rfl hne)
theorem cSet23 (v : Int32) : (cW q cI cO I F).set 12 (q 12, .inr (0, [.int (I 23), .int (I 24)].set 0 (.int v))) = cW q cI cO (upd I 23 v) F := cW_set 12 (by decide) rfl (by
  intro j hj hne
  by_cases h : 14 ≤ j
  · rw [cE_arr j h, cE_arr j h]
  · have hc : j = 0 ∨ j = 1 ∨ j = 2 ∨ j = 3 ∨ j = 4 ∨ j = 5 ∨ j = 6 ∨ j = 7 ∨ j = 8 ∨ j = 9 ∨ j = 10 ∨ j = 11 ∨ j = 12 ∨ j = 13 := by omega
    rcases hc with rfl | rfl | rfl | rfl | rfl | rfl | rfl | rfl | rfl | rfl | rfl | rfl | rfl | rfl <;> first | rfl | exact absurd rfl hne)
theorem cSet24 (v : Int32) : (cW q cI cO I F).set 12 (q 12, .inr (0, [.int (I 23), .int (I 24)].set 1 (.int v))) = cW q cI cO (upd I 24 v) F := cW_set 12 (by decide) rfl (by
  intro j hj hne
  by_cases h : 14 ≤ j
  · rw [cE_arr j h, cE_arr j h]
  · have hc : j = 0 ∨ j = 1 ∨ j = 2 ∨ j = 3 ∨ j = 4 ∨ j = 5 ∨ j = 6 ∨ j = 7 ∨ j = 8 ∨ j = 9 ∨ j = 10 ∨ j = 11 ∨ j = 12 ∨ j = 13 := by omega
    rcases hc with rfl | rfl | rfl | rfl | rfl | rfl | rfl | rfl | rfl | rfl | rfl | rfl | rfl | rfl <;> first | rfl | exact absurd rfl hne)
end
def mlen (k : Nat) : Nat := if k = 1 then 7 else if k = 2 then 7 else if k = 3 then 15309 else if k = 4 then 63 else if k = 5 then 63 else if k = 6 then 63 else if k = 7 then 63 else if k = 8 then 63 else if k = 9 then 63 else if k = 10 then 137781 else if k = 11 then 56 else if k = 16 then 17496 else if k = 17 then 17496 else if k = 18 then 17496 else if k = 19 then 17496 else if k = 22 then 18 else if k = 25 then 18 else 8
def mE (q : Nat → Nat) (cI cO : ClassId) (I : Nat → Int32) (F : Nat → Nat → Int32) (h : Int64) (k : Nat) : va_E := match k with
  | 0 => .inr (9, [.ref (q 1), .ref (q 2), .ref (q 3), .ref (q 4), .ref (q 5), .ref (q 6), .ref (q 7), .ref (q 8), .ref (q 9), .ref (q 10), .ref (q 11), .int (I 0), .int (I 1), .int (I 2), .ref (q 12), .ref (q 13), .int (I 3), .int (I 4), .int (I 5), .ref (q 14), .ref (q 15), .int (I 6), .ref (q 16), .ref (q 17), .ref (q 18), .ref (q 19), .int (I 7), .int (I 8), .int (I 9), .ref (q 20), .ref (q 21), .int (I 10), .int (I 11), .ref (q 22), .int (I 12), .int (I 13), .int (I 14), .int (I 15), .int (I 16), .int (I 17), .ref (q 23), .ref (q 24), .ref (q 25), .long h])
  | k => .inl (cI, mlen k, .inl (F k))
def mW (q : Nat → Nat) (cI cO : ClassId) (I : Nat → Int32) (F : Nat → Nat → Int32) (h : Int64) : va_W := (List.range 26).map (fun k => (q k, mE q cI cO I F h k))
def mA (q : Nat → Nat) : Nat → Prop := fun x => ∃ k : Nat, k < 26 ∧ x = q k
def mOk (q : Nat → Nat) : Prop := ∀ i j : Nat, i < 26 → j < 26 → q i = q j → i = j
section
variable {q : Nat → Nat} {cI cO : ClassId} {I I2 : Nat → Int32} {F F2 : Nat → Nat → Int32} {h h2 : Int64}
theorem mW_at (k : Nat) (hk : k < 26) : (mW q cI cO I F h)[k]? = some (q k, mE q cI cO I F h k) := by unfold mW; rw [List.getElem?_map, List.getElem?_range hk]; rfl
theorem mW_set (k : Nat) (hk : k < 26) {e : va_E} (he : e = mE q cI cO I2 F2 h2 k) (ho : ∀ j : Nat, j < 26 → j ≠ k → mE q cI cO I F h j = mE q cI cO I2 F2 h2 j) : (mW q cI cO I F h).set k (q k, e) = mW q cI cO I2 F2 h2 := by
  apply List.ext_getElem?
  intro j
  rw [List.getElem?_set]
  have hlen : (mW q cI cO I F h).length = 26 := by unfold mW; rw [List.length_map, List.length_range]
  by_cases hj : j < 26
  · by_cases hjk : k = j
    · subst hjk
      rw [if_pos rfl, if_pos (by rw [hlen]; exact hj), mW_at k hj, he]
    · rw [if_neg hjk, mW_at j hj, mW_at j hj, ho j hj (fun q => hjk q.symm)]
  · rw [if_neg (by omega), List.getElem?_eq_none (by rw [hlen]; omega), List.getElem?_eq_none (by unfold mW; rw [List.length_map, List.length_range]; omega)]
theorem mD (hq : mOk q) : va_D (mA q) (mW q cI cO I F h) := by
  have hlen : (mW q cI cO I F h).length = 26 := by unfold mW; rw [List.length_map, List.length_range]
  have hat : ∀ (i : Nat) (x : Nat × va_E), (mW q cI cO I F h)[i]? = some x → i < 26 ∧ x.1 = q i := fun i x hx => by
    have hi : i < 26 := by rw [← hlen]; exact (List.getElem?_eq_some_iff.mp hx).1
    rw [mW_at i hi] at hx
    cases hx
    exact ⟨hi, rfl⟩
  refine ⟨fun i j x y hi hj hxy => ?_, fun k x hk => ?_⟩
  · obtain ⟨a1, a2⟩ := hat i x hi
    obtain ⟨b1, b2⟩ := hat j y hj
    exact hq i j a1 b1 (by rw [← a2, ← b2]; exact hxy)
  · obtain ⟨a1, a2⟩ := hat k x hk
    exact ⟨k, a1, a2⟩
theorem mAt0 : (mW q cI cO I F h)[0]? = some (q 0, .inr (9, [.ref (q 1), .ref (q 2), .ref (q 3), .ref (q 4), .ref (q 5), .ref (q 6), .ref (q 7), .ref (q 8), .ref (q 9), .ref (q 10), .ref (q 11), .int (I 0), .int (I 1), .int (I 2), .ref (q 12), .ref (q 13), .int (I 3), .int (I 4), .int (I 5), .ref (q 14), .ref (q 15), .int (I 6), .ref (q 16), .ref (q 17), .ref (q 18), .ref (q 19), .int (I 7), .int (I 8), .int (I 9), .ref (q 20), .ref (q 21), .int (I 10), .int (I 11), .ref (q 22), .int (I 12), .int (I 13), .int (I 14), .int (I 15), .int (I 16), .int (I 17), .ref (q 23), .ref (q 24), .ref (q 25), .long h])) := mW_at 0 (by decide)
theorem mE_arr (k : Nat) (h1 : 1 ≤ k) : mE q cI cO I F h k = .inl (cI, mlen k, .inl (F k)) := by
  unfold mE
  split <;> first | omega | rfl
theorem mAr (k : Nat) (h1 : 1 ≤ k) (hk : k < 26) : (mW q cI cO I F h)[k]? = some (q k, .inl (cI, mlen k, .inl (F k))) := by rw [mW_at k hk, mE_arr k h1]
theorem mAr1 : (mW q cI cO I F h)[1]? = some (q 1, .inl (cI, 7, .inl (F 1))) := mAr 1 (by decide) (by decide)
theorem mAr2 : (mW q cI cO I F h)[2]? = some (q 2, .inl (cI, 7, .inl (F 2))) := mAr 2 (by decide) (by decide)
theorem mAr3 : (mW q cI cO I F h)[3]? = some (q 3, .inl (cI, 15309, .inl (F 3))) := mAr 3 (by decide) (by decide)
theorem mAr4 : (mW q cI cO I F h)[4]? = some (q 4, .inl (cI, 63, .inl (F 4))) := mAr 4 (by decide) (by decide)
theorem mAr5 : (mW q cI cO I F h)[5]? = some (q 5, .inl (cI, 63, .inl (F 5))) := mAr 5 (by decide) (by decide)
theorem mAr6 : (mW q cI cO I F h)[6]? = some (q 6, .inl (cI, 63, .inl (F 6))) := mAr 6 (by decide) (by decide)
theorem mAr7 : (mW q cI cO I F h)[7]? = some (q 7, .inl (cI, 63, .inl (F 7))) := mAr 7 (by decide) (by decide)
theorem mAr8 : (mW q cI cO I F h)[8]? = some (q 8, .inl (cI, 63, .inl (F 8))) := mAr 8 (by decide) (by decide)
theorem mAr9 : (mW q cI cO I F h)[9]? = some (q 9, .inl (cI, 63, .inl (F 9))) := mAr 9 (by decide) (by decide)
theorem mAr10 : (mW q cI cO I F h)[10]? = some (q 10, .inl (cI, 137781, .inl (F 10))) := mAr 10 (by decide) (by decide)
theorem mAr11 : (mW q cI cO I F h)[11]? = some (q 11, .inl (cI, 56, .inl (F 11))) := mAr 11 (by decide) (by decide)
theorem mAr12 : (mW q cI cO I F h)[12]? = some (q 12, .inl (cI, 8, .inl (F 12))) := mAr 12 (by decide) (by decide)
theorem mAr13 : (mW q cI cO I F h)[13]? = some (q 13, .inl (cI, 8, .inl (F 13))) := mAr 13 (by decide) (by decide)
theorem mAr14 : (mW q cI cO I F h)[14]? = some (q 14, .inl (cI, 8, .inl (F 14))) := mAr 14 (by decide) (by decide)
theorem mAr15 : (mW q cI cO I F h)[15]? = some (q 15, .inl (cI, 8, .inl (F 15))) := mAr 15 (by decide) (by decide)
theorem mAr16 : (mW q cI cO I F h)[16]? = some (q 16, .inl (cI, 17496, .inl (F 16))) := mAr 16 (by decide) (by decide)
theorem mAr17 : (mW q cI cO I F h)[17]? = some (q 17, .inl (cI, 17496, .inl (F 17))) := mAr 17 (by decide) (by decide)
theorem mAr18 : (mW q cI cO I F h)[18]? = some (q 18, .inl (cI, 17496, .inl (F 18))) := mAr 18 (by decide) (by decide)
theorem mAr19 : (mW q cI cO I F h)[19]? = some (q 19, .inl (cI, 17496, .inl (F 19))) := mAr 19 (by decide) (by decide)
theorem mAr20 : (mW q cI cO I F h)[20]? = some (q 20, .inl (cI, 8, .inl (F 20))) := mAr 20 (by decide) (by decide)
theorem mAr21 : (mW q cI cO I F h)[21]? = some (q 21, .inl (cI, 8, .inl (F 21))) := mAr 21 (by decide) (by decide)
theorem mAr22 : (mW q cI cO I F h)[22]? = some (q 22, .inl (cI, 18, .inl (F 22))) := mAr 22 (by decide) (by decide)
theorem mAr23 : (mW q cI cO I F h)[23]? = some (q 23, .inl (cI, 8, .inl (F 23))) := mAr 23 (by decide) (by decide)
theorem mAr24 : (mW q cI cO I F h)[24]? = some (q 24, .inl (cI, 8, .inl (F 24))) := mAr 24 (by decide) (by decide)
theorem mAr25 : (mW q cI cO I F h)[25]? = some (q 25, .inl (cI, 18, .inl (F 25))) := mAr 25 (by decide) (by decide)
theorem mE_low (g : Nat → Int32) (k : Nat) (h1 : 1 ≤ k) : ∀ j : Nat, j < 26 → j ≠ k → mE q cI cO I F h j = mE q cI cO I (upF F k g) h j := by
  intro j hj hne
  by_cases h : 1 ≤ j
  · rw [mE_arr j h, mE_arr j h, upF_n F g hne]
  · have hc : j = 0 := by omega
    subst hc; rfl
theorem mSetA (k : Nat) (h1 : 1 ≤ k) (hk : k < 26) (g : Nat → Int32) : (mW q cI cO I F h).set k (q k, .inl (cI, mlen k, .inl g)) = mW q cI cO I (upF F k g) h := mW_set k hk (by rw [mE_arr k h1, upF_s]) (mE_low g k h1)
theorem mSA1 (g : Nat → Int32) : (mW q cI cO I F h).set 1 (q 1, .inl (cI, 7, .inl g)) = mW q cI cO I (upF F 1 g) h := mSetA 1 (by decide) (by decide) g
theorem mSA2 (g : Nat → Int32) : (mW q cI cO I F h).set 2 (q 2, .inl (cI, 7, .inl g)) = mW q cI cO I (upF F 2 g) h := mSetA 2 (by decide) (by decide) g
theorem mSA3 (g : Nat → Int32) : (mW q cI cO I F h).set 3 (q 3, .inl (cI, 15309, .inl g)) = mW q cI cO I (upF F 3 g) h := mSetA 3 (by decide) (by decide) g
theorem mSA4 (g : Nat → Int32) : (mW q cI cO I F h).set 4 (q 4, .inl (cI, 63, .inl g)) = mW q cI cO I (upF F 4 g) h := mSetA 4 (by decide) (by decide) g
theorem mSA5 (g : Nat → Int32) : (mW q cI cO I F h).set 5 (q 5, .inl (cI, 63, .inl g)) = mW q cI cO I (upF F 5 g) h := mSetA 5 (by decide) (by decide) g
theorem mSA6 (g : Nat → Int32) : (mW q cI cO I F h).set 6 (q 6, .inl (cI, 63, .inl g)) = mW q cI cO I (upF F 6 g) h := mSetA 6 (by decide) (by decide) g
theorem mSA7 (g : Nat → Int32) : (mW q cI cO I F h).set 7 (q 7, .inl (cI, 63, .inl g)) = mW q cI cO I (upF F 7 g) h := mSetA 7 (by decide) (by decide) g
theorem mSA8 (g : Nat → Int32) : (mW q cI cO I F h).set 8 (q 8, .inl (cI, 63, .inl g)) = mW q cI cO I (upF F 8 g) h := mSetA 8 (by decide) (by decide) g
theorem mSA9 (g : Nat → Int32) : (mW q cI cO I F h).set 9 (q 9, .inl (cI, 63, .inl g)) = mW q cI cO I (upF F 9 g) h := mSetA 9 (by decide) (by decide) g
theorem mSA10 (g : Nat → Int32) : (mW q cI cO I F h).set 10 (q 10, .inl (cI, 137781, .inl g)) = mW q cI cO I (upF F 10 g) h := mSetA 10 (by decide) (by decide) g
theorem mSA11 (g : Nat → Int32) : (mW q cI cO I F h).set 11 (q 11, .inl (cI, 56, .inl g)) = mW q cI cO I (upF F 11 g) h := mSetA 11 (by decide) (by decide) g
theorem mSA12 (g : Nat → Int32) : (mW q cI cO I F h).set 12 (q 12, .inl (cI, 8, .inl g)) = mW q cI cO I (upF F 12 g) h := mSetA 12 (by decide) (by decide) g
theorem mSA13 (g : Nat → Int32) : (mW q cI cO I F h).set 13 (q 13, .inl (cI, 8, .inl g)) = mW q cI cO I (upF F 13 g) h := mSetA 13 (by decide) (by decide) g
theorem mSA14 (g : Nat → Int32) : (mW q cI cO I F h).set 14 (q 14, .inl (cI, 8, .inl g)) = mW q cI cO I (upF F 14 g) h := mSetA 14 (by decide) (by decide) g
theorem mSA15 (g : Nat → Int32) : (mW q cI cO I F h).set 15 (q 15, .inl (cI, 8, .inl g)) = mW q cI cO I (upF F 15 g) h := mSetA 15 (by decide) (by decide) g
theorem mSA16 (g : Nat → Int32) : (mW q cI cO I F h).set 16 (q 16, .inl (cI, 17496, .inl g)) = mW q cI cO I (upF F 16 g) h := mSetA 16 (by decide) (by decide) g
theorem mSA17 (g : Nat → Int32) : (mW q cI cO I F h).set 17 (q 17, .inl (cI, 17496, .inl g)) = mW q cI cO I (upF F 17 g) h := mSetA 17 (by decide) (by decide) g
theorem mSA18 (g : Nat → Int32) : (mW q cI cO I F h).set 18 (q 18, .inl (cI, 17496, .inl g)) = mW q cI cO I (upF F 18 g) h := mSetA 18 (by decide) (by decide) g
theorem mSA19 (g : Nat → Int32) : (mW q cI cO I F h).set 19 (q 19, .inl (cI, 17496, .inl g)) = mW q cI cO I (upF F 19 g) h := mSetA 19 (by decide) (by decide) g
theorem mSA20 (g : Nat → Int32) : (mW q cI cO I F h).set 20 (q 20, .inl (cI, 8, .inl g)) = mW q cI cO I (upF F 20 g) h := mSetA 20 (by decide) (by decide) g
theorem mSA21 (g : Nat → Int32) : (mW q cI cO I F h).set 21 (q 21, .inl (cI, 8, .inl g)) = mW q cI cO I (upF F 21 g) h := mSetA 21 (by decide) (by decide) g
theorem mSA22 (g : Nat → Int32) : (mW q cI cO I F h).set 22 (q 22, .inl (cI, 18, .inl g)) = mW q cI cO I (upF F 22 g) h := mSetA 22 (by decide) (by decide) g
theorem mSA23 (g : Nat → Int32) : (mW q cI cO I F h).set 23 (q 23, .inl (cI, 8, .inl g)) = mW q cI cO I (upF F 23 g) h := mSetA 23 (by decide) (by decide) g
theorem mSA24 (g : Nat → Int32) : (mW q cI cO I F h).set 24 (q 24, .inl (cI, 8, .inl g)) = mW q cI cO I (upF F 24 g) h := mSetA 24 (by decide) (by decide) g
theorem mSA25 (g : Nat → Int32) : (mW q cI cO I F h).set 25 (q 25, .inl (cI, 18, .inl g)) = mW q cI cO I (upF F 25 g) h := mSetA 25 (by decide) (by decide) g
theorem mSet0 (v : Int32) : (mW q cI cO I F h).set 0 (q 0, .inr (9, [.ref (q 1), .ref (q 2), .ref (q 3), .ref (q 4), .ref (q 5), .ref (q 6), .ref (q 7), .ref (q 8), .ref (q 9), .ref (q 10), .ref (q 11), .int (I 0), .int (I 1), .int (I 2), .ref (q 12), .ref (q 13), .int (I 3), .int (I 4), .int (I 5), .ref (q 14), .ref (q 15), .int (I 6), .ref (q 16), .ref (q 17), .ref (q 18), .ref (q 19), .int (I 7), .int (I 8), .int (I 9), .ref (q 20), .ref (q 21), .int (I 10), .int (I 11), .ref (q 22), .int (I 12), .int (I 13), .int (I 14), .int (I 15), .int (I 16), .int (I 17), .ref (q 23), .ref (q 24), .ref (q 25), .long h].set 11 (.int v))) = mW q cI cO (upd I 0 v) F h := mW_set 0 (by decide) rfl (by
  intro j hj hne
  by_cases h : 1 ≤ j
  · rw [mE_arr j h, mE_arr j h]
  · have hc : j = 0 := by omega
    exact absurd hc hne)
theorem mSet1 (v : Int32) : (mW q cI cO I F h).set 0 (q 0, .inr (9, [.ref (q 1), .ref (q 2), .ref (q 3), .ref (q 4), .ref (q 5), .ref (q 6), .ref (q 7), .ref (q 8), .ref (q 9), .ref (q 10), .ref (q 11), .int (I 0), .int (I 1), .int (I 2), .ref (q 12), .ref (q 13), .int (I 3), .int (I 4), .int (I 5), .ref (q 14), .ref (q 15), .int (I 6), .ref (q 16), .ref (q 17), .ref (q 18), .ref (q 19), .int (I 7), .int (I 8), .int (I 9), .ref (q 20), .ref (q 21), .int (I 10), .int (I 11), .ref (q 22), .int (I 12), .int (I 13), .int (I 14), .int (I 15), .int (I 16), .int (I 17), .ref (q 23), .ref (q 24), .ref (q 25), .long h].set 12 (.int v))) = mW q cI cO (upd I 1 v) F h := mW_set 0 (by decide) rfl (by
  intro j hj hne
  by_cases h : 1 ≤ j
  · rw [mE_arr j h, mE_arr j h]
  · have hc : j = 0 := by omega
    exact absurd hc hne)
theorem mSet2 (v : Int32) : (mW q cI cO I F h).set 0 (q 0, .inr (9, [.ref (q 1), .ref (q 2), .ref (q 3), .ref (q 4), .ref (q 5), .ref (q 6), .ref (q 7), .ref (q 8), .ref (q 9), .ref (q 10), .ref (q 11), .int (I 0), .int (I 1), .int (I 2), .ref (q 12), .ref (q 13), .int (I 3), .int (I 4), .int (I 5), .ref (q 14), .ref (q 15), .int (I 6), .ref (q 16), .ref (q 17), .ref (q 18), .ref (q 19), .int (I 7), .int (I 8), .int (I 9), .ref (q 20), .ref (q 21), .int (I 10), .int (I 11), .ref (q 22), .int (I 12), .int (I 13), .int (I 14), .int (I 15), .int (I 16), .int (I 17), .ref (q 23), .ref (q 24), .ref (q 25), .long h].set 13 (.int v))) = mW q cI cO (upd I 2 v) F h := mW_set 0 (by decide) rfl (by
  intro j hj hne
  by_cases h : 1 ≤ j
  · rw [mE_arr j h, mE_arr j h]
  · have hc : j = 0 := by omega
    exact absurd hc hne)
theorem mSet3 (v : Int32) : (mW q cI cO I F h).set 0 (q 0, .inr (9, [.ref (q 1), .ref (q 2), .ref (q 3), .ref (q 4), .ref (q 5), .ref (q 6), .ref (q 7), .ref (q 8), .ref (q 9), .ref (q 10), .ref (q 11), .int (I 0), .int (I 1), .int (I 2), .ref (q 12), .ref (q 13), .int (I 3), .int (I 4), .int (I 5), .ref (q 14), .ref (q 15), .int (I 6), .ref (q 16), .ref (q 17), .ref (q 18), .ref (q 19), .int (I 7), .int (I 8), .int (I 9), .ref (q 20), .ref (q 21), .int (I 10), .int (I 11), .ref (q 22), .int (I 12), .int (I 13), .int (I 14), .int (I 15), .int (I 16), .int (I 17), .ref (q 23), .ref (q 24), .ref (q 25), .long h].set 16 (.int v))) = mW q cI cO (upd I 3 v) F h := mW_set 0 (by decide) rfl (by
  intro j hj hne
  by_cases h : 1 ≤ j
  · rw [mE_arr j h, mE_arr j h]
  · have hc : j = 0 := by omega
    exact absurd hc hne)
theorem mSet4 (v : Int32) : (mW q cI cO I F h).set 0 (q 0, .inr (9, [.ref (q 1), .ref (q 2), .ref (q 3), .ref (q 4), .ref (q 5), .ref (q 6), .ref (q 7), .ref (q 8), .ref (q 9), .ref (q 10), .ref (q 11), .int (I 0), .int (I 1), .int (I 2), .ref (q 12), .ref (q 13), .int (I 3), .int (I 4), .int (I 5), .ref (q 14), .ref (q 15), .int (I 6), .ref (q 16), .ref (q 17), .ref (q 18), .ref (q 19), .int (I 7), .int (I 8), .int (I 9), .ref (q 20), .ref (q 21), .int (I 10), .int (I 11), .ref (q 22), .int (I 12), .int (I 13), .int (I 14), .int (I 15), .int (I 16), .int (I 17), .ref (q 23), .ref (q 24), .ref (q 25), .long h].set 17 (.int v))) = mW q cI cO (upd I 4 v) F h := mW_set 0 (by decide) rfl (by
  intro j hj hne
  by_cases h : 1 ≤ j
  · rw [mE_arr j h, mE_arr j h]
  · have hc : j = 0 := by omega
    exact absurd hc hne)
theorem mSet5 (v : Int32) : (mW q cI cO I F h).set 0 (q 0, .inr (9, [.ref (q 1), .ref (q 2), .ref (q 3), .ref (q 4), .ref (q 5), .ref (q 6), .ref (q 7), .ref (q 8), .ref (q 9), .ref (q 10), .ref (q 11), .int (I 0), .int (I 1), .int (I 2), .ref (q 12), .ref (q 13), .int (I 3), .int (I 4), .int (I 5), .ref (q 14), .ref (q 15), .int (I 6), .ref (q 16), .ref (q 17), .ref (q 18), .ref (q 19), .int (I 7), .int (I 8), .int (I 9), .ref (q 20), .ref (q 21), .int (I 10), .int (I 11), .ref (q 22), .int (I 12), .int (I 13), .int (I 14), .int (I 15), .int (I 16), .int (I 17), .ref (q 23), .ref (q 24), .ref (q 25), .long h].set 18 (.int v))) = mW q cI cO (upd I 5 v) F h := mW_set 0 (by decide) rfl (by
  intro j hj hne
  by_cases h : 1 ≤ j
  · rw [mE_arr j h, mE_arr j h]
  · have hc : j = 0 := by omega
    exact absurd hc hne)
theorem mSet6 (v : Int32) : (mW q cI cO I F h).set 0 (q 0, .inr (9, [.ref (q 1), .ref (q 2), .ref (q 3), .ref (q 4), .ref (q 5), .ref (q 6), .ref (q 7), .ref (q 8), .ref (q 9), .ref (q 10), .ref (q 11), .int (I 0), .int (I 1), .int (I 2), .ref (q 12), .ref (q 13), .int (I 3), .int (I 4), .int (I 5), .ref (q 14), .ref (q 15), .int (I 6), .ref (q 16), .ref (q 17), .ref (q 18), .ref (q 19), .int (I 7), .int (I 8), .int (I 9), .ref (q 20), .ref (q 21), .int (I 10), .int (I 11), .ref (q 22), .int (I 12), .int (I 13), .int (I 14), .int (I 15), .int (I 16), .int (I 17), .ref (q 23), .ref (q 24), .ref (q 25), .long h].set 21 (.int v))) = mW q cI cO (upd I 6 v) F h := mW_set 0 (by decide) rfl (by
  intro j hj hne
  by_cases h : 1 ≤ j
  · rw [mE_arr j h, mE_arr j h]
  · have hc : j = 0 := by omega
    exact absurd hc hne)
theorem mSet7 (v : Int32) : (mW q cI cO I F h).set 0 (q 0, .inr (9, [.ref (q 1), .ref (q 2), .ref (q 3), .ref (q 4), .ref (q 5), .ref (q 6), .ref (q 7), .ref (q 8), .ref (q 9), .ref (q 10), .ref (q 11), .int (I 0), .int (I 1), .int (I 2), .ref (q 12), .ref (q 13), .int (I 3), .int (I 4), .int (I 5), .ref (q 14), .ref (q 15), .int (I 6), .ref (q 16), .ref (q 17), .ref (q 18), .ref (q 19), .int (I 7), .int (I 8), .int (I 9), .ref (q 20), .ref (q 21), .int (I 10), .int (I 11), .ref (q 22), .int (I 12), .int (I 13), .int (I 14), .int (I 15), .int (I 16), .int (I 17), .ref (q 23), .ref (q 24), .ref (q 25), .long h].set 26 (.int v))) = mW q cI cO (upd I 7 v) F h := mW_set 0 (by decide) rfl (by
  intro j hj hne
  by_cases h : 1 ≤ j
  · rw [mE_arr j h, mE_arr j h]
  · have hc : j = 0 := by omega
    exact absurd hc hne)
theorem mSet8 (v : Int32) : (mW q cI cO I F h).set 0 (q 0, .inr (9, [.ref (q 1), .ref (q 2), .ref (q 3), .ref (q 4), .ref (q 5), .ref (q 6), .ref (q 7), .ref (q 8), .ref (q 9), .ref (q 10), .ref (q 11), .int (I 0), .int (I 1), .int (I 2), .ref (q 12), .ref (q 13), .int (I 3), .int (I 4), .int (I 5), .ref (q 14), .ref (q 15), .int (I 6), .ref (q 16), .ref (q 17), .ref (q 18), .ref (q 19), .int (I 7), .int (I 8), .int (I 9), .ref (q 20), .ref (q 21), .int (I 10), .int (I 11), .ref (q 22), .int (I 12), .int (I 13), .int (I 14), .int (I 15), .int (I 16), .int (I 17), .ref (q 23), .ref (q 24), .ref (q 25), .long h].set 27 (.int v))) = mW q cI cO (upd I 8 v) F h := mW_set 0 (by decide) rfl (by
  intro j hj hne
  by_cases h : 1 ≤ j
  · rw [mE_arr j h, mE_arr j h]
  · have hc : j = 0 := by omega
    exact absurd hc hne)
theorem mSet9 (v : Int32) : (mW q cI cO I F h).set 0 (q 0, .inr (9, [.ref (q 1), .ref (q 2), .ref (q 3), .ref (q 4), .ref (q 5), .ref (q 6), .ref (q 7), .ref (q 8), .ref (q 9), .ref (q 10), .ref (q 11), .int (I 0), .int (I 1), .int (I 2), .ref (q 12), .ref (q 13), .int (I 3), .int (I 4), .int (I 5), .ref (q 14), .ref (q 15), .int (I 6), .ref (q 16), .ref (q 17), .ref (q 18), .ref (q 19), .int (I 7), .int (I 8), .int (I 9), .ref (q 20), .ref (q 21), .int (I 10), .int (I 11), .ref (q 22), .int (I 12), .int (I 13), .int (I 14), .int (I 15), .int (I 16), .int (I 17), .ref (q 23), .ref (q 24), .ref (q 25), .long h].set 28 (.int v))) = mW q cI cO (upd I 9 v) F h := mW_set 0 (by decide) rfl (by
  intro j hj hne
  by_cases h : 1 ≤ j
  · rw [mE_arr j h, mE_arr j h]
  · have hc : j = 0 := by omega
    exact absurd hc hne)
theorem mSet10 (v : Int32) : (mW q cI cO I F h).set 0 (q 0, .inr (9, [.ref (q 1), .ref (q 2), .ref (q 3), .ref (q 4), .ref (q 5), .ref (q 6), .ref (q 7), .ref (q 8), .ref (q 9), .ref (q 10), .ref (q 11), .int (I 0), .int (I 1), .int (I 2), .ref (q 12), .ref (q 13), .int (I 3), .int (I 4), .int (I 5), .ref (q 14), .ref (q 15), .int (I 6), .ref (q 16), .ref (q 17), .ref (q 18), .ref (q 19), .int (I 7), .int (I 8), .int (I 9), .ref (q 20), .ref (q 21), .int (I 10), .int (I 11), .ref (q 22), .int (I 12), .int (I 13), .int (I 14), .int (I 15), .int (I 16), .int (I 17), .ref (q 23), .ref (q 24), .ref (q 25), .long h].set 31 (.int v))) = mW q cI cO (upd I 10 v) F h := mW_set 0 (by decide) rfl (by
  intro j hj hne
  by_cases h : 1 ≤ j
  · rw [mE_arr j h, mE_arr j h]
  · have hc : j = 0 := by omega
    exact absurd hc hne)
theorem mSet11 (v : Int32) : (mW q cI cO I F h).set 0 (q 0, .inr (9, [.ref (q 1), .ref (q 2), .ref (q 3), .ref (q 4), .ref (q 5), .ref (q 6), .ref (q 7), .ref (q 8), .ref (q 9), .ref (q 10), .ref (q 11), .int (I 0), .int (I 1), .int (I 2), .ref (q 12), .ref (q 13), .int (I 3), .int (I 4), .int (I 5), .ref (q 14), .ref (q 15), .int (I 6), .ref (q 16), .ref (q 17), .ref (q 18), .ref (q 19), .int (I 7), .int (I 8), .int (I 9), .ref (q 20), .ref (q 21), .int (I 10), .int (I 11), .ref (q 22), .int (I 12), .int (I 13), .int (I 14), .int (I 15), .int (I 16), .int (I 17), .ref (q 23), .ref (q 24), .ref (q 25), .long h].set 32 (.int v))) = mW q cI cO (upd I 11 v) F h := mW_set 0 (by decide) rfl (by
  intro j hj hne
  by_cases h : 1 ≤ j
  · rw [mE_arr j h, mE_arr j h]
  · have hc : j = 0 := by omega
    exact absurd hc hne)
theorem mSet12 (v : Int32) : (mW q cI cO I F h).set 0 (q 0, .inr (9, [.ref (q 1), .ref (q 2), .ref (q 3), .ref (q 4), .ref (q 5), .ref (q 6), .ref (q 7), .ref (q 8), .ref (q 9), .ref (q 10), .ref (q 11), .int (I 0), .int (I 1), .int (I 2), .ref (q 12), .ref (q 13), .int (I 3), .int (I 4), .int (I 5), .ref (q 14), .ref (q 15), .int (I 6), .ref (q 16), .ref (q 17), .ref (q 18), .ref (q 19), .int (I 7), .int (I 8), .int (I 9), .ref (q 20), .ref (q 21), .int (I 10), .int (I 11), .ref (q 22), .int (I 12), .int (I 13), .int (I 14), .int (I 15), .int (I 16), .int (I 17), .ref (q 23), .ref (q 24), .ref (q 25), .long h].set 34 (.int v))) = mW q cI cO (upd I 12 v) F h := mW_set 0 (by decide) rfl (by
  intro j hj hne
  by_cases h : 1 ≤ j
  · rw [mE_arr j h, mE_arr j h]
  · have hc : j = 0 := by omega
    exact absurd hc hne)
theorem mSet13 (v : Int32) : (mW q cI cO I F h).set 0 (q 0, .inr (9, [.ref (q 1), .ref (q 2), .ref (q 3), .ref (q 4), .ref (q 5), .ref (q 6), .ref (q 7), .ref (q 8), .ref (q 9), .ref (q 10), .ref (q 11), .int (I 0), .int (I 1), .int (I 2), .ref (q 12), .ref (q 13), .int (I 3), .int (I 4), .int (I 5), .ref (q 14), .ref (q 15), .int (I 6), .ref (q 16), .ref (q 17), .ref (q 18), .ref (q 19), .int (I 7), .int (I 8), .int (I 9), .ref (q 20), .ref (q 21), .int (I 10), .int (I 11), .ref (q 22), .int (I 12), .int (I 13), .int (I 14), .int (I 15), .int (I 16), .int (I 17), .ref (q 23), .ref (q 24), .ref (q 25), .long h].set 35 (.int v))) = mW q cI cO (upd I 13 v) F h := mW_set 0 (by decide) rfl (by
  intro j hj hne
  by_cases h : 1 ≤ j
  · rw [mE_arr j h, mE_arr j h]
  · have hc : j = 0 := by omega
    exact absurd hc hne)
theorem mSet14 (v : Int32) : (mW q cI cO I F h).set 0 (q 0, .inr (9, [.ref (q 1), .ref (q 2), .ref (q 3), .ref (q 4), .ref (q 5), .ref (q 6), .ref (q 7), .ref (q 8), .ref (q 9), .ref (q 10), .ref (q 11), .int (I 0), .int (I 1), .int (I 2), .ref (q 12), .ref (q 13), .int (I 3), .int (I 4), .int (I 5), .ref (q 14), .ref (q 15), .int (I 6), .ref (q 16), .ref (q 17), .ref (q 18), .ref (q 19), .int (I 7), .int (I 8), .int (I 9), .ref (q 20), .ref (q 21), .int (I 10), .int (I 11), .ref (q 22), .int (I 12), .int (I 13), .int (I 14), .int (I 15), .int (I 16), .int (I 17), .ref (q 23), .ref (q 24), .ref (q 25), .long h].set 36 (.int v))) = mW q cI cO (upd I 14 v) F h := mW_set 0 (by decide) rfl (by
  intro j hj hne
  by_cases h : 1 ≤ j
  · rw [mE_arr j h, mE_arr j h]
  · have hc : j = 0 := by omega
    exact absurd hc hne)
theorem mSet15 (v : Int32) : (mW q cI cO I F h).set 0 (q 0, .inr (9, [.ref (q 1), .ref (q 2), .ref (q 3), .ref (q 4), .ref (q 5), .ref (q 6), .ref (q 7), .ref (q 8), .ref (q 9), .ref (q 10), .ref (q 11), .int (I 0), .int (I 1), .int (I 2), .ref (q 12), .ref (q 13), .int (I 3), .int (I 4), .int (I 5), .ref (q 14), .ref (q 15), .int (I 6), .ref (q 16), .ref (q 17), .ref (q 18), .ref (q 19), .int (I 7), .int (I 8), .int (I 9), .ref (q 20), .ref (q 21), .int (I 10), .int (I 11), .ref (q 22), .int (I 12), .int (I 13), .int (I 14), .int (I 15), .int (I 16), .int (I 17), .ref (q 23), .ref (q 24), .ref (q 25), .long h].set 37 (.int v))) = mW q cI cO (upd I 15 v) F h := mW_set 0 (by decide) rfl (by
  intro j hj hne
  by_cases h : 1 ≤ j
  · rw [mE_arr j h, mE_arr j h]
  · have hc : j = 0 := by omega
    exact absurd hc hne)
theorem mSet16 (v : Int32) : (mW q cI cO I F h).set 0 (q 0, .inr (9, [.ref (q 1), .ref (q 2), .ref (q 3), .ref (q 4), .ref (q 5), .ref (q 6), .ref (q 7), .ref (q 8), .ref (q 9), .ref (q 10), .ref (q 11), .int (I 0), .int (I 1), .int (I 2), .ref (q 12), .ref (q 13), .int (I 3), .int (I 4), .int (I 5), .ref (q 14), .ref (q 15), .int (I 6), .ref (q 16), .ref (q 17), .ref (q 18), .ref (q 19), .int (I 7), .int (I 8), .int (I 9), .ref (q 20), .ref (q 21), .int (I 10), .int (I 11), .ref (q 22), .int (I 12), .int (I 13), .int (I 14), .int (I 15), .int (I 16), .int (I 17), .ref (q 23), .ref (q 24), .ref (q 25), .long h].set 38 (.int v))) = mW q cI cO (upd I 16 v) F h := mW_set 0 (by decide) rfl (by
  intro j hj hne
  by_cases h : 1 ≤ j
  · rw [mE_arr j h, mE_arr j h]
  · have hc : j = 0 := by omega
    exact absurd hc hne)
theorem mSet17 (v : Int32) : (mW q cI cO I F h).set 0 (q 0, .inr (9, [.ref (q 1), .ref (q 2), .ref (q 3), .ref (q 4), .ref (q 5), .ref (q 6), .ref (q 7), .ref (q 8), .ref (q 9), .ref (q 10), .ref (q 11), .int (I 0), .int (I 1), .int (I 2), .ref (q 12), .ref (q 13), .int (I 3), .int (I 4), .int (I 5), .ref (q 14), .ref (q 15), .int (I 6), .ref (q 16), .ref (q 17), .ref (q 18), .ref (q 19), .int (I 7), .int (I 8), .int (I 9), .ref (q 20), .ref (q 21), .int (I 10), .int (I 11), .ref (q 22), .int (I 12), .int (I 13), .int (I 14), .int (I 15), .int (I 16), .int (I 17), .ref (q 23), .ref (q 24), .ref (q 25), .long h].set 39 (.int v))) = mW q cI cO (upd I 17 v) F h := mW_set 0 (by decide) rfl (by
  intro j hj hne
  by_cases h : 1 ≤ j
  · rw [mE_arr j h, mE_arr j h]
  · have hc : j = 0 := by omega
    exact absurd hc hne)
theorem mSetH (v : Int64) : (mW q cI cO I F h).set 0 (q 0, .inr (9, [.ref (q 1), .ref (q 2), .ref (q 3), .ref (q 4), .ref (q 5), .ref (q 6), .ref (q 7), .ref (q 8), .ref (q 9), .ref (q 10), .ref (q 11), .int (I 0), .int (I 1), .int (I 2), .ref (q 12), .ref (q 13), .int (I 3), .int (I 4), .int (I 5), .ref (q 14), .ref (q 15), .int (I 6), .ref (q 16), .ref (q 17), .ref (q 18), .ref (q 19), .int (I 7), .int (I 8), .int (I 9), .ref (q 20), .ref (q 21), .int (I 10), .int (I 11), .ref (q 22), .int (I 12), .int (I 13), .int (I 14), .int (I 15), .int (I 16), .int (I 17), .ref (q 23), .ref (q 24), .ref (q 25), .long h].set 43 (.long v))) = mW q cI cO I F v := mW_set 0 (by decide) rfl (by
  intro j hj hne
  have h9 : 1 ≤ j := by omega
  rw [mE_arr j h9, mE_arr j h9])
end
theorem clen_row {r : Nat} (h : 28 ≤ r) : clen r = 2187 := by unfold clen; rw [if_neg (by omega), if_neg (by omega), if_neg (by omega), if_neg (by omega), if_neg (by omega)]
theorem cRow {q : Nat → Nat} {cI cO : ClassId} {I : Nat → Int32} {F : Nat → Nat → Int32} {r : Nat} (h : 28 ≤ r ∧ r < 39) : (cW q cI cO I F)[r]? = some (q r, .inl (cI, 2187, .inl (F r))) := by rw [cAr r (by omega) h.2, clen_row h.1]
theorem cSetRow {q : Nat → Nat} {cI cO : ClassId} {I : Nat → Int32} {F : Nat → Nat → Int32} {r : Nat} (h : 28 ≤ r ∧ r < 39) (g : Nat → Int32) : (cW q cI cO I F).set r (q r, .inl (cI, 2187, .inl g)) = cW q cI cO I (upF F r g) := by rw [← clen_row h.1]; exact cSetA r (by omega) h.2 g
theorem cOut {q : Nat → Nat} {cI cO : ClassId} {I : Nat → Int32} {F : Nat → Nat → Int32} : (cW q cI cO I F)[13]? = some (q 13, .inl (cO, 8, .inr (.inr (.inr (.inr (fun i => if i < 8 then some (q (31 + i)) else none)))))) := cW_at 13 (by decide)
theorem cOutRow {i : Int32} (h : vp_in i 8) : 28 ≤ 31 + i.toNatClampNeg ∧ 31 + i.toNatClampNeg < 39 := by
  have h1 : i.toNatClampNeg < 8 := Nat.not_le.mp (fun z => h (Or.inr z))
  omega
theorem cOutAt {q : Nat → Nat} {i : Int32} (h : vp_in i 8) : (fun i : Nat => if i < 8 then some (q (31 + i)) else none) i.toNatClampNeg = some (q (31 + i.toNatClampNeg)) := if_pos (Nat.not_le.mp fun z => h (Or.inr z))
def tabN (j : Nat) : Int32 := if j = 0 then 2 else if j = 1 then 0 else if j = 2 then 11 else if j = 3 then 4 else if j = 4 then 5 else if j = 5 then 7 else 9
def tabW (j : Nat) : Int32 := if j = 0 then 729 else if j = 1 then 243 else if j = 2 then 81 else if j = 3 then 27 else if j = 4 then 9 else if j = 5 then 3 else 1
def tabK (j : Nat) : Int32 := if j = 0 then 29 else if j = 1 then 11 else if j = 2 then 7 else 15
def cNF : List (String × Nat × String × String × String) := [("HarpPedals", 236, "HarpPedals$Page", "codes", "[I"), ("HarpPedals", 70, "HarpPedals$Page", "size", "I"), ("HarpPedals$Reader", 49, "HarpPedals$Part", "begin", "I"), ("HarpPedals$Planner", 88, "HarpPedals$Part", "begin", "I"), ("HarpPedals", 142, "HarpPedals$Part", "begin", "I"), ("HarpPedals$Planner", 60, "HarpPedals$Part", "size", "I"), ("HarpPedals", 102, "HarpPedals$Part", "size", "I"), ("HarpPedals$Reader", 56, "HarpPedals$Part", "size", "I"), ("HarpPedals", 106, "HarpPedals$Part", "kinds", "[I"), ("HarpPedals$Planner", 96, "HarpPedals$Part", "kinds", "[I"), ("HarpPedals", 110, "HarpPedals$Part", "tones", "[I"), ("HarpPedals$Planner", 99, "HarpPedals$Part", "tones", "[I"), ("HarpPedals", 86, "HarpPedals$Reader", "draft", "LHarpPedals$Part;"), ("HarpPedals", 201, "HarpPedals$Seen", "size", "I"), ("HarpPedals$Planner", 144, "HarpPedals$Gap", "mostMoves", "I"), ("HarpPedals", 212, "HarpPedals$Player", "seed", "I"), ("HarpPedals", 206, "HarpPedals$Player", "chordsPlayed", "I"), ("HarpPedals", 209, "HarpPedals$Player", "moves", "I"), ("HarpPedals$Planner", 169, "HarpPedals$Settings", "WEIGHTS", "[I")]
def cNM : List (String × Nat × MethodName) := [("HarpPedals", 9, ⟨"HarpPedals$Page", "<init>", "()V"⟩), ("HarpPedals", 18, ⟨"HarpPedals$Reader", "<init>", "()V"⟩), ("HarpPedals$Reader", 11, ⟨"HarpPedals$Part", "<init>", "()V"⟩), ("HarpPedals", 25, ⟨"HarpPedals$Part", "<init>", "()V"⟩), ("HarpPedals", 35, ⟨"HarpPedals$Seen", "<init>", "()V"⟩), ("HarpPedals$Planner", 13, ⟨"HarpPedals$Gap", "<init>", "()V"⟩), ("HarpPedals$Player", 11, ⟨"HarpPedals$Gap", "<init>", "()V"⟩), ("HarpPedals$Reader", 46, ⟨"HarpPedals", "isPosition", "(I)Z"⟩), ("HarpPedals$Planner", 137, ⟨"HarpPedals", "isHeld", "(I)Z"⟩), ("HarpPedals$Planner", 102, ⟨"HarpPedals", "raised", "(II)I"⟩), ("HarpPedals$Part", 35, ⟨"HarpPedals", "raised", "(II)I"⟩)]
def cNest (U : State) : Prop := (∀ x ∈ cNF, va_Nw (.fieldLinkNest x.1 x.2.1 x.2.2.1 x.2.2.2.1 x.2.2.2.2 "HarpPedals") U) ∧ ∀ x ∈ cNM, va_Nw (.methodLinkNest x.1 x.2.1 x.2.2 "HarpPedals") U
def cTab (q : Nat → Nat) (C n : String) (j N : Nat) (f : Nat → Int32) (U : State) : Prop := va_Z C n "[I" (.ref (q j)) (cA q) U U.heap ∧ va_T .int (q j) N (fun i => .int (f i)) (cA q) U U.heap
def cEnv (q : Nat → Nat) (U : State) : Prop := cNest U ∧ cTab q "HarpPedals$Settings" "NATURAL_TONES" 39 7 tabN U ∧ cTab q "HarpPedals$Settings" "WEIGHTS" 40 7 tabW U ∧ cTab q "HarpPedals$Seen" "KINDS_THAT_COULD" 41 4 tabK U
theorem cTab_same {q : Nat → Nat} {C n : String} {j N : Nat} {f : Nat → Int32} {U U' : State} (h1 : U.vm = U'.vm) (h2 : U.heap = U'.heap) (h : cTab q C n j N f U) : cTab q C n j N f U' := by
  unfold cTab
  rw [← h2]
  exact ⟨va_Z.moved (h1 ▸ Vm.Alike.refl U.vm) h.1, va_T.moved (h1 ▸ Vm.Alike.refl U.vm) h.2⟩
theorem cTab_on {q : Nat → Nat} {C n : String} {j N : Nat} {f : Nat → Int32} {s U : State} (hW : s.WarmedH U.vm) (hk : ∀ a : Nat, a < s.heap.size → ¬ cA q a → U.heap[a]? = s.heap[a]?) (h : cTab q C n j N f s) : cTab q C n j N f U :=
  ⟨(va_Z.moved hW.alike h.1).kept hk, (va_T.moved hW.alike h.2).kept hk⟩
theorem cEok {q : Nat → Nat} : gEok (cEnv q) (cA q) :=
  ⟨fun U U' h1 h2 h => ⟨⟨fun x hx => va_Nw.same rfl h1 (h.1.1 x hx), fun x hx => va_Nw.same rfl h1 (h.1.2 x hx)⟩, cTab_same h1 h2 h.2.1, cTab_same h1 h2 h.2.2.1, cTab_same h1 h2 h.2.2.2⟩,
   fun s U hW _ hk h => ⟨⟨fun x hx => va_Nw.warmF hW (h.1.1 x hx), fun x hx => va_Nw.warmM hW (h.1.2 x hx)⟩, cTab_on hW hk h.2.1, cTab_on hW hk h.2.2.1, cTab_on hW hk h.2.2.2⟩⟩
def mEnv (_ : State) : Prop := True
theorem mEok {q : Nat → Nat} : gEok mEnv (mA q) := ⟨fun _ _ _ _ _ => trivial, fun _ _ _ _ _ _ => trivial⟩
abbrev cTys (cI cO : ClassId) : List (ClassId × FieldType) := [(cI, .int), (cO, .array .int)]
abbrev mTys (cI : ClassId) : List (ClassId × FieldType) := [(cI, .int)]
abbrev cS : Type := (Nat → Int32) × (Nat → Nat → Int32)
abbrev mS : Type := (Nat → Int32) × (Nat → Nat → Int32) × Int64
end
section
theorem dX0_init_0 : decode cX0_init 0 = .ok (.aload_n 0, 1) := by decide +kernel
theorem dX0_init_1 : decode cX0_init 1 = .ok (.invokespecial 3, 3) := by decide +kernel
theorem dX0_init_4 : decode cX0_init 4 = .ok (.return_, 1) := by decide +kernel
set_option maxRecDepth 20000 in
theorem ggX0_set_X7_toneAt : GoodIn wsX0_set wsX7_toneAt := goodIn_r _ [6, 7] (by decide +kernel) (by decide +kernel)
set_option maxRecDepth 20000 in
theorem gX0_set_X7_toneAt : GoodIn wsX0_set (va_wsS RX0 18 yX7_toneAt wsX7_toneAt) := goodIn_app (goodIn_of _ (by decide +kernel)) ggX0_set_X7_toneAt
theorem dX0_set_0 : decode cX0_set 0 = .ok (.aload_n 0, 1) := by decide +kernel
theorem dX0_set_1 : decode cX0_set 1 = .ok (.iload_n 1, 1) := by decide +kernel
theorem dX0_set_2 : decode cX0_set 2 = .ok (.iconst 4, 1) := by decide +kernel
theorem dX0_set_3 : decode cX0_set 3 = .ok (.if_icmp .ne 7, 3) := by decide +kernel
theorem dX0_set_6 : decode cX0_set 6 = .ok (.iconst 0, 1) := by decide +kernel
theorem dX0_set_7 : decode cX0_set 7 = .ok (.goto 13, 3) := by decide +kernel
theorem dX0_set_10 : decode cX0_set 10 = .ok (.iload_n 1, 1) := by decide +kernel
theorem dX0_set_11 : decode cX0_set 11 = .ok (.iconst 3, 1) := by decide +kernel
theorem dX0_set_12 : decode cX0_set 12 = .ok (.if_icmp .ne 7, 3) := by decide +kernel
theorem dX0_set_15 : decode cX0_set 15 = .ok (.iconst 1, 1) := by decide +kernel
theorem dX0_set_16 : decode cX0_set 16 = .ok (.goto 4, 3) := by decide +kernel
theorem dX0_set_19 : decode cX0_set 19 = .ok (.iconst 2, 1) := by decide +kernel
theorem dX0_set_20 : decode cX0_set 20 = .ok (.putfield 9, 3) := by decide +kernel
theorem dX0_set_23 : decode cX0_set 23 = .ok (.aload_n 0, 1) := by decide +kernel
theorem dX0_set_24 : decode cX0_set 24 = .ok (.iconst 0, 1) := by decide +kernel
theorem dX0_set_25 : decode cX0_set 25 = .ok (.putfield 15, 3) := by decide +kernel
theorem dX0_set_28 : decode cX0_set 28 = .ok (.iconst 0, 1) := by decide +kernel
theorem dX0_set_29 : decode cX0_set 29 = .ok (.istore_n 3, 1) := by decide +kernel
theorem dX0_set_30 : decode cX0_set 30 = .ok (.iload_n 3, 1) := by decide +kernel
theorem dX0_set_31 : decode cX0_set 31 = .ok (.bipush 7, 2) := by decide +kernel
theorem dX0_set_33 : decode cX0_set 33 = .ok (.if_icmp .ge 54, 3) := by decide +kernel
theorem dX0_set_36 : decode cX0_set 36 = .ok (.iconst 0, 1) := by decide +kernel
theorem dX0_set_37 : decode cX0_set 37 = .ok (.istore 4, 2) := by decide +kernel
theorem dX0_set_39 : decode cX0_set 39 = .ok (.iload 4, 2) := by decide +kernel
theorem dX0_set_41 : decode cX0_set 41 = .ok (.iconst 3, 1) := by decide +kernel
theorem dX0_set_42 : decode cX0_set 42 = .ok (.if_icmp .ge 39, 3) := by decide +kernel
theorem dX0_set_45 : decode cX0_set 45 = .ok (.iload_n 2, 1) := by decide +kernel
theorem dX0_set_46 : decode cX0_set 46 = .ok (.iload_n 3, 1) := by decide +kernel
theorem dX0_set_47 : decode cX0_set 47 = .ok (.iload 4, 2) := by decide +kernel
theorem dX0_set_49 : decode cX0_set 49 = .ok (.invokestatic 18, 3) := by decide +kernel
theorem dX0_set_52 : decode cX0_set 52 = .ok (.ishr, 1) := by decide +kernel
theorem dX0_set_53 : decode cX0_set 53 = .ok (.iconst 1, 1) := by decide +kernel
theorem dX0_set_54 : decode cX0_set 54 = .ok (.iand, 1) := by decide +kernel
theorem dX0_set_55 : decode cX0_set 55 = .ok (.istore 5, 2) := by decide +kernel
theorem dX0_set_57 : decode cX0_set 57 = .ok (.aload_n 0, 1) := by decide +kernel
theorem dX0_set_58 : decode cX0_set 58 = .ok (.dup, 1) := by decide +kernel
theorem dX0_set_59 : decode cX0_set 59 = .ok (.getfield 15, 3) := by decide +kernel
theorem dX0_set_62 : decode cX0_set 62 = .ok (.iload 5, 2) := by decide +kernel
theorem dX0_set_64 : decode cX0_set 64 = .ok (.iload_n 3, 1) := by decide +kernel
theorem dX0_set_65 : decode cX0_set 65 = .ok (.iconst 3, 1) := by decide +kernel
theorem dX0_set_66 : decode cX0_set 66 = .ok (.imul, 1) := by decide +kernel
theorem dX0_set_67 : decode cX0_set 67 = .ok (.iload 4, 2) := by decide +kernel
theorem dX0_set_69 : decode cX0_set 69 = .ok (.iadd, 1) := by decide +kernel
theorem dX0_set_70 : decode cX0_set 70 = .ok (.ishl, 1) := by decide +kernel
theorem dX0_set_71 : decode cX0_set 71 = .ok (.ior, 1) := by decide +kernel
theorem dX0_set_72 : decode cX0_set 72 = .ok (.putfield 15, 3) := by decide +kernel
theorem dX0_set_75 : decode cX0_set 75 = .ok (.iinc 4 1, 3) := by decide +kernel
theorem dX0_set_78 : decode cX0_set 78 = .ok (.goto (-39), 3) := by decide +kernel
theorem dX0_set_81 : decode cX0_set 81 = .ok (.iinc 3 1, 3) := by decide +kernel
theorem dX0_set_84 : decode cX0_set 84 = .ok (.goto (-54), 3) := by decide +kernel
theorem dX0_set_87 : decode cX0_set 87 = .ok (.return_, 1) := by decide +kernel
theorem dX0_holds_0 : decode cX0_holds 0 = .ok (.aload_n 0, 1) := by decide +kernel
theorem dX0_holds_1 : decode cX0_holds 1 = .ok (.getfield 15, 3) := by decide +kernel
theorem dX0_holds_4 : decode cX0_holds 4 = .ok (.iload_n 1, 1) := by decide +kernel
theorem dX0_holds_5 : decode cX0_holds 5 = .ok (.iconst 3, 1) := by decide +kernel
theorem dX0_holds_6 : decode cX0_holds 6 = .ok (.imul, 1) := by decide +kernel
theorem dX0_holds_7 : decode cX0_holds 7 = .ok (.iload_n 2, 1) := by decide +kernel
theorem dX0_holds_8 : decode cX0_holds 8 = .ok (.iadd, 1) := by decide +kernel
theorem dX0_holds_9 : decode cX0_holds 9 = .ok (.ishr, 1) := by decide +kernel
theorem dX0_holds_10 : decode cX0_holds 10 = .ok (.iconst 1, 1) := by decide +kernel
theorem dX0_holds_11 : decode cX0_holds 11 = .ok (.iand, 1) := by decide +kernel
theorem dX0_holds_12 : decode cX0_holds 12 = .ok (.ifCond .eq 7, 3) := by decide +kernel
theorem dX0_holds_15 : decode cX0_holds 15 = .ok (.iconst 1, 1) := by decide +kernel
theorem dX0_holds_16 : decode cX0_holds 16 = .ok (.goto 4, 3) := by decide +kernel
theorem dX0_holds_19 : decode cX0_holds 19 = .ok (.iconst 0, 1) := by decide +kernel
theorem dX0_holds_20 : decode cX0_holds 20 = .ok (.ireturn, 1) := by decide +kernel
set_option maxRecDepth 20000 in
theorem ggX0_movesBetween_X7_positionAt : GoodIn wsX0_movesBetween wsX7_positionAt := goodIn_r _ [5] (by decide +kernel) (by decide +kernel)
set_option maxRecDepth 20000 in
theorem gX0_movesBetween_X7_positionAt : GoodIn wsX0_movesBetween (va_wsS RX0 24 yX7_positionAt wsX7_positionAt) := goodIn_app (goodIn_of _ (by decide +kernel)) ggX0_movesBetween_X7_positionAt
set_option maxRecDepth 20000 in
theorem ggX0_movesBetween_X0_holds : GoodIn wsX0_movesBetween wsX0_holds := goodIn_r _ [10, 11, 12, 13] (by decide +kernel) (by decide +kernel)
set_option maxRecDepth 20000 in
theorem gX0_movesBetween_X0_holds : GoodIn wsX0_movesBetween (wsV RX0 27 RX0 yX0_holds wsX0_holds) := goodIn_app (goodIn_of _ (by decide +kernel)) ggX0_movesBetween_X0_holds
theorem dX0_movesBetween_0 : decode cX0_movesBetween 0 = .ok (.iconst 0, 1) := by decide +kernel
theorem dX0_movesBetween_1 : decode cX0_movesBetween 1 = .ok (.istore_n 3, 1) := by decide +kernel
theorem dX0_movesBetween_2 : decode cX0_movesBetween 2 = .ok (.iconst 0, 1) := by decide +kernel
theorem dX0_movesBetween_3 : decode cX0_movesBetween 3 = .ok (.istore 4, 2) := by decide +kernel
theorem dX0_movesBetween_5 : decode cX0_movesBetween 5 = .ok (.iconst 0, 1) := by decide +kernel
theorem dX0_movesBetween_6 : decode cX0_movesBetween 6 = .ok (.istore 5, 2) := by decide +kernel
theorem dX0_movesBetween_8 : decode cX0_movesBetween 8 = .ok (.iload 5, 2) := by decide +kernel
theorem dX0_movesBetween_10 : decode cX0_movesBetween 10 = .ok (.bipush 7, 2) := by decide +kernel
theorem dX0_movesBetween_12 : decode cX0_movesBetween 12 = .ok (.if_icmp .ge 69, 3) := by decide +kernel
theorem dX0_movesBetween_15 : decode cX0_movesBetween 15 = .ok (.iload_n 1, 1) := by decide +kernel
theorem dX0_movesBetween_16 : decode cX0_movesBetween 16 = .ok (.iload 5, 2) := by decide +kernel
theorem dX0_movesBetween_18 : decode cX0_movesBetween 18 = .ok (.invokestatic 24, 3) := by decide +kernel
theorem dX0_movesBetween_21 : decode cX0_movesBetween 21 = .ok (.istore 6, 2) := by decide +kernel
theorem dX0_movesBetween_23 : decode cX0_movesBetween 23 = .ok (.iload 6, 2) := by decide +kernel
theorem dX0_movesBetween_25 : decode cX0_movesBetween 25 = .ok (.iload_n 2, 1) := by decide +kernel
theorem dX0_movesBetween_26 : decode cX0_movesBetween 26 = .ok (.iload 5, 2) := by decide +kernel
theorem dX0_movesBetween_28 : decode cX0_movesBetween 28 = .ok (.invokestatic 24, 3) := by decide +kernel
theorem dX0_movesBetween_31 : decode cX0_movesBetween 31 = .ok (.if_icmp .eq 44, 3) := by decide +kernel
theorem dX0_movesBetween_34 : decode cX0_movesBetween 34 = .ok (.aload_n 0, 1) := by decide +kernel
theorem dX0_movesBetween_35 : decode cX0_movesBetween 35 = .ok (.iload 5, 2) := by decide +kernel
theorem dX0_movesBetween_37 : decode cX0_movesBetween 37 = .ok (.iload 6, 2) := by decide +kernel
theorem dX0_movesBetween_39 : decode cX0_movesBetween 39 = .ok (.invokevirtual 27, 3) := by decide +kernel
theorem dX0_movesBetween_42 : decode cX0_movesBetween 42 = .ok (.ifCond .eq 5, 3) := by decide +kernel
theorem dX0_movesBetween_45 : decode cX0_movesBetween 45 = .ok (.iconst (-1), 1) := by decide +kernel
theorem dX0_movesBetween_46 : decode cX0_movesBetween 46 = .ok (.ireturn, 1) := by decide +kernel
theorem dX0_movesBetween_47 : decode cX0_movesBetween 47 = .ok (.iload 5, 2) := by decide +kernel
theorem dX0_movesBetween_49 : decode cX0_movesBetween 49 = .ok (.iconst 3, 1) := by decide +kernel
theorem dX0_movesBetween_50 : decode cX0_movesBetween 50 = .ok (.if_icmp .ge 9, 3) := by decide +kernel
theorem dX0_movesBetween_53 : decode cX0_movesBetween 53 = .ok (.iinc 3 1, 3) := by decide +kernel
theorem dX0_movesBetween_56 : decode cX0_movesBetween 56 = .ok (.goto 6, 3) := by decide +kernel
theorem dX0_movesBetween_59 : decode cX0_movesBetween 59 = .ok (.iinc 4 1, 3) := by decide +kernel
theorem dX0_movesBetween_62 : decode cX0_movesBetween 62 = .ok (.iload_n 3, 1) := by decide +kernel
theorem dX0_movesBetween_63 : decode cX0_movesBetween 63 = .ok (.iconst 1, 1) := by decide +kernel
theorem dX0_movesBetween_64 : decode cX0_movesBetween 64 = .ok (.if_icmp .gt 9, 3) := by decide +kernel
theorem dX0_movesBetween_67 : decode cX0_movesBetween 67 = .ok (.iload 4, 2) := by decide +kernel
theorem dX0_movesBetween_69 : decode cX0_movesBetween 69 = .ok (.iconst 1, 1) := by decide +kernel
theorem dX0_movesBetween_70 : decode cX0_movesBetween 70 = .ok (.if_icmp .le 5, 3) := by decide +kernel
theorem dX0_movesBetween_73 : decode cX0_movesBetween 73 = .ok (.iconst (-1), 1) := by decide +kernel
theorem dX0_movesBetween_74 : decode cX0_movesBetween 74 = .ok (.ireturn, 1) := by decide +kernel
theorem dX0_movesBetween_75 : decode cX0_movesBetween 75 = .ok (.iinc 5 1, 3) := by decide +kernel
theorem dX0_movesBetween_78 : decode cX0_movesBetween 78 = .ok (.goto (-70), 3) := by decide +kernel
theorem dX0_movesBetween_81 : decode cX0_movesBetween 81 = .ok (.iload_n 3, 1) := by decide +kernel
theorem dX0_movesBetween_82 : decode cX0_movesBetween 82 = .ok (.iload 4, 2) := by decide +kernel
theorem dX0_movesBetween_84 : decode cX0_movesBetween 84 = .ok (.iadd, 1) := by decide +kernel
theorem dX0_movesBetween_85 : decode cX0_movesBetween 85 = .ok (.aload_n 0, 1) := by decide +kernel
theorem dX0_movesBetween_86 : decode cX0_movesBetween 86 = .ok (.getfield 9, 3) := by decide +kernel
theorem dX0_movesBetween_89 : decode cX0_movesBetween 89 = .ok (.if_icmp .gt 10, 3) := by decide +kernel
theorem dX0_movesBetween_92 : decode cX0_movesBetween 92 = .ok (.iload_n 3, 1) := by decide +kernel
theorem dX0_movesBetween_93 : decode cX0_movesBetween 93 = .ok (.iload 4, 2) := by decide +kernel
theorem dX0_movesBetween_95 : decode cX0_movesBetween 95 = .ok (.iadd, 1) := by decide +kernel
theorem dX0_movesBetween_96 : decode cX0_movesBetween 96 = .ok (.goto 4, 3) := by decide +kernel
theorem dX0_movesBetween_99 : decode cX0_movesBetween 99 = .ok (.iconst (-1), 1) := by decide +kernel
theorem dX0_movesBetween_100 : decode cX0_movesBetween 100 = .ok (.ireturn, 1) := by decide +kernel
theorem dX1_init_0 : decode cX1_init 0 = .ok (.aload_n 0, 1) := by decide +kernel
theorem dX1_init_1 : decode cX1_init 1 = .ok (.invokespecial 3, 3) := by decide +kernel
theorem dX1_init_4 : decode cX1_init 4 = .ok (.aload_n 0, 1) := by decide +kernel
theorem dX1_init_5 : decode cX1_init 5 = .ok (.bipush 56, 2) := by decide +kernel
theorem dX1_init_7 : decode cX1_init 7 = .ok (.newarray .int, 2) := by decide +kernel
theorem dX1_init_9 : decode cX1_init 9 = .ok (.putfield 9, 3) := by decide +kernel
theorem dX1_init_12 : decode cX1_init 12 = .ok (.return_, 1) := by decide +kernel
theorem dX1_append_0 : decode cX1_append 0 = .ok (.aload_n 0, 1) := by decide +kernel
theorem dX1_append_1 : decode cX1_append 1 = .ok (.getfield 15, 3) := by decide +kernel
theorem dX1_append_4 : decode cX1_append 4 = .ok (.bipush 56, 2) := by decide +kernel
theorem dX1_append_6 : decode cX1_append 6 = .ok (.if_icmp .lt 5, 3) := by decide +kernel
theorem dX1_append_9 : decode cX1_append 9 = .ok (.iconst 0, 1) := by decide +kernel
theorem dX1_append_10 : decode cX1_append 10 = .ok (.ireturn, 1) := by decide +kernel
theorem dX1_append_11 : decode cX1_append 11 = .ok (.aload_n 0, 1) := by decide +kernel
theorem dX1_append_12 : decode cX1_append 12 = .ok (.getfield 9, 3) := by decide +kernel
theorem dX1_append_15 : decode cX1_append 15 = .ok (.aload_n 0, 1) := by decide +kernel
theorem dX1_append_16 : decode cX1_append 16 = .ok (.getfield 15, 3) := by decide +kernel
theorem dX1_append_19 : decode cX1_append 19 = .ok (.iload_n 1, 1) := by decide +kernel
theorem dX1_append_20 : decode cX1_append 20 = .ok (.iastore, 1) := by decide +kernel
theorem dX1_append_21 : decode cX1_append 21 = .ok (.aload_n 0, 1) := by decide +kernel
theorem dX1_append_22 : decode cX1_append 22 = .ok (.dup, 1) := by decide +kernel
theorem dX1_append_23 : decode cX1_append 23 = .ok (.getfield 15, 3) := by decide +kernel
theorem dX1_append_26 : decode cX1_append 26 = .ok (.iconst 1, 1) := by decide +kernel
theorem dX1_append_27 : decode cX1_append 27 = .ok (.iadd, 1) := by decide +kernel
theorem dX1_append_28 : decode cX1_append 28 = .ok (.putfield 15, 3) := by decide +kernel
theorem dX1_append_31 : decode cX1_append 31 = .ok (.iconst 1, 1) := by decide +kernel
theorem dX1_append_32 : decode cX1_append 32 = .ok (.ireturn, 1) := by decide +kernel
theorem dX1_clear_0 : decode cX1_clear 0 = .ok (.aload_n 0, 1) := by decide +kernel
theorem dX1_clear_1 : decode cX1_clear 1 = .ok (.getfield 15, 3) := by decide +kernel
theorem dX1_clear_4 : decode cX1_clear 4 = .ok (.istore_n 1, 1) := by decide +kernel
theorem dX1_clear_5 : decode cX1_clear 5 = .ok (.aload_n 0, 1) := by decide +kernel
theorem dX1_clear_6 : decode cX1_clear 6 = .ok (.iconst 0, 1) := by decide +kernel
theorem dX1_clear_7 : decode cX1_clear 7 = .ok (.putfield 15, 3) := by decide +kernel
theorem dX1_clear_10 : decode cX1_clear 10 = .ok (.iload_n 1, 1) := by decide +kernel
theorem dX1_clear_11 : decode cX1_clear 11 = .ok (.ireturn, 1) := by decide +kernel
set_option maxRecDepth 20000 in
theorem ggX1_readBy_X5_restart : GoodIn wsX1_readBy wsX5_restart := goodIn_r _ [7, 8, 9, 10, 11, 12, 13, 14, 15, 16, 17, 67, 68, 69, 70, 71, 72, 73] (by decide +kernel) (by decide +kernel)
set_option maxRecDepth 20000 in
theorem gX1_readBy_X5_restart : GoodIn wsX1_readBy (wsV RX1 19 RX5 yX5_restart wsX5_restart) := goodIn_app (goodIn_of _ (by decide +kernel)) ggX1_readBy_X5_restart
set_option maxRecDepth 20000 in
theorem ggX1_readBy_X5_accept : GoodIn wsX1_readBy wsX5_accept := goodIn_r _ [21, 9, 10, 22, 23, 24, 6, 25, 8, 26, 27, 28, 29, 30, 31, 32, 33, 34, 35, 36, 37, 38, 14, 39, 17, 40, 41, 42, 43, 44, 45, 46, 47, 48, 49, 50, 51, 52, 53, 54, 55, 56, 57, 58, 59, 60, 61, 62, 63, 64, 67, 68, 69, 70, 71, 72, 73] (by decide +kernel) (by decide +kernel)
set_option maxRecDepth 20000 in
theorem gX1_readBy_X5_accept : GoodIn wsX1_readBy (wsV RX1 24 RX5 yX5_accept wsX5_accept) := goodIn_app (goodIn_of _ (by decide +kernel)) ggX1_readBy_X5_accept
theorem dX1_readBy_0 : decode cX1_readBy 0 = .ok (.aload_n 1, 1) := by decide +kernel
theorem dX1_readBy_1 : decode cX1_readBy 1 = .ok (.invokevirtual 19, 3) := by decide +kernel
theorem dX1_readBy_4 : decode cX1_readBy 4 = .ok (.iconst 0, 1) := by decide +kernel
theorem dX1_readBy_5 : decode cX1_readBy 5 = .ok (.istore_n 2, 1) := by decide +kernel
theorem dX1_readBy_6 : decode cX1_readBy 6 = .ok (.iload_n 2, 1) := by decide +kernel
theorem dX1_readBy_7 : decode cX1_readBy 7 = .ok (.aload_n 0, 1) := by decide +kernel
theorem dX1_readBy_8 : decode cX1_readBy 8 = .ok (.getfield 15, 3) := by decide +kernel
theorem dX1_readBy_11 : decode cX1_readBy 11 = .ok (.if_icmp .ge 24, 3) := by decide +kernel
theorem dX1_readBy_14 : decode cX1_readBy 14 = .ok (.aload_n 1, 1) := by decide +kernel
theorem dX1_readBy_15 : decode cX1_readBy 15 = .ok (.aload_n 0, 1) := by decide +kernel
theorem dX1_readBy_16 : decode cX1_readBy 16 = .ok (.getfield 9, 3) := by decide +kernel
theorem dX1_readBy_19 : decode cX1_readBy 19 = .ok (.iload_n 2, 1) := by decide +kernel
theorem dX1_readBy_20 : decode cX1_readBy 20 = .ok (.iaload, 1) := by decide +kernel
theorem dX1_readBy_21 : decode cX1_readBy 21 = .ok (.invokevirtual 24, 3) := by decide +kernel
theorem dX1_readBy_24 : decode cX1_readBy 24 = .ok (.ifCond .ne 5, 3) := by decide +kernel
theorem dX1_readBy_27 : decode cX1_readBy 27 = .ok (.iload_n 2, 1) := by decide +kernel
theorem dX1_readBy_28 : decode cX1_readBy 28 = .ok (.ireturn, 1) := by decide +kernel
theorem dX1_readBy_29 : decode cX1_readBy 29 = .ok (.iinc 2 1, 3) := by decide +kernel
theorem dX1_readBy_32 : decode cX1_readBy 32 = .ok (.goto (-26), 3) := by decide +kernel
theorem dX1_readBy_35 : decode cX1_readBy 35 = .ok (.aload_n 0, 1) := by decide +kernel
theorem dX1_readBy_36 : decode cX1_readBy 36 = .ok (.getfield 15, 3) := by decide +kernel
theorem dX1_readBy_39 : decode cX1_readBy 39 = .ok (.ireturn, 1) := by decide +kernel
theorem dX2_init_0 : decode cX2_init 0 = .ok (.aload_n 0, 1) := by decide +kernel
theorem dX2_init_1 : decode cX2_init 1 = .ok (.invokespecial 3, 3) := by decide +kernel
theorem dX2_init_4 : decode cX2_init 4 = .ok (.aload_n 0, 1) := by decide +kernel
theorem dX2_init_5 : decode cX2_init 5 = .ok (.bipush 8, 2) := by decide +kernel
theorem dX2_init_7 : decode cX2_init 7 = .ok (.newarray .int, 2) := by decide +kernel
theorem dX2_init_9 : decode cX2_init 9 = .ok (.putfield 9, 3) := by decide +kernel
theorem dX2_init_12 : decode cX2_init 12 = .ok (.aload_n 0, 1) := by decide +kernel
theorem dX2_init_13 : decode cX2_init 13 = .ok (.bipush 8, 2) := by decide +kernel
theorem dX2_init_15 : decode cX2_init 15 = .ok (.newarray .int, 2) := by decide +kernel
theorem dX2_init_17 : decode cX2_init 17 = .ok (.putfield 15, 3) := by decide +kernel
theorem dX2_init_20 : decode cX2_init 20 = .ok (.return_, 1) := by decide +kernel
theorem dX2_has_0 : decode cX2_has 0 = .ok (.iload_n 1, 1) := by decide +kernel
theorem dX2_has_1 : decode cX2_has 1 = .ok (.ifCond .lt 15, 3) := by decide +kernel
theorem dX2_has_4 : decode cX2_has 4 = .ok (.iload_n 1, 1) := by decide +kernel
theorem dX2_has_5 : decode cX2_has 5 = .ok (.aload_n 0, 1) := by decide +kernel
theorem dX2_has_6 : decode cX2_has 6 = .ok (.getfield 18, 3) := by decide +kernel
theorem dX2_has_9 : decode cX2_has 9 = .ok (.if_icmp .ge 7, 3) := by decide +kernel
theorem dX2_has_12 : decode cX2_has 12 = .ok (.iconst 1, 1) := by decide +kernel
theorem dX2_has_13 : decode cX2_has 13 = .ok (.goto 4, 3) := by decide +kernel
theorem dX2_has_16 : decode cX2_has 16 = .ok (.iconst 0, 1) := by decide +kernel
theorem dX2_has_17 : decode cX2_has 17 = .ok (.ireturn, 1) := by decide +kernel
theorem dX2_clear_0 : decode cX2_clear 0 = .ok (.aload_n 0, 1) := by decide +kernel
theorem dX2_clear_1 : decode cX2_clear 1 = .ok (.iconst 0, 1) := by decide +kernel
theorem dX2_clear_2 : decode cX2_clear 2 = .ok (.putfield 22, 3) := by decide +kernel
theorem dX2_clear_5 : decode cX2_clear 5 = .ok (.aload_n 0, 1) := by decide +kernel
theorem dX2_clear_6 : decode cX2_clear 6 = .ok (.iconst 0, 1) := by decide +kernel
theorem dX2_clear_7 : decode cX2_clear 7 = .ok (.putfield 18, 3) := by decide +kernel
theorem dX2_clear_10 : decode cX2_clear 10 = .ok (.return_, 1) := by decide +kernel
theorem dX2_become_0 : decode cX2_become 0 = .ok (.aload_n 0, 1) := by decide +kernel
theorem dX2_become_1 : decode cX2_become 1 = .ok (.aload_n 1, 1) := by decide +kernel
theorem dX2_become_2 : decode cX2_become 2 = .ok (.getfield 22, 3) := by decide +kernel
theorem dX2_become_5 : decode cX2_become 5 = .ok (.putfield 22, 3) := by decide +kernel
theorem dX2_become_8 : decode cX2_become 8 = .ok (.aload_n 0, 1) := by decide +kernel
theorem dX2_become_9 : decode cX2_become 9 = .ok (.aload_n 1, 1) := by decide +kernel
theorem dX2_become_10 : decode cX2_become 10 = .ok (.getfield 18, 3) := by decide +kernel
theorem dX2_become_13 : decode cX2_become 13 = .ok (.putfield 18, 3) := by decide +kernel
theorem dX2_become_16 : decode cX2_become 16 = .ok (.aload_n 1, 1) := by decide +kernel
theorem dX2_become_17 : decode cX2_become 17 = .ok (.getfield 9, 3) := by decide +kernel
theorem dX2_become_20 : decode cX2_become 20 = .ok (.iconst 0, 1) := by decide +kernel
theorem dX2_become_21 : decode cX2_become 21 = .ok (.aload_n 0, 1) := by decide +kernel
theorem dX2_become_22 : decode cX2_become 22 = .ok (.getfield 9, 3) := by decide +kernel
theorem dX2_become_25 : decode cX2_become 25 = .ok (.iconst 0, 1) := by decide +kernel
theorem dX2_become_26 : decode cX2_become 26 = .ok (.bipush 8, 2) := by decide +kernel
theorem dX2_become_28 : decode cX2_become 28 = .ok (.invokestatic 25, 3) := by decide +kernel
theorem dX2_become_31 : decode cX2_become 31 = .ok (.aload_n 1, 1) := by decide +kernel
theorem dX2_become_32 : decode cX2_become 32 = .ok (.getfield 15, 3) := by decide +kernel
theorem dX2_become_35 : decode cX2_become 35 = .ok (.iconst 0, 1) := by decide +kernel
theorem dX2_become_36 : decode cX2_become 36 = .ok (.aload_n 0, 1) := by decide +kernel
theorem dX2_become_37 : decode cX2_become 37 = .ok (.getfield 15, 3) := by decide +kernel
theorem dX2_become_40 : decode cX2_become 40 = .ok (.iconst 0, 1) := by decide +kernel
theorem dX2_become_41 : decode cX2_become 41 = .ok (.bipush 8, 2) := by decide +kernel
theorem dX2_become_43 : decode cX2_become 43 = .ok (.invokestatic 25, 3) := by decide +kernel
theorem dX2_become_46 : decode cX2_become 46 = .ok (.return_, 1) := by decide +kernel
theorem dX2_insert_0 : decode cX2_insert 0 = .ok (.aload_n 0, 1) := by decide +kernel
theorem dX2_insert_1 : decode cX2_insert 1 = .ok (.getfield 18, 3) := by decide +kernel
theorem dX2_insert_4 : decode cX2_insert 4 = .ok (.bipush 8, 2) := by decide +kernel
theorem dX2_insert_6 : decode cX2_insert 6 = .ok (.if_icmp .ge 15, 3) := by decide +kernel
theorem dX2_insert_9 : decode cX2_insert 9 = .ok (.iload_n 1, 1) := by decide +kernel
theorem dX2_insert_10 : decode cX2_insert 10 = .ok (.ifCond .lt 11, 3) := by decide +kernel
theorem dX2_insert_13 : decode cX2_insert 13 = .ok (.iload_n 1, 1) := by decide +kernel
theorem dX2_insert_14 : decode cX2_insert 14 = .ok (.aload_n 0, 1) := by decide +kernel
theorem dX2_insert_15 : decode cX2_insert 15 = .ok (.getfield 18, 3) := by decide +kernel
theorem dX2_insert_18 : decode cX2_insert 18 = .ok (.if_icmp .le 5, 3) := by decide +kernel
theorem dX2_insert_21 : decode cX2_insert 21 = .ok (.iconst 0, 1) := by decide +kernel
theorem dX2_insert_22 : decode cX2_insert 22 = .ok (.ireturn, 1) := by decide +kernel
theorem dX2_insert_23 : decode cX2_insert 23 = .ok (.aload_n 0, 1) := by decide +kernel
theorem dX2_insert_24 : decode cX2_insert 24 = .ok (.getfield 18, 3) := by decide +kernel
theorem dX2_insert_27 : decode cX2_insert 27 = .ok (.istore 4, 2) := by decide +kernel
theorem dX2_insert_29 : decode cX2_insert 29 = .ok (.iload 4, 2) := by decide +kernel
theorem dX2_insert_31 : decode cX2_insert 31 = .ok (.iload_n 1, 1) := by decide +kernel
theorem dX2_insert_32 : decode cX2_insert 32 = .ok (.if_icmp .le 41, 3) := by decide +kernel
theorem dX2_insert_35 : decode cX2_insert 35 = .ok (.aload_n 0, 1) := by decide +kernel
theorem dX2_insert_36 : decode cX2_insert 36 = .ok (.getfield 9, 3) := by decide +kernel
theorem dX2_insert_39 : decode cX2_insert 39 = .ok (.iload 4, 2) := by decide +kernel
theorem dX2_insert_41 : decode cX2_insert 41 = .ok (.aload_n 0, 1) := by decide +kernel
theorem dX2_insert_42 : decode cX2_insert 42 = .ok (.getfield 9, 3) := by decide +kernel
theorem dX2_insert_45 : decode cX2_insert 45 = .ok (.iload 4, 2) := by decide +kernel
theorem dX2_insert_47 : decode cX2_insert 47 = .ok (.iconst 1, 1) := by decide +kernel
theorem dX2_insert_48 : decode cX2_insert 48 = .ok (.isub, 1) := by decide +kernel
theorem dX2_insert_49 : decode cX2_insert 49 = .ok (.iaload, 1) := by decide +kernel
theorem dX2_insert_50 : decode cX2_insert 50 = .ok (.iastore, 1) := by decide +kernel
theorem dX2_insert_51 : decode cX2_insert 51 = .ok (.aload_n 0, 1) := by decide +kernel
theorem dX2_insert_52 : decode cX2_insert 52 = .ok (.getfield 15, 3) := by decide +kernel
theorem dX2_insert_55 : decode cX2_insert 55 = .ok (.iload 4, 2) := by decide +kernel
theorem dX2_insert_57 : decode cX2_insert 57 = .ok (.aload_n 0, 1) := by decide +kernel
theorem dX2_insert_58 : decode cX2_insert 58 = .ok (.getfield 15, 3) := by decide +kernel
theorem dX2_insert_61 : decode cX2_insert 61 = .ok (.iload 4, 2) := by decide +kernel
theorem dX2_insert_63 : decode cX2_insert 63 = .ok (.iconst 1, 1) := by decide +kernel
theorem dX2_insert_64 : decode cX2_insert 64 = .ok (.isub, 1) := by decide +kernel
theorem dX2_insert_65 : decode cX2_insert 65 = .ok (.iaload, 1) := by decide +kernel
theorem dX2_insert_66 : decode cX2_insert 66 = .ok (.iastore, 1) := by decide +kernel
theorem dX2_insert_67 : decode cX2_insert 67 = .ok (.iinc 4 (-1), 3) := by decide +kernel
theorem dX2_insert_70 : decode cX2_insert 70 = .ok (.goto (-41), 3) := by decide +kernel
theorem dX2_insert_73 : decode cX2_insert 73 = .ok (.aload_n 0, 1) := by decide +kernel
theorem dX2_insert_74 : decode cX2_insert 74 = .ok (.getfield 9, 3) := by decide +kernel
theorem dX2_insert_77 : decode cX2_insert 77 = .ok (.iload_n 1, 1) := by decide +kernel
theorem dX2_insert_78 : decode cX2_insert 78 = .ok (.iload_n 2, 1) := by decide +kernel
theorem dX2_insert_79 : decode cX2_insert 79 = .ok (.iastore, 1) := by decide +kernel
theorem dX2_insert_80 : decode cX2_insert 80 = .ok (.aload_n 0, 1) := by decide +kernel
theorem dX2_insert_81 : decode cX2_insert 81 = .ok (.getfield 15, 3) := by decide +kernel
theorem dX2_insert_84 : decode cX2_insert 84 = .ok (.iload_n 1, 1) := by decide +kernel
theorem dX2_insert_85 : decode cX2_insert 85 = .ok (.iload_n 3, 1) := by decide +kernel
theorem dX2_insert_86 : decode cX2_insert 86 = .ok (.iastore, 1) := by decide +kernel
theorem dX2_insert_87 : decode cX2_insert 87 = .ok (.aload_n 0, 1) := by decide +kernel
theorem dX2_insert_88 : decode cX2_insert 88 = .ok (.dup, 1) := by decide +kernel
theorem dX2_insert_89 : decode cX2_insert 89 = .ok (.getfield 18, 3) := by decide +kernel
theorem dX2_insert_92 : decode cX2_insert 92 = .ok (.iconst 1, 1) := by decide +kernel
theorem dX2_insert_93 : decode cX2_insert 93 = .ok (.iadd, 1) := by decide +kernel
theorem dX2_insert_94 : decode cX2_insert 94 = .ok (.putfield 18, 3) := by decide +kernel
theorem dX2_insert_97 : decode cX2_insert 97 = .ok (.iconst 1, 1) := by decide +kernel
theorem dX2_insert_98 : decode cX2_insert 98 = .ok (.ireturn, 1) := by decide +kernel
set_option maxRecDepth 20000 in
theorem ggX2_remove_X2_has : GoodIn wsX2_remove wsX2_has := goodIn_r _ [8, 1, 9, 10, 11, 12] (by decide +kernel) (by decide +kernel)
set_option maxRecDepth 20000 in
theorem gX2_remove_X2_has : GoodIn wsX2_remove (wsV RX2 31 RX2 yX2_has wsX2_has) := goodIn_app (goodIn_of _ (by decide +kernel)) ggX2_remove_X2_has
theorem dX2_remove_0 : decode cX2_remove 0 = .ok (.aload_n 0, 1) := by decide +kernel
theorem dX2_remove_1 : decode cX2_remove 1 = .ok (.iload_n 1, 1) := by decide +kernel
theorem dX2_remove_2 : decode cX2_remove 2 = .ok (.invokevirtual 31, 3) := by decide +kernel
theorem dX2_remove_5 : decode cX2_remove 5 = .ok (.ifCond .ne 4, 3) := by decide +kernel
theorem dX2_remove_8 : decode cX2_remove 8 = .ok (.return_, 1) := by decide +kernel
theorem dX2_remove_9 : decode cX2_remove 9 = .ok (.aload_n 0, 1) := by decide +kernel
theorem dX2_remove_10 : decode cX2_remove 10 = .ok (.dup, 1) := by decide +kernel
theorem dX2_remove_11 : decode cX2_remove 11 = .ok (.getfield 18, 3) := by decide +kernel
theorem dX2_remove_14 : decode cX2_remove 14 = .ok (.iconst 1, 1) := by decide +kernel
theorem dX2_remove_15 : decode cX2_remove 15 = .ok (.isub, 1) := by decide +kernel
theorem dX2_remove_16 : decode cX2_remove 16 = .ok (.putfield 18, 3) := by decide +kernel
theorem dX2_remove_19 : decode cX2_remove 19 = .ok (.iload_n 1, 1) := by decide +kernel
theorem dX2_remove_20 : decode cX2_remove 20 = .ok (.istore_n 2, 1) := by decide +kernel
theorem dX2_remove_21 : decode cX2_remove 21 = .ok (.iload_n 2, 1) := by decide +kernel
theorem dX2_remove_22 : decode cX2_remove 22 = .ok (.aload_n 0, 1) := by decide +kernel
theorem dX2_remove_23 : decode cX2_remove 23 = .ok (.getfield 18, 3) := by decide +kernel
theorem dX2_remove_26 : decode cX2_remove 26 = .ok (.if_icmp .ge 37, 3) := by decide +kernel
theorem dX2_remove_29 : decode cX2_remove 29 = .ok (.aload_n 0, 1) := by decide +kernel
theorem dX2_remove_30 : decode cX2_remove 30 = .ok (.getfield 9, 3) := by decide +kernel
theorem dX2_remove_33 : decode cX2_remove 33 = .ok (.iload_n 2, 1) := by decide +kernel
theorem dX2_remove_34 : decode cX2_remove 34 = .ok (.aload_n 0, 1) := by decide +kernel
theorem dX2_remove_35 : decode cX2_remove 35 = .ok (.getfield 9, 3) := by decide +kernel
theorem dX2_remove_38 : decode cX2_remove 38 = .ok (.iload_n 2, 1) := by decide +kernel
theorem dX2_remove_39 : decode cX2_remove 39 = .ok (.iconst 1, 1) := by decide +kernel
theorem dX2_remove_40 : decode cX2_remove 40 = .ok (.iadd, 1) := by decide +kernel
theorem dX2_remove_41 : decode cX2_remove 41 = .ok (.iaload, 1) := by decide +kernel
theorem dX2_remove_42 : decode cX2_remove 42 = .ok (.iastore, 1) := by decide +kernel
theorem dX2_remove_43 : decode cX2_remove 43 = .ok (.aload_n 0, 1) := by decide +kernel
theorem dX2_remove_44 : decode cX2_remove 44 = .ok (.getfield 15, 3) := by decide +kernel
theorem dX2_remove_47 : decode cX2_remove 47 = .ok (.iload_n 2, 1) := by decide +kernel
theorem dX2_remove_48 : decode cX2_remove 48 = .ok (.aload_n 0, 1) := by decide +kernel
theorem dX2_remove_49 : decode cX2_remove 49 = .ok (.getfield 15, 3) := by decide +kernel
theorem dX2_remove_52 : decode cX2_remove 52 = .ok (.iload_n 2, 1) := by decide +kernel
theorem dX2_remove_53 : decode cX2_remove 53 = .ok (.iconst 1, 1) := by decide +kernel
theorem dX2_remove_54 : decode cX2_remove 54 = .ok (.iadd, 1) := by decide +kernel
theorem dX2_remove_55 : decode cX2_remove 55 = .ok (.iaload, 1) := by decide +kernel
theorem dX2_remove_56 : decode cX2_remove 56 = .ok (.iastore, 1) := by decide +kernel
theorem dX2_remove_57 : decode cX2_remove 57 = .ok (.iinc 2 1, 3) := by decide +kernel
theorem dX2_remove_60 : decode cX2_remove 60 = .ok (.goto (-39), 3) := by decide +kernel
theorem dX2_remove_63 : decode cX2_remove 63 = .ok (.return_, 1) := by decide +kernel
set_option maxRecDepth 20000 in
theorem ggX2_exchange_X2_has : GoodIn wsX2_exchange wsX2_has := goodIn_r _ [7, 8, 9, 10, 11, 12] (by decide +kernel) (by decide +kernel)
set_option maxRecDepth 20000 in
theorem gX2_exchange_X2_has : GoodIn wsX2_exchange (wsV RX2 31 RX2 yX2_has wsX2_has) := goodIn_app (goodIn_of _ (by decide +kernel)) ggX2_exchange_X2_has
theorem dX2_exchange_0 : decode cX2_exchange 0 = .ok (.aload_n 0, 1) := by decide +kernel
theorem dX2_exchange_1 : decode cX2_exchange 1 = .ok (.iload_n 1, 1) := by decide +kernel
theorem dX2_exchange_2 : decode cX2_exchange 2 = .ok (.invokevirtual 31, 3) := by decide +kernel
theorem dX2_exchange_5 : decode cX2_exchange 5 = .ok (.ifCond .eq 11, 3) := by decide +kernel
theorem dX2_exchange_8 : decode cX2_exchange 8 = .ok (.aload_n 0, 1) := by decide +kernel
theorem dX2_exchange_9 : decode cX2_exchange 9 = .ok (.iload_n 2, 1) := by decide +kernel
theorem dX2_exchange_10 : decode cX2_exchange 10 = .ok (.invokevirtual 31, 3) := by decide +kernel
theorem dX2_exchange_13 : decode cX2_exchange 13 = .ok (.ifCond .ne 4, 3) := by decide +kernel
theorem dX2_exchange_16 : decode cX2_exchange 16 = .ok (.return_, 1) := by decide +kernel
theorem dX2_exchange_17 : decode cX2_exchange 17 = .ok (.aload_n 0, 1) := by decide +kernel
theorem dX2_exchange_18 : decode cX2_exchange 18 = .ok (.getfield 9, 3) := by decide +kernel
theorem dX2_exchange_21 : decode cX2_exchange 21 = .ok (.iload_n 1, 1) := by decide +kernel
theorem dX2_exchange_22 : decode cX2_exchange 22 = .ok (.iaload, 1) := by decide +kernel
theorem dX2_exchange_23 : decode cX2_exchange 23 = .ok (.istore_n 3, 1) := by decide +kernel
theorem dX2_exchange_24 : decode cX2_exchange 24 = .ok (.aload_n 0, 1) := by decide +kernel
theorem dX2_exchange_25 : decode cX2_exchange 25 = .ok (.getfield 9, 3) := by decide +kernel
theorem dX2_exchange_28 : decode cX2_exchange 28 = .ok (.iload_n 1, 1) := by decide +kernel
theorem dX2_exchange_29 : decode cX2_exchange 29 = .ok (.aload_n 0, 1) := by decide +kernel
theorem dX2_exchange_30 : decode cX2_exchange 30 = .ok (.getfield 9, 3) := by decide +kernel
theorem dX2_exchange_33 : decode cX2_exchange 33 = .ok (.iload_n 2, 1) := by decide +kernel
theorem dX2_exchange_34 : decode cX2_exchange 34 = .ok (.iaload, 1) := by decide +kernel
theorem dX2_exchange_35 : decode cX2_exchange 35 = .ok (.iastore, 1) := by decide +kernel
theorem dX2_exchange_36 : decode cX2_exchange 36 = .ok (.aload_n 0, 1) := by decide +kernel
theorem dX2_exchange_37 : decode cX2_exchange 37 = .ok (.getfield 9, 3) := by decide +kernel
theorem dX2_exchange_40 : decode cX2_exchange 40 = .ok (.iload_n 2, 1) := by decide +kernel
theorem dX2_exchange_41 : decode cX2_exchange 41 = .ok (.iload_n 3, 1) := by decide +kernel
theorem dX2_exchange_42 : decode cX2_exchange 42 = .ok (.iastore, 1) := by decide +kernel
theorem dX2_exchange_43 : decode cX2_exchange 43 = .ok (.aload_n 0, 1) := by decide +kernel
theorem dX2_exchange_44 : decode cX2_exchange 44 = .ok (.getfield 15, 3) := by decide +kernel
theorem dX2_exchange_47 : decode cX2_exchange 47 = .ok (.iload_n 1, 1) := by decide +kernel
theorem dX2_exchange_48 : decode cX2_exchange 48 = .ok (.iaload, 1) := by decide +kernel
theorem dX2_exchange_49 : decode cX2_exchange 49 = .ok (.istore 4, 2) := by decide +kernel
theorem dX2_exchange_51 : decode cX2_exchange 51 = .ok (.aload_n 0, 1) := by decide +kernel
theorem dX2_exchange_52 : decode cX2_exchange 52 = .ok (.getfield 15, 3) := by decide +kernel
theorem dX2_exchange_55 : decode cX2_exchange 55 = .ok (.iload_n 1, 1) := by decide +kernel
theorem dX2_exchange_56 : decode cX2_exchange 56 = .ok (.aload_n 0, 1) := by decide +kernel
theorem dX2_exchange_57 : decode cX2_exchange 57 = .ok (.getfield 15, 3) := by decide +kernel
theorem dX2_exchange_60 : decode cX2_exchange 60 = .ok (.iload_n 2, 1) := by decide +kernel
theorem dX2_exchange_61 : decode cX2_exchange 61 = .ok (.iaload, 1) := by decide +kernel
theorem dX2_exchange_62 : decode cX2_exchange 62 = .ok (.iastore, 1) := by decide +kernel
theorem dX2_exchange_63 : decode cX2_exchange 63 = .ok (.aload_n 0, 1) := by decide +kernel
theorem dX2_exchange_64 : decode cX2_exchange 64 = .ok (.getfield 15, 3) := by decide +kernel
theorem dX2_exchange_67 : decode cX2_exchange 67 = .ok (.iload_n 2, 1) := by decide +kernel
theorem dX2_exchange_68 : decode cX2_exchange 68 = .ok (.iload 4, 2) := by decide +kernel
theorem dX2_exchange_70 : decode cX2_exchange 70 = .ok (.iastore, 1) := by decide +kernel
theorem dX2_exchange_71 : decode cX2_exchange 71 = .ok (.return_, 1) := by decide +kernel
set_option maxRecDepth 20000 in
theorem ggX2_raise_X8_raised : GoodIn wsX2_raise wsX8_raised := goodIn_r _ [5] (by decide +kernel) (by decide +kernel)
set_option maxRecDepth 20000 in
theorem gX2_raise_X8_raised_n35 : GoodIn wsX2_raise (wsX8_raised) := ggX2_raise_X8_raised
theorem dX2_raise_0 : decode cX2_raise 0 = .ok (.iconst 0, 1) := by decide +kernel
theorem dX2_raise_1 : decode cX2_raise 1 = .ok (.istore_n 2, 1) := by decide +kernel
theorem dX2_raise_2 : decode cX2_raise 2 = .ok (.iload_n 2, 1) := by decide +kernel
theorem dX2_raise_3 : decode cX2_raise 3 = .ok (.aload_n 0, 1) := by decide +kernel
theorem dX2_raise_4 : decode cX2_raise 4 = .ok (.getfield 18, 3) := by decide +kernel
theorem dX2_raise_7 : decode cX2_raise 7 = .ok (.if_icmp .ge 25, 3) := by decide +kernel
theorem dX2_raise_10 : decode cX2_raise 10 = .ok (.aload_n 0, 1) := by decide +kernel
theorem dX2_raise_11 : decode cX2_raise 11 = .ok (.getfield 15, 3) := by decide +kernel
theorem dX2_raise_14 : decode cX2_raise 14 = .ok (.iload_n 2, 1) := by decide +kernel
theorem dX2_raise_15 : decode cX2_raise 15 = .ok (.aload_n 0, 1) := by decide +kernel
theorem dX2_raise_16 : decode cX2_raise 16 = .ok (.getfield 15, 3) := by decide +kernel
theorem dX2_raise_19 : decode cX2_raise 19 = .ok (.iload_n 2, 1) := by decide +kernel
theorem dX2_raise_20 : decode cX2_raise 20 = .ok (.iaload, 1) := by decide +kernel
theorem dX2_raise_21 : decode cX2_raise 21 = .ok (.iload_n 1, 1) := by decide +kernel
theorem dX2_raise_22 : decode cX2_raise 22 = .ok (.invokestatic 35, 3) := by decide +kernel
theorem dX2_raise_25 : decode cX2_raise 25 = .ok (.iastore, 1) := by decide +kernel
theorem dX2_raise_26 : decode cX2_raise 26 = .ok (.iinc 2 1, 3) := by decide +kernel
theorem dX2_raise_29 : decode cX2_raise 29 = .ok (.goto (-27), 3) := by decide +kernel
theorem dX2_raise_32 : decode cX2_raise 32 = .ok (.return_, 1) := by decide +kernel
theorem dX2_tonesOfLast_0 : decode cX2_tonesOfLast 0 = .ok (.aload_n 0, 1) := by decide +kernel
theorem dX2_tonesOfLast_1 : decode cX2_tonesOfLast 1 = .ok (.getfield 18, 3) := by decide +kernel
theorem dX2_tonesOfLast_4 : decode cX2_tonesOfLast 4 = .ok (.ifCond .ne 7, 3) := by decide +kernel
theorem dX2_tonesOfLast_7 : decode cX2_tonesOfLast 7 = .ok (.iconst 0, 1) := by decide +kernel
theorem dX2_tonesOfLast_8 : decode cX2_tonesOfLast 8 = .ok (.goto 14, 3) := by decide +kernel
theorem dX2_tonesOfLast_11 : decode cX2_tonesOfLast 11 = .ok (.aload_n 0, 1) := by decide +kernel
theorem dX2_tonesOfLast_12 : decode cX2_tonesOfLast 12 = .ok (.getfield 15, 3) := by decide +kernel
theorem dX2_tonesOfLast_15 : decode cX2_tonesOfLast 15 = .ok (.aload_n 0, 1) := by decide +kernel
theorem dX2_tonesOfLast_16 : decode cX2_tonesOfLast 16 = .ok (.getfield 18, 3) := by decide +kernel
theorem dX2_tonesOfLast_19 : decode cX2_tonesOfLast 19 = .ok (.iconst 1, 1) := by decide +kernel
theorem dX2_tonesOfLast_20 : decode cX2_tonesOfLast 20 = .ok (.isub, 1) := by decide +kernel
theorem dX2_tonesOfLast_21 : decode cX2_tonesOfLast 21 = .ok (.iaload, 1) := by decide +kernel
theorem dX2_tonesOfLast_22 : decode cX2_tonesOfLast 22 = .ok (.ireturn, 1) := by decide +kernel
theorem dX2_addToLast_0 : decode cX2_addToLast 0 = .ok (.aload_n 0, 1) := by decide +kernel
theorem dX2_addToLast_1 : decode cX2_addToLast 1 = .ok (.getfield 18, 3) := by decide +kernel
theorem dX2_addToLast_4 : decode cX2_addToLast 4 = .ok (.ifCond .le 18, 3) := by decide +kernel
theorem dX2_addToLast_7 : decode cX2_addToLast 7 = .ok (.aload_n 0, 1) := by decide +kernel
theorem dX2_addToLast_8 : decode cX2_addToLast 8 = .ok (.getfield 15, 3) := by decide +kernel
theorem dX2_addToLast_11 : decode cX2_addToLast 11 = .ok (.aload_n 0, 1) := by decide +kernel
theorem dX2_addToLast_12 : decode cX2_addToLast 12 = .ok (.getfield 18, 3) := by decide +kernel
theorem dX2_addToLast_15 : decode cX2_addToLast 15 = .ok (.iconst 1, 1) := by decide +kernel
theorem dX2_addToLast_16 : decode cX2_addToLast 16 = .ok (.isub, 1) := by decide +kernel
theorem dX2_addToLast_17 : decode cX2_addToLast 17 = .ok (.dup2, 1) := by decide +kernel
theorem dX2_addToLast_18 : decode cX2_addToLast 18 = .ok (.iaload, 1) := by decide +kernel
theorem dX2_addToLast_19 : decode cX2_addToLast 19 = .ok (.iload_n 1, 1) := by decide +kernel
theorem dX2_addToLast_20 : decode cX2_addToLast 20 = .ok (.ior, 1) := by decide +kernel
theorem dX2_addToLast_21 : decode cX2_addToLast 21 = .ok (.iastore, 1) := by decide +kernel
theorem dX2_addToLast_22 : decode cX2_addToLast 22 = .ok (.return_, 1) := by decide +kernel
theorem dX2_tonesOfAll_0 : decode cX2_tonesOfAll 0 = .ok (.iconst 0, 1) := by decide +kernel
theorem dX2_tonesOfAll_1 : decode cX2_tonesOfAll 1 = .ok (.istore_n 1, 1) := by decide +kernel
theorem dX2_tonesOfAll_2 : decode cX2_tonesOfAll 2 = .ok (.iconst 0, 1) := by decide +kernel
theorem dX2_tonesOfAll_3 : decode cX2_tonesOfAll 3 = .ok (.istore_n 2, 1) := by decide +kernel
theorem dX2_tonesOfAll_4 : decode cX2_tonesOfAll 4 = .ok (.iload_n 2, 1) := by decide +kernel
theorem dX2_tonesOfAll_5 : decode cX2_tonesOfAll 5 = .ok (.aload_n 0, 1) := by decide +kernel
theorem dX2_tonesOfAll_6 : decode cX2_tonesOfAll 6 = .ok (.getfield 18, 3) := by decide +kernel
theorem dX2_tonesOfAll_9 : decode cX2_tonesOfAll 9 = .ok (.if_icmp .ge 18, 3) := by decide +kernel
theorem dX2_tonesOfAll_12 : decode cX2_tonesOfAll 12 = .ok (.iload_n 1, 1) := by decide +kernel
theorem dX2_tonesOfAll_13 : decode cX2_tonesOfAll 13 = .ok (.aload_n 0, 1) := by decide +kernel
theorem dX2_tonesOfAll_14 : decode cX2_tonesOfAll 14 = .ok (.getfield 15, 3) := by decide +kernel
theorem dX2_tonesOfAll_17 : decode cX2_tonesOfAll 17 = .ok (.iload_n 2, 1) := by decide +kernel
theorem dX2_tonesOfAll_18 : decode cX2_tonesOfAll 18 = .ok (.iaload, 1) := by decide +kernel
theorem dX2_tonesOfAll_19 : decode cX2_tonesOfAll 19 = .ok (.ior, 1) := by decide +kernel
theorem dX2_tonesOfAll_20 : decode cX2_tonesOfAll 20 = .ok (.istore_n 1, 1) := by decide +kernel
theorem dX2_tonesOfAll_21 : decode cX2_tonesOfAll 21 = .ok (.iinc 2 1, 3) := by decide +kernel
theorem dX2_tonesOfAll_24 : decode cX2_tonesOfAll 24 = .ok (.goto (-20), 3) := by decide +kernel
theorem dX2_tonesOfAll_27 : decode cX2_tonesOfAll 27 = .ok (.iload_n 1, 1) := by decide +kernel
theorem dX2_tonesOfAll_28 : decode cX2_tonesOfAll 28 = .ok (.ireturn, 1) := by decide +kernel
set_option maxRecDepth 20000 in
theorem ggX3_init_X0_init : GoodIn wsX3_init wsX0_init := goodIn_r _ [19, 20, 2, 3] (by decide +kernel) (by decide +kernel)
set_option maxRecDepth 20000 in
theorem gX3_init_X0_init_n13 : GoodIn wsX3_init (wsX0_init) := ggX3_init_X0_init
theorem dX3_init_0 : decode cX3_init 0 = .ok (.aload_n 0, 1) := by decide +kernel
theorem dX3_init_1 : decode cX3_init 1 = .ok (.invokespecial 5, 3) := by decide +kernel
theorem dX3_init_4 : decode cX3_init 4 = .ok (.aload_n 0, 1) := by decide +kernel
theorem dX3_init_5 : decode cX3_init 5 = .ok (.new 11, 3) := by decide +kernel
theorem dX3_init_8 : decode cX3_init 8 = .ok (.dup, 1) := by decide +kernel
theorem dX3_init_9 : decode cX3_init 9 = .ok (.invokespecial 13, 3) := by decide +kernel
theorem dX3_init_12 : decode cX3_init 12 = .ok (.putfield 14, 3) := by decide +kernel
theorem dX3_init_15 : decode cX3_init 15 = .ok (.aload_n 0, 1) := by decide +kernel
theorem dX3_init_16 : decode cX3_init 16 = .ok (.sipush 2187, 3) := by decide +kernel
theorem dX3_init_19 : decode cX3_init 19 = .ok (.newarray .int, 2) := by decide +kernel
theorem dX3_init_21 : decode cX3_init 21 = .ok (.putfield 18, 3) := by decide +kernel
theorem dX3_init_24 : decode cX3_init 24 = .ok (.aload_n 0, 1) := by decide +kernel
theorem dX3_init_25 : decode cX3_init 25 = .ok (.sipush 2187, 3) := by decide +kernel
theorem dX3_init_28 : decode cX3_init 28 = .ok (.newarray .int, 2) := by decide +kernel
theorem dX3_init_30 : decode cX3_init 30 = .ok (.putfield 22, 3) := by decide +kernel
theorem dX3_init_33 : decode cX3_init 33 = .ok (.aload_n 0, 1) := by decide +kernel
theorem dX3_init_34 : decode cX3_init 34 = .ok (.sipush 2187, 3) := by decide +kernel
theorem dX3_init_37 : decode cX3_init 37 = .ok (.newarray .int, 2) := by decide +kernel
theorem dX3_init_39 : decode cX3_init 39 = .ok (.putfield 25, 3) := by decide +kernel
theorem dX3_init_42 : decode cX3_init 42 = .ok (.aload_n 0, 1) := by decide +kernel
theorem dX3_init_43 : decode cX3_init 43 = .ok (.bipush 8, 2) := by decide +kernel
theorem dX3_init_45 : decode cX3_init 45 = .ok (.sipush 2187, 3) := by decide +kernel
theorem dX3_init_48 : decode cX3_init 48 = .ok (.multianewarray 28 2, 4) := by decide +kernel
theorem dX3_init_52 : decode cX3_init 52 = .ok (.putfield 30, 3) := by decide +kernel
theorem dX3_init_55 : decode cX3_init 55 = .ok (.aload_n 0, 1) := by decide +kernel
theorem dX3_init_56 : decode cX3_init 56 = .ok (.bipush 8, 2) := by decide +kernel
theorem dX3_init_58 : decode cX3_init 58 = .ok (.newarray .int, 2) := by decide +kernel
theorem dX3_init_60 : decode cX3_init 60 = .ok (.putfield 33, 3) := by decide +kernel
theorem dX3_init_63 : decode cX3_init 63 = .ok (.aload_n 0, 1) := by decide +kernel
theorem dX3_init_64 : decode cX3_init 64 = .ok (.bipush 8, 2) := by decide +kernel
theorem dX3_init_66 : decode cX3_init 66 = .ok (.newarray .int, 2) := by decide +kernel
theorem dX3_init_68 : decode cX3_init 68 = .ok (.putfield 36, 3) := by decide +kernel
theorem dX3_init_71 : decode cX3_init 71 = .ok (.aload_n 0, 1) := by decide +kernel
theorem dX3_init_72 : decode cX3_init 72 = .ok (.iconst (-1), 1) := by decide +kernel
theorem dX3_init_73 : decode cX3_init 73 = .ok (.putfield 39, 3) := by decide +kernel
theorem dX3_init_76 : decode cX3_init 76 = .ok (.aload_n 0, 1) := by decide +kernel
theorem dX3_init_77 : decode cX3_init 77 = .ok (.aload_n 1, 1) := by decide +kernel
theorem dX3_init_78 : decode cX3_init 78 = .ok (.putfield 43, 3) := by decide +kernel
theorem dX3_init_81 : decode cX3_init 81 = .ok (.return_, 1) := by decide +kernel
theorem dX3_makeStale_0 : decode cX3_makeStale 0 = .ok (.aload_n 0, 1) := by decide +kernel
theorem dX3_makeStale_1 : decode cX3_makeStale 1 = .ok (.iconst (-1), 1) := by decide +kernel
theorem dX3_makeStale_2 : decode cX3_makeStale 2 = .ok (.putfield 39, 3) := by decide +kernel
theorem dX3_makeStale_5 : decode cX3_makeStale 5 = .ok (.aload_n 0, 1) := by decide +kernel
theorem dX3_makeStale_6 : decode cX3_makeStale 6 = .ok (.iconst 0, 1) := by decide +kernel
theorem dX3_makeStale_7 : decode cX3_makeStale 7 = .ok (.putfield 47, 3) := by decide +kernel
theorem dX3_makeStale_10 : decode cX3_makeStale 10 = .ok (.return_, 1) := by decide +kernel
set_option maxRecDepth 20000 in
theorem ggX3_fewest_X3_goForward : GoodIn wsX3_fewest wsX3_goForward := goodIn_r _ [7, 8, 9, 10, 2, 11, 1, 12, 13, 14, 15, 16, 17, 18, 19, 20, 21, 22, 6, 23, 24, 25, 26, 27, 28, 29, 30, 31, 32, 33, 34, 35, 36, 37, 38, 39, 40, 41, 42, 43, 44, 45, 46, 47, 48, 49, 50, 51, 52, 53, 54, 55, 56, 57, 58, 59, 60, 61, 62, 63, 64, 65, 66, 67, 68, 69, 70, 71, 72, 73, 74, 75, 76, 77, 78, 79, 80, 81, 82, 83, 84, 85, 86, 87, 88, 89, 90, 91, 92, 93, 94, 95, 96, 97, 98, 99, 100, 101, 102] (by decide +kernel) (by decide +kernel)
set_option maxRecDepth 20000 in
theorem gX3_fewest_X3_goForward : GoodIn wsX3_fewest (wsV RX3 51 RX3 yX3_goForward wsX3_goForward) := goodIn_app (goodIn_of _ (by decide +kernel)) ggX3_fewest_X3_goForward
theorem dX3_fewest_0 : decode cX3_fewest 0 = .ok (.aload_n 0, 1) := by decide +kernel
theorem dX3_fewest_1 : decode cX3_fewest 1 = .ok (.aload_n 1, 1) := by decide +kernel
theorem dX3_fewest_2 : decode cX3_fewest 2 = .ok (.iload_n 2, 1) := by decide +kernel
theorem dX3_fewest_3 : decode cX3_fewest 3 = .ok (.invokevirtual 51, 3) := by decide +kernel
theorem dX3_fewest_6 : decode cX3_fewest 6 = .ok (.aload_n 0, 1) := by decide +kernel
theorem dX3_fewest_7 : decode cX3_fewest 7 = .ok (.getfield 55, 3) := by decide +kernel
theorem dX3_fewest_10 : decode cX3_fewest 10 = .ok (.ldc 58, 2) := by decide +kernel
theorem dX3_fewest_12 : decode cX3_fewest 12 = .ok (.if_icmp .ne 7, 3) := by decide +kernel
theorem dX3_fewest_15 : decode cX3_fewest 15 = .ok (.iconst (-1), 1) := by decide +kernel
theorem dX3_fewest_16 : decode cX3_fewest 16 = .ok (.goto 10, 3) := by decide +kernel
theorem dX3_fewest_19 : decode cX3_fewest 19 = .ok (.aload_n 0, 1) := by decide +kernel
theorem dX3_fewest_20 : decode cX3_fewest 20 = .ok (.getfield 55, 3) := by decide +kernel
theorem dX3_fewest_23 : decode cX3_fewest 23 = .ok (.bipush 20, 2) := by decide +kernel
theorem dX3_fewest_25 : decode cX3_fewest 25 = .ok (.ishr, 1) := by decide +kernel
theorem dX3_fewest_26 : decode cX3_fewest 26 = .ok (.ireturn, 1) := by decide +kernel
set_option maxRecDepth 20000 in
theorem ggX3_ways_X3_goForward : GoodIn wsX3_ways wsX3_goForward := goodIn_r _ [8, 9, 10, 11, 2, 12, 1, 13, 14, 15, 16, 17, 18, 19, 20, 21, 22, 23, 7, 24, 25, 26, 27, 28, 29, 30, 31, 32, 33, 34, 35, 36, 37, 38, 39, 40, 41, 42, 43, 44, 45, 46, 47, 48, 49, 50, 51, 52, 53, 54, 55, 56, 57, 58, 59, 60, 61, 62, 63, 64, 65, 66, 3, 67, 68, 69, 70, 71, 72, 73, 74, 75, 76, 77, 78, 79, 80, 81, 82, 83, 84, 85, 86, 87, 88, 89, 90, 91, 92, 93, 94, 95, 96, 97, 98, 99, 100, 101, 102] (by decide +kernel) (by decide +kernel)
set_option maxRecDepth 20000 in
theorem gX3_ways_X3_goForward : GoodIn wsX3_ways (wsV RX3 51 RX3 yX3_goForward wsX3_goForward) := goodIn_app (goodIn_of _ (by decide +kernel)) ggX3_ways_X3_goForward
theorem dX3_ways_0 : decode cX3_ways 0 = .ok (.aload_n 0, 1) := by decide +kernel
theorem dX3_ways_1 : decode cX3_ways 1 = .ok (.aload_n 1, 1) := by decide +kernel
theorem dX3_ways_2 : decode cX3_ways 2 = .ok (.iconst 0, 1) := by decide +kernel
theorem dX3_ways_3 : decode cX3_ways 3 = .ok (.invokevirtual 51, 3) := by decide +kernel
theorem dX3_ways_6 : decode cX3_ways 6 = .ok (.aload_n 0, 1) := by decide +kernel
theorem dX3_ways_7 : decode cX3_ways 7 = .ok (.getfield 55, 3) := by decide +kernel
theorem dX3_ways_10 : decode cX3_ways 10 = .ok (.ldc 58, 2) := by decide +kernel
theorem dX3_ways_12 : decode cX3_ways 12 = .ok (.if_icmp .ne 7, 3) := by decide +kernel
theorem dX3_ways_15 : decode cX3_ways 15 = .ok (.iconst 0, 1) := by decide +kernel
theorem dX3_ways_16 : decode cX3_ways 16 = .ok (.goto 10, 3) := by decide +kernel
theorem dX3_ways_19 : decode cX3_ways 19 = .ok (.aload_n 0, 1) := by decide +kernel
theorem dX3_ways_20 : decode cX3_ways 20 = .ok (.getfield 55, 3) := by decide +kernel
theorem dX3_ways_23 : decode cX3_ways 23 = .ok (.ldc 59, 2) := by decide +kernel
theorem dX3_ways_25 : decode cX3_ways 25 = .ok (.iand, 1) := by decide +kernel
theorem dX3_ways_26 : decode cX3_ways 26 = .ok (.ireturn, 1) := by decide +kernel
set_option maxRecDepth 20000 in
theorem ggX3_stuckAt_X3_goForward : GoodIn wsX3_stuckAt wsX3_goForward := goodIn_r _ [6, 7, 8, 9, 10, 1, 11, 12, 13, 14, 15, 16, 17, 18, 19, 20, 21, 22, 5, 23, 24, 25, 26, 27, 28, 29, 30, 31, 32, 33, 34, 35, 36, 37, 38, 39, 40, 41, 42, 43, 44, 45, 46, 47, 48, 49, 50, 51, 52, 53, 54, 55, 56, 57, 58, 59, 60, 61, 62, 63, 64, 65, 66, 67, 68, 69, 70, 71, 72, 73, 74, 75, 76, 77, 78, 79, 80, 81, 82, 83, 88, 89, 90, 91, 92, 93, 94, 95, 96, 97, 98, 99, 84, 85, 86, 87, 100, 101, 102] (by decide +kernel) (by decide +kernel)
set_option maxRecDepth 20000 in
theorem gX3_stuckAt_X3_goForward : GoodIn wsX3_stuckAt (wsV RX3 51 RX3 yX3_goForward wsX3_goForward) := goodIn_app (goodIn_of _ (by decide +kernel)) ggX3_stuckAt_X3_goForward
theorem dX3_stuckAt_0 : decode cX3_stuckAt 0 = .ok (.aload_n 0, 1) := by decide +kernel
theorem dX3_stuckAt_1 : decode cX3_stuckAt 1 = .ok (.aload_n 1, 1) := by decide +kernel
theorem dX3_stuckAt_2 : decode cX3_stuckAt 2 = .ok (.iconst 0, 1) := by decide +kernel
theorem dX3_stuckAt_3 : decode cX3_stuckAt 3 = .ok (.invokevirtual 51, 3) := by decide +kernel
theorem dX3_stuckAt_6 : decode cX3_stuckAt 6 = .ok (.iconst 0, 1) := by decide +kernel
theorem dX3_stuckAt_7 : decode cX3_stuckAt 7 = .ok (.istore_n 2, 1) := by decide +kernel
theorem dX3_stuckAt_8 : decode cX3_stuckAt 8 = .ok (.iload_n 2, 1) := by decide +kernel
theorem dX3_stuckAt_9 : decode cX3_stuckAt 9 = .ok (.aload_n 1, 1) := by decide +kernel
theorem dX3_stuckAt_10 : decode cX3_stuckAt 10 = .ok (.getfield 60, 3) := by decide +kernel
theorem dX3_stuckAt_13 : decode cX3_stuckAt 13 = .ok (.if_icmp .ge 20, 3) := by decide +kernel
theorem dX3_stuckAt_16 : decode cX3_stuckAt 16 = .ok (.aload_n 0, 1) := by decide +kernel
theorem dX3_stuckAt_17 : decode cX3_stuckAt 17 = .ok (.getfield 33, 3) := by decide +kernel
theorem dX3_stuckAt_20 : decode cX3_stuckAt 20 = .ok (.iload_n 2, 1) := by decide +kernel
theorem dX3_stuckAt_21 : decode cX3_stuckAt 21 = .ok (.iaload, 1) := by decide +kernel
theorem dX3_stuckAt_22 : decode cX3_stuckAt 22 = .ok (.ifCond .ne 5, 3) := by decide +kernel
theorem dX3_stuckAt_25 : decode cX3_stuckAt 25 = .ok (.iload_n 2, 1) := by decide +kernel
theorem dX3_stuckAt_26 : decode cX3_stuckAt 26 = .ok (.ireturn, 1) := by decide +kernel
theorem dX3_stuckAt_27 : decode cX3_stuckAt 27 = .ok (.iinc 2 1, 3) := by decide +kernel
theorem dX3_stuckAt_30 : decode cX3_stuckAt 30 = .ok (.goto (-22), 3) := by decide +kernel
theorem dX3_stuckAt_33 : decode cX3_stuckAt 33 = .ok (.iconst (-1), 1) := by decide +kernel
theorem dX3_stuckAt_34 : decode cX3_stuckAt 34 = .ok (.ireturn, 1) := by decide +kernel
set_option maxRecDepth 20000 in
theorem ggX3_howManyReached_X3_goForward : GoodIn wsX3_howManyReached wsX3_goForward := goodIn_r _ [6, 7, 8, 9, 10, 1, 11, 12, 13, 14, 15, 16, 17, 18, 19, 20, 21, 22, 5, 23, 24, 25, 26, 27, 28, 29, 30, 31, 32, 33, 34, 35, 36, 37, 38, 39, 40, 41, 42, 43, 44, 45, 46, 47, 48, 49, 50, 51, 52, 53, 54, 55, 56, 57, 58, 59, 60, 61, 62, 63, 64, 65, 66, 67, 68, 69, 70, 71, 72, 73, 74, 75, 76, 77, 78, 79, 80, 81, 82, 83, 90, 91, 92, 93, 94, 95, 96, 97, 98, 99, 100, 101, 102, 103, 104, 105, 106, 107, 108] (by decide +kernel) (by decide +kernel)
set_option maxRecDepth 20000 in
theorem gX3_howManyReached_X3_goForward : GoodIn wsX3_howManyReached (wsV RX3 51 RX3 yX3_goForward wsX3_goForward) := goodIn_app (goodIn_of _ (by decide +kernel)) ggX3_howManyReached_X3_goForward
set_option maxRecDepth 20000 in
theorem ggX3_howManyReached_X2_has : GoodIn wsX3_howManyReached wsX2_has := goodIn_r _ [88, 89, 102, 103, 104, 105] (by decide +kernel) (by decide +kernel)
set_option maxRecDepth 20000 in
theorem gX3_howManyReached_X2_has : GoodIn wsX3_howManyReached (wsV RX3 65 RX2 yX2_has wsX2_has) := goodIn_app (goodIn_of _ (by decide +kernel)) ggX3_howManyReached_X2_has
theorem dX3_howManyReached_0 : decode cX3_howManyReached 0 = .ok (.aload_n 0, 1) := by decide +kernel
theorem dX3_howManyReached_1 : decode cX3_howManyReached 1 = .ok (.aload_n 1, 1) := by decide +kernel
theorem dX3_howManyReached_2 : decode cX3_howManyReached 2 = .ok (.iconst 0, 1) := by decide +kernel
theorem dX3_howManyReached_3 : decode cX3_howManyReached 3 = .ok (.invokevirtual 51, 3) := by decide +kernel
theorem dX3_howManyReached_6 : decode cX3_howManyReached 6 = .ok (.aload_n 1, 1) := by decide +kernel
theorem dX3_howManyReached_7 : decode cX3_howManyReached 7 = .ok (.iload_n 2, 1) := by decide +kernel
theorem dX3_howManyReached_8 : decode cX3_howManyReached 8 = .ok (.invokevirtual 65, 3) := by decide +kernel
theorem dX3_howManyReached_11 : decode cX3_howManyReached 11 = .ok (.ifCond .eq 12, 3) := by decide +kernel
theorem dX3_howManyReached_14 : decode cX3_howManyReached 14 = .ok (.aload_n 0, 1) := by decide +kernel
theorem dX3_howManyReached_15 : decode cX3_howManyReached 15 = .ok (.getfield 33, 3) := by decide +kernel
theorem dX3_howManyReached_18 : decode cX3_howManyReached 18 = .ok (.iload_n 2, 1) := by decide +kernel
theorem dX3_howManyReached_19 : decode cX3_howManyReached 19 = .ok (.iaload, 1) := by decide +kernel
theorem dX3_howManyReached_20 : decode cX3_howManyReached 20 = .ok (.goto 4, 3) := by decide +kernel
theorem dX3_howManyReached_23 : decode cX3_howManyReached 23 = .ok (.iconst 0, 1) := by decide +kernel
theorem dX3_howManyReached_24 : decode cX3_howManyReached 24 = .ok (.ireturn, 1) := by decide +kernel
set_option maxRecDepth 20000 in
theorem ggX3_bestSetting_X3_findBest : GoodIn wsX3_bestSetting wsX3_findBest := goodIn_r _ [6, 7, 8, 9, 10, 11, 12, 5, 13, 14, 15, 16, 17, 18, 19, 20, 21, 22, 23, 24, 25, 26, 27, 28, 29, 30, 31, 32, 33, 34, 35, 36, 37, 38, 39, 40, 41, 42, 43, 44, 45, 46, 47, 48, 49, 50, 51, 52, 53, 54, 55, 56, 57, 58, 59, 60, 61, 62, 63, 64, 65, 66, 67, 68, 69, 70, 71, 72, 73, 74, 75, 76, 77, 78, 79, 80, 1, 81, 82, 83, 84, 85, 86, 87, 88, 89, 90, 101, 102, 103, 104, 105, 106, 107, 108, 109, 110, 111, 112, 113, 114, 115, 116, 117, 118, 119] (by decide +kernel) (by decide +kernel)
set_option maxRecDepth 20000 in
theorem gX3_bestSetting_X3_findBest : GoodIn wsX3_bestSetting (wsV RX3 69 RX3 yX3_findBest wsX3_findBest) := goodIn_app (goodIn_of _ (by decide +kernel)) ggX3_bestSetting_X3_findBest
set_option maxRecDepth 20000 in
theorem ggX3_bestSetting_X2_has : GoodIn wsX3_bestSetting wsX2_has := goodIn_r _ [95, 96, 113, 114, 115, 116] (by decide +kernel) (by decide +kernel)
set_option maxRecDepth 20000 in
theorem gX3_bestSetting_X2_has : GoodIn wsX3_bestSetting (wsV RX3 65 RX2 yX2_has wsX2_has) := goodIn_app (goodIn_of _ (by decide +kernel)) ggX3_bestSetting_X2_has
set_option maxRecDepth 20000 in
theorem ggX3_bestSetting_X7_numberOf : GoodIn wsX3_bestSetting wsX7_numberOf := goodIn_r _ [99, 100, 58, 19, 59] (by decide +kernel) (by decide +kernel)
set_option maxRecDepth 20000 in
theorem gX3_bestSetting_X7_numberOf : GoodIn wsX3_bestSetting (va_wsS RX3 73 yX7_numberOf wsX7_numberOf) := goodIn_app (goodIn_of _ (by decide +kernel)) ggX3_bestSetting_X7_numberOf
theorem dX3_bestSetting_0 : decode cX3_bestSetting 0 = .ok (.aload_n 0, 1) := by decide +kernel
theorem dX3_bestSetting_1 : decode cX3_bestSetting 1 = .ok (.aload_n 1, 1) := by decide +kernel
theorem dX3_bestSetting_2 : decode cX3_bestSetting 2 = .ok (.invokevirtual 69, 3) := by decide +kernel
theorem dX3_bestSetting_5 : decode cX3_bestSetting 5 = .ok (.aload_n 1, 1) := by decide +kernel
theorem dX3_bestSetting_6 : decode cX3_bestSetting 6 = .ok (.iload_n 2, 1) := by decide +kernel
theorem dX3_bestSetting_7 : decode cX3_bestSetting 7 = .ok (.invokevirtual 65, 3) := by decide +kernel
theorem dX3_bestSetting_10 : decode cX3_bestSetting 10 = .ok (.ifCond .eq 17, 3) := by decide +kernel
theorem dX3_bestSetting_13 : decode cX3_bestSetting 13 = .ok (.aload_n 0, 1) := by decide +kernel
theorem dX3_bestSetting_14 : decode cX3_bestSetting 14 = .ok (.getfield 36, 3) := by decide +kernel
theorem dX3_bestSetting_17 : decode cX3_bestSetting 17 = .ok (.iload_n 2, 1) := by decide +kernel
theorem dX3_bestSetting_18 : decode cX3_bestSetting 18 = .ok (.iaload, 1) := by decide +kernel
theorem dX3_bestSetting_19 : decode cX3_bestSetting 19 = .ok (.iconst (-1), 1) := by decide +kernel
theorem dX3_bestSetting_20 : decode cX3_bestSetting 20 = .ok (.if_icmp .eq 7, 3) := by decide +kernel
theorem dX3_bestSetting_23 : decode cX3_bestSetting 23 = .ok (.iconst 1, 1) := by decide +kernel
theorem dX3_bestSetting_24 : decode cX3_bestSetting 24 = .ok (.goto 4, 3) := by decide +kernel
theorem dX3_bestSetting_27 : decode cX3_bestSetting 27 = .ok (.iconst 0, 1) := by decide +kernel
theorem dX3_bestSetting_28 : decode cX3_bestSetting 28 = .ok (.istore_n 3, 1) := by decide +kernel
theorem dX3_bestSetting_29 : decode cX3_bestSetting 29 = .ok (.iload_n 3, 1) := by decide +kernel
theorem dX3_bestSetting_30 : decode cX3_bestSetting 30 = .ok (.ifCond .eq 15, 3) := by decide +kernel
theorem dX3_bestSetting_33 : decode cX3_bestSetting 33 = .ok (.aload_n 0, 1) := by decide +kernel
theorem dX3_bestSetting_34 : decode cX3_bestSetting 34 = .ok (.getfield 36, 3) := by decide +kernel
theorem dX3_bestSetting_37 : decode cX3_bestSetting 37 = .ok (.iload_n 2, 1) := by decide +kernel
theorem dX3_bestSetting_38 : decode cX3_bestSetting 38 = .ok (.iaload, 1) := by decide +kernel
theorem dX3_bestSetting_39 : decode cX3_bestSetting 39 = .ok (.invokestatic 73, 3) := by decide +kernel
theorem dX3_bestSetting_42 : decode cX3_bestSetting 42 = .ok (.goto 4, 3) := by decide +kernel
theorem dX3_bestSetting_45 : decode cX3_bestSetting 45 = .ok (.iconst (-1), 1) := by decide +kernel
theorem dX3_bestSetting_46 : decode cX3_bestSetting 46 = .ok (.ireturn, 1) := by decide +kernel
set_option maxRecDepth 20000 in
theorem ggX3_bestBegin_X3_findBest : GoodIn wsX3_bestBegin wsX3_findBest := goodIn_r _ [6, 7, 8, 1, 9, 10, 11, 5, 12, 13, 14, 15, 16, 17, 18, 19, 20, 21, 22, 23, 24, 25, 26, 27, 28, 29, 30, 31, 32, 33, 34, 35, 36, 37, 38, 39, 40, 41, 42, 43, 44, 45, 46, 47, 48, 49, 50, 51, 52, 53, 54, 55, 56, 57, 58, 59, 60, 61, 62, 63, 64, 65, 66, 67, 68, 69, 70, 71, 72, 73, 74, 75, 76, 77, 78, 79, 80, 81, 82, 83, 84, 85, 86, 87, 88, 89, 90, 95, 96, 97, 98, 99, 100, 101, 102, 103, 104, 105, 106, 107, 108, 109, 110, 111, 112, 113] (by decide +kernel) (by decide +kernel)
set_option maxRecDepth 20000 in
theorem gX3_bestBegin_X3_findBest : GoodIn wsX3_bestBegin (wsV RX3 69 RX3 yX3_findBest wsX3_findBest) := goodIn_app (goodIn_of _ (by decide +kernel)) ggX3_bestBegin_X3_findBest
set_option maxRecDepth 20000 in
theorem ggX3_bestBegin_X7_numberOf : GoodIn wsX3_bestBegin wsX7_numberOf := goodIn_r _ [93, 94, 57, 18, 58] (by decide +kernel) (by decide +kernel)
set_option maxRecDepth 20000 in
theorem gX3_bestBegin_X7_numberOf : GoodIn wsX3_bestBegin (va_wsS RX3 73 yX7_numberOf wsX7_numberOf) := goodIn_app (goodIn_of _ (by decide +kernel)) ggX3_bestBegin_X7_numberOf
theorem dX3_bestBegin_0 : decode cX3_bestBegin 0 = .ok (.aload_n 0, 1) := by decide +kernel
theorem dX3_bestBegin_1 : decode cX3_bestBegin 1 = .ok (.aload_n 1, 1) := by decide +kernel
theorem dX3_bestBegin_2 : decode cX3_bestBegin 2 = .ok (.invokevirtual 69, 3) := by decide +kernel
theorem dX3_bestBegin_5 : decode cX3_bestBegin 5 = .ok (.aload_n 0, 1) := by decide +kernel
theorem dX3_bestBegin_6 : decode cX3_bestBegin 6 = .ok (.getfield 79, 3) := by decide +kernel
theorem dX3_bestBegin_9 : decode cX3_bestBegin 9 = .ok (.iconst (-1), 1) := by decide +kernel
theorem dX3_bestBegin_10 : decode cX3_bestBegin 10 = .ok (.if_icmp .ne 7, 3) := by decide +kernel
theorem dX3_bestBegin_13 : decode cX3_bestBegin 13 = .ok (.iconst (-1), 1) := by decide +kernel
theorem dX3_bestBegin_14 : decode cX3_bestBegin 14 = .ok (.goto 10, 3) := by decide +kernel
theorem dX3_bestBegin_17 : decode cX3_bestBegin 17 = .ok (.aload_n 0, 1) := by decide +kernel
theorem dX3_bestBegin_18 : decode cX3_bestBegin 18 = .ok (.getfield 79, 3) := by decide +kernel
theorem dX3_bestBegin_21 : decode cX3_bestBegin 21 = .ok (.invokestatic 73, 3) := by decide +kernel
theorem dX3_bestBegin_24 : decode cX3_bestBegin 24 = .ok (.ireturn, 1) := by decide +kernel
set_option maxRecDepth 20000 in
theorem ggX3_goForward_J7_fill_53178 : GoodIn wsX3_goForward wsJ7_fill_53178 := goodIn_r _ [10] (by decide +kernel) (by decide +kernel)
set_option maxRecDepth 20000 in
theorem gX3_goForward_J7_fill_53178 : GoodIn wsX3_goForward (va_wsS RX3 82 yJ7_fill_53178 wsJ7_fill_53178) := goodIn_app (goodIn_of _ (by decide +kernel)) ggX3_goForward_J7_fill_53178
set_option maxRecDepth 20000 in
theorem ggX3_goForward_X7_isSetting : GoodIn wsX3_goForward wsX7_isSetting := goodIn_r _ [14] (by decide +kernel) (by decide +kernel)
set_option maxRecDepth 20000 in
theorem gX3_goForward_X7_isSetting : GoodIn wsX3_goForward (va_wsS RX3 89 yX7_isSetting wsX7_isSetting) := goodIn_app (goodIn_of _ (by decide +kernel)) ggX3_goForward_X7_isSetting
set_option maxRecDepth 20000 in
theorem ggX3_goForward_X3_setGapAheadOf : GoodIn wsX3_goForward wsX3_setGapAheadOf := goodIn_r _ [19, 20, 21, 22, 23, 24, 25, 26, 27, 28, 29, 30, 31, 32, 33, 34, 13, 35, 36, 92, 93, 94, 95, 80, 81, 82, 83, 84, 85, 86, 87, 88, 89, 90, 91, 96, 97] (by decide +kernel) (by decide +kernel)
set_option maxRecDepth 20000 in
theorem gX3_goForward_X3_setGapAheadOf : GoodIn wsX3_goForward (wsV RX3 92 RX3 yX3_setGapAheadOf wsX3_setGapAheadOf) := goodIn_app (goodIn_of _ (by decide +kernel)) ggX3_goForward_X3_setGapAheadOf
set_option maxRecDepth 20000 in
theorem ggX3_goForward_X8_raised : GoodIn wsX3_goForward wsX8_raised := goodIn_r _ [25] (by decide +kernel) (by decide +kernel)
set_option maxRecDepth 20000 in
theorem gX3_goForward_X8_raised_n102 : GoodIn wsX3_goForward (wsX8_raised) := ggX3_goForward_X8_raised
set_option maxRecDepth 20000 in
theorem ggX3_goForward_X3_cross : GoodIn wsX3_goForward wsX3_cross := goodIn_r _ [40, 20, 41, 42, 43, 44, 45, 46, 4, 47, 48, 49, 18, 50, 51, 52, 53, 13, 54, 55, 56, 57, 29, 58, 32, 59, 60, 61, 62, 63, 64, 65, 66, 67, 68, 69, 70, 71, 72, 73, 80, 81, 82, 83, 84, 85, 86, 87, 88, 89, 90, 91, 96, 97, 98] (by decide +kernel) (by decide +kernel)
set_option maxRecDepth 20000 in
theorem gX3_goForward_X3_cross : GoodIn wsX3_goForward (wsV RX3 106 RX3 yX3_cross wsX3_cross) := goodIn_app (goodIn_of _ (by decide +kernel)) ggX3_goForward_X3_cross
set_option maxRecDepth 20000 in
theorem ggX3_goForward_X3_howManyScored : GoodIn wsX3_goForward wsX3_howManyScored := goodIn_r _ [76, 4] (by decide +kernel) (by decide +kernel)
set_option maxRecDepth 20000 in
theorem gX3_goForward_X3_howManyScored : GoodIn wsX3_goForward (va_wsS RX3 110 yX3_howManyScored wsX3_howManyScored) := goodIn_app (goodIn_of _ (by decide +kernel)) ggX3_goForward_X3_howManyScored
set_option maxRecDepth 20000 in
theorem ggX3_goForward_X3_bestScore : GoodIn wsX3_goForward wsX3_bestScore := goodIn_r _ [79, 4, 59, 60, 18, 61, 62, 63, 64] (by decide +kernel) (by decide +kernel)
set_option maxRecDepth 20000 in
theorem gX3_goForward_X3_bestScore : GoodIn wsX3_goForward (va_wsS RX3 114 yX3_bestScore wsX3_bestScore) := goodIn_app (goodIn_of _ (by decide +kernel)) ggX3_goForward_X3_bestScore
theorem dX3_goForward_0 : decode cX3_goForward 0 = .ok (.aload_n 0, 1) := by decide +kernel
theorem dX3_goForward_1 : decode cX3_goForward 1 = .ok (.getfield 39, 3) := by decide +kernel
theorem dX3_goForward_4 : decode cX3_goForward 4 = .ok (.iload_n 2, 1) := by decide +kernel
theorem dX3_goForward_5 : decode cX3_goForward 5 = .ok (.if_icmp .ne 4, 3) := by decide +kernel
theorem dX3_goForward_8 : decode cX3_goForward 8 = .ok (.return_, 1) := by decide +kernel
theorem dX3_goForward_9 : decode cX3_goForward 9 = .ok (.aload_n 0, 1) := by decide +kernel
theorem dX3_goForward_10 : decode cX3_goForward 10 = .ok (.getfield 18, 3) := by decide +kernel
theorem dX3_goForward_13 : decode cX3_goForward 13 = .ok (.astore_n 3, 1) := by decide +kernel
theorem dX3_goForward_14 : decode cX3_goForward 14 = .ok (.aload_n 0, 1) := by decide +kernel
theorem dX3_goForward_15 : decode cX3_goForward 15 = .ok (.getfield 22, 3) := by decide +kernel
theorem dX3_goForward_18 : decode cX3_goForward 18 = .ok (.astore 4, 2) := by decide +kernel
theorem dX3_goForward_20 : decode cX3_goForward 20 = .ok (.aload_n 3, 1) := by decide +kernel
theorem dX3_goForward_21 : decode cX3_goForward 21 = .ok (.ldc 58, 2) := by decide +kernel
theorem dX3_goForward_23 : decode cX3_goForward 23 = .ok (.invokestatic 82, 3) := by decide +kernel
theorem dX3_goForward_26 : decode cX3_goForward 26 = .ok (.aload_n 1, 1) := by decide +kernel
theorem dX3_goForward_27 : decode cX3_goForward 27 = .ok (.getfield 88, 3) := by decide +kernel
theorem dX3_goForward_30 : decode cX3_goForward 30 = .ok (.invokestatic 89, 3) := by decide +kernel
theorem dX3_goForward_33 : decode cX3_goForward 33 = .ok (.ifCond .eq 10, 3) := by decide +kernel
theorem dX3_goForward_36 : decode cX3_goForward 36 = .ok (.aload_n 3, 1) := by decide +kernel
theorem dX3_goForward_37 : decode cX3_goForward 37 = .ok (.aload_n 1, 1) := by decide +kernel
theorem dX3_goForward_38 : decode cX3_goForward 38 = .ok (.getfield 88, 3) := by decide +kernel
theorem dX3_goForward_41 : decode cX3_goForward 41 = .ok (.iconst 1, 1) := by decide +kernel
theorem dX3_goForward_42 : decode cX3_goForward 42 = .ok (.iastore, 1) := by decide +kernel
theorem dX3_goForward_43 : decode cX3_goForward 43 = .ok (.iconst 0, 1) := by decide +kernel
theorem dX3_goForward_44 : decode cX3_goForward 44 = .ok (.istore 5, 2) := by decide +kernel
theorem dX3_goForward_46 : decode cX3_goForward 46 = .ok (.iload 5, 2) := by decide +kernel
theorem dX3_goForward_48 : decode cX3_goForward 48 = .ok (.aload_n 1, 1) := by decide +kernel
theorem dX3_goForward_49 : decode cX3_goForward 49 = .ok (.getfield 60, 3) := by decide +kernel
theorem dX3_goForward_52 : decode cX3_goForward 52 = .ok (.if_icmp .ge 65, 3) := by decide +kernel
theorem dX3_goForward_55 : decode cX3_goForward 55 = .ok (.aload_n 0, 1) := by decide +kernel
theorem dX3_goForward_56 : decode cX3_goForward 56 = .ok (.aload_n 1, 1) := by decide +kernel
theorem dX3_goForward_57 : decode cX3_goForward 57 = .ok (.iload 5, 2) := by decide +kernel
theorem dX3_goForward_59 : decode cX3_goForward 59 = .ok (.iload_n 2, 1) := by decide +kernel
theorem dX3_goForward_60 : decode cX3_goForward 60 = .ok (.invokevirtual 92, 3) := by decide +kernel
theorem dX3_goForward_63 : decode cX3_goForward 63 = .ok (.aload_n 0, 1) := by decide +kernel
theorem dX3_goForward_64 : decode cX3_goForward 64 = .ok (.aload_n 3, 1) := by decide +kernel
theorem dX3_goForward_65 : decode cX3_goForward 65 = .ok (.aload 4, 2) := by decide +kernel
theorem dX3_goForward_67 : decode cX3_goForward 67 = .ok (.aload_n 1, 1) := by decide +kernel
theorem dX3_goForward_68 : decode cX3_goForward 68 = .ok (.getfield 96, 3) := by decide +kernel
theorem dX3_goForward_71 : decode cX3_goForward 71 = .ok (.iload 5, 2) := by decide +kernel
theorem dX3_goForward_73 : decode cX3_goForward 73 = .ok (.iaload, 1) := by decide +kernel
theorem dX3_goForward_74 : decode cX3_goForward 74 = .ok (.aload_n 1, 1) := by decide +kernel
theorem dX3_goForward_75 : decode cX3_goForward 75 = .ok (.getfield 99, 3) := by decide +kernel
theorem dX3_goForward_78 : decode cX3_goForward 78 = .ok (.iload 5, 2) := by decide +kernel
theorem dX3_goForward_80 : decode cX3_goForward 80 = .ok (.iaload, 1) := by decide +kernel
theorem dX3_goForward_81 : decode cX3_goForward 81 = .ok (.iload_n 2, 1) := by decide +kernel
theorem dX3_goForward_82 : decode cX3_goForward 82 = .ok (.invokestatic 102, 3) := by decide +kernel
theorem dX3_goForward_85 : decode cX3_goForward 85 = .ok (.iconst 1, 1) := by decide +kernel
theorem dX3_goForward_86 : decode cX3_goForward 86 = .ok (.invokevirtual 106, 3) := by decide +kernel
theorem dX3_goForward_89 : decode cX3_goForward 89 = .ok (.aload_n 0, 1) := by decide +kernel
theorem dX3_goForward_90 : decode cX3_goForward 90 = .ok (.getfield 33, 3) := by decide +kernel
theorem dX3_goForward_93 : decode cX3_goForward 93 = .ok (.iload 5, 2) := by decide +kernel
theorem dX3_goForward_95 : decode cX3_goForward 95 = .ok (.aload 4, 2) := by decide +kernel
theorem dX3_goForward_97 : decode cX3_goForward 97 = .ok (.invokestatic 110, 3) := by decide +kernel
theorem dX3_goForward_100 : decode cX3_goForward 100 = .ok (.iastore, 1) := by decide +kernel
theorem dX3_goForward_101 : decode cX3_goForward 101 = .ok (.aload_n 3, 1) := by decide +kernel
theorem dX3_goForward_102 : decode cX3_goForward 102 = .ok (.astore 6, 2) := by decide +kernel
theorem dX3_goForward_104 : decode cX3_goForward 104 = .ok (.aload 4, 2) := by decide +kernel
theorem dX3_goForward_106 : decode cX3_goForward 106 = .ok (.astore_n 3, 1) := by decide +kernel
theorem dX3_goForward_107 : decode cX3_goForward 107 = .ok (.aload 6, 2) := by decide +kernel
theorem dX3_goForward_109 : decode cX3_goForward 109 = .ok (.astore 4, 2) := by decide +kernel
theorem dX3_goForward_111 : decode cX3_goForward 111 = .ok (.iinc 5 1, 3) := by decide +kernel
theorem dX3_goForward_114 : decode cX3_goForward 114 = .ok (.goto (-68), 3) := by decide +kernel
theorem dX3_goForward_117 : decode cX3_goForward 117 = .ok (.aload_n 0, 1) := by decide +kernel
theorem dX3_goForward_118 : decode cX3_goForward 118 = .ok (.aload_n 3, 1) := by decide +kernel
theorem dX3_goForward_119 : decode cX3_goForward 119 = .ok (.invokestatic 114, 3) := by decide +kernel
theorem dX3_goForward_122 : decode cX3_goForward 122 = .ok (.putfield 55, 3) := by decide +kernel
theorem dX3_goForward_125 : decode cX3_goForward 125 = .ok (.aload_n 0, 1) := by decide +kernel
theorem dX3_goForward_126 : decode cX3_goForward 126 = .ok (.iload_n 2, 1) := by decide +kernel
theorem dX3_goForward_127 : decode cX3_goForward 127 = .ok (.putfield 39, 3) := by decide +kernel
theorem dX3_goForward_130 : decode cX3_goForward 130 = .ok (.return_, 1) := by decide +kernel
set_option maxRecDepth 20000 in
theorem ggX3_findBest_X3_goBackward : GoodIn wsX3_findBest wsX3_goBackward := goodIn_r _ [8, 9, 2, 10, 11, 12, 13, 14, 15, 16, 17, 18, 19, 7, 20, 21, 22, 23, 24, 25, 26, 27, 28, 29, 30, 31, 32, 33, 34, 35, 36, 37, 38, 39, 40, 41, 42, 43, 44, 45, 46, 47, 48, 49, 50, 51, 52, 53, 54, 55, 56, 57, 58, 59, 60, 61, 62, 63, 64, 65, 66, 67, 68, 99, 100, 101, 102, 87, 88, 89, 90, 91, 92, 93, 94, 95, 96, 97, 98, 103, 104, 105] (by decide +kernel) (by decide +kernel)
set_option maxRecDepth 20000 in
theorem gX3_findBest_X3_goBackward : GoodIn wsX3_findBest (wsV RX3 117 RX3 yX3_goBackward wsX3_goBackward) := goodIn_app (goodIn_of _ (by decide +kernel)) ggX3_findBest_X3_goBackward
set_option maxRecDepth 20000 in
theorem ggX3_findBest_X3_settingOfBestScore : GoodIn wsX3_findBest wsX3_settingOfBestScore := goodIn_r _ [71] (by decide +kernel) (by decide +kernel)
set_option maxRecDepth 20000 in
theorem gX3_findBest_X3_settingOfBestScore : GoodIn wsX3_findBest (va_wsS RX3 120 yX3_settingOfBestScore wsX3_settingOfBestScore) := goodIn_app (goodIn_of _ (by decide +kernel)) ggX3_findBest_X3_settingOfBestScore
set_option maxRecDepth 20000 in
theorem ggX3_findBest_X3_followBest : GoodIn wsX3_findBest wsX3_followBest := goodIn_r _ [75, 2, 76, 17, 18, 19, 7, 20, 21, 22, 23, 24, 25, 26, 27, 28, 29, 30, 31, 32, 33, 34, 35, 14, 36, 37, 77, 78, 79, 80, 10, 81, 82, 83, 84, 85, 53, 54, 86, 56, 57, 58, 99, 100, 101, 102, 87, 88, 89, 90, 91, 92, 93, 94, 95, 96, 97, 98, 104, 105] (by decide +kernel) (by decide +kernel)
set_option maxRecDepth 20000 in
theorem gX3_findBest_X3_followBest : GoodIn wsX3_findBest (wsV RX3 123 RX3 yX3_followBest wsX3_followBest) := goodIn_app (goodIn_of _ (by decide +kernel)) ggX3_findBest_X3_followBest
theorem dX3_findBest_0 : decode cX3_findBest 0 = .ok (.aload_n 0, 1) := by decide +kernel
theorem dX3_findBest_1 : decode cX3_findBest 1 = .ok (.getfield 47, 3) := by decide +kernel
theorem dX3_findBest_4 : decode cX3_findBest 4 = .ok (.ifCond .ne 42, 3) := by decide +kernel
theorem dX3_findBest_7 : decode cX3_findBest 7 = .ok (.aload_n 0, 1) := by decide +kernel
theorem dX3_findBest_8 : decode cX3_findBest 8 = .ok (.aload_n 1, 1) := by decide +kernel
theorem dX3_findBest_9 : decode cX3_findBest 9 = .ok (.invokevirtual 117, 3) := by decide +kernel
theorem dX3_findBest_12 : decode cX3_findBest 12 = .ok (.aload_n 0, 1) := by decide +kernel
theorem dX3_findBest_13 : decode cX3_findBest 13 = .ok (.aload_n 1, 1) := by decide +kernel
theorem dX3_findBest_14 : decode cX3_findBest 14 = .ok (.getfield 60, 3) := by decide +kernel
theorem dX3_findBest_17 : decode cX3_findBest 17 = .ok (.ifCond .ne 7, 3) := by decide +kernel
theorem dX3_findBest_20 : decode cX3_findBest 20 = .ok (.iconst (-1), 1) := by decide +kernel
theorem dX3_findBest_21 : decode cX3_findBest 21 = .ok (.goto 12, 3) := by decide +kernel
theorem dX3_findBest_24 : decode cX3_findBest 24 = .ok (.aload_n 0, 1) := by decide +kernel
theorem dX3_findBest_25 : decode cX3_findBest 25 = .ok (.getfield 30, 3) := by decide +kernel
theorem dX3_findBest_28 : decode cX3_findBest 28 = .ok (.iconst 0, 1) := by decide +kernel
theorem dX3_findBest_29 : decode cX3_findBest 29 = .ok (.aaload, 1) := by decide +kernel
theorem dX3_findBest_30 : decode cX3_findBest 30 = .ok (.invokestatic 120, 3) := by decide +kernel
theorem dX3_findBest_33 : decode cX3_findBest 33 = .ok (.putfield 79, 3) := by decide +kernel
theorem dX3_findBest_36 : decode cX3_findBest 36 = .ok (.aload_n 0, 1) := by decide +kernel
theorem dX3_findBest_37 : decode cX3_findBest 37 = .ok (.aload_n 1, 1) := by decide +kernel
theorem dX3_findBest_38 : decode cX3_findBest 38 = .ok (.invokevirtual 123, 3) := by decide +kernel
theorem dX3_findBest_41 : decode cX3_findBest 41 = .ok (.aload_n 0, 1) := by decide +kernel
theorem dX3_findBest_42 : decode cX3_findBest 42 = .ok (.iconst 1, 1) := by decide +kernel
theorem dX3_findBest_43 : decode cX3_findBest 43 = .ok (.putfield 47, 3) := by decide +kernel
theorem dX3_findBest_46 : decode cX3_findBest 46 = .ok (.return_, 1) := by decide +kernel
set_option maxRecDepth 20000 in
theorem ggX3_goBackward_X7_fits : GoodIn wsX3_goBackward wsX7_fits := goodIn_r _ [8, 9, 79] (by decide +kernel) (by decide +kernel)
set_option maxRecDepth 20000 in
theorem gX3_goBackward_X7_fits : GoodIn wsX3_goBackward (wsV RX3 126 RX7 yX7_fits wsX7_fits) := goodIn_app (goodIn_of _ (by decide +kernel)) ggX3_goBackward_X7_fits
set_option maxRecDepth 20000 in
theorem ggX3_goBackward_X3_setGapAheadOf : GoodIn wsX3_goBackward wsX3_setGapAheadOf := goodIn_r _ [14, 15, 16, 17, 18, 19, 20, 21, 22, 23, 24, 25, 26, 27, 28, 29, 7, 30, 31, 63, 64, 65, 66, 67, 68, 69, 70, 71, 72, 73, 74, 75, 76, 77, 78, 80, 81] (by decide +kernel) (by decide +kernel)
set_option maxRecDepth 20000 in
theorem gX3_goBackward_X3_setGapAheadOf : GoodIn wsX3_goBackward (wsV RX3 92 RX3 yX3_setGapAheadOf wsX3_setGapAheadOf) := goodIn_app (goodIn_of _ (by decide +kernel)) ggX3_goBackward_X3_setGapAheadOf
set_option maxRecDepth 20000 in
theorem ggX3_goBackward_X3_cross : GoodIn wsX3_goBackward wsX3_cross := goodIn_r _ [35, 15, 36, 37, 38, 39, 40, 1, 3, 41, 42, 43, 13, 44, 45, 46, 47, 7, 48, 49, 50, 51, 24, 52, 27, 53, 54, 55, 56, 57, 58, 4, 5, 6, 8, 9, 59, 60, 61, 62, 67, 68, 69, 70, 71, 72, 73, 74, 75, 76, 77, 78, 80, 81, 79] (by decide +kernel) (by decide +kernel)
set_option maxRecDepth 20000 in
theorem gX3_goBackward_X3_cross : GoodIn wsX3_goBackward (wsV RX3 106 RX3 yX3_cross wsX3_cross) := goodIn_app (goodIn_of _ (by decide +kernel)) ggX3_goBackward_X3_cross
theorem dX3_goBackward_0 : decode cX3_goBackward 0 = .ok (.aload_n 1, 1) := by decide +kernel
theorem dX3_goBackward_1 : decode cX3_goBackward 1 = .ok (.getfield 60, 3) := by decide +kernel
theorem dX3_goBackward_4 : decode cX3_goBackward 4 = .ok (.iconst 1, 1) := by decide +kernel
theorem dX3_goBackward_5 : decode cX3_goBackward 5 = .ok (.isub, 1) := by decide +kernel
theorem dX3_goBackward_6 : decode cX3_goBackward 6 = .ok (.istore_n 2, 1) := by decide +kernel
theorem dX3_goBackward_7 : decode cX3_goBackward 7 = .ok (.iload_n 2, 1) := by decide +kernel
theorem dX3_goBackward_8 : decode cX3_goBackward 8 = .ok (.ifCond .ge 4, 3) := by decide +kernel
theorem dX3_goBackward_11 : decode cX3_goBackward 11 = .ok (.return_, 1) := by decide +kernel
theorem dX3_goBackward_12 : decode cX3_goBackward 12 = .ok (.iconst 0, 1) := by decide +kernel
theorem dX3_goBackward_13 : decode cX3_goBackward 13 = .ok (.istore_n 3, 1) := by decide +kernel
theorem dX3_goBackward_14 : decode cX3_goBackward 14 = .ok (.iload_n 3, 1) := by decide +kernel
theorem dX3_goBackward_15 : decode cX3_goBackward 15 = .ok (.sipush 2187, 3) := by decide +kernel
theorem dX3_goBackward_18 : decode cX3_goBackward 18 = .ok (.if_icmp .ge 50, 3) := by decide +kernel
theorem dX3_goBackward_21 : decode cX3_goBackward 21 = .ok (.aload_n 0, 1) := by decide +kernel
theorem dX3_goBackward_22 : decode cX3_goBackward 22 = .ok (.getfield 43, 3) := by decide +kernel
theorem dX3_goBackward_25 : decode cX3_goBackward 25 = .ok (.iload_n 3, 1) := by decide +kernel
theorem dX3_goBackward_26 : decode cX3_goBackward 26 = .ok (.aload_n 1, 1) := by decide +kernel
theorem dX3_goBackward_27 : decode cX3_goBackward 27 = .ok (.getfield 96, 3) := by decide +kernel
theorem dX3_goBackward_30 : decode cX3_goBackward 30 = .ok (.iload_n 2, 1) := by decide +kernel
theorem dX3_goBackward_31 : decode cX3_goBackward 31 = .ok (.iaload, 1) := by decide +kernel
theorem dX3_goBackward_32 : decode cX3_goBackward 32 = .ok (.aload_n 1, 1) := by decide +kernel
theorem dX3_goBackward_33 : decode cX3_goBackward 33 = .ok (.getfield 99, 3) := by decide +kernel
theorem dX3_goBackward_36 : decode cX3_goBackward 36 = .ok (.iload_n 2, 1) := by decide +kernel
theorem dX3_goBackward_37 : decode cX3_goBackward 37 = .ok (.iaload, 1) := by decide +kernel
theorem dX3_goBackward_38 : decode cX3_goBackward 38 = .ok (.invokevirtual 126, 3) := by decide +kernel
theorem dX3_goBackward_41 : decode cX3_goBackward 41 = .ok (.istore 4, 2) := by decide +kernel
theorem dX3_goBackward_43 : decode cX3_goBackward 43 = .ok (.aload_n 0, 1) := by decide +kernel
theorem dX3_goBackward_44 : decode cX3_goBackward 44 = .ok (.getfield 30, 3) := by decide +kernel
theorem dX3_goBackward_47 : decode cX3_goBackward 47 = .ok (.iload_n 2, 1) := by decide +kernel
theorem dX3_goBackward_48 : decode cX3_goBackward 48 = .ok (.aaload, 1) := by decide +kernel
theorem dX3_goBackward_49 : decode cX3_goBackward 49 = .ok (.iload_n 3, 1) := by decide +kernel
theorem dX3_goBackward_50 : decode cX3_goBackward 50 = .ok (.iload 4, 2) := by decide +kernel
theorem dX3_goBackward_52 : decode cX3_goBackward 52 = .ok (.ifCond .eq 7, 3) := by decide +kernel
theorem dX3_goBackward_55 : decode cX3_goBackward 55 = .ok (.iconst 1, 1) := by decide +kernel
theorem dX3_goBackward_56 : decode cX3_goBackward 56 = .ok (.goto 5, 3) := by decide +kernel
theorem dX3_goBackward_59 : decode cX3_goBackward 59 = .ok (.ldc 58, 2) := by decide +kernel
theorem dX3_goBackward_61 : decode cX3_goBackward 61 = .ok (.iastore, 1) := by decide +kernel
theorem dX3_goBackward_62 : decode cX3_goBackward 62 = .ok (.iinc 3 1, 3) := by decide +kernel
theorem dX3_goBackward_65 : decode cX3_goBackward 65 = .ok (.goto (-51), 3) := by decide +kernel
theorem dX3_goBackward_68 : decode cX3_goBackward 68 = .ok (.iload_n 2, 1) := by decide +kernel
theorem dX3_goBackward_69 : decode cX3_goBackward 69 = .ok (.istore_n 3, 1) := by decide +kernel
theorem dX3_goBackward_70 : decode cX3_goBackward 70 = .ok (.iload_n 3, 1) := by decide +kernel
theorem dX3_goBackward_71 : decode cX3_goBackward 71 = .ok (.ifCond .le 51, 3) := by decide +kernel
theorem dX3_goBackward_74 : decode cX3_goBackward 74 = .ok (.aload_n 0, 1) := by decide +kernel
theorem dX3_goBackward_75 : decode cX3_goBackward 75 = .ok (.aload_n 1, 1) := by decide +kernel
theorem dX3_goBackward_76 : decode cX3_goBackward 76 = .ok (.iload_n 3, 1) := by decide +kernel
theorem dX3_goBackward_77 : decode cX3_goBackward 77 = .ok (.iconst 0, 1) := by decide +kernel
theorem dX3_goBackward_78 : decode cX3_goBackward 78 = .ok (.invokevirtual 92, 3) := by decide +kernel
theorem dX3_goBackward_81 : decode cX3_goBackward 81 = .ok (.aload_n 0, 1) := by decide +kernel
theorem dX3_goBackward_82 : decode cX3_goBackward 82 = .ok (.aload_n 0, 1) := by decide +kernel
theorem dX3_goBackward_83 : decode cX3_goBackward 83 = .ok (.getfield 30, 3) := by decide +kernel
theorem dX3_goBackward_86 : decode cX3_goBackward 86 = .ok (.iload_n 3, 1) := by decide +kernel
theorem dX3_goBackward_87 : decode cX3_goBackward 87 = .ok (.aaload, 1) := by decide +kernel
theorem dX3_goBackward_88 : decode cX3_goBackward 88 = .ok (.aload_n 0, 1) := by decide +kernel
theorem dX3_goBackward_89 : decode cX3_goBackward 89 = .ok (.getfield 30, 3) := by decide +kernel
theorem dX3_goBackward_92 : decode cX3_goBackward 92 = .ok (.iload_n 3, 1) := by decide +kernel
theorem dX3_goBackward_93 : decode cX3_goBackward 93 = .ok (.iconst 1, 1) := by decide +kernel
theorem dX3_goBackward_94 : decode cX3_goBackward 94 = .ok (.isub, 1) := by decide +kernel
theorem dX3_goBackward_95 : decode cX3_goBackward 95 = .ok (.aaload, 1) := by decide +kernel
theorem dX3_goBackward_96 : decode cX3_goBackward 96 = .ok (.aload_n 1, 1) := by decide +kernel
theorem dX3_goBackward_97 : decode cX3_goBackward 97 = .ok (.getfield 96, 3) := by decide +kernel
theorem dX3_goBackward_100 : decode cX3_goBackward 100 = .ok (.iload_n 3, 1) := by decide +kernel
theorem dX3_goBackward_101 : decode cX3_goBackward 101 = .ok (.iconst 1, 1) := by decide +kernel
theorem dX3_goBackward_102 : decode cX3_goBackward 102 = .ok (.isub, 1) := by decide +kernel
theorem dX3_goBackward_103 : decode cX3_goBackward 103 = .ok (.iaload, 1) := by decide +kernel
theorem dX3_goBackward_104 : decode cX3_goBackward 104 = .ok (.aload_n 1, 1) := by decide +kernel
theorem dX3_goBackward_105 : decode cX3_goBackward 105 = .ok (.getfield 99, 3) := by decide +kernel
theorem dX3_goBackward_108 : decode cX3_goBackward 108 = .ok (.iload_n 3, 1) := by decide +kernel
theorem dX3_goBackward_109 : decode cX3_goBackward 109 = .ok (.iconst 1, 1) := by decide +kernel
theorem dX3_goBackward_110 : decode cX3_goBackward 110 = .ok (.isub, 1) := by decide +kernel
theorem dX3_goBackward_111 : decode cX3_goBackward 111 = .ok (.iaload, 1) := by decide +kernel
theorem dX3_goBackward_112 : decode cX3_goBackward 112 = .ok (.iconst 0, 1) := by decide +kernel
theorem dX3_goBackward_113 : decode cX3_goBackward 113 = .ok (.invokevirtual 106, 3) := by decide +kernel
theorem dX3_goBackward_116 : decode cX3_goBackward 116 = .ok (.iinc 3 (-1), 3) := by decide +kernel
theorem dX3_goBackward_119 : decode cX3_goBackward 119 = .ok (.goto (-49), 3) := by decide +kernel
theorem dX3_goBackward_122 : decode cX3_goBackward 122 = .ok (.return_, 1) := by decide +kernel
set_option maxRecDepth 20000 in
theorem ggX3_followBest_X3_setGapAheadOf : GoodIn wsX3_followBest wsX3_setGapAheadOf := goodIn_r _ [7, 8, 9, 10, 11, 12, 13, 14, 15, 16, 17, 18, 19, 20, 21, 22, 23, 24, 25, 42, 43, 44, 45, 46, 47, 48, 49, 50, 51, 52, 53, 54, 55, 56, 57, 58, 59] (by decide +kernel) (by decide +kernel)
set_option maxRecDepth 20000 in
theorem gX3_followBest_X3_setGapAheadOf : GoodIn wsX3_followBest (wsV RX3 92 RX3 yX3_setGapAheadOf wsX3_setGapAheadOf) := goodIn_app (goodIn_of _ (by decide +kernel)) ggX3_followBest_X3_setGapAheadOf
set_option maxRecDepth 20000 in
theorem ggX3_followBest_X3_bestNext : GoodIn wsX3_followBest wsX3_bestNext := goodIn_r _ [29, 30, 8, 31, 32, 33, 17, 34, 19, 35, 36, 23, 37, 38, 39, 40, 41, 20, 46, 47, 48, 49, 50, 51, 52, 53, 54, 55, 56, 57, 58, 59] (by decide +kernel) (by decide +kernel)
set_option maxRecDepth 20000 in
theorem gX3_followBest_X3_bestNext : GoodIn wsX3_followBest (wsV RX3 130 RX3 yX3_bestNext wsX3_bestNext) := goodIn_app (goodIn_of _ (by decide +kernel)) ggX3_followBest_X3_bestNext
theorem dX3_followBest_0 : decode cX3_followBest 0 = .ok (.aload_n 1, 1) := by decide +kernel
theorem dX3_followBest_1 : decode cX3_followBest 1 = .ok (.getfield 88, 3) := by decide +kernel
theorem dX3_followBest_4 : decode cX3_followBest 4 = .ok (.istore_n 2, 1) := by decide +kernel
theorem dX3_followBest_5 : decode cX3_followBest 5 = .ok (.iconst 0, 1) := by decide +kernel
theorem dX3_followBest_6 : decode cX3_followBest 6 = .ok (.istore_n 3, 1) := by decide +kernel
theorem dX3_followBest_7 : decode cX3_followBest 7 = .ok (.iload_n 3, 1) := by decide +kernel
theorem dX3_followBest_8 : decode cX3_followBest 8 = .ok (.aload_n 1, 1) := by decide +kernel
theorem dX3_followBest_9 : decode cX3_followBest 9 = .ok (.getfield 60, 3) := by decide +kernel
theorem dX3_followBest_12 : decode cX3_followBest 12 = .ok (.if_icmp .ge 40, 3) := by decide +kernel
theorem dX3_followBest_15 : decode cX3_followBest 15 = .ok (.iload_n 2, 1) := by decide +kernel
theorem dX3_followBest_16 : decode cX3_followBest 16 = .ok (.iconst (-1), 1) := by decide +kernel
theorem dX3_followBest_17 : decode cX3_followBest 17 = .ok (.if_icmp .eq 22, 3) := by decide +kernel
theorem dX3_followBest_20 : decode cX3_followBest 20 = .ok (.aload_n 0, 1) := by decide +kernel
theorem dX3_followBest_21 : decode cX3_followBest 21 = .ok (.aload_n 1, 1) := by decide +kernel
theorem dX3_followBest_22 : decode cX3_followBest 22 = .ok (.iload_n 3, 1) := by decide +kernel
theorem dX3_followBest_23 : decode cX3_followBest 23 = .ok (.iconst 0, 1) := by decide +kernel
theorem dX3_followBest_24 : decode cX3_followBest 24 = .ok (.invokevirtual 92, 3) := by decide +kernel
theorem dX3_followBest_27 : decode cX3_followBest 27 = .ok (.aload_n 0, 1) := by decide +kernel
theorem dX3_followBest_28 : decode cX3_followBest 28 = .ok (.iload_n 2, 1) := by decide +kernel
theorem dX3_followBest_29 : decode cX3_followBest 29 = .ok (.aload_n 0, 1) := by decide +kernel
theorem dX3_followBest_30 : decode cX3_followBest 30 = .ok (.getfield 30, 3) := by decide +kernel
theorem dX3_followBest_33 : decode cX3_followBest 33 = .ok (.iload_n 3, 1) := by decide +kernel
theorem dX3_followBest_34 : decode cX3_followBest 34 = .ok (.aaload, 1) := by decide +kernel
theorem dX3_followBest_35 : decode cX3_followBest 35 = .ok (.invokevirtual 130, 3) := by decide +kernel
theorem dX3_followBest_38 : decode cX3_followBest 38 = .ok (.istore_n 2, 1) := by decide +kernel
theorem dX3_followBest_39 : decode cX3_followBest 39 = .ok (.aload_n 0, 1) := by decide +kernel
theorem dX3_followBest_40 : decode cX3_followBest 40 = .ok (.getfield 36, 3) := by decide +kernel
theorem dX3_followBest_43 : decode cX3_followBest 43 = .ok (.iload_n 3, 1) := by decide +kernel
theorem dX3_followBest_44 : decode cX3_followBest 44 = .ok (.iload_n 2, 1) := by decide +kernel
theorem dX3_followBest_45 : decode cX3_followBest 45 = .ok (.iastore, 1) := by decide +kernel
theorem dX3_followBest_46 : decode cX3_followBest 46 = .ok (.iinc 3 1, 3) := by decide +kernel
theorem dX3_followBest_49 : decode cX3_followBest 49 = .ok (.goto (-42), 3) := by decide +kernel
theorem dX3_followBest_52 : decode cX3_followBest 52 = .ok (.return_, 1) := by decide +kernel
set_option maxRecDepth 20000 in
theorem ggX3_bestNext_X0_movesBetween : GoodIn wsX3_bestNext wsX0_movesBetween := goodIn_r _ [7, 8, 9, 10, 11, 12, 13, 14, 15, 6, 16, 17, 30, 31] (by decide +kernel) (by decide +kernel)
set_option maxRecDepth 20000 in
theorem gX3_bestNext_X0_movesBetween : GoodIn wsX3_bestNext (wsV RX3 134 RX0 yX0_movesBetween wsX0_movesBetween) := goodIn_app (goodIn_of _ (by decide +kernel)) ggX3_bestNext_X0_movesBetween
theorem dX3_bestNext_0 : decode cX3_bestNext 0 = .ok (.iconst (-1), 1) := by decide +kernel
theorem dX3_bestNext_1 : decode cX3_bestNext 1 = .ok (.istore_n 3, 1) := by decide +kernel
theorem dX3_bestNext_2 : decode cX3_bestNext 2 = .ok (.ldc 58, 2) := by decide +kernel
theorem dX3_bestNext_4 : decode cX3_bestNext 4 = .ok (.istore 4, 2) := by decide +kernel
theorem dX3_bestNext_6 : decode cX3_bestNext 6 = .ok (.iconst 0, 1) := by decide +kernel
theorem dX3_bestNext_7 : decode cX3_bestNext 7 = .ok (.istore 5, 2) := by decide +kernel
theorem dX3_bestNext_9 : decode cX3_bestNext 9 = .ok (.iload 5, 2) := by decide +kernel
theorem dX3_bestNext_11 : decode cX3_bestNext 11 = .ok (.sipush 2187, 3) := by decide +kernel
theorem dX3_bestNext_14 : decode cX3_bestNext 14 = .ok (.if_icmp .ge 72, 3) := by decide +kernel
theorem dX3_bestNext_17 : decode cX3_bestNext 17 = .ok (.aload_n 2, 1) := by decide +kernel
theorem dX3_bestNext_18 : decode cX3_bestNext 18 = .ok (.iload 5, 2) := by decide +kernel
theorem dX3_bestNext_20 : decode cX3_bestNext 20 = .ok (.iaload, 1) := by decide +kernel
theorem dX3_bestNext_21 : decode cX3_bestNext 21 = .ok (.bipush 20, 2) := by decide +kernel
theorem dX3_bestNext_23 : decode cX3_bestNext 23 = .ok (.ishr, 1) := by decide +kernel
theorem dX3_bestNext_24 : decode cX3_bestNext 24 = .ok (.istore 6, 2) := by decide +kernel
theorem dX3_bestNext_26 : decode cX3_bestNext 26 = .ok (.aload_n 2, 1) := by decide +kernel
theorem dX3_bestNext_27 : decode cX3_bestNext 27 = .ok (.iload 5, 2) := by decide +kernel
theorem dX3_bestNext_29 : decode cX3_bestNext 29 = .ok (.iaload, 1) := by decide +kernel
theorem dX3_bestNext_30 : decode cX3_bestNext 30 = .ok (.ldc 58, 2) := by decide +kernel
theorem dX3_bestNext_32 : decode cX3_bestNext 32 = .ok (.if_icmp .eq 48, 3) := by decide +kernel
theorem dX3_bestNext_35 : decode cX3_bestNext 35 = .ok (.iload 6, 2) := by decide +kernel
theorem dX3_bestNext_37 : decode cX3_bestNext 37 = .ok (.iload 4, 2) := by decide +kernel
theorem dX3_bestNext_39 : decode cX3_bestNext 39 = .ok (.if_icmp .ge 41, 3) := by decide +kernel
theorem dX3_bestNext_42 : decode cX3_bestNext 42 = .ok (.aload_n 0, 1) := by decide +kernel
theorem dX3_bestNext_43 : decode cX3_bestNext 43 = .ok (.getfield 14, 3) := by decide +kernel
theorem dX3_bestNext_46 : decode cX3_bestNext 46 = .ok (.iload_n 1, 1) := by decide +kernel
theorem dX3_bestNext_47 : decode cX3_bestNext 47 = .ok (.iload 5, 2) := by decide +kernel
theorem dX3_bestNext_49 : decode cX3_bestNext 49 = .ok (.invokevirtual 134, 3) := by decide +kernel
theorem dX3_bestNext_52 : decode cX3_bestNext 52 = .ok (.istore 7, 2) := by decide +kernel
theorem dX3_bestNext_54 : decode cX3_bestNext 54 = .ok (.iload 7, 2) := by decide +kernel
theorem dX3_bestNext_56 : decode cX3_bestNext 56 = .ok (.iconst (-1), 1) := by decide +kernel
theorem dX3_bestNext_57 : decode cX3_bestNext 57 = .ok (.if_icmp .eq 23, 3) := by decide +kernel
theorem dX3_bestNext_60 : decode cX3_bestNext 60 = .ok (.iload 7, 2) := by decide +kernel
theorem dX3_bestNext_62 : decode cX3_bestNext 62 = .ok (.iload 6, 2) := by decide +kernel
theorem dX3_bestNext_64 : decode cX3_bestNext 64 = .ok (.iadd, 1) := by decide +kernel
theorem dX3_bestNext_65 : decode cX3_bestNext 65 = .ok (.iload 4, 2) := by decide +kernel
theorem dX3_bestNext_67 : decode cX3_bestNext 67 = .ok (.if_icmp .ge 13, 3) := by decide +kernel
theorem dX3_bestNext_70 : decode cX3_bestNext 70 = .ok (.iload 5, 2) := by decide +kernel
theorem dX3_bestNext_72 : decode cX3_bestNext 72 = .ok (.istore_n 3, 1) := by decide +kernel
theorem dX3_bestNext_73 : decode cX3_bestNext 73 = .ok (.iload 7, 2) := by decide +kernel
theorem dX3_bestNext_75 : decode cX3_bestNext 75 = .ok (.iload 6, 2) := by decide +kernel
theorem dX3_bestNext_77 : decode cX3_bestNext 77 = .ok (.iadd, 1) := by decide +kernel
theorem dX3_bestNext_78 : decode cX3_bestNext 78 = .ok (.istore 4, 2) := by decide +kernel
theorem dX3_bestNext_80 : decode cX3_bestNext 80 = .ok (.iinc 5 1, 3) := by decide +kernel
theorem dX3_bestNext_83 : decode cX3_bestNext 83 = .ok (.goto (-74), 3) := by decide +kernel
theorem dX3_bestNext_86 : decode cX3_bestNext 86 = .ok (.iload_n 3, 1) := by decide +kernel
theorem dX3_bestNext_87 : decode cX3_bestNext 87 = .ok (.ireturn, 1) := by decide +kernel
set_option maxRecDepth 20000 in
theorem ggX3_setGapAheadOf_X8_isHeld : GoodIn wsX3_setGapAheadOf wsX8_isHeld := goodIn_r _ [4] (by decide +kernel) (by decide +kernel)
set_option maxRecDepth 20000 in
theorem gX3_setGapAheadOf_X8_isHeld_n137 : GoodIn wsX3_setGapAheadOf (wsX8_isHeld) := ggX3_setGapAheadOf_X8_isHeld
set_option maxRecDepth 20000 in
theorem ggX3_setGapAheadOf_X8_raised : GoodIn wsX3_setGapAheadOf wsX8_raised := goodIn_r _ [6] (by decide +kernel) (by decide +kernel)
set_option maxRecDepth 20000 in
theorem gX3_setGapAheadOf_X8_raised_n102 : GoodIn wsX3_setGapAheadOf (wsX8_raised) := ggX3_setGapAheadOf_X8_raised
set_option maxRecDepth 20000 in
theorem ggX3_setGapAheadOf_X0_set : GoodIn wsX3_setGapAheadOf wsX0_set := goodIn_r _ [11, 12, 13, 14, 15, 16, 17, 18, 35, 36] (by decide +kernel) (by decide +kernel)
set_option maxRecDepth 20000 in
theorem gX3_setGapAheadOf_X0_set : GoodIn wsX3_setGapAheadOf (wsV RX3 140 RX0 yX0_set wsX0_set) := goodIn_app (goodIn_of _ (by decide +kernel)) ggX3_setGapAheadOf_X0_set
theorem dX3_setGapAheadOf_0 : decode cX3_setGapAheadOf 0 = .ok (.iload_n 2, 1) := by decide +kernel
theorem dX3_setGapAheadOf_1 : decode cX3_setGapAheadOf 1 = .ok (.ifCond .le 21, 3) := by decide +kernel
theorem dX3_setGapAheadOf_4 : decode cX3_setGapAheadOf 4 = .ok (.aload_n 1, 1) := by decide +kernel
theorem dX3_setGapAheadOf_5 : decode cX3_setGapAheadOf 5 = .ok (.getfield 96, 3) := by decide +kernel
theorem dX3_setGapAheadOf_8 : decode cX3_setGapAheadOf 8 = .ok (.iload_n 2, 1) := by decide +kernel
theorem dX3_setGapAheadOf_9 : decode cX3_setGapAheadOf 9 = .ok (.iconst 1, 1) := by decide +kernel
theorem dX3_setGapAheadOf_10 : decode cX3_setGapAheadOf 10 = .ok (.isub, 1) := by decide +kernel
theorem dX3_setGapAheadOf_11 : decode cX3_setGapAheadOf 11 = .ok (.iaload, 1) := by decide +kernel
theorem dX3_setGapAheadOf_12 : decode cX3_setGapAheadOf 12 = .ok (.invokestatic 137, 3) := by decide +kernel
theorem dX3_setGapAheadOf_15 : decode cX3_setGapAheadOf 15 = .ok (.ifCond .eq 7, 3) := by decide +kernel
theorem dX3_setGapAheadOf_18 : decode cX3_setGapAheadOf 18 = .ok (.iconst 1, 1) := by decide +kernel
theorem dX3_setGapAheadOf_19 : decode cX3_setGapAheadOf 19 = .ok (.goto 4, 3) := by decide +kernel
theorem dX3_setGapAheadOf_22 : decode cX3_setGapAheadOf 22 = .ok (.iconst 0, 1) := by decide +kernel
theorem dX3_setGapAheadOf_23 : decode cX3_setGapAheadOf 23 = .ok (.istore 4, 2) := by decide +kernel
theorem dX3_setGapAheadOf_25 : decode cX3_setGapAheadOf 25 = .ok (.aload_n 0, 1) := by decide +kernel
theorem dX3_setGapAheadOf_26 : decode cX3_setGapAheadOf 26 = .ok (.getfield 14, 3) := by decide +kernel
theorem dX3_setGapAheadOf_29 : decode cX3_setGapAheadOf 29 = .ok (.aload_n 1, 1) := by decide +kernel
theorem dX3_setGapAheadOf_30 : decode cX3_setGapAheadOf 30 = .ok (.getfield 96, 3) := by decide +kernel
theorem dX3_setGapAheadOf_33 : decode cX3_setGapAheadOf 33 = .ok (.iload_n 2, 1) := by decide +kernel
theorem dX3_setGapAheadOf_34 : decode cX3_setGapAheadOf 34 = .ok (.iaload, 1) := by decide +kernel
theorem dX3_setGapAheadOf_35 : decode cX3_setGapAheadOf 35 = .ok (.iload 4, 2) := by decide +kernel
theorem dX3_setGapAheadOf_37 : decode cX3_setGapAheadOf 37 = .ok (.ifCond .eq 18, 3) := by decide +kernel
theorem dX3_setGapAheadOf_40 : decode cX3_setGapAheadOf 40 = .ok (.aload_n 1, 1) := by decide +kernel
theorem dX3_setGapAheadOf_41 : decode cX3_setGapAheadOf 41 = .ok (.getfield 99, 3) := by decide +kernel
theorem dX3_setGapAheadOf_44 : decode cX3_setGapAheadOf 44 = .ok (.iload_n 2, 1) := by decide +kernel
theorem dX3_setGapAheadOf_45 : decode cX3_setGapAheadOf 45 = .ok (.iconst 1, 1) := by decide +kernel
theorem dX3_setGapAheadOf_46 : decode cX3_setGapAheadOf 46 = .ok (.isub, 1) := by decide +kernel
theorem dX3_setGapAheadOf_47 : decode cX3_setGapAheadOf 47 = .ok (.iaload, 1) := by decide +kernel
theorem dX3_setGapAheadOf_48 : decode cX3_setGapAheadOf 48 = .ok (.iload_n 3, 1) := by decide +kernel
theorem dX3_setGapAheadOf_49 : decode cX3_setGapAheadOf 49 = .ok (.invokestatic 102, 3) := by decide +kernel
theorem dX3_setGapAheadOf_52 : decode cX3_setGapAheadOf 52 = .ok (.goto 4, 3) := by decide +kernel
theorem dX3_setGapAheadOf_55 : decode cX3_setGapAheadOf 55 = .ok (.iconst 0, 1) := by decide +kernel
theorem dX3_setGapAheadOf_56 : decode cX3_setGapAheadOf 56 = .ok (.invokevirtual 140, 3) := by decide +kernel
theorem dX3_setGapAheadOf_59 : decode cX3_setGapAheadOf 59 = .ok (.return_, 1) := by decide +kernel
set_option maxRecDepth 20000 in
theorem ggX3_cross_X3_spreadByRight : GoodIn wsX3_cross wsX3_spreadByRight := goodIn_r _ [13, 8, 14, 1, 2, 15, 16, 17, 18, 19, 20, 21, 22, 23, 24, 25, 26, 12, 27, 28, 29, 30, 40, 41, 42, 43, 44, 45, 46, 47, 48, 49, 50, 51, 52, 53] (by decide +kernel) (by decide +kernel)
set_option maxRecDepth 20000 in
theorem gX3_cross_X3_spreadByRight : GoodIn wsX3_cross (wsV RX3 153 RX3 yX3_spreadByRight wsX3_spreadByRight) := goodIn_app (goodIn_of _ (by decide +kernel)) ggX3_cross_X3_spreadByRight
set_option maxRecDepth 20000 in
theorem ggX3_cross_X7_fits : GoodIn wsX3_cross wsX7_fits := goodIn_r _ [34, 35, 54] (by decide +kernel) (by decide +kernel)
set_option maxRecDepth 20000 in
theorem gX3_cross_X7_fits : GoodIn wsX3_cross (wsV RX3 126 RX7 yX7_fits wsX7_fits) := goodIn_app (goodIn_of _ (by decide +kernel)) ggX3_cross_X7_fits
set_option maxRecDepth 20000 in
theorem ggX3_cross_X3_gathered : GoodIn wsX3_cross wsX3_gathered := goodIn_r _ [39, 1, 8, 14, 15, 16, 17, 18, 19, 20, 21, 22, 23, 24, 25, 26, 12, 27, 28, 29, 30, 40, 41, 42, 43, 44, 45, 46, 47, 48, 49, 50, 51, 52, 53] (by decide +kernel) (by decide +kernel)
set_option maxRecDepth 20000 in
theorem gX3_cross_X3_gathered : GoodIn wsX3_cross (wsV RX3 157 RX3 yX3_gathered wsX3_gathered) := goodIn_app (goodIn_of _ (by decide +kernel)) ggX3_cross_X3_gathered
theorem dX3_cross_0 : decode cX3_cross 0 = .ok (.aload_n 0, 1) := by decide +kernel
theorem dX3_cross_1 : decode cX3_cross 1 = .ok (.getfield 14, 3) := by decide +kernel
theorem dX3_cross_4 : decode cX3_cross 4 = .ok (.getfield 144, 3) := by decide +kernel
theorem dX3_cross_7 : decode cX3_cross 7 = .ok (.istore 6, 2) := by decide +kernel
theorem dX3_cross_9 : decode cX3_cross 9 = .ok (.aload_n 1, 1) := by decide +kernel
theorem dX3_cross_10 : decode cX3_cross 10 = .ok (.astore 7, 2) := by decide +kernel
theorem dX3_cross_12 : decode cX3_cross 12 = .ok (.iload 6, 2) := by decide +kernel
theorem dX3_cross_14 : decode cX3_cross 14 = .ok (.iconst 2, 1) := by decide +kernel
theorem dX3_cross_15 : decode cX3_cross 15 = .ok (.if_icmp .ne 29, 3) := by decide +kernel
theorem dX3_cross_18 : decode cX3_cross 18 = .ok (.aload_n 1, 1) := by decide +kernel
theorem dX3_cross_19 : decode cX3_cross 19 = .ok (.iconst 0, 1) := by decide +kernel
theorem dX3_cross_20 : decode cX3_cross 20 = .ok (.aload_n 0, 1) := by decide +kernel
theorem dX3_cross_21 : decode cX3_cross 21 = .ok (.getfield 25, 3) := by decide +kernel
theorem dX3_cross_24 : decode cX3_cross 24 = .ok (.iconst 0, 1) := by decide +kernel
theorem dX3_cross_25 : decode cX3_cross 25 = .ok (.sipush 2187, 3) := by decide +kernel
theorem dX3_cross_28 : decode cX3_cross 28 = .ok (.invokestatic 147, 3) := by decide +kernel
theorem dX3_cross_31 : decode cX3_cross 31 = .ok (.aload_n 0, 1) := by decide +kernel
theorem dX3_cross_32 : decode cX3_cross 32 = .ok (.aload_n 1, 1) := by decide +kernel
theorem dX3_cross_33 : decode cX3_cross 33 = .ok (.iload 5, 2) := by decide +kernel
theorem dX3_cross_35 : decode cX3_cross 35 = .ok (.invokevirtual 153, 3) := by decide +kernel
theorem dX3_cross_38 : decode cX3_cross 38 = .ok (.aload_n 0, 1) := by decide +kernel
theorem dX3_cross_39 : decode cX3_cross 39 = .ok (.getfield 25, 3) := by decide +kernel
theorem dX3_cross_42 : decode cX3_cross 42 = .ok (.astore 7, 2) := by decide +kernel
theorem dX3_cross_44 : decode cX3_cross 44 = .ok (.iload 6, 2) := by decide +kernel
theorem dX3_cross_46 : decode cX3_cross 46 = .ok (.ifCond .ne 7, 3) := by decide +kernel
theorem dX3_cross_49 : decode cX3_cross 49 = .ok (.iconst 0, 1) := by decide +kernel
theorem dX3_cross_50 : decode cX3_cross 50 = .ok (.goto 15, 3) := by decide +kernel
theorem dX3_cross_53 : decode cX3_cross 53 = .ok (.iload 6, 2) := by decide +kernel
theorem dX3_cross_55 : decode cX3_cross 55 = .ok (.iconst 1, 1) := by decide +kernel
theorem dX3_cross_56 : decode cX3_cross 56 = .ok (.if_icmp .ne 8, 3) := by decide +kernel
theorem dX3_cross_59 : decode cX3_cross 59 = .ok (.bipush 7, 2) := by decide +kernel
theorem dX3_cross_61 : decode cX3_cross 61 = .ok (.goto 4, 3) := by decide +kernel
theorem dX3_cross_64 : decode cX3_cross 64 = .ok (.iconst 3, 1) := by decide +kernel
theorem dX3_cross_65 : decode cX3_cross 65 = .ok (.istore 8, 2) := by decide +kernel
theorem dX3_cross_67 : decode cX3_cross 67 = .ok (.iconst 0, 1) := by decide +kernel
theorem dX3_cross_68 : decode cX3_cross 68 = .ok (.istore 9, 2) := by decide +kernel
theorem dX3_cross_70 : decode cX3_cross 70 = .ok (.iload 9, 2) := by decide +kernel
theorem dX3_cross_72 : decode cX3_cross 72 = .ok (.sipush 2187, 3) := by decide +kernel
theorem dX3_cross_75 : decode cX3_cross 75 = .ok (.if_icmp .ge 49, 3) := by decide +kernel
theorem dX3_cross_78 : decode cX3_cross 78 = .ok (.aload_n 0, 1) := by decide +kernel
theorem dX3_cross_79 : decode cX3_cross 79 = .ok (.getfield 43, 3) := by decide +kernel
theorem dX3_cross_82 : decode cX3_cross 82 = .ok (.iload 9, 2) := by decide +kernel
theorem dX3_cross_84 : decode cX3_cross 84 = .ok (.iload_n 3, 1) := by decide +kernel
theorem dX3_cross_85 : decode cX3_cross 85 = .ok (.iload 4, 2) := by decide +kernel
theorem dX3_cross_87 : decode cX3_cross 87 = .ok (.invokevirtual 126, 3) := by decide +kernel
theorem dX3_cross_90 : decode cX3_cross 90 = .ok (.istore 10, 2) := by decide +kernel
theorem dX3_cross_92 : decode cX3_cross 92 = .ok (.aload_n 2, 1) := by decide +kernel
theorem dX3_cross_93 : decode cX3_cross 93 = .ok (.iload 9, 2) := by decide +kernel
theorem dX3_cross_95 : decode cX3_cross 95 = .ok (.iload 10, 2) := by decide +kernel
theorem dX3_cross_97 : decode cX3_cross 97 = .ok (.ifCond .eq 18, 3) := by decide +kernel
theorem dX3_cross_100 : decode cX3_cross 100 = .ok (.aload_n 0, 1) := by decide +kernel
theorem dX3_cross_101 : decode cX3_cross 101 = .ok (.aload 7, 2) := by decide +kernel
theorem dX3_cross_103 : decode cX3_cross 103 = .ok (.iload 9, 2) := by decide +kernel
theorem dX3_cross_105 : decode cX3_cross 105 = .ok (.iload 8, 2) := by decide +kernel
theorem dX3_cross_107 : decode cX3_cross 107 = .ok (.iload 5, 2) := by decide +kernel
theorem dX3_cross_109 : decode cX3_cross 109 = .ok (.invokevirtual 157, 3) := by decide +kernel
theorem dX3_cross_112 : decode cX3_cross 112 = .ok (.goto 5, 3) := by decide +kernel
theorem dX3_cross_115 : decode cX3_cross 115 = .ok (.ldc 58, 2) := by decide +kernel
theorem dX3_cross_117 : decode cX3_cross 117 = .ok (.iastore, 1) := by decide +kernel
theorem dX3_cross_118 : decode cX3_cross 118 = .ok (.iinc 9 1, 3) := by decide +kernel
theorem dX3_cross_121 : decode cX3_cross 121 = .ok (.goto (-51), 3) := by decide +kernel
theorem dX3_cross_124 : decode cX3_cross 124 = .ok (.return_, 1) := by decide +kernel
set_option maxRecDepth 20000 in
theorem ggX3_spreadByRight_X7_positionAt : GoodIn wsX3_spreadByRight wsX7_positionAt := goodIn_r _ [8] (by decide +kernel) (by decide +kernel)
set_option maxRecDepth 20000 in
theorem gX3_spreadByRight_X7_positionAt : GoodIn wsX3_spreadByRight (va_wsS RX3 162 yX7_positionAt wsX7_positionAt) := goodIn_app (goodIn_of _ (by decide +kernel)) ggX3_spreadByRight_X7_positionAt
set_option maxRecDepth 20000 in
theorem ggX3_spreadByRight_X0_holds : GoodIn wsX3_spreadByRight wsX0_holds := goodIn_r _ [13, 14, 34, 35] (by decide +kernel) (by decide +kernel)
set_option maxRecDepth 20000 in
theorem gX3_spreadByRight_X0_holds : GoodIn wsX3_spreadByRight (wsV RX3 165 RX0 yX0_holds wsX0_holds) := goodIn_app (goodIn_of _ (by decide +kernel)) ggX3_spreadByRight_X0_holds
set_option maxRecDepth 20000 in
theorem ggX3_spreadByRight_X3_joined : GoodIn wsX3_spreadByRight wsX3_joined := goodIn_r _ [18, 19, 20, 21] (by decide +kernel) (by decide +kernel)
set_option maxRecDepth 20000 in
theorem gX3_spreadByRight_X3_joined : GoodIn wsX3_spreadByRight (va_wsS RX3 172 yX3_joined wsX3_joined) := goodIn_app (goodIn_of _ (by decide +kernel)) ggX3_spreadByRight_X3_joined
theorem dX3_spreadByRight_0 : decode cX3_spreadByRight 0 = .ok (.iconst 0, 1) := by decide +kernel
theorem dX3_spreadByRight_1 : decode cX3_spreadByRight 1 = .ok (.istore_n 3, 1) := by decide +kernel
theorem dX3_spreadByRight_2 : decode cX3_spreadByRight 2 = .ok (.iload_n 3, 1) := by decide +kernel
theorem dX3_spreadByRight_3 : decode cX3_spreadByRight 3 = .ok (.sipush 2187, 3) := by decide +kernel
theorem dX3_spreadByRight_6 : decode cX3_spreadByRight 6 = .ok (.if_icmp .ge 132, 3) := by decide +kernel
theorem dX3_spreadByRight_9 : decode cX3_spreadByRight 9 = .ok (.aload_n 1, 1) := by decide +kernel
theorem dX3_spreadByRight_10 : decode cX3_spreadByRight 10 = .ok (.iload_n 3, 1) := by decide +kernel
theorem dX3_spreadByRight_11 : decode cX3_spreadByRight 11 = .ok (.iaload, 1) := by decide +kernel
theorem dX3_spreadByRight_12 : decode cX3_spreadByRight 12 = .ok (.ldc 58, 2) := by decide +kernel
theorem dX3_spreadByRight_14 : decode cX3_spreadByRight 14 = .ok (.if_icmp .ne 6, 3) := by decide +kernel
theorem dX3_spreadByRight_17 : decode cX3_spreadByRight 17 = .ok (.goto 115, 3) := by decide +kernel
theorem dX3_spreadByRight_20 : decode cX3_spreadByRight 20 = .ok (.aload_n 1, 1) := by decide +kernel
theorem dX3_spreadByRight_21 : decode cX3_spreadByRight 21 = .ok (.iload_n 3, 1) := by decide +kernel
theorem dX3_spreadByRight_22 : decode cX3_spreadByRight 22 = .ok (.iaload, 1) := by decide +kernel
theorem dX3_spreadByRight_23 : decode cX3_spreadByRight 23 = .ok (.ldc 161, 2) := by decide +kernel
theorem dX3_spreadByRight_25 : decode cX3_spreadByRight 25 = .ok (.iadd, 1) := by decide +kernel
theorem dX3_spreadByRight_26 : decode cX3_spreadByRight 26 = .ok (.istore 4, 2) := by decide +kernel
theorem dX3_spreadByRight_28 : decode cX3_spreadByRight 28 = .ok (.iconst 3, 1) := by decide +kernel
theorem dX3_spreadByRight_29 : decode cX3_spreadByRight 29 = .ok (.istore 5, 2) := by decide +kernel
theorem dX3_spreadByRight_31 : decode cX3_spreadByRight 31 = .ok (.iload 5, 2) := by decide +kernel
theorem dX3_spreadByRight_33 : decode cX3_spreadByRight 33 = .ok (.bipush 7, 2) := by decide +kernel
theorem dX3_spreadByRight_35 : decode cX3_spreadByRight 35 = .ok (.if_icmp .ge 97, 3) := by decide +kernel
theorem dX3_spreadByRight_38 : decode cX3_spreadByRight 38 = .ok (.iload_n 3, 1) := by decide +kernel
theorem dX3_spreadByRight_39 : decode cX3_spreadByRight 39 = .ok (.iload 5, 2) := by decide +kernel
theorem dX3_spreadByRight_41 : decode cX3_spreadByRight 41 = .ok (.invokestatic 162, 3) := by decide +kernel
theorem dX3_spreadByRight_44 : decode cX3_spreadByRight 44 = .ok (.istore 6, 2) := by decide +kernel
theorem dX3_spreadByRight_46 : decode cX3_spreadByRight 46 = .ok (.iconst 0, 1) := by decide +kernel
theorem dX3_spreadByRight_47 : decode cX3_spreadByRight 47 = .ok (.istore 7, 2) := by decide +kernel
theorem dX3_spreadByRight_49 : decode cX3_spreadByRight 49 = .ok (.iload 7, 2) := by decide +kernel
theorem dX3_spreadByRight_51 : decode cX3_spreadByRight 51 = .ok (.iconst 3, 1) := by decide +kernel
theorem dX3_spreadByRight_52 : decode cX3_spreadByRight 52 = .ok (.if_icmp .ge 74, 3) := by decide +kernel
theorem dX3_spreadByRight_55 : decode cX3_spreadByRight 55 = .ok (.iload 7, 2) := by decide +kernel
theorem dX3_spreadByRight_57 : decode cX3_spreadByRight 57 = .ok (.iload 6, 2) := by decide +kernel
theorem dX3_spreadByRight_59 : decode cX3_spreadByRight 59 = .ok (.if_icmp .eq 61, 3) := by decide +kernel
theorem dX3_spreadByRight_62 : decode cX3_spreadByRight 62 = .ok (.aload_n 0, 1) := by decide +kernel
theorem dX3_spreadByRight_63 : decode cX3_spreadByRight 63 = .ok (.getfield 14, 3) := by decide +kernel
theorem dX3_spreadByRight_66 : decode cX3_spreadByRight 66 = .ok (.iload 5, 2) := by decide +kernel
theorem dX3_spreadByRight_68 : decode cX3_spreadByRight 68 = .ok (.iload_n 2, 1) := by decide +kernel
theorem dX3_spreadByRight_69 : decode cX3_spreadByRight 69 = .ok (.ifCond .eq 8, 3) := by decide +kernel
theorem dX3_spreadByRight_72 : decode cX3_spreadByRight 72 = .ok (.iload 6, 2) := by decide +kernel
theorem dX3_spreadByRight_74 : decode cX3_spreadByRight 74 = .ok (.goto 5, 3) := by decide +kernel
theorem dX3_spreadByRight_77 : decode cX3_spreadByRight 77 = .ok (.iload 7, 2) := by decide +kernel
theorem dX3_spreadByRight_79 : decode cX3_spreadByRight 79 = .ok (.invokevirtual 165, 3) := by decide +kernel
theorem dX3_spreadByRight_82 : decode cX3_spreadByRight 82 = .ok (.ifCond .ne 38, 3) := by decide +kernel
theorem dX3_spreadByRight_85 : decode cX3_spreadByRight 85 = .ok (.iload_n 3, 1) := by decide +kernel
theorem dX3_spreadByRight_86 : decode cX3_spreadByRight 86 = .ok (.iload 7, 2) := by decide +kernel
theorem dX3_spreadByRight_88 : decode cX3_spreadByRight 88 = .ok (.iload 6, 2) := by decide +kernel
theorem dX3_spreadByRight_90 : decode cX3_spreadByRight 90 = .ok (.isub, 1) := by decide +kernel
theorem dX3_spreadByRight_91 : decode cX3_spreadByRight 91 = .ok (.getstatic 169, 3) := by decide +kernel
theorem dX3_spreadByRight_94 : decode cX3_spreadByRight 94 = .ok (.iload 5, 2) := by decide +kernel
theorem dX3_spreadByRight_96 : decode cX3_spreadByRight 96 = .ok (.iaload, 1) := by decide +kernel
theorem dX3_spreadByRight_97 : decode cX3_spreadByRight 97 = .ok (.imul, 1) := by decide +kernel
theorem dX3_spreadByRight_98 : decode cX3_spreadByRight 98 = .ok (.iadd, 1) := by decide +kernel
theorem dX3_spreadByRight_99 : decode cX3_spreadByRight 99 = .ok (.istore 8, 2) := by decide +kernel
theorem dX3_spreadByRight_101 : decode cX3_spreadByRight 101 = .ok (.aload_n 0, 1) := by decide +kernel
theorem dX3_spreadByRight_102 : decode cX3_spreadByRight 102 = .ok (.getfield 25, 3) := by decide +kernel
theorem dX3_spreadByRight_105 : decode cX3_spreadByRight 105 = .ok (.iload 8, 2) := by decide +kernel
theorem dX3_spreadByRight_107 : decode cX3_spreadByRight 107 = .ok (.aload_n 0, 1) := by decide +kernel
theorem dX3_spreadByRight_108 : decode cX3_spreadByRight 108 = .ok (.getfield 25, 3) := by decide +kernel
theorem dX3_spreadByRight_111 : decode cX3_spreadByRight 111 = .ok (.iload 8, 2) := by decide +kernel
theorem dX3_spreadByRight_113 : decode cX3_spreadByRight 113 = .ok (.iaload, 1) := by decide +kernel
theorem dX3_spreadByRight_114 : decode cX3_spreadByRight 114 = .ok (.iload 4, 2) := by decide +kernel
theorem dX3_spreadByRight_116 : decode cX3_spreadByRight 116 = .ok (.invokestatic 172, 3) := by decide +kernel
theorem dX3_spreadByRight_119 : decode cX3_spreadByRight 119 = .ok (.iastore, 1) := by decide +kernel
theorem dX3_spreadByRight_120 : decode cX3_spreadByRight 120 = .ok (.iinc 7 1, 3) := by decide +kernel
theorem dX3_spreadByRight_123 : decode cX3_spreadByRight 123 = .ok (.goto (-74), 3) := by decide +kernel
theorem dX3_spreadByRight_126 : decode cX3_spreadByRight 126 = .ok (.iinc 5 1, 3) := by decide +kernel
theorem dX3_spreadByRight_129 : decode cX3_spreadByRight 129 = .ok (.goto (-98), 3) := by decide +kernel
theorem dX3_spreadByRight_132 : decode cX3_spreadByRight 132 = .ok (.iinc 3 1, 3) := by decide +kernel
theorem dX3_spreadByRight_135 : decode cX3_spreadByRight 135 = .ok (.goto (-133), 3) := by decide +kernel
theorem dX3_spreadByRight_138 : decode cX3_spreadByRight 138 = .ok (.return_, 1) := by decide +kernel
set_option maxRecDepth 20000 in
theorem ggX3_gathered_X7_positionAt : GoodIn wsX3_gathered wsX7_positionAt := goodIn_r _ [7] (by decide +kernel) (by decide +kernel)
set_option maxRecDepth 20000 in
theorem gX3_gathered_X7_positionAt : GoodIn wsX3_gathered (va_wsS RX3 162 yX7_positionAt wsX7_positionAt) := goodIn_app (goodIn_of _ (by decide +kernel)) ggX3_gathered_X7_positionAt
set_option maxRecDepth 20000 in
theorem ggX3_gathered_X0_holds : GoodIn wsX3_gathered wsX0_holds := goodIn_r _ [12, 13, 33, 34] (by decide +kernel) (by decide +kernel)
set_option maxRecDepth 20000 in
theorem gX3_gathered_X0_holds : GoodIn wsX3_gathered (wsV RX3 165 RX0 yX0_holds wsX0_holds) := goodIn_app (goodIn_of _ (by decide +kernel)) ggX3_gathered_X0_holds
set_option maxRecDepth 20000 in
theorem ggX3_gathered_X3_joined : GoodIn wsX3_gathered wsX3_joined := goodIn_r _ [17, 18, 19, 20] (by decide +kernel) (by decide +kernel)
set_option maxRecDepth 20000 in
theorem gX3_gathered_X3_joined : GoodIn wsX3_gathered (va_wsS RX3 172 yX3_joined wsX3_joined) := goodIn_app (goodIn_of _ (by decide +kernel)) ggX3_gathered_X3_joined
theorem dX3_gathered_0 : decode cX3_gathered 0 = .ok (.aload_n 1, 1) := by decide +kernel
theorem dX3_gathered_1 : decode cX3_gathered 1 = .ok (.iload_n 2, 1) := by decide +kernel
theorem dX3_gathered_2 : decode cX3_gathered 2 = .ok (.iaload, 1) := by decide +kernel
theorem dX3_gathered_3 : decode cX3_gathered 3 = .ok (.istore 5, 2) := by decide +kernel
theorem dX3_gathered_5 : decode cX3_gathered 5 = .ok (.iconst 0, 1) := by decide +kernel
theorem dX3_gathered_6 : decode cX3_gathered 6 = .ok (.istore 6, 2) := by decide +kernel
theorem dX3_gathered_8 : decode cX3_gathered 8 = .ok (.iload 6, 2) := by decide +kernel
theorem dX3_gathered_10 : decode cX3_gathered 10 = .ok (.iload_n 3, 1) := by decide +kernel
theorem dX3_gathered_11 : decode cX3_gathered 11 = .ok (.if_icmp .ge 100, 3) := by decide +kernel
theorem dX3_gathered_14 : decode cX3_gathered 14 = .ok (.iload_n 2, 1) := by decide +kernel
theorem dX3_gathered_15 : decode cX3_gathered 15 = .ok (.iload 6, 2) := by decide +kernel
theorem dX3_gathered_17 : decode cX3_gathered 17 = .ok (.invokestatic 162, 3) := by decide +kernel
theorem dX3_gathered_20 : decode cX3_gathered 20 = .ok (.istore 7, 2) := by decide +kernel
theorem dX3_gathered_22 : decode cX3_gathered 22 = .ok (.iconst 0, 1) := by decide +kernel
theorem dX3_gathered_23 : decode cX3_gathered 23 = .ok (.istore 8, 2) := by decide +kernel
theorem dX3_gathered_25 : decode cX3_gathered 25 = .ok (.iload 8, 2) := by decide +kernel
theorem dX3_gathered_27 : decode cX3_gathered 27 = .ok (.iconst 3, 1) := by decide +kernel
theorem dX3_gathered_28 : decode cX3_gathered 28 = .ok (.if_icmp .ge 77, 3) := by decide +kernel
theorem dX3_gathered_31 : decode cX3_gathered 31 = .ok (.iload 8, 2) := by decide +kernel
theorem dX3_gathered_33 : decode cX3_gathered 33 = .ok (.iload 7, 2) := by decide +kernel
theorem dX3_gathered_35 : decode cX3_gathered 35 = .ok (.if_icmp .eq 64, 3) := by decide +kernel
theorem dX3_gathered_38 : decode cX3_gathered 38 = .ok (.aload_n 0, 1) := by decide +kernel
theorem dX3_gathered_39 : decode cX3_gathered 39 = .ok (.getfield 14, 3) := by decide +kernel
theorem dX3_gathered_42 : decode cX3_gathered 42 = .ok (.iload 6, 2) := by decide +kernel
theorem dX3_gathered_44 : decode cX3_gathered 44 = .ok (.iload 4, 2) := by decide +kernel
theorem dX3_gathered_46 : decode cX3_gathered 46 = .ok (.ifCond .eq 8, 3) := by decide +kernel
theorem dX3_gathered_49 : decode cX3_gathered 49 = .ok (.iload 8, 2) := by decide +kernel
theorem dX3_gathered_51 : decode cX3_gathered 51 = .ok (.goto 5, 3) := by decide +kernel
theorem dX3_gathered_54 : decode cX3_gathered 54 = .ok (.iload 7, 2) := by decide +kernel
theorem dX3_gathered_56 : decode cX3_gathered 56 = .ok (.invokevirtual 165, 3) := by decide +kernel
theorem dX3_gathered_59 : decode cX3_gathered 59 = .ok (.ifCond .ne 40, 3) := by decide +kernel
theorem dX3_gathered_62 : decode cX3_gathered 62 = .ok (.aload_n 1, 1) := by decide +kernel
theorem dX3_gathered_63 : decode cX3_gathered 63 = .ok (.iload_n 2, 1) := by decide +kernel
theorem dX3_gathered_64 : decode cX3_gathered 64 = .ok (.iload 8, 2) := by decide +kernel
theorem dX3_gathered_66 : decode cX3_gathered 66 = .ok (.iload 7, 2) := by decide +kernel
theorem dX3_gathered_68 : decode cX3_gathered 68 = .ok (.isub, 1) := by decide +kernel
theorem dX3_gathered_69 : decode cX3_gathered 69 = .ok (.getstatic 169, 3) := by decide +kernel
theorem dX3_gathered_72 : decode cX3_gathered 72 = .ok (.iload 6, 2) := by decide +kernel
theorem dX3_gathered_74 : decode cX3_gathered 74 = .ok (.iaload, 1) := by decide +kernel
theorem dX3_gathered_75 : decode cX3_gathered 75 = .ok (.imul, 1) := by decide +kernel
theorem dX3_gathered_76 : decode cX3_gathered 76 = .ok (.iadd, 1) := by decide +kernel
theorem dX3_gathered_77 : decode cX3_gathered 77 = .ok (.iaload, 1) := by decide +kernel
theorem dX3_gathered_78 : decode cX3_gathered 78 = .ok (.istore 9, 2) := by decide +kernel
theorem dX3_gathered_80 : decode cX3_gathered 80 = .ok (.iload 9, 2) := by decide +kernel
theorem dX3_gathered_82 : decode cX3_gathered 82 = .ok (.ldc 58, 2) := by decide +kernel
theorem dX3_gathered_84 : decode cX3_gathered 84 = .ok (.if_icmp .eq 15, 3) := by decide +kernel
theorem dX3_gathered_87 : decode cX3_gathered 87 = .ok (.iload 5, 2) := by decide +kernel
theorem dX3_gathered_89 : decode cX3_gathered 89 = .ok (.iload 9, 2) := by decide +kernel
theorem dX3_gathered_91 : decode cX3_gathered 91 = .ok (.ldc 161, 2) := by decide +kernel
theorem dX3_gathered_93 : decode cX3_gathered 93 = .ok (.iadd, 1) := by decide +kernel
theorem dX3_gathered_94 : decode cX3_gathered 94 = .ok (.invokestatic 172, 3) := by decide +kernel
theorem dX3_gathered_97 : decode cX3_gathered 97 = .ok (.istore 5, 2) := by decide +kernel
theorem dX3_gathered_99 : decode cX3_gathered 99 = .ok (.iinc 8 1, 3) := by decide +kernel
theorem dX3_gathered_102 : decode cX3_gathered 102 = .ok (.goto (-77), 3) := by decide +kernel
theorem dX3_gathered_105 : decode cX3_gathered 105 = .ok (.iinc 6 1, 3) := by decide +kernel
theorem dX3_gathered_108 : decode cX3_gathered 108 = .ok (.goto (-100), 3) := by decide +kernel
theorem dX3_gathered_111 : decode cX3_gathered 111 = .ok (.iload 5, 2) := by decide +kernel
theorem dX3_gathered_113 : decode cX3_gathered 113 = .ok (.ireturn, 1) := by decide +kernel
theorem dX3_joined_0 : decode cX3_joined 0 = .ok (.iload_n 0, 1) := by decide +kernel
theorem dX3_joined_1 : decode cX3_joined 1 = .ok (.bipush 20, 2) := by decide +kernel
theorem dX3_joined_3 : decode cX3_joined 3 = .ok (.ishr, 1) := by decide +kernel
theorem dX3_joined_4 : decode cX3_joined 4 = .ok (.iload_n 1, 1) := by decide +kernel
theorem dX3_joined_5 : decode cX3_joined 5 = .ok (.bipush 20, 2) := by decide +kernel
theorem dX3_joined_7 : decode cX3_joined 7 = .ok (.ishr, 1) := by decide +kernel
theorem dX3_joined_8 : decode cX3_joined 8 = .ok (.if_icmp .eq 14, 3) := by decide +kernel
theorem dX3_joined_11 : decode cX3_joined 11 = .ok (.iload_n 0, 1) := by decide +kernel
theorem dX3_joined_12 : decode cX3_joined 12 = .ok (.iload_n 1, 1) := by decide +kernel
theorem dX3_joined_13 : decode cX3_joined 13 = .ok (.if_icmp .ge 7, 3) := by decide +kernel
theorem dX3_joined_16 : decode cX3_joined 16 = .ok (.iload_n 0, 1) := by decide +kernel
theorem dX3_joined_17 : decode cX3_joined 17 = .ok (.goto 4, 3) := by decide +kernel
theorem dX3_joined_20 : decode cX3_joined 20 = .ok (.iload_n 1, 1) := by decide +kernel
theorem dX3_joined_21 : decode cX3_joined 21 = .ok (.ireturn, 1) := by decide +kernel
theorem dX3_joined_22 : decode cX3_joined 22 = .ok (.iload_n 0, 1) := by decide +kernel
theorem dX3_joined_23 : decode cX3_joined 23 = .ok (.ldc 59, 2) := by decide +kernel
theorem dX3_joined_25 : decode cX3_joined 25 = .ok (.iand, 1) := by decide +kernel
theorem dX3_joined_26 : decode cX3_joined 26 = .ok (.iload_n 1, 1) := by decide +kernel
theorem dX3_joined_27 : decode cX3_joined 27 = .ok (.ldc 59, 2) := by decide +kernel
theorem dX3_joined_29 : decode cX3_joined 29 = .ok (.iand, 1) := by decide +kernel
theorem dX3_joined_30 : decode cX3_joined 30 = .ok (.iadd, 1) := by decide +kernel
theorem dX3_joined_31 : decode cX3_joined 31 = .ok (.ldc 175, 2) := by decide +kernel
theorem dX3_joined_33 : decode cX3_joined 33 = .ok (.irem, 1) := by decide +kernel
theorem dX3_joined_34 : decode cX3_joined 34 = .ok (.istore_n 2, 1) := by decide +kernel
theorem dX3_joined_35 : decode cX3_joined 35 = .ok (.iload_n 0, 1) := by decide +kernel
theorem dX3_joined_36 : decode cX3_joined 36 = .ok (.ldc 176, 2) := by decide +kernel
theorem dX3_joined_38 : decode cX3_joined 38 = .ok (.iand, 1) := by decide +kernel
theorem dX3_joined_39 : decode cX3_joined 39 = .ok (.iload_n 2, 1) := by decide +kernel
theorem dX3_joined_40 : decode cX3_joined 40 = .ok (.ior, 1) := by decide +kernel
theorem dX3_joined_41 : decode cX3_joined 41 = .ok (.ireturn, 1) := by decide +kernel
theorem dX3_howManyScored_0 : decode cX3_howManyScored 0 = .ok (.iconst 0, 1) := by decide +kernel
theorem dX3_howManyScored_1 : decode cX3_howManyScored 1 = .ok (.istore_n 1, 1) := by decide +kernel
theorem dX3_howManyScored_2 : decode cX3_howManyScored 2 = .ok (.iconst 0, 1) := by decide +kernel
theorem dX3_howManyScored_3 : decode cX3_howManyScored 3 = .ok (.istore_n 2, 1) := by decide +kernel
theorem dX3_howManyScored_4 : decode cX3_howManyScored 4 = .ok (.iload_n 2, 1) := by decide +kernel
theorem dX3_howManyScored_5 : decode cX3_howManyScored 5 = .ok (.sipush 2187, 3) := by decide +kernel
theorem dX3_howManyScored_8 : decode cX3_howManyScored 8 = .ok (.if_icmp .ge 20, 3) := by decide +kernel
theorem dX3_howManyScored_11 : decode cX3_howManyScored 11 = .ok (.aload_n 0, 1) := by decide +kernel
theorem dX3_howManyScored_12 : decode cX3_howManyScored 12 = .ok (.iload_n 2, 1) := by decide +kernel
theorem dX3_howManyScored_13 : decode cX3_howManyScored 13 = .ok (.iaload, 1) := by decide +kernel
theorem dX3_howManyScored_14 : decode cX3_howManyScored 14 = .ok (.ldc 58, 2) := by decide +kernel
theorem dX3_howManyScored_16 : decode cX3_howManyScored 16 = .ok (.if_icmp .eq 6, 3) := by decide +kernel
theorem dX3_howManyScored_19 : decode cX3_howManyScored 19 = .ok (.iinc 1 1, 3) := by decide +kernel
theorem dX3_howManyScored_22 : decode cX3_howManyScored 22 = .ok (.iinc 2 1, 3) := by decide +kernel
theorem dX3_howManyScored_25 : decode cX3_howManyScored 25 = .ok (.goto (-21), 3) := by decide +kernel
theorem dX3_howManyScored_28 : decode cX3_howManyScored 28 = .ok (.iload_n 1, 1) := by decide +kernel
theorem dX3_howManyScored_29 : decode cX3_howManyScored 29 = .ok (.ireturn, 1) := by decide +kernel
set_option maxRecDepth 20000 in
theorem ggX3_bestScore_X3_joined : GoodIn wsX3_bestScore wsX3_joined := goodIn_r _ [5, 6, 7, 8] (by decide +kernel) (by decide +kernel)
set_option maxRecDepth 20000 in
theorem gX3_bestScore_X3_joined : GoodIn wsX3_bestScore (va_wsS RX3 172 yX3_joined wsX3_joined) := goodIn_app (goodIn_of _ (by decide +kernel)) ggX3_bestScore_X3_joined
theorem dX3_bestScore_0 : decode cX3_bestScore 0 = .ok (.ldc 58, 2) := by decide +kernel
theorem dX3_bestScore_2 : decode cX3_bestScore 2 = .ok (.istore_n 1, 1) := by decide +kernel
theorem dX3_bestScore_3 : decode cX3_bestScore 3 = .ok (.iconst 0, 1) := by decide +kernel
theorem dX3_bestScore_4 : decode cX3_bestScore 4 = .ok (.istore_n 2, 1) := by decide +kernel
theorem dX3_bestScore_5 : decode cX3_bestScore 5 = .ok (.iload_n 2, 1) := by decide +kernel
theorem dX3_bestScore_6 : decode cX3_bestScore 6 = .ok (.sipush 2187, 3) := by decide +kernel
theorem dX3_bestScore_9 : decode cX3_bestScore 9 = .ok (.if_icmp .ge 25, 3) := by decide +kernel
theorem dX3_bestScore_12 : decode cX3_bestScore 12 = .ok (.aload_n 0, 1) := by decide +kernel
theorem dX3_bestScore_13 : decode cX3_bestScore 13 = .ok (.iload_n 2, 1) := by decide +kernel
theorem dX3_bestScore_14 : decode cX3_bestScore 14 = .ok (.iaload, 1) := by decide +kernel
theorem dX3_bestScore_15 : decode cX3_bestScore 15 = .ok (.ldc 58, 2) := by decide +kernel
theorem dX3_bestScore_17 : decode cX3_bestScore 17 = .ok (.if_icmp .eq 11, 3) := by decide +kernel
theorem dX3_bestScore_20 : decode cX3_bestScore 20 = .ok (.iload_n 1, 1) := by decide +kernel
theorem dX3_bestScore_21 : decode cX3_bestScore 21 = .ok (.aload_n 0, 1) := by decide +kernel
theorem dX3_bestScore_22 : decode cX3_bestScore 22 = .ok (.iload_n 2, 1) := by decide +kernel
theorem dX3_bestScore_23 : decode cX3_bestScore 23 = .ok (.iaload, 1) := by decide +kernel
theorem dX3_bestScore_24 : decode cX3_bestScore 24 = .ok (.invokestatic 172, 3) := by decide +kernel
theorem dX3_bestScore_27 : decode cX3_bestScore 27 = .ok (.istore_n 1, 1) := by decide +kernel
theorem dX3_bestScore_28 : decode cX3_bestScore 28 = .ok (.iinc 2 1, 3) := by decide +kernel
theorem dX3_bestScore_31 : decode cX3_bestScore 31 = .ok (.goto (-26), 3) := by decide +kernel
theorem dX3_bestScore_34 : decode cX3_bestScore 34 = .ok (.iload_n 1, 1) := by decide +kernel
theorem dX3_bestScore_35 : decode cX3_bestScore 35 = .ok (.ireturn, 1) := by decide +kernel
theorem dX3_settingOfBestScore_0 : decode cX3_settingOfBestScore 0 = .ok (.iconst (-1), 1) := by decide +kernel
theorem dX3_settingOfBestScore_1 : decode cX3_settingOfBestScore 1 = .ok (.istore_n 1, 1) := by decide +kernel
theorem dX3_settingOfBestScore_2 : decode cX3_settingOfBestScore 2 = .ok (.sipush 1024, 3) := by decide +kernel
theorem dX3_settingOfBestScore_5 : decode cX3_settingOfBestScore 5 = .ok (.istore_n 2, 1) := by decide +kernel
theorem dX3_settingOfBestScore_6 : decode cX3_settingOfBestScore 6 = .ok (.iconst 0, 1) := by decide +kernel
theorem dX3_settingOfBestScore_7 : decode cX3_settingOfBestScore 7 = .ok (.istore_n 3, 1) := by decide +kernel
theorem dX3_settingOfBestScore_8 : decode cX3_settingOfBestScore 8 = .ok (.iload_n 3, 1) := by decide +kernel
theorem dX3_settingOfBestScore_9 : decode cX3_settingOfBestScore 9 = .ok (.sipush 2187, 3) := by decide +kernel
theorem dX3_settingOfBestScore_12 : decode cX3_settingOfBestScore 12 = .ok (.if_icmp .ge 28, 3) := by decide +kernel
theorem dX3_settingOfBestScore_15 : decode cX3_settingOfBestScore 15 = .ok (.aload_n 0, 1) := by decide +kernel
theorem dX3_settingOfBestScore_16 : decode cX3_settingOfBestScore 16 = .ok (.iload_n 3, 1) := by decide +kernel
theorem dX3_settingOfBestScore_17 : decode cX3_settingOfBestScore 17 = .ok (.iaload, 1) := by decide +kernel
theorem dX3_settingOfBestScore_18 : decode cX3_settingOfBestScore 18 = .ok (.bipush 20, 2) := by decide +kernel
theorem dX3_settingOfBestScore_20 : decode cX3_settingOfBestScore 20 = .ok (.ishr, 1) := by decide +kernel
theorem dX3_settingOfBestScore_21 : decode cX3_settingOfBestScore 21 = .ok (.iload_n 2, 1) := by decide +kernel
theorem dX3_settingOfBestScore_22 : decode cX3_settingOfBestScore 22 = .ok (.if_icmp .ge 12, 3) := by decide +kernel
theorem dX3_settingOfBestScore_25 : decode cX3_settingOfBestScore 25 = .ok (.iload_n 3, 1) := by decide +kernel
theorem dX3_settingOfBestScore_26 : decode cX3_settingOfBestScore 26 = .ok (.istore_n 1, 1) := by decide +kernel
theorem dX3_settingOfBestScore_27 : decode cX3_settingOfBestScore 27 = .ok (.aload_n 0, 1) := by decide +kernel
theorem dX3_settingOfBestScore_28 : decode cX3_settingOfBestScore 28 = .ok (.iload_n 3, 1) := by decide +kernel
theorem dX3_settingOfBestScore_29 : decode cX3_settingOfBestScore 29 = .ok (.iaload, 1) := by decide +kernel
theorem dX3_settingOfBestScore_30 : decode cX3_settingOfBestScore 30 = .ok (.bipush 20, 2) := by decide +kernel
theorem dX3_settingOfBestScore_32 : decode cX3_settingOfBestScore 32 = .ok (.ishr, 1) := by decide +kernel
theorem dX3_settingOfBestScore_33 : decode cX3_settingOfBestScore 33 = .ok (.istore_n 2, 1) := by decide +kernel
theorem dX3_settingOfBestScore_34 : decode cX3_settingOfBestScore 34 = .ok (.iinc 3 1, 3) := by decide +kernel
theorem dX3_settingOfBestScore_37 : decode cX3_settingOfBestScore 37 = .ok (.goto (-29), 3) := by decide +kernel
theorem dX3_settingOfBestScore_40 : decode cX3_settingOfBestScore 40 = .ok (.iload_n 1, 1) := by decide +kernel
theorem dX3_settingOfBestScore_41 : decode cX3_settingOfBestScore 41 = .ok (.ireturn, 1) := by decide +kernel
set_option maxRecDepth 20000 in
theorem ggX4_init_X0_init : GoodIn wsX4_init wsX0_init := goodIn_r _ [10, 11, 2, 3] (by decide +kernel) (by decide +kernel)
set_option maxRecDepth 20000 in
theorem gX4_init_X0_init_n11 : GoodIn wsX4_init (wsX0_init) := ggX4_init_X0_init
theorem dX4_init_0 : decode cX4_init 0 = .ok (.aload_n 0, 1) := by decide +kernel
theorem dX4_init_1 : decode cX4_init 1 = .ok (.invokespecial 3, 3) := by decide +kernel
theorem dX4_init_4 : decode cX4_init 4 = .ok (.aload_n 0, 1) := by decide +kernel
theorem dX4_init_5 : decode cX4_init 5 = .ok (.new 9, 3) := by decide +kernel
theorem dX4_init_8 : decode cX4_init 8 = .ok (.dup, 1) := by decide +kernel
theorem dX4_init_9 : decode cX4_init 9 = .ok (.invokespecial 11, 3) := by decide +kernel
theorem dX4_init_12 : decode cX4_init 12 = .ok (.putfield 12, 3) := by decide +kernel
theorem dX4_init_15 : decode cX4_init 15 = .ok (.aload_n 0, 1) := by decide +kernel
theorem dX4_init_16 : decode cX4_init 16 = .ok (.aload_n 1, 1) := by decide +kernel
theorem dX4_init_17 : decode cX4_init 17 = .ok (.putfield 18, 3) := by decide +kernel
theorem dX4_init_20 : decode cX4_init 20 = .ok (.return_, 1) := by decide +kernel
set_option maxRecDepth 20000 in
theorem ggX4_playDrawn_X0_set : GoodIn wsX4_playDrawn wsX0_set := goodIn_r _ [10, 11, 12, 13, 14, 15, 16, 17, 54, 55] (by decide +kernel) (by decide +kernel)
set_option maxRecDepth 20000 in
theorem gX4_playDrawn_X0_set : GoodIn wsX4_playDrawn (wsV RX4 35 RX0 yX0_set wsX0_set) := goodIn_app (goodIn_of _ (by decide +kernel)) ggX4_playDrawn_X0_set
set_option maxRecDepth 20000 in
theorem ggX4_playDrawn_X4_nextDraw : GoodIn wsX4_playDrawn wsX4_nextDraw := goodIn_r _ [22, 23, 1, 24, 25, 26, 48, 49, 50, 51, 52, 53] (by decide +kernel) (by decide +kernel)
set_option maxRecDepth 20000 in
theorem gX4_playDrawn_X4_nextDraw : GoodIn wsX4_playDrawn (wsV RX4 39 RX4 yX4_nextDraw wsX4_nextDraw) := goodIn_app (goodIn_of _ (by decide +kernel)) ggX4_playDrawn_X4_nextDraw
set_option maxRecDepth 20000 in
theorem ggX4_playDrawn_X4_playChord : GoodIn wsX4_playDrawn wsX4_playChord := goodIn_r _ [30, 31, 5, 2, 3, 4, 32, 33, 34, 15, 35, 36, 37, 38, 39, 9, 40, 11, 41, 42, 43, 44, 45, 46, 47, 12, 48, 49, 50, 51, 52, 53, 56, 54, 55] (by decide +kernel) (by decide +kernel)
set_option maxRecDepth 20000 in
theorem gX4_playDrawn_X4_playChord : GoodIn wsX4_playDrawn (wsV RX4 43 RX4 yX4_playChord wsX4_playChord) := goodIn_app (goodIn_of _ (by decide +kernel)) ggX4_playDrawn_X4_playChord
theorem dX4_playDrawn_0 : decode cX4_playDrawn 0 = .ok (.aload_n 0, 1) := by decide +kernel
theorem dX4_playDrawn_1 : decode cX4_playDrawn 1 = .ok (.iload_n 3, 1) := by decide +kernel
theorem dX4_playDrawn_2 : decode cX4_playDrawn 2 = .ok (.putfield 22, 3) := by decide +kernel
theorem dX4_playDrawn_5 : decode cX4_playDrawn 5 = .ok (.aload_n 0, 1) := by decide +kernel
theorem dX4_playDrawn_6 : decode cX4_playDrawn 6 = .ok (.iload_n 1, 1) := by decide +kernel
theorem dX4_playDrawn_7 : decode cX4_playDrawn 7 = .ok (.putfield 26, 3) := by decide +kernel
theorem dX4_playDrawn_10 : decode cX4_playDrawn 10 = .ok (.aload_n 0, 1) := by decide +kernel
theorem dX4_playDrawn_11 : decode cX4_playDrawn 11 = .ok (.iconst 0, 1) := by decide +kernel
theorem dX4_playDrawn_12 : decode cX4_playDrawn 12 = .ok (.putfield 29, 3) := by decide +kernel
theorem dX4_playDrawn_15 : decode cX4_playDrawn 15 = .ok (.aload_n 0, 1) := by decide +kernel
theorem dX4_playDrawn_16 : decode cX4_playDrawn 16 = .ok (.iconst 0, 1) := by decide +kernel
theorem dX4_playDrawn_17 : decode cX4_playDrawn 17 = .ok (.putfield 32, 3) := by decide +kernel
theorem dX4_playDrawn_20 : decode cX4_playDrawn 20 = .ok (.aload_n 0, 1) := by decide +kernel
theorem dX4_playDrawn_21 : decode cX4_playDrawn 21 = .ok (.getfield 12, 3) := by decide +kernel
theorem dX4_playDrawn_24 : decode cX4_playDrawn 24 = .ok (.iconst 0, 1) := by decide +kernel
theorem dX4_playDrawn_25 : decode cX4_playDrawn 25 = .ok (.iconst 0, 1) := by decide +kernel
theorem dX4_playDrawn_26 : decode cX4_playDrawn 26 = .ok (.invokevirtual 35, 3) := by decide +kernel
theorem dX4_playDrawn_29 : decode cX4_playDrawn 29 = .ok (.iconst 0, 1) := by decide +kernel
theorem dX4_playDrawn_30 : decode cX4_playDrawn 30 = .ok (.istore 4, 2) := by decide +kernel
theorem dX4_playDrawn_32 : decode cX4_playDrawn 32 = .ok (.iload 4, 2) := by decide +kernel
theorem dX4_playDrawn_34 : decode cX4_playDrawn 34 = .ok (.iload_n 2, 1) := by decide +kernel
theorem dX4_playDrawn_35 : decode cX4_playDrawn 35 = .ok (.if_icmp .ge 48, 3) := by decide +kernel
theorem dX4_playDrawn_38 : decode cX4_playDrawn 38 = .ok (.aload_n 0, 1) := by decide +kernel
theorem dX4_playDrawn_39 : decode cX4_playDrawn 39 = .ok (.invokevirtual 39, 3) := by decide +kernel
theorem dX4_playDrawn_42 : decode cX4_playDrawn 42 = .ok (.bipush 12, 2) := by decide +kernel
theorem dX4_playDrawn_44 : decode cX4_playDrawn 44 = .ok (.irem, 1) := by decide +kernel
theorem dX4_playDrawn_45 : decode cX4_playDrawn 45 = .ok (.istore 5, 2) := by decide +kernel
theorem dX4_playDrawn_47 : decode cX4_playDrawn 47 = .ok (.iload 5, 2) := by decide +kernel
theorem dX4_playDrawn_49 : decode cX4_playDrawn 49 = .ok (.aload_n 0, 1) := by decide +kernel
theorem dX4_playDrawn_50 : decode cX4_playDrawn 50 = .ok (.invokevirtual 39, 3) := by decide +kernel
theorem dX4_playDrawn_53 : decode cX4_playDrawn 53 = .ok (.bipush 11, 2) := by decide +kernel
theorem dX4_playDrawn_55 : decode cX4_playDrawn 55 = .ok (.irem, 1) := by decide +kernel
theorem dX4_playDrawn_56 : decode cX4_playDrawn 56 = .ok (.iadd, 1) := by decide +kernel
theorem dX4_playDrawn_57 : decode cX4_playDrawn 57 = .ok (.iconst 1, 1) := by decide +kernel
theorem dX4_playDrawn_58 : decode cX4_playDrawn 58 = .ok (.iadd, 1) := by decide +kernel
theorem dX4_playDrawn_59 : decode cX4_playDrawn 59 = .ok (.bipush 12, 2) := by decide +kernel
theorem dX4_playDrawn_61 : decode cX4_playDrawn 61 = .ok (.irem, 1) := by decide +kernel
theorem dX4_playDrawn_62 : decode cX4_playDrawn 62 = .ok (.istore 6, 2) := by decide +kernel
theorem dX4_playDrawn_64 : decode cX4_playDrawn 64 = .ok (.aload_n 0, 1) := by decide +kernel
theorem dX4_playDrawn_65 : decode cX4_playDrawn 65 = .ok (.iconst 1, 1) := by decide +kernel
theorem dX4_playDrawn_66 : decode cX4_playDrawn 66 = .ok (.iload 5, 2) := by decide +kernel
theorem dX4_playDrawn_68 : decode cX4_playDrawn 68 = .ok (.ishl, 1) := by decide +kernel
theorem dX4_playDrawn_69 : decode cX4_playDrawn 69 = .ok (.iconst 1, 1) := by decide +kernel
theorem dX4_playDrawn_70 : decode cX4_playDrawn 70 = .ok (.iload 6, 2) := by decide +kernel
theorem dX4_playDrawn_72 : decode cX4_playDrawn 72 = .ok (.ishl, 1) := by decide +kernel
theorem dX4_playDrawn_73 : decode cX4_playDrawn 73 = .ok (.ior, 1) := by decide +kernel
theorem dX4_playDrawn_74 : decode cX4_playDrawn 74 = .ok (.invokevirtual 43, 3) := by decide +kernel
theorem dX4_playDrawn_77 : decode cX4_playDrawn 77 = .ok (.iinc 4 1, 3) := by decide +kernel
theorem dX4_playDrawn_80 : decode cX4_playDrawn 80 = .ok (.goto (-48), 3) := by decide +kernel
theorem dX4_playDrawn_83 : decode cX4_playDrawn 83 = .ok (.return_, 1) := by decide +kernel
set_option maxRecDepth 20000 in
theorem ggX4_playChord_X7_fits : GoodIn wsX4_playChord wsX7_fits := goodIn_r _ [10, 11, 32] (by decide +kernel) (by decide +kernel)
set_option maxRecDepth 20000 in
theorem gX4_playChord_X7_fits : GoodIn wsX4_playChord (wsV RX4 47 RX7 yX7_fits wsX7_fits) := goodIn_app (goodIn_of _ (by decide +kernel)) ggX4_playChord_X7_fits
set_option maxRecDepth 20000 in
theorem ggX4_playChord_X0_movesBetween : GoodIn wsX4_playChord wsX0_movesBetween := goodIn_r _ [16, 17, 18, 19, 9, 20, 21, 22, 23, 15, 24, 25, 33, 34] (by decide +kernel) (by decide +kernel)
set_option maxRecDepth 20000 in
theorem gX4_playChord_X0_movesBetween : GoodIn wsX4_playChord (wsV RX4 53 RX0 yX0_movesBetween wsX0_movesBetween) := goodIn_app (goodIn_of _ (by decide +kernel)) ggX4_playChord_X0_movesBetween
theorem dX4_playChord_0 : decode cX4_playChord 0 = .ok (.iconst (-1), 1) := by decide +kernel
theorem dX4_playChord_1 : decode cX4_playChord 1 = .ok (.istore_n 2, 1) := by decide +kernel
theorem dX4_playChord_2 : decode cX4_playChord 2 = .ok (.bipush 7, 2) := by decide +kernel
theorem dX4_playChord_4 : decode cX4_playChord 4 = .ok (.istore_n 3, 1) := by decide +kernel
theorem dX4_playChord_5 : decode cX4_playChord 5 = .ok (.iconst 0, 1) := by decide +kernel
theorem dX4_playChord_6 : decode cX4_playChord 6 = .ok (.istore 4, 2) := by decide +kernel
theorem dX4_playChord_8 : decode cX4_playChord 8 = .ok (.iload 4, 2) := by decide +kernel
theorem dX4_playChord_10 : decode cX4_playChord 10 = .ok (.sipush 2187, 3) := by decide +kernel
theorem dX4_playChord_13 : decode cX4_playChord 13 = .ok (.if_icmp .ge 56, 3) := by decide +kernel
theorem dX4_playChord_16 : decode cX4_playChord 16 = .ok (.aload_n 0, 1) := by decide +kernel
theorem dX4_playChord_17 : decode cX4_playChord 17 = .ok (.getfield 18, 3) := by decide +kernel
theorem dX4_playChord_20 : decode cX4_playChord 20 = .ok (.iload 4, 2) := by decide +kernel
theorem dX4_playChord_22 : decode cX4_playChord 22 = .ok (.iconst 0, 1) := by decide +kernel
theorem dX4_playChord_23 : decode cX4_playChord 23 = .ok (.iload_n 1, 1) := by decide +kernel
theorem dX4_playChord_24 : decode cX4_playChord 24 = .ok (.invokevirtual 47, 3) := by decide +kernel
theorem dX4_playChord_27 : decode cX4_playChord 27 = .ok (.ifCond .eq 36, 3) := by decide +kernel
theorem dX4_playChord_30 : decode cX4_playChord 30 = .ok (.aload_n 0, 1) := by decide +kernel
theorem dX4_playChord_31 : decode cX4_playChord 31 = .ok (.getfield 12, 3) := by decide +kernel
theorem dX4_playChord_34 : decode cX4_playChord 34 = .ok (.aload_n 0, 1) := by decide +kernel
theorem dX4_playChord_35 : decode cX4_playChord 35 = .ok (.getfield 26, 3) := by decide +kernel
theorem dX4_playChord_38 : decode cX4_playChord 38 = .ok (.iload 4, 2) := by decide +kernel
theorem dX4_playChord_40 : decode cX4_playChord 40 = .ok (.invokevirtual 53, 3) := by decide +kernel
theorem dX4_playChord_43 : decode cX4_playChord 43 = .ok (.istore 5, 2) := by decide +kernel
theorem dX4_playChord_45 : decode cX4_playChord 45 = .ok (.iload 5, 2) := by decide +kernel
theorem dX4_playChord_47 : decode cX4_playChord 47 = .ok (.iconst (-1), 1) := by decide +kernel
theorem dX4_playChord_48 : decode cX4_playChord 48 = .ok (.if_icmp .eq 15, 3) := by decide +kernel
theorem dX4_playChord_51 : decode cX4_playChord 51 = .ok (.iload 5, 2) := by decide +kernel
theorem dX4_playChord_53 : decode cX4_playChord 53 = .ok (.iload_n 3, 1) := by decide +kernel
theorem dX4_playChord_54 : decode cX4_playChord 54 = .ok (.if_icmp .ge 9, 3) := by decide +kernel
theorem dX4_playChord_57 : decode cX4_playChord 57 = .ok (.iload 4, 2) := by decide +kernel
theorem dX4_playChord_59 : decode cX4_playChord 59 = .ok (.istore_n 2, 1) := by decide +kernel
theorem dX4_playChord_60 : decode cX4_playChord 60 = .ok (.iload 5, 2) := by decide +kernel
theorem dX4_playChord_62 : decode cX4_playChord 62 = .ok (.istore_n 3, 1) := by decide +kernel
theorem dX4_playChord_63 : decode cX4_playChord 63 = .ok (.iinc 4 1, 3) := by decide +kernel
theorem dX4_playChord_66 : decode cX4_playChord 66 = .ok (.goto (-58), 3) := by decide +kernel
theorem dX4_playChord_69 : decode cX4_playChord 69 = .ok (.iload_n 2, 1) := by decide +kernel
theorem dX4_playChord_70 : decode cX4_playChord 70 = .ok (.iconst (-1), 1) := by decide +kernel
theorem dX4_playChord_71 : decode cX4_playChord 71 = .ok (.if_icmp .eq 28, 3) := by decide +kernel
theorem dX4_playChord_74 : decode cX4_playChord 74 = .ok (.aload_n 0, 1) := by decide +kernel
theorem dX4_playChord_75 : decode cX4_playChord 75 = .ok (.iload_n 2, 1) := by decide +kernel
theorem dX4_playChord_76 : decode cX4_playChord 76 = .ok (.putfield 26, 3) := by decide +kernel
theorem dX4_playChord_79 : decode cX4_playChord 79 = .ok (.aload_n 0, 1) := by decide +kernel
theorem dX4_playChord_80 : decode cX4_playChord 80 = .ok (.dup, 1) := by decide +kernel
theorem dX4_playChord_81 : decode cX4_playChord 81 = .ok (.getfield 29, 3) := by decide +kernel
theorem dX4_playChord_84 : decode cX4_playChord 84 = .ok (.iconst 1, 1) := by decide +kernel
theorem dX4_playChord_85 : decode cX4_playChord 85 = .ok (.iadd, 1) := by decide +kernel
theorem dX4_playChord_86 : decode cX4_playChord 86 = .ok (.putfield 29, 3) := by decide +kernel
theorem dX4_playChord_89 : decode cX4_playChord 89 = .ok (.aload_n 0, 1) := by decide +kernel
theorem dX4_playChord_90 : decode cX4_playChord 90 = .ok (.dup, 1) := by decide +kernel
theorem dX4_playChord_91 : decode cX4_playChord 91 = .ok (.getfield 32, 3) := by decide +kernel
theorem dX4_playChord_94 : decode cX4_playChord 94 = .ok (.iload_n 3, 1) := by decide +kernel
theorem dX4_playChord_95 : decode cX4_playChord 95 = .ok (.iadd, 1) := by decide +kernel
theorem dX4_playChord_96 : decode cX4_playChord 96 = .ok (.putfield 32, 3) := by decide +kernel
theorem dX4_playChord_99 : decode cX4_playChord 99 = .ok (.return_, 1) := by decide +kernel
theorem dX4_nextDraw_0 : decode cX4_nextDraw 0 = .ok (.aload_n 0, 1) := by decide +kernel
theorem dX4_nextDraw_1 : decode cX4_nextDraw 1 = .ok (.ldc2_w 57, 3) := by decide +kernel
theorem dX4_nextDraw_4 : decode cX4_nextDraw 4 = .ok (.aload_n 0, 1) := by decide +kernel
theorem dX4_nextDraw_5 : decode cX4_nextDraw 5 = .ok (.getfield 22, 3) := by decide +kernel
theorem dX4_nextDraw_8 : decode cX4_nextDraw 8 = .ok (.i2l, 1) := by decide +kernel
theorem dX4_nextDraw_9 : decode cX4_nextDraw 9 = .ok (.lmul, 1) := by decide +kernel
theorem dX4_nextDraw_10 : decode cX4_nextDraw 10 = .ok (.ldc2_w 59, 3) := by decide +kernel
theorem dX4_nextDraw_13 : decode cX4_nextDraw 13 = .ok (.ladd, 1) := by decide +kernel
theorem dX4_nextDraw_14 : decode cX4_nextDraw 14 = .ok (.ldc2_w 63, 3) := by decide +kernel
theorem dX4_nextDraw_17 : decode cX4_nextDraw 17 = .ok (.land, 1) := by decide +kernel
theorem dX4_nextDraw_18 : decode cX4_nextDraw 18 = .ok (.l2i, 1) := by decide +kernel
theorem dX4_nextDraw_19 : decode cX4_nextDraw 19 = .ok (.putfield 22, 3) := by decide +kernel
theorem dX4_nextDraw_22 : decode cX4_nextDraw 22 = .ok (.aload_n 0, 1) := by decide +kernel
theorem dX4_nextDraw_23 : decode cX4_nextDraw 23 = .ok (.getfield 22, 3) := by decide +kernel
theorem dX4_nextDraw_26 : decode cX4_nextDraw 26 = .ok (.ldc 65, 2) := by decide +kernel
theorem dX4_nextDraw_28 : decode cX4_nextDraw 28 = .ok (.idiv, 1) := by decide +kernel
theorem dX4_nextDraw_29 : decode cX4_nextDraw 29 = .ok (.ireturn, 1) := by decide +kernel
set_option maxRecDepth 20000 in
theorem ggX5_init_X2_init : GoodIn wsX5_init wsX2_init := goodIn_r _ [9, 10, 2, 3, 11, 12, 13, 14, 15, 16, 17] (by decide +kernel) (by decide +kernel)
set_option maxRecDepth 20000 in
theorem gX5_init_X2_init_n11 : GoodIn wsX5_init (wsX2_init) := ggX5_init_X2_init
theorem dX5_init_0 : decode cX5_init 0 = .ok (.aload_n 0, 1) := by decide +kernel
theorem dX5_init_1 : decode cX5_init 1 = .ok (.invokespecial 3, 3) := by decide +kernel
theorem dX5_init_4 : decode cX5_init 4 = .ok (.aload_n 0, 1) := by decide +kernel
theorem dX5_init_5 : decode cX5_init 5 = .ok (.new 9, 3) := by decide +kernel
theorem dX5_init_8 : decode cX5_init 8 = .ok (.dup, 1) := by decide +kernel
theorem dX5_init_9 : decode cX5_init 9 = .ok (.invokespecial 11, 3) := by decide +kernel
theorem dX5_init_12 : decode cX5_init 12 = .ok (.putfield 12, 3) := by decide +kernel
theorem dX5_init_15 : decode cX5_init 15 = .ok (.return_, 1) := by decide +kernel
set_option maxRecDepth 20000 in
theorem ggX5_restart_X2_clear : GoodIn wsX5_restart wsX2_clear := goodIn_r _ [8, 9, 10, 14, 15, 16, 17] (by decide +kernel) (by decide +kernel)
set_option maxRecDepth 20000 in
theorem gX5_restart_X2_clear : GoodIn wsX5_restart (wsV RX5 18 RX2 yX2_clear wsX2_clear) := goodIn_app (goodIn_of _ (by decide +kernel)) ggX5_restart_X2_clear
theorem dX5_restart_0 : decode cX5_restart 0 = .ok (.aload_n 0, 1) := by decide +kernel
theorem dX5_restart_1 : decode cX5_restart 1 = .ok (.getfield 12, 3) := by decide +kernel
theorem dX5_restart_4 : decode cX5_restart 4 = .ok (.invokevirtual 18, 3) := by decide +kernel
theorem dX5_restart_7 : decode cX5_restart 7 = .ok (.aload_n 0, 1) := by decide +kernel
theorem dX5_restart_8 : decode cX5_restart 8 = .ok (.iconst 0, 1) := by decide +kernel
theorem dX5_restart_9 : decode cX5_restart 9 = .ok (.putfield 21, 3) := by decide +kernel
theorem dX5_restart_12 : decode cX5_restart 12 = .ok (.aload_n 0, 1) := by decide +kernel
theorem dX5_restart_13 : decode cX5_restart 13 = .ok (.iconst 1, 1) := by decide +kernel
theorem dX5_restart_14 : decode cX5_restart 14 = .ok (.putfield 25, 3) := by decide +kernel
theorem dX5_restart_17 : decode cX5_restart 17 = .ok (.return_, 1) := by decide +kernel
set_option maxRecDepth 20000 in
theorem ggX5_accept_X5_acceptPosition : GoodIn wsX5_accept wsX5_acceptPosition := goodIn_r _ [7, 8, 9, 10, 11, 50, 51, 52, 53, 54, 55, 56] (by decide +kernel) (by decide +kernel)
set_option maxRecDepth 20000 in
theorem gX5_accept_X5_acceptPosition : GoodIn wsX5_accept (wsV RX5 29 RX5 yX5_acceptPosition wsX5_acceptPosition) := goodIn_app (goodIn_of _ (by decide +kernel)) ggX5_accept_X5_acceptPosition
set_option maxRecDepth 20000 in
theorem ggX5_accept_X5_acceptKind : GoodIn wsX5_accept wsX5_acceptKind := goodIn_r _ [15, 2, 8, 16, 17, 6, 18, 19, 20, 21, 22, 23, 24, 25, 26, 50, 51, 52, 53, 54, 55, 56] (by decide +kernel) (by decide +kernel)
set_option maxRecDepth 20000 in
theorem gX5_accept_X5_acceptKind : GoodIn wsX5_accept (wsV RX5 33 RX5 yX5_acceptKind wsX5_acceptKind) := goodIn_app (goodIn_of _ (by decide +kernel)) ggX5_accept_X5_acceptKind
set_option maxRecDepth 20000 in
theorem ggX5_accept_X5_acceptTone : GoodIn wsX5_accept wsX5_acceptTone := goodIn_r _ [30, 8, 31, 32, 33, 22, 34, 24, 26, 35, 36, 37, 38, 39, 40, 41, 42, 43, 44, 45, 50, 51, 52, 53, 54, 55, 56] (by decide +kernel) (by decide +kernel)
set_option maxRecDepth 20000 in
theorem gX5_accept_X5_acceptTone : GoodIn wsX5_accept (wsV RX5 36 RX5 yX5_acceptTone wsX5_acceptTone) := goodIn_app (goodIn_of _ (by decide +kernel)) ggX5_accept_X5_acceptTone
set_option maxRecDepth 20000 in
theorem ggX5_accept_X5_acceptComma : GoodIn wsX5_accept wsX5_acceptComma := goodIn_r _ [49, 8, 2, 31, 32, 33, 22, 34, 24, 26, 50, 51, 52, 53, 54, 55, 56] (by decide +kernel) (by decide +kernel)
set_option maxRecDepth 20000 in
theorem gX5_accept_X5_acceptComma : GoodIn wsX5_accept (wsV RX5 39 RX5 yX5_acceptComma wsX5_acceptComma) := goodIn_app (goodIn_of _ (by decide +kernel)) ggX5_accept_X5_acceptComma
theorem dX5_accept_0 : decode cX5_accept 0 = .ok (.aload_n 0, 1) := by decide +kernel
theorem dX5_accept_1 : decode cX5_accept 1 = .ok (.getfield 21, 3) := by decide +kernel
theorem dX5_accept_4 : decode cX5_accept 4 = .ok (.bipush 7, 2) := by decide +kernel
theorem dX5_accept_6 : decode cX5_accept 6 = .ok (.if_icmp .ge 12, 3) := by decide +kernel
theorem dX5_accept_9 : decode cX5_accept 9 = .ok (.aload_n 0, 1) := by decide +kernel
theorem dX5_accept_10 : decode cX5_accept 10 = .ok (.iload_n 1, 1) := by decide +kernel
theorem dX5_accept_11 : decode cX5_accept 11 = .ok (.invokevirtual 29, 3) := by decide +kernel
theorem dX5_accept_14 : decode cX5_accept 14 = .ok (.istore_n 2, 1) := by decide +kernel
theorem dX5_accept_15 : decode cX5_accept 15 = .ok (.goto 65, 3) := by decide +kernel
theorem dX5_accept_18 : decode cX5_accept 18 = .ok (.aload_n 0, 1) := by decide +kernel
theorem dX5_accept_19 : decode cX5_accept 19 = .ok (.getfield 21, 3) := by decide +kernel
theorem dX5_accept_22 : decode cX5_accept 22 = .ok (.bipush 7, 2) := by decide +kernel
theorem dX5_accept_24 : decode cX5_accept 24 = .ok (.if_icmp .ne 18, 3) := by decide +kernel
theorem dX5_accept_27 : decode cX5_accept 27 = .ok (.iload_n 1, 1) := by decide +kernel
theorem dX5_accept_28 : decode cX5_accept 28 = .ok (.bipush 59, 2) := by decide +kernel
theorem dX5_accept_30 : decode cX5_accept 30 = .ok (.if_icmp .ne 7, 3) := by decide +kernel
theorem dX5_accept_33 : decode cX5_accept 33 = .ok (.iconst 1, 1) := by decide +kernel
theorem dX5_accept_34 : decode cX5_accept 34 = .ok (.goto 4, 3) := by decide +kernel
theorem dX5_accept_37 : decode cX5_accept 37 = .ok (.iconst 0, 1) := by decide +kernel
theorem dX5_accept_38 : decode cX5_accept 38 = .ok (.istore_n 2, 1) := by decide +kernel
theorem dX5_accept_39 : decode cX5_accept 39 = .ok (.goto 41, 3) := by decide +kernel
theorem dX5_accept_42 : decode cX5_accept 42 = .ok (.aload_n 0, 1) := by decide +kernel
theorem dX5_accept_43 : decode cX5_accept 43 = .ok (.getfield 25, 3) := by decide +kernel
theorem dX5_accept_46 : decode cX5_accept 46 = .ok (.ifCond .eq 12, 3) := by decide +kernel
theorem dX5_accept_49 : decode cX5_accept 49 = .ok (.aload_n 0, 1) := by decide +kernel
theorem dX5_accept_50 : decode cX5_accept 50 = .ok (.iload_n 1, 1) := by decide +kernel
theorem dX5_accept_51 : decode cX5_accept 51 = .ok (.invokevirtual 33, 3) := by decide +kernel
theorem dX5_accept_54 : decode cX5_accept 54 = .ok (.istore_n 2, 1) := by decide +kernel
theorem dX5_accept_55 : decode cX5_accept 55 = .ok (.goto 25, 3) := by decide +kernel
theorem dX5_accept_58 : decode cX5_accept 58 = .ok (.aload_n 0, 1) := by decide +kernel
theorem dX5_accept_59 : decode cX5_accept 59 = .ok (.iload_n 1, 1) := by decide +kernel
theorem dX5_accept_60 : decode cX5_accept 60 = .ok (.invokevirtual 36, 3) := by decide +kernel
theorem dX5_accept_63 : decode cX5_accept 63 = .ok (.ifCond .ne 11, 3) := by decide +kernel
theorem dX5_accept_66 : decode cX5_accept 66 = .ok (.aload_n 0, 1) := by decide +kernel
theorem dX5_accept_67 : decode cX5_accept 67 = .ok (.iload_n 1, 1) := by decide +kernel
theorem dX5_accept_68 : decode cX5_accept 68 = .ok (.invokevirtual 39, 3) := by decide +kernel
theorem dX5_accept_71 : decode cX5_accept 71 = .ok (.ifCond .eq 7, 3) := by decide +kernel
theorem dX5_accept_74 : decode cX5_accept 74 = .ok (.iconst 1, 1) := by decide +kernel
theorem dX5_accept_75 : decode cX5_accept 75 = .ok (.goto 4, 3) := by decide +kernel
theorem dX5_accept_78 : decode cX5_accept 78 = .ok (.iconst 0, 1) := by decide +kernel
theorem dX5_accept_79 : decode cX5_accept 79 = .ok (.istore_n 2, 1) := by decide +kernel
theorem dX5_accept_80 : decode cX5_accept 80 = .ok (.iload_n 2, 1) := by decide +kernel
theorem dX5_accept_81 : decode cX5_accept 81 = .ok (.ifCond .eq 13, 3) := by decide +kernel
theorem dX5_accept_84 : decode cX5_accept 84 = .ok (.aload_n 0, 1) := by decide +kernel
theorem dX5_accept_85 : decode cX5_accept 85 = .ok (.dup, 1) := by decide +kernel
theorem dX5_accept_86 : decode cX5_accept 86 = .ok (.getfield 21, 3) := by decide +kernel
theorem dX5_accept_89 : decode cX5_accept 89 = .ok (.iconst 1, 1) := by decide +kernel
theorem dX5_accept_90 : decode cX5_accept 90 = .ok (.iadd, 1) := by decide +kernel
theorem dX5_accept_91 : decode cX5_accept 91 = .ok (.putfield 21, 3) := by decide +kernel
theorem dX5_accept_94 : decode cX5_accept 94 = .ok (.iload_n 2, 1) := by decide +kernel
theorem dX5_accept_95 : decode cX5_accept 95 = .ok (.ireturn, 1) := by decide +kernel
set_option maxRecDepth 20000 in
theorem ggX5_isWhole_X2_tonesOfLast : GoodIn wsX5_isWhole wsX2_tonesOfLast := goodIn_r _ [7, 8, 9, 13, 14, 15, 16] (by decide +kernel) (by decide +kernel)
set_option maxRecDepth 20000 in
theorem gX5_isWhole_X2_tonesOfLast : GoodIn wsX5_isWhole (wsV RX5 42 RX2 yX2_tonesOfLast wsX2_tonesOfLast) := goodIn_app (goodIn_of _ (by decide +kernel)) ggX5_isWhole_X2_tonesOfLast
theorem dX5_isWhole_0 : decode cX5_isWhole 0 = .ok (.aload_n 0, 1) := by decide +kernel
theorem dX5_isWhole_1 : decode cX5_isWhole 1 = .ok (.getfield 25, 3) := by decide +kernel
theorem dX5_isWhole_4 : decode cX5_isWhole 4 = .ok (.ifCond .ne 17, 3) := by decide +kernel
theorem dX5_isWhole_7 : decode cX5_isWhole 7 = .ok (.aload_n 0, 1) := by decide +kernel
theorem dX5_isWhole_8 : decode cX5_isWhole 8 = .ok (.getfield 12, 3) := by decide +kernel
theorem dX5_isWhole_11 : decode cX5_isWhole 11 = .ok (.invokevirtual 42, 3) := by decide +kernel
theorem dX5_isWhole_14 : decode cX5_isWhole 14 = .ok (.ifCond .eq 7, 3) := by decide +kernel
theorem dX5_isWhole_17 : decode cX5_isWhole 17 = .ok (.iconst 1, 1) := by decide +kernel
theorem dX5_isWhole_18 : decode cX5_isWhole 18 = .ok (.goto 4, 3) := by decide +kernel
theorem dX5_isWhole_21 : decode cX5_isWhole 21 = .ok (.iconst 0, 1) := by decide +kernel
theorem dX5_isWhole_22 : decode cX5_isWhole 22 = .ok (.ireturn, 1) := by decide +kernel
set_option maxRecDepth 20000 in
theorem ggX5_acceptPosition_X8_isPosition : GoodIn wsX5_acceptPosition wsX8_isPosition := goodIn_r _ [4] (by decide +kernel) (by decide +kernel)
set_option maxRecDepth 20000 in
theorem gX5_acceptPosition_X8_isPosition_n46 : GoodIn wsX5_acceptPosition (wsX8_isPosition) := ggX5_acceptPosition_X8_isPosition
theorem dX5_acceptPosition_0 : decode cX5_acceptPosition 0 = .ok (.iload_n 1, 1) := by decide +kernel
theorem dX5_acceptPosition_1 : decode cX5_acceptPosition 1 = .ok (.bipush 48, 2) := by decide +kernel
theorem dX5_acceptPosition_3 : decode cX5_acceptPosition 3 = .ok (.isub, 1) := by decide +kernel
theorem dX5_acceptPosition_4 : decode cX5_acceptPosition 4 = .ok (.istore_n 2, 1) := by decide +kernel
theorem dX5_acceptPosition_5 : decode cX5_acceptPosition 5 = .ok (.iload_n 2, 1) := by decide +kernel
theorem dX5_acceptPosition_6 : decode cX5_acceptPosition 6 = .ok (.invokestatic 46, 3) := by decide +kernel
theorem dX5_acceptPosition_9 : decode cX5_acceptPosition 9 = .ok (.ifCond .ne 5, 3) := by decide +kernel
theorem dX5_acceptPosition_12 : decode cX5_acceptPosition 12 = .ok (.iconst 0, 1) := by decide +kernel
theorem dX5_acceptPosition_13 : decode cX5_acceptPosition 13 = .ok (.ireturn, 1) := by decide +kernel
theorem dX5_acceptPosition_14 : decode cX5_acceptPosition 14 = .ok (.aload_n 0, 1) := by decide +kernel
theorem dX5_acceptPosition_15 : decode cX5_acceptPosition 15 = .ok (.getfield 12, 3) := by decide +kernel
theorem dX5_acceptPosition_18 : decode cX5_acceptPosition 18 = .ok (.aload_n 0, 1) := by decide +kernel
theorem dX5_acceptPosition_19 : decode cX5_acceptPosition 19 = .ok (.getfield 12, 3) := by decide +kernel
theorem dX5_acceptPosition_22 : decode cX5_acceptPosition 22 = .ok (.getfield 49, 3) := by decide +kernel
theorem dX5_acceptPosition_25 : decode cX5_acceptPosition 25 = .ok (.iconst 3, 1) := by decide +kernel
theorem dX5_acceptPosition_26 : decode cX5_acceptPosition 26 = .ok (.imul, 1) := by decide +kernel
theorem dX5_acceptPosition_27 : decode cX5_acceptPosition 27 = .ok (.iload_n 2, 1) := by decide +kernel
theorem dX5_acceptPosition_28 : decode cX5_acceptPosition 28 = .ok (.iadd, 1) := by decide +kernel
theorem dX5_acceptPosition_29 : decode cX5_acceptPosition 29 = .ok (.putfield 49, 3) := by decide +kernel
theorem dX5_acceptPosition_32 : decode cX5_acceptPosition 32 = .ok (.iconst 1, 1) := by decide +kernel
theorem dX5_acceptPosition_33 : decode cX5_acceptPosition 33 = .ok (.ireturn, 1) := by decide +kernel
set_option maxRecDepth 20000 in
theorem ggX5_acceptKind_X5_kindOf : GoodIn wsX5_acceptKind wsX5_kindOf := goodIn_r _ [6] (by decide +kernel) (by decide +kernel)
set_option maxRecDepth 20000 in
theorem gX5_acceptKind_X5_kindOf : GoodIn wsX5_acceptKind (va_wsS RX5 52 yX5_kindOf wsX5_kindOf) := goodIn_app (goodIn_of _ (by decide +kernel)) ggX5_acceptKind_X5_kindOf
set_option maxRecDepth 20000 in
theorem ggX5_acceptKind_X2_insert : GoodIn wsX5_acceptKind wsX2_insert := goodIn_r _ [11, 12, 13, 14, 18, 19, 20, 21] (by decide +kernel) (by decide +kernel)
set_option maxRecDepth 20000 in
theorem gX5_acceptKind_X2_insert : GoodIn wsX5_acceptKind (wsV RX5 59 RX2 yX2_insert wsX2_insert) := goodIn_app (goodIn_of _ (by decide +kernel)) ggX5_acceptKind_X2_insert
theorem dX5_acceptKind_0 : decode cX5_acceptKind 0 = .ok (.iload_n 1, 1) := by decide +kernel
theorem dX5_acceptKind_1 : decode cX5_acceptKind 1 = .ok (.invokestatic 52, 3) := by decide +kernel
theorem dX5_acceptKind_4 : decode cX5_acceptKind 4 = .ok (.istore_n 2, 1) := by decide +kernel
theorem dX5_acceptKind_5 : decode cX5_acceptKind 5 = .ok (.iload_n 2, 1) := by decide +kernel
theorem dX5_acceptKind_6 : decode cX5_acceptKind 6 = .ok (.iconst (-1), 1) := by decide +kernel
theorem dX5_acceptKind_7 : decode cX5_acceptKind 7 = .ok (.if_icmp .ne 5, 3) := by decide +kernel
theorem dX5_acceptKind_10 : decode cX5_acceptKind 10 = .ok (.iconst 0, 1) := by decide +kernel
theorem dX5_acceptKind_11 : decode cX5_acceptKind 11 = .ok (.ireturn, 1) := by decide +kernel
theorem dX5_acceptKind_12 : decode cX5_acceptKind 12 = .ok (.aload_n 0, 1) := by decide +kernel
theorem dX5_acceptKind_13 : decode cX5_acceptKind 13 = .ok (.iconst 0, 1) := by decide +kernel
theorem dX5_acceptKind_14 : decode cX5_acceptKind 14 = .ok (.putfield 25, 3) := by decide +kernel
theorem dX5_acceptKind_17 : decode cX5_acceptKind 17 = .ok (.aload_n 0, 1) := by decide +kernel
theorem dX5_acceptKind_18 : decode cX5_acceptKind 18 = .ok (.getfield 12, 3) := by decide +kernel
theorem dX5_acceptKind_21 : decode cX5_acceptKind 21 = .ok (.aload_n 0, 1) := by decide +kernel
theorem dX5_acceptKind_22 : decode cX5_acceptKind 22 = .ok (.getfield 12, 3) := by decide +kernel
theorem dX5_acceptKind_25 : decode cX5_acceptKind 25 = .ok (.getfield 56, 3) := by decide +kernel
theorem dX5_acceptKind_28 : decode cX5_acceptKind 28 = .ok (.iload_n 2, 1) := by decide +kernel
theorem dX5_acceptKind_29 : decode cX5_acceptKind 29 = .ok (.iconst 0, 1) := by decide +kernel
theorem dX5_acceptKind_30 : decode cX5_acceptKind 30 = .ok (.invokevirtual 59, 3) := by decide +kernel
theorem dX5_acceptKind_33 : decode cX5_acceptKind 33 = .ok (.ireturn, 1) := by decide +kernel
set_option maxRecDepth 20000 in
theorem ggX5_acceptTone_X2_tonesOfLast : GoodIn wsX5_acceptTone wsX2_tonesOfLast := goodIn_r _ [6, 7, 8, 23, 24, 25, 26] (by decide +kernel) (by decide +kernel)
set_option maxRecDepth 20000 in
theorem gX5_acceptTone_X2_tonesOfLast : GoodIn wsX5_acceptTone (wsV RX5 42 RX2 yX2_tonesOfLast wsX2_tonesOfLast) := goodIn_app (goodIn_of _ (by decide +kernel)) ggX5_acceptTone_X2_tonesOfLast
set_option maxRecDepth 20000 in
theorem ggX5_acceptTone_J6_bitCount_0f7a4 : GoodIn wsX5_acceptTone wsJ6_bitCount_0f7a4 := goodIn_r _ [12, 13, 14, 15] (by decide +kernel) (by decide +kernel)
set_option maxRecDepth 20000 in
theorem gX5_acceptTone_J6_bitCount_0f7a4 : GoodIn wsX5_acceptTone (va_wsS RX5 63 yJ6_bitCount_0f7a4 wsJ6_bitCount_0f7a4) := goodIn_app (goodIn_of _ (by decide +kernel)) ggX5_acceptTone_J6_bitCount_0f7a4
set_option maxRecDepth 20000 in
theorem ggX5_acceptTone_X2_addToLast : GoodIn wsX5_acceptTone wsX2_addToLast := goodIn_r _ [19, 7, 8, 23, 24, 25, 26] (by decide +kernel) (by decide +kernel)
set_option maxRecDepth 20000 in
theorem gX5_acceptTone_X2_addToLast : GoodIn wsX5_acceptTone (wsV RX5 68 RX2 yX2_addToLast wsX2_addToLast) := goodIn_app (goodIn_of _ (by decide +kernel)) ggX5_acceptTone_X2_addToLast
theorem dX5_acceptTone_0 : decode cX5_acceptTone 0 = .ok (.iload_n 1, 1) := by decide +kernel
theorem dX5_acceptTone_1 : decode cX5_acceptTone 1 = .ok (.bipush 97, 2) := by decide +kernel
theorem dX5_acceptTone_3 : decode cX5_acceptTone 3 = .ok (.isub, 1) := by decide +kernel
theorem dX5_acceptTone_4 : decode cX5_acceptTone 4 = .ok (.istore_n 2, 1) := by decide +kernel
theorem dX5_acceptTone_5 : decode cX5_acceptTone 5 = .ok (.aload_n 0, 1) := by decide +kernel
theorem dX5_acceptTone_6 : decode cX5_acceptTone 6 = .ok (.getfield 12, 3) := by decide +kernel
theorem dX5_acceptTone_9 : decode cX5_acceptTone 9 = .ok (.invokevirtual 42, 3) := by decide +kernel
theorem dX5_acceptTone_12 : decode cX5_acceptTone 12 = .ok (.istore_n 3, 1) := by decide +kernel
theorem dX5_acceptTone_13 : decode cX5_acceptTone 13 = .ok (.iload_n 2, 1) := by decide +kernel
theorem dX5_acceptTone_14 : decode cX5_acceptTone 14 = .ok (.ifCond .lt 17, 3) := by decide +kernel
theorem dX5_acceptTone_17 : decode cX5_acceptTone 17 = .ok (.iload_n 2, 1) := by decide +kernel
theorem dX5_acceptTone_18 : decode cX5_acceptTone 18 = .ok (.bipush 12, 2) := by decide +kernel
theorem dX5_acceptTone_20 : decode cX5_acceptTone 20 = .ok (.if_icmp .ge 11, 3) := by decide +kernel
theorem dX5_acceptTone_23 : decode cX5_acceptTone 23 = .ok (.iload_n 3, 1) := by decide +kernel
theorem dX5_acceptTone_24 : decode cX5_acceptTone 24 = .ok (.invokestatic 63, 3) := by decide +kernel
theorem dX5_acceptTone_27 : decode cX5_acceptTone 27 = .ok (.iconst 4, 1) := by decide +kernel
theorem dX5_acceptTone_28 : decode cX5_acceptTone 28 = .ok (.if_icmp .lt 5, 3) := by decide +kernel
theorem dX5_acceptTone_31 : decode cX5_acceptTone 31 = .ok (.iconst 0, 1) := by decide +kernel
theorem dX5_acceptTone_32 : decode cX5_acceptTone 32 = .ok (.ireturn, 1) := by decide +kernel
theorem dX5_acceptTone_33 : decode cX5_acceptTone 33 = .ok (.iload_n 3, 1) := by decide +kernel
theorem dX5_acceptTone_34 : decode cX5_acceptTone 34 = .ok (.iload_n 2, 1) := by decide +kernel
theorem dX5_acceptTone_35 : decode cX5_acceptTone 35 = .ok (.ishr, 1) := by decide +kernel
theorem dX5_acceptTone_36 : decode cX5_acceptTone 36 = .ok (.ifCond .eq 5, 3) := by decide +kernel
theorem dX5_acceptTone_39 : decode cX5_acceptTone 39 = .ok (.iconst 0, 1) := by decide +kernel
theorem dX5_acceptTone_40 : decode cX5_acceptTone 40 = .ok (.ireturn, 1) := by decide +kernel
theorem dX5_acceptTone_41 : decode cX5_acceptTone 41 = .ok (.aload_n 0, 1) := by decide +kernel
theorem dX5_acceptTone_42 : decode cX5_acceptTone 42 = .ok (.getfield 12, 3) := by decide +kernel
theorem dX5_acceptTone_45 : decode cX5_acceptTone 45 = .ok (.iconst 1, 1) := by decide +kernel
theorem dX5_acceptTone_46 : decode cX5_acceptTone 46 = .ok (.iload_n 2, 1) := by decide +kernel
theorem dX5_acceptTone_47 : decode cX5_acceptTone 47 = .ok (.ishl, 1) := by decide +kernel
theorem dX5_acceptTone_48 : decode cX5_acceptTone 48 = .ok (.invokevirtual 68, 3) := by decide +kernel
theorem dX5_acceptTone_51 : decode cX5_acceptTone 51 = .ok (.iconst 1, 1) := by decide +kernel
theorem dX5_acceptTone_52 : decode cX5_acceptTone 52 = .ok (.ireturn, 1) := by decide +kernel
set_option maxRecDepth 20000 in
theorem ggX5_acceptComma_X2_tonesOfLast : GoodIn wsX5_acceptComma wsX2_tonesOfLast := goodIn_r _ [7, 8, 9, 13, 14, 15, 16] (by decide +kernel) (by decide +kernel)
set_option maxRecDepth 20000 in
theorem gX5_acceptComma_X2_tonesOfLast : GoodIn wsX5_acceptComma (wsV RX5 42 RX2 yX2_tonesOfLast wsX2_tonesOfLast) := goodIn_app (goodIn_of _ (by decide +kernel)) ggX5_acceptComma_X2_tonesOfLast
theorem dX5_acceptComma_0 : decode cX5_acceptComma 0 = .ok (.iload_n 1, 1) := by decide +kernel
theorem dX5_acceptComma_1 : decode cX5_acceptComma 1 = .ok (.bipush 44, 2) := by decide +kernel
theorem dX5_acceptComma_3 : decode cX5_acceptComma 3 = .ok (.if_icmp .ne 25, 3) := by decide +kernel
theorem dX5_acceptComma_6 : decode cX5_acceptComma 6 = .ok (.aload_n 0, 1) := by decide +kernel
theorem dX5_acceptComma_7 : decode cX5_acceptComma 7 = .ok (.getfield 12, 3) := by decide +kernel
theorem dX5_acceptComma_10 : decode cX5_acceptComma 10 = .ok (.invokevirtual 42, 3) := by decide +kernel
theorem dX5_acceptComma_13 : decode cX5_acceptComma 13 = .ok (.ifCond .eq 15, 3) := by decide +kernel
theorem dX5_acceptComma_16 : decode cX5_acceptComma 16 = .ok (.aload_n 0, 1) := by decide +kernel
theorem dX5_acceptComma_17 : decode cX5_acceptComma 17 = .ok (.getfield 12, 3) := by decide +kernel
theorem dX5_acceptComma_20 : decode cX5_acceptComma 20 = .ok (.getfield 56, 3) := by decide +kernel
theorem dX5_acceptComma_23 : decode cX5_acceptComma 23 = .ok (.bipush 8, 2) := by decide +kernel
theorem dX5_acceptComma_25 : decode cX5_acceptComma 25 = .ok (.if_icmp .lt 5, 3) := by decide +kernel
theorem dX5_acceptComma_28 : decode cX5_acceptComma 28 = .ok (.iconst 0, 1) := by decide +kernel
theorem dX5_acceptComma_29 : decode cX5_acceptComma 29 = .ok (.ireturn, 1) := by decide +kernel
theorem dX5_acceptComma_30 : decode cX5_acceptComma 30 = .ok (.aload_n 0, 1) := by decide +kernel
theorem dX5_acceptComma_31 : decode cX5_acceptComma 31 = .ok (.iconst 1, 1) := by decide +kernel
theorem dX5_acceptComma_32 : decode cX5_acceptComma 32 = .ok (.putfield 25, 3) := by decide +kernel
theorem dX5_acceptComma_35 : decode cX5_acceptComma 35 = .ok (.iconst 1, 1) := by decide +kernel
theorem dX5_acceptComma_36 : decode cX5_acceptComma 36 = .ok (.ireturn, 1) := by decide +kernel
theorem dX5_kindOf_0 : decode cX5_kindOf 0 = .ok (.iload_n 0, 1) := by decide +kernel
theorem dX5_kindOf_1 : decode cX5_kindOf 1 = .ok (.lookupswitch 61 #[(98, 59), (99, 51), (103, 53), (104, 55), (113, 57)], 51) := by decide +kernel
theorem dX5_kindOf_52 : decode cX5_kindOf 52 = .ok (.iconst 0, 1) := by decide +kernel
theorem dX5_kindOf_53 : decode cX5_kindOf 53 = .ok (.ireturn, 1) := by decide +kernel
theorem dX5_kindOf_54 : decode cX5_kindOf 54 = .ok (.iconst 1, 1) := by decide +kernel
theorem dX5_kindOf_55 : decode cX5_kindOf 55 = .ok (.ireturn, 1) := by decide +kernel
theorem dX5_kindOf_56 : decode cX5_kindOf 56 = .ok (.iconst 2, 1) := by decide +kernel
theorem dX5_kindOf_57 : decode cX5_kindOf 57 = .ok (.ireturn, 1) := by decide +kernel
theorem dX5_kindOf_58 : decode cX5_kindOf 58 = .ok (.iconst 3, 1) := by decide +kernel
theorem dX5_kindOf_59 : decode cX5_kindOf 59 = .ok (.ireturn, 1) := by decide +kernel
theorem dX5_kindOf_60 : decode cX5_kindOf 60 = .ok (.iconst 4, 1) := by decide +kernel
theorem dX5_kindOf_61 : decode cX5_kindOf 61 = .ok (.ireturn, 1) := by decide +kernel
theorem dX5_kindOf_62 : decode cX5_kindOf 62 = .ok (.iconst (-1), 1) := by decide +kernel
theorem dX5_kindOf_63 : decode cX5_kindOf 63 = .ok (.ireturn, 1) := by decide +kernel
theorem dX6_init_0 : decode cX6_init 0 = .ok (.aload_n 0, 1) := by decide +kernel
theorem dX6_init_1 : decode cX6_init 1 = .ok (.invokespecial 3, 3) := by decide +kernel
theorem dX6_init_4 : decode cX6_init 4 = .ok (.aload_n 0, 1) := by decide +kernel
theorem dX6_init_5 : decode cX6_init 5 = .ok (.bipush 6, 2) := by decide +kernel
theorem dX6_init_7 : decode cX6_init 7 = .ok (.newarray .int, 2) := by decide +kernel
theorem dX6_init_9 : decode cX6_init 9 = .ok (.putfield 9, 3) := by decide +kernel
theorem dX6_init_12 : decode cX6_init 12 = .ok (.aload_n 0, 1) := by decide +kernel
theorem dX6_init_13 : decode cX6_init 13 = .ok (.bipush 6, 2) := by decide +kernel
theorem dX6_init_15 : decode cX6_init 15 = .ok (.newarray .int, 2) := by decide +kernel
theorem dX6_init_17 : decode cX6_init 17 = .ok (.putfield 15, 3) := by decide +kernel
theorem dX6_init_20 : decode cX6_init 20 = .ok (.return_, 1) := by decide +kernel
theorem dX6_add_0 : decode cX6_add 0 = .ok (.aload_n 0, 1) := by decide +kernel
theorem dX6_add_1 : decode cX6_add 1 = .ok (.getfield 18, 3) := by decide +kernel
theorem dX6_add_4 : decode cX6_add 4 = .ok (.bipush 6, 2) := by decide +kernel
theorem dX6_add_6 : decode cX6_add 6 = .ok (.if_icmp .ge 12, 3) := by decide +kernel
theorem dX6_add_9 : decode cX6_add 9 = .ok (.iload_n 2, 1) := by decide +kernel
theorem dX6_add_10 : decode cX6_add 10 = .ok (.ifCond .lt 8, 3) := by decide +kernel
theorem dX6_add_13 : decode cX6_add 13 = .ok (.iload_n 2, 1) := by decide +kernel
theorem dX6_add_14 : decode cX6_add 14 = .ok (.iconst 4, 1) := by decide +kernel
theorem dX6_add_15 : decode cX6_add 15 = .ok (.if_icmp .lt 5, 3) := by decide +kernel
theorem dX6_add_18 : decode cX6_add 18 = .ok (.iconst 0, 1) := by decide +kernel
theorem dX6_add_19 : decode cX6_add 19 = .ok (.ireturn, 1) := by decide +kernel
theorem dX6_add_20 : decode cX6_add 20 = .ok (.getstatic 22, 3) := by decide +kernel
theorem dX6_add_23 : decode cX6_add 23 = .ok (.iload_n 2, 1) := by decide +kernel
theorem dX6_add_24 : decode cX6_add 24 = .ok (.iaload, 1) := by decide +kernel
theorem dX6_add_25 : decode cX6_add 25 = .ok (.istore 4, 2) := by decide +kernel
theorem dX6_add_27 : decode cX6_add 27 = .ok (.aload_n 0, 1) := by decide +kernel
theorem dX6_add_28 : decode cX6_add 28 = .ok (.getfield 9, 3) := by decide +kernel
theorem dX6_add_31 : decode cX6_add 31 = .ok (.aload_n 0, 1) := by decide +kernel
theorem dX6_add_32 : decode cX6_add 32 = .ok (.getfield 18, 3) := by decide +kernel
theorem dX6_add_35 : decode cX6_add 35 = .ok (.iload_n 1, 1) := by decide +kernel
theorem dX6_add_36 : decode cX6_add 36 = .ok (.iastore, 1) := by decide +kernel
theorem dX6_add_37 : decode cX6_add 37 = .ok (.aload_n 0, 1) := by decide +kernel
theorem dX6_add_38 : decode cX6_add 38 = .ok (.getfield 15, 3) := by decide +kernel
theorem dX6_add_41 : decode cX6_add 41 = .ok (.aload_n 0, 1) := by decide +kernel
theorem dX6_add_42 : decode cX6_add 42 = .ok (.getfield 18, 3) := by decide +kernel
theorem dX6_add_45 : decode cX6_add 45 = .ok (.iload_n 3, 1) := by decide +kernel
theorem dX6_add_46 : decode cX6_add 46 = .ok (.ifCond .eq 8, 3) := by decide +kernel
theorem dX6_add_49 : decode cX6_add 49 = .ok (.iload 4, 2) := by decide +kernel
theorem dX6_add_51 : decode cX6_add 51 = .ok (.goto 10, 3) := by decide +kernel
theorem dX6_add_54 : decode cX6_add 54 = .ok (.bipush 31, 2) := by decide +kernel
theorem dX6_add_56 : decode cX6_add 56 = .ok (.iload 4, 2) := by decide +kernel
theorem dX6_add_58 : decode cX6_add 58 = .ok (.iconst (-1), 1) := by decide +kernel
theorem dX6_add_59 : decode cX6_add 59 = .ok (.ixor, 1) := by decide +kernel
theorem dX6_add_60 : decode cX6_add 60 = .ok (.iand, 1) := by decide +kernel
theorem dX6_add_61 : decode cX6_add 61 = .ok (.iastore, 1) := by decide +kernel
theorem dX6_add_62 : decode cX6_add 62 = .ok (.aload_n 0, 1) := by decide +kernel
theorem dX6_add_63 : decode cX6_add 63 = .ok (.dup, 1) := by decide +kernel
theorem dX6_add_64 : decode cX6_add 64 = .ok (.getfield 18, 3) := by decide +kernel
theorem dX6_add_67 : decode cX6_add 67 = .ok (.iconst 1, 1) := by decide +kernel
theorem dX6_add_68 : decode cX6_add 68 = .ok (.iadd, 1) := by decide +kernel
theorem dX6_add_69 : decode cX6_add 69 = .ok (.putfield 18, 3) := by decide +kernel
theorem dX6_add_72 : decode cX6_add 72 = .ok (.iconst 1, 1) := by decide +kernel
theorem dX6_add_73 : decode cX6_add 73 = .ok (.ireturn, 1) := by decide +kernel
theorem dX6_clear_0 : decode cX6_clear 0 = .ok (.aload_n 0, 1) := by decide +kernel
theorem dX6_clear_1 : decode cX6_clear 1 = .ok (.getfield 18, 3) := by decide +kernel
theorem dX6_clear_4 : decode cX6_clear 4 = .ok (.istore_n 1, 1) := by decide +kernel
theorem dX6_clear_5 : decode cX6_clear 5 = .ok (.aload_n 0, 1) := by decide +kernel
theorem dX6_clear_6 : decode cX6_clear 6 = .ok (.iconst 0, 1) := by decide +kernel
theorem dX6_clear_7 : decode cX6_clear 7 = .ok (.putfield 18, 3) := by decide +kernel
theorem dX6_clear_10 : decode cX6_clear 10 = .ok (.iload_n 1, 1) := by decide +kernel
theorem dX6_clear_11 : decode cX6_clear 11 = .ok (.ireturn, 1) := by decide +kernel
theorem dX6_become_0 : decode cX6_become 0 = .ok (.aload_n 0, 1) := by decide +kernel
theorem dX6_become_1 : decode cX6_become 1 = .ok (.aload_n 1, 1) := by decide +kernel
theorem dX6_become_2 : decode cX6_become 2 = .ok (.getfield 18, 3) := by decide +kernel
theorem dX6_become_5 : decode cX6_become 5 = .ok (.putfield 18, 3) := by decide +kernel
theorem dX6_become_8 : decode cX6_become 8 = .ok (.aload_n 1, 1) := by decide +kernel
theorem dX6_become_9 : decode cX6_become 9 = .ok (.getfield 9, 3) := by decide +kernel
theorem dX6_become_12 : decode cX6_become 12 = .ok (.iconst 0, 1) := by decide +kernel
theorem dX6_become_13 : decode cX6_become 13 = .ok (.aload_n 0, 1) := by decide +kernel
theorem dX6_become_14 : decode cX6_become 14 = .ok (.getfield 9, 3) := by decide +kernel
theorem dX6_become_17 : decode cX6_become 17 = .ok (.iconst 0, 1) := by decide +kernel
theorem dX6_become_18 : decode cX6_become 18 = .ok (.bipush 6, 2) := by decide +kernel
theorem dX6_become_20 : decode cX6_become 20 = .ok (.invokestatic 25, 3) := by decide +kernel
theorem dX6_become_23 : decode cX6_become 23 = .ok (.aload_n 1, 1) := by decide +kernel
theorem dX6_become_24 : decode cX6_become 24 = .ok (.getfield 15, 3) := by decide +kernel
theorem dX6_become_27 : decode cX6_become 27 = .ok (.iconst 0, 1) := by decide +kernel
theorem dX6_become_28 : decode cX6_become 28 = .ok (.aload_n 0, 1) := by decide +kernel
theorem dX6_become_29 : decode cX6_become 29 = .ok (.getfield 15, 3) := by decide +kernel
theorem dX6_become_32 : decode cX6_become 32 = .ok (.iconst 0, 1) := by decide +kernel
theorem dX6_become_33 : decode cX6_become 33 = .ok (.bipush 6, 2) := by decide +kernel
theorem dX6_become_35 : decode cX6_become 35 = .ok (.invokestatic 25, 3) := by decide +kernel
theorem dX6_become_38 : decode cX6_become 38 = .ok (.return_, 1) := by decide +kernel
theorem dX6_sortsOf_0 : decode cX6_sortsOf 0 = .ok (.bipush 31, 2) := by decide +kernel
theorem dX6_sortsOf_2 : decode cX6_sortsOf 2 = .ok (.istore_n 2, 1) := by decide +kernel
theorem dX6_sortsOf_3 : decode cX6_sortsOf 3 = .ok (.iconst 0, 1) := by decide +kernel
theorem dX6_sortsOf_4 : decode cX6_sortsOf 4 = .ok (.istore_n 3, 1) := by decide +kernel
theorem dX6_sortsOf_5 : decode cX6_sortsOf 5 = .ok (.iload_n 3, 1) := by decide +kernel
theorem dX6_sortsOf_6 : decode cX6_sortsOf 6 = .ok (.aload_n 0, 1) := by decide +kernel
theorem dX6_sortsOf_7 : decode cX6_sortsOf 7 = .ok (.getfield 18, 3) := by decide +kernel
theorem dX6_sortsOf_10 : decode cX6_sortsOf 10 = .ok (.if_icmp .ge 28, 3) := by decide +kernel
theorem dX6_sortsOf_13 : decode cX6_sortsOf 13 = .ok (.aload_n 0, 1) := by decide +kernel
theorem dX6_sortsOf_14 : decode cX6_sortsOf 14 = .ok (.getfield 9, 3) := by decide +kernel
theorem dX6_sortsOf_17 : decode cX6_sortsOf 17 = .ok (.iload_n 3, 1) := by decide +kernel
theorem dX6_sortsOf_18 : decode cX6_sortsOf 18 = .ok (.iaload, 1) := by decide +kernel
theorem dX6_sortsOf_19 : decode cX6_sortsOf 19 = .ok (.iload_n 1, 1) := by decide +kernel
theorem dX6_sortsOf_20 : decode cX6_sortsOf 20 = .ok (.if_icmp .ne 12, 3) := by decide +kernel
theorem dX6_sortsOf_23 : decode cX6_sortsOf 23 = .ok (.iload_n 2, 1) := by decide +kernel
theorem dX6_sortsOf_24 : decode cX6_sortsOf 24 = .ok (.aload_n 0, 1) := by decide +kernel
theorem dX6_sortsOf_25 : decode cX6_sortsOf 25 = .ok (.getfield 15, 3) := by decide +kernel
theorem dX6_sortsOf_28 : decode cX6_sortsOf 28 = .ok (.iload_n 3, 1) := by decide +kernel
theorem dX6_sortsOf_29 : decode cX6_sortsOf 29 = .ok (.iaload, 1) := by decide +kernel
theorem dX6_sortsOf_30 : decode cX6_sortsOf 30 = .ok (.iand, 1) := by decide +kernel
theorem dX6_sortsOf_31 : decode cX6_sortsOf 31 = .ok (.istore_n 2, 1) := by decide +kernel
theorem dX6_sortsOf_32 : decode cX6_sortsOf 32 = .ok (.iinc 3 1, 3) := by decide +kernel
theorem dX6_sortsOf_35 : decode cX6_sortsOf 35 = .ok (.goto (-30), 3) := by decide +kernel
theorem dX6_sortsOf_38 : decode cX6_sortsOf 38 = .ok (.iload_n 2, 1) := by decide +kernel
theorem dX6_sortsOf_39 : decode cX6_sortsOf 39 = .ok (.ireturn, 1) := by decide +kernel
set_option maxRecDepth 20000 in
theorem ggX6_nextQuestion_X6_sortsOf : GoodIn wsX6_nextQuestion wsX6_sortsOf := goodIn_r _ [6, 7, 8, 9, 24, 25, 26] (by decide +kernel) (by decide +kernel)
set_option maxRecDepth 20000 in
theorem gX6_nextQuestion_X6_sortsOf : GoodIn wsX6_nextQuestion (wsV RX6 31 RX6 yX6_sortsOf wsX6_sortsOf) := goodIn_app (goodIn_of _ (by decide +kernel)) ggX6_nextQuestion_X6_sortsOf
set_option maxRecDepth 20000 in
theorem ggX6_nextQuestion_X6_leftAtWorst : GoodIn wsX6_nextQuestion wsX6_leftAtWorst := goodIn_r _ [12, 13, 14, 15, 16, 17, 18, 19, 20, 21, 22, 23] (by decide +kernel) (by decide +kernel)
set_option maxRecDepth 20000 in
theorem gX6_nextQuestion_X6_leftAtWorst : GoodIn wsX6_nextQuestion (va_wsS RX6 35 yX6_leftAtWorst wsX6_leftAtWorst) := goodIn_app (goodIn_of _ (by decide +kernel)) ggX6_nextQuestion_X6_leftAtWorst
theorem dX6_nextQuestion_0 : decode cX6_nextQuestion 0 = .ok (.aload_n 0, 1) := by decide +kernel
theorem dX6_nextQuestion_1 : decode cX6_nextQuestion 1 = .ok (.iload_n 1, 1) := by decide +kernel
theorem dX6_nextQuestion_2 : decode cX6_nextQuestion 2 = .ok (.invokevirtual 31, 3) := by decide +kernel
theorem dX6_nextQuestion_5 : decode cX6_nextQuestion 5 = .ok (.istore_n 2, 1) := by decide +kernel
theorem dX6_nextQuestion_6 : decode cX6_nextQuestion 6 = .ok (.iload_n 2, 1) := by decide +kernel
theorem dX6_nextQuestion_7 : decode cX6_nextQuestion 7 = .ok (.ifCond .ne 5, 3) := by decide +kernel
theorem dX6_nextQuestion_10 : decode cX6_nextQuestion 10 = .ok (.iconst (-1), 1) := by decide +kernel
theorem dX6_nextQuestion_11 : decode cX6_nextQuestion 11 = .ok (.ireturn, 1) := by decide +kernel
theorem dX6_nextQuestion_12 : decode cX6_nextQuestion 12 = .ok (.iconst (-1), 1) := by decide +kernel
theorem dX6_nextQuestion_13 : decode cX6_nextQuestion 13 = .ok (.istore_n 3, 1) := by decide +kernel
theorem dX6_nextQuestion_14 : decode cX6_nextQuestion 14 = .ok (.bipush 6, 2) := by decide +kernel
theorem dX6_nextQuestion_16 : decode cX6_nextQuestion 16 = .ok (.istore 4, 2) := by decide +kernel
theorem dX6_nextQuestion_18 : decode cX6_nextQuestion 18 = .ok (.iconst 0, 1) := by decide +kernel
theorem dX6_nextQuestion_19 : decode cX6_nextQuestion 19 = .ok (.istore 5, 2) := by decide +kernel
theorem dX6_nextQuestion_21 : decode cX6_nextQuestion 21 = .ok (.iload 5, 2) := by decide +kernel
theorem dX6_nextQuestion_23 : decode cX6_nextQuestion 23 = .ok (.iconst 4, 1) := by decide +kernel
theorem dX6_nextQuestion_24 : decode cX6_nextQuestion 24 = .ok (.if_icmp .ge 35, 3) := by decide +kernel
theorem dX6_nextQuestion_27 : decode cX6_nextQuestion 27 = .ok (.iload_n 2, 1) := by decide +kernel
theorem dX6_nextQuestion_28 : decode cX6_nextQuestion 28 = .ok (.getstatic 22, 3) := by decide +kernel
theorem dX6_nextQuestion_31 : decode cX6_nextQuestion 31 = .ok (.iload 5, 2) := by decide +kernel
theorem dX6_nextQuestion_33 : decode cX6_nextQuestion 33 = .ok (.iaload, 1) := by decide +kernel
theorem dX6_nextQuestion_34 : decode cX6_nextQuestion 34 = .ok (.invokestatic 35, 3) := by decide +kernel
theorem dX6_nextQuestion_37 : decode cX6_nextQuestion 37 = .ok (.istore 6, 2) := by decide +kernel
theorem dX6_nextQuestion_39 : decode cX6_nextQuestion 39 = .ok (.iload 6, 2) := by decide +kernel
theorem dX6_nextQuestion_41 : decode cX6_nextQuestion 41 = .ok (.iload 4, 2) := by decide +kernel
theorem dX6_nextQuestion_43 : decode cX6_nextQuestion 43 = .ok (.if_icmp .ge 10, 3) := by decide +kernel
theorem dX6_nextQuestion_46 : decode cX6_nextQuestion 46 = .ok (.iload 5, 2) := by decide +kernel
theorem dX6_nextQuestion_48 : decode cX6_nextQuestion 48 = .ok (.istore_n 3, 1) := by decide +kernel
theorem dX6_nextQuestion_49 : decode cX6_nextQuestion 49 = .ok (.iload 6, 2) := by decide +kernel
theorem dX6_nextQuestion_51 : decode cX6_nextQuestion 51 = .ok (.istore 4, 2) := by decide +kernel
theorem dX6_nextQuestion_53 : decode cX6_nextQuestion 53 = .ok (.iinc 5 1, 3) := by decide +kernel
theorem dX6_nextQuestion_56 : decode cX6_nextQuestion 56 = .ok (.goto (-35), 3) := by decide +kernel
theorem dX6_nextQuestion_59 : decode cX6_nextQuestion 59 = .ok (.iload_n 3, 1) := by decide +kernel
theorem dX6_nextQuestion_60 : decode cX6_nextQuestion 60 = .ok (.ireturn, 1) := by decide +kernel
set_option maxRecDepth 20000 in
theorem ggX6_leftAtWorst_J6_bitCount_0f7a4 : GoodIn wsX6_leftAtWorst wsJ6_bitCount_0f7a4 := goodIn_r _ [8, 9, 10, 11] (by decide +kernel) (by decide +kernel)
set_option maxRecDepth 20000 in
theorem gX6_leftAtWorst_J6_bitCount_0f7a4 : GoodIn wsX6_leftAtWorst (va_wsS RX6 39 yJ6_bitCount_0f7a4 wsJ6_bitCount_0f7a4) := goodIn_app (goodIn_of _ (by decide +kernel)) ggX6_leftAtWorst_J6_bitCount_0f7a4
theorem dX6_leftAtWorst_0 : decode cX6_leftAtWorst 0 = .ok (.iload_n 0, 1) := by decide +kernel
theorem dX6_leftAtWorst_1 : decode cX6_leftAtWorst 1 = .ok (.iload_n 1, 1) := by decide +kernel
theorem dX6_leftAtWorst_2 : decode cX6_leftAtWorst 2 = .ok (.iand, 1) := by decide +kernel
theorem dX6_leftAtWorst_3 : decode cX6_leftAtWorst 3 = .ok (.invokestatic 39, 3) := by decide +kernel
theorem dX6_leftAtWorst_6 : decode cX6_leftAtWorst 6 = .ok (.iload_n 0, 1) := by decide +kernel
theorem dX6_leftAtWorst_7 : decode cX6_leftAtWorst 7 = .ok (.iload_n 1, 1) := by decide +kernel
theorem dX6_leftAtWorst_8 : decode cX6_leftAtWorst 8 = .ok (.iconst (-1), 1) := by decide +kernel
theorem dX6_leftAtWorst_9 : decode cX6_leftAtWorst 9 = .ok (.ixor, 1) := by decide +kernel
theorem dX6_leftAtWorst_10 : decode cX6_leftAtWorst 10 = .ok (.iand, 1) := by decide +kernel
theorem dX6_leftAtWorst_11 : decode cX6_leftAtWorst 11 = .ok (.invokestatic 39, 3) := by decide +kernel
theorem dX6_leftAtWorst_14 : decode cX6_leftAtWorst 14 = .ok (.invokestatic 44, 3) := by decide +kernel
theorem dX6_leftAtWorst_17 : decode cX6_leftAtWorst 17 = .ok (.ireturn, 1) := by decide +kernel
set_option maxRecDepth 20000 in
theorem ggX7_init_X7_tonesOfPedals : GoodIn wsX7_init wsX7_tonesOfPedals := goodIn_r _ [9, 10, 11, 8, 12, 13, 14, 15, 16] (by decide +kernel) (by decide +kernel)
set_option maxRecDepth 20000 in
theorem gX7_init_X7_tonesOfPedals : GoodIn wsX7_init (va_wsS RX7 15 yX7_tonesOfPedals wsX7_tonesOfPedals) := goodIn_app (goodIn_of _ (by decide +kernel)) ggX7_init_X7_tonesOfPedals
theorem dX7_init_0 : decode cX7_init 0 = .ok (.aload_n 0, 1) := by decide +kernel
theorem dX7_init_1 : decode cX7_init 1 = .ok (.invokespecial 3, 3) := by decide +kernel
theorem dX7_init_4 : decode cX7_init 4 = .ok (.aload_n 0, 1) := by decide +kernel
theorem dX7_init_5 : decode cX7_init 5 = .ok (.sipush 2187, 3) := by decide +kernel
theorem dX7_init_8 : decode cX7_init 8 = .ok (.newarray .int, 2) := by decide +kernel
theorem dX7_init_10 : decode cX7_init 10 = .ok (.putfield 9, 3) := by decide +kernel
theorem dX7_init_13 : decode cX7_init 13 = .ok (.iconst 0, 1) := by decide +kernel
theorem dX7_init_14 : decode cX7_init 14 = .ok (.istore_n 1, 1) := by decide +kernel
theorem dX7_init_15 : decode cX7_init 15 = .ok (.iload_n 1, 1) := by decide +kernel
theorem dX7_init_16 : decode cX7_init 16 = .ok (.sipush 2187, 3) := by decide +kernel
theorem dX7_init_19 : decode cX7_init 19 = .ok (.if_icmp .ge 19, 3) := by decide +kernel
theorem dX7_init_22 : decode cX7_init 22 = .ok (.aload_n 0, 1) := by decide +kernel
theorem dX7_init_23 : decode cX7_init 23 = .ok (.getfield 9, 3) := by decide +kernel
theorem dX7_init_26 : decode cX7_init 26 = .ok (.iload_n 1, 1) := by decide +kernel
theorem dX7_init_27 : decode cX7_init 27 = .ok (.iload_n 1, 1) := by decide +kernel
theorem dX7_init_28 : decode cX7_init 28 = .ok (.invokestatic 15, 3) := by decide +kernel
theorem dX7_init_31 : decode cX7_init 31 = .ok (.iastore, 1) := by decide +kernel
theorem dX7_init_32 : decode cX7_init 32 = .ok (.iinc 1 1, 3) := by decide +kernel
theorem dX7_init_35 : decode cX7_init 35 = .ok (.goto (-20), 3) := by decide +kernel
theorem dX7_init_38 : decode cX7_init 38 = .ok (.return_, 1) := by decide +kernel
theorem dX7_fits_0 : decode cX7_fits 0 = .ok (.aload_n 0, 1) := by decide +kernel
theorem dX7_fits_1 : decode cX7_fits 1 = .ok (.getfield 9, 3) := by decide +kernel
theorem dX7_fits_4 : decode cX7_fits 4 = .ok (.iload_n 1, 1) := by decide +kernel
theorem dX7_fits_5 : decode cX7_fits 5 = .ok (.iaload, 1) := by decide +kernel
theorem dX7_fits_6 : decode cX7_fits 6 = .ok (.istore 4, 2) := by decide +kernel
theorem dX7_fits_8 : decode cX7_fits 8 = .ok (.iload_n 2, 1) := by decide +kernel
theorem dX7_fits_9 : decode cX7_fits 9 = .ok (.iconst 1, 1) := by decide +kernel
theorem dX7_fits_10 : decode cX7_fits 10 = .ok (.if_icmp .ne 17, 3) := by decide +kernel
theorem dX7_fits_13 : decode cX7_fits 13 = .ok (.iload 4, 2) := by decide +kernel
theorem dX7_fits_15 : decode cX7_fits 15 = .ok (.iload_n 3, 1) := by decide +kernel
theorem dX7_fits_16 : decode cX7_fits 16 = .ok (.if_icmp .ne 7, 3) := by decide +kernel
theorem dX7_fits_19 : decode cX7_fits 19 = .ok (.iconst 1, 1) := by decide +kernel
theorem dX7_fits_20 : decode cX7_fits 20 = .ok (.goto 20, 3) := by decide +kernel
theorem dX7_fits_23 : decode cX7_fits 23 = .ok (.iconst 0, 1) := by decide +kernel
theorem dX7_fits_24 : decode cX7_fits 24 = .ok (.goto 16, 3) := by decide +kernel
theorem dX7_fits_27 : decode cX7_fits 27 = .ok (.iload 4, 2) := by decide +kernel
theorem dX7_fits_29 : decode cX7_fits 29 = .ok (.iload_n 3, 1) := by decide +kernel
theorem dX7_fits_30 : decode cX7_fits 30 = .ok (.iand, 1) := by decide +kernel
theorem dX7_fits_31 : decode cX7_fits 31 = .ok (.iload_n 3, 1) := by decide +kernel
theorem dX7_fits_32 : decode cX7_fits 32 = .ok (.if_icmp .ne 7, 3) := by decide +kernel
theorem dX7_fits_35 : decode cX7_fits 35 = .ok (.iconst 1, 1) := by decide +kernel
theorem dX7_fits_36 : decode cX7_fits 36 = .ok (.goto 4, 3) := by decide +kernel
theorem dX7_fits_39 : decode cX7_fits 39 = .ok (.iconst 0, 1) := by decide +kernel
theorem dX7_fits_40 : decode cX7_fits 40 = .ok (.ireturn, 1) := by decide +kernel
set_option maxRecDepth 20000 in
theorem ggX7_howManyFit_X7_fits : GoodIn wsX7_howManyFit wsX7_fits := goodIn_r _ [5, 6, 7] (by decide +kernel) (by decide +kernel)
set_option maxRecDepth 20000 in
theorem gX7_howManyFit_X7_fits : GoodIn wsX7_howManyFit (wsV RX7 19 RX7 yX7_fits wsX7_fits) := goodIn_app (goodIn_of _ (by decide +kernel)) ggX7_howManyFit_X7_fits
theorem dX7_howManyFit_0 : decode cX7_howManyFit 0 = .ok (.iconst 0, 1) := by decide +kernel
theorem dX7_howManyFit_1 : decode cX7_howManyFit 1 = .ok (.istore_n 3, 1) := by decide +kernel
theorem dX7_howManyFit_2 : decode cX7_howManyFit 2 = .ok (.iconst 0, 1) := by decide +kernel
theorem dX7_howManyFit_3 : decode cX7_howManyFit 3 = .ok (.istore 4, 2) := by decide +kernel
theorem dX7_howManyFit_5 : decode cX7_howManyFit 5 = .ok (.iload 4, 2) := by decide +kernel
theorem dX7_howManyFit_7 : decode cX7_howManyFit 7 = .ok (.sipush 2187, 3) := by decide +kernel
theorem dX7_howManyFit_10 : decode cX7_howManyFit 10 = .ok (.if_icmp .ge 23, 3) := by decide +kernel
theorem dX7_howManyFit_13 : decode cX7_howManyFit 13 = .ok (.aload_n 0, 1) := by decide +kernel
theorem dX7_howManyFit_14 : decode cX7_howManyFit 14 = .ok (.iload 4, 2) := by decide +kernel
theorem dX7_howManyFit_16 : decode cX7_howManyFit 16 = .ok (.iload_n 1, 1) := by decide +kernel
theorem dX7_howManyFit_17 : decode cX7_howManyFit 17 = .ok (.iload_n 2, 1) := by decide +kernel
theorem dX7_howManyFit_18 : decode cX7_howManyFit 18 = .ok (.invokevirtual 19, 3) := by decide +kernel
theorem dX7_howManyFit_21 : decode cX7_howManyFit 21 = .ok (.ifCond .eq 6, 3) := by decide +kernel
theorem dX7_howManyFit_24 : decode cX7_howManyFit 24 = .ok (.iinc 3 1, 3) := by decide +kernel
theorem dX7_howManyFit_27 : decode cX7_howManyFit 27 = .ok (.iinc 4 1, 3) := by decide +kernel
theorem dX7_howManyFit_30 : decode cX7_howManyFit 30 = .ok (.goto (-25), 3) := by decide +kernel
theorem dX7_howManyFit_33 : decode cX7_howManyFit 33 = .ok (.iload_n 3, 1) := by decide +kernel
theorem dX7_howManyFit_34 : decode cX7_howManyFit 34 = .ok (.ireturn, 1) := by decide +kernel
set_option maxRecDepth 20000 in
theorem ggX7_leastThatFits_X7_fits : GoodIn wsX7_leastThatFits wsX7_fits := goodIn_r _ [5, 6, 13] (by decide +kernel) (by decide +kernel)
set_option maxRecDepth 20000 in
theorem gX7_leastThatFits_X7_fits : GoodIn wsX7_leastThatFits (wsV RX7 19 RX7 yX7_fits wsX7_fits) := goodIn_app (goodIn_of _ (by decide +kernel)) ggX7_leastThatFits_X7_fits
set_option maxRecDepth 20000 in
theorem ggX7_leastThatFits_X7_numberOf : GoodIn wsX7_leastThatFits wsX7_numberOf := goodIn_r _ [9, 10, 11, 4, 12] (by decide +kernel) (by decide +kernel)
set_option maxRecDepth 20000 in
theorem gX7_leastThatFits_X7_numberOf : GoodIn wsX7_leastThatFits (va_wsS RX7 23 yX7_numberOf wsX7_numberOf) := goodIn_app (goodIn_of _ (by decide +kernel)) ggX7_leastThatFits_X7_numberOf
theorem dX7_leastThatFits_0 : decode cX7_leastThatFits 0 = .ok (.iconst 0, 1) := by decide +kernel
theorem dX7_leastThatFits_1 : decode cX7_leastThatFits 1 = .ok (.istore_n 3, 1) := by decide +kernel
theorem dX7_leastThatFits_2 : decode cX7_leastThatFits 2 = .ok (.iload_n 3, 1) := by decide +kernel
theorem dX7_leastThatFits_3 : decode cX7_leastThatFits 3 = .ok (.sipush 2187, 3) := by decide +kernel
theorem dX7_leastThatFits_6 : decode cX7_leastThatFits 6 = .ok (.if_icmp .ge 24, 3) := by decide +kernel
theorem dX7_leastThatFits_9 : decode cX7_leastThatFits 9 = .ok (.aload_n 0, 1) := by decide +kernel
theorem dX7_leastThatFits_10 : decode cX7_leastThatFits 10 = .ok (.iload_n 3, 1) := by decide +kernel
theorem dX7_leastThatFits_11 : decode cX7_leastThatFits 11 = .ok (.iload_n 1, 1) := by decide +kernel
theorem dX7_leastThatFits_12 : decode cX7_leastThatFits 12 = .ok (.iload_n 2, 1) := by decide +kernel
theorem dX7_leastThatFits_13 : decode cX7_leastThatFits 13 = .ok (.invokevirtual 19, 3) := by decide +kernel
theorem dX7_leastThatFits_16 : decode cX7_leastThatFits 16 = .ok (.ifCond .eq 8, 3) := by decide +kernel
theorem dX7_leastThatFits_19 : decode cX7_leastThatFits 19 = .ok (.iload_n 3, 1) := by decide +kernel
theorem dX7_leastThatFits_20 : decode cX7_leastThatFits 20 = .ok (.invokestatic 23, 3) := by decide +kernel
theorem dX7_leastThatFits_23 : decode cX7_leastThatFits 23 = .ok (.ireturn, 1) := by decide +kernel
theorem dX7_leastThatFits_24 : decode cX7_leastThatFits 24 = .ok (.iinc 3 1, 3) := by decide +kernel
theorem dX7_leastThatFits_27 : decode cX7_leastThatFits 27 = .ok (.goto (-25), 3) := by decide +kernel
theorem dX7_leastThatFits_30 : decode cX7_leastThatFits 30 = .ok (.iconst (-1), 1) := by decide +kernel
theorem dX7_leastThatFits_31 : decode cX7_leastThatFits 31 = .ok (.ireturn, 1) := by decide +kernel
theorem dX7_isSetting_0 : decode cX7_isSetting 0 = .ok (.iload_n 0, 1) := by decide +kernel
theorem dX7_isSetting_1 : decode cX7_isSetting 1 = .ok (.ifCond .lt 14, 3) := by decide +kernel
theorem dX7_isSetting_4 : decode cX7_isSetting 4 = .ok (.iload_n 0, 1) := by decide +kernel
theorem dX7_isSetting_5 : decode cX7_isSetting 5 = .ok (.sipush 2187, 3) := by decide +kernel
theorem dX7_isSetting_8 : decode cX7_isSetting 8 = .ok (.if_icmp .ge 7, 3) := by decide +kernel
theorem dX7_isSetting_11 : decode cX7_isSetting 11 = .ok (.iconst 1, 1) := by decide +kernel
theorem dX7_isSetting_12 : decode cX7_isSetting 12 = .ok (.goto 4, 3) := by decide +kernel
theorem dX7_isSetting_15 : decode cX7_isSetting 15 = .ok (.iconst 0, 1) := by decide +kernel
theorem dX7_isSetting_16 : decode cX7_isSetting 16 = .ok (.ireturn, 1) := by decide +kernel
theorem dX7_toneAt_0 : decode cX7_toneAt 0 = .ok (.getstatic 26, 3) := by decide +kernel
theorem dX7_toneAt_3 : decode cX7_toneAt 3 = .ok (.iload_n 0, 1) := by decide +kernel
theorem dX7_toneAt_4 : decode cX7_toneAt 4 = .ok (.iaload, 1) := by decide +kernel
theorem dX7_toneAt_5 : decode cX7_toneAt 5 = .ok (.iload_n 1, 1) := by decide +kernel
theorem dX7_toneAt_6 : decode cX7_toneAt 6 = .ok (.iadd, 1) := by decide +kernel
theorem dX7_toneAt_7 : decode cX7_toneAt 7 = .ok (.bipush 12, 2) := by decide +kernel
theorem dX7_toneAt_9 : decode cX7_toneAt 9 = .ok (.iadd, 1) := by decide +kernel
theorem dX7_toneAt_10 : decode cX7_toneAt 10 = .ok (.iconst 1, 1) := by decide +kernel
theorem dX7_toneAt_11 : decode cX7_toneAt 11 = .ok (.isub, 1) := by decide +kernel
theorem dX7_toneAt_12 : decode cX7_toneAt 12 = .ok (.bipush 12, 2) := by decide +kernel
theorem dX7_toneAt_14 : decode cX7_toneAt 14 = .ok (.irem, 1) := by decide +kernel
theorem dX7_toneAt_15 : decode cX7_toneAt 15 = .ok (.ireturn, 1) := by decide +kernel
theorem dX7_positionAt_0 : decode cX7_positionAt 0 = .ok (.iload_n 1, 1) := by decide +kernel
theorem dX7_positionAt_1 : decode cX7_positionAt 1 = .ok (.tableswitch 80 0 5 #[39, 45, 53, 60, 67, 74], 39) := by decide +kernel
theorem dX7_positionAt_40 : decode cX7_positionAt 40 = .ok (.iload_n 0, 1) := by decide +kernel
theorem dX7_positionAt_41 : decode cX7_positionAt 41 = .ok (.sipush 729, 3) := by decide +kernel
theorem dX7_positionAt_44 : decode cX7_positionAt 44 = .ok (.idiv, 1) := by decide +kernel
theorem dX7_positionAt_45 : decode cX7_positionAt 45 = .ok (.ireturn, 1) := by decide +kernel
theorem dX7_positionAt_46 : decode cX7_positionAt 46 = .ok (.iload_n 0, 1) := by decide +kernel
theorem dX7_positionAt_47 : decode cX7_positionAt 47 = .ok (.sipush 243, 3) := by decide +kernel
theorem dX7_positionAt_50 : decode cX7_positionAt 50 = .ok (.idiv, 1) := by decide +kernel
theorem dX7_positionAt_51 : decode cX7_positionAt 51 = .ok (.iconst 3, 1) := by decide +kernel
theorem dX7_positionAt_52 : decode cX7_positionAt 52 = .ok (.irem, 1) := by decide +kernel
theorem dX7_positionAt_53 : decode cX7_positionAt 53 = .ok (.ireturn, 1) := by decide +kernel
theorem dX7_positionAt_54 : decode cX7_positionAt 54 = .ok (.iload_n 0, 1) := by decide +kernel
theorem dX7_positionAt_55 : decode cX7_positionAt 55 = .ok (.bipush 81, 2) := by decide +kernel
theorem dX7_positionAt_57 : decode cX7_positionAt 57 = .ok (.idiv, 1) := by decide +kernel
theorem dX7_positionAt_58 : decode cX7_positionAt 58 = .ok (.iconst 3, 1) := by decide +kernel
theorem dX7_positionAt_59 : decode cX7_positionAt 59 = .ok (.irem, 1) := by decide +kernel
theorem dX7_positionAt_60 : decode cX7_positionAt 60 = .ok (.ireturn, 1) := by decide +kernel
theorem dX7_positionAt_61 : decode cX7_positionAt 61 = .ok (.iload_n 0, 1) := by decide +kernel
theorem dX7_positionAt_62 : decode cX7_positionAt 62 = .ok (.bipush 27, 2) := by decide +kernel
theorem dX7_positionAt_64 : decode cX7_positionAt 64 = .ok (.idiv, 1) := by decide +kernel
theorem dX7_positionAt_65 : decode cX7_positionAt 65 = .ok (.iconst 3, 1) := by decide +kernel
theorem dX7_positionAt_66 : decode cX7_positionAt 66 = .ok (.irem, 1) := by decide +kernel
theorem dX7_positionAt_67 : decode cX7_positionAt 67 = .ok (.ireturn, 1) := by decide +kernel
theorem dX7_positionAt_68 : decode cX7_positionAt 68 = .ok (.iload_n 0, 1) := by decide +kernel
theorem dX7_positionAt_69 : decode cX7_positionAt 69 = .ok (.bipush 9, 2) := by decide +kernel
theorem dX7_positionAt_71 : decode cX7_positionAt 71 = .ok (.idiv, 1) := by decide +kernel
theorem dX7_positionAt_72 : decode cX7_positionAt 72 = .ok (.iconst 3, 1) := by decide +kernel
theorem dX7_positionAt_73 : decode cX7_positionAt 73 = .ok (.irem, 1) := by decide +kernel
theorem dX7_positionAt_74 : decode cX7_positionAt 74 = .ok (.ireturn, 1) := by decide +kernel
theorem dX7_positionAt_75 : decode cX7_positionAt 75 = .ok (.iload_n 0, 1) := by decide +kernel
theorem dX7_positionAt_76 : decode cX7_positionAt 76 = .ok (.iconst 3, 1) := by decide +kernel
theorem dX7_positionAt_77 : decode cX7_positionAt 77 = .ok (.idiv, 1) := by decide +kernel
theorem dX7_positionAt_78 : decode cX7_positionAt 78 = .ok (.iconst 3, 1) := by decide +kernel
theorem dX7_positionAt_79 : decode cX7_positionAt 79 = .ok (.irem, 1) := by decide +kernel
theorem dX7_positionAt_80 : decode cX7_positionAt 80 = .ok (.ireturn, 1) := by decide +kernel
theorem dX7_positionAt_81 : decode cX7_positionAt 81 = .ok (.iload_n 0, 1) := by decide +kernel
theorem dX7_positionAt_82 : decode cX7_positionAt 82 = .ok (.iconst 3, 1) := by decide +kernel
theorem dX7_positionAt_83 : decode cX7_positionAt 83 = .ok (.irem, 1) := by decide +kernel
theorem dX7_positionAt_84 : decode cX7_positionAt 84 = .ok (.ireturn, 1) := by decide +kernel
set_option maxRecDepth 20000 in
theorem ggX7_moved_X7_positionAt : GoodIn wsX7_moved wsX7_positionAt := goodIn_r _ [5] (by decide +kernel) (by decide +kernel)
set_option maxRecDepth 20000 in
theorem gX7_moved_X7_positionAt : GoodIn wsX7_moved (va_wsS RX7 29 yX7_positionAt wsX7_positionAt) := goodIn_app (goodIn_of _ (by decide +kernel)) ggX7_moved_X7_positionAt
theorem dX7_moved_0 : decode cX7_moved 0 = .ok (.iload_n 0, 1) := by decide +kernel
theorem dX7_moved_1 : decode cX7_moved 1 = .ok (.iload_n 2, 1) := by decide +kernel
theorem dX7_moved_2 : decode cX7_moved 2 = .ok (.iload_n 0, 1) := by decide +kernel
theorem dX7_moved_3 : decode cX7_moved 3 = .ok (.iload_n 1, 1) := by decide +kernel
theorem dX7_moved_4 : decode cX7_moved 4 = .ok (.invokestatic 29, 3) := by decide +kernel
theorem dX7_moved_7 : decode cX7_moved 7 = .ok (.isub, 1) := by decide +kernel
theorem dX7_moved_8 : decode cX7_moved 8 = .ok (.getstatic 33, 3) := by decide +kernel
theorem dX7_moved_11 : decode cX7_moved 11 = .ok (.iload_n 1, 1) := by decide +kernel
theorem dX7_moved_12 : decode cX7_moved 12 = .ok (.iaload, 1) := by decide +kernel
theorem dX7_moved_13 : decode cX7_moved 13 = .ok (.imul, 1) := by decide +kernel
theorem dX7_moved_14 : decode cX7_moved 14 = .ok (.iadd, 1) := by decide +kernel
theorem dX7_moved_15 : decode cX7_moved 15 = .ok (.ireturn, 1) := by decide +kernel
set_option maxRecDepth 20000 in
theorem ggX7_numberOf_X7_positionAt : GoodIn wsX7_numberOf wsX7_positionAt := goodIn_r _ [4] (by decide +kernel) (by decide +kernel)
set_option maxRecDepth 20000 in
theorem gX7_numberOf_X7_positionAt : GoodIn wsX7_numberOf (va_wsS RX7 29 yX7_positionAt wsX7_positionAt) := goodIn_app (goodIn_of _ (by decide +kernel)) ggX7_numberOf_X7_positionAt
theorem dX7_numberOf_0 : decode cX7_numberOf 0 = .ok (.iconst 0, 1) := by decide +kernel
theorem dX7_numberOf_1 : decode cX7_numberOf 1 = .ok (.istore_n 1, 1) := by decide +kernel
theorem dX7_numberOf_2 : decode cX7_numberOf 2 = .ok (.iconst 0, 1) := by decide +kernel
theorem dX7_numberOf_3 : decode cX7_numberOf 3 = .ok (.istore_n 2, 1) := by decide +kernel
theorem dX7_numberOf_4 : decode cX7_numberOf 4 = .ok (.iload_n 2, 1) := by decide +kernel
theorem dX7_numberOf_5 : decode cX7_numberOf 5 = .ok (.bipush 7, 2) := by decide +kernel
theorem dX7_numberOf_7 : decode cX7_numberOf 7 = .ok (.if_icmp .ge 20, 3) := by decide +kernel
theorem dX7_numberOf_10 : decode cX7_numberOf 10 = .ok (.iload_n 1, 1) := by decide +kernel
theorem dX7_numberOf_11 : decode cX7_numberOf 11 = .ok (.bipush 10, 2) := by decide +kernel
theorem dX7_numberOf_13 : decode cX7_numberOf 13 = .ok (.imul, 1) := by decide +kernel
theorem dX7_numberOf_14 : decode cX7_numberOf 14 = .ok (.iload_n 0, 1) := by decide +kernel
theorem dX7_numberOf_15 : decode cX7_numberOf 15 = .ok (.iload_n 2, 1) := by decide +kernel
theorem dX7_numberOf_16 : decode cX7_numberOf 16 = .ok (.invokestatic 29, 3) := by decide +kernel
theorem dX7_numberOf_19 : decode cX7_numberOf 19 = .ok (.iadd, 1) := by decide +kernel
theorem dX7_numberOf_20 : decode cX7_numberOf 20 = .ok (.istore_n 1, 1) := by decide +kernel
theorem dX7_numberOf_21 : decode cX7_numberOf 21 = .ok (.iinc 2 1, 3) := by decide +kernel
theorem dX7_numberOf_24 : decode cX7_numberOf 24 = .ok (.goto (-20), 3) := by decide +kernel
theorem dX7_numberOf_27 : decode cX7_numberOf 27 = .ok (.iload_n 1, 1) := by decide +kernel
theorem dX7_numberOf_28 : decode cX7_numberOf 28 = .ok (.ireturn, 1) := by decide +kernel
set_option maxRecDepth 20000 in
theorem ggX7_tonesOfPedals_X7_positionAt : GoodIn wsX7_tonesOfPedals wsX7_positionAt := goodIn_r _ [4] (by decide +kernel) (by decide +kernel)
set_option maxRecDepth 20000 in
theorem gX7_tonesOfPedals_X7_positionAt : GoodIn wsX7_tonesOfPedals (va_wsS RX7 29 yX7_positionAt wsX7_positionAt) := goodIn_app (goodIn_of _ (by decide +kernel)) ggX7_tonesOfPedals_X7_positionAt
set_option maxRecDepth 20000 in
theorem ggX7_tonesOfPedals_X7_toneAt : GoodIn wsX7_tonesOfPedals wsX7_toneAt := goodIn_r _ [7, 8] (by decide +kernel) (by decide +kernel)
set_option maxRecDepth 20000 in
theorem gX7_tonesOfPedals_X7_toneAt : GoodIn wsX7_tonesOfPedals (va_wsS RX7 36 yX7_toneAt wsX7_toneAt) := goodIn_app (goodIn_of _ (by decide +kernel)) ggX7_tonesOfPedals_X7_toneAt
theorem dX7_tonesOfPedals_0 : decode cX7_tonesOfPedals 0 = .ok (.iconst 0, 1) := by decide +kernel
theorem dX7_tonesOfPedals_1 : decode cX7_tonesOfPedals 1 = .ok (.istore_n 1, 1) := by decide +kernel
theorem dX7_tonesOfPedals_2 : decode cX7_tonesOfPedals 2 = .ok (.iconst 0, 1) := by decide +kernel
theorem dX7_tonesOfPedals_3 : decode cX7_tonesOfPedals 3 = .ok (.istore_n 2, 1) := by decide +kernel
theorem dX7_tonesOfPedals_4 : decode cX7_tonesOfPedals 4 = .ok (.iload_n 2, 1) := by decide +kernel
theorem dX7_tonesOfPedals_5 : decode cX7_tonesOfPedals 5 = .ok (.bipush 7, 2) := by decide +kernel
theorem dX7_tonesOfPedals_7 : decode cX7_tonesOfPedals 7 = .ok (.if_icmp .ge 23, 3) := by decide +kernel
theorem dX7_tonesOfPedals_10 : decode cX7_tonesOfPedals 10 = .ok (.iload_n 1, 1) := by decide +kernel
theorem dX7_tonesOfPedals_11 : decode cX7_tonesOfPedals 11 = .ok (.iconst 1, 1) := by decide +kernel
theorem dX7_tonesOfPedals_12 : decode cX7_tonesOfPedals 12 = .ok (.iload_n 2, 1) := by decide +kernel
theorem dX7_tonesOfPedals_13 : decode cX7_tonesOfPedals 13 = .ok (.iload_n 0, 1) := by decide +kernel
theorem dX7_tonesOfPedals_14 : decode cX7_tonesOfPedals 14 = .ok (.iload_n 2, 1) := by decide +kernel
theorem dX7_tonesOfPedals_15 : decode cX7_tonesOfPedals 15 = .ok (.invokestatic 29, 3) := by decide +kernel
theorem dX7_tonesOfPedals_18 : decode cX7_tonesOfPedals 18 = .ok (.invokestatic 36, 3) := by decide +kernel
theorem dX7_tonesOfPedals_21 : decode cX7_tonesOfPedals 21 = .ok (.ishl, 1) := by decide +kernel
theorem dX7_tonesOfPedals_22 : decode cX7_tonesOfPedals 22 = .ok (.ior, 1) := by decide +kernel
theorem dX7_tonesOfPedals_23 : decode cX7_tonesOfPedals 23 = .ok (.istore_n 1, 1) := by decide +kernel
theorem dX7_tonesOfPedals_24 : decode cX7_tonesOfPedals 24 = .ok (.iinc 2 1, 3) := by decide +kernel
theorem dX7_tonesOfPedals_27 : decode cX7_tonesOfPedals 27 = .ok (.goto (-23), 3) := by decide +kernel
theorem dX7_tonesOfPedals_30 : decode cX7_tonesOfPedals 30 = .ok (.iload_n 1, 1) := by decide +kernel
theorem dX7_tonesOfPedals_31 : decode cX7_tonesOfPedals 31 = .ok (.ireturn, 1) := by decide +kernel
end
section
set_option maxRecDepth 20000 in
theorem ggX8_init_X1_init : GoodIn wsX8_init wsX1_init := goodIn_r _ [35, 36, 2, 3, 37, 38, 96, 97] (by decide +kernel) (by decide +kernel)
set_option maxRecDepth 20000 in
theorem gX8_init_X1_init_n9 : GoodIn wsX8_init (wsX1_init) := ggX8_init_X1_init
set_option maxRecDepth 20000 in
theorem ggX8_init_X5_init : GoodIn wsX8_init wsX5_init := goodIn_r _ [40, 41, 2, 3, 42, 13, 14, 43, 44, 45, 46, 37, 47, 48, 112, 113, 114, 115, 109, 110, 111] (by decide +kernel) (by decide +kernel)
set_option maxRecDepth 20000 in
theorem gX8_init_X5_init_n18 : GoodIn wsX8_init (wsX5_init) := ggX8_init_X5_init
set_option maxRecDepth 20000 in
theorem ggX8_init_X2_init : GoodIn wsX8_init wsX2_init := goodIn_r _ [45, 46, 2, 3, 37, 47, 48, 112, 113, 114, 115] (by decide +kernel) (by decide +kernel)
set_option maxRecDepth 20000 in
theorem gX8_init_X2_init_n25 : GoodIn wsX8_init (wsX2_init) := ggX8_init_X2_init
set_option maxRecDepth 20000 in
theorem ggX8_init_X6_init : GoodIn wsX8_init wsX6_init := goodIn_r _ [50, 51, 2, 3, 37, 52, 53, 116, 117, 118] (by decide +kernel) (by decide +kernel)
set_option maxRecDepth 20000 in
theorem gX8_init_X6_init_n35 : GoodIn wsX8_init (wsX6_init) := ggX8_init_X6_init
set_option maxRecDepth 20000 in
theorem ggX8_init_X7_init : GoodIn wsX8_init wsX7_init := goodIn_r _ [56, 57, 2, 3, 37, 58, 59, 60, 24, 61, 62, 63, 64, 65, 66, 67, 68, 119] (by decide +kernel) (by decide +kernel)
set_option maxRecDepth 20000 in
theorem gX8_init_X7_init : GoodIn wsX8_init (wsX7_init) := ggX8_init_X7_init
set_option maxRecDepth 20000 in
theorem ggX8_init_X3_init : GoodIn wsX8_init wsX3_init := goodIn_r _ [71, 72, 2, 3, 73, 74, 75, 76, 37, 77, 78, 79, 80, 81, 82, 83, 84, 85, 86, 87, 88, 138, 139, 120, 121, 122, 123, 124, 125, 126, 127, 128, 129, 130, 131] (by decide +kernel) (by decide +kernel)
set_option maxRecDepth 20000 in
theorem gX8_init_X3_init : GoodIn wsX8_init (wsX3_init) := ggX8_init_X3_init
set_option maxRecDepth 20000 in
theorem ggX8_init_X4_init : GoodIn wsX8_init wsX4_init := goodIn_r _ [91, 92, 2, 3, 93, 74, 75, 94, 95, 86, 87, 88, 138, 139, 132, 133, 134, 135, 136, 137] (by decide +kernel) (by decide +kernel)
set_option maxRecDepth 20000 in
theorem gX8_init_X4_init : GoodIn wsX8_init (wsX4_init) := ggX8_init_X4_init
theorem dX8_init_0 : decode cX8_init 0 = .ok (.aload_n 0, 1) := by decide +kernel
theorem dX8_init_1 : decode cX8_init 1 = .ok (.invokespecial 1, 3) := by decide +kernel
theorem dX8_init_4 : decode cX8_init 4 = .ok (.aload_n 0, 1) := by decide +kernel
theorem dX8_init_5 : decode cX8_init 5 = .ok (.new 7, 3) := by decide +kernel
theorem dX8_init_8 : decode cX8_init 8 = .ok (.dup, 1) := by decide +kernel
theorem dX8_init_9 : decode cX8_init 9 = .ok (.invokespecial 9, 3) := by decide +kernel
theorem dX8_init_12 : decode cX8_init 12 = .ok (.putfield 10, 3) := by decide +kernel
theorem dX8_init_15 : decode cX8_init 15 = .ok (.aload_n 0, 1) := by decide +kernel
theorem dX8_init_16 : decode cX8_init 16 = .ok (.new 16, 3) := by decide +kernel
theorem dX8_init_19 : decode cX8_init 19 = .ok (.dup, 1) := by decide +kernel
theorem dX8_init_20 : decode cX8_init 20 = .ok (.invokespecial 18, 3) := by decide +kernel
theorem dX8_init_23 : decode cX8_init 23 = .ok (.putfield 19, 3) := by decide +kernel
theorem dX8_init_26 : decode cX8_init 26 = .ok (.aload_n 0, 1) := by decide +kernel
theorem dX8_init_27 : decode cX8_init 27 = .ok (.new 23, 3) := by decide +kernel
theorem dX8_init_30 : decode cX8_init 30 = .ok (.dup, 1) := by decide +kernel
theorem dX8_init_31 : decode cX8_init 31 = .ok (.invokespecial 25, 3) := by decide +kernel
theorem dX8_init_34 : decode cX8_init 34 = .ok (.putfield 26, 3) := by decide +kernel
theorem dX8_init_37 : decode cX8_init 37 = .ok (.aload_n 0, 1) := by decide +kernel
theorem dX8_init_38 : decode cX8_init 38 = .ok (.new 23, 3) := by decide +kernel
theorem dX8_init_41 : decode cX8_init 41 = .ok (.dup, 1) := by decide +kernel
theorem dX8_init_42 : decode cX8_init 42 = .ok (.invokespecial 25, 3) := by decide +kernel
theorem dX8_init_45 : decode cX8_init 45 = .ok (.putfield 30, 3) := by decide +kernel
theorem dX8_init_48 : decode cX8_init 48 = .ok (.aload_n 0, 1) := by decide +kernel
theorem dX8_init_49 : decode cX8_init 49 = .ok (.new 33, 3) := by decide +kernel
theorem dX8_init_52 : decode cX8_init 52 = .ok (.dup, 1) := by decide +kernel
theorem dX8_init_53 : decode cX8_init 53 = .ok (.invokespecial 35, 3) := by decide +kernel
theorem dX8_init_56 : decode cX8_init 56 = .ok (.putfield 36, 3) := by decide +kernel
theorem dX8_init_59 : decode cX8_init 59 = .ok (.aload_n 0, 1) := by decide +kernel
theorem dX8_init_60 : decode cX8_init 60 = .ok (.new 33, 3) := by decide +kernel
theorem dX8_init_63 : decode cX8_init 63 = .ok (.dup, 1) := by decide +kernel
theorem dX8_init_64 : decode cX8_init 64 = .ok (.invokespecial 35, 3) := by decide +kernel
theorem dX8_init_67 : decode cX8_init 67 = .ok (.putfield 40, 3) := by decide +kernel
theorem dX8_init_70 : decode cX8_init 70 = .ok (.aload_n 0, 1) := by decide +kernel
theorem dX8_init_71 : decode cX8_init 71 = .ok (.new 43, 3) := by decide +kernel
theorem dX8_init_74 : decode cX8_init 74 = .ok (.dup, 1) := by decide +kernel
theorem dX8_init_75 : decode cX8_init 75 = .ok (.invokespecial 45, 3) := by decide +kernel
theorem dX8_init_78 : decode cX8_init 78 = .ok (.putfield 46, 3) := by decide +kernel
theorem dX8_init_81 : decode cX8_init 81 = .ok (.aload_n 0, 1) := by decide +kernel
theorem dX8_init_82 : decode cX8_init 82 = .ok (.new 50, 3) := by decide +kernel
theorem dX8_init_85 : decode cX8_init 85 = .ok (.dup, 1) := by decide +kernel
theorem dX8_init_86 : decode cX8_init 86 = .ok (.aload_n 0, 1) := by decide +kernel
theorem dX8_init_87 : decode cX8_init 87 = .ok (.getfield 46, 3) := by decide +kernel
theorem dX8_init_90 : decode cX8_init 90 = .ok (.invokespecial 52, 3) := by decide +kernel
theorem dX8_init_93 : decode cX8_init 93 = .ok (.putfield 55, 3) := by decide +kernel
theorem dX8_init_96 : decode cX8_init 96 = .ok (.aload_n 0, 1) := by decide +kernel
theorem dX8_init_97 : decode cX8_init 97 = .ok (.new 59, 3) := by decide +kernel
theorem dX8_init_100 : decode cX8_init 100 = .ok (.dup, 1) := by decide +kernel
theorem dX8_init_101 : decode cX8_init 101 = .ok (.aload_n 0, 1) := by decide +kernel
theorem dX8_init_102 : decode cX8_init 102 = .ok (.getfield 46, 3) := by decide +kernel
theorem dX8_init_105 : decode cX8_init 105 = .ok (.invokespecial 61, 3) := by decide +kernel
theorem dX8_init_108 : decode cX8_init 108 = .ok (.putfield 62, 3) := by decide +kernel
theorem dX8_init_111 : decode cX8_init 111 = .ok (.return_, 1) := by decide +kernel
set_option maxRecDepth 20000 in
theorem ggX8_letter_X1_append : GoodIn wsX8_letter wsX1_append := goodIn_r _ [6, 7, 8, 20, 21] (by decide +kernel) (by decide +kernel)
set_option maxRecDepth 20000 in
theorem gX8_letter_X1_append : GoodIn wsX8_letter (wsV RX8 66 RX1 yX1_append wsX1_append) := goodIn_app (goodIn_of _ (by decide +kernel)) ggX8_letter_X1_append
theorem dX8_letter_0 : decode cX8_letter 0 = .ok (.iload_n 1, 1) := by decide +kernel
theorem dX8_letter_1 : decode cX8_letter 1 = .ok (.iconst 1, 1) := by decide +kernel
theorem dX8_letter_2 : decode cX8_letter 2 = .ok (.if_icmp .lt 9, 3) := by decide +kernel
theorem dX8_letter_5 : decode cX8_letter 5 = .ok (.iload_n 1, 1) := by decide +kernel
theorem dX8_letter_6 : decode cX8_letter 6 = .ok (.bipush 126, 2) := by decide +kernel
theorem dX8_letter_8 : decode cX8_letter 8 = .ok (.if_icmp .le 6, 3) := by decide +kernel
theorem dX8_letter_11 : decode cX8_letter 11 = .ok (.bipush (-102), 2) := by decide +kernel
theorem dX8_letter_13 : decode cX8_letter 13 = .ok (.ireturn, 1) := by decide +kernel
theorem dX8_letter_14 : decode cX8_letter 14 = .ok (.aload_n 0, 1) := by decide +kernel
theorem dX8_letter_15 : decode cX8_letter 15 = .ok (.getfield 10, 3) := by decide +kernel
theorem dX8_letter_18 : decode cX8_letter 18 = .ok (.iload_n 1, 1) := by decide +kernel
theorem dX8_letter_19 : decode cX8_letter 19 = .ok (.invokevirtual 66, 3) := by decide +kernel
theorem dX8_letter_22 : decode cX8_letter 22 = .ok (.ifCond .eq 13, 3) := by decide +kernel
theorem dX8_letter_25 : decode cX8_letter 25 = .ok (.aload_n 0, 1) := by decide +kernel
theorem dX8_letter_26 : decode cX8_letter 26 = .ok (.getfield 10, 3) := by decide +kernel
theorem dX8_letter_29 : decode cX8_letter 29 = .ok (.getfield 70, 3) := by decide +kernel
theorem dX8_letter_32 : decode cX8_letter 32 = .ok (.goto 5, 3) := by decide +kernel
theorem dX8_letter_35 : decode cX8_letter 35 = .ok (.bipush (-104), 2) := by decide +kernel
theorem dX8_letter_37 : decode cX8_letter 37 = .ok (.ireturn, 1) := by decide +kernel
set_option maxRecDepth 20000 in
theorem ggX8_blank_X1_clear : GoodIn wsX8_blank wsX1_clear := goodIn_r _ [6, 7, 19, 20] (by decide +kernel) (by decide +kernel)
set_option maxRecDepth 20000 in
theorem gX8_blank_X1_clear : GoodIn wsX8_blank (wsV RX8 74 RX1 yX1_clear wsX1_clear) := goodIn_app (goodIn_of _ (by decide +kernel)) ggX8_blank_X1_clear
theorem dX8_blank_0 : decode cX8_blank 0 = .ok (.aload_n 0, 1) := by decide +kernel
theorem dX8_blank_1 : decode cX8_blank 1 = .ok (.getfield 10, 3) := by decide +kernel
theorem dX8_blank_4 : decode cX8_blank 4 = .ok (.invokevirtual 74, 3) := by decide +kernel
theorem dX8_blank_7 : decode cX8_blank 7 = .ok (.ireturn, 1) := by decide +kernel
set_option maxRecDepth 20000 in
theorem ggX8_fault_X1_readBy : GoodIn wsX8_fault wsX1_readBy := goodIn_r _ [7, 8, 9, 10, 11, 12, 13, 14, 15, 16, 17, 18, 19, 20, 21, 22, 23, 24, 25, 26, 27, 28, 29, 30, 31, 32, 33, 34, 35, 36, 37, 38, 39, 40, 41, 42, 43, 44, 45, 46, 47, 48, 49, 50, 51, 52, 53, 54, 55, 56, 57, 58, 59, 60, 61, 62, 63, 64, 65, 66, 67, 68, 69, 70, 71, 83, 84, 85, 86, 87, 88, 89, 90, 91] (by decide +kernel) (by decide +kernel)
set_option maxRecDepth 20000 in
theorem gX8_fault_X1_readBy : GoodIn wsX8_fault (wsV RX8 78 RX1 yX1_readBy wsX1_readBy) := goodIn_app (goodIn_of _ (by decide +kernel)) ggX8_fault_X1_readBy
theorem dX8_fault_0 : decode cX8_fault 0 = .ok (.aload_n 0, 1) := by decide +kernel
theorem dX8_fault_1 : decode cX8_fault 1 = .ok (.getfield 10, 3) := by decide +kernel
theorem dX8_fault_4 : decode cX8_fault 4 = .ok (.aload_n 0, 1) := by decide +kernel
theorem dX8_fault_5 : decode cX8_fault 5 = .ok (.getfield 19, 3) := by decide +kernel
theorem dX8_fault_8 : decode cX8_fault 8 = .ok (.invokevirtual 78, 3) := by decide +kernel
theorem dX8_fault_11 : decode cX8_fault 11 = .ok (.ireturn, 1) := by decide +kernel
set_option maxRecDepth 20000 in
theorem ggX8_part_X1_readBy : GoodIn wsX8_part wsX1_readBy := goodIn_r _ [12, 13, 14, 15, 16, 17, 18, 19, 20, 21, 22, 23, 24, 25, 26, 27, 28, 29, 30, 31, 32, 33, 34, 35, 36, 37, 38, 39, 40, 41, 42, 43, 44, 45, 46, 47, 48, 49, 50, 51, 52, 53, 54, 55, 56, 57, 58, 59, 60, 61, 62, 63, 64, 65, 66, 67, 68, 69, 70, 71, 72, 73, 74, 75, 76, 118, 119, 120, 121, 122, 123, 124, 125, 126] (by decide +kernel) (by decide +kernel)
set_option maxRecDepth 20000 in
theorem gX8_part_X1_readBy : GoodIn wsX8_part (wsV RX8 78 RX1 yX1_readBy wsX1_readBy) := goodIn_app (goodIn_of _ (by decide +kernel)) ggX8_part_X1_readBy
set_option maxRecDepth 20000 in
theorem ggX8_part_X5_isWhole : GoodIn wsX8_part wsX5_isWhole := goodIn_r _ [80, 22, 20, 58, 59, 60, 26, 61, 29, 53, 120, 121, 122, 123, 124, 125, 126] (by decide +kernel) (by decide +kernel)
set_option maxRecDepth 20000 in
theorem gX8_part_X5_isWhole : GoodIn wsX8_part (wsV RX8 82 RX5 yX5_isWhole wsX5_isWhole) := goodIn_app (goodIn_of _ (by decide +kernel)) ggX8_part_X5_isWhole
set_option maxRecDepth 20000 in
theorem ggX8_part_X2_become : GoodIn wsX8_part wsX2_become := goodIn_r _ [84, 28, 29, 52, 85, 86, 87, 88, 53, 123, 124, 125, 126] (by decide +kernel) (by decide +kernel)
set_option maxRecDepth 20000 in
theorem gX8_part_X2_become : GoodIn wsX8_part (wsV RX8 89 RX2 yX2_become wsX2_become) := goodIn_app (goodIn_of _ (by decide +kernel)) ggX8_part_X2_become
set_option maxRecDepth 20000 in
theorem ggX8_part_X3_makeStale : GoodIn wsX8_part wsX3_makeStale := goodIn_r _ [93, 94, 95, 127, 128, 129, 130, 131, 132, 133, 134, 135, 136, 137, 138] (by decide +kernel) (by decide +kernel)
set_option maxRecDepth 20000 in
theorem gX8_part_X3_makeStale : GoodIn wsX8_part (wsV RX8 93 RX3 yX3_makeStale wsX3_makeStale) := goodIn_app (goodIn_of _ (by decide +kernel)) ggX8_part_X3_makeStale
set_option maxRecDepth 20000 in
theorem ggX8_part_X6_clear : GoodIn wsX8_part wsX6_clear := goodIn_r _ [100, 101, 139, 140, 141] (by decide +kernel) (by decide +kernel)
set_option maxRecDepth 20000 in
theorem gX8_part_X6_clear : GoodIn wsX8_part (wsV RX8 96 RX6 yX6_clear wsX6_clear) := goodIn_app (goodIn_of _ (by decide +kernel)) ggX8_part_X6_clear
set_option maxRecDepth 20000 in
theorem ggX8_part_X2_clear : GoodIn wsX8_part wsX2_clear := goodIn_r _ [27, 28, 29, 123, 124, 125, 126] (by decide +kernel) (by decide +kernel)
set_option maxRecDepth 20000 in
theorem gX8_part_X2_clear : GoodIn wsX8_part (wsV RX8 97 RX2 yX2_clear wsX2_clear) := goodIn_app (goodIn_of _ (by decide +kernel)) ggX8_part_X2_clear
set_option maxRecDepth 20000 in
theorem ggX8_part_X1_clear : GoodIn wsX8_part wsX1_clear := goodIn_r _ [106, 13, 118, 119] (by decide +kernel) (by decide +kernel)
set_option maxRecDepth 20000 in
theorem gX8_part_X1_clear : GoodIn wsX8_part (wsV RX8 74 RX1 yX1_clear wsX1_clear) := goodIn_app (goodIn_of _ (by decide +kernel)) ggX8_part_X1_clear
theorem dX8_part_0 : decode cX8_part 0 = .ok (.aload_n 0, 1) := by decide +kernel
theorem dX8_part_1 : decode cX8_part 1 = .ok (.getfield 10, 3) := by decide +kernel
theorem dX8_part_4 : decode cX8_part 4 = .ok (.aload_n 0, 1) := by decide +kernel
theorem dX8_part_5 : decode cX8_part 5 = .ok (.getfield 19, 3) := by decide +kernel
theorem dX8_part_8 : decode cX8_part 8 = .ok (.invokevirtual 78, 3) := by decide +kernel
theorem dX8_part_11 : decode cX8_part 11 = .ok (.aload_n 0, 1) := by decide +kernel
theorem dX8_part_12 : decode cX8_part 12 = .ok (.getfield 10, 3) := by decide +kernel
theorem dX8_part_15 : decode cX8_part 15 = .ok (.getfield 70, 3) := by decide +kernel
theorem dX8_part_18 : decode cX8_part 18 = .ok (.if_icmp .lt 13, 3) := by decide +kernel
theorem dX8_part_21 : decode cX8_part 21 = .ok (.aload_n 0, 1) := by decide +kernel
theorem dX8_part_22 : decode cX8_part 22 = .ok (.getfield 19, 3) := by decide +kernel
theorem dX8_part_25 : decode cX8_part 25 = .ok (.invokevirtual 82, 3) := by decide +kernel
theorem dX8_part_28 : decode cX8_part 28 = .ok (.ifCond .ne 6, 3) := by decide +kernel
theorem dX8_part_31 : decode cX8_part 31 = .ok (.bipush (-103), 2) := by decide +kernel
theorem dX8_part_33 : decode cX8_part 33 = .ok (.ireturn, 1) := by decide +kernel
theorem dX8_part_34 : decode cX8_part 34 = .ok (.aload_n 0, 1) := by decide +kernel
theorem dX8_part_35 : decode cX8_part 35 = .ok (.getfield 26, 3) := by decide +kernel
theorem dX8_part_38 : decode cX8_part 38 = .ok (.aload_n 0, 1) := by decide +kernel
theorem dX8_part_39 : decode cX8_part 39 = .ok (.getfield 19, 3) := by decide +kernel
theorem dX8_part_42 : decode cX8_part 42 = .ok (.getfield 86, 3) := by decide +kernel
theorem dX8_part_45 : decode cX8_part 45 = .ok (.invokevirtual 89, 3) := by decide +kernel
theorem dX8_part_48 : decode cX8_part 48 = .ok (.aload_n 0, 1) := by decide +kernel
theorem dX8_part_49 : decode cX8_part 49 = .ok (.getfield 55, 3) := by decide +kernel
theorem dX8_part_52 : decode cX8_part 52 = .ok (.invokevirtual 93, 3) := by decide +kernel
theorem dX8_part_55 : decode cX8_part 55 = .ok (.aload_n 0, 1) := by decide +kernel
theorem dX8_part_56 : decode cX8_part 56 = .ok (.getfield 36, 3) := by decide +kernel
theorem dX8_part_59 : decode cX8_part 59 = .ok (.invokevirtual 96, 3) := by decide +kernel
theorem dX8_part_62 : decode cX8_part 62 = .ok (.pop, 1) := by decide +kernel
theorem dX8_part_63 : decode cX8_part 63 = .ok (.aload_n 0, 1) := by decide +kernel
theorem dX8_part_64 : decode cX8_part 64 = .ok (.getfield 30, 3) := by decide +kernel
theorem dX8_part_67 : decode cX8_part 67 = .ok (.invokevirtual 97, 3) := by decide +kernel
theorem dX8_part_70 : decode cX8_part 70 = .ok (.aload_n 0, 1) := by decide +kernel
theorem dX8_part_71 : decode cX8_part 71 = .ok (.getfield 10, 3) := by decide +kernel
theorem dX8_part_74 : decode cX8_part 74 = .ok (.invokevirtual 74, 3) := by decide +kernel
theorem dX8_part_77 : decode cX8_part 77 = .ok (.pop, 1) := by decide +kernel
theorem dX8_part_78 : decode cX8_part 78 = .ok (.aload_n 0, 1) := by decide +kernel
theorem dX8_part_79 : decode cX8_part 79 = .ok (.dup, 1) := by decide +kernel
theorem dX8_part_80 : decode cX8_part 80 = .ok (.getfield 99, 3) := by decide +kernel
theorem dX8_part_83 : decode cX8_part 83 = .ok (.iconst 1, 1) := by decide +kernel
theorem dX8_part_84 : decode cX8_part 84 = .ok (.iadd, 1) := by decide +kernel
theorem dX8_part_85 : decode cX8_part 85 = .ok (.putfield 99, 3) := by decide +kernel
theorem dX8_part_88 : decode cX8_part 88 = .ok (.aload_n 0, 1) := by decide +kernel
theorem dX8_part_89 : decode cX8_part 89 = .ok (.getfield 26, 3) := by decide +kernel
theorem dX8_part_92 : decode cX8_part 92 = .ok (.getfield 102, 3) := by decide +kernel
theorem dX8_part_95 : decode cX8_part 95 = .ok (.ireturn, 1) := by decide +kernel
set_option maxRecDepth 20000 in
theorem ggX8_chord_X2_has : GoodIn wsX8_chord wsX2_has := goodIn_r _ [8, 9, 69, 70, 71, 72] (by decide +kernel) (by decide +kernel)
set_option maxRecDepth 20000 in
theorem gX8_chord_X2_has : GoodIn wsX8_chord (wsV RX8 103 RX2 yX2_has wsX2_has) := goodIn_app (goodIn_of _ (by decide +kernel)) ggX8_chord_X2_has
set_option maxRecDepth 20000 in
theorem ggX8_chord_X7_howManyFit : GoodIn wsX8_chord wsX7_howManyFit := goodIn_r _ [14, 15, 16, 17, 13, 18, 19, 73] (by decide +kernel) (by decide +kernel)
set_option maxRecDepth 20000 in
theorem gX8_chord_X7_howManyFit : GoodIn wsX8_chord (wsV RX8 113 RX7 yX7_howManyFit wsX7_howManyFit) := goodIn_app (goodIn_of _ (by decide +kernel)) ggX8_chord_X7_howManyFit
set_option maxRecDepth 20000 in
theorem ggX8_chord_X7_leastThatFits : GoodIn wsX8_chord wsX7_leastThatFits := goodIn_r _ [23, 15, 16, 17, 13, 18, 19, 24, 25, 26, 27, 28, 29, 73] (by decide +kernel) (by decide +kernel)
set_option maxRecDepth 20000 in
theorem gX8_chord_X7_leastThatFits : GoodIn wsX8_chord (wsV RX8 117 RX7 yX7_leastThatFits wsX7_leastThatFits) := goodIn_app (goodIn_of _ (by decide +kernel)) ggX8_chord_X7_leastThatFits
set_option maxRecDepth 20000 in
theorem ggX8_chord_X6_sortsOf : GoodIn wsX8_chord wsX6_sortsOf := goodIn_r _ [34, 35, 36, 37, 74, 75, 76] (by decide +kernel) (by decide +kernel)
set_option maxRecDepth 20000 in
theorem gX8_chord_X6_sortsOf : GoodIn wsX8_chord (wsV RX8 120 RX6 yX6_sortsOf wsX6_sortsOf) := goodIn_app (goodIn_of _ (by decide +kernel)) ggX8_chord_X6_sortsOf
set_option maxRecDepth 20000 in
theorem ggX8_chord_X6_nextQuestion : GoodIn wsX8_chord wsX6_nextQuestion := goodIn_r _ [41, 42, 43, 31, 32, 33, 34, 35, 36, 37, 44, 45, 46, 47, 48, 49, 50, 51, 52, 53, 54, 55, 56, 57, 74, 75, 76] (by decide +kernel) (by decide +kernel)
set_option maxRecDepth 20000 in
theorem gX8_chord_X6_nextQuestion : GoodIn wsX8_chord (wsV RX8 124 RX6 yX6_nextQuestion wsX6_nextQuestion) := goodIn_app (goodIn_of _ (by decide +kernel)) ggX8_chord_X6_nextQuestion
theorem dX8_chord_0 : decode cX8_chord 0 = .ok (.aload_n 0, 1) := by decide +kernel
theorem dX8_chord_1 : decode cX8_chord 1 = .ok (.getfield 26, 3) := by decide +kernel
theorem dX8_chord_4 : decode cX8_chord 4 = .ok (.iload_n 1, 1) := by decide +kernel
theorem dX8_chord_5 : decode cX8_chord 5 = .ok (.invokevirtual 103, 3) := by decide +kernel
theorem dX8_chord_8 : decode cX8_chord 8 = .ok (.ifCond .ne 6, 3) := by decide +kernel
theorem dX8_chord_11 : decode cX8_chord 11 = .ok (.bipush (-101), 2) := by decide +kernel
theorem dX8_chord_13 : decode cX8_chord 13 = .ok (.ireturn, 1) := by decide +kernel
theorem dX8_chord_14 : decode cX8_chord 14 = .ok (.iload_n 2, 1) := by decide +kernel
theorem dX8_chord_15 : decode cX8_chord 15 = .ok (.tableswitch 127 0 5 #[37, 47, 57, 83, 109, 118], 37) := by decide +kernel
theorem dX8_chord_52 : decode cX8_chord 52 = .ok (.aload_n 0, 1) := by decide +kernel
theorem dX8_chord_53 : decode cX8_chord 53 = .ok (.getfield 26, 3) := by decide +kernel
theorem dX8_chord_56 : decode cX8_chord 56 = .ok (.getfield 106, 3) := by decide +kernel
theorem dX8_chord_59 : decode cX8_chord 59 = .ok (.iload_n 1, 1) := by decide +kernel
theorem dX8_chord_60 : decode cX8_chord 60 = .ok (.iaload, 1) := by decide +kernel
theorem dX8_chord_61 : decode cX8_chord 61 = .ok (.ireturn, 1) := by decide +kernel
theorem dX8_chord_62 : decode cX8_chord 62 = .ok (.aload_n 0, 1) := by decide +kernel
theorem dX8_chord_63 : decode cX8_chord 63 = .ok (.getfield 26, 3) := by decide +kernel
theorem dX8_chord_66 : decode cX8_chord 66 = .ok (.getfield 110, 3) := by decide +kernel
theorem dX8_chord_69 : decode cX8_chord 69 = .ok (.iload_n 1, 1) := by decide +kernel
theorem dX8_chord_70 : decode cX8_chord 70 = .ok (.iaload, 1) := by decide +kernel
theorem dX8_chord_71 : decode cX8_chord 71 = .ok (.ireturn, 1) := by decide +kernel
theorem dX8_chord_72 : decode cX8_chord 72 = .ok (.aload_n 0, 1) := by decide +kernel
theorem dX8_chord_73 : decode cX8_chord 73 = .ok (.getfield 46, 3) := by decide +kernel
theorem dX8_chord_76 : decode cX8_chord 76 = .ok (.aload_n 0, 1) := by decide +kernel
theorem dX8_chord_77 : decode cX8_chord 77 = .ok (.getfield 26, 3) := by decide +kernel
theorem dX8_chord_80 : decode cX8_chord 80 = .ok (.getfield 106, 3) := by decide +kernel
theorem dX8_chord_83 : decode cX8_chord 83 = .ok (.iload_n 1, 1) := by decide +kernel
theorem dX8_chord_84 : decode cX8_chord 84 = .ok (.iaload, 1) := by decide +kernel
theorem dX8_chord_85 : decode cX8_chord 85 = .ok (.aload_n 0, 1) := by decide +kernel
theorem dX8_chord_86 : decode cX8_chord 86 = .ok (.getfield 26, 3) := by decide +kernel
theorem dX8_chord_89 : decode cX8_chord 89 = .ok (.getfield 110, 3) := by decide +kernel
theorem dX8_chord_92 : decode cX8_chord 92 = .ok (.iload_n 1, 1) := by decide +kernel
theorem dX8_chord_93 : decode cX8_chord 93 = .ok (.iaload, 1) := by decide +kernel
theorem dX8_chord_94 : decode cX8_chord 94 = .ok (.invokevirtual 113, 3) := by decide +kernel
theorem dX8_chord_97 : decode cX8_chord 97 = .ok (.ireturn, 1) := by decide +kernel
theorem dX8_chord_98 : decode cX8_chord 98 = .ok (.aload_n 0, 1) := by decide +kernel
theorem dX8_chord_99 : decode cX8_chord 99 = .ok (.getfield 46, 3) := by decide +kernel
theorem dX8_chord_102 : decode cX8_chord 102 = .ok (.aload_n 0, 1) := by decide +kernel
theorem dX8_chord_103 : decode cX8_chord 103 = .ok (.getfield 26, 3) := by decide +kernel
theorem dX8_chord_106 : decode cX8_chord 106 = .ok (.getfield 106, 3) := by decide +kernel
theorem dX8_chord_109 : decode cX8_chord 109 = .ok (.iload_n 1, 1) := by decide +kernel
theorem dX8_chord_110 : decode cX8_chord 110 = .ok (.iaload, 1) := by decide +kernel
theorem dX8_chord_111 : decode cX8_chord 111 = .ok (.aload_n 0, 1) := by decide +kernel
theorem dX8_chord_112 : decode cX8_chord 112 = .ok (.getfield 26, 3) := by decide +kernel
theorem dX8_chord_115 : decode cX8_chord 115 = .ok (.getfield 110, 3) := by decide +kernel
theorem dX8_chord_118 : decode cX8_chord 118 = .ok (.iload_n 1, 1) := by decide +kernel
theorem dX8_chord_119 : decode cX8_chord 119 = .ok (.iaload, 1) := by decide +kernel
theorem dX8_chord_120 : decode cX8_chord 120 = .ok (.invokevirtual 117, 3) := by decide +kernel
theorem dX8_chord_123 : decode cX8_chord 123 = .ok (.ireturn, 1) := by decide +kernel
theorem dX8_chord_124 : decode cX8_chord 124 = .ok (.aload_n 0, 1) := by decide +kernel
theorem dX8_chord_125 : decode cX8_chord 125 = .ok (.getfield 36, 3) := by decide +kernel
theorem dX8_chord_128 : decode cX8_chord 128 = .ok (.iload_n 1, 1) := by decide +kernel
theorem dX8_chord_129 : decode cX8_chord 129 = .ok (.invokevirtual 120, 3) := by decide +kernel
theorem dX8_chord_132 : decode cX8_chord 132 = .ok (.ireturn, 1) := by decide +kernel
theorem dX8_chord_133 : decode cX8_chord 133 = .ok (.aload_n 0, 1) := by decide +kernel
theorem dX8_chord_134 : decode cX8_chord 134 = .ok (.getfield 36, 3) := by decide +kernel
theorem dX8_chord_137 : decode cX8_chord 137 = .ok (.iload_n 1, 1) := by decide +kernel
theorem dX8_chord_138 : decode cX8_chord 138 = .ok (.invokevirtual 124, 3) := by decide +kernel
theorem dX8_chord_141 : decode cX8_chord 141 = .ok (.ireturn, 1) := by decide +kernel
theorem dX8_chord_142 : decode cX8_chord 142 = .ok (.bipush (-102), 2) := by decide +kernel
theorem dX8_chord_144 : decode cX8_chord 144 = .ok (.ireturn, 1) := by decide +kernel
set_option maxRecDepth 20000 in
theorem ggX8_as_X2_has : GoodIn wsX8_as wsX2_has := goodIn_r _ [6, 7, 26, 27, 28, 29] (by decide +kernel) (by decide +kernel)
set_option maxRecDepth 20000 in
theorem gX8_as_X2_has : GoodIn wsX8_as (wsV RX8 103 RX2 yX2_has wsX2_has) := goodIn_app (goodIn_of _ (by decide +kernel)) ggX8_as_X2_has
set_option maxRecDepth 20000 in
theorem ggX8_as_X8_isKind : GoodIn wsX8_as wsX8_isKind := goodIn_r _ [11] (by decide +kernel) (by decide +kernel)
set_option maxRecDepth 20000 in
theorem gX8_as_X8_isKind : GoodIn wsX8_as (va_wsS RX8 127 yX8_isKind wsX8_isKind) := goodIn_app (goodIn_of _ (by decide +kernel)) ggX8_as_X8_isKind
set_option maxRecDepth 20000 in
theorem ggX8_as_X8_isHeld : GoodIn wsX8_as wsX8_isHeld := goodIn_r _ [14] (by decide +kernel) (by decide +kernel)
set_option maxRecDepth 20000 in
theorem gX8_as_X8_isHeld : GoodIn wsX8_as (va_wsS RX8 130 yX8_isHeld wsX8_isHeld) := goodIn_app (goodIn_of _ (by decide +kernel)) ggX8_as_X8_isHeld
theorem dX8_as_0 : decode cX8_as 0 = .ok (.aload_n 0, 1) := by decide +kernel
theorem dX8_as_1 : decode cX8_as 1 = .ok (.getfield 26, 3) := by decide +kernel
theorem dX8_as_4 : decode cX8_as 4 = .ok (.iload_n 1, 1) := by decide +kernel
theorem dX8_as_5 : decode cX8_as 5 = .ok (.invokevirtual 103, 3) := by decide +kernel
theorem dX8_as_8 : decode cX8_as 8 = .ok (.ifCond .ne 6, 3) := by decide +kernel
theorem dX8_as_11 : decode cX8_as 11 = .ok (.bipush (-101), 2) := by decide +kernel
theorem dX8_as_13 : decode cX8_as 13 = .ok (.ireturn, 1) := by decide +kernel
theorem dX8_as_14 : decode cX8_as 14 = .ok (.iload_n 2, 1) := by decide +kernel
theorem dX8_as_15 : decode cX8_as 15 = .ok (.invokestatic 127, 3) := by decide +kernel
theorem dX8_as_18 : decode cX8_as 18 = .ok (.ifCond .ne 6, 3) := by decide +kernel
theorem dX8_as_21 : decode cX8_as 21 = .ok (.bipush (-102), 2) := by decide +kernel
theorem dX8_as_23 : decode cX8_as 23 = .ok (.ireturn, 1) := by decide +kernel
theorem dX8_as_24 : decode cX8_as 24 = .ok (.aload_n 0, 1) := by decide +kernel
theorem dX8_as_25 : decode cX8_as 25 = .ok (.getfield 26, 3) := by decide +kernel
theorem dX8_as_28 : decode cX8_as 28 = .ok (.getfield 106, 3) := by decide +kernel
theorem dX8_as_31 : decode cX8_as 31 = .ok (.iload_n 1, 1) := by decide +kernel
theorem dX8_as_32 : decode cX8_as 32 = .ok (.iaload, 1) := by decide +kernel
theorem dX8_as_33 : decode cX8_as 33 = .ok (.istore_n 3, 1) := by decide +kernel
theorem dX8_as_34 : decode cX8_as 34 = .ok (.iload_n 2, 1) := by decide +kernel
theorem dX8_as_35 : decode cX8_as 35 = .ok (.ifCond .eq 20, 3) := by decide +kernel
theorem dX8_as_38 : decode cX8_as 38 = .ok (.iload_n 2, 1) := by decide +kernel
theorem dX8_as_39 : decode cX8_as 39 = .ok (.iload_n 3, 1) := by decide +kernel
theorem dX8_as_40 : decode cX8_as 40 = .ok (.if_icmp .eq 15, 3) := by decide +kernel
theorem dX8_as_43 : decode cX8_as 43 = .ok (.iload_n 2, 1) := by decide +kernel
theorem dX8_as_44 : decode cX8_as 44 = .ok (.iconst 2, 1) := by decide +kernel
theorem dX8_as_45 : decode cX8_as 45 = .ok (.if_icmp .ne 14, 3) := by decide +kernel
theorem dX8_as_48 : decode cX8_as 48 = .ok (.iload_n 3, 1) := by decide +kernel
theorem dX8_as_49 : decode cX8_as 49 = .ok (.invokestatic 130, 3) := by decide +kernel
theorem dX8_as_52 : decode cX8_as 52 = .ok (.ifCond .eq 7, 3) := by decide +kernel
theorem dX8_as_55 : decode cX8_as 55 = .ok (.iconst 1, 1) := by decide +kernel
theorem dX8_as_56 : decode cX8_as 56 = .ok (.goto 4, 3) := by decide +kernel
theorem dX8_as_59 : decode cX8_as 59 = .ok (.iconst 0, 1) := by decide +kernel
theorem dX8_as_60 : decode cX8_as 60 = .ok (.istore 4, 2) := by decide +kernel
theorem dX8_as_62 : decode cX8_as 62 = .ok (.iload 4, 2) := by decide +kernel
theorem dX8_as_64 : decode cX8_as 64 = .ok (.ifCond .eq 7, 3) := by decide +kernel
theorem dX8_as_67 : decode cX8_as 67 = .ok (.iload_n 1, 1) := by decide +kernel
theorem dX8_as_68 : decode cX8_as 68 = .ok (.goto 4, 3) := by decide +kernel
theorem dX8_as_71 : decode cX8_as 71 = .ok (.iconst (-1), 1) := by decide +kernel
theorem dX8_as_72 : decode cX8_as 72 = .ok (.ireturn, 1) := by decide +kernel
set_option maxRecDepth 20000 in
theorem ggX8_tone_X8_isPedal : GoodIn wsX8_tone wsX8_isPedal := goodIn_r _ [4] (by decide +kernel) (by decide +kernel)
set_option maxRecDepth 20000 in
theorem gX8_tone_X8_isPedal : GoodIn wsX8_tone (va_wsS RX8 133 yX8_isPedal wsX8_isPedal) := goodIn_app (goodIn_of _ (by decide +kernel)) ggX8_tone_X8_isPedal
set_option maxRecDepth 20000 in
theorem ggX8_tone_X8_isPosition : GoodIn wsX8_tone wsX8_isPosition := goodIn_r _ [7] (by decide +kernel) (by decide +kernel)
set_option maxRecDepth 20000 in
theorem gX8_tone_X8_isPosition : GoodIn wsX8_tone (va_wsS RX8 136 yX8_isPosition wsX8_isPosition) := goodIn_app (goodIn_of _ (by decide +kernel)) ggX8_tone_X8_isPosition
set_option maxRecDepth 20000 in
theorem ggX8_tone_X7_toneAt : GoodIn wsX8_tone wsX7_toneAt := goodIn_r _ [11, 12] (by decide +kernel) (by decide +kernel)
set_option maxRecDepth 20000 in
theorem gX8_tone_X7_toneAt : GoodIn wsX8_tone (va_wsS RX8 139 yX7_toneAt wsX7_toneAt) := goodIn_app (goodIn_of _ (by decide +kernel)) ggX8_tone_X7_toneAt
theorem dX8_tone_0 : decode cX8_tone 0 = .ok (.iload_n 1, 1) := by decide +kernel
theorem dX8_tone_1 : decode cX8_tone 1 = .ok (.invokestatic 133, 3) := by decide +kernel
theorem dX8_tone_4 : decode cX8_tone 4 = .ok (.ifCond .ne 6, 3) := by decide +kernel
theorem dX8_tone_7 : decode cX8_tone 7 = .ok (.bipush (-101), 2) := by decide +kernel
theorem dX8_tone_9 : decode cX8_tone 9 = .ok (.ireturn, 1) := by decide +kernel
theorem dX8_tone_10 : decode cX8_tone 10 = .ok (.iload_n 2, 1) := by decide +kernel
theorem dX8_tone_11 : decode cX8_tone 11 = .ok (.invokestatic 136, 3) := by decide +kernel
theorem dX8_tone_14 : decode cX8_tone 14 = .ok (.ifCond .eq 11, 3) := by decide +kernel
theorem dX8_tone_17 : decode cX8_tone 17 = .ok (.iload_n 1, 1) := by decide +kernel
theorem dX8_tone_18 : decode cX8_tone 18 = .ok (.iload_n 2, 1) := by decide +kernel
theorem dX8_tone_19 : decode cX8_tone 19 = .ok (.invokestatic 139, 3) := by decide +kernel
theorem dX8_tone_22 : decode cX8_tone 22 = .ok (.goto 5, 3) := by decide +kernel
theorem dX8_tone_25 : decode cX8_tone 25 = .ok (.bipush (-102), 2) := by decide +kernel
theorem dX8_tone_27 : decode cX8_tone 27 = .ok (.ireturn, 1) := by decide +kernel
set_option maxRecDepth 20000 in
theorem ggX8_press_X8_isPedal : GoodIn wsX8_press wsX8_isPedal := goodIn_r _ [6] (by decide +kernel) (by decide +kernel)
set_option maxRecDepth 20000 in
theorem gX8_press_X8_isPedal : GoodIn wsX8_press (va_wsS RX8 133 yX8_isPedal wsX8_isPedal) := goodIn_app (goodIn_of _ (by decide +kernel)) ggX8_press_X8_isPedal
set_option maxRecDepth 20000 in
theorem ggX8_press_X8_isPosition : GoodIn wsX8_press wsX8_isPosition := goodIn_r _ [9] (by decide +kernel) (by decide +kernel)
set_option maxRecDepth 20000 in
theorem gX8_press_X8_isPosition : GoodIn wsX8_press (va_wsS RX8 136 yX8_isPosition wsX8_isPosition) := goodIn_app (goodIn_of _ (by decide +kernel)) ggX8_press_X8_isPosition
set_option maxRecDepth 20000 in
theorem ggX8_press_X7_moved : GoodIn wsX8_press wsX7_moved := goodIn_r _ [13, 14, 15, 16, 12, 17] (by decide +kernel) (by decide +kernel)
set_option maxRecDepth 20000 in
theorem gX8_press_X7_moved : GoodIn wsX8_press (va_wsS RX8 145 yX7_moved wsX7_moved) := goodIn_app (goodIn_of _ (by decide +kernel)) ggX8_press_X7_moved
set_option maxRecDepth 20000 in
theorem ggX8_press_X3_makeStale : GoodIn wsX8_press wsX3_makeStale := goodIn_r _ [22, 23, 24, 43, 44, 45, 46, 47, 48, 49, 50, 51, 52, 53, 54] (by decide +kernel) (by decide +kernel)
set_option maxRecDepth 20000 in
theorem gX8_press_X3_makeStale : GoodIn wsX8_press (wsV RX8 93 RX3 yX3_makeStale wsX3_makeStale) := goodIn_app (goodIn_of _ (by decide +kernel)) ggX8_press_X3_makeStale
set_option maxRecDepth 20000 in
theorem ggX8_press_X7_numberOf : GoodIn wsX8_press wsX7_numberOf := goodIn_r _ [27, 15, 16, 12, 17] (by decide +kernel) (by decide +kernel)
set_option maxRecDepth 20000 in
theorem gX8_press_X7_numberOf : GoodIn wsX8_press (va_wsS RX8 149 yX7_numberOf wsX7_numberOf) := goodIn_app (goodIn_of _ (by decide +kernel)) ggX8_press_X7_numberOf
theorem dX8_press_0 : decode cX8_press 0 = .ok (.iload_n 1, 1) := by decide +kernel
theorem dX8_press_1 : decode cX8_press 1 = .ok (.invokestatic 133, 3) := by decide +kernel
theorem dX8_press_4 : decode cX8_press 4 = .ok (.ifCond .ne 6, 3) := by decide +kernel
theorem dX8_press_7 : decode cX8_press 7 = .ok (.bipush (-101), 2) := by decide +kernel
theorem dX8_press_9 : decode cX8_press 9 = .ok (.ireturn, 1) := by decide +kernel
theorem dX8_press_10 : decode cX8_press 10 = .ok (.iload_n 2, 1) := by decide +kernel
theorem dX8_press_11 : decode cX8_press 11 = .ok (.invokestatic 136, 3) := by decide +kernel
theorem dX8_press_14 : decode cX8_press 14 = .ok (.ifCond .ne 6, 3) := by decide +kernel
theorem dX8_press_17 : decode cX8_press 17 = .ok (.bipush (-102), 2) := by decide +kernel
theorem dX8_press_19 : decode cX8_press 19 = .ok (.ireturn, 1) := by decide +kernel
theorem dX8_press_20 : decode cX8_press 20 = .ok (.aload_n 0, 1) := by decide +kernel
theorem dX8_press_21 : decode cX8_press 21 = .ok (.getfield 26, 3) := by decide +kernel
theorem dX8_press_24 : decode cX8_press 24 = .ok (.getfield 102, 3) := by decide +kernel
theorem dX8_press_27 : decode cX8_press 27 = .ok (.ifCond .ne 6, 3) := by decide +kernel
theorem dX8_press_30 : decode cX8_press 30 = .ok (.bipush (-103), 2) := by decide +kernel
theorem dX8_press_32 : decode cX8_press 32 = .ok (.ireturn, 1) := by decide +kernel
theorem dX8_press_33 : decode cX8_press 33 = .ok (.aload_n 0, 1) := by decide +kernel
theorem dX8_press_34 : decode cX8_press 34 = .ok (.getfield 26, 3) := by decide +kernel
theorem dX8_press_37 : decode cX8_press 37 = .ok (.aload_n 0, 1) := by decide +kernel
theorem dX8_press_38 : decode cX8_press 38 = .ok (.getfield 26, 3) := by decide +kernel
theorem dX8_press_41 : decode cX8_press 41 = .ok (.getfield 142, 3) := by decide +kernel
theorem dX8_press_44 : decode cX8_press 44 = .ok (.iload_n 1, 1) := by decide +kernel
theorem dX8_press_45 : decode cX8_press 45 = .ok (.iload_n 2, 1) := by decide +kernel
theorem dX8_press_46 : decode cX8_press 46 = .ok (.invokestatic 145, 3) := by decide +kernel
theorem dX8_press_49 : decode cX8_press 49 = .ok (.putfield 142, 3) := by decide +kernel
theorem dX8_press_52 : decode cX8_press 52 = .ok (.aload_n 0, 1) := by decide +kernel
theorem dX8_press_53 : decode cX8_press 53 = .ok (.getfield 55, 3) := by decide +kernel
theorem dX8_press_56 : decode cX8_press 56 = .ok (.invokevirtual 93, 3) := by decide +kernel
theorem dX8_press_59 : decode cX8_press 59 = .ok (.aload_n 0, 1) := by decide +kernel
theorem dX8_press_60 : decode cX8_press 60 = .ok (.getfield 26, 3) := by decide +kernel
theorem dX8_press_63 : decode cX8_press 63 = .ok (.getfield 142, 3) := by decide +kernel
theorem dX8_press_66 : decode cX8_press 66 = .ok (.invokestatic 149, 3) := by decide +kernel
theorem dX8_press_69 : decode cX8_press 69 = .ok (.ireturn, 1) := by decide +kernel
set_option maxRecDepth 20000 in
theorem ggX8_put_X8_isKind : GoodIn wsX8_put wsX8_isKind := goodIn_r _ [6] (by decide +kernel) (by decide +kernel)
set_option maxRecDepth 20000 in
theorem gX8_put_X8_isKind : GoodIn wsX8_put (va_wsS RX8 127 yX8_isKind wsX8_isKind) := goodIn_app (goodIn_of _ (by decide +kernel)) ggX8_put_X8_isKind
set_option maxRecDepth 20000 in
theorem ggX8_put_X8_areTones : GoodIn wsX8_put wsX8_areTones := goodIn_r _ [9, 10, 11, 12, 13, 14, 15, 16] (by decide +kernel) (by decide +kernel)
set_option maxRecDepth 20000 in
theorem gX8_put_X8_areTones : GoodIn wsX8_put (va_wsS RX8 152 yX8_areTones wsX8_areTones) := goodIn_app (goodIn_of _ (by decide +kernel)) ggX8_put_X8_areTones
set_option maxRecDepth 20000 in
theorem ggX8_put_X2_insert : GoodIn wsX8_put wsX2_insert := goodIn_r _ [21, 22, 23, 24, 43, 44, 45, 46] (by decide +kernel) (by decide +kernel)
set_option maxRecDepth 20000 in
theorem gX8_put_X2_insert : GoodIn wsX8_put (wsV RX8 155 RX2 yX2_insert wsX2_insert) := goodIn_app (goodIn_of _ (by decide +kernel)) ggX8_put_X2_insert
set_option maxRecDepth 20000 in
theorem ggX8_put_X3_makeStale : GoodIn wsX8_put wsX3_makeStale := goodIn_r _ [29, 30, 31, 47, 48, 49, 50, 51, 52, 53, 54, 55, 56, 57, 58] (by decide +kernel) (by decide +kernel)
set_option maxRecDepth 20000 in
theorem gX8_put_X3_makeStale : GoodIn wsX8_put (wsV RX8 93 RX3 yX3_makeStale wsX3_makeStale) := goodIn_app (goodIn_of _ (by decide +kernel)) ggX8_put_X3_makeStale
theorem dX8_put_0 : decode cX8_put 0 = .ok (.iload_n 1, 1) := by decide +kernel
theorem dX8_put_1 : decode cX8_put 1 = .ok (.ifCond .lt 14, 3) := by decide +kernel
theorem dX8_put_4 : decode cX8_put 4 = .ok (.iload_n 1, 1) := by decide +kernel
theorem dX8_put_5 : decode cX8_put 5 = .ok (.aload_n 0, 1) := by decide +kernel
theorem dX8_put_6 : decode cX8_put 6 = .ok (.getfield 26, 3) := by decide +kernel
theorem dX8_put_9 : decode cX8_put 9 = .ok (.getfield 102, 3) := by decide +kernel
theorem dX8_put_12 : decode cX8_put 12 = .ok (.if_icmp .le 6, 3) := by decide +kernel
theorem dX8_put_15 : decode cX8_put 15 = .ok (.bipush (-101), 2) := by decide +kernel
theorem dX8_put_17 : decode cX8_put 17 = .ok (.ireturn, 1) := by decide +kernel
theorem dX8_put_18 : decode cX8_put 18 = .ok (.iload_n 2, 1) := by decide +kernel
theorem dX8_put_19 : decode cX8_put 19 = .ok (.invokestatic 127, 3) := by decide +kernel
theorem dX8_put_22 : decode cX8_put 22 = .ok (.ifCond .eq 10, 3) := by decide +kernel
theorem dX8_put_25 : decode cX8_put 25 = .ok (.iload_n 3, 1) := by decide +kernel
theorem dX8_put_26 : decode cX8_put 26 = .ok (.invokestatic 152, 3) := by decide +kernel
theorem dX8_put_29 : decode cX8_put 29 = .ok (.ifCond .ne 6, 3) := by decide +kernel
theorem dX8_put_32 : decode cX8_put 32 = .ok (.bipush (-102), 2) := by decide +kernel
theorem dX8_put_34 : decode cX8_put 34 = .ok (.ireturn, 1) := by decide +kernel
theorem dX8_put_35 : decode cX8_put 35 = .ok (.aload_n 0, 1) := by decide +kernel
theorem dX8_put_36 : decode cX8_put 36 = .ok (.getfield 26, 3) := by decide +kernel
theorem dX8_put_39 : decode cX8_put 39 = .ok (.getfield 102, 3) := by decide +kernel
theorem dX8_put_42 : decode cX8_put 42 = .ok (.ifCond .ne 6, 3) := by decide +kernel
theorem dX8_put_45 : decode cX8_put 45 = .ok (.bipush (-103), 2) := by decide +kernel
theorem dX8_put_47 : decode cX8_put 47 = .ok (.ireturn, 1) := by decide +kernel
theorem dX8_put_48 : decode cX8_put 48 = .ok (.aload_n 0, 1) := by decide +kernel
theorem dX8_put_49 : decode cX8_put 49 = .ok (.getfield 26, 3) := by decide +kernel
theorem dX8_put_52 : decode cX8_put 52 = .ok (.iload_n 1, 1) := by decide +kernel
theorem dX8_put_53 : decode cX8_put 53 = .ok (.iload_n 2, 1) := by decide +kernel
theorem dX8_put_54 : decode cX8_put 54 = .ok (.iload_n 3, 1) := by decide +kernel
theorem dX8_put_55 : decode cX8_put 55 = .ok (.invokevirtual 155, 3) := by decide +kernel
theorem dX8_put_58 : decode cX8_put 58 = .ok (.ifCond .ne 6, 3) := by decide +kernel
theorem dX8_put_61 : decode cX8_put 61 = .ok (.bipush (-104), 2) := by decide +kernel
theorem dX8_put_63 : decode cX8_put 63 = .ok (.ireturn, 1) := by decide +kernel
theorem dX8_put_64 : decode cX8_put 64 = .ok (.aload_n 0, 1) := by decide +kernel
theorem dX8_put_65 : decode cX8_put 65 = .ok (.getfield 55, 3) := by decide +kernel
theorem dX8_put_68 : decode cX8_put 68 = .ok (.invokevirtual 93, 3) := by decide +kernel
theorem dX8_put_71 : decode cX8_put 71 = .ok (.aload_n 0, 1) := by decide +kernel
theorem dX8_put_72 : decode cX8_put 72 = .ok (.getfield 26, 3) := by decide +kernel
theorem dX8_put_75 : decode cX8_put 75 = .ok (.getfield 102, 3) := by decide +kernel
theorem dX8_put_78 : decode cX8_put 78 = .ok (.ireturn, 1) := by decide +kernel
set_option maxRecDepth 20000 in
theorem ggX8_take_X2_has : GoodIn wsX8_take wsX2_has := goodIn_r _ [7, 8, 34, 35, 36, 37] (by decide +kernel) (by decide +kernel)
set_option maxRecDepth 20000 in
theorem gX8_take_X2_has : GoodIn wsX8_take (wsV RX8 103 RX2 yX2_has wsX2_has) := goodIn_app (goodIn_of _ (by decide +kernel)) ggX8_take_X2_has
set_option maxRecDepth 20000 in
theorem ggX8_take_X2_remove : GoodIn wsX8_take wsX2_remove := goodIn_r _ [12, 8, 13, 14, 15, 4, 5, 6, 7, 34, 35, 36, 37] (by decide +kernel) (by decide +kernel)
set_option maxRecDepth 20000 in
theorem gX8_take_X2_remove : GoodIn wsX8_take (wsV RX8 159 RX2 yX2_remove wsX2_remove) := goodIn_app (goodIn_of _ (by decide +kernel)) ggX8_take_X2_remove
set_option maxRecDepth 20000 in
theorem ggX8_take_X3_makeStale : GoodIn wsX8_take wsX3_makeStale := goodIn_r _ [20, 21, 22, 38, 39, 40, 41, 42, 43, 44, 45, 46, 47, 48, 49] (by decide +kernel) (by decide +kernel)
set_option maxRecDepth 20000 in
theorem gX8_take_X3_makeStale : GoodIn wsX8_take (wsV RX8 93 RX3 yX3_makeStale wsX3_makeStale) := goodIn_app (goodIn_of _ (by decide +kernel)) ggX8_take_X3_makeStale
theorem dX8_take_0 : decode cX8_take 0 = .ok (.aload_n 0, 1) := by decide +kernel
theorem dX8_take_1 : decode cX8_take 1 = .ok (.getfield 26, 3) := by decide +kernel
theorem dX8_take_4 : decode cX8_take 4 = .ok (.iload_n 1, 1) := by decide +kernel
theorem dX8_take_5 : decode cX8_take 5 = .ok (.invokevirtual 103, 3) := by decide +kernel
theorem dX8_take_8 : decode cX8_take 8 = .ok (.ifCond .ne 6, 3) := by decide +kernel
theorem dX8_take_11 : decode cX8_take 11 = .ok (.bipush (-101), 2) := by decide +kernel
theorem dX8_take_13 : decode cX8_take 13 = .ok (.ireturn, 1) := by decide +kernel
theorem dX8_take_14 : decode cX8_take 14 = .ok (.aload_n 0, 1) := by decide +kernel
theorem dX8_take_15 : decode cX8_take 15 = .ok (.getfield 26, 3) := by decide +kernel
theorem dX8_take_18 : decode cX8_take 18 = .ok (.getfield 102, 3) := by decide +kernel
theorem dX8_take_21 : decode cX8_take 21 = .ok (.iconst 1, 1) := by decide +kernel
theorem dX8_take_22 : decode cX8_take 22 = .ok (.if_icmp .ne 6, 3) := by decide +kernel
theorem dX8_take_25 : decode cX8_take 25 = .ok (.bipush (-103), 2) := by decide +kernel
theorem dX8_take_27 : decode cX8_take 27 = .ok (.ireturn, 1) := by decide +kernel
theorem dX8_take_28 : decode cX8_take 28 = .ok (.aload_n 0, 1) := by decide +kernel
theorem dX8_take_29 : decode cX8_take 29 = .ok (.getfield 26, 3) := by decide +kernel
theorem dX8_take_32 : decode cX8_take 32 = .ok (.iload_n 1, 1) := by decide +kernel
theorem dX8_take_33 : decode cX8_take 33 = .ok (.invokevirtual 159, 3) := by decide +kernel
theorem dX8_take_36 : decode cX8_take 36 = .ok (.aload_n 0, 1) := by decide +kernel
theorem dX8_take_37 : decode cX8_take 37 = .ok (.getfield 55, 3) := by decide +kernel
theorem dX8_take_40 : decode cX8_take 40 = .ok (.invokevirtual 93, 3) := by decide +kernel
theorem dX8_take_43 : decode cX8_take 43 = .ok (.aload_n 0, 1) := by decide +kernel
theorem dX8_take_44 : decode cX8_take 44 = .ok (.getfield 26, 3) := by decide +kernel
theorem dX8_take_47 : decode cX8_take 47 = .ok (.getfield 102, 3) := by decide +kernel
theorem dX8_take_50 : decode cX8_take 50 = .ok (.ireturn, 1) := by decide +kernel
set_option maxRecDepth 20000 in
theorem ggX8_swap_X2_has : GoodIn wsX8_swap wsX2_has := goodIn_r _ [7, 8, 119, 120, 121, 122] (by decide +kernel) (by decide +kernel)
set_option maxRecDepth 20000 in
theorem gX8_swap_X2_has : GoodIn wsX8_swap (wsV RX8 103 RX2 yX2_has wsX2_has) := goodIn_app (goodIn_of _ (by decide +kernel)) ggX8_swap_X2_has
set_option maxRecDepth 20000 in
theorem ggX8_swap_X2_exchange : GoodIn wsX8_swap wsX2_exchange := goodIn_r _ [12, 13, 14, 15, 4, 5, 6, 7, 8, 119, 120, 121, 122] (by decide +kernel) (by decide +kernel)
set_option maxRecDepth 20000 in
theorem gX8_swap_X2_exchange : GoodIn wsX8_swap (wsV RX8 163 RX2 yX2_exchange wsX2_exchange) := goodIn_app (goodIn_of _ (by decide +kernel)) ggX8_swap_X2_exchange
set_option maxRecDepth 20000 in
theorem ggX8_swap_X3_makeStale : GoodIn wsX8_swap wsX3_makeStale := goodIn_r _ [20, 21, 22, 123, 124, 125, 126, 127, 128, 129, 130, 131, 132, 133, 134] (by decide +kernel) (by decide +kernel)
set_option maxRecDepth 20000 in
theorem gX8_swap_X3_makeStale : GoodIn wsX8_swap (wsV RX8 93 RX3 yX3_makeStale wsX3_makeStale) := goodIn_app (goodIn_of _ (by decide +kernel)) ggX8_swap_X3_makeStale
set_option maxRecDepth 20000 in
theorem ggX8_swap_X3_fewest : GoodIn wsX8_swap wsX3_fewest := goodIn_r _ [26, 27, 28, 29, 30, 31, 19, 32, 21, 33, 34, 35, 36, 37, 38, 39, 40, 41, 42, 43, 44, 45, 46, 47, 48, 49, 50, 51, 52, 53, 54, 55, 56, 57, 58, 59, 60, 61, 62, 63, 64, 65, 66, 67, 68, 69, 70, 71, 72, 73, 74, 75, 76, 77, 78, 79, 80, 81, 82, 83, 84, 85, 86, 87, 88, 89, 90, 91, 92, 93, 94, 95, 96, 97, 98, 99, 100, 101, 102, 103, 104, 105, 106, 107, 123, 124, 125, 126, 127, 128, 129, 130, 131, 132, 133, 134, 119, 120, 121, 122, 135, 136, 137] (by decide +kernel) (by decide +kernel)
set_option maxRecDepth 20000 in
theorem gX8_swap_X3_fewest : GoodIn wsX8_swap (wsV RX8 167 RX3 yX3_fewest wsX3_fewest) := goodIn_app (goodIn_of _ (by decide +kernel)) ggX8_swap_X3_fewest
theorem dX8_swap_0 : decode cX8_swap 0 = .ok (.aload_n 0, 1) := by decide +kernel
theorem dX8_swap_1 : decode cX8_swap 1 = .ok (.getfield 26, 3) := by decide +kernel
theorem dX8_swap_4 : decode cX8_swap 4 = .ok (.iload_n 1, 1) := by decide +kernel
theorem dX8_swap_5 : decode cX8_swap 5 = .ok (.invokevirtual 103, 3) := by decide +kernel
theorem dX8_swap_8 : decode cX8_swap 8 = .ok (.ifCond .eq 19, 3) := by decide +kernel
theorem dX8_swap_11 : decode cX8_swap 11 = .ok (.aload_n 0, 1) := by decide +kernel
theorem dX8_swap_12 : decode cX8_swap 12 = .ok (.getfield 26, 3) := by decide +kernel
theorem dX8_swap_15 : decode cX8_swap 15 = .ok (.iload_n 2, 1) := by decide +kernel
theorem dX8_swap_16 : decode cX8_swap 16 = .ok (.invokevirtual 103, 3) := by decide +kernel
theorem dX8_swap_19 : decode cX8_swap 19 = .ok (.ifCond .eq 8, 3) := by decide +kernel
theorem dX8_swap_22 : decode cX8_swap 22 = .ok (.iload_n 1, 1) := by decide +kernel
theorem dX8_swap_23 : decode cX8_swap 23 = .ok (.iload_n 2, 1) := by decide +kernel
theorem dX8_swap_24 : decode cX8_swap 24 = .ok (.if_icmp .ne 6, 3) := by decide +kernel
theorem dX8_swap_27 : decode cX8_swap 27 = .ok (.bipush (-101), 2) := by decide +kernel
theorem dX8_swap_29 : decode cX8_swap 29 = .ok (.ireturn, 1) := by decide +kernel
theorem dX8_swap_30 : decode cX8_swap 30 = .ok (.aload_n 0, 1) := by decide +kernel
theorem dX8_swap_31 : decode cX8_swap 31 = .ok (.getfield 26, 3) := by decide +kernel
theorem dX8_swap_34 : decode cX8_swap 34 = .ok (.iload_n 1, 1) := by decide +kernel
theorem dX8_swap_35 : decode cX8_swap 35 = .ok (.iload_n 2, 1) := by decide +kernel
theorem dX8_swap_36 : decode cX8_swap 36 = .ok (.invokevirtual 163, 3) := by decide +kernel
theorem dX8_swap_39 : decode cX8_swap 39 = .ok (.aload_n 0, 1) := by decide +kernel
theorem dX8_swap_40 : decode cX8_swap 40 = .ok (.getfield 55, 3) := by decide +kernel
theorem dX8_swap_43 : decode cX8_swap 43 = .ok (.invokevirtual 93, 3) := by decide +kernel
theorem dX8_swap_46 : decode cX8_swap 46 = .ok (.aload_n 0, 1) := by decide +kernel
theorem dX8_swap_47 : decode cX8_swap 47 = .ok (.getfield 55, 3) := by decide +kernel
theorem dX8_swap_50 : decode cX8_swap 50 = .ok (.aload_n 0, 1) := by decide +kernel
theorem dX8_swap_51 : decode cX8_swap 51 = .ok (.getfield 26, 3) := by decide +kernel
theorem dX8_swap_54 : decode cX8_swap 54 = .ok (.iconst 0, 1) := by decide +kernel
theorem dX8_swap_55 : decode cX8_swap 55 = .ok (.invokevirtual 167, 3) := by decide +kernel
theorem dX8_swap_58 : decode cX8_swap 58 = .ok (.ireturn, 1) := by decide +kernel
set_option maxRecDepth 20000 in
theorem ggX8_change_X2_has : GoodIn wsX8_change wsX2_has := goodIn_r _ [7, 8, 31, 32, 33, 34] (by decide +kernel) (by decide +kernel)
set_option maxRecDepth 20000 in
theorem gX8_change_X2_has : GoodIn wsX8_change (wsV RX8 103 RX2 yX2_has wsX2_has) := goodIn_app (goodIn_of _ (by decide +kernel)) ggX8_change_X2_has
set_option maxRecDepth 20000 in
theorem ggX8_change_X8_isKind : GoodIn wsX8_change wsX8_isKind := goodIn_r _ [12] (by decide +kernel) (by decide +kernel)
set_option maxRecDepth 20000 in
theorem gX8_change_X8_isKind : GoodIn wsX8_change (va_wsS RX8 127 yX8_isKind wsX8_isKind) := goodIn_app (goodIn_of _ (by decide +kernel)) ggX8_change_X8_isKind
set_option maxRecDepth 20000 in
theorem ggX8_change_X3_makeStale : GoodIn wsX8_change wsX3_makeStale := goodIn_r _ [17, 18, 19, 35, 36, 37, 38, 39, 40, 41, 42, 43, 44, 45, 46] (by decide +kernel) (by decide +kernel)
set_option maxRecDepth 20000 in
theorem gX8_change_X3_makeStale : GoodIn wsX8_change (wsV RX8 93 RX3 yX3_makeStale wsX3_makeStale) := goodIn_app (goodIn_of _ (by decide +kernel)) ggX8_change_X3_makeStale
theorem dX8_change_0 : decode cX8_change 0 = .ok (.aload_n 0, 1) := by decide +kernel
theorem dX8_change_1 : decode cX8_change 1 = .ok (.getfield 26, 3) := by decide +kernel
theorem dX8_change_4 : decode cX8_change 4 = .ok (.iload_n 1, 1) := by decide +kernel
theorem dX8_change_5 : decode cX8_change 5 = .ok (.invokevirtual 103, 3) := by decide +kernel
theorem dX8_change_8 : decode cX8_change 8 = .ok (.ifCond .ne 6, 3) := by decide +kernel
theorem dX8_change_11 : decode cX8_change 11 = .ok (.bipush (-101), 2) := by decide +kernel
theorem dX8_change_13 : decode cX8_change 13 = .ok (.ireturn, 1) := by decide +kernel
theorem dX8_change_14 : decode cX8_change 14 = .ok (.iload_n 2, 1) := by decide +kernel
theorem dX8_change_15 : decode cX8_change 15 = .ok (.invokestatic 127, 3) := by decide +kernel
theorem dX8_change_18 : decode cX8_change 18 = .ok (.ifCond .ne 6, 3) := by decide +kernel
theorem dX8_change_21 : decode cX8_change 21 = .ok (.bipush (-102), 2) := by decide +kernel
theorem dX8_change_23 : decode cX8_change 23 = .ok (.ireturn, 1) := by decide +kernel
theorem dX8_change_24 : decode cX8_change 24 = .ok (.aload_n 0, 1) := by decide +kernel
theorem dX8_change_25 : decode cX8_change 25 = .ok (.getfield 26, 3) := by decide +kernel
theorem dX8_change_28 : decode cX8_change 28 = .ok (.getfield 106, 3) := by decide +kernel
theorem dX8_change_31 : decode cX8_change 31 = .ok (.iload_n 1, 1) := by decide +kernel
theorem dX8_change_32 : decode cX8_change 32 = .ok (.iaload, 1) := by decide +kernel
theorem dX8_change_33 : decode cX8_change 33 = .ok (.istore_n 3, 1) := by decide +kernel
theorem dX8_change_34 : decode cX8_change 34 = .ok (.aload_n 0, 1) := by decide +kernel
theorem dX8_change_35 : decode cX8_change 35 = .ok (.getfield 26, 3) := by decide +kernel
theorem dX8_change_38 : decode cX8_change 38 = .ok (.getfield 106, 3) := by decide +kernel
theorem dX8_change_41 : decode cX8_change 41 = .ok (.iload_n 1, 1) := by decide +kernel
theorem dX8_change_42 : decode cX8_change 42 = .ok (.iload_n 2, 1) := by decide +kernel
theorem dX8_change_43 : decode cX8_change 43 = .ok (.iastore, 1) := by decide +kernel
theorem dX8_change_44 : decode cX8_change 44 = .ok (.aload_n 0, 1) := by decide +kernel
theorem dX8_change_45 : decode cX8_change 45 = .ok (.getfield 55, 3) := by decide +kernel
theorem dX8_change_48 : decode cX8_change 48 = .ok (.invokevirtual 93, 3) := by decide +kernel
theorem dX8_change_51 : decode cX8_change 51 = .ok (.iload_n 3, 1) := by decide +kernel
theorem dX8_change_52 : decode cX8_change 52 = .ok (.ireturn, 1) := by decide +kernel
set_option maxRecDepth 20000 in
theorem ggX8_shift_X8_isShift : GoodIn wsX8_shift wsX8_isShift := goodIn_r _ [6] (by decide +kernel) (by decide +kernel)
set_option maxRecDepth 20000 in
theorem gX8_shift_X8_isShift : GoodIn wsX8_shift (va_wsS RX8 171 yX8_isShift wsX8_isShift) := goodIn_app (goodIn_of _ (by decide +kernel)) ggX8_shift_X8_isShift
set_option maxRecDepth 20000 in
theorem ggX8_shift_X2_raise : GoodIn wsX8_shift wsX2_raise := goodIn_r _ [11, 12, 13, 14, 5, 15, 116, 117, 118, 119] (by decide +kernel) (by decide +kernel)
set_option maxRecDepth 20000 in
theorem gX8_shift_X2_raise : GoodIn wsX8_shift (wsV RX8 174 RX2 yX2_raise wsX2_raise) := goodIn_app (goodIn_of _ (by decide +kernel)) ggX8_shift_X2_raise
set_option maxRecDepth 20000 in
theorem ggX8_shift_X3_makeStale : GoodIn wsX8_shift wsX3_makeStale := goodIn_r _ [20, 21, 22, 120, 121, 122, 123, 124, 125, 126, 127, 128, 129, 130, 131] (by decide +kernel) (by decide +kernel)
set_option maxRecDepth 20000 in
theorem gX8_shift_X3_makeStale : GoodIn wsX8_shift (wsV RX8 93 RX3 yX3_makeStale wsX3_makeStale) := goodIn_app (goodIn_of _ (by decide +kernel)) ggX8_shift_X3_makeStale
set_option maxRecDepth 20000 in
theorem ggX8_shift_X3_fewest : GoodIn wsX8_shift wsX3_fewest := goodIn_r _ [26, 27, 28, 29, 30, 31, 19, 32, 21, 33, 34, 35, 36, 37, 38, 39, 40, 41, 42, 43, 44, 45, 46, 47, 48, 49, 5, 50, 14, 15, 51, 52, 53, 54, 55, 56, 57, 58, 59, 60, 61, 62, 63, 64, 65, 66, 67, 68, 69, 70, 71, 72, 73, 74, 75, 76, 77, 78, 79, 80, 81, 82, 83, 84, 85, 86, 87, 88, 89, 90, 91, 92, 93, 94, 95, 96, 97, 98, 99, 100, 101, 102, 103, 104, 120, 121, 122, 123, 124, 125, 126, 127, 128, 129, 130, 131, 116, 117, 118, 119, 132, 133, 134] (by decide +kernel) (by decide +kernel)
set_option maxRecDepth 20000 in
theorem gX8_shift_X3_fewest : GoodIn wsX8_shift (wsV RX8 167 RX3 yX3_fewest wsX3_fewest) := goodIn_app (goodIn_of _ (by decide +kernel)) ggX8_shift_X3_fewest
theorem dX8_shift_0 : decode cX8_shift 0 = .ok (.iload_n 1, 1) := by decide +kernel
theorem dX8_shift_1 : decode cX8_shift 1 = .ok (.invokestatic 171, 3) := by decide +kernel
theorem dX8_shift_4 : decode cX8_shift 4 = .ok (.ifCond .ne 6, 3) := by decide +kernel
theorem dX8_shift_7 : decode cX8_shift 7 = .ok (.bipush (-102), 2) := by decide +kernel
theorem dX8_shift_9 : decode cX8_shift 9 = .ok (.ireturn, 1) := by decide +kernel
theorem dX8_shift_10 : decode cX8_shift 10 = .ok (.aload_n 0, 1) := by decide +kernel
theorem dX8_shift_11 : decode cX8_shift 11 = .ok (.getfield 26, 3) := by decide +kernel
theorem dX8_shift_14 : decode cX8_shift 14 = .ok (.getfield 102, 3) := by decide +kernel
theorem dX8_shift_17 : decode cX8_shift 17 = .ok (.ifCond .ne 6, 3) := by decide +kernel
theorem dX8_shift_20 : decode cX8_shift 20 = .ok (.bipush (-103), 2) := by decide +kernel
theorem dX8_shift_22 : decode cX8_shift 22 = .ok (.ireturn, 1) := by decide +kernel
theorem dX8_shift_23 : decode cX8_shift 23 = .ok (.aload_n 0, 1) := by decide +kernel
theorem dX8_shift_24 : decode cX8_shift 24 = .ok (.getfield 26, 3) := by decide +kernel
theorem dX8_shift_27 : decode cX8_shift 27 = .ok (.iload_n 1, 1) := by decide +kernel
theorem dX8_shift_28 : decode cX8_shift 28 = .ok (.invokevirtual 174, 3) := by decide +kernel
theorem dX8_shift_31 : decode cX8_shift 31 = .ok (.aload_n 0, 1) := by decide +kernel
theorem dX8_shift_32 : decode cX8_shift 32 = .ok (.getfield 55, 3) := by decide +kernel
theorem dX8_shift_35 : decode cX8_shift 35 = .ok (.invokevirtual 93, 3) := by decide +kernel
theorem dX8_shift_38 : decode cX8_shift 38 = .ok (.aload_n 0, 1) := by decide +kernel
theorem dX8_shift_39 : decode cX8_shift 39 = .ok (.getfield 55, 3) := by decide +kernel
theorem dX8_shift_42 : decode cX8_shift 42 = .ok (.aload_n 0, 1) := by decide +kernel
theorem dX8_shift_43 : decode cX8_shift 43 = .ok (.getfield 26, 3) := by decide +kernel
theorem dX8_shift_46 : decode cX8_shift 46 = .ok (.iconst 0, 1) := by decide +kernel
theorem dX8_shift_47 : decode cX8_shift 47 = .ok (.invokevirtual 167, 3) := by decide +kernel
theorem dX8_shift_50 : decode cX8_shift 50 = .ok (.ireturn, 1) := by decide +kernel
set_option maxRecDepth 20000 in
theorem ggX8_plan_X3_fewest : GoodIn wsX8_plan wsX3_fewest := goodIn_r _ [7, 8, 9, 10, 11, 12, 6, 13, 14, 15, 16, 17, 18, 19, 20, 21, 22, 23, 24, 25, 26, 27, 28, 29, 30, 31, 32, 33, 34, 35, 36, 37, 38, 39, 40, 41, 42, 43, 44, 45, 46, 47, 48, 49, 50, 51, 52, 53, 54, 55, 56, 57, 58, 59, 60, 61, 62, 63, 64, 65, 66, 67, 68, 69, 70, 71, 72, 73, 74, 75, 76, 77, 78, 79, 80, 81, 82, 83, 84, 85, 86, 87, 88, 89, 113, 114, 115, 116, 117, 118, 119, 120, 121, 122, 123, 124, 109, 110, 111, 112, 125, 126, 127] (by decide +kernel) (by decide +kernel)
set_option maxRecDepth 20000 in
theorem gX8_plan_X3_fewest : GoodIn wsX8_plan (wsV RX8 167 RX3 yX3_fewest wsX3_fewest) := goodIn_app (goodIn_of _ (by decide +kernel)) ggX8_plan_X3_fewest
set_option maxRecDepth 20000 in
theorem ggX8_plan_X3_ways : GoodIn wsX8_plan wsX3_ways := goodIn_r _ [93, 8, 9, 72, 10, 11, 12, 6, 13, 14, 15, 16, 17, 18, 19, 20, 21, 22, 23, 24, 25, 26, 27, 28, 29, 30, 31, 32, 33, 34, 35, 36, 37, 38, 39, 40, 41, 42, 43, 44, 45, 46, 47, 48, 49, 50, 51, 52, 53, 54, 55, 56, 57, 58, 59, 60, 61, 62, 63, 64, 65, 66, 67, 68, 69, 70, 71, 73, 74, 75, 76, 77, 78, 79, 80, 81, 82, 83, 84, 85, 86, 87, 88, 89, 113, 114, 115, 116, 117, 118, 119, 120, 121, 122, 123, 124, 109, 110, 111, 112, 125, 126, 127] (by decide +kernel) (by decide +kernel)
set_option maxRecDepth 20000 in
theorem gX8_plan_X3_ways : GoodIn wsX8_plan (wsV RX8 177 RX3 yX3_ways wsX3_ways) := goodIn_app (goodIn_of _ (by decide +kernel)) ggX8_plan_X3_ways
set_option maxRecDepth 20000 in
theorem ggX8_plan_X3_stuckAt : GoodIn wsX8_plan wsX3_stuckAt := goodIn_r _ [97, 17, 10, 11, 12, 6, 13, 14, 15, 16, 9, 8, 18, 19, 20, 21, 22, 23, 24, 25, 26, 27, 28, 29, 30, 31, 32, 33, 34, 35, 36, 37, 38, 39, 40, 41, 42, 43, 44, 45, 46, 47, 48, 49, 50, 51, 52, 53, 54, 55, 56, 57, 58, 59, 60, 61, 62, 63, 64, 65, 66, 67, 68, 69, 70, 71, 72, 73, 74, 75, 76, 77, 78, 79, 80, 81, 82, 83, 84, 85, 86, 87, 88, 89, 109, 110, 111, 112, 113, 114, 115, 116, 117, 118, 119, 120, 121, 122, 123, 124, 125, 126, 127] (by decide +kernel) (by decide +kernel)
set_option maxRecDepth 20000 in
theorem gX8_plan_X3_stuckAt : GoodIn wsX8_plan (wsV RX8 181 RX3 yX3_stuckAt wsX3_stuckAt) := goodIn_app (goodIn_of _ (by decide +kernel)) ggX8_plan_X3_stuckAt
theorem dX8_plan_0 : decode cX8_plan 0 = .ok (.iload_n 1, 1) := by decide +kernel
theorem dX8_plan_1 : decode cX8_plan 1 = .ok (.ifCond .lt 8, 3) := by decide +kernel
theorem dX8_plan_4 : decode cX8_plan 4 = .ok (.iload_n 1, 1) := by decide +kernel
theorem dX8_plan_5 : decode cX8_plan 5 = .ok (.iconst 3, 1) := by decide +kernel
theorem dX8_plan_6 : decode cX8_plan 6 = .ok (.if_icmp .lt 6, 3) := by decide +kernel
theorem dX8_plan_9 : decode cX8_plan 9 = .ok (.bipush (-102), 2) := by decide +kernel
theorem dX8_plan_11 : decode cX8_plan 11 = .ok (.ireturn, 1) := by decide +kernel
theorem dX8_plan_12 : decode cX8_plan 12 = .ok (.aload_n 0, 1) := by decide +kernel
theorem dX8_plan_13 : decode cX8_plan 13 = .ok (.getfield 26, 3) := by decide +kernel
theorem dX8_plan_16 : decode cX8_plan 16 = .ok (.getfield 102, 3) := by decide +kernel
theorem dX8_plan_19 : decode cX8_plan 19 = .ok (.ifCond .ne 6, 3) := by decide +kernel
theorem dX8_plan_22 : decode cX8_plan 22 = .ok (.bipush (-103), 2) := by decide +kernel
theorem dX8_plan_24 : decode cX8_plan 24 = .ok (.ireturn, 1) := by decide +kernel
theorem dX8_plan_25 : decode cX8_plan 25 = .ok (.iload_n 1, 1) := by decide +kernel
theorem dX8_plan_26 : decode cX8_plan 26 = .ok (.lookupswitch 51 #[(0, 26), (1, 39)], 26) := by decide +kernel
theorem dX8_plan_52 : decode cX8_plan 52 = .ok (.aload_n 0, 1) := by decide +kernel
theorem dX8_plan_53 : decode cX8_plan 53 = .ok (.getfield 55, 3) := by decide +kernel
theorem dX8_plan_56 : decode cX8_plan 56 = .ok (.aload_n 0, 1) := by decide +kernel
theorem dX8_plan_57 : decode cX8_plan 57 = .ok (.getfield 26, 3) := by decide +kernel
theorem dX8_plan_60 : decode cX8_plan 60 = .ok (.iconst 0, 1) := by decide +kernel
theorem dX8_plan_61 : decode cX8_plan 61 = .ok (.invokevirtual 167, 3) := by decide +kernel
theorem dX8_plan_64 : decode cX8_plan 64 = .ok (.ireturn, 1) := by decide +kernel
theorem dX8_plan_65 : decode cX8_plan 65 = .ok (.aload_n 0, 1) := by decide +kernel
theorem dX8_plan_66 : decode cX8_plan 66 = .ok (.getfield 55, 3) := by decide +kernel
theorem dX8_plan_69 : decode cX8_plan 69 = .ok (.aload_n 0, 1) := by decide +kernel
theorem dX8_plan_70 : decode cX8_plan 70 = .ok (.getfield 26, 3) := by decide +kernel
theorem dX8_plan_73 : decode cX8_plan 73 = .ok (.invokevirtual 177, 3) := by decide +kernel
theorem dX8_plan_76 : decode cX8_plan 76 = .ok (.ireturn, 1) := by decide +kernel
theorem dX8_plan_77 : decode cX8_plan 77 = .ok (.aload_n 0, 1) := by decide +kernel
theorem dX8_plan_78 : decode cX8_plan 78 = .ok (.getfield 55, 3) := by decide +kernel
theorem dX8_plan_81 : decode cX8_plan 81 = .ok (.aload_n 0, 1) := by decide +kernel
theorem dX8_plan_82 : decode cX8_plan 82 = .ok (.getfield 26, 3) := by decide +kernel
theorem dX8_plan_85 : decode cX8_plan 85 = .ok (.invokevirtual 181, 3) := by decide +kernel
theorem dX8_plan_88 : decode cX8_plan 88 = .ok (.ireturn, 1) := by decide +kernel
set_option maxRecDepth 20000 in
theorem ggX8_setting_X2_has : GoodIn wsX8_setting wsX2_has := goodIn_r _ [7, 8, 119, 120, 121, 122] (by decide +kernel) (by decide +kernel)
set_option maxRecDepth 20000 in
theorem gX8_setting_X2_has : GoodIn wsX8_setting (wsV RX8 103 RX2 yX2_has wsX2_has) := goodIn_app (goodIn_of _ (by decide +kernel)) ggX8_setting_X2_has
set_option maxRecDepth 20000 in
theorem ggX8_setting_X3_bestSetting : GoodIn wsX8_setting wsX3_bestSetting := goodIn_r _ [13, 14, 15, 16, 17, 12, 18, 19, 20, 21, 22, 23, 24, 25, 26, 27, 28, 29, 30, 31, 32, 33, 34, 35, 36, 37, 38, 39, 40, 41, 42, 43, 44, 45, 46, 47, 48, 49, 50, 51, 52, 53, 54, 55, 56, 57, 58, 59, 60, 61, 62, 63, 64, 65, 66, 67, 68, 69, 70, 71, 72, 73, 74, 75, 76, 77, 78, 79, 80, 81, 82, 83, 84, 85, 86, 87, 88, 89, 90, 91, 92, 93, 94, 95, 96, 97, 98, 99, 100, 101, 102, 103, 4, 5, 6, 7, 8, 104, 105, 106, 107, 123, 124, 125, 126, 127, 128, 129, 130, 131, 132, 133, 134, 119, 120, 121, 122, 135, 136, 137] (by decide +kernel) (by decide +kernel)
set_option maxRecDepth 20000 in
theorem gX8_setting_X3_bestSetting : GoodIn wsX8_setting (wsV RX8 184 RX3 yX3_bestSetting wsX3_bestSetting) := goodIn_app (goodIn_of _ (by decide +kernel)) ggX8_setting_X3_bestSetting
theorem dX8_setting_0 : decode cX8_setting 0 = .ok (.aload_n 0, 1) := by decide +kernel
theorem dX8_setting_1 : decode cX8_setting 1 = .ok (.getfield 26, 3) := by decide +kernel
theorem dX8_setting_4 : decode cX8_setting 4 = .ok (.iload_n 1, 1) := by decide +kernel
theorem dX8_setting_5 : decode cX8_setting 5 = .ok (.invokevirtual 103, 3) := by decide +kernel
theorem dX8_setting_8 : decode cX8_setting 8 = .ok (.ifCond .eq 18, 3) := by decide +kernel
theorem dX8_setting_11 : decode cX8_setting 11 = .ok (.aload_n 0, 1) := by decide +kernel
theorem dX8_setting_12 : decode cX8_setting 12 = .ok (.getfield 55, 3) := by decide +kernel
theorem dX8_setting_15 : decode cX8_setting 15 = .ok (.aload_n 0, 1) := by decide +kernel
theorem dX8_setting_16 : decode cX8_setting 16 = .ok (.getfield 26, 3) := by decide +kernel
theorem dX8_setting_19 : decode cX8_setting 19 = .ok (.iload_n 1, 1) := by decide +kernel
theorem dX8_setting_20 : decode cX8_setting 20 = .ok (.invokevirtual 184, 3) := by decide +kernel
theorem dX8_setting_23 : decode cX8_setting 23 = .ok (.goto 5, 3) := by decide +kernel
theorem dX8_setting_26 : decode cX8_setting 26 = .ok (.bipush (-101), 2) := by decide +kernel
theorem dX8_setting_28 : decode cX8_setting 28 = .ok (.ireturn, 1) := by decide +kernel
set_option maxRecDepth 20000 in
theorem ggX8_reach_X2_has : GoodIn wsX8_reach wsX2_has := goodIn_r _ [7, 8, 108, 109, 110, 111] (by decide +kernel) (by decide +kernel)
set_option maxRecDepth 20000 in
theorem gX8_reach_X2_has : GoodIn wsX8_reach (wsV RX8 103 RX2 yX2_has wsX2_has) := goodIn_app (goodIn_of _ (by decide +kernel)) ggX8_reach_X2_has
set_option maxRecDepth 20000 in
theorem ggX8_reach_X3_howManyReached : GoodIn wsX8_reach wsX3_howManyReached := goodIn_r _ [13, 14, 15, 16, 17, 12, 18, 19, 20, 21, 22, 23, 24, 25, 26, 27, 28, 29, 30, 31, 32, 33, 34, 35, 36, 37, 38, 39, 40, 41, 42, 43, 44, 45, 46, 47, 48, 49, 50, 51, 52, 53, 54, 55, 56, 57, 58, 59, 60, 61, 62, 63, 64, 65, 66, 67, 68, 69, 70, 71, 72, 73, 74, 75, 76, 77, 78, 79, 80, 81, 82, 83, 84, 85, 86, 87, 88, 89, 90, 91, 92, 93, 94, 95, 96, 4, 5, 6, 7, 8, 112, 113, 114, 115, 116, 117, 118, 119, 120, 121, 122, 123, 108, 109, 110, 111, 124, 125, 126] (by decide +kernel) (by decide +kernel)
set_option maxRecDepth 20000 in
theorem gX8_reach_X3_howManyReached : GoodIn wsX8_reach (wsV RX8 187 RX3 yX3_howManyReached wsX3_howManyReached) := goodIn_app (goodIn_of _ (by decide +kernel)) ggX8_reach_X3_howManyReached
theorem dX8_reach_0 : decode cX8_reach 0 = .ok (.aload_n 0, 1) := by decide +kernel
theorem dX8_reach_1 : decode cX8_reach 1 = .ok (.getfield 26, 3) := by decide +kernel
theorem dX8_reach_4 : decode cX8_reach 4 = .ok (.iload_n 1, 1) := by decide +kernel
theorem dX8_reach_5 : decode cX8_reach 5 = .ok (.invokevirtual 103, 3) := by decide +kernel
theorem dX8_reach_8 : decode cX8_reach 8 = .ok (.ifCond .eq 18, 3) := by decide +kernel
theorem dX8_reach_11 : decode cX8_reach 11 = .ok (.aload_n 0, 1) := by decide +kernel
theorem dX8_reach_12 : decode cX8_reach 12 = .ok (.getfield 55, 3) := by decide +kernel
theorem dX8_reach_15 : decode cX8_reach 15 = .ok (.aload_n 0, 1) := by decide +kernel
theorem dX8_reach_16 : decode cX8_reach 16 = .ok (.getfield 26, 3) := by decide +kernel
theorem dX8_reach_19 : decode cX8_reach 19 = .ok (.iload_n 1, 1) := by decide +kernel
theorem dX8_reach_20 : decode cX8_reach 20 = .ok (.invokevirtual 187, 3) := by decide +kernel
theorem dX8_reach_23 : decode cX8_reach 23 = .ok (.goto 5, 3) := by decide +kernel
theorem dX8_reach_26 : decode cX8_reach 26 = .ok (.bipush (-101), 2) := by decide +kernel
theorem dX8_reach_28 : decode cX8_reach 28 = .ok (.ireturn, 1) := by decide +kernel
set_option maxRecDepth 20000 in
theorem ggX8_shifted_X8_isShift : GoodIn wsX8_shifted wsX8_isShift := goodIn_r _ [6] (by decide +kernel) (by decide +kernel)
set_option maxRecDepth 20000 in
theorem gX8_shifted_X8_isShift : GoodIn wsX8_shifted (va_wsS RX8 171 yX8_isShift wsX8_isShift) := goodIn_app (goodIn_of _ (by decide +kernel)) ggX8_shifted_X8_isShift
set_option maxRecDepth 20000 in
theorem ggX8_shifted_X3_fewest : GoodIn wsX8_shifted wsX3_fewest := goodIn_r _ [11, 12, 13, 14, 15, 16, 10, 17, 18, 19, 20, 21, 22, 23, 24, 25, 26, 27, 28, 29, 30, 31, 32, 33, 34, 35, 5, 36, 37, 38, 39, 40, 41, 42, 43, 44, 45, 46, 47, 48, 49, 50, 51, 52, 53, 54, 55, 56, 57, 58, 59, 60, 61, 62, 63, 64, 65, 66, 67, 68, 69, 70, 71, 72, 73, 74, 75, 76, 77, 78, 79, 80, 81, 82, 83, 84, 85, 86, 87, 88, 89, 90, 91, 92, 108, 109, 110, 111, 112, 113, 114, 115, 116, 117, 118, 119, 104, 105, 106, 107, 120, 121, 122] (by decide +kernel) (by decide +kernel)
set_option maxRecDepth 20000 in
theorem gX8_shifted_X3_fewest : GoodIn wsX8_shifted (wsV RX8 167 RX3 yX3_fewest wsX3_fewest) := goodIn_app (goodIn_of _ (by decide +kernel)) ggX8_shifted_X3_fewest
theorem dX8_shifted_0 : decode cX8_shifted 0 = .ok (.iload_n 1, 1) := by decide +kernel
theorem dX8_shifted_1 : decode cX8_shifted 1 = .ok (.invokestatic 171, 3) := by decide +kernel
theorem dX8_shifted_4 : decode cX8_shifted 4 = .ok (.ifCond .ne 6, 3) := by decide +kernel
theorem dX8_shifted_7 : decode cX8_shifted 7 = .ok (.bipush (-102), 2) := by decide +kernel
theorem dX8_shifted_9 : decode cX8_shifted 9 = .ok (.ireturn, 1) := by decide +kernel
theorem dX8_shifted_10 : decode cX8_shifted 10 = .ok (.aload_n 0, 1) := by decide +kernel
theorem dX8_shifted_11 : decode cX8_shifted 11 = .ok (.getfield 26, 3) := by decide +kernel
theorem dX8_shifted_14 : decode cX8_shifted 14 = .ok (.getfield 102, 3) := by decide +kernel
theorem dX8_shifted_17 : decode cX8_shifted 17 = .ok (.ifCond .ne 8, 3) := by decide +kernel
theorem dX8_shifted_20 : decode cX8_shifted 20 = .ok (.bipush (-103), 2) := by decide +kernel
theorem dX8_shifted_22 : decode cX8_shifted 22 = .ok (.goto 15, 3) := by decide +kernel
theorem dX8_shifted_25 : decode cX8_shifted 25 = .ok (.aload_n 0, 1) := by decide +kernel
theorem dX8_shifted_26 : decode cX8_shifted 26 = .ok (.getfield 55, 3) := by decide +kernel
theorem dX8_shifted_29 : decode cX8_shifted 29 = .ok (.aload_n 0, 1) := by decide +kernel
theorem dX8_shifted_30 : decode cX8_shifted 30 = .ok (.getfield 26, 3) := by decide +kernel
theorem dX8_shifted_33 : decode cX8_shifted 33 = .ok (.iload_n 1, 1) := by decide +kernel
theorem dX8_shifted_34 : decode cX8_shifted 34 = .ok (.invokevirtual 167, 3) := by decide +kernel
theorem dX8_shifted_37 : decode cX8_shifted 37 = .ok (.ireturn, 1) := by decide +kernel
set_option maxRecDepth 20000 in
theorem ggX8_leastShift_X3_fewest : GoodIn wsX8_leastShift wsX3_fewest := goodIn_r _ [9, 10, 11, 12, 13, 14, 8, 15, 16, 17, 18, 19, 20, 21, 22, 23, 24, 25, 26, 27, 28, 29, 30, 31, 32, 33, 34, 35, 36, 37, 38, 39, 40, 41, 42, 43, 44, 45, 46, 47, 48, 49, 50, 51, 52, 53, 54, 55, 56, 57, 58, 59, 60, 61, 62, 63, 64, 65, 66, 67, 68, 69, 70, 71, 72, 73, 74, 75, 76, 77, 78, 79, 80, 81, 82, 83, 84, 85, 86, 87, 88, 89, 90, 91, 107, 108, 109, 110, 111, 112, 113, 114, 115, 116, 117, 118, 103, 104, 105, 106, 119, 120, 121] (by decide +kernel) (by decide +kernel)
set_option maxRecDepth 20000 in
theorem gX8_leastShift_X3_fewest : GoodIn wsX8_leastShift (wsV RX8 167 RX3 yX3_fewest wsX3_fewest) := goodIn_app (goodIn_of _ (by decide +kernel)) ggX8_leastShift_X3_fewest
theorem dX8_leastShift_0 : decode cX8_leastShift 0 = .ok (.aload_n 0, 1) := by decide +kernel
theorem dX8_leastShift_1 : decode cX8_leastShift 1 = .ok (.getfield 26, 3) := by decide +kernel
theorem dX8_leastShift_4 : decode cX8_leastShift 4 = .ok (.getfield 102, 3) := by decide +kernel
theorem dX8_leastShift_7 : decode cX8_leastShift 7 = .ok (.ifCond .eq 11, 3) := by decide +kernel
theorem dX8_leastShift_10 : decode cX8_leastShift 10 = .ok (.aload_n 0, 1) := by decide +kernel
theorem dX8_leastShift_11 : decode cX8_leastShift 11 = .ok (.getfield 190, 3) := by decide +kernel
theorem dX8_leastShift_14 : decode cX8_leastShift 14 = .ok (.iconst 5, 1) := by decide +kernel
theorem dX8_leastShift_15 : decode cX8_leastShift 15 = .ok (.if_icmp .lt 6, 3) := by decide +kernel
theorem dX8_leastShift_18 : decode cX8_leastShift 18 = .ok (.bipush (-103), 2) := by decide +kernel
theorem dX8_leastShift_20 : decode cX8_leastShift 20 = .ok (.ireturn, 1) := by decide +kernel
theorem dX8_leastShift_21 : decode cX8_leastShift 21 = .ok (.aload_n 0, 1) := by decide +kernel
theorem dX8_leastShift_22 : decode cX8_leastShift 22 = .ok (.dup, 1) := by decide +kernel
theorem dX8_leastShift_23 : decode cX8_leastShift 23 = .ok (.getfield 190, 3) := by decide +kernel
theorem dX8_leastShift_26 : decode cX8_leastShift 26 = .ok (.iconst 1, 1) := by decide +kernel
theorem dX8_leastShift_27 : decode cX8_leastShift 27 = .ok (.iadd, 1) := by decide +kernel
theorem dX8_leastShift_28 : decode cX8_leastShift 28 = .ok (.putfield 190, 3) := by decide +kernel
theorem dX8_leastShift_31 : decode cX8_leastShift 31 = .ok (.iconst (-1), 1) := by decide +kernel
theorem dX8_leastShift_32 : decode cX8_leastShift 32 = .ok (.istore_n 1, 1) := by decide +kernel
theorem dX8_leastShift_33 : decode cX8_leastShift 33 = .ok (.ldc 193, 2) := by decide +kernel
theorem dX8_leastShift_35 : decode cX8_leastShift 35 = .ok (.istore_n 2, 1) := by decide +kernel
theorem dX8_leastShift_36 : decode cX8_leastShift 36 = .ok (.iconst 0, 1) := by decide +kernel
theorem dX8_leastShift_37 : decode cX8_leastShift 37 = .ok (.istore_n 3, 1) := by decide +kernel
theorem dX8_leastShift_38 : decode cX8_leastShift 38 = .ok (.iload_n 3, 1) := by decide +kernel
theorem dX8_leastShift_39 : decode cX8_leastShift 39 = .ok (.bipush 12, 2) := by decide +kernel
theorem dX8_leastShift_41 : decode cX8_leastShift 41 = .ok (.if_icmp .ge 40, 3) := by decide +kernel
theorem dX8_leastShift_44 : decode cX8_leastShift 44 = .ok (.aload_n 0, 1) := by decide +kernel
theorem dX8_leastShift_45 : decode cX8_leastShift 45 = .ok (.getfield 55, 3) := by decide +kernel
theorem dX8_leastShift_48 : decode cX8_leastShift 48 = .ok (.aload_n 0, 1) := by decide +kernel
theorem dX8_leastShift_49 : decode cX8_leastShift 49 = .ok (.getfield 26, 3) := by decide +kernel
theorem dX8_leastShift_52 : decode cX8_leastShift 52 = .ok (.iload_n 3, 1) := by decide +kernel
theorem dX8_leastShift_53 : decode cX8_leastShift 53 = .ok (.invokevirtual 167, 3) := by decide +kernel
theorem dX8_leastShift_56 : decode cX8_leastShift 56 = .ok (.istore 4, 2) := by decide +kernel
theorem dX8_leastShift_58 : decode cX8_leastShift 58 = .ok (.iload 4, 2) := by decide +kernel
theorem dX8_leastShift_60 : decode cX8_leastShift 60 = .ok (.iconst (-1), 1) := by decide +kernel
theorem dX8_leastShift_61 : decode cX8_leastShift 61 = .ok (.if_icmp .eq 14, 3) := by decide +kernel
theorem dX8_leastShift_64 : decode cX8_leastShift 64 = .ok (.iload 4, 2) := by decide +kernel
theorem dX8_leastShift_66 : decode cX8_leastShift 66 = .ok (.iload_n 2, 1) := by decide +kernel
theorem dX8_leastShift_67 : decode cX8_leastShift 67 = .ok (.if_icmp .ge 8, 3) := by decide +kernel
theorem dX8_leastShift_70 : decode cX8_leastShift 70 = .ok (.iload_n 3, 1) := by decide +kernel
theorem dX8_leastShift_71 : decode cX8_leastShift 71 = .ok (.istore_n 1, 1) := by decide +kernel
theorem dX8_leastShift_72 : decode cX8_leastShift 72 = .ok (.iload 4, 2) := by decide +kernel
theorem dX8_leastShift_74 : decode cX8_leastShift 74 = .ok (.istore_n 2, 1) := by decide +kernel
theorem dX8_leastShift_75 : decode cX8_leastShift 75 = .ok (.iinc 3 1, 3) := by decide +kernel
theorem dX8_leastShift_78 : decode cX8_leastShift 78 = .ok (.goto (-40), 3) := by decide +kernel
theorem dX8_leastShift_81 : decode cX8_leastShift 81 = .ok (.iload_n 1, 1) := by decide +kernel
theorem dX8_leastShift_82 : decode cX8_leastShift 82 = .ok (.ireturn, 1) := by decide +kernel
set_option maxRecDepth 20000 in
theorem ggX8_free_X3_bestBegin : GoodIn wsX8_free wsX3_bestBegin := goodIn_r _ [7, 8, 9, 10, 11, 6, 12, 13, 14, 15, 16, 17, 18, 19, 20, 21, 22, 23, 24, 25, 26, 27, 28, 29, 30, 31, 32, 33, 34, 35, 36, 37, 38, 39, 40, 41, 42, 43, 44, 45, 46, 47, 48, 49, 50, 51, 52, 53, 54, 55, 56, 57, 58, 59, 60, 61, 62, 63, 64, 65, 66, 67, 68, 69, 70, 71, 72, 73, 74, 75, 76, 77, 78, 79, 80, 81, 82, 83, 84, 85, 86, 87, 88, 89, 90, 91, 92, 93, 94, 95, 96, 97, 98, 99, 100, 116, 117, 118, 119, 120, 121, 122, 123, 124, 125, 126, 127, 112, 113, 114, 115, 128, 129, 130] (by decide +kernel) (by decide +kernel)
set_option maxRecDepth 20000 in
theorem gX8_free_X3_bestBegin : GoodIn wsX8_free (wsV RX8 194 RX3 yX3_bestBegin wsX3_bestBegin) := goodIn_app (goodIn_of _ (by decide +kernel)) ggX8_free_X3_bestBegin
theorem dX8_free_0 : decode cX8_free 0 = .ok (.aload_n 0, 1) := by decide +kernel
theorem dX8_free_1 : decode cX8_free 1 = .ok (.getfield 26, 3) := by decide +kernel
theorem dX8_free_4 : decode cX8_free 4 = .ok (.getfield 102, 3) := by decide +kernel
theorem dX8_free_7 : decode cX8_free 7 = .ok (.ifCond .ne 8, 3) := by decide +kernel
theorem dX8_free_10 : decode cX8_free 10 = .ok (.bipush (-103), 2) := by decide +kernel
theorem dX8_free_12 : decode cX8_free 12 = .ok (.goto 14, 3) := by decide +kernel
theorem dX8_free_15 : decode cX8_free 15 = .ok (.aload_n 0, 1) := by decide +kernel
theorem dX8_free_16 : decode cX8_free 16 = .ok (.getfield 55, 3) := by decide +kernel
theorem dX8_free_19 : decode cX8_free 19 = .ok (.aload_n 0, 1) := by decide +kernel
theorem dX8_free_20 : decode cX8_free 20 = .ok (.getfield 26, 3) := by decide +kernel
theorem dX8_free_23 : decode cX8_free 23 = .ok (.invokevirtual 194, 3) := by decide +kernel
theorem dX8_free_26 : decode cX8_free 26 = .ok (.ireturn, 1) := by decide +kernel
set_option maxRecDepth 20000 in
theorem ggX8_see_X2_has : GoodIn wsX8_see wsX2_has := goodIn_r _ [7, 8, 32, 33, 34, 35] (by decide +kernel) (by decide +kernel)
set_option maxRecDepth 20000 in
theorem gX8_see_X2_has : GoodIn wsX8_see (wsV RX8 103 RX2 yX2_has wsX2_has) := goodIn_app (goodIn_of _ (by decide +kernel)) ggX8_see_X2_has
set_option maxRecDepth 20000 in
theorem ggX8_see_X6_add : GoodIn wsX8_see wsX6_add := goodIn_r _ [13, 14, 15, 16, 17, 29, 30, 31] (by decide +kernel) (by decide +kernel)
set_option maxRecDepth 20000 in
theorem gX8_see_X6_add : GoodIn wsX8_see (wsV RX8 197 RX6 yX6_add wsX6_add) := goodIn_app (goodIn_of _ (by decide +kernel)) ggX8_see_X6_add
theorem dX8_see_0 : decode cX8_see 0 = .ok (.aload_n 0, 1) := by decide +kernel
theorem dX8_see_1 : decode cX8_see 1 = .ok (.getfield 26, 3) := by decide +kernel
theorem dX8_see_4 : decode cX8_see 4 = .ok (.iload_n 1, 1) := by decide +kernel
theorem dX8_see_5 : decode cX8_see 5 = .ok (.invokevirtual 103, 3) := by decide +kernel
theorem dX8_see_8 : decode cX8_see 8 = .ok (.ifCond .ne 6, 3) := by decide +kernel
theorem dX8_see_11 : decode cX8_see 11 = .ok (.bipush (-101), 2) := by decide +kernel
theorem dX8_see_13 : decode cX8_see 13 = .ok (.ireturn, 1) := by decide +kernel
theorem dX8_see_14 : decode cX8_see 14 = .ok (.iload_n 2, 1) := by decide +kernel
theorem dX8_see_15 : decode cX8_see 15 = .ok (.ifCond .lt 8, 3) := by decide +kernel
theorem dX8_see_18 : decode cX8_see 18 = .ok (.iload_n 2, 1) := by decide +kernel
theorem dX8_see_19 : decode cX8_see 19 = .ok (.iconst 4, 1) := by decide +kernel
theorem dX8_see_20 : decode cX8_see 20 = .ok (.if_icmp .lt 6, 3) := by decide +kernel
theorem dX8_see_23 : decode cX8_see 23 = .ok (.bipush (-102), 2) := by decide +kernel
theorem dX8_see_25 : decode cX8_see 25 = .ok (.ireturn, 1) := by decide +kernel
theorem dX8_see_26 : decode cX8_see 26 = .ok (.aload_n 0, 1) := by decide +kernel
theorem dX8_see_27 : decode cX8_see 27 = .ok (.getfield 36, 3) := by decide +kernel
theorem dX8_see_30 : decode cX8_see 30 = .ok (.iload_n 1, 1) := by decide +kernel
theorem dX8_see_31 : decode cX8_see 31 = .ok (.iload_n 2, 1) := by decide +kernel
theorem dX8_see_32 : decode cX8_see 32 = .ok (.iload_n 3, 1) := by decide +kernel
theorem dX8_see_33 : decode cX8_see 33 = .ok (.invokevirtual 197, 3) := by decide +kernel
theorem dX8_see_36 : decode cX8_see 36 = .ok (.ifCond .eq 13, 3) := by decide +kernel
theorem dX8_see_39 : decode cX8_see 39 = .ok (.aload_n 0, 1) := by decide +kernel
theorem dX8_see_40 : decode cX8_see 40 = .ok (.getfield 36, 3) := by decide +kernel
theorem dX8_see_43 : decode cX8_see 43 = .ok (.getfield 201, 3) := by decide +kernel
theorem dX8_see_46 : decode cX8_see 46 = .ok (.goto 5, 3) := by decide +kernel
theorem dX8_see_49 : decode cX8_see 49 = .ok (.bipush (-104), 2) := by decide +kernel
theorem dX8_see_51 : decode cX8_see 51 = .ok (.ireturn, 1) := by decide +kernel
set_option maxRecDepth 20000 in
theorem ggX8_forget_X6_clear : GoodIn wsX8_forget wsX6_clear := goodIn_r _ [6, 7, 19, 20, 21] (by decide +kernel) (by decide +kernel)
set_option maxRecDepth 20000 in
theorem gX8_forget_X6_clear : GoodIn wsX8_forget (wsV RX8 96 RX6 yX6_clear wsX6_clear) := goodIn_app (goodIn_of _ (by decide +kernel)) ggX8_forget_X6_clear
theorem dX8_forget_0 : decode cX8_forget 0 = .ok (.aload_n 0, 1) := by decide +kernel
theorem dX8_forget_1 : decode cX8_forget 1 = .ok (.getfield 36, 3) := by decide +kernel
theorem dX8_forget_4 : decode cX8_forget 4 = .ok (.invokevirtual 96, 3) := by decide +kernel
theorem dX8_forget_7 : decode cX8_forget 7 = .ok (.ireturn, 1) := by decide +kernel
set_option maxRecDepth 20000 in
theorem ggX8_drawn_X4_playDrawn : GoodIn wsX8_drawn wsX4_playDrawn := goodIn_r _ [7, 8, 9, 10, 11, 12, 13, 14, 15, 16, 17, 18, 19, 20, 21, 22, 23, 24, 25, 26, 27, 6, 28, 29, 30, 31, 32, 33, 34, 35, 36, 37, 38, 39, 40, 41, 42, 43, 44, 45, 46, 47, 48, 49, 50, 51, 52, 53, 69, 70, 71, 72, 73, 74, 75, 76, 77] (by decide +kernel) (by decide +kernel)
set_option maxRecDepth 20000 in
theorem gX8_drawn_X4_playDrawn : GoodIn wsX8_drawn (wsV RX8 202 RX4 yX4_playDrawn wsX4_playDrawn) := goodIn_app (goodIn_of _ (by decide +kernel)) ggX8_drawn_X4_playDrawn
theorem dX8_drawn_0 : decode cX8_drawn 0 = .ok (.iload_n 1, 1) := by decide +kernel
theorem dX8_drawn_1 : decode cX8_drawn 1 = .ok (.iconst 1, 1) := by decide +kernel
theorem dX8_drawn_2 : decode cX8_drawn 2 = .ok (.if_icmp .lt 22, 3) := by decide +kernel
theorem dX8_drawn_5 : decode cX8_drawn 5 = .ok (.iload_n 1, 1) := by decide +kernel
theorem dX8_drawn_6 : decode cX8_drawn 6 = .ok (.bipush 30, 2) := by decide +kernel
theorem dX8_drawn_8 : decode cX8_drawn 8 = .ok (.if_icmp .gt 16, 3) := by decide +kernel
theorem dX8_drawn_11 : decode cX8_drawn 11 = .ok (.iload_n 2, 1) := by decide +kernel
theorem dX8_drawn_12 : decode cX8_drawn 12 = .ok (.ifCond .lt 12, 3) := by decide +kernel
theorem dX8_drawn_15 : decode cX8_drawn 15 = .ok (.iload_n 3, 1) := by decide +kernel
theorem dX8_drawn_16 : decode cX8_drawn 16 = .ok (.ifCond .lt 8, 3) := by decide +kernel
theorem dX8_drawn_19 : decode cX8_drawn 19 = .ok (.iload_n 3, 1) := by decide +kernel
theorem dX8_drawn_20 : decode cX8_drawn 20 = .ok (.iconst 3, 1) := by decide +kernel
theorem dX8_drawn_21 : decode cX8_drawn 21 = .ok (.if_icmp .lt 6, 3) := by decide +kernel
theorem dX8_drawn_24 : decode cX8_drawn 24 = .ok (.bipush (-102), 2) := by decide +kernel
theorem dX8_drawn_26 : decode cX8_drawn 26 = .ok (.ireturn, 1) := by decide +kernel
theorem dX8_drawn_27 : decode cX8_drawn 27 = .ok (.aload_n 0, 1) := by decide +kernel
theorem dX8_drawn_28 : decode cX8_drawn 28 = .ok (.getfield 26, 3) := by decide +kernel
theorem dX8_drawn_31 : decode cX8_drawn 31 = .ok (.getfield 102, 3) := by decide +kernel
theorem dX8_drawn_34 : decode cX8_drawn 34 = .ok (.ifCond .ne 6, 3) := by decide +kernel
theorem dX8_drawn_37 : decode cX8_drawn 37 = .ok (.bipush (-103), 2) := by decide +kernel
theorem dX8_drawn_39 : decode cX8_drawn 39 = .ok (.ireturn, 1) := by decide +kernel
theorem dX8_drawn_40 : decode cX8_drawn 40 = .ok (.aload_n 0, 1) := by decide +kernel
theorem dX8_drawn_41 : decode cX8_drawn 41 = .ok (.getfield 62, 3) := by decide +kernel
theorem dX8_drawn_44 : decode cX8_drawn 44 = .ok (.aload_n 0, 1) := by decide +kernel
theorem dX8_drawn_45 : decode cX8_drawn 45 = .ok (.getfield 26, 3) := by decide +kernel
theorem dX8_drawn_48 : decode cX8_drawn 48 = .ok (.getfield 142, 3) := by decide +kernel
theorem dX8_drawn_51 : decode cX8_drawn 51 = .ok (.iload_n 1, 1) := by decide +kernel
theorem dX8_drawn_52 : decode cX8_drawn 52 = .ok (.iload_n 2, 1) := by decide +kernel
theorem dX8_drawn_53 : decode cX8_drawn 53 = .ok (.invokevirtual 202, 3) := by decide +kernel
theorem dX8_drawn_56 : decode cX8_drawn 56 = .ok (.iload_n 3, 1) := by decide +kernel
theorem dX8_drawn_57 : decode cX8_drawn 57 = .ok (.lookupswitch 43 #[(0, 27), (1, 35)], 27) := by decide +kernel
theorem dX8_drawn_84 : decode cX8_drawn 84 = .ok (.aload_n 0, 1) := by decide +kernel
theorem dX8_drawn_85 : decode cX8_drawn 85 = .ok (.getfield 62, 3) := by decide +kernel
theorem dX8_drawn_88 : decode cX8_drawn 88 = .ok (.getfield 206, 3) := by decide +kernel
theorem dX8_drawn_91 : decode cX8_drawn 91 = .ok (.ireturn, 1) := by decide +kernel
theorem dX8_drawn_92 : decode cX8_drawn 92 = .ok (.aload_n 0, 1) := by decide +kernel
theorem dX8_drawn_93 : decode cX8_drawn 93 = .ok (.getfield 62, 3) := by decide +kernel
theorem dX8_drawn_96 : decode cX8_drawn 96 = .ok (.getfield 209, 3) := by decide +kernel
theorem dX8_drawn_99 : decode cX8_drawn 99 = .ok (.ireturn, 1) := by decide +kernel
theorem dX8_drawn_100 : decode cX8_drawn 100 = .ok (.aload_n 0, 1) := by decide +kernel
theorem dX8_drawn_101 : decode cX8_drawn 101 = .ok (.getfield 62, 3) := by decide +kernel
theorem dX8_drawn_104 : decode cX8_drawn 104 = .ok (.getfield 212, 3) := by decide +kernel
theorem dX8_drawn_107 : decode cX8_drawn 107 = .ok (.ireturn, 1) := by decide +kernel
set_option maxRecDepth 20000 in
theorem ggX8_image_X2_become : GoodIn wsX8_image wsX2_become := goodIn_r _ [9, 10, 11, 12, 13, 14, 15, 16, 17, 38, 39, 40, 41] (by decide +kernel) (by decide +kernel)
set_option maxRecDepth 20000 in
theorem gX8_image_X2_become : GoodIn wsX8_image (wsV RX8 89 RX2 yX2_become wsX2_become) := goodIn_app (goodIn_of _ (by decide +kernel)) ggX8_image_X2_become
set_option maxRecDepth 20000 in
theorem ggX8_image_X6_become : GoodIn wsX8_image wsX6_become := goodIn_r _ [22, 23, 24, 25, 14, 15, 16, 26, 42, 43, 44] (by decide +kernel) (by decide +kernel)
set_option maxRecDepth 20000 in
theorem gX8_image_X6_become : GoodIn wsX8_image (wsV RX8 215 RX6 yX6_become wsX6_become) := goodIn_app (goodIn_of _ (by decide +kernel)) ggX8_image_X6_become
theorem dX8_image_0 : decode cX8_image 0 = .ok (.aload_n 0, 1) := by decide +kernel
theorem dX8_image_1 : decode cX8_image 1 = .ok (.getfield 26, 3) := by decide +kernel
theorem dX8_image_4 : decode cX8_image 4 = .ok (.getfield 102, 3) := by decide +kernel
theorem dX8_image_7 : decode cX8_image 7 = .ok (.ifCond .ne 6, 3) := by decide +kernel
theorem dX8_image_10 : decode cX8_image 10 = .ok (.bipush (-103), 2) := by decide +kernel
theorem dX8_image_12 : decode cX8_image 12 = .ok (.ireturn, 1) := by decide +kernel
theorem dX8_image_13 : decode cX8_image 13 = .ok (.aload_n 0, 1) := by decide +kernel
theorem dX8_image_14 : decode cX8_image 14 = .ok (.getfield 30, 3) := by decide +kernel
theorem dX8_image_17 : decode cX8_image 17 = .ok (.aload_n 0, 1) := by decide +kernel
theorem dX8_image_18 : decode cX8_image 18 = .ok (.getfield 26, 3) := by decide +kernel
theorem dX8_image_21 : decode cX8_image 21 = .ok (.invokevirtual 89, 3) := by decide +kernel
theorem dX8_image_24 : decode cX8_image 24 = .ok (.aload_n 0, 1) := by decide +kernel
theorem dX8_image_25 : decode cX8_image 25 = .ok (.getfield 40, 3) := by decide +kernel
theorem dX8_image_28 : decode cX8_image 28 = .ok (.aload_n 0, 1) := by decide +kernel
theorem dX8_image_29 : decode cX8_image 29 = .ok (.getfield 36, 3) := by decide +kernel
theorem dX8_image_32 : decode cX8_image 32 = .ok (.invokevirtual 215, 3) := by decide +kernel
theorem dX8_image_35 : decode cX8_image 35 = .ok (.aload_n 0, 1) := by decide +kernel
theorem dX8_image_36 : decode cX8_image 36 = .ok (.getfield 26, 3) := by decide +kernel
theorem dX8_image_39 : decode cX8_image 39 = .ok (.getfield 102, 3) := by decide +kernel
theorem dX8_image_42 : decode cX8_image 42 = .ok (.ireturn, 1) := by decide +kernel
set_option maxRecDepth 20000 in
theorem ggX8_restore_X2_become : GoodIn wsX8_restore wsX2_become := goodIn_r _ [10, 11, 12, 13, 14, 15, 16, 17, 18, 46, 47, 48, 49] (by decide +kernel) (by decide +kernel)
set_option maxRecDepth 20000 in
theorem gX8_restore_X2_become : GoodIn wsX8_restore (wsV RX8 89 RX2 yX2_become wsX2_become) := goodIn_app (goodIn_of _ (by decide +kernel)) ggX8_restore_X2_become
set_option maxRecDepth 20000 in
theorem ggX8_restore_X6_become : GoodIn wsX8_restore wsX6_become := goodIn_r _ [23, 24, 25, 26, 15, 16, 17, 27, 50, 51, 52] (by decide +kernel) (by decide +kernel)
set_option maxRecDepth 20000 in
theorem gX8_restore_X6_become : GoodIn wsX8_restore (wsV RX8 215 RX6 yX6_become wsX6_become) := goodIn_app (goodIn_of _ (by decide +kernel)) ggX8_restore_X6_become
set_option maxRecDepth 20000 in
theorem ggX8_restore_X3_makeStale : GoodIn wsX8_restore wsX3_makeStale := goodIn_r _ [32, 33, 34, 53, 54, 55, 56, 57, 58, 59, 60, 61, 62, 63, 64] (by decide +kernel) (by decide +kernel)
set_option maxRecDepth 20000 in
theorem gX8_restore_X3_makeStale : GoodIn wsX8_restore (wsV RX8 93 RX3 yX3_makeStale wsX3_makeStale) := goodIn_app (goodIn_of _ (by decide +kernel)) ggX8_restore_X3_makeStale
theorem dX8_restore_0 : decode cX8_restore 0 = .ok (.aload_n 0, 1) := by decide +kernel
theorem dX8_restore_1 : decode cX8_restore 1 = .ok (.getfield 30, 3) := by decide +kernel
theorem dX8_restore_4 : decode cX8_restore 4 = .ok (.getfield 102, 3) := by decide +kernel
theorem dX8_restore_7 : decode cX8_restore 7 = .ok (.ifCond .ne 6, 3) := by decide +kernel
theorem dX8_restore_10 : decode cX8_restore 10 = .ok (.bipush (-103), 2) := by decide +kernel
theorem dX8_restore_12 : decode cX8_restore 12 = .ok (.ireturn, 1) := by decide +kernel
theorem dX8_restore_13 : decode cX8_restore 13 = .ok (.aload_n 0, 1) := by decide +kernel
theorem dX8_restore_14 : decode cX8_restore 14 = .ok (.getfield 26, 3) := by decide +kernel
theorem dX8_restore_17 : decode cX8_restore 17 = .ok (.aload_n 0, 1) := by decide +kernel
theorem dX8_restore_18 : decode cX8_restore 18 = .ok (.getfield 30, 3) := by decide +kernel
theorem dX8_restore_21 : decode cX8_restore 21 = .ok (.invokevirtual 89, 3) := by decide +kernel
theorem dX8_restore_24 : decode cX8_restore 24 = .ok (.aload_n 0, 1) := by decide +kernel
theorem dX8_restore_25 : decode cX8_restore 25 = .ok (.getfield 36, 3) := by decide +kernel
theorem dX8_restore_28 : decode cX8_restore 28 = .ok (.aload_n 0, 1) := by decide +kernel
theorem dX8_restore_29 : decode cX8_restore 29 = .ok (.getfield 40, 3) := by decide +kernel
theorem dX8_restore_32 : decode cX8_restore 32 = .ok (.invokevirtual 215, 3) := by decide +kernel
theorem dX8_restore_35 : decode cX8_restore 35 = .ok (.aload_n 0, 1) := by decide +kernel
theorem dX8_restore_36 : decode cX8_restore 36 = .ok (.getfield 55, 3) := by decide +kernel
theorem dX8_restore_39 : decode cX8_restore 39 = .ok (.invokevirtual 93, 3) := by decide +kernel
theorem dX8_restore_42 : decode cX8_restore 42 = .ok (.aload_n 0, 1) := by decide +kernel
theorem dX8_restore_43 : decode cX8_restore 43 = .ok (.getfield 26, 3) := by decide +kernel
theorem dX8_restore_46 : decode cX8_restore 46 = .ok (.getfield 102, 3) := by decide +kernel
theorem dX8_restore_49 : decode cX8_restore 49 = .ok (.ireturn, 1) := by decide +kernel
set_option maxRecDepth 20000 in
theorem ggX8_count_X7_numberOf : GoodIn wsX8_count wsX7_numberOf := goodIn_r _ [9, 10, 11, 8, 12] (by decide +kernel) (by decide +kernel)
set_option maxRecDepth 20000 in
theorem gX8_count_X7_numberOf : GoodIn wsX8_count (va_wsS RX8 149 yX7_numberOf wsX7_numberOf) := goodIn_app (goodIn_of _ (by decide +kernel)) ggX8_count_X7_numberOf
set_option maxRecDepth 20000 in
theorem ggX8_count_X2_tonesOfAll : GoodIn wsX8_count wsX2_tonesOfAll := goodIn_r _ [17, 18, 19, 38, 39, 40, 41] (by decide +kernel) (by decide +kernel)
set_option maxRecDepth 20000 in
theorem gX8_count_X2_tonesOfAll : GoodIn wsX8_count (wsV RX8 218 RX2 yX2_tonesOfAll wsX2_tonesOfAll) := goodIn_app (goodIn_of _ (by decide +kernel)) ggX8_count_X2_tonesOfAll
set_option maxRecDepth 20000 in
theorem ggX8_count_J6_bitCount_0f7a4 : GoodIn wsX8_count wsJ6_bitCount_0f7a4 := goodIn_r _ [23, 24, 25, 26] (by decide +kernel) (by decide +kernel)
set_option maxRecDepth 20000 in
theorem gX8_count_J6_bitCount_0f7a4 : GoodIn wsX8_count (va_wsS RX8 221 yJ6_bitCount_0f7a4 wsJ6_bitCount_0f7a4) := goodIn_app (goodIn_of _ (by decide +kernel)) ggX8_count_J6_bitCount_0f7a4
theorem dX8_count_0 : decode cX8_count 0 = .ok (.iload_n 1, 1) := by decide +kernel
theorem dX8_count_1 : decode cX8_count 1 = .ok (.tableswitch 113 0 6 #[43, 51, 76, 87, 95, 103, 108], 43) := by decide +kernel
theorem dX8_count_44 : decode cX8_count 44 = .ok (.aload_n 0, 1) := by decide +kernel
theorem dX8_count_45 : decode cX8_count 45 = .ok (.getfield 26, 3) := by decide +kernel
theorem dX8_count_48 : decode cX8_count 48 = .ok (.getfield 102, 3) := by decide +kernel
theorem dX8_count_51 : decode cX8_count 51 = .ok (.ireturn, 1) := by decide +kernel
theorem dX8_count_52 : decode cX8_count 52 = .ok (.aload_n 0, 1) := by decide +kernel
theorem dX8_count_53 : decode cX8_count 53 = .ok (.getfield 26, 3) := by decide +kernel
theorem dX8_count_56 : decode cX8_count 56 = .ok (.getfield 102, 3) := by decide +kernel
theorem dX8_count_59 : decode cX8_count 59 = .ok (.ifCond .ne 7, 3) := by decide +kernel
theorem dX8_count_62 : decode cX8_count 62 = .ok (.iconst (-1), 1) := by decide +kernel
theorem dX8_count_63 : decode cX8_count 63 = .ok (.goto 13, 3) := by decide +kernel
theorem dX8_count_66 : decode cX8_count 66 = .ok (.aload_n 0, 1) := by decide +kernel
theorem dX8_count_67 : decode cX8_count 67 = .ok (.getfield 26, 3) := by decide +kernel
theorem dX8_count_70 : decode cX8_count 70 = .ok (.getfield 142, 3) := by decide +kernel
theorem dX8_count_73 : decode cX8_count 73 = .ok (.invokestatic 149, 3) := by decide +kernel
theorem dX8_count_76 : decode cX8_count 76 = .ok (.ireturn, 1) := by decide +kernel
theorem dX8_count_77 : decode cX8_count 77 = .ok (.aload_n 0, 1) := by decide +kernel
theorem dX8_count_78 : decode cX8_count 78 = .ok (.getfield 26, 3) := by decide +kernel
theorem dX8_count_81 : decode cX8_count 81 = .ok (.invokevirtual 218, 3) := by decide +kernel
theorem dX8_count_84 : decode cX8_count 84 = .ok (.invokestatic 221, 3) := by decide +kernel
theorem dX8_count_87 : decode cX8_count 87 = .ok (.ireturn, 1) := by decide +kernel
theorem dX8_count_88 : decode cX8_count 88 = .ok (.aload_n 0, 1) := by decide +kernel
theorem dX8_count_89 : decode cX8_count 89 = .ok (.getfield 36, 3) := by decide +kernel
theorem dX8_count_92 : decode cX8_count 92 = .ok (.getfield 201, 3) := by decide +kernel
theorem dX8_count_95 : decode cX8_count 95 = .ok (.ireturn, 1) := by decide +kernel
theorem dX8_count_96 : decode cX8_count 96 = .ok (.aload_n 0, 1) := by decide +kernel
theorem dX8_count_97 : decode cX8_count 97 = .ok (.getfield 10, 3) := by decide +kernel
theorem dX8_count_100 : decode cX8_count 100 = .ok (.getfield 70, 3) := by decide +kernel
theorem dX8_count_103 : decode cX8_count 103 = .ok (.ireturn, 1) := by decide +kernel
theorem dX8_count_104 : decode cX8_count 104 = .ok (.aload_n 0, 1) := by decide +kernel
theorem dX8_count_105 : decode cX8_count 105 = .ok (.getfield 99, 3) := by decide +kernel
theorem dX8_count_108 : decode cX8_count 108 = .ok (.ireturn, 1) := by decide +kernel
theorem dX8_count_109 : decode cX8_count 109 = .ok (.aload_n 0, 1) := by decide +kernel
theorem dX8_count_110 : decode cX8_count 110 = .ok (.getfield 190, 3) := by decide +kernel
theorem dX8_count_113 : decode cX8_count 113 = .ok (.ireturn, 1) := by decide +kernel
theorem dX8_count_114 : decode cX8_count 114 = .ok (.bipush (-102), 2) := by decide +kernel
theorem dX8_count_116 : decode cX8_count 116 = .ok (.ireturn, 1) := by decide +kernel
set_option maxRecDepth 20000 in
theorem ggX8_digest_X8_chord : GoodIn wsX8_digest wsX8_chord := goodIn_r _ [10, 2, 11, 12, 13, 14, 15, 16, 17, 18, 19, 20, 21, 22, 23, 24, 25, 26, 27, 28, 29, 30, 31, 32, 33, 34, 35, 36, 37, 38, 39, 40, 41, 42, 43, 44, 45, 46, 47, 48, 49, 50, 51, 52, 53, 54, 55, 56, 57, 58, 59, 60, 61, 62, 63, 64, 65, 66, 210, 211, 212, 213, 214, 215, 216, 217, 218, 219, 220, 221, 222, 223, 224, 227, 228, 229, 230] (by decide +kernel) (by decide +kernel)
set_option maxRecDepth 20000 in
theorem gX8_digest_X8_chord : GoodIn wsX8_digest (wsV RX8 230 RX8 yX8_chord wsX8_chord) := goodIn_app (goodIn_of _ (by decide +kernel)) ggX8_digest_X8_chord
set_option maxRecDepth 20000 in
theorem ggX8_digest_X3_bestSetting : GoodIn wsX8_digest wsX3_bestSetting := goodIn_r _ [71, 72, 73, 74, 75, 70, 76, 77, 78, 79, 80, 81, 82, 83, 84, 85, 86, 25, 26, 22, 27, 28, 87, 88, 89, 90, 91, 92, 9, 93, 94, 95, 96, 97, 98, 99, 100, 101, 102, 103, 104, 105, 106, 107, 108, 109, 110, 111, 112, 113, 114, 115, 116, 117, 118, 119, 120, 121, 37, 38, 122, 123, 124, 125, 126, 127, 128, 129, 130, 131, 132, 133, 134, 135, 136, 137, 138, 139, 140, 141, 142, 143, 144, 145, 146, 147, 148, 149, 150, 151, 152, 153, 14, 15, 16, 17, 18, 154, 34, 35, 36, 231, 232, 233, 234, 235, 236, 237, 238, 239, 240, 241, 242, 221, 222, 223, 224, 227, 243, 244] (by decide +kernel) (by decide +kernel)
set_option maxRecDepth 20000 in
theorem gX8_digest_X3_bestSetting : GoodIn wsX8_digest (wsV RX8 184 RX3 yX3_bestSetting wsX3_bestSetting) := goodIn_app (goodIn_of _ (by decide +kernel)) ggX8_digest_X3_bestSetting
set_option maxRecDepth 20000 in
theorem ggX8_digest_X3_howManyReached : GoodIn wsX8_digest wsX3_howManyReached := goodIn_r _ [158, 159, 160, 161, 162, 70, 163, 164, 165, 166, 85, 167, 168, 169, 170, 171, 172, 173, 22, 174, 87, 88, 89, 90, 91, 92, 9, 93, 94, 95, 96, 97, 98, 99, 100, 101, 102, 103, 104, 105, 106, 107, 108, 109, 110, 111, 112, 113, 114, 115, 84, 116, 117, 118, 119, 120, 121, 37, 38, 122, 123, 124, 125, 126, 127, 128, 129, 130, 131, 86, 25, 26, 27, 28, 132, 133, 134, 135, 175, 176, 177, 178, 179, 180, 153, 14, 15, 16, 17, 18, 231, 232, 233, 234, 235, 236, 237, 238, 239, 240, 241, 242, 221, 222, 223, 224, 243, 244, 227] (by decide +kernel) (by decide +kernel)
set_option maxRecDepth 20000 in
theorem gX8_digest_X3_howManyReached : GoodIn wsX8_digest (wsV RX8 187 RX3 yX3_howManyReached wsX3_howManyReached) := goodIn_app (goodIn_of _ (by decide +kernel)) ggX8_digest_X3_howManyReached
set_option maxRecDepth 20000 in
theorem ggX8_digest_X8_plan : GoodIn wsX8_digest wsX8_plan := goodIn_r _ [184, 2, 4, 185, 186, 187, 70, 188, 167, 85, 160, 161, 162, 163, 164, 165, 166, 159, 168, 169, 170, 171, 172, 173, 22, 174, 87, 88, 89, 90, 91, 92, 9, 93, 94, 95, 96, 97, 98, 99, 100, 101, 102, 103, 104, 105, 106, 107, 108, 109, 110, 111, 112, 113, 114, 115, 84, 116, 117, 118, 119, 120, 121, 37, 38, 122, 123, 124, 125, 126, 127, 128, 129, 130, 131, 86, 25, 26, 27, 28, 132, 133, 134, 135, 175, 176, 177, 178, 179, 180, 189, 190, 191, 192, 193, 194, 195, 196, 210, 211, 212, 213, 214, 215, 216, 217, 218, 219, 220, 221, 222, 223, 224, 231, 232, 233, 234, 235, 236, 237, 238, 239, 240, 241, 242, 243, 244, 227] (by decide +kernel) (by decide +kernel)
set_option maxRecDepth 20000 in
theorem gX8_digest_X8_plan : GoodIn wsX8_digest (wsV RX8 233 RX8 yX8_plan wsX8_plan) := goodIn_app (goodIn_of _ (by decide +kernel)) ggX8_digest_X8_plan
set_option maxRecDepth 20000 in
theorem ggX8_digest_X8_count : GoodIn wsX8_digest wsX8_count := goodIn_r _ [200, 2, 12, 5, 201, 202, 203, 34, 22, 35, 36, 37, 38, 204, 205, 206, 16, 207, 18, 208, 209, 61, 62, 63, 64, 65, 66, 210, 211, 212, 213, 214, 215, 216, 217, 218, 219, 220, 221, 222, 223, 224, 228, 229, 230, 225, 226] (by decide +kernel) (by decide +kernel)
set_option maxRecDepth 20000 in
theorem gX8_digest_X8_count : GoodIn wsX8_digest (wsV RX8 239 RX8 yX8_count wsX8_count) := goodIn_app (goodIn_of _ (by decide +kernel)) ggX8_digest_X8_count
theorem dX8_digest_0 : decode cX8_digest 0 = .ok (.ldc2_w 226, 3) := by decide +kernel
theorem dX8_digest_3 : decode cX8_digest 3 = .ok (.lstore_n 1, 1) := by decide +kernel
theorem dX8_digest_4 : decode cX8_digest 4 = .ok (.iconst 0, 1) := by decide +kernel
theorem dX8_digest_5 : decode cX8_digest 5 = .ok (.istore_n 3, 1) := by decide +kernel
theorem dX8_digest_6 : decode cX8_digest 6 = .ok (.iload_n 3, 1) := by decide +kernel
theorem dX8_digest_7 : decode cX8_digest 7 = .ok (.aload_n 0, 1) := by decide +kernel
theorem dX8_digest_8 : decode cX8_digest 8 = .ok (.getfield 26, 3) := by decide +kernel
theorem dX8_digest_11 : decode cX8_digest 11 = .ok (.getfield 102, 3) := by decide +kernel
theorem dX8_digest_14 : decode cX8_digest 14 = .ok (.if_icmp .ge 80, 3) := by decide +kernel
theorem dX8_digest_17 : decode cX8_digest 17 = .ok (.iconst 0, 1) := by decide +kernel
theorem dX8_digest_18 : decode cX8_digest 18 = .ok (.istore 4, 2) := by decide +kernel
theorem dX8_digest_20 : decode cX8_digest 20 = .ok (.iload 4, 2) := by decide +kernel
theorem dX8_digest_22 : decode cX8_digest 22 = .ok (.bipush 6, 2) := by decide +kernel
theorem dX8_digest_24 : decode cX8_digest 24 = .ok (.if_icmp .ge 24, 3) := by decide +kernel
theorem dX8_digest_27 : decode cX8_digest 27 = .ok (.ldc2_w 228, 3) := by decide +kernel
theorem dX8_digest_30 : decode cX8_digest 30 = .ok (.lload_n 1, 1) := by decide +kernel
theorem dX8_digest_31 : decode cX8_digest 31 = .ok (.lmul, 1) := by decide +kernel
theorem dX8_digest_32 : decode cX8_digest 32 = .ok (.aload_n 0, 1) := by decide +kernel
theorem dX8_digest_33 : decode cX8_digest 33 = .ok (.iload_n 3, 1) := by decide +kernel
theorem dX8_digest_34 : decode cX8_digest 34 = .ok (.iload 4, 2) := by decide +kernel
theorem dX8_digest_36 : decode cX8_digest 36 = .ok (.invokevirtual 230, 3) := by decide +kernel
theorem dX8_digest_39 : decode cX8_digest 39 = .ok (.i2l, 1) := by decide +kernel
theorem dX8_digest_40 : decode cX8_digest 40 = .ok (.ladd, 1) := by decide +kernel
theorem dX8_digest_41 : decode cX8_digest 41 = .ok (.lstore_n 1, 1) := by decide +kernel
theorem dX8_digest_42 : decode cX8_digest 42 = .ok (.iinc 4 1, 3) := by decide +kernel
theorem dX8_digest_45 : decode cX8_digest 45 = .ok (.goto (-25), 3) := by decide +kernel
theorem dX8_digest_48 : decode cX8_digest 48 = .ok (.ldc2_w 228, 3) := by decide +kernel
theorem dX8_digest_51 : decode cX8_digest 51 = .ok (.lload_n 1, 1) := by decide +kernel
theorem dX8_digest_52 : decode cX8_digest 52 = .ok (.lmul, 1) := by decide +kernel
theorem dX8_digest_53 : decode cX8_digest 53 = .ok (.aload_n 0, 1) := by decide +kernel
theorem dX8_digest_54 : decode cX8_digest 54 = .ok (.getfield 55, 3) := by decide +kernel
theorem dX8_digest_57 : decode cX8_digest 57 = .ok (.aload_n 0, 1) := by decide +kernel
theorem dX8_digest_58 : decode cX8_digest 58 = .ok (.getfield 26, 3) := by decide +kernel
theorem dX8_digest_61 : decode cX8_digest 61 = .ok (.iload_n 3, 1) := by decide +kernel
theorem dX8_digest_62 : decode cX8_digest 62 = .ok (.invokevirtual 184, 3) := by decide +kernel
theorem dX8_digest_65 : decode cX8_digest 65 = .ok (.i2l, 1) := by decide +kernel
theorem dX8_digest_66 : decode cX8_digest 66 = .ok (.ladd, 1) := by decide +kernel
theorem dX8_digest_67 : decode cX8_digest 67 = .ok (.lstore_n 1, 1) := by decide +kernel
theorem dX8_digest_68 : decode cX8_digest 68 = .ok (.ldc2_w 228, 3) := by decide +kernel
theorem dX8_digest_71 : decode cX8_digest 71 = .ok (.lload_n 1, 1) := by decide +kernel
theorem dX8_digest_72 : decode cX8_digest 72 = .ok (.lmul, 1) := by decide +kernel
theorem dX8_digest_73 : decode cX8_digest 73 = .ok (.aload_n 0, 1) := by decide +kernel
theorem dX8_digest_74 : decode cX8_digest 74 = .ok (.getfield 55, 3) := by decide +kernel
theorem dX8_digest_77 : decode cX8_digest 77 = .ok (.aload_n 0, 1) := by decide +kernel
theorem dX8_digest_78 : decode cX8_digest 78 = .ok (.getfield 26, 3) := by decide +kernel
theorem dX8_digest_81 : decode cX8_digest 81 = .ok (.iload_n 3, 1) := by decide +kernel
theorem dX8_digest_82 : decode cX8_digest 82 = .ok (.invokevirtual 187, 3) := by decide +kernel
theorem dX8_digest_85 : decode cX8_digest 85 = .ok (.i2l, 1) := by decide +kernel
theorem dX8_digest_86 : decode cX8_digest 86 = .ok (.ladd, 1) := by decide +kernel
theorem dX8_digest_87 : decode cX8_digest 87 = .ok (.lstore_n 1, 1) := by decide +kernel
theorem dX8_digest_88 : decode cX8_digest 88 = .ok (.iinc 3 1, 3) := by decide +kernel
theorem dX8_digest_91 : decode cX8_digest 91 = .ok (.goto (-85), 3) := by decide +kernel
theorem dX8_digest_94 : decode cX8_digest 94 = .ok (.aload_n 0, 1) := by decide +kernel
theorem dX8_digest_95 : decode cX8_digest 95 = .ok (.getfield 26, 3) := by decide +kernel
theorem dX8_digest_98 : decode cX8_digest 98 = .ok (.getfield 102, 3) := by decide +kernel
theorem dX8_digest_101 : decode cX8_digest 101 = .ok (.ifCond .le 29, 3) := by decide +kernel
theorem dX8_digest_104 : decode cX8_digest 104 = .ok (.iconst 0, 1) := by decide +kernel
theorem dX8_digest_105 : decode cX8_digest 105 = .ok (.istore_n 3, 1) := by decide +kernel
theorem dX8_digest_106 : decode cX8_digest 106 = .ok (.iload_n 3, 1) := by decide +kernel
theorem dX8_digest_107 : decode cX8_digest 107 = .ok (.iconst 3, 1) := by decide +kernel
theorem dX8_digest_108 : decode cX8_digest 108 = .ok (.if_icmp .ge 22, 3) := by decide +kernel
theorem dX8_digest_111 : decode cX8_digest 111 = .ok (.ldc2_w 228, 3) := by decide +kernel
theorem dX8_digest_114 : decode cX8_digest 114 = .ok (.lload_n 1, 1) := by decide +kernel
theorem dX8_digest_115 : decode cX8_digest 115 = .ok (.lmul, 1) := by decide +kernel
theorem dX8_digest_116 : decode cX8_digest 116 = .ok (.aload_n 0, 1) := by decide +kernel
theorem dX8_digest_117 : decode cX8_digest 117 = .ok (.iload_n 3, 1) := by decide +kernel
theorem dX8_digest_118 : decode cX8_digest 118 = .ok (.invokevirtual 233, 3) := by decide +kernel
theorem dX8_digest_121 : decode cX8_digest 121 = .ok (.i2l, 1) := by decide +kernel
theorem dX8_digest_122 : decode cX8_digest 122 = .ok (.ladd, 1) := by decide +kernel
theorem dX8_digest_123 : decode cX8_digest 123 = .ok (.lstore_n 1, 1) := by decide +kernel
theorem dX8_digest_124 : decode cX8_digest 124 = .ok (.iinc 3 1, 3) := by decide +kernel
theorem dX8_digest_127 : decode cX8_digest 127 = .ok (.goto (-21), 3) := by decide +kernel
theorem dX8_digest_130 : decode cX8_digest 130 = .ok (.iconst 0, 1) := by decide +kernel
theorem dX8_digest_131 : decode cX8_digest 131 = .ok (.istore_n 3, 1) := by decide +kernel
theorem dX8_digest_132 : decode cX8_digest 132 = .ok (.iload_n 3, 1) := by decide +kernel
theorem dX8_digest_133 : decode cX8_digest 133 = .ok (.aload_n 0, 1) := by decide +kernel
theorem dX8_digest_134 : decode cX8_digest 134 = .ok (.getfield 10, 3) := by decide +kernel
theorem dX8_digest_137 : decode cX8_digest 137 = .ok (.getfield 70, 3) := by decide +kernel
theorem dX8_digest_140 : decode cX8_digest 140 = .ok (.if_icmp .ge 26, 3) := by decide +kernel
theorem dX8_digest_143 : decode cX8_digest 143 = .ok (.ldc2_w 228, 3) := by decide +kernel
theorem dX8_digest_146 : decode cX8_digest 146 = .ok (.lload_n 1, 1) := by decide +kernel
theorem dX8_digest_147 : decode cX8_digest 147 = .ok (.lmul, 1) := by decide +kernel
theorem dX8_digest_148 : decode cX8_digest 148 = .ok (.aload_n 0, 1) := by decide +kernel
theorem dX8_digest_149 : decode cX8_digest 149 = .ok (.getfield 10, 3) := by decide +kernel
theorem dX8_digest_152 : decode cX8_digest 152 = .ok (.getfield 236, 3) := by decide +kernel
theorem dX8_digest_155 : decode cX8_digest 155 = .ok (.iload_n 3, 1) := by decide +kernel
theorem dX8_digest_156 : decode cX8_digest 156 = .ok (.iaload, 1) := by decide +kernel
theorem dX8_digest_157 : decode cX8_digest 157 = .ok (.i2l, 1) := by decide +kernel
theorem dX8_digest_158 : decode cX8_digest 158 = .ok (.ladd, 1) := by decide +kernel
theorem dX8_digest_159 : decode cX8_digest 159 = .ok (.lstore_n 1, 1) := by decide +kernel
theorem dX8_digest_160 : decode cX8_digest 160 = .ok (.iinc 3 1, 3) := by decide +kernel
theorem dX8_digest_163 : decode cX8_digest 163 = .ok (.goto (-31), 3) := by decide +kernel
theorem dX8_digest_166 : decode cX8_digest 166 = .ok (.iconst 0, 1) := by decide +kernel
theorem dX8_digest_167 : decode cX8_digest 167 = .ok (.istore_n 3, 1) := by decide +kernel
theorem dX8_digest_168 : decode cX8_digest 168 = .ok (.iload_n 3, 1) := by decide +kernel
theorem dX8_digest_169 : decode cX8_digest 169 = .ok (.bipush 7, 2) := by decide +kernel
theorem dX8_digest_171 : decode cX8_digest 171 = .ok (.if_icmp .ge 22, 3) := by decide +kernel
theorem dX8_digest_174 : decode cX8_digest 174 = .ok (.ldc2_w 228, 3) := by decide +kernel
theorem dX8_digest_177 : decode cX8_digest 177 = .ok (.lload_n 1, 1) := by decide +kernel
theorem dX8_digest_178 : decode cX8_digest 178 = .ok (.lmul, 1) := by decide +kernel
theorem dX8_digest_179 : decode cX8_digest 179 = .ok (.aload_n 0, 1) := by decide +kernel
theorem dX8_digest_180 : decode cX8_digest 180 = .ok (.iload_n 3, 1) := by decide +kernel
theorem dX8_digest_181 : decode cX8_digest 181 = .ok (.invokevirtual 239, 3) := by decide +kernel
theorem dX8_digest_184 : decode cX8_digest 184 = .ok (.i2l, 1) := by decide +kernel
theorem dX8_digest_185 : decode cX8_digest 185 = .ok (.ladd, 1) := by decide +kernel
theorem dX8_digest_186 : decode cX8_digest 186 = .ok (.lstore_n 1, 1) := by decide +kernel
theorem dX8_digest_187 : decode cX8_digest 187 = .ok (.iinc 3 1, 3) := by decide +kernel
theorem dX8_digest_190 : decode cX8_digest 190 = .ok (.goto (-22), 3) := by decide +kernel
theorem dX8_digest_193 : decode cX8_digest 193 = .ok (.lload_n 1, 1) := by decide +kernel
theorem dX8_digest_194 : decode cX8_digest 194 = .ok (.lreturn, 1) := by decide +kernel
theorem dX8_isPedal_0 : decode cX8_isPedal 0 = .ok (.iload_n 0, 1) := by decide +kernel
theorem dX8_isPedal_1 : decode cX8_isPedal 1 = .ok (.ifCond .lt 13, 3) := by decide +kernel
theorem dX8_isPedal_4 : decode cX8_isPedal 4 = .ok (.iload_n 0, 1) := by decide +kernel
theorem dX8_isPedal_5 : decode cX8_isPedal 5 = .ok (.bipush 7, 2) := by decide +kernel
theorem dX8_isPedal_7 : decode cX8_isPedal 7 = .ok (.if_icmp .ge 7, 3) := by decide +kernel
theorem dX8_isPedal_10 : decode cX8_isPedal 10 = .ok (.iconst 1, 1) := by decide +kernel
theorem dX8_isPedal_11 : decode cX8_isPedal 11 = .ok (.goto 4, 3) := by decide +kernel
theorem dX8_isPedal_14 : decode cX8_isPedal 14 = .ok (.iconst 0, 1) := by decide +kernel
theorem dX8_isPedal_15 : decode cX8_isPedal 15 = .ok (.ireturn, 1) := by decide +kernel
theorem dX8_isPosition_0 : decode cX8_isPosition 0 = .ok (.iload_n 0, 1) := by decide +kernel
theorem dX8_isPosition_1 : decode cX8_isPosition 1 = .ok (.ifCond .lt 12, 3) := by decide +kernel
theorem dX8_isPosition_4 : decode cX8_isPosition 4 = .ok (.iload_n 0, 1) := by decide +kernel
theorem dX8_isPosition_5 : decode cX8_isPosition 5 = .ok (.iconst 3, 1) := by decide +kernel
theorem dX8_isPosition_6 : decode cX8_isPosition 6 = .ok (.if_icmp .ge 7, 3) := by decide +kernel
theorem dX8_isPosition_9 : decode cX8_isPosition 9 = .ok (.iconst 1, 1) := by decide +kernel
theorem dX8_isPosition_10 : decode cX8_isPosition 10 = .ok (.goto 4, 3) := by decide +kernel
theorem dX8_isPosition_13 : decode cX8_isPosition 13 = .ok (.iconst 0, 1) := by decide +kernel
theorem dX8_isPosition_14 : decode cX8_isPosition 14 = .ok (.ireturn, 1) := by decide +kernel
theorem dX8_isKind_0 : decode cX8_isKind 0 = .ok (.iload_n 0, 1) := by decide +kernel
theorem dX8_isKind_1 : decode cX8_isKind 1 = .ok (.ifCond .lt 12, 3) := by decide +kernel
theorem dX8_isKind_4 : decode cX8_isKind 4 = .ok (.iload_n 0, 1) := by decide +kernel
theorem dX8_isKind_5 : decode cX8_isKind 5 = .ok (.iconst 5, 1) := by decide +kernel
theorem dX8_isKind_6 : decode cX8_isKind 6 = .ok (.if_icmp .ge 7, 3) := by decide +kernel
theorem dX8_isKind_9 : decode cX8_isKind 9 = .ok (.iconst 1, 1) := by decide +kernel
theorem dX8_isKind_10 : decode cX8_isKind 10 = .ok (.goto 4, 3) := by decide +kernel
theorem dX8_isKind_13 : decode cX8_isKind 13 = .ok (.iconst 0, 1) := by decide +kernel
theorem dX8_isKind_14 : decode cX8_isKind 14 = .ok (.ireturn, 1) := by decide +kernel
theorem dX8_isShift_0 : decode cX8_isShift 0 = .ok (.iload_n 0, 1) := by decide +kernel
theorem dX8_isShift_1 : decode cX8_isShift 1 = .ok (.ifCond .lt 13, 3) := by decide +kernel
theorem dX8_isShift_4 : decode cX8_isShift 4 = .ok (.iload_n 0, 1) := by decide +kernel
theorem dX8_isShift_5 : decode cX8_isShift 5 = .ok (.bipush 12, 2) := by decide +kernel
theorem dX8_isShift_7 : decode cX8_isShift 7 = .ok (.if_icmp .ge 7, 3) := by decide +kernel
theorem dX8_isShift_10 : decode cX8_isShift 10 = .ok (.iconst 1, 1) := by decide +kernel
theorem dX8_isShift_11 : decode cX8_isShift 11 = .ok (.goto 4, 3) := by decide +kernel
theorem dX8_isShift_14 : decode cX8_isShift 14 = .ok (.iconst 0, 1) := by decide +kernel
theorem dX8_isShift_15 : decode cX8_isShift 15 = .ok (.ireturn, 1) := by decide +kernel
set_option maxRecDepth 20000 in
theorem ggX8_areTones_J6_bitCount_0f7a4 : GoodIn wsX8_areTones wsJ6_bitCount_0f7a4 := goodIn_r _ [4, 5, 6, 7] (by decide +kernel) (by decide +kernel)
set_option maxRecDepth 20000 in
theorem gX8_areTones_J6_bitCount_0f7a4 : GoodIn wsX8_areTones (va_wsS RX8 221 yJ6_bitCount_0f7a4 wsJ6_bitCount_0f7a4) := goodIn_app (goodIn_of _ (by decide +kernel)) ggX8_areTones_J6_bitCount_0f7a4
theorem dX8_areTones_0 : decode cX8_areTones 0 = .ok (.iload_n 0, 1) := by decide +kernel
theorem dX8_areTones_1 : decode cX8_areTones 1 = .ok (.ifCond .le 22, 3) := by decide +kernel
theorem dX8_areTones_4 : decode cX8_areTones 4 = .ok (.iload_n 0, 1) := by decide +kernel
theorem dX8_areTones_5 : decode cX8_areTones 5 = .ok (.sipush 4095, 3) := by decide +kernel
theorem dX8_areTones_8 : decode cX8_areTones 8 = .ok (.if_icmp .gt 15, 3) := by decide +kernel
theorem dX8_areTones_11 : decode cX8_areTones 11 = .ok (.iload_n 0, 1) := by decide +kernel
theorem dX8_areTones_12 : decode cX8_areTones 12 = .ok (.invokestatic 221, 3) := by decide +kernel
theorem dX8_areTones_15 : decode cX8_areTones 15 = .ok (.iconst 4, 1) := by decide +kernel
theorem dX8_areTones_16 : decode cX8_areTones 16 = .ok (.if_icmp .gt 7, 3) := by decide +kernel
theorem dX8_areTones_19 : decode cX8_areTones 19 = .ok (.iconst 1, 1) := by decide +kernel
theorem dX8_areTones_20 : decode cX8_areTones 20 = .ok (.goto 4, 3) := by decide +kernel
theorem dX8_areTones_23 : decode cX8_areTones 23 = .ok (.iconst 0, 1) := by decide +kernel
theorem dX8_areTones_24 : decode cX8_areTones 24 = .ok (.ireturn, 1) := by decide +kernel
theorem dX8_isHeld_0 : decode cX8_isHeld 0 = .ok (.iload_n 0, 1) := by decide +kernel
theorem dX8_isHeld_1 : decode cX8_isHeld 1 = .ok (.iconst 2, 1) := by decide +kernel
theorem dX8_isHeld_2 : decode cX8_isHeld 2 = .ok (.if_icmp .eq 8, 3) := by decide +kernel
theorem dX8_isHeld_5 : decode cX8_isHeld 5 = .ok (.iload_n 0, 1) := by decide +kernel
theorem dX8_isHeld_6 : decode cX8_isHeld 6 = .ok (.iconst 4, 1) := by decide +kernel
theorem dX8_isHeld_7 : decode cX8_isHeld 7 = .ok (.if_icmp .ne 7, 3) := by decide +kernel
theorem dX8_isHeld_10 : decode cX8_isHeld 10 = .ok (.iconst 1, 1) := by decide +kernel
theorem dX8_isHeld_11 : decode cX8_isHeld 11 = .ok (.goto 4, 3) := by decide +kernel
theorem dX8_isHeld_14 : decode cX8_isHeld 14 = .ok (.iconst 0, 1) := by decide +kernel
theorem dX8_isHeld_15 : decode cX8_isHeld 15 = .ok (.ireturn, 1) := by decide +kernel
theorem dX8_raised_0 : decode cX8_raised 0 = .ok (.iload_n 0, 1) := by decide +kernel
theorem dX8_raised_1 : decode cX8_raised 1 = .ok (.iload_n 1, 1) := by decide +kernel
theorem dX8_raised_2 : decode cX8_raised 2 = .ok (.ishl, 1) := by decide +kernel
theorem dX8_raised_3 : decode cX8_raised 3 = .ok (.iload_n 0, 1) := by decide +kernel
theorem dX8_raised_4 : decode cX8_raised 4 = .ok (.bipush 12, 2) := by decide +kernel
theorem dX8_raised_6 : decode cX8_raised 6 = .ok (.iload_n 1, 1) := by decide +kernel
theorem dX8_raised_7 : decode cX8_raised 7 = .ok (.isub, 1) := by decide +kernel
theorem dX8_raised_8 : decode cX8_raised 8 = .ok (.ishr, 1) := by decide +kernel
theorem dX8_raised_9 : decode cX8_raised 9 = .ok (.ior, 1) := by decide +kernel
theorem dX8_raised_10 : decode cX8_raised 10 = .ok (.sipush 4095, 3) := by decide +kernel
theorem dX8_raised_13 : decode cX8_raised 13 = .ok (.iand, 1) := by decide +kernel
theorem dX8_raised_14 : decode cX8_raised 14 = .ok (.ireturn, 1) := by decide +kernel
end
section
theorem dJ6_bitCount_0f7a4_0 : decode cJ6_bitCount_0f7a4 0 = .ok (.iload_n 0, 1) := by decide +kernel
theorem dJ6_bitCount_0f7a4_1 : decode cJ6_bitCount_0f7a4 1 = .ok (.iload_n 0, 1) := by decide +kernel
theorem dJ6_bitCount_0f7a4_2 : decode cJ6_bitCount_0f7a4 2 = .ok (.iconst 1, 1) := by decide +kernel
theorem dJ6_bitCount_0f7a4_3 : decode cJ6_bitCount_0f7a4 3 = .ok (.iushr, 1) := by decide +kernel
theorem dJ6_bitCount_0f7a4_4 : decode cJ6_bitCount_0f7a4 4 = .ok (.ldc_w 265, 3) := by decide +kernel
theorem dJ6_bitCount_0f7a4_7 : decode cJ6_bitCount_0f7a4 7 = .ok (.iand, 1) := by decide +kernel
theorem dJ6_bitCount_0f7a4_8 : decode cJ6_bitCount_0f7a4 8 = .ok (.isub, 1) := by decide +kernel
theorem dJ6_bitCount_0f7a4_9 : decode cJ6_bitCount_0f7a4 9 = .ok (.istore_n 0, 1) := by decide +kernel
theorem dJ6_bitCount_0f7a4_10 : decode cJ6_bitCount_0f7a4 10 = .ok (.iload_n 0, 1) := by decide +kernel
theorem dJ6_bitCount_0f7a4_11 : decode cJ6_bitCount_0f7a4 11 = .ok (.ldc_w 266, 3) := by decide +kernel
theorem dJ6_bitCount_0f7a4_14 : decode cJ6_bitCount_0f7a4 14 = .ok (.iand, 1) := by decide +kernel
theorem dJ6_bitCount_0f7a4_15 : decode cJ6_bitCount_0f7a4 15 = .ok (.iload_n 0, 1) := by decide +kernel
theorem dJ6_bitCount_0f7a4_16 : decode cJ6_bitCount_0f7a4 16 = .ok (.iconst 2, 1) := by decide +kernel
theorem dJ6_bitCount_0f7a4_17 : decode cJ6_bitCount_0f7a4 17 = .ok (.iushr, 1) := by decide +kernel
theorem dJ6_bitCount_0f7a4_18 : decode cJ6_bitCount_0f7a4 18 = .ok (.ldc_w 266, 3) := by decide +kernel
theorem dJ6_bitCount_0f7a4_21 : decode cJ6_bitCount_0f7a4 21 = .ok (.iand, 1) := by decide +kernel
theorem dJ6_bitCount_0f7a4_22 : decode cJ6_bitCount_0f7a4 22 = .ok (.iadd, 1) := by decide +kernel
theorem dJ6_bitCount_0f7a4_23 : decode cJ6_bitCount_0f7a4 23 = .ok (.istore_n 0, 1) := by decide +kernel
theorem dJ6_bitCount_0f7a4_24 : decode cJ6_bitCount_0f7a4 24 = .ok (.iload_n 0, 1) := by decide +kernel
theorem dJ6_bitCount_0f7a4_25 : decode cJ6_bitCount_0f7a4 25 = .ok (.iload_n 0, 1) := by decide +kernel
theorem dJ6_bitCount_0f7a4_26 : decode cJ6_bitCount_0f7a4 26 = .ok (.iconst 4, 1) := by decide +kernel
theorem dJ6_bitCount_0f7a4_27 : decode cJ6_bitCount_0f7a4 27 = .ok (.iushr, 1) := by decide +kernel
theorem dJ6_bitCount_0f7a4_28 : decode cJ6_bitCount_0f7a4 28 = .ok (.iadd, 1) := by decide +kernel
theorem dJ6_bitCount_0f7a4_29 : decode cJ6_bitCount_0f7a4 29 = .ok (.ldc_w 267, 3) := by decide +kernel
theorem dJ6_bitCount_0f7a4_32 : decode cJ6_bitCount_0f7a4 32 = .ok (.iand, 1) := by decide +kernel
theorem dJ6_bitCount_0f7a4_33 : decode cJ6_bitCount_0f7a4 33 = .ok (.istore_n 0, 1) := by decide +kernel
theorem dJ6_bitCount_0f7a4_34 : decode cJ6_bitCount_0f7a4 34 = .ok (.iload_n 0, 1) := by decide +kernel
theorem dJ6_bitCount_0f7a4_35 : decode cJ6_bitCount_0f7a4 35 = .ok (.iload_n 0, 1) := by decide +kernel
theorem dJ6_bitCount_0f7a4_36 : decode cJ6_bitCount_0f7a4 36 = .ok (.bipush 8, 2) := by decide +kernel
theorem dJ6_bitCount_0f7a4_38 : decode cJ6_bitCount_0f7a4 38 = .ok (.iushr, 1) := by decide +kernel
theorem dJ6_bitCount_0f7a4_39 : decode cJ6_bitCount_0f7a4 39 = .ok (.iadd, 1) := by decide +kernel
theorem dJ6_bitCount_0f7a4_40 : decode cJ6_bitCount_0f7a4 40 = .ok (.istore_n 0, 1) := by decide +kernel
theorem dJ6_bitCount_0f7a4_41 : decode cJ6_bitCount_0f7a4 41 = .ok (.iload_n 0, 1) := by decide +kernel
theorem dJ6_bitCount_0f7a4_42 : decode cJ6_bitCount_0f7a4 42 = .ok (.iload_n 0, 1) := by decide +kernel
theorem dJ6_bitCount_0f7a4_43 : decode cJ6_bitCount_0f7a4 43 = .ok (.bipush 16, 2) := by decide +kernel
theorem dJ6_bitCount_0f7a4_45 : decode cJ6_bitCount_0f7a4 45 = .ok (.iushr, 1) := by decide +kernel
theorem dJ6_bitCount_0f7a4_46 : decode cJ6_bitCount_0f7a4 46 = .ok (.iadd, 1) := by decide +kernel
theorem dJ6_bitCount_0f7a4_47 : decode cJ6_bitCount_0f7a4 47 = .ok (.istore_n 0, 1) := by decide +kernel
theorem dJ6_bitCount_0f7a4_48 : decode cJ6_bitCount_0f7a4 48 = .ok (.iload_n 0, 1) := by decide +kernel
theorem dJ6_bitCount_0f7a4_49 : decode cJ6_bitCount_0f7a4 49 = .ok (.bipush 63, 2) := by decide +kernel
theorem dJ6_bitCount_0f7a4_51 : decode cJ6_bitCount_0f7a4 51 = .ok (.iand, 1) := by decide +kernel
theorem dJ6_bitCount_0f7a4_52 : decode cJ6_bitCount_0f7a4 52 = .ok (.ireturn, 1) := by decide +kernel
theorem dJ9_max_7cf53_0 : decode cJ9_max_7cf53 0 = .ok (.iload_n 0, 1) := by decide +kernel
theorem dJ9_max_7cf53_1 : decode cJ9_max_7cf53 1 = .ok (.iload_n 1, 1) := by decide +kernel
theorem dJ9_max_7cf53_2 : decode cJ9_max_7cf53 2 = .ok (.if_icmp .lt 7, 3) := by decide +kernel
theorem dJ9_max_7cf53_5 : decode cJ9_max_7cf53 5 = .ok (.iload_n 0, 1) := by decide +kernel
theorem dJ9_max_7cf53_6 : decode cJ9_max_7cf53 6 = .ok (.goto 4, 3) := by decide +kernel
theorem dJ9_max_7cf53_9 : decode cJ9_max_7cf53 9 = .ok (.iload_n 1, 1) := by decide +kernel
theorem dJ9_max_7cf53_10 : decode cJ9_max_7cf53 10 = .ok (.ireturn, 1) := by decide +kernel
theorem dJ7_fill_53178_0 : decode cJ7_fill_53178 0 = .ok (.iconst 0, 1) := by decide +kernel
theorem dJ7_fill_53178_1 : decode cJ7_fill_53178 1 = .ok (.istore_n 2, 1) := by decide +kernel
theorem dJ7_fill_53178_2 : decode cJ7_fill_53178 2 = .ok (.aload_n 0, 1) := by decide +kernel
theorem dJ7_fill_53178_3 : decode cJ7_fill_53178 3 = .ok (.arraylength, 1) := by decide +kernel
theorem dJ7_fill_53178_4 : decode cJ7_fill_53178 4 = .ok (.istore_n 3, 1) := by decide +kernel
theorem dJ7_fill_53178_5 : decode cJ7_fill_53178 5 = .ok (.iload_n 2, 1) := by decide +kernel
theorem dJ7_fill_53178_6 : decode cJ7_fill_53178 6 = .ok (.iload_n 3, 1) := by decide +kernel
theorem dJ7_fill_53178_7 : decode cJ7_fill_53178 7 = .ok (.if_icmp .ge 13, 3) := by decide +kernel
theorem dJ7_fill_53178_10 : decode cJ7_fill_53178 10 = .ok (.aload_n 0, 1) := by decide +kernel
theorem dJ7_fill_53178_11 : decode cJ7_fill_53178 11 = .ok (.iload_n 2, 1) := by decide +kernel
theorem dJ7_fill_53178_12 : decode cJ7_fill_53178 12 = .ok (.iload_n 1, 1) := by decide +kernel
theorem dJ7_fill_53178_13 : decode cJ7_fill_53178 13 = .ok (.iastore, 1) := by decide +kernel
theorem dJ7_fill_53178_14 : decode cJ7_fill_53178 14 = .ok (.iinc 2 1, 3) := by decide +kernel
theorem dJ7_fill_53178_17 : decode cJ7_fill_53178 17 = .ok (.goto (-12), 3) := by decide +kernel
theorem dJ7_fill_53178_20 : decode cJ7_fill_53178 20 = .ok (.return_, 1) := by decide +kernel
end
section
def w_X1_append_1 (a1 : Int32) (I : Nat → Int32) (F : Nat → Nat → Int32) (post : Int32 → (Nat → Int32) → (Nat → Nat → Int32) → Prop) : Prop :=
  (((I 2) < (56 : Int32) → vp_in (I 2) 56 ∧ ∀ F2 : Nat → Nat → Int32, F2 = upF F 14 (upd (F 14) ((I 2)).toNatClampNeg a1) → ∀ I3 : Nat → Int32, I3 = upd I 2 ((I 2) + (1 : Int32)) → (((1 : Int32) = 0 ∨ (1 : Int32) = 1) ∧ post (1 : Int32) I3 F2)) ∧ (¬ (I 2) < (56 : Int32) → (((0 : Int32) = 0 ∨ (0 : Int32) = 1) ∧ post (0 : Int32) I F)))
set_option maxHeartbeats 4000000 in
set_option maxRecDepth 100000 in
theorem c_X1_append_1 (l : Launch) (D : va_G) (q : Nat → Nat) (cI cO : ClassId) (hq : cOk q) (a1 : Int32)  (I : Nat → Int32) (F : Nat → Nat → Int32) (post : Int32 → (Nat → Int32) → (Nat → Nat → Int32) → Prop) (h : w_X1_append_1 a1 I F post) : Met l yX1_append wsX1_append ({ frames := 0, cells := 0, slots := 0, locals := 0 } : Room) (gPre D (cTys cI cO) (cW q cI cO I F) (cEnv q) [.ref (q 1), .int a1]) (va_Qi (fun r (u : cS) => post r u.1 u.2) (gB D (fun u : cS => cW q cI cO u.1 u.2)) (cA q)) 0 0 (cA q) := by
  refine gMetZ (by decide) rfl (Nat.le_of_ble_eq_true rfl) ?_
  intro p e R s m args below meth c Q ls hR hx hb hml hown hts hK hE hP hl hret
  have hRf : 0 ≤ R.frames := by subst hR; exact Nat.le_refl _
  have hRl : 0 ≤ R.locals := by subst hR; exact Nat.le_refl _
  have hown : s.vm.findClass RX1 = some m.cls := hown
  have hl : lv_has ls 2 [(0, .ref (q 1)), (1, .int a1)] := hl
  have hS : va_S (cA q) s.heap s.heap [] := va_S.rf
  have hP : va_P D vwCl (cW q cI cO I F) s.heap := hP
  refine lv_aload_n hx hb dX1_append_0 rfl (lv_at hl 0 rfl) ?_
  refine va_get (D := D) (ci := 1) (v := .int (I 2)) (C := RX1) (T := TX1) (N := 2) hx hb hts (fun _ h9 => List.mem_cons_of_mem _ (List.mem_append_right _ h9)) hown hK hP 1 cAt1 rfl 1 (by decide) (hts _ (List.mem_of_getElem? (l := wsX1_append) (i := 1) rfl)) (fun _ h9 => h9) rfl dX1_append_1 ?_
  refine lv_bipush (v := (56 : Int32)) hx hb dX1_append_4 (by decide) ?_
  refine lv_icmp_lt (tgt := 11) hx hb dX1_append_6 (by decide) (fun c1 => ?_) (fun c1 => ?_)
  · have h := h.1 c1
    refine lv_aload_n hx hb dX1_append_11 rfl (lv_at hl 0 rfl) ?_
    refine va_get (D := D) (ci := 1) (v := .ref (q 14)) (C := RX1) (T := TX1) (N := 2) hx hb hts (fun _ h9 => List.mem_cons_of_mem _ (List.mem_append_right _ h9)) hown hK hP 1 cAt1 rfl 0 (by decide) (hts _ (List.mem_of_getElem? (l := wsX1_append) (i := 2) rfl)) (fun _ h9 => h9) rfl dX1_append_12 ?_
    refine lv_aload_n hx hb dX1_append_15 rfl (lv_at hl 0 rfl) ?_
    refine va_get (D := D) (ci := 1) (v := .int (I 2)) (C := RX1) (T := TX1) (N := 2) hx hb hts (fun _ h9 => List.mem_cons_of_mem _ (List.mem_append_right _ h9)) hown hK hP 1 cAt1 rfl 1 (by decide) (hts _ (List.mem_of_getElem? (l := wsX1_append) (i := 1) rfl)) (fun _ h9 => h9) rfl dX1_append_16 ?_
    refine lv_iload_n hx hb dX1_append_19 rfl (lv_at hl 1 rfl) ?_
    refine gAst (D := D) hx hb hK hP (cD hq) hS 14 0 cAr14 rfl h.1 dX1_append_20 (cSA14 _) (fun H locs hP hS => ?_)
    obtain ⟨F2, eF2⟩ : ∃ z : Nat → Nat → Int32, z = upF F 14 (upd (F 14) ((I 2)).toNatClampNeg a1) := ⟨_, rfl⟩
    rw [← eF2] at hP
    have h := h.2 F2 eF2
    refine lv_aload_n hx hb dX1_append_21 rfl (lv_at hl 0 rfl) ?_
    refine lv_dup hx hb dX1_append_22 rfl ?_
    refine va_get (D := D) (ci := 1) (v := .int (I 2)) (C := RX1) (T := TX1) (N := 2) hx hb hts (fun _ h9 => List.mem_cons_of_mem _ (List.mem_append_right _ h9)) hown hK hP 1 cAt1 rfl 1 (by decide) (hts _ (List.mem_of_getElem? (l := wsX1_append) (i := 1) rfl)) (fun _ h9 => h9) rfl dX1_append_23 ?_
    refine lv_iconst (v := (1 : Int32)) hx hb dX1_append_26 (by decide) ?_
    refine lv_iadd hx hb dX1_append_27 ?_
    refine gPut (D := D) (ci := 1) (ty := .int) (C := RX1) (T := TX1) (N := 2) hx hb hts (fun _ h9 => List.mem_cons_of_mem _ (List.mem_append_right _ h9)) tyX1 tyX1_ok nmX1 hown hK hP (cD hq) hS 1 cAt1 rfl 1 (by decide) (hts _ (List.mem_of_getElem? (l := wsX1_append) (i := 1) rfl)) (fun _ h9 => h9) rfl (by decide +kernel) rfl rfl (Nat.le_of_ble_eq_true rfl) dX1_append_28 (cSet2 ((I 2) + (1 : Int32))) (fun H locs hP hS => ?_)
    obtain ⟨I3, eI3⟩ : ∃ z : Nat → Int32, z = upd I 2 ((I 2) + (1 : Int32)) := ⟨_, rfl⟩
    rw [← eI3] at hP
    have h := h I3 eI3
    refine lv_iconst (v := (1 : Int32)) hx hb dX1_append_31 (by decide) ?_
    exact hret (1 : Int32) (I3, F2) _ _ _ _ dX1_append_32 hP hS h.1 h.2
  · have h := h.2 c1
    refine lv_iconst (v := (0 : Int32)) hx hb dX1_append_9 (by decide) ?_
    exact hret (0 : Int32) (I, F) _ _ _ _ dX1_append_10 hP hS h.1 h.2
def w_X8_letter (a1 : Int32) (I : Nat → Int32) (F : Nat → Nat → Int32) (post : Int32 → (Nat → Int32) → (Nat → Nat → Int32) → Prop) : Prop :=
  ((a1 < (1 : Int32) → post (-102 : Int32) I F) ∧ (¬ a1 < (1 : Int32) → ((a1 ≤ (126 : Int32) → w_X1_append_1 a1 I F (fun (r3 : Int32) (I4 : Nat → Int32) (F5 : Nat → Nat → Int32) => ((r3 = 0 → post (-104 : Int32) I4 F5) ∧ (¬ r3 = 0 → post (I4 2) I4 F5)))) ∧ (¬ a1 ≤ (126 : Int32) → post (-102 : Int32) I F))))
set_option maxHeartbeats 4000000 in
set_option maxRecDepth 100000 in
theorem c_X8_letter (l : Launch) (D : va_G) (q : Nat → Nat) (cI cO : ClassId) (hq : cOk q) (a1 : Int32)  (I : Nat → Int32) (F : Nat → Nat → Int32) (post : Int32 → (Nat → Int32) → (Nat → Nat → Int32) → Prop) (h : w_X8_letter a1 I F post) : Met l yX8_letter wsX8_letter ({ frames := 1, cells := 0, slots := 0, locals := 21 } : Room) (gPre D (cTys cI cO) (cW q cI cO I F) (cEnv q) [.ref (q 0), .int a1]) (va_Qi (fun r (u : cS) => post r u.1 u.2) (gB D (fun u : cS => cW q cI cO u.1 u.2)) (cA q)) 0 0 (cA q) := by
  refine gMetI (by decide) rfl (Nat.le_of_ble_eq_true rfl) ?_
  intro p e R s m args below meth c Q ls hR hx hb hml hown hts hK hE hP hl hret
  have hRf : 1 ≤ R.frames := by subst hR; exact Nat.le_refl _
  have hRl : 21 ≤ R.locals := by subst hR; exact Nat.le_refl _
  have hown : s.vm.findClass RX8 = some m.cls := hown
  have hl : lv_has ls 2 [(0, .ref (q 0)), (1, .int a1)] := hl
  have hS : va_S (cA q) s.heap s.heap [] := va_S.rf
  have hP : va_P D vwCl (cW q cI cO I F) s.heap := hP
  refine lv_iload_n hx hb dX8_letter_0 rfl (lv_at hl 1 rfl) ?_
  refine lv_iconst (v := (1 : Int32)) hx hb dX8_letter_1 (by decide) ?_
  refine lv_icmp_lt (tgt := 11) hx hb dX8_letter_2 (by decide) (fun c1 => ?_) (fun c1 => ?_)
  · have h := h.1 c1
    refine lv_bipush (v := (-102 : Int32)) hx hb dX8_letter_11 (by decide) ?_
    exact hret (-102 : Int32) (I, F) _ _ _ _ dX8_letter_13 hP hS h
  · have h := h.2 c1
    refine lv_iload_n hx hb dX8_letter_5 rfl (lv_at hl 1 rfl) ?_
    refine lv_bipush (v := (126 : Int32)) hx hb dX8_letter_6 (by decide) ?_
    refine lv_icmp_le (tgt := 14) hx hb dX8_letter_8 (by decide) (fun c2 => ?_) (fun c2 => ?_)
    · have h := h.1 c2
      refine lv_aload_n hx hb dX8_letter_14 rfl (lv_at hl 0 rfl) ?_
      refine va_get (D := D) (ci := 8) (v := .ref (q 1)) (C := RX8) (T := TX8) (N := 11) hx hb hts (fun _ h9 => List.mem_cons_of_mem _ (List.mem_append_left _ (List.mem_append_right _ h9))) hown hK hP 0 cAt0 rfl 0 (by decide) (hts _ (List.mem_of_getElem? (l := wsX8_letter) (i := 1) rfl)) (fun _ h9 => h9) rfl dX8_letter_15 ?_
      refine lv_iload_n hx hb dX8_letter_18 rfl (lv_at hl 1 rfl) ?_
      refine gCallI (D := D) (va_runV (As := [.int a1]) (rest := []) ⟨hx, hb, hml, hown, hts⟩ (c_X1_append_1 l D q cI cO hq a1  I F _ h) (cwV 1 hts gX8_letter_X1_append rfl rfl rfl (by decide +kernel) ⟨Nat.le_trans (Nat.le_of_ble_eq_true rfl) hRf, Nat.le_trans (Nat.le_of_ble_eq_true rfl) hRl⟩) (gPreV (ci := 1) (q0 := 1) cEok hE hK hP hS rfl cAt1) rfl rfl hl.1 rfl (lv_room (Nat.le_of_ble_eq_true rfl)) dX8_letter_19 ⟨Nat.zero_le _, Nat.zero_le _⟩) hS (fun r3 u H locs hP hS h => ?_)
      obtain ⟨I4, F5⟩ := u
      have hP : va_P D vwCl (cW q cI cO I4 F5) H := hP
      refine lv_if_eq (tgt := 35) hx hb dX8_letter_22 (by decide) (fun c6 => ?_) (fun c6 => ?_)
      · have h := h.1 c6
        refine lv_bipush (v := (-104 : Int32)) hx hb dX8_letter_35 (by decide) ?_
        exact hret (-104 : Int32) (I4, F5) _ _ _ _ dX8_letter_37 hP hS h
      · have h := h.2 c6
        refine lv_aload_n hx hb dX8_letter_25 rfl (lv_at hl 0 rfl) ?_
        refine va_get (D := D) (ci := 8) (v := .ref (q 1)) (C := RX8) (T := TX8) (N := 11) hx hb hts (fun _ h9 => List.mem_cons_of_mem _ (List.mem_append_left _ (List.mem_append_right _ h9))) hown hK hP 0 cAt0 rfl 0 (by decide) (hts _ (List.mem_of_getElem? (l := wsX8_letter) (i := 1) rfl)) (fun _ h9 => h9) rfl dX8_letter_26 ?_
        refine va_getN (D := D) (ci := 1) (v := .int (I4 2)) (C := RX1) (T := TX1) (N := 2) hx hb hts (fun _ h9 => List.mem_cons_of_mem _ (List.mem_append_right _ h9)) hown hK hP 1 cAt1 rfl 1 (by decide) (va_Nw.use rfl (hE.1.1 _ (List.mem_of_getElem? (l := cNF) (i := 1) rfl))) (fun _ h9 => h9) rfl dX8_letter_29 ?_
        refine lv_goto (tgt := 37) hx hb dX8_letter_32 (by decide) ?_
        exact hret (I4 2) (I4, F5) _ _ _ _ dX8_letter_37 hP hS h
    · have h := h.2 c2
      refine lv_bipush (v := (-102 : Int32)) hx hb dX8_letter_11 (by decide) ?_
      exact hret (-102 : Int32) (I, F) _ _ _ _ dX8_letter_13 hP hS h
def w_X1_clear_1  (I : Nat → Int32) (F : Nat → Nat → Int32) (post : Int32 → (Nat → Int32) → (Nat → Nat → Int32) → Prop) : Prop :=
  ∀ v1 : Int32, v1 = (I 2) → ∀ I2 : Nat → Int32, I2 = upd I 2 (0 : Int32) → post v1 I2 F
set_option maxHeartbeats 4000000 in
set_option maxRecDepth 100000 in
theorem c_X1_clear_1 (l : Launch) (D : va_G) (q : Nat → Nat) (cI cO : ClassId) (hq : cOk q)   (I : Nat → Int32) (F : Nat → Nat → Int32) (post : Int32 → (Nat → Int32) → (Nat → Nat → Int32) → Prop) (h : w_X1_clear_1  I F post) : Met l yX1_clear wsX1_clear ({ frames := 0, cells := 0, slots := 0, locals := 0 } : Room) (gPre D (cTys cI cO) (cW q cI cO I F) (cEnv q) [.ref (q 1)]) (va_Qi (fun r (u : cS) => post r u.1 u.2) (gB D (fun u : cS => cW q cI cO u.1 u.2)) (cA q)) 0 0 (cA q) := by
  refine gMetI (by decide) rfl (Nat.le_of_ble_eq_true rfl) ?_
  intro p e R s m args below meth c Q ls hR hx hb hml hown hts hK hE hP hl hret
  have hRf : 0 ≤ R.frames := by subst hR; exact Nat.le_refl _
  have hRl : 0 ≤ R.locals := by subst hR; exact Nat.le_refl _
  have hown : s.vm.findClass RX1 = some m.cls := hown
  have hl : lv_has ls 2 [(0, .ref (q 1))] := hl
  have hS : va_S (cA q) s.heap s.heap [] := va_S.rf
  have hP : va_P D vwCl (cW q cI cO I F) s.heap := hP
  refine lv_aload_n hx hb dX1_clear_0 rfl (lv_at hl 0 rfl) ?_
  refine va_get (D := D) (ci := 1) (v := .int (I 2)) (C := RX1) (T := TX1) (N := 2) hx hb hts (fun _ h9 => List.mem_cons_of_mem _ (List.mem_append_right _ h9)) hown hK hP 1 cAt1 rfl 1 (by decide) (hts _ (List.mem_of_getElem? (l := wsX1_clear) (i := 1) rfl)) (fun _ h9 => h9) rfl dX1_clear_1 ?_
  refine lv_topi (fun v1 ev1 => ?_)
  have h := h v1 ev1
  refine lv_istore_n (lv' := [(1, .int v1), (0, .ref (q 1))]) hx hb dX1_clear_4 rfl hl (by decide) rfl (fun ls hl => ?_)
  refine lv_aload_n hx hb dX1_clear_5 rfl (lv_at hl 1 rfl) ?_
  refine lv_iconst (v := (0 : Int32)) hx hb dX1_clear_6 (by decide) ?_
  refine gPut (D := D) (ci := 1) (ty := .int) (C := RX1) (T := TX1) (N := 2) hx hb hts (fun _ h9 => List.mem_cons_of_mem _ (List.mem_append_right _ h9)) tyX1 tyX1_ok nmX1 hown hK hP (cD hq) hS 1 cAt1 rfl 1 (by decide) (hts _ (List.mem_of_getElem? (l := wsX1_clear) (i := 1) rfl)) (fun _ h9 => h9) rfl (by decide +kernel) rfl rfl (Nat.le_of_ble_eq_true rfl) dX1_clear_7 (cSet2 (0 : Int32)) (fun H locs hP hS => ?_)
  obtain ⟨I2, eI2⟩ : ∃ z : Nat → Int32, z = upd I 2 (0 : Int32) := ⟨_, rfl⟩
  rw [← eI2] at hP
  have h := h I2 eI2
  refine lv_iload_n hx hb dX1_clear_10 rfl (lv_at hl 0 rfl) ?_
  exact hret v1 (I2, F) _ _ _ _ dX1_clear_11 hP hS h
def w_X8_blank  (I : Nat → Int32) (F : Nat → Nat → Int32) (post : Int32 → (Nat → Int32) → (Nat → Nat → Int32) → Prop) : Prop :=
  w_X1_clear_1 I F (fun (r1 : Int32) (I2 : Nat → Int32) (F3 : Nat → Nat → Int32) => post r1 I2 F3)
set_option maxHeartbeats 4000000 in
set_option maxRecDepth 100000 in
theorem c_X8_blank (l : Launch) (D : va_G) (q : Nat → Nat) (cI cO : ClassId) (hq : cOk q)   (I : Nat → Int32) (F : Nat → Nat → Int32) (post : Int32 → (Nat → Int32) → (Nat → Nat → Int32) → Prop) (h : w_X8_blank  I F post) : Met l yX8_blank wsX8_blank ({ frames := 1, cells := 0, slots := 0, locals := 21 } : Room) (gPre D (cTys cI cO) (cW q cI cO I F) (cEnv q) [.ref (q 0)]) (va_Qi (fun r (u : cS) => post r u.1 u.2) (gB D (fun u : cS => cW q cI cO u.1 u.2)) (cA q)) 0 0 (cA q) := by
  refine gMetI (by decide) rfl (Nat.le_of_ble_eq_true rfl) ?_
  intro p e R s m args below meth c Q ls hR hx hb hml hown hts hK hE hP hl hret
  have hRf : 1 ≤ R.frames := by subst hR; exact Nat.le_refl _
  have hRl : 21 ≤ R.locals := by subst hR; exact Nat.le_refl _
  have hown : s.vm.findClass RX8 = some m.cls := hown
  have hl : lv_has ls 1 [(0, .ref (q 0))] := hl
  have hS : va_S (cA q) s.heap s.heap [] := va_S.rf
  have hP : va_P D vwCl (cW q cI cO I F) s.heap := hP
  refine lv_aload_n hx hb dX8_blank_0 rfl (lv_at hl 0 rfl) ?_
  refine va_get (D := D) (ci := 8) (v := .ref (q 1)) (C := RX8) (T := TX8) (N := 11) hx hb hts (fun _ h9 => List.mem_cons_of_mem _ (List.mem_append_left _ (List.mem_append_right _ h9))) hown hK hP 0 cAt0 rfl 0 (by decide) (hts _ (List.mem_of_getElem? (l := wsX8_blank) (i := 1) rfl)) (fun _ h9 => h9) rfl dX8_blank_1 ?_
  refine gCallI (D := D) (va_runV (As := []) (rest := []) ⟨hx, hb, hml, hown, hts⟩ (c_X1_clear_1 l D q cI cO hq   I F _ h) (cwV 0 hts gX8_blank_X1_clear rfl rfl rfl (by decide +kernel) ⟨Nat.le_trans (Nat.le_of_ble_eq_true rfl) hRf, Nat.le_trans (Nat.le_of_ble_eq_true rfl) hRl⟩) (gPreV (ci := 1) (q0 := 1) cEok hE hK hP hS rfl cAt1) rfl rfl hl.1 rfl (lv_room (Nat.le_of_ble_eq_true rfl)) dX8_blank_4 ⟨Nat.zero_le _, Nat.zero_le _⟩) hS (fun r1 u H locs hP hS h => ?_)
  obtain ⟨I2, F3⟩ := u
  have hP : va_P D vwCl (cW q cI cO I2 F3) H := hP
  exact hret r1 (I2, F3) _ _ _ _ dX8_blank_7 hP hS h
def w_X2_tonesOfLast_3  (I : Nat → Int32) (F : Nat → Nat → Int32) (post : Int32 → Prop) : Prop :=
  ((¬ (I 6) = 0 → vp_in ((I 6) - (1 : Int32)) 8 ∧ post (F 16 (((I 6) - (1 : Int32))).toNatClampNeg)) ∧ ((I 6) = 0 → post (0 : Int32)))
set_option maxHeartbeats 4000000 in
set_option maxRecDepth 100000 in
theorem c_X2_tonesOfLast_3 (l : Launch) (D : va_G) (q : Nat → Nat) (cI cO : ClassId) (hq : cOk q)   (I : Nat → Int32) (F : Nat → Nat → Int32) (post : Int32 → Prop) (h : w_X2_tonesOfLast_3  I F post) : Met l yX2_tonesOfLast wsX2_tonesOfLast ({ frames := 0, cells := 0, slots := 0, locals := 0 } : Room) (gPre D (cTys cI cO) (cW q cI cO I F) (cEnv q) [.ref (q 3)]) (va_Qi (fun r (_ : Unit) => post r) (gB D (fun _ : Unit => cW q cI cO I F)) (cA q)) 0 0 (cA q) := by
  refine gMetI (by decide) rfl (Nat.le_of_ble_eq_true rfl) ?_
  intro p e R s m args below meth c Q ls hR hx hb hml hown hts hK hE hP hl hret
  have hRf : 0 ≤ R.frames := by subst hR; exact Nat.le_refl _
  have hRl : 0 ≤ R.locals := by subst hR; exact Nat.le_refl _
  have hown : s.vm.findClass RX2 = some m.cls := hown
  have hl : lv_has ls 1 [(0, .ref (q 3))] := hl
  have hS : va_S (cA q) s.heap s.heap [] := va_S.rf
  have hP : va_P D vwCl (cW q cI cO I F) s.heap := hP
  refine lv_aload_n hx hb dX2_tonesOfLast_0 rfl (lv_at hl 0 rfl) ?_
  refine va_get (D := D) (ci := 2) (v := .int (I 6)) (C := RX2) (T := TX2) (N := 4) hx hb hts (fun _ h9 => List.mem_cons_of_mem _ (List.mem_append_right _ h9)) hown hK hP 3 cAt3 rfl 1 (by decide) (hts _ (List.mem_of_getElem? (l := wsX2_tonesOfLast) (i := 1) rfl)) (fun _ h9 => h9) rfl dX2_tonesOfLast_1 ?_
  refine lv_if_ne (tgt := 11) hx hb dX2_tonesOfLast_4 (by decide) (fun c1 => ?_) (fun c1 => ?_)
  · have h := h.1 c1
    refine lv_aload_n hx hb dX2_tonesOfLast_11 rfl (lv_at hl 0 rfl) ?_
    refine va_get (D := D) (ci := 2) (v := .ref (q 16)) (C := RX2) (T := TX2) (N := 4) hx hb hts (fun _ h9 => List.mem_cons_of_mem _ (List.mem_append_right _ h9)) hown hK hP 3 cAt3 rfl 3 (by decide) (hts _ (List.mem_of_getElem? (l := wsX2_tonesOfLast) (i := 2) rfl)) (fun _ h9 => h9) rfl dX2_tonesOfLast_12 ?_
    refine lv_aload_n hx hb dX2_tonesOfLast_15 rfl (lv_at hl 0 rfl) ?_
    refine va_get (D := D) (ci := 2) (v := .int (I 6)) (C := RX2) (T := TX2) (N := 4) hx hb hts (fun _ h9 => List.mem_cons_of_mem _ (List.mem_append_right _ h9)) hown hK hP 3 cAt3 rfl 1 (by decide) (hts _ (List.mem_of_getElem? (l := wsX2_tonesOfLast) (i := 1) rfl)) (fun _ h9 => h9) rfl dX2_tonesOfLast_16 ?_
    refine lv_iconst (v := (1 : Int32)) hx hb dX2_tonesOfLast_19 (by decide) ?_
    refine lv_isub hx hb dX2_tonesOfLast_20 ?_
    refine va_iald (D := D) hx hb hK hP 16 0 cAr16 rfl h.1 dX2_tonesOfLast_21 ?_
    have h := h.2
    exact hret (F 16 (((I 6) - (1 : Int32))).toNatClampNeg) () _ _ _ _ dX2_tonesOfLast_22 hP hS h
  · have h := h.2 c1
    refine lv_iconst (v := (0 : Int32)) hx hb dX2_tonesOfLast_7 (by decide) ?_
    refine lv_goto (tgt := 22) hx hb dX2_tonesOfLast_8 (by decide) ?_
    exact hret (0 : Int32) () _ _ _ _ dX2_tonesOfLast_22 hP hS h
def w_J6_bitCount_0f7a4 (a0 : Int32) (I : Nat → Int32) (F : Nat → Nat → Int32) (post : Int32 → Prop) : Prop :=
  ∀ v1 : Int32, v1 = (a0 - ((((a0).toUInt32 >>> (((1 : Int32)).toUInt32 &&& Int32.toUInt32 31)).toInt32) &&& (1431655765 : Int32))) → ∀ v2 : Int32, v2 = ((v1 &&& (858993459 : Int32)) + ((((v1).toUInt32 >>> (((2 : Int32)).toUInt32 &&& Int32.toUInt32 31)).toInt32) &&& (858993459 : Int32))) → ∀ v3 : Int32, v3 = ((v2 + (((v2).toUInt32 >>> (((4 : Int32)).toUInt32 &&& Int32.toUInt32 31)).toInt32)) &&& (252645135 : Int32)) → ∀ v4 : Int32, v4 = (v3 + (((v3).toUInt32 >>> (((8 : Int32)).toUInt32 &&& Int32.toUInt32 31)).toInt32)) → ∀ v5 : Int32, v5 = (v4 + (((v4).toUInt32 >>> (((16 : Int32)).toUInt32 &&& Int32.toUInt32 31)).toInt32)) → post (v5 &&& (63 : Int32))
set_option maxHeartbeats 4000000 in
set_option maxRecDepth 100000 in
theorem c_J6_bitCount_0f7a4 (l : Launch) (D : va_G) (q : Nat → Nat) (cI cO : ClassId) (hq : cOk q) (a0 : Int32)  (I : Nat → Int32) (F : Nat → Nat → Int32) (post : Int32 → Prop) (h : w_J6_bitCount_0f7a4 a0 I F post) : Met l yJ6_bitCount_0f7a4 wsJ6_bitCount_0f7a4 ({ frames := 0, cells := 0, slots := 0, locals := 0 } : Room) (gPre D (cTys cI cO) (cW q cI cO I F) (cEnv q) [.int a0]) (va_Qi (fun r (_ : Unit) => post r) (gB D (fun _ : Unit => cW q cI cO I F)) (cA q)) 0 0 (cA q) := by
  refine gMetI (by decide) rfl (Nat.le_of_ble_eq_true rfl) ?_
  intro p e R s m args below meth c Q ls hR hx hb hml hown hts hK hE hP hl hret
  have hRf : 0 ≤ R.frames := by subst hR; exact Nat.le_refl _
  have hRl : 0 ≤ R.locals := by subst hR; exact Nat.le_refl _
  have hown : s.vm.findClass RJ6 = some m.cls := hown
  have hl : lv_has ls 1 [(0, .int a0)] := hl
  have hS : va_S (cA q) s.heap s.heap [] := va_S.rf
  have hP : va_P D vwCl (cW q cI cO I F) s.heap := hP
  refine lv_iload_n hx hb dJ6_bitCount_0f7a4_0 rfl (lv_at hl 0 rfl) ?_
  refine lv_iload_n hx hb dJ6_bitCount_0f7a4_1 rfl (lv_at hl 0 rfl) ?_
  refine lv_iconst (v := (1 : Int32)) hx hb dJ6_bitCount_0f7a4_2 (by decide) ?_
  refine lv_iushr (v := ((a0).toUInt32 >>> (((1 : Int32)).toUInt32 &&& Int32.toUInt32 31)).toInt32) hx hb dJ6_bitCount_0f7a4_3 rfl ?_
  refine lv_ldcw (v := (1431655765 : Int32)) hx hb hown (hts _ (List.mem_of_getElem? (l := wsJ6_bitCount_0f7a4) (i := 1) rfl)) dJ6_bitCount_0f7a4_4 ?_
  refine lv_iand hx hb dJ6_bitCount_0f7a4_7 ?_
  refine lv_isub hx hb dJ6_bitCount_0f7a4_8 ?_
  refine lv_topi (fun v1 ev1 => ?_)
  have h := h v1 ev1
  refine lv_istore_n (lv' := [(0, .int v1)]) hx hb dJ6_bitCount_0f7a4_9 rfl hl (by decide) rfl (fun ls hl => ?_)
  refine lv_iload_n hx hb dJ6_bitCount_0f7a4_10 rfl (lv_at hl 0 rfl) ?_
  refine lv_ldcw (v := (858993459 : Int32)) hx hb hown (hts _ (List.mem_of_getElem? (l := wsJ6_bitCount_0f7a4) (i := 2) rfl)) dJ6_bitCount_0f7a4_11 ?_
  refine lv_iand hx hb dJ6_bitCount_0f7a4_14 ?_
  refine lv_iload_n hx hb dJ6_bitCount_0f7a4_15 rfl (lv_at hl 0 rfl) ?_
  refine lv_iconst (v := (2 : Int32)) hx hb dJ6_bitCount_0f7a4_16 (by decide) ?_
  refine lv_iushr (v := ((v1).toUInt32 >>> (((2 : Int32)).toUInt32 &&& Int32.toUInt32 31)).toInt32) hx hb dJ6_bitCount_0f7a4_17 rfl ?_
  refine lv_ldcw (v := (858993459 : Int32)) hx hb hown (hts _ (List.mem_of_getElem? (l := wsJ6_bitCount_0f7a4) (i := 2) rfl)) dJ6_bitCount_0f7a4_18 ?_
  refine lv_iand hx hb dJ6_bitCount_0f7a4_21 ?_
  refine lv_iadd hx hb dJ6_bitCount_0f7a4_22 ?_
  refine lv_topi (fun v2 ev2 => ?_)
  have h := h v2 ev2
  refine lv_istore_n (lv' := [(0, .int v2)]) hx hb dJ6_bitCount_0f7a4_23 rfl hl (by decide) rfl (fun ls hl => ?_)
  refine lv_iload_n hx hb dJ6_bitCount_0f7a4_24 rfl (lv_at hl 0 rfl) ?_
  refine lv_iload_n hx hb dJ6_bitCount_0f7a4_25 rfl (lv_at hl 0 rfl) ?_
  refine lv_iconst (v := (4 : Int32)) hx hb dJ6_bitCount_0f7a4_26 (by decide) ?_
  refine lv_iushr (v := ((v2).toUInt32 >>> (((4 : Int32)).toUInt32 &&& Int32.toUInt32 31)).toInt32) hx hb dJ6_bitCount_0f7a4_27 rfl ?_
  refine lv_iadd hx hb dJ6_bitCount_0f7a4_28 ?_
  refine lv_ldcw (v := (252645135 : Int32)) hx hb hown (hts _ (List.mem_of_getElem? (l := wsJ6_bitCount_0f7a4) (i := 3) rfl)) dJ6_bitCount_0f7a4_29 ?_
  refine lv_iand hx hb dJ6_bitCount_0f7a4_32 ?_
  refine lv_topi (fun v3 ev3 => ?_)
  have h := h v3 ev3
  refine lv_istore_n (lv' := [(0, .int v3)]) hx hb dJ6_bitCount_0f7a4_33 rfl hl (by decide) rfl (fun ls hl => ?_)
  refine lv_iload_n hx hb dJ6_bitCount_0f7a4_34 rfl (lv_at hl 0 rfl) ?_
  refine lv_iload_n hx hb dJ6_bitCount_0f7a4_35 rfl (lv_at hl 0 rfl) ?_
  refine lv_bipush (v := (8 : Int32)) hx hb dJ6_bitCount_0f7a4_36 (by decide) ?_
  refine lv_iushr (v := ((v3).toUInt32 >>> (((8 : Int32)).toUInt32 &&& Int32.toUInt32 31)).toInt32) hx hb dJ6_bitCount_0f7a4_38 rfl ?_
  refine lv_iadd hx hb dJ6_bitCount_0f7a4_39 ?_
  refine lv_topi (fun v4 ev4 => ?_)
  have h := h v4 ev4
  refine lv_istore_n (lv' := [(0, .int v4)]) hx hb dJ6_bitCount_0f7a4_40 rfl hl (by decide) rfl (fun ls hl => ?_)
  refine lv_iload_n hx hb dJ6_bitCount_0f7a4_41 rfl (lv_at hl 0 rfl) ?_
  refine lv_iload_n hx hb dJ6_bitCount_0f7a4_42 rfl (lv_at hl 0 rfl) ?_
  refine lv_bipush (v := (16 : Int32)) hx hb dJ6_bitCount_0f7a4_43 (by decide) ?_
  refine lv_iushr (v := ((v4).toUInt32 >>> (((16 : Int32)).toUInt32 &&& Int32.toUInt32 31)).toInt32) hx hb dJ6_bitCount_0f7a4_45 rfl ?_
  refine lv_iadd hx hb dJ6_bitCount_0f7a4_46 ?_
  refine lv_topi (fun v5 ev5 => ?_)
  have h := h v5 ev5
  refine lv_istore_n (lv' := [(0, .int v5)]) hx hb dJ6_bitCount_0f7a4_47 rfl hl (by decide) rfl (fun ls hl => ?_)
  refine lv_iload_n hx hb dJ6_bitCount_0f7a4_48 rfl (lv_at hl 0 rfl) ?_
  refine lv_bipush (v := (63 : Int32)) hx hb dJ6_bitCount_0f7a4_49 (by decide) ?_
  refine lv_iand hx hb dJ6_bitCount_0f7a4_51 ?_
  exact hret (v5 &&& (63 : Int32)) () _ _ _ _ dJ6_bitCount_0f7a4_52 hP hS h
def w_X2_addToLast_3 (a1 : Int32) (I : Nat → Int32) (F : Nat → Nat → Int32) (post : (Nat → Int32) → (Nat → Nat → Int32) → Prop) : Prop :=
  (((I 6) ≤ 0 → post I F) ∧ (¬ (I 6) ≤ 0 → vp_in ((I 6) - (1 : Int32)) 8 ∧ vp_in ((I 6) - (1 : Int32)) 8 ∧ ∀ F2 : Nat → Nat → Int32, F2 = upF F 16 (upd (F 16) (((I 6) - (1 : Int32))).toNatClampNeg ((F 16 (((I 6) - (1 : Int32))).toNatClampNeg) ||| a1)) → post I F2))
set_option maxHeartbeats 4000000 in
set_option maxRecDepth 100000 in
theorem c_X2_addToLast_3 (l : Launch) (D : va_G) (q : Nat → Nat) (cI cO : ClassId) (hq : cOk q) (a1 : Int32)  (I : Nat → Int32) (F : Nat → Nat → Int32) (post : (Nat → Int32) → (Nat → Nat → Int32) → Prop) (h : w_X2_addToLast_3 a1 I F post) : Met l yX2_addToLast wsX2_addToLast ({ frames := 0, cells := 0, slots := 0, locals := 0 } : Room) (gPre D (cTys cI cO) (cW q cI cO I F) (cEnv q) [.ref (q 3), .int a1]) (va_Qv (fun (u : cS) => post u.1 u.2) (gB D (fun u : cS => cW q cI cO u.1 u.2)) (cA q)) 0 0 (cA q) := by
  refine gMetV (by decide) rfl (Nat.le_of_ble_eq_true rfl) ?_
  intro p e R s m args below meth c Q ls hR hx hb hml hown hts hK hE hP hl hret
  have hRf : 0 ≤ R.frames := by subst hR; exact Nat.le_refl _
  have hRl : 0 ≤ R.locals := by subst hR; exact Nat.le_refl _
  have hown : s.vm.findClass RX2 = some m.cls := hown
  have hl : lv_has ls 2 [(0, .ref (q 3)), (1, .int a1)] := hl
  have hS : va_S (cA q) s.heap s.heap [] := va_S.rf
  have hP : va_P D vwCl (cW q cI cO I F) s.heap := hP
  refine lv_aload_n hx hb dX2_addToLast_0 rfl (lv_at hl 0 rfl) ?_
  refine va_get (D := D) (ci := 2) (v := .int (I 6)) (C := RX2) (T := TX2) (N := 4) hx hb hts (fun _ h9 => List.mem_cons_of_mem _ (List.mem_append_right _ h9)) hown hK hP 3 cAt3 rfl 1 (by decide) (hts _ (List.mem_of_getElem? (l := wsX2_addToLast) (i := 1) rfl)) (fun _ h9 => h9) rfl dX2_addToLast_1 ?_
  refine lv_if_le (tgt := 22) hx hb dX2_addToLast_4 (by decide) (fun c1 => ?_) (fun c1 => ?_)
  · have h := h.1 c1
    exact hret (I, F) _ _ _ _ dX2_addToLast_22 hP hS h
  · have h := h.2 c1
    refine lv_aload_n hx hb dX2_addToLast_7 rfl (lv_at hl 0 rfl) ?_
    refine va_get (D := D) (ci := 2) (v := .ref (q 16)) (C := RX2) (T := TX2) (N := 4) hx hb hts (fun _ h9 => List.mem_cons_of_mem _ (List.mem_append_right _ h9)) hown hK hP 3 cAt3 rfl 3 (by decide) (hts _ (List.mem_of_getElem? (l := wsX2_addToLast) (i := 2) rfl)) (fun _ h9 => h9) rfl dX2_addToLast_8 ?_
    refine lv_aload_n hx hb dX2_addToLast_11 rfl (lv_at hl 0 rfl) ?_
    refine va_get (D := D) (ci := 2) (v := .int (I 6)) (C := RX2) (T := TX2) (N := 4) hx hb hts (fun _ h9 => List.mem_cons_of_mem _ (List.mem_append_right _ h9)) hown hK hP 3 cAt3 rfl 1 (by decide) (hts _ (List.mem_of_getElem? (l := wsX2_addToLast) (i := 1) rfl)) (fun _ h9 => h9) rfl dX2_addToLast_12 ?_
    refine lv_iconst (v := (1 : Int32)) hx hb dX2_addToLast_15 (by decide) ?_
    refine lv_isub hx hb dX2_addToLast_16 ?_
    refine lv_dup2_11 hx hb dX2_addToLast_17 rfl rfl ?_
    refine va_iald (D := D) hx hb hK hP 16 0 cAr16 rfl h.1 dX2_addToLast_18 ?_
    have h := h.2
    refine lv_iload_n hx hb dX2_addToLast_19 rfl (lv_at hl 1 rfl) ?_
    refine lv_ior hx hb dX2_addToLast_20 ?_
    refine gAst (D := D) hx hb hK hP (cD hq) hS 16 0 cAr16 rfl h.1 dX2_addToLast_21 (cSA16 _) (fun H locs hP hS => ?_)
    obtain ⟨F2, eF2⟩ : ∃ z : Nat → Nat → Int32, z = upF F 16 (upd (F 16) (((I 6) - (1 : Int32))).toNatClampNeg ((F 16 (((I 6) - (1 : Int32))).toNatClampNeg) ||| a1)) := ⟨_, rfl⟩
    rw [← eF2] at hP
    have h := h.2 F2 eF2
    exact hret (I, F2) _ _ _ _ dX2_addToLast_22 hP hS h
def w_X5_acceptTone_2 (a1 : Int32) (I : Nat → Int32) (F : Nat → Nat → Int32) (post : Int32 → (Nat → Int32) → (Nat → Nat → Int32) → Prop) : Prop :=
  ∀ v1 : Int32, v1 = (a1 - (97 : Int32)) → w_X2_tonesOfLast_3 I F (fun (r2 : Int32) => ((v1 < 0 → (((0 : Int32) = 0 ∨ (0 : Int32) = 1) ∧ post (0 : Int32) I F)) ∧ (¬ v1 < 0 → (((12 : Int32) ≤ v1 → (((0 : Int32) = 0 ∨ (0 : Int32) = 1) ∧ post (0 : Int32) I F)) ∧ (¬ (12 : Int32) ≤ v1 → w_J6_bitCount_0f7a4 r2 I F (fun (r5 : Int32) => ((r5 < (4 : Int32) → (((r2 >>> (v1 &&& 31)) = 0 → w_X2_addToLast_3 ((1 : Int32) <<< (v1 &&& 31)) I F (fun (I8 : Nat → Int32) (F9 : Nat → Nat → Int32) => (((1 : Int32) = 0 ∨ (1 : Int32) = 1) ∧ post (1 : Int32) I8 F9))) ∧ (¬ (r2 >>> (v1 &&& 31)) = 0 → (((0 : Int32) = 0 ∨ (0 : Int32) = 1) ∧ post (0 : Int32) I F)))) ∧ (¬ r5 < (4 : Int32) → (((0 : Int32) = 0 ∨ (0 : Int32) = 1) ∧ post (0 : Int32) I F)))))))))
set_option maxHeartbeats 4000000 in
set_option maxRecDepth 100000 in
theorem c_X5_acceptTone_2 (l : Launch) (D : va_G) (q : Nat → Nat) (cI cO : ClassId) (hq : cOk q) (a1 : Int32)  (I : Nat → Int32) (F : Nat → Nat → Int32) (post : Int32 → (Nat → Int32) → (Nat → Nat → Int32) → Prop) (h : w_X5_acceptTone_2 a1 I F post) : Met l yX5_acceptTone wsX5_acceptTone ({ frames := 1, cells := 0, slots := 0, locals := 21 } : Room) (gPre D (cTys cI cO) (cW q cI cO I F) (cEnv q) [.ref (q 2), .int a1]) (va_Qi (fun r (u : cS) => post r u.1 u.2) (gB D (fun u : cS => cW q cI cO u.1 u.2)) (cA q)) 0 0 (cA q) := by
  refine gMetZ (by decide) rfl (Nat.le_of_ble_eq_true rfl) ?_
  intro p e R s m args below meth c Q ls hR hx hb hml hown hts hK hE hP hl hret
  have hRf : 1 ≤ R.frames := by subst hR; exact Nat.le_refl _
  have hRl : 21 ≤ R.locals := by subst hR; exact Nat.le_refl _
  have hown : s.vm.findClass RX5 = some m.cls := hown
  have hl : lv_has ls 4 [(0, .ref (q 2)), (1, .int a1)] := hl
  have hS : va_S (cA q) s.heap s.heap [] := va_S.rf
  have hP : va_P D vwCl (cW q cI cO I F) s.heap := hP
  refine lv_iload_n hx hb dX5_acceptTone_0 rfl (lv_at hl 1 rfl) ?_
  refine lv_bipush (v := (97 : Int32)) hx hb dX5_acceptTone_1 (by decide) ?_
  refine lv_isub hx hb dX5_acceptTone_3 ?_
  refine lv_topi (fun v1 ev1 => ?_)
  have h := h v1 ev1
  refine lv_istore_n (lv' := [(2, .int v1), (0, .ref (q 2)), (1, .int a1)]) hx hb dX5_acceptTone_4 rfl hl (by decide) rfl (fun ls hl => ?_)
  refine lv_aload_n hx hb dX5_acceptTone_5 rfl (lv_at hl 1 rfl) ?_
  refine va_get (D := D) (ci := 5) (v := .ref (q 3)) (C := RX5) (T := TX5) (N := 3) hx hb hts (fun _ h9 => List.mem_cons_of_mem _ (List.mem_append_left _ (List.mem_append_right _ h9))) hown hK hP 2 cAt2 rfl 0 (by decide) (hts _ (List.mem_of_getElem? (l := wsX5_acceptTone) (i := 1) rfl)) (fun _ h9 => h9) rfl dX5_acceptTone_6 ?_
  refine gCallI (D := D) (va_runV (As := []) (rest := []) ⟨hx, hb, hml, hown, hts⟩ (c_X2_tonesOfLast_3 l D q cI cO hq   I F _ h) (cwV 0 hts gX5_acceptTone_X2_tonesOfLast rfl rfl rfl (by decide +kernel) ⟨Nat.le_trans (Nat.le_of_ble_eq_true rfl) hRf, Nat.le_trans (Nat.le_of_ble_eq_true rfl) hRl⟩) (gPreV (ci := 2) (q0 := 3) cEok hE hK hP hS rfl cAt3) rfl rfl hl.1 rfl (lv_room (Nat.le_of_ble_eq_true rfl)) dX5_acceptTone_9 ⟨Nat.zero_le _, Nat.zero_le _⟩) hS (fun r2 _ H locs hP hS h => ?_)
  have hP : va_P D vwCl (cW q cI cO I F) H := hP
  refine lv_istore_n (lv' := [(3, .int r2), (2, .int v1), (0, .ref (q 2)), (1, .int a1)]) hx hb dX5_acceptTone_12 rfl hl (by decide) rfl (fun ls hl => ?_)
  refine lv_iload_n hx hb dX5_acceptTone_13 rfl (lv_at hl 1 rfl) ?_
  refine lv_if_lt (tgt := 31) hx hb dX5_acceptTone_14 (by decide) (fun c3 => ?_) (fun c3 => ?_)
  · have h := h.1 c3
    refine lv_iconst (v := (0 : Int32)) hx hb dX5_acceptTone_31 (by decide) ?_
    exact hret (0 : Int32) (I, F) _ _ _ _ dX5_acceptTone_32 hP hS h.1 h.2
  · have h := h.2 c3
    refine lv_iload_n hx hb dX5_acceptTone_17 rfl (lv_at hl 1 rfl) ?_
    refine lv_bipush (v := (12 : Int32)) hx hb dX5_acceptTone_18 (by decide) ?_
    refine lv_icmp_ge (tgt := 31) hx hb dX5_acceptTone_20 (by decide) (fun c4 => ?_) (fun c4 => ?_)
    · have h := h.1 c4
      refine lv_iconst (v := (0 : Int32)) hx hb dX5_acceptTone_31 (by decide) ?_
      exact hret (0 : Int32) (I, F) _ _ _ _ dX5_acceptTone_32 hP hS h.1 h.2
    · have h := h.2 c4
      refine lv_iload_n hx hb dX5_acceptTone_23 rfl (lv_at hl 0 rfl) ?_
      refine gCallI (D := D) (va_runS (As := [.int r2]) (rest := []) ⟨hx, hb, hml, hown, hts⟩ (c_J6_bitCount_0f7a4 l D q cI cO hq r2  I F _ h) (va_cwS 1 hts gX5_acceptTone_J6_bitCount_0f7a4 rfl rfl rfl (by decide +kernel) ⟨Nat.le_trans (Nat.le_of_ble_eq_true rfl) hRf, Nat.le_trans (Nat.le_of_ble_eq_true rfl) hRl⟩) (gPreS cEok hE hK hP hS) rfl rfl hl.1 rfl (lv_room (Nat.le_of_ble_eq_true rfl)) dX5_acceptTone_24 ⟨Nat.zero_le _, Nat.zero_le _⟩) hS (fun r5 _ H locs hP hS h => ?_)
      have hP : va_P D vwCl (cW q cI cO I F) H := hP
      refine lv_iconst (v := (4 : Int32)) hx hb dX5_acceptTone_27 (by decide) ?_
      refine lv_icmp_lt (tgt := 33) hx hb dX5_acceptTone_28 (by decide) (fun c6 => ?_) (fun c6 => ?_)
      · have h := h.1 c6
        refine lv_iload_n hx hb dX5_acceptTone_33 rfl (lv_at hl 0 rfl) ?_
        refine lv_iload_n hx hb dX5_acceptTone_34 rfl (lv_at hl 1 rfl) ?_
        refine lv_ishr hx hb dX5_acceptTone_35 ?_
        refine lv_if_eq (tgt := 41) hx hb dX5_acceptTone_36 (by decide) (fun c7 => ?_) (fun c7 => ?_)
        · have h := h.1 c7
          refine lv_aload_n hx hb dX5_acceptTone_41 rfl (lv_at hl 2 rfl) ?_
          refine va_get (D := D) (ci := 5) (v := .ref (q 3)) (C := RX5) (T := TX5) (N := 3) hx hb hts (fun _ h9 => List.mem_cons_of_mem _ (List.mem_append_left _ (List.mem_append_right _ h9))) hown hK hP 2 cAt2 rfl 0 (by decide) (hts _ (List.mem_of_getElem? (l := wsX5_acceptTone) (i := 1) rfl)) (fun _ h9 => h9) rfl dX5_acceptTone_42 ?_
          refine lv_iconst (v := (1 : Int32)) hx hb dX5_acceptTone_45 (by decide) ?_
          refine lv_iload_n hx hb dX5_acceptTone_46 rfl (lv_at hl 1 rfl) ?_
          refine lv_ishl hx hb dX5_acceptTone_47 ?_
          refine gCallV (D := D) (va_runV (As := [.int ((1 : Int32) <<< (v1 &&& 31))]) (rest := []) ⟨hx, hb, hml, hown, hts⟩ (c_X2_addToLast_3 l D q cI cO hq ((1 : Int32) <<< (v1 &&& 31))  I F _ h) (cwV 1 hts gX5_acceptTone_X2_addToLast rfl rfl rfl (by decide +kernel) ⟨Nat.le_trans (Nat.le_of_ble_eq_true rfl) hRf, Nat.le_trans (Nat.le_of_ble_eq_true rfl) hRl⟩) (gPreV (ci := 2) (q0 := 3) cEok hE hK hP hS rfl cAt3) rfl rfl hl.1 rfl (lv_room (Nat.le_of_ble_eq_true rfl)) dX5_acceptTone_48 ⟨Nat.zero_le _, Nat.zero_le _⟩) hS (fun u H locs hP hS h => ?_)
          obtain ⟨I8, F9⟩ := u
          have hP : va_P D vwCl (cW q cI cO I8 F9) H := hP
          refine lv_iconst (v := (1 : Int32)) hx hb dX5_acceptTone_51 (by decide) ?_
          exact hret (1 : Int32) (I8, F9) _ _ _ _ dX5_acceptTone_52 hP hS h.1 h.2
        · have h := h.2 c7
          refine lv_iconst (v := (0 : Int32)) hx hb dX5_acceptTone_39 (by decide) ?_
          exact hret (0 : Int32) (I, F) _ _ _ _ dX5_acceptTone_40 hP hS h.1 h.2
      · have h := h.2 c6
        refine lv_iconst (v := (0 : Int32)) hx hb dX5_acceptTone_31 (by decide) ?_
        exact hret (0 : Int32) (I, F) _ _ _ _ dX5_acceptTone_32 hP hS h.1 h.2
def w_X5_acceptComma_2 (a1 : Int32) (I : Nat → Int32) (F : Nat → Nat → Int32) (post : Int32 → (Nat → Int32) → (Nat → Nat → Int32) → Prop) : Prop :=
  ((¬ a1 = (44 : Int32) → (((0 : Int32) = 0 ∨ (0 : Int32) = 1) ∧ post (0 : Int32) I F)) ∧ (a1 = (44 : Int32) → w_X2_tonesOfLast_3 I F (fun (r2 : Int32) => ((r2 = 0 → (((0 : Int32) = 0 ∨ (0 : Int32) = 1) ∧ post (0 : Int32) I F)) ∧ (¬ r2 = 0 → (((I 6) < (8 : Int32) → ∀ I5 : Nat → Int32, I5 = upd I 4 (1 : Int32) → (((1 : Int32) = 0 ∨ (1 : Int32) = 1) ∧ post (1 : Int32) I5 F)) ∧ (¬ (I 6) < (8 : Int32) → (((0 : Int32) = 0 ∨ (0 : Int32) = 1) ∧ post (0 : Int32) I F))))))))
set_option maxHeartbeats 4000000 in
set_option maxRecDepth 100000 in
theorem c_X5_acceptComma_2 (l : Launch) (D : va_G) (q : Nat → Nat) (cI cO : ClassId) (hq : cOk q) (a1 : Int32)  (I : Nat → Int32) (F : Nat → Nat → Int32) (post : Int32 → (Nat → Int32) → (Nat → Nat → Int32) → Prop) (h : w_X5_acceptComma_2 a1 I F post) : Met l yX5_acceptComma wsX5_acceptComma ({ frames := 1, cells := 0, slots := 0, locals := 20 } : Room) (gPre D (cTys cI cO) (cW q cI cO I F) (cEnv q) [.ref (q 2), .int a1]) (va_Qi (fun r (u : cS) => post r u.1 u.2) (gB D (fun u : cS => cW q cI cO u.1 u.2)) (cA q)) 0 0 (cA q) := by
  refine gMetZ (by decide) rfl (Nat.le_of_ble_eq_true rfl) ?_
  intro p e R s m args below meth c Q ls hR hx hb hml hown hts hK hE hP hl hret
  have hRf : 1 ≤ R.frames := by subst hR; exact Nat.le_refl _
  have hRl : 20 ≤ R.locals := by subst hR; exact Nat.le_refl _
  have hown : s.vm.findClass RX5 = some m.cls := hown
  have hl : lv_has ls 2 [(0, .ref (q 2)), (1, .int a1)] := hl
  have hS : va_S (cA q) s.heap s.heap [] := va_S.rf
  have hP : va_P D vwCl (cW q cI cO I F) s.heap := hP
  refine lv_iload_n hx hb dX5_acceptComma_0 rfl (lv_at hl 1 rfl) ?_
  refine lv_bipush (v := (44 : Int32)) hx hb dX5_acceptComma_1 (by decide) ?_
  refine lv_icmp_ne (tgt := 28) hx hb dX5_acceptComma_3 (by decide) (fun c1 => ?_) (fun c1 => ?_)
  · have h := h.1 c1
    refine lv_iconst (v := (0 : Int32)) hx hb dX5_acceptComma_28 (by decide) ?_
    exact hret (0 : Int32) (I, F) _ _ _ _ dX5_acceptComma_29 hP hS h.1 h.2
  · have h := h.2 c1
    refine lv_aload_n hx hb dX5_acceptComma_6 rfl (lv_at hl 0 rfl) ?_
    refine va_get (D := D) (ci := 5) (v := .ref (q 3)) (C := RX5) (T := TX5) (N := 3) hx hb hts (fun _ h9 => List.mem_cons_of_mem _ (List.mem_append_left _ (List.mem_append_right _ h9))) hown hK hP 2 cAt2 rfl 0 (by decide) (hts _ (List.mem_of_getElem? (l := wsX5_acceptComma) (i := 1) rfl)) (fun _ h9 => h9) rfl dX5_acceptComma_7 ?_
    refine gCallI (D := D) (va_runV (As := []) (rest := []) ⟨hx, hb, hml, hown, hts⟩ (c_X2_tonesOfLast_3 l D q cI cO hq   I F _ h) (cwV 0 hts gX5_acceptComma_X2_tonesOfLast rfl rfl rfl (by decide +kernel) ⟨Nat.le_trans (Nat.le_of_ble_eq_true rfl) hRf, Nat.le_trans (Nat.le_of_ble_eq_true rfl) hRl⟩) (gPreV (ci := 2) (q0 := 3) cEok hE hK hP hS rfl cAt3) rfl rfl hl.1 rfl (lv_room (Nat.le_of_ble_eq_true rfl)) dX5_acceptComma_10 ⟨Nat.zero_le _, Nat.zero_le _⟩) hS (fun r2 _ H locs hP hS h => ?_)
    have hP : va_P D vwCl (cW q cI cO I F) H := hP
    refine lv_if_eq (tgt := 28) hx hb dX5_acceptComma_13 (by decide) (fun c3 => ?_) (fun c3 => ?_)
    · have h := h.1 c3
      refine lv_iconst (v := (0 : Int32)) hx hb dX5_acceptComma_28 (by decide) ?_
      exact hret (0 : Int32) (I, F) _ _ _ _ dX5_acceptComma_29 hP hS h.1 h.2
    · have h := h.2 c3
      refine lv_aload_n hx hb dX5_acceptComma_16 rfl (lv_at hl 0 rfl) ?_
      refine va_get (D := D) (ci := 5) (v := .ref (q 3)) (C := RX5) (T := TX5) (N := 3) hx hb hts (fun _ h9 => List.mem_cons_of_mem _ (List.mem_append_left _ (List.mem_append_right _ h9))) hown hK hP 2 cAt2 rfl 0 (by decide) (hts _ (List.mem_of_getElem? (l := wsX5_acceptComma) (i := 1) rfl)) (fun _ h9 => h9) rfl dX5_acceptComma_17 ?_
      refine va_getN (D := D) (ci := 2) (v := .int (I 6)) (C := RX2) (T := TX2) (N := 4) hx hb hts (fun _ h9 => List.mem_cons_of_mem _ (List.mem_append_right _ h9)) hown hK hP 3 cAt3 rfl 1 (by decide) (va_Nw.use rfl (hE.1.1 _ (List.mem_of_getElem? (l := cNF) (i := 7) rfl))) (fun _ h9 => h9) rfl dX5_acceptComma_20 ?_
      refine lv_bipush (v := (8 : Int32)) hx hb dX5_acceptComma_23 (by decide) ?_
      refine lv_icmp_lt (tgt := 30) hx hb dX5_acceptComma_25 (by decide) (fun c4 => ?_) (fun c4 => ?_)
      · have h := h.1 c4
        refine lv_aload_n hx hb dX5_acceptComma_30 rfl (lv_at hl 0 rfl) ?_
        refine lv_iconst (v := (1 : Int32)) hx hb dX5_acceptComma_31 (by decide) ?_
        refine gPut (D := D) (ci := 5) (ty := .boolean) (C := RX5) (T := TX5) (N := 3) hx hb hts (fun _ h9 => List.mem_cons_of_mem _ (List.mem_append_left _ (List.mem_append_right _ h9))) tyX5 tyX5_ok nmX5 hown hK hP (cD hq) hS 2 cAt2 rfl 2 (by decide) (hts _ (List.mem_of_getElem? (l := wsX5_acceptComma) (i := 2) rfl)) (fun _ h9 => h9) rfl (by decide +kernel) (by decide) (by decide) (Nat.le_of_ble_eq_true rfl) dX5_acceptComma_32 (cSet4 (1 : Int32)) (fun H locs hP hS => ?_)
        obtain ⟨I5, eI5⟩ : ∃ z : Nat → Int32, z = upd I 4 (1 : Int32) := ⟨_, rfl⟩
        rw [← eI5] at hP
        have h := h I5 eI5
        refine lv_iconst (v := (1 : Int32)) hx hb dX5_acceptComma_35 (by decide) ?_
        exact hret (1 : Int32) (I5, F) _ _ _ _ dX5_acceptComma_36 hP hS h.1 h.2
      · have h := h.2 c4
        refine lv_iconst (v := (0 : Int32)) hx hb dX5_acceptComma_28 (by decide) ?_
        exact hret (0 : Int32) (I, F) _ _ _ _ dX5_acceptComma_29 hP hS h.1 h.2
def w_X5_kindOf (a0 : Int32) (I : Nat → Int32) (F : Nat → Nat → Int32) (post : Int32 → Prop) : Prop :=
  ((a0 = (98 : Int32) → post (4 : Int32)) ∧ (a0 = (99 : Int32) → post (0 : Int32)) ∧ (a0 = (103 : Int32) → post (1 : Int32)) ∧ (a0 = (104 : Int32) → post (2 : Int32)) ∧ (a0 = (113 : Int32) → post (3 : Int32)) ∧ (¬ a0 = (98 : Int32) → ¬ a0 = (99 : Int32) → ¬ a0 = (103 : Int32) → ¬ a0 = (104 : Int32) → ¬ a0 = (113 : Int32) → post (-1 : Int32)))
set_option maxHeartbeats 4000000 in
set_option maxRecDepth 100000 in
theorem c_X5_kindOf (l : Launch) (D : va_G) (q : Nat → Nat) (cI cO : ClassId) (hq : cOk q) (a0 : Int32)  (I : Nat → Int32) (F : Nat → Nat → Int32) (post : Int32 → Prop) (h : w_X5_kindOf a0 I F post) : Met l yX5_kindOf wsX5_kindOf ({ frames := 0, cells := 0, slots := 0, locals := 0 } : Room) (gPre D (cTys cI cO) (cW q cI cO I F) (cEnv q) [.int a0]) (va_Qi (fun r (_ : Unit) => post r) (gB D (fun _ : Unit => cW q cI cO I F)) (cA q)) 0 0 (cA q) := by
  refine gMetI (by decide) rfl (Nat.le_of_ble_eq_true rfl) ?_
  intro p e R s m args below meth c Q ls hR hx hb hml hown hts hK hE hP hl hret
  have hRf : 0 ≤ R.frames := by subst hR; exact Nat.le_refl _
  have hRl : 0 ≤ R.locals := by subst hR; exact Nat.le_refl _
  have hown : s.vm.findClass RX5 = some m.cls := hown
  have hl : lv_has ls 1 [(0, .int a0)] := hl
  have hS : va_S (cA q) s.heap s.heap [] := va_S.rf
  have hP : va_P D vwCl (cW q cI cO I F) s.heap := hP
  refine lv_iload_n hx hb dX5_kindOf_0 rfl (lv_at hl 0 rfl) ?_
  by_cases c1_0 : a0 = (98 : Int32)
  · have h := h.1 c1_0
    refine lv_lookup (tgt := 60) (off := 59) hx hb dX5_kindOf_1 (by decide) (by rw [c1_0]; rfl) (by decide) ?_
    refine lv_iconst (v := (4 : Int32)) hx hb dX5_kindOf_60 (by decide) ?_
    exact hret (4 : Int32) () _ _ _ _ dX5_kindOf_61 hP hS h
  by_cases c1_1 : a0 = (99 : Int32)
  · have h := h.2.1 c1_1
    refine lv_lookup (tgt := 52) (off := 51) hx hb dX5_kindOf_1 (by decide) (by rw [c1_1]; rfl) (by decide) ?_
    refine lv_iconst (v := (0 : Int32)) hx hb dX5_kindOf_52 (by decide) ?_
    exact hret (0 : Int32) () _ _ _ _ dX5_kindOf_53 hP hS h
  by_cases c1_2 : a0 = (103 : Int32)
  · have h := h.2.2.1 c1_2
    refine lv_lookup (tgt := 54) (off := 53) hx hb dX5_kindOf_1 (by decide) (by rw [c1_2]; rfl) (by decide) ?_
    refine lv_iconst (v := (1 : Int32)) hx hb dX5_kindOf_54 (by decide) ?_
    exact hret (1 : Int32) () _ _ _ _ dX5_kindOf_55 hP hS h
  by_cases c1_3 : a0 = (104 : Int32)
  · have h := h.2.2.2.1 c1_3
    refine lv_lookup (tgt := 56) (off := 55) hx hb dX5_kindOf_1 (by decide) (by rw [c1_3]; rfl) (by decide) ?_
    refine lv_iconst (v := (2 : Int32)) hx hb dX5_kindOf_56 (by decide) ?_
    exact hret (2 : Int32) () _ _ _ _ dX5_kindOf_57 hP hS h
  by_cases c1_4 : a0 = (113 : Int32)
  · have h := h.2.2.2.2.1 c1_4
    refine lv_lookup (tgt := 58) (off := 57) hx hb dX5_kindOf_1 (by decide) (by rw [c1_4]; rfl) (by decide) ?_
    refine lv_iconst (v := (3 : Int32)) hx hb dX5_kindOf_58 (by decide) ?_
    exact hret (3 : Int32) () _ _ _ _ dX5_kindOf_59 hP hS h
  have h := h.2.2.2.2.2 c1_0 c1_1 c1_2 c1_3 c1_4
  refine lv_lookup (tgt := 62) (off := 61) hx hb dX5_kindOf_1 (by decide) ((lv_osw c1_0 rfl).trans ((lv_osw c1_1 rfl).trans ((lv_osw c1_2 rfl).trans ((lv_osw c1_3 rfl).trans ((lv_osw c1_4 rfl).trans rfl))))) (by decide) ?_
  refine lv_iconst (v := (-1 : Int32)) hx hb dX5_kindOf_62 (by decide) ?_
  exact hret (-1 : Int32) () _ _ _ _ dX5_kindOf_63 hP hS h
def w_X2_insert_3_B29 (x1 : Int32) (x2 : Int32) (x3 : Int32) (k again : Int32 → (Nat → Int32) → (Nat → Nat → Int32) → Prop) (x4 : Int32) (I : Nat → Int32) (F : Nat → Nat → Int32) : Prop :=
  ((x4 ≤ x1 → k x4 I F) ∧ (¬ x4 ≤ x1 → vp_in (x4 - (1 : Int32)) 8 ∧ vp_in x4 8 ∧ ∀ F2 : Nat → Nat → Int32, F2 = upF F 15 (upd (F 15) (x4).toNatClampNeg (F 15 ((x4 - (1 : Int32))).toNatClampNeg)) → vp_in (x4 - (1 : Int32)) 8 ∧ vp_in x4 8 ∧ ∀ F3 : Nat → Nat → Int32, F3 = upF F2 16 (upd (F2 16) (x4).toNatClampNeg (F2 16 ((x4 - (1 : Int32))).toNatClampNeg)) → again (x4 + (-1 : Int32)) I F3))
def w_X2_insert_3 (a1 : Int32) (a2 : Int32) (a3 : Int32) (I : Nat → Int32) (F : Nat → Nat → Int32) (post : Int32 → (Nat → Int32) → (Nat → Nat → Int32) → Prop) : Prop :=
  (((8 : Int32) ≤ (I 6) → (((0 : Int32) = 0 ∨ (0 : Int32) = 1) ∧ post (0 : Int32) I F)) ∧ (¬ (8 : Int32) ≤ (I 6) → ((a1 < 0 → (((0 : Int32) = 0 ∨ (0 : Int32) = 1) ∧ post (0 : Int32) I F)) ∧ (¬ a1 < 0 → ((a1 ≤ (I 6) → ∀ v7 : Int32, v7 = (I 6) → gL (fun again v => w_X2_insert_3_B29 a1 a2 a3 (fun (y8 : Int32) (I9 : Nat → Int32) (F10 : Nat → Nat → Int32) => vp_in a1 8 ∧ ∀ F11 : Nat → Nat → Int32, F11 = upF F10 15 (upd (F10 15) (a1).toNatClampNeg a2) → vp_in a1 8 ∧ ∀ F12 : Nat → Nat → Int32, F12 = upF F11 16 (upd (F11 16) (a1).toNatClampNeg a3) → ∀ I13 : Nat → Int32, I13 = upd I9 6 ((I9 6) + (1 : Int32)) → (((1 : Int32) = 0 ∨ (1 : Int32) = 1) ∧ post (1 : Int32) I13 F12)) (fun b0 b1 b2 => again (b0, b1, b2)) v.1 v.2.1 v.2.2) (v7, I, F)) ∧ (¬ a1 ≤ (I 6) → (((0 : Int32) = 0 ∨ (0 : Int32) = 1) ∧ post (0 : Int32) I F)))))))
set_option maxHeartbeats 4000000 in
set_option maxRecDepth 100000 in
theorem c_X2_insert_3 (l : Launch) (D : va_G) (q : Nat → Nat) (cI cO : ClassId) (hq : cOk q) (a1 : Int32) (a2 : Int32) (a3 : Int32)  (I : Nat → Int32) (F : Nat → Nat → Int32) (post : Int32 → (Nat → Int32) → (Nat → Nat → Int32) → Prop) (h : w_X2_insert_3 a1 a2 a3 I F post) : Met l yX2_insert wsX2_insert ({ frames := 0, cells := 0, slots := 0, locals := 0 } : Room) (gPre D (cTys cI cO) (cW q cI cO I F) (cEnv q) [.ref (q 3), .int a1, .int a2, .int a3]) (va_Qi (fun r (u : cS) => post r u.1 u.2) (gB D (fun u : cS => cW q cI cO u.1 u.2)) (cA q)) 0 0 (cA q) := by
  refine gMetZ (by decide) rfl (Nat.le_of_ble_eq_true rfl) ?_
  intro p e R s m args below meth c Q ls hR hx hb hml hown hts hK hE hP hl hret
  have hRf : 0 ≤ R.frames := by subst hR; exact Nat.le_refl _
  have hRl : 0 ≤ R.locals := by subst hR; exact Nat.le_refl _
  have hown : s.vm.findClass RX2 = some m.cls := hown
  have hl : lv_has ls 5 [(0, .ref (q 3)), (1, .int a1), (2, .int a2), (3, .int a3)] := hl
  have hS : va_S (cA q) s.heap s.heap [] := va_S.rf
  have hP : va_P D vwCl (cW q cI cO I F) s.heap := hP
  have L29 : ∀ (n : Nat) (x1 : Int32) (x2 : Int32) (x3 : Int32) (k : Int32 → (Nat → Int32) → (Nat → Nat → Int32) → Prop) (x4 : Int32) (I : Nat → Int32) (F : Nat → Nat → Int32) (H : Heap) (locs : List Loc) (ls : Array Slot), va_P D vwCl (cW q cI cO I F) H → va_S (cA q) s.heap H locs → lv_has ls 5 [(0, .ref (q 3)), (1, .int x1), (2, .int x2), (3, .int x3), (4, .int x4)] → gLN (fun again v => w_X2_insert_3_B29 x1 x2 x3 k (fun b0 b1 b2 => again (b0, b1, b2)) v.1 v.2.1 v.2.2) n (x4, I, F) → (∀ (x4 : Int32) (I : Nat → Int32) (F : Nat → Nat → Int32) (H : Heap) (locs : List Loc) (ls : Array Slot), va_P D vwCl (cW q cI cO I F) H → va_S (cA q) s.heap H locs → lv_has ls 5 [(0, .ref (q 3)), (1, .int x1), (2, .int x2), (3, .int x3)] → k x4 I F → W p l e R s m args below meth c H locs 0 0 Q (F0 m 73 ls [])) → W p l e R s m args below meth c H locs 0 0 Q (F0 m 29 ls []) := by
    intro n
    induction n with
    | zero =>
      intro x1 x2 x3 k x4 I F H locs ls  hP hS hl h K
      exact False.elim h
    | succ n ih =>
      intro x1 x2 x3 k x4 I F H locs ls  hP hS hl h K
      have h : w_X2_insert_3_B29 x1 x2 x3 k (fun b0 b1 b2 => gLN (fun again v => w_X2_insert_3_B29 x1 x2 x3 k (fun b0 b1 b2 => again (b0, b1, b2)) v.1 v.2.1 v.2.2) n (b0, b1, b2)) x4 I F := h
      refine lv_iload hx hb dX2_insert_29 (lv_at hl 4 rfl) ?_
      refine lv_iload_n hx hb dX2_insert_31 rfl (lv_at hl 1 rfl) ?_
      refine lv_icmp_le (tgt := 73) hx hb dX2_insert_32 (by decide) (fun c1 => ?_) (fun c1 => ?_)
      · have h := h.1 c1
        exact K x4 I F _ _ _  hP hS (lv_sub hl [0, 1, 2, 3] rfl) h
      · have h := h.2 c1
        refine lv_aload_n hx hb dX2_insert_35 rfl (lv_at hl 0 rfl) ?_
        refine va_get (D := D) (ci := 2) (v := .ref (q 15)) (C := RX2) (T := TX2) (N := 4) hx hb hts (fun _ h9 => List.mem_cons_of_mem _ (List.mem_append_right _ h9)) hown hK hP 3 cAt3 rfl 2 (by decide) (hts _ (List.mem_of_getElem? (l := wsX2_insert) (i := 2) rfl)) (fun _ h9 => h9) rfl dX2_insert_36 ?_
        refine lv_iload hx hb dX2_insert_39 (lv_at hl 4 rfl) ?_
        refine lv_aload_n hx hb dX2_insert_41 rfl (lv_at hl 0 rfl) ?_
        refine va_get (D := D) (ci := 2) (v := .ref (q 15)) (C := RX2) (T := TX2) (N := 4) hx hb hts (fun _ h9 => List.mem_cons_of_mem _ (List.mem_append_right _ h9)) hown hK hP 3 cAt3 rfl 2 (by decide) (hts _ (List.mem_of_getElem? (l := wsX2_insert) (i := 2) rfl)) (fun _ h9 => h9) rfl dX2_insert_42 ?_
        refine lv_iload hx hb dX2_insert_45 (lv_at hl 4 rfl) ?_
        refine lv_iconst (v := (1 : Int32)) hx hb dX2_insert_47 (by decide) ?_
        refine lv_isub hx hb dX2_insert_48 ?_
        refine va_iald (D := D) hx hb hK hP 15 0 cAr15 rfl h.1 dX2_insert_49 ?_
        have h := h.2
        refine gAst (D := D) hx hb hK hP (cD hq) hS 15 0 cAr15 rfl h.1 dX2_insert_50 (cSA15 _) (fun H locs hP hS => ?_)
        obtain ⟨F2, eF2⟩ : ∃ z : Nat → Nat → Int32, z = upF F 15 (upd (F 15) (x4).toNatClampNeg (F 15 ((x4 - (1 : Int32))).toNatClampNeg)) := ⟨_, rfl⟩
        rw [← eF2] at hP
        have h := h.2 F2 eF2
        refine lv_aload_n hx hb dX2_insert_51 rfl (lv_at hl 0 rfl) ?_
        refine va_get (D := D) (ci := 2) (v := .ref (q 16)) (C := RX2) (T := TX2) (N := 4) hx hb hts (fun _ h9 => List.mem_cons_of_mem _ (List.mem_append_right _ h9)) hown hK hP 3 cAt3 rfl 3 (by decide) (hts _ (List.mem_of_getElem? (l := wsX2_insert) (i := 3) rfl)) (fun _ h9 => h9) rfl dX2_insert_52 ?_
        refine lv_iload hx hb dX2_insert_55 (lv_at hl 4 rfl) ?_
        refine lv_aload_n hx hb dX2_insert_57 rfl (lv_at hl 0 rfl) ?_
        refine va_get (D := D) (ci := 2) (v := .ref (q 16)) (C := RX2) (T := TX2) (N := 4) hx hb hts (fun _ h9 => List.mem_cons_of_mem _ (List.mem_append_right _ h9)) hown hK hP 3 cAt3 rfl 3 (by decide) (hts _ (List.mem_of_getElem? (l := wsX2_insert) (i := 3) rfl)) (fun _ h9 => h9) rfl dX2_insert_58 ?_
        refine lv_iload hx hb dX2_insert_61 (lv_at hl 4 rfl) ?_
        refine lv_iconst (v := (1 : Int32)) hx hb dX2_insert_63 (by decide) ?_
        refine lv_isub hx hb dX2_insert_64 ?_
        refine va_iald (D := D) hx hb hK hP 16 0 cAr16 rfl h.1 dX2_insert_65 ?_
        have h := h.2
        refine gAst (D := D) hx hb hK hP (cD hq) hS 16 0 cAr16 rfl h.1 dX2_insert_66 (cSA16 _) (fun H locs hP hS => ?_)
        obtain ⟨F3, eF3⟩ : ∃ z : Nat → Nat → Int32, z = upF F2 16 (upd (F2 16) (x4).toNatClampNeg (F2 16 ((x4 - (1 : Int32))).toNatClampNeg)) := ⟨_, rfl⟩
        rw [← eF3] at hP
        have h := h.2 F3 eF3
        refine lv_iinc (v := (x4 + (-1 : Int32))) (lv' := [(4, .int (x4 + (-1 : Int32))), (0, .ref (q 3)), (1, .int x1), (2, .int x2), (3, .int x3)]) hx hb dX2_insert_67 hl (k := 4) rfl rfl (by decide) rfl (fun ls hl => ?_)
        refine lv_goto (tgt := 29) hx hb dX2_insert_70 (by decide) ?_
        exact ih x1 x2 x3 _ (x4 + (-1 : Int32)) I F3 _ _ _  hP hS (lv_sub hl [1, 2, 3, 4, 0] rfl) h K
  refine lv_aload_n hx hb dX2_insert_0 rfl (lv_at hl 0 rfl) ?_
  refine va_get (D := D) (ci := 2) (v := .int (I 6)) (C := RX2) (T := TX2) (N := 4) hx hb hts (fun _ h9 => List.mem_cons_of_mem _ (List.mem_append_right _ h9)) hown hK hP 3 cAt3 rfl 1 (by decide) (hts _ (List.mem_of_getElem? (l := wsX2_insert) (i := 1) rfl)) (fun _ h9 => h9) rfl dX2_insert_1 ?_
  refine lv_bipush (v := (8 : Int32)) hx hb dX2_insert_4 (by decide) ?_
  refine lv_icmp_ge (tgt := 21) hx hb dX2_insert_6 (by decide) (fun c4 => ?_) (fun c4 => ?_)
  · have h := h.1 c4
    refine lv_iconst (v := (0 : Int32)) hx hb dX2_insert_21 (by decide) ?_
    exact hret (0 : Int32) (I, F) _ _ _ _ dX2_insert_22 hP hS h.1 h.2
  · have h := h.2 c4
    refine lv_iload_n hx hb dX2_insert_9 rfl (lv_at hl 1 rfl) ?_
    refine lv_if_lt (tgt := 21) hx hb dX2_insert_10 (by decide) (fun c5 => ?_) (fun c5 => ?_)
    · have h := h.1 c5
      refine lv_iconst (v := (0 : Int32)) hx hb dX2_insert_21 (by decide) ?_
      exact hret (0 : Int32) (I, F) _ _ _ _ dX2_insert_22 hP hS h.1 h.2
    · have h := h.2 c5
      refine lv_iload_n hx hb dX2_insert_13 rfl (lv_at hl 1 rfl) ?_
      refine lv_aload_n hx hb dX2_insert_14 rfl (lv_at hl 0 rfl) ?_
      refine va_get (D := D) (ci := 2) (v := .int (I 6)) (C := RX2) (T := TX2) (N := 4) hx hb hts (fun _ h9 => List.mem_cons_of_mem _ (List.mem_append_right _ h9)) hown hK hP 3 cAt3 rfl 1 (by decide) (hts _ (List.mem_of_getElem? (l := wsX2_insert) (i := 1) rfl)) (fun _ h9 => h9) rfl dX2_insert_15 ?_
      refine lv_icmp_le (tgt := 23) hx hb dX2_insert_18 (by decide) (fun c6 => ?_) (fun c6 => ?_)
      · have h := h.1 c6
        refine lv_aload_n hx hb dX2_insert_23 rfl (lv_at hl 0 rfl) ?_
        refine va_get (D := D) (ci := 2) (v := .int (I 6)) (C := RX2) (T := TX2) (N := 4) hx hb hts (fun _ h9 => List.mem_cons_of_mem _ (List.mem_append_right _ h9)) hown hK hP 3 cAt3 rfl 1 (by decide) (hts _ (List.mem_of_getElem? (l := wsX2_insert) (i := 1) rfl)) (fun _ h9 => h9) rfl dX2_insert_24 ?_
        refine lv_topi (fun v7 ev7 => ?_)
        have h := h v7 ev7
        refine lv_istore (lv' := [(4, .int v7), (0, .ref (q 3)), (1, .int a1), (2, .int a2), (3, .int a3)]) hx hb dX2_insert_27 hl (by decide) rfl (fun ls hl => ?_)
        obtain ⟨n, h⟩ := h
        refine L29 n a1 a2 a3 _ v7 I F _ _ _  hP hS (lv_sub hl [1, 2, 3, 4, 0] rfl) h (fun y8 I9 F10 H locs ls  hP hS hl h => ?_)
        refine lv_aload_n hx hb dX2_insert_73 rfl (lv_at hl 0 rfl) ?_
        refine va_get (D := D) (ci := 2) (v := .ref (q 15)) (C := RX2) (T := TX2) (N := 4) hx hb hts (fun _ h9 => List.mem_cons_of_mem _ (List.mem_append_right _ h9)) hown hK hP 3 cAt3 rfl 2 (by decide) (hts _ (List.mem_of_getElem? (l := wsX2_insert) (i := 2) rfl)) (fun _ h9 => h9) rfl dX2_insert_74 ?_
        refine lv_iload_n hx hb dX2_insert_77 rfl (lv_at hl 1 rfl) ?_
        refine lv_iload_n hx hb dX2_insert_78 rfl (lv_at hl 2 rfl) ?_
        refine gAst (D := D) hx hb hK hP (cD hq) hS 15 0 cAr15 rfl h.1 dX2_insert_79 (cSA15 _) (fun H locs hP hS => ?_)
        obtain ⟨F11, eF11⟩ : ∃ z : Nat → Nat → Int32, z = upF F10 15 (upd (F10 15) (a1).toNatClampNeg a2) := ⟨_, rfl⟩
        rw [← eF11] at hP
        have h := h.2 F11 eF11
        refine lv_aload_n hx hb dX2_insert_80 rfl (lv_at hl 0 rfl) ?_
        refine va_get (D := D) (ci := 2) (v := .ref (q 16)) (C := RX2) (T := TX2) (N := 4) hx hb hts (fun _ h9 => List.mem_cons_of_mem _ (List.mem_append_right _ h9)) hown hK hP 3 cAt3 rfl 3 (by decide) (hts _ (List.mem_of_getElem? (l := wsX2_insert) (i := 3) rfl)) (fun _ h9 => h9) rfl dX2_insert_81 ?_
        refine lv_iload_n hx hb dX2_insert_84 rfl (lv_at hl 1 rfl) ?_
        refine lv_iload_n hx hb dX2_insert_85 rfl (lv_at hl 3 rfl) ?_
        refine gAst (D := D) hx hb hK hP (cD hq) hS 16 0 cAr16 rfl h.1 dX2_insert_86 (cSA16 _) (fun H locs hP hS => ?_)
        obtain ⟨F12, eF12⟩ : ∃ z : Nat → Nat → Int32, z = upF F11 16 (upd (F11 16) (a1).toNatClampNeg a3) := ⟨_, rfl⟩
        rw [← eF12] at hP
        have h := h.2 F12 eF12
        refine lv_aload_n hx hb dX2_insert_87 rfl (lv_at hl 0 rfl) ?_
        refine lv_dup hx hb dX2_insert_88 rfl ?_
        refine va_get (D := D) (ci := 2) (v := .int (I9 6)) (C := RX2) (T := TX2) (N := 4) hx hb hts (fun _ h9 => List.mem_cons_of_mem _ (List.mem_append_right _ h9)) hown hK hP 3 cAt3 rfl 1 (by decide) (hts _ (List.mem_of_getElem? (l := wsX2_insert) (i := 1) rfl)) (fun _ h9 => h9) rfl dX2_insert_89 ?_
        refine lv_iconst (v := (1 : Int32)) hx hb dX2_insert_92 (by decide) ?_
        refine lv_iadd hx hb dX2_insert_93 ?_
        refine gPut (D := D) (ci := 2) (ty := .int) (C := RX2) (T := TX2) (N := 4) hx hb hts (fun _ h9 => List.mem_cons_of_mem _ (List.mem_append_right _ h9)) tyX2 tyX2_ok nmX2 hown hK hP (cD hq) hS 3 cAt3 rfl 1 (by decide) (hts _ (List.mem_of_getElem? (l := wsX2_insert) (i := 1) rfl)) (fun _ h9 => h9) rfl (by decide +kernel) rfl rfl (Nat.le_of_ble_eq_true rfl) dX2_insert_94 (cSet6 ((I9 6) + (1 : Int32))) (fun H locs hP hS => ?_)
        obtain ⟨I13, eI13⟩ : ∃ z : Nat → Int32, z = upd I9 6 ((I9 6) + (1 : Int32)) := ⟨_, rfl⟩
        rw [← eI13] at hP
        have h := h I13 eI13
        refine lv_iconst (v := (1 : Int32)) hx hb dX2_insert_97 (by decide) ?_
        exact hret (1 : Int32) (I13, F12) _ _ _ _ dX2_insert_98 hP hS h.1 h.2
      · have h := h.2 c6
        refine lv_iconst (v := (0 : Int32)) hx hb dX2_insert_21 (by decide) ?_
        exact hret (0 : Int32) (I, F) _ _ _ _ dX2_insert_22 hP hS h.1 h.2
def w_X5_acceptKind_2 (a1 : Int32) (I : Nat → Int32) (F : Nat → Nat → Int32) (post : Int32 → (Nat → Int32) → (Nat → Nat → Int32) → Prop) : Prop :=
  w_X5_kindOf a1 I F (fun (r1 : Int32) => ((¬ r1 = (-1 : Int32) → ∀ I3 : Nat → Int32, I3 = upd I 4 (0 : Int32) → w_X2_insert_3 (I3 6) r1 (0 : Int32) I3 F (fun (r4 : Int32) (I5 : Nat → Int32) (F6 : Nat → Nat → Int32) => ((r4 = 0 ∨ r4 = 1) ∧ post r4 I5 F6))) ∧ (r1 = (-1 : Int32) → (((0 : Int32) = 0 ∨ (0 : Int32) = 1) ∧ post (0 : Int32) I F))))
set_option maxHeartbeats 4000000 in
set_option maxRecDepth 100000 in
theorem c_X5_acceptKind_2 (l : Launch) (D : va_G) (q : Nat → Nat) (cI cO : ClassId) (hq : cOk q) (a1 : Int32)  (I : Nat → Int32) (F : Nat → Nat → Int32) (post : Int32 → (Nat → Int32) → (Nat → Nat → Int32) → Prop) (h : w_X5_acceptKind_2 a1 I F post) : Met l yX5_acceptKind wsX5_acceptKind ({ frames := 1, cells := 0, slots := 0, locals := 24 } : Room) (gPre D (cTys cI cO) (cW q cI cO I F) (cEnv q) [.ref (q 2), .int a1]) (va_Qi (fun r (u : cS) => post r u.1 u.2) (gB D (fun u : cS => cW q cI cO u.1 u.2)) (cA q)) 0 0 (cA q) := by
  refine gMetZ (by decide) rfl (Nat.le_of_ble_eq_true rfl) ?_
  intro p e R s m args below meth c Q ls hR hx hb hml hown hts hK hE hP hl hret
  have hRf : 1 ≤ R.frames := by subst hR; exact Nat.le_refl _
  have hRl : 24 ≤ R.locals := by subst hR; exact Nat.le_refl _
  have hown : s.vm.findClass RX5 = some m.cls := hown
  have hl : lv_has ls 3 [(0, .ref (q 2)), (1, .int a1)] := hl
  have hS : va_S (cA q) s.heap s.heap [] := va_S.rf
  have hP : va_P D vwCl (cW q cI cO I F) s.heap := hP
  refine lv_iload_n hx hb dX5_acceptKind_0 rfl (lv_at hl 1 rfl) ?_
  refine gCallI (D := D) (va_runS (As := [.int a1]) (rest := []) ⟨hx, hb, hml, hown, hts⟩ (c_X5_kindOf l D q cI cO hq a1  I F _ h) (va_cwS 1 hts gX5_acceptKind_X5_kindOf rfl rfl rfl (by decide +kernel) ⟨Nat.le_trans (Nat.le_of_ble_eq_true rfl) hRf, Nat.le_trans (Nat.le_of_ble_eq_true rfl) hRl⟩) (gPreS cEok hE hK hP hS) rfl rfl hl.1 rfl (lv_room (Nat.le_of_ble_eq_true rfl)) dX5_acceptKind_1 ⟨Nat.zero_le _, Nat.zero_le _⟩) hS (fun r1 _ H locs hP hS h => ?_)
  have hP : va_P D vwCl (cW q cI cO I F) H := hP
  refine lv_istore_n (lv' := [(2, .int r1), (0, .ref (q 2)), (1, .int a1)]) hx hb dX5_acceptKind_4 rfl hl (by decide) rfl (fun ls hl => ?_)
  refine lv_iload_n hx hb dX5_acceptKind_5 rfl (lv_at hl 0 rfl) ?_
  refine lv_iconst (v := (-1 : Int32)) hx hb dX5_acceptKind_6 (by decide) ?_
  refine lv_icmp_ne (tgt := 12) hx hb dX5_acceptKind_7 (by decide) (fun c2 => ?_) (fun c2 => ?_)
  · have h := h.1 c2
    refine lv_aload_n hx hb dX5_acceptKind_12 rfl (lv_at hl 1 rfl) ?_
    refine lv_iconst (v := (0 : Int32)) hx hb dX5_acceptKind_13 (by decide) ?_
    refine gPut (D := D) (ci := 5) (ty := .boolean) (C := RX5) (T := TX5) (N := 3) hx hb hts (fun _ h9 => List.mem_cons_of_mem _ (List.mem_append_left _ (List.mem_append_right _ h9))) tyX5 tyX5_ok nmX5 hown hK hP (cD hq) hS 2 cAt2 rfl 2 (by decide) (hts _ (List.mem_of_getElem? (l := wsX5_acceptKind) (i := 1) rfl)) (fun _ h9 => h9) rfl (by decide +kernel) (by decide) (by decide) (Nat.le_of_ble_eq_true rfl) dX5_acceptKind_14 (cSet4 (0 : Int32)) (fun H locs hP hS => ?_)
    obtain ⟨I3, eI3⟩ : ∃ z : Nat → Int32, z = upd I 4 (0 : Int32) := ⟨_, rfl⟩
    rw [← eI3] at hP
    have h := h I3 eI3
    refine lv_aload_n hx hb dX5_acceptKind_17 rfl (lv_at hl 1 rfl) ?_
    refine va_get (D := D) (ci := 5) (v := .ref (q 3)) (C := RX5) (T := TX5) (N := 3) hx hb hts (fun _ h9 => List.mem_cons_of_mem _ (List.mem_append_left _ (List.mem_append_right _ h9))) hown hK hP 2 cAt2 rfl 0 (by decide) (hts _ (List.mem_of_getElem? (l := wsX5_acceptKind) (i := 2) rfl)) (fun _ h9 => h9) rfl dX5_acceptKind_18 ?_
    refine lv_aload_n hx hb dX5_acceptKind_21 rfl (lv_at hl 1 rfl) ?_
    refine va_get (D := D) (ci := 5) (v := .ref (q 3)) (C := RX5) (T := TX5) (N := 3) hx hb hts (fun _ h9 => List.mem_cons_of_mem _ (List.mem_append_left _ (List.mem_append_right _ h9))) hown hK hP 2 cAt2 rfl 0 (by decide) (hts _ (List.mem_of_getElem? (l := wsX5_acceptKind) (i := 2) rfl)) (fun _ h9 => h9) rfl dX5_acceptKind_22 ?_
    refine va_getN (D := D) (ci := 2) (v := .int (I3 6)) (C := RX2) (T := TX2) (N := 4) hx hb hts (fun _ h9 => List.mem_cons_of_mem _ (List.mem_append_right _ h9)) hown hK hP 3 cAt3 rfl 1 (by decide) (va_Nw.use rfl (hE.1.1 _ (List.mem_of_getElem? (l := cNF) (i := 7) rfl))) (fun _ h9 => h9) rfl dX5_acceptKind_25 ?_
    refine lv_iload_n hx hb dX5_acceptKind_28 rfl (lv_at hl 0 rfl) ?_
    refine lv_iconst (v := (0 : Int32)) hx hb dX5_acceptKind_29 (by decide) ?_
    refine gCallI (D := D) (va_runV (As := [.int (I3 6), .int r1, .int (0 : Int32)]) (rest := []) ⟨hx, hb, hml, hown, hts⟩ (c_X2_insert_3 l D q cI cO hq (I3 6) r1 (0 : Int32)  I3 F _ h) (cwV 3 hts gX5_acceptKind_X2_insert rfl rfl rfl (by decide +kernel) ⟨Nat.le_trans (Nat.le_of_ble_eq_true rfl) hRf, Nat.le_trans (Nat.le_of_ble_eq_true rfl) hRl⟩) (gPreV (ci := 2) (q0 := 3) cEok hE hK hP hS rfl cAt3) rfl rfl hl.1 rfl (lv_room (Nat.le_of_ble_eq_true rfl)) dX5_acceptKind_30 ⟨Nat.zero_le _, Nat.zero_le _⟩) hS (fun r4 u H locs hP hS h => ?_)
    obtain ⟨I5, F6⟩ := u
    have hP : va_P D vwCl (cW q cI cO I5 F6) H := hP
    exact hret r4 (I5, F6) _ _ _ _ dX5_acceptKind_33 hP hS h.1 h.2
  · have h := h.2 c2
    refine lv_iconst (v := (0 : Int32)) hx hb dX5_acceptKind_10 (by decide) ?_
    exact hret (0 : Int32) (I, F) _ _ _ _ dX5_acceptKind_11 hP hS h.1 h.2
def w_X8_isPosition (a0 : Int32) (I : Nat → Int32) (F : Nat → Nat → Int32) (post : Int32 → Prop) : Prop :=
  ((a0 < 0 → (((0 : Int32) = 0 ∨ (0 : Int32) = 1) ∧ post (0 : Int32))) ∧ (¬ a0 < 0 → (((3 : Int32) ≤ a0 → (((0 : Int32) = 0 ∨ (0 : Int32) = 1) ∧ post (0 : Int32))) ∧ (¬ (3 : Int32) ≤ a0 → (((1 : Int32) = 0 ∨ (1 : Int32) = 1) ∧ post (1 : Int32))))))
set_option maxHeartbeats 4000000 in
set_option maxRecDepth 100000 in
theorem c_X8_isPosition (l : Launch) (D : va_G) (q : Nat → Nat) (cI cO : ClassId) (hq : cOk q) (a0 : Int32)  (I : Nat → Int32) (F : Nat → Nat → Int32) (post : Int32 → Prop) (h : w_X8_isPosition a0 I F post) : Met l yX8_isPosition wsX8_isPosition ({ frames := 0, cells := 0, slots := 0, locals := 0 } : Room) (gPre D (cTys cI cO) (cW q cI cO I F) (cEnv q) [.int a0]) (va_Qi (fun r (_ : Unit) => post r) (gB D (fun _ : Unit => cW q cI cO I F)) (cA q)) 0 0 (cA q) := by
  refine gMetZ (by decide) rfl (Nat.le_of_ble_eq_true rfl) ?_
  intro p e R s m args below meth c Q ls hR hx hb hml hown hts hK hE hP hl hret
  have hRf : 0 ≤ R.frames := by subst hR; exact Nat.le_refl _
  have hRl : 0 ≤ R.locals := by subst hR; exact Nat.le_refl _
  have hown : s.vm.findClass RX8 = some m.cls := hown
  have hl : lv_has ls 1 [(0, .int a0)] := hl
  have hS : va_S (cA q) s.heap s.heap [] := va_S.rf
  have hP : va_P D vwCl (cW q cI cO I F) s.heap := hP
  refine lv_iload_n hx hb dX8_isPosition_0 rfl (lv_at hl 0 rfl) ?_
  refine lv_if_lt (tgt := 13) hx hb dX8_isPosition_1 (by decide) (fun c1 => ?_) (fun c1 => ?_)
  · have h := h.1 c1
    refine lv_iconst (v := (0 : Int32)) hx hb dX8_isPosition_13 (by decide) ?_
    exact hret (0 : Int32) () _ _ _ _ dX8_isPosition_14 hP hS h.1 h.2
  · have h := h.2 c1
    refine lv_iload_n hx hb dX8_isPosition_4 rfl (lv_at hl 0 rfl) ?_
    refine lv_iconst (v := (3 : Int32)) hx hb dX8_isPosition_5 (by decide) ?_
    refine lv_icmp_ge (tgt := 13) hx hb dX8_isPosition_6 (by decide) (fun c2 => ?_) (fun c2 => ?_)
    · have h := h.1 c2
      refine lv_iconst (v := (0 : Int32)) hx hb dX8_isPosition_13 (by decide) ?_
      exact hret (0 : Int32) () _ _ _ _ dX8_isPosition_14 hP hS h.1 h.2
    · have h := h.2 c2
      refine lv_iconst (v := (1 : Int32)) hx hb dX8_isPosition_9 (by decide) ?_
      refine lv_goto (tgt := 14) hx hb dX8_isPosition_10 (by decide) ?_
      exact hret (1 : Int32) () _ _ _ _ dX8_isPosition_14 hP hS h.1 h.2
def w_X5_acceptPosition_2 (a1 : Int32) (I : Nat → Int32) (F : Nat → Nat → Int32) (post : Int32 → (Nat → Int32) → (Nat → Nat → Int32) → Prop) : Prop :=
  ∀ v1 : Int32, v1 = (a1 - (48 : Int32)) → w_X8_isPosition v1 I F (fun (r2 : Int32) => ((¬ r2 = 0 → ∀ I4 : Nat → Int32, I4 = upd I 5 (((I 5) * (3 : Int32)) + v1) → (((1 : Int32) = 0 ∨ (1 : Int32) = 1) ∧ post (1 : Int32) I4 F)) ∧ (r2 = 0 → (((0 : Int32) = 0 ∨ (0 : Int32) = 1) ∧ post (0 : Int32) I F))))
set_option maxHeartbeats 4000000 in
set_option maxRecDepth 100000 in
theorem c_X5_acceptPosition_2 (l : Launch) (D : va_G) (q : Nat → Nat) (cI cO : ClassId) (hq : cOk q) (a1 : Int32)  (I : Nat → Int32) (F : Nat → Nat → Int32) (post : Int32 → (Nat → Int32) → (Nat → Nat → Int32) → Prop) (h : w_X5_acceptPosition_2 a1 I F post) : Met l yX5_acceptPosition wsX5_acceptPosition ({ frames := 1, cells := 0, slots := 0, locals := 20 } : Room) (gPre D (cTys cI cO) (cW q cI cO I F) (cEnv q) [.ref (q 2), .int a1]) (va_Qi (fun r (u : cS) => post r u.1 u.2) (gB D (fun u : cS => cW q cI cO u.1 u.2)) (cA q)) 0 0 (cA q) := by
  refine gMetZ (by decide) rfl (Nat.le_of_ble_eq_true rfl) ?_
  intro p e R s m args below meth c Q ls hR hx hb hml hown hts hK hE hP hl hret
  have hRf : 1 ≤ R.frames := by subst hR; exact Nat.le_refl _
  have hRl : 20 ≤ R.locals := by subst hR; exact Nat.le_refl _
  have hown : s.vm.findClass RX5 = some m.cls := hown
  have hl : lv_has ls 3 [(0, .ref (q 2)), (1, .int a1)] := hl
  have hS : va_S (cA q) s.heap s.heap [] := va_S.rf
  have hP : va_P D vwCl (cW q cI cO I F) s.heap := hP
  refine lv_iload_n hx hb dX5_acceptPosition_0 rfl (lv_at hl 1 rfl) ?_
  refine lv_bipush (v := (48 : Int32)) hx hb dX5_acceptPosition_1 (by decide) ?_
  refine lv_isub hx hb dX5_acceptPosition_3 ?_
  refine lv_topi (fun v1 ev1 => ?_)
  have h := h v1 ev1
  refine lv_istore_n (lv' := [(2, .int v1), (0, .ref (q 2)), (1, .int a1)]) hx hb dX5_acceptPosition_4 rfl hl (by decide) rfl (fun ls hl => ?_)
  refine lv_iload_n hx hb dX5_acceptPosition_5 rfl (lv_at hl 0 rfl) ?_
  refine gCallI (D := D) (va_runSN (As := [.int v1]) (rest := []) ⟨hx, hb, hml, hown, hts⟩ (c_X8_isPosition l D q cI cO hq v1  I F _ h) ⟨va_cnB 1 hts gX5_acceptPosition_X8_isPosition_n46 rfl rfl rfl (hE.1.2 _ (List.mem_of_getElem? (l := cNM) (i := 7) rfl)) (hts _ (List.mem_of_getElem? (l := wsX5_acceptPosition) (i := 3) rfl)) (by decide +kernel) ⟨Nat.le_trans (Nat.le_of_ble_eq_true rfl) hRf, Nat.le_trans (Nat.le_of_ble_eq_true rfl) hRl⟩, (hts _ (List.mem_of_getElem? (l := wsX5_acceptPosition) (i := 2) rfl)), trivial⟩ (gPreS cEok hE hK hP hS) rfl rfl hl.1 rfl (lv_room (Nat.le_of_ble_eq_true rfl)) dX5_acceptPosition_6 ⟨Nat.zero_le _, Nat.zero_le _⟩) hS (fun r2 _ H locs hP hS h => ?_)
  have hP : va_P D vwCl (cW q cI cO I F) H := hP
  refine lv_if_ne (tgt := 14) hx hb dX5_acceptPosition_9 (by decide) (fun c3 => ?_) (fun c3 => ?_)
  · have h := h.1 c3
    refine lv_aload_n hx hb dX5_acceptPosition_14 rfl (lv_at hl 1 rfl) ?_
    refine va_get (D := D) (ci := 5) (v := .ref (q 3)) (C := RX5) (T := TX5) (N := 3) hx hb hts (fun _ h9 => List.mem_cons_of_mem _ (List.mem_append_left _ (List.mem_append_right _ h9))) hown hK hP 2 cAt2 rfl 0 (by decide) (hts _ (List.mem_of_getElem? (l := wsX5_acceptPosition) (i := 1) rfl)) (fun _ h9 => h9) rfl dX5_acceptPosition_15 ?_
    refine lv_aload_n hx hb dX5_acceptPosition_18 rfl (lv_at hl 1 rfl) ?_
    refine va_get (D := D) (ci := 5) (v := .ref (q 3)) (C := RX5) (T := TX5) (N := 3) hx hb hts (fun _ h9 => List.mem_cons_of_mem _ (List.mem_append_left _ (List.mem_append_right _ h9))) hown hK hP 2 cAt2 rfl 0 (by decide) (hts _ (List.mem_of_getElem? (l := wsX5_acceptPosition) (i := 1) rfl)) (fun _ h9 => h9) rfl dX5_acceptPosition_19 ?_
    refine va_getN (D := D) (ci := 2) (v := .int (I 5)) (C := RX2) (T := TX2) (N := 4) hx hb hts (fun _ h9 => List.mem_cons_of_mem _ (List.mem_append_right _ h9)) hown hK hP 3 cAt3 rfl 0 (by decide) (va_Nw.use rfl (hE.1.1 _ (List.mem_of_getElem? (l := cNF) (i := 2) rfl))) (fun _ h9 => h9) rfl dX5_acceptPosition_22 ?_
    refine lv_iconst (v := (3 : Int32)) hx hb dX5_acceptPosition_25 (by decide) ?_
    refine lv_imul hx hb dX5_acceptPosition_26 ?_
    refine lv_iload_n hx hb dX5_acceptPosition_27 rfl (lv_at hl 0 rfl) ?_
    refine lv_iadd hx hb dX5_acceptPosition_28 ?_
    refine gPutN (D := D) (ci := 2) (ty := .int) (C := RX2) (T := TX2) (N := 4) hx hb hts (fun _ h9 => List.mem_cons_of_mem _ (List.mem_append_right _ h9)) tyX2 tyX2_ok nmX2 hown hK hP (cD hq) hS 3 cAt3 rfl 0 (by decide) (va_Nw.use rfl (hE.1.1 _ (List.mem_of_getElem? (l := cNF) (i := 2) rfl))) (fun _ h9 => h9) rfl (by decide +kernel) rfl rfl (Nat.le_of_ble_eq_true rfl) dX5_acceptPosition_29 (cSet5 (((I 5) * (3 : Int32)) + v1)) (fun H locs hP hS => ?_)
    obtain ⟨I4, eI4⟩ : ∃ z : Nat → Int32, z = upd I 5 (((I 5) * (3 : Int32)) + v1) := ⟨_, rfl⟩
    rw [← eI4] at hP
    have h := h I4 eI4
    refine lv_iconst (v := (1 : Int32)) hx hb dX5_acceptPosition_32 (by decide) ?_
    exact hret (1 : Int32) (I4, F) _ _ _ _ dX5_acceptPosition_33 hP hS h.1 h.2
  · have h := h.2 c3
    refine lv_iconst (v := (0 : Int32)) hx hb dX5_acceptPosition_12 (by decide) ?_
    exact hret (0 : Int32) (I, F) _ _ _ _ dX5_acceptPosition_13 hP hS h.1 h.2
def w_X5_accept_2_J80 (x2 : Int32) (I : Nat → Int32) (F : Nat → Nat → Int32) (post : Int32 → (Nat → Int32) → (Nat → Nat → Int32) → Prop) : Prop :=
  ((x2 = 0 → ((x2 = 0 ∨ x2 = 1) ∧ post x2 I F)) ∧ (¬ x2 = 0 → ∀ I2 : Nat → Int32, I2 = upd I 3 ((I 3) + (1 : Int32)) → ((x2 = 0 ∨ x2 = 1) ∧ post x2 I2 F)))
def w_X5_accept_2_J79 (z0 : Int32) (I : Nat → Int32) (F : Nat → Nat → Int32) (post : Int32 → (Nat → Int32) → (Nat → Nat → Int32) → Prop) : Prop :=
  w_X5_accept_2_J80 z0 I F post
def w_X5_accept_2_J74 (I : Nat → Int32) (F : Nat → Nat → Int32) (post : Int32 → (Nat → Int32) → (Nat → Nat → Int32) → Prop) : Prop :=
  w_X5_accept_2_J79 (1 : Int32) I F post
def w_X5_accept_2_J38 (z0 : Int32) (I : Nat → Int32) (F : Nat → Nat → Int32) (post : Int32 → (Nat → Int32) → (Nat → Nat → Int32) → Prop) : Prop :=
  w_X5_accept_2_J80 z0 I F post
def w_X5_accept_2 (a1 : Int32) (I : Nat → Int32) (F : Nat → Nat → Int32) (post : Int32 → (Nat → Int32) → (Nat → Nat → Int32) → Prop) : Prop :=
  (((7 : Int32) ≤ (I 3) → ((¬ (I 3) = (7 : Int32) → (((I 4) = 0 → w_X5_acceptTone_2 a1 I F (fun (r6 : Int32) (I7 : Nat → Int32) (F8 : Nat → Nat → Int32) => ((¬ r6 = 0 → w_X5_accept_2_J74 I7 F8 post) ∧ (r6 = 0 → w_X5_acceptComma_2 a1 I7 F8 (fun (r10 : Int32) (I11 : Nat → Int32) (F12 : Nat → Nat → Int32) => ((r10 = 0 → w_X5_accept_2_J79 (0 : Int32) I11 F12 post) ∧ (¬ r10 = 0 → w_X5_accept_2_J74 I11 F12 post))))))) ∧ (¬ (I 4) = 0 → w_X5_acceptKind_2 a1 I F (fun (r14 : Int32) (I15 : Nat → Int32) (F16 : Nat → Nat → Int32) => w_X5_accept_2_J80 r14 I15 F16 post)))) ∧ ((I 3) = (7 : Int32) → ((¬ a1 = (59 : Int32) → w_X5_accept_2_J38 (0 : Int32) I F post) ∧ (a1 = (59 : Int32) → w_X5_accept_2_J38 (1 : Int32) I F post))))) ∧ (¬ (7 : Int32) ≤ (I 3) → w_X5_acceptPosition_2 a1 I F (fun (r18 : Int32) (I19 : Nat → Int32) (F20 : Nat → Nat → Int32) => w_X5_accept_2_J80 r18 I19 F20 post)))
set_option maxHeartbeats 4000000 in
set_option maxRecDepth 100000 in
theorem c_X5_accept_2 (l : Launch) (D : va_G) (q : Nat → Nat) (cI cO : ClassId) (hq : cOk q) (a1 : Int32)  (I : Nat → Int32) (F : Nat → Nat → Int32) (post : Int32 → (Nat → Int32) → (Nat → Nat → Int32) → Prop) (h : w_X5_accept_2 a1 I F post) : Met l yX5_accept wsX5_accept ({ frames := 2, cells := 0, slots := 0, locals := 46 } : Room) (gPre D (cTys cI cO) (cW q cI cO I F) (cEnv q) [.ref (q 2), .int a1]) (va_Qi (fun r (u : cS) => post r u.1 u.2) (gB D (fun u : cS => cW q cI cO u.1 u.2)) (cA q)) 0 0 (cA q) := by
  refine gMetZ (by decide) rfl (Nat.le_of_ble_eq_true rfl) ?_
  intro p e R s m args below meth c Q ls hR hx hb hml hown hts hK hE hP hl hret
  have hRf : 2 ≤ R.frames := by subst hR; exact Nat.le_refl _
  have hRl : 46 ≤ R.locals := by subst hR; exact Nat.le_refl _
  have hown : s.vm.findClass RX5 = some m.cls := hown
  have hl : lv_has ls 3 [(0, .ref (q 2)), (1, .int a1)] := hl
  have hS : va_S (cA q) s.heap s.heap [] := va_S.rf
  have hP : va_P D vwCl (cW q cI cO I F) s.heap := hP
  have J80 : ∀ (x2 : Int32) (I : Nat → Int32) (F : Nat → Nat → Int32) (H : Heap) (locs : List Loc) (ls : Array Slot), va_P D vwCl (cW q cI cO I F) H → va_S (cA q) s.heap H locs → lv_has ls 3 [(0, .ref (q 2)), (2, .int x2)] → w_X5_accept_2_J80 x2 I F post → W p l e R s m args below meth c H locs 0 0 Q (F0 m 80 ls []) := by
    intro x2 I F H locs ls  hP hS hl h
    refine lv_iload_n hx hb dX5_accept_80 rfl (lv_at hl 1 rfl) ?_
    refine lv_if_eq (tgt := 94) hx hb dX5_accept_81 (by decide) (fun c1 => ?_) (fun c1 => ?_)
    · have h := h.1 c1
      refine lv_iload_n hx hb dX5_accept_94 rfl (lv_at hl 1 rfl) ?_
      exact hret x2 (I, F) _ _ _ _ dX5_accept_95 hP hS h.1 h.2
    · have h := h.2 c1
      refine lv_aload_n hx hb dX5_accept_84 rfl (lv_at hl 0 rfl) ?_
      refine lv_dup hx hb dX5_accept_85 rfl ?_
      refine va_get (D := D) (ci := 5) (v := .int (I 3)) (C := RX5) (T := TX5) (N := 3) hx hb hts (fun _ h9 => List.mem_cons_of_mem _ (List.mem_append_left _ (List.mem_append_right _ h9))) hown hK hP 2 cAt2 rfl 1 (by decide) (hts _ (List.mem_of_getElem? (l := wsX5_accept) (i := 1) rfl)) (fun _ h9 => h9) rfl dX5_accept_86 ?_
      refine lv_iconst (v := (1 : Int32)) hx hb dX5_accept_89 (by decide) ?_
      refine lv_iadd hx hb dX5_accept_90 ?_
      refine gPut (D := D) (ci := 5) (ty := .int) (C := RX5) (T := TX5) (N := 3) hx hb hts (fun _ h9 => List.mem_cons_of_mem _ (List.mem_append_left _ (List.mem_append_right _ h9))) tyX5 tyX5_ok nmX5 hown hK hP (cD hq) hS 2 cAt2 rfl 1 (by decide) (hts _ (List.mem_of_getElem? (l := wsX5_accept) (i := 1) rfl)) (fun _ h9 => h9) rfl (by decide +kernel) rfl rfl (Nat.le_of_ble_eq_true rfl) dX5_accept_91 (cSet3 ((I 3) + (1 : Int32))) (fun H locs hP hS => ?_)
      obtain ⟨I2, eI2⟩ : ∃ z : Nat → Int32, z = upd I 3 ((I 3) + (1 : Int32)) := ⟨_, rfl⟩
      rw [← eI2] at hP
      have h := h I2 eI2
      refine lv_iload_n hx hb dX5_accept_94 rfl (lv_at hl 1 rfl) ?_
      exact hret x2 (I2, F) _ _ _ _ dX5_accept_95 hP hS h.1 h.2
  have J79 : ∀ (z0 : Int32) (I : Nat → Int32) (F : Nat → Nat → Int32) (H : Heap) (locs : List Loc) (ls : Array Slot), va_P D vwCl (cW q cI cO I F) H → va_S (cA q) s.heap H locs → lv_has ls 3 [(0, .ref (q 2))] → w_X5_accept_2_J79 z0 I F post → W p l e R s m args below meth c H locs 0 0 Q (F0 m 79 ls [.int z0]) := by
    intro z0 I F H locs ls  hP hS hl h
    refine lv_istore_n (lv' := [(2, .int z0), (0, .ref (q 2))]) hx hb dX5_accept_79 rfl hl (by decide) rfl (fun ls hl => ?_)
    exact J80 z0 I F _ _ _  hP hS (lv_sub hl [1, 0] rfl) h
  have J74 : ∀ (I : Nat → Int32) (F : Nat → Nat → Int32) (H : Heap) (locs : List Loc) (ls : Array Slot), va_P D vwCl (cW q cI cO I F) H → va_S (cA q) s.heap H locs → lv_has ls 3 [(0, .ref (q 2))] → w_X5_accept_2_J74 I F post → W p l e R s m args below meth c H locs 0 0 Q (F0 m 74 ls []) := by
    intro I F H locs ls  hP hS hl h
    refine lv_iconst (v := (1 : Int32)) hx hb dX5_accept_74 (by decide) ?_
    refine lv_goto (tgt := 79) hx hb dX5_accept_75 (by decide) ?_
    exact J79 (1 : Int32) I F _ _ _  hP hS (lv_sub hl [0] rfl) h
  have J38 : ∀ (z0 : Int32) (I : Nat → Int32) (F : Nat → Nat → Int32) (H : Heap) (locs : List Loc) (ls : Array Slot), va_P D vwCl (cW q cI cO I F) H → va_S (cA q) s.heap H locs → lv_has ls 3 [(0, .ref (q 2))] → w_X5_accept_2_J38 z0 I F post → W p l e R s m args below meth c H locs 0 0 Q (F0 m 38 ls [.int z0]) := by
    intro z0 I F H locs ls  hP hS hl h
    refine lv_istore_n (lv' := [(2, .int z0), (0, .ref (q 2))]) hx hb dX5_accept_38 rfl hl (by decide) rfl (fun ls hl => ?_)
    refine lv_goto (tgt := 80) hx hb dX5_accept_39 (by decide) ?_
    exact J80 z0 I F _ _ _  hP hS (lv_sub hl [1, 0] rfl) h
  refine lv_aload_n hx hb dX5_accept_0 rfl (lv_at hl 0 rfl) ?_
  refine va_get (D := D) (ci := 5) (v := .int (I 3)) (C := RX5) (T := TX5) (N := 3) hx hb hts (fun _ h9 => List.mem_cons_of_mem _ (List.mem_append_left _ (List.mem_append_right _ h9))) hown hK hP 2 cAt2 rfl 1 (by decide) (hts _ (List.mem_of_getElem? (l := wsX5_accept) (i := 1) rfl)) (fun _ h9 => h9) rfl dX5_accept_1 ?_
  refine lv_bipush (v := (7 : Int32)) hx hb dX5_accept_4 (by decide) ?_
  refine lv_icmp_ge (tgt := 18) hx hb dX5_accept_6 (by decide) (fun c3 => ?_) (fun c3 => ?_)
  · have h := h.1 c3
    refine lv_aload_n hx hb dX5_accept_18 rfl (lv_at hl 0 rfl) ?_
    refine va_get (D := D) (ci := 5) (v := .int (I 3)) (C := RX5) (T := TX5) (N := 3) hx hb hts (fun _ h9 => List.mem_cons_of_mem _ (List.mem_append_left _ (List.mem_append_right _ h9))) hown hK hP 2 cAt2 rfl 1 (by decide) (hts _ (List.mem_of_getElem? (l := wsX5_accept) (i := 1) rfl)) (fun _ h9 => h9) rfl dX5_accept_19 ?_
    refine lv_bipush (v := (7 : Int32)) hx hb dX5_accept_22 (by decide) ?_
    refine lv_icmp_ne (tgt := 42) hx hb dX5_accept_24 (by decide) (fun c4 => ?_) (fun c4 => ?_)
    · have h := h.1 c4
      refine lv_aload_n hx hb dX5_accept_42 rfl (lv_at hl 0 rfl) ?_
      refine va_get (D := D) (ci := 5) (v := .int (I 4)) (C := RX5) (T := TX5) (N := 3) hx hb hts (fun _ h9 => List.mem_cons_of_mem _ (List.mem_append_left _ (List.mem_append_right _ h9))) hown hK hP 2 cAt2 rfl 2 (by decide) (hts _ (List.mem_of_getElem? (l := wsX5_accept) (i := 2) rfl)) (fun _ h9 => h9) rfl dX5_accept_43 ?_
      refine lv_if_eq (tgt := 58) hx hb dX5_accept_46 (by decide) (fun c5 => ?_) (fun c5 => ?_)
      · have h := h.1 c5
        refine lv_aload_n hx hb dX5_accept_58 rfl (lv_at hl 0 rfl) ?_
        refine lv_iload_n hx hb dX5_accept_59 rfl (lv_at hl 1 rfl) ?_
        refine gCallI (D := D) (va_runV (As := [.int a1]) (rest := []) ⟨hx, hb, hml, hown, hts⟩ (c_X5_acceptTone_2 l D q cI cO hq a1  I F _ h) (cwV 1 hts gX5_accept_X5_acceptTone rfl rfl rfl (by decide +kernel) ⟨Nat.le_trans (Nat.le_of_ble_eq_true rfl) hRf, Nat.le_trans (Nat.le_of_ble_eq_true rfl) hRl⟩) (gPreV (ci := 5) (q0 := 2) cEok hE hK hP hS rfl cAt2) rfl rfl hl.1 rfl (lv_room (Nat.le_of_ble_eq_true rfl)) dX5_accept_60 ⟨Nat.zero_le _, Nat.zero_le _⟩) hS (fun r6 u H locs hP hS h => ?_)
        obtain ⟨I7, F8⟩ := u
        have hP : va_P D vwCl (cW q cI cO I7 F8) H := hP
        refine lv_if_ne (tgt := 74) hx hb dX5_accept_63 (by decide) (fun c9 => ?_) (fun c9 => ?_)
        · have h := h.1 c9
          exact J74 I7 F8 _ _ _  hP hS (lv_sub hl [0] rfl) h
        · have h := h.2 c9
          refine lv_aload_n hx hb dX5_accept_66 rfl (lv_at hl 0 rfl) ?_
          refine lv_iload_n hx hb dX5_accept_67 rfl (lv_at hl 1 rfl) ?_
          refine gCallI (D := D) (va_runV (As := [.int a1]) (rest := []) ⟨hx, hb, hml, hown, hts⟩ (c_X5_acceptComma_2 l D q cI cO hq a1  I7 F8 _ h) (cwV 1 hts gX5_accept_X5_acceptComma rfl rfl rfl (by decide +kernel) ⟨Nat.le_trans (Nat.le_of_ble_eq_true rfl) hRf, Nat.le_trans (Nat.le_of_ble_eq_true rfl) hRl⟩) (gPreV (ci := 5) (q0 := 2) cEok hE hK hP hS rfl cAt2) rfl rfl hl.1 rfl (lv_room (Nat.le_of_ble_eq_true rfl)) dX5_accept_68 ⟨Nat.zero_le _, Nat.zero_le _⟩) hS (fun r10 u H locs hP hS h => ?_)
          obtain ⟨I11, F12⟩ := u
          have hP : va_P D vwCl (cW q cI cO I11 F12) H := hP
          refine lv_if_eq (tgt := 78) hx hb dX5_accept_71 (by decide) (fun c13 => ?_) (fun c13 => ?_)
          · have h := h.1 c13
            refine lv_iconst (v := (0 : Int32)) hx hb dX5_accept_78 (by decide) ?_
            exact J79 (0 : Int32) I11 F12 _ _ _  hP hS (lv_sub hl [0] rfl) h
          · have h := h.2 c13
            exact J74 I11 F12 _ _ _  hP hS (lv_sub hl [0] rfl) h
      · have h := h.2 c5
        refine lv_aload_n hx hb dX5_accept_49 rfl (lv_at hl 0 rfl) ?_
        refine lv_iload_n hx hb dX5_accept_50 rfl (lv_at hl 1 rfl) ?_
        refine gCallI (D := D) (va_runV (As := [.int a1]) (rest := []) ⟨hx, hb, hml, hown, hts⟩ (c_X5_acceptKind_2 l D q cI cO hq a1  I F _ h) (cwV 1 hts gX5_accept_X5_acceptKind rfl rfl rfl (by decide +kernel) ⟨Nat.le_trans (Nat.le_of_ble_eq_true rfl) hRf, Nat.le_trans (Nat.le_of_ble_eq_true rfl) hRl⟩) (gPreV (ci := 5) (q0 := 2) cEok hE hK hP hS rfl cAt2) rfl rfl hl.1 rfl (lv_room (Nat.le_of_ble_eq_true rfl)) dX5_accept_51 ⟨Nat.zero_le _, Nat.zero_le _⟩) hS (fun r14 u H locs hP hS h => ?_)
        obtain ⟨I15, F16⟩ := u
        have hP : va_P D vwCl (cW q cI cO I15 F16) H := hP
        refine lv_istore_n (lv' := [(2, .int r14), (0, .ref (q 2)), (1, .int a1)]) hx hb dX5_accept_54 rfl hl (by decide) rfl (fun ls hl => ?_)
        refine lv_goto (tgt := 80) hx hb dX5_accept_55 (by decide) ?_
        exact J80 r14 I15 F16 _ _ _  hP hS (lv_sub hl [1, 0] rfl) h
    · have h := h.2 c4
      refine lv_iload_n hx hb dX5_accept_27 rfl (lv_at hl 1 rfl) ?_
      refine lv_bipush (v := (59 : Int32)) hx hb dX5_accept_28 (by decide) ?_
      refine lv_icmp_ne (tgt := 37) hx hb dX5_accept_30 (by decide) (fun c17 => ?_) (fun c17 => ?_)
      · have h := h.1 c17
        refine lv_iconst (v := (0 : Int32)) hx hb dX5_accept_37 (by decide) ?_
        exact J38 (0 : Int32) I F _ _ _  hP hS (lv_sub hl [0] rfl) h
      · have h := h.2 c17
        refine lv_iconst (v := (1 : Int32)) hx hb dX5_accept_33 (by decide) ?_
        refine lv_goto (tgt := 38) hx hb dX5_accept_34 (by decide) ?_
        exact J38 (1 : Int32) I F _ _ _  hP hS (lv_sub hl [0] rfl) h
  · have h := h.2 c3
    refine lv_aload_n hx hb dX5_accept_9 rfl (lv_at hl 0 rfl) ?_
    refine lv_iload_n hx hb dX5_accept_10 rfl (lv_at hl 1 rfl) ?_
    refine gCallI (D := D) (va_runV (As := [.int a1]) (rest := []) ⟨hx, hb, hml, hown, hts⟩ (c_X5_acceptPosition_2 l D q cI cO hq a1  I F _ h) (cwV 1 hts gX5_accept_X5_acceptPosition rfl rfl rfl (by decide +kernel) ⟨Nat.le_trans (Nat.le_of_ble_eq_true rfl) hRf, Nat.le_trans (Nat.le_of_ble_eq_true rfl) hRl⟩) (gPreV (ci := 5) (q0 := 2) cEok hE hK hP hS rfl cAt2) rfl rfl hl.1 rfl (lv_room (Nat.le_of_ble_eq_true rfl)) dX5_accept_11 ⟨Nat.zero_le _, Nat.zero_le _⟩) hS (fun r18 u H locs hP hS h => ?_)
    obtain ⟨I19, F20⟩ := u
    have hP : va_P D vwCl (cW q cI cO I19 F20) H := hP
    refine lv_istore_n (lv' := [(2, .int r18), (0, .ref (q 2)), (1, .int a1)]) hx hb dX5_accept_14 rfl hl (by decide) rfl (fun ls hl => ?_)
    refine lv_goto (tgt := 80) hx hb dX5_accept_15 (by decide) ?_
    exact J80 r18 I19 F20 _ _ _  hP hS (lv_sub hl [1, 0] rfl) h
def w_X2_clear_3  (I : Nat → Int32) (F : Nat → Nat → Int32) (post : (Nat → Int32) → (Nat → Nat → Int32) → Prop) : Prop :=
  ∀ I1 : Nat → Int32, I1 = upd I 5 (0 : Int32) → ∀ I2 : Nat → Int32, I2 = upd I1 6 (0 : Int32) → post I2 F
set_option maxHeartbeats 4000000 in
set_option maxRecDepth 100000 in
theorem c_X2_clear_3 (l : Launch) (D : va_G) (q : Nat → Nat) (cI cO : ClassId) (hq : cOk q)   (I : Nat → Int32) (F : Nat → Nat → Int32) (post : (Nat → Int32) → (Nat → Nat → Int32) → Prop) (h : w_X2_clear_3  I F post) : Met l yX2_clear wsX2_clear ({ frames := 0, cells := 0, slots := 0, locals := 0 } : Room) (gPre D (cTys cI cO) (cW q cI cO I F) (cEnv q) [.ref (q 3)]) (va_Qv (fun (u : cS) => post u.1 u.2) (gB D (fun u : cS => cW q cI cO u.1 u.2)) (cA q)) 0 0 (cA q) := by
  refine gMetV (by decide) rfl (Nat.le_of_ble_eq_true rfl) ?_
  intro p e R s m args below meth c Q ls hR hx hb hml hown hts hK hE hP hl hret
  have hRf : 0 ≤ R.frames := by subst hR; exact Nat.le_refl _
  have hRl : 0 ≤ R.locals := by subst hR; exact Nat.le_refl _
  have hown : s.vm.findClass RX2 = some m.cls := hown
  have hl : lv_has ls 1 [(0, .ref (q 3))] := hl
  have hS : va_S (cA q) s.heap s.heap [] := va_S.rf
  have hP : va_P D vwCl (cW q cI cO I F) s.heap := hP
  refine lv_aload_n hx hb dX2_clear_0 rfl (lv_at hl 0 rfl) ?_
  refine lv_iconst (v := (0 : Int32)) hx hb dX2_clear_1 (by decide) ?_
  refine gPut (D := D) (ci := 2) (ty := .int) (C := RX2) (T := TX2) (N := 4) hx hb hts (fun _ h9 => List.mem_cons_of_mem _ (List.mem_append_right _ h9)) tyX2 tyX2_ok nmX2 hown hK hP (cD hq) hS 3 cAt3 rfl 0 (by decide) (hts _ (List.mem_of_getElem? (l := wsX2_clear) (i := 1) rfl)) (fun _ h9 => h9) rfl (by decide +kernel) rfl rfl (Nat.le_of_ble_eq_true rfl) dX2_clear_2 (cSet5 (0 : Int32)) (fun H locs hP hS => ?_)
  obtain ⟨I1, eI1⟩ : ∃ z : Nat → Int32, z = upd I 5 (0 : Int32) := ⟨_, rfl⟩
  rw [← eI1] at hP
  have h := h I1 eI1
  refine lv_aload_n hx hb dX2_clear_5 rfl (lv_at hl 0 rfl) ?_
  refine lv_iconst (v := (0 : Int32)) hx hb dX2_clear_6 (by decide) ?_
  refine gPut (D := D) (ci := 2) (ty := .int) (C := RX2) (T := TX2) (N := 4) hx hb hts (fun _ h9 => List.mem_cons_of_mem _ (List.mem_append_right _ h9)) tyX2 tyX2_ok nmX2 hown hK hP (cD hq) hS 3 cAt3 rfl 1 (by decide) (hts _ (List.mem_of_getElem? (l := wsX2_clear) (i := 2) rfl)) (fun _ h9 => h9) rfl (by decide +kernel) rfl rfl (Nat.le_of_ble_eq_true rfl) dX2_clear_7 (cSet6 (0 : Int32)) (fun H locs hP hS => ?_)
  obtain ⟨I2, eI2⟩ : ∃ z : Nat → Int32, z = upd I1 6 (0 : Int32) := ⟨_, rfl⟩
  rw [← eI2] at hP
  have h := h I2 eI2
  exact hret (I2, F) _ _ _ _ dX2_clear_10 hP hS h
def w_X5_restart_2  (I : Nat → Int32) (F : Nat → Nat → Int32) (post : (Nat → Int32) → (Nat → Nat → Int32) → Prop) : Prop :=
  w_X2_clear_3 I F (fun (I1 : Nat → Int32) (F2 : Nat → Nat → Int32) => ∀ I3 : Nat → Int32, I3 = upd I1 3 (0 : Int32) → ∀ I4 : Nat → Int32, I4 = upd I3 4 (1 : Int32) → post I4 F2)
set_option maxHeartbeats 4000000 in
set_option maxRecDepth 100000 in
theorem c_X5_restart_2 (l : Launch) (D : va_G) (q : Nat → Nat) (cI cO : ClassId) (hq : cOk q)   (I : Nat → Int32) (F : Nat → Nat → Int32) (post : (Nat → Int32) → (Nat → Nat → Int32) → Prop) (h : w_X5_restart_2  I F post) : Met l yX5_restart wsX5_restart ({ frames := 1, cells := 0, slots := 0, locals := 20 } : Room) (gPre D (cTys cI cO) (cW q cI cO I F) (cEnv q) [.ref (q 2)]) (va_Qv (fun (u : cS) => post u.1 u.2) (gB D (fun u : cS => cW q cI cO u.1 u.2)) (cA q)) 0 0 (cA q) := by
  refine gMetV (by decide) rfl (Nat.le_of_ble_eq_true rfl) ?_
  intro p e R s m args below meth c Q ls hR hx hb hml hown hts hK hE hP hl hret
  have hRf : 1 ≤ R.frames := by subst hR; exact Nat.le_refl _
  have hRl : 20 ≤ R.locals := by subst hR; exact Nat.le_refl _
  have hown : s.vm.findClass RX5 = some m.cls := hown
  have hl : lv_has ls 1 [(0, .ref (q 2))] := hl
  have hS : va_S (cA q) s.heap s.heap [] := va_S.rf
  have hP : va_P D vwCl (cW q cI cO I F) s.heap := hP
  refine lv_aload_n hx hb dX5_restart_0 rfl (lv_at hl 0 rfl) ?_
  refine va_get (D := D) (ci := 5) (v := .ref (q 3)) (C := RX5) (T := TX5) (N := 3) hx hb hts (fun _ h9 => List.mem_cons_of_mem _ (List.mem_append_left _ (List.mem_append_right _ h9))) hown hK hP 2 cAt2 rfl 0 (by decide) (hts _ (List.mem_of_getElem? (l := wsX5_restart) (i := 1) rfl)) (fun _ h9 => h9) rfl dX5_restart_1 ?_
  refine gCallV (D := D) (va_runV (As := []) (rest := []) ⟨hx, hb, hml, hown, hts⟩ (c_X2_clear_3 l D q cI cO hq   I F _ h) (cwV 0 hts gX5_restart_X2_clear rfl rfl rfl (by decide +kernel) ⟨Nat.le_trans (Nat.le_of_ble_eq_true rfl) hRf, Nat.le_trans (Nat.le_of_ble_eq_true rfl) hRl⟩) (gPreV (ci := 2) (q0 := 3) cEok hE hK hP hS rfl cAt3) rfl rfl hl.1 rfl (lv_room (Nat.le_of_ble_eq_true rfl)) dX5_restart_4 ⟨Nat.zero_le _, Nat.zero_le _⟩) hS (fun u H locs hP hS h => ?_)
  obtain ⟨I1, F2⟩ := u
  have hP : va_P D vwCl (cW q cI cO I1 F2) H := hP
  refine lv_aload_n hx hb dX5_restart_7 rfl (lv_at hl 0 rfl) ?_
  refine lv_iconst (v := (0 : Int32)) hx hb dX5_restart_8 (by decide) ?_
  refine gPut (D := D) (ci := 5) (ty := .int) (C := RX5) (T := TX5) (N := 3) hx hb hts (fun _ h9 => List.mem_cons_of_mem _ (List.mem_append_left _ (List.mem_append_right _ h9))) tyX5 tyX5_ok nmX5 hown hK hP (cD hq) hS 2 cAt2 rfl 1 (by decide) (hts _ (List.mem_of_getElem? (l := wsX5_restart) (i := 2) rfl)) (fun _ h9 => h9) rfl (by decide +kernel) rfl rfl (Nat.le_of_ble_eq_true rfl) dX5_restart_9 (cSet3 (0 : Int32)) (fun H locs hP hS => ?_)
  obtain ⟨I3, eI3⟩ : ∃ z : Nat → Int32, z = upd I1 3 (0 : Int32) := ⟨_, rfl⟩
  rw [← eI3] at hP
  have h := h I3 eI3
  refine lv_aload_n hx hb dX5_restart_12 rfl (lv_at hl 0 rfl) ?_
  refine lv_iconst (v := (1 : Int32)) hx hb dX5_restart_13 (by decide) ?_
  refine gPut (D := D) (ci := 5) (ty := .boolean) (C := RX5) (T := TX5) (N := 3) hx hb hts (fun _ h9 => List.mem_cons_of_mem _ (List.mem_append_left _ (List.mem_append_right _ h9))) tyX5 tyX5_ok nmX5 hown hK hP (cD hq) hS 2 cAt2 rfl 2 (by decide) (hts _ (List.mem_of_getElem? (l := wsX5_restart) (i := 3) rfl)) (fun _ h9 => h9) rfl (by decide +kernel) (by decide) (by decide) (Nat.le_of_ble_eq_true rfl) dX5_restart_14 (cSet4 (1 : Int32)) (fun H locs hP hS => ?_)
  obtain ⟨I4, eI4⟩ : ∃ z : Nat → Int32, z = upd I3 4 (1 : Int32) := ⟨_, rfl⟩
  rw [← eI4] at hP
  have h := h I4 eI4
  exact hret (I4, F2) _ _ _ _ dX5_restart_17 hP hS h
end
section
theorem zz_last : True := trivial
end
