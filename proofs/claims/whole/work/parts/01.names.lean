-- ===== PART A: goes FIRST, ahead of the names: the tables' words, and 'selects' of the private methods out of them =====
/-- a private method of a class that the tables say can be made, by its rows of tables_1 -/
def lw_okq (q : MethodName × Nat) : Prop := (q.1.cls ≠ "java/lang/invoke/MethodHandle" ∧ q.1.cls ≠ "java/lang/invoke/VarHandle") ∧ Cond.instantiable q.1.cls q.2 ∈ tables_1 ∧ Cond.privateMethod q.1 ∈ tables_1 ∧ Cond.instanceMethod q.1 ∈ tables_1
theorem lw_p0 : lw_okq (⟨"ThirstHours", "feedEight", "(J)V"⟩, 14) := ⟨⟨by decide +kernel, by decide +kernel⟩, List.mem_of_getElem? (i := 22) (by decide +kernel), List.mem_of_getElem? (i := 498) (by decide +kernel), List.mem_of_getElem? (i := 499) (by decide +kernel)⟩
theorem lw_p1 : lw_okq (⟨"ThirstHours$Tape", "skipBlanks", "()V"⟩, 9) := ⟨⟨by decide +kernel, by decide +kernel⟩, List.mem_of_getElem? (i := 30) (by decide +kernel), List.mem_of_getElem? (i := 527) (by decide +kernel), List.mem_of_getElem? (i := 528) (by decide +kernel)⟩
theorem lw_p2 : lw_okq (⟨"ThirstHours$Tape", "takeWord", "()V"⟩, 9) := ⟨⟨by decide +kernel, by decide +kernel⟩, List.mem_of_getElem? (i := 30) (by decide +kernel), List.mem_of_getElem? (i := 534) (by decide +kernel), List.mem_of_getElem? (i := 535) (by decide +kernel)⟩
theorem lw_p3 : lw_okq (⟨"ThirstHours$Tape", "takeNumber", "()V"⟩, 9) := ⟨⟨by decide +kernel, by decide +kernel⟩, List.mem_of_getElem? (i := 30) (by decide +kernel), List.mem_of_getElem? (i := 550) (by decide +kernel), List.mem_of_getElem? (i := 551) (by decide +kernel)⟩
theorem lw_p4 : lw_okq (⟨"ThirstHours$Tape", "takeSign", "()V"⟩, 9) := ⟨⟨by decide +kernel, by decide +kernel⟩, List.mem_of_getElem? (i := 30) (by decide +kernel), List.mem_of_getElem? (i := 554) (by decide +kernel), List.mem_of_getElem? (i := 555) (by decide +kernel)⟩
theorem lw_p5 : lw_okq (⟨"ThirstHours$Reader", "postLine", "()Z"⟩, 6) := ⟨⟨by decide +kernel, by decide +kernel⟩, List.mem_of_getElem? (i := 72) (by decide +kernel), List.mem_of_getElem? (i := 558) (by decide +kernel), List.mem_of_getElem? (i := 559) (by decide +kernel)⟩
theorem lw_p6 : lw_okq (⟨"ThirstHours$Reader", "placeLine", "()Z"⟩, 6) := ⟨⟨by decide +kernel, by decide +kernel⟩, List.mem_of_getElem? (i := 72) (by decide +kernel), List.mem_of_getElem? (i := 564) (by decide +kernel), List.mem_of_getElem? (i := 565) (by decide +kernel)⟩
theorem lw_p7 : lw_okq (⟨"ThirstHours$Reader", "wrong", "(I)Z"⟩, 6) := ⟨⟨by decide +kernel, by decide +kernel⟩, List.mem_of_getElem? (i := 72) (by decide +kernel), List.mem_of_getElem? (i := 568) (by decide +kernel), List.mem_of_getElem? (i := 569) (by decide +kernel)⟩
theorem lw_p8 : lw_okq (⟨"ThirstHours$Reader", "newName", "(I)Z"⟩, 6) := ⟨⟨by decide +kernel, by decide +kernel⟩, List.mem_of_getElem? (i := 72) (by decide +kernel), List.mem_of_getElem? (i := 573) (by decide +kernel), List.mem_of_getElem? (i := 574) (by decide +kernel)⟩
theorem lw_p9 : lw_okq (⟨"ThirstHours$Reader", "indexOfName", "(II)I"⟩, 6) := ⟨⟨by decide +kernel, by decide +kernel⟩, List.mem_of_getElem? (i := 72) (by decide +kernel), List.mem_of_getElem? (i := 581) (by decide +kernel), List.mem_of_getElem? (i := 582) (by decide +kernel)⟩
theorem lw_p10 : lw_okq (⟨"ThirstHours$Reader", "word", "(LThirstHours$Word;)Z"⟩, 6) := ⟨⟨by decide +kernel, by decide +kernel⟩, List.mem_of_getElem? (i := 72) (by decide +kernel), List.mem_of_getElem? (i := 587) (by decide +kernel), List.mem_of_getElem? (i := 588) (by decide +kernel)⟩
theorem lw_p11 : lw_okq (⟨"ThirstHours$Reader", "number", "(II)Z"⟩, 6) := ⟨⟨by decide +kernel, by decide +kernel⟩, List.mem_of_getElem? (i := 72) (by decide +kernel), List.mem_of_getElem? (i := 591) (by decide +kernel), List.mem_of_getElem? (i := 592) (by decide +kernel)⟩
theorem lw_p12 : lw_okq (⟨"ThirstHours$Reader", "sign", "(C)Z"⟩, 6) := ⟨⟨by decide +kernel, by decide +kernel⟩, List.mem_of_getElem? (i := 72) (by decide +kernel), List.mem_of_getElem? (i := 595) (by decide +kernel), List.mem_of_getElem? (i := 596) (by decide +kernel)⟩
theorem lw_p13 : lw_okq (⟨"ThirstHours$Reader", "wayLine", "()Z"⟩, 6) := ⟨⟨by decide +kernel, by decide +kernel⟩, List.mem_of_getElem? (i := 72) (by decide +kernel), List.mem_of_getElem? (i := 601) (by decide +kernel), List.mem_of_getElem? (i := 602) (by decide +kernel)⟩
theorem lw_p14 : lw_okq (⟨"ThirstHours$Reader", "toldName", "(II)Z"⟩, 6) := ⟨⟨by decide +kernel, by decide +kernel⟩, List.mem_of_getElem? (i := 72) (by decide +kernel), List.mem_of_getElem? (i := 605) (by decide +kernel), List.mem_of_getElem? (i := 606) (by decide +kernel)⟩
theorem lw_p15 : lw_okq (⟨"ThirstHours$Reader", "otherEnd", "(I)Z"⟩, 6) := ⟨⟨by decide +kernel, by decide +kernel⟩, List.mem_of_getElem? (i := 72) (by decide +kernel), List.mem_of_getElem? (i := 609) (by decide +kernel), List.mem_of_getElem? (i := 610) (by decide +kernel)⟩
def lw_privs_1 : List (MethodName × Nat) := [(⟨"ThirstHours", "feedEight", "(J)V"⟩, 14), (⟨"ThirstHours$Tape", "skipBlanks", "()V"⟩, 9), (⟨"ThirstHours$Tape", "takeWord", "()V"⟩, 9), (⟨"ThirstHours$Tape", "takeNumber", "()V"⟩, 9), (⟨"ThirstHours$Tape", "takeSign", "()V"⟩, 9), (⟨"ThirstHours$Reader", "postLine", "()Z"⟩, 6), (⟨"ThirstHours$Reader", "placeLine", "()Z"⟩, 6), (⟨"ThirstHours$Reader", "wrong", "(I)Z"⟩, 6), (⟨"ThirstHours$Reader", "newName", "(I)Z"⟩, 6), (⟨"ThirstHours$Reader", "indexOfName", "(II)I"⟩, 6), (⟨"ThirstHours$Reader", "word", "(LThirstHours$Word;)Z"⟩, 6), (⟨"ThirstHours$Reader", "number", "(II)Z"⟩, 6), (⟨"ThirstHours$Reader", "sign", "(C)Z"⟩, 6), (⟨"ThirstHours$Reader", "wayLine", "()Z"⟩, 6), (⟨"ThirstHours$Reader", "toldName", "(II)Z"⟩, 6), (⟨"ThirstHours$Reader", "otherEnd", "(I)Z"⟩, 6)]
theorem lw_r1 : ∀ q ∈ lw_privs_1, lw_okq q := List.forall_mem_cons.mpr ⟨lw_p0, List.forall_mem_cons.mpr ⟨lw_p1, List.forall_mem_cons.mpr ⟨lw_p2, List.forall_mem_cons.mpr ⟨lw_p3, List.forall_mem_cons.mpr ⟨lw_p4, List.forall_mem_cons.mpr ⟨lw_p5, List.forall_mem_cons.mpr ⟨lw_p6, List.forall_mem_cons.mpr ⟨lw_p7, List.forall_mem_cons.mpr ⟨lw_p8, List.forall_mem_cons.mpr ⟨lw_p9, List.forall_mem_cons.mpr ⟨lw_p10, List.forall_mem_cons.mpr ⟨lw_p11, List.forall_mem_cons.mpr ⟨lw_p12, List.forall_mem_cons.mpr ⟨lw_p13, List.forall_mem_cons.mpr ⟨lw_p14, List.forall_mem_cons.mpr ⟨lw_p15, fun _ h => absurd h List.not_mem_nil⟩⟩⟩⟩⟩⟩⟩⟩⟩⟩⟩⟩⟩⟩⟩⟩
theorem lw_p16 : lw_okq (⟨"ThirstHours$Reader", "clockLine", "()Z"⟩, 6) := ⟨⟨by decide +kernel, by decide +kernel⟩, List.mem_of_getElem? (i := 72) (by decide +kernel), List.mem_of_getElem? (i := 623) (by decide +kernel), List.mem_of_getElem? (i := 624) (by decide +kernel)⟩
theorem lw_p17 : lw_okq (⟨"ThirstHours$Reader", "kindOfClock", "()Z"⟩, 6) := ⟨⟨by decide +kernel, by decide +kernel⟩, List.mem_of_getElem? (i := 72) (by decide +kernel), List.mem_of_getElem? (i := 627) (by decide +kernel), List.mem_of_getElem? (i := 628) (by decide +kernel)⟩
theorem lw_p18 : lw_okq (⟨"ThirstHours$Reader", "personLine", "()Z"⟩, 6) := ⟨⟨by decide +kernel, by decide +kernel⟩, List.mem_of_getElem? (i := 72) (by decide +kernel), List.mem_of_getElem? (i := 649) (by decide +kernel), List.mem_of_getElem? (i := 650) (by decide +kernel)⟩
theorem lw_p19 : lw_okq (⟨"ThirstHours$Reader", "workLine", "()Z"⟩, 6) := ⟨⟨by decide +kernel, by decide +kernel⟩, List.mem_of_getElem? (i := 72) (by decide +kernel), List.mem_of_getElem? (i := 655) (by decide +kernel), List.mem_of_getElem? (i := 656) (by decide +kernel)⟩
theorem lw_p20 : lw_okq (⟨"ThirstHours$Reader", "heatLine", "()Z"⟩, 6) := ⟨⟨by decide +kernel, by decide +kernel⟩, List.mem_of_getElem? (i := 72) (by decide +kernel), List.mem_of_getElem? (i := 667) (by decide +kernel), List.mem_of_getElem? (i := 668) (by decide +kernel)⟩
theorem lw_p21 : lw_okq (⟨"ThirstHours$Reader", "thirstLine", "()Z"⟩, 6) := ⟨⟨by decide +kernel, by decide +kernel⟩, List.mem_of_getElem? (i := 72) (by decide +kernel), List.mem_of_getElem? (i := 675) (by decide +kernel), List.mem_of_getElem? (i := 676) (by decide +kernel)⟩
theorem lw_p22 : lw_okq (⟨"ThirstHours$Reader", "expression", "(I)Z"⟩, 6) := ⟨⟨by decide +kernel, by decide +kernel⟩, List.mem_of_getElem? (i := 72) (by decide +kernel), List.mem_of_getElem? (i := 683) (by decide +kernel), List.mem_of_getElem? (i := 684) (by decide +kernel)⟩
theorem lw_p23 : lw_okq (⟨"ThirstHours$Reader", "test", "(I)Z"⟩, 6) := ⟨⟨by decide +kernel, by decide +kernel⟩, List.mem_of_getElem? (i := 72) (by decide +kernel), List.mem_of_getElem? (i := 687) (by decide +kernel), List.mem_of_getElem? (i := 688) (by decide +kernel)⟩
theorem lw_p24 : lw_okq (⟨"ThirstHours$Reader", "sum", "(I)Z"⟩, 6) := ⟨⟨by decide +kernel, by decide +kernel⟩, List.mem_of_getElem? (i := 72) (by decide +kernel), List.mem_of_getElem? (i := 691) (by decide +kernel), List.mem_of_getElem? (i := 692) (by decide +kernel)⟩
theorem lw_p25 : lw_okq (⟨"ThirstHours$Reader", "product", "(I)Z"⟩, 6) := ⟨⟨by decide +kernel, by decide +kernel⟩, List.mem_of_getElem? (i := 72) (by decide +kernel), List.mem_of_getElem? (i := 695) (by decide +kernel), List.mem_of_getElem? (i := 696) (by decide +kernel)⟩
theorem lw_p26 : lw_okq (⟨"ThirstHours$Reader", "part", "(I)Z"⟩, 6) := ⟨⟨by decide +kernel, by decide +kernel⟩, List.mem_of_getElem? (i := 72) (by decide +kernel), List.mem_of_getElem? (i := 699) (by decide +kernel), List.mem_of_getElem? (i := 700) (by decide +kernel)⟩
theorem lw_p27 : lw_okq (⟨"ThirstHours$Reader", "factCode", "()I"⟩, 6) := ⟨⟨by decide +kernel, by decide +kernel⟩, List.mem_of_getElem? (i := 72) (by decide +kernel), List.mem_of_getElem? (i := 703) (by decide +kernel), List.mem_of_getElem? (i := 704) (by decide +kernel)⟩
theorem lw_p28 : lw_okq (⟨"ThirstHours$Post", "shortenOver", "(II)V"⟩, 20) := ⟨⟨by decide +kernel, by decide +kernel⟩, List.mem_of_getElem? (i := 97) (by decide +kernel), List.mem_of_getElem? (i := 730) (by decide +kernel), List.mem_of_getElem? (i := 731) (by decide +kernel)⟩
theorem lw_p29 : lw_okq (⟨"ThirstHours", "beginAnew", "()V"⟩, 14) := ⟨⟨by decide +kernel, by decide +kernel⟩, List.mem_of_getElem? (i := 22) (by decide +kernel), List.mem_of_getElem? (i := 738) (by decide +kernel), List.mem_of_getElem? (i := 739) (by decide +kernel)⟩
theorem lw_p30 : lw_okq (⟨"ThirstHours$Reader", "daysLine", "()Z"⟩, 6) := ⟨⟨by decide +kernel, by decide +kernel⟩, List.mem_of_getElem? (i := 72) (by decide +kernel), List.mem_of_getElem? (i := 757) (by decide +kernel), List.mem_of_getElem? (i := 758) (by decide +kernel)⟩
theorem lw_p31 : lw_okq (⟨"ThirstHours$Reader", "hourLine", "()Z"⟩, 6) := ⟨⟨by decide +kernel, by decide +kernel⟩, List.mem_of_getElem? (i := 72) (by decide +kernel), List.mem_of_getElem? (i := 769) (by decide +kernel), List.mem_of_getElem? (i := 770) (by decide +kernel)⟩
def lw_privs_2 : List (MethodName × Nat) := [(⟨"ThirstHours$Reader", "clockLine", "()Z"⟩, 6), (⟨"ThirstHours$Reader", "kindOfClock", "()Z"⟩, 6), (⟨"ThirstHours$Reader", "personLine", "()Z"⟩, 6), (⟨"ThirstHours$Reader", "workLine", "()Z"⟩, 6), (⟨"ThirstHours$Reader", "heatLine", "()Z"⟩, 6), (⟨"ThirstHours$Reader", "thirstLine", "()Z"⟩, 6), (⟨"ThirstHours$Reader", "expression", "(I)Z"⟩, 6), (⟨"ThirstHours$Reader", "test", "(I)Z"⟩, 6), (⟨"ThirstHours$Reader", "sum", "(I)Z"⟩, 6), (⟨"ThirstHours$Reader", "product", "(I)Z"⟩, 6), (⟨"ThirstHours$Reader", "part", "(I)Z"⟩, 6), (⟨"ThirstHours$Reader", "factCode", "()I"⟩, 6), (⟨"ThirstHours$Post", "shortenOver", "(II)V"⟩, 20), (⟨"ThirstHours", "beginAnew", "()V"⟩, 14), (⟨"ThirstHours$Reader", "daysLine", "()Z"⟩, 6), (⟨"ThirstHours$Reader", "hourLine", "()Z"⟩, 6)]
theorem lw_r2 : ∀ q ∈ lw_privs_2, lw_okq q := List.forall_mem_cons.mpr ⟨lw_p16, List.forall_mem_cons.mpr ⟨lw_p17, List.forall_mem_cons.mpr ⟨lw_p18, List.forall_mem_cons.mpr ⟨lw_p19, List.forall_mem_cons.mpr ⟨lw_p20, List.forall_mem_cons.mpr ⟨lw_p21, List.forall_mem_cons.mpr ⟨lw_p22, List.forall_mem_cons.mpr ⟨lw_p23, List.forall_mem_cons.mpr ⟨lw_p24, List.forall_mem_cons.mpr ⟨lw_p25, List.forall_mem_cons.mpr ⟨lw_p26, List.forall_mem_cons.mpr ⟨lw_p27, List.forall_mem_cons.mpr ⟨lw_p28, List.forall_mem_cons.mpr ⟨lw_p29, List.forall_mem_cons.mpr ⟨lw_p30, List.forall_mem_cons.mpr ⟨lw_p31, fun _ h => absurd h List.not_mem_nil⟩⟩⟩⟩⟩⟩⟩⟩⟩⟩⟩⟩⟩⟩⟩⟩
theorem lw_p32 : lw_okq (⟨"ThirstHours$Reader", "clockDeed", "(II)Z"⟩, 6) := ⟨⟨by decide +kernel, by decide +kernel⟩, List.mem_of_getElem? (i := 72) (by decide +kernel), List.mem_of_getElem? (i := 777) (by decide +kernel), List.mem_of_getElem? (i := 778) (by decide +kernel)⟩
theorem lw_p33 : lw_okq (⟨"ThirstHours$Reader", "drawLine", "(I)Z"⟩, 6) := ⟨⟨by decide +kernel, by decide +kernel⟩, List.mem_of_getElem? (i := 72) (by decide +kernel), List.mem_of_getElem? (i := 781) (by decide +kernel), List.mem_of_getElem? (i := 782) (by decide +kernel)⟩
theorem lw_p34 : lw_okq (⟨"ThirstHours$Reader", "goLine", "(I)Z"⟩, 6) := ⟨⟨by decide +kernel, by decide +kernel⟩, List.mem_of_getElem? (i := 72) (by decide +kernel), List.mem_of_getElem? (i := 785) (by decide +kernel), List.mem_of_getElem? (i := 786) (by decide +kernel)⟩
theorem lw_p35 : lw_okq (⟨"ThirstHours$Post", "drinkAll", "(LThirstHours$State;)I"⟩, 20) := ⟨⟨by decide +kernel, by decide +kernel⟩, List.mem_of_getElem? (i := 97) (by decide +kernel), List.mem_of_getElem? (i := 873) (by decide +kernel), List.mem_of_getElem? (i := 874) (by decide +kernel)⟩
theorem lw_p36 : lw_okq (⟨"ThirstHours$Post", "settleWorks", "(LThirstHours$State;I)V"⟩, 20) := ⟨⟨by decide +kernel, by decide +kernel⟩, List.mem_of_getElem? (i := 97) (by decide +kernel), List.mem_of_getElem? (i := 877) (by decide +kernel), List.mem_of_getElem? (i := 878) (by decide +kernel)⟩
theorem lw_p37 : lw_okq (⟨"ThirstHours", "keepBefore", "()V"⟩, 14) := ⟨⟨by decide +kernel, by decide +kernel⟩, List.mem_of_getElem? (i := 22) (by decide +kernel), List.mem_of_getElem? (i := 881) (by decide +kernel), List.mem_of_getElem? (i := 882) (by decide +kernel)⟩
theorem lw_p38 : lw_okq (⟨"ThirstHours$Choice", "sumThirsts", "(LThirstHours$Post;)V"⟩, 17) := ⟨⟨by decide +kernel, by decide +kernel⟩, List.mem_of_getElem? (i := 393) (by decide +kernel), List.mem_of_getElem? (i := 991) (by decide +kernel), List.mem_of_getElem? (i := 992) (by decide +kernel)⟩
theorem lw_p39 : lw_okq (⟨"ThirstHours$Choice", "siegeCost", "(LThirstHours$Post;II)I"⟩, 17) := ⟨⟨by decide +kernel, by decide +kernel⟩, List.mem_of_getElem? (i := 393) (by decide +kernel), List.mem_of_getElem? (i := 996) (by decide +kernel), List.mem_of_getElem? (i := 997) (by decide +kernel)⟩
theorem lw_p40 : lw_okq (⟨"ThirstHours$Heard", "soAt", "(I)I"⟩, 6) := ⟨⟨by decide +kernel, by decide +kernel⟩, List.mem_of_getElem? (i := 330) (by decide +kernel), List.mem_of_getElem? (i := 1017) (by decide +kernel), List.mem_of_getElem? (i := 1018) (by decide +kernel)⟩
theorem lw_p41 : lw_okq (⟨"ThirstHours$Choice", "setDeadline", "(II)V"⟩, 17) := ⟨⟨by decide +kernel, by decide +kernel⟩, List.mem_of_getElem? (i := 393) (by decide +kernel), List.mem_of_getElem? (i := 1033) (by decide +kernel), List.mem_of_getElem? (i := 1034) (by decide +kernel)⟩
theorem lw_p42 : lw_okq (⟨"ThirstHours$Choice", "goOn", "(LThirstHours$Post;IIII)V"⟩, 17) := ⟨⟨by decide +kernel, by decide +kernel⟩, List.mem_of_getElem? (i := 393) (by decide +kernel), List.mem_of_getElem? (i := 1038) (by decide +kernel), List.mem_of_getElem? (i := 1039) (by decide +kernel)⟩
theorem lw_p43 : lw_okq (⟨"ThirstHours$Choice", "tellingHeat", "(LThirstHours$Heard;I)I"⟩, 17) := ⟨⟨by decide +kernel, by decide +kernel⟩, List.mem_of_getElem? (i := 393) (by decide +kernel), List.mem_of_getElem? (i := 1082) (by decide +kernel), List.mem_of_getElem? (i := 1083) (by decide +kernel)⟩
theorem lw_p44 : lw_okq (⟨"ThirstHours$Choice", "mostAlike", "(LThirstHours$Heard;I)I"⟩, 17) := ⟨⟨by decide +kernel, by decide +kernel⟩, List.mem_of_getElem? (i := 393) (by decide +kernel), List.mem_of_getElem? (i := 1086) (by decide +kernel), List.mem_of_getElem? (i := 1087) (by decide +kernel)⟩
theorem lw_p45 : lw_okq (⟨"ThirstHours$Ahead", "theftsNow", "(LThirstHours$Post;III)I"⟩, 3) := ⟨⟨by decide +kernel, by decide +kernel⟩, List.mem_of_getElem? (i := 374) (by decide +kernel), List.mem_of_getElem? (i := 1098) (by decide +kernel), List.mem_of_getElem? (i := 1099) (by decide +kernel)⟩
theorem lw_p46 : lw_okq (⟨"ThirstHours$Ahead", "goRobbed", "(LThirstHours$Post;III)I"⟩, 3) := ⟨⟨by decide +kernel, by decide +kernel⟩, List.mem_of_getElem? (i := 374) (by decide +kernel), List.mem_of_getElem? (i := 1102) (by decide +kernel), List.mem_of_getElem? (i := 1103) (by decide +kernel)⟩
theorem lw_p47 : lw_okq (⟨"ThirstHours$Choice", "fillCups", "(IIIII)V"⟩, 17) := ⟨⟨by decide +kernel, by decide +kernel⟩, List.mem_of_getElem? (i := 393) (by decide +kernel), List.mem_of_getElem? (i := 1119) (by decide +kernel), List.mem_of_getElem? (i := 1120) (by decide +kernel)⟩
def lw_privs_3 : List (MethodName × Nat) := [(⟨"ThirstHours$Reader", "clockDeed", "(II)Z"⟩, 6), (⟨"ThirstHours$Reader", "drawLine", "(I)Z"⟩, 6), (⟨"ThirstHours$Reader", "goLine", "(I)Z"⟩, 6), (⟨"ThirstHours$Post", "drinkAll", "(LThirstHours$State;)I"⟩, 20), (⟨"ThirstHours$Post", "settleWorks", "(LThirstHours$State;I)V"⟩, 20), (⟨"ThirstHours", "keepBefore", "()V"⟩, 14), (⟨"ThirstHours$Choice", "sumThirsts", "(LThirstHours$Post;)V"⟩, 17), (⟨"ThirstHours$Choice", "siegeCost", "(LThirstHours$Post;II)I"⟩, 17), (⟨"ThirstHours$Heard", "soAt", "(I)I"⟩, 6), (⟨"ThirstHours$Choice", "setDeadline", "(II)V"⟩, 17), (⟨"ThirstHours$Choice", "goOn", "(LThirstHours$Post;IIII)V"⟩, 17), (⟨"ThirstHours$Choice", "tellingHeat", "(LThirstHours$Heard;I)I"⟩, 17), (⟨"ThirstHours$Choice", "mostAlike", "(LThirstHours$Heard;I)I"⟩, 17), (⟨"ThirstHours$Ahead", "theftsNow", "(LThirstHours$Post;III)I"⟩, 3), (⟨"ThirstHours$Ahead", "goRobbed", "(LThirstHours$Post;III)I"⟩, 3), (⟨"ThirstHours$Choice", "fillCups", "(IIIII)V"⟩, 17)]
theorem lw_r3 : ∀ q ∈ lw_privs_3, lw_okq q := List.forall_mem_cons.mpr ⟨lw_p32, List.forall_mem_cons.mpr ⟨lw_p33, List.forall_mem_cons.mpr ⟨lw_p34, List.forall_mem_cons.mpr ⟨lw_p35, List.forall_mem_cons.mpr ⟨lw_p36, List.forall_mem_cons.mpr ⟨lw_p37, List.forall_mem_cons.mpr ⟨lw_p38, List.forall_mem_cons.mpr ⟨lw_p39, List.forall_mem_cons.mpr ⟨lw_p40, List.forall_mem_cons.mpr ⟨lw_p41, List.forall_mem_cons.mpr ⟨lw_p42, List.forall_mem_cons.mpr ⟨lw_p43, List.forall_mem_cons.mpr ⟨lw_p44, List.forall_mem_cons.mpr ⟨lw_p45, List.forall_mem_cons.mpr ⟨lw_p46, List.forall_mem_cons.mpr ⟨lw_p47, fun _ h => absurd h List.not_mem_nil⟩⟩⟩⟩⟩⟩⟩⟩⟩⟩⟩⟩⟩⟩⟩⟩
theorem lw_p48 : lw_okq (⟨"ThirstHours$Ahead", "drawBelow", "(I)I"⟩, 3) := ⟨⟨by decide +kernel, by decide +kernel⟩, List.mem_of_getElem? (i := 374) (by decide +kernel), List.mem_of_getElem? (i := 1131) (by decide +kernel), List.mem_of_getElem? (i := 1132) (by decide +kernel)⟩
theorem lw_p49 : lw_okq (⟨"ThirstHours$Ahead", "rain", "(LThirstHours$Post;)V"⟩, 3) := ⟨⟨by decide +kernel, by decide +kernel⟩, List.mem_of_getElem? (i := 374) (by decide +kernel), List.mem_of_getElem? (i := 1139) (by decide +kernel), List.mem_of_getElem? (i := 1140) (by decide +kernel)⟩
theorem lw_p50 : lw_okq (⟨"ThirstHours$Ahead", "stillOnes", "(LThirstHours$Post;)I"⟩, 3) := ⟨⟨by decide +kernel, by decide +kernel⟩, List.mem_of_getElem? (i := 374) (by decide +kernel), List.mem_of_getElem? (i := 1147) (by decide +kernel), List.mem_of_getElem? (i := 1148) (by decide +kernel)⟩
theorem lw_p51 : lw_okq (⟨"java/lang/Throwable", "fillInStackTrace", "(I)Ljava/lang/Throwable;"⟩, 6) := ⟨⟨by decide +kernel, by decide +kernel⟩, List.mem_of_getElem? (i := 1223) (by decide +kernel), List.mem_of_getElem? (i := 1221) (by decide +kernel), List.mem_of_getElem? (i := 1222) (by decide +kernel)⟩
theorem lw_p52 : lw_okq (⟨"ThirstHours$Choice", "sell", "(LThirstHours$Post;LThirstHours$State;III)V"⟩, 17) := ⟨⟨by decide +kernel, by decide +kernel⟩, List.mem_of_getElem? (i := 393) (by decide +kernel), List.mem_of_getElem? (i := 1252) (by decide +kernel), List.mem_of_getElem? (i := 1253) (by decide +kernel)⟩
theorem lw_p53 : lw_okq (⟨"ThirstHours$Choice", "isAtRest", "(I)Z"⟩, 17) := ⟨⟨by decide +kernel, by decide +kernel⟩, List.mem_of_getElem? (i := 393) (by decide +kernel), List.mem_of_getElem? (i := 1256) (by decide +kernel), List.mem_of_getElem? (i := 1257) (by decide +kernel)⟩
theorem lw_p54 : lw_okq (⟨"ThirstHoursModel", "readsAll", "()Z"⟩, 82) := ⟨⟨by decide +kernel, by decide +kernel⟩, List.mem_of_getElem? (i := 1260) (by decide +kernel), List.mem_of_getElem? (i := 1526) (by decide +kernel), List.mem_of_getElem? (i := 1527) (by decide +kernel)⟩
theorem lw_p55 : lw_okq (⟨"ThirstHoursModel", "starts", "()V"⟩, 82) := ⟨⟨by decide +kernel, by decide +kernel⟩, List.mem_of_getElem? (i := 1260) (by decide +kernel), List.mem_of_getElem? (i := 1530) (by decide +kernel), List.mem_of_getElem? (i := 1531) (by decide +kernel)⟩
theorem lw_p56 : lw_okq (⟨"ThirstHoursModel", "nextToken", "()V"⟩, 82) := ⟨⟨by decide +kernel, by decide +kernel⟩, List.mem_of_getElem? (i := 1260) (by decide +kernel), List.mem_of_getElem? (i := 1534) (by decide +kernel), List.mem_of_getElem? (i := 1535) (by decide +kernel)⟩
theorem lw_p57 : lw_okq (⟨"ThirstHoursModel", "signAt", "(I)I"⟩, 82) := ⟨⟨by decide +kernel, by decide +kernel⟩, List.mem_of_getElem? (i := 1260) (by decide +kernel), List.mem_of_getElem? (i := 1538) (by decide +kernel), List.mem_of_getElem? (i := 1539) (by decide +kernel)⟩
theorem lw_p58 : lw_okq (⟨"ThirstHoursModel", "isWord", "(J)Z"⟩, 82) := ⟨⟨by decide +kernel, by decide +kernel⟩, List.mem_of_getElem? (i := 1260) (by decide +kernel), List.mem_of_getElem? (i := 1545) (by decide +kernel), List.mem_of_getElem? (i := 1546) (by decide +kernel)⟩
theorem lw_p59 : lw_okq (⟨"ThirstHoursModel", "readsPlace", "()Z"⟩, 82) := ⟨⟨by decide +kernel, by decide +kernel⟩, List.mem_of_getElem? (i := 1260) (by decide +kernel), List.mem_of_getElem? (i := 1549) (by decide +kernel), List.mem_of_getElem? (i := 1550) (by decide +kernel)⟩
theorem lw_p60 : lw_okq (⟨"ThirstHoursModel", "fails", "(I)Z"⟩, 82) := ⟨⟨by decide +kernel, by decide +kernel⟩, List.mem_of_getElem? (i := 1260) (by decide +kernel), List.mem_of_getElem? (i := 1553) (by decide +kernel), List.mem_of_getElem? (i := 1554) (by decide +kernel)⟩
theorem lw_p61 : lw_okq (⟨"ThirstHoursModel", "isNew", "()Z"⟩, 82) := ⟨⟨by decide +kernel, by decide +kernel⟩, List.mem_of_getElem? (i := 1260) (by decide +kernel), List.mem_of_getElem? (i := 1557) (by decide +kernel), List.mem_of_getElem? (i := 1558) (by decide +kernel)⟩
theorem lw_p62 : lw_okq (⟨"ThirstHoursModel", "isKept", "()Z"⟩, 82) := ⟨⟨by decide +kernel, by decide +kernel⟩, List.mem_of_getElem? (i := 1260) (by decide +kernel), List.mem_of_getElem? (i := 1561) (by decide +kernel), List.mem_of_getElem? (i := 1562) (by decide +kernel)⟩
theorem lw_p63 : lw_okq (⟨"ThirstHoursModel", "placeNamed", "(I)I"⟩, 82) := ⟨⟨by decide +kernel, by decide +kernel⟩, List.mem_of_getElem? (i := 1260) (by decide +kernel), List.mem_of_getElem? (i := 1591) (by decide +kernel), List.mem_of_getElem? (i := 1592) (by decide +kernel)⟩
def lw_privs_4 : List (MethodName × Nat) := [(⟨"ThirstHours$Ahead", "drawBelow", "(I)I"⟩, 3), (⟨"ThirstHours$Ahead", "rain", "(LThirstHours$Post;)V"⟩, 3), (⟨"ThirstHours$Ahead", "stillOnes", "(LThirstHours$Post;)I"⟩, 3), (⟨"java/lang/Throwable", "fillInStackTrace", "(I)Ljava/lang/Throwable;"⟩, 6), (⟨"ThirstHours$Choice", "sell", "(LThirstHours$Post;LThirstHours$State;III)V"⟩, 17), (⟨"ThirstHours$Choice", "isAtRest", "(I)Z"⟩, 17), (⟨"ThirstHoursModel", "readsAll", "()Z"⟩, 82), (⟨"ThirstHoursModel", "starts", "()V"⟩, 82), (⟨"ThirstHoursModel", "nextToken", "()V"⟩, 82), (⟨"ThirstHoursModel", "signAt", "(I)I"⟩, 82), (⟨"ThirstHoursModel", "isWord", "(J)Z"⟩, 82), (⟨"ThirstHoursModel", "readsPlace", "()Z"⟩, 82), (⟨"ThirstHoursModel", "fails", "(I)Z"⟩, 82), (⟨"ThirstHoursModel", "isNew", "()Z"⟩, 82), (⟨"ThirstHoursModel", "isKept", "()Z"⟩, 82), (⟨"ThirstHoursModel", "placeNamed", "(I)I"⟩, 82)]
theorem lw_r4 : ∀ q ∈ lw_privs_4, lw_okq q := List.forall_mem_cons.mpr ⟨lw_p48, List.forall_mem_cons.mpr ⟨lw_p49, List.forall_mem_cons.mpr ⟨lw_p50, List.forall_mem_cons.mpr ⟨lw_p51, List.forall_mem_cons.mpr ⟨lw_p52, List.forall_mem_cons.mpr ⟨lw_p53, List.forall_mem_cons.mpr ⟨lw_p54, List.forall_mem_cons.mpr ⟨lw_p55, List.forall_mem_cons.mpr ⟨lw_p56, List.forall_mem_cons.mpr ⟨lw_p57, List.forall_mem_cons.mpr ⟨lw_p58, List.forall_mem_cons.mpr ⟨lw_p59, List.forall_mem_cons.mpr ⟨lw_p60, List.forall_mem_cons.mpr ⟨lw_p61, List.forall_mem_cons.mpr ⟨lw_p62, List.forall_mem_cons.mpr ⟨lw_p63, fun _ h => absurd h List.not_mem_nil⟩⟩⟩⟩⟩⟩⟩⟩⟩⟩⟩⟩⟩⟩⟩⟩
theorem lw_p64 : lw_okq (⟨"ThirstHoursModel", "timerNamed", "(I)I"⟩, 82) := ⟨⟨by decide +kernel, by decide +kernel⟩, List.mem_of_getElem? (i := 1260) (by decide +kernel), List.mem_of_getElem? (i := 1598) (by decide +kernel), List.mem_of_getElem? (i := 1599) (by decide +kernel)⟩
theorem lw_p65 : lw_okq (⟨"ThirstHoursModel", "personNamed", "(I)I"⟩, 82) := ⟨⟨by decide +kernel, by decide +kernel⟩, List.mem_of_getElem? (i := 1260) (by decide +kernel), List.mem_of_getElem? (i := 1602) (by decide +kernel), List.mem_of_getElem? (i := 1603) (by decide +kernel)⟩
theorem lw_p66 : lw_okq (⟨"ThirstHoursModel", "needsBoth", "(JII)Z"⟩, 82) := ⟨⟨by decide +kernel, by decide +kernel⟩, List.mem_of_getElem? (i := 1260) (by decide +kernel), List.mem_of_getElem? (i := 1606) (by decide +kernel), List.mem_of_getElem? (i := 1607) (by decide +kernel)⟩
theorem lw_p67 : lw_okq (⟨"ThirstHoursModel", "needsWord", "(J)Z"⟩, 82) := ⟨⟨by decide +kernel, by decide +kernel⟩, List.mem_of_getElem? (i := 1260) (by decide +kernel), List.mem_of_getElem? (i := 1610) (by decide +kernel), List.mem_of_getElem? (i := 1611) (by decide +kernel)⟩
theorem lw_p68 : lw_okq (⟨"ThirstHoursModel", "needsNumber", "(II)Z"⟩, 82) := ⟨⟨by decide +kernel, by decide +kernel⟩, List.mem_of_getElem? (i := 1260) (by decide +kernel), List.mem_of_getElem? (i := 1614) (by decide +kernel), List.mem_of_getElem? (i := 1615) (by decide +kernel)⟩
theorem lw_p69 : lw_okq (⟨"ThirstHoursModel", "closes", "()Z"⟩, 82) := ⟨⟨by decide +kernel, by decide +kernel⟩, List.mem_of_getElem? (i := 1260) (by decide +kernel), List.mem_of_getElem? (i := 1621) (by decide +kernel), List.mem_of_getElem? (i := 1622) (by decide +kernel)⟩
theorem lw_p70 : lw_okq (⟨"ThirstHoursModel", "isSign", "(I)Z"⟩, 82) := ⟨⟨by decide +kernel, by decide +kernel⟩, List.mem_of_getElem? (i := 1260) (by decide +kernel), List.mem_of_getElem? (i := 1625) (by decide +kernel), List.mem_of_getElem? (i := 1626) (by decide +kernel)⟩
theorem lw_p71 : lw_okq (⟨"ThirstHoursModel", "readsWay", "()Z"⟩, 82) := ⟨⟨by decide +kernel, by decide +kernel⟩, List.mem_of_getElem? (i := 1260) (by decide +kernel), List.mem_of_getElem? (i := 1629) (by decide +kernel), List.mem_of_getElem? (i := 1630) (by decide +kernel)⟩
theorem lw_p72 : lw_okq (⟨"ThirstHoursModel", "needsTold", "(II)Z"⟩, 82) := ⟨⟨by decide +kernel, by decide +kernel⟩, List.mem_of_getElem? (i := 1260) (by decide +kernel), List.mem_of_getElem? (i := 1633) (by decide +kernel), List.mem_of_getElem? (i := 1634) (by decide +kernel)⟩
theorem lw_p73 : lw_okq (⟨"ThirstHoursModel", "readsTimer", "()Z"⟩, 82) := ⟨⟨by decide +kernel, by decide +kernel⟩, List.mem_of_getElem? (i := 1260) (by decide +kernel), List.mem_of_getElem? (i := 1637) (by decide +kernel), List.mem_of_getElem? (i := 1638) (by decide +kernel)⟩
theorem lw_p74 : lw_okq (⟨"ThirstHoursModel", "takesTold", "(JI)Z"⟩, 82) := ⟨⟨by decide +kernel, by decide +kernel⟩, List.mem_of_getElem? (i := 1260) (by decide +kernel), List.mem_of_getElem? (i := 1641) (by decide +kernel), List.mem_of_getElem? (i := 1642) (by decide +kernel)⟩
theorem lw_p75 : lw_okq (⟨"ThirstHoursModel", "readsPerson", "()Z"⟩, 82) := ⟨⟨by decide +kernel, by decide +kernel⟩, List.mem_of_getElem? (i := 1260) (by decide +kernel), List.mem_of_getElem? (i := 1645) (by decide +kernel), List.mem_of_getElem? (i := 1646) (by decide +kernel)⟩
theorem lw_p76 : lw_okq (⟨"ThirstHoursModel", "readsWork", "()Z"⟩, 82) := ⟨⟨by decide +kernel, by decide +kernel⟩, List.mem_of_getElem? (i := 1260) (by decide +kernel), List.mem_of_getElem? (i := 1649) (by decide +kernel), List.mem_of_getElem? (i := 1650) (by decide +kernel)⟩
theorem lw_p77 : lw_okq (⟨"ThirstHoursModel", "readsHeat", "()Z"⟩, 82) := ⟨⟨by decide +kernel, by decide +kernel⟩, List.mem_of_getElem? (i := 1260) (by decide +kernel), List.mem_of_getElem? (i := 1653) (by decide +kernel), List.mem_of_getElem? (i := 1654) (by decide +kernel)⟩
theorem lw_p78 : lw_okq (⟨"ThirstHoursModel", "readsThirst", "()Z"⟩, 82) := ⟨⟨by decide +kernel, by decide +kernel⟩, List.mem_of_getElem? (i := 1260) (by decide +kernel), List.mem_of_getElem? (i := 1657) (by decide +kernel), List.mem_of_getElem? (i := 1658) (by decide +kernel)⟩
theorem lw_p79 : lw_okq (⟨"ThirstHoursModel", "reads", "()Z"⟩, 82) := ⟨⟨by decide +kernel, by decide +kernel⟩, List.mem_of_getElem? (i := 1260) (by decide +kernel), List.mem_of_getElem? (i := 1661) (by decide +kernel), List.mem_of_getElem? (i := 1662) (by decide +kernel)⟩
def lw_privs_5 : List (MethodName × Nat) := [(⟨"ThirstHoursModel", "timerNamed", "(I)I"⟩, 82), (⟨"ThirstHoursModel", "personNamed", "(I)I"⟩, 82), (⟨"ThirstHoursModel", "needsBoth", "(JII)Z"⟩, 82), (⟨"ThirstHoursModel", "needsWord", "(J)Z"⟩, 82), (⟨"ThirstHoursModel", "needsNumber", "(II)Z"⟩, 82), (⟨"ThirstHoursModel", "closes", "()Z"⟩, 82), (⟨"ThirstHoursModel", "isSign", "(I)Z"⟩, 82), (⟨"ThirstHoursModel", "readsWay", "()Z"⟩, 82), (⟨"ThirstHoursModel", "needsTold", "(II)Z"⟩, 82), (⟨"ThirstHoursModel", "readsTimer", "()Z"⟩, 82), (⟨"ThirstHoursModel", "takesTold", "(JI)Z"⟩, 82), (⟨"ThirstHoursModel", "readsPerson", "()Z"⟩, 82), (⟨"ThirstHoursModel", "readsWork", "()Z"⟩, 82), (⟨"ThirstHoursModel", "readsHeat", "()Z"⟩, 82), (⟨"ThirstHoursModel", "readsThirst", "()Z"⟩, 82), (⟨"ThirstHoursModel", "reads", "()Z"⟩, 82)]
theorem lw_r5 : ∀ q ∈ lw_privs_5, lw_okq q := List.forall_mem_cons.mpr ⟨lw_p64, List.forall_mem_cons.mpr ⟨lw_p65, List.forall_mem_cons.mpr ⟨lw_p66, List.forall_mem_cons.mpr ⟨lw_p67, List.forall_mem_cons.mpr ⟨lw_p68, List.forall_mem_cons.mpr ⟨lw_p69, List.forall_mem_cons.mpr ⟨lw_p70, List.forall_mem_cons.mpr ⟨lw_p71, List.forall_mem_cons.mpr ⟨lw_p72, List.forall_mem_cons.mpr ⟨lw_p73, List.forall_mem_cons.mpr ⟨lw_p74, List.forall_mem_cons.mpr ⟨lw_p75, List.forall_mem_cons.mpr ⟨lw_p76, List.forall_mem_cons.mpr ⟨lw_p77, List.forall_mem_cons.mpr ⟨lw_p78, List.forall_mem_cons.mpr ⟨lw_p79, fun _ h => absurd h List.not_mem_nil⟩⟩⟩⟩⟩⟩⟩⟩⟩⟩⟩⟩⟩⟩⟩⟩
theorem lw_p80 : lw_okq (⟨"ThirstHoursModel", "fact", "()I"⟩, 82) := ⟨⟨by decide +kernel, by decide +kernel⟩, List.mem_of_getElem? (i := 1260) (by decide +kernel), List.mem_of_getElem? (i := 1665) (by decide +kernel), List.mem_of_getElem? (i := 1666) (by decide +kernel)⟩
theorem lw_p81 : lw_okq (⟨"ThirstHoursModel", "puts", "(I)V"⟩, 82) := ⟨⟨by decide +kernel, by decide +kernel⟩, List.mem_of_getElem? (i := 1260) (by decide +kernel), List.mem_of_getElem? (i := 1673) (by decide +kernel), List.mem_of_getElem? (i := 1674) (by decide +kernel)⟩
theorem lw_p82 : lw_okq (⟨"ThirstHoursModel", "lays", "()V"⟩, 82) := ⟨⟨by decide +kernel, by decide +kernel⟩, List.mem_of_getElem? (i := 1260) (by decide +kernel), List.mem_of_getElem? (i := 1677) (by decide +kernel), List.mem_of_getElem? (i := 1678) (by decide +kernel)⟩
theorem lw_p83 : lw_okq (⟨"ThirstHoursModel", "fresh", "()V"⟩, 82) := ⟨⟨by decide +kernel, by decide +kernel⟩, List.mem_of_getElem? (i := 1260) (by decide +kernel), List.mem_of_getElem? (i := 1689) (by decide +kernel), List.mem_of_getElem? (i := 1690) (by decide +kernel)⟩
theorem lw_p84 : lw_okq (⟨"ThirstHoursModel", "readsLine", "()Z"⟩, 82) := ⟨⟨by decide +kernel, by decide +kernel⟩, List.mem_of_getElem? (i := 1260) (by decide +kernel), List.mem_of_getElem? (i := 1697) (by decide +kernel), List.mem_of_getElem? (i := 1698) (by decide +kernel)⟩
theorem lw_p85 : lw_okq (⟨"ThirstHoursModel", "needsNext", "(II)Z"⟩, 82) := ⟨⟨by decide +kernel, by decide +kernel⟩, List.mem_of_getElem? (i := 1260) (by decide +kernel), List.mem_of_getElem? (i := 1701) (by decide +kernel), List.mem_of_getElem? (i := 1702) (by decide +kernel)⟩
theorem lw_p86 : lw_okq (⟨"ThirstHoursModel", "laysLines", "(II)V"⟩, 82) := ⟨⟨by decide +kernel, by decide +kernel⟩, List.mem_of_getElem? (i := 1260) (by decide +kernel), List.mem_of_getElem? (i := 1705) (by decide +kernel), List.mem_of_getElem? (i := 1706) (by decide +kernel)⟩
theorem lw_p87 : lw_okq (⟨"ThirstHoursModel", "isTimer", "(I)Z"⟩, 82) := ⟨⟨by decide +kernel, by decide +kernel⟩, List.mem_of_getElem? (i := 1260) (by decide +kernel), List.mem_of_getElem? (i := 1713) (by decide +kernel), List.mem_of_getElem? (i := 1714) (by decide +kernel)⟩
theorem lw_p88 : lw_okq (⟨"ThirstHoursModel", "thirstOf", "(III)I"⟩, 82) := ⟨⟨by decide +kernel, by decide +kernel⟩, List.mem_of_getElem? (i := 1260) (by decide +kernel), List.mem_of_getElem? (i := 1717) (by decide +kernel), List.mem_of_getElem? (i := 1718) (by decide +kernel)⟩
theorem lw_p89 : lw_okq (⟨"ThirstHoursModel", "worked", "(I)I"⟩, 82) := ⟨⟨by decide +kernel, by decide +kernel⟩, List.mem_of_getElem? (i := 1260) (by decide +kernel), List.mem_of_getElem? (i := 1721) (by decide +kernel), List.mem_of_getElem? (i := 1722) (by decide +kernel)⟩
theorem lw_p90 : lw_okq (⟨"ThirstHoursModel", "opens", "(I)V"⟩, 82) := ⟨⟨by decide +kernel, by decide +kernel⟩, List.mem_of_getElem? (i := 1260) (by decide +kernel), List.mem_of_getElem? (i := 1725) (by decide +kernel), List.mem_of_getElem? (i := 1726) (by decide +kernel)⟩
theorem lw_p91 : lw_okq (⟨"ThirstHoursModel", "sums", "(I)V"⟩, 82) := ⟨⟨by decide +kernel, by decide +kernel⟩, List.mem_of_getElem? (i := 1260) (by decide +kernel), List.mem_of_getElem? (i := 1729) (by decide +kernel), List.mem_of_getElem? (i := 1730) (by decide +kernel)⟩
theorem lw_p92 : lw_okq (⟨"ThirstHoursModel", "tests", "(I)V"⟩, 82) := ⟨⟨by decide +kernel, by decide +kernel⟩, List.mem_of_getElem? (i := 1260) (by decide +kernel), List.mem_of_getElem? (i := 1733) (by decide +kernel), List.mem_of_getElem? (i := 1734) (by decide +kernel)⟩
theorem lw_p93 : lw_okq (⟨"ThirstHoursModel", "isPerson", "(I)Z"⟩, 82) := ⟨⟨by decide +kernel, by decide +kernel⟩, List.mem_of_getElem? (i := 1260) (by decide +kernel), List.mem_of_getElem? (i := 1744) (by decide +kernel), List.mem_of_getElem? (i := 1745) (by decide +kernel)⟩
theorem lw_p94 : lw_okq (⟨"ThirstHoursModel", "isPlace", "(I)Z"⟩, 82) := ⟨⟨by decide +kernel, by decide +kernel⟩, List.mem_of_getElem? (i := 1260) (by decide +kernel), List.mem_of_getElem? (i := 1756) (by decide +kernel), List.mem_of_getElem? (i := 1757) (by decide +kernel)⟩
theorem lw_p95 : lw_okq (⟨"ThirstHoursModel", "keeps", "()V"⟩, 82) := ⟨⟨by decide +kernel, by decide +kernel⟩, List.mem_of_getElem? (i := 1260) (by decide +kernel), List.mem_of_getElem? (i := 1768) (by decide +kernel), List.mem_of_getElem? (i := 1769) (by decide +kernel)⟩
def lw_privs_6 : List (MethodName × Nat) := [(⟨"ThirstHoursModel", "fact", "()I"⟩, 82), (⟨"ThirstHoursModel", "puts", "(I)V"⟩, 82), (⟨"ThirstHoursModel", "lays", "()V"⟩, 82), (⟨"ThirstHoursModel", "fresh", "()V"⟩, 82), (⟨"ThirstHoursModel", "readsLine", "()Z"⟩, 82), (⟨"ThirstHoursModel", "needsNext", "(II)Z"⟩, 82), (⟨"ThirstHoursModel", "laysLines", "(II)V"⟩, 82), (⟨"ThirstHoursModel", "isTimer", "(I)Z"⟩, 82), (⟨"ThirstHoursModel", "thirstOf", "(III)I"⟩, 82), (⟨"ThirstHoursModel", "worked", "(I)I"⟩, 82), (⟨"ThirstHoursModel", "opens", "(I)V"⟩, 82), (⟨"ThirstHoursModel", "sums", "(I)V"⟩, 82), (⟨"ThirstHoursModel", "tests", "(I)V"⟩, 82), (⟨"ThirstHoursModel", "isPerson", "(I)Z"⟩, 82), (⟨"ThirstHoursModel", "isPlace", "(I)Z"⟩, 82), (⟨"ThirstHoursModel", "keeps", "()V"⟩, 82)]
theorem lw_r6 : ∀ q ∈ lw_privs_6, lw_okq q := List.forall_mem_cons.mpr ⟨lw_p80, List.forall_mem_cons.mpr ⟨lw_p81, List.forall_mem_cons.mpr ⟨lw_p82, List.forall_mem_cons.mpr ⟨lw_p83, List.forall_mem_cons.mpr ⟨lw_p84, List.forall_mem_cons.mpr ⟨lw_p85, List.forall_mem_cons.mpr ⟨lw_p86, List.forall_mem_cons.mpr ⟨lw_p87, List.forall_mem_cons.mpr ⟨lw_p88, List.forall_mem_cons.mpr ⟨lw_p89, List.forall_mem_cons.mpr ⟨lw_p90, List.forall_mem_cons.mpr ⟨lw_p91, List.forall_mem_cons.mpr ⟨lw_p92, List.forall_mem_cons.mpr ⟨lw_p93, List.forall_mem_cons.mpr ⟨lw_p94, List.forall_mem_cons.mpr ⟨lw_p95, fun _ h => absurd h List.not_mem_nil⟩⟩⟩⟩⟩⟩⟩⟩⟩⟩⟩⟩⟩⟩⟩⟩
theorem lw_p96 : lw_okq (⟨"ThirstHoursModel", "hoursPass", "(I)V"⟩, 82) := ⟨⟨by decide +kernel, by decide +kernel⟩, List.mem_of_getElem? (i := 1260) (by decide +kernel), List.mem_of_getElem? (i := 1775) (by decide +kernel), List.mem_of_getElem? (i := 1776) (by decide +kernel)⟩
theorem lw_p97 : lw_okq (⟨"ThirstHoursModel", "hour", "()V"⟩, 82) := ⟨⟨by decide +kernel, by decide +kernel⟩, List.mem_of_getElem? (i := 1260) (by decide +kernel), List.mem_of_getElem? (i := 1779) (by decide +kernel), List.mem_of_getElem? (i := 1780) (by decide +kernel)⟩
theorem lw_p98 : lw_okq (⟨"ThirstHoursModel", "takesOne", "(I)V"⟩, 82) := ⟨⟨by decide +kernel, by decide +kernel⟩, List.mem_of_getElem? (i := 1260) (by decide +kernel), List.mem_of_getElem? (i := 1783) (by decide +kernel), List.mem_of_getElem? (i := 1784) (by decide +kernel)⟩
theorem lw_p99 : lw_okq (⟨"ThirstHoursModel", "goesOn", "(II)V"⟩, 82) := ⟨⟨by decide +kernel, by decide +kernel⟩, List.mem_of_getElem? (i := 1260) (by decide +kernel), List.mem_of_getElem? (i := 1787) (by decide +kernel), List.mem_of_getElem? (i := 1788) (by decide +kernel)⟩
theorem lw_p100 : lw_okq (⟨"ThirstHoursModel", "canDraw", "(II)Z"⟩, 82) := ⟨⟨by decide +kernel, by decide +kernel⟩, List.mem_of_getElem? (i := 1260) (by decide +kernel), List.mem_of_getElem? (i := 1795) (by decide +kernel), List.mem_of_getElem? (i := 1796) (by decide +kernel)⟩
theorem lw_p101 : lw_okq (⟨"ThirstHoursModel", "draws0", "(II)V"⟩, 82) := ⟨⟨by decide +kernel, by decide +kernel⟩, List.mem_of_getElem? (i := 1260) (by decide +kernel), List.mem_of_getElem? (i := 1799) (by decide +kernel), List.mem_of_getElem? (i := 1800) (by decide +kernel)⟩
theorem lw_p102 : lw_okq (⟨"ThirstHoursModel", "canPour", "(III)Z"⟩, 82) := ⟨⟨by decide +kernel, by decide +kernel⟩, List.mem_of_getElem? (i := 1260) (by decide +kernel), List.mem_of_getElem? (i := 1807) (by decide +kernel), List.mem_of_getElem? (i := 1808) (by decide +kernel)⟩
theorem lw_p103 : lw_okq (⟨"ThirstHoursModel", "pours", "(III)V"⟩, 82) := ⟨⟨by decide +kernel, by decide +kernel⟩, List.mem_of_getElem? (i := 1260) (by decide +kernel), List.mem_of_getElem? (i := 1811) (by decide +kernel), List.mem_of_getElem? (i := 1812) (by decide +kernel)⟩
theorem lw_p104 : lw_okq (⟨"ThirstHoursModel", "stepOf", "(II)I"⟩, 82) := ⟨⟨by decide +kernel, by decide +kernel⟩, List.mem_of_getElem? (i := 1260) (by decide +kernel), List.mem_of_getElem? (i := 1819) (by decide +kernel), List.mem_of_getElem? (i := 1820) (by decide +kernel)⟩
theorem lw_p105 : lw_okq (⟨"ThirstHoursModel", "walks", "(II)V"⟩, 82) := ⟨⟨by decide +kernel, by decide +kernel⟩, List.mem_of_getElem? (i := 1260) (by decide +kernel), List.mem_of_getElem? (i := 1823) (by decide +kernel), List.mem_of_getElem? (i := 1824) (by decide +kernel)⟩
theorem lw_p106 : lw_okq (⟨"ThirstHoursModel", "goes", "(I)Z"⟩, 82) := ⟨⟨by decide +kernel, by decide +kernel⟩, List.mem_of_getElem? (i := 1260) (by decide +kernel), List.mem_of_getElem? (i := 1839) (by decide +kernel), List.mem_of_getElem? (i := 1840) (by decide +kernel)⟩
theorem lw_p107 : lw_okq (⟨"ThirstHoursModel", "wrongWorks", "()I"⟩, 82) := ⟨⟨by decide +kernel, by decide +kernel⟩, List.mem_of_getElem? (i := 1260) (by decide +kernel), List.mem_of_getElem? (i := 1843) (by decide +kernel), List.mem_of_getElem? (i := 1844) (by decide +kernel)⟩
theorem lw_p108 : lw_okq (⟨"ThirstHoursModel", "stopsOf", "(I)I"⟩, 82) := ⟨⟨by decide +kernel, by decide +kernel⟩, List.mem_of_getElem? (i := 1260) (by decide +kernel), List.mem_of_getElem? (i := 1855) (by decide +kernel), List.mem_of_getElem? (i := 1856) (by decide +kernel)⟩
theorem lw_p109 : lw_okq (⟨"ThirstHoursModel", "isKeptWork", "(III)Z"⟩, 82) := ⟨⟨by decide +kernel, by decide +kernel⟩, List.mem_of_getElem? (i := 1260) (by decide +kernel), List.mem_of_getElem? (i := 1867) (by decide +kernel), List.mem_of_getElem? (i := 1868) (by decide +kernel)⟩
theorem lw_p110 : lw_okq (⟨"ThirstHoursModel", "waterOf", "(II)I"⟩, 82) := ⟨⟨by decide +kernel, by decide +kernel⟩, List.mem_of_getElem? (i := 1260) (by decide +kernel), List.mem_of_getElem? (i := 1871) (by decide +kernel), List.mem_of_getElem? (i := 1872) (by decide +kernel)⟩
theorem lw_p111 : lw_okq (⟨"ThirstHoursModel", "lastOf", "(IIII)I"⟩, 82) := ⟨⟨by decide +kernel, by decide +kernel⟩, List.mem_of_getElem? (i := 1260) (by decide +kernel), List.mem_of_getElem? (i := 1875) (by decide +kernel), List.mem_of_getElem? (i := 1876) (by decide +kernel)⟩
def lw_privs_7 : List (MethodName × Nat) := [(⟨"ThirstHoursModel", "hoursPass", "(I)V"⟩, 82), (⟨"ThirstHoursModel", "hour", "()V"⟩, 82), (⟨"ThirstHoursModel", "takesOne", "(I)V"⟩, 82), (⟨"ThirstHoursModel", "goesOn", "(II)V"⟩, 82), (⟨"ThirstHoursModel", "canDraw", "(II)Z"⟩, 82), (⟨"ThirstHoursModel", "draws0", "(II)V"⟩, 82), (⟨"ThirstHoursModel", "canPour", "(III)Z"⟩, 82), (⟨"ThirstHoursModel", "pours", "(III)V"⟩, 82), (⟨"ThirstHoursModel", "stepOf", "(II)I"⟩, 82), (⟨"ThirstHoursModel", "walks", "(II)V"⟩, 82), (⟨"ThirstHoursModel", "goes", "(I)Z"⟩, 82), (⟨"ThirstHoursModel", "wrongWorks", "()I"⟩, 82), (⟨"ThirstHoursModel", "stopsOf", "(I)I"⟩, 82), (⟨"ThirstHoursModel", "isKeptWork", "(III)Z"⟩, 82), (⟨"ThirstHoursModel", "waterOf", "(II)I"⟩, 82), (⟨"ThirstHoursModel", "lastOf", "(IIII)I"⟩, 82)]
theorem lw_r7 : ∀ q ∈ lw_privs_7, lw_okq q := List.forall_mem_cons.mpr ⟨lw_p96, List.forall_mem_cons.mpr ⟨lw_p97, List.forall_mem_cons.mpr ⟨lw_p98, List.forall_mem_cons.mpr ⟨lw_p99, List.forall_mem_cons.mpr ⟨lw_p100, List.forall_mem_cons.mpr ⟨lw_p101, List.forall_mem_cons.mpr ⟨lw_p102, List.forall_mem_cons.mpr ⟨lw_p103, List.forall_mem_cons.mpr ⟨lw_p104, List.forall_mem_cons.mpr ⟨lw_p105, List.forall_mem_cons.mpr ⟨lw_p106, List.forall_mem_cons.mpr ⟨lw_p107, List.forall_mem_cons.mpr ⟨lw_p108, List.forall_mem_cons.mpr ⟨lw_p109, List.forall_mem_cons.mpr ⟨lw_p110, List.forall_mem_cons.mpr ⟨lw_p111, fun _ h => absurd h List.not_mem_nil⟩⟩⟩⟩⟩⟩⟩⟩⟩⟩⟩⟩⟩⟩⟩⟩
theorem lw_p112 : lw_okq (⟨"ThirstHoursModel", "agreeing", "(I)I"⟩, 82) := ⟨⟨by decide +kernel, by decide +kernel⟩, List.mem_of_getElem? (i := 1260) (by decide +kernel), List.mem_of_getElem? (i := 1888) (by decide +kernel), List.mem_of_getElem? (i := 1889) (by decide +kernel)⟩
theorem lw_p113 : lw_okq (⟨"ThirstHoursModel", "rounds", "(IIII)V"⟩, 82) := ⟨⟨by decide +kernel, by decide +kernel⟩, List.mem_of_getElem? (i := 1260) (by decide +kernel), List.mem_of_getElem? (i := 1899) (by decide +kernel), List.mem_of_getElem? (i := 1900) (by decide +kernel)⟩
theorem lw_p114 : lw_okq (⟨"ThirstHoursModel", "isLaw", "(II)Z"⟩, 82) := ⟨⟨by decide +kernel, by decide +kernel⟩, List.mem_of_getElem? (i := 1260) (by decide +kernel), List.mem_of_getElem? (i := 1918) (by decide +kernel), List.mem_of_getElem? (i := 1919) (by decide +kernel)⟩
theorem lw_p115 : lw_okq (⟨"ThirstHoursModel", "mostAlike", "(I)I"⟩, 82) := ⟨⟨by decide +kernel, by decide +kernel⟩, List.mem_of_getElem? (i := 1260) (by decide +kernel), List.mem_of_getElem? (i := 1922) (by decide +kernel), List.mem_of_getElem? (i := 1923) (by decide +kernel)⟩
theorem lw_p116 : lw_okq (⟨"ThirstHoursModel", "isTheft", "(IIIII)Z"⟩, 82) := ⟨⟨by decide +kernel, by decide +kernel⟩, List.mem_of_getElem? (i := 1260) (by decide +kernel), List.mem_of_getElem? (i := 1930) (by decide +kernel), List.mem_of_getElem? (i := 1931) (by decide +kernel)⟩
theorem lw_p117 : lw_okq (⟨"ThirstHoursModel", "fills", "(III)V"⟩, 82) := ⟨⟨by decide +kernel, by decide +kernel⟩, List.mem_of_getElem? (i := 1260) (by decide +kernel), List.mem_of_getElem? (i := 1938) (by decide +kernel), List.mem_of_getElem? (i := 1939) (by decide +kernel)⟩
theorem lw_p118 : lw_okq (⟨"ThirstHoursModel", "isRest", "(IIII)Z"⟩, 82) := ⟨⟨by decide +kernel, by decide +kernel⟩, List.mem_of_getElem? (i := 1260) (by decide +kernel), List.mem_of_getElem? (i := 1946) (by decide +kernel), List.mem_of_getElem? (i := 1947) (by decide +kernel)⟩
theorem lw_p119 : lw_okq (⟨"ThirstHoursModel", "hasBy", "(IIIIZ)I"⟩, 82) := ⟨⟨by decide +kernel, by decide +kernel⟩, List.mem_of_getElem? (i := 1260) (by decide +kernel), List.mem_of_getElem? (i := 1950) (by decide +kernel), List.mem_of_getElem? (i := 1951) (by decide +kernel)⟩
theorem lw_p120 : lw_okq (⟨"ThirstHoursModel", "livesHour", "()V"⟩, 82) := ⟨⟨by decide +kernel, by decide +kernel⟩, List.mem_of_getElem? (i := 1260) (by decide +kernel), List.mem_of_getElem? (i := 1958) (by decide +kernel), List.mem_of_getElem? (i := 1959) (by decide +kernel)⟩
theorem lw_p121 : lw_okq (⟨"ThirstHoursModel", "draws", "(I)I"⟩, 82) := ⟨⟨by decide +kernel, by decide +kernel⟩, List.mem_of_getElem? (i := 1260) (by decide +kernel), List.mem_of_getElem? (i := 1962) (by decide +kernel), List.mem_of_getElem? (i := 1963) (by decide +kernel)⟩
theorem lw_p122 : lw_okq (⟨"ThirstHoursModel", "laysTold", "(II)V"⟩, 82) := ⟨⟨by decide +kernel, by decide +kernel⟩, List.mem_of_getElem? (i := 1260) (by decide +kernel), List.mem_of_getElem? (i := 1977) (by decide +kernel), List.mem_of_getElem? (i := 1978) (by decide +kernel)⟩
def lw_privs_8 : List (MethodName × Nat) := [(⟨"ThirstHoursModel", "agreeing", "(I)I"⟩, 82), (⟨"ThirstHoursModel", "rounds", "(IIII)V"⟩, 82), (⟨"ThirstHoursModel", "isLaw", "(II)Z"⟩, 82), (⟨"ThirstHoursModel", "mostAlike", "(I)I"⟩, 82), (⟨"ThirstHoursModel", "isTheft", "(IIIII)Z"⟩, 82), (⟨"ThirstHoursModel", "fills", "(III)V"⟩, 82), (⟨"ThirstHoursModel", "isRest", "(IIII)Z"⟩, 82), (⟨"ThirstHoursModel", "hasBy", "(IIIIZ)I"⟩, 82), (⟨"ThirstHoursModel", "livesHour", "()V"⟩, 82), (⟨"ThirstHoursModel", "draws", "(I)I"⟩, 82), (⟨"ThirstHoursModel", "laysTold", "(II)V"⟩, 82)]
theorem lw_r8 : ∀ q ∈ lw_privs_8, lw_okq q := List.forall_mem_cons.mpr ⟨lw_p112, List.forall_mem_cons.mpr ⟨lw_p113, List.forall_mem_cons.mpr ⟨lw_p114, List.forall_mem_cons.mpr ⟨lw_p115, List.forall_mem_cons.mpr ⟨lw_p116, List.forall_mem_cons.mpr ⟨lw_p117, List.forall_mem_cons.mpr ⟨lw_p118, List.forall_mem_cons.mpr ⟨lw_p119, List.forall_mem_cons.mpr ⟨lw_p120, List.forall_mem_cons.mpr ⟨lw_p121, List.forall_mem_cons.mpr ⟨lw_p122, fun _ h => absurd h List.not_mem_nil⟩⟩⟩⟩⟩⟩⟩⟩⟩⟩⟩
def lw_privs : List (MethodName × Nat) := lw_privs_1 ++ (lw_privs_2 ++ (lw_privs_3 ++ (lw_privs_4 ++ (lw_privs_5 ++ (lw_privs_6 ++ (lw_privs_7 ++ (lw_privs_8)))))))
def lw_tbl : List Cond := k2_sels lw_privs ++ tables_1
theorem lw_privs_ok : ∀ q ∈ lw_privs, lw_okq q := by
  show ∀ q ∈ lw_privs_1 ++ (lw_privs_2 ++ (lw_privs_3 ++ (lw_privs_4 ++ (lw_privs_5 ++ (lw_privs_6 ++ (lw_privs_7 ++ (lw_privs_8))))))), lw_okq q
  exact List.forall_mem_append.mpr ⟨lw_r1, List.forall_mem_append.mpr ⟨lw_r2, List.forall_mem_append.mpr ⟨lw_r3, List.forall_mem_append.mpr ⟨lw_r4, List.forall_mem_append.mpr ⟨lw_r5, List.forall_mem_append.mpr ⟨lw_r6, List.forall_mem_append.mpr ⟨lw_r7, lw_r8⟩⟩⟩⟩⟩⟩⟩
def RX0 : String := "ThirstHours$Ahead"
def TX0 : u_T := fun k => match k with
  | 0 => ("ThirstHours$Ahead", "trial", "LThirstHours$State;", true)
  | 1 => ("ThirstHours$Ahead", "robbed", "LThirstHours$State;", true)
  | _ => ("ThirstHours$Ahead", "drawn", "J", false)
def tyX0 : Nat → FieldType := fun k => match k with
  | 0 => .object "ThirstHours$State"
  | 1 => .object "ThirstHours$State"
  | _ => .long
theorem nmX0 : ∀ a, a < 3 → ∀ b, b < 3 → a ≠ b → (TX0 a).2.1 ≠ (TX0 b).2.1 := by decide +kernel
theorem tyX0_ok : ∀ k, k < 3 → parseFieldDescriptor (TX0 k).2.2.1 = some (tyX0 k) := by decide +kernel
def RX1 : String := "ThirstHours$Choice"
def TX1 : u_T := fun k => match k with
  | 0 => ("ThirstHours$Choice", "ahead", "LThirstHours$Ahead;", true)
  | 1 => ("ThirstHours$Choice", "thirstTo", "[I", true)
  | 2 => ("ThirstHours$Choice", "clockLast", "[I", true)
  | 3 => ("ThirstHours$Choice", "personLast", "[I", true)
  | 4 => ("ThirstHours$Choice", "siegePay", "I", false)
  | 5 => ("ThirstHours$Choice", "deadlines", "[I", true)
  | 6 => ("ThirstHours$Choice", "order", "[I", true)
  | 7 => ("ThirstHours$Choice", "bestOrder", "[I", true)
  | 8 => ("ThirstHours$Choice", "stations", "I", false)
  | 9 => ("ThirstHours$Choice", "soonest", "I", false)
  | 10 => ("ThirstHours$Choice", "sayings", "[I", true)
  | 11 => ("ThirstHours$Choice", "needs", "[I", true)
  | 12 => ("ThirstHours$Choice", "loads", "[I", true)
  | 13 => ("ThirstHours$Choice", "fewest", "I", false)
  | 14 => ("ThirstHours$Choice", "firstCup", "I", false)
  | 15 => ("ThirstHours$Choice", "gains", "[I", true)
  | _ => ("ThirstHours$Choice", "otherGains", "[I", true)
def tyX1 : Nat → FieldType := fun k => match k with
  | 0 => .object "ThirstHours$Ahead"
  | 1 => .array .int
  | 2 => .array .int
  | 3 => .array .int
  | 4 => .int
  | 5 => .array .int
  | 6 => .array .int
  | 7 => .array .int
  | 8 => .int
  | 9 => .int
  | 10 => .array .int
  | 11 => .array .int
  | 12 => .array .int
  | 13 => .int
  | 14 => .int
  | 15 => .array .int
  | _ => .array .int
theorem nmX1 : ∀ a, a < 17 → ∀ b, b < 17 → a ≠ b → (TX1 a).2.1 ≠ (TX1 b).2.1 := by decide +kernel
theorem tyX1_ok : ∀ k, k < 17 → parseFieldDescriptor (TX1 k).2.2.1 = some (tyX1 k) := by decide +kernel
def RX2 : String := "ThirstHours$Days"
def TX2 : u_T := fun k => match k with
  | 0 => ("ThirstHours$Days", "many", "I", false)
  | 1 => ("ThirstHours$Days", "deeds", "[I", true)
  | 2 => ("ThirstHours$Days", "whose", "[I", true)
  | 3 => ("ThirstHours$Days", "whither", "[I", true)
  | _ => ("ThirstHours$Days", "sizes", "[I", true)
def tyX2 : Nat → FieldType := fun k => match k with
  | 0 => .int
  | 1 => .array .int
  | 2 => .array .int
  | 3 => .array .int
  | _ => .array .int
theorem nmX2 : ∀ a, a < 5 → ∀ b, b < 5 → a ≠ b → (TX2 a).2.1 ≠ (TX2 b).2.1 := by decide +kernel
theorem tyX2_ok : ∀ k, k < 5 → parseFieldDescriptor (TX2 k).2.2.1 = some (tyX2 k) := by decide +kernel
def RX3 : String := "ThirstHours$Heard"
def TX3 : u_T := fun k => match k with
  | 0 => ("ThirstHours$Heard", "said", "I", false)
  | 1 => ("ThirstHours$Heard", "shows", "[I", true)
  | 2 => ("ThirstHours$Heard", "offs", "[I", true)
  | 3 => ("ThirstHours$Heard", "told", "I", false)
  | 4 => ("ThirstHours$Heard", "heats", "[I", true)
  | _ => ("ThirstHours$Heard", "drunk", "[I", true)
def tyX3 : Nat → FieldType := fun k => match k with
  | 0 => .int
  | 1 => .array .int
  | 2 => .array .int
  | 3 => .int
  | 4 => .array .int
  | _ => .array .int
theorem nmX3 : ∀ a, a < 6 → ∀ b, b < 6 → a ≠ b → (TX3 a).2.1 ≠ (TX3 b).2.1 := by decide +kernel
theorem tyX3_ok : ∀ k, k < 6 → parseFieldDescriptor (TX3 k).2.2.1 = some (tyX3 k) := by decide +kernel
def RX4 : String := "ThirstHours$Law"
def TX4 : u_T := fun k => match k with
  | 0 => ("ThirstHours$Law", "codes", "[I", true)
  | 1 => ("ThirstHours$Law", "length", "I", false)
  | _ => ("ThirstHours$Law", "stack", "[I", true)
def tyX4 : Nat → FieldType := fun k => match k with
  | 0 => .array .int
  | 1 => .int
  | _ => .array .int
theorem nmX4 : ∀ a, a < 3 → ∀ b, b < 3 → a ≠ b → (TX4 a).2.1 ≠ (TX4 b).2.1 := by decide +kernel
theorem tyX4_ok : ∀ k, k < 3 → parseFieldDescriptor (TX4 k).2.2.1 = some (tyX4 k) := by decide +kernel
def RX5 : String := "ThirstHours$Post"
def TX5 : u_T := fun k => match k with
  | 0 => ("ThirstHours$Post", "names", "[J", true)
  | 1 => ("ThirstHours$Post", "places", "I", false)
  | 2 => ("ThirstHours$Post", "ways", "I", false)
  | 3 => ("ThirstHours$Post", "clocks", "I", false)
  | 4 => ("ThirstHours$Post", "people", "I", false)
  | 5 => ("ThirstHours$Post", "works", "I", false)
  | 6 => ("ThirstHours$Post", "steps", "[I", true)
  | 7 => ("ThirstHours$Post", "nearest", "[I", true)
  | 8 => ("ThirstHours$Post", "kinds", "[I", true)
  | 9 => ("ThirstHours$Post", "sites", "[I", true)
  | 10 => ("ThirstHours$Post", "holds", "[I", true)
  | 11 => ("ThirstHours$Post", "sips", "[I", true)
  | 12 => ("ThirstHours$Post", "drinks", "[I", true)
  | 13 => ("ThirstHours$Post", "doers", "[I", true)
  | 14 => ("ThirstHours$Post", "timers", "[I", true)
  | 15 => ("ThirstHours$Post", "dues", "[I", true)
  | 16 => ("ThirstHours$Post", "pays", "[I", true)
  | 17 => ("ThirstHours$Post", "heats", "[I", true)
  | 18 => ("ThirstHours$Post", "law", "LThirstHours$Law;", true)
  | _ => ("ThirstHours$Post", "first", "LThirstHours$State;", true)
def tyX5 : Nat → FieldType := fun k => match k with
  | 0 => .array .long
  | 1 => .int
  | 2 => .int
  | 3 => .int
  | 4 => .int
  | 5 => .int
  | 6 => .array .int
  | 7 => .array .int
  | 8 => .array .int
  | 9 => .array .int
  | 10 => .array .int
  | 11 => .array .int
  | 12 => .array .int
  | 13 => .array .int
  | 14 => .array .int
  | 15 => .array .int
  | 16 => .array .int
  | 17 => .array .int
  | 18 => .object "ThirstHours$Law"
  | _ => .object "ThirstHours$State"
theorem nmX5 : ∀ a, a < 20 → ∀ b, b < 20 → a ≠ b → (TX5 a).2.1 ≠ (TX5 b).2.1 := by decide +kernel
theorem tyX5_ok : ∀ k, k < 20 → parseFieldDescriptor (TX5 k).2.2.1 = some (tyX5 k) := by decide +kernel
def RX6 : String := "ThirstHours$Reader"
def TX6 : u_T := fun k => match k with
  | 0 => ("ThirstHours$Reader", "tape", "LThirstHours$Tape;", true)
  | 1 => ("ThirstHours$Reader", "post", "LThirstHours$Post;", false)
  | 2 => ("ThirstHours$Reader", "days", "LThirstHours$Days;", false)
  | 3 => ("ThirstHours$Reader", "fault", "I", false)
  | 4 => ("ThirstHours$Reader", "thirstTold", "Z", false)
  | _ => ("ThirstHours$Reader", "found", "I", false)
def tyX6 : Nat → FieldType := fun k => match k with
  | 0 => .object "ThirstHours$Tape"
  | 1 => .object "ThirstHours$Post"
  | 2 => .object "ThirstHours$Days"
  | 3 => .int
  | 4 => .boolean
  | _ => .int
theorem nmX6 : ∀ a, a < 6 → ∀ b, b < 6 → a ≠ b → (TX6 a).2.1 ≠ (TX6 b).2.1 := by decide +kernel
theorem tyX6_ok : ∀ k, k < 6 → parseFieldDescriptor (TX6 k).2.2.1 = some (tyX6 k) := by decide +kernel
def RX7 : String := "ThirstHours$State"
def TX7 : u_T := fun k => match k with
  | 0 => ("ThirstHours$State", "hour", "I", false)
  | 1 => ("ThirstHours$State", "has", "[I", true)
  | 2 => ("ThirstHours$State", "shown", "[I", true)
  | 3 => ("ThirstHours$State", "still", "[I", true)
  | 4 => ("ThirstHours$State", "where", "[I", true)
  | 5 => ("ThirstHours$State", "water", "[I", true)
  | 6 => ("ThirstHours$State", "dry", "[I", true)
  | 7 => ("ThirstHours$State", "wells", "[I", true)
  | _ => ("ThirstHours$State", "done", "[I", true)
def tyX7 : Nat → FieldType := fun k => match k with
  | 0 => .int
  | 1 => .array .int
  | 2 => .array .int
  | 3 => .array .int
  | 4 => .array .int
  | 5 => .array .int
  | 6 => .array .int
  | 7 => .array .int
  | _ => .array .int
theorem nmX7 : ∀ a, a < 9 → ∀ b, b < 9 → a ≠ b → (TX7 a).2.1 ≠ (TX7 b).2.1 := by decide +kernel
theorem tyX7_ok : ∀ k, k < 9 → parseFieldDescriptor (TX7 k).2.2.1 = some (tyX7 k) := by decide +kernel
def RX8 : String := "ThirstHours$Store"
def TX8 : u_T := fun k => match k with
  | 0 => ("ThirstHours$Store", "state", "LThirstHours$State;", true)
  | 1 => ("ThirstHours$Store", "days", "LThirstHours$Days;", true)
  | _ => ("ThirstHours$Store", "heard", "LThirstHours$Heard;", true)
def tyX8 : Nat → FieldType := fun k => match k with
  | 0 => .object "ThirstHours$State"
  | 1 => .object "ThirstHours$Days"
  | _ => .object "ThirstHours$Heard"
theorem nmX8 : ∀ a, a < 3 → ∀ b, b < 3 → a ≠ b → (TX8 a).2.1 ≠ (TX8 b).2.1 := by decide +kernel
theorem tyX8_ok : ∀ k, k < 3 → parseFieldDescriptor (TX8 k).2.2.1 = some (tyX8 k) := by decide +kernel
def RX9 : String := "ThirstHours$Tape"
def TX9 : u_T := fun k => match k with
  | 0 => ("ThirstHours$Tape", "signs", "[C", true)
  | 1 => ("ThirstHours$Tape", "length", "I", false)
  | 2 => ("ThirstHours$Tape", "sort", "I", false)
  | 3 => ("ThirstHours$Tape", "place", "I", false)
  | 4 => ("ThirstHours$Tape", "number", "I", false)
  | 5 => ("ThirstHours$Tape", "spelt", "J", false)
  | 6 => ("ThirstHours$Tape", "word", "LThirstHours$Word;", false)
  | 7 => ("ThirstHours$Tape", "sign", "C", false)
  | _ => ("ThirstHours$Tape", "next", "I", false)
def tyX9 : Nat → FieldType := fun k => match k with
  | 0 => .array .char
  | 1 => .int
  | 2 => .int
  | 3 => .int
  | 4 => .int
  | 5 => .long
  | 6 => .object "ThirstHours$Word"
  | 7 => .char
  | _ => .int
theorem nmX9 : ∀ a, a < 9 → ∀ b, b < 9 → a ≠ b → (TX9 a).2.1 ≠ (TX9 b).2.1 := by decide +kernel
theorem tyX9_ok : ∀ k, k < 9 → parseFieldDescriptor (TX9 k).2.2.1 = some (tyX9 k) := by decide +kernel
def RX10 : String := "ThirstHours$Word"
def TX10 : u_T := fun k => match k with
  | _ => ("", "", "", false)
def tyX10 : Nat → FieldType := fun k => match k with
  | _ => .int
theorem nmX10 : ∀ a, a < 0 → ∀ b, b < 0 → a ≠ b → (TX10 a).2.1 ≠ (TX10 b).2.1 := by decide +kernel
theorem tyX10_ok : ∀ k, k < 0 → parseFieldDescriptor (TX10 k).2.2.1 = some (tyX10 k) := by decide +kernel
def RX11 : String := "ThirstHours"
def TX11 : u_T := fun k => match k with
  | 0 => ("ThirstHours", "tape", "LThirstHours$Tape;", true)
  | 1 => ("ThirstHours", "reader", "LThirstHours$Reader;", true)
  | 2 => ("ThirstHours", "post", "LThirstHours$Post;", false)
  | 3 => ("ThirstHours", "draft", "LThirstHours$Post;", false)
  | 4 => ("ThirstHours", "draftDays", "LThirstHours$Days;", true)
  | 5 => ("ThirstHours", "now", "LThirstHours$Store;", true)
  | 6 => ("ThirstHours", "marks", "[LThirstHours$Store;", true)
  | 7 => ("ThirstHours", "laid", "[Z", true)
  | 8 => ("ThirstHours", "undoable", "[LThirstHours$State;", true)
  | 9 => ("ThirstHours", "undoFrom", "I", false)
  | 10 => ("ThirstHours", "undoMany", "I", false)
  | 11 => ("ThirstHours", "before", "LThirstHours$State;", true)
  | 12 => ("ThirstHours", "ahead", "LThirstHours$Ahead;", true)
  | _ => ("ThirstHours", "choice", "LThirstHours$Choice;", true)
def tyX11 : Nat → FieldType := fun k => match k with
  | 0 => .object "ThirstHours$Tape"
  | 1 => .object "ThirstHours$Reader"
  | 2 => .object "ThirstHours$Post"
  | 3 => .object "ThirstHours$Post"
  | 4 => .object "ThirstHours$Days"
  | 5 => .object "ThirstHours$Store"
  | 6 => .array (.object "ThirstHours$Store")
  | 7 => .array .boolean
  | 8 => .array (.object "ThirstHours$State")
  | 9 => .int
  | 10 => .int
  | 11 => .object "ThirstHours$State"
  | 12 => .object "ThirstHours$Ahead"
  | _ => .object "ThirstHours$Choice"
theorem nmX11 : ∀ a, a < 14 → ∀ b, b < 14 → a ≠ b → (TX11 a).2.1 ≠ (TX11 b).2.1 := by decide +kernel
theorem tyX11_ok : ∀ k, k < 14 → parseFieldDescriptor (TX11 k).2.2.1 = some (tyX11 k) := by decide +kernel
def RX12 : String := "ThirstHoursModel"
def TX12 : u_T := fun k => match k with
  | 0 => ("ThirstHoursModel", "thrown", "I", false)
  | 1 => ("ThirstHoursModel", "taped", "I", false)
  | 2 => ("ThirstHoursModel", "tape", "[I", true)
  | 3 => ("ThirstHoursModel", "size", "I", false)
  | 4 => ("ThirstHoursModel", "place", "I", false)
  | 5 => ("ThirstHoursModel", "begin", "I", false)
  | 6 => ("ThirstHoursModel", "token", "I", false)
  | 7 => ("ThirstHoursModel", "word", "J", false)
  | 8 => ("ThirstHoursModel", "told", "I", false)
  | 9 => ("ThirstHoursModel", "wrong", "I", false)
  | 10 => ("ThirstHoursModel", "post", "[I", true)
  | 11 => ("ThirstHoursModel", "placeName", "[J", true)
  | 12 => ("ThirstHoursModel", "timerName", "[J", true)
  | 13 => ("ThirstHoursModel", "personName", "[J", true)
  | 14 => ("ThirstHoursModel", "workName", "[J", true)
  | 15 => ("ThirstHoursModel", "wellTold", "[I", true)
  | 16 => ("ThirstHoursModel", "step0", "[I", true)
  | 17 => ("ThirstHoursModel", "kind", "[I", true)
  | 18 => ("ThirstHoursModel", "timerAt", "[I", true)
  | 19 => ("ThirstHoursModel", "holds", "[I", true)
  | 20 => ("ThirstHoursModel", "hasTold", "[I", true)
  | 21 => ("ThirstHoursModel", "sips", "[I", true)
  | 22 => ("ThirstHoursModel", "personAt", "[I", true)
  | 23 => ("ThirstHoursModel", "personSips", "[I", true)
  | 24 => ("ThirstHoursModel", "personHas", "[I", true)
  | 25 => ("ThirstHoursModel", "workBy", "[I", true)
  | 26 => ("ThirstHoursModel", "workTimer", "[I", true)
  | 27 => ("ThirstHoursModel", "workHour", "[I", true)
  | 28 => ("ThirstHoursModel", "workPays", "[I", true)
  | 29 => ("ThirstHoursModel", "heat", "[I", true)
  | 30 => ("ThirstHoursModel", "lineFrom", "[I", true)
  | 31 => ("ThirstHoursModel", "lineTo", "[I", true)
  | 32 => ("ThirstHoursModel", "codes", "[I", true)
  | 33 => ("ThirstHoursModel", "code", "I", false)
  | 34 => ("ThirstHoursModel", "opened", "[I", true)
  | 35 => ("ThirstHoursModel", "compared", "[Z", true)
  | 36 => ("ThirstHoursModel", "kept", "[I", true)
  | 37 => ("ThirstHoursModel", "keptBy", "[I", true)
  | 38 => ("ThirstHoursModel", "ahead", "[I", true)
  | 39 => ("ThirstHoursModel", "against", "[I", true)
  | 40 => ("ThirstHoursModel", "sum", "[I", true)
  | 41 => ("ThirstHoursModel", "sumBy", "[I", true)
  | 42 => ("ThirstHoursModel", "term", "[I", true)
  | 43 => ("ThirstHoursModel", "termBy", "[I", true)
  | 44 => ("ThirstHoursModel", "byNot", "[I", true)
  | 45 => ("ThirstHoursModel", "valueOf", "[I", true)
  | 46 => ("ThirstHoursModel", "given", "I", false)
  | 47 => ("ThirstHoursModel", "hoursTo", "[I", true)
  | 48 => ("ThirstHoursModel", "lines", "[I", true)
  | 49 => ("ThirstHoursModel", "lineWhat", "[I", true)
  | 50 => ("ThirstHoursModel", "lineA", "[I", true)
  | 51 => ("ThirstHoursModel", "lineB", "[I", true)
  | 52 => ("ThirstHoursModel", "lineN", "[I", true)
  | 53 => ("ThirstHoursModel", "saids", "[I", true)
  | 54 => ("ThirstHoursModel", "saidShown", "[I", true)
  | 55 => ("ThirstHoursModel", "saidOff", "[I", true)
  | 56 => ("ThirstHoursModel", "tolds", "[I", true)
  | 57 => ("ThirstHoursModel", "toldHeat", "[I", true)
  | 58 => ("ThirstHoursModel", "toldDrunk", "[I", true)
  | 59 => ("ThirstHoursModel", "s", "[I", true)
  | 60 => ("ThirstHoursModel", "aside", "[I", true)
  | 61 => ("ThirstHoursModel", "marked", "[I", true)
  | 62 => ("ThirstHoursModel", "undone", "[I", true)
  | 63 => ("ThirstHoursModel", "isLaid", "[Z", true)
  | 64 => ("ThirstHoursModel", "done", "I", false)
  | 65 => ("ThirstHoursModel", "one", "I", false)
  | 66 => ("ThirstHoursModel", "oneShows", "I", false)
  | 67 => ("ThirstHoursModel", "oneStill", "I", false)
  | 68 => ("ThirstHoursModel", "dryNow", "I", false)
  | 69 => ("ThirstHoursModel", "taken", "[I", true)
  | 70 => ("ThirstHoursModel", "due", "[I", true)
  | 71 => ("ThirstHoursModel", "row", "[I", true)
  | 72 => ("ThirstHoursModel", "bestRow", "[I", true)
  | 73 => ("ThirstHoursModel", "bestEnd", "I", false)
  | 74 => ("ThirstHoursModel", "bestMany", "I", false)
  | 75 => ("ThirstHoursModel", "says", "[I", true)
  | 76 => ("ThirstHoursModel", "needs", "[I", true)
  | 77 => ("ThirstHoursModel", "cupOf", "[I", true)
  | 78 => ("ThirstHoursModel", "inCup", "[I", true)
  | 79 => ("ThirstHoursModel", "bestCups", "I", false)
  | 80 => ("ThirstHoursModel", "bestFirst", "I", false)
  | _ => ("ThirstHoursModel", "g", "J", false)
def tyX12 : Nat → FieldType := fun k => match k with
  | 0 => .int
  | 1 => .int
  | 2 => .array .int
  | 3 => .int
  | 4 => .int
  | 5 => .int
  | 6 => .int
  | 7 => .long
  | 8 => .int
  | 9 => .int
  | 10 => .array .int
  | 11 => .array .long
  | 12 => .array .long
  | 13 => .array .long
  | 14 => .array .long
  | 15 => .array .int
  | 16 => .array .int
  | 17 => .array .int
  | 18 => .array .int
  | 19 => .array .int
  | 20 => .array .int
  | 21 => .array .int
  | 22 => .array .int
  | 23 => .array .int
  | 24 => .array .int
  | 25 => .array .int
  | 26 => .array .int
  | 27 => .array .int
  | 28 => .array .int
  | 29 => .array .int
  | 30 => .array .int
  | 31 => .array .int
  | 32 => .array .int
  | 33 => .int
  | 34 => .array .int
  | 35 => .array .boolean
  | 36 => .array .int
  | 37 => .array .int
  | 38 => .array .int
  | 39 => .array .int
  | 40 => .array .int
  | 41 => .array .int
  | 42 => .array .int
  | 43 => .array .int
  | 44 => .array .int
  | 45 => .array .int
  | 46 => .int
  | 47 => .array .int
  | 48 => .array .int
  | 49 => .array .int
  | 50 => .array .int
  | 51 => .array .int
  | 52 => .array .int
  | 53 => .array .int
  | 54 => .array .int
  | 55 => .array .int
  | 56 => .array .int
  | 57 => .array .int
  | 58 => .array .int
  | 59 => .array .int
  | 60 => .array .int
  | 61 => .array .int
  | 62 => .array .int
  | 63 => .array .boolean
  | 64 => .int
  | 65 => .int
  | 66 => .int
  | 67 => .int
  | 68 => .int
  | 69 => .array .int
  | 70 => .array .int
  | 71 => .array .int
  | 72 => .array .int
  | 73 => .int
  | 74 => .int
  | 75 => .array .int
  | 76 => .array .int
  | 77 => .array .int
  | 78 => .array .int
  | 79 => .int
  | 80 => .int
  | _ => .long
theorem nmX12 : ∀ a, a < 82 → ∀ b, b < 82 → a ≠ b → (TX12 a).2.1 ≠ (TX12 b).2.1 := by decide +kernel
theorem tyX12_ok : ∀ k, k < 82 → parseFieldDescriptor (TX12 k).2.2.1 = some (tyX12 k) := by decide +kernel
def RJ9 : String := "java/lang/Math"
def RL : String := "ThirstHoursLaw"
