-- ===== PART A: goes FIRST, ahead of the names: the tables' words, and 'selects' of the private methods out of them =====
/-- a private method of a class that the tables say can be made, by its rows of tables_1 -/
def lw_okq (q : MethodName × Nat) : Prop := (q.1.cls ≠ "java/lang/invoke/MethodHandle" ∧ q.1.cls ≠ "java/lang/invoke/VarHandle") ∧ Cond.instantiable q.1.cls q.2 ∈ tables_1 ∧ Cond.privateMethod q.1 ∈ tables_1 ∧ Cond.instanceMethod q.1 ∈ tables_1
theorem lw_p0 : lw_okq (⟨"OldNeighbours$Wall", "raise", "(J)V"⟩, 5) := ⟨⟨by decide +kernel, by decide +kernel⟩, List.mem_of_getElem? (i := 74) (by decide +kernel), List.mem_of_getElem? (i := 80) (by decide +kernel), List.mem_of_getElem? (i := 81) (by decide +kernel)⟩
theorem lw_p1 : lw_okq (⟨"OldNeighbours$Wall", "cellAt", "(I)I"⟩, 5) := ⟨⟨by decide +kernel, by decide +kernel⟩, List.mem_of_getElem? (i := 74) (by decide +kernel), List.mem_of_getElem? (i := 93) (by decide +kernel), List.mem_of_getElem? (i := 94) (by decide +kernel)⟩
theorem lw_p2 : lw_okq (⟨"OldNeighbours", "feedNumber", "(I)V"⟩, 12) := ⟨⟨by decide +kernel, by decide +kernel⟩, List.mem_of_getElem? (i := 26) (by decide +kernel), List.mem_of_getElem? (i := 493) (by decide +kernel), List.mem_of_getElem? (i := 494) (by decide +kernel)⟩
theorem lw_p3 : lw_okq (⟨"OldNeighbours$Reader", "forget", "()V"⟩, 5) := ⟨⟨by decide +kernel, by decide +kernel⟩, List.mem_of_getElem? (i := 228) (by decide +kernel), List.mem_of_getElem? (i := 505) (by decide +kernel), List.mem_of_getElem? (i := 506) (by decide +kernel)⟩
theorem lw_p4 : lw_okq (⟨"OldNeighbours$Reader", "readShape", "([II)Z"⟩, 5) := ⟨⟨by decide +kernel, by decide +kernel⟩, List.mem_of_getElem? (i := 228) (by decide +kernel), List.mem_of_getElem? (i := 512) (by decide +kernel), List.mem_of_getElem? (i := 513) (by decide +kernel)⟩
theorem lw_p5 : lw_okq (⟨"OldNeighbours$Tokens", "cut", "([II)V"⟩, 8) := ⟨⟨by decide +kernel, by decide +kernel⟩, List.mem_of_getElem? (i := 234) (by decide +kernel), List.mem_of_getElem? (i := 516) (by decide +kernel), List.mem_of_getElem? (i := 517) (by decide +kernel)⟩
theorem lw_p6 : lw_okq (⟨"OldNeighbours$Tokens", "add", "(III)V"⟩, 8) := ⟨⟨by decide +kernel, by decide +kernel⟩, List.mem_of_getElem? (i := 234) (by decide +kernel), List.mem_of_getElem? (i := 584) (by decide +kernel), List.mem_of_getElem? (i := 585) (by decide +kernel)⟩
theorem lw_p7 : lw_okq (⟨"OldNeighbours$Tokens", "next", "()V"⟩, 8) := ⟨⟨by decide +kernel, by decide +kernel⟩, List.mem_of_getElem? (i := 234) (by decide +kernel), List.mem_of_getElem? (i := 649) (by decide +kernel), List.mem_of_getElem? (i := 650) (by decide +kernel)⟩
theorem lw_p8 : lw_okq (⟨"OldNeighbours$Reader", "readShapeLine", "(I)Z"⟩, 5) := ⟨⟨by decide +kernel, by decide +kernel⟩, List.mem_of_getElem? (i := 228) (by decide +kernel), List.mem_of_getElem? (i := 653) (by decide +kernel), List.mem_of_getElem? (i := 654) (by decide +kernel)⟩
theorem lw_p9 : lw_okq (⟨"OldNeighbours$Reader", "fail", "(II)Z"⟩, 5) := ⟨⟨by decide +kernel, by decide +kernel⟩, List.mem_of_getElem? (i := 228) (by decide +kernel), List.mem_of_getElem? (i := 657) (by decide +kernel), List.mem_of_getElem? (i := 658) (by decide +kernel)⟩
theorem lw_p10 : lw_okq (⟨"OldNeighbours$Reader", "acceptNumber", "(II)I"⟩, 5) := ⟨⟨by decide +kernel, by decide +kernel⟩, List.mem_of_getElem? (i := 228) (by decide +kernel), List.mem_of_getElem? (i := 662) (by decide +kernel), List.mem_of_getElem? (i := 663) (by decide +kernel)⟩
theorem lw_p11 : lw_okq (⟨"OldNeighbours$Reader", "acceptHowMany", "(III)I"⟩, 5) := ⟨⟨by decide +kernel, by decide +kernel⟩, List.mem_of_getElem? (i := 228) (by decide +kernel), List.mem_of_getElem? (i := 666) (by decide +kernel), List.mem_of_getElem? (i := 667) (by decide +kernel)⟩
theorem lw_p12 : lw_okq (⟨"OldNeighbours$Reader", "changeForm", "(III)V"⟩, 5) := ⟨⟨by decide +kernel, by decide +kernel⟩, List.mem_of_getElem? (i := 228) (by decide +kernel), List.mem_of_getElem? (i := 670) (by decide +kernel), List.mem_of_getElem? (i := 671) (by decide +kernel)⟩
theorem lw_p13 : lw_okq (⟨"OldNeighbours$Reader", "accept", "(I)Z"⟩, 5) := ⟨⟨by decide +kernel, by decide +kernel⟩, List.mem_of_getElem? (i := 228) (by decide +kernel), List.mem_of_getElem? (i := 676) (by decide +kernel), List.mem_of_getElem? (i := 677) (by decide +kernel)⟩
theorem lw_p14 : lw_okq (⟨"OldNeighbours$Reader", "readRule", "([II)Z"⟩, 5) := ⟨⟨by decide +kernel, by decide +kernel⟩, List.mem_of_getElem? (i := 228) (by decide +kernel), List.mem_of_getElem? (i := 681) (by decide +kernel), List.mem_of_getElem? (i := 682) (by decide +kernel)⟩
theorem lw_p15 : lw_okq (⟨"OldNeighbours$Rule", "clear", "()V"⟩, 10) := ⟨⟨by decide +kernel, by decide +kernel⟩, List.mem_of_getElem? (i := 138) (by decide +kernel), List.mem_of_getElem? (i := 685) (by decide +kernel), List.mem_of_getElem? (i := 686) (by decide +kernel)⟩
def lw_privs_1 : List (MethodName × Nat) := [(⟨"OldNeighbours$Wall", "raise", "(J)V"⟩, 5), (⟨"OldNeighbours$Wall", "cellAt", "(I)I"⟩, 5), (⟨"OldNeighbours", "feedNumber", "(I)V"⟩, 12), (⟨"OldNeighbours$Reader", "forget", "()V"⟩, 5), (⟨"OldNeighbours$Reader", "readShape", "([II)Z"⟩, 5), (⟨"OldNeighbours$Tokens", "cut", "([II)V"⟩, 8), (⟨"OldNeighbours$Tokens", "add", "(III)V"⟩, 8), (⟨"OldNeighbours$Tokens", "next", "()V"⟩, 8), (⟨"OldNeighbours$Reader", "readShapeLine", "(I)Z"⟩, 5), (⟨"OldNeighbours$Reader", "fail", "(II)Z"⟩, 5), (⟨"OldNeighbours$Reader", "acceptNumber", "(II)I"⟩, 5), (⟨"OldNeighbours$Reader", "acceptHowMany", "(III)I"⟩, 5), (⟨"OldNeighbours$Reader", "changeForm", "(III)V"⟩, 5), (⟨"OldNeighbours$Reader", "accept", "(I)Z"⟩, 5), (⟨"OldNeighbours$Reader", "readRule", "([II)Z"⟩, 5), (⟨"OldNeighbours$Rule", "clear", "()V"⟩, 10)]
theorem lw_r1 : ∀ q ∈ lw_privs_1, lw_okq q := List.forall_mem_cons.mpr ⟨lw_p0, List.forall_mem_cons.mpr ⟨lw_p1, List.forall_mem_cons.mpr ⟨lw_p2, List.forall_mem_cons.mpr ⟨lw_p3, List.forall_mem_cons.mpr ⟨lw_p4, List.forall_mem_cons.mpr ⟨lw_p5, List.forall_mem_cons.mpr ⟨lw_p6, List.forall_mem_cons.mpr ⟨lw_p7, List.forall_mem_cons.mpr ⟨lw_p8, List.forall_mem_cons.mpr ⟨lw_p9, List.forall_mem_cons.mpr ⟨lw_p10, List.forall_mem_cons.mpr ⟨lw_p11, List.forall_mem_cons.mpr ⟨lw_p12, List.forall_mem_cons.mpr ⟨lw_p13, List.forall_mem_cons.mpr ⟨lw_p14, List.forall_mem_cons.mpr ⟨lw_p15, fun _ h => absurd h List.not_mem_nil⟩⟩⟩⟩⟩⟩⟩⟩⟩⟩⟩⟩⟩⟩⟩⟩
theorem lw_p16 : lw_okq (⟨"OldNeighbours$Reader", "readRuleLine", "(I)Z"⟩, 5) := ⟨⟨by decide +kernel, by decide +kernel⟩, List.mem_of_getElem? (i := 228) (by decide +kernel), List.mem_of_getElem? (i := 689) (by decide +kernel), List.mem_of_getElem? (i := 690) (by decide +kernel)⟩
theorem lw_p17 : lw_okq (⟨"OldNeighbours$Rule", "open", "(II)V"⟩, 10) := ⟨⟨by decide +kernel, by decide +kernel⟩, List.mem_of_getElem? (i := 138) (by decide +kernel), List.mem_of_getElem? (i := 694) (by decide +kernel), List.mem_of_getElem? (i := 695) (by decide +kernel)⟩
theorem lw_p18 : lw_okq (⟨"OldNeighbours$Reader", "readAny", "(I)Z"⟩, 5) := ⟨⟨by decide +kernel, by decide +kernel⟩, List.mem_of_getElem? (i := 228) (by decide +kernel), List.mem_of_getElem? (i := 698) (by decide +kernel), List.mem_of_getElem? (i := 699) (by decide +kernel)⟩
theorem lw_p19 : lw_okq (⟨"OldNeighbours$Reader", "readAll", "(I)Z"⟩, 5) := ⟨⟨by decide +kernel, by decide +kernel⟩, List.mem_of_getElem? (i := 228) (by decide +kernel), List.mem_of_getElem? (i := 702) (by decide +kernel), List.mem_of_getElem? (i := 703) (by decide +kernel)⟩
theorem lw_p20 : lw_okq (⟨"OldNeighbours$Reader", "readCondition", "(I)Z"⟩, 5) := ⟨⟨by decide +kernel, by decide +kernel⟩, List.mem_of_getElem? (i := 228) (by decide +kernel), List.mem_of_getElem? (i := 706) (by decide +kernel), List.mem_of_getElem? (i := 707) (by decide +kernel)⟩
theorem lw_p21 : lw_okq (⟨"OldNeighbours$Reader", "readOpened", "(II)Z"⟩, 5) := ⟨⟨by decide +kernel, by decide +kernel⟩, List.mem_of_getElem? (i := 228) (by decide +kernel), List.mem_of_getElem? (i := 710) (by decide +kernel), List.mem_of_getElem? (i := 711) (by decide +kernel)⟩
theorem lw_p22 : lw_okq (⟨"OldNeighbours$Rule", "write", "(I)V"⟩, 10) := ⟨⟨by decide +kernel, by decide +kernel⟩, List.mem_of_getElem? (i := 138) (by decide +kernel), List.mem_of_getElem? (i := 714) (by decide +kernel), List.mem_of_getElem? (i := 715) (by decide +kernel)⟩
theorem lw_p23 : lw_okq (⟨"OldNeighbours$Reader", "readSum", "()Z"⟩, 5) := ⟨⟨by decide +kernel, by decide +kernel⟩, List.mem_of_getElem? (i := 228) (by decide +kernel), List.mem_of_getElem? (i := 718) (by decide +kernel), List.mem_of_getElem? (i := 719) (by decide +kernel)⟩
theorem lw_p24 : lw_okq (⟨"OldNeighbours$Reader", "readUnit", "(Z)Z"⟩, 5) := ⟨⟨by decide +kernel, by decide +kernel⟩, List.mem_of_getElem? (i := 228) (by decide +kernel), List.mem_of_getElem? (i := 722) (by decide +kernel), List.mem_of_getElem? (i := 723) (by decide +kernel)⟩
theorem lw_p25 : lw_okq (⟨"OldNeighbours$Rule", "close", "()V"⟩, 10) := ⟨⟨by decide +kernel, by decide +kernel⟩, List.mem_of_getElem? (i := 138) (by decide +kernel), List.mem_of_getElem? (i := 726) (by decide +kernel), List.mem_of_getElem? (i := 727) (by decide +kernel)⟩
theorem lw_p26 : lw_okq (⟨"OldNeighbours$Rule", "copy", "(LOldNeighbours$Rule;)V"⟩, 10) := ⟨⟨by decide +kernel, by decide +kernel⟩, List.mem_of_getElem? (i := 138) (by decide +kernel), List.mem_of_getElem? (i := 730) (by decide +kernel), List.mem_of_getElem? (i := 731) (by decide +kernel)⟩
theorem lw_p27 : lw_okq (⟨"OldNeighbours$Wall", "cellOf", "(I)I"⟩, 5) := ⟨⟨by decide +kernel, by decide +kernel⟩, List.mem_of_getElem? (i := 74) (by decide +kernel), List.mem_of_getElem? (i := 781) (by decide +kernel), List.mem_of_getElem? (i := 782) (by decide +kernel)⟩
theorem lw_p28 : lw_okq (⟨"OldNeighbours$Wall", "besideOf", "(I)I"⟩, 5) := ⟨⟨by decide +kernel, by decide +kernel⟩, List.mem_of_getElem? (i := 74) (by decide +kernel), List.mem_of_getElem? (i := 797) (by decide +kernel), List.mem_of_getElem? (i := 798) (by decide +kernel)⟩
theorem lw_p29 : lw_okq (⟨"OldNeighbours", "compare", "(LOldNeighbours$Wall;LOldNeighbours$Wall;)V"⟩, 12) := ⟨⟨by decide +kernel, by decide +kernel⟩, List.mem_of_getElem? (i := 26) (by decide +kernel), List.mem_of_getElem? (i := 805) (by decide +kernel), List.mem_of_getElem? (i := 806) (by decide +kernel)⟩
theorem lw_p30 : lw_okq (⟨"OldNeighbours$Nearness", "learn", "(LOldNeighbours$Wall;LOldNeighbours$World;)V"⟩, 6) := ⟨⟨by decide +kernel, by decide +kernel⟩, List.mem_of_getElem? (i := 290) (by decide +kernel), List.mem_of_getElem? (i := 809) (by decide +kernel), List.mem_of_getElem? (i := 810) (by decide +kernel)⟩
theorem lw_p31 : lw_okq (⟨"OldNeighbours$Nearness", "weigh", "(LOldNeighbours$Wall;)V"⟩, 6) := ⟨⟨by decide +kernel, by decide +kernel⟩, List.mem_of_getElem? (i := 290) (by decide +kernel), List.mem_of_getElem? (i := 816) (by decide +kernel), List.mem_of_getElem? (i := 817) (by decide +kernel)⟩
def lw_privs_2 : List (MethodName × Nat) := [(⟨"OldNeighbours$Reader", "readRuleLine", "(I)Z"⟩, 5), (⟨"OldNeighbours$Rule", "open", "(II)V"⟩, 10), (⟨"OldNeighbours$Reader", "readAny", "(I)Z"⟩, 5), (⟨"OldNeighbours$Reader", "readAll", "(I)Z"⟩, 5), (⟨"OldNeighbours$Reader", "readCondition", "(I)Z"⟩, 5), (⟨"OldNeighbours$Reader", "readOpened", "(II)Z"⟩, 5), (⟨"OldNeighbours$Rule", "write", "(I)V"⟩, 10), (⟨"OldNeighbours$Reader", "readSum", "()Z"⟩, 5), (⟨"OldNeighbours$Reader", "readUnit", "(Z)Z"⟩, 5), (⟨"OldNeighbours$Rule", "close", "()V"⟩, 10), (⟨"OldNeighbours$Rule", "copy", "(LOldNeighbours$Rule;)V"⟩, 10), (⟨"OldNeighbours$Wall", "cellOf", "(I)I"⟩, 5), (⟨"OldNeighbours$Wall", "besideOf", "(I)I"⟩, 5), (⟨"OldNeighbours", "compare", "(LOldNeighbours$Wall;LOldNeighbours$Wall;)V"⟩, 12), (⟨"OldNeighbours$Nearness", "learn", "(LOldNeighbours$Wall;LOldNeighbours$World;)V"⟩, 6), (⟨"OldNeighbours$Nearness", "weigh", "(LOldNeighbours$Wall;)V"⟩, 6)]
theorem lw_r2 : ∀ q ∈ lw_privs_2, lw_okq q := List.forall_mem_cons.mpr ⟨lw_p16, List.forall_mem_cons.mpr ⟨lw_p17, List.forall_mem_cons.mpr ⟨lw_p18, List.forall_mem_cons.mpr ⟨lw_p19, List.forall_mem_cons.mpr ⟨lw_p20, List.forall_mem_cons.mpr ⟨lw_p21, List.forall_mem_cons.mpr ⟨lw_p22, List.forall_mem_cons.mpr ⟨lw_p23, List.forall_mem_cons.mpr ⟨lw_p24, List.forall_mem_cons.mpr ⟨lw_p25, List.forall_mem_cons.mpr ⟨lw_p26, List.forall_mem_cons.mpr ⟨lw_p27, List.forall_mem_cons.mpr ⟨lw_p28, List.forall_mem_cons.mpr ⟨lw_p29, List.forall_mem_cons.mpr ⟨lw_p30, List.forall_mem_cons.mpr ⟨lw_p31, fun _ h => absurd h List.not_mem_nil⟩⟩⟩⟩⟩⟩⟩⟩⟩⟩⟩⟩⟩⟩⟩⟩
theorem lw_p32 : lw_okq (⟨"OldNeighbours$Nearness", "isNear", "(II)Z"⟩, 6) := ⟨⟨by decide +kernel, by decide +kernel⟩, List.mem_of_getElem? (i := 290) (by decide +kernel), List.mem_of_getElem? (i := 826) (by decide +kernel), List.mem_of_getElem? (i := 827) (by decide +kernel)⟩
theorem lw_p33 : lw_okq (⟨"OldNeighbours", "isBorne", "()Z"⟩, 12) := ⟨⟨by decide +kernel, by decide +kernel⟩, List.mem_of_getElem? (i := 26) (by decide +kernel), List.mem_of_getElem? (i := 830) (by decide +kernel), List.mem_of_getElem? (i := 831) (by decide +kernel)⟩
theorem lw_p34 : lw_okq (⟨"OldNeighbours", "isGood", "(LOldNeighbours$Wall;LOldNeighbours$Wall;)Z"⟩, 12) := ⟨⟨by decide +kernel, by decide +kernel⟩, List.mem_of_getElem? (i := 26) (by decide +kernel), List.mem_of_getElem? (i := 838) (by decide +kernel), List.mem_of_getElem? (i := 839) (by decide +kernel)⟩
theorem lw_p35 : lw_okq (⟨"OldNeighbours$Builder", "putUp", "(LOldNeighbours$World;LOldNeighbours$Wall;JII)I"⟩, 10) := ⟨⟨by decide +kernel, by decide +kernel⟩, List.mem_of_getElem? (i := 321) (by decide +kernel), List.mem_of_getElem? (i := 846) (by decide +kernel), List.mem_of_getElem? (i := 847) (by decide +kernel)⟩
theorem lw_p36 : lw_okq (⟨"OldNeighbours$Wall", "copy", "(LOldNeighbours$Wall;)V"⟩, 5) := ⟨⟨by decide +kernel, by decide +kernel⟩, List.mem_of_getElem? (i := 74) (by decide +kernel), List.mem_of_getElem? (i := 850) (by decide +kernel), List.mem_of_getElem? (i := 851) (by decide +kernel)⟩
theorem lw_p37 : lw_okq (⟨"OldNeighbours$Builder", "gather", "()V"⟩, 10) := ⟨⟨by decide +kernel, by decide +kernel⟩, List.mem_of_getElem? (i := 321) (by decide +kernel), List.mem_of_getElem? (i := 856) (by decide +kernel), List.mem_of_getElem? (i := 857) (by decide +kernel)⟩
theorem lw_p38 : lw_okq (⟨"OldNeighbours$Builder", "layPairs", "()V"⟩, 10) := ⟨⟨by decide +kernel, by decide +kernel⟩, List.mem_of_getElem? (i := 321) (by decide +kernel), List.mem_of_getElem? (i := 860) (by decide +kernel), List.mem_of_getElem? (i := 861) (by decide +kernel)⟩
theorem lw_p39 : lw_okq (⟨"OldNeighbours$Wall", "filledPlaces", "()J"⟩, 5) := ⟨⟨by decide +kernel, by decide +kernel⟩, List.mem_of_getElem? (i := 74) (by decide +kernel), List.mem_of_getElem? (i := 864) (by decide +kernel), List.mem_of_getElem? (i := 865) (by decide +kernel)⟩
theorem lw_p40 : lw_okq (⟨"OldNeighbours$Wall", "cellBeside", "(II)I"⟩, 5) := ⟨⟨by decide +kernel, by decide +kernel⟩, List.mem_of_getElem? (i := 74) (by decide +kernel), List.mem_of_getElem? (i := 872) (by decide +kernel), List.mem_of_getElem? (i := 873) (by decide +kernel)⟩
theorem lw_p41 : lw_okq (⟨"OldNeighbours$Builder", "layInRow", "(II)V"⟩, 10) := ⟨⟨by decide +kernel, by decide +kernel⟩, List.mem_of_getElem? (i := 321) (by decide +kernel), List.mem_of_getElem? (i := 881) (by decide +kernel), List.mem_of_getElem? (i := 882) (by decide +kernel)⟩
theorem lw_p42 : lw_okq (⟨"OldNeighbours$Builder", "targetOf", "(III)I"⟩, 10) := ⟨⟨by decide +kernel, by decide +kernel⟩, List.mem_of_getElem? (i := 321) (by decide +kernel), List.mem_of_getElem? (i := 885) (by decide +kernel), List.mem_of_getElem? (i := 886) (by decide +kernel)⟩
theorem lw_p43 : lw_okq (⟨"OldNeighbours$Builder", "snakeCell", "(I)I"⟩, 10) := ⟨⟨by decide +kernel, by decide +kernel⟩, List.mem_of_getElem? (i := 321) (by decide +kernel), List.mem_of_getElem? (i := 893) (by decide +kernel), List.mem_of_getElem? (i := 894) (by decide +kernel)⟩
theorem lw_p44 : lw_okq (⟨"OldNeighbours$Builder", "mend", "(LOldNeighbours$World;)V"⟩, 10) := ⟨⟨by decide +kernel, by decide +kernel⟩, List.mem_of_getElem? (i := 321) (by decide +kernel), List.mem_of_getElem? (i := 900) (by decide +kernel), List.mem_of_getElem? (i := 901) (by decide +kernel)⟩
theorem lw_p45 : lw_okq (⟨"OldNeighbours$Nearness", "weightOf", "(LOldNeighbours$Wall;I)I"⟩, 6) := ⟨⟨by decide +kernel, by decide +kernel⟩, List.mem_of_getElem? (i := 290) (by decide +kernel), List.mem_of_getElem? (i := 905) (by decide +kernel), List.mem_of_getElem? (i := 906) (by decide +kernel)⟩
theorem lw_p46 : lw_okq (⟨"OldNeighbours$Wall", "brickIn", "(I)I"⟩, 5) := ⟨⟨by decide +kernel, by decide +kernel⟩, List.mem_of_getElem? (i := 74) (by decide +kernel), List.mem_of_getElem? (i := 909) (by decide +kernel), List.mem_of_getElem? (i := 910) (by decide +kernel)⟩
theorem lw_p47 : lw_okq (⟨"OldNeighbours$Builder", "exchangeFirst", "()Z"⟩, 10) := ⟨⟨by decide +kernel, by decide +kernel⟩, List.mem_of_getElem? (i := 321) (by decide +kernel), List.mem_of_getElem? (i := 913) (by decide +kernel), List.mem_of_getElem? (i := 914) (by decide +kernel)⟩
def lw_privs_3 : List (MethodName × Nat) := [(⟨"OldNeighbours$Nearness", "isNear", "(II)Z"⟩, 6), (⟨"OldNeighbours", "isBorne", "()Z"⟩, 12), (⟨"OldNeighbours", "isGood", "(LOldNeighbours$Wall;LOldNeighbours$Wall;)Z"⟩, 12), (⟨"OldNeighbours$Builder", "putUp", "(LOldNeighbours$World;LOldNeighbours$Wall;JII)I"⟩, 10), (⟨"OldNeighbours$Wall", "copy", "(LOldNeighbours$Wall;)V"⟩, 5), (⟨"OldNeighbours$Builder", "gather", "()V"⟩, 10), (⟨"OldNeighbours$Builder", "layPairs", "()V"⟩, 10), (⟨"OldNeighbours$Wall", "filledPlaces", "()J"⟩, 5), (⟨"OldNeighbours$Wall", "cellBeside", "(II)I"⟩, 5), (⟨"OldNeighbours$Builder", "layInRow", "(II)V"⟩, 10), (⟨"OldNeighbours$Builder", "targetOf", "(III)I"⟩, 10), (⟨"OldNeighbours$Builder", "snakeCell", "(I)I"⟩, 10), (⟨"OldNeighbours$Builder", "mend", "(LOldNeighbours$World;)V"⟩, 10), (⟨"OldNeighbours$Nearness", "weightOf", "(LOldNeighbours$Wall;I)I"⟩, 6), (⟨"OldNeighbours$Wall", "brickIn", "(I)I"⟩, 5), (⟨"OldNeighbours$Builder", "exchangeFirst", "()Z"⟩, 10)]
theorem lw_r3 : ∀ q ∈ lw_privs_3, lw_okq q := List.forall_mem_cons.mpr ⟨lw_p32, List.forall_mem_cons.mpr ⟨lw_p33, List.forall_mem_cons.mpr ⟨lw_p34, List.forall_mem_cons.mpr ⟨lw_p35, List.forall_mem_cons.mpr ⟨lw_p36, List.forall_mem_cons.mpr ⟨lw_p37, List.forall_mem_cons.mpr ⟨lw_p38, List.forall_mem_cons.mpr ⟨lw_p39, List.forall_mem_cons.mpr ⟨lw_p40, List.forall_mem_cons.mpr ⟨lw_p41, List.forall_mem_cons.mpr ⟨lw_p42, List.forall_mem_cons.mpr ⟨lw_p43, List.forall_mem_cons.mpr ⟨lw_p44, List.forall_mem_cons.mpr ⟨lw_p45, List.forall_mem_cons.mpr ⟨lw_p46, List.forall_mem_cons.mpr ⟨lw_p47, fun _ h => absurd h List.not_mem_nil⟩⟩⟩⟩⟩⟩⟩⟩⟩⟩⟩⟩⟩⟩⟩⟩
theorem lw_p48 : lw_okq (⟨"OldNeighbours$Wall", "withTouching", "(I)I"⟩, 5) := ⟨⟨by decide +kernel, by decide +kernel⟩, List.mem_of_getElem? (i := 74) (by decide +kernel), List.mem_of_getElem? (i := 917) (by decide +kernel), List.mem_of_getElem? (i := 918) (by decide +kernel)⟩
theorem lw_p49 : lw_okq (⟨"OldNeighbours$Builder", "isBetterExchanged", "(III)Z"⟩, 10) := ⟨⟨by decide +kernel, by decide +kernel⟩, List.mem_of_getElem? (i := 321) (by decide +kernel), List.mem_of_getElem? (i := 921) (by decide +kernel), List.mem_of_getElem? (i := 922) (by decide +kernel)⟩
theorem lw_p50 : lw_okq (⟨"OldNeighbours$Wall", "exchange", "(II)V"⟩, 5) := ⟨⟨by decide +kernel, by decide +kernel⟩, List.mem_of_getElem? (i := 74) (by decide +kernel), List.mem_of_getElem? (i := 925) (by decide +kernel), List.mem_of_getElem? (i := 926) (by decide +kernel)⟩
theorem lw_p51 : lw_okq (⟨"OldNeighbours$Builder", "mix", "(LOldNeighbours$World;)V"⟩, 10) := ⟨⟨by decide +kernel, by decide +kernel⟩, List.mem_of_getElem? (i := 321) (by decide +kernel), List.mem_of_getElem? (i := 929) (by decide +kernel), List.mem_of_getElem? (i := 930) (by decide +kernel)⟩
theorem lw_p52 : lw_okq (⟨"OldNeighbours$World", "draw", "(I)I"⟩, 12) := ⟨⟨by decide +kernel, by decide +kernel⟩, List.mem_of_getElem? (i := 34) (by decide +kernel), List.mem_of_getElem? (i := 933) (by decide +kernel), List.mem_of_getElem? (i := 934) (by decide +kernel)⟩
theorem lw_p53 : lw_okq (⟨"OldNeighbours$Wall", "bricksIn", "()I"⟩, 5) := ⟨⟨by decide +kernel, by decide +kernel⟩, List.mem_of_getElem? (i := 74) (by decide +kernel), List.mem_of_getElem? (i := 944) (by decide +kernel), List.mem_of_getElem? (i := 945) (by decide +kernel)⟩
theorem lw_p54 : lw_okq (⟨"OldNeighbours", "passYear", "(LOldNeighbours$Rule;J)I"⟩, 12) := ⟨⟨by decide +kernel, by decide +kernel⟩, List.mem_of_getElem? (i := 26) (by decide +kernel), List.mem_of_getElem? (i := 948) (by decide +kernel), List.mem_of_getElem? (i := 949) (by decide +kernel)⟩
theorem lw_p55 : lw_okq (⟨"OldNeighbours$Rule", "lineFor", "(IIIII)I"⟩, 10) := ⟨⟨by decide +kernel, by decide +kernel⟩, List.mem_of_getElem? (i := 138) (by decide +kernel), List.mem_of_getElem? (i := 952) (by decide +kernel), List.mem_of_getElem? (i := 953) (by decide +kernel)⟩
theorem lw_p56 : lw_okq (⟨"OldNeighbours$Rule", "holds", "(II)Z"⟩, 10) := ⟨⟨by decide +kernel, by decide +kernel⟩, List.mem_of_getElem? (i := 138) (by decide +kernel), List.mem_of_getElem? (i := 956) (by decide +kernel), List.mem_of_getElem? (i := 957) (by decide +kernel)⟩
theorem lw_p57 : lw_okq (⟨"OldNeighbours$Rule", "push", "(I)V"⟩, 10) := ⟨⟨by decide +kernel, by decide +kernel⟩, List.mem_of_getElem? (i := 138) (by decide +kernel), List.mem_of_getElem? (i := 960) (by decide +kernel), List.mem_of_getElem? (i := 961) (by decide +kernel)⟩
theorem lw_p58 : lw_okq (⟨"OldNeighbours$Rule", "pop", "()I"⟩, 10) := ⟨⟨by decide +kernel, by decide +kernel⟩, List.mem_of_getElem? (i := 138) (by decide +kernel), List.mem_of_getElem? (i := 965) (by decide +kernel), List.mem_of_getElem? (i := 966) (by decide +kernel)⟩
theorem lw_p59 : lw_okq (⟨"OldNeighbours$Rule", "wayOf", "(I)I"⟩, 10) := ⟨⟨by decide +kernel, by decide +kernel⟩, List.mem_of_getElem? (i := 138) (by decide +kernel), List.mem_of_getElem? (i := 972) (by decide +kernel), List.mem_of_getElem? (i := 973) (by decide +kernel)⟩
theorem lw_p60 : lw_okq (⟨"OldNeighbours$Rule", "byOf", "(I)I"⟩, 10) := ⟨⟨by decide +kernel, by decide +kernel⟩, List.mem_of_getElem? (i := 138) (by decide +kernel), List.mem_of_getElem? (i := 976) (by decide +kernel), List.mem_of_getElem? (i := 977) (by decide +kernel)⟩
theorem lw_p61 : lw_okq (⟨"OldNeighbours$History", "keepYear", "(LOldNeighbours$Wall;III)V"⟩, 6) := ⟨⟨by decide +kernel, by decide +kernel⟩, List.mem_of_getElem? (i := 44) (by decide +kernel), List.mem_of_getElem? (i := 980) (by decide +kernel), List.mem_of_getElem? (i := 981) (by decide +kernel)⟩
theorem lw_p62 : lw_okq (⟨"OldNeighbours$World", "meet", "(LOldNeighbours$Wall;)V"⟩, 12) := ⟨⟨by decide +kernel, by decide +kernel⟩, List.mem_of_getElem? (i := 34) (by decide +kernel), List.mem_of_getElem? (i := 994) (by decide +kernel), List.mem_of_getElem? (i := 995) (by decide +kernel)⟩
theorem lw_p63 : lw_okq (⟨"OldNeighbours$World", "meetBoth", "(II)V"⟩, 12) := ⟨⟨by decide +kernel, by decide +kernel⟩, List.mem_of_getElem? (i := 34) (by decide +kernel), List.mem_of_getElem? (i := 1000) (by decide +kernel), List.mem_of_getElem? (i := 1001) (by decide +kernel)⟩
def lw_privs_4 : List (MethodName × Nat) := [(⟨"OldNeighbours$Wall", "withTouching", "(I)I"⟩, 5), (⟨"OldNeighbours$Builder", "isBetterExchanged", "(III)Z"⟩, 10), (⟨"OldNeighbours$Wall", "exchange", "(II)V"⟩, 5), (⟨"OldNeighbours$Builder", "mix", "(LOldNeighbours$World;)V"⟩, 10), (⟨"OldNeighbours$World", "draw", "(I)I"⟩, 12), (⟨"OldNeighbours$Wall", "bricksIn", "()I"⟩, 5), (⟨"OldNeighbours", "passYear", "(LOldNeighbours$Rule;J)I"⟩, 12), (⟨"OldNeighbours$Rule", "lineFor", "(IIIII)I"⟩, 10), (⟨"OldNeighbours$Rule", "holds", "(II)Z"⟩, 10), (⟨"OldNeighbours$Rule", "push", "(I)V"⟩, 10), (⟨"OldNeighbours$Rule", "pop", "()I"⟩, 10), (⟨"OldNeighbours$Rule", "wayOf", "(I)I"⟩, 10), (⟨"OldNeighbours$Rule", "byOf", "(I)I"⟩, 10), (⟨"OldNeighbours$History", "keepYear", "(LOldNeighbours$Wall;III)V"⟩, 6), (⟨"OldNeighbours$World", "meet", "(LOldNeighbours$Wall;)V"⟩, 12), (⟨"OldNeighbours$World", "meetBoth", "(II)V"⟩, 12)]
theorem lw_r4 : ∀ q ∈ lw_privs_4, lw_okq q := List.forall_mem_cons.mpr ⟨lw_p48, List.forall_mem_cons.mpr ⟨lw_p49, List.forall_mem_cons.mpr ⟨lw_p50, List.forall_mem_cons.mpr ⟨lw_p51, List.forall_mem_cons.mpr ⟨lw_p52, List.forall_mem_cons.mpr ⟨lw_p53, List.forall_mem_cons.mpr ⟨lw_p54, List.forall_mem_cons.mpr ⟨lw_p55, List.forall_mem_cons.mpr ⟨lw_p56, List.forall_mem_cons.mpr ⟨lw_p57, List.forall_mem_cons.mpr ⟨lw_p58, List.forall_mem_cons.mpr ⟨lw_p59, List.forall_mem_cons.mpr ⟨lw_p60, List.forall_mem_cons.mpr ⟨lw_p61, List.forall_mem_cons.mpr ⟨lw_p62, List.forall_mem_cons.mpr ⟨lw_p63, fun _ h => absurd h List.not_mem_nil⟩⟩⟩⟩⟩⟩⟩⟩⟩⟩⟩⟩⟩⟩⟩⟩
theorem lw_p64 : lw_okq (⟨"OldNeighbours$World", "firstOf", "(II)I"⟩, 12) := ⟨⟨by decide +kernel, by decide +kernel⟩, List.mem_of_getElem? (i := 34) (by decide +kernel), List.mem_of_getElem? (i := 1005) (by decide +kernel), List.mem_of_getElem? (i := 1006) (by decide +kernel)⟩
theorem lw_p65 : lw_okq (⟨"OldNeighbours$History", "couplesIn", "(I)I"⟩, 6) := ⟨⟨by decide +kernel, by decide +kernel⟩, List.mem_of_getElem? (i := 44) (by decide +kernel), List.mem_of_getElem? (i := 1015) (by decide +kernel), List.mem_of_getElem? (i := 1016) (by decide +kernel)⟩
theorem lw_p66 : lw_okq (⟨"OldNeighbours$World", "neverMet", "()I"⟩, 12) := ⟨⟨by decide +kernel, by decide +kernel⟩, List.mem_of_getElem? (i := 34) (by decide +kernel), List.mem_of_getElem? (i := 1024) (by decide +kernel), List.mem_of_getElem? (i := 1025) (by decide +kernel)⟩
theorem lw_p67 : lw_okq (⟨"OldNeighbours$History", "always", "()I"⟩, 6) := ⟨⟨by decide +kernel, by decide +kernel⟩, List.mem_of_getElem? (i := 44) (by decide +kernel), List.mem_of_getElem? (i := 1028) (by decide +kernel), List.mem_of_getElem? (i := 1029) (by decide +kernel)⟩
theorem lw_p68 : lw_okq (⟨"OldNeighbours$Wall", "touchingCouples", "()I"⟩, 5) := ⟨⟨by decide +kernel, by decide +kernel⟩, List.mem_of_getElem? (i := 74) (by decide +kernel), List.mem_of_getElem? (i := 1035) (by decide +kernel), List.mem_of_getElem? (i := 1036) (by decide +kernel)⟩
theorem lw_p69 : lw_okq (⟨"OldNeighbours$History", "apart", "(II)I"⟩, 6) := ⟨⟨by decide +kernel, by decide +kernel⟩, List.mem_of_getElem? (i := 44) (by decide +kernel), List.mem_of_getElem? (i := 1045) (by decide +kernel), List.mem_of_getElem? (i := 1046) (by decide +kernel)⟩
theorem lw_p70 : lw_okq (⟨"OldNeighbours$Parting", "mostCouples", "(J)I"⟩, 2) := ⟨⟨by decide +kernel, by decide +kernel⟩, List.mem_of_getElem? (i := 363) (by decide +kernel), List.mem_of_getElem? (i := 1054) (by decide +kernel), List.mem_of_getElem? (i := 1055) (by decide +kernel)⟩
theorem lw_p71 : lw_okq (⟨"OldNeighbours$Parting", "most", "(JI)I"⟩, 2) := ⟨⟨by decide +kernel, by decide +kernel⟩, List.mem_of_getElem? (i := 363) (by decide +kernel), List.mem_of_getElem? (i := 1061) (by decide +kernel), List.mem_of_getElem? (i := 1062) (by decide +kernel)⟩
theorem lw_p72 : lw_okq (⟨"OldNeighbours$Parting", "slotOf", "(J)I"⟩, 2) := ⟨⟨by decide +kernel, by decide +kernel⟩, List.mem_of_getElem? (i := 363) (by decide +kernel), List.mem_of_getElem? (i := 1066) (by decide +kernel), List.mem_of_getElem? (i := 1067) (by decide +kernel)⟩
theorem lw_p73 : lw_okq (⟨"OldNeighbours$Parting", "mostWith", "(JJJI)I"⟩, 2) := ⟨⟨by decide +kernel, by decide +kernel⟩, List.mem_of_getElem? (i := 363) (by decide +kernel), List.mem_of_getElem? (i := 1072) (by decide +kernel), List.mem_of_getElem? (i := 1073) (by decide +kernel)⟩
theorem lw_p74 : lw_okq (⟨"OldNeighbours$Parting", "keep", "(JI)V"⟩, 2) := ⟨⟨by decide +kernel, by decide +kernel⟩, List.mem_of_getElem? (i := 363) (by decide +kernel), List.mem_of_getElem? (i := 1078) (by decide +kernel), List.mem_of_getElem? (i := 1079) (by decide +kernel)⟩
theorem lw_p75 : lw_okq (⟨"OldNeighbours$Parting", "couplesSet", "(J)I"⟩, 2) := ⟨⟨by decide +kernel, by decide +kernel⟩, List.mem_of_getElem? (i := 363) (by decide +kernel), List.mem_of_getElem? (i := 1082) (by decide +kernel), List.mem_of_getElem? (i := 1083) (by decide +kernel)⟩
theorem lw_p76 : lw_okq (⟨"OldNeighbours$Parting", "splits", "(JI)I"⟩, 2) := ⟨⟨by decide +kernel, by decide +kernel⟩, List.mem_of_getElem? (i := 363) (by decide +kernel), List.mem_of_getElem? (i := 1086) (by decide +kernel), List.mem_of_getElem? (i := 1087) (by decide +kernel)⟩
theorem lw_p77 : lw_okq (⟨"OldNeighbours$Parting", "splitsAlong", "(JJJJI)I"⟩, 2) := ⟨⟨by decide +kernel, by decide +kernel⟩, List.mem_of_getElem? (i := 363) (by decide +kernel), List.mem_of_getElem? (i := 1090) (by decide +kernel), List.mem_of_getElem? (i := 1091) (by decide +kernel)⟩
theorem lw_p78 : lw_okq (⟨"OldNeighbours$Layings", "tryAll", "(LOldNeighbours$World;LOldNeighbours$Wall;J)V"⟩, 10) := ⟨⟨by decide +kernel, by decide +kernel⟩, List.mem_of_getElem? (i := 376) (by decide +kernel), List.mem_of_getElem? (i := 1098) (by decide +kernel), List.mem_of_getElem? (i := 1099) (by decide +kernel)⟩
theorem lw_p79 : lw_okq (⟨"OldNeighbours$Layings", "layFrom", "(II)V"⟩, 10) := ⟨⟨by decide +kernel, by decide +kernel⟩, List.mem_of_getElem? (i := 376) (by decide +kernel), List.mem_of_getElem? (i := 1105) (by decide +kernel), List.mem_of_getElem? (i := 1106) (by decide +kernel)⟩
def lw_privs_5 : List (MethodName × Nat) := [(⟨"OldNeighbours$World", "firstOf", "(II)I"⟩, 12), (⟨"OldNeighbours$History", "couplesIn", "(I)I"⟩, 6), (⟨"OldNeighbours$World", "neverMet", "()I"⟩, 12), (⟨"OldNeighbours$History", "always", "()I"⟩, 6), (⟨"OldNeighbours$Wall", "touchingCouples", "()I"⟩, 5), (⟨"OldNeighbours$History", "apart", "(II)I"⟩, 6), (⟨"OldNeighbours$Parting", "mostCouples", "(J)I"⟩, 2), (⟨"OldNeighbours$Parting", "most", "(JI)I"⟩, 2), (⟨"OldNeighbours$Parting", "slotOf", "(J)I"⟩, 2), (⟨"OldNeighbours$Parting", "mostWith", "(JJJI)I"⟩, 2), (⟨"OldNeighbours$Parting", "keep", "(JI)V"⟩, 2), (⟨"OldNeighbours$Parting", "couplesSet", "(J)I"⟩, 2), (⟨"OldNeighbours$Parting", "splits", "(JI)I"⟩, 2), (⟨"OldNeighbours$Parting", "splitsAlong", "(JJJJI)I"⟩, 2), (⟨"OldNeighbours$Layings", "tryAll", "(LOldNeighbours$World;LOldNeighbours$Wall;J)V"⟩, 10), (⟨"OldNeighbours$Layings", "layFrom", "(II)V"⟩, 10)]
theorem lw_r5 : ∀ q ∈ lw_privs_5, lw_okq q := List.forall_mem_cons.mpr ⟨lw_p64, List.forall_mem_cons.mpr ⟨lw_p65, List.forall_mem_cons.mpr ⟨lw_p66, List.forall_mem_cons.mpr ⟨lw_p67, List.forall_mem_cons.mpr ⟨lw_p68, List.forall_mem_cons.mpr ⟨lw_p69, List.forall_mem_cons.mpr ⟨lw_p70, List.forall_mem_cons.mpr ⟨lw_p71, List.forall_mem_cons.mpr ⟨lw_p72, List.forall_mem_cons.mpr ⟨lw_p73, List.forall_mem_cons.mpr ⟨lw_p74, List.forall_mem_cons.mpr ⟨lw_p75, List.forall_mem_cons.mpr ⟨lw_p76, List.forall_mem_cons.mpr ⟨lw_p77, List.forall_mem_cons.mpr ⟨lw_p78, List.forall_mem_cons.mpr ⟨lw_p79, fun _ h => absurd h List.not_mem_nil⟩⟩⟩⟩⟩⟩⟩⟩⟩⟩⟩⟩⟩⟩⟩⟩
theorem lw_p80 : lw_okq (⟨"OldNeighbours$Layings", "layEach", "(II)V"⟩, 10) := ⟨⟨by decide +kernel, by decide +kernel⟩, List.mem_of_getElem? (i := 376) (by decide +kernel), List.mem_of_getElem? (i := 1109) (by decide +kernel), List.mem_of_getElem? (i := 1110) (by decide +kernel)⟩
theorem lw_p81 : lw_okq (⟨"OldNeighbours$Layings", "note", "()V"⟩, 10) := ⟨⟨by decide +kernel, by decide +kernel⟩, List.mem_of_getElem? (i := 376) (by decide +kernel), List.mem_of_getElem? (i := 1113) (by decide +kernel), List.mem_of_getElem? (i := 1114) (by decide +kernel)⟩
theorem lw_p82 : lw_okq (⟨"OldNeighbours$Sequence", "build", "(LOldNeighbours$Wall;LOldNeighbours$Nearness;)V"⟩, 5) := ⟨⟨by decide +kernel, by decide +kernel⟩, List.mem_of_getElem? (i := 421) (by decide +kernel), List.mem_of_getElem? (i := 1124) (by decide +kernel), List.mem_of_getElem? (i := 1125) (by decide +kernel)⟩
theorem lw_p83 : lw_okq (⟨"OldNeighbours$Sequence", "nextOf", "(LOldNeighbours$Wall;LOldNeighbours$Nearness;Z)I"⟩, 5) := ⟨⟨by decide +kernel, by decide +kernel⟩, List.mem_of_getElem? (i := 421) (by decide +kernel), List.mem_of_getElem? (i := 1129) (by decide +kernel), List.mem_of_getElem? (i := 1130) (by decide +kernel)⟩
theorem lw_p84 : lw_okq (⟨"OldNeighbours$Sequence", "rests", "(LOldNeighbours$Wall;I)Z"⟩, 5) := ⟨⟨by decide +kernel, by decide +kernel⟩, List.mem_of_getElem? (i := 421) (by decide +kernel), List.mem_of_getElem? (i := 1134) (by decide +kernel), List.mem_of_getElem? (i := 1135) (by decide +kernel)⟩
theorem lw_p85 : lw_okq (⟨"OldNeighbours$Sequence", "add", "(II)V"⟩, 5) := ⟨⟨by decide +kernel, by decide +kernel⟩, List.mem_of_getElem? (i := 421) (by decide +kernel), List.mem_of_getElem? (i := 1141) (by decide +kernel), List.mem_of_getElem? (i := 1142) (by decide +kernel)⟩
theorem lw_p86 : lw_okq (⟨"OldNeighbours", "isBroken", "(I)Z"⟩, 12) := ⟨⟨by decide +kernel, by decide +kernel⟩, List.mem_of_getElem? (i := 26) (by decide +kernel), List.mem_of_getElem? (i := 1164) (by decide +kernel), List.mem_of_getElem? (i := 1165) (by decide +kernel)⟩
theorem lw_p87 : lw_okq (⟨"OldNeighbours", "spareFrom", "(LOldNeighbours$Wall;I)I"⟩, 12) := ⟨⟨by decide +kernel, by decide +kernel⟩, List.mem_of_getElem? (i := 26) (by decide +kernel), List.mem_of_getElem? (i := 1168) (by decide +kernel), List.mem_of_getElem? (i := 1169) (by decide +kernel)⟩
theorem lw_p88 : lw_okq (⟨"OldNeighbours", "tellOlder", "(LOldNeighbours$Wall;LOldNeighbours$Wall;)I"⟩, 12) := ⟨⟨by decide +kernel, by decide +kernel⟩, List.mem_of_getElem? (i := 26) (by decide +kernel), List.mem_of_getElem? (i := 1187) (by decide +kernel), List.mem_of_getElem? (i := 1188) (by decide +kernel)⟩
theorem lw_p89 : lw_okq (⟨"OldNeighbours", "countTelling", "(LOldNeighbours$Wall;LOldNeighbours$Wall;I)I"⟩, 12) := ⟨⟨by decide +kernel, by decide +kernel⟩, List.mem_of_getElem? (i := 26) (by decide +kernel), List.mem_of_getElem? (i := 1191) (by decide +kernel), List.mem_of_getElem? (i := 1192) (by decide +kernel)⟩
theorem lw_p90 : lw_okq (⟨"OldNeighbours$History", "leftOf", "(II)I"⟩, 6) := ⟨⟨by decide +kernel, by decide +kernel⟩, List.mem_of_getElem? (i := 44) (by decide +kernel), List.mem_of_getElem? (i := 1199) (by decide +kernel), List.mem_of_getElem? (i := 1200) (by decide +kernel)⟩
theorem lw_p91 : lw_okq (⟨"OldNeighbours$History", "yearsWithLeft", "(II)I"⟩, 6) := ⟨⟨by decide +kernel, by decide +kernel⟩, List.mem_of_getElem? (i := 44) (by decide +kernel), List.mem_of_getElem? (i := 1203) (by decide +kernel), List.mem_of_getElem? (i := 1204) (by decide +kernel)⟩
theorem lw_p92 : lw_okq (⟨"OldNeighbours$World", "copy", "(LOldNeighbours$World;)V"⟩, 12) := ⟨⟨by decide +kernel, by decide +kernel⟩, List.mem_of_getElem? (i := 34) (by decide +kernel), List.mem_of_getElem? (i := 1212) (by decide +kernel), List.mem_of_getElem? (i := 1213) (by decide +kernel)⟩
theorem lw_p93 : lw_okq (⟨"OldNeighbours$History", "copy", "(LOldNeighbours$History;)V"⟩, 6) := ⟨⟨by decide +kernel, by decide +kernel⟩, List.mem_of_getElem? (i := 44) (by decide +kernel), List.mem_of_getElem? (i := 1219) (by decide +kernel), List.mem_of_getElem? (i := 1220) (by decide +kernel)⟩
theorem lw_p94 : lw_okq (⟨"OldNeighboursModel", "next0", "()V"⟩, 46) := ⟨⟨by decide +kernel, by decide +kernel⟩, List.mem_of_getElem? (i := 1228) (by decide +kernel), List.mem_of_getElem? (i := 1393) (by decide +kernel), List.mem_of_getElem? (i := 1394) (by decide +kernel)⟩
theorem lw_p95 : lw_okq (⟨"OldNeighboursModel", "see", "(I)I"⟩, 46) := ⟨⟨by decide +kernel, by decide +kernel⟩, List.mem_of_getElem? (i := 1228) (by decide +kernel), List.mem_of_getElem? (i := 1397) (by decide +kernel), List.mem_of_getElem? (i := 1398) (by decide +kernel)⟩
def lw_privs_6 : List (MethodName × Nat) := [(⟨"OldNeighbours$Layings", "layEach", "(II)V"⟩, 10), (⟨"OldNeighbours$Layings", "note", "()V"⟩, 10), (⟨"OldNeighbours$Sequence", "build", "(LOldNeighbours$Wall;LOldNeighbours$Nearness;)V"⟩, 5), (⟨"OldNeighbours$Sequence", "nextOf", "(LOldNeighbours$Wall;LOldNeighbours$Nearness;Z)I"⟩, 5), (⟨"OldNeighbours$Sequence", "rests", "(LOldNeighbours$Wall;I)Z"⟩, 5), (⟨"OldNeighbours$Sequence", "add", "(II)V"⟩, 5), (⟨"OldNeighbours", "isBroken", "(I)Z"⟩, 12), (⟨"OldNeighbours", "spareFrom", "(LOldNeighbours$Wall;I)I"⟩, 12), (⟨"OldNeighbours", "tellOlder", "(LOldNeighbours$Wall;LOldNeighbours$Wall;)I"⟩, 12), (⟨"OldNeighbours", "countTelling", "(LOldNeighbours$Wall;LOldNeighbours$Wall;I)I"⟩, 12), (⟨"OldNeighbours$History", "leftOf", "(II)I"⟩, 6), (⟨"OldNeighbours$History", "yearsWithLeft", "(II)I"⟩, 6), (⟨"OldNeighbours$World", "copy", "(LOldNeighbours$World;)V"⟩, 12), (⟨"OldNeighbours$History", "copy", "(LOldNeighbours$History;)V"⟩, 6), (⟨"OldNeighboursModel", "next0", "()V"⟩, 46), (⟨"OldNeighboursModel", "see", "(I)I"⟩, 46)]
theorem lw_r6 : ∀ q ∈ lw_privs_6, lw_okq q := List.forall_mem_cons.mpr ⟨lw_p80, List.forall_mem_cons.mpr ⟨lw_p81, List.forall_mem_cons.mpr ⟨lw_p82, List.forall_mem_cons.mpr ⟨lw_p83, List.forall_mem_cons.mpr ⟨lw_p84, List.forall_mem_cons.mpr ⟨lw_p85, List.forall_mem_cons.mpr ⟨lw_p86, List.forall_mem_cons.mpr ⟨lw_p87, List.forall_mem_cons.mpr ⟨lw_p88, List.forall_mem_cons.mpr ⟨lw_p89, List.forall_mem_cons.mpr ⟨lw_p90, List.forall_mem_cons.mpr ⟨lw_p91, List.forall_mem_cons.mpr ⟨lw_p92, List.forall_mem_cons.mpr ⟨lw_p93, List.forall_mem_cons.mpr ⟨lw_p94, List.forall_mem_cons.mpr ⟨lw_p95, fun _ h => absurd h List.not_mem_nil⟩⟩⟩⟩⟩⟩⟩⟩⟩⟩⟩⟩⟩⟩⟩⟩
theorem lw_p96 : lw_okq (⟨"OldNeighboursModel", "shapeWord", "()I"⟩, 46) := ⟨⟨by decide +kernel, by decide +kernel⟩, List.mem_of_getElem? (i := 1228) (by decide +kernel), List.mem_of_getElem? (i := 1404) (by decide +kernel), List.mem_of_getElem? (i := 1405) (by decide +kernel)⟩
theorem lw_p97 : lw_okq (⟨"OldNeighboursModel", "is", "(Ljava/lang/String;)Z"⟩, 46) := ⟨⟨by decide +kernel, by decide +kernel⟩, List.mem_of_getElem? (i := 1228) (by decide +kernel), List.mem_of_getElem? (i := 1409) (by decide +kernel), List.mem_of_getElem? (i := 1410) (by decide +kernel)⟩
theorem lw_p98 : lw_okq (⟨"OldNeighboursModel", "ruleWord", "()I"⟩, 46) := ⟨⟨by decide +kernel, by decide +kernel⟩, List.mem_of_getElem? (i := 1228) (by decide +kernel), List.mem_of_getElem? (i := 1418) (by decide +kernel), List.mem_of_getElem? (i := 1419) (by decide +kernel)⟩
theorem lw_p99 : lw_okq (⟨"OldNeighboursModel", "wayWord", "()I"⟩, 46) := ⟨⟨by decide +kernel, by decide +kernel⟩, List.mem_of_getElem? (i := 1228) (by decide +kernel), List.mem_of_getElem? (i := 1431) (by decide +kernel), List.mem_of_getElem? (i := 1432) (by decide +kernel)⟩
theorem lw_p100 : lw_okq (⟨"OldNeighboursModel", "aShape", "()Z"⟩, 46) := ⟨⟨by decide +kernel, by decide +kernel⟩, List.mem_of_getElem? (i := 1228) (by decide +kernel), List.mem_of_getElem? (i := 1445) (by decide +kernel), List.mem_of_getElem? (i := 1446) (by decide +kernel)⟩
theorem lw_p101 : lw_okq (⟨"OldNeighboursModel", "bad", "(I)Z"⟩, 46) := ⟨⟨by decide +kernel, by decide +kernel⟩, List.mem_of_getElem? (i := 1228) (by decide +kernel), List.mem_of_getElem? (i := 1449) (by decide +kernel), List.mem_of_getElem? (i := 1450) (by decide +kernel)⟩
theorem lw_p102 : lw_okq (⟨"OldNeighboursModel", "number", "(II)Z"⟩, 46) := ⟨⟨by decide +kernel, by decide +kernel⟩, List.mem_of_getElem? (i := 1228) (by decide +kernel), List.mem_of_getElem? (i := 1453) (by decide +kernel), List.mem_of_getElem? (i := 1454) (by decide +kernel)⟩
theorem lw_p103 : lw_okq (⟨"OldNeighboursModel", "gridCells", "()I"⟩, 46) := ⟨⟨by decide +kernel, by decide +kernel⟩, List.mem_of_getElem? (i := 1228) (by decide +kernel), List.mem_of_getElem? (i := 1457) (by decide +kernel), List.mem_of_getElem? (i := 1458) (by decide +kernel)⟩
theorem lw_p104 : lw_okq (⟨"OldNeighboursModel", "need", "(I)Z"⟩, 46) := ⟨⟨by decide +kernel, by decide +kernel⟩, List.mem_of_getElem? (i := 1228) (by decide +kernel), List.mem_of_getElem? (i := 1461) (by decide +kernel), List.mem_of_getElem? (i := 1462) (by decide +kernel)⟩
theorem lw_p105 : lw_okq (⟨"OldNeighboursModel", "aRule", "()Z"⟩, 46) := ⟨⟨by decide +kernel, by decide +kernel⟩, List.mem_of_getElem? (i := 1228) (by decide +kernel), List.mem_of_getElem? (i := 1465) (by decide +kernel), List.mem_of_getElem? (i := 1466) (by decide +kernel)⟩
theorem lw_p106 : lw_okq (⟨"OldNeighboursModel", "any", "()Z"⟩, 46) := ⟨⟨by decide +kernel, by decide +kernel⟩, List.mem_of_getElem? (i := 1228) (by decide +kernel), List.mem_of_getElem? (i := 1469) (by decide +kernel), List.mem_of_getElem? (i := 1470) (by decide +kernel)⟩
theorem lw_p107 : lw_okq (⟨"OldNeighboursModel", "every", "()Z"⟩, 46) := ⟨⟨by decide +kernel, by decide +kernel⟩, List.mem_of_getElem? (i := 1228) (by decide +kernel), List.mem_of_getElem? (i := 1473) (by decide +kernel), List.mem_of_getElem? (i := 1474) (by decide +kernel)⟩
theorem lw_p108 : lw_okq (⟨"OldNeighboursModel", "one", "()Z"⟩, 46) := ⟨⟨by decide +kernel, by decide +kernel⟩, List.mem_of_getElem? (i := 1228) (by decide +kernel), List.mem_of_getElem? (i := 1477) (by decide +kernel), List.mem_of_getElem? (i := 1478) (by decide +kernel)⟩
theorem lw_p109 : lw_okq (⟨"OldNeighboursModel", "opens", "()Z"⟩, 46) := ⟨⟨by decide +kernel, by decide +kernel⟩, List.mem_of_getElem? (i := 1228) (by decide +kernel), List.mem_of_getElem? (i := 1481) (by decide +kernel), List.mem_of_getElem? (i := 1482) (by decide +kernel)⟩
theorem lw_p110 : lw_okq (⟨"OldNeighboursModel", "lay0", "(II)V"⟩, 46) := ⟨⟨by decide +kernel, by decide +kernel⟩, List.mem_of_getElem? (i := 1228) (by decide +kernel), List.mem_of_getElem? (i := 1485) (by decide +kernel), List.mem_of_getElem? (i := 1486) (by decide +kernel)⟩
theorem lw_p111 : lw_okq (⟨"OldNeighboursModel", "sumUp", "()Z"⟩, 46) := ⟨⟨by decide +kernel, by decide +kernel⟩, List.mem_of_getElem? (i := 1228) (by decide +kernel), List.mem_of_getElem? (i := 1489) (by decide +kernel), List.mem_of_getElem? (i := 1490) (by decide +kernel)⟩
def lw_privs_7 : List (MethodName × Nat) := [(⟨"OldNeighboursModel", "shapeWord", "()I"⟩, 46), (⟨"OldNeighboursModel", "is", "(Ljava/lang/String;)Z"⟩, 46), (⟨"OldNeighboursModel", "ruleWord", "()I"⟩, 46), (⟨"OldNeighboursModel", "wayWord", "()I"⟩, 46), (⟨"OldNeighboursModel", "aShape", "()Z"⟩, 46), (⟨"OldNeighboursModel", "bad", "(I)Z"⟩, 46), (⟨"OldNeighboursModel", "number", "(II)Z"⟩, 46), (⟨"OldNeighboursModel", "gridCells", "()I"⟩, 46), (⟨"OldNeighboursModel", "need", "(I)Z"⟩, 46), (⟨"OldNeighboursModel", "aRule", "()Z"⟩, 46), (⟨"OldNeighboursModel", "any", "()Z"⟩, 46), (⟨"OldNeighboursModel", "every", "()Z"⟩, 46), (⟨"OldNeighboursModel", "one", "()Z"⟩, 46), (⟨"OldNeighboursModel", "opens", "()Z"⟩, 46), (⟨"OldNeighboursModel", "lay0", "(II)V"⟩, 46), (⟨"OldNeighboursModel", "sumUp", "()Z"⟩, 46)]
theorem lw_r7 : ∀ q ∈ lw_privs_7, lw_okq q := List.forall_mem_cons.mpr ⟨lw_p96, List.forall_mem_cons.mpr ⟨lw_p97, List.forall_mem_cons.mpr ⟨lw_p98, List.forall_mem_cons.mpr ⟨lw_p99, List.forall_mem_cons.mpr ⟨lw_p100, List.forall_mem_cons.mpr ⟨lw_p101, List.forall_mem_cons.mpr ⟨lw_p102, List.forall_mem_cons.mpr ⟨lw_p103, List.forall_mem_cons.mpr ⟨lw_p104, List.forall_mem_cons.mpr ⟨lw_p105, List.forall_mem_cons.mpr ⟨lw_p106, List.forall_mem_cons.mpr ⟨lw_p107, List.forall_mem_cons.mpr ⟨lw_p108, List.forall_mem_cons.mpr ⟨lw_p109, List.forall_mem_cons.mpr ⟨lw_p110, List.forall_mem_cons.mpr ⟨lw_p111, fun _ h => absurd h List.not_mem_nil⟩⟩⟩⟩⟩⟩⟩⟩⟩⟩⟩⟩⟩⟩⟩⟩
theorem lw_p112 : lw_okq (⟨"OldNeighboursModel", "product", "()Z"⟩, 46) := ⟨⟨by decide +kernel, by decide +kernel⟩, List.mem_of_getElem? (i := 1228) (by decide +kernel), List.mem_of_getElem? (i := 1493) (by decide +kernel), List.mem_of_getElem? (i := 1494) (by decide +kernel)⟩
theorem lw_p113 : lw_okq (⟨"OldNeighboursModel", "unit", "()Z"⟩, 46) := ⟨⟨by decide +kernel, by decide +kernel⟩, List.mem_of_getElem? (i := 1228) (by decide +kernel), List.mem_of_getElem? (i := 1497) (by decide +kernel), List.mem_of_getElem? (i := 1498) (by decide +kernel)⟩
theorem lw_p114 : lw_okq (⟨"OldNeighboursModel", "keepsShape", "(I)I"⟩, 46) := ⟨⟨by decide +kernel, by decide +kernel⟩, List.mem_of_getElem? (i := 1228) (by decide +kernel), List.mem_of_getElem? (i := 1501) (by decide +kernel), List.mem_of_getElem? (i := 1502) (by decide +kernel)⟩
theorem lw_p115 : lw_okq (⟨"OldNeighboursModel", "keepsRule", "(I)I"⟩, 46) := ⟨⟨by decide +kernel, by decide +kernel⟩, List.mem_of_getElem? (i := 1228) (by decide +kernel), List.mem_of_getElem? (i := 1505) (by decide +kernel), List.mem_of_getElem? (i := 1506) (by decide +kernel)⟩
theorem lw_p116 : lw_okq (⟨"OldNeighboursModel", "shapeTouch", "(III)Z"⟩, 46) := ⟨⟨by decide +kernel, by decide +kernel⟩, List.mem_of_getElem? (i := 1228) (by decide +kernel), List.mem_of_getElem? (i := 1520) (by decide +kernel), List.mem_of_getElem? (i := 1521) (by decide +kernel)⟩
theorem lw_p117 : lw_okq (⟨"OldNeighboursModel", "shapes", "(II)V"⟩, 46) := ⟨⟨by decide +kernel, by decide +kernel⟩, List.mem_of_getElem? (i := 1228) (by decide +kernel), List.mem_of_getElem? (i := 1538) (by decide +kernel), List.mem_of_getElem? (i := 1539) (by decide +kernel)⟩
theorem lw_p118 : lw_okq (⟨"OldNeighboursModel", "isCellOf", "(II)Z"⟩, 46) := ⟨⟨by decide +kernel, by decide +kernel⟩, List.mem_of_getElem? (i := 1228) (by decide +kernel), List.mem_of_getElem? (i := 1546) (by decide +kernel), List.mem_of_getElem? (i := 1547) (by decide +kernel)⟩
theorem lw_p119 : lw_okq (⟨"OldNeighboursModel", "placeOf", "(II)I"⟩, 46) := ⟨⟨by decide +kernel, by decide +kernel⟩, List.mem_of_getElem? (i := 1228) (by decide +kernel), List.mem_of_getElem? (i := 1553) (by decide +kernel), List.mem_of_getElem? (i := 1554) (by decide +kernel)⟩
theorem lw_p120 : lw_okq (⟨"OldNeighboursModel", "brick", "(II)I"⟩, 46) := ⟨⟨by decide +kernel, by decide +kernel⟩, List.mem_of_getElem? (i := 1228) (by decide +kernel), List.mem_of_getElem? (i := 1557) (by decide +kernel), List.mem_of_getElem? (i := 1558) (by decide +kernel)⟩
theorem lw_p121 : lw_okq (⟨"OldNeighboursModel", "lays", "(I[I)I"⟩, 46) := ⟨⟨by decide +kernel, by decide +kernel⟩, List.mem_of_getElem? (i := 1228) (by decide +kernel), List.mem_of_getElem? (i := 1573) (by decide +kernel), List.mem_of_getElem? (i := 1574) (by decide +kernel)⟩
theorem lw_p122 : lw_okq (⟨"OldNeighboursModel", "wallTouch", "(III)Z"⟩, 46) := ⟨⟨by decide +kernel, by decide +kernel⟩, List.mem_of_getElem? (i := 1228) (by decide +kernel), List.mem_of_getElem? (i := 1577) (by decide +kernel), List.mem_of_getElem? (i := 1578) (by decide +kernel)⟩
theorem lw_p123 : lw_okq (⟨"OldNeighboursModel", "compares", "(II)V"⟩, 46) := ⟨⟨by decide +kernel, by decide +kernel⟩, List.mem_of_getElem? (i := 1228) (by decide +kernel), List.mem_of_getElem? (i := 1585) (by decide +kernel), List.mem_of_getElem? (i := 1586) (by decide +kernel)⟩
theorem lw_p124 : lw_okq (⟨"OldNeighboursModel", "badOnes", "()I"⟩, 46) := ⟨⟨by decide +kernel, by decide +kernel⟩, List.mem_of_getElem? (i := 1228) (by decide +kernel), List.mem_of_getElem? (i := 1589) (by decide +kernel), List.mem_of_getElem? (i := 1590) (by decide +kernel)⟩
theorem lw_p125 : lw_okq (⟨"OldNeighboursModel", "hasOld", "(I)Z"⟩, 46) := ⟨⟨by decide +kernel, by decide +kernel⟩, List.mem_of_getElem? (i := 1228) (by decide +kernel), List.mem_of_getElem? (i := 1593) (by decide +kernel), List.mem_of_getElem? (i := 1594) (by decide +kernel)⟩
theorem lw_p126 : lw_okq (⟨"OldNeighboursModel", "marks", "(I)I"⟩, 46) := ⟨⟨by decide +kernel, by decide +kernel⟩, List.mem_of_getElem? (i := 1228) (by decide +kernel), List.mem_of_getElem? (i := 1597) (by decide +kernel), List.mem_of_getElem? (i := 1598) (by decide +kernel)⟩
theorem lw_p127 : lw_okq (⟨"OldNeighboursModel", "keptOnes", "()I"⟩, 46) := ⟨⟨by decide +kernel, by decide +kernel⟩, List.mem_of_getElem? (i := 1228) (by decide +kernel), List.mem_of_getElem? (i := 1604) (by decide +kernel), List.mem_of_getElem? (i := 1605) (by decide +kernel)⟩
def lw_privs_8 : List (MethodName × Nat) := [(⟨"OldNeighboursModel", "product", "()Z"⟩, 46), (⟨"OldNeighboursModel", "unit", "()Z"⟩, 46), (⟨"OldNeighboursModel", "keepsShape", "(I)I"⟩, 46), (⟨"OldNeighboursModel", "keepsRule", "(I)I"⟩, 46), (⟨"OldNeighboursModel", "shapeTouch", "(III)Z"⟩, 46), (⟨"OldNeighboursModel", "shapes", "(II)V"⟩, 46), (⟨"OldNeighboursModel", "isCellOf", "(II)Z"⟩, 46), (⟨"OldNeighboursModel", "placeOf", "(II)I"⟩, 46), (⟨"OldNeighboursModel", "brick", "(II)I"⟩, 46), (⟨"OldNeighboursModel", "lays", "(I[I)I"⟩, 46), (⟨"OldNeighboursModel", "wallTouch", "(III)Z"⟩, 46), (⟨"OldNeighboursModel", "compares", "(II)V"⟩, 46), (⟨"OldNeighboursModel", "badOnes", "()I"⟩, 46), (⟨"OldNeighboursModel", "hasOld", "(I)Z"⟩, 46), (⟨"OldNeighboursModel", "marks", "(I)I"⟩, 46), (⟨"OldNeighboursModel", "keptOnes", "()I"⟩, 46)]
theorem lw_r8 : ∀ q ∈ lw_privs_8, lw_okq q := List.forall_mem_cons.mpr ⟨lw_p112, List.forall_mem_cons.mpr ⟨lw_p113, List.forall_mem_cons.mpr ⟨lw_p114, List.forall_mem_cons.mpr ⟨lw_p115, List.forall_mem_cons.mpr ⟨lw_p116, List.forall_mem_cons.mpr ⟨lw_p117, List.forall_mem_cons.mpr ⟨lw_p118, List.forall_mem_cons.mpr ⟨lw_p119, List.forall_mem_cons.mpr ⟨lw_p120, List.forall_mem_cons.mpr ⟨lw_p121, List.forall_mem_cons.mpr ⟨lw_p122, List.forall_mem_cons.mpr ⟨lw_p123, List.forall_mem_cons.mpr ⟨lw_p124, List.forall_mem_cons.mpr ⟨lw_p125, List.forall_mem_cons.mpr ⟨lw_p126, List.forall_mem_cons.mpr ⟨lw_p127, fun _ h => absurd h List.not_mem_nil⟩⟩⟩⟩⟩⟩⟩⟩⟩⟩⟩⟩⟩⟩⟩⟩
theorem lw_p128 : lw_okq (⟨"OldNeighboursModel", "isGood", "(II)Z"⟩, 46) := ⟨⟨by decide +kernel, by decide +kernel⟩, List.mem_of_getElem? (i := 1228) (by decide +kernel), List.mem_of_getElem? (i := 1612) (by decide +kernel), List.mem_of_getElem? (i := 1613) (by decide +kernel)⟩
theorem lw_p129 : lw_okq (⟨"OldNeighboursModel", "gathers", "(I)I"⟩, 46) := ⟨⟨by decide +kernel, by decide +kernel⟩, List.mem_of_getElem? (i := 1228) (by decide +kernel), List.mem_of_getElem? (i := 1620) (by decide +kernel), List.mem_of_getElem? (i := 1621) (by decide +kernel)⟩
theorem lw_p130 : lw_okq (⟨"OldNeighboursModel", "puts", "(IIII)V"⟩, 46) := ⟨⟨by decide +kernel, by decide +kernel⟩, List.mem_of_getElem? (i := 1228) (by decide +kernel), List.mem_of_getElem? (i := 1624) (by decide +kernel), List.mem_of_getElem? (i := 1625) (by decide +kernel)⟩
theorem lw_p131 : lw_okq (⟨"OldNeighboursModel", "pairs", "(III)V"⟩, 46) := ⟨⟨by decide +kernel, by decide +kernel⟩, List.mem_of_getElem? (i := 1228) (by decide +kernel), List.mem_of_getElem? (i := 1628) (by decide +kernel), List.mem_of_getElem? (i := 1629) (by decide +kernel)⟩
theorem lw_p132 : lw_okq (⟨"OldNeighboursModel", "couples", "(IZI[I)V"⟩, 46) := ⟨⟨by decide +kernel, by decide +kernel⟩, List.mem_of_getElem? (i := 1228) (by decide +kernel), List.mem_of_getElem? (i := 1632) (by decide +kernel), List.mem_of_getElem? (i := 1633) (by decide +kernel)⟩
theorem lw_p133 : lw_okq (⟨"OldNeighboursModel", "empties", "()V"⟩, 46) := ⟨⟨by decide +kernel, by decide +kernel⟩, List.mem_of_getElem? (i := 1228) (by decide +kernel), List.mem_of_getElem? (i := 1636) (by decide +kernel), List.mem_of_getElem? (i := 1637) (by decide +kernel)⟩
theorem lw_p134 : lw_okq (⟨"OldNeighboursModel", "simply", "(IIII)V"⟩, 46) := ⟨⟨by decide +kernel, by decide +kernel⟩, List.mem_of_getElem? (i := 1228) (by decide +kernel), List.mem_of_getElem? (i := 1640) (by decide +kernel), List.mem_of_getElem? (i := 1641) (by decide +kernel)⟩
theorem lw_p135 : lw_okq (⟨"OldNeighboursModel", "snakeCell", "(II)I"⟩, 46) := ⟨⟨by decide +kernel, by decide +kernel⟩, List.mem_of_getElem? (i := 1228) (by decide +kernel), List.mem_of_getElem? (i := 1644) (by decide +kernel), List.mem_of_getElem? (i := 1645) (by decide +kernel)⟩
theorem lw_p136 : lw_okq (⟨"OldNeighboursModel", "draw", "(I)I"⟩, 46) := ⟨⟨by decide +kernel, by decide +kernel⟩, List.mem_of_getElem? (i := 1228) (by decide +kernel), List.mem_of_getElem? (i := 1648) (by decide +kernel), List.mem_of_getElem? (i := 1649) (by decide +kernel)⟩
theorem lw_p137 : lw_okq (⟨"OldNeighboursModel", "exchanges", "(II)V"⟩, 46) := ⟨⟨by decide +kernel, by decide +kernel⟩, List.mem_of_getElem? (i := 1228) (by decide +kernel), List.mem_of_getElem? (i := 1654) (by decide +kernel), List.mem_of_getElem? (i := 1655) (by decide +kernel)⟩
theorem lw_p138 : lw_okq (⟨"OldNeighboursModel", "betters", "(I)Z"⟩, 46) := ⟨⟨by decide +kernel, by decide +kernel⟩, List.mem_of_getElem? (i := 1228) (by decide +kernel), List.mem_of_getElem? (i := 1658) (by decide +kernel), List.mem_of_getElem? (i := 1659) (by decide +kernel)⟩
theorem lw_p139 : lw_okq (⟨"OldNeighboursModel", "reckons", "(I)V"⟩, 46) := ⟨⟨by decide +kernel, by decide +kernel⟩, List.mem_of_getElem? (i := 1228) (by decide +kernel), List.mem_of_getElem? (i := 1662) (by decide +kernel), List.mem_of_getElem? (i := 1663) (by decide +kernel)⟩
theorem lw_p140 : lw_okq (⟨"OldNeighboursModel", "laysTried", "(I[I)I"⟩, 46) := ⟨⟨by decide +kernel, by decide +kernel⟩, List.mem_of_getElem? (i := 1228) (by decide +kernel), List.mem_of_getElem? (i := 1666) (by decide +kernel), List.mem_of_getElem? (i := 1667) (by decide +kernel)⟩
theorem lw_p141 : lw_okq (⟨"OldNeighboursModel", "becomes", "(II)V"⟩, 46) := ⟨⟨by decide +kernel, by decide +kernel⟩, List.mem_of_getElem? (i := 1228) (by decide +kernel), List.mem_of_getElem? (i := 1670) (by decide +kernel), List.mem_of_getElem? (i := 1671) (by decide +kernel)⟩
theorem lw_p142 : lw_okq (⟨"OldNeighboursModel", "aYear", "(II)Z"⟩, 46) := ⟨⟨by decide +kernel, by decide +kernel⟩, List.mem_of_getElem? (i := 1228) (by decide +kernel), List.mem_of_getElem? (i := 1678) (by decide +kernel), List.mem_of_getElem? (i := 1679) (by decide +kernel)⟩
theorem lw_p143 : lw_okq (⟨"OldNeighboursModel", "lineFor", "(II)I"⟩, 46) := ⟨⟨by decide +kernel, by decide +kernel⟩, List.mem_of_getElem? (i := 1228) (by decide +kernel), List.mem_of_getElem? (i := 1682) (by decide +kernel), List.mem_of_getElem? (i := 1683) (by decide +kernel)⟩
def lw_privs_9 : List (MethodName × Nat) := [(⟨"OldNeighboursModel", "isGood", "(II)Z"⟩, 46), (⟨"OldNeighboursModel", "gathers", "(I)I"⟩, 46), (⟨"OldNeighboursModel", "puts", "(IIII)V"⟩, 46), (⟨"OldNeighboursModel", "pairs", "(III)V"⟩, 46), (⟨"OldNeighboursModel", "couples", "(IZI[I)V"⟩, 46), (⟨"OldNeighboursModel", "empties", "()V"⟩, 46), (⟨"OldNeighboursModel", "simply", "(IIII)V"⟩, 46), (⟨"OldNeighboursModel", "snakeCell", "(II)I"⟩, 46), (⟨"OldNeighboursModel", "draw", "(I)I"⟩, 46), (⟨"OldNeighboursModel", "exchanges", "(II)V"⟩, 46), (⟨"OldNeighboursModel", "betters", "(I)Z"⟩, 46), (⟨"OldNeighboursModel", "reckons", "(I)V"⟩, 46), (⟨"OldNeighboursModel", "laysTried", "(I[I)I"⟩, 46), (⟨"OldNeighboursModel", "becomes", "(II)V"⟩, 46), (⟨"OldNeighboursModel", "aYear", "(II)Z"⟩, 46), (⟨"OldNeighboursModel", "lineFor", "(II)I"⟩, 46)]
theorem lw_r9 : ∀ q ∈ lw_privs_9, lw_okq q := List.forall_mem_cons.mpr ⟨lw_p128, List.forall_mem_cons.mpr ⟨lw_p129, List.forall_mem_cons.mpr ⟨lw_p130, List.forall_mem_cons.mpr ⟨lw_p131, List.forall_mem_cons.mpr ⟨lw_p132, List.forall_mem_cons.mpr ⟨lw_p133, List.forall_mem_cons.mpr ⟨lw_p134, List.forall_mem_cons.mpr ⟨lw_p135, List.forall_mem_cons.mpr ⟨lw_p136, List.forall_mem_cons.mpr ⟨lw_p137, List.forall_mem_cons.mpr ⟨lw_p138, List.forall_mem_cons.mpr ⟨lw_p139, List.forall_mem_cons.mpr ⟨lw_p140, List.forall_mem_cons.mpr ⟨lw_p141, List.forall_mem_cons.mpr ⟨lw_p142, List.forall_mem_cons.mpr ⟨lw_p143, fun _ h => absurd h List.not_mem_nil⟩⟩⟩⟩⟩⟩⟩⟩⟩⟩⟩⟩⟩⟩⟩⟩
theorem lw_p144 : lw_okq (⟨"OldNeighboursModel", "metOnes", "()I"⟩, 46) := ⟨⟨by decide +kernel, by decide +kernel⟩, List.mem_of_getElem? (i := 1228) (by decide +kernel), List.mem_of_getElem? (i := 1686) (by decide +kernel), List.mem_of_getElem? (i := 1687) (by decide +kernel)⟩
theorem lw_p145 : lw_okq (⟨"OldNeighboursModel", "comesTo", "(III)I"⟩, 46) := ⟨⟨by decide +kernel, by decide +kernel⟩, List.mem_of_getElem? (i := 1228) (by decide +kernel), List.mem_of_getElem? (i := 1690) (by decide +kernel), List.mem_of_getElem? (i := 1691) (by decide +kernel)⟩
theorem lw_p146 : lw_okq (⟨"OldNeighboursModel", "leftOf", "(II)I"⟩, 46) := ⟨⟨by decide +kernel, by decide +kernel⟩, List.mem_of_getElem? (i := 1228) (by decide +kernel), List.mem_of_getElem? (i := 1697) (by decide +kernel), List.mem_of_getElem? (i := 1698) (by decide +kernel)⟩
theorem lw_p147 : lw_okq (⟨"OldNeighboursModel", "together", "(II)I"⟩, 46) := ⟨⟨by decide +kernel, by decide +kernel⟩, List.mem_of_getElem? (i := 1228) (by decide +kernel), List.mem_of_getElem? (i := 1705) (by decide +kernel), List.mem_of_getElem? (i := 1706) (by decide +kernel)⟩
theorem lw_p148 : lw_okq (⟨"OldNeighboursModel", "never", "()I"⟩, 46) := ⟨⟨by decide +kernel, by decide +kernel⟩, List.mem_of_getElem? (i := 1228) (by decide +kernel), List.mem_of_getElem? (i := 1713) (by decide +kernel), List.mem_of_getElem? (i := 1714) (by decide +kernel)⟩
theorem lw_p149 : lw_okq (⟨"OldNeighboursModel", "always", "()I"⟩, 46) := ⟨⟨by decide +kernel, by decide +kernel⟩, List.mem_of_getElem? (i := 1228) (by decide +kernel), List.mem_of_getElem? (i := 1717) (by decide +kernel), List.mem_of_getElem? (i := 1718) (by decide +kernel)⟩
theorem lw_p150 : lw_okq (⟨"OldNeighboursModel", "soonest", "()I"⟩, 46) := ⟨⟨by decide +kernel, by decide +kernel⟩, List.mem_of_getElem? (i := 1228) (by decide +kernel), List.mem_of_getElem? (i := 1721) (by decide +kernel), List.mem_of_getElem? (i := 1722) (by decide +kernel)⟩
theorem lw_p151 : lw_okq (⟨"OldNeighboursModel", "mostCouples", "(I)I"⟩, 46) := ⟨⟨by decide +kernel, by decide +kernel⟩, List.mem_of_getElem? (i := 1228) (by decide +kernel), List.mem_of_getElem? (i := 1733) (by decide +kernel), List.mem_of_getElem? (i := 1734) (by decide +kernel)⟩
theorem lw_p152 : lw_okq (⟨"OldNeighboursModel", "findsMate", "(II)Z"⟩, 46) := ⟨⟨by decide +kernel, by decide +kernel⟩, List.mem_of_getElem? (i := 1228) (by decide +kernel), List.mem_of_getElem? (i := 1737) (by decide +kernel), List.mem_of_getElem? (i := 1738) (by decide +kernel)⟩
theorem lw_p153 : lw_okq (⟨"OldNeighboursModel", "parts", "(III)Z"⟩, 46) := ⟨⟨by decide +kernel, by decide +kernel⟩, List.mem_of_getElem? (i := 1228) (by decide +kernel), List.mem_of_getElem? (i := 1741) (by decide +kernel), List.mem_of_getElem? (i := 1742) (by decide +kernel)⟩
theorem lw_p154 : lw_okq (⟨"OldNeighboursModel", "cellAt", "(III)I"⟩, 46) := ⟨⟨by decide +kernel, by decide +kernel⟩, List.mem_of_getElem? (i := 1228) (by decide +kernel), List.mem_of_getElem? (i := 1745) (by decide +kernel), List.mem_of_getElem? (i := 1746) (by decide +kernel)⟩
theorem lw_p155 : lw_okq (⟨"OldNeighboursModel", "layings0", "(III)V"⟩, 46) := ⟨⟨by decide +kernel, by decide +kernel⟩, List.mem_of_getElem? (i := 1228) (by decide +kernel), List.mem_of_getElem? (i := 1753) (by decide +kernel), List.mem_of_getElem? (i := 1754) (by decide +kernel)⟩
theorem lw_p156 : lw_okq (⟨"OldNeighboursModel", "nextCell", "(IIZ)I"⟩, 46) := ⟨⟨by decide +kernel, by decide +kernel⟩, List.mem_of_getElem? (i := 1228) (by decide +kernel), List.mem_of_getElem? (i := 1761) (by decide +kernel), List.mem_of_getElem? (i := 1762) (by decide +kernel)⟩
theorem lw_p157 : lw_okq (⟨"OldNeighboursModel", "canRest", "(II)Z"⟩, 46) := ⟨⟨by decide +kernel, by decide +kernel⟩, List.mem_of_getElem? (i := 1228) (by decide +kernel), List.mem_of_getElem? (i := 1765) (by decide +kernel), List.mem_of_getElem? (i := 1766) (by decide +kernel)⟩
theorem lw_p158 : lw_okq (⟨"OldNeighboursModel", "restsOn", "(II)I"⟩, 46) := ⟨⟨by decide +kernel, by decide +kernel⟩, List.mem_of_getElem? (i := 1228) (by decide +kernel), List.mem_of_getElem? (i := 1769) (by decide +kernel), List.mem_of_getElem? (i := 1770) (by decide +kernel)⟩
theorem lw_p159 : lw_okq (⟨"OldNeighboursModel", "olderOf", "(II)I"⟩, 46) := ⟨⟨by decide +kernel, by decide +kernel⟩, List.mem_of_getElem? (i := 1228) (by decide +kernel), List.mem_of_getElem? (i := 1789) (by decide +kernel), List.mem_of_getElem? (i := 1790) (by decide +kernel)⟩
def lw_privs_10 : List (MethodName × Nat) := [(⟨"OldNeighboursModel", "metOnes", "()I"⟩, 46), (⟨"OldNeighboursModel", "comesTo", "(III)I"⟩, 46), (⟨"OldNeighboursModel", "leftOf", "(II)I"⟩, 46), (⟨"OldNeighboursModel", "together", "(II)I"⟩, 46), (⟨"OldNeighboursModel", "never", "()I"⟩, 46), (⟨"OldNeighboursModel", "always", "()I"⟩, 46), (⟨"OldNeighboursModel", "soonest", "()I"⟩, 46), (⟨"OldNeighboursModel", "mostCouples", "(I)I"⟩, 46), (⟨"OldNeighboursModel", "findsMate", "(II)Z"⟩, 46), (⟨"OldNeighboursModel", "parts", "(III)Z"⟩, 46), (⟨"OldNeighboursModel", "cellAt", "(III)I"⟩, 46), (⟨"OldNeighboursModel", "layings0", "(III)V"⟩, 46), (⟨"OldNeighboursModel", "nextCell", "(IIZ)I"⟩, 46), (⟨"OldNeighboursModel", "canRest", "(II)Z"⟩, 46), (⟨"OldNeighboursModel", "restsOn", "(II)I"⟩, 46), (⟨"OldNeighboursModel", "olderOf", "(II)I"⟩, 46)]
theorem lw_r10 : ∀ q ∈ lw_privs_10, lw_okq q := List.forall_mem_cons.mpr ⟨lw_p144, List.forall_mem_cons.mpr ⟨lw_p145, List.forall_mem_cons.mpr ⟨lw_p146, List.forall_mem_cons.mpr ⟨lw_p147, List.forall_mem_cons.mpr ⟨lw_p148, List.forall_mem_cons.mpr ⟨lw_p149, List.forall_mem_cons.mpr ⟨lw_p150, List.forall_mem_cons.mpr ⟨lw_p151, List.forall_mem_cons.mpr ⟨lw_p152, List.forall_mem_cons.mpr ⟨lw_p153, List.forall_mem_cons.mpr ⟨lw_p154, List.forall_mem_cons.mpr ⟨lw_p155, List.forall_mem_cons.mpr ⟨lw_p156, List.forall_mem_cons.mpr ⟨lw_p157, List.forall_mem_cons.mpr ⟨lw_p158, List.forall_mem_cons.mpr ⟨lw_p159, fun _ h => absurd h List.not_mem_nil⟩⟩⟩⟩⟩⟩⟩⟩⟩⟩⟩⟩⟩⟩⟩⟩
def lw_privs : List (MethodName × Nat) := lw_privs_1 ++ (lw_privs_2 ++ (lw_privs_3 ++ (lw_privs_4 ++ (lw_privs_5 ++ (lw_privs_6 ++ (lw_privs_7 ++ (lw_privs_8 ++ (lw_privs_9 ++ (lw_privs_10)))))))))
def lw_tbl : List Cond := k2_sels lw_privs ++ tables_1
theorem lw_privs_ok : ∀ q ∈ lw_privs, lw_okq q := by
  show ∀ q ∈ lw_privs_1 ++ (lw_privs_2 ++ (lw_privs_3 ++ (lw_privs_4 ++ (lw_privs_5 ++ (lw_privs_6 ++ (lw_privs_7 ++ (lw_privs_8 ++ (lw_privs_9 ++ (lw_privs_10))))))))), lw_okq q
  exact List.forall_mem_append.mpr ⟨lw_r1, List.forall_mem_append.mpr ⟨lw_r2, List.forall_mem_append.mpr ⟨lw_r3, List.forall_mem_append.mpr ⟨lw_r4, List.forall_mem_append.mpr ⟨lw_r5, List.forall_mem_append.mpr ⟨lw_r6, List.forall_mem_append.mpr ⟨lw_r7, List.forall_mem_append.mpr ⟨lw_r8, List.forall_mem_append.mpr ⟨lw_r9, lw_r10⟩⟩⟩⟩⟩⟩⟩⟩⟩
-- ===== end of PART A; then your names; then what follows =====
/-! ===== BEGIN printed: names, fields, word lists, decode rows ===== -/
def RX0 : String := "OldNeighbours$Board"
def TX0 : u_T := fun k => match k with
  | _ => ("", "", "", false)
def tyX0 : Nat → FieldType := fun k => match k with
  | _ => .int
abbrev wsX00 : List Cond := u_ws RX0 TX0 0
theorem nmX0 : ∀ a, a < 0 → ∀ b, b < 0 → a ≠ b → (TX0 a).2.1 ≠ (TX0 b).2.1 := by decide +kernel
theorem tyX0_ok : ∀ k, k < 0 → parseFieldDescriptor (TX0 k).2.2.1 = some (tyX0 k) := by decide +kernel
abbrev cX0_xOf : ByteArray := prog_2_method_2_code
def yX0_xOf : MethodName := ⟨RX0, "xOf", "(I)I"⟩
abbrev cX0_yOf : ByteArray := prog_2_method_3_code
def yX0_yOf : MethodName := ⟨RX0, "yOf", "(I)I"⟩
abbrev cX0_has : ByteArray := prog_2_method_4_code
def yX0_has : MethodName := ⟨RX0, "has", "(JI)Z"⟩
abbrev cX0_numberOf : ByteArray := prog_2_method_5_code
def yX0_numberOf : MethodName := ⟨RX0, "numberOf", "(JI)I"⟩
abbrev cX0_placeOf : ByteArray := prog_2_method_6_code
def yX0_placeOf : MethodName := ⟨RX0, "placeOf", "(JI)I"⟩
abbrev cX0_rightOf : ByteArray := prog_2_method_7_code
def yX0_rightOf : MethodName := ⟨RX0, "rightOf", "(J)J"⟩
abbrev cX0_around : ByteArray := prog_2_method_8_code
def yX0_around : MethodName := ⟨RX0, "around", "(J)J"⟩
abbrev cX0_partsOf : ByteArray := prog_2_method_9_code
def yX0_partsOf : MethodName := ⟨RX0, "partsOf", "(J)I"⟩
abbrev cX0_hangingTogether : ByteArray := prog_2_method_10_code
def yX0_hangingTogether : MethodName := ⟨RX0, "hangingTogether", "(JJ)J"⟩
abbrev cX0_lonelyOf : ByteArray := prog_2_method_11_code
def yX0_lonelyOf : MethodName := ⟨RX0, "lonelyOf", "(J)I"⟩
abbrev cX0_mostReplaced : ByteArray := prog_2_method_12_code
def yX0_mostReplaced : MethodName := ⟨RX0, "mostReplaced", "(JI)I"⟩
def RX1 : String := "OldNeighbours$Builder"
def TX1 : u_T := fun k => match k with
  | 0 => ("OldNeighbours$Builder", "old", "LOldNeighbours$Wall;", true)
  | 1 => ("OldNeighbours$Builder", "fresh", "LOldNeighbours$Wall;", true)
  | 2 => ("OldNeighbours$Builder", "near", "LOldNeighbours$Nearness;", true)
  | 3 => ("OldNeighbours$Builder", "row", "[I", true)
  | 4 => ("OldNeighbours$Builder", "bricks", "I", false)
  | 5 => ("OldNeighbours$Builder", "lesser", "[I", true)
  | 6 => ("OldNeighbours$Builder", "greater", "[I", true)
  | 7 => ("OldNeighbours$Builder", "oldLesser", "[I", true)
  | 8 => ("OldNeighbours$Builder", "oldGreater", "[I", true)
  | _ => ("OldNeighbours$Builder", "weights", "[I", true)
def tyX1 : Nat → FieldType := fun k => match k with
  | 0 => .object "OldNeighbours$Wall"
  | 1 => .object "OldNeighbours$Wall"
  | 2 => .object "OldNeighbours$Nearness"
  | 3 => .array .int
  | 4 => .int
  | 5 => .array .int
  | 6 => .array .int
  | 7 => .array .int
  | 8 => .array .int
  | _ => .array .int
abbrev wsX10 : List Cond := u_ws RX1 TX1 10
theorem nmX1 : ∀ a, a < 10 → ∀ b, b < 10 → a ≠ b → (TX1 a).2.1 ≠ (TX1 b).2.1 := by decide +kernel
theorem tyX1_ok : ∀ k, k < 10 → parseFieldDescriptor (TX1 k).2.2.1 = some (tyX1 k) := by decide +kernel
abbrev cX1_init : ByteArray := prog_3_method_1_code
def yX1_init : MethodName := ⟨RX1, "<init>", "()V"⟩
abbrev cX1_putUp : ByteArray := prog_3_method_2_code
def yX1_putUp : MethodName := ⟨RX1, "putUp", "(LOldNeighbours$World;LOldNeighbours$Wall;JII)I"⟩
abbrev cX1_gather : ByteArray := prog_3_method_3_code
def yX1_gather : MethodName := ⟨RX1, "gather", "()V"⟩
abbrev cX1_layInRow : ByteArray := prog_3_method_4_code
def yX1_layInRow : MethodName := ⟨RX1, "layInRow", "(II)V"⟩
abbrev cX1_targetOf : ByteArray := prog_3_method_5_code
def yX1_targetOf : MethodName := ⟨RX1, "targetOf", "(III)I"⟩
abbrev cX1_snakeCell : ByteArray := prog_3_method_6_code
def yX1_snakeCell : MethodName := ⟨RX1, "snakeCell", "(I)I"⟩
abbrev cX1_layPairs : ByteArray := prog_3_method_7_code
def yX1_layPairs : MethodName := ⟨RX1, "layPairs", "()V"⟩
abbrev cX1_couple : ByteArray := prog_3_method_8_code
def yX1_couple : MethodName := ⟨RX1, "couple", "(LOldNeighbours$Wall;J[I[I)I"⟩
abbrev cX1_freeOf : ByteArray := prog_3_method_9_code
def yX1_freeOf : MethodName := ⟨RX1, "freeOf", "(LOldNeighbours$Wall;JII)I"⟩
abbrev cX1_mend : ByteArray := prog_3_method_10_code
def yX1_mend : MethodName := ⟨RX1, "mend", "(LOldNeighbours$World;)V"⟩
abbrev cX1_exchangeFirst : ByteArray := prog_3_method_11_code
def yX1_exchangeFirst : MethodName := ⟨RX1, "exchangeFirst", "()Z"⟩
abbrev cX1_isBetterExchanged : ByteArray := prog_3_method_12_code
def yX1_isBetterExchanged : MethodName := ⟨RX1, "isBetterExchanged", "(III)Z"⟩
abbrev cX1_mix : ByteArray := prog_3_method_13_code
def yX1_mix : MethodName := ⟨RX1, "mix", "(LOldNeighbours$World;)V"⟩
def RX2 : String := "OldNeighbours$History"
def TX2 : u_T := fun k => match k with
  | 0 => ("OldNeighbours$History", "years", "I", false)
  | 1 => ("OldNeighbours$History", "bad", "[I", true)
  | 2 => ("OldNeighbours$History", "kept", "[I", true)
  | 3 => ("OldNeighbours$History", "good", "[I", true)
  | 4 => ("OldNeighbours$History", "besides", "[I", true)
  | _ => ("OldNeighbours$History", "lefts", "[I", true)
def tyX2 : Nat → FieldType := fun k => match k with
  | 0 => .int
  | 1 => .array .int
  | 2 => .array .int
  | 3 => .array .int
  | 4 => .array .int
  | _ => .array .int
abbrev wsX20 : List Cond := u_ws RX2 TX2 6
theorem nmX2 : ∀ a, a < 6 → ∀ b, b < 6 → a ≠ b → (TX2 a).2.1 ≠ (TX2 b).2.1 := by decide +kernel
theorem tyX2_ok : ∀ k, k < 6 → parseFieldDescriptor (TX2 k).2.2.1 = some (tyX2 k) := by decide +kernel
abbrev cX2_init : ByteArray := prog_4_method_1_code
def yX2_init : MethodName := ⟨RX2, "<init>", "()V"⟩
abbrev cX2_copy : ByteArray := prog_4_method_2_code
def yX2_copy : MethodName := ⟨RX2, "copy", "(LOldNeighbours$History;)V"⟩
abbrev cX2_keepYear : ByteArray := prog_4_method_3_code
def yX2_keepYear : MethodName := ⟨RX2, "keepYear", "(LOldNeighbours$Wall;III)V"⟩
abbrev cX2_couplesIn : ByteArray := prog_4_method_4_code
def yX2_couplesIn : MethodName := ⟨RX2, "couplesIn", "(I)I"⟩
abbrev cX2_always : ByteArray := prog_4_method_5_code
def yX2_always : MethodName := ⟨RX2, "always", "()I"⟩
abbrev cX2_apart : ByteArray := prog_4_method_6_code
def yX2_apart : MethodName := ⟨RX2, "apart", "(II)I"⟩
abbrev cX2_leftOf : ByteArray := prog_4_method_7_code
def yX2_leftOf : MethodName := ⟨RX2, "leftOf", "(II)I"⟩
abbrev cX2_yearsWithLeft : ByteArray := prog_4_method_8_code
def yX2_yearsWithLeft : MethodName := ⟨RX2, "yearsWithLeft", "(II)I"⟩
def RX3 : String := "OldNeighbours$Layings"
def TX3 : u_T := fun k => match k with
  | 0 => ("OldNeighbours$Layings", "fresh", "LOldNeighbours$Wall;", true)
  | 1 => ("OldNeighbours$Layings", "near", "LOldNeighbours$Nearness;", true)
  | 2 => ("OldNeighbours$Layings", "row", "[I", true)
  | 3 => ("OldNeighbours$Layings", "best", "[I", true)
  | 4 => ("OldNeighbours$Layings", "bricks", "I", false)
  | 5 => ("OldNeighbours$Layings", "bear", "I", false)
  | 6 => ("OldNeighbours$Layings", "fewestBad", "I", false)
  | 7 => ("OldNeighbours$Layings", "keptOfBest", "I", false)
  | 8 => ("OldNeighbours$Layings", "mostKept", "I", false)
  | _ => ("OldNeighbours$Layings", "good", "I", false)
def tyX3 : Nat → FieldType := fun k => match k with
  | 0 => .object "OldNeighbours$Wall"
  | 1 => .object "OldNeighbours$Nearness"
  | 2 => .array .int
  | 3 => .array .int
  | 4 => .int
  | 5 => .int
  | 6 => .int
  | 7 => .int
  | 8 => .int
  | _ => .int
abbrev wsX30 : List Cond := u_ws RX3 TX3 10
theorem nmX3 : ∀ a, a < 10 → ∀ b, b < 10 → a ≠ b → (TX3 a).2.1 ≠ (TX3 b).2.1 := by decide +kernel
theorem tyX3_ok : ∀ k, k < 10 → parseFieldDescriptor (TX3 k).2.2.1 = some (tyX3 k) := by decide +kernel
abbrev cX3_init : ByteArray := prog_5_method_1_code
def yX3_init : MethodName := ⟨RX3, "<init>", "()V"⟩
abbrev cX3_tryAll : ByteArray := prog_5_method_2_code
def yX3_tryAll : MethodName := ⟨RX3, "tryAll", "(LOldNeighbours$World;LOldNeighbours$Wall;J)V"⟩
abbrev cX3_layFrom : ByteArray := prog_5_method_3_code
def yX3_layFrom : MethodName := ⟨RX3, "layFrom", "(II)V"⟩
abbrev cX3_layEach : ByteArray := prog_5_method_4_code
def yX3_layEach : MethodName := ⟨RX3, "layEach", "(II)V"⟩
abbrev cX3_note : ByteArray := prog_5_method_5_code
def yX3_note : MethodName := ⟨RX3, "note", "()V"⟩
def RX4 : String := "OldNeighbours$Nearness"
def TX4 : u_T := fun k => match k with
  | 0 => ("OldNeighbours$Nearness", "oldBeside", "[I", true)
  | 1 => ("OldNeighbours$Nearness", "marked", "[I", true)
  | 2 => ("OldNeighbours$Nearness", "alike", "Z", false)
  | 3 => ("OldNeighbours$Nearness", "badSet", "I", false)
  | 4 => ("OldNeighbours$Nearness", "bad", "I", false)
  | _ => ("OldNeighbours$Nearness", "kept", "I", false)
def tyX4 : Nat → FieldType := fun k => match k with
  | 0 => .array .int
  | 1 => .array .int
  | 2 => .boolean
  | 3 => .int
  | 4 => .int
  | _ => .int
abbrev wsX40 : List Cond := u_ws RX4 TX4 6
theorem nmX4 : ∀ a, a < 6 → ∀ b, b < 6 → a ≠ b → (TX4 a).2.1 ≠ (TX4 b).2.1 := by decide +kernel
theorem tyX4_ok : ∀ k, k < 6 → parseFieldDescriptor (TX4 k).2.2.1 = some (tyX4 k) := by decide +kernel
abbrev cX4_init : ByteArray := prog_6_method_1_code
def yX4_init : MethodName := ⟨RX4, "<init>", "()V"⟩
abbrev cX4_learn : ByteArray := prog_6_method_2_code
def yX4_learn : MethodName := ⟨RX4, "learn", "(LOldNeighbours$Wall;LOldNeighbours$World;)V"⟩
abbrev cX4_weigh : ByteArray := prog_6_method_3_code
def yX4_weigh : MethodName := ⟨RX4, "weigh", "(LOldNeighbours$Wall;)V"⟩
abbrev cX4_weightOf : ByteArray := prog_6_method_4_code
def yX4_weightOf : MethodName := ⟨RX4, "weightOf", "(LOldNeighbours$Wall;I)I"⟩
abbrev cX4_isNear : ByteArray := prog_6_method_5_code
def yX4_isNear : MethodName := ⟨RX4, "isNear", "(II)Z"⟩
def RX5 : String := "OldNeighbours$Parting"
def TX5 : u_T := fun k => match k with
  | 0 => ("OldNeighbours$Parting", "rests", "[J", true)
  | _ => ("OldNeighbours$Parting", "answers", "[I", true)
def tyX5 : Nat → FieldType := fun k => match k with
  | 0 => .array .long
  | _ => .array .int
abbrev wsX50 : List Cond := u_ws RX5 TX5 2
theorem nmX5 : ∀ a, a < 2 → ∀ b, b < 2 → a ≠ b → (TX5 a).2.1 ≠ (TX5 b).2.1 := by decide +kernel
theorem tyX5_ok : ∀ k, k < 2 → parseFieldDescriptor (TX5 k).2.2.1 = some (tyX5 k) := by decide +kernel
abbrev cX5_init : ByteArray := prog_7_method_1_code
def yX5_init : MethodName := ⟨RX5, "<init>", "()V"⟩
abbrev cX5_couplesSet : ByteArray := prog_7_method_2_code
def yX5_couplesSet : MethodName := ⟨RX5, "couplesSet", "(J)I"⟩
abbrev cX5_mostCouples : ByteArray := prog_7_method_3_code
def yX5_mostCouples : MethodName := ⟨RX5, "mostCouples", "(J)I"⟩
abbrev cX5_splits : ByteArray := prog_7_method_4_code
def yX5_splits : MethodName := ⟨RX5, "splits", "(JI)I"⟩
abbrev cX5_splitsAlong : ByteArray := prog_7_method_5_code
def yX5_splitsAlong : MethodName := ⟨RX5, "splitsAlong", "(JJJJI)I"⟩
abbrev cX5_most : ByteArray := prog_7_method_6_code
def yX5_most : MethodName := ⟨RX5, "most", "(JI)I"⟩
abbrev cX5_mostWith : ByteArray := prog_7_method_7_code
def yX5_mostWith : MethodName := ⟨RX5, "mostWith", "(JJJI)I"⟩
abbrev cX5_keep : ByteArray := prog_7_method_8_code
def yX5_keep : MethodName := ⟨RX5, "keep", "(JI)V"⟩
abbrev cX5_slotOf : ByteArray := prog_7_method_9_code
def yX5_slotOf : MethodName := ⟨RX5, "slotOf", "(J)I"⟩
def RX6 : String := "OldNeighbours$Reader"
def TX6 : u_T := fun k => match k with
  | 0 => ("OldNeighbours$Reader", "tokens", "LOldNeighbours$Tokens;", true)
  | 1 => ("OldNeighbours$Reader", "fault", "I", false)
  | 2 => ("OldNeighbours$Reader", "faultPlace", "I", false)
  | 3 => ("OldNeighbours$Reader", "form", "J", false)
  | _ => ("OldNeighbours$Reader", "draft", "LOldNeighbours$Rule;", true)
def tyX6 : Nat → FieldType := fun k => match k with
  | 0 => .object "OldNeighbours$Tokens"
  | 1 => .int
  | 2 => .int
  | 3 => .long
  | _ => .object "OldNeighbours$Rule"
abbrev wsX60 : List Cond := u_ws RX6 TX6 5
theorem nmX6 : ∀ a, a < 5 → ∀ b, b < 5 → a ≠ b → (TX6 a).2.1 ≠ (TX6 b).2.1 := by decide +kernel
theorem tyX6_ok : ∀ k, k < 5 → parseFieldDescriptor (TX6 k).2.2.1 = some (tyX6 k) := by decide +kernel
abbrev cX6_init : ByteArray := prog_8_method_1_code
def yX6_init : MethodName := ⟨RX6, "<init>", "()V"⟩
abbrev cX6_forget : ByteArray := prog_8_method_2_code
def yX6_forget : MethodName := ⟨RX6, "forget", "()V"⟩
abbrev cX6_fail : ByteArray := prog_8_method_3_code
def yX6_fail : MethodName := ⟨RX6, "fail", "(II)Z"⟩
abbrev cX6_accept : ByteArray := prog_8_method_4_code
def yX6_accept : MethodName := ⟨RX6, "accept", "(I)Z"⟩
abbrev cX6_acceptNumber : ByteArray := prog_8_method_5_code
def yX6_acceptNumber : MethodName := ⟨RX6, "acceptNumber", "(II)I"⟩
abbrev cX6_readShape : ByteArray := prog_8_method_6_code
def yX6_readShape : MethodName := ⟨RX6, "readShape", "([II)Z"⟩
abbrev cX6_readShapeLine : ByteArray := prog_8_method_7_code
def yX6_readShapeLine : MethodName := ⟨RX6, "readShapeLine", "(I)Z"⟩
abbrev cX6_acceptHowMany : ByteArray := prog_8_method_8_code
def yX6_acceptHowMany : MethodName := ⟨RX6, "acceptHowMany", "(III)I"⟩
abbrev cX6_changeForm : ByteArray := prog_8_method_9_code
def yX6_changeForm : MethodName := ⟨RX6, "changeForm", "(III)V"⟩
abbrev cX6_readRule : ByteArray := prog_8_method_10_code
def yX6_readRule : MethodName := ⟨RX6, "readRule", "([II)Z"⟩
abbrev cX6_readRuleLine : ByteArray := prog_8_method_11_code
def yX6_readRuleLine : MethodName := ⟨RX6, "readRuleLine", "(I)Z"⟩
abbrev cX6_readAny : ByteArray := prog_8_method_12_code
def yX6_readAny : MethodName := ⟨RX6, "readAny", "(I)Z"⟩
abbrev cX6_readAll : ByteArray := prog_8_method_13_code
def yX6_readAll : MethodName := ⟨RX6, "readAll", "(I)Z"⟩
abbrev cX6_readCondition : ByteArray := prog_8_method_14_code
def yX6_readCondition : MethodName := ⟨RX6, "readCondition", "(I)Z"⟩
abbrev cX6_readOpened : ByteArray := prog_8_method_15_code
def yX6_readOpened : MethodName := ⟨RX6, "readOpened", "(II)Z"⟩
abbrev cX6_readSum : ByteArray := prog_8_method_16_code
def yX6_readSum : MethodName := ⟨RX6, "readSum", "()Z"⟩
abbrev cX6_readUnit : ByteArray := prog_8_method_17_code
def yX6_readUnit : MethodName := ⟨RX6, "readUnit", "(Z)Z"⟩
def RX7 : String := "OldNeighbours$Rule"
def TX7 : u_T := fun k => match k with
  | 0 => ("OldNeighbours$Rule", "lines", "I", false)
  | 1 => ("OldNeighbours$Rule", "ways", "[I", true)
  | 2 => ("OldNeighbours$Rule", "bys", "[I", true)
  | 3 => ("OldNeighbours$Rule", "starts", "[I", true)
  | 4 => ("OldNeighbours$Rule", "ends", "[I", true)
  | 5 => ("OldNeighbours$Rule", "length", "I", false)
  | 6 => ("OldNeighbours$Rule", "codes", "[I", true)
  | 7 => ("OldNeighbours$Rule", "values", "[I", true)
  | 8 => ("OldNeighbours$Rule", "stack", "[I", true)
  | _ => ("OldNeighbours$Rule", "top", "I", false)
def tyX7 : Nat → FieldType := fun k => match k with
  | 0 => .int
  | 1 => .array .int
  | 2 => .array .int
  | 3 => .array .int
  | 4 => .array .int
  | 5 => .int
  | 6 => .array .int
  | 7 => .array .int
  | 8 => .array .int
  | _ => .int
abbrev wsX70 : List Cond := u_ws RX7 TX7 10
theorem nmX7 : ∀ a, a < 10 → ∀ b, b < 10 → a ≠ b → (TX7 a).2.1 ≠ (TX7 b).2.1 := by decide +kernel
theorem tyX7_ok : ∀ k, k < 10 → parseFieldDescriptor (TX7 k).2.2.1 = some (tyX7 k) := by decide +kernel
abbrev cX7_init : ByteArray := prog_9_method_1_code
def yX7_init : MethodName := ⟨RX7, "<init>", "()V"⟩
abbrev cX7_copy : ByteArray := prog_9_method_2_code
def yX7_copy : MethodName := ⟨RX7, "copy", "(LOldNeighbours$Rule;)V"⟩
abbrev cX7_clear : ByteArray := prog_9_method_3_code
def yX7_clear : MethodName := ⟨RX7, "clear", "()V"⟩
abbrev cX7_open : ByteArray := prog_9_method_4_code
def yX7_open : MethodName := ⟨RX7, "open", "(II)V"⟩
abbrev cX7_close : ByteArray := prog_9_method_5_code
def yX7_close : MethodName := ⟨RX7, "close", "()V"⟩
abbrev cX7_write : ByteArray := prog_9_method_6_code
def yX7_write : MethodName := ⟨RX7, "write", "(I)V"⟩
abbrev cX7_wayOf : ByteArray := prog_9_method_7_code
def yX7_wayOf : MethodName := ⟨RX7, "wayOf", "(I)I"⟩
abbrev cX7_byOf : ByteArray := prog_9_method_8_code
def yX7_byOf : MethodName := ⟨RX7, "byOf", "(I)I"⟩
abbrev cX7_lineFor : ByteArray := prog_9_method_9_code
def yX7_lineFor : MethodName := ⟨RX7, "lineFor", "(IIIII)I"⟩
abbrev cX7_holds : ByteArray := prog_9_method_10_code
def yX7_holds : MethodName := ⟨RX7, "holds", "(II)Z"⟩
abbrev cX7_push : ByteArray := prog_9_method_11_code
def yX7_push : MethodName := ⟨RX7, "push", "(I)V"⟩
abbrev cX7_pop : ByteArray := prog_9_method_12_code
def yX7_pop : MethodName := ⟨RX7, "pop", "()I"⟩
abbrev cX7_joined : ByteArray := prog_9_method_13_code
def yX7_joined : MethodName := ⟨RX7, "joined", "(III)I"⟩
def RX8 : String := "OldNeighbours$Sequence"
def TX8 : u_T := fun k => match k with
  | 0 => ("OldNeighbours$Sequence", "bricks", "[I", true)
  | 1 => ("OldNeighbours$Sequence", "laid", "I", false)
  | 2 => ("OldNeighbours$Sequence", "starts", "I", false)
  | 3 => ("OldNeighbours$Sequence", "laidBricks", "I", false)
  | _ => ("OldNeighbours$Sequence", "laidCells", "I", false)
def tyX8 : Nat → FieldType := fun k => match k with
  | 0 => .array .int
  | 1 => .int
  | 2 => .int
  | 3 => .int
  | _ => .int
abbrev wsX80 : List Cond := u_ws RX8 TX8 5
theorem nmX8 : ∀ a, a < 5 → ∀ b, b < 5 → a ≠ b → (TX8 a).2.1 ≠ (TX8 b).2.1 := by decide +kernel
theorem tyX8_ok : ∀ k, k < 5 → parseFieldDescriptor (TX8 k).2.2.1 = some (tyX8 k) := by decide +kernel
abbrev cX8_init : ByteArray := prog_10_method_1_code
def yX8_init : MethodName := ⟨RX8, "<init>", "()V"⟩
abbrev cX8_build : ByteArray := prog_10_method_2_code
def yX8_build : MethodName := ⟨RX8, "build", "(LOldNeighbours$Wall;LOldNeighbours$Nearness;)V"⟩
abbrev cX8_nextOf : ByteArray := prog_10_method_3_code
def yX8_nextOf : MethodName := ⟨RX8, "nextOf", "(LOldNeighbours$Wall;LOldNeighbours$Nearness;Z)I"⟩
abbrev cX8_rests : ByteArray := prog_10_method_4_code
def yX8_rests : MethodName := ⟨RX8, "rests", "(LOldNeighbours$Wall;I)Z"⟩
abbrev cX8_add : ByteArray := prog_10_method_5_code
def yX8_add : MethodName := ⟨RX8, "add", "(II)V"⟩
def RX9 : String := "OldNeighbours$Tokens"
def TX9 : u_T := fun k => match k with
  | 0 => ("OldNeighbours$Tokens", "kinds", "[I", true)
  | 1 => ("OldNeighbours$Tokens", "places", "[I", true)
  | 2 => ("OldNeighbours$Tokens", "values", "[I", true)
  | 3 => ("OldNeighbours$Tokens", "count", "I", false)
  | 4 => ("OldNeighbours$Tokens", "at", "I", false)
  | 5 => ("OldNeighbours$Tokens", "kind", "I", false)
  | 6 => ("OldNeighbours$Tokens", "place", "I", false)
  | _ => ("OldNeighbours$Tokens", "value", "I", false)
def tyX9 : Nat → FieldType := fun k => match k with
  | 0 => .array .int
  | 1 => .array .int
  | 2 => .array .int
  | 3 => .int
  | 4 => .int
  | 5 => .int
  | 6 => .int
  | _ => .int
abbrev wsX90 : List Cond := u_ws RX9 TX9 8
theorem nmX9 : ∀ a, a < 8 → ∀ b, b < 8 → a ≠ b → (TX9 a).2.1 ≠ (TX9 b).2.1 := by decide +kernel
theorem tyX9_ok : ∀ k, k < 8 → parseFieldDescriptor (TX9 k).2.2.1 = some (tyX9 k) := by decide +kernel
abbrev cX9_init : ByteArray := prog_11_method_1_code
def yX9_init : MethodName := ⟨RX9, "<init>", "()V"⟩
abbrev cX9_cut : ByteArray := prog_11_method_2_code
def yX9_cut : MethodName := ⟨RX9, "cut", "([II)V"⟩
abbrev cX9_isLetter : ByteArray := prog_11_method_3_code
def yX9_isLetter : MethodName := ⟨RX9, "isLetter", "(I)Z"⟩
abbrev cX9_isDigit : ByteArray := prog_11_method_4_code
def yX9_isDigit : MethodName := ⟨RX9, "isDigit", "(I)Z"⟩
abbrev cX9_runFrom : ByteArray := prog_11_method_5_code
def yX9_runFrom : MethodName := ⟨RX9, "runFrom", "([III)I"⟩
abbrev cX9_wordOf : ByteArray := prog_11_method_6_code
def yX9_wordOf : MethodName := ⟨RX9, "wordOf", "([III)I"⟩
abbrev cX9_numberOf : ByteArray := prog_11_method_7_code
def yX9_numberOf : MethodName := ⟨RX9, "numberOf", "([III)I"⟩
abbrev cX9_add : ByteArray := prog_11_method_8_code
def yX9_add : MethodName := ⟨RX9, "add", "(III)V"⟩
abbrev cX9_next : ByteArray := prog_11_method_9_code
def yX9_next : MethodName := ⟨RX9, "next", "()V"⟩
def RX10 : String := "OldNeighbours$Wall"
def TX10 : u_T := fun k => match k with
  | 0 => ("OldNeighbours$Wall", "form", "J", false)
  | 1 => ("OldNeighbours$Wall", "cells", "I", false)
  | 2 => ("OldNeighbours$Wall", "bricks", "[I", true)
  | 3 => ("OldNeighbours$Wall", "places", "[I", true)
  | _ => ("OldNeighbours$Wall", "touching", "[I", true)
def tyX10 : Nat → FieldType := fun k => match k with
  | 0 => .long
  | 1 => .int
  | 2 => .array .int
  | 3 => .array .int
  | _ => .array .int
abbrev wsX100 : List Cond := u_ws RX10 TX10 5
theorem nmX10 : ∀ a, a < 5 → ∀ b, b < 5 → a ≠ b → (TX10 a).2.1 ≠ (TX10 b).2.1 := by decide +kernel
theorem tyX10_ok : ∀ k, k < 5 → parseFieldDescriptor (TX10 k).2.2.1 = some (tyX10 k) := by decide +kernel
abbrev cX10_init : ByteArray := prog_12_method_1_code
def yX10_init : MethodName := ⟨RX10, "<init>", "()V"⟩
abbrev cX10_raise : ByteArray := prog_12_method_2_code
def yX10_raise : MethodName := ⟨RX10, "raise", "(J)V"⟩
abbrev cX10_cellAt : ByteArray := prog_12_method_3_code
def yX10_cellAt : MethodName := ⟨RX10, "cellAt", "(I)I"⟩
abbrev cX10_copy : ByteArray := prog_12_method_4_code
def yX10_copy : MethodName := ⟨RX10, "copy", "(LOldNeighbours$Wall;)V"⟩
abbrev cX10_brickIn : ByteArray := prog_12_method_5_code
def yX10_brickIn : MethodName := ⟨RX10, "brickIn", "(I)I"⟩
abbrev cX10_cellBeside : ByteArray := prog_12_method_6_code
def yX10_cellBeside : MethodName := ⟨RX10, "cellBeside", "(II)I"⟩
abbrev cX10_besideOf : ByteArray := prog_12_method_7_code
def yX10_besideOf : MethodName := ⟨RX10, "besideOf", "(I)I"⟩
abbrev cX10_cellOf : ByteArray := prog_12_method_8_code
def yX10_cellOf : MethodName := ⟨RX10, "cellOf", "(I)I"⟩
abbrev cX10_bricksIn : ByteArray := prog_12_method_9_code
def yX10_bricksIn : MethodName := ⟨RX10, "bricksIn", "()I"⟩
abbrev cX10_touchingCouples : ByteArray := prog_12_method_10_code
def yX10_touchingCouples : MethodName := ⟨RX10, "touchingCouples", "()I"⟩
abbrev cX10_filledPlaces : ByteArray := prog_12_method_11_code
def yX10_filledPlaces : MethodName := ⟨RX10, "filledPlaces", "()J"⟩
abbrev cX10_exchange : ByteArray := prog_12_method_12_code
def yX10_exchange : MethodName := ⟨RX10, "exchange", "(II)V"⟩
abbrev cX10_withTouching : ByteArray := prog_12_method_13_code
def yX10_withTouching : MethodName := ⟨RX10, "withTouching", "(I)I"⟩
def RX11 : String := "OldNeighbours$World"
def TX11 : u_T := fun k => match k with
  | 0 => ("OldNeighbours$World", "draws", "I", false)
  | 1 => ("OldNeighbours$World", "alike", "I", false)
  | 2 => ("OldNeighbours$World", "bear", "I", false)
  | 3 => ("OldNeighbours$World", "year", "I", false)
  | 4 => ("OldNeighbours$World", "met", "I", false)
  | 5 => ("OldNeighbours$World", "marks", "[I", true)
  | 6 => ("OldNeighbours$World", "broken", "[I", true)
  | 7 => ("OldNeighbours$World", "forms", "[J", true)
  | 8 => ("OldNeighbours$World", "walls", "[LOldNeighbours$Wall;", true)
  | 9 => ("OldNeighbours$World", "rules", "[LOldNeighbours$Rule;", true)
  | 10 => ("OldNeighbours$World", "firsts", "[I", true)
  | _ => ("OldNeighbours$World", "history", "LOldNeighbours$History;", true)
def tyX11 : Nat → FieldType := fun k => match k with
  | 0 => .int
  | 1 => .int
  | 2 => .int
  | 3 => .int
  | 4 => .int
  | 5 => .array .int
  | 6 => .array .int
  | 7 => .array .long
  | 8 => .array (.object "OldNeighbours$Wall")
  | 9 => .array (.object "OldNeighbours$Rule")
  | 10 => .array .int
  | _ => .object "OldNeighbours$History"
abbrev wsX110 : List Cond := u_ws RX11 TX11 12
theorem nmX11 : ∀ a, a < 12 → ∀ b, b < 12 → a ≠ b → (TX11 a).2.1 ≠ (TX11 b).2.1 := by decide +kernel
theorem tyX11_ok : ∀ k, k < 12 → parseFieldDescriptor (TX11 k).2.2.1 = some (tyX11 k) := by decide +kernel
abbrev cX11_init : ByteArray := prog_13_method_1_code
def yX11_init : MethodName := ⟨RX11, "<init>", "()V"⟩
abbrev cX11_copy : ByteArray := prog_13_method_2_code
def yX11_copy : MethodName := ⟨RX11, "copy", "(LOldNeighbours$World;)V"⟩
abbrev cX11_draw : ByteArray := prog_13_method_3_code
def yX11_draw : MethodName := ⟨RX11, "draw", "(I)I"⟩
abbrev cX11_firstOf : ByteArray := prog_13_method_4_code
def yX11_firstOf : MethodName := ⟨RX11, "firstOf", "(II)I"⟩
abbrev cX11_meet : ByteArray := prog_13_method_5_code
def yX11_meet : MethodName := ⟨RX11, "meet", "(LOldNeighbours$Wall;)V"⟩
abbrev cX11_meetBoth : ByteArray := prog_13_method_6_code
def yX11_meetBoth : MethodName := ⟨RX11, "meetBoth", "(II)V"⟩
abbrev cX11_neverMet : ByteArray := prog_13_method_7_code
def yX11_neverMet : MethodName := ⟨RX11, "neverMet", "()I"⟩
def RX12 : String := "OldNeighbours"
def TX12 : u_T := fun k => match k with
  | 0 => ("OldNeighbours", "world", "LOldNeighbours$World;", true)
  | 1 => ("OldNeighbours", "picture", "LOldNeighbours$World;", true)
  | 2 => ("OldNeighbours", "pictured", "Z", false)
  | 3 => ("OldNeighbours", "tape", "[I", true)
  | 4 => ("OldNeighbours", "tapeLength", "I", false)
  | 5 => ("OldNeighbours", "reader", "LOldNeighbours$Reader;", true)
  | 6 => ("OldNeighbours", "nearness", "LOldNeighbours$Nearness;", true)
  | 7 => ("OldNeighbours", "builder", "LOldNeighbours$Builder;", true)
  | 8 => ("OldNeighbours", "parter", "LOldNeighbours$Parting;", true)
  | 9 => ("OldNeighbours", "trials", "LOldNeighbours$Layings;", true)
  | 10 => ("OldNeighbours", "sequence", "LOldNeighbours$Sequence;", true)
  | _ => ("OldNeighbours", "lessened", "LOldNeighbours$Wall;", true)
def tyX12 : Nat → FieldType := fun k => match k with
  | 0 => .object "OldNeighbours$World"
  | 1 => .object "OldNeighbours$World"
  | 2 => .boolean
  | 3 => .array .int
  | 4 => .int
  | 5 => .object "OldNeighbours$Reader"
  | 6 => .object "OldNeighbours$Nearness"
  | 7 => .object "OldNeighbours$Builder"
  | 8 => .object "OldNeighbours$Parting"
  | 9 => .object "OldNeighbours$Layings"
  | 10 => .object "OldNeighbours$Sequence"
  | _ => .object "OldNeighbours$Wall"
abbrev wsX120 : List Cond := u_ws RX12 TX12 12
theorem nmX12 : ∀ a, a < 12 → ∀ b, b < 12 → a ≠ b → (TX12 a).2.1 ≠ (TX12 b).2.1 := by decide +kernel
theorem tyX12_ok : ∀ k, k < 12 → parseFieldDescriptor (TX12 k).2.2.1 = some (tyX12 k) := by decide +kernel
abbrev cX12_init : ByteArray := prog_1_method_1_code
def yX12_init : MethodName := ⟨RX12, "<init>", "()V"⟩
abbrev cX12_state : ByteArray := prog_1_method_2_code
def yX12_state : MethodName := ⟨RX12, "state", "(I)I"⟩
abbrev cX12_feed : ByteArray := prog_1_method_3_code
def yX12_feed : MethodName := ⟨RX12, "feed", "(IIIII)I"⟩
abbrev cX12_feedNumber : ByteArray := prog_1_method_4_code
def yX12_feedNumber : MethodName := ⟨RX12, "feedNumber", "(I)V"⟩
abbrev cX12_end : ByteArray := prog_1_method_5_code
def yX12_end : MethodName := ⟨RX12, "end", "(I)Z"⟩
abbrev cX12_text : ByteArray := prog_1_method_6_code
def yX12_text : MethodName := ⟨RX12, "text", "(I)I"⟩
abbrev cX12_fault : ByteArray := prog_1_method_7_code
def yX12_fault : MethodName := ⟨RX12, "fault", "(I)I"⟩
abbrev cX12_cell : ByteArray := prog_1_method_8_code
def yX12_cell : MethodName := ⟨RX12, "cell", "(III)I"⟩
abbrev cX12_set : ByteArray := prog_1_method_9_code
def yX12_set : MethodName := ⟨RX12, "set", "(II)Z"⟩
abbrev cX12_wall : ByteArray := prog_1_method_10_code
def yX12_wall : MethodName := ⟨RX12, "wall", "(II)Z"⟩
abbrev cX12_lay : ByteArray := prog_1_method_11_code
def yX12_lay : MethodName := ⟨RX12, "lay", "(III)Z"⟩
abbrev cX12_fill : ByteArray := prog_1_method_12_code
def yX12_fill : MethodName := ⟨RX12, "fill", "(II)Z"⟩
abbrev cX12_at : ByteArray := prog_1_method_13_code
def yX12_at : MethodName := ⟨RX12, "at", "(II)I"⟩
abbrev cX12_beside : ByteArray := prog_1_method_14_code
def yX12_beside : MethodName := ⟨RX12, "beside", "(II)I"⟩
abbrev cX12_good : ByteArray := prog_1_method_15_code
def yX12_good : MethodName := ⟨RX12, "good", "(III)I"⟩
abbrev cX12_compare : ByteArray := prog_1_method_16_code
def yX12_compare : MethodName := ⟨RX12, "compare", "(LOldNeighbours$Wall;LOldNeighbours$Wall;)V"⟩
abbrev cX12_isGood : ByteArray := prog_1_method_17_code
def yX12_isGood : MethodName := ⟨RX12, "isGood", "(LOldNeighbours$Wall;LOldNeighbours$Wall;)Z"⟩
abbrev cX12_isBorne : ByteArray := prog_1_method_18_code
def yX12_isBorne : MethodName := ⟨RX12, "isBorne", "()Z"⟩
abbrev cX12_judge : ByteArray := prog_1_method_19_code
def yX12_judge : MethodName := ⟨RX12, "judge", "(II)I"⟩
abbrev cX12_again : ByteArray := prog_1_method_20_code
def yX12_again : MethodName := ⟨RX12, "again", "(IIIII)I"⟩
abbrev cX12_years : ByteArray := prog_1_method_21_code
def yX12_years : MethodName := ⟨RX12, "years", "(III)I"⟩
abbrev cX12_passYear : ByteArray := prog_1_method_22_code
def yX12_passYear : MethodName := ⟨RX12, "passYear", "(LOldNeighbours$Rule;J)I"⟩
abbrev cX12_history : ByteArray := prog_1_method_23_code
def yX12_history : MethodName := ⟨RX12, "history", "(II)I"⟩
abbrev cX12_met : ByteArray := prog_1_method_24_code
def yX12_met : MethodName := ⟨RX12, "met", "(I)I"⟩
abbrev cX12_soonest : ByteArray := prog_1_method_25_code
def yX12_soonest : MethodName := ⟨RX12, "soonest", "(LOldNeighbours$Wall;)I"⟩
abbrev cX12_two : ByteArray := prog_1_method_26_code
def yX12_two : MethodName := ⟨RX12, "two", "(III)I"⟩
abbrev cX12_parting : ByteArray := prog_1_method_27_code
def yX12_parting : MethodName := ⟨RX12, "parting", "(II)I"⟩
abbrev cX12_layings : ByteArray := prog_1_method_28_code
def yX12_layings : MethodName := ⟨RX12, "layings", "(III)I"⟩
abbrev cX12_order : ByteArray := prog_1_method_29_code
def yX12_order : MethodName := ⟨RX12, "order", "(III)I"⟩
abbrev cX12_borne : ByteArray := prog_1_method_30_code
def yX12_borne : MethodName := ⟨RX12, "borne", "(II)I"⟩
abbrev cX12_spares : ByteArray := prog_1_method_31_code
def yX12_spares : MethodName := ⟨RX12, "spares", "(I)I"⟩
abbrev cX12_isBroken : ByteArray := prog_1_method_32_code
def yX12_isBroken : MethodName := ⟨RX12, "isBroken", "(I)Z"⟩
abbrev cX12_spareFrom : ByteArray := prog_1_method_33_code
def yX12_spareFrom : MethodName := ⟨RX12, "spareFrom", "(LOldNeighbours$Wall;I)I"⟩
abbrev cX12_door : ByteArray := prog_1_method_34_code
def yX12_door : MethodName := ⟨RX12, "door", "(III)I"⟩
abbrev cX12_older : ByteArray := prog_1_method_35_code
def yX12_older : MethodName := ⟨RX12, "older", "(III)I"⟩
abbrev cX12_tellOlder : ByteArray := prog_1_method_36_code
def yX12_tellOlder : MethodName := ⟨RX12, "tellOlder", "(LOldNeighbours$Wall;LOldNeighbours$Wall;)I"⟩
abbrev cX12_countTelling : ByteArray := prog_1_method_37_code
def yX12_countTelling : MethodName := ⟨RX12, "countTelling", "(LOldNeighbours$Wall;LOldNeighbours$Wall;I)I"⟩
abbrev cX12_red : ByteArray := prog_1_method_38_code
def yX12_red : MethodName := ⟨RX12, "red", "(II)I"⟩
abbrev cX12_image : ByteArray := prog_1_method_39_code
def yX12_image : MethodName := ⟨RX12, "image", "(Z)Z"⟩
abbrev cX12_look : ByteArray := prog_1_method_40_code
def yX12_look : MethodName := ⟨RX12, "look", "(I)I"⟩
abbrev cX12_isOf : ByteArray := prog_1_method_41_code
def yX12_isOf : MethodName := ⟨RX12, "isOf", "(II)Z"⟩
abbrev cX12_cellsOf : ByteArray := prog_1_method_42_code
def yX12_cellsOf : MethodName := ⟨RX12, "cellsOf", "(J)I"⟩
def RX13 : String := "OldNeighboursModel"
def TX13 : u_T := fun k => match k with
  | 0 => ("OldNeighboursModel", "w", "[I", true)
  | 1 => ("OldNeighboursModel", "kept", "[I", true)
  | 2 => ("OldNeighboursModel", "hasImage", "Z", false)
  | 3 => ("OldNeighboursModel", "freshLine", "[I", true)
  | 4 => ("OldNeighboursModel", "freshStep", "[I", true)
  | 5 => ("OldNeighboursModel", "tape", "[I", true)
  | 6 => ("OldNeighboursModel", "pile", "[I", true)
  | 7 => ("OldNeighboursModel", "facts", "[I", true)
  | 8 => ("OldNeighboursModel", "grid", "[Z", true)
  | 9 => ("OldNeighboursModel", "which", "I", false)
  | 10 => ("OldNeighboursModel", "lines", "I", false)
  | 11 => ("OldNeighboursModel", "steps", "I", false)
  | 12 => ("OldNeighboursModel", "taped", "I", false)
  | 13 => ("OldNeighboursModel", "at", "I", false)
  | 14 => ("OldNeighboursModel", "token", "I", false)
  | 15 => ("OldNeighboursModel", "tokenAt", "I", false)
  | 16 => ("OldNeighboursModel", "value", "I", false)
  | 17 => ("OldNeighboursModel", "wrong", "I", false)
  | 18 => ("OldNeighboursModel", "wrongAt", "I", false)
  | 19 => ("OldNeighboursModel", "faultKind", "I", false)
  | 20 => ("OldNeighboursModel", "depth", "I", false)
  | 21 => ("OldNeighboursModel", "faultPlace", "I", false)
  | 22 => ("OldNeighboursModel", "old", "[I", true)
  | 23 => ("OldNeighboursModel", "now", "[I", true)
  | 24 => ("OldNeighboursModel", "tried", "[I", true)
  | 25 => ("OldNeighboursModel", "bricksOf", "[I", true)
  | 26 => ("OldNeighboursModel", "oldIn", "I", false)
  | 27 => ("OldNeighboursModel", "nowIn", "I", false)
  | 28 => ("OldNeighboursModel", "mates", "[I", true)
  | 29 => ("OldNeighboursModel", "cellMates", "[I", true)
  | 30 => ("OldNeighboursModel", "orderOf", "[I", true)
  | 31 => ("OldNeighboursModel", "placed", "[I", true)
  | 32 => ("OldNeighboursModel", "badTried", "I", false)
  | 33 => ("OldNeighboursModel", "keptTried", "I", false)
  | 34 => ("OldNeighboursModel", "done", "[Z", true)
  | 35 => ("OldNeighboursModel", "seen", "[Z", true)
  | 36 => ("OldNeighboursModel", "bestLaying", "[I", true)
  | 37 => ("OldNeighboursModel", "fewestBad", "I", false)
  | 38 => ("OldNeighboursModel", "mostKept", "I", false)
  | 39 => ("OldNeighboursModel", "goodOnes", "I", false)
  | 40 => ("OldNeighboursModel", "keptOfBest", "I", false)
  | 41 => ("OldNeighboursModel", "laidRow", "[I", true)
  | 42 => ("OldNeighboursModel", "starts", "I", false)
  | 43 => ("OldNeighboursModel", "cellNear", "[I", true)
  | 44 => ("OldNeighboursModel", "firstNear", "[I", true)
  | _ => ("OldNeighboursModel", "secondNear", "[I", true)
def tyX13 : Nat → FieldType := fun k => match k with
  | 0 => .array .int
  | 1 => .array .int
  | 2 => .boolean
  | 3 => .array .int
  | 4 => .array .int
  | 5 => .array .int
  | 6 => .array .int
  | 7 => .array .int
  | 8 => .array .boolean
  | 9 => .int
  | 10 => .int
  | 11 => .int
  | 12 => .int
  | 13 => .int
  | 14 => .int
  | 15 => .int
  | 16 => .int
  | 17 => .int
  | 18 => .int
  | 19 => .int
  | 20 => .int
  | 21 => .int
  | 22 => .array .int
  | 23 => .array .int
  | 24 => .array .int
  | 25 => .array .int
  | 26 => .int
  | 27 => .int
  | 28 => .array .int
  | 29 => .array .int
  | 30 => .array .int
  | 31 => .array .int
  | 32 => .int
  | 33 => .int
  | 34 => .array .boolean
  | 35 => .array .boolean
  | 36 => .array .int
  | 37 => .int
  | 38 => .int
  | 39 => .int
  | 40 => .int
  | 41 => .array .int
  | 42 => .int
  | 43 => .array .int
  | 44 => .array .int
  | _ => .array .int
abbrev wsX130 : List Cond := u_ws RX13 TX13 46
theorem nmX13 : ∀ a, a < 46 → ∀ b, b < 46 → a ≠ b → (TX13 a).2.1 ≠ (TX13 b).2.1 := by decide +kernel
theorem tyX13_ok : ∀ k, k < 46 → parseFieldDescriptor (TX13 k).2.2.1 = some (tyX13 k) := by decide +kernel
abbrev cX13_init : ByteArray := prog_15_method_1_code
def yX13_init : MethodName := ⟨RX13, "<init>", "()V"⟩
abbrev cX13_isIn : ByteArray := prog_15_method_2_code
def yX13_isIn : MethodName := ⟨RX13, "isIn", "(III)Z"⟩
abbrev cX13_count : ByteArray := prog_15_method_3_code
def yX13_count : MethodName := ⟨RX13, "count", "(I)I"⟩
abbrev cX13_state : ByteArray := prog_15_method_4_code
def yX13_state : MethodName := ⟨RX13, "state", "(I)I"⟩
abbrev cX13_draw : ByteArray := prog_15_method_5_code
def yX13_draw : MethodName := ⟨RX13, "draw", "(I)I"⟩
abbrev cX13_feed : ByteArray := prog_15_method_6_code
def yX13_feed : MethodName := ⟨RX13, "feed", "(IIIII)I"⟩
abbrev cX13_end : ByteArray := prog_15_method_7_code
def yX13_end : MethodName := ⟨RX13, "end", "(I)Z"⟩
abbrev cX13_see : ByteArray := prog_15_method_8_code
def yX13_see : MethodName := ⟨RX13, "see", "(I)I"⟩
abbrev cX13_isLetter : ByteArray := prog_15_method_9_code
def yX13_isLetter : MethodName := ⟨RX13, "isLetter", "(I)Z"⟩
abbrev cX13_isDigit : ByteArray := prog_15_method_10_code
def yX13_isDigit : MethodName := ⟨RX13, "isDigit", "(I)Z"⟩
abbrev cX13_is : ByteArray := prog_15_method_11_code
def yX13_is : MethodName := ⟨RX13, "is", "(Ljava/lang/String;)Z"⟩
abbrev cX13_shapeWord : ByteArray := prog_15_method_12_code
def yX13_shapeWord : MethodName := ⟨RX13, "shapeWord", "()I"⟩
abbrev cX13_wayWord : ByteArray := prog_15_method_13_code
def yX13_wayWord : MethodName := ⟨RX13, "wayWord", "()I"⟩
abbrev cX13_ruleWord : ByteArray := prog_15_method_14_code
def yX13_ruleWord : MethodName := ⟨RX13, "ruleWord", "()I"⟩
abbrev cX13_next0 : ByteArray := prog_15_method_15_code
def yX13_next0 : MethodName := ⟨RX13, "next0", "()V"⟩
abbrev cX13_bad : ByteArray := prog_15_method_16_code
def yX13_bad : MethodName := ⟨RX13, "bad", "(I)Z"⟩
abbrev cX13_need : ByteArray := prog_15_method_17_code
def yX13_need : MethodName := ⟨RX13, "need", "(I)Z"⟩
abbrev cX13_number : ByteArray := prog_15_method_18_code
def yX13_number : MethodName := ⟨RX13, "number", "(II)Z"⟩
abbrev cX13_lay0 : ByteArray := prog_15_method_19_code
def yX13_lay0 : MethodName := ⟨RX13, "lay0", "(II)V"⟩
abbrev cX13_opens : ByteArray := prog_15_method_20_code
def yX13_opens : MethodName := ⟨RX13, "opens", "()Z"⟩
abbrev cX13_sumUp : ByteArray := prog_15_method_21_code
def yX13_sumUp : MethodName := ⟨RX13, "sumUp", "()Z"⟩
abbrev cX13_product : ByteArray := prog_15_method_22_code
def yX13_product : MethodName := ⟨RX13, "product", "()Z"⟩
abbrev cX13_unit : ByteArray := prog_15_method_23_code
def yX13_unit : MethodName := ⟨RX13, "unit", "()Z"⟩
abbrev cX13_any : ByteArray := prog_15_method_24_code
def yX13_any : MethodName := ⟨RX13, "any", "()Z"⟩
abbrev cX13_every : ByteArray := prog_15_method_25_code
def yX13_every : MethodName := ⟨RX13, "every", "()Z"⟩
abbrev cX13_one : ByteArray := prog_15_method_26_code
def yX13_one : MethodName := ⟨RX13, "one", "()Z"⟩
abbrev cX13_aRule : ByteArray := prog_15_method_27_code
def yX13_aRule : MethodName := ⟨RX13, "aRule", "()Z"⟩
abbrev cX13_gridCells : ByteArray := prog_15_method_28_code
def yX13_gridCells : MethodName := ⟨RX13, "gridCells", "()I"⟩
abbrev cX13_aShape : ByteArray := prog_15_method_29_code
def yX13_aShape : MethodName := ⟨RX13, "aShape", "()Z"⟩
abbrev cX13_text : ByteArray := prog_15_method_30_code
def yX13_text : MethodName := ⟨RX13, "text", "(I)I"⟩
abbrev cX13_keepsShape : ByteArray := prog_15_method_31_code
def yX13_keepsShape : MethodName := ⟨RX13, "keepsShape", "(I)I"⟩
abbrev cX13_keepsRule : ByteArray := prog_15_method_32_code
def yX13_keepsRule : MethodName := ⟨RX13, "keepsRule", "(I)I"⟩
abbrev cX13_fault : ByteArray := prog_15_method_33_code
def yX13_fault : MethodName := ⟨RX13, "fault", "(I)I"⟩
abbrev cX13_both : ByteArray := prog_15_method_34_code
def yX13_both : MethodName := ⟨RX13, "both", "(III)I"⟩
abbrev cX13_comesTo : ByteArray := prog_15_method_35_code
def yX13_comesTo : MethodName := ⟨RX13, "comesTo", "(III)I"⟩
abbrev cX13_isShape : ByteArray := prog_15_method_36_code
def yX13_isShape : MethodName := ⟨RX13, "isShape", "(I)Z"⟩
abbrev cX13_isWall : ByteArray := prog_15_method_37_code
def yX13_isWall : MethodName := ⟨RX13, "isWall", "(I)Z"⟩
abbrev cX13_isBrick : ByteArray := prog_15_method_38_code
def yX13_isBrick : MethodName := ⟨RX13, "isBrick", "(I)Z"⟩
abbrev cX13_isCellOf : ByteArray := prog_15_method_39_code
def yX13_isCellOf : MethodName := ⟨RX13, "isCellOf", "(II)Z"⟩
abbrev cX13_touch : ByteArray := prog_15_method_40_code
def yX13_touch : MethodName := ⟨RX13, "touch", "(IIII)Z"⟩
abbrev cX13_shapeTouch : ByteArray := prog_15_method_41_code
def yX13_shapeTouch : MethodName := ⟨RX13, "shapeTouch", "(III)Z"⟩
abbrev cX13_wallTouch : ByteArray := prog_15_method_42_code
def yX13_wallTouch : MethodName := ⟨RX13, "wallTouch", "(III)Z"⟩
abbrev cX13_cell : ByteArray := prog_15_method_43_code
def yX13_cell : MethodName := ⟨RX13, "cell", "(III)I"⟩
abbrev cX13_set : ByteArray := prog_15_method_44_code
def yX13_set : MethodName := ⟨RX13, "set", "(II)Z"⟩
abbrev cX13_shapes : ByteArray := prog_15_method_45_code
def yX13_shapes : MethodName := ⟨RX13, "shapes", "(II)V"⟩
abbrev cX13_wall : ByteArray := prog_15_method_46_code
def yX13_wall : MethodName := ⟨RX13, "wall", "(II)Z"⟩
abbrev cX13_brick : ByteArray := prog_15_method_47_code
def yX13_brick : MethodName := ⟨RX13, "brick", "(II)I"⟩
abbrev cX13_placeOf : ByteArray := prog_15_method_48_code
def yX13_placeOf : MethodName := ⟨RX13, "placeOf", "(II)I"⟩
abbrev cX13_lay : ByteArray := prog_15_method_49_code
def yX13_lay : MethodName := ⟨RX13, "lay", "(III)Z"⟩
abbrev cX13_fill : ByteArray := prog_15_method_50_code
def yX13_fill : MethodName := ⟨RX13, "fill", "(II)Z"⟩
abbrev cX13_at : ByteArray := prog_15_method_51_code
def yX13_at : MethodName := ⟨RX13, "at", "(II)I"⟩
abbrev cX13_lays : ByteArray := prog_15_method_52_code
def yX13_lays : MethodName := ⟨RX13, "lays", "(I[I)I"⟩
abbrev cX13_laysTried : ByteArray := prog_15_method_53_code
def yX13_laysTried : MethodName := ⟨RX13, "laysTried", "(I[I)I"⟩
abbrev cX13_marks : ByteArray := prog_15_method_54_code
def yX13_marks : MethodName := ⟨RX13, "marks", "(I)I"⟩
abbrev cX13_hasOld : ByteArray := prog_15_method_55_code
def yX13_hasOld : MethodName := ⟨RX13, "hasOld", "(I)Z"⟩
abbrev cX13_badOnes : ByteArray := prog_15_method_56_code
def yX13_badOnes : MethodName := ⟨RX13, "badOnes", "()I"⟩
abbrev cX13_keptOnes : ByteArray := prog_15_method_57_code
def yX13_keptOnes : MethodName := ⟨RX13, "keptOnes", "()I"⟩
abbrev cX13_compares : ByteArray := prog_15_method_58_code
def yX13_compares : MethodName := ⟨RX13, "compares", "(II)V"⟩
abbrev cX13_isGood : ByteArray := prog_15_method_59_code
def yX13_isGood : MethodName := ⟨RX13, "isGood", "(II)Z"⟩
abbrev cX13_beside : ByteArray := prog_15_method_60_code
def yX13_beside : MethodName := ⟨RX13, "beside", "(II)I"⟩
abbrev cX13_good : ByteArray := prog_15_method_61_code
def yX13_good : MethodName := ⟨RX13, "good", "(III)I"⟩
abbrev cX13_judge : ByteArray := prog_15_method_62_code
def yX13_judge : MethodName := ⟨RX13, "judge", "(II)I"⟩
abbrev cX13_gathers : ByteArray := prog_15_method_63_code
def yX13_gathers : MethodName := ⟨RX13, "gathers", "(I)I"⟩
abbrev cX13_empties : ByteArray := prog_15_method_64_code
def yX13_empties : MethodName := ⟨RX13, "empties", "()V"⟩
abbrev cX13_snakeCell : ByteArray := prog_15_method_65_code
def yX13_snakeCell : MethodName := ⟨RX13, "snakeCell", "(II)I"⟩
abbrev cX13_simply : ByteArray := prog_15_method_66_code
def yX13_simply : MethodName := ⟨RX13, "simply", "(IIII)V"⟩
abbrev cX13_couples : ByteArray := prog_15_method_67_code
def yX13_couples : MethodName := ⟨RX13, "couples", "(IZI[I)V"⟩
abbrev cX13_pairs : ByteArray := prog_15_method_68_code
def yX13_pairs : MethodName := ⟨RX13, "pairs", "(III)V"⟩
abbrev cX13_exchanges : ByteArray := prog_15_method_69_code
def yX13_exchanges : MethodName := ⟨RX13, "exchanges", "(II)V"⟩
abbrev cX13_reckons : ByteArray := prog_15_method_70_code
def yX13_reckons : MethodName := ⟨RX13, "reckons", "(I)V"⟩
abbrev cX13_betters : ByteArray := prog_15_method_71_code
def yX13_betters : MethodName := ⟨RX13, "betters", "(I)Z"⟩
abbrev cX13_puts : ByteArray := prog_15_method_72_code
def yX13_puts : MethodName := ⟨RX13, "puts", "(IIII)V"⟩
abbrev cX13_becomes : ByteArray := prog_15_method_73_code
def yX13_becomes : MethodName := ⟨RX13, "becomes", "(II)V"⟩
abbrev cX13_again : ByteArray := prog_15_method_74_code
def yX13_again : MethodName := ⟨RX13, "again", "(IIIII)I"⟩
abbrev cX13_metOnes : ByteArray := prog_15_method_75_code
def yX13_metOnes : MethodName := ⟨RX13, "metOnes", "()I"⟩
abbrev cX13_lineFor : ByteArray := prog_15_method_76_code
def yX13_lineFor : MethodName := ⟨RX13, "lineFor", "(II)I"⟩
abbrev cX13_leftOf : ByteArray := prog_15_method_77_code
def yX13_leftOf : MethodName := ⟨RX13, "leftOf", "(II)I"⟩
abbrev cX13_aYear : ByteArray := prog_15_method_78_code
def yX13_aYear : MethodName := ⟨RX13, "aYear", "(II)Z"⟩
abbrev cX13_years : ByteArray := prog_15_method_79_code
def yX13_years : MethodName := ⟨RX13, "years", "(III)I"⟩
abbrev cX13_together : ByteArray := prog_15_method_80_code
def yX13_together : MethodName := ⟨RX13, "together", "(II)I"⟩
abbrev cX13_history : ByteArray := prog_15_method_81_code
def yX13_history : MethodName := ⟨RX13, "history", "(II)I"⟩
abbrev cX13_never : ByteArray := prog_15_method_82_code
def yX13_never : MethodName := ⟨RX13, "never", "()I"⟩
abbrev cX13_always : ByteArray := prog_15_method_83_code
def yX13_always : MethodName := ⟨RX13, "always", "()I"⟩
abbrev cX13_soonest : ByteArray := prog_15_method_84_code
def yX13_soonest : MethodName := ⟨RX13, "soonest", "()I"⟩
abbrev cX13_met : ByteArray := prog_15_method_85_code
def yX13_met : MethodName := ⟨RX13, "met", "(I)I"⟩
abbrev cX13_two : ByteArray := prog_15_method_86_code
def yX13_two : MethodName := ⟨RX13, "two", "(III)I"⟩
abbrev cX13_cellAt : ByteArray := prog_15_method_87_code
def yX13_cellAt : MethodName := ⟨RX13, "cellAt", "(III)I"⟩
abbrev cX13_parts : ByteArray := prog_15_method_88_code
def yX13_parts : MethodName := ⟨RX13, "parts", "(III)Z"⟩
abbrev cX13_findsMate : ByteArray := prog_15_method_89_code
def yX13_findsMate : MethodName := ⟨RX13, "findsMate", "(II)Z"⟩
abbrev cX13_mostCouples : ByteArray := prog_15_method_90_code
def yX13_mostCouples : MethodName := ⟨RX13, "mostCouples", "(I)I"⟩
abbrev cX13_parting : ByteArray := prog_15_method_91_code
def yX13_parting : MethodName := ⟨RX13, "parting", "(II)I"⟩
abbrev cX13_layings0 : ByteArray := prog_15_method_92_code
def yX13_layings0 : MethodName := ⟨RX13, "layings0", "(III)V"⟩
abbrev cX13_layings : ByteArray := prog_15_method_93_code
def yX13_layings : MethodName := ⟨RX13, "layings", "(III)I"⟩
abbrev cX13_restsOn : ByteArray := prog_15_method_94_code
def yX13_restsOn : MethodName := ⟨RX13, "restsOn", "(II)I"⟩
abbrev cX13_canRest : ByteArray := prog_15_method_95_code
def yX13_canRest : MethodName := ⟨RX13, "canRest", "(II)Z"⟩
abbrev cX13_nextCell : ByteArray := prog_15_method_96_code
def yX13_nextCell : MethodName := ⟨RX13, "nextCell", "(IIZ)I"⟩
abbrev cX13_order : ByteArray := prog_15_method_97_code
def yX13_order : MethodName := ⟨RX13, "order", "(III)I"⟩
abbrev cX13_borne : ByteArray := prog_15_method_98_code
def yX13_borne : MethodName := ⟨RX13, "borne", "(II)I"⟩
abbrev cX13_spares : ByteArray := prog_15_method_99_code
def yX13_spares : MethodName := ⟨RX13, "spares", "(I)I"⟩
abbrev cX13_door : ByteArray := prog_15_method_100_code
def yX13_door : MethodName := ⟨RX13, "door", "(III)I"⟩
abbrev cX13_olderOf : ByteArray := prog_15_method_101_code
def yX13_olderOf : MethodName := ⟨RX13, "olderOf", "(II)I"⟩
abbrev cX13_older : ByteArray := prog_15_method_102_code
def yX13_older : MethodName := ⟨RX13, "older", "(III)I"⟩
abbrev cX13_red : ByteArray := prog_15_method_103_code
def yX13_red : MethodName := ⟨RX13, "red", "(II)I"⟩
abbrev cX13_image : ByteArray := prog_15_method_104_code
def yX13_image : MethodName := ⟨RX13, "image", "(Z)Z"⟩
abbrev cX13_look : ByteArray := prog_15_method_105_code
def yX13_look : MethodName := ⟨RX13, "look", "(I)I"⟩
def RJx145de : String := "java/io/Serializable"
def TJx145de : u_T := fun k => match k with
  | _ => ("", "", "", false)
def tyJx145de : Nat → FieldType := fun k => match k with
  | _ => .int
abbrev wsJx145de0 : List Cond := u_ws RJx145de TJx145de 0
theorem nmJx145de : ∀ a, a < 0 → ∀ b, b < 0 → a ≠ b → (TJx145de a).2.1 ≠ (TJx145de b).2.1 := by decide +kernel
theorem tyJx145de_ok : ∀ k, k < 0 → parseFieldDescriptor (TJx145de k).2.2.1 = some (tyJx145de k) := by decide +kernel
def RJx9f9b0 : String := "java/lang/CharSequence"
def TJx9f9b0 : u_T := fun k => match k with
  | _ => ("", "", "", false)
def tyJx9f9b0 : Nat → FieldType := fun k => match k with
  | _ => .int
abbrev wsJx9f9b00 : List Cond := u_ws RJx9f9b0 TJx9f9b0 0
theorem nmJx9f9b0 : ∀ a, a < 0 → ∀ b, b < 0 → a ≠ b → (TJx9f9b0 a).2.1 ≠ (TJx9f9b0 b).2.1 := by decide +kernel
theorem tyJx9f9b0_ok : ∀ k, k < 0 → parseFieldDescriptor (TJx9f9b0 k).2.2.1 = some (tyJx9f9b0 k) := by decide +kernel
def RJ11 : String := "java/lang/Character"
def TJ11 : u_T := fun k => match k with
  | _ => ("", "", "", false)
def tyJ11 : Nat → FieldType := fun k => match k with
  | _ => .int
abbrev wsJ110 : List Cond := u_ws RJ11 TJ11 0
theorem nmJ11 : ∀ a, a < 0 → ∀ b, b < 0 → a ≠ b → (TJ11 a).2.1 ≠ (TJ11 b).2.1 := by decide +kernel
theorem tyJ11_ok : ∀ k, k < 0 → parseFieldDescriptor (TJ11 k).2.2.1 = some (tyJ11 k) := by decide +kernel
abbrev cJ11_isValidCodePoint_9a6ad : ByteArray := prog_16_method_11_code
def yJ11_isValidCodePoint_9a6ad : MethodName := ⟨RJ11, "isValidCodePoint", "(I)Z"⟩
abbrev cJ11_highSurrogate_5068e : ByteArray := prog_16_method_28_code
def yJ11_highSurrogate_5068e : MethodName := ⟨RJ11, "highSurrogate", "(I)C"⟩
abbrev cJ11_lowSurrogate_5068e : ByteArray := prog_16_method_29_code
def yJ11_lowSurrogate_5068e : MethodName := ⟨RJ11, "lowSurrogate", "(I)C"⟩
def RJxb160c : String := "java/lang/Comparable"
def TJxb160c : u_T := fun k => match k with
  | _ => ("", "", "", false)
def tyJxb160c : Nat → FieldType := fun k => match k with
  | _ => .int
abbrev wsJxb160c0 : List Cond := u_ws RJxb160c TJxb160c 0
theorem nmJxb160c : ∀ a, a < 0 → ∀ b, b < 0 → a ≠ b → (TJxb160c a).2.1 ≠ (TJxb160c b).2.1 := by decide +kernel
theorem tyJxb160c_ok : ∀ k, k < 0 → parseFieldDescriptor (TJxb160c k).2.2.1 = some (tyJxb160c k) := by decide +kernel
def RJ6 : String := "java/lang/Integer"
def TJ6 : u_T := fun k => match k with
  | _ => ("", "", "", false)
def tyJ6 : Nat → FieldType := fun k => match k with
  | _ => .int
abbrev wsJ60 : List Cond := u_ws RJ6 TJ6 0
theorem nmJ6 : ∀ a, a < 0 → ∀ b, b < 0 → a ≠ b → (TJ6 a).2.1 ≠ (TJ6 b).2.1 := by decide +kernel
theorem tyJ6_ok : ∀ k, k < 0 → parseFieldDescriptor (TJ6 k).2.2.1 = some (tyJ6 k) := by decide +kernel
abbrev cJ6_bitCount_0f7a4 : ByteArray := prog_17_method_49_code
def yJ6_bitCount_0f7a4 : MethodName := ⟨RJ6, "bitCount", "(I)I"⟩
def RJ13 : String := "java/lang/Long"
def TJ13 : u_T := fun k => match k with
  | _ => ("", "", "", false)
def tyJ13 : Nat → FieldType := fun k => match k with
  | _ => .int
abbrev wsJ130 : List Cond := u_ws RJ13 TJ13 0
theorem nmJ13 : ∀ a, a < 0 → ∀ b, b < 0 → a ≠ b → (TJ13 a).2.1 ≠ (TJ13 b).2.1 := by decide +kernel
theorem tyJ13_ok : ∀ k, k < 0 → parseFieldDescriptor (TJ13 k).2.2.1 = some (tyJ13 k) := by decide +kernel
abbrev cJ13_bitCount_95d88 : ByteArray := prog_18_method_50_code
def yJ13_bitCount_95d88 : MethodName := ⟨RJ13, "bitCount", "(J)I"⟩
def RJ9 : String := "java/lang/Math"
def TJ9 : u_T := fun k => match k with
  | _ => ("", "", "", false)
def tyJ9 : Nat → FieldType := fun k => match k with
  | _ => .int
abbrev wsJ90 : List Cond := u_ws RJ9 TJ9 0
theorem nmJ9 : ∀ a, a < 0 → ∀ b, b < 0 → a ≠ b → (TJ9 a).2.1 ≠ (TJ9 b).2.1 := by decide +kernel
theorem tyJ9_ok : ∀ k, k < 0 → parseFieldDescriptor (TJ9 k).2.2.1 = some (tyJ9 k) := by decide +kernel
abbrev cJ9_floorMod_7cf53 : ByteArray := prog_19_method_50_code
def yJ9_floorMod_7cf53 : MethodName := ⟨RJ9, "floorMod", "(II)I"⟩
abbrev cJ9_max_7cf53 : ByteArray := prog_19_method_65_code
def yJ9_max_7cf53 : MethodName := ⟨RJ9, "max", "(II)I"⟩
abbrev cJ9_min_7cf53 : ByteArray := prog_19_method_69_code
def yJ9_min_7cf53 : MethodName := ⟨RJ9, "min", "(II)I"⟩
def RJ0 : String := "java/lang/String"
def TJ0 : u_T := fun k => match k with
  | _ => ("", "", "", false)
def tyJ0 : Nat → FieldType := fun k => match k with
  | _ => .int
abbrev wsJ00 : List Cond := u_ws RJ0 TJ0 0
theorem nmJ0 : ∀ a, a < 0 → ∀ b, b < 0 → a ≠ b → (TJ0 a).2.1 ≠ (TJ0 b).2.1 := by decide +kernel
theorem tyJ0_ok : ∀ k, k < 0 → parseFieldDescriptor (TJ0 k).2.2.1 = some (tyJ0 k) := by decide +kernel
abbrev cJ0_length_8abf5 : ByteArray := prog_20_method_54_code
def yJ0_length_8abf5 : MethodName := ⟨RJ0, "length", "()I"⟩
abbrev cJ0_charAt_5068e : ByteArray := prog_20_method_56_code
def yJ0_charAt_5068e : MethodName := ⟨RJ0, "charAt", "(I)C"⟩
abbrev cJ0_indexOf_0f7a4 : ByteArray := prog_20_method_79_code
def yJ0_indexOf_0f7a4 : MethodName := ⟨RJ0, "indexOf", "(I)I"⟩
abbrev cJ0_indexOf_7cf53 : ByteArray := prog_20_method_80_code
def yJ0_indexOf_7cf53 : MethodName := ⟨RJ0, "indexOf", "(II)I"⟩
abbrev cJ0_coder_7d493 : ByteArray := prog_20_method_152_code
def yJ0_coder_7d493 : MethodName := ⟨RJ0, "coder", "()B"⟩
abbrev cJ0_isLatin1_aae02 : ByteArray := prog_20_method_154_code
def yJ0_isLatin1_aae02 : MethodName := ⟨RJ0, "isLatin1", "()Z"⟩
abbrev cJ0_checkIndex_df160 : ByteArray := prog_20_method_155_code
def yJ0_checkIndex_df160 : MethodName := ⟨RJ0, "checkIndex", "(II)V"⟩
abbrev cJ0_checkBoundsBeginEnd_23922 : ByteArray := prog_20_method_158_code
def yJ0_checkBoundsBeginEnd_23922 : MethodName := ⟨RJ0, "checkBoundsBeginEnd", "(III)V"⟩
def RJ1 : String := "java/lang/StringLatin1"
def TJ1 : u_T := fun k => match k with
  | _ => ("", "", "", false)
def tyJ1 : Nat → FieldType := fun k => match k with
  | _ => .int
abbrev wsJ10 : List Cond := u_ws RJ1 TJ1 0
theorem nmJ1 : ∀ a, a < 0 → ∀ b, b < 0 → a ≠ b → (TJ1 a).2.1 ≠ (TJ1 b).2.1 := by decide +kernel
theorem tyJ1_ok : ∀ k, k < 0 → parseFieldDescriptor (TJ1 k).2.2.1 = some (tyJ1 k) := by decide +kernel
abbrev cJ1_charAt_3b067 : ByteArray := prog_21_method_2_code
def yJ1_charAt_3b067 : MethodName := ⟨RJ1, "charAt", "([BI)C"⟩
abbrev cJ1_canEncode_9a6ad : ByteArray := prog_21_method_4_code
def yJ1_canEncode_9a6ad : MethodName := ⟨RJ1, "canEncode", "(I)Z"⟩
abbrev cJ1_indexOf_4cfef : ByteArray := prog_21_method_22_code
def yJ1_indexOf_4cfef : MethodName := ⟨RJ1, "indexOf", "([BIII)I"⟩
abbrev cJ1_indexOfChar_4cfef : ByteArray := prog_21_method_23_code
def yJ1_indexOfChar_4cfef : MethodName := ⟨RJ1, "indexOfChar", "([BIII)I"⟩
def RJ2 : String := "java/lang/StringUTF16"
def TJ2 : u_T := fun k => match k with
  | _ => ("", "", "", false)
def tyJ2 : Nat → FieldType := fun k => match k with
  | _ => .int
abbrev wsJ20 : List Cond := u_ws RJ2 TJ2 0
theorem nmJ2 : ∀ a, a < 0 → ∀ b, b < 0 → a ≠ b → (TJ2 a).2.1 ≠ (TJ2 b).2.1 := by decide +kernel
theorem tyJ2_ok : ∀ k, k < 0 → parseFieldDescriptor (TJ2 k).2.2.1 = some (tyJ2 k) := by decide +kernel
abbrev cJ2_getChar_3b067 : ByteArray := prog_22_method_5_code
def yJ2_getChar_3b067 : MethodName := ⟨RJ2, "getChar", "([BI)C"⟩
abbrev cJ2_length_9d52b : ByteArray := prog_22_method_6_code
def yJ2_length_9d52b : MethodName := ⟨RJ2, "length", "([B)I"⟩
abbrev cJ2_indexOf_4cfef : ByteArray := prog_22_method_40_code
def yJ2_indexOf_4cfef : MethodName := ⟨RJ2, "indexOf", "([BIII)I"⟩
abbrev cJ2_indexOfChar_4cfef : ByteArray := prog_22_method_47_code
def yJ2_indexOfChar_4cfef : MethodName := ⟨RJ2, "indexOfChar", "([BIII)I"⟩
abbrev cJ2_indexOfCharUnsafe_4cfef : ByteArray := prog_22_method_48_code
def yJ2_indexOfCharUnsafe_4cfef : MethodName := ⟨RJ2, "indexOfCharUnsafe", "([BIII)I"⟩
abbrev cJ2_indexOfSupplementary_4cfef : ByteArray := prog_22_method_49_code
def yJ2_indexOfSupplementary_4cfef : MethodName := ⟨RJ2, "indexOfSupplementary", "([BIII)I"⟩
abbrev cJ2_charAt_3b067 : ByteArray := prog_22_method_83_code
def yJ2_charAt_3b067 : MethodName := ⟨RJ2, "charAt", "([BI)C"⟩
abbrev cJ2_checkIndex_2214a : ByteArray := prog_22_method_91_code
def yJ2_checkIndex_2214a : MethodName := ⟨RJ2, "checkIndex", "(I[B)V"⟩
abbrev cJ2_checkBoundsBeginEnd_d044e : ByteArray := prog_22_method_93_code
def yJ2_checkBoundsBeginEnd_d044e : MethodName := ⟨RJ2, "checkBoundsBeginEnd", "(II[B)V"⟩
def RJ10 : String := "java/lang/System"
def TJ10 : u_T := fun k => match k with
  | _ => ("", "", "", false)
def tyJ10 : Nat → FieldType := fun k => match k with
  | _ => .int
abbrev wsJ100 : List Cond := u_ws RJ10 TJ10 0
theorem nmJ10 : ∀ a, a < 0 → ∀ b, b < 0 → a ≠ b → (TJ10 a).2.1 ≠ (TJ10 b).2.1 := by decide +kernel
theorem tyJ10_ok : ∀ k, k < 0 → parseFieldDescriptor (TJ10 k).2.2.1 = some (tyJ10 k) := by decide +kernel
def RJxfd54e : String := "java/lang/constant/Constable"
def TJxfd54e : u_T := fun k => match k with
  | _ => ("", "", "", false)
def tyJxfd54e : Nat → FieldType := fun k => match k with
  | _ => .int
abbrev wsJxfd54e0 : List Cond := u_ws RJxfd54e TJxfd54e 0
theorem nmJxfd54e : ∀ a, a < 0 → ∀ b, b < 0 → a ≠ b → (TJxfd54e a).2.1 ≠ (TJxfd54e b).2.1 := by decide +kernel
theorem tyJxfd54e_ok : ∀ k, k < 0 → parseFieldDescriptor (TJxfd54e k).2.2.1 = some (tyJxfd54e k) := by decide +kernel
def RJx3cf43 : String := "java/lang/constant/ConstantDesc"
def TJx3cf43 : u_T := fun k => match k with
  | _ => ("", "", "", false)
def tyJx3cf43 : Nat → FieldType := fun k => match k with
  | _ => .int
abbrev wsJx3cf430 : List Cond := u_ws RJx3cf43 TJx3cf43 0
theorem nmJx3cf43 : ∀ a, a < 0 → ∀ b, b < 0 → a ≠ b → (TJx3cf43 a).2.1 ≠ (TJx3cf43 b).2.1 := by decide +kernel
theorem tyJx3cf43_ok : ∀ k, k < 0 → parseFieldDescriptor (TJx3cf43 k).2.2.1 = some (tyJx3cf43 k) := by decide +kernel
def RJ7 : String := "java/util/Arrays"
def TJ7 : u_T := fun k => match k with
  | _ => ("", "", "", false)
def tyJ7 : Nat → FieldType := fun k => match k with
  | _ => .int
abbrev wsJ70 : List Cond := u_ws RJ7 TJ7 0
theorem nmJ7 : ∀ a, a < 0 → ∀ b, b < 0 → a ≠ b → (TJ7 a).2.1 ≠ (TJ7 b).2.1 := by decide +kernel
theorem tyJ7_ok : ∀ k, k < 0 → parseFieldDescriptor (TJ7 k).2.2.1 = some (tyJ7 k) := by decide +kernel
abbrev cJ7_rangeCheck_23922 : ByteArray := prog_24_method_30_code
def yJ7_rangeCheck_23922 : MethodName := ⟨RJ7, "rangeCheck", "(III)V"⟩
abbrev cJ7_fill_d0a16 : ByteArray := prog_24_method_101_code
def yJ7_fill_d0a16 : MethodName := ⟨RJ7, "fill", "([JJ)V"⟩
abbrev cJ7_fill_53178 : ByteArray := prog_24_method_103_code
def yJ7_fill_53178 : MethodName := ⟨RJ7, "fill", "([II)V"⟩
abbrev cJ7_fill_fda19 : ByteArray := prog_24_method_104_code
def yJ7_fill_fda19 : MethodName := ⟨RJ7, "fill", "([IIII)V"⟩
def RJ3 : String := "jdk/internal/util/Preconditions"
def TJ3 : u_T := fun k => match k with
  | _ => ("", "", "", false)
def tyJ3 : Nat → FieldType := fun k => match k with
  | _ => .int
abbrev wsJ30 : List Cond := u_ws RJ3 TJ3 0
theorem nmJ3 : ∀ a, a < 0 → ∀ b, b < 0 → a ≠ b → (TJ3 a).2.1 ≠ (TJ3 b).2.1 := by decide +kernel
theorem tyJ3_ok : ∀ k, k < 0 → parseFieldDescriptor (TJ3 k).2.2.1 = some (tyJ3 k) := by decide +kernel
abbrev cJ3_checkIndex_8e157 : ByteArray := prog_25_method_11_code
def yJ3_checkIndex_8e157 : MethodName := ⟨RJ3, "checkIndex", "(IILjava/util/function/BiFunction;)I"⟩
abbrev cJ3_checkFromToIndex_8c36e : ByteArray := prog_25_method_12_code
def yJ3_checkFromToIndex_8c36e : MethodName := ⟨RJ3, "checkFromToIndex", "(IIILjava/util/function/BiFunction;)I"⟩
def RL : String := "OldNeighboursLaw"
abbrev cL_law : ByteArray := code
def yL_law : MethodName := ⟨RL, "law", "([I)Z"⟩
abbrev vwCl : List vw_C := [(RX1, TX1, 10), (RX2, TX2, 6), (RX3, TX3, 10), (RX4, TX4, 6), (RX5, TX5, 2), (RX6, TX6, 5), (RX7, TX7, 10), (RX8, TX8, 5), (RX9, TX9, 8), (RX10, TX10, 5), (RX11, TX11, 12), (RX12, TX12, 12), (RX13, TX13, 46)]
