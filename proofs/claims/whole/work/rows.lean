section
-- ===== PART A: goes FIRST, ahead of the names: the tables' words, and 'selects' of the private methods out of them =====
/-- a private method of a class that the tables say can be made, by its rows of tables_1 -/
def lw_okq (q : MethodName × Nat) : Prop := (q.1.cls ≠ "java/lang/invoke/MethodHandle" ∧ q.1.cls ≠ "java/lang/invoke/VarHandle") ∧ Cond.instantiable q.1.cls q.2 ∈ tables_1 ∧ Cond.privateMethod q.1 ∈ tables_1 ∧ Cond.instanceMethod q.1 ∈ tables_1
theorem lw_p0 : lw_okq (⟨"ConstantMill", "sumAt", "(I)LConstantMill$Sum;"⟩, 10) := ⟨⟨by decide +kernel, by decide +kernel⟩, List.mem_of_getElem? (i := 12) (by decide +kernel), List.mem_of_getElem? (i := 257) (by decide +kernel), List.mem_of_getElem? (i := 258) (by decide +kernel)⟩
theorem lw_p1 : lw_okq (⟨"ConstantMill", "emptyDrawersOf", "(I)I"⟩, 10) := ⟨⟨by decide +kernel, by decide +kernel⟩, List.mem_of_getElem? (i := 12) (by decide +kernel), List.mem_of_getElem? (i := 272) (by decide +kernel), List.mem_of_getElem? (i := 273) (by decide +kernel)⟩
theorem lw_p2 : lw_okq (⟨"ConstantMill$Sum", "outgrowsBound", "(I)Z"⟩, 5) := ⟨⟨by decide +kernel, by decide +kernel⟩, List.mem_of_getElem? (i := 176) (by decide +kernel), List.mem_of_getElem? (i := 300) (by decide +kernel), List.mem_of_getElem? (i := 301) (by decide +kernel)⟩
theorem lw_p3 : lw_okq (⟨"ConstantMill", "drawerAt", "(I)LConstantMill$Span;"⟩, 10) := ⟨⟨by decide +kernel, by decide +kernel⟩, List.mem_of_getElem? (i := 12) (by decide +kernel), List.mem_of_getElem? (i := 318) (by decide +kernel), List.mem_of_getElem? (i := 319) (by decide +kernel)⟩
theorem lw_p4 : lw_okq (⟨"ConstantMill$Big", "trim", "()V"⟩, 3) := ⟨⟨by decide +kernel, by decide +kernel⟩, List.mem_of_getElem? (i := 32) (by decide +kernel), List.mem_of_getElem? (i := 340) (by decide +kernel), List.mem_of_getElem? (i := 341) (by decide +kernel)⟩
theorem lw_p5 : lw_okq (⟨"ConstantMill$Big", "append", "(I)V"⟩, 3) := ⟨⟨by decide +kernel, by decide +kernel⟩, List.mem_of_getElem? (i := 32) (by decide +kernel), List.mem_of_getElem? (i := 354) (by decide +kernel), List.mem_of_getElem? (i := 355) (by decide +kernel)⟩
theorem lw_p6 : lw_okq (⟨"ConstantMill$Big", "addSize", "(LConstantMill$Big;)V"⟩, 3) := ⟨⟨by decide +kernel, by decide +kernel⟩, List.mem_of_getElem? (i := 32) (by decide +kernel), List.mem_of_getElem? (i := 370) (by decide +kernel), List.mem_of_getElem? (i := 371) (by decide +kernel)⟩
theorem lw_p7 : lw_okq (⟨"ConstantMill$Big", "putDifference", "(LConstantMill$Big;LConstantMill$Big;)V"⟩, 3) := ⟨⟨by decide +kernel, by decide +kernel⟩, List.mem_of_getElem? (i := 32) (by decide +kernel), List.mem_of_getElem? (i := 382) (by decide +kernel), List.mem_of_getElem? (i := 383) (by decide +kernel)⟩
theorem lw_p8 : lw_okq (⟨"ConstantMill$Grinder", "multiplyInto", "(LConstantMill$Big;LConstantMill$Big;LConstantMill$Big;)V"⟩, 4) := ⟨⟨by decide +kernel, by decide +kernel⟩, List.mem_of_getElem? (i := 26) (by decide +kernel), List.mem_of_getElem? (i := 402) (by decide +kernel), List.mem_of_getElem? (i := 403) (by decide +kernel)⟩
theorem lw_p9 : lw_okq (⟨"ConstantMill", "refusalOfNumber", "(IIZ)I"⟩, 10) := ⟨⟨by decide +kernel, by decide +kernel⟩, List.mem_of_getElem? (i := 12) (by decide +kernel), List.mem_of_getElem? (i := 418) (by decide +kernel), List.mem_of_getElem? (i := 419) (by decide +kernel)⟩
theorem lw_p10 : lw_okq (⟨"ConstantMill", "numberAt", "(II)LConstantMill$Big;"⟩, 10) := ⟨⟨by decide +kernel, by decide +kernel⟩, List.mem_of_getElem? (i := 12) (by decide +kernel), List.mem_of_getElem? (i := 426) (by decide +kernel), List.mem_of_getElem? (i := 427) (by decide +kernel)⟩
theorem lw_p11 : lw_okq (⟨"ConstantMill", "constantAt", "(I)LConstantMill$Constant;"⟩, 10) := ⟨⟨by decide +kernel, by decide +kernel⟩, List.mem_of_getElem? (i := 12) (by decide +kernel), List.mem_of_getElem? (i := 473) (by decide +kernel), List.mem_of_getElem? (i := 474) (by decide +kernel)⟩
theorem lw_p12 : lw_okq (⟨"ConstantMill", "firstFallOf", "(LConstantMill$Constant;I)I"⟩, 10) := ⟨⟨by decide +kernel, by decide +kernel⟩, List.mem_of_getElem? (i := 12) (by decide +kernel), List.mem_of_getElem? (i := 500) (by decide +kernel), List.mem_of_getElem? (i := 501) (by decide +kernel)⟩
theorem lw_p13 : lw_okq (⟨"ConstantMill", "tell", "(LConstantMill$Constant;IIILConstantMill$Figures;)V"⟩, 10) := ⟨⟨by decide +kernel, by decide +kernel⟩, List.mem_of_getElem? (i := 12) (by decide +kernel), List.mem_of_getElem? (i := 504) (by decide +kernel), List.mem_of_getElem? (i := 505) (by decide +kernel)⟩
theorem lw_p14 : lw_okq (⟨"ConstantMill", "enclosePart", "(IIII)V"⟩, 10) := ⟨⟨by decide +kernel, by decide +kernel⟩, List.mem_of_getElem? (i := 12) (by decide +kernel), List.mem_of_getElem? (i := 513) (by decide +kernel), List.mem_of_getElem? (i := 514) (by decide +kernel)⟩
theorem lw_p15 : lw_okq (⟨"ConstantMill$Enclosure", "addUpon", "(LConstantMill$Big;LConstantMill$Big;LConstantMill$Big;)V"⟩, 4) := ⟨⟨by decide +kernel, by decide +kernel⟩, List.mem_of_getElem? (i := 69) (by decide +kernel), List.mem_of_getElem? (i := 526) (by decide +kernel), List.mem_of_getElem? (i := 527) (by decide +kernel)⟩
def lw_privs_1 : List (MethodName × Nat) := [(⟨"ConstantMill", "sumAt", "(I)LConstantMill$Sum;"⟩, 10), (⟨"ConstantMill", "emptyDrawersOf", "(I)I"⟩, 10), (⟨"ConstantMill$Sum", "outgrowsBound", "(I)Z"⟩, 5), (⟨"ConstantMill", "drawerAt", "(I)LConstantMill$Span;"⟩, 10), (⟨"ConstantMill$Big", "trim", "()V"⟩, 3), (⟨"ConstantMill$Big", "append", "(I)V"⟩, 3), (⟨"ConstantMill$Big", "addSize", "(LConstantMill$Big;)V"⟩, 3), (⟨"ConstantMill$Big", "putDifference", "(LConstantMill$Big;LConstantMill$Big;)V"⟩, 3), (⟨"ConstantMill$Grinder", "multiplyInto", "(LConstantMill$Big;LConstantMill$Big;LConstantMill$Big;)V"⟩, 4), (⟨"ConstantMill", "refusalOfNumber", "(IIZ)I"⟩, 10), (⟨"ConstantMill", "numberAt", "(II)LConstantMill$Big;"⟩, 10), (⟨"ConstantMill", "constantAt", "(I)LConstantMill$Constant;"⟩, 10), (⟨"ConstantMill", "firstFallOf", "(LConstantMill$Constant;I)I"⟩, 10), (⟨"ConstantMill", "tell", "(LConstantMill$Constant;IIILConstantMill$Figures;)V"⟩, 10), (⟨"ConstantMill", "enclosePart", "(IIII)V"⟩, 10), (⟨"ConstantMill$Enclosure", "addUpon", "(LConstantMill$Big;LConstantMill$Big;LConstantMill$Big;)V"⟩, 4)]
theorem lw_r1 : ∀ q ∈ lw_privs_1, lw_okq q := List.forall_mem_cons.mpr ⟨lw_p0, List.forall_mem_cons.mpr ⟨lw_p1, List.forall_mem_cons.mpr ⟨lw_p2, List.forall_mem_cons.mpr ⟨lw_p3, List.forall_mem_cons.mpr ⟨lw_p4, List.forall_mem_cons.mpr ⟨lw_p5, List.forall_mem_cons.mpr ⟨lw_p6, List.forall_mem_cons.mpr ⟨lw_p7, List.forall_mem_cons.mpr ⟨lw_p8, List.forall_mem_cons.mpr ⟨lw_p9, List.forall_mem_cons.mpr ⟨lw_p10, List.forall_mem_cons.mpr ⟨lw_p11, List.forall_mem_cons.mpr ⟨lw_p12, List.forall_mem_cons.mpr ⟨lw_p13, List.forall_mem_cons.mpr ⟨lw_p14, List.forall_mem_cons.mpr ⟨lw_p15, fun _ h => absurd h List.not_mem_nil⟩⟩⟩⟩⟩⟩⟩⟩⟩⟩⟩⟩⟩⟩⟩⟩
theorem lw_p16 : lw_okq (⟨"ConstantMill$Enclosure", "scale", "()V"⟩, 4) := ⟨⟨by decide +kernel, by decide +kernel⟩, List.mem_of_getElem? (i := 69) (by decide +kernel), List.mem_of_getElem? (i := 537) (by decide +kernel), List.mem_of_getElem? (i := 538) (by decide +kernel)⟩
theorem lw_p17 : lw_okq (⟨"ConstantMill$Enclosure", "readWhole", "(LConstantMill$Big;LConstantMill$Big;LConstantMill$Figures;)Z"⟩, 4) := ⟨⟨by decide +kernel, by decide +kernel⟩, List.mem_of_getElem? (i := 69) (by decide +kernel), List.mem_of_getElem? (i := 545) (by decide +kernel), List.mem_of_getElem? (i := 546) (by decide +kernel)⟩
theorem lw_p18 : lw_okq (⟨"ConstantMill$Big", "takeAway", "(JLConstantMill$Big;)J"⟩, 3) := ⟨⟨by decide +kernel, by decide +kernel⟩, List.mem_of_getElem? (i := 32) (by decide +kernel), List.mem_of_getElem? (i := 557) (by decide +kernel), List.mem_of_getElem? (i := 558) (by decide +kernel)⟩
theorem lw_p19 : lw_okq (⟨"ConstantMill$Big", "putBack", "(LConstantMill$Big;)I"⟩, 3) := ⟨⟨by decide +kernel, by decide +kernel⟩, List.mem_of_getElem? (i := 32) (by decide +kernel), List.mem_of_getElem? (i := 561) (by decide +kernel), List.mem_of_getElem? (i := 562) (by decide +kernel)⟩
theorem lw_p20 : lw_okq (⟨"ConstantMill$Enclosure", "readFigures", "(LConstantMill$Big;LConstantMill$Big;LConstantMill$Figures;)V"⟩, 4) := ⟨⟨by decide +kernel, by decide +kernel⟩, List.mem_of_getElem? (i := 69) (by decide +kernel), List.mem_of_getElem? (i := 565) (by decide +kernel), List.mem_of_getElem? (i := 566) (by decide +kernel)⟩
theorem lw_p21 : lw_okq (⟨"ConstantMill", "mostTermsOf", "(LConstantMill$Constant;)I"⟩, 10) := ⟨⟨by decide +kernel, by decide +kernel⟩, List.mem_of_getElem? (i := 12) (by decide +kernel), List.mem_of_getElem? (i := 578) (by decide +kernel), List.mem_of_getElem? (i := 579) (by decide +kernel)⟩
theorem lw_p22 : lw_okq (⟨"ConstantMill$Figures", "comesAt", "(III)Z"⟩, 8) := ⟨⟨by decide +kernel, by decide +kernel⟩, List.mem_of_getElem? (i := 137) (by decide +kernel), List.mem_of_getElem? (i := 615) (by decide +kernel), List.mem_of_getElem? (i := 616) (by decide +kernel)⟩
theorem lw_p23 : lw_okq (⟨"ConstantMillModel", "emptied", "(I)I"⟩, 26) := ⟨⟨by decide +kernel, by decide +kernel⟩, List.mem_of_getElem? (i := 632) (by decide +kernel), List.mem_of_getElem? (i := 733) (by decide +kernel), List.mem_of_getElem? (i := 734) (by decide +kernel)⟩
theorem lw_p24 : lw_okq (⟨"ConstantMillModel", "value", "(III)I"⟩, 26) := ⟨⟨by decide +kernel, by decide +kernel⟩, List.mem_of_getElem? (i := 632) (by decide +kernel), List.mem_of_getElem? (i := 748) (by decide +kernel), List.mem_of_getElem? (i := 749) (by decide +kernel)⟩
theorem lw_p25 : lw_okq (⟨"ConstantMillModel", "fall", "(IIIZ)I"⟩, 26) := ⟨⟨by decide +kernel, by decide +kernel⟩, List.mem_of_getElem? (i := 632) (by decide +kernel), List.mem_of_getElem? (i := 758) (by decide +kernel), List.mem_of_getElem? (i := 759) (by decide +kernel)⟩
theorem lw_p26 : lw_okq (⟨"ConstantMillModel", "isSteep", "(II)Z"⟩, 26) := ⟨⟨by decide +kernel, by decide +kernel⟩, List.mem_of_getElem? (i := 632) (by decide +kernel), List.mem_of_getElem? (i := 762) (by decide +kernel), List.mem_of_getElem? (i := 763) (by decide +kernel)⟩
theorem lw_p27 : lw_okq (⟨"ConstantMillModel", "begin", "(I)V"⟩, 26) := ⟨⟨by decide +kernel, by decide +kernel⟩, List.mem_of_getElem? (i := 632) (by decide +kernel), List.mem_of_getElem? (i := 784) (by decide +kernel), List.mem_of_getElem? (i := 785) (by decide +kernel)⟩
theorem lw_p28 : lw_okq (⟨"ConstantMillModel", "set", "(IJ)V"⟩, 26) := ⟨⟨by decide +kernel, by decide +kernel⟩, List.mem_of_getElem? (i := 632) (by decide +kernel), List.mem_of_getElem? (i := 788) (by decide +kernel), List.mem_of_getElem? (i := 789) (by decide +kernel)⟩
theorem lw_p29 : lw_okq (⟨"ConstantMillModel", "go", "(III)V"⟩, 26) := ⟨⟨by decide +kernel, by decide +kernel⟩, List.mem_of_getElem? (i := 632) (by decide +kernel), List.mem_of_getElem? (i := 792) (by decide +kernel), List.mem_of_getElem? (i := 793) (by decide +kernel)⟩
theorem lw_p30 : lw_okq (⟨"ConstantMillModel", "times", "(II)V"⟩, 26) := ⟨⟨by decide +kernel, by decide +kernel⟩, List.mem_of_getElem? (i := 632) (by decide +kernel), List.mem_of_getElem? (i := 796) (by decide +kernel), List.mem_of_getElem? (i := 797) (by decide +kernel)⟩
theorem lw_p31 : lw_okq (⟨"ConstantMillModel", "multiply", "(III)V"⟩, 26) := ⟨⟨by decide +kernel, by decide +kernel⟩, List.mem_of_getElem? (i := 632) (by decide +kernel), List.mem_of_getElem? (i := 800) (by decide +kernel), List.mem_of_getElem? (i := 801) (by decide +kernel)⟩
def lw_privs_2 : List (MethodName × Nat) := [(⟨"ConstantMill$Enclosure", "scale", "()V"⟩, 4), (⟨"ConstantMill$Enclosure", "readWhole", "(LConstantMill$Big;LConstantMill$Big;LConstantMill$Figures;)Z"⟩, 4), (⟨"ConstantMill$Big", "takeAway", "(JLConstantMill$Big;)J"⟩, 3), (⟨"ConstantMill$Big", "putBack", "(LConstantMill$Big;)I"⟩, 3), (⟨"ConstantMill$Enclosure", "readFigures", "(LConstantMill$Big;LConstantMill$Big;LConstantMill$Figures;)V"⟩, 4), (⟨"ConstantMill", "mostTermsOf", "(LConstantMill$Constant;)I"⟩, 10), (⟨"ConstantMill$Figures", "comesAt", "(III)Z"⟩, 8), (⟨"ConstantMillModel", "emptied", "(I)I"⟩, 26), (⟨"ConstantMillModel", "value", "(III)I"⟩, 26), (⟨"ConstantMillModel", "fall", "(IIIZ)I"⟩, 26), (⟨"ConstantMillModel", "isSteep", "(II)Z"⟩, 26), (⟨"ConstantMillModel", "begin", "(I)V"⟩, 26), (⟨"ConstantMillModel", "set", "(IJ)V"⟩, 26), (⟨"ConstantMillModel", "go", "(III)V"⟩, 26), (⟨"ConstantMillModel", "times", "(II)V"⟩, 26), (⟨"ConstantMillModel", "multiply", "(III)V"⟩, 26)]
theorem lw_r2 : ∀ q ∈ lw_privs_2, lw_okq q := List.forall_mem_cons.mpr ⟨lw_p16, List.forall_mem_cons.mpr ⟨lw_p17, List.forall_mem_cons.mpr ⟨lw_p18, List.forall_mem_cons.mpr ⟨lw_p19, List.forall_mem_cons.mpr ⟨lw_p20, List.forall_mem_cons.mpr ⟨lw_p21, List.forall_mem_cons.mpr ⟨lw_p22, List.forall_mem_cons.mpr ⟨lw_p23, List.forall_mem_cons.mpr ⟨lw_p24, List.forall_mem_cons.mpr ⟨lw_p25, List.forall_mem_cons.mpr ⟨lw_p26, List.forall_mem_cons.mpr ⟨lw_p27, List.forall_mem_cons.mpr ⟨lw_p28, List.forall_mem_cons.mpr ⟨lw_p29, List.forall_mem_cons.mpr ⟨lw_p30, List.forall_mem_cons.mpr ⟨lw_p31, fun _ h => absurd h List.not_mem_nil⟩⟩⟩⟩⟩⟩⟩⟩⟩⟩⟩⟩⟩⟩⟩⟩
theorem lw_p32 : lw_okq (⟨"ConstantMillModel", "trim", "(I)V"⟩, 26) := ⟨⟨by decide +kernel, by decide +kernel⟩, List.mem_of_getElem? (i := 632) (by decide +kernel), List.mem_of_getElem? (i := 804) (by decide +kernel), List.mem_of_getElem? (i := 805) (by decide +kernel)⟩
theorem lw_p33 : lw_okq (⟨"ConstantMillModel", "add", "(IIZ)V"⟩, 26) := ⟨⟨by decide +kernel, by decide +kernel⟩, List.mem_of_getElem? (i := 632) (by decide +kernel), List.mem_of_getElem? (i := 808) (by decide +kernel), List.mem_of_getElem? (i := 809) (by decide +kernel)⟩
theorem lw_p34 : lw_okq (⟨"ConstantMillModel", "gain", "(II)V"⟩, 26) := ⟨⟨by decide +kernel, by decide +kernel⟩, List.mem_of_getElem? (i := 632) (by decide +kernel), List.mem_of_getElem? (i := 812) (by decide +kernel), List.mem_of_getElem? (i := 813) (by decide +kernel)⟩
theorem lw_p35 : lw_okq (⟨"ConstantMillModel", "order", "(II)I"⟩, 26) := ⟨⟨by decide +kernel, by decide +kernel⟩, List.mem_of_getElem? (i := 632) (by decide +kernel), List.mem_of_getElem? (i := 816) (by decide +kernel), List.mem_of_getElem? (i := 817) (by decide +kernel)⟩
theorem lw_p36 : lw_okq (⟨"ConstantMillModel", "lose", "(II)V"⟩, 26) := ⟨⟨by decide +kernel, by decide +kernel⟩, List.mem_of_getElem? (i := 632) (by decide +kernel), List.mem_of_getElem? (i := 820) (by decide +kernel), List.mem_of_getElem? (i := 821) (by decide +kernel)⟩
theorem lw_p37 : lw_okq (⟨"ConstantMillModel", "copy", "(II)V"⟩, 26) := ⟨⟨by decide +kernel, by decide +kernel⟩, List.mem_of_getElem? (i := 632) (by decide +kernel), List.mem_of_getElem? (i := 824) (by decide +kernel), List.mem_of_getElem? (i := 825) (by decide +kernel)⟩
theorem lw_p38 : lw_okq (⟨"ConstantMillModel", "bars", "(IZ)I"⟩, 26) := ⟨⟨by decide +kernel, by decide +kernel⟩, List.mem_of_getElem? (i := 632) (by decide +kernel), List.mem_of_getElem? (i := 849) (by decide +kernel), List.mem_of_getElem? (i := 850) (by decide +kernel)⟩
theorem lw_p39 : lw_okq (⟨"ConstantMillModel", "fallOf", "(II)I"⟩, 26) := ⟨⟨by decide +kernel, by decide +kernel⟩, List.mem_of_getElem? (i := 632) (by decide +kernel), List.mem_of_getElem? (i := 895) (by decide +kernel), List.mem_of_getElem? (i := 896) (by decide +kernel)⟩
theorem lw_p40 : lw_okq (⟨"ConstantMillModel", "build", "(II)V"⟩, 26) := ⟨⟨by decide +kernel, by decide +kernel⟩, List.mem_of_getElem? (i := 632) (by decide +kernel), List.mem_of_getElem? (i := 899) (by decide +kernel), List.mem_of_getElem? (i := 900) (by decide +kernel)⟩
theorem lw_p41 : lw_okq (⟨"ConstantMillModel", "beginParts", "(I)V"⟩, 26) := ⟨⟨by decide +kernel, by decide +kernel⟩, List.mem_of_getElem? (i := 632) (by decide +kernel), List.mem_of_getElem? (i := 903) (by decide +kernel), List.mem_of_getElem? (i := 904) (by decide +kernel)⟩
theorem lw_p42 : lw_okq (⟨"ConstantMillModel", "goParts", "(II)V"⟩, 26) := ⟨⟨by decide +kernel, by decide +kernel⟩, List.mem_of_getElem? (i := 632) (by decide +kernel), List.mem_of_getElem? (i := 907) (by decide +kernel), List.mem_of_getElem? (i := 908) (by decide +kernel)⟩
theorem lw_p43 : lw_okq (⟨"ConstantMillModel", "look", "(IIII)V"⟩, 26) := ⟨⟨by decide +kernel, by decide +kernel⟩, List.mem_of_getElem? (i := 632) (by decide +kernel), List.mem_of_getElem? (i := 911) (by decide +kernel), List.mem_of_getElem? (i := 912) (by decide +kernel)⟩
theorem lw_p44 : lw_okq (⟨"ConstantMillModel", "combine", "(II)V"⟩, 26) := ⟨⟨by decide +kernel, by decide +kernel⟩, List.mem_of_getElem? (i := 632) (by decide +kernel), List.mem_of_getElem? (i := 915) (by decide +kernel), List.mem_of_getElem? (i := 916) (by decide +kernel)⟩
theorem lw_p45 : lw_okq (⟨"ConstantMillModel", "widen", "(IZ)V"⟩, 26) := ⟨⟨by decide +kernel, by decide +kernel⟩, List.mem_of_getElem? (i := 632) (by decide +kernel), List.mem_of_getElem? (i := 919) (by decide +kernel), List.mem_of_getElem? (i := 920) (by decide +kernel)⟩
theorem lw_p46 : lw_okq (⟨"ConstantMillModel", "wholeOf", "(I)J"⟩, 26) := ⟨⟨by decide +kernel, by decide +kernel⟩, List.mem_of_getElem? (i := 632) (by decide +kernel), List.mem_of_getElem? (i := 923) (by decide +kernel), List.mem_of_getElem? (i := 924) (by decide +kernel)⟩
theorem lw_p47 : lw_okq (⟨"ConstantMillModel", "up", "(II)V"⟩, 26) := ⟨⟨by decide +kernel, by decide +kernel⟩, List.mem_of_getElem? (i := 632) (by decide +kernel), List.mem_of_getElem? (i := 927) (by decide +kernel), List.mem_of_getElem? (i := 928) (by decide +kernel)⟩
def lw_privs_3 : List (MethodName × Nat) := [(⟨"ConstantMillModel", "trim", "(I)V"⟩, 26), (⟨"ConstantMillModel", "add", "(IIZ)V"⟩, 26), (⟨"ConstantMillModel", "gain", "(II)V"⟩, 26), (⟨"ConstantMillModel", "order", "(II)I"⟩, 26), (⟨"ConstantMillModel", "lose", "(II)V"⟩, 26), (⟨"ConstantMillModel", "copy", "(II)V"⟩, 26), (⟨"ConstantMillModel", "bars", "(IZ)I"⟩, 26), (⟨"ConstantMillModel", "fallOf", "(II)I"⟩, 26), (⟨"ConstantMillModel", "build", "(II)V"⟩, 26), (⟨"ConstantMillModel", "beginParts", "(I)V"⟩, 26), (⟨"ConstantMillModel", "goParts", "(II)V"⟩, 26), (⟨"ConstantMillModel", "look", "(IIII)V"⟩, 26), (⟨"ConstantMillModel", "combine", "(II)V"⟩, 26), (⟨"ConstantMillModel", "widen", "(IZ)V"⟩, 26), (⟨"ConstantMillModel", "wholeOf", "(I)J"⟩, 26), (⟨"ConstantMillModel", "up", "(II)V"⟩, 26)]
theorem lw_r3 : ∀ q ∈ lw_privs_3, lw_okq q := List.forall_mem_cons.mpr ⟨lw_p32, List.forall_mem_cons.mpr ⟨lw_p33, List.forall_mem_cons.mpr ⟨lw_p34, List.forall_mem_cons.mpr ⟨lw_p35, List.forall_mem_cons.mpr ⟨lw_p36, List.forall_mem_cons.mpr ⟨lw_p37, List.forall_mem_cons.mpr ⟨lw_p38, List.forall_mem_cons.mpr ⟨lw_p39, List.forall_mem_cons.mpr ⟨lw_p40, List.forall_mem_cons.mpr ⟨lw_p41, List.forall_mem_cons.mpr ⟨lw_p42, List.forall_mem_cons.mpr ⟨lw_p43, List.forall_mem_cons.mpr ⟨lw_p44, List.forall_mem_cons.mpr ⟨lw_p45, List.forall_mem_cons.mpr ⟨lw_p46, List.forall_mem_cons.mpr ⟨lw_p47, fun _ h => absurd h List.not_mem_nil⟩⟩⟩⟩⟩⟩⟩⟩⟩⟩⟩⟩⟩⟩⟩⟩
theorem lw_p48 : lw_okq (⟨"ConstantMillModel", "half", "(I)V"⟩, 26) := ⟨⟨by decide +kernel, by decide +kernel⟩, List.mem_of_getElem? (i := 632) (by decide +kernel), List.mem_of_getElem? (i := 932) (by decide +kernel), List.mem_of_getElem? (i := 933) (by decide +kernel)⟩
theorem lw_p49 : lw_okq (⟨"ConstantMillModel", "nextOf", "(II)I"⟩, 26) := ⟨⟨by decide +kernel, by decide +kernel⟩, List.mem_of_getElem? (i := 632) (by decide +kernel), List.mem_of_getElem? (i := 936) (by decide +kernel), List.mem_of_getElem? (i := 937) (by decide +kernel)⟩
theorem lw_p50 : lw_okq (⟨"ConstantMillModel", "isSure", "(I)Z"⟩, 26) := ⟨⟨by decide +kernel, by decide +kernel⟩, List.mem_of_getElem? (i := 632) (by decide +kernel), List.mem_of_getElem? (i := 956) (by decide +kernel), List.mem_of_getElem? (i := 957) (by decide +kernel)⟩
def lw_privs_4 : List (MethodName × Nat) := [(⟨"ConstantMillModel", "half", "(I)V"⟩, 26), (⟨"ConstantMillModel", "nextOf", "(II)I"⟩, 26), (⟨"ConstantMillModel", "isSure", "(I)Z"⟩, 26)]
theorem lw_r4 : ∀ q ∈ lw_privs_4, lw_okq q := List.forall_mem_cons.mpr ⟨lw_p48, List.forall_mem_cons.mpr ⟨lw_p49, List.forall_mem_cons.mpr ⟨lw_p50, fun _ h => absurd h List.not_mem_nil⟩⟩⟩
def lw_privs : List (MethodName × Nat) := lw_privs_1 ++ (lw_privs_2 ++ (lw_privs_3 ++ (lw_privs_4)))
def lw_tbl : List Cond := k2_sels lw_privs ++ tables_1
theorem lw_privs_ok : ∀ q ∈ lw_privs, lw_okq q := by
  show ∀ q ∈ lw_privs_1 ++ (lw_privs_2 ++ (lw_privs_3 ++ (lw_privs_4))), lw_okq q
  exact List.forall_mem_append.mpr ⟨lw_r1, List.forall_mem_append.mpr ⟨lw_r2, List.forall_mem_append.mpr ⟨lw_r3, lw_r4⟩⟩⟩
-- end of PART A
end
section
def RX0 : String := "ConstantMill$Big"
def TX0 : u_T := fun k => match k with
  | 0 => ("ConstantMill$Big", "limbs", "[I", true)
  | 1 => ("ConstantMill$Big", "size", "I", false)
  | _ => ("ConstantMill$Big", "below", "Z", false)
def tyX0 : Nat → FieldType := fun k => match k with
  | 0 => .array .int
  | 1 => .int
  | _ => .boolean
theorem nmX0 : ∀ a, a < 3 → ∀ b, b < 3 → a ≠ b → (TX0 a).2.1 ≠ (TX0 b).2.1 := by decide +kernel
theorem tyX0_ok : ∀ k, k < 3 → parseFieldDescriptor (TX0 k).2.2.1 = some (tyX0 k) := by decide +kernel
abbrev cX0_init : ByteArray := prog_2_method_1_code
def yX0_init : MethodName := ⟨RX0, "<init>", "(I)V"⟩
abbrev cX0_put : ByteArray := prog_2_method_2_code
def yX0_put : MethodName := ⟨RX0, "put", "(I)V"⟩
abbrev cX0_copy : ByteArray := prog_2_method_3_code
def yX0_copy : MethodName := ⟨RX0, "copy", "(LConstantMill$Big;)V"⟩
abbrev cX0_negate : ByteArray := prog_2_method_4_code
def yX0_negate : MethodName := ⟨RX0, "negate", "()V"⟩
abbrev cX0_times : ByteArray := prog_2_method_5_code
def yX0_times : MethodName := ⟨RX0, "times", "(I)V"⟩
abbrev cX0_append : ByteArray := prog_2_method_6_code
def yX0_append : MethodName := ⟨RX0, "append", "(I)V"⟩
abbrev cX0_trim : ByteArray := prog_2_method_7_code
def yX0_trim : MethodName := ⟨RX0, "trim", "()V"⟩
abbrev cX0_plus : ByteArray := prog_2_method_8_code
def yX0_plus : MethodName := ⟨RX0, "plus", "(LConstantMill$Big;)V"⟩
abbrev cX0_addSize : ByteArray := prog_2_method_9_code
def yX0_addSize : MethodName := ⟨RX0, "addSize", "(LConstantMill$Big;)V"⟩
abbrev cX0_putDifference : ByteArray := prog_2_method_10_code
def yX0_putDifference : MethodName := ⟨RX0, "putDifference", "(LConstantMill$Big;LConstantMill$Big;)V"⟩
abbrev cX0_product : ByteArray := prog_2_method_11_code
def yX0_product : MethodName := ⟨RX0, "product", "(LConstantMill$Big;LConstantMill$Big;)V"⟩
abbrev cX0_compareSizes : ByteArray := prog_2_method_12_code
def yX0_compareSizes : MethodName := ⟨RX0, "compareSizes", "(LConstantMill$Big;)I"⟩
abbrev cX0_isLike : ByteArray := prog_2_method_13_code
def yX0_isLike : MethodName := ⟨RX0, "isLike", "(LConstantMill$Big;)Z"⟩
abbrev cX0_bitLength : ByteArray := prog_2_method_14_code
def yX0_bitLength : MethodName := ⟨RX0, "bitLength", "()I"⟩
abbrev cX0_modulo : ByteArray := prog_2_method_15_code
def yX0_modulo : MethodName := ⟨RX0, "modulo", "(I)I"⟩
abbrev cX0_sixteenBits : ByteArray := prog_2_method_16_code
def yX0_sixteenBits : MethodName := ⟨RX0, "sixteenBits", "(I)I"⟩
abbrev cX0_takeQuotient : ByteArray := prog_2_method_17_code
def yX0_takeQuotient : MethodName := ⟨RX0, "takeQuotient", "(ILConstantMill$Big;)I"⟩
abbrev cX0_takeAway : ByteArray := prog_2_method_18_code
def yX0_takeAway : MethodName := ⟨RX0, "takeAway", "(JLConstantMill$Big;)J"⟩
abbrev cX0_putBack : ByteArray := prog_2_method_19_code
def yX0_putBack : MethodName := ⟨RX0, "putBack", "(LConstantMill$Big;)I"⟩
def RX1 : String := "ConstantMill$Constant"
def TX1 : u_T := fun k => match k with
  | 0 => ("ConstantMill$Constant", "sumOf", "[I", true)
  | 1 => ("ConstantMill$Constant", "above", "[I", true)
  | 2 => ("ConstantMill$Constant", "below", "[I", true)
  | _ => ("ConstantMill$Constant", "parts", "I", false)
def tyX1 : Nat → FieldType := fun k => match k with
  | 0 => .array .int
  | 1 => .array .int
  | 2 => .array .int
  | _ => .int
theorem nmX1 : ∀ a, a < 4 → ∀ b, b < 4 → a ≠ b → (TX1 a).2.1 ≠ (TX1 b).2.1 := by decide +kernel
theorem tyX1_ok : ∀ k, k < 4 → parseFieldDescriptor (TX1 k).2.2.1 = some (tyX1 k) := by decide +kernel
abbrev cX1_init : ByteArray := prog_3_method_1_code
def yX1_init : MethodName := ⟨RX1, "<init>", "()V"⟩
abbrev cX1_addPart : ByteArray := prog_3_method_2_code
def yX1_addPart : MethodName := ⟨RX1, "addPart", "(III)Z"⟩
def RX2 : String := "ConstantMill$Enclosure"
def TX2 : u_T := fun k => match k with
  | 0 => ("ConstantMill$Enclosure", "low", "LConstantMill$Big;", true)
  | 1 => ("ConstantMill$Enclosure", "high", "LConstantMill$Big;", true)
  | 2 => ("ConstantMill$Enclosure", "under", "LConstantMill$Big;", true)
  | _ => ("ConstantMill$Enclosure", "spare", "LConstantMill$Big;", true)
def tyX2 : Nat → FieldType := fun k => match k with
  | 0 => .object "ConstantMill$Big"
  | 1 => .object "ConstantMill$Big"
  | 2 => .object "ConstantMill$Big"
  | _ => .object "ConstantMill$Big"
theorem nmX2 : ∀ a, a < 4 → ∀ b, b < 4 → a ≠ b → (TX2 a).2.1 ≠ (TX2 b).2.1 := by decide +kernel
theorem tyX2_ok : ∀ k, k < 4 → parseFieldDescriptor (TX2 k).2.2.1 = some (tyX2 k) := by decide +kernel
abbrev cX2_init : ByteArray := prog_4_method_1_code
def yX2_init : MethodName := ⟨RX2, "<init>", "()V"⟩
abbrev cX2_open : ByteArray := prog_4_method_2_code
def yX2_open : MethodName := ⟨RX2, "open", "()V"⟩
abbrev cX2_add : ByteArray := prog_4_method_3_code
def yX2_add : MethodName := ⟨RX2, "add", "(LConstantMill$Big;LConstantMill$Big;LConstantMill$Big;)V"⟩
abbrev cX2_addUpon : ByteArray := prog_4_method_4_code
def yX2_addUpon : MethodName := ⟨RX2, "addUpon", "(LConstantMill$Big;LConstantMill$Big;LConstantMill$Big;)V"⟩
abbrev cX2_read : ByteArray := prog_4_method_5_code
def yX2_read : MethodName := ⟨RX2, "read", "(LConstantMill$Figures;)V"⟩
abbrev cX2_scale : ByteArray := prog_4_method_6_code
def yX2_scale : MethodName := ⟨RX2, "scale", "()V"⟩
abbrev cX2_readWhole : ByteArray := prog_4_method_7_code
def yX2_readWhole : MethodName := ⟨RX2, "readWhole", "(LConstantMill$Big;LConstantMill$Big;LConstantMill$Figures;)Z"⟩
abbrev cX2_readFigures : ByteArray := prog_4_method_8_code
def yX2_readFigures : MethodName := ⟨RX2, "readFigures", "(LConstantMill$Big;LConstantMill$Big;LConstantMill$Figures;)V"⟩
def RX3 : String := "ConstantMill$Figures"
def TX3 : u_T := fun k => match k with
  | 0 => ("ConstantMill$Figures", "row", "[I", true)
  | 1 => ("ConstantMill$Figures", "constant", "I", false)
  | 2 => ("ConstantMill$Figures", "base", "I", false)
  | 3 => ("ConstantMill$Figures", "most", "I", false)
  | 4 => ("ConstantMill$Figures", "terms", "I", false)
  | 5 => ("ConstantMill$Figures", "sign", "I", false)
  | 6 => ("ConstantMill$Figures", "sure", "I", false)
  | _ => ("ConstantMill$Figures", "whole", "J", false)
def tyX3 : Nat → FieldType := fun k => match k with
  | 0 => .array .int
  | 1 => .int
  | 2 => .int
  | 3 => .int
  | 4 => .int
  | 5 => .int
  | 6 => .int
  | _ => .long
theorem nmX3 : ∀ a, a < 8 → ∀ b, b < 8 → a ≠ b → (TX3 a).2.1 ≠ (TX3 b).2.1 := by decide +kernel
theorem tyX3_ok : ∀ k, k < 8 → parseFieldDescriptor (TX3 k).2.2.1 = some (tyX3 k) := by decide +kernel
abbrev cX3_init : ByteArray := prog_5_method_1_code
def yX3_init : MethodName := ⟨RX3, "<init>", "()V"⟩
abbrev cX3_behindPoint : ByteArray := prog_5_method_2_code
def yX3_behindPoint : MethodName := ⟨RX3, "behindPoint", "(I)I"⟩
abbrev cX3_howOften : ByteArray := prog_5_method_3_code
def yX3_howOften : MethodName := ⟨RX3, "howOften", "(I)I"⟩
abbrev cX3_placeOf : ByteArray := prog_5_method_4_code
def yX3_placeOf : MethodName := ⟨RX3, "placeOf", "(II)I"⟩
abbrev cX3_comesAt : ByteArray := prog_5_method_5_code
def yX3_comesAt : MethodName := ⟨RX3, "comesAt", "(III)Z"⟩
abbrev cX3_firstDifference : ByteArray := prog_5_method_6_code
def yX3_firstDifference : MethodName := ⟨RX3, "firstDifference", "(LConstantMill$Figures;)I"⟩
abbrev cX3_take : ByteArray := prog_5_method_7_code
def yX3_take : MethodName := ⟨RX3, "take", "(III)Z"⟩
def RX4 : String := "ConstantMill$Grinder"
def TX4 : u_T := fun k => match k with
  | 0 => ("ConstantMill$Grinder", "ahead", "LConstantMill$Big;", true)
  | 1 => ("ConstantMill$Grinder", "addend", "LConstantMill$Big;", true)
  | 2 => ("ConstantMill$Grinder", "first", "LConstantMill$Big;", true)
  | _ => ("ConstantMill$Grinder", "second", "LConstantMill$Big;", true)
def tyX4 : Nat → FieldType := fun k => match k with
  | 0 => .object "ConstantMill$Big"
  | 1 => .object "ConstantMill$Big"
  | 2 => .object "ConstantMill$Big"
  | _ => .object "ConstantMill$Big"
theorem nmX4 : ∀ a, a < 4 → ∀ b, b < 4 → a ≠ b → (TX4 a).2.1 ≠ (TX4 b).2.1 := by decide +kernel
theorem tyX4_ok : ∀ k, k < 4 → parseFieldDescriptor (TX4 k).2.2.1 = some (tyX4 k) := by decide +kernel
abbrev cX4_init : ByteArray := prog_6_method_1_code
def yX4_init : MethodName := ⟨RX4, "<init>", "()V"⟩
abbrev cX4_goOn : ByteArray := prog_6_method_2_code
def yX4_goOn : MethodName := ⟨RX4, "goOn", "(LConstantMill$Span;LConstantMill$Sum;I)V"⟩
abbrev cX4_putTogether : ByteArray := prog_6_method_3_code
def yX4_putTogether : MethodName := ⟨RX4, "putTogether", "(LConstantMill$Span;LConstantMill$Span;LConstantMill$Span;)V"⟩
abbrev cX4_multiplyInto : ByteArray := prog_6_method_4_code
def yX4_multiplyInto : MethodName := ⟨RX4, "multiplyInto", "(LConstantMill$Big;LConstantMill$Big;LConstantMill$Big;)V"⟩
def RX5 : String := "ConstantMill$Span"
def TX5 : u_T := fun k => match k with
  | 0 => ("ConstantMill$Span", "p", "LConstantMill$Big;", true)
  | 1 => ("ConstantMill$Span", "q", "LConstantMill$Big;", true)
  | 2 => ("ConstantMill$Span", "b", "LConstantMill$Big;", true)
  | 3 => ("ConstantMill$Span", "t", "LConstantMill$Big;", true)
  | 4 => ("ConstantMill$Span", "filled", "Z", false)
  | 5 => ("ConstantMill$Span", "sum", "I", false)
  | 6 => ("ConstantMill$Span", "from", "I", false)
  | _ => ("ConstantMill$Span", "to", "I", false)
def tyX5 : Nat → FieldType := fun k => match k with
  | 0 => .object "ConstantMill$Big"
  | 1 => .object "ConstantMill$Big"
  | 2 => .object "ConstantMill$Big"
  | 3 => .object "ConstantMill$Big"
  | 4 => .boolean
  | 5 => .int
  | 6 => .int
  | _ => .int
theorem nmX5 : ∀ a, a < 8 → ∀ b, b < 8 → a ≠ b → (TX5 a).2.1 ≠ (TX5 b).2.1 := by decide +kernel
theorem tyX5_ok : ∀ k, k < 8 → parseFieldDescriptor (TX5 k).2.2.1 = some (tyX5 k) := by decide +kernel
abbrev cX5_init : ByteArray := prog_7_method_1_code
def yX5_init : MethodName := ⟨RX5, "<init>", "()V"⟩
abbrev cX5_open : ByteArray := prog_7_method_2_code
def yX5_open : MethodName := ⟨RX5, "open", "(II)V"⟩
abbrev cX5_terms : ByteArray := prog_7_method_3_code
def yX5_terms : MethodName := ⟨RX5, "terms", "()I"⟩
abbrev cX5_number : ByteArray := prog_7_method_4_code
def yX5_number : MethodName := ⟨RX5, "number", "(I)LConstantMill$Big;"⟩
abbrev cX5_hasNumbersOf : ByteArray := prog_7_method_5_code
def yX5_hasNumbersOf : MethodName := ⟨RX5, "hasNumbersOf", "(LConstantMill$Span;)Z"⟩
def RX6 : String := "ConstantMill$Sum"
def TX6 : u_T := fun k => match k with
  | 0 => ("ConstantMill$Sum", "c0", "[I", true)
  | 1 => ("ConstantMill$Sum", "c1", "[I", true)
  | 2 => ("ConstantMill$Sum", "c2", "[I", true)
  | 3 => ("ConstantMill$Sum", "u", "I", false)
  | _ => ("ConstantMill$Sum", "v", "I", false)
def tyX6 : Nat → FieldType := fun k => match k with
  | 0 => .array .int
  | 1 => .array .int
  | 2 => .array .int
  | 3 => .int
  | _ => .int
theorem nmX6 : ∀ a, a < 5 → ∀ b, b < 5 → a ≠ b → (TX6 a).2.1 ≠ (TX6 b).2.1 := by decide +kernel
theorem tyX6_ok : ∀ k, k < 5 → parseFieldDescriptor (TX6 k).2.2.1 = some (tyX6 k) := by decide +kernel
abbrev cX6_init : ByteArray := prog_8_method_1_code
def yX6_init : MethodName := ⟨RX6, "<init>", "()V"⟩
abbrev cX6_setRule : ByteArray := prog_8_method_2_code
def yX6_setRule : MethodName := ⟨RX6, "setRule", "(IIII)V"⟩
abbrev cX6_value : ByteArray := prog_8_method_3_code
def yX6_value : MethodName := ⟨RX6, "value", "(II)I"⟩
abbrev cX6_firstFall : ByteArray := prog_8_method_4_code
def yX6_firstFall : MethodName := ⟨RX6, "firstFall", "(III)I"⟩
abbrev cX6_outgrowsBound : ByteArray := prog_8_method_5_code
def yX6_outgrowsBound : MethodName := ⟨RX6, "outgrowsBound", "(I)Z"⟩
abbrev cX6_upper : ByteArray := prog_8_method_6_code
def yX6_upper : MethodName := ⟨RX6, "upper", "(JJ)J"⟩
abbrev cX6_lower : ByteArray := prog_8_method_7_code
def yX6_lower : MethodName := ⟨RX6, "lower", "(JJ)J"⟩
def RX7 : String := "ConstantMill"
def TX7 : u_T := fun k => match k with
  | 0 => ("ConstantMill", "sums", "[LConstantMill$Sum;", true)
  | 1 => ("ConstantMill", "drawers", "[LConstantMill$Span;", true)
  | 2 => ("ConstantMill", "constants", "[LConstantMill$Constant;", true)
  | 3 => ("ConstantMill", "grinder", "LConstantMill$Grinder;", true)
  | 4 => ("ConstantMill", "enclosure", "LConstantMill$Enclosure;", true)
  | 5 => ("ConstantMill", "partSpan", "LConstantMill$Span;", true)
  | 6 => ("ConstantMill", "result", "LConstantMill$Figures;", true)
  | 7 => ("ConstantMill", "firstTrial", "LConstantMill$Figures;", true)
  | 8 => ("ConstantMill", "secondTrial", "LConstantMill$Figures;", true)
  | _ => ("ConstantMill", "hasResult", "Z", false)
def tyX7 : Nat → FieldType := fun k => match k with
  | 0 => .array (.object "ConstantMill$Sum")
  | 1 => .array (.object "ConstantMill$Span")
  | 2 => .array (.object "ConstantMill$Constant")
  | 3 => .object "ConstantMill$Grinder"
  | 4 => .object "ConstantMill$Enclosure"
  | 5 => .object "ConstantMill$Span"
  | 6 => .object "ConstantMill$Figures"
  | 7 => .object "ConstantMill$Figures"
  | 8 => .object "ConstantMill$Figures"
  | _ => .boolean
theorem nmX7 : ∀ a, a < 10 → ∀ b, b < 10 → a ≠ b → (TX7 a).2.1 ≠ (TX7 b).2.1 := by decide +kernel
theorem tyX7_ok : ∀ k, k < 10 → parseFieldDescriptor (TX7 k).2.2.1 = some (tyX7 k) := by decide +kernel
abbrev cX7_init : ByteArray := prog_1_method_1_code
def yX7_init : MethodName := ⟨RX7, "<init>", "()V"⟩
abbrev cX7_rule : ByteArray := prog_1_method_2_code
def yX7_rule : MethodName := ⟨RX7, "rule", "(IIIII)I"⟩
abbrev cX7_bound : ByteArray := prog_1_method_3_code
def yX7_bound : MethodName := ⟨RX7, "bound", "(III)I"⟩
abbrev cX7_at : ByteArray := prog_1_method_4_code
def yX7_at : MethodName := ⟨RX7, "at", "(III)I"⟩
abbrev cX7_falls : ByteArray := prog_1_method_5_code
def yX7_falls : MethodName := ⟨RX7, "falls", "(II)I"⟩
abbrev cX7_grind : ByteArray := prog_1_method_6_code
def yX7_grind : MethodName := ⟨RX7, "grind", "(IIII)I"⟩
abbrev cX7_more : ByteArray := prog_1_method_7_code
def yX7_more : MethodName := ⟨RX7, "more", "(II)I"⟩
abbrev cX7_join : ByteArray := prog_1_method_8_code
def yX7_join : MethodName := ⟨RX7, "join", "(III)I"⟩
abbrev cX7_empty : ByteArray := prog_1_method_9_code
def yX7_empty : MethodName := ⟨RX7, "empty", "(I)I"⟩
abbrev cX7_span : ByteArray := prog_1_method_10_code
def yX7_span : MethodName := ⟨RX7, "span", "(II)I"⟩
abbrev cX7_bits : ByteArray := prog_1_method_11_code
def yX7_bits : MethodName := ⟨RX7, "bits", "(II)I"⟩
abbrev cX7_sign : ByteArray := prog_1_method_12_code
def yX7_sign : MethodName := ⟨RX7, "sign", "(II)I"⟩
abbrev cX7_rest : ByteArray := prog_1_method_13_code
def yX7_rest : MethodName := ⟨RX7, "rest", "(III)I"⟩
abbrev cX7_word : ByteArray := prog_1_method_14_code
def yX7_word : MethodName := ⟨RX7, "word", "(III)I"⟩
abbrev cX7_same : ByteArray := prog_1_method_15_code
def yX7_same : MethodName := ⟨RX7, "same", "(II)I"⟩
abbrev cX7_part : ByteArray := prog_1_method_16_code
def yX7_part : MethodName := ⟨RX7, "part", "(IIII)I"⟩
abbrev cX7_clear : ByteArray := prog_1_method_17_code
def yX7_clear : MethodName := ⟨RX7, "clear", "(I)I"⟩
abbrev cX7_told : ByteArray := prog_1_method_18_code
def yX7_told : MethodName := ⟨RX7, "told", "(III)I"⟩
abbrev cX7_figures : ByteArray := prog_1_method_19_code
def yX7_figures : MethodName := ⟨RX7, "figures", "(IIII)I"⟩
abbrev cX7_need : ByteArray := prog_1_method_20_code
def yX7_need : MethodName := ⟨RX7, "need", "(III)I"⟩
abbrev cX7_signOf : ByteArray := prog_1_method_21_code
def yX7_signOf : MethodName := ⟨RX7, "signOf", "()I"⟩
abbrev cX7_whole : ByteArray := prog_1_method_22_code
def yX7_whole : MethodName := ⟨RX7, "whole", "()J"⟩
abbrev cX7_figure : ByteArray := prog_1_method_23_code
def yX7_figure : MethodName := ⟨RX7, "figure", "(I)I"⟩
abbrev cX7_count : ByteArray := prog_1_method_24_code
def yX7_count : MethodName := ⟨RX7, "count", "(I)I"⟩
abbrev cX7_where : ByteArray := prog_1_method_25_code
def yX7_where : MethodName := ⟨RX7, "where", "(II)I"⟩
abbrev cX7_about : ByteArray := prog_1_method_26_code
def yX7_about : MethodName := ⟨RX7, "about", "(I)I"⟩
abbrev cX7_agree : ByteArray := prog_1_method_27_code
def yX7_agree : MethodName := ⟨RX7, "agree", "(IIIII)I"⟩
abbrev cX7_sumAt : ByteArray := prog_1_method_28_code
def yX7_sumAt : MethodName := ⟨RX7, "sumAt", "(I)LConstantMill$Sum;"⟩
abbrev cX7_drawerAt : ByteArray := prog_1_method_29_code
def yX7_drawerAt : MethodName := ⟨RX7, "drawerAt", "(I)LConstantMill$Span;"⟩
abbrev cX7_constantAt : ByteArray := prog_1_method_30_code
def yX7_constantAt : MethodName := ⟨RX7, "constantAt", "(I)LConstantMill$Constant;"⟩
abbrev cX7_isRule : ByteArray := prog_1_method_31_code
def yX7_isRule : MethodName := ⟨RX7, "isRule", "(I)Z"⟩
abbrev cX7_isCoefficient : ByteArray := prog_1_method_32_code
def yX7_isCoefficient : MethodName := ⟨RX7, "isCoefficient", "(I)Z"⟩
abbrev cX7_areFigures : ByteArray := prog_1_method_33_code
def yX7_areFigures : MethodName := ⟨RX7, "areFigures", "(II)Z"⟩
abbrev cX7_areTerms : ByteArray := prog_1_method_34_code
def yX7_areTerms : MethodName := ⟨RX7, "areTerms", "(I)Z"⟩
abbrev cX7_emptyDrawersOf : ByteArray := prog_1_method_35_code
def yX7_emptyDrawersOf : MethodName := ⟨RX7, "emptyDrawersOf", "(I)I"⟩
abbrev cX7_refusalOfNumber : ByteArray := prog_1_method_36_code
def yX7_refusalOfNumber : MethodName := ⟨RX7, "refusalOfNumber", "(IIZ)I"⟩
abbrev cX7_numberAt : ByteArray := prog_1_method_37_code
def yX7_numberAt : MethodName := ⟨RX7, "numberAt", "(II)LConstantMill$Big;"⟩
abbrev cX7_firstFallOf : ByteArray := prog_1_method_38_code
def yX7_firstFallOf : MethodName := ⟨RX7, "firstFallOf", "(LConstantMill$Constant;I)I"⟩
abbrev cX7_mostTermsOf : ByteArray := prog_1_method_39_code
def yX7_mostTermsOf : MethodName := ⟨RX7, "mostTermsOf", "(LConstantMill$Constant;)I"⟩
abbrev cX7_tell : ByteArray := prog_1_method_40_code
def yX7_tell : MethodName := ⟨RX7, "tell", "(LConstantMill$Constant;IIILConstantMill$Figures;)V"⟩
abbrev cX7_enclosePart : ByteArray := prog_1_method_41_code
def yX7_enclosePart : MethodName := ⟨RX7, "enclosePart", "(IIII)V"⟩
def RX8 : String := "ConstantMillModel"
def TX8 : u_T := fun k => match k with
  | 0 => ("ConstantMillModel", "word", "[I", true)
  | 1 => ("ConstantMillModel", "size", "[I", true)
  | 2 => ("ConstantMillModel", "minus", "[Z", true)
  | 3 => ("ConstantMillModel", "coefficient", "[I", true)
  | 4 => ("ConstantMillModel", "boundU", "[I", true)
  | 5 => ("ConstantMillModel", "boundV", "[I", true)
  | 6 => ("ConstantMillModel", "sumOf", "[I", true)
  | 7 => ("ConstantMillModel", "from", "[I", true)
  | 8 => ("ConstantMillModel", "upTo", "[I", true)
  | 9 => ("ConstantMillModel", "parts", "[I", true)
  | 10 => ("ConstantMillModel", "partSum", "[I", true)
  | 11 => ("ConstantMillModel", "factorM", "[I", true)
  | 12 => ("ConstantMillModel", "factorN", "[I", true)
  | 13 => ("ConstantMillModel", "nowSign", "I", false)
  | 14 => ("ConstantMillModel", "nowWhole", "J", false)
  | 15 => ("ConstantMillModel", "nowSure", "I", false)
  | 16 => ("ConstantMillModel", "now", "[I", true)
  | 17 => ("ConstantMillModel", "resultOf", "I", false)
  | 18 => ("ConstantMillModel", "resultBase", "I", false)
  | 19 => ("ConstantMillModel", "resultMost", "I", false)
  | 20 => ("ConstantMillModel", "resultTerms", "I", false)
  | 21 => ("ConstantMillModel", "resultSign", "I", false)
  | 22 => ("ConstantMillModel", "resultWhole", "J", false)
  | 23 => ("ConstantMillModel", "resultSure", "I", false)
  | 24 => ("ConstantMillModel", "result", "[I", true)
  | _ => ("ConstantMillModel", "first", "[I", true)
def tyX8 : Nat → FieldType := fun k => match k with
  | 0 => .array .int
  | 1 => .array .int
  | 2 => .array .boolean
  | 3 => .array .int
  | 4 => .array .int
  | 5 => .array .int
  | 6 => .array .int
  | 7 => .array .int
  | 8 => .array .int
  | 9 => .array .int
  | 10 => .array .int
  | 11 => .array .int
  | 12 => .array .int
  | 13 => .int
  | 14 => .long
  | 15 => .int
  | 16 => .array .int
  | 17 => .int
  | 18 => .int
  | 19 => .int
  | 20 => .int
  | 21 => .int
  | 22 => .long
  | 23 => .int
  | 24 => .array .int
  | _ => .array .int
theorem nmX8 : ∀ a, a < 26 → ∀ b, b < 26 → a ≠ b → (TX8 a).2.1 ≠ (TX8 b).2.1 := by decide +kernel
theorem tyX8_ok : ∀ k, k < 26 → parseFieldDescriptor (TX8 k).2.2.1 = some (tyX8 k) := by decide +kernel
abbrev cX8_init : ByteArray := prog_10_method_1_code
def yX8_init : MethodName := ⟨RX8, "<init>", "()V"⟩
abbrev cX8_in : ByteArray := prog_10_method_2_code
def yX8_in : MethodName := ⟨RX8, "in", "(JJJ)Z"⟩
abbrev cX8_set : ByteArray := prog_10_method_3_code
def yX8_set : MethodName := ⟨RX8, "set", "(IJ)V"⟩
abbrev cX8_copy : ByteArray := prog_10_method_4_code
def yX8_copy : MethodName := ⟨RX8, "copy", "(II)V"⟩
abbrev cX8_times : ByteArray := prog_10_method_5_code
def yX8_times : MethodName := ⟨RX8, "times", "(II)V"⟩
abbrev cX8_order : ByteArray := prog_10_method_6_code
def yX8_order : MethodName := ⟨RX8, "order", "(II)I"⟩
abbrev cX8_trim : ByteArray := prog_10_method_7_code
def yX8_trim : MethodName := ⟨RX8, "trim", "(I)V"⟩
abbrev cX8_gain : ByteArray := prog_10_method_8_code
def yX8_gain : MethodName := ⟨RX8, "gain", "(II)V"⟩
abbrev cX8_lose : ByteArray := prog_10_method_9_code
def yX8_lose : MethodName := ⟨RX8, "lose", "(II)V"⟩
abbrev cX8_add : ByteArray := prog_10_method_10_code
def yX8_add : MethodName := ⟨RX8, "add", "(IIZ)V"⟩
abbrev cX8_multiply : ByteArray := prog_10_method_11_code
def yX8_multiply : MethodName := ⟨RX8, "multiply", "(III)V"⟩
abbrev cX8_up : ByteArray := prog_10_method_12_code
def yX8_up : MethodName := ⟨RX8, "up", "(II)V"⟩
abbrev cX8_half : ByteArray := prog_10_method_13_code
def yX8_half : MethodName := ⟨RX8, "half", "(I)V"⟩
abbrev cX8_isSum : ByteArray := prog_10_method_14_code
def yX8_isSum : MethodName := ⟨RX8, "isSum", "(I)Z"⟩
abbrev cX8_emptied : ByteArray := prog_10_method_15_code
def yX8_emptied : MethodName := ⟨RX8, "emptied", "(I)I"⟩
abbrev cX8_rule : ByteArray := prog_10_method_16_code
def yX8_rule : MethodName := ⟨RX8, "rule", "(IIIII)I"⟩
abbrev cX8_bound : ByteArray := prog_10_method_17_code
def yX8_bound : MethodName := ⟨RX8, "bound", "(III)I"⟩
abbrev cX8_value : ByteArray := prog_10_method_18_code
def yX8_value : MethodName := ⟨RX8, "value", "(III)I"⟩
abbrev cX8_at : ByteArray := prog_10_method_19_code
def yX8_at : MethodName := ⟨RX8, "at", "(III)I"⟩
abbrev cX8_size : ByteArray := prog_10_method_20_code
def yX8_size : MethodName := ⟨RX8, "size", "(J)J"⟩
abbrev cX8_upper : ByteArray := prog_10_method_21_code
def yX8_upper : MethodName := ⟨RX8, "upper", "(JJ)J"⟩
abbrev cX8_lower : ByteArray := prog_10_method_22_code
def yX8_lower : MethodName := ⟨RX8, "lower", "(JJ)J"⟩
abbrev cX8_isSteep : ByteArray := prog_10_method_23_code
def yX8_isSteep : MethodName := ⟨RX8, "isSteep", "(II)Z"⟩
abbrev cX8_fall : ByteArray := prog_10_method_24_code
def yX8_fall : MethodName := ⟨RX8, "fall", "(IIIZ)I"⟩
abbrev cX8_falls : ByteArray := prog_10_method_25_code
def yX8_falls : MethodName := ⟨RX8, "falls", "(II)I"⟩
abbrev cX8_begin : ByteArray := prog_10_method_26_code
def yX8_begin : MethodName := ⟨RX8, "begin", "(I)V"⟩
abbrev cX8_go : ByteArray := prog_10_method_27_code
def yX8_go : MethodName := ⟨RX8, "go", "(III)V"⟩
abbrev cX8_isDrawer : ByteArray := prog_10_method_28_code
def yX8_isDrawer : MethodName := ⟨RX8, "isDrawer", "(I)Z"⟩
abbrev cX8_grind : ByteArray := prog_10_method_29_code
def yX8_grind : MethodName := ⟨RX8, "grind", "(IIII)I"⟩
abbrev cX8_more : ByteArray := prog_10_method_30_code
def yX8_more : MethodName := ⟨RX8, "more", "(II)I"⟩
abbrev cX8_join : ByteArray := prog_10_method_31_code
def yX8_join : MethodName := ⟨RX8, "join", "(III)I"⟩
abbrev cX8_empty : ByteArray := prog_10_method_32_code
def yX8_empty : MethodName := ⟨RX8, "empty", "(I)I"⟩
abbrev cX8_span : ByteArray := prog_10_method_33_code
def yX8_span : MethodName := ⟨RX8, "span", "(II)I"⟩
abbrev cX8_bars : ByteArray := prog_10_method_34_code
def yX8_bars : MethodName := ⟨RX8, "bars", "(IZ)I"⟩
abbrev cX8_bits : ByteArray := prog_10_method_35_code
def yX8_bits : MethodName := ⟨RX8, "bits", "(II)I"⟩
abbrev cX8_sign : ByteArray := prog_10_method_36_code
def yX8_sign : MethodName := ⟨RX8, "sign", "(II)I"⟩
abbrev cX8_rest : ByteArray := prog_10_method_37_code
def yX8_rest : MethodName := ⟨RX8, "rest", "(III)I"⟩
abbrev cX8_word : ByteArray := prog_10_method_38_code
def yX8_word : MethodName := ⟨RX8, "word", "(III)I"⟩
abbrev cX8_same : ByteArray := prog_10_method_39_code
def yX8_same : MethodName := ⟨RX8, "same", "(II)I"⟩
abbrev cX8_isConstant : ByteArray := prog_10_method_40_code
def yX8_isConstant : MethodName := ⟨RX8, "isConstant", "(I)Z"⟩
abbrev cX8_part : ByteArray := prog_10_method_41_code
def yX8_part : MethodName := ⟨RX8, "part", "(IIII)I"⟩
abbrev cX8_clear : ByteArray := prog_10_method_42_code
def yX8_clear : MethodName := ⟨RX8, "clear", "(I)I"⟩
abbrev cX8_told : ByteArray := prog_10_method_43_code
def yX8_told : MethodName := ⟨RX8, "told", "(III)I"⟩
abbrev cX8_beginParts : ByteArray := prog_10_method_44_code
def yX8_beginParts : MethodName := ⟨RX8, "beginParts", "(I)V"⟩
abbrev cX8_goParts : ByteArray := prog_10_method_45_code
def yX8_goParts : MethodName := ⟨RX8, "goParts", "(II)V"⟩
abbrev cX8_combine : ByteArray := prog_10_method_46_code
def yX8_combine : MethodName := ⟨RX8, "combine", "(II)V"⟩
abbrev cX8_widen : ByteArray := prog_10_method_47_code
def yX8_widen : MethodName := ⟨RX8, "widen", "(IZ)V"⟩
abbrev cX8_wholeOf : ByteArray := prog_10_method_48_code
def yX8_wholeOf : MethodName := ⟨RX8, "wholeOf", "(I)J"⟩
abbrev cX8_nextOf : ByteArray := prog_10_method_49_code
def yX8_nextOf : MethodName := ⟨RX8, "nextOf", "(II)I"⟩
abbrev cX8_look : ByteArray := prog_10_method_50_code
def yX8_look : MethodName := ⟨RX8, "look", "(IIII)V"⟩
abbrev cX8_fallOf : ByteArray := prog_10_method_51_code
def yX8_fallOf : MethodName := ⟨RX8, "fallOf", "(II)I"⟩
abbrev cX8_build : ByteArray := prog_10_method_52_code
def yX8_build : MethodName := ⟨RX8, "build", "(II)V"⟩
abbrev cX8_fits : ByteArray := prog_10_method_53_code
def yX8_fits : MethodName := ⟨RX8, "fits", "(II)Z"⟩
abbrev cX8_figures : ByteArray := prog_10_method_54_code
def yX8_figures : MethodName := ⟨RX8, "figures", "(IIII)I"⟩
abbrev cX8_need : ByteArray := prog_10_method_55_code
def yX8_need : MethodName := ⟨RX8, "need", "(III)I"⟩
abbrev cX8_signOf : ByteArray := prog_10_method_56_code
def yX8_signOf : MethodName := ⟨RX8, "signOf", "()I"⟩
abbrev cX8_whole : ByteArray := prog_10_method_57_code
def yX8_whole : MethodName := ⟨RX8, "whole", "()J"⟩
abbrev cX8_isSure : ByteArray := prog_10_method_58_code
def yX8_isSure : MethodName := ⟨RX8, "isSure", "(I)Z"⟩
abbrev cX8_figure : ByteArray := prog_10_method_59_code
def yX8_figure : MethodName := ⟨RX8, "figure", "(I)I"⟩
abbrev cX8_count : ByteArray := prog_10_method_60_code
def yX8_count : MethodName := ⟨RX8, "count", "(I)I"⟩
abbrev cX8_where : ByteArray := prog_10_method_61_code
def yX8_where : MethodName := ⟨RX8, "where", "(II)I"⟩
abbrev cX8_about : ByteArray := prog_10_method_62_code
def yX8_about : MethodName := ⟨RX8, "about", "(I)I"⟩
abbrev cX8_agree : ByteArray := prog_10_method_63_code
def yX8_agree : MethodName := ⟨RX8, "agree", "(IIIII)I"⟩
def RJ9 : String := "java/lang/Math"
def TJ9 : u_T := fun k => match k with
  | _ => ("", "", "", false)
def tyJ9 : Nat → FieldType := fun k => match k with
  | _ => .int
theorem nmJ9 : ∀ a, a < 0 → ∀ b, b < 0 → a ≠ b → (TJ9 a).2.1 ≠ (TJ9 b).2.1 := by decide +kernel
theorem tyJ9_ok : ∀ k, k < 0 → parseFieldDescriptor (TJ9 k).2.2.1 = some (tyJ9 k) := by decide +kernel
abbrev cJ9_abs_067f4 : ByteArray := prog_11_method_61_code
def yJ9_abs_067f4 : MethodName := ⟨RJ9, "abs", "(J)J"⟩
abbrev cJ9_max_7cf53 : ByteArray := prog_11_method_65_code
def yJ9_max_7cf53 : MethodName := ⟨RJ9, "max", "(II)I"⟩
abbrev cJ9_min_7cf53 : ByteArray := prog_11_method_69_code
def yJ9_min_7cf53 : MethodName := ⟨RJ9, "min", "(II)I"⟩
abbrev cJ9_min_f86c9 : ByteArray := prog_11_method_70_code
def yJ9_min_f86c9 : MethodName := ⟨RJ9, "min", "(JJ)J"⟩
def RL : String := "ConstantMillLaw"
abbrev cL_law : ByteArray := code
def yL_law : MethodName := ⟨RL, "law", "([I)Z"⟩
theorem dX0_init_0 : decode cX0_init 0 = .ok (.aload_n 0, 1) := by decide +kernel
theorem dX0_init_1 : decode cX0_init 1 = .ok (.invokespecial 3, 3) := by decide +kernel
theorem dX0_init_4 : decode cX0_init 4 = .ok (.aload_n 0, 1) := by decide +kernel
theorem dX0_init_5 : decode cX0_init 5 = .ok (.iload_n 1, 1) := by decide +kernel
theorem dX0_init_6 : decode cX0_init 6 = .ok (.iconst 1, 1) := by decide +kernel
theorem dX0_init_7 : decode cX0_init 7 = .ok (.if_icmp .ge 7, 3) := by decide +kernel
theorem dX0_init_10 : decode cX0_init 10 = .ok (.iconst 1, 1) := by decide +kernel
theorem dX0_init_11 : decode cX0_init 11 = .ok (.goto 4, 3) := by decide +kernel
theorem dX0_init_14 : decode cX0_init 14 = .ok (.iload_n 1, 1) := by decide +kernel
theorem dX0_init_15 : decode cX0_init 15 = .ok (.newarray .int, 2) := by decide +kernel
theorem dX0_init_17 : decode cX0_init 17 = .ok (.putfield 9, 3) := by decide +kernel
theorem dX0_init_20 : decode cX0_init 20 = .ok (.return_, 1) := by decide +kernel
theorem dX0_put_0 : decode cX0_put 0 = .ok (.aload_n 0, 1) := by decide +kernel
theorem dX0_put_1 : decode cX0_put 1 = .ok (.getfield 9, 3) := by decide +kernel
theorem dX0_put_4 : decode cX0_put 4 = .ok (.iconst 0, 1) := by decide +kernel
theorem dX0_put_5 : decode cX0_put 5 = .ok (.iload_n 1, 1) := by decide +kernel
theorem dX0_put_6 : decode cX0_put 6 = .ok (.iastore, 1) := by decide +kernel
theorem dX0_put_7 : decode cX0_put 7 = .ok (.aload_n 0, 1) := by decide +kernel
theorem dX0_put_8 : decode cX0_put 8 = .ok (.iload_n 1, 1) := by decide +kernel
theorem dX0_put_9 : decode cX0_put 9 = .ok (.ifCond .ne 7, 3) := by decide +kernel
theorem dX0_put_12 : decode cX0_put 12 = .ok (.iconst 0, 1) := by decide +kernel
theorem dX0_put_13 : decode cX0_put 13 = .ok (.goto 4, 3) := by decide +kernel
theorem dX0_put_16 : decode cX0_put 16 = .ok (.iconst 1, 1) := by decide +kernel
theorem dX0_put_17 : decode cX0_put 17 = .ok (.putfield 15, 3) := by decide +kernel
theorem dX0_put_20 : decode cX0_put 20 = .ok (.aload_n 0, 1) := by decide +kernel
theorem dX0_put_21 : decode cX0_put 21 = .ok (.iconst 0, 1) := by decide +kernel
theorem dX0_put_22 : decode cX0_put 22 = .ok (.putfield 19, 3) := by decide +kernel
theorem dX0_put_25 : decode cX0_put 25 = .ok (.return_, 1) := by decide +kernel
theorem dX0_copy_0 : decode cX0_copy 0 = .ok (.aload_n 1, 1) := by decide +kernel
theorem dX0_copy_1 : decode cX0_copy 1 = .ok (.getfield 15, 3) := by decide +kernel
theorem dX0_copy_4 : decode cX0_copy 4 = .ok (.aload_n 0, 1) := by decide +kernel
theorem dX0_copy_5 : decode cX0_copy 5 = .ok (.getfield 9, 3) := by decide +kernel
theorem dX0_copy_8 : decode cX0_copy 8 = .ok (.arraylength, 1) := by decide +kernel
theorem dX0_copy_9 : decode cX0_copy 9 = .ok (.invokestatic 23, 3) := by decide +kernel
theorem dX0_copy_12 : decode cX0_copy 12 = .ok (.istore_n 2, 1) := by decide +kernel
theorem dX0_copy_13 : decode cX0_copy 13 = .ok (.iconst 0, 1) := by decide +kernel
theorem dX0_copy_14 : decode cX0_copy 14 = .ok (.istore_n 3, 1) := by decide +kernel
theorem dX0_copy_15 : decode cX0_copy 15 = .ok (.iload_n 3, 1) := by decide +kernel
theorem dX0_copy_16 : decode cX0_copy 16 = .ok (.iload_n 2, 1) := by decide +kernel
theorem dX0_copy_17 : decode cX0_copy 17 = .ok (.if_icmp .ge 21, 3) := by decide +kernel
theorem dX0_copy_20 : decode cX0_copy 20 = .ok (.aload_n 0, 1) := by decide +kernel
theorem dX0_copy_21 : decode cX0_copy 21 = .ok (.getfield 9, 3) := by decide +kernel
theorem dX0_copy_24 : decode cX0_copy 24 = .ok (.iload_n 3, 1) := by decide +kernel
theorem dX0_copy_25 : decode cX0_copy 25 = .ok (.aload_n 1, 1) := by decide +kernel
theorem dX0_copy_26 : decode cX0_copy 26 = .ok (.getfield 9, 3) := by decide +kernel
theorem dX0_copy_29 : decode cX0_copy 29 = .ok (.iload_n 3, 1) := by decide +kernel
theorem dX0_copy_30 : decode cX0_copy 30 = .ok (.iaload, 1) := by decide +kernel
theorem dX0_copy_31 : decode cX0_copy 31 = .ok (.iastore, 1) := by decide +kernel
theorem dX0_copy_32 : decode cX0_copy 32 = .ok (.iinc 3 1, 3) := by decide +kernel
theorem dX0_copy_35 : decode cX0_copy 35 = .ok (.goto (-20), 3) := by decide +kernel
theorem dX0_copy_38 : decode cX0_copy 38 = .ok (.aload_n 0, 1) := by decide +kernel
theorem dX0_copy_39 : decode cX0_copy 39 = .ok (.iload_n 2, 1) := by decide +kernel
theorem dX0_copy_40 : decode cX0_copy 40 = .ok (.putfield 15, 3) := by decide +kernel
theorem dX0_copy_43 : decode cX0_copy 43 = .ok (.aload_n 0, 1) := by decide +kernel
theorem dX0_copy_44 : decode cX0_copy 44 = .ok (.aload_n 1, 1) := by decide +kernel
theorem dX0_copy_45 : decode cX0_copy 45 = .ok (.getfield 19, 3) := by decide +kernel
theorem dX0_copy_48 : decode cX0_copy 48 = .ok (.putfield 19, 3) := by decide +kernel
theorem dX0_copy_51 : decode cX0_copy 51 = .ok (.return_, 1) := by decide +kernel
theorem dX0_negate_0 : decode cX0_negate 0 = .ok (.aload_n 0, 1) := by decide +kernel
theorem dX0_negate_1 : decode cX0_negate 1 = .ok (.aload_n 0, 1) := by decide +kernel
theorem dX0_negate_2 : decode cX0_negate 2 = .ok (.getfield 15, 3) := by decide +kernel
theorem dX0_negate_5 : decode cX0_negate 5 = .ok (.ifCond .le 14, 3) := by decide +kernel
theorem dX0_negate_8 : decode cX0_negate 8 = .ok (.aload_n 0, 1) := by decide +kernel
theorem dX0_negate_9 : decode cX0_negate 9 = .ok (.getfield 19, 3) := by decide +kernel
theorem dX0_negate_12 : decode cX0_negate 12 = .ok (.ifCond .ne 7, 3) := by decide +kernel
theorem dX0_negate_15 : decode cX0_negate 15 = .ok (.iconst 1, 1) := by decide +kernel
theorem dX0_negate_16 : decode cX0_negate 16 = .ok (.goto 4, 3) := by decide +kernel
theorem dX0_negate_19 : decode cX0_negate 19 = .ok (.iconst 0, 1) := by decide +kernel
theorem dX0_negate_20 : decode cX0_negate 20 = .ok (.putfield 19, 3) := by decide +kernel
theorem dX0_negate_23 : decode cX0_negate 23 = .ok (.return_, 1) := by decide +kernel
theorem dX0_times_0 : decode cX0_times 0 = .ok (.iload_n 1, 1) := by decide +kernel
theorem dX0_times_1 : decode cX0_times 1 = .ok (.ifCond .ne 9, 3) := by decide +kernel
theorem dX0_times_4 : decode cX0_times 4 = .ok (.aload_n 0, 1) := by decide +kernel
theorem dX0_times_5 : decode cX0_times 5 = .ok (.iconst 0, 1) := by decide +kernel
theorem dX0_times_6 : decode cX0_times 6 = .ok (.invokevirtual 29, 3) := by decide +kernel
theorem dX0_times_9 : decode cX0_times 9 = .ok (.return_, 1) := by decide +kernel
theorem dX0_times_10 : decode cX0_times 10 = .ok (.iload_n 1, 1) := by decide +kernel
theorem dX0_times_11 : decode cX0_times 11 = .ok (.ifCond .ge 7, 3) := by decide +kernel
theorem dX0_times_14 : decode cX0_times 14 = .ok (.aload_n 0, 1) := by decide +kernel
theorem dX0_times_15 : decode cX0_times 15 = .ok (.invokevirtual 33, 3) := by decide +kernel
theorem dX0_times_18 : decode cX0_times 18 = .ok (.iload_n 1, 1) := by decide +kernel
theorem dX0_times_19 : decode cX0_times 19 = .ok (.iconst 1, 1) := by decide +kernel
theorem dX0_times_20 : decode cX0_times 20 = .ok (.if_icmp .eq 8, 3) := by decide +kernel
theorem dX0_times_23 : decode cX0_times 23 = .ok (.iload_n 1, 1) := by decide +kernel
theorem dX0_times_24 : decode cX0_times 24 = .ok (.iconst (-1), 1) := by decide +kernel
theorem dX0_times_25 : decode cX0_times 25 = .ok (.if_icmp .ne 4, 3) := by decide +kernel
theorem dX0_times_28 : decode cX0_times 28 = .ok (.return_, 1) := by decide +kernel
theorem dX0_times_29 : decode cX0_times 29 = .ok (.iload_n 1, 1) := by decide +kernel
theorem dX0_times_30 : decode cX0_times 30 = .ok (.i2l, 1) := by decide +kernel
theorem dX0_times_31 : decode cX0_times 31 = .ok (.invokestatic 36, 3) := by decide +kernel
theorem dX0_times_34 : decode cX0_times 34 = .ok (.lstore_n 2, 1) := by decide +kernel
theorem dX0_times_35 : decode cX0_times 35 = .ok (.lconst 0, 1) := by decide +kernel
theorem dX0_times_36 : decode cX0_times 36 = .ok (.lstore 4, 2) := by decide +kernel
theorem dX0_times_38 : decode cX0_times 38 = .ok (.iconst 0, 1) := by decide +kernel
theorem dX0_times_39 : decode cX0_times 39 = .ok (.istore 6, 2) := by decide +kernel
theorem dX0_times_41 : decode cX0_times 41 = .ok (.iload 6, 2) := by decide +kernel
theorem dX0_times_43 : decode cX0_times 43 = .ok (.aload_n 0, 1) := by decide +kernel
theorem dX0_times_44 : decode cX0_times 44 = .ok (.getfield 15, 3) := by decide +kernel
theorem dX0_times_47 : decode cX0_times 47 = .ok (.if_icmp .ge 45, 3) := by decide +kernel
theorem dX0_times_50 : decode cX0_times 50 = .ok (.aload_n 0, 1) := by decide +kernel
theorem dX0_times_51 : decode cX0_times 51 = .ok (.getfield 9, 3) := by decide +kernel
theorem dX0_times_54 : decode cX0_times 54 = .ok (.iload 6, 2) := by decide +kernel
theorem dX0_times_56 : decode cX0_times 56 = .ok (.iaload, 1) := by decide +kernel
theorem dX0_times_57 : decode cX0_times 57 = .ok (.i2l, 1) := by decide +kernel
theorem dX0_times_58 : decode cX0_times 58 = .ok (.lload_n 2, 1) := by decide +kernel
theorem dX0_times_59 : decode cX0_times 59 = .ok (.lmul, 1) := by decide +kernel
theorem dX0_times_60 : decode cX0_times 60 = .ok (.lload 4, 2) := by decide +kernel
theorem dX0_times_62 : decode cX0_times 62 = .ok (.ladd, 1) := by decide +kernel
theorem dX0_times_63 : decode cX0_times 63 = .ok (.lstore 7, 2) := by decide +kernel
theorem dX0_times_65 : decode cX0_times 65 = .ok (.aload_n 0, 1) := by decide +kernel
theorem dX0_times_66 : decode cX0_times 66 = .ok (.getfield 9, 3) := by decide +kernel
theorem dX0_times_69 : decode cX0_times 69 = .ok (.iload 6, 2) := by decide +kernel
theorem dX0_times_71 : decode cX0_times 71 = .ok (.lload 7, 2) := by decide +kernel
theorem dX0_times_73 : decode cX0_times 73 = .ok (.ldc2_w 40, 3) := by decide +kernel
theorem dX0_times_76 : decode cX0_times 76 = .ok (.land, 1) := by decide +kernel
theorem dX0_times_77 : decode cX0_times 77 = .ok (.l2i, 1) := by decide +kernel
theorem dX0_times_78 : decode cX0_times 78 = .ok (.iastore, 1) := by decide +kernel
theorem dX0_times_79 : decode cX0_times 79 = .ok (.lload 7, 2) := by decide +kernel
theorem dX0_times_81 : decode cX0_times 81 = .ok (.bipush 30, 2) := by decide +kernel
theorem dX0_times_83 : decode cX0_times 83 = .ok (.lshr, 1) := by decide +kernel
theorem dX0_times_84 : decode cX0_times 84 = .ok (.lstore 4, 2) := by decide +kernel
theorem dX0_times_86 : decode cX0_times 86 = .ok (.iinc 6 1, 3) := by decide +kernel
theorem dX0_times_89 : decode cX0_times 89 = .ok (.goto (-48), 3) := by decide +kernel
theorem dX0_times_92 : decode cX0_times 92 = .ok (.aload_n 0, 1) := by decide +kernel
theorem dX0_times_93 : decode cX0_times 93 = .ok (.lload 4, 2) := by decide +kernel
theorem dX0_times_95 : decode cX0_times 95 = .ok (.l2i, 1) := by decide +kernel
theorem dX0_times_96 : decode cX0_times 96 = .ok (.invokevirtual 42, 3) := by decide +kernel
theorem dX0_times_99 : decode cX0_times 99 = .ok (.return_, 1) := by decide +kernel
theorem dX0_append_0 : decode cX0_append 0 = .ok (.iload_n 1, 1) := by decide +kernel
theorem dX0_append_1 : decode cX0_append 1 = .ok (.ifCond .eq 35, 3) := by decide +kernel
theorem dX0_append_4 : decode cX0_append 4 = .ok (.aload_n 0, 1) := by decide +kernel
theorem dX0_append_5 : decode cX0_append 5 = .ok (.getfield 15, 3) := by decide +kernel
theorem dX0_append_8 : decode cX0_append 8 = .ok (.aload_n 0, 1) := by decide +kernel
theorem dX0_append_9 : decode cX0_append 9 = .ok (.getfield 9, 3) := by decide +kernel
theorem dX0_append_12 : decode cX0_append 12 = .ok (.arraylength, 1) := by decide +kernel
theorem dX0_append_13 : decode cX0_append 13 = .ok (.if_icmp .ge 23, 3) := by decide +kernel
theorem dX0_append_16 : decode cX0_append 16 = .ok (.aload_n 0, 1) := by decide +kernel
theorem dX0_append_17 : decode cX0_append 17 = .ok (.getfield 9, 3) := by decide +kernel
theorem dX0_append_20 : decode cX0_append 20 = .ok (.aload_n 0, 1) := by decide +kernel
theorem dX0_append_21 : decode cX0_append 21 = .ok (.getfield 15, 3) := by decide +kernel
theorem dX0_append_24 : decode cX0_append 24 = .ok (.iload_n 1, 1) := by decide +kernel
theorem dX0_append_25 : decode cX0_append 25 = .ok (.iastore, 1) := by decide +kernel
theorem dX0_append_26 : decode cX0_append 26 = .ok (.aload_n 0, 1) := by decide +kernel
theorem dX0_append_27 : decode cX0_append 27 = .ok (.dup, 1) := by decide +kernel
theorem dX0_append_28 : decode cX0_append 28 = .ok (.getfield 15, 3) := by decide +kernel
theorem dX0_append_31 : decode cX0_append 31 = .ok (.iconst 1, 1) := by decide +kernel
theorem dX0_append_32 : decode cX0_append 32 = .ok (.iadd, 1) := by decide +kernel
theorem dX0_append_33 : decode cX0_append 33 = .ok (.putfield 15, 3) := by decide +kernel
theorem dX0_append_36 : decode cX0_append 36 = .ok (.return_, 1) := by decide +kernel
theorem dX0_trim_0 : decode cX0_trim 0 = .ok (.aload_n 0, 1) := by decide +kernel
theorem dX0_trim_1 : decode cX0_trim 1 = .ok (.getfield 15, 3) := by decide +kernel
theorem dX0_trim_4 : decode cX0_trim 4 = .ok (.ifCond .le 30, 3) := by decide +kernel
theorem dX0_trim_7 : decode cX0_trim 7 = .ok (.aload_n 0, 1) := by decide +kernel
theorem dX0_trim_8 : decode cX0_trim 8 = .ok (.getfield 9, 3) := by decide +kernel
theorem dX0_trim_11 : decode cX0_trim 11 = .ok (.aload_n 0, 1) := by decide +kernel
theorem dX0_trim_12 : decode cX0_trim 12 = .ok (.getfield 15, 3) := by decide +kernel
theorem dX0_trim_15 : decode cX0_trim 15 = .ok (.iconst 1, 1) := by decide +kernel
theorem dX0_trim_16 : decode cX0_trim 16 = .ok (.isub, 1) := by decide +kernel
theorem dX0_trim_17 : decode cX0_trim 17 = .ok (.iaload, 1) := by decide +kernel
theorem dX0_trim_18 : decode cX0_trim 18 = .ok (.ifCond .ne 16, 3) := by decide +kernel
theorem dX0_trim_21 : decode cX0_trim 21 = .ok (.aload_n 0, 1) := by decide +kernel
theorem dX0_trim_22 : decode cX0_trim 22 = .ok (.dup, 1) := by decide +kernel
theorem dX0_trim_23 : decode cX0_trim 23 = .ok (.getfield 15, 3) := by decide +kernel
theorem dX0_trim_26 : decode cX0_trim 26 = .ok (.iconst 1, 1) := by decide +kernel
theorem dX0_trim_27 : decode cX0_trim 27 = .ok (.isub, 1) := by decide +kernel
theorem dX0_trim_28 : decode cX0_trim 28 = .ok (.putfield 15, 3) := by decide +kernel
theorem dX0_trim_31 : decode cX0_trim 31 = .ok (.goto (-31), 3) := by decide +kernel
theorem dX0_trim_34 : decode cX0_trim 34 = .ok (.aload_n 0, 1) := by decide +kernel
theorem dX0_trim_35 : decode cX0_trim 35 = .ok (.aload_n 0, 1) := by decide +kernel
theorem dX0_trim_36 : decode cX0_trim 36 = .ok (.getfield 19, 3) := by decide +kernel
theorem dX0_trim_39 : decode cX0_trim 39 = .ok (.ifCond .eq 14, 3) := by decide +kernel
theorem dX0_trim_42 : decode cX0_trim 42 = .ok (.aload_n 0, 1) := by decide +kernel
theorem dX0_trim_43 : decode cX0_trim 43 = .ok (.getfield 15, 3) := by decide +kernel
theorem dX0_trim_46 : decode cX0_trim 46 = .ok (.ifCond .le 7, 3) := by decide +kernel
theorem dX0_trim_49 : decode cX0_trim 49 = .ok (.iconst 1, 1) := by decide +kernel
theorem dX0_trim_50 : decode cX0_trim 50 = .ok (.goto 4, 3) := by decide +kernel
theorem dX0_trim_53 : decode cX0_trim 53 = .ok (.iconst 0, 1) := by decide +kernel
theorem dX0_trim_54 : decode cX0_trim 54 = .ok (.putfield 19, 3) := by decide +kernel
theorem dX0_trim_57 : decode cX0_trim 57 = .ok (.return_, 1) := by decide +kernel
theorem dX0_plus_0 : decode cX0_plus 0 = .ok (.aload_n 0, 1) := by decide +kernel
theorem dX0_plus_1 : decode cX0_plus 1 = .ok (.getfield 15, 3) := by decide +kernel
theorem dX0_plus_4 : decode cX0_plus 4 = .ok (.ifCond .ne 11, 3) := by decide +kernel
theorem dX0_plus_7 : decode cX0_plus 7 = .ok (.aload_n 0, 1) := by decide +kernel
theorem dX0_plus_8 : decode cX0_plus 8 = .ok (.aload_n 1, 1) := by decide +kernel
theorem dX0_plus_9 : decode cX0_plus 9 = .ok (.invokevirtual 45, 3) := by decide +kernel
theorem dX0_plus_12 : decode cX0_plus 12 = .ok (.goto 53, 3) := by decide +kernel
theorem dX0_plus_15 : decode cX0_plus 15 = .ok (.aload_n 0, 1) := by decide +kernel
theorem dX0_plus_16 : decode cX0_plus 16 = .ok (.getfield 19, 3) := by decide +kernel
theorem dX0_plus_19 : decode cX0_plus 19 = .ok (.aload_n 1, 1) := by decide +kernel
theorem dX0_plus_20 : decode cX0_plus 20 = .ok (.getfield 19, 3) := by decide +kernel
theorem dX0_plus_23 : decode cX0_plus 23 = .ok (.if_icmp .ne 11, 3) := by decide +kernel
theorem dX0_plus_26 : decode cX0_plus 26 = .ok (.aload_n 0, 1) := by decide +kernel
theorem dX0_plus_27 : decode cX0_plus 27 = .ok (.aload_n 1, 1) := by decide +kernel
theorem dX0_plus_28 : decode cX0_plus 28 = .ok (.invokevirtual 49, 3) := by decide +kernel
theorem dX0_plus_31 : decode cX0_plus 31 = .ok (.goto 34, 3) := by decide +kernel
theorem dX0_plus_34 : decode cX0_plus 34 = .ok (.aload_n 0, 1) := by decide +kernel
theorem dX0_plus_35 : decode cX0_plus 35 = .ok (.aload_n 1, 1) := by decide +kernel
theorem dX0_plus_36 : decode cX0_plus 36 = .ok (.invokevirtual 52, 3) := by decide +kernel
theorem dX0_plus_39 : decode cX0_plus 39 = .ok (.ifCond .lt 12, 3) := by decide +kernel
theorem dX0_plus_42 : decode cX0_plus 42 = .ok (.aload_n 0, 1) := by decide +kernel
theorem dX0_plus_43 : decode cX0_plus 43 = .ok (.aload_n 0, 1) := by decide +kernel
theorem dX0_plus_44 : decode cX0_plus 44 = .ok (.aload_n 1, 1) := by decide +kernel
theorem dX0_plus_45 : decode cX0_plus 45 = .ok (.invokevirtual 56, 3) := by decide +kernel
theorem dX0_plus_48 : decode cX0_plus 48 = .ok (.goto 17, 3) := by decide +kernel
theorem dX0_plus_51 : decode cX0_plus 51 = .ok (.aload_n 0, 1) := by decide +kernel
theorem dX0_plus_52 : decode cX0_plus 52 = .ok (.aload_n 1, 1) := by decide +kernel
theorem dX0_plus_53 : decode cX0_plus 53 = .ok (.getfield 19, 3) := by decide +kernel
theorem dX0_plus_56 : decode cX0_plus 56 = .ok (.putfield 19, 3) := by decide +kernel
theorem dX0_plus_59 : decode cX0_plus 59 = .ok (.aload_n 0, 1) := by decide +kernel
theorem dX0_plus_60 : decode cX0_plus 60 = .ok (.aload_n 1, 1) := by decide +kernel
theorem dX0_plus_61 : decode cX0_plus 61 = .ok (.aload_n 0, 1) := by decide +kernel
theorem dX0_plus_62 : decode cX0_plus 62 = .ok (.invokevirtual 56, 3) := by decide +kernel
theorem dX0_plus_65 : decode cX0_plus 65 = .ok (.aload_n 0, 1) := by decide +kernel
theorem dX0_plus_66 : decode cX0_plus 66 = .ok (.invokevirtual 60, 3) := by decide +kernel
theorem dX0_plus_69 : decode cX0_plus 69 = .ok (.return_, 1) := by decide +kernel
theorem dX0_addSize_0 : decode cX0_addSize 0 = .ok (.aload_n 0, 1) := by decide +kernel
theorem dX0_addSize_1 : decode cX0_addSize 1 = .ok (.getfield 15, 3) := by decide +kernel
theorem dX0_addSize_4 : decode cX0_addSize 4 = .ok (.aload_n 1, 1) := by decide +kernel
theorem dX0_addSize_5 : decode cX0_addSize 5 = .ok (.getfield 15, 3) := by decide +kernel
theorem dX0_addSize_8 : decode cX0_addSize 8 = .ok (.invokestatic 63, 3) := by decide +kernel
theorem dX0_addSize_11 : decode cX0_addSize 11 = .ok (.aload_n 0, 1) := by decide +kernel
theorem dX0_addSize_12 : decode cX0_addSize 12 = .ok (.getfield 9, 3) := by decide +kernel
theorem dX0_addSize_15 : decode cX0_addSize 15 = .ok (.arraylength, 1) := by decide +kernel
theorem dX0_addSize_16 : decode cX0_addSize 16 = .ok (.invokestatic 23, 3) := by decide +kernel
theorem dX0_addSize_19 : decode cX0_addSize 19 = .ok (.istore_n 2, 1) := by decide +kernel
theorem dX0_addSize_20 : decode cX0_addSize 20 = .ok (.iconst 0, 1) := by decide +kernel
theorem dX0_addSize_21 : decode cX0_addSize 21 = .ok (.istore_n 3, 1) := by decide +kernel
theorem dX0_addSize_22 : decode cX0_addSize 22 = .ok (.iconst 0, 1) := by decide +kernel
theorem dX0_addSize_23 : decode cX0_addSize 23 = .ok (.istore 4, 2) := by decide +kernel
theorem dX0_addSize_25 : decode cX0_addSize 25 = .ok (.iload 4, 2) := by decide +kernel
theorem dX0_addSize_27 : decode cX0_addSize 27 = .ok (.iload_n 2, 1) := by decide +kernel
theorem dX0_addSize_28 : decode cX0_addSize 28 = .ok (.if_icmp .ge 80, 3) := by decide +kernel
theorem dX0_addSize_31 : decode cX0_addSize 31 = .ok (.iload_n 3, 1) := by decide +kernel
theorem dX0_addSize_32 : decode cX0_addSize 32 = .ok (.istore 5, 2) := by decide +kernel
theorem dX0_addSize_34 : decode cX0_addSize 34 = .ok (.iload 5, 2) := by decide +kernel
theorem dX0_addSize_36 : decode cX0_addSize 36 = .ok (.iload 4, 2) := by decide +kernel
theorem dX0_addSize_38 : decode cX0_addSize 38 = .ok (.aload_n 0, 1) := by decide +kernel
theorem dX0_addSize_39 : decode cX0_addSize 39 = .ok (.getfield 15, 3) := by decide +kernel
theorem dX0_addSize_42 : decode cX0_addSize 42 = .ok (.if_icmp .ge 13, 3) := by decide +kernel
theorem dX0_addSize_45 : decode cX0_addSize 45 = .ok (.aload_n 0, 1) := by decide +kernel
theorem dX0_addSize_46 : decode cX0_addSize 46 = .ok (.getfield 9, 3) := by decide +kernel
theorem dX0_addSize_49 : decode cX0_addSize 49 = .ok (.iload 4, 2) := by decide +kernel
theorem dX0_addSize_51 : decode cX0_addSize 51 = .ok (.iaload, 1) := by decide +kernel
theorem dX0_addSize_52 : decode cX0_addSize 52 = .ok (.goto 4, 3) := by decide +kernel
theorem dX0_addSize_55 : decode cX0_addSize 55 = .ok (.iconst 0, 1) := by decide +kernel
theorem dX0_addSize_56 : decode cX0_addSize 56 = .ok (.iadd, 1) := by decide +kernel
theorem dX0_addSize_57 : decode cX0_addSize 57 = .ok (.istore 5, 2) := by decide +kernel
theorem dX0_addSize_59 : decode cX0_addSize 59 = .ok (.iload 5, 2) := by decide +kernel
theorem dX0_addSize_61 : decode cX0_addSize 61 = .ok (.iload 4, 2) := by decide +kernel
theorem dX0_addSize_63 : decode cX0_addSize 63 = .ok (.aload_n 1, 1) := by decide +kernel
theorem dX0_addSize_64 : decode cX0_addSize 64 = .ok (.getfield 15, 3) := by decide +kernel
theorem dX0_addSize_67 : decode cX0_addSize 67 = .ok (.if_icmp .ge 13, 3) := by decide +kernel
theorem dX0_addSize_70 : decode cX0_addSize 70 = .ok (.aload_n 1, 1) := by decide +kernel
theorem dX0_addSize_71 : decode cX0_addSize 71 = .ok (.getfield 9, 3) := by decide +kernel
theorem dX0_addSize_74 : decode cX0_addSize 74 = .ok (.iload 4, 2) := by decide +kernel
theorem dX0_addSize_76 : decode cX0_addSize 76 = .ok (.iaload, 1) := by decide +kernel
theorem dX0_addSize_77 : decode cX0_addSize 77 = .ok (.goto 4, 3) := by decide +kernel
theorem dX0_addSize_80 : decode cX0_addSize 80 = .ok (.iconst 0, 1) := by decide +kernel
theorem dX0_addSize_81 : decode cX0_addSize 81 = .ok (.iadd, 1) := by decide +kernel
theorem dX0_addSize_82 : decode cX0_addSize 82 = .ok (.istore 5, 2) := by decide +kernel
theorem dX0_addSize_84 : decode cX0_addSize 84 = .ok (.aload_n 0, 1) := by decide +kernel
theorem dX0_addSize_85 : decode cX0_addSize 85 = .ok (.getfield 9, 3) := by decide +kernel
theorem dX0_addSize_88 : decode cX0_addSize 88 = .ok (.iload 4, 2) := by decide +kernel
theorem dX0_addSize_90 : decode cX0_addSize 90 = .ok (.iload 5, 2) := by decide +kernel
theorem dX0_addSize_92 : decode cX0_addSize 92 = .ok (.ldc 66, 2) := by decide +kernel
theorem dX0_addSize_94 : decode cX0_addSize 94 = .ok (.iand, 1) := by decide +kernel
theorem dX0_addSize_95 : decode cX0_addSize 95 = .ok (.iastore, 1) := by decide +kernel
theorem dX0_addSize_96 : decode cX0_addSize 96 = .ok (.iload 5, 2) := by decide +kernel
theorem dX0_addSize_98 : decode cX0_addSize 98 = .ok (.bipush 30, 2) := by decide +kernel
theorem dX0_addSize_100 : decode cX0_addSize 100 = .ok (.iushr, 1) := by decide +kernel
theorem dX0_addSize_101 : decode cX0_addSize 101 = .ok (.istore_n 3, 1) := by decide +kernel
theorem dX0_addSize_102 : decode cX0_addSize 102 = .ok (.iinc 4 1, 3) := by decide +kernel
theorem dX0_addSize_105 : decode cX0_addSize 105 = .ok (.goto (-80), 3) := by decide +kernel
theorem dX0_addSize_108 : decode cX0_addSize 108 = .ok (.aload_n 0, 1) := by decide +kernel
theorem dX0_addSize_109 : decode cX0_addSize 109 = .ok (.iload_n 2, 1) := by decide +kernel
theorem dX0_addSize_110 : decode cX0_addSize 110 = .ok (.putfield 15, 3) := by decide +kernel
theorem dX0_addSize_113 : decode cX0_addSize 113 = .ok (.aload_n 0, 1) := by decide +kernel
theorem dX0_addSize_114 : decode cX0_addSize 114 = .ok (.iload_n 3, 1) := by decide +kernel
theorem dX0_addSize_115 : decode cX0_addSize 115 = .ok (.invokevirtual 42, 3) := by decide +kernel
theorem dX0_addSize_118 : decode cX0_addSize 118 = .ok (.return_, 1) := by decide +kernel
theorem dX0_putDifference_0 : decode cX0_putDifference 0 = .ok (.aload_n 1, 1) := by decide +kernel
theorem dX0_putDifference_1 : decode cX0_putDifference 1 = .ok (.getfield 15, 3) := by decide +kernel
theorem dX0_putDifference_4 : decode cX0_putDifference 4 = .ok (.aload_n 0, 1) := by decide +kernel
theorem dX0_putDifference_5 : decode cX0_putDifference 5 = .ok (.getfield 9, 3) := by decide +kernel
theorem dX0_putDifference_8 : decode cX0_putDifference 8 = .ok (.arraylength, 1) := by decide +kernel
theorem dX0_putDifference_9 : decode cX0_putDifference 9 = .ok (.invokestatic 23, 3) := by decide +kernel
theorem dX0_putDifference_12 : decode cX0_putDifference 12 = .ok (.istore_n 3, 1) := by decide +kernel
theorem dX0_putDifference_13 : decode cX0_putDifference 13 = .ok (.aload_n 2, 1) := by decide +kernel
theorem dX0_putDifference_14 : decode cX0_putDifference 14 = .ok (.getfield 15, 3) := by decide +kernel
theorem dX0_putDifference_17 : decode cX0_putDifference 17 = .ok (.istore 4, 2) := by decide +kernel
theorem dX0_putDifference_19 : decode cX0_putDifference 19 = .ok (.iconst 0, 1) := by decide +kernel
theorem dX0_putDifference_20 : decode cX0_putDifference 20 = .ok (.istore 5, 2) := by decide +kernel
theorem dX0_putDifference_22 : decode cX0_putDifference 22 = .ok (.iconst 0, 1) := by decide +kernel
theorem dX0_putDifference_23 : decode cX0_putDifference 23 = .ok (.istore 6, 2) := by decide +kernel
theorem dX0_putDifference_25 : decode cX0_putDifference 25 = .ok (.iload 6, 2) := by decide +kernel
theorem dX0_putDifference_27 : decode cX0_putDifference 27 = .ok (.iload_n 3, 1) := by decide +kernel
theorem dX0_putDifference_28 : decode cX0_putDifference 28 = .ok (.if_icmp .ge 59, 3) := by decide +kernel
theorem dX0_putDifference_31 : decode cX0_putDifference 31 = .ok (.aload_n 1, 1) := by decide +kernel
theorem dX0_putDifference_32 : decode cX0_putDifference 32 = .ok (.getfield 9, 3) := by decide +kernel
theorem dX0_putDifference_35 : decode cX0_putDifference 35 = .ok (.iload 6, 2) := by decide +kernel
theorem dX0_putDifference_37 : decode cX0_putDifference 37 = .ok (.iaload, 1) := by decide +kernel
theorem dX0_putDifference_38 : decode cX0_putDifference 38 = .ok (.iload 5, 2) := by decide +kernel
theorem dX0_putDifference_40 : decode cX0_putDifference 40 = .ok (.iadd, 1) := by decide +kernel
theorem dX0_putDifference_41 : decode cX0_putDifference 41 = .ok (.iload 6, 2) := by decide +kernel
theorem dX0_putDifference_43 : decode cX0_putDifference 43 = .ok (.iload 4, 2) := by decide +kernel
theorem dX0_putDifference_45 : decode cX0_putDifference 45 = .ok (.if_icmp .ge 13, 3) := by decide +kernel
theorem dX0_putDifference_48 : decode cX0_putDifference 48 = .ok (.aload_n 2, 1) := by decide +kernel
theorem dX0_putDifference_49 : decode cX0_putDifference 49 = .ok (.getfield 9, 3) := by decide +kernel
theorem dX0_putDifference_52 : decode cX0_putDifference 52 = .ok (.iload 6, 2) := by decide +kernel
theorem dX0_putDifference_54 : decode cX0_putDifference 54 = .ok (.iaload, 1) := by decide +kernel
theorem dX0_putDifference_55 : decode cX0_putDifference 55 = .ok (.goto 4, 3) := by decide +kernel
theorem dX0_putDifference_58 : decode cX0_putDifference 58 = .ok (.iconst 0, 1) := by decide +kernel
theorem dX0_putDifference_59 : decode cX0_putDifference 59 = .ok (.isub, 1) := by decide +kernel
theorem dX0_putDifference_60 : decode cX0_putDifference 60 = .ok (.istore 7, 2) := by decide +kernel
theorem dX0_putDifference_62 : decode cX0_putDifference 62 = .ok (.aload_n 0, 1) := by decide +kernel
theorem dX0_putDifference_63 : decode cX0_putDifference 63 = .ok (.getfield 9, 3) := by decide +kernel
theorem dX0_putDifference_66 : decode cX0_putDifference 66 = .ok (.iload 6, 2) := by decide +kernel
theorem dX0_putDifference_68 : decode cX0_putDifference 68 = .ok (.iload 7, 2) := by decide +kernel
theorem dX0_putDifference_70 : decode cX0_putDifference 70 = .ok (.ldc 66, 2) := by decide +kernel
theorem dX0_putDifference_72 : decode cX0_putDifference 72 = .ok (.iand, 1) := by decide +kernel
theorem dX0_putDifference_73 : decode cX0_putDifference 73 = .ok (.iastore, 1) := by decide +kernel
theorem dX0_putDifference_74 : decode cX0_putDifference 74 = .ok (.iload 7, 2) := by decide +kernel
theorem dX0_putDifference_76 : decode cX0_putDifference 76 = .ok (.bipush 30, 2) := by decide +kernel
theorem dX0_putDifference_78 : decode cX0_putDifference 78 = .ok (.ishr, 1) := by decide +kernel
theorem dX0_putDifference_79 : decode cX0_putDifference 79 = .ok (.istore 5, 2) := by decide +kernel
theorem dX0_putDifference_81 : decode cX0_putDifference 81 = .ok (.iinc 6 1, 3) := by decide +kernel
theorem dX0_putDifference_84 : decode cX0_putDifference 84 = .ok (.goto (-59), 3) := by decide +kernel
theorem dX0_putDifference_87 : decode cX0_putDifference 87 = .ok (.aload_n 0, 1) := by decide +kernel
theorem dX0_putDifference_88 : decode cX0_putDifference 88 = .ok (.iload_n 3, 1) := by decide +kernel
theorem dX0_putDifference_89 : decode cX0_putDifference 89 = .ok (.putfield 15, 3) := by decide +kernel
theorem dX0_putDifference_92 : decode cX0_putDifference 92 = .ok (.return_, 1) := by decide +kernel
theorem dX0_product_0 : decode cX0_product 0 = .ok (.aload_n 0, 1) := by decide +kernel
theorem dX0_product_1 : decode cX0_product 1 = .ok (.iconst 0, 1) := by decide +kernel
theorem dX0_product_2 : decode cX0_product 2 = .ok (.invokevirtual 29, 3) := by decide +kernel
theorem dX0_product_5 : decode cX0_product 5 = .ok (.aload_n 1, 1) := by decide +kernel
theorem dX0_product_6 : decode cX0_product 6 = .ok (.getfield 15, 3) := by decide +kernel
theorem dX0_product_9 : decode cX0_product 9 = .ok (.aload_n 2, 1) := by decide +kernel
theorem dX0_product_10 : decode cX0_product 10 = .ok (.getfield 15, 3) := by decide +kernel
theorem dX0_product_13 : decode cX0_product 13 = .ok (.iadd, 1) := by decide +kernel
theorem dX0_product_14 : decode cX0_product 14 = .ok (.istore_n 3, 1) := by decide +kernel
theorem dX0_product_15 : decode cX0_product 15 = .ok (.aload_n 1, 1) := by decide +kernel
theorem dX0_product_16 : decode cX0_product 16 = .ok (.getfield 15, 3) := by decide +kernel
theorem dX0_product_19 : decode cX0_product 19 = .ok (.ifCond .eq 19, 3) := by decide +kernel
theorem dX0_product_22 : decode cX0_product 22 = .ok (.aload_n 2, 1) := by decide +kernel
theorem dX0_product_23 : decode cX0_product 23 = .ok (.getfield 15, 3) := by decide +kernel
theorem dX0_product_26 : decode cX0_product 26 = .ok (.ifCond .eq 12, 3) := by decide +kernel
theorem dX0_product_29 : decode cX0_product 29 = .ok (.iload_n 3, 1) := by decide +kernel
theorem dX0_product_30 : decode cX0_product 30 = .ok (.aload_n 0, 1) := by decide +kernel
theorem dX0_product_31 : decode cX0_product 31 = .ok (.getfield 9, 3) := by decide +kernel
theorem dX0_product_34 : decode cX0_product 34 = .ok (.arraylength, 1) := by decide +kernel
theorem dX0_product_35 : decode cX0_product 35 = .ok (.if_icmp .le 4, 3) := by decide +kernel
theorem dX0_product_38 : decode cX0_product 38 = .ok (.return_, 1) := by decide +kernel
theorem dX0_product_39 : decode cX0_product 39 = .ok (.iconst 0, 1) := by decide +kernel
theorem dX0_product_40 : decode cX0_product 40 = .ok (.istore 4, 2) := by decide +kernel
theorem dX0_product_42 : decode cX0_product 42 = .ok (.iload 4, 2) := by decide +kernel
theorem dX0_product_44 : decode cX0_product 44 = .ok (.iload_n 3, 1) := by decide +kernel
theorem dX0_product_45 : decode cX0_product 45 = .ok (.if_icmp .ge 17, 3) := by decide +kernel
theorem dX0_product_48 : decode cX0_product 48 = .ok (.aload_n 0, 1) := by decide +kernel
theorem dX0_product_49 : decode cX0_product 49 = .ok (.getfield 9, 3) := by decide +kernel
theorem dX0_product_52 : decode cX0_product 52 = .ok (.iload 4, 2) := by decide +kernel
theorem dX0_product_54 : decode cX0_product 54 = .ok (.iconst 0, 1) := by decide +kernel
theorem dX0_product_55 : decode cX0_product 55 = .ok (.iastore, 1) := by decide +kernel
theorem dX0_product_56 : decode cX0_product 56 = .ok (.iinc 4 1, 3) := by decide +kernel
theorem dX0_product_59 : decode cX0_product 59 = .ok (.goto (-17), 3) := by decide +kernel
theorem dX0_product_62 : decode cX0_product 62 = .ok (.iconst 0, 1) := by decide +kernel
theorem dX0_product_63 : decode cX0_product 63 = .ok (.istore 4, 2) := by decide +kernel
theorem dX0_product_65 : decode cX0_product 65 = .ok (.iload 4, 2) := by decide +kernel
theorem dX0_product_67 : decode cX0_product 67 = .ok (.aload_n 1, 1) := by decide +kernel
theorem dX0_product_68 : decode cX0_product 68 = .ok (.getfield 15, 3) := by decide +kernel
theorem dX0_product_71 : decode cX0_product 71 = .ok (.if_icmp .ge 107, 3) := by decide +kernel
theorem dX0_product_74 : decode cX0_product 74 = .ok (.aload_n 1, 1) := by decide +kernel
theorem dX0_product_75 : decode cX0_product 75 = .ok (.getfield 9, 3) := by decide +kernel
theorem dX0_product_78 : decode cX0_product 78 = .ok (.iload 4, 2) := by decide +kernel
theorem dX0_product_80 : decode cX0_product 80 = .ok (.iaload, 1) := by decide +kernel
theorem dX0_product_81 : decode cX0_product 81 = .ok (.i2l, 1) := by decide +kernel
theorem dX0_product_82 : decode cX0_product 82 = .ok (.lstore 5, 2) := by decide +kernel
theorem dX0_product_84 : decode cX0_product 84 = .ok (.lconst 0, 1) := by decide +kernel
theorem dX0_product_85 : decode cX0_product 85 = .ok (.lstore 7, 2) := by decide +kernel
theorem dX0_product_87 : decode cX0_product 87 = .ok (.iconst 0, 1) := by decide +kernel
theorem dX0_product_88 : decode cX0_product 88 = .ok (.istore 9, 2) := by decide +kernel
theorem dX0_product_90 : decode cX0_product 90 = .ok (.iload 9, 2) := by decide +kernel
theorem dX0_product_92 : decode cX0_product 92 = .ok (.aload_n 2, 1) := by decide +kernel
theorem dX0_product_93 : decode cX0_product 93 = .ok (.getfield 15, 3) := by decide +kernel
theorem dX0_product_96 : decode cX0_product 96 = .ok (.if_icmp .ge 61, 3) := by decide +kernel
theorem dX0_product_99 : decode cX0_product 99 = .ok (.lload 5, 2) := by decide +kernel
theorem dX0_product_101 : decode cX0_product 101 = .ok (.aload_n 2, 1) := by decide +kernel
theorem dX0_product_102 : decode cX0_product 102 = .ok (.getfield 9, 3) := by decide +kernel
theorem dX0_product_105 : decode cX0_product 105 = .ok (.iload 9, 2) := by decide +kernel
theorem dX0_product_107 : decode cX0_product 107 = .ok (.iaload, 1) := by decide +kernel
theorem dX0_product_108 : decode cX0_product 108 = .ok (.i2l, 1) := by decide +kernel
theorem dX0_product_109 : decode cX0_product 109 = .ok (.lmul, 1) := by decide +kernel
theorem dX0_product_110 : decode cX0_product 110 = .ok (.aload_n 0, 1) := by decide +kernel
theorem dX0_product_111 : decode cX0_product 111 = .ok (.getfield 9, 3) := by decide +kernel
theorem dX0_product_114 : decode cX0_product 114 = .ok (.iload 4, 2) := by decide +kernel
theorem dX0_product_116 : decode cX0_product 116 = .ok (.iload 9, 2) := by decide +kernel
theorem dX0_product_118 : decode cX0_product 118 = .ok (.iadd, 1) := by decide +kernel
theorem dX0_product_119 : decode cX0_product 119 = .ok (.iaload, 1) := by decide +kernel
theorem dX0_product_120 : decode cX0_product 120 = .ok (.i2l, 1) := by decide +kernel
theorem dX0_product_121 : decode cX0_product 121 = .ok (.ladd, 1) := by decide +kernel
theorem dX0_product_122 : decode cX0_product 122 = .ok (.lload 7, 2) := by decide +kernel
theorem dX0_product_124 : decode cX0_product 124 = .ok (.ladd, 1) := by decide +kernel
theorem dX0_product_125 : decode cX0_product 125 = .ok (.lstore 10, 2) := by decide +kernel
theorem dX0_product_127 : decode cX0_product 127 = .ok (.aload_n 0, 1) := by decide +kernel
theorem dX0_product_128 : decode cX0_product 128 = .ok (.getfield 9, 3) := by decide +kernel
theorem dX0_product_131 : decode cX0_product 131 = .ok (.iload 4, 2) := by decide +kernel
theorem dX0_product_133 : decode cX0_product 133 = .ok (.iload 9, 2) := by decide +kernel
theorem dX0_product_135 : decode cX0_product 135 = .ok (.iadd, 1) := by decide +kernel
theorem dX0_product_136 : decode cX0_product 136 = .ok (.lload 10, 2) := by decide +kernel
theorem dX0_product_138 : decode cX0_product 138 = .ok (.ldc2_w 40, 3) := by decide +kernel
theorem dX0_product_141 : decode cX0_product 141 = .ok (.land, 1) := by decide +kernel
theorem dX0_product_142 : decode cX0_product 142 = .ok (.l2i, 1) := by decide +kernel
theorem dX0_product_143 : decode cX0_product 143 = .ok (.iastore, 1) := by decide +kernel
theorem dX0_product_144 : decode cX0_product 144 = .ok (.lload 10, 2) := by decide +kernel
theorem dX0_product_146 : decode cX0_product 146 = .ok (.bipush 30, 2) := by decide +kernel
theorem dX0_product_148 : decode cX0_product 148 = .ok (.lshr, 1) := by decide +kernel
theorem dX0_product_149 : decode cX0_product 149 = .ok (.lstore 7, 2) := by decide +kernel
theorem dX0_product_151 : decode cX0_product 151 = .ok (.iinc 9 1, 3) := by decide +kernel
theorem dX0_product_154 : decode cX0_product 154 = .ok (.goto (-64), 3) := by decide +kernel
theorem dX0_product_157 : decode cX0_product 157 = .ok (.aload_n 0, 1) := by decide +kernel
theorem dX0_product_158 : decode cX0_product 158 = .ok (.getfield 9, 3) := by decide +kernel
theorem dX0_product_161 : decode cX0_product 161 = .ok (.iload 4, 2) := by decide +kernel
theorem dX0_product_163 : decode cX0_product 163 = .ok (.aload_n 2, 1) := by decide +kernel
theorem dX0_product_164 : decode cX0_product 164 = .ok (.getfield 15, 3) := by decide +kernel
theorem dX0_product_167 : decode cX0_product 167 = .ok (.iadd, 1) := by decide +kernel
theorem dX0_product_168 : decode cX0_product 168 = .ok (.lload 7, 2) := by decide +kernel
theorem dX0_product_170 : decode cX0_product 170 = .ok (.l2i, 1) := by decide +kernel
theorem dX0_product_171 : decode cX0_product 171 = .ok (.iastore, 1) := by decide +kernel
theorem dX0_product_172 : decode cX0_product 172 = .ok (.iinc 4 1, 3) := by decide +kernel
theorem dX0_product_175 : decode cX0_product 175 = .ok (.goto (-110), 3) := by decide +kernel
theorem dX0_product_178 : decode cX0_product 178 = .ok (.aload_n 0, 1) := by decide +kernel
theorem dX0_product_179 : decode cX0_product 179 = .ok (.iload_n 3, 1) := by decide +kernel
theorem dX0_product_180 : decode cX0_product 180 = .ok (.putfield 15, 3) := by decide +kernel
theorem dX0_product_183 : decode cX0_product 183 = .ok (.aload_n 0, 1) := by decide +kernel
theorem dX0_product_184 : decode cX0_product 184 = .ok (.aload_n 1, 1) := by decide +kernel
theorem dX0_product_185 : decode cX0_product 185 = .ok (.getfield 19, 3) := by decide +kernel
theorem dX0_product_188 : decode cX0_product 188 = .ok (.aload_n 2, 1) := by decide +kernel
theorem dX0_product_189 : decode cX0_product 189 = .ok (.getfield 19, 3) := by decide +kernel
theorem dX0_product_192 : decode cX0_product 192 = .ok (.if_icmp .eq 7, 3) := by decide +kernel
theorem dX0_product_195 : decode cX0_product 195 = .ok (.iconst 1, 1) := by decide +kernel
theorem dX0_product_196 : decode cX0_product 196 = .ok (.goto 4, 3) := by decide +kernel
theorem dX0_product_199 : decode cX0_product 199 = .ok (.iconst 0, 1) := by decide +kernel
theorem dX0_product_200 : decode cX0_product 200 = .ok (.putfield 19, 3) := by decide +kernel
theorem dX0_product_203 : decode cX0_product 203 = .ok (.aload_n 0, 1) := by decide +kernel
theorem dX0_product_204 : decode cX0_product 204 = .ok (.invokevirtual 60, 3) := by decide +kernel
theorem dX0_product_207 : decode cX0_product 207 = .ok (.return_, 1) := by decide +kernel
theorem dX0_compareSizes_0 : decode cX0_compareSizes 0 = .ok (.aload_n 0, 1) := by decide +kernel
theorem dX0_compareSizes_1 : decode cX0_compareSizes 1 = .ok (.getfield 15, 3) := by decide +kernel
theorem dX0_compareSizes_4 : decode cX0_compareSizes 4 = .ok (.aload_n 1, 1) := by decide +kernel
theorem dX0_compareSizes_5 : decode cX0_compareSizes 5 = .ok (.getfield 15, 3) := by decide +kernel
theorem dX0_compareSizes_8 : decode cX0_compareSizes 8 = .ok (.if_icmp .eq 20, 3) := by decide +kernel
theorem dX0_compareSizes_11 : decode cX0_compareSizes 11 = .ok (.aload_n 0, 1) := by decide +kernel
theorem dX0_compareSizes_12 : decode cX0_compareSizes 12 = .ok (.getfield 15, 3) := by decide +kernel
theorem dX0_compareSizes_15 : decode cX0_compareSizes 15 = .ok (.aload_n 1, 1) := by decide +kernel
theorem dX0_compareSizes_16 : decode cX0_compareSizes 16 = .ok (.getfield 15, 3) := by decide +kernel
theorem dX0_compareSizes_19 : decode cX0_compareSizes 19 = .ok (.if_icmp .ge 7, 3) := by decide +kernel
theorem dX0_compareSizes_22 : decode cX0_compareSizes 22 = .ok (.iconst (-1), 1) := by decide +kernel
theorem dX0_compareSizes_23 : decode cX0_compareSizes 23 = .ok (.goto 4, 3) := by decide +kernel
theorem dX0_compareSizes_26 : decode cX0_compareSizes 26 = .ok (.iconst 1, 1) := by decide +kernel
theorem dX0_compareSizes_27 : decode cX0_compareSizes 27 = .ok (.ireturn, 1) := by decide +kernel
theorem dX0_compareSizes_28 : decode cX0_compareSizes 28 = .ok (.aload_n 0, 1) := by decide +kernel
theorem dX0_compareSizes_29 : decode cX0_compareSizes 29 = .ok (.getfield 15, 3) := by decide +kernel
theorem dX0_compareSizes_32 : decode cX0_compareSizes 32 = .ok (.iconst 1, 1) := by decide +kernel
theorem dX0_compareSizes_33 : decode cX0_compareSizes 33 = .ok (.isub, 1) := by decide +kernel
theorem dX0_compareSizes_34 : decode cX0_compareSizes 34 = .ok (.istore_n 2, 1) := by decide +kernel
theorem dX0_compareSizes_35 : decode cX0_compareSizes 35 = .ok (.iload_n 2, 1) := by decide +kernel
theorem dX0_compareSizes_36 : decode cX0_compareSizes 36 = .ok (.ifCond .lt 45, 3) := by decide +kernel
theorem dX0_compareSizes_39 : decode cX0_compareSizes 39 = .ok (.aload_n 0, 1) := by decide +kernel
theorem dX0_compareSizes_40 : decode cX0_compareSizes 40 = .ok (.getfield 9, 3) := by decide +kernel
theorem dX0_compareSizes_43 : decode cX0_compareSizes 43 = .ok (.iload_n 2, 1) := by decide +kernel
theorem dX0_compareSizes_44 : decode cX0_compareSizes 44 = .ok (.iaload, 1) := by decide +kernel
theorem dX0_compareSizes_45 : decode cX0_compareSizes 45 = .ok (.aload_n 1, 1) := by decide +kernel
theorem dX0_compareSizes_46 : decode cX0_compareSizes 46 = .ok (.getfield 9, 3) := by decide +kernel
theorem dX0_compareSizes_49 : decode cX0_compareSizes 49 = .ok (.iload_n 2, 1) := by decide +kernel
theorem dX0_compareSizes_50 : decode cX0_compareSizes 50 = .ok (.iaload, 1) := by decide +kernel
theorem dX0_compareSizes_51 : decode cX0_compareSizes 51 = .ok (.if_icmp .eq 24, 3) := by decide +kernel
theorem dX0_compareSizes_54 : decode cX0_compareSizes 54 = .ok (.aload_n 0, 1) := by decide +kernel
theorem dX0_compareSizes_55 : decode cX0_compareSizes 55 = .ok (.getfield 9, 3) := by decide +kernel
theorem dX0_compareSizes_58 : decode cX0_compareSizes 58 = .ok (.iload_n 2, 1) := by decide +kernel
theorem dX0_compareSizes_59 : decode cX0_compareSizes 59 = .ok (.iaload, 1) := by decide +kernel
theorem dX0_compareSizes_60 : decode cX0_compareSizes 60 = .ok (.aload_n 1, 1) := by decide +kernel
theorem dX0_compareSizes_61 : decode cX0_compareSizes 61 = .ok (.getfield 9, 3) := by decide +kernel
theorem dX0_compareSizes_64 : decode cX0_compareSizes 64 = .ok (.iload_n 2, 1) := by decide +kernel
theorem dX0_compareSizes_65 : decode cX0_compareSizes 65 = .ok (.iaload, 1) := by decide +kernel
theorem dX0_compareSizes_66 : decode cX0_compareSizes 66 = .ok (.if_icmp .ge 7, 3) := by decide +kernel
theorem dX0_compareSizes_69 : decode cX0_compareSizes 69 = .ok (.iconst (-1), 1) := by decide +kernel
theorem dX0_compareSizes_70 : decode cX0_compareSizes 70 = .ok (.goto 4, 3) := by decide +kernel
theorem dX0_compareSizes_73 : decode cX0_compareSizes 73 = .ok (.iconst 1, 1) := by decide +kernel
theorem dX0_compareSizes_74 : decode cX0_compareSizes 74 = .ok (.ireturn, 1) := by decide +kernel
theorem dX0_compareSizes_75 : decode cX0_compareSizes 75 = .ok (.iinc 2 (-1), 3) := by decide +kernel
theorem dX0_compareSizes_78 : decode cX0_compareSizes 78 = .ok (.goto (-43), 3) := by decide +kernel
theorem dX0_compareSizes_81 : decode cX0_compareSizes 81 = .ok (.iconst 0, 1) := by decide +kernel
theorem dX0_compareSizes_82 : decode cX0_compareSizes 82 = .ok (.ireturn, 1) := by decide +kernel
theorem dX0_isLike_0 : decode cX0_isLike 0 = .ok (.aload_n 0, 1) := by decide +kernel
theorem dX0_isLike_1 : decode cX0_isLike 1 = .ok (.getfield 19, 3) := by decide +kernel
theorem dX0_isLike_4 : decode cX0_isLike 4 = .ok (.aload_n 1, 1) := by decide +kernel
theorem dX0_isLike_5 : decode cX0_isLike 5 = .ok (.getfield 19, 3) := by decide +kernel
theorem dX0_isLike_8 : decode cX0_isLike 8 = .ok (.if_icmp .ne 15, 3) := by decide +kernel
theorem dX0_isLike_11 : decode cX0_isLike 11 = .ok (.aload_n 0, 1) := by decide +kernel
theorem dX0_isLike_12 : decode cX0_isLike 12 = .ok (.aload_n 1, 1) := by decide +kernel
theorem dX0_isLike_13 : decode cX0_isLike 13 = .ok (.invokevirtual 52, 3) := by decide +kernel
theorem dX0_isLike_16 : decode cX0_isLike 16 = .ok (.ifCond .ne 7, 3) := by decide +kernel
theorem dX0_isLike_19 : decode cX0_isLike 19 = .ok (.iconst 1, 1) := by decide +kernel
theorem dX0_isLike_20 : decode cX0_isLike 20 = .ok (.goto 4, 3) := by decide +kernel
theorem dX0_isLike_23 : decode cX0_isLike 23 = .ok (.iconst 0, 1) := by decide +kernel
theorem dX0_isLike_24 : decode cX0_isLike 24 = .ok (.ireturn, 1) := by decide +kernel
theorem dX0_bitLength_0 : decode cX0_bitLength 0 = .ok (.bipush 30, 2) := by decide +kernel
theorem dX0_bitLength_2 : decode cX0_bitLength 2 = .ok (.aload_n 0, 1) := by decide +kernel
theorem dX0_bitLength_3 : decode cX0_bitLength 3 = .ok (.getfield 15, 3) := by decide +kernel
theorem dX0_bitLength_6 : decode cX0_bitLength 6 = .ok (.imul, 1) := by decide +kernel
theorem dX0_bitLength_7 : decode cX0_bitLength 7 = .ok (.istore_n 1, 1) := by decide +kernel
theorem dX0_bitLength_8 : decode cX0_bitLength 8 = .ok (.aload_n 0, 1) := by decide +kernel
theorem dX0_bitLength_9 : decode cX0_bitLength 9 = .ok (.getfield 15, 3) := by decide +kernel
theorem dX0_bitLength_12 : decode cX0_bitLength 12 = .ok (.ifCond .ne 5, 3) := by decide +kernel
theorem dX0_bitLength_15 : decode cX0_bitLength 15 = .ok (.iload_n 1, 1) := by decide +kernel
theorem dX0_bitLength_16 : decode cX0_bitLength 16 = .ok (.ireturn, 1) := by decide +kernel
theorem dX0_bitLength_17 : decode cX0_bitLength 17 = .ok (.bipush 29, 2) := by decide +kernel
theorem dX0_bitLength_19 : decode cX0_bitLength 19 = .ok (.istore_n 2, 1) := by decide +kernel
theorem dX0_bitLength_20 : decode cX0_bitLength 20 = .ok (.iload_n 2, 1) := by decide +kernel
theorem dX0_bitLength_21 : decode cX0_bitLength 21 = .ok (.ifCond .le 28, 3) := by decide +kernel
theorem dX0_bitLength_24 : decode cX0_bitLength 24 = .ok (.aload_n 0, 1) := by decide +kernel
theorem dX0_bitLength_25 : decode cX0_bitLength 25 = .ok (.getfield 9, 3) := by decide +kernel
theorem dX0_bitLength_28 : decode cX0_bitLength 28 = .ok (.aload_n 0, 1) := by decide +kernel
theorem dX0_bitLength_29 : decode cX0_bitLength 29 = .ok (.getfield 15, 3) := by decide +kernel
theorem dX0_bitLength_32 : decode cX0_bitLength 32 = .ok (.iconst 1, 1) := by decide +kernel
theorem dX0_bitLength_33 : decode cX0_bitLength 33 = .ok (.isub, 1) := by decide +kernel
theorem dX0_bitLength_34 : decode cX0_bitLength 34 = .ok (.iaload, 1) := by decide +kernel
theorem dX0_bitLength_35 : decode cX0_bitLength 35 = .ok (.iload_n 2, 1) := by decide +kernel
theorem dX0_bitLength_36 : decode cX0_bitLength 36 = .ok (.ishr, 1) := by decide +kernel
theorem dX0_bitLength_37 : decode cX0_bitLength 37 = .ok (.ifCond .ne 12, 3) := by decide +kernel
theorem dX0_bitLength_40 : decode cX0_bitLength 40 = .ok (.iinc 1 (-1), 3) := by decide +kernel
theorem dX0_bitLength_43 : decode cX0_bitLength 43 = .ok (.iinc 2 (-1), 3) := by decide +kernel
theorem dX0_bitLength_46 : decode cX0_bitLength 46 = .ok (.goto (-26), 3) := by decide +kernel
theorem dX0_bitLength_49 : decode cX0_bitLength 49 = .ok (.iload_n 1, 1) := by decide +kernel
theorem dX0_bitLength_50 : decode cX0_bitLength 50 = .ok (.ireturn, 1) := by decide +kernel
theorem dX0_modulo_0 : decode cX0_modulo 0 = .ok (.iload_n 1, 1) := by decide +kernel
theorem dX0_modulo_1 : decode cX0_modulo 1 = .ok (.iconst 1, 1) := by decide +kernel
theorem dX0_modulo_2 : decode cX0_modulo 2 = .ok (.if_icmp .ge 5, 3) := by decide +kernel
theorem dX0_modulo_5 : decode cX0_modulo 5 = .ok (.iconst 0, 1) := by decide +kernel
theorem dX0_modulo_6 : decode cX0_modulo 6 = .ok (.ireturn, 1) := by decide +kernel
theorem dX0_modulo_7 : decode cX0_modulo 7 = .ok (.lconst 0, 1) := by decide +kernel
theorem dX0_modulo_8 : decode cX0_modulo 8 = .ok (.lstore_n 2, 1) := by decide +kernel
theorem dX0_modulo_9 : decode cX0_modulo 9 = .ok (.aload_n 0, 1) := by decide +kernel
theorem dX0_modulo_10 : decode cX0_modulo 10 = .ok (.getfield 15, 3) := by decide +kernel
theorem dX0_modulo_13 : decode cX0_modulo 13 = .ok (.iconst 1, 1) := by decide +kernel
theorem dX0_modulo_14 : decode cX0_modulo 14 = .ok (.isub, 1) := by decide +kernel
theorem dX0_modulo_15 : decode cX0_modulo 15 = .ok (.istore 4, 2) := by decide +kernel
theorem dX0_modulo_17 : decode cX0_modulo 17 = .ok (.iload 4, 2) := by decide +kernel
theorem dX0_modulo_19 : decode cX0_modulo 19 = .ok (.ifCond .lt 26, 3) := by decide +kernel
theorem dX0_modulo_22 : decode cX0_modulo 22 = .ok (.lload_n 2, 1) := by decide +kernel
theorem dX0_modulo_23 : decode cX0_modulo 23 = .ok (.bipush 30, 2) := by decide +kernel
theorem dX0_modulo_25 : decode cX0_modulo 25 = .ok (.lshl, 1) := by decide +kernel
theorem dX0_modulo_26 : decode cX0_modulo 26 = .ok (.aload_n 0, 1) := by decide +kernel
theorem dX0_modulo_27 : decode cX0_modulo 27 = .ok (.getfield 9, 3) := by decide +kernel
theorem dX0_modulo_30 : decode cX0_modulo 30 = .ok (.iload 4, 2) := by decide +kernel
theorem dX0_modulo_32 : decode cX0_modulo 32 = .ok (.iaload, 1) := by decide +kernel
theorem dX0_modulo_33 : decode cX0_modulo 33 = .ok (.i2l, 1) := by decide +kernel
theorem dX0_modulo_34 : decode cX0_modulo 34 = .ok (.ladd, 1) := by decide +kernel
theorem dX0_modulo_35 : decode cX0_modulo 35 = .ok (.iload_n 1, 1) := by decide +kernel
theorem dX0_modulo_36 : decode cX0_modulo 36 = .ok (.i2l, 1) := by decide +kernel
theorem dX0_modulo_37 : decode cX0_modulo 37 = .ok (.lrem, 1) := by decide +kernel
theorem dX0_modulo_38 : decode cX0_modulo 38 = .ok (.lstore_n 2, 1) := by decide +kernel
theorem dX0_modulo_39 : decode cX0_modulo 39 = .ok (.iinc 4 (-1), 3) := by decide +kernel
theorem dX0_modulo_42 : decode cX0_modulo 42 = .ok (.goto (-25), 3) := by decide +kernel
theorem dX0_modulo_45 : decode cX0_modulo 45 = .ok (.aload_n 0, 1) := by decide +kernel
theorem dX0_modulo_46 : decode cX0_modulo 46 = .ok (.getfield 19, 3) := by decide +kernel
theorem dX0_modulo_49 : decode cX0_modulo 49 = .ok (.ifCond .eq 16, 3) := by decide +kernel
theorem dX0_modulo_52 : decode cX0_modulo 52 = .ok (.lload_n 2, 1) := by decide +kernel
theorem dX0_modulo_53 : decode cX0_modulo 53 = .ok (.lconst 0, 1) := by decide +kernel
theorem dX0_modulo_54 : decode cX0_modulo 54 = .ok (.lcmp, 1) := by decide +kernel
theorem dX0_modulo_55 : decode cX0_modulo 55 = .ok (.ifCond .le 10, 3) := by decide +kernel
theorem dX0_modulo_58 : decode cX0_modulo 58 = .ok (.iload_n 1, 1) := by decide +kernel
theorem dX0_modulo_59 : decode cX0_modulo 59 = .ok (.i2l, 1) := by decide +kernel
theorem dX0_modulo_60 : decode cX0_modulo 60 = .ok (.lload_n 2, 1) := by decide +kernel
theorem dX0_modulo_61 : decode cX0_modulo 61 = .ok (.lsub, 1) := by decide +kernel
theorem dX0_modulo_62 : decode cX0_modulo 62 = .ok (.goto 4, 3) := by decide +kernel
theorem dX0_modulo_65 : decode cX0_modulo 65 = .ok (.lload_n 2, 1) := by decide +kernel
theorem dX0_modulo_66 : decode cX0_modulo 66 = .ok (.l2i, 1) := by decide +kernel
theorem dX0_modulo_67 : decode cX0_modulo 67 = .ok (.ireturn, 1) := by decide +kernel
theorem dX0_sixteenBits_0 : decode cX0_sixteenBits 0 = .ok (.ldc2_w 67, 3) := by decide +kernel
theorem dX0_sixteenBits_3 : decode cX0_sixteenBits 3 = .ok (.iload_n 1, 1) := by decide +kernel
theorem dX0_sixteenBits_4 : decode cX0_sixteenBits 4 = .ok (.i2l, 1) := by decide +kernel
theorem dX0_sixteenBits_5 : decode cX0_sixteenBits 5 = .ok (.lmul, 1) := by decide +kernel
theorem dX0_sixteenBits_6 : decode cX0_sixteenBits 6 = .ok (.lstore_n 2, 1) := by decide +kernel
theorem dX0_sixteenBits_7 : decode cX0_sixteenBits 7 = .ok (.lload_n 2, 1) := by decide +kernel
theorem dX0_sixteenBits_8 : decode cX0_sixteenBits 8 = .ok (.ldc2_w 69, 3) := by decide +kernel
theorem dX0_sixteenBits_11 : decode cX0_sixteenBits 11 = .ok (.ldiv, 1) := by decide +kernel
theorem dX0_sixteenBits_12 : decode cX0_sixteenBits 12 = .ok (.lstore 4, 2) := by decide +kernel
theorem dX0_sixteenBits_14 : decode cX0_sixteenBits 14 = .ok (.lload_n 2, 1) := by decide +kernel
theorem dX0_sixteenBits_15 : decode cX0_sixteenBits 15 = .ok (.ldc2_w 69, 3) := by decide +kernel
theorem dX0_sixteenBits_18 : decode cX0_sixteenBits 18 = .ok (.lrem, 1) := by decide +kernel
theorem dX0_sixteenBits_19 : decode cX0_sixteenBits 19 = .ok (.l2i, 1) := by decide +kernel
theorem dX0_sixteenBits_20 : decode cX0_sixteenBits 20 = .ok (.istore 6, 2) := by decide +kernel
theorem dX0_sixteenBits_22 : decode cX0_sixteenBits 22 = .ok (.lload 4, 2) := by decide +kernel
theorem dX0_sixteenBits_24 : decode cX0_sixteenBits 24 = .ok (.lconst 0, 1) := by decide +kernel
theorem dX0_sixteenBits_25 : decode cX0_sixteenBits 25 = .ok (.lcmp, 1) := by decide +kernel
theorem dX0_sixteenBits_26 : decode cX0_sixteenBits 26 = .ok (.ifCond .lt 14, 3) := by decide +kernel
theorem dX0_sixteenBits_29 : decode cX0_sixteenBits 29 = .ok (.lload 4, 2) := by decide +kernel
theorem dX0_sixteenBits_31 : decode cX0_sixteenBits 31 = .ok (.aload_n 0, 1) := by decide +kernel
theorem dX0_sixteenBits_32 : decode cX0_sixteenBits 32 = .ok (.getfield 15, 3) := by decide +kernel
theorem dX0_sixteenBits_35 : decode cX0_sixteenBits 35 = .ok (.i2l, 1) := by decide +kernel
theorem dX0_sixteenBits_36 : decode cX0_sixteenBits 36 = .ok (.lcmp, 1) := by decide +kernel
theorem dX0_sixteenBits_37 : decode cX0_sixteenBits 37 = .ok (.ifCond .lt 5, 3) := by decide +kernel
theorem dX0_sixteenBits_40 : decode cX0_sixteenBits 40 = .ok (.iconst 0, 1) := by decide +kernel
theorem dX0_sixteenBits_41 : decode cX0_sixteenBits 41 = .ok (.ireturn, 1) := by decide +kernel
theorem dX0_sixteenBits_42 : decode cX0_sixteenBits 42 = .ok (.lload 4, 2) := by decide +kernel
theorem dX0_sixteenBits_44 : decode cX0_sixteenBits 44 = .ok (.l2i, 1) := by decide +kernel
theorem dX0_sixteenBits_45 : decode cX0_sixteenBits 45 = .ok (.istore 7, 2) := by decide +kernel
theorem dX0_sixteenBits_47 : decode cX0_sixteenBits 47 = .ok (.aload_n 0, 1) := by decide +kernel
theorem dX0_sixteenBits_48 : decode cX0_sixteenBits 48 = .ok (.getfield 9, 3) := by decide +kernel
theorem dX0_sixteenBits_51 : decode cX0_sixteenBits 51 = .ok (.iload 7, 2) := by decide +kernel
theorem dX0_sixteenBits_53 : decode cX0_sixteenBits 53 = .ok (.iaload, 1) := by decide +kernel
theorem dX0_sixteenBits_54 : decode cX0_sixteenBits 54 = .ok (.i2l, 1) := by decide +kernel
theorem dX0_sixteenBits_55 : decode cX0_sixteenBits 55 = .ok (.iload 7, 2) := by decide +kernel
theorem dX0_sixteenBits_57 : decode cX0_sixteenBits 57 = .ok (.iconst 1, 1) := by decide +kernel
theorem dX0_sixteenBits_58 : decode cX0_sixteenBits 58 = .ok (.iadd, 1) := by decide +kernel
theorem dX0_sixteenBits_59 : decode cX0_sixteenBits 59 = .ok (.aload_n 0, 1) := by decide +kernel
theorem dX0_sixteenBits_60 : decode cX0_sixteenBits 60 = .ok (.getfield 15, 3) := by decide +kernel
theorem dX0_sixteenBits_63 : decode cX0_sixteenBits 63 = .ok (.if_icmp .ge 19, 3) := by decide +kernel
theorem dX0_sixteenBits_66 : decode cX0_sixteenBits 66 = .ok (.aload_n 0, 1) := by decide +kernel
theorem dX0_sixteenBits_67 : decode cX0_sixteenBits 67 = .ok (.getfield 9, 3) := by decide +kernel
theorem dX0_sixteenBits_70 : decode cX0_sixteenBits 70 = .ok (.iload 7, 2) := by decide +kernel
theorem dX0_sixteenBits_72 : decode cX0_sixteenBits 72 = .ok (.iconst 1, 1) := by decide +kernel
theorem dX0_sixteenBits_73 : decode cX0_sixteenBits 73 = .ok (.iadd, 1) := by decide +kernel
theorem dX0_sixteenBits_74 : decode cX0_sixteenBits 74 = .ok (.iaload, 1) := by decide +kernel
theorem dX0_sixteenBits_75 : decode cX0_sixteenBits 75 = .ok (.i2l, 1) := by decide +kernel
theorem dX0_sixteenBits_76 : decode cX0_sixteenBits 76 = .ok (.bipush 30, 2) := by decide +kernel
theorem dX0_sixteenBits_78 : decode cX0_sixteenBits 78 = .ok (.lshl, 1) := by decide +kernel
theorem dX0_sixteenBits_79 : decode cX0_sixteenBits 79 = .ok (.goto 4, 3) := by decide +kernel
theorem dX0_sixteenBits_82 : decode cX0_sixteenBits 82 = .ok (.lconst 0, 1) := by decide +kernel
theorem dX0_sixteenBits_83 : decode cX0_sixteenBits 83 = .ok (.ladd, 1) := by decide +kernel
theorem dX0_sixteenBits_84 : decode cX0_sixteenBits 84 = .ok (.lstore 8, 2) := by decide +kernel
theorem dX0_sixteenBits_86 : decode cX0_sixteenBits 86 = .ok (.lload 8, 2) := by decide +kernel
theorem dX0_sixteenBits_88 : decode cX0_sixteenBits 88 = .ok (.iload 6, 2) := by decide +kernel
theorem dX0_sixteenBits_90 : decode cX0_sixteenBits 90 = .ok (.lshr, 1) := by decide +kernel
theorem dX0_sixteenBits_91 : decode cX0_sixteenBits 91 = .ok (.ldc2_w 71, 3) := by decide +kernel
theorem dX0_sixteenBits_94 : decode cX0_sixteenBits 94 = .ok (.land, 1) := by decide +kernel
theorem dX0_sixteenBits_95 : decode cX0_sixteenBits 95 = .ok (.l2i, 1) := by decide +kernel
theorem dX0_sixteenBits_96 : decode cX0_sixteenBits 96 = .ok (.ireturn, 1) := by decide +kernel
theorem dX0_takeQuotient_0 : decode cX0_takeQuotient 0 = .ok (.aload_n 0, 1) := by decide +kernel
theorem dX0_takeQuotient_1 : decode cX0_takeQuotient 1 = .ok (.iload_n 1, 1) := by decide +kernel
theorem dX0_takeQuotient_2 : decode cX0_takeQuotient 2 = .ok (.invokevirtual 73, 3) := by decide +kernel
theorem dX0_takeQuotient_5 : decode cX0_takeQuotient 5 = .ok (.aload_n 2, 1) := by decide +kernel
theorem dX0_takeQuotient_6 : decode cX0_takeQuotient 6 = .ok (.getfield 15, 3) := by decide +kernel
theorem dX0_takeQuotient_9 : decode cX0_takeQuotient 9 = .ok (.istore_n 3, 1) := by decide +kernel
theorem dX0_takeQuotient_10 : decode cX0_takeQuotient 10 = .ok (.iload_n 3, 1) := by decide +kernel
theorem dX0_takeQuotient_11 : decode cX0_takeQuotient 11 = .ok (.ifCond .eq 22, 3) := by decide +kernel
theorem dX0_takeQuotient_14 : decode cX0_takeQuotient 14 = .ok (.aload_n 0, 1) := by decide +kernel
theorem dX0_takeQuotient_15 : decode cX0_takeQuotient 15 = .ok (.getfield 15, 3) := by decide +kernel
theorem dX0_takeQuotient_18 : decode cX0_takeQuotient 18 = .ok (.iload_n 3, 1) := by decide +kernel
theorem dX0_takeQuotient_19 : decode cX0_takeQuotient 19 = .ok (.if_icmp .lt 14, 3) := by decide +kernel
theorem dX0_takeQuotient_22 : decode cX0_takeQuotient 22 = .ok (.aload_n 2, 1) := by decide +kernel
theorem dX0_takeQuotient_23 : decode cX0_takeQuotient 23 = .ok (.getfield 9, 3) := by decide +kernel
theorem dX0_takeQuotient_26 : decode cX0_takeQuotient 26 = .ok (.iload_n 3, 1) := by decide +kernel
theorem dX0_takeQuotient_27 : decode cX0_takeQuotient 27 = .ok (.iconst 1, 1) := by decide +kernel
theorem dX0_takeQuotient_28 : decode cX0_takeQuotient 28 = .ok (.isub, 1) := by decide +kernel
theorem dX0_takeQuotient_29 : decode cX0_takeQuotient 29 = .ok (.iaload, 1) := by decide +kernel
theorem dX0_takeQuotient_30 : decode cX0_takeQuotient 30 = .ok (.ifCond .ne 5, 3) := by decide +kernel
theorem dX0_takeQuotient_33 : decode cX0_takeQuotient 33 = .ok (.iconst 0, 1) := by decide +kernel
theorem dX0_takeQuotient_34 : decode cX0_takeQuotient 34 = .ok (.ireturn, 1) := by decide +kernel
theorem dX0_takeQuotient_35 : decode cX0_takeQuotient 35 = .ok (.aload_n 0, 1) := by decide +kernel
theorem dX0_takeQuotient_36 : decode cX0_takeQuotient 36 = .ok (.getfield 15, 3) := by decide +kernel
theorem dX0_takeQuotient_39 : decode cX0_takeQuotient 39 = .ok (.iload_n 3, 1) := by decide +kernel
theorem dX0_takeQuotient_40 : decode cX0_takeQuotient 40 = .ok (.if_icmp .le 13, 3) := by decide +kernel
theorem dX0_takeQuotient_43 : decode cX0_takeQuotient 43 = .ok (.aload_n 0, 1) := by decide +kernel
theorem dX0_takeQuotient_44 : decode cX0_takeQuotient 44 = .ok (.getfield 9, 3) := by decide +kernel
theorem dX0_takeQuotient_47 : decode cX0_takeQuotient 47 = .ok (.iload_n 3, 1) := by decide +kernel
theorem dX0_takeQuotient_48 : decode cX0_takeQuotient 48 = .ok (.iaload, 1) := by decide +kernel
theorem dX0_takeQuotient_49 : decode cX0_takeQuotient 49 = .ok (.i2l, 1) := by decide +kernel
theorem dX0_takeQuotient_50 : decode cX0_takeQuotient 50 = .ok (.goto 4, 3) := by decide +kernel
theorem dX0_takeQuotient_53 : decode cX0_takeQuotient 53 = .ok (.lconst 0, 1) := by decide +kernel
theorem dX0_takeQuotient_54 : decode cX0_takeQuotient 54 = .ok (.lstore 4, 2) := by decide +kernel
theorem dX0_takeQuotient_56 : decode cX0_takeQuotient 56 = .ok (.lload 4, 2) := by decide +kernel
theorem dX0_takeQuotient_58 : decode cX0_takeQuotient 58 = .ok (.bipush 30, 2) := by decide +kernel
theorem dX0_takeQuotient_60 : decode cX0_takeQuotient 60 = .ok (.lshl, 1) := by decide +kernel
theorem dX0_takeQuotient_61 : decode cX0_takeQuotient 61 = .ok (.aload_n 0, 1) := by decide +kernel
theorem dX0_takeQuotient_62 : decode cX0_takeQuotient 62 = .ok (.getfield 9, 3) := by decide +kernel
theorem dX0_takeQuotient_65 : decode cX0_takeQuotient 65 = .ok (.iload_n 3, 1) := by decide +kernel
theorem dX0_takeQuotient_66 : decode cX0_takeQuotient 66 = .ok (.iconst 1, 1) := by decide +kernel
theorem dX0_takeQuotient_67 : decode cX0_takeQuotient 67 = .ok (.isub, 1) := by decide +kernel
theorem dX0_takeQuotient_68 : decode cX0_takeQuotient 68 = .ok (.iaload, 1) := by decide +kernel
theorem dX0_takeQuotient_69 : decode cX0_takeQuotient 69 = .ok (.i2l, 1) := by decide +kernel
theorem dX0_takeQuotient_70 : decode cX0_takeQuotient 70 = .ok (.ladd, 1) := by decide +kernel
theorem dX0_takeQuotient_71 : decode cX0_takeQuotient 71 = .ok (.aload_n 2, 1) := by decide +kernel
theorem dX0_takeQuotient_72 : decode cX0_takeQuotient 72 = .ok (.getfield 9, 3) := by decide +kernel
theorem dX0_takeQuotient_75 : decode cX0_takeQuotient 75 = .ok (.iload_n 3, 1) := by decide +kernel
theorem dX0_takeQuotient_76 : decode cX0_takeQuotient 76 = .ok (.iconst 1, 1) := by decide +kernel
theorem dX0_takeQuotient_77 : decode cX0_takeQuotient 77 = .ok (.isub, 1) := by decide +kernel
theorem dX0_takeQuotient_78 : decode cX0_takeQuotient 78 = .ok (.iaload, 1) := by decide +kernel
theorem dX0_takeQuotient_79 : decode cX0_takeQuotient 79 = .ok (.i2l, 1) := by decide +kernel
theorem dX0_takeQuotient_80 : decode cX0_takeQuotient 80 = .ok (.ldiv, 1) := by decide +kernel
theorem dX0_takeQuotient_81 : decode cX0_takeQuotient 81 = .ok (.lstore 6, 2) := by decide +kernel
theorem dX0_takeQuotient_83 : decode cX0_takeQuotient 83 = .ok (.lload 6, 2) := by decide +kernel
theorem dX0_takeQuotient_85 : decode cX0_takeQuotient 85 = .ok (.ldc2_w 40, 3) := by decide +kernel
theorem dX0_takeQuotient_88 : decode cX0_takeQuotient 88 = .ok (.invokestatic 76, 3) := by decide +kernel
theorem dX0_takeQuotient_91 : decode cX0_takeQuotient 91 = .ok (.l2i, 1) := by decide +kernel
theorem dX0_takeQuotient_92 : decode cX0_takeQuotient 92 = .ok (.istore 8, 2) := by decide +kernel
theorem dX0_takeQuotient_94 : decode cX0_takeQuotient 94 = .ok (.lload 4, 2) := by decide +kernel
theorem dX0_takeQuotient_96 : decode cX0_takeQuotient 96 = .ok (.aload_n 0, 1) := by decide +kernel
theorem dX0_takeQuotient_97 : decode cX0_takeQuotient 97 = .ok (.iload 8, 2) := by decide +kernel
theorem dX0_takeQuotient_99 : decode cX0_takeQuotient 99 = .ok (.i2l, 1) := by decide +kernel
theorem dX0_takeQuotient_100 : decode cX0_takeQuotient 100 = .ok (.aload_n 2, 1) := by decide +kernel
theorem dX0_takeQuotient_101 : decode cX0_takeQuotient 101 = .ok (.invokevirtual 79, 3) := by decide +kernel
theorem dX0_takeQuotient_104 : decode cX0_takeQuotient 104 = .ok (.ladd, 1) := by decide +kernel
theorem dX0_takeQuotient_105 : decode cX0_takeQuotient 105 = .ok (.lstore 4, 2) := by decide +kernel
theorem dX0_takeQuotient_107 : decode cX0_takeQuotient 107 = .ok (.iconst 0, 1) := by decide +kernel
theorem dX0_takeQuotient_108 : decode cX0_takeQuotient 108 = .ok (.istore 9, 2) := by decide +kernel
theorem dX0_takeQuotient_110 : decode cX0_takeQuotient 110 = .ok (.iload 9, 2) := by decide +kernel
theorem dX0_takeQuotient_112 : decode cX0_takeQuotient 112 = .ok (.iconst 2, 1) := by decide +kernel
theorem dX0_takeQuotient_113 : decode cX0_takeQuotient 113 = .ok (.if_icmp .ge 30, 3) := by decide +kernel
theorem dX0_takeQuotient_116 : decode cX0_takeQuotient 116 = .ok (.lload 4, 2) := by decide +kernel
theorem dX0_takeQuotient_118 : decode cX0_takeQuotient 118 = .ok (.lconst 0, 1) := by decide +kernel
theorem dX0_takeQuotient_119 : decode cX0_takeQuotient 119 = .ok (.lcmp, 1) := by decide +kernel
theorem dX0_takeQuotient_120 : decode cX0_takeQuotient 120 = .ok (.ifCond .ge 23, 3) := by decide +kernel
theorem dX0_takeQuotient_123 : decode cX0_takeQuotient 123 = .ok (.iinc 8 (-1), 3) := by decide +kernel
theorem dX0_takeQuotient_126 : decode cX0_takeQuotient 126 = .ok (.lload 4, 2) := by decide +kernel
theorem dX0_takeQuotient_128 : decode cX0_takeQuotient 128 = .ok (.aload_n 0, 1) := by decide +kernel
theorem dX0_takeQuotient_129 : decode cX0_takeQuotient 129 = .ok (.aload_n 2, 1) := by decide +kernel
theorem dX0_takeQuotient_130 : decode cX0_takeQuotient 130 = .ok (.invokevirtual 83, 3) := by decide +kernel
theorem dX0_takeQuotient_133 : decode cX0_takeQuotient 133 = .ok (.i2l, 1) := by decide +kernel
theorem dX0_takeQuotient_134 : decode cX0_takeQuotient 134 = .ok (.ladd, 1) := by decide +kernel
theorem dX0_takeQuotient_135 : decode cX0_takeQuotient 135 = .ok (.lstore 4, 2) := by decide +kernel
theorem dX0_takeQuotient_137 : decode cX0_takeQuotient 137 = .ok (.iinc 9 1, 3) := by decide +kernel
theorem dX0_takeQuotient_140 : decode cX0_takeQuotient 140 = .ok (.goto (-30), 3) := by decide +kernel
theorem dX0_takeQuotient_143 : decode cX0_takeQuotient 143 = .ok (.aload_n 0, 1) := by decide +kernel
theorem dX0_takeQuotient_144 : decode cX0_takeQuotient 144 = .ok (.iload_n 3, 1) := by decide +kernel
theorem dX0_takeQuotient_145 : decode cX0_takeQuotient 145 = .ok (.putfield 15, 3) := by decide +kernel
theorem dX0_takeQuotient_148 : decode cX0_takeQuotient 148 = .ok (.aload_n 0, 1) := by decide +kernel
theorem dX0_takeQuotient_149 : decode cX0_takeQuotient 149 = .ok (.invokevirtual 60, 3) := by decide +kernel
theorem dX0_takeQuotient_152 : decode cX0_takeQuotient 152 = .ok (.iload 8, 2) := by decide +kernel
theorem dX0_takeQuotient_154 : decode cX0_takeQuotient 154 = .ok (.ireturn, 1) := by decide +kernel
theorem dX0_takeAway_0 : decode cX0_takeAway 0 = .ok (.lconst 0, 1) := by decide +kernel
theorem dX0_takeAway_1 : decode cX0_takeAway 1 = .ok (.lstore 4, 2) := by decide +kernel
theorem dX0_takeAway_3 : decode cX0_takeAway 3 = .ok (.iconst 0, 1) := by decide +kernel
theorem dX0_takeAway_4 : decode cX0_takeAway 4 = .ok (.istore 6, 2) := by decide +kernel
theorem dX0_takeAway_6 : decode cX0_takeAway 6 = .ok (.iload 6, 2) := by decide +kernel
theorem dX0_takeAway_8 : decode cX0_takeAway 8 = .ok (.aload_n 3, 1) := by decide +kernel
theorem dX0_takeAway_9 : decode cX0_takeAway 9 = .ok (.getfield 15, 3) := by decide +kernel
theorem dX0_takeAway_12 : decode cX0_takeAway 12 = .ok (.if_icmp .ge 63, 3) := by decide +kernel
theorem dX0_takeAway_15 : decode cX0_takeAway 15 = .ok (.iload 6, 2) := by decide +kernel
theorem dX0_takeAway_17 : decode cX0_takeAway 17 = .ok (.aload_n 0, 1) := by decide +kernel
theorem dX0_takeAway_18 : decode cX0_takeAway 18 = .ok (.getfield 15, 3) := by decide +kernel
theorem dX0_takeAway_21 : decode cX0_takeAway 21 = .ok (.if_icmp .ge 54, 3) := by decide +kernel
theorem dX0_takeAway_24 : decode cX0_takeAway 24 = .ok (.aload_n 0, 1) := by decide +kernel
theorem dX0_takeAway_25 : decode cX0_takeAway 25 = .ok (.getfield 9, 3) := by decide +kernel
theorem dX0_takeAway_28 : decode cX0_takeAway 28 = .ok (.iload 6, 2) := by decide +kernel
theorem dX0_takeAway_30 : decode cX0_takeAway 30 = .ok (.iaload, 1) := by decide +kernel
theorem dX0_takeAway_31 : decode cX0_takeAway 31 = .ok (.i2l, 1) := by decide +kernel
theorem dX0_takeAway_32 : decode cX0_takeAway 32 = .ok (.lload 4, 2) := by decide +kernel
theorem dX0_takeAway_34 : decode cX0_takeAway 34 = .ok (.ladd, 1) := by decide +kernel
theorem dX0_takeAway_35 : decode cX0_takeAway 35 = .ok (.lload_n 1, 1) := by decide +kernel
theorem dX0_takeAway_36 : decode cX0_takeAway 36 = .ok (.aload_n 3, 1) := by decide +kernel
theorem dX0_takeAway_37 : decode cX0_takeAway 37 = .ok (.getfield 9, 3) := by decide +kernel
theorem dX0_takeAway_40 : decode cX0_takeAway 40 = .ok (.iload 6, 2) := by decide +kernel
theorem dX0_takeAway_42 : decode cX0_takeAway 42 = .ok (.iaload, 1) := by decide +kernel
theorem dX0_takeAway_43 : decode cX0_takeAway 43 = .ok (.i2l, 1) := by decide +kernel
theorem dX0_takeAway_44 : decode cX0_takeAway 44 = .ok (.lmul, 1) := by decide +kernel
theorem dX0_takeAway_45 : decode cX0_takeAway 45 = .ok (.lsub, 1) := by decide +kernel
theorem dX0_takeAway_46 : decode cX0_takeAway 46 = .ok (.lstore 7, 2) := by decide +kernel
theorem dX0_takeAway_48 : decode cX0_takeAway 48 = .ok (.aload_n 0, 1) := by decide +kernel
theorem dX0_takeAway_49 : decode cX0_takeAway 49 = .ok (.getfield 9, 3) := by decide +kernel
theorem dX0_takeAway_52 : decode cX0_takeAway 52 = .ok (.iload 6, 2) := by decide +kernel
theorem dX0_takeAway_54 : decode cX0_takeAway 54 = .ok (.lload 7, 2) := by decide +kernel
theorem dX0_takeAway_56 : decode cX0_takeAway 56 = .ok (.ldc2_w 40, 3) := by decide +kernel
theorem dX0_takeAway_59 : decode cX0_takeAway 59 = .ok (.land, 1) := by decide +kernel
theorem dX0_takeAway_60 : decode cX0_takeAway 60 = .ok (.l2i, 1) := by decide +kernel
theorem dX0_takeAway_61 : decode cX0_takeAway 61 = .ok (.iastore, 1) := by decide +kernel
theorem dX0_takeAway_62 : decode cX0_takeAway 62 = .ok (.lload 7, 2) := by decide +kernel
theorem dX0_takeAway_64 : decode cX0_takeAway 64 = .ok (.bipush 30, 2) := by decide +kernel
theorem dX0_takeAway_66 : decode cX0_takeAway 66 = .ok (.lshr, 1) := by decide +kernel
theorem dX0_takeAway_67 : decode cX0_takeAway 67 = .ok (.lstore 4, 2) := by decide +kernel
theorem dX0_takeAway_69 : decode cX0_takeAway 69 = .ok (.iinc 6 1, 3) := by decide +kernel
theorem dX0_takeAway_72 : decode cX0_takeAway 72 = .ok (.goto (-66), 3) := by decide +kernel
theorem dX0_takeAway_75 : decode cX0_takeAway 75 = .ok (.lload 4, 2) := by decide +kernel
theorem dX0_takeAway_77 : decode cX0_takeAway 77 = .ok (.lreturn, 1) := by decide +kernel
theorem dX0_putBack_0 : decode cX0_putBack 0 = .ok (.iconst 0, 1) := by decide +kernel
theorem dX0_putBack_1 : decode cX0_putBack 1 = .ok (.istore_n 2, 1) := by decide +kernel
theorem dX0_putBack_2 : decode cX0_putBack 2 = .ok (.iconst 0, 1) := by decide +kernel
theorem dX0_putBack_3 : decode cX0_putBack 3 = .ok (.istore_n 3, 1) := by decide +kernel
theorem dX0_putBack_4 : decode cX0_putBack 4 = .ok (.iload_n 3, 1) := by decide +kernel
theorem dX0_putBack_5 : decode cX0_putBack 5 = .ok (.aload_n 1, 1) := by decide +kernel
theorem dX0_putBack_6 : decode cX0_putBack 6 = .ok (.getfield 15, 3) := by decide +kernel
theorem dX0_putBack_9 : decode cX0_putBack 9 = .ok (.if_icmp .ge 51, 3) := by decide +kernel
theorem dX0_putBack_12 : decode cX0_putBack 12 = .ok (.iload_n 3, 1) := by decide +kernel
theorem dX0_putBack_13 : decode cX0_putBack 13 = .ok (.aload_n 0, 1) := by decide +kernel
theorem dX0_putBack_14 : decode cX0_putBack 14 = .ok (.getfield 15, 3) := by decide +kernel
theorem dX0_putBack_17 : decode cX0_putBack 17 = .ok (.if_icmp .ge 43, 3) := by decide +kernel
theorem dX0_putBack_20 : decode cX0_putBack 20 = .ok (.aload_n 0, 1) := by decide +kernel
theorem dX0_putBack_21 : decode cX0_putBack 21 = .ok (.getfield 9, 3) := by decide +kernel
theorem dX0_putBack_24 : decode cX0_putBack 24 = .ok (.iload_n 3, 1) := by decide +kernel
theorem dX0_putBack_25 : decode cX0_putBack 25 = .ok (.iaload, 1) := by decide +kernel
theorem dX0_putBack_26 : decode cX0_putBack 26 = .ok (.iload_n 2, 1) := by decide +kernel
theorem dX0_putBack_27 : decode cX0_putBack 27 = .ok (.iadd, 1) := by decide +kernel
theorem dX0_putBack_28 : decode cX0_putBack 28 = .ok (.aload_n 1, 1) := by decide +kernel
theorem dX0_putBack_29 : decode cX0_putBack 29 = .ok (.getfield 9, 3) := by decide +kernel
theorem dX0_putBack_32 : decode cX0_putBack 32 = .ok (.iload_n 3, 1) := by decide +kernel
theorem dX0_putBack_33 : decode cX0_putBack 33 = .ok (.iaload, 1) := by decide +kernel
theorem dX0_putBack_34 : decode cX0_putBack 34 = .ok (.iadd, 1) := by decide +kernel
theorem dX0_putBack_35 : decode cX0_putBack 35 = .ok (.istore 4, 2) := by decide +kernel
theorem dX0_putBack_37 : decode cX0_putBack 37 = .ok (.aload_n 0, 1) := by decide +kernel
theorem dX0_putBack_38 : decode cX0_putBack 38 = .ok (.getfield 9, 3) := by decide +kernel
theorem dX0_putBack_41 : decode cX0_putBack 41 = .ok (.iload_n 3, 1) := by decide +kernel
theorem dX0_putBack_42 : decode cX0_putBack 42 = .ok (.iload 4, 2) := by decide +kernel
theorem dX0_putBack_44 : decode cX0_putBack 44 = .ok (.ldc 66, 2) := by decide +kernel
theorem dX0_putBack_46 : decode cX0_putBack 46 = .ok (.iand, 1) := by decide +kernel
theorem dX0_putBack_47 : decode cX0_putBack 47 = .ok (.iastore, 1) := by decide +kernel
theorem dX0_putBack_48 : decode cX0_putBack 48 = .ok (.iload 4, 2) := by decide +kernel
theorem dX0_putBack_50 : decode cX0_putBack 50 = .ok (.bipush 30, 2) := by decide +kernel
theorem dX0_putBack_52 : decode cX0_putBack 52 = .ok (.iushr, 1) := by decide +kernel
theorem dX0_putBack_53 : decode cX0_putBack 53 = .ok (.istore_n 2, 1) := by decide +kernel
theorem dX0_putBack_54 : decode cX0_putBack 54 = .ok (.iinc 3 1, 3) := by decide +kernel
theorem dX0_putBack_57 : decode cX0_putBack 57 = .ok (.goto (-53), 3) := by decide +kernel
theorem dX0_putBack_60 : decode cX0_putBack 60 = .ok (.iload_n 2, 1) := by decide +kernel
theorem dX0_putBack_61 : decode cX0_putBack 61 = .ok (.ireturn, 1) := by decide +kernel
theorem dX1_init_0 : decode cX1_init 0 = .ok (.aload_n 0, 1) := by decide +kernel
theorem dX1_init_1 : decode cX1_init 1 = .ok (.invokespecial 3, 3) := by decide +kernel
theorem dX1_init_4 : decode cX1_init 4 = .ok (.aload_n 0, 1) := by decide +kernel
theorem dX1_init_5 : decode cX1_init 5 = .ok (.iconst 4, 1) := by decide +kernel
theorem dX1_init_6 : decode cX1_init 6 = .ok (.newarray .int, 2) := by decide +kernel
theorem dX1_init_8 : decode cX1_init 8 = .ok (.putfield 9, 3) := by decide +kernel
theorem dX1_init_11 : decode cX1_init 11 = .ok (.aload_n 0, 1) := by decide +kernel
theorem dX1_init_12 : decode cX1_init 12 = .ok (.iconst 4, 1) := by decide +kernel
theorem dX1_init_13 : decode cX1_init 13 = .ok (.newarray .int, 2) := by decide +kernel
theorem dX1_init_15 : decode cX1_init 15 = .ok (.putfield 15, 3) := by decide +kernel
theorem dX1_init_18 : decode cX1_init 18 = .ok (.aload_n 0, 1) := by decide +kernel
theorem dX1_init_19 : decode cX1_init 19 = .ok (.iconst 4, 1) := by decide +kernel
theorem dX1_init_20 : decode cX1_init 20 = .ok (.newarray .int, 2) := by decide +kernel
theorem dX1_init_22 : decode cX1_init 22 = .ok (.putfield 18, 3) := by decide +kernel
theorem dX1_init_25 : decode cX1_init 25 = .ok (.return_, 1) := by decide +kernel
theorem dX1_addPart_0 : decode cX1_addPart 0 = .ok (.aload_n 0, 1) := by decide +kernel
theorem dX1_addPart_1 : decode cX1_addPart 1 = .ok (.getfield 21, 3) := by decide +kernel
theorem dX1_addPart_4 : decode cX1_addPart 4 = .ok (.ifCond .lt 11, 3) := by decide +kernel
theorem dX1_addPart_7 : decode cX1_addPart 7 = .ok (.aload_n 0, 1) := by decide +kernel
theorem dX1_addPart_8 : decode cX1_addPart 8 = .ok (.getfield 21, 3) := by decide +kernel
theorem dX1_addPart_11 : decode cX1_addPart 11 = .ok (.iconst 4, 1) := by decide +kernel
theorem dX1_addPart_12 : decode cX1_addPart 12 = .ok (.if_icmp .lt 5, 3) := by decide +kernel
theorem dX1_addPart_15 : decode cX1_addPart 15 = .ok (.iconst 0, 1) := by decide +kernel
theorem dX1_addPart_16 : decode cX1_addPart 16 = .ok (.ireturn, 1) := by decide +kernel
theorem dX1_addPart_17 : decode cX1_addPart 17 = .ok (.aload_n 0, 1) := by decide +kernel
theorem dX1_addPart_18 : decode cX1_addPart 18 = .ok (.getfield 9, 3) := by decide +kernel
theorem dX1_addPart_21 : decode cX1_addPart 21 = .ok (.aload_n 0, 1) := by decide +kernel
theorem dX1_addPart_22 : decode cX1_addPart 22 = .ok (.getfield 21, 3) := by decide +kernel
theorem dX1_addPart_25 : decode cX1_addPart 25 = .ok (.iload_n 1, 1) := by decide +kernel
theorem dX1_addPart_26 : decode cX1_addPart 26 = .ok (.iastore, 1) := by decide +kernel
theorem dX1_addPart_27 : decode cX1_addPart 27 = .ok (.aload_n 0, 1) := by decide +kernel
theorem dX1_addPart_28 : decode cX1_addPart 28 = .ok (.getfield 15, 3) := by decide +kernel
theorem dX1_addPart_31 : decode cX1_addPart 31 = .ok (.aload_n 0, 1) := by decide +kernel
theorem dX1_addPart_32 : decode cX1_addPart 32 = .ok (.getfield 21, 3) := by decide +kernel
theorem dX1_addPart_35 : decode cX1_addPart 35 = .ok (.iload_n 2, 1) := by decide +kernel
theorem dX1_addPart_36 : decode cX1_addPart 36 = .ok (.iastore, 1) := by decide +kernel
theorem dX1_addPart_37 : decode cX1_addPart 37 = .ok (.aload_n 0, 1) := by decide +kernel
theorem dX1_addPart_38 : decode cX1_addPart 38 = .ok (.getfield 18, 3) := by decide +kernel
theorem dX1_addPart_41 : decode cX1_addPart 41 = .ok (.aload_n 0, 1) := by decide +kernel
theorem dX1_addPart_42 : decode cX1_addPart 42 = .ok (.getfield 21, 3) := by decide +kernel
theorem dX1_addPart_45 : decode cX1_addPart 45 = .ok (.iload_n 3, 1) := by decide +kernel
theorem dX1_addPart_46 : decode cX1_addPart 46 = .ok (.iastore, 1) := by decide +kernel
theorem dX1_addPart_47 : decode cX1_addPart 47 = .ok (.aload_n 0, 1) := by decide +kernel
theorem dX1_addPart_48 : decode cX1_addPart 48 = .ok (.dup, 1) := by decide +kernel
theorem dX1_addPart_49 : decode cX1_addPart 49 = .ok (.getfield 21, 3) := by decide +kernel
theorem dX1_addPart_52 : decode cX1_addPart 52 = .ok (.iconst 1, 1) := by decide +kernel
theorem dX1_addPart_53 : decode cX1_addPart 53 = .ok (.iadd, 1) := by decide +kernel
theorem dX1_addPart_54 : decode cX1_addPart 54 = .ok (.putfield 21, 3) := by decide +kernel
theorem dX1_addPart_57 : decode cX1_addPart 57 = .ok (.iconst 1, 1) := by decide +kernel
theorem dX1_addPart_58 : decode cX1_addPart 58 = .ok (.ireturn, 1) := by decide +kernel
theorem dX2_init_0 : decode cX2_init 0 = .ok (.aload_n 0, 1) := by decide +kernel
theorem dX2_init_1 : decode cX2_init 1 = .ok (.invokespecial 3, 3) := by decide +kernel
theorem dX2_init_4 : decode cX2_init 4 = .ok (.aload_n 0, 1) := by decide +kernel
theorem dX2_init_5 : decode cX2_init 5 = .ok (.new 9, 3) := by decide +kernel
theorem dX2_init_8 : decode cX2_init 8 = .ok (.dup, 1) := by decide +kernel
theorem dX2_init_9 : decode cX2_init 9 = .ok (.sipush 660, 3) := by decide +kernel
theorem dX2_init_12 : decode cX2_init 12 = .ok (.invokespecial 11, 3) := by decide +kernel
theorem dX2_init_15 : decode cX2_init 15 = .ok (.putfield 14, 3) := by decide +kernel
theorem dX2_init_18 : decode cX2_init 18 = .ok (.aload_n 0, 1) := by decide +kernel
theorem dX2_init_19 : decode cX2_init 19 = .ok (.new 9, 3) := by decide +kernel
theorem dX2_init_22 : decode cX2_init 22 = .ok (.dup, 1) := by decide +kernel
theorem dX2_init_23 : decode cX2_init 23 = .ok (.sipush 660, 3) := by decide +kernel
theorem dX2_init_26 : decode cX2_init 26 = .ok (.invokespecial 11, 3) := by decide +kernel
theorem dX2_init_29 : decode cX2_init 29 = .ok (.putfield 20, 3) := by decide +kernel
theorem dX2_init_32 : decode cX2_init 32 = .ok (.aload_n 0, 1) := by decide +kernel
theorem dX2_init_33 : decode cX2_init 33 = .ok (.new 9, 3) := by decide +kernel
theorem dX2_init_36 : decode cX2_init 36 = .ok (.dup, 1) := by decide +kernel
theorem dX2_init_37 : decode cX2_init 37 = .ok (.sipush 660, 3) := by decide +kernel
theorem dX2_init_40 : decode cX2_init 40 = .ok (.invokespecial 11, 3) := by decide +kernel
theorem dX2_init_43 : decode cX2_init 43 = .ok (.putfield 23, 3) := by decide +kernel
theorem dX2_init_46 : decode cX2_init 46 = .ok (.aload_n 0, 1) := by decide +kernel
theorem dX2_init_47 : decode cX2_init 47 = .ok (.new 9, 3) := by decide +kernel
theorem dX2_init_50 : decode cX2_init 50 = .ok (.dup, 1) := by decide +kernel
theorem dX2_init_51 : decode cX2_init 51 = .ok (.sipush 660, 3) := by decide +kernel
theorem dX2_init_54 : decode cX2_init 54 = .ok (.invokespecial 11, 3) := by decide +kernel
theorem dX2_init_57 : decode cX2_init 57 = .ok (.putfield 26, 3) := by decide +kernel
theorem dX2_init_60 : decode cX2_init 60 = .ok (.return_, 1) := by decide +kernel
theorem dX2_open_0 : decode cX2_open 0 = .ok (.aload_n 0, 1) := by decide +kernel
theorem dX2_open_1 : decode cX2_open 1 = .ok (.getfield 14, 3) := by decide +kernel
theorem dX2_open_4 : decode cX2_open 4 = .ok (.iconst 0, 1) := by decide +kernel
theorem dX2_open_5 : decode cX2_open 5 = .ok (.invokevirtual 29, 3) := by decide +kernel
theorem dX2_open_8 : decode cX2_open 8 = .ok (.aload_n 0, 1) := by decide +kernel
theorem dX2_open_9 : decode cX2_open 9 = .ok (.getfield 20, 3) := by decide +kernel
theorem dX2_open_12 : decode cX2_open 12 = .ok (.iconst 0, 1) := by decide +kernel
theorem dX2_open_13 : decode cX2_open 13 = .ok (.invokevirtual 29, 3) := by decide +kernel
theorem dX2_open_16 : decode cX2_open 16 = .ok (.aload_n 0, 1) := by decide +kernel
theorem dX2_open_17 : decode cX2_open 17 = .ok (.getfield 23, 3) := by decide +kernel
theorem dX2_open_20 : decode cX2_open 20 = .ok (.iconst 1, 1) := by decide +kernel
theorem dX2_open_21 : decode cX2_open 21 = .ok (.invokevirtual 29, 3) := by decide +kernel
theorem dX2_open_24 : decode cX2_open 24 = .ok (.return_, 1) := by decide +kernel
theorem dX2_add_0 : decode cX2_add 0 = .ok (.aload_n 0, 1) := by decide +kernel
theorem dX2_add_1 : decode cX2_add 1 = .ok (.aload_n 0, 1) := by decide +kernel
theorem dX2_add_2 : decode cX2_add 2 = .ok (.getfield 14, 3) := by decide +kernel
theorem dX2_add_5 : decode cX2_add 5 = .ok (.aload_n 1, 1) := by decide +kernel
theorem dX2_add_6 : decode cX2_add 6 = .ok (.aload_n 3, 1) := by decide +kernel
theorem dX2_add_7 : decode cX2_add 7 = .ok (.invokevirtual 32, 3) := by decide +kernel
theorem dX2_add_10 : decode cX2_add 10 = .ok (.aload_n 0, 1) := by decide +kernel
theorem dX2_add_11 : decode cX2_add 11 = .ok (.aload_n 0, 1) := by decide +kernel
theorem dX2_add_12 : decode cX2_add 12 = .ok (.getfield 20, 3) := by decide +kernel
theorem dX2_add_15 : decode cX2_add 15 = .ok (.aload_n 2, 1) := by decide +kernel
theorem dX2_add_16 : decode cX2_add 16 = .ok (.aload_n 3, 1) := by decide +kernel
theorem dX2_add_17 : decode cX2_add 17 = .ok (.invokevirtual 32, 3) := by decide +kernel
theorem dX2_add_20 : decode cX2_add 20 = .ok (.aload_n 0, 1) := by decide +kernel
theorem dX2_add_21 : decode cX2_add 21 = .ok (.getfield 26, 3) := by decide +kernel
theorem dX2_add_24 : decode cX2_add 24 = .ok (.aload_n 0, 1) := by decide +kernel
theorem dX2_add_25 : decode cX2_add 25 = .ok (.getfield 23, 3) := by decide +kernel
theorem dX2_add_28 : decode cX2_add 28 = .ok (.aload_n 3, 1) := by decide +kernel
theorem dX2_add_29 : decode cX2_add 29 = .ok (.invokevirtual 36, 3) := by decide +kernel
theorem dX2_add_32 : decode cX2_add 32 = .ok (.aload_n 0, 1) := by decide +kernel
theorem dX2_add_33 : decode cX2_add 33 = .ok (.getfield 23, 3) := by decide +kernel
theorem dX2_add_36 : decode cX2_add 36 = .ok (.aload_n 0, 1) := by decide +kernel
theorem dX2_add_37 : decode cX2_add 37 = .ok (.getfield 26, 3) := by decide +kernel
theorem dX2_add_40 : decode cX2_add 40 = .ok (.invokevirtual 40, 3) := by decide +kernel
theorem dX2_add_43 : decode cX2_add 43 = .ok (.return_, 1) := by decide +kernel
theorem dX2_addUpon_0 : decode cX2_addUpon 0 = .ok (.aload_n 0, 1) := by decide +kernel
theorem dX2_addUpon_1 : decode cX2_addUpon 1 = .ok (.getfield 26, 3) := by decide +kernel
theorem dX2_addUpon_4 : decode cX2_addUpon 4 = .ok (.aload_n 1, 1) := by decide +kernel
theorem dX2_addUpon_5 : decode cX2_addUpon 5 = .ok (.aload_n 3, 1) := by decide +kernel
theorem dX2_addUpon_6 : decode cX2_addUpon 6 = .ok (.invokevirtual 36, 3) := by decide +kernel
theorem dX2_addUpon_9 : decode cX2_addUpon 9 = .ok (.aload_n 1, 1) := by decide +kernel
theorem dX2_addUpon_10 : decode cX2_addUpon 10 = .ok (.aload_n 2, 1) := by decide +kernel
theorem dX2_addUpon_11 : decode cX2_addUpon 11 = .ok (.aload_n 0, 1) := by decide +kernel
theorem dX2_addUpon_12 : decode cX2_addUpon 12 = .ok (.getfield 23, 3) := by decide +kernel
theorem dX2_addUpon_15 : decode cX2_addUpon 15 = .ok (.invokevirtual 36, 3) := by decide +kernel
theorem dX2_addUpon_18 : decode cX2_addUpon 18 = .ok (.aload_n 1, 1) := by decide +kernel
theorem dX2_addUpon_19 : decode cX2_addUpon 19 = .ok (.aload_n 0, 1) := by decide +kernel
theorem dX2_addUpon_20 : decode cX2_addUpon 20 = .ok (.getfield 26, 3) := by decide +kernel
theorem dX2_addUpon_23 : decode cX2_addUpon 23 = .ok (.invokevirtual 44, 3) := by decide +kernel
theorem dX2_addUpon_26 : decode cX2_addUpon 26 = .ok (.return_, 1) := by decide +kernel
theorem dX2_read_0 : decode cX2_read 0 = .ok (.aload_n 0, 1) := by decide +kernel
theorem dX2_read_1 : decode cX2_read 1 = .ok (.getfield 14, 3) := by decide +kernel
theorem dX2_read_4 : decode cX2_read 4 = .ok (.getfield 47, 3) := by decide +kernel
theorem dX2_read_7 : decode cX2_read 7 = .ok (.ifCond .le 17, 3) := by decide +kernel
theorem dX2_read_10 : decode cX2_read 10 = .ok (.aload_n 0, 1) := by decide +kernel
theorem dX2_read_11 : decode cX2_read 11 = .ok (.getfield 14, 3) := by decide +kernel
theorem dX2_read_14 : decode cX2_read 14 = .ok (.getfield 51, 3) := by decide +kernel
theorem dX2_read_17 : decode cX2_read 17 = .ok (.ifCond .ne 7, 3) := by decide +kernel
theorem dX2_read_20 : decode cX2_read 20 = .ok (.iconst 1, 1) := by decide +kernel
theorem dX2_read_21 : decode cX2_read 21 = .ok (.goto 4, 3) := by decide +kernel
theorem dX2_read_24 : decode cX2_read 24 = .ok (.iconst 0, 1) := by decide +kernel
theorem dX2_read_25 : decode cX2_read 25 = .ok (.istore_n 2, 1) := by decide +kernel
theorem dX2_read_26 : decode cX2_read 26 = .ok (.aload_n 0, 1) := by decide +kernel
theorem dX2_read_27 : decode cX2_read 27 = .ok (.getfield 20, 3) := by decide +kernel
theorem dX2_read_30 : decode cX2_read 30 = .ok (.getfield 47, 3) := by decide +kernel
theorem dX2_read_33 : decode cX2_read 33 = .ok (.ifCond .le 17, 3) := by decide +kernel
theorem dX2_read_36 : decode cX2_read 36 = .ok (.aload_n 0, 1) := by decide +kernel
theorem dX2_read_37 : decode cX2_read 37 = .ok (.getfield 20, 3) := by decide +kernel
theorem dX2_read_40 : decode cX2_read 40 = .ok (.getfield 51, 3) := by decide +kernel
theorem dX2_read_43 : decode cX2_read 43 = .ok (.ifCond .eq 7, 3) := by decide +kernel
theorem dX2_read_46 : decode cX2_read 46 = .ok (.iconst 1, 1) := by decide +kernel
theorem dX2_read_47 : decode cX2_read 47 = .ok (.goto 4, 3) := by decide +kernel
theorem dX2_read_50 : decode cX2_read 50 = .ok (.iconst 0, 1) := by decide +kernel
theorem dX2_read_51 : decode cX2_read 51 = .ok (.istore_n 3, 1) := by decide +kernel
theorem dX2_read_52 : decode cX2_read 52 = .ok (.aload_n 1, 1) := by decide +kernel
theorem dX2_read_53 : decode cX2_read 53 = .ok (.iload_n 2, 1) := by decide +kernel
theorem dX2_read_54 : decode cX2_read 54 = .ok (.ifCond .eq 7, 3) := by decide +kernel
theorem dX2_read_57 : decode cX2_read 57 = .ok (.iconst 1, 1) := by decide +kernel
theorem dX2_read_58 : decode cX2_read 58 = .ok (.goto 12, 3) := by decide +kernel
theorem dX2_read_61 : decode cX2_read 61 = .ok (.iload_n 3, 1) := by decide +kernel
theorem dX2_read_62 : decode cX2_read 62 = .ok (.ifCond .eq 7, 3) := by decide +kernel
theorem dX2_read_65 : decode cX2_read 65 = .ok (.iconst (-1), 1) := by decide +kernel
theorem dX2_read_66 : decode cX2_read 66 = .ok (.goto 4, 3) := by decide +kernel
theorem dX2_read_69 : decode cX2_read 69 = .ok (.iconst 0, 1) := by decide +kernel
theorem dX2_read_70 : decode cX2_read 70 = .ok (.putfield 55, 3) := by decide +kernel
theorem dX2_read_73 : decode cX2_read 73 = .ok (.aload_n 1, 1) := by decide +kernel
theorem dX2_read_74 : decode cX2_read 74 = .ok (.bipush (-6), 2) := by decide +kernel
theorem dX2_read_76 : decode cX2_read 76 = .ok (.putfield 60, 3) := by decide +kernel
theorem dX2_read_79 : decode cX2_read 79 = .ok (.aload_n 1, 1) := by decide +kernel
theorem dX2_read_80 : decode cX2_read 80 = .ok (.lconst 0, 1) := by decide +kernel
theorem dX2_read_81 : decode cX2_read 81 = .ok (.putfield 63, 3) := by decide +kernel
theorem dX2_read_84 : decode cX2_read 84 = .ok (.aload_n 1, 1) := by decide +kernel
theorem dX2_read_85 : decode cX2_read 85 = .ok (.getfield 55, 3) := by decide +kernel
theorem dX2_read_88 : decode cX2_read 88 = .ok (.ifCond .ne 4, 3) := by decide +kernel
theorem dX2_read_91 : decode cX2_read 91 = .ok (.return_, 1) := by decide +kernel
theorem dX2_read_92 : decode cX2_read 92 = .ok (.aload_n 0, 1) := by decide +kernel
theorem dX2_read_93 : decode cX2_read 93 = .ok (.getfield 14, 3) := by decide +kernel
theorem dX2_read_96 : decode cX2_read 96 = .ok (.iconst 0, 1) := by decide +kernel
theorem dX2_read_97 : decode cX2_read 97 = .ok (.putfield 51, 3) := by decide +kernel
theorem dX2_read_100 : decode cX2_read 100 = .ok (.aload_n 0, 1) := by decide +kernel
theorem dX2_read_101 : decode cX2_read 101 = .ok (.getfield 20, 3) := by decide +kernel
theorem dX2_read_104 : decode cX2_read 104 = .ok (.iconst 0, 1) := by decide +kernel
theorem dX2_read_105 : decode cX2_read 105 = .ok (.putfield 51, 3) := by decide +kernel
theorem dX2_read_108 : decode cX2_read 108 = .ok (.iload_n 2, 1) := by decide +kernel
theorem dX2_read_109 : decode cX2_read 109 = .ok (.ifCond .eq 10, 3) := by decide +kernel
theorem dX2_read_112 : decode cX2_read 112 = .ok (.aload_n 0, 1) := by decide +kernel
theorem dX2_read_113 : decode cX2_read 113 = .ok (.getfield 14, 3) := by decide +kernel
theorem dX2_read_116 : decode cX2_read 116 = .ok (.goto 7, 3) := by decide +kernel
theorem dX2_read_119 : decode cX2_read 119 = .ok (.aload_n 0, 1) := by decide +kernel
theorem dX2_read_120 : decode cX2_read 120 = .ok (.getfield 20, 3) := by decide +kernel
theorem dX2_read_123 : decode cX2_read 123 = .ok (.astore 4, 2) := by decide +kernel
theorem dX2_read_125 : decode cX2_read 125 = .ok (.iload_n 2, 1) := by decide +kernel
theorem dX2_read_126 : decode cX2_read 126 = .ok (.ifCond .eq 10, 3) := by decide +kernel
theorem dX2_read_129 : decode cX2_read 129 = .ok (.aload_n 0, 1) := by decide +kernel
theorem dX2_read_130 : decode cX2_read 130 = .ok (.getfield 20, 3) := by decide +kernel
theorem dX2_read_133 : decode cX2_read 133 = .ok (.goto 7, 3) := by decide +kernel
theorem dX2_read_136 : decode cX2_read 136 = .ok (.aload_n 0, 1) := by decide +kernel
theorem dX2_read_137 : decode cX2_read 137 = .ok (.getfield 14, 3) := by decide +kernel
theorem dX2_read_140 : decode cX2_read 140 = .ok (.astore 5, 2) := by decide +kernel
theorem dX2_read_142 : decode cX2_read 142 = .ok (.aload_n 0, 1) := by decide +kernel
theorem dX2_read_143 : decode cX2_read 143 = .ok (.invokevirtual 67, 3) := by decide +kernel
theorem dX2_read_146 : decode cX2_read 146 = .ok (.aload 5, 2) := by decide +kernel
theorem dX2_read_148 : decode cX2_read 148 = .ok (.aload_n 0, 1) := by decide +kernel
theorem dX2_read_149 : decode cX2_read 149 = .ok (.getfield 23, 3) := by decide +kernel
theorem dX2_read_152 : decode cX2_read 152 = .ok (.invokevirtual 70, 3) := by decide +kernel
theorem dX2_read_155 : decode cX2_read 155 = .ok (.ifCond .ge 24, 3) := by decide +kernel
theorem dX2_read_158 : decode cX2_read 158 = .ok (.aload_n 0, 1) := by decide +kernel
theorem dX2_read_159 : decode cX2_read 159 = .ok (.aload 4, 2) := by decide +kernel
theorem dX2_read_161 : decode cX2_read 161 = .ok (.aload 5, 2) := by decide +kernel
theorem dX2_read_163 : decode cX2_read 163 = .ok (.aload_n 1, 1) := by decide +kernel
theorem dX2_read_164 : decode cX2_read 164 = .ok (.invokevirtual 74, 3) := by decide +kernel
theorem dX2_read_167 : decode cX2_read 167 = .ok (.ifCond .eq 12, 3) := by decide +kernel
theorem dX2_read_170 : decode cX2_read 170 = .ok (.aload_n 0, 1) := by decide +kernel
theorem dX2_read_171 : decode cX2_read 171 = .ok (.aload 4, 2) := by decide +kernel
theorem dX2_read_173 : decode cX2_read 173 = .ok (.aload 5, 2) := by decide +kernel
theorem dX2_read_175 : decode cX2_read 175 = .ok (.aload_n 1, 1) := by decide +kernel
theorem dX2_read_176 : decode cX2_read 176 = .ok (.invokevirtual 78, 3) := by decide +kernel
theorem dX2_read_179 : decode cX2_read 179 = .ok (.return_, 1) := by decide +kernel
theorem dX2_scale_0 : decode cX2_scale 0 = .ok (.aload_n 0, 1) := by decide +kernel
theorem dX2_scale_1 : decode cX2_scale 1 = .ok (.getfield 23, 3) := by decide +kernel
theorem dX2_scale_4 : decode cX2_scale 4 = .ok (.ldc 82, 2) := by decide +kernel
theorem dX2_scale_6 : decode cX2_scale 6 = .ok (.invokevirtual 83, 3) := by decide +kernel
theorem dX2_scale_9 : decode cX2_scale 9 = .ok (.aload_n 0, 1) := by decide +kernel
theorem dX2_scale_10 : decode cX2_scale 10 = .ok (.getfield 23, 3) := by decide +kernel
theorem dX2_scale_13 : decode cX2_scale 13 = .ok (.ldc 82, 2) := by decide +kernel
theorem dX2_scale_15 : decode cX2_scale 15 = .ok (.invokevirtual 83, 3) := by decide +kernel
theorem dX2_scale_18 : decode cX2_scale 18 = .ok (.aload_n 0, 1) := by decide +kernel
theorem dX2_scale_19 : decode cX2_scale 19 = .ok (.getfield 23, 3) := by decide +kernel
theorem dX2_scale_22 : decode cX2_scale 22 = .ok (.iconst 4, 1) := by decide +kernel
theorem dX2_scale_23 : decode cX2_scale 23 = .ok (.invokevirtual 83, 3) := by decide +kernel
theorem dX2_scale_26 : decode cX2_scale 26 = .ok (.bipush 30, 2) := by decide +kernel
theorem dX2_scale_28 : decode cX2_scale 28 = .ok (.aload_n 0, 1) := by decide +kernel
theorem dX2_scale_29 : decode cX2_scale 29 = .ok (.getfield 23, 3) := by decide +kernel
theorem dX2_scale_32 : decode cX2_scale 32 = .ok (.getfield 47, 3) := by decide +kernel
theorem dX2_scale_35 : decode cX2_scale 35 = .ok (.imul, 1) := by decide +kernel
theorem dX2_scale_36 : decode cX2_scale 36 = .ok (.aload_n 0, 1) := by decide +kernel
theorem dX2_scale_37 : decode cX2_scale 37 = .ok (.getfield 23, 3) := by decide +kernel
theorem dX2_scale_40 : decode cX2_scale 40 = .ok (.invokevirtual 86, 3) := by decide +kernel
theorem dX2_scale_43 : decode cX2_scale 43 = .ok (.isub, 1) := by decide +kernel
theorem dX2_scale_44 : decode cX2_scale 44 = .ok (.istore_n 1, 1) := by decide +kernel
theorem dX2_scale_45 : decode cX2_scale 45 = .ok (.aload_n 0, 1) := by decide +kernel
theorem dX2_scale_46 : decode cX2_scale 46 = .ok (.getfield 23, 3) := by decide +kernel
theorem dX2_scale_49 : decode cX2_scale 49 = .ok (.iconst 1, 1) := by decide +kernel
theorem dX2_scale_50 : decode cX2_scale 50 = .ok (.iload_n 1, 1) := by decide +kernel
theorem dX2_scale_51 : decode cX2_scale 51 = .ok (.ishl, 1) := by decide +kernel
theorem dX2_scale_52 : decode cX2_scale 52 = .ok (.invokevirtual 83, 3) := by decide +kernel
theorem dX2_scale_55 : decode cX2_scale 55 = .ok (.aload_n 0, 1) := by decide +kernel
theorem dX2_scale_56 : decode cX2_scale 56 = .ok (.getfield 14, 3) := by decide +kernel
theorem dX2_scale_59 : decode cX2_scale 59 = .ok (.iconst 1, 1) := by decide +kernel
theorem dX2_scale_60 : decode cX2_scale 60 = .ok (.iload_n 1, 1) := by decide +kernel
theorem dX2_scale_61 : decode cX2_scale 61 = .ok (.ishl, 1) := by decide +kernel
theorem dX2_scale_62 : decode cX2_scale 62 = .ok (.invokevirtual 83, 3) := by decide +kernel
theorem dX2_scale_65 : decode cX2_scale 65 = .ok (.aload_n 0, 1) := by decide +kernel
theorem dX2_scale_66 : decode cX2_scale 66 = .ok (.getfield 20, 3) := by decide +kernel
theorem dX2_scale_69 : decode cX2_scale 69 = .ok (.iconst 1, 1) := by decide +kernel
theorem dX2_scale_70 : decode cX2_scale 70 = .ok (.iload_n 1, 1) := by decide +kernel
theorem dX2_scale_71 : decode cX2_scale 71 = .ok (.ishl, 1) := by decide +kernel
theorem dX2_scale_72 : decode cX2_scale 72 = .ok (.invokevirtual 83, 3) := by decide +kernel
theorem dX2_scale_75 : decode cX2_scale 75 = .ok (.return_, 1) := by decide +kernel
theorem dX2_readWhole_0 : decode cX2_readWhole 0 = .ok (.lconst 0, 1) := by decide +kernel
theorem dX2_readWhole_1 : decode cX2_readWhole 1 = .ok (.lstore 4, 2) := by decide +kernel
theorem dX2_readWhole_3 : decode cX2_readWhole 3 = .ok (.bipush 30, 2) := by decide +kernel
theorem dX2_readWhole_5 : decode cX2_readWhole 5 = .ok (.istore 6, 2) := by decide +kernel
theorem dX2_readWhole_7 : decode cX2_readWhole 7 = .ok (.iconst 0, 1) := by decide +kernel
theorem dX2_readWhole_8 : decode cX2_readWhole 8 = .ok (.istore 7, 2) := by decide +kernel
theorem dX2_readWhole_10 : decode cX2_readWhole 10 = .ok (.iload 7, 2) := by decide +kernel
theorem dX2_readWhole_12 : decode cX2_readWhole 12 = .ok (.iconst 3, 1) := by decide +kernel
theorem dX2_readWhole_13 : decode cX2_readWhole 13 = .ok (.if_icmp .ge 70, 3) := by decide +kernel
theorem dX2_readWhole_16 : decode cX2_readWhole 16 = .ok (.aload_n 1, 1) := by decide +kernel
theorem dX2_readWhole_17 : decode cX2_readWhole 17 = .ok (.iconst 1, 1) := by decide +kernel
theorem dX2_readWhole_18 : decode cX2_readWhole 18 = .ok (.iload 6, 2) := by decide +kernel
theorem dX2_readWhole_20 : decode cX2_readWhole 20 = .ok (.ishl, 1) := by decide +kernel
theorem dX2_readWhole_21 : decode cX2_readWhole 21 = .ok (.aload_n 0, 1) := by decide +kernel
theorem dX2_readWhole_22 : decode cX2_readWhole 22 = .ok (.getfield 23, 3) := by decide +kernel
theorem dX2_readWhole_25 : decode cX2_readWhole 25 = .ok (.invokevirtual 90, 3) := by decide +kernel
theorem dX2_readWhole_28 : decode cX2_readWhole 28 = .ok (.istore 8, 2) := by decide +kernel
theorem dX2_readWhole_30 : decode cX2_readWhole 30 = .ok (.aload_n 2, 1) := by decide +kernel
theorem dX2_readWhole_31 : decode cX2_readWhole 31 = .ok (.iconst 1, 1) := by decide +kernel
theorem dX2_readWhole_32 : decode cX2_readWhole 32 = .ok (.iload 6, 2) := by decide +kernel
theorem dX2_readWhole_34 : decode cX2_readWhole 34 = .ok (.ishl, 1) := by decide +kernel
theorem dX2_readWhole_35 : decode cX2_readWhole 35 = .ok (.aload_n 0, 1) := by decide +kernel
theorem dX2_readWhole_36 : decode cX2_readWhole 36 = .ok (.getfield 23, 3) := by decide +kernel
theorem dX2_readWhole_39 : decode cX2_readWhole 39 = .ok (.invokevirtual 90, 3) := by decide +kernel
theorem dX2_readWhole_42 : decode cX2_readWhole 42 = .ok (.istore 9, 2) := by decide +kernel
theorem dX2_readWhole_44 : decode cX2_readWhole 44 = .ok (.iload 8, 2) := by decide +kernel
theorem dX2_readWhole_46 : decode cX2_readWhole 46 = .ok (.iload 9, 2) := by decide +kernel
theorem dX2_readWhole_48 : decode cX2_readWhole 48 = .ok (.if_icmp .eq 5, 3) := by decide +kernel
theorem dX2_readWhole_51 : decode cX2_readWhole 51 = .ok (.iconst 0, 1) := by decide +kernel
theorem dX2_readWhole_52 : decode cX2_readWhole 52 = .ok (.ireturn, 1) := by decide +kernel
theorem dX2_readWhole_53 : decode cX2_readWhole 53 = .ok (.lload 4, 2) := by decide +kernel
theorem dX2_readWhole_55 : decode cX2_readWhole 55 = .ok (.iload 6, 2) := by decide +kernel
theorem dX2_readWhole_57 : decode cX2_readWhole 57 = .ok (.lshl, 1) := by decide +kernel
theorem dX2_readWhole_58 : decode cX2_readWhole 58 = .ok (.iload 8, 2) := by decide +kernel
theorem dX2_readWhole_60 : decode cX2_readWhole 60 = .ok (.i2l, 1) := by decide +kernel
theorem dX2_readWhole_61 : decode cX2_readWhole 61 = .ok (.ladd, 1) := by decide +kernel
theorem dX2_readWhole_62 : decode cX2_readWhole 62 = .ok (.lstore 4, 2) := by decide +kernel
theorem dX2_readWhole_64 : decode cX2_readWhole 64 = .ok (.iload 7, 2) := by decide +kernel
theorem dX2_readWhole_66 : decode cX2_readWhole 66 = .ok (.ifCond .ne 8, 3) := by decide +kernel
theorem dX2_readWhole_69 : decode cX2_readWhole 69 = .ok (.bipush 30, 2) := by decide +kernel
theorem dX2_readWhole_71 : decode cX2_readWhole 71 = .ok (.goto 4, 3) := by decide +kernel
theorem dX2_readWhole_74 : decode cX2_readWhole 74 = .ok (.iconst 2, 1) := by decide +kernel
theorem dX2_readWhole_75 : decode cX2_readWhole 75 = .ok (.istore 6, 2) := by decide +kernel
theorem dX2_readWhole_77 : decode cX2_readWhole 77 = .ok (.iinc 7 1, 3) := by decide +kernel
theorem dX2_readWhole_80 : decode cX2_readWhole 80 = .ok (.goto (-70), 3) := by decide +kernel
theorem dX2_readWhole_83 : decode cX2_readWhole 83 = .ok (.aload_n 3, 1) := by decide +kernel
theorem dX2_readWhole_84 : decode cX2_readWhole 84 = .ok (.lload 4, 2) := by decide +kernel
theorem dX2_readWhole_86 : decode cX2_readWhole 86 = .ok (.putfield 63, 3) := by decide +kernel
theorem dX2_readWhole_89 : decode cX2_readWhole 89 = .ok (.aload_n 3, 1) := by decide +kernel
theorem dX2_readWhole_90 : decode cX2_readWhole 90 = .ok (.iconst 0, 1) := by decide +kernel
theorem dX2_readWhole_91 : decode cX2_readWhole 91 = .ok (.putfield 60, 3) := by decide +kernel
theorem dX2_readWhole_94 : decode cX2_readWhole 94 = .ok (.iconst 1, 1) := by decide +kernel
theorem dX2_readWhole_95 : decode cX2_readWhole 95 = .ok (.ireturn, 1) := by decide +kernel
theorem dX2_readFigures_0 : decode cX2_readFigures 0 = .ok (.iconst 1, 1) := by decide +kernel
theorem dX2_readFigures_1 : decode cX2_readFigures 1 = .ok (.istore 4, 2) := by decide +kernel
theorem dX2_readFigures_3 : decode cX2_readFigures 3 = .ok (.iconst 0, 1) := by decide +kernel
theorem dX2_readFigures_4 : decode cX2_readFigures 4 = .ok (.istore 5, 2) := by decide +kernel
theorem dX2_readFigures_6 : decode cX2_readFigures 6 = .ok (.iload 4, 2) := by decide +kernel
theorem dX2_readFigures_8 : decode cX2_readFigures 8 = .ok (.ifCond .eq 133, 3) := by decide +kernel
theorem dX2_readFigures_11 : decode cX2_readFigures 11 = .ok (.aload_n 3, 1) := by decide +kernel
theorem dX2_readFigures_12 : decode cX2_readFigures 12 = .ok (.getfield 60, 3) := by decide +kernel
theorem dX2_readFigures_15 : decode cX2_readFigures 15 = .ok (.aload_n 3, 1) := by decide +kernel
theorem dX2_readFigures_16 : decode cX2_readFigures 16 = .ok (.getfield 94, 3) := by decide +kernel
theorem dX2_readFigures_19 : decode cX2_readFigures 19 = .ok (.if_icmp .ge 122, 3) := by decide +kernel
theorem dX2_readFigures_22 : decode cX2_readFigures 22 = .ok (.iload 5, 2) := by decide +kernel
theorem dX2_readFigures_24 : decode cX2_readFigures 24 = .ok (.bipush 100, 2) := by decide +kernel
theorem dX2_readFigures_26 : decode cX2_readFigures 26 = .ok (.if_icmp .ge 115, 3) := by decide +kernel
theorem dX2_readFigures_29 : decode cX2_readFigures 29 = .ok (.iconst 1, 1) := by decide +kernel
theorem dX2_readFigures_30 : decode cX2_readFigures 30 = .ok (.istore 6, 2) := by decide +kernel
theorem dX2_readFigures_32 : decode cX2_readFigures 32 = .ok (.aload_n 3, 1) := by decide +kernel
theorem dX2_readFigures_33 : decode cX2_readFigures 33 = .ok (.getfield 60, 3) := by decide +kernel
theorem dX2_readFigures_36 : decode cX2_readFigures 36 = .ok (.iconst 1, 1) := by decide +kernel
theorem dX2_readFigures_37 : decode cX2_readFigures 37 = .ok (.iadd, 1) := by decide +kernel
theorem dX2_readFigures_38 : decode cX2_readFigures 38 = .ok (.istore 7, 2) := by decide +kernel
theorem dX2_readFigures_40 : decode cX2_readFigures 40 = .ok (.iload 7, 2) := by decide +kernel
theorem dX2_readFigures_42 : decode cX2_readFigures 42 = .ok (.aload_n 3, 1) := by decide +kernel
theorem dX2_readFigures_43 : decode cX2_readFigures 43 = .ok (.getfield 94, 3) := by decide +kernel
theorem dX2_readFigures_46 : decode cX2_readFigures 46 = .ok (.if_icmp .ge 43, 3) := by decide +kernel
theorem dX2_readFigures_49 : decode cX2_readFigures 49 = .ok (.iload 6, 2) := by decide +kernel
theorem dX2_readFigures_51 : decode cX2_readFigures 51 = .ok (.i2l, 1) := by decide +kernel
theorem dX2_readFigures_52 : decode cX2_readFigures 52 = .ok (.aload_n 3, 1) := by decide +kernel
theorem dX2_readFigures_53 : decode cX2_readFigures 53 = .ok (.getfield 97, 3) := by decide +kernel
theorem dX2_readFigures_56 : decode cX2_readFigures 56 = .ok (.i2l, 1) := by decide +kernel
theorem dX2_readFigures_57 : decode cX2_readFigures 57 = .ok (.lmul, 1) := by decide +kernel
theorem dX2_readFigures_58 : decode cX2_readFigures 58 = .ok (.aload_n 3, 1) := by decide +kernel
theorem dX2_readFigures_59 : decode cX2_readFigures 59 = .ok (.getfield 97, 3) := by decide +kernel
theorem dX2_readFigures_62 : decode cX2_readFigures 62 = .ok (.i2l, 1) := by decide +kernel
theorem dX2_readFigures_63 : decode cX2_readFigures 63 = .ok (.lmul, 1) := by decide +kernel
theorem dX2_readFigures_64 : decode cX2_readFigures 64 = .ok (.ldc2_w 100, 3) := by decide +kernel
theorem dX2_readFigures_67 : decode cX2_readFigures 67 = .ok (.lcmp, 1) := by decide +kernel
theorem dX2_readFigures_68 : decode cX2_readFigures 68 = .ok (.ifCond .le 6, 3) := by decide +kernel
theorem dX2_readFigures_71 : decode cX2_readFigures 71 = .ok (.goto 18, 3) := by decide +kernel
theorem dX2_readFigures_74 : decode cX2_readFigures 74 = .ok (.iload 6, 2) := by decide +kernel
theorem dX2_readFigures_76 : decode cX2_readFigures 76 = .ok (.aload_n 3, 1) := by decide +kernel
theorem dX2_readFigures_77 : decode cX2_readFigures 77 = .ok (.getfield 97, 3) := by decide +kernel
theorem dX2_readFigures_80 : decode cX2_readFigures 80 = .ok (.imul, 1) := by decide +kernel
theorem dX2_readFigures_81 : decode cX2_readFigures 81 = .ok (.istore 6, 2) := by decide +kernel
theorem dX2_readFigures_83 : decode cX2_readFigures 83 = .ok (.iinc 7 1, 3) := by decide +kernel
theorem dX2_readFigures_86 : decode cX2_readFigures 86 = .ok (.goto (-46), 3) := by decide +kernel
theorem dX2_readFigures_89 : decode cX2_readFigures 89 = .ok (.aload_n 1, 1) := by decide +kernel
theorem dX2_readFigures_90 : decode cX2_readFigures 90 = .ok (.iload 6, 2) := by decide +kernel
theorem dX2_readFigures_92 : decode cX2_readFigures 92 = .ok (.aload_n 3, 1) := by decide +kernel
theorem dX2_readFigures_93 : decode cX2_readFigures 93 = .ok (.getfield 97, 3) := by decide +kernel
theorem dX2_readFigures_96 : decode cX2_readFigures 96 = .ok (.imul, 1) := by decide +kernel
theorem dX2_readFigures_97 : decode cX2_readFigures 97 = .ok (.aload_n 0, 1) := by decide +kernel
theorem dX2_readFigures_98 : decode cX2_readFigures 98 = .ok (.getfield 23, 3) := by decide +kernel
theorem dX2_readFigures_101 : decode cX2_readFigures 101 = .ok (.invokevirtual 90, 3) := by decide +kernel
theorem dX2_readFigures_104 : decode cX2_readFigures 104 = .ok (.istore 7, 2) := by decide +kernel
theorem dX2_readFigures_106 : decode cX2_readFigures 106 = .ok (.aload_n 2, 1) := by decide +kernel
theorem dX2_readFigures_107 : decode cX2_readFigures 107 = .ok (.iload 6, 2) := by decide +kernel
theorem dX2_readFigures_109 : decode cX2_readFigures 109 = .ok (.aload_n 3, 1) := by decide +kernel
theorem dX2_readFigures_110 : decode cX2_readFigures 110 = .ok (.getfield 97, 3) := by decide +kernel
theorem dX2_readFigures_113 : decode cX2_readFigures 113 = .ok (.imul, 1) := by decide +kernel
theorem dX2_readFigures_114 : decode cX2_readFigures 114 = .ok (.aload_n 0, 1) := by decide +kernel
theorem dX2_readFigures_115 : decode cX2_readFigures 115 = .ok (.getfield 23, 3) := by decide +kernel
theorem dX2_readFigures_118 : decode cX2_readFigures 118 = .ok (.invokevirtual 90, 3) := by decide +kernel
theorem dX2_readFigures_121 : decode cX2_readFigures 121 = .ok (.istore 8, 2) := by decide +kernel
theorem dX2_readFigures_123 : decode cX2_readFigures 123 = .ok (.aload_n 3, 1) := by decide +kernel
theorem dX2_readFigures_124 : decode cX2_readFigures 124 = .ok (.iload 7, 2) := by decide +kernel
theorem dX2_readFigures_126 : decode cX2_readFigures 126 = .ok (.iload 8, 2) := by decide +kernel
theorem dX2_readFigures_128 : decode cX2_readFigures 128 = .ok (.iload 6, 2) := by decide +kernel
theorem dX2_readFigures_130 : decode cX2_readFigures 130 = .ok (.invokevirtual 102, 3) := by decide +kernel
theorem dX2_readFigures_133 : decode cX2_readFigures 133 = .ok (.istore 4, 2) := by decide +kernel
theorem dX2_readFigures_135 : decode cX2_readFigures 135 = .ok (.iinc 5 1, 3) := by decide +kernel
theorem dX2_readFigures_138 : decode cX2_readFigures 138 = .ok (.goto (-132), 3) := by decide +kernel
theorem dX2_readFigures_141 : decode cX2_readFigures 141 = .ok (.return_, 1) := by decide +kernel
theorem dX3_init_0 : decode cX3_init 0 = .ok (.aload_n 0, 1) := by decide +kernel
theorem dX3_init_1 : decode cX3_init 1 = .ok (.invokespecial 3, 3) := by decide +kernel
theorem dX3_init_4 : decode cX3_init 4 = .ok (.aload_n 0, 1) := by decide +kernel
theorem dX3_init_5 : decode cX3_init 5 = .ok (.bipush 100, 2) := by decide +kernel
theorem dX3_init_7 : decode cX3_init 7 = .ok (.newarray .int, 2) := by decide +kernel
theorem dX3_init_9 : decode cX3_init 9 = .ok (.putfield 9, 3) := by decide +kernel
theorem dX3_init_12 : decode cX3_init 12 = .ok (.aload_n 0, 1) := by decide +kernel
theorem dX3_init_13 : decode cX3_init 13 = .ok (.iconst 2, 1) := by decide +kernel
theorem dX3_init_14 : decode cX3_init 14 = .ok (.putfield 15, 3) := by decide +kernel
theorem dX3_init_17 : decode cX3_init 17 = .ok (.aload_n 0, 1) := by decide +kernel
theorem dX3_init_18 : decode cX3_init 18 = .ok (.bipush (-6), 2) := by decide +kernel
theorem dX3_init_20 : decode cX3_init 20 = .ok (.putfield 19, 3) := by decide +kernel
theorem dX3_init_23 : decode cX3_init 23 = .ok (.return_, 1) := by decide +kernel
theorem dX3_behindPoint_0 : decode cX3_behindPoint 0 = .ok (.iload_n 1, 1) := by decide +kernel
theorem dX3_behindPoint_1 : decode cX3_behindPoint 1 = .ok (.iconst 1, 1) := by decide +kernel
theorem dX3_behindPoint_2 : decode cX3_behindPoint 2 = .ok (.if_icmp .lt 20, 3) := by decide +kernel
theorem dX3_behindPoint_5 : decode cX3_behindPoint 5 = .ok (.iload_n 1, 1) := by decide +kernel
theorem dX3_behindPoint_6 : decode cX3_behindPoint 6 = .ok (.aload_n 0, 1) := by decide +kernel
theorem dX3_behindPoint_7 : decode cX3_behindPoint 7 = .ok (.getfield 19, 3) := by decide +kernel
theorem dX3_behindPoint_10 : decode cX3_behindPoint 10 = .ok (.if_icmp .gt 12, 3) := by decide +kernel
theorem dX3_behindPoint_13 : decode cX3_behindPoint 13 = .ok (.iload_n 1, 1) := by decide +kernel
theorem dX3_behindPoint_14 : decode cX3_behindPoint 14 = .ok (.aload_n 0, 1) := by decide +kernel
theorem dX3_behindPoint_15 : decode cX3_behindPoint 15 = .ok (.getfield 9, 3) := by decide +kernel
theorem dX3_behindPoint_18 : decode cX3_behindPoint 18 = .ok (.arraylength, 1) := by decide +kernel
theorem dX3_behindPoint_19 : decode cX3_behindPoint 19 = .ok (.if_icmp .le 8, 3) := by decide +kernel
theorem dX3_behindPoint_22 : decode cX3_behindPoint 22 = .ok (.bipush (-6), 2) := by decide +kernel
theorem dX3_behindPoint_24 : decode cX3_behindPoint 24 = .ok (.goto 11, 3) := by decide +kernel
theorem dX3_behindPoint_27 : decode cX3_behindPoint 27 = .ok (.aload_n 0, 1) := by decide +kernel
theorem dX3_behindPoint_28 : decode cX3_behindPoint 28 = .ok (.getfield 9, 3) := by decide +kernel
theorem dX3_behindPoint_31 : decode cX3_behindPoint 31 = .ok (.iload_n 1, 1) := by decide +kernel
theorem dX3_behindPoint_32 : decode cX3_behindPoint 32 = .ok (.iconst 1, 1) := by decide +kernel
theorem dX3_behindPoint_33 : decode cX3_behindPoint 33 = .ok (.isub, 1) := by decide +kernel
theorem dX3_behindPoint_34 : decode cX3_behindPoint 34 = .ok (.iaload, 1) := by decide +kernel
theorem dX3_behindPoint_35 : decode cX3_behindPoint 35 = .ok (.ireturn, 1) := by decide +kernel
theorem dX3_howOften_0 : decode cX3_howOften 0 = .ok (.iconst 0, 1) := by decide +kernel
theorem dX3_howOften_1 : decode cX3_howOften 1 = .ok (.istore_n 2, 1) := by decide +kernel
theorem dX3_howOften_2 : decode cX3_howOften 2 = .ok (.iconst 1, 1) := by decide +kernel
theorem dX3_howOften_3 : decode cX3_howOften 3 = .ok (.istore_n 3, 1) := by decide +kernel
theorem dX3_howOften_4 : decode cX3_howOften 4 = .ok (.iload_n 3, 1) := by decide +kernel
theorem dX3_howOften_5 : decode cX3_howOften 5 = .ok (.aload_n 0, 1) := by decide +kernel
theorem dX3_howOften_6 : decode cX3_howOften 6 = .ok (.getfield 19, 3) := by decide +kernel
theorem dX3_howOften_9 : decode cX3_howOften 9 = .ok (.if_icmp .gt 21, 3) := by decide +kernel
theorem dX3_howOften_12 : decode cX3_howOften 12 = .ok (.aload_n 0, 1) := by decide +kernel
theorem dX3_howOften_13 : decode cX3_howOften 13 = .ok (.iload_n 3, 1) := by decide +kernel
theorem dX3_howOften_14 : decode cX3_howOften 14 = .ok (.invokevirtual 22, 3) := by decide +kernel
theorem dX3_howOften_17 : decode cX3_howOften 17 = .ok (.iload_n 1, 1) := by decide +kernel
theorem dX3_howOften_18 : decode cX3_howOften 18 = .ok (.if_icmp .ne 6, 3) := by decide +kernel
theorem dX3_howOften_21 : decode cX3_howOften 21 = .ok (.iinc 2 1, 3) := by decide +kernel
theorem dX3_howOften_24 : decode cX3_howOften 24 = .ok (.iinc 3 1, 3) := by decide +kernel
theorem dX3_howOften_27 : decode cX3_howOften 27 = .ok (.goto (-23), 3) := by decide +kernel
theorem dX3_howOften_30 : decode cX3_howOften 30 = .ok (.iload_n 2, 1) := by decide +kernel
theorem dX3_howOften_31 : decode cX3_howOften 31 = .ok (.ireturn, 1) := by decide +kernel
theorem dX3_placeOf_0 : decode cX3_placeOf 0 = .ok (.iconst 1, 1) := by decide +kernel
theorem dX3_placeOf_1 : decode cX3_placeOf 1 = .ok (.istore_n 3, 1) := by decide +kernel
theorem dX3_placeOf_2 : decode cX3_placeOf 2 = .ok (.iload_n 3, 1) := by decide +kernel
theorem dX3_placeOf_3 : decode cX3_placeOf 3 = .ok (.iload_n 2, 1) := by decide +kernel
theorem dX3_placeOf_4 : decode cX3_placeOf 4 = .ok (.iadd, 1) := by decide +kernel
theorem dX3_placeOf_5 : decode cX3_placeOf 5 = .ok (.iconst 1, 1) := by decide +kernel
theorem dX3_placeOf_6 : decode cX3_placeOf 6 = .ok (.isub, 1) := by decide +kernel
theorem dX3_placeOf_7 : decode cX3_placeOf 7 = .ok (.aload_n 0, 1) := by decide +kernel
theorem dX3_placeOf_8 : decode cX3_placeOf 8 = .ok (.getfield 19, 3) := by decide +kernel
theorem dX3_placeOf_11 : decode cX3_placeOf 11 = .ok (.if_icmp .gt 21, 3) := by decide +kernel
theorem dX3_placeOf_14 : decode cX3_placeOf 14 = .ok (.aload_n 0, 1) := by decide +kernel
theorem dX3_placeOf_15 : decode cX3_placeOf 15 = .ok (.iload_n 3, 1) := by decide +kernel
theorem dX3_placeOf_16 : decode cX3_placeOf 16 = .ok (.iload_n 1, 1) := by decide +kernel
theorem dX3_placeOf_17 : decode cX3_placeOf 17 = .ok (.iload_n 2, 1) := by decide +kernel
theorem dX3_placeOf_18 : decode cX3_placeOf 18 = .ok (.invokevirtual 26, 3) := by decide +kernel
theorem dX3_placeOf_21 : decode cX3_placeOf 21 = .ok (.ifCond .eq 5, 3) := by decide +kernel
theorem dX3_placeOf_24 : decode cX3_placeOf 24 = .ok (.iload_n 3, 1) := by decide +kernel
theorem dX3_placeOf_25 : decode cX3_placeOf 25 = .ok (.ireturn, 1) := by decide +kernel
theorem dX3_placeOf_26 : decode cX3_placeOf 26 = .ok (.iinc 3 1, 3) := by decide +kernel
theorem dX3_placeOf_29 : decode cX3_placeOf 29 = .ok (.goto (-27), 3) := by decide +kernel
theorem dX3_placeOf_32 : decode cX3_placeOf 32 = .ok (.bipush (-6), 2) := by decide +kernel
theorem dX3_placeOf_34 : decode cX3_placeOf 34 = .ok (.ireturn, 1) := by decide +kernel
theorem dX3_comesAt_0 : decode cX3_comesAt 0 = .ok (.iconst 0, 1) := by decide +kernel
theorem dX3_comesAt_1 : decode cX3_comesAt 1 = .ok (.istore 4, 2) := by decide +kernel
theorem dX3_comesAt_3 : decode cX3_comesAt 3 = .ok (.iload 4, 2) := by decide +kernel
theorem dX3_comesAt_5 : decode cX3_comesAt 5 = .ok (.iload_n 3, 1) := by decide +kernel
theorem dX3_comesAt_6 : decode cX3_comesAt 6 = .ok (.if_icmp .ge 39, 3) := by decide +kernel
theorem dX3_comesAt_9 : decode cX3_comesAt 9 = .ok (.iload_n 2, 1) := by decide +kernel
theorem dX3_comesAt_10 : decode cX3_comesAt 10 = .ok (.iconst 5, 1) := by decide +kernel
theorem dX3_comesAt_11 : decode cX3_comesAt 11 = .ok (.iload_n 3, 1) := by decide +kernel
theorem dX3_comesAt_12 : decode cX3_comesAt 12 = .ok (.iconst 1, 1) := by decide +kernel
theorem dX3_comesAt_13 : decode cX3_comesAt 13 = .ok (.isub, 1) := by decide +kernel
theorem dX3_comesAt_14 : decode cX3_comesAt 14 = .ok (.iload 4, 2) := by decide +kernel
theorem dX3_comesAt_16 : decode cX3_comesAt 16 = .ok (.isub, 1) := by decide +kernel
theorem dX3_comesAt_17 : decode cX3_comesAt 17 = .ok (.imul, 1) := by decide +kernel
theorem dX3_comesAt_18 : decode cX3_comesAt 18 = .ok (.ishr, 1) := by decide +kernel
theorem dX3_comesAt_19 : decode cX3_comesAt 19 = .ok (.bipush 31, 2) := by decide +kernel
theorem dX3_comesAt_21 : decode cX3_comesAt 21 = .ok (.iand, 1) := by decide +kernel
theorem dX3_comesAt_22 : decode cX3_comesAt 22 = .ok (.istore 5, 2) := by decide +kernel
theorem dX3_comesAt_24 : decode cX3_comesAt 24 = .ok (.aload_n 0, 1) := by decide +kernel
theorem dX3_comesAt_25 : decode cX3_comesAt 25 = .ok (.iload_n 1, 1) := by decide +kernel
theorem dX3_comesAt_26 : decode cX3_comesAt 26 = .ok (.iload 4, 2) := by decide +kernel
theorem dX3_comesAt_28 : decode cX3_comesAt 28 = .ok (.iadd, 1) := by decide +kernel
theorem dX3_comesAt_29 : decode cX3_comesAt 29 = .ok (.invokevirtual 22, 3) := by decide +kernel
theorem dX3_comesAt_32 : decode cX3_comesAt 32 = .ok (.iload 5, 2) := by decide +kernel
theorem dX3_comesAt_34 : decode cX3_comesAt 34 = .ok (.if_icmp .eq 5, 3) := by decide +kernel
theorem dX3_comesAt_37 : decode cX3_comesAt 37 = .ok (.iconst 0, 1) := by decide +kernel
theorem dX3_comesAt_38 : decode cX3_comesAt 38 = .ok (.ireturn, 1) := by decide +kernel
theorem dX3_comesAt_39 : decode cX3_comesAt 39 = .ok (.iinc 4 1, 3) := by decide +kernel
theorem dX3_comesAt_42 : decode cX3_comesAt 42 = .ok (.goto (-39), 3) := by decide +kernel
theorem dX3_comesAt_45 : decode cX3_comesAt 45 = .ok (.iconst 1, 1) := by decide +kernel
theorem dX3_comesAt_46 : decode cX3_comesAt 46 = .ok (.ireturn, 1) := by decide +kernel
theorem dX3_firstDifference_0 : decode cX3_firstDifference 0 = .ok (.aload_n 0, 1) := by decide +kernel
theorem dX3_firstDifference_1 : decode cX3_firstDifference 1 = .ok (.getfield 19, 3) := by decide +kernel
theorem dX3_firstDifference_4 : decode cX3_firstDifference 4 = .ok (.bipush (-6), 2) := by decide +kernel
theorem dX3_firstDifference_6 : decode cX3_firstDifference 6 = .ok (.if_icmp .eq 12, 3) := by decide +kernel
theorem dX3_firstDifference_9 : decode cX3_firstDifference 9 = .ok (.aload_n 1, 1) := by decide +kernel
theorem dX3_firstDifference_10 : decode cX3_firstDifference 10 = .ok (.getfield 19, 3) := by decide +kernel
theorem dX3_firstDifference_13 : decode cX3_firstDifference 13 = .ok (.bipush (-6), 2) := by decide +kernel
theorem dX3_firstDifference_15 : decode cX3_firstDifference 15 = .ok (.if_icmp .ne 6, 3) := by decide +kernel
theorem dX3_firstDifference_18 : decode cX3_firstDifference 18 = .ok (.bipush (-6), 2) := by decide +kernel
theorem dX3_firstDifference_20 : decode cX3_firstDifference 20 = .ok (.ireturn, 1) := by decide +kernel
theorem dX3_firstDifference_21 : decode cX3_firstDifference 21 = .ok (.aload_n 0, 1) := by decide +kernel
theorem dX3_firstDifference_22 : decode cX3_firstDifference 22 = .ok (.getfield 30, 3) := by decide +kernel
theorem dX3_firstDifference_25 : decode cX3_firstDifference 25 = .ok (.aload_n 1, 1) := by decide +kernel
theorem dX3_firstDifference_26 : decode cX3_firstDifference 26 = .ok (.getfield 30, 3) := by decide +kernel
theorem dX3_firstDifference_29 : decode cX3_firstDifference 29 = .ok (.if_icmp .ne 15, 3) := by decide +kernel
theorem dX3_firstDifference_32 : decode cX3_firstDifference 32 = .ok (.aload_n 0, 1) := by decide +kernel
theorem dX3_firstDifference_33 : decode cX3_firstDifference 33 = .ok (.getfield 33, 3) := by decide +kernel
theorem dX3_firstDifference_36 : decode cX3_firstDifference 36 = .ok (.aload_n 1, 1) := by decide +kernel
theorem dX3_firstDifference_37 : decode cX3_firstDifference 37 = .ok (.getfield 33, 3) := by decide +kernel
theorem dX3_firstDifference_40 : decode cX3_firstDifference 40 = .ok (.lcmp, 1) := by decide +kernel
theorem dX3_firstDifference_41 : decode cX3_firstDifference 41 = .ok (.ifCond .eq 5, 3) := by decide +kernel
theorem dX3_firstDifference_44 : decode cX3_firstDifference 44 = .ok (.iconst 0, 1) := by decide +kernel
theorem dX3_firstDifference_45 : decode cX3_firstDifference 45 = .ok (.ireturn, 1) := by decide +kernel
theorem dX3_firstDifference_46 : decode cX3_firstDifference 46 = .ok (.aload_n 0, 1) := by decide +kernel
theorem dX3_firstDifference_47 : decode cX3_firstDifference 47 = .ok (.getfield 19, 3) := by decide +kernel
theorem dX3_firstDifference_50 : decode cX3_firstDifference 50 = .ok (.aload_n 1, 1) := by decide +kernel
theorem dX3_firstDifference_51 : decode cX3_firstDifference 51 = .ok (.getfield 19, 3) := by decide +kernel
theorem dX3_firstDifference_54 : decode cX3_firstDifference 54 = .ok (.invokestatic 37, 3) := by decide +kernel
theorem dX3_firstDifference_57 : decode cX3_firstDifference 57 = .ok (.istore_n 2, 1) := by decide +kernel
theorem dX3_firstDifference_58 : decode cX3_firstDifference 58 = .ok (.iconst 1, 1) := by decide +kernel
theorem dX3_firstDifference_59 : decode cX3_firstDifference 59 = .ok (.istore_n 3, 1) := by decide +kernel
theorem dX3_firstDifference_60 : decode cX3_firstDifference 60 = .ok (.iload_n 3, 1) := by decide +kernel
theorem dX3_firstDifference_61 : decode cX3_firstDifference 61 = .ok (.iload_n 2, 1) := by decide +kernel
theorem dX3_firstDifference_62 : decode cX3_firstDifference 62 = .ok (.if_icmp .gt 24, 3) := by decide +kernel
theorem dX3_firstDifference_65 : decode cX3_firstDifference 65 = .ok (.aload_n 0, 1) := by decide +kernel
theorem dX3_firstDifference_66 : decode cX3_firstDifference 66 = .ok (.iload_n 3, 1) := by decide +kernel
theorem dX3_firstDifference_67 : decode cX3_firstDifference 67 = .ok (.invokevirtual 22, 3) := by decide +kernel
theorem dX3_firstDifference_70 : decode cX3_firstDifference 70 = .ok (.aload_n 1, 1) := by decide +kernel
theorem dX3_firstDifference_71 : decode cX3_firstDifference 71 = .ok (.iload_n 3, 1) := by decide +kernel
theorem dX3_firstDifference_72 : decode cX3_firstDifference 72 = .ok (.invokevirtual 22, 3) := by decide +kernel
theorem dX3_firstDifference_75 : decode cX3_firstDifference 75 = .ok (.if_icmp .eq 5, 3) := by decide +kernel
theorem dX3_firstDifference_78 : decode cX3_firstDifference 78 = .ok (.iload_n 3, 1) := by decide +kernel
theorem dX3_firstDifference_79 : decode cX3_firstDifference 79 = .ok (.ireturn, 1) := by decide +kernel
theorem dX3_firstDifference_80 : decode cX3_firstDifference 80 = .ok (.iinc 3 1, 3) := by decide +kernel
theorem dX3_firstDifference_83 : decode cX3_firstDifference 83 = .ok (.goto (-23), 3) := by decide +kernel
theorem dX3_firstDifference_86 : decode cX3_firstDifference 86 = .ok (.bipush (-6), 2) := by decide +kernel
theorem dX3_firstDifference_88 : decode cX3_firstDifference 88 = .ok (.ireturn, 1) := by decide +kernel
theorem dX3_take_0 : decode cX3_take 0 = .ok (.iload_n 1, 1) := by decide +kernel
theorem dX3_take_1 : decode cX3_take 1 = .ok (.istore 4, 2) := by decide +kernel
theorem dX3_take_3 : decode cX3_take 3 = .ok (.iload_n 2, 1) := by decide +kernel
theorem dX3_take_4 : decode cX3_take 4 = .ok (.istore 5, 2) := by decide +kernel
theorem dX3_take_6 : decode cX3_take 6 = .ok (.aload_n 0, 1) := by decide +kernel
theorem dX3_take_7 : decode cX3_take 7 = .ok (.getfield 15, 3) := by decide +kernel
theorem dX3_take_10 : decode cX3_take 10 = .ok (.iconst 2, 1) := by decide +kernel
theorem dX3_take_11 : decode cX3_take 11 = .ok (.if_icmp .ge 5, 3) := by decide +kernel
theorem dX3_take_14 : decode cX3_take 14 = .ok (.iconst 0, 1) := by decide +kernel
theorem dX3_take_15 : decode cX3_take 15 = .ok (.ireturn, 1) := by decide +kernel
theorem dX3_take_16 : decode cX3_take 16 = .ok (.iload_n 3, 1) := by decide +kernel
theorem dX3_take_17 : decode cX3_take 17 = .ok (.istore 6, 2) := by decide +kernel
theorem dX3_take_19 : decode cX3_take 19 = .ok (.iload 6, 2) := by decide +kernel
theorem dX3_take_21 : decode cX3_take 21 = .ok (.iconst 1, 1) := by decide +kernel
theorem dX3_take_22 : decode cX3_take 22 = .ok (.if_icmp .lt 94, 3) := by decide +kernel
theorem dX3_take_25 : decode cX3_take 25 = .ok (.iload 4, 2) := by decide +kernel
theorem dX3_take_27 : decode cX3_take 27 = .ok (.iload 6, 2) := by decide +kernel
theorem dX3_take_29 : decode cX3_take 29 = .ok (.idiv, 1) := by decide +kernel
theorem dX3_take_30 : decode cX3_take 30 = .ok (.istore 7, 2) := by decide +kernel
theorem dX3_take_32 : decode cX3_take 32 = .ok (.iload 7, 2) := by decide +kernel
theorem dX3_take_34 : decode cX3_take 34 = .ok (.iload 5, 2) := by decide +kernel
theorem dX3_take_36 : decode cX3_take 36 = .ok (.iload 6, 2) := by decide +kernel
theorem dX3_take_38 : decode cX3_take 38 = .ok (.idiv, 1) := by decide +kernel
theorem dX3_take_39 : decode cX3_take 39 = .ok (.if_icmp .ne 22, 3) := by decide +kernel
theorem dX3_take_42 : decode cX3_take 42 = .ok (.aload_n 0, 1) := by decide +kernel
theorem dX3_take_43 : decode cX3_take 43 = .ok (.getfield 19, 3) := by decide +kernel
theorem dX3_take_46 : decode cX3_take 46 = .ok (.ifCond .lt 15, 3) := by decide +kernel
theorem dX3_take_49 : decode cX3_take 49 = .ok (.aload_n 0, 1) := by decide +kernel
theorem dX3_take_50 : decode cX3_take 50 = .ok (.getfield 19, 3) := by decide +kernel
theorem dX3_take_53 : decode cX3_take 53 = .ok (.aload_n 0, 1) := by decide +kernel
theorem dX3_take_54 : decode cX3_take 54 = .ok (.getfield 9, 3) := by decide +kernel
theorem dX3_take_57 : decode cX3_take 57 = .ok (.arraylength, 1) := by decide +kernel
theorem dX3_take_58 : decode cX3_take 58 = .ok (.if_icmp .lt 5, 3) := by decide +kernel
theorem dX3_take_61 : decode cX3_take 61 = .ok (.iconst 0, 1) := by decide +kernel
theorem dX3_take_62 : decode cX3_take 62 = .ok (.ireturn, 1) := by decide +kernel
theorem dX3_take_63 : decode cX3_take 63 = .ok (.aload_n 0, 1) := by decide +kernel
theorem dX3_take_64 : decode cX3_take 64 = .ok (.getfield 9, 3) := by decide +kernel
theorem dX3_take_67 : decode cX3_take 67 = .ok (.aload_n 0, 1) := by decide +kernel
theorem dX3_take_68 : decode cX3_take 68 = .ok (.getfield 19, 3) := by decide +kernel
theorem dX3_take_71 : decode cX3_take 71 = .ok (.iload 7, 2) := by decide +kernel
theorem dX3_take_73 : decode cX3_take 73 = .ok (.iastore, 1) := by decide +kernel
theorem dX3_take_74 : decode cX3_take 74 = .ok (.aload_n 0, 1) := by decide +kernel
theorem dX3_take_75 : decode cX3_take 75 = .ok (.dup, 1) := by decide +kernel
theorem dX3_take_76 : decode cX3_take 76 = .ok (.getfield 19, 3) := by decide +kernel
theorem dX3_take_79 : decode cX3_take 79 = .ok (.iconst 1, 1) := by decide +kernel
theorem dX3_take_80 : decode cX3_take 80 = .ok (.iadd, 1) := by decide +kernel
theorem dX3_take_81 : decode cX3_take 81 = .ok (.putfield 19, 3) := by decide +kernel
theorem dX3_take_84 : decode cX3_take 84 = .ok (.iload 4, 2) := by decide +kernel
theorem dX3_take_86 : decode cX3_take 86 = .ok (.iload 7, 2) := by decide +kernel
theorem dX3_take_88 : decode cX3_take 88 = .ok (.iload 6, 2) := by decide +kernel
theorem dX3_take_90 : decode cX3_take 90 = .ok (.imul, 1) := by decide +kernel
theorem dX3_take_91 : decode cX3_take 91 = .ok (.isub, 1) := by decide +kernel
theorem dX3_take_92 : decode cX3_take 92 = .ok (.istore 4, 2) := by decide +kernel
theorem dX3_take_94 : decode cX3_take 94 = .ok (.iload 5, 2) := by decide +kernel
theorem dX3_take_96 : decode cX3_take 96 = .ok (.iload 7, 2) := by decide +kernel
theorem dX3_take_98 : decode cX3_take 98 = .ok (.iload 6, 2) := by decide +kernel
theorem dX3_take_100 : decode cX3_take 100 = .ok (.imul, 1) := by decide +kernel
theorem dX3_take_101 : decode cX3_take 101 = .ok (.isub, 1) := by decide +kernel
theorem dX3_take_102 : decode cX3_take 102 = .ok (.istore 5, 2) := by decide +kernel
theorem dX3_take_104 : decode cX3_take 104 = .ok (.iload 6, 2) := by decide +kernel
theorem dX3_take_106 : decode cX3_take 106 = .ok (.aload_n 0, 1) := by decide +kernel
theorem dX3_take_107 : decode cX3_take 107 = .ok (.getfield 15, 3) := by decide +kernel
theorem dX3_take_110 : decode cX3_take 110 = .ok (.idiv, 1) := by decide +kernel
theorem dX3_take_111 : decode cX3_take 111 = .ok (.istore 6, 2) := by decide +kernel
theorem dX3_take_113 : decode cX3_take 113 = .ok (.goto (-94), 3) := by decide +kernel
theorem dX3_take_116 : decode cX3_take 116 = .ok (.iconst 1, 1) := by decide +kernel
theorem dX3_take_117 : decode cX3_take 117 = .ok (.ireturn, 1) := by decide +kernel
theorem dX4_init_0 : decode cX4_init 0 = .ok (.aload_n 0, 1) := by decide +kernel
theorem dX4_init_1 : decode cX4_init 1 = .ok (.invokespecial 3, 3) := by decide +kernel
theorem dX4_init_4 : decode cX4_init 4 = .ok (.aload_n 0, 1) := by decide +kernel
theorem dX4_init_5 : decode cX4_init 5 = .ok (.new 9, 3) := by decide +kernel
theorem dX4_init_8 : decode cX4_init 8 = .ok (.dup, 1) := by decide +kernel
theorem dX4_init_9 : decode cX4_init 9 = .ok (.sipush 170, 3) := by decide +kernel
theorem dX4_init_12 : decode cX4_init 12 = .ok (.invokespecial 11, 3) := by decide +kernel
theorem dX4_init_15 : decode cX4_init 15 = .ok (.putfield 14, 3) := by decide +kernel
theorem dX4_init_18 : decode cX4_init 18 = .ok (.aload_n 0, 1) := by decide +kernel
theorem dX4_init_19 : decode cX4_init 19 = .ok (.new 9, 3) := by decide +kernel
theorem dX4_init_22 : decode cX4_init 22 = .ok (.dup, 1) := by decide +kernel
theorem dX4_init_23 : decode cX4_init 23 = .ok (.sipush 170, 3) := by decide +kernel
theorem dX4_init_26 : decode cX4_init 26 = .ok (.invokespecial 11, 3) := by decide +kernel
theorem dX4_init_29 : decode cX4_init 29 = .ok (.putfield 20, 3) := by decide +kernel
theorem dX4_init_32 : decode cX4_init 32 = .ok (.aload_n 0, 1) := by decide +kernel
theorem dX4_init_33 : decode cX4_init 33 = .ok (.new 9, 3) := by decide +kernel
theorem dX4_init_36 : decode cX4_init 36 = .ok (.dup, 1) := by decide +kernel
theorem dX4_init_37 : decode cX4_init 37 = .ok (.sipush 170, 3) := by decide +kernel
theorem dX4_init_40 : decode cX4_init 40 = .ok (.invokespecial 11, 3) := by decide +kernel
theorem dX4_init_43 : decode cX4_init 43 = .ok (.putfield 23, 3) := by decide +kernel
theorem dX4_init_46 : decode cX4_init 46 = .ok (.aload_n 0, 1) := by decide +kernel
theorem dX4_init_47 : decode cX4_init 47 = .ok (.new 9, 3) := by decide +kernel
theorem dX4_init_50 : decode cX4_init 50 = .ok (.dup, 1) := by decide +kernel
theorem dX4_init_51 : decode cX4_init 51 = .ok (.sipush 170, 3) := by decide +kernel
theorem dX4_init_54 : decode cX4_init 54 = .ok (.invokespecial 11, 3) := by decide +kernel
theorem dX4_init_57 : decode cX4_init 57 = .ok (.putfield 26, 3) := by decide +kernel
theorem dX4_init_60 : decode cX4_init 60 = .ok (.return_, 1) := by decide +kernel
theorem dX4_goOn_0 : decode cX4_goOn 0 = .ok (.aload_n 0, 1) := by decide +kernel
theorem dX4_goOn_1 : decode cX4_goOn 1 = .ok (.getfield 14, 3) := by decide +kernel
theorem dX4_goOn_4 : decode cX4_goOn 4 = .ok (.aload_n 1, 1) := by decide +kernel
theorem dX4_goOn_5 : decode cX4_goOn 5 = .ok (.getfield 29, 3) := by decide +kernel
theorem dX4_goOn_8 : decode cX4_goOn 8 = .ok (.aload_n 1, 1) := by decide +kernel
theorem dX4_goOn_9 : decode cX4_goOn 9 = .ok (.getfield 34, 3) := by decide +kernel
theorem dX4_goOn_12 : decode cX4_goOn 12 = .ok (.invokevirtual 37, 3) := by decide +kernel
theorem dX4_goOn_15 : decode cX4_goOn 15 = .ok (.aload_n 1, 1) := by decide +kernel
theorem dX4_goOn_16 : decode cX4_goOn 16 = .ok (.getfield 41, 3) := by decide +kernel
theorem dX4_goOn_19 : decode cX4_goOn 19 = .ok (.istore 4, 2) := by decide +kernel
theorem dX4_goOn_21 : decode cX4_goOn 21 = .ok (.iload 4, 2) := by decide +kernel
theorem dX4_goOn_23 : decode cX4_goOn 23 = .ok (.iload_n 3, 1) := by decide +kernel
theorem dX4_goOn_24 : decode cX4_goOn 24 = .ok (.if_icmp .ge 143, 3) := by decide +kernel
theorem dX4_goOn_27 : decode cX4_goOn 27 = .ok (.aload_n 2, 1) := by decide +kernel
theorem dX4_goOn_28 : decode cX4_goOn 28 = .ok (.iconst 0, 1) := by decide +kernel
theorem dX4_goOn_29 : decode cX4_goOn 29 = .ok (.iload 4, 2) := by decide +kernel
theorem dX4_goOn_31 : decode cX4_goOn 31 = .ok (.invokevirtual 45, 3) := by decide +kernel
theorem dX4_goOn_34 : decode cX4_goOn 34 = .ok (.istore 5, 2) := by decide +kernel
theorem dX4_goOn_36 : decode cX4_goOn 36 = .ok (.aload_n 2, 1) := by decide +kernel
theorem dX4_goOn_37 : decode cX4_goOn 37 = .ok (.iconst 1, 1) := by decide +kernel
theorem dX4_goOn_38 : decode cX4_goOn 38 = .ok (.iload 4, 2) := by decide +kernel
theorem dX4_goOn_40 : decode cX4_goOn 40 = .ok (.invokevirtual 45, 3) := by decide +kernel
theorem dX4_goOn_43 : decode cX4_goOn 43 = .ok (.istore 6, 2) := by decide +kernel
theorem dX4_goOn_45 : decode cX4_goOn 45 = .ok (.aload_n 2, 1) := by decide +kernel
theorem dX4_goOn_46 : decode cX4_goOn 46 = .ok (.iconst 3, 1) := by decide +kernel
theorem dX4_goOn_47 : decode cX4_goOn 47 = .ok (.iload 4, 2) := by decide +kernel
theorem dX4_goOn_49 : decode cX4_goOn 49 = .ok (.invokevirtual 45, 3) := by decide +kernel
theorem dX4_goOn_52 : decode cX4_goOn 52 = .ok (.istore 7, 2) := by decide +kernel
theorem dX4_goOn_54 : decode cX4_goOn 54 = .ok (.aload_n 0, 1) := by decide +kernel
theorem dX4_goOn_55 : decode cX4_goOn 55 = .ok (.getfield 14, 3) := by decide +kernel
theorem dX4_goOn_58 : decode cX4_goOn 58 = .ok (.iload 5, 2) := by decide +kernel
theorem dX4_goOn_60 : decode cX4_goOn 60 = .ok (.invokevirtual 51, 3) := by decide +kernel
theorem dX4_goOn_63 : decode cX4_goOn 63 = .ok (.aload_n 0, 1) := by decide +kernel
theorem dX4_goOn_64 : decode cX4_goOn 64 = .ok (.getfield 20, 3) := by decide +kernel
theorem dX4_goOn_67 : decode cX4_goOn 67 = .ok (.aload_n 0, 1) := by decide +kernel
theorem dX4_goOn_68 : decode cX4_goOn 68 = .ok (.getfield 14, 3) := by decide +kernel
theorem dX4_goOn_71 : decode cX4_goOn 71 = .ok (.invokevirtual 54, 3) := by decide +kernel
theorem dX4_goOn_74 : decode cX4_goOn 74 = .ok (.aload_n 0, 1) := by decide +kernel
theorem dX4_goOn_75 : decode cX4_goOn 75 = .ok (.getfield 20, 3) := by decide +kernel
theorem dX4_goOn_78 : decode cX4_goOn 78 = .ok (.aload_n 2, 1) := by decide +kernel
theorem dX4_goOn_79 : decode cX4_goOn 79 = .ok (.iconst 2, 1) := by decide +kernel
theorem dX4_goOn_80 : decode cX4_goOn 80 = .ok (.iload 4, 2) := by decide +kernel
theorem dX4_goOn_82 : decode cX4_goOn 82 = .ok (.invokevirtual 45, 3) := by decide +kernel
theorem dX4_goOn_85 : decode cX4_goOn 85 = .ok (.invokevirtual 51, 3) := by decide +kernel
theorem dX4_goOn_88 : decode cX4_goOn 88 = .ok (.aload_n 0, 1) := by decide +kernel
theorem dX4_goOn_89 : decode cX4_goOn 89 = .ok (.getfield 14, 3) := by decide +kernel
theorem dX4_goOn_92 : decode cX4_goOn 92 = .ok (.iload 7, 2) := by decide +kernel
theorem dX4_goOn_94 : decode cX4_goOn 94 = .ok (.invokevirtual 51, 3) := by decide +kernel
theorem dX4_goOn_97 : decode cX4_goOn 97 = .ok (.aload_n 1, 1) := by decide +kernel
theorem dX4_goOn_98 : decode cX4_goOn 98 = .ok (.getfield 58, 3) := by decide +kernel
theorem dX4_goOn_101 : decode cX4_goOn 101 = .ok (.iload 6, 2) := by decide +kernel
theorem dX4_goOn_103 : decode cX4_goOn 103 = .ok (.invokevirtual 51, 3) := by decide +kernel
theorem dX4_goOn_106 : decode cX4_goOn 106 = .ok (.aload_n 1, 1) := by decide +kernel
theorem dX4_goOn_107 : decode cX4_goOn 107 = .ok (.getfield 58, 3) := by decide +kernel
theorem dX4_goOn_110 : decode cX4_goOn 110 = .ok (.iload 7, 2) := by decide +kernel
theorem dX4_goOn_112 : decode cX4_goOn 112 = .ok (.invokevirtual 51, 3) := by decide +kernel
theorem dX4_goOn_115 : decode cX4_goOn 115 = .ok (.aload_n 1, 1) := by decide +kernel
theorem dX4_goOn_116 : decode cX4_goOn 116 = .ok (.getfield 58, 3) := by decide +kernel
theorem dX4_goOn_119 : decode cX4_goOn 119 = .ok (.aload_n 0, 1) := by decide +kernel
theorem dX4_goOn_120 : decode cX4_goOn 120 = .ok (.getfield 20, 3) := by decide +kernel
theorem dX4_goOn_123 : decode cX4_goOn 123 = .ok (.invokevirtual 61, 3) := by decide +kernel
theorem dX4_goOn_126 : decode cX4_goOn 126 = .ok (.aload_n 1, 1) := by decide +kernel
theorem dX4_goOn_127 : decode cX4_goOn 127 = .ok (.getfield 29, 3) := by decide +kernel
theorem dX4_goOn_130 : decode cX4_goOn 130 = .ok (.iload 5, 2) := by decide +kernel
theorem dX4_goOn_132 : decode cX4_goOn 132 = .ok (.invokevirtual 51, 3) := by decide +kernel
theorem dX4_goOn_135 : decode cX4_goOn 135 = .ok (.aload_n 1, 1) := by decide +kernel
theorem dX4_goOn_136 : decode cX4_goOn 136 = .ok (.getfield 64, 3) := by decide +kernel
theorem dX4_goOn_139 : decode cX4_goOn 139 = .ok (.iload 6, 2) := by decide +kernel
theorem dX4_goOn_141 : decode cX4_goOn 141 = .ok (.invokevirtual 51, 3) := by decide +kernel
theorem dX4_goOn_144 : decode cX4_goOn 144 = .ok (.aload_n 1, 1) := by decide +kernel
theorem dX4_goOn_145 : decode cX4_goOn 145 = .ok (.getfield 34, 3) := by decide +kernel
theorem dX4_goOn_148 : decode cX4_goOn 148 = .ok (.iload 7, 2) := by decide +kernel
theorem dX4_goOn_150 : decode cX4_goOn 150 = .ok (.invokevirtual 51, 3) := by decide +kernel
theorem dX4_goOn_153 : decode cX4_goOn 153 = .ok (.aload_n 1, 1) := by decide +kernel
theorem dX4_goOn_154 : decode cX4_goOn 154 = .ok (.iload 4, 2) := by decide +kernel
theorem dX4_goOn_156 : decode cX4_goOn 156 = .ok (.iconst 1, 1) := by decide +kernel
theorem dX4_goOn_157 : decode cX4_goOn 157 = .ok (.iadd, 1) := by decide +kernel
theorem dX4_goOn_158 : decode cX4_goOn 158 = .ok (.putfield 41, 3) := by decide +kernel
theorem dX4_goOn_161 : decode cX4_goOn 161 = .ok (.iinc 4 1, 3) := by decide +kernel
theorem dX4_goOn_164 : decode cX4_goOn 164 = .ok (.goto (-143), 3) := by decide +kernel
theorem dX4_goOn_167 : decode cX4_goOn 167 = .ok (.return_, 1) := by decide +kernel
theorem dX4_putTogether_0 : decode cX4_putTogether 0 = .ok (.aload_n 0, 1) := by decide +kernel
theorem dX4_putTogether_1 : decode cX4_putTogether 1 = .ok (.getfield 14, 3) := by decide +kernel
theorem dX4_putTogether_4 : decode cX4_putTogether 4 = .ok (.aload_n 2, 1) := by decide +kernel
theorem dX4_putTogether_5 : decode cX4_putTogether 5 = .ok (.getfield 64, 3) := by decide +kernel
theorem dX4_putTogether_8 : decode cX4_putTogether 8 = .ok (.aload_n 2, 1) := by decide +kernel
theorem dX4_putTogether_9 : decode cX4_putTogether 9 = .ok (.getfield 34, 3) := by decide +kernel
theorem dX4_putTogether_12 : decode cX4_putTogether 12 = .ok (.invokevirtual 37, 3) := by decide +kernel
theorem dX4_putTogether_15 : decode cX4_putTogether 15 = .ok (.aload_n 0, 1) := by decide +kernel
theorem dX4_putTogether_16 : decode cX4_putTogether 16 = .ok (.getfield 23, 3) := by decide +kernel
theorem dX4_putTogether_19 : decode cX4_putTogether 19 = .ok (.aload_n 1, 1) := by decide +kernel
theorem dX4_putTogether_20 : decode cX4_putTogether 20 = .ok (.getfield 58, 3) := by decide +kernel
theorem dX4_putTogether_23 : decode cX4_putTogether 23 = .ok (.aload_n 0, 1) := by decide +kernel
theorem dX4_putTogether_24 : decode cX4_putTogether 24 = .ok (.getfield 14, 3) := by decide +kernel
theorem dX4_putTogether_27 : decode cX4_putTogether 27 = .ok (.invokevirtual 37, 3) := by decide +kernel
theorem dX4_putTogether_30 : decode cX4_putTogether 30 = .ok (.aload_n 0, 1) := by decide +kernel
theorem dX4_putTogether_31 : decode cX4_putTogether 31 = .ok (.getfield 14, 3) := by decide +kernel
theorem dX4_putTogether_34 : decode cX4_putTogether 34 = .ok (.aload_n 1, 1) := by decide +kernel
theorem dX4_putTogether_35 : decode cX4_putTogether 35 = .ok (.getfield 29, 3) := by decide +kernel
theorem dX4_putTogether_38 : decode cX4_putTogether 38 = .ok (.aload_n 1, 1) := by decide +kernel
theorem dX4_putTogether_39 : decode cX4_putTogether 39 = .ok (.getfield 34, 3) := by decide +kernel
theorem dX4_putTogether_42 : decode cX4_putTogether 42 = .ok (.invokevirtual 37, 3) := by decide +kernel
theorem dX4_putTogether_45 : decode cX4_putTogether 45 = .ok (.aload_n 0, 1) := by decide +kernel
theorem dX4_putTogether_46 : decode cX4_putTogether 46 = .ok (.getfield 26, 3) := by decide +kernel
theorem dX4_putTogether_49 : decode cX4_putTogether 49 = .ok (.aload_n 2, 1) := by decide +kernel
theorem dX4_putTogether_50 : decode cX4_putTogether 50 = .ok (.getfield 58, 3) := by decide +kernel
theorem dX4_putTogether_53 : decode cX4_putTogether 53 = .ok (.aload_n 0, 1) := by decide +kernel
theorem dX4_putTogether_54 : decode cX4_putTogether 54 = .ok (.getfield 14, 3) := by decide +kernel
theorem dX4_putTogether_57 : decode cX4_putTogether 57 = .ok (.invokevirtual 37, 3) := by decide +kernel
theorem dX4_putTogether_60 : decode cX4_putTogether 60 = .ok (.aload_n 0, 1) := by decide +kernel
theorem dX4_putTogether_61 : decode cX4_putTogether 61 = .ok (.getfield 23, 3) := by decide +kernel
theorem dX4_putTogether_64 : decode cX4_putTogether 64 = .ok (.aload_n 0, 1) := by decide +kernel
theorem dX4_putTogether_65 : decode cX4_putTogether 65 = .ok (.getfield 26, 3) := by decide +kernel
theorem dX4_putTogether_68 : decode cX4_putTogether 68 = .ok (.invokevirtual 61, 3) := by decide +kernel
theorem dX4_putTogether_71 : decode cX4_putTogether 71 = .ok (.aload_n 0, 1) := by decide +kernel
theorem dX4_putTogether_72 : decode cX4_putTogether 72 = .ok (.aload_n 1, 1) := by decide +kernel
theorem dX4_putTogether_73 : decode cX4_putTogether 73 = .ok (.getfield 29, 3) := by decide +kernel
theorem dX4_putTogether_76 : decode cX4_putTogether 76 = .ok (.aload_n 2, 1) := by decide +kernel
theorem dX4_putTogether_77 : decode cX4_putTogether 77 = .ok (.getfield 29, 3) := by decide +kernel
theorem dX4_putTogether_80 : decode cX4_putTogether 80 = .ok (.aload_n 3, 1) := by decide +kernel
theorem dX4_putTogether_81 : decode cX4_putTogether 81 = .ok (.getfield 29, 3) := by decide +kernel
theorem dX4_putTogether_84 : decode cX4_putTogether 84 = .ok (.invokevirtual 67, 3) := by decide +kernel
theorem dX4_putTogether_87 : decode cX4_putTogether 87 = .ok (.aload_n 0, 1) := by decide +kernel
theorem dX4_putTogether_88 : decode cX4_putTogether 88 = .ok (.aload_n 1, 1) := by decide +kernel
theorem dX4_putTogether_89 : decode cX4_putTogether 89 = .ok (.getfield 64, 3) := by decide +kernel
theorem dX4_putTogether_92 : decode cX4_putTogether 92 = .ok (.aload_n 2, 1) := by decide +kernel
theorem dX4_putTogether_93 : decode cX4_putTogether 93 = .ok (.getfield 64, 3) := by decide +kernel
theorem dX4_putTogether_96 : decode cX4_putTogether 96 = .ok (.aload_n 3, 1) := by decide +kernel
theorem dX4_putTogether_97 : decode cX4_putTogether 97 = .ok (.getfield 64, 3) := by decide +kernel
theorem dX4_putTogether_100 : decode cX4_putTogether 100 = .ok (.invokevirtual 67, 3) := by decide +kernel
theorem dX4_putTogether_103 : decode cX4_putTogether 103 = .ok (.aload_n 0, 1) := by decide +kernel
theorem dX4_putTogether_104 : decode cX4_putTogether 104 = .ok (.aload_n 1, 1) := by decide +kernel
theorem dX4_putTogether_105 : decode cX4_putTogether 105 = .ok (.getfield 34, 3) := by decide +kernel
theorem dX4_putTogether_108 : decode cX4_putTogether 108 = .ok (.aload_n 2, 1) := by decide +kernel
theorem dX4_putTogether_109 : decode cX4_putTogether 109 = .ok (.getfield 34, 3) := by decide +kernel
theorem dX4_putTogether_112 : decode cX4_putTogether 112 = .ok (.aload_n 3, 1) := by decide +kernel
theorem dX4_putTogether_113 : decode cX4_putTogether 113 = .ok (.getfield 34, 3) := by decide +kernel
theorem dX4_putTogether_116 : decode cX4_putTogether 116 = .ok (.invokevirtual 67, 3) := by decide +kernel
theorem dX4_putTogether_119 : decode cX4_putTogether 119 = .ok (.aload_n 3, 1) := by decide +kernel
theorem dX4_putTogether_120 : decode cX4_putTogether 120 = .ok (.getfield 58, 3) := by decide +kernel
theorem dX4_putTogether_123 : decode cX4_putTogether 123 = .ok (.aload_n 0, 1) := by decide +kernel
theorem dX4_putTogether_124 : decode cX4_putTogether 124 = .ok (.getfield 23, 3) := by decide +kernel
theorem dX4_putTogether_127 : decode cX4_putTogether 127 = .ok (.invokevirtual 54, 3) := by decide +kernel
theorem dX4_putTogether_130 : decode cX4_putTogether 130 = .ok (.aload_n 1, 1) := by decide +kernel
theorem dX4_putTogether_131 : decode cX4_putTogether 131 = .ok (.getfield 71, 3) := by decide +kernel
theorem dX4_putTogether_134 : decode cX4_putTogether 134 = .ok (.istore 4, 2) := by decide +kernel
theorem dX4_putTogether_136 : decode cX4_putTogether 136 = .ok (.aload_n 2, 1) := by decide +kernel
theorem dX4_putTogether_137 : decode cX4_putTogether 137 = .ok (.getfield 41, 3) := by decide +kernel
theorem dX4_putTogether_140 : decode cX4_putTogether 140 = .ok (.istore 5, 2) := by decide +kernel
theorem dX4_putTogether_142 : decode cX4_putTogether 142 = .ok (.aload_n 3, 1) := by decide +kernel
theorem dX4_putTogether_143 : decode cX4_putTogether 143 = .ok (.iconst 1, 1) := by decide +kernel
theorem dX4_putTogether_144 : decode cX4_putTogether 144 = .ok (.putfield 74, 3) := by decide +kernel
theorem dX4_putTogether_147 : decode cX4_putTogether 147 = .ok (.aload_n 3, 1) := by decide +kernel
theorem dX4_putTogether_148 : decode cX4_putTogether 148 = .ok (.aload_n 1, 1) := by decide +kernel
theorem dX4_putTogether_149 : decode cX4_putTogether 149 = .ok (.getfield 78, 3) := by decide +kernel
theorem dX4_putTogether_152 : decode cX4_putTogether 152 = .ok (.putfield 78, 3) := by decide +kernel
theorem dX4_putTogether_155 : decode cX4_putTogether 155 = .ok (.aload_n 3, 1) := by decide +kernel
theorem dX4_putTogether_156 : decode cX4_putTogether 156 = .ok (.iload 4, 2) := by decide +kernel
theorem dX4_putTogether_158 : decode cX4_putTogether 158 = .ok (.putfield 71, 3) := by decide +kernel
theorem dX4_putTogether_161 : decode cX4_putTogether 161 = .ok (.aload_n 3, 1) := by decide +kernel
theorem dX4_putTogether_162 : decode cX4_putTogether 162 = .ok (.iload 5, 2) := by decide +kernel
theorem dX4_putTogether_164 : decode cX4_putTogether 164 = .ok (.putfield 41, 3) := by decide +kernel
theorem dX4_putTogether_167 : decode cX4_putTogether 167 = .ok (.return_, 1) := by decide +kernel
theorem dX4_multiplyInto_0 : decode cX4_multiplyInto 0 = .ok (.aload_n 0, 1) := by decide +kernel
theorem dX4_multiplyInto_1 : decode cX4_multiplyInto 1 = .ok (.getfield 20, 3) := by decide +kernel
theorem dX4_multiplyInto_4 : decode cX4_multiplyInto 4 = .ok (.aload_n 1, 1) := by decide +kernel
theorem dX4_multiplyInto_5 : decode cX4_multiplyInto 5 = .ok (.aload_n 2, 1) := by decide +kernel
theorem dX4_multiplyInto_6 : decode cX4_multiplyInto 6 = .ok (.invokevirtual 37, 3) := by decide +kernel
theorem dX4_multiplyInto_9 : decode cX4_multiplyInto 9 = .ok (.aload_n 3, 1) := by decide +kernel
theorem dX4_multiplyInto_10 : decode cX4_multiplyInto 10 = .ok (.aload_n 0, 1) := by decide +kernel
theorem dX4_multiplyInto_11 : decode cX4_multiplyInto 11 = .ok (.getfield 20, 3) := by decide +kernel
theorem dX4_multiplyInto_14 : decode cX4_multiplyInto 14 = .ok (.invokevirtual 54, 3) := by decide +kernel
theorem dX4_multiplyInto_17 : decode cX4_multiplyInto 17 = .ok (.return_, 1) := by decide +kernel
theorem dX5_init_0 : decode cX5_init 0 = .ok (.aload_n 0, 1) := by decide +kernel
theorem dX5_init_1 : decode cX5_init 1 = .ok (.invokespecial 3, 3) := by decide +kernel
theorem dX5_init_4 : decode cX5_init 4 = .ok (.aload_n 0, 1) := by decide +kernel
theorem dX5_init_5 : decode cX5_init 5 = .ok (.new 9, 3) := by decide +kernel
theorem dX5_init_8 : decode cX5_init 8 = .ok (.dup, 1) := by decide +kernel
theorem dX5_init_9 : decode cX5_init 9 = .ok (.bipush 85, 2) := by decide +kernel
theorem dX5_init_11 : decode cX5_init 11 = .ok (.invokespecial 11, 3) := by decide +kernel
theorem dX5_init_14 : decode cX5_init 14 = .ok (.putfield 14, 3) := by decide +kernel
theorem dX5_init_17 : decode cX5_init 17 = .ok (.aload_n 0, 1) := by decide +kernel
theorem dX5_init_18 : decode cX5_init 18 = .ok (.new 9, 3) := by decide +kernel
theorem dX5_init_21 : decode cX5_init 21 = .ok (.dup, 1) := by decide +kernel
theorem dX5_init_22 : decode cX5_init 22 = .ok (.bipush 85, 2) := by decide +kernel
theorem dX5_init_24 : decode cX5_init 24 = .ok (.invokespecial 11, 3) := by decide +kernel
theorem dX5_init_27 : decode cX5_init 27 = .ok (.putfield 20, 3) := by decide +kernel
theorem dX5_init_30 : decode cX5_init 30 = .ok (.aload_n 0, 1) := by decide +kernel
theorem dX5_init_31 : decode cX5_init 31 = .ok (.new 9, 3) := by decide +kernel
theorem dX5_init_34 : decode cX5_init 34 = .ok (.dup, 1) := by decide +kernel
theorem dX5_init_35 : decode cX5_init 35 = .ok (.bipush 85, 2) := by decide +kernel
theorem dX5_init_37 : decode cX5_init 37 = .ok (.invokespecial 11, 3) := by decide +kernel
theorem dX5_init_40 : decode cX5_init 40 = .ok (.putfield 23, 3) := by decide +kernel
theorem dX5_init_43 : decode cX5_init 43 = .ok (.aload_n 0, 1) := by decide +kernel
theorem dX5_init_44 : decode cX5_init 44 = .ok (.new 9, 3) := by decide +kernel
theorem dX5_init_47 : decode cX5_init 47 = .ok (.dup, 1) := by decide +kernel
theorem dX5_init_48 : decode cX5_init 48 = .ok (.sipush 170, 3) := by decide +kernel
theorem dX5_init_51 : decode cX5_init 51 = .ok (.invokespecial 11, 3) := by decide +kernel
theorem dX5_init_54 : decode cX5_init 54 = .ok (.putfield 26, 3) := by decide +kernel
theorem dX5_init_57 : decode cX5_init 57 = .ok (.return_, 1) := by decide +kernel
theorem dX5_open_0 : decode cX5_open 0 = .ok (.aload_n 0, 1) := by decide +kernel
theorem dX5_open_1 : decode cX5_open 1 = .ok (.iconst 1, 1) := by decide +kernel
theorem dX5_open_2 : decode cX5_open 2 = .ok (.putfield 29, 3) := by decide +kernel
theorem dX5_open_5 : decode cX5_open 5 = .ok (.aload_n 0, 1) := by decide +kernel
theorem dX5_open_6 : decode cX5_open 6 = .ok (.iload_n 1, 1) := by decide +kernel
theorem dX5_open_7 : decode cX5_open 7 = .ok (.putfield 33, 3) := by decide +kernel
theorem dX5_open_10 : decode cX5_open 10 = .ok (.aload_n 0, 1) := by decide +kernel
theorem dX5_open_11 : decode cX5_open 11 = .ok (.iload_n 2, 1) := by decide +kernel
theorem dX5_open_12 : decode cX5_open 12 = .ok (.putfield 37, 3) := by decide +kernel
theorem dX5_open_15 : decode cX5_open 15 = .ok (.aload_n 0, 1) := by decide +kernel
theorem dX5_open_16 : decode cX5_open 16 = .ok (.iload_n 2, 1) := by decide +kernel
theorem dX5_open_17 : decode cX5_open 17 = .ok (.putfield 40, 3) := by decide +kernel
theorem dX5_open_20 : decode cX5_open 20 = .ok (.aload_n 0, 1) := by decide +kernel
theorem dX5_open_21 : decode cX5_open 21 = .ok (.getfield 14, 3) := by decide +kernel
theorem dX5_open_24 : decode cX5_open 24 = .ok (.iconst 1, 1) := by decide +kernel
theorem dX5_open_25 : decode cX5_open 25 = .ok (.invokevirtual 43, 3) := by decide +kernel
theorem dX5_open_28 : decode cX5_open 28 = .ok (.aload_n 0, 1) := by decide +kernel
theorem dX5_open_29 : decode cX5_open 29 = .ok (.getfield 20, 3) := by decide +kernel
theorem dX5_open_32 : decode cX5_open 32 = .ok (.iconst 1, 1) := by decide +kernel
theorem dX5_open_33 : decode cX5_open 33 = .ok (.invokevirtual 43, 3) := by decide +kernel
theorem dX5_open_36 : decode cX5_open 36 = .ok (.aload_n 0, 1) := by decide +kernel
theorem dX5_open_37 : decode cX5_open 37 = .ok (.getfield 23, 3) := by decide +kernel
theorem dX5_open_40 : decode cX5_open 40 = .ok (.iconst 1, 1) := by decide +kernel
theorem dX5_open_41 : decode cX5_open 41 = .ok (.invokevirtual 43, 3) := by decide +kernel
theorem dX5_open_44 : decode cX5_open 44 = .ok (.aload_n 0, 1) := by decide +kernel
theorem dX5_open_45 : decode cX5_open 45 = .ok (.getfield 26, 3) := by decide +kernel
theorem dX5_open_48 : decode cX5_open 48 = .ok (.iconst 0, 1) := by decide +kernel
theorem dX5_open_49 : decode cX5_open 49 = .ok (.invokevirtual 43, 3) := by decide +kernel
theorem dX5_open_52 : decode cX5_open 52 = .ok (.return_, 1) := by decide +kernel
theorem dX5_terms_0 : decode cX5_terms 0 = .ok (.aload_n 0, 1) := by decide +kernel
theorem dX5_terms_1 : decode cX5_terms 1 = .ok (.getfield 40, 3) := by decide +kernel
theorem dX5_terms_4 : decode cX5_terms 4 = .ok (.aload_n 0, 1) := by decide +kernel
theorem dX5_terms_5 : decode cX5_terms 5 = .ok (.getfield 37, 3) := by decide +kernel
theorem dX5_terms_8 : decode cX5_terms 8 = .ok (.isub, 1) := by decide +kernel
theorem dX5_terms_9 : decode cX5_terms 9 = .ok (.ireturn, 1) := by decide +kernel
theorem dX5_number_0 : decode cX5_number 0 = .ok (.iload_n 1, 1) := by decide +kernel
theorem dX5_number_1 : decode cX5_number 1 = .ok (.tableswitch 51 0 3 #[31, 36, 41, 46], 31) := by decide +kernel
theorem dX5_number_32 : decode cX5_number 32 = .ok (.aload_n 0, 1) := by decide +kernel
theorem dX5_number_33 : decode cX5_number 33 = .ok (.getfield 14, 3) := by decide +kernel
theorem dX5_number_36 : decode cX5_number 36 = .ok (.areturn, 1) := by decide +kernel
theorem dX5_number_37 : decode cX5_number 37 = .ok (.aload_n 0, 1) := by decide +kernel
theorem dX5_number_38 : decode cX5_number 38 = .ok (.getfield 20, 3) := by decide +kernel
theorem dX5_number_41 : decode cX5_number 41 = .ok (.areturn, 1) := by decide +kernel
theorem dX5_number_42 : decode cX5_number 42 = .ok (.aload_n 0, 1) := by decide +kernel
theorem dX5_number_43 : decode cX5_number 43 = .ok (.getfield 23, 3) := by decide +kernel
theorem dX5_number_46 : decode cX5_number 46 = .ok (.areturn, 1) := by decide +kernel
theorem dX5_number_47 : decode cX5_number 47 = .ok (.aload_n 0, 1) := by decide +kernel
theorem dX5_number_48 : decode cX5_number 48 = .ok (.getfield 26, 3) := by decide +kernel
theorem dX5_number_51 : decode cX5_number 51 = .ok (.areturn, 1) := by decide +kernel
theorem dX5_number_52 : decode cX5_number 52 = .ok (.aconst_null, 1) := by decide +kernel
theorem dX5_number_53 : decode cX5_number 53 = .ok (.areturn, 1) := by decide +kernel
theorem dX5_hasNumbersOf_0 : decode cX5_hasNumbersOf 0 = .ok (.aload_n 0, 1) := by decide +kernel
theorem dX5_hasNumbersOf_1 : decode cX5_hasNumbersOf 1 = .ok (.getfield 14, 3) := by decide +kernel
theorem dX5_hasNumbersOf_4 : decode cX5_hasNumbersOf 4 = .ok (.aload_n 1, 1) := by decide +kernel
theorem dX5_hasNumbersOf_5 : decode cX5_hasNumbersOf 5 = .ok (.getfield 14, 3) := by decide +kernel
theorem dX5_hasNumbersOf_8 : decode cX5_hasNumbersOf 8 = .ok (.invokevirtual 46, 3) := by decide +kernel
theorem dX5_hasNumbersOf_11 : decode cX5_hasNumbersOf 11 = .ok (.ifCond .eq 49, 3) := by decide +kernel
theorem dX5_hasNumbersOf_14 : decode cX5_hasNumbersOf 14 = .ok (.aload_n 0, 1) := by decide +kernel
theorem dX5_hasNumbersOf_15 : decode cX5_hasNumbersOf 15 = .ok (.getfield 20, 3) := by decide +kernel
theorem dX5_hasNumbersOf_18 : decode cX5_hasNumbersOf 18 = .ok (.aload_n 1, 1) := by decide +kernel
theorem dX5_hasNumbersOf_19 : decode cX5_hasNumbersOf 19 = .ok (.getfield 20, 3) := by decide +kernel
theorem dX5_hasNumbersOf_22 : decode cX5_hasNumbersOf 22 = .ok (.invokevirtual 46, 3) := by decide +kernel
theorem dX5_hasNumbersOf_25 : decode cX5_hasNumbersOf 25 = .ok (.ifCond .eq 35, 3) := by decide +kernel
theorem dX5_hasNumbersOf_28 : decode cX5_hasNumbersOf 28 = .ok (.aload_n 0, 1) := by decide +kernel
theorem dX5_hasNumbersOf_29 : decode cX5_hasNumbersOf 29 = .ok (.getfield 23, 3) := by decide +kernel
theorem dX5_hasNumbersOf_32 : decode cX5_hasNumbersOf 32 = .ok (.aload_n 1, 1) := by decide +kernel
theorem dX5_hasNumbersOf_33 : decode cX5_hasNumbersOf 33 = .ok (.getfield 23, 3) := by decide +kernel
theorem dX5_hasNumbersOf_36 : decode cX5_hasNumbersOf 36 = .ok (.invokevirtual 46, 3) := by decide +kernel
theorem dX5_hasNumbersOf_39 : decode cX5_hasNumbersOf 39 = .ok (.ifCond .eq 21, 3) := by decide +kernel
theorem dX5_hasNumbersOf_42 : decode cX5_hasNumbersOf 42 = .ok (.aload_n 0, 1) := by decide +kernel
theorem dX5_hasNumbersOf_43 : decode cX5_hasNumbersOf 43 = .ok (.getfield 26, 3) := by decide +kernel
theorem dX5_hasNumbersOf_46 : decode cX5_hasNumbersOf 46 = .ok (.aload_n 1, 1) := by decide +kernel
theorem dX5_hasNumbersOf_47 : decode cX5_hasNumbersOf 47 = .ok (.getfield 26, 3) := by decide +kernel
theorem dX5_hasNumbersOf_50 : decode cX5_hasNumbersOf 50 = .ok (.invokevirtual 46, 3) := by decide +kernel
theorem dX5_hasNumbersOf_53 : decode cX5_hasNumbersOf 53 = .ok (.ifCond .eq 7, 3) := by decide +kernel
theorem dX5_hasNumbersOf_56 : decode cX5_hasNumbersOf 56 = .ok (.iconst 1, 1) := by decide +kernel
theorem dX5_hasNumbersOf_57 : decode cX5_hasNumbersOf 57 = .ok (.goto 4, 3) := by decide +kernel
theorem dX5_hasNumbersOf_60 : decode cX5_hasNumbersOf 60 = .ok (.iconst 0, 1) := by decide +kernel
theorem dX5_hasNumbersOf_61 : decode cX5_hasNumbersOf 61 = .ok (.ireturn, 1) := by decide +kernel
theorem dX6_init_0 : decode cX6_init 0 = .ok (.aload_n 0, 1) := by decide +kernel
theorem dX6_init_1 : decode cX6_init 1 = .ok (.invokespecial 3, 3) := by decide +kernel
theorem dX6_init_4 : decode cX6_init 4 = .ok (.aload_n 0, 1) := by decide +kernel
theorem dX6_init_5 : decode cX6_init 5 = .ok (.iconst 4, 1) := by decide +kernel
theorem dX6_init_6 : decode cX6_init 6 = .ok (.newarray .int, 2) := by decide +kernel
theorem dX6_init_8 : decode cX6_init 8 = .ok (.putfield 9, 3) := by decide +kernel
theorem dX6_init_11 : decode cX6_init 11 = .ok (.aload_n 0, 1) := by decide +kernel
theorem dX6_init_12 : decode cX6_init 12 = .ok (.iconst 4, 1) := by decide +kernel
theorem dX6_init_13 : decode cX6_init 13 = .ok (.newarray .int, 2) := by decide +kernel
theorem dX6_init_15 : decode cX6_init 15 = .ok (.putfield 15, 3) := by decide +kernel
theorem dX6_init_18 : decode cX6_init 18 = .ok (.aload_n 0, 1) := by decide +kernel
theorem dX6_init_19 : decode cX6_init 19 = .ok (.iconst 4, 1) := by decide +kernel
theorem dX6_init_20 : decode cX6_init 20 = .ok (.newarray .int, 2) := by decide +kernel
theorem dX6_init_22 : decode cX6_init 22 = .ok (.putfield 18, 3) := by decide +kernel
theorem dX6_init_25 : decode cX6_init 25 = .ok (.aload_n 0, 1) := by decide +kernel
theorem dX6_init_26 : decode cX6_init 26 = .ok (.iconst 1, 1) := by decide +kernel
theorem dX6_init_27 : decode cX6_init 27 = .ok (.putfield 21, 3) := by decide +kernel
theorem dX6_init_30 : decode cX6_init 30 = .ok (.aload_n 0, 1) := by decide +kernel
theorem dX6_init_31 : decode cX6_init 31 = .ok (.iconst 2, 1) := by decide +kernel
theorem dX6_init_32 : decode cX6_init 32 = .ok (.putfield 25, 3) := by decide +kernel
theorem dX6_init_35 : decode cX6_init 35 = .ok (.return_, 1) := by decide +kernel
theorem dX6_setRule_0 : decode cX6_setRule 0 = .ok (.iload_n 1, 1) := by decide +kernel
theorem dX6_setRule_1 : decode cX6_setRule 1 = .ok (.invokestatic 28, 3) := by decide +kernel
theorem dX6_setRule_4 : decode cX6_setRule 4 = .ok (.ifCond .eq 25, 3) := by decide +kernel
theorem dX6_setRule_7 : decode cX6_setRule 7 = .ok (.aload_n 0, 1) := by decide +kernel
theorem dX6_setRule_8 : decode cX6_setRule 8 = .ok (.getfield 9, 3) := by decide +kernel
theorem dX6_setRule_11 : decode cX6_setRule 11 = .ok (.iload_n 1, 1) := by decide +kernel
theorem dX6_setRule_12 : decode cX6_setRule 12 = .ok (.iload_n 2, 1) := by decide +kernel
theorem dX6_setRule_13 : decode cX6_setRule 13 = .ok (.iastore, 1) := by decide +kernel
theorem dX6_setRule_14 : decode cX6_setRule 14 = .ok (.aload_n 0, 1) := by decide +kernel
theorem dX6_setRule_15 : decode cX6_setRule 15 = .ok (.getfield 15, 3) := by decide +kernel
theorem dX6_setRule_18 : decode cX6_setRule 18 = .ok (.iload_n 1, 1) := by decide +kernel
theorem dX6_setRule_19 : decode cX6_setRule 19 = .ok (.iload_n 3, 1) := by decide +kernel
theorem dX6_setRule_20 : decode cX6_setRule 20 = .ok (.iastore, 1) := by decide +kernel
theorem dX6_setRule_21 : decode cX6_setRule 21 = .ok (.aload_n 0, 1) := by decide +kernel
theorem dX6_setRule_22 : decode cX6_setRule 22 = .ok (.getfield 18, 3) := by decide +kernel
theorem dX6_setRule_25 : decode cX6_setRule 25 = .ok (.iload_n 1, 1) := by decide +kernel
theorem dX6_setRule_26 : decode cX6_setRule 26 = .ok (.iload 4, 2) := by decide +kernel
theorem dX6_setRule_28 : decode cX6_setRule 28 = .ok (.iastore, 1) := by decide +kernel
theorem dX6_setRule_29 : decode cX6_setRule 29 = .ok (.return_, 1) := by decide +kernel
theorem dX6_value_0 : decode cX6_value 0 = .ok (.iload_n 1, 1) := by decide +kernel
theorem dX6_value_1 : decode cX6_value 1 = .ok (.invokestatic 28, 3) := by decide +kernel
theorem dX6_value_4 : decode cX6_value 4 = .ok (.ifCond .ne 5, 3) := by decide +kernel
theorem dX6_value_7 : decode cX6_value 7 = .ok (.iconst 0, 1) := by decide +kernel
theorem dX6_value_8 : decode cX6_value 8 = .ok (.ireturn, 1) := by decide +kernel
theorem dX6_value_9 : decode cX6_value 9 = .ok (.iload_n 2, 1) := by decide +kernel
theorem dX6_value_10 : decode cX6_value 10 = .ok (.ifCond .ne 10, 3) := by decide +kernel
theorem dX6_value_13 : decode cX6_value 13 = .ok (.iload_n 1, 1) := by decide +kernel
theorem dX6_value_14 : decode cX6_value 14 = .ok (.iconst 1, 1) := by decide +kernel
theorem dX6_value_15 : decode cX6_value 15 = .ok (.if_icmp .gt 5, 3) := by decide +kernel
theorem dX6_value_18 : decode cX6_value 18 = .ok (.iconst 1, 1) := by decide +kernel
theorem dX6_value_19 : decode cX6_value 19 = .ok (.ireturn, 1) := by decide +kernel
theorem dX6_value_20 : decode cX6_value 20 = .ok (.aload_n 0, 1) := by decide +kernel
theorem dX6_value_21 : decode cX6_value 21 = .ok (.getfield 9, 3) := by decide +kernel
theorem dX6_value_24 : decode cX6_value 24 = .ok (.iload_n 1, 1) := by decide +kernel
theorem dX6_value_25 : decode cX6_value 25 = .ok (.iaload, 1) := by decide +kernel
theorem dX6_value_26 : decode cX6_value 26 = .ok (.iload_n 2, 1) := by decide +kernel
theorem dX6_value_27 : decode cX6_value 27 = .ok (.aload_n 0, 1) := by decide +kernel
theorem dX6_value_28 : decode cX6_value 28 = .ok (.getfield 15, 3) := by decide +kernel
theorem dX6_value_31 : decode cX6_value 31 = .ok (.iload_n 1, 1) := by decide +kernel
theorem dX6_value_32 : decode cX6_value 32 = .ok (.iaload, 1) := by decide +kernel
theorem dX6_value_33 : decode cX6_value 33 = .ok (.iload_n 2, 1) := by decide +kernel
theorem dX6_value_34 : decode cX6_value 34 = .ok (.aload_n 0, 1) := by decide +kernel
theorem dX6_value_35 : decode cX6_value 35 = .ok (.getfield 18, 3) := by decide +kernel
theorem dX6_value_38 : decode cX6_value 38 = .ok (.iload_n 1, 1) := by decide +kernel
theorem dX6_value_39 : decode cX6_value 39 = .ok (.iaload, 1) := by decide +kernel
theorem dX6_value_40 : decode cX6_value 40 = .ok (.imul, 1) := by decide +kernel
theorem dX6_value_41 : decode cX6_value 41 = .ok (.iadd, 1) := by decide +kernel
theorem dX6_value_42 : decode cX6_value 42 = .ok (.imul, 1) := by decide +kernel
theorem dX6_value_43 : decode cX6_value 43 = .ok (.iadd, 1) := by decide +kernel
theorem dX6_value_44 : decode cX6_value 44 = .ok (.ireturn, 1) := by decide +kernel
theorem dX6_firstFall_0 : decode cX6_firstFall 0 = .ok (.iload_n 2, 1) := by decide +kernel
theorem dX6_firstFall_1 : decode cX6_firstFall 1 = .ok (.istore 4, 2) := by decide +kernel
theorem dX6_firstFall_3 : decode cX6_firstFall 3 = .ok (.iload 4, 2) := by decide +kernel
theorem dX6_firstFall_5 : decode cX6_firstFall 5 = .ok (.iload_n 3, 1) := by decide +kernel
theorem dX6_firstFall_6 : decode cX6_firstFall 6 = .ok (.if_icmp .ge 50, 3) := by decide +kernel
theorem dX6_firstFall_9 : decode cX6_firstFall 9 = .ok (.aload_n 0, 1) := by decide +kernel
theorem dX6_firstFall_10 : decode cX6_firstFall 10 = .ok (.iconst 1, 1) := by decide +kernel
theorem dX6_firstFall_11 : decode cX6_firstFall 11 = .ok (.iload 4, 2) := by decide +kernel
theorem dX6_firstFall_13 : decode cX6_firstFall 13 = .ok (.invokevirtual 32, 3) := by decide +kernel
theorem dX6_firstFall_16 : decode cX6_firstFall 16 = .ok (.ifCond .eq 13, 3) := by decide +kernel
theorem dX6_firstFall_19 : decode cX6_firstFall 19 = .ok (.aload_n 0, 1) := by decide +kernel
theorem dX6_firstFall_20 : decode cX6_firstFall 20 = .ok (.iconst 3, 1) := by decide +kernel
theorem dX6_firstFall_21 : decode cX6_firstFall 21 = .ok (.iload 4, 2) := by decide +kernel
theorem dX6_firstFall_23 : decode cX6_firstFall 23 = .ok (.invokevirtual 32, 3) := by decide +kernel
theorem dX6_firstFall_26 : decode cX6_firstFall 26 = .ok (.ifCond .ne 6, 3) := by decide +kernel
theorem dX6_firstFall_29 : decode cX6_firstFall 29 = .ok (.iload 4, 2) := by decide +kernel
theorem dX6_firstFall_31 : decode cX6_firstFall 31 = .ok (.ireturn, 1) := by decide +kernel
theorem dX6_firstFall_32 : decode cX6_firstFall 32 = .ok (.iload 4, 2) := by decide +kernel
theorem dX6_firstFall_34 : decode cX6_firstFall 34 = .ok (.iload_n 1, 1) := by decide +kernel
theorem dX6_firstFall_35 : decode cX6_firstFall 35 = .ok (.if_icmp .le 15, 3) := by decide +kernel
theorem dX6_firstFall_38 : decode cX6_firstFall 38 = .ok (.aload_n 0, 1) := by decide +kernel
theorem dX6_firstFall_39 : decode cX6_firstFall 39 = .ok (.iload 4, 2) := by decide +kernel
theorem dX6_firstFall_41 : decode cX6_firstFall 41 = .ok (.invokevirtual 36, 3) := by decide +kernel
theorem dX6_firstFall_44 : decode cX6_firstFall 44 = .ok (.ifCond .eq 6, 3) := by decide +kernel
theorem dX6_firstFall_47 : decode cX6_firstFall 47 = .ok (.iload 4, 2) := by decide +kernel
theorem dX6_firstFall_49 : decode cX6_firstFall 49 = .ok (.ireturn, 1) := by decide +kernel
theorem dX6_firstFall_50 : decode cX6_firstFall 50 = .ok (.iinc 4 1, 3) := by decide +kernel
theorem dX6_firstFall_53 : decode cX6_firstFall 53 = .ok (.goto (-50), 3) := by decide +kernel
theorem dX6_firstFall_56 : decode cX6_firstFall 56 = .ok (.bipush (-6), 2) := by decide +kernel
theorem dX6_firstFall_58 : decode cX6_firstFall 58 = .ok (.ireturn, 1) := by decide +kernel
theorem dX6_outgrowsBound_0 : decode cX6_outgrowsBound 0 = .ok (.aload_n 0, 1) := by decide +kernel
theorem dX6_outgrowsBound_1 : decode cX6_outgrowsBound 1 = .ok (.iconst 0, 1) := by decide +kernel
theorem dX6_outgrowsBound_2 : decode cX6_outgrowsBound 2 = .ok (.iload_n 1, 1) := by decide +kernel
theorem dX6_outgrowsBound_3 : decode cX6_outgrowsBound 3 = .ok (.invokevirtual 32, 3) := by decide +kernel
theorem dX6_outgrowsBound_6 : decode cX6_outgrowsBound 6 = .ok (.i2l, 1) := by decide +kernel
theorem dX6_outgrowsBound_7 : decode cX6_outgrowsBound 7 = .ok (.aload_n 0, 1) := by decide +kernel
theorem dX6_outgrowsBound_8 : decode cX6_outgrowsBound 8 = .ok (.iconst 2, 1) := by decide +kernel
theorem dX6_outgrowsBound_9 : decode cX6_outgrowsBound 9 = .ok (.iload_n 1, 1) := by decide +kernel
theorem dX6_outgrowsBound_10 : decode cX6_outgrowsBound 10 = .ok (.invokevirtual 32, 3) := by decide +kernel
theorem dX6_outgrowsBound_13 : decode cX6_outgrowsBound 13 = .ok (.i2l, 1) := by decide +kernel
theorem dX6_outgrowsBound_14 : decode cX6_outgrowsBound 14 = .ok (.lmul, 1) := by decide +kernel
theorem dX6_outgrowsBound_15 : decode cX6_outgrowsBound 15 = .ok (.invokestatic 39, 3) := by decide +kernel
theorem dX6_outgrowsBound_18 : decode cX6_outgrowsBound 18 = .ok (.lstore_n 2, 1) := by decide +kernel
theorem dX6_outgrowsBound_19 : decode cX6_outgrowsBound 19 = .ok (.aload_n 0, 1) := by decide +kernel
theorem dX6_outgrowsBound_20 : decode cX6_outgrowsBound 20 = .ok (.iconst 3, 1) := by decide +kernel
theorem dX6_outgrowsBound_21 : decode cX6_outgrowsBound 21 = .ok (.iload_n 1, 1) := by decide +kernel
theorem dX6_outgrowsBound_22 : decode cX6_outgrowsBound 22 = .ok (.iconst 1, 1) := by decide +kernel
theorem dX6_outgrowsBound_23 : decode cX6_outgrowsBound 23 = .ok (.isub, 1) := by decide +kernel
theorem dX6_outgrowsBound_24 : decode cX6_outgrowsBound 24 = .ok (.invokevirtual 32, 3) := by decide +kernel
theorem dX6_outgrowsBound_27 : decode cX6_outgrowsBound 27 = .ok (.i2l, 1) := by decide +kernel
theorem dX6_outgrowsBound_28 : decode cX6_outgrowsBound 28 = .ok (.aload_n 0, 1) := by decide +kernel
theorem dX6_outgrowsBound_29 : decode cX6_outgrowsBound 29 = .ok (.getfield 25, 3) := by decide +kernel
theorem dX6_outgrowsBound_32 : decode cX6_outgrowsBound 32 = .ok (.i2l, 1) := by decide +kernel
theorem dX6_outgrowsBound_33 : decode cX6_outgrowsBound 33 = .ok (.lmul, 1) := by decide +kernel
theorem dX6_outgrowsBound_34 : decode cX6_outgrowsBound 34 = .ok (.invokestatic 39, 3) := by decide +kernel
theorem dX6_outgrowsBound_37 : decode cX6_outgrowsBound 37 = .ok (.lstore 4, 2) := by decide +kernel
theorem dX6_outgrowsBound_39 : decode cX6_outgrowsBound 39 = .ok (.aload_n 0, 1) := by decide +kernel
theorem dX6_outgrowsBound_40 : decode cX6_outgrowsBound 40 = .ok (.iconst 1, 1) := by decide +kernel
theorem dX6_outgrowsBound_41 : decode cX6_outgrowsBound 41 = .ok (.iload_n 1, 1) := by decide +kernel
theorem dX6_outgrowsBound_42 : decode cX6_outgrowsBound 42 = .ok (.invokevirtual 32, 3) := by decide +kernel
theorem dX6_outgrowsBound_45 : decode cX6_outgrowsBound 45 = .ok (.i2l, 1) := by decide +kernel
theorem dX6_outgrowsBound_46 : decode cX6_outgrowsBound 46 = .ok (.aload_n 0, 1) := by decide +kernel
theorem dX6_outgrowsBound_47 : decode cX6_outgrowsBound 47 = .ok (.iconst 3, 1) := by decide +kernel
theorem dX6_outgrowsBound_48 : decode cX6_outgrowsBound 48 = .ok (.iload_n 1, 1) := by decide +kernel
theorem dX6_outgrowsBound_49 : decode cX6_outgrowsBound 49 = .ok (.invokevirtual 32, 3) := by decide +kernel
theorem dX6_outgrowsBound_52 : decode cX6_outgrowsBound 52 = .ok (.i2l, 1) := by decide +kernel
theorem dX6_outgrowsBound_53 : decode cX6_outgrowsBound 53 = .ok (.lmul, 1) := by decide +kernel
theorem dX6_outgrowsBound_54 : decode cX6_outgrowsBound 54 = .ok (.invokestatic 39, 3) := by decide +kernel
theorem dX6_outgrowsBound_57 : decode cX6_outgrowsBound 57 = .ok (.lstore 6, 2) := by decide +kernel
theorem dX6_outgrowsBound_59 : decode cX6_outgrowsBound 59 = .ok (.aload_n 0, 1) := by decide +kernel
theorem dX6_outgrowsBound_60 : decode cX6_outgrowsBound 60 = .ok (.iconst 2, 1) := by decide +kernel
theorem dX6_outgrowsBound_61 : decode cX6_outgrowsBound 61 = .ok (.iload_n 1, 1) := by decide +kernel
theorem dX6_outgrowsBound_62 : decode cX6_outgrowsBound 62 = .ok (.iconst 1, 1) := by decide +kernel
theorem dX6_outgrowsBound_63 : decode cX6_outgrowsBound 63 = .ok (.isub, 1) := by decide +kernel
theorem dX6_outgrowsBound_64 : decode cX6_outgrowsBound 64 = .ok (.invokevirtual 32, 3) := by decide +kernel
theorem dX6_outgrowsBound_67 : decode cX6_outgrowsBound 67 = .ok (.i2l, 1) := by decide +kernel
theorem dX6_outgrowsBound_68 : decode cX6_outgrowsBound 68 = .ok (.aload_n 0, 1) := by decide +kernel
theorem dX6_outgrowsBound_69 : decode cX6_outgrowsBound 69 = .ok (.getfield 21, 3) := by decide +kernel
theorem dX6_outgrowsBound_72 : decode cX6_outgrowsBound 72 = .ok (.i2l, 1) := by decide +kernel
theorem dX6_outgrowsBound_73 : decode cX6_outgrowsBound 73 = .ok (.lmul, 1) := by decide +kernel
theorem dX6_outgrowsBound_74 : decode cX6_outgrowsBound 74 = .ok (.invokestatic 39, 3) := by decide +kernel
theorem dX6_outgrowsBound_77 : decode cX6_outgrowsBound 77 = .ok (.lstore 8, 2) := by decide +kernel
theorem dX6_outgrowsBound_79 : decode cX6_outgrowsBound 79 = .ok (.lload_n 2, 1) := by decide +kernel
theorem dX6_outgrowsBound_80 : decode cX6_outgrowsBound 80 = .ok (.lload 4, 2) := by decide +kernel
theorem dX6_outgrowsBound_82 : decode cX6_outgrowsBound 82 = .ok (.invokestatic 45, 3) := by decide +kernel
theorem dX6_outgrowsBound_85 : decode cX6_outgrowsBound 85 = .ok (.lload 6, 2) := by decide +kernel
theorem dX6_outgrowsBound_87 : decode cX6_outgrowsBound 87 = .ok (.lload 8, 2) := by decide +kernel
theorem dX6_outgrowsBound_89 : decode cX6_outgrowsBound 89 = .ok (.invokestatic 45, 3) := by decide +kernel
theorem dX6_outgrowsBound_92 : decode cX6_outgrowsBound 92 = .ok (.lsub, 1) := by decide +kernel
theorem dX6_outgrowsBound_93 : decode cX6_outgrowsBound 93 = .ok (.lstore 10, 2) := by decide +kernel
theorem dX6_outgrowsBound_95 : decode cX6_outgrowsBound 95 = .ok (.lload 10, 2) := by decide +kernel
theorem dX6_outgrowsBound_97 : decode cX6_outgrowsBound 97 = .ok (.lconst 0, 1) := by decide +kernel
theorem dX6_outgrowsBound_98 : decode cX6_outgrowsBound 98 = .ok (.lcmp, 1) := by decide +kernel
theorem dX6_outgrowsBound_99 : decode cX6_outgrowsBound 99 = .ok (.ifCond .gt 27, 3) := by decide +kernel
theorem dX6_outgrowsBound_102 : decode cX6_outgrowsBound 102 = .ok (.lload 10, 2) := by decide +kernel
theorem dX6_outgrowsBound_104 : decode cX6_outgrowsBound 104 = .ok (.lconst 0, 1) := by decide +kernel
theorem dX6_outgrowsBound_105 : decode cX6_outgrowsBound 105 = .ok (.lcmp, 1) := by decide +kernel
theorem dX6_outgrowsBound_106 : decode cX6_outgrowsBound 106 = .ok (.ifCond .ne 24, 3) := by decide +kernel
theorem dX6_outgrowsBound_109 : decode cX6_outgrowsBound 109 = .ok (.lload_n 2, 1) := by decide +kernel
theorem dX6_outgrowsBound_110 : decode cX6_outgrowsBound 110 = .ok (.lload 4, 2) := by decide +kernel
theorem dX6_outgrowsBound_112 : decode cX6_outgrowsBound 112 = .ok (.invokestatic 49, 3) := by decide +kernel
theorem dX6_outgrowsBound_115 : decode cX6_outgrowsBound 115 = .ok (.lload 6, 2) := by decide +kernel
theorem dX6_outgrowsBound_117 : decode cX6_outgrowsBound 117 = .ok (.lload 8, 2) := by decide +kernel
theorem dX6_outgrowsBound_119 : decode cX6_outgrowsBound 119 = .ok (.invokestatic 49, 3) := by decide +kernel
theorem dX6_outgrowsBound_122 : decode cX6_outgrowsBound 122 = .ok (.lcmp, 1) := by decide +kernel
theorem dX6_outgrowsBound_123 : decode cX6_outgrowsBound 123 = .ok (.ifCond .le 7, 3) := by decide +kernel
theorem dX6_outgrowsBound_126 : decode cX6_outgrowsBound 126 = .ok (.iconst 1, 1) := by decide +kernel
theorem dX6_outgrowsBound_127 : decode cX6_outgrowsBound 127 = .ok (.goto 4, 3) := by decide +kernel
theorem dX6_outgrowsBound_130 : decode cX6_outgrowsBound 130 = .ok (.iconst 0, 1) := by decide +kernel
theorem dX6_outgrowsBound_131 : decode cX6_outgrowsBound 131 = .ok (.ireturn, 1) := by decide +kernel
theorem dX6_upper_0 : decode cX6_upper 0 = .ok (.lload_n 0, 1) := by decide +kernel
theorem dX6_upper_1 : decode cX6_upper 1 = .ok (.bipush 30, 2) := by decide +kernel
theorem dX6_upper_3 : decode cX6_upper 3 = .ok (.lshr, 1) := by decide +kernel
theorem dX6_upper_4 : decode cX6_upper 4 = .ok (.lstore 4, 2) := by decide +kernel
theorem dX6_upper_6 : decode cX6_upper 6 = .ok (.lload_n 2, 1) := by decide +kernel
theorem dX6_upper_7 : decode cX6_upper 7 = .ok (.bipush 30, 2) := by decide +kernel
theorem dX6_upper_9 : decode cX6_upper 9 = .ok (.lshr, 1) := by decide +kernel
theorem dX6_upper_10 : decode cX6_upper 10 = .ok (.lstore 6, 2) := by decide +kernel
theorem dX6_upper_12 : decode cX6_upper 12 = .ok (.lload_n 0, 1) := by decide +kernel
theorem dX6_upper_13 : decode cX6_upper 13 = .ok (.ldc2_w 52, 3) := by decide +kernel
theorem dX6_upper_16 : decode cX6_upper 16 = .ok (.land, 1) := by decide +kernel
theorem dX6_upper_17 : decode cX6_upper 17 = .ok (.lstore 8, 2) := by decide +kernel
theorem dX6_upper_19 : decode cX6_upper 19 = .ok (.lload_n 2, 1) := by decide +kernel
theorem dX6_upper_20 : decode cX6_upper 20 = .ok (.ldc2_w 52, 3) := by decide +kernel
theorem dX6_upper_23 : decode cX6_upper 23 = .ok (.land, 1) := by decide +kernel
theorem dX6_upper_24 : decode cX6_upper 24 = .ok (.lstore 10, 2) := by decide +kernel
theorem dX6_upper_26 : decode cX6_upper 26 = .ok (.lload 4, 2) := by decide +kernel
theorem dX6_upper_28 : decode cX6_upper 28 = .ok (.lload 6, 2) := by decide +kernel
theorem dX6_upper_30 : decode cX6_upper 30 = .ok (.lmul, 1) := by decide +kernel
theorem dX6_upper_31 : decode cX6_upper 31 = .ok (.bipush 30, 2) := by decide +kernel
theorem dX6_upper_33 : decode cX6_upper 33 = .ok (.lshl, 1) := by decide +kernel
theorem dX6_upper_34 : decode cX6_upper 34 = .ok (.lload 4, 2) := by decide +kernel
theorem dX6_upper_36 : decode cX6_upper 36 = .ok (.lload 10, 2) := by decide +kernel
theorem dX6_upper_38 : decode cX6_upper 38 = .ok (.lmul, 1) := by decide +kernel
theorem dX6_upper_39 : decode cX6_upper 39 = .ok (.ladd, 1) := by decide +kernel
theorem dX6_upper_40 : decode cX6_upper 40 = .ok (.lload 8, 2) := by decide +kernel
theorem dX6_upper_42 : decode cX6_upper 42 = .ok (.lload 6, 2) := by decide +kernel
theorem dX6_upper_44 : decode cX6_upper 44 = .ok (.lmul, 1) := by decide +kernel
theorem dX6_upper_45 : decode cX6_upper 45 = .ok (.ladd, 1) := by decide +kernel
theorem dX6_upper_46 : decode cX6_upper 46 = .ok (.lload 8, 2) := by decide +kernel
theorem dX6_upper_48 : decode cX6_upper 48 = .ok (.lload 10, 2) := by decide +kernel
theorem dX6_upper_50 : decode cX6_upper 50 = .ok (.lmul, 1) := by decide +kernel
theorem dX6_upper_51 : decode cX6_upper 51 = .ok (.bipush 30, 2) := by decide +kernel
theorem dX6_upper_53 : decode cX6_upper 53 = .ok (.lshr, 1) := by decide +kernel
theorem dX6_upper_54 : decode cX6_upper 54 = .ok (.ladd, 1) := by decide +kernel
theorem dX6_upper_55 : decode cX6_upper 55 = .ok (.lreturn, 1) := by decide +kernel
theorem dX6_lower_0 : decode cX6_lower 0 = .ok (.lload_n 0, 1) := by decide +kernel
theorem dX6_lower_1 : decode cX6_lower 1 = .ok (.lload_n 2, 1) := by decide +kernel
theorem dX6_lower_2 : decode cX6_lower 2 = .ok (.lmul, 1) := by decide +kernel
theorem dX6_lower_3 : decode cX6_lower 3 = .ok (.ldc2_w 52, 3) := by decide +kernel
theorem dX6_lower_6 : decode cX6_lower 6 = .ok (.land, 1) := by decide +kernel
theorem dX6_lower_7 : decode cX6_lower 7 = .ok (.lreturn, 1) := by decide +kernel
theorem dX7_init_0 : decode cX7_init 0 = .ok (.aload_n 0, 1) := by decide +kernel
theorem dX7_init_1 : decode cX7_init 1 = .ok (.invokespecial 3, 3) := by decide +kernel
theorem dX7_init_4 : decode cX7_init 4 = .ok (.aload_n 0, 1) := by decide +kernel
theorem dX7_init_5 : decode cX7_init 5 = .ok (.bipush 6, 2) := by decide +kernel
theorem dX7_init_7 : decode cX7_init 7 = .ok (.anewarray 9, 3) := by decide +kernel
theorem dX7_init_10 : decode cX7_init 10 = .ok (.putfield 11, 3) := by decide +kernel
theorem dX7_init_13 : decode cX7_init 13 = .ok (.aload_n 0, 1) := by decide +kernel
theorem dX7_init_14 : decode cX7_init 14 = .ok (.bipush 8, 2) := by decide +kernel
theorem dX7_init_16 : decode cX7_init 16 = .ok (.anewarray 15, 3) := by decide +kernel
theorem dX7_init_19 : decode cX7_init 19 = .ok (.putfield 17, 3) := by decide +kernel
theorem dX7_init_22 : decode cX7_init 22 = .ok (.aload_n 0, 1) := by decide +kernel
theorem dX7_init_23 : decode cX7_init 23 = .ok (.iconst 4, 1) := by decide +kernel
theorem dX7_init_24 : decode cX7_init 24 = .ok (.anewarray 21, 3) := by decide +kernel
theorem dX7_init_27 : decode cX7_init 27 = .ok (.putfield 23, 3) := by decide +kernel
theorem dX7_init_30 : decode cX7_init 30 = .ok (.aload_n 0, 1) := by decide +kernel
theorem dX7_init_31 : decode cX7_init 31 = .ok (.new 27, 3) := by decide +kernel
theorem dX7_init_34 : decode cX7_init 34 = .ok (.dup, 1) := by decide +kernel
theorem dX7_init_35 : decode cX7_init 35 = .ok (.invokespecial 29, 3) := by decide +kernel
theorem dX7_init_38 : decode cX7_init 38 = .ok (.putfield 30, 3) := by decide +kernel
theorem dX7_init_41 : decode cX7_init 41 = .ok (.aload_n 0, 1) := by decide +kernel
theorem dX7_init_42 : decode cX7_init 42 = .ok (.new 34, 3) := by decide +kernel
theorem dX7_init_45 : decode cX7_init 45 = .ok (.dup, 1) := by decide +kernel
theorem dX7_init_46 : decode cX7_init 46 = .ok (.invokespecial 36, 3) := by decide +kernel
theorem dX7_init_49 : decode cX7_init 49 = .ok (.putfield 37, 3) := by decide +kernel
theorem dX7_init_52 : decode cX7_init 52 = .ok (.aload_n 0, 1) := by decide +kernel
theorem dX7_init_53 : decode cX7_init 53 = .ok (.new 15, 3) := by decide +kernel
theorem dX7_init_56 : decode cX7_init 56 = .ok (.dup, 1) := by decide +kernel
theorem dX7_init_57 : decode cX7_init 57 = .ok (.invokespecial 41, 3) := by decide +kernel
theorem dX7_init_60 : decode cX7_init 60 = .ok (.putfield 42, 3) := by decide +kernel
theorem dX7_init_63 : decode cX7_init 63 = .ok (.aload_n 0, 1) := by decide +kernel
theorem dX7_init_64 : decode cX7_init 64 = .ok (.new 46, 3) := by decide +kernel
theorem dX7_init_67 : decode cX7_init 67 = .ok (.dup, 1) := by decide +kernel
theorem dX7_init_68 : decode cX7_init 68 = .ok (.invokespecial 48, 3) := by decide +kernel
theorem dX7_init_71 : decode cX7_init 71 = .ok (.putfield 49, 3) := by decide +kernel
theorem dX7_init_74 : decode cX7_init 74 = .ok (.aload_n 0, 1) := by decide +kernel
theorem dX7_init_75 : decode cX7_init 75 = .ok (.new 46, 3) := by decide +kernel
theorem dX7_init_78 : decode cX7_init 78 = .ok (.dup, 1) := by decide +kernel
theorem dX7_init_79 : decode cX7_init 79 = .ok (.invokespecial 48, 3) := by decide +kernel
theorem dX7_init_82 : decode cX7_init 82 = .ok (.putfield 53, 3) := by decide +kernel
theorem dX7_init_85 : decode cX7_init 85 = .ok (.aload_n 0, 1) := by decide +kernel
theorem dX7_init_86 : decode cX7_init 86 = .ok (.new 46, 3) := by decide +kernel
theorem dX7_init_89 : decode cX7_init 89 = .ok (.dup, 1) := by decide +kernel
theorem dX7_init_90 : decode cX7_init 90 = .ok (.invokespecial 48, 3) := by decide +kernel
theorem dX7_init_93 : decode cX7_init 93 = .ok (.putfield 56, 3) := by decide +kernel
theorem dX7_init_96 : decode cX7_init 96 = .ok (.iconst 0, 1) := by decide +kernel
theorem dX7_init_97 : decode cX7_init 97 = .ok (.istore_n 1, 1) := by decide +kernel
theorem dX7_init_98 : decode cX7_init 98 = .ok (.iload_n 1, 1) := by decide +kernel
theorem dX7_init_99 : decode cX7_init 99 = .ok (.bipush 6, 2) := by decide +kernel
theorem dX7_init_101 : decode cX7_init 101 = .ok (.if_icmp .ge 22, 3) := by decide +kernel
theorem dX7_init_104 : decode cX7_init 104 = .ok (.aload_n 0, 1) := by decide +kernel
theorem dX7_init_105 : decode cX7_init 105 = .ok (.getfield 11, 3) := by decide +kernel
theorem dX7_init_108 : decode cX7_init 108 = .ok (.iload_n 1, 1) := by decide +kernel
theorem dX7_init_109 : decode cX7_init 109 = .ok (.new 9, 3) := by decide +kernel
theorem dX7_init_112 : decode cX7_init 112 = .ok (.dup, 1) := by decide +kernel
theorem dX7_init_113 : decode cX7_init 113 = .ok (.invokespecial 59, 3) := by decide +kernel
theorem dX7_init_116 : decode cX7_init 116 = .ok (.aastore, 1) := by decide +kernel
theorem dX7_init_117 : decode cX7_init 117 = .ok (.iinc 1 1, 3) := by decide +kernel
theorem dX7_init_120 : decode cX7_init 120 = .ok (.goto (-22), 3) := by decide +kernel
theorem dX7_init_123 : decode cX7_init 123 = .ok (.iconst 0, 1) := by decide +kernel
theorem dX7_init_124 : decode cX7_init 124 = .ok (.istore_n 1, 1) := by decide +kernel
theorem dX7_init_125 : decode cX7_init 125 = .ok (.iload_n 1, 1) := by decide +kernel
theorem dX7_init_126 : decode cX7_init 126 = .ok (.bipush 8, 2) := by decide +kernel
theorem dX7_init_128 : decode cX7_init 128 = .ok (.if_icmp .ge 22, 3) := by decide +kernel
theorem dX7_init_131 : decode cX7_init 131 = .ok (.aload_n 0, 1) := by decide +kernel
theorem dX7_init_132 : decode cX7_init 132 = .ok (.getfield 17, 3) := by decide +kernel
theorem dX7_init_135 : decode cX7_init 135 = .ok (.iload_n 1, 1) := by decide +kernel
theorem dX7_init_136 : decode cX7_init 136 = .ok (.new 15, 3) := by decide +kernel
theorem dX7_init_139 : decode cX7_init 139 = .ok (.dup, 1) := by decide +kernel
theorem dX7_init_140 : decode cX7_init 140 = .ok (.invokespecial 41, 3) := by decide +kernel
theorem dX7_init_143 : decode cX7_init 143 = .ok (.aastore, 1) := by decide +kernel
theorem dX7_init_144 : decode cX7_init 144 = .ok (.iinc 1 1, 3) := by decide +kernel
theorem dX7_init_147 : decode cX7_init 147 = .ok (.goto (-22), 3) := by decide +kernel
theorem dX7_init_150 : decode cX7_init 150 = .ok (.iconst 0, 1) := by decide +kernel
theorem dX7_init_151 : decode cX7_init 151 = .ok (.istore_n 1, 1) := by decide +kernel
theorem dX7_init_152 : decode cX7_init 152 = .ok (.iload_n 1, 1) := by decide +kernel
theorem dX7_init_153 : decode cX7_init 153 = .ok (.iconst 4, 1) := by decide +kernel
theorem dX7_init_154 : decode cX7_init 154 = .ok (.if_icmp .ge 22, 3) := by decide +kernel
theorem dX7_init_157 : decode cX7_init 157 = .ok (.aload_n 0, 1) := by decide +kernel
theorem dX7_init_158 : decode cX7_init 158 = .ok (.getfield 23, 3) := by decide +kernel
theorem dX7_init_161 : decode cX7_init 161 = .ok (.iload_n 1, 1) := by decide +kernel
theorem dX7_init_162 : decode cX7_init 162 = .ok (.new 21, 3) := by decide +kernel
theorem dX7_init_165 : decode cX7_init 165 = .ok (.dup, 1) := by decide +kernel
theorem dX7_init_166 : decode cX7_init 166 = .ok (.invokespecial 60, 3) := by decide +kernel
theorem dX7_init_169 : decode cX7_init 169 = .ok (.aastore, 1) := by decide +kernel
theorem dX7_init_170 : decode cX7_init 170 = .ok (.iinc 1 1, 3) := by decide +kernel
theorem dX7_init_173 : decode cX7_init 173 = .ok (.goto (-21), 3) := by decide +kernel
theorem dX7_init_176 : decode cX7_init 176 = .ok (.return_, 1) := by decide +kernel
theorem dX7_rule_0 : decode cX7_rule 0 = .ok (.aload_n 0, 1) := by decide +kernel
theorem dX7_rule_1 : decode cX7_rule 1 = .ok (.iload_n 1, 1) := by decide +kernel
theorem dX7_rule_2 : decode cX7_rule 2 = .ok (.invokevirtual 61, 3) := by decide +kernel
theorem dX7_rule_5 : decode cX7_rule 5 = .ok (.astore 6, 2) := by decide +kernel
theorem dX7_rule_7 : decode cX7_rule 7 = .ok (.aload 6, 2) := by decide +kernel
theorem dX7_rule_9 : decode cX7_rule 9 = .ok (.ifnonnull 5, 3) := by decide +kernel
theorem dX7_rule_12 : decode cX7_rule 12 = .ok (.iconst (-1), 1) := by decide +kernel
theorem dX7_rule_13 : decode cX7_rule 13 = .ok (.ireturn, 1) := by decide +kernel
theorem dX7_rule_14 : decode cX7_rule 14 = .ok (.iload_n 2, 1) := by decide +kernel
theorem dX7_rule_15 : decode cX7_rule 15 = .ok (.invokestatic 65, 3) := by decide +kernel
theorem dX7_rule_18 : decode cX7_rule 18 = .ok (.ifCond .eq 26, 3) := by decide +kernel
theorem dX7_rule_21 : decode cX7_rule 21 = .ok (.iload_n 3, 1) := by decide +kernel
theorem dX7_rule_22 : decode cX7_rule 22 = .ok (.invokestatic 69, 3) := by decide +kernel
theorem dX7_rule_25 : decode cX7_rule 25 = .ok (.ifCond .eq 19, 3) := by decide +kernel
theorem dX7_rule_28 : decode cX7_rule 28 = .ok (.iload 4, 2) := by decide +kernel
theorem dX7_rule_30 : decode cX7_rule 30 = .ok (.invokestatic 69, 3) := by decide +kernel
theorem dX7_rule_33 : decode cX7_rule 33 = .ok (.ifCond .eq 11, 3) := by decide +kernel
theorem dX7_rule_36 : decode cX7_rule 36 = .ok (.iload 5, 2) := by decide +kernel
theorem dX7_rule_38 : decode cX7_rule 38 = .ok (.invokestatic 69, 3) := by decide +kernel
theorem dX7_rule_41 : decode cX7_rule 41 = .ok (.ifCond .ne 6, 3) := by decide +kernel
theorem dX7_rule_44 : decode cX7_rule 44 = .ok (.bipush (-2), 2) := by decide +kernel
theorem dX7_rule_46 : decode cX7_rule 46 = .ok (.ireturn, 1) := by decide +kernel
theorem dX7_rule_47 : decode cX7_rule 47 = .ok (.aload 6, 2) := by decide +kernel
theorem dX7_rule_49 : decode cX7_rule 49 = .ok (.iload_n 2, 1) := by decide +kernel
theorem dX7_rule_50 : decode cX7_rule 50 = .ok (.iload_n 3, 1) := by decide +kernel
theorem dX7_rule_51 : decode cX7_rule 51 = .ok (.iload 4, 2) := by decide +kernel
theorem dX7_rule_53 : decode cX7_rule 53 = .ok (.iload 5, 2) := by decide +kernel
theorem dX7_rule_55 : decode cX7_rule 55 = .ok (.invokevirtual 72, 3) := by decide +kernel
theorem dX7_rule_58 : decode cX7_rule 58 = .ok (.aload_n 0, 1) := by decide +kernel
theorem dX7_rule_59 : decode cX7_rule 59 = .ok (.iload_n 1, 1) := by decide +kernel
theorem dX7_rule_60 : decode cX7_rule 60 = .ok (.invokevirtual 76, 3) := by decide +kernel
theorem dX7_rule_63 : decode cX7_rule 63 = .ok (.ireturn, 1) := by decide +kernel
theorem dX7_bound_0 : decode cX7_bound 0 = .ok (.aload_n 0, 1) := by decide +kernel
theorem dX7_bound_1 : decode cX7_bound 1 = .ok (.iload_n 1, 1) := by decide +kernel
theorem dX7_bound_2 : decode cX7_bound 2 = .ok (.invokevirtual 61, 3) := by decide +kernel
theorem dX7_bound_5 : decode cX7_bound 5 = .ok (.astore 4, 2) := by decide +kernel
theorem dX7_bound_7 : decode cX7_bound 7 = .ok (.aload 4, 2) := by decide +kernel
theorem dX7_bound_9 : decode cX7_bound 9 = .ok (.ifnonnull 5, 3) := by decide +kernel
theorem dX7_bound_12 : decode cX7_bound 12 = .ok (.iconst (-1), 1) := by decide +kernel
theorem dX7_bound_13 : decode cX7_bound 13 = .ok (.ireturn, 1) := by decide +kernel
theorem dX7_bound_14 : decode cX7_bound 14 = .ok (.iload_n 2, 1) := by decide +kernel
theorem dX7_bound_15 : decode cX7_bound 15 = .ok (.iconst 1, 1) := by decide +kernel
theorem dX7_bound_16 : decode cX7_bound 16 = .ok (.if_icmp .lt 14, 3) := by decide +kernel
theorem dX7_bound_19 : decode cX7_bound 19 = .ok (.iload_n 3, 1) := by decide +kernel
theorem dX7_bound_20 : decode cX7_bound 20 = .ok (.iload_n 2, 1) := by decide +kernel
theorem dX7_bound_21 : decode cX7_bound 21 = .ok (.if_icmp .le 9, 3) := by decide +kernel
theorem dX7_bound_24 : decode cX7_bound 24 = .ok (.iload_n 3, 1) := by decide +kernel
theorem dX7_bound_25 : decode cX7_bound 25 = .ok (.ldc 80, 2) := by decide +kernel
theorem dX7_bound_27 : decode cX7_bound 27 = .ok (.if_icmp .le 6, 3) := by decide +kernel
theorem dX7_bound_30 : decode cX7_bound 30 = .ok (.bipush (-2), 2) := by decide +kernel
theorem dX7_bound_32 : decode cX7_bound 32 = .ok (.ireturn, 1) := by decide +kernel
theorem dX7_bound_33 : decode cX7_bound 33 = .ok (.aload 4, 2) := by decide +kernel
theorem dX7_bound_35 : decode cX7_bound 35 = .ok (.iload_n 2, 1) := by decide +kernel
theorem dX7_bound_36 : decode cX7_bound 36 = .ok (.putfield 81, 3) := by decide +kernel
theorem dX7_bound_39 : decode cX7_bound 39 = .ok (.aload 4, 2) := by decide +kernel
theorem dX7_bound_41 : decode cX7_bound 41 = .ok (.iload_n 3, 1) := by decide +kernel
theorem dX7_bound_42 : decode cX7_bound 42 = .ok (.putfield 85, 3) := by decide +kernel
theorem dX7_bound_45 : decode cX7_bound 45 = .ok (.aload_n 0, 1) := by decide +kernel
theorem dX7_bound_46 : decode cX7_bound 46 = .ok (.iload_n 1, 1) := by decide +kernel
theorem dX7_bound_47 : decode cX7_bound 47 = .ok (.invokevirtual 76, 3) := by decide +kernel
theorem dX7_bound_50 : decode cX7_bound 50 = .ok (.ireturn, 1) := by decide +kernel
theorem dX7_at_0 : decode cX7_at 0 = .ok (.aload_n 0, 1) := by decide +kernel
theorem dX7_at_1 : decode cX7_at 1 = .ok (.iload_n 1, 1) := by decide +kernel
theorem dX7_at_2 : decode cX7_at 2 = .ok (.invokevirtual 61, 3) := by decide +kernel
theorem dX7_at_5 : decode cX7_at 5 = .ok (.astore 4, 2) := by decide +kernel
theorem dX7_at_7 : decode cX7_at 7 = .ok (.aload 4, 2) := by decide +kernel
theorem dX7_at_9 : decode cX7_at 9 = .ok (.ifnull 10, 3) := by decide +kernel
theorem dX7_at_12 : decode cX7_at 12 = .ok (.iload_n 2, 1) := by decide +kernel
theorem dX7_at_13 : decode cX7_at 13 = .ok (.invokestatic 65, 3) := by decide +kernel
theorem dX7_at_16 : decode cX7_at 16 = .ok (.ifCond .ne 6, 3) := by decide +kernel
theorem dX7_at_19 : decode cX7_at 19 = .ok (.ldc 88, 2) := by decide +kernel
theorem dX7_at_21 : decode cX7_at 21 = .ok (.ireturn, 1) := by decide +kernel
theorem dX7_at_22 : decode cX7_at 22 = .ok (.iload_n 3, 1) := by decide +kernel
theorem dX7_at_23 : decode cX7_at 23 = .ok (.ifCond .lt 9, 3) := by decide +kernel
theorem dX7_at_26 : decode cX7_at 26 = .ok (.iload_n 3, 1) := by decide +kernel
theorem dX7_at_27 : decode cX7_at 27 = .ok (.bipush 100, 2) := by decide +kernel
theorem dX7_at_29 : decode cX7_at 29 = .ok (.if_icmp .lt 6, 3) := by decide +kernel
theorem dX7_at_32 : decode cX7_at 32 = .ok (.ldc 89, 2) := by decide +kernel
theorem dX7_at_34 : decode cX7_at 34 = .ok (.ireturn, 1) := by decide +kernel
theorem dX7_at_35 : decode cX7_at 35 = .ok (.aload 4, 2) := by decide +kernel
theorem dX7_at_37 : decode cX7_at 37 = .ok (.iload_n 2, 1) := by decide +kernel
theorem dX7_at_38 : decode cX7_at 38 = .ok (.iload_n 3, 1) := by decide +kernel
theorem dX7_at_39 : decode cX7_at 39 = .ok (.invokevirtual 90, 3) := by decide +kernel
theorem dX7_at_42 : decode cX7_at 42 = .ok (.ireturn, 1) := by decide +kernel
theorem dX7_falls_0 : decode cX7_falls 0 = .ok (.aload_n 0, 1) := by decide +kernel
theorem dX7_falls_1 : decode cX7_falls 1 = .ok (.iload_n 1, 1) := by decide +kernel
theorem dX7_falls_2 : decode cX7_falls 2 = .ok (.invokevirtual 61, 3) := by decide +kernel
theorem dX7_falls_5 : decode cX7_falls 5 = .ok (.astore_n 3, 1) := by decide +kernel
theorem dX7_falls_6 : decode cX7_falls 6 = .ok (.aload_n 3, 1) := by decide +kernel
theorem dX7_falls_7 : decode cX7_falls 7 = .ok (.ifnonnull 5, 3) := by decide +kernel
theorem dX7_falls_10 : decode cX7_falls 10 = .ok (.iconst (-1), 1) := by decide +kernel
theorem dX7_falls_11 : decode cX7_falls 11 = .ok (.ireturn, 1) := by decide +kernel
theorem dX7_falls_12 : decode cX7_falls 12 = .ok (.iload_n 2, 1) := by decide +kernel
theorem dX7_falls_13 : decode cX7_falls 13 = .ok (.ifCond .lt 9, 3) := by decide +kernel
theorem dX7_falls_16 : decode cX7_falls 16 = .ok (.iload_n 2, 1) := by decide +kernel
theorem dX7_falls_17 : decode cX7_falls 17 = .ok (.bipush 100, 2) := by decide +kernel
theorem dX7_falls_19 : decode cX7_falls 19 = .ok (.if_icmp .le 6, 3) := by decide +kernel
theorem dX7_falls_22 : decode cX7_falls 22 = .ok (.bipush (-2), 2) := by decide +kernel
theorem dX7_falls_24 : decode cX7_falls 24 = .ok (.ireturn, 1) := by decide +kernel
theorem dX7_falls_25 : decode cX7_falls 25 = .ok (.aload_n 3, 1) := by decide +kernel
theorem dX7_falls_26 : decode cX7_falls 26 = .ok (.iconst 0, 1) := by decide +kernel
theorem dX7_falls_27 : decode cX7_falls 27 = .ok (.iconst 0, 1) := by decide +kernel
theorem dX7_falls_28 : decode cX7_falls 28 = .ok (.iload_n 2, 1) := by decide +kernel
theorem dX7_falls_29 : decode cX7_falls 29 = .ok (.invokevirtual 94, 3) := by decide +kernel
theorem dX7_falls_32 : decode cX7_falls 32 = .ok (.ireturn, 1) := by decide +kernel
theorem dX7_grind_0 : decode cX7_grind 0 = .ok (.aload_n 0, 1) := by decide +kernel
theorem dX7_grind_1 : decode cX7_grind 1 = .ok (.iload_n 1, 1) := by decide +kernel
theorem dX7_grind_2 : decode cX7_grind 2 = .ok (.invokevirtual 98, 3) := by decide +kernel
theorem dX7_grind_5 : decode cX7_grind 5 = .ok (.astore 5, 2) := by decide +kernel
theorem dX7_grind_7 : decode cX7_grind 7 = .ok (.aload_n 0, 1) := by decide +kernel
theorem dX7_grind_8 : decode cX7_grind 8 = .ok (.iload_n 2, 1) := by decide +kernel
theorem dX7_grind_9 : decode cX7_grind 9 = .ok (.invokevirtual 61, 3) := by decide +kernel
theorem dX7_grind_12 : decode cX7_grind 12 = .ok (.astore 6, 2) := by decide +kernel
theorem dX7_grind_14 : decode cX7_grind 14 = .ok (.aload 5, 2) := by decide +kernel
theorem dX7_grind_16 : decode cX7_grind 16 = .ok (.ifnull 8, 3) := by decide +kernel
theorem dX7_grind_19 : decode cX7_grind 19 = .ok (.aload 6, 2) := by decide +kernel
theorem dX7_grind_21 : decode cX7_grind 21 = .ok (.ifnonnull 5, 3) := by decide +kernel
theorem dX7_grind_24 : decode cX7_grind 24 = .ok (.iconst (-1), 1) := by decide +kernel
theorem dX7_grind_25 : decode cX7_grind 25 = .ok (.ireturn, 1) := by decide +kernel
theorem dX7_grind_26 : decode cX7_grind 26 = .ok (.iload_n 3, 1) := by decide +kernel
theorem dX7_grind_27 : decode cX7_grind 27 = .ok (.ifCond .lt 16, 3) := by decide +kernel
theorem dX7_grind_30 : decode cX7_grind 30 = .ok (.iload 4, 2) := by decide +kernel
theorem dX7_grind_32 : decode cX7_grind 32 = .ok (.iload_n 3, 1) := by decide +kernel
theorem dX7_grind_33 : decode cX7_grind 33 = .ok (.if_icmp .lt 10, 3) := by decide +kernel
theorem dX7_grind_36 : decode cX7_grind 36 = .ok (.iload 4, 2) := by decide +kernel
theorem dX7_grind_38 : decode cX7_grind 38 = .ok (.bipush 100, 2) := by decide +kernel
theorem dX7_grind_40 : decode cX7_grind 40 = .ok (.if_icmp .le 6, 3) := by decide +kernel
theorem dX7_grind_43 : decode cX7_grind 43 = .ok (.bipush (-2), 2) := by decide +kernel
theorem dX7_grind_45 : decode cX7_grind 45 = .ok (.ireturn, 1) := by decide +kernel
theorem dX7_grind_46 : decode cX7_grind 46 = .ok (.aload 6, 2) := by decide +kernel
theorem dX7_grind_48 : decode cX7_grind 48 = .ok (.iload_n 3, 1) := by decide +kernel
theorem dX7_grind_49 : decode cX7_grind 49 = .ok (.iload_n 3, 1) := by decide +kernel
theorem dX7_grind_50 : decode cX7_grind 50 = .ok (.iload 4, 2) := by decide +kernel
theorem dX7_grind_52 : decode cX7_grind 52 = .ok (.invokevirtual 94, 3) := by decide +kernel
theorem dX7_grind_55 : decode cX7_grind 55 = .ok (.istore 7, 2) := by decide +kernel
theorem dX7_grind_57 : decode cX7_grind 57 = .ok (.iload 7, 2) := by decide +kernel
theorem dX7_grind_59 : decode cX7_grind 59 = .ok (.bipush (-6), 2) := by decide +kernel
theorem dX7_grind_61 : decode cX7_grind 61 = .ok (.if_icmp .eq 9, 3) := by decide +kernel
theorem dX7_grind_64 : decode cX7_grind 64 = .ok (.bipush (-100), 2) := by decide +kernel
theorem dX7_grind_66 : decode cX7_grind 66 = .ok (.iload 7, 2) := by decide +kernel
theorem dX7_grind_68 : decode cX7_grind 68 = .ok (.isub, 1) := by decide +kernel
theorem dX7_grind_69 : decode cX7_grind 69 = .ok (.ireturn, 1) := by decide +kernel
theorem dX7_grind_70 : decode cX7_grind 70 = .ok (.aload 5, 2) := by decide +kernel
theorem dX7_grind_72 : decode cX7_grind 72 = .ok (.iload_n 2, 1) := by decide +kernel
theorem dX7_grind_73 : decode cX7_grind 73 = .ok (.iload_n 3, 1) := by decide +kernel
theorem dX7_grind_74 : decode cX7_grind 74 = .ok (.invokevirtual 102, 3) := by decide +kernel
theorem dX7_grind_77 : decode cX7_grind 77 = .ok (.aload_n 0, 1) := by decide +kernel
theorem dX7_grind_78 : decode cX7_grind 78 = .ok (.getfield 30, 3) := by decide +kernel
theorem dX7_grind_81 : decode cX7_grind 81 = .ok (.aload 5, 2) := by decide +kernel
theorem dX7_grind_83 : decode cX7_grind 83 = .ok (.aload 6, 2) := by decide +kernel
theorem dX7_grind_85 : decode cX7_grind 85 = .ok (.iload 4, 2) := by decide +kernel
theorem dX7_grind_87 : decode cX7_grind 87 = .ok (.invokevirtual 106, 3) := by decide +kernel
theorem dX7_grind_90 : decode cX7_grind 90 = .ok (.aload 5, 2) := by decide +kernel
theorem dX7_grind_92 : decode cX7_grind 92 = .ok (.invokevirtual 110, 3) := by decide +kernel
theorem dX7_grind_95 : decode cX7_grind 95 = .ok (.ireturn, 1) := by decide +kernel
theorem dX7_more_0 : decode cX7_more 0 = .ok (.aload_n 0, 1) := by decide +kernel
theorem dX7_more_1 : decode cX7_more 1 = .ok (.iload_n 1, 1) := by decide +kernel
theorem dX7_more_2 : decode cX7_more 2 = .ok (.invokevirtual 98, 3) := by decide +kernel
theorem dX7_more_5 : decode cX7_more 5 = .ok (.astore_n 3, 1) := by decide +kernel
theorem dX7_more_6 : decode cX7_more 6 = .ok (.aload_n 3, 1) := by decide +kernel
theorem dX7_more_7 : decode cX7_more 7 = .ok (.ifnonnull 5, 3) := by decide +kernel
theorem dX7_more_10 : decode cX7_more 10 = .ok (.iconst (-1), 1) := by decide +kernel
theorem dX7_more_11 : decode cX7_more 11 = .ok (.ireturn, 1) := by decide +kernel
theorem dX7_more_12 : decode cX7_more 12 = .ok (.iload_n 2, 1) := by decide +kernel
theorem dX7_more_13 : decode cX7_more 13 = .ok (.ifCond .lt 27, 3) := by decide +kernel
theorem dX7_more_16 : decode cX7_more 16 = .ok (.iload_n 2, 1) := by decide +kernel
theorem dX7_more_17 : decode cX7_more 17 = .ok (.bipush 100, 2) := by decide +kernel
theorem dX7_more_19 : decode cX7_more 19 = .ok (.if_icmp .gt 21, 3) := by decide +kernel
theorem dX7_more_22 : decode cX7_more 22 = .ok (.aload_n 3, 1) := by decide +kernel
theorem dX7_more_23 : decode cX7_more 23 = .ok (.getfield 114, 3) := by decide +kernel
theorem dX7_more_26 : decode cX7_more 26 = .ok (.ifCond .eq 17, 3) := by decide +kernel
theorem dX7_more_29 : decode cX7_more 29 = .ok (.aload_n 3, 1) := by decide +kernel
theorem dX7_more_30 : decode cX7_more 30 = .ok (.getfield 118, 3) := by decide +kernel
theorem dX7_more_33 : decode cX7_more 33 = .ok (.iload_n 2, 1) := by decide +kernel
theorem dX7_more_34 : decode cX7_more 34 = .ok (.iadd, 1) := by decide +kernel
theorem dX7_more_35 : decode cX7_more 35 = .ok (.bipush 100, 2) := by decide +kernel
theorem dX7_more_37 : decode cX7_more 37 = .ok (.if_icmp .le 6, 3) := by decide +kernel
theorem dX7_more_40 : decode cX7_more 40 = .ok (.bipush (-2), 2) := by decide +kernel
theorem dX7_more_42 : decode cX7_more 42 = .ok (.ireturn, 1) := by decide +kernel
theorem dX7_more_43 : decode cX7_more 43 = .ok (.aload_n 0, 1) := by decide +kernel
theorem dX7_more_44 : decode cX7_more 44 = .ok (.aload_n 3, 1) := by decide +kernel
theorem dX7_more_45 : decode cX7_more 45 = .ok (.getfield 121, 3) := by decide +kernel
theorem dX7_more_48 : decode cX7_more 48 = .ok (.invokevirtual 61, 3) := by decide +kernel
theorem dX7_more_51 : decode cX7_more 51 = .ok (.astore 4, 2) := by decide +kernel
theorem dX7_more_53 : decode cX7_more 53 = .ok (.aload_n 3, 1) := by decide +kernel
theorem dX7_more_54 : decode cX7_more 54 = .ok (.getfield 114, 3) := by decide +kernel
theorem dX7_more_57 : decode cX7_more 57 = .ok (.ifCond .eq 8, 3) := by decide +kernel
theorem dX7_more_60 : decode cX7_more 60 = .ok (.aload 4, 2) := by decide +kernel
theorem dX7_more_62 : decode cX7_more 62 = .ok (.ifnonnull 6, 3) := by decide +kernel
theorem dX7_more_65 : decode cX7_more 65 = .ok (.bipush (-3), 2) := by decide +kernel
theorem dX7_more_67 : decode cX7_more 67 = .ok (.ireturn, 1) := by decide +kernel
theorem dX7_more_68 : decode cX7_more 68 = .ok (.aload_n 3, 1) := by decide +kernel
theorem dX7_more_69 : decode cX7_more 69 = .ok (.getfield 118, 3) := by decide +kernel
theorem dX7_more_72 : decode cX7_more 72 = .ok (.iload_n 2, 1) := by decide +kernel
theorem dX7_more_73 : decode cX7_more 73 = .ok (.iadd, 1) := by decide +kernel
theorem dX7_more_74 : decode cX7_more 74 = .ok (.istore 5, 2) := by decide +kernel
theorem dX7_more_76 : decode cX7_more 76 = .ok (.aload 4, 2) := by decide +kernel
theorem dX7_more_78 : decode cX7_more 78 = .ok (.aload_n 3, 1) := by decide +kernel
theorem dX7_more_79 : decode cX7_more 79 = .ok (.getfield 124, 3) := by decide +kernel
theorem dX7_more_82 : decode cX7_more 82 = .ok (.aload_n 3, 1) := by decide +kernel
theorem dX7_more_83 : decode cX7_more 83 = .ok (.getfield 118, 3) := by decide +kernel
theorem dX7_more_86 : decode cX7_more 86 = .ok (.iload 5, 2) := by decide +kernel
theorem dX7_more_88 : decode cX7_more 88 = .ok (.invokevirtual 94, 3) := by decide +kernel
theorem dX7_more_91 : decode cX7_more 91 = .ok (.istore 6, 2) := by decide +kernel
theorem dX7_more_93 : decode cX7_more 93 = .ok (.aload_n 0, 1) := by decide +kernel
theorem dX7_more_94 : decode cX7_more 94 = .ok (.getfield 30, 3) := by decide +kernel
theorem dX7_more_97 : decode cX7_more 97 = .ok (.aload_n 3, 1) := by decide +kernel
theorem dX7_more_98 : decode cX7_more 98 = .ok (.aload 4, 2) := by decide +kernel
theorem dX7_more_100 : decode cX7_more 100 = .ok (.iload 6, 2) := by decide +kernel
theorem dX7_more_102 : decode cX7_more 102 = .ok (.bipush (-6), 2) := by decide +kernel
theorem dX7_more_104 : decode cX7_more 104 = .ok (.if_icmp .ne 8, 3) := by decide +kernel
theorem dX7_more_107 : decode cX7_more 107 = .ok (.iload 5, 2) := by decide +kernel
theorem dX7_more_109 : decode cX7_more 109 = .ok (.goto 5, 3) := by decide +kernel
theorem dX7_more_112 : decode cX7_more 112 = .ok (.iload 6, 2) := by decide +kernel
theorem dX7_more_114 : decode cX7_more 114 = .ok (.invokevirtual 106, 3) := by decide +kernel
theorem dX7_more_117 : decode cX7_more 117 = .ok (.iload 6, 2) := by decide +kernel
theorem dX7_more_119 : decode cX7_more 119 = .ok (.bipush (-6), 2) := by decide +kernel
theorem dX7_more_121 : decode cX7_more 121 = .ok (.if_icmp .ne 10, 3) := by decide +kernel
theorem dX7_more_124 : decode cX7_more 124 = .ok (.aload_n 3, 1) := by decide +kernel
theorem dX7_more_125 : decode cX7_more 125 = .ok (.getfield 118, 3) := by decide +kernel
theorem dX7_more_128 : decode cX7_more 128 = .ok (.goto 8, 3) := by decide +kernel
theorem dX7_more_131 : decode cX7_more 131 = .ok (.bipush (-100), 2) := by decide +kernel
theorem dX7_more_133 : decode cX7_more 133 = .ok (.iload 6, 2) := by decide +kernel
theorem dX7_more_135 : decode cX7_more 135 = .ok (.isub, 1) := by decide +kernel
theorem dX7_more_136 : decode cX7_more 136 = .ok (.ireturn, 1) := by decide +kernel
theorem dX7_join_0 : decode cX7_join 0 = .ok (.aload_n 0, 1) := by decide +kernel
theorem dX7_join_1 : decode cX7_join 1 = .ok (.iload_n 1, 1) := by decide +kernel
theorem dX7_join_2 : decode cX7_join 2 = .ok (.invokevirtual 98, 3) := by decide +kernel
theorem dX7_join_5 : decode cX7_join 5 = .ok (.astore 4, 2) := by decide +kernel
theorem dX7_join_7 : decode cX7_join 7 = .ok (.aload_n 0, 1) := by decide +kernel
theorem dX7_join_8 : decode cX7_join 8 = .ok (.iload_n 2, 1) := by decide +kernel
theorem dX7_join_9 : decode cX7_join 9 = .ok (.invokevirtual 98, 3) := by decide +kernel
theorem dX7_join_12 : decode cX7_join 12 = .ok (.astore 5, 2) := by decide +kernel
theorem dX7_join_14 : decode cX7_join 14 = .ok (.aload_n 0, 1) := by decide +kernel
theorem dX7_join_15 : decode cX7_join 15 = .ok (.iload_n 3, 1) := by decide +kernel
theorem dX7_join_16 : decode cX7_join 16 = .ok (.invokevirtual 98, 3) := by decide +kernel
theorem dX7_join_19 : decode cX7_join 19 = .ok (.astore 6, 2) := by decide +kernel
theorem dX7_join_21 : decode cX7_join 21 = .ok (.aload 4, 2) := by decide +kernel
theorem dX7_join_23 : decode cX7_join 23 = .ok (.ifnull 13, 3) := by decide +kernel
theorem dX7_join_26 : decode cX7_join 26 = .ok (.aload 5, 2) := by decide +kernel
theorem dX7_join_28 : decode cX7_join 28 = .ok (.ifnull 8, 3) := by decide +kernel
theorem dX7_join_31 : decode cX7_join 31 = .ok (.aload 6, 2) := by decide +kernel
theorem dX7_join_33 : decode cX7_join 33 = .ok (.ifnonnull 5, 3) := by decide +kernel
theorem dX7_join_36 : decode cX7_join 36 = .ok (.iconst (-1), 1) := by decide +kernel
theorem dX7_join_37 : decode cX7_join 37 = .ok (.ireturn, 1) := by decide +kernel
theorem dX7_join_38 : decode cX7_join 38 = .ok (.aload 4, 2) := by decide +kernel
theorem dX7_join_40 : decode cX7_join 40 = .ok (.getfield 114, 3) := by decide +kernel
theorem dX7_join_43 : decode cX7_join 43 = .ok (.ifCond .eq 11, 3) := by decide +kernel
theorem dX7_join_46 : decode cX7_join 46 = .ok (.aload 5, 2) := by decide +kernel
theorem dX7_join_48 : decode cX7_join 48 = .ok (.getfield 114, 3) := by decide +kernel
theorem dX7_join_51 : decode cX7_join 51 = .ok (.ifCond .ne 6, 3) := by decide +kernel
theorem dX7_join_54 : decode cX7_join 54 = .ok (.bipush (-3), 2) := by decide +kernel
theorem dX7_join_56 : decode cX7_join 56 = .ok (.ireturn, 1) := by decide +kernel
theorem dX7_join_57 : decode cX7_join 57 = .ok (.aload 4, 2) := by decide +kernel
theorem dX7_join_59 : decode cX7_join 59 = .ok (.getfield 121, 3) := by decide +kernel
theorem dX7_join_62 : decode cX7_join 62 = .ok (.aload 5, 2) := by decide +kernel
theorem dX7_join_64 : decode cX7_join 64 = .ok (.getfield 121, 3) := by decide +kernel
theorem dX7_join_67 : decode cX7_join 67 = .ok (.if_icmp .ne 16, 3) := by decide +kernel
theorem dX7_join_70 : decode cX7_join 70 = .ok (.aload 4, 2) := by decide +kernel
theorem dX7_join_72 : decode cX7_join 72 = .ok (.getfield 118, 3) := by decide +kernel
theorem dX7_join_75 : decode cX7_join 75 = .ok (.aload 5, 2) := by decide +kernel
theorem dX7_join_77 : decode cX7_join 77 = .ok (.getfield 124, 3) := by decide +kernel
theorem dX7_join_80 : decode cX7_join 80 = .ok (.if_icmp .eq 6, 3) := by decide +kernel
theorem dX7_join_83 : decode cX7_join 83 = .ok (.bipush (-5), 2) := by decide +kernel
theorem dX7_join_85 : decode cX7_join 85 = .ok (.ireturn, 1) := by decide +kernel
theorem dX7_join_86 : decode cX7_join 86 = .ok (.aload_n 0, 1) := by decide +kernel
theorem dX7_join_87 : decode cX7_join 87 = .ok (.getfield 30, 3) := by decide +kernel
theorem dX7_join_90 : decode cX7_join 90 = .ok (.aload 4, 2) := by decide +kernel
theorem dX7_join_92 : decode cX7_join 92 = .ok (.aload 5, 2) := by decide +kernel
theorem dX7_join_94 : decode cX7_join 94 = .ok (.aload 6, 2) := by decide +kernel
theorem dX7_join_96 : decode cX7_join 96 = .ok (.invokevirtual 127, 3) := by decide +kernel
theorem dX7_join_99 : decode cX7_join 99 = .ok (.aload 6, 2) := by decide +kernel
theorem dX7_join_101 : decode cX7_join 101 = .ok (.invokevirtual 110, 3) := by decide +kernel
theorem dX7_join_104 : decode cX7_join 104 = .ok (.ireturn, 1) := by decide +kernel
theorem dX7_empty_0 : decode cX7_empty 0 = .ok (.aload_n 0, 1) := by decide +kernel
theorem dX7_empty_1 : decode cX7_empty 1 = .ok (.iload_n 1, 1) := by decide +kernel
theorem dX7_empty_2 : decode cX7_empty 2 = .ok (.invokevirtual 98, 3) := by decide +kernel
theorem dX7_empty_5 : decode cX7_empty 5 = .ok (.astore_n 2, 1) := by decide +kernel
theorem dX7_empty_6 : decode cX7_empty 6 = .ok (.aload_n 2, 1) := by decide +kernel
theorem dX7_empty_7 : decode cX7_empty 7 = .ok (.ifnonnull 5, 3) := by decide +kernel
theorem dX7_empty_10 : decode cX7_empty 10 = .ok (.iconst (-1), 1) := by decide +kernel
theorem dX7_empty_11 : decode cX7_empty 11 = .ok (.ireturn, 1) := by decide +kernel
theorem dX7_empty_12 : decode cX7_empty 12 = .ok (.aload_n 2, 1) := by decide +kernel
theorem dX7_empty_13 : decode cX7_empty 13 = .ok (.getfield 114, 3) := by decide +kernel
theorem dX7_empty_16 : decode cX7_empty 16 = .ok (.ifCond .ne 6, 3) := by decide +kernel
theorem dX7_empty_19 : decode cX7_empty 19 = .ok (.bipush (-3), 2) := by decide +kernel
theorem dX7_empty_21 : decode cX7_empty 21 = .ok (.ireturn, 1) := by decide +kernel
theorem dX7_empty_22 : decode cX7_empty 22 = .ok (.aload_n 2, 1) := by decide +kernel
theorem dX7_empty_23 : decode cX7_empty 23 = .ok (.iconst 0, 1) := by decide +kernel
theorem dX7_empty_24 : decode cX7_empty 24 = .ok (.putfield 114, 3) := by decide +kernel
theorem dX7_empty_27 : decode cX7_empty 27 = .ok (.aload_n 2, 1) := by decide +kernel
theorem dX7_empty_28 : decode cX7_empty 28 = .ok (.invokevirtual 110, 3) := by decide +kernel
theorem dX7_empty_31 : decode cX7_empty 31 = .ok (.ireturn, 1) := by decide +kernel
theorem dX7_span_0 : decode cX7_span 0 = .ok (.aload_n 0, 1) := by decide +kernel
theorem dX7_span_1 : decode cX7_span 1 = .ok (.iload_n 1, 1) := by decide +kernel
theorem dX7_span_2 : decode cX7_span 2 = .ok (.invokevirtual 98, 3) := by decide +kernel
theorem dX7_span_5 : decode cX7_span 5 = .ok (.astore_n 3, 1) := by decide +kernel
theorem dX7_span_6 : decode cX7_span 6 = .ok (.aload_n 3, 1) := by decide +kernel
theorem dX7_span_7 : decode cX7_span 7 = .ok (.ifnonnull 5, 3) := by decide +kernel
theorem dX7_span_10 : decode cX7_span 10 = .ok (.iconst (-1), 1) := by decide +kernel
theorem dX7_span_11 : decode cX7_span 11 = .ok (.ireturn, 1) := by decide +kernel
theorem dX7_span_12 : decode cX7_span 12 = .ok (.iload_n 2, 1) := by decide +kernel
theorem dX7_span_13 : decode cX7_span 13 = .ok (.ifCond .lt 8, 3) := by decide +kernel
theorem dX7_span_16 : decode cX7_span 16 = .ok (.iload_n 2, 1) := by decide +kernel
theorem dX7_span_17 : decode cX7_span 17 = .ok (.iconst 2, 1) := by decide +kernel
theorem dX7_span_18 : decode cX7_span 18 = .ok (.if_icmp .le 6, 3) := by decide +kernel
theorem dX7_span_21 : decode cX7_span 21 = .ok (.bipush (-2), 2) := by decide +kernel
theorem dX7_span_23 : decode cX7_span 23 = .ok (.ireturn, 1) := by decide +kernel
theorem dX7_span_24 : decode cX7_span 24 = .ok (.aload_n 3, 1) := by decide +kernel
theorem dX7_span_25 : decode cX7_span 25 = .ok (.getfield 114, 3) := by decide +kernel
theorem dX7_span_28 : decode cX7_span 28 = .ok (.ifCond .ne 6, 3) := by decide +kernel
theorem dX7_span_31 : decode cX7_span 31 = .ok (.bipush (-3), 2) := by decide +kernel
theorem dX7_span_33 : decode cX7_span 33 = .ok (.ireturn, 1) := by decide +kernel
theorem dX7_span_34 : decode cX7_span 34 = .ok (.iload_n 2, 1) := by decide +kernel
theorem dX7_span_35 : decode cX7_span 35 = .ok (.ifCond .ne 10, 3) := by decide +kernel
theorem dX7_span_38 : decode cX7_span 38 = .ok (.aload_n 3, 1) := by decide +kernel
theorem dX7_span_39 : decode cX7_span 39 = .ok (.getfield 121, 3) := by decide +kernel
theorem dX7_span_42 : decode cX7_span 42 = .ok (.goto 19, 3) := by decide +kernel
theorem dX7_span_45 : decode cX7_span 45 = .ok (.iload_n 2, 1) := by decide +kernel
theorem dX7_span_46 : decode cX7_span 46 = .ok (.iconst 1, 1) := by decide +kernel
theorem dX7_span_47 : decode cX7_span 47 = .ok (.if_icmp .ne 10, 3) := by decide +kernel
theorem dX7_span_50 : decode cX7_span 50 = .ok (.aload_n 3, 1) := by decide +kernel
theorem dX7_span_51 : decode cX7_span 51 = .ok (.getfield 124, 3) := by decide +kernel
theorem dX7_span_54 : decode cX7_span 54 = .ok (.goto 7, 3) := by decide +kernel
theorem dX7_span_57 : decode cX7_span 57 = .ok (.aload_n 3, 1) := by decide +kernel
theorem dX7_span_58 : decode cX7_span 58 = .ok (.getfield 118, 3) := by decide +kernel
theorem dX7_span_61 : decode cX7_span 61 = .ok (.ireturn, 1) := by decide +kernel
theorem dX7_bits_0 : decode cX7_bits 0 = .ok (.aload_n 0, 1) := by decide +kernel
theorem dX7_bits_1 : decode cX7_bits 1 = .ok (.iload_n 1, 1) := by decide +kernel
theorem dX7_bits_2 : decode cX7_bits 2 = .ok (.iload_n 2, 1) := by decide +kernel
theorem dX7_bits_3 : decode cX7_bits 3 = .ok (.iconst 1, 1) := by decide +kernel
theorem dX7_bits_4 : decode cX7_bits 4 = .ok (.invokevirtual 131, 3) := by decide +kernel
theorem dX7_bits_7 : decode cX7_bits 7 = .ok (.istore_n 3, 1) := by decide +kernel
theorem dX7_bits_8 : decode cX7_bits 8 = .ok (.aload_n 0, 1) := by decide +kernel
theorem dX7_bits_9 : decode cX7_bits 9 = .ok (.iload_n 1, 1) := by decide +kernel
theorem dX7_bits_10 : decode cX7_bits 10 = .ok (.iload_n 2, 1) := by decide +kernel
theorem dX7_bits_11 : decode cX7_bits 11 = .ok (.invokevirtual 135, 3) := by decide +kernel
theorem dX7_bits_14 : decode cX7_bits 14 = .ok (.astore 4, 2) := by decide +kernel
theorem dX7_bits_16 : decode cX7_bits 16 = .ok (.iload_n 3, 1) := by decide +kernel
theorem dX7_bits_17 : decode cX7_bits 17 = .ok (.ifCond .ne 8, 3) := by decide +kernel
theorem dX7_bits_20 : decode cX7_bits 20 = .ok (.aload 4, 2) := by decide +kernel
theorem dX7_bits_22 : decode cX7_bits 22 = .ok (.ifnonnull 7, 3) := by decide +kernel
theorem dX7_bits_25 : decode cX7_bits 25 = .ok (.iload_n 3, 1) := by decide +kernel
theorem dX7_bits_26 : decode cX7_bits 26 = .ok (.goto 8, 3) := by decide +kernel
theorem dX7_bits_29 : decode cX7_bits 29 = .ok (.aload 4, 2) := by decide +kernel
theorem dX7_bits_31 : decode cX7_bits 31 = .ok (.invokevirtual 139, 3) := by decide +kernel
theorem dX7_bits_34 : decode cX7_bits 34 = .ok (.ireturn, 1) := by decide +kernel
theorem dX7_sign_0 : decode cX7_sign 0 = .ok (.aload_n 0, 1) := by decide +kernel
theorem dX7_sign_1 : decode cX7_sign 1 = .ok (.iload_n 1, 1) := by decide +kernel
theorem dX7_sign_2 : decode cX7_sign 2 = .ok (.iload_n 2, 1) := by decide +kernel
theorem dX7_sign_3 : decode cX7_sign 3 = .ok (.iconst 1, 1) := by decide +kernel
theorem dX7_sign_4 : decode cX7_sign 4 = .ok (.invokevirtual 131, 3) := by decide +kernel
theorem dX7_sign_7 : decode cX7_sign 7 = .ok (.istore_n 3, 1) := by decide +kernel
theorem dX7_sign_8 : decode cX7_sign 8 = .ok (.aload_n 0, 1) := by decide +kernel
theorem dX7_sign_9 : decode cX7_sign 9 = .ok (.iload_n 1, 1) := by decide +kernel
theorem dX7_sign_10 : decode cX7_sign 10 = .ok (.iload_n 2, 1) := by decide +kernel
theorem dX7_sign_11 : decode cX7_sign 11 = .ok (.invokevirtual 135, 3) := by decide +kernel
theorem dX7_sign_14 : decode cX7_sign 14 = .ok (.astore 4, 2) := by decide +kernel
theorem dX7_sign_16 : decode cX7_sign 16 = .ok (.iload_n 3, 1) := by decide +kernel
theorem dX7_sign_17 : decode cX7_sign 17 = .ok (.ifCond .ne 8, 3) := by decide +kernel
theorem dX7_sign_20 : decode cX7_sign 20 = .ok (.aload 4, 2) := by decide +kernel
theorem dX7_sign_22 : decode cX7_sign 22 = .ok (.ifnonnull 5, 3) := by decide +kernel
theorem dX7_sign_25 : decode cX7_sign 25 = .ok (.iload_n 3, 1) := by decide +kernel
theorem dX7_sign_26 : decode cX7_sign 26 = .ok (.ireturn, 1) := by decide +kernel
theorem dX7_sign_27 : decode cX7_sign 27 = .ok (.aload 4, 2) := by decide +kernel
theorem dX7_sign_29 : decode cX7_sign 29 = .ok (.getfield 144, 3) := by decide +kernel
theorem dX7_sign_32 : decode cX7_sign 32 = .ok (.ifCond .ne 7, 3) := by decide +kernel
theorem dX7_sign_35 : decode cX7_sign 35 = .ok (.iconst 0, 1) := by decide +kernel
theorem dX7_sign_36 : decode cX7_sign 36 = .ok (.goto 16, 3) := by decide +kernel
theorem dX7_sign_39 : decode cX7_sign 39 = .ok (.aload 4, 2) := by decide +kernel
theorem dX7_sign_41 : decode cX7_sign 41 = .ok (.getfield 147, 3) := by decide +kernel
theorem dX7_sign_44 : decode cX7_sign 44 = .ok (.ifCond .eq 7, 3) := by decide +kernel
theorem dX7_sign_47 : decode cX7_sign 47 = .ok (.iconst 2, 1) := by decide +kernel
theorem dX7_sign_48 : decode cX7_sign 48 = .ok (.goto 4, 3) := by decide +kernel
theorem dX7_sign_51 : decode cX7_sign 51 = .ok (.iconst 1, 1) := by decide +kernel
theorem dX7_sign_52 : decode cX7_sign 52 = .ok (.ireturn, 1) := by decide +kernel
theorem dX7_rest_0 : decode cX7_rest 0 = .ok (.aload_n 0, 1) := by decide +kernel
theorem dX7_rest_1 : decode cX7_rest 1 = .ok (.iload_n 1, 1) := by decide +kernel
theorem dX7_rest_2 : decode cX7_rest 2 = .ok (.iload_n 2, 1) := by decide +kernel
theorem dX7_rest_3 : decode cX7_rest 3 = .ok (.iload_n 3, 1) := by decide +kernel
theorem dX7_rest_4 : decode cX7_rest 4 = .ok (.iconst 2, 1) := by decide +kernel
theorem dX7_rest_5 : decode cX7_rest 5 = .ok (.if_icmp .lt 13, 3) := by decide +kernel
theorem dX7_rest_8 : decode cX7_rest 8 = .ok (.iload_n 3, 1) := by decide +kernel
theorem dX7_rest_9 : decode cX7_rest 9 = .ok (.ldc 80, 2) := by decide +kernel
theorem dX7_rest_11 : decode cX7_rest 11 = .ok (.if_icmp .gt 7, 3) := by decide +kernel
theorem dX7_rest_14 : decode cX7_rest 14 = .ok (.iconst 1, 1) := by decide +kernel
theorem dX7_rest_15 : decode cX7_rest 15 = .ok (.goto 4, 3) := by decide +kernel
theorem dX7_rest_18 : decode cX7_rest 18 = .ok (.iconst 0, 1) := by decide +kernel
theorem dX7_rest_19 : decode cX7_rest 19 = .ok (.invokevirtual 131, 3) := by decide +kernel
theorem dX7_rest_22 : decode cX7_rest 22 = .ok (.istore 4, 2) := by decide +kernel
theorem dX7_rest_24 : decode cX7_rest 24 = .ok (.aload_n 0, 1) := by decide +kernel
theorem dX7_rest_25 : decode cX7_rest 25 = .ok (.iload_n 1, 1) := by decide +kernel
theorem dX7_rest_26 : decode cX7_rest 26 = .ok (.iload_n 2, 1) := by decide +kernel
theorem dX7_rest_27 : decode cX7_rest 27 = .ok (.invokevirtual 135, 3) := by decide +kernel
theorem dX7_rest_30 : decode cX7_rest 30 = .ok (.astore 5, 2) := by decide +kernel
theorem dX7_rest_32 : decode cX7_rest 32 = .ok (.iload 4, 2) := by decide +kernel
theorem dX7_rest_34 : decode cX7_rest 34 = .ok (.ifCond .ne 8, 3) := by decide +kernel
theorem dX7_rest_37 : decode cX7_rest 37 = .ok (.aload 5, 2) := by decide +kernel
theorem dX7_rest_39 : decode cX7_rest 39 = .ok (.ifnonnull 8, 3) := by decide +kernel
theorem dX7_rest_42 : decode cX7_rest 42 = .ok (.iload 4, 2) := by decide +kernel
theorem dX7_rest_44 : decode cX7_rest 44 = .ok (.goto 9, 3) := by decide +kernel
theorem dX7_rest_47 : decode cX7_rest 47 = .ok (.aload 5, 2) := by decide +kernel
theorem dX7_rest_49 : decode cX7_rest 49 = .ok (.iload_n 3, 1) := by decide +kernel
theorem dX7_rest_50 : decode cX7_rest 50 = .ok (.invokevirtual 150, 3) := by decide +kernel
theorem dX7_rest_53 : decode cX7_rest 53 = .ok (.ireturn, 1) := by decide +kernel
theorem dX7_word_0 : decode cX7_word 0 = .ok (.aload_n 0, 1) := by decide +kernel
theorem dX7_word_1 : decode cX7_word 1 = .ok (.iload_n 1, 1) := by decide +kernel
theorem dX7_word_2 : decode cX7_word 2 = .ok (.iload_n 2, 1) := by decide +kernel
theorem dX7_word_3 : decode cX7_word 3 = .ok (.iload_n 3, 1) := by decide +kernel
theorem dX7_word_4 : decode cX7_word 4 = .ok (.ifCond .lt 7, 3) := by decide +kernel
theorem dX7_word_7 : decode cX7_word 7 = .ok (.iconst 1, 1) := by decide +kernel
theorem dX7_word_8 : decode cX7_word 8 = .ok (.goto 4, 3) := by decide +kernel
theorem dX7_word_11 : decode cX7_word 11 = .ok (.iconst 0, 1) := by decide +kernel
theorem dX7_word_12 : decode cX7_word 12 = .ok (.invokevirtual 131, 3) := by decide +kernel
theorem dX7_word_15 : decode cX7_word 15 = .ok (.istore 4, 2) := by decide +kernel
theorem dX7_word_17 : decode cX7_word 17 = .ok (.aload_n 0, 1) := by decide +kernel
theorem dX7_word_18 : decode cX7_word 18 = .ok (.iload_n 1, 1) := by decide +kernel
theorem dX7_word_19 : decode cX7_word 19 = .ok (.iload_n 2, 1) := by decide +kernel
theorem dX7_word_20 : decode cX7_word 20 = .ok (.invokevirtual 135, 3) := by decide +kernel
theorem dX7_word_23 : decode cX7_word 23 = .ok (.astore 5, 2) := by decide +kernel
theorem dX7_word_25 : decode cX7_word 25 = .ok (.iload 4, 2) := by decide +kernel
theorem dX7_word_27 : decode cX7_word 27 = .ok (.ifCond .ne 8, 3) := by decide +kernel
theorem dX7_word_30 : decode cX7_word 30 = .ok (.aload 5, 2) := by decide +kernel
theorem dX7_word_32 : decode cX7_word 32 = .ok (.ifnonnull 8, 3) := by decide +kernel
theorem dX7_word_35 : decode cX7_word 35 = .ok (.iload 4, 2) := by decide +kernel
theorem dX7_word_37 : decode cX7_word 37 = .ok (.goto 9, 3) := by decide +kernel
theorem dX7_word_40 : decode cX7_word 40 = .ok (.aload 5, 2) := by decide +kernel
theorem dX7_word_42 : decode cX7_word 42 = .ok (.iload_n 3, 1) := by decide +kernel
theorem dX7_word_43 : decode cX7_word 43 = .ok (.invokevirtual 153, 3) := by decide +kernel
theorem dX7_word_46 : decode cX7_word 46 = .ok (.ireturn, 1) := by decide +kernel
theorem dX7_same_0 : decode cX7_same 0 = .ok (.aload_n 0, 1) := by decide +kernel
theorem dX7_same_1 : decode cX7_same 1 = .ok (.iload_n 1, 1) := by decide +kernel
theorem dX7_same_2 : decode cX7_same 2 = .ok (.invokevirtual 98, 3) := by decide +kernel
theorem dX7_same_5 : decode cX7_same 5 = .ok (.astore_n 3, 1) := by decide +kernel
theorem dX7_same_6 : decode cX7_same 6 = .ok (.aload_n 0, 1) := by decide +kernel
theorem dX7_same_7 : decode cX7_same 7 = .ok (.iload_n 2, 1) := by decide +kernel
theorem dX7_same_8 : decode cX7_same 8 = .ok (.invokevirtual 98, 3) := by decide +kernel
theorem dX7_same_11 : decode cX7_same 11 = .ok (.astore 4, 2) := by decide +kernel
theorem dX7_same_13 : decode cX7_same 13 = .ok (.aload_n 3, 1) := by decide +kernel
theorem dX7_same_14 : decode cX7_same 14 = .ok (.ifnull 8, 3) := by decide +kernel
theorem dX7_same_17 : decode cX7_same 17 = .ok (.aload 4, 2) := by decide +kernel
theorem dX7_same_19 : decode cX7_same 19 = .ok (.ifnonnull 5, 3) := by decide +kernel
theorem dX7_same_22 : decode cX7_same 22 = .ok (.iconst (-1), 1) := by decide +kernel
theorem dX7_same_23 : decode cX7_same 23 = .ok (.ireturn, 1) := by decide +kernel
theorem dX7_same_24 : decode cX7_same 24 = .ok (.aload_n 3, 1) := by decide +kernel
theorem dX7_same_25 : decode cX7_same 25 = .ok (.getfield 114, 3) := by decide +kernel
theorem dX7_same_28 : decode cX7_same 28 = .ok (.ifCond .eq 11, 3) := by decide +kernel
theorem dX7_same_31 : decode cX7_same 31 = .ok (.aload 4, 2) := by decide +kernel
theorem dX7_same_33 : decode cX7_same 33 = .ok (.getfield 114, 3) := by decide +kernel
theorem dX7_same_36 : decode cX7_same 36 = .ok (.ifCond .ne 6, 3) := by decide +kernel
theorem dX7_same_39 : decode cX7_same 39 = .ok (.bipush (-3), 2) := by decide +kernel
theorem dX7_same_41 : decode cX7_same 41 = .ok (.ireturn, 1) := by decide +kernel
theorem dX7_same_42 : decode cX7_same 42 = .ok (.aload_n 3, 1) := by decide +kernel
theorem dX7_same_43 : decode cX7_same 43 = .ok (.aload 4, 2) := by decide +kernel
theorem dX7_same_45 : decode cX7_same 45 = .ok (.invokevirtual 156, 3) := by decide +kernel
theorem dX7_same_48 : decode cX7_same 48 = .ok (.ifCond .eq 7, 3) := by decide +kernel
theorem dX7_same_51 : decode cX7_same 51 = .ok (.iconst 1, 1) := by decide +kernel
theorem dX7_same_52 : decode cX7_same 52 = .ok (.goto 4, 3) := by decide +kernel
theorem dX7_same_55 : decode cX7_same 55 = .ok (.iconst 0, 1) := by decide +kernel
theorem dX7_same_56 : decode cX7_same 56 = .ok (.ireturn, 1) := by decide +kernel
theorem dX7_part_0 : decode cX7_part 0 = .ok (.aload_n 0, 1) := by decide +kernel
theorem dX7_part_1 : decode cX7_part 1 = .ok (.iload_n 1, 1) := by decide +kernel
theorem dX7_part_2 : decode cX7_part 2 = .ok (.invokevirtual 160, 3) := by decide +kernel
theorem dX7_part_5 : decode cX7_part 5 = .ok (.astore 5, 2) := by decide +kernel
theorem dX7_part_7 : decode cX7_part 7 = .ok (.aload 5, 2) := by decide +kernel
theorem dX7_part_9 : decode cX7_part 9 = .ok (.ifnull 11, 3) := by decide +kernel
theorem dX7_part_12 : decode cX7_part 12 = .ok (.aload_n 0, 1) := by decide +kernel
theorem dX7_part_13 : decode cX7_part 13 = .ok (.iload_n 2, 1) := by decide +kernel
theorem dX7_part_14 : decode cX7_part 14 = .ok (.invokevirtual 61, 3) := by decide +kernel
theorem dX7_part_17 : decode cX7_part 17 = .ok (.ifnonnull 5, 3) := by decide +kernel
theorem dX7_part_20 : decode cX7_part 20 = .ok (.iconst (-1), 1) := by decide +kernel
theorem dX7_part_21 : decode cX7_part 21 = .ok (.ireturn, 1) := by decide +kernel
theorem dX7_part_22 : decode cX7_part 22 = .ok (.iload_n 3, 1) := by decide +kernel
theorem dX7_part_23 : decode cX7_part 23 = .ok (.ldc 164, 2) := by decide +kernel
theorem dX7_part_25 : decode cX7_part 25 = .ok (.if_icmp .lt 22, 3) := by decide +kernel
theorem dX7_part_28 : decode cX7_part 28 = .ok (.iload_n 3, 1) := by decide +kernel
theorem dX7_part_29 : decode cX7_part 29 = .ok (.ldc 80, 2) := by decide +kernel
theorem dX7_part_31 : decode cX7_part 31 = .ok (.if_icmp .gt 16, 3) := by decide +kernel
theorem dX7_part_34 : decode cX7_part 34 = .ok (.iload 4, 2) := by decide +kernel
theorem dX7_part_36 : decode cX7_part 36 = .ok (.iconst 1, 1) := by decide +kernel
theorem dX7_part_37 : decode cX7_part 37 = .ok (.if_icmp .lt 10, 3) := by decide +kernel
theorem dX7_part_40 : decode cX7_part 40 = .ok (.iload 4, 2) := by decide +kernel
theorem dX7_part_42 : decode cX7_part 42 = .ok (.ldc 80, 2) := by decide +kernel
theorem dX7_part_44 : decode cX7_part 44 = .ok (.if_icmp .le 6, 3) := by decide +kernel
theorem dX7_part_47 : decode cX7_part 47 = .ok (.bipush (-2), 2) := by decide +kernel
theorem dX7_part_49 : decode cX7_part 49 = .ok (.ireturn, 1) := by decide +kernel
theorem dX7_part_50 : decode cX7_part 50 = .ok (.aload 5, 2) := by decide +kernel
theorem dX7_part_52 : decode cX7_part 52 = .ok (.iload_n 2, 1) := by decide +kernel
theorem dX7_part_53 : decode cX7_part 53 = .ok (.iload_n 3, 1) := by decide +kernel
theorem dX7_part_54 : decode cX7_part 54 = .ok (.iload 4, 2) := by decide +kernel
theorem dX7_part_56 : decode cX7_part 56 = .ok (.invokevirtual 165, 3) := by decide +kernel
theorem dX7_part_59 : decode cX7_part 59 = .ok (.ifCond .eq 11, 3) := by decide +kernel
theorem dX7_part_62 : decode cX7_part 62 = .ok (.aload 5, 2) := by decide +kernel
theorem dX7_part_64 : decode cX7_part 64 = .ok (.getfield 169, 3) := by decide +kernel
theorem dX7_part_67 : decode cX7_part 67 = .ok (.goto 5, 3) := by decide +kernel
theorem dX7_part_70 : decode cX7_part 70 = .ok (.bipush (-4), 2) := by decide +kernel
theorem dX7_part_72 : decode cX7_part 72 = .ok (.ireturn, 1) := by decide +kernel
theorem dX7_clear_0 : decode cX7_clear 0 = .ok (.aload_n 0, 1) := by decide +kernel
theorem dX7_clear_1 : decode cX7_clear 1 = .ok (.iload_n 1, 1) := by decide +kernel
theorem dX7_clear_2 : decode cX7_clear 2 = .ok (.invokevirtual 160, 3) := by decide +kernel
theorem dX7_clear_5 : decode cX7_clear 5 = .ok (.astore_n 2, 1) := by decide +kernel
theorem dX7_clear_6 : decode cX7_clear 6 = .ok (.aload_n 2, 1) := by decide +kernel
theorem dX7_clear_7 : decode cX7_clear 7 = .ok (.ifnonnull 5, 3) := by decide +kernel
theorem dX7_clear_10 : decode cX7_clear 10 = .ok (.iconst (-1), 1) := by decide +kernel
theorem dX7_clear_11 : decode cX7_clear 11 = .ok (.ireturn, 1) := by decide +kernel
theorem dX7_clear_12 : decode cX7_clear 12 = .ok (.aload_n 2, 1) := by decide +kernel
theorem dX7_clear_13 : decode cX7_clear 13 = .ok (.getfield 169, 3) := by decide +kernel
theorem dX7_clear_16 : decode cX7_clear 16 = .ok (.istore_n 3, 1) := by decide +kernel
theorem dX7_clear_17 : decode cX7_clear 17 = .ok (.aload_n 2, 1) := by decide +kernel
theorem dX7_clear_18 : decode cX7_clear 18 = .ok (.iconst 0, 1) := by decide +kernel
theorem dX7_clear_19 : decode cX7_clear 19 = .ok (.putfield 169, 3) := by decide +kernel
theorem dX7_clear_22 : decode cX7_clear 22 = .ok (.iload_n 3, 1) := by decide +kernel
theorem dX7_clear_23 : decode cX7_clear 23 = .ok (.ireturn, 1) := by decide +kernel
theorem dX7_told_0 : decode cX7_told 0 = .ok (.aload_n 0, 1) := by decide +kernel
theorem dX7_told_1 : decode cX7_told 1 = .ok (.iload_n 1, 1) := by decide +kernel
theorem dX7_told_2 : decode cX7_told 2 = .ok (.invokevirtual 160, 3) := by decide +kernel
theorem dX7_told_5 : decode cX7_told 5 = .ok (.astore 4, 2) := by decide +kernel
theorem dX7_told_7 : decode cX7_told 7 = .ok (.aload 4, 2) := by decide +kernel
theorem dX7_told_9 : decode cX7_told 9 = .ok (.ifnull 16, 3) := by decide +kernel
theorem dX7_told_12 : decode cX7_told 12 = .ok (.iload_n 2, 1) := by decide +kernel
theorem dX7_told_13 : decode cX7_told 13 = .ok (.ifCond .lt 12, 3) := by decide +kernel
theorem dX7_told_16 : decode cX7_told 16 = .ok (.iload_n 2, 1) := by decide +kernel
theorem dX7_told_17 : decode cX7_told 17 = .ok (.aload 4, 2) := by decide +kernel
theorem dX7_told_19 : decode cX7_told 19 = .ok (.getfield 169, 3) := by decide +kernel
theorem dX7_told_22 : decode cX7_told 22 = .ok (.if_icmp .lt 6, 3) := by decide +kernel
theorem dX7_told_25 : decode cX7_told 25 = .ok (.ldc 88, 2) := by decide +kernel
theorem dX7_told_27 : decode cX7_told 27 = .ok (.ireturn, 1) := by decide +kernel
theorem dX7_told_28 : decode cX7_told 28 = .ok (.iload_n 3, 1) := by decide +kernel
theorem dX7_told_29 : decode cX7_told 29 = .ok (.ifCond .lt 8, 3) := by decide +kernel
theorem dX7_told_32 : decode cX7_told 32 = .ok (.iload_n 3, 1) := by decide +kernel
theorem dX7_told_33 : decode cX7_told 33 = .ok (.iconst 2, 1) := by decide +kernel
theorem dX7_told_34 : decode cX7_told 34 = .ok (.if_icmp .le 6, 3) := by decide +kernel
theorem dX7_told_37 : decode cX7_told 37 = .ok (.ldc 89, 2) := by decide +kernel
theorem dX7_told_39 : decode cX7_told 39 = .ok (.ireturn, 1) := by decide +kernel
theorem dX7_told_40 : decode cX7_told 40 = .ok (.iload_n 3, 1) := by decide +kernel
theorem dX7_told_41 : decode cX7_told 41 = .ok (.ifCond .ne 13, 3) := by decide +kernel
theorem dX7_told_44 : decode cX7_told 44 = .ok (.aload 4, 2) := by decide +kernel
theorem dX7_told_46 : decode cX7_told 46 = .ok (.getfield 172, 3) := by decide +kernel
theorem dX7_told_49 : decode cX7_told 49 = .ok (.iload_n 2, 1) := by decide +kernel
theorem dX7_told_50 : decode cX7_told 50 = .ok (.iaload, 1) := by decide +kernel
theorem dX7_told_51 : decode cX7_told 51 = .ok (.goto 25, 3) := by decide +kernel
theorem dX7_told_54 : decode cX7_told 54 = .ok (.iload_n 3, 1) := by decide +kernel
theorem dX7_told_55 : decode cX7_told 55 = .ok (.iconst 1, 1) := by decide +kernel
theorem dX7_told_56 : decode cX7_told 56 = .ok (.if_icmp .ne 13, 3) := by decide +kernel
theorem dX7_told_59 : decode cX7_told 59 = .ok (.aload 4, 2) := by decide +kernel
theorem dX7_told_61 : decode cX7_told 61 = .ok (.getfield 176, 3) := by decide +kernel
theorem dX7_told_64 : decode cX7_told 64 = .ok (.iload_n 2, 1) := by decide +kernel
theorem dX7_told_65 : decode cX7_told 65 = .ok (.iaload, 1) := by decide +kernel
theorem dX7_told_66 : decode cX7_told 66 = .ok (.goto 10, 3) := by decide +kernel
theorem dX7_told_69 : decode cX7_told 69 = .ok (.aload 4, 2) := by decide +kernel
theorem dX7_told_71 : decode cX7_told 71 = .ok (.getfield 179, 3) := by decide +kernel
theorem dX7_told_74 : decode cX7_told 74 = .ok (.iload_n 2, 1) := by decide +kernel
theorem dX7_told_75 : decode cX7_told 75 = .ok (.iaload, 1) := by decide +kernel
theorem dX7_told_76 : decode cX7_told 76 = .ok (.ireturn, 1) := by decide +kernel
theorem dX7_figures_0 : decode cX7_figures 0 = .ok (.aload_n 0, 1) := by decide +kernel
theorem dX7_figures_1 : decode cX7_figures 1 = .ok (.iload_n 1, 1) := by decide +kernel
theorem dX7_figures_2 : decode cX7_figures 2 = .ok (.invokevirtual 160, 3) := by decide +kernel
theorem dX7_figures_5 : decode cX7_figures 5 = .ok (.astore 5, 2) := by decide +kernel
theorem dX7_figures_7 : decode cX7_figures 7 = .ok (.aload 5, 2) := by decide +kernel
theorem dX7_figures_9 : decode cX7_figures 9 = .ok (.ifnonnull 5, 3) := by decide +kernel
theorem dX7_figures_12 : decode cX7_figures 12 = .ok (.iconst (-1), 1) := by decide +kernel
theorem dX7_figures_13 : decode cX7_figures 13 = .ok (.ireturn, 1) := by decide +kernel
theorem dX7_figures_14 : decode cX7_figures 14 = .ok (.iload_n 2, 1) := by decide +kernel
theorem dX7_figures_15 : decode cX7_figures 15 = .ok (.iload_n 3, 1) := by decide +kernel
theorem dX7_figures_16 : decode cX7_figures 16 = .ok (.invokestatic 181, 3) := by decide +kernel
theorem dX7_figures_19 : decode cX7_figures 19 = .ok (.ifCond .eq 11, 3) := by decide +kernel
theorem dX7_figures_22 : decode cX7_figures 22 = .ok (.iload 4, 2) := by decide +kernel
theorem dX7_figures_24 : decode cX7_figures 24 = .ok (.invokestatic 185, 3) := by decide +kernel
theorem dX7_figures_27 : decode cX7_figures 27 = .ok (.ifCond .ne 6, 3) := by decide +kernel
theorem dX7_figures_30 : decode cX7_figures 30 = .ok (.bipush (-2), 2) := by decide +kernel
theorem dX7_figures_32 : decode cX7_figures 32 = .ok (.ireturn, 1) := by decide +kernel
theorem dX7_figures_33 : decode cX7_figures 33 = .ok (.aload_n 0, 1) := by decide +kernel
theorem dX7_figures_34 : decode cX7_figures 34 = .ok (.aload 5, 2) := by decide +kernel
theorem dX7_figures_36 : decode cX7_figures 36 = .ok (.iload 4, 2) := by decide +kernel
theorem dX7_figures_38 : decode cX7_figures 38 = .ok (.invokevirtual 188, 3) := by decide +kernel
theorem dX7_figures_41 : decode cX7_figures 41 = .ok (.istore 6, 2) := by decide +kernel
theorem dX7_figures_43 : decode cX7_figures 43 = .ok (.iload 6, 2) := by decide +kernel
theorem dX7_figures_45 : decode cX7_figures 45 = .ok (.bipush (-6), 2) := by decide +kernel
theorem dX7_figures_47 : decode cX7_figures 47 = .ok (.if_icmp .eq 9, 3) := by decide +kernel
theorem dX7_figures_50 : decode cX7_figures 50 = .ok (.bipush (-100), 2) := by decide +kernel
theorem dX7_figures_52 : decode cX7_figures 52 = .ok (.iload 6, 2) := by decide +kernel
theorem dX7_figures_54 : decode cX7_figures 54 = .ok (.isub, 1) := by decide +kernel
theorem dX7_figures_55 : decode cX7_figures 55 = .ok (.ireturn, 1) := by decide +kernel
theorem dX7_figures_56 : decode cX7_figures 56 = .ok (.aload_n 0, 1) := by decide +kernel
theorem dX7_figures_57 : decode cX7_figures 57 = .ok (.aload 5, 2) := by decide +kernel
theorem dX7_figures_59 : decode cX7_figures 59 = .ok (.iload_n 2, 1) := by decide +kernel
theorem dX7_figures_60 : decode cX7_figures 60 = .ok (.iload_n 3, 1) := by decide +kernel
theorem dX7_figures_61 : decode cX7_figures 61 = .ok (.iload 4, 2) := by decide +kernel
theorem dX7_figures_63 : decode cX7_figures 63 = .ok (.aload_n 0, 1) := by decide +kernel
theorem dX7_figures_64 : decode cX7_figures 64 = .ok (.getfield 49, 3) := by decide +kernel
theorem dX7_figures_67 : decode cX7_figures 67 = .ok (.invokevirtual 192, 3) := by decide +kernel
theorem dX7_figures_70 : decode cX7_figures 70 = .ok (.aload_n 0, 1) := by decide +kernel
theorem dX7_figures_71 : decode cX7_figures 71 = .ok (.getfield 49, 3) := by decide +kernel
theorem dX7_figures_74 : decode cX7_figures 74 = .ok (.iload_n 1, 1) := by decide +kernel
theorem dX7_figures_75 : decode cX7_figures 75 = .ok (.putfield 196, 3) := by decide +kernel
theorem dX7_figures_78 : decode cX7_figures 78 = .ok (.aload_n 0, 1) := by decide +kernel
theorem dX7_figures_79 : decode cX7_figures 79 = .ok (.iconst 1, 1) := by decide +kernel
theorem dX7_figures_80 : decode cX7_figures 80 = .ok (.putfield 199, 3) := by decide +kernel
theorem dX7_figures_83 : decode cX7_figures 83 = .ok (.aload_n 0, 1) := by decide +kernel
theorem dX7_figures_84 : decode cX7_figures 84 = .ok (.getfield 49, 3) := by decide +kernel
theorem dX7_figures_87 : decode cX7_figures 87 = .ok (.getfield 202, 3) := by decide +kernel
theorem dX7_figures_90 : decode cX7_figures 90 = .ok (.ireturn, 1) := by decide +kernel
theorem dX7_need_0 : decode cX7_need 0 = .ok (.aload_n 0, 1) := by decide +kernel
theorem dX7_need_1 : decode cX7_need 1 = .ok (.iload_n 1, 1) := by decide +kernel
theorem dX7_need_2 : decode cX7_need 2 = .ok (.invokevirtual 160, 3) := by decide +kernel
theorem dX7_need_5 : decode cX7_need 5 = .ok (.astore 4, 2) := by decide +kernel
theorem dX7_need_7 : decode cX7_need 7 = .ok (.aload 4, 2) := by decide +kernel
theorem dX7_need_9 : decode cX7_need 9 = .ok (.ifnonnull 5, 3) := by decide +kernel
theorem dX7_need_12 : decode cX7_need 12 = .ok (.iconst (-1), 1) := by decide +kernel
theorem dX7_need_13 : decode cX7_need 13 = .ok (.ireturn, 1) := by decide +kernel
theorem dX7_need_14 : decode cX7_need 14 = .ok (.iload_n 2, 1) := by decide +kernel
theorem dX7_need_15 : decode cX7_need 15 = .ok (.iload_n 3, 1) := by decide +kernel
theorem dX7_need_16 : decode cX7_need 16 = .ok (.invokestatic 181, 3) := by decide +kernel
theorem dX7_need_19 : decode cX7_need 19 = .ok (.ifCond .ne 6, 3) := by decide +kernel
theorem dX7_need_22 : decode cX7_need 22 = .ok (.bipush (-2), 2) := by decide +kernel
theorem dX7_need_24 : decode cX7_need 24 = .ok (.ireturn, 1) := by decide +kernel
theorem dX7_need_25 : decode cX7_need 25 = .ok (.aload_n 0, 1) := by decide +kernel
theorem dX7_need_26 : decode cX7_need 26 = .ok (.aload 4, 2) := by decide +kernel
theorem dX7_need_28 : decode cX7_need 28 = .ok (.invokevirtual 205, 3) := by decide +kernel
theorem dX7_need_31 : decode cX7_need 31 = .ok (.istore 5, 2) := by decide +kernel
theorem dX7_need_33 : decode cX7_need 33 = .ok (.iconst 1, 1) := by decide +kernel
theorem dX7_need_34 : decode cX7_need 34 = .ok (.istore 6, 2) := by decide +kernel
theorem dX7_need_36 : decode cX7_need 36 = .ok (.iload 5, 2) := by decide +kernel
theorem dX7_need_38 : decode cX7_need 38 = .ok (.iconst 1, 1) := by decide +kernel
theorem dX7_need_39 : decode cX7_need 39 = .ok (.iadd, 1) := by decide +kernel
theorem dX7_need_40 : decode cX7_need 40 = .ok (.istore 7, 2) := by decide +kernel
theorem dX7_need_42 : decode cX7_need 42 = .ok (.iconst 0, 1) := by decide +kernel
theorem dX7_need_43 : decode cX7_need 43 = .ok (.istore 8, 2) := by decide +kernel
theorem dX7_need_45 : decode cX7_need 45 = .ok (.iload 6, 2) := by decide +kernel
theorem dX7_need_47 : decode cX7_need 47 = .ok (.iload 7, 2) := by decide +kernel
theorem dX7_need_49 : decode cX7_need 49 = .ok (.if_icmp .ge 63, 3) := by decide +kernel
theorem dX7_need_52 : decode cX7_need 52 = .ok (.iload 8, 2) := by decide +kernel
theorem dX7_need_54 : decode cX7_need 54 = .ok (.bipush 8, 2) := by decide +kernel
theorem dX7_need_56 : decode cX7_need 56 = .ok (.if_icmp .ge 56, 3) := by decide +kernel
theorem dX7_need_59 : decode cX7_need 59 = .ok (.iload 6, 2) := by decide +kernel
theorem dX7_need_61 : decode cX7_need 61 = .ok (.iload 7, 2) := by decide +kernel
theorem dX7_need_63 : decode cX7_need 63 = .ok (.iadd, 1) := by decide +kernel
theorem dX7_need_64 : decode cX7_need 64 = .ok (.iconst 2, 1) := by decide +kernel
theorem dX7_need_65 : decode cX7_need 65 = .ok (.idiv, 1) := by decide +kernel
theorem dX7_need_66 : decode cX7_need 66 = .ok (.istore 9, 2) := by decide +kernel
theorem dX7_need_68 : decode cX7_need 68 = .ok (.aload_n 0, 1) := by decide +kernel
theorem dX7_need_69 : decode cX7_need 69 = .ok (.aload 4, 2) := by decide +kernel
theorem dX7_need_71 : decode cX7_need 71 = .ok (.iload_n 2, 1) := by decide +kernel
theorem dX7_need_72 : decode cX7_need 72 = .ok (.iload_n 3, 1) := by decide +kernel
theorem dX7_need_73 : decode cX7_need 73 = .ok (.iload 9, 2) := by decide +kernel
theorem dX7_need_75 : decode cX7_need 75 = .ok (.aload_n 0, 1) := by decide +kernel
theorem dX7_need_76 : decode cX7_need 76 = .ok (.getfield 53, 3) := by decide +kernel
theorem dX7_need_79 : decode cX7_need 79 = .ok (.invokevirtual 192, 3) := by decide +kernel
theorem dX7_need_82 : decode cX7_need 82 = .ok (.aload_n 0, 1) := by decide +kernel
theorem dX7_need_83 : decode cX7_need 83 = .ok (.getfield 53, 3) := by decide +kernel
theorem dX7_need_86 : decode cX7_need 86 = .ok (.getfield 202, 3) := by decide +kernel
theorem dX7_need_89 : decode cX7_need 89 = .ok (.iload_n 3, 1) := by decide +kernel
theorem dX7_need_90 : decode cX7_need 90 = .ok (.if_icmp .lt 10, 3) := by decide +kernel
theorem dX7_need_93 : decode cX7_need 93 = .ok (.iload 9, 2) := by decide +kernel
theorem dX7_need_95 : decode cX7_need 95 = .ok (.istore 7, 2) := by decide +kernel
theorem dX7_need_97 : decode cX7_need 97 = .ok (.goto 9, 3) := by decide +kernel
theorem dX7_need_100 : decode cX7_need 100 = .ok (.iload 9, 2) := by decide +kernel
theorem dX7_need_102 : decode cX7_need 102 = .ok (.iconst 1, 1) := by decide +kernel
theorem dX7_need_103 : decode cX7_need 103 = .ok (.iadd, 1) := by decide +kernel
theorem dX7_need_104 : decode cX7_need 104 = .ok (.istore 6, 2) := by decide +kernel
theorem dX7_need_106 : decode cX7_need 106 = .ok (.iinc 8 1, 3) := by decide +kernel
theorem dX7_need_109 : decode cX7_need 109 = .ok (.goto (-64), 3) := by decide +kernel
theorem dX7_need_112 : decode cX7_need 112 = .ok (.iload 6, 2) := by decide +kernel
theorem dX7_need_114 : decode cX7_need 114 = .ok (.iload 5, 2) := by decide +kernel
theorem dX7_need_116 : decode cX7_need 116 = .ok (.if_icmp .gt 8, 3) := by decide +kernel
theorem dX7_need_119 : decode cX7_need 119 = .ok (.iload 6, 2) := by decide +kernel
theorem dX7_need_121 : decode cX7_need 121 = .ok (.goto 5, 3) := by decide +kernel
theorem dX7_need_124 : decode cX7_need 124 = .ok (.bipush (-5), 2) := by decide +kernel
theorem dX7_need_126 : decode cX7_need 126 = .ok (.ireturn, 1) := by decide +kernel
theorem dX7_signOf_0 : decode cX7_signOf 0 = .ok (.aload_n 0, 1) := by decide +kernel
theorem dX7_signOf_1 : decode cX7_signOf 1 = .ok (.getfield 49, 3) := by decide +kernel
theorem dX7_signOf_4 : decode cX7_signOf 4 = .ok (.getfield 209, 3) := by decide +kernel
theorem dX7_signOf_7 : decode cX7_signOf 7 = .ok (.ireturn, 1) := by decide +kernel
theorem dX7_whole_0 : decode cX7_whole 0 = .ok (.aload_n 0, 1) := by decide +kernel
theorem dX7_whole_1 : decode cX7_whole 1 = .ok (.getfield 49, 3) := by decide +kernel
theorem dX7_whole_4 : decode cX7_whole 4 = .ok (.getfield 212, 3) := by decide +kernel
theorem dX7_whole_7 : decode cX7_whole 7 = .ok (.lreturn, 1) := by decide +kernel
theorem dX7_figure_0 : decode cX7_figure 0 = .ok (.aload_n 0, 1) := by decide +kernel
theorem dX7_figure_1 : decode cX7_figure 1 = .ok (.getfield 49, 3) := by decide +kernel
theorem dX7_figure_4 : decode cX7_figure 4 = .ok (.iload_n 1, 1) := by decide +kernel
theorem dX7_figure_5 : decode cX7_figure 5 = .ok (.invokevirtual 216, 3) := by decide +kernel
theorem dX7_figure_8 : decode cX7_figure 8 = .ok (.ireturn, 1) := by decide +kernel
theorem dX7_count_0 : decode cX7_count 0 = .ok (.iload_n 1, 1) := by decide +kernel
theorem dX7_count_1 : decode cX7_count 1 = .ok (.ifCond .lt 9, 3) := by decide +kernel
theorem dX7_count_4 : decode cX7_count 4 = .ok (.iload_n 1, 1) := by decide +kernel
theorem dX7_count_5 : decode cX7_count 5 = .ok (.bipush 36, 2) := by decide +kernel
theorem dX7_count_7 : decode cX7_count 7 = .ok (.if_icmp .lt 6, 3) := by decide +kernel
theorem dX7_count_10 : decode cX7_count 10 = .ok (.bipush (-2), 2) := by decide +kernel
theorem dX7_count_12 : decode cX7_count 12 = .ok (.ireturn, 1) := by decide +kernel
theorem dX7_count_13 : decode cX7_count 13 = .ok (.aload_n 0, 1) := by decide +kernel
theorem dX7_count_14 : decode cX7_count 14 = .ok (.getfield 49, 3) := by decide +kernel
theorem dX7_count_17 : decode cX7_count 17 = .ok (.iload_n 1, 1) := by decide +kernel
theorem dX7_count_18 : decode cX7_count 18 = .ok (.invokevirtual 219, 3) := by decide +kernel
theorem dX7_count_21 : decode cX7_count 21 = .ok (.ireturn, 1) := by decide +kernel
theorem dX7_where_0 : decode cX7_where 0 = .ok (.iload_n 2, 1) := by decide +kernel
theorem dX7_where_1 : decode cX7_where 1 = .ok (.iconst 1, 1) := by decide +kernel
theorem dX7_where_2 : decode cX7_where 2 = .ok (.if_icmp .lt 8, 3) := by decide +kernel
theorem dX7_where_5 : decode cX7_where 5 = .ok (.iload_n 2, 1) := by decide +kernel
theorem dX7_where_6 : decode cX7_where 6 = .ok (.iconst 5, 1) := by decide +kernel
theorem dX7_where_7 : decode cX7_where 7 = .ok (.if_icmp .le 6, 3) := by decide +kernel
theorem dX7_where_10 : decode cX7_where 10 = .ok (.bipush (-2), 2) := by decide +kernel
theorem dX7_where_12 : decode cX7_where 12 = .ok (.ireturn, 1) := by decide +kernel
theorem dX7_where_13 : decode cX7_where 13 = .ok (.aload_n 0, 1) := by decide +kernel
theorem dX7_where_14 : decode cX7_where 14 = .ok (.getfield 49, 3) := by decide +kernel
theorem dX7_where_17 : decode cX7_where 17 = .ok (.iload_n 1, 1) := by decide +kernel
theorem dX7_where_18 : decode cX7_where 18 = .ok (.iload_n 2, 1) := by decide +kernel
theorem dX7_where_19 : decode cX7_where 19 = .ok (.invokevirtual 222, 3) := by decide +kernel
theorem dX7_where_22 : decode cX7_where 22 = .ok (.ireturn, 1) := by decide +kernel
theorem dX7_about_0 : decode cX7_about 0 = .ok (.iload_n 1, 1) := by decide +kernel
theorem dX7_about_1 : decode cX7_about 1 = .ok (.ifCond .lt 8, 3) := by decide +kernel
theorem dX7_about_4 : decode cX7_about 4 = .ok (.iload_n 1, 1) := by decide +kernel
theorem dX7_about_5 : decode cX7_about 5 = .ok (.iconst 4, 1) := by decide +kernel
theorem dX7_about_6 : decode cX7_about 6 = .ok (.if_icmp .le 6, 3) := by decide +kernel
theorem dX7_about_9 : decode cX7_about 9 = .ok (.bipush (-2), 2) := by decide +kernel
theorem dX7_about_11 : decode cX7_about 11 = .ok (.ireturn, 1) := by decide +kernel
theorem dX7_about_12 : decode cX7_about 12 = .ok (.aload_n 0, 1) := by decide +kernel
theorem dX7_about_13 : decode cX7_about 13 = .ok (.getfield 199, 3) := by decide +kernel
theorem dX7_about_16 : decode cX7_about 16 = .ok (.ifCond .ne 6, 3) := by decide +kernel
theorem dX7_about_19 : decode cX7_about 19 = .ok (.bipush (-3), 2) := by decide +kernel
theorem dX7_about_21 : decode cX7_about 21 = .ok (.ireturn, 1) := by decide +kernel
theorem dX7_about_22 : decode cX7_about 22 = .ok (.iload_n 1, 1) := by decide +kernel
theorem dX7_about_23 : decode cX7_about 23 = .ok (.tableswitch 61 0 3 #[29, 37, 45, 53], 29) := by decide +kernel
theorem dX7_about_52 : decode cX7_about 52 = .ok (.aload_n 0, 1) := by decide +kernel
theorem dX7_about_53 : decode cX7_about 53 = .ok (.getfield 49, 3) := by decide +kernel
theorem dX7_about_56 : decode cX7_about 56 = .ok (.getfield 196, 3) := by decide +kernel
theorem dX7_about_59 : decode cX7_about 59 = .ok (.ireturn, 1) := by decide +kernel
theorem dX7_about_60 : decode cX7_about 60 = .ok (.aload_n 0, 1) := by decide +kernel
theorem dX7_about_61 : decode cX7_about 61 = .ok (.getfield 49, 3) := by decide +kernel
theorem dX7_about_64 : decode cX7_about 64 = .ok (.getfield 225, 3) := by decide +kernel
theorem dX7_about_67 : decode cX7_about 67 = .ok (.ireturn, 1) := by decide +kernel
theorem dX7_about_68 : decode cX7_about 68 = .ok (.aload_n 0, 1) := by decide +kernel
theorem dX7_about_69 : decode cX7_about 69 = .ok (.getfield 49, 3) := by decide +kernel
theorem dX7_about_72 : decode cX7_about 72 = .ok (.getfield 228, 3) := by decide +kernel
theorem dX7_about_75 : decode cX7_about 75 = .ok (.ireturn, 1) := by decide +kernel
theorem dX7_about_76 : decode cX7_about 76 = .ok (.aload_n 0, 1) := by decide +kernel
theorem dX7_about_77 : decode cX7_about 77 = .ok (.getfield 49, 3) := by decide +kernel
theorem dX7_about_80 : decode cX7_about 80 = .ok (.getfield 231, 3) := by decide +kernel
theorem dX7_about_83 : decode cX7_about 83 = .ok (.ireturn, 1) := by decide +kernel
theorem dX7_about_84 : decode cX7_about 84 = .ok (.aload_n 0, 1) := by decide +kernel
theorem dX7_about_85 : decode cX7_about 85 = .ok (.getfield 49, 3) := by decide +kernel
theorem dX7_about_88 : decode cX7_about 88 = .ok (.getfield 202, 3) := by decide +kernel
theorem dX7_about_91 : decode cX7_about 91 = .ok (.ireturn, 1) := by decide +kernel
theorem dX7_agree_0 : decode cX7_agree 0 = .ok (.aload_n 0, 1) := by decide +kernel
theorem dX7_agree_1 : decode cX7_agree 1 = .ok (.iload_n 1, 1) := by decide +kernel
theorem dX7_agree_2 : decode cX7_agree 2 = .ok (.invokevirtual 160, 3) := by decide +kernel
theorem dX7_agree_5 : decode cX7_agree 5 = .ok (.astore 6, 2) := by decide +kernel
theorem dX7_agree_7 : decode cX7_agree 7 = .ok (.aload_n 0, 1) := by decide +kernel
theorem dX7_agree_8 : decode cX7_agree 8 = .ok (.iload_n 2, 1) := by decide +kernel
theorem dX7_agree_9 : decode cX7_agree 9 = .ok (.invokevirtual 160, 3) := by decide +kernel
theorem dX7_agree_12 : decode cX7_agree 12 = .ok (.astore 7, 2) := by decide +kernel
theorem dX7_agree_14 : decode cX7_agree 14 = .ok (.aload 6, 2) := by decide +kernel
theorem dX7_agree_16 : decode cX7_agree 16 = .ok (.ifnull 8, 3) := by decide +kernel
theorem dX7_agree_19 : decode cX7_agree 19 = .ok (.aload 7, 2) := by decide +kernel
theorem dX7_agree_21 : decode cX7_agree 21 = .ok (.ifnonnull 5, 3) := by decide +kernel
theorem dX7_agree_24 : decode cX7_agree 24 = .ok (.iconst (-1), 1) := by decide +kernel
theorem dX7_agree_25 : decode cX7_agree 25 = .ok (.ireturn, 1) := by decide +kernel
theorem dX7_agree_26 : decode cX7_agree 26 = .ok (.iload_n 3, 1) := by decide +kernel
theorem dX7_agree_27 : decode cX7_agree 27 = .ok (.iload 4, 2) := by decide +kernel
theorem dX7_agree_29 : decode cX7_agree 29 = .ok (.invokestatic 181, 3) := by decide +kernel
theorem dX7_agree_32 : decode cX7_agree 32 = .ok (.ifCond .eq 11, 3) := by decide +kernel
theorem dX7_agree_35 : decode cX7_agree 35 = .ok (.iload 5, 2) := by decide +kernel
theorem dX7_agree_37 : decode cX7_agree 37 = .ok (.invokestatic 185, 3) := by decide +kernel
theorem dX7_agree_40 : decode cX7_agree 40 = .ok (.ifCond .ne 6, 3) := by decide +kernel
theorem dX7_agree_43 : decode cX7_agree 43 = .ok (.bipush (-2), 2) := by decide +kernel
theorem dX7_agree_45 : decode cX7_agree 45 = .ok (.ireturn, 1) := by decide +kernel
theorem dX7_agree_46 : decode cX7_agree 46 = .ok (.aload_n 0, 1) := by decide +kernel
theorem dX7_agree_47 : decode cX7_agree 47 = .ok (.aload 6, 2) := by decide +kernel
theorem dX7_agree_49 : decode cX7_agree 49 = .ok (.iload 5, 2) := by decide +kernel
theorem dX7_agree_51 : decode cX7_agree 51 = .ok (.invokevirtual 188, 3) := by decide +kernel
theorem dX7_agree_54 : decode cX7_agree 54 = .ok (.istore 8, 2) := by decide +kernel
theorem dX7_agree_56 : decode cX7_agree 56 = .ok (.iload 8, 2) := by decide +kernel
theorem dX7_agree_58 : decode cX7_agree 58 = .ok (.bipush (-6), 2) := by decide +kernel
theorem dX7_agree_60 : decode cX7_agree 60 = .ok (.if_icmp .ne 13, 3) := by decide +kernel
theorem dX7_agree_63 : decode cX7_agree 63 = .ok (.aload_n 0, 1) := by decide +kernel
theorem dX7_agree_64 : decode cX7_agree 64 = .ok (.aload 7, 2) := by decide +kernel
theorem dX7_agree_66 : decode cX7_agree 66 = .ok (.iload 5, 2) := by decide +kernel
theorem dX7_agree_68 : decode cX7_agree 68 = .ok (.invokevirtual 188, 3) := by decide +kernel
theorem dX7_agree_71 : decode cX7_agree 71 = .ok (.istore 8, 2) := by decide +kernel
theorem dX7_agree_73 : decode cX7_agree 73 = .ok (.iload 8, 2) := by decide +kernel
theorem dX7_agree_75 : decode cX7_agree 75 = .ok (.bipush (-6), 2) := by decide +kernel
theorem dX7_agree_77 : decode cX7_agree 77 = .ok (.if_icmp .eq 9, 3) := by decide +kernel
theorem dX7_agree_80 : decode cX7_agree 80 = .ok (.bipush (-100), 2) := by decide +kernel
theorem dX7_agree_82 : decode cX7_agree 82 = .ok (.iload 8, 2) := by decide +kernel
theorem dX7_agree_84 : decode cX7_agree 84 = .ok (.isub, 1) := by decide +kernel
theorem dX7_agree_85 : decode cX7_agree 85 = .ok (.ireturn, 1) := by decide +kernel
theorem dX7_agree_86 : decode cX7_agree 86 = .ok (.aload_n 0, 1) := by decide +kernel
theorem dX7_agree_87 : decode cX7_agree 87 = .ok (.aload 6, 2) := by decide +kernel
theorem dX7_agree_89 : decode cX7_agree 89 = .ok (.iload_n 3, 1) := by decide +kernel
theorem dX7_agree_90 : decode cX7_agree 90 = .ok (.iload 4, 2) := by decide +kernel
theorem dX7_agree_92 : decode cX7_agree 92 = .ok (.iload 5, 2) := by decide +kernel
theorem dX7_agree_94 : decode cX7_agree 94 = .ok (.aload_n 0, 1) := by decide +kernel
theorem dX7_agree_95 : decode cX7_agree 95 = .ok (.getfield 53, 3) := by decide +kernel
theorem dX7_agree_98 : decode cX7_agree 98 = .ok (.invokevirtual 192, 3) := by decide +kernel
theorem dX7_agree_101 : decode cX7_agree 101 = .ok (.aload_n 0, 1) := by decide +kernel
theorem dX7_agree_102 : decode cX7_agree 102 = .ok (.aload 7, 2) := by decide +kernel
theorem dX7_agree_104 : decode cX7_agree 104 = .ok (.iload_n 3, 1) := by decide +kernel
theorem dX7_agree_105 : decode cX7_agree 105 = .ok (.iload 4, 2) := by decide +kernel
theorem dX7_agree_107 : decode cX7_agree 107 = .ok (.iload 5, 2) := by decide +kernel
theorem dX7_agree_109 : decode cX7_agree 109 = .ok (.aload_n 0, 1) := by decide +kernel
theorem dX7_agree_110 : decode cX7_agree 110 = .ok (.getfield 56, 3) := by decide +kernel
theorem dX7_agree_113 : decode cX7_agree 113 = .ok (.invokevirtual 192, 3) := by decide +kernel
theorem dX7_agree_116 : decode cX7_agree 116 = .ok (.aload_n 0, 1) := by decide +kernel
theorem dX7_agree_117 : decode cX7_agree 117 = .ok (.getfield 53, 3) := by decide +kernel
theorem dX7_agree_120 : decode cX7_agree 120 = .ok (.aload_n 0, 1) := by decide +kernel
theorem dX7_agree_121 : decode cX7_agree 121 = .ok (.getfield 56, 3) := by decide +kernel
theorem dX7_agree_124 : decode cX7_agree 124 = .ok (.invokevirtual 233, 3) := by decide +kernel
theorem dX7_agree_127 : decode cX7_agree 127 = .ok (.ireturn, 1) := by decide +kernel
theorem dX7_sumAt_0 : decode cX7_sumAt 0 = .ok (.iload_n 1, 1) := by decide +kernel
theorem dX7_sumAt_1 : decode cX7_sumAt 1 = .ok (.ifCond .lt 12, 3) := by decide +kernel
theorem dX7_sumAt_4 : decode cX7_sumAt 4 = .ok (.iload_n 1, 1) := by decide +kernel
theorem dX7_sumAt_5 : decode cX7_sumAt 5 = .ok (.aload_n 0, 1) := by decide +kernel
theorem dX7_sumAt_6 : decode cX7_sumAt 6 = .ok (.getfield 11, 3) := by decide +kernel
theorem dX7_sumAt_9 : decode cX7_sumAt 9 = .ok (.arraylength, 1) := by decide +kernel
theorem dX7_sumAt_10 : decode cX7_sumAt 10 = .ok (.if_icmp .lt 7, 3) := by decide +kernel
theorem dX7_sumAt_13 : decode cX7_sumAt 13 = .ok (.aconst_null, 1) := by decide +kernel
theorem dX7_sumAt_14 : decode cX7_sumAt 14 = .ok (.goto 9, 3) := by decide +kernel
theorem dX7_sumAt_17 : decode cX7_sumAt 17 = .ok (.aload_n 0, 1) := by decide +kernel
theorem dX7_sumAt_18 : decode cX7_sumAt 18 = .ok (.getfield 11, 3) := by decide +kernel
theorem dX7_sumAt_21 : decode cX7_sumAt 21 = .ok (.iload_n 1, 1) := by decide +kernel
theorem dX7_sumAt_22 : decode cX7_sumAt 22 = .ok (.aaload, 1) := by decide +kernel
theorem dX7_sumAt_23 : decode cX7_sumAt 23 = .ok (.areturn, 1) := by decide +kernel
theorem dX7_drawerAt_0 : decode cX7_drawerAt 0 = .ok (.iload_n 1, 1) := by decide +kernel
theorem dX7_drawerAt_1 : decode cX7_drawerAt 1 = .ok (.ifCond .lt 12, 3) := by decide +kernel
theorem dX7_drawerAt_4 : decode cX7_drawerAt 4 = .ok (.iload_n 1, 1) := by decide +kernel
theorem dX7_drawerAt_5 : decode cX7_drawerAt 5 = .ok (.aload_n 0, 1) := by decide +kernel
theorem dX7_drawerAt_6 : decode cX7_drawerAt 6 = .ok (.getfield 17, 3) := by decide +kernel
theorem dX7_drawerAt_9 : decode cX7_drawerAt 9 = .ok (.arraylength, 1) := by decide +kernel
theorem dX7_drawerAt_10 : decode cX7_drawerAt 10 = .ok (.if_icmp .lt 7, 3) := by decide +kernel
theorem dX7_drawerAt_13 : decode cX7_drawerAt 13 = .ok (.aconst_null, 1) := by decide +kernel
theorem dX7_drawerAt_14 : decode cX7_drawerAt 14 = .ok (.goto 9, 3) := by decide +kernel
theorem dX7_drawerAt_17 : decode cX7_drawerAt 17 = .ok (.aload_n 0, 1) := by decide +kernel
theorem dX7_drawerAt_18 : decode cX7_drawerAt 18 = .ok (.getfield 17, 3) := by decide +kernel
theorem dX7_drawerAt_21 : decode cX7_drawerAt 21 = .ok (.iload_n 1, 1) := by decide +kernel
theorem dX7_drawerAt_22 : decode cX7_drawerAt 22 = .ok (.aaload, 1) := by decide +kernel
theorem dX7_drawerAt_23 : decode cX7_drawerAt 23 = .ok (.areturn, 1) := by decide +kernel
theorem dX7_constantAt_0 : decode cX7_constantAt 0 = .ok (.iload_n 1, 1) := by decide +kernel
theorem dX7_constantAt_1 : decode cX7_constantAt 1 = .ok (.ifCond .lt 12, 3) := by decide +kernel
theorem dX7_constantAt_4 : decode cX7_constantAt 4 = .ok (.iload_n 1, 1) := by decide +kernel
theorem dX7_constantAt_5 : decode cX7_constantAt 5 = .ok (.aload_n 0, 1) := by decide +kernel
theorem dX7_constantAt_6 : decode cX7_constantAt 6 = .ok (.getfield 23, 3) := by decide +kernel
theorem dX7_constantAt_9 : decode cX7_constantAt 9 = .ok (.arraylength, 1) := by decide +kernel
theorem dX7_constantAt_10 : decode cX7_constantAt 10 = .ok (.if_icmp .lt 7, 3) := by decide +kernel
theorem dX7_constantAt_13 : decode cX7_constantAt 13 = .ok (.aconst_null, 1) := by decide +kernel
theorem dX7_constantAt_14 : decode cX7_constantAt 14 = .ok (.goto 9, 3) := by decide +kernel
theorem dX7_constantAt_17 : decode cX7_constantAt 17 = .ok (.aload_n 0, 1) := by decide +kernel
theorem dX7_constantAt_18 : decode cX7_constantAt 18 = .ok (.getfield 23, 3) := by decide +kernel
theorem dX7_constantAt_21 : decode cX7_constantAt 21 = .ok (.iload_n 1, 1) := by decide +kernel
theorem dX7_constantAt_22 : decode cX7_constantAt 22 = .ok (.aaload, 1) := by decide +kernel
theorem dX7_constantAt_23 : decode cX7_constantAt 23 = .ok (.areturn, 1) := by decide +kernel
theorem dX7_isRule_0 : decode cX7_isRule 0 = .ok (.iload_n 0, 1) := by decide +kernel
theorem dX7_isRule_1 : decode cX7_isRule 1 = .ok (.ifCond .lt 12, 3) := by decide +kernel
theorem dX7_isRule_4 : decode cX7_isRule 4 = .ok (.iload_n 0, 1) := by decide +kernel
theorem dX7_isRule_5 : decode cX7_isRule 5 = .ok (.iconst 4, 1) := by decide +kernel
theorem dX7_isRule_6 : decode cX7_isRule 6 = .ok (.if_icmp .ge 7, 3) := by decide +kernel
theorem dX7_isRule_9 : decode cX7_isRule 9 = .ok (.iconst 1, 1) := by decide +kernel
theorem dX7_isRule_10 : decode cX7_isRule 10 = .ok (.goto 4, 3) := by decide +kernel
theorem dX7_isRule_13 : decode cX7_isRule 13 = .ok (.iconst 0, 1) := by decide +kernel
theorem dX7_isRule_14 : decode cX7_isRule 14 = .ok (.ireturn, 1) := by decide +kernel
theorem dX7_isCoefficient_0 : decode cX7_isCoefficient 0 = .ok (.iload_n 0, 1) := by decide +kernel
theorem dX7_isCoefficient_1 : decode cX7_isCoefficient 1 = .ok (.sipush (-999), 3) := by decide +kernel
theorem dX7_isCoefficient_4 : decode cX7_isCoefficient 4 = .ok (.if_icmp .lt 14, 3) := by decide +kernel
theorem dX7_isCoefficient_7 : decode cX7_isCoefficient 7 = .ok (.iload_n 0, 1) := by decide +kernel
theorem dX7_isCoefficient_8 : decode cX7_isCoefficient 8 = .ok (.sipush 999, 3) := by decide +kernel
theorem dX7_isCoefficient_11 : decode cX7_isCoefficient 11 = .ok (.if_icmp .gt 7, 3) := by decide +kernel
theorem dX7_isCoefficient_14 : decode cX7_isCoefficient 14 = .ok (.iconst 1, 1) := by decide +kernel
theorem dX7_isCoefficient_15 : decode cX7_isCoefficient 15 = .ok (.goto 4, 3) := by decide +kernel
theorem dX7_isCoefficient_18 : decode cX7_isCoefficient 18 = .ok (.iconst 0, 1) := by decide +kernel
theorem dX7_isCoefficient_19 : decode cX7_isCoefficient 19 = .ok (.ireturn, 1) := by decide +kernel
theorem dX7_areFigures_0 : decode cX7_areFigures 0 = .ok (.iload_n 0, 1) := by decide +kernel
theorem dX7_areFigures_1 : decode cX7_areFigures 1 = .ok (.iconst 2, 1) := by decide +kernel
theorem dX7_areFigures_2 : decode cX7_areFigures 2 = .ok (.if_icmp .lt 23, 3) := by decide +kernel
theorem dX7_areFigures_5 : decode cX7_areFigures 5 = .ok (.iload_n 0, 1) := by decide +kernel
theorem dX7_areFigures_6 : decode cX7_areFigures 6 = .ok (.bipush 36, 2) := by decide +kernel
theorem dX7_areFigures_8 : decode cX7_areFigures 8 = .ok (.if_icmp .gt 17, 3) := by decide +kernel
theorem dX7_areFigures_11 : decode cX7_areFigures 11 = .ok (.iload_n 1, 1) := by decide +kernel
theorem dX7_areFigures_12 : decode cX7_areFigures 12 = .ok (.ifCond .lt 13, 3) := by decide +kernel
theorem dX7_areFigures_15 : decode cX7_areFigures 15 = .ok (.iload_n 1, 1) := by decide +kernel
theorem dX7_areFigures_16 : decode cX7_areFigures 16 = .ok (.bipush 100, 2) := by decide +kernel
theorem dX7_areFigures_18 : decode cX7_areFigures 18 = .ok (.if_icmp .gt 7, 3) := by decide +kernel
theorem dX7_areFigures_21 : decode cX7_areFigures 21 = .ok (.iconst 1, 1) := by decide +kernel
theorem dX7_areFigures_22 : decode cX7_areFigures 22 = .ok (.goto 4, 3) := by decide +kernel
theorem dX7_areFigures_25 : decode cX7_areFigures 25 = .ok (.iconst 0, 1) := by decide +kernel
theorem dX7_areFigures_26 : decode cX7_areFigures 26 = .ok (.ireturn, 1) := by decide +kernel
theorem dX7_areTerms_0 : decode cX7_areTerms 0 = .ok (.iload_n 0, 1) := by decide +kernel
theorem dX7_areTerms_1 : decode cX7_areTerms 1 = .ok (.iconst 1, 1) := by decide +kernel
theorem dX7_areTerms_2 : decode cX7_areTerms 2 = .ok (.if_icmp .lt 13, 3) := by decide +kernel
theorem dX7_areTerms_5 : decode cX7_areTerms 5 = .ok (.iload_n 0, 1) := by decide +kernel
theorem dX7_areTerms_6 : decode cX7_areTerms 6 = .ok (.bipush 100, 2) := by decide +kernel
theorem dX7_areTerms_8 : decode cX7_areTerms 8 = .ok (.if_icmp .gt 7, 3) := by decide +kernel
theorem dX7_areTerms_11 : decode cX7_areTerms 11 = .ok (.iconst 1, 1) := by decide +kernel
theorem dX7_areTerms_12 : decode cX7_areTerms 12 = .ok (.goto 4, 3) := by decide +kernel
theorem dX7_areTerms_15 : decode cX7_areTerms 15 = .ok (.iconst 0, 1) := by decide +kernel
theorem dX7_areTerms_16 : decode cX7_areTerms 16 = .ok (.ireturn, 1) := by decide +kernel
theorem dX7_emptyDrawersOf_0 : decode cX7_emptyDrawersOf 0 = .ok (.iconst 0, 1) := by decide +kernel
theorem dX7_emptyDrawersOf_1 : decode cX7_emptyDrawersOf 1 = .ok (.istore_n 2, 1) := by decide +kernel
theorem dX7_emptyDrawersOf_2 : decode cX7_emptyDrawersOf 2 = .ok (.aload_n 0, 1) := by decide +kernel
theorem dX7_emptyDrawersOf_3 : decode cX7_emptyDrawersOf 3 = .ok (.getfield 17, 3) := by decide +kernel
theorem dX7_emptyDrawersOf_6 : decode cX7_emptyDrawersOf 6 = .ok (.astore_n 3, 1) := by decide +kernel
theorem dX7_emptyDrawersOf_7 : decode cX7_emptyDrawersOf 7 = .ok (.aload_n 3, 1) := by decide +kernel
theorem dX7_emptyDrawersOf_8 : decode cX7_emptyDrawersOf 8 = .ok (.arraylength, 1) := by decide +kernel
theorem dX7_emptyDrawersOf_9 : decode cX7_emptyDrawersOf 9 = .ok (.istore 4, 2) := by decide +kernel
theorem dX7_emptyDrawersOf_11 : decode cX7_emptyDrawersOf 11 = .ok (.iconst 0, 1) := by decide +kernel
theorem dX7_emptyDrawersOf_12 : decode cX7_emptyDrawersOf 12 = .ok (.istore 5, 2) := by decide +kernel
theorem dX7_emptyDrawersOf_14 : decode cX7_emptyDrawersOf 14 = .ok (.iload 5, 2) := by decide +kernel
theorem dX7_emptyDrawersOf_16 : decode cX7_emptyDrawersOf 16 = .ok (.iload 4, 2) := by decide +kernel
theorem dX7_emptyDrawersOf_18 : decode cX7_emptyDrawersOf 18 = .ok (.if_icmp .ge 46, 3) := by decide +kernel
theorem dX7_emptyDrawersOf_21 : decode cX7_emptyDrawersOf 21 = .ok (.aload_n 3, 1) := by decide +kernel
theorem dX7_emptyDrawersOf_22 : decode cX7_emptyDrawersOf 22 = .ok (.iload 5, 2) := by decide +kernel
theorem dX7_emptyDrawersOf_24 : decode cX7_emptyDrawersOf 24 = .ok (.aaload, 1) := by decide +kernel
theorem dX7_emptyDrawersOf_25 : decode cX7_emptyDrawersOf 25 = .ok (.astore 6, 2) := by decide +kernel
theorem dX7_emptyDrawersOf_27 : decode cX7_emptyDrawersOf 27 = .ok (.aload 6, 2) := by decide +kernel
theorem dX7_emptyDrawersOf_29 : decode cX7_emptyDrawersOf 29 = .ok (.ifnull 29, 3) := by decide +kernel
theorem dX7_emptyDrawersOf_32 : decode cX7_emptyDrawersOf 32 = .ok (.aload 6, 2) := by decide +kernel
theorem dX7_emptyDrawersOf_34 : decode cX7_emptyDrawersOf 34 = .ok (.getfield 114, 3) := by decide +kernel
theorem dX7_emptyDrawersOf_37 : decode cX7_emptyDrawersOf 37 = .ok (.ifCond .eq 21, 3) := by decide +kernel
theorem dX7_emptyDrawersOf_40 : decode cX7_emptyDrawersOf 40 = .ok (.aload 6, 2) := by decide +kernel
theorem dX7_emptyDrawersOf_42 : decode cX7_emptyDrawersOf 42 = .ok (.getfield 121, 3) := by decide +kernel
theorem dX7_emptyDrawersOf_45 : decode cX7_emptyDrawersOf 45 = .ok (.iload_n 1, 1) := by decide +kernel
theorem dX7_emptyDrawersOf_46 : decode cX7_emptyDrawersOf 46 = .ok (.if_icmp .ne 12, 3) := by decide +kernel
theorem dX7_emptyDrawersOf_49 : decode cX7_emptyDrawersOf 49 = .ok (.aload 6, 2) := by decide +kernel
theorem dX7_emptyDrawersOf_51 : decode cX7_emptyDrawersOf 51 = .ok (.iconst 0, 1) := by decide +kernel
theorem dX7_emptyDrawersOf_52 : decode cX7_emptyDrawersOf 52 = .ok (.putfield 114, 3) := by decide +kernel
theorem dX7_emptyDrawersOf_55 : decode cX7_emptyDrawersOf 55 = .ok (.iinc 2 1, 3) := by decide +kernel
theorem dX7_emptyDrawersOf_58 : decode cX7_emptyDrawersOf 58 = .ok (.iinc 5 1, 3) := by decide +kernel
theorem dX7_emptyDrawersOf_61 : decode cX7_emptyDrawersOf 61 = .ok (.goto (-47), 3) := by decide +kernel
theorem dX7_emptyDrawersOf_64 : decode cX7_emptyDrawersOf 64 = .ok (.iload_n 2, 1) := by decide +kernel
theorem dX7_emptyDrawersOf_65 : decode cX7_emptyDrawersOf 65 = .ok (.ireturn, 1) := by decide +kernel
theorem dX7_refusalOfNumber_0 : decode cX7_refusalOfNumber 0 = .ok (.aload_n 0, 1) := by decide +kernel
theorem dX7_refusalOfNumber_1 : decode cX7_refusalOfNumber 1 = .ok (.iload_n 1, 1) := by decide +kernel
theorem dX7_refusalOfNumber_2 : decode cX7_refusalOfNumber 2 = .ok (.invokevirtual 98, 3) := by decide +kernel
theorem dX7_refusalOfNumber_5 : decode cX7_refusalOfNumber 5 = .ok (.astore 4, 2) := by decide +kernel
theorem dX7_refusalOfNumber_7 : decode cX7_refusalOfNumber 7 = .ok (.aload 4, 2) := by decide +kernel
theorem dX7_refusalOfNumber_9 : decode cX7_refusalOfNumber 9 = .ok (.ifnonnull 5, 3) := by decide +kernel
theorem dX7_refusalOfNumber_12 : decode cX7_refusalOfNumber 12 = .ok (.iconst (-1), 1) := by decide +kernel
theorem dX7_refusalOfNumber_13 : decode cX7_refusalOfNumber 13 = .ok (.ireturn, 1) := by decide +kernel
theorem dX7_refusalOfNumber_14 : decode cX7_refusalOfNumber 14 = .ok (.aload 4, 2) := by decide +kernel
theorem dX7_refusalOfNumber_16 : decode cX7_refusalOfNumber 16 = .ok (.iload_n 2, 1) := by decide +kernel
theorem dX7_refusalOfNumber_17 : decode cX7_refusalOfNumber 17 = .ok (.invokevirtual 237, 3) := by decide +kernel
theorem dX7_refusalOfNumber_20 : decode cX7_refusalOfNumber 20 = .ok (.ifnull 7, 3) := by decide +kernel
theorem dX7_refusalOfNumber_23 : decode cX7_refusalOfNumber 23 = .ok (.iload_n 3, 1) := by decide +kernel
theorem dX7_refusalOfNumber_24 : decode cX7_refusalOfNumber 24 = .ok (.ifCond .ne 6, 3) := by decide +kernel
theorem dX7_refusalOfNumber_27 : decode cX7_refusalOfNumber 27 = .ok (.bipush (-2), 2) := by decide +kernel
theorem dX7_refusalOfNumber_29 : decode cX7_refusalOfNumber 29 = .ok (.ireturn, 1) := by decide +kernel
theorem dX7_refusalOfNumber_30 : decode cX7_refusalOfNumber 30 = .ok (.aload 4, 2) := by decide +kernel
theorem dX7_refusalOfNumber_32 : decode cX7_refusalOfNumber 32 = .ok (.getfield 114, 3) := by decide +kernel
theorem dX7_refusalOfNumber_35 : decode cX7_refusalOfNumber 35 = .ok (.ifCond .eq 7, 3) := by decide +kernel
theorem dX7_refusalOfNumber_38 : decode cX7_refusalOfNumber 38 = .ok (.iconst 0, 1) := by decide +kernel
theorem dX7_refusalOfNumber_39 : decode cX7_refusalOfNumber 39 = .ok (.goto 5, 3) := by decide +kernel
theorem dX7_refusalOfNumber_42 : decode cX7_refusalOfNumber 42 = .ok (.bipush (-3), 2) := by decide +kernel
theorem dX7_refusalOfNumber_44 : decode cX7_refusalOfNumber 44 = .ok (.ireturn, 1) := by decide +kernel
theorem dX7_numberAt_0 : decode cX7_numberAt 0 = .ok (.aload_n 0, 1) := by decide +kernel
theorem dX7_numberAt_1 : decode cX7_numberAt 1 = .ok (.iload_n 1, 1) := by decide +kernel
theorem dX7_numberAt_2 : decode cX7_numberAt 2 = .ok (.invokevirtual 98, 3) := by decide +kernel
theorem dX7_numberAt_5 : decode cX7_numberAt 5 = .ok (.astore_n 3, 1) := by decide +kernel
theorem dX7_numberAt_6 : decode cX7_numberAt 6 = .ok (.aload_n 3, 1) := by decide +kernel
theorem dX7_numberAt_7 : decode cX7_numberAt 7 = .ok (.ifnonnull 7, 3) := by decide +kernel
theorem dX7_numberAt_10 : decode cX7_numberAt 10 = .ok (.aconst_null, 1) := by decide +kernel
theorem dX7_numberAt_11 : decode cX7_numberAt 11 = .ok (.goto 8, 3) := by decide +kernel
theorem dX7_numberAt_14 : decode cX7_numberAt 14 = .ok (.aload_n 3, 1) := by decide +kernel
theorem dX7_numberAt_15 : decode cX7_numberAt 15 = .ok (.iload_n 2, 1) := by decide +kernel
theorem dX7_numberAt_16 : decode cX7_numberAt 16 = .ok (.invokevirtual 237, 3) := by decide +kernel
theorem dX7_numberAt_19 : decode cX7_numberAt 19 = .ok (.areturn, 1) := by decide +kernel
theorem dX7_firstFallOf_0 : decode cX7_firstFallOf 0 = .ok (.iconst 0, 1) := by decide +kernel
theorem dX7_firstFallOf_1 : decode cX7_firstFallOf 1 = .ok (.istore_n 3, 1) := by decide +kernel
theorem dX7_firstFallOf_2 : decode cX7_firstFallOf 2 = .ok (.iload_n 3, 1) := by decide +kernel
theorem dX7_firstFallOf_3 : decode cX7_firstFallOf 3 = .ok (.aload_n 1, 1) := by decide +kernel
theorem dX7_firstFallOf_4 : decode cX7_firstFallOf 4 = .ok (.getfield 169, 3) := by decide +kernel
theorem dX7_firstFallOf_7 : decode cX7_firstFallOf 7 = .ok (.if_icmp .ge 56, 3) := by decide +kernel
theorem dX7_firstFallOf_10 : decode cX7_firstFallOf 10 = .ok (.iload_n 3, 1) := by decide +kernel
theorem dX7_firstFallOf_11 : decode cX7_firstFallOf 11 = .ok (.iconst 4, 1) := by decide +kernel
theorem dX7_firstFallOf_12 : decode cX7_firstFallOf 12 = .ok (.if_icmp .ge 51, 3) := by decide +kernel
theorem dX7_firstFallOf_15 : decode cX7_firstFallOf 15 = .ok (.aload_n 0, 1) := by decide +kernel
theorem dX7_firstFallOf_16 : decode cX7_firstFallOf 16 = .ok (.aload_n 1, 1) := by decide +kernel
theorem dX7_firstFallOf_17 : decode cX7_firstFallOf 17 = .ok (.getfield 172, 3) := by decide +kernel
theorem dX7_firstFallOf_20 : decode cX7_firstFallOf 20 = .ok (.iload_n 3, 1) := by decide +kernel
theorem dX7_firstFallOf_21 : decode cX7_firstFallOf 21 = .ok (.iaload, 1) := by decide +kernel
theorem dX7_firstFallOf_22 : decode cX7_firstFallOf 22 = .ok (.invokevirtual 61, 3) := by decide +kernel
theorem dX7_firstFallOf_25 : decode cX7_firstFallOf 25 = .ok (.astore 4, 2) := by decide +kernel
theorem dX7_firstFallOf_27 : decode cX7_firstFallOf 27 = .ok (.aload 4, 2) := by decide +kernel
theorem dX7_firstFallOf_29 : decode cX7_firstFallOf 29 = .ok (.ifnonnull 8, 3) := by decide +kernel
theorem dX7_firstFallOf_32 : decode cX7_firstFallOf 32 = .ok (.bipush (-6), 2) := by decide +kernel
theorem dX7_firstFallOf_34 : decode cX7_firstFallOf 34 = .ok (.goto 11, 3) := by decide +kernel
theorem dX7_firstFallOf_37 : decode cX7_firstFallOf 37 = .ok (.aload 4, 2) := by decide +kernel
theorem dX7_firstFallOf_39 : decode cX7_firstFallOf 39 = .ok (.iconst 0, 1) := by decide +kernel
theorem dX7_firstFallOf_40 : decode cX7_firstFallOf 40 = .ok (.iconst 0, 1) := by decide +kernel
theorem dX7_firstFallOf_41 : decode cX7_firstFallOf 41 = .ok (.iload_n 2, 1) := by decide +kernel
theorem dX7_firstFallOf_42 : decode cX7_firstFallOf 42 = .ok (.invokevirtual 94, 3) := by decide +kernel
theorem dX7_firstFallOf_45 : decode cX7_firstFallOf 45 = .ok (.istore 5, 2) := by decide +kernel
theorem dX7_firstFallOf_47 : decode cX7_firstFallOf 47 = .ok (.iload 5, 2) := by decide +kernel
theorem dX7_firstFallOf_49 : decode cX7_firstFallOf 49 = .ok (.bipush (-6), 2) := by decide +kernel
theorem dX7_firstFallOf_51 : decode cX7_firstFallOf 51 = .ok (.if_icmp .eq 6, 3) := by decide +kernel
theorem dX7_firstFallOf_54 : decode cX7_firstFallOf 54 = .ok (.iload 5, 2) := by decide +kernel
theorem dX7_firstFallOf_56 : decode cX7_firstFallOf 56 = .ok (.ireturn, 1) := by decide +kernel
theorem dX7_firstFallOf_57 : decode cX7_firstFallOf 57 = .ok (.iinc 3 1, 3) := by decide +kernel
theorem dX7_firstFallOf_60 : decode cX7_firstFallOf 60 = .ok (.goto (-58), 3) := by decide +kernel
theorem dX7_firstFallOf_63 : decode cX7_firstFallOf 63 = .ok (.bipush (-6), 2) := by decide +kernel
theorem dX7_firstFallOf_65 : decode cX7_firstFallOf 65 = .ok (.ireturn, 1) := by decide +kernel
theorem dX7_mostTermsOf_0 : decode cX7_mostTermsOf 0 = .ok (.bipush 100, 2) := by decide +kernel
theorem dX7_mostTermsOf_2 : decode cX7_mostTermsOf 2 = .ok (.istore_n 2, 1) := by decide +kernel
theorem dX7_mostTermsOf_3 : decode cX7_mostTermsOf 3 = .ok (.iconst 0, 1) := by decide +kernel
theorem dX7_mostTermsOf_4 : decode cX7_mostTermsOf 4 = .ok (.istore_n 3, 1) := by decide +kernel
theorem dX7_mostTermsOf_5 : decode cX7_mostTermsOf 5 = .ok (.iload_n 3, 1) := by decide +kernel
theorem dX7_mostTermsOf_6 : decode cX7_mostTermsOf 6 = .ok (.aload_n 1, 1) := by decide +kernel
theorem dX7_mostTermsOf_7 : decode cX7_mostTermsOf 7 = .ok (.getfield 169, 3) := by decide +kernel
theorem dX7_mostTermsOf_10 : decode cX7_mostTermsOf 10 = .ok (.if_icmp .ge 56, 3) := by decide +kernel
theorem dX7_mostTermsOf_13 : decode cX7_mostTermsOf 13 = .ok (.iload_n 3, 1) := by decide +kernel
theorem dX7_mostTermsOf_14 : decode cX7_mostTermsOf 14 = .ok (.iconst 4, 1) := by decide +kernel
theorem dX7_mostTermsOf_15 : decode cX7_mostTermsOf 15 = .ok (.if_icmp .ge 51, 3) := by decide +kernel
theorem dX7_mostTermsOf_18 : decode cX7_mostTermsOf 18 = .ok (.aload_n 0, 1) := by decide +kernel
theorem dX7_mostTermsOf_19 : decode cX7_mostTermsOf 19 = .ok (.aload_n 1, 1) := by decide +kernel
theorem dX7_mostTermsOf_20 : decode cX7_mostTermsOf 20 = .ok (.getfield 172, 3) := by decide +kernel
theorem dX7_mostTermsOf_23 : decode cX7_mostTermsOf 23 = .ok (.iload_n 3, 1) := by decide +kernel
theorem dX7_mostTermsOf_24 : decode cX7_mostTermsOf 24 = .ok (.iaload, 1) := by decide +kernel
theorem dX7_mostTermsOf_25 : decode cX7_mostTermsOf 25 = .ok (.invokevirtual 61, 3) := by decide +kernel
theorem dX7_mostTermsOf_28 : decode cX7_mostTermsOf 28 = .ok (.astore 4, 2) := by decide +kernel
theorem dX7_mostTermsOf_30 : decode cX7_mostTermsOf 30 = .ok (.aload 4, 2) := by decide +kernel
theorem dX7_mostTermsOf_32 : decode cX7_mostTermsOf 32 = .ok (.ifnonnull 8, 3) := by decide +kernel
theorem dX7_mostTermsOf_35 : decode cX7_mostTermsOf 35 = .ok (.bipush (-6), 2) := by decide +kernel
theorem dX7_mostTermsOf_37 : decode cX7_mostTermsOf 37 = .ok (.goto 11, 3) := by decide +kernel
theorem dX7_mostTermsOf_40 : decode cX7_mostTermsOf 40 = .ok (.aload 4, 2) := by decide +kernel
theorem dX7_mostTermsOf_42 : decode cX7_mostTermsOf 42 = .ok (.iconst 0, 1) := by decide +kernel
theorem dX7_mostTermsOf_43 : decode cX7_mostTermsOf 43 = .ok (.iconst 0, 1) := by decide +kernel
theorem dX7_mostTermsOf_44 : decode cX7_mostTermsOf 44 = .ok (.iload_n 2, 1) := by decide +kernel
theorem dX7_mostTermsOf_45 : decode cX7_mostTermsOf 45 = .ok (.invokevirtual 94, 3) := by decide +kernel
theorem dX7_mostTermsOf_48 : decode cX7_mostTermsOf 48 = .ok (.istore 5, 2) := by decide +kernel
theorem dX7_mostTermsOf_50 : decode cX7_mostTermsOf 50 = .ok (.iload 5, 2) := by decide +kernel
theorem dX7_mostTermsOf_52 : decode cX7_mostTermsOf 52 = .ok (.bipush (-6), 2) := by decide +kernel
theorem dX7_mostTermsOf_54 : decode cX7_mostTermsOf 54 = .ok (.if_icmp .eq 6, 3) := by decide +kernel
theorem dX7_mostTermsOf_57 : decode cX7_mostTermsOf 57 = .ok (.iload 5, 2) := by decide +kernel
theorem dX7_mostTermsOf_59 : decode cX7_mostTermsOf 59 = .ok (.istore_n 2, 1) := by decide +kernel
theorem dX7_mostTermsOf_60 : decode cX7_mostTermsOf 60 = .ok (.iinc 3 1, 3) := by decide +kernel
theorem dX7_mostTermsOf_63 : decode cX7_mostTermsOf 63 = .ok (.goto (-58), 3) := by decide +kernel
theorem dX7_mostTermsOf_66 : decode cX7_mostTermsOf 66 = .ok (.iload_n 2, 1) := by decide +kernel
theorem dX7_mostTermsOf_67 : decode cX7_mostTermsOf 67 = .ok (.ireturn, 1) := by decide +kernel
theorem dX7_tell_0 : decode cX7_tell 0 = .ok (.aload 5, 2) := by decide +kernel
theorem dX7_tell_2 : decode cX7_tell 2 = .ok (.iload_n 2, 1) := by decide +kernel
theorem dX7_tell_3 : decode cX7_tell 3 = .ok (.putfield 225, 3) := by decide +kernel
theorem dX7_tell_6 : decode cX7_tell 6 = .ok (.aload 5, 2) := by decide +kernel
theorem dX7_tell_8 : decode cX7_tell 8 = .ok (.iload_n 3, 1) := by decide +kernel
theorem dX7_tell_9 : decode cX7_tell 9 = .ok (.putfield 228, 3) := by decide +kernel
theorem dX7_tell_12 : decode cX7_tell 12 = .ok (.aload 5, 2) := by decide +kernel
theorem dX7_tell_14 : decode cX7_tell 14 = .ok (.iload 4, 2) := by decide +kernel
theorem dX7_tell_16 : decode cX7_tell 16 = .ok (.putfield 231, 3) := by decide +kernel
theorem dX7_tell_19 : decode cX7_tell 19 = .ok (.aload_n 0, 1) := by decide +kernel
theorem dX7_tell_20 : decode cX7_tell 20 = .ok (.getfield 37, 3) := by decide +kernel
theorem dX7_tell_23 : decode cX7_tell 23 = .ok (.invokevirtual 241, 3) := by decide +kernel
theorem dX7_tell_26 : decode cX7_tell 26 = .ok (.iconst 0, 1) := by decide +kernel
theorem dX7_tell_27 : decode cX7_tell 27 = .ok (.istore 6, 2) := by decide +kernel
theorem dX7_tell_29 : decode cX7_tell 29 = .ok (.iload 6, 2) := by decide +kernel
theorem dX7_tell_31 : decode cX7_tell 31 = .ok (.aload_n 1, 1) := by decide +kernel
theorem dX7_tell_32 : decode cX7_tell 32 = .ok (.getfield 169, 3) := by decide +kernel
theorem dX7_tell_35 : decode cX7_tell 35 = .ok (.if_icmp .ge 42, 3) := by decide +kernel
theorem dX7_tell_38 : decode cX7_tell 38 = .ok (.iload 6, 2) := by decide +kernel
theorem dX7_tell_40 : decode cX7_tell 40 = .ok (.iconst 4, 1) := by decide +kernel
theorem dX7_tell_41 : decode cX7_tell 41 = .ok (.if_icmp .ge 36, 3) := by decide +kernel
theorem dX7_tell_44 : decode cX7_tell 44 = .ok (.aload_n 0, 1) := by decide +kernel
theorem dX7_tell_45 : decode cX7_tell 45 = .ok (.aload_n 1, 1) := by decide +kernel
theorem dX7_tell_46 : decode cX7_tell 46 = .ok (.getfield 172, 3) := by decide +kernel
theorem dX7_tell_49 : decode cX7_tell 49 = .ok (.iload 6, 2) := by decide +kernel
theorem dX7_tell_51 : decode cX7_tell 51 = .ok (.iaload, 1) := by decide +kernel
theorem dX7_tell_52 : decode cX7_tell 52 = .ok (.aload_n 1, 1) := by decide +kernel
theorem dX7_tell_53 : decode cX7_tell 53 = .ok (.getfield 176, 3) := by decide +kernel
theorem dX7_tell_56 : decode cX7_tell 56 = .ok (.iload 6, 2) := by decide +kernel
theorem dX7_tell_58 : decode cX7_tell 58 = .ok (.iaload, 1) := by decide +kernel
theorem dX7_tell_59 : decode cX7_tell 59 = .ok (.aload_n 1, 1) := by decide +kernel
theorem dX7_tell_60 : decode cX7_tell 60 = .ok (.getfield 179, 3) := by decide +kernel
theorem dX7_tell_63 : decode cX7_tell 63 = .ok (.iload 6, 2) := by decide +kernel
theorem dX7_tell_65 : decode cX7_tell 65 = .ok (.iaload, 1) := by decide +kernel
theorem dX7_tell_66 : decode cX7_tell 66 = .ok (.iload 4, 2) := by decide +kernel
theorem dX7_tell_68 : decode cX7_tell 68 = .ok (.invokevirtual 243, 3) := by decide +kernel
theorem dX7_tell_71 : decode cX7_tell 71 = .ok (.iinc 6 1, 3) := by decide +kernel
theorem dX7_tell_74 : decode cX7_tell 74 = .ok (.goto (-45), 3) := by decide +kernel
theorem dX7_tell_77 : decode cX7_tell 77 = .ok (.aload_n 0, 1) := by decide +kernel
theorem dX7_tell_78 : decode cX7_tell 78 = .ok (.getfield 37, 3) := by decide +kernel
theorem dX7_tell_81 : decode cX7_tell 81 = .ok (.aload 5, 2) := by decide +kernel
theorem dX7_tell_83 : decode cX7_tell 83 = .ok (.invokevirtual 246, 3) := by decide +kernel
theorem dX7_tell_86 : decode cX7_tell 86 = .ok (.return_, 1) := by decide +kernel
theorem dX7_enclosePart_0 : decode cX7_enclosePart 0 = .ok (.aload_n 0, 1) := by decide +kernel
theorem dX7_enclosePart_1 : decode cX7_enclosePart 1 = .ok (.iload_n 1, 1) := by decide +kernel
theorem dX7_enclosePart_2 : decode cX7_enclosePart 2 = .ok (.invokevirtual 61, 3) := by decide +kernel
theorem dX7_enclosePart_5 : decode cX7_enclosePart 5 = .ok (.astore 5, 2) := by decide +kernel
theorem dX7_enclosePart_7 : decode cX7_enclosePart 7 = .ok (.aload 5, 2) := by decide +kernel
theorem dX7_enclosePart_9 : decode cX7_enclosePart 9 = .ok (.ifnonnull 4, 3) := by decide +kernel
theorem dX7_enclosePart_12 : decode cX7_enclosePart 12 = .ok (.return_, 1) := by decide +kernel
theorem dX7_enclosePart_13 : decode cX7_enclosePart 13 = .ok (.aload_n 0, 1) := by decide +kernel
theorem dX7_enclosePart_14 : decode cX7_enclosePart 14 = .ok (.getfield 42, 3) := by decide +kernel
theorem dX7_enclosePart_17 : decode cX7_enclosePart 17 = .ok (.iload_n 1, 1) := by decide +kernel
theorem dX7_enclosePart_18 : decode cX7_enclosePart 18 = .ok (.iconst 0, 1) := by decide +kernel
theorem dX7_enclosePart_19 : decode cX7_enclosePart 19 = .ok (.invokevirtual 102, 3) := by decide +kernel
theorem dX7_enclosePart_22 : decode cX7_enclosePart 22 = .ok (.aload_n 0, 1) := by decide +kernel
theorem dX7_enclosePart_23 : decode cX7_enclosePart 23 = .ok (.getfield 30, 3) := by decide +kernel
theorem dX7_enclosePart_26 : decode cX7_enclosePart 26 = .ok (.aload_n 0, 1) := by decide +kernel
theorem dX7_enclosePart_27 : decode cX7_enclosePart 27 = .ok (.getfield 42, 3) := by decide +kernel
theorem dX7_enclosePart_30 : decode cX7_enclosePart 30 = .ok (.aload 5, 2) := by decide +kernel
theorem dX7_enclosePart_32 : decode cX7_enclosePart 32 = .ok (.iload 4, 2) := by decide +kernel
theorem dX7_enclosePart_34 : decode cX7_enclosePart 34 = .ok (.invokevirtual 106, 3) := by decide +kernel
theorem dX7_enclosePart_37 : decode cX7_enclosePart 37 = .ok (.aload_n 0, 1) := by decide +kernel
theorem dX7_enclosePart_38 : decode cX7_enclosePart 38 = .ok (.getfield 42, 3) := by decide +kernel
theorem dX7_enclosePart_41 : decode cX7_enclosePart 41 = .ok (.getfield 250, 3) := by decide +kernel
theorem dX7_enclosePart_44 : decode cX7_enclosePart 44 = .ok (.astore 6, 2) := by decide +kernel
theorem dX7_enclosePart_46 : decode cX7_enclosePart 46 = .ok (.aload 6, 2) := by decide +kernel
theorem dX7_enclosePart_48 : decode cX7_enclosePart 48 = .ok (.iload_n 2, 1) := by decide +kernel
theorem dX7_enclosePart_49 : decode cX7_enclosePart 49 = .ok (.invokevirtual 254, 3) := by decide +kernel
theorem dX7_enclosePart_52 : decode cX7_enclosePart 52 = .ok (.aload 6, 2) := by decide +kernel
theorem dX7_enclosePart_54 : decode cX7_enclosePart 54 = .ok (.aload 5, 2) := by decide +kernel
theorem dX7_enclosePart_56 : decode cX7_enclosePart 56 = .ok (.getfield 85, 3) := by decide +kernel
theorem dX7_enclosePart_59 : decode cX7_enclosePart 59 = .ok (.aload 5, 2) := by decide +kernel
theorem dX7_enclosePart_61 : decode cX7_enclosePart 61 = .ok (.getfield 81, 3) := by decide +kernel
theorem dX7_enclosePart_64 : decode cX7_enclosePart 64 = .ok (.isub, 1) := by decide +kernel
theorem dX7_enclosePart_65 : decode cX7_enclosePart 65 = .ok (.invokevirtual 254, 3) := by decide +kernel
theorem dX7_enclosePart_68 : decode cX7_enclosePart 68 = .ok (.aload_n 0, 1) := by decide +kernel
theorem dX7_enclosePart_69 : decode cX7_enclosePart 69 = .ok (.getfield 30, 3) := by decide +kernel
theorem dX7_enclosePart_72 : decode cX7_enclosePart 72 = .ok (.getfield 258, 3) := by decide +kernel
theorem dX7_enclosePart_75 : decode cX7_enclosePart 75 = .ok (.astore 7, 2) := by decide +kernel
theorem dX7_enclosePart_77 : decode cX7_enclosePart 77 = .ok (.aload 7, 2) := by decide +kernel
theorem dX7_enclosePart_79 : decode cX7_enclosePart 79 = .ok (.iload_n 2, 1) := by decide +kernel
theorem dX7_enclosePart_80 : decode cX7_enclosePart 80 = .ok (.invokevirtual 254, 3) := by decide +kernel
theorem dX7_enclosePart_83 : decode cX7_enclosePart 83 = .ok (.aload 7, 2) := by decide +kernel
theorem dX7_enclosePart_85 : decode cX7_enclosePart 85 = .ok (.aload 5, 2) := by decide +kernel
theorem dX7_enclosePart_87 : decode cX7_enclosePart 87 = .ok (.getfield 81, 3) := by decide +kernel
theorem dX7_enclosePart_90 : decode cX7_enclosePart 90 = .ok (.invokevirtual 254, 3) := by decide +kernel
theorem dX7_enclosePart_93 : decode cX7_enclosePart 93 = .ok (.aload 7, 2) := by decide +kernel
theorem dX7_enclosePart_95 : decode cX7_enclosePart 95 = .ok (.iconst 0, 1) := by decide +kernel
theorem dX7_enclosePart_96 : decode cX7_enclosePart 96 = .ok (.putfield 147, 3) := by decide +kernel
theorem dX7_enclosePart_99 : decode cX7_enclosePart 99 = .ok (.aload_n 0, 1) := by decide +kernel
theorem dX7_enclosePart_100 : decode cX7_enclosePart 100 = .ok (.getfield 30, 3) := by decide +kernel
theorem dX7_enclosePart_103 : decode cX7_enclosePart 103 = .ok (.getfield 261, 3) := by decide +kernel
theorem dX7_enclosePart_106 : decode cX7_enclosePart 106 = .ok (.astore 8, 2) := by decide +kernel
theorem dX7_enclosePart_108 : decode cX7_enclosePart 108 = .ok (.aload 8, 2) := by decide +kernel
theorem dX7_enclosePart_110 : decode cX7_enclosePart 110 = .ok (.aload_n 0, 1) := by decide +kernel
theorem dX7_enclosePart_111 : decode cX7_enclosePart 111 = .ok (.getfield 42, 3) := by decide +kernel
theorem dX7_enclosePart_114 : decode cX7_enclosePart 114 = .ok (.getfield 264, 3) := by decide +kernel
theorem dX7_enclosePart_117 : decode cX7_enclosePart 117 = .ok (.aload_n 0, 1) := by decide +kernel
theorem dX7_enclosePart_118 : decode cX7_enclosePart 118 = .ok (.getfield 42, 3) := by decide +kernel
theorem dX7_enclosePart_121 : decode cX7_enclosePart 121 = .ok (.getfield 267, 3) := by decide +kernel
theorem dX7_enclosePart_124 : decode cX7_enclosePart 124 = .ok (.invokevirtual 270, 3) := by decide +kernel
theorem dX7_enclosePart_127 : decode cX7_enclosePart 127 = .ok (.aload 8, 2) := by decide +kernel
theorem dX7_enclosePart_129 : decode cX7_enclosePart 129 = .ok (.iload_n 3, 1) := by decide +kernel
theorem dX7_enclosePart_130 : decode cX7_enclosePart 130 = .ok (.invokevirtual 254, 3) := by decide +kernel
theorem dX7_enclosePart_133 : decode cX7_enclosePart 133 = .ok (.aload 8, 2) := by decide +kernel
theorem dX7_enclosePart_135 : decode cX7_enclosePart 135 = .ok (.aload 5, 2) := by decide +kernel
theorem dX7_enclosePart_137 : decode cX7_enclosePart 137 = .ok (.getfield 85, 3) := by decide +kernel
theorem dX7_enclosePart_140 : decode cX7_enclosePart 140 = .ok (.aload 5, 2) := by decide +kernel
theorem dX7_enclosePart_142 : decode cX7_enclosePart 142 = .ok (.getfield 81, 3) := by decide +kernel
theorem dX7_enclosePart_145 : decode cX7_enclosePart 145 = .ok (.isub, 1) := by decide +kernel
theorem dX7_enclosePart_146 : decode cX7_enclosePart 146 = .ok (.invokevirtual 254, 3) := by decide +kernel
theorem dX7_enclosePart_149 : decode cX7_enclosePart 149 = .ok (.aload 8, 2) := by decide +kernel
theorem dX7_enclosePart_151 : decode cX7_enclosePart 151 = .ok (.getfield 147, 3) := by decide +kernel
theorem dX7_enclosePart_154 : decode cX7_enclosePart 154 = .ok (.ifCond .eq 14, 3) := by decide +kernel
theorem dX7_enclosePart_157 : decode cX7_enclosePart 157 = .ok (.aload 8, 2) := by decide +kernel
theorem dX7_enclosePart_159 : decode cX7_enclosePart 159 = .ok (.iconst 0, 1) := by decide +kernel
theorem dX7_enclosePart_160 : decode cX7_enclosePart 160 = .ok (.putfield 147, 3) := by decide +kernel
theorem dX7_enclosePart_163 : decode cX7_enclosePart 163 = .ok (.aload 6, 2) := by decide +kernel
theorem dX7_enclosePart_165 : decode cX7_enclosePart 165 = .ok (.invokevirtual 274, 3) := by decide +kernel
theorem dX7_enclosePart_168 : decode cX7_enclosePart 168 = .ok (.aload_n 0, 1) := by decide +kernel
theorem dX7_enclosePart_169 : decode cX7_enclosePart 169 = .ok (.getfield 30, 3) := by decide +kernel
theorem dX7_enclosePart_172 : decode cX7_enclosePart 172 = .ok (.getfield 277, 3) := by decide +kernel
theorem dX7_enclosePart_175 : decode cX7_enclosePart 175 = .ok (.astore 9, 2) := by decide +kernel
theorem dX7_enclosePart_177 : decode cX7_enclosePart 177 = .ok (.aload 9, 2) := by decide +kernel
theorem dX7_enclosePart_179 : decode cX7_enclosePart 179 = .ok (.aload 6, 2) := by decide +kernel
theorem dX7_enclosePart_181 : decode cX7_enclosePart 181 = .ok (.invokevirtual 280, 3) := by decide +kernel
theorem dX7_enclosePart_184 : decode cX7_enclosePart 184 = .ok (.aload 9, 2) := by decide +kernel
theorem dX7_enclosePart_186 : decode cX7_enclosePart 186 = .ok (.aload 7, 2) := by decide +kernel
theorem dX7_enclosePart_188 : decode cX7_enclosePart 188 = .ok (.invokevirtual 284, 3) := by decide +kernel
theorem dX7_enclosePart_191 : decode cX7_enclosePart 191 = .ok (.aload 7, 2) := by decide +kernel
theorem dX7_enclosePart_193 : decode cX7_enclosePart 193 = .ok (.invokevirtual 274, 3) := by decide +kernel
theorem dX7_enclosePart_196 : decode cX7_enclosePart 196 = .ok (.aload 6, 2) := by decide +kernel
theorem dX7_enclosePart_198 : decode cX7_enclosePart 198 = .ok (.aload 7, 2) := by decide +kernel
theorem dX7_enclosePart_200 : decode cX7_enclosePart 200 = .ok (.invokevirtual 284, 3) := by decide +kernel
theorem dX7_enclosePart_203 : decode cX7_enclosePart 203 = .ok (.aload_n 0, 1) := by decide +kernel
theorem dX7_enclosePart_204 : decode cX7_enclosePart 204 = .ok (.getfield 37, 3) := by decide +kernel
theorem dX7_enclosePart_207 : decode cX7_enclosePart 207 = .ok (.aload 6, 2) := by decide +kernel
theorem dX7_enclosePart_209 : decode cX7_enclosePart 209 = .ok (.aload 9, 2) := by decide +kernel
theorem dX7_enclosePart_211 : decode cX7_enclosePart 211 = .ok (.aload 8, 2) := by decide +kernel
theorem dX7_enclosePart_213 : decode cX7_enclosePart 213 = .ok (.invokevirtual 287, 3) := by decide +kernel
theorem dX7_enclosePart_216 : decode cX7_enclosePart 216 = .ok (.return_, 1) := by decide +kernel
theorem dX8_init_0 : decode cX8_init 0 = .ok (.aload_n 0, 1) := by decide +kernel
theorem dX8_init_1 : decode cX8_init 1 = .ok (.invokespecial 1, 3) := by decide +kernel
theorem dX8_init_4 : decode cX8_init 4 = .ok (.aload_n 0, 1) := by decide +kernel
theorem dX8_init_5 : decode cX8_init 5 = .ok (.ldc 7, 2) := by decide +kernel
theorem dX8_init_7 : decode cX8_init 7 = .ok (.newarray .int, 2) := by decide +kernel
theorem dX8_init_9 : decode cX8_init 9 = .ok (.putfield 8, 3) := by decide +kernel
theorem dX8_init_12 : decode cX8_init 12 = .ok (.aload_n 0, 1) := by decide +kernel
theorem dX8_init_13 : decode cX8_init 13 = .ok (.bipush 60, 2) := by decide +kernel
theorem dX8_init_15 : decode cX8_init 15 = .ok (.newarray .int, 2) := by decide +kernel
theorem dX8_init_17 : decode cX8_init 17 = .ok (.putfield 14, 3) := by decide +kernel
theorem dX8_init_20 : decode cX8_init 20 = .ok (.aload_n 0, 1) := by decide +kernel
theorem dX8_init_21 : decode cX8_init 21 = .ok (.bipush 60, 2) := by decide +kernel
theorem dX8_init_23 : decode cX8_init 23 = .ok (.newarray .boolean, 2) := by decide +kernel
theorem dX8_init_25 : decode cX8_init 25 = .ok (.putfield 17, 3) := by decide +kernel
theorem dX8_init_28 : decode cX8_init 28 = .ok (.aload_n 0, 1) := by decide +kernel
theorem dX8_init_29 : decode cX8_init 29 = .ok (.bipush 72, 2) := by decide +kernel
theorem dX8_init_31 : decode cX8_init 31 = .ok (.newarray .int, 2) := by decide +kernel
theorem dX8_init_33 : decode cX8_init 33 = .ok (.putfield 21, 3) := by decide +kernel
theorem dX8_init_36 : decode cX8_init 36 = .ok (.aload_n 0, 1) := by decide +kernel
theorem dX8_init_37 : decode cX8_init 37 = .ok (.bipush 6, 2) := by decide +kernel
theorem dX8_init_39 : decode cX8_init 39 = .ok (.newarray .int, 2) := by decide +kernel
theorem dX8_init_41 : decode cX8_init 41 = .ok (.putfield 24, 3) := by decide +kernel
theorem dX8_init_44 : decode cX8_init 44 = .ok (.aload_n 0, 1) := by decide +kernel
theorem dX8_init_45 : decode cX8_init 45 = .ok (.bipush 6, 2) := by decide +kernel
theorem dX8_init_47 : decode cX8_init 47 = .ok (.newarray .int, 2) := by decide +kernel
theorem dX8_init_49 : decode cX8_init 49 = .ok (.putfield 27, 3) := by decide +kernel
theorem dX8_init_52 : decode cX8_init 52 = .ok (.aload_n 0, 1) := by decide +kernel
theorem dX8_init_53 : decode cX8_init 53 = .ok (.bipush 8, 2) := by decide +kernel
theorem dX8_init_55 : decode cX8_init 55 = .ok (.newarray .int, 2) := by decide +kernel
theorem dX8_init_57 : decode cX8_init 57 = .ok (.putfield 30, 3) := by decide +kernel
theorem dX8_init_60 : decode cX8_init 60 = .ok (.aload_n 0, 1) := by decide +kernel
theorem dX8_init_61 : decode cX8_init 61 = .ok (.bipush 8, 2) := by decide +kernel
theorem dX8_init_63 : decode cX8_init 63 = .ok (.newarray .int, 2) := by decide +kernel
theorem dX8_init_65 : decode cX8_init 65 = .ok (.putfield 33, 3) := by decide +kernel
theorem dX8_init_68 : decode cX8_init 68 = .ok (.aload_n 0, 1) := by decide +kernel
theorem dX8_init_69 : decode cX8_init 69 = .ok (.bipush 8, 2) := by decide +kernel
theorem dX8_init_71 : decode cX8_init 71 = .ok (.newarray .int, 2) := by decide +kernel
theorem dX8_init_73 : decode cX8_init 73 = .ok (.putfield 36, 3) := by decide +kernel
theorem dX8_init_76 : decode cX8_init 76 = .ok (.aload_n 0, 1) := by decide +kernel
theorem dX8_init_77 : decode cX8_init 77 = .ok (.iconst 4, 1) := by decide +kernel
theorem dX8_init_78 : decode cX8_init 78 = .ok (.newarray .int, 2) := by decide +kernel
theorem dX8_init_80 : decode cX8_init 80 = .ok (.putfield 39, 3) := by decide +kernel
theorem dX8_init_83 : decode cX8_init 83 = .ok (.aload_n 0, 1) := by decide +kernel
theorem dX8_init_84 : decode cX8_init 84 = .ok (.bipush 16, 2) := by decide +kernel
theorem dX8_init_86 : decode cX8_init 86 = .ok (.newarray .int, 2) := by decide +kernel
theorem dX8_init_88 : decode cX8_init 88 = .ok (.putfield 42, 3) := by decide +kernel
theorem dX8_init_91 : decode cX8_init 91 = .ok (.aload_n 0, 1) := by decide +kernel
theorem dX8_init_92 : decode cX8_init 92 = .ok (.bipush 16, 2) := by decide +kernel
theorem dX8_init_94 : decode cX8_init 94 = .ok (.newarray .int, 2) := by decide +kernel
theorem dX8_init_96 : decode cX8_init 96 = .ok (.putfield 45, 3) := by decide +kernel
theorem dX8_init_99 : decode cX8_init 99 = .ok (.aload_n 0, 1) := by decide +kernel
theorem dX8_init_100 : decode cX8_init 100 = .ok (.bipush 16, 2) := by decide +kernel
theorem dX8_init_102 : decode cX8_init 102 = .ok (.newarray .int, 2) := by decide +kernel
theorem dX8_init_104 : decode cX8_init 104 = .ok (.putfield 48, 3) := by decide +kernel
theorem dX8_init_107 : decode cX8_init 107 = .ok (.aload_n 0, 1) := by decide +kernel
theorem dX8_init_108 : decode cX8_init 108 = .ok (.bipush 100, 2) := by decide +kernel
theorem dX8_init_110 : decode cX8_init 110 = .ok (.newarray .int, 2) := by decide +kernel
theorem dX8_init_112 : decode cX8_init 112 = .ok (.putfield 51, 3) := by decide +kernel
theorem dX8_init_115 : decode cX8_init 115 = .ok (.aload_n 0, 1) := by decide +kernel
theorem dX8_init_116 : decode cX8_init 116 = .ok (.bipush 100, 2) := by decide +kernel
theorem dX8_init_118 : decode cX8_init 118 = .ok (.newarray .int, 2) := by decide +kernel
theorem dX8_init_120 : decode cX8_init 120 = .ok (.putfield 54, 3) := by decide +kernel
theorem dX8_init_123 : decode cX8_init 123 = .ok (.aload_n 0, 1) := by decide +kernel
theorem dX8_init_124 : decode cX8_init 124 = .ok (.bipush 100, 2) := by decide +kernel
theorem dX8_init_126 : decode cX8_init 126 = .ok (.newarray .int, 2) := by decide +kernel
theorem dX8_init_128 : decode cX8_init 128 = .ok (.putfield 57, 3) := by decide +kernel
theorem dX8_init_131 : decode cX8_init 131 = .ok (.iconst 0, 1) := by decide +kernel
theorem dX8_init_132 : decode cX8_init 132 = .ok (.istore_n 1, 1) := by decide +kernel
theorem dX8_init_133 : decode cX8_init 133 = .ok (.iload_n 1, 1) := by decide +kernel
theorem dX8_init_134 : decode cX8_init 134 = .ok (.bipush 6, 2) := by decide +kernel
theorem dX8_init_136 : decode cX8_init 136 = .ok (.if_icmp .ge 23, 3) := by decide +kernel
theorem dX8_init_139 : decode cX8_init 139 = .ok (.aload_n 0, 1) := by decide +kernel
theorem dX8_init_140 : decode cX8_init 140 = .ok (.getfield 24, 3) := by decide +kernel
theorem dX8_init_143 : decode cX8_init 143 = .ok (.iload_n 1, 1) := by decide +kernel
theorem dX8_init_144 : decode cX8_init 144 = .ok (.iconst 1, 1) := by decide +kernel
theorem dX8_init_145 : decode cX8_init 145 = .ok (.iastore, 1) := by decide +kernel
theorem dX8_init_146 : decode cX8_init 146 = .ok (.aload_n 0, 1) := by decide +kernel
theorem dX8_init_147 : decode cX8_init 147 = .ok (.getfield 27, 3) := by decide +kernel
theorem dX8_init_150 : decode cX8_init 150 = .ok (.iload_n 1, 1) := by decide +kernel
theorem dX8_init_151 : decode cX8_init 151 = .ok (.iconst 2, 1) := by decide +kernel
theorem dX8_init_152 : decode cX8_init 152 = .ok (.iastore, 1) := by decide +kernel
theorem dX8_init_153 : decode cX8_init 153 = .ok (.iinc 1 1, 3) := by decide +kernel
theorem dX8_init_156 : decode cX8_init 156 = .ok (.goto (-23), 3) := by decide +kernel
theorem dX8_init_159 : decode cX8_init 159 = .ok (.iconst 0, 1) := by decide +kernel
theorem dX8_init_160 : decode cX8_init 160 = .ok (.istore_n 1, 1) := by decide +kernel
theorem dX8_init_161 : decode cX8_init 161 = .ok (.iload_n 1, 1) := by decide +kernel
theorem dX8_init_162 : decode cX8_init 162 = .ok (.bipush 8, 2) := by decide +kernel
theorem dX8_init_164 : decode cX8_init 164 = .ok (.if_icmp .ge 17, 3) := by decide +kernel
theorem dX8_init_167 : decode cX8_init 167 = .ok (.aload_n 0, 1) := by decide +kernel
theorem dX8_init_168 : decode cX8_init 168 = .ok (.getfield 30, 3) := by decide +kernel
theorem dX8_init_171 : decode cX8_init 171 = .ok (.iload_n 1, 1) := by decide +kernel
theorem dX8_init_172 : decode cX8_init 172 = .ok (.bipush (-6), 2) := by decide +kernel
theorem dX8_init_174 : decode cX8_init 174 = .ok (.iastore, 1) := by decide +kernel
theorem dX8_init_175 : decode cX8_init 175 = .ok (.iinc 1 1, 3) := by decide +kernel
theorem dX8_init_178 : decode cX8_init 178 = .ok (.goto (-17), 3) := by decide +kernel
theorem dX8_init_181 : decode cX8_init 181 = .ok (.aload_n 0, 1) := by decide +kernel
theorem dX8_init_182 : decode cX8_init 182 = .ok (.bipush (-6), 2) := by decide +kernel
theorem dX8_init_184 : decode cX8_init 184 = .ok (.putfield 60, 3) := by decide +kernel
theorem dX8_init_187 : decode cX8_init 187 = .ok (.return_, 1) := by decide +kernel
theorem dX8_in_0 : decode cX8_in 0 = .ok (.lload_n 0, 1) := by decide +kernel
theorem dX8_in_1 : decode cX8_in 1 = .ok (.lload_n 2, 1) := by decide +kernel
theorem dX8_in_2 : decode cX8_in 2 = .ok (.lcmp, 1) := by decide +kernel
theorem dX8_in_3 : decode cX8_in 3 = .ok (.ifCond .lt 14, 3) := by decide +kernel
theorem dX8_in_6 : decode cX8_in 6 = .ok (.lload_n 0, 1) := by decide +kernel
theorem dX8_in_7 : decode cX8_in 7 = .ok (.lload 4, 2) := by decide +kernel
theorem dX8_in_9 : decode cX8_in 9 = .ok (.lcmp, 1) := by decide +kernel
theorem dX8_in_10 : decode cX8_in 10 = .ok (.ifCond .gt 7, 3) := by decide +kernel
theorem dX8_in_13 : decode cX8_in 13 = .ok (.iconst 1, 1) := by decide +kernel
theorem dX8_in_14 : decode cX8_in 14 = .ok (.goto 4, 3) := by decide +kernel
theorem dX8_in_17 : decode cX8_in 17 = .ok (.iconst 0, 1) := by decide +kernel
theorem dX8_in_18 : decode cX8_in 18 = .ok (.ireturn, 1) := by decide +kernel
theorem dX8_set_0 : decode cX8_set 0 = .ok (.lload_n 2, 1) := by decide +kernel
theorem dX8_set_1 : decode cX8_set 1 = .ok (.lconst 0, 1) := by decide +kernel
theorem dX8_set_2 : decode cX8_set 2 = .ok (.lcmp, 1) := by decide +kernel
theorem dX8_set_3 : decode cX8_set 3 = .ok (.ifCond .ge 8, 3) := by decide +kernel
theorem dX8_set_6 : decode cX8_set 6 = .ok (.lload_n 2, 1) := by decide +kernel
theorem dX8_set_7 : decode cX8_set 7 = .ok (.lneg, 1) := by decide +kernel
theorem dX8_set_8 : decode cX8_set 8 = .ok (.goto 4, 3) := by decide +kernel
theorem dX8_set_11 : decode cX8_set 11 = .ok (.lload_n 2, 1) := by decide +kernel
theorem dX8_set_12 : decode cX8_set 12 = .ok (.lstore 4, 2) := by decide +kernel
theorem dX8_set_14 : decode cX8_set 14 = .ok (.aload_n 0, 1) := by decide +kernel
theorem dX8_set_15 : decode cX8_set 15 = .ok (.getfield 17, 3) := by decide +kernel
theorem dX8_set_18 : decode cX8_set 18 = .ok (.iload_n 1, 1) := by decide +kernel
theorem dX8_set_19 : decode cX8_set 19 = .ok (.lload_n 2, 1) := by decide +kernel
theorem dX8_set_20 : decode cX8_set 20 = .ok (.lconst 0, 1) := by decide +kernel
theorem dX8_set_21 : decode cX8_set 21 = .ok (.lcmp, 1) := by decide +kernel
theorem dX8_set_22 : decode cX8_set 22 = .ok (.ifCond .ge 7, 3) := by decide +kernel
theorem dX8_set_25 : decode cX8_set 25 = .ok (.iconst 1, 1) := by decide +kernel
theorem dX8_set_26 : decode cX8_set 26 = .ok (.goto 4, 3) := by decide +kernel
theorem dX8_set_29 : decode cX8_set 29 = .ok (.iconst 0, 1) := by decide +kernel
theorem dX8_set_30 : decode cX8_set 30 = .ok (.bastore, 1) := by decide +kernel
theorem dX8_set_31 : decode cX8_set 31 = .ok (.aload_n 0, 1) := by decide +kernel
theorem dX8_set_32 : decode cX8_set 32 = .ok (.getfield 14, 3) := by decide +kernel
theorem dX8_set_35 : decode cX8_set 35 = .ok (.iload_n 1, 1) := by decide +kernel
theorem dX8_set_36 : decode cX8_set 36 = .ok (.iconst 0, 1) := by decide +kernel
theorem dX8_set_37 : decode cX8_set 37 = .ok (.iastore, 1) := by decide +kernel
theorem dX8_set_38 : decode cX8_set 38 = .ok (.lload 4, 2) := by decide +kernel
theorem dX8_set_40 : decode cX8_set 40 = .ok (.lconst 0, 1) := by decide +kernel
theorem dX8_set_41 : decode cX8_set 41 = .ok (.lcmp, 1) := by decide +kernel
theorem dX8_set_42 : decode cX8_set 42 = .ok (.ifCond .eq 43, 3) := by decide +kernel
theorem dX8_set_45 : decode cX8_set 45 = .ok (.aload_n 0, 1) := by decide +kernel
theorem dX8_set_46 : decode cX8_set 46 = .ok (.getfield 8, 3) := by decide +kernel
theorem dX8_set_49 : decode cX8_set 49 = .ok (.sipush 1200, 3) := by decide +kernel
theorem dX8_set_52 : decode cX8_set 52 = .ok (.iload_n 1, 1) := by decide +kernel
theorem dX8_set_53 : decode cX8_set 53 = .ok (.imul, 1) := by decide +kernel
theorem dX8_set_54 : decode cX8_set 54 = .ok (.aload_n 0, 1) := by decide +kernel
theorem dX8_set_55 : decode cX8_set 55 = .ok (.getfield 14, 3) := by decide +kernel
theorem dX8_set_58 : decode cX8_set 58 = .ok (.iload_n 1, 1) := by decide +kernel
theorem dX8_set_59 : decode cX8_set 59 = .ok (.iaload, 1) := by decide +kernel
theorem dX8_set_60 : decode cX8_set 60 = .ok (.iadd, 1) := by decide +kernel
theorem dX8_set_61 : decode cX8_set 61 = .ok (.lload 4, 2) := by decide +kernel
theorem dX8_set_63 : decode cX8_set 63 = .ok (.l2i, 1) := by decide +kernel
theorem dX8_set_64 : decode cX8_set 64 = .ok (.iastore, 1) := by decide +kernel
theorem dX8_set_65 : decode cX8_set 65 = .ok (.aload_n 0, 1) := by decide +kernel
theorem dX8_set_66 : decode cX8_set 66 = .ok (.getfield 14, 3) := by decide +kernel
theorem dX8_set_69 : decode cX8_set 69 = .ok (.iload_n 1, 1) := by decide +kernel
theorem dX8_set_70 : decode cX8_set 70 = .ok (.dup2, 1) := by decide +kernel
theorem dX8_set_71 : decode cX8_set 71 = .ok (.iaload, 1) := by decide +kernel
theorem dX8_set_72 : decode cX8_set 72 = .ok (.iconst 1, 1) := by decide +kernel
theorem dX8_set_73 : decode cX8_set 73 = .ok (.iadd, 1) := by decide +kernel
theorem dX8_set_74 : decode cX8_set 74 = .ok (.iastore, 1) := by decide +kernel
theorem dX8_set_75 : decode cX8_set 75 = .ok (.lload 4, 2) := by decide +kernel
theorem dX8_set_77 : decode cX8_set 77 = .ok (.bipush 32, 2) := by decide +kernel
theorem dX8_set_79 : decode cX8_set 79 = .ok (.lushr, 1) := by decide +kernel
theorem dX8_set_80 : decode cX8_set 80 = .ok (.lstore 4, 2) := by decide +kernel
theorem dX8_set_82 : decode cX8_set 82 = .ok (.goto (-44), 3) := by decide +kernel
theorem dX8_set_85 : decode cX8_set 85 = .ok (.return_, 1) := by decide +kernel
theorem dX8_copy_0 : decode cX8_copy 0 = .ok (.iconst 0, 1) := by decide +kernel
theorem dX8_copy_1 : decode cX8_copy 1 = .ok (.istore_n 3, 1) := by decide +kernel
theorem dX8_copy_2 : decode cX8_copy 2 = .ok (.iload_n 3, 1) := by decide +kernel
theorem dX8_copy_3 : decode cX8_copy 3 = .ok (.aload_n 0, 1) := by decide +kernel
theorem dX8_copy_4 : decode cX8_copy 4 = .ok (.getfield 14, 3) := by decide +kernel
theorem dX8_copy_7 : decode cX8_copy 7 = .ok (.iload_n 1, 1) := by decide +kernel
theorem dX8_copy_8 : decode cX8_copy 8 = .ok (.iaload, 1) := by decide +kernel
theorem dX8_copy_9 : decode cX8_copy 9 = .ok (.if_icmp .ge 33, 3) := by decide +kernel
theorem dX8_copy_12 : decode cX8_copy 12 = .ok (.aload_n 0, 1) := by decide +kernel
theorem dX8_copy_13 : decode cX8_copy 13 = .ok (.getfield 8, 3) := by decide +kernel
theorem dX8_copy_16 : decode cX8_copy 16 = .ok (.sipush 1200, 3) := by decide +kernel
theorem dX8_copy_19 : decode cX8_copy 19 = .ok (.iload_n 2, 1) := by decide +kernel
theorem dX8_copy_20 : decode cX8_copy 20 = .ok (.imul, 1) := by decide +kernel
theorem dX8_copy_21 : decode cX8_copy 21 = .ok (.iload_n 3, 1) := by decide +kernel
theorem dX8_copy_22 : decode cX8_copy 22 = .ok (.iadd, 1) := by decide +kernel
theorem dX8_copy_23 : decode cX8_copy 23 = .ok (.aload_n 0, 1) := by decide +kernel
theorem dX8_copy_24 : decode cX8_copy 24 = .ok (.getfield 8, 3) := by decide +kernel
theorem dX8_copy_27 : decode cX8_copy 27 = .ok (.sipush 1200, 3) := by decide +kernel
theorem dX8_copy_30 : decode cX8_copy 30 = .ok (.iload_n 1, 1) := by decide +kernel
theorem dX8_copy_31 : decode cX8_copy 31 = .ok (.imul, 1) := by decide +kernel
theorem dX8_copy_32 : decode cX8_copy 32 = .ok (.iload_n 3, 1) := by decide +kernel
theorem dX8_copy_33 : decode cX8_copy 33 = .ok (.iadd, 1) := by decide +kernel
theorem dX8_copy_34 : decode cX8_copy 34 = .ok (.iaload, 1) := by decide +kernel
theorem dX8_copy_35 : decode cX8_copy 35 = .ok (.iastore, 1) := by decide +kernel
theorem dX8_copy_36 : decode cX8_copy 36 = .ok (.iinc 3 1, 3) := by decide +kernel
theorem dX8_copy_39 : decode cX8_copy 39 = .ok (.goto (-37), 3) := by decide +kernel
theorem dX8_copy_42 : decode cX8_copy 42 = .ok (.aload_n 0, 1) := by decide +kernel
theorem dX8_copy_43 : decode cX8_copy 43 = .ok (.getfield 14, 3) := by decide +kernel
theorem dX8_copy_46 : decode cX8_copy 46 = .ok (.iload_n 2, 1) := by decide +kernel
theorem dX8_copy_47 : decode cX8_copy 47 = .ok (.aload_n 0, 1) := by decide +kernel
theorem dX8_copy_48 : decode cX8_copy 48 = .ok (.getfield 14, 3) := by decide +kernel
theorem dX8_copy_51 : decode cX8_copy 51 = .ok (.iload_n 1, 1) := by decide +kernel
theorem dX8_copy_52 : decode cX8_copy 52 = .ok (.iaload, 1) := by decide +kernel
theorem dX8_copy_53 : decode cX8_copy 53 = .ok (.iastore, 1) := by decide +kernel
theorem dX8_copy_54 : decode cX8_copy 54 = .ok (.aload_n 0, 1) := by decide +kernel
theorem dX8_copy_55 : decode cX8_copy 55 = .ok (.getfield 17, 3) := by decide +kernel
theorem dX8_copy_58 : decode cX8_copy 58 = .ok (.iload_n 2, 1) := by decide +kernel
theorem dX8_copy_59 : decode cX8_copy 59 = .ok (.aload_n 0, 1) := by decide +kernel
theorem dX8_copy_60 : decode cX8_copy 60 = .ok (.getfield 17, 3) := by decide +kernel
theorem dX8_copy_63 : decode cX8_copy 63 = .ok (.iload_n 1, 1) := by decide +kernel
theorem dX8_copy_64 : decode cX8_copy 64 = .ok (.baload, 1) := by decide +kernel
theorem dX8_copy_65 : decode cX8_copy 65 = .ok (.bastore, 1) := by decide +kernel
theorem dX8_copy_66 : decode cX8_copy 66 = .ok (.return_, 1) := by decide +kernel
theorem dX8_times_0 : decode cX8_times 0 = .ok (.iload_n 2, 1) := by decide +kernel
theorem dX8_times_1 : decode cX8_times 1 = .ok (.ifCond .ge 9, 3) := by decide +kernel
theorem dX8_times_4 : decode cX8_times 4 = .ok (.iload_n 2, 1) := by decide +kernel
theorem dX8_times_5 : decode cX8_times 5 = .ok (.i2l, 1) := by decide +kernel
theorem dX8_times_6 : decode cX8_times 6 = .ok (.lneg, 1) := by decide +kernel
theorem dX8_times_7 : decode cX8_times 7 = .ok (.goto 5, 3) := by decide +kernel
theorem dX8_times_10 : decode cX8_times 10 = .ok (.iload_n 2, 1) := by decide +kernel
theorem dX8_times_11 : decode cX8_times 11 = .ok (.i2l, 1) := by decide +kernel
theorem dX8_times_12 : decode cX8_times 12 = .ok (.lstore_n 3, 1) := by decide +kernel
theorem dX8_times_13 : decode cX8_times 13 = .ok (.lconst 0, 1) := by decide +kernel
theorem dX8_times_14 : decode cX8_times 14 = .ok (.lstore 5, 2) := by decide +kernel
theorem dX8_times_16 : decode cX8_times 16 = .ok (.sipush 1200, 3) := by decide +kernel
theorem dX8_times_19 : decode cX8_times 19 = .ok (.iload_n 1, 1) := by decide +kernel
theorem dX8_times_20 : decode cX8_times 20 = .ok (.imul, 1) := by decide +kernel
theorem dX8_times_21 : decode cX8_times 21 = .ok (.istore 7, 2) := by decide +kernel
theorem dX8_times_23 : decode cX8_times 23 = .ok (.iload 7, 2) := by decide +kernel
theorem dX8_times_25 : decode cX8_times 25 = .ok (.sipush 1200, 3) := by decide +kernel
theorem dX8_times_28 : decode cX8_times 28 = .ok (.iload_n 1, 1) := by decide +kernel
theorem dX8_times_29 : decode cX8_times 29 = .ok (.imul, 1) := by decide +kernel
theorem dX8_times_30 : decode cX8_times 30 = .ok (.aload_n 0, 1) := by decide +kernel
theorem dX8_times_31 : decode cX8_times 31 = .ok (.getfield 14, 3) := by decide +kernel
theorem dX8_times_34 : decode cX8_times 34 = .ok (.iload_n 1, 1) := by decide +kernel
theorem dX8_times_35 : decode cX8_times 35 = .ok (.iaload, 1) := by decide +kernel
theorem dX8_times_36 : decode cX8_times 36 = .ok (.iadd, 1) := by decide +kernel
theorem dX8_times_37 : decode cX8_times 37 = .ok (.if_icmp .ge 45, 3) := by decide +kernel
theorem dX8_times_40 : decode cX8_times 40 = .ok (.lload 5, 2) := by decide +kernel
theorem dX8_times_42 : decode cX8_times 42 = .ok (.aload_n 0, 1) := by decide +kernel
theorem dX8_times_43 : decode cX8_times 43 = .ok (.getfield 8, 3) := by decide +kernel
theorem dX8_times_46 : decode cX8_times 46 = .ok (.iload 7, 2) := by decide +kernel
theorem dX8_times_48 : decode cX8_times 48 = .ok (.iaload, 1) := by decide +kernel
theorem dX8_times_49 : decode cX8_times 49 = .ok (.i2l, 1) := by decide +kernel
theorem dX8_times_50 : decode cX8_times 50 = .ok (.ldc2_w 64, 3) := by decide +kernel
theorem dX8_times_53 : decode cX8_times 53 = .ok (.land, 1) := by decide +kernel
theorem dX8_times_54 : decode cX8_times 54 = .ok (.lload_n 3, 1) := by decide +kernel
theorem dX8_times_55 : decode cX8_times 55 = .ok (.lmul, 1) := by decide +kernel
theorem dX8_times_56 : decode cX8_times 56 = .ok (.ladd, 1) := by decide +kernel
theorem dX8_times_57 : decode cX8_times 57 = .ok (.lstore 5, 2) := by decide +kernel
theorem dX8_times_59 : decode cX8_times 59 = .ok (.aload_n 0, 1) := by decide +kernel
theorem dX8_times_60 : decode cX8_times 60 = .ok (.getfield 8, 3) := by decide +kernel
theorem dX8_times_63 : decode cX8_times 63 = .ok (.iload 7, 2) := by decide +kernel
theorem dX8_times_65 : decode cX8_times 65 = .ok (.lload 5, 2) := by decide +kernel
theorem dX8_times_67 : decode cX8_times 67 = .ok (.l2i, 1) := by decide +kernel
theorem dX8_times_68 : decode cX8_times 68 = .ok (.iastore, 1) := by decide +kernel
theorem dX8_times_69 : decode cX8_times 69 = .ok (.lload 5, 2) := by decide +kernel
theorem dX8_times_71 : decode cX8_times 71 = .ok (.bipush 32, 2) := by decide +kernel
theorem dX8_times_73 : decode cX8_times 73 = .ok (.lushr, 1) := by decide +kernel
theorem dX8_times_74 : decode cX8_times 74 = .ok (.lstore 5, 2) := by decide +kernel
theorem dX8_times_76 : decode cX8_times 76 = .ok (.iinc 7 1, 3) := by decide +kernel
theorem dX8_times_79 : decode cX8_times 79 = .ok (.goto (-56), 3) := by decide +kernel
theorem dX8_times_82 : decode cX8_times 82 = .ok (.lload 5, 2) := by decide +kernel
theorem dX8_times_84 : decode cX8_times 84 = .ok (.lconst 0, 1) := by decide +kernel
theorem dX8_times_85 : decode cX8_times 85 = .ok (.lcmp, 1) := by decide +kernel
theorem dX8_times_86 : decode cX8_times 86 = .ok (.ifCond .eq 33, 3) := by decide +kernel
theorem dX8_times_89 : decode cX8_times 89 = .ok (.aload_n 0, 1) := by decide +kernel
theorem dX8_times_90 : decode cX8_times 90 = .ok (.getfield 8, 3) := by decide +kernel
theorem dX8_times_93 : decode cX8_times 93 = .ok (.sipush 1200, 3) := by decide +kernel
theorem dX8_times_96 : decode cX8_times 96 = .ok (.iload_n 1, 1) := by decide +kernel
theorem dX8_times_97 : decode cX8_times 97 = .ok (.imul, 1) := by decide +kernel
theorem dX8_times_98 : decode cX8_times 98 = .ok (.aload_n 0, 1) := by decide +kernel
theorem dX8_times_99 : decode cX8_times 99 = .ok (.getfield 14, 3) := by decide +kernel
theorem dX8_times_102 : decode cX8_times 102 = .ok (.iload_n 1, 1) := by decide +kernel
theorem dX8_times_103 : decode cX8_times 103 = .ok (.iaload, 1) := by decide +kernel
theorem dX8_times_104 : decode cX8_times 104 = .ok (.iadd, 1) := by decide +kernel
theorem dX8_times_105 : decode cX8_times 105 = .ok (.lload 5, 2) := by decide +kernel
theorem dX8_times_107 : decode cX8_times 107 = .ok (.l2i, 1) := by decide +kernel
theorem dX8_times_108 : decode cX8_times 108 = .ok (.iastore, 1) := by decide +kernel
theorem dX8_times_109 : decode cX8_times 109 = .ok (.aload_n 0, 1) := by decide +kernel
theorem dX8_times_110 : decode cX8_times 110 = .ok (.getfield 14, 3) := by decide +kernel
theorem dX8_times_113 : decode cX8_times 113 = .ok (.iload_n 1, 1) := by decide +kernel
theorem dX8_times_114 : decode cX8_times 114 = .ok (.dup2, 1) := by decide +kernel
theorem dX8_times_115 : decode cX8_times 115 = .ok (.iaload, 1) := by decide +kernel
theorem dX8_times_116 : decode cX8_times 116 = .ok (.iconst 1, 1) := by decide +kernel
theorem dX8_times_117 : decode cX8_times 117 = .ok (.iadd, 1) := by decide +kernel
theorem dX8_times_118 : decode cX8_times 118 = .ok (.iastore, 1) := by decide +kernel
theorem dX8_times_119 : decode cX8_times 119 = .ok (.aload_n 0, 1) := by decide +kernel
theorem dX8_times_120 : decode cX8_times 120 = .ok (.getfield 17, 3) := by decide +kernel
theorem dX8_times_123 : decode cX8_times 123 = .ok (.iload_n 1, 1) := by decide +kernel
theorem dX8_times_124 : decode cX8_times 124 = .ok (.aload_n 0, 1) := by decide +kernel
theorem dX8_times_125 : decode cX8_times 125 = .ok (.getfield 17, 3) := by decide +kernel
theorem dX8_times_128 : decode cX8_times 128 = .ok (.iload_n 1, 1) := by decide +kernel
theorem dX8_times_129 : decode cX8_times 129 = .ok (.baload, 1) := by decide +kernel
theorem dX8_times_130 : decode cX8_times 130 = .ok (.iload_n 2, 1) := by decide +kernel
theorem dX8_times_131 : decode cX8_times 131 = .ok (.ifCond .ge 7, 3) := by decide +kernel
theorem dX8_times_134 : decode cX8_times 134 = .ok (.iconst 1, 1) := by decide +kernel
theorem dX8_times_135 : decode cX8_times 135 = .ok (.goto 4, 3) := by decide +kernel
theorem dX8_times_138 : decode cX8_times 138 = .ok (.iconst 0, 1) := by decide +kernel
theorem dX8_times_139 : decode cX8_times 139 = .ok (.if_icmp .eq 7, 3) := by decide +kernel
theorem dX8_times_142 : decode cX8_times 142 = .ok (.iconst 1, 1) := by decide +kernel
theorem dX8_times_143 : decode cX8_times 143 = .ok (.goto 4, 3) := by decide +kernel
theorem dX8_times_146 : decode cX8_times 146 = .ok (.iconst 0, 1) := by decide +kernel
theorem dX8_times_147 : decode cX8_times 147 = .ok (.bastore, 1) := by decide +kernel
theorem dX8_times_148 : decode cX8_times 148 = .ok (.iload_n 2, 1) := by decide +kernel
theorem dX8_times_149 : decode cX8_times 149 = .ok (.ifCond .ne 10, 3) := by decide +kernel
theorem dX8_times_152 : decode cX8_times 152 = .ok (.aload_n 0, 1) := by decide +kernel
theorem dX8_times_153 : decode cX8_times 153 = .ok (.getfield 14, 3) := by decide +kernel
theorem dX8_times_156 : decode cX8_times 156 = .ok (.iload_n 1, 1) := by decide +kernel
theorem dX8_times_157 : decode cX8_times 157 = .ok (.iconst 0, 1) := by decide +kernel
theorem dX8_times_158 : decode cX8_times 158 = .ok (.iastore, 1) := by decide +kernel
theorem dX8_times_159 : decode cX8_times 159 = .ok (.aload_n 0, 1) := by decide +kernel
theorem dX8_times_160 : decode cX8_times 160 = .ok (.getfield 17, 3) := by decide +kernel
theorem dX8_times_163 : decode cX8_times 163 = .ok (.iload_n 1, 1) := by decide +kernel
theorem dX8_times_164 : decode cX8_times 164 = .ok (.aload_n 0, 1) := by decide +kernel
theorem dX8_times_165 : decode cX8_times 165 = .ok (.getfield 17, 3) := by decide +kernel
theorem dX8_times_168 : decode cX8_times 168 = .ok (.iload_n 1, 1) := by decide +kernel
theorem dX8_times_169 : decode cX8_times 169 = .ok (.baload, 1) := by decide +kernel
theorem dX8_times_170 : decode cX8_times 170 = .ok (.ifCond .eq 16, 3) := by decide +kernel
theorem dX8_times_173 : decode cX8_times 173 = .ok (.aload_n 0, 1) := by decide +kernel
theorem dX8_times_174 : decode cX8_times 174 = .ok (.getfield 14, 3) := by decide +kernel
theorem dX8_times_177 : decode cX8_times 177 = .ok (.iload_n 1, 1) := by decide +kernel
theorem dX8_times_178 : decode cX8_times 178 = .ok (.iaload, 1) := by decide +kernel
theorem dX8_times_179 : decode cX8_times 179 = .ok (.ifCond .le 7, 3) := by decide +kernel
theorem dX8_times_182 : decode cX8_times 182 = .ok (.iconst 1, 1) := by decide +kernel
theorem dX8_times_183 : decode cX8_times 183 = .ok (.goto 4, 3) := by decide +kernel
theorem dX8_times_186 : decode cX8_times 186 = .ok (.iconst 0, 1) := by decide +kernel
theorem dX8_times_187 : decode cX8_times 187 = .ok (.bastore, 1) := by decide +kernel
theorem dX8_times_188 : decode cX8_times 188 = .ok (.return_, 1) := by decide +kernel
theorem dX8_order_0 : decode cX8_order 0 = .ok (.aload_n 0, 1) := by decide +kernel
theorem dX8_order_1 : decode cX8_order 1 = .ok (.getfield 14, 3) := by decide +kernel
theorem dX8_order_4 : decode cX8_order 4 = .ok (.iload_n 1, 1) := by decide +kernel
theorem dX8_order_5 : decode cX8_order 5 = .ok (.iaload, 1) := by decide +kernel
theorem dX8_order_6 : decode cX8_order 6 = .ok (.aload_n 0, 1) := by decide +kernel
theorem dX8_order_7 : decode cX8_order 7 = .ok (.getfield 14, 3) := by decide +kernel
theorem dX8_order_10 : decode cX8_order 10 = .ok (.iload_n 2, 1) := by decide +kernel
theorem dX8_order_11 : decode cX8_order 11 = .ok (.iaload, 1) := by decide +kernel
theorem dX8_order_12 : decode cX8_order 12 = .ok (.if_icmp .eq 17, 3) := by decide +kernel
theorem dX8_order_15 : decode cX8_order 15 = .ok (.aload_n 0, 1) := by decide +kernel
theorem dX8_order_16 : decode cX8_order 16 = .ok (.getfield 14, 3) := by decide +kernel
theorem dX8_order_19 : decode cX8_order 19 = .ok (.iload_n 1, 1) := by decide +kernel
theorem dX8_order_20 : decode cX8_order 20 = .ok (.iaload, 1) := by decide +kernel
theorem dX8_order_21 : decode cX8_order 21 = .ok (.aload_n 0, 1) := by decide +kernel
theorem dX8_order_22 : decode cX8_order 22 = .ok (.getfield 14, 3) := by decide +kernel
theorem dX8_order_25 : decode cX8_order 25 = .ok (.iload_n 2, 1) := by decide +kernel
theorem dX8_order_26 : decode cX8_order 26 = .ok (.iaload, 1) := by decide +kernel
theorem dX8_order_27 : decode cX8_order 27 = .ok (.isub, 1) := by decide +kernel
theorem dX8_order_28 : decode cX8_order 28 = .ok (.ireturn, 1) := by decide +kernel
theorem dX8_order_29 : decode cX8_order 29 = .ok (.aload_n 0, 1) := by decide +kernel
theorem dX8_order_30 : decode cX8_order 30 = .ok (.getfield 14, 3) := by decide +kernel
theorem dX8_order_33 : decode cX8_order 33 = .ok (.iload_n 1, 1) := by decide +kernel
theorem dX8_order_34 : decode cX8_order 34 = .ok (.iaload, 1) := by decide +kernel
theorem dX8_order_35 : decode cX8_order 35 = .ok (.iconst 1, 1) := by decide +kernel
theorem dX8_order_36 : decode cX8_order 36 = .ok (.isub, 1) := by decide +kernel
theorem dX8_order_37 : decode cX8_order 37 = .ok (.istore_n 3, 1) := by decide +kernel
theorem dX8_order_38 : decode cX8_order 38 = .ok (.iload_n 3, 1) := by decide +kernel
theorem dX8_order_39 : decode cX8_order 39 = .ok (.ifCond .lt 69, 3) := by decide +kernel
theorem dX8_order_42 : decode cX8_order 42 = .ok (.aload_n 0, 1) := by decide +kernel
theorem dX8_order_43 : decode cX8_order 43 = .ok (.getfield 8, 3) := by decide +kernel
theorem dX8_order_46 : decode cX8_order 46 = .ok (.sipush 1200, 3) := by decide +kernel
theorem dX8_order_49 : decode cX8_order 49 = .ok (.iload_n 1, 1) := by decide +kernel
theorem dX8_order_50 : decode cX8_order 50 = .ok (.imul, 1) := by decide +kernel
theorem dX8_order_51 : decode cX8_order 51 = .ok (.iload_n 3, 1) := by decide +kernel
theorem dX8_order_52 : decode cX8_order 52 = .ok (.iadd, 1) := by decide +kernel
theorem dX8_order_53 : decode cX8_order 53 = .ok (.iaload, 1) := by decide +kernel
theorem dX8_order_54 : decode cX8_order 54 = .ok (.i2l, 1) := by decide +kernel
theorem dX8_order_55 : decode cX8_order 55 = .ok (.ldc2_w 64, 3) := by decide +kernel
theorem dX8_order_58 : decode cX8_order 58 = .ok (.land, 1) := by decide +kernel
theorem dX8_order_59 : decode cX8_order 59 = .ok (.lstore 4, 2) := by decide +kernel
theorem dX8_order_61 : decode cX8_order 61 = .ok (.aload_n 0, 1) := by decide +kernel
theorem dX8_order_62 : decode cX8_order 62 = .ok (.getfield 8, 3) := by decide +kernel
theorem dX8_order_65 : decode cX8_order 65 = .ok (.sipush 1200, 3) := by decide +kernel
theorem dX8_order_68 : decode cX8_order 68 = .ok (.iload_n 2, 1) := by decide +kernel
theorem dX8_order_69 : decode cX8_order 69 = .ok (.imul, 1) := by decide +kernel
theorem dX8_order_70 : decode cX8_order 70 = .ok (.iload_n 3, 1) := by decide +kernel
theorem dX8_order_71 : decode cX8_order 71 = .ok (.iadd, 1) := by decide +kernel
theorem dX8_order_72 : decode cX8_order 72 = .ok (.iaload, 1) := by decide +kernel
theorem dX8_order_73 : decode cX8_order 73 = .ok (.i2l, 1) := by decide +kernel
theorem dX8_order_74 : decode cX8_order 74 = .ok (.ldc2_w 64, 3) := by decide +kernel
theorem dX8_order_77 : decode cX8_order 77 = .ok (.land, 1) := by decide +kernel
theorem dX8_order_78 : decode cX8_order 78 = .ok (.lstore 6, 2) := by decide +kernel
theorem dX8_order_80 : decode cX8_order 80 = .ok (.lload 4, 2) := by decide +kernel
theorem dX8_order_82 : decode cX8_order 82 = .ok (.lload 6, 2) := by decide +kernel
theorem dX8_order_84 : decode cX8_order 84 = .ok (.lcmp, 1) := by decide +kernel
theorem dX8_order_85 : decode cX8_order 85 = .ok (.ifCond .eq 17, 3) := by decide +kernel
theorem dX8_order_88 : decode cX8_order 88 = .ok (.lload 4, 2) := by decide +kernel
theorem dX8_order_90 : decode cX8_order 90 = .ok (.lload 6, 2) := by decide +kernel
theorem dX8_order_92 : decode cX8_order 92 = .ok (.lcmp, 1) := by decide +kernel
theorem dX8_order_93 : decode cX8_order 93 = .ok (.ifCond .ge 7, 3) := by decide +kernel
theorem dX8_order_96 : decode cX8_order 96 = .ok (.iconst (-1), 1) := by decide +kernel
theorem dX8_order_97 : decode cX8_order 97 = .ok (.goto 4, 3) := by decide +kernel
theorem dX8_order_100 : decode cX8_order 100 = .ok (.iconst 1, 1) := by decide +kernel
theorem dX8_order_101 : decode cX8_order 101 = .ok (.ireturn, 1) := by decide +kernel
theorem dX8_order_102 : decode cX8_order 102 = .ok (.iinc 3 (-1), 3) := by decide +kernel
theorem dX8_order_105 : decode cX8_order 105 = .ok (.goto (-67), 3) := by decide +kernel
theorem dX8_order_108 : decode cX8_order 108 = .ok (.iconst 0, 1) := by decide +kernel
theorem dX8_order_109 : decode cX8_order 109 = .ok (.ireturn, 1) := by decide +kernel
theorem dX8_trim_0 : decode cX8_trim 0 = .ok (.aload_n 0, 1) := by decide +kernel
theorem dX8_trim_1 : decode cX8_trim 1 = .ok (.getfield 14, 3) := by decide +kernel
theorem dX8_trim_4 : decode cX8_trim 4 = .ok (.iload_n 1, 1) := by decide +kernel
theorem dX8_trim_5 : decode cX8_trim 5 = .ok (.iaload, 1) := by decide +kernel
theorem dX8_trim_6 : decode cX8_trim 6 = .ok (.ifCond .le 38, 3) := by decide +kernel
theorem dX8_trim_9 : decode cX8_trim 9 = .ok (.aload_n 0, 1) := by decide +kernel
theorem dX8_trim_10 : decode cX8_trim 10 = .ok (.getfield 8, 3) := by decide +kernel
theorem dX8_trim_13 : decode cX8_trim 13 = .ok (.sipush 1200, 3) := by decide +kernel
theorem dX8_trim_16 : decode cX8_trim 16 = .ok (.iload_n 1, 1) := by decide +kernel
theorem dX8_trim_17 : decode cX8_trim 17 = .ok (.imul, 1) := by decide +kernel
theorem dX8_trim_18 : decode cX8_trim 18 = .ok (.aload_n 0, 1) := by decide +kernel
theorem dX8_trim_19 : decode cX8_trim 19 = .ok (.getfield 14, 3) := by decide +kernel
theorem dX8_trim_22 : decode cX8_trim 22 = .ok (.iload_n 1, 1) := by decide +kernel
theorem dX8_trim_23 : decode cX8_trim 23 = .ok (.iaload, 1) := by decide +kernel
theorem dX8_trim_24 : decode cX8_trim 24 = .ok (.iadd, 1) := by decide +kernel
theorem dX8_trim_25 : decode cX8_trim 25 = .ok (.iconst 1, 1) := by decide +kernel
theorem dX8_trim_26 : decode cX8_trim 26 = .ok (.isub, 1) := by decide +kernel
theorem dX8_trim_27 : decode cX8_trim 27 = .ok (.iaload, 1) := by decide +kernel
theorem dX8_trim_28 : decode cX8_trim 28 = .ok (.ifCond .ne 16, 3) := by decide +kernel
theorem dX8_trim_31 : decode cX8_trim 31 = .ok (.aload_n 0, 1) := by decide +kernel
theorem dX8_trim_32 : decode cX8_trim 32 = .ok (.getfield 14, 3) := by decide +kernel
theorem dX8_trim_35 : decode cX8_trim 35 = .ok (.iload_n 1, 1) := by decide +kernel
theorem dX8_trim_36 : decode cX8_trim 36 = .ok (.dup2, 1) := by decide +kernel
theorem dX8_trim_37 : decode cX8_trim 37 = .ok (.iaload, 1) := by decide +kernel
theorem dX8_trim_38 : decode cX8_trim 38 = .ok (.iconst 1, 1) := by decide +kernel
theorem dX8_trim_39 : decode cX8_trim 39 = .ok (.isub, 1) := by decide +kernel
theorem dX8_trim_40 : decode cX8_trim 40 = .ok (.iastore, 1) := by decide +kernel
theorem dX8_trim_41 : decode cX8_trim 41 = .ok (.goto (-41), 3) := by decide +kernel
theorem dX8_trim_44 : decode cX8_trim 44 = .ok (.aload_n 0, 1) := by decide +kernel
theorem dX8_trim_45 : decode cX8_trim 45 = .ok (.getfield 17, 3) := by decide +kernel
theorem dX8_trim_48 : decode cX8_trim 48 = .ok (.iload_n 1, 1) := by decide +kernel
theorem dX8_trim_49 : decode cX8_trim 49 = .ok (.aload_n 0, 1) := by decide +kernel
theorem dX8_trim_50 : decode cX8_trim 50 = .ok (.getfield 17, 3) := by decide +kernel
theorem dX8_trim_53 : decode cX8_trim 53 = .ok (.iload_n 1, 1) := by decide +kernel
theorem dX8_trim_54 : decode cX8_trim 54 = .ok (.baload, 1) := by decide +kernel
theorem dX8_trim_55 : decode cX8_trim 55 = .ok (.ifCond .eq 16, 3) := by decide +kernel
theorem dX8_trim_58 : decode cX8_trim 58 = .ok (.aload_n 0, 1) := by decide +kernel
theorem dX8_trim_59 : decode cX8_trim 59 = .ok (.getfield 14, 3) := by decide +kernel
theorem dX8_trim_62 : decode cX8_trim 62 = .ok (.iload_n 1, 1) := by decide +kernel
theorem dX8_trim_63 : decode cX8_trim 63 = .ok (.iaload, 1) := by decide +kernel
theorem dX8_trim_64 : decode cX8_trim 64 = .ok (.ifCond .le 7, 3) := by decide +kernel
theorem dX8_trim_67 : decode cX8_trim 67 = .ok (.iconst 1, 1) := by decide +kernel
theorem dX8_trim_68 : decode cX8_trim 68 = .ok (.goto 4, 3) := by decide +kernel
theorem dX8_trim_71 : decode cX8_trim 71 = .ok (.iconst 0, 1) := by decide +kernel
theorem dX8_trim_72 : decode cX8_trim 72 = .ok (.bastore, 1) := by decide +kernel
theorem dX8_trim_73 : decode cX8_trim 73 = .ok (.return_, 1) := by decide +kernel
theorem dX8_gain_0 : decode cX8_gain 0 = .ok (.lconst 0, 1) := by decide +kernel
theorem dX8_gain_1 : decode cX8_gain 1 = .ok (.lstore_n 3, 1) := by decide +kernel
theorem dX8_gain_2 : decode cX8_gain 2 = .ok (.aload_n 0, 1) := by decide +kernel
theorem dX8_gain_3 : decode cX8_gain 3 = .ok (.getfield 14, 3) := by decide +kernel
theorem dX8_gain_6 : decode cX8_gain 6 = .ok (.iload_n 1, 1) := by decide +kernel
theorem dX8_gain_7 : decode cX8_gain 7 = .ok (.iaload, 1) := by decide +kernel
theorem dX8_gain_8 : decode cX8_gain 8 = .ok (.aload_n 0, 1) := by decide +kernel
theorem dX8_gain_9 : decode cX8_gain 9 = .ok (.getfield 14, 3) := by decide +kernel
theorem dX8_gain_12 : decode cX8_gain 12 = .ok (.iload_n 2, 1) := by decide +kernel
theorem dX8_gain_13 : decode cX8_gain 13 = .ok (.iaload, 1) := by decide +kernel
theorem dX8_gain_14 : decode cX8_gain 14 = .ok (.if_icmp .le 12, 3) := by decide +kernel
theorem dX8_gain_17 : decode cX8_gain 17 = .ok (.aload_n 0, 1) := by decide +kernel
theorem dX8_gain_18 : decode cX8_gain 18 = .ok (.getfield 14, 3) := by decide +kernel
theorem dX8_gain_21 : decode cX8_gain 21 = .ok (.iload_n 1, 1) := by decide +kernel
theorem dX8_gain_22 : decode cX8_gain 22 = .ok (.iaload, 1) := by decide +kernel
theorem dX8_gain_23 : decode cX8_gain 23 = .ok (.goto 9, 3) := by decide +kernel
theorem dX8_gain_26 : decode cX8_gain 26 = .ok (.aload_n 0, 1) := by decide +kernel
theorem dX8_gain_27 : decode cX8_gain 27 = .ok (.getfield 14, 3) := by decide +kernel
theorem dX8_gain_30 : decode cX8_gain 30 = .ok (.iload_n 2, 1) := by decide +kernel
theorem dX8_gain_31 : decode cX8_gain 31 = .ok (.iaload, 1) := by decide +kernel
theorem dX8_gain_32 : decode cX8_gain 32 = .ok (.istore 5, 2) := by decide +kernel
theorem dX8_gain_34 : decode cX8_gain 34 = .ok (.iconst 0, 1) := by decide +kernel
theorem dX8_gain_35 : decode cX8_gain 35 = .ok (.istore 6, 2) := by decide +kernel
theorem dX8_gain_37 : decode cX8_gain 37 = .ok (.iload 6, 2) := by decide +kernel
theorem dX8_gain_39 : decode cX8_gain 39 = .ok (.iload 5, 2) := by decide +kernel
theorem dX8_gain_41 : decode cX8_gain 41 = .ok (.if_icmp .ge 101, 3) := by decide +kernel
theorem dX8_gain_44 : decode cX8_gain 44 = .ok (.lload_n 3, 1) := by decide +kernel
theorem dX8_gain_45 : decode cX8_gain 45 = .ok (.iload 6, 2) := by decide +kernel
theorem dX8_gain_47 : decode cX8_gain 47 = .ok (.aload_n 0, 1) := by decide +kernel
theorem dX8_gain_48 : decode cX8_gain 48 = .ok (.getfield 14, 3) := by decide +kernel
theorem dX8_gain_51 : decode cX8_gain 51 = .ok (.iload_n 1, 1) := by decide +kernel
theorem dX8_gain_52 : decode cX8_gain 52 = .ok (.iaload, 1) := by decide +kernel
theorem dX8_gain_53 : decode cX8_gain 53 = .ok (.if_icmp .ge 24, 3) := by decide +kernel
theorem dX8_gain_56 : decode cX8_gain 56 = .ok (.aload_n 0, 1) := by decide +kernel
theorem dX8_gain_57 : decode cX8_gain 57 = .ok (.getfield 8, 3) := by decide +kernel
theorem dX8_gain_60 : decode cX8_gain 60 = .ok (.sipush 1200, 3) := by decide +kernel
theorem dX8_gain_63 : decode cX8_gain 63 = .ok (.iload_n 1, 1) := by decide +kernel
theorem dX8_gain_64 : decode cX8_gain 64 = .ok (.imul, 1) := by decide +kernel
theorem dX8_gain_65 : decode cX8_gain 65 = .ok (.iload 6, 2) := by decide +kernel
theorem dX8_gain_67 : decode cX8_gain 67 = .ok (.iadd, 1) := by decide +kernel
theorem dX8_gain_68 : decode cX8_gain 68 = .ok (.iaload, 1) := by decide +kernel
theorem dX8_gain_69 : decode cX8_gain 69 = .ok (.i2l, 1) := by decide +kernel
theorem dX8_gain_70 : decode cX8_gain 70 = .ok (.ldc2_w 64, 3) := by decide +kernel
theorem dX8_gain_73 : decode cX8_gain 73 = .ok (.land, 1) := by decide +kernel
theorem dX8_gain_74 : decode cX8_gain 74 = .ok (.goto 4, 3) := by decide +kernel
theorem dX8_gain_77 : decode cX8_gain 77 = .ok (.lconst 0, 1) := by decide +kernel
theorem dX8_gain_78 : decode cX8_gain 78 = .ok (.ladd, 1) := by decide +kernel
theorem dX8_gain_79 : decode cX8_gain 79 = .ok (.lstore_n 3, 1) := by decide +kernel
theorem dX8_gain_80 : decode cX8_gain 80 = .ok (.lload_n 3, 1) := by decide +kernel
theorem dX8_gain_81 : decode cX8_gain 81 = .ok (.iload 6, 2) := by decide +kernel
theorem dX8_gain_83 : decode cX8_gain 83 = .ok (.aload_n 0, 1) := by decide +kernel
theorem dX8_gain_84 : decode cX8_gain 84 = .ok (.getfield 14, 3) := by decide +kernel
theorem dX8_gain_87 : decode cX8_gain 87 = .ok (.iload_n 2, 1) := by decide +kernel
theorem dX8_gain_88 : decode cX8_gain 88 = .ok (.iaload, 1) := by decide +kernel
theorem dX8_gain_89 : decode cX8_gain 89 = .ok (.if_icmp .ge 24, 3) := by decide +kernel
theorem dX8_gain_92 : decode cX8_gain 92 = .ok (.aload_n 0, 1) := by decide +kernel
theorem dX8_gain_93 : decode cX8_gain 93 = .ok (.getfield 8, 3) := by decide +kernel
theorem dX8_gain_96 : decode cX8_gain 96 = .ok (.sipush 1200, 3) := by decide +kernel
theorem dX8_gain_99 : decode cX8_gain 99 = .ok (.iload_n 2, 1) := by decide +kernel
theorem dX8_gain_100 : decode cX8_gain 100 = .ok (.imul, 1) := by decide +kernel
theorem dX8_gain_101 : decode cX8_gain 101 = .ok (.iload 6, 2) := by decide +kernel
theorem dX8_gain_103 : decode cX8_gain 103 = .ok (.iadd, 1) := by decide +kernel
theorem dX8_gain_104 : decode cX8_gain 104 = .ok (.iaload, 1) := by decide +kernel
theorem dX8_gain_105 : decode cX8_gain 105 = .ok (.i2l, 1) := by decide +kernel
theorem dX8_gain_106 : decode cX8_gain 106 = .ok (.ldc2_w 64, 3) := by decide +kernel
theorem dX8_gain_109 : decode cX8_gain 109 = .ok (.land, 1) := by decide +kernel
theorem dX8_gain_110 : decode cX8_gain 110 = .ok (.goto 4, 3) := by decide +kernel
theorem dX8_gain_113 : decode cX8_gain 113 = .ok (.lconst 0, 1) := by decide +kernel
theorem dX8_gain_114 : decode cX8_gain 114 = .ok (.ladd, 1) := by decide +kernel
theorem dX8_gain_115 : decode cX8_gain 115 = .ok (.lstore_n 3, 1) := by decide +kernel
theorem dX8_gain_116 : decode cX8_gain 116 = .ok (.aload_n 0, 1) := by decide +kernel
theorem dX8_gain_117 : decode cX8_gain 117 = .ok (.getfield 8, 3) := by decide +kernel
theorem dX8_gain_120 : decode cX8_gain 120 = .ok (.sipush 1200, 3) := by decide +kernel
theorem dX8_gain_123 : decode cX8_gain 123 = .ok (.iload_n 1, 1) := by decide +kernel
theorem dX8_gain_124 : decode cX8_gain 124 = .ok (.imul, 1) := by decide +kernel
theorem dX8_gain_125 : decode cX8_gain 125 = .ok (.iload 6, 2) := by decide +kernel
theorem dX8_gain_127 : decode cX8_gain 127 = .ok (.iadd, 1) := by decide +kernel
theorem dX8_gain_128 : decode cX8_gain 128 = .ok (.lload_n 3, 1) := by decide +kernel
theorem dX8_gain_129 : decode cX8_gain 129 = .ok (.l2i, 1) := by decide +kernel
theorem dX8_gain_130 : decode cX8_gain 130 = .ok (.iastore, 1) := by decide +kernel
theorem dX8_gain_131 : decode cX8_gain 131 = .ok (.lload_n 3, 1) := by decide +kernel
theorem dX8_gain_132 : decode cX8_gain 132 = .ok (.bipush 32, 2) := by decide +kernel
theorem dX8_gain_134 : decode cX8_gain 134 = .ok (.lushr, 1) := by decide +kernel
theorem dX8_gain_135 : decode cX8_gain 135 = .ok (.lstore_n 3, 1) := by decide +kernel
theorem dX8_gain_136 : decode cX8_gain 136 = .ok (.iinc 6 1, 3) := by decide +kernel
theorem dX8_gain_139 : decode cX8_gain 139 = .ok (.goto (-102), 3) := by decide +kernel
theorem dX8_gain_142 : decode cX8_gain 142 = .ok (.aload_n 0, 1) := by decide +kernel
theorem dX8_gain_143 : decode cX8_gain 143 = .ok (.getfield 14, 3) := by decide +kernel
theorem dX8_gain_146 : decode cX8_gain 146 = .ok (.iload_n 1, 1) := by decide +kernel
theorem dX8_gain_147 : decode cX8_gain 147 = .ok (.iload 5, 2) := by decide +kernel
theorem dX8_gain_149 : decode cX8_gain 149 = .ok (.iastore, 1) := by decide +kernel
theorem dX8_gain_150 : decode cX8_gain 150 = .ok (.lload_n 3, 1) := by decide +kernel
theorem dX8_gain_151 : decode cX8_gain 151 = .ok (.lconst 0, 1) := by decide +kernel
theorem dX8_gain_152 : decode cX8_gain 152 = .ok (.lcmp, 1) := by decide +kernel
theorem dX8_gain_153 : decode cX8_gain 153 = .ok (.ifCond .eq 28, 3) := by decide +kernel
theorem dX8_gain_156 : decode cX8_gain 156 = .ok (.aload_n 0, 1) := by decide +kernel
theorem dX8_gain_157 : decode cX8_gain 157 = .ok (.getfield 8, 3) := by decide +kernel
theorem dX8_gain_160 : decode cX8_gain 160 = .ok (.sipush 1200, 3) := by decide +kernel
theorem dX8_gain_163 : decode cX8_gain 163 = .ok (.iload_n 1, 1) := by decide +kernel
theorem dX8_gain_164 : decode cX8_gain 164 = .ok (.imul, 1) := by decide +kernel
theorem dX8_gain_165 : decode cX8_gain 165 = .ok (.iload 5, 2) := by decide +kernel
theorem dX8_gain_167 : decode cX8_gain 167 = .ok (.iadd, 1) := by decide +kernel
theorem dX8_gain_168 : decode cX8_gain 168 = .ok (.lload_n 3, 1) := by decide +kernel
theorem dX8_gain_169 : decode cX8_gain 169 = .ok (.l2i, 1) := by decide +kernel
theorem dX8_gain_170 : decode cX8_gain 170 = .ok (.iastore, 1) := by decide +kernel
theorem dX8_gain_171 : decode cX8_gain 171 = .ok (.aload_n 0, 1) := by decide +kernel
theorem dX8_gain_172 : decode cX8_gain 172 = .ok (.getfield 14, 3) := by decide +kernel
theorem dX8_gain_175 : decode cX8_gain 175 = .ok (.iload_n 1, 1) := by decide +kernel
theorem dX8_gain_176 : decode cX8_gain 176 = .ok (.dup2, 1) := by decide +kernel
theorem dX8_gain_177 : decode cX8_gain 177 = .ok (.iaload, 1) := by decide +kernel
theorem dX8_gain_178 : decode cX8_gain 178 = .ok (.iconst 1, 1) := by decide +kernel
theorem dX8_gain_179 : decode cX8_gain 179 = .ok (.iadd, 1) := by decide +kernel
theorem dX8_gain_180 : decode cX8_gain 180 = .ok (.iastore, 1) := by decide +kernel
theorem dX8_gain_181 : decode cX8_gain 181 = .ok (.return_, 1) := by decide +kernel
theorem dX8_lose_0 : decode cX8_lose 0 = .ok (.lconst 0, 1) := by decide +kernel
theorem dX8_lose_1 : decode cX8_lose 1 = .ok (.lstore_n 3, 1) := by decide +kernel
theorem dX8_lose_2 : decode cX8_lose 2 = .ok (.iconst 0, 1) := by decide +kernel
theorem dX8_lose_3 : decode cX8_lose 3 = .ok (.istore 5, 2) := by decide +kernel
theorem dX8_lose_5 : decode cX8_lose 5 = .ok (.iload 5, 2) := by decide +kernel
theorem dX8_lose_7 : decode cX8_lose 7 = .ok (.aload_n 0, 1) := by decide +kernel
theorem dX8_lose_8 : decode cX8_lose 8 = .ok (.getfield 14, 3) := by decide +kernel
theorem dX8_lose_11 : decode cX8_lose 11 = .ok (.iload_n 1, 1) := by decide +kernel
theorem dX8_lose_12 : decode cX8_lose 12 = .ok (.iaload, 1) := by decide +kernel
theorem dX8_lose_13 : decode cX8_lose 13 = .ok (.if_icmp .ge 94, 3) := by decide +kernel
theorem dX8_lose_16 : decode cX8_lose 16 = .ok (.aload_n 0, 1) := by decide +kernel
theorem dX8_lose_17 : decode cX8_lose 17 = .ok (.getfield 8, 3) := by decide +kernel
theorem dX8_lose_20 : decode cX8_lose 20 = .ok (.sipush 1200, 3) := by decide +kernel
theorem dX8_lose_23 : decode cX8_lose 23 = .ok (.iload_n 1, 1) := by decide +kernel
theorem dX8_lose_24 : decode cX8_lose 24 = .ok (.imul, 1) := by decide +kernel
theorem dX8_lose_25 : decode cX8_lose 25 = .ok (.iload 5, 2) := by decide +kernel
theorem dX8_lose_27 : decode cX8_lose 27 = .ok (.iadd, 1) := by decide +kernel
theorem dX8_lose_28 : decode cX8_lose 28 = .ok (.iaload, 1) := by decide +kernel
theorem dX8_lose_29 : decode cX8_lose 29 = .ok (.i2l, 1) := by decide +kernel
theorem dX8_lose_30 : decode cX8_lose 30 = .ok (.ldc2_w 64, 3) := by decide +kernel
theorem dX8_lose_33 : decode cX8_lose 33 = .ok (.land, 1) := by decide +kernel
theorem dX8_lose_34 : decode cX8_lose 34 = .ok (.lload_n 3, 1) := by decide +kernel
theorem dX8_lose_35 : decode cX8_lose 35 = .ok (.lsub, 1) := by decide +kernel
theorem dX8_lose_36 : decode cX8_lose 36 = .ok (.iload 5, 2) := by decide +kernel
theorem dX8_lose_38 : decode cX8_lose 38 = .ok (.aload_n 0, 1) := by decide +kernel
theorem dX8_lose_39 : decode cX8_lose 39 = .ok (.getfield 14, 3) := by decide +kernel
theorem dX8_lose_42 : decode cX8_lose 42 = .ok (.iload_n 2, 1) := by decide +kernel
theorem dX8_lose_43 : decode cX8_lose 43 = .ok (.iaload, 1) := by decide +kernel
theorem dX8_lose_44 : decode cX8_lose 44 = .ok (.if_icmp .ge 24, 3) := by decide +kernel
theorem dX8_lose_47 : decode cX8_lose 47 = .ok (.aload_n 0, 1) := by decide +kernel
theorem dX8_lose_48 : decode cX8_lose 48 = .ok (.getfield 8, 3) := by decide +kernel
theorem dX8_lose_51 : decode cX8_lose 51 = .ok (.sipush 1200, 3) := by decide +kernel
theorem dX8_lose_54 : decode cX8_lose 54 = .ok (.iload_n 2, 1) := by decide +kernel
theorem dX8_lose_55 : decode cX8_lose 55 = .ok (.imul, 1) := by decide +kernel
theorem dX8_lose_56 : decode cX8_lose 56 = .ok (.iload 5, 2) := by decide +kernel
theorem dX8_lose_58 : decode cX8_lose 58 = .ok (.iadd, 1) := by decide +kernel
theorem dX8_lose_59 : decode cX8_lose 59 = .ok (.iaload, 1) := by decide +kernel
theorem dX8_lose_60 : decode cX8_lose 60 = .ok (.i2l, 1) := by decide +kernel
theorem dX8_lose_61 : decode cX8_lose 61 = .ok (.ldc2_w 64, 3) := by decide +kernel
theorem dX8_lose_64 : decode cX8_lose 64 = .ok (.land, 1) := by decide +kernel
theorem dX8_lose_65 : decode cX8_lose 65 = .ok (.goto 4, 3) := by decide +kernel
theorem dX8_lose_68 : decode cX8_lose 68 = .ok (.lconst 0, 1) := by decide +kernel
theorem dX8_lose_69 : decode cX8_lose 69 = .ok (.lsub, 1) := by decide +kernel
theorem dX8_lose_70 : decode cX8_lose 70 = .ok (.lstore 6, 2) := by decide +kernel
theorem dX8_lose_72 : decode cX8_lose 72 = .ok (.aload_n 0, 1) := by decide +kernel
theorem dX8_lose_73 : decode cX8_lose 73 = .ok (.getfield 8, 3) := by decide +kernel
theorem dX8_lose_76 : decode cX8_lose 76 = .ok (.sipush 1200, 3) := by decide +kernel
theorem dX8_lose_79 : decode cX8_lose 79 = .ok (.iload_n 1, 1) := by decide +kernel
theorem dX8_lose_80 : decode cX8_lose 80 = .ok (.imul, 1) := by decide +kernel
theorem dX8_lose_81 : decode cX8_lose 81 = .ok (.iload 5, 2) := by decide +kernel
theorem dX8_lose_83 : decode cX8_lose 83 = .ok (.iadd, 1) := by decide +kernel
theorem dX8_lose_84 : decode cX8_lose 84 = .ok (.lload 6, 2) := by decide +kernel
theorem dX8_lose_86 : decode cX8_lose 86 = .ok (.l2i, 1) := by decide +kernel
theorem dX8_lose_87 : decode cX8_lose 87 = .ok (.iastore, 1) := by decide +kernel
theorem dX8_lose_88 : decode cX8_lose 88 = .ok (.lload 6, 2) := by decide +kernel
theorem dX8_lose_90 : decode cX8_lose 90 = .ok (.lconst 0, 1) := by decide +kernel
theorem dX8_lose_91 : decode cX8_lose 91 = .ok (.lcmp, 1) := by decide +kernel
theorem dX8_lose_92 : decode cX8_lose 92 = .ok (.ifCond .ge 7, 3) := by decide +kernel
theorem dX8_lose_95 : decode cX8_lose 95 = .ok (.lconst 1, 1) := by decide +kernel
theorem dX8_lose_96 : decode cX8_lose 96 = .ok (.goto 4, 3) := by decide +kernel
theorem dX8_lose_99 : decode cX8_lose 99 = .ok (.lconst 0, 1) := by decide +kernel
theorem dX8_lose_100 : decode cX8_lose 100 = .ok (.lstore_n 3, 1) := by decide +kernel
theorem dX8_lose_101 : decode cX8_lose 101 = .ok (.iinc 5 1, 3) := by decide +kernel
theorem dX8_lose_104 : decode cX8_lose 104 = .ok (.goto (-99), 3) := by decide +kernel
theorem dX8_lose_107 : decode cX8_lose 107 = .ok (.aload_n 0, 1) := by decide +kernel
theorem dX8_lose_108 : decode cX8_lose 108 = .ok (.iload_n 1, 1) := by decide +kernel
theorem dX8_lose_109 : decode cX8_lose 109 = .ok (.invokevirtual 66, 3) := by decide +kernel
theorem dX8_lose_112 : decode cX8_lose 112 = .ok (.return_, 1) := by decide +kernel
theorem dX8_add_0 : decode cX8_add 0 = .ok (.aload_n 0, 1) := by decide +kernel
theorem dX8_add_1 : decode cX8_add 1 = .ok (.getfield 17, 3) := by decide +kernel
theorem dX8_add_4 : decode cX8_add 4 = .ok (.iload_n 2, 1) := by decide +kernel
theorem dX8_add_5 : decode cX8_add 5 = .ok (.baload, 1) := by decide +kernel
theorem dX8_add_6 : decode cX8_add 6 = .ok (.iload_n 3, 1) := by decide +kernel
theorem dX8_add_7 : decode cX8_add 7 = .ok (.if_icmp .eq 16, 3) := by decide +kernel
theorem dX8_add_10 : decode cX8_add 10 = .ok (.aload_n 0, 1) := by decide +kernel
theorem dX8_add_11 : decode cX8_add 11 = .ok (.getfield 14, 3) := by decide +kernel
theorem dX8_add_14 : decode cX8_add 14 = .ok (.iload_n 2, 1) := by decide +kernel
theorem dX8_add_15 : decode cX8_add 15 = .ok (.iaload, 1) := by decide +kernel
theorem dX8_add_16 : decode cX8_add 16 = .ok (.ifCond .le 7, 3) := by decide +kernel
theorem dX8_add_19 : decode cX8_add 19 = .ok (.iconst 1, 1) := by decide +kernel
theorem dX8_add_20 : decode cX8_add 20 = .ok (.goto 4, 3) := by decide +kernel
theorem dX8_add_23 : decode cX8_add 23 = .ok (.iconst 0, 1) := by decide +kernel
theorem dX8_add_24 : decode cX8_add 24 = .ok (.istore 4, 2) := by decide +kernel
theorem dX8_add_26 : decode cX8_add 26 = .ok (.aload_n 0, 1) := by decide +kernel
theorem dX8_add_27 : decode cX8_add 27 = .ok (.getfield 14, 3) := by decide +kernel
theorem dX8_add_30 : decode cX8_add 30 = .ok (.iload_n 1, 1) := by decide +kernel
theorem dX8_add_31 : decode cX8_add 31 = .ok (.iaload, 1) := by decide +kernel
theorem dX8_add_32 : decode cX8_add 32 = .ok (.ifCond .eq 14, 3) := by decide +kernel
theorem dX8_add_35 : decode cX8_add 35 = .ok (.iload 4, 2) := by decide +kernel
theorem dX8_add_37 : decode cX8_add 37 = .ok (.aload_n 0, 1) := by decide +kernel
theorem dX8_add_38 : decode cX8_add 38 = .ok (.getfield 17, 3) := by decide +kernel
theorem dX8_add_41 : decode cX8_add 41 = .ok (.iload_n 1, 1) := by decide +kernel
theorem dX8_add_42 : decode cX8_add 42 = .ok (.baload, 1) := by decide +kernel
theorem dX8_add_43 : decode cX8_add 43 = .ok (.if_icmp .ne 75, 3) := by decide +kernel
theorem dX8_add_46 : decode cX8_add 46 = .ok (.aload_n 0, 1) := by decide +kernel
theorem dX8_add_47 : decode cX8_add 47 = .ok (.iload_n 1, 1) := by decide +kernel
theorem dX8_add_48 : decode cX8_add 48 = .ok (.iload_n 2, 1) := by decide +kernel
theorem dX8_add_49 : decode cX8_add 49 = .ok (.invokevirtual 70, 3) := by decide +kernel
theorem dX8_add_52 : decode cX8_add 52 = .ok (.aload_n 0, 1) := by decide +kernel
theorem dX8_add_53 : decode cX8_add 53 = .ok (.getfield 17, 3) := by decide +kernel
theorem dX8_add_56 : decode cX8_add 56 = .ok (.iload_n 1, 1) := by decide +kernel
theorem dX8_add_57 : decode cX8_add 57 = .ok (.aload_n 0, 1) := by decide +kernel
theorem dX8_add_58 : decode cX8_add 58 = .ok (.getfield 14, 3) := by decide +kernel
theorem dX8_add_61 : decode cX8_add 61 = .ok (.iload_n 1, 1) := by decide +kernel
theorem dX8_add_62 : decode cX8_add 62 = .ok (.iaload, 1) := by decide +kernel
theorem dX8_add_63 : decode cX8_add 63 = .ok (.ifCond .le 12, 3) := by decide +kernel
theorem dX8_add_66 : decode cX8_add 66 = .ok (.iload 4, 2) := by decide +kernel
theorem dX8_add_68 : decode cX8_add 68 = .ok (.ifCond .eq 7, 3) := by decide +kernel
theorem dX8_add_71 : decode cX8_add 71 = .ok (.iconst 1, 1) := by decide +kernel
theorem dX8_add_72 : decode cX8_add 72 = .ok (.goto 4, 3) := by decide +kernel
theorem dX8_add_75 : decode cX8_add 75 = .ok (.iconst 0, 1) := by decide +kernel
theorem dX8_add_76 : decode cX8_add 76 = .ok (.bastore, 1) := by decide +kernel
theorem dX8_add_77 : decode cX8_add 77 = .ok (.aload_n 0, 1) := by decide +kernel
theorem dX8_add_78 : decode cX8_add 78 = .ok (.getfield 14, 3) := by decide +kernel
theorem dX8_add_81 : decode cX8_add 81 = .ok (.iload_n 2, 1) := by decide +kernel
theorem dX8_add_82 : decode cX8_add 82 = .ok (.iaload, 1) := by decide +kernel
theorem dX8_add_83 : decode cX8_add 83 = .ok (.ifCond .ne 99, 3) := by decide +kernel
theorem dX8_add_86 : decode cX8_add 86 = .ok (.aload_n 0, 1) := by decide +kernel
theorem dX8_add_87 : decode cX8_add 87 = .ok (.getfield 17, 3) := by decide +kernel
theorem dX8_add_90 : decode cX8_add 90 = .ok (.iload_n 1, 1) := by decide +kernel
theorem dX8_add_91 : decode cX8_add 91 = .ok (.aload_n 0, 1) := by decide +kernel
theorem dX8_add_92 : decode cX8_add 92 = .ok (.getfield 17, 3) := by decide +kernel
theorem dX8_add_95 : decode cX8_add 95 = .ok (.iload_n 1, 1) := by decide +kernel
theorem dX8_add_96 : decode cX8_add 96 = .ok (.baload, 1) := by decide +kernel
theorem dX8_add_97 : decode cX8_add 97 = .ok (.ifCond .eq 16, 3) := by decide +kernel
theorem dX8_add_100 : decode cX8_add 100 = .ok (.aload_n 0, 1) := by decide +kernel
theorem dX8_add_101 : decode cX8_add 101 = .ok (.getfield 14, 3) := by decide +kernel
theorem dX8_add_104 : decode cX8_add 104 = .ok (.iload_n 1, 1) := by decide +kernel
theorem dX8_add_105 : decode cX8_add 105 = .ok (.iaload, 1) := by decide +kernel
theorem dX8_add_106 : decode cX8_add 106 = .ok (.ifCond .le 7, 3) := by decide +kernel
theorem dX8_add_109 : decode cX8_add 109 = .ok (.iconst 1, 1) := by decide +kernel
theorem dX8_add_110 : decode cX8_add 110 = .ok (.goto 4, 3) := by decide +kernel
theorem dX8_add_113 : decode cX8_add 113 = .ok (.iconst 0, 1) := by decide +kernel
theorem dX8_add_114 : decode cX8_add 114 = .ok (.bastore, 1) := by decide +kernel
theorem dX8_add_115 : decode cX8_add 115 = .ok (.goto 67, 3) := by decide +kernel
theorem dX8_add_118 : decode cX8_add 118 = .ok (.aload_n 0, 1) := by decide +kernel
theorem dX8_add_119 : decode cX8_add 119 = .ok (.iload_n 1, 1) := by decide +kernel
theorem dX8_add_120 : decode cX8_add 120 = .ok (.iload_n 2, 1) := by decide +kernel
theorem dX8_add_121 : decode cX8_add 121 = .ok (.invokevirtual 74, 3) := by decide +kernel
theorem dX8_add_124 : decode cX8_add 124 = .ok (.ifCond .lt 12, 3) := by decide +kernel
theorem dX8_add_127 : decode cX8_add 127 = .ok (.aload_n 0, 1) := by decide +kernel
theorem dX8_add_128 : decode cX8_add 128 = .ok (.iload_n 1, 1) := by decide +kernel
theorem dX8_add_129 : decode cX8_add 129 = .ok (.iload_n 2, 1) := by decide +kernel
theorem dX8_add_130 : decode cX8_add 130 = .ok (.invokevirtual 78, 3) := by decide +kernel
theorem dX8_add_133 : decode cX8_add 133 = .ok (.goto 49, 3) := by decide +kernel
theorem dX8_add_136 : decode cX8_add 136 = .ok (.aload_n 0, 1) := by decide +kernel
theorem dX8_add_137 : decode cX8_add 137 = .ok (.iload_n 2, 1) := by decide +kernel
theorem dX8_add_138 : decode cX8_add 138 = .ok (.bipush 59, 2) := by decide +kernel
theorem dX8_add_140 : decode cX8_add 140 = .ok (.invokevirtual 81, 3) := by decide +kernel
theorem dX8_add_143 : decode cX8_add 143 = .ok (.aload_n 0, 1) := by decide +kernel
theorem dX8_add_144 : decode cX8_add 144 = .ok (.bipush 59, 2) := by decide +kernel
theorem dX8_add_146 : decode cX8_add 146 = .ok (.iload_n 1, 1) := by decide +kernel
theorem dX8_add_147 : decode cX8_add 147 = .ok (.invokevirtual 78, 3) := by decide +kernel
theorem dX8_add_150 : decode cX8_add 150 = .ok (.aload_n 0, 1) := by decide +kernel
theorem dX8_add_151 : decode cX8_add 151 = .ok (.bipush 59, 2) := by decide +kernel
theorem dX8_add_153 : decode cX8_add 153 = .ok (.iload_n 1, 1) := by decide +kernel
theorem dX8_add_154 : decode cX8_add 154 = .ok (.invokevirtual 81, 3) := by decide +kernel
theorem dX8_add_157 : decode cX8_add 157 = .ok (.aload_n 0, 1) := by decide +kernel
theorem dX8_add_158 : decode cX8_add 158 = .ok (.getfield 17, 3) := by decide +kernel
theorem dX8_add_161 : decode cX8_add 161 = .ok (.iload_n 1, 1) := by decide +kernel
theorem dX8_add_162 : decode cX8_add 162 = .ok (.iload 4, 2) := by decide +kernel
theorem dX8_add_164 : decode cX8_add 164 = .ok (.ifCond .eq 16, 3) := by decide +kernel
theorem dX8_add_167 : decode cX8_add 167 = .ok (.aload_n 0, 1) := by decide +kernel
theorem dX8_add_168 : decode cX8_add 168 = .ok (.getfield 14, 3) := by decide +kernel
theorem dX8_add_171 : decode cX8_add 171 = .ok (.iload_n 1, 1) := by decide +kernel
theorem dX8_add_172 : decode cX8_add 172 = .ok (.iaload, 1) := by decide +kernel
theorem dX8_add_173 : decode cX8_add 173 = .ok (.ifCond .le 7, 3) := by decide +kernel
theorem dX8_add_176 : decode cX8_add 176 = .ok (.iconst 1, 1) := by decide +kernel
theorem dX8_add_177 : decode cX8_add 177 = .ok (.goto 4, 3) := by decide +kernel
theorem dX8_add_180 : decode cX8_add 180 = .ok (.iconst 0, 1) := by decide +kernel
theorem dX8_add_181 : decode cX8_add 181 = .ok (.bastore, 1) := by decide +kernel
theorem dX8_add_182 : decode cX8_add 182 = .ok (.return_, 1) := by decide +kernel
theorem dX8_multiply_0 : decode cX8_multiply 0 = .ok (.aload_n 0, 1) := by decide +kernel
theorem dX8_multiply_1 : decode cX8_multiply 1 = .ok (.getfield 14, 3) := by decide +kernel
theorem dX8_multiply_4 : decode cX8_multiply 4 = .ok (.iload_n 1, 1) := by decide +kernel
theorem dX8_multiply_5 : decode cX8_multiply 5 = .ok (.iaload, 1) := by decide +kernel
theorem dX8_multiply_6 : decode cX8_multiply 6 = .ok (.aload_n 0, 1) := by decide +kernel
theorem dX8_multiply_7 : decode cX8_multiply 7 = .ok (.getfield 14, 3) := by decide +kernel
theorem dX8_multiply_10 : decode cX8_multiply 10 = .ok (.iload_n 2, 1) := by decide +kernel
theorem dX8_multiply_11 : decode cX8_multiply 11 = .ok (.iaload, 1) := by decide +kernel
theorem dX8_multiply_12 : decode cX8_multiply 12 = .ok (.iadd, 1) := by decide +kernel
theorem dX8_multiply_13 : decode cX8_multiply 13 = .ok (.istore 4, 2) := by decide +kernel
theorem dX8_multiply_15 : decode cX8_multiply 15 = .ok (.iconst 0, 1) := by decide +kernel
theorem dX8_multiply_16 : decode cX8_multiply 16 = .ok (.istore 5, 2) := by decide +kernel
theorem dX8_multiply_18 : decode cX8_multiply 18 = .ok (.iload 5, 2) := by decide +kernel
theorem dX8_multiply_20 : decode cX8_multiply 20 = .ok (.iload 4, 2) := by decide +kernel
theorem dX8_multiply_22 : decode cX8_multiply 22 = .ok (.if_icmp .ge 23, 3) := by decide +kernel
theorem dX8_multiply_25 : decode cX8_multiply 25 = .ok (.aload_n 0, 1) := by decide +kernel
theorem dX8_multiply_26 : decode cX8_multiply 26 = .ok (.getfield 8, 3) := by decide +kernel
theorem dX8_multiply_29 : decode cX8_multiply 29 = .ok (.sipush 1200, 3) := by decide +kernel
theorem dX8_multiply_32 : decode cX8_multiply 32 = .ok (.iload_n 3, 1) := by decide +kernel
theorem dX8_multiply_33 : decode cX8_multiply 33 = .ok (.imul, 1) := by decide +kernel
theorem dX8_multiply_34 : decode cX8_multiply 34 = .ok (.iload 5, 2) := by decide +kernel
theorem dX8_multiply_36 : decode cX8_multiply 36 = .ok (.iadd, 1) := by decide +kernel
theorem dX8_multiply_37 : decode cX8_multiply 37 = .ok (.iconst 0, 1) := by decide +kernel
theorem dX8_multiply_38 : decode cX8_multiply 38 = .ok (.iastore, 1) := by decide +kernel
theorem dX8_multiply_39 : decode cX8_multiply 39 = .ok (.iinc 5 1, 3) := by decide +kernel
theorem dX8_multiply_42 : decode cX8_multiply 42 = .ok (.goto (-24), 3) := by decide +kernel
theorem dX8_multiply_45 : decode cX8_multiply 45 = .ok (.iconst 0, 1) := by decide +kernel
theorem dX8_multiply_46 : decode cX8_multiply 46 = .ok (.istore 5, 2) := by decide +kernel
theorem dX8_multiply_48 : decode cX8_multiply 48 = .ok (.iload 5, 2) := by decide +kernel
theorem dX8_multiply_50 : decode cX8_multiply 50 = .ok (.aload_n 0, 1) := by decide +kernel
theorem dX8_multiply_51 : decode cX8_multiply 51 = .ok (.getfield 14, 3) := by decide +kernel
theorem dX8_multiply_54 : decode cX8_multiply 54 = .ok (.iload_n 1, 1) := by decide +kernel
theorem dX8_multiply_55 : decode cX8_multiply 55 = .ok (.iaload, 1) := by decide +kernel
theorem dX8_multiply_56 : decode cX8_multiply 56 = .ok (.if_icmp .ge 158, 3) := by decide +kernel
theorem dX8_multiply_59 : decode cX8_multiply 59 = .ok (.aload_n 0, 1) := by decide +kernel
theorem dX8_multiply_60 : decode cX8_multiply 60 = .ok (.getfield 8, 3) := by decide +kernel
theorem dX8_multiply_63 : decode cX8_multiply 63 = .ok (.sipush 1200, 3) := by decide +kernel
theorem dX8_multiply_66 : decode cX8_multiply 66 = .ok (.iload_n 1, 1) := by decide +kernel
theorem dX8_multiply_67 : decode cX8_multiply 67 = .ok (.imul, 1) := by decide +kernel
theorem dX8_multiply_68 : decode cX8_multiply 68 = .ok (.iload 5, 2) := by decide +kernel
theorem dX8_multiply_70 : decode cX8_multiply 70 = .ok (.iadd, 1) := by decide +kernel
theorem dX8_multiply_71 : decode cX8_multiply 71 = .ok (.iaload, 1) := by decide +kernel
theorem dX8_multiply_72 : decode cX8_multiply 72 = .ok (.i2l, 1) := by decide +kernel
theorem dX8_multiply_73 : decode cX8_multiply 73 = .ok (.ldc2_w 64, 3) := by decide +kernel
theorem dX8_multiply_76 : decode cX8_multiply 76 = .ok (.land, 1) := by decide +kernel
theorem dX8_multiply_77 : decode cX8_multiply 77 = .ok (.lstore 6, 2) := by decide +kernel
theorem dX8_multiply_79 : decode cX8_multiply 79 = .ok (.lconst 0, 1) := by decide +kernel
theorem dX8_multiply_80 : decode cX8_multiply 80 = .ok (.lstore 8, 2) := by decide +kernel
theorem dX8_multiply_82 : decode cX8_multiply 82 = .ok (.iconst 0, 1) := by decide +kernel
theorem dX8_multiply_83 : decode cX8_multiply 83 = .ok (.istore 10, 2) := by decide +kernel
theorem dX8_multiply_85 : decode cX8_multiply 85 = .ok (.iload 10, 2) := by decide +kernel
theorem dX8_multiply_87 : decode cX8_multiply 87 = .ok (.aload_n 0, 1) := by decide +kernel
theorem dX8_multiply_88 : decode cX8_multiply 88 = .ok (.getfield 14, 3) := by decide +kernel
theorem dX8_multiply_91 : decode cX8_multiply 91 = .ok (.iload_n 2, 1) := by decide +kernel
theorem dX8_multiply_92 : decode cX8_multiply 92 = .ok (.iaload, 1) := by decide +kernel
theorem dX8_multiply_93 : decode cX8_multiply 93 = .ok (.if_icmp .ge 92, 3) := by decide +kernel
theorem dX8_multiply_96 : decode cX8_multiply 96 = .ok (.sipush 1200, 3) := by decide +kernel
theorem dX8_multiply_99 : decode cX8_multiply 99 = .ok (.iload_n 3, 1) := by decide +kernel
theorem dX8_multiply_100 : decode cX8_multiply 100 = .ok (.imul, 1) := by decide +kernel
theorem dX8_multiply_101 : decode cX8_multiply 101 = .ok (.iload 5, 2) := by decide +kernel
theorem dX8_multiply_103 : decode cX8_multiply 103 = .ok (.iadd, 1) := by decide +kernel
theorem dX8_multiply_104 : decode cX8_multiply 104 = .ok (.iload 10, 2) := by decide +kernel
theorem dX8_multiply_106 : decode cX8_multiply 106 = .ok (.iadd, 1) := by decide +kernel
theorem dX8_multiply_107 : decode cX8_multiply 107 = .ok (.istore 11, 2) := by decide +kernel
theorem dX8_multiply_109 : decode cX8_multiply 109 = .ok (.lload 6, 2) := by decide +kernel
theorem dX8_multiply_111 : decode cX8_multiply 111 = .ok (.aload_n 0, 1) := by decide +kernel
theorem dX8_multiply_112 : decode cX8_multiply 112 = .ok (.getfield 8, 3) := by decide +kernel
theorem dX8_multiply_115 : decode cX8_multiply 115 = .ok (.sipush 1200, 3) := by decide +kernel
theorem dX8_multiply_118 : decode cX8_multiply 118 = .ok (.iload_n 2, 1) := by decide +kernel
theorem dX8_multiply_119 : decode cX8_multiply 119 = .ok (.imul, 1) := by decide +kernel
theorem dX8_multiply_120 : decode cX8_multiply 120 = .ok (.iload 10, 2) := by decide +kernel
theorem dX8_multiply_122 : decode cX8_multiply 122 = .ok (.iadd, 1) := by decide +kernel
theorem dX8_multiply_123 : decode cX8_multiply 123 = .ok (.iaload, 1) := by decide +kernel
theorem dX8_multiply_124 : decode cX8_multiply 124 = .ok (.i2l, 1) := by decide +kernel
theorem dX8_multiply_125 : decode cX8_multiply 125 = .ok (.ldc2_w 64, 3) := by decide +kernel
theorem dX8_multiply_128 : decode cX8_multiply 128 = .ok (.land, 1) := by decide +kernel
theorem dX8_multiply_129 : decode cX8_multiply 129 = .ok (.lmul, 1) := by decide +kernel
theorem dX8_multiply_130 : decode cX8_multiply 130 = .ok (.lstore 12, 2) := by decide +kernel
theorem dX8_multiply_132 : decode cX8_multiply 132 = .ok (.lload 12, 2) := by decide +kernel
theorem dX8_multiply_134 : decode cX8_multiply 134 = .ok (.ldc2_w 64, 3) := by decide +kernel
theorem dX8_multiply_137 : decode cX8_multiply 137 = .ok (.land, 1) := by decide +kernel
theorem dX8_multiply_138 : decode cX8_multiply 138 = .ok (.aload_n 0, 1) := by decide +kernel
theorem dX8_multiply_139 : decode cX8_multiply 139 = .ok (.getfield 8, 3) := by decide +kernel
theorem dX8_multiply_142 : decode cX8_multiply 142 = .ok (.iload 11, 2) := by decide +kernel
theorem dX8_multiply_144 : decode cX8_multiply 144 = .ok (.iaload, 1) := by decide +kernel
theorem dX8_multiply_145 : decode cX8_multiply 145 = .ok (.i2l, 1) := by decide +kernel
theorem dX8_multiply_146 : decode cX8_multiply 146 = .ok (.ldc2_w 64, 3) := by decide +kernel
theorem dX8_multiply_149 : decode cX8_multiply 149 = .ok (.land, 1) := by decide +kernel
theorem dX8_multiply_150 : decode cX8_multiply 150 = .ok (.ladd, 1) := by decide +kernel
theorem dX8_multiply_151 : decode cX8_multiply 151 = .ok (.lload 8, 2) := by decide +kernel
theorem dX8_multiply_153 : decode cX8_multiply 153 = .ok (.ladd, 1) := by decide +kernel
theorem dX8_multiply_154 : decode cX8_multiply 154 = .ok (.lstore 14, 2) := by decide +kernel
theorem dX8_multiply_156 : decode cX8_multiply 156 = .ok (.aload_n 0, 1) := by decide +kernel
theorem dX8_multiply_157 : decode cX8_multiply 157 = .ok (.getfield 8, 3) := by decide +kernel
theorem dX8_multiply_160 : decode cX8_multiply 160 = .ok (.iload 11, 2) := by decide +kernel
theorem dX8_multiply_162 : decode cX8_multiply 162 = .ok (.lload 14, 2) := by decide +kernel
theorem dX8_multiply_164 : decode cX8_multiply 164 = .ok (.l2i, 1) := by decide +kernel
theorem dX8_multiply_165 : decode cX8_multiply 165 = .ok (.iastore, 1) := by decide +kernel
theorem dX8_multiply_166 : decode cX8_multiply 166 = .ok (.lload 12, 2) := by decide +kernel
theorem dX8_multiply_168 : decode cX8_multiply 168 = .ok (.bipush 32, 2) := by decide +kernel
theorem dX8_multiply_170 : decode cX8_multiply 170 = .ok (.lushr, 1) := by decide +kernel
theorem dX8_multiply_171 : decode cX8_multiply 171 = .ok (.lload 14, 2) := by decide +kernel
theorem dX8_multiply_173 : decode cX8_multiply 173 = .ok (.bipush 32, 2) := by decide +kernel
theorem dX8_multiply_175 : decode cX8_multiply 175 = .ok (.lushr, 1) := by decide +kernel
theorem dX8_multiply_176 : decode cX8_multiply 176 = .ok (.ladd, 1) := by decide +kernel
theorem dX8_multiply_177 : decode cX8_multiply 177 = .ok (.lstore 8, 2) := by decide +kernel
theorem dX8_multiply_179 : decode cX8_multiply 179 = .ok (.iinc 10 1, 3) := by decide +kernel
theorem dX8_multiply_182 : decode cX8_multiply 182 = .ok (.goto (-97), 3) := by decide +kernel
theorem dX8_multiply_185 : decode cX8_multiply 185 = .ok (.aload_n 0, 1) := by decide +kernel
theorem dX8_multiply_186 : decode cX8_multiply 186 = .ok (.getfield 8, 3) := by decide +kernel
theorem dX8_multiply_189 : decode cX8_multiply 189 = .ok (.sipush 1200, 3) := by decide +kernel
theorem dX8_multiply_192 : decode cX8_multiply 192 = .ok (.iload_n 3, 1) := by decide +kernel
theorem dX8_multiply_193 : decode cX8_multiply 193 = .ok (.imul, 1) := by decide +kernel
theorem dX8_multiply_194 : decode cX8_multiply 194 = .ok (.iload 5, 2) := by decide +kernel
theorem dX8_multiply_196 : decode cX8_multiply 196 = .ok (.iadd, 1) := by decide +kernel
theorem dX8_multiply_197 : decode cX8_multiply 197 = .ok (.aload_n 0, 1) := by decide +kernel
theorem dX8_multiply_198 : decode cX8_multiply 198 = .ok (.getfield 14, 3) := by decide +kernel
theorem dX8_multiply_201 : decode cX8_multiply 201 = .ok (.iload_n 2, 1) := by decide +kernel
theorem dX8_multiply_202 : decode cX8_multiply 202 = .ok (.iaload, 1) := by decide +kernel
theorem dX8_multiply_203 : decode cX8_multiply 203 = .ok (.iadd, 1) := by decide +kernel
theorem dX8_multiply_204 : decode cX8_multiply 204 = .ok (.lload 8, 2) := by decide +kernel
theorem dX8_multiply_206 : decode cX8_multiply 206 = .ok (.l2i, 1) := by decide +kernel
theorem dX8_multiply_207 : decode cX8_multiply 207 = .ok (.iastore, 1) := by decide +kernel
theorem dX8_multiply_208 : decode cX8_multiply 208 = .ok (.iinc 5 1, 3) := by decide +kernel
theorem dX8_multiply_211 : decode cX8_multiply 211 = .ok (.goto (-163), 3) := by decide +kernel
theorem dX8_multiply_214 : decode cX8_multiply 214 = .ok (.aload_n 0, 1) := by decide +kernel
theorem dX8_multiply_215 : decode cX8_multiply 215 = .ok (.getfield 14, 3) := by decide +kernel
theorem dX8_multiply_218 : decode cX8_multiply 218 = .ok (.iload_n 3, 1) := by decide +kernel
theorem dX8_multiply_219 : decode cX8_multiply 219 = .ok (.iload 4, 2) := by decide +kernel
theorem dX8_multiply_221 : decode cX8_multiply 221 = .ok (.iastore, 1) := by decide +kernel
theorem dX8_multiply_222 : decode cX8_multiply 222 = .ok (.aload_n 0, 1) := by decide +kernel
theorem dX8_multiply_223 : decode cX8_multiply 223 = .ok (.getfield 17, 3) := by decide +kernel
theorem dX8_multiply_226 : decode cX8_multiply 226 = .ok (.iload_n 3, 1) := by decide +kernel
theorem dX8_multiply_227 : decode cX8_multiply 227 = .ok (.aload_n 0, 1) := by decide +kernel
theorem dX8_multiply_228 : decode cX8_multiply 228 = .ok (.getfield 17, 3) := by decide +kernel
theorem dX8_multiply_231 : decode cX8_multiply 231 = .ok (.iload_n 1, 1) := by decide +kernel
theorem dX8_multiply_232 : decode cX8_multiply 232 = .ok (.baload, 1) := by decide +kernel
theorem dX8_multiply_233 : decode cX8_multiply 233 = .ok (.aload_n 0, 1) := by decide +kernel
theorem dX8_multiply_234 : decode cX8_multiply 234 = .ok (.getfield 17, 3) := by decide +kernel
theorem dX8_multiply_237 : decode cX8_multiply 237 = .ok (.iload_n 2, 1) := by decide +kernel
theorem dX8_multiply_238 : decode cX8_multiply 238 = .ok (.baload, 1) := by decide +kernel
theorem dX8_multiply_239 : decode cX8_multiply 239 = .ok (.if_icmp .eq 7, 3) := by decide +kernel
theorem dX8_multiply_242 : decode cX8_multiply 242 = .ok (.iconst 1, 1) := by decide +kernel
theorem dX8_multiply_243 : decode cX8_multiply 243 = .ok (.goto 4, 3) := by decide +kernel
theorem dX8_multiply_246 : decode cX8_multiply 246 = .ok (.iconst 0, 1) := by decide +kernel
theorem dX8_multiply_247 : decode cX8_multiply 247 = .ok (.bastore, 1) := by decide +kernel
theorem dX8_multiply_248 : decode cX8_multiply 248 = .ok (.aload_n 0, 1) := by decide +kernel
theorem dX8_multiply_249 : decode cX8_multiply 249 = .ok (.iload_n 3, 1) := by decide +kernel
theorem dX8_multiply_250 : decode cX8_multiply 250 = .ok (.invokevirtual 66, 3) := by decide +kernel
theorem dX8_multiply_253 : decode cX8_multiply 253 = .ok (.return_, 1) := by decide +kernel
theorem dX8_up_0 : decode cX8_up 0 = .ok (.iload_n 2, 1) := by decide +kernel
theorem dX8_up_1 : decode cX8_up 1 = .ok (.bipush 32, 2) := by decide +kernel
theorem dX8_up_3 : decode cX8_up 3 = .ok (.idiv, 1) := by decide +kernel
theorem dX8_up_4 : decode cX8_up 4 = .ok (.istore_n 3, 1) := by decide +kernel
theorem dX8_up_5 : decode cX8_up 5 = .ok (.iload_n 2, 1) := by decide +kernel
theorem dX8_up_6 : decode cX8_up 6 = .ok (.bipush 32, 2) := by decide +kernel
theorem dX8_up_8 : decode cX8_up 8 = .ok (.irem, 1) := by decide +kernel
theorem dX8_up_9 : decode cX8_up 9 = .ok (.istore 4, 2) := by decide +kernel
theorem dX8_up_11 : decode cX8_up 11 = .ok (.aload_n 0, 1) := by decide +kernel
theorem dX8_up_12 : decode cX8_up 12 = .ok (.getfield 14, 3) := by decide +kernel
theorem dX8_up_15 : decode cX8_up 15 = .ok (.iload_n 1, 1) := by decide +kernel
theorem dX8_up_16 : decode cX8_up 16 = .ok (.iaload, 1) := by decide +kernel
theorem dX8_up_17 : decode cX8_up 17 = .ok (.iload_n 3, 1) := by decide +kernel
theorem dX8_up_18 : decode cX8_up 18 = .ok (.iadd, 1) := by decide +kernel
theorem dX8_up_19 : decode cX8_up 19 = .ok (.istore 5, 2) := by decide +kernel
theorem dX8_up_21 : decode cX8_up 21 = .ok (.iload 5, 2) := by decide +kernel
theorem dX8_up_23 : decode cX8_up 23 = .ok (.ifCond .lt 135, 3) := by decide +kernel
theorem dX8_up_26 : decode cX8_up 26 = .ok (.iload 5, 2) := by decide +kernel
theorem dX8_up_28 : decode cX8_up 28 = .ok (.iload_n 3, 1) := by decide +kernel
theorem dX8_up_29 : decode cX8_up 29 = .ok (.isub, 1) := by decide +kernel
theorem dX8_up_30 : decode cX8_up 30 = .ok (.istore 6, 2) := by decide +kernel
theorem dX8_up_32 : decode cX8_up 32 = .ok (.iload 6, 2) := by decide +kernel
theorem dX8_up_34 : decode cX8_up 34 = .ok (.ifCond .lt 35, 3) := by decide +kernel
theorem dX8_up_37 : decode cX8_up 37 = .ok (.iload 6, 2) := by decide +kernel
theorem dX8_up_39 : decode cX8_up 39 = .ok (.aload_n 0, 1) := by decide +kernel
theorem dX8_up_40 : decode cX8_up 40 = .ok (.getfield 14, 3) := by decide +kernel
theorem dX8_up_43 : decode cX8_up 43 = .ok (.iload_n 1, 1) := by decide +kernel
theorem dX8_up_44 : decode cX8_up 44 = .ok (.iaload, 1) := by decide +kernel
theorem dX8_up_45 : decode cX8_up 45 = .ok (.if_icmp .ge 24, 3) := by decide +kernel
theorem dX8_up_48 : decode cX8_up 48 = .ok (.aload_n 0, 1) := by decide +kernel
theorem dX8_up_49 : decode cX8_up 49 = .ok (.getfield 8, 3) := by decide +kernel
theorem dX8_up_52 : decode cX8_up 52 = .ok (.sipush 1200, 3) := by decide +kernel
theorem dX8_up_55 : decode cX8_up 55 = .ok (.iload_n 1, 1) := by decide +kernel
theorem dX8_up_56 : decode cX8_up 56 = .ok (.imul, 1) := by decide +kernel
theorem dX8_up_57 : decode cX8_up 57 = .ok (.iload 6, 2) := by decide +kernel
theorem dX8_up_59 : decode cX8_up 59 = .ok (.iadd, 1) := by decide +kernel
theorem dX8_up_60 : decode cX8_up 60 = .ok (.iaload, 1) := by decide +kernel
theorem dX8_up_61 : decode cX8_up 61 = .ok (.i2l, 1) := by decide +kernel
theorem dX8_up_62 : decode cX8_up 62 = .ok (.ldc2_w 64, 3) := by decide +kernel
theorem dX8_up_65 : decode cX8_up 65 = .ok (.land, 1) := by decide +kernel
theorem dX8_up_66 : decode cX8_up 66 = .ok (.goto 4, 3) := by decide +kernel
theorem dX8_up_69 : decode cX8_up 69 = .ok (.lconst 0, 1) := by decide +kernel
theorem dX8_up_70 : decode cX8_up 70 = .ok (.lstore 7, 2) := by decide +kernel
theorem dX8_up_72 : decode cX8_up 72 = .ok (.iload 6, 2) := by decide +kernel
theorem dX8_up_74 : decode cX8_up 74 = .ok (.ifCond .le 37, 3) := by decide +kernel
theorem dX8_up_77 : decode cX8_up 77 = .ok (.iload 6, 2) := by decide +kernel
theorem dX8_up_79 : decode cX8_up 79 = .ok (.aload_n 0, 1) := by decide +kernel
theorem dX8_up_80 : decode cX8_up 80 = .ok (.getfield 14, 3) := by decide +kernel
theorem dX8_up_83 : decode cX8_up 83 = .ok (.iload_n 1, 1) := by decide +kernel
theorem dX8_up_84 : decode cX8_up 84 = .ok (.iaload, 1) := by decide +kernel
theorem dX8_up_85 : decode cX8_up 85 = .ok (.if_icmp .gt 26, 3) := by decide +kernel
theorem dX8_up_88 : decode cX8_up 88 = .ok (.aload_n 0, 1) := by decide +kernel
theorem dX8_up_89 : decode cX8_up 89 = .ok (.getfield 8, 3) := by decide +kernel
theorem dX8_up_92 : decode cX8_up 92 = .ok (.sipush 1200, 3) := by decide +kernel
theorem dX8_up_95 : decode cX8_up 95 = .ok (.iload_n 1, 1) := by decide +kernel
theorem dX8_up_96 : decode cX8_up 96 = .ok (.imul, 1) := by decide +kernel
theorem dX8_up_97 : decode cX8_up 97 = .ok (.iload 6, 2) := by decide +kernel
theorem dX8_up_99 : decode cX8_up 99 = .ok (.iadd, 1) := by decide +kernel
theorem dX8_up_100 : decode cX8_up 100 = .ok (.iconst 1, 1) := by decide +kernel
theorem dX8_up_101 : decode cX8_up 101 = .ok (.isub, 1) := by decide +kernel
theorem dX8_up_102 : decode cX8_up 102 = .ok (.iaload, 1) := by decide +kernel
theorem dX8_up_103 : decode cX8_up 103 = .ok (.i2l, 1) := by decide +kernel
theorem dX8_up_104 : decode cX8_up 104 = .ok (.ldc2_w 64, 3) := by decide +kernel
theorem dX8_up_107 : decode cX8_up 107 = .ok (.land, 1) := by decide +kernel
theorem dX8_up_108 : decode cX8_up 108 = .ok (.goto 4, 3) := by decide +kernel
theorem dX8_up_111 : decode cX8_up 111 = .ok (.lconst 0, 1) := by decide +kernel
theorem dX8_up_112 : decode cX8_up 112 = .ok (.lstore 9, 2) := by decide +kernel
theorem dX8_up_114 : decode cX8_up 114 = .ok (.aload_n 0, 1) := by decide +kernel
theorem dX8_up_115 : decode cX8_up 115 = .ok (.getfield 8, 3) := by decide +kernel
theorem dX8_up_118 : decode cX8_up 118 = .ok (.sipush 1200, 3) := by decide +kernel
theorem dX8_up_121 : decode cX8_up 121 = .ok (.iload_n 1, 1) := by decide +kernel
theorem dX8_up_122 : decode cX8_up 122 = .ok (.imul, 1) := by decide +kernel
theorem dX8_up_123 : decode cX8_up 123 = .ok (.iload 5, 2) := by decide +kernel
theorem dX8_up_125 : decode cX8_up 125 = .ok (.iadd, 1) := by decide +kernel
theorem dX8_up_126 : decode cX8_up 126 = .ok (.iload 4, 2) := by decide +kernel
theorem dX8_up_128 : decode cX8_up 128 = .ok (.ifCond .ne 8, 3) := by decide +kernel
theorem dX8_up_131 : decode cX8_up 131 = .ok (.lload 7, 2) := by decide +kernel
theorem dX8_up_133 : decode cX8_up 133 = .ok (.goto 17, 3) := by decide +kernel
theorem dX8_up_136 : decode cX8_up 136 = .ok (.lload 7, 2) := by decide +kernel
theorem dX8_up_138 : decode cX8_up 138 = .ok (.iload 4, 2) := by decide +kernel
theorem dX8_up_140 : decode cX8_up 140 = .ok (.lshl, 1) := by decide +kernel
theorem dX8_up_141 : decode cX8_up 141 = .ok (.lload 9, 2) := by decide +kernel
theorem dX8_up_143 : decode cX8_up 143 = .ok (.bipush 32, 2) := by decide +kernel
theorem dX8_up_145 : decode cX8_up 145 = .ok (.iload 4, 2) := by decide +kernel
theorem dX8_up_147 : decode cX8_up 147 = .ok (.isub, 1) := by decide +kernel
theorem dX8_up_148 : decode cX8_up 148 = .ok (.lushr, 1) := by decide +kernel
theorem dX8_up_149 : decode cX8_up 149 = .ok (.lor, 1) := by decide +kernel
theorem dX8_up_150 : decode cX8_up 150 = .ok (.l2i, 1) := by decide +kernel
theorem dX8_up_151 : decode cX8_up 151 = .ok (.iastore, 1) := by decide +kernel
theorem dX8_up_152 : decode cX8_up 152 = .ok (.iinc 5 (-1), 3) := by decide +kernel
theorem dX8_up_155 : decode cX8_up 155 = .ok (.goto (-134), 3) := by decide +kernel
theorem dX8_up_158 : decode cX8_up 158 = .ok (.aload_n 0, 1) := by decide +kernel
theorem dX8_up_159 : decode cX8_up 159 = .ok (.getfield 14, 3) := by decide +kernel
theorem dX8_up_162 : decode cX8_up 162 = .ok (.iload_n 1, 1) := by decide +kernel
theorem dX8_up_163 : decode cX8_up 163 = .ok (.dup2, 1) := by decide +kernel
theorem dX8_up_164 : decode cX8_up 164 = .ok (.iaload, 1) := by decide +kernel
theorem dX8_up_165 : decode cX8_up 165 = .ok (.iload_n 3, 1) := by decide +kernel
theorem dX8_up_166 : decode cX8_up 166 = .ok (.iconst 1, 1) := by decide +kernel
theorem dX8_up_167 : decode cX8_up 167 = .ok (.iadd, 1) := by decide +kernel
theorem dX8_up_168 : decode cX8_up 168 = .ok (.iadd, 1) := by decide +kernel
theorem dX8_up_169 : decode cX8_up 169 = .ok (.iastore, 1) := by decide +kernel
theorem dX8_up_170 : decode cX8_up 170 = .ok (.aload_n 0, 1) := by decide +kernel
theorem dX8_up_171 : decode cX8_up 171 = .ok (.iload_n 1, 1) := by decide +kernel
theorem dX8_up_172 : decode cX8_up 172 = .ok (.invokevirtual 66, 3) := by decide +kernel
theorem dX8_up_175 : decode cX8_up 175 = .ok (.return_, 1) := by decide +kernel
theorem dX8_half_0 : decode cX8_half 0 = .ok (.iconst 0, 1) := by decide +kernel
theorem dX8_half_1 : decode cX8_half 1 = .ok (.istore_n 2, 1) := by decide +kernel
theorem dX8_half_2 : decode cX8_half 2 = .ok (.iload_n 2, 1) := by decide +kernel
theorem dX8_half_3 : decode cX8_half 3 = .ok (.aload_n 0, 1) := by decide +kernel
theorem dX8_half_4 : decode cX8_half 4 = .ok (.getfield 14, 3) := by decide +kernel
theorem dX8_half_7 : decode cX8_half 7 = .ok (.iload_n 1, 1) := by decide +kernel
theorem dX8_half_8 : decode cX8_half 8 = .ok (.iaload, 1) := by decide +kernel
theorem dX8_half_9 : decode cX8_half 9 = .ok (.if_icmp .ge 82, 3) := by decide +kernel
theorem dX8_half_12 : decode cX8_half 12 = .ok (.iload_n 2, 1) := by decide +kernel
theorem dX8_half_13 : decode cX8_half 13 = .ok (.iconst 1, 1) := by decide +kernel
theorem dX8_half_14 : decode cX8_half 14 = .ok (.iadd, 1) := by decide +kernel
theorem dX8_half_15 : decode cX8_half 15 = .ok (.aload_n 0, 1) := by decide +kernel
theorem dX8_half_16 : decode cX8_half 16 = .ok (.getfield 14, 3) := by decide +kernel
theorem dX8_half_19 : decode cX8_half 19 = .ok (.iload_n 1, 1) := by decide +kernel
theorem dX8_half_20 : decode cX8_half 20 = .ok (.iaload, 1) := by decide +kernel
theorem dX8_half_21 : decode cX8_half 21 = .ok (.if_icmp .ge 25, 3) := by decide +kernel
theorem dX8_half_24 : decode cX8_half 24 = .ok (.aload_n 0, 1) := by decide +kernel
theorem dX8_half_25 : decode cX8_half 25 = .ok (.getfield 8, 3) := by decide +kernel
theorem dX8_half_28 : decode cX8_half 28 = .ok (.sipush 1200, 3) := by decide +kernel
theorem dX8_half_31 : decode cX8_half 31 = .ok (.iload_n 1, 1) := by decide +kernel
theorem dX8_half_32 : decode cX8_half 32 = .ok (.imul, 1) := by decide +kernel
theorem dX8_half_33 : decode cX8_half 33 = .ok (.iload_n 2, 1) := by decide +kernel
theorem dX8_half_34 : decode cX8_half 34 = .ok (.iadd, 1) := by decide +kernel
theorem dX8_half_35 : decode cX8_half 35 = .ok (.iconst 1, 1) := by decide +kernel
theorem dX8_half_36 : decode cX8_half 36 = .ok (.iadd, 1) := by decide +kernel
theorem dX8_half_37 : decode cX8_half 37 = .ok (.iaload, 1) := by decide +kernel
theorem dX8_half_38 : decode cX8_half 38 = .ok (.i2l, 1) := by decide +kernel
theorem dX8_half_39 : decode cX8_half 39 = .ok (.ldc2_w 64, 3) := by decide +kernel
theorem dX8_half_42 : decode cX8_half 42 = .ok (.land, 1) := by decide +kernel
theorem dX8_half_43 : decode cX8_half 43 = .ok (.goto 4, 3) := by decide +kernel
theorem dX8_half_46 : decode cX8_half 46 = .ok (.lconst 0, 1) := by decide +kernel
theorem dX8_half_47 : decode cX8_half 47 = .ok (.lstore_n 3, 1) := by decide +kernel
theorem dX8_half_48 : decode cX8_half 48 = .ok (.aload_n 0, 1) := by decide +kernel
theorem dX8_half_49 : decode cX8_half 49 = .ok (.getfield 8, 3) := by decide +kernel
theorem dX8_half_52 : decode cX8_half 52 = .ok (.sipush 1200, 3) := by decide +kernel
theorem dX8_half_55 : decode cX8_half 55 = .ok (.iload_n 1, 1) := by decide +kernel
theorem dX8_half_56 : decode cX8_half 56 = .ok (.imul, 1) := by decide +kernel
theorem dX8_half_57 : decode cX8_half 57 = .ok (.iload_n 2, 1) := by decide +kernel
theorem dX8_half_58 : decode cX8_half 58 = .ok (.iadd, 1) := by decide +kernel
theorem dX8_half_59 : decode cX8_half 59 = .ok (.aload_n 0, 1) := by decide +kernel
theorem dX8_half_60 : decode cX8_half 60 = .ok (.getfield 8, 3) := by decide +kernel
theorem dX8_half_63 : decode cX8_half 63 = .ok (.sipush 1200, 3) := by decide +kernel
theorem dX8_half_66 : decode cX8_half 66 = .ok (.iload_n 1, 1) := by decide +kernel
theorem dX8_half_67 : decode cX8_half 67 = .ok (.imul, 1) := by decide +kernel
theorem dX8_half_68 : decode cX8_half 68 = .ok (.iload_n 2, 1) := by decide +kernel
theorem dX8_half_69 : decode cX8_half 69 = .ok (.iadd, 1) := by decide +kernel
theorem dX8_half_70 : decode cX8_half 70 = .ok (.iaload, 1) := by decide +kernel
theorem dX8_half_71 : decode cX8_half 71 = .ok (.i2l, 1) := by decide +kernel
theorem dX8_half_72 : decode cX8_half 72 = .ok (.ldc2_w 64, 3) := by decide +kernel
theorem dX8_half_75 : decode cX8_half 75 = .ok (.land, 1) := by decide +kernel
theorem dX8_half_76 : decode cX8_half 76 = .ok (.iconst 1, 1) := by decide +kernel
theorem dX8_half_77 : decode cX8_half 77 = .ok (.lushr, 1) := by decide +kernel
theorem dX8_half_78 : decode cX8_half 78 = .ok (.lload_n 3, 1) := by decide +kernel
theorem dX8_half_79 : decode cX8_half 79 = .ok (.bipush 31, 2) := by decide +kernel
theorem dX8_half_81 : decode cX8_half 81 = .ok (.lshl, 1) := by decide +kernel
theorem dX8_half_82 : decode cX8_half 82 = .ok (.lor, 1) := by decide +kernel
theorem dX8_half_83 : decode cX8_half 83 = .ok (.l2i, 1) := by decide +kernel
theorem dX8_half_84 : decode cX8_half 84 = .ok (.iastore, 1) := by decide +kernel
theorem dX8_half_85 : decode cX8_half 85 = .ok (.iinc 2 1, 3) := by decide +kernel
theorem dX8_half_88 : decode cX8_half 88 = .ok (.goto (-86), 3) := by decide +kernel
theorem dX8_half_91 : decode cX8_half 91 = .ok (.aload_n 0, 1) := by decide +kernel
theorem dX8_half_92 : decode cX8_half 92 = .ok (.iload_n 1, 1) := by decide +kernel
theorem dX8_half_93 : decode cX8_half 93 = .ok (.invokevirtual 66, 3) := by decide +kernel
theorem dX8_half_96 : decode cX8_half 96 = .ok (.return_, 1) := by decide +kernel
theorem dX8_isSum_0 : decode cX8_isSum 0 = .ok (.iload_n 0, 1) := by decide +kernel
theorem dX8_isSum_1 : decode cX8_isSum 1 = .ok (.i2l, 1) := by decide +kernel
theorem dX8_isSum_2 : decode cX8_isSum 2 = .ok (.lconst 0, 1) := by decide +kernel
theorem dX8_isSum_3 : decode cX8_isSum 3 = .ok (.ldc2_w 84, 3) := by decide +kernel
theorem dX8_isSum_6 : decode cX8_isSum 6 = .ok (.invokestatic 86, 3) := by decide +kernel
theorem dX8_isSum_9 : decode cX8_isSum 9 = .ok (.ireturn, 1) := by decide +kernel
theorem dX8_emptied_0 : decode cX8_emptied 0 = .ok (.iconst 0, 1) := by decide +kernel
theorem dX8_emptied_1 : decode cX8_emptied 1 = .ok (.istore_n 2, 1) := by decide +kernel
theorem dX8_emptied_2 : decode cX8_emptied 2 = .ok (.iconst 0, 1) := by decide +kernel
theorem dX8_emptied_3 : decode cX8_emptied 3 = .ok (.istore_n 3, 1) := by decide +kernel
theorem dX8_emptied_4 : decode cX8_emptied 4 = .ok (.iload_n 3, 1) := by decide +kernel
theorem dX8_emptied_5 : decode cX8_emptied 5 = .ok (.bipush 8, 2) := by decide +kernel
theorem dX8_emptied_7 : decode cX8_emptied 7 = .ok (.if_icmp .ge 54, 3) := by decide +kernel
theorem dX8_emptied_10 : decode cX8_emptied 10 = .ok (.iload_n 2, 1) := by decide +kernel
theorem dX8_emptied_11 : decode cX8_emptied 11 = .ok (.aload_n 0, 1) := by decide +kernel
theorem dX8_emptied_12 : decode cX8_emptied 12 = .ok (.getfield 30, 3) := by decide +kernel
theorem dX8_emptied_15 : decode cX8_emptied 15 = .ok (.iload_n 3, 1) := by decide +kernel
theorem dX8_emptied_16 : decode cX8_emptied 16 = .ok (.iaload, 1) := by decide +kernel
theorem dX8_emptied_17 : decode cX8_emptied 17 = .ok (.iload_n 1, 1) := by decide +kernel
theorem dX8_emptied_18 : decode cX8_emptied 18 = .ok (.if_icmp .ne 7, 3) := by decide +kernel
theorem dX8_emptied_21 : decode cX8_emptied 21 = .ok (.iconst 1, 1) := by decide +kernel
theorem dX8_emptied_22 : decode cX8_emptied 22 = .ok (.goto 4, 3) := by decide +kernel
theorem dX8_emptied_25 : decode cX8_emptied 25 = .ok (.iconst 0, 1) := by decide +kernel
theorem dX8_emptied_26 : decode cX8_emptied 26 = .ok (.iadd, 1) := by decide +kernel
theorem dX8_emptied_27 : decode cX8_emptied 27 = .ok (.istore_n 2, 1) := by decide +kernel
theorem dX8_emptied_28 : decode cX8_emptied 28 = .ok (.aload_n 0, 1) := by decide +kernel
theorem dX8_emptied_29 : decode cX8_emptied 29 = .ok (.getfield 30, 3) := by decide +kernel
theorem dX8_emptied_32 : decode cX8_emptied 32 = .ok (.iload_n 3, 1) := by decide +kernel
theorem dX8_emptied_33 : decode cX8_emptied 33 = .ok (.aload_n 0, 1) := by decide +kernel
theorem dX8_emptied_34 : decode cX8_emptied 34 = .ok (.getfield 30, 3) := by decide +kernel
theorem dX8_emptied_37 : decode cX8_emptied 37 = .ok (.iload_n 3, 1) := by decide +kernel
theorem dX8_emptied_38 : decode cX8_emptied 38 = .ok (.iaload, 1) := by decide +kernel
theorem dX8_emptied_39 : decode cX8_emptied 39 = .ok (.iload_n 1, 1) := by decide +kernel
theorem dX8_emptied_40 : decode cX8_emptied 40 = .ok (.if_icmp .ne 8, 3) := by decide +kernel
theorem dX8_emptied_43 : decode cX8_emptied 43 = .ok (.bipush (-6), 2) := by decide +kernel
theorem dX8_emptied_45 : decode cX8_emptied 45 = .ok (.goto 9, 3) := by decide +kernel
theorem dX8_emptied_48 : decode cX8_emptied 48 = .ok (.aload_n 0, 1) := by decide +kernel
theorem dX8_emptied_49 : decode cX8_emptied 49 = .ok (.getfield 30, 3) := by decide +kernel
theorem dX8_emptied_52 : decode cX8_emptied 52 = .ok (.iload_n 3, 1) := by decide +kernel
theorem dX8_emptied_53 : decode cX8_emptied 53 = .ok (.iaload, 1) := by decide +kernel
theorem dX8_emptied_54 : decode cX8_emptied 54 = .ok (.iastore, 1) := by decide +kernel
theorem dX8_emptied_55 : decode cX8_emptied 55 = .ok (.iinc 3 1, 3) := by decide +kernel
theorem dX8_emptied_58 : decode cX8_emptied 58 = .ok (.goto (-54), 3) := by decide +kernel
theorem dX8_emptied_61 : decode cX8_emptied 61 = .ok (.iload_n 2, 1) := by decide +kernel
theorem dX8_emptied_62 : decode cX8_emptied 62 = .ok (.ireturn, 1) := by decide +kernel
theorem dX8_rule_0 : decode cX8_rule 0 = .ok (.iload_n 1, 1) := by decide +kernel
theorem dX8_rule_1 : decode cX8_rule 1 = .ok (.invokestatic 90, 3) := by decide +kernel
theorem dX8_rule_4 : decode cX8_rule 4 = .ok (.ifCond .ne 5, 3) := by decide +kernel
theorem dX8_rule_7 : decode cX8_rule 7 = .ok (.iconst (-1), 1) := by decide +kernel
theorem dX8_rule_8 : decode cX8_rule 8 = .ok (.ireturn, 1) := by decide +kernel
theorem dX8_rule_9 : decode cX8_rule 9 = .ok (.iload_n 2, 1) := by decide +kernel
theorem dX8_rule_10 : decode cX8_rule 10 = .ok (.i2l, 1) := by decide +kernel
theorem dX8_rule_11 : decode cX8_rule 11 = .ok (.lconst 0, 1) := by decide +kernel
theorem dX8_rule_12 : decode cX8_rule 12 = .ok (.ldc2_w 94, 3) := by decide +kernel
theorem dX8_rule_15 : decode cX8_rule 15 = .ok (.invokestatic 86, 3) := by decide +kernel
theorem dX8_rule_18 : decode cX8_rule 18 = .ok (.ifCond .eq 47, 3) := by decide +kernel
theorem dX8_rule_21 : decode cX8_rule 21 = .ok (.iload_n 3, 1) := by decide +kernel
theorem dX8_rule_22 : decode cX8_rule 22 = .ok (.i2l, 1) := by decide +kernel
theorem dX8_rule_23 : decode cX8_rule 23 = .ok (.ldc2_w 96, 3) := by decide +kernel
theorem dX8_rule_26 : decode cX8_rule 26 = .ok (.ldc2_w 98, 3) := by decide +kernel
theorem dX8_rule_29 : decode cX8_rule 29 = .ok (.invokestatic 86, 3) := by decide +kernel
theorem dX8_rule_32 : decode cX8_rule 32 = .ok (.ifCond .eq 33, 3) := by decide +kernel
theorem dX8_rule_35 : decode cX8_rule 35 = .ok (.iload 4, 2) := by decide +kernel
theorem dX8_rule_37 : decode cX8_rule 37 = .ok (.i2l, 1) := by decide +kernel
theorem dX8_rule_38 : decode cX8_rule 38 = .ok (.ldc2_w 96, 3) := by decide +kernel
theorem dX8_rule_41 : decode cX8_rule 41 = .ok (.ldc2_w 98, 3) := by decide +kernel
theorem dX8_rule_44 : decode cX8_rule 44 = .ok (.invokestatic 86, 3) := by decide +kernel
theorem dX8_rule_47 : decode cX8_rule 47 = .ok (.ifCond .eq 18, 3) := by decide +kernel
theorem dX8_rule_50 : decode cX8_rule 50 = .ok (.iload 5, 2) := by decide +kernel
theorem dX8_rule_52 : decode cX8_rule 52 = .ok (.i2l, 1) := by decide +kernel
theorem dX8_rule_53 : decode cX8_rule 53 = .ok (.ldc2_w 96, 3) := by decide +kernel
theorem dX8_rule_56 : decode cX8_rule 56 = .ok (.ldc2_w 98, 3) := by decide +kernel
theorem dX8_rule_59 : decode cX8_rule 59 = .ok (.invokestatic 86, 3) := by decide +kernel
theorem dX8_rule_62 : decode cX8_rule 62 = .ok (.ifCond .ne 6, 3) := by decide +kernel
theorem dX8_rule_65 : decode cX8_rule 65 = .ok (.bipush (-2), 2) := by decide +kernel
theorem dX8_rule_67 : decode cX8_rule 67 = .ok (.ireturn, 1) := by decide +kernel
theorem dX8_rule_68 : decode cX8_rule 68 = .ok (.aload_n 0, 1) := by decide +kernel
theorem dX8_rule_69 : decode cX8_rule 69 = .ok (.getfield 21, 3) := by decide +kernel
theorem dX8_rule_72 : decode cX8_rule 72 = .ok (.bipush 12, 2) := by decide +kernel
theorem dX8_rule_74 : decode cX8_rule 74 = .ok (.iload_n 1, 1) := by decide +kernel
theorem dX8_rule_75 : decode cX8_rule 75 = .ok (.imul, 1) := by decide +kernel
theorem dX8_rule_76 : decode cX8_rule 76 = .ok (.iconst 3, 1) := by decide +kernel
theorem dX8_rule_77 : decode cX8_rule 77 = .ok (.iload_n 2, 1) := by decide +kernel
theorem dX8_rule_78 : decode cX8_rule 78 = .ok (.imul, 1) := by decide +kernel
theorem dX8_rule_79 : decode cX8_rule 79 = .ok (.iadd, 1) := by decide +kernel
theorem dX8_rule_80 : decode cX8_rule 80 = .ok (.iload_n 3, 1) := by decide +kernel
theorem dX8_rule_81 : decode cX8_rule 81 = .ok (.iastore, 1) := by decide +kernel
theorem dX8_rule_82 : decode cX8_rule 82 = .ok (.aload_n 0, 1) := by decide +kernel
theorem dX8_rule_83 : decode cX8_rule 83 = .ok (.getfield 21, 3) := by decide +kernel
theorem dX8_rule_86 : decode cX8_rule 86 = .ok (.bipush 12, 2) := by decide +kernel
theorem dX8_rule_88 : decode cX8_rule 88 = .ok (.iload_n 1, 1) := by decide +kernel
theorem dX8_rule_89 : decode cX8_rule 89 = .ok (.imul, 1) := by decide +kernel
theorem dX8_rule_90 : decode cX8_rule 90 = .ok (.iconst 3, 1) := by decide +kernel
theorem dX8_rule_91 : decode cX8_rule 91 = .ok (.iload_n 2, 1) := by decide +kernel
theorem dX8_rule_92 : decode cX8_rule 92 = .ok (.imul, 1) := by decide +kernel
theorem dX8_rule_93 : decode cX8_rule 93 = .ok (.iadd, 1) := by decide +kernel
theorem dX8_rule_94 : decode cX8_rule 94 = .ok (.iconst 1, 1) := by decide +kernel
theorem dX8_rule_95 : decode cX8_rule 95 = .ok (.iadd, 1) := by decide +kernel
theorem dX8_rule_96 : decode cX8_rule 96 = .ok (.iload 4, 2) := by decide +kernel
theorem dX8_rule_98 : decode cX8_rule 98 = .ok (.iastore, 1) := by decide +kernel
theorem dX8_rule_99 : decode cX8_rule 99 = .ok (.aload_n 0, 1) := by decide +kernel
theorem dX8_rule_100 : decode cX8_rule 100 = .ok (.getfield 21, 3) := by decide +kernel
theorem dX8_rule_103 : decode cX8_rule 103 = .ok (.bipush 12, 2) := by decide +kernel
theorem dX8_rule_105 : decode cX8_rule 105 = .ok (.iload_n 1, 1) := by decide +kernel
theorem dX8_rule_106 : decode cX8_rule 106 = .ok (.imul, 1) := by decide +kernel
theorem dX8_rule_107 : decode cX8_rule 107 = .ok (.iconst 3, 1) := by decide +kernel
theorem dX8_rule_108 : decode cX8_rule 108 = .ok (.iload_n 2, 1) := by decide +kernel
theorem dX8_rule_109 : decode cX8_rule 109 = .ok (.imul, 1) := by decide +kernel
theorem dX8_rule_110 : decode cX8_rule 110 = .ok (.iadd, 1) := by decide +kernel
theorem dX8_rule_111 : decode cX8_rule 111 = .ok (.iconst 2, 1) := by decide +kernel
theorem dX8_rule_112 : decode cX8_rule 112 = .ok (.iadd, 1) := by decide +kernel
theorem dX8_rule_113 : decode cX8_rule 113 = .ok (.iload 5, 2) := by decide +kernel
theorem dX8_rule_115 : decode cX8_rule 115 = .ok (.iastore, 1) := by decide +kernel
theorem dX8_rule_116 : decode cX8_rule 116 = .ok (.aload_n 0, 1) := by decide +kernel
theorem dX8_rule_117 : decode cX8_rule 117 = .ok (.iload_n 1, 1) := by decide +kernel
theorem dX8_rule_118 : decode cX8_rule 118 = .ok (.invokevirtual 100, 3) := by decide +kernel
theorem dX8_rule_121 : decode cX8_rule 121 = .ok (.ireturn, 1) := by decide +kernel
theorem dX8_bound_0 : decode cX8_bound 0 = .ok (.iload_n 1, 1) := by decide +kernel
theorem dX8_bound_1 : decode cX8_bound 1 = .ok (.invokestatic 90, 3) := by decide +kernel
theorem dX8_bound_4 : decode cX8_bound 4 = .ok (.ifCond .ne 5, 3) := by decide +kernel
theorem dX8_bound_7 : decode cX8_bound 7 = .ok (.iconst (-1), 1) := by decide +kernel
theorem dX8_bound_8 : decode cX8_bound 8 = .ok (.ireturn, 1) := by decide +kernel
theorem dX8_bound_9 : decode cX8_bound 9 = .ok (.iload_n 2, 1) := by decide +kernel
theorem dX8_bound_10 : decode cX8_bound 10 = .ok (.iconst 1, 1) := by decide +kernel
theorem dX8_bound_11 : decode cX8_bound 11 = .ok (.if_icmp .lt 14, 3) := by decide +kernel
theorem dX8_bound_14 : decode cX8_bound 14 = .ok (.iload_n 3, 1) := by decide +kernel
theorem dX8_bound_15 : decode cX8_bound 15 = .ok (.iload_n 2, 1) := by decide +kernel
theorem dX8_bound_16 : decode cX8_bound 16 = .ok (.if_icmp .le 9, 3) := by decide +kernel
theorem dX8_bound_19 : decode cX8_bound 19 = .ok (.iload_n 3, 1) := by decide +kernel
theorem dX8_bound_20 : decode cX8_bound 20 = .ok (.ldc 104, 2) := by decide +kernel
theorem dX8_bound_22 : decode cX8_bound 22 = .ok (.if_icmp .le 6, 3) := by decide +kernel
theorem dX8_bound_25 : decode cX8_bound 25 = .ok (.bipush (-2), 2) := by decide +kernel
theorem dX8_bound_27 : decode cX8_bound 27 = .ok (.ireturn, 1) := by decide +kernel
theorem dX8_bound_28 : decode cX8_bound 28 = .ok (.aload_n 0, 1) := by decide +kernel
theorem dX8_bound_29 : decode cX8_bound 29 = .ok (.getfield 24, 3) := by decide +kernel
theorem dX8_bound_32 : decode cX8_bound 32 = .ok (.iload_n 1, 1) := by decide +kernel
theorem dX8_bound_33 : decode cX8_bound 33 = .ok (.iload_n 2, 1) := by decide +kernel
theorem dX8_bound_34 : decode cX8_bound 34 = .ok (.iastore, 1) := by decide +kernel
theorem dX8_bound_35 : decode cX8_bound 35 = .ok (.aload_n 0, 1) := by decide +kernel
theorem dX8_bound_36 : decode cX8_bound 36 = .ok (.getfield 27, 3) := by decide +kernel
theorem dX8_bound_39 : decode cX8_bound 39 = .ok (.iload_n 1, 1) := by decide +kernel
theorem dX8_bound_40 : decode cX8_bound 40 = .ok (.iload_n 3, 1) := by decide +kernel
theorem dX8_bound_41 : decode cX8_bound 41 = .ok (.iastore, 1) := by decide +kernel
theorem dX8_bound_42 : decode cX8_bound 42 = .ok (.aload_n 0, 1) := by decide +kernel
theorem dX8_bound_43 : decode cX8_bound 43 = .ok (.iload_n 1, 1) := by decide +kernel
theorem dX8_bound_44 : decode cX8_bound 44 = .ok (.invokevirtual 100, 3) := by decide +kernel
theorem dX8_bound_47 : decode cX8_bound 47 = .ok (.ireturn, 1) := by decide +kernel
theorem dX8_value_0 : decode cX8_value 0 = .ok (.iload_n 2, 1) := by decide +kernel
theorem dX8_value_1 : decode cX8_value 1 = .ok (.iconst 2, 1) := by decide +kernel
theorem dX8_value_2 : decode cX8_value 2 = .ok (.if_icmp .ge 9, 3) := by decide +kernel
theorem dX8_value_5 : decode cX8_value 5 = .ok (.iload_n 3, 1) := by decide +kernel
theorem dX8_value_6 : decode cX8_value 6 = .ok (.ifCond .ne 5, 3) := by decide +kernel
theorem dX8_value_9 : decode cX8_value 9 = .ok (.iconst 1, 1) := by decide +kernel
theorem dX8_value_10 : decode cX8_value 10 = .ok (.ireturn, 1) := by decide +kernel
theorem dX8_value_11 : decode cX8_value 11 = .ok (.bipush 12, 2) := by decide +kernel
theorem dX8_value_13 : decode cX8_value 13 = .ok (.iload_n 1, 1) := by decide +kernel
theorem dX8_value_14 : decode cX8_value 14 = .ok (.imul, 1) := by decide +kernel
theorem dX8_value_15 : decode cX8_value 15 = .ok (.iconst 3, 1) := by decide +kernel
theorem dX8_value_16 : decode cX8_value 16 = .ok (.iload_n 2, 1) := by decide +kernel
theorem dX8_value_17 : decode cX8_value 17 = .ok (.imul, 1) := by decide +kernel
theorem dX8_value_18 : decode cX8_value 18 = .ok (.iadd, 1) := by decide +kernel
theorem dX8_value_19 : decode cX8_value 19 = .ok (.istore 4, 2) := by decide +kernel
theorem dX8_value_21 : decode cX8_value 21 = .ok (.aload_n 0, 1) := by decide +kernel
theorem dX8_value_22 : decode cX8_value 22 = .ok (.getfield 21, 3) := by decide +kernel
theorem dX8_value_25 : decode cX8_value 25 = .ok (.iload 4, 2) := by decide +kernel
theorem dX8_value_27 : decode cX8_value 27 = .ok (.iaload, 1) := by decide +kernel
theorem dX8_value_28 : decode cX8_value 28 = .ok (.aload_n 0, 1) := by decide +kernel
theorem dX8_value_29 : decode cX8_value 29 = .ok (.getfield 21, 3) := by decide +kernel
theorem dX8_value_32 : decode cX8_value 32 = .ok (.iload 4, 2) := by decide +kernel
theorem dX8_value_34 : decode cX8_value 34 = .ok (.iconst 1, 1) := by decide +kernel
theorem dX8_value_35 : decode cX8_value 35 = .ok (.iadd, 1) := by decide +kernel
theorem dX8_value_36 : decode cX8_value 36 = .ok (.iaload, 1) := by decide +kernel
theorem dX8_value_37 : decode cX8_value 37 = .ok (.iload_n 3, 1) := by decide +kernel
theorem dX8_value_38 : decode cX8_value 38 = .ok (.imul, 1) := by decide +kernel
theorem dX8_value_39 : decode cX8_value 39 = .ok (.iadd, 1) := by decide +kernel
theorem dX8_value_40 : decode cX8_value 40 = .ok (.aload_n 0, 1) := by decide +kernel
theorem dX8_value_41 : decode cX8_value 41 = .ok (.getfield 21, 3) := by decide +kernel
theorem dX8_value_44 : decode cX8_value 44 = .ok (.iload 4, 2) := by decide +kernel
theorem dX8_value_46 : decode cX8_value 46 = .ok (.iconst 2, 1) := by decide +kernel
theorem dX8_value_47 : decode cX8_value 47 = .ok (.iadd, 1) := by decide +kernel
theorem dX8_value_48 : decode cX8_value 48 = .ok (.iaload, 1) := by decide +kernel
theorem dX8_value_49 : decode cX8_value 49 = .ok (.iload_n 3, 1) := by decide +kernel
theorem dX8_value_50 : decode cX8_value 50 = .ok (.imul, 1) := by decide +kernel
theorem dX8_value_51 : decode cX8_value 51 = .ok (.iload_n 3, 1) := by decide +kernel
theorem dX8_value_52 : decode cX8_value 52 = .ok (.imul, 1) := by decide +kernel
theorem dX8_value_53 : decode cX8_value 53 = .ok (.iadd, 1) := by decide +kernel
theorem dX8_value_54 : decode cX8_value 54 = .ok (.ireturn, 1) := by decide +kernel
theorem dX8_at_0 : decode cX8_at 0 = .ok (.iload_n 1, 1) := by decide +kernel
theorem dX8_at_1 : decode cX8_at 1 = .ok (.invokestatic 90, 3) := by decide +kernel
theorem dX8_at_4 : decode cX8_at 4 = .ok (.ifCond .eq 15, 3) := by decide +kernel
theorem dX8_at_7 : decode cX8_at 7 = .ok (.iload_n 2, 1) := by decide +kernel
theorem dX8_at_8 : decode cX8_at 8 = .ok (.i2l, 1) := by decide +kernel
theorem dX8_at_9 : decode cX8_at 9 = .ok (.lconst 0, 1) := by decide +kernel
theorem dX8_at_10 : decode cX8_at 10 = .ok (.ldc2_w 94, 3) := by decide +kernel
theorem dX8_at_13 : decode cX8_at 13 = .ok (.invokestatic 86, 3) := by decide +kernel
theorem dX8_at_16 : decode cX8_at 16 = .ok (.ifCond .ne 8, 3) := by decide +kernel
theorem dX8_at_19 : decode cX8_at 19 = .ok (.ldc 105, 2) := by decide +kernel
theorem dX8_at_21 : decode cX8_at 21 = .ok (.goto 27, 3) := by decide +kernel
theorem dX8_at_24 : decode cX8_at 24 = .ok (.iload_n 3, 1) := by decide +kernel
theorem dX8_at_25 : decode cX8_at 25 = .ok (.i2l, 1) := by decide +kernel
theorem dX8_at_26 : decode cX8_at 26 = .ok (.lconst 0, 1) := by decide +kernel
theorem dX8_at_27 : decode cX8_at 27 = .ok (.ldc2_w 106, 3) := by decide +kernel
theorem dX8_at_30 : decode cX8_at 30 = .ok (.invokestatic 86, 3) := by decide +kernel
theorem dX8_at_33 : decode cX8_at 33 = .ok (.ifCond .eq 13, 3) := by decide +kernel
theorem dX8_at_36 : decode cX8_at 36 = .ok (.aload_n 0, 1) := by decide +kernel
theorem dX8_at_37 : decode cX8_at 37 = .ok (.iload_n 1, 1) := by decide +kernel
theorem dX8_at_38 : decode cX8_at 38 = .ok (.iload_n 2, 1) := by decide +kernel
theorem dX8_at_39 : decode cX8_at 39 = .ok (.iload_n 3, 1) := by decide +kernel
theorem dX8_at_40 : decode cX8_at 40 = .ok (.invokevirtual 108, 3) := by decide +kernel
theorem dX8_at_43 : decode cX8_at 43 = .ok (.goto 5, 3) := by decide +kernel
theorem dX8_at_46 : decode cX8_at 46 = .ok (.ldc 112, 2) := by decide +kernel
theorem dX8_at_48 : decode cX8_at 48 = .ok (.ireturn, 1) := by decide +kernel
theorem dX8_size_0 : decode cX8_size 0 = .ok (.lload_n 0, 1) := by decide +kernel
theorem dX8_size_1 : decode cX8_size 1 = .ok (.lconst 0, 1) := by decide +kernel
theorem dX8_size_2 : decode cX8_size 2 = .ok (.lcmp, 1) := by decide +kernel
theorem dX8_size_3 : decode cX8_size 3 = .ok (.ifCond .ge 8, 3) := by decide +kernel
theorem dX8_size_6 : decode cX8_size 6 = .ok (.lload_n 0, 1) := by decide +kernel
theorem dX8_size_7 : decode cX8_size 7 = .ok (.lneg, 1) := by decide +kernel
theorem dX8_size_8 : decode cX8_size 8 = .ok (.goto 4, 3) := by decide +kernel
theorem dX8_size_11 : decode cX8_size 11 = .ok (.lload_n 0, 1) := by decide +kernel
theorem dX8_size_12 : decode cX8_size 12 = .ok (.lreturn, 1) := by decide +kernel
theorem dX8_upper_0 : decode cX8_upper 0 = .ok (.lload_n 0, 1) := by decide +kernel
theorem dX8_upper_1 : decode cX8_upper 1 = .ok (.bipush 32, 2) := by decide +kernel
theorem dX8_upper_3 : decode cX8_upper 3 = .ok (.lushr, 1) := by decide +kernel
theorem dX8_upper_4 : decode cX8_upper 4 = .ok (.lload_n 2, 1) := by decide +kernel
theorem dX8_upper_5 : decode cX8_upper 5 = .ok (.ldc2_w 64, 3) := by decide +kernel
theorem dX8_upper_8 : decode cX8_upper 8 = .ok (.land, 1) := by decide +kernel
theorem dX8_upper_9 : decode cX8_upper 9 = .ok (.lmul, 1) := by decide +kernel
theorem dX8_upper_10 : decode cX8_upper 10 = .ok (.lload_n 0, 1) := by decide +kernel
theorem dX8_upper_11 : decode cX8_upper 11 = .ok (.ldc2_w 64, 3) := by decide +kernel
theorem dX8_upper_14 : decode cX8_upper 14 = .ok (.land, 1) := by decide +kernel
theorem dX8_upper_15 : decode cX8_upper 15 = .ok (.lload_n 2, 1) := by decide +kernel
theorem dX8_upper_16 : decode cX8_upper 16 = .ok (.bipush 32, 2) := by decide +kernel
theorem dX8_upper_18 : decode cX8_upper 18 = .ok (.lushr, 1) := by decide +kernel
theorem dX8_upper_19 : decode cX8_upper 19 = .ok (.lmul, 1) := by decide +kernel
theorem dX8_upper_20 : decode cX8_upper 20 = .ok (.ladd, 1) := by decide +kernel
theorem dX8_upper_21 : decode cX8_upper 21 = .ok (.lstore 4, 2) := by decide +kernel
theorem dX8_upper_23 : decode cX8_upper 23 = .ok (.lload_n 0, 1) := by decide +kernel
theorem dX8_upper_24 : decode cX8_upper 24 = .ok (.bipush 32, 2) := by decide +kernel
theorem dX8_upper_26 : decode cX8_upper 26 = .ok (.lushr, 1) := by decide +kernel
theorem dX8_upper_27 : decode cX8_upper 27 = .ok (.lload_n 2, 1) := by decide +kernel
theorem dX8_upper_28 : decode cX8_upper 28 = .ok (.bipush 32, 2) := by decide +kernel
theorem dX8_upper_30 : decode cX8_upper 30 = .ok (.lushr, 1) := by decide +kernel
theorem dX8_upper_31 : decode cX8_upper 31 = .ok (.lmul, 1) := by decide +kernel
theorem dX8_upper_32 : decode cX8_upper 32 = .ok (.bipush 32, 2) := by decide +kernel
theorem dX8_upper_34 : decode cX8_upper 34 = .ok (.lshl, 1) := by decide +kernel
theorem dX8_upper_35 : decode cX8_upper 35 = .ok (.lload 4, 2) := by decide +kernel
theorem dX8_upper_37 : decode cX8_upper 37 = .ok (.ladd, 1) := by decide +kernel
theorem dX8_upper_38 : decode cX8_upper 38 = .ok (.lload_n 0, 1) := by decide +kernel
theorem dX8_upper_39 : decode cX8_upper 39 = .ok (.ldc2_w 64, 3) := by decide +kernel
theorem dX8_upper_42 : decode cX8_upper 42 = .ok (.land, 1) := by decide +kernel
theorem dX8_upper_43 : decode cX8_upper 43 = .ok (.lload_n 2, 1) := by decide +kernel
theorem dX8_upper_44 : decode cX8_upper 44 = .ok (.ldc2_w 64, 3) := by decide +kernel
theorem dX8_upper_47 : decode cX8_upper 47 = .ok (.land, 1) := by decide +kernel
theorem dX8_upper_48 : decode cX8_upper 48 = .ok (.lmul, 1) := by decide +kernel
theorem dX8_upper_49 : decode cX8_upper 49 = .ok (.bipush 32, 2) := by decide +kernel
theorem dX8_upper_51 : decode cX8_upper 51 = .ok (.lushr, 1) := by decide +kernel
theorem dX8_upper_52 : decode cX8_upper 52 = .ok (.ladd, 1) := by decide +kernel
theorem dX8_upper_53 : decode cX8_upper 53 = .ok (.lreturn, 1) := by decide +kernel
theorem dX8_lower_0 : decode cX8_lower 0 = .ok (.lload_n 0, 1) := by decide +kernel
theorem dX8_lower_1 : decode cX8_lower 1 = .ok (.ldc2_w 64, 3) := by decide +kernel
theorem dX8_lower_4 : decode cX8_lower 4 = .ok (.land, 1) := by decide +kernel
theorem dX8_lower_5 : decode cX8_lower 5 = .ok (.lload_n 2, 1) := by decide +kernel
theorem dX8_lower_6 : decode cX8_lower 6 = .ok (.ldc2_w 64, 3) := by decide +kernel
theorem dX8_lower_9 : decode cX8_lower 9 = .ok (.land, 1) := by decide +kernel
theorem dX8_lower_10 : decode cX8_lower 10 = .ok (.lmul, 1) := by decide +kernel
theorem dX8_lower_11 : decode cX8_lower 11 = .ok (.ldc2_w 64, 3) := by decide +kernel
theorem dX8_lower_14 : decode cX8_lower 14 = .ok (.land, 1) := by decide +kernel
theorem dX8_lower_15 : decode cX8_lower 15 = .ok (.lreturn, 1) := by decide +kernel
theorem dX8_isSteep_0 : decode cX8_isSteep 0 = .ok (.aload_n 0, 1) := by decide +kernel
theorem dX8_isSteep_1 : decode cX8_isSteep 1 = .ok (.iload_n 1, 1) := by decide +kernel
theorem dX8_isSteep_2 : decode cX8_isSteep 2 = .ok (.iconst 0, 1) := by decide +kernel
theorem dX8_isSteep_3 : decode cX8_isSteep 3 = .ok (.iload_n 2, 1) := by decide +kernel
theorem dX8_isSteep_4 : decode cX8_isSteep 4 = .ok (.invokevirtual 108, 3) := by decide +kernel
theorem dX8_isSteep_7 : decode cX8_isSteep 7 = .ok (.i2l, 1) := by decide +kernel
theorem dX8_isSteep_8 : decode cX8_isSteep 8 = .ok (.aload_n 0, 1) := by decide +kernel
theorem dX8_isSteep_9 : decode cX8_isSteep 9 = .ok (.iload_n 1, 1) := by decide +kernel
theorem dX8_isSteep_10 : decode cX8_isSteep 10 = .ok (.iconst 2, 1) := by decide +kernel
theorem dX8_isSteep_11 : decode cX8_isSteep 11 = .ok (.iload_n 2, 1) := by decide +kernel
theorem dX8_isSteep_12 : decode cX8_isSteep 12 = .ok (.invokevirtual 108, 3) := by decide +kernel
theorem dX8_isSteep_15 : decode cX8_isSteep 15 = .ok (.i2l, 1) := by decide +kernel
theorem dX8_isSteep_16 : decode cX8_isSteep 16 = .ok (.lmul, 1) := by decide +kernel
theorem dX8_isSteep_17 : decode cX8_isSteep 17 = .ok (.invokestatic 113, 3) := by decide +kernel
theorem dX8_isSteep_20 : decode cX8_isSteep 20 = .ok (.lstore_n 3, 1) := by decide +kernel
theorem dX8_isSteep_21 : decode cX8_isSteep 21 = .ok (.aload_n 0, 1) := by decide +kernel
theorem dX8_isSteep_22 : decode cX8_isSteep 22 = .ok (.iload_n 1, 1) := by decide +kernel
theorem dX8_isSteep_23 : decode cX8_isSteep 23 = .ok (.iconst 3, 1) := by decide +kernel
theorem dX8_isSteep_24 : decode cX8_isSteep 24 = .ok (.iload_n 2, 1) := by decide +kernel
theorem dX8_isSteep_25 : decode cX8_isSteep 25 = .ok (.iconst 1, 1) := by decide +kernel
theorem dX8_isSteep_26 : decode cX8_isSteep 26 = .ok (.isub, 1) := by decide +kernel
theorem dX8_isSteep_27 : decode cX8_isSteep 27 = .ok (.invokevirtual 108, 3) := by decide +kernel
theorem dX8_isSteep_30 : decode cX8_isSteep 30 = .ok (.i2l, 1) := by decide +kernel
theorem dX8_isSteep_31 : decode cX8_isSteep 31 = .ok (.aload_n 0, 1) := by decide +kernel
theorem dX8_isSteep_32 : decode cX8_isSteep 32 = .ok (.getfield 27, 3) := by decide +kernel
theorem dX8_isSteep_35 : decode cX8_isSteep 35 = .ok (.iload_n 1, 1) := by decide +kernel
theorem dX8_isSteep_36 : decode cX8_isSteep 36 = .ok (.iaload, 1) := by decide +kernel
theorem dX8_isSteep_37 : decode cX8_isSteep 37 = .ok (.i2l, 1) := by decide +kernel
theorem dX8_isSteep_38 : decode cX8_isSteep 38 = .ok (.lmul, 1) := by decide +kernel
theorem dX8_isSteep_39 : decode cX8_isSteep 39 = .ok (.invokestatic 113, 3) := by decide +kernel
theorem dX8_isSteep_42 : decode cX8_isSteep 42 = .ok (.lstore 5, 2) := by decide +kernel
theorem dX8_isSteep_44 : decode cX8_isSteep 44 = .ok (.aload_n 0, 1) := by decide +kernel
theorem dX8_isSteep_45 : decode cX8_isSteep 45 = .ok (.iload_n 1, 1) := by decide +kernel
theorem dX8_isSteep_46 : decode cX8_isSteep 46 = .ok (.iconst 1, 1) := by decide +kernel
theorem dX8_isSteep_47 : decode cX8_isSteep 47 = .ok (.iload_n 2, 1) := by decide +kernel
theorem dX8_isSteep_48 : decode cX8_isSteep 48 = .ok (.invokevirtual 108, 3) := by decide +kernel
theorem dX8_isSteep_51 : decode cX8_isSteep 51 = .ok (.i2l, 1) := by decide +kernel
theorem dX8_isSteep_52 : decode cX8_isSteep 52 = .ok (.aload_n 0, 1) := by decide +kernel
theorem dX8_isSteep_53 : decode cX8_isSteep 53 = .ok (.iload_n 1, 1) := by decide +kernel
theorem dX8_isSteep_54 : decode cX8_isSteep 54 = .ok (.iconst 3, 1) := by decide +kernel
theorem dX8_isSteep_55 : decode cX8_isSteep 55 = .ok (.iload_n 2, 1) := by decide +kernel
theorem dX8_isSteep_56 : decode cX8_isSteep 56 = .ok (.invokevirtual 108, 3) := by decide +kernel
theorem dX8_isSteep_59 : decode cX8_isSteep 59 = .ok (.i2l, 1) := by decide +kernel
theorem dX8_isSteep_60 : decode cX8_isSteep 60 = .ok (.lmul, 1) := by decide +kernel
theorem dX8_isSteep_61 : decode cX8_isSteep 61 = .ok (.invokestatic 113, 3) := by decide +kernel
theorem dX8_isSteep_64 : decode cX8_isSteep 64 = .ok (.lstore 7, 2) := by decide +kernel
theorem dX8_isSteep_66 : decode cX8_isSteep 66 = .ok (.aload_n 0, 1) := by decide +kernel
theorem dX8_isSteep_67 : decode cX8_isSteep 67 = .ok (.iload_n 1, 1) := by decide +kernel
theorem dX8_isSteep_68 : decode cX8_isSteep 68 = .ok (.iconst 2, 1) := by decide +kernel
theorem dX8_isSteep_69 : decode cX8_isSteep 69 = .ok (.iload_n 2, 1) := by decide +kernel
theorem dX8_isSteep_70 : decode cX8_isSteep 70 = .ok (.iconst 1, 1) := by decide +kernel
theorem dX8_isSteep_71 : decode cX8_isSteep 71 = .ok (.isub, 1) := by decide +kernel
theorem dX8_isSteep_72 : decode cX8_isSteep 72 = .ok (.invokevirtual 108, 3) := by decide +kernel
theorem dX8_isSteep_75 : decode cX8_isSteep 75 = .ok (.i2l, 1) := by decide +kernel
theorem dX8_isSteep_76 : decode cX8_isSteep 76 = .ok (.aload_n 0, 1) := by decide +kernel
theorem dX8_isSteep_77 : decode cX8_isSteep 77 = .ok (.getfield 24, 3) := by decide +kernel
theorem dX8_isSteep_80 : decode cX8_isSteep 80 = .ok (.iload_n 1, 1) := by decide +kernel
theorem dX8_isSteep_81 : decode cX8_isSteep 81 = .ok (.iaload, 1) := by decide +kernel
theorem dX8_isSteep_82 : decode cX8_isSteep 82 = .ok (.i2l, 1) := by decide +kernel
theorem dX8_isSteep_83 : decode cX8_isSteep 83 = .ok (.lmul, 1) := by decide +kernel
theorem dX8_isSteep_84 : decode cX8_isSteep 84 = .ok (.invokestatic 113, 3) := by decide +kernel
theorem dX8_isSteep_87 : decode cX8_isSteep 87 = .ok (.lstore 9, 2) := by decide +kernel
theorem dX8_isSteep_89 : decode cX8_isSteep 89 = .ok (.lload_n 3, 1) := by decide +kernel
theorem dX8_isSteep_90 : decode cX8_isSteep 90 = .ok (.lload 5, 2) := by decide +kernel
theorem dX8_isSteep_92 : decode cX8_isSteep 92 = .ok (.invokestatic 116, 3) := by decide +kernel
theorem dX8_isSteep_95 : decode cX8_isSteep 95 = .ok (.lstore 11, 2) := by decide +kernel
theorem dX8_isSteep_97 : decode cX8_isSteep 97 = .ok (.lload 7, 2) := by decide +kernel
theorem dX8_isSteep_99 : decode cX8_isSteep 99 = .ok (.lload 9, 2) := by decide +kernel
theorem dX8_isSteep_101 : decode cX8_isSteep 101 = .ok (.invokestatic 116, 3) := by decide +kernel
theorem dX8_isSteep_104 : decode cX8_isSteep 104 = .ok (.lstore 13, 2) := by decide +kernel
theorem dX8_isSteep_106 : decode cX8_isSteep 106 = .ok (.lload 11, 2) := by decide +kernel
theorem dX8_isSteep_108 : decode cX8_isSteep 108 = .ok (.lload 13, 2) := by decide +kernel
theorem dX8_isSteep_110 : decode cX8_isSteep 110 = .ok (.lcmp, 1) := by decide +kernel
theorem dX8_isSteep_111 : decode cX8_isSteep 111 = .ok (.ifCond .eq 19, 3) := by decide +kernel
theorem dX8_isSteep_114 : decode cX8_isSteep 114 = .ok (.lload 11, 2) := by decide +kernel
theorem dX8_isSteep_116 : decode cX8_isSteep 116 = .ok (.lload 13, 2) := by decide +kernel
theorem dX8_isSteep_118 : decode cX8_isSteep 118 = .ok (.lcmp, 1) := by decide +kernel
theorem dX8_isSteep_119 : decode cX8_isSteep 119 = .ok (.ifCond .le 7, 3) := by decide +kernel
theorem dX8_isSteep_122 : decode cX8_isSteep 122 = .ok (.iconst 1, 1) := by decide +kernel
theorem dX8_isSteep_123 : decode cX8_isSteep 123 = .ok (.goto 29, 3) := by decide +kernel
theorem dX8_isSteep_126 : decode cX8_isSteep 126 = .ok (.iconst 0, 1) := by decide +kernel
theorem dX8_isSteep_127 : decode cX8_isSteep 127 = .ok (.goto 25, 3) := by decide +kernel
theorem dX8_isSteep_130 : decode cX8_isSteep 130 = .ok (.lload_n 3, 1) := by decide +kernel
theorem dX8_isSteep_131 : decode cX8_isSteep 131 = .ok (.lload 5, 2) := by decide +kernel
theorem dX8_isSteep_133 : decode cX8_isSteep 133 = .ok (.invokestatic 120, 3) := by decide +kernel
theorem dX8_isSteep_136 : decode cX8_isSteep 136 = .ok (.lload 7, 2) := by decide +kernel
theorem dX8_isSteep_138 : decode cX8_isSteep 138 = .ok (.lload 9, 2) := by decide +kernel
theorem dX8_isSteep_140 : decode cX8_isSteep 140 = .ok (.invokestatic 120, 3) := by decide +kernel
theorem dX8_isSteep_143 : decode cX8_isSteep 143 = .ok (.lcmp, 1) := by decide +kernel
theorem dX8_isSteep_144 : decode cX8_isSteep 144 = .ok (.ifCond .le 7, 3) := by decide +kernel
theorem dX8_isSteep_147 : decode cX8_isSteep 147 = .ok (.iconst 1, 1) := by decide +kernel
theorem dX8_isSteep_148 : decode cX8_isSteep 148 = .ok (.goto 4, 3) := by decide +kernel
theorem dX8_isSteep_151 : decode cX8_isSteep 151 = .ok (.iconst 0, 1) := by decide +kernel
theorem dX8_isSteep_152 : decode cX8_isSteep 152 = .ok (.ireturn, 1) := by decide +kernel
theorem dX8_fall_0 : decode cX8_fall 0 = .ok (.iload_n 2, 1) := by decide +kernel
theorem dX8_fall_1 : decode cX8_fall 1 = .ok (.istore 5, 2) := by decide +kernel
theorem dX8_fall_3 : decode cX8_fall 3 = .ok (.iload 5, 2) := by decide +kernel
theorem dX8_fall_5 : decode cX8_fall 5 = .ok (.iload_n 3, 1) := by decide +kernel
theorem dX8_fall_6 : decode cX8_fall 6 = .ok (.if_icmp .ge 55, 3) := by decide +kernel
theorem dX8_fall_9 : decode cX8_fall 9 = .ok (.aload_n 0, 1) := by decide +kernel
theorem dX8_fall_10 : decode cX8_fall 10 = .ok (.iload_n 1, 1) := by decide +kernel
theorem dX8_fall_11 : decode cX8_fall 11 = .ok (.iconst 1, 1) := by decide +kernel
theorem dX8_fall_12 : decode cX8_fall 12 = .ok (.iload 5, 2) := by decide +kernel
theorem dX8_fall_14 : decode cX8_fall 14 = .ok (.invokevirtual 108, 3) := by decide +kernel
theorem dX8_fall_17 : decode cX8_fall 17 = .ok (.ifCond .eq 35, 3) := by decide +kernel
theorem dX8_fall_20 : decode cX8_fall 20 = .ok (.aload_n 0, 1) := by decide +kernel
theorem dX8_fall_21 : decode cX8_fall 21 = .ok (.iload_n 1, 1) := by decide +kernel
theorem dX8_fall_22 : decode cX8_fall 22 = .ok (.iconst 3, 1) := by decide +kernel
theorem dX8_fall_23 : decode cX8_fall 23 = .ok (.iload 5, 2) := by decide +kernel
theorem dX8_fall_25 : decode cX8_fall 25 = .ok (.invokevirtual 108, 3) := by decide +kernel
theorem dX8_fall_28 : decode cX8_fall 28 = .ok (.ifCond .eq 24, 3) := by decide +kernel
theorem dX8_fall_31 : decode cX8_fall 31 = .ok (.iload 5, 2) := by decide +kernel
theorem dX8_fall_33 : decode cX8_fall 33 = .ok (.iload_n 2, 1) := by decide +kernel
theorem dX8_fall_34 : decode cX8_fall 34 = .ok (.if_icmp .gt 8, 3) := by decide +kernel
theorem dX8_fall_37 : decode cX8_fall 37 = .ok (.iload 4, 2) := by decide +kernel
theorem dX8_fall_39 : decode cX8_fall 39 = .ok (.ifCond .eq 16, 3) := by decide +kernel
theorem dX8_fall_42 : decode cX8_fall 42 = .ok (.aload_n 0, 1) := by decide +kernel
theorem dX8_fall_43 : decode cX8_fall 43 = .ok (.iload_n 1, 1) := by decide +kernel
theorem dX8_fall_44 : decode cX8_fall 44 = .ok (.iload 5, 2) := by decide +kernel
theorem dX8_fall_46 : decode cX8_fall 46 = .ok (.invokevirtual 123, 3) := by decide +kernel
theorem dX8_fall_49 : decode cX8_fall 49 = .ok (.ifCond .eq 6, 3) := by decide +kernel
theorem dX8_fall_52 : decode cX8_fall 52 = .ok (.iload 5, 2) := by decide +kernel
theorem dX8_fall_54 : decode cX8_fall 54 = .ok (.ireturn, 1) := by decide +kernel
theorem dX8_fall_55 : decode cX8_fall 55 = .ok (.iinc 5 1, 3) := by decide +kernel
theorem dX8_fall_58 : decode cX8_fall 58 = .ok (.goto (-55), 3) := by decide +kernel
theorem dX8_fall_61 : decode cX8_fall 61 = .ok (.bipush (-6), 2) := by decide +kernel
theorem dX8_fall_63 : decode cX8_fall 63 = .ok (.ireturn, 1) := by decide +kernel
theorem dX8_falls_0 : decode cX8_falls 0 = .ok (.iload_n 1, 1) := by decide +kernel
theorem dX8_falls_1 : decode cX8_falls 1 = .ok (.invokestatic 90, 3) := by decide +kernel
theorem dX8_falls_4 : decode cX8_falls 4 = .ok (.ifCond .ne 5, 3) := by decide +kernel
theorem dX8_falls_7 : decode cX8_falls 7 = .ok (.iconst (-1), 1) := by decide +kernel
theorem dX8_falls_8 : decode cX8_falls 8 = .ok (.ireturn, 1) := by decide +kernel
theorem dX8_falls_9 : decode cX8_falls 9 = .ok (.iload_n 2, 1) := by decide +kernel
theorem dX8_falls_10 : decode cX8_falls 10 = .ok (.i2l, 1) := by decide +kernel
theorem dX8_falls_11 : decode cX8_falls 11 = .ok (.lconst 0, 1) := by decide +kernel
theorem dX8_falls_12 : decode cX8_falls 12 = .ok (.ldc2_w 127, 3) := by decide +kernel
theorem dX8_falls_15 : decode cX8_falls 15 = .ok (.invokestatic 86, 3) := by decide +kernel
theorem dX8_falls_18 : decode cX8_falls 18 = .ok (.ifCond .eq 14, 3) := by decide +kernel
theorem dX8_falls_21 : decode cX8_falls 21 = .ok (.aload_n 0, 1) := by decide +kernel
theorem dX8_falls_22 : decode cX8_falls 22 = .ok (.iload_n 1, 1) := by decide +kernel
theorem dX8_falls_23 : decode cX8_falls 23 = .ok (.iconst 0, 1) := by decide +kernel
theorem dX8_falls_24 : decode cX8_falls 24 = .ok (.iload_n 2, 1) := by decide +kernel
theorem dX8_falls_25 : decode cX8_falls 25 = .ok (.iconst 0, 1) := by decide +kernel
theorem dX8_falls_26 : decode cX8_falls 26 = .ok (.invokevirtual 129, 3) := by decide +kernel
theorem dX8_falls_29 : decode cX8_falls 29 = .ok (.goto 5, 3) := by decide +kernel
theorem dX8_falls_32 : decode cX8_falls 32 = .ok (.bipush (-2), 2) := by decide +kernel
theorem dX8_falls_34 : decode cX8_falls 34 = .ok (.ireturn, 1) := by decide +kernel
theorem dX8_begin_0 : decode cX8_begin 0 = .ok (.aload_n 0, 1) := by decide +kernel
theorem dX8_begin_1 : decode cX8_begin 1 = .ok (.iload_n 1, 1) := by decide +kernel
theorem dX8_begin_2 : decode cX8_begin 2 = .ok (.lconst 1, 1) := by decide +kernel
theorem dX8_begin_3 : decode cX8_begin 3 = .ok (.invokevirtual 133, 3) := by decide +kernel
theorem dX8_begin_6 : decode cX8_begin 6 = .ok (.aload_n 0, 1) := by decide +kernel
theorem dX8_begin_7 : decode cX8_begin 7 = .ok (.iload_n 1, 1) := by decide +kernel
theorem dX8_begin_8 : decode cX8_begin 8 = .ok (.iconst 1, 1) := by decide +kernel
theorem dX8_begin_9 : decode cX8_begin 9 = .ok (.iadd, 1) := by decide +kernel
theorem dX8_begin_10 : decode cX8_begin 10 = .ok (.lconst 1, 1) := by decide +kernel
theorem dX8_begin_11 : decode cX8_begin 11 = .ok (.invokevirtual 133, 3) := by decide +kernel
theorem dX8_begin_14 : decode cX8_begin 14 = .ok (.aload_n 0, 1) := by decide +kernel
theorem dX8_begin_15 : decode cX8_begin 15 = .ok (.iload_n 1, 1) := by decide +kernel
theorem dX8_begin_16 : decode cX8_begin 16 = .ok (.iconst 2, 1) := by decide +kernel
theorem dX8_begin_17 : decode cX8_begin 17 = .ok (.iadd, 1) := by decide +kernel
theorem dX8_begin_18 : decode cX8_begin 18 = .ok (.lconst 1, 1) := by decide +kernel
theorem dX8_begin_19 : decode cX8_begin 19 = .ok (.invokevirtual 133, 3) := by decide +kernel
theorem dX8_begin_22 : decode cX8_begin 22 = .ok (.aload_n 0, 1) := by decide +kernel
theorem dX8_begin_23 : decode cX8_begin 23 = .ok (.iload_n 1, 1) := by decide +kernel
theorem dX8_begin_24 : decode cX8_begin 24 = .ok (.iconst 3, 1) := by decide +kernel
theorem dX8_begin_25 : decode cX8_begin 25 = .ok (.iadd, 1) := by decide +kernel
theorem dX8_begin_26 : decode cX8_begin 26 = .ok (.lconst 0, 1) := by decide +kernel
theorem dX8_begin_27 : decode cX8_begin 27 = .ok (.invokevirtual 133, 3) := by decide +kernel
theorem dX8_begin_30 : decode cX8_begin 30 = .ok (.return_, 1) := by decide +kernel
theorem dX8_go_0 : decode cX8_go 0 = .ok (.aload_n 0, 1) := by decide +kernel
theorem dX8_go_1 : decode cX8_go 1 = .ok (.iload_n 2, 1) := by decide +kernel
theorem dX8_go_2 : decode cX8_go 2 = .ok (.iconst 0, 1) := by decide +kernel
theorem dX8_go_3 : decode cX8_go 3 = .ok (.iload_n 3, 1) := by decide +kernel
theorem dX8_go_4 : decode cX8_go 4 = .ok (.invokevirtual 108, 3) := by decide +kernel
theorem dX8_go_7 : decode cX8_go 7 = .ok (.istore 4, 2) := by decide +kernel
theorem dX8_go_9 : decode cX8_go 9 = .ok (.aload_n 0, 1) := by decide +kernel
theorem dX8_go_10 : decode cX8_go 10 = .ok (.iload_n 2, 1) := by decide +kernel
theorem dX8_go_11 : decode cX8_go 11 = .ok (.iconst 1, 1) := by decide +kernel
theorem dX8_go_12 : decode cX8_go 12 = .ok (.iload_n 3, 1) := by decide +kernel
theorem dX8_go_13 : decode cX8_go 13 = .ok (.invokevirtual 108, 3) := by decide +kernel
theorem dX8_go_16 : decode cX8_go 16 = .ok (.istore 5, 2) := by decide +kernel
theorem dX8_go_18 : decode cX8_go 18 = .ok (.aload_n 0, 1) := by decide +kernel
theorem dX8_go_19 : decode cX8_go 19 = .ok (.iload_n 2, 1) := by decide +kernel
theorem dX8_go_20 : decode cX8_go 20 = .ok (.iconst 3, 1) := by decide +kernel
theorem dX8_go_21 : decode cX8_go 21 = .ok (.iload_n 3, 1) := by decide +kernel
theorem dX8_go_22 : decode cX8_go 22 = .ok (.invokevirtual 108, 3) := by decide +kernel
theorem dX8_go_25 : decode cX8_go 25 = .ok (.istore 6, 2) := by decide +kernel
theorem dX8_go_27 : decode cX8_go 27 = .ok (.aload_n 0, 1) := by decide +kernel
theorem dX8_go_28 : decode cX8_go 28 = .ok (.iload_n 1, 1) := by decide +kernel
theorem dX8_go_29 : decode cX8_go 29 = .ok (.iload 4, 2) := by decide +kernel
theorem dX8_go_31 : decode cX8_go 31 = .ok (.invokevirtual 137, 3) := by decide +kernel
theorem dX8_go_34 : decode cX8_go 34 = .ok (.aload_n 0, 1) := by decide +kernel
theorem dX8_go_35 : decode cX8_go 35 = .ok (.iload_n 1, 1) := by decide +kernel
theorem dX8_go_36 : decode cX8_go 36 = .ok (.iload_n 1, 1) := by decide +kernel
theorem dX8_go_37 : decode cX8_go 37 = .ok (.iconst 2, 1) := by decide +kernel
theorem dX8_go_38 : decode cX8_go 38 = .ok (.iadd, 1) := by decide +kernel
theorem dX8_go_39 : decode cX8_go 39 = .ok (.bipush 55, 2) := by decide +kernel
theorem dX8_go_41 : decode cX8_go 41 = .ok (.invokevirtual 140, 3) := by decide +kernel
theorem dX8_go_44 : decode cX8_go 44 = .ok (.aload_n 0, 1) := by decide +kernel
theorem dX8_go_45 : decode cX8_go 45 = .ok (.bipush 55, 2) := by decide +kernel
theorem dX8_go_47 : decode cX8_go 47 = .ok (.aload_n 0, 1) := by decide +kernel
theorem dX8_go_48 : decode cX8_go 48 = .ok (.iload_n 2, 1) := by decide +kernel
theorem dX8_go_49 : decode cX8_go 49 = .ok (.iconst 2, 1) := by decide +kernel
theorem dX8_go_50 : decode cX8_go 50 = .ok (.iload_n 3, 1) := by decide +kernel
theorem dX8_go_51 : decode cX8_go 51 = .ok (.invokevirtual 108, 3) := by decide +kernel
theorem dX8_go_54 : decode cX8_go 54 = .ok (.invokevirtual 137, 3) := by decide +kernel
theorem dX8_go_57 : decode cX8_go 57 = .ok (.aload_n 0, 1) := by decide +kernel
theorem dX8_go_58 : decode cX8_go 58 = .ok (.iload_n 1, 1) := by decide +kernel
theorem dX8_go_59 : decode cX8_go 59 = .ok (.iconst 3, 1) := by decide +kernel
theorem dX8_go_60 : decode cX8_go 60 = .ok (.iadd, 1) := by decide +kernel
theorem dX8_go_61 : decode cX8_go 61 = .ok (.iload 5, 2) := by decide +kernel
theorem dX8_go_63 : decode cX8_go 63 = .ok (.invokevirtual 137, 3) := by decide +kernel
theorem dX8_go_66 : decode cX8_go 66 = .ok (.aload_n 0, 1) := by decide +kernel
theorem dX8_go_67 : decode cX8_go 67 = .ok (.iload_n 1, 1) := by decide +kernel
theorem dX8_go_68 : decode cX8_go 68 = .ok (.iconst 3, 1) := by decide +kernel
theorem dX8_go_69 : decode cX8_go 69 = .ok (.iadd, 1) := by decide +kernel
theorem dX8_go_70 : decode cX8_go 70 = .ok (.iload 6, 2) := by decide +kernel
theorem dX8_go_72 : decode cX8_go 72 = .ok (.invokevirtual 137, 3) := by decide +kernel
theorem dX8_go_75 : decode cX8_go 75 = .ok (.aload_n 0, 1) := by decide +kernel
theorem dX8_go_76 : decode cX8_go 76 = .ok (.iload_n 1, 1) := by decide +kernel
theorem dX8_go_77 : decode cX8_go 77 = .ok (.iconst 3, 1) := by decide +kernel
theorem dX8_go_78 : decode cX8_go 78 = .ok (.iadd, 1) := by decide +kernel
theorem dX8_go_79 : decode cX8_go 79 = .ok (.bipush 55, 2) := by decide +kernel
theorem dX8_go_81 : decode cX8_go 81 = .ok (.iconst 0, 1) := by decide +kernel
theorem dX8_go_82 : decode cX8_go 82 = .ok (.invokevirtual 144, 3) := by decide +kernel
theorem dX8_go_85 : decode cX8_go 85 = .ok (.aload_n 0, 1) := by decide +kernel
theorem dX8_go_86 : decode cX8_go 86 = .ok (.iload_n 1, 1) := by decide +kernel
theorem dX8_go_87 : decode cX8_go 87 = .ok (.iconst 1, 1) := by decide +kernel
theorem dX8_go_88 : decode cX8_go 88 = .ok (.iadd, 1) := by decide +kernel
theorem dX8_go_89 : decode cX8_go 89 = .ok (.iload 5, 2) := by decide +kernel
theorem dX8_go_91 : decode cX8_go 91 = .ok (.invokevirtual 137, 3) := by decide +kernel
theorem dX8_go_94 : decode cX8_go 94 = .ok (.aload_n 0, 1) := by decide +kernel
theorem dX8_go_95 : decode cX8_go 95 = .ok (.iload_n 1, 1) := by decide +kernel
theorem dX8_go_96 : decode cX8_go 96 = .ok (.iconst 2, 1) := by decide +kernel
theorem dX8_go_97 : decode cX8_go 97 = .ok (.iadd, 1) := by decide +kernel
theorem dX8_go_98 : decode cX8_go 98 = .ok (.iload 6, 2) := by decide +kernel
theorem dX8_go_100 : decode cX8_go 100 = .ok (.invokevirtual 137, 3) := by decide +kernel
theorem dX8_go_103 : decode cX8_go 103 = .ok (.return_, 1) := by decide +kernel
theorem dX8_isDrawer_0 : decode cX8_isDrawer 0 = .ok (.iload_n 0, 1) := by decide +kernel
theorem dX8_isDrawer_1 : decode cX8_isDrawer 1 = .ok (.i2l, 1) := by decide +kernel
theorem dX8_isDrawer_2 : decode cX8_isDrawer 2 = .ok (.lconst 0, 1) := by decide +kernel
theorem dX8_isDrawer_3 : decode cX8_isDrawer 3 = .ok (.ldc2_w 148, 3) := by decide +kernel
theorem dX8_isDrawer_6 : decode cX8_isDrawer 6 = .ok (.invokestatic 86, 3) := by decide +kernel
theorem dX8_isDrawer_9 : decode cX8_isDrawer 9 = .ok (.ireturn, 1) := by decide +kernel
theorem dX8_grind_0 : decode cX8_grind 0 = .ok (.iload_n 1, 1) := by decide +kernel
theorem dX8_grind_1 : decode cX8_grind 1 = .ok (.invokestatic 150, 3) := by decide +kernel
theorem dX8_grind_4 : decode cX8_grind 4 = .ok (.ifCond .eq 10, 3) := by decide +kernel
theorem dX8_grind_7 : decode cX8_grind 7 = .ok (.iload_n 2, 1) := by decide +kernel
theorem dX8_grind_8 : decode cX8_grind 8 = .ok (.invokestatic 90, 3) := by decide +kernel
theorem dX8_grind_11 : decode cX8_grind 11 = .ok (.ifCond .ne 5, 3) := by decide +kernel
theorem dX8_grind_14 : decode cX8_grind 14 = .ok (.iconst (-1), 1) := by decide +kernel
theorem dX8_grind_15 : decode cX8_grind 15 = .ok (.ireturn, 1) := by decide +kernel
theorem dX8_grind_16 : decode cX8_grind 16 = .ok (.iload_n 3, 1) := by decide +kernel
theorem dX8_grind_17 : decode cX8_grind 17 = .ok (.ifCond .lt 16, 3) := by decide +kernel
theorem dX8_grind_20 : decode cX8_grind 20 = .ok (.iload 4, 2) := by decide +kernel
theorem dX8_grind_22 : decode cX8_grind 22 = .ok (.iload_n 3, 1) := by decide +kernel
theorem dX8_grind_23 : decode cX8_grind 23 = .ok (.if_icmp .lt 10, 3) := by decide +kernel
theorem dX8_grind_26 : decode cX8_grind 26 = .ok (.iload 4, 2) := by decide +kernel
theorem dX8_grind_28 : decode cX8_grind 28 = .ok (.bipush 100, 2) := by decide +kernel
theorem dX8_grind_30 : decode cX8_grind 30 = .ok (.if_icmp .le 6, 3) := by decide +kernel
theorem dX8_grind_33 : decode cX8_grind 33 = .ok (.bipush (-2), 2) := by decide +kernel
theorem dX8_grind_35 : decode cX8_grind 35 = .ok (.ireturn, 1) := by decide +kernel
theorem dX8_grind_36 : decode cX8_grind 36 = .ok (.aload_n 0, 1) := by decide +kernel
theorem dX8_grind_37 : decode cX8_grind 37 = .ok (.iload_n 2, 1) := by decide +kernel
theorem dX8_grind_38 : decode cX8_grind 38 = .ok (.iload_n 3, 1) := by decide +kernel
theorem dX8_grind_39 : decode cX8_grind 39 = .ok (.iload 4, 2) := by decide +kernel
theorem dX8_grind_41 : decode cX8_grind 41 = .ok (.iconst 0, 1) := by decide +kernel
theorem dX8_grind_42 : decode cX8_grind 42 = .ok (.invokevirtual 129, 3) := by decide +kernel
theorem dX8_grind_45 : decode cX8_grind 45 = .ok (.istore 5, 2) := by decide +kernel
theorem dX8_grind_47 : decode cX8_grind 47 = .ok (.iload 5, 2) := by decide +kernel
theorem dX8_grind_49 : decode cX8_grind 49 = .ok (.bipush (-6), 2) := by decide +kernel
theorem dX8_grind_51 : decode cX8_grind 51 = .ok (.if_icmp .eq 9, 3) := by decide +kernel
theorem dX8_grind_54 : decode cX8_grind 54 = .ok (.bipush (-100), 2) := by decide +kernel
theorem dX8_grind_56 : decode cX8_grind 56 = .ok (.iload 5, 2) := by decide +kernel
theorem dX8_grind_58 : decode cX8_grind 58 = .ok (.isub, 1) := by decide +kernel
theorem dX8_grind_59 : decode cX8_grind 59 = .ok (.ireturn, 1) := by decide +kernel
theorem dX8_grind_60 : decode cX8_grind 60 = .ok (.aload_n 0, 1) := by decide +kernel
theorem dX8_grind_61 : decode cX8_grind 61 = .ok (.iconst 4, 1) := by decide +kernel
theorem dX8_grind_62 : decode cX8_grind 62 = .ok (.iload_n 1, 1) := by decide +kernel
theorem dX8_grind_63 : decode cX8_grind 63 = .ok (.imul, 1) := by decide +kernel
theorem dX8_grind_64 : decode cX8_grind 64 = .ok (.invokevirtual 153, 3) := by decide +kernel
theorem dX8_grind_67 : decode cX8_grind 67 = .ok (.iload_n 3, 1) := by decide +kernel
theorem dX8_grind_68 : decode cX8_grind 68 = .ok (.istore 6, 2) := by decide +kernel
theorem dX8_grind_70 : decode cX8_grind 70 = .ok (.iload 6, 2) := by decide +kernel
theorem dX8_grind_72 : decode cX8_grind 72 = .ok (.iload 4, 2) := by decide +kernel
theorem dX8_grind_74 : decode cX8_grind 74 = .ok (.if_icmp .ge 19, 3) := by decide +kernel
theorem dX8_grind_77 : decode cX8_grind 77 = .ok (.aload_n 0, 1) := by decide +kernel
theorem dX8_grind_78 : decode cX8_grind 78 = .ok (.iconst 4, 1) := by decide +kernel
theorem dX8_grind_79 : decode cX8_grind 79 = .ok (.iload_n 1, 1) := by decide +kernel
theorem dX8_grind_80 : decode cX8_grind 80 = .ok (.imul, 1) := by decide +kernel
theorem dX8_grind_81 : decode cX8_grind 81 = .ok (.iload_n 2, 1) := by decide +kernel
theorem dX8_grind_82 : decode cX8_grind 82 = .ok (.iload 6, 2) := by decide +kernel
theorem dX8_grind_84 : decode cX8_grind 84 = .ok (.invokevirtual 156, 3) := by decide +kernel
theorem dX8_grind_87 : decode cX8_grind 87 = .ok (.iinc 6 1, 3) := by decide +kernel
theorem dX8_grind_90 : decode cX8_grind 90 = .ok (.goto (-20), 3) := by decide +kernel
theorem dX8_grind_93 : decode cX8_grind 93 = .ok (.aload_n 0, 1) := by decide +kernel
theorem dX8_grind_94 : decode cX8_grind 94 = .ok (.getfield 30, 3) := by decide +kernel
theorem dX8_grind_97 : decode cX8_grind 97 = .ok (.iload_n 1, 1) := by decide +kernel
theorem dX8_grind_98 : decode cX8_grind 98 = .ok (.iload_n 2, 1) := by decide +kernel
theorem dX8_grind_99 : decode cX8_grind 99 = .ok (.iastore, 1) := by decide +kernel
theorem dX8_grind_100 : decode cX8_grind 100 = .ok (.aload_n 0, 1) := by decide +kernel
theorem dX8_grind_101 : decode cX8_grind 101 = .ok (.getfield 33, 3) := by decide +kernel
theorem dX8_grind_104 : decode cX8_grind 104 = .ok (.iload_n 1, 1) := by decide +kernel
theorem dX8_grind_105 : decode cX8_grind 105 = .ok (.iload_n 3, 1) := by decide +kernel
theorem dX8_grind_106 : decode cX8_grind 106 = .ok (.iastore, 1) := by decide +kernel
theorem dX8_grind_107 : decode cX8_grind 107 = .ok (.aload_n 0, 1) := by decide +kernel
theorem dX8_grind_108 : decode cX8_grind 108 = .ok (.getfield 36, 3) := by decide +kernel
theorem dX8_grind_111 : decode cX8_grind 111 = .ok (.iload_n 1, 1) := by decide +kernel
theorem dX8_grind_112 : decode cX8_grind 112 = .ok (.iload 4, 2) := by decide +kernel
theorem dX8_grind_114 : decode cX8_grind 114 = .ok (.iastore, 1) := by decide +kernel
theorem dX8_grind_115 : decode cX8_grind 115 = .ok (.iload 4, 2) := by decide +kernel
theorem dX8_grind_117 : decode cX8_grind 117 = .ok (.iload_n 3, 1) := by decide +kernel
theorem dX8_grind_118 : decode cX8_grind 118 = .ok (.isub, 1) := by decide +kernel
theorem dX8_grind_119 : decode cX8_grind 119 = .ok (.ireturn, 1) := by decide +kernel
theorem dX8_more_0 : decode cX8_more 0 = .ok (.iload_n 1, 1) := by decide +kernel
theorem dX8_more_1 : decode cX8_more 1 = .ok (.invokestatic 150, 3) := by decide +kernel
theorem dX8_more_4 : decode cX8_more 4 = .ok (.ifCond .ne 5, 3) := by decide +kernel
theorem dX8_more_7 : decode cX8_more 7 = .ok (.iconst (-1), 1) := by decide +kernel
theorem dX8_more_8 : decode cX8_more 8 = .ok (.ireturn, 1) := by decide +kernel
theorem dX8_more_9 : decode cX8_more 9 = .ok (.iload_n 2, 1) := by decide +kernel
theorem dX8_more_10 : decode cX8_more 10 = .ok (.i2l, 1) := by decide +kernel
theorem dX8_more_11 : decode cX8_more 11 = .ok (.lconst 0, 1) := by decide +kernel
theorem dX8_more_12 : decode cX8_more 12 = .ok (.ldc2_w 127, 3) := by decide +kernel
theorem dX8_more_15 : decode cX8_more 15 = .ok (.invokestatic 86, 3) := by decide +kernel
theorem dX8_more_18 : decode cX8_more 18 = .ok (.ifCond .eq 27, 3) := by decide +kernel
theorem dX8_more_21 : decode cX8_more 21 = .ok (.aload_n 0, 1) := by decide +kernel
theorem dX8_more_22 : decode cX8_more 22 = .ok (.getfield 30, 3) := by decide +kernel
theorem dX8_more_25 : decode cX8_more 25 = .ok (.iload_n 1, 1) := by decide +kernel
theorem dX8_more_26 : decode cX8_more 26 = .ok (.iaload, 1) := by decide +kernel
theorem dX8_more_27 : decode cX8_more 27 = .ok (.bipush (-6), 2) := by decide +kernel
theorem dX8_more_29 : decode cX8_more 29 = .ok (.if_icmp .eq 19, 3) := by decide +kernel
theorem dX8_more_32 : decode cX8_more 32 = .ok (.aload_n 0, 1) := by decide +kernel
theorem dX8_more_33 : decode cX8_more 33 = .ok (.getfield 36, 3) := by decide +kernel
theorem dX8_more_36 : decode cX8_more 36 = .ok (.iload_n 1, 1) := by decide +kernel
theorem dX8_more_37 : decode cX8_more 37 = .ok (.iaload, 1) := by decide +kernel
theorem dX8_more_38 : decode cX8_more 38 = .ok (.iload_n 2, 1) := by decide +kernel
theorem dX8_more_39 : decode cX8_more 39 = .ok (.iadd, 1) := by decide +kernel
theorem dX8_more_40 : decode cX8_more 40 = .ok (.bipush 100, 2) := by decide +kernel
theorem dX8_more_42 : decode cX8_more 42 = .ok (.if_icmp .le 6, 3) := by decide +kernel
theorem dX8_more_45 : decode cX8_more 45 = .ok (.bipush (-2), 2) := by decide +kernel
theorem dX8_more_47 : decode cX8_more 47 = .ok (.ireturn, 1) := by decide +kernel
theorem dX8_more_48 : decode cX8_more 48 = .ok (.aload_n 0, 1) := by decide +kernel
theorem dX8_more_49 : decode cX8_more 49 = .ok (.getfield 30, 3) := by decide +kernel
theorem dX8_more_52 : decode cX8_more 52 = .ok (.iload_n 1, 1) := by decide +kernel
theorem dX8_more_53 : decode cX8_more 53 = .ok (.iaload, 1) := by decide +kernel
theorem dX8_more_54 : decode cX8_more 54 = .ok (.bipush (-6), 2) := by decide +kernel
theorem dX8_more_56 : decode cX8_more 56 = .ok (.if_icmp .ne 6, 3) := by decide +kernel
theorem dX8_more_59 : decode cX8_more 59 = .ok (.bipush (-3), 2) := by decide +kernel
theorem dX8_more_61 : decode cX8_more 61 = .ok (.ireturn, 1) := by decide +kernel
theorem dX8_more_62 : decode cX8_more 62 = .ok (.aload_n 0, 1) := by decide +kernel
theorem dX8_more_63 : decode cX8_more 63 = .ok (.getfield 30, 3) := by decide +kernel
theorem dX8_more_66 : decode cX8_more 66 = .ok (.iload_n 1, 1) := by decide +kernel
theorem dX8_more_67 : decode cX8_more 67 = .ok (.iaload, 1) := by decide +kernel
theorem dX8_more_68 : decode cX8_more 68 = .ok (.istore_n 3, 1) := by decide +kernel
theorem dX8_more_69 : decode cX8_more 69 = .ok (.aload_n 0, 1) := by decide +kernel
theorem dX8_more_70 : decode cX8_more 70 = .ok (.getfield 36, 3) := by decide +kernel
theorem dX8_more_73 : decode cX8_more 73 = .ok (.iload_n 1, 1) := by decide +kernel
theorem dX8_more_74 : decode cX8_more 74 = .ok (.iaload, 1) := by decide +kernel
theorem dX8_more_75 : decode cX8_more 75 = .ok (.iload_n 2, 1) := by decide +kernel
theorem dX8_more_76 : decode cX8_more 76 = .ok (.iadd, 1) := by decide +kernel
theorem dX8_more_77 : decode cX8_more 77 = .ok (.istore 4, 2) := by decide +kernel
theorem dX8_more_79 : decode cX8_more 79 = .ok (.aload_n 0, 1) := by decide +kernel
theorem dX8_more_80 : decode cX8_more 80 = .ok (.iload_n 3, 1) := by decide +kernel
theorem dX8_more_81 : decode cX8_more 81 = .ok (.aload_n 0, 1) := by decide +kernel
theorem dX8_more_82 : decode cX8_more 82 = .ok (.getfield 36, 3) := by decide +kernel
theorem dX8_more_85 : decode cX8_more 85 = .ok (.iload_n 1, 1) := by decide +kernel
theorem dX8_more_86 : decode cX8_more 86 = .ok (.iaload, 1) := by decide +kernel
theorem dX8_more_87 : decode cX8_more 87 = .ok (.iload 4, 2) := by decide +kernel
theorem dX8_more_89 : decode cX8_more 89 = .ok (.aload_n 0, 1) := by decide +kernel
theorem dX8_more_90 : decode cX8_more 90 = .ok (.getfield 36, 3) := by decide +kernel
theorem dX8_more_93 : decode cX8_more 93 = .ok (.iload_n 1, 1) := by decide +kernel
theorem dX8_more_94 : decode cX8_more 94 = .ok (.iaload, 1) := by decide +kernel
theorem dX8_more_95 : decode cX8_more 95 = .ok (.aload_n 0, 1) := by decide +kernel
theorem dX8_more_96 : decode cX8_more 96 = .ok (.getfield 33, 3) := by decide +kernel
theorem dX8_more_99 : decode cX8_more 99 = .ok (.iload_n 1, 1) := by decide +kernel
theorem dX8_more_100 : decode cX8_more 100 = .ok (.iaload, 1) := by decide +kernel
theorem dX8_more_101 : decode cX8_more 101 = .ok (.if_icmp .le 7, 3) := by decide +kernel
theorem dX8_more_104 : decode cX8_more 104 = .ok (.iconst 1, 1) := by decide +kernel
theorem dX8_more_105 : decode cX8_more 105 = .ok (.goto 4, 3) := by decide +kernel
theorem dX8_more_108 : decode cX8_more 108 = .ok (.iconst 0, 1) := by decide +kernel
theorem dX8_more_109 : decode cX8_more 109 = .ok (.invokevirtual 129, 3) := by decide +kernel
theorem dX8_more_112 : decode cX8_more 112 = .ok (.istore 5, 2) := by decide +kernel
theorem dX8_more_114 : decode cX8_more 114 = .ok (.iload 5, 2) := by decide +kernel
theorem dX8_more_116 : decode cX8_more 116 = .ok (.bipush (-6), 2) := by decide +kernel
theorem dX8_more_118 : decode cX8_more 118 = .ok (.if_icmp .ne 8, 3) := by decide +kernel
theorem dX8_more_121 : decode cX8_more 121 = .ok (.iload 4, 2) := by decide +kernel
theorem dX8_more_123 : decode cX8_more 123 = .ok (.goto 5, 3) := by decide +kernel
theorem dX8_more_126 : decode cX8_more 126 = .ok (.iload 5, 2) := by decide +kernel
theorem dX8_more_128 : decode cX8_more 128 = .ok (.istore 6, 2) := by decide +kernel
theorem dX8_more_130 : decode cX8_more 130 = .ok (.aload_n 0, 1) := by decide +kernel
theorem dX8_more_131 : decode cX8_more 131 = .ok (.getfield 36, 3) := by decide +kernel
theorem dX8_more_134 : decode cX8_more 134 = .ok (.iload_n 1, 1) := by decide +kernel
theorem dX8_more_135 : decode cX8_more 135 = .ok (.iaload, 1) := by decide +kernel
theorem dX8_more_136 : decode cX8_more 136 = .ok (.iload 6, 2) := by decide +kernel
theorem dX8_more_138 : decode cX8_more 138 = .ok (.if_icmp .ge 30, 3) := by decide +kernel
theorem dX8_more_141 : decode cX8_more 141 = .ok (.aload_n 0, 1) := by decide +kernel
theorem dX8_more_142 : decode cX8_more 142 = .ok (.iconst 4, 1) := by decide +kernel
theorem dX8_more_143 : decode cX8_more 143 = .ok (.iload_n 1, 1) := by decide +kernel
theorem dX8_more_144 : decode cX8_more 144 = .ok (.imul, 1) := by decide +kernel
theorem dX8_more_145 : decode cX8_more 145 = .ok (.iload_n 3, 1) := by decide +kernel
theorem dX8_more_146 : decode cX8_more 146 = .ok (.aload_n 0, 1) := by decide +kernel
theorem dX8_more_147 : decode cX8_more 147 = .ok (.getfield 36, 3) := by decide +kernel
theorem dX8_more_150 : decode cX8_more 150 = .ok (.iload_n 1, 1) := by decide +kernel
theorem dX8_more_151 : decode cX8_more 151 = .ok (.iaload, 1) := by decide +kernel
theorem dX8_more_152 : decode cX8_more 152 = .ok (.invokevirtual 156, 3) := by decide +kernel
theorem dX8_more_155 : decode cX8_more 155 = .ok (.aload_n 0, 1) := by decide +kernel
theorem dX8_more_156 : decode cX8_more 156 = .ok (.getfield 36, 3) := by decide +kernel
theorem dX8_more_159 : decode cX8_more 159 = .ok (.iload_n 1, 1) := by decide +kernel
theorem dX8_more_160 : decode cX8_more 160 = .ok (.dup2, 1) := by decide +kernel
theorem dX8_more_161 : decode cX8_more 161 = .ok (.iaload, 1) := by decide +kernel
theorem dX8_more_162 : decode cX8_more 162 = .ok (.iconst 1, 1) := by decide +kernel
theorem dX8_more_163 : decode cX8_more 163 = .ok (.iadd, 1) := by decide +kernel
theorem dX8_more_164 : decode cX8_more 164 = .ok (.iastore, 1) := by decide +kernel
theorem dX8_more_165 : decode cX8_more 165 = .ok (.goto (-35), 3) := by decide +kernel
theorem dX8_more_168 : decode cX8_more 168 = .ok (.iload 5, 2) := by decide +kernel
theorem dX8_more_170 : decode cX8_more 170 = .ok (.bipush (-6), 2) := by decide +kernel
theorem dX8_more_172 : decode cX8_more 172 = .ok (.if_icmp .ne 8, 3) := by decide +kernel
theorem dX8_more_175 : decode cX8_more 175 = .ok (.iload 4, 2) := by decide +kernel
theorem dX8_more_177 : decode cX8_more 177 = .ok (.goto 8, 3) := by decide +kernel
theorem dX8_more_180 : decode cX8_more 180 = .ok (.bipush (-100), 2) := by decide +kernel
theorem dX8_more_182 : decode cX8_more 182 = .ok (.iload 5, 2) := by decide +kernel
theorem dX8_more_184 : decode cX8_more 184 = .ok (.isub, 1) := by decide +kernel
theorem dX8_more_185 : decode cX8_more 185 = .ok (.ireturn, 1) := by decide +kernel
theorem dX8_join_0 : decode cX8_join 0 = .ok (.iload_n 1, 1) := by decide +kernel
theorem dX8_join_1 : decode cX8_join 1 = .ok (.invokestatic 150, 3) := by decide +kernel
theorem dX8_join_4 : decode cX8_join 4 = .ok (.ifCond .eq 17, 3) := by decide +kernel
theorem dX8_join_7 : decode cX8_join 7 = .ok (.iload_n 2, 1) := by decide +kernel
theorem dX8_join_8 : decode cX8_join 8 = .ok (.invokestatic 150, 3) := by decide +kernel
theorem dX8_join_11 : decode cX8_join 11 = .ok (.ifCond .eq 10, 3) := by decide +kernel
theorem dX8_join_14 : decode cX8_join 14 = .ok (.iload_n 3, 1) := by decide +kernel
theorem dX8_join_15 : decode cX8_join 15 = .ok (.invokestatic 150, 3) := by decide +kernel
theorem dX8_join_18 : decode cX8_join 18 = .ok (.ifCond .ne 5, 3) := by decide +kernel
theorem dX8_join_21 : decode cX8_join 21 = .ok (.iconst (-1), 1) := by decide +kernel
theorem dX8_join_22 : decode cX8_join 22 = .ok (.ireturn, 1) := by decide +kernel
theorem dX8_join_23 : decode cX8_join 23 = .ok (.aload_n 0, 1) := by decide +kernel
theorem dX8_join_24 : decode cX8_join 24 = .ok (.getfield 30, 3) := by decide +kernel
theorem dX8_join_27 : decode cX8_join 27 = .ok (.iload_n 1, 1) := by decide +kernel
theorem dX8_join_28 : decode cX8_join 28 = .ok (.iaload, 1) := by decide +kernel
theorem dX8_join_29 : decode cX8_join 29 = .ok (.bipush (-6), 2) := by decide +kernel
theorem dX8_join_31 : decode cX8_join 31 = .ok (.if_icmp .eq 14, 3) := by decide +kernel
theorem dX8_join_34 : decode cX8_join 34 = .ok (.aload_n 0, 1) := by decide +kernel
theorem dX8_join_35 : decode cX8_join 35 = .ok (.getfield 30, 3) := by decide +kernel
theorem dX8_join_38 : decode cX8_join 38 = .ok (.iload_n 2, 1) := by decide +kernel
theorem dX8_join_39 : decode cX8_join 39 = .ok (.iaload, 1) := by decide +kernel
theorem dX8_join_40 : decode cX8_join 40 = .ok (.bipush (-6), 2) := by decide +kernel
theorem dX8_join_42 : decode cX8_join 42 = .ok (.if_icmp .ne 6, 3) := by decide +kernel
theorem dX8_join_45 : decode cX8_join 45 = .ok (.bipush (-3), 2) := by decide +kernel
theorem dX8_join_47 : decode cX8_join 47 = .ok (.ireturn, 1) := by decide +kernel
theorem dX8_join_48 : decode cX8_join 48 = .ok (.aload_n 0, 1) := by decide +kernel
theorem dX8_join_49 : decode cX8_join 49 = .ok (.getfield 30, 3) := by decide +kernel
theorem dX8_join_52 : decode cX8_join 52 = .ok (.iload_n 1, 1) := by decide +kernel
theorem dX8_join_53 : decode cX8_join 53 = .ok (.iaload, 1) := by decide +kernel
theorem dX8_join_54 : decode cX8_join 54 = .ok (.aload_n 0, 1) := by decide +kernel
theorem dX8_join_55 : decode cX8_join 55 = .ok (.getfield 30, 3) := by decide +kernel
theorem dX8_join_58 : decode cX8_join 58 = .ok (.iload_n 2, 1) := by decide +kernel
theorem dX8_join_59 : decode cX8_join 59 = .ok (.iaload, 1) := by decide +kernel
theorem dX8_join_60 : decode cX8_join 60 = .ok (.if_icmp .ne 18, 3) := by decide +kernel
theorem dX8_join_63 : decode cX8_join 63 = .ok (.aload_n 0, 1) := by decide +kernel
theorem dX8_join_64 : decode cX8_join 64 = .ok (.getfield 36, 3) := by decide +kernel
theorem dX8_join_67 : decode cX8_join 67 = .ok (.iload_n 1, 1) := by decide +kernel
theorem dX8_join_68 : decode cX8_join 68 = .ok (.iaload, 1) := by decide +kernel
theorem dX8_join_69 : decode cX8_join 69 = .ok (.aload_n 0, 1) := by decide +kernel
theorem dX8_join_70 : decode cX8_join 70 = .ok (.getfield 33, 3) := by decide +kernel
theorem dX8_join_73 : decode cX8_join 73 = .ok (.iload_n 2, 1) := by decide +kernel
theorem dX8_join_74 : decode cX8_join 74 = .ok (.iaload, 1) := by decide +kernel
theorem dX8_join_75 : decode cX8_join 75 = .ok (.if_icmp .eq 6, 3) := by decide +kernel
theorem dX8_join_78 : decode cX8_join 78 = .ok (.bipush (-5), 2) := by decide +kernel
theorem dX8_join_80 : decode cX8_join 80 = .ok (.ireturn, 1) := by decide +kernel
theorem dX8_join_81 : decode cX8_join 81 = .ok (.aload_n 0, 1) := by decide +kernel
theorem dX8_join_82 : decode cX8_join 82 = .ok (.getfield 33, 3) := by decide +kernel
theorem dX8_join_85 : decode cX8_join 85 = .ok (.iload_n 1, 1) := by decide +kernel
theorem dX8_join_86 : decode cX8_join 86 = .ok (.iaload, 1) := by decide +kernel
theorem dX8_join_87 : decode cX8_join 87 = .ok (.istore 4, 2) := by decide +kernel
theorem dX8_join_89 : decode cX8_join 89 = .ok (.aload_n 0, 1) := by decide +kernel
theorem dX8_join_90 : decode cX8_join 90 = .ok (.getfield 36, 3) := by decide +kernel
theorem dX8_join_93 : decode cX8_join 93 = .ok (.iload_n 2, 1) := by decide +kernel
theorem dX8_join_94 : decode cX8_join 94 = .ok (.iaload, 1) := by decide +kernel
theorem dX8_join_95 : decode cX8_join 95 = .ok (.istore 5, 2) := by decide +kernel
theorem dX8_join_97 : decode cX8_join 97 = .ok (.aload_n 0, 1) := by decide +kernel
theorem dX8_join_98 : decode cX8_join 98 = .ok (.getfield 30, 3) := by decide +kernel
theorem dX8_join_101 : decode cX8_join 101 = .ok (.iload_n 1, 1) := by decide +kernel
theorem dX8_join_102 : decode cX8_join 102 = .ok (.iaload, 1) := by decide +kernel
theorem dX8_join_103 : decode cX8_join 103 = .ok (.istore 6, 2) := by decide +kernel
theorem dX8_join_105 : decode cX8_join 105 = .ok (.aload_n 0, 1) := by decide +kernel
theorem dX8_join_106 : decode cX8_join 106 = .ok (.iconst 4, 1) := by decide +kernel
theorem dX8_join_107 : decode cX8_join 107 = .ok (.iload_n 1, 1) := by decide +kernel
theorem dX8_join_108 : decode cX8_join 108 = .ok (.imul, 1) := by decide +kernel
theorem dX8_join_109 : decode cX8_join 109 = .ok (.iconst 3, 1) := by decide +kernel
theorem dX8_join_110 : decode cX8_join 110 = .ok (.iadd, 1) := by decide +kernel
theorem dX8_join_111 : decode cX8_join 111 = .ok (.iconst 4, 1) := by decide +kernel
theorem dX8_join_112 : decode cX8_join 112 = .ok (.iload_n 2, 1) := by decide +kernel
theorem dX8_join_113 : decode cX8_join 113 = .ok (.imul, 1) := by decide +kernel
theorem dX8_join_114 : decode cX8_join 114 = .ok (.iconst 1, 1) := by decide +kernel
theorem dX8_join_115 : decode cX8_join 115 = .ok (.iadd, 1) := by decide +kernel
theorem dX8_join_116 : decode cX8_join 116 = .ok (.bipush 55, 2) := by decide +kernel
theorem dX8_join_118 : decode cX8_join 118 = .ok (.invokevirtual 140, 3) := by decide +kernel
theorem dX8_join_121 : decode cX8_join 121 = .ok (.aload_n 0, 1) := by decide +kernel
theorem dX8_join_122 : decode cX8_join 122 = .ok (.bipush 55, 2) := by decide +kernel
theorem dX8_join_124 : decode cX8_join 124 = .ok (.iconst 4, 1) := by decide +kernel
theorem dX8_join_125 : decode cX8_join 125 = .ok (.iload_n 2, 1) := by decide +kernel
theorem dX8_join_126 : decode cX8_join 126 = .ok (.imul, 1) := by decide +kernel
theorem dX8_join_127 : decode cX8_join 127 = .ok (.iconst 2, 1) := by decide +kernel
theorem dX8_join_128 : decode cX8_join 128 = .ok (.iadd, 1) := by decide +kernel
theorem dX8_join_129 : decode cX8_join 129 = .ok (.bipush 56, 2) := by decide +kernel
theorem dX8_join_131 : decode cX8_join 131 = .ok (.invokevirtual 140, 3) := by decide +kernel
theorem dX8_join_134 : decode cX8_join 134 = .ok (.aload_n 0, 1) := by decide +kernel
theorem dX8_join_135 : decode cX8_join 135 = .ok (.iconst 4, 1) := by decide +kernel
theorem dX8_join_136 : decode cX8_join 136 = .ok (.iload_n 1, 1) := by decide +kernel
theorem dX8_join_137 : decode cX8_join 137 = .ok (.imul, 1) := by decide +kernel
theorem dX8_join_138 : decode cX8_join 138 = .ok (.iconst 4, 1) := by decide +kernel
theorem dX8_join_139 : decode cX8_join 139 = .ok (.iload_n 1, 1) := by decide +kernel
theorem dX8_join_140 : decode cX8_join 140 = .ok (.imul, 1) := by decide +kernel
theorem dX8_join_141 : decode cX8_join 141 = .ok (.iconst 2, 1) := by decide +kernel
theorem dX8_join_142 : decode cX8_join 142 = .ok (.iadd, 1) := by decide +kernel
theorem dX8_join_143 : decode cX8_join 143 = .ok (.bipush 55, 2) := by decide +kernel
theorem dX8_join_145 : decode cX8_join 145 = .ok (.invokevirtual 140, 3) := by decide +kernel
theorem dX8_join_148 : decode cX8_join 148 = .ok (.aload_n 0, 1) := by decide +kernel
theorem dX8_join_149 : decode cX8_join 149 = .ok (.bipush 55, 2) := by decide +kernel
theorem dX8_join_151 : decode cX8_join 151 = .ok (.iconst 4, 1) := by decide +kernel
theorem dX8_join_152 : decode cX8_join 152 = .ok (.iload_n 2, 1) := by decide +kernel
theorem dX8_join_153 : decode cX8_join 153 = .ok (.imul, 1) := by decide +kernel
theorem dX8_join_154 : decode cX8_join 154 = .ok (.iconst 3, 1) := by decide +kernel
theorem dX8_join_155 : decode cX8_join 155 = .ok (.iadd, 1) := by decide +kernel
theorem dX8_join_156 : decode cX8_join 156 = .ok (.bipush 57, 2) := by decide +kernel
theorem dX8_join_158 : decode cX8_join 158 = .ok (.invokevirtual 140, 3) := by decide +kernel
theorem dX8_join_161 : decode cX8_join 161 = .ok (.aload_n 0, 1) := by decide +kernel
theorem dX8_join_162 : decode cX8_join 162 = .ok (.bipush 56, 2) := by decide +kernel
theorem dX8_join_164 : decode cX8_join 164 = .ok (.bipush 57, 2) := by decide +kernel
theorem dX8_join_166 : decode cX8_join 166 = .ok (.iconst 0, 1) := by decide +kernel
theorem dX8_join_167 : decode cX8_join 167 = .ok (.invokevirtual 144, 3) := by decide +kernel
theorem dX8_join_170 : decode cX8_join 170 = .ok (.aload_n 0, 1) := by decide +kernel
theorem dX8_join_171 : decode cX8_join 171 = .ok (.iconst 4, 1) := by decide +kernel
theorem dX8_join_172 : decode cX8_join 172 = .ok (.iload_n 1, 1) := by decide +kernel
theorem dX8_join_173 : decode cX8_join 173 = .ok (.imul, 1) := by decide +kernel
theorem dX8_join_174 : decode cX8_join 174 = .ok (.iconst 4, 1) := by decide +kernel
theorem dX8_join_175 : decode cX8_join 175 = .ok (.iload_n 2, 1) := by decide +kernel
theorem dX8_join_176 : decode cX8_join 176 = .ok (.imul, 1) := by decide +kernel
theorem dX8_join_177 : decode cX8_join 177 = .ok (.bipush 55, 2) := by decide +kernel
theorem dX8_join_179 : decode cX8_join 179 = .ok (.invokevirtual 140, 3) := by decide +kernel
theorem dX8_join_182 : decode cX8_join 182 = .ok (.aload_n 0, 1) := by decide +kernel
theorem dX8_join_183 : decode cX8_join 183 = .ok (.iconst 4, 1) := by decide +kernel
theorem dX8_join_184 : decode cX8_join 184 = .ok (.iload_n 1, 1) := by decide +kernel
theorem dX8_join_185 : decode cX8_join 185 = .ok (.imul, 1) := by decide +kernel
theorem dX8_join_186 : decode cX8_join 186 = .ok (.iconst 1, 1) := by decide +kernel
theorem dX8_join_187 : decode cX8_join 187 = .ok (.iadd, 1) := by decide +kernel
theorem dX8_join_188 : decode cX8_join 188 = .ok (.iconst 4, 1) := by decide +kernel
theorem dX8_join_189 : decode cX8_join 189 = .ok (.iload_n 2, 1) := by decide +kernel
theorem dX8_join_190 : decode cX8_join 190 = .ok (.imul, 1) := by decide +kernel
theorem dX8_join_191 : decode cX8_join 191 = .ok (.iconst 1, 1) := by decide +kernel
theorem dX8_join_192 : decode cX8_join 192 = .ok (.iadd, 1) := by decide +kernel
theorem dX8_join_193 : decode cX8_join 193 = .ok (.bipush 57, 2) := by decide +kernel
theorem dX8_join_195 : decode cX8_join 195 = .ok (.invokevirtual 140, 3) := by decide +kernel
theorem dX8_join_198 : decode cX8_join 198 = .ok (.aload_n 0, 1) := by decide +kernel
theorem dX8_join_199 : decode cX8_join 199 = .ok (.iconst 4, 1) := by decide +kernel
theorem dX8_join_200 : decode cX8_join 200 = .ok (.iload_n 1, 1) := by decide +kernel
theorem dX8_join_201 : decode cX8_join 201 = .ok (.imul, 1) := by decide +kernel
theorem dX8_join_202 : decode cX8_join 202 = .ok (.iconst 2, 1) := by decide +kernel
theorem dX8_join_203 : decode cX8_join 203 = .ok (.iadd, 1) := by decide +kernel
theorem dX8_join_204 : decode cX8_join 204 = .ok (.iconst 4, 1) := by decide +kernel
theorem dX8_join_205 : decode cX8_join 205 = .ok (.iload_n 2, 1) := by decide +kernel
theorem dX8_join_206 : decode cX8_join 206 = .ok (.imul, 1) := by decide +kernel
theorem dX8_join_207 : decode cX8_join 207 = .ok (.iconst 2, 1) := by decide +kernel
theorem dX8_join_208 : decode cX8_join 208 = .ok (.iadd, 1) := by decide +kernel
theorem dX8_join_209 : decode cX8_join 209 = .ok (.bipush 58, 2) := by decide +kernel
theorem dX8_join_211 : decode cX8_join 211 = .ok (.invokevirtual 140, 3) := by decide +kernel
theorem dX8_join_214 : decode cX8_join 214 = .ok (.aload_n 0, 1) := by decide +kernel
theorem dX8_join_215 : decode cX8_join 215 = .ok (.bipush 55, 2) := by decide +kernel
theorem dX8_join_217 : decode cX8_join 217 = .ok (.iconst 4, 1) := by decide +kernel
theorem dX8_join_218 : decode cX8_join 218 = .ok (.iload_n 3, 1) := by decide +kernel
theorem dX8_join_219 : decode cX8_join 219 = .ok (.imul, 1) := by decide +kernel
theorem dX8_join_220 : decode cX8_join 220 = .ok (.invokevirtual 81, 3) := by decide +kernel
theorem dX8_join_223 : decode cX8_join 223 = .ok (.aload_n 0, 1) := by decide +kernel
theorem dX8_join_224 : decode cX8_join 224 = .ok (.bipush 57, 2) := by decide +kernel
theorem dX8_join_226 : decode cX8_join 226 = .ok (.iconst 4, 1) := by decide +kernel
theorem dX8_join_227 : decode cX8_join 227 = .ok (.iload_n 3, 1) := by decide +kernel
theorem dX8_join_228 : decode cX8_join 228 = .ok (.imul, 1) := by decide +kernel
theorem dX8_join_229 : decode cX8_join 229 = .ok (.iconst 1, 1) := by decide +kernel
theorem dX8_join_230 : decode cX8_join 230 = .ok (.iadd, 1) := by decide +kernel
theorem dX8_join_231 : decode cX8_join 231 = .ok (.invokevirtual 81, 3) := by decide +kernel
theorem dX8_join_234 : decode cX8_join 234 = .ok (.aload_n 0, 1) := by decide +kernel
theorem dX8_join_235 : decode cX8_join 235 = .ok (.bipush 58, 2) := by decide +kernel
theorem dX8_join_237 : decode cX8_join 237 = .ok (.iconst 4, 1) := by decide +kernel
theorem dX8_join_238 : decode cX8_join 238 = .ok (.iload_n 3, 1) := by decide +kernel
theorem dX8_join_239 : decode cX8_join 239 = .ok (.imul, 1) := by decide +kernel
theorem dX8_join_240 : decode cX8_join 240 = .ok (.iconst 2, 1) := by decide +kernel
theorem dX8_join_241 : decode cX8_join 241 = .ok (.iadd, 1) := by decide +kernel
theorem dX8_join_242 : decode cX8_join 242 = .ok (.invokevirtual 81, 3) := by decide +kernel
theorem dX8_join_245 : decode cX8_join 245 = .ok (.aload_n 0, 1) := by decide +kernel
theorem dX8_join_246 : decode cX8_join 246 = .ok (.bipush 56, 2) := by decide +kernel
theorem dX8_join_248 : decode cX8_join 248 = .ok (.iconst 4, 1) := by decide +kernel
theorem dX8_join_249 : decode cX8_join 249 = .ok (.iload_n 3, 1) := by decide +kernel
theorem dX8_join_250 : decode cX8_join 250 = .ok (.imul, 1) := by decide +kernel
theorem dX8_join_251 : decode cX8_join 251 = .ok (.iconst 3, 1) := by decide +kernel
theorem dX8_join_252 : decode cX8_join 252 = .ok (.iadd, 1) := by decide +kernel
theorem dX8_join_253 : decode cX8_join 253 = .ok (.invokevirtual 81, 3) := by decide +kernel
theorem dX8_join_256 : decode cX8_join 256 = .ok (.aload_n 0, 1) := by decide +kernel
theorem dX8_join_257 : decode cX8_join 257 = .ok (.getfield 30, 3) := by decide +kernel
theorem dX8_join_260 : decode cX8_join 260 = .ok (.iload_n 3, 1) := by decide +kernel
theorem dX8_join_261 : decode cX8_join 261 = .ok (.iload 6, 2) := by decide +kernel
theorem dX8_join_263 : decode cX8_join 263 = .ok (.iastore, 1) := by decide +kernel
theorem dX8_join_264 : decode cX8_join 264 = .ok (.aload_n 0, 1) := by decide +kernel
theorem dX8_join_265 : decode cX8_join 265 = .ok (.getfield 33, 3) := by decide +kernel
theorem dX8_join_268 : decode cX8_join 268 = .ok (.iload_n 3, 1) := by decide +kernel
theorem dX8_join_269 : decode cX8_join 269 = .ok (.iload 4, 2) := by decide +kernel
theorem dX8_join_271 : decode cX8_join 271 = .ok (.iastore, 1) := by decide +kernel
theorem dX8_join_272 : decode cX8_join 272 = .ok (.aload_n 0, 1) := by decide +kernel
theorem dX8_join_273 : decode cX8_join 273 = .ok (.getfield 36, 3) := by decide +kernel
theorem dX8_join_276 : decode cX8_join 276 = .ok (.iload_n 3, 1) := by decide +kernel
theorem dX8_join_277 : decode cX8_join 277 = .ok (.iload 5, 2) := by decide +kernel
theorem dX8_join_279 : decode cX8_join 279 = .ok (.iastore, 1) := by decide +kernel
theorem dX8_join_280 : decode cX8_join 280 = .ok (.iload 5, 2) := by decide +kernel
theorem dX8_join_282 : decode cX8_join 282 = .ok (.iload 4, 2) := by decide +kernel
theorem dX8_join_284 : decode cX8_join 284 = .ok (.isub, 1) := by decide +kernel
theorem dX8_join_285 : decode cX8_join 285 = .ok (.ireturn, 1) := by decide +kernel
theorem dX8_empty_0 : decode cX8_empty 0 = .ok (.iload_n 1, 1) := by decide +kernel
theorem dX8_empty_1 : decode cX8_empty 1 = .ok (.invokestatic 150, 3) := by decide +kernel
theorem dX8_empty_4 : decode cX8_empty 4 = .ok (.ifCond .ne 5, 3) := by decide +kernel
theorem dX8_empty_7 : decode cX8_empty 7 = .ok (.iconst (-1), 1) := by decide +kernel
theorem dX8_empty_8 : decode cX8_empty 8 = .ok (.ireturn, 1) := by decide +kernel
theorem dX8_empty_9 : decode cX8_empty 9 = .ok (.aload_n 0, 1) := by decide +kernel
theorem dX8_empty_10 : decode cX8_empty 10 = .ok (.getfield 30, 3) := by decide +kernel
theorem dX8_empty_13 : decode cX8_empty 13 = .ok (.iload_n 1, 1) := by decide +kernel
theorem dX8_empty_14 : decode cX8_empty 14 = .ok (.iaload, 1) := by decide +kernel
theorem dX8_empty_15 : decode cX8_empty 15 = .ok (.bipush (-6), 2) := by decide +kernel
theorem dX8_empty_17 : decode cX8_empty 17 = .ok (.if_icmp .ne 6, 3) := by decide +kernel
theorem dX8_empty_20 : decode cX8_empty 20 = .ok (.bipush (-3), 2) := by decide +kernel
theorem dX8_empty_22 : decode cX8_empty 22 = .ok (.ireturn, 1) := by decide +kernel
theorem dX8_empty_23 : decode cX8_empty 23 = .ok (.aload_n 0, 1) := by decide +kernel
theorem dX8_empty_24 : decode cX8_empty 24 = .ok (.getfield 30, 3) := by decide +kernel
theorem dX8_empty_27 : decode cX8_empty 27 = .ok (.iload_n 1, 1) := by decide +kernel
theorem dX8_empty_28 : decode cX8_empty 28 = .ok (.bipush (-6), 2) := by decide +kernel
theorem dX8_empty_30 : decode cX8_empty 30 = .ok (.iastore, 1) := by decide +kernel
theorem dX8_empty_31 : decode cX8_empty 31 = .ok (.aload_n 0, 1) := by decide +kernel
theorem dX8_empty_32 : decode cX8_empty 32 = .ok (.getfield 36, 3) := by decide +kernel
theorem dX8_empty_35 : decode cX8_empty 35 = .ok (.iload_n 1, 1) := by decide +kernel
theorem dX8_empty_36 : decode cX8_empty 36 = .ok (.iaload, 1) := by decide +kernel
theorem dX8_empty_37 : decode cX8_empty 37 = .ok (.aload_n 0, 1) := by decide +kernel
theorem dX8_empty_38 : decode cX8_empty 38 = .ok (.getfield 33, 3) := by decide +kernel
theorem dX8_empty_41 : decode cX8_empty 41 = .ok (.iload_n 1, 1) := by decide +kernel
theorem dX8_empty_42 : decode cX8_empty 42 = .ok (.iaload, 1) := by decide +kernel
theorem dX8_empty_43 : decode cX8_empty 43 = .ok (.isub, 1) := by decide +kernel
theorem dX8_empty_44 : decode cX8_empty 44 = .ok (.ireturn, 1) := by decide +kernel
theorem dX8_span_0 : decode cX8_span 0 = .ok (.iload_n 1, 1) := by decide +kernel
theorem dX8_span_1 : decode cX8_span 1 = .ok (.invokestatic 150, 3) := by decide +kernel
theorem dX8_span_4 : decode cX8_span 4 = .ok (.ifCond .ne 5, 3) := by decide +kernel
theorem dX8_span_7 : decode cX8_span 7 = .ok (.iconst (-1), 1) := by decide +kernel
theorem dX8_span_8 : decode cX8_span 8 = .ok (.ireturn, 1) := by decide +kernel
theorem dX8_span_9 : decode cX8_span 9 = .ok (.iload_n 2, 1) := by decide +kernel
theorem dX8_span_10 : decode cX8_span 10 = .ok (.i2l, 1) := by decide +kernel
theorem dX8_span_11 : decode cX8_span 11 = .ok (.lconst 0, 1) := by decide +kernel
theorem dX8_span_12 : decode cX8_span 12 = .ok (.ldc2_w 159, 3) := by decide +kernel
theorem dX8_span_15 : decode cX8_span 15 = .ok (.invokestatic 86, 3) := by decide +kernel
theorem dX8_span_18 : decode cX8_span 18 = .ok (.ifCond .ne 6, 3) := by decide +kernel
theorem dX8_span_21 : decode cX8_span 21 = .ok (.bipush (-2), 2) := by decide +kernel
theorem dX8_span_23 : decode cX8_span 23 = .ok (.ireturn, 1) := by decide +kernel
theorem dX8_span_24 : decode cX8_span 24 = .ok (.aload_n 0, 1) := by decide +kernel
theorem dX8_span_25 : decode cX8_span 25 = .ok (.getfield 30, 3) := by decide +kernel
theorem dX8_span_28 : decode cX8_span 28 = .ok (.iload_n 1, 1) := by decide +kernel
theorem dX8_span_29 : decode cX8_span 29 = .ok (.iaload, 1) := by decide +kernel
theorem dX8_span_30 : decode cX8_span 30 = .ok (.bipush (-6), 2) := by decide +kernel
theorem dX8_span_32 : decode cX8_span 32 = .ok (.if_icmp .ne 8, 3) := by decide +kernel
theorem dX8_span_35 : decode cX8_span 35 = .ok (.bipush (-3), 2) := by decide +kernel
theorem dX8_span_37 : decode cX8_span 37 = .ok (.goto 36, 3) := by decide +kernel
theorem dX8_span_40 : decode cX8_span 40 = .ok (.iload_n 2, 1) := by decide +kernel
theorem dX8_span_41 : decode cX8_span 41 = .ok (.ifCond .ne 12, 3) := by decide +kernel
theorem dX8_span_44 : decode cX8_span 44 = .ok (.aload_n 0, 1) := by decide +kernel
theorem dX8_span_45 : decode cX8_span 45 = .ok (.getfield 30, 3) := by decide +kernel
theorem dX8_span_48 : decode cX8_span 48 = .ok (.iload_n 1, 1) := by decide +kernel
theorem dX8_span_49 : decode cX8_span 49 = .ok (.iaload, 1) := by decide +kernel
theorem dX8_span_50 : decode cX8_span 50 = .ok (.goto 23, 3) := by decide +kernel
theorem dX8_span_53 : decode cX8_span 53 = .ok (.iload_n 2, 1) := by decide +kernel
theorem dX8_span_54 : decode cX8_span 54 = .ok (.iconst 1, 1) := by decide +kernel
theorem dX8_span_55 : decode cX8_span 55 = .ok (.if_icmp .ne 12, 3) := by decide +kernel
theorem dX8_span_58 : decode cX8_span 58 = .ok (.aload_n 0, 1) := by decide +kernel
theorem dX8_span_59 : decode cX8_span 59 = .ok (.getfield 33, 3) := by decide +kernel
theorem dX8_span_62 : decode cX8_span 62 = .ok (.iload_n 1, 1) := by decide +kernel
theorem dX8_span_63 : decode cX8_span 63 = .ok (.iaload, 1) := by decide +kernel
theorem dX8_span_64 : decode cX8_span 64 = .ok (.goto 9, 3) := by decide +kernel
theorem dX8_span_67 : decode cX8_span 67 = .ok (.aload_n 0, 1) := by decide +kernel
theorem dX8_span_68 : decode cX8_span 68 = .ok (.getfield 36, 3) := by decide +kernel
theorem dX8_span_71 : decode cX8_span 71 = .ok (.iload_n 1, 1) := by decide +kernel
theorem dX8_span_72 : decode cX8_span 72 = .ok (.iaload, 1) := by decide +kernel
theorem dX8_span_73 : decode cX8_span 73 = .ok (.ireturn, 1) := by decide +kernel
theorem dX8_bars_0 : decode cX8_bars 0 = .ok (.iload_n 1, 1) := by decide +kernel
theorem dX8_bars_1 : decode cX8_bars 1 = .ok (.invokestatic 150, 3) := by decide +kernel
theorem dX8_bars_4 : decode cX8_bars 4 = .ok (.ifCond .ne 7, 3) := by decide +kernel
theorem dX8_bars_7 : decode cX8_bars 7 = .ok (.iconst (-1), 1) := by decide +kernel
theorem dX8_bars_8 : decode cX8_bars 8 = .ok (.goto 29, 3) := by decide +kernel
theorem dX8_bars_11 : decode cX8_bars 11 = .ok (.iload_n 2, 1) := by decide +kernel
theorem dX8_bars_12 : decode cX8_bars 12 = .ok (.ifCond .ne 8, 3) := by decide +kernel
theorem dX8_bars_15 : decode cX8_bars 15 = .ok (.bipush (-2), 2) := by decide +kernel
theorem dX8_bars_17 : decode cX8_bars 17 = .ok (.goto 20, 3) := by decide +kernel
theorem dX8_bars_20 : decode cX8_bars 20 = .ok (.aload_n 0, 1) := by decide +kernel
theorem dX8_bars_21 : decode cX8_bars 21 = .ok (.getfield 30, 3) := by decide +kernel
theorem dX8_bars_24 : decode cX8_bars 24 = .ok (.iload_n 1, 1) := by decide +kernel
theorem dX8_bars_25 : decode cX8_bars 25 = .ok (.iaload, 1) := by decide +kernel
theorem dX8_bars_26 : decode cX8_bars 26 = .ok (.bipush (-6), 2) := by decide +kernel
theorem dX8_bars_28 : decode cX8_bars 28 = .ok (.if_icmp .ne 8, 3) := by decide +kernel
theorem dX8_bars_31 : decode cX8_bars 31 = .ok (.bipush (-3), 2) := by decide +kernel
theorem dX8_bars_33 : decode cX8_bars 33 = .ok (.goto 4, 3) := by decide +kernel
theorem dX8_bars_36 : decode cX8_bars 36 = .ok (.iconst 0, 1) := by decide +kernel
theorem dX8_bars_37 : decode cX8_bars 37 = .ok (.ireturn, 1) := by decide +kernel
theorem dX8_bits_0 : decode cX8_bits 0 = .ok (.aload_n 0, 1) := by decide +kernel
theorem dX8_bits_1 : decode cX8_bits 1 = .ok (.iload_n 1, 1) := by decide +kernel
theorem dX8_bits_2 : decode cX8_bits 2 = .ok (.iload_n 2, 1) := by decide +kernel
theorem dX8_bits_3 : decode cX8_bits 3 = .ok (.i2l, 1) := by decide +kernel
theorem dX8_bits_4 : decode cX8_bits 4 = .ok (.lconst 0, 1) := by decide +kernel
theorem dX8_bits_5 : decode cX8_bits 5 = .ok (.ldc2_w 94, 3) := by decide +kernel
theorem dX8_bits_8 : decode cX8_bits 8 = .ok (.invokestatic 86, 3) := by decide +kernel
theorem dX8_bits_11 : decode cX8_bits 11 = .ok (.invokevirtual 161, 3) := by decide +kernel
theorem dX8_bits_14 : decode cX8_bits 14 = .ok (.istore_n 3, 1) := by decide +kernel
theorem dX8_bits_15 : decode cX8_bits 15 = .ok (.iload_n 3, 1) := by decide +kernel
theorem dX8_bits_16 : decode cX8_bits 16 = .ok (.ifCond .ge 5, 3) := by decide +kernel
theorem dX8_bits_19 : decode cX8_bits 19 = .ok (.iload_n 3, 1) := by decide +kernel
theorem dX8_bits_20 : decode cX8_bits 20 = .ok (.ireturn, 1) := by decide +kernel
theorem dX8_bits_21 : decode cX8_bits 21 = .ok (.iconst 4, 1) := by decide +kernel
theorem dX8_bits_22 : decode cX8_bits 22 = .ok (.iload_n 1, 1) := by decide +kernel
theorem dX8_bits_23 : decode cX8_bits 23 = .ok (.imul, 1) := by decide +kernel
theorem dX8_bits_24 : decode cX8_bits 24 = .ok (.iload_n 2, 1) := by decide +kernel
theorem dX8_bits_25 : decode cX8_bits 25 = .ok (.iadd, 1) := by decide +kernel
theorem dX8_bits_26 : decode cX8_bits 26 = .ok (.istore 4, 2) := by decide +kernel
theorem dX8_bits_28 : decode cX8_bits 28 = .ok (.aload_n 0, 1) := by decide +kernel
theorem dX8_bits_29 : decode cX8_bits 29 = .ok (.getfield 14, 3) := by decide +kernel
theorem dX8_bits_32 : decode cX8_bits 32 = .ok (.iload 4, 2) := by decide +kernel
theorem dX8_bits_34 : decode cX8_bits 34 = .ok (.iaload, 1) := by decide +kernel
theorem dX8_bits_35 : decode cX8_bits 35 = .ok (.ifCond .ne 5, 3) := by decide +kernel
theorem dX8_bits_38 : decode cX8_bits 38 = .ok (.iconst 0, 1) := by decide +kernel
theorem dX8_bits_39 : decode cX8_bits 39 = .ok (.ireturn, 1) := by decide +kernel
theorem dX8_bits_40 : decode cX8_bits 40 = .ok (.bipush 32, 2) := by decide +kernel
theorem dX8_bits_42 : decode cX8_bits 42 = .ok (.aload_n 0, 1) := by decide +kernel
theorem dX8_bits_43 : decode cX8_bits 43 = .ok (.getfield 14, 3) := by decide +kernel
theorem dX8_bits_46 : decode cX8_bits 46 = .ok (.iload 4, 2) := by decide +kernel
theorem dX8_bits_48 : decode cX8_bits 48 = .ok (.iaload, 1) := by decide +kernel
theorem dX8_bits_49 : decode cX8_bits 49 = .ok (.iconst 1, 1) := by decide +kernel
theorem dX8_bits_50 : decode cX8_bits 50 = .ok (.isub, 1) := by decide +kernel
theorem dX8_bits_51 : decode cX8_bits 51 = .ok (.imul, 1) := by decide +kernel
theorem dX8_bits_52 : decode cX8_bits 52 = .ok (.istore 5, 2) := by decide +kernel
theorem dX8_bits_54 : decode cX8_bits 54 = .ok (.aload_n 0, 1) := by decide +kernel
theorem dX8_bits_55 : decode cX8_bits 55 = .ok (.getfield 8, 3) := by decide +kernel
theorem dX8_bits_58 : decode cX8_bits 58 = .ok (.sipush 1200, 3) := by decide +kernel
theorem dX8_bits_61 : decode cX8_bits 61 = .ok (.iload 4, 2) := by decide +kernel
theorem dX8_bits_63 : decode cX8_bits 63 = .ok (.imul, 1) := by decide +kernel
theorem dX8_bits_64 : decode cX8_bits 64 = .ok (.aload_n 0, 1) := by decide +kernel
theorem dX8_bits_65 : decode cX8_bits 65 = .ok (.getfield 14, 3) := by decide +kernel
theorem dX8_bits_68 : decode cX8_bits 68 = .ok (.iload 4, 2) := by decide +kernel
theorem dX8_bits_70 : decode cX8_bits 70 = .ok (.iaload, 1) := by decide +kernel
theorem dX8_bits_71 : decode cX8_bits 71 = .ok (.iadd, 1) := by decide +kernel
theorem dX8_bits_72 : decode cX8_bits 72 = .ok (.iconst 1, 1) := by decide +kernel
theorem dX8_bits_73 : decode cX8_bits 73 = .ok (.isub, 1) := by decide +kernel
theorem dX8_bits_74 : decode cX8_bits 74 = .ok (.iaload, 1) := by decide +kernel
theorem dX8_bits_75 : decode cX8_bits 75 = .ok (.i2l, 1) := by decide +kernel
theorem dX8_bits_76 : decode cX8_bits 76 = .ok (.ldc2_w 64, 3) := by decide +kernel
theorem dX8_bits_79 : decode cX8_bits 79 = .ok (.land, 1) := by decide +kernel
theorem dX8_bits_80 : decode cX8_bits 80 = .ok (.lstore 6, 2) := by decide +kernel
theorem dX8_bits_82 : decode cX8_bits 82 = .ok (.lload 6, 2) := by decide +kernel
theorem dX8_bits_84 : decode cX8_bits 84 = .ok (.lconst 0, 1) := by decide +kernel
theorem dX8_bits_85 : decode cX8_bits 85 = .ok (.lcmp, 1) := by decide +kernel
theorem dX8_bits_86 : decode cX8_bits 86 = .ok (.ifCond .le 15, 3) := by decide +kernel
theorem dX8_bits_89 : decode cX8_bits 89 = .ok (.iinc 5 1, 3) := by decide +kernel
theorem dX8_bits_92 : decode cX8_bits 92 = .ok (.lload 6, 2) := by decide +kernel
theorem dX8_bits_94 : decode cX8_bits 94 = .ok (.iconst 1, 1) := by decide +kernel
theorem dX8_bits_95 : decode cX8_bits 95 = .ok (.lshr, 1) := by decide +kernel
theorem dX8_bits_96 : decode cX8_bits 96 = .ok (.lstore 6, 2) := by decide +kernel
theorem dX8_bits_98 : decode cX8_bits 98 = .ok (.goto (-16), 3) := by decide +kernel
theorem dX8_bits_101 : decode cX8_bits 101 = .ok (.iload 5, 2) := by decide +kernel
theorem dX8_bits_103 : decode cX8_bits 103 = .ok (.ireturn, 1) := by decide +kernel
theorem dX8_sign_0 : decode cX8_sign 0 = .ok (.aload_n 0, 1) := by decide +kernel
theorem dX8_sign_1 : decode cX8_sign 1 = .ok (.iload_n 1, 1) := by decide +kernel
theorem dX8_sign_2 : decode cX8_sign 2 = .ok (.iload_n 2, 1) := by decide +kernel
theorem dX8_sign_3 : decode cX8_sign 3 = .ok (.i2l, 1) := by decide +kernel
theorem dX8_sign_4 : decode cX8_sign 4 = .ok (.lconst 0, 1) := by decide +kernel
theorem dX8_sign_5 : decode cX8_sign 5 = .ok (.ldc2_w 94, 3) := by decide +kernel
theorem dX8_sign_8 : decode cX8_sign 8 = .ok (.invokestatic 86, 3) := by decide +kernel
theorem dX8_sign_11 : decode cX8_sign 11 = .ok (.invokevirtual 161, 3) := by decide +kernel
theorem dX8_sign_14 : decode cX8_sign 14 = .ok (.istore_n 3, 1) := by decide +kernel
theorem dX8_sign_15 : decode cX8_sign 15 = .ok (.iconst 4, 1) := by decide +kernel
theorem dX8_sign_16 : decode cX8_sign 16 = .ok (.iload_n 1, 1) := by decide +kernel
theorem dX8_sign_17 : decode cX8_sign 17 = .ok (.imul, 1) := by decide +kernel
theorem dX8_sign_18 : decode cX8_sign 18 = .ok (.iload_n 2, 1) := by decide +kernel
theorem dX8_sign_19 : decode cX8_sign 19 = .ok (.iadd, 1) := by decide +kernel
theorem dX8_sign_20 : decode cX8_sign 20 = .ok (.istore 4, 2) := by decide +kernel
theorem dX8_sign_22 : decode cX8_sign 22 = .ok (.iload_n 3, 1) := by decide +kernel
theorem dX8_sign_23 : decode cX8_sign 23 = .ok (.ifCond .ge 7, 3) := by decide +kernel
theorem dX8_sign_26 : decode cX8_sign 26 = .ok (.iload_n 3, 1) := by decide +kernel
theorem dX8_sign_27 : decode cX8_sign 27 = .ok (.goto 32, 3) := by decide +kernel
theorem dX8_sign_30 : decode cX8_sign 30 = .ok (.aload_n 0, 1) := by decide +kernel
theorem dX8_sign_31 : decode cX8_sign 31 = .ok (.getfield 14, 3) := by decide +kernel
theorem dX8_sign_34 : decode cX8_sign 34 = .ok (.iload 4, 2) := by decide +kernel
theorem dX8_sign_36 : decode cX8_sign 36 = .ok (.iaload, 1) := by decide +kernel
theorem dX8_sign_37 : decode cX8_sign 37 = .ok (.ifCond .ne 7, 3) := by decide +kernel
theorem dX8_sign_40 : decode cX8_sign 40 = .ok (.iconst 0, 1) := by decide +kernel
theorem dX8_sign_41 : decode cX8_sign 41 = .ok (.goto 18, 3) := by decide +kernel
theorem dX8_sign_44 : decode cX8_sign 44 = .ok (.aload_n 0, 1) := by decide +kernel
theorem dX8_sign_45 : decode cX8_sign 45 = .ok (.getfield 17, 3) := by decide +kernel
theorem dX8_sign_48 : decode cX8_sign 48 = .ok (.iload 4, 2) := by decide +kernel
theorem dX8_sign_50 : decode cX8_sign 50 = .ok (.baload, 1) := by decide +kernel
theorem dX8_sign_51 : decode cX8_sign 51 = .ok (.ifCond .eq 7, 3) := by decide +kernel
theorem dX8_sign_54 : decode cX8_sign 54 = .ok (.iconst 2, 1) := by decide +kernel
theorem dX8_sign_55 : decode cX8_sign 55 = .ok (.goto 4, 3) := by decide +kernel
theorem dX8_sign_58 : decode cX8_sign 58 = .ok (.iconst 1, 1) := by decide +kernel
theorem dX8_sign_59 : decode cX8_sign 59 = .ok (.ireturn, 1) := by decide +kernel
theorem dX8_rest_0 : decode cX8_rest 0 = .ok (.aload_n 0, 1) := by decide +kernel
theorem dX8_rest_1 : decode cX8_rest 1 = .ok (.iload_n 1, 1) := by decide +kernel
theorem dX8_rest_2 : decode cX8_rest 2 = .ok (.iload_n 2, 1) := by decide +kernel
theorem dX8_rest_3 : decode cX8_rest 3 = .ok (.i2l, 1) := by decide +kernel
theorem dX8_rest_4 : decode cX8_rest 4 = .ok (.lconst 0, 1) := by decide +kernel
theorem dX8_rest_5 : decode cX8_rest 5 = .ok (.ldc2_w 94, 3) := by decide +kernel
theorem dX8_rest_8 : decode cX8_rest 8 = .ok (.invokestatic 86, 3) := by decide +kernel
theorem dX8_rest_11 : decode cX8_rest 11 = .ok (.ifCond .eq 21, 3) := by decide +kernel
theorem dX8_rest_14 : decode cX8_rest 14 = .ok (.iload_n 3, 1) := by decide +kernel
theorem dX8_rest_15 : decode cX8_rest 15 = .ok (.i2l, 1) := by decide +kernel
theorem dX8_rest_16 : decode cX8_rest 16 = .ok (.ldc2_w 159, 3) := by decide +kernel
theorem dX8_rest_19 : decode cX8_rest 19 = .ok (.ldc2_w 165, 3) := by decide +kernel
theorem dX8_rest_22 : decode cX8_rest 22 = .ok (.invokestatic 86, 3) := by decide +kernel
theorem dX8_rest_25 : decode cX8_rest 25 = .ok (.ifCond .eq 7, 3) := by decide +kernel
theorem dX8_rest_28 : decode cX8_rest 28 = .ok (.iconst 1, 1) := by decide +kernel
theorem dX8_rest_29 : decode cX8_rest 29 = .ok (.goto 4, 3) := by decide +kernel
theorem dX8_rest_32 : decode cX8_rest 32 = .ok (.iconst 0, 1) := by decide +kernel
theorem dX8_rest_33 : decode cX8_rest 33 = .ok (.invokevirtual 161, 3) := by decide +kernel
theorem dX8_rest_36 : decode cX8_rest 36 = .ok (.istore 4, 2) := by decide +kernel
theorem dX8_rest_38 : decode cX8_rest 38 = .ok (.iload 4, 2) := by decide +kernel
theorem dX8_rest_40 : decode cX8_rest 40 = .ok (.ifCond .ge 6, 3) := by decide +kernel
theorem dX8_rest_43 : decode cX8_rest 43 = .ok (.iload 4, 2) := by decide +kernel
theorem dX8_rest_45 : decode cX8_rest 45 = .ok (.ireturn, 1) := by decide +kernel
theorem dX8_rest_46 : decode cX8_rest 46 = .ok (.iconst 4, 1) := by decide +kernel
theorem dX8_rest_47 : decode cX8_rest 47 = .ok (.iload_n 1, 1) := by decide +kernel
theorem dX8_rest_48 : decode cX8_rest 48 = .ok (.imul, 1) := by decide +kernel
theorem dX8_rest_49 : decode cX8_rest 49 = .ok (.iload_n 2, 1) := by decide +kernel
theorem dX8_rest_50 : decode cX8_rest 50 = .ok (.iadd, 1) := by decide +kernel
theorem dX8_rest_51 : decode cX8_rest 51 = .ok (.istore 5, 2) := by decide +kernel
theorem dX8_rest_53 : decode cX8_rest 53 = .ok (.lconst 0, 1) := by decide +kernel
theorem dX8_rest_54 : decode cX8_rest 54 = .ok (.lstore 6, 2) := by decide +kernel
theorem dX8_rest_56 : decode cX8_rest 56 = .ok (.aload_n 0, 1) := by decide +kernel
theorem dX8_rest_57 : decode cX8_rest 57 = .ok (.getfield 14, 3) := by decide +kernel
theorem dX8_rest_60 : decode cX8_rest 60 = .ok (.iload 5, 2) := by decide +kernel
theorem dX8_rest_62 : decode cX8_rest 62 = .ok (.iaload, 1) := by decide +kernel
theorem dX8_rest_63 : decode cX8_rest 63 = .ok (.iconst 1, 1) := by decide +kernel
theorem dX8_rest_64 : decode cX8_rest 64 = .ok (.isub, 1) := by decide +kernel
theorem dX8_rest_65 : decode cX8_rest 65 = .ok (.istore 8, 2) := by decide +kernel
theorem dX8_rest_67 : decode cX8_rest 67 = .ok (.iload 8, 2) := by decide +kernel
theorem dX8_rest_69 : decode cX8_rest 69 = .ok (.ifCond .lt 39, 3) := by decide +kernel
theorem dX8_rest_72 : decode cX8_rest 72 = .ok (.lload 6, 2) := by decide +kernel
theorem dX8_rest_74 : decode cX8_rest 74 = .ok (.bipush 32, 2) := by decide +kernel
theorem dX8_rest_76 : decode cX8_rest 76 = .ok (.lshl, 1) := by decide +kernel
theorem dX8_rest_77 : decode cX8_rest 77 = .ok (.aload_n 0, 1) := by decide +kernel
theorem dX8_rest_78 : decode cX8_rest 78 = .ok (.getfield 8, 3) := by decide +kernel
theorem dX8_rest_81 : decode cX8_rest 81 = .ok (.sipush 1200, 3) := by decide +kernel
theorem dX8_rest_84 : decode cX8_rest 84 = .ok (.iload 5, 2) := by decide +kernel
theorem dX8_rest_86 : decode cX8_rest 86 = .ok (.imul, 1) := by decide +kernel
theorem dX8_rest_87 : decode cX8_rest 87 = .ok (.iload 8, 2) := by decide +kernel
theorem dX8_rest_89 : decode cX8_rest 89 = .ok (.iadd, 1) := by decide +kernel
theorem dX8_rest_90 : decode cX8_rest 90 = .ok (.iaload, 1) := by decide +kernel
theorem dX8_rest_91 : decode cX8_rest 91 = .ok (.i2l, 1) := by decide +kernel
theorem dX8_rest_92 : decode cX8_rest 92 = .ok (.ldc2_w 64, 3) := by decide +kernel
theorem dX8_rest_95 : decode cX8_rest 95 = .ok (.land, 1) := by decide +kernel
theorem dX8_rest_96 : decode cX8_rest 96 = .ok (.ladd, 1) := by decide +kernel
theorem dX8_rest_97 : decode cX8_rest 97 = .ok (.iload_n 3, 1) := by decide +kernel
theorem dX8_rest_98 : decode cX8_rest 98 = .ok (.i2l, 1) := by decide +kernel
theorem dX8_rest_99 : decode cX8_rest 99 = .ok (.lrem, 1) := by decide +kernel
theorem dX8_rest_100 : decode cX8_rest 100 = .ok (.lstore 6, 2) := by decide +kernel
theorem dX8_rest_102 : decode cX8_rest 102 = .ok (.iinc 8 (-1), 3) := by decide +kernel
theorem dX8_rest_105 : decode cX8_rest 105 = .ok (.goto (-38), 3) := by decide +kernel
theorem dX8_rest_108 : decode cX8_rest 108 = .ok (.aload_n 0, 1) := by decide +kernel
theorem dX8_rest_109 : decode cX8_rest 109 = .ok (.getfield 17, 3) := by decide +kernel
theorem dX8_rest_112 : decode cX8_rest 112 = .ok (.iload 5, 2) := by decide +kernel
theorem dX8_rest_114 : decode cX8_rest 114 = .ok (.baload, 1) := by decide +kernel
theorem dX8_rest_115 : decode cX8_rest 115 = .ok (.ifCond .eq 18, 3) := by decide +kernel
theorem dX8_rest_118 : decode cX8_rest 118 = .ok (.lload 6, 2) := by decide +kernel
theorem dX8_rest_120 : decode cX8_rest 120 = .ok (.lconst 0, 1) := by decide +kernel
theorem dX8_rest_121 : decode cX8_rest 121 = .ok (.lcmp, 1) := by decide +kernel
theorem dX8_rest_122 : decode cX8_rest 122 = .ok (.ifCond .le 11, 3) := by decide +kernel
theorem dX8_rest_125 : decode cX8_rest 125 = .ok (.iload_n 3, 1) := by decide +kernel
theorem dX8_rest_126 : decode cX8_rest 126 = .ok (.i2l, 1) := by decide +kernel
theorem dX8_rest_127 : decode cX8_rest 127 = .ok (.lload 6, 2) := by decide +kernel
theorem dX8_rest_129 : decode cX8_rest 129 = .ok (.lsub, 1) := by decide +kernel
theorem dX8_rest_130 : decode cX8_rest 130 = .ok (.goto 5, 3) := by decide +kernel
theorem dX8_rest_133 : decode cX8_rest 133 = .ok (.lload 6, 2) := by decide +kernel
theorem dX8_rest_135 : decode cX8_rest 135 = .ok (.l2i, 1) := by decide +kernel
theorem dX8_rest_136 : decode cX8_rest 136 = .ok (.ireturn, 1) := by decide +kernel
theorem dX8_word_0 : decode cX8_word 0 = .ok (.aload_n 0, 1) := by decide +kernel
theorem dX8_word_1 : decode cX8_word 1 = .ok (.iload_n 1, 1) := by decide +kernel
theorem dX8_word_2 : decode cX8_word 2 = .ok (.iload_n 2, 1) := by decide +kernel
theorem dX8_word_3 : decode cX8_word 3 = .ok (.i2l, 1) := by decide +kernel
theorem dX8_word_4 : decode cX8_word 4 = .ok (.lconst 0, 1) := by decide +kernel
theorem dX8_word_5 : decode cX8_word 5 = .ok (.ldc2_w 94, 3) := by decide +kernel
theorem dX8_word_8 : decode cX8_word 8 = .ok (.invokestatic 86, 3) := by decide +kernel
theorem dX8_word_11 : decode cX8_word 11 = .ok (.ifCond .eq 11, 3) := by decide +kernel
theorem dX8_word_14 : decode cX8_word 14 = .ok (.iload_n 3, 1) := by decide +kernel
theorem dX8_word_15 : decode cX8_word 15 = .ok (.ifCond .lt 7, 3) := by decide +kernel
theorem dX8_word_18 : decode cX8_word 18 = .ok (.iconst 1, 1) := by decide +kernel
theorem dX8_word_19 : decode cX8_word 19 = .ok (.goto 4, 3) := by decide +kernel
theorem dX8_word_22 : decode cX8_word 22 = .ok (.iconst 0, 1) := by decide +kernel
theorem dX8_word_23 : decode cX8_word 23 = .ok (.invokevirtual 161, 3) := by decide +kernel
theorem dX8_word_26 : decode cX8_word 26 = .ok (.istore 4, 2) := by decide +kernel
theorem dX8_word_28 : decode cX8_word 28 = .ok (.iload 4, 2) := by decide +kernel
theorem dX8_word_30 : decode cX8_word 30 = .ok (.ifCond .ge 6, 3) := by decide +kernel
theorem dX8_word_33 : decode cX8_word 33 = .ok (.iload 4, 2) := by decide +kernel
theorem dX8_word_35 : decode cX8_word 35 = .ok (.ireturn, 1) := by decide +kernel
theorem dX8_word_36 : decode cX8_word 36 = .ok (.iconst 4, 1) := by decide +kernel
theorem dX8_word_37 : decode cX8_word 37 = .ok (.iload_n 1, 1) := by decide +kernel
theorem dX8_word_38 : decode cX8_word 38 = .ok (.imul, 1) := by decide +kernel
theorem dX8_word_39 : decode cX8_word 39 = .ok (.iload_n 2, 1) := by decide +kernel
theorem dX8_word_40 : decode cX8_word 40 = .ok (.iadd, 1) := by decide +kernel
theorem dX8_word_41 : decode cX8_word 41 = .ok (.istore 5, 2) := by decide +kernel
theorem dX8_word_43 : decode cX8_word 43 = .ok (.iload_n 3, 1) := by decide +kernel
theorem dX8_word_44 : decode cX8_word 44 = .ok (.iconst 2, 1) := by decide +kernel
theorem dX8_word_45 : decode cX8_word 45 = .ok (.idiv, 1) := by decide +kernel
theorem dX8_word_46 : decode cX8_word 46 = .ok (.aload_n 0, 1) := by decide +kernel
theorem dX8_word_47 : decode cX8_word 47 = .ok (.getfield 14, 3) := by decide +kernel
theorem dX8_word_50 : decode cX8_word 50 = .ok (.iload 5, 2) := by decide +kernel
theorem dX8_word_52 : decode cX8_word 52 = .ok (.iaload, 1) := by decide +kernel
theorem dX8_word_53 : decode cX8_word 53 = .ok (.if_icmp .ge 31, 3) := by decide +kernel
theorem dX8_word_56 : decode cX8_word 56 = .ok (.aload_n 0, 1) := by decide +kernel
theorem dX8_word_57 : decode cX8_word 57 = .ok (.getfield 8, 3) := by decide +kernel
theorem dX8_word_60 : decode cX8_word 60 = .ok (.sipush 1200, 3) := by decide +kernel
theorem dX8_word_63 : decode cX8_word 63 = .ok (.iload 5, 2) := by decide +kernel
theorem dX8_word_65 : decode cX8_word 65 = .ok (.imul, 1) := by decide +kernel
theorem dX8_word_66 : decode cX8_word 66 = .ok (.iload_n 3, 1) := by decide +kernel
theorem dX8_word_67 : decode cX8_word 67 = .ok (.iconst 2, 1) := by decide +kernel
theorem dX8_word_68 : decode cX8_word 68 = .ok (.idiv, 1) := by decide +kernel
theorem dX8_word_69 : decode cX8_word 69 = .ok (.iadd, 1) := by decide +kernel
theorem dX8_word_70 : decode cX8_word 70 = .ok (.iaload, 1) := by decide +kernel
theorem dX8_word_71 : decode cX8_word 71 = .ok (.bipush 16, 2) := by decide +kernel
theorem dX8_word_73 : decode cX8_word 73 = .ok (.iload_n 3, 1) := by decide +kernel
theorem dX8_word_74 : decode cX8_word 74 = .ok (.iconst 2, 1) := by decide +kernel
theorem dX8_word_75 : decode cX8_word 75 = .ok (.irem, 1) := by decide +kernel
theorem dX8_word_76 : decode cX8_word 76 = .ok (.imul, 1) := by decide +kernel
theorem dX8_word_77 : decode cX8_word 77 = .ok (.iushr, 1) := by decide +kernel
theorem dX8_word_78 : decode cX8_word 78 = .ok (.ldc 167, 2) := by decide +kernel
theorem dX8_word_80 : decode cX8_word 80 = .ok (.iand, 1) := by decide +kernel
theorem dX8_word_81 : decode cX8_word 81 = .ok (.goto 4, 3) := by decide +kernel
theorem dX8_word_84 : decode cX8_word 84 = .ok (.iconst 0, 1) := by decide +kernel
theorem dX8_word_85 : decode cX8_word 85 = .ok (.ireturn, 1) := by decide +kernel
theorem dX8_same_0 : decode cX8_same 0 = .ok (.iload_n 1, 1) := by decide +kernel
theorem dX8_same_1 : decode cX8_same 1 = .ok (.invokestatic 150, 3) := by decide +kernel
theorem dX8_same_4 : decode cX8_same 4 = .ok (.ifCond .eq 10, 3) := by decide +kernel
theorem dX8_same_7 : decode cX8_same 7 = .ok (.iload_n 2, 1) := by decide +kernel
theorem dX8_same_8 : decode cX8_same 8 = .ok (.invokestatic 150, 3) := by decide +kernel
theorem dX8_same_11 : decode cX8_same 11 = .ok (.ifCond .ne 5, 3) := by decide +kernel
theorem dX8_same_14 : decode cX8_same 14 = .ok (.iconst (-1), 1) := by decide +kernel
theorem dX8_same_15 : decode cX8_same 15 = .ok (.ireturn, 1) := by decide +kernel
theorem dX8_same_16 : decode cX8_same 16 = .ok (.aload_n 0, 1) := by decide +kernel
theorem dX8_same_17 : decode cX8_same 17 = .ok (.getfield 30, 3) := by decide +kernel
theorem dX8_same_20 : decode cX8_same 20 = .ok (.iload_n 1, 1) := by decide +kernel
theorem dX8_same_21 : decode cX8_same 21 = .ok (.iaload, 1) := by decide +kernel
theorem dX8_same_22 : decode cX8_same 22 = .ok (.bipush (-6), 2) := by decide +kernel
theorem dX8_same_24 : decode cX8_same 24 = .ok (.if_icmp .eq 14, 3) := by decide +kernel
theorem dX8_same_27 : decode cX8_same 27 = .ok (.aload_n 0, 1) := by decide +kernel
theorem dX8_same_28 : decode cX8_same 28 = .ok (.getfield 30, 3) := by decide +kernel
theorem dX8_same_31 : decode cX8_same 31 = .ok (.iload_n 2, 1) := by decide +kernel
theorem dX8_same_32 : decode cX8_same 32 = .ok (.iaload, 1) := by decide +kernel
theorem dX8_same_33 : decode cX8_same 33 = .ok (.bipush (-6), 2) := by decide +kernel
theorem dX8_same_35 : decode cX8_same 35 = .ok (.if_icmp .ne 6, 3) := by decide +kernel
theorem dX8_same_38 : decode cX8_same 38 = .ok (.bipush (-3), 2) := by decide +kernel
theorem dX8_same_40 : decode cX8_same 40 = .ok (.ireturn, 1) := by decide +kernel
theorem dX8_same_41 : decode cX8_same 41 = .ok (.iconst 1, 1) := by decide +kernel
theorem dX8_same_42 : decode cX8_same 42 = .ok (.istore_n 3, 1) := by decide +kernel
theorem dX8_same_43 : decode cX8_same 43 = .ok (.iconst 0, 1) := by decide +kernel
theorem dX8_same_44 : decode cX8_same 44 = .ok (.istore 4, 2) := by decide +kernel
theorem dX8_same_46 : decode cX8_same 46 = .ok (.iload 4, 2) := by decide +kernel
theorem dX8_same_48 : decode cX8_same 48 = .ok (.iconst 4, 1) := by decide +kernel
theorem dX8_same_49 : decode cX8_same 49 = .ok (.if_icmp .ge 63, 3) := by decide +kernel
theorem dX8_same_52 : decode cX8_same 52 = .ok (.iload_n 3, 1) := by decide +kernel
theorem dX8_same_53 : decode cX8_same 53 = .ok (.ifCond .eq 59, 3) := by decide +kernel
theorem dX8_same_56 : decode cX8_same 56 = .ok (.aload_n 0, 1) := by decide +kernel
theorem dX8_same_57 : decode cX8_same 57 = .ok (.iconst 4, 1) := by decide +kernel
theorem dX8_same_58 : decode cX8_same 58 = .ok (.iload_n 1, 1) := by decide +kernel
theorem dX8_same_59 : decode cX8_same 59 = .ok (.imul, 1) := by decide +kernel
theorem dX8_same_60 : decode cX8_same 60 = .ok (.iload 4, 2) := by decide +kernel
theorem dX8_same_62 : decode cX8_same 62 = .ok (.iadd, 1) := by decide +kernel
theorem dX8_same_63 : decode cX8_same 63 = .ok (.iconst 4, 1) := by decide +kernel
theorem dX8_same_64 : decode cX8_same 64 = .ok (.iload_n 2, 1) := by decide +kernel
theorem dX8_same_65 : decode cX8_same 65 = .ok (.imul, 1) := by decide +kernel
theorem dX8_same_66 : decode cX8_same 66 = .ok (.iload 4, 2) := by decide +kernel
theorem dX8_same_68 : decode cX8_same 68 = .ok (.iadd, 1) := by decide +kernel
theorem dX8_same_69 : decode cX8_same 69 = .ok (.invokevirtual 74, 3) := by decide +kernel
theorem dX8_same_72 : decode cX8_same 72 = .ok (.ifCond .ne 32, 3) := by decide +kernel
theorem dX8_same_75 : decode cX8_same 75 = .ok (.aload_n 0, 1) := by decide +kernel
theorem dX8_same_76 : decode cX8_same 76 = .ok (.getfield 17, 3) := by decide +kernel
theorem dX8_same_79 : decode cX8_same 79 = .ok (.iconst 4, 1) := by decide +kernel
theorem dX8_same_80 : decode cX8_same 80 = .ok (.iload_n 1, 1) := by decide +kernel
theorem dX8_same_81 : decode cX8_same 81 = .ok (.imul, 1) := by decide +kernel
theorem dX8_same_82 : decode cX8_same 82 = .ok (.iload 4, 2) := by decide +kernel
theorem dX8_same_84 : decode cX8_same 84 = .ok (.iadd, 1) := by decide +kernel
theorem dX8_same_85 : decode cX8_same 85 = .ok (.baload, 1) := by decide +kernel
theorem dX8_same_86 : decode cX8_same 86 = .ok (.aload_n 0, 1) := by decide +kernel
theorem dX8_same_87 : decode cX8_same 87 = .ok (.getfield 17, 3) := by decide +kernel
theorem dX8_same_90 : decode cX8_same 90 = .ok (.iconst 4, 1) := by decide +kernel
theorem dX8_same_91 : decode cX8_same 91 = .ok (.iload_n 2, 1) := by decide +kernel
theorem dX8_same_92 : decode cX8_same 92 = .ok (.imul, 1) := by decide +kernel
theorem dX8_same_93 : decode cX8_same 93 = .ok (.iload 4, 2) := by decide +kernel
theorem dX8_same_95 : decode cX8_same 95 = .ok (.iadd, 1) := by decide +kernel
theorem dX8_same_96 : decode cX8_same 96 = .ok (.baload, 1) := by decide +kernel
theorem dX8_same_97 : decode cX8_same 97 = .ok (.if_icmp .ne 7, 3) := by decide +kernel
theorem dX8_same_100 : decode cX8_same 100 = .ok (.iconst 1, 1) := by decide +kernel
theorem dX8_same_101 : decode cX8_same 101 = .ok (.goto 4, 3) := by decide +kernel
theorem dX8_same_104 : decode cX8_same 104 = .ok (.iconst 0, 1) := by decide +kernel
theorem dX8_same_105 : decode cX8_same 105 = .ok (.istore_n 3, 1) := by decide +kernel
theorem dX8_same_106 : decode cX8_same 106 = .ok (.iinc 4 1, 3) := by decide +kernel
theorem dX8_same_109 : decode cX8_same 109 = .ok (.goto (-63), 3) := by decide +kernel
theorem dX8_same_112 : decode cX8_same 112 = .ok (.iload_n 3, 1) := by decide +kernel
theorem dX8_same_113 : decode cX8_same 113 = .ok (.ifCond .eq 7, 3) := by decide +kernel
theorem dX8_same_116 : decode cX8_same 116 = .ok (.iconst 1, 1) := by decide +kernel
theorem dX8_same_117 : decode cX8_same 117 = .ok (.goto 4, 3) := by decide +kernel
theorem dX8_same_120 : decode cX8_same 120 = .ok (.iconst 0, 1) := by decide +kernel
theorem dX8_same_121 : decode cX8_same 121 = .ok (.ireturn, 1) := by decide +kernel
theorem dX8_isConstant_0 : decode cX8_isConstant 0 = .ok (.iload_n 0, 1) := by decide +kernel
theorem dX8_isConstant_1 : decode cX8_isConstant 1 = .ok (.i2l, 1) := by decide +kernel
theorem dX8_isConstant_2 : decode cX8_isConstant 2 = .ok (.lconst 0, 1) := by decide +kernel
theorem dX8_isConstant_3 : decode cX8_isConstant 3 = .ok (.ldc2_w 94, 3) := by decide +kernel
theorem dX8_isConstant_6 : decode cX8_isConstant 6 = .ok (.invokestatic 86, 3) := by decide +kernel
theorem dX8_isConstant_9 : decode cX8_isConstant 9 = .ok (.ireturn, 1) := by decide +kernel
theorem dX8_part_0 : decode cX8_part 0 = .ok (.iload_n 1, 1) := by decide +kernel
theorem dX8_part_1 : decode cX8_part 1 = .ok (.invokestatic 168, 3) := by decide +kernel
theorem dX8_part_4 : decode cX8_part 4 = .ok (.ifCond .eq 10, 3) := by decide +kernel
theorem dX8_part_7 : decode cX8_part 7 = .ok (.iload_n 2, 1) := by decide +kernel
theorem dX8_part_8 : decode cX8_part 8 = .ok (.invokestatic 90, 3) := by decide +kernel
theorem dX8_part_11 : decode cX8_part 11 = .ok (.ifCond .ne 5, 3) := by decide +kernel
theorem dX8_part_14 : decode cX8_part 14 = .ok (.iconst (-1), 1) := by decide +kernel
theorem dX8_part_15 : decode cX8_part 15 = .ok (.ireturn, 1) := by decide +kernel
theorem dX8_part_16 : decode cX8_part 16 = .ok (.iload_n 3, 1) := by decide +kernel
theorem dX8_part_17 : decode cX8_part 17 = .ok (.i2l, 1) := by decide +kernel
theorem dX8_part_18 : decode cX8_part 18 = .ok (.ldc2_w 171, 3) := by decide +kernel
theorem dX8_part_21 : decode cX8_part 21 = .ok (.ldc2_w 165, 3) := by decide +kernel
theorem dX8_part_24 : decode cX8_part 24 = .ok (.invokestatic 86, 3) := by decide +kernel
theorem dX8_part_27 : decode cX8_part 27 = .ok (.ifCond .eq 16, 3) := by decide +kernel
theorem dX8_part_30 : decode cX8_part 30 = .ok (.iload 4, 2) := by decide +kernel
theorem dX8_part_32 : decode cX8_part 32 = .ok (.i2l, 1) := by decide +kernel
theorem dX8_part_33 : decode cX8_part 33 = .ok (.lconst 1, 1) := by decide +kernel
theorem dX8_part_34 : decode cX8_part 34 = .ok (.ldc2_w 165, 3) := by decide +kernel
theorem dX8_part_37 : decode cX8_part 37 = .ok (.invokestatic 86, 3) := by decide +kernel
theorem dX8_part_40 : decode cX8_part 40 = .ok (.ifCond .ne 6, 3) := by decide +kernel
theorem dX8_part_43 : decode cX8_part 43 = .ok (.bipush (-2), 2) := by decide +kernel
theorem dX8_part_45 : decode cX8_part 45 = .ok (.ireturn, 1) := by decide +kernel
theorem dX8_part_46 : decode cX8_part 46 = .ok (.aload_n 0, 1) := by decide +kernel
theorem dX8_part_47 : decode cX8_part 47 = .ok (.getfield 39, 3) := by decide +kernel
theorem dX8_part_50 : decode cX8_part 50 = .ok (.iload_n 1, 1) := by decide +kernel
theorem dX8_part_51 : decode cX8_part 51 = .ok (.iaload, 1) := by decide +kernel
theorem dX8_part_52 : decode cX8_part 52 = .ok (.iconst 4, 1) := by decide +kernel
theorem dX8_part_53 : decode cX8_part 53 = .ok (.if_icmp .ne 6, 3) := by decide +kernel
theorem dX8_part_56 : decode cX8_part 56 = .ok (.bipush (-4), 2) := by decide +kernel
theorem dX8_part_58 : decode cX8_part 58 = .ok (.ireturn, 1) := by decide +kernel
theorem dX8_part_59 : decode cX8_part 59 = .ok (.iconst 4, 1) := by decide +kernel
theorem dX8_part_60 : decode cX8_part 60 = .ok (.iload_n 1, 1) := by decide +kernel
theorem dX8_part_61 : decode cX8_part 61 = .ok (.imul, 1) := by decide +kernel
theorem dX8_part_62 : decode cX8_part 62 = .ok (.aload_n 0, 1) := by decide +kernel
theorem dX8_part_63 : decode cX8_part 63 = .ok (.getfield 39, 3) := by decide +kernel
theorem dX8_part_66 : decode cX8_part 66 = .ok (.iload_n 1, 1) := by decide +kernel
theorem dX8_part_67 : decode cX8_part 67 = .ok (.iaload, 1) := by decide +kernel
theorem dX8_part_68 : decode cX8_part 68 = .ok (.iadd, 1) := by decide +kernel
theorem dX8_part_69 : decode cX8_part 69 = .ok (.istore 5, 2) := by decide +kernel
theorem dX8_part_71 : decode cX8_part 71 = .ok (.aload_n 0, 1) := by decide +kernel
theorem dX8_part_72 : decode cX8_part 72 = .ok (.getfield 42, 3) := by decide +kernel
theorem dX8_part_75 : decode cX8_part 75 = .ok (.iload 5, 2) := by decide +kernel
theorem dX8_part_77 : decode cX8_part 77 = .ok (.iload_n 2, 1) := by decide +kernel
theorem dX8_part_78 : decode cX8_part 78 = .ok (.iastore, 1) := by decide +kernel
theorem dX8_part_79 : decode cX8_part 79 = .ok (.aload_n 0, 1) := by decide +kernel
theorem dX8_part_80 : decode cX8_part 80 = .ok (.getfield 45, 3) := by decide +kernel
theorem dX8_part_83 : decode cX8_part 83 = .ok (.iload 5, 2) := by decide +kernel
theorem dX8_part_85 : decode cX8_part 85 = .ok (.iload_n 3, 1) := by decide +kernel
theorem dX8_part_86 : decode cX8_part 86 = .ok (.iastore, 1) := by decide +kernel
theorem dX8_part_87 : decode cX8_part 87 = .ok (.aload_n 0, 1) := by decide +kernel
theorem dX8_part_88 : decode cX8_part 88 = .ok (.getfield 48, 3) := by decide +kernel
theorem dX8_part_91 : decode cX8_part 91 = .ok (.iload 5, 2) := by decide +kernel
theorem dX8_part_93 : decode cX8_part 93 = .ok (.iload 4, 2) := by decide +kernel
theorem dX8_part_95 : decode cX8_part 95 = .ok (.iastore, 1) := by decide +kernel
theorem dX8_part_96 : decode cX8_part 96 = .ok (.aload_n 0, 1) := by decide +kernel
theorem dX8_part_97 : decode cX8_part 97 = .ok (.getfield 39, 3) := by decide +kernel
theorem dX8_part_100 : decode cX8_part 100 = .ok (.iload_n 1, 1) := by decide +kernel
theorem dX8_part_101 : decode cX8_part 101 = .ok (.dup2, 1) := by decide +kernel
theorem dX8_part_102 : decode cX8_part 102 = .ok (.iaload, 1) := by decide +kernel
theorem dX8_part_103 : decode cX8_part 103 = .ok (.iconst 1, 1) := by decide +kernel
theorem dX8_part_104 : decode cX8_part 104 = .ok (.iadd, 1) := by decide +kernel
theorem dX8_part_105 : decode cX8_part 105 = .ok (.iastore, 1) := by decide +kernel
theorem dX8_part_106 : decode cX8_part 106 = .ok (.aload_n 0, 1) := by decide +kernel
theorem dX8_part_107 : decode cX8_part 107 = .ok (.getfield 39, 3) := by decide +kernel
theorem dX8_part_110 : decode cX8_part 110 = .ok (.iload_n 1, 1) := by decide +kernel
theorem dX8_part_111 : decode cX8_part 111 = .ok (.iaload, 1) := by decide +kernel
theorem dX8_part_112 : decode cX8_part 112 = .ok (.ireturn, 1) := by decide +kernel
theorem dX8_clear_0 : decode cX8_clear 0 = .ok (.iload_n 1, 1) := by decide +kernel
theorem dX8_clear_1 : decode cX8_clear 1 = .ok (.invokestatic 168, 3) := by decide +kernel
theorem dX8_clear_4 : decode cX8_clear 4 = .ok (.ifCond .ne 5, 3) := by decide +kernel
theorem dX8_clear_7 : decode cX8_clear 7 = .ok (.iconst (-1), 1) := by decide +kernel
theorem dX8_clear_8 : decode cX8_clear 8 = .ok (.ireturn, 1) := by decide +kernel
theorem dX8_clear_9 : decode cX8_clear 9 = .ok (.aload_n 0, 1) := by decide +kernel
theorem dX8_clear_10 : decode cX8_clear 10 = .ok (.getfield 39, 3) := by decide +kernel
theorem dX8_clear_13 : decode cX8_clear 13 = .ok (.iload_n 1, 1) := by decide +kernel
theorem dX8_clear_14 : decode cX8_clear 14 = .ok (.iaload, 1) := by decide +kernel
theorem dX8_clear_15 : decode cX8_clear 15 = .ok (.istore_n 2, 1) := by decide +kernel
theorem dX8_clear_16 : decode cX8_clear 16 = .ok (.aload_n 0, 1) := by decide +kernel
theorem dX8_clear_17 : decode cX8_clear 17 = .ok (.getfield 39, 3) := by decide +kernel
theorem dX8_clear_20 : decode cX8_clear 20 = .ok (.iload_n 1, 1) := by decide +kernel
theorem dX8_clear_21 : decode cX8_clear 21 = .ok (.iconst 0, 1) := by decide +kernel
theorem dX8_clear_22 : decode cX8_clear 22 = .ok (.iastore, 1) := by decide +kernel
theorem dX8_clear_23 : decode cX8_clear 23 = .ok (.iload_n 2, 1) := by decide +kernel
theorem dX8_clear_24 : decode cX8_clear 24 = .ok (.ireturn, 1) := by decide +kernel
theorem dX8_told_0 : decode cX8_told 0 = .ok (.iload_n 1, 1) := by decide +kernel
theorem dX8_told_1 : decode cX8_told 1 = .ok (.invokestatic 168, 3) := by decide +kernel
theorem dX8_told_4 : decode cX8_told 4 = .ok (.ifCond .eq 21, 3) := by decide +kernel
theorem dX8_told_7 : decode cX8_told 7 = .ok (.iload_n 2, 1) := by decide +kernel
theorem dX8_told_8 : decode cX8_told 8 = .ok (.i2l, 1) := by decide +kernel
theorem dX8_told_9 : decode cX8_told 9 = .ok (.lconst 0, 1) := by decide +kernel
theorem dX8_told_10 : decode cX8_told 10 = .ok (.aload_n 0, 1) := by decide +kernel
theorem dX8_told_11 : decode cX8_told 11 = .ok (.getfield 39, 3) := by decide +kernel
theorem dX8_told_14 : decode cX8_told 14 = .ok (.iload_n 1, 1) := by decide +kernel
theorem dX8_told_15 : decode cX8_told 15 = .ok (.iaload, 1) := by decide +kernel
theorem dX8_told_16 : decode cX8_told 16 = .ok (.iconst 1, 1) := by decide +kernel
theorem dX8_told_17 : decode cX8_told 17 = .ok (.isub, 1) := by decide +kernel
theorem dX8_told_18 : decode cX8_told 18 = .ok (.i2l, 1) := by decide +kernel
theorem dX8_told_19 : decode cX8_told 19 = .ok (.invokestatic 86, 3) := by decide +kernel
theorem dX8_told_22 : decode cX8_told 22 = .ok (.ifCond .ne 6, 3) := by decide +kernel
theorem dX8_told_25 : decode cX8_told 25 = .ok (.ldc 105, 2) := by decide +kernel
theorem dX8_told_27 : decode cX8_told 27 = .ok (.ireturn, 1) := by decide +kernel
theorem dX8_told_28 : decode cX8_told 28 = .ok (.iconst 4, 1) := by decide +kernel
theorem dX8_told_29 : decode cX8_told 29 = .ok (.iload_n 1, 1) := by decide +kernel
theorem dX8_told_30 : decode cX8_told 30 = .ok (.imul, 1) := by decide +kernel
theorem dX8_told_31 : decode cX8_told 31 = .ok (.iload_n 2, 1) := by decide +kernel
theorem dX8_told_32 : decode cX8_told 32 = .ok (.iadd, 1) := by decide +kernel
theorem dX8_told_33 : decode cX8_told 33 = .ok (.istore 4, 2) := by decide +kernel
theorem dX8_told_35 : decode cX8_told 35 = .ok (.iload_n 3, 1) := by decide +kernel
theorem dX8_told_36 : decode cX8_told 36 = .ok (.ifCond .ne 13, 3) := by decide +kernel
theorem dX8_told_39 : decode cX8_told 39 = .ok (.aload_n 0, 1) := by decide +kernel
theorem dX8_told_40 : decode cX8_told 40 = .ok (.getfield 42, 3) := by decide +kernel
theorem dX8_told_43 : decode cX8_told 43 = .ok (.iload 4, 2) := by decide +kernel
theorem dX8_told_45 : decode cX8_told 45 = .ok (.iaload, 1) := by decide +kernel
theorem dX8_told_46 : decode cX8_told 46 = .ok (.goto 35, 3) := by decide +kernel
theorem dX8_told_49 : decode cX8_told 49 = .ok (.iload_n 3, 1) := by decide +kernel
theorem dX8_told_50 : decode cX8_told 50 = .ok (.iconst 1, 1) := by decide +kernel
theorem dX8_told_51 : decode cX8_told 51 = .ok (.if_icmp .ne 13, 3) := by decide +kernel
theorem dX8_told_54 : decode cX8_told 54 = .ok (.aload_n 0, 1) := by decide +kernel
theorem dX8_told_55 : decode cX8_told 55 = .ok (.getfield 45, 3) := by decide +kernel
theorem dX8_told_58 : decode cX8_told 58 = .ok (.iload 4, 2) := by decide +kernel
theorem dX8_told_60 : decode cX8_told 60 = .ok (.iaload, 1) := by decide +kernel
theorem dX8_told_61 : decode cX8_told 61 = .ok (.goto 20, 3) := by decide +kernel
theorem dX8_told_64 : decode cX8_told 64 = .ok (.iload_n 3, 1) := by decide +kernel
theorem dX8_told_65 : decode cX8_told 65 = .ok (.iconst 2, 1) := by decide +kernel
theorem dX8_told_66 : decode cX8_told 66 = .ok (.if_icmp .ne 13, 3) := by decide +kernel
theorem dX8_told_69 : decode cX8_told 69 = .ok (.aload_n 0, 1) := by decide +kernel
theorem dX8_told_70 : decode cX8_told 70 = .ok (.getfield 48, 3) := by decide +kernel
theorem dX8_told_73 : decode cX8_told 73 = .ok (.iload 4, 2) := by decide +kernel
theorem dX8_told_75 : decode cX8_told 75 = .ok (.iaload, 1) := by decide +kernel
theorem dX8_told_76 : decode cX8_told 76 = .ok (.goto 5, 3) := by decide +kernel
theorem dX8_told_79 : decode cX8_told 79 = .ok (.ldc 112, 2) := by decide +kernel
theorem dX8_told_81 : decode cX8_told 81 = .ok (.ireturn, 1) := by decide +kernel
theorem dX8_beginParts_0 : decode cX8_beginParts 0 = .ok (.iconst 0, 1) := by decide +kernel
theorem dX8_beginParts_1 : decode cX8_beginParts 1 = .ok (.istore_n 2, 1) := by decide +kernel
theorem dX8_beginParts_2 : decode cX8_beginParts 2 = .ok (.iload_n 2, 1) := by decide +kernel
theorem dX8_beginParts_3 : decode cX8_beginParts 3 = .ok (.aload_n 0, 1) := by decide +kernel
theorem dX8_beginParts_4 : decode cX8_beginParts 4 = .ok (.getfield 39, 3) := by decide +kernel
theorem dX8_beginParts_7 : decode cX8_beginParts 7 = .ok (.iload_n 1, 1) := by decide +kernel
theorem dX8_beginParts_8 : decode cX8_beginParts 8 = .ok (.iaload, 1) := by decide +kernel
theorem dX8_beginParts_9 : decode cX8_beginParts 9 = .ok (.if_icmp .ge 19, 3) := by decide +kernel
theorem dX8_beginParts_12 : decode cX8_beginParts 12 = .ok (.aload_n 0, 1) := by decide +kernel
theorem dX8_beginParts_13 : decode cX8_beginParts 13 = .ok (.bipush 32, 2) := by decide +kernel
theorem dX8_beginParts_15 : decode cX8_beginParts 15 = .ok (.iconst 5, 1) := by decide +kernel
theorem dX8_beginParts_16 : decode cX8_beginParts 16 = .ok (.iload_n 2, 1) := by decide +kernel
theorem dX8_beginParts_17 : decode cX8_beginParts 17 = .ok (.imul, 1) := by decide +kernel
theorem dX8_beginParts_18 : decode cX8_beginParts 18 = .ok (.iadd, 1) := by decide +kernel
theorem dX8_beginParts_19 : decode cX8_beginParts 19 = .ok (.invokevirtual 153, 3) := by decide +kernel
theorem dX8_beginParts_22 : decode cX8_beginParts 22 = .ok (.iinc 2 1, 3) := by decide +kernel
theorem dX8_beginParts_25 : decode cX8_beginParts 25 = .ok (.goto (-23), 3) := by decide +kernel
theorem dX8_beginParts_28 : decode cX8_beginParts 28 = .ok (.return_, 1) := by decide +kernel
theorem dX8_goParts_0 : decode cX8_goParts 0 = .ok (.iconst 0, 1) := by decide +kernel
theorem dX8_goParts_1 : decode cX8_goParts 1 = .ok (.istore_n 3, 1) := by decide +kernel
theorem dX8_goParts_2 : decode cX8_goParts 2 = .ok (.iload_n 3, 1) := by decide +kernel
theorem dX8_goParts_3 : decode cX8_goParts 3 = .ok (.aload_n 0, 1) := by decide +kernel
theorem dX8_goParts_4 : decode cX8_goParts 4 = .ok (.getfield 39, 3) := by decide +kernel
theorem dX8_goParts_7 : decode cX8_goParts 7 = .ok (.iload_n 1, 1) := by decide +kernel
theorem dX8_goParts_8 : decode cX8_goParts 8 = .ok (.iaload, 1) := by decide +kernel
theorem dX8_goParts_9 : decode cX8_goParts 9 = .ok (.if_icmp .ge 46, 3) := by decide +kernel
theorem dX8_goParts_12 : decode cX8_goParts 12 = .ok (.bipush 32, 2) := by decide +kernel
theorem dX8_goParts_14 : decode cX8_goParts 14 = .ok (.iconst 5, 1) := by decide +kernel
theorem dX8_goParts_15 : decode cX8_goParts 15 = .ok (.iload_n 3, 1) := by decide +kernel
theorem dX8_goParts_16 : decode cX8_goParts 16 = .ok (.imul, 1) := by decide +kernel
theorem dX8_goParts_17 : decode cX8_goParts 17 = .ok (.iadd, 1) := by decide +kernel
theorem dX8_goParts_18 : decode cX8_goParts 18 = .ok (.istore 4, 2) := by decide +kernel
theorem dX8_goParts_20 : decode cX8_goParts 20 = .ok (.aload_n 0, 1) := by decide +kernel
theorem dX8_goParts_21 : decode cX8_goParts 21 = .ok (.iload 4, 2) := by decide +kernel
theorem dX8_goParts_23 : decode cX8_goParts 23 = .ok (.iconst 2, 1) := by decide +kernel
theorem dX8_goParts_24 : decode cX8_goParts 24 = .ok (.iadd, 1) := by decide +kernel
theorem dX8_goParts_25 : decode cX8_goParts 25 = .ok (.iload 4, 2) := by decide +kernel
theorem dX8_goParts_27 : decode cX8_goParts 27 = .ok (.iconst 4, 1) := by decide +kernel
theorem dX8_goParts_28 : decode cX8_goParts 28 = .ok (.iadd, 1) := by decide +kernel
theorem dX8_goParts_29 : decode cX8_goParts 29 = .ok (.invokevirtual 81, 3) := by decide +kernel
theorem dX8_goParts_32 : decode cX8_goParts 32 = .ok (.aload_n 0, 1) := by decide +kernel
theorem dX8_goParts_33 : decode cX8_goParts 33 = .ok (.iload 4, 2) := by decide +kernel
theorem dX8_goParts_35 : decode cX8_goParts 35 = .ok (.aload_n 0, 1) := by decide +kernel
theorem dX8_goParts_36 : decode cX8_goParts 36 = .ok (.getfield 42, 3) := by decide +kernel
theorem dX8_goParts_39 : decode cX8_goParts 39 = .ok (.iconst 4, 1) := by decide +kernel
theorem dX8_goParts_40 : decode cX8_goParts 40 = .ok (.iload_n 1, 1) := by decide +kernel
theorem dX8_goParts_41 : decode cX8_goParts 41 = .ok (.imul, 1) := by decide +kernel
theorem dX8_goParts_42 : decode cX8_goParts 42 = .ok (.iload_n 3, 1) := by decide +kernel
theorem dX8_goParts_43 : decode cX8_goParts 43 = .ok (.iadd, 1) := by decide +kernel
theorem dX8_goParts_44 : decode cX8_goParts 44 = .ok (.iaload, 1) := by decide +kernel
theorem dX8_goParts_45 : decode cX8_goParts 45 = .ok (.iload_n 2, 1) := by decide +kernel
theorem dX8_goParts_46 : decode cX8_goParts 46 = .ok (.invokevirtual 156, 3) := by decide +kernel
theorem dX8_goParts_49 : decode cX8_goParts 49 = .ok (.iinc 3 1, 3) := by decide +kernel
theorem dX8_goParts_52 : decode cX8_goParts 52 = .ok (.goto (-50), 3) := by decide +kernel
theorem dX8_goParts_55 : decode cX8_goParts 55 = .ok (.return_, 1) := by decide +kernel
theorem dX8_combine_0 : decode cX8_combine 0 = .ok (.aload_n 0, 1) := by decide +kernel
theorem dX8_combine_1 : decode cX8_combine 1 = .ok (.bipush 52, 2) := by decide +kernel
theorem dX8_combine_3 : decode cX8_combine 3 = .ok (.lconst 0, 1) := by decide +kernel
theorem dX8_combine_4 : decode cX8_combine 4 = .ok (.invokevirtual 133, 3) := by decide +kernel
theorem dX8_combine_7 : decode cX8_combine 7 = .ok (.aload_n 0, 1) := by decide +kernel
theorem dX8_combine_8 : decode cX8_combine 8 = .ok (.bipush 53, 2) := by decide +kernel
theorem dX8_combine_10 : decode cX8_combine 10 = .ok (.lconst 0, 1) := by decide +kernel
theorem dX8_combine_11 : decode cX8_combine 11 = .ok (.invokevirtual 133, 3) := by decide +kernel
theorem dX8_combine_14 : decode cX8_combine 14 = .ok (.aload_n 0, 1) := by decide +kernel
theorem dX8_combine_15 : decode cX8_combine 15 = .ok (.bipush 54, 2) := by decide +kernel
theorem dX8_combine_17 : decode cX8_combine 17 = .ok (.lconst 1, 1) := by decide +kernel
theorem dX8_combine_18 : decode cX8_combine 18 = .ok (.invokevirtual 133, 3) := by decide +kernel
theorem dX8_combine_21 : decode cX8_combine 21 = .ok (.iconst 0, 1) := by decide +kernel
theorem dX8_combine_22 : decode cX8_combine 22 = .ok (.istore_n 3, 1) := by decide +kernel
theorem dX8_combine_23 : decode cX8_combine 23 = .ok (.iload_n 3, 1) := by decide +kernel
theorem dX8_combine_24 : decode cX8_combine 24 = .ok (.aload_n 0, 1) := by decide +kernel
theorem dX8_combine_25 : decode cX8_combine 25 = .ok (.getfield 39, 3) := by decide +kernel
theorem dX8_combine_28 : decode cX8_combine 28 = .ok (.iload_n 1, 1) := by decide +kernel
theorem dX8_combine_29 : decode cX8_combine 29 = .ok (.iaload, 1) := by decide +kernel
theorem dX8_combine_30 : decode cX8_combine 30 = .ok (.if_icmp .ge 262, 3) := by decide +kernel
theorem dX8_combine_33 : decode cX8_combine 33 = .ok (.bipush 32, 2) := by decide +kernel
theorem dX8_combine_35 : decode cX8_combine 35 = .ok (.iconst 5, 1) := by decide +kernel
theorem dX8_combine_36 : decode cX8_combine 36 = .ok (.iload_n 3, 1) := by decide +kernel
theorem dX8_combine_37 : decode cX8_combine 37 = .ok (.imul, 1) := by decide +kernel
theorem dX8_combine_38 : decode cX8_combine 38 = .ok (.iadd, 1) := by decide +kernel
theorem dX8_combine_39 : decode cX8_combine 39 = .ok (.istore 4, 2) := by decide +kernel
theorem dX8_combine_41 : decode cX8_combine 41 = .ok (.aload_n 0, 1) := by decide +kernel
theorem dX8_combine_42 : decode cX8_combine 42 = .ok (.getfield 42, 3) := by decide +kernel
theorem dX8_combine_45 : decode cX8_combine 45 = .ok (.iconst 4, 1) := by decide +kernel
theorem dX8_combine_46 : decode cX8_combine 46 = .ok (.iload_n 1, 1) := by decide +kernel
theorem dX8_combine_47 : decode cX8_combine 47 = .ok (.imul, 1) := by decide +kernel
theorem dX8_combine_48 : decode cX8_combine 48 = .ok (.iload_n 3, 1) := by decide +kernel
theorem dX8_combine_49 : decode cX8_combine 49 = .ok (.iadd, 1) := by decide +kernel
theorem dX8_combine_50 : decode cX8_combine 50 = .ok (.iaload, 1) := by decide +kernel
theorem dX8_combine_51 : decode cX8_combine 51 = .ok (.istore 5, 2) := by decide +kernel
theorem dX8_combine_53 : decode cX8_combine 53 = .ok (.aload_n 0, 1) := by decide +kernel
theorem dX8_combine_54 : decode cX8_combine 54 = .ok (.getfield 45, 3) := by decide +kernel
theorem dX8_combine_57 : decode cX8_combine 57 = .ok (.iconst 4, 1) := by decide +kernel
theorem dX8_combine_58 : decode cX8_combine 58 = .ok (.iload_n 1, 1) := by decide +kernel
theorem dX8_combine_59 : decode cX8_combine 59 = .ok (.imul, 1) := by decide +kernel
theorem dX8_combine_60 : decode cX8_combine 60 = .ok (.iload_n 3, 1) := by decide +kernel
theorem dX8_combine_61 : decode cX8_combine 61 = .ok (.iadd, 1) := by decide +kernel
theorem dX8_combine_62 : decode cX8_combine 62 = .ok (.iaload, 1) := by decide +kernel
theorem dX8_combine_63 : decode cX8_combine 63 = .ok (.istore 6, 2) := by decide +kernel
theorem dX8_combine_65 : decode cX8_combine 65 = .ok (.aload_n 0, 1) := by decide +kernel
theorem dX8_combine_66 : decode cX8_combine 66 = .ok (.getfield 27, 3) := by decide +kernel
theorem dX8_combine_69 : decode cX8_combine 69 = .ok (.iload 5, 2) := by decide +kernel
theorem dX8_combine_71 : decode cX8_combine 71 = .ok (.iaload, 1) := by decide +kernel
theorem dX8_combine_72 : decode cX8_combine 72 = .ok (.aload_n 0, 1) := by decide +kernel
theorem dX8_combine_73 : decode cX8_combine 73 = .ok (.getfield 24, 3) := by decide +kernel
theorem dX8_combine_76 : decode cX8_combine 76 = .ok (.iload 5, 2) := by decide +kernel
theorem dX8_combine_78 : decode cX8_combine 78 = .ok (.iaload, 1) := by decide +kernel
theorem dX8_combine_79 : decode cX8_combine 79 = .ok (.isub, 1) := by decide +kernel
theorem dX8_combine_80 : decode cX8_combine 80 = .ok (.istore 7, 2) := by decide +kernel
theorem dX8_combine_82 : decode cX8_combine 82 = .ok (.aload_n 0, 1) := by decide +kernel
theorem dX8_combine_83 : decode cX8_combine 83 = .ok (.iload 4, 2) := by decide +kernel
theorem dX8_combine_85 : decode cX8_combine 85 = .ok (.iconst 1, 1) := by decide +kernel
theorem dX8_combine_86 : decode cX8_combine 86 = .ok (.iadd, 1) := by decide +kernel
theorem dX8_combine_87 : decode cX8_combine 87 = .ok (.iload 4, 2) := by decide +kernel
theorem dX8_combine_89 : decode cX8_combine 89 = .ok (.iconst 2, 1) := by decide +kernel
theorem dX8_combine_90 : decode cX8_combine 90 = .ok (.iadd, 1) := by decide +kernel
theorem dX8_combine_91 : decode cX8_combine 91 = .ok (.bipush 55, 2) := by decide +kernel
theorem dX8_combine_93 : decode cX8_combine 93 = .ok (.invokevirtual 140, 3) := by decide +kernel
theorem dX8_combine_96 : decode cX8_combine 96 = .ok (.aload_n 0, 1) := by decide +kernel
theorem dX8_combine_97 : decode cX8_combine 97 = .ok (.getfield 17, 3) := by decide +kernel
theorem dX8_combine_100 : decode cX8_combine 100 = .ok (.bipush 55, 2) := by decide +kernel
theorem dX8_combine_102 : decode cX8_combine 102 = .ok (.baload, 1) := by decide +kernel
theorem dX8_combine_103 : decode cX8_combine 103 = .ok (.istore 8, 2) := by decide +kernel
theorem dX8_combine_105 : decode cX8_combine 105 = .ok (.aload_n 0, 1) := by decide +kernel
theorem dX8_combine_106 : decode cX8_combine 106 = .ok (.getfield 17, 3) := by decide +kernel
theorem dX8_combine_109 : decode cX8_combine 109 = .ok (.bipush 55, 2) := by decide +kernel
theorem dX8_combine_111 : decode cX8_combine 111 = .ok (.iconst 0, 1) := by decide +kernel
theorem dX8_combine_112 : decode cX8_combine 112 = .ok (.bastore, 1) := by decide +kernel
theorem dX8_combine_113 : decode cX8_combine 113 = .ok (.aload_n 0, 1) := by decide +kernel
theorem dX8_combine_114 : decode cX8_combine 114 = .ok (.bipush 55, 2) := by decide +kernel
theorem dX8_combine_116 : decode cX8_combine 116 = .ok (.aload_n 0, 1) := by decide +kernel
theorem dX8_combine_117 : decode cX8_combine 117 = .ok (.getfield 48, 3) := by decide +kernel
theorem dX8_combine_120 : decode cX8_combine 120 = .ok (.iconst 4, 1) := by decide +kernel
theorem dX8_combine_121 : decode cX8_combine 121 = .ok (.iload_n 1, 1) := by decide +kernel
theorem dX8_combine_122 : decode cX8_combine 122 = .ok (.imul, 1) := by decide +kernel
theorem dX8_combine_123 : decode cX8_combine 123 = .ok (.iload_n 3, 1) := by decide +kernel
theorem dX8_combine_124 : decode cX8_combine 124 = .ok (.iadd, 1) := by decide +kernel
theorem dX8_combine_125 : decode cX8_combine 125 = .ok (.iaload, 1) := by decide +kernel
theorem dX8_combine_126 : decode cX8_combine 126 = .ok (.invokevirtual 137, 3) := by decide +kernel
theorem dX8_combine_129 : decode cX8_combine 129 = .ok (.aload_n 0, 1) := by decide +kernel
theorem dX8_combine_130 : decode cX8_combine 130 = .ok (.bipush 55, 2) := by decide +kernel
theorem dX8_combine_132 : decode cX8_combine 132 = .ok (.iload 7, 2) := by decide +kernel
theorem dX8_combine_134 : decode cX8_combine 134 = .ok (.invokevirtual 137, 3) := by decide +kernel
theorem dX8_combine_137 : decode cX8_combine 137 = .ok (.aload_n 0, 1) := by decide +kernel
theorem dX8_combine_138 : decode cX8_combine 138 = .ok (.iload 4, 2) := by decide +kernel
theorem dX8_combine_140 : decode cX8_combine 140 = .ok (.iload 4, 2) := by decide +kernel
theorem dX8_combine_142 : decode cX8_combine 142 = .ok (.iconst 4, 1) := by decide +kernel
theorem dX8_combine_143 : decode cX8_combine 143 = .ok (.iadd, 1) := by decide +kernel
theorem dX8_combine_144 : decode cX8_combine 144 = .ok (.bipush 56, 2) := by decide +kernel
theorem dX8_combine_146 : decode cX8_combine 146 = .ok (.invokevirtual 140, 3) := by decide +kernel
theorem dX8_combine_149 : decode cX8_combine 149 = .ok (.aload_n 0, 1) := by decide +kernel
theorem dX8_combine_150 : decode cX8_combine 150 = .ok (.bipush 56, 2) := by decide +kernel
theorem dX8_combine_152 : decode cX8_combine 152 = .ok (.aload_n 0, 1) := by decide +kernel
theorem dX8_combine_153 : decode cX8_combine 153 = .ok (.iload 5, 2) := by decide +kernel
theorem dX8_combine_155 : decode cX8_combine 155 = .ok (.iconst 2, 1) := by decide +kernel
theorem dX8_combine_156 : decode cX8_combine 156 = .ok (.iload_n 2, 1) := by decide +kernel
theorem dX8_combine_157 : decode cX8_combine 157 = .ok (.iconst 1, 1) := by decide +kernel
theorem dX8_combine_158 : decode cX8_combine 158 = .ok (.isub, 1) := by decide +kernel
theorem dX8_combine_159 : decode cX8_combine 159 = .ok (.invokevirtual 108, 3) := by decide +kernel
theorem dX8_combine_162 : decode cX8_combine 162 = .ok (.invokevirtual 137, 3) := by decide +kernel
theorem dX8_combine_165 : decode cX8_combine 165 = .ok (.aload_n 0, 1) := by decide +kernel
theorem dX8_combine_166 : decode cX8_combine 166 = .ok (.bipush 56, 2) := by decide +kernel
theorem dX8_combine_168 : decode cX8_combine 168 = .ok (.iload 6, 2) := by decide +kernel
theorem dX8_combine_170 : decode cX8_combine 170 = .ok (.invokevirtual 137, 3) := by decide +kernel
theorem dX8_combine_173 : decode cX8_combine 173 = .ok (.aload_n 0, 1) := by decide +kernel
theorem dX8_combine_174 : decode cX8_combine 174 = .ok (.bipush 56, 2) := by decide +kernel
theorem dX8_combine_176 : decode cX8_combine 176 = .ok (.aload_n 0, 1) := by decide +kernel
theorem dX8_combine_177 : decode cX8_combine 177 = .ok (.getfield 24, 3) := by decide +kernel
theorem dX8_combine_180 : decode cX8_combine 180 = .ok (.iload 5, 2) := by decide +kernel
theorem dX8_combine_182 : decode cX8_combine 182 = .ok (.iaload, 1) := by decide +kernel
theorem dX8_combine_183 : decode cX8_combine 183 = .ok (.invokevirtual 137, 3) := by decide +kernel
theorem dX8_combine_186 : decode cX8_combine 186 = .ok (.aload_n 0, 1) := by decide +kernel
theorem dX8_combine_187 : decode cX8_combine 187 = .ok (.getfield 17, 3) := by decide +kernel
theorem dX8_combine_190 : decode cX8_combine 190 = .ok (.bipush 56, 2) := by decide +kernel
theorem dX8_combine_192 : decode cX8_combine 192 = .ok (.iconst 0, 1) := by decide +kernel
theorem dX8_combine_193 : decode cX8_combine 193 = .ok (.bastore, 1) := by decide +kernel
theorem dX8_combine_194 : decode cX8_combine 194 = .ok (.aload_n 0, 1) := by decide +kernel
theorem dX8_combine_195 : decode cX8_combine 195 = .ok (.iload 4, 2) := by decide +kernel
theorem dX8_combine_197 : decode cX8_combine 197 = .ok (.iconst 3, 1) := by decide +kernel
theorem dX8_combine_198 : decode cX8_combine 198 = .ok (.iadd, 1) := by decide +kernel
theorem dX8_combine_199 : decode cX8_combine 199 = .ok (.bipush 57, 2) := by decide +kernel
theorem dX8_combine_201 : decode cX8_combine 201 = .ok (.invokevirtual 81, 3) := by decide +kernel
theorem dX8_combine_204 : decode cX8_combine 204 = .ok (.aload_n 0, 1) := by decide +kernel
theorem dX8_combine_205 : decode cX8_combine 205 = .ok (.bipush 57, 2) := by decide +kernel
theorem dX8_combine_207 : decode cX8_combine 207 = .ok (.iload 6, 2) := by decide +kernel
theorem dX8_combine_209 : decode cX8_combine 209 = .ok (.invokevirtual 137, 3) := by decide +kernel
theorem dX8_combine_212 : decode cX8_combine 212 = .ok (.aload_n 0, 1) := by decide +kernel
theorem dX8_combine_213 : decode cX8_combine 213 = .ok (.bipush 57, 2) := by decide +kernel
theorem dX8_combine_215 : decode cX8_combine 215 = .ok (.iload 7, 2) := by decide +kernel
theorem dX8_combine_217 : decode cX8_combine 217 = .ok (.invokevirtual 137, 3) := by decide +kernel
theorem dX8_combine_220 : decode cX8_combine 220 = .ok (.aload_n 0, 1) := by decide +kernel
theorem dX8_combine_221 : decode cX8_combine 221 = .ok (.getfield 17, 3) := by decide +kernel
theorem dX8_combine_224 : decode cX8_combine 224 = .ok (.bipush 57, 2) := by decide +kernel
theorem dX8_combine_226 : decode cX8_combine 226 = .ok (.aload_n 0, 1) := by decide +kernel
theorem dX8_combine_227 : decode cX8_combine 227 = .ok (.getfield 14, 3) := by decide +kernel
theorem dX8_combine_230 : decode cX8_combine 230 = .ok (.bipush 57, 2) := by decide +kernel
theorem dX8_combine_232 : decode cX8_combine 232 = .ok (.iaload, 1) := by decide +kernel
theorem dX8_combine_233 : decode cX8_combine 233 = .ok (.ifCond .le 19, 3) := by decide +kernel
theorem dX8_combine_236 : decode cX8_combine 236 = .ok (.aload_n 0, 1) := by decide +kernel
theorem dX8_combine_237 : decode cX8_combine 237 = .ok (.getfield 17, 3) := by decide +kernel
theorem dX8_combine_240 : decode cX8_combine 240 = .ok (.bipush 57, 2) := by decide +kernel
theorem dX8_combine_242 : decode cX8_combine 242 = .ok (.baload, 1) := by decide +kernel
theorem dX8_combine_243 : decode cX8_combine 243 = .ok (.iload 8, 2) := by decide +kernel
theorem dX8_combine_245 : decode cX8_combine 245 = .ok (.if_icmp .eq 7, 3) := by decide +kernel
theorem dX8_combine_248 : decode cX8_combine 248 = .ok (.iconst 1, 1) := by decide +kernel
theorem dX8_combine_249 : decode cX8_combine 249 = .ok (.goto 4, 3) := by decide +kernel
theorem dX8_combine_252 : decode cX8_combine 252 = .ok (.iconst 0, 1) := by decide +kernel
theorem dX8_combine_253 : decode cX8_combine 253 = .ok (.bastore, 1) := by decide +kernel
theorem dX8_combine_254 : decode cX8_combine 254 = .ok (.aload_n 0, 1) := by decide +kernel
theorem dX8_combine_255 : decode cX8_combine 255 = .ok (.bipush 52, 2) := by decide +kernel
theorem dX8_combine_257 : decode cX8_combine 257 = .ok (.iconst 1, 1) := by decide +kernel
theorem dX8_combine_258 : decode cX8_combine 258 = .ok (.invokevirtual 173, 3) := by decide +kernel
theorem dX8_combine_261 : decode cX8_combine 261 = .ok (.aload_n 0, 1) := by decide +kernel
theorem dX8_combine_262 : decode cX8_combine 262 = .ok (.bipush 53, 2) := by decide +kernel
theorem dX8_combine_264 : decode cX8_combine 264 = .ok (.iconst 0, 1) := by decide +kernel
theorem dX8_combine_265 : decode cX8_combine 265 = .ok (.invokevirtual 173, 3) := by decide +kernel
theorem dX8_combine_268 : decode cX8_combine 268 = .ok (.aload_n 0, 1) := by decide +kernel
theorem dX8_combine_269 : decode cX8_combine 269 = .ok (.bipush 54, 2) := by decide +kernel
theorem dX8_combine_271 : decode cX8_combine 271 = .ok (.bipush 55, 2) := by decide +kernel
theorem dX8_combine_273 : decode cX8_combine 273 = .ok (.bipush 58, 2) := by decide +kernel
theorem dX8_combine_275 : decode cX8_combine 275 = .ok (.invokevirtual 140, 3) := by decide +kernel
theorem dX8_combine_278 : decode cX8_combine 278 = .ok (.aload_n 0, 1) := by decide +kernel
theorem dX8_combine_279 : decode cX8_combine 279 = .ok (.bipush 58, 2) := by decide +kernel
theorem dX8_combine_281 : decode cX8_combine 281 = .ok (.bipush 54, 2) := by decide +kernel
theorem dX8_combine_283 : decode cX8_combine 283 = .ok (.invokevirtual 81, 3) := by decide +kernel
theorem dX8_combine_286 : decode cX8_combine 286 = .ok (.iinc 3 1, 3) := by decide +kernel
theorem dX8_combine_289 : decode cX8_combine 289 = .ok (.goto (-266), 3) := by decide +kernel
theorem dX8_combine_292 : decode cX8_combine 292 = .ok (.return_, 1) := by decide +kernel
theorem dX8_widen_0 : decode cX8_widen 0 = .ok (.aload_n 0, 1) := by decide +kernel
theorem dX8_widen_1 : decode cX8_widen 1 = .ok (.iload_n 1, 1) := by decide +kernel
theorem dX8_widen_2 : decode cX8_widen 2 = .ok (.bipush 55, 2) := by decide +kernel
theorem dX8_widen_4 : decode cX8_widen 4 = .ok (.bipush 58, 2) := by decide +kernel
theorem dX8_widen_6 : decode cX8_widen 6 = .ok (.invokevirtual 140, 3) := by decide +kernel
theorem dX8_widen_9 : decode cX8_widen 9 = .ok (.aload_n 0, 1) := by decide +kernel
theorem dX8_widen_10 : decode cX8_widen 10 = .ok (.bipush 58, 2) := by decide +kernel
theorem dX8_widen_12 : decode cX8_widen 12 = .ok (.iload_n 1, 1) := by decide +kernel
theorem dX8_widen_13 : decode cX8_widen 13 = .ok (.invokevirtual 81, 3) := by decide +kernel
theorem dX8_widen_16 : decode cX8_widen 16 = .ok (.aload_n 0, 1) := by decide +kernel
theorem dX8_widen_17 : decode cX8_widen 17 = .ok (.bipush 57, 2) := by decide +kernel
theorem dX8_widen_19 : decode cX8_widen 19 = .ok (.bipush 54, 2) := by decide +kernel
theorem dX8_widen_21 : decode cX8_widen 21 = .ok (.bipush 58, 2) := by decide +kernel
theorem dX8_widen_23 : decode cX8_widen 23 = .ok (.invokevirtual 140, 3) := by decide +kernel
theorem dX8_widen_26 : decode cX8_widen 26 = .ok (.aload_n 0, 1) := by decide +kernel
theorem dX8_widen_27 : decode cX8_widen 27 = .ok (.iload_n 1, 1) := by decide +kernel
theorem dX8_widen_28 : decode cX8_widen 28 = .ok (.bipush 58, 2) := by decide +kernel
theorem dX8_widen_30 : decode cX8_widen 30 = .ok (.iconst 0, 1) := by decide +kernel
theorem dX8_widen_31 : decode cX8_widen 31 = .ok (.invokevirtual 144, 3) := by decide +kernel
theorem dX8_widen_34 : decode cX8_widen 34 = .ok (.aload_n 0, 1) := by decide +kernel
theorem dX8_widen_35 : decode cX8_widen 35 = .ok (.bipush 56, 2) := by decide +kernel
theorem dX8_widen_37 : decode cX8_widen 37 = .ok (.bipush 54, 2) := by decide +kernel
theorem dX8_widen_39 : decode cX8_widen 39 = .ok (.bipush 58, 2) := by decide +kernel
theorem dX8_widen_41 : decode cX8_widen 41 = .ok (.invokevirtual 140, 3) := by decide +kernel
theorem dX8_widen_44 : decode cX8_widen 44 = .ok (.aload_n 0, 1) := by decide +kernel
theorem dX8_widen_45 : decode cX8_widen 45 = .ok (.iload_n 1, 1) := by decide +kernel
theorem dX8_widen_46 : decode cX8_widen 46 = .ok (.bipush 58, 2) := by decide +kernel
theorem dX8_widen_48 : decode cX8_widen 48 = .ok (.iload_n 2, 1) := by decide +kernel
theorem dX8_widen_49 : decode cX8_widen 49 = .ok (.invokevirtual 144, 3) := by decide +kernel
theorem dX8_widen_52 : decode cX8_widen 52 = .ok (.return_, 1) := by decide +kernel
theorem dX8_wholeOf_0 : decode cX8_wholeOf 0 = .ok (.aload_n 0, 1) := by decide +kernel
theorem dX8_wholeOf_1 : decode cX8_wholeOf 1 = .ok (.bipush 54, 2) := by decide +kernel
theorem dX8_wholeOf_3 : decode cX8_wholeOf 3 = .ok (.bipush 55, 2) := by decide +kernel
theorem dX8_wholeOf_5 : decode cX8_wholeOf 5 = .ok (.invokevirtual 81, 3) := by decide +kernel
theorem dX8_wholeOf_8 : decode cX8_wholeOf 8 = .ok (.aload_n 0, 1) := by decide +kernel
theorem dX8_wholeOf_9 : decode cX8_wholeOf 9 = .ok (.bipush 55, 2) := by decide +kernel
theorem dX8_wholeOf_11 : decode cX8_wholeOf 11 = .ok (.bipush 62, 2) := by decide +kernel
theorem dX8_wholeOf_13 : decode cX8_wholeOf 13 = .ok (.invokevirtual 177, 3) := by decide +kernel
theorem dX8_wholeOf_16 : decode cX8_wholeOf 16 = .ok (.aload_n 0, 1) := by decide +kernel
theorem dX8_wholeOf_17 : decode cX8_wholeOf 17 = .ok (.iload_n 1, 1) := by decide +kernel
theorem dX8_wholeOf_18 : decode cX8_wholeOf 18 = .ok (.bipush 55, 2) := by decide +kernel
theorem dX8_wholeOf_20 : decode cX8_wholeOf 20 = .ok (.invokevirtual 74, 3) := by decide +kernel
theorem dX8_wholeOf_23 : decode cX8_wholeOf 23 = .ok (.ifCond .lt 7, 3) := by decide +kernel
theorem dX8_wholeOf_26 : decode cX8_wholeOf 26 = .ok (.ldc2_w 180, 3) := by decide +kernel
theorem dX8_wholeOf_29 : decode cX8_wholeOf 29 = .ok (.lreturn, 1) := by decide +kernel
theorem dX8_wholeOf_30 : decode cX8_wholeOf 30 = .ok (.lconst 0, 1) := by decide +kernel
theorem dX8_wholeOf_31 : decode cX8_wholeOf 31 = .ok (.lstore_n 2, 1) := by decide +kernel
theorem dX8_wholeOf_32 : decode cX8_wholeOf 32 = .ok (.bipush 61, 2) := by decide +kernel
theorem dX8_wholeOf_34 : decode cX8_wholeOf 34 = .ok (.istore 4, 2) := by decide +kernel
theorem dX8_wholeOf_36 : decode cX8_wholeOf 36 = .ok (.iload 4, 2) := by decide +kernel
theorem dX8_wholeOf_38 : decode cX8_wholeOf 38 = .ok (.ifCond .lt 39, 3) := by decide +kernel
theorem dX8_wholeOf_41 : decode cX8_wholeOf 41 = .ok (.aload_n 0, 1) := by decide +kernel
theorem dX8_wholeOf_42 : decode cX8_wholeOf 42 = .ok (.bipush 55, 2) := by decide +kernel
theorem dX8_wholeOf_44 : decode cX8_wholeOf 44 = .ok (.invokevirtual 182, 3) := by decide +kernel
theorem dX8_wholeOf_47 : decode cX8_wholeOf 47 = .ok (.aload_n 0, 1) := by decide +kernel
theorem dX8_wholeOf_48 : decode cX8_wholeOf 48 = .ok (.iload_n 1, 1) := by decide +kernel
theorem dX8_wholeOf_49 : decode cX8_wholeOf 49 = .ok (.bipush 55, 2) := by decide +kernel
theorem dX8_wholeOf_51 : decode cX8_wholeOf 51 = .ok (.invokevirtual 74, 3) := by decide +kernel
theorem dX8_wholeOf_54 : decode cX8_wholeOf 54 = .ok (.ifCond .lt 17, 3) := by decide +kernel
theorem dX8_wholeOf_57 : decode cX8_wholeOf 57 = .ok (.aload_n 0, 1) := by decide +kernel
theorem dX8_wholeOf_58 : decode cX8_wholeOf 58 = .ok (.iload_n 1, 1) := by decide +kernel
theorem dX8_wholeOf_59 : decode cX8_wholeOf 59 = .ok (.bipush 55, 2) := by decide +kernel
theorem dX8_wholeOf_61 : decode cX8_wholeOf 61 = .ok (.invokevirtual 78, 3) := by decide +kernel
theorem dX8_wholeOf_64 : decode cX8_wholeOf 64 = .ok (.lload_n 2, 1) := by decide +kernel
theorem dX8_wholeOf_65 : decode cX8_wholeOf 65 = .ok (.lconst 1, 1) := by decide +kernel
theorem dX8_wholeOf_66 : decode cX8_wholeOf 66 = .ok (.iload 4, 2) := by decide +kernel
theorem dX8_wholeOf_68 : decode cX8_wholeOf 68 = .ok (.lshl, 1) := by decide +kernel
theorem dX8_wholeOf_69 : decode cX8_wholeOf 69 = .ok (.lor, 1) := by decide +kernel
theorem dX8_wholeOf_70 : decode cX8_wholeOf 70 = .ok (.lstore_n 2, 1) := by decide +kernel
theorem dX8_wholeOf_71 : decode cX8_wholeOf 71 = .ok (.iinc 4 (-1), 3) := by decide +kernel
theorem dX8_wholeOf_74 : decode cX8_wholeOf 74 = .ok (.goto (-38), 3) := by decide +kernel
theorem dX8_wholeOf_77 : decode cX8_wholeOf 77 = .ok (.lload_n 2, 1) := by decide +kernel
theorem dX8_wholeOf_78 : decode cX8_wholeOf 78 = .ok (.lreturn, 1) := by decide +kernel
theorem dX8_nextOf_0 : decode cX8_nextOf 0 = .ok (.aload_n 0, 1) := by decide +kernel
theorem dX8_nextOf_1 : decode cX8_nextOf 1 = .ok (.iload_n 1, 1) := by decide +kernel
theorem dX8_nextOf_2 : decode cX8_nextOf 2 = .ok (.iload_n 2, 1) := by decide +kernel
theorem dX8_nextOf_3 : decode cX8_nextOf 3 = .ok (.invokevirtual 137, 3) := by decide +kernel
theorem dX8_nextOf_6 : decode cX8_nextOf 6 = .ok (.iconst 0, 1) := by decide +kernel
theorem dX8_nextOf_7 : decode cX8_nextOf 7 = .ok (.istore_n 3, 1) := by decide +kernel
theorem dX8_nextOf_8 : decode cX8_nextOf 8 = .ok (.aload_n 0, 1) := by decide +kernel
theorem dX8_nextOf_9 : decode cX8_nextOf 9 = .ok (.iload_n 1, 1) := by decide +kernel
theorem dX8_nextOf_10 : decode cX8_nextOf 10 = .ok (.bipush 54, 2) := by decide +kernel
theorem dX8_nextOf_12 : decode cX8_nextOf 12 = .ok (.invokevirtual 74, 3) := by decide +kernel
theorem dX8_nextOf_15 : decode cX8_nextOf 15 = .ok (.ifCond .lt 16, 3) := by decide +kernel
theorem dX8_nextOf_18 : decode cX8_nextOf 18 = .ok (.aload_n 0, 1) := by decide +kernel
theorem dX8_nextOf_19 : decode cX8_nextOf 19 = .ok (.iload_n 1, 1) := by decide +kernel
theorem dX8_nextOf_20 : decode cX8_nextOf 20 = .ok (.bipush 54, 2) := by decide +kernel
theorem dX8_nextOf_22 : decode cX8_nextOf 22 = .ok (.invokevirtual 78, 3) := by decide +kernel
theorem dX8_nextOf_25 : decode cX8_nextOf 25 = .ok (.iinc 3 1, 3) := by decide +kernel
theorem dX8_nextOf_28 : decode cX8_nextOf 28 = .ok (.goto (-20), 3) := by decide +kernel
theorem dX8_nextOf_31 : decode cX8_nextOf 31 = .ok (.iload_n 3, 1) := by decide +kernel
theorem dX8_nextOf_32 : decode cX8_nextOf 32 = .ok (.ireturn, 1) := by decide +kernel
theorem dX8_look_0 : decode cX8_look 0 = .ok (.aload_n 0, 1) := by decide +kernel
theorem dX8_look_1 : decode cX8_look 1 = .ok (.iconst 0, 1) := by decide +kernel
theorem dX8_look_2 : decode cX8_look 2 = .ok (.putfield 185, 3) := by decide +kernel
theorem dX8_look_5 : decode cX8_look 5 = .ok (.aload_n 0, 1) := by decide +kernel
theorem dX8_look_6 : decode cX8_look 6 = .ok (.lconst 0, 1) := by decide +kernel
theorem dX8_look_7 : decode cX8_look 7 = .ok (.putfield 188, 3) := by decide +kernel
theorem dX8_look_10 : decode cX8_look 10 = .ok (.aload_n 0, 1) := by decide +kernel
theorem dX8_look_11 : decode cX8_look 11 = .ok (.bipush (-6), 2) := by decide +kernel
theorem dX8_look_13 : decode cX8_look 13 = .ok (.putfield 192, 3) := by decide +kernel
theorem dX8_look_16 : decode cX8_look 16 = .ok (.aload_n 0, 1) := by decide +kernel
theorem dX8_look_17 : decode cX8_look 17 = .ok (.getfield 39, 3) := by decide +kernel
theorem dX8_look_20 : decode cX8_look 20 = .ok (.iload_n 1, 1) := by decide +kernel
theorem dX8_look_21 : decode cX8_look 21 = .ok (.iaload, 1) := by decide +kernel
theorem dX8_look_22 : decode cX8_look 22 = .ok (.ifCond .ne 4, 3) := by decide +kernel
theorem dX8_look_25 : decode cX8_look 25 = .ok (.return_, 1) := by decide +kernel
theorem dX8_look_26 : decode cX8_look 26 = .ok (.aload_n 0, 1) := by decide +kernel
theorem dX8_look_27 : decode cX8_look 27 = .ok (.iload_n 1, 1) := by decide +kernel
theorem dX8_look_28 : decode cX8_look 28 = .ok (.iload 4, 2) := by decide +kernel
theorem dX8_look_30 : decode cX8_look 30 = .ok (.invokevirtual 195, 3) := by decide +kernel
theorem dX8_look_33 : decode cX8_look 33 = .ok (.aload_n 0, 1) := by decide +kernel
theorem dX8_look_34 : decode cX8_look 34 = .ok (.getfield 14, 3) := by decide +kernel
theorem dX8_look_37 : decode cX8_look 37 = .ok (.bipush 52, 2) := by decide +kernel
theorem dX8_look_39 : decode cX8_look 39 = .ok (.iaload, 1) := by decide +kernel
theorem dX8_look_40 : decode cX8_look 40 = .ok (.ifCond .le 17, 3) := by decide +kernel
theorem dX8_look_43 : decode cX8_look 43 = .ok (.aload_n 0, 1) := by decide +kernel
theorem dX8_look_44 : decode cX8_look 44 = .ok (.getfield 17, 3) := by decide +kernel
theorem dX8_look_47 : decode cX8_look 47 = .ok (.bipush 52, 2) := by decide +kernel
theorem dX8_look_49 : decode cX8_look 49 = .ok (.baload, 1) := by decide +kernel
theorem dX8_look_50 : decode cX8_look 50 = .ok (.ifCond .ne 7, 3) := by decide +kernel
theorem dX8_look_53 : decode cX8_look 53 = .ok (.iconst 1, 1) := by decide +kernel
theorem dX8_look_54 : decode cX8_look 54 = .ok (.goto 4, 3) := by decide +kernel
theorem dX8_look_57 : decode cX8_look 57 = .ok (.iconst 0, 1) := by decide +kernel
theorem dX8_look_58 : decode cX8_look 58 = .ok (.istore 5, 2) := by decide +kernel
theorem dX8_look_60 : decode cX8_look 60 = .ok (.aload_n 0, 1) := by decide +kernel
theorem dX8_look_61 : decode cX8_look 61 = .ok (.getfield 14, 3) := by decide +kernel
theorem dX8_look_64 : decode cX8_look 64 = .ok (.bipush 53, 2) := by decide +kernel
theorem dX8_look_66 : decode cX8_look 66 = .ok (.iaload, 1) := by decide +kernel
theorem dX8_look_67 : decode cX8_look 67 = .ok (.ifCond .le 17, 3) := by decide +kernel
theorem dX8_look_70 : decode cX8_look 70 = .ok (.aload_n 0, 1) := by decide +kernel
theorem dX8_look_71 : decode cX8_look 71 = .ok (.getfield 17, 3) := by decide +kernel
theorem dX8_look_74 : decode cX8_look 74 = .ok (.bipush 53, 2) := by decide +kernel
theorem dX8_look_76 : decode cX8_look 76 = .ok (.baload, 1) := by decide +kernel
theorem dX8_look_77 : decode cX8_look 77 = .ok (.ifCond .eq 7, 3) := by decide +kernel
theorem dX8_look_80 : decode cX8_look 80 = .ok (.iconst 1, 1) := by decide +kernel
theorem dX8_look_81 : decode cX8_look 81 = .ok (.goto 4, 3) := by decide +kernel
theorem dX8_look_84 : decode cX8_look 84 = .ok (.iconst 0, 1) := by decide +kernel
theorem dX8_look_85 : decode cX8_look 85 = .ok (.istore 6, 2) := by decide +kernel
theorem dX8_look_87 : decode cX8_look 87 = .ok (.iload 5, 2) := by decide +kernel
theorem dX8_look_89 : decode cX8_look 89 = .ok (.ifCond .ne 9, 3) := by decide +kernel
theorem dX8_look_92 : decode cX8_look 92 = .ok (.iload 6, 2) := by decide +kernel
theorem dX8_look_94 : decode cX8_look 94 = .ok (.ifCond .ne 4, 3) := by decide +kernel
theorem dX8_look_97 : decode cX8_look 97 = .ok (.return_, 1) := by decide +kernel
theorem dX8_look_98 : decode cX8_look 98 = .ok (.aload_n 0, 1) := by decide +kernel
theorem dX8_look_99 : decode cX8_look 99 = .ok (.iload 5, 2) := by decide +kernel
theorem dX8_look_101 : decode cX8_look 101 = .ok (.ifCond .eq 7, 3) := by decide +kernel
theorem dX8_look_104 : decode cX8_look 104 = .ok (.iconst 1, 1) := by decide +kernel
theorem dX8_look_105 : decode cX8_look 105 = .ok (.goto 4, 3) := by decide +kernel
theorem dX8_look_108 : decode cX8_look 108 = .ok (.iconst (-1), 1) := by decide +kernel
theorem dX8_look_109 : decode cX8_look 109 = .ok (.putfield 185, 3) := by decide +kernel
theorem dX8_look_112 : decode cX8_look 112 = .ok (.aload_n 0, 1) := by decide +kernel
theorem dX8_look_113 : decode cX8_look 113 = .ok (.getfield 17, 3) := by decide +kernel
theorem dX8_look_116 : decode cX8_look 116 = .ok (.bipush 52, 2) := by decide +kernel
theorem dX8_look_118 : decode cX8_look 118 = .ok (.iconst 0, 1) := by decide +kernel
theorem dX8_look_119 : decode cX8_look 119 = .ok (.bastore, 1) := by decide +kernel
theorem dX8_look_120 : decode cX8_look 120 = .ok (.aload_n 0, 1) := by decide +kernel
theorem dX8_look_121 : decode cX8_look 121 = .ok (.getfield 17, 3) := by decide +kernel
theorem dX8_look_124 : decode cX8_look 124 = .ok (.bipush 53, 2) := by decide +kernel
theorem dX8_look_126 : decode cX8_look 126 = .ok (.iconst 0, 1) := by decide +kernel
theorem dX8_look_127 : decode cX8_look 127 = .ok (.bastore, 1) := by decide +kernel
theorem dX8_look_128 : decode cX8_look 128 = .ok (.aload_n 0, 1) := by decide +kernel
theorem dX8_look_129 : decode cX8_look 129 = .ok (.bipush 52, 2) := by decide +kernel
theorem dX8_look_131 : decode cX8_look 131 = .ok (.invokevirtual 198, 3) := by decide +kernel
theorem dX8_look_134 : decode cX8_look 134 = .ok (.lstore 7, 2) := by decide +kernel
theorem dX8_look_136 : decode cX8_look 136 = .ok (.aload_n 0, 1) := by decide +kernel
theorem dX8_look_137 : decode cX8_look 137 = .ok (.bipush 53, 2) := by decide +kernel
theorem dX8_look_139 : decode cX8_look 139 = .ok (.invokevirtual 198, 3) := by decide +kernel
theorem dX8_look_142 : decode cX8_look 142 = .ok (.lstore 9, 2) := by decide +kernel
theorem dX8_look_144 : decode cX8_look 144 = .ok (.lload 7, 2) := by decide +kernel
theorem dX8_look_146 : decode cX8_look 146 = .ok (.lload 9, 2) := by decide +kernel
theorem dX8_look_148 : decode cX8_look 148 = .ok (.lcmp, 1) := by decide +kernel
theorem dX8_look_149 : decode cX8_look 149 = .ok (.ifCond .ne 12, 3) := by decide +kernel
theorem dX8_look_152 : decode cX8_look 152 = .ok (.lload 7, 2) := by decide +kernel
theorem dX8_look_154 : decode cX8_look 154 = .ok (.ldc2_w 180, 3) := by decide +kernel
theorem dX8_look_157 : decode cX8_look 157 = .ok (.lcmp, 1) := by decide +kernel
theorem dX8_look_158 : decode cX8_look 158 = .ok (.ifCond .ne 4, 3) := by decide +kernel
theorem dX8_look_161 : decode cX8_look 161 = .ok (.return_, 1) := by decide +kernel
theorem dX8_look_162 : decode cX8_look 162 = .ok (.aload_n 0, 1) := by decide +kernel
theorem dX8_look_163 : decode cX8_look 163 = .ok (.lload 7, 2) := by decide +kernel
theorem dX8_look_165 : decode cX8_look 165 = .ok (.putfield 188, 3) := by decide +kernel
theorem dX8_look_168 : decode cX8_look 168 = .ok (.aload_n 0, 1) := by decide +kernel
theorem dX8_look_169 : decode cX8_look 169 = .ok (.iconst 0, 1) := by decide +kernel
theorem dX8_look_170 : decode cX8_look 170 = .ok (.putfield 192, 3) := by decide +kernel
theorem dX8_look_173 : decode cX8_look 173 = .ok (.iconst 1, 1) := by decide +kernel
theorem dX8_look_174 : decode cX8_look 174 = .ok (.istore 11, 2) := by decide +kernel
theorem dX8_look_176 : decode cX8_look 176 = .ok (.iload 11, 2) := by decide +kernel
theorem dX8_look_178 : decode cX8_look 178 = .ok (.ifCond .eq 68, 3) := by decide +kernel
theorem dX8_look_181 : decode cX8_look 181 = .ok (.aload_n 0, 1) := by decide +kernel
theorem dX8_look_182 : decode cX8_look 182 = .ok (.getfield 192, 3) := by decide +kernel
theorem dX8_look_185 : decode cX8_look 185 = .ok (.iload_n 3, 1) := by decide +kernel
theorem dX8_look_186 : decode cX8_look 186 = .ok (.if_icmp .ge 60, 3) := by decide +kernel
theorem dX8_look_189 : decode cX8_look 189 = .ok (.aload_n 0, 1) := by decide +kernel
theorem dX8_look_190 : decode cX8_look 190 = .ok (.bipush 52, 2) := by decide +kernel
theorem dX8_look_192 : decode cX8_look 192 = .ok (.iload_n 2, 1) := by decide +kernel
theorem dX8_look_193 : decode cX8_look 193 = .ok (.invokevirtual 202, 3) := by decide +kernel
theorem dX8_look_196 : decode cX8_look 196 = .ok (.istore 12, 2) := by decide +kernel
theorem dX8_look_198 : decode cX8_look 198 = .ok (.iload 12, 2) := by decide +kernel
theorem dX8_look_200 : decode cX8_look 200 = .ok (.aload_n 0, 1) := by decide +kernel
theorem dX8_look_201 : decode cX8_look 201 = .ok (.bipush 53, 2) := by decide +kernel
theorem dX8_look_203 : decode cX8_look 203 = .ok (.iload_n 2, 1) := by decide +kernel
theorem dX8_look_204 : decode cX8_look 204 = .ok (.invokevirtual 202, 3) := by decide +kernel
theorem dX8_look_207 : decode cX8_look 207 = .ok (.if_icmp .ne 7, 3) := by decide +kernel
theorem dX8_look_210 : decode cX8_look 210 = .ok (.iconst 1, 1) := by decide +kernel
theorem dX8_look_211 : decode cX8_look 211 = .ok (.goto 4, 3) := by decide +kernel
theorem dX8_look_214 : decode cX8_look 214 = .ok (.iconst 0, 1) := by decide +kernel
theorem dX8_look_215 : decode cX8_look 215 = .ok (.istore 11, 2) := by decide +kernel
theorem dX8_look_217 : decode cX8_look 217 = .ok (.iload 11, 2) := by decide +kernel
theorem dX8_look_219 : decode cX8_look 219 = .ok (.ifCond .eq 24, 3) := by decide +kernel
theorem dX8_look_222 : decode cX8_look 222 = .ok (.aload_n 0, 1) := by decide +kernel
theorem dX8_look_223 : decode cX8_look 223 = .ok (.getfield 51, 3) := by decide +kernel
theorem dX8_look_226 : decode cX8_look 226 = .ok (.aload_n 0, 1) := by decide +kernel
theorem dX8_look_227 : decode cX8_look 227 = .ok (.getfield 192, 3) := by decide +kernel
theorem dX8_look_230 : decode cX8_look 230 = .ok (.iload 12, 2) := by decide +kernel
theorem dX8_look_232 : decode cX8_look 232 = .ok (.iastore, 1) := by decide +kernel
theorem dX8_look_233 : decode cX8_look 233 = .ok (.aload_n 0, 1) := by decide +kernel
theorem dX8_look_234 : decode cX8_look 234 = .ok (.dup, 1) := by decide +kernel
theorem dX8_look_235 : decode cX8_look 235 = .ok (.getfield 192, 3) := by decide +kernel
theorem dX8_look_238 : decode cX8_look 238 = .ok (.iconst 1, 1) := by decide +kernel
theorem dX8_look_239 : decode cX8_look 239 = .ok (.iadd, 1) := by decide +kernel
theorem dX8_look_240 : decode cX8_look 240 = .ok (.putfield 192, 3) := by decide +kernel
theorem dX8_look_243 : decode cX8_look 243 = .ok (.goto (-67), 3) := by decide +kernel
theorem dX8_look_246 : decode cX8_look 246 = .ok (.return_, 1) := by decide +kernel
theorem dX8_fallOf_0 : decode cX8_fallOf 0 = .ok (.iconst 0, 1) := by decide +kernel
theorem dX8_fallOf_1 : decode cX8_fallOf 1 = .ok (.istore_n 3, 1) := by decide +kernel
theorem dX8_fallOf_2 : decode cX8_fallOf 2 = .ok (.iload_n 3, 1) := by decide +kernel
theorem dX8_fallOf_3 : decode cX8_fallOf 3 = .ok (.aload_n 0, 1) := by decide +kernel
theorem dX8_fallOf_4 : decode cX8_fallOf 4 = .ok (.getfield 39, 3) := by decide +kernel
theorem dX8_fallOf_7 : decode cX8_fallOf 7 = .ok (.iload_n 1, 1) := by decide +kernel
theorem dX8_fallOf_8 : decode cX8_fallOf 8 = .ok (.iaload, 1) := by decide +kernel
theorem dX8_fallOf_9 : decode cX8_fallOf 9 = .ok (.if_icmp .ge 41, 3) := by decide +kernel
theorem dX8_fallOf_12 : decode cX8_fallOf 12 = .ok (.aload_n 0, 1) := by decide +kernel
theorem dX8_fallOf_13 : decode cX8_fallOf 13 = .ok (.aload_n 0, 1) := by decide +kernel
theorem dX8_fallOf_14 : decode cX8_fallOf 14 = .ok (.getfield 42, 3) := by decide +kernel
theorem dX8_fallOf_17 : decode cX8_fallOf 17 = .ok (.iconst 4, 1) := by decide +kernel
theorem dX8_fallOf_18 : decode cX8_fallOf 18 = .ok (.iload_n 1, 1) := by decide +kernel
theorem dX8_fallOf_19 : decode cX8_fallOf 19 = .ok (.imul, 1) := by decide +kernel
theorem dX8_fallOf_20 : decode cX8_fallOf 20 = .ok (.iload_n 3, 1) := by decide +kernel
theorem dX8_fallOf_21 : decode cX8_fallOf 21 = .ok (.iadd, 1) := by decide +kernel
theorem dX8_fallOf_22 : decode cX8_fallOf 22 = .ok (.iaload, 1) := by decide +kernel
theorem dX8_fallOf_23 : decode cX8_fallOf 23 = .ok (.iconst 0, 1) := by decide +kernel
theorem dX8_fallOf_24 : decode cX8_fallOf 24 = .ok (.iload_n 2, 1) := by decide +kernel
theorem dX8_fallOf_25 : decode cX8_fallOf 25 = .ok (.iconst 0, 1) := by decide +kernel
theorem dX8_fallOf_26 : decode cX8_fallOf 26 = .ok (.invokevirtual 129, 3) := by decide +kernel
theorem dX8_fallOf_29 : decode cX8_fallOf 29 = .ok (.istore 4, 2) := by decide +kernel
theorem dX8_fallOf_31 : decode cX8_fallOf 31 = .ok (.iload 4, 2) := by decide +kernel
theorem dX8_fallOf_33 : decode cX8_fallOf 33 = .ok (.bipush (-6), 2) := by decide +kernel
theorem dX8_fallOf_35 : decode cX8_fallOf 35 = .ok (.if_icmp .eq 9, 3) := by decide +kernel
theorem dX8_fallOf_38 : decode cX8_fallOf 38 = .ok (.bipush (-100), 2) := by decide +kernel
theorem dX8_fallOf_40 : decode cX8_fallOf 40 = .ok (.iload 4, 2) := by decide +kernel
theorem dX8_fallOf_42 : decode cX8_fallOf 42 = .ok (.isub, 1) := by decide +kernel
theorem dX8_fallOf_43 : decode cX8_fallOf 43 = .ok (.ireturn, 1) := by decide +kernel
theorem dX8_fallOf_44 : decode cX8_fallOf 44 = .ok (.iinc 3 1, 3) := by decide +kernel
theorem dX8_fallOf_47 : decode cX8_fallOf 47 = .ok (.goto (-45), 3) := by decide +kernel
theorem dX8_fallOf_50 : decode cX8_fallOf 50 = .ok (.iconst 0, 1) := by decide +kernel
theorem dX8_fallOf_51 : decode cX8_fallOf 51 = .ok (.ireturn, 1) := by decide +kernel
theorem dX8_build_0 : decode cX8_build 0 = .ok (.aload_n 0, 1) := by decide +kernel
theorem dX8_build_1 : decode cX8_build 1 = .ok (.iload_n 1, 1) := by decide +kernel
theorem dX8_build_2 : decode cX8_build 2 = .ok (.invokevirtual 205, 3) := by decide +kernel
theorem dX8_build_5 : decode cX8_build 5 = .ok (.iconst 0, 1) := by decide +kernel
theorem dX8_build_6 : decode cX8_build 6 = .ok (.istore_n 3, 1) := by decide +kernel
theorem dX8_build_7 : decode cX8_build 7 = .ok (.iload_n 3, 1) := by decide +kernel
theorem dX8_build_8 : decode cX8_build 8 = .ok (.iload_n 2, 1) := by decide +kernel
theorem dX8_build_9 : decode cX8_build 9 = .ok (.if_icmp .ge 15, 3) := by decide +kernel
theorem dX8_build_12 : decode cX8_build 12 = .ok (.aload_n 0, 1) := by decide +kernel
theorem dX8_build_13 : decode cX8_build 13 = .ok (.iload_n 1, 1) := by decide +kernel
theorem dX8_build_14 : decode cX8_build 14 = .ok (.iload_n 3, 1) := by decide +kernel
theorem dX8_build_15 : decode cX8_build 15 = .ok (.invokevirtual 208, 3) := by decide +kernel
theorem dX8_build_18 : decode cX8_build 18 = .ok (.iinc 3 1, 3) := by decide +kernel
theorem dX8_build_21 : decode cX8_build 21 = .ok (.goto (-14), 3) := by decide +kernel
theorem dX8_build_24 : decode cX8_build 24 = .ok (.return_, 1) := by decide +kernel
theorem dX8_fits_0 : decode cX8_fits 0 = .ok (.iload_n 0, 1) := by decide +kernel
theorem dX8_fits_1 : decode cX8_fits 1 = .ok (.i2l, 1) := by decide +kernel
theorem dX8_fits_2 : decode cX8_fits 2 = .ok (.ldc2_w 159, 3) := by decide +kernel
theorem dX8_fits_5 : decode cX8_fits 5 = .ok (.ldc2_w 211, 3) := by decide +kernel
theorem dX8_fits_8 : decode cX8_fits 8 = .ok (.invokestatic 86, 3) := by decide +kernel
theorem dX8_fits_11 : decode cX8_fits 11 = .ok (.ifCond .eq 19, 3) := by decide +kernel
theorem dX8_fits_14 : decode cX8_fits 14 = .ok (.iload_n 1, 1) := by decide +kernel
theorem dX8_fits_15 : decode cX8_fits 15 = .ok (.i2l, 1) := by decide +kernel
theorem dX8_fits_16 : decode cX8_fits 16 = .ok (.lconst 0, 1) := by decide +kernel
theorem dX8_fits_17 : decode cX8_fits 17 = .ok (.ldc2_w 127, 3) := by decide +kernel
theorem dX8_fits_20 : decode cX8_fits 20 = .ok (.invokestatic 86, 3) := by decide +kernel
theorem dX8_fits_23 : decode cX8_fits 23 = .ok (.ifCond .eq 7, 3) := by decide +kernel
theorem dX8_fits_26 : decode cX8_fits 26 = .ok (.iconst 1, 1) := by decide +kernel
theorem dX8_fits_27 : decode cX8_fits 27 = .ok (.goto 4, 3) := by decide +kernel
theorem dX8_fits_30 : decode cX8_fits 30 = .ok (.iconst 0, 1) := by decide +kernel
theorem dX8_fits_31 : decode cX8_fits 31 = .ok (.ireturn, 1) := by decide +kernel
theorem dX8_figures_0 : decode cX8_figures 0 = .ok (.iload_n 1, 1) := by decide +kernel
theorem dX8_figures_1 : decode cX8_figures 1 = .ok (.invokestatic 168, 3) := by decide +kernel
theorem dX8_figures_4 : decode cX8_figures 4 = .ok (.ifCond .ne 5, 3) := by decide +kernel
theorem dX8_figures_7 : decode cX8_figures 7 = .ok (.iconst (-1), 1) := by decide +kernel
theorem dX8_figures_8 : decode cX8_figures 8 = .ok (.ireturn, 1) := by decide +kernel
theorem dX8_figures_9 : decode cX8_figures 9 = .ok (.iload_n 2, 1) := by decide +kernel
theorem dX8_figures_10 : decode cX8_figures 10 = .ok (.iload_n 3, 1) := by decide +kernel
theorem dX8_figures_11 : decode cX8_figures 11 = .ok (.invokestatic 213, 3) := by decide +kernel
theorem dX8_figures_14 : decode cX8_figures 14 = .ok (.ifCond .eq 16, 3) := by decide +kernel
theorem dX8_figures_17 : decode cX8_figures 17 = .ok (.iload 4, 2) := by decide +kernel
theorem dX8_figures_19 : decode cX8_figures 19 = .ok (.i2l, 1) := by decide +kernel
theorem dX8_figures_20 : decode cX8_figures 20 = .ok (.lconst 1, 1) := by decide +kernel
theorem dX8_figures_21 : decode cX8_figures 21 = .ok (.ldc2_w 127, 3) := by decide +kernel
theorem dX8_figures_24 : decode cX8_figures 24 = .ok (.invokestatic 86, 3) := by decide +kernel
theorem dX8_figures_27 : decode cX8_figures 27 = .ok (.ifCond .ne 6, 3) := by decide +kernel
theorem dX8_figures_30 : decode cX8_figures 30 = .ok (.bipush (-2), 2) := by decide +kernel
theorem dX8_figures_32 : decode cX8_figures 32 = .ok (.ireturn, 1) := by decide +kernel
theorem dX8_figures_33 : decode cX8_figures 33 = .ok (.aload_n 0, 1) := by decide +kernel
theorem dX8_figures_34 : decode cX8_figures 34 = .ok (.iload_n 1, 1) := by decide +kernel
theorem dX8_figures_35 : decode cX8_figures 35 = .ok (.iload 4, 2) := by decide +kernel
theorem dX8_figures_37 : decode cX8_figures 37 = .ok (.invokevirtual 216, 3) := by decide +kernel
theorem dX8_figures_40 : decode cX8_figures 40 = .ok (.istore 5, 2) := by decide +kernel
theorem dX8_figures_42 : decode cX8_figures 42 = .ok (.iload 5, 2) := by decide +kernel
theorem dX8_figures_44 : decode cX8_figures 44 = .ok (.ifCond .ge 6, 3) := by decide +kernel
theorem dX8_figures_47 : decode cX8_figures 47 = .ok (.iload 5, 2) := by decide +kernel
theorem dX8_figures_49 : decode cX8_figures 49 = .ok (.ireturn, 1) := by decide +kernel
theorem dX8_figures_50 : decode cX8_figures 50 = .ok (.aload_n 0, 1) := by decide +kernel
theorem dX8_figures_51 : decode cX8_figures 51 = .ok (.iload_n 1, 1) := by decide +kernel
theorem dX8_figures_52 : decode cX8_figures 52 = .ok (.iload 4, 2) := by decide +kernel
theorem dX8_figures_54 : decode cX8_figures 54 = .ok (.invokevirtual 219, 3) := by decide +kernel
theorem dX8_figures_57 : decode cX8_figures 57 = .ok (.aload_n 0, 1) := by decide +kernel
theorem dX8_figures_58 : decode cX8_figures 58 = .ok (.iload_n 1, 1) := by decide +kernel
theorem dX8_figures_59 : decode cX8_figures 59 = .ok (.iload_n 2, 1) := by decide +kernel
theorem dX8_figures_60 : decode cX8_figures 60 = .ok (.iload_n 3, 1) := by decide +kernel
theorem dX8_figures_61 : decode cX8_figures 61 = .ok (.iload 4, 2) := by decide +kernel
theorem dX8_figures_63 : decode cX8_figures 63 = .ok (.invokevirtual 222, 3) := by decide +kernel
theorem dX8_figures_66 : decode cX8_figures 66 = .ok (.aload_n 0, 1) := by decide +kernel
theorem dX8_figures_67 : decode cX8_figures 67 = .ok (.iload_n 1, 1) := by decide +kernel
theorem dX8_figures_68 : decode cX8_figures 68 = .ok (.putfield 60, 3) := by decide +kernel
theorem dX8_figures_71 : decode cX8_figures 71 = .ok (.aload_n 0, 1) := by decide +kernel
theorem dX8_figures_72 : decode cX8_figures 72 = .ok (.iload_n 2, 1) := by decide +kernel
theorem dX8_figures_73 : decode cX8_figures 73 = .ok (.putfield 226, 3) := by decide +kernel
theorem dX8_figures_76 : decode cX8_figures 76 = .ok (.aload_n 0, 1) := by decide +kernel
theorem dX8_figures_77 : decode cX8_figures 77 = .ok (.iload_n 3, 1) := by decide +kernel
theorem dX8_figures_78 : decode cX8_figures 78 = .ok (.putfield 229, 3) := by decide +kernel
theorem dX8_figures_81 : decode cX8_figures 81 = .ok (.aload_n 0, 1) := by decide +kernel
theorem dX8_figures_82 : decode cX8_figures 82 = .ok (.iload 4, 2) := by decide +kernel
theorem dX8_figures_84 : decode cX8_figures 84 = .ok (.putfield 232, 3) := by decide +kernel
theorem dX8_figures_87 : decode cX8_figures 87 = .ok (.aload_n 0, 1) := by decide +kernel
theorem dX8_figures_88 : decode cX8_figures 88 = .ok (.aload_n 0, 1) := by decide +kernel
theorem dX8_figures_89 : decode cX8_figures 89 = .ok (.getfield 185, 3) := by decide +kernel
theorem dX8_figures_92 : decode cX8_figures 92 = .ok (.putfield 235, 3) := by decide +kernel
theorem dX8_figures_95 : decode cX8_figures 95 = .ok (.aload_n 0, 1) := by decide +kernel
theorem dX8_figures_96 : decode cX8_figures 96 = .ok (.aload_n 0, 1) := by decide +kernel
theorem dX8_figures_97 : decode cX8_figures 97 = .ok (.getfield 188, 3) := by decide +kernel
theorem dX8_figures_100 : decode cX8_figures 100 = .ok (.putfield 238, 3) := by decide +kernel
theorem dX8_figures_103 : decode cX8_figures 103 = .ok (.aload_n 0, 1) := by decide +kernel
theorem dX8_figures_104 : decode cX8_figures 104 = .ok (.aload_n 0, 1) := by decide +kernel
theorem dX8_figures_105 : decode cX8_figures 105 = .ok (.getfield 192, 3) := by decide +kernel
theorem dX8_figures_108 : decode cX8_figures 108 = .ok (.putfield 241, 3) := by decide +kernel
theorem dX8_figures_111 : decode cX8_figures 111 = .ok (.iconst 0, 1) := by decide +kernel
theorem dX8_figures_112 : decode cX8_figures 112 = .ok (.istore 6, 2) := by decide +kernel
theorem dX8_figures_114 : decode cX8_figures 114 = .ok (.iload 6, 2) := by decide +kernel
theorem dX8_figures_116 : decode cX8_figures 116 = .ok (.aload_n 0, 1) := by decide +kernel
theorem dX8_figures_117 : decode cX8_figures 117 = .ok (.getfield 192, 3) := by decide +kernel
theorem dX8_figures_120 : decode cX8_figures 120 = .ok (.if_icmp .ge 23, 3) := by decide +kernel
theorem dX8_figures_123 : decode cX8_figures 123 = .ok (.aload_n 0, 1) := by decide +kernel
theorem dX8_figures_124 : decode cX8_figures 124 = .ok (.getfield 54, 3) := by decide +kernel
theorem dX8_figures_127 : decode cX8_figures 127 = .ok (.iload 6, 2) := by decide +kernel
theorem dX8_figures_129 : decode cX8_figures 129 = .ok (.aload_n 0, 1) := by decide +kernel
theorem dX8_figures_130 : decode cX8_figures 130 = .ok (.getfield 51, 3) := by decide +kernel
theorem dX8_figures_133 : decode cX8_figures 133 = .ok (.iload 6, 2) := by decide +kernel
theorem dX8_figures_135 : decode cX8_figures 135 = .ok (.iaload, 1) := by decide +kernel
theorem dX8_figures_136 : decode cX8_figures 136 = .ok (.iastore, 1) := by decide +kernel
theorem dX8_figures_137 : decode cX8_figures 137 = .ok (.iinc 6 1, 3) := by decide +kernel
theorem dX8_figures_140 : decode cX8_figures 140 = .ok (.goto (-26), 3) := by decide +kernel
theorem dX8_figures_143 : decode cX8_figures 143 = .ok (.aload_n 0, 1) := by decide +kernel
theorem dX8_figures_144 : decode cX8_figures 144 = .ok (.getfield 192, 3) := by decide +kernel
theorem dX8_figures_147 : decode cX8_figures 147 = .ok (.ireturn, 1) := by decide +kernel
theorem dX8_need_0 : decode cX8_need 0 = .ok (.iload_n 1, 1) := by decide +kernel
theorem dX8_need_1 : decode cX8_need 1 = .ok (.invokestatic 168, 3) := by decide +kernel
theorem dX8_need_4 : decode cX8_need 4 = .ok (.ifCond .ne 5, 3) := by decide +kernel
theorem dX8_need_7 : decode cX8_need 7 = .ok (.iconst (-1), 1) := by decide +kernel
theorem dX8_need_8 : decode cX8_need 8 = .ok (.ireturn, 1) := by decide +kernel
theorem dX8_need_9 : decode cX8_need 9 = .ok (.iload_n 2, 1) := by decide +kernel
theorem dX8_need_10 : decode cX8_need 10 = .ok (.iload_n 3, 1) := by decide +kernel
theorem dX8_need_11 : decode cX8_need 11 = .ok (.invokestatic 213, 3) := by decide +kernel
theorem dX8_need_14 : decode cX8_need 14 = .ok (.ifCond .ne 6, 3) := by decide +kernel
theorem dX8_need_17 : decode cX8_need 17 = .ok (.bipush (-2), 2) := by decide +kernel
theorem dX8_need_19 : decode cX8_need 19 = .ok (.ireturn, 1) := by decide +kernel
theorem dX8_need_20 : decode cX8_need 20 = .ok (.aload_n 0, 1) := by decide +kernel
theorem dX8_need_21 : decode cX8_need 21 = .ok (.iload_n 1, 1) := by decide +kernel
theorem dX8_need_22 : decode cX8_need 22 = .ok (.invokevirtual 205, 3) := by decide +kernel
theorem dX8_need_25 : decode cX8_need 25 = .ok (.iconst 1, 1) := by decide +kernel
theorem dX8_need_26 : decode cX8_need 26 = .ok (.istore 4, 2) := by decide +kernel
theorem dX8_need_28 : decode cX8_need 28 = .ok (.iload 4, 2) := by decide +kernel
theorem dX8_need_30 : decode cX8_need 30 = .ok (.bipush 100, 2) := by decide +kernel
theorem dX8_need_32 : decode cX8_need 32 = .ok (.if_icmp .gt 51, 3) := by decide +kernel
theorem dX8_need_35 : decode cX8_need 35 = .ok (.aload_n 0, 1) := by decide +kernel
theorem dX8_need_36 : decode cX8_need 36 = .ok (.iload_n 1, 1) := by decide +kernel
theorem dX8_need_37 : decode cX8_need 37 = .ok (.iload 4, 2) := by decide +kernel
theorem dX8_need_39 : decode cX8_need 39 = .ok (.invokevirtual 216, 3) := by decide +kernel
theorem dX8_need_42 : decode cX8_need 42 = .ok (.ifCond .ge 6, 3) := by decide +kernel
theorem dX8_need_45 : decode cX8_need 45 = .ok (.bipush (-5), 2) := by decide +kernel
theorem dX8_need_47 : decode cX8_need 47 = .ok (.ireturn, 1) := by decide +kernel
theorem dX8_need_48 : decode cX8_need 48 = .ok (.aload_n 0, 1) := by decide +kernel
theorem dX8_need_49 : decode cX8_need 49 = .ok (.iload_n 1, 1) := by decide +kernel
theorem dX8_need_50 : decode cX8_need 50 = .ok (.iload 4, 2) := by decide +kernel
theorem dX8_need_52 : decode cX8_need 52 = .ok (.iconst 1, 1) := by decide +kernel
theorem dX8_need_53 : decode cX8_need 53 = .ok (.isub, 1) := by decide +kernel
theorem dX8_need_54 : decode cX8_need 54 = .ok (.invokevirtual 208, 3) := by decide +kernel
theorem dX8_need_57 : decode cX8_need 57 = .ok (.aload_n 0, 1) := by decide +kernel
theorem dX8_need_58 : decode cX8_need 58 = .ok (.iload_n 1, 1) := by decide +kernel
theorem dX8_need_59 : decode cX8_need 59 = .ok (.iload_n 2, 1) := by decide +kernel
theorem dX8_need_60 : decode cX8_need 60 = .ok (.iload_n 3, 1) := by decide +kernel
theorem dX8_need_61 : decode cX8_need 61 = .ok (.iload 4, 2) := by decide +kernel
theorem dX8_need_63 : decode cX8_need 63 = .ok (.invokevirtual 222, 3) := by decide +kernel
theorem dX8_need_66 : decode cX8_need 66 = .ok (.aload_n 0, 1) := by decide +kernel
theorem dX8_need_67 : decode cX8_need 67 = .ok (.getfield 192, 3) := by decide +kernel
theorem dX8_need_70 : decode cX8_need 70 = .ok (.iload_n 3, 1) := by decide +kernel
theorem dX8_need_71 : decode cX8_need 71 = .ok (.if_icmp .lt 6, 3) := by decide +kernel
theorem dX8_need_74 : decode cX8_need 74 = .ok (.iload 4, 2) := by decide +kernel
theorem dX8_need_76 : decode cX8_need 76 = .ok (.ireturn, 1) := by decide +kernel
theorem dX8_need_77 : decode cX8_need 77 = .ok (.iinc 4 1, 3) := by decide +kernel
theorem dX8_need_80 : decode cX8_need 80 = .ok (.goto (-52), 3) := by decide +kernel
theorem dX8_need_83 : decode cX8_need 83 = .ok (.bipush (-5), 2) := by decide +kernel
theorem dX8_need_85 : decode cX8_need 85 = .ok (.ireturn, 1) := by decide +kernel
theorem dX8_signOf_0 : decode cX8_signOf 0 = .ok (.aload_n 0, 1) := by decide +kernel
theorem dX8_signOf_1 : decode cX8_signOf 1 = .ok (.getfield 235, 3) := by decide +kernel
theorem dX8_signOf_4 : decode cX8_signOf 4 = .ok (.ireturn, 1) := by decide +kernel
theorem dX8_whole_0 : decode cX8_whole 0 = .ok (.aload_n 0, 1) := by decide +kernel
theorem dX8_whole_1 : decode cX8_whole 1 = .ok (.getfield 238, 3) := by decide +kernel
theorem dX8_whole_4 : decode cX8_whole 4 = .ok (.lreturn, 1) := by decide +kernel
theorem dX8_isSure_0 : decode cX8_isSure 0 = .ok (.aload_n 0, 1) := by decide +kernel
theorem dX8_isSure_1 : decode cX8_isSure 1 = .ok (.getfield 60, 3) := by decide +kernel
theorem dX8_isSure_4 : decode cX8_isSure 4 = .ok (.bipush (-6), 2) := by decide +kernel
theorem dX8_isSure_6 : decode cX8_isSure 6 = .ok (.if_icmp .eq 21, 3) := by decide +kernel
theorem dX8_isSure_9 : decode cX8_isSure 9 = .ok (.iload_n 1, 1) := by decide +kernel
theorem dX8_isSure_10 : decode cX8_isSure 10 = .ok (.i2l, 1) := by decide +kernel
theorem dX8_isSure_11 : decode cX8_isSure 11 = .ok (.lconst 1, 1) := by decide +kernel
theorem dX8_isSure_12 : decode cX8_isSure 12 = .ok (.aload_n 0, 1) := by decide +kernel
theorem dX8_isSure_13 : decode cX8_isSure 13 = .ok (.getfield 241, 3) := by decide +kernel
theorem dX8_isSure_16 : decode cX8_isSure 16 = .ok (.i2l, 1) := by decide +kernel
theorem dX8_isSure_17 : decode cX8_isSure 17 = .ok (.invokestatic 86, 3) := by decide +kernel
theorem dX8_isSure_20 : decode cX8_isSure 20 = .ok (.ifCond .eq 7, 3) := by decide +kernel
theorem dX8_isSure_23 : decode cX8_isSure 23 = .ok (.iconst 1, 1) := by decide +kernel
theorem dX8_isSure_24 : decode cX8_isSure 24 = .ok (.goto 4, 3) := by decide +kernel
theorem dX8_isSure_27 : decode cX8_isSure 27 = .ok (.iconst 0, 1) := by decide +kernel
theorem dX8_isSure_28 : decode cX8_isSure 28 = .ok (.ireturn, 1) := by decide +kernel
theorem dX8_figure_0 : decode cX8_figure 0 = .ok (.aload_n 0, 1) := by decide +kernel
theorem dX8_figure_1 : decode cX8_figure 1 = .ok (.iload_n 1, 1) := by decide +kernel
theorem dX8_figure_2 : decode cX8_figure 2 = .ok (.invokevirtual 244, 3) := by decide +kernel
theorem dX8_figure_5 : decode cX8_figure 5 = .ok (.ifCond .eq 14, 3) := by decide +kernel
theorem dX8_figure_8 : decode cX8_figure 8 = .ok (.aload_n 0, 1) := by decide +kernel
theorem dX8_figure_9 : decode cX8_figure 9 = .ok (.getfield 54, 3) := by decide +kernel
theorem dX8_figure_12 : decode cX8_figure 12 = .ok (.iload_n 1, 1) := by decide +kernel
theorem dX8_figure_13 : decode cX8_figure 13 = .ok (.iconst 1, 1) := by decide +kernel
theorem dX8_figure_14 : decode cX8_figure 14 = .ok (.isub, 1) := by decide +kernel
theorem dX8_figure_15 : decode cX8_figure 15 = .ok (.iaload, 1) := by decide +kernel
theorem dX8_figure_16 : decode cX8_figure 16 = .ok (.goto 5, 3) := by decide +kernel
theorem dX8_figure_19 : decode cX8_figure 19 = .ok (.bipush (-6), 2) := by decide +kernel
theorem dX8_figure_21 : decode cX8_figure 21 = .ok (.ireturn, 1) := by decide +kernel
theorem dX8_count_0 : decode cX8_count 0 = .ok (.iload_n 1, 1) := by decide +kernel
theorem dX8_count_1 : decode cX8_count 1 = .ok (.i2l, 1) := by decide +kernel
theorem dX8_count_2 : decode cX8_count 2 = .ok (.lconst 0, 1) := by decide +kernel
theorem dX8_count_3 : decode cX8_count 3 = .ok (.ldc2_w 247, 3) := by decide +kernel
theorem dX8_count_6 : decode cX8_count 6 = .ok (.invokestatic 86, 3) := by decide +kernel
theorem dX8_count_9 : decode cX8_count 9 = .ok (.ifCond .ne 6, 3) := by decide +kernel
theorem dX8_count_12 : decode cX8_count 12 = .ok (.bipush (-2), 2) := by decide +kernel
theorem dX8_count_14 : decode cX8_count 14 = .ok (.ireturn, 1) := by decide +kernel
theorem dX8_count_15 : decode cX8_count 15 = .ok (.iconst 0, 1) := by decide +kernel
theorem dX8_count_16 : decode cX8_count 16 = .ok (.istore_n 2, 1) := by decide +kernel
theorem dX8_count_17 : decode cX8_count 17 = .ok (.iconst 1, 1) := by decide +kernel
theorem dX8_count_18 : decode cX8_count 18 = .ok (.istore_n 3, 1) := by decide +kernel
theorem dX8_count_19 : decode cX8_count 19 = .ok (.aload_n 0, 1) := by decide +kernel
theorem dX8_count_20 : decode cX8_count 20 = .ok (.iload_n 3, 1) := by decide +kernel
theorem dX8_count_21 : decode cX8_count 21 = .ok (.invokevirtual 244, 3) := by decide +kernel
theorem dX8_count_24 : decode cX8_count 24 = .ok (.ifCond .eq 29, 3) := by decide +kernel
theorem dX8_count_27 : decode cX8_count 27 = .ok (.iload_n 2, 1) := by decide +kernel
theorem dX8_count_28 : decode cX8_count 28 = .ok (.aload_n 0, 1) := by decide +kernel
theorem dX8_count_29 : decode cX8_count 29 = .ok (.getfield 54, 3) := by decide +kernel
theorem dX8_count_32 : decode cX8_count 32 = .ok (.iload_n 3, 1) := by decide +kernel
theorem dX8_count_33 : decode cX8_count 33 = .ok (.iconst 1, 1) := by decide +kernel
theorem dX8_count_34 : decode cX8_count 34 = .ok (.isub, 1) := by decide +kernel
theorem dX8_count_35 : decode cX8_count 35 = .ok (.iaload, 1) := by decide +kernel
theorem dX8_count_36 : decode cX8_count 36 = .ok (.iload_n 1, 1) := by decide +kernel
theorem dX8_count_37 : decode cX8_count 37 = .ok (.if_icmp .ne 7, 3) := by decide +kernel
theorem dX8_count_40 : decode cX8_count 40 = .ok (.iconst 1, 1) := by decide +kernel
theorem dX8_count_41 : decode cX8_count 41 = .ok (.goto 4, 3) := by decide +kernel
theorem dX8_count_44 : decode cX8_count 44 = .ok (.iconst 0, 1) := by decide +kernel
theorem dX8_count_45 : decode cX8_count 45 = .ok (.iadd, 1) := by decide +kernel
theorem dX8_count_46 : decode cX8_count 46 = .ok (.istore_n 2, 1) := by decide +kernel
theorem dX8_count_47 : decode cX8_count 47 = .ok (.iinc 3 1, 3) := by decide +kernel
theorem dX8_count_50 : decode cX8_count 50 = .ok (.goto (-31), 3) := by decide +kernel
theorem dX8_count_53 : decode cX8_count 53 = .ok (.iload_n 2, 1) := by decide +kernel
theorem dX8_count_54 : decode cX8_count 54 = .ok (.ireturn, 1) := by decide +kernel
theorem dX8_where_0 : decode cX8_where 0 = .ok (.iload_n 2, 1) := by decide +kernel
theorem dX8_where_1 : decode cX8_where 1 = .ok (.i2l, 1) := by decide +kernel
theorem dX8_where_2 : decode cX8_where 2 = .ok (.lconst 1, 1) := by decide +kernel
theorem dX8_where_3 : decode cX8_where 3 = .ok (.ldc2_w 84, 3) := by decide +kernel
theorem dX8_where_6 : decode cX8_where 6 = .ok (.invokestatic 86, 3) := by decide +kernel
theorem dX8_where_9 : decode cX8_where 9 = .ok (.ifCond .ne 6, 3) := by decide +kernel
theorem dX8_where_12 : decode cX8_where 12 = .ok (.bipush (-2), 2) := by decide +kernel
theorem dX8_where_14 : decode cX8_where 14 = .ok (.ireturn, 1) := by decide +kernel
theorem dX8_where_15 : decode cX8_where 15 = .ok (.iconst 1, 1) := by decide +kernel
theorem dX8_where_16 : decode cX8_where 16 = .ok (.istore_n 3, 1) := by decide +kernel
theorem dX8_where_17 : decode cX8_where 17 = .ok (.aload_n 0, 1) := by decide +kernel
theorem dX8_where_18 : decode cX8_where 18 = .ok (.iload_n 3, 1) := by decide +kernel
theorem dX8_where_19 : decode cX8_where 19 = .ok (.iload_n 2, 1) := by decide +kernel
theorem dX8_where_20 : decode cX8_where 20 = .ok (.iadd, 1) := by decide +kernel
theorem dX8_where_21 : decode cX8_where 21 = .ok (.iconst 1, 1) := by decide +kernel
theorem dX8_where_22 : decode cX8_where 22 = .ok (.isub, 1) := by decide +kernel
theorem dX8_where_23 : decode cX8_where 23 = .ok (.invokevirtual 244, 3) := by decide +kernel
theorem dX8_where_26 : decode cX8_where 26 = .ok (.ifCond .eq 73, 3) := by decide +kernel
theorem dX8_where_29 : decode cX8_where 29 = .ok (.iconst 1, 1) := by decide +kernel
theorem dX8_where_30 : decode cX8_where 30 = .ok (.istore 4, 2) := by decide +kernel
theorem dX8_where_32 : decode cX8_where 32 = .ok (.iconst 0, 1) := by decide +kernel
theorem dX8_where_33 : decode cX8_where 33 = .ok (.istore 5, 2) := by decide +kernel
theorem dX8_where_35 : decode cX8_where 35 = .ok (.iload 5, 2) := by decide +kernel
theorem dX8_where_37 : decode cX8_where 37 = .ok (.iload_n 2, 1) := by decide +kernel
theorem dX8_where_38 : decode cX8_where 38 = .ok (.if_icmp .ge 48, 3) := by decide +kernel
theorem dX8_where_41 : decode cX8_where 41 = .ok (.iload 4, 2) := by decide +kernel
theorem dX8_where_43 : decode cX8_where 43 = .ok (.ifCond .eq 43, 3) := by decide +kernel
theorem dX8_where_46 : decode cX8_where 46 = .ok (.aload_n 0, 1) := by decide +kernel
theorem dX8_where_47 : decode cX8_where 47 = .ok (.getfield 54, 3) := by decide +kernel
theorem dX8_where_50 : decode cX8_where 50 = .ok (.iload_n 3, 1) := by decide +kernel
theorem dX8_where_51 : decode cX8_where 51 = .ok (.iconst 1, 1) := by decide +kernel
theorem dX8_where_52 : decode cX8_where 52 = .ok (.isub, 1) := by decide +kernel
theorem dX8_where_53 : decode cX8_where 53 = .ok (.iload 5, 2) := by decide +kernel
theorem dX8_where_55 : decode cX8_where 55 = .ok (.iadd, 1) := by decide +kernel
theorem dX8_where_56 : decode cX8_where 56 = .ok (.iaload, 1) := by decide +kernel
theorem dX8_where_57 : decode cX8_where 57 = .ok (.iload_n 1, 1) := by decide +kernel
theorem dX8_where_58 : decode cX8_where 58 = .ok (.iconst 5, 1) := by decide +kernel
theorem dX8_where_59 : decode cX8_where 59 = .ok (.iload_n 2, 1) := by decide +kernel
theorem dX8_where_60 : decode cX8_where 60 = .ok (.iconst 1, 1) := by decide +kernel
theorem dX8_where_61 : decode cX8_where 61 = .ok (.isub, 1) := by decide +kernel
theorem dX8_where_62 : decode cX8_where 62 = .ok (.iload 5, 2) := by decide +kernel
theorem dX8_where_64 : decode cX8_where 64 = .ok (.isub, 1) := by decide +kernel
theorem dX8_where_65 : decode cX8_where 65 = .ok (.imul, 1) := by decide +kernel
theorem dX8_where_66 : decode cX8_where 66 = .ok (.ishr, 1) := by decide +kernel
theorem dX8_where_67 : decode cX8_where 67 = .ok (.bipush 31, 2) := by decide +kernel
theorem dX8_where_69 : decode cX8_where 69 = .ok (.iand, 1) := by decide +kernel
theorem dX8_where_70 : decode cX8_where 70 = .ok (.if_icmp .ne 7, 3) := by decide +kernel
theorem dX8_where_73 : decode cX8_where 73 = .ok (.iconst 1, 1) := by decide +kernel
theorem dX8_where_74 : decode cX8_where 74 = .ok (.goto 4, 3) := by decide +kernel
theorem dX8_where_77 : decode cX8_where 77 = .ok (.iconst 0, 1) := by decide +kernel
theorem dX8_where_78 : decode cX8_where 78 = .ok (.istore 4, 2) := by decide +kernel
theorem dX8_where_80 : decode cX8_where 80 = .ok (.iinc 5 1, 3) := by decide +kernel
theorem dX8_where_83 : decode cX8_where 83 = .ok (.goto (-48), 3) := by decide +kernel
theorem dX8_where_86 : decode cX8_where 86 = .ok (.iload 4, 2) := by decide +kernel
theorem dX8_where_88 : decode cX8_where 88 = .ok (.ifCond .eq 5, 3) := by decide +kernel
theorem dX8_where_91 : decode cX8_where 91 = .ok (.iload_n 3, 1) := by decide +kernel
theorem dX8_where_92 : decode cX8_where 92 = .ok (.ireturn, 1) := by decide +kernel
theorem dX8_where_93 : decode cX8_where 93 = .ok (.iinc 3 1, 3) := by decide +kernel
theorem dX8_where_96 : decode cX8_where 96 = .ok (.goto (-79), 3) := by decide +kernel
theorem dX8_where_99 : decode cX8_where 99 = .ok (.bipush (-6), 2) := by decide +kernel
theorem dX8_where_101 : decode cX8_where 101 = .ok (.ireturn, 1) := by decide +kernel
theorem dX8_about_0 : decode cX8_about 0 = .ok (.iload_n 1, 1) := by decide +kernel
theorem dX8_about_1 : decode cX8_about 1 = .ok (.i2l, 1) := by decide +kernel
theorem dX8_about_2 : decode cX8_about 2 = .ok (.lconst 0, 1) := by decide +kernel
theorem dX8_about_3 : decode cX8_about 3 = .ok (.ldc2_w 249, 3) := by decide +kernel
theorem dX8_about_6 : decode cX8_about 6 = .ok (.invokestatic 86, 3) := by decide +kernel
theorem dX8_about_9 : decode cX8_about 9 = .ok (.ifCond .ne 6, 3) := by decide +kernel
theorem dX8_about_12 : decode cX8_about 12 = .ok (.bipush (-2), 2) := by decide +kernel
theorem dX8_about_14 : decode cX8_about 14 = .ok (.ireturn, 1) := by decide +kernel
theorem dX8_about_15 : decode cX8_about 15 = .ok (.aload_n 0, 1) := by decide +kernel
theorem dX8_about_16 : decode cX8_about 16 = .ok (.getfield 60, 3) := by decide +kernel
theorem dX8_about_19 : decode cX8_about 19 = .ok (.bipush (-6), 2) := by decide +kernel
theorem dX8_about_21 : decode cX8_about 21 = .ok (.if_icmp .ne 6, 3) := by decide +kernel
theorem dX8_about_24 : decode cX8_about 24 = .ok (.bipush (-3), 2) := by decide +kernel
theorem dX8_about_26 : decode cX8_about 26 = .ok (.ireturn, 1) := by decide +kernel
theorem dX8_about_27 : decode cX8_about 27 = .ok (.iload_n 1, 1) := by decide +kernel
theorem dX8_about_28 : decode cX8_about 28 = .ok (.ifCond .ne 10, 3) := by decide +kernel
theorem dX8_about_31 : decode cX8_about 31 = .ok (.aload_n 0, 1) := by decide +kernel
theorem dX8_about_32 : decode cX8_about 32 = .ok (.getfield 60, 3) := by decide +kernel
theorem dX8_about_35 : decode cX8_about 35 = .ok (.goto 43, 3) := by decide +kernel
theorem dX8_about_38 : decode cX8_about 38 = .ok (.iload_n 1, 1) := by decide +kernel
theorem dX8_about_39 : decode cX8_about 39 = .ok (.iconst 1, 1) := by decide +kernel
theorem dX8_about_40 : decode cX8_about 40 = .ok (.if_icmp .ne 10, 3) := by decide +kernel
theorem dX8_about_43 : decode cX8_about 43 = .ok (.aload_n 0, 1) := by decide +kernel
theorem dX8_about_44 : decode cX8_about 44 = .ok (.getfield 226, 3) := by decide +kernel
theorem dX8_about_47 : decode cX8_about 47 = .ok (.goto 31, 3) := by decide +kernel
theorem dX8_about_50 : decode cX8_about 50 = .ok (.iload_n 1, 1) := by decide +kernel
theorem dX8_about_51 : decode cX8_about 51 = .ok (.iconst 2, 1) := by decide +kernel
theorem dX8_about_52 : decode cX8_about 52 = .ok (.if_icmp .ne 10, 3) := by decide +kernel
theorem dX8_about_55 : decode cX8_about 55 = .ok (.aload_n 0, 1) := by decide +kernel
theorem dX8_about_56 : decode cX8_about 56 = .ok (.getfield 229, 3) := by decide +kernel
theorem dX8_about_59 : decode cX8_about 59 = .ok (.goto 19, 3) := by decide +kernel
theorem dX8_about_62 : decode cX8_about 62 = .ok (.iload_n 1, 1) := by decide +kernel
theorem dX8_about_63 : decode cX8_about 63 = .ok (.iconst 3, 1) := by decide +kernel
theorem dX8_about_64 : decode cX8_about 64 = .ok (.if_icmp .ne 10, 3) := by decide +kernel
theorem dX8_about_67 : decode cX8_about 67 = .ok (.aload_n 0, 1) := by decide +kernel
theorem dX8_about_68 : decode cX8_about 68 = .ok (.getfield 232, 3) := by decide +kernel
theorem dX8_about_71 : decode cX8_about 71 = .ok (.goto 7, 3) := by decide +kernel
theorem dX8_about_74 : decode cX8_about 74 = .ok (.aload_n 0, 1) := by decide +kernel
theorem dX8_about_75 : decode cX8_about 75 = .ok (.getfield 241, 3) := by decide +kernel
theorem dX8_about_78 : decode cX8_about 78 = .ok (.ireturn, 1) := by decide +kernel
theorem dX8_agree_0 : decode cX8_agree 0 = .ok (.iload_n 1, 1) := by decide +kernel
theorem dX8_agree_1 : decode cX8_agree 1 = .ok (.invokestatic 168, 3) := by decide +kernel
theorem dX8_agree_4 : decode cX8_agree 4 = .ok (.ifCond .eq 10, 3) := by decide +kernel
theorem dX8_agree_7 : decode cX8_agree 7 = .ok (.iload_n 2, 1) := by decide +kernel
theorem dX8_agree_8 : decode cX8_agree 8 = .ok (.invokestatic 168, 3) := by decide +kernel
theorem dX8_agree_11 : decode cX8_agree 11 = .ok (.ifCond .ne 5, 3) := by decide +kernel
theorem dX8_agree_14 : decode cX8_agree 14 = .ok (.iconst (-1), 1) := by decide +kernel
theorem dX8_agree_15 : decode cX8_agree 15 = .ok (.ireturn, 1) := by decide +kernel
theorem dX8_agree_16 : decode cX8_agree 16 = .ok (.iload_n 3, 1) := by decide +kernel
theorem dX8_agree_17 : decode cX8_agree 17 = .ok (.iload 4, 2) := by decide +kernel
theorem dX8_agree_19 : decode cX8_agree 19 = .ok (.invokestatic 213, 3) := by decide +kernel
theorem dX8_agree_22 : decode cX8_agree 22 = .ok (.ifCond .eq 16, 3) := by decide +kernel
theorem dX8_agree_25 : decode cX8_agree 25 = .ok (.iload 5, 2) := by decide +kernel
theorem dX8_agree_27 : decode cX8_agree 27 = .ok (.i2l, 1) := by decide +kernel
theorem dX8_agree_28 : decode cX8_agree 28 = .ok (.lconst 1, 1) := by decide +kernel
theorem dX8_agree_29 : decode cX8_agree 29 = .ok (.ldc2_w 127, 3) := by decide +kernel
theorem dX8_agree_32 : decode cX8_agree 32 = .ok (.invokestatic 86, 3) := by decide +kernel
theorem dX8_agree_35 : decode cX8_agree 35 = .ok (.ifCond .ne 6, 3) := by decide +kernel
theorem dX8_agree_38 : decode cX8_agree 38 = .ok (.bipush (-2), 2) := by decide +kernel
theorem dX8_agree_40 : decode cX8_agree 40 = .ok (.ireturn, 1) := by decide +kernel
theorem dX8_agree_41 : decode cX8_agree 41 = .ok (.aload_n 0, 1) := by decide +kernel
theorem dX8_agree_42 : decode cX8_agree 42 = .ok (.iload_n 1, 1) := by decide +kernel
theorem dX8_agree_43 : decode cX8_agree 43 = .ok (.iload 5, 2) := by decide +kernel
theorem dX8_agree_45 : decode cX8_agree 45 = .ok (.invokevirtual 216, 3) := by decide +kernel
theorem dX8_agree_48 : decode cX8_agree 48 = .ok (.istore 6, 2) := by decide +kernel
theorem dX8_agree_50 : decode cX8_agree 50 = .ok (.iload 6, 2) := by decide +kernel
theorem dX8_agree_52 : decode cX8_agree 52 = .ok (.ifCond .ge 8, 3) := by decide +kernel
theorem dX8_agree_55 : decode cX8_agree 55 = .ok (.iload 6, 2) := by decide +kernel
theorem dX8_agree_57 : decode cX8_agree 57 = .ok (.goto 10, 3) := by decide +kernel
theorem dX8_agree_60 : decode cX8_agree 60 = .ok (.aload_n 0, 1) := by decide +kernel
theorem dX8_agree_61 : decode cX8_agree 61 = .ok (.iload_n 2, 1) := by decide +kernel
theorem dX8_agree_62 : decode cX8_agree 62 = .ok (.iload 5, 2) := by decide +kernel
theorem dX8_agree_64 : decode cX8_agree 64 = .ok (.invokevirtual 216, 3) := by decide +kernel
theorem dX8_agree_67 : decode cX8_agree 67 = .ok (.istore 6, 2) := by decide +kernel
theorem dX8_agree_69 : decode cX8_agree 69 = .ok (.iload 6, 2) := by decide +kernel
theorem dX8_agree_71 : decode cX8_agree 71 = .ok (.ifCond .ge 6, 3) := by decide +kernel
theorem dX8_agree_74 : decode cX8_agree 74 = .ok (.iload 6, 2) := by decide +kernel
theorem dX8_agree_76 : decode cX8_agree 76 = .ok (.ireturn, 1) := by decide +kernel
theorem dX8_agree_77 : decode cX8_agree 77 = .ok (.aload_n 0, 1) := by decide +kernel
theorem dX8_agree_78 : decode cX8_agree 78 = .ok (.iload_n 1, 1) := by decide +kernel
theorem dX8_agree_79 : decode cX8_agree 79 = .ok (.iload 5, 2) := by decide +kernel
theorem dX8_agree_81 : decode cX8_agree 81 = .ok (.invokevirtual 219, 3) := by decide +kernel
theorem dX8_agree_84 : decode cX8_agree 84 = .ok (.aload_n 0, 1) := by decide +kernel
theorem dX8_agree_85 : decode cX8_agree 85 = .ok (.iload_n 1, 1) := by decide +kernel
theorem dX8_agree_86 : decode cX8_agree 86 = .ok (.iload_n 3, 1) := by decide +kernel
theorem dX8_agree_87 : decode cX8_agree 87 = .ok (.iload 4, 2) := by decide +kernel
theorem dX8_agree_89 : decode cX8_agree 89 = .ok (.iload 5, 2) := by decide +kernel
theorem dX8_agree_91 : decode cX8_agree 91 = .ok (.invokevirtual 222, 3) := by decide +kernel
theorem dX8_agree_94 : decode cX8_agree 94 = .ok (.aload_n 0, 1) := by decide +kernel
theorem dX8_agree_95 : decode cX8_agree 95 = .ok (.getfield 185, 3) := by decide +kernel
theorem dX8_agree_98 : decode cX8_agree 98 = .ok (.istore 7, 2) := by decide +kernel
theorem dX8_agree_100 : decode cX8_agree 100 = .ok (.aload_n 0, 1) := by decide +kernel
theorem dX8_agree_101 : decode cX8_agree 101 = .ok (.getfield 188, 3) := by decide +kernel
theorem dX8_agree_104 : decode cX8_agree 104 = .ok (.lstore 8, 2) := by decide +kernel
theorem dX8_agree_106 : decode cX8_agree 106 = .ok (.aload_n 0, 1) := by decide +kernel
theorem dX8_agree_107 : decode cX8_agree 107 = .ok (.getfield 192, 3) := by decide +kernel
theorem dX8_agree_110 : decode cX8_agree 110 = .ok (.istore 10, 2) := by decide +kernel
theorem dX8_agree_112 : decode cX8_agree 112 = .ok (.iconst 0, 1) := by decide +kernel
theorem dX8_agree_113 : decode cX8_agree 113 = .ok (.istore 11, 2) := by decide +kernel
theorem dX8_agree_115 : decode cX8_agree 115 = .ok (.iload 11, 2) := by decide +kernel
theorem dX8_agree_117 : decode cX8_agree 117 = .ok (.iload 10, 2) := by decide +kernel
theorem dX8_agree_119 : decode cX8_agree 119 = .ok (.if_icmp .ge 23, 3) := by decide +kernel
theorem dX8_agree_122 : decode cX8_agree 122 = .ok (.aload_n 0, 1) := by decide +kernel
theorem dX8_agree_123 : decode cX8_agree 123 = .ok (.getfield 57, 3) := by decide +kernel
theorem dX8_agree_126 : decode cX8_agree 126 = .ok (.iload 11, 2) := by decide +kernel
theorem dX8_agree_128 : decode cX8_agree 128 = .ok (.aload_n 0, 1) := by decide +kernel
theorem dX8_agree_129 : decode cX8_agree 129 = .ok (.getfield 51, 3) := by decide +kernel
theorem dX8_agree_132 : decode cX8_agree 132 = .ok (.iload 11, 2) := by decide +kernel
theorem dX8_agree_134 : decode cX8_agree 134 = .ok (.iaload, 1) := by decide +kernel
theorem dX8_agree_135 : decode cX8_agree 135 = .ok (.iastore, 1) := by decide +kernel
theorem dX8_agree_136 : decode cX8_agree 136 = .ok (.iinc 11 1, 3) := by decide +kernel
theorem dX8_agree_139 : decode cX8_agree 139 = .ok (.goto (-24), 3) := by decide +kernel
theorem dX8_agree_142 : decode cX8_agree 142 = .ok (.aload_n 0, 1) := by decide +kernel
theorem dX8_agree_143 : decode cX8_agree 143 = .ok (.iload_n 2, 1) := by decide +kernel
theorem dX8_agree_144 : decode cX8_agree 144 = .ok (.iload 5, 2) := by decide +kernel
theorem dX8_agree_146 : decode cX8_agree 146 = .ok (.invokevirtual 219, 3) := by decide +kernel
theorem dX8_agree_149 : decode cX8_agree 149 = .ok (.aload_n 0, 1) := by decide +kernel
theorem dX8_agree_150 : decode cX8_agree 150 = .ok (.iload_n 2, 1) := by decide +kernel
theorem dX8_agree_151 : decode cX8_agree 151 = .ok (.iload_n 3, 1) := by decide +kernel
theorem dX8_agree_152 : decode cX8_agree 152 = .ok (.iload 4, 2) := by decide +kernel
theorem dX8_agree_154 : decode cX8_agree 154 = .ok (.iload 5, 2) := by decide +kernel
theorem dX8_agree_156 : decode cX8_agree 156 = .ok (.invokevirtual 222, 3) := by decide +kernel
theorem dX8_agree_159 : decode cX8_agree 159 = .ok (.iload 10, 2) := by decide +kernel
theorem dX8_agree_161 : decode cX8_agree 161 = .ok (.bipush (-6), 2) := by decide +kernel
theorem dX8_agree_163 : decode cX8_agree 163 = .ok (.if_icmp .eq 12, 3) := by decide +kernel
theorem dX8_agree_166 : decode cX8_agree 166 = .ok (.aload_n 0, 1) := by decide +kernel
theorem dX8_agree_167 : decode cX8_agree 167 = .ok (.getfield 192, 3) := by decide +kernel
theorem dX8_agree_170 : decode cX8_agree 170 = .ok (.bipush (-6), 2) := by decide +kernel
theorem dX8_agree_172 : decode cX8_agree 172 = .ok (.if_icmp .ne 6, 3) := by decide +kernel
theorem dX8_agree_175 : decode cX8_agree 175 = .ok (.bipush (-6), 2) := by decide +kernel
theorem dX8_agree_177 : decode cX8_agree 177 = .ok (.ireturn, 1) := by decide +kernel
theorem dX8_agree_178 : decode cX8_agree 178 = .ok (.iload 7, 2) := by decide +kernel
theorem dX8_agree_180 : decode cX8_agree 180 = .ok (.aload_n 0, 1) := by decide +kernel
theorem dX8_agree_181 : decode cX8_agree 181 = .ok (.getfield 185, 3) := by decide +kernel
theorem dX8_agree_184 : decode cX8_agree 184 = .ok (.if_icmp .ne 13, 3) := by decide +kernel
theorem dX8_agree_187 : decode cX8_agree 187 = .ok (.lload 8, 2) := by decide +kernel
theorem dX8_agree_189 : decode cX8_agree 189 = .ok (.aload_n 0, 1) := by decide +kernel
theorem dX8_agree_190 : decode cX8_agree 190 = .ok (.getfield 188, 3) := by decide +kernel
theorem dX8_agree_193 : decode cX8_agree 193 = .ok (.lcmp, 1) := by decide +kernel
theorem dX8_agree_194 : decode cX8_agree 194 = .ok (.ifCond .eq 5, 3) := by decide +kernel
theorem dX8_agree_197 : decode cX8_agree 197 = .ok (.iconst 0, 1) := by decide +kernel
theorem dX8_agree_198 : decode cX8_agree 198 = .ok (.ireturn, 1) := by decide +kernel
theorem dX8_agree_199 : decode cX8_agree 199 = .ok (.iconst 0, 1) := by decide +kernel
theorem dX8_agree_200 : decode cX8_agree 200 = .ok (.istore 11, 2) := by decide +kernel
theorem dX8_agree_202 : decode cX8_agree 202 = .ok (.iload 11, 2) := by decide +kernel
theorem dX8_agree_204 : decode cX8_agree 204 = .ok (.iload 10, 2) := by decide +kernel
theorem dX8_agree_206 : decode cX8_agree 206 = .ok (.if_icmp .ge 40, 3) := by decide +kernel
theorem dX8_agree_209 : decode cX8_agree 209 = .ok (.iload 11, 2) := by decide +kernel
theorem dX8_agree_211 : decode cX8_agree 211 = .ok (.aload_n 0, 1) := by decide +kernel
theorem dX8_agree_212 : decode cX8_agree 212 = .ok (.getfield 192, 3) := by decide +kernel
theorem dX8_agree_215 : decode cX8_agree 215 = .ok (.if_icmp .ge 31, 3) := by decide +kernel
theorem dX8_agree_218 : decode cX8_agree 218 = .ok (.aload_n 0, 1) := by decide +kernel
theorem dX8_agree_219 : decode cX8_agree 219 = .ok (.getfield 57, 3) := by decide +kernel
theorem dX8_agree_222 : decode cX8_agree 222 = .ok (.iload 11, 2) := by decide +kernel
theorem dX8_agree_224 : decode cX8_agree 224 = .ok (.iaload, 1) := by decide +kernel
theorem dX8_agree_225 : decode cX8_agree 225 = .ok (.aload_n 0, 1) := by decide +kernel
theorem dX8_agree_226 : decode cX8_agree 226 = .ok (.getfield 51, 3) := by decide +kernel
theorem dX8_agree_229 : decode cX8_agree 229 = .ok (.iload 11, 2) := by decide +kernel
theorem dX8_agree_231 : decode cX8_agree 231 = .ok (.iaload, 1) := by decide +kernel
theorem dX8_agree_232 : decode cX8_agree 232 = .ok (.if_icmp .eq 8, 3) := by decide +kernel
theorem dX8_agree_235 : decode cX8_agree 235 = .ok (.iload 11, 2) := by decide +kernel
theorem dX8_agree_237 : decode cX8_agree 237 = .ok (.iconst 1, 1) := by decide +kernel
theorem dX8_agree_238 : decode cX8_agree 238 = .ok (.iadd, 1) := by decide +kernel
theorem dX8_agree_239 : decode cX8_agree 239 = .ok (.ireturn, 1) := by decide +kernel
theorem dX8_agree_240 : decode cX8_agree 240 = .ok (.iinc 11 1, 3) := by decide +kernel
theorem dX8_agree_243 : decode cX8_agree 243 = .ok (.goto (-41), 3) := by decide +kernel
theorem dX8_agree_246 : decode cX8_agree 246 = .ok (.bipush (-6), 2) := by decide +kernel
theorem dX8_agree_248 : decode cX8_agree 248 = .ok (.ireturn, 1) := by decide +kernel
theorem dJ9_abs_067f4_0 : decode cJ9_abs_067f4 0 = .ok (.lload_n 0, 1) := by decide +kernel
theorem dJ9_abs_067f4_1 : decode cJ9_abs_067f4 1 = .ok (.lconst 0, 1) := by decide +kernel
theorem dJ9_abs_067f4_2 : decode cJ9_abs_067f4 2 = .ok (.lcmp, 1) := by decide +kernel
theorem dJ9_abs_067f4_3 : decode cJ9_abs_067f4 3 = .ok (.ifCond .ge 8, 3) := by decide +kernel
theorem dJ9_abs_067f4_6 : decode cJ9_abs_067f4 6 = .ok (.lload_n 0, 1) := by decide +kernel
theorem dJ9_abs_067f4_7 : decode cJ9_abs_067f4 7 = .ok (.lneg, 1) := by decide +kernel
theorem dJ9_abs_067f4_8 : decode cJ9_abs_067f4 8 = .ok (.goto 4, 3) := by decide +kernel
theorem dJ9_abs_067f4_11 : decode cJ9_abs_067f4 11 = .ok (.lload_n 0, 1) := by decide +kernel
theorem dJ9_abs_067f4_12 : decode cJ9_abs_067f4 12 = .ok (.lreturn, 1) := by decide +kernel
theorem dJ9_max_7cf53_0 : decode cJ9_max_7cf53 0 = .ok (.iload_n 0, 1) := by decide +kernel
theorem dJ9_max_7cf53_1 : decode cJ9_max_7cf53 1 = .ok (.iload_n 1, 1) := by decide +kernel
theorem dJ9_max_7cf53_2 : decode cJ9_max_7cf53 2 = .ok (.if_icmp .lt 7, 3) := by decide +kernel
theorem dJ9_max_7cf53_5 : decode cJ9_max_7cf53 5 = .ok (.iload_n 0, 1) := by decide +kernel
theorem dJ9_max_7cf53_6 : decode cJ9_max_7cf53 6 = .ok (.goto 4, 3) := by decide +kernel
theorem dJ9_max_7cf53_9 : decode cJ9_max_7cf53 9 = .ok (.iload_n 1, 1) := by decide +kernel
theorem dJ9_max_7cf53_10 : decode cJ9_max_7cf53 10 = .ok (.ireturn, 1) := by decide +kernel
theorem dJ9_min_7cf53_0 : decode cJ9_min_7cf53 0 = .ok (.iload_n 0, 1) := by decide +kernel
theorem dJ9_min_7cf53_1 : decode cJ9_min_7cf53 1 = .ok (.iload_n 1, 1) := by decide +kernel
theorem dJ9_min_7cf53_2 : decode cJ9_min_7cf53 2 = .ok (.if_icmp .gt 7, 3) := by decide +kernel
theorem dJ9_min_7cf53_5 : decode cJ9_min_7cf53 5 = .ok (.iload_n 0, 1) := by decide +kernel
theorem dJ9_min_7cf53_6 : decode cJ9_min_7cf53 6 = .ok (.goto 4, 3) := by decide +kernel
theorem dJ9_min_7cf53_9 : decode cJ9_min_7cf53 9 = .ok (.iload_n 1, 1) := by decide +kernel
theorem dJ9_min_7cf53_10 : decode cJ9_min_7cf53 10 = .ok (.ireturn, 1) := by decide +kernel
theorem dJ9_min_f86c9_0 : decode cJ9_min_f86c9 0 = .ok (.lload_n 0, 1) := by decide +kernel
theorem dJ9_min_f86c9_1 : decode cJ9_min_f86c9 1 = .ok (.lload_n 2, 1) := by decide +kernel
theorem dJ9_min_f86c9_2 : decode cJ9_min_f86c9 2 = .ok (.lcmp, 1) := by decide +kernel
theorem dJ9_min_f86c9_3 : decode cJ9_min_f86c9 3 = .ok (.ifCond .gt 7, 3) := by decide +kernel
theorem dJ9_min_f86c9_6 : decode cJ9_min_f86c9 6 = .ok (.lload_n 0, 1) := by decide +kernel
theorem dJ9_min_f86c9_7 : decode cJ9_min_f86c9 7 = .ok (.goto 4, 3) := by decide +kernel
theorem dJ9_min_f86c9_10 : decode cJ9_min_f86c9 10 = .ok (.lload_n 2, 1) := by decide +kernel
theorem dJ9_min_f86c9_11 : decode cJ9_min_f86c9 11 = .ok (.lreturn, 1) := by decide +kernel
theorem dL_law_0 : decode cL_law 0 = .ok (.new 7, 3) := by decide +kernel
theorem dL_law_3 : decode cL_law 3 = .ok (.dup, 1) := by decide +kernel
theorem dL_law_4 : decode cL_law 4 = .ok (.invokespecial 9, 3) := by decide +kernel
theorem dL_law_7 : decode cL_law 7 = .ok (.astore_n 1, 1) := by decide +kernel
theorem dL_law_8 : decode cL_law 8 = .ok (.new 10, 3) := by decide +kernel
theorem dL_law_11 : decode cL_law 11 = .ok (.dup, 1) := by decide +kernel
theorem dL_law_12 : decode cL_law 12 = .ok (.invokespecial 12, 3) := by decide +kernel
theorem dL_law_15 : decode cL_law 15 = .ok (.astore_n 2, 1) := by decide +kernel
theorem dL_law_16 : decode cL_law 16 = .ok (.iconst 0, 1) := by decide +kernel
theorem dL_law_17 : decode cL_law 17 = .ok (.istore_n 3, 1) := by decide +kernel
theorem dL_law_18 : decode cL_law 18 = .ok (.iload_n 3, 1) := by decide +kernel
theorem dL_law_19 : decode cL_law 19 = .ok (.aload_n 0, 1) := by decide +kernel
theorem dL_law_20 : decode cL_law 20 = .ok (.arraylength, 1) := by decide +kernel
theorem dL_law_21 : decode cL_law 21 = .ok (.bipush 6, 2) := by decide +kernel
theorem dL_law_23 : decode cL_law 23 = .ok (.isub, 1) := by decide +kernel
theorem dL_law_24 : decode cL_law 24 = .ok (.if_icmp .gt 1093, 3) := by decide +kernel
theorem dL_law_27 : decode cL_law 27 = .ok (.aload_n 0, 1) := by decide +kernel
theorem dL_law_28 : decode cL_law 28 = .ok (.iload_n 3, 1) := by decide +kernel
theorem dL_law_29 : decode cL_law 29 = .ok (.iaload, 1) := by decide +kernel
theorem dL_law_30 : decode cL_law 30 = .ok (.bipush 31, 2) := by decide +kernel
theorem dL_law_32 : decode cL_law 32 = .ok (.iand, 1) := by decide +kernel
theorem dL_law_33 : decode cL_law 33 = .ok (.tableswitch 1078 0 25 #[119, 182, 225, 268, 301, 354, 387, 430, 453, 486, 519, 552, 595, 638, 671, 724, 747, 790, 843, 886, 899, 913, 936, 959, 992, 1015], 119) := by decide +kernel
theorem dL_law_152 : decode cL_law 152 = .ok (.aload_n 1, 1) := by decide +kernel
theorem dL_law_153 : decode cL_law 153 = .ok (.aload_n 0, 1) := by decide +kernel
theorem dL_law_154 : decode cL_law 154 = .ok (.iload_n 3, 1) := by decide +kernel
theorem dL_law_155 : decode cL_law 155 = .ok (.iconst 1, 1) := by decide +kernel
theorem dL_law_156 : decode cL_law 156 = .ok (.iadd, 1) := by decide +kernel
theorem dL_law_157 : decode cL_law 157 = .ok (.iaload, 1) := by decide +kernel
theorem dL_law_158 : decode cL_law 158 = .ok (.aload_n 0, 1) := by decide +kernel
theorem dL_law_159 : decode cL_law 159 = .ok (.iload_n 3, 1) := by decide +kernel
theorem dL_law_160 : decode cL_law 160 = .ok (.iconst 2, 1) := by decide +kernel
theorem dL_law_161 : decode cL_law 161 = .ok (.iadd, 1) := by decide +kernel
theorem dL_law_162 : decode cL_law 162 = .ok (.iaload, 1) := by decide +kernel
theorem dL_law_163 : decode cL_law 163 = .ok (.aload_n 0, 1) := by decide +kernel
theorem dL_law_164 : decode cL_law 164 = .ok (.iload_n 3, 1) := by decide +kernel
theorem dL_law_165 : decode cL_law 165 = .ok (.iconst 3, 1) := by decide +kernel
theorem dL_law_166 : decode cL_law 166 = .ok (.iadd, 1) := by decide +kernel
theorem dL_law_167 : decode cL_law 167 = .ok (.iaload, 1) := by decide +kernel
theorem dL_law_168 : decode cL_law 168 = .ok (.aload_n 0, 1) := by decide +kernel
theorem dL_law_169 : decode cL_law 169 = .ok (.iload_n 3, 1) := by decide +kernel
theorem dL_law_170 : decode cL_law 170 = .ok (.iconst 4, 1) := by decide +kernel
theorem dL_law_171 : decode cL_law 171 = .ok (.iadd, 1) := by decide +kernel
theorem dL_law_172 : decode cL_law 172 = .ok (.iaload, 1) := by decide +kernel
theorem dL_law_173 : decode cL_law 173 = .ok (.aload_n 0, 1) := by decide +kernel
theorem dL_law_174 : decode cL_law 174 = .ok (.iload_n 3, 1) := by decide +kernel
theorem dL_law_175 : decode cL_law 175 = .ok (.iconst 5, 1) := by decide +kernel
theorem dL_law_176 : decode cL_law 176 = .ok (.iadd, 1) := by decide +kernel
theorem dL_law_177 : decode cL_law 177 = .ok (.iaload, 1) := by decide +kernel
theorem dL_law_178 : decode cL_law 178 = .ok (.invokevirtual 13, 3) := by decide +kernel
theorem dL_law_181 : decode cL_law 181 = .ok (.aload_n 2, 1) := by decide +kernel
theorem dL_law_182 : decode cL_law 182 = .ok (.aload_n 0, 1) := by decide +kernel
theorem dL_law_183 : decode cL_law 183 = .ok (.iload_n 3, 1) := by decide +kernel
theorem dL_law_184 : decode cL_law 184 = .ok (.iconst 1, 1) := by decide +kernel
theorem dL_law_185 : decode cL_law 185 = .ok (.iadd, 1) := by decide +kernel
theorem dL_law_186 : decode cL_law 186 = .ok (.iaload, 1) := by decide +kernel
theorem dL_law_187 : decode cL_law 187 = .ok (.aload_n 0, 1) := by decide +kernel
theorem dL_law_188 : decode cL_law 188 = .ok (.iload_n 3, 1) := by decide +kernel
theorem dL_law_189 : decode cL_law 189 = .ok (.iconst 2, 1) := by decide +kernel
theorem dL_law_190 : decode cL_law 190 = .ok (.iadd, 1) := by decide +kernel
theorem dL_law_191 : decode cL_law 191 = .ok (.iaload, 1) := by decide +kernel
theorem dL_law_192 : decode cL_law 192 = .ok (.aload_n 0, 1) := by decide +kernel
theorem dL_law_193 : decode cL_law 193 = .ok (.iload_n 3, 1) := by decide +kernel
theorem dL_law_194 : decode cL_law 194 = .ok (.iconst 3, 1) := by decide +kernel
theorem dL_law_195 : decode cL_law 195 = .ok (.iadd, 1) := by decide +kernel
theorem dL_law_196 : decode cL_law 196 = .ok (.iaload, 1) := by decide +kernel
theorem dL_law_197 : decode cL_law 197 = .ok (.aload_n 0, 1) := by decide +kernel
theorem dL_law_198 : decode cL_law 198 = .ok (.iload_n 3, 1) := by decide +kernel
theorem dL_law_199 : decode cL_law 199 = .ok (.iconst 4, 1) := by decide +kernel
theorem dL_law_200 : decode cL_law 200 = .ok (.iadd, 1) := by decide +kernel
theorem dL_law_201 : decode cL_law 201 = .ok (.iaload, 1) := by decide +kernel
theorem dL_law_202 : decode cL_law 202 = .ok (.aload_n 0, 1) := by decide +kernel
theorem dL_law_203 : decode cL_law 203 = .ok (.iload_n 3, 1) := by decide +kernel
theorem dL_law_204 : decode cL_law 204 = .ok (.iconst 5, 1) := by decide +kernel
theorem dL_law_205 : decode cL_law 205 = .ok (.iadd, 1) := by decide +kernel
theorem dL_law_206 : decode cL_law 206 = .ok (.iaload, 1) := by decide +kernel
theorem dL_law_207 : decode cL_law 207 = .ok (.invokevirtual 17, 3) := by decide +kernel
theorem dL_law_210 : decode cL_law 210 = .ok (.if_icmp .eq 901, 3) := by decide +kernel
theorem dL_law_213 : decode cL_law 213 = .ok (.iconst 0, 1) := by decide +kernel
theorem dL_law_214 : decode cL_law 214 = .ok (.ireturn, 1) := by decide +kernel
theorem dL_law_215 : decode cL_law 215 = .ok (.aload_n 1, 1) := by decide +kernel
theorem dL_law_216 : decode cL_law 216 = .ok (.aload_n 0, 1) := by decide +kernel
theorem dL_law_217 : decode cL_law 217 = .ok (.iload_n 3, 1) := by decide +kernel
theorem dL_law_218 : decode cL_law 218 = .ok (.iconst 1, 1) := by decide +kernel
theorem dL_law_219 : decode cL_law 219 = .ok (.iadd, 1) := by decide +kernel
theorem dL_law_220 : decode cL_law 220 = .ok (.iaload, 1) := by decide +kernel
theorem dL_law_221 : decode cL_law 221 = .ok (.aload_n 0, 1) := by decide +kernel
theorem dL_law_222 : decode cL_law 222 = .ok (.iload_n 3, 1) := by decide +kernel
theorem dL_law_223 : decode cL_law 223 = .ok (.iconst 2, 1) := by decide +kernel
theorem dL_law_224 : decode cL_law 224 = .ok (.iadd, 1) := by decide +kernel
theorem dL_law_225 : decode cL_law 225 = .ok (.iaload, 1) := by decide +kernel
theorem dL_law_226 : decode cL_law 226 = .ok (.aload_n 0, 1) := by decide +kernel
theorem dL_law_227 : decode cL_law 227 = .ok (.iload_n 3, 1) := by decide +kernel
theorem dL_law_228 : decode cL_law 228 = .ok (.iconst 3, 1) := by decide +kernel
theorem dL_law_229 : decode cL_law 229 = .ok (.iadd, 1) := by decide +kernel
theorem dL_law_230 : decode cL_law 230 = .ok (.iaload, 1) := by decide +kernel
theorem dL_law_231 : decode cL_law 231 = .ok (.invokevirtual 18, 3) := by decide +kernel
theorem dL_law_234 : decode cL_law 234 = .ok (.aload_n 2, 1) := by decide +kernel
theorem dL_law_235 : decode cL_law 235 = .ok (.aload_n 0, 1) := by decide +kernel
theorem dL_law_236 : decode cL_law 236 = .ok (.iload_n 3, 1) := by decide +kernel
theorem dL_law_237 : decode cL_law 237 = .ok (.iconst 1, 1) := by decide +kernel
theorem dL_law_238 : decode cL_law 238 = .ok (.iadd, 1) := by decide +kernel
theorem dL_law_239 : decode cL_law 239 = .ok (.iaload, 1) := by decide +kernel
theorem dL_law_240 : decode cL_law 240 = .ok (.aload_n 0, 1) := by decide +kernel
theorem dL_law_241 : decode cL_law 241 = .ok (.iload_n 3, 1) := by decide +kernel
theorem dL_law_242 : decode cL_law 242 = .ok (.iconst 2, 1) := by decide +kernel
theorem dL_law_243 : decode cL_law 243 = .ok (.iadd, 1) := by decide +kernel
theorem dL_law_244 : decode cL_law 244 = .ok (.iaload, 1) := by decide +kernel
theorem dL_law_245 : decode cL_law 245 = .ok (.aload_n 0, 1) := by decide +kernel
theorem dL_law_246 : decode cL_law 246 = .ok (.iload_n 3, 1) := by decide +kernel
theorem dL_law_247 : decode cL_law 247 = .ok (.iconst 3, 1) := by decide +kernel
theorem dL_law_248 : decode cL_law 248 = .ok (.iadd, 1) := by decide +kernel
theorem dL_law_249 : decode cL_law 249 = .ok (.iaload, 1) := by decide +kernel
theorem dL_law_250 : decode cL_law 250 = .ok (.invokevirtual 22, 3) := by decide +kernel
theorem dL_law_253 : decode cL_law 253 = .ok (.if_icmp .eq 858, 3) := by decide +kernel
theorem dL_law_256 : decode cL_law 256 = .ok (.iconst 0, 1) := by decide +kernel
theorem dL_law_257 : decode cL_law 257 = .ok (.ireturn, 1) := by decide +kernel
theorem dL_law_258 : decode cL_law 258 = .ok (.aload_n 1, 1) := by decide +kernel
theorem dL_law_259 : decode cL_law 259 = .ok (.aload_n 0, 1) := by decide +kernel
theorem dL_law_260 : decode cL_law 260 = .ok (.iload_n 3, 1) := by decide +kernel
theorem dL_law_261 : decode cL_law 261 = .ok (.iconst 1, 1) := by decide +kernel
theorem dL_law_262 : decode cL_law 262 = .ok (.iadd, 1) := by decide +kernel
theorem dL_law_263 : decode cL_law 263 = .ok (.iaload, 1) := by decide +kernel
theorem dL_law_264 : decode cL_law 264 = .ok (.aload_n 0, 1) := by decide +kernel
theorem dL_law_265 : decode cL_law 265 = .ok (.iload_n 3, 1) := by decide +kernel
theorem dL_law_266 : decode cL_law 266 = .ok (.iconst 2, 1) := by decide +kernel
theorem dL_law_267 : decode cL_law 267 = .ok (.iadd, 1) := by decide +kernel
theorem dL_law_268 : decode cL_law 268 = .ok (.iaload, 1) := by decide +kernel
theorem dL_law_269 : decode cL_law 269 = .ok (.aload_n 0, 1) := by decide +kernel
theorem dL_law_270 : decode cL_law 270 = .ok (.iload_n 3, 1) := by decide +kernel
theorem dL_law_271 : decode cL_law 271 = .ok (.iconst 3, 1) := by decide +kernel
theorem dL_law_272 : decode cL_law 272 = .ok (.iadd, 1) := by decide +kernel
theorem dL_law_273 : decode cL_law 273 = .ok (.iaload, 1) := by decide +kernel
theorem dL_law_274 : decode cL_law 274 = .ok (.invokevirtual 23, 3) := by decide +kernel
theorem dL_law_277 : decode cL_law 277 = .ok (.aload_n 2, 1) := by decide +kernel
theorem dL_law_278 : decode cL_law 278 = .ok (.aload_n 0, 1) := by decide +kernel
theorem dL_law_279 : decode cL_law 279 = .ok (.iload_n 3, 1) := by decide +kernel
theorem dL_law_280 : decode cL_law 280 = .ok (.iconst 1, 1) := by decide +kernel
theorem dL_law_281 : decode cL_law 281 = .ok (.iadd, 1) := by decide +kernel
theorem dL_law_282 : decode cL_law 282 = .ok (.iaload, 1) := by decide +kernel
theorem dL_law_283 : decode cL_law 283 = .ok (.aload_n 0, 1) := by decide +kernel
theorem dL_law_284 : decode cL_law 284 = .ok (.iload_n 3, 1) := by decide +kernel
theorem dL_law_285 : decode cL_law 285 = .ok (.iconst 2, 1) := by decide +kernel
theorem dL_law_286 : decode cL_law 286 = .ok (.iadd, 1) := by decide +kernel
theorem dL_law_287 : decode cL_law 287 = .ok (.iaload, 1) := by decide +kernel
theorem dL_law_288 : decode cL_law 288 = .ok (.aload_n 0, 1) := by decide +kernel
theorem dL_law_289 : decode cL_law 289 = .ok (.iload_n 3, 1) := by decide +kernel
theorem dL_law_290 : decode cL_law 290 = .ok (.iconst 3, 1) := by decide +kernel
theorem dL_law_291 : decode cL_law 291 = .ok (.iadd, 1) := by decide +kernel
theorem dL_law_292 : decode cL_law 292 = .ok (.iaload, 1) := by decide +kernel
theorem dL_law_293 : decode cL_law 293 = .ok (.invokevirtual 26, 3) := by decide +kernel
theorem dL_law_296 : decode cL_law 296 = .ok (.if_icmp .eq 815, 3) := by decide +kernel
theorem dL_law_299 : decode cL_law 299 = .ok (.iconst 0, 1) := by decide +kernel
theorem dL_law_300 : decode cL_law 300 = .ok (.ireturn, 1) := by decide +kernel
theorem dL_law_301 : decode cL_law 301 = .ok (.aload_n 1, 1) := by decide +kernel
theorem dL_law_302 : decode cL_law 302 = .ok (.aload_n 0, 1) := by decide +kernel
theorem dL_law_303 : decode cL_law 303 = .ok (.iload_n 3, 1) := by decide +kernel
theorem dL_law_304 : decode cL_law 304 = .ok (.iconst 1, 1) := by decide +kernel
theorem dL_law_305 : decode cL_law 305 = .ok (.iadd, 1) := by decide +kernel
theorem dL_law_306 : decode cL_law 306 = .ok (.iaload, 1) := by decide +kernel
theorem dL_law_307 : decode cL_law 307 = .ok (.aload_n 0, 1) := by decide +kernel
theorem dL_law_308 : decode cL_law 308 = .ok (.iload_n 3, 1) := by decide +kernel
theorem dL_law_309 : decode cL_law 309 = .ok (.iconst 2, 1) := by decide +kernel
theorem dL_law_310 : decode cL_law 310 = .ok (.iadd, 1) := by decide +kernel
theorem dL_law_311 : decode cL_law 311 = .ok (.iaload, 1) := by decide +kernel
theorem dL_law_312 : decode cL_law 312 = .ok (.invokevirtual 27, 3) := by decide +kernel
theorem dL_law_315 : decode cL_law 315 = .ok (.aload_n 2, 1) := by decide +kernel
theorem dL_law_316 : decode cL_law 316 = .ok (.aload_n 0, 1) := by decide +kernel
theorem dL_law_317 : decode cL_law 317 = .ok (.iload_n 3, 1) := by decide +kernel
theorem dL_law_318 : decode cL_law 318 = .ok (.iconst 1, 1) := by decide +kernel
theorem dL_law_319 : decode cL_law 319 = .ok (.iadd, 1) := by decide +kernel
theorem dL_law_320 : decode cL_law 320 = .ok (.iaload, 1) := by decide +kernel
theorem dL_law_321 : decode cL_law 321 = .ok (.aload_n 0, 1) := by decide +kernel
theorem dL_law_322 : decode cL_law 322 = .ok (.iload_n 3, 1) := by decide +kernel
theorem dL_law_323 : decode cL_law 323 = .ok (.iconst 2, 1) := by decide +kernel
theorem dL_law_324 : decode cL_law 324 = .ok (.iadd, 1) := by decide +kernel
theorem dL_law_325 : decode cL_law 325 = .ok (.iaload, 1) := by decide +kernel
theorem dL_law_326 : decode cL_law 326 = .ok (.invokevirtual 31, 3) := by decide +kernel
theorem dL_law_329 : decode cL_law 329 = .ok (.if_icmp .eq 782, 3) := by decide +kernel
theorem dL_law_332 : decode cL_law 332 = .ok (.iconst 0, 1) := by decide +kernel
theorem dL_law_333 : decode cL_law 333 = .ok (.ireturn, 1) := by decide +kernel
theorem dL_law_334 : decode cL_law 334 = .ok (.aload_n 1, 1) := by decide +kernel
theorem dL_law_335 : decode cL_law 335 = .ok (.aload_n 0, 1) := by decide +kernel
theorem dL_law_336 : decode cL_law 336 = .ok (.iload_n 3, 1) := by decide +kernel
theorem dL_law_337 : decode cL_law 337 = .ok (.iconst 1, 1) := by decide +kernel
theorem dL_law_338 : decode cL_law 338 = .ok (.iadd, 1) := by decide +kernel
theorem dL_law_339 : decode cL_law 339 = .ok (.iaload, 1) := by decide +kernel
theorem dL_law_340 : decode cL_law 340 = .ok (.aload_n 0, 1) := by decide +kernel
theorem dL_law_341 : decode cL_law 341 = .ok (.iload_n 3, 1) := by decide +kernel
theorem dL_law_342 : decode cL_law 342 = .ok (.iconst 2, 1) := by decide +kernel
theorem dL_law_343 : decode cL_law 343 = .ok (.iadd, 1) := by decide +kernel
theorem dL_law_344 : decode cL_law 344 = .ok (.iaload, 1) := by decide +kernel
theorem dL_law_345 : decode cL_law 345 = .ok (.aload_n 0, 1) := by decide +kernel
theorem dL_law_346 : decode cL_law 346 = .ok (.iload_n 3, 1) := by decide +kernel
theorem dL_law_347 : decode cL_law 347 = .ok (.iconst 3, 1) := by decide +kernel
theorem dL_law_348 : decode cL_law 348 = .ok (.iadd, 1) := by decide +kernel
theorem dL_law_349 : decode cL_law 349 = .ok (.iaload, 1) := by decide +kernel
theorem dL_law_350 : decode cL_law 350 = .ok (.aload_n 0, 1) := by decide +kernel
theorem dL_law_351 : decode cL_law 351 = .ok (.iload_n 3, 1) := by decide +kernel
theorem dL_law_352 : decode cL_law 352 = .ok (.iconst 4, 1) := by decide +kernel
theorem dL_law_353 : decode cL_law 353 = .ok (.iadd, 1) := by decide +kernel
theorem dL_law_354 : decode cL_law 354 = .ok (.iaload, 1) := by decide +kernel
theorem dL_law_355 : decode cL_law 355 = .ok (.invokevirtual 32, 3) := by decide +kernel
theorem dL_law_358 : decode cL_law 358 = .ok (.aload_n 2, 1) := by decide +kernel
theorem dL_law_359 : decode cL_law 359 = .ok (.aload_n 0, 1) := by decide +kernel
theorem dL_law_360 : decode cL_law 360 = .ok (.iload_n 3, 1) := by decide +kernel
theorem dL_law_361 : decode cL_law 361 = .ok (.iconst 1, 1) := by decide +kernel
theorem dL_law_362 : decode cL_law 362 = .ok (.iadd, 1) := by decide +kernel
theorem dL_law_363 : decode cL_law 363 = .ok (.iaload, 1) := by decide +kernel
theorem dL_law_364 : decode cL_law 364 = .ok (.aload_n 0, 1) := by decide +kernel
theorem dL_law_365 : decode cL_law 365 = .ok (.iload_n 3, 1) := by decide +kernel
theorem dL_law_366 : decode cL_law 366 = .ok (.iconst 2, 1) := by decide +kernel
theorem dL_law_367 : decode cL_law 367 = .ok (.iadd, 1) := by decide +kernel
theorem dL_law_368 : decode cL_law 368 = .ok (.iaload, 1) := by decide +kernel
theorem dL_law_369 : decode cL_law 369 = .ok (.aload_n 0, 1) := by decide +kernel
theorem dL_law_370 : decode cL_law 370 = .ok (.iload_n 3, 1) := by decide +kernel
theorem dL_law_371 : decode cL_law 371 = .ok (.iconst 3, 1) := by decide +kernel
theorem dL_law_372 : decode cL_law 372 = .ok (.iadd, 1) := by decide +kernel
theorem dL_law_373 : decode cL_law 373 = .ok (.iaload, 1) := by decide +kernel
theorem dL_law_374 : decode cL_law 374 = .ok (.aload_n 0, 1) := by decide +kernel
theorem dL_law_375 : decode cL_law 375 = .ok (.iload_n 3, 1) := by decide +kernel
theorem dL_law_376 : decode cL_law 376 = .ok (.iconst 4, 1) := by decide +kernel
theorem dL_law_377 : decode cL_law 377 = .ok (.iadd, 1) := by decide +kernel
theorem dL_law_378 : decode cL_law 378 = .ok (.iaload, 1) := by decide +kernel
theorem dL_law_379 : decode cL_law 379 = .ok (.invokevirtual 36, 3) := by decide +kernel
theorem dL_law_382 : decode cL_law 382 = .ok (.if_icmp .eq 729, 3) := by decide +kernel
theorem dL_law_385 : decode cL_law 385 = .ok (.iconst 0, 1) := by decide +kernel
theorem dL_law_386 : decode cL_law 386 = .ok (.ireturn, 1) := by decide +kernel
theorem dL_law_387 : decode cL_law 387 = .ok (.aload_n 1, 1) := by decide +kernel
theorem dL_law_388 : decode cL_law 388 = .ok (.aload_n 0, 1) := by decide +kernel
theorem dL_law_389 : decode cL_law 389 = .ok (.iload_n 3, 1) := by decide +kernel
theorem dL_law_390 : decode cL_law 390 = .ok (.iconst 1, 1) := by decide +kernel
theorem dL_law_391 : decode cL_law 391 = .ok (.iadd, 1) := by decide +kernel
theorem dL_law_392 : decode cL_law 392 = .ok (.iaload, 1) := by decide +kernel
theorem dL_law_393 : decode cL_law 393 = .ok (.aload_n 0, 1) := by decide +kernel
theorem dL_law_394 : decode cL_law 394 = .ok (.iload_n 3, 1) := by decide +kernel
theorem dL_law_395 : decode cL_law 395 = .ok (.iconst 2, 1) := by decide +kernel
theorem dL_law_396 : decode cL_law 396 = .ok (.iadd, 1) := by decide +kernel
theorem dL_law_397 : decode cL_law 397 = .ok (.iaload, 1) := by decide +kernel
theorem dL_law_398 : decode cL_law 398 = .ok (.invokevirtual 37, 3) := by decide +kernel
theorem dL_law_401 : decode cL_law 401 = .ok (.aload_n 2, 1) := by decide +kernel
theorem dL_law_402 : decode cL_law 402 = .ok (.aload_n 0, 1) := by decide +kernel
theorem dL_law_403 : decode cL_law 403 = .ok (.iload_n 3, 1) := by decide +kernel
theorem dL_law_404 : decode cL_law 404 = .ok (.iconst 1, 1) := by decide +kernel
theorem dL_law_405 : decode cL_law 405 = .ok (.iadd, 1) := by decide +kernel
theorem dL_law_406 : decode cL_law 406 = .ok (.iaload, 1) := by decide +kernel
theorem dL_law_407 : decode cL_law 407 = .ok (.aload_n 0, 1) := by decide +kernel
theorem dL_law_408 : decode cL_law 408 = .ok (.iload_n 3, 1) := by decide +kernel
theorem dL_law_409 : decode cL_law 409 = .ok (.iconst 2, 1) := by decide +kernel
theorem dL_law_410 : decode cL_law 410 = .ok (.iadd, 1) := by decide +kernel
theorem dL_law_411 : decode cL_law 411 = .ok (.iaload, 1) := by decide +kernel
theorem dL_law_412 : decode cL_law 412 = .ok (.invokevirtual 40, 3) := by decide +kernel
theorem dL_law_415 : decode cL_law 415 = .ok (.if_icmp .eq 696, 3) := by decide +kernel
theorem dL_law_418 : decode cL_law 418 = .ok (.iconst 0, 1) := by decide +kernel
theorem dL_law_419 : decode cL_law 419 = .ok (.ireturn, 1) := by decide +kernel
theorem dL_law_420 : decode cL_law 420 = .ok (.aload_n 1, 1) := by decide +kernel
theorem dL_law_421 : decode cL_law 421 = .ok (.aload_n 0, 1) := by decide +kernel
theorem dL_law_422 : decode cL_law 422 = .ok (.iload_n 3, 1) := by decide +kernel
theorem dL_law_423 : decode cL_law 423 = .ok (.iconst 1, 1) := by decide +kernel
theorem dL_law_424 : decode cL_law 424 = .ok (.iadd, 1) := by decide +kernel
theorem dL_law_425 : decode cL_law 425 = .ok (.iaload, 1) := by decide +kernel
theorem dL_law_426 : decode cL_law 426 = .ok (.aload_n 0, 1) := by decide +kernel
theorem dL_law_427 : decode cL_law 427 = .ok (.iload_n 3, 1) := by decide +kernel
theorem dL_law_428 : decode cL_law 428 = .ok (.iconst 2, 1) := by decide +kernel
theorem dL_law_429 : decode cL_law 429 = .ok (.iadd, 1) := by decide +kernel
theorem dL_law_430 : decode cL_law 430 = .ok (.iaload, 1) := by decide +kernel
theorem dL_law_431 : decode cL_law 431 = .ok (.aload_n 0, 1) := by decide +kernel
theorem dL_law_432 : decode cL_law 432 = .ok (.iload_n 3, 1) := by decide +kernel
theorem dL_law_433 : decode cL_law 433 = .ok (.iconst 3, 1) := by decide +kernel
theorem dL_law_434 : decode cL_law 434 = .ok (.iadd, 1) := by decide +kernel
theorem dL_law_435 : decode cL_law 435 = .ok (.iaload, 1) := by decide +kernel
theorem dL_law_436 : decode cL_law 436 = .ok (.invokevirtual 41, 3) := by decide +kernel
theorem dL_law_439 : decode cL_law 439 = .ok (.aload_n 2, 1) := by decide +kernel
theorem dL_law_440 : decode cL_law 440 = .ok (.aload_n 0, 1) := by decide +kernel
theorem dL_law_441 : decode cL_law 441 = .ok (.iload_n 3, 1) := by decide +kernel
theorem dL_law_442 : decode cL_law 442 = .ok (.iconst 1, 1) := by decide +kernel
theorem dL_law_443 : decode cL_law 443 = .ok (.iadd, 1) := by decide +kernel
theorem dL_law_444 : decode cL_law 444 = .ok (.iaload, 1) := by decide +kernel
theorem dL_law_445 : decode cL_law 445 = .ok (.aload_n 0, 1) := by decide +kernel
theorem dL_law_446 : decode cL_law 446 = .ok (.iload_n 3, 1) := by decide +kernel
theorem dL_law_447 : decode cL_law 447 = .ok (.iconst 2, 1) := by decide +kernel
theorem dL_law_448 : decode cL_law 448 = .ok (.iadd, 1) := by decide +kernel
theorem dL_law_449 : decode cL_law 449 = .ok (.iaload, 1) := by decide +kernel
theorem dL_law_450 : decode cL_law 450 = .ok (.aload_n 0, 1) := by decide +kernel
theorem dL_law_451 : decode cL_law 451 = .ok (.iload_n 3, 1) := by decide +kernel
theorem dL_law_452 : decode cL_law 452 = .ok (.iconst 3, 1) := by decide +kernel
theorem dL_law_453 : decode cL_law 453 = .ok (.iadd, 1) := by decide +kernel
theorem dL_law_454 : decode cL_law 454 = .ok (.iaload, 1) := by decide +kernel
theorem dL_law_455 : decode cL_law 455 = .ok (.invokevirtual 44, 3) := by decide +kernel
theorem dL_law_458 : decode cL_law 458 = .ok (.if_icmp .eq 653, 3) := by decide +kernel
theorem dL_law_461 : decode cL_law 461 = .ok (.iconst 0, 1) := by decide +kernel
theorem dL_law_462 : decode cL_law 462 = .ok (.ireturn, 1) := by decide +kernel
theorem dL_law_463 : decode cL_law 463 = .ok (.aload_n 1, 1) := by decide +kernel
theorem dL_law_464 : decode cL_law 464 = .ok (.aload_n 0, 1) := by decide +kernel
theorem dL_law_465 : decode cL_law 465 = .ok (.iload_n 3, 1) := by decide +kernel
theorem dL_law_466 : decode cL_law 466 = .ok (.iconst 1, 1) := by decide +kernel
theorem dL_law_467 : decode cL_law 467 = .ok (.iadd, 1) := by decide +kernel
theorem dL_law_468 : decode cL_law 468 = .ok (.iaload, 1) := by decide +kernel
theorem dL_law_469 : decode cL_law 469 = .ok (.invokevirtual 45, 3) := by decide +kernel
theorem dL_law_472 : decode cL_law 472 = .ok (.aload_n 2, 1) := by decide +kernel
theorem dL_law_473 : decode cL_law 473 = .ok (.aload_n 0, 1) := by decide +kernel
theorem dL_law_474 : decode cL_law 474 = .ok (.iload_n 3, 1) := by decide +kernel
theorem dL_law_475 : decode cL_law 475 = .ok (.iconst 1, 1) := by decide +kernel
theorem dL_law_476 : decode cL_law 476 = .ok (.iadd, 1) := by decide +kernel
theorem dL_law_477 : decode cL_law 477 = .ok (.iaload, 1) := by decide +kernel
theorem dL_law_478 : decode cL_law 478 = .ok (.invokevirtual 49, 3) := by decide +kernel
theorem dL_law_481 : decode cL_law 481 = .ok (.if_icmp .eq 630, 3) := by decide +kernel
theorem dL_law_484 : decode cL_law 484 = .ok (.iconst 0, 1) := by decide +kernel
theorem dL_law_485 : decode cL_law 485 = .ok (.ireturn, 1) := by decide +kernel
theorem dL_law_486 : decode cL_law 486 = .ok (.aload_n 1, 1) := by decide +kernel
theorem dL_law_487 : decode cL_law 487 = .ok (.aload_n 0, 1) := by decide +kernel
theorem dL_law_488 : decode cL_law 488 = .ok (.iload_n 3, 1) := by decide +kernel
theorem dL_law_489 : decode cL_law 489 = .ok (.iconst 1, 1) := by decide +kernel
theorem dL_law_490 : decode cL_law 490 = .ok (.iadd, 1) := by decide +kernel
theorem dL_law_491 : decode cL_law 491 = .ok (.iaload, 1) := by decide +kernel
theorem dL_law_492 : decode cL_law 492 = .ok (.aload_n 0, 1) := by decide +kernel
theorem dL_law_493 : decode cL_law 493 = .ok (.iload_n 3, 1) := by decide +kernel
theorem dL_law_494 : decode cL_law 494 = .ok (.iconst 2, 1) := by decide +kernel
theorem dL_law_495 : decode cL_law 495 = .ok (.iadd, 1) := by decide +kernel
theorem dL_law_496 : decode cL_law 496 = .ok (.iaload, 1) := by decide +kernel
theorem dL_law_497 : decode cL_law 497 = .ok (.invokevirtual 50, 3) := by decide +kernel
theorem dL_law_500 : decode cL_law 500 = .ok (.aload_n 2, 1) := by decide +kernel
theorem dL_law_501 : decode cL_law 501 = .ok (.aload_n 0, 1) := by decide +kernel
theorem dL_law_502 : decode cL_law 502 = .ok (.iload_n 3, 1) := by decide +kernel
theorem dL_law_503 : decode cL_law 503 = .ok (.iconst 1, 1) := by decide +kernel
theorem dL_law_504 : decode cL_law 504 = .ok (.iadd, 1) := by decide +kernel
theorem dL_law_505 : decode cL_law 505 = .ok (.iaload, 1) := by decide +kernel
theorem dL_law_506 : decode cL_law 506 = .ok (.aload_n 0, 1) := by decide +kernel
theorem dL_law_507 : decode cL_law 507 = .ok (.iload_n 3, 1) := by decide +kernel
theorem dL_law_508 : decode cL_law 508 = .ok (.iconst 2, 1) := by decide +kernel
theorem dL_law_509 : decode cL_law 509 = .ok (.iadd, 1) := by decide +kernel
theorem dL_law_510 : decode cL_law 510 = .ok (.iaload, 1) := by decide +kernel
theorem dL_law_511 : decode cL_law 511 = .ok (.invokevirtual 53, 3) := by decide +kernel
theorem dL_law_514 : decode cL_law 514 = .ok (.if_icmp .eq 597, 3) := by decide +kernel
theorem dL_law_517 : decode cL_law 517 = .ok (.iconst 0, 1) := by decide +kernel
theorem dL_law_518 : decode cL_law 518 = .ok (.ireturn, 1) := by decide +kernel
theorem dL_law_519 : decode cL_law 519 = .ok (.aload_n 1, 1) := by decide +kernel
theorem dL_law_520 : decode cL_law 520 = .ok (.aload_n 0, 1) := by decide +kernel
theorem dL_law_521 : decode cL_law 521 = .ok (.iload_n 3, 1) := by decide +kernel
theorem dL_law_522 : decode cL_law 522 = .ok (.iconst 1, 1) := by decide +kernel
theorem dL_law_523 : decode cL_law 523 = .ok (.iadd, 1) := by decide +kernel
theorem dL_law_524 : decode cL_law 524 = .ok (.iaload, 1) := by decide +kernel
theorem dL_law_525 : decode cL_law 525 = .ok (.aload_n 0, 1) := by decide +kernel
theorem dL_law_526 : decode cL_law 526 = .ok (.iload_n 3, 1) := by decide +kernel
theorem dL_law_527 : decode cL_law 527 = .ok (.iconst 2, 1) := by decide +kernel
theorem dL_law_528 : decode cL_law 528 = .ok (.iadd, 1) := by decide +kernel
theorem dL_law_529 : decode cL_law 529 = .ok (.iaload, 1) := by decide +kernel
theorem dL_law_530 : decode cL_law 530 = .ok (.invokevirtual 54, 3) := by decide +kernel
theorem dL_law_533 : decode cL_law 533 = .ok (.aload_n 2, 1) := by decide +kernel
theorem dL_law_534 : decode cL_law 534 = .ok (.aload_n 0, 1) := by decide +kernel
theorem dL_law_535 : decode cL_law 535 = .ok (.iload_n 3, 1) := by decide +kernel
theorem dL_law_536 : decode cL_law 536 = .ok (.iconst 1, 1) := by decide +kernel
theorem dL_law_537 : decode cL_law 537 = .ok (.iadd, 1) := by decide +kernel
theorem dL_law_538 : decode cL_law 538 = .ok (.iaload, 1) := by decide +kernel
theorem dL_law_539 : decode cL_law 539 = .ok (.aload_n 0, 1) := by decide +kernel
theorem dL_law_540 : decode cL_law 540 = .ok (.iload_n 3, 1) := by decide +kernel
theorem dL_law_541 : decode cL_law 541 = .ok (.iconst 2, 1) := by decide +kernel
theorem dL_law_542 : decode cL_law 542 = .ok (.iadd, 1) := by decide +kernel
theorem dL_law_543 : decode cL_law 543 = .ok (.iaload, 1) := by decide +kernel
theorem dL_law_544 : decode cL_law 544 = .ok (.invokevirtual 57, 3) := by decide +kernel
theorem dL_law_547 : decode cL_law 547 = .ok (.if_icmp .eq 564, 3) := by decide +kernel
theorem dL_law_550 : decode cL_law 550 = .ok (.iconst 0, 1) := by decide +kernel
theorem dL_law_551 : decode cL_law 551 = .ok (.ireturn, 1) := by decide +kernel
theorem dL_law_552 : decode cL_law 552 = .ok (.aload_n 1, 1) := by decide +kernel
theorem dL_law_553 : decode cL_law 553 = .ok (.aload_n 0, 1) := by decide +kernel
theorem dL_law_554 : decode cL_law 554 = .ok (.iload_n 3, 1) := by decide +kernel
theorem dL_law_555 : decode cL_law 555 = .ok (.iconst 1, 1) := by decide +kernel
theorem dL_law_556 : decode cL_law 556 = .ok (.iadd, 1) := by decide +kernel
theorem dL_law_557 : decode cL_law 557 = .ok (.iaload, 1) := by decide +kernel
theorem dL_law_558 : decode cL_law 558 = .ok (.aload_n 0, 1) := by decide +kernel
theorem dL_law_559 : decode cL_law 559 = .ok (.iload_n 3, 1) := by decide +kernel
theorem dL_law_560 : decode cL_law 560 = .ok (.iconst 2, 1) := by decide +kernel
theorem dL_law_561 : decode cL_law 561 = .ok (.iadd, 1) := by decide +kernel
theorem dL_law_562 : decode cL_law 562 = .ok (.iaload, 1) := by decide +kernel
theorem dL_law_563 : decode cL_law 563 = .ok (.invokevirtual 58, 3) := by decide +kernel
theorem dL_law_566 : decode cL_law 566 = .ok (.aload_n 2, 1) := by decide +kernel
theorem dL_law_567 : decode cL_law 567 = .ok (.aload_n 0, 1) := by decide +kernel
theorem dL_law_568 : decode cL_law 568 = .ok (.iload_n 3, 1) := by decide +kernel
theorem dL_law_569 : decode cL_law 569 = .ok (.iconst 1, 1) := by decide +kernel
theorem dL_law_570 : decode cL_law 570 = .ok (.iadd, 1) := by decide +kernel
theorem dL_law_571 : decode cL_law 571 = .ok (.iaload, 1) := by decide +kernel
theorem dL_law_572 : decode cL_law 572 = .ok (.aload_n 0, 1) := by decide +kernel
theorem dL_law_573 : decode cL_law 573 = .ok (.iload_n 3, 1) := by decide +kernel
theorem dL_law_574 : decode cL_law 574 = .ok (.iconst 2, 1) := by decide +kernel
theorem dL_law_575 : decode cL_law 575 = .ok (.iadd, 1) := by decide +kernel
theorem dL_law_576 : decode cL_law 576 = .ok (.iaload, 1) := by decide +kernel
theorem dL_law_577 : decode cL_law 577 = .ok (.invokevirtual 61, 3) := by decide +kernel
theorem dL_law_580 : decode cL_law 580 = .ok (.if_icmp .eq 531, 3) := by decide +kernel
theorem dL_law_583 : decode cL_law 583 = .ok (.iconst 0, 1) := by decide +kernel
theorem dL_law_584 : decode cL_law 584 = .ok (.ireturn, 1) := by decide +kernel
theorem dL_law_585 : decode cL_law 585 = .ok (.aload_n 1, 1) := by decide +kernel
theorem dL_law_586 : decode cL_law 586 = .ok (.aload_n 0, 1) := by decide +kernel
theorem dL_law_587 : decode cL_law 587 = .ok (.iload_n 3, 1) := by decide +kernel
theorem dL_law_588 : decode cL_law 588 = .ok (.iconst 1, 1) := by decide +kernel
theorem dL_law_589 : decode cL_law 589 = .ok (.iadd, 1) := by decide +kernel
theorem dL_law_590 : decode cL_law 590 = .ok (.iaload, 1) := by decide +kernel
theorem dL_law_591 : decode cL_law 591 = .ok (.aload_n 0, 1) := by decide +kernel
theorem dL_law_592 : decode cL_law 592 = .ok (.iload_n 3, 1) := by decide +kernel
theorem dL_law_593 : decode cL_law 593 = .ok (.iconst 2, 1) := by decide +kernel
theorem dL_law_594 : decode cL_law 594 = .ok (.iadd, 1) := by decide +kernel
theorem dL_law_595 : decode cL_law 595 = .ok (.iaload, 1) := by decide +kernel
theorem dL_law_596 : decode cL_law 596 = .ok (.aload_n 0, 1) := by decide +kernel
theorem dL_law_597 : decode cL_law 597 = .ok (.iload_n 3, 1) := by decide +kernel
theorem dL_law_598 : decode cL_law 598 = .ok (.iconst 3, 1) := by decide +kernel
theorem dL_law_599 : decode cL_law 599 = .ok (.iadd, 1) := by decide +kernel
theorem dL_law_600 : decode cL_law 600 = .ok (.iaload, 1) := by decide +kernel
theorem dL_law_601 : decode cL_law 601 = .ok (.invokevirtual 62, 3) := by decide +kernel
theorem dL_law_604 : decode cL_law 604 = .ok (.aload_n 2, 1) := by decide +kernel
theorem dL_law_605 : decode cL_law 605 = .ok (.aload_n 0, 1) := by decide +kernel
theorem dL_law_606 : decode cL_law 606 = .ok (.iload_n 3, 1) := by decide +kernel
theorem dL_law_607 : decode cL_law 607 = .ok (.iconst 1, 1) := by decide +kernel
theorem dL_law_608 : decode cL_law 608 = .ok (.iadd, 1) := by decide +kernel
theorem dL_law_609 : decode cL_law 609 = .ok (.iaload, 1) := by decide +kernel
theorem dL_law_610 : decode cL_law 610 = .ok (.aload_n 0, 1) := by decide +kernel
theorem dL_law_611 : decode cL_law 611 = .ok (.iload_n 3, 1) := by decide +kernel
theorem dL_law_612 : decode cL_law 612 = .ok (.iconst 2, 1) := by decide +kernel
theorem dL_law_613 : decode cL_law 613 = .ok (.iadd, 1) := by decide +kernel
theorem dL_law_614 : decode cL_law 614 = .ok (.iaload, 1) := by decide +kernel
theorem dL_law_615 : decode cL_law 615 = .ok (.aload_n 0, 1) := by decide +kernel
theorem dL_law_616 : decode cL_law 616 = .ok (.iload_n 3, 1) := by decide +kernel
theorem dL_law_617 : decode cL_law 617 = .ok (.iconst 3, 1) := by decide +kernel
theorem dL_law_618 : decode cL_law 618 = .ok (.iadd, 1) := by decide +kernel
theorem dL_law_619 : decode cL_law 619 = .ok (.iaload, 1) := by decide +kernel
theorem dL_law_620 : decode cL_law 620 = .ok (.invokevirtual 65, 3) := by decide +kernel
theorem dL_law_623 : decode cL_law 623 = .ok (.if_icmp .eq 488, 3) := by decide +kernel
theorem dL_law_626 : decode cL_law 626 = .ok (.iconst 0, 1) := by decide +kernel
theorem dL_law_627 : decode cL_law 627 = .ok (.ireturn, 1) := by decide +kernel
theorem dL_law_628 : decode cL_law 628 = .ok (.aload_n 1, 1) := by decide +kernel
theorem dL_law_629 : decode cL_law 629 = .ok (.aload_n 0, 1) := by decide +kernel
theorem dL_law_630 : decode cL_law 630 = .ok (.iload_n 3, 1) := by decide +kernel
theorem dL_law_631 : decode cL_law 631 = .ok (.iconst 1, 1) := by decide +kernel
theorem dL_law_632 : decode cL_law 632 = .ok (.iadd, 1) := by decide +kernel
theorem dL_law_633 : decode cL_law 633 = .ok (.iaload, 1) := by decide +kernel
theorem dL_law_634 : decode cL_law 634 = .ok (.aload_n 0, 1) := by decide +kernel
theorem dL_law_635 : decode cL_law 635 = .ok (.iload_n 3, 1) := by decide +kernel
theorem dL_law_636 : decode cL_law 636 = .ok (.iconst 2, 1) := by decide +kernel
theorem dL_law_637 : decode cL_law 637 = .ok (.iadd, 1) := by decide +kernel
theorem dL_law_638 : decode cL_law 638 = .ok (.iaload, 1) := by decide +kernel
theorem dL_law_639 : decode cL_law 639 = .ok (.aload_n 0, 1) := by decide +kernel
theorem dL_law_640 : decode cL_law 640 = .ok (.iload_n 3, 1) := by decide +kernel
theorem dL_law_641 : decode cL_law 641 = .ok (.iconst 3, 1) := by decide +kernel
theorem dL_law_642 : decode cL_law 642 = .ok (.iadd, 1) := by decide +kernel
theorem dL_law_643 : decode cL_law 643 = .ok (.iaload, 1) := by decide +kernel
theorem dL_law_644 : decode cL_law 644 = .ok (.invokevirtual 66, 3) := by decide +kernel
theorem dL_law_647 : decode cL_law 647 = .ok (.aload_n 2, 1) := by decide +kernel
theorem dL_law_648 : decode cL_law 648 = .ok (.aload_n 0, 1) := by decide +kernel
theorem dL_law_649 : decode cL_law 649 = .ok (.iload_n 3, 1) := by decide +kernel
theorem dL_law_650 : decode cL_law 650 = .ok (.iconst 1, 1) := by decide +kernel
theorem dL_law_651 : decode cL_law 651 = .ok (.iadd, 1) := by decide +kernel
theorem dL_law_652 : decode cL_law 652 = .ok (.iaload, 1) := by decide +kernel
theorem dL_law_653 : decode cL_law 653 = .ok (.aload_n 0, 1) := by decide +kernel
theorem dL_law_654 : decode cL_law 654 = .ok (.iload_n 3, 1) := by decide +kernel
theorem dL_law_655 : decode cL_law 655 = .ok (.iconst 2, 1) := by decide +kernel
theorem dL_law_656 : decode cL_law 656 = .ok (.iadd, 1) := by decide +kernel
theorem dL_law_657 : decode cL_law 657 = .ok (.iaload, 1) := by decide +kernel
theorem dL_law_658 : decode cL_law 658 = .ok (.aload_n 0, 1) := by decide +kernel
theorem dL_law_659 : decode cL_law 659 = .ok (.iload_n 3, 1) := by decide +kernel
theorem dL_law_660 : decode cL_law 660 = .ok (.iconst 3, 1) := by decide +kernel
theorem dL_law_661 : decode cL_law 661 = .ok (.iadd, 1) := by decide +kernel
theorem dL_law_662 : decode cL_law 662 = .ok (.iaload, 1) := by decide +kernel
theorem dL_law_663 : decode cL_law 663 = .ok (.invokevirtual 69, 3) := by decide +kernel
theorem dL_law_666 : decode cL_law 666 = .ok (.if_icmp .eq 445, 3) := by decide +kernel
theorem dL_law_669 : decode cL_law 669 = .ok (.iconst 0, 1) := by decide +kernel
theorem dL_law_670 : decode cL_law 670 = .ok (.ireturn, 1) := by decide +kernel
theorem dL_law_671 : decode cL_law 671 = .ok (.aload_n 1, 1) := by decide +kernel
theorem dL_law_672 : decode cL_law 672 = .ok (.aload_n 0, 1) := by decide +kernel
theorem dL_law_673 : decode cL_law 673 = .ok (.iload_n 3, 1) := by decide +kernel
theorem dL_law_674 : decode cL_law 674 = .ok (.iconst 1, 1) := by decide +kernel
theorem dL_law_675 : decode cL_law 675 = .ok (.iadd, 1) := by decide +kernel
theorem dL_law_676 : decode cL_law 676 = .ok (.iaload, 1) := by decide +kernel
theorem dL_law_677 : decode cL_law 677 = .ok (.aload_n 0, 1) := by decide +kernel
theorem dL_law_678 : decode cL_law 678 = .ok (.iload_n 3, 1) := by decide +kernel
theorem dL_law_679 : decode cL_law 679 = .ok (.iconst 2, 1) := by decide +kernel
theorem dL_law_680 : decode cL_law 680 = .ok (.iadd, 1) := by decide +kernel
theorem dL_law_681 : decode cL_law 681 = .ok (.iaload, 1) := by decide +kernel
theorem dL_law_682 : decode cL_law 682 = .ok (.invokevirtual 70, 3) := by decide +kernel
theorem dL_law_685 : decode cL_law 685 = .ok (.aload_n 2, 1) := by decide +kernel
theorem dL_law_686 : decode cL_law 686 = .ok (.aload_n 0, 1) := by decide +kernel
theorem dL_law_687 : decode cL_law 687 = .ok (.iload_n 3, 1) := by decide +kernel
theorem dL_law_688 : decode cL_law 688 = .ok (.iconst 1, 1) := by decide +kernel
theorem dL_law_689 : decode cL_law 689 = .ok (.iadd, 1) := by decide +kernel
theorem dL_law_690 : decode cL_law 690 = .ok (.iaload, 1) := by decide +kernel
theorem dL_law_691 : decode cL_law 691 = .ok (.aload_n 0, 1) := by decide +kernel
theorem dL_law_692 : decode cL_law 692 = .ok (.iload_n 3, 1) := by decide +kernel
theorem dL_law_693 : decode cL_law 693 = .ok (.iconst 2, 1) := by decide +kernel
theorem dL_law_694 : decode cL_law 694 = .ok (.iadd, 1) := by decide +kernel
theorem dL_law_695 : decode cL_law 695 = .ok (.iaload, 1) := by decide +kernel
theorem dL_law_696 : decode cL_law 696 = .ok (.invokevirtual 73, 3) := by decide +kernel
theorem dL_law_699 : decode cL_law 699 = .ok (.if_icmp .eq 412, 3) := by decide +kernel
theorem dL_law_702 : decode cL_law 702 = .ok (.iconst 0, 1) := by decide +kernel
theorem dL_law_703 : decode cL_law 703 = .ok (.ireturn, 1) := by decide +kernel
theorem dL_law_704 : decode cL_law 704 = .ok (.aload_n 1, 1) := by decide +kernel
theorem dL_law_705 : decode cL_law 705 = .ok (.aload_n 0, 1) := by decide +kernel
theorem dL_law_706 : decode cL_law 706 = .ok (.iload_n 3, 1) := by decide +kernel
theorem dL_law_707 : decode cL_law 707 = .ok (.iconst 1, 1) := by decide +kernel
theorem dL_law_708 : decode cL_law 708 = .ok (.iadd, 1) := by decide +kernel
theorem dL_law_709 : decode cL_law 709 = .ok (.iaload, 1) := by decide +kernel
theorem dL_law_710 : decode cL_law 710 = .ok (.aload_n 0, 1) := by decide +kernel
theorem dL_law_711 : decode cL_law 711 = .ok (.iload_n 3, 1) := by decide +kernel
theorem dL_law_712 : decode cL_law 712 = .ok (.iconst 2, 1) := by decide +kernel
theorem dL_law_713 : decode cL_law 713 = .ok (.iadd, 1) := by decide +kernel
theorem dL_law_714 : decode cL_law 714 = .ok (.iaload, 1) := by decide +kernel
theorem dL_law_715 : decode cL_law 715 = .ok (.aload_n 0, 1) := by decide +kernel
theorem dL_law_716 : decode cL_law 716 = .ok (.iload_n 3, 1) := by decide +kernel
theorem dL_law_717 : decode cL_law 717 = .ok (.iconst 3, 1) := by decide +kernel
theorem dL_law_718 : decode cL_law 718 = .ok (.iadd, 1) := by decide +kernel
theorem dL_law_719 : decode cL_law 719 = .ok (.iaload, 1) := by decide +kernel
theorem dL_law_720 : decode cL_law 720 = .ok (.aload_n 0, 1) := by decide +kernel
theorem dL_law_721 : decode cL_law 721 = .ok (.iload_n 3, 1) := by decide +kernel
theorem dL_law_722 : decode cL_law 722 = .ok (.iconst 4, 1) := by decide +kernel
theorem dL_law_723 : decode cL_law 723 = .ok (.iadd, 1) := by decide +kernel
theorem dL_law_724 : decode cL_law 724 = .ok (.iaload, 1) := by decide +kernel
theorem dL_law_725 : decode cL_law 725 = .ok (.invokevirtual 74, 3) := by decide +kernel
theorem dL_law_728 : decode cL_law 728 = .ok (.aload_n 2, 1) := by decide +kernel
theorem dL_law_729 : decode cL_law 729 = .ok (.aload_n 0, 1) := by decide +kernel
theorem dL_law_730 : decode cL_law 730 = .ok (.iload_n 3, 1) := by decide +kernel
theorem dL_law_731 : decode cL_law 731 = .ok (.iconst 1, 1) := by decide +kernel
theorem dL_law_732 : decode cL_law 732 = .ok (.iadd, 1) := by decide +kernel
theorem dL_law_733 : decode cL_law 733 = .ok (.iaload, 1) := by decide +kernel
theorem dL_law_734 : decode cL_law 734 = .ok (.aload_n 0, 1) := by decide +kernel
theorem dL_law_735 : decode cL_law 735 = .ok (.iload_n 3, 1) := by decide +kernel
theorem dL_law_736 : decode cL_law 736 = .ok (.iconst 2, 1) := by decide +kernel
theorem dL_law_737 : decode cL_law 737 = .ok (.iadd, 1) := by decide +kernel
theorem dL_law_738 : decode cL_law 738 = .ok (.iaload, 1) := by decide +kernel
theorem dL_law_739 : decode cL_law 739 = .ok (.aload_n 0, 1) := by decide +kernel
theorem dL_law_740 : decode cL_law 740 = .ok (.iload_n 3, 1) := by decide +kernel
theorem dL_law_741 : decode cL_law 741 = .ok (.iconst 3, 1) := by decide +kernel
theorem dL_law_742 : decode cL_law 742 = .ok (.iadd, 1) := by decide +kernel
theorem dL_law_743 : decode cL_law 743 = .ok (.iaload, 1) := by decide +kernel
theorem dL_law_744 : decode cL_law 744 = .ok (.aload_n 0, 1) := by decide +kernel
theorem dL_law_745 : decode cL_law 745 = .ok (.iload_n 3, 1) := by decide +kernel
theorem dL_law_746 : decode cL_law 746 = .ok (.iconst 4, 1) := by decide +kernel
theorem dL_law_747 : decode cL_law 747 = .ok (.iadd, 1) := by decide +kernel
theorem dL_law_748 : decode cL_law 748 = .ok (.iaload, 1) := by decide +kernel
theorem dL_law_749 : decode cL_law 749 = .ok (.invokevirtual 77, 3) := by decide +kernel
theorem dL_law_752 : decode cL_law 752 = .ok (.if_icmp .eq 359, 3) := by decide +kernel
theorem dL_law_755 : decode cL_law 755 = .ok (.iconst 0, 1) := by decide +kernel
theorem dL_law_756 : decode cL_law 756 = .ok (.ireturn, 1) := by decide +kernel
theorem dL_law_757 : decode cL_law 757 = .ok (.aload_n 1, 1) := by decide +kernel
theorem dL_law_758 : decode cL_law 758 = .ok (.aload_n 0, 1) := by decide +kernel
theorem dL_law_759 : decode cL_law 759 = .ok (.iload_n 3, 1) := by decide +kernel
theorem dL_law_760 : decode cL_law 760 = .ok (.iconst 1, 1) := by decide +kernel
theorem dL_law_761 : decode cL_law 761 = .ok (.iadd, 1) := by decide +kernel
theorem dL_law_762 : decode cL_law 762 = .ok (.iaload, 1) := by decide +kernel
theorem dL_law_763 : decode cL_law 763 = .ok (.invokevirtual 78, 3) := by decide +kernel
theorem dL_law_766 : decode cL_law 766 = .ok (.aload_n 2, 1) := by decide +kernel
theorem dL_law_767 : decode cL_law 767 = .ok (.aload_n 0, 1) := by decide +kernel
theorem dL_law_768 : decode cL_law 768 = .ok (.iload_n 3, 1) := by decide +kernel
theorem dL_law_769 : decode cL_law 769 = .ok (.iconst 1, 1) := by decide +kernel
theorem dL_law_770 : decode cL_law 770 = .ok (.iadd, 1) := by decide +kernel
theorem dL_law_771 : decode cL_law 771 = .ok (.iaload, 1) := by decide +kernel
theorem dL_law_772 : decode cL_law 772 = .ok (.invokevirtual 81, 3) := by decide +kernel
theorem dL_law_775 : decode cL_law 775 = .ok (.if_icmp .eq 336, 3) := by decide +kernel
theorem dL_law_778 : decode cL_law 778 = .ok (.iconst 0, 1) := by decide +kernel
theorem dL_law_779 : decode cL_law 779 = .ok (.ireturn, 1) := by decide +kernel
theorem dL_law_780 : decode cL_law 780 = .ok (.aload_n 1, 1) := by decide +kernel
theorem dL_law_781 : decode cL_law 781 = .ok (.aload_n 0, 1) := by decide +kernel
theorem dL_law_782 : decode cL_law 782 = .ok (.iload_n 3, 1) := by decide +kernel
theorem dL_law_783 : decode cL_law 783 = .ok (.iconst 1, 1) := by decide +kernel
theorem dL_law_784 : decode cL_law 784 = .ok (.iadd, 1) := by decide +kernel
theorem dL_law_785 : decode cL_law 785 = .ok (.iaload, 1) := by decide +kernel
theorem dL_law_786 : decode cL_law 786 = .ok (.aload_n 0, 1) := by decide +kernel
theorem dL_law_787 : decode cL_law 787 = .ok (.iload_n 3, 1) := by decide +kernel
theorem dL_law_788 : decode cL_law 788 = .ok (.iconst 2, 1) := by decide +kernel
theorem dL_law_789 : decode cL_law 789 = .ok (.iadd, 1) := by decide +kernel
theorem dL_law_790 : decode cL_law 790 = .ok (.iaload, 1) := by decide +kernel
theorem dL_law_791 : decode cL_law 791 = .ok (.aload_n 0, 1) := by decide +kernel
theorem dL_law_792 : decode cL_law 792 = .ok (.iload_n 3, 1) := by decide +kernel
theorem dL_law_793 : decode cL_law 793 = .ok (.iconst 3, 1) := by decide +kernel
theorem dL_law_794 : decode cL_law 794 = .ok (.iadd, 1) := by decide +kernel
theorem dL_law_795 : decode cL_law 795 = .ok (.iaload, 1) := by decide +kernel
theorem dL_law_796 : decode cL_law 796 = .ok (.invokevirtual 82, 3) := by decide +kernel
theorem dL_law_799 : decode cL_law 799 = .ok (.aload_n 2, 1) := by decide +kernel
theorem dL_law_800 : decode cL_law 800 = .ok (.aload_n 0, 1) := by decide +kernel
theorem dL_law_801 : decode cL_law 801 = .ok (.iload_n 3, 1) := by decide +kernel
theorem dL_law_802 : decode cL_law 802 = .ok (.iconst 1, 1) := by decide +kernel
theorem dL_law_803 : decode cL_law 803 = .ok (.iadd, 1) := by decide +kernel
theorem dL_law_804 : decode cL_law 804 = .ok (.iaload, 1) := by decide +kernel
theorem dL_law_805 : decode cL_law 805 = .ok (.aload_n 0, 1) := by decide +kernel
theorem dL_law_806 : decode cL_law 806 = .ok (.iload_n 3, 1) := by decide +kernel
theorem dL_law_807 : decode cL_law 807 = .ok (.iconst 2, 1) := by decide +kernel
theorem dL_law_808 : decode cL_law 808 = .ok (.iadd, 1) := by decide +kernel
theorem dL_law_809 : decode cL_law 809 = .ok (.iaload, 1) := by decide +kernel
theorem dL_law_810 : decode cL_law 810 = .ok (.aload_n 0, 1) := by decide +kernel
theorem dL_law_811 : decode cL_law 811 = .ok (.iload_n 3, 1) := by decide +kernel
theorem dL_law_812 : decode cL_law 812 = .ok (.iconst 3, 1) := by decide +kernel
theorem dL_law_813 : decode cL_law 813 = .ok (.iadd, 1) := by decide +kernel
theorem dL_law_814 : decode cL_law 814 = .ok (.iaload, 1) := by decide +kernel
theorem dL_law_815 : decode cL_law 815 = .ok (.invokevirtual 85, 3) := by decide +kernel
theorem dL_law_818 : decode cL_law 818 = .ok (.if_icmp .eq 293, 3) := by decide +kernel
theorem dL_law_821 : decode cL_law 821 = .ok (.iconst 0, 1) := by decide +kernel
theorem dL_law_822 : decode cL_law 822 = .ok (.ireturn, 1) := by decide +kernel
theorem dL_law_823 : decode cL_law 823 = .ok (.aload_n 1, 1) := by decide +kernel
theorem dL_law_824 : decode cL_law 824 = .ok (.aload_n 0, 1) := by decide +kernel
theorem dL_law_825 : decode cL_law 825 = .ok (.iload_n 3, 1) := by decide +kernel
theorem dL_law_826 : decode cL_law 826 = .ok (.iconst 1, 1) := by decide +kernel
theorem dL_law_827 : decode cL_law 827 = .ok (.iadd, 1) := by decide +kernel
theorem dL_law_828 : decode cL_law 828 = .ok (.iaload, 1) := by decide +kernel
theorem dL_law_829 : decode cL_law 829 = .ok (.aload_n 0, 1) := by decide +kernel
theorem dL_law_830 : decode cL_law 830 = .ok (.iload_n 3, 1) := by decide +kernel
theorem dL_law_831 : decode cL_law 831 = .ok (.iconst 2, 1) := by decide +kernel
theorem dL_law_832 : decode cL_law 832 = .ok (.iadd, 1) := by decide +kernel
theorem dL_law_833 : decode cL_law 833 = .ok (.iaload, 1) := by decide +kernel
theorem dL_law_834 : decode cL_law 834 = .ok (.aload_n 0, 1) := by decide +kernel
theorem dL_law_835 : decode cL_law 835 = .ok (.iload_n 3, 1) := by decide +kernel
theorem dL_law_836 : decode cL_law 836 = .ok (.iconst 3, 1) := by decide +kernel
theorem dL_law_837 : decode cL_law 837 = .ok (.iadd, 1) := by decide +kernel
theorem dL_law_838 : decode cL_law 838 = .ok (.iaload, 1) := by decide +kernel
theorem dL_law_839 : decode cL_law 839 = .ok (.aload_n 0, 1) := by decide +kernel
theorem dL_law_840 : decode cL_law 840 = .ok (.iload_n 3, 1) := by decide +kernel
theorem dL_law_841 : decode cL_law 841 = .ok (.iconst 4, 1) := by decide +kernel
theorem dL_law_842 : decode cL_law 842 = .ok (.iadd, 1) := by decide +kernel
theorem dL_law_843 : decode cL_law 843 = .ok (.iaload, 1) := by decide +kernel
theorem dL_law_844 : decode cL_law 844 = .ok (.invokevirtual 86, 3) := by decide +kernel
theorem dL_law_847 : decode cL_law 847 = .ok (.aload_n 2, 1) := by decide +kernel
theorem dL_law_848 : decode cL_law 848 = .ok (.aload_n 0, 1) := by decide +kernel
theorem dL_law_849 : decode cL_law 849 = .ok (.iload_n 3, 1) := by decide +kernel
theorem dL_law_850 : decode cL_law 850 = .ok (.iconst 1, 1) := by decide +kernel
theorem dL_law_851 : decode cL_law 851 = .ok (.iadd, 1) := by decide +kernel
theorem dL_law_852 : decode cL_law 852 = .ok (.iaload, 1) := by decide +kernel
theorem dL_law_853 : decode cL_law 853 = .ok (.aload_n 0, 1) := by decide +kernel
theorem dL_law_854 : decode cL_law 854 = .ok (.iload_n 3, 1) := by decide +kernel
theorem dL_law_855 : decode cL_law 855 = .ok (.iconst 2, 1) := by decide +kernel
theorem dL_law_856 : decode cL_law 856 = .ok (.iadd, 1) := by decide +kernel
theorem dL_law_857 : decode cL_law 857 = .ok (.iaload, 1) := by decide +kernel
theorem dL_law_858 : decode cL_law 858 = .ok (.aload_n 0, 1) := by decide +kernel
theorem dL_law_859 : decode cL_law 859 = .ok (.iload_n 3, 1) := by decide +kernel
theorem dL_law_860 : decode cL_law 860 = .ok (.iconst 3, 1) := by decide +kernel
theorem dL_law_861 : decode cL_law 861 = .ok (.iadd, 1) := by decide +kernel
theorem dL_law_862 : decode cL_law 862 = .ok (.iaload, 1) := by decide +kernel
theorem dL_law_863 : decode cL_law 863 = .ok (.aload_n 0, 1) := by decide +kernel
theorem dL_law_864 : decode cL_law 864 = .ok (.iload_n 3, 1) := by decide +kernel
theorem dL_law_865 : decode cL_law 865 = .ok (.iconst 4, 1) := by decide +kernel
theorem dL_law_866 : decode cL_law 866 = .ok (.iadd, 1) := by decide +kernel
theorem dL_law_867 : decode cL_law 867 = .ok (.iaload, 1) := by decide +kernel
theorem dL_law_868 : decode cL_law 868 = .ok (.invokevirtual 89, 3) := by decide +kernel
theorem dL_law_871 : decode cL_law 871 = .ok (.if_icmp .eq 240, 3) := by decide +kernel
theorem dL_law_874 : decode cL_law 874 = .ok (.iconst 0, 1) := by decide +kernel
theorem dL_law_875 : decode cL_law 875 = .ok (.ireturn, 1) := by decide +kernel
theorem dL_law_876 : decode cL_law 876 = .ok (.aload_n 1, 1) := by decide +kernel
theorem dL_law_877 : decode cL_law 877 = .ok (.aload_n 0, 1) := by decide +kernel
theorem dL_law_878 : decode cL_law 878 = .ok (.iload_n 3, 1) := by decide +kernel
theorem dL_law_879 : decode cL_law 879 = .ok (.iconst 1, 1) := by decide +kernel
theorem dL_law_880 : decode cL_law 880 = .ok (.iadd, 1) := by decide +kernel
theorem dL_law_881 : decode cL_law 881 = .ok (.iaload, 1) := by decide +kernel
theorem dL_law_882 : decode cL_law 882 = .ok (.aload_n 0, 1) := by decide +kernel
theorem dL_law_883 : decode cL_law 883 = .ok (.iload_n 3, 1) := by decide +kernel
theorem dL_law_884 : decode cL_law 884 = .ok (.iconst 2, 1) := by decide +kernel
theorem dL_law_885 : decode cL_law 885 = .ok (.iadd, 1) := by decide +kernel
theorem dL_law_886 : decode cL_law 886 = .ok (.iaload, 1) := by decide +kernel
theorem dL_law_887 : decode cL_law 887 = .ok (.aload_n 0, 1) := by decide +kernel
theorem dL_law_888 : decode cL_law 888 = .ok (.iload_n 3, 1) := by decide +kernel
theorem dL_law_889 : decode cL_law 889 = .ok (.iconst 3, 1) := by decide +kernel
theorem dL_law_890 : decode cL_law 890 = .ok (.iadd, 1) := by decide +kernel
theorem dL_law_891 : decode cL_law 891 = .ok (.iaload, 1) := by decide +kernel
theorem dL_law_892 : decode cL_law 892 = .ok (.invokevirtual 90, 3) := by decide +kernel
theorem dL_law_895 : decode cL_law 895 = .ok (.aload_n 2, 1) := by decide +kernel
theorem dL_law_896 : decode cL_law 896 = .ok (.aload_n 0, 1) := by decide +kernel
theorem dL_law_897 : decode cL_law 897 = .ok (.iload_n 3, 1) := by decide +kernel
theorem dL_law_898 : decode cL_law 898 = .ok (.iconst 1, 1) := by decide +kernel
theorem dL_law_899 : decode cL_law 899 = .ok (.iadd, 1) := by decide +kernel
theorem dL_law_900 : decode cL_law 900 = .ok (.iaload, 1) := by decide +kernel
theorem dL_law_901 : decode cL_law 901 = .ok (.aload_n 0, 1) := by decide +kernel
theorem dL_law_902 : decode cL_law 902 = .ok (.iload_n 3, 1) := by decide +kernel
theorem dL_law_903 : decode cL_law 903 = .ok (.iconst 2, 1) := by decide +kernel
theorem dL_law_904 : decode cL_law 904 = .ok (.iadd, 1) := by decide +kernel
theorem dL_law_905 : decode cL_law 905 = .ok (.iaload, 1) := by decide +kernel
theorem dL_law_906 : decode cL_law 906 = .ok (.aload_n 0, 1) := by decide +kernel
theorem dL_law_907 : decode cL_law 907 = .ok (.iload_n 3, 1) := by decide +kernel
theorem dL_law_908 : decode cL_law 908 = .ok (.iconst 3, 1) := by decide +kernel
theorem dL_law_909 : decode cL_law 909 = .ok (.iadd, 1) := by decide +kernel
theorem dL_law_910 : decode cL_law 910 = .ok (.iaload, 1) := by decide +kernel
theorem dL_law_911 : decode cL_law 911 = .ok (.invokevirtual 93, 3) := by decide +kernel
theorem dL_law_914 : decode cL_law 914 = .ok (.if_icmp .eq 197, 3) := by decide +kernel
theorem dL_law_917 : decode cL_law 917 = .ok (.iconst 0, 1) := by decide +kernel
theorem dL_law_918 : decode cL_law 918 = .ok (.ireturn, 1) := by decide +kernel
theorem dL_law_919 : decode cL_law 919 = .ok (.aload_n 1, 1) := by decide +kernel
theorem dL_law_920 : decode cL_law 920 = .ok (.invokevirtual 94, 3) := by decide +kernel
theorem dL_law_923 : decode cL_law 923 = .ok (.aload_n 2, 1) := by decide +kernel
theorem dL_law_924 : decode cL_law 924 = .ok (.invokevirtual 98, 3) := by decide +kernel
theorem dL_law_927 : decode cL_law 927 = .ok (.if_icmp .eq 184, 3) := by decide +kernel
theorem dL_law_930 : decode cL_law 930 = .ok (.iconst 0, 1) := by decide +kernel
theorem dL_law_931 : decode cL_law 931 = .ok (.ireturn, 1) := by decide +kernel
theorem dL_law_932 : decode cL_law 932 = .ok (.aload_n 1, 1) := by decide +kernel
theorem dL_law_933 : decode cL_law 933 = .ok (.invokevirtual 99, 3) := by decide +kernel
theorem dL_law_936 : decode cL_law 936 = .ok (.aload_n 2, 1) := by decide +kernel
theorem dL_law_937 : decode cL_law 937 = .ok (.invokevirtual 103, 3) := by decide +kernel
theorem dL_law_940 : decode cL_law 940 = .ok (.lcmp, 1) := by decide +kernel
theorem dL_law_941 : decode cL_law 941 = .ok (.ifCond .eq 170, 3) := by decide +kernel
theorem dL_law_944 : decode cL_law 944 = .ok (.iconst 0, 1) := by decide +kernel
theorem dL_law_945 : decode cL_law 945 = .ok (.ireturn, 1) := by decide +kernel
theorem dL_law_946 : decode cL_law 946 = .ok (.aload_n 1, 1) := by decide +kernel
theorem dL_law_947 : decode cL_law 947 = .ok (.aload_n 0, 1) := by decide +kernel
theorem dL_law_948 : decode cL_law 948 = .ok (.iload_n 3, 1) := by decide +kernel
theorem dL_law_949 : decode cL_law 949 = .ok (.iconst 1, 1) := by decide +kernel
theorem dL_law_950 : decode cL_law 950 = .ok (.iadd, 1) := by decide +kernel
theorem dL_law_951 : decode cL_law 951 = .ok (.iaload, 1) := by decide +kernel
theorem dL_law_952 : decode cL_law 952 = .ok (.invokevirtual 104, 3) := by decide +kernel
theorem dL_law_955 : decode cL_law 955 = .ok (.aload_n 2, 1) := by decide +kernel
theorem dL_law_956 : decode cL_law 956 = .ok (.aload_n 0, 1) := by decide +kernel
theorem dL_law_957 : decode cL_law 957 = .ok (.iload_n 3, 1) := by decide +kernel
theorem dL_law_958 : decode cL_law 958 = .ok (.iconst 1, 1) := by decide +kernel
theorem dL_law_959 : decode cL_law 959 = .ok (.iadd, 1) := by decide +kernel
theorem dL_law_960 : decode cL_law 960 = .ok (.iaload, 1) := by decide +kernel
theorem dL_law_961 : decode cL_law 961 = .ok (.invokevirtual 107, 3) := by decide +kernel
theorem dL_law_964 : decode cL_law 964 = .ok (.if_icmp .eq 147, 3) := by decide +kernel
theorem dL_law_967 : decode cL_law 967 = .ok (.iconst 0, 1) := by decide +kernel
theorem dL_law_968 : decode cL_law 968 = .ok (.ireturn, 1) := by decide +kernel
theorem dL_law_969 : decode cL_law 969 = .ok (.aload_n 1, 1) := by decide +kernel
theorem dL_law_970 : decode cL_law 970 = .ok (.aload_n 0, 1) := by decide +kernel
theorem dL_law_971 : decode cL_law 971 = .ok (.iload_n 3, 1) := by decide +kernel
theorem dL_law_972 : decode cL_law 972 = .ok (.iconst 1, 1) := by decide +kernel
theorem dL_law_973 : decode cL_law 973 = .ok (.iadd, 1) := by decide +kernel
theorem dL_law_974 : decode cL_law 974 = .ok (.iaload, 1) := by decide +kernel
theorem dL_law_975 : decode cL_law 975 = .ok (.invokevirtual 108, 3) := by decide +kernel
theorem dL_law_978 : decode cL_law 978 = .ok (.aload_n 2, 1) := by decide +kernel
theorem dL_law_979 : decode cL_law 979 = .ok (.aload_n 0, 1) := by decide +kernel
theorem dL_law_980 : decode cL_law 980 = .ok (.iload_n 3, 1) := by decide +kernel
theorem dL_law_981 : decode cL_law 981 = .ok (.iconst 1, 1) := by decide +kernel
theorem dL_law_982 : decode cL_law 982 = .ok (.iadd, 1) := by decide +kernel
theorem dL_law_983 : decode cL_law 983 = .ok (.iaload, 1) := by decide +kernel
theorem dL_law_984 : decode cL_law 984 = .ok (.invokevirtual 111, 3) := by decide +kernel
theorem dL_law_987 : decode cL_law 987 = .ok (.if_icmp .eq 124, 3) := by decide +kernel
theorem dL_law_990 : decode cL_law 990 = .ok (.iconst 0, 1) := by decide +kernel
theorem dL_law_991 : decode cL_law 991 = .ok (.ireturn, 1) := by decide +kernel
theorem dL_law_992 : decode cL_law 992 = .ok (.aload_n 1, 1) := by decide +kernel
theorem dL_law_993 : decode cL_law 993 = .ok (.aload_n 0, 1) := by decide +kernel
theorem dL_law_994 : decode cL_law 994 = .ok (.iload_n 3, 1) := by decide +kernel
theorem dL_law_995 : decode cL_law 995 = .ok (.iconst 1, 1) := by decide +kernel
theorem dL_law_996 : decode cL_law 996 = .ok (.iadd, 1) := by decide +kernel
theorem dL_law_997 : decode cL_law 997 = .ok (.iaload, 1) := by decide +kernel
theorem dL_law_998 : decode cL_law 998 = .ok (.aload_n 0, 1) := by decide +kernel
theorem dL_law_999 : decode cL_law 999 = .ok (.iload_n 3, 1) := by decide +kernel
theorem dL_law_1000 : decode cL_law 1000 = .ok (.iconst 2, 1) := by decide +kernel
theorem dL_law_1001 : decode cL_law 1001 = .ok (.iadd, 1) := by decide +kernel
theorem dL_law_1002 : decode cL_law 1002 = .ok (.iaload, 1) := by decide +kernel
theorem dL_law_1003 : decode cL_law 1003 = .ok (.invokevirtual 112, 3) := by decide +kernel
theorem dL_law_1006 : decode cL_law 1006 = .ok (.aload_n 2, 1) := by decide +kernel
theorem dL_law_1007 : decode cL_law 1007 = .ok (.aload_n 0, 1) := by decide +kernel
theorem dL_law_1008 : decode cL_law 1008 = .ok (.iload_n 3, 1) := by decide +kernel
theorem dL_law_1009 : decode cL_law 1009 = .ok (.iconst 1, 1) := by decide +kernel
theorem dL_law_1010 : decode cL_law 1010 = .ok (.iadd, 1) := by decide +kernel
theorem dL_law_1011 : decode cL_law 1011 = .ok (.iaload, 1) := by decide +kernel
theorem dL_law_1012 : decode cL_law 1012 = .ok (.aload_n 0, 1) := by decide +kernel
theorem dL_law_1013 : decode cL_law 1013 = .ok (.iload_n 3, 1) := by decide +kernel
theorem dL_law_1014 : decode cL_law 1014 = .ok (.iconst 2, 1) := by decide +kernel
theorem dL_law_1015 : decode cL_law 1015 = .ok (.iadd, 1) := by decide +kernel
theorem dL_law_1016 : decode cL_law 1016 = .ok (.iaload, 1) := by decide +kernel
theorem dL_law_1017 : decode cL_law 1017 = .ok (.invokevirtual 115, 3) := by decide +kernel
theorem dL_law_1020 : decode cL_law 1020 = .ok (.if_icmp .eq 91, 3) := by decide +kernel
theorem dL_law_1023 : decode cL_law 1023 = .ok (.iconst 0, 1) := by decide +kernel
theorem dL_law_1024 : decode cL_law 1024 = .ok (.ireturn, 1) := by decide +kernel
theorem dL_law_1025 : decode cL_law 1025 = .ok (.aload_n 1, 1) := by decide +kernel
theorem dL_law_1026 : decode cL_law 1026 = .ok (.aload_n 0, 1) := by decide +kernel
theorem dL_law_1027 : decode cL_law 1027 = .ok (.iload_n 3, 1) := by decide +kernel
theorem dL_law_1028 : decode cL_law 1028 = .ok (.iconst 1, 1) := by decide +kernel
theorem dL_law_1029 : decode cL_law 1029 = .ok (.iadd, 1) := by decide +kernel
theorem dL_law_1030 : decode cL_law 1030 = .ok (.iaload, 1) := by decide +kernel
theorem dL_law_1031 : decode cL_law 1031 = .ok (.invokevirtual 116, 3) := by decide +kernel
theorem dL_law_1034 : decode cL_law 1034 = .ok (.aload_n 2, 1) := by decide +kernel
theorem dL_law_1035 : decode cL_law 1035 = .ok (.aload_n 0, 1) := by decide +kernel
theorem dL_law_1036 : decode cL_law 1036 = .ok (.iload_n 3, 1) := by decide +kernel
theorem dL_law_1037 : decode cL_law 1037 = .ok (.iconst 1, 1) := by decide +kernel
theorem dL_law_1038 : decode cL_law 1038 = .ok (.iadd, 1) := by decide +kernel
theorem dL_law_1039 : decode cL_law 1039 = .ok (.iaload, 1) := by decide +kernel
theorem dL_law_1040 : decode cL_law 1040 = .ok (.invokevirtual 119, 3) := by decide +kernel
theorem dL_law_1043 : decode cL_law 1043 = .ok (.if_icmp .eq 68, 3) := by decide +kernel
theorem dL_law_1046 : decode cL_law 1046 = .ok (.iconst 0, 1) := by decide +kernel
theorem dL_law_1047 : decode cL_law 1047 = .ok (.ireturn, 1) := by decide +kernel
theorem dL_law_1048 : decode cL_law 1048 = .ok (.aload_n 1, 1) := by decide +kernel
theorem dL_law_1049 : decode cL_law 1049 = .ok (.aload_n 0, 1) := by decide +kernel
theorem dL_law_1050 : decode cL_law 1050 = .ok (.iload_n 3, 1) := by decide +kernel
theorem dL_law_1051 : decode cL_law 1051 = .ok (.iconst 1, 1) := by decide +kernel
theorem dL_law_1052 : decode cL_law 1052 = .ok (.iadd, 1) := by decide +kernel
theorem dL_law_1053 : decode cL_law 1053 = .ok (.iaload, 1) := by decide +kernel
theorem dL_law_1054 : decode cL_law 1054 = .ok (.aload_n 0, 1) := by decide +kernel
theorem dL_law_1055 : decode cL_law 1055 = .ok (.iload_n 3, 1) := by decide +kernel
theorem dL_law_1056 : decode cL_law 1056 = .ok (.iconst 2, 1) := by decide +kernel
theorem dL_law_1057 : decode cL_law 1057 = .ok (.iadd, 1) := by decide +kernel
theorem dL_law_1058 : decode cL_law 1058 = .ok (.iaload, 1) := by decide +kernel
theorem dL_law_1059 : decode cL_law 1059 = .ok (.aload_n 0, 1) := by decide +kernel
theorem dL_law_1060 : decode cL_law 1060 = .ok (.iload_n 3, 1) := by decide +kernel
theorem dL_law_1061 : decode cL_law 1061 = .ok (.iconst 3, 1) := by decide +kernel
theorem dL_law_1062 : decode cL_law 1062 = .ok (.iadd, 1) := by decide +kernel
theorem dL_law_1063 : decode cL_law 1063 = .ok (.iaload, 1) := by decide +kernel
theorem dL_law_1064 : decode cL_law 1064 = .ok (.aload_n 0, 1) := by decide +kernel
theorem dL_law_1065 : decode cL_law 1065 = .ok (.iload_n 3, 1) := by decide +kernel
theorem dL_law_1066 : decode cL_law 1066 = .ok (.iconst 4, 1) := by decide +kernel
theorem dL_law_1067 : decode cL_law 1067 = .ok (.iadd, 1) := by decide +kernel
theorem dL_law_1068 : decode cL_law 1068 = .ok (.iaload, 1) := by decide +kernel
theorem dL_law_1069 : decode cL_law 1069 = .ok (.aload_n 0, 1) := by decide +kernel
theorem dL_law_1070 : decode cL_law 1070 = .ok (.iload_n 3, 1) := by decide +kernel
theorem dL_law_1071 : decode cL_law 1071 = .ok (.iconst 5, 1) := by decide +kernel
theorem dL_law_1072 : decode cL_law 1072 = .ok (.iadd, 1) := by decide +kernel
theorem dL_law_1073 : decode cL_law 1073 = .ok (.iaload, 1) := by decide +kernel
theorem dL_law_1074 : decode cL_law 1074 = .ok (.invokevirtual 120, 3) := by decide +kernel
theorem dL_law_1077 : decode cL_law 1077 = .ok (.aload_n 2, 1) := by decide +kernel
theorem dL_law_1078 : decode cL_law 1078 = .ok (.aload_n 0, 1) := by decide +kernel
theorem dL_law_1079 : decode cL_law 1079 = .ok (.iload_n 3, 1) := by decide +kernel
theorem dL_law_1080 : decode cL_law 1080 = .ok (.iconst 1, 1) := by decide +kernel
theorem dL_law_1081 : decode cL_law 1081 = .ok (.iadd, 1) := by decide +kernel
theorem dL_law_1082 : decode cL_law 1082 = .ok (.iaload, 1) := by decide +kernel
theorem dL_law_1083 : decode cL_law 1083 = .ok (.aload_n 0, 1) := by decide +kernel
theorem dL_law_1084 : decode cL_law 1084 = .ok (.iload_n 3, 1) := by decide +kernel
theorem dL_law_1085 : decode cL_law 1085 = .ok (.iconst 2, 1) := by decide +kernel
theorem dL_law_1086 : decode cL_law 1086 = .ok (.iadd, 1) := by decide +kernel
theorem dL_law_1087 : decode cL_law 1087 = .ok (.iaload, 1) := by decide +kernel
theorem dL_law_1088 : decode cL_law 1088 = .ok (.aload_n 0, 1) := by decide +kernel
theorem dL_law_1089 : decode cL_law 1089 = .ok (.iload_n 3, 1) := by decide +kernel
theorem dL_law_1090 : decode cL_law 1090 = .ok (.iconst 3, 1) := by decide +kernel
theorem dL_law_1091 : decode cL_law 1091 = .ok (.iadd, 1) := by decide +kernel
theorem dL_law_1092 : decode cL_law 1092 = .ok (.iaload, 1) := by decide +kernel
theorem dL_law_1093 : decode cL_law 1093 = .ok (.aload_n 0, 1) := by decide +kernel
theorem dL_law_1094 : decode cL_law 1094 = .ok (.iload_n 3, 1) := by decide +kernel
theorem dL_law_1095 : decode cL_law 1095 = .ok (.iconst 4, 1) := by decide +kernel
theorem dL_law_1096 : decode cL_law 1096 = .ok (.iadd, 1) := by decide +kernel
theorem dL_law_1097 : decode cL_law 1097 = .ok (.iaload, 1) := by decide +kernel
theorem dL_law_1098 : decode cL_law 1098 = .ok (.aload_n 0, 1) := by decide +kernel
theorem dL_law_1099 : decode cL_law 1099 = .ok (.iload_n 3, 1) := by decide +kernel
theorem dL_law_1100 : decode cL_law 1100 = .ok (.iconst 5, 1) := by decide +kernel
theorem dL_law_1101 : decode cL_law 1101 = .ok (.iadd, 1) := by decide +kernel
theorem dL_law_1102 : decode cL_law 1102 = .ok (.iaload, 1) := by decide +kernel
theorem dL_law_1103 : decode cL_law 1103 = .ok (.invokevirtual 123, 3) := by decide +kernel
theorem dL_law_1106 : decode cL_law 1106 = .ok (.if_icmp .eq 5, 3) := by decide +kernel
theorem dL_law_1109 : decode cL_law 1109 = .ok (.iconst 0, 1) := by decide +kernel
theorem dL_law_1110 : decode cL_law 1110 = .ok (.ireturn, 1) := by decide +kernel
theorem dL_law_1111 : decode cL_law 1111 = .ok (.iinc 3 6, 3) := by decide +kernel
theorem dL_law_1114 : decode cL_law 1114 = .ok (.goto (-1096), 3) := by decide +kernel
theorem dL_law_1117 : decode cL_law 1117 = .ok (.iconst 1, 1) := by decide +kernel
theorem dL_law_1118 : decode cL_law 1118 = .ok (.ireturn, 1) := by decide +kernel
abbrev vwCl : List vw_C := [(RX0, TX0, 3), (RX1, TX1, 4), (RX2, TX2, 4), (RX3, TX3, 8), (RX4, TX4, 4), (RX5, TX5, 8), (RX6, TX6, 5), (RX7, TX7, 10), (RX8, TX8, 26)]
end
section
theorem zI_lt {a b : Int} (ha : -2147483648 ≤ a ∧ a < 2147483648) (hb : -2147483648 ≤ b ∧ b < 2147483648) : (Int32.ofInt a < Int32.ofInt b) ↔ a < b := by
  rw [Int32.lt_iff_toInt_lt, Int32.toInt_ofInt_of_le (by omega) (by omega), Int32.toInt_ofInt_of_le (by omega) (by omega)]
theorem zI_le {a b : Int} (ha : -2147483648 ≤ a ∧ a < 2147483648) (hb : -2147483648 ≤ b ∧ b < 2147483648) : (Int32.ofInt a ≤ Int32.ofInt b) ↔ a ≤ b := by
  rw [Int32.le_iff_toInt_le, Int32.toInt_ofInt_of_le (by omega) (by omega), Int32.toInt_ofInt_of_le (by omega) (by omega)]
theorem zI_eq {a b : Int} (ha : -2147483648 ≤ a ∧ a < 2147483648) (hb : -2147483648 ≤ b ∧ b < 2147483648) : (Int32.ofInt a = Int32.ofInt b) ↔ a = b := by
  rw [← Int32.toInt_inj, Int32.toInt_ofInt_of_le (by omega) (by omega), Int32.toInt_ofInt_of_le (by omega) (by omega)]
theorem zL_lt {a b : Int} (ha : -9223372036854775808 ≤ a ∧ a < 9223372036854775808) (hb : -9223372036854775808 ≤ b ∧ b < 9223372036854775808) : (Int64.ofInt a < Int64.ofInt b) ↔ a < b := by
  rw [Int64.lt_iff_toInt_lt, Int64.toInt_ofInt_of_le (by omega) (by omega), Int64.toInt_ofInt_of_le (by omega) (by omega)]
theorem zL_eq {a b : Int} (ha : -9223372036854775808 ≤ a ∧ a < 9223372036854775808) (hb : -9223372036854775808 ≤ b ∧ b < 9223372036854775808) : (Int64.ofInt a = Int64.ofInt b) ↔ a = b := by
  rw [← Int64.toInt_inj, Int64.toInt_ofInt_of_le (by omega) (by omega), Int64.toInt_ofInt_of_le (by omega) (by omega)]
theorem zI_clamp {a : Int} (ha : -2147483648 ≤ a ∧ a < 2147483648) : (Int32.ofInt a).toNatClampNeg = a.toNat := Int32.toNatClampNeg_ofInt_of_le (by omega) (by omega)
theorem zI_in {a : Int} {n : Nat} (h0 : 0 ≤ a) (h1 : a < n) (ha : a < 2147483648) : ¬ (Int32.ofInt a < 0 ∨ n ≤ (Int32.ofInt a).toNatClampNeg) := by
  rw [zI_clamp (by omega), show (0 : Int32) = Int32.ofInt 0 from rfl, zI_lt (by omega) (by omega)]
  omega
theorem zI_2l {a : Int} (ha : -2147483648 ≤ a ∧ a < 2147483648) : (Int32.ofInt a).toInt64 = Int64.ofInt a := by
  rw [← Int64.toInt_inj, Int32.toInt_toInt64, Int32.toInt_ofInt_of_le (by omega) (by omega), Int64.toInt_ofInt_of_le (by omega) (by omega)]
theorem zI_mod (a b : Int) (h : a % 4294967296 = b % 4294967296) : Int32.ofInt a = Int32.ofInt b := by
  rw [← Int32.toInt_inj, Int32.toInt_ofInt, Int32.toInt_ofInt, ← Int.emod_bmod a, ← Int.emod_bmod b, show ((Int32.size : Nat) : Int) = 4294967296 from rfl, h]
theorem zL_mod (a b : Int) (h : a % 18446744073709551616 = b % 18446744073709551616) : Int64.ofInt a = Int64.ofInt b := by
  rw [← Int64.toInt_inj, Int64.toInt_ofInt, Int64.toInt_ofInt, ← Int.emod_bmod a, ← Int.emod_bmod b, show ((Int64.size : Nat) : Int) = 18446744073709551616 from rfl, h]
theorem zI_2l_bmod (a : Int) : (Int32.ofInt a).toInt64 = Int64.ofInt (Int.bmod a 4294967296) := by
  have h1 : Int32.ofInt a = Int32.ofInt (Int.bmod a 4294967296) := zI_mod _ _ (by rw [show (4294967296 : Int) = ((4294967296 : Nat) : Int) from rfl, Int.bmod_emod])
  rw [h1]
  exact zI_2l ⟨by have := Int.le_bmod (x := a) (m := 4294967296) (by omega); omega, by have := Int.bmod_lt (x := a) (m := 4294967296) (by omega); omega⟩
theorem zB_ofInt_toNat (w : Nat) (a : Int) : (BitVec.ofInt w a).toNat = (a % (2 ^ w : Nat)).toNat := by
  rw [BitVec.toNat_ofInt]
theorem zP_fact (k n : Nat) (hk : k < n) : 0 < 2 ^ k ∧ 2 * 2 ^ k ≤ 2 ^ n ∧ 2 ^ k ∣ 2 ^ n := by
  refine ⟨Nat.pow_pos (by omega), ?_, Nat.pow_dvd_pow 2 (by omega)⟩
  have := Nat.pow_le_pow_right (by omega : 0 < 2) (by omega : k + 1 ≤ n)
  rw [Nat.pow_succ] at this
  omega
theorem zB_and (w : Nat) (a : Int) (k : Nat) (hk : k < w) : BitVec.ofInt w a &&& BitVec.ofInt w (((2 ^ k : Nat) : Int) - 1) = BitVec.ofInt w (a % ((2 ^ k : Nat) : Int)) := by
  obtain ⟨h1, h2, h3⟩ := zP_fact k w hk
  apply BitVec.eq_of_toNat_eq
  rw [BitVec.toNat_and, zB_ofInt_toNat, zB_ofInt_toNat, zB_ofInt_toNat]
  have hD : ((2 ^ k : Nat) : Int) ∣ ((2 ^ w : Nat) : Int) := Int.ofNat_dvd.mpr h3
  have e4 : (a % ((2 ^ w : Nat) : Int)) % ((2 ^ k : Nat) : Int) = a % ((2 ^ k : Nat) : Int) := Int.emod_emod_of_dvd a hD
  have e1 : ((((2 ^ k : Nat) : Int) - 1) % ((2 ^ w : Nat) : Int)).toNat = 2 ^ k - 1 := by
    rw [Int.emod_eq_of_lt (by omega) (by omega)]
    omega
  rw [e1, Nat.and_two_pow_sub_one_eq_mod]
  have h0 : 0 ≤ a % ((2 ^ w : Nat) : Int) := Int.emod_nonneg _ (by omega)
  have h5 : 0 ≤ a % ((2 ^ k : Nat) : Int) := Int.emod_nonneg _ (by omega)
  have h6 : a % ((2 ^ k : Nat) : Int) < ((2 ^ k : Nat) : Int) := Int.emod_lt_of_pos a (by omega)
  have e3 : a % ((2 ^ k : Nat) : Int) % ((2 ^ w : Nat) : Int) = a % ((2 ^ k : Nat) : Int) := Int.emod_eq_of_lt h5 (by omega)
  rw [e3, ← e4]
  generalize a % ((2 ^ w : Nat) : Int) = y at h0
  obtain ⟨z, rfl⟩ := Int.eq_ofNat_of_zero_le h0
  rw [← Int.natCast_emod]
  rfl
theorem zL_and (a M : Int) (k : Nat) (hk : k < 64) (hM : ((2 ^ k : Nat) : Int) = M + 1) : Int64.ofInt a &&& Int64.ofInt M = Int64.ofInt (a % (M + 1)) := by
  apply Int64.toBitVec.inj
  rw [Int64.toBitVec_and, Int64.toBitVec_ofInt, Int64.toBitVec_ofInt, Int64.toBitVec_ofInt, ← hM, ← zB_and 64 a k hk, hM, show M + 1 - 1 = M by omega]
theorem zI_and (a M : Int) (k : Nat) (hk : k < 32) (hM : ((2 ^ k : Nat) : Int) = M + 1) : Int32.ofInt a &&& Int32.ofInt M = Int32.ofInt (a % (M + 1)) := by
  apply Int32.toBitVec.inj
  rw [Int32.toBitVec_and, Int32.toBitVec_ofInt, Int32.toBitVec_ofInt, Int32.toBitVec_ofInt, ← hM, ← zB_and 32 a k hk, hM, show M + 1 - 1 = M by omega]
theorem zJ_amt (k : Nat) (hk : k < 64) : (Int32.ofInt (k : Int)).toInt64 &&& 63 = Int64.ofInt (k : Int) := by
  rw [zI_2l (by omega), show (63 : Int64) = Int64.ofInt 63 from rfl, zL_and _ 63 6 (by omega) (by decide), Int.emod_eq_of_lt (by omega) (by omega)]
theorem zL_shr (a : Int) (k : Nat) (hk : k < 64) (ha : -9223372036854775808 ≤ a ∧ a < 9223372036854775808) : Int64.ofInt a >>> ((Int32.ofInt (k : Int)).toInt64 &&& 63) = Int64.ofInt (a / ((2 ^ k : Nat) : Int)) := by
  rw [zJ_amt k hk]
  apply Int64.toBitVec.inj
  rw [Int64.toBitVec_shiftRight, Int64.toBitVec_ofInt, Int64.toBitVec_ofInt, Int64.toBitVec_ofInt]
  apply BitVec.eq_of_toInt_eq
  have e2 : BitVec.smod (BitVec.ofInt 64 (k : Int)) 64 = BitVec.ofNat 64 k := by
    have : ∀ j : Nat, j < 64 → BitVec.smod (BitVec.ofInt 64 (j : Int)) 64 = BitVec.ofNat 64 j := by decide +kernel
    exact this k hk
  have e5 : (BitVec.ofNat 64 k).toNat = k := by rw [BitVec.toNat_ofNat]; omega
  rw [e2, BitVec.sshiftRight_eq', e5, BitVec.toInt_sshiftRight, BitVec.toInt_ofInt, BitVec.toInt_ofInt]
  rw [show (2 ^ 64 : Nat) = 18446744073709551616 from rfl]
  have e3 : a.bmod 18446744073709551616 = a := Int.bmod_eq_of_le (by omega) (by omega)
  rw [e3, Int.shiftRight_eq_div_pow]
  obtain ⟨h1, h2, h3⟩ := zP_fact k 64 hk
  generalize 2 ^ k = P at h1 h2 h3
  have hp : (0 : Int) < (P : Int) := by omega
  symm
  have h1 : -9223372036854775808 ≤ a / (P : Int) := by
    apply (Int.le_ediv_iff_mul_le hp).mpr
    have : -9223372036854775808 * (P : Int) ≤ -9223372036854775808 * 1 := Int.mul_le_mul_of_nonpos_left (by omega) (by omega)
    omega
  have h2 : a / (P : Int) < 9223372036854775808 := by
    apply (Int.ediv_lt_iff_lt_mul hp).mpr
    have : 9223372036854775808 * 1 ≤ 9223372036854775808 * (P : Int) := Int.mul_le_mul_of_nonneg_left (by omega) (by omega)
    omega
  exact Int.bmod_eq_of_le (by omega) (by omega)
theorem zI_amt (k : Nat) (hk : k < 32) : Int32.ofInt (k : Int) &&& 31 = Int32.ofInt (k : Int) := by
  rw [show (31 : Int32) = Int32.ofInt 31 from rfl, zI_and _ 31 5 (by omega) (by decide), Int.emod_eq_of_lt (by omega) (by omega)]
theorem zDiv_bounds {a : Int} {P : Nat} (hp : 0 < P) (lo hi : Int) (hlo : lo ≤ 0) (hhi : 0 < hi) (h1 : lo ≤ a) (h2 : a < hi) : lo ≤ a / (P : Int) ∧ a / (P : Int) < hi := by
  have hp' : (0 : Int) < (P : Int) := by omega
  constructor
  · apply (Int.le_ediv_iff_mul_le hp').mpr
    have : lo * (P : Int) ≤ lo * 1 := Int.mul_le_mul_of_nonpos_left hlo (by omega)
    omega
  · apply (Int.ediv_lt_iff_lt_mul hp').mpr
    have : hi * 1 ≤ hi * (P : Int) := Int.mul_le_mul_of_nonneg_left (by omega) (by omega)
    omega
theorem zI_shr (a : Int) (k : Nat) (hk : k < 32) (ha : -2147483648 ≤ a ∧ a < 2147483648) : Int32.ofInt a >>> (Int32.ofInt (k : Int) &&& 31) = Int32.ofInt (a / ((2 ^ k : Nat) : Int)) := by
  rw [zI_amt k hk]
  apply Int32.toBitVec.inj
  rw [Int32.toBitVec_shiftRight, Int32.toBitVec_ofInt, Int32.toBitVec_ofInt, Int32.toBitVec_ofInt]
  apply BitVec.eq_of_toInt_eq
  have e2 : BitVec.smod (BitVec.ofInt 32 (k : Int)) 32 = BitVec.ofNat 32 k := by
    have : ∀ j : Nat, j < 32 → BitVec.smod (BitVec.ofInt 32 (j : Int)) 32 = BitVec.ofNat 32 j := by decide +kernel
    exact this k hk
  have e5 : (BitVec.ofNat 32 k).toNat = k := by rw [BitVec.toNat_ofNat]; omega
  rw [e2, BitVec.sshiftRight_eq', e5, BitVec.toInt_sshiftRight, BitVec.toInt_ofInt, BitVec.toInt_ofInt]
  rw [show (2 ^ 32 : Nat) = 4294967296 from rfl]
  have e3 : a.bmod 4294967296 = a := Int.bmod_eq_of_le (by omega) (by omega)
  rw [e3, Int.shiftRight_eq_div_pow]
  obtain ⟨h1, h2, h3⟩ := zP_fact k 32 hk
  have := zDiv_bounds h1 (-2147483648) 2147483648 (by omega) (by omega) ha.1 ha.2
  symm
  exact Int.bmod_eq_of_le (by omega) (by omega)
theorem zL_shl (a : Int) (k : Nat) (hk : k < 64) : Int64.ofInt a <<< ((Int32.ofInt (k : Int)).toInt64 &&& 63) = Int64.ofInt (a * ((2 ^ k : Nat) : Int)) := by
  rw [zJ_amt k hk]
  apply Int64.toBitVec.inj
  rw [Int64.toBitVec_shiftLeft, Int64.toBitVec_ofInt, Int64.toBitVec_ofInt, Int64.toBitVec_ofInt]
  have e2 : BitVec.smod (BitVec.ofInt 64 (k : Int)) 64 = BitVec.ofNat 64 k := by
    have : ∀ j : Nat, j < 64 → BitVec.smod (BitVec.ofInt 64 (j : Int)) 64 = BitVec.ofNat 64 j := by decide +kernel
    exact this k hk
  have e5 : (BitVec.ofNat 64 k).toNat = k := by rw [BitVec.toNat_ofNat]; omega
  rw [e2, BitVec.shiftLeft_eq', e5, BitVec.shiftLeft_eq_mul_twoPow, BitVec.ofInt_mul]
  congr 1
  apply BitVec.eq_of_toNat_eq
  rw [BitVec.toNat_twoPow, zB_ofInt_toNat, ← Int.natCast_emod]
  rfl
theorem zI_shl (a : Int) (k : Nat) (hk : k < 32) : Int32.ofInt a <<< (Int32.ofInt (k : Int) &&& 31) = Int32.ofInt (a * ((2 ^ k : Nat) : Int)) := by
  rw [zI_amt k hk]
  apply Int32.toBitVec.inj
  rw [Int32.toBitVec_shiftLeft, Int32.toBitVec_ofInt, Int32.toBitVec_ofInt, Int32.toBitVec_ofInt]
  have e2 : BitVec.smod (BitVec.ofInt 32 (k : Int)) 32 = BitVec.ofNat 32 k := by
    have : ∀ j : Nat, j < 32 → BitVec.smod (BitVec.ofInt 32 (j : Int)) 32 = BitVec.ofNat 32 j := by decide +kernel
    exact this k hk
  have e5 : (BitVec.ofNat 32 k).toNat = k := by rw [BitVec.toNat_ofNat]; omega
  rw [e2, BitVec.shiftLeft_eq', e5, BitVec.shiftLeft_eq_mul_twoPow, BitVec.ofInt_mul]
  congr 1
  apply BitVec.eq_of_toNat_eq
  rw [BitVec.toNat_twoPow, zB_ofInt_toNat, ← Int.natCast_emod]
  rfl
/-- a logical shift: a number from 0 to 2^64 - 1 -/
theorem zL_ushr (a : Int) (k : Nat) (hk : k < 64) (ha : 0 ≤ a ∧ a < 18446744073709551616) : ((Int64.ofInt a).toUInt64 >>> ((Int32.ofInt (k : Int)).toInt64.toUInt64 &&& Int64.toUInt64 63)).toInt64 = Int64.ofInt (a / ((2 ^ k : Nat) : Int)) := by
  have e0 : (Int32.ofInt (k : Int)).toInt64.toUInt64 &&& Int64.toUInt64 63 = ((Int32.ofInt (k : Int)).toInt64 &&& 63).toUInt64 := rfl
  rw [e0, zJ_amt k hk]
  apply Int64.toBitVec.inj
  show ((Int64.ofInt a).toUInt64 >>> (Int64.ofInt (k : Int)).toUInt64).toBitVec = _
  rw [UInt64.toBitVec_shiftRight]
  show (Int64.ofInt a).toBitVec >>> ((Int64.ofInt (k : Int)).toBitVec % 64#64) = _
  rw [Int64.toBitVec_ofInt, Int64.toBitVec_ofInt, Int64.toBitVec_ofInt]
  have e2 : BitVec.ofInt 64 (k : Int) % 64#64 = BitVec.ofNat 64 k := by
    have : ∀ j : Nat, j < 64 → BitVec.ofInt 64 (j : Int) % 64#64 = BitVec.ofNat 64 j := by decide +kernel
    exact this k hk
  rw [e2]
  apply BitVec.eq_of_toNat_eq
  rw [BitVec.ushiftRight_eq', BitVec.toNat_ushiftRight, zB_ofInt_toNat, zB_ofInt_toNat, BitVec.toNat_ofNat, Nat.shiftRight_eq_div_pow]
  obtain ⟨h1, h2, h3⟩ := zP_fact k 64 hk
  have e6 : k % 2 ^ 64 = k := Nat.mod_eq_of_lt (by omega)
  rw [e6]
  have hb := zDiv_bounds h1 0 18446744073709551616 (by omega) (by omega) ha.1 ha.2
  rw [show ((2 ^ 64 : Nat) : Int) = 18446744073709551616 from rfl, Int.emod_eq_of_lt ha.1 ha.2, Int.emod_eq_of_lt hb.1 hb.2]
  obtain ⟨y, hy⟩ := Int.eq_ofNat_of_zero_le ha.1
  subst hy
  rw [← Int.natCast_ediv]
  rfl
theorem zI_ushr (a : Int) (k : Nat) (hk : k < 32) (ha : 0 ≤ a ∧ a < 4294967296) : ((Int32.ofInt a).toUInt32 >>> ((Int32.ofInt (k : Int)).toUInt32 &&& Int32.toUInt32 31)).toInt32 = Int32.ofInt (a / ((2 ^ k : Nat) : Int)) := by
  have e0 : (Int32.ofInt (k : Int)).toUInt32 &&& Int32.toUInt32 31 = (Int32.ofInt (k : Int) &&& 31).toUInt32 := rfl
  rw [e0, zI_amt k hk]
  apply Int32.toBitVec.inj
  show ((Int32.ofInt a).toUInt32 >>> (Int32.ofInt (k : Int)).toUInt32).toBitVec = _
  rw [UInt32.toBitVec_shiftRight]
  show (Int32.ofInt a).toBitVec >>> ((Int32.ofInt (k : Int)).toBitVec % 32#32) = _
  rw [Int32.toBitVec_ofInt, Int32.toBitVec_ofInt, Int32.toBitVec_ofInt]
  have e2 : BitVec.ofInt 32 (k : Int) % 32#32 = BitVec.ofNat 32 k := by
    have : ∀ j : Nat, j < 32 → BitVec.ofInt 32 (j : Int) % 32#32 = BitVec.ofNat 32 j := by decide +kernel
    exact this k hk
  rw [e2]
  apply BitVec.eq_of_toNat_eq
  rw [BitVec.ushiftRight_eq', BitVec.toNat_ushiftRight, zB_ofInt_toNat, zB_ofInt_toNat, BitVec.toNat_ofNat, Nat.shiftRight_eq_div_pow]
  obtain ⟨h1, h2, h3⟩ := zP_fact k 32 hk
  have e6 : k % 2 ^ 32 = k := Nat.mod_eq_of_lt (by omega)
  rw [e6]
  have hb := zDiv_bounds h1 0 4294967296 (by omega) (by omega) ha.1 ha.2
  rw [show ((2 ^ 32 : Nat) : Int) = 4294967296 from rfl, Int.emod_eq_of_lt ha.1 ha.2, Int.emod_eq_of_lt hb.1 hb.2]
  obtain ⟨y, hy⟩ := Int.eq_ofNat_of_zero_le ha.1
  subst hy
  rw [← Int.natCast_ediv]
  rfl
/-- 'or' of a multiple of 2^k and of something below 2^k -/
theorem zL_or (a b : Int) (k : Nat) (hk : k < 64) (ha : 0 ≤ a ∧ a * ((2 ^ k : Nat) : Int) < 18446744073709551616) (hb : 0 ≤ b ∧ b < ((2 ^ k : Nat) : Int)) : Int64.ofInt (a * ((2 ^ k : Nat) : Int)) ||| Int64.ofInt b = Int64.ofInt (a * ((2 ^ k : Nat) : Int) + b) := by
  obtain ⟨h1, h2, h3⟩ := zP_fact k 64 hk
  obtain ⟨x, hx⟩ := Int.eq_ofNat_of_zero_le ha.1
  obtain ⟨y, hy⟩ := Int.eq_ofNat_of_zero_le hb.1
  subst hx; subst hy
  have hy2 : y < 2 ^ k := by have := hb.2; omega
  have hxx : ((x : Int) * ((2 ^ k : Nat) : Int)) = ((2 ^ k * x : Nat) : Int) := by rw [Nat.mul_comm]; exact (Int.natCast_mul _ _).symm
  have hx3 : 2 ^ k * x < 2 ^ 64 := by have := ha.2; rw [hxx] at this; omega
  have hq : 2 ^ k * x + y = 2 ^ k * x ||| y := Nat.two_pow_add_eq_or_of_lt hy2 x
  have hs : 2 ^ k * x ||| y < 2 ^ 64 := Nat.or_lt_two_pow hx3 (by omega)
  apply Int64.toBitVec.inj
  rw [Int64.toBitVec_or, Int64.toBitVec_ofInt, Int64.toBitVec_ofInt, Int64.toBitVec_ofInt, hxx]
  apply BitVec.eq_of_toNat_eq
  rw [BitVec.toNat_or, zB_ofInt_toNat, zB_ofInt_toNat, zB_ofInt_toNat, ← Int.natCast_add, hq, ← Int.natCast_emod, ← Int.natCast_emod, ← Int.natCast_emod, Int.toNat_natCast, Int.toNat_natCast, Int.toNat_natCast, Nat.mod_eq_of_lt hx3, Nat.mod_eq_of_lt (by omega : y < 2 ^ 64), Nat.mod_eq_of_lt hs]
theorem zI_div (a b : Int) (ha : 0 ≤ a ∧ a < 2147483648) (hb : 0 < b ∧ b < 2147483648) : Int32.ofInt a / Int32.ofInt b = Int32.ofInt (a / b) := by
  have h0 : 0 ≤ a / b := Int.ediv_nonneg ha.1 (by omega)
  have h1 : a / b ≤ a := Int.ediv_le_self _ ha.1
  rw [← Int32.toInt_inj, Int32.toInt_div, Int32.toInt_ofInt_of_le (by omega) (by omega), Int32.toInt_ofInt_of_le (by omega) (by omega), Int32.toInt_ofInt_of_le (by omega) (by omega), Int.tdiv_eq_ediv_of_nonneg ha.1]
  exact Int.bmod_eq_of_le (by omega) (by omega)
theorem zI_rem (a b : Int) (ha : 0 ≤ a ∧ a < 2147483648) (hb : 0 < b ∧ b < 2147483648) : Int32.ofInt a % Int32.ofInt b = Int32.ofInt (a % b) := by
  have h0 : 0 ≤ a % b := Int.emod_nonneg _ (by omega)
  have h1 : a % b < b := Int.emod_lt_of_pos _ (by omega)
  rw [← Int32.toInt_inj, Int32.toInt_mod, Int32.toInt_ofInt_of_le (by omega) (by omega), Int32.toInt_ofInt_of_le (by omega) (by omega), Int32.toInt_ofInt_of_le (by omega) (by omega), Int.tmod_eq_emod_of_nonneg ha.1]
theorem zL_div (a b : Int) (ha : 0 ≤ a ∧ a < 9223372036854775808) (hb : 0 < b ∧ b < 9223372036854775808) : Int64.ofInt a / Int64.ofInt b = Int64.ofInt (a / b) := by
  have h0 : 0 ≤ a / b := Int.ediv_nonneg ha.1 (by omega)
  have h1 : a / b ≤ a := Int.ediv_le_self _ ha.1
  rw [← Int64.toInt_inj, Int64.toInt_div, Int64.toInt_ofInt_of_le (by omega) (by omega), Int64.toInt_ofInt_of_le (by omega) (by omega), Int64.toInt_ofInt_of_le (by omega) (by omega), Int.tdiv_eq_ediv_of_nonneg ha.1]
  exact Int.bmod_eq_of_le (by omega) (by omega)
theorem zL_rem (a b : Int) (ha : 0 ≤ a ∧ a < 9223372036854775808) (hb : 0 < b ∧ b < 9223372036854775808) : Int64.ofInt a % Int64.ofInt b = Int64.ofInt (a % b) := by
  have h0 : 0 ≤ a % b := Int.emod_nonneg _ (by omega)
  have h1 : a % b < b := Int.emod_lt_of_pos _ (by omega)
  rw [← Int64.toInt_inj, Int64.toInt_mod, Int64.toInt_ofInt_of_le (by omega) (by omega), Int64.toInt_ofInt_of_le (by omega) (by omega), Int64.toInt_ofInt_of_le (by omega) (by omega), Int.tmod_eq_emod_of_nonneg ha.1]
/-- lcmp: -1, 0, 1 -/
def zcmp (a b : Int) : Int := if b < a then 1 else if a = b then 0 else -1
theorem zL_cmp (a b : Int) (ha : -9223372036854775808 ≤ a ∧ a < 9223372036854775808) (hb : -9223372036854775808 ≤ b ∧ b < 9223372036854775808) : lg_cmp (Int64.ofInt a) (Int64.ofInt b) = Int32.ofInt (zcmp a b) := by
  unfold lg_cmp zcmp
  simp only [gt_iff_lt, zL_lt hb ha, zL_eq ha hb]
  by_cases h : b < a
  · simp [h]
  · by_cases h2 : a = b <;> simp [h, h2]
end
section
/-! The abstract machine: memory as numbers (Int), shape and references apart from it; one rule an instruction. -/
abbrev zM : Type := Nat → Nat → Int
abbrev zE : Type := Nat ⊕ (Nat × Nat)
abbrev zA : Type := (Nat → Option zE) × (Nat → Nat → Option Nat) × Nat
abbrev zD : Type := (Nat → ClassId) × (Nat → Nat → Nat) × (Nat → ClassId)
abbrev zCx : Type := Program × Launch × Env × Room × State × MethodId × Array Value × List Frame × Method × Code × zD × Nat × (State → Prop)
abbrev zG : Type := Launch × zD × Nat
abbrev zMi : Type := MethodName × ByteArray × Nat × Option FieldType × Room
def vi (a : Int) : Value := .int (Int32.ofInt a)
def vl (a : Int) : Value := .long (Int64.ofInt a)
def vr (q : Nat) : Value := .ref q
/-- write a number -/
def zms (m : zM) (q k : Nat) (v : Int) : zM := fun a j => if a = q ∧ j = k then v else m a j
theorem zms_same (m : zM) (q k : Nat) (v : Int) : zms m q k v q k = v := by simp [zms]
theorem zms_ne (m : zM) (q k : Nat) (v : Int) {a j : Nat} (h : ¬ (a = q ∧ j = k)) : zms m q k v a j = m a j := by simp [zms, h]
theorem zms_nq (m : zM) (q k : Nat) (v : Int) {a : Nat} (j : Nat) (h : a ≠ q) : zms m q k v a j = m a j := by simp [zms, h]
theorem zms_nk (m : zM) (q k : Nat) (v : Int) (a : Nat) {j : Nat} (h : j ≠ k) : zms m q k v a j = m a j := by simp [zms, h]
def zC : Nat → String := fun ci => match ci with
  | 0 => RX0 | 1 => RX1 | 2 => RX2 | 3 => RX3 | 4 => RX4 | 5 => RX5 | 6 => RX6 | 7 => RX7 | _ => RX8
def zT : Nat → u_T := fun ci => match ci with
  | 0 => TX0 | 1 => TX1 | 2 => TX2 | 3 => TX3 | 4 => TX4 | 5 => TX5 | 6 => TX6 | 7 => TX7 | _ => TX8
def zN : Nat → Nat := fun ci => match ci with
  | 0 => 3 | 1 => 4 | 2 => 4 | 3 => 8 | 4 => 4 | 5 => 8 | 6 => 5 | 7 => 10 | _ => 26
def zty : Nat → Nat → FieldType := fun ci => match ci with
  | 0 => tyX0 | 1 => tyX1 | 2 => tyX2 | 3 => tyX3 | 4 => tyX4 | 5 => tyX5 | 6 => tyX6 | 7 => tyX7 | _ => tyX8
/-- what a field holds: 0 an int or a boolean, 1 a long, 2 a reference -/
def zkd (ci k : Nat) : Nat := match zty ci k with
  | .int => 0 | .boolean => 0 | .long => 1 | _ => 2
/-- array types: 0 int, 1 boolean, 2 Sum, 3 Span, 4 Constant -/
def zaT : Nat → FieldType := fun t => match t with
  | 0 => .int | 1 => .boolean | 2 => .object RX6 | 3 => .object RX5 | _ => .object RX1
def zov (ci q : Nat) (m : zM) (mr : Nat → Nat → Option Nat) : Nat → Value := fun k => if zkd ci k = 0 then vi (m q k) else if zkd ci k = 1 then vl (m q k) else va_rf (mr q k)
def zav (t q : Nat) (m : zM) (mr : Nat → Nat → Option Nat) : Nat → Value := fun j => if t < 2 then vi (m q j) else va_rf (mr q j)
def zat (D : zD) (A : zA) (m : zM) (H : Heap) (q : Nat) (e : zE) : Prop := match e with
  | .inl ci => ci < 9 ∧ t_OB q (D.1 ci) (zN ci) (D.2.1 ci) H (zov ci q m A.2.1)
  | .inr x => x.1 < 5 ∧ H[q]? = some (arrV (D.2.2 x.1) x.2 (zav x.1 q m A.2.1))
def zR (D : zD) (B : Nat) (A : zA) (m : zM) (H : Heap) : Prop := H.size = A.2.2 ∧ B ≤ A.2.2 ∧ ∀ q e, A.1 q = some e → B ≤ q ∧ q < A.2.2 ∧ zat D A m H q e
def zisN : Cond → Bool
  | .fieldLinkNest .. => true
  | .methodLinkNest .. => true
  | .arrayOver (.object _) => true
  | _ => false
def zGB : List Cond := lw_tbl.filter goodWord
def zNB : List Cond := tables_1.filter zisN
def zK (D : zD) (U : State) : Prop := (∀ ci, ci < 9 → u_Kn U (zC ci) (zT ci) (zN ci) (D.1 ci) (D.2.1 ci)) ∧ (∀ t, t < 5 → ArrOfT U (D.2.2 t) (zaT t) ∧ va_RA U (D.2.2 t) (zaT t)) ∧ ∀ w ∈ zNB, w.before #[] U = true
theorem zK.warm {D : zD} {s U : State} (hW : s.WarmedH U.vm) (h : zK D s) : zK D U := by
  refine ⟨fun ci hc => u_Kn_moved hW.alike (h.1 ci hc), fun t ht => ⟨arrOfT_moved hW.alike (h.2.1 t ht).1, (h.2.1 t ht).2.moved hW.alike⟩, fun w hw => ?_⟩
  have h1 := h.2.2 w hw
  have h2 := (List.mem_filter.mp hw).2
  cases w <;> first | (simp [zisN] at h2; done) | exact va_Nw.warmF hW h1 | exact va_Nw.warmM hW h1 | skip
  rename_i ty
  cases ty <;> first | (simp [zisN] at h2; done) | skip
  exact va_AO.moved hW.alike h1
theorem zK.same {D : zD} {s U : State} (hvm : s.vm = U.vm) (h : zK D s) : zK D U := by
  have ha : s.vm.Alike U.vm := by rw [hvm]; exact Vm.Alike.refl _
  refine ⟨fun ci hc => u_Kn_moved ha (h.1 ci hc), fun t ht => ⟨arrOfT_moved ha (h.2.1 t ht).1, (h.2.1 t ht).2.moved ha⟩, fun w hw => ?_⟩
  have h1 := h.2.2 w hw
  have h2 := (List.mem_filter.mp hw).2
  cases w <;> first | (simp [zisN] at h2; done) | exact va_Nw.same rfl hvm h1 | skip
  rename_i ty
  cases ty <;> first | (simp [zisN] at h2; done) | skip
  exact va_AO.moved ha h1
/-- locals -/
abbrev zLv : Type := List (Option Value)
def zL (ls : Array Slot) (lv : zLv) : Prop := ls.size = lv.length ∧ lv_wf ls ∧ ∀ (i : Nat) (v : Value), lv[i]? = some (some v) → ls[i]? = some (Slot.val v)
def zclr (lv : zLv) (i : Nat) : zLv := match i with
  | 0 => lv
  | k + 1 => match lv[k]? with
    | some (some w) => if w.category = 2 then lv.set k none else lv
    | _ => lv
def zs1 (lv : zLv) (i : Nat) (v : Value) : zLv := (zclr lv i).set i (some v)
def zs2 (lv : zLv) (i : Nat) (v : Value) : zLv := (zs1 lv i v).set (i + 1) none
theorem zclr_len (lv : zLv) (i : Nat) : (zclr lv i).length = lv.length := by
  unfold zclr
  split
  · rfl
  · split
    · split <;> simp
    · rfl
theorem zclr_get {lv : zLv} {i j : Nat} {v : Value} (h : (zclr lv i)[j]? = some (some v)) : lv[j]? = some (some v) ∧ ¬ (j + 1 = i ∧ v.category = 2) := by
  unfold zclr at h
  split at h
  · exact ⟨h, by omega⟩
  · rename_i k
    split at h
    · rename_i w hw
      split at h
      · rename_i hc
        by_cases hjk : j = k
        · subst hjk
          rw [List.getElem?_set_self (by exact (List.getElem?_eq_some_iff.mp hw).1)] at h
          cases h
        · rw [List.getElem?_set_ne (Ne.symm hjk)] at h
          exact ⟨h, fun q => hjk (by omega)⟩
      · rename_i hc
        refine ⟨h, fun q => ?_⟩
        have hjk : j = k := by omega
        subst hjk
        rw [hw] at h
        cases h
        exact hc q.2
    · rename_i hn
      refine ⟨h, fun q => ?_⟩
      have hjk : j = k := by omega
      subst hjk
      exact hn v h
/-- the list of listed locals that the kit's rows speak of -/
def zas (lv : zLv) : List (Nat × Value) := (List.range lv.length).filterMap (fun i => match lv[i]? with | some (some v) => some (i, v) | _ => none)
theorem zas_mem {lv : zLv} {i : Nat} {v : Value} : (i, v) ∈ zas lv ↔ lv[i]? = some (some v) := by
  unfold zas
  rw [List.mem_filterMap]
  constructor
  · rintro ⟨k, -, h2⟩
    split at h2
    · rename_i w hw
      cases h2
      exact hw
    · cases h2
  · intro h
    refine ⟨i, List.mem_range.mpr (List.getElem?_eq_some_iff.mp h).1, ?_⟩
    rw [h]
theorem zL.has {ls : Array Slot} {lv : zLv} (h : zL ls lv) : lv_has ls lv.length (zas lv) := ⟨h.1, h.2.1, fun q hq => h.2.2 q.1 q.2 (zas_mem.mp hq)⟩
theorem zL.at {ls : Array Slot} {lv : zLv} (h : zL ls lv) {i : Nat} {v : Value} (hi : lv[i]? = some (some v)) : ls[i]? = some (.val v) := h.2.2 i v hi
theorem zL.s1 {ls : Array Slot} {lv : zLv} {nL i : Nat} {v : Value} (hn : lv.length = nL) (hi : i < nL) {l' : List (Nat × Value)} (hl : (i, v) :: (zas lv).filter (fun q => !(q.1 == i) && !(q.1 + 1 == i && q.2.category == 2)) = l') (h : lv_has ls nL l') : zL ls (zs1 lv i v) := by
  subst hl
  refine ⟨by rw [h.1, ← hn]; simp [zs1, zclr_len], h.2.1, fun j w hj => ?_⟩
  unfold zs1 at hj
  by_cases hji : j = i
  · subst hji
    rw [List.getElem?_set_self (by rw [zclr_len]; omega)] at hj
    cases hj
    exact h.2.2 (j, v) List.mem_cons_self
  · rw [List.getElem?_set_ne (Ne.symm hji)] at hj
    obtain ⟨h1, h2⟩ := zclr_get hj
    refine h.2.2 (j, w) (List.mem_cons_of_mem _ (List.mem_filter.mpr ⟨zas_mem.mpr h1, ?_⟩))
    have hji' : (j == i) = false := by simp [hji]
    have h3 : (j + 1 == i && w.category == 2) = false := by
      cases ha : (j + 1 == i && w.category == 2)
      · rfl
      · exfalso
        simp only [Bool.and_eq_true, beq_iff_eq] at ha
        exact h2 ha
    show (!(j == i) && !(j + 1 == i && w.category == 2)) = true
    rw [hji', h3]; rfl
theorem zL.s2 {ls : Array Slot} {lv : zLv} {nL i : Nat} {v : Value} (hn : lv.length = nL) (hi : i + 1 < nL) {l' : List (Nat × Value)} (hl : (i, v) :: (zas lv).filter (fun q => !(q.1 == i) && (!(q.1 == i + 1) && !(q.1 + 1 == i && q.2.category == 2))) = l') (h : lv_has ls nL l') : zL ls (zs2 lv i v) := by
  subst hl
  refine ⟨by rw [h.1, ← hn]; simp [zs2, zs1, zclr_len], h.2.1, fun j w hj => ?_⟩
  unfold zs2 zs1 at hj
  by_cases hj1 : j = i + 1
  · subst hj1
    rw [List.getElem?_set_self (by rw [List.length_set, zclr_len]; omega)] at hj
    cases hj
  rw [List.getElem?_set_ne (Ne.symm hj1)] at hj
  by_cases hji : j = i
  · subst hji
    rw [List.getElem?_set_self (by rw [zclr_len]; omega)] at hj
    cases hj
    exact h.2.2 (j, v) List.mem_cons_self
  · rw [List.getElem?_set_ne (Ne.symm hji)] at hj
    obtain ⟨h1, h2⟩ := zclr_get hj
    refine h.2.2 (j, w) (List.mem_cons_of_mem _ (List.mem_filter.mpr ⟨zas_mem.mpr h1, ?_⟩))
    have hji' : (j == i) = false := by simp [hji]
    have hj1' : (j == i + 1) = false := by simp [hj1]
    have h3 : (j + 1 == i && w.category == 2) = false := by
      cases ha : (j + 1 == i && w.category == 2)
      · rfl
      · exfalso
        simp only [Bool.and_eq_true, beq_iff_eq] at ha
        exact h2 ha
    show (!(j == i) && (!(j == i + 1) && !(j + 1 == i && w.category == 2))) = true
    rw [hji', hj1', h3]; rfl
/-- the judgement -/
def zW (E : zCx) (cs : Nat × Nat) (A : zA) (m : zM) (pc : Nat) (lv : zLv) (st : List Value) : Prop := match E with
  | (p, l, e, R, s, mm, args, below, meth, c, D, B, Q) => ∀ (H : Heap) (locs : List Loc) (ls : Array Slot), zR D B A m H → va_S (fun q => B ≤ q) s.heap H locs → zL ls lv → lv.length = c.maxLocals → W p l e R s mm args below meth c H locs cs.1 cs.2 Q (F0 mm pc ls st)
def zOK (E : zCx) (cc : ByteArray) (own : String) (nL : Nat) (ret : Option FieldType) (rm : Room) : Prop := match E with
  | (p, _, _, R, s, mm, args, _, meth, c, D, B, _) => p.tables.exec = Jvm.exec ∧ c.code = cc ∧ c.maxLocals = nL ∧ s.vm.findClass own = some mm.cls ∧ (∀ w ∈ zGB, w.before args s = true) ∧ zK D s ∧ B ≤ s.heap.size ∧ meth.sig.returnType = ret ∧ meth.locks = false ∧ R = rm
def zg (E : zCx) : zG := match E with
  | (_, l, _, _, _, _, _, _, _, _, D, B, _) => (l, D, B)
def zPc (D : zD) (B : Nat) (av : List Value) (A : zA) (m : zM) : Array Value → State → Prop := fun v U => v = av.toArray ∧ zR D B A m U.heap ∧ zK D U
def zQc (D : zD) (B : Nat) (post : Option Value → zA → zM → Prop) : Array Value → State → Outcome → State → Prop := fun _ st o t => ∃ (r : Option Value) (A' : zA) (m' : zM), o = .returned r ∧ post r A' m' ∧ zR D B A' m' t.heap ∧ va_F (fun q => B ≤ q) st t
def zMet (G : zG) (k : zMi) (av : List Value) (A : zA) (m : zM) (post : Option Value → zA → zM → Prop) : Prop := Met G.1 k.1 (Cond.code k.1 k.2.1 k.2.2.1 k.2.2.2.1 :: zGB) k.2.2.2.2 (zPc G.2.1 G.2.2 av A m) (zQc G.2.1 G.2.2 post) k.2.2.2.2.cells k.2.2.2.2.slots (fun q => G.2.2 ≤ q)
def zRet (E : zCx) (post : Option Value → zA → zM → Prop) (mc ms : Nat) : Prop := match E with
  | (_, _, _, _, s, _, args, below, _, _, D, B, Q) => Q = MQ below (zQc D B post) args s mc ms (fun q => B ≤ q)
def zNm (E : zCx) (nm : String) : Prop := match E with
  | (_, _, _, _, _, _, _, _, meth, _, _, _, _) => meth.name = nm
def zargs (vs : List Value) : zLv := vs.flatMap fun v => if v.category = 2 then [some v, none] else [some v]
theorem zargs_len (vs : List Value) : (zargs vs).length = (lg_sl vs).length := by
  induction vs with
  | nil => rfl
  | cons v vs ih =>
    simp only [zargs, lg_sl, List.flatMap_cons, List.length_append] at ih ⊢
    rw [ih]
    by_cases h : v.category = 2 <;> simp [h]
theorem zargs_get (vs : List Value) : ∀ (i : Nat) (v : Value), (zargs vs)[i]? = some (some v) → (lg_sl vs)[i]? = some (.val v) := by
  induction vs with
  | nil => intro i v h; simp [zargs] at h
  | cons w vs ih =>
    intro i v h
    simp only [zargs, lg_sl, List.flatMap_cons] at ih h ⊢
    by_cases hc : w.category = 2
    · simp only [hc, if_true] at h ⊢
      match i, h with
      | 0, h => simp at h; simp [h]
      | 1, h => simp at h
      | i + 2, h =>
        simp only [List.cons_append, List.nil_append, List.getElem?_cons_succ] at h ⊢
        exact ih i v h
    · simp only [hc, if_false] at h ⊢
      match i, h with
      | 0, h => simp at h; simp [h]
      | i + 1, h =>
        simp only [List.cons_append, List.nil_append, List.getElem?_cons_succ] at h ⊢
        exact ih i v h
theorem zL.entry (vs : List Value) {n : Nat} (h : (lg_sl vs).length ≤ n) : zL ((lg_sl vs ++ List.replicate (n - (lg_sl vs).length) Slot.unset).toArray) (zargs vs ++ List.replicate (n - (lg_sl vs).length) none) := by
  have h1 := lv_entry vs h
  refine ⟨by simp [zargs_len], h1.2.1, fun i v hi => ?_⟩
  by_cases hl : i < (zargs vs).length
  · rw [List.getElem?_append_left hl] at hi
    have h2 := zargs_get vs i v hi
    rw [List.getElem?_toArray, List.getElem?_append_left (by rw [← zargs_len]; exact hl)]
    exact h2
  · rw [List.getElem?_append_right (by omega)] at hi
    rw [List.getElem?_replicate] at hi
    split at hi <;> simp at hi
theorem zMet.of {G : zG} {y : MethodName} {cc : ByteArray} {maxL : Nat} {ret : Option FieldType} {rm : Room} {av : List Value} {A : zA} {m : zM} {post : Option Value → zA → zM → Prop} (own : String) (hown : y.cls = own) (hy : plainName y.cls = true) (hlen : (lg_sl av).length ≤ maxL) (lv : zLv) (hlv : zargs av ++ List.replicate (maxL - (lg_sl av).length) none = lv)
    (body : ∀ E : zCx, zg E = G → zOK E cc own maxL ret rm → zRet E post rm.cells rm.slots → zNm E y.name → zW E (0, 0) A m 0 lv []) : zMet G (y, cc, maxL, ret, rm) av A m post := by
  subst hown
  obtain ⟨l, D, B⟩ := G
  refine Met.ofW (cc := cc) (maxL := maxL) (ret := ret) hy rfl ?_
  intro p e s mm args below meth c s₁ Bd hml hv
  obtain ⟨rfl, hR, hK⟩ := hv
  have hx := Bd.exec
  have hb := Bd.bytes
  have hr := Bd.returns
  have hts := atoms_spec (ws := Cond.code y cc maxL ret :: zGB) Bd.pre
  have hown : s.vm.findClass y.cls = some mm.cls := findClass_of_methodNamed Bd.named
  have hlocks := Bd.notSynchronized
  have hB : B ≤ s.heap.size := by rw [hR.1]; exact hR.2.1
  have K := body (p, l, e, rm, s, mm, av.toArray, below, meth, c, D, B, MQ below (zQc D B post) av.toArray s rm.cells rm.slots (fun q => B ≤ q)) rfl ⟨hx, hb, hml, hown, fun w hw => hts w (List.mem_cons_of_mem _ hw), hK, hB, hr, hlocks, rfl⟩ rfl (name_of_methodNamed Bd.named Bd.method).1
  have K2 := K s.heap [] ((lg_sl av ++ List.replicate (maxL - (lg_sl av).length) Slot.unset).toArray) hR va_S.rf (by rw [← hlv]; exact zL.entry av hlen) (by rw [← hlv, hml]; simp [zargs_len]; omega)
  rw [lg_entry_eq]
  exact K2
end
section
theorem z_iload_n {E : zCx} {cc : ByteArray} {own : String} {nL : Nat} {ret : Option FieldType} {rm : Room} {cs : Nat × Nat} {A : zA} {m : zM} {pc : Nat} {lv : zLv} {st : List Value} {k : Fin 4} {x : Int} (X : zOK E cc own nL ret rm) (hd : decode cc pc = .ok (.iload_n k, 1)) (hl : lv[(k : Nat)]? = some (some (vi x))) (kk : zW E cs A m (pc + 1) lv (vi x :: st)) : zW E cs A m pc lv (st) := by
  obtain ⟨p, l, e, R, s, mm, args, below, meth, c, D, B, Q⟩ := E
  obtain ⟨hx, hb, hml, hown, hts, hK, hB, hr, hlk, hR0⟩ := X
  intro H locs ls hR hS hL hn
  exact lv_iload_n hx hb hd rfl (hL.at hl) (kk H locs ls hR hS hL hn)
theorem z_iload {E : zCx} {cc : ByteArray} {own : String} {nL : Nat} {ret : Option FieldType} {rm : Room} {cs : Nat × Nat} {A : zA} {m : zM} {pc : Nat} {lv : zLv} {st : List Value} {k : Nat} {x : Int} (X : zOK E cc own nL ret rm) (hd : decode cc pc = .ok (.iload k, 2)) (hl : lv[k]? = some (some (vi x))) (kk : zW E cs A m (pc + 2) lv (vi x :: st)) : zW E cs A m pc lv (st) := by
  obtain ⟨p, l, e, R, s, mm, args, below, meth, c, D, B, Q⟩ := E
  obtain ⟨hx, hb, hml, hown, hts, hK, hB, hr, hlk, hR0⟩ := X
  intro H locs ls hR hS hL hn
  exact lv_iload hx hb hd (hL.at hl) (kk H locs ls hR hS hL hn)
theorem z_lload_n {E : zCx} {cc : ByteArray} {own : String} {nL : Nat} {ret : Option FieldType} {rm : Room} {cs : Nat × Nat} {A : zA} {m : zM} {pc : Nat} {lv : zLv} {st : List Value} {k : Fin 4} {x : Int} (X : zOK E cc own nL ret rm) (hd : decode cc pc = .ok (.lload_n k, 1)) (hl : lv[(k : Nat)]? = some (some (vl x))) (kk : zW E cs A m (pc + 1) lv (vl x :: st)) : zW E cs A m pc lv (st) := by
  obtain ⟨p, l, e, R, s, mm, args, below, meth, c, D, B, Q⟩ := E
  obtain ⟨hx, hb, hml, hown, hts, hK, hB, hr, hlk, hR0⟩ := X
  intro H locs ls hR hS hL hn
  exact lv_lload_n hx hb hd rfl (hL.at hl) (kk H locs ls hR hS hL hn)
theorem z_lload {E : zCx} {cc : ByteArray} {own : String} {nL : Nat} {ret : Option FieldType} {rm : Room} {cs : Nat × Nat} {A : zA} {m : zM} {pc : Nat} {lv : zLv} {st : List Value} {k : Nat} {x : Int} (X : zOK E cc own nL ret rm) (hd : decode cc pc = .ok (.lload k, 2)) (hl : lv[k]? = some (some (vl x))) (kk : zW E cs A m (pc + 2) lv (vl x :: st)) : zW E cs A m pc lv (st) := by
  obtain ⟨p, l, e, R, s, mm, args, below, meth, c, D, B, Q⟩ := E
  obtain ⟨hx, hb, hml, hown, hts, hK, hB, hr, hlk, hR0⟩ := X
  intro H locs ls hR hS hL hn
  exact lv_lload hx hb hd (hL.at hl) (kk H locs ls hR hS hL hn)
theorem z_aload_n {E : zCx} {cc : ByteArray} {own : String} {nL : Nat} {ret : Option FieldType} {rm : Room} {cs : Nat × Nat} {A : zA} {m : zM} {pc : Nat} {lv : zLv} {st : List Value} {k : Fin 4} {a : Nat} (X : zOK E cc own nL ret rm) (hd : decode cc pc = .ok (.aload_n k, 1)) (hl : lv[(k : Nat)]? = some (some (vr a))) (kk : zW E cs A m (pc + 1) lv (vr a :: st)) : zW E cs A m pc lv (st) := by
  obtain ⟨p, l, e, R, s, mm, args, below, meth, c, D, B, Q⟩ := E
  obtain ⟨hx, hb, hml, hown, hts, hK, hB, hr, hlk, hR0⟩ := X
  intro H locs ls hR hS hL hn
  exact lv_aload_n hx hb hd rfl (hL.at hl) (kk H locs ls hR hS hL hn)
theorem z_aload {E : zCx} {cc : ByteArray} {own : String} {nL : Nat} {ret : Option FieldType} {rm : Room} {cs : Nat × Nat} {A : zA} {m : zM} {pc : Nat} {lv : zLv} {st : List Value} {k a : Nat} (X : zOK E cc own nL ret rm) (hd : decode cc pc = .ok (.aload k, 2)) (hl : lv[k]? = some (some (vr a))) (kk : zW E cs A m (pc + 2) lv (vr a :: st)) : zW E cs A m pc lv (st) := by
  obtain ⟨p, l, e, R, s, mm, args, below, meth, c, D, B, Q⟩ := E
  obtain ⟨hx, hb, hml, hown, hts, hK, hB, hr, hlk, hR0⟩ := X
  intro H locs ls hR hS hL hn
  exact lv_aload hx hb hd (hL.at hl) (kk H locs ls hR hS hL hn)
theorem z_aload_nN {E : zCx} {cc : ByteArray} {own : String} {nL : Nat} {ret : Option FieldType} {rm : Room} {cs : Nat × Nat} {A : zA} {m : zM} {pc : Nat} {lv : zLv} {st : List Value} {k : Fin 4} (X : zOK E cc own nL ret rm) (hd : decode cc pc = .ok (.aload_n k, 1)) (hl : lv[(k : Nat)]? = some (some .null)) (kk : zW E cs A m (pc + 1) lv (.null :: st)) : zW E cs A m pc lv (st) := by
  obtain ⟨p, l, e, R, s, mm, args, below, meth, c, D, B, Q⟩ := E
  obtain ⟨hx, hb, hml, hown, hts, hK, hB, hr, hlk, hR0⟩ := X
  intro H locs ls hR hS hL hn
  exact lv_aload_nN hx hb hd rfl (hL.at hl) (kk H locs ls hR hS hL hn)
theorem z_aloadN {E : zCx} {cc : ByteArray} {own : String} {nL : Nat} {ret : Option FieldType} {rm : Room} {cs : Nat × Nat} {A : zA} {m : zM} {pc : Nat} {lv : zLv} {st : List Value} {k : Nat} (X : zOK E cc own nL ret rm) (hd : decode cc pc = .ok (.aload k, 2)) (hl : lv[k]? = some (some .null)) (kk : zW E cs A m (pc + 2) lv (.null :: st)) : zW E cs A m pc lv (st) := by
  obtain ⟨p, l, e, R, s, mm, args, below, meth, c, D, B, Q⟩ := E
  obtain ⟨hx, hb, hml, hown, hts, hK, hB, hr, hlk, hR0⟩ := X
  intro H locs ls hR hS hL hn
  exact lv_aloadN hx hb hd (hL.at hl) (kk H locs ls hR hS hL hn)
theorem z_iconst {E : zCx} {cc : ByteArray} {own : String} {nL : Nat} {ret : Option FieldType} {rm : Room} {cs : Nat × Nat} {A : zA} {m : zM} {pc : Nat} {lv : zLv} {st : List Value} {n : Int} (X : zOK E cc own nL ret rm) (hd : decode cc pc = .ok (.iconst n, 1)) (kk : zW E cs A m (pc + 1) lv (vi n :: st)) : zW E cs A m pc lv (st) := by
  obtain ⟨p, l, e, R, s, mm, args, below, meth, c, D, B, Q⟩ := E
  obtain ⟨hx, hb, hml, hown, hts, hK, hB, hr, hlk, hR0⟩ := X
  intro H locs ls hR hS hL hn
  exact lv_iconst hx hb hd rfl (kk H locs ls hR hS hL hn)
theorem z_bipush {E : zCx} {cc : ByteArray} {own : String} {nL : Nat} {ret : Option FieldType} {rm : Room} {cs : Nat × Nat} {A : zA} {m : zM} {pc : Nat} {lv : zLv} {st : List Value} {n : Int} (X : zOK E cc own nL ret rm) (hd : decode cc pc = .ok (.bipush n, 2)) (hv : (Int8.ofInt n).toInt32 = Int32.ofInt n := by decide) (kk : zW E cs A m (pc + 2) lv (vi n :: st)) : zW E cs A m pc lv (st) := by
  obtain ⟨p, l, e, R, s, mm, args, below, meth, c, D, B, Q⟩ := E
  obtain ⟨hx, hb, hml, hown, hts, hK, hB, hr, hlk, hR0⟩ := X
  intro H locs ls hR hS hL hn
  exact lv_bipush hx hb hd hv (kk H locs ls hR hS hL hn)
theorem z_sipush {E : zCx} {cc : ByteArray} {own : String} {nL : Nat} {ret : Option FieldType} {rm : Room} {cs : Nat × Nat} {A : zA} {m : zM} {pc : Nat} {lv : zLv} {st : List Value} {n : Int} (X : zOK E cc own nL ret rm) (hd : decode cc pc = .ok (.sipush n, 3)) (hv : (Int16.ofInt n).toInt32 = Int32.ofInt n := by decide) (kk : zW E cs A m (pc + 3) lv (vi n :: st)) : zW E cs A m pc lv (st) := by
  obtain ⟨p, l, e, R, s, mm, args, below, meth, c, D, B, Q⟩ := E
  obtain ⟨hx, hb, hml, hown, hts, hK, hB, hr, hlk, hR0⟩ := X
  intro H locs ls hR hS hL hn
  exact lv_sipush hx hb hd hv (kk H locs ls hR hS hL hn)
theorem z_lconst {E : zCx} {cc : ByteArray} {own : String} {nL : Nat} {ret : Option FieldType} {rm : Room} {cs : Nat × Nat} {A : zA} {m : zM} {pc : Nat} {lv : zLv} {st : List Value} {n : Fin 2} (X : zOK E cc own nL ret rm) (hd : decode cc pc = .ok (.lconst n, 1)) (x : Int) (hv : Int64.ofNat (n : Nat) = Int64.ofInt x) (kk : zW E cs A m (pc + 1) lv (vl x :: st)) : zW E cs A m pc lv (st) := by
  obtain ⟨p, l, e, R, s, mm, args, below, meth, c, D, B, Q⟩ := E
  obtain ⟨hx, hb, hml, hown, hts, hK, hB, hr, hlk, hR0⟩ := X
  intro H locs ls hR hS hL hn
  exact lv_lconst hx hb hd hv (kk H locs ls hR hS hL hn)
theorem z_ldc {E : zCx} {cc : ByteArray} {own : String} {nL : Nat} {ret : Option FieldType} {rm : Room} {cs : Nat × Nat} {A : zA} {m : zM} {pc : Nat} {lv : zLv} {st : List Value} {index : Nat} {v : Int32} (X : zOK E cc own nL ret rm) (hd : decode cc pc = .ok (.ldc index, 2)) (hw : Cond.constant own index v ∈ zGB) (x : Int) (hv : v = Int32.ofInt x) (kk : zW E cs A m (pc + 2) lv (vi x :: st)) : zW E cs A m pc lv (st) := by
  obtain ⟨p, l, e, R, s, mm, args, below, meth, c, D, B, Q⟩ := E
  obtain ⟨hx, hb, hml, hown, hts, hK, hB, hr, hlk, hR0⟩ := X
  intro H locs ls hR hS hL hn
  subst hv
  exact lv_ldc hx hb hown (hts _ hw) hd (kk H locs ls hR hS hL hn)
theorem z_ldc2 {E : zCx} {cc : ByteArray} {own : String} {nL : Nat} {ret : Option FieldType} {rm : Room} {cs : Nat × Nat} {A : zA} {m : zM} {pc : Nat} {lv : zLv} {st : List Value} {index : Nat} {v : Int64} (X : zOK E cc own nL ret rm) (hd : decode cc pc = .ok (.ldc2_w index, 3)) (hw : Cond.constantLong own index v ∈ zGB) (x : Int) (hv : v = Int64.ofInt x) (kk : zW E cs A m (pc + 3) lv (vl x :: st)) : zW E cs A m pc lv (st) := by
  obtain ⟨p, l, e, R, s, mm, args, below, meth, c, D, B, Q⟩ := E
  obtain ⟨hx, hb, hml, hown, hts, hK, hB, hr, hlk, hR0⟩ := X
  intro H locs ls hR hS hL hn
  subst hv
  exact lv_ldc2 hx hb hown (hts _ hw) hd (kk H locs ls hR hS hL hn)
theorem z_null {E : zCx} {cc : ByteArray} {own : String} {nL : Nat} {ret : Option FieldType} {rm : Room} {cs : Nat × Nat} {A : zA} {m : zM} {pc : Nat} {lv : zLv} {st : List Value}  (X : zOK E cc own nL ret rm) (hd : decode cc pc = .ok (.aconst_null, 1)) (kk : zW E cs A m (pc + 1) lv (.null :: st)) : zW E cs A m pc lv (st) := by
  obtain ⟨p, l, e, R, s, mm, args, below, meth, c, D, B, Q⟩ := E
  obtain ⟨hx, hb, hml, hown, hts, hK, hB, hr, hlk, hR0⟩ := X
  intro H locs ls hR hS hL hn
  exact lv_null hx hb hd (kk H locs ls hR hS hL hn)
theorem z_istore_n {E : zCx} {cc : ByteArray} {own : String} {nL : Nat} {ret : Option FieldType} {rm : Room} {cs : Nat × Nat} {A : zA} {m : zM} {pc : Nat} {lv : zLv} {st : List Value} {k : Fin 4} {x : Int} (X : zOK E cc own nL ret rm) (hd : decode cc pc = .ok (.istore_n k, 1)) (lv1 : Int → zLv) (hi : (k : Nat) < nL) (hlv : ∀ y, zs1 lv (k : Nat) (vi y) = lv1 y) (kk : ∀ y : Int, y = x → zW E cs A m (pc + 1) (lv1 y) (st)) : zW E cs A m pc lv (vi x :: st) := by
  obtain ⟨p, l, e, R, s, mm, args, below, meth, c, D, B, Q⟩ := E
  obtain ⟨hx, hb, hml, hown, hts, hK, hB, hr, hlk, hR0⟩ := X
  intro H locs ls hR hS hL hn
  refine lv_istore_n hx hb hd rfl hL.has (by rw [hn, hml]; exact hi) rfl (fun ls' hl' => ?_)
  refine kk x rfl H locs ls' hR hS ?_ (by rw [← hlv]; simp [zs1, zclr_len, hn])
  rw [← hlv]
  exact zL.s1 rfl (by rw [hn, hml]; exact hi) rfl hl'

theorem z_istore {E : zCx} {cc : ByteArray} {own : String} {nL : Nat} {ret : Option FieldType} {rm : Room} {cs : Nat × Nat} {A : zA} {m : zM} {pc : Nat} {lv : zLv} {st : List Value} {k : Nat} {x : Int} (X : zOK E cc own nL ret rm) (hd : decode cc pc = .ok (.istore k, 2)) (lv1 : Int → zLv) (hi : k < nL) (hlv : ∀ y, zs1 lv k (vi y) = lv1 y) (kk : ∀ y : Int, y = x → zW E cs A m (pc + 2) (lv1 y) (st)) : zW E cs A m pc lv (vi x :: st) := by
  obtain ⟨p, l, e, R, s, mm, args, below, meth, c, D, B, Q⟩ := E
  obtain ⟨hx, hb, hml, hown, hts, hK, hB, hr, hlk, hR0⟩ := X
  intro H locs ls hR hS hL hn
  refine lv_istore hx hb hd hL.has (by rw [hn, hml]; exact hi) rfl (fun ls' hl' => ?_)
  refine kk x rfl H locs ls' hR hS ?_ (by rw [← hlv]; simp [zs1, zclr_len, hn])
  rw [← hlv]
  exact zL.s1 rfl (by rw [hn, hml]; exact hi) rfl hl'

theorem z_lstore_n {E : zCx} {cc : ByteArray} {own : String} {nL : Nat} {ret : Option FieldType} {rm : Room} {cs : Nat × Nat} {A : zA} {m : zM} {pc : Nat} {lv : zLv} {st : List Value} {k : Fin 4} {x : Int} (X : zOK E cc own nL ret rm) (hd : decode cc pc = .ok (.lstore_n k, 1)) (lv1 : Int → zLv) (hi : (k : Nat) + 1 < nL) (hlv : ∀ y, zs2 lv (k : Nat) (vl y) = lv1 y) (kk : ∀ y : Int, y = x → zW E cs A m (pc + 1) (lv1 y) (st)) : zW E cs A m pc lv (vl x :: st) := by
  obtain ⟨p, l, e, R, s, mm, args, below, meth, c, D, B, Q⟩ := E
  obtain ⟨hx, hb, hml, hown, hts, hK, hB, hr, hlk, hR0⟩ := X
  intro H locs ls hR hS hL hn
  refine lv_lstore_n hx hb hd rfl hL.has (by rw [hn, hml]; exact hi) rfl (fun ls' hl' => ?_)
  refine kk x rfl H locs ls' hR hS ?_ (by rw [← hlv]; simp [zs2, zs1, zclr_len, hn])
  rw [← hlv]
  exact zL.s2 rfl (by rw [hn, hml]; exact hi) rfl hl'

theorem z_lstore {E : zCx} {cc : ByteArray} {own : String} {nL : Nat} {ret : Option FieldType} {rm : Room} {cs : Nat × Nat} {A : zA} {m : zM} {pc : Nat} {lv : zLv} {st : List Value} {k : Nat} {x : Int} (X : zOK E cc own nL ret rm) (hd : decode cc pc = .ok (.lstore k, 2)) (lv1 : Int → zLv) (hi : k + 1 < nL) (hlv : ∀ y, zs2 lv k (vl y) = lv1 y) (kk : ∀ y : Int, y = x → zW E cs A m (pc + 2) (lv1 y) (st)) : zW E cs A m pc lv (vl x :: st) := by
  obtain ⟨p, l, e, R, s, mm, args, below, meth, c, D, B, Q⟩ := E
  obtain ⟨hx, hb, hml, hown, hts, hK, hB, hr, hlk, hR0⟩ := X
  intro H locs ls hR hS hL hn
  refine lv_lstore hx hb hd hL.has (by rw [hn, hml]; exact hi) rfl (fun ls' hl' => ?_)
  refine kk x rfl H locs ls' hR hS ?_ (by rw [← hlv]; simp [zs2, zs1, zclr_len, hn])
  rw [← hlv]
  exact zL.s2 rfl (by rw [hn, hml]; exact hi) rfl hl'

theorem z_astore_n {E : zCx} {cc : ByteArray} {own : String} {nL : Nat} {ret : Option FieldType} {rm : Room} {cs : Nat × Nat} {A : zA} {m : zM} {pc : Nat} {lv : zLv} {st : List Value} {k : Fin 4} {a : Nat} (X : zOK E cc own nL ret rm) (hd : decode cc pc = .ok (.astore_n k, 1)) (lv1 : zLv) (hi : (k : Nat) < nL) (hlv : zs1 lv (k : Nat) (vr a) = lv1) (kk : zW E cs A m (pc + 1) lv1 (st)) : zW E cs A m pc lv (vr a :: st) := by
  obtain ⟨p, l, e, R, s, mm, args, below, meth, c, D, B, Q⟩ := E
  obtain ⟨hx, hb, hml, hown, hts, hK, hB, hr, hlk, hR0⟩ := X
  intro H locs ls hR hS hL hn
  refine lv_astore_n hx hb hd rfl hL.has (by rw [hn, hml]; exact hi) rfl (fun ls' hl' => ?_)
  refine kk H locs ls' hR hS ?_ (by rw [← hlv]; simp [zs1, zclr_len, hn])
  rw [← hlv]
  exact zL.s1 rfl (by rw [hn, hml]; exact hi) rfl hl'

theorem z_astore_nN {E : zCx} {cc : ByteArray} {own : String} {nL : Nat} {ret : Option FieldType} {rm : Room} {cs : Nat × Nat} {A : zA} {m : zM} {pc : Nat} {lv : zLv} {st : List Value} {k : Fin 4}  (X : zOK E cc own nL ret rm) (hd : decode cc pc = .ok (.astore_n k, 1)) (lv1 : zLv) (hi : (k : Nat) < nL) (hlv : zs1 lv (k : Nat) (.null) = lv1) (kk : zW E cs A m (pc + 1) lv1 (st)) : zW E cs A m pc lv (.null :: st) := by
  obtain ⟨p, l, e, R, s, mm, args, below, meth, c, D, B, Q⟩ := E
  obtain ⟨hx, hb, hml, hown, hts, hK, hB, hr, hlk, hR0⟩ := X
  intro H locs ls hR hS hL hn
  refine lv_astore_nN hx hb hd rfl hL.has (by rw [hn, hml]; exact hi) rfl (fun ls' hl' => ?_)
  refine kk H locs ls' hR hS ?_ (by rw [← hlv]; simp [zs1, zclr_len, hn])
  rw [← hlv]
  exact zL.s1 rfl (by rw [hn, hml]; exact hi) rfl hl'

theorem z_astore {E : zCx} {cc : ByteArray} {own : String} {nL : Nat} {ret : Option FieldType} {rm : Room} {cs : Nat × Nat} {A : zA} {m : zM} {pc : Nat} {lv : zLv} {st : List Value} {k : Nat} {a : Nat} (X : zOK E cc own nL ret rm) (hd : decode cc pc = .ok (.astore k, 2)) (lv1 : zLv) (hi : k < nL) (hlv : zs1 lv k (vr a) = lv1) (kk : zW E cs A m (pc + 2) lv1 (st)) : zW E cs A m pc lv (vr a :: st) := by
  obtain ⟨p, l, e, R, s, mm, args, below, meth, c, D, B, Q⟩ := E
  obtain ⟨hx, hb, hml, hown, hts, hK, hB, hr, hlk, hR0⟩ := X
  intro H locs ls hR hS hL hn
  refine lv_astore hx hb hd hL.has (by rw [hn, hml]; exact hi) rfl (fun ls' hl' => ?_)
  refine kk H locs ls' hR hS ?_ (by rw [← hlv]; simp [zs1, zclr_len, hn])
  rw [← hlv]
  exact zL.s1 rfl (by rw [hn, hml]; exact hi) rfl hl'

theorem z_astoreN {E : zCx} {cc : ByteArray} {own : String} {nL : Nat} {ret : Option FieldType} {rm : Room} {cs : Nat × Nat} {A : zA} {m : zM} {pc : Nat} {lv : zLv} {st : List Value} {k : Nat}  (X : zOK E cc own nL ret rm) (hd : decode cc pc = .ok (.astore k, 2)) (lv1 : zLv) (hi : k < nL) (hlv : zs1 lv k (.null) = lv1) (kk : zW E cs A m (pc + 2) lv1 (st)) : zW E cs A m pc lv (.null :: st) := by
  obtain ⟨p, l, e, R, s, mm, args, below, meth, c, D, B, Q⟩ := E
  obtain ⟨hx, hb, hml, hown, hts, hK, hB, hr, hlk, hR0⟩ := X
  intro H locs ls hR hS hL hn
  refine lv_astoreN hx hb hd hL.has (by rw [hn, hml]; exact hi) rfl (fun ls' hl' => ?_)
  refine kk H locs ls' hR hS ?_ (by rw [← hlv]; simp [zs1, zclr_len, hn])
  rw [← hlv]
  exact zL.s1 rfl (by rw [hn, hml]; exact hi) rfl hl'

theorem z_iinc {E : zCx} {cc : ByteArray} {own : String} {nL : Nat} {ret : Option FieldType} {rm : Room} {cs : Nat × Nat} {A : zA} {m : zM} {pc : Nat} {lv : zLv} {st : List Value} {k : Nat} {n x : Int} (X : zOK E cc own nL ret rm) (hd : decode cc pc = .ok (.iinc k n, 3)) (hl : lv[k]? = some (some (vi x))) (lv1 : Int → zLv) (hlv : ∀ y, zs1 lv k (vi y) = lv1 y) (kk : ∀ y : Int, y = x + n → zW E cs A m (pc + 3) (lv1 y) (st)) : zW E cs A m pc lv (st) := by
  obtain ⟨p, l, e, R, s, mm, args, below, meth, c, D, B, Q⟩ := E
  obtain ⟨hx, hb, hml, hown, hts, hK, hB, hr, hlk, hR0⟩ := X
  intro H locs ls hR hS hL hn
  have hk : k < lv.length := (List.getElem?_eq_some_iff.mp hl).1
  obtain ⟨i, hi⟩ := List.getElem?_of_mem (zas_mem.mpr hl)
  refine lv_iinc (v := Int32.ofInt (x + n)) hx hb hd hL.has hi (by rw [Int32.ofInt_add]) hk rfl (fun ls' hl' => ?_)
  refine kk (x + n) rfl H locs ls' hR hS ?_ (by rw [← hlv]; simp [zs1, zclr_len, hn])
  rw [← hlv]
  exact zL.s1 rfl hk rfl hl'

theorem z_iadd {E : zCx} {cc : ByteArray} {own : String} {nL : Nat} {ret : Option FieldType} {rm : Room} {cs : Nat × Nat} {A : zA} {m : zM} {pc : Nat} {lv : zLv} {st : List Value} {a b : Int} (X : zOK E cc own nL ret rm) (hd : decode cc pc = .ok (.iadd, 1)) (kk : zW E cs A m (pc + 1) lv (vi (a + b) :: st)) : zW E cs A m pc lv (vi b :: vi a :: st) := by
  obtain ⟨p, l, e, R, s, mm, args, below, meth, c, D, B, Q⟩ := E
  obtain ⟨hx, hb, hml, hown, hts, hK, hB, hr, hlk, hR0⟩ := X
  intro H locs ls hR hS hL hn
  refine lv_iadd hx hb hd ?_
  rw [← Int32.ofInt_add]
  exact kk H locs ls hR hS hL hn

theorem z_isub {E : zCx} {cc : ByteArray} {own : String} {nL : Nat} {ret : Option FieldType} {rm : Room} {cs : Nat × Nat} {A : zA} {m : zM} {pc : Nat} {lv : zLv} {st : List Value} {a b : Int} (X : zOK E cc own nL ret rm) (hd : decode cc pc = .ok (.isub, 1)) (kk : zW E cs A m (pc + 1) lv (vi (a - b) :: st)) : zW E cs A m pc lv (vi b :: vi a :: st) := by
  obtain ⟨p, l, e, R, s, mm, args, below, meth, c, D, B, Q⟩ := E
  obtain ⟨hx, hb, hml, hown, hts, hK, hB, hr, hlk, hR0⟩ := X
  intro H locs ls hR hS hL hn
  refine lv_isub hx hb hd ?_
  rw [← Int32.ofInt_sub]
  exact kk H locs ls hR hS hL hn

theorem z_imul {E : zCx} {cc : ByteArray} {own : String} {nL : Nat} {ret : Option FieldType} {rm : Room} {cs : Nat × Nat} {A : zA} {m : zM} {pc : Nat} {lv : zLv} {st : List Value} {a b : Int} (X : zOK E cc own nL ret rm) (hd : decode cc pc = .ok (.imul, 1)) (kk : zW E cs A m (pc + 1) lv (vi (a * b) :: st)) : zW E cs A m pc lv (vi b :: vi a :: st) := by
  obtain ⟨p, l, e, R, s, mm, args, below, meth, c, D, B, Q⟩ := E
  obtain ⟨hx, hb, hml, hown, hts, hK, hB, hr, hlk, hR0⟩ := X
  intro H locs ls hR hS hL hn
  refine lv_imul hx hb hd ?_
  rw [← Int32.ofInt_mul]
  exact kk H locs ls hR hS hL hn

theorem z_ladd {E : zCx} {cc : ByteArray} {own : String} {nL : Nat} {ret : Option FieldType} {rm : Room} {cs : Nat × Nat} {A : zA} {m : zM} {pc : Nat} {lv : zLv} {st : List Value} {a b : Int} (X : zOK E cc own nL ret rm) (hd : decode cc pc = .ok (.ladd, 1)) (kk : zW E cs A m (pc + 1) lv (vl (a + b) :: st)) : zW E cs A m pc lv (vl b :: vl a :: st) := by
  obtain ⟨p, l, e, R, s, mm, args, below, meth, c, D, B, Q⟩ := E
  obtain ⟨hx, hb, hml, hown, hts, hK, hB, hr, hlk, hR0⟩ := X
  intro H locs ls hR hS hL hn
  refine lv_ladd hx hb hd ?_
  rw [← Int64.ofInt_add]
  exact kk H locs ls hR hS hL hn

theorem z_lsub {E : zCx} {cc : ByteArray} {own : String} {nL : Nat} {ret : Option FieldType} {rm : Room} {cs : Nat × Nat} {A : zA} {m : zM} {pc : Nat} {lv : zLv} {st : List Value} {a b : Int} (X : zOK E cc own nL ret rm) (hd : decode cc pc = .ok (.lsub, 1)) (kk : zW E cs A m (pc + 1) lv (vl (a - b) :: st)) : zW E cs A m pc lv (vl b :: vl a :: st) := by
  obtain ⟨p, l, e, R, s, mm, args, below, meth, c, D, B, Q⟩ := E
  obtain ⟨hx, hb, hml, hown, hts, hK, hB, hr, hlk, hR0⟩ := X
  intro H locs ls hR hS hL hn
  refine lv_lsub hx hb hd ?_
  rw [← Int64.ofInt_sub]
  exact kk H locs ls hR hS hL hn

theorem z_lmul {E : zCx} {cc : ByteArray} {own : String} {nL : Nat} {ret : Option FieldType} {rm : Room} {cs : Nat × Nat} {A : zA} {m : zM} {pc : Nat} {lv : zLv} {st : List Value} {a b : Int} (X : zOK E cc own nL ret rm) (hd : decode cc pc = .ok (.lmul, 1)) (kk : zW E cs A m (pc + 1) lv (vl (a * b) :: st)) : zW E cs A m pc lv (vl b :: vl a :: st) := by
  obtain ⟨p, l, e, R, s, mm, args, below, meth, c, D, B, Q⟩ := E
  obtain ⟨hx, hb, hml, hown, hts, hK, hB, hr, hlk, hR0⟩ := X
  intro H locs ls hR hS hL hn
  refine lv_lmul hx hb hd ?_
  rw [← Int64.ofInt_mul]
  exact kk H locs ls hR hS hL hn

theorem z_idiv {E : zCx} {cc : ByteArray} {own : String} {nL : Nat} {ret : Option FieldType} {rm : Room} {cs : Nat × Nat} {A : zA} {m : zM} {pc : Nat} {lv : zLv} {st : List Value} {a b : Int} (X : zOK E cc own nL ret rm) (hd : decode cc pc = .ok (.idiv, 1)) (ra : 0 ≤ a ∧ a < 2147483648 := by omega) (rb : 0 < b ∧ b < 2147483648 := by omega) (kk : zW E cs A m (pc + 1) lv (vi (a / b) :: st)) : zW E cs A m pc lv (vi b :: vi a :: st) := by
  obtain ⟨p, l, e, R, s, mm, args, below, meth, c, D, B, Q⟩ := E
  obtain ⟨hx, hb, hml, hown, hts, hK, hB, hr, hlk, hR0⟩ := X
  intro H locs ls hR hS hL hn
  refine lv_idiv hx hb hd (by rw [show (0 : Int32) = Int32.ofInt 0 from rfl, zI_eq (by omega) (by omega)]; omega) ?_
  rw [zI_div a b ra rb]
  exact kk H locs ls hR hS hL hn

theorem z_irem {E : zCx} {cc : ByteArray} {own : String} {nL : Nat} {ret : Option FieldType} {rm : Room} {cs : Nat × Nat} {A : zA} {m : zM} {pc : Nat} {lv : zLv} {st : List Value} {a b : Int} (X : zOK E cc own nL ret rm) (hd : decode cc pc = .ok (.irem, 1)) (ra : 0 ≤ a ∧ a < 2147483648 := by omega) (rb : 0 < b ∧ b < 2147483648 := by omega) (kk : zW E cs A m (pc + 1) lv (vi (a % b) :: st)) : zW E cs A m pc lv (vi b :: vi a :: st) := by
  obtain ⟨p, l, e, R, s, mm, args, below, meth, c, D, B, Q⟩ := E
  obtain ⟨hx, hb, hml, hown, hts, hK, hB, hr, hlk, hR0⟩ := X
  intro H locs ls hR hS hL hn
  refine lv_irem hx hb hd (by rw [show (0 : Int32) = Int32.ofInt 0 from rfl, zI_eq (by omega) (by omega)]; omega) ?_
  have hrem : a % b = a - a / b * b := by rw [Int.emod_def, Int.mul_comm]
  rw [zI_div a b ra rb, ← Int32.ofInt_mul, ← Int32.ofInt_sub, ← hrem]
  exact kk H locs ls hR hS hL hn

theorem z_ldiv {E : zCx} {cc : ByteArray} {own : String} {nL : Nat} {ret : Option FieldType} {rm : Room} {cs : Nat × Nat} {A : zA} {m : zM} {pc : Nat} {lv : zLv} {st : List Value} {a b : Int} (X : zOK E cc own nL ret rm) (hd : decode cc pc = .ok (.ldiv, 1)) (ra : 0 ≤ a ∧ a < 9223372036854775808 := by omega) (rb : 0 < b ∧ b < 9223372036854775808 := by omega) (kk : zW E cs A m (pc + 1) lv (vl (a / b) :: st)) : zW E cs A m pc lv (vl b :: vl a :: st) := by
  obtain ⟨p, l, e, R, s, mm, args, below, meth, c, D, B, Q⟩ := E
  obtain ⟨hx, hb, hml, hown, hts, hK, hB, hr, hlk, hR0⟩ := X
  intro H locs ls hR hS hL hn
  refine lv_ldiv hx hb hd (by rw [show (0 : Int64) = Int64.ofInt 0 from rfl, zL_eq (by omega) (by omega)]; omega) ?_
  rw [zL_div a b ra rb]
  exact kk H locs ls hR hS hL hn

theorem z_lrem {E : zCx} {cc : ByteArray} {own : String} {nL : Nat} {ret : Option FieldType} {rm : Room} {cs : Nat × Nat} {A : zA} {m : zM} {pc : Nat} {lv : zLv} {st : List Value} {a b : Int} (X : zOK E cc own nL ret rm) (hd : decode cc pc = .ok (.lrem, 1)) (ra : 0 ≤ a ∧ a < 9223372036854775808 := by omega) (rb : 0 < b ∧ b < 9223372036854775808 := by omega) (kk : zW E cs A m (pc + 1) lv (vl (a % b) :: st)) : zW E cs A m pc lv (vl b :: vl a :: st) := by
  obtain ⟨p, l, e, R, s, mm, args, below, meth, c, D, B, Q⟩ := E
  obtain ⟨hx, hb, hml, hown, hts, hK, hB, hr, hlk, hR0⟩ := X
  intro H locs ls hR hS hL hn
  refine lv_lrem hx hb hd (by rw [show (0 : Int64) = Int64.ofInt 0 from rfl, zL_eq (by omega) (by omega)]; omega) ?_
  have hrem : a % b = a - a / b * b := by rw [Int.emod_def, Int.mul_comm]
  rw [zL_div a b ra rb, ← Int64.ofInt_mul, ← Int64.ofInt_sub, ← hrem]
  exact kk H locs ls hR hS hL hn

theorem z_iand {E : zCx} {cc : ByteArray} {own : String} {nL : Nat} {ret : Option FieldType} {rm : Room} {cs : Nat × Nat} {A : zA} {m : zM} {pc : Nat} {lv : zLv} {st : List Value} {a M : Int} (X : zOK E cc own nL ret rm) (hd : decode cc pc = .ok (.iand, 1)) (k : Nat) (hk : k < 32) (hM : ((2 ^ k : Nat) : Int) = M + 1) (P : Int) (hP : M + 1 = P) (kk : zW E cs A m (pc + 1) lv (vi (a % P) :: st)) : zW E cs A m pc lv (vi M :: vi a :: st) := by
  obtain ⟨p, l, e, R, s, mm, args, below, meth, c, D, B, Q⟩ := E
  obtain ⟨hx, hb, hml, hown, hts, hK, hB, hr, hlk, hR0⟩ := X
  intro H locs ls hR hS hL hn
  subst hP
  refine lv_iand hx hb hd ?_
  rw [zI_and a M k hk hM]
  exact kk H locs ls hR hS hL hn

theorem z_land {E : zCx} {cc : ByteArray} {own : String} {nL : Nat} {ret : Option FieldType} {rm : Room} {cs : Nat × Nat} {A : zA} {m : zM} {pc : Nat} {lv : zLv} {st : List Value} {a M : Int} (X : zOK E cc own nL ret rm) (hd : decode cc pc = .ok (.land, 1)) (k : Nat) (hk : k < 64) (hM : ((2 ^ k : Nat) : Int) = M + 1) (P : Int) (hP : M + 1 = P) (kk : zW E cs A m (pc + 1) lv (vl (a % P) :: st)) : zW E cs A m pc lv (vl M :: vl a :: st) := by
  obtain ⟨p, l, e, R, s, mm, args, below, meth, c, D, B, Q⟩ := E
  obtain ⟨hx, hb, hml, hown, hts, hK, hB, hr, hlk, hR0⟩ := X
  intro H locs ls hR hS hL hn
  subst hP
  refine lv_land hx hb hd ?_
  rw [zL_and a M k hk hM]
  exact kk H locs ls hR hS hL hn

theorem z_ishr {E : zCx} {cc : ByteArray} {own : String} {nL : Nat} {ret : Option FieldType} {rm : Room} {cs : Nat × Nat} {A : zA} {m : zM} {pc : Nat} {lv : zLv} {st : List Value} {a b : Int} (X : zOK E cc own nL ret rm) (hd : decode cc pc = .ok (.ishr, 1)) (k : Nat) (P : Int) (hk : b = (k : Int)) (hlt : k < 32) (hP : ((2 ^ k : Nat) : Int) = P) (ra : -2147483648 ≤ a ∧ a < 2147483648 := by omega) (kk : zW E cs A m (pc + 1) lv (vi (a / P) :: st)) : zW E cs A m pc lv (vi b :: vi a :: st) := by
  obtain ⟨p, l, e, R, s, mm, args, below, meth, c, D, B, Q⟩ := E
  obtain ⟨hx, hb, hml, hown, hts, hK, hB, hr, hlk, hR0⟩ := X
  intro H locs ls hR hS hL hn
  subst hk
  subst hP
  refine lv_ishr hx hb hd ?_
  rw [zI_shr a k hlt ra]
  exact kk H locs ls hR hS hL hn

theorem z_iushr {E : zCx} {cc : ByteArray} {own : String} {nL : Nat} {ret : Option FieldType} {rm : Room} {cs : Nat × Nat} {A : zA} {m : zM} {pc : Nat} {lv : zLv} {st : List Value} {a b : Int} (X : zOK E cc own nL ret rm) (hd : decode cc pc = .ok (.iushr, 1)) (k : Nat) (P : Int) (hk : b = (k : Int)) (hlt : k < 32) (hP : ((2 ^ k : Nat) : Int) = P) (ra : 0 ≤ a ∧ a < 4294967296 := by omega) (kk : zW E cs A m (pc + 1) lv (vi (a / P) :: st)) : zW E cs A m pc lv (vi b :: vi a :: st) := by
  obtain ⟨p, l, e, R, s, mm, args, below, meth, c, D, B, Q⟩ := E
  obtain ⟨hx, hb, hml, hown, hts, hK, hB, hr, hlk, hR0⟩ := X
  intro H locs ls hR hS hL hn
  subst hk
  subst hP
  exact lv_iushr hx hb hd (zI_ushr a k hlt ra) (kk H locs ls hR hS hL hn)

theorem z_ishl {E : zCx} {cc : ByteArray} {own : String} {nL : Nat} {ret : Option FieldType} {rm : Room} {cs : Nat × Nat} {A : zA} {m : zM} {pc : Nat} {lv : zLv} {st : List Value} {a b : Int} (X : zOK E cc own nL ret rm) (hd : decode cc pc = .ok (.ishl, 1)) (k : Nat) (P : Int) (hk : b = (k : Int)) (hlt : k < 32) (hP : ((2 ^ k : Nat) : Int) = P)  (kk : zW E cs A m (pc + 1) lv (vi (a * P) :: st)) : zW E cs A m pc lv (vi b :: vi a :: st) := by
  obtain ⟨p, l, e, R, s, mm, args, below, meth, c, D, B, Q⟩ := E
  obtain ⟨hx, hb, hml, hown, hts, hK, hB, hr, hlk, hR0⟩ := X
  intro H locs ls hR hS hL hn
  subst hk
  subst hP
  refine lv_ishl hx hb hd ?_
  rw [zI_shl a k hlt]
  exact kk H locs ls hR hS hL hn

theorem z_lshr {E : zCx} {cc : ByteArray} {own : String} {nL : Nat} {ret : Option FieldType} {rm : Room} {cs : Nat × Nat} {A : zA} {m : zM} {pc : Nat} {lv : zLv} {st : List Value} {a b : Int} (X : zOK E cc own nL ret rm) (hd : decode cc pc = .ok (.lshr, 1)) (k : Nat) (P : Int) (hk : b = (k : Int)) (hlt : k < 64) (hP : ((2 ^ k : Nat) : Int) = P) (ra : -9223372036854775808 ≤ a ∧ a < 9223372036854775808 := by omega) (kk : zW E cs A m (pc + 1) lv (vl (a / P) :: st)) : zW E cs A m pc lv (vi b :: vl a :: st) := by
  obtain ⟨p, l, e, R, s, mm, args, below, meth, c, D, B, Q⟩ := E
  obtain ⟨hx, hb, hml, hown, hts, hK, hB, hr, hlk, hR0⟩ := X
  intro H locs ls hR hS hL hn
  subst hk
  subst hP
  exact lv_lshr hx hb hd (zL_shr a k hlt ra) (kk H locs ls hR hS hL hn)

theorem z_lushr {E : zCx} {cc : ByteArray} {own : String} {nL : Nat} {ret : Option FieldType} {rm : Room} {cs : Nat × Nat} {A : zA} {m : zM} {pc : Nat} {lv : zLv} {st : List Value} {a b : Int} (X : zOK E cc own nL ret rm) (hd : decode cc pc = .ok (.lushr, 1)) (k : Nat) (P : Int) (hk : b = (k : Int)) (hlt : k < 64) (hP : ((2 ^ k : Nat) : Int) = P) (ra : 0 ≤ a ∧ a < 18446744073709551616 := by omega) (kk : zW E cs A m (pc + 1) lv (vl (a / P) :: st)) : zW E cs A m pc lv (vi b :: vl a :: st) := by
  obtain ⟨p, l, e, R, s, mm, args, below, meth, c, D, B, Q⟩ := E
  obtain ⟨hx, hb, hml, hown, hts, hK, hB, hr, hlk, hR0⟩ := X
  intro H locs ls hR hS hL hn
  subst hk
  subst hP
  exact lv_lushr hx hb hd (zL_ushr a k hlt ra) (kk H locs ls hR hS hL hn)

theorem z_lshl {E : zCx} {cc : ByteArray} {own : String} {nL : Nat} {ret : Option FieldType} {rm : Room} {cs : Nat × Nat} {A : zA} {m : zM} {pc : Nat} {lv : zLv} {st : List Value} {a b : Int} (X : zOK E cc own nL ret rm) (hd : decode cc pc = .ok (.lshl, 1)) (k : Nat) (P : Int) (hk : b = (k : Int)) (hlt : k < 64) (hP : ((2 ^ k : Nat) : Int) = P)  (kk : zW E cs A m (pc + 1) lv (vl (a * P) :: st)) : zW E cs A m pc lv (vi b :: vl a :: st) := by
  obtain ⟨p, l, e, R, s, mm, args, below, meth, c, D, B, Q⟩ := E
  obtain ⟨hx, hb, hml, hown, hts, hK, hB, hr, hlk, hR0⟩ := X
  intro H locs ls hR hS hL hn
  subst hk
  subst hP
  exact lv_lshl hx hb hd (zL_shl a k hlt) (kk H locs ls hR hS hL hn)

theorem z_lor {E : zCx} {cc : ByteArray} {own : String} {nL : Nat} {ret : Option FieldType} {rm : Room} {cs : Nat × Nat} {A : zA} {m : zM} {pc : Nat} {lv : zLv} {st : List Value} {a b : Int} (X : zOK E cc own nL ret rm) (hd : decode cc pc = .ok (.lor, 1)) (k : Nat) (x : Int) (hk : k < 64) (hx0 : a = x * ((2 ^ k : Nat) : Int)) (ha : 0 ≤ x ∧ x * ((2 ^ k : Nat) : Int) < 18446744073709551616) (hb0 : 0 ≤ b ∧ b < ((2 ^ k : Nat) : Int)) (kk : zW E cs A m (pc + 1) lv (vl (a + b) :: st)) : zW E cs A m pc lv (vl b :: vl a :: st) := by
  obtain ⟨p, l, e, R, s, mm, args, below, meth, c, D, B, Q⟩ := E
  obtain ⟨hx, hb, hml, hown, hts, hK, hB, hr, hlk, hR0⟩ := X
  intro H locs ls hR hS hL hn
  subst hx0
  refine lv_lor hx hb hd ?_
  rw [zL_or x b k hk ha hb0]
  exact kk H locs ls hR hS hL hn

theorem z_lor2 {E : zCx} {cc : ByteArray} {own : String} {nL : Nat} {ret : Option FieldType} {rm : Room} {cs : Nat × Nat} {A : zA} {m : zM} {pc : Nat} {lv : zLv} {st : List Value} {a b : Int} (X : zOK E cc own nL ret rm) (hd : decode cc pc = .ok (.lor, 1)) (k : Nat) (x : Int) (hk : k < 64) (hx0 : b = x * ((2 ^ k : Nat) : Int)) (hb0 : 0 ≤ x ∧ x * ((2 ^ k : Nat) : Int) < 18446744073709551616) (ha : 0 ≤ a ∧ a < ((2 ^ k : Nat) : Int)) (kk : zW E cs A m (pc + 1) lv (vl (a + b) :: st)) : zW E cs A m pc lv (vl b :: vl a :: st) := by
  obtain ⟨p, l, e, R, s, mm, args, below, meth, c, D, B, Q⟩ := E
  obtain ⟨hx, hb, hml, hown, hts, hK, hB, hr, hlk, hR0⟩ := X
  intro H locs ls hR hS hL hn
  subst hx0
  refine lv_lor hx hb hd ?_
  have h := zL_or x a k hk hb0 ha
  rw [Int64.or_comm, h, Int.add_comm]
  exact kk H locs ls hR hS hL hn

theorem z_lneg {E : zCx} {cc : ByteArray} {own : String} {nL : Nat} {ret : Option FieldType} {rm : Room} {cs : Nat × Nat} {A : zA} {m : zM} {pc : Nat} {lv : zLv} {st : List Value} {a : Int} (X : zOK E cc own nL ret rm) (hd : decode cc pc = .ok (.lneg, 1)) (kk : zW E cs A m (pc + 1) lv (vl (-a) :: st)) : zW E cs A m pc lv (vl a :: st) := by
  obtain ⟨p, l, e, R, s, mm, args, below, meth, c, D, B, Q⟩ := E
  obtain ⟨hx, hb, hml, hown, hts, hK, hB, hr, hlk, hR0⟩ := X
  intro H locs ls hR hS hL hn
  refine lv_lneg hx hb hd ?_
  rw [← Int64.ofInt_neg]
  exact kk H locs ls hR hS hL hn

theorem z_i2l {E : zCx} {cc : ByteArray} {own : String} {nL : Nat} {ret : Option FieldType} {rm : Room} {cs : Nat × Nat} {A : zA} {m : zM} {pc : Nat} {lv : zLv} {st : List Value} {a : Int} (X : zOK E cc own nL ret rm) (hd : decode cc pc = .ok (.i2l, 1)) (ra : -2147483648 ≤ a ∧ a < 2147483648 := by omega) (kk : zW E cs A m (pc + 1) lv (vl a :: st)) : zW E cs A m pc lv (vi a :: st) := by
  obtain ⟨p, l, e, R, s, mm, args, below, meth, c, D, B, Q⟩ := E
  obtain ⟨hx, hb, hml, hown, hts, hK, hB, hr, hlk, hR0⟩ := X
  intro H locs ls hR hS hL hn
  exact lv_i2l hx hb hd (zI_2l ra) (kk H locs ls hR hS hL hn)
theorem z_i2lu {E : zCx} {cc : ByteArray} {own : String} {nL : Nat} {ret : Option FieldType} {rm : Room} {cs : Nat × Nat} {A : zA} {m : zM} {pc : Nat} {lv : zLv} {st : List Value} {a : Int} (X : zOK E cc own nL ret rm) (hd : decode cc pc = .ok (.i2l, 1)) (kk : zW E cs A m (pc + 1) lv (vl (Int.bmod a 4294967296) :: st)) : zW E cs A m pc lv (vi a :: st) := by
  obtain ⟨p, l, e, R, s, mm, args, below, meth, c, D, B, Q⟩ := E
  obtain ⟨hx, hb, hml, hown, hts, hK, hB, hr, hlk, hR0⟩ := X
  intro H locs ls hR hS hL hn
  exact lv_i2l hx hb hd (zI_2l_bmod a) (kk H locs ls hR hS hL hn)
theorem z_l2i {E : zCx} {cc : ByteArray} {own : String} {nL : Nat} {ret : Option FieldType} {rm : Room} {cs : Nat × Nat} {A : zA} {m : zM} {pc : Nat} {lv : zLv} {st : List Value} {a : Int} (X : zOK E cc own nL ret rm) (hd : decode cc pc = .ok (.l2i, 1)) (kk : zW E cs A m (pc + 1) lv (vi a :: st)) : zW E cs A m pc lv (vl a :: st) := by
  obtain ⟨p, l, e, R, s, mm, args, below, meth, c, D, B, Q⟩ := E
  obtain ⟨hx, hb, hml, hown, hts, hK, hB, hr, hlk, hR0⟩ := X
  intro H locs ls hR hS hL hn
  exact lv_l2i hx hb hd (by rw [Int64.toInt32_ofInt]) (kk H locs ls hR hS hL hn)
theorem z_dup {E : zCx} {cc : ByteArray} {own : String} {nL : Nat} {ret : Option FieldType} {rm : Room} {cs : Nat × Nat} {A : zA} {m : zM} {pc : Nat} {lv : zLv} {st : List Value} {v : Value} (X : zOK E cc own nL ret rm) (hd : decode cc pc = .ok (.dup, 1)) (hv : v.category = 1 := by rfl) (kk : zW E cs A m (pc + 1) lv (v :: v :: st)) : zW E cs A m pc lv (v :: st) := by
  obtain ⟨p, l, e, R, s, mm, args, below, meth, c, D, B, Q⟩ := E
  obtain ⟨hx, hb, hml, hown, hts, hK, hB, hr, hlk, hR0⟩ := X
  intro H locs ls hR hS hL hn
  exact lv_dup hx hb hd hv (kk H locs ls hR hS hL hn)
theorem z_dup2 {E : zCx} {cc : ByteArray} {own : String} {nL : Nat} {ret : Option FieldType} {rm : Room} {cs : Nat × Nat} {A : zA} {m : zM} {pc : Nat} {lv : zLv} {st : List Value} {v w : Value} (X : zOK E cc own nL ret rm) (hd : decode cc pc = .ok (.dup2, 1)) (hv : v.category = 1 := by rfl) (hw : w.category = 1 := by rfl) (kk : zW E cs A m (pc + 1) lv (v :: w :: v :: w :: st)) : zW E cs A m pc lv (v :: w :: st) := by
  obtain ⟨p, l, e, R, s, mm, args, below, meth, c, D, B, Q⟩ := E
  obtain ⟨hx, hb, hml, hown, hts, hK, hB, hr, hlk, hR0⟩ := X
  intro H locs ls hR hS hL hn
  exact lv_dup2_11 hx hb hd hv hw (kk H locs ls hR hS hL hn)
theorem z_dup2l {E : zCx} {cc : ByteArray} {own : String} {nL : Nat} {ret : Option FieldType} {rm : Room} {cs : Nat × Nat} {A : zA} {m : zM} {pc : Nat} {lv : zLv} {st : List Value} {a : Int} (X : zOK E cc own nL ret rm) (hd : decode cc pc = .ok (.dup2, 1)) (kk : zW E cs A m (pc + 1) lv (vl a :: vl a :: st)) : zW E cs A m pc lv (vl a :: st) := by
  obtain ⟨p, l, e, R, s, mm, args, below, meth, c, D, B, Q⟩ := E
  obtain ⟨hx, hb, hml, hown, hts, hK, hB, hr, hlk, hR0⟩ := X
  intro H locs ls hR hS hL hn
  exact lv_dup2_2 hx hb hd rfl (kk H locs ls hR hS hL hn)
theorem z_icmp_eq {E : zCx} {cc : ByteArray} {own : String} {nL : Nat} {ret : Option FieldType} {rm : Room} {cs : Nat × Nat} {A : zA} {m : zM} {pc : Nat} {lv : zLv} {st : List Value} {a b : Int} {off : Int} (X : zOK E cc own nL ret rm) (hd : decode cc pc = .ok (.if_icmp .eq off, 3)) (tgt : Nat) (ht : (pc : Int) + off = (tgt : Int)) (ra : -2147483648 ≤ a ∧ a < 2147483648 := by omega) (rb : -2147483648 ≤ b ∧ b < 2147483648 := by omega) (k1 : a = b → zW E cs A m tgt lv (st)) (k2 : ¬ (a = b) → zW E cs A m (pc + 3) lv (st)) : zW E cs A m pc lv (vi b :: vi a :: st) := by
  obtain ⟨p, l, e, R, s, mm, args, below, meth, c, D, B, Q⟩ := E
  obtain ⟨hx, hb, hml, hown, hts, hK, hB, hr, hlk, hR0⟩ := X
  intro H locs ls hR hS hL hn
  exact lv_icmp_eq hx hb hd ht (fun h => k1 (by first | exact (zI_eq (by omega) (by omega)).mp h | exact fun q => h ((zI_eq (by omega) (by omega)).mpr q)) H locs ls hR hS hL hn) (fun h => k2 (by first | exact fun q => h ((zI_eq (by omega) (by omega)).mpr q) | exact fun q => q ((zI_eq (by omega) (by omega)).mp h) | exact fun q => h (fun r => q ((zI_eq (by omega) (by omega)).mp r))) H locs ls hR hS hL hn)
theorem z_if_eq {E : zCx} {cc : ByteArray} {own : String} {nL : Nat} {ret : Option FieldType} {rm : Room} {cs : Nat × Nat} {A : zA} {m : zM} {pc : Nat} {lv : zLv} {st : List Value} {a : Int} {off : Int} (X : zOK E cc own nL ret rm) (hd : decode cc pc = .ok (.ifCond .eq off, 3)) (tgt : Nat) (ht : (pc : Int) + off = (tgt : Int)) (ra : -2147483648 ≤ a ∧ a < 2147483648 := by omega) (k1 : a = 0 → zW E cs A m tgt lv (st)) (k2 : ¬ (a = 0) → zW E cs A m (pc + 3) lv (st)) : zW E cs A m pc lv (vi a :: st) := by
  obtain ⟨p, l, e, R, s, mm, args, below, meth, c, D, B, Q⟩ := E
  obtain ⟨hx, hb, hml, hown, hts, hK, hB, hr, hlk, hR0⟩ := X
  intro H locs ls hR hS hL hn
  exact lv_if_eq hx hb hd ht (fun h => k1 (by first | exact (zI_eq (by omega) (by omega)).mp h | exact fun q => h ((zI_eq (by omega) (by omega)).mpr q)) H locs ls hR hS hL hn) (fun h => k2 (by first | exact fun q => h ((zI_eq (by omega) (by omega)).mpr q) | exact fun q => q ((zI_eq (by omega) (by omega)).mp h) | exact fun q => h (fun r => q ((zI_eq (by omega) (by omega)).mp r))) H locs ls hR hS hL hn)
theorem z_lcmp_eq {E : zCx} {cc : ByteArray} {own : String} {nL : Nat} {ret : Option FieldType} {rm : Room} {cs : Nat × Nat} {A : zA} {m : zM} {pc : Nat} {lv : zLv} {st : List Value} {a b : Int} {off : Int} (X : zOK E cc own nL ret rm) (hd : decode cc pc = .ok (.lcmp, 1)) (hd2 : decode cc (pc + 1) = .ok (.ifCond .eq off, 3)) (tgt : Nat) (ht : ((pc + 1 : Nat) : Int) + off = (tgt : Int)) (ra : -9223372036854775808 ≤ a ∧ a < 9223372036854775808 := by omega) (rb : -9223372036854775808 ≤ b ∧ b < 9223372036854775808 := by omega) (k1 : a = b → zW E cs A m tgt lv (st)) (k2 : ¬ (a = b) → zW E cs A m (pc + 1 + 3) lv (st)) : zW E cs A m pc lv (vl b :: vl a :: st) := by
  obtain ⟨p, l, e, R, s, mm, args, below, meth, c, D, B, Q⟩ := E
  obtain ⟨hx, hb, hml, hown, hts, hK, hB, hr, hlk, hR0⟩ := X
  intro H locs ls hR hS hL hn
  refine W.lcmp hx hb hd ?_
  rw [zL_cmp a b ra rb]
  have hc : zcmp a b = 1 ∧ b < a ∨ zcmp a b = 0 ∧ a = b ∨ zcmp a b = -1 ∧ a < b := by unfold zcmp; split <;> (try split) <;> omega
  have X2 : zOK (p, l, e, R, s, mm, args, below, meth, c, D, B, Q) cc own nL ret rm := ⟨hx, hb, hml, hown, hts, hK, hB, hr, hlk, hR0⟩
  exact z_if_eq X2 hd2 tgt ht (by omega) (fun h => k1 (by omega)) (fun h => k2 (by omega)) H locs ls hR hS hL hn

theorem z_icmp_ne {E : zCx} {cc : ByteArray} {own : String} {nL : Nat} {ret : Option FieldType} {rm : Room} {cs : Nat × Nat} {A : zA} {m : zM} {pc : Nat} {lv : zLv} {st : List Value} {a b : Int} {off : Int} (X : zOK E cc own nL ret rm) (hd : decode cc pc = .ok (.if_icmp .ne off, 3)) (tgt : Nat) (ht : (pc : Int) + off = (tgt : Int)) (ra : -2147483648 ≤ a ∧ a < 2147483648 := by omega) (rb : -2147483648 ≤ b ∧ b < 2147483648 := by omega) (k1 : ¬ a = b → zW E cs A m tgt lv (st)) (k2 : ¬ (¬ a = b) → zW E cs A m (pc + 3) lv (st)) : zW E cs A m pc lv (vi b :: vi a :: st) := by
  obtain ⟨p, l, e, R, s, mm, args, below, meth, c, D, B, Q⟩ := E
  obtain ⟨hx, hb, hml, hown, hts, hK, hB, hr, hlk, hR0⟩ := X
  intro H locs ls hR hS hL hn
  exact lv_icmp_ne hx hb hd ht (fun h => k1 (by first | exact (zI_eq (by omega) (by omega)).mp h | exact fun q => h ((zI_eq (by omega) (by omega)).mpr q)) H locs ls hR hS hL hn) (fun h => k2 (by first | exact fun q => h ((zI_eq (by omega) (by omega)).mpr q) | exact fun q => q ((zI_eq (by omega) (by omega)).mp h) | exact fun q => h (fun r => q ((zI_eq (by omega) (by omega)).mp r))) H locs ls hR hS hL hn)
theorem z_if_ne {E : zCx} {cc : ByteArray} {own : String} {nL : Nat} {ret : Option FieldType} {rm : Room} {cs : Nat × Nat} {A : zA} {m : zM} {pc : Nat} {lv : zLv} {st : List Value} {a : Int} {off : Int} (X : zOK E cc own nL ret rm) (hd : decode cc pc = .ok (.ifCond .ne off, 3)) (tgt : Nat) (ht : (pc : Int) + off = (tgt : Int)) (ra : -2147483648 ≤ a ∧ a < 2147483648 := by omega) (k1 : ¬ a = 0 → zW E cs A m tgt lv (st)) (k2 : ¬ (¬ a = 0) → zW E cs A m (pc + 3) lv (st)) : zW E cs A m pc lv (vi a :: st) := by
  obtain ⟨p, l, e, R, s, mm, args, below, meth, c, D, B, Q⟩ := E
  obtain ⟨hx, hb, hml, hown, hts, hK, hB, hr, hlk, hR0⟩ := X
  intro H locs ls hR hS hL hn
  exact lv_if_ne hx hb hd ht (fun h => k1 (by first | exact (zI_eq (by omega) (by omega)).mp h | exact fun q => h ((zI_eq (by omega) (by omega)).mpr q)) H locs ls hR hS hL hn) (fun h => k2 (by first | exact fun q => h ((zI_eq (by omega) (by omega)).mpr q) | exact fun q => q ((zI_eq (by omega) (by omega)).mp h) | exact fun q => h (fun r => q ((zI_eq (by omega) (by omega)).mp r))) H locs ls hR hS hL hn)
theorem z_lcmp_ne {E : zCx} {cc : ByteArray} {own : String} {nL : Nat} {ret : Option FieldType} {rm : Room} {cs : Nat × Nat} {A : zA} {m : zM} {pc : Nat} {lv : zLv} {st : List Value} {a b : Int} {off : Int} (X : zOK E cc own nL ret rm) (hd : decode cc pc = .ok (.lcmp, 1)) (hd2 : decode cc (pc + 1) = .ok (.ifCond .ne off, 3)) (tgt : Nat) (ht : ((pc + 1 : Nat) : Int) + off = (tgt : Int)) (ra : -9223372036854775808 ≤ a ∧ a < 9223372036854775808 := by omega) (rb : -9223372036854775808 ≤ b ∧ b < 9223372036854775808 := by omega) (k1 : ¬ a = b → zW E cs A m tgt lv (st)) (k2 : ¬ (¬ a = b) → zW E cs A m (pc + 1 + 3) lv (st)) : zW E cs A m pc lv (vl b :: vl a :: st) := by
  obtain ⟨p, l, e, R, s, mm, args, below, meth, c, D, B, Q⟩ := E
  obtain ⟨hx, hb, hml, hown, hts, hK, hB, hr, hlk, hR0⟩ := X
  intro H locs ls hR hS hL hn
  refine W.lcmp hx hb hd ?_
  rw [zL_cmp a b ra rb]
  have hc : zcmp a b = 1 ∧ b < a ∨ zcmp a b = 0 ∧ a = b ∨ zcmp a b = -1 ∧ a < b := by unfold zcmp; split <;> (try split) <;> omega
  have X2 : zOK (p, l, e, R, s, mm, args, below, meth, c, D, B, Q) cc own nL ret rm := ⟨hx, hb, hml, hown, hts, hK, hB, hr, hlk, hR0⟩
  exact z_if_ne X2 hd2 tgt ht (by omega) (fun h => k1 (by omega)) (fun h => k2 (by omega)) H locs ls hR hS hL hn

theorem z_icmp_lt {E : zCx} {cc : ByteArray} {own : String} {nL : Nat} {ret : Option FieldType} {rm : Room} {cs : Nat × Nat} {A : zA} {m : zM} {pc : Nat} {lv : zLv} {st : List Value} {a b : Int} {off : Int} (X : zOK E cc own nL ret rm) (hd : decode cc pc = .ok (.if_icmp .lt off, 3)) (tgt : Nat) (ht : (pc : Int) + off = (tgt : Int)) (ra : -2147483648 ≤ a ∧ a < 2147483648 := by omega) (rb : -2147483648 ≤ b ∧ b < 2147483648 := by omega) (k1 : a < b → zW E cs A m tgt lv (st)) (k2 : ¬ (a < b) → zW E cs A m (pc + 3) lv (st)) : zW E cs A m pc lv (vi b :: vi a :: st) := by
  obtain ⟨p, l, e, R, s, mm, args, below, meth, c, D, B, Q⟩ := E
  obtain ⟨hx, hb, hml, hown, hts, hK, hB, hr, hlk, hR0⟩ := X
  intro H locs ls hR hS hL hn
  exact lv_icmp_lt hx hb hd ht (fun h => k1 (by first | exact (zI_lt (by omega) (by omega)).mp h | exact fun q => h ((zI_lt (by omega) (by omega)).mpr q)) H locs ls hR hS hL hn) (fun h => k2 (by first | exact fun q => h ((zI_lt (by omega) (by omega)).mpr q) | exact fun q => q ((zI_lt (by omega) (by omega)).mp h) | exact fun q => h (fun r => q ((zI_lt (by omega) (by omega)).mp r))) H locs ls hR hS hL hn)
theorem z_if_lt {E : zCx} {cc : ByteArray} {own : String} {nL : Nat} {ret : Option FieldType} {rm : Room} {cs : Nat × Nat} {A : zA} {m : zM} {pc : Nat} {lv : zLv} {st : List Value} {a : Int} {off : Int} (X : zOK E cc own nL ret rm) (hd : decode cc pc = .ok (.ifCond .lt off, 3)) (tgt : Nat) (ht : (pc : Int) + off = (tgt : Int)) (ra : -2147483648 ≤ a ∧ a < 2147483648 := by omega) (k1 : a < 0 → zW E cs A m tgt lv (st)) (k2 : ¬ (a < 0) → zW E cs A m (pc + 3) lv (st)) : zW E cs A m pc lv (vi a :: st) := by
  obtain ⟨p, l, e, R, s, mm, args, below, meth, c, D, B, Q⟩ := E
  obtain ⟨hx, hb, hml, hown, hts, hK, hB, hr, hlk, hR0⟩ := X
  intro H locs ls hR hS hL hn
  exact lv_if_lt hx hb hd ht (fun h => k1 (by first | exact (zI_lt (by omega) (by omega)).mp h | exact fun q => h ((zI_lt (by omega) (by omega)).mpr q)) H locs ls hR hS hL hn) (fun h => k2 (by first | exact fun q => h ((zI_lt (by omega) (by omega)).mpr q) | exact fun q => q ((zI_lt (by omega) (by omega)).mp h) | exact fun q => h (fun r => q ((zI_lt (by omega) (by omega)).mp r))) H locs ls hR hS hL hn)
theorem z_lcmp_lt {E : zCx} {cc : ByteArray} {own : String} {nL : Nat} {ret : Option FieldType} {rm : Room} {cs : Nat × Nat} {A : zA} {m : zM} {pc : Nat} {lv : zLv} {st : List Value} {a b : Int} {off : Int} (X : zOK E cc own nL ret rm) (hd : decode cc pc = .ok (.lcmp, 1)) (hd2 : decode cc (pc + 1) = .ok (.ifCond .lt off, 3)) (tgt : Nat) (ht : ((pc + 1 : Nat) : Int) + off = (tgt : Int)) (ra : -9223372036854775808 ≤ a ∧ a < 9223372036854775808 := by omega) (rb : -9223372036854775808 ≤ b ∧ b < 9223372036854775808 := by omega) (k1 : a < b → zW E cs A m tgt lv (st)) (k2 : ¬ (a < b) → zW E cs A m (pc + 1 + 3) lv (st)) : zW E cs A m pc lv (vl b :: vl a :: st) := by
  obtain ⟨p, l, e, R, s, mm, args, below, meth, c, D, B, Q⟩ := E
  obtain ⟨hx, hb, hml, hown, hts, hK, hB, hr, hlk, hR0⟩ := X
  intro H locs ls hR hS hL hn
  refine W.lcmp hx hb hd ?_
  rw [zL_cmp a b ra rb]
  have hc : zcmp a b = 1 ∧ b < a ∨ zcmp a b = 0 ∧ a = b ∨ zcmp a b = -1 ∧ a < b := by unfold zcmp; split <;> (try split) <;> omega
  have X2 : zOK (p, l, e, R, s, mm, args, below, meth, c, D, B, Q) cc own nL ret rm := ⟨hx, hb, hml, hown, hts, hK, hB, hr, hlk, hR0⟩
  exact z_if_lt X2 hd2 tgt ht (by omega) (fun h => k1 (by omega)) (fun h => k2 (by omega)) H locs ls hR hS hL hn

theorem z_icmp_ge {E : zCx} {cc : ByteArray} {own : String} {nL : Nat} {ret : Option FieldType} {rm : Room} {cs : Nat × Nat} {A : zA} {m : zM} {pc : Nat} {lv : zLv} {st : List Value} {a b : Int} {off : Int} (X : zOK E cc own nL ret rm) (hd : decode cc pc = .ok (.if_icmp .ge off, 3)) (tgt : Nat) (ht : (pc : Int) + off = (tgt : Int)) (ra : -2147483648 ≤ a ∧ a < 2147483648 := by omega) (rb : -2147483648 ≤ b ∧ b < 2147483648 := by omega) (k1 : b ≤ a → zW E cs A m tgt lv (st)) (k2 : ¬ (b ≤ a) → zW E cs A m (pc + 3) lv (st)) : zW E cs A m pc lv (vi b :: vi a :: st) := by
  obtain ⟨p, l, e, R, s, mm, args, below, meth, c, D, B, Q⟩ := E
  obtain ⟨hx, hb, hml, hown, hts, hK, hB, hr, hlk, hR0⟩ := X
  intro H locs ls hR hS hL hn
  exact lv_icmp_ge hx hb hd ht (fun h => k1 (by first | exact (zI_le (by omega) (by omega)).mp h | exact fun q => h ((zI_le (by omega) (by omega)).mpr q)) H locs ls hR hS hL hn) (fun h => k2 (by first | exact fun q => h ((zI_le (by omega) (by omega)).mpr q) | exact fun q => q ((zI_le (by omega) (by omega)).mp h) | exact fun q => h (fun r => q ((zI_le (by omega) (by omega)).mp r))) H locs ls hR hS hL hn)
theorem z_if_ge {E : zCx} {cc : ByteArray} {own : String} {nL : Nat} {ret : Option FieldType} {rm : Room} {cs : Nat × Nat} {A : zA} {m : zM} {pc : Nat} {lv : zLv} {st : List Value} {a : Int} {off : Int} (X : zOK E cc own nL ret rm) (hd : decode cc pc = .ok (.ifCond .ge off, 3)) (tgt : Nat) (ht : (pc : Int) + off = (tgt : Int)) (ra : -2147483648 ≤ a ∧ a < 2147483648 := by omega) (k1 : 0 ≤ a → zW E cs A m tgt lv (st)) (k2 : ¬ (0 ≤ a) → zW E cs A m (pc + 3) lv (st)) : zW E cs A m pc lv (vi a :: st) := by
  obtain ⟨p, l, e, R, s, mm, args, below, meth, c, D, B, Q⟩ := E
  obtain ⟨hx, hb, hml, hown, hts, hK, hB, hr, hlk, hR0⟩ := X
  intro H locs ls hR hS hL hn
  exact lv_if_ge hx hb hd ht (fun h => k1 (by first | exact (zI_le (by omega) (by omega)).mp h | exact fun q => h ((zI_le (by omega) (by omega)).mpr q)) H locs ls hR hS hL hn) (fun h => k2 (by first | exact fun q => h ((zI_le (by omega) (by omega)).mpr q) | exact fun q => q ((zI_le (by omega) (by omega)).mp h) | exact fun q => h (fun r => q ((zI_le (by omega) (by omega)).mp r))) H locs ls hR hS hL hn)
theorem z_lcmp_ge {E : zCx} {cc : ByteArray} {own : String} {nL : Nat} {ret : Option FieldType} {rm : Room} {cs : Nat × Nat} {A : zA} {m : zM} {pc : Nat} {lv : zLv} {st : List Value} {a b : Int} {off : Int} (X : zOK E cc own nL ret rm) (hd : decode cc pc = .ok (.lcmp, 1)) (hd2 : decode cc (pc + 1) = .ok (.ifCond .ge off, 3)) (tgt : Nat) (ht : ((pc + 1 : Nat) : Int) + off = (tgt : Int)) (ra : -9223372036854775808 ≤ a ∧ a < 9223372036854775808 := by omega) (rb : -9223372036854775808 ≤ b ∧ b < 9223372036854775808 := by omega) (k1 : b ≤ a → zW E cs A m tgt lv (st)) (k2 : ¬ (b ≤ a) → zW E cs A m (pc + 1 + 3) lv (st)) : zW E cs A m pc lv (vl b :: vl a :: st) := by
  obtain ⟨p, l, e, R, s, mm, args, below, meth, c, D, B, Q⟩ := E
  obtain ⟨hx, hb, hml, hown, hts, hK, hB, hr, hlk, hR0⟩ := X
  intro H locs ls hR hS hL hn
  refine W.lcmp hx hb hd ?_
  rw [zL_cmp a b ra rb]
  have hc : zcmp a b = 1 ∧ b < a ∨ zcmp a b = 0 ∧ a = b ∨ zcmp a b = -1 ∧ a < b := by unfold zcmp; split <;> (try split) <;> omega
  have X2 : zOK (p, l, e, R, s, mm, args, below, meth, c, D, B, Q) cc own nL ret rm := ⟨hx, hb, hml, hown, hts, hK, hB, hr, hlk, hR0⟩
  exact z_if_ge X2 hd2 tgt ht (by omega) (fun h => k1 (by omega)) (fun h => k2 (by omega)) H locs ls hR hS hL hn

theorem z_icmp_gt {E : zCx} {cc : ByteArray} {own : String} {nL : Nat} {ret : Option FieldType} {rm : Room} {cs : Nat × Nat} {A : zA} {m : zM} {pc : Nat} {lv : zLv} {st : List Value} {a b : Int} {off : Int} (X : zOK E cc own nL ret rm) (hd : decode cc pc = .ok (.if_icmp .gt off, 3)) (tgt : Nat) (ht : (pc : Int) + off = (tgt : Int)) (ra : -2147483648 ≤ a ∧ a < 2147483648 := by omega) (rb : -2147483648 ≤ b ∧ b < 2147483648 := by omega) (k1 : b < a → zW E cs A m tgt lv (st)) (k2 : ¬ (b < a) → zW E cs A m (pc + 3) lv (st)) : zW E cs A m pc lv (vi b :: vi a :: st) := by
  obtain ⟨p, l, e, R, s, mm, args, below, meth, c, D, B, Q⟩ := E
  obtain ⟨hx, hb, hml, hown, hts, hK, hB, hr, hlk, hR0⟩ := X
  intro H locs ls hR hS hL hn
  exact lv_icmp_gt hx hb hd ht (fun h => k1 (by first | exact (zI_lt (by omega) (by omega)).mp h | exact fun q => h ((zI_lt (by omega) (by omega)).mpr q)) H locs ls hR hS hL hn) (fun h => k2 (by first | exact fun q => h ((zI_lt (by omega) (by omega)).mpr q) | exact fun q => q ((zI_lt (by omega) (by omega)).mp h) | exact fun q => h (fun r => q ((zI_lt (by omega) (by omega)).mp r))) H locs ls hR hS hL hn)
theorem z_if_gt {E : zCx} {cc : ByteArray} {own : String} {nL : Nat} {ret : Option FieldType} {rm : Room} {cs : Nat × Nat} {A : zA} {m : zM} {pc : Nat} {lv : zLv} {st : List Value} {a : Int} {off : Int} (X : zOK E cc own nL ret rm) (hd : decode cc pc = .ok (.ifCond .gt off, 3)) (tgt : Nat) (ht : (pc : Int) + off = (tgt : Int)) (ra : -2147483648 ≤ a ∧ a < 2147483648 := by omega) (k1 : 0 < a → zW E cs A m tgt lv (st)) (k2 : ¬ (0 < a) → zW E cs A m (pc + 3) lv (st)) : zW E cs A m pc lv (vi a :: st) := by
  obtain ⟨p, l, e, R, s, mm, args, below, meth, c, D, B, Q⟩ := E
  obtain ⟨hx, hb, hml, hown, hts, hK, hB, hr, hlk, hR0⟩ := X
  intro H locs ls hR hS hL hn
  exact lv_if_gt hx hb hd ht (fun h => k1 (by first | exact (zI_lt (by omega) (by omega)).mp h | exact fun q => h ((zI_lt (by omega) (by omega)).mpr q)) H locs ls hR hS hL hn) (fun h => k2 (by first | exact fun q => h ((zI_lt (by omega) (by omega)).mpr q) | exact fun q => q ((zI_lt (by omega) (by omega)).mp h) | exact fun q => h (fun r => q ((zI_lt (by omega) (by omega)).mp r))) H locs ls hR hS hL hn)
theorem z_lcmp_gt {E : zCx} {cc : ByteArray} {own : String} {nL : Nat} {ret : Option FieldType} {rm : Room} {cs : Nat × Nat} {A : zA} {m : zM} {pc : Nat} {lv : zLv} {st : List Value} {a b : Int} {off : Int} (X : zOK E cc own nL ret rm) (hd : decode cc pc = .ok (.lcmp, 1)) (hd2 : decode cc (pc + 1) = .ok (.ifCond .gt off, 3)) (tgt : Nat) (ht : ((pc + 1 : Nat) : Int) + off = (tgt : Int)) (ra : -9223372036854775808 ≤ a ∧ a < 9223372036854775808 := by omega) (rb : -9223372036854775808 ≤ b ∧ b < 9223372036854775808 := by omega) (k1 : b < a → zW E cs A m tgt lv (st)) (k2 : ¬ (b < a) → zW E cs A m (pc + 1 + 3) lv (st)) : zW E cs A m pc lv (vl b :: vl a :: st) := by
  obtain ⟨p, l, e, R, s, mm, args, below, meth, c, D, B, Q⟩ := E
  obtain ⟨hx, hb, hml, hown, hts, hK, hB, hr, hlk, hR0⟩ := X
  intro H locs ls hR hS hL hn
  refine W.lcmp hx hb hd ?_
  rw [zL_cmp a b ra rb]
  have hc : zcmp a b = 1 ∧ b < a ∨ zcmp a b = 0 ∧ a = b ∨ zcmp a b = -1 ∧ a < b := by unfold zcmp; split <;> (try split) <;> omega
  have X2 : zOK (p, l, e, R, s, mm, args, below, meth, c, D, B, Q) cc own nL ret rm := ⟨hx, hb, hml, hown, hts, hK, hB, hr, hlk, hR0⟩
  exact z_if_gt X2 hd2 tgt ht (by omega) (fun h => k1 (by omega)) (fun h => k2 (by omega)) H locs ls hR hS hL hn

theorem z_icmp_le {E : zCx} {cc : ByteArray} {own : String} {nL : Nat} {ret : Option FieldType} {rm : Room} {cs : Nat × Nat} {A : zA} {m : zM} {pc : Nat} {lv : zLv} {st : List Value} {a b : Int} {off : Int} (X : zOK E cc own nL ret rm) (hd : decode cc pc = .ok (.if_icmp .le off, 3)) (tgt : Nat) (ht : (pc : Int) + off = (tgt : Int)) (ra : -2147483648 ≤ a ∧ a < 2147483648 := by omega) (rb : -2147483648 ≤ b ∧ b < 2147483648 := by omega) (k1 : a ≤ b → zW E cs A m tgt lv (st)) (k2 : ¬ (a ≤ b) → zW E cs A m (pc + 3) lv (st)) : zW E cs A m pc lv (vi b :: vi a :: st) := by
  obtain ⟨p, l, e, R, s, mm, args, below, meth, c, D, B, Q⟩ := E
  obtain ⟨hx, hb, hml, hown, hts, hK, hB, hr, hlk, hR0⟩ := X
  intro H locs ls hR hS hL hn
  exact lv_icmp_le hx hb hd ht (fun h => k1 (by first | exact (zI_le (by omega) (by omega)).mp h | exact fun q => h ((zI_le (by omega) (by omega)).mpr q)) H locs ls hR hS hL hn) (fun h => k2 (by first | exact fun q => h ((zI_le (by omega) (by omega)).mpr q) | exact fun q => q ((zI_le (by omega) (by omega)).mp h) | exact fun q => h (fun r => q ((zI_le (by omega) (by omega)).mp r))) H locs ls hR hS hL hn)
theorem z_if_le {E : zCx} {cc : ByteArray} {own : String} {nL : Nat} {ret : Option FieldType} {rm : Room} {cs : Nat × Nat} {A : zA} {m : zM} {pc : Nat} {lv : zLv} {st : List Value} {a : Int} {off : Int} (X : zOK E cc own nL ret rm) (hd : decode cc pc = .ok (.ifCond .le off, 3)) (tgt : Nat) (ht : (pc : Int) + off = (tgt : Int)) (ra : -2147483648 ≤ a ∧ a < 2147483648 := by omega) (k1 : a ≤ 0 → zW E cs A m tgt lv (st)) (k2 : ¬ (a ≤ 0) → zW E cs A m (pc + 3) lv (st)) : zW E cs A m pc lv (vi a :: st) := by
  obtain ⟨p, l, e, R, s, mm, args, below, meth, c, D, B, Q⟩ := E
  obtain ⟨hx, hb, hml, hown, hts, hK, hB, hr, hlk, hR0⟩ := X
  intro H locs ls hR hS hL hn
  exact lv_if_le hx hb hd ht (fun h => k1 (by first | exact (zI_le (by omega) (by omega)).mp h | exact fun q => h ((zI_le (by omega) (by omega)).mpr q)) H locs ls hR hS hL hn) (fun h => k2 (by first | exact fun q => h ((zI_le (by omega) (by omega)).mpr q) | exact fun q => q ((zI_le (by omega) (by omega)).mp h) | exact fun q => h (fun r => q ((zI_le (by omega) (by omega)).mp r))) H locs ls hR hS hL hn)
theorem z_lcmp_le {E : zCx} {cc : ByteArray} {own : String} {nL : Nat} {ret : Option FieldType} {rm : Room} {cs : Nat × Nat} {A : zA} {m : zM} {pc : Nat} {lv : zLv} {st : List Value} {a b : Int} {off : Int} (X : zOK E cc own nL ret rm) (hd : decode cc pc = .ok (.lcmp, 1)) (hd2 : decode cc (pc + 1) = .ok (.ifCond .le off, 3)) (tgt : Nat) (ht : ((pc + 1 : Nat) : Int) + off = (tgt : Int)) (ra : -9223372036854775808 ≤ a ∧ a < 9223372036854775808 := by omega) (rb : -9223372036854775808 ≤ b ∧ b < 9223372036854775808 := by omega) (k1 : a ≤ b → zW E cs A m tgt lv (st)) (k2 : ¬ (a ≤ b) → zW E cs A m (pc + 1 + 3) lv (st)) : zW E cs A m pc lv (vl b :: vl a :: st) := by
  obtain ⟨p, l, e, R, s, mm, args, below, meth, c, D, B, Q⟩ := E
  obtain ⟨hx, hb, hml, hown, hts, hK, hB, hr, hlk, hR0⟩ := X
  intro H locs ls hR hS hL hn
  refine W.lcmp hx hb hd ?_
  rw [zL_cmp a b ra rb]
  have hc : zcmp a b = 1 ∧ b < a ∨ zcmp a b = 0 ∧ a = b ∨ zcmp a b = -1 ∧ a < b := by unfold zcmp; split <;> (try split) <;> omega
  have X2 : zOK (p, l, e, R, s, mm, args, below, meth, c, D, B, Q) cc own nL ret rm := ⟨hx, hb, hml, hown, hts, hK, hB, hr, hlk, hR0⟩
  exact z_if_le X2 hd2 tgt ht (by omega) (fun h => k1 (by omega)) (fun h => k2 (by omega)) H locs ls hR hS hL hn

theorem z_goto {E : zCx} {cc : ByteArray} {own : String} {nL : Nat} {ret : Option FieldType} {rm : Room} {cs : Nat × Nat} {A : zA} {m : zM} {pc : Nat} {lv : zLv} {st : List Value} {off : Int} (X : zOK E cc own nL ret rm) (hd : decode cc pc = .ok (.goto off, 3)) (tgt : Nat) (ht : (pc : Int) + off = (tgt : Int)) (kk : zW E cs A m tgt lv (st)) : zW E cs A m pc lv (st) := by
  obtain ⟨p, l, e, R, s, mm, args, below, meth, c, D, B, Q⟩ := E
  obtain ⟨hx, hb, hml, hown, hts, hK, hB, hr, hlk, hR0⟩ := X
  intro H locs ls hR hS hL hn
  exact lv_goto hx hb hd ht (kk H locs ls hR hS hL hn)
theorem z_ifnonnull {E : zCx} {cc : ByteArray} {own : String} {nL : Nat} {ret : Option FieldType} {rm : Room} {cs : Nat × Nat} {A : zA} {m : zM} {pc : Nat} {lv : zLv} {st : List Value} {a : Nat} {off : Int} (X : zOK E cc own nL ret rm) (hd : decode cc pc = .ok (.ifnonnull off, 3)) (tgt : Nat) (ht : (pc : Int) + off = (tgt : Int)) (kk : zW E cs A m tgt lv (st)) : zW E cs A m pc lv (vr a :: st) := by
  obtain ⟨p, l, e, R, s, mm, args, below, meth, c, D, B, Q⟩ := E
  obtain ⟨hx, hb, hml, hown, hts, hK, hB, hr, hlk, hR0⟩ := X
  intro H locs ls hR hS hL hn
  exact lv_ifnonnull hx hb hd ht (kk H locs ls hR hS hL hn)
theorem z_ifnonnullN {E : zCx} {cc : ByteArray} {own : String} {nL : Nat} {ret : Option FieldType} {rm : Room} {cs : Nat × Nat} {A : zA} {m : zM} {pc : Nat} {lv : zLv} {st : List Value} {off : Int} (X : zOK E cc own nL ret rm) (hd : decode cc pc = .ok (.ifnonnull off, 3)) (kk : zW E cs A m (pc + 3) lv (st)) : zW E cs A m pc lv (.null :: st) := by
  obtain ⟨p, l, e, R, s, mm, args, below, meth, c, D, B, Q⟩ := E
  obtain ⟨hx, hb, hml, hown, hts, hK, hB, hr, hlk, hR0⟩ := X
  intro H locs ls hR hS hL hn
  exact lv_ifnonnullN hx hb hd (kk H locs ls hR hS hL hn)
theorem z_ifnull {E : zCx} {cc : ByteArray} {own : String} {nL : Nat} {ret : Option FieldType} {rm : Room} {cs : Nat × Nat} {A : zA} {m : zM} {pc : Nat} {lv : zLv} {st : List Value} {a : Nat} {off : Int} (X : zOK E cc own nL ret rm) (hd : decode cc pc = .ok (.ifnull off, 3)) (kk : zW E cs A m (pc + 3) lv (st)) : zW E cs A m pc lv (vr a :: st) := by
  obtain ⟨p, l, e, R, s, mm, args, below, meth, c, D, B, Q⟩ := E
  obtain ⟨hx, hb, hml, hown, hts, hK, hB, hr, hlk, hR0⟩ := X
  intro H locs ls hR hS hL hn
  exact lv_ifnull hx hb hd (kk H locs ls hR hS hL hn)
theorem z_ifnullN {E : zCx} {cc : ByteArray} {own : String} {nL : Nat} {ret : Option FieldType} {rm : Room} {cs : Nat × Nat} {A : zA} {m : zM} {pc : Nat} {lv : zLv} {st : List Value} {off : Int} (X : zOK E cc own nL ret rm) (hd : decode cc pc = .ok (.ifnull off, 3)) (tgt : Nat) (ht : (pc : Int) + off = (tgt : Int)) (kk : zW E cs A m tgt lv (st)) : zW E cs A m pc lv (.null :: st) := by
  obtain ⟨p, l, e, R, s, mm, args, below, meth, c, D, B, Q⟩ := E
  obtain ⟨hx, hb, hml, hown, hts, hK, hB, hr, hlk, hR0⟩ := X
  intro H locs ls hR hS hL hn
  exact lv_ifnullN hx hb hd ht (kk H locs ls hR hS hL hn)
theorem z_tableOut {E : zCx} {cc : ByteArray} {own : String} {nL : Nat} {ret : Option FieldType} {rm : Room} {cs : Nat × Nat} {A : zA} {m : zM} {pc : Nat} {lv : zLv} {st : List Value} {dflt lo hi : Int} {offs : Array Int} {len : Nat} {a : Int} (X : zOK E cc own nL ret rm) (hd : decode cc pc = .ok (.tableswitch dflt lo hi offs, len)) (tgt : Nat) (ra : -2147483648 ≤ a ∧ a < 2147483648 := by omega) (h : a < lo ∨ hi < a) (ht : (pc : Int) + dflt = (tgt : Int)) (kk : zW E cs A m tgt lv (st)) : zW E cs A m pc lv (vi a :: st) := by
  obtain ⟨p, l, e, R, s, mm, args, below, meth, c, D, B, Q⟩ := E
  obtain ⟨hx, hb, hml, hown, hts, hK, hB, hr, hlk, hR0⟩ := X
  intro H locs ls hR hS hL hn
  have e1 : (Int32.ofInt a).toInt = a := Int32.toInt_ofInt_of_le (by omega) (by omega)
  exact lv_tableOut hx hb hd (by rw [e1]; exact h) ht (kk H locs ls hR hS hL hn)

theorem z_tableIn {E : zCx} {cc : ByteArray} {own : String} {nL : Nat} {ret : Option FieldType} {rm : Room} {cs : Nat × Nat} {A : zA} {m : zM} {pc : Nat} {lv : zLv} {st : List Value} {dflt lo hi : Int} {offs : Array Int} {len : Nat} {a off : Int} (X : zOK E cc own nL ret rm) (hd : decode cc pc = .ok (.tableswitch dflt lo hi offs, len)) (tgt : Nat) (ra : -2147483648 ≤ a ∧ a < 2147483648 := by omega) (h1 : ¬ a < lo) (h2 : ¬ hi < a) (ho : offs[(a - lo).toNat]? = some off) (ht : (pc : Int) + off = (tgt : Int)) (kk : zW E cs A m tgt lv (st)) : zW E cs A m pc lv (vi a :: st) := by
  obtain ⟨p, l, e, R, s, mm, args, below, meth, c, D, B, Q⟩ := E
  obtain ⟨hx, hb, hml, hown, hts, hK, hB, hr, hlk, hR0⟩ := X
  intro H locs ls hR hS hL hn
  have e1 : (Int32.ofInt a).toInt = a := Int32.toInt_ofInt_of_le (by omega) (by omega)
  exact lv_tableIn hx hb hd (by rw [e1]; exact h1) (by rw [e1]; exact h2) (by rw [e1]; exact ho) ht (kk H locs ls hR hS hL hn)

theorem z_ireturn {E : zCx} {cc : ByteArray} {own : String} {nL : Nat} {ret : Option FieldType} {rm : Room} {cs : Nat × Nat} {A : zA} {m : zM} {pc : Nat} {lv : zLv} {st : List Value} {x : Int} {post : Option Value → zA → zM → Prop} (X : zOK E cc own nL ret rm) (hret : ret = some .int) (hQ : zRet E post cs.1 cs.2) (hd : decode cc pc = .ok (.ireturn, 1)) (h : post (some (vi x)) A m) : zW E cs A m pc lv ([vi x]) := by
  obtain ⟨p, l, e, R, s, mm, args, below, meth, c, D, B, Q⟩ := E
  obtain ⟨hx, hb, hml, hown, hts, hK, hB, hr, hlk, hR0⟩ := X
  intro H locs ls hR hS hL hn
  have hQ : Q = _ := hQ
  subst hQ
  exact W.iret hx hb (hr.trans hret) (fun t ht hW => ⟨some (vi x), A, m, rfl, h, by rw [ht]; exact hR, hS.F ht⟩) hS.2.2 hd

theorem z_zreturn {E : zCx} {cc : ByteArray} {own : String} {nL : Nat} {ret : Option FieldType} {rm : Room} {cs : Nat × Nat} {A : zA} {m : zM} {pc : Nat} {lv : zLv} {st : List Value} {x : Int} {post : Option Value → zA → zM → Prop} (X : zOK E cc own nL ret rm) (hret : ret = some .boolean) (hQ : zRet E post cs.1 cs.2) (hd : decode cc pc = .ok (.ireturn, 1)) (h01 : x = 0 ∨ x = 1) (h : post (some (vi x)) A m) : zW E cs A m pc lv ([vi x]) := by
  obtain ⟨p, l, e, R, s, mm, args, below, meth, c, D, B, Q⟩ := E
  obtain ⟨hx, hb, hml, hown, hts, hK, hB, hr, hlk, hR0⟩ := X
  intro H locs ls hR hS hL hn
  have hQ : Q = _ := hQ
  subst hQ
  exact W.zret hx hb (hr.trans hret) (by rcases h01 with rfl | rfl <;> rfl) (fun t ht hW => ⟨some (vi x), A, m, rfl, h, by rw [ht]; exact hR, hS.F ht⟩) hS.2.2 hd

theorem z_lreturn {E : zCx} {cc : ByteArray} {own : String} {nL : Nat} {ret : Option FieldType} {rm : Room} {cs : Nat × Nat} {A : zA} {m : zM} {pc : Nat} {lv : zLv} {st : List Value} {x : Int} {post : Option Value → zA → zM → Prop} (X : zOK E cc own nL ret rm) (hret : ret = some .long) (hQ : zRet E post cs.1 cs.2) (hd : decode cc pc = .ok (.lreturn, 1)) (h : post (some (vl x)) A m) : zW E cs A m pc lv ([vl x]) := by
  obtain ⟨p, l, e, R, s, mm, args, below, meth, c, D, B, Q⟩ := E
  obtain ⟨hx, hb, hml, hown, hts, hK, hB, hr, hlk, hR0⟩ := X
  intro H locs ls hR hS hL hn
  have hQ : Q = _ := hQ
  subst hQ
  exact W.lret hx hb (hr.trans hret) (fun t ht hW => ⟨some (vl x), A, m, rfl, h, by rw [ht]; exact hR, hS.F ht⟩) hS.2.2 hd

theorem z_return {E : zCx} {cc : ByteArray} {own : String} {nL : Nat} {ret : Option FieldType} {rm : Room} {cs : Nat × Nat} {A : zA} {m : zM} {pc : Nat} {lv : zLv} {st : List Value} {post : Option Value → zA → zM → Prop} (X : zOK E cc own nL ret rm) (hret : ret = none) (hQ : zRet E post cs.1 cs.2) (hd : decode cc pc = .ok (.return_, 1)) (h : post none A m) : zW E cs A m pc lv ([]) := by
  obtain ⟨p, l, e, R, s, mm, args, below, meth, c, D, B, Q⟩ := E
  obtain ⟨hx, hb, hml, hown, hts, hK, hB, hr, hlk, hR0⟩ := X
  intro H locs ls hR hS hL hn
  have hQ : Q = _ := hQ
  subst hQ
  exact W.vret hx hb (hr.trans hret) (fun t ht hW => ⟨none, A, m, rfl, h, by rw [ht]; exact hR, hS.F ht⟩) hS.2.2 hd

theorem z_areturn {E : zCx} {cc : ByteArray} {own : String} {nL : Nat} {ret : Option FieldType} {rm : Room} {cs : Nat × Nat} {A : zA} {m : zM} {pc : Nat} {lv : zLv} {st : List Value} {v : Value} {n : String} {post : Option Value → zA → zM → Prop} (X : zOK E cc own nL ret rm) (hret : ret = some (.object n)) (hQ : zRet E post cs.1 cs.2) (hd : decode cc pc = .ok (.areturn, 1)) (hv : v = .null ∨ ∃ a, v = vr a) (h : post (some v) A m) : zW E cs A m pc lv ([v]) := by
  obtain ⟨p, l, e, R, s, mm, args, below, meth, c, D, B, Q⟩ := E
  obtain ⟨hx, hb, hml, hown, hts, hK, hB, hr, hlk, hR0⟩ := X
  intro H locs ls hR hS hL hn
  have hQ : Q = _ := hQ
  subst hQ
  exact W.aret hx hb (hr.trans hret) (Or.inl ⟨n, rfl⟩) hv (fun t ht hW => ⟨some v, A, m, rfl, h, by rw [ht]; exact hR, hS.F ht⟩) hS.2.2 hd
end
section
theorem zGB_of {w : Cond} (h : w ∈ lw_tbl ∧ goodWord w = true) : w ∈ zGB := List.mem_filter.mpr h
theorem zCw0 : ∀ w ∈ u_ws RX0 TX0 3, w ∈ lw_tbl ∧ goodWord w = true := by decide +kernel
theorem zCw1 : ∀ w ∈ u_ws RX1 TX1 4, w ∈ lw_tbl ∧ goodWord w = true := by decide +kernel
theorem zCw2 : ∀ w ∈ u_ws RX2 TX2 4, w ∈ lw_tbl ∧ goodWord w = true := by decide +kernel
theorem zCw3 : ∀ w ∈ u_ws RX3 TX3 8, w ∈ lw_tbl ∧ goodWord w = true := by decide +kernel
theorem zCw4 : ∀ w ∈ u_ws RX4 TX4 4, w ∈ lw_tbl ∧ goodWord w = true := by decide +kernel
theorem zCw5 : ∀ w ∈ u_ws RX5 TX5 8, w ∈ lw_tbl ∧ goodWord w = true := by decide +kernel
theorem zCw6 : ∀ w ∈ u_ws RX6 TX6 5, w ∈ lw_tbl ∧ goodWord w = true := by decide +kernel
theorem zCw7 : ∀ w ∈ u_ws RX7 TX7 10, w ∈ lw_tbl ∧ goodWord w = true := by decide +kernel
theorem zCw8 : ∀ w ∈ u_ws RX8 TX8 26, w ∈ lw_tbl ∧ goodWord w = true := by decide +kernel
theorem zCw {ci : Nat} (h : ci < 9) : ∀ w ∈ u_ws (zC ci) (zT ci) (zN ci), w ∈ zGB := by
  match ci, h with
  | 0, _ => exact fun w hw => zGB_of (zCw0 w hw)
  | 1, _ => exact fun w hw => zGB_of (zCw1 w hw)
  | 2, _ => exact fun w hw => zGB_of (zCw2 w hw)
  | 3, _ => exact fun w hw => zGB_of (zCw3 w hw)
  | 4, _ => exact fun w hw => zGB_of (zCw4 w hw)
  | 5, _ => exact fun w hw => zGB_of (zCw5 w hw)
  | 6, _ => exact fun w hw => zGB_of (zCw6 w hw)
  | 7, _ => exact fun w hw => zGB_of (zCw7 w hw)
  | 8, _ => exact fun w hw => zGB_of (zCw8 w hw)
  | n + 9, h => exact absurd h (by omega)
theorem zCn {ci : Nat} (h : ci < 9) : ∀ a, a < zN ci → ∀ b, b < zN ci → a ≠ b → (zT ci a).2.1 ≠ (zT ci b).2.1 := by
  match ci, h with
  | 0, _ => exact nmX0
  | 1, _ => exact nmX1
  | 2, _ => exact nmX2
  | 3, _ => exact nmX3
  | 4, _ => exact nmX4
  | 5, _ => exact nmX5
  | 6, _ => exact nmX6
  | 7, _ => exact nmX7
  | 8, _ => exact nmX8
  | n + 9, h => exact absurd h (by omega)
theorem zCt {ci : Nat} (h : ci < 9) : ∀ k, k < zN ci → parseFieldDescriptor (zT ci k).2.2.1 = some (zty ci k) := by
  match ci, h with
  | 0, _ => exact tyX0_ok
  | 1, _ => exact tyX1_ok
  | 2, _ => exact tyX2_ok
  | 3, _ => exact tyX3_ok
  | 4, _ => exact tyX4_ok
  | 5, _ => exact tyX5_ok
  | 6, _ => exact tyX6_ok
  | 7, _ => exact tyX7_ok
  | 8, _ => exact tyX8_ok
  | n + 9, h => exact absurd h (by omega)
def zFl (own : String) (idx ci k : Nat) : Prop := ci < 9 ∧ k < zN ci ∧ (Cond.fieldLink own idx (zT ci k).1 (zT ci k).2.1 (zT ci k).2.2.1 ∈ zGB ∨ ∃ host, Cond.fieldLinkNest own idx (zT ci k).1 (zT ci k).2.1 (zT ci k).2.2.1 host ∈ zNB)
theorem zat.kept {D : zD} {A : zA} {m : zM} {H H1 : Heap} {q : Nat} {e : zE} (h : zat D A m H q e) (hq : H1[q]? = H[q]?) : zat D A m H1 q e := by
  cases e with
  | inl ci => exact ⟨h.1, h.2.kept hq⟩
  | inr x => exact ⟨h.1, hq.trans h.2⟩
theorem zat.m {D : zD} {A A' : zA} {m m' : zM} {H : Heap} {q : Nat} {e : zE} (h : zat D A m H q e) (hm : ∀ j, m' q j = m q j) (hr : ∀ j, A'.2.1 q j = A.2.1 q j) : zat D A' m' H q e := by
  cases e with
  | inl ci =>
    refine ⟨h.1, h.2.to (fun k _ => ?_)⟩
    unfold zov
    rw [hm, hr]
  | inr x =>
    refine ⟨h.1, h.2.trans ?_⟩
    have : zav x.1 q m A.2.1 = zav x.1 q m' A'.2.1 := by
      funext j
      unfold zav
      rw [hm, hr]
    rw [this]
theorem zap {D : zD} {s : State} {args : Array Value} (hts : ∀ w ∈ zGB, w.before args s = true) (hK : zK D s) {ci : Nat} (hc : ci < 9) : ∀ x y, x < zN ci → y < zN ci → x ≠ y → (D.2.1 ci) x ≠ (D.2.1 ci) y := by
  intro x y hx hy hne
  obtain ⟨hS, -⟩ := hK.1 ci hc
  obtain ⟨_, _, _, fa, hia, ea⟩ := hS x hx
  obtain ⟨_, _, _, fb, hib, eb⟩ := hS y hy
  rw [← ea, ← eb]
  refine u_apart (u_lays hts (zCw hc) hx) (u_lays hts (zCw hc) hy) hia hib ?_
  rw [(State.fieldFound?_type hia (zCt hc x hx)).1, (State.fieldFound?_type hib (zCt hc y hy)).1]
  exact zCn hc x hx y hy hne
section
variable {E : zCx} {cc : ByteArray} {own : String} {nL : Nat} {ret : Option FieldType} {rm : Room} {cs : Nat × Nat} {A : zA} {m : zM} {pc : Nat} {lv : zLv} {st : List Value}
theorem z_get (X : zOK E cc own nL ret rm) {idx ci k q : Nat} (hd : decode cc pc = .ok (.getfield idx, 3)) (hf : zFl own idx ci k) (hs : A.1 q = some (.inl ci)) (kk : zW E cs A m (pc + 3) lv (zov ci q m A.2.1 k :: st)) : zW E cs A m pc lv (vr q :: st) := by
  obtain ⟨p, l, e, R, s, mm, args, below, meth, c, D, B, Q⟩ := E
  obtain ⟨hx, hb, hml, hown, hts, hK, hB, hr, hlk, hR0⟩ := X
  intro H locs ls hR hS hL hn
  obtain ⟨hc, hk, hlink⟩ := hf
  obtain ⟨-, -, -, hob⟩ := hR.2.2 q _ hs
  obtain ⟨cell, q1, q2, q3, q4⟩ := hob
  obtain ⟨hSl, hfc, kC, hkC, hkind⟩ := hK.1 ci hc
  obtain ⟨cf, kf, fi, f, hi, hsl⟩ := hSl k hk
  have hst := (u_facts hfc hkC (u_lays hts (zCw hc) hk) hi).1
  rcases hlink with hlink | ⟨host, hlink⟩
  · refine W.getf hx hb hown (hts _ hlink) hi hst q1 (by rw [q3]; exact fun h => by cases h) (v := zov ci q m A.2.1 k) ?_ rfl rfl hd (kk H locs ls hR hS hL hn)
    rw [hsl, q4 k hk]
  · refine va_Wgetf hx hb hown (va_Nw.use rfl (hK.2.2 _ hlink)) hi hst q1 (by rw [q3]; exact fun h => by cases h) (v := zov ci q m A.2.1 k) ?_ rfl rfl hd (kk H locs ls hR hS hL hn)
    rw [hsl, q4 k hk]
theorem z_getI (X : zOK E cc own nL ret rm) {idx ci k q : Nat} (hd : decode cc pc = .ok (.getfield idx, 3)) (hf : zFl own idx ci k) (hk : zkd ci k = 0 := by rfl) (hs : A.1 q = some (.inl ci) := by assumption) (kk : zW E cs A m (pc + 3) lv (vi (m q k) :: st)) : zW E cs A m pc lv (vr q :: st) := by
  refine z_get X hd hf hs ?_
  unfold zov
  rw [if_pos hk]
  exact kk
theorem z_getL (X : zOK E cc own nL ret rm) {idx ci k q : Nat} (hd : decode cc pc = .ok (.getfield idx, 3)) (hf : zFl own idx ci k) (hk : zkd ci k = 1 := by rfl) (hs : A.1 q = some (.inl ci) := by assumption) (kk : zW E cs A m (pc + 3) lv (vl (m q k) :: st)) : zW E cs A m pc lv (vr q :: st) := by
  refine z_get X hd hf hs ?_
  unfold zov
  rw [if_neg (by omega), if_pos hk]
  exact kk
theorem z_getR (X : zOK E cc own nL ret rm) {idx ci k q a : Nat} (hd : decode cc pc = .ok (.getfield idx, 3)) (hf : zFl own idx ci k) (hk : zkd ci k = 2 := by rfl) (hs : A.1 q = some (.inl ci) := by assumption) (ha : A.2.1 q k = some a := by assumption) (kk : zW E cs A m (pc + 3) lv (vr a :: st)) : zW E cs A m pc lv (vr q :: st) := by
  refine z_get X hd hf hs ?_
  unfold zov
  rw [if_neg (by omega), if_neg (by omega), ha]
  exact kk
theorem zR.put {D : zD} {B : Nat} {A A' : zA} {m m' : zM} {H H1 : Heap} {q : Nat} {e : zE} (h : zR D B A m H) (hs : A.1 q = some e) (z : H1.size = H.size) (oq : ∀ x : Nat, x ≠ q → H1[x]? = H[x]?) (hA1 : A'.1 = A.1) (hA2 : A'.2.2 = A.2.2) (hm : ∀ a j, a ≠ q → m' a j = m a j) (hr : ∀ a j, a ≠ q → A'.2.1 a j = A.2.1 a j) (hn : zat D A' m' H1 q e) : zR D B A' m' H1 := by
  refine ⟨by rw [z, hA2]; exact h.1, by rw [hA2]; exact h.2.1, fun a e' ha => ?_⟩
  rw [hA1] at ha
  obtain ⟨h1, h2, h3⟩ := h.2.2 a e' ha
  refine ⟨h1, by rw [hA2]; exact h2, ?_⟩
  by_cases haq : a = q
  · subst haq
    rw [hs] at ha
    cases ha
    exact hn
  · exact (h3.kept (oq a haq)).m (fun j => hm a j haq) (fun j => hr a j haq)
def zfin (ci k : Nat) : Bool := (zT ci k).2.2.2
/-- a write of a field, whatever it holds -/
theorem z_put (X : zOK E cc own nL ret rm) {idx ci k q : Nat} {v : Value} {A' : zA} {m' : zM} (hd : decode cc pc = .ok (.putfield idx, 3)) (hf : zFl own idx ci k) (hfin : zfin ci k = false ∨ (zfin ci k = true ∧ zNm E "<init>" ∧ zC ci = own ∧ (zT ci k).1 = own ∧ Cond.fieldLink own idx (zT ci k).1 (zT ci k).2.1 (zT ci k).2.2.1 ∈ zGB))
    (hs : A.1 q = some (.inl ci)) (hnr : narrow (zty ci k) v = v) (hfit : fits (zty ci k) v = true) (hA1 : A'.1 = A.1) (hA2 : A'.2.2 = A.2.2) (hm : ∀ a j, a ≠ q → m' a j = m a j) (hr : ∀ a j, a ≠ q → A'.2.1 a j = A.2.1 a j)
    (hv : ∀ j, j < zN ci → updV (zov ci q m A.2.1) k v j = zov ci q m' A'.2.1 j) (kk : zW E cs A' m' (pc + 3) lv st) : zW E cs A m pc lv (v :: vr q :: st) := by
  obtain ⟨p, l, e, R, s, mm, args, below, meth, c, D, B, Q⟩ := E
  obtain ⟨hx, hb, hml, hown, hts, hK, hB, hr0, hlk, hR0⟩ := X
  intro H locs ls hR hS hL hn
  obtain ⟨hc, hk, hlink⟩ := hf
  have hap := zap hts hK hc
  obtain ⟨hqB, -, -, hob⟩ := hR.2.2 q _ hs
  obtain ⟨cell, q1, q2, q3, q4⟩ := hob
  obtain ⟨hSl, hfc, kC, hkC, hkind⟩ := hK.1 ci hc
  obtain ⟨cf, kf, fi, f, hi, hsl⟩ := hSl k hk
  have hst := (u_facts hfc hkC (u_lays hts (zCw hc) hk) hi).1
  have fin : ∀ (H' : Heap), H'[q]? = some (cell.setSlot f.slot v) → H'.size = H.size → (∀ x, x ≠ q → H'[x]? = H[x]?) → W p l e R s mm args below meth c H' (locs ++ [⟨q, f.slot⟩]) cs.1 cs.2 Q (F0 mm (pc + 3) ls st) := by
    intro H' e1 e2 e3
    rw [hsl] at e1
    refine kk H' _ ls (hR.put hs e2 e3 hA1 hA2 hm hr ⟨hc, ?_⟩) (hS.put e2 e3 hqB) hL hn
    exact t_OB.to (V := updV (zov ci q m A.2.1) k v) ⟨_, e1, q2, q3, t_set q4 hap hk v⟩ hv
  rcases hfin with hfin | ⟨hfin, hin, hown2, hdecl, hlink2⟩
  · have hlay := hts _ (zCw hc _ (u_in_lay hk))
    unfold u_lay at hlay
    rw [if_neg (by have : (zT ci k).2.2.2 = false := hfin; rw [this]; decide)] at hlay
    have h6 := u_store hfc hkC hkind hlay hi (zCt hc k hk) hnr hfit
    rcases hlink with hlink | ⟨host, hlink⟩
    · exact W.putK hx hb (f := f) ⟨hown, hts _ hlink, ⟨_, _, _, hi⟩, hst⟩ (by rw [q2]; exact h6) q1 q3 (by rw [hsl]; exact k2_hasslot (q4 k hk)) rfl rfl hd fin
    · exact va_WputK hx hb (f := f) hown (va_Nw.use rfl (hK.2.2 _ hlink)) hi hst (by rw [q2]; exact h6) q1 q3 (by rw [hsl]; exact k2_hasslot (q4 k hk)) rfl rfl hd fin
  · have hlay := hts _ (zCw hc _ (u_in_lay hk))
    unfold u_lay at hlay
    rw [if_pos (show (zT ci k).2.2.2 = true from hfin)] at hlay
    have hcf : mm.cls = cf := by
      obtain ⟨_, _, c', _, _, _, -, -, hf', -, -, -, hown3, -⟩ := Cond.laysFinal_spec hlay
      have e1 : c' = cf := by have := hi.symm.trans hf'; simp at this; exact this.1.symm
      rw [hdecl] at hown3
      rw [← e1]; exact Option.some.inj (hown.symm.trans hown3)
    have h6 := u_fits hfc hkC hkind (Or.inr hlay) hi (zCt hc k hk) hnr hfit
    exact W.putFinK hx hb hown (hts _ hlink2) hi hst hcf hin (by rw [q2]; exact h6) q1 q3 (by rw [hsl]; exact k2_hasslot (q4 k hk)) rfl rfl hd fin
theorem z_putI (X : zOK E cc own nL ret rm) {idx ci k q : Nat} {x : Int} (hd : decode cc pc = .ok (.putfield idx, 3)) (hf : zFl own idx ci k) (hty : zty ci k = .int := by rfl) (hfin : zfin ci k = false := by rfl) (hs : A.1 q = some (.inl ci) := by assumption) (kk : zW E cs A (zms m q k x) (pc + 3) lv st) : zW E cs A m pc lv (vi x :: vr q :: st) := by
  have hk : zkd ci k = 0 := by unfold zkd; rw [hty]
  refine z_put X hd hf (Or.inl hfin) hs (by rw [hty]; rfl) (by rw [hty]; rfl) rfl rfl (fun a j h => zms_nq _ _ _ _ _ h) (fun _ _ _ => rfl) (fun j _ => ?_) kk
  unfold updV zov
  by_cases hj : j = k
  · subst hj
    simp [hk, zms]
  · simp [hj, zms]
theorem z_putL (X : zOK E cc own nL ret rm) {idx ci k q : Nat} {x : Int} (hd : decode cc pc = .ok (.putfield idx, 3)) (hf : zFl own idx ci k) (hty : zty ci k = .long := by rfl) (hfin : zfin ci k = false := by rfl) (hs : A.1 q = some (.inl ci) := by assumption) (kk : zW E cs A (zms m q k x) (pc + 3) lv st) : zW E cs A m pc lv (vl x :: vr q :: st) := by
  have hk : zkd ci k = 1 := by unfold zkd; rw [hty]
  refine z_put X hd hf (Or.inl hfin) hs (by rw [hty]; rfl) (by rw [hty]; rfl) rfl rfl (fun a j h => zms_nq _ _ _ _ _ h) (fun _ _ _ => rfl) (fun j _ => ?_) kk
  unfold updV zov
  by_cases hj : j = k
  · subst hj
    simp [hk, zms]
  · simp [hj, zms]
theorem z_putZ (X : zOK E cc own nL ret rm) {idx ci k q : Nat} {x : Int} (hd : decode cc pc = .ok (.putfield idx, 3)) (hf : zFl own idx ci k) (h01 : x = 0 ∨ x = 1 := by omega) (hty : zty ci k = .boolean := by rfl) (hfin : zfin ci k = false := by rfl) (hs : A.1 q = some (.inl ci) := by assumption) (kk : zW E cs A (zms m q k x) (pc + 3) lv st) : zW E cs A m pc lv (vi x :: vr q :: st) := by
  have hk : zkd ci k = 0 := by unfold zkd; rw [hty]
  refine z_put X hd hf (Or.inl hfin) hs (by rw [hty]; rcases h01 with rfl | rfl <;> rfl) (by rw [hty]; rcases h01 with rfl | rfl <;> rfl) rfl rfl (fun a j h => zms_nq _ _ _ _ _ h) (fun _ _ _ => rfl) (fun j _ => ?_) kk
  unfold updV zov
  by_cases hj : j = k
  · subst hj
    simp [hk, zms]
  · simp [hj, zms]
def zrs (mr : Nat → Nat → Option Nat) (q k : Nat) (v : Option Nat) : Nat → Nat → Option Nat := fun a j => if a = q ∧ j = k then v else mr a j
theorem z_putR (X : zOK E cc own nL ret rm) {idx ci k q a : Nat} (hd : decode cc pc = .ok (.putfield idx, 3)) (hf : zFl own idx ci k) (hn : zNm E "<init>") (hlink : Cond.fieldLink own idx (zT ci k).1 (zT ci k).2.1 (zT ci k).2.2.1 ∈ zGB) (hcl : zC ci = own := by rfl) (hdecl : (zT ci k).1 = own := by rfl) (hk : zkd ci k = 2 := by rfl) (hty : narrow (zty ci k) (vr a) = vr a ∧ fits (zty ci k) (vr a) = true := by exact ⟨rfl, rfl⟩) (hfin : zfin ci k = true := by rfl) (hs : A.1 q = some (.inl ci) := by assumption) (kk : zW E cs (A.1, zrs A.2.1 q k (some a), A.2.2) m (pc + 3) lv st) : zW E cs A m pc lv (vr a :: vr q :: st) := by
  refine z_put (A' := (A.1, zrs A.2.1 q k (some a), A.2.2)) (m' := m) X hd hf (Or.inr ⟨hfin, hn, hcl, hdecl, hlink⟩) hs hty.1 hty.2 rfl rfl (fun _ _ _ => rfl) (fun b j h => by simp [zrs, h]) (fun j _ => ?_) kk
  unfold updV zov
  by_cases hj : j = k
  · subst hj
    simp [hk, zrs, va_rf, vr]
  · simp [hj, zrs]
end
end
section
section
variable {E : zCx} {cc : ByteArray} {own : String} {nL : Nat} {ret : Option FieldType} {rm : Room} {cs : Nat × Nat} {A : zA} {m : zM} {pc : Nat} {lv : zLv} {st : List Value}
theorem z_iald (X : zOK E cc own nL ret rm) {a n : Nat} (j : Nat) {i : Int} (hd : decode cc pc = .ok (.iaload, 1)) (hj : i = (j : Int)) (hs : A.1 a = some (.inr (0, n)) := by assumption) (hlt : j < n := by omega) (h31 : j < 2147483648 := by omega) (kk : zW E cs A m (pc + 1) lv (vi (m a j) :: st)) : zW E cs A m pc lv (vi i :: vr a :: st) := by
  obtain ⟨p, l, e, R, s, mm, args, below, meth, c, D, B, Q⟩ := E
  obtain ⟨hx, hb, hml, hown, hts, hK, hB, hr, hlk, hR0⟩ := X
  intro H locs ls hR hS hL hn
  subst hj
  obtain ⟨-, -, -, hob⟩ := hR.2.2 a _ hs
  have hA := (hK.2.1 0 (by omega)).1 n (zav 0 a m A.2.1)
  have hin := zI_in (a := (j : Int)) (n := n) (by omega) (by omega) (by omega)
  exact W.iald (v := vi (m a j)) hx hb hob hA (fun q => by cases q) (by show ¬ (_ ∨ (arrV _ _ _).slots.size ≤ _); rw [arrV_size]; exact hin) (by rw [zI_clamp (by omega), Int.toNat_natCast]; exact arrV_read _ _ hlt) rfl rfl hd (kk H locs ls hR hS hL hn)
theorem z_bald (X : zOK E cc own nL ret rm) {a n : Nat} (j : Nat) {i : Int} (hd : decode cc pc = .ok (.baload, 1)) (hj : i = (j : Int)) (hs : A.1 a = some (.inr (1, n)) := by assumption) (hlt : j < n := by omega) (h31 : j < 2147483648 := by omega) (kk : zW E cs A m (pc + 1) lv (vi (m a j) :: st)) : zW E cs A m pc lv (vi i :: vr a :: st) := by
  obtain ⟨p, l, e, R, s, mm, args, below, meth, c, D, B, Q⟩ := E
  obtain ⟨hx, hb, hml, hown, hts, hK, hB, hr, hlk, hR0⟩ := X
  intro H locs ls hR hS hL hn
  subst hj
  obtain ⟨-, -, -, hob⟩ := hR.2.2 a _ hs
  have hA := (hK.2.1 1 (by omega)).1 n (zav 1 a m A.2.1)
  have hin := zI_in (a := (j : Int)) (n := n) (by omega) (by omega) (by omega)
  exact W.zald (v := vi (m a j)) hx hb hob hA (fun q => by cases q) (by show ¬ (_ ∨ (arrV _ _ _).slots.size ≤ _); rw [arrV_size]; exact hin) (by rw [zI_clamp (by omega), Int.toNat_natCast]; exact arrV_read _ _ hlt) rfl rfl hd (kk H locs ls hR hS hL hn)
theorem z_aald (X : zOK E cc own nL ret rm) {a n t b : Nat} (j : Nat) {i : Int} (hd : decode cc pc = .ok (.aaload, 1)) (hj : i = (j : Int)) (ht : 2 ≤ t ∧ t < 5 := by decide) (hs : A.1 a = some (.inr (t, n)) := by assumption) (hlt : j < n := by omega) (h31 : j < 2147483648 := by omega) (hb0 : A.2.1 a j = some b := by assumption) (kk : zW E cs A m (pc + 1) lv (vr b :: st)) : zW E cs A m pc lv (vi i :: vr a :: st) := by
  obtain ⟨p, l, e, R, s, mm, args, below, meth, c, D, B, Q⟩ := E
  obtain ⟨hx, hb, hml, hown, hts, hK, hB, hr, hlk, hR0⟩ := X
  intro H locs ls hR hS hL hn
  subst hj
  obtain ⟨-, -, -, hob⟩ := hR.2.2 a _ hs
  have hA := (hK.2.1 t (by omega)).1 n (zav t a m A.2.1)
  have hin := zI_in (a := (j : Int)) (n := n) (by omega) (by omega) (by omega)
  have hty : (zaT t).isReference = true := by
    match t, ht with
    | 2, _ => rfl
    | 3, _ => rfl
    | 4, _ => rfl
    | 0, h => exact absurd h.1 (by omega)
    | 1, h => exact absurd h.1 (by omega)
    | k + 5, h => exact absurd h.2 (by omega)
  have hv : zav t a m A.2.1 j = vr b := by unfold zav; rw [if_neg (by omega), hb0]; rfl
  exact W.aald (v := vr b) hx hb hob hA hty (fun q => by cases q) (by show ¬ (_ ∨ (arrV _ _ _).slots.size ≤ _); rw [arrV_size]; exact hin) (by rw [zI_clamp (by omega), Int.toNat_natCast, arrV_read _ _ hlt]; exact congrArg some hv) rfl rfl hd (kk H locs ls hR hS hL hn)
theorem z_alen (X : zOK E cc own nL ret rm) {a n t : Nat} (hd : decode cc pc = .ok (.arraylength, 1)) (hs : A.1 a = some (.inr (t, n)) := by assumption) (kk : zW E cs A m (pc + 1) lv (vi (n : Int) :: st)) : zW E cs A m pc lv (vr a :: st) := by
  obtain ⟨p, l, e, R, s, mm, args, below, meth, c, D, B, Q⟩ := E
  obtain ⟨hx, hb, hml, hown, hts, hK, hB, hr, hlk, hR0⟩ := X
  intro H locs ls hR hS hL hn
  obtain ⟨-, -, ht, hob⟩ := hR.2.2 a _ hs
  have hA := (hK.2.1 t ht).1 n (zav t a m A.2.1)
  exact W.alen (n := Int32.ofInt (n : Int)) hx hb hob hA (by rw [arrV_size, Int32.ofInt_eq_ofNat] <;> rfl) rfl rfl hd (kk H locs ls hR hS hL hn)
theorem zav_put {t a : Nat} {m : zM} {mr : Nat → Nat → Option Nat} {j : Nat} {x : Int} (ht : t < 2) : updV (zav t a m mr) j (vi x) = zav t a (zms m a j x) mr := by
  funext k
  unfold updV zav zms
  by_cases hk : k = j <;> simp [hk, ht]
theorem z_iast (X : zOK E cc own nL ret rm) {a n : Nat} {x : Int} (j : Nat) {i : Int} (hd : decode cc pc = .ok (.iastore, 1)) (hj : i = (j : Int)) (hs : A.1 a = some (.inr (0, n)) := by assumption) (hlt : j < n := by omega) (h31 : j < 2147483648 := by omega) (kk : zW E cs A (zms m a j x) (pc + 1) lv st) : zW E cs A m pc lv (vi x :: vi i :: vr a :: st) := by
  obtain ⟨p, l, e, R, s, mm, args, below, meth, c, D, B, Q⟩ := E
  obtain ⟨hx, hb, hml, hown, hts, hK, hB, hr, hlk, hR0⟩ := X
  intro H locs ls hR hS hL hn
  subst hj
  obtain ⟨hqB, -, ht, hob⟩ := hR.2.2 a _ hs
  have hA := (hK.2.1 0 (by omega)).1 n (zav 0 a m A.2.1)
  have hin := zI_in (a := (j : Int)) (n := n) (by omega) (by omega) (by omega)
  refine W.iast hx hb hob hA (fun q => by cases q) (by show ¬ (_ ∨ (arrV _ _ _).slots.size ≤ _); rw [arrV_size]; exact hin) rfl rfl hd fun H1 e1 z oq => ?_
  refine kk H1 _ ls (hR.put hs z oq rfl rfl (fun b j h => zms_nq _ _ _ _ _ h) (fun _ _ _ => rfl) ⟨ht, ?_⟩) (hS.put z oq hqB) hL hn
  rw [e1, zI_clamp (by omega), Int.toNat_natCast, arrV_store]
  exact congrArg (fun f => some (arrV (D.2.2 0) n f)) (zav_put (by omega))
theorem z_bast (X : zOK E cc own nL ret rm) {a n : Nat} {x : Int} (j : Nat) {i : Int} (hd : decode cc pc = .ok (.bastore, 1)) (hj : i = (j : Int)) (h01 : x = 0 ∨ x = 1 := by omega) (hs : A.1 a = some (.inr (1, n)) := by assumption) (hlt : j < n := by omega) (h31 : j < 2147483648 := by omega) (kk : zW E cs A (zms m a j x) (pc + 1) lv st) : zW E cs A m pc lv (vi x :: vi i :: vr a :: st) := by
  obtain ⟨p, l, e, R, s, mm, args, below, meth, c, D, B, Q⟩ := E
  obtain ⟨hx, hb, hml, hown, hts, hK, hB, hr, hlk, hR0⟩ := X
  intro H locs ls hR hS hL hn
  subst hj
  obtain ⟨hqB, -, ht, hob⟩ := hR.2.2 a _ hs
  have hA := (hK.2.1 1 (by omega)).1 n (zav 1 a m A.2.1)
  have hin := zI_in (a := (j : Int)) (n := n) (by omega) (by omega) (by omega)
  refine W.zast hx hb hob hA (fun q => by cases q) (by show ¬ (_ ∨ (arrV _ _ _).slots.size ≤ _); rw [arrV_size]; exact hin) rfl rfl hd fun H1 e1 z oq => ?_
  refine kk H1 _ ls (hR.put hs z oq rfl rfl (fun b j h => zms_nq _ _ _ _ _ h) (fun _ _ _ => rfl) ⟨ht, ?_⟩) (hS.put z oq hqB) hL hn
  have e2 : narrow .boolean (.int (Int32.ofInt x)) = vi x := by rcases h01 with rfl | rfl <;> rfl
  rw [e1, e2, zI_clamp (by omega), Int.toNat_natCast, arrV_store]
  exact congrArg (fun f => some (arrV (D.2.2 1) n f)) (zav_put (by omega))
/-- a reference to an object of the array's own class is kept -/
theorem z_aast (X : zOK E cc own nL ret rm) {a n t b ci : Nat} (j : Nat) {i : Int} (hd : decode cc pc = .ok (.aastore, 1)) (hj : i = (j : Int)) (ht : 2 ≤ t ∧ t < 5 := by decide) (hci : zaT t = .object (zC ci) := by rfl) (hs : A.1 a = some (.inr (t, n)) := by assumption) (hlt : j < n := by omega) (h31 : j < 2147483648 := by omega) (hb0 : A.1 b = some (.inl ci) := by assumption) (kk : zW E cs (A.1, zrs A.2.1 a j (some b), A.2.2) m (pc + 1) lv st) : zW E cs A m pc lv (vr b :: vi i :: vr a :: st) := by
  obtain ⟨p, l, e, R, s, mm, args, below, meth, c, D, B, Q⟩ := E
  obtain ⟨hx, hb, hml, hown, hts, hK, hB, hr, hlk, hR0⟩ := X
  intro H locs ls hR hS hL hn
  subst hj
  obtain ⟨hqB, -, ht5, hob⟩ := hR.2.2 a _ hs
  obtain ⟨-, -, hc9, cellV, g1, g2, g3, -⟩ := hR.2.2 b _ hb0
  have hcls := (hK.1 ci hc9).2
  have hin := zI_in (a := (j : Int)) (n := n) (by omega) (by omega) (by omega)
  have hRA := (hK.2.1 t ht5).2
  rw [hci] at hRA
  obtain ⟨kA, comp, k1, k2, k3, -⟩ := hRA
  have hcomp : comp = D.1 ci := Option.some.inj (k3.symm.trans hcls.1)
  subst hcomp
  obtain ⟨kC, hkC, -⟩ := hcls.2
  refine W.aast hx hb hob (fun q h => by cases h) (fun h => by cases h) k1 k2 rfl hkC ⟨fun h => hin (Or.inl h), by show _ < (arrV _ _ _).slots.size; rw [arrV_size, zI_clamp (by omega), Int.toNat_natCast]; exact hlt⟩ g1 (fun q h => by rw [g3] at h; cases h) (by rw [g2]; exact hkC) (by rw [g2]; exact va_assign hcls) rfl rfl hd fun H1 e1 z oq => ?_
  refine kk H1 _ ls (hR.put (A' := (A.1, zrs A.2.1 a j (some b), A.2.2)) hs z oq rfl rfl (fun _ _ _ => rfl) (fun c k h => by simp [zrs, h]) ⟨ht5, ?_⟩) (hS.put z oq hqB) hL hn
  rw [e1, zI_clamp (by omega), Int.toNat_natCast, arrV_store]
  refine congrArg (fun f => some (arrV (D.2.2 t) n f)) ?_
  funext k
  unfold updV zav
  by_cases hk : k = j
  · subst hk
    simp [zrs, va_rf, Nat.not_lt.mpr ht.1]
  · simp [zrs, hk]
def zgt : FieldType → Bool
  | .int => true | .boolean => true | .long => true | .object _ => true | .array _ => true | _ => false
theorem zgt_ok : ∀ ci, ci < 9 → ∀ k, k < zN ci → zgt (zty ci k) = true := by decide +kernel
/-- what is made: at the next address -/
def zmz (m : zM) (q : Nat) : zM := fun a j => if a = q then 0 else m a j
def zsh (sh : Nat → Option zE) (q : Nat) (e : zE) : Nat → Option zE := fun a => if a = q then some e else sh a
def zrz (mr : Nat → Nat → Option Nat) (q : Nat) : Nat → Nat → Option Nat := fun a j => if a = q then none else mr a j
def znew (A : zA) (e : zE) : zA := (zsh A.1 A.2.2 e, zrz A.2.1 A.2.2, A.2.2 + 1)
theorem zR.push {D : zD} {B : Nat} {A : zA} {m : zM} {H H1 : Heap} {e : zE} (h : zR D B A m H) (z : H1.size = A.2.2 + 1) (oq : ∀ x : Nat, x < A.2.2 → H1[x]? = H[x]?) (hn : zat D (znew A e) (zmz m A.2.2) H1 A.2.2 e) : zR D B (znew A e) (zmz m A.2.2) H1 := by
  refine ⟨z, Nat.le_succ_of_le h.2.1, fun a e' ha => ?_⟩
  by_cases haq : a = A.2.2
  · subst haq
    have : e = e' := by simpa [znew, zsh] using ha
    subst this
    exact ⟨h.2.1, Nat.lt_succ_self _, hn⟩
  · have ha' : A.1 a = some e' := by simpa [znew, zsh, haq] using ha
    obtain ⟨h1, h2, h3⟩ := h.2.2 a e' ha'
    exact ⟨h1, Nat.lt_succ_of_lt h2, (h3.kept (oq a h2)).m (fun j => by simp [zmz, haq]) (fun j => by simp [znew, zrz, haq])⟩
theorem zS_push {B : Nat} {H0 H H1 : Heap} {locs : List Loc} (h : va_S (fun q => B ≤ q) H0 H locs) (hz : H.size ≤ H1.size) (oq : ∀ x : Nat, x < H.size → H1[x]? = H[x]?) : va_S (fun q => B ≤ q) H0 H1 locs :=
  ⟨Nat.le_trans h.1 hz, fun x h1 h2 => (oq x (Nat.lt_of_lt_of_le h1 h.1)).trans (h.2.1 x h1 h2), h.2.2⟩
theorem z_new (X : zOK E cc own nL ret rm) {idx ci : Nat} (hd : decode cc pc = .ok (.new idx, 3)) (hci : ci < 9) (w1 : Cond.classLink own idx (zC ci) ∈ zGB) (w2 : Cond.instantiable (zC ci) (zN ci) ∈ zGB) (w3 : Cond.initialized (zC ci) ∈ zGB) (hcells : cs.1 + 1 ≤ rm.cells) (hslots : cs.2 + zN ci ≤ rm.slots)
    (kk : zW E (cs.1 + 1, cs.2 + zN ci) (znew A (.inl ci)) (zmz m A.2.2) (pc + 3) lv (vr A.2.2 :: st)) : zW E cs A m pc lv st := by
  obtain ⟨p, l, e, R, s, mm, args, below, meth, c, D, B, Q⟩ := E
  obtain ⟨hx, hb, hml, hown, hts, hK, hB, hr, hlk, hR0⟩ := X
  intro H locs ls hR hS hL hn
  subst hR0
  have hKn := hK.1 ci hci
  refine W.newcK hx hb hown (hts _ w1) (hts _ w2) (hts _ w3) rfl hd hcells hslots hKn.2.1 hR.1 fun H1 kC hkC e1 z1 o1 => ?_
  have hbn := u_born (zty ci) hts (zCw hci) hKn hkC e1 (zCt hci)
  refine kk H1 locs ls (hR.push z1 o1 ⟨hci, hbn.to (fun k hk => ?_)⟩) (zS_push hS (by rw [hR.1]; omega) (by rw [hR.1]; exact o1)) hL hn
  have hgt := zgt_ok ci hci k hk
  unfold zov zkd
  simp only [zmz, znew, zrz, if_true]
  cases hty : zty ci k <;> first | rfl | (rw [hty] at hgt; exact absurd hgt (by decide))
theorem z_newarr (X : zOK E cc own nL ret rm) {atype : ArrayType} {t n : Nat} {i : Int} (hd : decode cc pc = .ok (.newarray atype, 2)) (ht : t < 2) (hty : newarray.typeOf atype = zaT t) (w1 : Cond.arrayClass (zaT t) ∈ zGB) (hi : i = (n : Int)) (hn0 : n < 100000000 := by omega) (hcells : cs.1 + 1 ≤ rm.cells) (hslots : cs.2 + n ≤ rm.slots)
    (kk : zW E (cs.1 + 1, cs.2 + n) (znew A (.inr (t, n))) (zmz m A.2.2) (pc + 2) lv (vr A.2.2 :: st)) : zW E cs A m pc lv (vi i :: st) := by
  obtain ⟨p, l, e, R, s, mm, args, below, meth, c, D, B, Q⟩ := E
  obtain ⟨hx, hb, hml, hown, hts, hK, hB, hr, hlk, hR0⟩ := X
  intro H locs ls hR hS hL hn
  subst hR0
  subst hi
  refine va_newaK (N := n) hx hb (by rw [hty]; exact hts _ w1) rfl hd rfl (by rw [show (0 : Int32) = Int32.ofInt 0 from rfl, zI_lt (by omega) (by omega)]; omega) (by rw [zI_clamp (by omega), Int.toNat_natCast]) (by rw [hty]; match t, ht with | 0, _ => show n * 4 ≤ _; omega | 1, _ => show n * 1 ≤ _; omega) hcells hslots hR.1 fun H1 cA e1 z1 o1 hAr hNm => ?_
  have hcA : cA = D.2.2 t := by
    have h2 := (hK.2.1 t (by omega)).2
    rw [hty] at hNm
    match t, ht with
    | 0, _ => exact Option.some.inj (hNm.symm.trans h2)
    | 1, _ => exact Option.some.inj (hNm.symm.trans h2)
  subst hcA
  refine kk H1 locs ls (hR.push z1 o1 ⟨by omega, e1.trans ?_⟩) (zS_push hS (by rw [hR.1]; omega) (by rw [hR.1]; exact o1)) hL hn
  refine congrArg (fun f => some (arrV (D.2.2 t) n f)) ?_
  funext j
  unfold zav
  rw [if_pos ht, hty]
  simp only [zmz, if_true]
  match t, ht with
  | 0, _ => rfl
  | 1, _ => rfl
theorem z_anewarr (X : zOK E cc own nL ret rm) {idx t n ci : Nat} {i : Int} (hd : decode cc pc = .ok (.anewarray idx, 3)) (ht : 2 ≤ t ∧ t < 5) (hci : zaT t = .object (zC ci)) (w1 : Cond.classLink own idx (zC ci) ∈ zGB) (w2 : Cond.arrayOver (.object (zC ci)) ∈ zNB) (hi : i = (n : Int)) (hn0 : n < 100000000 := by omega) (hcells : cs.1 + 1 ≤ rm.cells) (hslots : cs.2 + n ≤ rm.slots)
    (kk : zW E (cs.1 + 1, cs.2 + n) (znew A (.inr (t, n))) (zmz m A.2.2) (pc + 3) lv (vr A.2.2 :: st)) : zW E cs A m pc lv (vi i :: st) := by
  obtain ⟨p, l, e, R, s, mm, args, below, meth, c, D, B, Q⟩ := E
  obtain ⟨hx, hb, hml, hown, hts, hK, hB, hr, hlk, hR0⟩ := X
  intro H locs ls hR hS hL hn
  subst hR0
  subst hi
  have hclamp : (Int32.ofInt (n : Int)).toNatClampNeg = n := by rw [zI_clamp (by omega), Int.toNat_natCast]
  refine W.anew hx hb hown (hts _ w1) (va_AO.use (hK.2.2 _ w2)) rfl hd rfl (by rw [show (0 : Int32) = Int32.ofInt 0 from rfl, zI_lt (by omega) (by omega)]; omega) (by rw [hclamp]; omega) hcells (by rw [hclamp]; exact hslots) fun cA kA comp f1 f2 f3 f4 => ?_
  rw [hclamp]
  have hcA : cA = D.2.2 t := by
    have h2 := (hK.2.1 t (by omega)).2
    rw [hci] at h2
    obtain ⟨_, _, _, _, _, h3⟩ := h2
    exact Option.some.inj (f1.symm.trans h3)
  subst hcA
  generalize hH1 : H.push ({ cls := D.2.2 t, slots := Array.replicate n .null, vm := .none } : Cell) = H1
  have z1 : H1.size = A.2.2 + 1 := by rw [← hH1, Array.size_push, hR.1]
  have e1 : H1[A.2.2]? = some (arrV (D.2.2 t) n (fun _ => .null)) := by rw [← hR.1, ← hH1, Array.getElem?_push_size, ← arrV_new]
  have o1 : ∀ q : Nat, q < A.2.2 → H1[q]? = H[q]? := fun q hq => by rw [← hH1, Array.getElem?_push, if_neg (by rw [hR.1]; omega)]
  rw [hR.1]
  refine kk H1 locs ls (hR.push z1 o1 ⟨by omega, e1.trans ?_⟩) (zS_push hS (by rw [hR.1]; omega) (by rw [hR.1]; exact o1)) hL hn
  refine congrArg (fun f => some (arrV (D.2.2 t) n f)) ?_
  funext j
  unfold zav
  rw [if_neg (by omega)]
  simp only [zmz, znew, zrz, if_true]
  rfl
end
end
section
/-- what the tables say of a method; of a link to it -/
def zMw (k : zMi) (n : Nat) : Prop := Cond.initialized k.1.cls ∈ zGB ∧ Cond.code k.1 k.2.1 k.2.2.1 k.2.2.2.1 ∈ zGB ∧ (k.1.cls ≠ "java/lang/invoke/MethodHandle" ∧ k.1.cls ≠ "java/lang/invoke/VarHandle") ∧ (parseMethodDescriptor k.1.desc).map (fun d => d.parameters.length) = some n
def zLk (own : String) (idx : Nat) (k : zMi) : Prop := Cond.methodLink own idx k.1 ∈ zGB ∨ ∃ host, Cond.methodLinkNest own idx k.1 host ∈ zNB
def zIn (k : zMi) : Prop := Cond.instanceMethod k.1 ∈ zGB ∧ Cond.selects k.1.cls k.1 k.1 ∈ zGB
def zpv (A0 : zA) (P : zM → Prop) : Option Value → zA → zM → Prop := fun r A m => A = A0 ∧ r = none ∧ P m
def zpi (A0 : zA) (P : Int → zM → Prop) : Option Value → zA → zM → Prop := fun r A m => A = A0 ∧ ∃ x : Int, r = some (vi x) ∧ P x m
def zpl (A0 : zA) (P : Int → zM → Prop) : Option Value → zA → zM → Prop := fun r A m => A = A0 ∧ ∃ x : Int, r = some (vl x) ∧ P x m
def zpr (A0 : zA) (P : Option Nat → zM → Prop) : Option Value → zA → zM → Prop := fun r A m => A = A0 ∧ ∃ x : Option Nat, r = some (va_rf x) ∧ P x m
/-- of a constructor -/
def zpc (P : zA → zM → Prop) : Option Value → zA → zM → Prop := fun r A m => r = none ∧ P A m
theorem zPc_blind {D : zD} {B : Nat} {av : List Value} {A : zA} {m : zM} : FrameBlind (zPc D B av A m) := fun a U g mk h => ⟨h.1, h.2.1, zK.same (s := U) (U := U.calling g mk a) rfl h.2.2⟩
theorem zws_ok {s : State} {args : Array Value} (hts : ∀ w ∈ zGB, w.before args s = true) {k : zMi} {n : Nat} (hw : zMw k n) : ∀ w ∈ (Cond.code k.1 k.2.1 k.2.2.1 k.2.2.2.1 :: zGB), ∀ (a' : Array Value) (U : State), s.WarmedH U.vm → w.before a' U = true := by
  refine pay_in hts (fun w h => ?_)
  have h1 : w ∈ zGB := by
    rcases List.mem_cons.mp h with rfl | h
    · exact hw.2.1
    · exact h
  exact ⟨h1, good_of_word (List.mem_filter.mp h1).2⟩
theorem zW_of_run {p : Program} {l : Launch} {e : Env} {R : Room} {s : State} {mm : MethodId} {args : Array Value} {below : List Frame} {meth : Method} {c : Code} {D : zD} {B : Nat} {Q : State → Prop} {H : Heap} {locs : List Loc} {cs : Nat × Nat} {mc ms pc : Nat} {ls : Array Slot} {lv : zLv} {st rest : List Value} {a : Array Value} {post : Option Value → zA → zM → Prop}
    (hr : va_Run p l e R s mm args below meth c H locs cs.1 cs.2 mc ms (F0 mm pc ls st) rest (zQc D B post a) (fun q => B ≤ q)) (hS : va_S (fun q => B ≤ q) s.heap H locs) (hL : zL ls lv) (hn : lv.length = c.maxLocals)
    (kk : ∀ r A' m', post r A' m' → zW (p, l, e, R, s, mm, args, below, meth, c, D, B, Q) (cs.1 + mc, cs.2 + ms) A' m' (pc + 3) lv (r.toList ++ rest)) : W p l e R s mm args below meth c H locs cs.1 cs.2 Q (F0 mm pc ls st) := by
  intro T hT X
  obtain ⟨v, st₀, t, T', L, h0, X', hL', e1, e2, ⟨r, A', m', hv, hp, hR', hz, hk⟩, stp⟩ := hr T hT X
  cases hv
  rw [h0] at hz hk
  have hS' : va_S (fun q => B ≤ q) s.heap T'.heap (locs ++ L) := ⟨Nat.le_trans hS.1 (by rw [e1]; exact hz), fun q h1 h2 => by rw [e1, hk q (Nat.lt_of_lt_of_le h1 hS.1) h2]; exact hS.2.1 q h1 h2, fun q hq => by
      rcases List.mem_append.mp hq with h | h
      · exact hS.2.2 q h
      · exact hL' q h⟩
  obtain ⟨t2, a1, b1⟩ := kk v A' m' hp T'.heap (locs ++ L) ls (by rw [e1]; exact hR') hS' hL hn T' rfl X'
  exact ⟨t2, stp t2 a1, b1⟩
section
variable {E : zCx} {cc : ByteArray} {own : String} {nL : Nat} {ret : Option FieldType} {rm : Room} {cs : Nat × Nat} {A : zA} {m : zM} {pc : Nat} {lv : zLv} {st : List Value}
/-- invokevirtual, of a method with its contract -/
theorem z_callV (X : zOK E cc own nL ret rm) {idx n b ci : Nat} {k : zMi} {As rest : List Value} {post : Option Value → zA → zM → Prop} (hd : decode cc pc = .ok (.invokevirtual idx, 3)) (hw : zMw k n) (hi : zIn k) (hl : zLk own idx k) (hM : zMet (zg E) k (vr b :: As) A m post)
    (hs : A.1 b = some (.inl ci)) (hci : zC ci = k.1.cls) (hst : st = As.reverse ++ vr b :: rest) (hlen : As.length = n) (hrest : (rest.map fun v => v.category).sum ≤ 8) (hroom : k.2.2.2.2.frames + 1 ≤ rm.frames ∧ 8 + (k.2.2.1 + 11) + k.2.2.2.2.locals ≤ rm.locals) (hf : cs.1 + k.2.2.2.2.cells ≤ rm.cells ∧ cs.2 + k.2.2.2.2.slots ≤ rm.slots)
    (kk : ∀ r A' m', post r A' m' → zW E (cs.1 + k.2.2.2.2.cells, cs.2 + k.2.2.2.2.slots) A' m' (pc + 3) lv (r.toList ++ rest)) : zW E cs A m pc lv st := by
  obtain ⟨p, l, e, R, s, mm, args, below, meth, c, D, B, Q⟩ := E
  obtain ⟨hx, hb, hml, hown, hts, hK, hB, hr, hlk, hR0⟩ := X
  intro H locs ls hR hS hL hn
  subst hR0
  subst hst
  obtain ⟨-, -, hc9, cell, q1, q2, q3, -⟩ := hR.2.2 b _ hs
  have hcw : CallB R s args own idx k.1 k.2.1 k.2.2.1 k.2.2.2.1 (Cond.code k.1 k.2.1 k.2.2.1 k.2.2.2.1 :: zGB) k.2.2.2.2 k.2.2.2.2.cells k.2.2.2.2.slots n ∨ ∃ host, va_CN R s args own idx k.1 host k.2.1 k.2.2.1 k.2.2.2.1 (Cond.code k.1 k.2.1 k.2.2.1 k.2.2.2.1 :: zGB) k.2.2.2.2 k.2.2.2.2.cells k.2.2.2.2.slots n := by
    have hnl : ∀ sig, parseMethodDescriptor k.1.desc = some sig → n = sig.parameters.length := fun sig h => by
      have h2 := hw.2.2.2
      rw [h] at h2
      exact (Option.some.inj h2).symm
    rcases hl with hl | ⟨host, hl⟩
    · exact Or.inl ⟨rfl, rfl, hroom.1, hroom.2, zws_ok hts hw, List.mem_cons_self, hts _ hw.2.1, hts _ hw.1, hw.2.2.1, hnl, hts _ hl⟩
    · exact Or.inr ⟨host, ⟨rfl, rfl, hroom.1, hroom.2, zws_ok hts hw, List.mem_cons_self⟩, hts _ hw.2.1, hts _ hw.1, hw.2.2.1, hnl, va_Nw.use rfl (hK.2.2 _ hl)⟩
  have hfc : s.vm.findClass k.1.cls = some cell.cls := by rw [← hci, q2]; exact (hK.1 ci hc9).2.1
  have hpre : PreV s H k.1.cls b (zPc D B (vr b :: As) A m) As := ⟨zPc_blind, ⟨cell, q1, by rw [q3]; rfl, hfc⟩, fun U hU hW => ⟨rfl, by rw [hU]; exact hR, hK.warm hW⟩⟩
  rcases hcw with hcw | ⟨host, hcw⟩
  · exact zW_of_run (va_runV (index := idx) (As := As) (rest := rest) ⟨hx, hb, hml, hown, hts⟩ hM ⟨hcw, hts _ hi.1, hts _ hi.2⟩ hpre rfl hlen (by rw [hL.1, hn, hml]) rfl (lv_room hrest) hd hf) hS hL hn kk
  · exact zW_of_run (va_runVN (index := idx) (As := As) (rest := rest) ⟨hx, hb, hml, hown, hts⟩ hM ⟨hcw, hts _ hi.1, hts _ hi.2⟩ hpre rfl hlen (by rw [hL.1, hn, hml]) rfl (lv_room hrest) hd hf) hS hL hn kk
theorem z_callS (X : zOK E cc own nL ret rm) {idx n : Nat} {k : zMi} {As rest : List Value} {post : Option Value → zA → zM → Prop} (hd : decode cc pc = .ok (.invokestatic idx, 3)) (hw : zMw k n) (hi : Cond.static k.1 ∈ zGB) (hl : zLk own idx k) (hM : zMet (zg E) k As A m post)
    (hst : st = As.reverse ++ rest) (hlen : As.length = n) (hrest : (rest.map fun v => v.category).sum ≤ 8) (hroom : k.2.2.2.2.frames + 1 ≤ rm.frames ∧ 8 + (k.2.2.1 + 11) + k.2.2.2.2.locals ≤ rm.locals) (hf : cs.1 + k.2.2.2.2.cells ≤ rm.cells ∧ cs.2 + k.2.2.2.2.slots ≤ rm.slots)
    (kk : ∀ r A' m', post r A' m' → zW E (cs.1 + k.2.2.2.2.cells, cs.2 + k.2.2.2.2.slots) A' m' (pc + 3) lv (r.toList ++ rest)) : zW E cs A m pc lv st := by
  obtain ⟨p, l, e, R, s, mm, args, below, meth, c, D, B, Q⟩ := E
  obtain ⟨hx, hb, hml, hown, hts, hK, hB, hr, hlk, hR0⟩ := X
  intro H locs ls hR hS hL hn
  subst hR0
  subst hst
  have hnl : ∀ sig, parseMethodDescriptor k.1.desc = some sig → n = sig.parameters.length := fun sig h => by
    have h2 := hw.2.2.2
    rw [h] at h2
    exact (Option.some.inj h2).symm
  have hpre : PreS s H (zPc D B As A m) As := ⟨zPc_blind, fun U hU hW => ⟨rfl, by rw [hU]; exact hR, hK.warm hW⟩⟩
  rcases hl with hl | ⟨host, hl⟩
  · exact zW_of_run (va_runS (index := idx) (As := As) (rest := rest) ⟨hx, hb, hml, hown, hts⟩ hM ⟨⟨rfl, rfl, hroom.1, hroom.2, zws_ok hts hw, List.mem_cons_self, hts _ hw.2.1, hts _ hw.1, hw.2.2.1, hnl, hts _ hl⟩, hts _ hi⟩ hpre rfl hlen (by rw [hL.1, hn, hml]) rfl (lv_room hrest) hd hf) hS hL hn kk
  · exact zW_of_run (va_runSN (index := idx) (As := As) (rest := rest) ⟨hx, hb, hml, hown, hts⟩ hM ⟨⟨⟨rfl, rfl, hroom.1, hroom.2, zws_ok hts hw, List.mem_cons_self⟩, hts _ hw.2.1, hts _ hw.1, hw.2.2.1, hnl, va_Nw.use rfl (hK.2.2 _ hl)⟩, hts _ hi, trivial⟩ hpre rfl hlen (by rw [hL.1, hn, hml]) rfl (lv_room hrest) hd hf) hS hL hn kk
/-- a constructor -/
theorem z_callI (X : zOK E cc own nL ret rm) {idx n b : Nat} {y : MethodName} {bytes : ByteArray} {maxL : Nat} {rmk : Room} {As rest : List Value} {post : Option Value → zA → zM → Prop} (hd : decode cc pc = .ok (.invokespecial idx, 3)) (hy : y.name = "<init>") (hw : zMw (y, bytes, maxL, none, rmk) n) (hi : Cond.instanceMethod y ∈ zGB) (hl : zLk own idx (y, bytes, maxL, none, rmk)) (hM : zMet (zg E) (y, bytes, maxL, none, rmk) (vr b :: As) A m post)
    (hst : st = As.reverse ++ vr b :: rest) (hlen : As.length = n) (hrest : (rest.map fun v => v.category).sum ≤ 8) (hroom : rmk.frames + 1 ≤ rm.frames ∧ 8 + (maxL + 11) + rmk.locals ≤ rm.locals) (hf : cs.1 + rmk.cells ≤ rm.cells ∧ cs.2 + rmk.slots ≤ rm.slots)
    (kk : ∀ r A' m', post r A' m' → zW E (cs.1 + rmk.cells, cs.2 + rmk.slots) A' m' (pc + 3) lv (r.toList ++ rest)) : zW E cs A m pc lv st := by
  obtain ⟨p, l, e, R, s, mm, args, below, meth, c, D, B, Q⟩ := E
  obtain ⟨hx, hb, hml, hown, hts, hK, hB, hr, hlk, hR0⟩ := X
  intro H locs ls hR hS hL hn
  subst hR0
  subst hst
  have hnl : ∀ sig, parseMethodDescriptor y.desc = some sig → n = sig.parameters.length := fun sig h => by
    have h2 := hw.2.2.2
    rw [h] at h2
    exact (Option.some.inj h2).symm
  have hpre : PreS s H (zPc D B (vr b :: As) A m) (.ref b :: As) := ⟨zPc_blind, fun U hU hW => ⟨rfl, by rw [hU]; exact hR, hK.warm hW⟩⟩
  rcases hl with hl | ⟨host, hl⟩
  · exact zW_of_run (va_runI (index := idx) (b := b) (As := As) (rest := rest) ⟨hx, hb, hml, hown, hts⟩ hM ⟨⟨rfl, rfl, hroom.1, hroom.2, zws_ok hts hw, List.mem_cons_self, hts _ hw.2.1, hts _ hw.1, hw.2.2.1, hnl, hts _ hl⟩, hy, hts _ hi⟩ hpre rfl hlen (by rw [hL.1, hn, hml]) rfl (lv_room hrest) hd hf) hS hL hn kk
  · exact zW_of_run (va_runIN (index := idx) (b := b) (As := As) (rest := rest) ⟨hx, hb, hml, hown, hts⟩ hM ⟨⟨⟨rfl, rfl, hroom.1, hroom.2, zws_ok hts hw, List.mem_cons_self⟩, hts _ hw.2.1, hts _ hw.1, hw.2.2.1, hnl, va_Nw.use rfl (hK.2.2 _ hl)⟩, hy, hts _ hi⟩ hpre rfl hlen (by rw [hL.1, hn, hml]) rfl (lv_room hrest) hd hf) hS hL hn kk
theorem z_objInit (X : zOK E cc own nL ret rm) {idx q : Nat} (hd : decode cc pc = .ok (.invokespecial idx, 3)) (w1 : Cond.methodLink own idx Lib.objectInit ∈ zGB) (w2 : Cond.instanceMethod Lib.objectInit ∈ zGB) (w3 : Cond.code Lib.objectInit ⟨#[0xb1]⟩ 1 none ∈ zGB) (hfr : 1 ≤ rm.frames) (hlo : (st.map fun v => v.category).sum + 12 ≤ rm.locals) (kk : zW E cs A m (pc + 3) lv st) : zW E cs A m pc lv (vr q :: st) := by
  obtain ⟨p, l, e, R, s, mm, args, below, meth, c, D, B, Q⟩ := E
  obtain ⟨hx, hb, hml, hown, hts, hK, hB, hr, hlk, hR0⟩ := X
  intro H locs ls hR hS hL hn
  subst hR0
  exact W.objInit hx hb hown (hts _ w1) (hts _ w2) (hts _ w3) rfl (by rw [hL.1, hn]) rfl hd hfr (by show 2 * 0 + _ + 12 ≤ _; omega) (kk H locs ls hR hS hL hn)
theorem z_max (X : zOK E cc own nL ret rm) {idx : Nat} {a b : Int} (hd : decode cc pc = .ok (.invokestatic idx, 3)) (w1 : Cond.methodLink own idx Lib.Math.max.name ∈ zGB) (w2 : Cond.static Lib.Math.max.name ∈ zGB) (w3 : Cond.initialized "java/lang/Math" ∈ zGB) (w4 : Cond.code Lib.Math.max.name Lib.Math.max.code 2 (some .int) ∈ zGB) (hfr : 1 ≤ rm.frames) (hlo : (st.map fun v => v.category).sum + 13 ≤ rm.locals) (hc : cs.1 ≤ rm.cells ∧ cs.2 ≤ rm.slots) (ra : -2147483648 ≤ a ∧ a < 2147483648 := by omega) (rb : -2147483648 ≤ b ∧ b < 2147483648 := by omega) (kk : zW E cs A m (pc + 3) lv (vi (max a b) :: st)) : zW E cs A m pc lv (vi b :: vi a :: st) := by
  obtain ⟨p, l, e, R, s, mm, args, below, meth, c, D, B, Q⟩ := E
  obtain ⟨hx, hb, hml, hown, hts, hK, hB, hr, hlk, hR0⟩ := X
  intro H locs ls hR hS hL hn
  subst hR0
  refine va_mmax hx hb (by rw [hL.1, hn]) hown (hts _ w1) (hts _ w2) (hts _ w3) (hts _ w4) hfr hlo hc.1 hc.2 hd ?_
  have h := kk H locs ls hR hS hL hn
  have e : (if Int32.ofInt a < Int32.ofInt b then Int32.ofInt b else Int32.ofInt a) = Int32.ofInt (max a b) := by
    by_cases hab : a < b
    · rw [if_pos ((zI_lt ra rb).mpr hab), Int.max_eq_right (by omega)]
    · rw [if_neg (fun q => hab ((zI_lt ra rb).mp q)), Int.max_eq_left (by omega)]
  rw [e]
  exact h
theorem z_min (X : zOK E cc own nL ret rm) {idx : Nat} {a b : Int} (hd : decode cc pc = .ok (.invokestatic idx, 3)) (w1 : Cond.methodLink own idx Lib.Math.min.name ∈ zGB) (w2 : Cond.static Lib.Math.min.name ∈ zGB) (w3 : Cond.initialized "java/lang/Math" ∈ zGB) (w4 : Cond.code Lib.Math.min.name Lib.Math.min.code 2 (some .int) ∈ zGB) (hfr : 1 ≤ rm.frames) (hlo : (st.map fun v => v.category).sum + 13 ≤ rm.locals) (hc : cs.1 ≤ rm.cells ∧ cs.2 ≤ rm.slots) (ra : -2147483648 ≤ a ∧ a < 2147483648 := by omega) (rb : -2147483648 ≤ b ∧ b < 2147483648 := by omega) (kk : zW E cs A m (pc + 3) lv (vi (min a b) :: st)) : zW E cs A m pc lv (vi b :: vi a :: st) := by
  obtain ⟨p, l, e, R, s, mm, args, below, meth, c, D, B, Q⟩ := E
  obtain ⟨hx, hb, hml, hown, hts, hK, hB, hr, hlk, hR0⟩ := X
  intro H locs ls hR hS hL hn
  subst hR0
  refine va_mmin hx hb (by rw [hL.1, hn]) hown (hts _ w1) (hts _ w2) (hts _ w3) (hts _ w4) hfr hlo hc.1 hc.2 hd ?_
  have h := kk H locs ls hR hS hL hn
  have e : (if Int32.ofInt b < Int32.ofInt a then Int32.ofInt b else Int32.ofInt a) = Int32.ofInt (min a b) := by
    by_cases hab : b < a
    · rw [if_pos ((zI_lt rb ra).mpr hab), Int.min_eq_right (by omega)]
    · rw [if_neg (fun q => hab ((zI_lt rb ra).mp q)), Int.min_eq_left (by omega)]
  rw [e]
  exact h
theorem z_minl (X : zOK E cc own nL ret rm) {idx : Nat} {a b : Int} (hd : decode cc pc = .ok (.invokestatic idx, 3)) (w1 : Cond.methodLink own idx Lib.MathLoose.min_long.x ∈ zGB) (w2 : Cond.static Lib.MathLoose.min_long.x ∈ zGB) (w3 : Cond.initialized "java/lang/Math" ∈ zGB) (w4 : Cond.code Lib.MathLoose.min_long.x Lib.MathLoose.min_long.code 4 (some .long) ∈ zGB) (hfr : 1 ≤ rm.frames) (hlo : (st.map fun v => v.category).sum + 15 ≤ rm.locals) (hc : cs.1 ≤ rm.cells ∧ cs.2 ≤ rm.slots) (ra : -9223372036854775808 ≤ a ∧ a < 9223372036854775808 := by omega) (rb : -9223372036854775808 ≤ b ∧ b < 9223372036854775808 := by omega) (kk : zW E cs A m (pc + 3) lv (vl (min a b) :: st)) : zW E cs A m pc lv (vl b :: vl a :: st) := by
  obtain ⟨p, l, e, R, s, mm, args, below, meth, c, D, B, Q⟩ := E
  obtain ⟨hx, hb, hml, hown, hts, hK, hB, hr, hlk, hR0⟩ := X
  intro H locs ls hR hS hL hn
  subst hR0
  refine va_mmin_long hx hb (by rw [hL.1, hn]) hown (hts _ w1) (hts _ w2) (hts _ w3) (hts _ w4) hfr hlo hc.1 hc.2 hd ?_
  have h := kk H locs ls hR hS hL hn
  have e : (if Int64.ofInt b < Int64.ofInt a then Int64.ofInt b else Int64.ofInt a) = Int64.ofInt (min a b) := by
    by_cases hab : b < a
    · rw [if_pos ((zL_lt rb ra).mpr hab), Int.min_eq_right (by omega)]
    · rw [if_neg (fun q => hab ((zL_lt rb ra).mp q)), Int.min_eq_left (by omega)]
  rw [e]
  exact h
theorem z_absl (X : zOK E cc own nL ret rm) {idx : Nat} {a : Int} (hd : decode cc pc = .ok (.invokestatic idx, 3)) (w1 : Cond.methodLink own idx Lib.MathLoose.abs_long.x ∈ zGB) (w2 : Cond.static Lib.MathLoose.abs_long.x ∈ zGB) (w3 : Cond.initialized "java/lang/Math" ∈ zGB) (w4 : Cond.code Lib.MathLoose.abs_long.x Lib.MathLoose.abs_long.code 2 (some .long) ∈ zGB) (hfr : 1 ≤ rm.frames) (hlo : (st.map fun v => v.category).sum + 13 ≤ rm.locals) (hc : cs.1 ≤ rm.cells ∧ cs.2 ≤ rm.slots) (ra : -9223372036854775808 < a ∧ a < 9223372036854775808 := by omega) (kk : zW E cs A m (pc + 3) lv (vl (a.natAbs : Int) :: st)) : zW E cs A m pc lv (vl a :: st) := by
  obtain ⟨p, l, e, R, s, mm, args, below, meth, c, D, B, Q⟩ := E
  obtain ⟨hx, hb, hml, hown, hts, hK, hB, hr, hlk, hR0⟩ := X
  intro H locs ls hR hS hL hn
  subst hR0
  refine va_mabs_long hx hb (by rw [hL.1, hn]) hown (hts _ w1) (hts _ w2) (hts _ w3) (hts _ w4) hfr hlo hc.1 hc.2 hd ?_
  have h := kk H locs ls hR hS hL hn
  have e : (if 0 < Int64.ofInt a then Int64.ofInt a else -Int64.ofInt a) = Int64.ofInt (a.natAbs : Int) := by
    by_cases hab : 0 < a
    · rw [if_pos (by rw [show (0 : Int64) = Int64.ofInt 0 from rfl]; exact (zL_lt (by omega) (by omega)).mpr hab)]
      exact congrArg Int64.ofInt (by omega)
    · rw [if_neg (by rw [show (0 : Int64) = Int64.ofInt 0 from rfl]; exact fun q => hab ((zL_lt (by omega) (by omega)).mp q)), ← Int64.ofInt_neg]
      exact congrArg Int64.ofInt (by omega)
  rw [e]
  exact h
end
end
