section
-- ===== PART A: goes FIRST, ahead of the names: the tables' words, and 'selects' of the private methods out of them =====
/-- a private method of a class that the tables say can be made, by its rows of tables_1 -/
def lw_okq (q : MethodName × Nat) : Prop := (q.1.cls ≠ "java/lang/invoke/MethodHandle" ∧ q.1.cls ≠ "java/lang/invoke/VarHandle") ∧ Cond.instantiable q.1.cls q.2 ∈ tables_1 ∧ Cond.privateMethod q.1 ∈ tables_1 ∧ Cond.instanceMethod q.1 ∈ tables_1
theorem lw_p0 : lw_okq (⟨"SkittleRow", "putBytes", "(I)V"⟩, 9) := ⟨⟨by decide +kernel, by decide +kernel⟩, List.mem_of_getElem? (i := 22) (by decide +kernel), List.mem_of_getElem? (i := 326) (by decide +kernel), List.mem_of_getElem? (i := 327) (by decide +kernel)⟩
theorem lw_p1 : lw_okq (⟨"SkittleRow$AlleyReader", "readClause", "(I)V"⟩, 2) := ⟨⟨by decide +kernel, by decide +kernel⟩, List.mem_of_getElem? (i := 363) (by decide +kernel), List.mem_of_getElem? (i := 382) (by decide +kernel), List.mem_of_getElem? (i := 383) (by decide +kernel)⟩
theorem lw_p2 : lw_okq (⟨"SkittleRow$Reader", "isWord", "(Ljava/lang/String;II)Z"⟩, 4) := ⟨⟨by decide +kernel, by decide +kernel⟩, List.mem_of_getElem? (i := 338) (by decide +kernel), List.mem_of_getElem? (i := 443) (by decide +kernel), List.mem_of_getElem? (i := 444) (by decide +kernel)⟩
theorem lw_p3 : lw_okq (⟨"SkittleRow$AlleyReader", "isTooMany", "(II)Z"⟩, 2) := ⟨⟨by decide +kernel, by decide +kernel⟩, List.mem_of_getElem? (i := 363) (by decide +kernel), List.mem_of_getElem? (i := 451) (by decide +kernel), List.mem_of_getElem? (i := 452) (by decide +kernel)⟩
theorem lw_p4 : lw_okq (⟨"SkittleRow$AlleyReader", "readRow", "()V"⟩, 2) := ⟨⟨by decide +kernel, by decide +kernel⟩, List.mem_of_getElem? (i := 363) (by decide +kernel), List.mem_of_getElem? (i := 467) (by decide +kernel), List.mem_of_getElem? (i := 468) (by decide +kernel)⟩
theorem lw_p5 : lw_okq (⟨"SkittleRow$AlleyReader", "readRing", "()V"⟩, 2) := ⟨⟨by decide +kernel, by decide +kernel⟩, List.mem_of_getElem? (i := 363) (by decide +kernel), List.mem_of_getElem? (i := 487) (by decide +kernel), List.mem_of_getElem? (i := 488) (by decide +kernel)⟩
theorem lw_p6 : lw_okq (⟨"SkittleRow$AlleyReader", "readHit", "()V"⟩, 2) := ⟨⟨by decide +kernel, by decide +kernel⟩, List.mem_of_getElem? (i := 363) (by decide +kernel), List.mem_of_getElem? (i := 491) (by decide +kernel), List.mem_of_getElem? (i := 492) (by decide +kernel)⟩
theorem lw_p7 : lw_okq (⟨"SkittleRow$Alley", "listStrokes", "()V"⟩, 17) := ⟨⟨by decide +kernel, by decide +kernel⟩, List.mem_of_getElem? (i := 111) (by decide +kernel), List.mem_of_getElem? (i := 508) (by decide +kernel), List.mem_of_getElem? (i := 509) (by decide +kernel)⟩
theorem lw_p8 : lw_okq (⟨"SkittleRow$Alley", "plainLeavings", "(I)J"⟩, 17) := ⟨⟨by decide +kernel, by decide +kernel⟩, List.mem_of_getElem? (i := 111) (by decide +kernel), List.mem_of_getElem? (i := 565) (by decide +kernel), List.mem_of_getElem? (i := 566) (by decide +kernel)⟩
theorem lw_p9 : lw_okq (⟨"SkittleRow$RuleReader", "readClause", "(ILSkittleRow$Rule;)V"⟩, 4) := ⟨⟨by decide +kernel, by decide +kernel⟩, List.mem_of_getElem? (i := 597) (by decide +kernel), List.mem_of_getElem? (i := 649) (by decide +kernel), List.mem_of_getElem? (i := 650) (by decide +kernel)⟩
theorem lw_p10 : lw_okq (⟨"SkittleRow$RuleReader", "readSum", "()V"⟩, 4) := ⟨⟨by decide +kernel, by decide +kernel⟩, List.mem_of_getElem? (i := 597) (by decide +kernel), List.mem_of_getElem? (i := 657) (by decide +kernel), List.mem_of_getElem? (i := 658) (by decide +kernel)⟩
theorem lw_p11 : lw_okq (⟨"SkittleRow$RuleReader", "readValue", "()V"⟩, 4) := ⟨⟨by decide +kernel, by decide +kernel⟩, List.mem_of_getElem? (i := 597) (by decide +kernel), List.mem_of_getElem? (i := 661) (by decide +kernel), List.mem_of_getElem? (i := 662) (by decide +kernel)⟩
theorem lw_p12 : lw_okq (⟨"SkittleRow$RuleReader", "countPart", "(I)V"⟩, 4) := ⟨⟨by decide +kernel, by decide +kernel⟩, List.mem_of_getElem? (i := 597) (by decide +kernel), List.mem_of_getElem? (i := 672) (by decide +kernel), List.mem_of_getElem? (i := 673) (by decide +kernel)⟩
theorem lw_p13 : lw_okq (⟨"SkittleRow$RuleReader", "put", "(I)V"⟩, 4) := ⟨⟨by decide +kernel, by decide +kernel⟩, List.mem_of_getElem? (i := 597) (by decide +kernel), List.mem_of_getElem? (i := 676) (by decide +kernel), List.mem_of_getElem? (i := 677) (by decide +kernel)⟩
theorem lw_p14 : lw_okq (⟨"SkittleRow$RuleReader", "readTest", "(I)V"⟩, 4) := ⟨⟨by decide +kernel, by decide +kernel⟩, List.mem_of_getElem? (i := 597) (by decide +kernel), List.mem_of_getElem? (i := 690) (by decide +kernel), List.mem_of_getElem? (i := 691) (by decide +kernel)⟩
theorem lw_p15 : lw_okq (⟨"SkittleRow$RuleReader", "readPart", "(I)V"⟩, 4) := ⟨⟨by decide +kernel, by decide +kernel⟩, List.mem_of_getElem? (i := 597) (by decide +kernel), List.mem_of_getElem? (i := 694) (by decide +kernel), List.mem_of_getElem? (i := 695) (by decide +kernel)⟩
def lw_privs_1 : List (MethodName × Nat) := [(⟨"SkittleRow", "putBytes", "(I)V"⟩, 9), (⟨"SkittleRow$AlleyReader", "readClause", "(I)V"⟩, 2), (⟨"SkittleRow$Reader", "isWord", "(Ljava/lang/String;II)Z"⟩, 4), (⟨"SkittleRow$AlleyReader", "isTooMany", "(II)Z"⟩, 2), (⟨"SkittleRow$AlleyReader", "readRow", "()V"⟩, 2), (⟨"SkittleRow$AlleyReader", "readRing", "()V"⟩, 2), (⟨"SkittleRow$AlleyReader", "readHit", "()V"⟩, 2), (⟨"SkittleRow$Alley", "listStrokes", "()V"⟩, 17), (⟨"SkittleRow$Alley", "plainLeavings", "(I)J"⟩, 17), (⟨"SkittleRow$RuleReader", "readClause", "(ILSkittleRow$Rule;)V"⟩, 4), (⟨"SkittleRow$RuleReader", "readSum", "()V"⟩, 4), (⟨"SkittleRow$RuleReader", "readValue", "()V"⟩, 4), (⟨"SkittleRow$RuleReader", "countPart", "(I)V"⟩, 4), (⟨"SkittleRow$RuleReader", "put", "(I)V"⟩, 4), (⟨"SkittleRow$RuleReader", "readTest", "(I)V"⟩, 4), (⟨"SkittleRow$RuleReader", "readPart", "(I)V"⟩, 4)]
theorem lw_r1 : ∀ q ∈ lw_privs_1, lw_okq q := List.forall_mem_cons.mpr ⟨lw_p0, List.forall_mem_cons.mpr ⟨lw_p1, List.forall_mem_cons.mpr ⟨lw_p2, List.forall_mem_cons.mpr ⟨lw_p3, List.forall_mem_cons.mpr ⟨lw_p4, List.forall_mem_cons.mpr ⟨lw_p5, List.forall_mem_cons.mpr ⟨lw_p6, List.forall_mem_cons.mpr ⟨lw_p7, List.forall_mem_cons.mpr ⟨lw_p8, List.forall_mem_cons.mpr ⟨lw_p9, List.forall_mem_cons.mpr ⟨lw_p10, List.forall_mem_cons.mpr ⟨lw_p11, List.forall_mem_cons.mpr ⟨lw_p12, List.forall_mem_cons.mpr ⟨lw_p13, List.forall_mem_cons.mpr ⟨lw_p14, List.forall_mem_cons.mpr ⟨lw_p15, fun _ h => absurd h List.not_mem_nil⟩⟩⟩⟩⟩⟩⟩⟩⟩⟩⟩⟩⟩⟩⟩⟩
theorem lw_p16 : lw_okq (⟨"SkittleRow$RuleReader", "readFact", "(I)V"⟩, 4) := ⟨⟨by decide +kernel, by decide +kernel⟩, List.mem_of_getElem? (i := 597) (by decide +kernel), List.mem_of_getElem? (i := 698) (by decide +kernel), List.mem_of_getElem? (i := 699) (by decide +kernel)⟩
theorem lw_p17 : lw_okq (⟨"SkittleRow$RuleReader", "readComparison", "()V"⟩, 4) := ⟨⟨by decide +kernel, by decide +kernel⟩, List.mem_of_getElem? (i := 597) (by decide +kernel), List.mem_of_getElem? (i := 703) (by decide +kernel), List.mem_of_getElem? (i := 704) (by decide +kernel)⟩
theorem lw_p18 : lw_okq (⟨"SkittleRow$RuleReader", "readSign", "()I"⟩, 4) := ⟨⟨by decide +kernel, by decide +kernel⟩, List.mem_of_getElem? (i := 597) (by decide +kernel), List.mem_of_getElem? (i := 707) (by decide +kernel), List.mem_of_getElem? (i := 708) (by decide +kernel)⟩
theorem lw_p19 : lw_okq (⟨"SkittleRow$Tables", "fillWinning", "()V"⟩, 14) := ⟨⟨by decide +kernel, by decide +kernel⟩, List.mem_of_getElem? (i := 105) (by decide +kernel), List.mem_of_getElem? (i := 757) (by decide +kernel), List.mem_of_getElem? (i := 758) (by decide +kernel)⟩
theorem lw_p20 : lw_okq (⟨"SkittleRow$Alley", "ringLeavings", "(I)J"⟩, 17) := ⟨⟨by decide +kernel, by decide +kernel⟩, List.mem_of_getElem? (i := 111) (by decide +kernel), List.mem_of_getElem? (i := 822) (by decide +kernel), List.mem_of_getElem? (i := 823) (by decide +kernel)⟩
theorem lw_p21 : lw_okq (⟨"SkittleRow$Tables", "fillLengths", "()V"⟩, 14) := ⟨⟨by decide +kernel, by decide +kernel⟩, List.mem_of_getElem? (i := 105) (by decide +kernel), List.mem_of_getElem? (i := 850) (by decide +kernel), List.mem_of_getElem? (i := 851) (by decide +kernel)⟩
theorem lw_p22 : lw_okq (⟨"SkittleRow$Tables", "fillPlayCounts", "()V"⟩, 14) := ⟨⟨by decide +kernel, by decide +kernel⟩, List.mem_of_getElem? (i := 105) (by decide +kernel), List.mem_of_getElem? (i := 865) (by decide +kernel), List.mem_of_getElem? (i := 866) (by decide +kernel)⟩
theorem lw_p23 : lw_okq (⟨"SkittleRow", "fairSet", "()I"⟩, 9) := ⟨⟨by decide +kernel, by decide +kernel⟩, List.mem_of_getElem? (i := 22) (by decide +kernel), List.mem_of_getElem? (i := 874) (by decide +kernel), List.mem_of_getElem? (i := 875) (by decide +kernel)⟩
theorem lw_p24 : lw_okq (⟨"SkittleRow$Tables", "fillChances", "()V"⟩, 14) := ⟨⟨by decide +kernel, by decide +kernel⟩, List.mem_of_getElem? (i := 105) (by decide +kernel), List.mem_of_getElem? (i := 886) (by decide +kernel), List.mem_of_getElem? (i := 887) (by decide +kernel)⟩
theorem lw_p25 : lw_okq (⟨"SkittleRow$Tables", "fillClever", "()V"⟩, 14) := ⟨⟨by decide +kernel, by decide +kernel⟩, List.mem_of_getElem? (i := 105) (by decide +kernel), List.mem_of_getElem? (i := 898) (by decide +kernel), List.mem_of_getElem? (i := 899) (by decide +kernel)⟩
theorem lw_p26 : lw_okq (⟨"SkittleRow", "isRule", "(I)Z"⟩, 9) := ⟨⟨by decide +kernel, by decide +kernel⟩, List.mem_of_getElem? (i := 22) (by decide +kernel), List.mem_of_getElem? (i := 906) (by decide +kernel), List.mem_of_getElem? (i := 907) (by decide +kernel)⟩
theorem lw_p27 : lw_okq (⟨"SkittleRow$Bout", "playOut", "(LSkittleRow$Rule;LSkittleRow$Rule;)V"⟩, 9) := ⟨⟨by decide +kernel, by decide +kernel⟩, List.mem_of_getElem? (i := 243) (by decide +kernel), List.mem_of_getElem? (i := 914) (by decide +kernel), List.mem_of_getElem? (i := 915) (by decide +kernel)⟩
theorem lw_p28 : lw_okq (⟨"SkittleRow$Bout", "drawn", "()LSkittleRow$Stroke;"⟩, 9) := ⟨⟨by decide +kernel, by decide +kernel⟩, List.mem_of_getElem? (i := 243) (by decide +kernel), List.mem_of_getElem? (i := 918) (by decide +kernel), List.mem_of_getElem? (i := 919) (by decide +kernel)⟩
theorem lw_p29 : lw_okq (⟨"SkittleRow$Bout", "bestBy", "(LSkittleRow$Rule;)LSkittleRow$Stroke;"⟩, 9) := ⟨⟨by decide +kernel, by decide +kernel⟩, List.mem_of_getElem? (i := 243) (by decide +kernel), List.mem_of_getElem? (i := 927) (by decide +kernel), List.mem_of_getElem? (i := 928) (by decide +kernel)⟩
theorem lw_p30 : lw_okq (⟨"SkittleRow$Look", "countRuns", "(LSkittleRow$Alley;I)V"⟩, 1) := ⟨⟨by decide +kernel, by decide +kernel⟩, List.mem_of_getElem? (i := 249) (by decide +kernel), List.mem_of_getElem? (i := 937) (by decide +kernel), List.mem_of_getElem? (i := 938) (by decide +kernel)⟩
theorem lw_p31 : lw_okq (⟨"SkittleRow$Rule", "reckon", "(IILSkittleRow$Look;)J"⟩, 7) := ⟨⟨by decide +kernel, by decide +kernel⟩, List.mem_of_getElem? (i := 620) (by decide +kernel), List.mem_of_getElem? (i := 947) (by decide +kernel), List.mem_of_getElem? (i := 948) (by decide +kernel)⟩
def lw_privs_2 : List (MethodName × Nat) := [(⟨"SkittleRow$RuleReader", "readFact", "(I)V"⟩, 4), (⟨"SkittleRow$RuleReader", "readComparison", "()V"⟩, 4), (⟨"SkittleRow$RuleReader", "readSign", "()I"⟩, 4), (⟨"SkittleRow$Tables", "fillWinning", "()V"⟩, 14), (⟨"SkittleRow$Alley", "ringLeavings", "(I)J"⟩, 17), (⟨"SkittleRow$Tables", "fillLengths", "()V"⟩, 14), (⟨"SkittleRow$Tables", "fillPlayCounts", "()V"⟩, 14), (⟨"SkittleRow", "fairSet", "()I"⟩, 9), (⟨"SkittleRow$Tables", "fillChances", "()V"⟩, 14), (⟨"SkittleRow$Tables", "fillClever", "()V"⟩, 14), (⟨"SkittleRow", "isRule", "(I)Z"⟩, 9), (⟨"SkittleRow$Bout", "playOut", "(LSkittleRow$Rule;LSkittleRow$Rule;)V"⟩, 9), (⟨"SkittleRow$Bout", "drawn", "()LSkittleRow$Stroke;"⟩, 9), (⟨"SkittleRow$Bout", "bestBy", "(LSkittleRow$Rule;)LSkittleRow$Stroke;"⟩, 9), (⟨"SkittleRow$Look", "countRuns", "(LSkittleRow$Alley;I)V"⟩, 1), (⟨"SkittleRow$Rule", "reckon", "(IILSkittleRow$Look;)J"⟩, 7)]
theorem lw_r2 : ∀ q ∈ lw_privs_2, lw_okq q := List.forall_mem_cons.mpr ⟨lw_p16, List.forall_mem_cons.mpr ⟨lw_p17, List.forall_mem_cons.mpr ⟨lw_p18, List.forall_mem_cons.mpr ⟨lw_p19, List.forall_mem_cons.mpr ⟨lw_p20, List.forall_mem_cons.mpr ⟨lw_p21, List.forall_mem_cons.mpr ⟨lw_p22, List.forall_mem_cons.mpr ⟨lw_p23, List.forall_mem_cons.mpr ⟨lw_p24, List.forall_mem_cons.mpr ⟨lw_p25, List.forall_mem_cons.mpr ⟨lw_p26, List.forall_mem_cons.mpr ⟨lw_p27, List.forall_mem_cons.mpr ⟨lw_p28, List.forall_mem_cons.mpr ⟨lw_p29, List.forall_mem_cons.mpr ⟨lw_p30, List.forall_mem_cons.mpr ⟨lw_p31, fun _ h => absurd h List.not_mem_nil⟩⟩⟩⟩⟩⟩⟩⟩⟩⟩⟩⟩⟩⟩⟩⟩
theorem lw_p32 : lw_okq (⟨"SkittleRowModel", "four", "(I)V"⟩, 40) := ⟨⟨by decide +kernel, by decide +kernel⟩, List.mem_of_getElem? (i := 1020) (by decide +kernel), List.mem_of_getElem? (i := 1151) (by decide +kernel), List.mem_of_getElem? (i := 1152) (by decide +kernel)⟩
theorem lw_p33 : lw_okq (⟨"SkittleRowModel", "readsAll", "()Z"⟩, 40) := ⟨⟨by decide +kernel, by decide +kernel⟩, List.mem_of_getElem? (i := 1020) (by decide +kernel), List.mem_of_getElem? (i := 1163) (by decide +kernel), List.mem_of_getElem? (i := 1164) (by decide +kernel)⟩
theorem lw_p34 : lw_okq (⟨"SkittleRowModel", "clauseHere", "()Z"⟩, 40) := ⟨⟨by decide +kernel, by decide +kernel⟩, List.mem_of_getElem? (i := 1020) (by decide +kernel), List.mem_of_getElem? (i := 1167) (by decide +kernel), List.mem_of_getElem? (i := 1168) (by decide +kernel)⟩
theorem lw_p35 : lw_okq (⟨"SkittleRowModel", "see", "()I"⟩, 40) := ⟨⟨by decide +kernel, by decide +kernel⟩, List.mem_of_getElem? (i := 1020) (by decide +kernel), List.mem_of_getElem? (i := 1171) (by decide +kernel), List.mem_of_getElem? (i := 1172) (by decide +kernel)⟩
theorem lw_p36 : lw_okq (⟨"SkittleRowModel", "isAlleyWord", "()Z"⟩, 40) := ⟨⟨by decide +kernel, by decide +kernel⟩, List.mem_of_getElem? (i := 1020) (by decide +kernel), List.mem_of_getElem? (i := 1175) (by decide +kernel), List.mem_of_getElem? (i := 1176) (by decide +kernel)⟩
theorem lw_p37 : lw_okq (⟨"SkittleRowModel", "isWord", "(J)Z"⟩, 40) := ⟨⟨by decide +kernel, by decide +kernel⟩, List.mem_of_getElem? (i := 1020) (by decide +kernel), List.mem_of_getElem? (i := 1180) (by decide +kernel), List.mem_of_getElem? (i := 1181) (by decide +kernel)⟩
theorem lw_p38 : lw_okq (⟨"SkittleRowModel", "isLetter", "(I)Z"⟩, 40) := ⟨⟨by decide +kernel, by decide +kernel⟩, List.mem_of_getElem? (i := 1020) (by decide +kernel), List.mem_of_getElem? (i := 1184) (by decide +kernel), List.mem_of_getElem? (i := 1185) (by decide +kernel)⟩
theorem lw_p39 : lw_okq (⟨"SkittleRowModel", "fails", "(II)Z"⟩, 40) := ⟨⟨by decide +kernel, by decide +kernel⟩, List.mem_of_getElem? (i := 1020) (by decide +kernel), List.mem_of_getElem? (i := 1195) (by decide +kernel), List.mem_of_getElem? (i := 1196) (by decide +kernel)⟩
theorem lw_p40 : lw_okq (⟨"SkittleRowModel", "alleyLineHere", "(I)Z"⟩, 40) := ⟨⟨by decide +kernel, by decide +kernel⟩, List.mem_of_getElem? (i := 1020) (by decide +kernel), List.mem_of_getElem? (i := 1199) (by decide +kernel), List.mem_of_getElem? (i := 1200) (by decide +kernel)⟩
theorem lw_p41 : lw_okq (⟨"SkittleRowModel", "isAlleyHere", "(I)Z"⟩, 40) := ⟨⟨by decide +kernel, by decide +kernel⟩, List.mem_of_getElem? (i := 1020) (by decide +kernel), List.mem_of_getElem? (i := 1203) (by decide +kernel), List.mem_of_getElem? (i := 1204) (by decide +kernel)⟩
theorem lw_p42 : lw_okq (⟨"SkittleRowModel", "passWord", "()V"⟩, 40) := ⟨⟨by decide +kernel, by decide +kernel⟩, List.mem_of_getElem? (i := 1020) (by decide +kernel), List.mem_of_getElem? (i := 1207) (by decide +kernel), List.mem_of_getElem? (i := 1208) (by decide +kernel)⟩
theorem lw_p43 : lw_okq (⟨"SkittleRowModel", "numberHere", "(II)Z"⟩, 40) := ⟨⟨by decide +kernel, by decide +kernel⟩, List.mem_of_getElem? (i := 1020) (by decide +kernel), List.mem_of_getElem? (i := 1211) (by decide +kernel), List.mem_of_getElem? (i := 1212) (by decide +kernel)⟩
theorem lw_p44 : lw_okq (⟨"SkittleRowModel", "isDigit", "(I)Z"⟩, 40) := ⟨⟨by decide +kernel, by decide +kernel⟩, List.mem_of_getElem? (i := 1020) (by decide +kernel), List.mem_of_getElem? (i := 1215) (by decide +kernel), List.mem_of_getElem? (i := 1216) (by decide +kernel)⟩
theorem lw_p45 : lw_okq (⟨"SkittleRowModel", "isRowHere", "(I)Z"⟩, 40) := ⟨⟨by decide +kernel, by decide +kernel⟩, List.mem_of_getElem? (i := 1020) (by decide +kernel), List.mem_of_getElem? (i := 1222) (by decide +kernel), List.mem_of_getElem? (i := 1223) (by decide +kernel)⟩
theorem lw_p46 : lw_okq (⟨"SkittleRowModel", "isPlaceHere", "()Z"⟩, 40) := ⟨⟨by decide +kernel, by decide +kernel⟩, List.mem_of_getElem? (i := 1020) (by decide +kernel), List.mem_of_getElem? (i := 1226) (by decide +kernel), List.mem_of_getElem? (i := 1227) (by decide +kernel)⟩
theorem lw_p47 : lw_okq (⟨"SkittleRowModel", "isRingHere", "()Z"⟩, 40) := ⟨⟨by decide +kernel, by decide +kernel⟩, List.mem_of_getElem? (i := 1020) (by decide +kernel), List.mem_of_getElem? (i := 1230) (by decide +kernel), List.mem_of_getElem? (i := 1231) (by decide +kernel)⟩
def lw_privs_3 : List (MethodName × Nat) := [(⟨"SkittleRowModel", "four", "(I)V"⟩, 40), (⟨"SkittleRowModel", "readsAll", "()Z"⟩, 40), (⟨"SkittleRowModel", "clauseHere", "()Z"⟩, 40), (⟨"SkittleRowModel", "see", "()I"⟩, 40), (⟨"SkittleRowModel", "isAlleyWord", "()Z"⟩, 40), (⟨"SkittleRowModel", "isWord", "(J)Z"⟩, 40), (⟨"SkittleRowModel", "isLetter", "(I)Z"⟩, 40), (⟨"SkittleRowModel", "fails", "(II)Z"⟩, 40), (⟨"SkittleRowModel", "alleyLineHere", "(I)Z"⟩, 40), (⟨"SkittleRowModel", "isAlleyHere", "(I)Z"⟩, 40), (⟨"SkittleRowModel", "passWord", "()V"⟩, 40), (⟨"SkittleRowModel", "numberHere", "(II)Z"⟩, 40), (⟨"SkittleRowModel", "isDigit", "(I)Z"⟩, 40), (⟨"SkittleRowModel", "isRowHere", "(I)Z"⟩, 40), (⟨"SkittleRowModel", "isPlaceHere", "()Z"⟩, 40), (⟨"SkittleRowModel", "isRingHere", "()Z"⟩, 40)]
theorem lw_r3 : ∀ q ∈ lw_privs_3, lw_okq q := List.forall_mem_cons.mpr ⟨lw_p32, List.forall_mem_cons.mpr ⟨lw_p33, List.forall_mem_cons.mpr ⟨lw_p34, List.forall_mem_cons.mpr ⟨lw_p35, List.forall_mem_cons.mpr ⟨lw_p36, List.forall_mem_cons.mpr ⟨lw_p37, List.forall_mem_cons.mpr ⟨lw_p38, List.forall_mem_cons.mpr ⟨lw_p39, List.forall_mem_cons.mpr ⟨lw_p40, List.forall_mem_cons.mpr ⟨lw_p41, List.forall_mem_cons.mpr ⟨lw_p42, List.forall_mem_cons.mpr ⟨lw_p43, List.forall_mem_cons.mpr ⟨lw_p44, List.forall_mem_cons.mpr ⟨lw_p45, List.forall_mem_cons.mpr ⟨lw_p46, List.forall_mem_cons.mpr ⟨lw_p47, fun _ h => absurd h List.not_mem_nil⟩⟩⟩⟩⟩⟩⟩⟩⟩⟩⟩⟩⟩⟩⟩⟩
theorem lw_p48 : lw_okq (⟨"SkittleRowModel", "isHitHere", "()Z"⟩, 40) := ⟨⟨by decide +kernel, by decide +kernel⟩, List.mem_of_getElem? (i := 1020) (by decide +kernel), List.mem_of_getElem? (i := 1234) (by decide +kernel), List.mem_of_getElem? (i := 1235) (by decide +kernel)⟩
theorem lw_p49 : lw_okq (⟨"SkittleRowModel", "isOnceHere", "(II)Z"⟩, 40) := ⟨⟨by decide +kernel, by decide +kernel⟩, List.mem_of_getElem? (i := 1020) (by decide +kernel), List.mem_of_getElem? (i := 1238) (by decide +kernel), List.mem_of_getElem? (i := 1239) (by decide +kernel)⟩
theorem lw_p50 : lw_okq (⟨"SkittleRowModel", "isStrayHere", "()Z"⟩, 40) := ⟨⟨by decide +kernel, by decide +kernel⟩, List.mem_of_getElem? (i := 1020) (by decide +kernel), List.mem_of_getElem? (i := 1242) (by decide +kernel), List.mem_of_getElem? (i := 1243) (by decide +kernel)⟩
theorem lw_p51 : lw_okq (⟨"SkittleRowModel", "isStrokeHere", "()Z"⟩, 40) := ⟨⟨by decide +kernel, by decide +kernel⟩, List.mem_of_getElem? (i := 1020) (by decide +kernel), List.mem_of_getElem? (i := 1246) (by decide +kernel), List.mem_of_getElem? (i := 1247) (by decide +kernel)⟩
theorem lw_p52 : lw_okq (⟨"SkittleRowModel", "sum", "()Z"⟩, 40) := ⟨⟨by decide +kernel, by decide +kernel⟩, List.mem_of_getElem? (i := 1020) (by decide +kernel), List.mem_of_getElem? (i := 1250) (by decide +kernel), List.mem_of_getElem? (i := 1251) (by decide +kernel)⟩
theorem lw_p53 : lw_okq (⟨"SkittleRowModel", "term", "()Z"⟩, 40) := ⟨⟨by decide +kernel, by decide +kernel⟩, List.mem_of_getElem? (i := 1020) (by decide +kernel), List.mem_of_getElem? (i := 1254) (by decide +kernel), List.mem_of_getElem? (i := 1255) (by decide +kernel)⟩
theorem lw_p54 : lw_okq (⟨"SkittleRowModel", "value", "()Z"⟩, 40) := ⟨⟨by decide +kernel, by decide +kernel⟩, List.mem_of_getElem? (i := 1020) (by decide +kernel), List.mem_of_getElem? (i := 1258) (by decide +kernel), List.mem_of_getElem? (i := 1259) (by decide +kernel)⟩
theorem lw_p55 : lw_okq (⟨"SkittleRowModel", "makes", "(I)Z"⟩, 40) := ⟨⟨by decide +kernel, by decide +kernel⟩, List.mem_of_getElem? (i := 1020) (by decide +kernel), List.mem_of_getElem? (i := 1263) (by decide +kernel), List.mem_of_getElem? (i := 1264) (by decide +kernel)⟩
theorem lw_p56 : lw_okq (⟨"SkittleRowModel", "puts", "(II)V"⟩, 40) := ⟨⟨by decide +kernel, by decide +kernel⟩, List.mem_of_getElem? (i := 1020) (by decide +kernel), List.mem_of_getElem? (i := 1267) (by decide +kernel), List.mem_of_getElem? (i := 1268) (by decide +kernel)⟩
theorem lw_p57 : lw_okq (⟨"SkittleRowModel", "wordHere", "()I"⟩, 40) := ⟨⟨by decide +kernel, by decide +kernel⟩, List.mem_of_getElem? (i := 1020) (by decide +kernel), List.mem_of_getElem? (i := 1271) (by decide +kernel), List.mem_of_getElem? (i := 1272) (by decide +kernel)⟩
theorem lw_p58 : lw_okq (⟨"SkittleRowModel", "takesWord", "(J)Z"⟩, 40) := ⟨⟨by decide +kernel, by decide +kernel⟩, List.mem_of_getElem? (i := 1020) (by decide +kernel), List.mem_of_getElem? (i := 1286) (by decide +kernel), List.mem_of_getElem? (i := 1287) (by decide +kernel)⟩
theorem lw_p59 : lw_okq (⟨"SkittleRowModel", "tested", "()Z"⟩, 40) := ⟨⟨by decide +kernel, by decide +kernel⟩, List.mem_of_getElem? (i := 1020) (by decide +kernel), List.mem_of_getElem? (i := 1290) (by decide +kernel), List.mem_of_getElem? (i := 1291) (by decide +kernel)⟩
theorem lw_p60 : lw_okq (⟨"SkittleRowModel", "fact", "()Z"⟩, 40) := ⟨⟨by decide +kernel, by decide +kernel⟩, List.mem_of_getElem? (i := 1020) (by decide +kernel), List.mem_of_getElem? (i := 1294) (by decide +kernel), List.mem_of_getElem? (i := 1295) (by decide +kernel)⟩
theorem lw_p61 : lw_okq (⟨"SkittleRowModel", "opens", "(I)Z"⟩, 40) := ⟨⟨by decide +kernel, by decide +kernel⟩, List.mem_of_getElem? (i := 1020) (by decide +kernel), List.mem_of_getElem? (i := 1299) (by decide +kernel), List.mem_of_getElem? (i := 1300) (by decide +kernel)⟩
theorem lw_p62 : lw_okq (⟨"SkittleRowModel", "compare", "()Z"⟩, 40) := ⟨⟨by decide +kernel, by decide +kernel⟩, List.mem_of_getElem? (i := 1020) (by decide +kernel), List.mem_of_getElem? (i := 1303) (by decide +kernel), List.mem_of_getElem? (i := 1304) (by decide +kernel)⟩
theorem lw_p63 : lw_okq (⟨"SkittleRowModel", "closes", "()V"⟩, 40) := ⟨⟨by decide +kernel, by decide +kernel⟩, List.mem_of_getElem? (i := 1020) (by decide +kernel), List.mem_of_getElem? (i := 1307) (by decide +kernel), List.mem_of_getElem? (i := 1308) (by decide +kernel)⟩
def lw_privs_4 : List (MethodName × Nat) := [(⟨"SkittleRowModel", "isHitHere", "()Z"⟩, 40), (⟨"SkittleRowModel", "isOnceHere", "(II)Z"⟩, 40), (⟨"SkittleRowModel", "isStrayHere", "()Z"⟩, 40), (⟨"SkittleRowModel", "isStrokeHere", "()Z"⟩, 40), (⟨"SkittleRowModel", "sum", "()Z"⟩, 40), (⟨"SkittleRowModel", "term", "()Z"⟩, 40), (⟨"SkittleRowModel", "value", "()Z"⟩, 40), (⟨"SkittleRowModel", "makes", "(I)Z"⟩, 40), (⟨"SkittleRowModel", "puts", "(II)V"⟩, 40), (⟨"SkittleRowModel", "wordHere", "()I"⟩, 40), (⟨"SkittleRowModel", "takesWord", "(J)Z"⟩, 40), (⟨"SkittleRowModel", "tested", "()Z"⟩, 40), (⟨"SkittleRowModel", "fact", "()Z"⟩, 40), (⟨"SkittleRowModel", "opens", "(I)Z"⟩, 40), (⟨"SkittleRowModel", "compare", "()Z"⟩, 40), (⟨"SkittleRowModel", "closes", "()V"⟩, 40)]
theorem lw_r4 : ∀ q ∈ lw_privs_4, lw_okq q := List.forall_mem_cons.mpr ⟨lw_p48, List.forall_mem_cons.mpr ⟨lw_p49, List.forall_mem_cons.mpr ⟨lw_p50, List.forall_mem_cons.mpr ⟨lw_p51, List.forall_mem_cons.mpr ⟨lw_p52, List.forall_mem_cons.mpr ⟨lw_p53, List.forall_mem_cons.mpr ⟨lw_p54, List.forall_mem_cons.mpr ⟨lw_p55, List.forall_mem_cons.mpr ⟨lw_p56, List.forall_mem_cons.mpr ⟨lw_p57, List.forall_mem_cons.mpr ⟨lw_p58, List.forall_mem_cons.mpr ⟨lw_p59, List.forall_mem_cons.mpr ⟨lw_p60, List.forall_mem_cons.mpr ⟨lw_p61, List.forall_mem_cons.mpr ⟨lw_p62, List.forall_mem_cons.mpr ⟨lw_p63, fun _ h => absurd h List.not_mem_nil⟩⟩⟩⟩⟩⟩⟩⟩⟩⟩⟩⟩⟩⟩⟩⟩
theorem lw_p64 : lw_okq (⟨"SkittleRowModel", "settles", "(I)V"⟩, 40) := ⟨⟨by decide +kernel, by decide +kernel⟩, List.mem_of_getElem? (i := 1020) (by decide +kernel), List.mem_of_getElem? (i := 1311) (by decide +kernel), List.mem_of_getElem? (i := 1312) (by decide +kernel)⟩
theorem lw_p65 : lw_okq (⟨"SkittleRowModel", "isInside", "()Z"⟩, 40) := ⟨⟨by decide +kernel, by decide +kernel⟩, List.mem_of_getElem? (i := 1020) (by decide +kernel), List.mem_of_getElem? (i := 1318) (by decide +kernel), List.mem_of_getElem? (i := 1319) (by decide +kernel)⟩
theorem lw_p66 : lw_okq (⟨"SkittleRowModel", "isPlace", "(I)Z"⟩, 40) := ⟨⟨by decide +kernel, by decide +kernel⟩, List.mem_of_getElem? (i := 1020) (by decide +kernel), List.mem_of_getElem? (i := 1332) (by decide +kernel), List.mem_of_getElem? (i := 1333) (by decide +kernel)⟩
theorem lw_p67 : lw_okq (⟨"SkittleRowModel", "rowOf", "(I)I"⟩, 40) := ⟨⟨by decide +kernel, by decide +kernel⟩, List.mem_of_getElem? (i := 1020) (by decide +kernel), List.mem_of_getElem? (i := 1337) (by decide +kernel), List.mem_of_getElem? (i := 1338) (by decide +kernel)⟩
theorem lw_p68 : lw_okq (⟨"SkittleRowModel", "beside", "(II)I"⟩, 40) := ⟨⟨by decide +kernel, by decide +kernel⟩, List.mem_of_getElem? (i := 1020) (by decide +kernel), List.mem_of_getElem? (i := 1341) (by decide +kernel), List.mem_of_getElem? (i := 1342) (by decide +kernel)⟩
theorem lw_p69 : lw_okq (⟨"SkittleRowModel", "isAlley", "()Z"⟩, 40) := ⟨⟨by decide +kernel, by decide +kernel⟩, List.mem_of_getElem? (i := 1020) (by decide +kernel), List.mem_of_getElem? (i := 1349) (by decide +kernel), List.mem_of_getElem? (i := 1350) (by decide +kernel)⟩
theorem lw_p70 : lw_okq (⟨"SkittleRowModel", "canBeNow", "(III)Z"⟩, 40) := ⟨⟨by decide +kernel, by decide +kernel⟩, List.mem_of_getElem? (i := 1020) (by decide +kernel), List.mem_of_getElem? (i := 1354) (by decide +kernel), List.mem_of_getElem? (i := 1355) (by decide +kernel)⟩
theorem lw_p71 : lw_okq (⟨"SkittleRowModel", "canBe", "(IIIIZ)Z"⟩, 40) := ⟨⟨by decide +kernel, by decide +kernel⟩, List.mem_of_getElem? (i := 1020) (by decide +kernel), List.mem_of_getElem? (i := 1358) (by decide +kernel), List.mem_of_getElem? (i := 1359) (by decide +kernel)⟩
theorem lw_p72 : lw_okq (⟨"SkittleRowModel", "strokeBits", "(II)I"⟩, 40) := ⟨⟨by decide +kernel, by decide +kernel⟩, List.mem_of_getElem? (i := 1020) (by decide +kernel), List.mem_of_getElem? (i := 1365) (by decide +kernel), List.mem_of_getElem? (i := 1366) (by decide +kernel)⟩
theorem lw_p73 : lw_okq (⟨"SkittleRowModel", "lastOf", "(II)I"⟩, 40) := ⟨⟨by decide +kernel, by decide +kernel⟩, List.mem_of_getElem? (i := 1020) (by decide +kernel), List.mem_of_getElem? (i := 1369) (by decide +kernel), List.mem_of_getElem? (i := 1370) (by decide +kernel)⟩
theorem lw_p74 : lw_okq (⟨"SkittleRowModel", "winsBy", "(III)Z"⟩, 40) := ⟨⟨by decide +kernel, by decide +kernel⟩, List.mem_of_getElem? (i := 1020) (by decide +kernel), List.mem_of_getElem? (i := 1373) (by decide +kernel), List.mem_of_getElem? (i := 1374) (by decide +kernel)⟩
theorem lw_p75 : lw_okq (⟨"SkittleRowModel", "isWonAt", "(I)Z"⟩, 40) := ⟨⟨by decide +kernel, by decide +kernel⟩, List.mem_of_getElem? (i := 1020) (by decide +kernel), List.mem_of_getElem? (i := 1377) (by decide +kernel), List.mem_of_getElem? (i := 1378) (by decide +kernel)⟩
theorem lw_p76 : lw_okq (⟨"SkittleRowModel", "fillsNow", "()V"⟩, 40) := ⟨⟨by decide +kernel, by decide +kernel⟩, List.mem_of_getElem? (i := 1020) (by decide +kernel), List.mem_of_getElem? (i := 1381) (by decide +kernel), List.mem_of_getElem? (i := 1382) (by decide +kernel)⟩
theorem lw_p77 : lw_okq (⟨"SkittleRowModel", "fillsWon", "(III)V"⟩, 40) := ⟨⟨by decide +kernel, by decide +kernel⟩, List.mem_of_getElem? (i := 1020) (by decide +kernel), List.mem_of_getElem? (i := 1385) (by decide +kernel), List.mem_of_getElem? (i := 1386) (by decide +kernel)⟩
theorem lw_p78 : lw_okq (⟨"SkittleRowModel", "keepsAct", "()V"⟩, 40) := ⟨⟨by decide +kernel, by decide +kernel⟩, List.mem_of_getElem? (i := 1020) (by decide +kernel), List.mem_of_getElem? (i := 1397) (by decide +kernel), List.mem_of_getElem? (i := 1398) (by decide +kernel)⟩
theorem lw_p79 : lw_okq (⟨"SkittleRowModel", "notes", "(II)V"⟩, 40) := ⟨⟨by decide +kernel, by decide +kernel⟩, List.mem_of_getElem? (i := 1020) (by decide +kernel), List.mem_of_getElem? (i := 1401) (by decide +kernel), List.mem_of_getElem? (i := 1402) (by decide +kernel)⟩
def lw_privs_5 : List (MethodName × Nat) := [(⟨"SkittleRowModel", "settles", "(I)V"⟩, 40), (⟨"SkittleRowModel", "isInside", "()Z"⟩, 40), (⟨"SkittleRowModel", "isPlace", "(I)Z"⟩, 40), (⟨"SkittleRowModel", "rowOf", "(I)I"⟩, 40), (⟨"SkittleRowModel", "beside", "(II)I"⟩, 40), (⟨"SkittleRowModel", "isAlley", "()Z"⟩, 40), (⟨"SkittleRowModel", "canBeNow", "(III)Z"⟩, 40), (⟨"SkittleRowModel", "canBe", "(IIIIZ)Z"⟩, 40), (⟨"SkittleRowModel", "strokeBits", "(II)I"⟩, 40), (⟨"SkittleRowModel", "lastOf", "(II)I"⟩, 40), (⟨"SkittleRowModel", "winsBy", "(III)Z"⟩, 40), (⟨"SkittleRowModel", "isWonAt", "(I)Z"⟩, 40), (⟨"SkittleRowModel", "fillsNow", "()V"⟩, 40), (⟨"SkittleRowModel", "fillsWon", "(III)V"⟩, 40), (⟨"SkittleRowModel", "keepsAct", "()V"⟩, 40), (⟨"SkittleRowModel", "notes", "(II)V"⟩, 40)]
theorem lw_r5 : ∀ q ∈ lw_privs_5, lw_okq q := List.forall_mem_cons.mpr ⟨lw_p64, List.forall_mem_cons.mpr ⟨lw_p65, List.forall_mem_cons.mpr ⟨lw_p66, List.forall_mem_cons.mpr ⟨lw_p67, List.forall_mem_cons.mpr ⟨lw_p68, List.forall_mem_cons.mpr ⟨lw_p69, List.forall_mem_cons.mpr ⟨lw_p70, List.forall_mem_cons.mpr ⟨lw_p71, List.forall_mem_cons.mpr ⟨lw_p72, List.forall_mem_cons.mpr ⟨lw_p73, List.forall_mem_cons.mpr ⟨lw_p74, List.forall_mem_cons.mpr ⟨lw_p75, List.forall_mem_cons.mpr ⟨lw_p76, List.forall_mem_cons.mpr ⟨lw_p77, List.forall_mem_cons.mpr ⟨lw_p78, List.forall_mem_cons.mpr ⟨lw_p79, fun _ h => absurd h List.not_mem_nil⟩⟩⟩⟩⟩⟩⟩⟩⟩⟩⟩⟩⟩⟩⟩⟩
theorem lw_p80 : lw_okq (⟨"SkittleRowModel", "clearsSeen", "()V"⟩, 40) := ⟨⟨by decide +kernel, by decide +kernel⟩, List.mem_of_getElem? (i := 1020) (by decide +kernel), List.mem_of_getElem? (i := 1429) (by decide +kernel), List.mem_of_getElem? (i := 1430) (by decide +kernel)⟩
theorem lw_p81 : lw_okq (⟨"SkittleRowModel", "leastUnseen", "()I"⟩, 40) := ⟨⟨by decide +kernel, by decide +kernel⟩, List.mem_of_getElem? (i := 1020) (by decide +kernel), List.mem_of_getElem? (i := 1433) (by decide +kernel), List.mem_of_getElem? (i := 1434) (by decide +kernel)⟩
theorem lw_p82 : lw_okq (⟨"SkittleRowModel", "fillsPlains", "()V"⟩, 40) := ⟨⟨by decide +kernel, by decide +kernel⟩, List.mem_of_getElem? (i := 1020) (by decide +kernel), List.mem_of_getElem? (i := 1442) (by decide +kernel), List.mem_of_getElem? (i := 1443) (by decide +kernel)⟩
theorem lw_p83 : lw_okq (⟨"SkittleRowModel", "comesAgain", "(II)Z"⟩, 40) := ⟨⟨by decide +kernel, by decide +kernel⟩, List.mem_of_getElem? (i := 1020) (by decide +kernel), List.mem_of_getElem? (i := 1450) (by decide +kernel), List.mem_of_getElem? (i := 1451) (by decide +kernel)⟩
theorem lw_p84 : lw_okq (⟨"SkittleRowModel", "lastsAt", "(I)I"⟩, 40) := ⟨⟨by decide +kernel, by decide +kernel⟩, List.mem_of_getElem? (i := 1020) (by decide +kernel), List.mem_of_getElem? (i := 1458) (by decide +kernel), List.mem_of_getElem? (i := 1459) (by decide +kernel)⟩
theorem lw_p85 : lw_okq (⟨"SkittleRowModel", "playsAt", "(I)I"⟩, 40) := ⟨⟨by decide +kernel, by decide +kernel⟩, List.mem_of_getElem? (i := 1020) (by decide +kernel), List.mem_of_getElem? (i := 1466) (by decide +kernel), List.mem_of_getElem? (i := 1467) (by decide +kernel)⟩
theorem lw_p86 : lw_okq (⟨"SkittleRowModel", "chanceAt", "(I)I"⟩, 40) := ⟨⟨by decide +kernel, by decide +kernel⟩, List.mem_of_getElem? (i := 1020) (by decide +kernel), List.mem_of_getElem? (i := 1479) (by decide +kernel), List.mem_of_getElem? (i := 1480) (by decide +kernel)⟩
theorem lw_p87 : lw_okq (⟨"SkittleRowModel", "strayed", "(III)I"⟩, 40) := ⟨⟨by decide +kernel, by decide +kernel⟩, List.mem_of_getElem? (i := 1020) (by decide +kernel), List.mem_of_getElem? (i := 1483) (by decide +kernel), List.mem_of_getElem? (i := 1484) (by decide +kernel)⟩
theorem lw_p88 : lw_okq (⟨"SkittleRowModel", "bestAt", "(I)I"⟩, 40) := ⟨⟨by decide +kernel, by decide +kernel⟩, List.mem_of_getElem? (i := 1020) (by decide +kernel), List.mem_of_getElem? (i := 1491) (by decide +kernel), List.mem_of_getElem? (i := 1492) (by decide +kernel)⟩
theorem lw_p89 : lw_okq (⟨"SkittleRowModel", "childAt", "(I)I"⟩, 40) := ⟨⟨by decide +kernel, by decide +kernel⟩, List.mem_of_getElem? (i := 1020) (by decide +kernel), List.mem_of_getElem? (i := 1495) (by decide +kernel), List.mem_of_getElem? (i := 1496) (by decide +kernel)⟩
theorem lw_p90 : lw_okq (⟨"SkittleRowModel", "isRule", "(I)Z"⟩, 40) := ⟨⟨by decide +kernel, by decide +kernel⟩, List.mem_of_getElem? (i := 1020) (by decide +kernel), List.mem_of_getElem? (i := 1503) (by decide +kernel), List.mem_of_getElem? (i := 1504) (by decide +kernel)⟩
theorem lw_p91 : lw_okq (⟨"SkittleRowModel", "strokeBy", "(IIII)I"⟩, 40) := ⟨⟨by decide +kernel, by decide +kernel⟩, List.mem_of_getElem? (i := 1020) (by decide +kernel), List.mem_of_getElem? (i := 1507) (by decide +kernel), List.mem_of_getElem? (i := 1508) (by decide +kernel)⟩
theorem lw_p92 : lw_okq (⟨"SkittleRowModel", "words", "(IIIII)V"⟩, 40) := ⟨⟨by decide +kernel, by decide +kernel⟩, List.mem_of_getElem? (i := 1020) (by decide +kernel), List.mem_of_getElem? (i := 1511) (by decide +kernel), List.mem_of_getElem? (i := 1512) (by decide +kernel)⟩
theorem lw_p93 : lw_okq (⟨"SkittleRowModel", "countsRuns", "(I)V"⟩, 40) := ⟨⟨by decide +kernel, by decide +kernel⟩, List.mem_of_getElem? (i := 1020) (by decide +kernel), List.mem_of_getElem? (i := 1515) (by decide +kernel), List.mem_of_getElem? (i := 1516) (by decide +kernel)⟩
theorem lw_p94 : lw_okq (⟨"SkittleRowModel", "countsRow", "(II)V"⟩, 40) := ⟨⟨by decide +kernel, by decide +kernel⟩, List.mem_of_getElem? (i := 1020) (by decide +kernel), List.mem_of_getElem? (i := 1519) (by decide +kernel), List.mem_of_getElem? (i := 1520) (by decide +kernel)⟩
theorem lw_p95 : lw_okq (⟨"SkittleRowModel", "countsRun", "(I)V"⟩, 40) := ⟨⟨by decide +kernel, by decide +kernel⟩, List.mem_of_getElem? (i := 1020) (by decide +kernel), List.mem_of_getElem? (i := 1523) (by decide +kernel), List.mem_of_getElem? (i := 1524) (by decide +kernel)⟩
def lw_privs_6 : List (MethodName × Nat) := [(⟨"SkittleRowModel", "clearsSeen", "()V"⟩, 40), (⟨"SkittleRowModel", "leastUnseen", "()I"⟩, 40), (⟨"SkittleRowModel", "fillsPlains", "()V"⟩, 40), (⟨"SkittleRowModel", "comesAgain", "(II)Z"⟩, 40), (⟨"SkittleRowModel", "lastsAt", "(I)I"⟩, 40), (⟨"SkittleRowModel", "playsAt", "(I)I"⟩, 40), (⟨"SkittleRowModel", "chanceAt", "(I)I"⟩, 40), (⟨"SkittleRowModel", "strayed", "(III)I"⟩, 40), (⟨"SkittleRowModel", "bestAt", "(I)I"⟩, 40), (⟨"SkittleRowModel", "childAt", "(I)I"⟩, 40), (⟨"SkittleRowModel", "isRule", "(I)Z"⟩, 40), (⟨"SkittleRowModel", "strokeBy", "(IIII)I"⟩, 40), (⟨"SkittleRowModel", "words", "(IIIII)V"⟩, 40), (⟨"SkittleRowModel", "countsRuns", "(I)V"⟩, 40), (⟨"SkittleRowModel", "countsRow", "(II)V"⟩, 40), (⟨"SkittleRowModel", "countsRun", "(I)V"⟩, 40)]
theorem lw_r6 : ∀ q ∈ lw_privs_6, lw_okq q := List.forall_mem_cons.mpr ⟨lw_p80, List.forall_mem_cons.mpr ⟨lw_p81, List.forall_mem_cons.mpr ⟨lw_p82, List.forall_mem_cons.mpr ⟨lw_p83, List.forall_mem_cons.mpr ⟨lw_p84, List.forall_mem_cons.mpr ⟨lw_p85, List.forall_mem_cons.mpr ⟨lw_p86, List.forall_mem_cons.mpr ⟨lw_p87, List.forall_mem_cons.mpr ⟨lw_p88, List.forall_mem_cons.mpr ⟨lw_p89, List.forall_mem_cons.mpr ⟨lw_p90, List.forall_mem_cons.mpr ⟨lw_p91, List.forall_mem_cons.mpr ⟨lw_p92, List.forall_mem_cons.mpr ⟨lw_p93, List.forall_mem_cons.mpr ⟨lw_p94, List.forall_mem_cons.mpr ⟨lw_p95, fun _ h => absurd h List.not_mem_nil⟩⟩⟩⟩⟩⟩⟩⟩⟩⟩⟩⟩⟩⟩⟩⟩
theorem lw_p96 : lw_okq (⟨"SkittleRowModel", "summedBy", "(I)J"⟩, 40) := ⟨⟨by decide +kernel, by decide +kernel⟩, List.mem_of_getElem? (i := 1020) (by decide +kernel), List.mem_of_getElem? (i := 1527) (by decide +kernel), List.mem_of_getElem? (i := 1528) (by decide +kernel)⟩
theorem lw_p97 : lw_okq (⟨"SkittleRowModel", "reckons", "(III)J"⟩, 40) := ⟨⟨by decide +kernel, by decide +kernel⟩, List.mem_of_getElem? (i := 1020) (by decide +kernel), List.mem_of_getElem? (i := 1531) (by decide +kernel), List.mem_of_getElem? (i := 1532) (by decide +kernel)⟩
theorem lw_p98 : lw_okq (⟨"SkittleRowModel", "push", "(J)V"⟩, 40) := ⟨⟨by decide +kernel, by decide +kernel⟩, List.mem_of_getElem? (i := 1020) (by decide +kernel), List.mem_of_getElem? (i := 1535) (by decide +kernel), List.mem_of_getElem? (i := 1536) (by decide +kernel)⟩
theorem lw_p99 : lw_okq (⟨"SkittleRowModel", "pop", "()J"⟩, 40) := ⟨⟨by decide +kernel, by decide +kernel⟩, List.mem_of_getElem? (i := 1020) (by decide +kernel), List.mem_of_getElem? (i := 1539) (by decide +kernel), List.mem_of_getElem? (i := 1540) (by decide +kernel)⟩
theorem lw_p100 : lw_okq (⟨"SkittleRowModel", "winner", "(I)I"⟩, 40) := ⟨⟨by decide +kernel, by decide +kernel⟩, List.mem_of_getElem? (i := 1020) (by decide +kernel), List.mem_of_getElem? (i := 1546) (by decide +kernel), List.mem_of_getElem? (i := 1547) (by decide +kernel)⟩
theorem lw_p101 : lw_okq (⟨"SkittleRowModel", "noted", "(II)I"⟩, 40) := ⟨⟨by decide +kernel, by decide +kernel⟩, List.mem_of_getElem? (i := 1020) (by decide +kernel), List.mem_of_getElem? (i := 1554) (by decide +kernel), List.mem_of_getElem? (i := 1555) (by decide +kernel)⟩
theorem lw_p102 : lw_okq (⟨"SkittleRowModel", "isOverAt", "(I)Z"⟩, 40) := ⟨⟨by decide +kernel, by decide +kernel⟩, List.mem_of_getElem? (i := 1020) (by decide +kernel), List.mem_of_getElem? (i := 1558) (by decide +kernel), List.mem_of_getElem? (i := 1559) (by decide +kernel)⟩
theorem lw_p103 : lw_okq (⟨"SkittleRowModel", "winsNoted", "(I)Z"⟩, 40) := ⟨⟨by decide +kernel, by decide +kernel⟩, List.mem_of_getElem? (i := 1020) (by decide +kernel), List.mem_of_getElem? (i := 1562) (by decide +kernel), List.mem_of_getElem? (i := 1563) (by decide +kernel)⟩
theorem lw_p104 : lw_okq (⟨"SkittleRowModel", "fitsLaw", "(IIII)Z"⟩, 40) := ⟨⟨by decide +kernel, by decide +kernel⟩, List.mem_of_getElem? (i := 1020) (by decide +kernel), List.mem_of_getElem? (i := 1570) (by decide +kernel), List.mem_of_getElem? (i := 1571) (by decide +kernel)⟩
theorem lw_p105 : lw_okq (⟨"SkittleRowModel", "playsDrawn", "(II)V"⟩, 40) := ⟨⟨by decide +kernel, by decide +kernel⟩, List.mem_of_getElem? (i := 1020) (by decide +kernel), List.mem_of_getElem? (i := 1583) (by decide +kernel), List.mem_of_getElem? (i := 1584) (by decide +kernel)⟩
theorem lw_p106 : lw_okq (⟨"SkittleRowModel", "strokeDrawn", "(I)I"⟩, 40) := ⟨⟨by decide +kernel, by decide +kernel⟩, List.mem_of_getElem? (i := 1020) (by decide +kernel), List.mem_of_getElem? (i := 1587) (by decide +kernel), List.mem_of_getElem? (i := 1588) (by decide +kernel)⟩
theorem lw_p107 : lw_okq (⟨"SkittleRowModel", "draw", "(I)I"⟩, 40) := ⟨⟨by decide +kernel, by decide +kernel⟩, List.mem_of_getElem? (i := 1020) (by decide +kernel), List.mem_of_getElem? (i := 1591) (by decide +kernel), List.mem_of_getElem? (i := 1592) (by decide +kernel)⟩
def lw_privs_7 : List (MethodName × Nat) := [(⟨"SkittleRowModel", "summedBy", "(I)J"⟩, 40), (⟨"SkittleRowModel", "reckons", "(III)J"⟩, 40), (⟨"SkittleRowModel", "push", "(J)V"⟩, 40), (⟨"SkittleRowModel", "pop", "()J"⟩, 40), (⟨"SkittleRowModel", "winner", "(I)I"⟩, 40), (⟨"SkittleRowModel", "noted", "(II)I"⟩, 40), (⟨"SkittleRowModel", "isOverAt", "(I)Z"⟩, 40), (⟨"SkittleRowModel", "winsNoted", "(I)Z"⟩, 40), (⟨"SkittleRowModel", "fitsLaw", "(IIII)Z"⟩, 40), (⟨"SkittleRowModel", "playsDrawn", "(II)V"⟩, 40), (⟨"SkittleRowModel", "strokeDrawn", "(I)I"⟩, 40), (⟨"SkittleRowModel", "draw", "(I)I"⟩, 40)]
theorem lw_r7 : ∀ q ∈ lw_privs_7, lw_okq q := List.forall_mem_cons.mpr ⟨lw_p96, List.forall_mem_cons.mpr ⟨lw_p97, List.forall_mem_cons.mpr ⟨lw_p98, List.forall_mem_cons.mpr ⟨lw_p99, List.forall_mem_cons.mpr ⟨lw_p100, List.forall_mem_cons.mpr ⟨lw_p101, List.forall_mem_cons.mpr ⟨lw_p102, List.forall_mem_cons.mpr ⟨lw_p103, List.forall_mem_cons.mpr ⟨lw_p104, List.forall_mem_cons.mpr ⟨lw_p105, List.forall_mem_cons.mpr ⟨lw_p106, List.forall_mem_cons.mpr ⟨lw_p107, fun _ h => absurd h List.not_mem_nil⟩⟩⟩⟩⟩⟩⟩⟩⟩⟩⟩⟩
def lw_privs : List (MethodName × Nat) := lw_privs_1 ++ (lw_privs_2 ++ (lw_privs_3 ++ (lw_privs_4 ++ (lw_privs_5 ++ (lw_privs_6 ++ (lw_privs_7))))))
def lw_tbl : List Cond := k2_sels lw_privs ++ tables_1
theorem lw_privs_ok : ∀ q ∈ lw_privs, lw_okq q := by
  show ∀ q ∈ lw_privs_1 ++ (lw_privs_2 ++ (lw_privs_3 ++ (lw_privs_4 ++ (lw_privs_5 ++ (lw_privs_6 ++ (lw_privs_7)))))), lw_okq q
  exact List.forall_mem_append.mpr ⟨lw_r1, List.forall_mem_append.mpr ⟨lw_r2, List.forall_mem_append.mpr ⟨lw_r3, List.forall_mem_append.mpr ⟨lw_r4, List.forall_mem_append.mpr ⟨lw_r5, List.forall_mem_append.mpr ⟨lw_r6, lw_r7⟩⟩⟩⟩⟩⟩
end
section
/-- the words that stay when tables grow warm -/
def sk_wds : List Cond := lw_tbl.filter goodWord
/-- where the one field of a nest mate is named -/
def sk_nst : String × Nat := ("SkittleRow$Stroke", 28)
/-- words by their places in the table -/
def sk_all2 : List Cond → List Nat → Bool
  | [], _ => true
  | w :: r, i :: is => decide (lw_tbl[i]? = some w) && goodWord w && sk_all2 r is
  | _ :: _, [] => false
theorem sk_all2_mem : ∀ (ws : List Cond) (is : List Nat), sk_all2 ws is = true → ∀ w ∈ ws, w ∈ sk_wds
  | [], _, _, w, hw => absurd hw List.not_mem_nil
  | _ :: _, [], h, _, _ => by simp [sk_all2] at h
  | v :: r, i :: is, h, w, hw => by
    simp only [sk_all2, Bool.and_eq_true, decide_eq_true_eq] at h
    obtain ⟨⟨h1, h2⟩, h3⟩ := h
    rcases List.mem_cons.mp hw with rfl | hw
    · exact List.mem_filter.mpr ⟨List.mem_of_getElem? h1, h2⟩
    · exact sk_all2_mem r is h3 w hw
def RX0 : String := "SkittleRow$Acts"
def TX0 : u_T := fun k => match k with
  | 0 => ("SkittleRow$Acts", "standing", "[I", true)
  | 1 => ("SkittleRow$Acts", "turn", "[I", true)
  | 2 => ("SkittleRow$Acts", "played", "[I", true)
  | 3 => ("SkittleRow$Acts", "next", "I", false)
  | _ => ("SkittleRow$Acts", "kept", "I", false)
def tyX0 : Nat → FieldType := fun k => match k with
  | 0 => .array .int
  | 1 => .array .int
  | 2 => .array .int
  | 3 => .int
  | _ => .int
theorem nmX0 : ∀ a, a < 5 → ∀ b, b < 5 → a ≠ b → (TX0 a).2.1 ≠ (TX0 b).2.1 := by decide +kernel
theorem tyX0_ok : ∀ k, k < 5 → parseFieldDescriptor (TX0 k).2.2.1 = some (tyX0 k) := by decide +kernel
theorem inX0 : ∀ w ∈ u_ws RX0 TX0 5, w ∈ sk_wds := sk_all2_mem _ [201, 203, 205, 207, 209] (by decide +kernel)
theorem mkX0 : ∀ w ∈ [Cond.instantiable RX0 5, Cond.initialized RX0], w ∈ sk_wds := sk_all2_mem _ [190, 111] (by decide +kernel)
def RX1 : String := "SkittleRow$Alley"
def TX1 : u_T := fun k => match k with
  | 0 => ("SkittleRow$Alley", "first", "I", false)
  | 1 => ("SkittleRow$Alley", "standing", "I", false)
  | 2 => ("SkittleRow$Alley", "places", "I", false)
  | 3 => ("SkittleRow$Alley", "rows", "I", false)
  | 4 => ("SkittleRow$Alley", "hits", "I", false)
  | 5 => ("SkittleRow$Alley", "ends", "Z", false)
  | 6 => ("SkittleRow$Alley", "last", "Z", false)
  | 7 => ("SkittleRow$Alley", "stray", "I", false)
  | 8 => ("SkittleRow$Alley", "rowOf", "[I", true)
  | 9 => ("SkittleRow$Alley", "rowFirst", "[I", true)
  | 10 => ("SkittleRow$Alley", "rowSize", "[I", true)
  | 11 => ("SkittleRow$Alley", "ring", "[Z", true)
  | 12 => ("SkittleRow$Alley", "behind", "[I", true)
  | 13 => ("SkittleRow$Alley", "ahead", "[I", true)
  | 14 => ("SkittleRow$Alley", "strokes", "[LSkittleRow$Stroke;", false)
  | 15 => ("SkittleRow$Alley", "strokesOfAnyLaw", "[LSkittleRow$Stroke;", false)
  | _ => ("SkittleRow$Alley", "plainWorths", "[I", true)
def tyX1 : Nat → FieldType := fun k => match k with
  | 0 => .int
  | 1 => .int
  | 2 => .int
  | 3 => .int
  | 4 => .int
  | 5 => .boolean
  | 6 => .boolean
  | 7 => .int
  | 8 => .array .int
  | 9 => .array .int
  | 10 => .array .int
  | 11 => .array .boolean
  | 12 => .array .int
  | 13 => .array .int
  | 14 => .array (.object "SkittleRow$Stroke")
  | 15 => .array (.object "SkittleRow$Stroke")
  | _ => .array .int
theorem nmX1 : ∀ a, a < 17 → ∀ b, b < 17 → a ≠ b → (TX1 a).2.1 ≠ (TX1 b).2.1 := by decide +kernel
theorem tyX1_ok : ∀ k, k < 17 → parseFieldDescriptor (TX1 k).2.2.1 = some (tyX1 k) := by decide +kernel
theorem inX1 : ∀ w ∈ u_ws RX1 TX1 17, w ∈ sk_wds := sk_all2_mem _ [270, 272, 274, 276, 278, 280, 282, 284, 286, 288, 290, 292, 294, 296, 298, 300, 302] (by decide +kernel)
theorem mkX1 : ∀ w ∈ [Cond.instantiable RX1 17, Cond.initialized RX1], w ∈ sk_wds := sk_all2_mem _ [219, 113] (by decide +kernel)
def RX2 : String := "SkittleRow$AlleyReader"
def TX2 : u_T := fun k => match k with
  | 0 => ("SkittleRow$AlleyReader", "text", "LSkittleRow$Reader;", true)
  | _ => ("SkittleRow$AlleyReader", "told", "LSkittleRow$Alley;", true)
def tyX2 : Nat → FieldType := fun k => match k with
  | 0 => .object "SkittleRow$Reader"
  | _ => .object "SkittleRow$Alley"
theorem nmX2 : ∀ a, a < 2 → ∀ b, b < 2 → a ≠ b → (TX2 a).2.1 ≠ (TX2 b).2.1 := by decide +kernel
theorem tyX2_ok : ∀ k, k < 2 → parseFieldDescriptor (TX2 k).2.2.1 = some (tyX2 k) := by decide +kernel
theorem inX2 : ∀ w ∈ u_ws RX2 TX2 2, w ∈ sk_wds := sk_all2_mem _ [480, 482] (by decide +kernel)
theorem mkX2 : ∀ w ∈ [Cond.instantiable RX2 2, Cond.initialized RX2], w ∈ sk_wds := sk_all2_mem _ [471, 119] (by decide +kernel)
def RX3 : String := "SkittleRow$Bout"
def TX3 : u_T := fun k => match k with
  | 0 => ("SkittleRow$Bout", "look", "LSkittleRow$Look;", true)
  | 1 => ("SkittleRow$Bout", "tables", "LSkittleRow$Tables;", false)
  | 2 => ("SkittleRow$Bout", "alley", "LSkittleRow$Alley;", false)
  | 3 => ("SkittleRow$Bout", "standing", "I", false)
  | 4 => ("SkittleRow$Bout", "turn", "I", false)
  | 5 => ("SkittleRow$Bout", "played", "I", false)
  | 6 => ("SkittleRow$Bout", "x", "J", false)
  | 7 => ("SkittleRow$Bout", "wonByZero", "I", false)
  | _ => ("SkittleRow$Bout", "strokes", "I", false)
def tyX3 : Nat → FieldType := fun k => match k with
  | 0 => .object "SkittleRow$Look"
  | 1 => .object "SkittleRow$Tables"
  | 2 => .object "SkittleRow$Alley"
  | 3 => .int
  | 4 => .int
  | 5 => .int
  | 6 => .long
  | 7 => .int
  | _ => .int
theorem nmX3 : ∀ a, a < 9 → ∀ b, b < 9 → a ≠ b → (TX3 a).2.1 ≠ (TX3 b).2.1 := by decide +kernel
theorem tyX3_ok : ∀ k, k < 9 → parseFieldDescriptor (TX3 k).2.2.1 = some (tyX3 k) := by decide +kernel
theorem inX3 : ∀ w ∈ u_ws RX3 TX3 9, w ∈ sk_wds := sk_all2_mem _ [382, 384, 386, 388, 390, 392, 394, 396, 398] (by decide +kernel)
theorem mkX3 : ∀ w ∈ [Cond.instantiable RX3 9, Cond.initialized RX3], w ∈ sk_wds := sk_all2_mem _ [351, 114] (by decide +kernel)
def RX4 : String := "SkittleRow$Look"
def TX4 : u_T := fun k => match k with
  | _ => ("SkittleRow$Look", "values", "[J", true)
def tyX4 : Nat → FieldType := fun k => match k with
  | _ => .array .long
theorem nmX4 : ∀ a, a < 1 → ∀ b, b < 1 → a ≠ b → (TX4 a).2.1 ≠ (TX4 b).2.1 := by decide +kernel
theorem tyX4_ok : ∀ k, k < 1 → parseFieldDescriptor (TX4 k).2.2.1 = some (tyX4 k) := by decide +kernel
theorem inX4 : ∀ w ∈ u_ws RX4 TX4 1, w ∈ sk_wds := sk_all2_mem _ [363] (by decide +kernel)
theorem mkX4 : ∀ w ∈ [Cond.instantiable RX4 1, Cond.initialized RX4], w ∈ sk_wds := sk_all2_mem _ [357, 115] (by decide +kernel)
def RX5 : String := "SkittleRow$Reader"
def TX5 : u_T := fun k => match k with
  | 0 => ("SkittleRow$Reader", "text", "[C", true)
  | 1 => ("SkittleRow$Reader", "length", "I", true)
  | 2 => ("SkittleRow$Reader", "at", "I", false)
  | _ => ("SkittleRow$Reader", "fault", "I", false)
def tyX5 : Nat → FieldType := fun k => match k with
  | 0 => .array .char
  | 1 => .int
  | 2 => .int
  | _ => .int
theorem nmX5 : ∀ a, a < 4 → ∀ b, b < 4 → a ≠ b → (TX5 a).2.1 ≠ (TX5 b).2.1 := by decide +kernel
theorem tyX5_ok : ∀ k, k < 4 → parseFieldDescriptor (TX5 k).2.2.1 = some (tyX5 k) := by decide +kernel
theorem inX5 : ∀ w ∈ u_ws RX5 TX5 4, w ∈ sk_wds := sk_all2_mem _ [461, 463, 465, 467] (by decide +kernel)
theorem mkX5 : ∀ w ∈ [Cond.instantiable RX5 4, Cond.initialized RX5], w ∈ sk_wds := sk_all2_mem _ [446, 117] (by decide +kernel)
def RX6 : String := "SkittleRow$Rule"
def TX6 : u_T := fun k => match k with
  | 0 => ("SkittleRow$Rule", "code", "[I", false)
  | 1 => ("SkittleRow$Rule", "clauses", "I", false)
  | 2 => ("SkittleRow$Rule", "sumFrom", "[I", true)
  | 3 => ("SkittleRow$Rule", "testFrom", "[I", true)
  | 4 => ("SkittleRow$Rule", "testTo", "[I", true)
  | 5 => ("SkittleRow$Rule", "stack", "[J", true)
  | _ => ("SkittleRow$Rule", "words", "I", false)
def tyX6 : Nat → FieldType := fun k => match k with
  | 0 => .array .int
  | 1 => .int
  | 2 => .array .int
  | 3 => .array .int
  | 4 => .array .int
  | 5 => .array .long
  | _ => .int
theorem nmX6 : ∀ a, a < 7 → ∀ b, b < 7 → a ≠ b → (TX6 a).2.1 ≠ (TX6 b).2.1 := by decide +kernel
theorem tyX6_ok : ∀ k, k < 7 → parseFieldDescriptor (TX6 k).2.2.1 = some (tyX6 k) := by decide +kernel
theorem inX6 : ∀ w ∈ u_ws RX6 TX6 7, w ∈ sk_wds := sk_all2_mem _ [741, 743, 745, 747, 749, 751, 753] (by decide +kernel)
theorem mkX6 : ∀ w ∈ [Cond.instantiable RX6 7, Cond.initialized RX6], w ∈ sk_wds := sk_all2_mem _ [728, 128] (by decide +kernel)
def RX7 : String := "SkittleRow$RuleReader"
def TX7 : u_T := fun k => match k with
  | 0 => ("SkittleRow$RuleReader", "text", "LSkittleRow$Reader;", true)
  | 1 => ("SkittleRow$RuleReader", "code", "[I", true)
  | 2 => ("SkittleRow$RuleReader", "size", "I", false)
  | _ => ("SkittleRow$RuleReader", "parts", "I", false)
def tyX7 : Nat → FieldType := fun k => match k with
  | 0 => .object "SkittleRow$Reader"
  | 1 => .array .int
  | 2 => .int
  | _ => .int
theorem nmX7 : ∀ a, a < 4 → ∀ b, b < 4 → a ≠ b → (TX7 a).2.1 ≠ (TX7 b).2.1 := by decide +kernel
theorem tyX7_ok : ∀ k, k < 4 → parseFieldDescriptor (TX7 k).2.2.1 = some (tyX7 k) := by decide +kernel
theorem inX7 : ∀ w ∈ u_ws RX7 TX7 4, w ∈ sk_wds := sk_all2_mem _ [714, 716, 718, 720] (by decide +kernel)
theorem mkX7 : ∀ w ∈ [Cond.instantiable RX7 4, Cond.initialized RX7], w ∈ sk_wds := sk_all2_mem _ [705, 127] (by decide +kernel)
def RX8 : String := "SkittleRow$State"
def TX8 : u_T := fun k => match k with
  | 0 => ("SkittleRow$State", "alley", "LSkittleRow$Alley;", false)
  | 1 => ("SkittleRow$State", "standing", "I", false)
  | 2 => ("SkittleRow$State", "turn", "I", false)
  | 3 => ("SkittleRow$State", "played", "I", false)
  | 4 => ("SkittleRow$State", "x", "I", false)
  | 5 => ("SkittleRow$State", "notePlayer", "[I", true)
  | 6 => ("SkittleRow$State", "noteStanding", "[I", true)
  | _ => ("SkittleRow$State", "noteStroke", "[LSkittleRow$Stroke;", true)
def tyX8 : Nat → FieldType := fun k => match k with
  | 0 => .object "SkittleRow$Alley"
  | 1 => .int
  | 2 => .int
  | 3 => .int
  | 4 => .int
  | 5 => .array .int
  | 6 => .array .int
  | _ => .array (.object "SkittleRow$Stroke")
theorem nmX8 : ∀ a, a < 8 → ∀ b, b < 8 → a ≠ b → (TX8 a).2.1 ≠ (TX8 b).2.1 := by decide +kernel
theorem tyX8_ok : ∀ k, k < 8 → parseFieldDescriptor (TX8 k).2.2.1 = some (tyX8 k) := by decide +kernel
theorem inX8 : ∀ w ∈ u_ws RX8 TX8 8, w ∈ sk_wds := sk_all2_mem _ [169, 171, 173, 175, 177, 179, 181, 183] (by decide +kernel)
theorem mkX8 : ∀ w ∈ [Cond.instantiable RX8 8, Cond.initialized RX8], w ∈ sk_wds := sk_all2_mem _ [140, 110] (by decide +kernel)
def RX9 : String := "SkittleRow$Stroke"
def TX9 : u_T := fun k => match k with
  | 0 => ("SkittleRow$Stroke", "place", "I", true)
  | 1 => ("SkittleRow$Stroke", "many", "I", true)
  | 2 => ("SkittleRow$Stroke", "row", "I", true)
  | 3 => ("SkittleRow$Stroke", "mask", "I", true)
  | 4 => ("SkittleRow$Stroke", "behind", "I", true)
  | 5 => ("SkittleRow$Stroke", "ahead", "I", true)
  | _ => ("SkittleRow$Stroke", "laws", "J", true)
def tyX9 : Nat → FieldType := fun k => match k with
  | 0 => .int
  | 1 => .int
  | 2 => .int
  | 3 => .int
  | 4 => .int
  | 5 => .int
  | _ => .long
theorem nmX9 : ∀ a, a < 7 → ∀ b, b < 7 → a ≠ b → (TX9 a).2.1 ≠ (TX9 b).2.1 := by decide +kernel
theorem tyX9_ok : ∀ k, k < 7 → parseFieldDescriptor (TX9 k).2.2.1 = some (tyX9 k) := by decide +kernel
theorem inX9 : ∀ w ∈ u_ws RX9 TX9 7, w ∈ sk_wds := sk_all2_mem _ [650, 652, 654, 656, 658, 660, 662] (by decide +kernel)
theorem mkX9 : ∀ w ∈ [Cond.instantiable RX9 7, Cond.initialized RX9], w ∈ sk_wds := sk_all2_mem _ [619, 124] (by decide +kernel)
def RX10 : String := "SkittleRow$Tables"
def TX10 : u_T := fun k => match k with
  | 0 => ("SkittleRow$Tables", "alley", "LSkittleRow$Alley;", false)
  | 1 => ("SkittleRow$Tables", "ownLaw", "I", false)
  | 2 => ("SkittleRow$Tables", "states", "I", false)
  | 3 => ("SkittleRow$Tables", "winning", "[J", true)
  | 4 => ("SkittleRow$Tables", "lengths", "[I", true)
  | 5 => ("SkittleRow$Tables", "playCounts", "[I", true)
  | 6 => ("SkittleRow$Tables", "chances", "[I", true)
  | 7 => ("SkittleRow$Tables", "clever", "[I", true)
  | 8 => ("SkittleRow$Tables", "childish", "[I", true)
  | 9 => ("SkittleRow$Tables", "hasWinning", "Z", false)
  | 10 => ("SkittleRow$Tables", "hasLengths", "Z", false)
  | 11 => ("SkittleRow$Tables", "hasPlayCounts", "Z", false)
  | 12 => ("SkittleRow$Tables", "hasChances", "Z", false)
  | _ => ("SkittleRow$Tables", "hasClever", "Z", false)
def tyX10 : Nat → FieldType := fun k => match k with
  | 0 => .object "SkittleRow$Alley"
  | 1 => .int
  | 2 => .int
  | 3 => .array .long
  | 4 => .array .int
  | 5 => .array .int
  | 6 => .array .int
  | 7 => .array .int
  | 8 => .array .int
  | 9 => .boolean
  | 10 => .boolean
  | 11 => .boolean
  | 12 => .boolean
  | _ => .boolean
theorem nmX10 : ∀ a, a < 14 → ∀ b, b < 14 → a ≠ b → (TX10 a).2.1 ≠ (TX10 b).2.1 := by decide +kernel
theorem tyX10_ok : ∀ k, k < 14 → parseFieldDescriptor (TX10 k).2.2.1 = some (tyX10 k) := by decide +kernel
theorem inX10 : ∀ w ∈ u_ws RX10 TX10 14, w ∈ sk_wds := sk_all2_mem _ [320, 322, 324, 326, 328, 330, 332, 334, 336, 338, 340, 342, 344, 346] (by decide +kernel)
theorem mkX10 : ∀ w ∈ [Cond.instantiable RX10 14, Cond.initialized RX10], w ∈ sk_wds := sk_all2_mem _ [213, 112] (by decide +kernel)
def RX11 : String := "SkittleRow"
def TX11 : u_T := fun k => match k with
  | 0 => ("SkittleRow", "tape", "[C", true)
  | 1 => ("SkittleRow", "tapeLength", "I", false)
  | 2 => ("SkittleRow", "rules", "[LSkittleRow$Rule;", true)
  | 3 => ("SkittleRow", "ruleCount", "I", false)
  | 4 => ("SkittleRow", "now", "LSkittleRow$State;", true)
  | 5 => ("SkittleRow", "images", "[LSkittleRow$State;", true)
  | 6 => ("SkittleRow", "acts", "LSkittleRow$Acts;", true)
  | 7 => ("SkittleRow", "tables", "LSkittleRow$Tables;", true)
  | _ => ("SkittleRow", "bout", "LSkittleRow$Bout;", true)
def tyX11 : Nat → FieldType := fun k => match k with
  | 0 => .array .char
  | 1 => .int
  | 2 => .array (.object "SkittleRow$Rule")
  | 3 => .int
  | 4 => .object "SkittleRow$State"
  | 5 => .array (.object "SkittleRow$State")
  | 6 => .object "SkittleRow$Acts"
  | 7 => .object "SkittleRow$Tables"
  | _ => .object "SkittleRow$Bout"
theorem nmX11 : ∀ a, a < 9 → ∀ b, b < 9 → a ≠ b → (TX11 a).2.1 ≠ (TX11 b).2.1 := by decide +kernel
theorem tyX11_ok : ∀ k, k < 9 → parseFieldDescriptor (TX11 k).2.2.1 = some (tyX11 k) := by decide +kernel
theorem inX11 : ∀ w ∈ u_ws RX11 TX11 9, w ∈ sk_wds := sk_all2_mem _ [410, 412, 414, 416, 418, 420, 422, 424, 426] (by decide +kernel)
theorem mkX11 : ∀ w ∈ [Cond.instantiable RX11 9, Cond.initialized RX11], w ∈ sk_wds := sk_all2_mem _ [130, 109] (by decide +kernel)
def RX12 : String := "SkittleRowModel"
def TX12 : u_T := fun k => match k with
  | 0 => ("SkittleRowModel", "tape", "[B", true)
  | 1 => ("SkittleRowModel", "taped", "I", false)
  | 2 => ("SkittleRowModel", "rules", "I", false)
  | 3 => ("SkittleRowModel", "sign", "[I", true)
  | 4 => ("SkittleRowModel", "length", "[I", true)
  | 5 => ("SkittleRowModel", "clause", "[I", true)
  | 6 => ("SkittleRowModel", "clauses", "[I", true)
  | 7 => ("SkittleRowModel", "read", "[I", true)
  | 8 => ("SkittleRowModel", "next", "I", false)
  | 9 => ("SkittleRowModel", "wrong", "I", false)
  | 10 => ("SkittleRowModel", "number", "I", false)
  | 11 => ("SkittleRowModel", "text", "I", false)
  | 12 => ("SkittleRowModel", "made", "I", false)
  | 13 => ("SkittleRowModel", "deep", "I", false)
  | 14 => ("SkittleRowModel", "lines", "I", false)
  | 15 => ("SkittleRowModel", "open", "[I", true)
  | 16 => ("SkittleRowModel", "opened", "I", false)
  | 17 => ("SkittleRowModel", "stack", "[J", true)
  | 18 => ("SkittleRowModel", "top", "I", false)
  | 19 => ("SkittleRowModel", "word", "[J", true)
  | 20 => ("SkittleRowModel", "said", "[I", true)
  | 21 => ("SkittleRowModel", "x", "I", false)
  | 22 => ("SkittleRowModel", "won", "[Z", true)
  | 23 => ("SkittleRowModel", "tableLaw", "I", false)
  | 24 => ("SkittleRowModel", "wasSaid", "[I", true)
  | 25 => ("SkittleRowModel", "undone", "I", false)
  | 26 => ("SkittleRowModel", "worths", "[I", true)
  | 27 => ("SkittleRowModel", "seen", "[Z", true)
  | 28 => ("SkittleRowModel", "plains", "[I", true)
  | 29 => ("SkittleRowModel", "table", "[I", true)
  | 30 => ("SkittleRowModel", "other", "[I", true)
  | 31 => ("SkittleRowModel", "runsMany", "I", false)
  | 32 => ("SkittleRowModel", "runsLongest", "I", false)
  | 33 => ("SkittleRowModel", "runsAlone", "I", false)
  | 34 => ("SkittleRowModel", "drawX", "J", false)
  | 35 => ("SkittleRowModel", "drawnWins", "I", false)
  | 36 => ("SkittleRowModel", "drawnStrokes", "I", false)
  | 37 => ("SkittleRowModel", "images", "[I", true)
  | 38 => ("SkittleRowModel", "imageX", "[I", true)
  | _ => ("SkittleRowModel", "isMade", "[Z", true)
def tyX12 : Nat → FieldType := fun k => match k with
  | 0 => .array .byte
  | 1 => .int
  | 2 => .int
  | 3 => .array .int
  | 4 => .array .int
  | 5 => .array .int
  | 6 => .array .int
  | 7 => .array .int
  | 8 => .int
  | 9 => .int
  | 10 => .int
  | 11 => .int
  | 12 => .int
  | 13 => .int
  | 14 => .int
  | 15 => .array .int
  | 16 => .int
  | 17 => .array .long
  | 18 => .int
  | 19 => .array .long
  | 20 => .array .int
  | 21 => .int
  | 22 => .array .boolean
  | 23 => .int
  | 24 => .array .int
  | 25 => .int
  | 26 => .array .int
  | 27 => .array .boolean
  | 28 => .array .int
  | 29 => .array .int
  | 30 => .array .int
  | 31 => .int
  | 32 => .int
  | 33 => .int
  | 34 => .long
  | 35 => .int
  | 36 => .int
  | 37 => .array .int
  | 38 => .array .int
  | _ => .array .boolean
theorem nmX12 : ∀ a, a < 40 → ∀ b, b < 40 → a ≠ b → (TX12 a).2.1 ≠ (TX12 b).2.1 := by decide +kernel
theorem tyX12_ok : ∀ k, k < 40 → parseFieldDescriptor (TX12 k).2.2.1 = some (tyX12 k) := by decide +kernel
theorem inX12 : ∀ w ∈ u_ws RX12 TX12 40, w ∈ sk_wds := sk_all2_mem _ [1173, 1175, 1177, 1179, 1181, 1183, 1185, 1187, 1189, 1191, 1193, 1195, 1197, 1199, 1201, 1203, 1205, 1207, 1209, 1211, 1213, 1215, 1217, 1219, 1221, 1223, 1225, 1227, 1229, 1231, 1233, 1235, 1237, 1239, 1241, 1243, 1245, 1247, 1249, 1251] (by decide +kernel)
theorem mkX12 : ∀ w ∈ [Cond.instantiable RX12 40, Cond.initialized RX12], w ∈ sk_wds := sk_all2_mem _ [1128, 116] (by decide +kernel)
def vwCl : List vw_C := [(RX0, TX0, 5), (RX1, TX1, 17), (RX2, TX2, 2), (RX3, TX3, 9), (RX4, TX4, 1), (RX5, TX5, 4), (RX6, TX6, 7), (RX7, TX7, 4), (RX8, TX8, 8), (RX9, TX9, 7), (RX10, TX10, 14), (RX11, TX11, 9), (RX12, TX12, 40)]
def vwTy : Nat → Nat → FieldType := fun c => match c with
  | 0 => tyX0
  | 1 => tyX1
  | 2 => tyX2
  | 3 => tyX3
  | 4 => tyX4
  | 5 => tyX5
  | 6 => tyX6
  | 7 => tyX7
  | 8 => tyX8
  | 9 => tyX9
  | 10 => tyX10
  | 11 => tyX11
  | _ => tyX12
/-- the tags of the fields, by kind less one -/
def sk_ft : Nat → List Nat := fun c => match c with
  | 0 => [2, 2, 2, 0, 0]
  | 1 => [0, 0, 0, 0, 0, 3, 3, 0, 2, 2, 2, 2, 2, 2, 2, 2, 2]
  | 2 => [2, 2]
  | 3 => [2, 2, 2, 0, 0, 0, 1, 0, 0]
  | 4 => [2]
  | 5 => [2, 0, 0, 0]
  | 6 => [2, 0, 2, 2, 2, 2, 0]
  | 7 => [2, 2, 0, 0]
  | 8 => [2, 0, 0, 0, 0, 2, 2, 2]
  | 9 => [0, 0, 0, 0, 0, 0, 1]
  | 10 => [2, 0, 0, 2, 2, 2, 2, 2, 2, 3, 3, 3, 3, 3]
  | 11 => [2, 0, 2, 0, 2, 2, 2, 2, 2]
  | 12 => [2, 0, 0, 2, 2, 2, 2, 2, 0, 0, 0, 0, 0, 0, 0, 2, 0, 2, 0, 2, 2, 0, 2, 0, 2, 0, 2, 2, 2, 2, 2, 0, 0, 0, 1, 0, 0, 2, 2, 2]
  | _ => []
def sk_wl0 : List Cond := [
  (.fieldLink "SkittleRow$Acts" (28) "SkittleRow$State" "standing" "I"),
  (.fieldLink "SkittleRow$Acts" (32) "SkittleRow$State" "turn" "I"),
  (.fieldLink "SkittleRow$Acts" (34) "SkittleRow$State" "played" "I"),
  (.methodLink "SkittleRow$Acts" (3) ({ cls := "java/lang/Object", name := "<init>", desc := "()V" } : MethodName)),
  (.fieldLink "SkittleRow$Acts" (9) "SkittleRow$Acts" "standing" "[I"),
  (.fieldLink "SkittleRow$Acts" (15) "SkittleRow$Acts" "turn" "[I"),
  (.fieldLink "SkittleRow$Acts" (18) "SkittleRow$Acts" "played" "[I"),
  (.fieldLink "SkittleRow$Acts" (25) "SkittleRow$Acts" "next" "I"),
  (.fieldLink "SkittleRow$Acts" (21) "SkittleRow$Acts" "kept" "I"),
  (.methodLink "SkittleRow$Acts" (36) ({ cls := "java/lang/Math", name := "min", desc := "(II)I" } : MethodName))]
theorem sk_wl0_in : ∀ w ∈ sk_wl0, w ∈ sk_wds := sk_all2_mem _ [152, 156, 160, 194, 195, 196, 197, 198, 199, 880] (by decide +kernel)
def sk_wl1 : List Cond := [
  (.methodLink "SkittleRow$Alley" (3) ({ cls := "java/lang/Object", name := "<init>", desc := "()V" } : MethodName)),
  (.classLink "SkittleRow$Alley" (31) "SkittleRow$Stroke"),
  (.fieldLink "SkittleRow$Alley" (50) "SkittleRow$Alley" "standing" "I"),
  (.fieldLink "SkittleRow$Alley" (47) "SkittleRow$Alley" "places" "I"),
  (.fieldLink "SkittleRow$Alley" (43) "SkittleRow$Alley" "rows" "I"),
  (.fieldLink "SkittleRow$Alley" (53) "SkittleRow$Alley" "hits" "I"),
  (.fieldLink "SkittleRow$Alley" (88) "SkittleRow$Alley" "ends" "Z"),
  (.fieldLink "SkittleRow$Alley" (120) "SkittleRow$Alley" "last" "Z"),
  (.fieldLink "SkittleRow$Alley" (123) "SkittleRow$Alley" "stray" "I"),
  (.fieldLink "SkittleRow$Alley" (9) "SkittleRow$Alley" "rowOf" "[I"),
  (.fieldLink "SkittleRow$Alley" (15) "SkittleRow$Alley" "rowFirst" "[I"),
  (.fieldLink "SkittleRow$Alley" (18) "SkittleRow$Alley" "rowSize" "[I"),
  (.fieldLink "SkittleRow$Alley" (21) "SkittleRow$Alley" "ring" "[Z"),
  (.fieldLink "SkittleRow$Alley" (25) "SkittleRow$Alley" "behind" "[I"),
  (.fieldLink "SkittleRow$Alley" (28) "SkittleRow$Alley" "ahead" "[I"),
  (.fieldLink "SkittleRow$Alley" (33) "SkittleRow$Alley" "strokes" "[LSkittleRow$Stroke;"),
  (.fieldLink "SkittleRow$Alley" (37) "SkittleRow$Alley" "strokesOfAnyLaw" "[LSkittleRow$Stroke;"),
  (.fieldLink "SkittleRow$Alley" (40) "SkittleRow$Alley" "plainWorths" "[I"),
  (.methodLink "SkittleRow$Alley" (56) ({ cls := "SkittleRow$Alley", name := "listStrokes", desc := "()V" } : MethodName)),
  (.methodLink "SkittleRow$Alley" (67) ({ cls := "SkittleRow$Alley", name := "bitOf", desc := "(I)I" } : MethodName)),
  (.methodLink "SkittleRow$Alley" (71) ({ cls := "SkittleRow$Stroke", name := "<init>", desc := "(IIIIII)V" } : MethodName)),
  (.fieldLink "SkittleRow$Alley" (96) "SkittleRow$Stroke" "place" "I"),
  (.fieldLink "SkittleRow$Alley" (78) "SkittleRow$Stroke" "many" "I"),
  (.fieldLink "SkittleRow$Alley" (85) "SkittleRow$Stroke" "mask" "I"),
  (.methodLink "SkittleRow$Alley" (74) ({ cls := "SkittleRow$Alley", name := "chosen", desc := "([LSkittleRow$Stroke;II)[LSkittleRow$Stroke;" } : MethodName)),
  (.methodLink "SkittleRow$Alley" (81) ({ cls := "SkittleRow$Alley", name := "hasHit", desc := "(II)Z" } : MethodName)),
  (.methodLink "SkittleRow$Alley" (59) ({ cls := "SkittleRow$Alley", name := "plainLeavings", desc := "(I)J" } : MethodName)),
  (.methodLink "SkittleRow$Alley" (63) ({ cls := "SkittleRow$Alley", name := "leastLeftOut", desc := "(J)I" } : MethodName)),
  (.constantLong "SkittleRow$Alley" (103) (-1 : Int64)),
  (.methodLink "SkittleRow$Alley" (105) ({ cls := "java/lang/Long", name := "numberOfTrailingZeros", desc := "(J)I" } : MethodName)),
  (.methodLink "SkittleRow$Alley" (99) ({ cls := "SkittleRow$Alley", name := "allows", desc := "(ILSkittleRow$Stroke;)Z" } : MethodName)),
  (.methodLink "SkittleRow$Alley" (92) ({ cls := "SkittleRow$Stroke", name := "hasEndIn", desc := "(I)Z" } : MethodName)),
  (.methodLink "SkittleRow$Alley" (110) ({ cls := "SkittleRow$Alley", name := "isWholeRing", desc := "(II)Z" } : MethodName)),
  (.methodLink "SkittleRow$Alley" (113) ({ cls := "SkittleRow$Alley", name := "ringLeavings", desc := "(I)J" } : MethodName)),
  (.methodLink "SkittleRow$Alley" (116) ({ cls := "SkittleRow$Alley", name := "runFrom", desc := "(II)I" } : MethodName))]
theorem sk_wl1_in : ∀ w ∈ sk_wl1, w ∈ sk_wds := sk_all2_mem _ [223, 224, 228, 229, 234, 238, 242, 246, 249, 250, 252, 254, 256, 258, 260, 262, 266, 268, 615, 620, 623, 631, 635, 644, 666, 669, 672, 676, 679, 680, 848, 852, 925, 929, 933] (by decide +kernel)
def sk_wl2 : List Cond := [
  (.fieldLink "SkittleRow$AlleyReader" (63) "SkittleRow$Alley" "first" "I"),
  (.fieldLink "SkittleRow$AlleyReader" (100) "SkittleRow$Alley" "places" "I"),
  (.fieldLink "SkittleRow$AlleyReader" (85) "SkittleRow$Alley" "rows" "I"),
  (.fieldLink "SkittleRow$AlleyReader" (117) "SkittleRow$Alley" "hits" "I"),
  (.fieldLink "SkittleRow$AlleyReader" (75) "SkittleRow$Alley" "ends" "Z"),
  (.fieldLink "SkittleRow$AlleyReader" (79) "SkittleRow$Alley" "last" "Z"),
  (.fieldLink "SkittleRow$AlleyReader" (82) "SkittleRow$Alley" "stray" "I"),
  (.fieldLink "SkittleRow$AlleyReader" (96) "SkittleRow$Alley" "rowFirst" "[I"),
  (.fieldLink "SkittleRow$AlleyReader" (110) "SkittleRow$Alley" "rowSize" "[I"),
  (.fieldLink "SkittleRow$AlleyReader" (113) "SkittleRow$Alley" "ring" "[Z"),
  (.fieldLink "SkittleRow$AlleyReader" (44) "SkittleRow$Reader" "at" "I"),
  (.methodLink "SkittleRow$AlleyReader" (3) ({ cls := "java/lang/Object", name := "<init>", desc := "()V" } : MethodName)),
  (.classLink "SkittleRow$AlleyReader" (9) "SkittleRow$Alley"),
  (.methodLink "SkittleRow$AlleyReader" (11) ({ cls := "SkittleRow$Alley", name := "<init>", desc := "()V" } : MethodName)),
  (.fieldLink "SkittleRow$AlleyReader" (18) "SkittleRow$AlleyReader" "text" "LSkittleRow$Reader;"),
  (.fieldLink "SkittleRow$AlleyReader" (12) "SkittleRow$AlleyReader" "told" "LSkittleRow$Alley;"),
  (.methodLink "SkittleRow$AlleyReader" (22) ({ cls := "SkittleRow$AlleyReader", name := "readClause", desc := "(I)V" } : MethodName)),
  (.methodLink "SkittleRow$AlleyReader" (40) ({ cls := "SkittleRow$Reader", name := "wordOf", desc := "(Ljava/lang/String;)I" } : MethodName)),
  (.methodLink "SkittleRow$AlleyReader" (48) ({ cls := "SkittleRow$Reader", name := "refuse", desc := "(II)V" } : MethodName)),
  (.methodLink "SkittleRow$AlleyReader" (52) ({ cls := "SkittleRow$AlleyReader", name := "isTooMany", desc := "(II)Z" } : MethodName)),
  (.methodLink "SkittleRow$AlleyReader" (56) ({ cls := "SkittleRow$Reader", name := "skipWord", desc := "()V" } : MethodName)),
  (.methodLink "SkittleRow$AlleyReader" (59) ({ cls := "SkittleRow$Reader", name := "number", desc := "(II)I" } : MethodName)),
  (.methodLink "SkittleRow$AlleyReader" (66) ({ cls := "SkittleRow$AlleyReader", name := "readRow", desc := "()V" } : MethodName)),
  (.methodLink "SkittleRow$AlleyReader" (88) ({ cls := "SkittleRow$Reader", name := "next", desc := "()I" } : MethodName)),
  (.methodLink "SkittleRow$AlleyReader" (92) ({ cls := "SkittleRow$AlleyReader", name := "isPlace", desc := "(I)Z" } : MethodName)),
  (.methodLink "SkittleRow$AlleyReader" (32) ({ cls := "SkittleRow$Reader", name := "sound", desc := "()Z" } : MethodName)),
  (.methodLink "SkittleRow$AlleyReader" (103) ({ cls := "SkittleRow$Reader", name := "look", desc := "()I" } : MethodName)),
  (.methodLink "SkittleRow$AlleyReader" (106) ({ cls := "SkittleRow$Alley", name := "addPlace", desc := "(Z)V" } : MethodName)),
  (.methodLink "SkittleRow$AlleyReader" (69) ({ cls := "SkittleRow$AlleyReader", name := "readRing", desc := "()V" } : MethodName)),
  (.methodLink "SkittleRow$AlleyReader" (72) ({ cls := "SkittleRow$AlleyReader", name := "readHit", desc := "()V" } : MethodName)),
  (.methodLink "SkittleRow$AlleyReader" (26) ({ cls := "SkittleRow$Reader", name := "goesOn", desc := "()Z" } : MethodName)),
  (.methodLink "SkittleRow$AlleyReader" (35) ({ cls := "SkittleRow$Alley", name := "settle", desc := "()V" } : MethodName))]
theorem sk_wl2_in : ∀ w ∈ sk_wl2, w ∈ sk_wds := sk_all2_mem _ [226, 232, 235, 239, 241, 245, 247, 253, 255, 257, 457, 475, 476, 477, 478, 479, 489, 494, 554, 558, 562, 566, 574, 578, 579, 582, 586, 590, 594, 598, 602, 611] (by decide +kernel)
def sk_wl3 : List Cond := [
  (.fieldLink "SkittleRow$Bout" (29) "SkittleRow$State" "alley" "LSkittleRow$Alley;"),
  (.fieldLink "SkittleRow$Bout" (42) "SkittleRow$State" "standing" "I"),
  (.fieldLink "SkittleRow$Bout" (46) "SkittleRow$State" "turn" "I"),
  (.fieldLink "SkittleRow$Bout" (50) "SkittleRow$State" "played" "I"),
  (.fieldLink "SkittleRow$Bout" (36) "SkittleRow$State" "x" "I"),
  (.fieldLink "SkittleRow$Bout" (58) "SkittleRow$Alley" "last" "Z"),
  (.fieldLink "SkittleRow$Bout" (77) "SkittleRow$Alley" "strokes" "[LSkittleRow$Stroke;"),
  (.methodLink "SkittleRow$Bout" (3) ({ cls := "java/lang/Object", name := "<init>", desc := "()V" } : MethodName)),
  (.classLink "SkittleRow$Bout" (9) "SkittleRow$Look"),
  (.methodLink "SkittleRow$Bout" (11) ({ cls := "SkittleRow$Look", name := "<init>", desc := "()V" } : MethodName)),
  (.fieldLink "SkittleRow$Bout" (12) "SkittleRow$Bout" "look" "LSkittleRow$Look;"),
  (.fieldLink "SkittleRow$Bout" (25) "SkittleRow$Bout" "tables" "LSkittleRow$Tables;"),
  (.fieldLink "SkittleRow$Bout" (35) "SkittleRow$Bout" "alley" "LSkittleRow$Alley;"),
  (.fieldLink "SkittleRow$Bout" (45) "SkittleRow$Bout" "standing" "I"),
  (.fieldLink "SkittleRow$Bout" (49) "SkittleRow$Bout" "turn" "I"),
  (.fieldLink "SkittleRow$Bout" (53) "SkittleRow$Bout" "played" "I"),
  (.fieldLink "SkittleRow$Bout" (39) "SkittleRow$Bout" "x" "J"),
  (.fieldLink "SkittleRow$Bout" (18) "SkittleRow$Bout" "wonByZero" "I"),
  (.fieldLink "SkittleRow$Bout" (22) "SkittleRow$Bout" "strokes" "I"),
  (.fieldLink "SkittleRow$Bout" (72) "SkittleRow$Stroke" "mask" "I"),
  (.fieldLink "SkittleRow$Bout" (84) "SkittleRow$Rule" "words" "I"),
  (.methodLink "SkittleRow$Bout" (54) ({ cls := "SkittleRow$Bout", name := "playOut", desc := "(LSkittleRow$Rule;LSkittleRow$Rule;)V" } : MethodName)),
  (.methodLink "SkittleRow$Bout" (64) ({ cls := "SkittleRow$Bout", name := "drawn", desc := "()LSkittleRow$Stroke;" } : MethodName)),
  (.methodLink "SkittleRow$Bout" (80) ({ cls := "SkittleRow$Alley", name := "allows", desc := "(ILSkittleRow$Stroke;)Z" } : MethodName)),
  (.constantLong "SkittleRow$Bout" (97) (1103515245 : Int64)),
  (.constantLong "SkittleRow$Bout" (99) (12345 : Int64)),
  (.constantLong "SkittleRow$Bout" (101) (2147483647 : Int64)),
  (.constantLong "SkittleRow$Bout" (103) (65536 : Int64)),
  (.methodLink "SkittleRow$Bout" (68) ({ cls := "SkittleRow$Bout", name := "bestBy", desc := "(LSkittleRow$Rule;)LSkittleRow$Stroke;" } : MethodName)),
  (.methodLink "SkittleRow$Bout" (89) ({ cls := "SkittleRow$Look", name := "lookAt", desc := "(LSkittleRow$Bout;LSkittleRow$Stroke;I)V" } : MethodName)),
  (.methodLink "SkittleRow$Bout" (93) ({ cls := "SkittleRow$Rule", name := "valueOf", desc := "(LSkittleRow$Look;)J" } : MethodName))]
theorem sk_wl3_in : ∀ w ∈ sk_wl3, w ∈ sk_wds := sk_all2_mem _ [148, 151, 155, 159, 162, 244, 263, 355, 356, 358, 366, 367, 369, 371, 373, 375, 377, 378, 380, 642, 740, 1021, 1025, 1029, 1030, 1031, 1032, 1033, 1034, 1038, 1050] (by decide +kernel)
def sk_wl4 : List Cond := [
  (.fieldLink "SkittleRow$Look" (65) "SkittleRow$Alley" "places" "I"),
  (.methodLink "SkittleRow$Look" (3) ({ cls := "java/lang/Object", name := "<init>", desc := "()V" } : MethodName)),
  (.fieldLink "SkittleRow$Look" (9) "SkittleRow$Look" "values" "[J"),
  (.fieldLink "SkittleRow$Look" (47) "SkittleRow$Bout" "tables" "LSkittleRow$Tables;"),
  (.fieldLink "SkittleRow$Look" (57) "SkittleRow$Bout" "alley" "LSkittleRow$Alley;"),
  (.fieldLink "SkittleRow$Look" (15) "SkittleRow$Bout" "standing" "I"),
  (.fieldLink "SkittleRow$Look" (41) "SkittleRow$Bout" "turn" "I"),
  (.fieldLink "SkittleRow$Look" (44) "SkittleRow$Bout" "played" "I"),
  (.fieldLink "SkittleRow$Look" (26) "SkittleRow$Stroke" "place" "I"),
  (.fieldLink "SkittleRow$Look" (29) "SkittleRow$Stroke" "many" "I"),
  (.fieldLink "SkittleRow$Look" (32) "SkittleRow$Stroke" "row" "I"),
  (.fieldLink "SkittleRow$Look" (21) "SkittleRow$Stroke" "mask" "I"),
  (.methodLink "SkittleRow$Look" (35) ({ cls := "java/lang/Integer", name := "bitCount", desc := "(I)I" } : MethodName)),
  (.methodLink "SkittleRow$Look" (51) ({ cls := "SkittleRow$Tables", name := "canWin", desc := "(I)Z" } : MethodName)),
  (.methodLink "SkittleRow$Look" (61) ({ cls := "SkittleRow$Look", name := "countRuns", desc := "(LSkittleRow$Alley;I)V" } : MethodName)),
  (.methodLink "SkittleRow$Look" (70) ({ cls := "SkittleRow$Alley", name := "runFrom", desc := "(II)I" } : MethodName)),
  (.methodLink "SkittleRow$Look" (74) ({ cls := "java/lang/Math", name := "max", desc := "(II)I" } : MethodName))]
theorem sk_wl4_in : ∀ w ∈ sk_wl4, w ∈ sk_wds := sk_all2_mem _ [231, 361, 362, 368, 370, 372, 374, 376, 630, 634, 638, 640, 1042, 1043, 1044, 1048, 1049] (by decide +kernel)
def sk_wl5 : List Cond := [
  (.methodLink "SkittleRow$Reader" (3) ({ cls := "java/lang/Object", name := "<init>", desc := "()V" } : MethodName)),
  (.methodLink "SkittleRow$Reader" (19) ({ cls := "java/lang/Math", name := "min", desc := "(II)I" } : MethodName)),
  (.fieldLink "SkittleRow$Reader" (15) "SkittleRow$Reader" "text" "[C"),
  (.fieldLink "SkittleRow$Reader" (25) "SkittleRow$Reader" "length" "I"),
  (.fieldLink "SkittleRow$Reader" (28) "SkittleRow$Reader" "at" "I"),
  (.fieldLink "SkittleRow$Reader" (9) "SkittleRow$Reader" "fault" "I"),
  (.methodLink "SkittleRow$Reader" (35) ({ cls := "SkittleRow$Reader", name := "next", desc := "()I" } : MethodName)),
  (.methodLink "SkittleRow$Reader" (39) ({ cls := "java/lang/String", name := "length", desc := "()I" } : MethodName)),
  (.methodLink "SkittleRow$Reader" (43) ({ cls := "java/lang/String", name := "charAt", desc := "(I)C" } : MethodName)),
  (.methodLink "SkittleRow$Reader" (47) ({ cls := "SkittleRow$Reader", name := "isWord", desc := "(Ljava/lang/String;II)Z" } : MethodName)),
  (.methodLink "SkittleRow$Reader" (58) ({ cls := "SkittleRow$Reader", name := "isDigit", desc := "(I)Z" } : MethodName)),
  (.methodLink "SkittleRow$Reader" (62) ({ cls := "SkittleRow$Reader", name := "refuse", desc := "(II)V" } : MethodName)),
  (.methodLink "SkittleRow$Reader" (31) ({ cls := "SkittleRow$Reader", name := "sound", desc := "()Z" } : MethodName)),
  (.methodLink "SkittleRow$Reader" (66) ({ cls := "SkittleRow$Reader", name := "takes", desc := "(I)Z" } : MethodName)),
  (.methodLink "SkittleRow$Reader" (51) ({ cls := "SkittleRow$Reader", name := "wordOf", desc := "(Ljava/lang/String;)I" } : MethodName)),
  (.methodLink "SkittleRow$Reader" (55) ({ cls := "SkittleRow$Reader", name := "skipWord", desc := "()V" } : MethodName))]
theorem sk_wl5_in : ∀ w ∈ sk_wl5, w ∈ sk_wds := sk_all2_mem _ [450, 451, 454, 455, 458, 459, 498, 502, 512, 550, 570, 573, 606, 607, 795, 796] (by decide +kernel)
def sk_wl6 : List Cond := [
  (.methodLink "SkittleRow$Rule" (3) ({ cls := "java/lang/Object", name := "<init>", desc := "()V" } : MethodName)),
  (.fieldLink "SkittleRow$Rule" (9) "SkittleRow$Rule" "code" "[I"),
  (.fieldLink "SkittleRow$Rule" (28) "SkittleRow$Rule" "clauses" "I"),
  (.fieldLink "SkittleRow$Rule" (15) "SkittleRow$Rule" "sumFrom" "[I"),
  (.fieldLink "SkittleRow$Rule" (18) "SkittleRow$Rule" "testFrom" "[I"),
  (.fieldLink "SkittleRow$Rule" (21) "SkittleRow$Rule" "testTo" "[I"),
  (.fieldLink "SkittleRow$Rule" (24) "SkittleRow$Rule" "stack" "[J"),
  (.fieldLink "SkittleRow$Rule" (41) "SkittleRow$Rule" "words" "I"),
  (.methodLink "SkittleRow$Rule" (32) ({ cls := "java/lang/Math", name := "min", desc := "(II)I" } : MethodName)),
  (.methodLink "SkittleRow$Rule" (38) ({ cls := "java/lang/Math", name := "max", desc := "(II)I" } : MethodName)),
  (.constant "SkittleRow$Rule" (44) (100000 : Int32)),
  (.methodLink "SkittleRow$Rule" (45) ({ cls := "SkittleRow$Rule", name := "reckon", desc := "(IILSkittleRow$Look;)J" } : MethodName)),
  (.methodLink "SkittleRow$Rule" (49) ({ cls := "SkittleRow$Look", name := "word", desc := "(I)J" } : MethodName)),
  (.methodLink "SkittleRow$Rule" (55) ({ cls := "SkittleRow$Rule", name := "join", desc := "(IJJ)J" } : MethodName))]
theorem sk_wl6_in : ∀ w ∈ sk_wl6, w ∈ sk_wds := sk_all2_mem _ [732, 733, 734, 735, 736, 737, 738, 739, 831, 832, 835, 1054, 1058, 1062] (by decide +kernel)
def sk_wl7 : List Cond := [
  (.fieldLink "SkittleRow$RuleReader" (49) "SkittleRow$Reader" "at" "I"),
  (.methodLink "SkittleRow$RuleReader" (3) ({ cls := "java/lang/Object", name := "<init>", desc := "()V" } : MethodName)),
  (.fieldLink "SkittleRow$RuleReader" (15) "SkittleRow$RuleReader" "text" "LSkittleRow$Reader;"),
  (.fieldLink "SkittleRow$RuleReader" (9) "SkittleRow$RuleReader" "code" "[I"),
  (.fieldLink "SkittleRow$RuleReader" (35) "SkittleRow$RuleReader" "size" "I"),
  (.fieldLink "SkittleRow$RuleReader" (129) "SkittleRow$RuleReader" "parts" "I"),
  (.classLink "SkittleRow$RuleReader" (19) "SkittleRow$Rule"),
  (.methodLink "SkittleRow$RuleReader" (21) ({ cls := "SkittleRow$Rule", name := "<init>", desc := "()V" } : MethodName)),
  (.methodLink "SkittleRow$RuleReader" (22) ({ cls := "SkittleRow$RuleReader", name := "readClause", desc := "(ILSkittleRow$Rule;)V" } : MethodName)),
  (.methodLink "SkittleRow$RuleReader" (45) ({ cls := "SkittleRow$Reader", name := "wordOf", desc := "(Ljava/lang/String;)I" } : MethodName)),
  (.methodLink "SkittleRow$RuleReader" (52) ({ cls := "SkittleRow$Reader", name := "refuse", desc := "(II)V" } : MethodName)),
  (.methodLink "SkittleRow$RuleReader" (56) ({ cls := "SkittleRow$Reader", name := "skipWord", desc := "()V" } : MethodName)),
  (.methodLink "SkittleRow$RuleReader" (59) ({ cls := "SkittleRow$RuleReader", name := "readSum", desc := "()V" } : MethodName)),
  (.methodLink "SkittleRow$RuleReader" (111) ({ cls := "SkittleRow$RuleReader", name := "readValue", desc := "()V" } : MethodName)),
  (.methodLink "SkittleRow$RuleReader" (89) ({ cls := "SkittleRow$Reader", name := "next", desc := "()I" } : MethodName)),
  (.methodLink "SkittleRow$RuleReader" (32) ({ cls := "SkittleRow$Reader", name := "sound", desc := "()Z" } : MethodName)),
  (.methodLink "SkittleRow$RuleReader" (118) ({ cls := "SkittleRow$Reader", name := "isDigit", desc := "(I)Z" } : MethodName)),
  (.constant "SkittleRow$RuleReader" (121) (99999 : Int32)),
  (.methodLink "SkittleRow$RuleReader" (122) ({ cls := "SkittleRow$Reader", name := "number", desc := "(II)I" } : MethodName)),
  (.constant "SkittleRow$RuleReader" (128) (100000 : Int32)),
  (.methodLink "SkittleRow$RuleReader" (105) ({ cls := "SkittleRow$RuleReader", name := "countPart", desc := "(I)V" } : MethodName)),
  (.methodLink "SkittleRow$RuleReader" (81) ({ cls := "SkittleRow$RuleReader", name := "put", desc := "(I)V" } : MethodName)),
  (.methodLink "SkittleRow$RuleReader" (114) ({ cls := "SkittleRow$RuleReader", name := "codeOf", desc := "(I)I" } : MethodName)),
  (.methodLink "SkittleRow$RuleReader" (64) ({ cls := "SkittleRow$Reader", name := "takesWord", desc := "(Ljava/lang/String;)Z" } : MethodName)),
  (.methodLink "SkittleRow$RuleReader" (68) ({ cls := "SkittleRow$RuleReader", name := "readTest", desc := "(I)V" } : MethodName)),
  (.methodLink "SkittleRow$RuleReader" (76) ({ cls := "SkittleRow$RuleReader", name := "readPart", desc := "(I)V" } : MethodName)),
  (.methodLink "SkittleRow$RuleReader" (84) ({ cls := "SkittleRow$RuleReader", name := "readFact", desc := "(I)V" } : MethodName)),
  (.methodLink "SkittleRow$RuleReader" (95) ({ cls := "SkittleRow$RuleReader", name := "readComparison", desc := "()V" } : MethodName)),
  (.methodLink "SkittleRow$RuleReader" (102) ({ cls := "SkittleRow$RuleReader", name := "readSign", desc := "()I" } : MethodName)),
  (.methodLink "SkittleRow$RuleReader" (108) ({ cls := "SkittleRow$Reader", name := "look", desc := "()I" } : MethodName)),
  (.methodLink "SkittleRow$RuleReader" (98) ({ cls := "SkittleRow$Reader", name := "takes", desc := "(I)Z" } : MethodName)),
  (.methodLink "SkittleRow$RuleReader" (72) ({ cls := "SkittleRow$Rule", name := "addClause", desc := "(III)V" } : MethodName)),
  (.methodLink "SkittleRow$RuleReader" (26) ({ cls := "SkittleRow$Reader", name := "goesOn", desc := "()Z" } : MethodName)),
  (.methodLink "SkittleRow$RuleReader" (39) ({ cls := "SkittleRow$Rule", name := "settle", desc := "([II)V" } : MethodName))]
theorem sk_wl7_in : ∀ w ∈ sk_wl7, w ∈ sk_wds := sk_all2_mem _ [456, 709, 710, 711, 712, 713, 727, 729, 756, 761, 762, 763, 764, 768, 772, 773, 774, 775, 776, 778, 779, 783, 787, 791, 797, 801, 805, 810, 814, 818, 819, 822, 826, 827] (by decide +kernel)
def sk_wl8 : List Cond := [
  (.methodLink "SkittleRow$State" (3) ({ cls := "java/lang/Object", name := "<init>", desc := "()V" } : MethodName)),
  (.classLink "SkittleRow$State" (18) "SkittleRow$Stroke"),
  (.fieldLink "SkittleRow$State" (24) "SkittleRow$State" "alley" "LSkittleRow$Alley;"),
  (.fieldLink "SkittleRow$State" (34) "SkittleRow$State" "standing" "I"),
  (.fieldLink "SkittleRow$State" (38) "SkittleRow$State" "turn" "I"),
  (.fieldLink "SkittleRow$State" (41) "SkittleRow$State" "played" "I"),
  (.fieldLink "SkittleRow$State" (57) "SkittleRow$State" "x" "I"),
  (.fieldLink "SkittleRow$State" (9) "SkittleRow$State" "notePlayer" "[I"),
  (.fieldLink "SkittleRow$State" (15) "SkittleRow$State" "noteStanding" "[I"),
  (.fieldLink "SkittleRow$State" (20) "SkittleRow$State" "noteStroke" "[LSkittleRow$Stroke;"),
  (.fieldLink "SkittleRow$State" (35) "SkittleRow$Alley" "first" "I"),
  (.fieldLink "SkittleRow$State" (28) "SkittleRow$Alley" "standing" "I"),
  (.fieldLink "SkittleRow$State" (54) "SkittleRow$Stroke" "mask" "I"),
  (.methodLink "SkittleRow$State" (44) ({ cls := "java/lang/Math", name := "min", desc := "(II)I" } : MethodName)),
  (.methodLink "SkittleRow$State" (50) ({ cls := "SkittleRow$State", name := "noted", desc := "()I" } : MethodName))]
theorem sk_wl8_in : ∀ w ∈ sk_wl8, w ∈ sk_wds := sk_all2_mem _ [144, 145, 147, 150, 154, 158, 163, 165, 166, 168, 225, 227, 643, 1073, 1078] (by decide +kernel)
def sk_wl9 : List Cond := [
  (.methodLink "SkittleRow$Stroke" (1) ({ cls := "java/lang/Object", name := "<init>", desc := "()V" } : MethodName)),
  (.fieldLink "SkittleRow$Stroke" (7) "SkittleRow$Stroke" "place" "I"),
  (.fieldLink "SkittleRow$Stroke" (13) "SkittleRow$Stroke" "many" "I"),
  (.fieldLink "SkittleRow$Stroke" (16) "SkittleRow$Stroke" "row" "I"),
  (.fieldLink "SkittleRow$Stroke" (19) "SkittleRow$Stroke" "mask" "I"),
  (.fieldLink "SkittleRow$Stroke" (22) "SkittleRow$Stroke" "behind" "I"),
  (.fieldLink "SkittleRow$Stroke" (25) "SkittleRow$Stroke" "ahead" "I"),
  (.fieldLink "SkittleRow$Stroke" (34) "SkittleRow$Stroke" "laws" "J")]
theorem sk_wl9_in : ∀ w ∈ sk_wl9, w ∈ sk_wds := sk_all2_mem _ [626, 629, 633, 637, 639, 645, 646, 648] (by decide +kernel)
def sk_wl10 : List Cond := [
  (.methodLink "SkittleRow$Tables" (3) ({ cls := "java/lang/Object", name := "<init>", desc := "()V" } : MethodName)),
  (.classLink "SkittleRow$Tables" (9) "SkittleRow$Alley"),
  (.methodLink "SkittleRow$Tables" (11) ({ cls := "SkittleRow$Alley", name := "<init>", desc := "()V" } : MethodName)),
  (.fieldLink "SkittleRow$Tables" (38) "SkittleRow$Alley" "places" "I"),
  (.fieldLink "SkittleRow$Tables" (45) "SkittleRow$Alley" "hits" "I"),
  (.fieldLink "SkittleRow$Tables" (48) "SkittleRow$Alley" "ends" "Z"),
  (.fieldLink "SkittleRow$Tables" (52) "SkittleRow$Alley" "last" "Z"),
  (.fieldLink "SkittleRow$Tables" (129) "SkittleRow$Alley" "stray" "I"),
  (.fieldLink "SkittleRow$Tables" (102) "SkittleRow$Alley" "strokes" "[LSkittleRow$Stroke;"),
  (.fieldLink "SkittleRow$Tables" (73) "SkittleRow$Alley" "strokesOfAnyLaw" "[LSkittleRow$Stroke;"),
  (.fieldLink "SkittleRow$Tables" (12) "SkittleRow$Tables" "alley" "LSkittleRow$Alley;"),
  (.fieldLink "SkittleRow$Tables" (55) "SkittleRow$Tables" "ownLaw" "I"),
  (.fieldLink "SkittleRow$Tables" (42) "SkittleRow$Tables" "states" "I"),
  (.fieldLink "SkittleRow$Tables" (18) "SkittleRow$Tables" "winning" "[J"),
  (.fieldLink "SkittleRow$Tables" (22) "SkittleRow$Tables" "lengths" "[I"),
  (.fieldLink "SkittleRow$Tables" (26) "SkittleRow$Tables" "playCounts" "[I"),
  (.fieldLink "SkittleRow$Tables" (29) "SkittleRow$Tables" "chances" "[I"),
  (.fieldLink "SkittleRow$Tables" (32) "SkittleRow$Tables" "clever" "[I"),
  (.fieldLink "SkittleRow$Tables" (35) "SkittleRow$Tables" "childish" "[I"),
  (.fieldLink "SkittleRow$Tables" (58) "SkittleRow$Tables" "hasWinning" "Z"),
  (.fieldLink "SkittleRow$Tables" (61) "SkittleRow$Tables" "hasLengths" "Z"),
  (.fieldLink "SkittleRow$Tables" (64) "SkittleRow$Tables" "hasPlayCounts" "Z"),
  (.fieldLink "SkittleRow$Tables" (67) "SkittleRow$Tables" "hasChances" "Z"),
  (.fieldLink "SkittleRow$Tables" (70) "SkittleRow$Tables" "hasClever" "Z"),
  (.fieldLink "SkittleRow$Tables" (77) "SkittleRow$Stroke" "mask" "I"),
  (.fieldLink "SkittleRow$Tables" (126) "SkittleRow$Stroke" "ahead" "I"),
  (.fieldLink "SkittleRow$Tables" (86) "SkittleRow$Stroke" "laws" "J"),
  (.methodLink "SkittleRow$Tables" (99) ({ cls := "SkittleRow$Tables", name := "canWin", desc := "(I)Z" } : MethodName)),
  (.methodLink "SkittleRow$Tables" (96) ({ cls := "SkittleRow$Tables", name := "fillWinning", desc := "()V" } : MethodName)),
  (.methodLink "SkittleRow$Tables" (82) ({ cls := "SkittleRow$Stroke", name := "hasEndIn", desc := "(I)Z" } : MethodName)),
  (.constantLong "SkittleRow$Tables" (90) (230584300921369395 : Int64)),
  (.constantLong "SkittleRow$Tables" (92) (-1 : Int64)),
  (.constantLong "SkittleRow$Tables" (94) (768614336404564650 : Int64)),
  (.methodLink "SkittleRow$Tables" (118) ({ cls := "SkittleRow$Tables", name := "fillLengths", desc := "()V" } : MethodName)),
  (.methodLink "SkittleRow$Tables" (105) ({ cls := "SkittleRow$Alley", name := "allows", desc := "(ILSkittleRow$Stroke;)Z" } : MethodName)),
  (.methodLink "SkittleRow$Tables" (109) ({ cls := "SkittleRow$Tables", name := "winsBy", desc := "(ILSkittleRow$Stroke;)Z" } : MethodName)),
  (.methodLink "SkittleRow$Tables" (112) ({ cls := "java/lang/Math", name := "max", desc := "(II)I" } : MethodName)),
  (.methodLink "SkittleRow$Tables" (123) ({ cls := "SkittleRow$Tables", name := "fillPlayCounts", desc := "()V" } : MethodName)),
  (.constantLong "SkittleRow$Tables" (121) (1000000007 : Int64)),
  (.methodLink "SkittleRow$Tables" (132) ({ cls := "SkittleRow$Tables", name := "fillChances", desc := "()V" } : MethodName)),
  (.methodLink "SkittleRow$Tables" (135) ({ cls := "SkittleRow$Tables", name := "fillClever", desc := "()V" } : MethodName))]
theorem sk_wl10_in : ∀ w ∈ sk_wl10, w ∈ sk_wds := sk_all2_mem _ [217, 218, 220, 230, 237, 240, 243, 248, 264, 267, 306, 307, 308, 309, 310, 311, 312, 313, 314, 315, 316, 317, 318, 319, 641, 647, 649, 860, 864, 868, 869, 870, 871, 957, 961, 962, 963, 972, 976, 993, 1005] (by decide +kernel)
def sk_wl11 : List Cond := [
  (.methodLink "SkittleRow" (3) ({ cls := "java/lang/Object", name := "<init>", desc := "()V" } : MethodName)),
  (.classLink "SkittleRow" (13) "SkittleRow$Rule"),
  (.classLink "SkittleRow" (19) "SkittleRow$State"),
  (.methodLink "SkittleRow" (21) ({ cls := "SkittleRow$State", name := "<init>", desc := "()V" } : MethodName)),
  (.fieldLink "SkittleRow" (104) "SkittleRow$State" "alley" "LSkittleRow$Alley;"),
  (.fieldLink "SkittleRow" (108) "SkittleRow$State" "standing" "I"),
  (.fieldLink "SkittleRow" (143) "SkittleRow$State" "turn" "I"),
  (.fieldLink "SkittleRow" (240) "SkittleRow$State" "played" "I"),
  (.fieldLink "SkittleRow" (234) "SkittleRow$State" "x" "I"),
  (.fieldLink "SkittleRow" (217) "SkittleRow$State" "noteStanding" "[I"),
  (.classLink "SkittleRow" (30) "SkittleRow$Acts"),
  (.methodLink "SkittleRow" (32) ({ cls := "SkittleRow$Acts", name := "<init>", desc := "()V" } : MethodName)),
  (.fieldLink "SkittleRow" (243) "SkittleRow$Acts" "kept" "I"),
  (.classLink "SkittleRow" (37) "SkittleRow$Tables"),
  (.methodLink "SkittleRow" (39) ({ cls := "SkittleRow$Tables", name := "<init>", desc := "()V" } : MethodName)),
  (.fieldLink "SkittleRow" (90) "SkittleRow$Alley" "places" "I"),
  (.fieldLink "SkittleRow" (169) "SkittleRow$Alley" "rows" "I"),
  (.fieldLink "SkittleRow" (111) "SkittleRow$Alley" "rowOf" "[I"),
  (.fieldLink "SkittleRow" (115) "SkittleRow$Alley" "behind" "[I"),
  (.fieldLink "SkittleRow" (118) "SkittleRow$Alley" "ahead" "[I"),
  (.fieldLink "SkittleRow" (154) "SkittleRow$Alley" "strokes" "[LSkittleRow$Stroke;"),
  (.fieldLink "SkittleRow" (176) "SkittleRow$Alley" "plainWorths" "[I"),
  (.classLink "SkittleRow" (44) "SkittleRow$Bout"),
  (.methodLink "SkittleRow" (46) ({ cls := "SkittleRow$Bout", name := "<init>", desc := "()V" } : MethodName)),
  (.fieldLink "SkittleRow" (207) "SkittleRow$Bout" "wonByZero" "I"),
  (.fieldLink "SkittleRow" (205) "SkittleRow$Bout" "strokes" "I"),
  (.fieldLink "SkittleRow" (9) "SkittleRow" "tape" "[C"),
  (.fieldLink "SkittleRow" (51) "SkittleRow" "tapeLength" "I"),
  (.fieldLink "SkittleRow" (15) "SkittleRow" "rules" "[LSkittleRow$Rule;"),
  (.fieldLink "SkittleRow" (95) "SkittleRow" "ruleCount" "I"),
  (.fieldLink "SkittleRow" (22) "SkittleRow" "now" "LSkittleRow$State;"),
  (.fieldLink "SkittleRow" (26) "SkittleRow" "images" "[LSkittleRow$State;"),
  (.fieldLink "SkittleRow" (33) "SkittleRow" "acts" "LSkittleRow$Acts;"),
  (.fieldLink "SkittleRow" (40) "SkittleRow" "tables" "LSkittleRow$Tables;"),
  (.fieldLink "SkittleRow" (47) "SkittleRow" "bout" "LSkittleRow$Bout;"),
  (.methodLink "SkittleRow" (55) ({ cls := "SkittleRow", name := "putBytes", desc := "(I)V" } : MethodName)),
  (.classLink "SkittleRow" (59) "SkittleRow$Reader"),
  (.methodLink "SkittleRow" (61) ({ cls := "SkittleRow$Reader", name := "<init>", desc := "([CI)V" } : MethodName)),
  (.fieldLink "SkittleRow" (77) "SkittleRow$Reader" "fault" "I"),
  (.classLink "SkittleRow" (64) "SkittleRow$AlleyReader"),
  (.methodLink "SkittleRow" (66) ({ cls := "SkittleRow$AlleyReader", name := "<init>", desc := "(LSkittleRow$Reader;)V" } : MethodName)),
  (.methodLink "SkittleRow" (69) ({ cls := "SkittleRow$AlleyReader", name := "read", desc := "()LSkittleRow$Alley;" } : MethodName)),
  (.fieldLink "SkittleRow" (161) "SkittleRow$Stroke" "place" "I"),
  (.fieldLink "SkittleRow" (166) "SkittleRow$Stroke" "many" "I"),
  (.methodLink "SkittleRow" (73) ({ cls := "SkittleRow$Reader", name := "sound", desc := "()Z" } : MethodName)),
  (.methodLink "SkittleRow" (80) ({ cls := "SkittleRow$State", name := "begin", desc := "(LSkittleRow$Alley;)V" } : MethodName)),
  (.methodLink "SkittleRow" (84) ({ cls := "SkittleRow$Acts", name := "forget", desc := "()V" } : MethodName)),
  (.methodLink "SkittleRow" (87) ({ cls := "SkittleRow$Tables", name := "use", desc := "(LSkittleRow$Alley;)V" } : MethodName)),
  (.classLink "SkittleRow" (98) "SkittleRow$RuleReader"),
  (.methodLink "SkittleRow" (100) ({ cls := "SkittleRow$RuleReader", name := "<init>", desc := "(LSkittleRow$Reader;)V" } : MethodName)),
  (.methodLink "SkittleRow" (101) ({ cls := "SkittleRow$RuleReader", name := "read", desc := "()LSkittleRow$Rule;" } : MethodName)),
  (.methodLink "SkittleRow" (121) ({ cls := "SkittleRow$Alley", name := "strokeOf", desc := "(III)LSkittleRow$Stroke;" } : MethodName)),
  (.methodLink "SkittleRow" (125) ({ cls := "SkittleRow$Tables", name := "winsBy", desc := "(ILSkittleRow$Stroke;)Z" } : MethodName)),
  (.methodLink "SkittleRow" (129) ({ cls := "SkittleRow$Acts", name := "keep", desc := "(LSkittleRow$State;)V" } : MethodName)),
  (.methodLink "SkittleRow" (133) ({ cls := "SkittleRow$State", name := "play", desc := "(LSkittleRow$Stroke;)V" } : MethodName)),
  (.methodLink "SkittleRow" (137) ({ cls := "java/lang/Integer", name := "bitCount", desc := "(I)I" } : MethodName)),
  (.methodLink "SkittleRow" (146) ({ cls := "SkittleRow$Acts", name := "takeBack", desc := "(LSkittleRow$State;)I" } : MethodName)),
  (.methodLink "SkittleRow" (150) ({ cls := "SkittleRow$Tables", name := "canWin", desc := "(I)Z" } : MethodName)),
  (.methodLink "SkittleRow" (158) ({ cls := "SkittleRow$Alley", name := "allows", desc := "(ILSkittleRow$Stroke;)Z" } : MethodName)),
  (.methodLink "SkittleRow" (172) ({ cls := "SkittleRow$Alley", name := "rowWorth", desc := "(II)I" } : MethodName)),
  (.methodLink "SkittleRow" (179) ({ cls := "SkittleRow$Alley", name := "sameFrom", desc := "(I)I" } : MethodName)),
  (.methodLink "SkittleRow" (182) ({ cls := "SkittleRow$Tables", name := "lengthAt", desc := "(I)I" } : MethodName)),
  (.methodLink "SkittleRow" (185) ({ cls := "SkittleRow$Tables", name := "playsAt", desc := "(I)I" } : MethodName)),
  (.methodLink "SkittleRow" (188) ({ cls := "SkittleRow", name := "fairSet", desc := "()I" } : MethodName)),
  (.methodLink "SkittleRow" (192) ({ cls := "SkittleRow$Tables", name := "chanceAt", desc := "(I)I" } : MethodName)),
  (.methodLink "SkittleRow" (195) ({ cls := "SkittleRow$Tables", name := "childAt", desc := "(I)I" } : MethodName)),
  (.methodLink "SkittleRow" (198) ({ cls := "SkittleRow", name := "isRule", desc := "(I)Z" } : MethodName)),
  (.methodLink "SkittleRow" (201) ({ cls := "SkittleRow$Bout", name := "playTimes", desc := "(LSkittleRow$State;LSkittleRow$Tables;LSkittleRow$Rule;LSkittleRow$Rule;I)V" } : MethodName)),
  (.methodLink "SkittleRow" (210) ({ cls := "SkittleRow$State", name := "noted", desc := "()I" } : MethodName)),
  (.methodLink "SkittleRow" (213) ({ cls := "SkittleRow$State", name := "strokeNoted", desc := "(II)LSkittleRow$Stroke;" } : MethodName)),
  (.constantLong "SkittleRow" (220) (1152921504606846975 : Int64)),
  (.methodLink "SkittleRow" (222) ({ cls := "SkittleRow$Tables", name := "lawsBehind", desc := "(ILSkittleRow$Stroke;)J" } : MethodName)),
  (.methodLink "SkittleRow" (226) ({ cls := "java/lang/Long", name := "bitCount", desc := "(J)I" } : MethodName)),
  (.methodLink "SkittleRow" (231) ({ cls := "java/lang/Long", name := "numberOfTrailingZeros", desc := "(J)I" } : MethodName)),
  (.methodLink "SkittleRow" (237) ({ cls := "SkittleRow$Alley", name := "number", desc := "(I)I" } : MethodName)),
  (.methodLink "SkittleRow" (246) ({ cls := "SkittleRow$State", name := "copyOf", desc := "(LSkittleRow$State;)V" } : MethodName))]
theorem sk_wl11_in : ∀ w ∈ sk_wl11, w ∈ sk_wds := sk_all2_mem _ [134, 137, 139, 141, 149, 153, 157, 161, 164, 167, 189, 191, 200, 212, 214, 233, 236, 251, 259, 261, 265, 269, 350, 352, 379, 381, 401, 402, 403, 404, 405, 406, 407, 408, 409, 433, 445, 447, 460, 470, 472, 485, 632, 636, 687, 688, 692, 696, 704, 706, 723, 844, 856, 876, 881, 885, 903, 911, 916, 921, 945, 953, 968, 981, 989, 1001, 1013, 1017, 1069, 1074, 1083, 1084, 1088, 1094, 1111, 1119] (by decide +kernel)
def sk_wl12 : List Cond := [
  (.methodLink "SkittleRowModel" (1) ({ cls := "java/lang/Object", name := "<init>", desc := "()V" } : MethodName)),
  (.fieldLink "SkittleRowModel" (7) "SkittleRowModel" "tape" "[B"),
  (.fieldLink "SkittleRowModel" (77) "SkittleRowModel" "taped" "I"),
  (.fieldLink "SkittleRowModel" (263) "SkittleRowModel" "rules" "I"),
  (.fieldLink "SkittleRowModel" (13) "SkittleRowModel" "sign" "[I"),
  (.fieldLink "SkittleRowModel" (17) "SkittleRowModel" "length" "[I"),
  (.fieldLink "SkittleRowModel" (20) "SkittleRowModel" "clause" "[I"),
  (.fieldLink "SkittleRowModel" (23) "SkittleRowModel" "clauses" "[I"),
  (.fieldLink "SkittleRowModel" (26) "SkittleRowModel" "read" "[I"),
  (.fieldLink "SkittleRowModel" (87) "SkittleRowModel" "next" "I"),
  (.fieldLink "SkittleRowModel" (84) "SkittleRowModel" "wrong" "I"),
  (.fieldLink "SkittleRowModel" (112) "SkittleRowModel" "number" "I"),
  (.fieldLink "SkittleRowModel" (141) "SkittleRowModel" "text" "I"),
  (.fieldLink "SkittleRowModel" (144) "SkittleRowModel" "made" "I"),
  (.fieldLink "SkittleRowModel" (147) "SkittleRowModel" "deep" "I"),
  (.fieldLink "SkittleRowModel" (251) "SkittleRowModel" "lines" "I"),
  (.fieldLink "SkittleRowModel" (29) "SkittleRowModel" "open" "[I"),
  (.fieldLink "SkittleRowModel" (150) "SkittleRowModel" "opened" "I"),
  (.fieldLink "SkittleRowModel" (32) "SkittleRowModel" "stack" "[J"),
  (.fieldLink "SkittleRowModel" (272) "SkittleRowModel" "top" "I"),
  (.fieldLink "SkittleRowModel" (36) "SkittleRowModel" "word" "[J"),
  (.fieldLink "SkittleRowModel" (39) "SkittleRowModel" "said" "[I"),
  (.fieldLink "SkittleRowModel" (433) "SkittleRowModel" "x" "I"),
  (.fieldLink "SkittleRowModel" (42) "SkittleRowModel" "won" "[Z"),
  (.fieldLink "SkittleRowModel" (46) "SkittleRowModel" "tableLaw" "I"),
  (.fieldLink "SkittleRowModel" (50) "SkittleRowModel" "wasSaid" "[I"),
  (.fieldLink "SkittleRowModel" (269) "SkittleRowModel" "undone" "I"),
  (.fieldLink "SkittleRowModel" (53) "SkittleRowModel" "worths" "[I"),
  (.fieldLink "SkittleRowModel" (56) "SkittleRowModel" "seen" "[Z"),
  (.fieldLink "SkittleRowModel" (59) "SkittleRowModel" "plains" "[I"),
  (.fieldLink "SkittleRowModel" (62) "SkittleRowModel" "table" "[I"),
  (.fieldLink "SkittleRowModel" (65) "SkittleRowModel" "other" "[I"),
  (.fieldLink "SkittleRowModel" (380) "SkittleRowModel" "runsMany" "I"),
  (.fieldLink "SkittleRowModel" (383) "SkittleRowModel" "runsLongest" "I"),
  (.fieldLink "SkittleRowModel" (386) "SkittleRowModel" "runsAlone" "I"),
  (.fieldLink "SkittleRowModel" (436) "SkittleRowModel" "drawX" "J"),
  (.fieldLink "SkittleRowModel" (451) "SkittleRowModel" "drawnWins" "I"),
  (.fieldLink "SkittleRowModel" (454) "SkittleRowModel" "drawnStrokes" "I"),
  (.fieldLink "SkittleRowModel" (68) "SkittleRowModel" "images" "[I"),
  (.fieldLink "SkittleRowModel" (71) "SkittleRowModel" "imageX" "[I"),
  (.fieldLink "SkittleRowModel" (74) "SkittleRowModel" "isMade" "[Z"),
  (.methodLink "SkittleRowModel" (80) ({ cls := "SkittleRowModel", name := "four", desc := "(I)V" } : MethodName)),
  (.methodLink "SkittleRowModel" (266) ({ cls := "SkittleRowModel", name := "readsAll", desc := "()Z" } : MethodName)),
  (.methodLink "SkittleRowModel" (260) ({ cls := "SkittleRowModel", name := "clauseHere", desc := "()Z" } : MethodName)),
  (.methodLink "SkittleRowModel" (90) ({ cls := "SkittleRowModel", name := "see", desc := "()I" } : MethodName)),
  (.methodLink "SkittleRowModel" (246) ({ cls := "SkittleRowModel", name := "isAlleyWord", desc := "()Z" } : MethodName)),
  (.constantLong "SkittleRowModel" (216) (418430870905 : Int64)),
  (.methodLink "SkittleRowModel" (98) ({ cls := "SkittleRowModel", name := "isWord", desc := "(J)Z" } : MethodName)),
  (.methodLink "SkittleRowModel" (94) ({ cls := "SkittleRowModel", name := "isLetter", desc := "(I)Z" } : MethodName)),
  (.constantLong "SkittleRowModel" (123) (7499639 : Int64)),
  (.constantLong "SkittleRowModel" (224) (1919512167 : Int64)),
  (.constantLong "SkittleRowModel" (229) (6842740 : Int64)),
  (.constantLong "SkittleRowModel" (234) (1701733491 : Int64)),
  (.constantLong "SkittleRowModel" (239) (1818325876 : Int64)),
  (.constantLong "SkittleRowModel" (244) (495874892153 : Int64)),
  (.constantLong "SkittleRowModel" (249) (126943973305189 : Int64)),
  (.methodLink "SkittleRowModel" (108) ({ cls := "SkittleRowModel", name := "fails", desc := "(II)Z" } : MethodName)),
  (.methodLink "SkittleRowModel" (254) ({ cls := "SkittleRowModel", name := "alleyLineHere", desc := "(I)Z" } : MethodName)),
  (.methodLink "SkittleRowModel" (218) ({ cls := "SkittleRowModel", name := "isAlleyHere", desc := "(I)Z" } : MethodName)),
  (.methodLink "SkittleRowModel" (102) ({ cls := "SkittleRowModel", name := "passWord", desc := "()V" } : MethodName)),
  (.methodLink "SkittleRowModel" (162) ({ cls := "SkittleRowModel", name := "numberHere", desc := "(II)Z" } : MethodName)),
  (.methodLink "SkittleRowModel" (105) ({ cls := "SkittleRowModel", name := "isDigit", desc := "(I)Z" } : MethodName)),
  (.methodLink "SkittleRowModel" (115) ({ cls := "SkittleRowModel", name := "in", desc := "(JJJ)Z" } : MethodName)),
  (.methodLink "SkittleRowModel" (221) ({ cls := "SkittleRowModel", name := "isRowHere", desc := "(I)Z" } : MethodName)),
  (.methodLink "SkittleRowModel" (213) ({ cls := "SkittleRowModel", name := "isPlaceHere", desc := "()Z" } : MethodName)),
  (.methodLink "SkittleRowModel" (226) ({ cls := "SkittleRowModel", name := "isRingHere", desc := "()Z" } : MethodName)),
  (.methodLink "SkittleRowModel" (231) ({ cls := "SkittleRowModel", name := "isHitHere", desc := "()Z" } : MethodName)),
  (.methodLink "SkittleRowModel" (236) ({ cls := "SkittleRowModel", name := "isOnceHere", desc := "(II)Z" } : MethodName)),
  (.methodLink "SkittleRowModel" (241) ({ cls := "SkittleRowModel", name := "isStrayHere", desc := "()Z" } : MethodName)),
  (.methodLink "SkittleRowModel" (257) ({ cls := "SkittleRowModel", name := "isStrokeHere", desc := "()Z" } : MethodName)),
  (.methodLink "SkittleRowModel" (178) ({ cls := "SkittleRowModel", name := "sum", desc := "()Z" } : MethodName)),
  (.methodLink "SkittleRowModel" (175) ({ cls := "SkittleRowModel", name := "term", desc := "()Z" } : MethodName)),
  (.methodLink "SkittleRowModel" (171) ({ cls := "SkittleRowModel", name := "value", desc := "()Z" } : MethodName)),
  (.constant "SkittleRowModel" (161) (99999 : Int32)),
  (.methodLink "SkittleRowModel" (165) ({ cls := "SkittleRowModel", name := "makes", desc := "(I)Z" } : MethodName)),
  (.methodLink "SkittleRowModel" (157) ({ cls := "SkittleRowModel", name := "puts", desc := "(II)V" } : MethodName)),
  (.methodLink "SkittleRowModel" (168) ({ cls := "SkittleRowModel", name := "wordHere", desc := "()I" } : MethodName)),
  (.constantLong "SkittleRowModel" (119) (482854658917 : Int64)),
  (.constantLong "SkittleRowModel" (121) (1835101817 : Int64)),
  (.constantLong "SkittleRowModel" (125) (8319381538419076711 : Int64)),
  (.constantLong "SkittleRowModel" (127) (1818584692 : Int64)),
  (.constantLong "SkittleRowModel" (129) (1920298611 : Int64)),
  (.constantLong "SkittleRowModel" (131) (30521817456538484 : Int64)),
  (.constantLong "SkittleRowModel" (133) (418431069797 : Int64)),
  (.constantLong "SkittleRowModel" (135) (7827310 : Int64)),
  (.constantLong "SkittleRowModel" (137) (1953854062 : Int64)),
  (.constantLong "SkittleRowModel" (139) (32497657166128499 : Int64)),
  (.constantLong "SkittleRowModel" (205) (26982 : Int64)),
  (.methodLink "SkittleRowModel" (207) ({ cls := "SkittleRowModel", name := "takesWord", desc := "(J)Z" } : MethodName)),
  (.methodLink "SkittleRowModel" (210) ({ cls := "SkittleRowModel", name := "tested", desc := "()Z" } : MethodName)),
  (.methodLink "SkittleRowModel" (195) ({ cls := "SkittleRowModel", name := "fact", desc := "()Z" } : MethodName)),
  (.constantLong "SkittleRowModel" (181) (7237492 : Int64)),
  (.methodLink "SkittleRowModel" (183) ({ cls := "SkittleRowModel", name := "opens", desc := "(I)Z" } : MethodName)),
  (.methodLink "SkittleRowModel" (186) ({ cls := "SkittleRowModel", name := "compare", desc := "()Z" } : MethodName)),
  (.methodLink "SkittleRowModel" (198) ({ cls := "SkittleRowModel", name := "closes", desc := "()V" } : MethodName)),
  (.methodLink "SkittleRowModel" (189) ({ cls := "SkittleRowModel", name := "settles", desc := "(I)V" } : MethodName)),
  (.methodLink "SkittleRowModel" (153) ({ cls := "SkittleRowModel", name := "strength", desc := "(I)I" } : MethodName)),
  (.methodLink "SkittleRowModel" (192) ({ cls := "SkittleRowModel", name := "isInside", desc := "()Z" } : MethodName)),
  (.constantLong "SkittleRowModel" (201) (6385252 : Int64)),
  (.constantLong "SkittleRowModel" (203) (28530 : Int64)),
  (.methodLink "SkittleRowModel" (321) ({ cls := "SkittleRowModel", name := "isPlace", desc := "(I)Z" } : MethodName)),
  (.constantLong "SkittleRowModel" (324) (3 : Int64)),
  (.methodLink "SkittleRowModel" (287) ({ cls := "SkittleRowModel", name := "rowOf", desc := "(I)I" } : MethodName)),
  (.methodLink "SkittleRowModel" (293) ({ cls := "SkittleRowModel", name := "beside", desc := "(II)I" } : MethodName)),
  (.methodLink "SkittleRowModel" (326) ({ cls := "SkittleRowModel", name := "isAlley", desc := "()Z" } : MethodName)),
  (.constantLong "SkittleRowModel" (329) (4 : Int64)),
  (.methodLink "SkittleRowModel" (314) ({ cls := "SkittleRowModel", name := "canBeNow", desc := "(III)Z" } : MethodName)),
  (.methodLink "SkittleRowModel" (303) ({ cls := "SkittleRowModel", name := "canBe", desc := "(IIIIZ)Z" } : MethodName)),
  (.methodLink "SkittleRowModel" (290) ({ cls := "SkittleRowModel", name := "isOf", desc := "(II)Z" } : MethodName)),
  (.methodLink "SkittleRowModel" (297) ({ cls := "SkittleRowModel", name := "strokeBits", desc := "(II)I" } : MethodName)),
  (.methodLink "SkittleRowModel" (300) ({ cls := "SkittleRowModel", name := "lastOf", desc := "(II)I" } : MethodName)),
  (.methodLink "SkittleRowModel" (331) ({ cls := "SkittleRowModel", name := "winsBy", desc := "(III)Z" } : MethodName)),
  (.methodLink "SkittleRowModel" (318) ({ cls := "SkittleRowModel", name := "isWonAt", desc := "(I)Z" } : MethodName)),
  (.methodLink "SkittleRowModel" (311) ({ cls := "SkittleRowModel", name := "fillsNow", desc := "()V" } : MethodName)),
  (.methodLink "SkittleRowModel" (307) ({ cls := "SkittleRowModel", name := "fillsWon", desc := "(III)V" } : MethodName)),
  (.methodLink "SkittleRowModel" (334) ({ cls := "SkittleRowModel", name := "keepsAct", desc := "()V" } : MethodName)),
  (.methodLink "SkittleRowModel" (337) ({ cls := "SkittleRowModel", name := "notes", desc := "(II)V" } : MethodName)),
  (.methodLink "SkittleRowModel" (340) ({ cls := "SkittleRowModel", name := "bits", desc := "(I)I" } : MethodName)),
  (.constantLong "SkittleRowModel" (343) (2 : Int64)),
  (.methodLink "SkittleRowModel" (345) ({ cls := "SkittleRowModel", name := "clearsSeen", desc := "()V" } : MethodName)),
  (.methodLink "SkittleRowModel" (348) ({ cls := "SkittleRowModel", name := "leastUnseen", desc := "()I" } : MethodName)),
  (.constantLong "SkittleRowModel" (351) (40 : Int64)),
  (.methodLink "SkittleRowModel" (353) ({ cls := "SkittleRowModel", name := "fillsPlains", desc := "()V" } : MethodName)),
  (.methodLink "SkittleRowModel" (356) ({ cls := "SkittleRowModel", name := "comesAgain", desc := "(II)Z" } : MethodName)),
  (.methodLink "SkittleRowModel" (359) ({ cls := "SkittleRowModel", name := "lastsAt", desc := "(I)I" } : MethodName)),
  (.methodLink "SkittleRowModel" (364) ({ cls := "SkittleRowModel", name := "playsAt", desc := "(I)I" } : MethodName)),
  (.constantLong "SkittleRowModel" (362) (1000000007 : Int64)),
  (.methodLink "SkittleRowModel" (371) ({ cls := "SkittleRowModel", name := "chanceAt", desc := "(I)I" } : MethodName)),
  (.methodLink "SkittleRowModel" (367) ({ cls := "SkittleRowModel", name := "strayed", desc := "(III)I" } : MethodName)),
  (.methodLink "SkittleRowModel" (374) ({ cls := "SkittleRowModel", name := "bestAt", desc := "(I)I" } : MethodName)),
  (.methodLink "SkittleRowModel" (377) ({ cls := "SkittleRowModel", name := "childAt", desc := "(I)I" } : MethodName)),
  (.methodLink "SkittleRowModel" (410) ({ cls := "SkittleRowModel", name := "isRule", desc := "(I)Z" } : MethodName)),
  (.methodLink "SkittleRowModel" (413) ({ cls := "SkittleRowModel", name := "strokeBy", desc := "(IIII)I" } : MethodName)),
  (.methodLink "SkittleRowModel" (402) ({ cls := "SkittleRowModel", name := "words", desc := "(IIIII)V" } : MethodName)),
  (.methodLink "SkittleRowModel" (395) ({ cls := "SkittleRowModel", name := "countsRuns", desc := "(I)V" } : MethodName)),
  (.methodLink "SkittleRowModel" (392) ({ cls := "SkittleRowModel", name := "countsRow", desc := "(II)V" } : MethodName)),
  (.methodLink "SkittleRowModel" (389) ({ cls := "SkittleRowModel", name := "countsRun", desc := "(I)V" } : MethodName)),
  (.methodLink "SkittleRowModel" (406) ({ cls := "SkittleRowModel", name := "summedBy", desc := "(I)J" } : MethodName)),
  (.methodLink "SkittleRowModel" (398) ({ cls := "SkittleRowModel", name := "reckons", desc := "(III)J" } : MethodName)),
  (.methodLink "SkittleRowModel" (275) ({ cls := "SkittleRowModel", name := "push", desc := "(J)V" } : MethodName)),
  (.methodLink "SkittleRowModel" (279) ({ cls := "SkittleRowModel", name := "pop", desc := "()J" } : MethodName)),
  (.methodLink "SkittleRowModel" (283) ({ cls := "SkittleRowModel", name := "one", desc := "(IJJ)J" } : MethodName)),
  (.methodLink "SkittleRowModel" (417) ({ cls := "SkittleRowModel", name := "winner", desc := "(I)I" } : MethodName)),
  (.methodLink "SkittleRowModel" (420) ({ cls := "SkittleRowModel", name := "noted", desc := "(II)I" } : MethodName)),
  (.methodLink "SkittleRowModel" (423) ({ cls := "SkittleRowModel", name := "isOverAt", desc := "(I)Z" } : MethodName)),
  (.methodLink "SkittleRowModel" (426) ({ cls := "SkittleRowModel", name := "winsNoted", desc := "(I)Z" } : MethodName)),
  (.methodLink "SkittleRowModel" (429) ({ cls := "SkittleRowModel", name := "fitsLaw", desc := "(IIII)Z" } : MethodName)),
  (.constantLong "SkittleRowModel" (460) (50 : Int64)),
  (.methodLink "SkittleRowModel" (462) ({ cls := "SkittleRowModel", name := "playsDrawn", desc := "(II)V" } : MethodName)),
  (.methodLink "SkittleRowModel" (457) ({ cls := "SkittleRowModel", name := "strokeDrawn", desc := "(I)I" } : MethodName)),
  (.methodLink "SkittleRowModel" (448) ({ cls := "SkittleRowModel", name := "draw", desc := "(I)I" } : MethodName)),
  (.constantLong "SkittleRowModel" (440) (1103515245 : Int64)),
  (.constantLong "SkittleRowModel" (442) (12345 : Int64)),
  (.constantLong "SkittleRowModel" (444) (2147483648 : Int64)),
  (.constantLong "SkittleRowModel" (446) (65536 : Int64))]
theorem sk_wl12_in : ∀ w ∈ sk_wl12, w ∈ sk_wds := sk_all2_mem _ [1132, 1133, 1134, 1135, 1136, 1137, 1138, 1139, 1140, 1141, 1142, 1143, 1144, 1145, 1146, 1147, 1148, 1149, 1150, 1151, 1152, 1153, 1154, 1155, 1156, 1157, 1158, 1159, 1160, 1161, 1162, 1163, 1164, 1165, 1166, 1167, 1168, 1169, 1170, 1171, 1172, 1258, 1270, 1274, 1278, 1282, 1286, 1287, 1291, 1295, 1296, 1297, 1298, 1299, 1300, 1301, 1302, 1306, 1310, 1314, 1318, 1322, 1326, 1329, 1333, 1337, 1341, 1345, 1349, 1353, 1357, 1361, 1365, 1369, 1370, 1374, 1378, 1382, 1383, 1384, 1385, 1386, 1387, 1388, 1389, 1390, 1391, 1392, 1393, 1397, 1401, 1405, 1406, 1410, 1414, 1418, 1422, 1425, 1429, 1430, 1439, 1443, 1444, 1448, 1456, 1460, 1461, 1465, 1469, 1472, 1476, 1480, 1484, 1488, 1492, 1504, 1508, 1512, 1531, 1536, 1540, 1548, 1549, 1557, 1565, 1573, 1577, 1586, 1590, 1598, 1602, 1610, 1614, 1618, 1622, 1626, 1630, 1634, 1638, 1642, 1646, 1650, 1653, 1661, 1665, 1669, 1677, 1689, 1690, 1694, 1698, 1702, 1703, 1704, 1705] (by decide +kernel)
def sk_wl13 : List Cond := [
  (.classLink "SkittleRowLaw" (7) "SkittleRow"),
  (.methodLink "SkittleRowLaw" (9) ({ cls := "SkittleRow", name := "<init>", desc := "()V" } : MethodName)),
  (.methodLink "SkittleRowLaw" (13) ({ cls := "SkittleRow", name := "feed", desc := "(IIIII)I" } : MethodName)),
  (.methodLink "SkittleRowLaw" (18) ({ cls := "SkittleRow", name := "end", desc := "(I)I" } : MethodName)),
  (.methodLink "SkittleRowLaw" (23) ({ cls := "SkittleRow", name := "alley", desc := "()I" } : MethodName)),
  (.methodLink "SkittleRowLaw" (28) ({ cls := "SkittleRow", name := "rule", desc := "()I" } : MethodName)),
  (.methodLink "SkittleRowLaw" (32) ({ cls := "SkittleRow", name := "place", desc := "(II)I" } : MethodName)),
  (.methodLink "SkittleRowLaw" (37) ({ cls := "SkittleRow", name := "can", desc := "(II)I" } : MethodName)),
  (.methodLink "SkittleRowLaw" (41) ({ cls := "SkittleRow", name := "stroke", desc := "(II)I" } : MethodName)),
  (.methodLink "SkittleRowLaw" (45) ({ cls := "SkittleRow", name := "up", desc := "(I)I" } : MethodName)),
  (.methodLink "SkittleRowLaw" (49) ({ cls := "SkittleRow", name := "pass", desc := "()I" } : MethodName)),
  (.methodLink "SkittleRowLaw" (53) ({ cls := "SkittleRow", name := "undo", desc := "()I" } : MethodName)),
  (.methodLink "SkittleRowLaw" (57) ({ cls := "SkittleRow", name := "won", desc := "()I" } : MethodName)),
  (.methodLink "SkittleRowLaw" (61) ({ cls := "SkittleRow", name := "wins", desc := "(I)I" } : MethodName)),
  (.methodLink "SkittleRowLaw" (65) ({ cls := "SkittleRow", name := "worth", desc := "(I)I" } : MethodName)),
  (.methodLink "SkittleRowLaw" (69) ({ cls := "SkittleRow", name := "plain", desc := "(I)I" } : MethodName)),
  (.methodLink "SkittleRowLaw" (73) ({ cls := "SkittleRow", name := "again", desc := "(I)I" } : MethodName)),
  (.methodLink "SkittleRowLaw" (77) ({ cls := "SkittleRow", name := "lasts", desc := "()I" } : MethodName)),
  (.methodLink "SkittleRowLaw" (81) ({ cls := "SkittleRow", name := "plays", desc := "()I" } : MethodName)),
  (.methodLink "SkittleRowLaw" (85) ({ cls := "SkittleRow", name := "fair", desc := "(I)I" } : MethodName)),
  (.methodLink "SkittleRowLaw" (89) ({ cls := "SkittleRow", name := "chance", desc := "()I" } : MethodName)),
  (.methodLink "SkittleRowLaw" (93) ({ cls := "SkittleRow", name := "child", desc := "()I" } : MethodName)),
  (.methodLink "SkittleRowLaw" (97) ({ cls := "SkittleRow", name := "match", desc := "(III)I" } : MethodName)),
  (.methodLink "SkittleRowLaw" (102) ({ cls := "SkittleRow", name := "knew", desc := "(II)I" } : MethodName)),
  (.methodLink "SkittleRowLaw" (106) ({ cls := "SkittleRow", name := "law", desc := "(II)I" } : MethodName)),
  (.methodLink "SkittleRowLaw" (110) ({ cls := "SkittleRow", name := "seed", desc := "(I)I" } : MethodName)),
  (.methodLink "SkittleRowLaw" (114) ({ cls := "SkittleRow", name := "games", desc := "(II)I" } : MethodName)),
  (.methodLink "SkittleRowLaw" (118) ({ cls := "SkittleRow", name := "against", desc := "(III)I" } : MethodName)),
  (.methodLink "SkittleRowLaw" (122) ({ cls := "SkittleRow", name := "count", desc := "(I)I" } : MethodName)),
  (.methodLink "SkittleRowLaw" (126) ({ cls := "SkittleRow", name := "image", desc := "(I)I" } : MethodName)),
  (.methodLink "SkittleRowLaw" (130) ({ cls := "SkittleRow", name := "back", desc := "(I)I" } : MethodName)),
  (.classLink "SkittleRowLaw" (10) "SkittleRowModel"),
  (.methodLink "SkittleRowLaw" (12) ({ cls := "SkittleRowModel", name := "<init>", desc := "()V" } : MethodName)),
  (.methodLink "SkittleRowLaw" (17) ({ cls := "SkittleRowModel", name := "feed", desc := "(IIIII)I" } : MethodName)),
  (.methodLink "SkittleRowLaw" (22) ({ cls := "SkittleRowModel", name := "end", desc := "(I)I" } : MethodName)),
  (.methodLink "SkittleRowLaw" (31) ({ cls := "SkittleRowModel", name := "rule", desc := "()I" } : MethodName)),
  (.methodLink "SkittleRowLaw" (27) ({ cls := "SkittleRowModel", name := "alley", desc := "()I" } : MethodName)),
  (.methodLink "SkittleRowLaw" (36) ({ cls := "SkittleRowModel", name := "place", desc := "(II)I" } : MethodName)),
  (.methodLink "SkittleRowLaw" (40) ({ cls := "SkittleRowModel", name := "can", desc := "(II)I" } : MethodName)),
  (.methodLink "SkittleRowLaw" (56) ({ cls := "SkittleRowModel", name := "undo", desc := "()I" } : MethodName)),
  (.methodLink "SkittleRowLaw" (44) ({ cls := "SkittleRowModel", name := "stroke", desc := "(II)I" } : MethodName)),
  (.methodLink "SkittleRowLaw" (48) ({ cls := "SkittleRowModel", name := "up", desc := "(I)I" } : MethodName)),
  (.methodLink "SkittleRowLaw" (52) ({ cls := "SkittleRowModel", name := "pass", desc := "()I" } : MethodName)),
  (.methodLink "SkittleRowLaw" (60) ({ cls := "SkittleRowModel", name := "won", desc := "()I" } : MethodName)),
  (.methodLink "SkittleRowLaw" (64) ({ cls := "SkittleRowModel", name := "wins", desc := "(I)I" } : MethodName)),
  (.methodLink "SkittleRowLaw" (68) ({ cls := "SkittleRowModel", name := "worth", desc := "(I)I" } : MethodName)),
  (.methodLink "SkittleRowLaw" (72) ({ cls := "SkittleRowModel", name := "plain", desc := "(I)I" } : MethodName)),
  (.methodLink "SkittleRowLaw" (76) ({ cls := "SkittleRowModel", name := "again", desc := "(I)I" } : MethodName)),
  (.methodLink "SkittleRowLaw" (80) ({ cls := "SkittleRowModel", name := "lasts", desc := "()I" } : MethodName)),
  (.methodLink "SkittleRowLaw" (84) ({ cls := "SkittleRowModel", name := "plays", desc := "()I" } : MethodName)),
  (.methodLink "SkittleRowLaw" (88) ({ cls := "SkittleRowModel", name := "fair", desc := "(I)I" } : MethodName)),
  (.methodLink "SkittleRowLaw" (92) ({ cls := "SkittleRowModel", name := "chance", desc := "()I" } : MethodName)),
  (.methodLink "SkittleRowLaw" (96) ({ cls := "SkittleRowModel", name := "child", desc := "()I" } : MethodName)),
  (.methodLink "SkittleRowLaw" (101) ({ cls := "SkittleRowModel", name := "match", desc := "(III)I" } : MethodName)),
  (.methodLink "SkittleRowLaw" (105) ({ cls := "SkittleRowModel", name := "knew", desc := "(II)I" } : MethodName)),
  (.methodLink "SkittleRowLaw" (109) ({ cls := "SkittleRowModel", name := "law", desc := "(II)I" } : MethodName)),
  (.methodLink "SkittleRowLaw" (113) ({ cls := "SkittleRowModel", name := "seed", desc := "(I)I" } : MethodName)),
  (.methodLink "SkittleRowLaw" (117) ({ cls := "SkittleRowModel", name := "games", desc := "(II)I" } : MethodName)),
  (.methodLink "SkittleRowLaw" (121) ({ cls := "SkittleRowModel", name := "against", desc := "(III)I" } : MethodName)),
  (.methodLink "SkittleRowLaw" (125) ({ cls := "SkittleRowModel", name := "count", desc := "(I)I" } : MethodName)),
  (.methodLink "SkittleRowLaw" (129) ({ cls := "SkittleRowModel", name := "image", desc := "(I)I" } : MethodName)),
  (.methodLink "SkittleRowLaw" (133) ({ cls := "SkittleRowModel", name := "back", desc := "(I)I" } : MethodName))]
theorem sk_wl13_in : ∀ w ∈ sk_wl13, w ∈ sk_wds := sk_all2_mem _ [129, 131, 429, 437, 441, 700, 836, 840, 872, 891, 895, 899, 907, 912, 917, 937, 941, 949, 964, 977, 985, 997, 1009, 1065, 1079, 1095, 1099, 1103, 1107, 1115, 1123, 1127, 1129, 1254, 1262, 1266, 1431, 1435, 1452, 1496, 1500, 1515, 1519, 1523, 1527, 1532, 1544, 1553, 1561, 1569, 1578, 1582, 1594, 1606, 1657, 1673, 1681, 1685, 1706, 1710, 1714, 1718] (by decide +kernel)
def sk_wl14 : List Cond := [
  (.constant "java/lang/Integer" (264) (65536 : Int32)),
  (.constant "java/lang/Integer" (265) (1431655765 : Int32)),
  (.constant "java/lang/Integer" (266) (858993459 : Int32)),
  (.constant "java/lang/Integer" (267) (252645135 : Int32))]
theorem sk_wl14_in : ∀ w ∈ sk_wl14, w ∈ sk_wds := sk_all2_mem _ [686, 888, 889, 890] (by decide +kernel)
def sk_wl15 : List Cond := [
  (.methodLink "java/lang/Long" (311) ({ cls := "java/lang/Integer", name := "numberOfTrailingZeros", desc := "(I)I" } : MethodName)),
  (.constantLong "java/lang/Long" (314) (6148914691236517205 : Int64)),
  (.constantLong "java/lang/Long" (316) (3689348814741910323 : Int64)),
  (.constantLong "java/lang/Long" (318) (1085102592571150095 : Int64))]
theorem sk_wl15_in : ∀ w ∈ sk_wl15, w ∈ sk_wds := sk_all2_mem _ [683, 1091, 1092, 1093] (by decide +kernel)
def sk_wl16 : List Cond := []
theorem sk_wl16_in : ∀ w ∈ sk_wl16, w ∈ sk_wds := sk_all2_mem _ [] (by decide +kernel)
def sk_wl17 : List Cond := [
  (.methodLink "java/lang/String" (335) ({ cls := "java/lang/String", name := "coder", desc := "()B" } : MethodName)),
  (.fieldLink "java/lang/String" (38) "java/lang/String" "COMPACT_STRINGS" "Z"),
  (.methodLink "java/lang/String" (492) ({ cls := "java/lang/String", name := "isLatin1", desc := "()Z" } : MethodName)),
  (.methodLink "java/lang/String" (495) ({ cls := "java/lang/StringLatin1", name := "charAt", desc := "([BI)C" } : MethodName)),
  (.fieldLink "java/lang/String" (1053) "jdk/internal/util/Preconditions" "SIOOBE_FORMATTER" "Ljava/util/function/BiFunction;"),
  (.methodLink "java/lang/String" (1059) ({ cls := "jdk/internal/util/Preconditions", name := "checkIndex", desc := "(IILjava/util/function/BiFunction;)I" } : MethodName)),
  (.methodLink "java/lang/String" (498) ({ cls := "java/lang/StringUTF16", name := "charAt", desc := "([BI)C" } : MethodName)),
  (.fieldLink "java/lang/String" (9) "java/lang/String" "value" "[B"),
  (.fieldLink "java/lang/String" (15) "java/lang/String" "coder" "B")]
theorem sk_wl17_in : ∀ w ∈ sk_wl17, w ∈ sk_wds := sk_all2_mem _ [506, 510, 516, 520, 526, 528, 531, 1722, 1723] (by decide +kernel)
def sk_wl18 : List Cond := [
  (.methodLink "java/lang/StringLatin1" (9) ({ cls := "java/lang/String", name := "checkIndex", desc := "(II)V" } : MethodName))]
theorem sk_wl18_in : ∀ w ∈ sk_wl18, w ∈ sk_wds := sk_all2_mem _ [523] (by decide +kernel)
def sk_wl19 : List Cond := [
  (.methodLink "java/lang/StringUTF16" (67) ({ cls := "java/lang/StringUTF16", name := "checkIndex", desc := "(I[B)V" } : MethodName)),
  (.methodLink "java/lang/StringUTF16" (48) ({ cls := "java/lang/StringUTF16", name := "length", desc := "([B)I" } : MethodName)),
  (.methodLink "java/lang/StringUTF16" (414) ({ cls := "java/lang/String", name := "checkIndex", desc := "(II)V" } : MethodName)),
  (.methodLink "java/lang/StringUTF16" (71) ({ cls := "java/lang/StringUTF16", name := "getChar", desc := "([BI)C" } : MethodName)),
  (.fieldLink "java/lang/StringUTF16" (44) "java/lang/StringUTF16" "$assertionsDisabled" "Z"),
  (.fieldLink "java/lang/StringUTF16" (59) "java/lang/StringUTF16" "HI_BYTE_SHIFT" "I"),
  (.fieldLink "java/lang/StringUTF16" (63) "java/lang/StringUTF16" "LO_BYTE_SHIFT" "I")]
theorem sk_wl19_in : ∀ w ∈ sk_wl19, w ∈ sk_wds := sk_all2_mem _ [534, 537, 540, 541, 544, 546, 548] (by decide +kernel)
def sk_wl20 : List Cond := []
theorem sk_wl20_in : ∀ w ∈ sk_wl20, w ∈ sk_wds := sk_all2_mem _ [] (by decide +kernel)
def sk_wl : Nat → List Cond := fun c => match c with
  | 0 => sk_wl0
  | 1 => sk_wl1
  | 2 => sk_wl2
  | 3 => sk_wl3
  | 4 => sk_wl4
  | 5 => sk_wl5
  | 6 => sk_wl6
  | 7 => sk_wl7
  | 8 => sk_wl8
  | 9 => sk_wl9
  | 10 => sk_wl10
  | 11 => sk_wl11
  | 12 => sk_wl12
  | 13 => sk_wl13
  | 14 => sk_wl14
  | 15 => sk_wl15
  | 16 => sk_wl16
  | 17 => sk_wl17
  | 18 => sk_wl18
  | 19 => sk_wl19
  | 20 => sk_wl20
  | _ => []
theorem sk_wl_in : ∀ (c : Nat) (w : Cond), w ∈ sk_wl c → w ∈ sk_wds
  | 0, w, h => sk_wl0_in w h
  | 1, w, h => sk_wl1_in w h
  | 2, w, h => sk_wl2_in w h
  | 3, w, h => sk_wl3_in w h
  | 4, w, h => sk_wl4_in w h
  | 5, w, h => sk_wl5_in w h
  | 6, w, h => sk_wl6_in w h
  | 7, w, h => sk_wl7_in w h
  | 8, w, h => sk_wl8_in w h
  | 9, w, h => sk_wl9_in w h
  | 10, w, h => sk_wl10_in w h
  | 11, w, h => sk_wl11_in w h
  | 12, w, h => sk_wl12_in w h
  | 13, w, h => sk_wl13_in w h
  | 14, w, h => sk_wl14_in w h
  | 15, w, h => sk_wl15_in w h
  | 16, w, h => sk_wl16_in w h
  | 17, w, h => sk_wl17_in w h
  | 18, w, h => sk_wl18_in w h
  | 19, w, h => sk_wl19_in w h
  | 20, w, h => sk_wl20_in w h
  | _ + 21, _, h => absurd h List.not_mem_nil
/-- name, code, slots, answer, rank, how many it takes, how it is called (0 by no object, 1 by one, 2 a maker), its own links -/
def sk_info : List (MethodName × ByteArray × Nat × Option FieldType × Nat × Nat × Nat × Nat) := [
  (⟨"SkittleRow$Acts", "<init>", "()V"⟩, prog_2_method_1_code, 1, none, 1, 0, 2, 0),
  (⟨"SkittleRow$Acts", "forget", "()V"⟩, prog_2_method_2_code, 1, none, 1, 0, 1, 0),
  (⟨"SkittleRow$Acts", "keep", "(LSkittleRow$State;)V"⟩, prog_2_method_3_code, 2, none, 1, 1, 1, 0),
  (⟨"SkittleRow$Acts", "takeBack", "(LSkittleRow$State;)I"⟩, prog_2_method_4_code, 2, some .int, 1, 1, 1, 0),
  (⟨"SkittleRow$Alley", "<init>", "()V"⟩, prog_3_method_1_code, 1, none, 1, 0, 2, 1),
  (⟨"SkittleRow$Alley", "addPlace", "(Z)V"⟩, prog_3_method_2_code, 3, none, 1, 1, 1, 1),
  (⟨"SkittleRow$Alley", "settle", "()V"⟩, prog_3_method_3_code, 4, none, 4, 0, 1, 1),
  (⟨"SkittleRow$Alley", "listStrokes", "()V"⟩, prog_3_method_4_code, 7, none, 3, 0, 1, 1),
  (⟨"SkittleRow$Alley", "chosen", "([LSkittleRow$Stroke;II)[LSkittleRow$Stroke;"⟩, prog_3_method_5_code, 7, some (.array (.object "SkittleRow$Stroke")), 2, 3, 0, 1),
  (⟨"SkittleRow$Alley", "hasHit", "(II)Z"⟩, prog_3_method_6_code, 2, some .boolean, 1, 2, 0, 1),
  (⟨"SkittleRow$Alley", "bitOf", "(I)I"⟩, prog_3_method_7_code, 1, some .int, 1, 1, 0, 1),
  (⟨"SkittleRow$Alley", "allows", "(ILSkittleRow$Stroke;)Z"⟩, prog_3_method_8_code, 3, some .boolean, 2, 2, 1, 1),
  (⟨"SkittleRow$Alley", "strokeOf", "(III)LSkittleRow$Stroke;"⟩, prog_3_method_9_code, 8, some (.object "SkittleRow$Stroke"), 3, 3, 1, 1),
  (⟨"SkittleRow$Alley", "plainLeavings", "(I)J"⟩, prog_3_method_10_code, 7, some .long, 2, 1, 1, 1),
  (⟨"SkittleRow$Alley", "leastLeftOut", "(J)I"⟩, prog_3_method_11_code, 2, some .int, 3, 1, 0, 1),
  (⟨"SkittleRow$Alley", "isWholeRing", "(II)Z"⟩, prog_3_method_12_code, 4, some .boolean, 1, 2, 1, 1),
  (⟨"SkittleRow$Alley", "runFrom", "(II)I"⟩, prog_3_method_13_code, 6, some .int, 2, 2, 1, 1),
  (⟨"SkittleRow$Alley", "rowWorth", "(II)I"⟩, prog_3_method_14_code, 5, some .int, 4, 2, 1, 1),
  (⟨"SkittleRow$Alley", "ringLeavings", "(I)J"⟩, prog_3_method_15_code, 5, some .long, 2, 1, 1, 1),
  (⟨"SkittleRow$Alley", "sameFrom", "(I)I"⟩, prog_3_method_16_code, 3, some .int, 1, 1, 1, 1),
  (⟨"SkittleRow$Alley", "number", "(I)I"⟩, prog_3_method_17_code, 2, some .int, 1, 1, 1, 1),
  (⟨"SkittleRow$AlleyReader", "<init>", "(LSkittleRow$Reader;)V"⟩, prog_4_method_1_code, 2, none, 2, 1, 2, 2),
  (⟨"SkittleRow$AlleyReader", "read", "()LSkittleRow$Alley;"⟩, prog_4_method_2_code, 2, some (.object "SkittleRow$Alley"), 9, 0, 1, 2),
  (⟨"SkittleRow$AlleyReader", "readClause", "(I)V"⟩, prog_4_method_3_code, 3, none, 8, 1, 1, 2),
  (⟨"SkittleRow$AlleyReader", "isTooMany", "(II)Z"⟩, prog_4_method_4_code, 3, some .boolean, 1, 2, 1, 2),
  (⟨"SkittleRow$AlleyReader", "readRow", "()V"⟩, prog_4_method_5_code, 1, none, 2, 0, 1, 2),
  (⟨"SkittleRow$AlleyReader", "isPlace", "(I)Z"⟩, prog_4_method_6_code, 1, some .boolean, 1, 1, 0, 2),
  (⟨"SkittleRow$AlleyReader", "readRing", "()V"⟩, prog_4_method_7_code, 3, none, 3, 0, 1, 2),
  (⟨"SkittleRow$AlleyReader", "readHit", "()V"⟩, prog_4_method_8_code, 2, none, 3, 0, 1, 2),
  (⟨"SkittleRow$Bout", "<init>", "()V"⟩, prog_5_method_1_code, 1, none, 2, 0, 2, 3),
  (⟨"SkittleRow$Bout", "playTimes", "(LSkittleRow$State;LSkittleRow$Tables;LSkittleRow$Rule;LSkittleRow$Rule;I)V"⟩, prog_5_method_2_code, 7, none, 7, 5, 1, 3),
  (⟨"SkittleRow$Bout", "playOut", "(LSkittleRow$Rule;LSkittleRow$Rule;)V"⟩, prog_5_method_3_code, 6, none, 6, 2, 1, 3),
  (⟨"SkittleRow$Bout", "bestBy", "(LSkittleRow$Rule;)LSkittleRow$Stroke;"⟩, prog_5_method_4_code, 11, some (.object "SkittleRow$Stroke"), 5, 1, 1, 3),
  (⟨"SkittleRow$Bout", "drawn", "()LSkittleRow$Stroke;"⟩, prog_5_method_5_code, 8, some (.object "SkittleRow$Stroke"), 3, 0, 1, 3),
  (⟨"SkittleRow$Look", "<init>", "()V"⟩, prog_6_method_1_code, 1, none, 1, 0, 2, 4),
  (⟨"SkittleRow$Look", "word", "(I)J"⟩, prog_6_method_2_code, 2, some .long, 1, 1, 1, 4),
  (⟨"SkittleRow$Look", "lookAt", "(LSkittleRow$Bout;LSkittleRow$Stroke;I)V"⟩, prog_6_method_3_code, 5, none, 4, 3, 1, 4),
  (⟨"SkittleRow$Look", "countRuns", "(LSkittleRow$Alley;I)V"⟩, prog_6_method_4_code, 8, none, 3, 2, 1, 4),
  (⟨"SkittleRow$Reader", "<init>", "([CI)V"⟩, prog_7_method_1_code, 3, none, 1, 2, 2, 5),
  (⟨"SkittleRow$Reader", "sound", "()Z"⟩, prog_7_method_2_code, 1, some .boolean, 1, 0, 1, 5),
  (⟨"SkittleRow$Reader", "refuse", "(II)V"⟩, prog_7_method_3_code, 3, none, 1, 2, 1, 5),
  (⟨"SkittleRow$Reader", "look", "()I"⟩, prog_7_method_4_code, 1, some .int, 1, 0, 1, 5),
  (⟨"SkittleRow$Reader", "next", "()I"⟩, prog_7_method_5_code, 1, some .int, 1, 0, 1, 5),
  (⟨"SkittleRow$Reader", "takes", "(I)Z"⟩, prog_7_method_6_code, 2, some .boolean, 2, 1, 1, 5),
  (⟨"SkittleRow$Reader", "wordOf", "(Ljava/lang/String;)I"⟩, prog_7_method_7_code, 5, some .int, 7, 1, 1, 5),
  (⟨"SkittleRow$Reader", "isWord", "(Ljava/lang/String;II)Z"⟩, prog_7_method_8_code, 6, some .boolean, 6, 3, 1, 5),
  (⟨"SkittleRow$Reader", "skipWord", "()V"⟩, prog_7_method_9_code, 1, none, 1, 0, 1, 5),
  (⟨"SkittleRow$Reader", "takesWord", "(Ljava/lang/String;)Z"⟩, prog_7_method_10_code, 2, some .boolean, 8, 1, 1, 5),
  (⟨"SkittleRow$Reader", "isDigit", "(I)Z"⟩, prog_7_method_11_code, 1, some .boolean, 1, 1, 0, 5),
  (⟨"SkittleRow$Reader", "number", "(II)I"⟩, prog_7_method_12_code, 5, some .int, 2, 2, 1, 5),
  (⟨"SkittleRow$Reader", "goesOn", "()Z"⟩, prog_7_method_13_code, 1, some .boolean, 3, 0, 1, 5),
  (⟨"SkittleRow$Rule", "<init>", "()V"⟩, prog_8_method_1_code, 1, none, 1, 0, 2, 6),
  (⟨"SkittleRow$Rule", "addClause", "(III)V"⟩, prog_8_method_2_code, 4, none, 1, 3, 1, 6),
  (⟨"SkittleRow$Rule", "settle", "([II)V"⟩, prog_8_method_3_code, 5, none, 1, 2, 1, 6),
  (⟨"SkittleRow$Rule", "valueOf", "(LSkittleRow$Look;)J"⟩, prog_8_method_4_code, 4, some .long, 3, 1, 1, 6),
  (⟨"SkittleRow$Rule", "reckon", "(IILSkittleRow$Look;)J"⟩, prog_8_method_5_code, 7, some .long, 2, 3, 1, 6),
  (⟨"SkittleRow$Rule", "join", "(IJJ)J"⟩, prog_8_method_6_code, 5, some .long, 1, 3, 0, 6),
  (⟨"SkittleRow$RuleReader", "<init>", "(LSkittleRow$Reader;)V"⟩, prog_9_method_1_code, 2, none, 1, 1, 2, 7),
  (⟨"SkittleRow$RuleReader", "read", "()LSkittleRow$Rule;"⟩, prog_9_method_2_code, 3, some (.object "SkittleRow$Rule"), 11, 0, 1, 7),
  (⟨"SkittleRow$RuleReader", "readClause", "(ILSkittleRow$Rule;)V"⟩, prog_9_method_3_code, 5, none, 10, 2, 1, 7),
  (⟨"SkittleRow$RuleReader", "readTest", "(I)V"⟩, prog_9_method_4_code, 3, none, 9, 1, 1, 7),
  (⟨"SkittleRow$RuleReader", "readPart", "(I)V"⟩, prog_9_method_5_code, 3, none, 9, 1, 1, 7),
  (⟨"SkittleRow$RuleReader", "readFact", "(I)V"⟩, prog_9_method_6_code, 4, none, 11, 1, 1, 7),
  (⟨"SkittleRow$RuleReader", "readComparison", "()V"⟩, prog_9_method_7_code, 2, none, 10, 0, 1, 7),
  (⟨"SkittleRow$RuleReader", "readSign", "()I"⟩, prog_9_method_8_code, 4, some .int, 3, 0, 1, 7),
  (⟨"SkittleRow$RuleReader", "readSum", "()V"⟩, prog_9_method_9_code, 4, none, 9, 0, 1, 7),
  (⟨"SkittleRow$RuleReader", "codeOf", "(I)I"⟩, prog_9_method_10_code, 1, some .int, 1, 1, 0, 7),
  (⟨"SkittleRow$RuleReader", "readValue", "()V"⟩, prog_9_method_11_code, 5, none, 8, 0, 1, 7),
  (⟨"SkittleRow$RuleReader", "countPart", "(I)V"⟩, prog_9_method_12_code, 2, none, 2, 1, 1, 7),
  (⟨"SkittleRow$RuleReader", "put", "(I)V"⟩, prog_9_method_13_code, 2, none, 2, 1, 1, 7),
  (⟨"SkittleRow$State", "<init>", "()V"⟩, prog_10_method_1_code, 1, none, 1, 0, 2, 8),
  (⟨"SkittleRow$State", "begin", "(LSkittleRow$Alley;)V"⟩, prog_10_method_2_code, 2, none, 1, 1, 1, 8),
  (⟨"SkittleRow$State", "noted", "()I"⟩, prog_10_method_3_code, 1, some .int, 1, 0, 1, 8),
  (⟨"SkittleRow$State", "strokeNoted", "(II)LSkittleRow$Stroke;"⟩, prog_10_method_4_code, 3, some (.object "SkittleRow$Stroke"), 2, 2, 1, 8),
  (⟨"SkittleRow$State", "play", "(LSkittleRow$Stroke;)V"⟩, prog_10_method_5_code, 2, none, 1, 1, 1, 8),
  (⟨"SkittleRow$State", "copyOf", "(LSkittleRow$State;)V"⟩, prog_10_method_6_code, 3, none, 1, 1, 1, 8),
  (⟨"SkittleRow$Stroke", "<init>", "(IIIIII)V"⟩, prog_11_method_1_code, 7, none, 1, 6, 2, 9),
  (⟨"SkittleRow$Stroke", "hasEndIn", "(I)Z"⟩, prog_11_method_2_code, 2, some .boolean, 1, 1, 1, 9),
  (⟨"SkittleRow$Tables", "<init>", "()V"⟩, prog_12_method_1_code, 1, none, 2, 0, 2, 10),
  (⟨"SkittleRow$Tables", "use", "(LSkittleRow$Alley;)V"⟩, prog_12_method_2_code, 2, none, 1, 1, 1, 10),
  (⟨"SkittleRow$Tables", "fillWinning", "()V"⟩, prog_12_method_3_code, 12, none, 2, 0, 1, 10),
  (⟨"SkittleRow$Tables", "canWin", "(I)Z"⟩, prog_12_method_4_code, 2, some .boolean, 3, 1, 1, 10),
  (⟨"SkittleRow$Tables", "winsBy", "(ILSkittleRow$Stroke;)Z"⟩, prog_12_method_5_code, 3, some .boolean, 4, 2, 1, 10),
  (⟨"SkittleRow$Tables", "lawsBehind", "(ILSkittleRow$Stroke;)J"⟩, prog_12_method_6_code, 5, some .long, 3, 2, 1, 10),
  (⟨"SkittleRow$Tables", "fillLengths", "()V"⟩, prog_12_method_7_code, 10, none, 5, 0, 1, 10),
  (⟨"SkittleRow$Tables", "lengthAt", "(I)I"⟩, prog_12_method_8_code, 2, some .int, 6, 1, 1, 10),
  (⟨"SkittleRow$Tables", "fillPlayCounts", "()V"⟩, prog_12_method_9_code, 9, none, 3, 0, 1, 10),
  (⟨"SkittleRow$Tables", "playsAt", "(I)I"⟩, prog_12_method_10_code, 2, some .int, 4, 1, 1, 10),
  (⟨"SkittleRow$Tables", "fillChances", "()V"⟩, prog_12_method_11_code, 11, none, 3, 0, 1, 10),
  (⟨"SkittleRow$Tables", "chanceAt", "(I)I"⟩, prog_12_method_12_code, 2, some .int, 4, 1, 1, 10),
  (⟨"SkittleRow$Tables", "fillClever", "()V"⟩, prog_12_method_13_code, 10, none, 3, 0, 1, 10),
  (⟨"SkittleRow$Tables", "childAt", "(I)I"⟩, prog_12_method_14_code, 2, some .int, 4, 1, 1, 10),
  (⟨"SkittleRow", "<init>", "()V"⟩, prog_1_method_1_code, 1, none, 3, 0, 2, 11),
  (⟨"SkittleRow", "feed", "(IIIII)I"⟩, prog_1_method_2_code, 6, some .int, 2, 5, 1, 11),
  (⟨"SkittleRow", "putBytes", "(I)V"⟩, prog_1_method_3_code, 3, none, 1, 1, 1, 11),
  (⟨"SkittleRow", "end", "(I)I"⟩, prog_1_method_4_code, 2, some .int, 1, 1, 1, 11),
  (⟨"SkittleRow", "alley", "()I"⟩, prog_1_method_5_code, 3, some .int, 10, 0, 1, 11),
  (⟨"SkittleRow", "rule", "()I"⟩, prog_1_method_6_code, 3, some .int, 12, 0, 1, 11),
  (⟨"SkittleRow", "place", "(II)I"⟩, prog_1_method_7_code, 4, some .int, 1, 2, 1, 11),
  (⟨"SkittleRow", "can", "(II)I"⟩, prog_1_method_8_code, 4, some .int, 5, 2, 1, 11),
  (⟨"SkittleRow", "stroke", "(II)I"⟩, prog_1_method_9_code, 4, some .int, 4, 2, 1, 11),
  (⟨"SkittleRow", "up", "(I)I"⟩, prog_1_method_10_code, 2, some .int, 2, 1, 1, 11),
  (⟨"SkittleRow", "pass", "()I"⟩, prog_1_method_11_code, 1, some .int, 2, 0, 1, 11),
  (⟨"SkittleRow", "undo", "()I"⟩, prog_1_method_12_code, 1, some .int, 2, 0, 1, 11),
  (⟨"SkittleRow", "won", "()I"⟩, prog_1_method_13_code, 1, some .int, 4, 0, 1, 11),
  (⟨"SkittleRow", "wins", "(I)I"⟩, prog_1_method_14_code, 8, some .int, 5, 1, 1, 11),
  (⟨"SkittleRow", "worth", "(I)I"⟩, prog_1_method_15_code, 2, some .int, 5, 1, 1, 11),
  (⟨"SkittleRow", "plain", "(I)I"⟩, prog_1_method_16_code, 2, some .int, 1, 1, 1, 11),
  (⟨"SkittleRow", "again", "(I)I"⟩, prog_1_method_17_code, 4, some .int, 2, 1, 1, 11),
  (⟨"SkittleRow", "lasts", "()I"⟩, prog_1_method_18_code, 1, some .int, 7, 0, 1, 11),
  (⟨"SkittleRow", "plays", "()I"⟩, prog_1_method_19_code, 1, some .int, 5, 0, 1, 11),
  (⟨"SkittleRow", "fair", "(I)I"⟩, prog_1_method_20_code, 3, some .int, 5, 1, 1, 11),
  (⟨"SkittleRow", "fairSet", "()I"⟩, prog_1_method_21_code, 5, some .int, 4, 0, 1, 11),
  (⟨"SkittleRow", "chance", "()I"⟩, prog_1_method_22_code, 1, some .int, 5, 0, 1, 11),
  (⟨"SkittleRow", "child", "()I"⟩, prog_1_method_23_code, 1, some .int, 5, 0, 1, 11),
  (⟨"SkittleRow", "match", "(III)I"⟩, prog_1_method_24_code, 4, some .int, 8, 3, 1, 11),
  (⟨"SkittleRow", "isRule", "(I)Z"⟩, prog_1_method_25_code, 2, some .boolean, 1, 1, 1, 11),
  (⟨"SkittleRow", "knew", "(II)I"⟩, prog_1_method_26_code, 10, some .int, 5, 2, 1, 11),
  (⟨"SkittleRow", "law", "(II)I"⟩, prog_1_method_27_code, 7, some .int, 4, 2, 1, 11),
  (⟨"SkittleRow", "seed", "(I)I"⟩, prog_1_method_28_code, 3, some .int, 1, 1, 1, 11),
  (⟨"SkittleRow", "games", "(II)I"⟩, prog_1_method_29_code, 3, some .int, 8, 2, 1, 11),
  (⟨"SkittleRow", "against", "(III)I"⟩, prog_1_method_30_code, 4, some .int, 8, 3, 1, 11),
  (⟨"SkittleRow", "count", "(I)I"⟩, prog_1_method_31_code, 2, some .int, 2, 1, 1, 11),
  (⟨"SkittleRow", "image", "(I)I"⟩, prog_1_method_32_code, 2, some .int, 2, 1, 1, 11),
  (⟨"SkittleRow", "back", "(I)I"⟩, prog_1_method_33_code, 2, some .int, 2, 1, 1, 11),
  (⟨"SkittleRowModel", "<init>", "()V"⟩, prog_14_method_1_code, 1, none, 1, 0, 2, 12),
  (⟨"SkittleRowModel", "in", "(JJJ)Z"⟩, prog_14_method_2_code, 6, some .boolean, 1, 3, 0, 12),
  (⟨"SkittleRowModel", "isOf", "(II)Z"⟩, prog_14_method_3_code, 2, some .boolean, 1, 2, 0, 12),
  (⟨"SkittleRowModel", "bits", "(I)I"⟩, prog_14_method_4_code, 3, some .int, 1, 1, 0, 12),
  (⟨"SkittleRowModel", "four", "(I)V"⟩, prog_14_method_5_code, 3, none, 1, 1, 1, 12),
  (⟨"SkittleRowModel", "feed", "(IIIII)I"⟩, prog_14_method_6_code, 6, some .int, 2, 5, 1, 12),
  (⟨"SkittleRowModel", "end", "(I)I"⟩, prog_14_method_7_code, 2, some .int, 1, 1, 1, 12),
  (⟨"SkittleRowModel", "fails", "(II)Z"⟩, prog_14_method_8_code, 3, some .boolean, 1, 2, 1, 12),
  (⟨"SkittleRowModel", "see", "()I"⟩, prog_14_method_9_code, 1, some .int, 1, 0, 1, 12),
  (⟨"SkittleRowModel", "isDigit", "(I)Z"⟩, prog_14_method_10_code, 2, some .boolean, 1, 1, 1, 12),
  (⟨"SkittleRowModel", "isLetter", "(I)Z"⟩, prog_14_method_11_code, 2, some .boolean, 1, 1, 1, 12),
  (⟨"SkittleRowModel", "isWord", "(J)Z"⟩, prog_14_method_12_code, 6, some .boolean, 2, 1, 1, 12),
  (⟨"SkittleRowModel", "passWord", "()V"⟩, prog_14_method_13_code, 1, none, 2, 0, 1, 12),
  (⟨"SkittleRowModel", "takesWord", "(J)Z"⟩, prog_14_method_14_code, 3, some .boolean, 3, 1, 1, 12),
  (⟨"SkittleRowModel", "numberHere", "(II)Z"⟩, prog_14_method_15_code, 5, some .boolean, 2, 2, 1, 12),
  (⟨"SkittleRowModel", "wordHere", "()I"⟩, prog_14_method_16_code, 1, some .int, 3, 0, 1, 12),
  (⟨"SkittleRowModel", "puts", "(II)V"⟩, prog_14_method_17_code, 3, none, 1, 2, 1, 12),
  (⟨"SkittleRowModel", "makes", "(I)Z"⟩, prog_14_method_18_code, 2, some .boolean, 2, 1, 1, 12),
  (⟨"SkittleRowModel", "opens", "(I)Z"⟩, prog_14_method_19_code, 2, some .boolean, 2, 1, 1, 12),
  (⟨"SkittleRowModel", "strength", "(I)I"⟩, prog_14_method_20_code, 1, some .int, 1, 1, 0, 12),
  (⟨"SkittleRowModel", "settles", "(I)V"⟩, prog_14_method_21_code, 2, none, 2, 1, 1, 12),
  (⟨"SkittleRowModel", "value", "()Z"⟩, prog_14_method_22_code, 3, some .boolean, 4, 0, 1, 12),
  (⟨"SkittleRowModel", "term", "()Z"⟩, prog_14_method_23_code, 2, some .boolean, 5, 0, 1, 12),
  (⟨"SkittleRowModel", "sum", "()Z"⟩, prog_14_method_24_code, 2, some .boolean, 6, 0, 1, 12),
  (⟨"SkittleRowModel", "compare", "()Z"⟩, prog_14_method_25_code, 5, some .boolean, 7, 0, 1, 12),
  (⟨"SkittleRowModel", "fact", "()Z"⟩, prog_14_method_26_code, 3, some .boolean, 8, 0, 1, 12),
  (⟨"SkittleRowModel", "isInside", "()Z"⟩, prog_14_method_27_code, 2, some .boolean, 1, 0, 1, 12),
  (⟨"SkittleRowModel", "closes", "()V"⟩, prog_14_method_28_code, 1, none, 3, 0, 1, 12),
  (⟨"SkittleRowModel", "tested", "()Z"⟩, prog_14_method_29_code, 3, some .boolean, 9, 0, 1, 12),
  (⟨"SkittleRowModel", "isStrokeHere", "()Z"⟩, prog_14_method_30_code, 2, some .boolean, 10, 0, 1, 12),
  (⟨"SkittleRowModel", "isAlleyHere", "(I)Z"⟩, prog_14_method_31_code, 2, some .boolean, 3, 1, 1, 12),
  (⟨"SkittleRowModel", "isPlaceHere", "()Z"⟩, prog_14_method_32_code, 1, some .boolean, 1, 0, 1, 12),
  (⟨"SkittleRowModel", "isRowHere", "(I)Z"⟩, prog_14_method_33_code, 3, some .boolean, 3, 1, 1, 12),
  (⟨"SkittleRowModel", "isRingHere", "()Z"⟩, prog_14_method_34_code, 2, some .boolean, 3, 0, 1, 12),
  (⟨"SkittleRowModel", "isHitHere", "()Z"⟩, prog_14_method_35_code, 1, some .boolean, 3, 0, 1, 12),
  (⟨"SkittleRowModel", "isOnceHere", "(II)Z"⟩, prog_14_method_36_code, 3, some .boolean, 3, 2, 1, 12),
  (⟨"SkittleRowModel", "isStrayHere", "()Z"⟩, prog_14_method_37_code, 1, some .boolean, 3, 0, 1, 12),
  (⟨"SkittleRowModel", "alleyLineHere", "(I)Z"⟩, prog_14_method_38_code, 2, some .boolean, 4, 1, 1, 12),
  (⟨"SkittleRowModel", "isAlleyWord", "()Z"⟩, prog_14_method_39_code, 2, some .boolean, 3, 0, 1, 12),
  (⟨"SkittleRowModel", "clauseHere", "()Z"⟩, prog_14_method_40_code, 3, some .boolean, 11, 0, 1, 12),
  (⟨"SkittleRowModel", "readsAll", "()Z"⟩, prog_14_method_41_code, 2, some .boolean, 12, 0, 1, 12),
  (⟨"SkittleRowModel", "rule", "()I"⟩, prog_14_method_42_code, 1, some .int, 13, 0, 1, 12),
  (⟨"SkittleRowModel", "alley", "()I"⟩, prog_14_method_43_code, 2, some .int, 13, 0, 1, 12),
  (⟨"SkittleRowModel", "isRule", "(I)Z"⟩, prog_14_method_44_code, 2, some .boolean, 1, 1, 1, 12),
  (⟨"SkittleRowModel", "push", "(J)V"⟩, prog_14_method_45_code, 3, none, 1, 1, 1, 12),
  (⟨"SkittleRowModel", "pop", "()J"⟩, prog_14_method_46_code, 1, some .long, 1, 0, 1, 12),
  (⟨"SkittleRowModel", "one", "(IJJ)J"⟩, prog_14_method_47_code, 5, some .long, 1, 3, 0, 12),
  (⟨"SkittleRowModel", "reckons", "(III)J"⟩, prog_14_method_48_code, 11, some .long, 2, 3, 1, 12),
  (⟨"SkittleRowModel", "isAlley", "()Z"⟩, prog_14_method_49_code, 1, some .boolean, 1, 0, 1, 12),
  (⟨"SkittleRowModel", "isPlace", "(I)Z"⟩, prog_14_method_50_code, 2, some .boolean, 1, 1, 1, 12),
  (⟨"SkittleRowModel", "rowOf", "(I)I"⟩, prog_14_method_51_code, 3, some .int, 1, 1, 1, 12),
  (⟨"SkittleRowModel", "beside", "(II)I"⟩, prog_14_method_52_code, 5, some .int, 2, 2, 1, 12),
  (⟨"SkittleRowModel", "strokeBits", "(II)I"⟩, prog_14_method_53_code, 6, some .int, 3, 2, 1, 12),
  (⟨"SkittleRowModel", "lastOf", "(II)I"⟩, prog_14_method_54_code, 5, some .int, 3, 2, 1, 12),
  (⟨"SkittleRowModel", "canBe", "(IIIIZ)Z"⟩, prog_14_method_55_code, 10, some .boolean, 4, 5, 1, 12),
  (⟨"SkittleRowModel", "canBeNow", "(III)Z"⟩, prog_14_method_56_code, 4, some .boolean, 5, 3, 1, 12),
  (⟨"SkittleRowModel", "fillsWon", "(III)V"⟩, prog_14_method_57_code, 10, none, 5, 3, 1, 12),
  (⟨"SkittleRowModel", "fillsNow", "()V"⟩, prog_14_method_58_code, 1, none, 6, 0, 1, 12),
  (⟨"SkittleRowModel", "isWonAt", "(I)Z"⟩, prog_14_method_59_code, 2, some .boolean, 7, 1, 1, 12),
  (⟨"SkittleRowModel", "winsBy", "(III)Z"⟩, prog_14_method_60_code, 4, some .boolean, 8, 3, 1, 12),
  (⟨"SkittleRowModel", "isOverAt", "(I)Z"⟩, prog_14_method_61_code, 4, some .boolean, 6, 1, 1, 12),
  (⟨"SkittleRowModel", "place", "(II)I"⟩, prog_14_method_62_code, 3, some .int, 3, 2, 1, 12),
  (⟨"SkittleRowModel", "can", "(II)I"⟩, prog_14_method_63_code, 3, some .int, 9, 2, 1, 12),
  (⟨"SkittleRowModel", "keepsAct", "()V"⟩, prog_14_method_64_code, 2, none, 1, 0, 1, 12),
  (⟨"SkittleRowModel", "undo", "()I"⟩, prog_14_method_65_code, 2, some .int, 1, 0, 1, 12),
  (⟨"SkittleRowModel", "notes", "(II)V"⟩, prog_14_method_66_code, 4, none, 1, 2, 1, 12),
  (⟨"SkittleRowModel", "stroke", "(II)I"⟩, prog_14_method_67_code, 3, some .int, 6, 2, 1, 12),
  (⟨"SkittleRowModel", "up", "(I)I"⟩, prog_14_method_68_code, 2, some .int, 2, 1, 1, 12),
  (⟨"SkittleRowModel", "pass", "()I"⟩, prog_14_method_69_code, 1, some .int, 2, 0, 1, 12),
  (⟨"SkittleRowModel", "won", "()I"⟩, prog_14_method_70_code, 1, some .int, 8, 0, 1, 12),
  (⟨"SkittleRowModel", "wins", "(I)I"⟩, prog_14_method_71_code, 7, some .int, 9, 1, 1, 12),
  (⟨"SkittleRowModel", "leastUnseen", "()I"⟩, prog_14_method_72_code, 2, some .int, 1, 0, 1, 12),
  (⟨"SkittleRowModel", "clearsSeen", "()V"⟩, prog_14_method_73_code, 2, none, 1, 0, 1, 12),
  (⟨"SkittleRowModel", "worth", "(I)I"⟩, prog_14_method_74_code, 8, some .int, 6, 1, 1, 12),
  (⟨"SkittleRowModel", "fillsPlains", "()V"⟩, prog_14_method_75_code, 5, none, 2, 0, 1, 12),
  (⟨"SkittleRowModel", "plain", "(I)I"⟩, prog_14_method_76_code, 2, some .int, 3, 1, 1, 12),
  (⟨"SkittleRowModel", "comesAgain", "(II)Z"⟩, prog_14_method_77_code, 4, some .boolean, 1, 2, 1, 12),
  (⟨"SkittleRowModel", "again", "(I)I"⟩, prog_14_method_78_code, 4, some .int, 3, 1, 1, 12),
  (⟨"SkittleRowModel", "lastsAt", "(I)I"⟩, prog_14_method_79_code, 8, some .int, 6, 1, 1, 12),
  (⟨"SkittleRowModel", "lasts", "()I"⟩, prog_14_method_80_code, 2, some .int, 7, 0, 1, 12),
  (⟨"SkittleRowModel", "playsAt", "(I)I"⟩, prog_14_method_81_code, 7, some .int, 6, 1, 1, 12),
  (⟨"SkittleRowModel", "plays", "()I"⟩, prog_14_method_82_code, 2, some .int, 7, 0, 1, 12),
  (⟨"SkittleRowModel", "fair", "(I)I"⟩, prog_14_method_83_code, 5, some .int, 8, 1, 1, 12),
  (⟨"SkittleRowModel", "strayed", "(III)I"⟩, prog_14_method_84_code, 5, some .int, 4, 3, 1, 12),
  (⟨"SkittleRowModel", "chanceAt", "(I)I"⟩, prog_14_method_85_code, 7, some .int, 6, 1, 1, 12),
  (⟨"SkittleRowModel", "chance", "()I"⟩, prog_14_method_86_code, 2, some .int, 7, 0, 1, 12),
  (⟨"SkittleRowModel", "bestAt", "(I)I"⟩, prog_14_method_87_code, 6, some .int, 6, 1, 1, 12),
  (⟨"SkittleRowModel", "childAt", "(I)I"⟩, prog_14_method_88_code, 6, some .int, 6, 1, 1, 12),
  (⟨"SkittleRowModel", "child", "()I"⟩, prog_14_method_89_code, 2, some .int, 7, 0, 1, 12),
  (⟨"SkittleRowModel", "countsRun", "(I)V"⟩, prog_14_method_90_code, 2, none, 1, 1, 1, 12),
  (⟨"SkittleRowModel", "countsRow", "(II)V"⟩, prog_14_method_91_code, 8, none, 2, 2, 1, 12),
  (⟨"SkittleRowModel", "countsRuns", "(I)V"⟩, prog_14_method_92_code, 3, none, 3, 1, 1, 12),
  (⟨"SkittleRowModel", "words", "(IIIII)V"⟩, prog_14_method_93_code, 7, none, 8, 5, 1, 12),
  (⟨"SkittleRowModel", "summedBy", "(I)J"⟩, prog_14_method_94_code, 4, some .long, 3, 1, 1, 12),
  (⟨"SkittleRowModel", "strokeBy", "(IIII)I"⟩, prog_14_method_95_code, 12, some .int, 9, 4, 1, 12),
  (⟨"SkittleRowModel", "winner", "(I)I"⟩, prog_14_method_96_code, 2, some .int, 1, 1, 1, 12),
  (⟨"SkittleRowModel", "match", "(III)I"⟩, prog_14_method_97_code, 8, some .int, 10, 3, 1, 12),
  (⟨"SkittleRowModel", "noted", "(II)I"⟩, prog_14_method_98_code, 3, some .int, 1, 2, 1, 12),
  (⟨"SkittleRowModel", "winsNoted", "(I)Z"⟩, prog_14_method_99_code, 2, some .boolean, 4, 1, 1, 12),
  (⟨"SkittleRowModel", "knew", "(II)I"⟩, prog_14_method_100_code, 8, some .int, 7, 2, 1, 12),
  (⟨"SkittleRowModel", "fitsLaw", "(IIII)Z"⟩, prog_14_method_101_code, 6, some .boolean, 6, 4, 1, 12),
  (⟨"SkittleRowModel", "law", "(II)I"⟩, prog_14_method_102_code, 6, some .int, 7, 2, 1, 12),
  (⟨"SkittleRowModel", "seed", "(I)I"⟩, prog_14_method_103_code, 3, some .int, 1, 1, 1, 12),
  (⟨"SkittleRowModel", "draw", "(I)I"⟩, prog_14_method_104_code, 2, some .int, 1, 1, 1, 12),
  (⟨"SkittleRowModel", "strokeDrawn", "(I)I"⟩, prog_14_method_105_code, 6, some .int, 6, 1, 1, 12),
  (⟨"SkittleRowModel", "playsDrawn", "(II)V"⟩, prog_14_method_106_code, 9, none, 10, 2, 1, 12),
  (⟨"SkittleRowModel", "games", "(II)I"⟩, prog_14_method_107_code, 3, some .int, 11, 2, 1, 12),
  (⟨"SkittleRowModel", "against", "(III)I"⟩, prog_14_method_108_code, 4, some .int, 11, 3, 1, 12),
  (⟨"SkittleRowModel", "count", "(I)I"⟩, prog_14_method_109_code, 2, some .int, 1, 1, 1, 12),
  (⟨"SkittleRowModel", "image", "(I)I"⟩, prog_14_method_110_code, 3, some .int, 2, 1, 1, 12),
  (⟨"SkittleRowModel", "back", "(I)I"⟩, prog_14_method_111_code, 3, some .int, 2, 1, 1, 12),
  (⟨"java/lang/Integer", "numberOfTrailingZeros", "(I)I"⟩, prog_15_method_48_code, 2, some .int, 1, 1, 0, 14),
  (⟨"java/lang/Integer", "bitCount", "(I)I"⟩, prog_15_method_49_code, 1, some .int, 1, 1, 0, 14),
  (⟨"java/lang/Long", "numberOfTrailingZeros", "(J)I"⟩, prog_16_method_49_code, 3, some .int, 2, 1, 0, 15),
  (⟨"java/lang/Long", "bitCount", "(J)I"⟩, prog_16_method_50_code, 2, some .int, 1, 1, 0, 15),
  (⟨"java/lang/Math", "max", "(II)I"⟩, prog_17_method_65_code, 2, some .int, 1, 2, 0, 16),
  (⟨"java/lang/Math", "min", "(II)I"⟩, prog_17_method_69_code, 2, some .int, 1, 2, 0, 16),
  (⟨"java/lang/String", "length", "()I"⟩, prog_18_method_54_code, 1, some .int, 2, 0, 1, 17),
  (⟨"java/lang/String", "charAt", "(I)C"⟩, prog_18_method_56_code, 2, some .char, 5, 1, 1, 17),
  (⟨"java/lang/String", "coder", "()B"⟩, prog_18_method_152_code, 1, some .byte, 1, 0, 1, 17),
  (⟨"java/lang/String", "isLatin1", "()Z"⟩, prog_18_method_154_code, 1, some .boolean, 1, 0, 1, 17),
  (⟨"java/lang/String", "checkIndex", "(II)V"⟩, prog_18_method_155_code, 2, none, 2, 2, 0, 17),
  (⟨"java/lang/StringLatin1", "charAt", "([BI)C"⟩, prog_19_method_2_code, 2, some .char, 3, 2, 0, 18),
  (⟨"java/lang/StringUTF16", "getChar", "([BI)C"⟩, prog_20_method_5_code, 2, some .char, 2, 2, 0, 19),
  (⟨"java/lang/StringUTF16", "length", "([B)I"⟩, prog_20_method_6_code, 1, some .int, 1, 1, 0, 19),
  (⟨"java/lang/StringUTF16", "charAt", "([BI)C"⟩, prog_20_method_83_code, 2, some .char, 4, 2, 0, 19),
  (⟨"java/lang/StringUTF16", "checkIndex", "(I[B)V"⟩, prog_20_method_91_code, 2, none, 3, 2, 0, 19),
  (⟨"jdk/internal/util/Preconditions", "checkIndex", "(IILjava/util/function/BiFunction;)I"⟩, prog_21_method_11_code, 3, some .int, 1, 3, 0, 20),
  (⟨"SkittleRowLaw", "law", "([I)Z"⟩, code, 4, some .boolean, 14, 1, 0, 13)]
def sk_nfo (m : Nat) : MethodName × ByteArray × Nat × Option FieldType × Nat × Nat × Nat × Nat := sk_info.getD m (⟨"", "", ""⟩, ⟨#[]⟩, 0, none, 0, 0, 0, 99)
def sk_mix : List (List Nat) := [
  [193, 111, 192],
  [695, 111, 693, 694],
  [879, 111, 877, 878],
  [906, 111, 904, 905],
  [222, 113, 221],
  [593, 113, 591, 592],
  [614, 113, 612, 613],
  [618, 113, 617, 7],
  [668, 113, 667],
  [671, 113, 670],
  [622, 113, 621],
  [851, 113, 849, 850],
  [847, 113, 845, 846],
  [675, 113, 674, 8],
  [678, 113, 677],
  [928, 113, 926, 927],
  [936, 113, 934, 935],
  [924, 113, 922, 923],
  [932, 113, 931, 20],
  [948, 113, 946, 947],
  [1114, 113, 1112, 1113],
  [474, 119, 473],
  [488, 119, 486, 487],
  [492, 119, 491, 1],
  [561, 119, 560, 3],
  [577, 119, 576, 4],
  [581, 119, 580],
  [597, 119, 596, 5],
  [601, 119, 600, 6],
  [354, 114, 353],
  [1020, 114, 1018, 1019],
  [1024, 114, 1023, 27],
  [1037, 114, 1036, 29],
  [1028, 114, 1027, 28],
  [360, 115, 359],
  [1061, 115, 1059, 1060],
  [1041, 115, 1039, 1040],
  [1047, 115, 1046, 30],
  [449, 117, 448],
  [585, 117, 583, 584],
  [557, 117, 555, 556],
  [589, 117, 587, 588],
  [501, 117, 499, 500],
  [610, 117, 608, 609],
  [497, 117, 495, 496],
  [553, 117, 552, 2],
  [565, 117, 563, 564],
  [794, 117, 792, 793],
  [572, 117, 571],
  [569, 117, 567, 568],
  [605, 117, 603, 604],
  [731, 128, 730],
  [825, 128, 823, 824],
  [830, 128, 828, 829],
  [1053, 128, 1051, 1052],
  [1057, 128, 1056, 31],
  [1064, 128, 1063],
  [708, 127, 707],
  [726, 127, 724, 725],
  [759, 127, 758, 9],
  [800, 127, 799, 14],
  [804, 127, 803, 15],
  [808, 127, 807, 16],
  [813, 127, 812, 17],
  [817, 127, 816, 18],
  [767, 127, 766, 10],
  [789, 127, 788],
  [771, 127, 770, 11],
  [782, 127, 781, 12],
  [786, 127, 785, 13],
  [143, 110, 142],
  [691, 110, 689, 690],
  [1072, 110, 1070, 1071],
  [1077, 110, 1075, 1076],
  [884, 110, 882, 883],
  [1122, 110, 1120, 1121],
  [625, 124, 624],
  [855, 124, 853, 854],
  [216, 112, 215],
  [699, 112, 697, 698],
  [867, 112, 866, 19],
  [863, 112, 861, 862],
  [859, 112, 857, 858],
  [1087, 112, 1085, 1086],
  [960, 112, 959, 21],
  [956, 112, 954, 955],
  [975, 112, 974, 22],
  [971, 112, 969, 970],
  [996, 112, 995, 24],
  [992, 112, 990, 991],
  [1008, 112, 1007, 25],
  [1004, 112, 1002, 1003],
  [133, 109, 132],
  [432, 109, 430, 431],
  [436, 109, 435, 0],
  [440, 109, 438, 439],
  [444, 109, 442, 443],
  [703, 109, 701, 702],
  [839, 109, 837, 838],
  [843, 109, 841, 842],
  [875, 109, 873, 874],
  [894, 109, 892, 893],
  [898, 109, 896, 897],
  [902, 109, 900, 901],
  [910, 109, 908, 909],
  [915, 109, 913, 914],
  [920, 109, 918, 919],
  [940, 109, 938, 939],
  [944, 109, 942, 943],
  [952, 109, 950, 951],
  [967, 109, 965, 966],
  [980, 109, 978, 979],
  [984, 109, 983, 23],
  [988, 109, 986, 987],
  [1000, 109, 998, 999],
  [1012, 109, 1010, 1011],
  [1016, 109, 1015, 26],
  [1068, 109, 1066, 1067],
  [1082, 109, 1080, 1081],
  [1098, 109, 1096, 1097],
  [1102, 109, 1100, 1101],
  [1106, 109, 1104, 1105],
  [1110, 109, 1108, 1109],
  [1118, 109, 1116, 1117],
  [1126, 109, 1124, 1125],
  [1131, 116, 1130],
  [1328, 116, 1327],
  [1471, 116, 1470],
  [1514, 116, 1513],
  [1261, 116, 1260, 32],
  [1257, 116, 1255, 1256],
  [1265, 116, 1263, 1264],
  [1305, 116, 1304, 39],
  [1281, 116, 1280, 35],
  [1325, 116, 1324, 44],
  [1294, 116, 1293, 38],
  [1290, 116, 1289, 37],
  [1317, 116, 1316, 42],
  [1396, 116, 1395, 58],
  [1321, 116, 1320, 43],
  [1381, 116, 1380, 57],
  [1377, 116, 1376, 56],
  [1373, 116, 1372, 55],
  [1409, 116, 1408, 61],
  [1424, 116, 1423],
  [1421, 116, 1420, 64],
  [1368, 116, 1367, 54],
  [1364, 116, 1363, 53],
  [1360, 116, 1359, 52],
  [1413, 116, 1412, 62],
  [1404, 116, 1403, 60],
  [1428, 116, 1427, 65],
  [1417, 116, 1416, 63],
  [1400, 116, 1399, 59],
  [1356, 116, 1355, 51],
  [1313, 116, 1312, 41],
  [1336, 116, 1335, 46],
  [1332, 116, 1331, 45],
  [1340, 116, 1339, 47],
  [1344, 116, 1343, 48],
  [1348, 116, 1347, 49],
  [1352, 116, 1351, 50],
  [1309, 116, 1308, 40],
  [1285, 116, 1284, 36],
  [1277, 116, 1276, 34],
  [1273, 116, 1272, 33],
  [1269, 116, 1267, 1268],
  [1434, 116, 1432, 1433],
  [1613, 116, 1612, 90],
  [1645, 116, 1644, 98],
  [1649, 116, 1648, 99],
  [1652, 116, 1651],
  [1641, 116, 1640, 97],
  [1459, 116, 1458, 69],
  [1442, 116, 1441, 66],
  [1447, 116, 1446, 67],
  [1451, 116, 1450, 68],
  [1475, 116, 1474, 72],
  [1479, 116, 1478, 73],
  [1468, 116, 1467, 71],
  [1464, 116, 1463, 70],
  [1495, 116, 1494, 77],
  [1491, 116, 1490, 76],
  [1487, 116, 1486, 75],
  [1483, 116, 1482, 74],
  [1668, 116, 1667, 102],
  [1438, 116, 1436, 1437],
  [1455, 116, 1453, 1454],
  [1507, 116, 1506, 78],
  [1499, 116, 1497, 1498],
  [1511, 116, 1510, 79],
  [1503, 116, 1501, 1502],
  [1518, 116, 1516, 1517],
  [1522, 116, 1520, 1521],
  [1526, 116, 1524, 1525],
  [1530, 116, 1528, 1529],
  [1543, 116, 1542, 81],
  [1539, 116, 1538, 80],
  [1535, 116, 1533, 1534],
  [1552, 116, 1551, 82],
  [1547, 116, 1545, 1546],
  [1560, 116, 1559, 83],
  [1556, 116, 1554, 1555],
  [1568, 116, 1567, 84],
  [1564, 116, 1562, 1563],
  [1576, 116, 1575, 85],
  [1572, 116, 1570, 1571],
  [1581, 116, 1579, 1580],
  [1593, 116, 1592, 87],
  [1589, 116, 1588, 86],
  [1585, 116, 1583, 1584],
  [1601, 116, 1600, 88],
  [1605, 116, 1604, 89],
  [1597, 116, 1595, 1596],
  [1633, 116, 1632, 95],
  [1629, 116, 1628, 94],
  [1625, 116, 1624, 93],
  [1621, 116, 1620, 92],
  [1637, 116, 1636, 96],
  [1617, 116, 1616, 91],
  [1656, 116, 1655, 100],
  [1609, 116, 1607, 1608],
  [1664, 116, 1663, 101],
  [1672, 116, 1671, 103],
  [1660, 116, 1658, 1659],
  [1680, 116, 1679, 104],
  [1676, 116, 1674, 1675],
  [1684, 116, 1682, 1683],
  [1701, 116, 1700, 107],
  [1697, 116, 1696, 106],
  [1693, 116, 1692, 105],
  [1688, 116, 1686, 1687],
  [1709, 116, 1707, 1708],
  [1713, 116, 1711, 1712],
  [1717, 116, 1715, 1716],
  [1721, 116, 1719, 1720],
  [685, 126, 684],
  [887, 126, 886],
  [682, 125, 681],
  [1090, 125, 1089],
  [834, 118, 833],
  [453, 118, 452],
  [505, 120, 503, 504],
  [515, 120, 513, 514],
  [509, 120, 507, 508],
  [519, 120, 517, 518],
  [525, 120, 524],
  [522, 121, 521],
  [543, 123, 542],
  [539, 123, 538],
  [533, 123, 532],
  [536, 123, 535],
  [530, 122, 529],
  []]
/-- the texts: where they are named, their signs -/
def sk_str : List (String × Nat × String × Nat × List Int32) := [("SkittleRow$AlleyReader", 38, "alley row ring hit ends last stray", 34, [97, 108, 108, 101, 121, 32, 114, 111, 119, 32, 114, 105, 110, 103, 32, 104, 105, 116, 32, 101, 110, 100, 115, 32, 108, 97, 115, 116, 32, 115, 116, 114, 97, 121]), ("SkittleRow$RuleReader", 43, "stroke", 6, [115, 116, 114, 111, 107, 101]), ("SkittleRow$RuleReader", 126, "place many row standing left runs longest alone won turn strokes", 64, [112, 108, 97, 99, 101, 32, 109, 97, 110, 121, 32, 114, 111, 119, 32, 115, 116, 97, 110, 100, 105, 110, 103, 32, 108, 101, 102, 116, 32, 114, 117, 110, 115, 32, 108, 111, 110, 103, 101, 115, 116, 32, 97, 108, 111, 110, 101, 32, 119, 111, 110, 32, 116, 117, 114, 110, 32, 115, 116, 114, 111, 107, 101, 115]), ("SkittleRow$RuleReader", 62, "if", 2, [105, 102]), ("SkittleRow$RuleReader", 93, "not", 3, [110, 111, 116]), ("SkittleRow$RuleReader", 87, "and", 3, [97, 110, 100]), ("SkittleRow$RuleReader", 79, "or", 2, [111, 114])]
def sk_laws : List Int64 := [0, 1085102592571150095, 1148435428713435120, 1152903912689233920, 1152921504338411520]
end
section
/-! ===== an evaluator of the code over a memory of words; the machine is tied to it in the parts behind ===== -/
abbrev sk_V : Type := Int32 ⊕ (Int64 ⊕ Option Nat)
abbrev sk_Ls : Type := List (Option sk_V)
/-- the memory: kinds, lengths, the next address, the slots made; ints, longs, references by address and place -/
abbrev sk_H : Type := ((Nat → Nat) × (Nat → Nat) × Nat × Nat) × (Nat → Nat → Int32) × (Nat → Nat → Int64) × (Nat → Nat → Option Nat)
def hK (h : sk_H) : Nat → Nat := h.1.1
def hN (h : sk_H) : Nat → Nat := h.1.2.1
def hn (h : sk_H) : Nat := h.1.2.2.1
def hs (h : sk_H) : Nat := h.1.2.2.2
def hI (h : sk_H) : Nat → Nat → Int32 := h.2.1
def hJ (h : sk_H) : Nat → Nat → Int64 := h.2.2.1
def hR (h : sk_H) : Nat → Nat → Option Nat := h.2.2.2
def up2 {α : Type} (f : Nat → Nat → α) (a i : Nat) (v : α) : Nat → Nat → α := va_up f a (va_up (f a) i v)
def wI (h : sk_H) (a i : Nat) (v : Int32) : sk_H := (h.1, up2 h.2.1 a i v, h.2.2)
def wJ (h : sk_H) (a i : Nat) (v : Int64) : sk_H := (h.1, h.2.1, up2 h.2.2.1 a i v, h.2.2.2)
def wR (h : sk_H) (a i : Nat) (v : Option Nat) : sk_H := (h.1, h.2.1, h.2.2.1, up2 h.2.2.2 a i v)
/-- a new cell of kind k and n places, all 0 -/
def hnew (h : sk_H) (k n : Nat) : sk_H :=
  ((va_up h.1.1 h.1.2.2.1 k, va_up h.1.2.1 h.1.2.2.1 n, h.1.2.2.1 + 1, h.1.2.2.2 + n), va_up h.2.1 h.1.2.2.1 (fun _ => 0), va_up h.2.2.1 h.1.2.2.1 (fun _ => 0), va_up h.2.2.2 h.1.2.2.1 (fun _ => none))
/-- place, slots, stack, memory -/
abbrev sk_C : Type := Nat × sk_Ls × List sk_V × sk_H
abbrev sk_P : Type := (p : Prop) ×' Decidable p
abbrev sk_A : Type := sk_C ⊕ (sk_P × sk_C × sk_C) ⊕ (sk_P × sk_C) ⊕ (Int32 × List (Int32 × Nat) × sk_C) ⊕ (sk_P × Option sk_V) ⊕ ((Nat × Nat × Nat × Nat) × List sk_V × List sk_V)
/-- an instruction; four numbers (a field: kind, place, tag; a call: method, how many, kind of answer, room); a constant; a switch; at a cut what lives -/
abbrev sk_E : Type := Instr × (Nat × Nat × Nat × Nat × Nat × Nat) × sk_V × List (Int32 × Nat) × Option (List Bool)
abbrev sk_T : Type := Nat → Nat → Option sk_E
abbrev sk_B : Type := Option Nat × (Nat → Option sk_A)
def b_go (c : sk_C) : sk_B := (some 0, fun _ => some (.inl c))
def b_no : sk_B := (none, fun _ => none)
def b_br (q : sk_P) (c1 c2 : sk_C) : sk_B := (some 0, fun _ => some (.inr (.inl (q, c1, c2))))
def b_ck (q : sk_P) (c : sk_C) : sk_B := (some 0, fun _ => some (.inr (.inr (.inl (q, c)))))
def b_at (r : Option Nat) (k : Nat → sk_P × sk_C) : sk_B := (r, fun a => some (.inr (.inr (.inl (k a)))))
def b_sw (x : Int32) (cs : List (Int32 × Nat)) (c : sk_C) : sk_B := (some 0, fun _ => some (.inr (.inr (.inr (.inl (x, cs, c))))))
def b_rt (q : sk_P) (v : Option sk_V) : sk_B := (some 0, fun _ => some (.inr (.inr (.inr (.inr (.inl (q, v)))))))
def b_cl (m rk ml k : Nat) (args rest : List sk_V) : sk_B := (some 0, fun _ => some (.inr (.inr (.inr (.inr (.inr ((m, rk, ml, k), args, rest)))))))
/-- patterns of the stack -/
def s_i (st : List sk_V) (k : Int32 → List sk_V → sk_B) : sk_B := match st with
  | .inl x :: r => k x r
  | _ => b_no
def s_ii (st : List sk_V) (k : Int32 → Int32 → List sk_V → sk_B) : sk_B := match st with
  | .inl y :: .inl x :: r => k x y r
  | _ => b_no
def s_l (st : List sk_V) (k : Int64 → List sk_V → sk_B) : sk_B := match st with
  | .inr (.inl x) :: r => k x r
  | _ => b_no
def s_ll (st : List sk_V) (k : Int64 → Int64 → List sk_V → sk_B) : sk_B := match st with
  | .inr (.inl y) :: .inr (.inl x) :: r => k x y r
  | _ => b_no
def s_li (st : List sk_V) (k : Int64 → Int32 → List sk_V → sk_B) : sk_B := match st with
  | .inl y :: .inr (.inl x) :: r => k x y r
  | _ => b_no
def s_r (st : List sk_V) (k : Option Nat → List sk_V → sk_B) : sk_B := match st with
  | .inr (.inr x) :: r => k x r
  | _ => b_no
def s_rr (st : List sk_V) (k : Option Nat → Option Nat → List sk_V → sk_B) : sk_B := match st with
  | .inr (.inr y) :: .inr (.inr x) :: r => k x y r
  | _ => b_no
/-- an array and a place; with a value on top -/
def s_ri (st : List sk_V) (k : Option Nat → Int32 → List sk_V → sk_B) : sk_B := match st with
  | .inl i :: .inr (.inr x) :: r => k x i r
  | _ => b_no
def s_rii (st : List sk_V) (k : Option Nat → Int32 → Int32 → List sk_V → sk_B) : sk_B := match st with
  | .inl v :: .inl i :: .inr (.inr x) :: r => k x i v r
  | _ => b_no
def s_ril (st : List sk_V) (k : Option Nat → Int32 → Int64 → List sk_V → sk_B) : sk_B := match st with
  | .inr (.inl v) :: .inl i :: .inr (.inr x) :: r => k x i v r
  | _ => b_no
def s_rir (st : List sk_V) (k : Option Nat → Int32 → Option Nat → List sk_V → sk_B) : sk_B := match st with
  | .inr (.inr v) :: .inl i :: .inr (.inr x) :: r => k x i v r
  | _ => b_no
/-- is it of one slot -/
def v_one (v : sk_V) : Bool := match v with
  | .inr (.inl _) => false
  | _ => true
def s_1 (st : List sk_V) (k : sk_V → List sk_V → sk_B) : sk_B := match st with
  | v :: r => match v_one v with
    | true => k v r
    | false => b_no
  | _ => b_no
def s_11 (st : List sk_V) (k : sk_V → sk_V → List sk_V → sk_B) : sk_B := match st with
  | v :: w :: r => match v_one v, v_one w with
    | true, true => k v w r
    | _, _ => b_no
  | _ => b_no
/-- slots -/
def l_at : sk_Ls → Nat → Option sk_V
  | [], _ => none
  | v :: _, 0 => v
  | _ :: r, k + 1 => l_at r k
def l_i (ls : sk_Ls) (k : Nat) (f : Int32 → sk_B) : sk_B := match l_at ls k with
  | some (.inl x) => f x
  | _ => b_no
def l_l (ls : sk_Ls) (k : Nat) (f : Int64 → sk_B) : sk_B := match l_at ls k with
  | some (.inr (.inl x)) => f x
  | _ => b_no
def l_r (ls : sk_Ls) (k : Nat) (f : Option Nat → sk_B) : sk_B := match l_at ls k with
  | some (.inr (.inr x)) => f x
  | _ => b_no
/-- not a long: what stands below a stored slot -/
def v_keep (v : Option sk_V) : Option sk_V := match v with
  | some (.inr (.inl _)) => none
  | w => w
def l_s1 : sk_Ls → Nat → sk_V → sk_Ls
  | [], _, _ => []
  | _ :: r, 0, v => some v :: r
  | [w], 1, _ => [v_keep w]
  | w :: _ :: r, 1, v => v_keep w :: some v :: r
  | w :: r, k + 1, v => w :: l_s1 r k v
def l_s2 : sk_Ls → Nat → sk_V → sk_Ls
  | [], _, _ => []
  | [_], 0, _ => [none]
  | _ :: _ :: r, 0, v => some v :: none :: r
  | [w], 1, _ => [v_keep w]
  | [w, _], 1, _ => [v_keep w, none]
  | w :: _ :: _ :: r, 1, v => v_keep w :: some v :: none :: r
  | w :: r, k + 1, v => w :: l_s2 r k v
def l_s1k : sk_Ls → Nat → sk_V → (sk_Ls → sk_B) → sk_B
  | [], _, _, K => K []
  | _ :: r, 0, v, K => K (some v :: r)
  | [w], 1, _, K => K [v_keep w]
  | w :: _ :: r, 1, v, K => K (v_keep w :: some v :: r)
  | w :: r, k + 1, v, K => l_s1k r k v fun r' => K (w :: r')
theorem l_s1k_eq : ∀ (ls : sk_Ls) (k : Nat) (v : sk_V) (K : sk_Ls → sk_B), l_s1k ls k v K = K (l_s1 ls k v)
  | [], _, _, K => by simp [l_s1k, l_s1]
  | _ :: r, 0, v, K => by simp [l_s1k, l_s1]
  | w :: _ :: r, 1, v, K => by simp [l_s1k, l_s1]
  | [w], 1, v, K => by simp [l_s1k, l_s1]
  | w :: r, k + 2, v, K => by
    simp only [l_s1k, l_s1]
    exact l_s1k_eq r (k + 1) v _
def l_s2k : sk_Ls → Nat → sk_V → (sk_Ls → sk_B) → sk_B
  | [], _, _, K => K []
  | [_], 0, _, K => K [none]
  | _ :: _ :: r, 0, v, K => K (some v :: none :: r)
  | [w], 1, _, K => K [v_keep w]
  | [w, _], 1, _, K => K [v_keep w, none]
  | w :: _ :: _ :: r, 1, v, K => K (v_keep w :: some v :: none :: r)
  | w :: r, k + 1, v, K => l_s2k r k v fun r' => K (w :: r')
theorem l_s2k_eq : ∀ (ls : sk_Ls) (k : Nat) (v : sk_V) (K : sk_Ls → sk_B), l_s2k ls k v K = K (l_s2 ls k v)
  | [], _, _, K => by simp [l_s2k, l_s2]
  | [_], 0, _, K => by simp [l_s2k, l_s2]
  | _ :: _ :: r, 0, v, K => by simp [l_s2k, l_s2]
  | [w, _], 1, _, K => by simp [l_s2k, l_s2]
  | w :: _ :: _ :: r, 1, v, K => by simp [l_s2k, l_s2]
  | [w], 1, v, K => by simp [l_s2k, l_s2]
  | w :: r, k + 2, v, K => by
    simp only [l_s2k, l_s2]
    exact l_s2k_eq r (k + 1) v _
def sk_ex : List sk_V → sk_Ls
  | [] => []
  | .inr (.inl y) :: r => some (.inr (.inl y)) :: none :: sk_ex r
  | .inl x :: r => some (.inl x) :: sk_ex r
  | .inr (.inr x) :: r => some (.inr (.inr x)) :: sk_ex r
def sk_rp : Nat → sk_Ls
  | 0 => []
  | n + 1 => none :: sk_rp n
def sk_pad : Nat → sk_Ls → sk_Ls
  | 0, _ => []
  | n + 1, [] => none :: sk_pad n []
  | n + 1, v :: r => v :: sk_pad n r
def sk_ent (ml : Nat) (args : List sk_V) : sk_Ls := sk_pad ml (sk_ex args)
def sk_kill : List Bool → sk_Ls → sk_Ls
  | b :: bs, v :: r => (match b with
    | true => v
    | false => none) :: sk_kill bs r
  | _, r => r
/-- what an index is within -/
abbrev sk_out (i : Int32) (n : Nat) : Prop := i < 0 ∨ n ≤ i.toNatClampNeg
abbrev sk_in (i : Int32) (n : Nat) : Prop := ¬ (i < 0 ∨ n ≤ i.toNatClampNeg)
/-- n things off the stack, the first below -/
def sk_take : Nat → List sk_V → List sk_V → Option (List sk_V × List sk_V)
  | 0, acc, st => some (acc, st)
  | _ + 1, _, [] => none
  | n + 1, acc, v :: r => sk_take n (v :: acc) r
def j_cond (cd : ClassFile.Cond) (x y : Int32) : sk_P := match cd with
  | .eq => ⟨x = y, inferInstance⟩
  | .ne => ⟨¬ x = y, inferInstance⟩
  | .lt => ⟨x < y, inferInstance⟩
  | .ge => ⟨y ≤ x, inferInstance⟩
  | .gt => ⟨y < x, inferInstance⟩
  | .le => ⟨x ≤ y, inferInstance⟩
/-- what a place of a field holds, by its tag: 0 a whole number, 3 a truth, 1 a long, 2 a reference -/
def f_get (h : sk_H) (a fi tag : Nat) : sk_V := match tag with
  | 1 => .inr (.inl (hJ h a fi))
  | 2 => .inr (.inr (hR h a fi))
  | _ => .inl (hI h a fi)
def a_ref (k : Nat) : Bool := Nat.ble 106 k && Nat.ble k 108
def a_any (k : Nat) : Bool := (Nat.ble 101 k && Nat.ble k 108) || (k == 201 || k == 202 || k == 204)
/-- of which kind are the things in a row of references -/
def a_of (k : Nat) : Nat := match k with
  | 106 => 7
  | 107 => 9
  | 108 => 10
  | _ => 0
def n_kind (t : ArrayType) : Nat := match t with
  | .int => 101
  | .long => 102
  | .boolean => 103
  | .byte => 104
  | .char => 105
  | _ => 0
/-- what an answer of a small kind may be: 0 an int, 3 a truth, 4 a byte, 5 a char -/
def r_ok (t : Nat) (x : Int32) : sk_P := match t with
  | 0 => ⟨True, inferInstance⟩
  | 3 => ⟨x = 0 ∨ x = 1, inferInstance⟩
  | 4 => ⟨x.toInt8.toInt32 = x, inferInstance⟩
  | _ => ⟨x.toUInt32.toUInt16.toUInt32.toInt32 = x, inferInstance⟩
def sk_cat : List sk_V → Nat
  | [] => 0
  | v :: r => (match v_one v with
    | true => 1
    | false => 2) + sk_cat r
def sk_rcv (as : List sk_V) : Option Nat := match as with
  | .inr (.inr r) :: _ => r
  | _ => none
def b_inv (m n rk ml k : Nat) (st : List sk_V) : sk_B := match sk_take n [] st with
  | some (as, r) => match Nat.ble (sk_cat r) 16, Nat.ble (sk_cat as) ml with
    | true, true => b_cl m rk ml k as r
    | _, _ => b_no
  | none => b_no
def ac_aconst_null (nx e1 e2 e3 e4 e5 : Nat) (ev : sk_V) (ec : List (Int32 × Nat)) (ls : sk_Ls) (st : List sk_V) (h : sk_H)  : sk_B := b_go (nx, ls, .inr (.inr none) :: st, h)
def ac_iconst (nx e1 e2 e3 e4 e5 : Nat) (ev : sk_V) (ec : List (Int32 × Nat)) (ls : sk_Ls) (st : List sk_V) (h : sk_H) (n : Int) : sk_B := b_go (nx, ls, .inl (Int32.ofInt n) :: st, h)
def ac_bipush (nx e1 e2 e3 e4 e5 : Nat) (ev : sk_V) (ec : List (Int32 × Nat)) (ls : sk_Ls) (st : List sk_V) (h : sk_H) (n : Int) : sk_B := b_go (nx, ls, .inl (Int8.ofInt n).toInt32 :: st, h)
def ac_sipush (nx e1 e2 e3 e4 e5 : Nat) (ev : sk_V) (ec : List (Int32 × Nat)) (ls : sk_Ls) (st : List sk_V) (h : sk_H) (n : Int) : sk_B := b_go (nx, ls, .inl (Int16.ofInt n).toInt32 :: st, h)
def ac_lconst (nx e1 e2 e3 e4 e5 : Nat) (ev : sk_V) (ec : List (Int32 × Nat)) (ls : sk_Ls) (st : List sk_V) (h : sk_H) (n : Fin 2) : sk_B := b_go (nx, ls, .inr (.inl (Int64.ofNat n)) :: st, h)
def ac_ldc (nx e1 e2 e3 e4 e5 : Nat) (ev : sk_V) (ec : List (Int32 × Nat)) (ls : sk_Ls) (st : List sk_V) (h : sk_H)  : sk_B := b_go (nx, ls, ev :: st, h)
def ac_ldc_w (nx e1 e2 e3 e4 e5 : Nat) (ev : sk_V) (ec : List (Int32 × Nat)) (ls : sk_Ls) (st : List sk_V) (h : sk_H)  : sk_B := b_go (nx, ls, ev :: st, h)
def ac_ldc2_w (nx e1 e2 e3 e4 e5 : Nat) (ev : sk_V) (ec : List (Int32 × Nat)) (ls : sk_Ls) (st : List sk_V) (h : sk_H)  : sk_B := b_go (nx, ls, ev :: st, h)
def ac_iload_n (nx e1 e2 e3 e4 e5 : Nat) (ev : sk_V) (ec : List (Int32 × Nat)) (ls : sk_Ls) (st : List sk_V) (h : sk_H) (k : Fin 4) : sk_B := l_i ls k fun x => b_go (nx, ls, .inl x :: st, h)
def ac_iload (nx e1 e2 e3 e4 e5 : Nat) (ev : sk_V) (ec : List (Int32 × Nat)) (ls : sk_Ls) (st : List sk_V) (h : sk_H) (k : Nat) : sk_B := l_i ls k fun x => b_go (nx, ls, .inl x :: st, h)
def ac_lload_n (nx e1 e2 e3 e4 e5 : Nat) (ev : sk_V) (ec : List (Int32 × Nat)) (ls : sk_Ls) (st : List sk_V) (h : sk_H) (k : Fin 4) : sk_B := l_l ls k fun x => b_go (nx, ls, .inr (.inl x) :: st, h)
def ac_lload (nx e1 e2 e3 e4 e5 : Nat) (ev : sk_V) (ec : List (Int32 × Nat)) (ls : sk_Ls) (st : List sk_V) (h : sk_H) (k : Nat) : sk_B := l_l ls k fun x => b_go (nx, ls, .inr (.inl x) :: st, h)
def ac_aload_n (nx e1 e2 e3 e4 e5 : Nat) (ev : sk_V) (ec : List (Int32 × Nat)) (ls : sk_Ls) (st : List sk_V) (h : sk_H) (k : Fin 4) : sk_B := l_r ls k fun x => b_go (nx, ls, .inr (.inr x) :: st, h)
def ac_aload (nx e1 e2 e3 e4 e5 : Nat) (ev : sk_V) (ec : List (Int32 × Nat)) (ls : sk_Ls) (st : List sk_V) (h : sk_H) (k : Nat) : sk_B := l_r ls k fun x => b_go (nx, ls, .inr (.inr x) :: st, h)
def ac_istore_n (nx e1 e2 e3 e4 e5 : Nat) (ev : sk_V) (ec : List (Int32 × Nat)) (ls : sk_Ls) (st : List sk_V) (h : sk_H) (k : Fin 4) : sk_B := s_i st fun x r => l_s1k ls k (.inl x) fun ls => b_go (nx, ls, r, h)
def ac_istore (nx e1 e2 e3 e4 e5 : Nat) (ev : sk_V) (ec : List (Int32 × Nat)) (ls : sk_Ls) (st : List sk_V) (h : sk_H) (k : Nat) : sk_B := s_i st fun x r => l_s1k ls k (.inl x) fun ls => b_go (nx, ls, r, h)
def ac_lstore_n (nx e1 e2 e3 e4 e5 : Nat) (ev : sk_V) (ec : List (Int32 × Nat)) (ls : sk_Ls) (st : List sk_V) (h : sk_H) (k : Fin 4) : sk_B := s_l st fun x r => l_s2k ls k (.inr (.inl x)) fun ls => b_go (nx, ls, r, h)
def ac_lstore (nx e1 e2 e3 e4 e5 : Nat) (ev : sk_V) (ec : List (Int32 × Nat)) (ls : sk_Ls) (st : List sk_V) (h : sk_H) (k : Nat) : sk_B := s_l st fun x r => l_s2k ls k (.inr (.inl x)) fun ls => b_go (nx, ls, r, h)
def ac_astore_n (nx e1 e2 e3 e4 e5 : Nat) (ev : sk_V) (ec : List (Int32 × Nat)) (ls : sk_Ls) (st : List sk_V) (h : sk_H) (k : Fin 4) : sk_B := s_r st fun x r => l_s1k ls k (.inr (.inr x)) fun ls => b_go (nx, ls, r, h)
def ac_astore (nx e1 e2 e3 e4 e5 : Nat) (ev : sk_V) (ec : List (Int32 × Nat)) (ls : sk_Ls) (st : List sk_V) (h : sk_H) (k : Nat) : sk_B := s_r st fun x r => l_s1k ls k (.inr (.inr x)) fun ls => b_go (nx, ls, r, h)
def ac_iinc (nx e1 e2 e3 e4 e5 : Nat) (ev : sk_V) (ec : List (Int32 × Nat)) (ls : sk_Ls) (st : List sk_V) (h : sk_H) (k : Nat) (n : Int) : sk_B := l_i ls k fun x => l_s1k ls k (.inl (x + Int32.ofInt n)) fun ls => b_go (nx, ls, st, h)
def ac_dup (nx e1 e2 e3 e4 e5 : Nat) (ev : sk_V) (ec : List (Int32 × Nat)) (ls : sk_Ls) (st : List sk_V) (h : sk_H)  : sk_B := s_1 st fun v r => b_go (nx, ls, v :: v :: r, h)
def ac_dup_x1 (nx e1 e2 e3 e4 e5 : Nat) (ev : sk_V) (ec : List (Int32 × Nat)) (ls : sk_Ls) (st : List sk_V) (h : sk_H)  : sk_B := s_11 st fun v w r => b_go (nx, ls, v :: w :: v :: r, h)
def ac_dup2 (nx e1 e2 e3 e4 e5 : Nat) (ev : sk_V) (ec : List (Int32 × Nat)) (ls : sk_Ls) (st : List sk_V) (h : sk_H)  : sk_B := s_11 st fun v w r => b_go (nx, ls, v :: w :: v :: w :: r, h)
def ac_pop (nx e1 e2 e3 e4 e5 : Nat) (ev : sk_V) (ec : List (Int32 × Nat)) (ls : sk_Ls) (st : List sk_V) (h : sk_H)  : sk_B := s_1 st fun _ r => b_go (nx, ls, r, h)
def ac_iadd (nx e1 e2 e3 e4 e5 : Nat) (ev : sk_V) (ec : List (Int32 × Nat)) (ls : sk_Ls) (st : List sk_V) (h : sk_H)  : sk_B := s_ii st fun x y r => b_go (nx, ls, .inl (x + y) :: r, h)
def ac_isub (nx e1 e2 e3 e4 e5 : Nat) (ev : sk_V) (ec : List (Int32 × Nat)) (ls : sk_Ls) (st : List sk_V) (h : sk_H)  : sk_B := s_ii st fun x y r => b_go (nx, ls, .inl (x - y) :: r, h)
def ac_imul (nx e1 e2 e3 e4 e5 : Nat) (ev : sk_V) (ec : List (Int32 × Nat)) (ls : sk_Ls) (st : List sk_V) (h : sk_H)  : sk_B := s_ii st fun x y r => b_go (nx, ls, .inl (x * y) :: r, h)
def ac_iand (nx e1 e2 e3 e4 e5 : Nat) (ev : sk_V) (ec : List (Int32 × Nat)) (ls : sk_Ls) (st : List sk_V) (h : sk_H)  : sk_B := s_ii st fun x y r => b_go (nx, ls, .inl (x &&& y) :: r, h)
def ac_ior (nx e1 e2 e3 e4 e5 : Nat) (ev : sk_V) (ec : List (Int32 × Nat)) (ls : sk_Ls) (st : List sk_V) (h : sk_H)  : sk_B := s_ii st fun x y r => b_go (nx, ls, .inl (x ||| y) :: r, h)
def ac_ixor (nx e1 e2 e3 e4 e5 : Nat) (ev : sk_V) (ec : List (Int32 × Nat)) (ls : sk_Ls) (st : List sk_V) (h : sk_H)  : sk_B := s_ii st fun x y r => b_go (nx, ls, .inl (x ^^^ y) :: r, h)
def ac_idiv (nx e1 e2 e3 e4 e5 : Nat) (ev : sk_V) (ec : List (Int32 × Nat)) (ls : sk_Ls) (st : List sk_V) (h : sk_H)  : sk_B := s_ii st fun x y r => b_ck ⟨¬ y = 0, inferInstance⟩ (nx, ls, .inl (x / y) :: r, h)
def ac_irem (nx e1 e2 e3 e4 e5 : Nat) (ev : sk_V) (ec : List (Int32 × Nat)) (ls : sk_Ls) (st : List sk_V) (h : sk_H)  : sk_B := s_ii st fun x y r => b_ck ⟨¬ y = 0, inferInstance⟩ (nx, ls, .inl (x - x / y * y) :: r, h)
def ac_ineg (nx e1 e2 e3 e4 e5 : Nat) (ev : sk_V) (ec : List (Int32 × Nat)) (ls : sk_Ls) (st : List sk_V) (h : sk_H)  : sk_B := s_i st fun x r => b_go (nx, ls, .inl (-x) :: r, h)
def ac_ishl (nx e1 e2 e3 e4 e5 : Nat) (ev : sk_V) (ec : List (Int32 × Nat)) (ls : sk_Ls) (st : List sk_V) (h : sk_H)  : sk_B := s_ii st fun x y r => b_go (nx, ls, .inl (x <<< (y &&& 31)) :: r, h)
def ac_ishr (nx e1 e2 e3 e4 e5 : Nat) (ev : sk_V) (ec : List (Int32 × Nat)) (ls : sk_Ls) (st : List sk_V) (h : sk_H)  : sk_B := s_ii st fun x y r => b_go (nx, ls, .inl (x >>> (y &&& 31)) :: r, h)
def ac_iushr (nx e1 e2 e3 e4 e5 : Nat) (ev : sk_V) (ec : List (Int32 × Nat)) (ls : sk_Ls) (st : List sk_V) (h : sk_H)  : sk_B := s_ii st fun x y r => b_go (nx, ls, .inl (x.toUInt32 >>> (y.toUInt32 &&& Int32.toUInt32 31)).toInt32 :: r, h)
def ac_ladd (nx e1 e2 e3 e4 e5 : Nat) (ev : sk_V) (ec : List (Int32 × Nat)) (ls : sk_Ls) (st : List sk_V) (h : sk_H)  : sk_B := s_ll st fun x y r => b_go (nx, ls, .inr (.inl (x + y)) :: r, h)
def ac_lsub (nx e1 e2 e3 e4 e5 : Nat) (ev : sk_V) (ec : List (Int32 × Nat)) (ls : sk_Ls) (st : List sk_V) (h : sk_H)  : sk_B := s_ll st fun x y r => b_go (nx, ls, .inr (.inl (x - y)) :: r, h)
def ac_lmul (nx e1 e2 e3 e4 e5 : Nat) (ev : sk_V) (ec : List (Int32 × Nat)) (ls : sk_Ls) (st : List sk_V) (h : sk_H)  : sk_B := s_ll st fun x y r => b_go (nx, ls, .inr (.inl (x * y)) :: r, h)
def ac_land (nx e1 e2 e3 e4 e5 : Nat) (ev : sk_V) (ec : List (Int32 × Nat)) (ls : sk_Ls) (st : List sk_V) (h : sk_H)  : sk_B := s_ll st fun x y r => b_go (nx, ls, .inr (.inl (x &&& y)) :: r, h)
def ac_lor (nx e1 e2 e3 e4 e5 : Nat) (ev : sk_V) (ec : List (Int32 × Nat)) (ls : sk_Ls) (st : List sk_V) (h : sk_H)  : sk_B := s_ll st fun x y r => b_go (nx, ls, .inr (.inl (x ||| y)) :: r, h)
def ac_lxor (nx e1 e2 e3 e4 e5 : Nat) (ev : sk_V) (ec : List (Int32 × Nat)) (ls : sk_Ls) (st : List sk_V) (h : sk_H)  : sk_B := s_ll st fun x y r => b_go (nx, ls, .inr (.inl (x ^^^ y)) :: r, h)
def ac_ldiv (nx e1 e2 e3 e4 e5 : Nat) (ev : sk_V) (ec : List (Int32 × Nat)) (ls : sk_Ls) (st : List sk_V) (h : sk_H)  : sk_B := s_ll st fun x y r => b_ck ⟨¬ y = 0, inferInstance⟩ (nx, ls, .inr (.inl (x / y)) :: r, h)
def ac_lrem (nx e1 e2 e3 e4 e5 : Nat) (ev : sk_V) (ec : List (Int32 × Nat)) (ls : sk_Ls) (st : List sk_V) (h : sk_H)  : sk_B := s_ll st fun x y r => b_ck ⟨¬ y = 0, inferInstance⟩ (nx, ls, .inr (.inl (x - x / y * y)) :: r, h)
def ac_lshl (nx e1 e2 e3 e4 e5 : Nat) (ev : sk_V) (ec : List (Int32 × Nat)) (ls : sk_Ls) (st : List sk_V) (h : sk_H)  : sk_B := s_li st fun x y r => b_go (nx, ls, .inr (.inl (x <<< (y.toInt64 &&& 63))) :: r, h)
def ac_lshr (nx e1 e2 e3 e4 e5 : Nat) (ev : sk_V) (ec : List (Int32 × Nat)) (ls : sk_Ls) (st : List sk_V) (h : sk_H)  : sk_B := s_li st fun x y r => b_go (nx, ls, .inr (.inl (x >>> (y.toInt64 &&& 63))) :: r, h)
def ac_lushr (nx e1 e2 e3 e4 e5 : Nat) (ev : sk_V) (ec : List (Int32 × Nat)) (ls : sk_Ls) (st : List sk_V) (h : sk_H)  : sk_B := s_li st fun x y r => b_go (nx, ls, .inr (.inl (x.toUInt64 >>> (y.toInt64.toUInt64 &&& Int64.toUInt64 63)).toInt64) :: r, h)
def ac_lcmp (nx e1 e2 e3 e4 e5 : Nat) (ev : sk_V) (ec : List (Int32 × Nat)) (ls : sk_Ls) (st : List sk_V) (h : sk_H)  : sk_B := s_ll st fun x y r => b_go (nx, ls, .inl (lg_cmp x y) :: r, h)
def ac_i2l (nx e1 e2 e3 e4 e5 : Nat) (ev : sk_V) (ec : List (Int32 × Nat)) (ls : sk_Ls) (st : List sk_V) (h : sk_H)  : sk_B := s_i st fun x r => b_go (nx, ls, .inr (.inl x.toInt64) :: r, h)
def ac_l2i (nx e1 e2 e3 e4 e5 : Nat) (ev : sk_V) (ec : List (Int32 × Nat)) (ls : sk_Ls) (st : List sk_V) (h : sk_H)  : sk_B := s_l st fun x r => b_go (nx, ls, .inl x.toInt32 :: r, h)
def ac_i2b (nx e1 e2 e3 e4 e5 : Nat) (ev : sk_V) (ec : List (Int32 × Nat)) (ls : sk_Ls) (st : List sk_V) (h : sk_H)  : sk_B := s_i st fun x r => b_go (nx, ls, .inl x.toInt8.toInt32 :: r, h)
def ac_i2c (nx e1 e2 e3 e4 e5 : Nat) (ev : sk_V) (ec : List (Int32 × Nat)) (ls : sk_Ls) (st : List sk_V) (h : sk_H)  : sk_B := s_i st fun x r => b_go (nx, ls, .inl (x.toUInt32 % 65536).toInt32 :: r, h)
def ac_goto (nx e1 e2 e3 e4 e5 : Nat) (ev : sk_V) (ec : List (Int32 × Nat)) (ls : sk_Ls) (st : List sk_V) (h : sk_H)  : sk_B := b_go (e1, ls, st, h)
def ac_ifCond (nx e1 e2 e3 e4 e5 : Nat) (ev : sk_V) (ec : List (Int32 × Nat)) (ls : sk_Ls) (st : List sk_V) (h : sk_H) (cd : ClassFile.Cond) : sk_B := s_i st fun x r => b_br (j_cond cd x 0) (e1, ls, r, h) (nx, ls, r, h)
def ac_if_icmp (nx e1 e2 e3 e4 e5 : Nat) (ev : sk_V) (ec : List (Int32 × Nat)) (ls : sk_Ls) (st : List sk_V) (h : sk_H) (cd : ClassFile.Cond) : sk_B := s_ii st fun x y r => b_br (j_cond cd x y) (e1, ls, r, h) (nx, ls, r, h)
def b_brg (g : sk_P) (q : sk_P) (c1 c2 : sk_C) : sk_B := (@ite _ g.1 g.2 (some 0) none, fun _ => some (.inr (.inl (q, c1, c2))))
def ac_if_acmp_eq (nx e1 e2 e3 e4 e5 : Nat) (ev : sk_V) (ec : List (Int32 × Nat)) (ls : sk_Ls) (st : List sk_V) (h : sk_H)  : sk_B := s_rr st fun x y r => b_brg ⟨20 ≤ x.getD 20 ∧ 20 ≤ y.getD 20, inferInstance⟩ ⟨x = y, inferInstance⟩ (e1, ls, r, h) (nx, ls, r, h)
def ac_if_acmp_ne (nx e1 e2 e3 e4 e5 : Nat) (ev : sk_V) (ec : List (Int32 × Nat)) (ls : sk_Ls) (st : List sk_V) (h : sk_H)  : sk_B := s_rr st fun x y r => b_brg ⟨20 ≤ x.getD 20 ∧ 20 ≤ y.getD 20, inferInstance⟩ ⟨¬ x = y, inferInstance⟩ (e1, ls, r, h) (nx, ls, r, h)
def ac_ifnull (nx e1 e2 e3 e4 e5 : Nat) (ev : sk_V) (ec : List (Int32 × Nat)) (ls : sk_Ls) (st : List sk_V) (h : sk_H)  : sk_B := s_r st fun x r => b_br ⟨x = none, inferInstance⟩ (e1, ls, r, h) (nx, ls, r, h)
def ac_ifnonnull (nx e1 e2 e3 e4 e5 : Nat) (ev : sk_V) (ec : List (Int32 × Nat)) (ls : sk_Ls) (st : List sk_V) (h : sk_H)  : sk_B := s_r st fun x r => b_br ⟨¬ x = none, inferInstance⟩ (e1, ls, r, h) (nx, ls, r, h)
def ac_tableswitch (nx e1 e2 e3 e4 e5 : Nat) (ev : sk_V) (ec : List (Int32 × Nat)) (ls : sk_Ls) (st : List sk_V) (h : sk_H)  : sk_B := s_i st fun x r => b_sw x ec (e1, ls, r, h)
def ac_lookupswitch (nx e1 e2 e3 e4 e5 : Nat) (ev : sk_V) (ec : List (Int32 × Nat)) (ls : sk_Ls) (st : List sk_V) (h : sk_H)  : sk_B := s_i st fun x r => b_sw x ec (e1, ls, r, h)
def ac_ireturn (nx e1 e2 e3 e4 e5 : Nat) (ev : sk_V) (ec : List (Int32 × Nat)) (ls : sk_Ls) (st : List sk_V) (h : sk_H)  : sk_B := match st with
    | [.inl x] => b_rt (r_ok e1 x) (some (.inl x))
    | _ => b_no
def ac_lreturn (nx e1 e2 e3 e4 e5 : Nat) (ev : sk_V) (ec : List (Int32 × Nat)) (ls : sk_Ls) (st : List sk_V) (h : sk_H)  : sk_B := match st with
    | [.inr (.inl x)] => b_rt ⟨True, inferInstance⟩ (some (.inr (.inl x)))
    | _ => b_no
def ac_areturn (nx e1 e2 e3 e4 e5 : Nat) (ev : sk_V) (ec : List (Int32 × Nat)) (ls : sk_Ls) (st : List sk_V) (h : sk_H)  : sk_B := match st with
    | [.inr (.inr x)] => b_rt ⟨True, inferInstance⟩ (some (.inr (.inr x)))
    | _ => b_no
def ac_return_ (nx e1 e2 e3 e4 e5 : Nat) (ev : sk_V) (ec : List (Int32 × Nat)) (ls : sk_Ls) (st : List sk_V) (h : sk_H)  : sk_B := match st with
    | [] => b_rt ⟨True, inferInstance⟩ none
    | _ => b_no
def ac_getfield (nx e1 e2 e3 e4 e5 : Nat) (ev : sk_V) (ec : List (Int32 × Nat)) (ls : sk_Ls) (st : List sk_V) (h : sk_H)  : sk_B := s_r st fun x r => b_at x fun a => (⟨hK h a = e1, inferInstance⟩, (nx, ls, f_get h a e2 e3 :: r, h))
def ac_putfield (nx e1 e2 e3 e4 e5 : Nat) (ev : sk_V) (ec : List (Int32 × Nat)) (ls : sk_Ls) (st : List sk_V) (h : sk_H)  : sk_B := match e3 with
    | 0 => s_ri st fun x v r => b_at x fun a => (⟨hK h a = e1, inferInstance⟩, (nx, ls, r, wI h a e2 v))
    | 1 => match st with
      | .inr (.inl v) :: .inr (.inr x) :: r => b_at x fun a => (⟨hK h a = e1, inferInstance⟩, (nx, ls, r, wJ h a e2 v))
      | _ => b_no
    | 2 => match st with
      | .inr (.inr v) :: .inr (.inr x) :: r => b_at x fun a => (⟨hK h a = e1, inferInstance⟩, (nx, ls, r, wR h a e2 v))
      | _ => b_no
    | _ => s_ri st fun x v r => b_at x fun a => (⟨hK h a = e1 ∧ (v = 0 ∨ v = 1), inferInstance⟩, (nx, ls, r, wI h a e2 v))
def ac_getstatic (nx e1 e2 e3 e4 e5 : Nat) (ev : sk_V) (ec : List (Int32 × Nat)) (ls : sk_Ls) (st : List sk_V) (h : sk_H)  : sk_B := match e1 with
    | 0 => b_go (nx, ls, ev :: st, h)
    | _ => b_go (nx, ls, .inr (.inr (hR h 0 2)) :: st, h)
def ac_new (nx e1 e2 e3 e4 e5 : Nat) (ev : sk_V) (ec : List (Int32 × Nat)) (ls : sk_Ls) (st : List sk_V) (h : sk_H)  : sk_B := b_go (nx, ls, .inr (.inr (some (hn h))) :: st, hnew h e1 e2)
def ac_newarray (nx e1 e2 e3 e4 e5 : Nat) (ev : sk_V) (ec : List (Int32 × Nat)) (ls : sk_Ls) (st : List sk_V) (h : sk_H) (t : ArrayType) : sk_B := s_i st fun n r => b_ck ⟨¬ n < 0 ∧ n.toNatClampNeg ≤ 60000, inferInstance⟩ (nx, ls, .inr (.inr (some (hn h))) :: r, hnew h (n_kind t) n.toNatClampNeg)
def ac_anewarray (nx e1 e2 e3 e4 e5 : Nat) (ev : sk_V) (ec : List (Int32 × Nat)) (ls : sk_Ls) (st : List sk_V) (h : sk_H)  : sk_B := s_i st fun n r => b_ck ⟨¬ n < 0 ∧ n.toNatClampNeg ≤ 60000, inferInstance⟩ (nx, ls, .inr (.inr (some (hn h))) :: r, hnew h e1 n.toNatClampNeg)
def ac_arraylength (nx e1 e2 e3 e4 e5 : Nat) (ev : sk_V) (ec : List (Int32 × Nat)) (ls : sk_Ls) (st : List sk_V) (h : sk_H)  : sk_B := s_r st fun x r => b_at x fun a => (⟨a_any (hK h a) = true, inferInstance⟩, (nx, ls, .inl (Int32.ofNat (hN h a)) :: r, h))
def ac_iaload (nx e1 e2 e3 e4 e5 : Nat) (ev : sk_V) (ec : List (Int32 × Nat)) (ls : sk_Ls) (st : List sk_V) (h : sk_H)  : sk_B := s_ri st fun x i r => b_at x fun a => (⟨(hK h a = 101 ∨ hK h a = 201) ∧ sk_in i (hN h a), inferInstance⟩, (nx, ls, .inl (hI h a i.toNatClampNeg) :: r, h))
def ac_baload (nx e1 e2 e3 e4 e5 : Nat) (ev : sk_V) (ec : List (Int32 × Nat)) (ls : sk_Ls) (st : List sk_V) (h : sk_H)  : sk_B := s_ri st fun x i r => b_at x fun a => (⟨(hK h a = 103 ∨ hK h a = 104 ∨ hK h a = 204) ∧ sk_in i (hN h a), inferInstance⟩, (nx, ls, .inl (hI h a i.toNatClampNeg) :: r, h))
def ac_caload (nx e1 e2 e3 e4 e5 : Nat) (ev : sk_V) (ec : List (Int32 × Nat)) (ls : sk_Ls) (st : List sk_V) (h : sk_H)  : sk_B := s_ri st fun x i r => b_at x fun a => (⟨hK h a = 105 ∧ sk_in i (hN h a), inferInstance⟩, (nx, ls, .inl (hI h a i.toNatClampNeg) :: r, h))
def ac_laload (nx e1 e2 e3 e4 e5 : Nat) (ev : sk_V) (ec : List (Int32 × Nat)) (ls : sk_Ls) (st : List sk_V) (h : sk_H)  : sk_B := s_ri st fun x i r => b_at x fun a => (⟨(hK h a = 102 ∨ hK h a = 202) ∧ sk_in i (hN h a), inferInstance⟩, (nx, ls, .inr (.inl (hJ h a i.toNatClampNeg)) :: r, h))
def ac_aaload (nx e1 e2 e3 e4 e5 : Nat) (ev : sk_V) (ec : List (Int32 × Nat)) (ls : sk_Ls) (st : List sk_V) (h : sk_H)  : sk_B := s_ri st fun x i r => b_at x fun a => (⟨a_ref (hK h a) = true ∧ sk_in i (hN h a), inferInstance⟩, (nx, ls, .inr (.inr (hR h a i.toNatClampNeg)) :: r, h))
def ac_iastore (nx e1 e2 e3 e4 e5 : Nat) (ev : sk_V) (ec : List (Int32 × Nat)) (ls : sk_Ls) (st : List sk_V) (h : sk_H)  : sk_B := s_rii st fun x i v r => b_at x fun a => (⟨hK h a = 101 ∧ sk_in i (hN h a), inferInstance⟩, (nx, ls, r, wI h a i.toNatClampNeg v))
def ac_bastore (nx e1 e2 e3 e4 e5 : Nat) (ev : sk_V) (ec : List (Int32 × Nat)) (ls : sk_Ls) (st : List sk_V) (h : sk_H)  : sk_B := s_rii st fun x i v r => b_at x fun a => (⟨(hK h a = 104 ∨ (hK h a = 103 ∧ (v = 0 ∨ v = 1))) ∧ sk_in i (hN h a), inferInstance⟩, (nx, ls, r, wI h a i.toNatClampNeg v.toInt8.toInt32))
def ac_castore (nx e1 e2 e3 e4 e5 : Nat) (ev : sk_V) (ec : List (Int32 × Nat)) (ls : sk_Ls) (st : List sk_V) (h : sk_H)  : sk_B := s_rii st fun x i v r => b_at x fun a => (⟨hK h a = 105 ∧ sk_in i (hN h a), inferInstance⟩, (nx, ls, r, wI h a i.toNatClampNeg v.toUInt32.toUInt16.toUInt32.toInt32))
def ac_lastore (nx e1 e2 e3 e4 e5 : Nat) (ev : sk_V) (ec : List (Int32 × Nat)) (ls : sk_Ls) (st : List sk_V) (h : sk_H)  : sk_B := s_ril st fun x i v r => b_at x fun a => (⟨hK h a = 102 ∧ sk_in i (hN h a), inferInstance⟩, (nx, ls, r, wJ h a i.toNatClampNeg v))
def ac_aastore (nx e1 e2 e3 e4 e5 : Nat) (ev : sk_V) (ec : List (Int32 × Nat)) (ls : sk_Ls) (st : List sk_V) (h : sk_H)  : sk_B := s_rir st fun x i v r => b_at x fun a => (⟨a_ref (hK h a) = true ∧ sk_in i (hN h a) ∧ hK h (v.getD 0) = a_of (hK h a) ∧ ¬ v = none, inferInstance⟩, (nx, ls, r, wR h a i.toNatClampNeg v))
def ac_invokespecial (nx e1 e2 e3 e4 e5 : Nat) (ev : sk_V) (ec : List (Int32 × Nat)) (ls : sk_Ls) (st : List sk_V) (h : sk_H)  : sk_B := match e1 with
    | 0 => match st with
      | [.inr (.inr x)] => (x, fun _ => some (.inl (nx, ls, [], h)))
      | _ => b_no
    | m + 1 => b_inv m e2 e3 e4 e5 st
def ac_invokevirtual (nx e1 e2 e3 e4 e5 : Nat) (ev : sk_V) (ec : List (Int32 × Nat)) (ls : sk_Ls) (st : List sk_V) (h : sk_H)  : sk_B := b_inv (e1 - 1) e2 e3 e4 e5 st
/-- the greater, the less of two -/
def b_mm (nx e2 : Nat) (ls : sk_Ls) (st : List sk_V) (h : sk_H) : sk_B := s_ii st fun x y r => match Nat.ble (sk_cat r) 16 with
  | true => match e2 with
    | 0 => b_go (nx, ls, .inl (if x < y then y else x) :: r, h)
    | _ => b_go (nx, ls, .inl (if y < x then y else x) :: r, h)
  | false => b_no
def ac_invokestatic (nx e1 e2 e3 e4 e5 : Nat) (ev : sk_V) (ec : List (Int32 × Nat)) (ls : sk_Ls) (st : List sk_V) (h : sk_H)  : sk_B := match e1 with
    | 0 => b_mm nx e2 ls st h
    | m + 1 => b_inv m e2 e3 e4 0 st
def sk_ac0 (i : Instr) (nx e1 e2 e3 e4 e5 : Nat) (ev : sk_V) (ec : List (Int32 × Nat)) (ls : sk_Ls) (st : List sk_V) (h : sk_H) : sk_B := match i with
  | .aconst_null => ac_aconst_null nx e1 e2 e3 e4 e5 ev ec ls st h
  | .iconst n => ac_iconst nx e1 e2 e3 e4 e5 ev ec ls st h n
  | .bipush n => ac_bipush nx e1 e2 e3 e4 e5 ev ec ls st h n
  | .sipush n => ac_sipush nx e1 e2 e3 e4 e5 ev ec ls st h n
  | .lconst n => ac_lconst nx e1 e2 e3 e4 e5 ev ec ls st h n
  | .ldc _ => ac_ldc nx e1 e2 e3 e4 e5 ev ec ls st h
  | .ldc_w _ => ac_ldc_w nx e1 e2 e3 e4 e5 ev ec ls st h
  | .ldc2_w _ => ac_ldc2_w nx e1 e2 e3 e4 e5 ev ec ls st h
  | .iload_n k => ac_iload_n nx e1 e2 e3 e4 e5 ev ec ls st h k
  | .iload k => ac_iload nx e1 e2 e3 e4 e5 ev ec ls st h k
  | .lload_n k => ac_lload_n nx e1 e2 e3 e4 e5 ev ec ls st h k
  | .lload k => ac_lload nx e1 e2 e3 e4 e5 ev ec ls st h k
  | .aload_n k => ac_aload_n nx e1 e2 e3 e4 e5 ev ec ls st h k
  | .aload k => ac_aload nx e1 e2 e3 e4 e5 ev ec ls st h k
  | .istore_n k => ac_istore_n nx e1 e2 e3 e4 e5 ev ec ls st h k
  | .istore k => ac_istore nx e1 e2 e3 e4 e5 ev ec ls st h k
  | .lstore_n k => ac_lstore_n nx e1 e2 e3 e4 e5 ev ec ls st h k
  | .lstore k => ac_lstore nx e1 e2 e3 e4 e5 ev ec ls st h k
  | .astore_n k => ac_astore_n nx e1 e2 e3 e4 e5 ev ec ls st h k
  | .astore k => ac_astore nx e1 e2 e3 e4 e5 ev ec ls st h k
  | .iinc k n => ac_iinc nx e1 e2 e3 e4 e5 ev ec ls st h k n
  | .dup => ac_dup nx e1 e2 e3 e4 e5 ev ec ls st h
  | .dup_x1 => ac_dup_x1 nx e1 e2 e3 e4 e5 ev ec ls st h
  | .dup2 => ac_dup2 nx e1 e2 e3 e4 e5 ev ec ls st h
  | .pop => ac_pop nx e1 e2 e3 e4 e5 ev ec ls st h
  | .iadd => ac_iadd nx e1 e2 e3 e4 e5 ev ec ls st h
  | .isub => ac_isub nx e1 e2 e3 e4 e5 ev ec ls st h
  | .imul => ac_imul nx e1 e2 e3 e4 e5 ev ec ls st h
  | .iand => ac_iand nx e1 e2 e3 e4 e5 ev ec ls st h
  | .ior => ac_ior nx e1 e2 e3 e4 e5 ev ec ls st h
  | .ixor => ac_ixor nx e1 e2 e3 e4 e5 ev ec ls st h
  | .idiv => ac_idiv nx e1 e2 e3 e4 e5 ev ec ls st h
  | .irem => ac_irem nx e1 e2 e3 e4 e5 ev ec ls st h
  | .ineg => ac_ineg nx e1 e2 e3 e4 e5 ev ec ls st h
  | .ishl => ac_ishl nx e1 e2 e3 e4 e5 ev ec ls st h
  | .ishr => ac_ishr nx e1 e2 e3 e4 e5 ev ec ls st h
  | .iushr => ac_iushr nx e1 e2 e3 e4 e5 ev ec ls st h
  | .ladd => ac_ladd nx e1 e2 e3 e4 e5 ev ec ls st h
  | .lsub => ac_lsub nx e1 e2 e3 e4 e5 ev ec ls st h
  | .lmul => ac_lmul nx e1 e2 e3 e4 e5 ev ec ls st h
  | .land => ac_land nx e1 e2 e3 e4 e5 ev ec ls st h
  | .lor => ac_lor nx e1 e2 e3 e4 e5 ev ec ls st h
  | .lxor => ac_lxor nx e1 e2 e3 e4 e5 ev ec ls st h
  | .ldiv => ac_ldiv nx e1 e2 e3 e4 e5 ev ec ls st h
  | .lrem => ac_lrem nx e1 e2 e3 e4 e5 ev ec ls st h
  | .lshl => ac_lshl nx e1 e2 e3 e4 e5 ev ec ls st h
  | .lshr => ac_lshr nx e1 e2 e3 e4 e5 ev ec ls st h
  | .lushr => ac_lushr nx e1 e2 e3 e4 e5 ev ec ls st h
  | .lcmp => ac_lcmp nx e1 e2 e3 e4 e5 ev ec ls st h
  | .i2l => ac_i2l nx e1 e2 e3 e4 e5 ev ec ls st h
  | .l2i => ac_l2i nx e1 e2 e3 e4 e5 ev ec ls st h
  | .i2b => ac_i2b nx e1 e2 e3 e4 e5 ev ec ls st h
  | .i2c => ac_i2c nx e1 e2 e3 e4 e5 ev ec ls st h
  | .goto _ => ac_goto nx e1 e2 e3 e4 e5 ev ec ls st h
  | .ifCond cd _ => ac_ifCond nx e1 e2 e3 e4 e5 ev ec ls st h cd
  | .if_icmp cd _ => ac_if_icmp nx e1 e2 e3 e4 e5 ev ec ls st h cd
  | .if_acmp .eq _ => ac_if_acmp_eq nx e1 e2 e3 e4 e5 ev ec ls st h
  | .if_acmp .ne _ => ac_if_acmp_ne nx e1 e2 e3 e4 e5 ev ec ls st h
  | .ifnull _ => ac_ifnull nx e1 e2 e3 e4 e5 ev ec ls st h
  | .ifnonnull _ => ac_ifnonnull nx e1 e2 e3 e4 e5 ev ec ls st h
  | .tableswitch _ _ _ _ => ac_tableswitch nx e1 e2 e3 e4 e5 ev ec ls st h
  | .lookupswitch _ _ => ac_lookupswitch nx e1 e2 e3 e4 e5 ev ec ls st h
  | .ireturn => ac_ireturn nx e1 e2 e3 e4 e5 ev ec ls st h
  | .lreturn => ac_lreturn nx e1 e2 e3 e4 e5 ev ec ls st h
  | .areturn => ac_areturn nx e1 e2 e3 e4 e5 ev ec ls st h
  | .return_ => ac_return_ nx e1 e2 e3 e4 e5 ev ec ls st h
  | .getfield _ => ac_getfield nx e1 e2 e3 e4 e5 ev ec ls st h
  | .putfield _ => ac_putfield nx e1 e2 e3 e4 e5 ev ec ls st h
  | .getstatic _ => ac_getstatic nx e1 e2 e3 e4 e5 ev ec ls st h
  | .new _ => ac_new nx e1 e2 e3 e4 e5 ev ec ls st h
  | .newarray t => ac_newarray nx e1 e2 e3 e4 e5 ev ec ls st h t
  | .anewarray _ => ac_anewarray nx e1 e2 e3 e4 e5 ev ec ls st h
  | .arraylength => ac_arraylength nx e1 e2 e3 e4 e5 ev ec ls st h
  | .iaload => ac_iaload nx e1 e2 e3 e4 e5 ev ec ls st h
  | .baload => ac_baload nx e1 e2 e3 e4 e5 ev ec ls st h
  | .caload => ac_caload nx e1 e2 e3 e4 e5 ev ec ls st h
  | .laload => ac_laload nx e1 e2 e3 e4 e5 ev ec ls st h
  | .aaload => ac_aaload nx e1 e2 e3 e4 e5 ev ec ls st h
  | .iastore => ac_iastore nx e1 e2 e3 e4 e5 ev ec ls st h
  | .bastore => ac_bastore nx e1 e2 e3 e4 e5 ev ec ls st h
  | .castore => ac_castore nx e1 e2 e3 e4 e5 ev ec ls st h
  | .lastore => ac_lastore nx e1 e2 e3 e4 e5 ev ec ls st h
  | .aastore => ac_aastore nx e1 e2 e3 e4 e5 ev ec ls st h
  | .invokespecial _ => ac_invokespecial nx e1 e2 e3 e4 e5 ev ec ls st h
  | .invokevirtual _ => ac_invokevirtual nx e1 e2 e3 e4 e5 ev ec ls st h
  | .invokestatic _ => ac_invokestatic nx e1 e2 e3 e4 e5 ev ec ls st h
  | _ => b_no
def sk_act (e : sk_E) (ls : sk_Ls) (st : List sk_V) (h : sk_H) : sk_B := match e with
  | (i, (nx, e1, e2, e3, e4, e5), ev, ec, _) => sk_ac0 i nx e1 e2 e3 e4 e5 ev ec ls st h
/-! answers by their kinds -/
abbrev sk_R : Type := Option (sk_H × Option sk_V)
def t_V (h : sk_H) (v : Option sk_V) : Option sk_H := match v with
  | none => some h
  | _ => none
def t_I (h : sk_H) (v : Option sk_V) : Option (sk_H × Int32) := match v with
  | some (.inl x) => some (h, x)
  | _ => none
def t_L (h : sk_H) (v : Option sk_V) : Option (sk_H × Int64) := match v with
  | some (.inr (.inl x)) => some (h, x)
  | _ => none
def t_R (h : sk_H) (v : Option sk_V) : Option (sk_H × Option Nat) := match v with
  | some (.inr (.inr x)) => some (h, x)
  | _ => none
def t_O (h : sk_H) (v : Option sk_V) : sk_R := some (h, v)
def sk_ty {τ : Type} (ret : sk_H → Option sk_V → Option τ) (r : sk_R) : Option τ := r.bind fun q => ret q.1 q.2
def sk_cont {τ : Type} (rk : Nat) (r : sk_R) (k : sk_H → List sk_V → Option τ) : Option τ := match rk with
  | 0 => (sk_ty t_V r).bind fun q => k q []
  | 1 => (sk_ty t_I r).bind fun q => k q.1 [.inl q.2]
  | 2 => (sk_ty t_L r).bind fun q => k q.1 [.inr (.inl q.2)]
  | _ => (sk_ty t_R r).bind fun q => k q.1 [.inr (.inr q.2)]
def sk_sw {τ : Type} (x : Int32) (f : Nat → Option τ) (d : Nat) : List (Int32 × Nat) → Option τ
  | [] => f d
  | c :: r => if x = c.1 then f c.2 else sk_sw x f d r
def sk_step {τ : Type} (ret : sk_H → Option sk_V → Option τ) (fc : Nat → sk_Ls → sk_H → sk_R) (f : sk_C → Option τ) (nx : Nat) (ls : sk_Ls) (h : sk_H) (A : sk_A) : Option τ := match A with
  | .inl c => f c
  | .inr (.inl (⟨p, dp⟩, c1, c2)) => @ite _ p dp (f c1) (f c2)
  | .inr (.inr (.inl (⟨p, dp⟩, c))) => @ite _ p dp (f c) none
  | .inr (.inr (.inr (.inl (x, cs, c)))) => match c with
    | (t0, c) => sk_sw x (fun t => f (t, c)) t0 cs
  | .inr (.inr (.inr (.inr (.inl (⟨p, dp⟩, v))))) => @ite _ p dp (ret h v) none
  | .inr (.inr (.inr (.inr (.inr ((m, rk, ml, k), as, st))))) => match k with
    | 0 => sk_cont rk (fc m (sk_ent ml as) h) (fun h1 vs => f (nx, ls, vs ++ st, h1))
    | k + 1 => (sk_rcv as).bind fun a => if hK h a = k + 1 then sk_cont rk (fc m (sk_ent ml as) h) (fun h1 vs => f (nx, ls, vs ++ st, h1)) else none
def sk_live (e : sk_E) (ls : sk_Ls) : sk_Ls := match e with
  | (_, _, _, _, some ks) => sk_kill ks ls
  | (_, _, _, _, none) => ls
def sk_fin {τ : Type} (ret : sk_H → Option sk_V → Option τ) (fc : Nat → sk_Ls → sk_H → sk_R) (f : sk_C → Option τ) (nx : Nat) (ls : sk_Ls) (h : sk_H) (b : sk_B) : Option τ := match b with
  | (r, k) => r.bind fun a => (k a).bind fun A => sk_step ret fc f nx ls h A
def sk_one {τ : Type} (ret : sk_H → Option sk_V → Option τ) (fc : Nat → sk_Ls → sk_H → sk_R) (f : sk_C → Option τ) (e : sk_E) (c : sk_C) : Option τ := match c with
  | (_, ls, st, h) => sk_fin ret fc f e.2.1.1 (sk_live e ls) h (sk_act e (sk_live e ls) st h)
/-- a call: the methods that call themselves spend one of d -/
def sk_call (rec? : Nat → Bool) (g : Nat → Nat → sk_C → sk_R) (d m : Nat) (ls : sk_Ls) (h : sk_H) : sk_R := match rec? m with
  | false => g d m (0, ls, [], h)
  | true => match d with
    | 0 => none
    | k + 1 => g k m (0, ls, [], h)
def sk_run (T : sk_T) (rec? : Nat → Bool) : Nat → Nat → Nat → sk_C → sk_R
  | 0, _, _, _ => none
  | n + 1, d, m, c => (T m c.1).bind fun e => sk_one t_O (sk_call rec? (sk_run T rec? n) d) (sk_run T rec? n d m) e c
end
section
/-! ===== the evaluator without a count of steps ===== -/
theorem sk_cont_mono {τ : Type} {rk : Nat} {r r' : sk_R} {k k' : sk_H → List sk_V → Option τ} {o : τ} (hr : ∀ q, r = some q → r' = some q) (hk : ∀ h vs o, k h vs = some o → k' h vs = some o) (h : sk_cont rk r k = some o) : sk_cont rk r' k' = some o := by
  cases hq : r with
  | none => rw [hq] at h; unfold sk_cont at h; split at h <;> simp [sk_ty] at h
  | some q =>
    rw [hr q hq]
    rw [hq] at h
    unfold sk_cont at h ⊢
    split at h <;> (simp only [sk_ty, Option.bind_some] at h ⊢; rw [Option.bind_eq_some_iff] at h ⊢; obtain ⟨x, h1, h2⟩ := h; exact ⟨x, h1, hk _ _ _ h2⟩)
theorem sk_sw_mono {τ : Type} {x : Int32} {f f' : Nat → Option τ} {d : Nat} {o : τ} (hf : ∀ t o, f t = some o → f' t = some o) : ∀ cs : List (Int32 × Nat), sk_sw x f d cs = some o → sk_sw x f' d cs = some o
  | [], h => hf _ _ h
  | c :: r, h => by
    unfold sk_sw at h ⊢
    split at h
    · rename_i hc; rw [if_pos hc]; exact hf _ _ h
    · rename_i hc; rw [if_neg hc]; exact sk_sw_mono hf r h
theorem sk_step_mono {τ : Type} {ret : sk_H → Option sk_V → Option τ} {fc fc' : Nat → sk_Ls → sk_H → sk_R} {f f' : sk_C → Option τ} {nx : Nat} {ls : sk_Ls} {h : sk_H} {o : τ} (hc : ∀ m ls h r, fc m ls h = some r → fc' m ls h = some r) (hf : ∀ c o, f c = some o → f' c = some o) (A : sk_A) (hA : sk_step ret fc f nx ls h A = some o) : sk_step ret fc' f' nx ls h A = some o := by
  match A, hA with
  | .inl c, hA => exact hf _ _ hA
  | .inr (.inl ⟨⟨p, dp⟩, c1, c2⟩), hA =>
    simp only [sk_step] at hA ⊢
    by_cases hp : p
    · rw [if_pos hp] at hA ⊢; exact hf _ _ hA
    · rw [if_neg hp] at hA ⊢; exact hf _ _ hA
  | .inr (.inr (.inl ⟨⟨p, dp⟩, c1⟩)), hA =>
    simp only [sk_step] at hA ⊢
    by_cases hp : p
    · rw [if_pos hp] at hA ⊢; exact hf _ _ hA
    · rw [if_neg hp] at hA; cases hA
  | .inr (.inr (.inr (.inl ⟨x, cs, t0, c⟩))), hA =>
    simp only [sk_step] at hA ⊢
    exact sk_sw_mono (fun t o => hf _ o) _ hA
  | .inr (.inr (.inr (.inr (.inl ⟨⟨p, dp⟩, v⟩)))), hA =>
    simp only [sk_step] at hA ⊢
    by_cases hp : p
    · rw [if_pos hp] at hA ⊢; exact hA
    · rw [if_neg hp] at hA; cases hA
  | .inr (.inr (.inr (.inr (.inr ⟨⟨m1, rk1, ml1, 0⟩, as1, rest1⟩)))), hA =>
    simp only [sk_step] at hA ⊢
    exact sk_cont_mono (hc _ _ _) (fun h vs o => hf _ o) hA
  | .inr (.inr (.inr (.inr (.inr ⟨⟨m1, rk1, ml1, k1 + 1⟩, as1, rest1⟩)))), hA =>
    simp only [sk_step] at hA ⊢
    rw [Option.bind_eq_some_iff] at hA ⊢
    obtain ⟨a, h1, h2⟩ := hA
    refine ⟨a, h1, ?_⟩
    by_cases hp : hK h a = k1 + 1
    · rw [if_pos hp] at h2 ⊢; exact sk_cont_mono (hc _ _ _) (fun h vs o => hf _ o) h2
    · rw [if_neg hp] at h2; cases h2
theorem sk_one_mono {τ : Type} {ret : sk_H → Option sk_V → Option τ} {fc fc' : Nat → sk_Ls → sk_H → sk_R} {f f' : sk_C → Option τ} {e : sk_E} {c : sk_C} {o : τ} (hc : ∀ m ls h r, fc m ls h = some r → fc' m ls h = some r) (hf : ∀ c o, f c = some o → f' c = some o) (h : sk_one ret fc f e c = some o) : sk_one ret fc' f' e c = some o := by
  obtain ⟨pc, ls, st, hp⟩ := c
  unfold sk_one at h ⊢
  simp only at h ⊢
  revert h
  generalize sk_act e (sk_live e ls) st hp = b
  obtain ⟨r, k⟩ := b
  intro h
  simp only [sk_fin] at h ⊢
  rw [Option.bind_eq_some_iff] at h ⊢
  obtain ⟨a, h1, h2⟩ := h
  rw [Option.bind_eq_some_iff] at h2
  obtain ⟨A, h3, h4⟩ := h2
  exact ⟨a, h1, by rw [h3]; exact sk_step_mono hc hf A h4⟩
theorem sk_call_mono {rec? : Nat → Bool} {g g' : Nat → Nat → sk_C → sk_R} (hg : ∀ d m c r, g d m c = some r → g' d m c = some r) (d m : Nat) (ls : sk_Ls) (h : sk_H) (r : sk_H × Option sk_V) (hr : sk_call rec? g d m ls h = some r) : sk_call rec? g' d m ls h = some r := by
  unfold sk_call at hr ⊢
  cases hm : rec? m with
  | false => rw [hm] at hr; exact hg _ _ _ _ hr
  | true =>
    rw [hm] at hr
    cases d with
    | zero => cases hr
    | succ k => exact hg _ _ _ _ hr
theorem sk_run_succ (T : sk_T) (rec? : Nat → Bool) : ∀ n d m c r, sk_run T rec? n d m c = some r → sk_run T rec? (n + 1) d m c = some r
  | 0, _, _, _, _, h => by cases h
  | n + 1, d, m, c, r, h => by
    unfold sk_run at h ⊢
    rw [Option.bind_eq_some_iff] at h ⊢
    obtain ⟨e, h1, h2⟩ := h
    exact ⟨e, h1, sk_one_mono (fun m ls h r => sk_call_mono (sk_run_succ T rec? n) d m ls h r) (fun c o => sk_run_succ T rec? n d m c o) h2⟩
theorem sk_run_le (T : sk_T) (rec? : Nat → Bool) {n k : Nat} (h : n ≤ k) : ∀ d m c r, sk_run T rec? n d m c = some r → sk_run T rec? k d m c = some r := by
  induction h with
  | refl => exact fun _ _ _ _ h => h
  | step _ ih => exact fun d m c r h => sk_run_succ T rec? _ d m c r (ih d m c r h)
noncomputable def sk_X (T : sk_T) (rec? : Nat → Bool) (d m : Nat) (c : sk_C) : sk_R :=
  @dite _ (∃ n r, sk_run T rec? n d m c = some r) (Classical.propDecidable _) (fun h => sk_run T rec? h.choose d m c) (fun _ => none)
theorem sk_X_iff {T : sk_T} {rec? : Nat → Bool} {d m : Nat} {c : sk_C} {r : sk_H × Option sk_V} : sk_X T rec? d m c = some r ↔ ∃ n, sk_run T rec? n d m c = some r := by
  unfold sk_X
  constructor
  · intro h
    split at h
    · exact ⟨_, h⟩
    · cases h
  · intro ⟨n, h⟩
    have hx : ∃ n r, sk_run T rec? n d m c = some r := ⟨n, r, h⟩
    rw [dif_pos hx]
    obtain ⟨r', h'⟩ := hx.choose_spec
    rw [h']
    have h1 := sk_run_le T rec? (Nat.le_max_left n hx.choose) d m c r h
    have h2 := sk_run_le T rec? (Nat.le_max_right n hx.choose) d m c r' h'
    exact h2.symm.trans h1
/-- what holds of the whole holds of enough steps -/
theorem sk_cont_lim {τ : Type} {rk : Nat} {r : sk_R} {rn : Nat → sk_R} {k : sk_H → List sk_V → Option τ} {kn : Nat → sk_H → List sk_V → Option τ} {o : τ} (hr : ∀ q, r = some q → ∃ n, rn n = some q) (hrm : ∀ n j q, n ≤ j → rn n = some q → rn j = some q) (hk : ∀ h vs o, k h vs = some o → ∃ n, kn n h vs = some o) (hkm : ∀ n j h vs o, n ≤ j → kn n h vs = some o → kn j h vs = some o) (h : sk_cont rk r k = some o) : ∃ n, sk_cont rk (rn n) (kn n) = some o := by
  cases hq : r with
  | none => rw [hq] at h; unfold sk_cont at h; split at h <;> simp [sk_ty] at h
  | some q =>
    obtain ⟨n1, h1⟩ := hr q hq
    rw [hq] at h
    have key : ∃ n2, sk_cont rk (some q) (kn n2) = some o := by
      unfold sk_cont at h ⊢
      split at h <;> (simp only [sk_ty, Option.bind_some] at h ⊢; rw [Option.bind_eq_some_iff] at h; obtain ⟨x, h1, h2⟩ := h; obtain ⟨n, hn⟩ := hk _ _ _ h2; exact ⟨n, by rw [h1]; exact hn⟩)
    obtain ⟨n2, h2⟩ := key
    refine ⟨max n1 n2, ?_⟩
    rw [hrm n1 _ q (Nat.le_max_left _ _) h1]
    exact sk_cont_mono (fun _ h => h) (fun h vs o => hkm _ _ h vs o (Nat.le_max_right _ _)) h2
theorem sk_sw_lim {τ : Type} {x : Int32} {f : Nat → Option τ} {fn : Nat → Nat → Option τ} {d : Nat} {o : τ} (hf : ∀ t o, f t = some o → ∃ n, fn n t = some o) : ∀ cs : List (Int32 × Nat), sk_sw x f d cs = some o → ∃ n, sk_sw x (fn n) d cs = some o
  | [], h => hf _ _ h
  | c :: r, h => by
    unfold sk_sw at h ⊢
    split at h
    · rename_i hc; simp only [if_pos hc]; exact hf _ _ h
    · rename_i hc; simp only [if_neg hc]; exact sk_sw_lim hf r h
theorem sk_one_lim {τ : Type} {ret : sk_H → Option sk_V → Option τ} {fc : Nat → sk_Ls → sk_H → sk_R} {fcn : Nat → Nat → sk_Ls → sk_H → sk_R} {f : sk_C → Option τ} {fn : Nat → sk_C → Option τ} {e : sk_E} {c : sk_C} {o : τ} (hc : ∀ m ls h r, fc m ls h = some r → ∃ n, fcn n m ls h = some r) (hcm : ∀ n j m ls h r, n ≤ j → fcn n m ls h = some r → fcn j m ls h = some r) (hf : ∀ c o, f c = some o → ∃ n, fn n c = some o) (hfm : ∀ n j c o, n ≤ j → fn n c = some o → fn j c = some o) (h : sk_one ret fc f e c = some o) : ∃ n, sk_one ret (fcn n) (fn n) e c = some o := by
  obtain ⟨pc, ls, st, h⟩ := c
  rename _ = some o => hh
  unfold sk_one at hh ⊢
  simp only at hh ⊢
  revert hh
  generalize sk_act e (sk_live e ls) st h = b
  obtain ⟨r, k⟩ := b
  intro hh
  simp only [sk_fin] at hh ⊢
  rw [Option.bind_eq_some_iff] at hh
  obtain ⟨a, h1, h2⟩ := hh
  rw [Option.bind_eq_some_iff] at h2
  obtain ⟨A, h3, h4⟩ := h2
  simp only [h1, h3, Option.bind_some]
  match A, h4 with
  | .inl c, hA => exact hf _ _ hA
  | .inr (.inl ⟨⟨p, dp⟩, c1, c2⟩), hA =>
    simp only [sk_step] at hA ⊢
    by_cases hp : p
    · simp only [if_pos hp] at hA ⊢; exact hf _ _ hA
    · simp only [if_neg hp] at hA ⊢; exact hf _ _ hA
  | .inr (.inr (.inl ⟨⟨p, dp⟩, c1⟩)), hA =>
    simp only [sk_step] at hA ⊢
    by_cases hp : p
    · simp only [if_pos hp] at hA ⊢; exact hf _ _ hA
    · rw [if_neg hp] at hA; cases hA
  | .inr (.inr (.inr (.inl ⟨x, cs, t0, c⟩))), hA =>
    simp only [sk_step] at hA ⊢
    exact sk_sw_lim (fun t o => hf _ o) _ hA
  | .inr (.inr (.inr (.inr (.inl ⟨⟨p, dp⟩, v⟩)))), hA =>
    simp only [sk_step] at hA ⊢
    by_cases hp : p
    · simp only [if_pos hp] at hA ⊢; exact ⟨0, hA⟩
    · rw [if_neg hp] at hA; cases hA
  | .inr (.inr (.inr (.inr (.inr ⟨⟨m1, rk1, ml1, 0⟩, as1, rest1⟩)))), hA =>
    simp only [sk_step] at hA ⊢
    exact sk_cont_lim (hc _ _ _) (fun n j q => hcm n j _ _ _ q) (fun h vs o => hf _ o) (fun n j h vs o => hfm n j _ o) hA
  | .inr (.inr (.inr (.inr (.inr ⟨⟨m1, rk1, ml1, k1 + 1⟩, as1, rest1⟩)))), hA =>
    simp only [sk_step] at hA ⊢
    rw [Option.bind_eq_some_iff] at hA
    obtain ⟨a, h1, h2⟩ := hA
    simp only [h1, Option.bind_some]
    by_cases hp : hK h a = k1 + 1
    · simp only [if_pos hp] at h2 ⊢; exact sk_cont_lim (hc _ _ _) (fun n j q => hcm n j _ _ _ q) (fun h vs o => hf _ o) (fun n j h vs o => hfm n j _ o) h2
    · rw [if_neg hp] at h2; cases h2
theorem sk_X_eq (T : sk_T) (rec? : Nat → Bool) (d m : Nat) (c : sk_C) : sk_X T rec? d m c = (T m c.1).bind fun e => sk_one t_O (sk_call rec? (sk_X T rec?) d) (sk_X T rec? d m) e c := by
  have hrX : ∀ n d m c r, sk_run T rec? n d m c = some r → sk_X T rec? d m c = some r := fun n d m c r h => sk_X_iff.mpr ⟨n, h⟩
  apply Option.ext
  intro r
  constructor
  · intro h
    obtain ⟨n, h⟩ := sk_X_iff.mp h
    cases n with
    | zero => cases h
    | succ n =>
      unfold sk_run at h
      rw [Option.bind_eq_some_iff] at h ⊢
      obtain ⟨e, h1, h2⟩ := h
      exact ⟨e, h1, sk_one_mono (fun m ls h r => sk_call_mono (hrX n) d m ls h r) (fun c o => hrX n d m c o) h2⟩
  · intro h
    rw [Option.bind_eq_some_iff] at h
    obtain ⟨e, h1, h2⟩ := h
    obtain ⟨n, h3⟩ := sk_one_lim (fcn := fun n => sk_call rec? (sk_run T rec? n) d) (fn := fun n => sk_run T rec? n d m) (fun m ls h r hr => by
      unfold sk_call at hr ⊢
      cases hm : rec? m with
      | false => rw [hm] at hr; exact sk_X_iff.mp hr
      | true =>
        rw [hm] at hr
        cases d with
        | zero => cases hr
        | succ k => exact sk_X_iff.mp hr) (fun n j m ls h r hj hr => sk_call_mono (sk_run_le T rec? hj) d m ls h r hr) (fun c o h => sk_X_iff.mp h) (fun n j c o hj h => sk_run_le T rec? hj d m c o h) h2
    refine sk_X_iff.mpr ⟨n + 1, ?_⟩
    unfold sk_run
    rw [h1]
    exact h3
/-- by the kind of answer -/
noncomputable def sk_XT {τ : Type} (T : sk_T) (rec? : Nat → Bool) (ret : sk_H → Option sk_V → Option τ) (d m : Nat) (c : sk_C) : Option τ := sk_ty ret (sk_X T rec? d m c)
theorem sk_cont_ty {τ : Type} {ret : sk_H → Option sk_V → Option τ} (rk : Nat) (r : sk_R) (k : sk_H → List sk_V → sk_R) : sk_ty ret (sk_cont rk r k) = sk_cont rk r (fun h vs => sk_ty ret (k h vs)) := by
  unfold sk_cont sk_ty
  split <;> (rw [Option.bind_assoc])
theorem sk_sw_ty {τ : Type} {ret : sk_H → Option sk_V → Option τ} (x : Int32) (f : Nat → sk_R) (d : Nat) : ∀ cs : List (Int32 × Nat), sk_ty ret (sk_sw x f d cs) = sk_sw x (fun t => sk_ty ret (f t)) d cs
  | [] => rfl
  | c :: r => by
    unfold sk_sw
    split
    · rfl
    · exact sk_sw_ty x f d r
theorem sk_one_ty {τ : Type} {ret : sk_H → Option sk_V → Option τ} (fc : Nat → sk_Ls → sk_H → sk_R) (f : sk_C → sk_R) (e : sk_E) (c : sk_C) : sk_ty ret (sk_one t_O fc f e c) = sk_one ret fc (fun c => sk_ty ret (f c)) e c := by
  obtain ⟨pc, ls, st, h⟩ := c
  unfold sk_one
  simp only
  generalize sk_act e (sk_live e ls) st h = b
  obtain ⟨r, k⟩ := b
  simp only [sk_fin]
  cases r with
  | none => rfl
  | some a =>
    simp only [Option.bind_some]
    cases h2 : k a with
    | none => rfl
    | some A =>
      simp only [Option.bind_some]
      match A with
      | .inl c => rfl
      | .inr (.inl ⟨⟨p, dp⟩, c1, c2⟩) => simp only [sk_step]; split <;> rfl
      | .inr (.inr (.inl ⟨⟨p, dp⟩, c1⟩)) => simp only [sk_step]; split <;> rfl
      | .inr (.inr (.inr (.inl ⟨x, cs, t0, c⟩))) =>
        simp only [sk_step]
        exact sk_sw_ty _ _ _ _
      | .inr (.inr (.inr (.inr (.inl ⟨⟨p, dp⟩, v⟩)))) => simp only [sk_step]; split <;> rfl
      | .inr (.inr (.inr (.inr (.inr ⟨⟨m1, rk1, ml1, 0⟩, as1, rest1⟩)))) =>
        simp only [sk_step]
        exact sk_cont_ty _ _ _
      | .inr (.inr (.inr (.inr (.inr ⟨⟨m1, rk1, ml1, k1 + 1⟩, as1, rest1⟩)))) =>
        simp only [sk_step]
        cases sk_rcv as1 with
        | none => rfl
        | some a =>
          simp only [Option.bind_some]
          split
          · exact sk_cont_ty _ _ _
          · rfl
theorem sk_XT_eq {τ : Type} (T : sk_T) (rec? : Nat → Bool) (ret : sk_H → Option sk_V → Option τ) (d m : Nat) (c : sk_C) : sk_XT T rec? ret d m c = (T m c.1).bind fun e => sk_one ret (sk_call rec? (sk_X T rec?) d) (sk_XT T rec? ret d m) e c := by
  unfold sk_XT
  rw [sk_X_eq]
  cases T m c.1 with
  | none => rfl
  | some e => exact sk_one_ty _ _ _ _
theorem sk_kill_kill : ∀ (ks : List Bool) (ls : sk_Ls), sk_kill ks (sk_kill ks ls) = sk_kill ks ls
  | [], ls => by simp [sk_kill]
  | _ :: _, [] => by simp [sk_kill]
  | b :: bs, v :: r => by
    simp only [sk_kill, sk_kill_kill bs r]
    cases b <;> rfl
theorem sk_live_live (e : sk_E) (ls : sk_Ls) : sk_live e (sk_live e ls) = sk_live e ls := by
  obtain ⟨i, x, v, cs, ks⟩ := e
  cases ks with
  | none => rfl
  | some ks => exact sk_kill_kill _ _
theorem sk_XT_live {τ : Type} (T : sk_T) (rec? : Nat → Bool) (ret : sk_H → Option sk_V → Option τ) (d m : Nat) (c : sk_C) {e : sk_E} (he : T m c.1 = some e) : sk_XT T rec? ret d m c = sk_XT T rec? ret d m (c.1, sk_live e c.2.1, c.2.2) := by
  rw [sk_XT_eq, sk_XT_eq T rec? ret d m (c.1, sk_live e c.2.1, c.2.2)]
  simp only [he, Option.bind_some, sk_one, sk_live_live]
/-- many steps, to the next cuts -/
def sk_hop {τ : Type} (T : sk_T) (m : Nat) (f g : sk_C → Option τ) (c : sk_C) : Option τ := match T m c.1 with
  | none => none
  | some e => match e.2.2.2.2 with
    | some ks => f (c.1, sk_kill ks c.2.1, c.2.2)
    | none => g c
def sk_ev {τ : Type} (T : sk_T) (ret : sk_H → Option sk_V → Option τ) (fc : Nat → sk_Ls → sk_H → sk_R) (m : Nat) (f : sk_C → Option τ) : Nat → sk_C → Option τ
  | 0, c => f c
  | n + 1, c => (T m c.1).bind fun e => sk_one ret fc (sk_hop T m f (sk_ev T ret fc m f n)) e c
theorem sk_XT_ev {τ : Type} (T : sk_T) (rec? : Nat → Bool) (ret : sk_H → Option sk_V → Option τ) (d m : Nat) : ∀ (n : Nat) (c : sk_C), sk_XT T rec? ret d m c = sk_ev T ret (sk_call rec? (sk_X T rec?) d) m (sk_XT T rec? ret d m) n c
  | 0, _ => rfl
  | n + 1, c => by
    rw [sk_XT_eq]
    unfold sk_ev
    have : sk_XT T rec? ret d m = sk_hop T m (sk_XT T rec? ret d m) (sk_ev T ret (sk_call rec? (sk_X T rec?) d) m (sk_XT T rec? ret d m) n) := by
      funext c
      unfold sk_hop
      split
      · rename_i hn
        rw [sk_XT_eq, hn]
        rfl
      · rename_i e he
        split
        · rename_i ks hk
          rw [sk_XT_live T rec? ret d m c he]
          obtain ⟨i, x, v, cs, kk⟩ := e
          cases hk
          rfl
        · exact sk_XT_ev T rec? ret d m n c
    exact congrArg (fun f => (T m c.1).bind fun e => sk_one ret (sk_call rec? (sk_X T rec?) d) f e c) this
end
section
/-! ===== the entries' own check against the claim's tables ===== -/
def sk_y (m : Nat) : MethodName := (sk_nfo m).1
def sk_b (m : Nat) : ByteArray := (sk_nfo m).2.1
def sk_ml (m : Nat) : Nat := (sk_nfo m).2.2.1
def sk_rt (m : Nat) : Option FieldType := (sk_nfo m).2.2.2.1
def sk_rk (m : Nat) : Nat := (sk_nfo m).2.2.2.2.1
def sk_pn (m : Nat) : Nat := (sk_nfo m).2.2.2.2.2.1
def sk_mk (m : Nat) : Nat := (sk_nfo m).2.2.2.2.2.2.1
def sk_ci (m : Nat) : Nat := (sk_nfo m).2.2.2.2.2.2.2
def ok_w (m : Nat) (w : Cond) : Bool := decide (w ∈ sk_wl (sk_ci m))
/-- what is said of each method that is called -/
def sk_mw (m : Nat) : List Cond := Cond.code (sk_y m) (sk_b m) (sk_ml m) (sk_rt m) :: Cond.initialized (sk_y m).cls :: (match sk_mk m with
  | 0 => [Cond.static (sk_y m)]
  | 1 => [Cond.instanceMethod (sk_y m), Cond.selects (sk_y m).cls (sk_y m) (sk_y m)]
  | _ => [Cond.instanceMethod (sk_y m)])
def sk_mok (m : Nat) : Bool := sk_all2 (sk_mw m) (sk_mix.getD m []) && decide ((sk_y m).cls ≠ "java/lang/invoke/MethodHandle" ∧ (sk_y m).cls ≠ "java/lang/invoke/VarHandle") && decide (plainName (sk_y m).cls = true) &&
  decide ((parseMethodDescriptor (sk_y m).desc).map (fun d => d.parameters.length) = some (sk_pn m)) && decide (sk_mk m = 2 → (sk_y m).name = "<init>")
def ok_len : Instr → Nat
  | .bipush _ => 2
  | .iload _ => 2
  | .lload _ => 2
  | .aload _ => 2
  | .istore _ => 2
  | .lstore _ => 2
  | .astore _ => 2
  | .ldc _ => 2
  | .newarray _ => 2
  | .sipush _ => 3
  | .ldc_w _ => 3
  | .ldc2_w _ => 3
  | .iinc _ _ => 3
  | .goto _ => 3
  | .ifCond _ _ => 3
  | .if_icmp _ _ => 3
  | .if_acmp _ _ => 3
  | .ifnull _ => 3
  | .ifnonnull _ => 3
  | .getfield _ => 3
  | .putfield _ => 3
  | .getstatic _ => 3
  | .new _ => 3
  | .anewarray _ => 3
  | .invokespecial _ => 3
  | .invokevirtual _ => 3
  | .invokestatic _ => 3
  | _ => 1
def ok_fld (m idx k fi tag : Nat) : Bool := match vwCl[k - 1]? with
  | some (_, T, N) => decide (1 ≤ k ∧ k ≤ 13 ∧ fi < N) && decide ((sk_ft (k - 1))[fi]? = some tag) && ok_w m (.fieldLink (sk_y m).cls idx (T fi).1 (T fi).2.1 (T fi).2.2.1)
  | none => false
def ok_fin (m k fi : Nat) : Bool := match vwCl[k - 1]? with
  | some (_, T, _) => !(T fi).2.2.2 || (decide ((sk_y m).name = "<init>") && decide ((T fi).1 = (sk_y m).cls))
  | none => false
def ok_rk (t : Option FieldType) (rk : Nat) : Bool := match t with
  | none => rk == 0
  | some .long => rk == 2
  | some (.object _) => rk == 3
  | some (.array _) => rk == 3
  | some .int => rk == 1
  | some .boolean => rk == 1
  | some .byte => rk == 1
  | some .char => rk == 1
  | _ => false
def ok_rec (rec? : Nat → Bool) (m cm : Nat) : Bool := match rec? cm with
  | true => decide (sk_rk cm + 1 ≤ sk_rk m + 32)
  | false => decide (sk_rk cm + 1 ≤ sk_rk m)
/-- a call of method cm with n things (the receiver counted where there is one) -/
def ok_call (rec? : Nat → Bool) (m idx cm n rk ml : Nat) : Bool :=
  decide (cm < 253) && ok_w m (.methodLink (sk_y m).cls idx (sk_y cm)) && decide (sk_pn cm = n) && decide (ml = sk_ml cm ∧ 27 + ml ≤ 48) && ok_rec rec? m cm && ok_rk (sk_rt cm) rk
def ok_mm (m k e2 : Nat) : Bool := match e2 with
  | 0 => ok_w m (.methodLink (sk_y m).cls k Lib.Math.max.name)
  | _ => ok_w m (.methodLink (sk_y m).cls k Lib.Math.min.name)
def ok_new (m idx k n : Nat) : Bool := match vwCl[k - 1]? with
  | some (C, _, N) => decide (1 ≤ k ∧ k ≤ 13 ∧ n = N) && ok_w m (.classLink (sk_y m).cls idx C) 
  | none => false
/-- the kind of a receiver -/
def ok_rv (cm k : Nat) : Bool := match k with
  | 51 => decide ((sk_y cm).cls = "java/lang/String")
  | k => match vwCl[k - 1]? with
    | some (C, _, _) => decide (1 ≤ k ∧ k ≤ 13 ∧ C = (sk_y cm).cls)
    | none => false
def ok_sw (pc : Nat) (lo : Int) (offs : Array Int) (cs : List (Int32 × Nat)) : Bool :=
  cs.all (fun c => decide (lo ≤ c.1.toInt) && (match offs[(c.1.toInt - lo).toNat]? with
    | some o => decide ((pc : Int) + o = c.2)
    | none => false))
def ok_x (rec? : Nat → Bool) (m pc e1 e2 e3 e4 e5 : Nat) (ev : sk_V) (ec : List (Int32 × Nat)) : Instr → Bool
  | .istore_n k => decide (k < sk_ml m)
  | .istore k => decide (k < sk_ml m)
  | .astore_n k => decide (k < sk_ml m)
  | .astore k => decide (k < sk_ml m)
  | .lstore_n k => decide (k + 1 < sk_ml m)
  | .lstore k => decide (k + 1 < sk_ml m)
  | .iinc k _ => decide (k < sk_ml m)
  | .goto o => decide ((pc : Int) + o = e1)
  | .ifCond _ o => decide ((pc : Int) + o = e1)
  | .if_icmp _ o => decide ((pc : Int) + o = e1)
  | .if_acmp _ o => decide ((pc : Int) + o = e1)
  | .ifnull o => decide ((pc : Int) + o = e1)
  | .ifnonnull o => decide ((pc : Int) + o = e1)
  | .ldc k => match ev with
    | .inl v => ok_w m (.constant (sk_y m).cls k v)
    | .inr (.inr (some a)) => decide (2 ≤ a) && (match sk_str[a - 2]? with
      | some q => decide (q.1 = (sk_y m).cls ∧ q.2.1 = k)
      | none => false)
    | _ => false
  | .ldc_w k => match ev with
    | .inl v => ok_w m (.constant (sk_y m).cls k v)
    | _ => false
  | .ldc2_w k => match ev with
    | .inr (.inl v) => ok_w m (.constantLong (sk_y m).cls k v)
    | _ => false
  | .tableswitch d lo hi offs => decide ((pc : Int) + d = e1) && ok_sw pc lo offs ec && decide (ec.map (fun c => c.1.toInt) = (List.range offs.size).map (fun (i : Nat) => lo + (i : Int))) && decide (hi = lo + offs.size - 1)
  | .lookupswitch d ps => decide ((pc : Int) + d = e1) && decide ((ps.toList.zip (ps.toList.drop 1)).all (fun (a, next) => a.1 < next.1) = true) && decide (ps.toList = ec.map (fun c => (c.1.toInt, (c.2 : Int) - pc)))
  | .ireturn => decide ((sk_rt m = some .int ∧ e1 = 0) ∨ (sk_rt m = some .boolean ∧ e1 = 3) ∨ (sk_rt m = some .byte ∧ e1 = 4) ∨ (sk_rt m = some .char ∧ e1 = 5))
  | .lreturn => decide (sk_rt m = some .long)
  | .areturn => match sk_rt m with
    | some (.object _) => true
    | some (.array _) => true
    | _ => false
  | .return_ => decide (sk_rt m = none)
  | .getfield k => match e1 with
    | 51 => (decide (e2 = 0 ∧ e3 = 2) && ok_w m (.fieldLink (sk_y m).cls k "java/lang/String" "value" "[B")) || (decide (e2 = 1 ∧ e3 = 0) && ok_w m (.fieldLink (sk_y m).cls k "java/lang/String" "coder" "B"))
    | _ => ok_fld m k e1 e2 e3
  | .putfield k => ok_fld m k e1 e2 e3 && ok_fin m e1 e2
  | .getstatic k => match e1 with
    | 0 => match ev with
      | .inl v => (decide (v = 1) && (ok_w m (.fieldLink (sk_y m).cls k "java/lang/String" "COMPACT_STRINGS" "Z") || ok_w m (.fieldLink (sk_y m).cls k "java/lang/StringUTF16" "$assertionsDisabled" "Z"))) || (decide (v = 0) && ok_w m (.fieldLink (sk_y m).cls k "java/lang/StringUTF16" "HI_BYTE_SHIFT" "I")) || (decide (v = 8) && ok_w m (.fieldLink (sk_y m).cls k "java/lang/StringUTF16" "LO_BYTE_SHIFT" "I"))
      | .inr (.inr (some 1)) => decide ((sk_y m).cls = sk_nst.1 ∧ k = sk_nst.2)
      | _ => false
    | _ => ok_w m (.fieldLink (sk_y m).cls k "jdk/internal/util/Preconditions" "SIOOBE_FORMATTER" "Ljava/util/function/BiFunction;")
  | .new k => ok_new m k e1 e2
  | .newarray t => decide (n_kind t ≠ 0)
  | .anewarray k => (decide (e1 = 106) && ok_w m (.classLink (sk_y m).cls k "SkittleRow$Rule")) || (decide (e1 = 107) && ok_w m (.classLink (sk_y m).cls k "SkittleRow$State")) || (decide (e1 = 108) && ok_w m (.classLink (sk_y m).cls k "SkittleRow$Stroke"))
  | .invokespecial k => match e1 with
    | 0 => ok_w m (.methodLink (sk_y m).cls k objectInit) && decide (1 ≤ sk_rk m)
    | cm + 1 => match e2 with
      | 0 => false
      | n + 1 => ok_call rec? m k cm n e3 e4 && decide (sk_mk cm = 2 ∧ sk_rt cm = none ∧ e5 ≠ 0)
  | .invokevirtual k => match e1, e2 with
    | cm + 1, n + 1 => ok_call rec? m k cm n e3 e4 && decide (sk_mk cm = 1) && ok_rv cm e5
    | _, _ => false
  | .invokestatic k => match e1 with
    | cm + 1 => ok_call rec? m k cm e2 e3 e4 && decide (sk_mk cm = 0)
    | 0 => decide (1 ≤ sk_rk m) && ok_mm m k e2
  | _ => true
def ok_dec (m pc nx : Nat) (i : Instr) : Bool := match i with
  | .tableswitch _ _ _ _ => decide (decode (sk_b m) pc = .ok (i, nx - pc))
  | .lookupswitch _ _ => decide (decode (sk_b m) pc = .ok (i, nx - pc))
  | _ => decide (decode (sk_b m) pc = .ok (i, ok_len i)) && decide (nx = pc + ok_len i)
def sk_ok (rec? : Nat → Bool) (m pc : Nat) (e : sk_E) : Bool := match e with
  | (i, (nx, e1, e2, e3, e4, e5), ev, ec, _) => ok_dec m pc nx i && ok_x rec? m pc e1 e2 e3 e4 e5 ev ec i
end
section
/-! ===== what the evaluator's memory says of the machine's heap ===== -/
/-- where it begins; the cells outside; the tables' numbers; the kinds of rows; the memory of the outside -/
abbrev sk_En : Type := Nat × (Nat → Nat) × va_G × (Nat → ClassId) × sk_H
def sk_ad (E : sk_En) (a : Nat) : Nat := if a < 20 then E.2.1 a else E.1 + (a - 20)
def sv (E : sk_En) (v : sk_V) : Value := match v with
  | .inl x => .int x
  | .inr (.inl y) => .long y
  | .inr (.inr r) => va_rf (r.map (sk_ad E))
def sk_arr (E : sk_En) (h : sk_H) (a : Nat) : vp_A := (hN h a, if hK h a = 102 then .inr (.inl (hJ h a)) else if 106 ≤ hK h a then .inr (.inr (.inr (.inr fun j => (hR h a j).map (sk_ad E)))) else .inl (hI h a))
def sk_tag (k j : Nat) : Nat := (sk_ft (k - 1)).getD j 0
def sk_at (E : sk_En) (h : sk_H) (a : Nat) (H : Heap) : Prop :=
  (101 ≤ hK h a → H[sk_ad E a]? = some (vp_cell (E.2.2.2.1 (hK h a)) (sk_arr E h a))) ∧
  (hK h a ≤ 13 → ∃ r : vw_C, vwCl[hK h a - 1]? = some r ∧ t_OB (sk_ad E a) (E.2.2.1.1 (hK h a - 1)) r.2.2 (E.2.2.1.2 (hK h a - 1)) H (fun j => sv E (f_get h a j (sk_tag (hK h a) j))))
def sk_kd (k : Nat) : Prop := (1 ≤ k ∧ k ≤ 13) ∨ (101 ≤ k ∧ k ≤ 108)
/-- the kinds outside -/
def sk_ek (a : Nat) : Nat := if a = 1 then 202 else if 2 ≤ a ∧ a ≤ 8 then 51 else if 9 ≤ a ∧ a ≤ 15 then 204 else if a = 16 then 201 else 0
def sk_Rep (E : sk_En) (h : sk_H) (H : Heap) : Prop :=
  20 ≤ hn h ∧ H.size = E.1 + (hn h - 20) ∧ (∀ a, 20 ≤ a → a < hn h → sk_kd (hK h a) ∧ sk_at E h a H) ∧ (∀ a, hn h ≤ a → hK h a = 0) ∧
  ∀ a, a < 20 → hK h a = sk_ek a ∧ hN h a = hN E.2.2.2.2 a ∧ hI h a = hI E.2.2.2.2 a ∧ hJ h a = hJ E.2.2.2.2 a ∧ hR h a = hR E.2.2.2.2 a
abbrev sk_A0 (E : sk_En) : Nat → Prop := fun q => E.1 ≤ q
theorem sk_ek_no (a : Nat) : ¬ sk_kd (sk_ek a) := by
  unfold sk_ek sk_kd
  split
  · omega
  · split
    · omega
    · split
      · omega
      · split <;> omega
/-- a cell of a kind of ours is one of ours -/
theorem sk_Rep.own {E : sk_En} {h : sk_H} {H : Heap} (R : sk_Rep E h H) {a : Nat} (hk : sk_kd (hK h a)) : 20 ≤ a ∧ a < hn h := by
  obtain ⟨r1, r2, r3, r4, r5⟩ := R
  refine ⟨?_, ?_⟩
  · rcases Nat.lt_or_ge a 20 with q | q
    · rw [(r5 a q).1] at hk; exact absurd hk (sk_ek_no a)
    · exact q
  · rcases Nat.lt_or_ge a (hn h) with q | q
    · exact q
    · rw [r4 a q] at hk; unfold sk_kd at hk; omega
theorem sk_Rep.ext {E : sk_En} {h : sk_H} {H : Heap} (R : sk_Rep E h H) {a : Nat} (hk : ¬ sk_kd (hK h a)) (h0 : ¬ hK h a = 0) : a < 20 ∧ hK h a = sk_ek a := by
  obtain ⟨r1, r2, r3, r4, r5⟩ := R
  rcases Nat.lt_or_ge a 20 with q | q
  · exact ⟨q, (r5 a q).1⟩
  · rcases Nat.lt_or_ge a (hn h) with q2 | q2
    · exact absurd (r3 a q q2).1 hk
    · exact absurd (r4 a q2) h0
theorem sk_ad_own {E : sk_En} {a : Nat} (h : 20 ≤ a) : sk_ad E a = E.1 + (a - 20) := by
  unfold sk_ad; rw [if_neg (by omega)]
theorem sk_ad_ext {E : sk_En} {a : Nat} (h : a < 20) : sk_ad E a = E.2.1 a := by
  unfold sk_ad; rw [if_pos h]
/-! rows of the memory -/
theorem up2_s {α : Type} (f : Nat → Nat → α) (a i : Nat) (v : α) : up2 f a i v a = va_up (f a) i v := by simp [up2, va_up]
theorem up2_n {α : Type} (f : Nat → Nat → α) {a b : Nat} (i : Nat) (v : α) (h : b ≠ a) : up2 f a i v b = f b := by simp [up2, va_up, h]
theorem hI_wI_s (h : sk_H) (a i : Nat) (v : Int32) : hI (wI h a i v) a = va_up (hI h a) i v := up2_s _ _ _ _
theorem hI_wI_n (h : sk_H) {a b : Nat} (i : Nat) (v : Int32) (hb : b ≠ a) : hI (wI h a i v) b = hI h b := up2_n _ _ _ hb
theorem hJ_wJ_s (h : sk_H) (a i : Nat) (v : Int64) : hJ (wJ h a i v) a = va_up (hJ h a) i v := up2_s _ _ _ _
theorem hJ_wJ_n (h : sk_H) {a b : Nat} (i : Nat) (v : Int64) (hb : b ≠ a) : hJ (wJ h a i v) b = hJ h b := up2_n _ _ _ hb
theorem hR_wR_s (h : sk_H) (a i : Nat) (v : Option Nat) : hR (wR h a i v) a = va_up (hR h a) i v := up2_s _ _ _ _
theorem hR_wR_n (h : sk_H) {a b : Nat} (i : Nat) (v : Option Nat) (hb : b ≠ a) : hR (wR h a i v) b = hR h b := up2_n _ _ _ hb
/-- two memories that are one at an address -/
def sk_same (h h' : sk_H) (a : Nat) : Prop := hK h' a = hK h a ∧ hN h' a = hN h a ∧ hI h' a = hI h a ∧ hJ h' a = hJ h a ∧ hR h' a = hR h a
theorem sk_at.kept {E : sk_En} {h h' : sk_H} {a : Nat} {H H' : Heap} (hs : sk_same h h' a) (hq : H'[sk_ad E a]? = H[sk_ad E a]?) (h0 : sk_at E h a H) : sk_at E h' a H' := by
  obtain ⟨e1, e2, e3, e4, e5⟩ := hs
  have hg : ∀ j t, f_get h' a j t = f_get h a j t := by
    intro j t
    unfold f_get
    rw [e3, e4, e5]
  refine ⟨fun hk => ?_, fun hk => ?_⟩
  · rw [e1] at hk
    have := h0.1 hk
    unfold sk_arr at this ⊢
    rw [hq, e1, e2, e3, e4, e5]
    exact this
  · rw [e1] at hk ⊢
    obtain ⟨r, h1, h2⟩ := h0.2 hk
    refine ⟨r, h1, ?_⟩
    have h3 := h2.kept (H1 := H') hq
    exact h3.to (fun k _ => by rw [hg])
/-- one cell of ours changed -/
theorem sk_Rep.put {E : sk_En} {h h' : sk_H} {H H' : Heap} {a : Nat} (R : sk_Rep E h H) (ha : 20 ≤ a) (ha2 : a < hn h) (hn' : hn h' = hn h) (hK' : hK h' a = hK h a) (hs : ∀ b, b ≠ a → sk_same h h' b) (hz : H'.size = H.size) (hq : ∀ q, q ≠ sk_ad E a → H'[q]? = H[q]?) (hc : sk_at E h' a H') : sk_Rep E h' H' := by
  obtain ⟨r1, r2, r3, r4, r5⟩ := R
  refine ⟨by omega, by rw [hz, hn']; exact r2, fun b h1 h2 => ?_, fun b hb => ?_, fun b hb => ?_⟩
  · by_cases hba : b = a
    · subst hba
      rw [hK']
      exact ⟨(r3 b h1 ha2).1, hc⟩
    · rw [(hs b hba).1]
      refine ⟨(r3 b h1 (by omega)).1, sk_at.kept (hs b hba) (hq _ ?_) (r3 b h1 (by omega)).2⟩
      rw [sk_ad_own h1, sk_ad_own ha]
      omega
  · rw [(hs b (by omega)).1]; exact r4 b (by omega)
  · obtain ⟨e1, e2, e3, e4, e5⟩ := hs b (by omega)
    rw [e1, e2, e3, e4, e5]
    exact r5 b hb
/-- a new one -/
theorem sk_Rep.push {E : sk_En} {h : sk_H} {H H' : Heap} {k n : Nat} (R : sk_Rep E h H) (hk : sk_kd k) (hz : H'.size = H.size + 1) (hq : ∀ q, q < H.size → H'[q]? = H[q]?) (hc : sk_at E (hnew h k n) (hn h) H') : sk_Rep E (hnew h k n) H' := by
  obtain ⟨r1, r2, r3, r4, r5⟩ := R
  have hn' : hn (hnew h k n) = hn h + 1 := rfl
  have hs : ∀ b, b ≠ hn h → sk_same h (hnew h k n) b := by
    intro b hb
    have hb' : b ≠ h.1.2.2.1 := hb
    refine ⟨?_, ?_, ?_, ?_, ?_⟩ <;> simp [hK, hN, hI, hJ, hR, hnew, va_up, hb']
  refine ⟨by omega, by rw [hz, hn', r2]; omega, fun b h1 h2 => ?_, fun b hb => ?_, fun b hb => ?_⟩
  · by_cases hba : b = hn h
    · subst hba
      refine ⟨?_, hc⟩
      have : hK (hnew h k n) (hn h) = k := by simp [hK, hnew, va_up, hn]
      rw [this]; exact hk
    · rw [(hs b hba).1]
      refine ⟨(r3 b h1 (by omega)).1, sk_at.kept (hs b hba) (hq _ ?_) (r3 b h1 (by omega)).2⟩
      rw [sk_ad_own h1, r2]
      omega
  · rw [(hs b (by omega)).1]; exact r4 b (by omega)
  · obtain ⟨e1, e2, e3, e4, e5⟩ := hs b (by omega)
    rw [e1, e2, e3, e4, e5]
    exact r5 b hb
/-! slots of a frame -/
def sk_lvA (E : sk_En) : Nat → sk_Ls → List (Nat × Value)
  | _, [] => []
  | i, none :: r => sk_lvA E (i + 1) r
  | i, some v :: r => (i, sv E v) :: sk_lvA E (i + 1) r
theorem sk_lv_mem (E : sk_En) : ∀ (ls : sk_Ls) (i : Nat) (q : Nat × Value), q ∈ sk_lvA E i ls ↔ ∃ k v, l_at ls k = some v ∧ q = (i + k, sv E v)
  | [], i, q => by simp [sk_lvA, l_at]
  | none :: r, i, q => by
    simp only [sk_lvA]
    rw [sk_lv_mem E r (i + 1) q]
    constructor
    · rintro ⟨k, v, h1, h2⟩; exact ⟨k + 1, v, h1, by rw [h2]; congr 1; omega⟩
    · rintro ⟨k, v, h1, h2⟩
      cases k with
      | zero => simp [l_at] at h1
      | succ k => exact ⟨k, v, h1, by rw [h2]; congr 1; omega⟩
  | some w :: r, i, q => by
    simp only [sk_lvA, List.mem_cons]
    rw [sk_lv_mem E r (i + 1) q]
    constructor
    · rintro (h | ⟨k, v, h1, h2⟩)
      · exact ⟨0, w, rfl, by rw [h]; rfl⟩
      · exact ⟨k + 1, v, h1, by rw [h2]; congr 1; omega⟩
    · rintro ⟨k, v, h1, h2⟩
      cases k with
      | zero => left; simp [l_at] at h1; subst h1; exact h2
      | succ k => right; exact ⟨k, v, h1, by rw [h2]; congr 1; omega⟩
def sk_has (E : sk_En) (als : Array Slot) (nL : Nat) (ls : sk_Ls) : Prop := lv_has als nL (sk_lvA E 0 ls)
theorem sk_has.at {E : sk_En} {als : Array Slot} {nL : Nat} {ls : sk_Ls} (h : sk_has E als nL ls) {k : Nat} {v : sk_V} (hk : l_at ls k = some v) : als[k]? = some (.val (sv E v)) := by
  have := h.2.2 (k, sv E v) ((sk_lv_mem E ls 0 _).mpr ⟨k, v, hk, by simp⟩)
  exact this
theorem sv_cat (E : sk_En) (v : sk_V) : (sv E v).category = if v_one v = true then 1 else 2 := by
  match v with
  | .inl x => rfl
  | .inr (.inl y) => rfl
  | .inr (.inr none) => rfl
  | .inr (.inr (some a)) => rfl
theorem l_s1_at : ∀ (ls : sk_Ls) (i : Nat) (v : sk_V) (j : Nat) (w : sk_V), l_at (l_s1 ls i v) j = some w → (j = i ∧ w = v) ∨ (j ≠ i ∧ l_at ls j = some w ∧ (j + 1 = i → v_one w = true))
  | [], i, v, j, w, h => by simp [l_s1, l_at] at h
  | x :: r, 0, v, 0, w, h => by simp [l_s1, l_at] at h; exact Or.inl ⟨rfl, h.symm⟩
  | x :: r, 0, v, j + 1, w, h => by
    simp only [l_s1, l_at] at h
    exact Or.inr ⟨by omega, h, by omega⟩
  | [x], 1, v, 0, w, h => by
    simp only [l_s1, l_at] at h
    refine Or.inr ⟨by omega, ?_, fun _ => ?_⟩
    · unfold v_keep at h
      split at h
      · cases h
      · exact h
    · unfold v_keep at h
      split at h
      · cases h
      · rename_i hx
        match w, h with
        | .inl _, _ => rfl
        | .inr (.inl y), h => exact absurd h (by intro q; exact hx y q)
        | .inr (.inr _), _ => rfl
  | [x], 1, v, j + 1, w, h => by simp [l_s1, l_at] at h
  | x :: y :: r, 1, v, 0, w, h => by
    simp only [l_s1, l_at] at h
    refine Or.inr ⟨by omega, ?_, fun _ => ?_⟩
    · unfold v_keep at h
      split at h
      · cases h
      · exact h
    · unfold v_keep at h
      split at h
      · cases h
      · rename_i hx
        match w, h with
        | .inl _, _ => rfl
        | .inr (.inl y), h => exact absurd h (by intro q; exact hx y q)
        | .inr (.inr _), _ => rfl
  | x :: y :: r, 1, v, 1, w, h => by simp [l_s1, l_at] at h; exact Or.inl ⟨rfl, h.symm⟩
  | x :: y :: r, 1, v, j + 2, w, h => by
    simp only [l_s1, l_at] at h
    exact Or.inr ⟨by omega, h, by omega⟩
  | x :: r, i + 2, v, 0, w, h => by
    simp only [l_s1, l_at] at h
    exact Or.inr ⟨by omega, h, by omega⟩
  | x :: r, i + 2, v, j + 1, w, h => by
    simp only [l_s1, l_at] at h
    rcases l_s1_at r (i + 1) v j w h with ⟨h1, h2⟩ | ⟨h1, h2, h3⟩
    · exact Or.inl ⟨by omega, h2⟩
    · exact Or.inr ⟨by omega, h2, fun q => h3 (by omega)⟩
theorem l_s2_at : ∀ (ls : sk_Ls) (i : Nat) (v : sk_V) (j : Nat) (w : sk_V), l_at (l_s2 ls i v) j = some w → (j = i ∧ w = v) ∨ (j ≠ i ∧ j ≠ i + 1 ∧ l_at ls j = some w ∧ (j + 1 = i → v_one w = true))
  | [], i, v, j, w, h => by simp [l_s2, l_at] at h
  | [x], 0, v, 0, w, h => by simp [l_s2, l_at] at h
  | [x], 0, v, j + 1, w, h => by simp [l_s2, l_at] at h
  | x :: y :: r, 0, v, 0, w, h => by simp [l_s2, l_at] at h; exact Or.inl ⟨rfl, h.symm⟩
  | x :: y :: r, 0, v, 1, w, h => by simp [l_s2, l_at] at h
  | x :: y :: r, 0, v, j + 2, w, h => by
    simp only [l_s2, l_at] at h
    exact Or.inr ⟨by omega, by omega, h, by omega⟩
  | [x], 1, v, 0, w, h => by
    simp only [l_s2, l_at] at h
    refine Or.inr ⟨by omega, by omega, ?_, fun _ => ?_⟩
    · unfold v_keep at h
      split at h
      · cases h
      · exact h
    · unfold v_keep at h
      split at h
      · cases h
      · rename_i hx
        match w, h with
        | .inl _, _ => rfl
        | .inr (.inl y), h => exact absurd h (by intro q; exact hx y q)
        | .inr (.inr _), _ => rfl
  | [x], 1, v, j + 1, w, h => by simp [l_s2, l_at] at h
  | [x, y], 1, v, 0, w, h => by
    simp only [l_s2, l_at] at h
    refine Or.inr ⟨by omega, by omega, ?_, fun _ => ?_⟩
    · unfold v_keep at h
      split at h
      · cases h
      · exact h
    · unfold v_keep at h
      split at h
      · cases h
      · rename_i hx
        match w, h with
        | .inl _, _ => rfl
        | .inr (.inl y2), h => exact absurd h (by intro q; exact hx y2 q)
        | .inr (.inr _), _ => rfl
  | [x, y], 1, v, 1, w, h => by simp [l_s2, l_at] at h
  | [x, y], 1, v, j + 2, w, h => by simp [l_s2, l_at] at h
  | x :: y :: z :: r, 1, v, 0, w, h => by
    simp only [l_s2, l_at] at h
    refine Or.inr ⟨by omega, by omega, ?_, fun _ => ?_⟩
    · unfold v_keep at h
      split at h
      · cases h
      · exact h
    · unfold v_keep at h
      split at h
      · cases h
      · rename_i hx
        match w, h with
        | .inl _, _ => rfl
        | .inr (.inl y2), h => exact absurd h (by intro q; exact hx y2 q)
        | .inr (.inr _), _ => rfl
  | x :: y :: z :: r, 1, v, 1, w, h => by simp [l_s2, l_at] at h; exact Or.inl ⟨rfl, h.symm⟩
  | x :: y :: z :: r, 1, v, 2, w, h => by simp [l_s2, l_at] at h
  | x :: y :: z :: r, 1, v, j + 3, w, h => by
    simp only [l_s2, l_at] at h
    exact Or.inr ⟨by omega, by omega, h, by omega⟩
  | x :: r, i + 2, v, 0, w, h => by
    simp only [l_s2, l_at] at h
    exact Or.inr ⟨by omega, by omega, h, by omega⟩
  | x :: r, i + 2, v, j + 1, w, h => by
    simp only [l_s2, l_at] at h
    rcases l_s2_at r (i + 1) v j w h with ⟨h1, h2⟩ | ⟨h1, h2, h3, h4⟩
    · exact Or.inl ⟨by omega, h2⟩
    · exact Or.inr ⟨by omega, by omega, h3, fun q => h4 (by omega)⟩
theorem sk_has.s1 {E : sk_En} {als : Array Slot} {nL : Nat} {ls : sk_Ls} {i : Nat} {v : sk_V} (h : lv_has als nL ((i, sv E v) :: (sk_lvA E 0 ls).filter (fun q => !(q.1 == i) && !(q.1 + 1 == i && q.2.category == 2)))) : sk_has E als nL (l_s1 ls i v) := by
  refine ⟨h.1, h.2.1, fun q hq => ?_⟩
  obtain ⟨k, w, h1, rfl⟩ := (sk_lv_mem E _ 0 q).mp hq
  refine h.2.2 _ ?_
  rcases l_s1_at ls i v k w h1 with ⟨rfl, rfl⟩ | ⟨g1, g2, g3⟩
  · simp
  · refine List.mem_cons_of_mem _ (List.mem_filter.mpr ⟨(sk_lv_mem E ls 0 _).mpr ⟨k, w, g2, rfl⟩, ?_⟩)
    simp only [Nat.zero_add, Bool.and_eq_true, Bool.not_eq_true', beq_eq_false_iff_ne, ne_eq, Bool.and_eq_false_iff]
    refine ⟨g1, ?_⟩
    by_cases hk : k + 1 = i
    · right
      rw [sv_cat, g3 hk]
      simp
    · exact Or.inl hk
theorem sk_has.s2 {E : sk_En} {als : Array Slot} {nL : Nat} {ls : sk_Ls} {i : Nat} {v : sk_V} (h : lv_has als nL ((i, sv E v) :: (sk_lvA E 0 ls).filter (fun q => !(q.1 == i) && (!(q.1 == i + 1) && !(q.1 + 1 == i && q.2.category == 2))))) : sk_has E als nL (l_s2 ls i v) := by
  refine ⟨h.1, h.2.1, fun q hq => ?_⟩
  obtain ⟨k, w, h1, rfl⟩ := (sk_lv_mem E _ 0 q).mp hq
  refine h.2.2 _ ?_
  rcases l_s2_at ls i v k w h1 with ⟨rfl, rfl⟩ | ⟨g1, g0, g2, g3⟩
  · simp
  · refine List.mem_cons_of_mem _ (List.mem_filter.mpr ⟨(sk_lv_mem E ls 0 _).mpr ⟨k, w, g2, rfl⟩, ?_⟩)
    simp only [Nat.zero_add, Bool.and_eq_true, Bool.not_eq_true', beq_eq_false_iff_ne, ne_eq, Bool.and_eq_false_iff]
    refine ⟨g1, g0, ?_⟩
    by_cases hk : k + 1 = i
    · right
      rw [sv_cat, g3 hk]
      simp
    · exact Or.inl hk
theorem l_at_kill : ∀ (ks : List Bool) (ls : sk_Ls) (k : Nat) (v : sk_V), l_at (sk_kill ks ls) k = some v → l_at ls k = some v
  | [], ls, k, v, h => by simpa [sk_kill] using h
  | _ :: _, [], k, v, h => by simpa [sk_kill] using h
  | b :: bs, w :: r, 0, v, h => by
    simp only [sk_kill, l_at] at h ⊢
    cases b with
    | true => exact h
    | false => cases h
  | b :: bs, w :: r, k + 1, v, h => by
    simp only [sk_kill, l_at] at h ⊢
    exact l_at_kill bs r k v h
theorem sk_has.live {E : sk_En} {als : Array Slot} {nL : Nat} {ls : sk_Ls} (e : sk_E) (h : sk_has E als nL ls) : sk_has E als nL (sk_live e ls) := by
  obtain ⟨i, x, v, cs, ks⟩ := e
  cases ks with
  | none => exact h
  | some ks =>
    refine ⟨h.1, h.2.1, fun q hq => ?_⟩
    obtain ⟨k, w, h1, rfl⟩ := (sk_lv_mem E _ 0 q).mp hq
    exact h.2.2 _ ((sk_lv_mem E ls 0 _).mpr ⟨k, w, l_at_kill _ _ _ _ h1, rfl⟩)
end
section
/-! ===== what a run's first step was ===== -/
section SkInv
variable {fc : Nat → sk_Ls → sk_H → sk_R} {f : sk_C → sk_R} {nx : Nat} {ls : sk_Ls} {h : sk_H} {R : sk_H × Option sk_V} {st : List sk_V}
theorem v_no (hr : sk_fin t_O fc f nx ls h b_no = some R) : False := by cases hr
theorem v_go {c : sk_C} (hr : sk_fin t_O fc f nx ls h (b_go c) = some R) : f c = some R := hr
theorem v_br {p : Prop} {dp : Decidable p} {c1 c2 : sk_C} (hr : sk_fin t_O fc f nx ls h (b_br ⟨p, dp⟩ c1 c2) = some R) : (p ∧ f c1 = some R) ∨ (¬ p ∧ f c2 = some R) := by
  have hr : @ite _ p dp (f c1) (f c2) = some R := hr
  by_cases hp : p
  · rw [if_pos hp] at hr; exact Or.inl ⟨hp, hr⟩
  · rw [if_neg hp] at hr; exact Or.inr ⟨hp, hr⟩
theorem v_ck {p : Prop} {dp : Decidable p} {c : sk_C} (hr : sk_fin t_O fc f nx ls h (b_ck ⟨p, dp⟩ c) = some R) : p ∧ f c = some R := by
  have hr : @ite _ p dp (f c) none = some R := hr
  by_cases hp : p
  · rw [if_pos hp] at hr; exact ⟨hp, hr⟩
  · rw [if_neg hp] at hr; cases hr
theorem v_at {r : Option Nat} {k : Nat → sk_P × sk_C} (hr : sk_fin t_O fc f nx ls h (b_at r k) = some R) : ∃ a, r = some a ∧ (k a).1.1 ∧ f (k a).2 = some R := by
  cases r with
  | none => cases hr
  | some a =>
    refine ⟨a, rfl, ?_⟩
    have hr : @ite _ (k a).1.1 (k a).1.2 (f (k a).2) none = some R := hr
    by_cases hp : (k a).1.1
    · rw [if_pos hp] at hr; exact ⟨hp, hr⟩
    · rw [if_neg hp] at hr; cases hr
theorem v_rt {q : sk_P} {v : Option sk_V} (hr : sk_fin t_O fc f nx ls h (b_rt q v) = some R) : q.1 ∧ R = (h, v) := by
  have hr : @ite _ q.1 q.2 (t_O h v) none = some R := hr
  by_cases hp : q.1
  · rw [if_pos hp] at hr
    exact ⟨hp, (Option.some.inj hr).symm⟩
  · rw [if_neg hp] at hr; cases hr
theorem v_sw0 {x : Int32} {c : sk_Ls × List sk_V × sk_H} {t0 : Nat} : ∀ (cs : List (Int32 × Nat)), sk_sw x (fun t => f (t, c)) t0 cs = some R → (∃ t, (x, t) ∈ cs ∧ f (t, c) = some R) ∨ ((∀ q ∈ cs, ¬ x = q.1) ∧ f (t0, c) = some R)
  | [], hr => Or.inr ⟨fun q hq => absurd hq List.not_mem_nil, hr⟩
  | q :: r, hr => by
    unfold sk_sw at hr
    by_cases hx : x = q.1
    · rw [if_pos hx] at hr
      exact Or.inl ⟨q.2, by rw [hx]; exact List.mem_cons_self, hr⟩
    · rw [if_neg hx] at hr
      rcases v_sw0 r hr with ⟨t, h1, h2⟩ | ⟨h1, h2⟩
      · exact Or.inl ⟨t, List.mem_cons_of_mem _ h1, h2⟩
      · refine Or.inr ⟨fun q' hq' => ?_, h2⟩
        rcases List.mem_cons.mp hq' with rfl | hq'
        · exact hx
        · exact h1 q' hq'
theorem v_sw {x : Int32} {cs : List (Int32 × Nat)} {c : sk_Ls × List sk_V × sk_H} {t0 : Nat} (hr : sk_fin t_O fc f nx ls h (b_sw x cs (t0, c)) = some R) : (∃ t, (x, t) ∈ cs ∧ f (t, c) = some R) ∨ ((∀ q ∈ cs, ¬ x = q.1) ∧ f (t0, c) = some R) := v_sw0 cs hr
theorem v_i {k : Int32 → List sk_V → sk_B} (hr : sk_fin t_O fc f nx ls h (s_i st k) = some R) : ∃ x r, st = .inl x :: r ∧ sk_fin t_O fc f nx ls h (k x r) = some R := by
  unfold s_i at hr
  split at hr
  · exact ⟨_, _, rfl, hr⟩
  · exact (v_no hr).elim
theorem v_ii {k : Int32 → Int32 → List sk_V → sk_B} (hr : sk_fin t_O fc f nx ls h (s_ii st k) = some R) : ∃ x y r, st = .inl y :: .inl x :: r ∧ sk_fin t_O fc f nx ls h (k x y r) = some R := by
  unfold s_ii at hr
  split at hr
  · exact ⟨_, _, _, rfl, hr⟩
  · exact (v_no hr).elim
theorem v_l {k : Int64 → List sk_V → sk_B} (hr : sk_fin t_O fc f nx ls h (s_l st k) = some R) : ∃ x r, st = .inr (.inl x) :: r ∧ sk_fin t_O fc f nx ls h (k x r) = some R := by
  unfold s_l at hr
  split at hr
  · exact ⟨_, _, rfl, hr⟩
  · exact (v_no hr).elim
theorem v_ll {k : Int64 → Int64 → List sk_V → sk_B} (hr : sk_fin t_O fc f nx ls h (s_ll st k) = some R) : ∃ x y r, st = .inr (.inl y) :: .inr (.inl x) :: r ∧ sk_fin t_O fc f nx ls h (k x y r) = some R := by
  unfold s_ll at hr
  split at hr
  · exact ⟨_, _, _, rfl, hr⟩
  · exact (v_no hr).elim
theorem v_li {k : Int64 → Int32 → List sk_V → sk_B} (hr : sk_fin t_O fc f nx ls h (s_li st k) = some R) : ∃ x y r, st = .inl y :: .inr (.inl x) :: r ∧ sk_fin t_O fc f nx ls h (k x y r) = some R := by
  unfold s_li at hr
  split at hr
  · exact ⟨_, _, _, rfl, hr⟩
  · exact (v_no hr).elim
theorem v_r {k : Option Nat → List sk_V → sk_B} (hr : sk_fin t_O fc f nx ls h (s_r st k) = some R) : ∃ x r, st = .inr (.inr x) :: r ∧ sk_fin t_O fc f nx ls h (k x r) = some R := by
  unfold s_r at hr
  split at hr
  · exact ⟨_, _, rfl, hr⟩
  · exact (v_no hr).elim
theorem v_rr {k : Option Nat → Option Nat → List sk_V → sk_B} (hr : sk_fin t_O fc f nx ls h (s_rr st k) = some R) : ∃ x y r, st = .inr (.inr y) :: .inr (.inr x) :: r ∧ sk_fin t_O fc f nx ls h (k x y r) = some R := by
  unfold s_rr at hr
  split at hr
  · exact ⟨_, _, _, rfl, hr⟩
  · exact (v_no hr).elim
theorem v_ri {k : Option Nat → Int32 → List sk_V → sk_B} (hr : sk_fin t_O fc f nx ls h (s_ri st k) = some R) : ∃ x i r, st = .inl i :: .inr (.inr x) :: r ∧ sk_fin t_O fc f nx ls h (k x i r) = some R := by
  unfold s_ri at hr
  split at hr
  · exact ⟨_, _, _, rfl, hr⟩
  · exact (v_no hr).elim
theorem v_rii {k : Option Nat → Int32 → Int32 → List sk_V → sk_B} (hr : sk_fin t_O fc f nx ls h (s_rii st k) = some R) : ∃ x i v r, st = .inl v :: .inl i :: .inr (.inr x) :: r ∧ sk_fin t_O fc f nx ls h (k x i v r) = some R := by
  unfold s_rii at hr
  split at hr
  · exact ⟨_, _, _, _, rfl, hr⟩
  · exact (v_no hr).elim
theorem v_ril {k : Option Nat → Int32 → Int64 → List sk_V → sk_B} (hr : sk_fin t_O fc f nx ls h (s_ril st k) = some R) : ∃ x i v r, st = .inr (.inl v) :: .inl i :: .inr (.inr x) :: r ∧ sk_fin t_O fc f nx ls h (k x i v r) = some R := by
  unfold s_ril at hr
  split at hr
  · exact ⟨_, _, _, _, rfl, hr⟩
  · exact (v_no hr).elim
theorem v_rir {k : Option Nat → Int32 → Option Nat → List sk_V → sk_B} (hr : sk_fin t_O fc f nx ls h (s_rir st k) = some R) : ∃ x i v r, st = .inr (.inr v) :: .inl i :: .inr (.inr x) :: r ∧ sk_fin t_O fc f nx ls h (k x i v r) = some R := by
  unfold s_rir at hr
  split at hr
  · exact ⟨_, _, _, _, rfl, hr⟩
  · exact (v_no hr).elim
theorem v_1 {k : sk_V → List sk_V → sk_B} (hr : sk_fin t_O fc f nx ls h (s_1 st k) = some R) : ∃ v r, st = v :: r ∧ v_one v = true ∧ sk_fin t_O fc f nx ls h (k v r) = some R := by
  unfold s_1 at hr
  split at hr
  · split at hr
    · rename_i hv; exact ⟨_, _, rfl, hv, hr⟩
    · exact (v_no hr).elim
  · exact (v_no hr).elim
theorem v_11 {k : sk_V → sk_V → List sk_V → sk_B} (hr : sk_fin t_O fc f nx ls h (s_11 st k) = some R) : ∃ v w r, st = v :: w :: r ∧ v_one v = true ∧ v_one w = true ∧ sk_fin t_O fc f nx ls h (k v w r) = some R := by
  unfold s_11 at hr
  split at hr
  · split at hr
    · rename_i hv hw; exact ⟨_, _, _, rfl, hv, hw, hr⟩
    · exact (v_no hr).elim
  · exact (v_no hr).elim
theorem vl_i {k : Nat} {g : Int32 → sk_B} {l2 : sk_Ls} (hr : sk_fin t_O fc f nx ls h (l_i l2 k g) = some R) : ∃ x, l_at l2 k = some (.inl x) ∧ sk_fin t_O fc f nx ls h (g x) = some R := by
  unfold l_i at hr
  split at hr
  · rename_i hl; exact ⟨_, hl, hr⟩
  · exact (v_no hr).elim
theorem vl_l {k : Nat} {g : Int64 → sk_B} {l2 : sk_Ls} (hr : sk_fin t_O fc f nx ls h (l_l l2 k g) = some R) : ∃ x, l_at l2 k = some (.inr (.inl x)) ∧ sk_fin t_O fc f nx ls h (g x) = some R := by
  unfold l_l at hr
  split at hr
  · rename_i hl; exact ⟨_, hl, hr⟩
  · exact (v_no hr).elim
theorem vl_r {k : Nat} {g : Option Nat → sk_B} {l2 : sk_Ls} (hr : sk_fin t_O fc f nx ls h (l_r l2 k g) = some R) : ∃ x, l_at l2 k = some (.inr (.inr x)) ∧ sk_fin t_O fc f nx ls h (g x) = some R := by
  unfold l_r at hr
  split at hr
  · rename_i hl; exact ⟨_, hl, hr⟩
  · exact (v_no hr).elim
end SkInv
end
section
/-! ===== the memory only grows ===== -/
section SkMono
variable {fc : Nat → sk_Ls → sk_H → sk_R} {f : sk_C → sk_R} {nx : Nat} {ls : sk_Ls} {h : sk_H} {R : sk_H × Option sk_V} {st : List sk_V}
def sk_le (h h' : sk_H) : Prop := hn h ≤ hn h' ∧ hs h ≤ hs h'
theorem v_cont {rk : Nat} {r : sk_R} {k : sk_H → List sk_V → sk_R} (hr : sk_cont rk r k = some R) : ∃ R', r = some R' ∧ k R'.1 R'.2.toList = some R ∧ (rk = 0 → R'.2 = none) ∧ (rk = 1 → ∃ x, R'.2 = some (.inl x)) ∧ (rk = 2 → ∃ x, R'.2 = some (.inr (.inl x))) ∧ (3 ≤ rk → ∃ x, R'.2 = some (.inr (.inr x))) := by
  cases r with
  | none => unfold sk_cont at hr; split at hr <;> simp [sk_ty] at hr
  | some R' =>
    refine ⟨R', rfl, ?_⟩
    obtain ⟨h', v⟩ := R'
    unfold sk_cont at hr
    split at hr
    · simp only [sk_ty, Option.bind_some, t_V] at hr
      split at hr
      · exact ⟨hr, fun _ => rfl, by omega, by omega, by omega⟩
      · cases hr
    · simp only [sk_ty, Option.bind_some, t_I] at hr
      split at hr
      · exact ⟨hr, by omega, fun _ => ⟨_, rfl⟩, by omega, by omega⟩
      · cases hr
    · simp only [sk_ty, Option.bind_some, t_L] at hr
      split at hr
      · exact ⟨hr, by omega, by omega, fun _ => ⟨_, rfl⟩, by omega⟩
      · cases hr
    · rename_i n0 n1 n2
      simp only [sk_ty, Option.bind_some, t_R] at hr
      split at hr
      · exact ⟨hr, fun q => absurd q n0, fun q => absurd q n1, fun q => absurd q n2, fun _ => ⟨_, rfl⟩⟩
      · cases hr
theorem v_cl {m rk ml k : Nat} {as rest : List sk_V} (hr : sk_fin t_O fc f nx ls h (b_cl m rk ml k as rest) = some R) : (k = 0 ∨ ∃ a, sk_rcv as = some a ∧ hK h a = k) ∧ sk_cont rk (fc m (sk_ent ml as) h) (fun h1 vs => f (nx, ls, vs ++ rest, h1)) = some R := by
  cases k with
  | zero => exact ⟨Or.inl rfl, hr⟩
  | succ k =>
    have hr : ((sk_rcv as).bind fun a => if hK h a = k + 1 then sk_cont rk (fc m (sk_ent ml as) h) (fun h1 vs => f (nx, ls, vs ++ rest, h1)) else none) = some R := hr
    rw [Option.bind_eq_some_iff] at hr
    obtain ⟨a, h1, h2⟩ := hr
    by_cases hp : hK h a = k + 1
    · rw [if_pos hp] at h2
      exact ⟨Or.inr ⟨a, h1, hp⟩, h2⟩
    · rw [if_neg hp] at h2; cases h2
theorem v_inv {m n rk ml k : Nat} (hr : sk_fin t_O fc f nx ls h (b_inv m n rk ml k st) = some R) : ∃ as r, sk_take n [] st = some (as, r) ∧ sk_cat r ≤ 16 ∧ sk_cat as ≤ ml ∧ (k = 0 ∨ ∃ a, sk_rcv as = some a ∧ hK h a = k) ∧ sk_cont rk (fc m (sk_ent ml as) h) (fun h1 vs => f (nx, ls, vs ++ r, h1)) = some R := by
  unfold b_inv at hr
  split at hr
  · rename_i as r ht
    split at hr
    · rename_i h1 h2
      obtain ⟨g1, g2⟩ := v_cl hr
      exact ⟨as, r, ht, Nat.le_of_ble_eq_true h1, Nat.le_of_ble_eq_true h2, g1, g2⟩
    · exact (v_no hr).elim
  · exact (v_no hr).elim
theorem v_brg {g q : sk_P} {c1 c2 : sk_C} (hr : sk_fin t_O fc f nx ls h (b_brg g q c1 c2) = some R) : g.1 ∧ ((q.1 ∧ f c1 = some R) ∨ (¬ q.1 ∧ f c2 = some R)) := by
  obtain ⟨gp, gd⟩ := g
  obtain ⟨p, dp⟩ := q
  have hr : (@ite _ gp gd (some 0) none).bind (fun _ => @ite _ p dp (f c1) (f c2)) = some R := hr
  by_cases hg : gp
  · rw [if_pos hg] at hr
    exact ⟨hg, v_br (nx := 0) (ls := []) (h := h) (fc := fc) hr⟩
  · rw [if_neg hg] at hr; cases hr
set_option maxHeartbeats 4000000 in
theorem sk_mono1 {i : Instr} {e1 e2 e3 e4 e5 : Nat} {ev : sk_V} {ec : List (Int32 × Nat)} (IC : ∀ m ls h R', fc m ls h = some R' → sk_le h R'.1) (IH : ∀ c, f c = some R → sk_le c.2.2.2 R.1) (hr : sk_fin t_O fc f nx ls h (sk_ac0 i nx e1 e2 e3 e4 e5 ev ec ls st h) = some R) : sk_le h R.1 := by
  have HC : ∀ {m n rk ml k : Nat}, sk_fin t_O fc f nx ls h (b_inv m n rk ml k st) = some R → sk_le h R.1 := by
    intro m n rk ml k hr
    obtain ⟨as, r, -, -, -, -, h2⟩ := v_inv hr
    obtain ⟨R', h3, h4, -⟩ := v_cont h2
    have a1 := IC _ _ _ _ h3
    have a2 := IH _ h4
    exact ⟨Nat.le_trans a1.1 a2.1, Nat.le_trans a1.2 a2.2⟩
  cases i
  all_goals first
    | exact (v_no hr).elim
    | exact IH _ (v_go hr)
    | exact HC hr
    | (obtain ⟨x, h1, h2⟩ := vl_i hr; first | exact IH _ (v_go h2) | (rw [l_s1k_eq] at h2; exact IH _ (v_go h2)))
    | (obtain ⟨x, h1, h2⟩ := vl_l hr; exact IH _ (v_go h2))
    | (obtain ⟨x, h1, h2⟩ := vl_r hr; exact IH _ (v_go h2))
    | (obtain ⟨x, r, rfl, h2⟩ := v_i hr; first | exact IH _ (v_go h2) | (rw [l_s1k_eq] at h2; exact IH _ (v_go h2)) | (rcases v_br h2 with ⟨-, h3⟩ | ⟨-, h3⟩ <;> exact IH _ h3) | (rcases v_sw h2 with ⟨t, -, h3⟩ | ⟨-, h3⟩ <;> exact IH _ h3) | (obtain ⟨-, h3⟩ := v_ck h2; have := IH _ h3; exact ⟨Nat.le_trans (Nat.le_succ _) this.1, Nat.le_trans (Nat.le_add_right _ _) this.2⟩))
    | (obtain ⟨x, r, rfl, h2⟩ := v_l hr; first | exact IH _ (v_go h2) | (rw [l_s2k_eq] at h2; exact IH _ (v_go h2)))
    | (obtain ⟨x, r, rfl, h2⟩ := v_r hr; first | exact IH _ (v_go h2) | (rw [l_s1k_eq] at h2; exact IH _ (v_go h2)) | (rcases v_br h2 with ⟨-, h3⟩ | ⟨-, h3⟩ <;> exact IH _ h3) | (obtain ⟨a, -, -, h3⟩ := v_at h2; exact IH _ h3))
    | (obtain ⟨x, y, r, rfl, h2⟩ := v_ii hr; first | exact IH _ (v_go h2) | (rcases v_br h2 with ⟨-, h3⟩ | ⟨-, h3⟩ <;> exact IH _ h3) | (obtain ⟨-, h3⟩ := v_ck h2; exact IH _ h3))
    | (obtain ⟨x, y, r, rfl, h2⟩ := v_ll hr; first | exact IH _ (v_go h2) | (obtain ⟨-, h3⟩ := v_ck h2; exact IH _ h3))
    | (obtain ⟨x, y, r, rfl, h2⟩ := v_li hr; exact IH _ (v_go h2))
    | (obtain ⟨x, i, r, rfl, h2⟩ := v_ri hr; obtain ⟨a, -, -, h3⟩ := v_at h2; exact IH _ h3)
    | (obtain ⟨x, i, v, r, rfl, h2⟩ := v_rii hr; obtain ⟨a, -, -, h3⟩ := v_at h2; exact IH _ h3)
    | (obtain ⟨x, i, v, r, rfl, h2⟩ := v_ril hr; obtain ⟨a, -, -, h3⟩ := v_at h2; exact IH _ h3)
    | (obtain ⟨x, i, v, r, rfl, h2⟩ := v_rir hr; obtain ⟨a, -, -, h3⟩ := v_at h2; exact IH _ h3)
    | (obtain ⟨v, r, rfl, -, h2⟩ := v_1 hr; exact IH _ (v_go h2))
    | (obtain ⟨v, w, r, rfl, -, -, h2⟩ := v_11 hr; exact IH _ (v_go h2))
    | skip
  case if_acmp c o =>
    cases c <;> (obtain ⟨x, y, r, rfl, h2⟩ := v_rr hr; obtain ⟨-, h3⟩ := v_brg h2; rcases h3 with ⟨-, h3⟩ | ⟨-, h3⟩ <;> exact IH _ h3)
  case ireturn =>
    simp only [sk_ac0, ac_ireturn] at hr
    split at hr
    · obtain ⟨-, rfl⟩ := v_rt hr; exact ⟨Nat.le_refl _, Nat.le_refl _⟩
    · exact (v_no hr).elim
  case lreturn =>
    simp only [sk_ac0, ac_lreturn] at hr
    split at hr
    · obtain ⟨-, rfl⟩ := v_rt hr; exact ⟨Nat.le_refl _, Nat.le_refl _⟩
    · exact (v_no hr).elim
  case areturn =>
    simp only [sk_ac0, ac_areturn] at hr
    split at hr
    · obtain ⟨-, rfl⟩ := v_rt hr; exact ⟨Nat.le_refl _, Nat.le_refl _⟩
    · exact (v_no hr).elim
  case return_ =>
    simp only [sk_ac0, ac_return_] at hr
    split at hr
    · obtain ⟨-, rfl⟩ := v_rt hr; exact ⟨Nat.le_refl _, Nat.le_refl _⟩
    · exact (v_no hr).elim
  case putfield k =>
    simp only [sk_ac0, ac_putfield] at hr
    split at hr
    · obtain ⟨x, i, r, rfl, h2⟩ := v_ri hr; obtain ⟨a, -, -, h3⟩ := v_at h2; exact IH _ h3
    · split at hr
      · obtain ⟨a, -, -, h3⟩ := v_at hr; exact IH _ h3
      · exact (v_no hr).elim
    · split at hr
      · obtain ⟨a, -, -, h3⟩ := v_at hr; exact IH _ h3
      · exact (v_no hr).elim
    · obtain ⟨x, i, r, rfl, h2⟩ := v_ri hr; obtain ⟨a, -, -, h3⟩ := v_at h2; exact IH _ h3
  case getstatic k =>
    simp only [sk_ac0, ac_getstatic] at hr
    split at hr <;> exact IH _ (v_go hr)
  case new k =>
    have := IH _ (v_go hr)
    exact ⟨Nat.le_trans (Nat.le_succ _) this.1, Nat.le_trans (Nat.le_add_right _ _) this.2⟩
  case invokestatic k =>
    simp only [sk_ac0, ac_invokestatic] at hr
    split at hr
    · obtain ⟨x, y, r, rfl, h2⟩ := v_ii hr
      split at h2
      · split at h2 <;> exact IH _ (v_go h2)
      · exact (v_no h2).elim
    · exact HC hr
  case invokespecial k =>
    simp only [sk_ac0, ac_invokespecial] at hr
    split at hr
    · split at hr
      · rename_i x
        cases x with
        | none => cases hr
        | some a => exact IH _ hr
      · exact (v_no hr).elim
    · exact HC hr
end SkMono
theorem sk_run_mono (T : sk_T) (rec? : Nat → Bool) : ∀ n d m c R, sk_run T rec? n d m c = some R → sk_le c.2.2.2 R.1
  | 0, _, _, _, _, h => by cases h
  | n + 1, d, m, (pc, ls, st, h), R, hr => by
    unfold sk_run at hr
    rw [Option.bind_eq_some_iff] at hr
    obtain ⟨⟨i, ⟨nx, e1, e2, e3, e4, e5⟩, ev, ec, cut⟩, h1, h2⟩ := hr
    refine sk_mono1 (fc := sk_call rec? (sk_run T rec? n) d) (f := sk_run T rec? n d m) (nx := nx) (i := i) (fun m' ls' h' R' hc => ?_) (fun c hc => sk_run_mono T rec? n d m c R hc) h2
    unfold sk_call at hc
    cases hm : rec? m' with
    | false => rw [hm] at hc; exact sk_run_mono T rec? n d m' (0, ls', [], h') R' hc
    | true =>
      rw [hm] at hc
      cases d with
      | zero => cases hc
      | succ k => exact sk_run_mono T rec? n k m' (0, ls', [], h') R' hc
end
section
/-! ===== a method's walk, tied to the evaluator: what holds at its entry, what holds all along ===== -/
def sk_tys (E : sk_En) : List (ClassId × FieldType) := [(E.2.2.2.1 101, .int), (E.2.2.2.1 102, .long), (E.2.2.2.1 103, .boolean), (E.2.2.2.1 104, .byte), (E.2.2.2.1 105, .char), (E.2.2.2.1 106, .object "SkittleRow$Rule"), (E.2.2.2.1 107, .object "SkittleRow$State"), (E.2.2.2.1 108, .object "SkittleRow$Stroke")]
/-- the outside, in a state -/
def sk_XF (E : sk_En) (U : State) (H : Heap) : Prop :=
  va_T .long (E.2.1 1) 5 (fun j => .long (sk_laws.getD j 0)) (sk_A0 E) U H ∧
  va_Z "SkittleRow" "LAWS_THAT_HIT" "[J" (.ref (E.2.1 1)) (sk_A0 E) U H ∧
  vk_S 7 (sk_str.map (fun q => q.2.2.2.1)) (sk_str.map (fun q => q.2.2.2.2)) (fun i => E.2.1 (2 + i)) (fun i => E.2.1 (9 + i)) (sk_A0 E) U H ∧
  (∀ i q, sk_str[i]? = some q → vk_R q.1 q.2.1 q.2.2.1 (E.2.1 (2 + i)) U) ∧
  va_Z "java/lang/String" "COMPACT_STRINGS" "Z" (.int 1) (sk_A0 E) U H ∧
  va_Z "java/lang/StringUTF16" "$assertionsDisabled" "Z" (.int 1) (sk_A0 E) U H ∧
  va_Z "java/lang/StringUTF16" "HI_BYTE_SHIFT" "I" (.int 0) (sk_A0 E) U H ∧
  va_Z "java/lang/StringUTF16" "LO_BYTE_SHIFT" "I" (.int 8) (sk_A0 E) U H ∧
  va_Z "jdk/internal/util/Preconditions" "SIOOBE_FORMATTER" "Ljava/util/function/BiFunction;" (va_rf ((hR E.2.2.2.2 0 2).map (sk_ad E))) (sk_A0 E) U H ∧
  va_X (E.2.1 16) (hN E.2.2.2.2 16) (hI E.2.2.2.2 16) U H ∧ E.2.1 16 < E.1 ∧
  va_AO "SkittleRow$Rule" U ∧ va_AO "SkittleRow$State" U ∧ va_AO "SkittleRow$Stroke" U ∧ va_Nw (.fieldLinkNest sk_nst.1 sk_nst.2 "SkittleRow" "LAWS_THAT_HIT" "[J" "SkittleRow") U
/-- the memory of the outside -/
def sk_EP (E : sk_En) : Prop :=
  hN E.2.2.2.2 1 = 5 ∧ (hJ E.2.2.2.2 1 = fun j => sk_laws.getD j 0) ∧
  ∀ i, i < 7 → hI E.2.2.2.2 (2 + i) 1 = 0 ∧ hR E.2.2.2.2 (2 + i) 0 = some (9 + i) ∧ hN E.2.2.2.2 (9 + i) = (sk_str.map (fun q => q.2.2.2.1)).getD i 0 ∧ hI E.2.2.2.2 (9 + i) = fun j => ((sk_str.map (fun q => q.2.2.2.2)).getD i []).getD j 0
theorem sk_XF.moved {E : sk_En} {s U : State} {H H1 : Heap} (hW : s.WarmedH U.vm) (hq : ∀ a : Nat, a < H.size → ¬ sk_A0 E a → H1[a]? = H[a]?) (hz : E.1 ≤ H.size) (h : sk_XF E s H) : sk_XF E U H1 := by
  obtain ⟨h1, h2, h3, h4, h5, h6, h7, h8, h9, h10, h11, h12, h13, h14, h15⟩ := h
  have hA := hW.alike
  refine ⟨(h1.kept hq).moved hA, (h2.kept hq).moved hA, (h3.kept hq).moved hA, fun i q hi => (h4 i q hi).warm hW, (h5.kept hq).moved hA, (h6.kept hq).moved hA, (h7.kept hq).moved hA, (h8.kept hq).moved hA, (h9.kept hq).moved hA, (h10.kept (hq _ (by omega) (by unfold sk_A0; omega))).moved hA, h11, h12.moved hA, h13.moved hA, h14.moved hA, h15.warmF hW⟩
theorem sk_XF.blind {E : sk_En} {U V : State} {H : Heap} (hv : V.vm = U.vm) (h : sk_XF E U H) : sk_XF E V H := by
  obtain ⟨h1, h2, h3, h4, h5, h6, h7, h8, h9, h10, h11, h12, h13, h14, h15⟩ := h
  have hA : U.vm.Alike V.vm := by rw [hv]; exact Vm.Alike.refl U.vm
  exact ⟨h1.moved hA, h2.moved hA, h3.moved hA, fun i q hi => (h4 i q hi).same hv, h5.moved hA, h6.moved hA, h7.moved hA, h8.moved hA, h9.moved hA, h10.moved hA, h11, h12.moved hA, h13.moved hA, h14.moved hA, h15.same rfl hv.symm⟩
def sk_Cx (E : sk_En) (m : Nat) (p : Program) (s : State) (mm : MethodId) (args : Array Value) (meth : Method) (cd : Code) : Prop :=
  p.tables.exec = Jvm.exec ∧ cd.code = sk_b m ∧ cd.maxLocals = sk_ml m ∧ s.vm.findClass (sk_y m).cls = some mm.cls ∧ (∀ w ∈ sk_wds, w.before args s = true) ∧ meth.name = (sk_y m).name ∧ va_K E.2.2.1 vwCl (sk_tys E) s ∧ sk_XF E s s.heap ∧ E.1 ≤ s.heap.size ∧ sk_EP E
def sk_Iv (E : sk_En) (m n0 s0 : Nat) (s : State) (ls : sk_Ls) (h : sk_H) (H : Heap) (locs : List Loc) (cells slots : Nat) (als : Array Slot) : Prop :=
  sk_Rep E h H ∧ va_S (sk_A0 E) s.heap H locs ∧ hn h = n0 + cells ∧ hs h = s0 + slots ∧ sk_has E als (sk_ml m) ls
/-! the tables' words -/
def tg_ok (t : Nat) (ty : FieldType) : Bool := match t, ty with
  | 0, .int => true
  | 3, .boolean => true
  | 1, .long => true
  | 2, .object _ => true
  | 2, .array _ => true
  | _, _ => false
theorem sk_cl_ok : ∀ (ci : Nat) (r : vw_C), vwCl[ci]? = some r → (∀ w ∈ u_ws r.1 r.2.1 r.2.2, w ∈ sk_wds) ∧ (∀ k, k < r.2.2 → parseFieldDescriptor (r.2.1 k).2.2.1 = some (vwTy ci k)) ∧ (∀ a, a < r.2.2 → ∀ b, b < r.2.2 → a ≠ b → (r.2.1 a).2.1 ≠ (r.2.1 b).2.1) ∧ ∀ k, k < r.2.2 → tg_ok ((sk_ft ci).getD k 0) (vwTy ci k) = true
  | 0, r, h => by cases h; exact ⟨inX0, tyX0_ok, nmX0, by decide +kernel⟩
  | 1, r, h => by cases h; exact ⟨inX1, tyX1_ok, nmX1, by decide +kernel⟩
  | 2, r, h => by cases h; exact ⟨inX2, tyX2_ok, nmX2, by decide +kernel⟩
  | 3, r, h => by cases h; exact ⟨inX3, tyX3_ok, nmX3, by decide +kernel⟩
  | 4, r, h => by cases h; exact ⟨inX4, tyX4_ok, nmX4, by decide +kernel⟩
  | 5, r, h => by cases h; exact ⟨inX5, tyX5_ok, nmX5, by decide +kernel⟩
  | 6, r, h => by cases h; exact ⟨inX6, tyX6_ok, nmX6, by decide +kernel⟩
  | 7, r, h => by cases h; exact ⟨inX7, tyX7_ok, nmX7, by decide +kernel⟩
  | 8, r, h => by cases h; exact ⟨inX8, tyX8_ok, nmX8, by decide +kernel⟩
  | 9, r, h => by cases h; exact ⟨inX9, tyX9_ok, nmX9, by decide +kernel⟩
  | 10, r, h => by cases h; exact ⟨inX10, tyX10_ok, nmX10, by decide +kernel⟩
  | 11, r, h => by cases h; exact ⟨inX11, tyX11_ok, nmX11, by decide +kernel⟩
  | 12, r, h => by cases h; exact ⟨inX12, tyX12_ok, nmX12, by decide +kernel⟩
  | k + 13, r, h => by simp [vwCl] at h
theorem ok_w_mem {m : Nat} {w : Cond} (h : ok_w m w = true) : w ∈ sk_wds := sk_wl_in _ _ (of_decide_eq_true h)
theorem sk_cl_mk : ∀ (ci : Nat) (r : vw_C), vwCl[ci]? = some r → Cond.instantiable r.1 r.2.2 ∈ sk_wds ∧ Cond.initialized r.1 ∈ sk_wds
  | 0, r, h => by cases h; exact ⟨mkX0 _ List.mem_cons_self, mkX0 _ (List.mem_cons_of_mem _ List.mem_cons_self)⟩
  | 1, r, h => by cases h; exact ⟨mkX1 _ List.mem_cons_self, mkX1 _ (List.mem_cons_of_mem _ List.mem_cons_self)⟩
  | 2, r, h => by cases h; exact ⟨mkX2 _ List.mem_cons_self, mkX2 _ (List.mem_cons_of_mem _ List.mem_cons_self)⟩
  | 3, r, h => by cases h; exact ⟨mkX3 _ List.mem_cons_self, mkX3 _ (List.mem_cons_of_mem _ List.mem_cons_self)⟩
  | 4, r, h => by cases h; exact ⟨mkX4 _ List.mem_cons_self, mkX4 _ (List.mem_cons_of_mem _ List.mem_cons_self)⟩
  | 5, r, h => by cases h; exact ⟨mkX5 _ List.mem_cons_self, mkX5 _ (List.mem_cons_of_mem _ List.mem_cons_self)⟩
  | 6, r, h => by cases h; exact ⟨mkX6 _ List.mem_cons_self, mkX6 _ (List.mem_cons_of_mem _ List.mem_cons_self)⟩
  | 7, r, h => by cases h; exact ⟨mkX7 _ List.mem_cons_self, mkX7 _ (List.mem_cons_of_mem _ List.mem_cons_self)⟩
  | 8, r, h => by cases h; exact ⟨mkX8 _ List.mem_cons_self, mkX8 _ (List.mem_cons_of_mem _ List.mem_cons_self)⟩
  | 9, r, h => by cases h; exact ⟨mkX9 _ List.mem_cons_self, mkX9 _ (List.mem_cons_of_mem _ List.mem_cons_self)⟩
  | 10, r, h => by cases h; exact ⟨mkX10 _ List.mem_cons_self, mkX10 _ (List.mem_cons_of_mem _ List.mem_cons_self)⟩
  | 11, r, h => by cases h; exact ⟨mkX11 _ List.mem_cons_self, mkX11 _ (List.mem_cons_of_mem _ List.mem_cons_self)⟩
  | 12, r, h => by cases h; exact ⟨mkX12 _ List.mem_cons_self, mkX12 _ (List.mem_cons_of_mem _ List.mem_cons_self)⟩
  | k + 13, r, h => by simp [vwCl] at h
section SkHeap
variable {p : Program} {l : Launch} {e : Env} {Rm : Room} {s : State} {mm : MethodId} {args : Array Value} {below : List Frame} {meth : Method} {cd : Code} {Q : State → Prop} {E : sk_En} {m n0 s0 : Nat}
variable {ls : sk_Ls} {h : sk_H} {H : Heap} {locs : List Loc} {cells slots : Nat} {als : Array Slot} {pc : Nat} {rest : List Value}
theorem sk_Rep.arr (I : sk_Rep E h H) {a : Nat} (hk : 101 ≤ hK h a ∧ hK h a ≤ 108) : H[sk_ad E a]? = some (vp_cell (E.2.2.2.1 (hK h a)) (sk_arr E h a)) := by
  obtain ⟨h1, h2⟩ := I.own (a := a) (Or.inr hk)
  exact (I.2.2.1 a h1 h2).2.1 hk.1
theorem sk_Rep.arrI (I : sk_Rep E h H) {a k : Nat} (hk : hK h a = k) (h1 : k = 101 ∨ k = 103 ∨ k = 104 ∨ k = 105) : H[sk_ad E a]? = some (arrV (E.2.2.2.1 k) (hN h a) (fun j => .int (hI h a j))) := by
  have := I.arr (a := a) (by omega)
  unfold sk_arr at this
  rw [if_neg (by omega), if_neg (by omega), hk, vp_cell_i] at this
  exact this
theorem sk_Rep.arrJ (I : sk_Rep E h H) {a : Nat} (hk : hK h a = 102) : H[sk_ad E a]? = some (arrV (E.2.2.2.1 102) (hN h a) (fun j => .long (hJ h a j))) := by
  have := I.arr (a := a) (by omega)
  unfold sk_arr at this
  rw [if_pos hk, hk, vp_cell_l] at this
  exact this
theorem sk_Rep.arrR (I : sk_Rep E h H) {a : Nat} (hk : 106 ≤ hK h a ∧ hK h a ≤ 108) : H[sk_ad E a]? = some (arrV (E.2.2.2.1 (hK h a)) (hN h a) (fun j => va_rf ((hR h a j).map (sk_ad E)))) := by
  have := I.arr (a := a) (by omega)
  unfold sk_arr at this
  rw [if_neg (by omega), if_pos hk.1, vp_cell_q] at this
  exact this
/-- a row's length -/
theorem sk_Rep.obj (I : sk_Rep E h H) {a : Nat} (hk : 1 ≤ hK h a ∧ hK h a ≤ 13) : ∃ r : vw_C, vwCl[hK h a - 1]? = some r ∧ t_OB (sk_ad E a) (E.2.2.1.1 (hK h a - 1)) r.2.2 (E.2.2.1.2 (hK h a - 1)) H (fun j => sv E (f_get h a j (sk_tag (hK h a) j))) := by
  obtain ⟨h1, h2⟩ := I.own (a := a) (Or.inl hk)
  exact (I.2.2.1 a h1 h2).2.2 hk.2
theorem sm_len (C : sk_Cx E m p s mm args meth cd) (I : sk_Rep E h H) {a : Nat} (hk : a_any (hK h a) = true) (hS : va_S (sk_A0 E) s.heap H locs) (hd : decode (sk_b m) pc = .ok (.arraylength, 1))
    (kk : W p l e Rm s mm args below meth cd H locs cells slots Q (F0 mm (pc + 1) als (.int (Int32.ofNat (hN h a)) :: rest))) : W p l e Rm s mm args below meth cd H locs cells slots Q (F0 mm pc als (.ref (sk_ad E a) :: rest)) := by
  obtain ⟨hx, hb, -, -, -, -, hKs, hX, hz, hEP⟩ := C
  have hk2 : (101 ≤ hK h a ∧ hK h a ≤ 108) ∨ hK h a = 201 ∨ hK h a = 202 ∨ hK h a = 204 := by
    unfold a_any at hk
    simp only [Bool.or_eq_true, Bool.and_eq_true, Nat.ble_eq, beq_iff_eq] at hk
    omega
  rcases hk2 with hk2 | hk2
  · have hc := I.arr hk2
    have ht : ∃ (t0 : Nat) (ty : FieldType), (sk_tys E)[t0]? = some (E.2.2.2.1 (hK h a), ty) := by
      rcases (show hK h a = 101 ∨ hK h a = 102 ∨ hK h a = 103 ∨ hK h a = 104 ∨ hK h a = 105 ∨ hK h a = 106 ∨ hK h a = 107 ∨ hK h a = 108 by omega) with q | q | q | q | q | q | q | q <;> rw [q]
      · exact ⟨0, _, rfl⟩
      · exact ⟨1, _, rfl⟩
      · exact ⟨2, _, rfl⟩
      · exact ⟨3, _, rfl⟩
      · exact ⟨4, _, rfl⟩
      · exact ⟨5, _, rfl⟩
      · exact ⟨6, _, rfl⟩
      · exact ⟨7, _, rfl⟩
    obtain ⟨t0, ty, ht⟩ := ht
    refine va_alen (D := E.2.2.1) (cl := vwCl) (ws := [(sk_ad E a, .inl (E.2.2.2.1 (hK h a), sk_arr E h a))]) hx hb hKs (fun k q hq => ?_) 0 t0 rfl ht rfl hd kk
    cases k with
    | zero => cases hq; exact hc
    | succ k => simp at hq
  · obtain ⟨hX1, -, hX3, -, -, -, -, -, -, hX10, hX11, -⟩ := hX
    obtain ⟨q1, q2⟩ := I.ext (a := a) (by unfold sk_kd; omega) (by omega)
    rw [sk_ad_ext q1]
    obtain ⟨-, e2, -⟩ := I.2.2.2.2 a q1
    rw [q2] at hk2
    have hcase : a = 1 ∨ a = 16 ∨ ∃ i, i < 7 ∧ a = 9 + i := by
      unfold sk_ek at hk2
      by_cases c1 : a = 1
      · exact Or.inl c1
      · rw [if_neg c1] at hk2
        by_cases c2 : 2 ≤ a ∧ a ≤ 8
        · rw [if_pos c2] at hk2; omega
        · rw [if_neg c2] at hk2
          by_cases c3 : 9 ≤ a ∧ a ≤ 15
          · exact Or.inr (Or.inr ⟨a - 9, by omega, by omega⟩)
          · rw [if_neg c3] at hk2
            by_cases c4 : a = 16
            · exact Or.inr (Or.inl c4)
            · rw [if_neg c4] at hk2; omega
    rcases hcase with rfl | rfl | ⟨i, hi, rfl⟩
    · exact va_tlen hx hb hX1 hS (by rw [e2, hEP.1]) hd kk
    · rw [e2] at kk
      exact va_slen hx hb hX10 (Nat.lt_of_lt_of_le hX11 hz) (Nat.not_le.mpr hX11) hS hd kk
    · exact va_tlen hx hb (hX3.1 i hi).2.2.2 hS (by rw [e2, (hEP.2.2 i hi).2.2.1]) hd kk
end SkHeap
end
section
/-! ===== reads and writes ===== -/
section SkRead
variable {p : Program} {l : Launch} {e : Env} {Rm : Room} {s : State} {mm : MethodId} {args : Array Value} {below : List Frame} {meth : Method} {cd : Code} {Q : State → Prop} {E : sk_En} {m n0 s0 : Nat}
variable {ls : sk_Ls} {h : sk_H} {H : Heap} {locs : List Loc} {cells slots : Nat} {als : Array Slot} {pc : Nat} {rest : List Value}
theorem sk_1w {D : va_G} {cl : List vw_C} {q : Nat × va_E} {H : Heap} (h : va_at D cl q H) : va_P D cl [q] H := by
  intro k x hx
  cases k with
  | zero => cases hx; exact h
  | succ k => simp at hx
theorem sk_ek_of {a : Nat} : (sk_ek a = 201 → a = 16) ∧ (sk_ek a = 202 → a = 1) ∧ (sk_ek a = 204 → ∃ i, i < 7 ∧ a = 9 + i) ∧ (sk_ek a = 51 → ∃ i, i < 7 ∧ a = 2 + i) := by
  unfold sk_ek
  refine ⟨fun hk => ?_, fun hk => ?_, fun hk => ?_, fun hk => ?_⟩
  · split at hk
    · omega
    · split at hk
      · omega
      · split at hk
        · omega
        · split at hk <;> omega
  · split at hk
    · omega
    · split at hk
      · omega
      · split at hk
        · omega
        · split at hk <;> omega
  · split at hk
    · omega
    · split at hk
      · omega
      · split at hk
        · exact ⟨a - 9, by omega, by omega⟩
        · split at hk <;> omega
  · split at hk
    · omega
    · split at hk
      · exact ⟨a - 2, by omega, by omega⟩
      · split at hk
        · omega
        · split at hk <;> omega
theorem sm_iald (C : sk_Cx E m p s mm args meth cd) (I : sk_Rep E h H) {a : Nat} {i : Int32} (hk : (hK h a = 101 ∨ hK h a = 201) ∧ sk_in i (hN h a)) (hS : va_S (sk_A0 E) s.heap H locs) (hd : decode (sk_b m) pc = .ok (.iaload, 1))
    (kk : W p l e Rm s mm args below meth cd H locs cells slots Q (F0 mm (pc + 1) als (.int (hI h a i.toNatClampNeg) :: rest))) : W p l e Rm s mm args below meth cd H locs cells slots Q (F0 mm pc als (.int i :: .ref (sk_ad E a) :: rest)) := by
  obtain ⟨hx, hb, -, -, -, -, hKs, hX, hz, hEP⟩ := C
  obtain ⟨hk, hin⟩ := hk
  rcases hk with hk | hk
  · exact va_iald (D := E.2.2.1) (cl := vwCl) hx hb hKs (sk_1w (q := (sk_ad E a, .inl (E.2.2.2.1 101, hN h a, .inl (hI h a)))) (I.arrI hk (by omega))) 0 0 rfl rfl hin hd kk
  · obtain ⟨q1, q2⟩ := I.ext (a := a) (by unfold sk_kd; omega) (by omega)
    obtain rfl := sk_ek_of.1 (q2.symm.trans hk)
    obtain ⟨-, e2, e3, -⟩ := I.2.2.2.2 16 q1
    obtain ⟨-, -, -, -, -, -, -, -, -, hX10, hX11, -⟩ := hX
    rw [sk_ad_ext q1]
    rw [e2] at hin
    rw [e3] at kk
    exact va_sld hx hb hX10 (Nat.lt_of_lt_of_le hX11 hz) (Nat.not_le.mpr hX11) hS hin hd kk
theorem sm_bald (C : sk_Cx E m p s mm args meth cd) (I : sk_Rep E h H) {a : Nat} {i : Int32} (hk : (hK h a = 103 ∨ hK h a = 104 ∨ hK h a = 204) ∧ sk_in i (hN h a)) (hS : va_S (sk_A0 E) s.heap H locs) (hd : decode (sk_b m) pc = .ok (.baload, 1))
    (kk : W p l e Rm s mm args below meth cd H locs cells slots Q (F0 mm (pc + 1) als (.int (hI h a i.toNatClampNeg) :: rest))) : W p l e Rm s mm args below meth cd H locs cells slots Q (F0 mm pc als (.int i :: .ref (sk_ad E a) :: rest)) := by
  obtain ⟨hx, hb, -, -, -, -, hKs, hX, hz, hEP⟩ := C
  obtain ⟨hk, hin⟩ := hk
  rcases hk with hk | hk | hk
  · exact va_zald (D := E.2.2.1) (cl := vwCl) hx hb hKs (sk_1w (q := (sk_ad E a, .inl (E.2.2.2.1 103, hN h a, .inl (hI h a)))) (I.arrI hk (by omega))) 0 2 rfl rfl hin hd kk
  · exact va_bald (D := E.2.2.1) (cl := vwCl) hx hb hKs (sk_1w (q := (sk_ad E a, .inl (E.2.2.2.1 104, hN h a, .inl (hI h a)))) (I.arrI hk (by omega))) 0 3 rfl rfl hin hd kk
  · obtain ⟨q1, q2⟩ := I.ext (a := a) (by unfold sk_kd; omega) (by omega)
    obtain ⟨j, hj, rfl⟩ := sk_ek_of.2.2.1 (q2.symm.trans hk)
    obtain ⟨-, e2, e3, -⟩ := I.2.2.2.2 (9 + j) q1
    obtain ⟨-, -, hX3, -⟩ := hX
    obtain ⟨-, -, p1, p2⟩ := hEP.2.2 j hj
    rw [sk_ad_ext q1]
    rw [e2, p1] at hin
    rw [e3, p2] at kk
    exact va_tb hx hb (hX3.1 j hj).2.2.2 hS hin rfl hd kk
theorem sm_cald (C : sk_Cx E m p s mm args meth cd) (I : sk_Rep E h H) {a : Nat} {i : Int32} (hk : hK h a = 105 ∧ sk_in i (hN h a)) (hd : decode (sk_b m) pc = .ok (.caload, 1))
    (kk : W p l e Rm s mm args below meth cd H locs cells slots Q (F0 mm (pc + 1) als (.int (hI h a i.toNatClampNeg) :: rest))) : W p l e Rm s mm args below meth cd H locs cells slots Q (F0 mm pc als (.int i :: .ref (sk_ad E a) :: rest)) := by
  obtain ⟨hx, hb, -, -, -, -, hKs, hX, hz, hEP⟩ := C
  exact va_cald (D := E.2.2.1) (cl := vwCl) hx hb hKs (sk_1w (q := (sk_ad E a, .inl (E.2.2.2.1 105, hN h a, .inl (hI h a)))) (I.arrI hk.1 (by omega))) 0 4 rfl rfl hk.2 hd kk
theorem sm_lald (C : sk_Cx E m p s mm args meth cd) (I : sk_Rep E h H) {a : Nat} {i : Int32} (hk : (hK h a = 102 ∨ hK h a = 202) ∧ sk_in i (hN h a)) (hS : va_S (sk_A0 E) s.heap H locs) (hd : decode (sk_b m) pc = .ok (.laload, 1))
    (kk : W p l e Rm s mm args below meth cd H locs cells slots Q (F0 mm (pc + 1) als (.long (hJ h a i.toNatClampNeg) :: rest))) : W p l e Rm s mm args below meth cd H locs cells slots Q (F0 mm pc als (.int i :: .ref (sk_ad E a) :: rest)) := by
  obtain ⟨hx, hb, -, -, -, -, hKs, hX, hz, hEP⟩ := C
  obtain ⟨hk, hin⟩ := hk
  rcases hk with hk | hk
  · exact va_lald (D := E.2.2.1) (cl := vwCl) hx hb hKs (sk_1w (q := (sk_ad E a, .inl (E.2.2.2.1 102, hN h a, .inr (.inl (hJ h a))))) (I.arrJ hk)) 0 1 rfl rfl hin hd kk
  · obtain ⟨q1, q2⟩ := I.ext (a := a) (by unfold sk_kd; omega) (by omega)
    obtain rfl := sk_ek_of.2.1 (q2.symm.trans hk)
    obtain ⟨-, e2, -, e4, -⟩ := I.2.2.2.2 1 q1
    rw [sk_ad_ext q1]
    rw [e2, hEP.1] at hin
    rw [e4, hEP.2.1] at kk
    exact va_tl hx hb hX.1 hS hin rfl hd kk
theorem a_ref_of {k : Nat} (h : a_ref k = true) : 106 ≤ k ∧ k ≤ 108 := by
  unfold a_ref at h
  simp only [Bool.and_eq_true, Nat.ble_eq] at h
  exact h
theorem sk_tyR (E : sk_En) {k : Nat} (hk : 106 ≤ k ∧ k ≤ 108) : ∃ (t0 ci : Nat) (r : vw_C), (sk_tys E)[t0]? = some (E.2.2.2.1 k, .object r.1) ∧ vwCl[ci]? = some r ∧ ci + 1 = a_of k := by
  rcases (show k = 106 ∨ k = 107 ∨ k = 108 by omega) with rfl | rfl | rfl
  · exact ⟨5, 6, _, rfl, rfl, rfl⟩
  · exact ⟨6, 8, _, rfl, rfl, rfl⟩
  · exact ⟨7, 9, _, rfl, rfl, rfl⟩
theorem sm_aald (C : sk_Cx E m p s mm args meth cd) (I : sk_Rep E h H) {a : Nat} {i : Int32} (hk : a_ref (hK h a) = true ∧ sk_in i (hN h a)) (hd : decode (sk_b m) pc = .ok (.aaload, 1))
    (kk : W p l e Rm s mm args below meth cd H locs cells slots Q (F0 mm (pc + 1) als (va_rf ((hR h a i.toNatClampNeg).map (sk_ad E)) :: rest))) : W p l e Rm s mm args below meth cd H locs cells slots Q (F0 mm pc als (.int i :: .ref (sk_ad E a) :: rest)) := by
  obtain ⟨hx, hb, -, -, -, -, hKs, hX, hz, hEP⟩ := C
  obtain ⟨t0, ci, r, h1, -, -⟩ := sk_tyR E (a_ref_of hk.1)
  exact va_aldq (D := E.2.2.1) (cl := vwCl) hx hb hKs (sk_1w (q := (sk_ad E a, .inl (E.2.2.2.1 (hK h a), hN h a, .inr (.inr (.inr (.inr fun j => (hR h a j).map (sk_ad E))))))) (I.arrR (a_ref_of hk.1))) 0 t0 rfl h1 hk.2 hd kk
theorem sm_getf (C : sk_Cx E m p s mm args meth cd) (I : sk_Rep E h H) {a idx k fi tag : Nat} (hok : ok_fld m idx k fi tag = true) (hk : hK h a = k) (hd : decode (sk_b m) pc = .ok (.getfield idx, 3))
    (kk : W p l e Rm s mm args below meth cd H locs cells slots Q (F0 mm (pc + 3) als (sv E (f_get h a fi tag) :: rest))) : W p l e Rm s mm args below meth cd H locs cells slots Q (F0 mm pc als (.ref (sk_ad E a) :: rest)) := by
  obtain ⟨hx, hb, -, hown, hts, -, hKs, hX, hz, hEP⟩ := C
  subst hk
  unfold ok_fld at hok
  split at hok
  · rename_i Cn T N hcl
    simp only [Bool.and_eq_true, decide_eq_true_eq] at hok
    obtain ⟨⟨⟨hk1, hk2, hfi⟩, htag⟩, hw⟩ := hok
    obtain ⟨r, hr, cell, q1, q2, q3, q4⟩ := I.obj ⟨hk1, hk2⟩
    cases hr.symm.trans hcl
    obtain ⟨hin, -, -, -⟩ := sk_cl_ok _ _ hcl
    obtain ⟨hS, hfc, kC, hkC, hkind⟩ := hKs.1 _ _ hcl
    obtain ⟨cf, kf, fi', f, hi, hsl⟩ := hS fi hfi
    refine W.getf hx hb hown (hts _ (ok_w_mem hw)) hi (u_facts hfc hkC (u_lays hts hin hfi) hi).1 q1 (by rw [q3]; exact fun h => by cases h) (v := sv E (f_get h a fi tag)) ?_ rfl rfl hd kk
    rw [hsl, q4 fi hfi]
    have : sk_tag (hK h a) fi = tag := by
      unfold sk_tag
      rw [List.getD_eq_getElem?_getD, htag]
      rfl
    show some (sv E (f_get h a fi (sk_tag (hK h a) fi))) = _
    rw [this]
  · cases hok
/-- the fields of a text -/
theorem sm_gets (C : sk_Cx E m p s mm args meth cd) (I : sk_Rep E h H) {a idx fi tag : Nat} (hok : ((decide (fi = 0 ∧ tag = 2) && ok_w m (.fieldLink (sk_y m).cls idx "java/lang/String" "value" "[B")) || (decide (fi = 1 ∧ tag = 0) && ok_w m (.fieldLink (sk_y m).cls idx "java/lang/String" "coder" "B"))) = true) (hk : hK h a = 51) (hS : va_S (sk_A0 E) s.heap H locs) (hd : decode (sk_b m) pc = .ok (.getfield idx, 3))
    (kk : W p l e Rm s mm args below meth cd H locs cells slots Q (F0 mm (pc + 3) als (sv E (f_get h a fi tag) :: rest))) : W p l e Rm s mm args below meth cd H locs cells slots Q (F0 mm pc als (.ref (sk_ad E a) :: rest)) := by
  obtain ⟨hx, hb, -, hown, hts, -, hKs, hX, hz, hEP⟩ := C
  obtain ⟨q1, q2⟩ := I.ext (a := a) (by unfold sk_kd; omega) (by omega)
  obtain ⟨j, hj, rfl⟩ := sk_ek_of.2.2.2 (q2.symm.trans hk)
  obtain ⟨-, e2, e3, -, e5⟩ := I.2.2.2.2 (2 + j) q1
  obtain ⟨-, -, hX3, -⟩ := hX
  obtain ⟨p1, p2, -, -⟩ := hEP.2.2 j hj
  rw [sk_ad_ext q1]
  simp only [Bool.or_eq_true, Bool.and_eq_true, decide_eq_true_eq] at hok
  rcases hok with ⟨⟨rfl, rfl⟩, hw⟩ | ⟨⟨rfl, rfl⟩, hw⟩
  · refine vk_getf hx hb (hX3.1 j hj).2.2.1 hS hown (hts _ (ok_w_mem hw)) (fun _ h => h) hd ?_
    have : sv E (f_get h (2 + j) 0 2) = .ref (E.2.1 (9 + j)) := by
      show va_rf ((hR h (2 + j) 0).map (sk_ad E)) = _
      rw [e5, p2]
      show Value.ref (sk_ad E (9 + j)) = _
      rw [sk_ad_ext (by omega)]
    rw [this] at kk
    exact kk
  · refine vk_getf hx hb (hX3.1 j hj).2.1 hS hown (hts _ (ok_w_mem hw)) (fun _ h => h) hd ?_
    have : sv E (f_get h (2 + j) 1 0) = .int 0 := by
      show Value.int (hI h (2 + j) 1) = _
      rw [e3, p1]
    rw [this] at kk
    exact kk
end SkRead
section SkWrite
variable {p : Program} {l : Launch} {e : Env} {Rm : Room} {s : State} {mm : MethodId} {args : Array Value} {below : List Frame} {meth : Method} {cd : Code} {Q : State → Prop} {E : sk_En} {m n0 s0 : Nat}
variable {ls : sk_Ls} {h : sk_H} {H : Heap} {locs : List Loc} {cells slots : Nat} {als : Array Slot} {pc : Nat} {rest : List Value}
theorem same_wI (h : sk_H) (a i : Nat) (v : Int32) (b : Nat) (hb : b ≠ a) : sk_same h (wI h a i v) b := ⟨rfl, rfl, hI_wI_n h i v hb, rfl, rfl⟩
theorem same_wJ (h : sk_H) (a i : Nat) (v : Int64) (b : Nat) (hb : b ≠ a) : sk_same h (wJ h a i v) b := ⟨rfl, rfl, rfl, hJ_wJ_n h i v hb, rfl⟩
theorem same_wR (h : sk_H) (a i : Nat) (v : Option Nat) (b : Nat) (hb : b ≠ a) : sk_same h (wR h a i v) b := ⟨rfl, rfl, rfl, rfl, hR_wR_n h i v hb⟩
/-- an int into a row of ints -/
theorem sk_Rep.stI (I : sk_Rep E h H) {H' : Heap} {a k i : Nat} {v : Int32} (hk : hK h a = k) (h1 : k = 101 ∨ k = 103 ∨ k = 104 ∨ k = 105) (hc : H'[sk_ad E a]? = some ((arrV (E.2.2.2.1 k) (hN h a) (fun j => .int (hI h a j))).setSlot i (.int v))) (hz : H'.size = H.size) (hq : ∀ q, q ≠ sk_ad E a → H'[q]? = H[q]?) : sk_Rep E (wI h a i v) H' := by
  obtain ⟨g1, g2⟩ := I.own (a := a) (by unfold sk_kd; omega)
  refine I.put (h' := wI h a i v) g1 g2 rfl rfl (same_wI h a i v) hz hq ⟨fun hk2 => ?_, fun hk2 => ?_⟩
  · rw [hc, arrV_store]
    have hk' : hK (wI h a i v) a = k := hk
    unfold sk_arr
    rw [if_neg (by omega), if_neg (by omega), vp_cell_i, hI_wI_s]
    rw [hk']
    congr 2
    funext j
    by_cases hj : j = i
    · simp [updV, va_up, hj]
    · simp [updV, va_up, hj]
  · have hk' : hK (wI h a i v) a = k := hk
    omega
theorem sk_Rep.stJ (I : sk_Rep E h H) {H' : Heap} {a i : Nat} {v : Int64} (hk : hK h a = 102) (hc : H'[sk_ad E a]? = some ((arrV (E.2.2.2.1 102) (hN h a) (fun j => .long (hJ h a j))).setSlot i (.long v))) (hz : H'.size = H.size) (hq : ∀ q, q ≠ sk_ad E a → H'[q]? = H[q]?) : sk_Rep E (wJ h a i v) H' := by
  obtain ⟨g1, g2⟩ := I.own (a := a) (by unfold sk_kd; omega)
  have hk' : hK (wJ h a i v) a = 102 := hk
  refine I.put (h' := wJ h a i v) g1 g2 rfl rfl (same_wJ h a i v) hz hq ⟨fun hk2 => ?_, fun hk2 => by omega⟩
  rw [hc, arrV_store]
  unfold sk_arr
  rw [if_pos hk', vp_cell_l, hJ_wJ_s, hk']
  congr 2
  funext j
  by_cases hj : j = i
  · simp [updV, va_up, hj]
  · simp [updV, va_up, hj]
theorem sk_Rep.stR (I : sk_Rep E h H) {H' : Heap} {a i : Nat} {v : Option Nat} (hk : 106 ≤ hK h a ∧ hK h a ≤ 108) (hc : H'[sk_ad E a]? = some ((arrV (E.2.2.2.1 (hK h a)) (hN h a) (fun j => va_rf ((hR h a j).map (sk_ad E)))).setSlot i (va_rf (v.map (sk_ad E))))) (hz : H'.size = H.size) (hq : ∀ q, q ≠ sk_ad E a → H'[q]? = H[q]?) : sk_Rep E (wR h a i v) H' := by
  obtain ⟨g1, g2⟩ := I.own (a := a) (by unfold sk_kd; omega)
  have hk' : hK (wR h a i v) a = hK h a := rfl
  refine I.put (h' := wR h a i v) g1 g2 rfl rfl (same_wR h a i v) hz hq ⟨fun hk2 => ?_, fun hk2 => by omega⟩
  rw [hc, arrV_store]
  unfold sk_arr
  rw [if_neg (by omega), if_pos (by omega), vp_cell_q, hR_wR_s, hk']
  congr 2
  funext j
  by_cases hj : j = i
  · simp [updV, va_up, hj]
  · simp [updV, va_up, hj]
theorem sm_iast (C : sk_Cx E m p s mm args meth cd) (I : sk_Rep E h H) {a : Nat} {i v : Int32} (hk : hK h a = 101 ∧ sk_in i (hN h a)) (hS : va_S (sk_A0 E) s.heap H locs) (hd : decode (sk_b m) pc = .ok (.iastore, 1))
    (kk : ∀ H1 locs1, sk_Rep E (wI h a i.toNatClampNeg v) H1 → va_S (sk_A0 E) s.heap H1 locs1 → W p l e Rm s mm args below meth cd H1 locs1 cells slots Q (F0 mm (pc + 1) als rest)) : W p l e Rm s mm args below meth cd H locs cells slots Q (F0 mm pc als (.int v :: .int i :: .ref (sk_ad E a) :: rest)) := by
  obtain ⟨hx, hb, -, -, -, -, hKs, hX, hz, hEP⟩ := C
  have hc := I.arrI hk.1 (Or.inl rfl)
  obtain ⟨g1, -⟩ := I.own (a := a) (by unfold sk_kd; omega)
  refine W.iast hx hb hc ((hKs.2 0 _ rfl).1 _ _) (fun q => by cases q) (by show ¬ (i < 0 ∨ (arrV _ _ _).slots.size ≤ _); rw [arrV_size]; exact hk.2) rfl rfl hd fun H1 e z oq => ?_
  exact kk H1 _ (I.stI hk.1 (Or.inl rfl) e z oq) (hS.put z oq (by rw [sk_ad_own g1]; exact Nat.le_add_right _ _))
theorem sm_cast (C : sk_Cx E m p s mm args meth cd) (I : sk_Rep E h H) {a : Nat} {i v : Int32} (hk : hK h a = 105 ∧ sk_in i (hN h a)) (hS : va_S (sk_A0 E) s.heap H locs) (hd : decode (sk_b m) pc = .ok (.castore, 1))
    (kk : ∀ H1 locs1, sk_Rep E (wI h a i.toNatClampNeg v.toUInt32.toUInt16.toUInt32.toInt32) H1 → va_S (sk_A0 E) s.heap H1 locs1 → W p l e Rm s mm args below meth cd H1 locs1 cells slots Q (F0 mm (pc + 1) als rest)) : W p l e Rm s mm args below meth cd H locs cells slots Q (F0 mm pc als (.int v :: .int i :: .ref (sk_ad E a) :: rest)) := by
  obtain ⟨hx, hb, -, -, -, -, hKs, hX, hz, hEP⟩ := C
  have hc := I.arrI hk.1 (by omega)
  obtain ⟨g1, -⟩ := I.own (a := a) (by unfold sk_kd; omega)
  refine W.cast hx hb hc ((hKs.2 4 _ rfl).1 _ _) (fun q => by cases q) (by show ¬ (i < 0 ∨ (arrV _ _ _).slots.size ≤ _); rw [arrV_size]; exact hk.2) rfl rfl hd fun H1 e z oq => ?_
  exact kk H1 _ (I.stI hk.1 (by omega) e z oq) (hS.put z oq (by rw [sk_ad_own g1]; exact Nat.le_add_right _ _))
theorem sm_bast (C : sk_Cx E m p s mm args meth cd) (I : sk_Rep E h H) {a : Nat} {i v : Int32} (hk : (hK h a = 104 ∨ (hK h a = 103 ∧ (v = 0 ∨ v = 1))) ∧ sk_in i (hN h a)) (hS : va_S (sk_A0 E) s.heap H locs) (hd : decode (sk_b m) pc = .ok (.bastore, 1))
    (kk : ∀ H1 locs1, sk_Rep E (wI h a i.toNatClampNeg v.toInt8.toInt32) H1 → va_S (sk_A0 E) s.heap H1 locs1 → W p l e Rm s mm args below meth cd H1 locs1 cells slots Q (F0 mm (pc + 1) als rest)) : W p l e Rm s mm args below meth cd H locs cells slots Q (F0 mm pc als (.int v :: .int i :: .ref (sk_ad E a) :: rest)) := by
  obtain ⟨hx, hb, -, -, -, -, hKs, hX, hz, hEP⟩ := C
  obtain ⟨hk, hin⟩ := hk
  rcases hk with hk | ⟨hk, hv⟩
  · have hc := I.arrI hk (by omega)
    obtain ⟨g1, -⟩ := I.own (a := a) (by unfold sk_kd; omega)
    refine W.bast hx hb hc ((hKs.2 3 _ rfl).1 _ _) (fun q => by cases q) (by show ¬ (i < 0 ∨ (arrV _ _ _).slots.size ≤ _); rw [arrV_size]; exact hin) rfl rfl hd fun H1 e z oq => ?_
    exact kk H1 _ (I.stI hk (by omega) e z oq) (hS.put z oq (by rw [sk_ad_own g1]; exact Nat.le_add_right _ _))
  · have hc := I.arrI hk (by omega)
    obtain ⟨g1, -⟩ := I.own (a := a) (by unfold sk_kd; omega)
    refine W.zast hx hb hc ((hKs.2 2 _ rfl).1 _ _) (fun q => by cases q) (by show ¬ (i < 0 ∨ (arrV _ _ _).slots.size ≤ _); rw [arrV_size]; exact hin) rfl rfl hd fun H1 e z oq => ?_
    have hn : narrow .boolean (.int v) = .int v.toInt8.toInt32 := by rcases hv with rfl | rfl <;> decide
    rw [hn] at e
    exact kk H1 _ (I.stI hk (by omega) e z oq) (hS.put z oq (by rw [sk_ad_own g1]; exact Nat.le_add_right _ _))
theorem sm_last (C : sk_Cx E m p s mm args meth cd) (I : sk_Rep E h H) {a : Nat} {i : Int32} {v : Int64} (hk : hK h a = 102 ∧ sk_in i (hN h a)) (hS : va_S (sk_A0 E) s.heap H locs) (hd : decode (sk_b m) pc = .ok (.lastore, 1))
    (kk : ∀ H1 locs1, sk_Rep E (wJ h a i.toNatClampNeg v) H1 → va_S (sk_A0 E) s.heap H1 locs1 → W p l e Rm s mm args below meth cd H1 locs1 cells slots Q (F0 mm (pc + 1) als rest)) : W p l e Rm s mm args below meth cd H locs cells slots Q (F0 mm pc als (.long v :: .int i :: .ref (sk_ad E a) :: rest)) := by
  obtain ⟨hx, hb, -, -, -, -, hKs, hX, hz, hEP⟩ := C
  have hc := I.arrJ hk.1
  obtain ⟨g1, -⟩ := I.own (a := a) (by unfold sk_kd; omega)
  refine W.last hx hb hc ((hKs.2 1 _ rfl).1 _ _) (fun q => by cases q) (by show ¬ (i < 0 ∨ (arrV _ _ _).slots.size ≤ _); rw [arrV_size]; exact hk.2) rfl rfl hd fun H1 e z oq => ?_
  exact kk H1 _ (I.stJ hk.1 e z oq) (hS.put z oq (by rw [sk_ad_own g1]; exact Nat.le_add_right _ _))
theorem sm_aast (C : sk_Cx E m p s mm args meth cd) (I : sk_Rep E h H) {a b : Nat} {i : Int32} (hk : a_ref (hK h a) = true ∧ sk_in i (hN h a) ∧ hK h b = a_of (hK h a)) (hS : va_S (sk_A0 E) s.heap H locs) (hd : decode (sk_b m) pc = .ok (.aastore, 1))
    (kk : ∀ H1 locs1, sk_Rep E (wR h a i.toNatClampNeg (some b)) H1 → va_S (sk_A0 E) s.heap H1 locs1 → W p l e Rm s mm args below meth cd H1 locs1 cells slots Q (F0 mm (pc + 1) als rest)) : W p l e Rm s mm args below meth cd H locs cells slots Q (F0 mm pc als (.ref (sk_ad E b) :: .int i :: .ref (sk_ad E a) :: rest)) := by
  obtain ⟨hx, hb, -, -, -, -, hKs, hX, hz, hEP⟩ := C
  have ha := a_ref_of hk.1
  have hc := I.arrR ha
  obtain ⟨g1, -⟩ := I.own (a := a) (by unfold sk_kd; omega)
  obtain ⟨t0, ci, r, h1, h2, h3⟩ := sk_tyR E ha
  have hb2 : 1 ≤ hK h b ∧ hK h b ≤ 13 := by
    have h4 : ci < 13 := by
      have := (List.getElem?_eq_some_iff.mp h2).1
      exact this
    omega
  obtain ⟨r', hr', cellV, q1, q2, q3, -⟩ := I.obj hb2
  have hci : hK h b - 1 = ci := by omega
  rw [hci] at hr' q2
  cases hr'.symm.trans h2
  have hcls := (hKs.1 ci r h2).2
  obtain ⟨kA, comp, k1, k2, k3, -⟩ := (hKs.2 t0 _ h1).2
  have hcomp : comp = E.2.2.1.1 ci := Option.some.inj (k3.symm.trans hcls.1)
  subst hcomp
  obtain ⟨kC, hkC, -⟩ := hcls.2
  have hlt : i.toNatClampNeg < hN h a := Nat.not_le.mp fun q => hk.2.1 (Or.inr q)
  have h0 : ¬ i < 0 := fun q => hk.2.1 (Or.inl q)
  refine W.aast hx hb hc (fun q h => by cases h) (fun h => by cases h) k1 k2 rfl hkC ⟨h0, by show _ < (arrV _ _ _).slots.size; rw [arrV_size]; exact hlt⟩ q1 (fun q h => by rw [q3] at h; cases h) (by rw [q2]; exact hkC) (by rw [q2]; exact va_assign hcls) rfl rfl hd fun H1 e z oq => ?_
  exact kk H1 _ (I.stR (v := some b) ha e z oq) (hS.put z oq (by rw [sk_ad_own g1]; exact Nat.le_add_right _ _))
end SkWrite
end
section
/-! ===== fields written, cells made ===== -/
section SkMake
variable {p : Program} {l : Launch} {e : Env} {Rm : Room} {s : State} {mm : MethodId} {args : Array Value} {below : List Frame} {meth : Method} {cd : Code} {Q : State → Prop} {E : sk_En} {m n0 s0 : Nat}
variable {ls : sk_Ls} {h : sk_H} {H : Heap} {locs : List Loc} {cells slots : Nat} {als : Array Slot} {pc : Nat} {rest : List Value}
/-- a field of ours takes a value that fits -/
theorem sm_put (C : sk_Cx E m p s mm args meth cd) (I : sk_Rep E h H) {a idx k fi tag : Nat} {v : Value} (hok : ok_fld m idx k fi tag = true) (hfin : ok_fin m k fi = true) (hk : hK h a = k) (hv : ∀ ty, tg_ok tag ty = true → narrow ty v = v ∧ fits ty v = true) (hS : va_S (sk_A0 E) s.heap H locs) (hd : decode (sk_b m) pc = .ok (.putfield idx, 3))
    (h' : sk_H) (hn' : hn h' = hn h) (hK' : hK h' a = hK h a) (hs : ∀ b, b ≠ a → sk_same h h' b) (hg : ∀ j, sv E (f_get h' a j (sk_tag k j)) = if j = fi then v else sv E (f_get h a j (sk_tag k j)))
    (kk : ∀ H1 locs1, sk_Rep E h' H1 → va_S (sk_A0 E) s.heap H1 locs1 → W p l e Rm s mm args below meth cd H1 locs1 cells slots Q (F0 mm (pc + 3) als rest)) : W p l e Rm s mm args below meth cd H locs cells slots Q (F0 mm pc als (v :: .ref (sk_ad E a) :: rest)) := by
  obtain ⟨hx, hb, -, hown, hts, hnm, hKs, hX, hz, hEP⟩ := C
  subst hk
  unfold ok_fld at hok
  split at hok
  · rename_i Cn T N hcl
    simp only [Bool.and_eq_true, decide_eq_true_eq] at hok
    obtain ⟨⟨⟨hk1, hk2, hfi⟩, htag⟩, hw⟩ := hok
    obtain ⟨r, hr, cell, q1, q2, q3, q4⟩ := I.obj ⟨hk1, hk2⟩
    cases hr.symm.trans hcl
    obtain ⟨hin, hty, hnms, htg⟩ := sk_cl_ok _ _ hcl
    have hap := va_apart (own := (sk_y m).cls) (D := E.2.2.1) (cl := vwCl) hts hin _ hty hnms hKs hcl
    obtain ⟨hSl, hfc, kC, hkC, hkind⟩ := hKs.1 _ _ hcl
    obtain ⟨cf, kf, fi', f, hi, hsl⟩ := hSl fi hfi
    have htag' : sk_tag (hK h a) fi = tag := by
      unfold sk_tag
      rw [List.getD_eq_getElem?_getD, htag]
      rfl
    have htg' : tg_ok tag (vwTy (hK h a - 1) fi) = true := by
      have := htg fi hfi
      rw [List.getD_eq_getElem?_getD, htag] at this
      exact this
    obtain ⟨hnar, hfit⟩ := hv _ htg'
    obtain ⟨g1, g2⟩ := I.own (a := a) (Or.inl ⟨hk1, hk2⟩)
    have hst := (u_facts hfc hkC (u_lays hts hin hfi) hi).1
    have fin : ∀ H1, H1[sk_ad E a]? = some (cell.setSlot (E.2.2.1.2 (hK h a - 1) fi) v) → H1.size = H.size → (∀ q, q ≠ sk_ad E a → H1[q]? = H[q]?) → sk_Rep E h' H1 := by
      intro H1 e1 e2 e3
      refine I.put g1 g2 hn' hK' hs e2 e3 ⟨fun hk3 => by rw [hK'] at hk3; omega, fun hk3 => ?_⟩
      rw [hK']
      refine ⟨_, hcl, t_OB.to (V := updV (fun j => sv E (f_get h a j (sk_tag (hK h a) j))) fi v) ⟨_, e1, q2, q3, t_set q4 hap hfi v⟩ (fun j _ => ?_)⟩
      rw [hg j]
      rfl
    by_cases hf : (T fi).2.2.2 = true
    · unfold ok_fin at hfin
      rw [hcl] at hfin
      simp only [hf, Bool.not_true, Bool.false_or, Bool.and_eq_true, decide_eq_true_eq] at hfin
      obtain ⟨hnm1, hdecl⟩ := hfin
      have hlay := hts _ (hin _ (u_in_lay hfi))
      unfold u_lay at hlay
      rw [if_pos hf] at hlay
      have hcf : mm.cls = cf := by
        obtain ⟨_, _, c', _, _, _, -, -, hf', -, -, -, hown2, -⟩ := Cond.laysFinal_spec hlay
        have e1 : c' = cf := by have := hi.symm.trans hf'; simp at this; exact this.1.symm
        have hdecl' : (T fi).1 = (sk_y m).cls := hdecl
        rw [hdecl'] at hown2
        rw [← e1]; exact Option.some.inj (hown.symm.trans hown2)
      have h6 := u_fits hfc hkC hkind (Or.inr hlay) hi (hty fi hfi) hnar hfit
      refine W.putFinK hx hb hown (hts _ (ok_w_mem hw)) hi hst hcf (hnm.trans hnm1) (by rw [q2]; exact h6) q1 q3 (by rw [hsl]; exact k2_hasslot (q4 fi hfi)) rfl rfl hd fun H1 e1 e2 e3 => ?_
      rw [hsl] at e1 ⊢
      exact kk H1 _ (fin H1 e1 e2 e3) (hS.put e2 e3 (by rw [sk_ad_own g1]; exact Nat.le_add_right _ _))
    · have hlay := hts _ (hin _ (u_in_lay hfi))
      unfold u_lay at hlay
      rw [if_neg hf] at hlay
      have h6 := u_store hfc hkC hkind hlay hi (hty fi hfi) hnar hfit
      refine W.putK hx hb (f := f) ⟨hown, hts _ (ok_w_mem hw), ⟨_, _, _, hi⟩, hst⟩ (by rw [q2]; exact h6) q1 q3 (by rw [hsl]; exact k2_hasslot (q4 fi hfi)) rfl rfl hd fun H1 e1 e2 e3 => ?_
      rw [hsl] at e1 ⊢
      exact kk H1 _ (fin H1 e1 e2 e3) (hS.put e2 e3 (by rw [sk_ad_own g1]; exact Nat.le_add_right _ _))
  · cases hok
theorem ok_fld_tag {idx k fi tag : Nat} (hok : ok_fld m idx k fi tag = true) : sk_tag k fi = tag := by
  unfold ok_fld at hok
  split at hok
  · simp only [Bool.and_eq_true, decide_eq_true_eq] at hok
    unfold sk_tag
    rw [List.getD_eq_getElem?_getD, hok.1.2]
    rfl
  · cases hok
theorem fg_wI (h : sk_H) (a fi : Nat) (x : Int32) (j t : Nat) (ht : t ≠ 1 ∧ t ≠ 2) : f_get (wI h a fi x) a j t = if j = fi then .inl x else f_get h a j t := by
  match t, ht with
  | 0, _ =>
    show (Sum.inl (hI (wI h a fi x) a j) : sk_V) = _
    rw [hI_wI_s]
    by_cases hj : j = fi
    · simp [va_up, hj]
    · simp [va_up, hj, f_get]
  | 1, q => exact absurd rfl q.1
  | 2, q => exact absurd rfl q.2
  | t + 3, _ =>
    show (Sum.inl (hI (wI h a fi x) a j) : sk_V) = _
    rw [hI_wI_s]
    by_cases hj : j = fi
    · simp [va_up, hj]
    · simp [va_up, hj, f_get]
theorem fg_wI' (h : sk_H) (a fi : Nat) (x : Int32) (j t : Nat) (ht : t = 1 ∨ t = 2) : f_get (wI h a fi x) a j t = f_get h a j t := by
  rcases ht with rfl | rfl <;> rfl
theorem fg_wJ (h : sk_H) (a fi : Nat) (x : Int64) (j : Nat) : f_get (wJ h a fi x) a j 1 = if j = fi then .inr (.inl x) else f_get h a j 1 := by
  show (Sum.inr (Sum.inl (hJ (wJ h a fi x) a j)) : sk_V) = _
  rw [hJ_wJ_s]
  by_cases hj : j = fi
  · simp [va_up, hj]
  · simp [va_up, hj, f_get]
theorem fg_wJ' (h : sk_H) (a fi : Nat) (x : Int64) (j t : Nat) (ht : t ≠ 1) : f_get (wJ h a fi x) a j t = f_get h a j t := by
  match t, ht with
  | 0, _ => rfl
  | 1, q => exact absurd rfl q
  | 2, _ => rfl
  | t + 3, _ => rfl
theorem fg_wR (h : sk_H) (a fi : Nat) (x : Option Nat) (j : Nat) : f_get (wR h a fi x) a j 2 = if j = fi then .inr (.inr x) else f_get h a j 2 := by
  show (Sum.inr (Sum.inr (hR (wR h a fi x) a j)) : sk_V) = _
  rw [hR_wR_s]
  by_cases hj : j = fi
  · simp [va_up, hj]
  · simp [va_up, hj, f_get]
theorem fg_wR' (h : sk_H) (a fi : Nat) (x : Option Nat) (j t : Nat) (ht : t ≠ 2) : f_get (wR h a fi x) a j t = f_get h a j t := by
  match t, ht with
  | 0, _ => rfl
  | 1, _ => rfl
  | 2, q => exact absurd rfl q
  | t + 3, _ => rfl
theorem sm_putI (C : sk_Cx E m p s mm args meth cd) (I : sk_Rep E h H) {a idx k fi tag : Nat} {v : Int32} (hok : ok_fld m idx k fi tag = true) (hfin : ok_fin m k fi = true) (hk : hK h a = k) (ht : tag = 0 ∨ (tag ≠ 1 ∧ tag ≠ 2 ∧ (v = 0 ∨ v = 1))) (hS : va_S (sk_A0 E) s.heap H locs) (hd : decode (sk_b m) pc = .ok (.putfield idx, 3))
    (kk : ∀ H1 locs1, sk_Rep E (wI h a fi v) H1 → va_S (sk_A0 E) s.heap H1 locs1 → W p l e Rm s mm args below meth cd H1 locs1 cells slots Q (F0 mm (pc + 3) als rest)) : W p l e Rm s mm args below meth cd H locs cells slots Q (F0 mm pc als (.int v :: .ref (sk_ad E a) :: rest)) := by
  have htag := ok_fld_tag hok
  refine sm_put C I hok hfin hk (fun ty hty => ?_) hS hd (wI h a fi v) rfl rfl (same_wI h a fi v) (fun j => ?_) kk
  · rcases ht with rfl | ⟨t1, t2, hv⟩
    · cases ty <;> simp [tg_ok] at hty
      exact ⟨rfl, rfl⟩
    · match tag, ty, hty with
      | 0, .int, _ => exact ⟨rfl, rfl⟩
      | 3, .boolean, _ => rcases hv with rfl | rfl <;> exact ⟨by decide, by decide⟩
      | 1, .long, _ => exact absurd rfl t1
      | 2, .object _, _ => exact absurd rfl t2
      | 2, .array _, _ => exact absurd rfl t2
  · by_cases hj : j = fi
    · subst hj
      rw [htag, fg_wI _ _ _ _ _ _ (by rcases ht with rfl | ⟨t1, t2, -⟩ <;> omega), if_pos rfl, if_pos rfl]
      rfl
    · rw [if_neg hj]
      by_cases htj : sk_tag k j = 1 ∨ sk_tag k j = 2
      · rw [fg_wI' _ _ _ _ _ _ htj]
      · rw [fg_wI _ _ _ _ _ _ (by omega), if_neg hj]
theorem sm_putJ (C : sk_Cx E m p s mm args meth cd) (I : sk_Rep E h H) {a idx k fi : Nat} {v : Int64} (hok : ok_fld m idx k fi 1 = true) (hfin : ok_fin m k fi = true) (hk : hK h a = k) (hS : va_S (sk_A0 E) s.heap H locs) (hd : decode (sk_b m) pc = .ok (.putfield idx, 3))
    (kk : ∀ H1 locs1, sk_Rep E (wJ h a fi v) H1 → va_S (sk_A0 E) s.heap H1 locs1 → W p l e Rm s mm args below meth cd H1 locs1 cells slots Q (F0 mm (pc + 3) als rest)) : W p l e Rm s mm args below meth cd H locs cells slots Q (F0 mm pc als (.long v :: .ref (sk_ad E a) :: rest)) := by
  have htag := ok_fld_tag hok
  refine sm_put C I hok hfin hk (fun ty hty => ?_) hS hd (wJ h a fi v) rfl rfl (same_wJ h a fi v) (fun j => ?_) kk
  · cases ty <;> simp [tg_ok] at hty
    exact ⟨rfl, rfl⟩
  · by_cases hj : j = fi
    · subst hj
      rw [htag, fg_wJ, if_pos rfl, if_pos rfl]
      rfl
    · rw [if_neg hj]
      by_cases htj : sk_tag k j = 1
      · rw [htj, fg_wJ, if_neg hj]
      · rw [fg_wJ' _ _ _ _ _ _ htj]
theorem sm_putR (C : sk_Cx E m p s mm args meth cd) (I : sk_Rep E h H) {a idx k fi : Nat} {v : Option Nat} (hok : ok_fld m idx k fi 2 = true) (hfin : ok_fin m k fi = true) (hk : hK h a = k) (hS : va_S (sk_A0 E) s.heap H locs) (hd : decode (sk_b m) pc = .ok (.putfield idx, 3))
    (kk : ∀ H1 locs1, sk_Rep E (wR h a fi v) H1 → va_S (sk_A0 E) s.heap H1 locs1 → W p l e Rm s mm args below meth cd H1 locs1 cells slots Q (F0 mm (pc + 3) als rest)) : W p l e Rm s mm args below meth cd H locs cells slots Q (F0 mm pc als (va_rf (v.map (sk_ad E)) :: .ref (sk_ad E a) :: rest)) := by
  have htag := ok_fld_tag hok
  refine sm_put C I hok hfin hk (fun ty hty => ?_) hS hd (wR h a fi v) rfl rfl (same_wR h a fi v) (fun j => ?_) kk
  · cases ty <;> simp [tg_ok] at hty
    · cases v <;> exact ⟨rfl, rfl⟩
    · cases v <;> exact ⟨rfl, rfl⟩
  · by_cases hj : j = fi
    · subst hj
      rw [htag, fg_wR, if_pos rfl, if_pos rfl]
      rfl
    · rw [if_neg hj]
      by_cases htj : sk_tag k j = 2
      · rw [htj, fg_wR, if_neg hj]
      · rw [fg_wR' _ _ _ _ _ _ htj]
theorem sm_new (C : sk_Cx E m p s mm args meth cd) (I : sk_Rep E h H) {idx k n : Nat} (hok : ok_new m idx k n = true) (hS : va_S (sk_A0 E) s.heap H locs) (hc : cells + 1 ≤ Rm.cells) (hs : slots + n ≤ Rm.slots) (hd : decode (sk_b m) pc = .ok (.new idx, 3))
    (kk : ∀ H1, sk_Rep E (hnew h k n) H1 → va_S (sk_A0 E) s.heap H1 locs → W p l e Rm s mm args below meth cd H1 locs (cells + 1) (slots + n) Q (F0 mm (pc + 3) als (.ref (sk_ad E (hn h)) :: rest))) : W p l e Rm s mm args below meth cd H locs cells slots Q (F0 mm pc als rest) := by
  obtain ⟨hx, hb, -, hown, hts, hnm, hKs, hX, hz, hEP⟩ := C
  unfold ok_new at hok
  split at hok
  · rename_i Cn T N hcl
    simp only [Bool.and_eq_true, decide_eq_true_eq] at hok
    obtain ⟨⟨hk1, hk2, rfl⟩, w1⟩ := hok
    obtain ⟨w2, w3⟩ := sk_cl_mk _ _ hcl
    obtain ⟨hin, hty, hnms, htg⟩ := sk_cl_ok _ _ hcl
    have hKn := hKs.1 _ _ hcl
    have hsz : H.size = sk_ad E (hn h) := by rw [sk_ad_own I.1, I.2.1]
    refine W.newcK hx hb hown (hts _ (ok_w_mem w1)) (hts _ w2) (hts _ w3) rfl hd hc hs hKn.2.1 hsz fun H1 kC hkC e1 z1 o1 => ?_
    refine kk H1 (I.push (Or.inl ⟨hk1, hk2⟩) (by omega) (fun q hq => o1 q (by omega)) ?_) ⟨Nat.le_trans hS.1 (by omega), fun x h1 h2 => (o1 x (by have := hS.1; omega)).trans (hS.2.1 x h1 h2), hS.2.2⟩
    have hkn : hK (hnew h k n) (hn h) = k := by simp [hK, hnew, va_up, hn]
    refine ⟨fun hk3 => by omega, fun _ => ?_⟩
    rw [hkn]
    refine ⟨_, hcl, (u_born _ hts hin hKn hkC e1 hty).to (fun j hj => ?_)⟩
    have ht := htg j hj
    have hi0 : hI (hnew h k n) (hn h) j = 0 := by simp [hI, hnew, va_up, hn]
    have hj0 : hJ (hnew h k n) (hn h) j = 0 := by simp [hJ, hnew, va_up, hn]
    have hr0 : hR (hnew h k n) (hn h) j = none := by simp [hR, hnew, va_up, hn]
    unfold sk_tag
    revert ht
    generalize (sk_ft (k - 1)).getD j 0 = tag
    generalize vwTy (k - 1) j = ty
    intro ht
    match tag, ty, ht with
    | 0, .int, _ => show Value.int 0 = Value.int (hI _ _ _); rw [hi0]
    | 3, .boolean, _ => show Value.int 0 = Value.int (hI _ _ _); rw [hi0]
    | 1, .long, _ => show Value.long 0 = Value.long (hJ _ _ _); rw [hj0]
    | 2, .object _, _ => show Value.null = va_rf ((hR _ _ _).map _); rw [hr0]; rfl
    | 2, .array _, _ => show Value.null = va_rf ((hR _ _ _).map _); rw [hr0]; rfl
  · cases hok
theorem n_kind_of {t : ArrayType} (h : n_kind t ≠ 0) : ∃ i : Nat, (sk_tys E)[i]? = some (E.2.2.2.1 (n_kind t), newarray.typeOf t) ∧ (Cond.arrayClass (newarray.typeOf t)) ∈ sk_wds ∧ 101 ≤ n_kind t ∧ n_kind t ≤ 105 ∧ componentBytes (newarray.typeOf t) ≤ 8 := by
  cases t <;> first | exact absurd rfl h | exact ⟨0, rfl, by decide +kernel, by decide, by decide, by decide⟩ | exact ⟨1, rfl, by decide +kernel, by decide, by decide, by decide⟩ | exact ⟨2, rfl, by decide +kernel, by decide, by decide, by decide⟩ | exact ⟨3, rfl, by decide +kernel, by decide, by decide, by decide⟩ | exact ⟨4, rfl, by decide +kernel, by decide, by decide, by decide⟩
theorem sm_newa (C : sk_Cx E m p s mm args meth cd) (I : sk_Rep E h H) {t : ArrayType} {n : Int32} (hok : n_kind t ≠ 0) (hn0 : ¬ n < 0 ∧ n.toNatClampNeg ≤ 60000) (hS : va_S (sk_A0 E) s.heap H locs) (hc : cells + 1 ≤ Rm.cells) (hs : slots + n.toNatClampNeg ≤ Rm.slots) (hd : decode (sk_b m) pc = .ok (.newarray t, 2))
    (kk : ∀ H1, sk_Rep E (hnew h (n_kind t) n.toNatClampNeg) H1 → va_S (sk_A0 E) s.heap H1 locs → W p l e Rm s mm args below meth cd H1 locs (cells + 1) (slots + n.toNatClampNeg) Q (F0 mm (pc + 2) als (.ref (sk_ad E (hn h)) :: rest))) : W p l e Rm s mm args below meth cd H locs cells slots Q (F0 mm pc als (.int n :: rest)) := by
  obtain ⟨hx, hb, -, hown, hts, hnm, hKs, hX, hz, hEP⟩ := C
  obtain ⟨i0, ht, hw, k1, k2, hcb⟩ := n_kind_of (E := E) hok
  have hsz : H.size = sk_ad E (hn h) := by rw [sk_ad_own I.1, I.2.1]
  refine va_newaK hx hb (hts _ hw) rfl hd rfl hn0.1 rfl (by have := Nat.mul_le_mul hn0.2 hcb; omega) hc hs hsz fun H1 cA e1 z1 o1 hAr hNm => ?_
  refine kk H1 (I.push (Or.inr ⟨by omega, by omega⟩) (by omega) (fun q hq => o1 q (by omega)) ?_) ⟨Nat.le_trans hS.1 (by omega), fun x h1 h2 => (o1 x (by have := hS.1; omega)).trans (hS.2.1 x h1 h2), hS.2.2⟩
  have hcA : cA = E.2.2.2.1 (n_kind t) := by
    have h1 := (hKs.2 i0 _ ht).2
    have h2 : s.vm.findClass ("[" ++ (newarray.typeOf t).toString) = some (E.2.2.2.1 (n_kind t)) := by
      cases t <;> exact h1
    exact Option.some.inj (hNm.symm.trans h2)
  have hkn : hK (hnew h (n_kind t) n.toNatClampNeg) (hn h) = n_kind t := by simp [hK, hnew, va_up, hn]
  have hNn : hN (hnew h (n_kind t) n.toNatClampNeg) (hn h) = n.toNatClampNeg := by simp [hN, hnew, va_up, hn]
  have hi0 : hI (hnew h (n_kind t) n.toNatClampNeg) (hn h) = fun _ => 0 := by simp [hI, hnew, va_up, hn]
  have hj0 : hJ (hnew h (n_kind t) n.toNatClampNeg) (hn h) = fun _ => 0 := by simp [hJ, hnew, va_up, hn]
  refine ⟨fun _ => ?_, fun hk3 => by omega⟩
  rw [e1, hkn, hcA]
  unfold sk_arr
  rw [hkn, hNn, hi0, hj0]
  cases t <;> first | exact absurd rfl hok | rfl
theorem sm_newq (C : sk_Cx E m p s mm args meth cd) (I : sk_Rep E h H) {k idx : Nat} {n : Int32} (hok : ((decide (k = 106) && ok_w m (.classLink (sk_y m).cls idx "SkittleRow$Rule")) || (decide (k = 107) && ok_w m (.classLink (sk_y m).cls idx "SkittleRow$State")) || (decide (k = 108) && ok_w m (.classLink (sk_y m).cls idx "SkittleRow$Stroke"))) = true) (hn0 : ¬ n < 0 ∧ n.toNatClampNeg ≤ 60000) (hS : va_S (sk_A0 E) s.heap H locs) (hc : cells + 1 ≤ Rm.cells) (hs : slots + n.toNatClampNeg ≤ Rm.slots) (hd : decode (sk_b m) pc = .ok (.anewarray idx, 3))
    (kk : ∀ H1, sk_Rep E (hnew h k n.toNatClampNeg) H1 → va_S (sk_A0 E) s.heap H1 locs → W p l e Rm s mm args below meth cd H1 locs (cells + 1) (slots + n.toNatClampNeg) Q (F0 mm (pc + 3) als (.ref (sk_ad E (hn h)) :: rest))) : W p l e Rm s mm args below meth cd H locs cells slots Q (F0 mm pc als (.int n :: rest)) := by
  obtain ⟨hx, hb, -, hown, hts, hnm, hKs, hX, hz, hEP⟩ := C
  have key : ∃ (Cn : String) (i0 : Nat), (Cond.classLink (sk_y m).cls idx Cn) ∈ sk_wds ∧ va_AO Cn s ∧ (sk_tys E)[i0]? = some (E.2.2.2.1 k, .object Cn) ∧ 106 ≤ k ∧ k ≤ 108 := by
    simp only [Bool.or_eq_true, Bool.and_eq_true, decide_eq_true_eq] at hok
    rcases hok with (⟨rfl, hw⟩ | ⟨rfl, hw⟩) | ⟨rfl, hw⟩
    · exact ⟨_, 5, ok_w_mem hw, hX.2.2.2.2.2.2.2.2.2.2.2.1, rfl, by decide, by decide⟩
    · exact ⟨_, 6, ok_w_mem hw, hX.2.2.2.2.2.2.2.2.2.2.2.2.1, rfl, by decide, by decide⟩
    · exact ⟨_, 7, ok_w_mem hw, hX.2.2.2.2.2.2.2.2.2.2.2.2.2.1, rfl, by decide, by decide⟩
  obtain ⟨Cn, i0, w1, w2, ht, k1, k2⟩ := key
  have hsz : H.size = sk_ad E (hn h) := by rw [sk_ad_own I.1, I.2.1]
  refine W.anew hx hb hown (hts _ w1) (va_AO.use w2) rfl hd rfl hn0.1 (by omega) hc hs fun cA kA comp f1 f2 f3 f4 => ?_
  rw [hsz]
  have hcA : cA = E.2.2.2.1 k := by
    obtain ⟨_, _, _, _, _, h4⟩ := (hKs.2 i0 _ ht).2
    exact Option.some.inj (f1.symm.trans h4)
  have z1 : (H.push ({ cls := cA, slots := Array.replicate n.toNatClampNeg .null, vm := .none } : Cell)).size = H.size + 1 := Array.size_push _
  have o1 : ∀ q : Nat, q < H.size → (H.push ({ cls := cA, slots := Array.replicate n.toNatClampNeg .null, vm := .none } : Cell))[q]? = H[q]? := fun q hq => by rw [Array.getElem?_push, if_neg (Nat.ne_of_lt hq)]
  refine kk _ (I.push (Or.inr ⟨by omega, by omega⟩) z1 o1 ?_) ⟨Nat.le_trans hS.1 (by omega), fun x h1 h2 => (o1 x (by have := hS.1; omega)).trans (hS.2.1 x h1 h2), hS.2.2⟩
  have hkn : hK (hnew h k n.toNatClampNeg) (hn h) = k := by simp [hK, hnew, va_up, hn]
  have hNn : hN (hnew h k n.toNatClampNeg) (hn h) = n.toNatClampNeg := by simp [hN, hnew, va_up, hn]
  have hr0 : hR (hnew h k n.toNatClampNeg) (hn h) = fun _ => none := by simp [hR, hnew, va_up, hn]
  refine ⟨fun _ => ?_, fun hk3 => by omega⟩
  unfold sk_arr
  rw [hkn, hNn, hr0, if_neg (by omega), if_pos k1, vp_cell_q, ← hsz, Array.getElem?_push_size, arrV_new, hcA]
  rfl
end SkMake
end
section
/-! ===== contracts and calls ===== -/
def sk_wd (m : Nat) : List Cond := Cond.code (sk_y m) (sk_b m) (sk_ml m) (sk_rt m) :: sk_wds
def sk_rm (d m mc ms : Nat) : Room := { frames := sk_rk m + 32 * d, cells := mc, slots := ms, locals := 48 * (sk_rk m + 32 * d) }
def sk_Pc (E : sk_En) (as : List sk_V) (h : sk_H) : Array Value → State → Prop := va_Pc (as.map (sv E)) (fun U => sk_Rep E h U.heap ∧ va_K E.2.2.1 vwCl (sk_tys E) U ∧ sk_XF E U U.heap ∧ E.1 ≤ U.heap.size ∧ sk_EP E)
def sk_Q (E : sk_En) (R : sk_H × Option sk_V) : Array Value → State → Outcome → State → Prop := fun _ st o t => o = .returned (R.2.map (sv E)) ∧ sk_Rep E R.1 t.heap ∧ va_F (sk_A0 E) st t
def sk_Mt (l : Launch) (E : sk_En) (d m : Nat) (as : List sk_V) (h : sk_H) (R : sk_H × Option sk_V) : Prop :=
  Met l (sk_y m) (sk_wd m) (sk_rm d m (hn R.1 - hn h) (hs R.1 - hs h)) (sk_Pc E as h) (sk_Q E R) (hn R.1 - hn h) (hs R.1 - hs h) (sk_A0 E)
theorem sk_Pc.blind (E : sk_En) (as : List sk_V) (h : sk_H) : FrameBlind (sk_Pc E as h) := by
  intro a U g mk q
  obtain ⟨q0, q1, q2, q3, q4, q5⟩ := q
  exact ⟨q0, q1, va_K.moved (u := U) (U := U.calling g mk a) (Vm.Alike.refl U.vm) q2, sk_XF.blind (U := U) rfl q3, q4, q5⟩
theorem sk_take_spec : ∀ (n : Nat) (acc st as r : List sk_V), sk_take n acc st = some (as, r) → ∃ t, t.length = n ∧ st = t ++ r ∧ as = t.reverse ++ acc
  | 0, acc, st, as, r, h => by
    simp [sk_take] at h
    exact ⟨[], rfl, h.2, h.1.symm⟩
  | n + 1, acc, [], as, r, h => by simp [sk_take] at h
  | n + 1, acc, v :: st, as, r, h => by
    obtain ⟨t, h1, h2, h3⟩ := sk_take_spec n (v :: acc) st as r h
    exact ⟨v :: t, by simp [h1], by simp [h2], by simp [h3]⟩
theorem sk_cat_sum (E : sk_En) : ∀ st : List sk_V, ((st.map (sv E)).map fun v => v.category).sum = sk_cat st
  | [] => rfl
  | v :: r => by
    simp only [List.map_cons, List.sum_cons, sk_cat_sum E r, sk_cat]
    rw [sv_cat]
    cases v_one v <;> rfl
section SkCall
variable {p : Program} {l : Launch} {e : Env} {Rm : Room} {s : State} {mm : MethodId} {args : Array Value} {below : List Frame} {meth : Method} {cd : Code} {Q : State → Prop} {E : sk_En} {m n0 s0 : Nat}
variable {ls : sk_Ls} {h : sk_H} {H : Heap} {locs : List Loc} {cells slots : Nat} {als : Array Slot} {pc : Nat} {rest : List Value}
theorem sm_ret {T : State} (hT : T.heap = H) (hS : va_S (sk_A0 E) s.heap H locs) {R' : sk_H × Option sk_V} {mc ms : Nat} {a : Array Value} {v : Option Value} {vm₁ : Vm} {B : Pt}
    (X' : Stand p l e Rm s mm args below meth cd B.U B.locs B.cells B.slots) (hp : PostOf (sk_Q E R') mc ms (sk_A0 E) ⟨T.setVm vm₁, locs, cells, slots⟩ a v B)
    {st0 : List Value} (st : ∀ target, Steps p.tables e below (B.U.setTop (F0 mm (pc + 3) als (v.toList ++ rest))) target → Steps p.tables e below (T.setTop (F0 mm pc als st0)) target)
    (kk : ∀ H1 locs1, sk_Rep E R'.1 H1 → va_S (sk_A0 E) s.heap H1 locs1 → W p l e Rm s mm args below meth cd H1 locs1 (cells + mc) (slots + ms) Q (F0 mm (pc + 3) als (R'.2.toList.map (sv E) ++ rest))) : ∃ t, Steps p.tables e below (T.setTop (F0 mm pc als st0)) t ∧ Q t := by
  obtain ⟨U', l2, c2, s2⟩ := B
  obtain ⟨g', mk, t, L, e1, e2, ⟨hv, hR, hz, hk⟩, h1, hL, h2, h3⟩ := hp
  dsimp only [Pt.U, Pt.locs, Pt.cells, Pt.slots] at X' e1 e2 h1 h2 h3 st
  subst h1; subst h2; subst h3
  have hv' : v = R'.2.map (sv E) := Outcome.returned.inj hv
  have hH : ((T.setVm vm₁).calling g' mk a).heap = H := hT
  rw [hH] at hz hk
  have hS' : va_S (sk_A0 E) s.heap U'.heap (locs ++ L) := by
    refine ⟨Nat.le_trans hS.1 (by rw [e1]; exact hz), fun q h1 h2 => ?_, fun q hq => ?_⟩
    · rw [e1, hk q (Nat.lt_of_lt_of_le h1 hS.1) h2]; exact hS.2.1 q h1 h2
    · rcases List.mem_append.mp hq with h | h
      · exact hS.2.2 q h
      · exact hL q h
  obtain ⟨t2, a1, b1⟩ := kk U'.heap (locs ++ L) (by rw [e1]; exact hR) hS' U' rfl X'
  refine ⟨t2, st t2 ?_, b1⟩
  have : v.toList = R'.2.toList.map (sv E) := by rw [hv']; cases R'.2 <;> rfl
  rw [this]
  exact a1
/-- the callee's start -/
theorem sm_pre (C : sk_Cx E m p s mm args meth cd) (I : sk_Rep E h H) (hS : va_S (sk_A0 E) s.heap H locs) (as : List sk_V) {T : State} (hT : T.heap = H) {vm₁ : Vm} (hW : s.WarmedH vm₁) : sk_Pc E as h (as.map (sv E)).toArray (T.setVm vm₁) := by
  obtain ⟨hx, hb, hml, hown, hts, hnm, hKs, hX, hz, hEP⟩ := C
  have hh : (T.setVm vm₁).heap = H := hT
  refine ⟨rfl, by rw [hh]; exact I, va_K.moved hW.alike hKs, ?_, by rw [hh]; exact Nat.le_trans hz hS.1, hEP⟩
  rw [hh]
  exact sk_XF.moved (U := T.setVm vm₁) hW hS.2.1 hz hX
theorem sk_mok_spec {cm : Nat} (h : sk_mok cm = true) : (∀ w ∈ sk_mw cm, w ∈ sk_wds) ∧ ((sk_y cm).cls ≠ "java/lang/invoke/MethodHandle" ∧ (sk_y cm).cls ≠ "java/lang/invoke/VarHandle") ∧ plainName (sk_y cm).cls = true ∧ (parseMethodDescriptor (sk_y cm).desc).map (fun d => d.parameters.length) = some (sk_pn cm) ∧ (sk_mk cm = 2 → (sk_y cm).name = "<init>") := by
  unfold sk_mok at h
  simp only [Bool.and_eq_true, decide_eq_true_eq] at h
  obtain ⟨⟨⟨⟨h1, h2⟩, h3⟩, h4⟩, h5⟩ := h
  exact ⟨sk_all2_mem _ _ h1, h2, h3, h4, h5⟩
theorem ok_call_spec {rec? : Nat → Bool} {idx cm n rk ml : Nat} (hMk : ∀ cm, cm < 253 → sk_mok cm = true) (h : ok_call rec? m idx cm n rk ml = true) : cm < 253 ∧ Cond.methodLink (sk_y m).cls idx (sk_y cm) ∈ sk_wds ∧ Cond.initialized (sk_y cm).cls ∈ sk_wds ∧ Cond.code (sk_y cm) (sk_b cm) (sk_ml cm) (sk_rt cm) ∈ sk_wds ∧ ((sk_y cm).cls ≠ "java/lang/invoke/MethodHandle" ∧ (sk_y cm).cls ≠ "java/lang/invoke/VarHandle") ∧ plainName (sk_y cm).cls = true ∧ (parseMethodDescriptor (sk_y cm).desc).map (fun d => d.parameters.length) = some n ∧ (ml = sk_ml cm ∧ 27 + ml ≤ 48) ∧ ok_rec rec? m cm = true ∧ ok_rk (sk_rt cm) rk = true := by
  unfold ok_call at h
  simp only [Bool.and_eq_true, decide_eq_true_eq] at h
  obtain ⟨⟨⟨⟨⟨h1, h2⟩, h7⟩, h8⟩, h9⟩, h10⟩ := h
  obtain ⟨g1, g2, g3, g4, g5⟩ := sk_mok_spec (hMk cm h1)
  exact ⟨h1, ok_w_mem h2, g1 _ (List.mem_cons_of_mem _ List.mem_cons_self), g1 _ List.mem_cons_self, g2, g3, by rw [g4, h7], h8, h9, h10⟩
theorem sk_back (C : sk_Cx E m p s mm args meth cd) {cm d' mc ms : Nat} {as : List sk_V} {R' : sk_H × Option sk_V} (hM : Met l (sk_y cm) (sk_wd cm) (sk_rm d' cm mc ms) (sk_Pc E as h) (sk_Q E R') mc ms (sk_A0 E)) (hc : Cond.code (sk_y cm) (sk_b cm) (sk_ml cm) (sk_rt cm) ∈ sk_wds) (hi : Cond.initialized (sk_y cm).cls ∈ sk_wds) (hfr : sk_rk cm + 32 * d' + 1 ≤ Rm.frames) (hlo : 16 + (sk_ml cm + 11) + 48 * (sk_rk cm + 32 * d') ≤ Rm.locals) :
    Back l Rm p e below s args (sk_y cm) 3 16 (PreOf Rm mc ms (sk_Pc E as h)) (PostOf (sk_Q E R') mc ms (sk_A0 E)) := by
  obtain ⟨hx, hb, hml, hown, hts, hnm, hKs, hX, hz, hEP⟩ := C
  have hg : ∀ w ∈ sk_wds, ∀ (a' : Array Value) (U : State), s.WarmedH U.vm → w.before a' U = true := fun w hw a' U hW => word_at hW (good_of_word (List.mem_filter.mp hw).2) (hts w hw)
  refine back_of (bytes := sk_b cm) (maxL := sk_ml cm) (ret := sk_rt cm) hM (sk_Pc.blind E as h) rfl rfl hfr hlo (fun w hw a' U hW => ?_) List.mem_cons_self (fun a' U hW => hg _ hi a' U hW)
  rcases List.mem_cons.mp hw with rfl | hw
  · exact hg _ hc a' U hW
  · exact hg w hw a' U hW
theorem sm_parm {y : MethodName} {n : Nat} (h : (parseMethodDescriptor y.desc).map (fun d => d.parameters.length) = some n) : ∀ sig, parseMethodDescriptor y.desc = some sig → n = sig.parameters.length := by
  intro sig hs
  rw [hs] at h
  exact (Option.some.inj h).symm
theorem sm_callS (C : sk_Cx E m p s mm args meth cd) (I : sk_Rep E h H) (hS : va_S (sk_A0 E) s.heap H locs) (hL : als.size = sk_ml m) {rec? : Nat → Bool} {idx cm n rk ml d' : Nat} {as r : List sk_V} {R' : sk_H × Option sk_V} (hMk : ∀ cm, cm < 253 → sk_mok cm = true) (hok : ok_call rec? m idx cm n rk ml = true) (hst : Cond.static (sk_y cm) ∈ sk_wds) (hM : sk_Mt l E d' cm as h R') (hln : as.length = n) (hr : sk_cat r ≤ 16)
    (hfr : sk_rk cm + 32 * d' + 1 ≤ Rm.frames) (hlo : 16 + (sk_ml cm + 11) + 48 * (sk_rk cm + 32 * d') ≤ Rm.locals) (hc : cells + (hn R'.1 - hn h) ≤ Rm.cells) (hs' : slots + (hs R'.1 - hs h) ≤ Rm.slots) (hd : decode (sk_b m) pc = .ok (.invokestatic idx, 3))
    (kk : ∀ H1 locs1, sk_Rep E R'.1 H1 → va_S (sk_A0 E) s.heap H1 locs1 → W p l e Rm s mm args below meth cd H1 locs1 (cells + (hn R'.1 - hn h)) (slots + (hs R'.1 - hs h)) Q (F0 mm (pc + 3) als (R'.2.toList.map (sv E) ++ r.map (sv E)))) : W p l e Rm s mm args below meth cd H locs cells slots Q (F0 mm pc als ((as.map (sv E)).reverse ++ r.map (sv E))) := by
  obtain ⟨h1, h2, h3, h4, h5, h6, h7, h8, h9, h10⟩ := ok_call_spec hMk hok
  have hB := sk_back (p := p) (e := e) (below := below) C hM h4 h3 hfr hlo
  intro T hT X
  obtain ⟨hx, hb, hml, hown, hts, -⟩ := id C
  obtain ⟨v, vm₁, B, hW₁, X', hp, st⟩ := callS X hx (bytes := sk_b cm) (maxL := sk_ml cm) (ret := sk_rt cm) hown (hts _ h2) (hts _ hst) (hts _ h3) (hts _ h4) h5 hB (g := F0 mm pc als ((as.map (sv E)).reverse ++ r.map (sv E))) rfl (hL.trans hml.symm) (argsL := as.map (sv E)) (rest := r.map (sv E)) (fun sig hs => by rw [List.length_map, hln]; exact sm_parm h7 sig hs) rfl (by
      have : (F0 mm pc als ((as.map (sv E)).reverse ++ r.map (sv E))).monitorRoom = 0 := rfl
      rw [this, sk_cat_sum]; omega) (by rw [hb]; exact hd) (fun vm₁ hW₁ => ⟨hc, hs', sm_pre C I hS as hT hW₁⟩)
  exact sm_ret hT hS X' hp st kk
end SkCall
end
section
/-! ===== the other calls ===== -/
section SkCall2
variable {p : Program} {l : Launch} {e : Env} {Rm : Room} {s : State} {mm : MethodId} {args : Array Value} {below : List Frame} {meth : Method} {cd : Code} {Q : State → Prop} {E : sk_En} {m n0 s0 : Nat}
variable {ls : sk_Ls} {h : sk_H} {H : Heap} {locs : List Loc} {cells slots : Nat} {als : Array Slot} {pc : Nat} {rest : List Value}
theorem sm_callI (C : sk_Cx E m p s mm args meth cd) (I : sk_Rep E h H) (hS : va_S (sk_A0 E) s.heap H locs) (hL : als.size = sk_ml m) {rec? : Nat → Bool} {idx cm n rk ml d' a : Nat} {as r : List sk_V} {R' : sk_H × Option sk_V} (hMk : ∀ cm, cm < 253 → sk_mok cm = true) (hok : ok_call rec? m idx cm n rk ml = true) (hnm : (sk_y cm).name = "<init>" ∧ sk_rt cm = none) (hin : Cond.instanceMethod (sk_y cm) ∈ sk_wds) (hM : sk_Mt l E d' cm (.inr (.inr (some a)) :: as) h R') (hln : as.length = n) (hr : sk_cat r ≤ 16)
    (hfr : sk_rk cm + 32 * d' + 1 ≤ Rm.frames) (hlo : 16 + (sk_ml cm + 11) + 48 * (sk_rk cm + 32 * d') ≤ Rm.locals) (hc : cells + (hn R'.1 - hn h) ≤ Rm.cells) (hs' : slots + (hs R'.1 - hs h) ≤ Rm.slots) (hd : decode (sk_b m) pc = .ok (.invokespecial idx, 3))
    (kk : ∀ H1 locs1, sk_Rep E R'.1 H1 → va_S (sk_A0 E) s.heap H1 locs1 → W p l e Rm s mm args below meth cd H1 locs1 (cells + (hn R'.1 - hn h)) (slots + (hs R'.1 - hs h)) Q (F0 mm (pc + 3) als (R'.2.toList.map (sv E) ++ r.map (sv E)))) : W p l e Rm s mm args below meth cd H locs cells slots Q (F0 mm pc als ((as.map (sv E)).reverse ++ .ref (sk_ad E a) :: r.map (sv E))) := by
  obtain ⟨h1, h2, h3, h4, h5, h6, h7, h8, h9, h10⟩ := ok_call_spec hMk hok
  have hB := sk_back (p := p) (e := e) (below := below) C hM h4 h3 hfr hlo
  intro T hT X
  obtain ⟨hx, hb, hml, hown, hts, -⟩ := id C
  have h4' : (Cond.code (sk_y cm) (sk_b cm) (sk_ml cm) none).before args s = true := by
    have := hts _ h4
    rw [hnm.2] at this
    exact this
  obtain ⟨v, vm₁, B, hW₁, X', hp, st⟩ := callI X hx (bytes := sk_b cm) (maxL := sk_ml cm) hown hnm.1 (hts _ h2) (hts _ hin) h4' h5 hB (g := F0 mm pc als ((as.map (sv E)).reverse ++ .ref (sk_ad E a) :: r.map (sv E))) rfl (hL.trans hml.symm) (a := sk_ad E a) (argsL := as.map (sv E)) (rest := r.map (sv E)) (fun sig hs => by rw [List.length_map, hln]; exact sm_parm h7 sig hs) rfl (by
      have : (F0 mm pc als ((as.map (sv E)).reverse ++ .ref (sk_ad E a) :: r.map (sv E))).monitorRoom = 0 := rfl
      rw [this, sk_cat_sum]; omega) (by rw [hb]; exact hd) (fun vm₁ hW₁ => ⟨hc, hs', sm_pre C I hS (.inr (.inr (some a)) :: as) hT hW₁⟩)
  exact sm_ret hT hS X' hp st kk
theorem sm_callV (C : sk_Cx E m p s mm args meth cd) (I : sk_Rep E h H) (hS : va_S (sk_A0 E) s.heap H locs) (hL : als.size = sk_ml m) {rec? : Nat → Bool} {idx cm n rk ml d' a k : Nat} {as r : List sk_V} {R' : sk_H × Option sk_V} (hMk : ∀ cm, cm < 253 → sk_mok cm = true) (hok : ok_call rec? m idx cm n rk ml = true) (hin : Cond.instanceMethod (sk_y cm) ∈ sk_wds) (hse : Cond.selects (sk_y cm).cls (sk_y cm) (sk_y cm) ∈ sk_wds)
    (hk : hK h a = k) (hkk : ok_rv cm k = true) (hM : sk_Mt l E d' cm (.inr (.inr (some a)) :: as) h R') (hln : as.length = n) (hr : sk_cat r ≤ 16)
    (hfr : sk_rk cm + 32 * d' + 1 ≤ Rm.frames) (hlo : 16 + (sk_ml cm + 11) + 48 * (sk_rk cm + 32 * d') ≤ Rm.locals) (hc : cells + (hn R'.1 - hn h) ≤ Rm.cells) (hs' : slots + (hs R'.1 - hs h) ≤ Rm.slots) (hd : decode (sk_b m) pc = .ok (.invokevirtual idx, 3))
    (kk : ∀ H1 locs1, sk_Rep E R'.1 H1 → va_S (sk_A0 E) s.heap H1 locs1 → W p l e Rm s mm args below meth cd H1 locs1 (cells + (hn R'.1 - hn h)) (slots + (hs R'.1 - hs h)) Q (F0 mm (pc + 3) als (R'.2.toList.map (sv E) ++ r.map (sv E)))) : W p l e Rm s mm args below meth cd H locs cells slots Q (F0 mm pc als ((as.map (sv E)).reverse ++ .ref (sk_ad E a) :: r.map (sv E))) := by
  obtain ⟨h1, h2, h3, h4, h5, h6, h7, h8, h9, h10⟩ := ok_call_spec hMk hok
  have hB := sk_back (p := p) (e := e) (below := below) C hM h4 h3 hfr hlo
  obtain ⟨hx, hb, hml, hown, hts, hnm, hKs, hX, hz, hEP⟩ := id C
  have hrv : ∃ cell : Cell, H[sk_ad E a]? = some cell ∧ cell.vm.isStatics = false ∧ s.vm.findClass (sk_y cm).cls = some cell.cls := by
    by_cases h51 : k = 51
    · subst h51
      have hkk : (sk_y cm).cls = "java/lang/String" := of_decide_eq_true hkk
      obtain ⟨q1, q2⟩ := I.ext (a := a) (by unfold sk_kd; omega) (by omega)
      obtain ⟨j, hj, rfl⟩ := sk_ek_of.2.2.2 (q2.symm.trans hk)
      rw [sk_ad_ext q1, hkk]
      exact vk_recv (i := j) (adK := fun i => E.2.1 (2 + i)) hX.2.2.1 hj hS
    · unfold ok_rv at hkk
      split at hkk
      · exact absurd rfl h51
      · split at hkk
        · rename_i hcl
          simp only [decide_eq_true_eq] at hkk
          obtain ⟨k1, k2, rfl⟩ := hkk
          obtain ⟨r', hr', cell, q1, q2, q3, -⟩ := I.obj (a := a) (by omega)
          rw [hk] at hr' q2
          cases hr'.symm.trans hcl
          exact ⟨cell, q1, by rw [q3]; rfl, by rw [q2]; exact (hKs.1 _ _ hcl).2.1⟩
        · cases hkk
  obtain ⟨cellB, hcB, hoB, hclB⟩ := hrv
  intro T hT X
  obtain ⟨v, vm₁, B, hW₁, X', hp, st⟩ := callV X hx (C := (sk_y cm).cls) (bytes := sk_b cm) (maxL := sk_ml cm) (ret := sk_rt cm) hown (hts _ h2) (hts _ hin) (hts _ hse) (hts _ h4) h5 hB (by rw [hT]; exact hcB) hoB hclB (g := F0 mm pc als ((as.map (sv E)).reverse ++ .ref (sk_ad E a) :: r.map (sv E))) rfl (hL.trans hml.symm) (argsL := as.map (sv E)) (rest := r.map (sv E)) (fun sig hs => by rw [List.length_map, hln]; exact sm_parm h7 sig hs) rfl (by
      have : (F0 mm pc als ((as.map (sv E)).reverse ++ .ref (sk_ad E a) :: r.map (sv E))).monitorRoom = 0 := rfl
      rw [this, sk_cat_sum]; omega) (by rw [hb]; exact hd) (fun vm₁ hW₁ => ⟨hc, hs', sm_pre C I hS (.inr (.inr (some a)) :: as) hT hW₁⟩)
  exact sm_ret hT hS X' hp st kk
end SkCall2
end
section
/-! ===== one step of the machine for one step of the evaluator ===== -/
def sk_G (E : sk_En) (m n0 s0 : Nat) (p : Program) (l : Launch) (e : Env) (Rm : Room) (s : State) (mm : MethodId) (args : Array Value) (below : List Frame) (meth : Method) (cd : Code) (Q : State → Prop) (c : sk_C) : Prop :=
  ∀ H locs cells slots als, sk_Iv E m n0 s0 s c.2.1 c.2.2.2 H locs cells slots als → W p l e Rm s mm args below meth cd H locs cells slots Q (F0 mm c.1 als (c.2.2.1.map (sv E)))
def sk_Re (m pc : Nat) (v : Option sk_V) : Prop :=
  (∃ x, v = some (.inl x) ∧ decode (sk_b m) pc = .ok (.ireturn, 1) ∧ ((sk_rt m = some .int) ∨ (sk_rt m = some .boolean ∧ (x = 0 ∨ x = 1)) ∨ (sk_rt m = some .byte ∧ x.toInt8.toInt32 = x) ∨ (sk_rt m = some .char ∧ x.toUInt32.toUInt16.toUInt32.toInt32 = x))) ∨
  (∃ x, v = some (.inr (.inl x)) ∧ decode (sk_b m) pc = .ok (.lreturn, 1) ∧ sk_rt m = some .long) ∨
  (∃ r, v = some (.inr (.inr r)) ∧ decode (sk_b m) pc = .ok (.areturn, 1) ∧ ((∃ n, sk_rt m = some (.object n)) ∨ ∃ t, sk_rt m = some (.array t))) ∨
  (v = none ∧ decode (sk_b m) pc = .ok (.return_, 1) ∧ sk_rt m = none)
/-- what the end of the method asks -/
def sk_Rt (E : sk_En) (m n0 s0 : Nat) (p : Program) (l : Launch) (e : Env) (Rm : Room) (s : State) (mm : MethodId) (args : Array Value) (below : List Frame) (meth : Method) (cd : Code) (Q : State → Prop) (R : sk_H × Option sk_V) : Prop :=
  ∀ pc H locs cells slots als, sk_Rep E R.1 H → va_S (sk_A0 E) s.heap H locs → hn R.1 = n0 + cells → hs R.1 = s0 + slots → sk_Re m pc R.2 → W p l e Rm s mm args below meth cd H locs cells slots Q (F0 mm pc als (R.2.toList.map (sv E)))
def ok_plain (i : Instr) : Bool := match i with
  | .tableswitch _ _ _ _ => false
  | .lookupswitch _ _ => false
  | _ => true
theorem ok_sp {rec? : Nat → Bool} {m pc : Nat} {i : Instr} {nx e1 e2 e3 e4 e5 : Nat} {ev : sk_V} {ec : List (Int32 × Nat)} {cut : Option (List Bool)} (h : sk_ok rec? m pc (i, (nx, e1, e2, e3, e4, e5), ev, ec, cut) = true) (hp : ok_plain i = true) : decode (sk_b m) pc = .ok (i, ok_len i) ∧ nx = pc + ok_len i ∧ ok_x rec? m pc e1 e2 e3 e4 e5 ev ec i = true := by
  have h : (ok_dec m pc nx i && ok_x rec? m pc e1 e2 e3 e4 e5 ev ec i) = true := h
  rw [Bool.and_eq_true] at h
  obtain ⟨h1, h2⟩ := h
  refine ⟨?_, ?_, h2⟩ <;> (unfold ok_dec at h1; split at h1 <;> first | cases hp | (simp only [Bool.and_eq_true, decide_eq_true_eq] at h1; first | exact h1.1 | exact h1.2))
theorem sk_rcv_take {st as r : List sk_V} {n a : Nat} (ht : sk_take (n + 1) [] st = some (as, r)) (ha : sk_rcv as = some a) : ∃ bs, as = .inr (.inr (some a)) :: bs ∧ bs.length = n ∧ st = bs.reverse ++ .inr (.inr (some a)) :: r := by
  obtain ⟨t, h1, h2, h3⟩ := sk_take_spec _ _ _ _ _ ht
  rw [List.append_nil] at h3
  match as, ha with
  | .inr (.inr x) :: bs, ha =>
    have ha : x = some a := ha
    subst ha
    refine ⟨bs, rfl, ?_, ?_⟩
    · have := congrArg List.length h3
      simp at this
      omega
    · have h4 : t = (Sum.inr (Sum.inr (some a)) :: bs : List sk_V).reverse := by rw [h3, List.reverse_reverse]
      rw [h2, h4]
      simp
theorem sk_obj1 : Cond.instanceMethod Lib.objectInit ∈ sk_wds := by decide +kernel
theorem sk_obj2 : Cond.code Lib.objectInit ⟨#[0xb1]⟩ 1 none ∈ sk_wds := by decide +kernel
theorem sk_mx0 : Cond.initialized "java/lang/Math" ∈ sk_wds := by decide +kernel
theorem sk_mx1 : Cond.static Lib.Math.max.name ∈ sk_wds := by decide +kernel
theorem sk_mx2 : Cond.code Lib.Math.max.name Lib.Math.max.code 2 (some .int) ∈ sk_wds := by decide +kernel
theorem sk_mn1 : Cond.static Lib.Math.min.name ∈ sk_wds := by decide +kernel
theorem sk_mn2 : Cond.code Lib.Math.min.name Lib.Math.min.code 2 (some .int) ∈ sk_wds := by decide +kernel
section SkSim
variable {p : Program} {l : Launch} {e : Env} {Rm : Room} {s : State} {mm : MethodId} {args : Array Value} {below : List Frame} {meth : Method} {cd : Code} {Q : State → Prop} {E : sk_En} {m n0 s0 : Nat}
variable {fc : Nat → sk_Ls → sk_H → sk_R} {f : sk_C → sk_R} {nx : Nat} {ls : sk_Ls} {h : sk_H} {R : sk_H × Option sk_V} {st : List sk_V} {rec? : Nat → Bool} {d pc : Nat}
theorem sk_room {cm m d d' ml : Nat} {Rm : Room} (hR : sk_rk m + 32 * d ≤ Rm.frames ∧ 48 * (sk_rk m + 32 * d) ≤ Rm.locals) (h1 : ok_rec rec? m cm = true) (h2 : (rec? cm = false ∧ d' = d) ∨ (rec? cm = true ∧ d = d' + 1)) (h3 : 27 + ml ≤ 48) : sk_rk cm + 32 * d' + 1 ≤ Rm.frames ∧ 16 + (ml + 11) + 48 * (sk_rk cm + 32 * d') ≤ Rm.locals := by
  unfold ok_rec at h1
  rcases h2 with ⟨h2, rfl⟩ | ⟨h2, rfl⟩
  · rw [h2] at h1
    simp only [decide_eq_true_eq] at h1
    omega
  · rw [h2] at h1
    simp only [decide_eq_true_eq] at h1
    omega
theorem v_swl {x : Int32} {c : sk_Ls × List sk_V × sk_H} {t0 : Nat} {df : Int} (ht : (pc : Int) + df = t0) : ∀ (cs : List (Int32 × Nat)), sk_sw x (fun t => f (t, c)) t0 cs = some R → ∃ t : Nat, Op.lookupswitch.offset (cs.map (fun c => (c.1.toInt, (c.2 : Int) - pc))) df x.toInt = (t : Int) - pc ∧ f (t, c) = some R
  | [], hr => ⟨t0, by simp only [List.map_nil, Op.lookupswitch.offset]; omega, hr⟩
  | q :: r, hr => by
    unfold sk_sw at hr
    by_cases hx : x = q.1
    · rw [if_pos hx] at hr
      refine ⟨q.2, ?_, hr⟩
      simp [Op.lookupswitch.offset, hx]
    · rw [if_neg hx] at hr
      obtain ⟨t, h1, h2⟩ := v_swl ht r hr
      refine ⟨t, ?_, h2⟩
      rw [List.map_cons, lv_osw hx rfl]
      exact h1
set_option maxHeartbeats 8000000 in
theorem sk_sim1 {i : Instr} {e1 e2 e3 e4 e5 : Nat} {ev : sk_V} {ec : List (Int32 × Nat)} {cut : Option (List Bool)} (hMk : ∀ cm, cm < 253 → sk_mok cm = true) (C : sk_Cx E m p s mm args meth cd) (hok : sk_ok rec? m pc (i, (nx, e1, e2, e3, e4, e5), ev, ec, cut) = true)
    (hRm : (sk_rk m + 32 * d ≤ Rm.frames ∧ 48 * (sk_rk m + 32 * d) ≤ Rm.locals) ∧ hn R.1 ≤ n0 + Rm.cells ∧ hs R.1 ≤ s0 + Rm.slots)
    (IH : ∀ c, f c = some R → sk_G E m n0 s0 p l e Rm s mm args below meth cd Q c) (IM : ∀ c, f c = some R → sk_le c.2.2.2 R.1)
    (IC : ∀ cm as h R', cm < 253 → sk_cat as ≤ sk_ml cm → fc cm (sk_ent (sk_ml cm) as) h = some R' → ∃ d', ((rec? cm = false ∧ d' = d) ∨ (rec? cm = true ∧ d = d' + 1)) ∧ sk_Mt l E d' cm as h R' ∧ sk_le h R'.1)
    (HR : sk_Rt E m n0 s0 p l e Rm s mm args below meth cd Q R)
    (hr : sk_fin t_O fc f nx ls h (sk_ac0 i nx e1 e2 e3 e4 e5 ev ec ls st h) = some R) : sk_G E m n0 s0 p l e Rm s mm args below meth cd Q (pc, ls, st, h) := by
  obtain ⟨hx, hb, hml, hown, hts, hnm, hKs, hX, hz, hEP⟩ := id C
  cases i
  all_goals first
    | exact (v_no hr).elim
    | skip
  case aconst_null => obtain ⟨hd, rfl, -⟩ := ok_sp hok rfl; exact fun H locs cells slots als I => lv_null hx hb hd (IH _ (v_go hr) H locs cells slots als I)
  case iconst n => obtain ⟨hd, rfl, -⟩ := ok_sp hok rfl; exact fun H locs cells slots als I => lv_iconst hx hb hd rfl (IH _ (v_go hr) H locs cells slots als I)
  case bipush n => obtain ⟨hd, rfl, -⟩ := ok_sp hok rfl; exact fun H locs cells slots als I => lv_bipush hx hb hd rfl (IH _ (v_go hr) H locs cells slots als I)
  case sipush n => obtain ⟨hd, rfl, -⟩ := ok_sp hok rfl; exact fun H locs cells slots als I => lv_sipush hx hb hd rfl (IH _ (v_go hr) H locs cells slots als I)
  case lconst n => obtain ⟨hd, rfl, -⟩ := ok_sp hok rfl; exact fun H locs cells slots als I => lv_lconst hx hb hd rfl (IH _ (v_go hr) H locs cells slots als I)
  case ldc k =>
    obtain ⟨hd, rfl, hx1⟩ := ok_sp hok rfl
    have h1 := v_go hr
    rcases ev with v | v | v
    · exact fun H locs cells slots als I => lv_ldc hx hb hown (hts _ (ok_w_mem hx1)) hd (IH _ h1 H locs cells slots als I)
    · cases hx1
    · cases v with
      | none => cases hx1
      | some a =>
        have hx1 : (decide (2 ≤ a) && (match sk_str[a - 2]? with
          | some q => decide (q.1 = (sk_y m).cls ∧ q.2.1 = k)
          | none => false)) = true := hx1
        rw [Bool.and_eq_true, decide_eq_true_eq] at hx1
        obtain ⟨ha, hx1⟩ := hx1
        cases hq : sk_str[a - 2]? with
        | none => rw [hq] at hx1; cases hx1
        | some q =>
          rw [hq] at hx1
          have hx1 := of_decide_eq_true hx1
          obtain ⟨q1, rfl⟩ := hx1
          have hlt : a - 2 < 7 := (List.getElem?_eq_some_iff.mp hq).1
          have hR := hX.2.2.2.1 _ _ hq
          rw [q1] at hR
          intro H locs cells slots als I
          refine va_ldcS hx hb hown hR hd ?_
          have := IH _ h1 H locs cells slots als I
          have e1 : sv E (.inr (.inr (some a))) = .ref (E.2.1 (2 + (a - 2))) := by
            show Value.ref (sk_ad E a) = _
            rw [sk_ad_ext (by omega), show 2 + (a - 2) = a by omega]
          show W p l e Rm s mm args below meth cd H locs cells slots Q (F0 mm (pc + 2) als (.ref (E.2.1 (2 + (a - 2))) :: st.map (sv E)))
          rw [← e1]
          exact this
  case ldc_w k =>
    obtain ⟨hd, rfl, hx1⟩ := ok_sp hok rfl
    have h1 := v_go hr
    rcases ev with v | v | v
    · exact fun H locs cells slots als I => lv_ldcw hx hb hown (hts _ (ok_w_mem hx1)) hd (IH _ h1 H locs cells slots als I)
    · cases hx1
    · cases hx1
  case ldc2_w k =>
    obtain ⟨hd, rfl, hx1⟩ := ok_sp hok rfl
    have h1 := v_go hr
    rcases ev with v | v | v
    · cases hx1
    · exact fun H locs cells slots als I => lv_ldc2 hx hb hown (hts _ (ok_w_mem hx1)) hd (IH _ h1 H locs cells slots als I)
    · cases hx1
  case iload_n k => obtain ⟨hd, rfl, -⟩ := ok_sp hok rfl; obtain ⟨x, h1, h2⟩ := vl_i hr; exact fun H locs cells slots als I => lv_iload_n hx hb hd rfl (I.2.2.2.2.at h1) (IH _ (v_go h2) H locs cells slots als I)
  case iload k => obtain ⟨hd, rfl, -⟩ := ok_sp hok rfl; obtain ⟨x, h1, h2⟩ := vl_i hr; exact fun H locs cells slots als I => lv_iload hx hb hd (I.2.2.2.2.at h1) (IH _ (v_go h2) H locs cells slots als I)
  case lload_n k => obtain ⟨hd, rfl, -⟩ := ok_sp hok rfl; obtain ⟨x, h1, h2⟩ := vl_l hr; exact fun H locs cells slots als I => lv_lload_n hx hb hd rfl (I.2.2.2.2.at h1) (IH _ (v_go h2) H locs cells slots als I)
  case lload k => obtain ⟨hd, rfl, -⟩ := ok_sp hok rfl; obtain ⟨x, h1, h2⟩ := vl_l hr; exact fun H locs cells slots als I => lv_lload hx hb hd (I.2.2.2.2.at h1) (IH _ (v_go h2) H locs cells slots als I)
  case aload_n k =>
    obtain ⟨hd, rfl, -⟩ := ok_sp hok rfl; obtain ⟨x, h1, h2⟩ := vl_r hr
    cases x with
    | none => exact fun H locs cells slots als I => lv_aload_nN hx hb hd rfl (I.2.2.2.2.at h1) (IH _ (v_go h2) H locs cells slots als I)
    | some a => exact fun H locs cells slots als I => lv_aload_n hx hb hd rfl (I.2.2.2.2.at h1) (IH _ (v_go h2) H locs cells slots als I)
  case aload k =>
    obtain ⟨hd, rfl, -⟩ := ok_sp hok rfl; obtain ⟨x, h1, h2⟩ := vl_r hr
    cases x with
    | none => exact fun H locs cells slots als I => lv_aloadN hx hb hd (I.2.2.2.2.at h1) (IH _ (v_go h2) H locs cells slots als I)
    | some a => exact fun H locs cells slots als I => lv_aload hx hb hd (I.2.2.2.2.at h1) (IH _ (v_go h2) H locs cells slots als I)
  case istore_n k => obtain ⟨hd, rfl, hx1⟩ := ok_sp hok rfl; obtain ⟨x, r, rfl, h2⟩ := v_i hr; rw [l_s1k_eq] at h2; exact fun H locs cells slots als I => lv_istore_n hx hb hd rfl I.2.2.2.2 (of_decide_eq_true hx1) rfl (fun als' hl => IH _ (v_go h2) H locs cells slots als' ⟨I.1, I.2.1, I.2.2.1, I.2.2.2.1, sk_has.s1 (v := .inl x) hl⟩)
  case istore k => obtain ⟨hd, rfl, hx1⟩ := ok_sp hok rfl; obtain ⟨x, r, rfl, h2⟩ := v_i hr; rw [l_s1k_eq] at h2; exact fun H locs cells slots als I => lv_istore hx hb hd I.2.2.2.2 (of_decide_eq_true hx1) rfl (fun als' hl => IH _ (v_go h2) H locs cells slots als' ⟨I.1, I.2.1, I.2.2.1, I.2.2.2.1, sk_has.s1 (v := .inl x) hl⟩)
  case lstore_n k => obtain ⟨hd, rfl, hx1⟩ := ok_sp hok rfl; obtain ⟨x, r, rfl, h2⟩ := v_l hr; rw [l_s2k_eq] at h2; exact fun H locs cells slots als I => lv_lstore_n hx hb hd rfl I.2.2.2.2 (of_decide_eq_true hx1) rfl (fun als' hl => IH _ (v_go h2) H locs cells slots als' ⟨I.1, I.2.1, I.2.2.1, I.2.2.2.1, sk_has.s2 (v := .inr (.inl x)) hl⟩)
  case lstore k => obtain ⟨hd, rfl, hx1⟩ := ok_sp hok rfl; obtain ⟨x, r, rfl, h2⟩ := v_l hr; rw [l_s2k_eq] at h2; exact fun H locs cells slots als I => lv_lstore hx hb hd I.2.2.2.2 (of_decide_eq_true hx1) rfl (fun als' hl => IH _ (v_go h2) H locs cells slots als' ⟨I.1, I.2.1, I.2.2.1, I.2.2.2.1, sk_has.s2 (v := .inr (.inl x)) hl⟩)
  case astore_n k =>
    obtain ⟨hd, rfl, hx1⟩ := ok_sp hok rfl; obtain ⟨x, r, rfl, h2⟩ := v_r hr; rw [l_s1k_eq] at h2
    cases x with
    | none => exact fun H locs cells slots als I => lv_astore_nN hx hb hd rfl I.2.2.2.2 (of_decide_eq_true hx1) rfl (fun als' hl => IH _ (v_go h2) H locs cells slots als' ⟨I.1, I.2.1, I.2.2.1, I.2.2.2.1, sk_has.s1 (v := .inr (.inr none)) hl⟩)
    | some a => exact fun H locs cells slots als I => lv_astore_n hx hb hd rfl I.2.2.2.2 (of_decide_eq_true hx1) rfl (fun als' hl => IH _ (v_go h2) H locs cells slots als' ⟨I.1, I.2.1, I.2.2.1, I.2.2.2.1, sk_has.s1 (v := .inr (.inr (some a))) hl⟩)
  case astore k =>
    obtain ⟨hd, rfl, hx1⟩ := ok_sp hok rfl; obtain ⟨x, r, rfl, h2⟩ := v_r hr; rw [l_s1k_eq] at h2
    cases x with
    | none => exact fun H locs cells slots als I => lv_astoreN hx hb hd I.2.2.2.2 (of_decide_eq_true hx1) rfl (fun als' hl => IH _ (v_go h2) H locs cells slots als' ⟨I.1, I.2.1, I.2.2.1, I.2.2.2.1, sk_has.s1 (v := .inr (.inr none)) hl⟩)
    | some a => exact fun H locs cells slots als I => lv_astore hx hb hd I.2.2.2.2 (of_decide_eq_true hx1) rfl (fun als' hl => IH _ (v_go h2) H locs cells slots als' ⟨I.1, I.2.1, I.2.2.1, I.2.2.2.1, sk_has.s1 (v := .inr (.inr (some a))) hl⟩)
  case iinc k n =>
    obtain ⟨hd, rfl, hx1⟩ := ok_sp hok rfl; obtain ⟨x, h1, h2⟩ := vl_i hr; rw [l_s1k_eq] at h2
    intro H locs cells slots als I
    have hm : (k, Value.int x) ∈ sk_lvA E 0 ls := (sk_lv_mem E ls 0 _).mpr ⟨k, .inl x, h1, by rw [Nat.zero_add]; rfl⟩
    obtain ⟨j, hj⟩ := List.getElem?_of_mem hm
    exact lv_iinc hx hb hd I.2.2.2.2 hj rfl (of_decide_eq_true hx1) rfl (fun als' hl => IH _ (v_go h2) H locs cells slots als' ⟨I.1, I.2.1, I.2.2.1, I.2.2.2.1, sk_has.s1 (v := .inl (x + Int32.ofInt n)) hl⟩)
  case dup => obtain ⟨hd, rfl, -⟩ := ok_sp hok rfl; obtain ⟨v, r, rfl, hv, h2⟩ := v_1 hr; exact fun H locs cells slots als I => lv_dup hx hb hd (by rw [sv_cat, hv]; rfl) (IH _ (v_go h2) H locs cells slots als I)
  case dup_x1 => obtain ⟨hd, rfl, -⟩ := ok_sp hok rfl; obtain ⟨v, w, r, rfl, hv, hw, h2⟩ := v_11 hr; exact fun H locs cells slots als I => lv_dup_x1 hx hb hd (by rw [sv_cat, hv]; rfl) (by rw [sv_cat, hw]; rfl) (IH _ (v_go h2) H locs cells slots als I)
  case dup2 => obtain ⟨hd, rfl, -⟩ := ok_sp hok rfl; obtain ⟨v, w, r, rfl, hv, hw, h2⟩ := v_11 hr; exact fun H locs cells slots als I => lv_dup2_11 hx hb hd (by rw [sv_cat, hv]; rfl) (by rw [sv_cat, hw]; rfl) (IH _ (v_go h2) H locs cells slots als I)
  case pop => obtain ⟨hd, rfl, -⟩ := ok_sp hok rfl; obtain ⟨v, r, rfl, hv, h2⟩ := v_1 hr; exact fun H locs cells slots als I => lv_pop hx hb hd (by rw [sv_cat, hv]; rfl) (IH _ (v_go h2) H locs cells slots als I)
  case iadd => obtain ⟨hd, rfl, -⟩ := ok_sp hok rfl; obtain ⟨x, y, r, rfl, h2⟩ := v_ii hr; exact fun H locs cells slots als I => lv_iadd hx hb hd (IH _ (v_go h2) H locs cells slots als I)
  case isub => obtain ⟨hd, rfl, -⟩ := ok_sp hok rfl; obtain ⟨x, y, r, rfl, h2⟩ := v_ii hr; exact fun H locs cells slots als I => lv_isub hx hb hd (IH _ (v_go h2) H locs cells slots als I)
  case imul => obtain ⟨hd, rfl, -⟩ := ok_sp hok rfl; obtain ⟨x, y, r, rfl, h2⟩ := v_ii hr; exact fun H locs cells slots als I => lv_imul hx hb hd (IH _ (v_go h2) H locs cells slots als I)
  case iand => obtain ⟨hd, rfl, -⟩ := ok_sp hok rfl; obtain ⟨x, y, r, rfl, h2⟩ := v_ii hr; exact fun H locs cells slots als I => lv_iand hx hb hd (IH _ (v_go h2) H locs cells slots als I)
  case ior => obtain ⟨hd, rfl, -⟩ := ok_sp hok rfl; obtain ⟨x, y, r, rfl, h2⟩ := v_ii hr; exact fun H locs cells slots als I => lv_ior hx hb hd (IH _ (v_go h2) H locs cells slots als I)
  case ixor => obtain ⟨hd, rfl, -⟩ := ok_sp hok rfl; obtain ⟨x, y, r, rfl, h2⟩ := v_ii hr; exact fun H locs cells slots als I => lv_ixor hx hb hd (IH _ (v_go h2) H locs cells slots als I)
  case idiv => obtain ⟨hd, rfl, -⟩ := ok_sp hok rfl; obtain ⟨x, y, r, rfl, h2⟩ := v_ii hr; obtain ⟨h3, h4⟩ := v_ck h2; exact fun H locs cells slots als I => lv_idiv hx hb hd h3 (IH _ h4 H locs cells slots als I)
  case irem => obtain ⟨hd, rfl, -⟩ := ok_sp hok rfl; obtain ⟨x, y, r, rfl, h2⟩ := v_ii hr; obtain ⟨h3, h4⟩ := v_ck h2; exact fun H locs cells slots als I => lv_irem hx hb hd h3 (IH _ h4 H locs cells slots als I)
  case ineg => obtain ⟨hd, rfl, -⟩ := ok_sp hok rfl; obtain ⟨x, r, rfl, h2⟩ := v_i hr; exact fun H locs cells slots als I => lv_ineg hx hb hd (IH _ (v_go h2) H locs cells slots als I)
  case ishl => obtain ⟨hd, rfl, -⟩ := ok_sp hok rfl; obtain ⟨x, y, r, rfl, h2⟩ := v_ii hr; exact fun H locs cells slots als I => lv_ishl hx hb hd (IH _ (v_go h2) H locs cells slots als I)
  case ishr => obtain ⟨hd, rfl, -⟩ := ok_sp hok rfl; obtain ⟨x, y, r, rfl, h2⟩ := v_ii hr; exact fun H locs cells slots als I => lv_ishr hx hb hd (IH _ (v_go h2) H locs cells slots als I)
  case iushr => obtain ⟨hd, rfl, -⟩ := ok_sp hok rfl; obtain ⟨x, y, r, rfl, h2⟩ := v_ii hr; exact fun H locs cells slots als I => lv_iushr hx hb hd rfl (IH _ (v_go h2) H locs cells slots als I)
  case ladd => obtain ⟨hd, rfl, -⟩ := ok_sp hok rfl; obtain ⟨x, y, r, rfl, h2⟩ := v_ll hr; exact fun H locs cells slots als I => lv_ladd hx hb hd (IH _ (v_go h2) H locs cells slots als I)
  case lsub => obtain ⟨hd, rfl, -⟩ := ok_sp hok rfl; obtain ⟨x, y, r, rfl, h2⟩ := v_ll hr; exact fun H locs cells slots als I => lv_lsub hx hb hd (IH _ (v_go h2) H locs cells slots als I)
  case lmul => obtain ⟨hd, rfl, -⟩ := ok_sp hok rfl; obtain ⟨x, y, r, rfl, h2⟩ := v_ll hr; exact fun H locs cells slots als I => lv_lmul hx hb hd (IH _ (v_go h2) H locs cells slots als I)
  case land => obtain ⟨hd, rfl, -⟩ := ok_sp hok rfl; obtain ⟨x, y, r, rfl, h2⟩ := v_ll hr; exact fun H locs cells slots als I => lv_land hx hb hd (IH _ (v_go h2) H locs cells slots als I)
  case lor => obtain ⟨hd, rfl, -⟩ := ok_sp hok rfl; obtain ⟨x, y, r, rfl, h2⟩ := v_ll hr; exact fun H locs cells slots als I => lv_lor hx hb hd (IH _ (v_go h2) H locs cells slots als I)
  case lxor => obtain ⟨hd, rfl, -⟩ := ok_sp hok rfl; obtain ⟨x, y, r, rfl, h2⟩ := v_ll hr; exact fun H locs cells slots als I => lv_lxor hx hb hd (IH _ (v_go h2) H locs cells slots als I)
  case ldiv => obtain ⟨hd, rfl, -⟩ := ok_sp hok rfl; obtain ⟨x, y, r, rfl, h2⟩ := v_ll hr; obtain ⟨h3, h4⟩ := v_ck h2; exact fun H locs cells slots als I => lv_ldiv hx hb hd h3 (IH _ h4 H locs cells slots als I)
  case lrem => obtain ⟨hd, rfl, -⟩ := ok_sp hok rfl; obtain ⟨x, y, r, rfl, h2⟩ := v_ll hr; obtain ⟨h3, h4⟩ := v_ck h2; exact fun H locs cells slots als I => lv_lrem hx hb hd h3 (IH _ h4 H locs cells slots als I)
  case lshl => obtain ⟨hd, rfl, -⟩ := ok_sp hok rfl; obtain ⟨x, y, r, rfl, h2⟩ := v_li hr; exact fun H locs cells slots als I => lv_lshl hx hb hd rfl (IH _ (v_go h2) H locs cells slots als I)
  case lshr => obtain ⟨hd, rfl, -⟩ := ok_sp hok rfl; obtain ⟨x, y, r, rfl, h2⟩ := v_li hr; exact fun H locs cells slots als I => lv_lshr hx hb hd rfl (IH _ (v_go h2) H locs cells slots als I)
  case lushr => obtain ⟨hd, rfl, -⟩ := ok_sp hok rfl; obtain ⟨x, y, r, rfl, h2⟩ := v_li hr; exact fun H locs cells slots als I => lv_lushr hx hb hd rfl (IH _ (v_go h2) H locs cells slots als I)
  case lcmp => obtain ⟨hd, rfl, -⟩ := ok_sp hok rfl; obtain ⟨x, y, r, rfl, h2⟩ := v_ll hr; exact fun H locs cells slots als I => W.lcmp hx hb hd (IH _ (v_go h2) H locs cells slots als I)
  case i2l => obtain ⟨hd, rfl, -⟩ := ok_sp hok rfl; obtain ⟨x, r, rfl, h2⟩ := v_i hr; exact fun H locs cells slots als I => lv_i2l hx hb hd rfl (IH _ (v_go h2) H locs cells slots als I)
  case l2i => obtain ⟨hd, rfl, -⟩ := ok_sp hok rfl; obtain ⟨x, r, rfl, h2⟩ := v_l hr; exact fun H locs cells slots als I => lv_l2i hx hb hd rfl (IH _ (v_go h2) H locs cells slots als I)
  case i2b => obtain ⟨hd, rfl, -⟩ := ok_sp hok rfl; obtain ⟨x, r, rfl, h2⟩ := v_i hr; exact fun H locs cells slots als I => lv_i2b hx hb hd rfl (IH _ (v_go h2) H locs cells slots als I)
  case i2c => obtain ⟨hd, rfl, -⟩ := ok_sp hok rfl; obtain ⟨x, r, rfl, h2⟩ := v_i hr; exact fun H locs cells slots als I => lv_i2c hx hb hd rfl (IH _ (v_go h2) H locs cells slots als I)
  case goto o => obtain ⟨hd, rfl, hx1⟩ := ok_sp hok rfl; exact fun H locs cells slots als I => lv_goto hx hb hd (of_decide_eq_true hx1) (IH _ (v_go hr) H locs cells slots als I)
  case ifCond c o =>
    obtain ⟨hd, rfl, hx1⟩ := ok_sp hok rfl; obtain ⟨x, r, rfl, h2⟩ := v_i hr
    have ht := of_decide_eq_true hx1
    intro H locs cells slots als I
    cases c
    · rcases v_br h2 with ⟨h3, h4⟩ | ⟨h3, h4⟩
      · exact lv_if_eq hx hb hd ht (fun _ => IH _ h4 H locs cells slots als I) (fun q => absurd h3 q)
      · exact lv_if_eq hx hb hd ht (fun q => absurd q h3) (fun _ => IH _ h4 H locs cells slots als I)
    · rcases v_br h2 with ⟨h3, h4⟩ | ⟨h3, h4⟩
      · exact lv_if_ne hx hb hd ht (fun _ => IH _ h4 H locs cells slots als I) (fun q => absurd q h3)
      · exact lv_if_ne hx hb hd ht (fun q => absurd q h3) (fun _ => IH _ h4 H locs cells slots als I)
    · rcases v_br h2 with ⟨h3, h4⟩ | ⟨h3, h4⟩
      · exact lv_if_lt hx hb hd ht (fun _ => IH _ h4 H locs cells slots als I) (fun q => absurd h3 q)
      · exact lv_if_lt hx hb hd ht (fun q => absurd q h3) (fun _ => IH _ h4 H locs cells slots als I)
    · rcases v_br h2 with ⟨h3, h4⟩ | ⟨h3, h4⟩
      · exact lv_if_ge hx hb hd ht (fun _ => IH _ h4 H locs cells slots als I) (fun q => absurd h3 q)
      · exact lv_if_ge hx hb hd ht (fun q => absurd q h3) (fun _ => IH _ h4 H locs cells slots als I)
    · rcases v_br h2 with ⟨h3, h4⟩ | ⟨h3, h4⟩
      · exact lv_if_gt hx hb hd ht (fun _ => IH _ h4 H locs cells slots als I) (fun q => absurd h3 q)
      · exact lv_if_gt hx hb hd ht (fun q => absurd q h3) (fun _ => IH _ h4 H locs cells slots als I)
    · rcases v_br h2 with ⟨h3, h4⟩ | ⟨h3, h4⟩
      · exact lv_if_le hx hb hd ht (fun _ => IH _ h4 H locs cells slots als I) (fun q => absurd h3 q)
      · exact lv_if_le hx hb hd ht (fun q => absurd q h3) (fun _ => IH _ h4 H locs cells slots als I)
  case if_icmp c o =>
    obtain ⟨hd, rfl, hx1⟩ := ok_sp hok rfl; obtain ⟨x, y, r, rfl, h2⟩ := v_ii hr
    have ht := of_decide_eq_true hx1
    intro H locs cells slots als I
    cases c
    · rcases v_br h2 with ⟨h3, h4⟩ | ⟨h3, h4⟩
      · exact lv_icmp_eq hx hb hd ht (fun _ => IH _ h4 H locs cells slots als I) (fun q => absurd h3 q)
      · exact lv_icmp_eq hx hb hd ht (fun q => absurd q h3) (fun _ => IH _ h4 H locs cells slots als I)
    · rcases v_br h2 with ⟨h3, h4⟩ | ⟨h3, h4⟩
      · exact lv_icmp_ne hx hb hd ht (fun _ => IH _ h4 H locs cells slots als I) (fun q => absurd q h3)
      · exact lv_icmp_ne hx hb hd ht (fun q => absurd q h3) (fun _ => IH _ h4 H locs cells slots als I)
    · rcases v_br h2 with ⟨h3, h4⟩ | ⟨h3, h4⟩
      · exact lv_icmp_lt hx hb hd ht (fun _ => IH _ h4 H locs cells slots als I) (fun q => absurd h3 q)
      · exact lv_icmp_lt hx hb hd ht (fun q => absurd q h3) (fun _ => IH _ h4 H locs cells slots als I)
    · rcases v_br h2 with ⟨h3, h4⟩ | ⟨h3, h4⟩
      · exact lv_icmp_ge hx hb hd ht (fun _ => IH _ h4 H locs cells slots als I) (fun q => absurd h3 q)
      · exact lv_icmp_ge hx hb hd ht (fun q => absurd q h3) (fun _ => IH _ h4 H locs cells slots als I)
    · rcases v_br h2 with ⟨h3, h4⟩ | ⟨h3, h4⟩
      · exact lv_icmp_gt hx hb hd ht (fun _ => IH _ h4 H locs cells slots als I) (fun q => absurd h3 q)
      · exact lv_icmp_gt hx hb hd ht (fun q => absurd q h3) (fun _ => IH _ h4 H locs cells slots als I)
    · rcases v_br h2 with ⟨h3, h4⟩ | ⟨h3, h4⟩
      · exact lv_icmp_le hx hb hd ht (fun _ => IH _ h4 H locs cells slots als I) (fun q => absurd h3 q)
      · exact lv_icmp_le hx hb hd ht (fun q => absurd q h3) (fun _ => IH _ h4 H locs cells slots als I)
  case if_acmp c o =>
    obtain ⟨hd, rfl, hx1⟩ := ok_sp hok rfl
    have ht := of_decide_eq_true hx1
    have inj : ∀ x y : Option Nat, 20 ≤ x.getD 20 ∧ 20 ≤ y.getD 20 → (x.map (sk_ad E) = y.map (sk_ad E) ↔ x = y) := by
      intro x y hg
      refine ⟨fun q => ?_, fun q => by rw [q]⟩
      cases x with
      | none => cases y with
        | none => rfl
        | some b => cases q
      | some a => cases y with
        | none => cases q
        | some b =>
          have q1 : sk_ad E a = sk_ad E b := Option.some.inj q
          have g1 : 20 ≤ a := hg.1
          have g2 : 20 ≤ b := hg.2
          rw [sk_ad_own g1, sk_ad_own g2] at q1
          congr 1
          omega
    intro H locs cells slots als I
    cases c
    · obtain ⟨x, y, r, rfl, h2⟩ := v_rr hr
      obtain ⟨hg, h3⟩ := v_brg h2
      refine lv_acmp_eq (rx := x.map (sk_ad E)) (ry := y.map (sk_ad E)) hx hb hd ht (fun q => ?_) (fun q => ?_)
      · rcases h3 with ⟨-, h4⟩ | ⟨h3, -⟩
        · exact IH _ h4 H locs cells slots als I
        · exact absurd ((inj x y hg).mp q) h3
      · rcases h3 with ⟨h3, -⟩ | ⟨-, h4⟩
        · exact absurd ((inj x y hg).mpr h3) q
        · exact IH _ h4 H locs cells slots als I
    · obtain ⟨x, y, r, rfl, h2⟩ := v_rr hr
      obtain ⟨hg, h3⟩ := v_brg h2
      refine lv_acmp_ne (rx := x.map (sk_ad E)) (ry := y.map (sk_ad E)) hx hb hd ht (fun q => ?_) (fun q => ?_)
      · rcases h3 with ⟨-, h4⟩ | ⟨h3, -⟩
        · exact IH _ h4 H locs cells slots als I
        · exact absurd (fun w => q ((inj x y hg).mpr w)) h3
      · rcases h3 with ⟨h3, -⟩ | ⟨-, h4⟩
        · exact absurd ((inj x y hg).mp q) h3
        · exact IH _ h4 H locs cells slots als I
  case ifnull o =>
    obtain ⟨hd, rfl, hx1⟩ := ok_sp hok rfl
    have ht := of_decide_eq_true hx1
    obtain ⟨x, r, rfl, h2⟩ := v_r hr
    intro H locs cells slots als I
    cases x with
    | none =>
      rcases v_br h2 with ⟨-, h4⟩ | ⟨h3, -⟩
      · exact lv_ifnullN hx hb hd ht (IH _ h4 H locs cells slots als I)
      · exact absurd rfl h3
    | some a =>
      rcases v_br h2 with ⟨h3, -⟩ | ⟨-, h4⟩
      · cases h3
      · exact lv_ifnull hx hb hd (IH _ h4 H locs cells slots als I)
  case ifnonnull o =>
    obtain ⟨hd, rfl, hx1⟩ := ok_sp hok rfl
    have ht := of_decide_eq_true hx1
    obtain ⟨x, r, rfl, h2⟩ := v_r hr
    intro H locs cells slots als I
    cases x with
    | none =>
      rcases v_br h2 with ⟨h3, -⟩ | ⟨-, h4⟩
      · exact absurd rfl h3
      · exact lv_ifnonnullN hx hb hd (IH _ h4 H locs cells slots als I)
    | some a =>
      rcases v_br h2 with ⟨-, h4⟩ | ⟨h3, -⟩
      · exact lv_ifnonnull hx hb hd ht (IH _ h4 H locs cells slots als I)
      · exact absurd (fun q => by cases q) h3
  case tableswitch df lo hi offs =>
    have hok : (ok_dec m pc nx (.tableswitch df lo hi offs) && ok_x rec? m pc e1 e2 e3 e4 e5 ev ec (.tableswitch df lo hi offs)) = true := hok
    rw [Bool.and_eq_true] at hok
    obtain ⟨hd, hx1⟩ := hok
    have hd : decode (sk_b m) pc = .ok (.tableswitch df lo hi offs, nx - pc) := of_decide_eq_true hd
    simp only [ok_x, Bool.and_eq_true, decide_eq_true_eq] at hx1
    obtain ⟨⟨⟨ht, hsw⟩, hcs⟩, hhi⟩ := hx1
    obtain ⟨x, r, rfl, h2⟩ := v_i hr
    intro H locs cells slots als I
    rcases v_sw h2 with ⟨t, h3, h4⟩ | ⟨h3, h4⟩
    · have h5 := List.all_eq_true.mp hsw _ h3
      simp only [Bool.and_eq_true, decide_eq_true_eq] at h5
      obtain ⟨h5, h6⟩ := h5
      cases ho : offs[(x.toInt - lo).toNat]? with
      | none => rw [ho] at h6; cases h6
      | some o =>
        rw [ho] at h6
        have h6 := of_decide_eq_true h6
        have hlt : (x.toInt - lo).toNat < offs.size := (Array.getElem?_eq_some_iff.mp ho).1
        exact lv_tableIn hx hb hd (by omega) (by omega) ho h6 (IH _ h4 H locs cells slots als I)
    · refine lv_tableOut hx hb hd ?_ ht (IH _ h4 H locs cells slots als I)
      by_cases q1 : x.toInt < lo
      · exact Or.inl q1
      · by_cases q2 : hi < x.toInt
        · exact Or.inr q2
        · exfalso
          have hm : x.toInt ∈ ec.map (fun c => c.1.toInt) := by
            rw [hcs]
            exact List.mem_map.mpr ⟨(x.toInt - lo).toNat, List.mem_range.mpr (by omega), by omega⟩
          obtain ⟨q, hq1, hq2⟩ := List.mem_map.mp hm
          exact h3 q hq1 (Int32.toInt_inj.mp hq2.symm)
  case lookupswitch df ps =>
    have hok : (ok_dec m pc nx (.lookupswitch df ps) && ok_x rec? m pc e1 e2 e3 e4 e5 ev ec (.lookupswitch df ps)) = true := hok
    rw [Bool.and_eq_true] at hok
    obtain ⟨hd, hx1⟩ := hok
    have hd : decode (sk_b m) pc = .ok (.lookupswitch df ps, nx - pc) := of_decide_eq_true hd
    simp only [ok_x, Bool.and_eq_true, decide_eq_true_eq] at hx1
    obtain ⟨⟨ht, hsrt⟩, hps⟩ := hx1
    obtain ⟨x, r, rfl, h2⟩ := v_i hr
    intro H locs cells slots als I
    obtain ⟨t, h3, h4⟩ := v_swl (pc := pc) (df := df) ht ec h2
    refine lv_lookup (off := (t : Int) - pc) hx hb hd hsrt (by rw [hps]; exact h3) (by omega) (IH _ h4 H locs cells slots als I)
  case ireturn =>
    obtain ⟨hd, rfl, hx1⟩ := ok_sp hok rfl
    have hx1 := of_decide_eq_true hx1
    simp only [sk_ac0, ac_ireturn] at hr
    split at hr
    · rename_i x
      obtain ⟨h1, rfl⟩ := v_rt hr
      intro H locs cells slots als I
      refine HR pc H locs cells slots als I.1 I.2.1 I.2.2.1 I.2.2.2.1 (Or.inl ⟨x, rfl, hd, ?_⟩)
      rcases hx1 with ⟨q1, rfl⟩ | ⟨q1, rfl⟩ | ⟨q1, rfl⟩ | ⟨q1, rfl⟩
      · exact Or.inl q1
      · exact Or.inr (Or.inl ⟨q1, h1⟩)
      · exact Or.inr (Or.inr (Or.inl ⟨q1, h1⟩))
      · exact Or.inr (Or.inr (Or.inr ⟨q1, h1⟩))
    · exact (v_no hr).elim
  case lreturn =>
    obtain ⟨hd, rfl, hx1⟩ := ok_sp hok rfl
    have hx1 := of_decide_eq_true hx1
    simp only [sk_ac0, ac_lreturn] at hr
    split at hr
    · rename_i x
      obtain ⟨h1, rfl⟩ := v_rt hr
      intro H locs cells slots als I
      exact HR pc H locs cells slots als I.1 I.2.1 I.2.2.1 I.2.2.2.1 (Or.inr (Or.inl ⟨x, rfl, hd, hx1⟩))
    · exact (v_no hr).elim
  case areturn =>
    obtain ⟨hd, rfl, hx1⟩ := ok_sp hok rfl
    have hx2 : (∃ n, sk_rt m = some (.object n)) ∨ ∃ t, sk_rt m = some (.array t) := by
      have hx1 : (match sk_rt m with
        | some (.object _) => true
        | some (.array _) => true
        | _ => false) = true := hx1
      split at hx1
      · rename_i n hq; exact Or.inl ⟨n, hq⟩
      · rename_i n hq; exact Or.inr ⟨n, hq⟩
      · cases hx1
    simp only [sk_ac0, ac_areturn] at hr
    split at hr
    · rename_i x
      obtain ⟨h1, rfl⟩ := v_rt hr
      intro H locs cells slots als I
      exact HR pc H locs cells slots als I.1 I.2.1 I.2.2.1 I.2.2.2.1 (Or.inr (Or.inr (Or.inl ⟨x, rfl, hd, hx2⟩)))
    · exact (v_no hr).elim
  case return_ =>
    obtain ⟨hd, rfl, hx1⟩ := ok_sp hok rfl
    have hx1 := of_decide_eq_true hx1
    simp only [sk_ac0, ac_return_] at hr
    split at hr
    · obtain ⟨h1, rfl⟩ := v_rt hr
      intro H locs cells slots als I
      exact HR pc H locs cells slots als I.1 I.2.1 I.2.2.1 I.2.2.2.1 (Or.inr (Or.inr (Or.inr ⟨rfl, hd, hx1⟩)))
    · exact (v_no hr).elim
  case getfield k =>
    obtain ⟨hd, rfl, hx1⟩ := ok_sp hok rfl
    obtain ⟨x, r, rfl, h2⟩ := v_r hr
    obtain ⟨a, rfl, h3, h4⟩ := v_at h2
    intro H locs cells slots als I
    by_cases h51 : e1 = 51
    · subst h51
      exact sm_gets C I.1 hx1 h3 I.2.1 hd (IH _ h4 H locs cells slots als I)
    · have hx2 : ok_fld m k e1 e2 e3 = true := by
        simp only [ok_x] at hx1
        first
          | exact hx1
          | (split at hx1
             · exact absurd rfl h51
             · exact hx1)
      exact sm_getf C I.1 hx2 h3 hd (IH _ h4 H locs cells slots als I)
  case putfield k =>
    obtain ⟨hd, rfl, hx1⟩ := ok_sp hok rfl
    have hx1 : (ok_fld m k e1 e2 e3 && ok_fin m e1 e2) = true := hx1
    rw [Bool.and_eq_true] at hx1
    obtain ⟨ho, hf⟩ := hx1
    simp only [sk_ac0, ac_putfield] at hr
    split at hr
    · obtain ⟨x, v, r, rfl, h2⟩ := v_ri hr
      obtain ⟨a, rfl, h3, h4⟩ := v_at h2
      intro H locs cells slots als I
      exact sm_putI C I.1 ho hf h3 (Or.inl rfl) I.2.1 hd (fun H1 locs1 q1 q2 => IH _ h4 H1 locs1 cells slots als ⟨q1, q2, I.2.2.1, I.2.2.2.1, I.2.2.2.2⟩)
    · split at hr
      · obtain ⟨a, rfl, h3, h4⟩ := v_at hr
        intro H locs cells slots als I
        exact sm_putJ C I.1 ho hf h3 I.2.1 hd (fun H1 locs1 q1 q2 => IH _ h4 H1 locs1 cells slots als ⟨q1, q2, I.2.2.1, I.2.2.2.1, I.2.2.2.2⟩)
      · exact (v_no hr).elim
    · split at hr
      · obtain ⟨a, rfl, h3, h4⟩ := v_at hr
        intro H locs cells slots als I
        exact sm_putR C I.1 ho hf h3 I.2.1 hd (fun H1 locs1 q1 q2 => IH _ h4 H1 locs1 cells slots als ⟨q1, q2, I.2.2.1, I.2.2.2.1, I.2.2.2.2⟩)
      · exact (v_no hr).elim
    · rename_i t1 t2 t3
      obtain ⟨x, v, r, rfl, h2⟩ := v_ri hr
      obtain ⟨a, rfl, h3, h4⟩ := v_at h2
      intro H locs cells slots als I
      exact sm_putI C I.1 ho hf h3.1 (Or.inr ⟨t2, t3, h3.2⟩) I.2.1 hd (fun H1 locs1 q1 q2 => IH _ h4 H1 locs1 cells slots als ⟨q1, q2, I.2.2.1, I.2.2.2.1, I.2.2.2.2⟩)
  case getstatic k =>
    obtain ⟨hd, rfl, hx1⟩ := ok_sp hok rfl
    obtain ⟨-, z2, -, -, z5, z6, z7, z8, z9, -, -, -, -, -, z15⟩ := hX
    simp only [sk_ac0, ac_getstatic] at hr
    split at hr
    · have h1 := v_go hr
      intro H locs cells slots als I
      have K := IH _ h1 H locs cells slots als I
      rcases ev with v | v | v
      · simp only [ok_x, Bool.or_eq_true, Bool.and_eq_true, decide_eq_true_eq] at hx1
        rcases hx1 with (⟨rfl, hw | hw⟩ | ⟨rfl, hw⟩) | ⟨rfl, hw⟩
        · exact va_gets hx hb z5 I.2.1 hown (hts _ (ok_w_mem hw)) (fun _ h => h) hd K
        · exact va_gets hx hb z6 I.2.1 hown (hts _ (ok_w_mem hw)) (fun _ h => h) hd K
        · exact va_gets hx hb z7 I.2.1 hown (hts _ (ok_w_mem hw)) (fun _ h => h) hd K
        · exact va_gets hx hb z8 I.2.1 hown (hts _ (ok_w_mem hw)) (fun _ h => h) hd K
      · cases hx1
      · cases v with
        | none => cases hx1
        | some a =>
          by_cases ha : a = 1
          · subst ha
            have hx1 := of_decide_eq_true hx1
            obtain ⟨q1, rfl⟩ := hx1
            have hw : (Cond.fieldLinkNest (sk_y m).cls sk_nst.2 "SkittleRow" "LAWS_THAT_HIT" "[J" "SkittleRow").before args s = true := by
              rw [q1]
              exact va_Nw.use rfl z15
            have e1 : sv E (.inr (.inr (some 1))) = .ref (E.2.1 1) := by
              show Value.ref (sk_ad E 1) = _
              rw [sk_ad_ext (by omega)]
            have K : W p l e Rm s mm args below meth cd H locs cells slots Q (F0 mm (pc + 3) als (sv E (.inr (.inr (some 1))) :: st.map (sv E))) := K
            rw [e1] at K
            exact va_getsN hx hb z2 I.2.1 hown hw (fun _ h => h) hd K
          · simp only [ok_x] at hx1
            split at hx1
            · rename_i hq; cases hq
            · rename_i hq
              exact absurd (by injection hq with hq; injection hq with hq; injection hq with hq) ha
            · cases hx1
    · rename_i hne
      have h1 := v_go hr
      intro H locs cells slots als I
      have hw : ok_w m (.fieldLink (sk_y m).cls k "jdk/internal/util/Preconditions" "SIOOBE_FORMATTER" "Ljava/util/function/BiFunction;") = true := by
        simp only [ok_x] at hx1
        exact hx1
      have K := IH _ h1 H locs cells slots als I
      have e5' : hR h 0 2 = hR E.2.2.2.2 0 2 := by rw [(I.1.2.2.2.2 0 (by omega)).2.2.2.2]
      have K : W p l e Rm s mm args below meth cd H locs cells slots Q (F0 mm (pc + 3) als (va_rf ((hR h 0 2).map (sk_ad E)) :: st.map (sv E))) := K
      rw [e5'] at K
      exact va_gets hx hb z9 I.2.1 hown (hts _ (ok_w_mem hw)) (fun _ h => h) hd K
  case new k =>
    obtain ⟨hd, rfl, hx1⟩ := ok_sp hok rfl
    have h1 := v_go hr
    have hM := IM _ h1
    intro H locs cells slots als I
    have m1 : hn h + 1 ≤ hn R.1 := hM.1
    have m2 : hs h + e2 ≤ hs R.1 := hM.2
    refine sm_new C I.1 hx1 I.2.1 (by have := I.2.2.1; have := hRm.2.1; dsimp only at *; omega) (by have := I.2.2.2.1; have := hRm.2.2; dsimp only at *; omega) hd (fun H1 q1 q2 => ?_)
    exact IH _ h1 H1 locs (cells + 1) (slots + e2) als ⟨q1, q2, by have := I.2.2.1; dsimp only at *; show hn h + 1 = _; omega, by have := I.2.2.2.1; dsimp only at *; show hs h + e2 = _; omega, I.2.2.2.2⟩
  case newarray t =>
    obtain ⟨hd, rfl, hx1⟩ := ok_sp hok rfl
    obtain ⟨n, r, rfl, h2⟩ := v_i hr
    obtain ⟨h3, h1⟩ := v_ck h2
    have hM := IM _ h1
    intro H locs cells slots als I
    have m1 : hn h + 1 ≤ hn R.1 := hM.1
    have m2 : hs h + n.toNatClampNeg ≤ hs R.1 := hM.2
    refine sm_newa C I.1 (of_decide_eq_true hx1) h3 I.2.1 (by have := I.2.2.1; have := hRm.2.1; dsimp only at *; omega) (by have := I.2.2.2.1; have := hRm.2.2; dsimp only at *; omega) hd (fun H1 q1 q2 => ?_)
    exact IH _ h1 H1 locs (cells + 1) (slots + n.toNatClampNeg) als ⟨q1, q2, by have := I.2.2.1; dsimp only at *; show hn h + 1 = _; omega, by have := I.2.2.2.1; dsimp only at *; show hs h + n.toNatClampNeg = _; omega, I.2.2.2.2⟩
  case anewarray k =>
    obtain ⟨hd, rfl, hx1⟩ := ok_sp hok rfl
    obtain ⟨n, r, rfl, h2⟩ := v_i hr
    obtain ⟨h3, h1⟩ := v_ck h2
    have hM := IM _ h1
    intro H locs cells slots als I
    have m1 : hn h + 1 ≤ hn R.1 := hM.1
    have m2 : hs h + n.toNatClampNeg ≤ hs R.1 := hM.2
    refine sm_newq C I.1 hx1 h3 I.2.1 (by have := I.2.2.1; have := hRm.2.1; dsimp only at *; omega) (by have := I.2.2.2.1; have := hRm.2.2; dsimp only at *; omega) hd (fun H1 q1 q2 => ?_)
    exact IH _ h1 H1 locs (cells + 1) (slots + n.toNatClampNeg) als ⟨q1, q2, by have := I.2.2.1; dsimp only at *; show hn h + 1 = _; omega, by have := I.2.2.2.1; dsimp only at *; show hs h + n.toNatClampNeg = _; omega, I.2.2.2.2⟩
  case arraylength =>
    obtain ⟨hd, rfl, hx1⟩ := ok_sp hok rfl
    obtain ⟨x, r, rfl, h2⟩ := v_r hr
    obtain ⟨a, rfl, h3, h4⟩ := v_at h2
    exact fun H locs cells slots als I => sm_len C I.1 h3 I.2.1 hd (IH _ h4 H locs cells slots als I)
  case iaload =>
    obtain ⟨hd, rfl, hx1⟩ := ok_sp hok rfl
    obtain ⟨x, i, r, rfl, h2⟩ := v_ri hr
    obtain ⟨a, rfl, h3, h4⟩ := v_at h2
    exact fun H locs cells slots als I => sm_iald C I.1 h3 I.2.1 hd (IH _ h4 H locs cells slots als I)
  case baload =>
    obtain ⟨hd, rfl, hx1⟩ := ok_sp hok rfl
    obtain ⟨x, i, r, rfl, h2⟩ := v_ri hr
    obtain ⟨a, rfl, h3, h4⟩ := v_at h2
    exact fun H locs cells slots als I => sm_bald C I.1 h3 I.2.1 hd (IH _ h4 H locs cells slots als I)
  case caload =>
    obtain ⟨hd, rfl, hx1⟩ := ok_sp hok rfl
    obtain ⟨x, i, r, rfl, h2⟩ := v_ri hr
    obtain ⟨a, rfl, h3, h4⟩ := v_at h2
    exact fun H locs cells slots als I => sm_cald C I.1 h3 hd (IH _ h4 H locs cells slots als I)
  case laload =>
    obtain ⟨hd, rfl, hx1⟩ := ok_sp hok rfl
    obtain ⟨x, i, r, rfl, h2⟩ := v_ri hr
    obtain ⟨a, rfl, h3, h4⟩ := v_at h2
    exact fun H locs cells slots als I => sm_lald C I.1 h3 I.2.1 hd (IH _ h4 H locs cells slots als I)
  case aaload =>
    obtain ⟨hd, rfl, hx1⟩ := ok_sp hok rfl
    obtain ⟨x, i, r, rfl, h2⟩ := v_ri hr
    obtain ⟨a, rfl, h3, h4⟩ := v_at h2
    exact fun H locs cells slots als I => sm_aald C I.1 h3 hd (IH _ h4 H locs cells slots als I)
  case iastore =>
    obtain ⟨hd, rfl, hx1⟩ := ok_sp hok rfl
    obtain ⟨x, i, v, r, rfl, h2⟩ := v_rii hr
    obtain ⟨a, rfl, h3, h4⟩ := v_at h2
    exact fun H locs cells slots als I => sm_iast C I.1 h3 I.2.1 hd (fun H1 locs1 q1 q2 => IH _ h4 H1 locs1 cells slots als ⟨q1, q2, I.2.2.1, I.2.2.2.1, I.2.2.2.2⟩)
  case bastore =>
    obtain ⟨hd, rfl, hx1⟩ := ok_sp hok rfl
    obtain ⟨x, i, v, r, rfl, h2⟩ := v_rii hr
    obtain ⟨a, rfl, h3, h4⟩ := v_at h2
    exact fun H locs cells slots als I => sm_bast C I.1 h3 I.2.1 hd (fun H1 locs1 q1 q2 => IH _ h4 H1 locs1 cells slots als ⟨q1, q2, I.2.2.1, I.2.2.2.1, I.2.2.2.2⟩)
  case castore =>
    obtain ⟨hd, rfl, hx1⟩ := ok_sp hok rfl
    obtain ⟨x, i, v, r, rfl, h2⟩ := v_rii hr
    obtain ⟨a, rfl, h3, h4⟩ := v_at h2
    exact fun H locs cells slots als I => sm_cast C I.1 h3 I.2.1 hd (fun H1 locs1 q1 q2 => IH _ h4 H1 locs1 cells slots als ⟨q1, q2, I.2.2.1, I.2.2.2.1, I.2.2.2.2⟩)
  case lastore =>
    obtain ⟨hd, rfl, hx1⟩ := ok_sp hok rfl
    obtain ⟨x, i, v, r, rfl, h2⟩ := v_ril hr
    obtain ⟨a, rfl, h3, h4⟩ := v_at h2
    exact fun H locs cells slots als I => sm_last C I.1 h3 I.2.1 hd (fun H1 locs1 q1 q2 => IH _ h4 H1 locs1 cells slots als ⟨q1, q2, I.2.2.1, I.2.2.2.1, I.2.2.2.2⟩)
  case aastore =>
    obtain ⟨hd, rfl, hx1⟩ := ok_sp hok rfl
    obtain ⟨x, i, v, r, rfl, h2⟩ := v_rir hr
    obtain ⟨a, rfl, h3, h4⟩ := v_at h2
    cases v with
    | none => exact absurd rfl h3.2.2.2
    | some b => exact fun H locs cells slots als I => sm_aast C I.1 ⟨h3.1, h3.2.1, h3.2.2.1⟩ I.2.1 hd (fun H1 locs1 q1 q2 => IH _ h4 H1 locs1 cells slots als ⟨q1, q2, I.2.2.1, I.2.2.2.1, I.2.2.2.2⟩)
  case invokespecial k =>
    obtain ⟨hd, rfl, hx1⟩ := ok_sp hok rfl
    simp only [sk_ac0, ac_invokespecial] at hr
    split at hr
    · have hx1 : (ok_w m (.methodLink (sk_y m).cls k objectInit) && decide (1 ≤ sk_rk m)) = true := hx1
      rw [Bool.and_eq_true, decide_eq_true_eq] at hx1
      split at hr
      · rename_i x
        cases x with
        | none => cases hr
        | some a =>
          intro H locs cells slots als I
          refine W.objInit hx hb hown (hts _ (ok_w_mem hx1.1)) (hts _ sk_obj1) (hts _ sk_obj2) rfl (I.2.2.2.2.1.trans hml.symm) rfl hd (by have := hRm.1.1; omega) (by
            have : (F0 mm pc als [Value.ref (sk_ad E a)]).monitorRoom = 0 := rfl
            show 2 * (F0 mm pc als [Value.ref (sk_ad E a)]).monitorRoom + 0 + 12 ≤ Rm.locals
            rw [this]
            have := hRm.1.2; omega) (IH _ hr H locs cells slots als I)
      · exact (v_no hr).elim
    · rename_i cm
      cases e2 with
      | zero => cases hx1
      | succ n =>
        have hx1 : (ok_call rec? m k cm n e3 e4 && decide (sk_mk cm = 2 ∧ sk_rt cm = none ∧ e5 ≠ 0)) = true := hx1
        rw [Bool.and_eq_true, decide_eq_true_eq] at hx1
        obtain ⟨ho, hnm2⟩ := hx1
        obtain ⟨o1, -, -, -, -, -, -, ⟨o8, o8'⟩, o9, -⟩ := ok_call_spec hMk ho
        obtain ⟨as, r, h1, h2, h3, h4, h5⟩ := v_inv hr
        obtain ⟨R', h6, h7, -⟩ := v_cont h5
        have h4' : ∃ a, sk_rcv as = some a ∧ hK h a = e5 := by
          rcases h4 with h4 | h4
          · exact absurd h4 hnm2.2.2
          · exact h4
        obtain ⟨a, h8, h9⟩ := h4'
        obtain ⟨bs, rfl, h10, rfl⟩ := sk_rcv_take h1 h8
        subst o8
        obtain ⟨d', g1, g2, g3⟩ := IC cm _ h R' o1 h3 h6
        have hM := IM _ h7
        obtain ⟨r1, r2⟩ := sk_room hRm.1 o9 g1 o8'
        intro H locs cells slots als I
        have i3 := I.2.2.1
        have i4 := I.2.2.2.1
        have g31 := g3.1
        have g32 := g3.2
        have m1 : hn R'.1 ≤ hn R.1 := hM.1
        have m2 : hs R'.1 ≤ hs R.1 := hM.2
        have c1 := hRm.2.1
        have c2 := hRm.2.2
        dsimp only at i3 i4
        show W p l e Rm s mm args below meth cd H locs cells slots Q (F0 mm pc als ((bs.reverse ++ .inr (.inr (some a)) :: r).map (sv E)))
        rw [List.map_append, List.map_reverse, List.map_cons]
        obtain ⟨k1, -, -, -, k5⟩ := sk_mok_spec (hMk cm o1)
        have hin : Cond.instanceMethod (sk_y cm) ∈ sk_wds := k1 _ (by unfold sk_mw; rw [hnm2.1]; simp)
        refine sm_callI (h := h) C I.1 I.2.1 I.2.2.2.2.1 hMk ho ⟨k5 hnm2.1, hnm2.2.1⟩ hin g2 h10 h2 r1 r2 (by omega) (by omega) hd (fun H1 locs1 q1 q2 => ?_)
        have K := IH _ h7 H1 locs1 (cells + (hn R'.1 - hn h)) (slots + (hs R'.1 - hs h)) als ⟨q1, q2, by show hn R'.1 = _; omega, by show hs R'.1 = _; omega, I.2.2.2.2⟩
        have K : W p l e Rm s mm args below meth cd H1 locs1 (cells + (hn R'.1 - hn h)) (slots + (hs R'.1 - hs h)) Q (F0 mm (pc + 3) als ((R'.2.toList ++ r).map (sv E))) := K
        rw [List.map_append] at K
        exact K
  case invokevirtual k =>
    obtain ⟨hd, rfl, hx1⟩ := ok_sp hok rfl
    cases e1 with
    | zero => cases hx1
    | succ cm => cases e2 with
      | zero => cases hx1
      | succ n =>
        have hx1 : (ok_call rec? m k cm n e3 e4 && decide (sk_mk cm = 1) && ok_rv cm e5) = true := hx1
        rw [Bool.and_eq_true, Bool.and_eq_true, decide_eq_true_eq] at hx1
        obtain ⟨⟨ho, hmk⟩, hrv⟩ := hx1
        obtain ⟨o1, -, -, -, -, -, -, ⟨o8, o8'⟩, o9, -⟩ := ok_call_spec hMk ho
        have hr : sk_fin t_O fc f (pc + 3) ls h (b_inv cm (n + 1) e3 e4 e5 st) = some R := hr
        obtain ⟨as, r, h1, h2, h3, h4, h5⟩ := v_inv hr
        obtain ⟨R', h6, h7, -⟩ := v_cont h5
        have h4' : ∃ a, sk_rcv as = some a ∧ hK h a = e5 := by
          rcases h4 with h4 | h4
          · rw [h4] at hrv; cases hrv
          · exact h4
        obtain ⟨a, h8, h9⟩ := h4'
        obtain ⟨bs, rfl, h10, rfl⟩ := sk_rcv_take h1 h8
        subst o8
        obtain ⟨d', g1, g2, g3⟩ := IC cm _ h R' o1 h3 h6
        have hM := IM _ h7
        obtain ⟨r1, r2⟩ := sk_room hRm.1 o9 g1 o8'
        intro H locs cells slots als I
        have i3 := I.2.2.1
        have i4 := I.2.2.2.1
        have g31 := g3.1
        have g32 := g3.2
        have m1 : hn R'.1 ≤ hn R.1 := hM.1
        have m2 : hs R'.1 ≤ hs R.1 := hM.2
        have c1 := hRm.2.1
        have c2 := hRm.2.2
        dsimp only at i3 i4
        show W p l e Rm s mm args below meth cd H locs cells slots Q (F0 mm pc als ((bs.reverse ++ .inr (.inr (some a)) :: r).map (sv E)))
        rw [List.map_append, List.map_reverse, List.map_cons]
        obtain ⟨k1, -⟩ := sk_mok_spec (hMk cm o1)
        have hin : Cond.instanceMethod (sk_y cm) ∈ sk_wds := k1 _ (by unfold sk_mw; rw [hmk]; simp)
        have hse : Cond.selects (sk_y cm).cls (sk_y cm) (sk_y cm) ∈ sk_wds := k1 _ (by unfold sk_mw; rw [hmk]; simp)
        refine sm_callV (h := h) C I.1 I.2.1 I.2.2.2.2.1 hMk ho hin hse h9 hrv g2 h10 h2 r1 r2 (by omega) (by omega) hd (fun H1 locs1 q1 q2 => ?_)
        have K := IH _ h7 H1 locs1 (cells + (hn R'.1 - hn h)) (slots + (hs R'.1 - hs h)) als ⟨q1, q2, by show hn R'.1 = _; omega, by show hs R'.1 = _; omega, I.2.2.2.2⟩
        have K : W p l e Rm s mm args below meth cd H1 locs1 (cells + (hn R'.1 - hn h)) (slots + (hs R'.1 - hs h)) Q (F0 mm (pc + 3) als ((R'.2.toList ++ r).map (sv E))) := K
        rw [List.map_append] at K
        exact K
  case invokestatic k =>
    obtain ⟨hd, rfl, hx1⟩ := ok_sp hok rfl
    cases e1 with
    | zero =>
      have hx1 : (decide (1 ≤ sk_rk m) && ok_mm m k e2) = true := hx1
      rw [Bool.and_eq_true, decide_eq_true_eq] at hx1
      obtain ⟨hk1, hw⟩ := hx1
      have hr : sk_fin t_O fc f (pc + 3) ls h (b_mm (pc + 3) e2 ls st h) = some R := hr
      obtain ⟨x, y, r, rfl, h2⟩ := v_ii hr
      have c1 := hRm.1.1
      have c2 := hRm.1.2
      have m1 := hRm.2.1
      have m2 := hRm.2.2
      split at h2
      · rename_i hcat
        have hcat := Nat.le_of_ble_eq_true hcat
        intro H locs cells slots als I
        have i3 := I.2.2.1
        have i4 := I.2.2.2.1
        dsimp only at i3 i4
        split at h2
        · have hM := IM _ (v_go h2)
          have m3 : hn h ≤ hn R.1 := hM.1
          have m4 : hs h ≤ hs R.1 := hM.2
          exact va_mmax hx hb (hml.trans I.2.2.2.2.1.symm) hown (hts _ (ok_w_mem hw)) (hts _ sk_mx1) (hts _ sk_mx0) (hts _ sk_mx2) (by omega) (by rw [sk_cat_sum]; omega) (by omega) (by omega) hd (IH _ (v_go h2) H locs cells slots als I)
        · rename_i hne
          have hM := IM _ (v_go h2)
          have m3 : hn h ≤ hn R.1 := hM.1
          have m4 : hs h ≤ hs R.1 := hM.2
          have hw : ok_w m (.methodLink (sk_y m).cls k Lib.Math.min.name) = true := by
            unfold ok_mm at hw
            split at hw
            · exact absurd rfl hne
            · exact hw
          exact va_mmin hx hb (hml.trans I.2.2.2.2.1.symm) hown (hts _ (ok_w_mem hw)) (hts _ sk_mn1) (hts _ sk_mx0) (hts _ sk_mn2) (by omega) (by rw [sk_cat_sum]; omega) (by omega) (by omega) hd (IH _ (v_go h2) H locs cells slots als I)
      · exact (v_no h2).elim
    | succ cm =>
      have hx1 : (ok_call rec? m k cm e2 e3 e4 && decide (sk_mk cm = 0)) = true := hx1
      rw [Bool.and_eq_true, decide_eq_true_eq] at hx1
      obtain ⟨ho, hmk⟩ := hx1
      obtain ⟨o1, -, -, -, -, -, -, ⟨o8, o8'⟩, o9, -⟩ := ok_call_spec hMk ho
      have hr : sk_fin t_O fc f (pc + 3) ls h (b_inv cm e2 e3 e4 0 st) = some R := hr
      obtain ⟨as, r, h1, h2, h3, h4, h5⟩ := v_inv hr
      obtain ⟨R', h6, h7, -⟩ := v_cont h5
      obtain ⟨t, t1, rfl, t3⟩ := sk_take_spec _ _ _ _ _ h1
      rw [List.append_nil] at t3
      subst o8
      obtain ⟨d', g1, g2, g3⟩ := IC cm _ h R' o1 h3 h6
      have hM := IM _ h7
      obtain ⟨r1, r2⟩ := sk_room hRm.1 o9 g1 o8'
      intro H locs cells slots als I
      have i3 := I.2.2.1
      have i4 := I.2.2.2.1
      have g31 := g3.1
      have g32 := g3.2
      have m1 : hn R'.1 ≤ hn R.1 := hM.1
      have m2 : hs R'.1 ≤ hs R.1 := hM.2
      have c1 := hRm.2.1
      have c2 := hRm.2.2
      dsimp only at i3 i4
      show W p l e Rm s mm args below meth cd H locs cells slots Q (F0 mm pc als ((t ++ r).map (sv E)))
      have t4 : t.map (sv E) = (as.map (sv E)).reverse := by rw [t3, List.map_reverse, List.reverse_reverse]
      rw [List.map_append, t4]
      obtain ⟨k1, -⟩ := sk_mok_spec (hMk cm o1)
      have hst : Cond.static (sk_y cm) ∈ sk_wds := k1 _ (by unfold sk_mw; rw [hmk]; simp)
      refine sm_callS (h := h) C I.1 I.2.1 I.2.2.2.2.1 hMk ho hst g2 (by rw [t3, List.length_reverse]; exact t1) h2 r1 r2 (by omega) (by omega) hd (fun H1 locs1 q1 q2 => ?_)
      have K := IH _ h7 H1 locs1 (cells + (hn R'.1 - hn h)) (slots + (hs R'.1 - hs h)) als ⟨q1, q2, by show hn R'.1 = _; omega, by show hs R'.1 = _; omega, I.2.2.2.2⟩
      have K : W p l e Rm s mm args below meth cd H1 locs1 (cells + (hn R'.1 - hn h)) (slots + (hs R'.1 - hs h)) Q (F0 mm (pc + 3) als ((R'.2.toList ++ r).map (sv E))) := K
      rw [List.map_append] at K
      exact K
end SkSim
end
section
/-! ===== the machine does what the evaluator does ===== -/
theorem lv_args_mem (E : sk_En) : ∀ (as : List sk_V) (n i k : Nat) (v : sk_V), l_at (sk_pad n (sk_ex as)) k = some v → (i + k, sv E v) ∈ lv_args i (as.map (sv E))
  | [], n, i, k, v, h => by
    exfalso
    revert h
    induction n generalizing k with
    | zero => intro h; simp [sk_ex, sk_pad, l_at] at h
    | succ n ih =>
      intro h
      cases k with
      | zero => simp [sk_ex, sk_pad, l_at] at h
      | succ k => exact ih k (by simpa [sk_ex, sk_pad, l_at] using h)
  | .inl x :: as, 0, i, k, v, h => by simp [sk_ex, sk_pad, l_at] at h
  | .inl x :: as, n + 1, i, 0, v, h => by
    simp only [sk_ex, sk_pad, l_at] at h
    cases h
    simp only [List.map_cons, lv_args, Nat.add_zero]
    exact List.mem_cons_self
  | .inl x :: as, n + 1, i, k + 1, v, h => by
    simp only [sk_ex, sk_pad, l_at] at h
    simp only [List.map_cons, lv_args]
    refine List.mem_cons_of_mem _ ?_
    have := lv_args_mem E as n (i + 1) k v h
    rw [show i + (k + 1) = i + 1 + k by omega]
    exact this
  | .inr (.inr x) :: as, 0, i, k, v, h => by simp [sk_ex, sk_pad, l_at] at h
  | .inr (.inr x) :: as, n + 1, i, 0, v, h => by
    simp only [sk_ex, sk_pad, l_at] at h
    cases h
    simp only [List.map_cons, lv_args, Nat.add_zero]
    exact List.mem_cons_self
  | .inr (.inr x) :: as, n + 1, i, k + 1, v, h => by
    simp only [sk_ex, sk_pad, l_at] at h
    have hc : (sv E (.inr (.inr x))).category = 1 := by rw [sv_cat]; rfl
    simp only [List.map_cons, lv_args, hc]
    refine List.mem_cons_of_mem _ ?_
    have := lv_args_mem E as n (i + 1) k v h
    rw [show i + (k + 1) = i + 1 + k by omega]
    exact this
  | .inr (.inl x) :: as, 0, i, k, v, h => by simp [sk_ex, sk_pad, l_at] at h
  | .inr (.inl x) :: as, n + 1, i, 0, v, h => by
    simp only [sk_ex, sk_pad, l_at] at h
    cases h
    simp only [List.map_cons, lv_args, Nat.add_zero]
    exact List.mem_cons_self
  | .inr (.inl x) :: as, 1, i, k + 1, v, h => by simp [sk_ex, sk_pad, l_at] at h
  | .inr (.inl x) :: as, n + 2, i, 1, v, h => by simp [sk_ex, sk_pad, l_at] at h
  | .inr (.inl x) :: as, n + 2, i, k + 2, v, h => by
    simp only [sk_ex, sk_pad, l_at] at h
    have hc : (sv E (.inr (.inl x))).category = 2 := rfl
    simp only [List.map_cons, lv_args, hc]
    refine List.mem_cons_of_mem _ ?_
    have := lv_args_mem E as n (i + 2) k v h
    rw [show i + (k + 2) = i + 2 + k by omega]
    exact this
theorem lg_sl_len (E : sk_En) : ∀ as : List sk_V, (lg_sl (as.map (sv E))).length = sk_cat as
  | [] => rfl
  | v :: r => by
    have ih := lg_sl_len E r
    simp only [lg_sl] at ih ⊢
    simp only [List.map_cons, List.flatMap_cons, List.length_append, ih, sk_cat]
    rw [sv_cat]
    cases v_one v <;> rfl
/-- the evaluator's run is the machine's, at every place of every method -/
def sk_Pn (T : sk_T) (rec? : Nat → Bool) (n : Nat) : Prop :=
  ∀ (d m : Nat) (c : sk_C) (R : sk_H × Option sk_V), m < 254 → sk_run T rec? n d m c = some R →
  ∀ (p : Program) (l : Launch) (e : Env) (Rm : Room) (s : State) (mm : MethodId) (args : Array Value) (below : List Frame) (meth : Method) (cd : Code) (Q : State → Prop) (E : sk_En) (n0 s0 : Nat),
  sk_Cx E m p s mm args meth cd → ((sk_rk m + 32 * d ≤ Rm.frames ∧ 48 * (sk_rk m + 32 * d) ≤ Rm.locals) ∧ hn R.1 ≤ n0 + Rm.cells ∧ hs R.1 ≤ s0 + Rm.slots) →
  sk_Rt E m n0 s0 p l e Rm s mm args below meth cd Q R → sk_G E m n0 s0 p l e Rm s mm args below meth cd Q c
theorem sk_Mt_of {T : sk_T} {rec? : Nat → Bool} {n : Nat} (P : sk_Pn T rec? n) {d m : Nat} {as : List sk_V} {h : sk_H} {R : sk_H × Option sk_V} (hm : m < 254) (hpl : plainName (sk_y m).cls = true) (hcat : sk_cat as ≤ sk_ml m) (hr : sk_run T rec? n d m (0, sk_ent (sk_ml m) as, [], h) = some R) (l : Launch) (E : sk_En) : sk_Mt l E d m as h R := by
  have hmono := sk_run_mono T rec? n d m _ R hr
  have mo1 : hn h ≤ hn R.1 := hmono.1
  have mo2 : hs h ≤ hs R.1 := hmono.2
  refine Met.ofW (cc := sk_b m) (maxL := sk_ml m) (ret := sk_rt m) hpl rfl ?_
  intro p e s mm args below meth cd s₁ B hml hv
  obtain ⟨rfl, hRep, hK, hXF, hz, hEP⟩ := hv
  have hts := atoms_spec (ws := sk_wd m) B.pre
  have hown : s.vm.findClass (sk_y m).cls = some mm.cls := findClass_of_methodNamed B.named
  have hlocks := B.notSynchronized
  have hC : sk_Cx E m p s mm (as.map (sv E)).toArray meth cd := ⟨B.exec, B.bytes, hml, hown, fun w hw => hts w (List.mem_cons_of_mem _ hw), (name_of_methodNamed B.named B.method).1, hK, hXF, hz, hEP⟩
  rw [lg_entry_eq]
  have hl := lv_entry (as.map (sv E)) (n := sk_ml m) (by rw [lg_sl_len]; exact hcat)
  refine P d m _ R hm hr p l e (headSpec (sk_wd m) (sk_rm d m (hn R.1 - hn h) (hs R.1 - hs h))).room s mm _ below meth cd _ E (hn h) (hs h) hC ⟨⟨Nat.le_refl _, Nat.le_refl _⟩, by show _ ≤ _ + (hn R.1 - hn h); omega, by show _ ≤ _ + (hs R.1 - hs h); omega⟩ ?_ s.heap [] 0 0 _ ⟨hRep, va_S.rf, rfl, rfl, hl.1, hl.2.1, fun q hq => ?_⟩
  · intro pc H locs cells slots als r1 r2 r3 r4 r5
    have hc : cells = hn R.1 - hn h := by omega
    have hs' : slots = hs R.1 - hs h := by omega
    subst hc; subst hs'
    obtain ⟨R1, v⟩ := R
    dsimp only at r5
    rcases r5 with ⟨x, rfl, hd, q⟩ | ⟨x, rfl, hd, q⟩ | ⟨x, rfl, hd, q⟩ | ⟨rfl, hd, q⟩
    · have hqq : ∀ t : State, t.heap = H → s.WarmedH t.vm → sk_Q E (R1, some (.inl x)) (as.map (sv E)).toArray s (.returned (some (.int x))) t := fun t ht hW => ⟨rfl, by rw [ht]; exact r1, r2.F ht⟩
      rcases q with q | ⟨q, q2⟩ | ⟨q, q2⟩ | ⟨q, q2⟩
      · exact W.iret (Qc := sk_Q E (R1, some (.inl x))) B.exec B.bytes (B.returns.trans q) hqq r2.2.2 hd
      · exact W.zret (Qc := sk_Q E (R1, some (.inl x))) B.exec B.bytes (B.returns.trans q) (by rcases q2 with rfl | rfl <;> decide) hqq r2.2.2 hd
      · exact W.zret (Qc := sk_Q E (R1, some (.inl x))) B.exec B.bytes (B.returns.trans q) (by rw [narrow_byte, q2]) hqq r2.2.2 hd
      · exact W.zret (Qc := sk_Q E (R1, some (.inl x))) B.exec B.bytes (B.returns.trans q) (by show Value.int _ = _; exact congrArg Value.int q2) hqq r2.2.2 hd
    · exact W.lret (Qc := sk_Q E (R1, some (.inr (.inl x)))) B.exec B.bytes (B.returns.trans q) (fun t ht hW => ⟨rfl, by rw [ht]; exact r1, r2.F ht⟩) r2.2.2 hd
    · have hv : va_rf (x.map (sk_ad E)) = .null ∨ ∃ a, va_rf (x.map (sk_ad E)) = .ref a := by
        cases x with
        | none => exact Or.inl rfl
        | some a => exact Or.inr ⟨_, rfl⟩
      rcases q with ⟨nm, q⟩ | ⟨tt, q⟩
      · exact W.aret (Qc := sk_Q E (R1, some (.inr (.inr x)))) B.exec B.bytes (B.returns.trans q) (Or.inl ⟨_, rfl⟩) hv (fun t ht hW => ⟨rfl, by rw [ht]; exact r1, r2.F ht⟩) r2.2.2 hd
      · exact W.aret (Qc := sk_Q E (R1, some (.inr (.inr x)))) B.exec B.bytes (B.returns.trans q) (Or.inr ⟨_, rfl⟩) hv (fun t ht hW => ⟨rfl, by rw [ht]; exact r1, r2.F ht⟩) r2.2.2 hd
    · exact W.vret (Qc := sk_Q E (R1, none)) B.exec B.bytes (B.returns.trans q) (fun t ht hW => ⟨rfl, by rw [ht]; exact r1, r2.F ht⟩) r2.2.2 hd
  · obtain ⟨k, w, h1, rfl⟩ := (sk_lv_mem E _ 0 q).mp hq
    exact hl.2.2 _ (lv_args_mem E as (sk_ml m) 0 k w h1)
theorem sk_sim {T : sk_T} {rec? : Nat → Bool} (hT : ∀ m pc e, m < 254 → T m pc = some e → sk_ok rec? m pc e = true) (hMk : ∀ cm, cm < 253 → sk_mok cm = true) : ∀ n, sk_Pn T rec? n
  | 0 => fun d m c R hm hr => by cases hr
  | n + 1 => by
    have P := sk_sim hT hMk n
    intro d m c R hm hr p l e Rm s mm args below meth cd Q E n0 s0 C hRm HR
    obtain ⟨pc, ls, st, h⟩ := c
    unfold sk_run at hr
    rw [Option.bind_eq_some_iff] at hr
    obtain ⟨⟨i, ⟨nx, e1, e2, e3, e4, e5⟩, ev, ec, cut⟩, h1, h2⟩ := hr
    have h3 := sk_sim1 (rec? := rec?) (d := d) (fc := sk_call rec? (sk_run T rec? n) d) (f := sk_run T rec? n d m) (st := st) (h := h) (ls := sk_live (i, (nx, e1, e2, e3, e4, e5), ev, ec, cut) ls) hMk C (hT m pc _ hm h1) hRm
      (fun c hc => P d m c R hm hc p l e Rm s mm args below meth cd Q E n0 s0 C hRm HR) (fun c hc => sk_run_mono T rec? n d m c R hc)
      (fun cm as h' R' hcm hcat hc => by
        unfold sk_call at hc
        cases hq : rec? cm with
        | false =>
          rw [hq] at hc
          exact ⟨d, Or.inl ⟨rfl, rfl⟩, sk_Mt_of P (by omega) (sk_mok_spec (hMk cm hcm)).2.2.1 hcat hc l E, sk_run_mono T rec? n d cm _ R' hc⟩
        | true =>
          rw [hq] at hc
          cases d with
          | zero => cases hc
          | succ k => exact ⟨k, Or.inr ⟨rfl, rfl⟩, sk_Mt_of P (by omega) (sk_mok_spec (hMk cm hcm)).2.2.1 hcat hc l E, sk_run_mono T rec? n k cm _ R' hc⟩) HR h2
    intro H locs cells slots als I
    exact h3 H locs cells slots als ⟨I.1, I.2.1, I.2.2.1, I.2.2.2.1, I.2.2.2.2.live _⟩
end
