section
-- ===== PART A: goes FIRST, ahead of the names: the tables' words, and 'selects' of the private methods out of them =====
/-- a private method of a class that the tables say can be made, by its rows of tables_1 -/
def lw_okq (q : MethodName × Nat) : Prop := (q.1.cls ≠ "java/lang/invoke/MethodHandle" ∧ q.1.cls ≠ "java/lang/invoke/VarHandle") ∧ Cond.instantiable q.1.cls q.2 ∈ tables_1 ∧ Cond.privateMethod q.1 ∈ tables_1 ∧ Cond.instanceMethod q.1 ∈ tables_1
theorem lw_p0 : lw_okq (⟨"SkittleRow", "putBytes", "(I)V"⟩, 9) := ⟨⟨by decide +kernel, by decide +kernel⟩, List.mem_of_getElem? (i := 22) (by decide +kernel), List.mem_of_getElem? (i := 326) (by decide +kernel), List.mem_of_getElem? (i := 327) (by decide +kernel)⟩
theorem lw_p1 : lw_okq (⟨"SkittleRow$AlleyReader", "readClause", "(I)V"⟩, 2) := ⟨⟨by decide +kernel, by decide +kernel⟩, List.mem_of_getElem? (i := 363) (by decide +kernel), List.mem_of_getElem? (i := 382) (by decide +kernel), List.mem_of_getElem? (i := 383) (by decide +kernel)⟩
theorem lw_p2 : lw_okq (⟨"SkittleRow$Reader", "isWord", "(Ljava/lang/String;II)Z"⟩, 4) := ⟨⟨by decide +kernel, by decide +kernel⟩, List.mem_of_getElem? (i := 338) (by decide +kernel), List.mem_of_getElem? (i := 443) (by decide +kernel), List.mem_of_getElem? (i := 444) (by decide +kernel)⟩
theorem lw_p3 : lw_okq (⟨"SkittleRow$AlleyReader", "isTooMany", "(II)Z"⟩, 2) := ⟨⟨by decide +kernel, by decide +kernel⟩, List.mem_of_getElem? (i := 363) (by decide +kernel), List.mem_of_getElem? (i := 451) (by decide +kernel), List.mem_of_getElem? (i := 452) (by decide +kernel)⟩
theorem lw_p4 : lw_okq (⟨"SkittleRow$AlleyReader", "readRow", "()V"⟩, 2) := ⟨⟨by decide +kernel, by decide +kernel⟩, List.mem_of_getElem? (i := 363) (by decide +kernel), List.mem_of_getElem? (i := 467) (by decide +kernel), List.mem_of_getElem? (i := 468) (by decide +kernel)⟩
theorem lw_p5 : lw_okq (⟨"SkittleRow$AlleyReader", "readRing", "()V"⟩, 2) := ⟨⟨by decide +kernel, by decide +kernel⟩, List.mem_of_getElem? (i := 363) (by decide +kernel), List.mem_of_getElem? (i := 487) (by decide +kernel), List.mem_of_getElem? (i := 488) (by decide +kernel)⟩
theorem lw_p6 : lw_okq (⟨"SkittleRow$AlleyReader", "readHit", "()V"⟩, 2) := ⟨⟨by decide +kernel, by decide +kernel⟩, List.mem_of_getElem? (i := 363) (by decide +kernel), List.mem_of_getElem? (i := 491) (by decide +kernel), List.mem_of_getElem? (i := 492) (by decide +kernel)⟩
theorem lw_p7 : lw_okq (⟨"SkittleRow$Alley", "listStrokes", "()V"⟩, 17) := ⟨⟨by decide +kernel, by decide +kernel⟩, List.mem_of_getElem? (i := 111) (by decide +kernel), List.mem_of_getElem? (i := 508) (by decide +kernel), List.mem_of_getElem? (i := 509) (by decide +kernel)⟩
theorem lw_p8 : lw_okq (⟨"SkittleRow$Alley", "plainLeavings", "(I)J"⟩, 17) := ⟨⟨by decide +kernel, by decide +kernel⟩, List.mem_of_getElem? (i := 111) (by decide +kernel), List.mem_of_getElem? (i := 565) (by decide +kernel), List.mem_of_getElem? (i := 566) (by decide +kernel)⟩
theorem lw_p9 : lw_okq (⟨"SkittleRow$RuleReader", "readClause", "(ILSkittleRow$Rule;)V"⟩, 4) := ⟨⟨by decide +kernel, by decide +kernel⟩, List.mem_of_getElem? (i := 597) (by decide +kernel), List.mem_of_getElem? (i := 649) (by decide +kernel), List.mem_of_getElem? (i := 650) (by decide +kernel)⟩
theorem lw_p10 : lw_okq (⟨"SkittleRow$RuleReader", "readSum", "()V"⟩, 4) := ⟨⟨by decide +kernel, by decide +kernel⟩, List.mem_of_getElem? (i := 597) (by decide +kernel), List.mem_of_getElem? (i := 657) (by decide +kernel), List.mem_of_getElem? (i := 658) (by decide +kernel)⟩
theorem lw_p11 : lw_okq (⟨"SkittleRow$RuleReader", "readValue", "()V"⟩, 4) := ⟨⟨by decide +kernel, by decide +kernel⟩, List.mem_of_getElem? (i := 597) (by decide +kernel), List.mem_of_getElem? (i := 661) (by decide +kernel), List.mem_of_getElem? (i := 662) (by decide +kernel)⟩
theorem lw_p12 : lw_okq (⟨"SkittleRow$RuleReader", "countPart", "(I)V"⟩, 4) := ⟨⟨by decide +kernel, by decide +kernel⟩, List.mem_of_getElem? (i := 597) (by decide +kernel), List.mem_of_getElem? (i := 672) (by decide +kernel), List.mem_of_getElem? (i := 673) (by decide +kernel)⟩
theorem lw_p13 : lw_okq (⟨"SkittleRow$RuleReader", "put", "(I)V"⟩, 4) := ⟨⟨by decide +kernel, by decide +kernel⟩, List.mem_of_getElem? (i := 597) (by decide +kernel), List.mem_of_getElem? (i := 676) (by decide +kernel), List.mem_of_getElem? (i := 677) (by decide +kernel)⟩
theorem lw_p14 : lw_okq (⟨"SkittleRow$RuleReader", "readTest", "(I)V"⟩, 4) := ⟨⟨by decide +kernel, by decide +kernel⟩, List.mem_of_getElem? (i := 597) (by decide +kernel), List.mem_of_getElem? (i := 690) (by decide +kernel), List.mem_of_getElem? (i := 691) (by decide +kernel)⟩
theorem lw_p15 : lw_okq (⟨"SkittleRow$RuleReader", "readPart", "(I)V"⟩, 4) := ⟨⟨by decide +kernel, by decide +kernel⟩, List.mem_of_getElem? (i := 597) (by decide +kernel), List.mem_of_getElem? (i := 694) (by decide +kernel), List.mem_of_getElem? (i := 695) (by decide +kernel)⟩
def lw_privs_1 : List (MethodName × Nat) := [(⟨"SkittleRow", "putBytes", "(I)V"⟩, 9), (⟨"SkittleRow$AlleyReader", "readClause", "(I)V"⟩, 2), (⟨"SkittleRow$Reader", "isWord", "(Ljava/lang/String;II)Z"⟩, 4), (⟨"SkittleRow$AlleyReader", "isTooMany", "(II)Z"⟩, 2), (⟨"SkittleRow$AlleyReader", "readRow", "()V"⟩, 2), (⟨"SkittleRow$AlleyReader", "readRing", "()V"⟩, 2), (⟨"SkittleRow$AlleyReader", "readHit", "()V"⟩, 2), (⟨"SkittleRow$Alley", "listStrokes", "()V"⟩, 17), (⟨"SkittleRow$Alley", "plainLeavings", "(I)J"⟩, 17), (⟨"SkittleRow$RuleReader", "readClause", "(ILSkittleRow$Rule;)V"⟩, 4), (⟨"SkittleRow$RuleReader", "readSum", "()V"⟩, 4), (⟨"SkittleRow$RuleReader", "readValue", "()V"⟩, 4), (⟨"SkittleRow$RuleReader", "countPart", "(I)V"⟩, 4), (⟨"SkittleRow$RuleReader", "put", "(I)V"⟩, 4), (⟨"SkittleRow$RuleReader", "readTest", "(I)V"⟩, 4), (⟨"SkittleRow$RuleReader", "readPart", "(I)V"⟩, 4)]
theorem lw_r1 : ∀ q ∈ lw_privs_1, lw_okq q := List.forall_mem_cons.mpr ⟨lw_p0, List.forall_mem_cons.mpr ⟨lw_p1, List.forall_mem_cons.mpr ⟨lw_p2, List.forall_mem_cons.mpr ⟨lw_p3, List.forall_mem_cons.mpr ⟨lw_p4, List.forall_mem_cons.mpr ⟨lw_p5, List.forall_mem_cons.mpr ⟨lw_p6, List.forall_mem_cons.mpr ⟨lw_p7, List.forall_mem_cons.mpr ⟨lw_p8, List.forall_mem_cons.mpr ⟨lw_p9, List.forall_mem_cons.mpr ⟨lw_p10, List.forall_mem_cons.mpr ⟨lw_p11, List.forall_mem_cons.mpr ⟨lw_p12, List.forall_mem_cons.mpr ⟨lw_p13, List.forall_mem_cons.mpr ⟨lw_p14, List.forall_mem_cons.mpr ⟨lw_p15, fun _ h => absurd h List.not_mem_nil⟩⟩⟩⟩⟩⟩⟩⟩⟩⟩⟩⟩⟩⟩⟩⟩
theorem lw_p16 : lw_okq (⟨"SkittleRow$RuleReader", "readFact", "(I)V"⟩, 4) := ⟨⟨by decide +kernel, by decide +kernel⟩, List.mem_of_getElem? (i := 597) (by decide +kernel), List.mem_of_getElem? (i := 698) (by decide +kernel), List.mem_of_getElem? (i := 699) (by decide +kernel)⟩
theorem lw_p17 : lw_okq (⟨"SkittleRow$RuleReader", "readComparison", "()V"⟩, 4) := ⟨⟨by decide +kernel, by decide +kernel⟩, List.mem_of_getElem? (i := 597) (by decide +kernel), List.mem_of_getElem? (i := 703) (by decide +kernel), List.mem_of_getElem? (i := 704) (by decide +kernel)⟩
theorem lw_p18 : lw_okq (⟨"SkittleRow$RuleReader", "readSign", "()I"⟩, 4) := ⟨⟨by decide +kernel, by decide +kernel⟩, List.mem_of_getElem? (i := 597) (by decide +kernel), List.mem_of_getElem? (i := 707) (by decide +kernel), List.mem_of_getElem? (i := 708) (by decide +kernel)⟩
theorem lw_p19 : lw_okq (⟨"SkittleRow$Tables", "fillWinning", "()V"⟩, 14) := ⟨⟨by decide +kernel, by decide +kernel⟩, List.mem_of_getElem? (i := 105) (by decide +kernel), List.mem_of_getElem? (i := 757) (by decide +kernel), List.mem_of_getElem? (i := 758) (by decide +kernel)⟩
theorem lw_p20 : lw_okq (⟨"SkittleRow$Alley", "ringLeavings", "(I)J"⟩, 17) := ⟨⟨by decide +kernel, by decide +kernel⟩, List.mem_of_getElem? (i := 111) (by decide +kernel), List.mem_of_getElem? (i := 822) (by decide +kernel), List.mem_of_getElem? (i := 823) (by decide +kernel)⟩
theorem lw_p21 : lw_okq (⟨"SkittleRow$Tables", "fillLengths", "()V"⟩, 14) := ⟨⟨by decide +kernel, by decide +kernel⟩, List.mem_of_getElem? (i := 105) (by decide +kernel), List.mem_of_getElem? (i := 850) (by decide +kernel), List.mem_of_getElem? (i := 851) (by decide +kernel)⟩
theorem lw_p22 : lw_okq (⟨"SkittleRow$Tables", "fillPlayCounts", "()V"⟩, 14) := ⟨⟨by decide +kernel, by decide +kernel⟩, List.mem_of_getElem? (i := 105) (by decide +kernel), List.mem_of_getElem? (i := 865) (by decide +kernel), List.mem_of_getElem? (i := 866) (by decide +kernel)⟩
theorem lw_p23 : lw_okq (⟨"SkittleRow", "fairSet", "()I"⟩, 9) := ⟨⟨by decide +kernel, by decide +kernel⟩, List.mem_of_getElem? (i := 22) (by decide +kernel), List.mem_of_getElem? (i := 874) (by decide +kernel), List.mem_of_getElem? (i := 875) (by decide +kernel)⟩
theorem lw_p24 : lw_okq (⟨"SkittleRow$Tables", "fillChances", "()V"⟩, 14) := ⟨⟨by decide +kernel, by decide +kernel⟩, List.mem_of_getElem? (i := 105) (by decide +kernel), List.mem_of_getElem? (i := 886) (by decide +kernel), List.mem_of_getElem? (i := 887) (by decide +kernel)⟩
theorem lw_p25 : lw_okq (⟨"SkittleRow$Tables", "fillClever", "()V"⟩, 14) := ⟨⟨by decide +kernel, by decide +kernel⟩, List.mem_of_getElem? (i := 105) (by decide +kernel), List.mem_of_getElem? (i := 898) (by decide +kernel), List.mem_of_getElem? (i := 899) (by decide +kernel)⟩
theorem lw_p26 : lw_okq (⟨"SkittleRow", "isRule", "(I)Z"⟩, 9) := ⟨⟨by decide +kernel, by decide +kernel⟩, List.mem_of_getElem? (i := 22) (by decide +kernel), List.mem_of_getElem? (i := 906) (by decide +kernel), List.mem_of_getElem? (i := 907) (by decide +kernel)⟩
theorem lw_p27 : lw_okq (⟨"SkittleRow$Bout", "playOut", "(LSkittleRow$Rule;LSkittleRow$Rule;)V"⟩, 9) := ⟨⟨by decide +kernel, by decide +kernel⟩, List.mem_of_getElem? (i := 243) (by decide +kernel), List.mem_of_getElem? (i := 914) (by decide +kernel), List.mem_of_getElem? (i := 915) (by decide +kernel)⟩
theorem lw_p28 : lw_okq (⟨"SkittleRow$Bout", "drawn", "()LSkittleRow$Stroke;"⟩, 9) := ⟨⟨by decide +kernel, by decide +kernel⟩, List.mem_of_getElem? (i := 243) (by decide +kernel), List.mem_of_getElem? (i := 918) (by decide +kernel), List.mem_of_getElem? (i := 919) (by decide +kernel)⟩
theorem lw_p29 : lw_okq (⟨"SkittleRow$Bout", "bestBy", "(LSkittleRow$Rule;)LSkittleRow$Stroke;"⟩, 9) := ⟨⟨by decide +kernel, by decide +kernel⟩, List.mem_of_getElem? (i := 243) (by decide +kernel), List.mem_of_getElem? (i := 927) (by decide +kernel), List.mem_of_getElem? (i := 928) (by decide +kernel)⟩
theorem lw_p30 : lw_okq (⟨"SkittleRow$Look", "countRuns", "(LSkittleRow$Alley;I)V"⟩, 1) := ⟨⟨by decide +kernel, by decide +kernel⟩, List.mem_of_getElem? (i := 249) (by decide +kernel), List.mem_of_getElem? (i := 937) (by decide +kernel), List.mem_of_getElem? (i := 938) (by decide +kernel)⟩
theorem lw_p31 : lw_okq (⟨"SkittleRow$Rule", "reckon", "(IILSkittleRow$Look;)J"⟩, 7) := ⟨⟨by decide +kernel, by decide +kernel⟩, List.mem_of_getElem? (i := 620) (by decide +kernel), List.mem_of_getElem? (i := 947) (by decide +kernel), List.mem_of_getElem? (i := 948) (by decide +kernel)⟩
def lw_privs_2 : List (MethodName × Nat) := [(⟨"SkittleRow$RuleReader", "readFact", "(I)V"⟩, 4), (⟨"SkittleRow$RuleReader", "readComparison", "()V"⟩, 4), (⟨"SkittleRow$RuleReader", "readSign", "()I"⟩, 4), (⟨"SkittleRow$Tables", "fillWinning", "()V"⟩, 14), (⟨"SkittleRow$Alley", "ringLeavings", "(I)J"⟩, 17), (⟨"SkittleRow$Tables", "fillLengths", "()V"⟩, 14), (⟨"SkittleRow$Tables", "fillPlayCounts", "()V"⟩, 14), (⟨"SkittleRow", "fairSet", "()I"⟩, 9), (⟨"SkittleRow$Tables", "fillChances", "()V"⟩, 14), (⟨"SkittleRow$Tables", "fillClever", "()V"⟩, 14), (⟨"SkittleRow", "isRule", "(I)Z"⟩, 9), (⟨"SkittleRow$Bout", "playOut", "(LSkittleRow$Rule;LSkittleRow$Rule;)V"⟩, 9), (⟨"SkittleRow$Bout", "drawn", "()LSkittleRow$Stroke;"⟩, 9), (⟨"SkittleRow$Bout", "bestBy", "(LSkittleRow$Rule;)LSkittleRow$Stroke;"⟩, 9), (⟨"SkittleRow$Look", "countRuns", "(LSkittleRow$Alley;I)V"⟩, 1), (⟨"SkittleRow$Rule", "reckon", "(IILSkittleRow$Look;)J"⟩, 7)]
theorem lw_r2 : ∀ q ∈ lw_privs_2, lw_okq q := List.forall_mem_cons.mpr ⟨lw_p16, List.forall_mem_cons.mpr ⟨lw_p17, List.forall_mem_cons.mpr ⟨lw_p18, List.forall_mem_cons.mpr ⟨lw_p19, List.forall_mem_cons.mpr ⟨lw_p20, List.forall_mem_cons.mpr ⟨lw_p21, List.forall_mem_cons.mpr ⟨lw_p22, List.forall_mem_cons.mpr ⟨lw_p23, List.forall_mem_cons.mpr ⟨lw_p24, List.forall_mem_cons.mpr ⟨lw_p25, List.forall_mem_cons.mpr ⟨lw_p26, List.forall_mem_cons.mpr ⟨lw_p27, List.forall_mem_cons.mpr ⟨lw_p28, List.forall_mem_cons.mpr ⟨lw_p29, List.forall_mem_cons.mpr ⟨lw_p30, List.forall_mem_cons.mpr ⟨lw_p31, fun _ h => absurd h List.not_mem_nil⟩⟩⟩⟩⟩⟩⟩⟩⟩⟩⟩⟩⟩⟩⟩⟩
theorem lw_p32 : lw_okq (⟨"SkittleRowModel", "four", "(I)V"⟩, 40) := ⟨⟨by decide +kernel, by decide +kernel⟩, List.mem_of_getElem? (i := 1020) (by decide +kernel), List.mem_of_getElem? (i := 1151) (by decide +kernel), List.mem_of_getElem? (i := 1152) (by decide +kernel)⟩
theorem lw_p33 : lw_okq (⟨"SkittleRowModel", "readsAll", "()Z"⟩, 40) := ⟨⟨by decide +kernel, by decide +kernel⟩, List.mem_of_getElem? (i := 1020) (by decide +kernel), List.mem_of_getElem? (i := 1163) (by decide +kernel), List.mem_of_getElem? (i := 1164) (by decide +kernel)⟩
theorem lw_p34 : lw_okq (⟨"SkittleRowModel", "clauseHere", "()Z"⟩, 40) := ⟨⟨by decide +kernel, by decide +kernel⟩, List.mem_of_getElem? (i := 1020) (by decide +kernel), List.mem_of_getElem? (i := 1167) (by decide +kernel), List.mem_of_getElem? (i := 1168) (by decide +kernel)⟩
theorem lw_p35 : lw_okq (⟨"SkittleRowModel", "see", "()I"⟩, 40) := ⟨⟨by decide +kernel, by decide +kernel⟩, List.mem_of_getElem? (i := 1020) (by decide +kernel), List.mem_of_getElem? (i := 1171) (by decide +kernel), List.mem_of_getElem? (i := 1172) (by decide +kernel)⟩
theorem lw_p36 : lw_okq (⟨"SkittleRowModel", "isAlleyWord", "()Z"⟩, 40) := ⟨⟨by decide +kernel, by decide +kernel⟩, List.mem_of_getElem? (i := 1020) (by decide +kernel), List.mem_of_getElem? (i := 1175) (by decide +kernel), List.mem_of_getElem? (i := 1176) (by decide +kernel)⟩
theorem lw_p37 : lw_okq (⟨"SkittleRowModel", "isWord", "(J)Z"⟩, 40) := ⟨⟨by decide +kernel, by decide +kernel⟩, List.mem_of_getElem? (i := 1020) (by decide +kernel), List.mem_of_getElem? (i := 1180) (by decide +kernel), List.mem_of_getElem? (i := 1181) (by decide +kernel)⟩
theorem lw_p38 : lw_okq (⟨"SkittleRowModel", "isLetter", "(I)Z"⟩, 40) := ⟨⟨by decide +kernel, by decide +kernel⟩, List.mem_of_getElem? (i := 1020) (by decide +kernel), List.mem_of_getElem? (i := 1184) (by decide +kernel), List.mem_of_getElem? (i := 1185) (by decide +kernel)⟩
theorem lw_p39 : lw_okq (⟨"SkittleRowModel", "fails", "(II)Z"⟩, 40) := ⟨⟨by decide +kernel, by decide +kernel⟩, List.mem_of_getElem? (i := 1020) (by decide +kernel), List.mem_of_getElem? (i := 1195) (by decide +kernel), List.mem_of_getElem? (i := 1196) (by decide +kernel)⟩
theorem lw_p40 : lw_okq (⟨"SkittleRowModel", "alleyLineHere", "(I)Z"⟩, 40) := ⟨⟨by decide +kernel, by decide +kernel⟩, List.mem_of_getElem? (i := 1020) (by decide +kernel), List.mem_of_getElem? (i := 1199) (by decide +kernel), List.mem_of_getElem? (i := 1200) (by decide +kernel)⟩
theorem lw_p41 : lw_okq (⟨"SkittleRowModel", "isAlleyHere", "(I)Z"⟩, 40) := ⟨⟨by decide +kernel, by decide +kernel⟩, List.mem_of_getElem? (i := 1020) (by decide +kernel), List.mem_of_getElem? (i := 1203) (by decide +kernel), List.mem_of_getElem? (i := 1204) (by decide +kernel)⟩
theorem lw_p42 : lw_okq (⟨"SkittleRowModel", "passWord", "()V"⟩, 40) := ⟨⟨by decide +kernel, by decide +kernel⟩, List.mem_of_getElem? (i := 1020) (by decide +kernel), List.mem_of_getElem? (i := 1207) (by decide +kernel), List.mem_of_getElem? (i := 1208) (by decide +kernel)⟩
theorem lw_p43 : lw_okq (⟨"SkittleRowModel", "numberHere", "(II)Z"⟩, 40) := ⟨⟨by decide +kernel, by decide +kernel⟩, List.mem_of_getElem? (i := 1020) (by decide +kernel), List.mem_of_getElem? (i := 1211) (by decide +kernel), List.mem_of_getElem? (i := 1212) (by decide +kernel)⟩
theorem lw_p44 : lw_okq (⟨"SkittleRowModel", "isDigit", "(I)Z"⟩, 40) := ⟨⟨by decide +kernel, by decide +kernel⟩, List.mem_of_getElem? (i := 1020) (by decide +kernel), List.mem_of_getElem? (i := 1215) (by decide +kernel), List.mem_of_getElem? (i := 1216) (by decide +kernel)⟩
theorem lw_p45 : lw_okq (⟨"SkittleRowModel", "isRowHere", "(I)Z"⟩, 40) := ⟨⟨by decide +kernel, by decide +kernel⟩, List.mem_of_getElem? (i := 1020) (by decide +kernel), List.mem_of_getElem? (i := 1222) (by decide +kernel), List.mem_of_getElem? (i := 1223) (by decide +kernel)⟩
theorem lw_p46 : lw_okq (⟨"SkittleRowModel", "isPlaceHere", "()Z"⟩, 40) := ⟨⟨by decide +kernel, by decide +kernel⟩, List.mem_of_getElem? (i := 1020) (by decide +kernel), List.mem_of_getElem? (i := 1226) (by decide +kernel), List.mem_of_getElem? (i := 1227) (by decide +kernel)⟩
theorem lw_p47 : lw_okq (⟨"SkittleRowModel", "isRingHere", "()Z"⟩, 40) := ⟨⟨by decide +kernel, by decide +kernel⟩, List.mem_of_getElem? (i := 1020) (by decide +kernel), List.mem_of_getElem? (i := 1230) (by decide +kernel), List.mem_of_getElem? (i := 1231) (by decide +kernel)⟩
def lw_privs_3 : List (MethodName × Nat) := [(⟨"SkittleRowModel", "four", "(I)V"⟩, 40), (⟨"SkittleRowModel", "readsAll", "()Z"⟩, 40), (⟨"SkittleRowModel", "clauseHere", "()Z"⟩, 40), (⟨"SkittleRowModel", "see", "()I"⟩, 40), (⟨"SkittleRowModel", "isAlleyWord", "()Z"⟩, 40), (⟨"SkittleRowModel", "isWord", "(J)Z"⟩, 40), (⟨"SkittleRowModel", "isLetter", "(I)Z"⟩, 40), (⟨"SkittleRowModel", "fails", "(II)Z"⟩, 40), (⟨"SkittleRowModel", "alleyLineHere", "(I)Z"⟩, 40), (⟨"SkittleRowModel", "isAlleyHere", "(I)Z"⟩, 40), (⟨"SkittleRowModel", "passWord", "()V"⟩, 40), (⟨"SkittleRowModel", "numberHere", "(II)Z"⟩, 40), (⟨"SkittleRowModel", "isDigit", "(I)Z"⟩, 40), (⟨"SkittleRowModel", "isRowHere", "(I)Z"⟩, 40), (⟨"SkittleRowModel", "isPlaceHere", "()Z"⟩, 40), (⟨"SkittleRowModel", "isRingHere", "()Z"⟩, 40)]
theorem lw_r3 : ∀ q ∈ lw_privs_3, lw_okq q := List.forall_mem_cons.mpr ⟨lw_p32, List.forall_mem_cons.mpr ⟨lw_p33, List.forall_mem_cons.mpr ⟨lw_p34, List.forall_mem_cons.mpr ⟨lw_p35, List.forall_mem_cons.mpr ⟨lw_p36, List.forall_mem_cons.mpr ⟨lw_p37, List.forall_mem_cons.mpr ⟨lw_p38, List.forall_mem_cons.mpr ⟨lw_p39, List.forall_mem_cons.mpr ⟨lw_p40, List.forall_mem_cons.mpr ⟨lw_p41, List.forall_mem_cons.mpr ⟨lw_p42, List.forall_mem_cons.mpr ⟨lw_p43, List.forall_mem_cons.mpr ⟨lw_p44, List.forall_mem_cons.mpr ⟨lw_p45, List.forall_mem_cons.mpr ⟨lw_p46, List.forall_mem_cons.mpr ⟨lw_p47, fun _ h => absurd h List.not_mem_nil⟩⟩⟩⟩⟩⟩⟩⟩⟩⟩⟩⟩⟩⟩⟩⟩
theorem lw_p48 : lw_okq (⟨"SkittleRowModel", "isHitHere", "()Z"⟩, 40) := ⟨⟨by decide +kernel, by decide +kernel⟩, List.mem_of_getElem? (i := 1020) (by decide +kernel), List.mem_of_getElem? (i := 1234) (by decide +kernel), List.mem_of_getElem? (i := 1235) (by decide +kernel)⟩
theorem lw_p49 : lw_okq (⟨"SkittleRowModel", "isOnceHere", "(II)Z"⟩, 40) := ⟨⟨by decide +kernel, by decide +kernel⟩, List.mem_of_getElem? (i := 1020) (by decide +kernel), List.mem_of_getElem? (i := 1238) (by decide +kernel), List.mem_of_getElem? (i := 1239) (by decide +kernel)⟩
theorem lw_p50 : lw_okq (⟨"SkittleRowModel", "isStrayHere", "()Z"⟩, 40) := ⟨⟨by decide +kernel, by decide +kernel⟩, List.mem_of_getElem? (i := 1020) (by decide +kernel), List.mem_of_getElem? (i := 1242) (by decide +kernel), List.mem_of_getElem? (i := 1243) (by decide +kernel)⟩
theorem lw_p51 : lw_okq (⟨"SkittleRowModel", "isStrokeHere", "()Z"⟩, 40) := ⟨⟨by decide +kernel, by decide +kernel⟩, List.mem_of_getElem? (i := 1020) (by decide +kernel), List.mem_of_getElem? (i := 1246) (by decide +kernel), List.mem_of_getElem? (i := 1247) (by decide +kernel)⟩
theorem lw_p52 : lw_okq (⟨"SkittleRowModel", "sum", "()Z"⟩, 40) := ⟨⟨by decide +kernel, by decide +kernel⟩, List.mem_of_getElem? (i := 1020) (by decide +kernel), List.mem_of_getElem? (i := 1250) (by decide +kernel), List.mem_of_getElem? (i := 1251) (by decide +kernel)⟩
theorem lw_p53 : lw_okq (⟨"SkittleRowModel", "term", "()Z"⟩, 40) := ⟨⟨by decide +kernel, by decide +kernel⟩, List.mem_of_getElem? (i := 1020) (by decide +kernel), List.mem_of_getElem? (i := 1254) (by decide +kernel), List.mem_of_getElem? (i := 1255) (by decide +kernel)⟩
theorem lw_p54 : lw_okq (⟨"SkittleRowModel", "value", "()Z"⟩, 40) := ⟨⟨by decide +kernel, by decide +kernel⟩, List.mem_of_getElem? (i := 1020) (by decide +kernel), List.mem_of_getElem? (i := 1258) (by decide +kernel), List.mem_of_getElem? (i := 1259) (by decide +kernel)⟩
theorem lw_p55 : lw_okq (⟨"SkittleRowModel", "makes", "(I)Z"⟩, 40) := ⟨⟨by decide +kernel, by decide +kernel⟩, List.mem_of_getElem? (i := 1020) (by decide +kernel), List.mem_of_getElem? (i := 1263) (by decide +kernel), List.mem_of_getElem? (i := 1264) (by decide +kernel)⟩
theorem lw_p56 : lw_okq (⟨"SkittleRowModel", "puts", "(II)V"⟩, 40) := ⟨⟨by decide +kernel, by decide +kernel⟩, List.mem_of_getElem? (i := 1020) (by decide +kernel), List.mem_of_getElem? (i := 1267) (by decide +kernel), List.mem_of_getElem? (i := 1268) (by decide +kernel)⟩
theorem lw_p57 : lw_okq (⟨"SkittleRowModel", "wordHere", "()I"⟩, 40) := ⟨⟨by decide +kernel, by decide +kernel⟩, List.mem_of_getElem? (i := 1020) (by decide +kernel), List.mem_of_getElem? (i := 1271) (by decide +kernel), List.mem_of_getElem? (i := 1272) (by decide +kernel)⟩
theorem lw_p58 : lw_okq (⟨"SkittleRowModel", "takesWord", "(J)Z"⟩, 40) := ⟨⟨by decide +kernel, by decide +kernel⟩, List.mem_of_getElem? (i := 1020) (by decide +kernel), List.mem_of_getElem? (i := 1286) (by decide +kernel), List.mem_of_getElem? (i := 1287) (by decide +kernel)⟩
theorem lw_p59 : lw_okq (⟨"SkittleRowModel", "tested", "()Z"⟩, 40) := ⟨⟨by decide +kernel, by decide +kernel⟩, List.mem_of_getElem? (i := 1020) (by decide +kernel), List.mem_of_getElem? (i := 1290) (by decide +kernel), List.mem_of_getElem? (i := 1291) (by decide +kernel)⟩
theorem lw_p60 : lw_okq (⟨"SkittleRowModel", "fact", "()Z"⟩, 40) := ⟨⟨by decide +kernel, by decide +kernel⟩, List.mem_of_getElem? (i := 1020) (by decide +kernel), List.mem_of_getElem? (i := 1294) (by decide +kernel), List.mem_of_getElem? (i := 1295) (by decide +kernel)⟩
theorem lw_p61 : lw_okq (⟨"SkittleRowModel", "opens", "(I)Z"⟩, 40) := ⟨⟨by decide +kernel, by decide +kernel⟩, List.mem_of_getElem? (i := 1020) (by decide +kernel), List.mem_of_getElem? (i := 1299) (by decide +kernel), List.mem_of_getElem? (i := 1300) (by decide +kernel)⟩
theorem lw_p62 : lw_okq (⟨"SkittleRowModel", "compare", "()Z"⟩, 40) := ⟨⟨by decide +kernel, by decide +kernel⟩, List.mem_of_getElem? (i := 1020) (by decide +kernel), List.mem_of_getElem? (i := 1303) (by decide +kernel), List.mem_of_getElem? (i := 1304) (by decide +kernel)⟩
theorem lw_p63 : lw_okq (⟨"SkittleRowModel", "closes", "()V"⟩, 40) := ⟨⟨by decide +kernel, by decide +kernel⟩, List.mem_of_getElem? (i := 1020) (by decide +kernel), List.mem_of_getElem? (i := 1307) (by decide +kernel), List.mem_of_getElem? (i := 1308) (by decide +kernel)⟩
def lw_privs_4 : List (MethodName × Nat) := [(⟨"SkittleRowModel", "isHitHere", "()Z"⟩, 40), (⟨"SkittleRowModel", "isOnceHere", "(II)Z"⟩, 40), (⟨"SkittleRowModel", "isStrayHere", "()Z"⟩, 40), (⟨"SkittleRowModel", "isStrokeHere", "()Z"⟩, 40), (⟨"SkittleRowModel", "sum", "()Z"⟩, 40), (⟨"SkittleRowModel", "term", "()Z"⟩, 40), (⟨"SkittleRowModel", "value", "()Z"⟩, 40), (⟨"SkittleRowModel", "makes", "(I)Z"⟩, 40), (⟨"SkittleRowModel", "puts", "(II)V"⟩, 40), (⟨"SkittleRowModel", "wordHere", "()I"⟩, 40), (⟨"SkittleRowModel", "takesWord", "(J)Z"⟩, 40), (⟨"SkittleRowModel", "tested", "()Z"⟩, 40), (⟨"SkittleRowModel", "fact", "()Z"⟩, 40), (⟨"SkittleRowModel", "opens", "(I)Z"⟩, 40), (⟨"SkittleRowModel", "compare", "()Z"⟩, 40), (⟨"SkittleRowModel", "closes", "()V"⟩, 40)]
theorem lw_r4 : ∀ q ∈ lw_privs_4, lw_okq q := List.forall_mem_cons.mpr ⟨lw_p48, List.forall_mem_cons.mpr ⟨lw_p49, List.forall_mem_cons.mpr ⟨lw_p50, List.forall_mem_cons.mpr ⟨lw_p51, List.forall_mem_cons.mpr ⟨lw_p52, List.forall_mem_cons.mpr ⟨lw_p53, List.forall_mem_cons.mpr ⟨lw_p54, List.forall_mem_cons.mpr ⟨lw_p55, List.forall_mem_cons.mpr ⟨lw_p56, List.forall_mem_cons.mpr ⟨lw_p57, List.forall_mem_cons.mpr ⟨lw_p58, List.forall_mem_cons.mpr ⟨lw_p59, List.forall_mem_cons.mpr ⟨lw_p60, List.forall_mem_cons.mpr ⟨lw_p61, List.forall_mem_cons.mpr ⟨lw_p62, List.forall_mem_cons.mpr ⟨lw_p63, fun _ h => absurd h List.not_mem_nil⟩⟩⟩⟩⟩⟩⟩⟩⟩⟩⟩⟩⟩⟩⟩⟩
theorem lw_p64 : lw_okq (⟨"SkittleRowModel", "settles", "(I)V"⟩, 40) := ⟨⟨by decide +kernel, by decide +kernel⟩, List.mem_of_getElem? (i := 1020) (by decide +kernel), List.mem_of_getElem? (i := 1311) (by decide +kernel), List.mem_of_getElem? (i := 1312) (by decide +kernel)⟩
theorem lw_p65 : lw_okq (⟨"SkittleRowModel", "isInside", "()Z"⟩, 40) := ⟨⟨by decide +kernel, by decide +kernel⟩, List.mem_of_getElem? (i := 1020) (by decide +kernel), List.mem_of_getElem? (i := 1318) (by decide +kernel), List.mem_of_getElem? (i := 1319) (by decide +kernel)⟩
theorem lw_p66 : lw_okq (⟨"SkittleRowModel", "isPlace", "(I)Z"⟩, 40) := ⟨⟨by decide +kernel, by decide +kernel⟩, List.mem_of_getElem? (i := 1020) (by decide +kernel), List.mem_of_getElem? (i := 1332) (by decide +kernel), List.mem_of_getElem? (i := 1333) (by decide +kernel)⟩
theorem lw_p67 : lw_okq (⟨"SkittleRowModel", "rowOf", "(I)I"⟩, 40) := ⟨⟨by decide +kernel, by decide +kernel⟩, List.mem_of_getElem? (i := 1020) (by decide +kernel), List.mem_of_getElem? (i := 1337) (by decide +kernel), List.mem_of_getElem? (i := 1338) (by decide +kernel)⟩
theorem lw_p68 : lw_okq (⟨"SkittleRowModel", "beside", "(II)I"⟩, 40) := ⟨⟨by decide +kernel, by decide +kernel⟩, List.mem_of_getElem? (i := 1020) (by decide +kernel), List.mem_of_getElem? (i := 1341) (by decide +kernel), List.mem_of_getElem? (i := 1342) (by decide +kernel)⟩
theorem lw_p69 : lw_okq (⟨"SkittleRowModel", "isAlley", "()Z"⟩, 40) := ⟨⟨by decide +kernel, by decide +kernel⟩, List.mem_of_getElem? (i := 1020) (by decide +kernel), List.mem_of_getElem? (i := 1349) (by decide +kernel), List.mem_of_getElem? (i := 1350) (by decide +kernel)⟩
theorem lw_p70 : lw_okq (⟨"SkittleRowModel", "canBeNow", "(III)Z"⟩, 40) := ⟨⟨by decide +kernel, by decide +kernel⟩, List.mem_of_getElem? (i := 1020) (by decide +kernel), List.mem_of_getElem? (i := 1354) (by decide +kernel), List.mem_of_getElem? (i := 1355) (by decide +kernel)⟩
theorem lw_p71 : lw_okq (⟨"SkittleRowModel", "canBe", "(IIIIZ)Z"⟩, 40) := ⟨⟨by decide +kernel, by decide +kernel⟩, List.mem_of_getElem? (i := 1020) (by decide +kernel), List.mem_of_getElem? (i := 1358) (by decide +kernel), List.mem_of_getElem? (i := 1359) (by decide +kernel)⟩
theorem lw_p72 : lw_okq (⟨"SkittleRowModel", "strokeBits", "(II)I"⟩, 40) := ⟨⟨by decide +kernel, by decide +kernel⟩, List.mem_of_getElem? (i := 1020) (by decide +kernel), List.mem_of_getElem? (i := 1365) (by decide +kernel), List.mem_of_getElem? (i := 1366) (by decide +kernel)⟩
theorem lw_p73 : lw_okq (⟨"SkittleRowModel", "lastOf", "(II)I"⟩, 40) := ⟨⟨by decide +kernel, by decide +kernel⟩, List.mem_of_getElem? (i := 1020) (by decide +kernel), List.mem_of_getElem? (i := 1369) (by decide +kernel), List.mem_of_getElem? (i := 1370) (by decide +kernel)⟩
theorem lw_p74 : lw_okq (⟨"SkittleRowModel", "winsBy", "(III)Z"⟩, 40) := ⟨⟨by decide +kernel, by decide +kernel⟩, List.mem_of_getElem? (i := 1020) (by decide +kernel), List.mem_of_getElem? (i := 1373) (by decide +kernel), List.mem_of_getElem? (i := 1374) (by decide +kernel)⟩
theorem lw_p75 : lw_okq (⟨"SkittleRowModel", "isWonAt", "(I)Z"⟩, 40) := ⟨⟨by decide +kernel, by decide +kernel⟩, List.mem_of_getElem? (i := 1020) (by decide +kernel), List.mem_of_getElem? (i := 1377) (by decide +kernel), List.mem_of_getElem? (i := 1378) (by decide +kernel)⟩
theorem lw_p76 : lw_okq (⟨"SkittleRowModel", "fillsNow", "()V"⟩, 40) := ⟨⟨by decide +kernel, by decide +kernel⟩, List.mem_of_getElem? (i := 1020) (by decide +kernel), List.mem_of_getElem? (i := 1381) (by decide +kernel), List.mem_of_getElem? (i := 1382) (by decide +kernel)⟩
theorem lw_p77 : lw_okq (⟨"SkittleRowModel", "fillsWon", "(III)V"⟩, 40) := ⟨⟨by decide +kernel, by decide +kernel⟩, List.mem_of_getElem? (i := 1020) (by decide +kernel), List.mem_of_getElem? (i := 1385) (by decide +kernel), List.mem_of_getElem? (i := 1386) (by decide +kernel)⟩
theorem lw_p78 : lw_okq (⟨"SkittleRowModel", "keepsAct", "()V"⟩, 40) := ⟨⟨by decide +kernel, by decide +kernel⟩, List.mem_of_getElem? (i := 1020) (by decide +kernel), List.mem_of_getElem? (i := 1397) (by decide +kernel), List.mem_of_getElem? (i := 1398) (by decide +kernel)⟩
theorem lw_p79 : lw_okq (⟨"SkittleRowModel", "notes", "(II)V"⟩, 40) := ⟨⟨by decide +kernel, by decide +kernel⟩, List.mem_of_getElem? (i := 1020) (by decide +kernel), List.mem_of_getElem? (i := 1401) (by decide +kernel), List.mem_of_getElem? (i := 1402) (by decide +kernel)⟩
def lw_privs_5 : List (MethodName × Nat) := [(⟨"SkittleRowModel", "settles", "(I)V"⟩, 40), (⟨"SkittleRowModel", "isInside", "()Z"⟩, 40), (⟨"SkittleRowModel", "isPlace", "(I)Z"⟩, 40), (⟨"SkittleRowModel", "rowOf", "(I)I"⟩, 40), (⟨"SkittleRowModel", "beside", "(II)I"⟩, 40), (⟨"SkittleRowModel", "isAlley", "()Z"⟩, 40), (⟨"SkittleRowModel", "canBeNow", "(III)Z"⟩, 40), (⟨"SkittleRowModel", "canBe", "(IIIIZ)Z"⟩, 40), (⟨"SkittleRowModel", "strokeBits", "(II)I"⟩, 40), (⟨"SkittleRowModel", "lastOf", "(II)I"⟩, 40), (⟨"SkittleRowModel", "winsBy", "(III)Z"⟩, 40), (⟨"SkittleRowModel", "isWonAt", "(I)Z"⟩, 40), (⟨"SkittleRowModel", "fillsNow", "()V"⟩, 40), (⟨"SkittleRowModel", "fillsWon", "(III)V"⟩, 40), (⟨"SkittleRowModel", "keepsAct", "()V"⟩, 40), (⟨"SkittleRowModel", "notes", "(II)V"⟩, 40)]
theorem lw_r5 : ∀ q ∈ lw_privs_5, lw_okq q := List.forall_mem_cons.mpr ⟨lw_p64, List.forall_mem_cons.mpr ⟨lw_p65, List.forall_mem_cons.mpr ⟨lw_p66, List.forall_mem_cons.mpr ⟨lw_p67, List.forall_mem_cons.mpr ⟨lw_p68, List.forall_mem_cons.mpr ⟨lw_p69, List.forall_mem_cons.mpr ⟨lw_p70, List.forall_mem_cons.mpr ⟨lw_p71, List.forall_mem_cons.mpr ⟨lw_p72, List.forall_mem_cons.mpr ⟨lw_p73, List.forall_mem_cons.mpr ⟨lw_p74, List.forall_mem_cons.mpr ⟨lw_p75, List.forall_mem_cons.mpr ⟨lw_p76, List.forall_mem_cons.mpr ⟨lw_p77, List.forall_mem_cons.mpr ⟨lw_p78, List.forall_mem_cons.mpr ⟨lw_p79, fun _ h => absurd h List.not_mem_nil⟩⟩⟩⟩⟩⟩⟩⟩⟩⟩⟩⟩⟩⟩⟩⟩
theorem lw_p80 : lw_okq (⟨"SkittleRowModel", "clearsSeen", "()V"⟩, 40) := ⟨⟨by decide +kernel, by decide +kernel⟩, List.mem_of_getElem? (i := 1020) (by decide +kernel), List.mem_of_getElem? (i := 1429) (by decide +kernel), List.mem_of_getElem? (i := 1430) (by decide +kernel)⟩
theorem lw_p81 : lw_okq (⟨"SkittleRowModel", "leastUnseen", "()I"⟩, 40) := ⟨⟨by decide +kernel, by decide +kernel⟩, List.mem_of_getElem? (i := 1020) (by decide +kernel), List.mem_of_getElem? (i := 1433) (by decide +kernel), List.mem_of_getElem? (i := 1434) (by decide +kernel)⟩
theorem lw_p82 : lw_okq (⟨"SkittleRowModel", "fillsPlains", "()V"⟩, 40) := ⟨⟨by decide +kernel, by decide +kernel⟩, List.mem_of_getElem? (i := 1020) (by decide +kernel), List.mem_of_getElem? (i := 1442) (by decide +kernel), List.mem_of_getElem? (i := 1443) (by decide +kernel)⟩
theorem lw_p83 : lw_okq (⟨"SkittleRowModel", "comesAgain", "(II)Z"⟩, 40) := ⟨⟨by decide +kernel, by decide +kernel⟩, List.mem_of_getElem? (i := 1020) (by decide +kernel), List.mem_of_getElem? (i := 1450) (by decide +kernel), List.mem_of_getElem? (i := 1451) (by decide +kernel)⟩
theorem lw_p84 : lw_okq (⟨"SkittleRowModel", "lastsAt", "(I)I"⟩, 40) := ⟨⟨by decide +kernel, by decide +kernel⟩, List.mem_of_getElem? (i := 1020) (by decide +kernel), List.mem_of_getElem? (i := 1458) (by decide +kernel), List.mem_of_getElem? (i := 1459) (by decide +kernel)⟩
theorem lw_p85 : lw_okq (⟨"SkittleRowModel", "playsAt", "(I)I"⟩, 40) := ⟨⟨by decide +kernel, by decide +kernel⟩, List.mem_of_getElem? (i := 1020) (by decide +kernel), List.mem_of_getElem? (i := 1466) (by decide +kernel), List.mem_of_getElem? (i := 1467) (by decide +kernel)⟩
theorem lw_p86 : lw_okq (⟨"SkittleRowModel", "chanceAt", "(I)I"⟩, 40) := ⟨⟨by decide +kernel, by decide +kernel⟩, List.mem_of_getElem? (i := 1020) (by decide +kernel), List.mem_of_getElem? (i := 1479) (by decide +kernel), List.mem_of_getElem? (i := 1480) (by decide +kernel)⟩
theorem lw_p87 : lw_okq (⟨"SkittleRowModel", "strayed", "(III)I"⟩, 40) := ⟨⟨by decide +kernel, by decide +kernel⟩, List.mem_of_getElem? (i := 1020) (by decide +kernel), List.mem_of_getElem? (i := 1483) (by decide +kernel), List.mem_of_getElem? (i := 1484) (by decide +kernel)⟩
theorem lw_p88 : lw_okq (⟨"SkittleRowModel", "bestAt", "(I)I"⟩, 40) := ⟨⟨by decide +kernel, by decide +kernel⟩, List.mem_of_getElem? (i := 1020) (by decide +kernel), List.mem_of_getElem? (i := 1491) (by decide +kernel), List.mem_of_getElem? (i := 1492) (by decide +kernel)⟩
theorem lw_p89 : lw_okq (⟨"SkittleRowModel", "childAt", "(I)I"⟩, 40) := ⟨⟨by decide +kernel, by decide +kernel⟩, List.mem_of_getElem? (i := 1020) (by decide +kernel), List.mem_of_getElem? (i := 1495) (by decide +kernel), List.mem_of_getElem? (i := 1496) (by decide +kernel)⟩
theorem lw_p90 : lw_okq (⟨"SkittleRowModel", "isRule", "(I)Z"⟩, 40) := ⟨⟨by decide +kernel, by decide +kernel⟩, List.mem_of_getElem? (i := 1020) (by decide +kernel), List.mem_of_getElem? (i := 1503) (by decide +kernel), List.mem_of_getElem? (i := 1504) (by decide +kernel)⟩
theorem lw_p91 : lw_okq (⟨"SkittleRowModel", "strokeBy", "(IIII)I"⟩, 40) := ⟨⟨by decide +kernel, by decide +kernel⟩, List.mem_of_getElem? (i := 1020) (by decide +kernel), List.mem_of_getElem? (i := 1507) (by decide +kernel), List.mem_of_getElem? (i := 1508) (by decide +kernel)⟩
theorem lw_p92 : lw_okq (⟨"SkittleRowModel", "words", "(IIIII)V"⟩, 40) := ⟨⟨by decide +kernel, by decide +kernel⟩, List.mem_of_getElem? (i := 1020) (by decide +kernel), List.mem_of_getElem? (i := 1511) (by decide +kernel), List.mem_of_getElem? (i := 1512) (by decide +kernel)⟩
theorem lw_p93 : lw_okq (⟨"SkittleRowModel", "countsRuns", "(I)V"⟩, 40) := ⟨⟨by decide +kernel, by decide +kernel⟩, List.mem_of_getElem? (i := 1020) (by decide +kernel), List.mem_of_getElem? (i := 1515) (by decide +kernel), List.mem_of_getElem? (i := 1516) (by decide +kernel)⟩
theorem lw_p94 : lw_okq (⟨"SkittleRowModel", "countsRow", "(II)V"⟩, 40) := ⟨⟨by decide +kernel, by decide +kernel⟩, List.mem_of_getElem? (i := 1020) (by decide +kernel), List.mem_of_getElem? (i := 1519) (by decide +kernel), List.mem_of_getElem? (i := 1520) (by decide +kernel)⟩
theorem lw_p95 : lw_okq (⟨"SkittleRowModel", "countsRun", "(I)V"⟩, 40) := ⟨⟨by decide +kernel, by decide +kernel⟩, List.mem_of_getElem? (i := 1020) (by decide +kernel), List.mem_of_getElem? (i := 1523) (by decide +kernel), List.mem_of_getElem? (i := 1524) (by decide +kernel)⟩
def lw_privs_6 : List (MethodName × Nat) := [(⟨"SkittleRowModel", "clearsSeen", "()V"⟩, 40), (⟨"SkittleRowModel", "leastUnseen", "()I"⟩, 40), (⟨"SkittleRowModel", "fillsPlains", "()V"⟩, 40), (⟨"SkittleRowModel", "comesAgain", "(II)Z"⟩, 40), (⟨"SkittleRowModel", "lastsAt", "(I)I"⟩, 40), (⟨"SkittleRowModel", "playsAt", "(I)I"⟩, 40), (⟨"SkittleRowModel", "chanceAt", "(I)I"⟩, 40), (⟨"SkittleRowModel", "strayed", "(III)I"⟩, 40), (⟨"SkittleRowModel", "bestAt", "(I)I"⟩, 40), (⟨"SkittleRowModel", "childAt", "(I)I"⟩, 40), (⟨"SkittleRowModel", "isRule", "(I)Z"⟩, 40), (⟨"SkittleRowModel", "strokeBy", "(IIII)I"⟩, 40), (⟨"SkittleRowModel", "words", "(IIIII)V"⟩, 40), (⟨"SkittleRowModel", "countsRuns", "(I)V"⟩, 40), (⟨"SkittleRowModel", "countsRow", "(II)V"⟩, 40), (⟨"SkittleRowModel", "countsRun", "(I)V"⟩, 40)]
theorem lw_r6 : ∀ q ∈ lw_privs_6, lw_okq q := List.forall_mem_cons.mpr ⟨lw_p80, List.forall_mem_cons.mpr ⟨lw_p81, List.forall_mem_cons.mpr ⟨lw_p82, List.forall_mem_cons.mpr ⟨lw_p83, List.forall_mem_cons.mpr ⟨lw_p84, List.forall_mem_cons.mpr ⟨lw_p85, List.forall_mem_cons.mpr ⟨lw_p86, List.forall_mem_cons.mpr ⟨lw_p87, List.forall_mem_cons.mpr ⟨lw_p88, List.forall_mem_cons.mpr ⟨lw_p89, List.forall_mem_cons.mpr ⟨lw_p90, List.forall_mem_cons.mpr ⟨lw_p91, List.forall_mem_cons.mpr ⟨lw_p92, List.forall_mem_cons.mpr ⟨lw_p93, List.forall_mem_cons.mpr ⟨lw_p94, List.forall_mem_cons.mpr ⟨lw_p95, fun _ h => absurd h List.not_mem_nil⟩⟩⟩⟩⟩⟩⟩⟩⟩⟩⟩⟩⟩⟩⟩⟩
theorem lw_p96 : lw_okq (⟨"SkittleRowModel", "summedBy", "(I)J"⟩, 40) := ⟨⟨by decide +kernel, by decide +kernel⟩, List.mem_of_getElem? (i := 1020) (by decide +kernel), List.mem_of_getElem? (i := 1527) (by decide +kernel), List.mem_of_getElem? (i := 1528) (by decide +kernel)⟩
theorem lw_p97 : lw_okq (⟨"SkittleRowModel", "reckons", "(III)J"⟩, 40) := ⟨⟨by decide +kernel, by decide +kernel⟩, List.mem_of_getElem? (i := 1020) (by decide +kernel), List.mem_of_getElem? (i := 1531) (by decide +kernel), List.mem_of_getElem? (i := 1532) (by decide +kernel)⟩
theorem lw_p98 : lw_okq (⟨"SkittleRowModel", "push", "(J)V"⟩, 40) := ⟨⟨by decide +kernel, by decide +kernel⟩, List.mem_of_getElem? (i := 1020) (by decide +kernel), List.mem_of_getElem? (i := 1535) (by decide +kernel), List.mem_of_getElem? (i := 1536) (by decide +kernel)⟩
theorem lw_p99 : lw_okq (⟨"SkittleRowModel", "pop", "()J"⟩, 40) := ⟨⟨by decide +kernel, by decide +kernel⟩, List.mem_of_getElem? (i := 1020) (by decide +kernel), List.mem_of_getElem? (i := 1539) (by decide +kernel), List.mem_of_getElem? (i := 1540) (by decide +kernel)⟩
theorem lw_p100 : lw_okq (⟨"SkittleRowModel", "winner", "(I)I"⟩, 40) := ⟨⟨by decide +kernel, by decide +kernel⟩, List.mem_of_getElem? (i := 1020) (by decide +kernel), List.mem_of_getElem? (i := 1546) (by decide +kernel), List.mem_of_getElem? (i := 1547) (by decide +kernel)⟩
theorem lw_p101 : lw_okq (⟨"SkittleRowModel", "noted", "(II)I"⟩, 40) := ⟨⟨by decide +kernel, by decide +kernel⟩, List.mem_of_getElem? (i := 1020) (by decide +kernel), List.mem_of_getElem? (i := 1554) (by decide +kernel), List.mem_of_getElem? (i := 1555) (by decide +kernel)⟩
theorem lw_p102 : lw_okq (⟨"SkittleRowModel", "isOverAt", "(I)Z"⟩, 40) := ⟨⟨by decide +kernel, by decide +kernel⟩, List.mem_of_getElem? (i := 1020) (by decide +kernel), List.mem_of_getElem? (i := 1558) (by decide +kernel), List.mem_of_getElem? (i := 1559) (by decide +kernel)⟩
theorem lw_p103 : lw_okq (⟨"SkittleRowModel", "winsNoted", "(I)Z"⟩, 40) := ⟨⟨by decide +kernel, by decide +kernel⟩, List.mem_of_getElem? (i := 1020) (by decide +kernel), List.mem_of_getElem? (i := 1562) (by decide +kernel), List.mem_of_getElem? (i := 1563) (by decide +kernel)⟩
theorem lw_p104 : lw_okq (⟨"SkittleRowModel", "fitsLaw", "(IIII)Z"⟩, 40) := ⟨⟨by decide +kernel, by decide +kernel⟩, List.mem_of_getElem? (i := 1020) (by decide +kernel), List.mem_of_getElem? (i := 1570) (by decide +kernel), List.mem_of_getElem? (i := 1571) (by decide +kernel)⟩
theorem lw_p105 : lw_okq (⟨"SkittleRowModel", "playsDrawn", "(II)V"⟩, 40) := ⟨⟨by decide +kernel, by decide +kernel⟩, List.mem_of_getElem? (i := 1020) (by decide +kernel), List.mem_of_getElem? (i := 1583) (by decide +kernel), List.mem_of_getElem? (i := 1584) (by decide +kernel)⟩
theorem lw_p106 : lw_okq (⟨"SkittleRowModel", "strokeDrawn", "(I)I"⟩, 40) := ⟨⟨by decide +kernel, by decide +kernel⟩, List.mem_of_getElem? (i := 1020) (by decide +kernel), List.mem_of_getElem? (i := 1587) (by decide +kernel), List.mem_of_getElem? (i := 1588) (by decide +kernel)⟩
theorem lw_p107 : lw_okq (⟨"SkittleRowModel", "draw", "(I)I"⟩, 40) := ⟨⟨by decide +kernel, by decide +kernel⟩, List.mem_of_getElem? (i := 1020) (by decide +kernel), List.mem_of_getElem? (i := 1591) (by decide +kernel), List.mem_of_getElem? (i := 1592) (by decide +kernel)⟩
def lw_privs_7 : List (MethodName × Nat) := [(⟨"SkittleRowModel", "summedBy", "(I)J"⟩, 40), (⟨"SkittleRowModel", "reckons", "(III)J"⟩, 40), (⟨"SkittleRowModel", "push", "(J)V"⟩, 40), (⟨"SkittleRowModel", "pop", "()J"⟩, 40), (⟨"SkittleRowModel", "winner", "(I)I"⟩, 40), (⟨"SkittleRowModel", "noted", "(II)I"⟩, 40), (⟨"SkittleRowModel", "isOverAt", "(I)Z"⟩, 40), (⟨"SkittleRowModel", "winsNoted", "(I)Z"⟩, 40), (⟨"SkittleRowModel", "fitsLaw", "(IIII)Z"⟩, 40), (⟨"SkittleRowModel", "playsDrawn", "(II)V"⟩, 40), (⟨"SkittleRowModel", "strokeDrawn", "(I)I"⟩, 40), (⟨"SkittleRowModel", "draw", "(I)I"⟩, 40)]
theorem lw_r7 : ∀ q ∈ lw_privs_7, lw_okq q := List.forall_mem_cons.mpr ⟨lw_p96, List.forall_mem_cons.mpr ⟨lw_p97, List.forall_mem_cons.mpr ⟨lw_p98, List.forall_mem_cons.mpr ⟨lw_p99, List.forall_mem_cons.mpr ⟨lw_p100, List.forall_mem_cons.mpr ⟨lw_p101, List.forall_mem_cons.mpr ⟨lw_p102, List.forall_mem_cons.mpr ⟨lw_p103, List.forall_mem_cons.mpr ⟨lw_p104, List.forall_mem_cons.mpr ⟨lw_p105, List.forall_mem_cons.mpr ⟨lw_p106, List.forall_mem_cons.mpr ⟨lw_p107, fun _ h => absurd h List.not_mem_nil⟩⟩⟩⟩⟩⟩⟩⟩⟩⟩⟩⟩
def lw_privs : List (MethodName × Nat) := lw_privs_1 ++ (lw_privs_2 ++ (lw_privs_3 ++ (lw_privs_4 ++ (lw_privs_5 ++ (lw_privs_6 ++ (lw_privs_7))))))
def lw_tbl : List Cond := k2_sels lw_privs ++ tables_1
theorem lw_privs_ok : ∀ q ∈ lw_privs, lw_okq q := by
  show ∀ q ∈ lw_privs_1 ++ (lw_privs_2 ++ (lw_privs_3 ++ (lw_privs_4 ++ (lw_privs_5 ++ (lw_privs_6 ++ (lw_privs_7)))))), lw_okq q
  exact List.forall_mem_append.mpr ⟨lw_r1, List.forall_mem_append.mpr ⟨lw_r2, List.forall_mem_append.mpr ⟨lw_r3, List.forall_mem_append.mpr ⟨lw_r4, List.forall_mem_append.mpr ⟨lw_r5, List.forall_mem_append.mpr ⟨lw_r6, lw_r7⟩⟩⟩⟩⟩⟩
end
section
def RX0 : String := "SkittleRow$Acts"
def TX0 : u_T := fun k => match k with
  | 0 => ("SkittleRow$Acts", "standing", "[I", true)
  | 1 => ("SkittleRow$Acts", "turn", "[I", true)
  | 2 => ("SkittleRow$Acts", "played", "[I", true)
  | 3 => ("SkittleRow$Acts", "next", "I", false)
  | _ => ("SkittleRow$Acts", "kept", "I", false)
def tyX0 : Nat → FieldType := fun k => match k with
  | 0 => .array .int
  | 1 => .array .int
  | 2 => .array .int
  | 3 => .int
  | _ => .int
theorem nmX0 : ∀ a, a < 5 → ∀ b, b < 5 → a ≠ b → (TX0 a).2.1 ≠ (TX0 b).2.1 := by decide +kernel
theorem tyX0_ok : ∀ k, k < 5 → parseFieldDescriptor (TX0 k).2.2.1 = some (tyX0 k) := by decide +kernel
theorem inX0 : ∀ w ∈ u_ws RX0 TX0 5, w ∈ lw_tbl := by decide +kernel
def RX1 : String := "SkittleRow$Alley"
def TX1 : u_T := fun k => match k with
  | 0 => ("SkittleRow$Alley", "first", "I", false)
  | 1 => ("SkittleRow$Alley", "standing", "I", false)
  | 2 => ("SkittleRow$Alley", "places", "I", false)
  | 3 => ("SkittleRow$Alley", "rows", "I", false)
  | 4 => ("SkittleRow$Alley", "hits", "I", false)
  | 5 => ("SkittleRow$Alley", "ends", "Z", false)
  | 6 => ("SkittleRow$Alley", "last", "Z", false)
  | 7 => ("SkittleRow$Alley", "stray", "I", false)
  | 8 => ("SkittleRow$Alley", "rowOf", "[I", true)
  | 9 => ("SkittleRow$Alley", "rowFirst", "[I", true)
  | 10 => ("SkittleRow$Alley", "rowSize", "[I", true)
  | 11 => ("SkittleRow$Alley", "ring", "[Z", true)
  | 12 => ("SkittleRow$Alley", "behind", "[I", true)
  | 13 => ("SkittleRow$Alley", "ahead", "[I", true)
  | 14 => ("SkittleRow$Alley", "strokes", "[LSkittleRow$Stroke;", false)
  | 15 => ("SkittleRow$Alley", "strokesOfAnyLaw", "[LSkittleRow$Stroke;", false)
  | _ => ("SkittleRow$Alley", "plainWorths", "[I", true)
def tyX1 : Nat → FieldType := fun k => match k with
  | 0 => .int
  | 1 => .int
  | 2 => .int
  | 3 => .int
  | 4 => .int
  | 5 => .boolean
  | 6 => .boolean
  | 7 => .int
  | 8 => .array .int
  | 9 => .array .int
  | 10 => .array .int
  | 11 => .array .boolean
  | 12 => .array .int
  | 13 => .array .int
  | 14 => .array (.object "SkittleRow$Stroke")
  | 15 => .array (.object "SkittleRow$Stroke")
  | _ => .array .int
theorem nmX1 : ∀ a, a < 17 → ∀ b, b < 17 → a ≠ b → (TX1 a).2.1 ≠ (TX1 b).2.1 := by decide +kernel
theorem tyX1_ok : ∀ k, k < 17 → parseFieldDescriptor (TX1 k).2.2.1 = some (tyX1 k) := by decide +kernel
theorem inX1 : ∀ w ∈ u_ws RX1 TX1 17, w ∈ lw_tbl := by decide +kernel
def RX2 : String := "SkittleRow$AlleyReader"
def TX2 : u_T := fun k => match k with
  | 0 => ("SkittleRow$AlleyReader", "text", "LSkittleRow$Reader;", true)
  | _ => ("SkittleRow$AlleyReader", "told", "LSkittleRow$Alley;", true)
def tyX2 : Nat → FieldType := fun k => match k with
  | 0 => .object "SkittleRow$Reader"
  | _ => .object "SkittleRow$Alley"
theorem nmX2 : ∀ a, a < 2 → ∀ b, b < 2 → a ≠ b → (TX2 a).2.1 ≠ (TX2 b).2.1 := by decide +kernel
theorem tyX2_ok : ∀ k, k < 2 → parseFieldDescriptor (TX2 k).2.2.1 = some (tyX2 k) := by decide +kernel
theorem inX2 : ∀ w ∈ u_ws RX2 TX2 2, w ∈ lw_tbl := by decide +kernel
def RX3 : String := "SkittleRow$Bout"
def TX3 : u_T := fun k => match k with
  | 0 => ("SkittleRow$Bout", "look", "LSkittleRow$Look;", true)
  | 1 => ("SkittleRow$Bout", "tables", "LSkittleRow$Tables;", false)
  | 2 => ("SkittleRow$Bout", "alley", "LSkittleRow$Alley;", false)
  | 3 => ("SkittleRow$Bout", "standing", "I", false)
  | 4 => ("SkittleRow$Bout", "turn", "I", false)
  | 5 => ("SkittleRow$Bout", "played", "I", false)
  | 6 => ("SkittleRow$Bout", "x", "J", false)
  | 7 => ("SkittleRow$Bout", "wonByZero", "I", false)
  | _ => ("SkittleRow$Bout", "strokes", "I", false)
def tyX3 : Nat → FieldType := fun k => match k with
  | 0 => .object "SkittleRow$Look"
  | 1 => .object "SkittleRow$Tables"
  | 2 => .object "SkittleRow$Alley"
  | 3 => .int
  | 4 => .int
  | 5 => .int
  | 6 => .long
  | 7 => .int
  | _ => .int
theorem nmX3 : ∀ a, a < 9 → ∀ b, b < 9 → a ≠ b → (TX3 a).2.1 ≠ (TX3 b).2.1 := by decide +kernel
theorem tyX3_ok : ∀ k, k < 9 → parseFieldDescriptor (TX3 k).2.2.1 = some (tyX3 k) := by decide +kernel
theorem inX3 : ∀ w ∈ u_ws RX3 TX3 9, w ∈ lw_tbl := by decide +kernel
def RX4 : String := "SkittleRow$Look"
def TX4 : u_T := fun k => match k with
  | _ => ("SkittleRow$Look", "values", "[J", true)
def tyX4 : Nat → FieldType := fun k => match k with
  | _ => .array .long
theorem nmX4 : ∀ a, a < 1 → ∀ b, b < 1 → a ≠ b → (TX4 a).2.1 ≠ (TX4 b).2.1 := by decide +kernel
theorem tyX4_ok : ∀ k, k < 1 → parseFieldDescriptor (TX4 k).2.2.1 = some (tyX4 k) := by decide +kernel
theorem inX4 : ∀ w ∈ u_ws RX4 TX4 1, w ∈ lw_tbl := by decide +kernel
def RX5 : String := "SkittleRow$Reader"
def TX5 : u_T := fun k => match k with
  | 0 => ("SkittleRow$Reader", "text", "[C", true)
  | 1 => ("SkittleRow$Reader", "length", "I", true)
  | 2 => ("SkittleRow$Reader", "at", "I", false)
  | _ => ("SkittleRow$Reader", "fault", "I", false)
def tyX5 : Nat → FieldType := fun k => match k with
  | 0 => .array .char
  | 1 => .int
  | 2 => .int
  | _ => .int
theorem nmX5 : ∀ a, a < 4 → ∀ b, b < 4 → a ≠ b → (TX5 a).2.1 ≠ (TX5 b).2.1 := by decide +kernel
theorem tyX5_ok : ∀ k, k < 4 → parseFieldDescriptor (TX5 k).2.2.1 = some (tyX5 k) := by decide +kernel
theorem inX5 : ∀ w ∈ u_ws RX5 TX5 4, w ∈ lw_tbl := by decide +kernel
def RX6 : String := "SkittleRow$Rule"
def TX6 : u_T := fun k => match k with
  | 0 => ("SkittleRow$Rule", "code", "[I", false)
  | 1 => ("SkittleRow$Rule", "clauses", "I", false)
  | 2 => ("SkittleRow$Rule", "sumFrom", "[I", true)
  | 3 => ("SkittleRow$Rule", "testFrom", "[I", true)
  | 4 => ("SkittleRow$Rule", "testTo", "[I", true)
  | 5 => ("SkittleRow$Rule", "stack", "[J", true)
  | _ => ("SkittleRow$Rule", "words", "I", false)
def tyX6 : Nat → FieldType := fun k => match k with
  | 0 => .array .int
  | 1 => .int
  | 2 => .array .int
  | 3 => .array .int
  | 4 => .array .int
  | 5 => .array .long
  | _ => .int
theorem nmX6 : ∀ a, a < 7 → ∀ b, b < 7 → a ≠ b → (TX6 a).2.1 ≠ (TX6 b).2.1 := by decide +kernel
theorem tyX6_ok : ∀ k, k < 7 → parseFieldDescriptor (TX6 k).2.2.1 = some (tyX6 k) := by decide +kernel
theorem inX6 : ∀ w ∈ u_ws RX6 TX6 7, w ∈ lw_tbl := by decide +kernel
def RX7 : String := "SkittleRow$RuleReader"
def TX7 : u_T := fun k => match k with
  | 0 => ("SkittleRow$RuleReader", "text", "LSkittleRow$Reader;", true)
  | 1 => ("SkittleRow$RuleReader", "code", "[I", true)
  | 2 => ("SkittleRow$RuleReader", "size", "I", false)
  | _ => ("SkittleRow$RuleReader", "parts", "I", false)
def tyX7 : Nat → FieldType := fun k => match k with
  | 0 => .object "SkittleRow$Reader"
  | 1 => .array .int
  | 2 => .int
  | _ => .int
theorem nmX7 : ∀ a, a < 4 → ∀ b, b < 4 → a ≠ b → (TX7 a).2.1 ≠ (TX7 b).2.1 := by decide +kernel
theorem tyX7_ok : ∀ k, k < 4 → parseFieldDescriptor (TX7 k).2.2.1 = some (tyX7 k) := by decide +kernel
theorem inX7 : ∀ w ∈ u_ws RX7 TX7 4, w ∈ lw_tbl := by decide +kernel
def RX8 : String := "SkittleRow$State"
def TX8 : u_T := fun k => match k with
  | 0 => ("SkittleRow$State", "alley", "LSkittleRow$Alley;", false)
  | 1 => ("SkittleRow$State", "standing", "I", false)
  | 2 => ("SkittleRow$State", "turn", "I", false)
  | 3 => ("SkittleRow$State", "played", "I", false)
  | 4 => ("SkittleRow$State", "x", "I", false)
  | 5 => ("SkittleRow$State", "notePlayer", "[I", true)
  | 6 => ("SkittleRow$State", "noteStanding", "[I", true)
  | _ => ("SkittleRow$State", "noteStroke", "[LSkittleRow$Stroke;", true)
def tyX8 : Nat → FieldType := fun k => match k with
  | 0 => .object "SkittleRow$Alley"
  | 1 => .int
  | 2 => .int
  | 3 => .int
  | 4 => .int
  | 5 => .array .int
  | 6 => .array .int
  | _ => .array (.object "SkittleRow$Stroke")
theorem nmX8 : ∀ a, a < 8 → ∀ b, b < 8 → a ≠ b → (TX8 a).2.1 ≠ (TX8 b).2.1 := by decide +kernel
theorem tyX8_ok : ∀ k, k < 8 → parseFieldDescriptor (TX8 k).2.2.1 = some (tyX8 k) := by decide +kernel
theorem inX8 : ∀ w ∈ u_ws RX8 TX8 8, w ∈ lw_tbl := by decide +kernel
def RX9 : String := "SkittleRow$Stroke"
def TX9 : u_T := fun k => match k with
  | 0 => ("SkittleRow$Stroke", "place", "I", true)
  | 1 => ("SkittleRow$Stroke", "many", "I", true)
  | 2 => ("SkittleRow$Stroke", "row", "I", true)
  | 3 => ("SkittleRow$Stroke", "mask", "I", true)
  | 4 => ("SkittleRow$Stroke", "behind", "I", true)
  | 5 => ("SkittleRow$Stroke", "ahead", "I", true)
  | _ => ("SkittleRow$Stroke", "laws", "J", true)
def tyX9 : Nat → FieldType := fun k => match k with
  | 0 => .int
  | 1 => .int
  | 2 => .int
  | 3 => .int
  | 4 => .int
  | 5 => .int
  | _ => .long
theorem nmX9 : ∀ a, a < 7 → ∀ b, b < 7 → a ≠ b → (TX9 a).2.1 ≠ (TX9 b).2.1 := by decide +kernel
theorem tyX9_ok : ∀ k, k < 7 → parseFieldDescriptor (TX9 k).2.2.1 = some (tyX9 k) := by decide +kernel
theorem inX9 : ∀ w ∈ u_ws RX9 TX9 7, w ∈ lw_tbl := by decide +kernel
def RX10 : String := "SkittleRow$Tables"
def TX10 : u_T := fun k => match k with
  | 0 => ("SkittleRow$Tables", "alley", "LSkittleRow$Alley;", false)
  | 1 => ("SkittleRow$Tables", "ownLaw", "I", false)
  | 2 => ("SkittleRow$Tables", "states", "I", false)
  | 3 => ("SkittleRow$Tables", "winning", "[J", true)
  | 4 => ("SkittleRow$Tables", "lengths", "[I", true)
  | 5 => ("SkittleRow$Tables", "playCounts", "[I", true)
  | 6 => ("SkittleRow$Tables", "chances", "[I", true)
  | 7 => ("SkittleRow$Tables", "clever", "[I", true)
  | 8 => ("SkittleRow$Tables", "childish", "[I", true)
  | 9 => ("SkittleRow$Tables", "hasWinning", "Z", false)
  | 10 => ("SkittleRow$Tables", "hasLengths", "Z", false)
  | 11 => ("SkittleRow$Tables", "hasPlayCounts", "Z", false)
  | 12 => ("SkittleRow$Tables", "hasChances", "Z", false)
  | _ => ("SkittleRow$Tables", "hasClever", "Z", false)
def tyX10 : Nat → FieldType := fun k => match k with
  | 0 => .object "SkittleRow$Alley"
  | 1 => .int
  | 2 => .int
  | 3 => .array .long
  | 4 => .array .int
  | 5 => .array .int
  | 6 => .array .int
  | 7 => .array .int
  | 8 => .array .int
  | 9 => .boolean
  | 10 => .boolean
  | 11 => .boolean
  | 12 => .boolean
  | _ => .boolean
theorem nmX10 : ∀ a, a < 14 → ∀ b, b < 14 → a ≠ b → (TX10 a).2.1 ≠ (TX10 b).2.1 := by decide +kernel
theorem tyX10_ok : ∀ k, k < 14 → parseFieldDescriptor (TX10 k).2.2.1 = some (tyX10 k) := by decide +kernel
theorem inX10 : ∀ w ∈ u_ws RX10 TX10 14, w ∈ lw_tbl := by decide +kernel
def RX11 : String := "SkittleRow"
def TX11 : u_T := fun k => match k with
  | 0 => ("SkittleRow", "tape", "[C", true)
  | 1 => ("SkittleRow", "tapeLength", "I", false)
  | 2 => ("SkittleRow", "rules", "[LSkittleRow$Rule;", true)
  | 3 => ("SkittleRow", "ruleCount", "I", false)
  | 4 => ("SkittleRow", "now", "LSkittleRow$State;", true)
  | 5 => ("SkittleRow", "images", "[LSkittleRow$State;", true)
  | 6 => ("SkittleRow", "acts", "LSkittleRow$Acts;", true)
  | 7 => ("SkittleRow", "tables", "LSkittleRow$Tables;", true)
  | _ => ("SkittleRow", "bout", "LSkittleRow$Bout;", true)
def tyX11 : Nat → FieldType := fun k => match k with
  | 0 => .array .char
  | 1 => .int
  | 2 => .array (.object "SkittleRow$Rule")
  | 3 => .int
  | 4 => .object "SkittleRow$State"
  | 5 => .array (.object "SkittleRow$State")
  | 6 => .object "SkittleRow$Acts"
  | 7 => .object "SkittleRow$Tables"
  | _ => .object "SkittleRow$Bout"
theorem nmX11 : ∀ a, a < 9 → ∀ b, b < 9 → a ≠ b → (TX11 a).2.1 ≠ (TX11 b).2.1 := by decide +kernel
theorem tyX11_ok : ∀ k, k < 9 → parseFieldDescriptor (TX11 k).2.2.1 = some (tyX11 k) := by decide +kernel
theorem inX11 : ∀ w ∈ u_ws RX11 TX11 9, w ∈ lw_tbl := by decide +kernel
def RX12 : String := "SkittleRowModel"
def TX12 : u_T := fun k => match k with
  | 0 => ("SkittleRowModel", "tape", "[B", true)
  | 1 => ("SkittleRowModel", "taped", "I", false)
  | 2 => ("SkittleRowModel", "rules", "I", false)
  | 3 => ("SkittleRowModel", "sign", "[I", true)
  | 4 => ("SkittleRowModel", "length", "[I", true)
  | 5 => ("SkittleRowModel", "clause", "[I", true)
  | 6 => ("SkittleRowModel", "clauses", "[I", true)
  | 7 => ("SkittleRowModel", "read", "[I", true)
  | 8 => ("SkittleRowModel", "next", "I", false)
  | 9 => ("SkittleRowModel", "wrong", "I", false)
  | 10 => ("SkittleRowModel", "number", "I", false)
  | 11 => ("SkittleRowModel", "text", "I", false)
  | 12 => ("SkittleRowModel", "made", "I", false)
  | 13 => ("SkittleRowModel", "deep", "I", false)
  | 14 => ("SkittleRowModel", "lines", "I", false)
  | 15 => ("SkittleRowModel", "open", "[I", true)
  | 16 => ("SkittleRowModel", "opened", "I", false)
  | 17 => ("SkittleRowModel", "stack", "[J", true)
  | 18 => ("SkittleRowModel", "top", "I", false)
  | 19 => ("SkittleRowModel", "word", "[J", true)
  | 20 => ("SkittleRowModel", "said", "[I", true)
  | 21 => ("SkittleRowModel", "x", "I", false)
  | 22 => ("SkittleRowModel", "won", "[Z", true)
  | 23 => ("SkittleRowModel", "tableLaw", "I", false)
  | 24 => ("SkittleRowModel", "wasSaid", "[I", true)
  | 25 => ("SkittleRowModel", "undone", "I", false)
  | 26 => ("SkittleRowModel", "worths", "[I", true)
  | 27 => ("SkittleRowModel", "seen", "[Z", true)
  | 28 => ("SkittleRowModel", "plains", "[I", true)
  | 29 => ("SkittleRowModel", "table", "[I", true)
  | 30 => ("SkittleRowModel", "other", "[I", true)
  | 31 => ("SkittleRowModel", "runsMany", "I", false)
  | 32 => ("SkittleRowModel", "runsLongest", "I", false)
  | 33 => ("SkittleRowModel", "runsAlone", "I", false)
  | 34 => ("SkittleRowModel", "drawX", "J", false)
  | 35 => ("SkittleRowModel", "drawnWins", "I", false)
  | 36 => ("SkittleRowModel", "drawnStrokes", "I", false)
  | 37 => ("SkittleRowModel", "images", "[I", true)
  | 38 => ("SkittleRowModel", "imageX", "[I", true)
  | _ => ("SkittleRowModel", "isMade", "[Z", true)
def tyX12 : Nat → FieldType := fun k => match k with
  | 0 => .array .byte
  | 1 => .int
  | 2 => .int
  | 3 => .array .int
  | 4 => .array .int
  | 5 => .array .int
  | 6 => .array .int
  | 7 => .array .int
  | 8 => .int
  | 9 => .int
  | 10 => .int
  | 11 => .int
  | 12 => .int
  | 13 => .int
  | 14 => .int
  | 15 => .array .int
  | 16 => .int
  | 17 => .array .long
  | 18 => .int
  | 19 => .array .long
  | 20 => .array .int
  | 21 => .int
  | 22 => .array .boolean
  | 23 => .int
  | 24 => .array .int
  | 25 => .int
  | 26 => .array .int
  | 27 => .array .boolean
  | 28 => .array .int
  | 29 => .array .int
  | 30 => .array .int
  | 31 => .int
  | 32 => .int
  | 33 => .int
  | 34 => .long
  | 35 => .int
  | 36 => .int
  | 37 => .array .int
  | 38 => .array .int
  | _ => .array .boolean
theorem nmX12 : ∀ a, a < 40 → ∀ b, b < 40 → a ≠ b → (TX12 a).2.1 ≠ (TX12 b).2.1 := by decide +kernel
theorem tyX12_ok : ∀ k, k < 40 → parseFieldDescriptor (TX12 k).2.2.1 = some (tyX12 k) := by decide +kernel
theorem inX12 : ∀ w ∈ u_ws RX12 TX12 40, w ∈ lw_tbl := by decide +kernel
def vwCl : List vw_C := [(RX0, TX0, 5), (RX1, TX1, 17), (RX2, TX2, 2), (RX3, TX3, 9), (RX4, TX4, 1), (RX5, TX5, 4), (RX6, TX6, 7), (RX7, TX7, 4), (RX8, TX8, 8), (RX9, TX9, 7), (RX10, TX10, 14), (RX11, TX11, 9), (RX12, TX12, 40)]
def vwTy : Nat → Nat → FieldType := fun c => match c with
  | 0 => tyX0
  | 1 => tyX1
  | 2 => tyX2
  | 3 => tyX3
  | 4 => tyX4
  | 5 => tyX5
  | 6 => tyX6
  | 7 => tyX7
  | 8 => tyX8
  | 9 => tyX9
  | 10 => tyX10
  | 11 => tyX11
  | _ => tyX12
/-- the tags of the fields, by kind less one -/
def sk_ft : Nat → List Nat := fun c => match c with
  | 0 => [2, 2, 2, 0, 0]
  | 1 => [0, 0, 0, 0, 0, 3, 3, 0, 2, 2, 2, 2, 2, 2, 2, 2, 2]
  | 2 => [2, 2]
  | 3 => [2, 2, 2, 0, 0, 0, 1, 0, 0]
  | 4 => [2]
  | 5 => [2, 0, 0, 0]
  | 6 => [2, 0, 2, 2, 2, 2, 0]
  | 7 => [2, 2, 0, 0]
  | 8 => [2, 0, 0, 0, 0, 2, 2, 2]
  | 9 => [0, 0, 0, 0, 0, 0, 1]
  | 10 => [2, 0, 0, 2, 2, 2, 2, 2, 2, 3, 3, 3, 3, 3]
  | 11 => [2, 0, 2, 0, 2, 2, 2, 2, 2]
  | 12 => [2, 0, 0, 2, 2, 2, 2, 2, 0, 0, 0, 0, 0, 0, 0, 2, 0, 2, 0, 2, 2, 0, 2, 0, 2, 0, 2, 2, 2, 2, 2, 0, 0, 0, 1, 0, 0, 2, 2, 2]
  | _ => []
def sk_info : List (MethodName × ByteArray × Nat × Option FieldType × Nat) := [
  (⟨"SkittleRow$Acts", "<init>", "()V"⟩, prog_2_method_1_code, 1, none, 0),
  (⟨"SkittleRow$Acts", "forget", "()V"⟩, prog_2_method_2_code, 1, none, 0),
  (⟨"SkittleRow$Acts", "keep", "(LSkittleRow$State;)V"⟩, prog_2_method_3_code, 2, none, 1),
  (⟨"SkittleRow$Acts", "takeBack", "(LSkittleRow$State;)I"⟩, prog_2_method_4_code, 2, some .int, 0),
  (⟨"SkittleRow$Alley", "<init>", "()V"⟩, prog_3_method_1_code, 1, none, 0),
  (⟨"SkittleRow$Alley", "addPlace", "(Z)V"⟩, prog_3_method_2_code, 3, none, 0),
  (⟨"SkittleRow$Alley", "settle", "()V"⟩, prog_3_method_3_code, 4, none, 3),
  (⟨"SkittleRow$Alley", "listStrokes", "()V"⟩, prog_3_method_4_code, 7, none, 2),
  (⟨"SkittleRow$Alley", "chosen", "([LSkittleRow$Stroke;II)[LSkittleRow$Stroke;"⟩, prog_3_method_5_code, 7, some (.array (.object "SkittleRow$Stroke")), 1),
  (⟨"SkittleRow$Alley", "hasHit", "(II)Z"⟩, prog_3_method_6_code, 2, some .boolean, 0),
  (⟨"SkittleRow$Alley", "bitOf", "(I)I"⟩, prog_3_method_7_code, 1, some .int, 0),
  (⟨"SkittleRow$Alley", "allows", "(ILSkittleRow$Stroke;)Z"⟩, prog_3_method_8_code, 3, some .boolean, 1),
  (⟨"SkittleRow$Alley", "strokeOf", "(III)LSkittleRow$Stroke;"⟩, prog_3_method_9_code, 8, some (.object "SkittleRow$Stroke"), 2),
  (⟨"SkittleRow$Alley", "plainLeavings", "(I)J"⟩, prog_3_method_10_code, 7, some .long, 1),
  (⟨"SkittleRow$Alley", "leastLeftOut", "(J)I"⟩, prog_3_method_11_code, 2, some .int, 2),
  (⟨"SkittleRow$Alley", "isWholeRing", "(II)Z"⟩, prog_3_method_12_code, 4, some .boolean, 0),
  (⟨"SkittleRow$Alley", "runFrom", "(II)I"⟩, prog_3_method_13_code, 6, some .int, 1),
  (⟨"SkittleRow$Alley", "rowWorth", "(II)I"⟩, prog_3_method_14_code, 5, some .int, 3),
  (⟨"SkittleRow$Alley", "ringLeavings", "(I)J"⟩, prog_3_method_15_code, 5, some .long, 1),
  (⟨"SkittleRow$Alley", "sameFrom", "(I)I"⟩, prog_3_method_16_code, 3, some .int, 0),
  (⟨"SkittleRow$Alley", "number", "(I)I"⟩, prog_3_method_17_code, 2, some .int, 0),
  (⟨"SkittleRow$AlleyReader", "<init>", "(LSkittleRow$Reader;)V"⟩, prog_4_method_1_code, 2, none, 1),
  (⟨"SkittleRow$AlleyReader", "read", "()LSkittleRow$Alley;"⟩, prog_4_method_2_code, 2, some (.object "SkittleRow$Alley"), 8),
  (⟨"SkittleRow$AlleyReader", "readClause", "(I)V"⟩, prog_4_method_3_code, 3, none, 7),
  (⟨"SkittleRow$AlleyReader", "isTooMany", "(II)Z"⟩, prog_4_method_4_code, 3, some .boolean, 0),
  (⟨"SkittleRow$AlleyReader", "readRow", "()V"⟩, prog_4_method_5_code, 1, none, 1),
  (⟨"SkittleRow$AlleyReader", "isPlace", "(I)Z"⟩, prog_4_method_6_code, 1, some .boolean, 0),
  (⟨"SkittleRow$AlleyReader", "readRing", "()V"⟩, prog_4_method_7_code, 3, none, 2),
  (⟨"SkittleRow$AlleyReader", "readHit", "()V"⟩, prog_4_method_8_code, 2, none, 2),
  (⟨"SkittleRow$Bout", "<init>", "()V"⟩, prog_5_method_1_code, 1, none, 1),
  (⟨"SkittleRow$Bout", "playTimes", "(LSkittleRow$State;LSkittleRow$Tables;LSkittleRow$Rule;LSkittleRow$Rule;I)V"⟩, prog_5_method_2_code, 7, none, 6),
  (⟨"SkittleRow$Bout", "playOut", "(LSkittleRow$Rule;LSkittleRow$Rule;)V"⟩, prog_5_method_3_code, 6, none, 5),
  (⟨"SkittleRow$Bout", "bestBy", "(LSkittleRow$Rule;)LSkittleRow$Stroke;"⟩, prog_5_method_4_code, 11, some (.object "SkittleRow$Stroke"), 4),
  (⟨"SkittleRow$Bout", "drawn", "()LSkittleRow$Stroke;"⟩, prog_5_method_5_code, 8, some (.object "SkittleRow$Stroke"), 2),
  (⟨"SkittleRow$Look", "<init>", "()V"⟩, prog_6_method_1_code, 1, none, 0),
  (⟨"SkittleRow$Look", "word", "(I)J"⟩, prog_6_method_2_code, 2, some .long, 0),
  (⟨"SkittleRow$Look", "lookAt", "(LSkittleRow$Bout;LSkittleRow$Stroke;I)V"⟩, prog_6_method_3_code, 5, none, 3),
  (⟨"SkittleRow$Look", "countRuns", "(LSkittleRow$Alley;I)V"⟩, prog_6_method_4_code, 8, none, 2),
  (⟨"SkittleRow$Reader", "<init>", "([CI)V"⟩, prog_7_method_1_code, 3, none, 1),
  (⟨"SkittleRow$Reader", "sound", "()Z"⟩, prog_7_method_2_code, 1, some .boolean, 0),
  (⟨"SkittleRow$Reader", "refuse", "(II)V"⟩, prog_7_method_3_code, 3, none, 0),
  (⟨"SkittleRow$Reader", "look", "()I"⟩, prog_7_method_4_code, 1, some .int, 0),
  (⟨"SkittleRow$Reader", "next", "()I"⟩, prog_7_method_5_code, 1, some .int, 0),
  (⟨"SkittleRow$Reader", "takes", "(I)Z"⟩, prog_7_method_6_code, 2, some .boolean, 1),
  (⟨"SkittleRow$Reader", "wordOf", "(Ljava/lang/String;)I"⟩, prog_7_method_7_code, 5, some .int, 6),
  (⟨"SkittleRow$Reader", "isWord", "(Ljava/lang/String;II)Z"⟩, prog_7_method_8_code, 6, some .boolean, 5),
  (⟨"SkittleRow$Reader", "skipWord", "()V"⟩, prog_7_method_9_code, 1, none, 0),
  (⟨"SkittleRow$Reader", "takesWord", "(Ljava/lang/String;)Z"⟩, prog_7_method_10_code, 2, some .boolean, 7),
  (⟨"SkittleRow$Reader", "isDigit", "(I)Z"⟩, prog_7_method_11_code, 1, some .boolean, 0),
  (⟨"SkittleRow$Reader", "number", "(II)I"⟩, prog_7_method_12_code, 5, some .int, 1),
  (⟨"SkittleRow$Reader", "goesOn", "()Z"⟩, prog_7_method_13_code, 1, some .boolean, 2),
  (⟨"SkittleRow$Rule", "<init>", "()V"⟩, prog_8_method_1_code, 1, none, 0),
  (⟨"SkittleRow$Rule", "addClause", "(III)V"⟩, prog_8_method_2_code, 4, none, 0),
  (⟨"SkittleRow$Rule", "settle", "([II)V"⟩, prog_8_method_3_code, 5, none, 1),
  (⟨"SkittleRow$Rule", "valueOf", "(LSkittleRow$Look;)J"⟩, prog_8_method_4_code, 4, some .long, 2),
  (⟨"SkittleRow$Rule", "reckon", "(IILSkittleRow$Look;)J"⟩, prog_8_method_5_code, 7, some .long, 1),
  (⟨"SkittleRow$Rule", "join", "(IJJ)J"⟩, prog_8_method_6_code, 5, some .long, 0),
  (⟨"SkittleRow$RuleReader", "<init>", "(LSkittleRow$Reader;)V"⟩, prog_9_method_1_code, 2, none, 0),
  (⟨"SkittleRow$RuleReader", "read", "()LSkittleRow$Rule;"⟩, prog_9_method_2_code, 3, some (.object "SkittleRow$Rule"), 10),
  (⟨"SkittleRow$RuleReader", "readClause", "(ILSkittleRow$Rule;)V"⟩, prog_9_method_3_code, 5, none, 9),
  (⟨"SkittleRow$RuleReader", "readTest", "(I)V"⟩, prog_9_method_4_code, 3, none, 8),
  (⟨"SkittleRow$RuleReader", "readPart", "(I)V"⟩, prog_9_method_5_code, 3, none, 8),
  (⟨"SkittleRow$RuleReader", "readFact", "(I)V"⟩, prog_9_method_6_code, 4, none, 10),
  (⟨"SkittleRow$RuleReader", "readComparison", "()V"⟩, prog_9_method_7_code, 2, none, 9),
  (⟨"SkittleRow$RuleReader", "readSign", "()I"⟩, prog_9_method_8_code, 4, some .int, 2),
  (⟨"SkittleRow$RuleReader", "readSum", "()V"⟩, prog_9_method_9_code, 4, none, 8),
  (⟨"SkittleRow$RuleReader", "codeOf", "(I)I"⟩, prog_9_method_10_code, 1, some .int, 0),
  (⟨"SkittleRow$RuleReader", "readValue", "()V"⟩, prog_9_method_11_code, 5, none, 7),
  (⟨"SkittleRow$RuleReader", "countPart", "(I)V"⟩, prog_9_method_12_code, 2, none, 1),
  (⟨"SkittleRow$RuleReader", "put", "(I)V"⟩, prog_9_method_13_code, 2, none, 1),
  (⟨"SkittleRow$State", "<init>", "()V"⟩, prog_10_method_1_code, 1, none, 0),
  (⟨"SkittleRow$State", "begin", "(LSkittleRow$Alley;)V"⟩, prog_10_method_2_code, 2, none, 0),
  (⟨"SkittleRow$State", "noted", "()I"⟩, prog_10_method_3_code, 1, some .int, 1),
  (⟨"SkittleRow$State", "strokeNoted", "(II)LSkittleRow$Stroke;"⟩, prog_10_method_4_code, 3, some (.object "SkittleRow$Stroke"), 2),
  (⟨"SkittleRow$State", "play", "(LSkittleRow$Stroke;)V"⟩, prog_10_method_5_code, 2, none, 0),
  (⟨"SkittleRow$State", "copyOf", "(LSkittleRow$State;)V"⟩, prog_10_method_6_code, 3, none, 0),
  (⟨"SkittleRow$Stroke", "<init>", "(IIIIII)V"⟩, prog_11_method_1_code, 7, none, 0),
  (⟨"SkittleRow$Stroke", "hasEndIn", "(I)Z"⟩, prog_11_method_2_code, 2, some .boolean, 0),
  (⟨"SkittleRow$Tables", "<init>", "()V"⟩, prog_12_method_1_code, 1, none, 1),
  (⟨"SkittleRow$Tables", "use", "(LSkittleRow$Alley;)V"⟩, prog_12_method_2_code, 2, none, 0),
  (⟨"SkittleRow$Tables", "fillWinning", "()V"⟩, prog_12_method_3_code, 12, none, 1),
  (⟨"SkittleRow$Tables", "canWin", "(I)Z"⟩, prog_12_method_4_code, 2, some .boolean, 2),
  (⟨"SkittleRow$Tables", "winsBy", "(ILSkittleRow$Stroke;)Z"⟩, prog_12_method_5_code, 3, some .boolean, 3),
  (⟨"SkittleRow$Tables", "lawsBehind", "(ILSkittleRow$Stroke;)J"⟩, prog_12_method_6_code, 5, some .long, 2),
  (⟨"SkittleRow$Tables", "fillLengths", "()V"⟩, prog_12_method_7_code, 10, none, 4),
  (⟨"SkittleRow$Tables", "lengthAt", "(I)I"⟩, prog_12_method_8_code, 2, some .int, 5),
  (⟨"SkittleRow$Tables", "fillPlayCounts", "()V"⟩, prog_12_method_9_code, 9, none, 2),
  (⟨"SkittleRow$Tables", "playsAt", "(I)I"⟩, prog_12_method_10_code, 2, some .int, 3),
  (⟨"SkittleRow$Tables", "fillChances", "()V"⟩, prog_12_method_11_code, 11, none, 2),
  (⟨"SkittleRow$Tables", "chanceAt", "(I)I"⟩, prog_12_method_12_code, 2, some .int, 3),
  (⟨"SkittleRow$Tables", "fillClever", "()V"⟩, prog_12_method_13_code, 10, none, 2),
  (⟨"SkittleRow$Tables", "childAt", "(I)I"⟩, prog_12_method_14_code, 2, some .int, 3),
  (⟨"SkittleRow", "<init>", "()V"⟩, prog_1_method_1_code, 1, none, 2),
  (⟨"SkittleRow", "feed", "(IIIII)I"⟩, prog_1_method_2_code, 6, some .int, 1),
  (⟨"SkittleRow", "putBytes", "(I)V"⟩, prog_1_method_3_code, 3, none, 0),
  (⟨"SkittleRow", "end", "(I)I"⟩, prog_1_method_4_code, 2, some .int, 0),
  (⟨"SkittleRow", "alley", "()I"⟩, prog_1_method_5_code, 3, some .int, 9),
  (⟨"SkittleRow", "rule", "()I"⟩, prog_1_method_6_code, 3, some .int, 11),
  (⟨"SkittleRow", "place", "(II)I"⟩, prog_1_method_7_code, 4, some .int, 0),
  (⟨"SkittleRow", "can", "(II)I"⟩, prog_1_method_8_code, 4, some .int, 4),
  (⟨"SkittleRow", "stroke", "(II)I"⟩, prog_1_method_9_code, 4, some .int, 3),
  (⟨"SkittleRow", "up", "(I)I"⟩, prog_1_method_10_code, 2, some .int, 2),
  (⟨"SkittleRow", "pass", "()I"⟩, prog_1_method_11_code, 1, some .int, 2),
  (⟨"SkittleRow", "undo", "()I"⟩, prog_1_method_12_code, 1, some .int, 1),
  (⟨"SkittleRow", "won", "()I"⟩, prog_1_method_13_code, 1, some .int, 3),
  (⟨"SkittleRow", "wins", "(I)I"⟩, prog_1_method_14_code, 8, some .int, 4),
  (⟨"SkittleRow", "worth", "(I)I"⟩, prog_1_method_15_code, 2, some .int, 4),
  (⟨"SkittleRow", "plain", "(I)I"⟩, prog_1_method_16_code, 2, some .int, 0),
  (⟨"SkittleRow", "again", "(I)I"⟩, prog_1_method_17_code, 4, some .int, 1),
  (⟨"SkittleRow", "lasts", "()I"⟩, prog_1_method_18_code, 1, some .int, 6),
  (⟨"SkittleRow", "plays", "()I"⟩, prog_1_method_19_code, 1, some .int, 4),
  (⟨"SkittleRow", "fair", "(I)I"⟩, prog_1_method_20_code, 3, some .int, 4),
  (⟨"SkittleRow", "fairSet", "()I"⟩, prog_1_method_21_code, 5, some .int, 3),
  (⟨"SkittleRow", "chance", "()I"⟩, prog_1_method_22_code, 1, some .int, 4),
  (⟨"SkittleRow", "child", "()I"⟩, prog_1_method_23_code, 1, some .int, 4),
  (⟨"SkittleRow", "match", "(III)I"⟩, prog_1_method_24_code, 4, some .int, 7),
  (⟨"SkittleRow", "isRule", "(I)Z"⟩, prog_1_method_25_code, 2, some .boolean, 0),
  (⟨"SkittleRow", "knew", "(II)I"⟩, prog_1_method_26_code, 10, some .int, 4),
  (⟨"SkittleRow", "law", "(II)I"⟩, prog_1_method_27_code, 7, some .int, 3),
  (⟨"SkittleRow", "seed", "(I)I"⟩, prog_1_method_28_code, 3, some .int, 0),
  (⟨"SkittleRow", "games", "(II)I"⟩, prog_1_method_29_code, 3, some .int, 7),
  (⟨"SkittleRow", "against", "(III)I"⟩, prog_1_method_30_code, 4, some .int, 7),
  (⟨"SkittleRow", "count", "(I)I"⟩, prog_1_method_31_code, 2, some .int, 1),
  (⟨"SkittleRow", "image", "(I)I"⟩, prog_1_method_32_code, 2, some .int, 1),
  (⟨"SkittleRow", "back", "(I)I"⟩, prog_1_method_33_code, 2, some .int, 1),
  (⟨"SkittleRowModel", "<init>", "()V"⟩, prog_14_method_1_code, 1, none, 0),
  (⟨"SkittleRowModel", "in", "(JJJ)Z"⟩, prog_14_method_2_code, 6, some .boolean, 0),
  (⟨"SkittleRowModel", "isOf", "(II)Z"⟩, prog_14_method_3_code, 2, some .boolean, 0),
  (⟨"SkittleRowModel", "bits", "(I)I"⟩, prog_14_method_4_code, 3, some .int, 0),
  (⟨"SkittleRowModel", "four", "(I)V"⟩, prog_14_method_5_code, 3, none, 0),
  (⟨"SkittleRowModel", "feed", "(IIIII)I"⟩, prog_14_method_6_code, 6, some .int, 1),
  (⟨"SkittleRowModel", "end", "(I)I"⟩, prog_14_method_7_code, 2, some .int, 0),
  (⟨"SkittleRowModel", "fails", "(II)Z"⟩, prog_14_method_8_code, 3, some .boolean, 0),
  (⟨"SkittleRowModel", "see", "()I"⟩, prog_14_method_9_code, 1, some .int, 0),
  (⟨"SkittleRowModel", "isDigit", "(I)Z"⟩, prog_14_method_10_code, 2, some .boolean, 0),
  (⟨"SkittleRowModel", "isLetter", "(I)Z"⟩, prog_14_method_11_code, 2, some .boolean, 0),
  (⟨"SkittleRowModel", "isWord", "(J)Z"⟩, prog_14_method_12_code, 6, some .boolean, 1),
  (⟨"SkittleRowModel", "passWord", "()V"⟩, prog_14_method_13_code, 1, none, 1),
  (⟨"SkittleRowModel", "takesWord", "(J)Z"⟩, prog_14_method_14_code, 3, some .boolean, 2),
  (⟨"SkittleRowModel", "numberHere", "(II)Z"⟩, prog_14_method_15_code, 5, some .boolean, 1),
  (⟨"SkittleRowModel", "wordHere", "()I"⟩, prog_14_method_16_code, 1, some .int, 2),
  (⟨"SkittleRowModel", "puts", "(II)V"⟩, prog_14_method_17_code, 3, none, 0),
  (⟨"SkittleRowModel", "makes", "(I)Z"⟩, prog_14_method_18_code, 2, some .boolean, 1),
  (⟨"SkittleRowModel", "opens", "(I)Z"⟩, prog_14_method_19_code, 2, some .boolean, 1),
  (⟨"SkittleRowModel", "strength", "(I)I"⟩, prog_14_method_20_code, 1, some .int, 0),
  (⟨"SkittleRowModel", "settles", "(I)V"⟩, prog_14_method_21_code, 2, none, 1),
  (⟨"SkittleRowModel", "value", "()Z"⟩, prog_14_method_22_code, 3, some .boolean, 3),
  (⟨"SkittleRowModel", "term", "()Z"⟩, prog_14_method_23_code, 2, some .boolean, 4),
  (⟨"SkittleRowModel", "sum", "()Z"⟩, prog_14_method_24_code, 2, some .boolean, 5),
  (⟨"SkittleRowModel", "compare", "()Z"⟩, prog_14_method_25_code, 5, some .boolean, 6),
  (⟨"SkittleRowModel", "fact", "()Z"⟩, prog_14_method_26_code, 3, some .boolean, 7),
  (⟨"SkittleRowModel", "isInside", "()Z"⟩, prog_14_method_27_code, 2, some .boolean, 0),
  (⟨"SkittleRowModel", "closes", "()V"⟩, prog_14_method_28_code, 1, none, 2),
  (⟨"SkittleRowModel", "tested", "()Z"⟩, prog_14_method_29_code, 3, some .boolean, 8),
  (⟨"SkittleRowModel", "isStrokeHere", "()Z"⟩, prog_14_method_30_code, 2, some .boolean, 9),
  (⟨"SkittleRowModel", "isAlleyHere", "(I)Z"⟩, prog_14_method_31_code, 2, some .boolean, 2),
  (⟨"SkittleRowModel", "isPlaceHere", "()Z"⟩, prog_14_method_32_code, 1, some .boolean, 0),
  (⟨"SkittleRowModel", "isRowHere", "(I)Z"⟩, prog_14_method_33_code, 3, some .boolean, 2),
  (⟨"SkittleRowModel", "isRingHere", "()Z"⟩, prog_14_method_34_code, 2, some .boolean, 2),
  (⟨"SkittleRowModel", "isHitHere", "()Z"⟩, prog_14_method_35_code, 1, some .boolean, 2),
  (⟨"SkittleRowModel", "isOnceHere", "(II)Z"⟩, prog_14_method_36_code, 3, some .boolean, 2),
  (⟨"SkittleRowModel", "isStrayHere", "()Z"⟩, prog_14_method_37_code, 1, some .boolean, 2),
  (⟨"SkittleRowModel", "alleyLineHere", "(I)Z"⟩, prog_14_method_38_code, 2, some .boolean, 3),
  (⟨"SkittleRowModel", "isAlleyWord", "()Z"⟩, prog_14_method_39_code, 2, some .boolean, 2),
  (⟨"SkittleRowModel", "clauseHere", "()Z"⟩, prog_14_method_40_code, 3, some .boolean, 10),
  (⟨"SkittleRowModel", "readsAll", "()Z"⟩, prog_14_method_41_code, 2, some .boolean, 11),
  (⟨"SkittleRowModel", "rule", "()I"⟩, prog_14_method_42_code, 1, some .int, 12),
  (⟨"SkittleRowModel", "alley", "()I"⟩, prog_14_method_43_code, 2, some .int, 12),
  (⟨"SkittleRowModel", "isRule", "(I)Z"⟩, prog_14_method_44_code, 2, some .boolean, 0),
  (⟨"SkittleRowModel", "push", "(J)V"⟩, prog_14_method_45_code, 3, none, 0),
  (⟨"SkittleRowModel", "pop", "()J"⟩, prog_14_method_46_code, 1, some .long, 0),
  (⟨"SkittleRowModel", "one", "(IJJ)J"⟩, prog_14_method_47_code, 5, some .long, 0),
  (⟨"SkittleRowModel", "reckons", "(III)J"⟩, prog_14_method_48_code, 11, some .long, 1),
  (⟨"SkittleRowModel", "isAlley", "()Z"⟩, prog_14_method_49_code, 1, some .boolean, 0),
  (⟨"SkittleRowModel", "isPlace", "(I)Z"⟩, prog_14_method_50_code, 2, some .boolean, 0),
  (⟨"SkittleRowModel", "rowOf", "(I)I"⟩, prog_14_method_51_code, 3, some .int, 0),
  (⟨"SkittleRowModel", "beside", "(II)I"⟩, prog_14_method_52_code, 5, some .int, 1),
  (⟨"SkittleRowModel", "strokeBits", "(II)I"⟩, prog_14_method_53_code, 6, some .int, 2),
  (⟨"SkittleRowModel", "lastOf", "(II)I"⟩, prog_14_method_54_code, 5, some .int, 2),
  (⟨"SkittleRowModel", "canBe", "(IIIIZ)Z"⟩, prog_14_method_55_code, 10, some .boolean, 3),
  (⟨"SkittleRowModel", "canBeNow", "(III)Z"⟩, prog_14_method_56_code, 4, some .boolean, 4),
  (⟨"SkittleRowModel", "fillsWon", "(III)V"⟩, prog_14_method_57_code, 10, none, 4),
  (⟨"SkittleRowModel", "fillsNow", "()V"⟩, prog_14_method_58_code, 1, none, 5),
  (⟨"SkittleRowModel", "isWonAt", "(I)Z"⟩, prog_14_method_59_code, 2, some .boolean, 6),
  (⟨"SkittleRowModel", "winsBy", "(III)Z"⟩, prog_14_method_60_code, 4, some .boolean, 7),
  (⟨"SkittleRowModel", "isOverAt", "(I)Z"⟩, prog_14_method_61_code, 4, some .boolean, 5),
  (⟨"SkittleRowModel", "place", "(II)I"⟩, prog_14_method_62_code, 3, some .int, 2),
  (⟨"SkittleRowModel", "can", "(II)I"⟩, prog_14_method_63_code, 3, some .int, 8),
  (⟨"SkittleRowModel", "keepsAct", "()V"⟩, prog_14_method_64_code, 2, none, 0),
  (⟨"SkittleRowModel", "undo", "()I"⟩, prog_14_method_65_code, 2, some .int, 0),
  (⟨"SkittleRowModel", "notes", "(II)V"⟩, prog_14_method_66_code, 4, none, 0),
  (⟨"SkittleRowModel", "stroke", "(II)I"⟩, prog_14_method_67_code, 3, some .int, 5),
  (⟨"SkittleRowModel", "up", "(I)I"⟩, prog_14_method_68_code, 2, some .int, 1),
  (⟨"SkittleRowModel", "pass", "()I"⟩, prog_14_method_69_code, 1, some .int, 1),
  (⟨"SkittleRowModel", "won", "()I"⟩, prog_14_method_70_code, 1, some .int, 7),
  (⟨"SkittleRowModel", "wins", "(I)I"⟩, prog_14_method_71_code, 7, some .int, 8),
  (⟨"SkittleRowModel", "leastUnseen", "()I"⟩, prog_14_method_72_code, 2, some .int, 0),
  (⟨"SkittleRowModel", "clearsSeen", "()V"⟩, prog_14_method_73_code, 2, none, 0),
  (⟨"SkittleRowModel", "worth", "(I)I"⟩, prog_14_method_74_code, 8, some .int, 5),
  (⟨"SkittleRowModel", "fillsPlains", "()V"⟩, prog_14_method_75_code, 5, none, 1),
  (⟨"SkittleRowModel", "plain", "(I)I"⟩, prog_14_method_76_code, 2, some .int, 2),
  (⟨"SkittleRowModel", "comesAgain", "(II)Z"⟩, prog_14_method_77_code, 4, some .boolean, 0),
  (⟨"SkittleRowModel", "again", "(I)I"⟩, prog_14_method_78_code, 4, some .int, 2),
  (⟨"SkittleRowModel", "lastsAt", "(I)I"⟩, prog_14_method_79_code, 8, some .int, 5),
  (⟨"SkittleRowModel", "lasts", "()I"⟩, prog_14_method_80_code, 2, some .int, 6),
  (⟨"SkittleRowModel", "playsAt", "(I)I"⟩, prog_14_method_81_code, 7, some .int, 5),
  (⟨"SkittleRowModel", "plays", "()I"⟩, prog_14_method_82_code, 2, some .int, 6),
  (⟨"SkittleRowModel", "fair", "(I)I"⟩, prog_14_method_83_code, 5, some .int, 7),
  (⟨"SkittleRowModel", "strayed", "(III)I"⟩, prog_14_method_84_code, 5, some .int, 3),
  (⟨"SkittleRowModel", "chanceAt", "(I)I"⟩, prog_14_method_85_code, 7, some .int, 5),
  (⟨"SkittleRowModel", "chance", "()I"⟩, prog_14_method_86_code, 2, some .int, 6),
  (⟨"SkittleRowModel", "bestAt", "(I)I"⟩, prog_14_method_87_code, 6, some .int, 5),
  (⟨"SkittleRowModel", "childAt", "(I)I"⟩, prog_14_method_88_code, 6, some .int, 5),
  (⟨"SkittleRowModel", "child", "()I"⟩, prog_14_method_89_code, 2, some .int, 6),
  (⟨"SkittleRowModel", "countsRun", "(I)V"⟩, prog_14_method_90_code, 2, none, 0),
  (⟨"SkittleRowModel", "countsRow", "(II)V"⟩, prog_14_method_91_code, 8, none, 1),
  (⟨"SkittleRowModel", "countsRuns", "(I)V"⟩, prog_14_method_92_code, 3, none, 2),
  (⟨"SkittleRowModel", "words", "(IIIII)V"⟩, prog_14_method_93_code, 7, none, 7),
  (⟨"SkittleRowModel", "summedBy", "(I)J"⟩, prog_14_method_94_code, 4, some .long, 2),
  (⟨"SkittleRowModel", "strokeBy", "(IIII)I"⟩, prog_14_method_95_code, 12, some .int, 8),
  (⟨"SkittleRowModel", "winner", "(I)I"⟩, prog_14_method_96_code, 2, some .int, 0),
  (⟨"SkittleRowModel", "match", "(III)I"⟩, prog_14_method_97_code, 8, some .int, 9),
  (⟨"SkittleRowModel", "noted", "(II)I"⟩, prog_14_method_98_code, 3, some .int, 0),
  (⟨"SkittleRowModel", "winsNoted", "(I)Z"⟩, prog_14_method_99_code, 2, some .boolean, 3),
  (⟨"SkittleRowModel", "knew", "(II)I"⟩, prog_14_method_100_code, 8, some .int, 6),
  (⟨"SkittleRowModel", "fitsLaw", "(IIII)Z"⟩, prog_14_method_101_code, 6, some .boolean, 5),
  (⟨"SkittleRowModel", "law", "(II)I"⟩, prog_14_method_102_code, 6, some .int, 6),
  (⟨"SkittleRowModel", "seed", "(I)I"⟩, prog_14_method_103_code, 3, some .int, 0),
  (⟨"SkittleRowModel", "draw", "(I)I"⟩, prog_14_method_104_code, 2, some .int, 0),
  (⟨"SkittleRowModel", "strokeDrawn", "(I)I"⟩, prog_14_method_105_code, 6, some .int, 5),
  (⟨"SkittleRowModel", "playsDrawn", "(II)V"⟩, prog_14_method_106_code, 9, none, 9),
  (⟨"SkittleRowModel", "games", "(II)I"⟩, prog_14_method_107_code, 3, some .int, 10),
  (⟨"SkittleRowModel", "against", "(III)I"⟩, prog_14_method_108_code, 4, some .int, 10),
  (⟨"SkittleRowModel", "count", "(I)I"⟩, prog_14_method_109_code, 2, some .int, 0),
  (⟨"SkittleRowModel", "image", "(I)I"⟩, prog_14_method_110_code, 3, some .int, 1),
  (⟨"SkittleRowModel", "back", "(I)I"⟩, prog_14_method_111_code, 3, some .int, 1),
  (⟨"java/lang/Integer", "numberOfTrailingZeros", "(I)I"⟩, prog_15_method_48_code, 2, some .int, 0),
  (⟨"java/lang/Integer", "bitCount", "(I)I"⟩, prog_15_method_49_code, 1, some .int, 0),
  (⟨"java/lang/Long", "numberOfTrailingZeros", "(J)I"⟩, prog_16_method_49_code, 3, some .int, 1),
  (⟨"java/lang/Long", "bitCount", "(J)I"⟩, prog_16_method_50_code, 2, some .int, 0),
  (⟨"java/lang/Math", "max", "(II)I"⟩, prog_17_method_65_code, 2, some .int, 0),
  (⟨"java/lang/Math", "min", "(II)I"⟩, prog_17_method_69_code, 2, some .int, 0),
  (⟨"java/lang/String", "length", "()I"⟩, prog_18_method_54_code, 1, some .int, 1),
  (⟨"java/lang/String", "charAt", "(I)C"⟩, prog_18_method_56_code, 2, some .char, 4),
  (⟨"java/lang/String", "coder", "()B"⟩, prog_18_method_152_code, 1, some .byte, 0),
  (⟨"java/lang/String", "isLatin1", "()Z"⟩, prog_18_method_154_code, 1, some .boolean, 0),
  (⟨"java/lang/String", "checkIndex", "(II)V"⟩, prog_18_method_155_code, 2, none, 1),
  (⟨"java/lang/StringLatin1", "charAt", "([BI)C"⟩, prog_19_method_2_code, 2, some .char, 2),
  (⟨"java/lang/StringUTF16", "getChar", "([BI)C"⟩, prog_20_method_5_code, 2, some .char, 1),
  (⟨"java/lang/StringUTF16", "length", "([B)I"⟩, prog_20_method_6_code, 1, some .int, 0),
  (⟨"java/lang/StringUTF16", "charAt", "([BI)C"⟩, prog_20_method_83_code, 2, some .char, 3),
  (⟨"java/lang/StringUTF16", "checkIndex", "(I[B)V"⟩, prog_20_method_91_code, 2, none, 2),
  (⟨"jdk/internal/util/Preconditions", "checkIndex", "(IILjava/util/function/BiFunction;)I"⟩, prog_21_method_11_code, 3, some .int, 0),
  (⟨"SkittleRowLaw", "law", "([I)Z"⟩, code, 4, some .boolean, 13)]
def sk_nfo (m : Nat) : MethodName × ByteArray × Nat × Option FieldType × Nat := sk_info.getD m (⟨"", "", ""⟩, ⟨#[]⟩, 0, none, 0)
/-- the texts: where they are named, their signs -/
def sk_str : List (String × Nat × String × Nat × List Int32) := [("SkittleRow$AlleyReader", 38, "alley row ring hit ends last stray", 34, [97, 108, 108, 101, 121, 32, 114, 111, 119, 32, 114, 105, 110, 103, 32, 104, 105, 116, 32, 101, 110, 100, 115, 32, 108, 97, 115, 116, 32, 115, 116, 114, 97, 121]), ("SkittleRow$RuleReader", 43, "stroke", 6, [115, 116, 114, 111, 107, 101]), ("SkittleRow$RuleReader", 126, "place many row standing left runs longest alone won turn strokes", 64, [112, 108, 97, 99, 101, 32, 109, 97, 110, 121, 32, 114, 111, 119, 32, 115, 116, 97, 110, 100, 105, 110, 103, 32, 108, 101, 102, 116, 32, 114, 117, 110, 115, 32, 108, 111, 110, 103, 101, 115, 116, 32, 97, 108, 111, 110, 101, 32, 119, 111, 110, 32, 116, 117, 114, 110, 32, 115, 116, 114, 111, 107, 101, 115]), ("SkittleRow$RuleReader", 62, "if", 2, [105, 102]), ("SkittleRow$RuleReader", 93, "not", 3, [110, 111, 116]), ("SkittleRow$RuleReader", 87, "and", 3, [97, 110, 100]), ("SkittleRow$RuleReader", 79, "or", 2, [111, 114])]
def sk_laws : List Int64 := [0, 1085102592571150095, 1148435428713435120, 1152903912689233920, 1152921504338411520]
end
section
/-! ===== an evaluator of the code over a memory of words; the machine is tied to it in the parts behind ===== -/
abbrev sk_V : Type := Int32 ⊕ (Int64 ⊕ Option Nat)
abbrev sk_Ls : Type := List (Option sk_V)
/-- the memory: kinds, lengths, the next address, the slots made; ints, longs, references by address and place -/
abbrev sk_H : Type := ((Nat → Nat) × (Nat → Nat) × Nat × Nat) × (Nat → Nat → Int32) × (Nat → Nat → Int64) × (Nat → Nat → Option Nat)
def hK (h : sk_H) : Nat → Nat := h.1.1
def hN (h : sk_H) : Nat → Nat := h.1.2.1
def hn (h : sk_H) : Nat := h.1.2.2.1
def hs (h : sk_H) : Nat := h.1.2.2.2
def hI (h : sk_H) : Nat → Nat → Int32 := h.2.1
def hJ (h : sk_H) : Nat → Nat → Int64 := h.2.2.1
def hR (h : sk_H) : Nat → Nat → Option Nat := h.2.2.2
def up2 {α : Type} (f : Nat → Nat → α) (a i : Nat) (v : α) : Nat → Nat → α := va_up f a (va_up (f a) i v)
def wI (h : sk_H) (a i : Nat) (v : Int32) : sk_H := (h.1, up2 h.2.1 a i v, h.2.2)
def wJ (h : sk_H) (a i : Nat) (v : Int64) : sk_H := (h.1, h.2.1, up2 h.2.2.1 a i v, h.2.2.2)
def wR (h : sk_H) (a i : Nat) (v : Option Nat) : sk_H := (h.1, h.2.1, h.2.2.1, up2 h.2.2.2 a i v)
/-- a new cell of kind k and n places, all 0 -/
def hnew (h : sk_H) (k n : Nat) : sk_H :=
  ((va_up h.1.1 h.1.2.2.1 k, va_up h.1.2.1 h.1.2.2.1 n, h.1.2.2.1 + 1, h.1.2.2.2 + n), va_up h.2.1 h.1.2.2.1 (fun _ => 0), va_up h.2.2.1 h.1.2.2.1 (fun _ => 0), va_up h.2.2.2 h.1.2.2.1 (fun _ => none))
/-- place, slots, stack, memory -/
abbrev sk_C : Type := Nat × sk_Ls × List sk_V × sk_H
abbrev sk_P : Type := (p : Prop) ×' Decidable p
abbrev sk_A : Type := sk_C ⊕ (sk_P × sk_C × sk_C) ⊕ (sk_P × sk_C) ⊕ (Int32 × List (Int32 × Nat) × sk_C) ⊕ (sk_P × Option sk_V) ⊕ ((Nat × Nat × Nat × Nat) × List sk_V × List sk_V)
/-- an instruction; four numbers (a field: kind, place, tag; a call: method, how many, kind of answer, room); a constant; a switch; at a cut what lives -/
abbrev sk_E : Type := Instr × (Nat × Nat × Nat × Nat × Nat × Nat) × sk_V × List (Int32 × Nat) × Option (List Bool)
abbrev sk_T : Type := Nat → Nat → Option sk_E
abbrev sk_B : Type := Option Nat × (Nat → Option sk_A)
def b_go (c : sk_C) : sk_B := (some 0, fun _ => some (.inl c))
def b_no : sk_B := (none, fun _ => none)
def b_br (q : sk_P) (c1 c2 : sk_C) : sk_B := (some 0, fun _ => some (.inr (.inl (q, c1, c2))))
def b_ck (q : sk_P) (c : sk_C) : sk_B := (some 0, fun _ => some (.inr (.inr (.inl (q, c)))))
def b_at (r : Option Nat) (k : Nat → sk_P × sk_C) : sk_B := (r, fun a => some (.inr (.inr (.inl (k a)))))
def b_sw (x : Int32) (cs : List (Int32 × Nat)) (c : sk_C) : sk_B := (some 0, fun _ => some (.inr (.inr (.inr (.inl (x, cs, c))))))
def b_rt (q : sk_P) (v : Option sk_V) : sk_B := (some 0, fun _ => some (.inr (.inr (.inr (.inr (.inl (q, v)))))))
def b_cl (m rk ml k : Nat) (args rest : List sk_V) : sk_B := (some 0, fun _ => some (.inr (.inr (.inr (.inr (.inr ((m, rk, ml, k), args, rest)))))))
/-- patterns of the stack -/
def s_i (st : List sk_V) (k : Int32 → List sk_V → sk_B) : sk_B := match st with
  | .inl x :: r => k x r
  | _ => b_no
def s_ii (st : List sk_V) (k : Int32 → Int32 → List sk_V → sk_B) : sk_B := match st with
  | .inl y :: .inl x :: r => k x y r
  | _ => b_no
def s_l (st : List sk_V) (k : Int64 → List sk_V → sk_B) : sk_B := match st with
  | .inr (.inl x) :: r => k x r
  | _ => b_no
def s_ll (st : List sk_V) (k : Int64 → Int64 → List sk_V → sk_B) : sk_B := match st with
  | .inr (.inl y) :: .inr (.inl x) :: r => k x y r
  | _ => b_no
def s_li (st : List sk_V) (k : Int64 → Int32 → List sk_V → sk_B) : sk_B := match st with
  | .inl y :: .inr (.inl x) :: r => k x y r
  | _ => b_no
def s_r (st : List sk_V) (k : Option Nat → List sk_V → sk_B) : sk_B := match st with
  | .inr (.inr x) :: r => k x r
  | _ => b_no
def s_rr (st : List sk_V) (k : Option Nat → Option Nat → List sk_V → sk_B) : sk_B := match st with
  | .inr (.inr y) :: .inr (.inr x) :: r => k x y r
  | _ => b_no
/-- an array and a place; with a value on top -/
def s_ri (st : List sk_V) (k : Option Nat → Int32 → List sk_V → sk_B) : sk_B := match st with
  | .inl i :: .inr (.inr x) :: r => k x i r
  | _ => b_no
def s_rii (st : List sk_V) (k : Option Nat → Int32 → Int32 → List sk_V → sk_B) : sk_B := match st with
  | .inl v :: .inl i :: .inr (.inr x) :: r => k x i v r
  | _ => b_no
def s_ril (st : List sk_V) (k : Option Nat → Int32 → Int64 → List sk_V → sk_B) : sk_B := match st with
  | .inr (.inl v) :: .inl i :: .inr (.inr x) :: r => k x i v r
  | _ => b_no
def s_rir (st : List sk_V) (k : Option Nat → Int32 → Option Nat → List sk_V → sk_B) : sk_B := match st with
  | .inr (.inr v) :: .inl i :: .inr (.inr x) :: r => k x i v r
  | _ => b_no
/-- is it of one slot -/
def v_one (v : sk_V) : Bool := match v with
  | .inr (.inl _) => false
  | _ => true
def s_1 (st : List sk_V) (k : sk_V → List sk_V → sk_B) : sk_B := match st with
  | v :: r => match v_one v with
    | true => k v r
    | false => b_no
  | _ => b_no
def s_11 (st : List sk_V) (k : sk_V → sk_V → List sk_V → sk_B) : sk_B := match st with
  | v :: w :: r => match v_one v, v_one w with
    | true, true => k v w r
    | _, _ => b_no
  | _ => b_no
/-- slots -/
def l_at : sk_Ls → Nat → Option sk_V
  | [], _ => none
  | v :: _, 0 => v
  | _ :: r, k + 1 => l_at r k
def l_i (ls : sk_Ls) (k : Nat) (f : Int32 → sk_B) : sk_B := match l_at ls k with
  | some (.inl x) => f x
  | _ => b_no
def l_l (ls : sk_Ls) (k : Nat) (f : Int64 → sk_B) : sk_B := match l_at ls k with
  | some (.inr (.inl x)) => f x
  | _ => b_no
def l_r (ls : sk_Ls) (k : Nat) (f : Option Nat → sk_B) : sk_B := match l_at ls k with
  | some (.inr (.inr x)) => f x
  | _ => b_no
/-- not a long: what stands below a stored slot -/
def v_keep (v : Option sk_V) : Option sk_V := match v with
  | some (.inr (.inl _)) => none
  | w => w
def l_s1 : sk_Ls → Nat → sk_V → sk_Ls
  | [], _, _ => []
  | _ :: r, 0, v => some v :: r
  | w :: x :: r, 1, v => v_keep w :: some v :: r
  | w :: r, k + 1, v => w :: l_s1 r k v
def l_s2 : sk_Ls → Nat → sk_V → sk_Ls
  | [], _, _ => []
  | [_], 0, _ => [none]
  | _ :: _ :: r, 0, v => some v :: none :: r
  | [w, _], 1, _ => [v_keep w, none]
  | w :: _ :: _ :: r, 1, v => v_keep w :: some v :: none :: r
  | w :: r, k + 1, v => w :: l_s2 r k v
def l_s1k : sk_Ls → Nat → sk_V → (sk_Ls → sk_B) → sk_B
  | [], _, _, K => K []
  | _ :: r, 0, v, K => K (some v :: r)
  | w :: _ :: r, 1, v, K => K (v_keep w :: some v :: r)
  | w :: r, k + 1, v, K => l_s1k r k v fun r' => K (w :: r')
theorem l_s1k_eq : ∀ (ls : sk_Ls) (k : Nat) (v : sk_V) (K : sk_Ls → sk_B), l_s1k ls k v K = K (l_s1 ls k v)
  | [], _, _, K => by simp [l_s1k, l_s1]
  | _ :: r, 0, v, K => by simp [l_s1k, l_s1]
  | w :: _ :: r, 1, v, K => by simp [l_s1k, l_s1]
  | [w], 1, v, K => by simp [l_s1k, l_s1]
  | w :: r, k + 2, v, K => by
    simp only [l_s1k, l_s1]
    exact l_s1k_eq r (k + 1) v _
def l_s2k : sk_Ls → Nat → sk_V → (sk_Ls → sk_B) → sk_B
  | [], _, _, K => K []
  | [_], 0, _, K => K [none]
  | _ :: _ :: r, 0, v, K => K (some v :: none :: r)
  | [w, _], 1, _, K => K [v_keep w, none]
  | w :: _ :: _ :: r, 1, v, K => K (v_keep w :: some v :: none :: r)
  | w :: r, k + 1, v, K => l_s2k r k v fun r' => K (w :: r')
theorem l_s2k_eq : ∀ (ls : sk_Ls) (k : Nat) (v : sk_V) (K : sk_Ls → sk_B), l_s2k ls k v K = K (l_s2 ls k v)
  | [], _, _, K => by simp [l_s2k, l_s2]
  | [_], 0, _, K => by simp [l_s2k, l_s2]
  | _ :: _ :: r, 0, v, K => by simp [l_s2k, l_s2]
  | [w, _], 1, _, K => by simp [l_s2k, l_s2]
  | w :: _ :: _ :: r, 1, v, K => by simp [l_s2k, l_s2]
  | [w], 1, v, K => by simp [l_s2k, l_s2]
  | w :: r, k + 2, v, K => by
    simp only [l_s2k, l_s2]
    exact l_s2k_eq r (k + 1) v _
def sk_ex : List sk_V → sk_Ls
  | [] => []
  | .inr (.inl y) :: r => some (.inr (.inl y)) :: none :: sk_ex r
  | .inl x :: r => some (.inl x) :: sk_ex r
  | .inr (.inr x) :: r => some (.inr (.inr x)) :: sk_ex r
def sk_rp : Nat → sk_Ls
  | 0 => []
  | n + 1 => none :: sk_rp n
def sk_pad : Nat → sk_Ls → sk_Ls
  | 0, _ => []
  | n + 1, [] => none :: sk_pad n []
  | n + 1, v :: r => v :: sk_pad n r
def sk_ent (ml : Nat) (args : List sk_V) : sk_Ls := sk_pad ml (sk_ex args)
def sk_kill : List Bool → sk_Ls → sk_Ls
  | b :: bs, v :: r => (match b with
    | true => v
    | false => none) :: sk_kill bs r
  | _, r => r
/-- what an index is within -/
abbrev sk_out (i : Int32) (n : Nat) : Prop := i < 0 ∨ n ≤ i.toNatClampNeg
abbrev sk_in (i : Int32) (n : Nat) : Prop := ¬ (i < 0 ∨ n ≤ i.toNatClampNeg)
/-- n things off the stack, the first below -/
def sk_take : Nat → List sk_V → List sk_V → Option (List sk_V × List sk_V)
  | 0, acc, st => some (acc, st)
  | _ + 1, _, [] => none
  | n + 1, acc, v :: r => sk_take n (v :: acc) r
def j_cond (cd : ClassFile.Cond) (x y : Int32) : sk_P := match cd with
  | .eq => ⟨x = y, inferInstance⟩
  | .ne => ⟨¬ x = y, inferInstance⟩
  | .lt => ⟨x < y, inferInstance⟩
  | .ge => ⟨y ≤ x, inferInstance⟩
  | .gt => ⟨y < x, inferInstance⟩
  | .le => ⟨x ≤ y, inferInstance⟩
/-- what a place of a field holds, by its tag: 0 a whole number, 3 a truth, 1 a long, 2 a reference -/
def f_get (h : sk_H) (a fi tag : Nat) : sk_V := match tag with
  | 1 => .inr (.inl (hJ h a fi))
  | 2 => .inr (.inr (hR h a fi))
  | _ => .inl (hI h a fi)
def a_ref (k : Nat) : Bool := Nat.ble 106 k && Nat.ble k 108
def a_any (k : Nat) : Bool := (Nat.ble 101 k && Nat.ble k 108) || (k == 201 || k == 202 || k == 204)
/-- of which kind are the things in a row of references -/
def a_of (k : Nat) : Nat := match k with
  | 106 => 7
  | 107 => 9
  | 108 => 10
  | _ => 0
def n_kind (t : ArrayType) : Nat := match t with
  | .int => 101
  | .long => 102
  | .boolean => 103
  | .byte => 104
  | .char => 105
  | _ => 0
/-- what an answer of a small kind may be: 0 an int, 3 a truth, 4 a byte, 5 a char -/
def r_ok (t : Nat) (x : Int32) : sk_P := match t with
  | 0 => ⟨True, inferInstance⟩
  | 3 => ⟨x = 0 ∨ x = 1, inferInstance⟩
  | 4 => ⟨x.toInt8.toInt32 = x, inferInstance⟩
  | _ => ⟨x.toUInt32.toUInt16.toUInt32.toInt32 = x, inferInstance⟩
def sk_cat : List sk_V → Nat
  | [] => 0
  | v :: r => (match v_one v with
    | true => 1
    | false => 2) + sk_cat r
def sk_rcv (as : List sk_V) : Option Nat := match as with
  | .inr (.inr r) :: _ => r
  | _ => none
def b_inv (m n rk ml k : Nat) (st : List sk_V) : sk_B := match sk_take n [] st with
  | some (as, r) => match Nat.ble (sk_cat r) 8 with
    | true => b_cl m rk ml k as r
    | false => b_no
  | none => b_no
def ac_aconst_null (nx e1 e2 e3 e4 e5 : Nat) (ev : sk_V) (ec : List (Int32 × Nat)) (ls : sk_Ls) (st : List sk_V) (h : sk_H)  : sk_B := b_go (nx, ls, .inr (.inr none) :: st, h)
def ac_iconst (nx e1 e2 e3 e4 e5 : Nat) (ev : sk_V) (ec : List (Int32 × Nat)) (ls : sk_Ls) (st : List sk_V) (h : sk_H) (n : Int) : sk_B := b_go (nx, ls, .inl (Int32.ofInt n) :: st, h)
def ac_bipush (nx e1 e2 e3 e4 e5 : Nat) (ev : sk_V) (ec : List (Int32 × Nat)) (ls : sk_Ls) (st : List sk_V) (h : sk_H) (n : Int) : sk_B := b_go (nx, ls, .inl (Int8.ofInt n).toInt32 :: st, h)
def ac_sipush (nx e1 e2 e3 e4 e5 : Nat) (ev : sk_V) (ec : List (Int32 × Nat)) (ls : sk_Ls) (st : List sk_V) (h : sk_H) (n : Int) : sk_B := b_go (nx, ls, .inl (Int16.ofInt n).toInt32 :: st, h)
def ac_lconst (nx e1 e2 e3 e4 e5 : Nat) (ev : sk_V) (ec : List (Int32 × Nat)) (ls : sk_Ls) (st : List sk_V) (h : sk_H) (n : Fin 2) : sk_B := b_go (nx, ls, .inr (.inl (Int64.ofNat n)) :: st, h)
def ac_ldc (nx e1 e2 e3 e4 e5 : Nat) (ev : sk_V) (ec : List (Int32 × Nat)) (ls : sk_Ls) (st : List sk_V) (h : sk_H)  : sk_B := b_go (nx, ls, ev :: st, h)
def ac_ldc_w (nx e1 e2 e3 e4 e5 : Nat) (ev : sk_V) (ec : List (Int32 × Nat)) (ls : sk_Ls) (st : List sk_V) (h : sk_H)  : sk_B := b_go (nx, ls, ev :: st, h)
def ac_ldc2_w (nx e1 e2 e3 e4 e5 : Nat) (ev : sk_V) (ec : List (Int32 × Nat)) (ls : sk_Ls) (st : List sk_V) (h : sk_H)  : sk_B := b_go (nx, ls, ev :: st, h)
def ac_iload_n (nx e1 e2 e3 e4 e5 : Nat) (ev : sk_V) (ec : List (Int32 × Nat)) (ls : sk_Ls) (st : List sk_V) (h : sk_H) (k : Fin 4) : sk_B := l_i ls k fun x => b_go (nx, ls, .inl x :: st, h)
def ac_iload (nx e1 e2 e3 e4 e5 : Nat) (ev : sk_V) (ec : List (Int32 × Nat)) (ls : sk_Ls) (st : List sk_V) (h : sk_H) (k : Nat) : sk_B := l_i ls k fun x => b_go (nx, ls, .inl x :: st, h)
def ac_lload_n (nx e1 e2 e3 e4 e5 : Nat) (ev : sk_V) (ec : List (Int32 × Nat)) (ls : sk_Ls) (st : List sk_V) (h : sk_H) (k : Fin 4) : sk_B := l_l ls k fun x => b_go (nx, ls, .inr (.inl x) :: st, h)
def ac_lload (nx e1 e2 e3 e4 e5 : Nat) (ev : sk_V) (ec : List (Int32 × Nat)) (ls : sk_Ls) (st : List sk_V) (h : sk_H) (k : Nat) : sk_B := l_l ls k fun x => b_go (nx, ls, .inr (.inl x) :: st, h)
def ac_aload_n (nx e1 e2 e3 e4 e5 : Nat) (ev : sk_V) (ec : List (Int32 × Nat)) (ls : sk_Ls) (st : List sk_V) (h : sk_H) (k : Fin 4) : sk_B := l_r ls k fun x => b_go (nx, ls, .inr (.inr x) :: st, h)
def ac_aload (nx e1 e2 e3 e4 e5 : Nat) (ev : sk_V) (ec : List (Int32 × Nat)) (ls : sk_Ls) (st : List sk_V) (h : sk_H) (k : Nat) : sk_B := l_r ls k fun x => b_go (nx, ls, .inr (.inr x) :: st, h)
def ac_istore_n (nx e1 e2 e3 e4 e5 : Nat) (ev : sk_V) (ec : List (Int32 × Nat)) (ls : sk_Ls) (st : List sk_V) (h : sk_H) (k : Fin 4) : sk_B := s_i st fun x r => l_s1k ls k (.inl x) fun ls => b_go (nx, ls, r, h)
def ac_istore (nx e1 e2 e3 e4 e5 : Nat) (ev : sk_V) (ec : List (Int32 × Nat)) (ls : sk_Ls) (st : List sk_V) (h : sk_H) (k : Nat) : sk_B := s_i st fun x r => l_s1k ls k (.inl x) fun ls => b_go (nx, ls, r, h)
def ac_lstore_n (nx e1 e2 e3 e4 e5 : Nat) (ev : sk_V) (ec : List (Int32 × Nat)) (ls : sk_Ls) (st : List sk_V) (h : sk_H) (k : Fin 4) : sk_B := s_l st fun x r => l_s2k ls k (.inr (.inl x)) fun ls => b_go (nx, ls, r, h)
def ac_lstore (nx e1 e2 e3 e4 e5 : Nat) (ev : sk_V) (ec : List (Int32 × Nat)) (ls : sk_Ls) (st : List sk_V) (h : sk_H) (k : Nat) : sk_B := s_l st fun x r => l_s2k ls k (.inr (.inl x)) fun ls => b_go (nx, ls, r, h)
def ac_astore_n (nx e1 e2 e3 e4 e5 : Nat) (ev : sk_V) (ec : List (Int32 × Nat)) (ls : sk_Ls) (st : List sk_V) (h : sk_H) (k : Fin 4) : sk_B := s_r st fun x r => l_s1k ls k (.inr (.inr x)) fun ls => b_go (nx, ls, r, h)
def ac_astore (nx e1 e2 e3 e4 e5 : Nat) (ev : sk_V) (ec : List (Int32 × Nat)) (ls : sk_Ls) (st : List sk_V) (h : sk_H) (k : Nat) : sk_B := s_r st fun x r => l_s1k ls k (.inr (.inr x)) fun ls => b_go (nx, ls, r, h)
def ac_iinc (nx e1 e2 e3 e4 e5 : Nat) (ev : sk_V) (ec : List (Int32 × Nat)) (ls : sk_Ls) (st : List sk_V) (h : sk_H) (k : Nat) (n : Int) : sk_B := l_i ls k fun x => l_s1k ls k (.inl (x + Int32.ofInt n)) fun ls => b_go (nx, ls, st, h)
def ac_dup (nx e1 e2 e3 e4 e5 : Nat) (ev : sk_V) (ec : List (Int32 × Nat)) (ls : sk_Ls) (st : List sk_V) (h : sk_H)  : sk_B := s_1 st fun v r => b_go (nx, ls, v :: v :: r, h)
def ac_dup_x1 (nx e1 e2 e3 e4 e5 : Nat) (ev : sk_V) (ec : List (Int32 × Nat)) (ls : sk_Ls) (st : List sk_V) (h : sk_H)  : sk_B := s_11 st fun v w r => b_go (nx, ls, v :: w :: v :: r, h)
def ac_dup2 (nx e1 e2 e3 e4 e5 : Nat) (ev : sk_V) (ec : List (Int32 × Nat)) (ls : sk_Ls) (st : List sk_V) (h : sk_H)  : sk_B := s_11 st fun v w r => b_go (nx, ls, v :: w :: v :: w :: r, h)
def ac_pop (nx e1 e2 e3 e4 e5 : Nat) (ev : sk_V) (ec : List (Int32 × Nat)) (ls : sk_Ls) (st : List sk_V) (h : sk_H)  : sk_B := s_1 st fun _ r => b_go (nx, ls, r, h)
def ac_iadd (nx e1 e2 e3 e4 e5 : Nat) (ev : sk_V) (ec : List (Int32 × Nat)) (ls : sk_Ls) (st : List sk_V) (h : sk_H)  : sk_B := s_ii st fun x y r => b_go (nx, ls, .inl (x + y) :: r, h)
def ac_isub (nx e1 e2 e3 e4 e5 : Nat) (ev : sk_V) (ec : List (Int32 × Nat)) (ls : sk_Ls) (st : List sk_V) (h : sk_H)  : sk_B := s_ii st fun x y r => b_go (nx, ls, .inl (x - y) :: r, h)
def ac_imul (nx e1 e2 e3 e4 e5 : Nat) (ev : sk_V) (ec : List (Int32 × Nat)) (ls : sk_Ls) (st : List sk_V) (h : sk_H)  : sk_B := s_ii st fun x y r => b_go (nx, ls, .inl (x * y) :: r, h)
def ac_iand (nx e1 e2 e3 e4 e5 : Nat) (ev : sk_V) (ec : List (Int32 × Nat)) (ls : sk_Ls) (st : List sk_V) (h : sk_H)  : sk_B := s_ii st fun x y r => b_go (nx, ls, .inl (x &&& y) :: r, h)
def ac_ior (nx e1 e2 e3 e4 e5 : Nat) (ev : sk_V) (ec : List (Int32 × Nat)) (ls : sk_Ls) (st : List sk_V) (h : sk_H)  : sk_B := s_ii st fun x y r => b_go (nx, ls, .inl (x ||| y) :: r, h)
def ac_ixor (nx e1 e2 e3 e4 e5 : Nat) (ev : sk_V) (ec : List (Int32 × Nat)) (ls : sk_Ls) (st : List sk_V) (h : sk_H)  : sk_B := s_ii st fun x y r => b_go (nx, ls, .inl (x ^^^ y) :: r, h)
def ac_idiv (nx e1 e2 e3 e4 e5 : Nat) (ev : sk_V) (ec : List (Int32 × Nat)) (ls : sk_Ls) (st : List sk_V) (h : sk_H)  : sk_B := s_ii st fun x y r => b_ck ⟨¬ y = 0, inferInstance⟩ (nx, ls, .inl (x / y) :: r, h)
def ac_irem (nx e1 e2 e3 e4 e5 : Nat) (ev : sk_V) (ec : List (Int32 × Nat)) (ls : sk_Ls) (st : List sk_V) (h : sk_H)  : sk_B := s_ii st fun x y r => b_ck ⟨¬ y = 0, inferInstance⟩ (nx, ls, .inl (x - x / y * y) :: r, h)
def ac_ineg (nx e1 e2 e3 e4 e5 : Nat) (ev : sk_V) (ec : List (Int32 × Nat)) (ls : sk_Ls) (st : List sk_V) (h : sk_H)  : sk_B := s_i st fun x r => b_go (nx, ls, .inl (-x) :: r, h)
def ac_ishl (nx e1 e2 e3 e4 e5 : Nat) (ev : sk_V) (ec : List (Int32 × Nat)) (ls : sk_Ls) (st : List sk_V) (h : sk_H)  : sk_B := s_ii st fun x y r => b_go (nx, ls, .inl (x <<< (y &&& 31)) :: r, h)
def ac_ishr (nx e1 e2 e3 e4 e5 : Nat) (ev : sk_V) (ec : List (Int32 × Nat)) (ls : sk_Ls) (st : List sk_V) (h : sk_H)  : sk_B := s_ii st fun x y r => b_go (nx, ls, .inl (x >>> (y &&& 31)) :: r, h)
def ac_iushr (nx e1 e2 e3 e4 e5 : Nat) (ev : sk_V) (ec : List (Int32 × Nat)) (ls : sk_Ls) (st : List sk_V) (h : sk_H)  : sk_B := s_ii st fun x y r => b_go (nx, ls, .inl (x.toUInt32 >>> (y.toUInt32 &&& Int32.toUInt32 31)).toInt32 :: r, h)
def ac_ladd (nx e1 e2 e3 e4 e5 : Nat) (ev : sk_V) (ec : List (Int32 × Nat)) (ls : sk_Ls) (st : List sk_V) (h : sk_H)  : sk_B := s_ll st fun x y r => b_go (nx, ls, .inr (.inl (x + y)) :: r, h)
def ac_lsub (nx e1 e2 e3 e4 e5 : Nat) (ev : sk_V) (ec : List (Int32 × Nat)) (ls : sk_Ls) (st : List sk_V) (h : sk_H)  : sk_B := s_ll st fun x y r => b_go (nx, ls, .inr (.inl (x - y)) :: r, h)
def ac_lmul (nx e1 e2 e3 e4 e5 : Nat) (ev : sk_V) (ec : List (Int32 × Nat)) (ls : sk_Ls) (st : List sk_V) (h : sk_H)  : sk_B := s_ll st fun x y r => b_go (nx, ls, .inr (.inl (x * y)) :: r, h)
def ac_land (nx e1 e2 e3 e4 e5 : Nat) (ev : sk_V) (ec : List (Int32 × Nat)) (ls : sk_Ls) (st : List sk_V) (h : sk_H)  : sk_B := s_ll st fun x y r => b_go (nx, ls, .inr (.inl (x &&& y)) :: r, h)
def ac_lor (nx e1 e2 e3 e4 e5 : Nat) (ev : sk_V) (ec : List (Int32 × Nat)) (ls : sk_Ls) (st : List sk_V) (h : sk_H)  : sk_B := s_ll st fun x y r => b_go (nx, ls, .inr (.inl (x ||| y)) :: r, h)
def ac_lxor (nx e1 e2 e3 e4 e5 : Nat) (ev : sk_V) (ec : List (Int32 × Nat)) (ls : sk_Ls) (st : List sk_V) (h : sk_H)  : sk_B := s_ll st fun x y r => b_go (nx, ls, .inr (.inl (x ^^^ y)) :: r, h)
def ac_ldiv (nx e1 e2 e3 e4 e5 : Nat) (ev : sk_V) (ec : List (Int32 × Nat)) (ls : sk_Ls) (st : List sk_V) (h : sk_H)  : sk_B := s_ll st fun x y r => b_ck ⟨¬ y = 0, inferInstance⟩ (nx, ls, .inr (.inl (x / y)) :: r, h)
def ac_lrem (nx e1 e2 e3 e4 e5 : Nat) (ev : sk_V) (ec : List (Int32 × Nat)) (ls : sk_Ls) (st : List sk_V) (h : sk_H)  : sk_B := s_ll st fun x y r => b_ck ⟨¬ y = 0, inferInstance⟩ (nx, ls, .inr (.inl (x - x / y * y)) :: r, h)
def ac_lshl (nx e1 e2 e3 e4 e5 : Nat) (ev : sk_V) (ec : List (Int32 × Nat)) (ls : sk_Ls) (st : List sk_V) (h : sk_H)  : sk_B := s_li st fun x y r => b_go (nx, ls, .inr (.inl (x <<< (y.toInt64 &&& 63))) :: r, h)
def ac_lshr (nx e1 e2 e3 e4 e5 : Nat) (ev : sk_V) (ec : List (Int32 × Nat)) (ls : sk_Ls) (st : List sk_V) (h : sk_H)  : sk_B := s_li st fun x y r => b_go (nx, ls, .inr (.inl (x >>> (y.toInt64 &&& 63))) :: r, h)
def ac_lushr (nx e1 e2 e3 e4 e5 : Nat) (ev : sk_V) (ec : List (Int32 × Nat)) (ls : sk_Ls) (st : List sk_V) (h : sk_H)  : sk_B := s_li st fun x y r => b_go (nx, ls, .inr (.inl (x.toUInt64 >>> (y.toInt64.toUInt64 &&& Int64.toUInt64 63)).toInt64) :: r, h)
def ac_lcmp (nx e1 e2 e3 e4 e5 : Nat) (ev : sk_V) (ec : List (Int32 × Nat)) (ls : sk_Ls) (st : List sk_V) (h : sk_H)  : sk_B := s_ll st fun x y r => b_go (nx, ls, .inl (lg_cmp x y) :: r, h)
def ac_i2l (nx e1 e2 e3 e4 e5 : Nat) (ev : sk_V) (ec : List (Int32 × Nat)) (ls : sk_Ls) (st : List sk_V) (h : sk_H)  : sk_B := s_i st fun x r => b_go (nx, ls, .inr (.inl x.toInt64) :: r, h)
def ac_l2i (nx e1 e2 e3 e4 e5 : Nat) (ev : sk_V) (ec : List (Int32 × Nat)) (ls : sk_Ls) (st : List sk_V) (h : sk_H)  : sk_B := s_l st fun x r => b_go (nx, ls, .inl x.toInt32 :: r, h)
def ac_i2b (nx e1 e2 e3 e4 e5 : Nat) (ev : sk_V) (ec : List (Int32 × Nat)) (ls : sk_Ls) (st : List sk_V) (h : sk_H)  : sk_B := s_i st fun x r => b_go (nx, ls, .inl x.toInt8.toInt32 :: r, h)
def ac_i2c (nx e1 e2 e3 e4 e5 : Nat) (ev : sk_V) (ec : List (Int32 × Nat)) (ls : sk_Ls) (st : List sk_V) (h : sk_H)  : sk_B := s_i st fun x r => b_go (nx, ls, .inl (x.toUInt32 % 65536).toInt32 :: r, h)
def ac_goto (nx e1 e2 e3 e4 e5 : Nat) (ev : sk_V) (ec : List (Int32 × Nat)) (ls : sk_Ls) (st : List sk_V) (h : sk_H)  : sk_B := b_go (e1, ls, st, h)
def ac_ifCond (nx e1 e2 e3 e4 e5 : Nat) (ev : sk_V) (ec : List (Int32 × Nat)) (ls : sk_Ls) (st : List sk_V) (h : sk_H) (cd : ClassFile.Cond) : sk_B := s_i st fun x r => b_br (j_cond cd x 0) (e1, ls, r, h) (nx, ls, r, h)
def ac_if_icmp (nx e1 e2 e3 e4 e5 : Nat) (ev : sk_V) (ec : List (Int32 × Nat)) (ls : sk_Ls) (st : List sk_V) (h : sk_H) (cd : ClassFile.Cond) : sk_B := s_ii st fun x y r => b_br (j_cond cd x y) (e1, ls, r, h) (nx, ls, r, h)
def ac_if_acmp_eq (nx e1 e2 e3 e4 e5 : Nat) (ev : sk_V) (ec : List (Int32 × Nat)) (ls : sk_Ls) (st : List sk_V) (h : sk_H)  : sk_B := s_rr st fun x y r => b_br ⟨x = y, inferInstance⟩ (e1, ls, r, h) (nx, ls, r, h)
def ac_if_acmp_ne (nx e1 e2 e3 e4 e5 : Nat) (ev : sk_V) (ec : List (Int32 × Nat)) (ls : sk_Ls) (st : List sk_V) (h : sk_H)  : sk_B := s_rr st fun x y r => b_br ⟨¬ x = y, inferInstance⟩ (e1, ls, r, h) (nx, ls, r, h)
def ac_ifnull (nx e1 e2 e3 e4 e5 : Nat) (ev : sk_V) (ec : List (Int32 × Nat)) (ls : sk_Ls) (st : List sk_V) (h : sk_H)  : sk_B := s_r st fun x r => b_br ⟨x = none, inferInstance⟩ (e1, ls, r, h) (nx, ls, r, h)
def ac_ifnonnull (nx e1 e2 e3 e4 e5 : Nat) (ev : sk_V) (ec : List (Int32 × Nat)) (ls : sk_Ls) (st : List sk_V) (h : sk_H)  : sk_B := s_r st fun x r => b_br ⟨¬ x = none, inferInstance⟩ (e1, ls, r, h) (nx, ls, r, h)
def ac_tableswitch (nx e1 e2 e3 e4 e5 : Nat) (ev : sk_V) (ec : List (Int32 × Nat)) (ls : sk_Ls) (st : List sk_V) (h : sk_H)  : sk_B := s_i st fun x r => b_sw x ec (e1, ls, r, h)
def ac_lookupswitch (nx e1 e2 e3 e4 e5 : Nat) (ev : sk_V) (ec : List (Int32 × Nat)) (ls : sk_Ls) (st : List sk_V) (h : sk_H)  : sk_B := s_i st fun x r => b_sw x ec (e1, ls, r, h)
def ac_ireturn (nx e1 e2 e3 e4 e5 : Nat) (ev : sk_V) (ec : List (Int32 × Nat)) (ls : sk_Ls) (st : List sk_V) (h : sk_H)  : sk_B := match st with
    | [.inl x] => b_rt (r_ok e1 x) (some (.inl x))
    | _ => b_no
def ac_lreturn (nx e1 e2 e3 e4 e5 : Nat) (ev : sk_V) (ec : List (Int32 × Nat)) (ls : sk_Ls) (st : List sk_V) (h : sk_H)  : sk_B := match st with
    | [.inr (.inl x)] => b_rt ⟨True, inferInstance⟩ (some (.inr (.inl x)))
    | _ => b_no
def ac_areturn (nx e1 e2 e3 e4 e5 : Nat) (ev : sk_V) (ec : List (Int32 × Nat)) (ls : sk_Ls) (st : List sk_V) (h : sk_H)  : sk_B := match st with
    | [.inr (.inr x)] => b_rt ⟨True, inferInstance⟩ (some (.inr (.inr x)))
    | _ => b_no
def ac_return_ (nx e1 e2 e3 e4 e5 : Nat) (ev : sk_V) (ec : List (Int32 × Nat)) (ls : sk_Ls) (st : List sk_V) (h : sk_H)  : sk_B := match st with
    | [] => b_rt ⟨True, inferInstance⟩ none
    | _ => b_no
def ac_getfield (nx e1 e2 e3 e4 e5 : Nat) (ev : sk_V) (ec : List (Int32 × Nat)) (ls : sk_Ls) (st : List sk_V) (h : sk_H)  : sk_B := s_r st fun x r => b_at x fun a => (⟨hK h a = e1, inferInstance⟩, (nx, ls, f_get h a e2 e3 :: r, h))
def ac_putfield (nx e1 e2 e3 e4 e5 : Nat) (ev : sk_V) (ec : List (Int32 × Nat)) (ls : sk_Ls) (st : List sk_V) (h : sk_H)  : sk_B := match e3 with
    | 0 => s_ri st fun x v r => b_at x fun a => (⟨hK h a = e1, inferInstance⟩, (nx, ls, r, wI h a e2 v))
    | 1 => match st with
      | .inr (.inl v) :: .inr (.inr x) :: r => b_at x fun a => (⟨hK h a = e1, inferInstance⟩, (nx, ls, r, wJ h a e2 v))
      | _ => b_no
    | 2 => match st with
      | .inr (.inr v) :: .inr (.inr x) :: r => b_at x fun a => (⟨hK h a = e1, inferInstance⟩, (nx, ls, r, wR h a e2 v))
      | _ => b_no
    | _ => s_ri st fun x v r => b_at x fun a => (⟨hK h a = e1 ∧ (v = 0 ∨ v = 1), inferInstance⟩, (nx, ls, r, wI h a e2 v))
def ac_getstatic (nx e1 e2 e3 e4 e5 : Nat) (ev : sk_V) (ec : List (Int32 × Nat)) (ls : sk_Ls) (st : List sk_V) (h : sk_H)  : sk_B := match e1 with
    | 0 => b_go (nx, ls, ev :: st, h)
    | _ => b_go (nx, ls, .inr (.inr (hR h 0 2)) :: st, h)
def ac_new (nx e1 e2 e3 e4 e5 : Nat) (ev : sk_V) (ec : List (Int32 × Nat)) (ls : sk_Ls) (st : List sk_V) (h : sk_H)  : sk_B := b_go (nx, ls, .inr (.inr (some (hn h))) :: st, hnew h e1 e2)
def ac_newarray (nx e1 e2 e3 e4 e5 : Nat) (ev : sk_V) (ec : List (Int32 × Nat)) (ls : sk_Ls) (st : List sk_V) (h : sk_H) (t : ArrayType) : sk_B := s_i st fun n r => b_ck ⟨¬ n < 0 ∧ n.toNatClampNeg ≤ 60000, inferInstance⟩ (nx, ls, .inr (.inr (some (hn h))) :: r, hnew h (n_kind t) n.toNatClampNeg)
def ac_anewarray (nx e1 e2 e3 e4 e5 : Nat) (ev : sk_V) (ec : List (Int32 × Nat)) (ls : sk_Ls) (st : List sk_V) (h : sk_H)  : sk_B := s_i st fun n r => b_ck ⟨¬ n < 0 ∧ n.toNatClampNeg ≤ 60000, inferInstance⟩ (nx, ls, .inr (.inr (some (hn h))) :: r, hnew h e1 n.toNatClampNeg)
def ac_arraylength (nx e1 e2 e3 e4 e5 : Nat) (ev : sk_V) (ec : List (Int32 × Nat)) (ls : sk_Ls) (st : List sk_V) (h : sk_H)  : sk_B := s_r st fun x r => b_at x fun a => (⟨a_any (hK h a) = true, inferInstance⟩, (nx, ls, .inl (Int32.ofNat (hN h a)) :: r, h))
def ac_iaload (nx e1 e2 e3 e4 e5 : Nat) (ev : sk_V) (ec : List (Int32 × Nat)) (ls : sk_Ls) (st : List sk_V) (h : sk_H)  : sk_B := s_ri st fun x i r => b_at x fun a => (⟨(hK h a = 101 ∨ hK h a = 201) ∧ sk_in i (hN h a), inferInstance⟩, (nx, ls, .inl (hI h a i.toNatClampNeg) :: r, h))
def ac_baload (nx e1 e2 e3 e4 e5 : Nat) (ev : sk_V) (ec : List (Int32 × Nat)) (ls : sk_Ls) (st : List sk_V) (h : sk_H)  : sk_B := s_ri st fun x i r => b_at x fun a => (⟨(hK h a = 103 ∨ hK h a = 104 ∨ hK h a = 204) ∧ sk_in i (hN h a), inferInstance⟩, (nx, ls, .inl (hI h a i.toNatClampNeg) :: r, h))
def ac_caload (nx e1 e2 e3 e4 e5 : Nat) (ev : sk_V) (ec : List (Int32 × Nat)) (ls : sk_Ls) (st : List sk_V) (h : sk_H)  : sk_B := s_ri st fun x i r => b_at x fun a => (⟨hK h a = 105 ∧ sk_in i (hN h a), inferInstance⟩, (nx, ls, .inl (hI h a i.toNatClampNeg) :: r, h))
def ac_laload (nx e1 e2 e3 e4 e5 : Nat) (ev : sk_V) (ec : List (Int32 × Nat)) (ls : sk_Ls) (st : List sk_V) (h : sk_H)  : sk_B := s_ri st fun x i r => b_at x fun a => (⟨(hK h a = 102 ∨ hK h a = 202) ∧ sk_in i (hN h a), inferInstance⟩, (nx, ls, .inr (.inl (hJ h a i.toNatClampNeg)) :: r, h))
def ac_aaload (nx e1 e2 e3 e4 e5 : Nat) (ev : sk_V) (ec : List (Int32 × Nat)) (ls : sk_Ls) (st : List sk_V) (h : sk_H)  : sk_B := s_ri st fun x i r => b_at x fun a => (⟨a_ref (hK h a) = true ∧ sk_in i (hN h a), inferInstance⟩, (nx, ls, .inr (.inr (hR h a i.toNatClampNeg)) :: r, h))
def ac_iastore (nx e1 e2 e3 e4 e5 : Nat) (ev : sk_V) (ec : List (Int32 × Nat)) (ls : sk_Ls) (st : List sk_V) (h : sk_H)  : sk_B := s_rii st fun x i v r => b_at x fun a => (⟨hK h a = 101 ∧ sk_in i (hN h a), inferInstance⟩, (nx, ls, r, wI h a i.toNatClampNeg v))
def ac_bastore (nx e1 e2 e3 e4 e5 : Nat) (ev : sk_V) (ec : List (Int32 × Nat)) (ls : sk_Ls) (st : List sk_V) (h : sk_H)  : sk_B := s_rii st fun x i v r => b_at x fun a => (⟨(hK h a = 104 ∨ (hK h a = 103 ∧ (v = 0 ∨ v = 1))) ∧ sk_in i (hN h a), inferInstance⟩, (nx, ls, r, wI h a i.toNatClampNeg v.toInt8.toInt32))
def ac_castore (nx e1 e2 e3 e4 e5 : Nat) (ev : sk_V) (ec : List (Int32 × Nat)) (ls : sk_Ls) (st : List sk_V) (h : sk_H)  : sk_B := s_rii st fun x i v r => b_at x fun a => (⟨hK h a = 105 ∧ sk_in i (hN h a), inferInstance⟩, (nx, ls, r, wI h a i.toNatClampNeg v.toUInt32.toUInt16.toUInt32.toInt32))
def ac_lastore (nx e1 e2 e3 e4 e5 : Nat) (ev : sk_V) (ec : List (Int32 × Nat)) (ls : sk_Ls) (st : List sk_V) (h : sk_H)  : sk_B := s_ril st fun x i v r => b_at x fun a => (⟨hK h a = 102 ∧ sk_in i (hN h a), inferInstance⟩, (nx, ls, r, wJ h a i.toNatClampNeg v))
def ac_aastore (nx e1 e2 e3 e4 e5 : Nat) (ev : sk_V) (ec : List (Int32 × Nat)) (ls : sk_Ls) (st : List sk_V) (h : sk_H)  : sk_B := s_rir st fun x i v r => b_at x fun a => (⟨a_ref (hK h a) = true ∧ sk_in i (hN h a) ∧ hK h (v.getD 0) = a_of (hK h a) ∧ ¬ v = none, inferInstance⟩, (nx, ls, r, wR h a i.toNatClampNeg v))
def ac_invokespecial (nx e1 e2 e3 e4 e5 : Nat) (ev : sk_V) (ec : List (Int32 × Nat)) (ls : sk_Ls) (st : List sk_V) (h : sk_H)  : sk_B := match e1 with
    | 0 => s_r st fun _ r => b_go (nx, ls, r, h)
    | m + 1 => b_inv m e2 e3 e4 0 st
def ac_invokevirtual (nx e1 e2 e3 e4 e5 : Nat) (ev : sk_V) (ec : List (Int32 × Nat)) (ls : sk_Ls) (st : List sk_V) (h : sk_H)  : sk_B := b_inv (e1 - 1) e2 e3 e4 e5 st
def ac_invokestatic (nx e1 e2 e3 e4 e5 : Nat) (ev : sk_V) (ec : List (Int32 × Nat)) (ls : sk_Ls) (st : List sk_V) (h : sk_H)  : sk_B := b_inv (e1 - 1) e2 e3 e4 0 st
def sk_ac0 (i : Instr) (nx e1 e2 e3 e4 e5 : Nat) (ev : sk_V) (ec : List (Int32 × Nat)) (ls : sk_Ls) (st : List sk_V) (h : sk_H) : sk_B := match i with
  | .aconst_null => ac_aconst_null nx e1 e2 e3 e4 e5 ev ec ls st h
  | .iconst n => ac_iconst nx e1 e2 e3 e4 e5 ev ec ls st h n
  | .bipush n => ac_bipush nx e1 e2 e3 e4 e5 ev ec ls st h n
  | .sipush n => ac_sipush nx e1 e2 e3 e4 e5 ev ec ls st h n
  | .lconst n => ac_lconst nx e1 e2 e3 e4 e5 ev ec ls st h n
  | .ldc _ => ac_ldc nx e1 e2 e3 e4 e5 ev ec ls st h
  | .ldc_w _ => ac_ldc_w nx e1 e2 e3 e4 e5 ev ec ls st h
  | .ldc2_w _ => ac_ldc2_w nx e1 e2 e3 e4 e5 ev ec ls st h
  | .iload_n k => ac_iload_n nx e1 e2 e3 e4 e5 ev ec ls st h k
  | .iload k => ac_iload nx e1 e2 e3 e4 e5 ev ec ls st h k
  | .lload_n k => ac_lload_n nx e1 e2 e3 e4 e5 ev ec ls st h k
  | .lload k => ac_lload nx e1 e2 e3 e4 e5 ev ec ls st h k
  | .aload_n k => ac_aload_n nx e1 e2 e3 e4 e5 ev ec ls st h k
  | .aload k => ac_aload nx e1 e2 e3 e4 e5 ev ec ls st h k
  | .istore_n k => ac_istore_n nx e1 e2 e3 e4 e5 ev ec ls st h k
  | .istore k => ac_istore nx e1 e2 e3 e4 e5 ev ec ls st h k
  | .lstore_n k => ac_lstore_n nx e1 e2 e3 e4 e5 ev ec ls st h k
  | .lstore k => ac_lstore nx e1 e2 e3 e4 e5 ev ec ls st h k
  | .astore_n k => ac_astore_n nx e1 e2 e3 e4 e5 ev ec ls st h k
  | .astore k => ac_astore nx e1 e2 e3 e4 e5 ev ec ls st h k
  | .iinc k n => ac_iinc nx e1 e2 e3 e4 e5 ev ec ls st h k n
  | .dup => ac_dup nx e1 e2 e3 e4 e5 ev ec ls st h
  | .dup_x1 => ac_dup_x1 nx e1 e2 e3 e4 e5 ev ec ls st h
  | .dup2 => ac_dup2 nx e1 e2 e3 e4 e5 ev ec ls st h
  | .pop => ac_pop nx e1 e2 e3 e4 e5 ev ec ls st h
  | .iadd => ac_iadd nx e1 e2 e3 e4 e5 ev ec ls st h
  | .isub => ac_isub nx e1 e2 e3 e4 e5 ev ec ls st h
  | .imul => ac_imul nx e1 e2 e3 e4 e5 ev ec ls st h
  | .iand => ac_iand nx e1 e2 e3 e4 e5 ev ec ls st h
  | .ior => ac_ior nx e1 e2 e3 e4 e5 ev ec ls st h
  | .ixor => ac_ixor nx e1 e2 e3 e4 e5 ev ec ls st h
  | .idiv => ac_idiv nx e1 e2 e3 e4 e5 ev ec ls st h
  | .irem => ac_irem nx e1 e2 e3 e4 e5 ev ec ls st h
  | .ineg => ac_ineg nx e1 e2 e3 e4 e5 ev ec ls st h
  | .ishl => ac_ishl nx e1 e2 e3 e4 e5 ev ec ls st h
  | .ishr => ac_ishr nx e1 e2 e3 e4 e5 ev ec ls st h
  | .iushr => ac_iushr nx e1 e2 e3 e4 e5 ev ec ls st h
  | .ladd => ac_ladd nx e1 e2 e3 e4 e5 ev ec ls st h
  | .lsub => ac_lsub nx e1 e2 e3 e4 e5 ev ec ls st h
  | .lmul => ac_lmul nx e1 e2 e3 e4 e5 ev ec ls st h
  | .land => ac_land nx e1 e2 e3 e4 e5 ev ec ls st h
  | .lor => ac_lor nx e1 e2 e3 e4 e5 ev ec ls st h
  | .lxor => ac_lxor nx e1 e2 e3 e4 e5 ev ec ls st h
  | .ldiv => ac_ldiv nx e1 e2 e3 e4 e5 ev ec ls st h
  | .lrem => ac_lrem nx e1 e2 e3 e4 e5 ev ec ls st h
  | .lshl => ac_lshl nx e1 e2 e3 e4 e5 ev ec ls st h
  | .lshr => ac_lshr nx e1 e2 e3 e4 e5 ev ec ls st h
  | .lushr => ac_lushr nx e1 e2 e3 e4 e5 ev ec ls st h
  | .lcmp => ac_lcmp nx e1 e2 e3 e4 e5 ev ec ls st h
  | .i2l => ac_i2l nx e1 e2 e3 e4 e5 ev ec ls st h
  | .l2i => ac_l2i nx e1 e2 e3 e4 e5 ev ec ls st h
  | .i2b => ac_i2b nx e1 e2 e3 e4 e5 ev ec ls st h
  | .i2c => ac_i2c nx e1 e2 e3 e4 e5 ev ec ls st h
  | .goto _ => ac_goto nx e1 e2 e3 e4 e5 ev ec ls st h
  | .ifCond cd _ => ac_ifCond nx e1 e2 e3 e4 e5 ev ec ls st h cd
  | .if_icmp cd _ => ac_if_icmp nx e1 e2 e3 e4 e5 ev ec ls st h cd
  | .if_acmp .eq _ => ac_if_acmp_eq nx e1 e2 e3 e4 e5 ev ec ls st h
  | .if_acmp .ne _ => ac_if_acmp_ne nx e1 e2 e3 e4 e5 ev ec ls st h
  | .ifnull _ => ac_ifnull nx e1 e2 e3 e4 e5 ev ec ls st h
  | .ifnonnull _ => ac_ifnonnull nx e1 e2 e3 e4 e5 ev ec ls st h
  | .tableswitch _ _ _ _ => ac_tableswitch nx e1 e2 e3 e4 e5 ev ec ls st h
  | .lookupswitch _ _ => ac_lookupswitch nx e1 e2 e3 e4 e5 ev ec ls st h
  | .ireturn => ac_ireturn nx e1 e2 e3 e4 e5 ev ec ls st h
  | .lreturn => ac_lreturn nx e1 e2 e3 e4 e5 ev ec ls st h
  | .areturn => ac_areturn nx e1 e2 e3 e4 e5 ev ec ls st h
  | .return_ => ac_return_ nx e1 e2 e3 e4 e5 ev ec ls st h
  | .getfield _ => ac_getfield nx e1 e2 e3 e4 e5 ev ec ls st h
  | .putfield _ => ac_putfield nx e1 e2 e3 e4 e5 ev ec ls st h
  | .getstatic _ => ac_getstatic nx e1 e2 e3 e4 e5 ev ec ls st h
  | .new _ => ac_new nx e1 e2 e3 e4 e5 ev ec ls st h
  | .newarray t => ac_newarray nx e1 e2 e3 e4 e5 ev ec ls st h t
  | .anewarray _ => ac_anewarray nx e1 e2 e3 e4 e5 ev ec ls st h
  | .arraylength => ac_arraylength nx e1 e2 e3 e4 e5 ev ec ls st h
  | .iaload => ac_iaload nx e1 e2 e3 e4 e5 ev ec ls st h
  | .baload => ac_baload nx e1 e2 e3 e4 e5 ev ec ls st h
  | .caload => ac_caload nx e1 e2 e3 e4 e5 ev ec ls st h
  | .laload => ac_laload nx e1 e2 e3 e4 e5 ev ec ls st h
  | .aaload => ac_aaload nx e1 e2 e3 e4 e5 ev ec ls st h
  | .iastore => ac_iastore nx e1 e2 e3 e4 e5 ev ec ls st h
  | .bastore => ac_bastore nx e1 e2 e3 e4 e5 ev ec ls st h
  | .castore => ac_castore nx e1 e2 e3 e4 e5 ev ec ls st h
  | .lastore => ac_lastore nx e1 e2 e3 e4 e5 ev ec ls st h
  | .aastore => ac_aastore nx e1 e2 e3 e4 e5 ev ec ls st h
  | .invokespecial _ => ac_invokespecial nx e1 e2 e3 e4 e5 ev ec ls st h
  | .invokevirtual _ => ac_invokevirtual nx e1 e2 e3 e4 e5 ev ec ls st h
  | .invokestatic _ => ac_invokestatic nx e1 e2 e3 e4 e5 ev ec ls st h
  | _ => b_no
def sk_act (e : sk_E) (ls : sk_Ls) (st : List sk_V) (h : sk_H) : sk_B := match e with
  | (i, (nx, e1, e2, e3, e4, e5), ev, ec, _) => sk_ac0 i nx e1 e2 e3 e4 e5 ev ec ls st h
/-! answers by their kinds -/
abbrev sk_R : Type := Option (sk_H × Option sk_V)
def t_V (h : sk_H) (v : Option sk_V) : Option sk_H := match v with
  | none => some h
  | _ => none
def t_I (h : sk_H) (v : Option sk_V) : Option (sk_H × Int32) := match v with
  | some (.inl x) => some (h, x)
  | _ => none
def t_L (h : sk_H) (v : Option sk_V) : Option (sk_H × Int64) := match v with
  | some (.inr (.inl x)) => some (h, x)
  | _ => none
def t_R (h : sk_H) (v : Option sk_V) : Option (sk_H × Option Nat) := match v with
  | some (.inr (.inr x)) => some (h, x)
  | _ => none
def t_O (h : sk_H) (v : Option sk_V) : sk_R := some (h, v)
def sk_ty {τ : Type} (ret : sk_H → Option sk_V → Option τ) (r : sk_R) : Option τ := r.bind fun q => ret q.1 q.2
def sk_cont {τ : Type} (rk : Nat) (r : sk_R) (k : sk_H → List sk_V → Option τ) : Option τ := match rk with
  | 0 => (sk_ty t_V r).bind fun q => k q []
  | 1 => (sk_ty t_I r).bind fun q => k q.1 [.inl q.2]
  | 2 => (sk_ty t_L r).bind fun q => k q.1 [.inr (.inl q.2)]
  | _ => (sk_ty t_R r).bind fun q => k q.1 [.inr (.inr q.2)]
def sk_sw {τ : Type} (x : Int32) (f : Nat → Option τ) (d : Nat) : List (Int32 × Nat) → Option τ
  | [] => f d
  | c :: r => if x = c.1 then f c.2 else sk_sw x f d r
def sk_step {τ : Type} (ret : sk_H → Option sk_V → Option τ) (fc : Nat → sk_Ls → sk_H → sk_R) (f : sk_C → Option τ) (nx : Nat) (ls : sk_Ls) (h : sk_H) (A : sk_A) : Option τ := match A with
  | .inl c => f c
  | .inr (.inl (⟨p, dp⟩, c1, c2)) => @ite _ p dp (f c1) (f c2)
  | .inr (.inr (.inl (⟨p, dp⟩, c))) => @ite _ p dp (f c) none
  | .inr (.inr (.inr (.inl (x, cs, c)))) => match c with
    | (t0, c) => sk_sw x (fun t => f (t, c)) t0 cs
  | .inr (.inr (.inr (.inr (.inl (⟨p, dp⟩, v))))) => @ite _ p dp (ret h v) none
  | .inr (.inr (.inr (.inr (.inr ((m, rk, ml, k), as, st))))) => match k with
    | 0 => sk_cont rk (fc m (sk_ent ml as) h) (fun h1 vs => f (nx, ls, vs ++ st, h1))
    | k + 1 => (sk_rcv as).bind fun a => if hK h a = k + 1 then sk_cont rk (fc m (sk_ent ml as) h) (fun h1 vs => f (nx, ls, vs ++ st, h1)) else none
def sk_live (e : sk_E) (ls : sk_Ls) : sk_Ls := match e with
  | (_, _, _, _, some ks) => sk_kill ks ls
  | (_, _, _, _, none) => ls
def sk_fin {τ : Type} (ret : sk_H → Option sk_V → Option τ) (fc : Nat → sk_Ls → sk_H → sk_R) (f : sk_C → Option τ) (nx : Nat) (ls : sk_Ls) (h : sk_H) (b : sk_B) : Option τ := match b with
  | (r, k) => r.bind fun a => (k a).bind fun A => sk_step ret fc f nx ls h A
def sk_one {τ : Type} (ret : sk_H → Option sk_V → Option τ) (fc : Nat → sk_Ls → sk_H → sk_R) (f : sk_C → Option τ) (e : sk_E) (c : sk_C) : Option τ := match c with
  | (_, ls, st, h) => sk_fin ret fc f e.2.1.1 (sk_live e ls) h (sk_act e (sk_live e ls) st h)
/-- a call: the methods that call themselves spend one of d -/
def sk_call (rec? : Nat → Bool) (g : Nat → Nat → sk_C → sk_R) (d m : Nat) (ls : sk_Ls) (h : sk_H) : sk_R := match rec? m with
  | false => g d m (0, ls, [], h)
  | true => match d with
    | 0 => none
    | k + 1 => g k m (0, ls, [], h)
def sk_run (T : sk_T) (rec? : Nat → Bool) : Nat → Nat → Nat → sk_C → sk_R
  | 0, _, _, _ => none
  | n + 1, d, m, c => (T m c.1).bind fun e => sk_one t_O (sk_call rec? (sk_run T rec? n) d) (sk_run T rec? n d m) e c
end
section
/-! ===== the evaluator without a count of steps ===== -/
theorem sk_cont_mono {τ : Type} {rk : Nat} {r r' : sk_R} {k k' : sk_H → List sk_V → Option τ} {o : τ} (hr : ∀ q, r = some q → r' = some q) (hk : ∀ h vs o, k h vs = some o → k' h vs = some o) (h : sk_cont rk r k = some o) : sk_cont rk r' k' = some o := by
  cases hq : r with
  | none => rw [hq] at h; unfold sk_cont at h; split at h <;> simp [sk_ty] at h
  | some q =>
    rw [hr q hq]
    rw [hq] at h
    unfold sk_cont at h ⊢
    split at h <;> (simp only [sk_ty, Option.bind_some] at h ⊢; rw [Option.bind_eq_some_iff] at h ⊢; obtain ⟨x, h1, h2⟩ := h; exact ⟨x, h1, hk _ _ _ h2⟩)
theorem sk_sw_mono {τ : Type} {x : Int32} {f f' : Nat → Option τ} {d : Nat} {o : τ} (hf : ∀ t o, f t = some o → f' t = some o) : ∀ cs : List (Int32 × Nat), sk_sw x f d cs = some o → sk_sw x f' d cs = some o
  | [], h => hf _ _ h
  | c :: r, h => by
    unfold sk_sw at h ⊢
    split at h
    · rename_i hc; rw [if_pos hc]; exact hf _ _ h
    · rename_i hc; rw [if_neg hc]; exact sk_sw_mono hf r h
theorem sk_step_mono {τ : Type} {ret : sk_H → Option sk_V → Option τ} {fc fc' : Nat → sk_Ls → sk_H → sk_R} {f f' : sk_C → Option τ} {nx : Nat} {ls : sk_Ls} {h : sk_H} {o : τ} (hc : ∀ m ls h r, fc m ls h = some r → fc' m ls h = some r) (hf : ∀ c o, f c = some o → f' c = some o) (A : sk_A) (hA : sk_step ret fc f nx ls h A = some o) : sk_step ret fc' f' nx ls h A = some o := by
  match A, hA with
  | .inl c, hA => exact hf _ _ hA
  | .inr (.inl ⟨⟨p, dp⟩, c1, c2⟩), hA =>
    simp only [sk_step] at hA ⊢
    by_cases hp : p
    · rw [if_pos hp] at hA ⊢; exact hf _ _ hA
    · rw [if_neg hp] at hA ⊢; exact hf _ _ hA
  | .inr (.inr (.inl ⟨⟨p, dp⟩, c1⟩)), hA =>
    simp only [sk_step] at hA ⊢
    by_cases hp : p
    · rw [if_pos hp] at hA ⊢; exact hf _ _ hA
    · rw [if_neg hp] at hA; cases hA
  | .inr (.inr (.inr (.inl ⟨x, cs, t0, c⟩))), hA =>
    simp only [sk_step] at hA ⊢
    exact sk_sw_mono (fun t o => hf _ o) _ hA
  | .inr (.inr (.inr (.inr (.inl ⟨⟨p, dp⟩, v⟩)))), hA =>
    simp only [sk_step] at hA ⊢
    by_cases hp : p
    · rw [if_pos hp] at hA ⊢; exact hA
    · rw [if_neg hp] at hA; cases hA
  | .inr (.inr (.inr (.inr (.inr ⟨⟨m1, rk1, ml1, 0⟩, as1, rest1⟩)))), hA =>
    simp only [sk_step] at hA ⊢
    exact sk_cont_mono (hc _ _ _) (fun h vs o => hf _ o) hA
  | .inr (.inr (.inr (.inr (.inr ⟨⟨m1, rk1, ml1, k1 + 1⟩, as1, rest1⟩)))), hA =>
    simp only [sk_step] at hA ⊢
    rw [Option.bind_eq_some_iff] at hA ⊢
    obtain ⟨a, h1, h2⟩ := hA
    refine ⟨a, h1, ?_⟩
    by_cases hp : hK h a = k1 + 1
    · rw [if_pos hp] at h2 ⊢; exact sk_cont_mono (hc _ _ _) (fun h vs o => hf _ o) h2
    · rw [if_neg hp] at h2; cases h2
theorem sk_one_mono {τ : Type} {ret : sk_H → Option sk_V → Option τ} {fc fc' : Nat → sk_Ls → sk_H → sk_R} {f f' : sk_C → Option τ} {e : sk_E} {c : sk_C} {o : τ} (hc : ∀ m ls h r, fc m ls h = some r → fc' m ls h = some r) (hf : ∀ c o, f c = some o → f' c = some o) (h : sk_one ret fc f e c = some o) : sk_one ret fc' f' e c = some o := by
  obtain ⟨pc, ls, st, hp⟩ := c
  unfold sk_one at h ⊢
  simp only at h ⊢
  revert h
  generalize sk_act e (sk_live e ls) st hp = b
  obtain ⟨r, k⟩ := b
  intro h
  simp only [sk_fin] at h ⊢
  rw [Option.bind_eq_some_iff] at h ⊢
  obtain ⟨a, h1, h2⟩ := h
  rw [Option.bind_eq_some_iff] at h2
  obtain ⟨A, h3, h4⟩ := h2
  exact ⟨a, h1, by rw [h3]; exact sk_step_mono hc hf A h4⟩
theorem sk_call_mono {rec? : Nat → Bool} {g g' : Nat → Nat → sk_C → sk_R} (hg : ∀ d m c r, g d m c = some r → g' d m c = some r) (d m : Nat) (ls : sk_Ls) (h : sk_H) (r : sk_H × Option sk_V) (hr : sk_call rec? g d m ls h = some r) : sk_call rec? g' d m ls h = some r := by
  unfold sk_call at hr ⊢
  cases hm : rec? m with
  | false => rw [hm] at hr; exact hg _ _ _ _ hr
  | true =>
    rw [hm] at hr
    cases d with
    | zero => cases hr
    | succ k => exact hg _ _ _ _ hr
theorem sk_run_succ (T : sk_T) (rec? : Nat → Bool) : ∀ n d m c r, sk_run T rec? n d m c = some r → sk_run T rec? (n + 1) d m c = some r
  | 0, _, _, _, _, h => by cases h
  | n + 1, d, m, c, r, h => by
    unfold sk_run at h ⊢
    rw [Option.bind_eq_some_iff] at h ⊢
    obtain ⟨e, h1, h2⟩ := h
    exact ⟨e, h1, sk_one_mono (fun m ls h r => sk_call_mono (sk_run_succ T rec? n) d m ls h r) (fun c o => sk_run_succ T rec? n d m c o) h2⟩
theorem sk_run_le (T : sk_T) (rec? : Nat → Bool) {n k : Nat} (h : n ≤ k) : ∀ d m c r, sk_run T rec? n d m c = some r → sk_run T rec? k d m c = some r := by
  induction h with
  | refl => exact fun _ _ _ _ h => h
  | step _ ih => exact fun d m c r h => sk_run_succ T rec? _ d m c r (ih d m c r h)
noncomputable def sk_X (T : sk_T) (rec? : Nat → Bool) (d m : Nat) (c : sk_C) : sk_R :=
  @dite _ (∃ n r, sk_run T rec? n d m c = some r) (Classical.propDecidable _) (fun h => sk_run T rec? h.choose d m c) (fun _ => none)
theorem sk_X_iff {T : sk_T} {rec? : Nat → Bool} {d m : Nat} {c : sk_C} {r : sk_H × Option sk_V} : sk_X T rec? d m c = some r ↔ ∃ n, sk_run T rec? n d m c = some r := by
  unfold sk_X
  constructor
  · intro h
    split at h
    · exact ⟨_, h⟩
    · cases h
  · intro ⟨n, h⟩
    have hx : ∃ n r, sk_run T rec? n d m c = some r := ⟨n, r, h⟩
    rw [dif_pos hx]
    obtain ⟨r', h'⟩ := hx.choose_spec
    rw [h']
    have h1 := sk_run_le T rec? (Nat.le_max_left n hx.choose) d m c r h
    have h2 := sk_run_le T rec? (Nat.le_max_right n hx.choose) d m c r' h'
    exact h2.symm.trans h1
/-- what holds of the whole holds of enough steps -/
theorem sk_cont_lim {τ : Type} {rk : Nat} {r : sk_R} {rn : Nat → sk_R} {k : sk_H → List sk_V → Option τ} {kn : Nat → sk_H → List sk_V → Option τ} {o : τ} (hr : ∀ q, r = some q → ∃ n, rn n = some q) (hrm : ∀ n j q, n ≤ j → rn n = some q → rn j = some q) (hk : ∀ h vs o, k h vs = some o → ∃ n, kn n h vs = some o) (hkm : ∀ n j h vs o, n ≤ j → kn n h vs = some o → kn j h vs = some o) (h : sk_cont rk r k = some o) : ∃ n, sk_cont rk (rn n) (kn n) = some o := by
  cases hq : r with
  | none => rw [hq] at h; unfold sk_cont at h; split at h <;> simp [sk_ty] at h
  | some q =>
    obtain ⟨n1, h1⟩ := hr q hq
    rw [hq] at h
    have key : ∃ n2, sk_cont rk (some q) (kn n2) = some o := by
      unfold sk_cont at h ⊢
      split at h <;> (simp only [sk_ty, Option.bind_some] at h ⊢; rw [Option.bind_eq_some_iff] at h; obtain ⟨x, h1, h2⟩ := h; obtain ⟨n, hn⟩ := hk _ _ _ h2; exact ⟨n, by rw [h1]; exact hn⟩)
    obtain ⟨n2, h2⟩ := key
    refine ⟨max n1 n2, ?_⟩
    rw [hrm n1 _ q (Nat.le_max_left _ _) h1]
    exact sk_cont_mono (fun _ h => h) (fun h vs o => hkm _ _ h vs o (Nat.le_max_right _ _)) h2
theorem sk_sw_lim {τ : Type} {x : Int32} {f : Nat → Option τ} {fn : Nat → Nat → Option τ} {d : Nat} {o : τ} (hf : ∀ t o, f t = some o → ∃ n, fn n t = some o) : ∀ cs : List (Int32 × Nat), sk_sw x f d cs = some o → ∃ n, sk_sw x (fn n) d cs = some o
  | [], h => hf _ _ h
  | c :: r, h => by
    unfold sk_sw at h ⊢
    split at h
    · rename_i hc; simp only [if_pos hc]; exact hf _ _ h
    · rename_i hc; simp only [if_neg hc]; exact sk_sw_lim hf r h
theorem sk_one_lim {τ : Type} {ret : sk_H → Option sk_V → Option τ} {fc : Nat → sk_Ls → sk_H → sk_R} {fcn : Nat → Nat → sk_Ls → sk_H → sk_R} {f : sk_C → Option τ} {fn : Nat → sk_C → Option τ} {e : sk_E} {c : sk_C} {o : τ} (hc : ∀ m ls h r, fc m ls h = some r → ∃ n, fcn n m ls h = some r) (hcm : ∀ n j m ls h r, n ≤ j → fcn n m ls h = some r → fcn j m ls h = some r) (hf : ∀ c o, f c = some o → ∃ n, fn n c = some o) (hfm : ∀ n j c o, n ≤ j → fn n c = some o → fn j c = some o) (h : sk_one ret fc f e c = some o) : ∃ n, sk_one ret (fcn n) (fn n) e c = some o := by
  obtain ⟨pc, ls, st, h⟩ := c
  rename _ = some o => hh
  unfold sk_one at hh ⊢
  simp only at hh ⊢
  revert hh
  generalize sk_act e (sk_live e ls) st h = b
  obtain ⟨r, k⟩ := b
  intro hh
  simp only [sk_fin] at hh ⊢
  rw [Option.bind_eq_some_iff] at hh
  obtain ⟨a, h1, h2⟩ := hh
  rw [Option.bind_eq_some_iff] at h2
  obtain ⟨A, h3, h4⟩ := h2
  simp only [h1, h3, Option.bind_some]
  match A, h4 with
  | .inl c, hA => exact hf _ _ hA
  | .inr (.inl ⟨⟨p, dp⟩, c1, c2⟩), hA =>
    simp only [sk_step] at hA ⊢
    by_cases hp : p
    · simp only [if_pos hp] at hA ⊢; exact hf _ _ hA
    · simp only [if_neg hp] at hA ⊢; exact hf _ _ hA
  | .inr (.inr (.inl ⟨⟨p, dp⟩, c1⟩)), hA =>
    simp only [sk_step] at hA ⊢
    by_cases hp : p
    · simp only [if_pos hp] at hA ⊢; exact hf _ _ hA
    · rw [if_neg hp] at hA; cases hA
  | .inr (.inr (.inr (.inl ⟨x, cs, t0, c⟩))), hA =>
    simp only [sk_step] at hA ⊢
    exact sk_sw_lim (fun t o => hf _ o) _ hA
  | .inr (.inr (.inr (.inr (.inl ⟨⟨p, dp⟩, v⟩)))), hA =>
    simp only [sk_step] at hA ⊢
    by_cases hp : p
    · simp only [if_pos hp] at hA ⊢; exact ⟨0, hA⟩
    · rw [if_neg hp] at hA; cases hA
  | .inr (.inr (.inr (.inr (.inr ⟨⟨m1, rk1, ml1, 0⟩, as1, rest1⟩)))), hA =>
    simp only [sk_step] at hA ⊢
    exact sk_cont_lim (hc _ _ _) (fun n j q => hcm n j _ _ _ q) (fun h vs o => hf _ o) (fun n j h vs o => hfm n j _ o) hA
  | .inr (.inr (.inr (.inr (.inr ⟨⟨m1, rk1, ml1, k1 + 1⟩, as1, rest1⟩)))), hA =>
    simp only [sk_step] at hA ⊢
    rw [Option.bind_eq_some_iff] at hA
    obtain ⟨a, h1, h2⟩ := hA
    simp only [h1, Option.bind_some]
    by_cases hp : hK h a = k1 + 1
    · simp only [if_pos hp] at h2 ⊢; exact sk_cont_lim (hc _ _ _) (fun n j q => hcm n j _ _ _ q) (fun h vs o => hf _ o) (fun n j h vs o => hfm n j _ o) h2
    · rw [if_neg hp] at h2; cases h2
theorem sk_X_eq (T : sk_T) (rec? : Nat → Bool) (d m : Nat) (c : sk_C) : sk_X T rec? d m c = (T m c.1).bind fun e => sk_one t_O (sk_call rec? (sk_X T rec?) d) (sk_X T rec? d m) e c := by
  have hrX : ∀ n d m c r, sk_run T rec? n d m c = some r → sk_X T rec? d m c = some r := fun n d m c r h => sk_X_iff.mpr ⟨n, h⟩
  apply Option.ext
  intro r
  constructor
  · intro h
    obtain ⟨n, h⟩ := sk_X_iff.mp h
    cases n with
    | zero => cases h
    | succ n =>
      unfold sk_run at h
      rw [Option.bind_eq_some_iff] at h ⊢
      obtain ⟨e, h1, h2⟩ := h
      exact ⟨e, h1, sk_one_mono (fun m ls h r => sk_call_mono (hrX n) d m ls h r) (fun c o => hrX n d m c o) h2⟩
  · intro h
    rw [Option.bind_eq_some_iff] at h
    obtain ⟨e, h1, h2⟩ := h
    obtain ⟨n, h3⟩ := sk_one_lim (fcn := fun n => sk_call rec? (sk_run T rec? n) d) (fn := fun n => sk_run T rec? n d m) (fun m ls h r hr => by
      unfold sk_call at hr ⊢
      cases hm : rec? m with
      | false => rw [hm] at hr; exact sk_X_iff.mp hr
      | true =>
        rw [hm] at hr
        cases d with
        | zero => cases hr
        | succ k => exact sk_X_iff.mp hr) (fun n j m ls h r hj hr => sk_call_mono (sk_run_le T rec? hj) d m ls h r hr) (fun c o h => sk_X_iff.mp h) (fun n j c o hj h => sk_run_le T rec? hj d m c o h) h2
    refine sk_X_iff.mpr ⟨n + 1, ?_⟩
    unfold sk_run
    rw [h1]
    exact h3
/-- by the kind of answer -/
noncomputable def sk_XT {τ : Type} (T : sk_T) (rec? : Nat → Bool) (ret : sk_H → Option sk_V → Option τ) (d m : Nat) (c : sk_C) : Option τ := sk_ty ret (sk_X T rec? d m c)
theorem sk_cont_ty {τ : Type} {ret : sk_H → Option sk_V → Option τ} (rk : Nat) (r : sk_R) (k : sk_H → List sk_V → sk_R) : sk_ty ret (sk_cont rk r k) = sk_cont rk r (fun h vs => sk_ty ret (k h vs)) := by
  unfold sk_cont sk_ty
  split <;> (rw [Option.bind_assoc])
theorem sk_sw_ty {τ : Type} {ret : sk_H → Option sk_V → Option τ} (x : Int32) (f : Nat → sk_R) (d : Nat) : ∀ cs : List (Int32 × Nat), sk_ty ret (sk_sw x f d cs) = sk_sw x (fun t => sk_ty ret (f t)) d cs
  | [] => rfl
  | c :: r => by
    unfold sk_sw
    split
    · rfl
    · exact sk_sw_ty x f d r
theorem sk_one_ty {τ : Type} {ret : sk_H → Option sk_V → Option τ} (fc : Nat → sk_Ls → sk_H → sk_R) (f : sk_C → sk_R) (e : sk_E) (c : sk_C) : sk_ty ret (sk_one t_O fc f e c) = sk_one ret fc (fun c => sk_ty ret (f c)) e c := by
  obtain ⟨pc, ls, st, h⟩ := c
  unfold sk_one
  simp only
  generalize sk_act e (sk_live e ls) st h = b
  obtain ⟨r, k⟩ := b
  simp only [sk_fin]
  cases r with
  | none => rfl
  | some a =>
    simp only [Option.bind_some]
    cases h2 : k a with
    | none => rfl
    | some A =>
      simp only [Option.bind_some]
      match A with
      | .inl c => rfl
      | .inr (.inl ⟨⟨p, dp⟩, c1, c2⟩) => simp only [sk_step]; split <;> rfl
      | .inr (.inr (.inl ⟨⟨p, dp⟩, c1⟩)) => simp only [sk_step]; split <;> rfl
      | .inr (.inr (.inr (.inl ⟨x, cs, t0, c⟩))) =>
        simp only [sk_step]
        exact sk_sw_ty _ _ _ _
      | .inr (.inr (.inr (.inr (.inl ⟨⟨p, dp⟩, v⟩)))) => simp only [sk_step]; split <;> rfl
      | .inr (.inr (.inr (.inr (.inr ⟨⟨m1, rk1, ml1, 0⟩, as1, rest1⟩)))) =>
        simp only [sk_step]
        exact sk_cont_ty _ _ _
      | .inr (.inr (.inr (.inr (.inr ⟨⟨m1, rk1, ml1, k1 + 1⟩, as1, rest1⟩)))) =>
        simp only [sk_step]
        cases sk_rcv as1 with
        | none => rfl
        | some a =>
          simp only [Option.bind_some]
          split
          · exact sk_cont_ty _ _ _
          · rfl
theorem sk_XT_eq {τ : Type} (T : sk_T) (rec? : Nat → Bool) (ret : sk_H → Option sk_V → Option τ) (d m : Nat) (c : sk_C) : sk_XT T rec? ret d m c = (T m c.1).bind fun e => sk_one ret (sk_call rec? (sk_X T rec?) d) (sk_XT T rec? ret d m) e c := by
  unfold sk_XT
  rw [sk_X_eq]
  cases T m c.1 with
  | none => rfl
  | some e => exact sk_one_ty _ _ _ _
theorem sk_kill_kill : ∀ (ks : List Bool) (ls : sk_Ls), sk_kill ks (sk_kill ks ls) = sk_kill ks ls
  | [], ls => by simp [sk_kill]
  | _ :: _, [] => by simp [sk_kill]
  | b :: bs, v :: r => by
    simp only [sk_kill, sk_kill_kill bs r]
    cases b <;> rfl
theorem sk_live_live (e : sk_E) (ls : sk_Ls) : sk_live e (sk_live e ls) = sk_live e ls := by
  obtain ⟨i, x, v, cs, ks⟩ := e
  cases ks with
  | none => rfl
  | some ks => exact sk_kill_kill _ _
theorem sk_XT_live {τ : Type} (T : sk_T) (rec? : Nat → Bool) (ret : sk_H → Option sk_V → Option τ) (d m : Nat) (c : sk_C) {e : sk_E} (he : T m c.1 = some e) : sk_XT T rec? ret d m c = sk_XT T rec? ret d m (c.1, sk_live e c.2.1, c.2.2) := by
  rw [sk_XT_eq, sk_XT_eq T rec? ret d m (c.1, sk_live e c.2.1, c.2.2)]
  simp only [he, Option.bind_some, sk_one, sk_live_live]
/-- many steps, to the next cuts -/
def sk_hop {τ : Type} (T : sk_T) (m : Nat) (f g : sk_C → Option τ) (c : sk_C) : Option τ := match T m c.1 with
  | none => f c
  | some e => match e.2.2.2.2 with
    | some ks => f (c.1, sk_kill ks c.2.1, c.2.2)
    | none => g c
def sk_ev {τ : Type} (T : sk_T) (ret : sk_H → Option sk_V → Option τ) (fc : Nat → sk_Ls → sk_H → sk_R) (m : Nat) (f : sk_C → Option τ) : Nat → sk_C → Option τ
  | 0, c => f c
  | n + 1, c => (T m c.1).bind fun e => sk_one ret fc (sk_hop T m f (sk_ev T ret fc m f n)) e c
theorem sk_XT_ev {τ : Type} (T : sk_T) (rec? : Nat → Bool) (ret : sk_H → Option sk_V → Option τ) (d m : Nat) : ∀ (n : Nat) (c : sk_C), sk_XT T rec? ret d m c = sk_ev T ret (sk_call rec? (sk_X T rec?) d) m (sk_XT T rec? ret d m) n c
  | 0, _ => rfl
  | n + 1, c => by
    rw [sk_XT_eq]
    unfold sk_ev
    have : sk_XT T rec? ret d m = sk_hop T m (sk_XT T rec? ret d m) (sk_ev T ret (sk_call rec? (sk_X T rec?) d) m (sk_XT T rec? ret d m) n) := by
      funext c
      unfold sk_hop
      split
      · rfl
      · rename_i e he
        split
        · rename_i ks hk
          rw [sk_XT_live T rec? ret d m c he]
          obtain ⟨i, x, v, cs, kk⟩ := e
          cases hk
          rfl
        · exact sk_XT_ev T rec? ret d m n c
    exact congrArg (fun f => (T m c.1).bind fun e => sk_one ret (sk_call rec? (sk_X T rec?) d) f e c) this
end
section
/-! ===== the code, by methods: printed by the writer's own program out of the claim's text ===== -/
def z_Ac_init : List (Nat × sk_E) := [
  (0, (.aload_n 0, (1, 0, 0, 0, 0, 0), .inl 0, [], none)),
  (1, (.invokespecial 3, (4, 0, 1, 0, 0, 0), .inl 0, [], none)),
  (4, (.aload_n 0, (5, 0, 0, 0, 0, 0), .inl 0, [], none)),
  (5, (.bipush 20, (7, 0, 0, 0, 0, 0), .inl 0, [], none)),
  (7, (.newarray .int, (9, 0, 0, 0, 0, 0), .inl 0, [], none)),
  (9, (.putfield 9, (12, 1, 0, 2, 0, 0), .inl 0, [], none)),
  (12, (.aload_n 0, (13, 0, 0, 0, 0, 0), .inl 0, [], none)),
  (13, (.bipush 20, (15, 0, 0, 0, 0, 0), .inl 0, [], none)),
  (15, (.newarray .int, (17, 0, 0, 0, 0, 0), .inl 0, [], none)),
  (17, (.putfield 15, (20, 1, 1, 2, 0, 0), .inl 0, [], none)),
  (20, (.aload_n 0, (21, 0, 0, 0, 0, 0), .inl 0, [], none)),
  (21, (.bipush 20, (23, 0, 0, 0, 0, 0), .inl 0, [], none)),
  (23, (.newarray .int, (25, 0, 0, 0, 0, 0), .inl 0, [], none)),
  (25, (.putfield 18, (28, 1, 2, 2, 0, 0), .inl 0, [], none)),
  (28, (.return_, (29, 0, 0, 0, 0, 0), .inl 0, [], none))]
def z_Ac_forget : List (Nat × sk_E) := [
  (0, (.aload_n 0, (1, 0, 0, 0, 0, 0), .inl 0, [], none)),
  (1, (.iconst 0, (2, 0, 0, 0, 0, 0), .inl 0, [], none)),
  (2, (.putfield 21, (5, 1, 4, 0, 0, 0), .inl 0, [], none)),
  (5, (.return_, (6, 0, 0, 0, 0, 0), .inl 0, [], none))]
def z_Ac_keep : List (Nat × sk_E) := [
  (0, (.aload_n 0, (1, 0, 0, 0, 0, 0), .inl 0, [], none)),
  (1, (.getfield 9, (4, 1, 0, 2, 0, 0), .inl 0, [], none)),
  (4, (.aload_n 0, (5, 0, 0, 0, 0, 0), .inl 0, [], none)),
  (5, (.getfield 25, (8, 1, 3, 0, 0, 0), .inl 0, [], none)),
  (8, (.aload_n 1, (9, 0, 0, 0, 0, 0), .inl 0, [], none)),
  (9, (.getfield 28, (12, 9, 1, 0, 0, 0), .inl 0, [], none)),
  (12, (.iastore, (13, 0, 0, 0, 0, 0), .inl 0, [], none)),
  (13, (.aload_n 0, (14, 0, 0, 0, 0, 0), .inl 0, [], none)),
  (14, (.getfield 15, (17, 1, 1, 2, 0, 0), .inl 0, [], none)),
  (17, (.aload_n 0, (18, 0, 0, 0, 0, 0), .inl 0, [], none)),
  (18, (.getfield 25, (21, 1, 3, 0, 0, 0), .inl 0, [], none)),
  (21, (.aload_n 1, (22, 0, 0, 0, 0, 0), .inl 0, [], none)),
  (22, (.getfield 32, (25, 9, 2, 0, 0, 0), .inl 0, [], none)),
  (25, (.iastore, (26, 0, 0, 0, 0, 0), .inl 0, [], none)),
  (26, (.aload_n 0, (27, 0, 0, 0, 0, 0), .inl 0, [], none)),
  (27, (.getfield 18, (30, 1, 2, 2, 0, 0), .inl 0, [], none)),
  (30, (.aload_n 0, (31, 0, 0, 0, 0, 0), .inl 0, [], none)),
  (31, (.getfield 25, (34, 1, 3, 0, 0, 0), .inl 0, [], none)),
  (34, (.aload_n 1, (35, 0, 0, 0, 0, 0), .inl 0, [], none)),
  (35, (.getfield 34, (38, 9, 3, 0, 0, 0), .inl 0, [], none)),
  (38, (.iastore, (39, 0, 0, 0, 0, 0), .inl 0, [], none)),
  (39, (.aload_n 0, (40, 0, 0, 0, 0, 0), .inl 0, [], none)),
  (40, (.aload_n 0, (41, 0, 0, 0, 0, 0), .inl 0, [], none)),
  (41, (.getfield 25, (44, 1, 3, 0, 0, 0), .inl 0, [], none)),
  (44, (.iconst 1, (45, 0, 0, 0, 0, 0), .inl 0, [], none)),
  (45, (.iadd, (46, 0, 0, 0, 0, 0), .inl 0, [], none)),
  (46, (.bipush 20, (48, 0, 0, 0, 0, 0), .inl 0, [], none)),
  (48, (.irem, (49, 0, 0, 0, 0, 0), .inl 0, [], none)),
  (49, (.putfield 25, (52, 1, 3, 0, 0, 0), .inl 0, [], none)),
  (52, (.aload_n 0, (53, 0, 0, 0, 0, 0), .inl 0, [], none)),
  (53, (.aload_n 0, (54, 0, 0, 0, 0, 0), .inl 0, [], none)),
  (54, (.getfield 21, (57, 1, 4, 0, 0, 0), .inl 0, [], none)),
  (57, (.iconst 1, (58, 0, 0, 0, 0, 0), .inl 0, [], none)),
  (58, (.iadd, (59, 0, 0, 0, 0, 0), .inl 0, [], none)),
  (59, (.bipush 20, (61, 0, 0, 0, 0, 0), .inl 0, [], none)),
  (61, (.invokestatic 36, (64, 242, 2, 1, 2, 0), .inl 0, [], none)),
  (64, (.putfield 21, (67, 1, 4, 0, 0, 0), .inl 0, [], none)),
  (67, (.return_, (68, 0, 0, 0, 0, 0), .inl 0, [], none))]
def z_Ac_takeBack : List (Nat × sk_E) := [
  (0, (.aload_n 0, (1, 0, 0, 0, 0, 0), .inl 0, [], none)),
  (1, (.getfield 21, (4, 1, 4, 0, 0, 0), .inl 0, [], none)),
  (4, (.ifCond .ne 5, (7, 9, 0, 0, 0, 0), .inl 0, [], none)),
  (7, (.iconst (-1), (8, 0, 0, 0, 0, 0), .inl 0, [], none)),
  (8, (.ireturn, (9, 0, 0, 0, 0, 0), .inl 0, [], none)),
  (9, (.aload_n 0, (10, 0, 0, 0, 0, 0), .inl 0, [], none)),
  (10, (.aload_n 0, (11, 0, 0, 0, 0, 0), .inl 0, [], none)),
  (11, (.getfield 25, (14, 1, 3, 0, 0, 0), .inl 0, [], none)),
  (14, (.bipush 20, (16, 0, 0, 0, 0, 0), .inl 0, [], none)),
  (16, (.iadd, (17, 0, 0, 0, 0, 0), .inl 0, [], none)),
  (17, (.iconst 1, (18, 0, 0, 0, 0, 0), .inl 0, [], none)),
  (18, (.isub, (19, 0, 0, 0, 0, 0), .inl 0, [], none)),
  (19, (.bipush 20, (21, 0, 0, 0, 0, 0), .inl 0, [], none)),
  (21, (.irem, (22, 0, 0, 0, 0, 0), .inl 0, [], none)),
  (22, (.putfield 25, (25, 1, 3, 0, 0, 0), .inl 0, [], none)),
  (25, (.aload_n 0, (26, 0, 0, 0, 0, 0), .inl 0, [], none)),
  (26, (.dup, (27, 0, 0, 0, 0, 0), .inl 0, [], none)),
  (27, (.getfield 21, (30, 1, 4, 0, 0, 0), .inl 0, [], none)),
  (30, (.iconst 1, (31, 0, 0, 0, 0, 0), .inl 0, [], none)),
  (31, (.isub, (32, 0, 0, 0, 0, 0), .inl 0, [], none)),
  (32, (.putfield 21, (35, 1, 4, 0, 0, 0), .inl 0, [], none)),
  (35, (.aload_n 1, (36, 0, 0, 0, 0, 0), .inl 0, [], none)),
  (36, (.aload_n 0, (37, 0, 0, 0, 0, 0), .inl 0, [], none)),
  (37, (.getfield 9, (40, 1, 0, 2, 0, 0), .inl 0, [], none)),
  (40, (.aload_n 0, (41, 0, 0, 0, 0, 0), .inl 0, [], none)),
  (41, (.getfield 25, (44, 1, 3, 0, 0, 0), .inl 0, [], none)),
  (44, (.iaload, (45, 0, 0, 0, 0, 0), .inl 0, [], none)),
  (45, (.putfield 28, (48, 9, 1, 0, 0, 0), .inl 0, [], none)),
  (48, (.aload_n 1, (49, 0, 0, 0, 0, 0), .inl 0, [], none)),
  (49, (.aload_n 0, (50, 0, 0, 0, 0, 0), .inl 0, [], none)),
  (50, (.getfield 15, (53, 1, 1, 2, 0, 0), .inl 0, [], none)),
  (53, (.aload_n 0, (54, 0, 0, 0, 0, 0), .inl 0, [], none)),
  (54, (.getfield 25, (57, 1, 3, 0, 0, 0), .inl 0, [], none)),
  (57, (.iaload, (58, 0, 0, 0, 0, 0), .inl 0, [], none)),
  (58, (.putfield 32, (61, 9, 2, 0, 0, 0), .inl 0, [], none)),
  (61, (.aload_n 1, (62, 0, 0, 0, 0, 0), .inl 0, [], none)),
  (62, (.aload_n 0, (63, 0, 0, 0, 0, 0), .inl 0, [], none)),
  (63, (.getfield 18, (66, 1, 2, 2, 0, 0), .inl 0, [], none)),
  (66, (.aload_n 0, (67, 0, 0, 0, 0, 0), .inl 0, [], none)),
  (67, (.getfield 25, (70, 1, 3, 0, 0, 0), .inl 0, [], none)),
  (70, (.iaload, (71, 0, 0, 0, 0, 0), .inl 0, [], none)),
  (71, (.putfield 34, (74, 9, 3, 0, 0, 0), .inl 0, [], none)),
  (74, (.aload_n 0, (75, 0, 0, 0, 0, 0), .inl 0, [], none)),
  (75, (.getfield 21, (78, 1, 4, 0, 0, 0), .inl 0, [], none)),
  (78, (.ireturn, (79, 0, 0, 0, 0, 0), .inl 0, [], none))]
def z_Al_init : List (Nat × sk_E) := [
  (0, (.aload_n 0, (1, 0, 0, 0, 0, 0), .inl 0, [], none)),
  (1, (.invokespecial 3, (4, 0, 1, 0, 0, 0), .inl 0, [], none)),
  (4, (.aload_n 0, (5, 0, 0, 0, 0, 0), .inl 0, [], none)),
  (5, (.bipush 12, (7, 0, 0, 0, 0, 0), .inl 0, [], none)),
  (7, (.newarray .int, (9, 0, 0, 0, 0, 0), .inl 0, [], none)),
  (9, (.putfield 9, (12, 2, 8, 2, 0, 0), .inl 0, [], none)),
  (12, (.aload_n 0, (13, 0, 0, 0, 0, 0), .inl 0, [], none)),
  (13, (.iconst 4, (14, 0, 0, 0, 0, 0), .inl 0, [], none)),
  (14, (.newarray .int, (16, 0, 0, 0, 0, 0), .inl 0, [], none)),
  (16, (.putfield 15, (19, 2, 9, 2, 0, 0), .inl 0, [], none)),
  (19, (.aload_n 0, (20, 0, 0, 0, 0, 0), .inl 0, [], none)),
  (20, (.iconst 4, (21, 0, 0, 0, 0, 0), .inl 0, [], none)),
  (21, (.newarray .int, (23, 0, 0, 0, 0, 0), .inl 0, [], none)),
  (23, (.putfield 18, (26, 2, 10, 2, 0, 0), .inl 0, [], none)),
  (26, (.aload_n 0, (27, 0, 0, 0, 0, 0), .inl 0, [], none)),
  (27, (.iconst 4, (28, 0, 0, 0, 0, 0), .inl 0, [], none)),
  (28, (.newarray .boolean, (30, 0, 0, 0, 0, 0), .inl 0, [], none)),
  (30, (.putfield 21, (33, 2, 11, 2, 0, 0), .inl 0, [], none)),
  (33, (.aload_n 0, (34, 0, 0, 0, 0, 0), .inl 0, [], none)),
  (34, (.bipush 12, (36, 0, 0, 0, 0, 0), .inl 0, [], none)),
  (36, (.newarray .int, (38, 0, 0, 0, 0, 0), .inl 0, [], none)),
  (38, (.putfield 25, (41, 2, 12, 2, 0, 0), .inl 0, [], none)),
  (41, (.aload_n 0, (42, 0, 0, 0, 0, 0), .inl 0, [], none)),
  (42, (.bipush 12, (44, 0, 0, 0, 0, 0), .inl 0, [], none)),
  (44, (.newarray .int, (46, 0, 0, 0, 0, 0), .inl 0, [], none)),
  (46, (.putfield 28, (49, 2, 13, 2, 0, 0), .inl 0, [], none)),
  (49, (.aload_n 0, (50, 0, 0, 0, 0, 0), .inl 0, [], none)),
  (50, (.iconst 0, (51, 0, 0, 0, 0, 0), .inl 0, [], none)),
  (51, (.anewarray 31, (54, 108, 0, 0, 0, 0), .inl 0, [], none)),
  (54, (.putfield 33, (57, 2, 14, 2, 0, 0), .inl 0, [], none)),
  (57, (.aload_n 0, (58, 0, 0, 0, 0, 0), .inl 0, [], none)),
  (58, (.iconst 0, (59, 0, 0, 0, 0, 0), .inl 0, [], none)),
  (59, (.anewarray 31, (62, 108, 0, 0, 0, 0), .inl 0, [], none)),
  (62, (.putfield 37, (65, 2, 15, 2, 0, 0), .inl 0, [], none)),
  (65, (.aload_n 0, (66, 0, 0, 0, 0, 0), .inl 0, [], none)),
  (66, (.bipush 41, (68, 0, 0, 0, 0, 0), .inl 0, [], none)),
  (68, (.newarray .int, (70, 0, 0, 0, 0, 0), .inl 0, [], none)),
  (70, (.putfield 40, (73, 2, 16, 2, 0, 0), .inl 0, [], none)),
  (73, (.return_, (74, 0, 0, 0, 0, 0), .inl 0, [], none))]
def z_Al_addPlace : List (Nat × sk_E) := [
  (0, (.aload_n 0, (1, 0, 0, 0, 0, 0), .inl 0, [], none)),
  (1, (.getfield 43, (4, 2, 3, 0, 0, 0), .inl 0, [], none)),
  (4, (.iconst 1, (5, 0, 0, 0, 0, 0), .inl 0, [], none)),
  (5, (.isub, (6, 0, 0, 0, 0, 0), .inl 0, [], none)),
  (6, (.istore_n 2, (7, 0, 0, 0, 0, 0), .inl 0, [], none)),
  (7, (.aload_n 0, (8, 0, 0, 0, 0, 0), .inl 0, [], none)),
  (8, (.getfield 47, (11, 2, 2, 0, 0, 0), .inl 0, [], none)),
  (11, (.bipush 12, (13, 0, 0, 0, 0, 0), .inl 0, [], none)),
  (13, (.if_icmp .ge 12, (16, 25, 0, 0, 0, 0), .inl 0, [], none)),
  (16, (.iload_n 2, (17, 0, 0, 0, 0, 0), .inl 0, [], none)),
  (17, (.ifCond .lt 8, (20, 25, 0, 0, 0, 0), .inl 0, [], none)),
  (20, (.iload_n 2, (21, 0, 0, 0, 0, 0), .inl 0, [], none)),
  (21, (.iconst 4, (22, 0, 0, 0, 0, 0), .inl 0, [], none)),
  (22, (.if_icmp .lt 4, (25, 26, 0, 0, 0, 0), .inl 0, [], none)),
  (25, (.return_, (26, 0, 0, 0, 0, 0), .inl 0, [], none)),
  (26, (.aload_n 0, (27, 0, 0, 0, 0, 0), .inl 0, [], none)),
  (27, (.getfield 9, (30, 2, 8, 2, 0, 0), .inl 0, [], none)),
  (30, (.aload_n 0, (31, 0, 0, 0, 0, 0), .inl 0, [], none)),
  (31, (.getfield 47, (34, 2, 2, 0, 0, 0), .inl 0, [], none)),
  (34, (.iload_n 2, (35, 0, 0, 0, 0, 0), .inl 0, [], none)),
  (35, (.iastore, (36, 0, 0, 0, 0, 0), .inl 0, [], none)),
  (36, (.aload_n 0, (37, 0, 0, 0, 0, 0), .inl 0, [], none)),
  (37, (.getfield 18, (40, 2, 10, 2, 0, 0), .inl 0, [], none)),
  (40, (.iload_n 2, (41, 0, 0, 0, 0, 0), .inl 0, [], none)),
  (41, (.dup2, (42, 0, 0, 0, 0, 0), .inl 0, [], none)),
  (42, (.iaload, (43, 0, 0, 0, 0, 0), .inl 0, [], none)),
  (43, (.iconst 1, (44, 0, 0, 0, 0, 0), .inl 0, [], none)),
  (44, (.iadd, (45, 0, 0, 0, 0, 0), .inl 0, [], none)),
  (45, (.iastore, (46, 0, 0, 0, 0, 0), .inl 0, [], none)),
  (46, (.aload_n 0, (47, 0, 0, 0, 0, 0), .inl 0, [], none)),
  (47, (.dup, (48, 0, 0, 0, 0, 0), .inl 0, [], none)),
  (48, (.getfield 50, (51, 2, 1, 0, 0, 0), .inl 0, [], none)),
  (51, (.iload_n 1, (52, 0, 0, 0, 0, 0), .inl 0, [], none)),
  (52, (.ifCond .eq 12, (55, 64, 0, 0, 0, 0), .inl 0, [], none)),
  (55, (.iconst 1, (56, 0, 0, 0, 0, 0), .inl 0, [], none)),
  (56, (.aload_n 0, (57, 0, 0, 0, 0, 0), .inl 0, [], none)),
  (57, (.getfield 47, (60, 2, 2, 0, 0, 0), .inl 0, [], none)),
  (60, (.ishl, (61, 0, 0, 0, 0, 0), .inl 0, [], none)),
  (61, (.goto 4, (64, 65, 0, 0, 0, 0), .inl 0, [], none)),
  (64, (.iconst 0, (65, 0, 0, 0, 0, 0), .inl 0, [], none)),
  (65, (.ior, (66, 0, 0, 0, 0, 0), .inl 0, [], none)),
  (66, (.putfield 50, (69, 2, 1, 0, 0, 0), .inl 0, [], none)),
  (69, (.aload_n 0, (70, 0, 0, 0, 0, 0), .inl 0, [], none)),
  (70, (.dup, (71, 0, 0, 0, 0, 0), .inl 0, [], none)),
  (71, (.getfield 47, (74, 2, 2, 0, 0, 0), .inl 0, [], none)),
  (74, (.iconst 1, (75, 0, 0, 0, 0, 0), .inl 0, [], none)),
  (75, (.iadd, (76, 0, 0, 0, 0, 0), .inl 0, [], none)),
  (76, (.putfield 47, (79, 2, 2, 0, 0, 0), .inl 0, [], none)),
  (79, (.return_, (80, 0, 0, 0, 0, 0), .inl 0, [], none))]
def z_Al_settle : List (Nat × sk_E) := [
  (0, (.aload_n 0, (1, 0, 0, 0, 0, 0), .inl 0, [], none)),
  (1, (.getfield 53, (4, 2, 4, 0, 0, 0), .inl 0, [], none)),
  (4, (.ifCond .ne 8, (7, 12, 0, 0, 0, 0), .inl 0, [], none)),
  (7, (.aload_n 0, (8, 0, 0, 0, 0, 0), .inl 0, [], none)),
  (8, (.iconst 3, (9, 0, 0, 0, 0, 0), .inl 0, [], none)),
  (9, (.putfield 53, (12, 2, 4, 0, 0, 0), .inl 0, [], none)),
  (12, (.iconst 0, (13, 0, 0, 0, 0, 0), .inl 0, [], none)),
  (13, (.istore_n 1, (14, 0, 0, 0, 0, 0), .inl 0, [], none)),
  (14, (.iload_n 1, (15, 0, 0, 0, 0, 0), .inl 0, [], some [true, true, false, false])),
  (15, (.aload_n 0, (16, 0, 0, 0, 0, 0), .inl 0, [], none)),
  (16, (.getfield 47, (19, 2, 2, 0, 0, 0), .inl 0, [], none)),
  (19, (.if_icmp .ge 104, (22, 123, 0, 0, 0, 0), .inl 0, [], none)),
  (22, (.aload_n 0, (23, 0, 0, 0, 0, 0), .inl 0, [], none)),
  (23, (.getfield 9, (26, 2, 8, 2, 0, 0), .inl 0, [], none)),
  (26, (.iload_n 1, (27, 0, 0, 0, 0, 0), .inl 0, [], none)),
  (27, (.iaload, (28, 0, 0, 0, 0, 0), .inl 0, [], none)),
  (28, (.istore_n 2, (29, 0, 0, 0, 0, 0), .inl 0, [], none)),
  (29, (.aload_n 0, (30, 0, 0, 0, 0, 0), .inl 0, [], none)),
  (30, (.getfield 15, (33, 2, 9, 2, 0, 0), .inl 0, [], none)),
  (33, (.iload_n 2, (34, 0, 0, 0, 0, 0), .inl 0, [], none)),
  (34, (.iaload, (35, 0, 0, 0, 0, 0), .inl 0, [], none)),
  (35, (.aload_n 0, (36, 0, 0, 0, 0, 0), .inl 0, [], none)),
  (36, (.getfield 18, (39, 2, 10, 2, 0, 0), .inl 0, [], none)),
  (39, (.iload_n 2, (40, 0, 0, 0, 0, 0), .inl 0, [], none)),
  (40, (.iaload, (41, 0, 0, 0, 0, 0), .inl 0, [], none)),
  (41, (.iadd, (42, 0, 0, 0, 0, 0), .inl 0, [], none)),
  (42, (.iconst 1, (43, 0, 0, 0, 0, 0), .inl 0, [], none)),
  (43, (.isub, (44, 0, 0, 0, 0, 0), .inl 0, [], none)),
  (44, (.istore_n 3, (45, 0, 0, 0, 0, 0), .inl 0, [], none)),
  (45, (.aload_n 0, (46, 0, 0, 0, 0, 0), .inl 0, [], none)),
  (46, (.getfield 25, (49, 2, 12, 2, 0, 0), .inl 0, [], none)),
  (49, (.iload_n 1, (50, 0, 0, 0, 0, 0), .inl 0, [], none)),
  (50, (.iload_n 1, (51, 0, 0, 0, 0, 0), .inl 0, [], none)),
  (51, (.aload_n 0, (52, 0, 0, 0, 0, 0), .inl 0, [], none)),
  (52, (.getfield 15, (55, 2, 9, 2, 0, 0), .inl 0, [], none)),
  (55, (.iload_n 2, (56, 0, 0, 0, 0, 0), .inl 0, [], none)),
  (56, (.iaload, (57, 0, 0, 0, 0, 0), .inl 0, [], none)),
  (57, (.if_icmp .le 9, (60, 66, 0, 0, 0, 0), .inl 0, [], none)),
  (60, (.iload_n 1, (61, 0, 0, 0, 0, 0), .inl 0, [], none)),
  (61, (.iconst 1, (62, 0, 0, 0, 0, 0), .inl 0, [], none)),
  (62, (.isub, (63, 0, 0, 0, 0, 0), .inl 0, [], none)),
  (63, (.goto 17, (66, 80, 0, 0, 0, 0), .inl 0, [], none)),
  (66, (.aload_n 0, (67, 0, 0, 0, 0, 0), .inl 0, [], none)),
  (67, (.getfield 21, (70, 2, 11, 2, 0, 0), .inl 0, [], none)),
  (70, (.iload_n 2, (71, 0, 0, 0, 0, 0), .inl 0, [], none)),
  (71, (.baload, (72, 0, 0, 0, 0, 0), .inl 0, [], none)),
  (72, (.ifCond .eq 7, (75, 79, 0, 0, 0, 0), .inl 0, [], none)),
  (75, (.iload_n 3, (76, 0, 0, 0, 0, 0), .inl 0, [], none)),
  (76, (.goto 4, (79, 80, 0, 0, 0, 0), .inl 0, [], none)),
  (79, (.iconst (-1), (80, 0, 0, 0, 0, 0), .inl 0, [], none)),
  (80, (.iastore, (81, 0, 0, 0, 0, 0), .inl 0, [], some [true, true, true, true])),
  (81, (.aload_n 0, (82, 0, 0, 0, 0, 0), .inl 0, [], none)),
  (82, (.getfield 28, (85, 2, 13, 2, 0, 0), .inl 0, [], none)),
  (85, (.iload_n 1, (86, 0, 0, 0, 0, 0), .inl 0, [], none)),
  (86, (.iload_n 1, (87, 0, 0, 0, 0, 0), .inl 0, [], none)),
  (87, (.iload_n 3, (88, 0, 0, 0, 0, 0), .inl 0, [], none)),
  (88, (.if_icmp .ge 9, (91, 97, 0, 0, 0, 0), .inl 0, [], none)),
  (91, (.iload_n 1, (92, 0, 0, 0, 0, 0), .inl 0, [], none)),
  (92, (.iconst 1, (93, 0, 0, 0, 0, 0), .inl 0, [], none)),
  (93, (.iadd, (94, 0, 0, 0, 0, 0), .inl 0, [], none)),
  (94, (.goto 22, (97, 116, 0, 0, 0, 0), .inl 0, [], none)),
  (97, (.aload_n 0, (98, 0, 0, 0, 0, 0), .inl 0, [], none)),
  (98, (.getfield 21, (101, 2, 11, 2, 0, 0), .inl 0, [], none)),
  (101, (.iload_n 2, (102, 0, 0, 0, 0, 0), .inl 0, [], none)),
  (102, (.baload, (103, 0, 0, 0, 0, 0), .inl 0, [], none)),
  (103, (.ifCond .eq 12, (106, 115, 0, 0, 0, 0), .inl 0, [], none)),
  (106, (.aload_n 0, (107, 0, 0, 0, 0, 0), .inl 0, [], none)),
  (107, (.getfield 15, (110, 2, 9, 2, 0, 0), .inl 0, [], none)),
  (110, (.iload_n 2, (111, 0, 0, 0, 0, 0), .inl 0, [], none)),
  (111, (.iaload, (112, 0, 0, 0, 0, 0), .inl 0, [], none)),
  (112, (.goto 4, (115, 116, 0, 0, 0, 0), .inl 0, [], none)),
  (115, (.iconst (-1), (116, 0, 0, 0, 0, 0), .inl 0, [], none)),
  (116, (.iastore, (117, 0, 0, 0, 0, 0), .inl 0, [], none)),
  (117, (.iinc 1 1, (120, 0, 0, 0, 0, 0), .inl 0, [], none)),
  (120, (.goto (-106), (123, 14, 0, 0, 0, 0), .inl 0, [], none)),
  (123, (.aload_n 0, (124, 0, 0, 0, 0, 0), .inl 0, [], none)),
  (124, (.invokevirtual 56, (127, 8, 1, 0, 7, 2), .inl 0, [], none)),
  (127, (.iconst 0, (128, 0, 0, 0, 0, 0), .inl 0, [], none)),
  (128, (.istore_n 1, (129, 0, 0, 0, 0, 0), .inl 0, [], none)),
  (129, (.iload_n 1, (130, 0, 0, 0, 0, 0), .inl 0, [], some [true, true, false, false])),
  (130, (.bipush 40, (132, 0, 0, 0, 0, 0), .inl 0, [], none)),
  (132, (.if_icmp .gt 23, (135, 155, 0, 0, 0, 0), .inl 0, [], none)),
  (135, (.aload_n 0, (136, 0, 0, 0, 0, 0), .inl 0, [], none)),
  (136, (.getfield 40, (139, 2, 16, 2, 0, 0), .inl 0, [], none)),
  (139, (.iload_n 1, (140, 0, 0, 0, 0, 0), .inl 0, [], none)),
  (140, (.aload_n 0, (141, 0, 0, 0, 0, 0), .inl 0, [], none)),
  (141, (.iload_n 1, (142, 0, 0, 0, 0, 0), .inl 0, [], none)),
  (142, (.invokevirtual 59, (145, 14, 2, 2, 7, 2), .inl 0, [], none)),
  (145, (.invokestatic 63, (148, 15, 1, 1, 2, 0), .inl 0, [], none)),
  (148, (.iastore, (149, 0, 0, 0, 0, 0), .inl 0, [], none)),
  (149, (.iinc 1 1, (152, 0, 0, 0, 0, 0), .inl 0, [], none)),
  (152, (.goto (-23), (155, 129, 0, 0, 0, 0), .inl 0, [], none)),
  (155, (.return_, (156, 0, 0, 0, 0, 0), .inl 0, [], none))]
def z_Al_listStrokes : List (Nat × sk_E) := [
  (0, (.aload_n 0, (1, 0, 0, 0, 0, 0), .inl 0, [], none)),
  (1, (.getfield 47, (4, 2, 2, 0, 0, 0), .inl 0, [], none)),
  (4, (.iconst 4, (5, 0, 0, 0, 0, 0), .inl 0, [], none)),
  (5, (.imul, (6, 0, 0, 0, 0, 0), .inl 0, [], none)),
  (6, (.anewarray 31, (9, 108, 0, 0, 0, 0), .inl 0, [], none)),
  (9, (.astore_n 1, (10, 0, 0, 0, 0, 0), .inl 0, [], none)),
  (10, (.iconst 0, (11, 0, 0, 0, 0, 0), .inl 0, [], none)),
  (11, (.istore_n 2, (12, 0, 0, 0, 0, 0), .inl 0, [], none)),
  (12, (.iconst 0, (13, 0, 0, 0, 0, 0), .inl 0, [], none)),
  (13, (.istore_n 3, (14, 0, 0, 0, 0, 0), .inl 0, [], none)),
  (14, (.iload_n 3, (15, 0, 0, 0, 0, 0), .inl 0, [], some [true, true, true, true, false, false, false])),
  (15, (.aload_n 0, (16, 0, 0, 0, 0, 0), .inl 0, [], none)),
  (16, (.getfield 47, (19, 2, 2, 0, 0, 0), .inl 0, [], none)),
  (19, (.if_icmp .ge 107, (22, 126, 0, 0, 0, 0), .inl 0, [], none)),
  (22, (.iconst 0, (23, 0, 0, 0, 0, 0), .inl 0, [], none)),
  (23, (.istore 4, (25, 0, 0, 0, 0, 0), .inl 0, [], none)),
  (25, (.iload_n 3, (26, 0, 0, 0, 0, 0), .inl 0, [], none)),
  (26, (.istore 5, (28, 0, 0, 0, 0, 0), .inl 0, [], none)),
  (28, (.iconst 1, (29, 0, 0, 0, 0, 0), .inl 0, [], none)),
  (29, (.istore 6, (31, 0, 0, 0, 0, 0), .inl 0, [], none)),
  (31, (.iload 6, (33, 0, 0, 0, 0, 0), .inl 0, [], some [true, true, true, true, true, true, true])),
  (33, (.iconst 4, (34, 0, 0, 0, 0, 0), .inl 0, [], none)),
  (34, (.if_icmp .gt 86, (37, 120, 0, 0, 0, 0), .inl 0, [], none)),
  (37, (.iload 5, (39, 0, 0, 0, 0, 0), .inl 0, [], none)),
  (39, (.iconst (-1), (40, 0, 0, 0, 0, 0), .inl 0, [], none)),
  (40, (.if_icmp .eq 80, (43, 120, 0, 0, 0, 0), .inl 0, [], none)),
  (43, (.iload 4, (45, 0, 0, 0, 0, 0), .inl 0, [], none)),
  (45, (.iload 5, (47, 0, 0, 0, 0, 0), .inl 0, [], none)),
  (47, (.ishr, (48, 0, 0, 0, 0, 0), .inl 0, [], none)),
  (48, (.iconst 1, (49, 0, 0, 0, 0, 0), .inl 0, [], none)),
  (49, (.iand, (50, 0, 0, 0, 0, 0), .inl 0, [], none)),
  (50, (.ifCond .ne 70, (53, 120, 0, 0, 0, 0), .inl 0, [], none)),
  (53, (.iload 4, (55, 0, 0, 0, 0, 0), .inl 0, [], none)),
  (55, (.iconst 1, (56, 0, 0, 0, 0, 0), .inl 0, [], none)),
  (56, (.iload 5, (58, 0, 0, 0, 0, 0), .inl 0, [], none)),
  (58, (.ishl, (59, 0, 0, 0, 0, 0), .inl 0, [], none)),
  (59, (.ior, (60, 0, 0, 0, 0, 0), .inl 0, [], none)),
  (60, (.istore 4, (62, 0, 0, 0, 0, 0), .inl 0, [], none)),
  (62, (.aload_n 1, (63, 0, 0, 0, 0, 0), .inl 0, [], none)),
  (63, (.iload_n 2, (64, 0, 0, 0, 0, 0), .inl 0, [], none)),
  (64, (.new 31, (67, 10, 7, 0, 0, 0), .inl 0, [], none)),
  (67, (.dup, (68, 0, 0, 0, 0, 0), .inl 0, [], none)),
  (68, (.iload_n 3, (69, 0, 0, 0, 0, 0), .inl 0, [], none)),
  (69, (.iload 6, (71, 0, 0, 0, 0, 0), .inl 0, [], none)),
  (71, (.aload_n 0, (72, 0, 0, 0, 0, 0), .inl 0, [], none)),
  (72, (.getfield 9, (75, 2, 8, 2, 0, 0), .inl 0, [], none)),
  (75, (.iload_n 3, (76, 0, 0, 0, 0, 0), .inl 0, [], none)),
  (76, (.iaload, (77, 0, 0, 0, 0, 0), .inl 0, [], none)),
  (77, (.iload 4, (79, 0, 0, 0, 0, 0), .inl 0, [], none)),
  (79, (.aload_n 0, (80, 0, 0, 0, 0, 0), .inl 0, [], none)),
  (80, (.getfield 25, (83, 2, 12, 2, 0, 0), .inl 0, [], none)),
  (83, (.iload_n 3, (84, 0, 0, 0, 0, 0), .inl 0, [], none)),
  (84, (.iaload, (85, 0, 0, 0, 0, 0), .inl 0, [], none)),
  (85, (.invokestatic 67, (88, 11, 1, 1, 1, 0), .inl 0, [], none)),
  (88, (.aload_n 0, (89, 0, 0, 0, 0, 0), .inl 0, [], none)),
  (89, (.getfield 28, (92, 2, 13, 2, 0, 0), .inl 0, [], none)),
  (92, (.iload 5, (94, 0, 0, 0, 0, 0), .inl 0, [], none)),
  (94, (.iaload, (95, 0, 0, 0, 0, 0), .inl 0, [], none)),
  (95, (.invokestatic 67, (98, 11, 1, 1, 1, 0), .inl 0, [], none)),
  (98, (.invokespecial 71, (101, 77, 7, 0, 7, 0), .inl 0, [], none)),
  (101, (.aastore, (102, 0, 0, 0, 0, 0), .inl 0, [], none)),
  (102, (.iinc 2 1, (105, 0, 0, 0, 0, 0), .inl 0, [], none)),
  (105, (.aload_n 0, (106, 0, 0, 0, 0, 0), .inl 0, [], none)),
  (106, (.getfield 28, (109, 2, 13, 2, 0, 0), .inl 0, [], none)),
  (109, (.iload 5, (111, 0, 0, 0, 0, 0), .inl 0, [], none)),
  (111, (.iaload, (112, 0, 0, 0, 0, 0), .inl 0, [], none)),
  (112, (.istore 5, (114, 0, 0, 0, 0, 0), .inl 0, [], none)),
  (114, (.iinc 6 1, (117, 0, 0, 0, 0, 0), .inl 0, [], none)),
  (117, (.goto (-86), (120, 31, 0, 0, 0, 0), .inl 0, [], none)),
  (120, (.iinc 3 1, (123, 0, 0, 0, 0, 0), .inl 0, [], none)),
  (123, (.goto (-109), (126, 14, 0, 0, 0, 0), .inl 0, [], none)),
  (126, (.aload_n 0, (127, 0, 0, 0, 0, 0), .inl 0, [], none)),
  (127, (.aload_n 1, (128, 0, 0, 0, 0, 0), .inl 0, [], none)),
  (128, (.iload_n 2, (129, 0, 0, 0, 0, 0), .inl 0, [], none)),
  (129, (.bipush 15, (131, 0, 0, 0, 0, 0), .inl 0, [], none)),
  (131, (.invokestatic 74, (134, 9, 3, 3, 7, 0), .inl 0, [], none)),
  (134, (.putfield 37, (137, 2, 15, 2, 0, 0), .inl 0, [], none)),
  (137, (.aload_n 0, (138, 0, 0, 0, 0, 0), .inl 0, [], none)),
  (138, (.aload_n 1, (139, 0, 0, 0, 0, 0), .inl 0, [], none)),
  (139, (.iload_n 2, (140, 0, 0, 0, 0, 0), .inl 0, [], none)),
  (140, (.aload_n 0, (141, 0, 0, 0, 0, 0), .inl 0, [], none)),
  (141, (.getfield 53, (144, 2, 4, 0, 0, 0), .inl 0, [], none)),
  (144, (.invokestatic 74, (147, 9, 3, 3, 7, 0), .inl 0, [], none)),
  (147, (.putfield 33, (150, 2, 14, 2, 0, 0), .inl 0, [], none)),
  (150, (.return_, (151, 0, 0, 0, 0, 0), .inl 0, [], none))]
def z_Al_chosen : List (Nat × sk_E) := [
  (0, (.iconst 0, (1, 0, 0, 0, 0, 0), .inl 0, [], none)),
  (1, (.istore_n 3, (2, 0, 0, 0, 0, 0), .inl 0, [], none)),
  (2, (.iconst 0, (3, 0, 0, 0, 0, 0), .inl 0, [], none)),
  (3, (.istore 4, (5, 0, 0, 0, 0, 0), .inl 0, [], none)),
  (5, (.iload 4, (7, 0, 0, 0, 0, 0), .inl 0, [], some [true, true, true, true, true, false, false])),
  (7, (.iload_n 1, (8, 0, 0, 0, 0, 0), .inl 0, [], none)),
  (8, (.if_icmp .ge 31, (11, 39, 0, 0, 0, 0), .inl 0, [], none)),
  (11, (.iload_n 3, (12, 0, 0, 0, 0, 0), .inl 0, [], none)),
  (12, (.iload_n 2, (13, 0, 0, 0, 0, 0), .inl 0, [], none)),
  (13, (.aload_n 0, (14, 0, 0, 0, 0, 0), .inl 0, [], none)),
  (14, (.iload 4, (16, 0, 0, 0, 0, 0), .inl 0, [], none)),
  (16, (.aaload, (17, 0, 0, 0, 0, 0), .inl 0, [], none)),
  (17, (.getfield 78, (20, 10, 1, 0, 0, 0), .inl 0, [], none)),
  (20, (.invokestatic 81, (23, 10, 2, 1, 2, 0), .inl 0, [], none)),
  (23, (.ifCond .eq 7, (26, 30, 0, 0, 0, 0), .inl 0, [], none)),
  (26, (.iconst 1, (27, 0, 0, 0, 0, 0), .inl 0, [], none)),
  (27, (.goto 4, (30, 31, 0, 0, 0, 0), .inl 0, [], none)),
  (30, (.iconst 0, (31, 0, 0, 0, 0, 0), .inl 0, [], none)),
  (31, (.iadd, (32, 0, 0, 0, 0, 0), .inl 0, [], none)),
  (32, (.istore_n 3, (33, 0, 0, 0, 0, 0), .inl 0, [], none)),
  (33, (.iinc 4 1, (36, 0, 0, 0, 0, 0), .inl 0, [], none)),
  (36, (.goto (-31), (39, 5, 0, 0, 0, 0), .inl 0, [], none)),
  (39, (.iload_n 3, (40, 0, 0, 0, 0, 0), .inl 0, [], none)),
  (40, (.anewarray 31, (43, 108, 0, 0, 0, 0), .inl 0, [], none)),
  (43, (.astore 4, (45, 0, 0, 0, 0, 0), .inl 0, [], none)),
  (45, (.iconst 0, (46, 0, 0, 0, 0, 0), .inl 0, [], none)),
  (46, (.istore 5, (48, 0, 0, 0, 0, 0), .inl 0, [], none)),
  (48, (.iconst 0, (49, 0, 0, 0, 0, 0), .inl 0, [], none)),
  (49, (.istore 6, (51, 0, 0, 0, 0, 0), .inl 0, [], none)),
  (51, (.iload 6, (53, 0, 0, 0, 0, 0), .inl 0, [], some [true, true, true, false, true, true, true])),
  (53, (.iload_n 1, (54, 0, 0, 0, 0, 0), .inl 0, [], none)),
  (54, (.if_icmp .ge 35, (57, 89, 0, 0, 0, 0), .inl 0, [], none)),
  (57, (.iload_n 2, (58, 0, 0, 0, 0, 0), .inl 0, [], none)),
  (58, (.aload_n 0, (59, 0, 0, 0, 0, 0), .inl 0, [], none)),
  (59, (.iload 6, (61, 0, 0, 0, 0, 0), .inl 0, [], none)),
  (61, (.aaload, (62, 0, 0, 0, 0, 0), .inl 0, [], none)),
  (62, (.getfield 78, (65, 10, 1, 0, 0, 0), .inl 0, [], none)),
  (65, (.invokestatic 81, (68, 10, 2, 1, 2, 0), .inl 0, [], none)),
  (68, (.ifCond .eq 15, (71, 83, 0, 0, 0, 0), .inl 0, [], none)),
  (71, (.aload 4, (73, 0, 0, 0, 0, 0), .inl 0, [], none)),
  (73, (.iload 5, (75, 0, 0, 0, 0, 0), .inl 0, [], none)),
  (75, (.aload_n 0, (76, 0, 0, 0, 0, 0), .inl 0, [], none)),
  (76, (.iload 6, (78, 0, 0, 0, 0, 0), .inl 0, [], none)),
  (78, (.aaload, (79, 0, 0, 0, 0, 0), .inl 0, [], none)),
  (79, (.aastore, (80, 0, 0, 0, 0, 0), .inl 0, [], none)),
  (80, (.iinc 5 1, (83, 0, 0, 0, 0, 0), .inl 0, [], none)),
  (83, (.iinc 6 1, (86, 0, 0, 0, 0, 0), .inl 0, [], none)),
  (86, (.goto (-35), (89, 51, 0, 0, 0, 0), .inl 0, [], none)),
  (89, (.aload 4, (91, 0, 0, 0, 0, 0), .inl 0, [], none)),
  (91, (.areturn, (92, 0, 0, 0, 0, 0), .inl 0, [], none))]
def z_Al_hasHit : List (Nat × sk_E) := [
  (0, (.iload_n 0, (1, 0, 0, 0, 0, 0), .inl 0, [], none)),
  (1, (.iload_n 1, (2, 0, 0, 0, 0, 0), .inl 0, [], none)),
  (2, (.iconst 1, (3, 0, 0, 0, 0, 0), .inl 0, [], none)),
  (3, (.isub, (4, 0, 0, 0, 0, 0), .inl 0, [], none)),
  (4, (.ishr, (5, 0, 0, 0, 0, 0), .inl 0, [], none)),
  (5, (.iconst 1, (6, 0, 0, 0, 0, 0), .inl 0, [], none)),
  (6, (.iand, (7, 0, 0, 0, 0, 0), .inl 0, [], none)),
  (7, (.iconst 1, (8, 0, 0, 0, 0, 0), .inl 0, [], none)),
  (8, (.if_icmp .ne 7, (11, 15, 0, 0, 0, 0), .inl 0, [], none)),
  (11, (.iconst 1, (12, 0, 0, 0, 0, 0), .inl 0, [], none)),
  (12, (.goto 4, (15, 16, 0, 0, 0, 0), .inl 0, [], none)),
  (15, (.iconst 0, (16, 0, 0, 0, 0, 0), .inl 0, [], none)),
  (16, (.ireturn, (17, 3, 0, 0, 0, 0), .inl 0, [], none))]
def z_Al_bitOf : List (Nat × sk_E) := [
  (0, (.iload_n 0, (1, 0, 0, 0, 0, 0), .inl 0, [], none)),
  (1, (.iconst (-1), (2, 0, 0, 0, 0, 0), .inl 0, [], none)),
  (2, (.if_icmp .ne 7, (5, 9, 0, 0, 0, 0), .inl 0, [], none)),
  (5, (.iconst 0, (6, 0, 0, 0, 0, 0), .inl 0, [], none)),
  (6, (.goto 6, (9, 12, 0, 0, 0, 0), .inl 0, [], none)),
  (9, (.iconst 1, (10, 0, 0, 0, 0, 0), .inl 0, [], none)),
  (10, (.iload_n 0, (11, 0, 0, 0, 0, 0), .inl 0, [], none)),
  (11, (.ishl, (12, 0, 0, 0, 0, 0), .inl 0, [], none)),
  (12, (.ireturn, (13, 0, 0, 0, 0, 0), .inl 0, [], none))]
def z_Al_allows : List (Nat × sk_E) := [
  (0, (.iload_n 1, (1, 0, 0, 0, 0, 0), .inl 0, [], none)),
  (1, (.aload_n 2, (2, 0, 0, 0, 0, 0), .inl 0, [], none)),
  (2, (.getfield 85, (5, 10, 3, 0, 0, 0), .inl 0, [], none)),
  (5, (.iand, (6, 0, 0, 0, 0, 0), .inl 0, [], none)),
  (6, (.aload_n 2, (7, 0, 0, 0, 0, 0), .inl 0, [], none)),
  (7, (.getfield 85, (10, 10, 3, 0, 0, 0), .inl 0, [], none)),
  (10, (.if_icmp .ne 22, (13, 32, 0, 0, 0, 0), .inl 0, [], none)),
  (13, (.aload_n 0, (14, 0, 0, 0, 0, 0), .inl 0, [], none)),
  (14, (.getfield 88, (17, 2, 5, 3, 0, 0), .inl 0, [], none)),
  (17, (.ifCond .eq 11, (20, 28, 0, 0, 0, 0), .inl 0, [], none)),
  (20, (.aload_n 2, (21, 0, 0, 0, 0, 0), .inl 0, [], none)),
  (21, (.iload_n 1, (22, 0, 0, 0, 0, 0), .inl 0, [], none)),
  (22, (.invokevirtual 92, (25, 78, 2, 1, 2, 10), .inl 0, [], none)),
  (25, (.ifCond .eq 7, (28, 32, 0, 0, 0, 0), .inl 0, [], none)),
  (28, (.iconst 1, (29, 0, 0, 0, 0, 0), .inl 0, [], none)),
  (29, (.goto 4, (32, 33, 0, 0, 0, 0), .inl 0, [], none)),
  (32, (.iconst 0, (33, 0, 0, 0, 0, 0), .inl 0, [], none)),
  (33, (.ireturn, (34, 3, 0, 0, 0, 0), .inl 0, [], none))]
def z_Al_strokeOf : List (Nat × sk_E) := [
  (0, (.aload_n 0, (1, 0, 0, 0, 0, 0), .inl 0, [], none)),
  (1, (.getfield 33, (4, 2, 14, 2, 0, 0), .inl 0, [], none)),
  (4, (.astore 4, (6, 0, 0, 0, 0, 0), .inl 0, [], none)),
  (6, (.aload 4, (8, 0, 0, 0, 0, 0), .inl 0, [], none)),
  (8, (.arraylength, (9, 0, 0, 0, 0, 0), .inl 0, [], none)),
  (9, (.istore 5, (11, 0, 0, 0, 0, 0), .inl 0, [], none)),
  (11, (.iconst 0, (12, 0, 0, 0, 0, 0), .inl 0, [], none)),
  (12, (.istore 6, (14, 0, 0, 0, 0, 0), .inl 0, [], none)),
  (14, (.iload 6, (16, 0, 0, 0, 0, 0), .inl 0, [], some [true, true, true, true, true, true, true, false])),
  (16, (.iload 5, (18, 0, 0, 0, 0, 0), .inl 0, [], none)),
  (18, (.if_icmp .ge 51, (21, 69, 0, 0, 0, 0), .inl 0, [], none)),
  (21, (.aload 4, (23, 0, 0, 0, 0, 0), .inl 0, [], none)),
  (23, (.iload 6, (25, 0, 0, 0, 0, 0), .inl 0, [], none)),
  (25, (.aaload, (26, 0, 0, 0, 0, 0), .inl 0, [], none)),
  (26, (.astore 7, (28, 0, 0, 0, 0, 0), .inl 0, [], none)),
  (28, (.aload 7, (30, 0, 0, 0, 0, 0), .inl 0, [], none)),
  (30, (.getfield 96, (33, 10, 0, 0, 0, 0), .inl 0, [], none)),
  (33, (.iload_n 2, (34, 0, 0, 0, 0, 0), .inl 0, [], none)),
  (34, (.if_icmp .ne 29, (37, 63, 0, 0, 0, 0), .inl 0, [], none)),
  (37, (.aload 7, (39, 0, 0, 0, 0, 0), .inl 0, [], none)),
  (39, (.getfield 78, (42, 10, 1, 0, 0, 0), .inl 0, [], none)),
  (42, (.iload_n 3, (43, 0, 0, 0, 0, 0), .inl 0, [], none)),
  (43, (.if_icmp .ne 20, (46, 63, 0, 0, 0, 0), .inl 0, [], none)),
  (46, (.aload_n 0, (47, 0, 0, 0, 0, 0), .inl 0, [], none)),
  (47, (.iload_n 1, (48, 0, 0, 0, 0, 0), .inl 0, [], none)),
  (48, (.aload 7, (50, 0, 0, 0, 0, 0), .inl 0, [], none)),
  (50, (.invokevirtual 99, (53, 12, 3, 1, 3, 2), .inl 0, [], none)),
  (53, (.ifCond .eq 8, (56, 61, 0, 0, 0, 0), .inl 0, [], none)),
  (56, (.aload 7, (58, 0, 0, 0, 0, 0), .inl 0, [], none)),
  (58, (.goto 4, (61, 62, 0, 0, 0, 0), .inl 0, [], none)),
  (61, (.aconst_null, (62, 0, 0, 0, 0, 0), .inl 0, [], none)),
  (62, (.areturn, (63, 0, 0, 0, 0, 0), .inl 0, [], none)),
  (63, (.iinc 6 1, (66, 0, 0, 0, 0, 0), .inl 0, [], none)),
  (66, (.goto (-52), (69, 14, 0, 0, 0, 0), .inl 0, [], none)),
  (69, (.aconst_null, (70, 0, 0, 0, 0, 0), .inl 0, [], none)),
  (70, (.areturn, (71, 0, 0, 0, 0, 0), .inl 0, [], none))]
def z_Al_plainLeavings : List (Nat × sk_E) := [
  (0, (.lconst 0, (1, 0, 0, 0, 0, 0), .inl 0, [], none)),
  (1, (.lstore_n 2, (2, 0, 0, 0, 0, 0), .inl 0, [], none)),
  (2, (.iconst 1, (3, 0, 0, 0, 0, 0), .inl 0, [], none)),
  (3, (.istore 4, (5, 0, 0, 0, 0, 0), .inl 0, [], none)),
  (5, (.iload 4, (7, 0, 0, 0, 0, 0), .inl 0, [], some [true, true, true, false, true, false, false])),
  (7, (.iconst 4, (8, 0, 0, 0, 0, 0), .inl 0, [], none)),
  (8, (.if_icmp .gt 91, (11, 99, 0, 0, 0, 0), .inl 0, [], none)),
  (11, (.iload 4, (13, 0, 0, 0, 0, 0), .inl 0, [], none)),
  (13, (.iload_n 1, (14, 0, 0, 0, 0, 0), .inl 0, [], none)),
  (14, (.if_icmp .gt 85, (17, 99, 0, 0, 0, 0), .inl 0, [], none)),
  (17, (.iload_n 1, (18, 0, 0, 0, 0, 0), .inl 0, [], none)),
  (18, (.iload 4, (20, 0, 0, 0, 0, 0), .inl 0, [], none)),
  (20, (.isub, (21, 0, 0, 0, 0, 0), .inl 0, [], none)),
  (21, (.istore 5, (23, 0, 0, 0, 0, 0), .inl 0, [], none)),
  (23, (.iconst 0, (24, 0, 0, 0, 0, 0), .inl 0, [], none)),
  (24, (.istore 6, (26, 0, 0, 0, 0, 0), .inl 0, [], none)),
  (26, (.iload 6, (28, 0, 0, 0, 0, 0), .inl 0, [], some [true, true, true, false, true, true, true])),
  (28, (.iload 5, (30, 0, 0, 0, 0, 0), .inl 0, [], none)),
  (30, (.if_icmp .gt 63, (33, 93, 0, 0, 0, 0), .inl 0, [], none)),
  (33, (.aload_n 0, (34, 0, 0, 0, 0, 0), .inl 0, [], none)),
  (34, (.getfield 53, (37, 2, 4, 0, 0, 0), .inl 0, [], none)),
  (37, (.iload 4, (39, 0, 0, 0, 0, 0), .inl 0, [], none)),
  (39, (.invokestatic 81, (42, 10, 2, 1, 2, 0), .inl 0, [], none)),
  (42, (.ifCond .eq 51, (45, 93, 0, 0, 0, 0), .inl 0, [], none)),
  (45, (.aload_n 0, (46, 0, 0, 0, 0, 0), .inl 0, [], none)),
  (46, (.getfield 88, (49, 2, 5, 3, 0, 0), .inl 0, [], none)),
  (49, (.ifCond .eq 15, (52, 64, 0, 0, 0, 0), .inl 0, [], none)),
  (52, (.iload 6, (54, 0, 0, 0, 0, 0), .inl 0, [], none)),
  (54, (.ifCond .eq 10, (57, 64, 0, 0, 0, 0), .inl 0, [], none)),
  (57, (.iload 6, (59, 0, 0, 0, 0, 0), .inl 0, [], none)),
  (59, (.iload 5, (61, 0, 0, 0, 0, 0), .inl 0, [], none)),
  (61, (.if_icmp .ne 26, (64, 87, 0, 0, 0, 0), .inl 0, [], none)),
  (64, (.lload_n 2, (65, 0, 0, 0, 0, 0), .inl 0, [], some [true, true, true, false, true, true, true])),
  (65, (.lconst 1, (66, 0, 0, 0, 0, 0), .inl 0, [], none)),
  (66, (.aload_n 0, (67, 0, 0, 0, 0, 0), .inl 0, [], none)),
  (67, (.getfield 40, (70, 2, 16, 2, 0, 0), .inl 0, [], none)),
  (70, (.iload 6, (72, 0, 0, 0, 0, 0), .inl 0, [], none)),
  (72, (.iaload, (73, 0, 0, 0, 0, 0), .inl 0, [], none)),
  (73, (.aload_n 0, (74, 0, 0, 0, 0, 0), .inl 0, [], none)),
  (74, (.getfield 40, (77, 2, 16, 2, 0, 0), .inl 0, [], none)),
  (77, (.iload 5, (79, 0, 0, 0, 0, 0), .inl 0, [], none)),
  (79, (.iload 6, (81, 0, 0, 0, 0, 0), .inl 0, [], none)),
  (81, (.isub, (82, 0, 0, 0, 0, 0), .inl 0, [], none)),
  (82, (.iaload, (83, 0, 0, 0, 0, 0), .inl 0, [], none)),
  (83, (.ixor, (84, 0, 0, 0, 0, 0), .inl 0, [], none)),
  (84, (.lshl, (85, 0, 0, 0, 0, 0), .inl 0, [], none)),
  (85, (.lor, (86, 0, 0, 0, 0, 0), .inl 0, [], none)),
  (86, (.lstore_n 2, (87, 0, 0, 0, 0, 0), .inl 0, [], none)),
  (87, (.iinc 6 1, (90, 0, 0, 0, 0, 0), .inl 0, [], none)),
  (90, (.goto (-64), (93, 26, 0, 0, 0, 0), .inl 0, [], none)),
  (93, (.iinc 4 1, (96, 0, 0, 0, 0, 0), .inl 0, [], none)),
  (96, (.goto (-91), (99, 5, 0, 0, 0, 0), .inl 0, [], none)),
  (99, (.lload_n 2, (100, 0, 0, 0, 0, 0), .inl 0, [], none)),
  (100, (.lreturn, (101, 0, 0, 0, 0, 0), .inl 0, [], none))]
def z_Al_leastLeftOut : List (Nat × sk_E) := [
  (0, (.lload_n 0, (1, 0, 0, 0, 0, 0), .inl 0, [], none)),
  (1, (.ldc2_w 103, (4, 0, 0, 0, 0, 0), .inr (.inl (-1)), [], none)),
  (4, (.lxor, (5, 0, 0, 0, 0, 0), .inl 0, [], none)),
  (5, (.invokestatic 105, (8, 239, 1, 1, 3, 0), .inl 0, [], none)),
  (8, (.ireturn, (9, 0, 0, 0, 0, 0), .inl 0, [], none))]
def z_Al_isWholeRing : List (Nat × sk_E) := [
  (0, (.iconst 1, (1, 0, 0, 0, 0, 0), .inl 0, [], none)),
  (1, (.aload_n 0, (2, 0, 0, 0, 0, 0), .inl 0, [], none)),
  (2, (.getfield 18, (5, 2, 10, 2, 0, 0), .inl 0, [], none)),
  (5, (.iload_n 2, (6, 0, 0, 0, 0, 0), .inl 0, [], none)),
  (6, (.iaload, (7, 0, 0, 0, 0, 0), .inl 0, [], none)),
  (7, (.ishl, (8, 0, 0, 0, 0, 0), .inl 0, [], none)),
  (8, (.iconst 1, (9, 0, 0, 0, 0, 0), .inl 0, [], none)),
  (9, (.isub, (10, 0, 0, 0, 0, 0), .inl 0, [], none)),
  (10, (.aload_n 0, (11, 0, 0, 0, 0, 0), .inl 0, [], none)),
  (11, (.getfield 15, (14, 2, 9, 2, 0, 0), .inl 0, [], none)),
  (14, (.iload_n 2, (15, 0, 0, 0, 0, 0), .inl 0, [], none)),
  (15, (.iaload, (16, 0, 0, 0, 0, 0), .inl 0, [], none)),
  (16, (.ishl, (17, 0, 0, 0, 0, 0), .inl 0, [], none)),
  (17, (.istore_n 3, (18, 0, 0, 0, 0, 0), .inl 0, [], none)),
  (18, (.aload_n 0, (19, 0, 0, 0, 0, 0), .inl 0, [], none)),
  (19, (.getfield 21, (22, 2, 11, 2, 0, 0), .inl 0, [], none)),
  (22, (.iload_n 2, (23, 0, 0, 0, 0, 0), .inl 0, [], none)),
  (23, (.baload, (24, 0, 0, 0, 0, 0), .inl 0, [], none)),
  (24, (.ifCond .eq 14, (27, 38, 0, 0, 0, 0), .inl 0, [], none)),
  (27, (.iload_n 1, (28, 0, 0, 0, 0, 0), .inl 0, [], none)),
  (28, (.iload_n 3, (29, 0, 0, 0, 0, 0), .inl 0, [], none)),
  (29, (.iand, (30, 0, 0, 0, 0, 0), .inl 0, [], none)),
  (30, (.iload_n 3, (31, 0, 0, 0, 0, 0), .inl 0, [], none)),
  (31, (.if_icmp .ne 7, (34, 38, 0, 0, 0, 0), .inl 0, [], none)),
  (34, (.iconst 1, (35, 0, 0, 0, 0, 0), .inl 0, [], none)),
  (35, (.goto 4, (38, 39, 0, 0, 0, 0), .inl 0, [], none)),
  (38, (.iconst 0, (39, 0, 0, 0, 0, 0), .inl 0, [], none)),
  (39, (.ireturn, (40, 3, 0, 0, 0, 0), .inl 0, [], none))]
def z_Al_runFrom : List (Nat × sk_E) := [
  (0, (.aload_n 0, (1, 0, 0, 0, 0, 0), .inl 0, [], none)),
  (1, (.getfield 9, (4, 2, 8, 2, 0, 0), .inl 0, [], none)),
  (4, (.iload_n 2, (5, 0, 0, 0, 0, 0), .inl 0, [], none)),
  (5, (.iaload, (6, 0, 0, 0, 0, 0), .inl 0, [], none)),
  (6, (.istore_n 3, (7, 0, 0, 0, 0, 0), .inl 0, [], none)),
  (7, (.aload_n 0, (8, 0, 0, 0, 0, 0), .inl 0, [], none)),
  (8, (.iload_n 1, (9, 0, 0, 0, 0, 0), .inl 0, [], none)),
  (9, (.iload_n 3, (10, 0, 0, 0, 0, 0), .inl 0, [], none)),
  (10, (.invokevirtual 110, (13, 16, 3, 1, 4, 2), .inl 0, [], none)),
  (13, (.ifCond .eq 24, (16, 37, 0, 0, 0, 0), .inl 0, [], none)),
  (16, (.iload_n 2, (17, 0, 0, 0, 0, 0), .inl 0, [], none)),
  (17, (.aload_n 0, (18, 0, 0, 0, 0, 0), .inl 0, [], none)),
  (18, (.getfield 15, (21, 2, 9, 2, 0, 0), .inl 0, [], none)),
  (21, (.iload_n 3, (22, 0, 0, 0, 0, 0), .inl 0, [], none)),
  (22, (.iaload, (23, 0, 0, 0, 0, 0), .inl 0, [], none)),
  (23, (.if_icmp .ne 12, (26, 35, 0, 0, 0, 0), .inl 0, [], none)),
  (26, (.aload_n 0, (27, 0, 0, 0, 0, 0), .inl 0, [], none)),
  (27, (.getfield 18, (30, 2, 10, 2, 0, 0), .inl 0, [], none)),
  (30, (.iload_n 3, (31, 0, 0, 0, 0, 0), .inl 0, [], none)),
  (31, (.iaload, (32, 0, 0, 0, 0, 0), .inl 0, [], none)),
  (32, (.goto 4, (35, 36, 0, 0, 0, 0), .inl 0, [], none)),
  (35, (.iconst 0, (36, 0, 0, 0, 0, 0), .inl 0, [], none)),
  (36, (.ireturn, (37, 0, 0, 0, 0, 0), .inl 0, [], none)),
  (37, (.aload_n 0, (38, 0, 0, 0, 0, 0), .inl 0, [], none)),
  (38, (.getfield 25, (41, 2, 12, 2, 0, 0), .inl 0, [], none)),
  (41, (.iload_n 2, (42, 0, 0, 0, 0, 0), .inl 0, [], none)),
  (42, (.iaload, (43, 0, 0, 0, 0, 0), .inl 0, [], none)),
  (43, (.iconst (-1), (44, 0, 0, 0, 0, 0), .inl 0, [], none)),
  (44, (.if_icmp .eq 19, (47, 63, 0, 0, 0, 0), .inl 0, [], none)),
  (47, (.iload_n 1, (48, 0, 0, 0, 0, 0), .inl 0, [], none)),
  (48, (.aload_n 0, (49, 0, 0, 0, 0, 0), .inl 0, [], none)),
  (49, (.getfield 25, (52, 2, 12, 2, 0, 0), .inl 0, [], none)),
  (52, (.iload_n 2, (53, 0, 0, 0, 0, 0), .inl 0, [], none)),
  (53, (.iaload, (54, 0, 0, 0, 0, 0), .inl 0, [], none)),
  (54, (.ishr, (55, 0, 0, 0, 0, 0), .inl 0, [], none)),
  (55, (.iconst 1, (56, 0, 0, 0, 0, 0), .inl 0, [], none)),
  (56, (.iand, (57, 0, 0, 0, 0, 0), .inl 0, [], none)),
  (57, (.iconst 1, (58, 0, 0, 0, 0, 0), .inl 0, [], none)),
  (58, (.if_icmp .ne 5, (61, 63, 0, 0, 0, 0), .inl 0, [], none)),
  (61, (.iconst 0, (62, 0, 0, 0, 0, 0), .inl 0, [], none)),
  (62, (.ireturn, (63, 0, 0, 0, 0, 0), .inl 0, [], none)),
  (63, (.iconst 0, (64, 0, 0, 0, 0, 0), .inl 0, [], none)),
  (64, (.istore 4, (66, 0, 0, 0, 0, 0), .inl 0, [], none)),
  (66, (.iload_n 2, (67, 0, 0, 0, 0, 0), .inl 0, [], none)),
  (67, (.istore 5, (69, 0, 0, 0, 0, 0), .inl 0, [], none)),
  (69, (.iload 4, (71, 0, 0, 0, 0, 0), .inl 0, [], some [true, true, false, false, true, true])),
  (71, (.aload_n 0, (72, 0, 0, 0, 0, 0), .inl 0, [], none)),
  (72, (.getfield 47, (75, 2, 2, 0, 0, 0), .inl 0, [], none)),
  (75, (.if_icmp .ge 34, (78, 109, 0, 0, 0, 0), .inl 0, [], none)),
  (78, (.iload 5, (80, 0, 0, 0, 0, 0), .inl 0, [], none)),
  (80, (.iconst (-1), (81, 0, 0, 0, 0, 0), .inl 0, [], none)),
  (81, (.if_icmp .eq 28, (84, 109, 0, 0, 0, 0), .inl 0, [], none)),
  (84, (.iload_n 1, (85, 0, 0, 0, 0, 0), .inl 0, [], none)),
  (85, (.iload 5, (87, 0, 0, 0, 0, 0), .inl 0, [], none)),
  (87, (.ishr, (88, 0, 0, 0, 0, 0), .inl 0, [], none)),
  (88, (.iconst 1, (89, 0, 0, 0, 0, 0), .inl 0, [], none)),
  (89, (.iand, (90, 0, 0, 0, 0, 0), .inl 0, [], none)),
  (90, (.iconst 1, (91, 0, 0, 0, 0, 0), .inl 0, [], none)),
  (91, (.if_icmp .ne 18, (94, 109, 0, 0, 0, 0), .inl 0, [], none)),
  (94, (.iinc 4 1, (97, 0, 0, 0, 0, 0), .inl 0, [], none)),
  (97, (.aload_n 0, (98, 0, 0, 0, 0, 0), .inl 0, [], none)),
  (98, (.getfield 28, (101, 2, 13, 2, 0, 0), .inl 0, [], none)),
  (101, (.iload 5, (103, 0, 0, 0, 0, 0), .inl 0, [], none)),
  (103, (.iaload, (104, 0, 0, 0, 0, 0), .inl 0, [], none)),
  (104, (.istore 5, (106, 0, 0, 0, 0, 0), .inl 0, [], none)),
  (106, (.goto (-37), (109, 69, 0, 0, 0, 0), .inl 0, [], none)),
  (109, (.iload 4, (111, 0, 0, 0, 0, 0), .inl 0, [], none)),
  (111, (.ireturn, (112, 0, 0, 0, 0, 0), .inl 0, [], none))]
def z_Al_rowWorth : List (Nat × sk_E) := [
  (0, (.aload_n 0, (1, 0, 0, 0, 0, 0), .inl 0, [], none)),
  (1, (.iload_n 1, (2, 0, 0, 0, 0, 0), .inl 0, [], none)),
  (2, (.iload_n 2, (3, 0, 0, 0, 0, 0), .inl 0, [], none)),
  (3, (.invokevirtual 110, (6, 16, 3, 1, 4, 2), .inl 0, [], none)),
  (6, (.ifCond .eq 17, (9, 23, 0, 0, 0, 0), .inl 0, [], none)),
  (9, (.aload_n 0, (10, 0, 0, 0, 0, 0), .inl 0, [], none)),
  (10, (.aload_n 0, (11, 0, 0, 0, 0, 0), .inl 0, [], none)),
  (11, (.getfield 18, (14, 2, 10, 2, 0, 0), .inl 0, [], none)),
  (14, (.iload_n 2, (15, 0, 0, 0, 0, 0), .inl 0, [], none)),
  (15, (.iaload, (16, 0, 0, 0, 0, 0), .inl 0, [], none)),
  (16, (.invokevirtual 113, (19, 19, 2, 2, 5, 2), .inl 0, [], none)),
  (19, (.invokestatic 63, (22, 15, 1, 1, 2, 0), .inl 0, [], none)),
  (22, (.ireturn, (23, 0, 0, 0, 0, 0), .inl 0, [], none)),
  (23, (.iconst 0, (24, 0, 0, 0, 0, 0), .inl 0, [], none)),
  (24, (.istore_n 3, (25, 0, 0, 0, 0, 0), .inl 0, [], none)),
  (25, (.iconst 0, (26, 0, 0, 0, 0, 0), .inl 0, [], none)),
  (26, (.istore 4, (28, 0, 0, 0, 0, 0), .inl 0, [], none)),
  (28, (.iload 4, (30, 0, 0, 0, 0, 0), .inl 0, [], some [true, true, true, true, true])),
  (30, (.aload_n 0, (31, 0, 0, 0, 0, 0), .inl 0, [], none)),
  (31, (.getfield 18, (34, 2, 10, 2, 0, 0), .inl 0, [], none)),
  (34, (.iload_n 2, (35, 0, 0, 0, 0, 0), .inl 0, [], none)),
  (35, (.iaload, (36, 0, 0, 0, 0, 0), .inl 0, [], none)),
  (36, (.if_icmp .ge 31, (39, 67, 0, 0, 0, 0), .inl 0, [], none)),
  (39, (.iload_n 3, (40, 0, 0, 0, 0, 0), .inl 0, [], none)),
  (40, (.aload_n 0, (41, 0, 0, 0, 0, 0), .inl 0, [], none)),
  (41, (.getfield 40, (44, 2, 16, 2, 0, 0), .inl 0, [], none)),
  (44, (.aload_n 0, (45, 0, 0, 0, 0, 0), .inl 0, [], none)),
  (45, (.iload_n 1, (46, 0, 0, 0, 0, 0), .inl 0, [], none)),
  (46, (.aload_n 0, (47, 0, 0, 0, 0, 0), .inl 0, [], none)),
  (47, (.getfield 15, (50, 2, 9, 2, 0, 0), .inl 0, [], none)),
  (50, (.iload_n 2, (51, 0, 0, 0, 0, 0), .inl 0, [], none)),
  (51, (.iaload, (52, 0, 0, 0, 0, 0), .inl 0, [], none)),
  (52, (.iload 4, (54, 0, 0, 0, 0, 0), .inl 0, [], none)),
  (54, (.iadd, (55, 0, 0, 0, 0, 0), .inl 0, [], none)),
  (55, (.invokevirtual 116, (58, 17, 3, 1, 6, 2), .inl 0, [], none)),
  (58, (.iaload, (59, 0, 0, 0, 0, 0), .inl 0, [], none)),
  (59, (.ixor, (60, 0, 0, 0, 0, 0), .inl 0, [], none)),
  (60, (.istore_n 3, (61, 0, 0, 0, 0, 0), .inl 0, [], none)),
  (61, (.iinc 4 1, (64, 0, 0, 0, 0, 0), .inl 0, [], none)),
  (64, (.goto (-36), (67, 28, 0, 0, 0, 0), .inl 0, [], none)),
  (67, (.iload_n 3, (68, 0, 0, 0, 0, 0), .inl 0, [], none)),
  (68, (.ireturn, (69, 0, 0, 0, 0, 0), .inl 0, [], none))]
def z_Al_ringLeavings : List (Nat × sk_E) := [
  (0, (.lconst 0, (1, 0, 0, 0, 0, 0), .inl 0, [], none)),
  (1, (.lstore_n 2, (2, 0, 0, 0, 0, 0), .inl 0, [], none)),
  (2, (.iconst 1, (3, 0, 0, 0, 0, 0), .inl 0, [], none)),
  (3, (.istore 4, (5, 0, 0, 0, 0, 0), .inl 0, [], none)),
  (5, (.iload 4, (7, 0, 0, 0, 0, 0), .inl 0, [], some [true, true, true, false, true])),
  (7, (.iconst 4, (8, 0, 0, 0, 0, 0), .inl 0, [], none)),
  (8, (.if_icmp .gt 54, (11, 62, 0, 0, 0, 0), .inl 0, [], none)),
  (11, (.iload 4, (13, 0, 0, 0, 0, 0), .inl 0, [], none)),
  (13, (.iload_n 1, (14, 0, 0, 0, 0, 0), .inl 0, [], none)),
  (14, (.if_icmp .gt 48, (17, 62, 0, 0, 0, 0), .inl 0, [], none)),
  (17, (.aload_n 0, (18, 0, 0, 0, 0, 0), .inl 0, [], none)),
  (18, (.getfield 53, (21, 2, 4, 0, 0, 0), .inl 0, [], none)),
  (21, (.iload 4, (23, 0, 0, 0, 0, 0), .inl 0, [], none)),
  (23, (.invokestatic 81, (26, 10, 2, 1, 2, 0), .inl 0, [], none)),
  (26, (.ifCond .eq 30, (29, 56, 0, 0, 0, 0), .inl 0, [], none)),
  (29, (.aload_n 0, (30, 0, 0, 0, 0, 0), .inl 0, [], none)),
  (30, (.getfield 88, (33, 2, 5, 3, 0, 0), .inl 0, [], none)),
  (33, (.ifCond .eq 9, (36, 42, 0, 0, 0, 0), .inl 0, [], none)),
  (36, (.iload 4, (38, 0, 0, 0, 0, 0), .inl 0, [], none)),
  (38, (.iload_n 1, (39, 0, 0, 0, 0, 0), .inl 0, [], none)),
  (39, (.if_icmp .ne 17, (42, 56, 0, 0, 0, 0), .inl 0, [], none)),
  (42, (.lload_n 2, (43, 0, 0, 0, 0, 0), .inl 0, [], none)),
  (43, (.lconst 1, (44, 0, 0, 0, 0, 0), .inl 0, [], none)),
  (44, (.aload_n 0, (45, 0, 0, 0, 0, 0), .inl 0, [], none)),
  (45, (.getfield 40, (48, 2, 16, 2, 0, 0), .inl 0, [], none)),
  (48, (.iload_n 1, (49, 0, 0, 0, 0, 0), .inl 0, [], none)),
  (49, (.iload 4, (51, 0, 0, 0, 0, 0), .inl 0, [], none)),
  (51, (.isub, (52, 0, 0, 0, 0, 0), .inl 0, [], none)),
  (52, (.iaload, (53, 0, 0, 0, 0, 0), .inl 0, [], none)),
  (53, (.lshl, (54, 0, 0, 0, 0, 0), .inl 0, [], none)),
  (54, (.lor, (55, 0, 0, 0, 0, 0), .inl 0, [], none)),
  (55, (.lstore_n 2, (56, 0, 0, 0, 0, 0), .inl 0, [], none)),
  (56, (.iinc 4 1, (59, 0, 0, 0, 0, 0), .inl 0, [], none)),
  (59, (.goto (-54), (62, 5, 0, 0, 0, 0), .inl 0, [], none)),
  (62, (.lload_n 2, (63, 0, 0, 0, 0, 0), .inl 0, [], none)),
  (63, (.lreturn, (64, 0, 0, 0, 0, 0), .inl 0, [], none))]
def z_Al_sameFrom : List (Nat × sk_E) := [
  (0, (.bipush 41, (2, 0, 0, 0, 0, 0), .inl 0, [], none)),
  (2, (.iload_n 1, (3, 0, 0, 0, 0, 0), .inl 0, [], none)),
  (3, (.isub, (4, 0, 0, 0, 0, 0), .inl 0, [], none)),
  (4, (.istore_n 2, (5, 0, 0, 0, 0, 0), .inl 0, [], none)),
  (5, (.iload_n 2, (6, 0, 0, 0, 0, 0), .inl 0, [], some [true, true, true])),
  (6, (.ifCond .le 30, (9, 36, 0, 0, 0, 0), .inl 0, [], none)),
  (9, (.aload_n 0, (10, 0, 0, 0, 0, 0), .inl 0, [], none)),
  (10, (.getfield 40, (13, 2, 16, 2, 0, 0), .inl 0, [], none)),
  (13, (.iload_n 2, (14, 0, 0, 0, 0, 0), .inl 0, [], none)),
  (14, (.iconst 1, (15, 0, 0, 0, 0, 0), .inl 0, [], none)),
  (15, (.isub, (16, 0, 0, 0, 0, 0), .inl 0, [], none)),
  (16, (.iaload, (17, 0, 0, 0, 0, 0), .inl 0, [], none)),
  (17, (.aload_n 0, (18, 0, 0, 0, 0, 0), .inl 0, [], none)),
  (18, (.getfield 40, (21, 2, 16, 2, 0, 0), .inl 0, [], none)),
  (21, (.iload_n 2, (22, 0, 0, 0, 0, 0), .inl 0, [], none)),
  (22, (.iconst 1, (23, 0, 0, 0, 0, 0), .inl 0, [], none)),
  (23, (.isub, (24, 0, 0, 0, 0, 0), .inl 0, [], none)),
  (24, (.iload_n 1, (25, 0, 0, 0, 0, 0), .inl 0, [], none)),
  (25, (.iadd, (26, 0, 0, 0, 0, 0), .inl 0, [], none)),
  (26, (.iaload, (27, 0, 0, 0, 0, 0), .inl 0, [], none)),
  (27, (.if_icmp .ne 9, (30, 36, 0, 0, 0, 0), .inl 0, [], none)),
  (30, (.iinc 2 (-1), (33, 0, 0, 0, 0, 0), .inl 0, [], none)),
  (33, (.goto (-28), (36, 5, 0, 0, 0, 0), .inl 0, [], none)),
  (36, (.iload_n 2, (37, 0, 0, 0, 0, 0), .inl 0, [], none)),
  (37, (.iconst 2, (38, 0, 0, 0, 0, 0), .inl 0, [], none)),
  (38, (.iload_n 1, (39, 0, 0, 0, 0, 0), .inl 0, [], none)),
  (39, (.imul, (40, 0, 0, 0, 0, 0), .inl 0, [], none)),
  (40, (.iadd, (41, 0, 0, 0, 0, 0), .inl 0, [], none)),
  (41, (.bipush 40, (43, 0, 0, 0, 0, 0), .inl 0, [], none)),
  (43, (.if_icmp .gt 7, (46, 50, 0, 0, 0, 0), .inl 0, [], none)),
  (46, (.iload_n 2, (47, 0, 0, 0, 0, 0), .inl 0, [], none)),
  (47, (.goto 4, (50, 51, 0, 0, 0, 0), .inl 0, [], none)),
  (50, (.iconst (-1), (51, 0, 0, 0, 0, 0), .inl 0, [], none)),
  (51, (.ireturn, (52, 0, 0, 0, 0, 0), .inl 0, [], none))]
def z_Al_number : List (Nat × sk_E) := [
  (0, (.iload_n 1, (1, 0, 0, 0, 0, 0), .inl 0, [], none)),
  (1, (.tableswitch 76 0 4 #[35, 40, 45, 50, 63], (36, 77, 0, 0, 0, 0), .inl 0, [(0, 36), (1, 41), (2, 46), (3, 51), (4, 64)], none)),
  (36, (.aload_n 0, (37, 0, 0, 0, 0, 0), .inl 0, [], none)),
  (37, (.getfield 47, (40, 2, 2, 0, 0, 0), .inl 0, [], none)),
  (40, (.ireturn, (41, 0, 0, 0, 0, 0), .inl 0, [], none)),
  (41, (.aload_n 0, (42, 0, 0, 0, 0, 0), .inl 0, [], none)),
  (42, (.getfield 43, (45, 2, 3, 0, 0, 0), .inl 0, [], none)),
  (45, (.ireturn, (46, 0, 0, 0, 0, 0), .inl 0, [], none)),
  (46, (.aload_n 0, (47, 0, 0, 0, 0, 0), .inl 0, [], none)),
  (47, (.getfield 53, (50, 2, 4, 0, 0, 0), .inl 0, [], none)),
  (50, (.ireturn, (51, 0, 0, 0, 0, 0), .inl 0, [], none)),
  (51, (.aload_n 0, (52, 0, 0, 0, 0, 0), .inl 0, [], none)),
  (52, (.getfield 88, (55, 2, 5, 3, 0, 0), .inl 0, [], none)),
  (55, (.ifCond .eq 7, (58, 62, 0, 0, 0, 0), .inl 0, [], none)),
  (58, (.iconst 1, (59, 0, 0, 0, 0, 0), .inl 0, [], none)),
  (59, (.goto 4, (62, 63, 0, 0, 0, 0), .inl 0, [], none)),
  (62, (.iconst 0, (63, 0, 0, 0, 0, 0), .inl 0, [], none)),
  (63, (.ireturn, (64, 0, 0, 0, 0, 0), .inl 0, [], none)),
  (64, (.aload_n 0, (65, 0, 0, 0, 0, 0), .inl 0, [], none)),
  (65, (.getfield 120, (68, 2, 6, 3, 0, 0), .inl 0, [], none)),
  (68, (.ifCond .eq 7, (71, 75, 0, 0, 0, 0), .inl 0, [], none)),
  (71, (.iconst 1, (72, 0, 0, 0, 0, 0), .inl 0, [], none)),
  (72, (.goto 4, (75, 76, 0, 0, 0, 0), .inl 0, [], none)),
  (75, (.iconst 0, (76, 0, 0, 0, 0, 0), .inl 0, [], none)),
  (76, (.ireturn, (77, 0, 0, 0, 0, 0), .inl 0, [], none)),
  (77, (.aload_n 0, (78, 0, 0, 0, 0, 0), .inl 0, [], none)),
  (78, (.getfield 123, (81, 2, 7, 0, 0, 0), .inl 0, [], none)),
  (81, (.ireturn, (82, 0, 0, 0, 0, 0), .inl 0, [], none))]
def z_AR_init : List (Nat × sk_E) := [
  (0, (.aload_n 0, (1, 0, 0, 0, 0, 0), .inl 0, [], none)),
  (1, (.invokespecial 3, (4, 0, 1, 0, 0, 0), .inl 0, [], none)),
  (4, (.aload_n 0, (5, 0, 0, 0, 0, 0), .inl 0, [], none)),
  (5, (.new 9, (8, 2, 17, 0, 0, 0), .inl 0, [], none)),
  (8, (.dup, (9, 0, 0, 0, 0, 0), .inl 0, [], none)),
  (9, (.invokespecial 11, (12, 5, 1, 0, 1, 0), .inl 0, [], none)),
  (12, (.putfield 12, (15, 3, 1, 2, 0, 0), .inl 0, [], none)),
  (15, (.aload_n 0, (16, 0, 0, 0, 0, 0), .inl 0, [], none)),
  (16, (.aload_n 1, (17, 0, 0, 0, 0, 0), .inl 0, [], none)),
  (17, (.putfield 18, (20, 3, 0, 2, 0, 0), .inl 0, [], none)),
  (20, (.return_, (21, 0, 0, 0, 0, 0), .inl 0, [], none))]
def z_AR_read : List (Nat × sk_E) := [
  (0, (.iconst 0, (1, 0, 0, 0, 0, 0), .inl 0, [], none)),
  (1, (.istore_n 1, (2, 0, 0, 0, 0, 0), .inl 0, [], none)),
  (2, (.aload_n 0, (3, 0, 0, 0, 0, 0), .inl 0, [], some [true, true])),
  (3, (.iload_n 1, (4, 0, 0, 0, 0, 0), .inl 0, [], none)),
  (4, (.invokevirtual 22, (7, 24, 2, 0, 3, 3), .inl 0, [], none)),
  (7, (.iinc 1 1, (10, 0, 0, 0, 0, 0), .inl 0, [], none)),
  (10, (.iload_n 1, (11, 0, 0, 0, 0, 0), .inl 0, [], none)),
  (11, (.bipush 40, (13, 0, 0, 0, 0, 0), .inl 0, [], none)),
  (13, (.if_icmp .gt 13, (16, 26, 0, 0, 0, 0), .inl 0, [], none)),
  (16, (.aload_n 0, (17, 0, 0, 0, 0, 0), .inl 0, [], none)),
  (17, (.getfield 18, (20, 3, 0, 2, 0, 0), .inl 0, [], none)),
  (20, (.invokevirtual 26, (23, 51, 1, 1, 1, 6), .inl 0, [], none)),
  (23, (.ifCond .ne (-21), (26, 2, 0, 0, 0, 0), .inl 0, [], none)),
  (26, (.aload_n 0, (27, 0, 0, 0, 0, 0), .inl 0, [], some [true, false])),
  (27, (.getfield 18, (30, 3, 0, 2, 0, 0), .inl 0, [], none)),
  (30, (.invokevirtual 32, (33, 40, 1, 1, 1, 6), .inl 0, [], none)),
  (33, (.ifCond .eq 10, (36, 43, 0, 0, 0, 0), .inl 0, [], none)),
  (36, (.aload_n 0, (37, 0, 0, 0, 0, 0), .inl 0, [], none)),
  (37, (.getfield 12, (40, 3, 1, 2, 0, 0), .inl 0, [], none)),
  (40, (.invokevirtual 35, (43, 7, 1, 0, 4, 2), .inl 0, [], none)),
  (43, (.aload_n 0, (44, 0, 0, 0, 0, 0), .inl 0, [], none)),
  (44, (.getfield 12, (47, 3, 1, 2, 0, 0), .inl 0, [], none)),
  (47, (.areturn, (48, 0, 0, 0, 0, 0), .inl 0, [], none))]
def z_AR_readClause : List (Nat × sk_E) := [
  (0, (.aload_n 0, (1, 0, 0, 0, 0, 0), .inl 0, [], none)),
  (1, (.getfield 18, (4, 3, 0, 2, 0, 0), .inl 0, [], none)),
  (4, (.ldc 38, (6, 0, 0, 0, 0, 0), .inr (.inr (some 2)), [], none)),
  (6, (.invokevirtual 40, (9, 45, 2, 1, 5, 6), .inl 0, [], none)),
  (9, (.istore_n 2, (10, 0, 0, 0, 0, 0), .inl 0, [], none)),
  (10, (.iload_n 2, (11, 0, 0, 0, 0, 0), .inl 0, [], none)),
  (11, (.iconst (-1), (12, 0, 0, 0, 0, 0), .inl 0, [], none)),
  (12, (.if_icmp .ne 19, (15, 31, 0, 0, 0, 0), .inl 0, [], none)),
  (15, (.aload_n 0, (16, 0, 0, 0, 0, 0), .inl 0, [], none)),
  (16, (.getfield 18, (19, 3, 0, 2, 0, 0), .inl 0, [], none)),
  (19, (.aload_n 0, (20, 0, 0, 0, 0, 0), .inl 0, [], none)),
  (20, (.getfield 18, (23, 3, 0, 2, 0, 0), .inl 0, [], none)),
  (23, (.getfield 44, (26, 6, 2, 0, 0, 0), .inl 0, [], none)),
  (26, (.iconst 0, (27, 0, 0, 0, 0, 0), .inl 0, [], none)),
  (27, (.invokevirtual 48, (30, 41, 3, 0, 3, 6), .inl 0, [], none)),
  (30, (.return_, (31, 0, 0, 0, 0, 0), .inl 0, [], none)),
  (31, (.iload_n 1, (32, 0, 0, 0, 0, 0), .inl 0, [], none)),
  (32, (.bipush 40, (34, 0, 0, 0, 0, 0), .inl 0, [], none)),
  (34, (.if_icmp .ge 12, (37, 46, 0, 0, 0, 0), .inl 0, [], none)),
  (37, (.aload_n 0, (38, 0, 0, 0, 0, 0), .inl 0, [], none)),
  (38, (.iload_n 2, (39, 0, 0, 0, 0, 0), .inl 0, [], none)),
  (39, (.iload_n 1, (40, 0, 0, 0, 0, 0), .inl 0, [], none)),
  (40, (.invokevirtual 52, (43, 25, 3, 1, 3, 3), .inl 0, [], none)),
  (43, (.ifCond .eq 19, (46, 62, 0, 0, 0, 0), .inl 0, [], none)),
  (46, (.aload_n 0, (47, 0, 0, 0, 0, 0), .inl 0, [], none)),
  (47, (.getfield 18, (50, 3, 0, 2, 0, 0), .inl 0, [], none)),
  (50, (.aload_n 0, (51, 0, 0, 0, 0, 0), .inl 0, [], none)),
  (51, (.getfield 18, (54, 3, 0, 2, 0, 0), .inl 0, [], none)),
  (54, (.getfield 44, (57, 6, 2, 0, 0, 0), .inl 0, [], none)),
  (57, (.iconst 4, (58, 0, 0, 0, 0, 0), .inl 0, [], none)),
  (58, (.invokevirtual 48, (61, 41, 3, 0, 3, 6), .inl 0, [], none)),
  (61, (.return_, (62, 0, 0, 0, 0, 0), .inl 0, [], none)),
  (62, (.aload_n 0, (63, 0, 0, 0, 0, 0), .inl 0, [], none)),
  (63, (.getfield 18, (66, 3, 0, 2, 0, 0), .inl 0, [], none)),
  (66, (.invokevirtual 56, (69, 47, 1, 0, 1, 6), .inl 0, [], none)),
  (69, (.iload_n 2, (70, 0, 0, 0, 0, 0), .inl 0, [], none)),
  (70, (.tableswitch 100 0 5 #[38, 57, 64, 71, 78, 89], (108, 170, 0, 0, 0, 0), .inl 0, [(0, 108), (1, 127), (2, 134), (3, 141), (4, 148), (5, 159)], none)),
  (108, (.aload_n 0, (109, 0, 0, 0, 0, 0), .inl 0, [], none)),
  (109, (.getfield 12, (112, 3, 1, 2, 0, 0), .inl 0, [], none)),
  (112, (.aload_n 0, (113, 0, 0, 0, 0, 0), .inl 0, [], none)),
  (113, (.getfield 18, (116, 3, 0, 2, 0, 0), .inl 0, [], none)),
  (116, (.iconst 0, (117, 0, 0, 0, 0, 0), .inl 0, [], none)),
  (117, (.iconst 1, (118, 0, 0, 0, 0, 0), .inl 0, [], none)),
  (118, (.invokevirtual 59, (121, 50, 3, 1, 5, 6), .inl 0, [], none)),
  (121, (.putfield 63, (124, 2, 0, 0, 0, 0), .inl 0, [], none)),
  (124, (.goto 63, (127, 187, 0, 0, 0, 0), .inl 0, [], none)),
  (127, (.aload_n 0, (128, 0, 0, 0, 0, 0), .inl 0, [], none)),
  (128, (.invokevirtual 66, (131, 26, 1, 0, 1, 3), .inl 0, [], none)),
  (131, (.goto 56, (134, 187, 0, 0, 0, 0), .inl 0, [], none)),
  (134, (.aload_n 0, (135, 0, 0, 0, 0, 0), .inl 0, [], none)),
  (135, (.invokevirtual 69, (138, 28, 1, 0, 3, 3), .inl 0, [], none)),
  (138, (.goto 49, (141, 187, 0, 0, 0, 0), .inl 0, [], none)),
  (141, (.aload_n 0, (142, 0, 0, 0, 0, 0), .inl 0, [], none)),
  (142, (.invokevirtual 72, (145, 29, 1, 0, 2, 3), .inl 0, [], none)),
  (145, (.goto 42, (148, 187, 0, 0, 0, 0), .inl 0, [], none)),
  (148, (.aload_n 0, (149, 0, 0, 0, 0, 0), .inl 0, [], none)),
  (149, (.getfield 12, (152, 3, 1, 2, 0, 0), .inl 0, [], none)),
  (152, (.iconst 1, (153, 0, 0, 0, 0, 0), .inl 0, [], none)),
  (153, (.putfield 75, (156, 2, 5, 3, 0, 0), .inl 0, [], none)),
  (156, (.goto 31, (159, 187, 0, 0, 0, 0), .inl 0, [], none)),
  (159, (.aload_n 0, (160, 0, 0, 0, 0, 0), .inl 0, [], none)),
  (160, (.getfield 12, (163, 3, 1, 2, 0, 0), .inl 0, [], none)),
  (163, (.iconst 1, (164, 0, 0, 0, 0, 0), .inl 0, [], none)),
  (164, (.putfield 79, (167, 2, 6, 3, 0, 0), .inl 0, [], none)),
  (167, (.goto 20, (170, 187, 0, 0, 0, 0), .inl 0, [], none)),
  (170, (.aload_n 0, (171, 0, 0, 0, 0, 0), .inl 0, [], none)),
  (171, (.getfield 12, (174, 3, 1, 2, 0, 0), .inl 0, [], none)),
  (174, (.aload_n 0, (175, 0, 0, 0, 0, 0), .inl 0, [], none)),
  (175, (.getfield 18, (178, 3, 0, 2, 0, 0), .inl 0, [], none)),
  (178, (.iconst 0, (179, 0, 0, 0, 0, 0), .inl 0, [], none)),
  (179, (.bipush 100, (181, 0, 0, 0, 0, 0), .inl 0, [], none)),
  (181, (.invokevirtual 59, (184, 50, 3, 1, 5, 6), .inl 0, [], none)),
  (184, (.putfield 82, (187, 2, 7, 0, 0, 0), .inl 0, [], none)),
  (187, (.return_, (188, 0, 0, 0, 0, 0), .inl 0, [], none))]
def z_AR_isTooMany : List (Nat × sk_E) := [
  (0, (.iload_n 1, (1, 0, 0, 0, 0, 0), .inl 0, [], none)),
  (1, (.tableswitch 110 0 5 #[39, 49, 110, 110, 70, 90], (40, 111, 0, 0, 0, 0), .inl 0, [(0, 40), (1, 50), (2, 111), (3, 111), (4, 71), (5, 91)], none)),
  (40, (.iload_n 2, (41, 0, 0, 0, 0, 0), .inl 0, [], none)),
  (41, (.ifCond .le 7, (44, 48, 0, 0, 0, 0), .inl 0, [], none)),
  (44, (.iconst 1, (45, 0, 0, 0, 0, 0), .inl 0, [], none)),
  (45, (.goto 4, (48, 49, 0, 0, 0, 0), .inl 0, [], none)),
  (48, (.iconst 0, (49, 0, 0, 0, 0, 0), .inl 0, [], none)),
  (49, (.ireturn, (50, 3, 0, 0, 0, 0), .inl 0, [], none)),
  (50, (.iload_n 2, (51, 0, 0, 0, 0, 0), .inl 0, [], none)),
  (51, (.ifCond .eq 14, (54, 65, 0, 0, 0, 0), .inl 0, [], none)),
  (54, (.aload_n 0, (55, 0, 0, 0, 0, 0), .inl 0, [], none)),
  (55, (.getfield 12, (58, 3, 1, 2, 0, 0), .inl 0, [], none)),
  (58, (.getfield 85, (61, 2, 3, 0, 0, 0), .inl 0, [], none)),
  (61, (.iconst 4, (62, 0, 0, 0, 0, 0), .inl 0, [], none)),
  (62, (.if_icmp .lt 7, (65, 69, 0, 0, 0, 0), .inl 0, [], none)),
  (65, (.iconst 1, (66, 0, 0, 0, 0, 0), .inl 0, [], none)),
  (66, (.goto 4, (69, 70, 0, 0, 0, 0), .inl 0, [], none)),
  (69, (.iconst 0, (70, 0, 0, 0, 0, 0), .inl 0, [], none)),
  (70, (.ireturn, (71, 3, 0, 0, 0, 0), .inl 0, [], none)),
  (71, (.iload_n 2, (72, 0, 0, 0, 0, 0), .inl 0, [], none)),
  (72, (.ifCond .eq 13, (75, 85, 0, 0, 0, 0), .inl 0, [], none)),
  (75, (.aload_n 0, (76, 0, 0, 0, 0, 0), .inl 0, [], none)),
  (76, (.getfield 12, (79, 3, 1, 2, 0, 0), .inl 0, [], none)),
  (79, (.getfield 75, (82, 2, 5, 3, 0, 0), .inl 0, [], none)),
  (82, (.ifCond .eq 7, (85, 89, 0, 0, 0, 0), .inl 0, [], none)),
  (85, (.iconst 1, (86, 0, 0, 0, 0, 0), .inl 0, [], none)),
  (86, (.goto 4, (89, 90, 0, 0, 0, 0), .inl 0, [], none)),
  (89, (.iconst 0, (90, 0, 0, 0, 0, 0), .inl 0, [], none)),
  (90, (.ireturn, (91, 3, 0, 0, 0, 0), .inl 0, [], none)),
  (91, (.iload_n 2, (92, 0, 0, 0, 0, 0), .inl 0, [], none)),
  (92, (.ifCond .eq 13, (95, 105, 0, 0, 0, 0), .inl 0, [], none)),
  (95, (.aload_n 0, (96, 0, 0, 0, 0, 0), .inl 0, [], none)),
  (96, (.getfield 12, (99, 3, 1, 2, 0, 0), .inl 0, [], none)),
  (99, (.getfield 79, (102, 2, 6, 3, 0, 0), .inl 0, [], none)),
  (102, (.ifCond .eq 7, (105, 109, 0, 0, 0, 0), .inl 0, [], none)),
  (105, (.iconst 1, (106, 0, 0, 0, 0, 0), .inl 0, [], none)),
  (106, (.goto 4, (109, 110, 0, 0, 0, 0), .inl 0, [], none)),
  (109, (.iconst 0, (110, 0, 0, 0, 0, 0), .inl 0, [], none)),
  (110, (.ireturn, (111, 3, 0, 0, 0, 0), .inl 0, [], none)),
  (111, (.iload_n 2, (112, 0, 0, 0, 0, 0), .inl 0, [], none)),
  (112, (.ifCond .ne 7, (115, 119, 0, 0, 0, 0), .inl 0, [], none)),
  (115, (.iconst 1, (116, 0, 0, 0, 0, 0), .inl 0, [], none)),
  (116, (.goto 4, (119, 120, 0, 0, 0, 0), .inl 0, [], none)),
  (119, (.iconst 0, (120, 0, 0, 0, 0, 0), .inl 0, [], none)),
  (120, (.ireturn, (121, 3, 0, 0, 0, 0), .inl 0, [], none))]
def z_AR_readRow : List (Nat × sk_E) := [
  (0, (.aload_n 0, (1, 0, 0, 0, 0, 0), .inl 0, [], none)),
  (1, (.getfield 18, (4, 3, 0, 2, 0, 0), .inl 0, [], none)),
  (4, (.invokevirtual 88, (7, 43, 1, 1, 1, 6), .inl 0, [], none)),
  (7, (.invokestatic 92, (10, 27, 1, 1, 1, 0), .inl 0, [], none)),
  (10, (.ifCond .ne 19, (13, 29, 0, 0, 0, 0), .inl 0, [], none)),
  (13, (.aload_n 0, (14, 0, 0, 0, 0, 0), .inl 0, [], none)),
  (14, (.getfield 18, (17, 3, 0, 2, 0, 0), .inl 0, [], none)),
  (17, (.aload_n 0, (18, 0, 0, 0, 0, 0), .inl 0, [], none)),
  (18, (.getfield 18, (21, 3, 0, 2, 0, 0), .inl 0, [], none)),
  (21, (.getfield 44, (24, 6, 2, 0, 0, 0), .inl 0, [], none)),
  (24, (.iconst 0, (25, 0, 0, 0, 0, 0), .inl 0, [], none)),
  (25, (.invokevirtual 48, (28, 41, 3, 0, 3, 6), .inl 0, [], none)),
  (28, (.return_, (29, 0, 0, 0, 0, 0), .inl 0, [], none)),
  (29, (.aload_n 0, (30, 0, 0, 0, 0, 0), .inl 0, [], none)),
  (30, (.getfield 12, (33, 3, 1, 2, 0, 0), .inl 0, [], none)),
  (33, (.getfield 85, (36, 2, 3, 0, 0, 0), .inl 0, [], none)),
  (36, (.iconst 4, (37, 0, 0, 0, 0, 0), .inl 0, [], none)),
  (37, (.if_icmp .ge 38, (40, 75, 0, 0, 0, 0), .inl 0, [], none)),
  (40, (.aload_n 0, (41, 0, 0, 0, 0, 0), .inl 0, [], none)),
  (41, (.getfield 12, (44, 3, 1, 2, 0, 0), .inl 0, [], none)),
  (44, (.getfield 96, (47, 2, 9, 2, 0, 0), .inl 0, [], none)),
  (47, (.aload_n 0, (48, 0, 0, 0, 0, 0), .inl 0, [], none)),
  (48, (.getfield 12, (51, 3, 1, 2, 0, 0), .inl 0, [], none)),
  (51, (.getfield 85, (54, 2, 3, 0, 0, 0), .inl 0, [], none)),
  (54, (.aload_n 0, (55, 0, 0, 0, 0, 0), .inl 0, [], none)),
  (55, (.getfield 12, (58, 3, 1, 2, 0, 0), .inl 0, [], none)),
  (58, (.getfield 100, (61, 2, 2, 0, 0, 0), .inl 0, [], none)),
  (61, (.iastore, (62, 0, 0, 0, 0, 0), .inl 0, [], none)),
  (62, (.aload_n 0, (63, 0, 0, 0, 0, 0), .inl 0, [], none)),
  (63, (.getfield 12, (66, 3, 1, 2, 0, 0), .inl 0, [], none)),
  (66, (.dup, (67, 0, 0, 0, 0, 0), .inl 0, [], none)),
  (67, (.getfield 85, (70, 2, 3, 0, 0, 0), .inl 0, [], none)),
  (70, (.iconst 1, (71, 0, 0, 0, 0, 0), .inl 0, [], none)),
  (71, (.iadd, (72, 0, 0, 0, 0, 0), .inl 0, [], none)),
  (72, (.putfield 85, (75, 2, 3, 0, 0, 0), .inl 0, [], none)),
  (75, (.aload_n 0, (76, 0, 0, 0, 0, 0), .inl 0, [], some [true])),
  (76, (.getfield 18, (79, 3, 0, 2, 0, 0), .inl 0, [], none)),
  (79, (.invokevirtual 32, (82, 40, 1, 1, 1, 6), .inl 0, [], none)),
  (82, (.ifCond .eq 83, (85, 165, 0, 0, 0, 0), .inl 0, [], none)),
  (85, (.aload_n 0, (86, 0, 0, 0, 0, 0), .inl 0, [], none)),
  (86, (.getfield 18, (89, 3, 0, 2, 0, 0), .inl 0, [], none)),
  (89, (.invokevirtual 103, (92, 42, 1, 1, 1, 6), .inl 0, [], none)),
  (92, (.invokestatic 92, (95, 27, 1, 1, 1, 0), .inl 0, [], none)),
  (95, (.ifCond .eq 70, (98, 165, 0, 0, 0, 0), .inl 0, [], none)),
  (98, (.aload_n 0, (99, 0, 0, 0, 0, 0), .inl 0, [], none)),
  (99, (.getfield 12, (102, 3, 1, 2, 0, 0), .inl 0, [], none)),
  (102, (.getfield 100, (105, 2, 2, 0, 0, 0), .inl 0, [], none)),
  (105, (.bipush 12, (107, 0, 0, 0, 0, 0), .inl 0, [], none)),
  (107, (.if_icmp .lt 18, (110, 125, 0, 0, 0, 0), .inl 0, [], none)),
  (110, (.aload_n 0, (111, 0, 0, 0, 0, 0), .inl 0, [], none)),
  (111, (.getfield 18, (114, 3, 0, 2, 0, 0), .inl 0, [], none)),
  (114, (.aload_n 0, (115, 0, 0, 0, 0, 0), .inl 0, [], none)),
  (115, (.getfield 18, (118, 3, 0, 2, 0, 0), .inl 0, [], none)),
  (118, (.getfield 44, (121, 6, 2, 0, 0, 0), .inl 0, [], none)),
  (121, (.iconst 3, (122, 0, 0, 0, 0, 0), .inl 0, [], none)),
  (122, (.invokevirtual 48, (125, 41, 3, 0, 3, 6), .inl 0, [], none)),
  (125, (.aload_n 0, (126, 0, 0, 0, 0, 0), .inl 0, [], some [true])),
  (126, (.getfield 12, (129, 3, 1, 2, 0, 0), .inl 0, [], none)),
  (129, (.aload_n 0, (130, 0, 0, 0, 0, 0), .inl 0, [], none)),
  (130, (.getfield 18, (133, 3, 0, 2, 0, 0), .inl 0, [], none)),
  (133, (.invokevirtual 103, (136, 42, 1, 1, 1, 6), .inl 0, [], none)),
  (136, (.bipush 49, (138, 0, 0, 0, 0, 0), .inl 0, [], none)),
  (138, (.if_icmp .ne 7, (141, 145, 0, 0, 0, 0), .inl 0, [], none)),
  (141, (.iconst 1, (142, 0, 0, 0, 0, 0), .inl 0, [], none)),
  (142, (.goto 4, (145, 146, 0, 0, 0, 0), .inl 0, [], none)),
  (145, (.iconst 0, (146, 0, 0, 0, 0, 0), .inl 0, [], none)),
  (146, (.invokevirtual 106, (149, 6, 2, 0, 3, 2), .inl 0, [], none)),
  (149, (.aload_n 0, (150, 0, 0, 0, 0, 0), .inl 0, [], none)),
  (150, (.getfield 18, (153, 3, 0, 2, 0, 0), .inl 0, [], none)),
  (153, (.dup, (154, 0, 0, 0, 0, 0), .inl 0, [], none)),
  (154, (.getfield 44, (157, 6, 2, 0, 0, 0), .inl 0, [], none)),
  (157, (.iconst 1, (158, 0, 0, 0, 0, 0), .inl 0, [], none)),
  (158, (.iadd, (159, 0, 0, 0, 0, 0), .inl 0, [], none)),
  (159, (.putfield 44, (162, 6, 2, 0, 0, 0), .inl 0, [], none)),
  (162, (.goto (-87), (165, 75, 0, 0, 0, 0), .inl 0, [], none)),
  (165, (.return_, (166, 0, 0, 0, 0, 0), .inl 0, [], none))]
def z_AR_isPlace : List (Nat × sk_E) := [
  (0, (.iload_n 0, (1, 0, 0, 0, 0, 0), .inl 0, [], none)),
  (1, (.bipush 48, (3, 0, 0, 0, 0, 0), .inl 0, [], none)),
  (3, (.if_icmp .eq 9, (6, 12, 0, 0, 0, 0), .inl 0, [], none)),
  (6, (.iload_n 0, (7, 0, 0, 0, 0, 0), .inl 0, [], none)),
  (7, (.bipush 49, (9, 0, 0, 0, 0, 0), .inl 0, [], none)),
  (9, (.if_icmp .ne 7, (12, 16, 0, 0, 0, 0), .inl 0, [], none)),
  (12, (.iconst 1, (13, 0, 0, 0, 0, 0), .inl 0, [], none)),
  (13, (.goto 4, (16, 17, 0, 0, 0, 0), .inl 0, [], none)),
  (16, (.iconst 0, (17, 0, 0, 0, 0, 0), .inl 0, [], none)),
  (17, (.ireturn, (18, 3, 0, 0, 0, 0), .inl 0, [], none))]
def z_AR_readRing : List (Nat × sk_E) := [
  (0, (.aload_n 0, (1, 0, 0, 0, 0, 0), .inl 0, [], none)),
  (1, (.getfield 18, (4, 3, 0, 2, 0, 0), .inl 0, [], none)),
  (4, (.invokevirtual 88, (7, 43, 1, 1, 1, 6), .inl 0, [], none)),
  (7, (.pop, (8, 0, 0, 0, 0, 0), .inl 0, [], none)),
  (8, (.aload_n 0, (9, 0, 0, 0, 0, 0), .inl 0, [], none)),
  (9, (.getfield 18, (12, 3, 0, 2, 0, 0), .inl 0, [], none)),
  (12, (.getfield 44, (15, 6, 2, 0, 0, 0), .inl 0, [], none)),
  (15, (.istore_n 1, (16, 0, 0, 0, 0, 0), .inl 0, [], none)),
  (16, (.aload_n 0, (17, 0, 0, 0, 0, 0), .inl 0, [], none)),
  (17, (.getfield 18, (20, 3, 0, 2, 0, 0), .inl 0, [], none)),
  (20, (.iconst 0, (21, 0, 0, 0, 0, 0), .inl 0, [], none)),
  (21, (.aload_n 0, (22, 0, 0, 0, 0, 0), .inl 0, [], none)),
  (22, (.getfield 12, (25, 3, 1, 2, 0, 0), .inl 0, [], none)),
  (25, (.getfield 85, (28, 2, 3, 0, 0, 0), .inl 0, [], none)),
  (28, (.iconst 1, (29, 0, 0, 0, 0, 0), .inl 0, [], none)),
  (29, (.isub, (30, 0, 0, 0, 0, 0), .inl 0, [], none)),
  (30, (.invokevirtual 59, (33, 50, 3, 1, 5, 6), .inl 0, [], none)),
  (33, (.istore_n 2, (34, 0, 0, 0, 0, 0), .inl 0, [], none)),
  (34, (.aload_n 0, (35, 0, 0, 0, 0, 0), .inl 0, [], none)),
  (35, (.getfield 18, (38, 3, 0, 2, 0, 0), .inl 0, [], none)),
  (38, (.invokevirtual 32, (41, 40, 1, 1, 1, 6), .inl 0, [], none)),
  (41, (.ifCond .ne 4, (44, 45, 0, 0, 0, 0), .inl 0, [], none)),
  (44, (.return_, (45, 0, 0, 0, 0, 0), .inl 0, [], none)),
  (45, (.iload_n 2, (46, 0, 0, 0, 0, 0), .inl 0, [], none)),
  (46, (.iconst 4, (47, 0, 0, 0, 0, 0), .inl 0, [], none)),
  (47, (.if_icmp .ge 29, (50, 76, 0, 0, 0, 0), .inl 0, [], none)),
  (50, (.aload_n 0, (51, 0, 0, 0, 0, 0), .inl 0, [], none)),
  (51, (.getfield 12, (54, 3, 1, 2, 0, 0), .inl 0, [], none)),
  (54, (.getfield 110, (57, 2, 10, 2, 0, 0), .inl 0, [], none)),
  (57, (.iload_n 2, (58, 0, 0, 0, 0, 0), .inl 0, [], none)),
  (58, (.iaload, (59, 0, 0, 0, 0, 0), .inl 0, [], none)),
  (59, (.iconst 3, (60, 0, 0, 0, 0, 0), .inl 0, [], none)),
  (60, (.if_icmp .lt 16, (63, 76, 0, 0, 0, 0), .inl 0, [], none)),
  (63, (.aload_n 0, (64, 0, 0, 0, 0, 0), .inl 0, [], none)),
  (64, (.getfield 12, (67, 3, 1, 2, 0, 0), .inl 0, [], none)),
  (67, (.getfield 113, (70, 2, 11, 2, 0, 0), .inl 0, [], none)),
  (70, (.iload_n 2, (71, 0, 0, 0, 0, 0), .inl 0, [], none)),
  (71, (.iconst 1, (72, 0, 0, 0, 0, 0), .inl 0, [], none)),
  (72, (.bastore, (73, 0, 0, 0, 0, 0), .inl 0, [], none)),
  (73, (.goto 12, (76, 85, 0, 0, 0, 0), .inl 0, [], none)),
  (76, (.aload_n 0, (77, 0, 0, 0, 0, 0), .inl 0, [], none)),
  (77, (.getfield 18, (80, 3, 0, 2, 0, 0), .inl 0, [], none)),
  (80, (.iload_n 1, (81, 0, 0, 0, 0, 0), .inl 0, [], none)),
  (81, (.iconst 1, (82, 0, 0, 0, 0, 0), .inl 0, [], none)),
  (82, (.invokevirtual 48, (85, 41, 3, 0, 3, 6), .inl 0, [], none)),
  (85, (.return_, (86, 0, 0, 0, 0, 0), .inl 0, [], none))]
def z_AR_readHit : List (Nat × sk_E) := [
  (0, (.aload_n 0, (1, 0, 0, 0, 0, 0), .inl 0, [], none)),
  (1, (.getfield 18, (4, 3, 0, 2, 0, 0), .inl 0, [], none)),
  (4, (.iconst 1, (5, 0, 0, 0, 0, 0), .inl 0, [], none)),
  (5, (.iconst 4, (6, 0, 0, 0, 0, 0), .inl 0, [], none)),
  (6, (.invokevirtual 59, (9, 50, 3, 1, 5, 6), .inl 0, [], none)),
  (9, (.istore_n 1, (10, 0, 0, 0, 0, 0), .inl 0, [], none)),
  (10, (.aload_n 0, (11, 0, 0, 0, 0, 0), .inl 0, [], none)),
  (11, (.getfield 18, (14, 3, 0, 2, 0, 0), .inl 0, [], none)),
  (14, (.invokevirtual 32, (17, 40, 1, 1, 1, 6), .inl 0, [], none)),
  (17, (.ifCond .eq 20, (20, 37, 0, 0, 0, 0), .inl 0, [], none)),
  (20, (.aload_n 0, (21, 0, 0, 0, 0, 0), .inl 0, [], none)),
  (21, (.getfield 12, (24, 3, 1, 2, 0, 0), .inl 0, [], none)),
  (24, (.dup, (25, 0, 0, 0, 0, 0), .inl 0, [], none)),
  (25, (.getfield 117, (28, 2, 4, 0, 0, 0), .inl 0, [], none)),
  (28, (.iconst 1, (29, 0, 0, 0, 0, 0), .inl 0, [], none)),
  (29, (.iload_n 1, (30, 0, 0, 0, 0, 0), .inl 0, [], none)),
  (30, (.iconst 1, (31, 0, 0, 0, 0, 0), .inl 0, [], none)),
  (31, (.isub, (32, 0, 0, 0, 0, 0), .inl 0, [], none)),
  (32, (.ishl, (33, 0, 0, 0, 0, 0), .inl 0, [], none)),
  (33, (.ior, (34, 0, 0, 0, 0, 0), .inl 0, [], none)),
  (34, (.putfield 117, (37, 2, 4, 0, 0, 0), .inl 0, [], none)),
  (37, (.return_, (38, 0, 0, 0, 0, 0), .inl 0, [], none))]
def z_Bo_init : List (Nat × sk_E) := [
  (0, (.aload_n 0, (1, 0, 0, 0, 0, 0), .inl 0, [], none)),
  (1, (.invokespecial 3, (4, 0, 1, 0, 0, 0), .inl 0, [], none)),
  (4, (.aload_n 0, (5, 0, 0, 0, 0, 0), .inl 0, [], none)),
  (5, (.new 9, (8, 5, 1, 0, 0, 0), .inl 0, [], none)),
  (8, (.dup, (9, 0, 0, 0, 0, 0), .inl 0, [], none)),
  (9, (.invokespecial 11, (12, 35, 1, 0, 1, 0), .inl 0, [], none)),
  (12, (.putfield 12, (15, 4, 0, 2, 0, 0), .inl 0, [], none)),
  (15, (.return_, (16, 0, 0, 0, 0, 0), .inl 0, [], none))]
def z_Bo_playTimes : List (Nat × sk_E) := [
  (0, (.aload_n 0, (1, 0, 0, 0, 0, 0), .inl 0, [], none)),
  (1, (.iconst 0, (2, 0, 0, 0, 0, 0), .inl 0, [], none)),
  (2, (.putfield 18, (5, 4, 7, 0, 0, 0), .inl 0, [], none)),
  (5, (.aload_n 0, (6, 0, 0, 0, 0, 0), .inl 0, [], none)),
  (6, (.iconst 0, (7, 0, 0, 0, 0, 0), .inl 0, [], none)),
  (7, (.putfield 22, (10, 4, 8, 0, 0, 0), .inl 0, [], none)),
  (10, (.aload_n 0, (11, 0, 0, 0, 0, 0), .inl 0, [], none)),
  (11, (.aload_n 2, (12, 0, 0, 0, 0, 0), .inl 0, [], none)),
  (12, (.putfield 25, (15, 4, 1, 2, 0, 0), .inl 0, [], none)),
  (15, (.aload_n 0, (16, 0, 0, 0, 0, 0), .inl 0, [], none)),
  (16, (.aload_n 1, (17, 0, 0, 0, 0, 0), .inl 0, [], none)),
  (17, (.getfield 29, (20, 9, 0, 2, 0, 0), .inl 0, [], none)),
  (20, (.putfield 35, (23, 4, 2, 2, 0, 0), .inl 0, [], none)),
  (23, (.aload_n 0, (24, 0, 0, 0, 0, 0), .inl 0, [], none)),
  (24, (.aload_n 1, (25, 0, 0, 0, 0, 0), .inl 0, [], none)),
  (25, (.getfield 36, (28, 9, 4, 0, 0, 0), .inl 0, [], none)),
  (28, (.i2l, (29, 0, 0, 0, 0, 0), .inl 0, [], none)),
  (29, (.putfield 39, (32, 4, 6, 1, 0, 0), .inl 0, [], none)),
  (32, (.iconst 0, (33, 0, 0, 0, 0, 0), .inl 0, [], none)),
  (33, (.istore 6, (35, 0, 0, 0, 0, 0), .inl 0, [], none)),
  (35, (.iload 6, (37, 0, 0, 0, 0, 0), .inl 0, [], some [true, true, false, true, true, true, true])),
  (37, (.iload 5, (39, 0, 0, 0, 0, 0), .inl 0, [], none)),
  (39, (.if_icmp .ge 83, (42, 122, 0, 0, 0, 0), .inl 0, [], none)),
  (42, (.aload_n 0, (43, 0, 0, 0, 0, 0), .inl 0, [], none)),
  (43, (.getfield 35, (46, 4, 2, 2, 0, 0), .inl 0, [], none)),
  (46, (.ifnull 76, (49, 122, 0, 0, 0, 0), .inl 0, [], none)),
  (49, (.aload_n 0, (50, 0, 0, 0, 0, 0), .inl 0, [], none)),
  (50, (.aload_n 1, (51, 0, 0, 0, 0, 0), .inl 0, [], none)),
  (51, (.getfield 42, (54, 9, 1, 0, 0, 0), .inl 0, [], none)),
  (54, (.putfield 45, (57, 4, 3, 0, 0, 0), .inl 0, [], none)),
  (57, (.aload_n 0, (58, 0, 0, 0, 0, 0), .inl 0, [], none)),
  (58, (.aload_n 1, (59, 0, 0, 0, 0, 0), .inl 0, [], none)),
  (59, (.getfield 46, (62, 9, 2, 0, 0, 0), .inl 0, [], none)),
  (62, (.putfield 49, (65, 4, 4, 0, 0, 0), .inl 0, [], none)),
  (65, (.aload_n 0, (66, 0, 0, 0, 0, 0), .inl 0, [], none)),
  (66, (.aload_n 1, (67, 0, 0, 0, 0, 0), .inl 0, [], none)),
  (67, (.getfield 50, (70, 9, 3, 0, 0, 0), .inl 0, [], none)),
  (70, (.putfield 53, (73, 4, 5, 0, 0, 0), .inl 0, [], none)),
  (73, (.aload_n 0, (74, 0, 0, 0, 0, 0), .inl 0, [], none)),
  (74, (.aload_n 3, (75, 0, 0, 0, 0, 0), .inl 0, [], none)),
  (75, (.aload 4, (77, 0, 0, 0, 0, 0), .inl 0, [], none)),
  (77, (.invokevirtual 54, (80, 32, 3, 0, 6, 4), .inl 0, [], none)),
  (80, (.aload_n 0, (81, 0, 0, 0, 0, 0), .inl 0, [], none)),
  (81, (.dup, (82, 0, 0, 0, 0, 0), .inl 0, [], none)),
  (82, (.getfield 18, (85, 4, 7, 0, 0, 0), .inl 0, [], none)),
  (85, (.aload_n 0, (86, 0, 0, 0, 0, 0), .inl 0, [], none)),
  (86, (.getfield 35, (89, 4, 2, 2, 0, 0), .inl 0, [], none)),
  (89, (.getfield 58, (92, 2, 6, 3, 0, 0), .inl 0, [], none)),
  (92, (.aload_n 0, (93, 0, 0, 0, 0, 0), .inl 0, [], none)),
  (93, (.getfield 49, (96, 4, 4, 0, 0, 0), .inl 0, [], none)),
  (96, (.ifCond .ne 7, (99, 103, 0, 0, 0, 0), .inl 0, [], none)),
  (99, (.iconst 1, (100, 0, 0, 0, 0, 0), .inl 0, [], none)),
  (100, (.goto 4, (103, 104, 0, 0, 0, 0), .inl 0, [], none)),
  (103, (.iconst 0, (104, 0, 0, 0, 0, 0), .inl 0, [], none)),
  (104, (.if_icmp .ne 7, (107, 111, 0, 0, 0, 0), .inl 0, [], none)),
  (107, (.iconst 1, (108, 0, 0, 0, 0, 0), .inl 0, [], none)),
  (108, (.goto 4, (111, 112, 0, 0, 0, 0), .inl 0, [], none)),
  (111, (.iconst 0, (112, 0, 0, 0, 0, 0), .inl 0, [], none)),
  (112, (.iadd, (113, 0, 0, 0, 0, 0), .inl 0, [], none)),
  (113, (.putfield 18, (116, 4, 7, 0, 0, 0), .inl 0, [], none)),
  (116, (.iinc 6 1, (119, 0, 0, 0, 0, 0), .inl 0, [], none)),
  (119, (.goto (-84), (122, 35, 0, 0, 0, 0), .inl 0, [], none)),
  (122, (.return_, (123, 0, 0, 0, 0, 0), .inl 0, [], none))]
def z_Bo_playOut : List (Nat × sk_E) := [
  (0, (.iconst 0, (1, 0, 0, 0, 0, 0), .inl 0, [], none)),
  (1, (.istore_n 3, (2, 0, 0, 0, 0, 0), .inl 0, [], none)),
  (2, (.iload_n 3, (3, 0, 0, 0, 0, 0), .inl 0, [], some [true, true, true, true, false, false])),
  (3, (.bipush 12, (5, 0, 0, 0, 0, 0), .inl 0, [], none)),
  (5, (.if_icmp .ge 95, (8, 100, 0, 0, 0, 0), .inl 0, [], none)),
  (8, (.aload_n 0, (9, 0, 0, 0, 0, 0), .inl 0, [], none)),
  (9, (.getfield 49, (12, 4, 4, 0, 0, 0), .inl 0, [], none)),
  (12, (.ifCond .ne 7, (15, 19, 0, 0, 0, 0), .inl 0, [], none)),
  (15, (.aload_n 1, (16, 0, 0, 0, 0, 0), .inl 0, [], none)),
  (16, (.goto 4, (19, 20, 0, 0, 0, 0), .inl 0, [], none)),
  (19, (.aload_n 2, (20, 0, 0, 0, 0, 0), .inl 0, [], none)),
  (20, (.astore 4, (22, 0, 0, 0, 0, 0), .inl 0, [], none)),
  (22, (.aload 4, (24, 0, 0, 0, 0, 0), .inl 0, [], none)),
  (24, (.ifnonnull 10, (27, 34, 0, 0, 0, 0), .inl 0, [], none)),
  (27, (.aload_n 0, (28, 0, 0, 0, 0, 0), .inl 0, [], none)),
  (28, (.invokevirtual 64, (31, 34, 1, 3, 8, 4), .inl 0, [], none)),
  (31, (.goto 9, (34, 40, 0, 0, 0, 0), .inl 0, [], none)),
  (34, (.aload_n 0, (35, 0, 0, 0, 0, 0), .inl 0, [], none)),
  (35, (.aload 4, (37, 0, 0, 0, 0, 0), .inl 0, [], none)),
  (37, (.invokevirtual 68, (40, 33, 2, 3, 11, 4), .inl 0, [], none)),
  (40, (.astore 5, (42, 0, 0, 0, 0, 0), .inl 0, [], some [true, true, true, true, false, false])),
  (42, (.aload 5, (44, 0, 0, 0, 0, 0), .inl 0, [], none)),
  (44, (.ifnonnull 4, (47, 48, 0, 0, 0, 0), .inl 0, [], none)),
  (47, (.return_, (48, 0, 0, 0, 0, 0), .inl 0, [], none)),
  (48, (.aload_n 0, (49, 0, 0, 0, 0, 0), .inl 0, [], none)),
  (49, (.dup, (50, 0, 0, 0, 0, 0), .inl 0, [], none)),
  (50, (.getfield 45, (53, 4, 3, 0, 0, 0), .inl 0, [], none)),
  (53, (.aload 5, (55, 0, 0, 0, 0, 0), .inl 0, [], none)),
  (55, (.getfield 72, (58, 10, 3, 0, 0, 0), .inl 0, [], none)),
  (58, (.iconst (-1), (59, 0, 0, 0, 0, 0), .inl 0, [], none)),
  (59, (.ixor, (60, 0, 0, 0, 0, 0), .inl 0, [], none)),
  (60, (.iand, (61, 0, 0, 0, 0, 0), .inl 0, [], none)),
  (61, (.putfield 45, (64, 4, 3, 0, 0, 0), .inl 0, [], none)),
  (64, (.aload_n 0, (65, 0, 0, 0, 0, 0), .inl 0, [], none)),
  (65, (.iconst 1, (66, 0, 0, 0, 0, 0), .inl 0, [], none)),
  (66, (.aload_n 0, (67, 0, 0, 0, 0, 0), .inl 0, [], none)),
  (67, (.getfield 49, (70, 4, 4, 0, 0, 0), .inl 0, [], none)),
  (70, (.isub, (71, 0, 0, 0, 0, 0), .inl 0, [], none)),
  (71, (.putfield 49, (74, 4, 4, 0, 0, 0), .inl 0, [], none)),
  (74, (.aload_n 0, (75, 0, 0, 0, 0, 0), .inl 0, [], none)),
  (75, (.dup, (76, 0, 0, 0, 0, 0), .inl 0, [], none)),
  (76, (.getfield 53, (79, 4, 5, 0, 0, 0), .inl 0, [], none)),
  (79, (.iconst 1, (80, 0, 0, 0, 0, 0), .inl 0, [], none)),
  (80, (.iadd, (81, 0, 0, 0, 0, 0), .inl 0, [], none)),
  (81, (.putfield 53, (84, 4, 5, 0, 0, 0), .inl 0, [], none)),
  (84, (.aload_n 0, (85, 0, 0, 0, 0, 0), .inl 0, [], none)),
  (85, (.dup, (86, 0, 0, 0, 0, 0), .inl 0, [], none)),
  (86, (.getfield 22, (89, 4, 8, 0, 0, 0), .inl 0, [], none)),
  (89, (.iconst 1, (90, 0, 0, 0, 0, 0), .inl 0, [], none)),
  (90, (.iadd, (91, 0, 0, 0, 0, 0), .inl 0, [], none)),
  (91, (.putfield 22, (94, 4, 8, 0, 0, 0), .inl 0, [], none)),
  (94, (.iinc 3 1, (97, 0, 0, 0, 0, 0), .inl 0, [], none)),
  (97, (.goto (-95), (100, 2, 0, 0, 0, 0), .inl 0, [], none)),
  (100, (.return_, (101, 0, 0, 0, 0, 0), .inl 0, [], none))]
def z_Bo_bestBy : List (Nat × sk_E) := [
  (0, (.aconst_null, (1, 0, 0, 0, 0, 0), .inl 0, [], none)),
  (1, (.astore_n 2, (2, 0, 0, 0, 0, 0), .inl 0, [], none)),
  (2, (.lconst 0, (3, 0, 0, 0, 0, 0), .inl 0, [], none)),
  (3, (.lstore_n 3, (4, 0, 0, 0, 0, 0), .inl 0, [], none)),
  (4, (.aload_n 0, (5, 0, 0, 0, 0, 0), .inl 0, [], none)),
  (5, (.getfield 35, (8, 4, 2, 2, 0, 0), .inl 0, [], none)),
  (8, (.getfield 77, (11, 2, 14, 2, 0, 0), .inl 0, [], none)),
  (11, (.astore 5, (13, 0, 0, 0, 0, 0), .inl 0, [], none)),
  (13, (.aload 5, (15, 0, 0, 0, 0, 0), .inl 0, [], none)),
  (15, (.arraylength, (16, 0, 0, 0, 0, 0), .inl 0, [], none)),
  (16, (.istore 6, (18, 0, 0, 0, 0, 0), .inl 0, [], none)),
  (18, (.iconst 0, (19, 0, 0, 0, 0, 0), .inl 0, [], none)),
  (19, (.istore 7, (21, 0, 0, 0, 0, 0), .inl 0, [], none)),
  (21, (.iload 7, (23, 0, 0, 0, 0, 0), .inl 0, [], some [true, true, true, true, false, true, true, true, false, false, false])),
  (23, (.iload 6, (25, 0, 0, 0, 0, 0), .inl 0, [], none)),
  (25, (.if_icmp .ge 73, (28, 98, 0, 0, 0, 0), .inl 0, [], none)),
  (28, (.aload 5, (30, 0, 0, 0, 0, 0), .inl 0, [], none)),
  (30, (.iload 7, (32, 0, 0, 0, 0, 0), .inl 0, [], none)),
  (32, (.aaload, (33, 0, 0, 0, 0, 0), .inl 0, [], none)),
  (33, (.astore 8, (35, 0, 0, 0, 0, 0), .inl 0, [], none)),
  (35, (.aload_n 0, (36, 0, 0, 0, 0, 0), .inl 0, [], none)),
  (36, (.getfield 35, (39, 4, 2, 2, 0, 0), .inl 0, [], none)),
  (39, (.aload_n 0, (40, 0, 0, 0, 0, 0), .inl 0, [], none)),
  (40, (.getfield 45, (43, 4, 3, 0, 0, 0), .inl 0, [], none)),
  (43, (.aload 8, (45, 0, 0, 0, 0, 0), .inl 0, [], none)),
  (45, (.invokevirtual 80, (48, 12, 3, 1, 3, 2), .inl 0, [], none)),
  (48, (.ifCond .eq 44, (51, 92, 0, 0, 0, 0), .inl 0, [], none)),
  (51, (.aload_n 0, (52, 0, 0, 0, 0, 0), .inl 0, [], none)),
  (52, (.getfield 12, (55, 4, 0, 2, 0, 0), .inl 0, [], none)),
  (55, (.aload_n 0, (56, 0, 0, 0, 0, 0), .inl 0, [], none)),
  (56, (.aload 8, (58, 0, 0, 0, 0, 0), .inl 0, [], none)),
  (58, (.aload_n 1, (59, 0, 0, 0, 0, 0), .inl 0, [], none)),
  (59, (.getfield 84, (62, 7, 6, 0, 0, 0), .inl 0, [], none)),
  (62, (.invokevirtual 89, (65, 37, 4, 0, 5, 5), .inl 0, [], none)),
  (65, (.aload_n 1, (66, 0, 0, 0, 0, 0), .inl 0, [], none)),
  (66, (.aload_n 0, (67, 0, 0, 0, 0, 0), .inl 0, [], none)),
  (67, (.getfield 12, (70, 4, 0, 2, 0, 0), .inl 0, [], none)),
  (70, (.invokevirtual 93, (73, 55, 2, 2, 4, 7), .inl 0, [], none)),
  (73, (.lstore 9, (75, 0, 0, 0, 0, 0), .inl 0, [], none)),
  (75, (.aload_n 2, (76, 0, 0, 0, 0, 0), .inl 0, [], none)),
  (76, (.ifnull 10, (79, 86, 0, 0, 0, 0), .inl 0, [], none)),
  (79, (.lload 9, (81, 0, 0, 0, 0, 0), .inl 0, [], none)),
  (81, (.lload_n 3, (82, 0, 0, 0, 0, 0), .inl 0, [], none)),
  (82, (.lcmp, (83, 0, 0, 0, 0, 0), .inl 0, [], none)),
  (83, (.ifCond .le 9, (86, 92, 0, 0, 0, 0), .inl 0, [], none)),
  (86, (.aload 8, (88, 0, 0, 0, 0, 0), .inl 0, [], none)),
  (88, (.astore_n 2, (89, 0, 0, 0, 0, 0), .inl 0, [], none)),
  (89, (.lload 9, (91, 0, 0, 0, 0, 0), .inl 0, [], none)),
  (91, (.lstore_n 3, (92, 0, 0, 0, 0, 0), .inl 0, [], none)),
  (92, (.iinc 7 1, (95, 0, 0, 0, 0, 0), .inl 0, [], none)),
  (95, (.goto (-74), (98, 21, 0, 0, 0, 0), .inl 0, [], none)),
  (98, (.aload_n 2, (99, 0, 0, 0, 0, 0), .inl 0, [], none)),
  (99, (.areturn, (100, 0, 0, 0, 0, 0), .inl 0, [], none))]
def z_Bo_drawn : List (Nat × sk_E) := [
  (0, (.iconst 0, (1, 0, 0, 0, 0, 0), .inl 0, [], none)),
  (1, (.istore_n 1, (2, 0, 0, 0, 0, 0), .inl 0, [], none)),
  (2, (.aload_n 0, (3, 0, 0, 0, 0, 0), .inl 0, [], none)),
  (3, (.getfield 35, (6, 4, 2, 2, 0, 0), .inl 0, [], none)),
  (6, (.getfield 77, (9, 2, 14, 2, 0, 0), .inl 0, [], none)),
  (9, (.astore_n 2, (10, 0, 0, 0, 0, 0), .inl 0, [], none)),
  (10, (.aload_n 2, (11, 0, 0, 0, 0, 0), .inl 0, [], none)),
  (11, (.arraylength, (12, 0, 0, 0, 0, 0), .inl 0, [], none)),
  (12, (.istore_n 3, (13, 0, 0, 0, 0, 0), .inl 0, [], none)),
  (13, (.iconst 0, (14, 0, 0, 0, 0, 0), .inl 0, [], none)),
  (14, (.istore 4, (16, 0, 0, 0, 0, 0), .inl 0, [], none)),
  (16, (.iload 4, (18, 0, 0, 0, 0, 0), .inl 0, [], some [true, true, true, true, true, false, false, false])),
  (18, (.iload_n 3, (19, 0, 0, 0, 0, 0), .inl 0, [], none)),
  (19, (.if_icmp .ge 39, (22, 58, 0, 0, 0, 0), .inl 0, [], none)),
  (22, (.aload_n 2, (23, 0, 0, 0, 0, 0), .inl 0, [], none)),
  (23, (.iload 4, (25, 0, 0, 0, 0, 0), .inl 0, [], none)),
  (25, (.aaload, (26, 0, 0, 0, 0, 0), .inl 0, [], none)),
  (26, (.astore 5, (28, 0, 0, 0, 0, 0), .inl 0, [], none)),
  (28, (.iload_n 1, (29, 0, 0, 0, 0, 0), .inl 0, [], none)),
  (29, (.aload_n 0, (30, 0, 0, 0, 0, 0), .inl 0, [], none)),
  (30, (.getfield 35, (33, 4, 2, 2, 0, 0), .inl 0, [], none)),
  (33, (.aload_n 0, (34, 0, 0, 0, 0, 0), .inl 0, [], none)),
  (34, (.getfield 45, (37, 4, 3, 0, 0, 0), .inl 0, [], none)),
  (37, (.aload 5, (39, 0, 0, 0, 0, 0), .inl 0, [], none)),
  (39, (.invokevirtual 80, (42, 12, 3, 1, 3, 2), .inl 0, [], none)),
  (42, (.ifCond .eq 7, (45, 49, 0, 0, 0, 0), .inl 0, [], none)),
  (45, (.iconst 1, (46, 0, 0, 0, 0, 0), .inl 0, [], none)),
  (46, (.goto 4, (49, 50, 0, 0, 0, 0), .inl 0, [], none)),
  (49, (.iconst 0, (50, 0, 0, 0, 0, 0), .inl 0, [], none)),
  (50, (.iadd, (51, 0, 0, 0, 0, 0), .inl 0, [], none)),
  (51, (.istore_n 1, (52, 0, 0, 0, 0, 0), .inl 0, [], none)),
  (52, (.iinc 4 1, (55, 0, 0, 0, 0, 0), .inl 0, [], none)),
  (55, (.goto (-39), (58, 16, 0, 0, 0, 0), .inl 0, [], none)),
  (58, (.iload_n 1, (59, 0, 0, 0, 0, 0), .inl 0, [], none)),
  (59, (.ifCond .ne 5, (62, 64, 0, 0, 0, 0), .inl 0, [], none)),
  (62, (.aconst_null, (63, 0, 0, 0, 0, 0), .inl 0, [], none)),
  (63, (.areturn, (64, 0, 0, 0, 0, 0), .inl 0, [], none)),
  (64, (.aload_n 0, (65, 0, 0, 0, 0, 0), .inl 0, [], none)),
  (65, (.aload_n 0, (66, 0, 0, 0, 0, 0), .inl 0, [], none)),
  (66, (.getfield 39, (69, 4, 6, 1, 0, 0), .inl 0, [], none)),
  (69, (.ldc2_w 97, (72, 0, 0, 0, 0, 0), .inr (.inl (1103515245)), [], none)),
  (72, (.lmul, (73, 0, 0, 0, 0, 0), .inl 0, [], none)),
  (73, (.ldc2_w 99, (76, 0, 0, 0, 0, 0), .inr (.inl (12345)), [], none)),
  (76, (.ladd, (77, 0, 0, 0, 0, 0), .inl 0, [], none)),
  (77, (.ldc2_w 101, (80, 0, 0, 0, 0, 0), .inr (.inl (2147483647)), [], none)),
  (80, (.land, (81, 0, 0, 0, 0, 0), .inl 0, [], none)),
  (81, (.putfield 39, (84, 4, 6, 1, 0, 0), .inl 0, [], none)),
  (84, (.aload_n 0, (85, 0, 0, 0, 0, 0), .inl 0, [], none)),
  (85, (.getfield 39, (88, 4, 6, 1, 0, 0), .inl 0, [], none)),
  (88, (.ldc2_w 103, (91, 0, 0, 0, 0, 0), .inr (.inl (65536)), [], none)),
  (91, (.ldiv, (92, 0, 0, 0, 0, 0), .inl 0, [], none)),
  (92, (.iload_n 1, (93, 0, 0, 0, 0, 0), .inl 0, [], none)),
  (93, (.i2l, (94, 0, 0, 0, 0, 0), .inl 0, [], none)),
  (94, (.lrem, (95, 0, 0, 0, 0, 0), .inl 0, [], none)),
  (95, (.lstore_n 2, (96, 0, 0, 0, 0, 0), .inl 0, [], none)),
  (96, (.aload_n 0, (97, 0, 0, 0, 0, 0), .inl 0, [], none)),
  (97, (.getfield 35, (100, 4, 2, 2, 0, 0), .inl 0, [], none)),
  (100, (.getfield 77, (103, 2, 14, 2, 0, 0), .inl 0, [], none)),
  (103, (.astore 4, (105, 0, 0, 0, 0, 0), .inl 0, [], none)),
  (105, (.aload 4, (107, 0, 0, 0, 0, 0), .inl 0, [], none)),
  (107, (.arraylength, (108, 0, 0, 0, 0, 0), .inl 0, [], none)),
  (108, (.istore 5, (110, 0, 0, 0, 0, 0), .inl 0, [], none)),
  (110, (.iconst 0, (111, 0, 0, 0, 0, 0), .inl 0, [], none)),
  (111, (.istore 6, (113, 0, 0, 0, 0, 0), .inl 0, [], none)),
  (113, (.iload 6, (115, 0, 0, 0, 0, 0), .inl 0, [], some [true, false, true, false, true, true, true, false])),
  (115, (.iload 5, (117, 0, 0, 0, 0, 0), .inl 0, [], none)),
  (117, (.if_icmp .ge 45, (120, 162, 0, 0, 0, 0), .inl 0, [], none)),
  (120, (.aload 4, (122, 0, 0, 0, 0, 0), .inl 0, [], none)),
  (122, (.iload 6, (124, 0, 0, 0, 0, 0), .inl 0, [], none)),
  (124, (.aaload, (125, 0, 0, 0, 0, 0), .inl 0, [], none)),
  (125, (.astore 7, (127, 0, 0, 0, 0, 0), .inl 0, [], none)),
  (127, (.aload_n 0, (128, 0, 0, 0, 0, 0), .inl 0, [], none)),
  (128, (.getfield 35, (131, 4, 2, 2, 0, 0), .inl 0, [], none)),
  (131, (.aload_n 0, (132, 0, 0, 0, 0, 0), .inl 0, [], none)),
  (132, (.getfield 45, (135, 4, 3, 0, 0, 0), .inl 0, [], none)),
  (135, (.aload 7, (137, 0, 0, 0, 0, 0), .inl 0, [], none)),
  (137, (.invokevirtual 80, (140, 12, 3, 1, 3, 2), .inl 0, [], none)),
  (140, (.ifCond .eq 16, (143, 156, 0, 0, 0, 0), .inl 0, [], none)),
  (143, (.lload_n 2, (144, 0, 0, 0, 0, 0), .inl 0, [], none)),
  (144, (.lconst 0, (145, 0, 0, 0, 0, 0), .inl 0, [], none)),
  (145, (.lcmp, (146, 0, 0, 0, 0, 0), .inl 0, [], none)),
  (146, (.ifCond .ne 6, (149, 152, 0, 0, 0, 0), .inl 0, [], none)),
  (149, (.aload 7, (151, 0, 0, 0, 0, 0), .inl 0, [], none)),
  (151, (.areturn, (152, 0, 0, 0, 0, 0), .inl 0, [], none)),
  (152, (.lload_n 2, (153, 0, 0, 0, 0, 0), .inl 0, [], none)),
  (153, (.lconst 1, (154, 0, 0, 0, 0, 0), .inl 0, [], none)),
  (154, (.lsub, (155, 0, 0, 0, 0, 0), .inl 0, [], none)),
  (155, (.lstore_n 2, (156, 0, 0, 0, 0, 0), .inl 0, [], none)),
  (156, (.iinc 6 1, (159, 0, 0, 0, 0, 0), .inl 0, [], none)),
  (159, (.goto (-46), (162, 113, 0, 0, 0, 0), .inl 0, [], none)),
  (162, (.aconst_null, (163, 0, 0, 0, 0, 0), .inl 0, [], none)),
  (163, (.areturn, (164, 0, 0, 0, 0, 0), .inl 0, [], none))]
def z_Lo_init : List (Nat × sk_E) := [
  (0, (.aload_n 0, (1, 0, 0, 0, 0, 0), .inl 0, [], none)),
  (1, (.invokespecial 3, (4, 0, 1, 0, 0, 0), .inl 0, [], none)),
  (4, (.aload_n 0, (5, 0, 0, 0, 0, 0), .inl 0, [], none)),
  (5, (.bipush 11, (7, 0, 0, 0, 0, 0), .inl 0, [], none)),
  (7, (.newarray .long, (9, 0, 0, 0, 0, 0), .inl 0, [], none)),
  (9, (.putfield 9, (12, 5, 0, 2, 0, 0), .inl 0, [], none)),
  (12, (.return_, (13, 0, 0, 0, 0, 0), .inl 0, [], none))]
def z_Lo_word : List (Nat × sk_E) := [
  (0, (.iload_n 1, (1, 0, 0, 0, 0, 0), .inl 0, [], none)),
  (1, (.ifCond .lt 21, (4, 22, 0, 0, 0, 0), .inl 0, [], none)),
  (4, (.iload_n 1, (5, 0, 0, 0, 0, 0), .inl 0, [], none)),
  (5, (.aload_n 0, (6, 0, 0, 0, 0, 0), .inl 0, [], none)),
  (6, (.getfield 9, (9, 5, 0, 2, 0, 0), .inl 0, [], none)),
  (9, (.arraylength, (10, 0, 0, 0, 0, 0), .inl 0, [], none)),
  (10, (.if_icmp .ge 12, (13, 22, 0, 0, 0, 0), .inl 0, [], none)),
  (13, (.aload_n 0, (14, 0, 0, 0, 0, 0), .inl 0, [], none)),
  (14, (.getfield 9, (17, 5, 0, 2, 0, 0), .inl 0, [], none)),
  (17, (.iload_n 1, (18, 0, 0, 0, 0, 0), .inl 0, [], none)),
  (18, (.laload, (19, 0, 0, 0, 0, 0), .inl 0, [], none)),
  (19, (.goto 4, (22, 23, 0, 0, 0, 0), .inl 0, [], none)),
  (22, (.lconst 0, (23, 0, 0, 0, 0, 0), .inl 0, [], none)),
  (23, (.lreturn, (24, 0, 0, 0, 0, 0), .inl 0, [], none))]
def z_Lo_lookAt : List (Nat × sk_E) := [
  (0, (.aload_n 1, (1, 0, 0, 0, 0, 0), .inl 0, [], none)),
  (1, (.getfield 15, (4, 4, 3, 0, 0, 0), .inl 0, [], none)),
  (4, (.aload_n 2, (5, 0, 0, 0, 0, 0), .inl 0, [], none)),
  (5, (.getfield 21, (8, 10, 3, 0, 0, 0), .inl 0, [], none)),
  (8, (.iconst (-1), (9, 0, 0, 0, 0, 0), .inl 0, [], none)),
  (9, (.ixor, (10, 0, 0, 0, 0, 0), .inl 0, [], none)),
  (10, (.iand, (11, 0, 0, 0, 0, 0), .inl 0, [], none)),
  (11, (.istore 4, (13, 0, 0, 0, 0, 0), .inl 0, [], none)),
  (13, (.aload_n 0, (14, 0, 0, 0, 0, 0), .inl 0, [], none)),
  (14, (.getfield 9, (17, 5, 0, 2, 0, 0), .inl 0, [], none)),
  (17, (.iconst 0, (18, 0, 0, 0, 0, 0), .inl 0, [], none)),
  (18, (.aload_n 2, (19, 0, 0, 0, 0, 0), .inl 0, [], none)),
  (19, (.getfield 26, (22, 10, 0, 0, 0, 0), .inl 0, [], none)),
  (22, (.i2l, (23, 0, 0, 0, 0, 0), .inl 0, [], none)),
  (23, (.lastore, (24, 0, 0, 0, 0, 0), .inl 0, [], none)),
  (24, (.aload_n 0, (25, 0, 0, 0, 0, 0), .inl 0, [], none)),
  (25, (.getfield 9, (28, 5, 0, 2, 0, 0), .inl 0, [], none)),
  (28, (.iconst 1, (29, 0, 0, 0, 0, 0), .inl 0, [], none)),
  (29, (.aload_n 2, (30, 0, 0, 0, 0, 0), .inl 0, [], none)),
  (30, (.getfield 29, (33, 10, 1, 0, 0, 0), .inl 0, [], none)),
  (33, (.i2l, (34, 0, 0, 0, 0, 0), .inl 0, [], none)),
  (34, (.lastore, (35, 0, 0, 0, 0, 0), .inl 0, [], none)),
  (35, (.aload_n 0, (36, 0, 0, 0, 0, 0), .inl 0, [], none)),
  (36, (.getfield 9, (39, 5, 0, 2, 0, 0), .inl 0, [], none)),
  (39, (.iconst 2, (40, 0, 0, 0, 0, 0), .inl 0, [], none)),
  (40, (.aload_n 2, (41, 0, 0, 0, 0, 0), .inl 0, [], none)),
  (41, (.getfield 32, (44, 10, 2, 0, 0, 0), .inl 0, [], none)),
  (44, (.i2l, (45, 0, 0, 0, 0, 0), .inl 0, [], none)),
  (45, (.lastore, (46, 0, 0, 0, 0, 0), .inl 0, [], none)),
  (46, (.aload_n 0, (47, 0, 0, 0, 0, 0), .inl 0, [], none)),
  (47, (.getfield 9, (50, 5, 0, 2, 0, 0), .inl 0, [], none)),
  (50, (.iconst 3, (51, 0, 0, 0, 0, 0), .inl 0, [], none)),
  (51, (.aload_n 1, (52, 0, 0, 0, 0, 0), .inl 0, [], none)),
  (52, (.getfield 15, (55, 4, 3, 0, 0, 0), .inl 0, [], none)),
  (55, (.invokestatic 35, (58, 238, 1, 1, 1, 0), .inl 0, [], none)),
  (58, (.i2l, (59, 0, 0, 0, 0, 0), .inl 0, [], none)),
  (59, (.lastore, (60, 0, 0, 0, 0, 0), .inl 0, [], none)),
  (60, (.aload_n 0, (61, 0, 0, 0, 0, 0), .inl 0, [], none)),
  (61, (.getfield 9, (64, 5, 0, 2, 0, 0), .inl 0, [], none)),
  (64, (.iconst 4, (65, 0, 0, 0, 0, 0), .inl 0, [], none)),
  (65, (.iload 4, (67, 0, 0, 0, 0, 0), .inl 0, [], none)),
  (67, (.invokestatic 35, (70, 238, 1, 1, 1, 0), .inl 0, [], none)),
  (70, (.i2l, (71, 0, 0, 0, 0, 0), .inl 0, [], none)),
  (71, (.lastore, (72, 0, 0, 0, 0, 0), .inl 0, [], none)),
  (72, (.aload_n 0, (73, 0, 0, 0, 0, 0), .inl 0, [], none)),
  (73, (.getfield 9, (76, 5, 0, 2, 0, 0), .inl 0, [], none)),
  (76, (.bipush 9, (78, 0, 0, 0, 0, 0), .inl 0, [], none)),
  (78, (.aload_n 1, (79, 0, 0, 0, 0, 0), .inl 0, [], none)),
  (79, (.getfield 41, (82, 4, 4, 0, 0, 0), .inl 0, [], none)),
  (82, (.i2l, (83, 0, 0, 0, 0, 0), .inl 0, [], none)),
  (83, (.lastore, (84, 0, 0, 0, 0, 0), .inl 0, [], none)),
  (84, (.aload_n 0, (85, 0, 0, 0, 0, 0), .inl 0, [], none)),
  (85, (.getfield 9, (88, 5, 0, 2, 0, 0), .inl 0, [], none)),
  (88, (.bipush 10, (90, 0, 0, 0, 0, 0), .inl 0, [], none)),
  (90, (.aload_n 1, (91, 0, 0, 0, 0, 0), .inl 0, [], none)),
  (91, (.getfield 44, (94, 4, 5, 0, 0, 0), .inl 0, [], none)),
  (94, (.i2l, (95, 0, 0, 0, 0, 0), .inl 0, [], none)),
  (95, (.lastore, (96, 0, 0, 0, 0, 0), .inl 0, [], none)),
  (96, (.iload_n 3, (97, 0, 0, 0, 0, 0), .inl 0, [], none)),
  (97, (.bipush 8, (99, 0, 0, 0, 0, 0), .inl 0, [], none)),
  (99, (.ishr, (100, 0, 0, 0, 0, 0), .inl 0, [], none)),
  (100, (.iconst 1, (101, 0, 0, 0, 0, 0), .inl 0, [], none)),
  (101, (.iand, (102, 0, 0, 0, 0, 0), .inl 0, [], none)),
  (102, (.iconst 1, (103, 0, 0, 0, 0, 0), .inl 0, [], none)),
  (103, (.if_icmp .ne 27, (106, 130, 0, 0, 0, 0), .inl 0, [], none)),
  (106, (.aload_n 0, (107, 0, 0, 0, 0, 0), .inl 0, [], none)),
  (107, (.getfield 9, (110, 5, 0, 2, 0, 0), .inl 0, [], none)),
  (110, (.bipush 8, (112, 0, 0, 0, 0, 0), .inl 0, [], none)),
  (112, (.aload_n 1, (113, 0, 0, 0, 0, 0), .inl 0, [], none)),
  (113, (.getfield 47, (116, 4, 1, 2, 0, 0), .inl 0, [], none)),
  (116, (.iload 4, (118, 0, 0, 0, 0, 0), .inl 0, [], none)),
  (118, (.invokevirtual 51, (121, 82, 2, 1, 2, 11), .inl 0, [], none)),
  (121, (.ifCond .eq 7, (124, 128, 0, 0, 0, 0), .inl 0, [], none)),
  (124, (.lconst 0, (125, 0, 0, 0, 0, 0), .inl 0, [], none)),
  (125, (.goto 4, (128, 129, 0, 0, 0, 0), .inl 0, [], none)),
  (128, (.lconst 1, (129, 0, 0, 0, 0, 0), .inl 0, [], none)),
  (129, (.lastore, (130, 0, 0, 0, 0, 0), .inl 0, [], none)),
  (130, (.iload_n 3, (131, 0, 0, 0, 0, 0), .inl 0, [], none)),
  (131, (.sipush 224, (134, 0, 0, 0, 0, 0), .inl 0, [], none)),
  (134, (.iand, (135, 0, 0, 0, 0, 0), .inl 0, [], none)),
  (135, (.ifCond .eq 13, (138, 148, 0, 0, 0, 0), .inl 0, [], none)),
  (138, (.aload_n 0, (139, 0, 0, 0, 0, 0), .inl 0, [], none)),
  (139, (.aload_n 1, (140, 0, 0, 0, 0, 0), .inl 0, [], none)),
  (140, (.getfield 57, (143, 4, 2, 2, 0, 0), .inl 0, [], none)),
  (143, (.iload 4, (145, 0, 0, 0, 0, 0), .inl 0, [], none)),
  (145, (.invokevirtual 61, (148, 38, 3, 0, 8, 5), .inl 0, [], none)),
  (148, (.return_, (149, 0, 0, 0, 0, 0), .inl 0, [], none))]
def z_Lo_countRuns : List (Nat × sk_E) := [
  (0, (.iconst 0, (1, 0, 0, 0, 0, 0), .inl 0, [], none)),
  (1, (.istore_n 3, (2, 0, 0, 0, 0, 0), .inl 0, [], none)),
  (2, (.iconst 0, (3, 0, 0, 0, 0, 0), .inl 0, [], none)),
  (3, (.istore 4, (5, 0, 0, 0, 0, 0), .inl 0, [], none)),
  (5, (.iconst 0, (6, 0, 0, 0, 0, 0), .inl 0, [], none)),
  (6, (.istore 5, (8, 0, 0, 0, 0, 0), .inl 0, [], none)),
  (8, (.iconst 0, (9, 0, 0, 0, 0, 0), .inl 0, [], none)),
  (9, (.istore 6, (11, 0, 0, 0, 0, 0), .inl 0, [], none)),
  (11, (.iload 6, (13, 0, 0, 0, 0, 0), .inl 0, [], some [true, true, true, true, true, true, true, false])),
  (13, (.aload_n 1, (14, 0, 0, 0, 0, 0), .inl 0, [], none)),
  (14, (.getfield 65, (17, 2, 2, 0, 0, 0), .inl 0, [], none)),
  (17, (.if_icmp .ge 56, (20, 73, 0, 0, 0, 0), .inl 0, [], none)),
  (20, (.aload_n 1, (21, 0, 0, 0, 0, 0), .inl 0, [], none)),
  (21, (.iload_n 2, (22, 0, 0, 0, 0, 0), .inl 0, [], none)),
  (22, (.iload 6, (24, 0, 0, 0, 0, 0), .inl 0, [], none)),
  (24, (.invokevirtual 70, (27, 17, 3, 1, 6, 2), .inl 0, [], none)),
  (27, (.istore 7, (29, 0, 0, 0, 0, 0), .inl 0, [], none)),
  (29, (.iload_n 3, (30, 0, 0, 0, 0, 0), .inl 0, [], none)),
  (30, (.iload 7, (32, 0, 0, 0, 0, 0), .inl 0, [], none)),
  (32, (.ifCond .le 7, (35, 39, 0, 0, 0, 0), .inl 0, [], none)),
  (35, (.iconst 1, (36, 0, 0, 0, 0, 0), .inl 0, [], none)),
  (36, (.goto 4, (39, 40, 0, 0, 0, 0), .inl 0, [], none)),
  (39, (.iconst 0, (40, 0, 0, 0, 0, 0), .inl 0, [], none)),
  (40, (.iadd, (41, 0, 0, 0, 0, 0), .inl 0, [], some [true, true, true, false, true, true, true, true])),
  (41, (.istore_n 3, (42, 0, 0, 0, 0, 0), .inl 0, [], none)),
  (42, (.iload 5, (44, 0, 0, 0, 0, 0), .inl 0, [], none)),
  (44, (.iload 7, (46, 0, 0, 0, 0, 0), .inl 0, [], none)),
  (46, (.iconst 1, (47, 0, 0, 0, 0, 0), .inl 0, [], none)),
  (47, (.if_icmp .ne 7, (50, 54, 0, 0, 0, 0), .inl 0, [], none)),
  (50, (.iconst 1, (51, 0, 0, 0, 0, 0), .inl 0, [], none)),
  (51, (.goto 4, (54, 55, 0, 0, 0, 0), .inl 0, [], none)),
  (54, (.iconst 0, (55, 0, 0, 0, 0, 0), .inl 0, [], none)),
  (55, (.iadd, (56, 0, 0, 0, 0, 0), .inl 0, [], none)),
  (56, (.istore 5, (58, 0, 0, 0, 0, 0), .inl 0, [], none)),
  (58, (.iload 4, (60, 0, 0, 0, 0, 0), .inl 0, [], none)),
  (60, (.iload 7, (62, 0, 0, 0, 0, 0), .inl 0, [], none)),
  (62, (.invokestatic 74, (65, 241, 2, 1, 2, 0), .inl 0, [], none)),
  (65, (.istore 4, (67, 0, 0, 0, 0, 0), .inl 0, [], none)),
  (67, (.iinc 6 1, (70, 0, 0, 0, 0, 0), .inl 0, [], none)),
  (70, (.goto (-59), (73, 11, 0, 0, 0, 0), .inl 0, [], none)),
  (73, (.aload_n 0, (74, 0, 0, 0, 0, 0), .inl 0, [], none)),
  (74, (.getfield 9, (77, 5, 0, 2, 0, 0), .inl 0, [], none)),
  (77, (.iconst 5, (78, 0, 0, 0, 0, 0), .inl 0, [], none)),
  (78, (.iload_n 3, (79, 0, 0, 0, 0, 0), .inl 0, [], none)),
  (79, (.i2l, (80, 0, 0, 0, 0, 0), .inl 0, [], none)),
  (80, (.lastore, (81, 0, 0, 0, 0, 0), .inl 0, [], none)),
  (81, (.aload_n 0, (82, 0, 0, 0, 0, 0), .inl 0, [], none)),
  (82, (.getfield 9, (85, 5, 0, 2, 0, 0), .inl 0, [], none)),
  (85, (.bipush 6, (87, 0, 0, 0, 0, 0), .inl 0, [], none)),
  (87, (.iload 4, (89, 0, 0, 0, 0, 0), .inl 0, [], none)),
  (89, (.i2l, (90, 0, 0, 0, 0, 0), .inl 0, [], none)),
  (90, (.lastore, (91, 0, 0, 0, 0, 0), .inl 0, [], none)),
  (91, (.aload_n 0, (92, 0, 0, 0, 0, 0), .inl 0, [], none)),
  (92, (.getfield 9, (95, 5, 0, 2, 0, 0), .inl 0, [], none)),
  (95, (.bipush 7, (97, 0, 0, 0, 0, 0), .inl 0, [], none)),
  (97, (.iload 5, (99, 0, 0, 0, 0, 0), .inl 0, [], none)),
  (99, (.i2l, (100, 0, 0, 0, 0, 0), .inl 0, [], none)),
  (100, (.lastore, (101, 0, 0, 0, 0, 0), .inl 0, [], none)),
  (101, (.return_, (102, 0, 0, 0, 0, 0), .inl 0, [], none))]
def z_Re_init : List (Nat × sk_E) := [
  (0, (.aload_n 0, (1, 0, 0, 0, 0, 0), .inl 0, [], none)),
  (1, (.invokespecial 3, (4, 0, 1, 0, 0, 0), .inl 0, [], none)),
  (4, (.aload_n 0, (5, 0, 0, 0, 0, 0), .inl 0, [], none)),
  (5, (.iconst (-1), (6, 0, 0, 0, 0, 0), .inl 0, [], none)),
  (6, (.putfield 9, (9, 6, 3, 0, 0, 0), .inl 0, [], none)),
  (9, (.aload_n 0, (10, 0, 0, 0, 0, 0), .inl 0, [], none)),
  (10, (.aload_n 1, (11, 0, 0, 0, 0, 0), .inl 0, [], none)),
  (11, (.putfield 15, (14, 6, 0, 2, 0, 0), .inl 0, [], none)),
  (14, (.aload_n 0, (15, 0, 0, 0, 0, 0), .inl 0, [], none)),
  (15, (.iload_n 2, (16, 0, 0, 0, 0, 0), .inl 0, [], none)),
  (16, (.aload_n 1, (17, 0, 0, 0, 0, 0), .inl 0, [], none)),
  (17, (.arraylength, (18, 0, 0, 0, 0, 0), .inl 0, [], none)),
  (18, (.invokestatic 19, (21, 242, 2, 1, 2, 0), .inl 0, [], none)),
  (21, (.putfield 25, (24, 6, 1, 0, 0, 0), .inl 0, [], none)),
  (24, (.return_, (25, 0, 0, 0, 0, 0), .inl 0, [], none))]
def z_Re_sound : List (Nat × sk_E) := [
  (0, (.aload_n 0, (1, 0, 0, 0, 0, 0), .inl 0, [], none)),
  (1, (.getfield 9, (4, 6, 3, 0, 0, 0), .inl 0, [], none)),
  (4, (.iconst (-1), (5, 0, 0, 0, 0, 0), .inl 0, [], none)),
  (5, (.if_icmp .ne 7, (8, 12, 0, 0, 0, 0), .inl 0, [], none)),
  (8, (.iconst 1, (9, 0, 0, 0, 0, 0), .inl 0, [], none)),
  (9, (.goto 4, (12, 13, 0, 0, 0, 0), .inl 0, [], none)),
  (12, (.iconst 0, (13, 0, 0, 0, 0, 0), .inl 0, [], none)),
  (13, (.ireturn, (14, 3, 0, 0, 0, 0), .inl 0, [], none))]
def z_Re_refuse : List (Nat × sk_E) := [
  (0, (.aload_n 0, (1, 0, 0, 0, 0, 0), .inl 0, [], none)),
  (1, (.getfield 9, (4, 6, 3, 0, 0, 0), .inl 0, [], none)),
  (4, (.iconst (-1), (5, 0, 0, 0, 0, 0), .inl 0, [], none)),
  (5, (.if_icmp .ne 15, (8, 20, 0, 0, 0, 0), .inl 0, [], none)),
  (8, (.aload_n 0, (9, 0, 0, 0, 0, 0), .inl 0, [], none)),
  (9, (.iconst 1, (10, 0, 0, 0, 0, 0), .inl 0, [], none)),
  (10, (.bipush 8, (12, 0, 0, 0, 0, 0), .inl 0, [], none)),
  (12, (.iload_n 1, (13, 0, 0, 0, 0, 0), .inl 0, [], none)),
  (13, (.imul, (14, 0, 0, 0, 0, 0), .inl 0, [], none)),
  (14, (.iadd, (15, 0, 0, 0, 0, 0), .inl 0, [], none)),
  (15, (.iload_n 2, (16, 0, 0, 0, 0, 0), .inl 0, [], none)),
  (16, (.iadd, (17, 0, 0, 0, 0, 0), .inl 0, [], none)),
  (17, (.putfield 9, (20, 6, 3, 0, 0, 0), .inl 0, [], none)),
  (20, (.return_, (21, 0, 0, 0, 0, 0), .inl 0, [], none))]
def z_Re_look : List (Nat × sk_E) := [
  (0, (.aload_n 0, (1, 0, 0, 0, 0, 0), .inl 0, [], none)),
  (1, (.getfield 28, (4, 6, 2, 0, 0, 0), .inl 0, [], none)),
  (4, (.aload_n 0, (5, 0, 0, 0, 0, 0), .inl 0, [], none)),
  (5, (.getfield 25, (8, 6, 1, 0, 0, 0), .inl 0, [], none)),
  (8, (.if_icmp .ge 15, (11, 23, 0, 0, 0, 0), .inl 0, [], none)),
  (11, (.aload_n 0, (12, 0, 0, 0, 0, 0), .inl 0, [], none)),
  (12, (.getfield 15, (15, 6, 0, 2, 0, 0), .inl 0, [], none)),
  (15, (.aload_n 0, (16, 0, 0, 0, 0, 0), .inl 0, [], none)),
  (16, (.getfield 28, (19, 6, 2, 0, 0, 0), .inl 0, [], none)),
  (19, (.caload, (20, 0, 0, 0, 0, 0), .inl 0, [], none)),
  (20, (.goto 4, (23, 24, 0, 0, 0, 0), .inl 0, [], none)),
  (23, (.iconst (-1), (24, 0, 0, 0, 0, 0), .inl 0, [], none)),
  (24, (.ireturn, (25, 0, 0, 0, 0, 0), .inl 0, [], none))]
def z_Re_next : List (Nat × sk_E) := [
  (0, (.aload_n 0, (1, 0, 0, 0, 0, 0), .inl 0, [], some [true])),
  (1, (.getfield 28, (4, 6, 2, 0, 0, 0), .inl 0, [], none)),
  (4, (.aload_n 0, (5, 0, 0, 0, 0, 0), .inl 0, [], none)),
  (5, (.getfield 25, (8, 6, 1, 0, 0, 0), .inl 0, [], none)),
  (8, (.if_icmp .ge 30, (11, 38, 0, 0, 0, 0), .inl 0, [], none)),
  (11, (.aload_n 0, (12, 0, 0, 0, 0, 0), .inl 0, [], none)),
  (12, (.getfield 15, (15, 6, 0, 2, 0, 0), .inl 0, [], none)),
  (15, (.aload_n 0, (16, 0, 0, 0, 0, 0), .inl 0, [], none)),
  (16, (.getfield 28, (19, 6, 2, 0, 0, 0), .inl 0, [], none)),
  (19, (.caload, (20, 0, 0, 0, 0, 0), .inl 0, [], none)),
  (20, (.bipush 32, (22, 0, 0, 0, 0, 0), .inl 0, [], none)),
  (22, (.if_icmp .ne 16, (25, 38, 0, 0, 0, 0), .inl 0, [], none)),
  (25, (.aload_n 0, (26, 0, 0, 0, 0, 0), .inl 0, [], none)),
  (26, (.dup, (27, 0, 0, 0, 0, 0), .inl 0, [], none)),
  (27, (.getfield 28, (30, 6, 2, 0, 0, 0), .inl 0, [], none)),
  (30, (.iconst 1, (31, 0, 0, 0, 0, 0), .inl 0, [], none)),
  (31, (.iadd, (32, 0, 0, 0, 0, 0), .inl 0, [], none)),
  (32, (.putfield 28, (35, 6, 2, 0, 0, 0), .inl 0, [], none)),
  (35, (.goto (-35), (38, 0, 0, 0, 0, 0), .inl 0, [], none)),
  (38, (.aload_n 0, (39, 0, 0, 0, 0, 0), .inl 0, [], none)),
  (39, (.getfield 28, (42, 6, 2, 0, 0, 0), .inl 0, [], none)),
  (42, (.aload_n 0, (43, 0, 0, 0, 0, 0), .inl 0, [], none)),
  (43, (.getfield 25, (46, 6, 1, 0, 0, 0), .inl 0, [], none)),
  (46, (.if_icmp .ge 15, (49, 61, 0, 0, 0, 0), .inl 0, [], none)),
  (49, (.aload_n 0, (50, 0, 0, 0, 0, 0), .inl 0, [], none)),
  (50, (.getfield 15, (53, 6, 0, 2, 0, 0), .inl 0, [], none)),
  (53, (.aload_n 0, (54, 0, 0, 0, 0, 0), .inl 0, [], none)),
  (54, (.getfield 28, (57, 6, 2, 0, 0, 0), .inl 0, [], none)),
  (57, (.caload, (58, 0, 0, 0, 0, 0), .inl 0, [], none)),
  (58, (.goto 4, (61, 62, 0, 0, 0, 0), .inl 0, [], none)),
  (61, (.iconst (-1), (62, 0, 0, 0, 0, 0), .inl 0, [], none)),
  (62, (.ireturn, (63, 0, 0, 0, 0, 0), .inl 0, [], none))]
def z_Re_takes : List (Nat × sk_E) := [
  (0, (.aload_n 0, (1, 0, 0, 0, 0, 0), .inl 0, [], none)),
  (1, (.invokevirtual 31, (4, 40, 1, 1, 1, 6), .inl 0, [], none)),
  (4, (.ifCond .eq 11, (7, 15, 0, 0, 0, 0), .inl 0, [], none)),
  (7, (.aload_n 0, (8, 0, 0, 0, 0, 0), .inl 0, [], none)),
  (8, (.invokevirtual 35, (11, 43, 1, 1, 1, 6), .inl 0, [], none)),
  (11, (.iload_n 1, (12, 0, 0, 0, 0, 0), .inl 0, [], none)),
  (12, (.if_icmp .eq 5, (15, 17, 0, 0, 0, 0), .inl 0, [], none)),
  (15, (.iconst 0, (16, 0, 0, 0, 0, 0), .inl 0, [], none)),
  (16, (.ireturn, (17, 3, 0, 0, 0, 0), .inl 0, [], none)),
  (17, (.aload_n 0, (18, 0, 0, 0, 0, 0), .inl 0, [], none)),
  (18, (.dup, (19, 0, 0, 0, 0, 0), .inl 0, [], none)),
  (19, (.getfield 28, (22, 6, 2, 0, 0, 0), .inl 0, [], none)),
  (22, (.iconst 1, (23, 0, 0, 0, 0, 0), .inl 0, [], none)),
  (23, (.iadd, (24, 0, 0, 0, 0, 0), .inl 0, [], none)),
  (24, (.putfield 28, (27, 6, 2, 0, 0, 0), .inl 0, [], none)),
  (27, (.iconst 1, (28, 0, 0, 0, 0, 0), .inl 0, [], none)),
  (28, (.ireturn, (29, 3, 0, 0, 0, 0), .inl 0, [], none))]
def z_Re_wordOf : List (Nat × sk_E) := [
  (0, (.aload_n 0, (1, 0, 0, 0, 0, 0), .inl 0, [], none)),
  (1, (.invokevirtual 35, (4, 43, 1, 1, 1, 6), .inl 0, [], none)),
  (4, (.pop, (5, 0, 0, 0, 0, 0), .inl 0, [], none)),
  (5, (.iconst 0, (6, 0, 0, 0, 0, 0), .inl 0, [], none)),
  (6, (.istore_n 2, (7, 0, 0, 0, 0, 0), .inl 0, [], none)),
  (7, (.iconst 0, (8, 0, 0, 0, 0, 0), .inl 0, [], none)),
  (8, (.istore_n 3, (9, 0, 0, 0, 0, 0), .inl 0, [], none)),
  (9, (.iconst 0, (10, 0, 0, 0, 0, 0), .inl 0, [], none)),
  (10, (.istore 4, (12, 0, 0, 0, 0, 0), .inl 0, [], none)),
  (12, (.iload 4, (14, 0, 0, 0, 0, 0), .inl 0, [], some [true, true, true, true, true])),
  (14, (.aload_n 1, (15, 0, 0, 0, 0, 0), .inl 0, [], none)),
  (15, (.invokevirtual 39, (18, 243, 1, 1, 1, 51), .inl 0, [], none)),
  (18, (.if_icmp .gt 50, (21, 68, 0, 0, 0, 0), .inl 0, [], none)),
  (21, (.iload 4, (23, 0, 0, 0, 0, 0), .inl 0, [], none)),
  (23, (.aload_n 1, (24, 0, 0, 0, 0, 0), .inl 0, [], none)),
  (24, (.invokevirtual 39, (27, 243, 1, 1, 1, 51), .inl 0, [], none)),
  (27, (.if_icmp .eq 14, (30, 41, 0, 0, 0, 0), .inl 0, [], none)),
  (30, (.aload_n 1, (31, 0, 0, 0, 0, 0), .inl 0, [], none)),
  (31, (.iload 4, (33, 0, 0, 0, 0, 0), .inl 0, [], none)),
  (33, (.invokevirtual 43, (36, 244, 2, 1, 2, 51), .inl 0, [], none)),
  (36, (.bipush 32, (38, 0, 0, 0, 0, 0), .inl 0, [], none)),
  (38, (.if_icmp .ne 24, (41, 62, 0, 0, 0, 0), .inl 0, [], none)),
  (41, (.aload_n 0, (42, 0, 0, 0, 0, 0), .inl 0, [], some [true, true, true, true, true])),
  (42, (.aload_n 1, (43, 0, 0, 0, 0, 0), .inl 0, [], none)),
  (43, (.iload_n 3, (44, 0, 0, 0, 0, 0), .inl 0, [], none)),
  (44, (.iload 4, (46, 0, 0, 0, 0, 0), .inl 0, [], none)),
  (46, (.invokevirtual 47, (49, 46, 4, 1, 6, 6), .inl 0, [], none)),
  (49, (.ifCond .eq 5, (52, 54, 0, 0, 0, 0), .inl 0, [], none)),
  (52, (.iload_n 2, (53, 0, 0, 0, 0, 0), .inl 0, [], none)),
  (53, (.ireturn, (54, 0, 0, 0, 0, 0), .inl 0, [], none)),
  (54, (.iinc 2 1, (57, 0, 0, 0, 0, 0), .inl 0, [], none)),
  (57, (.iload 4, (59, 0, 0, 0, 0, 0), .inl 0, [], none)),
  (59, (.iconst 1, (60, 0, 0, 0, 0, 0), .inl 0, [], none)),
  (60, (.iadd, (61, 0, 0, 0, 0, 0), .inl 0, [], none)),
  (61, (.istore_n 3, (62, 0, 0, 0, 0, 0), .inl 0, [], none)),
  (62, (.iinc 4 1, (65, 0, 0, 0, 0, 0), .inl 0, [], none)),
  (65, (.goto (-53), (68, 12, 0, 0, 0, 0), .inl 0, [], none)),
  (68, (.iconst (-1), (69, 0, 0, 0, 0, 0), .inl 0, [], none)),
  (69, (.ireturn, (70, 0, 0, 0, 0, 0), .inl 0, [], none))]
def z_Re_isWord : List (Nat × sk_E) := [
  (0, (.iload_n 3, (1, 0, 0, 0, 0, 0), .inl 0, [], none)),
  (1, (.iload_n 2, (2, 0, 0, 0, 0, 0), .inl 0, [], none)),
  (2, (.isub, (3, 0, 0, 0, 0, 0), .inl 0, [], none)),
  (3, (.istore 4, (5, 0, 0, 0, 0, 0), .inl 0, [], none)),
  (5, (.aload_n 0, (6, 0, 0, 0, 0, 0), .inl 0, [], none)),
  (6, (.getfield 28, (9, 6, 2, 0, 0, 0), .inl 0, [], none)),
  (9, (.iload 4, (11, 0, 0, 0, 0, 0), .inl 0, [], none)),
  (11, (.iadd, (12, 0, 0, 0, 0, 0), .inl 0, [], none)),
  (12, (.aload_n 0, (13, 0, 0, 0, 0, 0), .inl 0, [], none)),
  (13, (.getfield 25, (16, 6, 1, 0, 0, 0), .inl 0, [], none)),
  (16, (.if_icmp .le 5, (19, 21, 0, 0, 0, 0), .inl 0, [], none)),
  (19, (.iconst 0, (20, 0, 0, 0, 0, 0), .inl 0, [], none)),
  (20, (.ireturn, (21, 3, 0, 0, 0, 0), .inl 0, [], none)),
  (21, (.iconst 0, (22, 0, 0, 0, 0, 0), .inl 0, [], none)),
  (22, (.istore 5, (24, 0, 0, 0, 0, 0), .inl 0, [], none)),
  (24, (.iload 5, (26, 0, 0, 0, 0, 0), .inl 0, [], some [true, true, true, false, true, true])),
  (26, (.iload 4, (28, 0, 0, 0, 0, 0), .inl 0, [], none)),
  (28, (.if_icmp .ge 34, (31, 62, 0, 0, 0, 0), .inl 0, [], none)),
  (31, (.aload_n 0, (32, 0, 0, 0, 0, 0), .inl 0, [], none)),
  (32, (.getfield 15, (35, 6, 0, 2, 0, 0), .inl 0, [], none)),
  (35, (.aload_n 0, (36, 0, 0, 0, 0, 0), .inl 0, [], none)),
  (36, (.getfield 28, (39, 6, 2, 0, 0, 0), .inl 0, [], none)),
  (39, (.iload 5, (41, 0, 0, 0, 0, 0), .inl 0, [], none)),
  (41, (.iadd, (42, 0, 0, 0, 0, 0), .inl 0, [], none)),
  (42, (.caload, (43, 0, 0, 0, 0, 0), .inl 0, [], none)),
  (43, (.aload_n 1, (44, 0, 0, 0, 0, 0), .inl 0, [], none)),
  (44, (.iload_n 2, (45, 0, 0, 0, 0, 0), .inl 0, [], none)),
  (45, (.iload 5, (47, 0, 0, 0, 0, 0), .inl 0, [], none)),
  (47, (.iadd, (48, 0, 0, 0, 0, 0), .inl 0, [], none)),
  (48, (.invokevirtual 43, (51, 244, 2, 1, 2, 51), .inl 0, [], none)),
  (51, (.if_icmp .eq 5, (54, 56, 0, 0, 0, 0), .inl 0, [], none)),
  (54, (.iconst 0, (55, 0, 0, 0, 0, 0), .inl 0, [], none)),
  (55, (.ireturn, (56, 3, 0, 0, 0, 0), .inl 0, [], none)),
  (56, (.iinc 5 1, (59, 0, 0, 0, 0, 0), .inl 0, [], none)),
  (59, (.goto (-35), (62, 24, 0, 0, 0, 0), .inl 0, [], none)),
  (62, (.aload_n 0, (63, 0, 0, 0, 0, 0), .inl 0, [], none)),
  (63, (.getfield 28, (66, 6, 2, 0, 0, 0), .inl 0, [], none)),
  (66, (.iload 4, (68, 0, 0, 0, 0, 0), .inl 0, [], none)),
  (68, (.iadd, (69, 0, 0, 0, 0, 0), .inl 0, [], none)),
  (69, (.aload_n 0, (70, 0, 0, 0, 0, 0), .inl 0, [], none)),
  (70, (.getfield 25, (73, 6, 1, 0, 0, 0), .inl 0, [], none)),
  (73, (.if_icmp .eq 37, (76, 110, 0, 0, 0, 0), .inl 0, [], none)),
  (76, (.aload_n 0, (77, 0, 0, 0, 0, 0), .inl 0, [], none)),
  (77, (.getfield 15, (80, 6, 0, 2, 0, 0), .inl 0, [], none)),
  (80, (.aload_n 0, (81, 0, 0, 0, 0, 0), .inl 0, [], none)),
  (81, (.getfield 28, (84, 6, 2, 0, 0, 0), .inl 0, [], none)),
  (84, (.iload 4, (86, 0, 0, 0, 0, 0), .inl 0, [], none)),
  (86, (.iadd, (87, 0, 0, 0, 0, 0), .inl 0, [], none)),
  (87, (.caload, (88, 0, 0, 0, 0, 0), .inl 0, [], none)),
  (88, (.bipush 97, (90, 0, 0, 0, 0, 0), .inl 0, [], none)),
  (90, (.if_icmp .lt 20, (93, 110, 0, 0, 0, 0), .inl 0, [], none)),
  (93, (.aload_n 0, (94, 0, 0, 0, 0, 0), .inl 0, [], none)),
  (94, (.getfield 15, (97, 6, 0, 2, 0, 0), .inl 0, [], none)),
  (97, (.aload_n 0, (98, 0, 0, 0, 0, 0), .inl 0, [], none)),
  (98, (.getfield 28, (101, 6, 2, 0, 0, 0), .inl 0, [], none)),
  (101, (.iload 4, (103, 0, 0, 0, 0, 0), .inl 0, [], none)),
  (103, (.iadd, (104, 0, 0, 0, 0, 0), .inl 0, [], none)),
  (104, (.caload, (105, 0, 0, 0, 0, 0), .inl 0, [], none)),
  (105, (.bipush 122, (107, 0, 0, 0, 0, 0), .inl 0, [], none)),
  (107, (.if_icmp .le 7, (110, 114, 0, 0, 0, 0), .inl 0, [], none)),
  (110, (.iconst 1, (111, 0, 0, 0, 0, 0), .inl 0, [], none)),
  (111, (.goto 4, (114, 115, 0, 0, 0, 0), .inl 0, [], none)),
  (114, (.iconst 0, (115, 0, 0, 0, 0, 0), .inl 0, [], none)),
  (115, (.ireturn, (116, 3, 0, 0, 0, 0), .inl 0, [], none))]
def z_Re_skipWord : List (Nat × sk_E) := [
  (0, (.aload_n 0, (1, 0, 0, 0, 0, 0), .inl 0, [], some [true])),
  (1, (.getfield 28, (4, 6, 2, 0, 0, 0), .inl 0, [], none)),
  (4, (.aload_n 0, (5, 0, 0, 0, 0, 0), .inl 0, [], none)),
  (5, (.getfield 25, (8, 6, 1, 0, 0, 0), .inl 0, [], none)),
  (8, (.if_icmp .ge 44, (11, 52, 0, 0, 0, 0), .inl 0, [], none)),
  (11, (.aload_n 0, (12, 0, 0, 0, 0, 0), .inl 0, [], none)),
  (12, (.getfield 15, (15, 6, 0, 2, 0, 0), .inl 0, [], none)),
  (15, (.aload_n 0, (16, 0, 0, 0, 0, 0), .inl 0, [], none)),
  (16, (.getfield 28, (19, 6, 2, 0, 0, 0), .inl 0, [], none)),
  (19, (.caload, (20, 0, 0, 0, 0, 0), .inl 0, [], none)),
  (20, (.bipush 97, (22, 0, 0, 0, 0, 0), .inl 0, [], none)),
  (22, (.if_icmp .lt 30, (25, 52, 0, 0, 0, 0), .inl 0, [], none)),
  (25, (.aload_n 0, (26, 0, 0, 0, 0, 0), .inl 0, [], none)),
  (26, (.getfield 15, (29, 6, 0, 2, 0, 0), .inl 0, [], none)),
  (29, (.aload_n 0, (30, 0, 0, 0, 0, 0), .inl 0, [], none)),
  (30, (.getfield 28, (33, 6, 2, 0, 0, 0), .inl 0, [], none)),
  (33, (.caload, (34, 0, 0, 0, 0, 0), .inl 0, [], none)),
  (34, (.bipush 122, (36, 0, 0, 0, 0, 0), .inl 0, [], none)),
  (36, (.if_icmp .gt 16, (39, 52, 0, 0, 0, 0), .inl 0, [], none)),
  (39, (.aload_n 0, (40, 0, 0, 0, 0, 0), .inl 0, [], none)),
  (40, (.dup, (41, 0, 0, 0, 0, 0), .inl 0, [], none)),
  (41, (.getfield 28, (44, 6, 2, 0, 0, 0), .inl 0, [], none)),
  (44, (.iconst 1, (45, 0, 0, 0, 0, 0), .inl 0, [], none)),
  (45, (.iadd, (46, 0, 0, 0, 0, 0), .inl 0, [], none)),
  (46, (.putfield 28, (49, 6, 2, 0, 0, 0), .inl 0, [], none)),
  (49, (.goto (-49), (52, 0, 0, 0, 0, 0), .inl 0, [], none)),
  (52, (.return_, (53, 0, 0, 0, 0, 0), .inl 0, [], none))]
def z_Re_takesWord : List (Nat × sk_E) := [
  (0, (.aload_n 0, (1, 0, 0, 0, 0, 0), .inl 0, [], none)),
  (1, (.invokevirtual 31, (4, 40, 1, 1, 1, 6), .inl 0, [], none)),
  (4, (.ifCond .eq 12, (7, 16, 0, 0, 0, 0), .inl 0, [], none)),
  (7, (.aload_n 0, (8, 0, 0, 0, 0, 0), .inl 0, [], none)),
  (8, (.aload_n 1, (9, 0, 0, 0, 0, 0), .inl 0, [], none)),
  (9, (.invokevirtual 51, (12, 45, 2, 1, 5, 6), .inl 0, [], none)),
  (12, (.iconst (-1), (13, 0, 0, 0, 0, 0), .inl 0, [], none)),
  (13, (.if_icmp .ne 5, (16, 18, 0, 0, 0, 0), .inl 0, [], none)),
  (16, (.iconst 0, (17, 0, 0, 0, 0, 0), .inl 0, [], none)),
  (17, (.ireturn, (18, 3, 0, 0, 0, 0), .inl 0, [], none)),
  (18, (.aload_n 0, (19, 0, 0, 0, 0, 0), .inl 0, [], none)),
  (19, (.invokevirtual 55, (22, 47, 1, 0, 1, 6), .inl 0, [], none)),
  (22, (.iconst 1, (23, 0, 0, 0, 0, 0), .inl 0, [], none)),
  (23, (.ireturn, (24, 3, 0, 0, 0, 0), .inl 0, [], none))]
def z_Re_isDigit : List (Nat × sk_E) := [
  (0, (.iload_n 0, (1, 0, 0, 0, 0, 0), .inl 0, [], none)),
  (1, (.bipush 48, (3, 0, 0, 0, 0, 0), .inl 0, [], none)),
  (3, (.if_icmp .lt 13, (6, 16, 0, 0, 0, 0), .inl 0, [], none)),
  (6, (.iload_n 0, (7, 0, 0, 0, 0, 0), .inl 0, [], none)),
  (7, (.bipush 57, (9, 0, 0, 0, 0, 0), .inl 0, [], none)),
  (9, (.if_icmp .gt 7, (12, 16, 0, 0, 0, 0), .inl 0, [], none)),
  (12, (.iconst 1, (13, 0, 0, 0, 0, 0), .inl 0, [], none)),
  (13, (.goto 4, (16, 17, 0, 0, 0, 0), .inl 0, [], none)),
  (16, (.iconst 0, (17, 0, 0, 0, 0, 0), .inl 0, [], none)),
  (17, (.ireturn, (18, 3, 0, 0, 0, 0), .inl 0, [], none))]
def z_Re_number : List (Nat × sk_E) := [
  (0, (.aload_n 0, (1, 0, 0, 0, 0, 0), .inl 0, [], none)),
  (1, (.invokevirtual 35, (4, 43, 1, 1, 1, 6), .inl 0, [], none)),
  (4, (.invokestatic 58, (7, 49, 1, 1, 1, 0), .inl 0, [], none)),
  (7, (.ifCond .ne 14, (10, 21, 0, 0, 0, 0), .inl 0, [], none)),
  (10, (.aload_n 0, (11, 0, 0, 0, 0, 0), .inl 0, [], none)),
  (11, (.aload_n 0, (12, 0, 0, 0, 0, 0), .inl 0, [], none)),
  (12, (.getfield 28, (15, 6, 2, 0, 0, 0), .inl 0, [], none)),
  (15, (.iconst 0, (16, 0, 0, 0, 0, 0), .inl 0, [], none)),
  (16, (.invokevirtual 62, (19, 41, 3, 0, 3, 6), .inl 0, [], none)),
  (19, (.iconst 0, (20, 0, 0, 0, 0, 0), .inl 0, [], none)),
  (20, (.ireturn, (21, 0, 0, 0, 0, 0), .inl 0, [], none)),
  (21, (.aload_n 0, (22, 0, 0, 0, 0, 0), .inl 0, [], none)),
  (22, (.getfield 28, (25, 6, 2, 0, 0, 0), .inl 0, [], none)),
  (25, (.istore_n 3, (26, 0, 0, 0, 0, 0), .inl 0, [], none)),
  (26, (.iconst 0, (27, 0, 0, 0, 0, 0), .inl 0, [], none)),
  (27, (.istore 4, (29, 0, 0, 0, 0, 0), .inl 0, [], none)),
  (29, (.aload_n 0, (30, 0, 0, 0, 0, 0), .inl 0, [], some [true, true, true, true, true])),
  (30, (.getfield 28, (33, 6, 2, 0, 0, 0), .inl 0, [], none)),
  (33, (.aload_n 0, (34, 0, 0, 0, 0, 0), .inl 0, [], none)),
  (34, (.getfield 25, (37, 6, 1, 0, 0, 0), .inl 0, [], none)),
  (37, (.if_icmp .ge 66, (40, 103, 0, 0, 0, 0), .inl 0, [], none)),
  (40, (.aload_n 0, (41, 0, 0, 0, 0, 0), .inl 0, [], none)),
  (41, (.getfield 15, (44, 6, 0, 2, 0, 0), .inl 0, [], none)),
  (44, (.aload_n 0, (45, 0, 0, 0, 0, 0), .inl 0, [], none)),
  (45, (.getfield 28, (48, 6, 2, 0, 0, 0), .inl 0, [], none)),
  (48, (.caload, (49, 0, 0, 0, 0, 0), .inl 0, [], none)),
  (49, (.invokestatic 58, (52, 49, 1, 1, 1, 0), .inl 0, [], none)),
  (52, (.ifCond .eq 51, (55, 103, 0, 0, 0, 0), .inl 0, [], none)),
  (55, (.aload_n 0, (56, 0, 0, 0, 0, 0), .inl 0, [], none)),
  (56, (.getfield 28, (59, 6, 2, 0, 0, 0), .inl 0, [], none)),
  (59, (.iload_n 3, (60, 0, 0, 0, 0, 0), .inl 0, [], none)),
  (60, (.isub, (61, 0, 0, 0, 0, 0), .inl 0, [], none)),
  (61, (.iconst 5, (62, 0, 0, 0, 0, 0), .inl 0, [], none)),
  (62, (.if_icmp .ge 24, (65, 86, 0, 0, 0, 0), .inl 0, [], none)),
  (65, (.iload 4, (67, 0, 0, 0, 0, 0), .inl 0, [], none)),
  (67, (.bipush 10, (69, 0, 0, 0, 0, 0), .inl 0, [], none)),
  (69, (.imul, (70, 0, 0, 0, 0, 0), .inl 0, [], none)),
  (70, (.aload_n 0, (71, 0, 0, 0, 0, 0), .inl 0, [], none)),
  (71, (.getfield 15, (74, 6, 0, 2, 0, 0), .inl 0, [], none)),
  (74, (.aload_n 0, (75, 0, 0, 0, 0, 0), .inl 0, [], none)),
  (75, (.getfield 28, (78, 6, 2, 0, 0, 0), .inl 0, [], none)),
  (78, (.caload, (79, 0, 0, 0, 0, 0), .inl 0, [], none)),
  (79, (.iadd, (80, 0, 0, 0, 0, 0), .inl 0, [], none)),
  (80, (.bipush 48, (82, 0, 0, 0, 0, 0), .inl 0, [], none)),
  (82, (.isub, (83, 0, 0, 0, 0, 0), .inl 0, [], none)),
  (83, (.goto 5, (86, 88, 0, 0, 0, 0), .inl 0, [], none)),
  (86, (.iload 4, (88, 0, 0, 0, 0, 0), .inl 0, [], none)),
  (88, (.istore 4, (90, 0, 0, 0, 0, 0), .inl 0, [], none)),
  (90, (.aload_n 0, (91, 0, 0, 0, 0, 0), .inl 0, [], none)),
  (91, (.dup, (92, 0, 0, 0, 0, 0), .inl 0, [], none)),
  (92, (.getfield 28, (95, 6, 2, 0, 0, 0), .inl 0, [], none)),
  (95, (.iconst 1, (96, 0, 0, 0, 0, 0), .inl 0, [], none)),
  (96, (.iadd, (97, 0, 0, 0, 0, 0), .inl 0, [], none)),
  (97, (.putfield 28, (100, 6, 2, 0, 0, 0), .inl 0, [], none)),
  (100, (.goto (-71), (103, 29, 0, 0, 0, 0), .inl 0, [], none)),
  (103, (.aload_n 0, (104, 0, 0, 0, 0, 0), .inl 0, [], none)),
  (104, (.getfield 28, (107, 6, 2, 0, 0, 0), .inl 0, [], none)),
  (107, (.iload_n 3, (108, 0, 0, 0, 0, 0), .inl 0, [], none)),
  (108, (.isub, (109, 0, 0, 0, 0, 0), .inl 0, [], none)),
  (109, (.iconst 5, (110, 0, 0, 0, 0, 0), .inl 0, [], none)),
  (110, (.if_icmp .gt 15, (113, 125, 0, 0, 0, 0), .inl 0, [], none)),
  (113, (.iload 4, (115, 0, 0, 0, 0, 0), .inl 0, [], none)),
  (115, (.iload_n 1, (116, 0, 0, 0, 0, 0), .inl 0, [], none)),
  (116, (.if_icmp .lt 9, (119, 125, 0, 0, 0, 0), .inl 0, [], none)),
  (119, (.iload 4, (121, 0, 0, 0, 0, 0), .inl 0, [], none)),
  (121, (.iload_n 2, (122, 0, 0, 0, 0, 0), .inl 0, [], none)),
  (122, (.if_icmp .le 9, (125, 131, 0, 0, 0, 0), .inl 0, [], none)),
  (125, (.aload_n 0, (126, 0, 0, 0, 0, 0), .inl 0, [], some [true, false, false, true, true])),
  (126, (.iload_n 3, (127, 0, 0, 0, 0, 0), .inl 0, [], none)),
  (127, (.iconst 1, (128, 0, 0, 0, 0, 0), .inl 0, [], none)),
  (128, (.invokevirtual 62, (131, 41, 3, 0, 3, 6), .inl 0, [], none)),
  (131, (.iload 4, (133, 0, 0, 0, 0, 0), .inl 0, [], none)),
  (133, (.ireturn, (134, 0, 0, 0, 0, 0), .inl 0, [], none))]
def z_Re_goesOn : List (Nat × sk_E) := [
  (0, (.aload_n 0, (1, 0, 0, 0, 0, 0), .inl 0, [], none)),
  (1, (.invokevirtual 31, (4, 40, 1, 1, 1, 6), .inl 0, [], none)),
  (4, (.ifCond .eq 11, (7, 15, 0, 0, 0, 0), .inl 0, [], none)),
  (7, (.aload_n 0, (8, 0, 0, 0, 0, 0), .inl 0, [], none)),
  (8, (.invokevirtual 35, (11, 43, 1, 1, 1, 6), .inl 0, [], none)),
  (11, (.iconst (-1), (12, 0, 0, 0, 0, 0), .inl 0, [], none)),
  (12, (.if_icmp .ne 5, (15, 17, 0, 0, 0, 0), .inl 0, [], none)),
  (15, (.iconst 0, (16, 0, 0, 0, 0, 0), .inl 0, [], none)),
  (16, (.ireturn, (17, 3, 0, 0, 0, 0), .inl 0, [], none)),
  (17, (.aload_n 0, (18, 0, 0, 0, 0, 0), .inl 0, [], none)),
  (18, (.bipush 59, (20, 0, 0, 0, 0, 0), .inl 0, [], none)),
  (20, (.invokevirtual 66, (23, 44, 2, 1, 2, 6), .inl 0, [], none)),
  (23, (.ifCond .eq 5, (26, 28, 0, 0, 0, 0), .inl 0, [], none)),
  (26, (.iconst 1, (27, 0, 0, 0, 0, 0), .inl 0, [], none)),
  (27, (.ireturn, (28, 3, 0, 0, 0, 0), .inl 0, [], none)),
  (28, (.aload_n 0, (29, 0, 0, 0, 0, 0), .inl 0, [], none)),
  (29, (.aload_n 0, (30, 0, 0, 0, 0, 0), .inl 0, [], none)),
  (30, (.getfield 28, (33, 6, 2, 0, 0, 0), .inl 0, [], none)),
  (33, (.iconst 0, (34, 0, 0, 0, 0, 0), .inl 0, [], none)),
  (34, (.invokevirtual 62, (37, 41, 3, 0, 3, 6), .inl 0, [], none)),
  (37, (.iconst 0, (38, 0, 0, 0, 0, 0), .inl 0, [], none)),
  (38, (.ireturn, (39, 3, 0, 0, 0, 0), .inl 0, [], none))]
def z_Ru_init : List (Nat × sk_E) := [
  (0, (.aload_n 0, (1, 0, 0, 0, 0, 0), .inl 0, [], none)),
  (1, (.invokespecial 3, (4, 0, 1, 0, 0, 0), .inl 0, [], none)),
  (4, (.aload_n 0, (5, 0, 0, 0, 0, 0), .inl 0, [], none)),
  (5, (.iconst 0, (6, 0, 0, 0, 0, 0), .inl 0, [], none)),
  (6, (.newarray .int, (8, 0, 0, 0, 0, 0), .inl 0, [], none)),
  (8, (.putfield 9, (11, 7, 0, 2, 0, 0), .inl 0, [], none)),
  (11, (.aload_n 0, (12, 0, 0, 0, 0, 0), .inl 0, [], none)),
  (12, (.bipush 12, (14, 0, 0, 0, 0, 0), .inl 0, [], none)),
  (14, (.newarray .int, (16, 0, 0, 0, 0, 0), .inl 0, [], none)),
  (16, (.putfield 15, (19, 7, 2, 2, 0, 0), .inl 0, [], none)),
  (19, (.aload_n 0, (20, 0, 0, 0, 0, 0), .inl 0, [], none)),
  (20, (.bipush 12, (22, 0, 0, 0, 0, 0), .inl 0, [], none)),
  (22, (.newarray .int, (24, 0, 0, 0, 0, 0), .inl 0, [], none)),
  (24, (.putfield 18, (27, 7, 3, 2, 0, 0), .inl 0, [], none)),
  (27, (.aload_n 0, (28, 0, 0, 0, 0, 0), .inl 0, [], none)),
  (28, (.bipush 12, (30, 0, 0, 0, 0, 0), .inl 0, [], none)),
  (30, (.newarray .int, (32, 0, 0, 0, 0, 0), .inl 0, [], none)),
  (32, (.putfield 21, (35, 7, 4, 2, 0, 0), .inl 0, [], none)),
  (35, (.aload_n 0, (36, 0, 0, 0, 0, 0), .inl 0, [], none)),
  (36, (.bipush 64, (38, 0, 0, 0, 0, 0), .inl 0, [], none)),
  (38, (.newarray .long, (40, 0, 0, 0, 0, 0), .inl 0, [], none)),
  (40, (.putfield 24, (43, 7, 5, 2, 0, 0), .inl 0, [], none)),
  (43, (.return_, (44, 0, 0, 0, 0, 0), .inl 0, [], none))]
def z_Ru_addClause : List (Nat × sk_E) := [
  (0, (.aload_n 0, (1, 0, 0, 0, 0, 0), .inl 0, [], none)),
  (1, (.getfield 28, (4, 7, 1, 0, 0, 0), .inl 0, [], none)),
  (4, (.bipush 12, (6, 0, 0, 0, 0, 0), .inl 0, [], none)),
  (6, (.if_icmp .ge 43, (9, 49, 0, 0, 0, 0), .inl 0, [], none)),
  (9, (.aload_n 0, (10, 0, 0, 0, 0, 0), .inl 0, [], none)),
  (10, (.getfield 15, (13, 7, 2, 2, 0, 0), .inl 0, [], none)),
  (13, (.aload_n 0, (14, 0, 0, 0, 0, 0), .inl 0, [], none)),
  (14, (.getfield 28, (17, 7, 1, 0, 0, 0), .inl 0, [], none)),
  (17, (.iload_n 1, (18, 0, 0, 0, 0, 0), .inl 0, [], none)),
  (18, (.iastore, (19, 0, 0, 0, 0, 0), .inl 0, [], none)),
  (19, (.aload_n 0, (20, 0, 0, 0, 0, 0), .inl 0, [], none)),
  (20, (.getfield 18, (23, 7, 3, 2, 0, 0), .inl 0, [], none)),
  (23, (.aload_n 0, (24, 0, 0, 0, 0, 0), .inl 0, [], none)),
  (24, (.getfield 28, (27, 7, 1, 0, 0, 0), .inl 0, [], none)),
  (27, (.iload_n 2, (28, 0, 0, 0, 0, 0), .inl 0, [], none)),
  (28, (.iastore, (29, 0, 0, 0, 0, 0), .inl 0, [], none)),
  (29, (.aload_n 0, (30, 0, 0, 0, 0, 0), .inl 0, [], none)),
  (30, (.getfield 21, (33, 7, 4, 2, 0, 0), .inl 0, [], none)),
  (33, (.aload_n 0, (34, 0, 0, 0, 0, 0), .inl 0, [], none)),
  (34, (.getfield 28, (37, 7, 1, 0, 0, 0), .inl 0, [], none)),
  (37, (.iload_n 3, (38, 0, 0, 0, 0, 0), .inl 0, [], none)),
  (38, (.iastore, (39, 0, 0, 0, 0, 0), .inl 0, [], none)),
  (39, (.aload_n 0, (40, 0, 0, 0, 0, 0), .inl 0, [], none)),
  (40, (.dup, (41, 0, 0, 0, 0, 0), .inl 0, [], none)),
  (41, (.getfield 28, (44, 7, 1, 0, 0, 0), .inl 0, [], none)),
  (44, (.iconst 1, (45, 0, 0, 0, 0, 0), .inl 0, [], none)),
  (45, (.iadd, (46, 0, 0, 0, 0, 0), .inl 0, [], none)),
  (46, (.putfield 28, (49, 7, 1, 0, 0, 0), .inl 0, [], none)),
  (49, (.return_, (50, 0, 0, 0, 0, 0), .inl 0, [], none))]
def z_Ru_settle : List (Nat × sk_E) := [
  (0, (.iconst 0, (1, 0, 0, 0, 0, 0), .inl 0, [], none)),
  (1, (.iload_n 2, (2, 0, 0, 0, 0, 0), .inl 0, [], none)),
  (2, (.aload_n 1, (3, 0, 0, 0, 0, 0), .inl 0, [], none)),
  (3, (.arraylength, (4, 0, 0, 0, 0, 0), .inl 0, [], none)),
  (4, (.invokestatic 32, (7, 242, 2, 1, 2, 0), .inl 0, [], none)),
  (7, (.invokestatic 38, (10, 241, 2, 1, 2, 0), .inl 0, [], none)),
  (10, (.istore_n 3, (11, 0, 0, 0, 0, 0), .inl 0, [], none)),
  (11, (.aload_n 0, (12, 0, 0, 0, 0, 0), .inl 0, [], none)),
  (12, (.iload_n 3, (13, 0, 0, 0, 0, 0), .inl 0, [], none)),
  (13, (.newarray .int, (15, 0, 0, 0, 0, 0), .inl 0, [], none)),
  (15, (.putfield 9, (18, 7, 0, 2, 0, 0), .inl 0, [], none)),
  (18, (.iconst 0, (19, 0, 0, 0, 0, 0), .inl 0, [], none)),
  (19, (.istore 4, (21, 0, 0, 0, 0, 0), .inl 0, [], none)),
  (21, (.iload 4, (23, 0, 0, 0, 0, 0), .inl 0, [], some [true, true, false, true, true])),
  (23, (.iload_n 3, (24, 0, 0, 0, 0, 0), .inl 0, [], none)),
  (24, (.if_icmp .ge 51, (27, 75, 0, 0, 0, 0), .inl 0, [], none)),
  (27, (.aload_n 0, (28, 0, 0, 0, 0, 0), .inl 0, [], none)),
  (28, (.getfield 9, (31, 7, 0, 2, 0, 0), .inl 0, [], none)),
  (31, (.iload 4, (33, 0, 0, 0, 0, 0), .inl 0, [], none)),
  (33, (.aload_n 1, (34, 0, 0, 0, 0, 0), .inl 0, [], none)),
  (34, (.iload 4, (36, 0, 0, 0, 0, 0), .inl 0, [], none)),
  (36, (.iaload, (37, 0, 0, 0, 0, 0), .inl 0, [], none)),
  (37, (.iastore, (38, 0, 0, 0, 0, 0), .inl 0, [], none)),
  (38, (.aload_n 0, (39, 0, 0, 0, 0, 0), .inl 0, [], none)),
  (39, (.dup, (40, 0, 0, 0, 0, 0), .inl 0, [], none)),
  (40, (.getfield 41, (43, 7, 6, 0, 0, 0), .inl 0, [], none)),
  (43, (.aload_n 1, (44, 0, 0, 0, 0, 0), .inl 0, [], none)),
  (44, (.iload 4, (46, 0, 0, 0, 0, 0), .inl 0, [], none)),
  (46, (.iaload, (47, 0, 0, 0, 0, 0), .inl 0, [], none)),
  (47, (.ldc 44, (49, 0, 0, 0, 0, 0), .inl (100000), [], none)),
  (49, (.if_icmp .lt 15, (52, 64, 0, 0, 0, 0), .inl 0, [], none)),
  (52, (.iconst 1, (53, 0, 0, 0, 0, 0), .inl 0, [], none)),
  (53, (.aload_n 1, (54, 0, 0, 0, 0, 0), .inl 0, [], none)),
  (54, (.iload 4, (56, 0, 0, 0, 0, 0), .inl 0, [], none)),
  (56, (.iaload, (57, 0, 0, 0, 0, 0), .inl 0, [], none)),
  (57, (.ldc 44, (59, 0, 0, 0, 0, 0), .inl (100000), [], none)),
  (59, (.isub, (60, 0, 0, 0, 0, 0), .inl 0, [], none)),
  (60, (.ishl, (61, 0, 0, 0, 0, 0), .inl 0, [], none)),
  (61, (.goto 4, (64, 65, 0, 0, 0, 0), .inl 0, [], none)),
  (64, (.iconst 0, (65, 0, 0, 0, 0, 0), .inl 0, [], none)),
  (65, (.ior, (66, 0, 0, 0, 0, 0), .inl 0, [], none)),
  (66, (.putfield 41, (69, 7, 6, 0, 0, 0), .inl 0, [], none)),
  (69, (.iinc 4 1, (72, 0, 0, 0, 0, 0), .inl 0, [], none)),
  (72, (.goto (-51), (75, 21, 0, 0, 0, 0), .inl 0, [], none)),
  (75, (.return_, (76, 0, 0, 0, 0, 0), .inl 0, [], none))]
def z_Ru_valueOf : List (Nat × sk_E) := [
  (0, (.iconst 0, (1, 0, 0, 0, 0, 0), .inl 0, [], none)),
  (1, (.istore_n 2, (2, 0, 0, 0, 0, 0), .inl 0, [], none)),
  (2, (.iload_n 2, (3, 0, 0, 0, 0, 0), .inl 0, [], some [true, true, true, false])),
  (3, (.aload_n 0, (4, 0, 0, 0, 0, 0), .inl 0, [], none)),
  (4, (.getfield 28, (7, 7, 1, 0, 0, 0), .inl 0, [], none)),
  (7, (.if_icmp .ge 74, (10, 81, 0, 0, 0, 0), .inl 0, [], none)),
  (10, (.aload_n 0, (11, 0, 0, 0, 0, 0), .inl 0, [], none)),
  (11, (.getfield 18, (14, 7, 3, 2, 0, 0), .inl 0, [], none)),
  (14, (.iload_n 2, (15, 0, 0, 0, 0, 0), .inl 0, [], none)),
  (15, (.iaload, (16, 0, 0, 0, 0, 0), .inl 0, [], none)),
  (16, (.aload_n 0, (17, 0, 0, 0, 0, 0), .inl 0, [], none)),
  (17, (.getfield 21, (20, 7, 4, 2, 0, 0), .inl 0, [], none)),
  (20, (.iload_n 2, (21, 0, 0, 0, 0, 0), .inl 0, [], none)),
  (21, (.iaload, (22, 0, 0, 0, 0, 0), .inl 0, [], none)),
  (22, (.if_icmp .eq 25, (25, 47, 0, 0, 0, 0), .inl 0, [], none)),
  (25, (.aload_n 0, (26, 0, 0, 0, 0, 0), .inl 0, [], none)),
  (26, (.aload_n 0, (27, 0, 0, 0, 0, 0), .inl 0, [], none)),
  (27, (.getfield 18, (30, 7, 3, 2, 0, 0), .inl 0, [], none)),
  (30, (.iload_n 2, (31, 0, 0, 0, 0, 0), .inl 0, [], none)),
  (31, (.iaload, (32, 0, 0, 0, 0, 0), .inl 0, [], none)),
  (32, (.aload_n 0, (33, 0, 0, 0, 0, 0), .inl 0, [], none)),
  (33, (.getfield 21, (36, 7, 4, 2, 0, 0), .inl 0, [], none)),
  (36, (.iload_n 2, (37, 0, 0, 0, 0, 0), .inl 0, [], none)),
  (37, (.iaload, (38, 0, 0, 0, 0, 0), .inl 0, [], none)),
  (38, (.aload_n 1, (39, 0, 0, 0, 0, 0), .inl 0, [], none)),
  (39, (.invokevirtual 45, (42, 56, 4, 2, 7, 7), .inl 0, [], none)),
  (42, (.lconst 0, (43, 0, 0, 0, 0, 0), .inl 0, [], none)),
  (43, (.lcmp, (44, 0, 0, 0, 0, 0), .inl 0, [], none)),
  (44, (.ifCond .eq 7, (47, 51, 0, 0, 0, 0), .inl 0, [], none)),
  (47, (.iconst 1, (48, 0, 0, 0, 0, 0), .inl 0, [], none)),
  (48, (.goto 4, (51, 52, 0, 0, 0, 0), .inl 0, [], none)),
  (51, (.iconst 0, (52, 0, 0, 0, 0, 0), .inl 0, [], none)),
  (52, (.istore_n 3, (53, 0, 0, 0, 0, 0), .inl 0, [], some [true, true, true, false])),
  (53, (.iload_n 3, (54, 0, 0, 0, 0, 0), .inl 0, [], none)),
  (54, (.ifCond .eq 21, (57, 75, 0, 0, 0, 0), .inl 0, [], none)),
  (57, (.aload_n 0, (58, 0, 0, 0, 0, 0), .inl 0, [], none)),
  (58, (.aload_n 0, (59, 0, 0, 0, 0, 0), .inl 0, [], none)),
  (59, (.getfield 15, (62, 7, 2, 2, 0, 0), .inl 0, [], none)),
  (62, (.iload_n 2, (63, 0, 0, 0, 0, 0), .inl 0, [], none)),
  (63, (.iaload, (64, 0, 0, 0, 0, 0), .inl 0, [], none)),
  (64, (.aload_n 0, (65, 0, 0, 0, 0, 0), .inl 0, [], none)),
  (65, (.getfield 18, (68, 7, 3, 2, 0, 0), .inl 0, [], none)),
  (68, (.iload_n 2, (69, 0, 0, 0, 0, 0), .inl 0, [], none)),
  (69, (.iaload, (70, 0, 0, 0, 0, 0), .inl 0, [], none)),
  (70, (.aload_n 1, (71, 0, 0, 0, 0, 0), .inl 0, [], none)),
  (71, (.invokevirtual 45, (74, 56, 4, 2, 7, 7), .inl 0, [], none)),
  (74, (.lreturn, (75, 0, 0, 0, 0, 0), .inl 0, [], none)),
  (75, (.iinc 2 1, (78, 0, 0, 0, 0, 0), .inl 0, [], none)),
  (78, (.goto (-76), (81, 2, 0, 0, 0, 0), .inl 0, [], none)),
  (81, (.lconst 0, (82, 0, 0, 0, 0, 0), .inl 0, [], none)),
  (82, (.lreturn, (83, 0, 0, 0, 0, 0), .inl 0, [], none))]
def z_Ru_reckon : List (Nat × sk_E) := [
  (0, (.iconst 0, (1, 0, 0, 0, 0, 0), .inl 0, [], none)),
  (1, (.istore 4, (3, 0, 0, 0, 0, 0), .inl 0, [], none)),
  (3, (.iload_n 1, (4, 0, 0, 0, 0, 0), .inl 0, [], none)),
  (4, (.istore 5, (6, 0, 0, 0, 0, 0), .inl 0, [], none)),
  (6, (.iload 5, (8, 0, 0, 0, 0, 0), .inl 0, [], some [true, false, true, true, true, true, false])),
  (8, (.iload_n 2, (9, 0, 0, 0, 0, 0), .inl 0, [], none)),
  (9, (.if_icmp .ge 153, (12, 162, 0, 0, 0, 0), .inl 0, [], none)),
  (12, (.iload 5, (14, 0, 0, 0, 0, 0), .inl 0, [], none)),
  (14, (.aload_n 0, (15, 0, 0, 0, 0, 0), .inl 0, [], none)),
  (15, (.getfield 9, (18, 7, 0, 2, 0, 0), .inl 0, [], none)),
  (18, (.arraylength, (19, 0, 0, 0, 0, 0), .inl 0, [], none)),
  (19, (.if_icmp .ge 143, (22, 162, 0, 0, 0, 0), .inl 0, [], none)),
  (22, (.aload_n 0, (23, 0, 0, 0, 0, 0), .inl 0, [], none)),
  (23, (.getfield 9, (26, 7, 0, 2, 0, 0), .inl 0, [], none)),
  (26, (.iload 5, (28, 0, 0, 0, 0, 0), .inl 0, [], none)),
  (28, (.iaload, (29, 0, 0, 0, 0, 0), .inl 0, [], none)),
  (29, (.istore 6, (31, 0, 0, 0, 0, 0), .inl 0, [], none)),
  (31, (.iload 6, (33, 0, 0, 0, 0, 0), .inl 0, [], none)),
  (33, (.ifCond .lt 48, (36, 81, 0, 0, 0, 0), .inl 0, [], none)),
  (36, (.iload 4, (38, 0, 0, 0, 0, 0), .inl 0, [], none)),
  (38, (.aload_n 0, (39, 0, 0, 0, 0, 0), .inl 0, [], none)),
  (39, (.getfield 24, (42, 7, 5, 2, 0, 0), .inl 0, [], none)),
  (42, (.arraylength, (43, 0, 0, 0, 0, 0), .inl 0, [], none)),
  (43, (.if_icmp .ge 38, (46, 81, 0, 0, 0, 0), .inl 0, [], none)),
  (46, (.aload_n 0, (47, 0, 0, 0, 0, 0), .inl 0, [], none)),
  (47, (.getfield 24, (50, 7, 5, 2, 0, 0), .inl 0, [], none)),
  (50, (.iload 4, (52, 0, 0, 0, 0, 0), .inl 0, [], none)),
  (52, (.iload 6, (54, 0, 0, 0, 0, 0), .inl 0, [], none)),
  (54, (.ldc 44, (56, 0, 0, 0, 0, 0), .inl (100000), [], none)),
  (56, (.if_icmp .ge 9, (59, 65, 0, 0, 0, 0), .inl 0, [], none)),
  (59, (.iload 6, (61, 0, 0, 0, 0, 0), .inl 0, [], none)),
  (61, (.i2l, (62, 0, 0, 0, 0, 0), .inl 0, [], none)),
  (62, (.goto 12, (65, 74, 0, 0, 0, 0), .inl 0, [], none)),
  (65, (.aload_n 3, (66, 0, 0, 0, 0, 0), .inl 0, [], none)),
  (66, (.iload 6, (68, 0, 0, 0, 0, 0), .inl 0, [], none)),
  (68, (.ldc 44, (70, 0, 0, 0, 0, 0), .inl (100000), [], none)),
  (70, (.isub, (71, 0, 0, 0, 0, 0), .inl 0, [], none)),
  (71, (.invokevirtual 49, (74, 36, 2, 2, 2, 5), .inl 0, [], none)),
  (74, (.lastore, (75, 0, 0, 0, 0, 0), .inl 0, [], none)),
  (75, (.iinc 4 1, (78, 0, 0, 0, 0, 0), .inl 0, [], none)),
  (78, (.goto 78, (81, 156, 0, 0, 0, 0), .inl 0, [], none)),
  (81, (.iload 6, (83, 0, 0, 0, 0, 0), .inl 0, [], some [true, false, true, true, true, true, true])),
  (83, (.bipush (-11), (85, 0, 0, 0, 0, 0), .inl 0, [], none)),
  (85, (.if_icmp .ne 32, (88, 117, 0, 0, 0, 0), .inl 0, [], none)),
  (88, (.iload 4, (90, 0, 0, 0, 0, 0), .inl 0, [], none)),
  (90, (.iconst 1, (91, 0, 0, 0, 0, 0), .inl 0, [], none)),
  (91, (.if_icmp .lt 26, (94, 117, 0, 0, 0, 0), .inl 0, [], none)),
  (94, (.aload_n 0, (95, 0, 0, 0, 0, 0), .inl 0, [], none)),
  (95, (.getfield 24, (98, 7, 5, 2, 0, 0), .inl 0, [], none)),
  (98, (.iload 4, (100, 0, 0, 0, 0, 0), .inl 0, [], none)),
  (100, (.iconst 1, (101, 0, 0, 0, 0, 0), .inl 0, [], none)),
  (101, (.isub, (102, 0, 0, 0, 0, 0), .inl 0, [], none)),
  (102, (.lconst 1, (103, 0, 0, 0, 0, 0), .inl 0, [], none)),
  (103, (.aload_n 0, (104, 0, 0, 0, 0, 0), .inl 0, [], none)),
  (104, (.getfield 24, (107, 7, 5, 2, 0, 0), .inl 0, [], none)),
  (107, (.iload 4, (109, 0, 0, 0, 0, 0), .inl 0, [], none)),
  (109, (.iconst 1, (110, 0, 0, 0, 0, 0), .inl 0, [], none)),
  (110, (.isub, (111, 0, 0, 0, 0, 0), .inl 0, [], none)),
  (111, (.laload, (112, 0, 0, 0, 0, 0), .inl 0, [], none)),
  (112, (.lsub, (113, 0, 0, 0, 0, 0), .inl 0, [], none)),
  (113, (.lastore, (114, 0, 0, 0, 0, 0), .inl 0, [], none)),
  (114, (.goto 42, (117, 156, 0, 0, 0, 0), .inl 0, [], none)),
  (117, (.iload 4, (119, 0, 0, 0, 0, 0), .inl 0, [], some [true, false, true, true, true, true, true])),
  (119, (.iconst 2, (120, 0, 0, 0, 0, 0), .inl 0, [], none)),
  (120, (.if_icmp .lt 36, (123, 156, 0, 0, 0, 0), .inl 0, [], none)),
  (123, (.iinc 4 (-1), (126, 0, 0, 0, 0, 0), .inl 0, [], none)),
  (126, (.aload_n 0, (127, 0, 0, 0, 0, 0), .inl 0, [], none)),
  (127, (.getfield 24, (130, 7, 5, 2, 0, 0), .inl 0, [], none)),
  (130, (.iload 4, (132, 0, 0, 0, 0, 0), .inl 0, [], none)),
  (132, (.iconst 1, (133, 0, 0, 0, 0, 0), .inl 0, [], none)),
  (133, (.isub, (134, 0, 0, 0, 0, 0), .inl 0, [], none)),
  (134, (.iload 6, (136, 0, 0, 0, 0, 0), .inl 0, [], none)),
  (136, (.aload_n 0, (137, 0, 0, 0, 0, 0), .inl 0, [], none)),
  (137, (.getfield 24, (140, 7, 5, 2, 0, 0), .inl 0, [], none)),
  (140, (.iload 4, (142, 0, 0, 0, 0, 0), .inl 0, [], none)),
  (142, (.iconst 1, (143, 0, 0, 0, 0, 0), .inl 0, [], none)),
  (143, (.isub, (144, 0, 0, 0, 0, 0), .inl 0, [], none)),
  (144, (.laload, (145, 0, 0, 0, 0, 0), .inl 0, [], none)),
  (145, (.aload_n 0, (146, 0, 0, 0, 0, 0), .inl 0, [], none)),
  (146, (.getfield 24, (149, 7, 5, 2, 0, 0), .inl 0, [], none)),
  (149, (.iload 4, (151, 0, 0, 0, 0, 0), .inl 0, [], none)),
  (151, (.laload, (152, 0, 0, 0, 0, 0), .inl 0, [], none)),
  (152, (.invokestatic 55, (155, 57, 3, 2, 5, 0), .inl 0, [], none)),
  (155, (.lastore, (156, 0, 0, 0, 0, 0), .inl 0, [], none)),
  (156, (.iinc 5 1, (159, 0, 0, 0, 0, 0), .inl 0, [], none)),
  (159, (.goto (-153), (162, 6, 0, 0, 0, 0), .inl 0, [], none)),
  (162, (.aload_n 0, (163, 0, 0, 0, 0, 0), .inl 0, [], none)),
  (163, (.getfield 24, (166, 7, 5, 2, 0, 0), .inl 0, [], none)),
  (166, (.iconst 0, (167, 0, 0, 0, 0, 0), .inl 0, [], none)),
  (167, (.laload, (168, 0, 0, 0, 0, 0), .inl 0, [], none)),
  (168, (.lreturn, (169, 0, 0, 0, 0, 0), .inl 0, [], none))]
def z_Ru_join : List (Nat × sk_E) := [
  (0, (.iload_n 0, (1, 0, 0, 0, 0, 0), .inl 0, [], none)),
  (1, (.tableswitch 167 (-12) (-1) #[163, 167, 151, 139, 127, 115, 103, 89, 75, 71, 67, 63], (64, 168, 0, 0, 0, 0), .inl 0, [((-12), 164), ((-11), 168), ((-10), 152), ((-9), 140), ((-8), 128), ((-7), 116), ((-6), 104), ((-5), 90), ((-4), 76), ((-3), 72), ((-2), 68), ((-1), 64)], none)),
  (64, (.lload_n 1, (65, 0, 0, 0, 0, 0), .inl 0, [], none)),
  (65, (.lload_n 3, (66, 0, 0, 0, 0, 0), .inl 0, [], none)),
  (66, (.ladd, (67, 0, 0, 0, 0, 0), .inl 0, [], none)),
  (67, (.lreturn, (68, 0, 0, 0, 0, 0), .inl 0, [], none)),
  (68, (.lload_n 1, (69, 0, 0, 0, 0, 0), .inl 0, [], none)),
  (69, (.lload_n 3, (70, 0, 0, 0, 0, 0), .inl 0, [], none)),
  (70, (.lsub, (71, 0, 0, 0, 0, 0), .inl 0, [], none)),
  (71, (.lreturn, (72, 0, 0, 0, 0, 0), .inl 0, [], none)),
  (72, (.lload_n 1, (73, 0, 0, 0, 0, 0), .inl 0, [], none)),
  (73, (.lload_n 3, (74, 0, 0, 0, 0, 0), .inl 0, [], none)),
  (74, (.lmul, (75, 0, 0, 0, 0, 0), .inl 0, [], none)),
  (75, (.lreturn, (76, 0, 0, 0, 0, 0), .inl 0, [], none)),
  (76, (.lload_n 3, (77, 0, 0, 0, 0, 0), .inl 0, [], none)),
  (77, (.lconst 0, (78, 0, 0, 0, 0, 0), .inl 0, [], none)),
  (78, (.lcmp, (79, 0, 0, 0, 0, 0), .inl 0, [], none)),
  (79, (.ifCond .ne 7, (82, 86, 0, 0, 0, 0), .inl 0, [], none)),
  (82, (.lconst 0, (83, 0, 0, 0, 0, 0), .inl 0, [], none)),
  (83, (.goto 6, (86, 89, 0, 0, 0, 0), .inl 0, [], none)),
  (86, (.lload_n 1, (87, 0, 0, 0, 0, 0), .inl 0, [], none)),
  (87, (.lload_n 3, (88, 0, 0, 0, 0, 0), .inl 0, [], none)),
  (88, (.ldiv, (89, 0, 0, 0, 0, 0), .inl 0, [], none)),
  (89, (.lreturn, (90, 0, 0, 0, 0, 0), .inl 0, [], none)),
  (90, (.lload_n 3, (91, 0, 0, 0, 0, 0), .inl 0, [], none)),
  (91, (.lconst 0, (92, 0, 0, 0, 0, 0), .inl 0, [], none)),
  (92, (.lcmp, (93, 0, 0, 0, 0, 0), .inl 0, [], none)),
  (93, (.ifCond .ne 7, (96, 100, 0, 0, 0, 0), .inl 0, [], none)),
  (96, (.lconst 0, (97, 0, 0, 0, 0, 0), .inl 0, [], none)),
  (97, (.goto 6, (100, 103, 0, 0, 0, 0), .inl 0, [], none)),
  (100, (.lload_n 1, (101, 0, 0, 0, 0, 0), .inl 0, [], none)),
  (101, (.lload_n 3, (102, 0, 0, 0, 0, 0), .inl 0, [], none)),
  (102, (.lrem, (103, 0, 0, 0, 0, 0), .inl 0, [], none)),
  (103, (.lreturn, (104, 0, 0, 0, 0, 0), .inl 0, [], none)),
  (104, (.lload_n 1, (105, 0, 0, 0, 0, 0), .inl 0, [], none)),
  (105, (.lload_n 3, (106, 0, 0, 0, 0, 0), .inl 0, [], none)),
  (106, (.lcmp, (107, 0, 0, 0, 0, 0), .inl 0, [], none)),
  (107, (.ifCond .ge 7, (110, 114, 0, 0, 0, 0), .inl 0, [], none)),
  (110, (.lconst 1, (111, 0, 0, 0, 0, 0), .inl 0, [], none)),
  (111, (.goto 4, (114, 115, 0, 0, 0, 0), .inl 0, [], none)),
  (114, (.lconst 0, (115, 0, 0, 0, 0, 0), .inl 0, [], none)),
  (115, (.lreturn, (116, 0, 0, 0, 0, 0), .inl 0, [], none)),
  (116, (.lload_n 1, (117, 0, 0, 0, 0, 0), .inl 0, [], none)),
  (117, (.lload_n 3, (118, 0, 0, 0, 0, 0), .inl 0, [], none)),
  (118, (.lcmp, (119, 0, 0, 0, 0, 0), .inl 0, [], none)),
  (119, (.ifCond .gt 7, (122, 126, 0, 0, 0, 0), .inl 0, [], none)),
  (122, (.lconst 1, (123, 0, 0, 0, 0, 0), .inl 0, [], none)),
  (123, (.goto 4, (126, 127, 0, 0, 0, 0), .inl 0, [], none)),
  (126, (.lconst 0, (127, 0, 0, 0, 0, 0), .inl 0, [], none)),
  (127, (.lreturn, (128, 0, 0, 0, 0, 0), .inl 0, [], none)),
  (128, (.lload_n 1, (129, 0, 0, 0, 0, 0), .inl 0, [], none)),
  (129, (.lload_n 3, (130, 0, 0, 0, 0, 0), .inl 0, [], none)),
  (130, (.lcmp, (131, 0, 0, 0, 0, 0), .inl 0, [], none)),
  (131, (.ifCond .ne 7, (134, 138, 0, 0, 0, 0), .inl 0, [], none)),
  (134, (.lconst 1, (135, 0, 0, 0, 0, 0), .inl 0, [], none)),
  (135, (.goto 4, (138, 139, 0, 0, 0, 0), .inl 0, [], none)),
  (138, (.lconst 0, (139, 0, 0, 0, 0, 0), .inl 0, [], none)),
  (139, (.lreturn, (140, 0, 0, 0, 0, 0), .inl 0, [], none)),
  (140, (.lload_n 1, (141, 0, 0, 0, 0, 0), .inl 0, [], none)),
  (141, (.lload_n 3, (142, 0, 0, 0, 0, 0), .inl 0, [], none)),
  (142, (.lcmp, (143, 0, 0, 0, 0, 0), .inl 0, [], none)),
  (143, (.ifCond .lt 7, (146, 150, 0, 0, 0, 0), .inl 0, [], none)),
  (146, (.lconst 1, (147, 0, 0, 0, 0, 0), .inl 0, [], none)),
  (147, (.goto 4, (150, 151, 0, 0, 0, 0), .inl 0, [], none)),
  (150, (.lconst 0, (151, 0, 0, 0, 0, 0), .inl 0, [], none)),
  (151, (.lreturn, (152, 0, 0, 0, 0, 0), .inl 0, [], none)),
  (152, (.lload_n 1, (153, 0, 0, 0, 0, 0), .inl 0, [], none)),
  (153, (.lload_n 3, (154, 0, 0, 0, 0, 0), .inl 0, [], none)),
  (154, (.lcmp, (155, 0, 0, 0, 0, 0), .inl 0, [], none)),
  (155, (.ifCond .le 7, (158, 162, 0, 0, 0, 0), .inl 0, [], none)),
  (158, (.lconst 1, (159, 0, 0, 0, 0, 0), .inl 0, [], none)),
  (159, (.goto 4, (162, 163, 0, 0, 0, 0), .inl 0, [], none)),
  (162, (.lconst 0, (163, 0, 0, 0, 0, 0), .inl 0, [], none)),
  (163, (.lreturn, (164, 0, 0, 0, 0, 0), .inl 0, [], none)),
  (164, (.lload_n 1, (165, 0, 0, 0, 0, 0), .inl 0, [], none)),
  (165, (.lload_n 3, (166, 0, 0, 0, 0, 0), .inl 0, [], none)),
  (166, (.land, (167, 0, 0, 0, 0, 0), .inl 0, [], none)),
  (167, (.lreturn, (168, 0, 0, 0, 0, 0), .inl 0, [], none)),
  (168, (.lload_n 1, (169, 0, 0, 0, 0, 0), .inl 0, [], none)),
  (169, (.lload_n 3, (170, 0, 0, 0, 0, 0), .inl 0, [], none)),
  (170, (.lor, (171, 0, 0, 0, 0, 0), .inl 0, [], none)),
  (171, (.lreturn, (172, 0, 0, 0, 0, 0), .inl 0, [], none))]
def z_RR_init : List (Nat × sk_E) := [
  (0, (.aload_n 0, (1, 0, 0, 0, 0, 0), .inl 0, [], none)),
  (1, (.invokespecial 3, (4, 0, 1, 0, 0, 0), .inl 0, [], none)),
  (4, (.aload_n 0, (5, 0, 0, 0, 0, 0), .inl 0, [], none)),
  (5, (.sipush 400, (8, 0, 0, 0, 0, 0), .inl 0, [], none)),
  (8, (.newarray .int, (10, 0, 0, 0, 0, 0), .inl 0, [], none)),
  (10, (.putfield 9, (13, 8, 1, 2, 0, 0), .inl 0, [], none)),
  (13, (.aload_n 0, (14, 0, 0, 0, 0, 0), .inl 0, [], none)),
  (14, (.aload_n 1, (15, 0, 0, 0, 0, 0), .inl 0, [], none)),
  (15, (.putfield 15, (18, 8, 0, 2, 0, 0), .inl 0, [], none)),
  (18, (.return_, (19, 0, 0, 0, 0, 0), .inl 0, [], none))]
def z_RR_read : List (Nat × sk_E) := [
  (0, (.new 19, (3, 7, 7, 0, 0, 0), .inl 0, [], none)),
  (3, (.dup, (4, 0, 0, 0, 0, 0), .inl 0, [], none)),
  (4, (.invokespecial 21, (7, 52, 1, 0, 1, 0), .inl 0, [], none)),
  (7, (.astore_n 1, (8, 0, 0, 0, 0, 0), .inl 0, [], none)),
  (8, (.iconst 0, (9, 0, 0, 0, 0, 0), .inl 0, [], none)),
  (9, (.istore_n 2, (10, 0, 0, 0, 0, 0), .inl 0, [], none)),
  (10, (.aload_n 0, (11, 0, 0, 0, 0, 0), .inl 0, [], some [true, true, true])),
  (11, (.iload_n 2, (12, 0, 0, 0, 0, 0), .inl 0, [], none)),
  (12, (.aload_n 1, (13, 0, 0, 0, 0, 0), .inl 0, [], none)),
  (13, (.invokevirtual 22, (16, 60, 3, 0, 5, 8), .inl 0, [], none)),
  (16, (.iinc 2 1, (19, 0, 0, 0, 0, 0), .inl 0, [], none)),
  (19, (.iload_n 2, (20, 0, 0, 0, 0, 0), .inl 0, [], none)),
  (20, (.bipush 12, (22, 0, 0, 0, 0, 0), .inl 0, [], none)),
  (22, (.if_icmp .gt 13, (25, 35, 0, 0, 0, 0), .inl 0, [], none)),
  (25, (.aload_n 0, (26, 0, 0, 0, 0, 0), .inl 0, [], none)),
  (26, (.getfield 15, (29, 8, 0, 2, 0, 0), .inl 0, [], none)),
  (29, (.invokevirtual 26, (32, 51, 1, 1, 1, 6), .inl 0, [], none)),
  (32, (.ifCond .ne (-22), (35, 10, 0, 0, 0, 0), .inl 0, [], none)),
  (35, (.aload_n 0, (36, 0, 0, 0, 0, 0), .inl 0, [], some [true, true, false])),
  (36, (.getfield 15, (39, 8, 0, 2, 0, 0), .inl 0, [], none)),
  (39, (.invokevirtual 32, (42, 40, 1, 1, 1, 6), .inl 0, [], none)),
  (42, (.ifCond .eq 15, (45, 57, 0, 0, 0, 0), .inl 0, [], none)),
  (45, (.aload_n 1, (46, 0, 0, 0, 0, 0), .inl 0, [], none)),
  (46, (.aload_n 0, (47, 0, 0, 0, 0, 0), .inl 0, [], none)),
  (47, (.getfield 9, (50, 8, 1, 2, 0, 0), .inl 0, [], none)),
  (50, (.aload_n 0, (51, 0, 0, 0, 0, 0), .inl 0, [], none)),
  (51, (.getfield 35, (54, 8, 2, 0, 0, 0), .inl 0, [], none)),
  (54, (.invokevirtual 39, (57, 54, 3, 0, 5, 7), .inl 0, [], none)),
  (57, (.aload_n 1, (58, 0, 0, 0, 0, 0), .inl 0, [], none)),
  (58, (.areturn, (59, 0, 0, 0, 0, 0), .inl 0, [], none))]
def z_RR_readClause : List (Nat × sk_E) := [
  (0, (.aload_n 0, (1, 0, 0, 0, 0, 0), .inl 0, [], none)),
  (1, (.getfield 15, (4, 8, 0, 2, 0, 0), .inl 0, [], none)),
  (4, (.ldc 43, (6, 0, 0, 0, 0, 0), .inr (.inr (some 3)), [], none)),
  (6, (.invokevirtual 45, (9, 45, 2, 1, 5, 6), .inl 0, [], none)),
  (9, (.iconst (-1), (10, 0, 0, 0, 0, 0), .inl 0, [], none)),
  (10, (.if_icmp .ne 19, (13, 29, 0, 0, 0, 0), .inl 0, [], none)),
  (13, (.aload_n 0, (14, 0, 0, 0, 0, 0), .inl 0, [], none)),
  (14, (.getfield 15, (17, 8, 0, 2, 0, 0), .inl 0, [], none)),
  (17, (.aload_n 0, (18, 0, 0, 0, 0, 0), .inl 0, [], none)),
  (18, (.getfield 15, (21, 8, 0, 2, 0, 0), .inl 0, [], none)),
  (21, (.getfield 49, (24, 6, 2, 0, 0, 0), .inl 0, [], none)),
  (24, (.iconst 0, (25, 0, 0, 0, 0, 0), .inl 0, [], none)),
  (25, (.invokevirtual 52, (28, 41, 3, 0, 3, 6), .inl 0, [], none)),
  (28, (.return_, (29, 0, 0, 0, 0, 0), .inl 0, [], none)),
  (29, (.iload_n 1, (30, 0, 0, 0, 0, 0), .inl 0, [], none)),
  (30, (.bipush 12, (32, 0, 0, 0, 0, 0), .inl 0, [], none)),
  (32, (.if_icmp .lt 19, (35, 51, 0, 0, 0, 0), .inl 0, [], none)),
  (35, (.aload_n 0, (36, 0, 0, 0, 0, 0), .inl 0, [], none)),
  (36, (.getfield 15, (39, 8, 0, 2, 0, 0), .inl 0, [], none)),
  (39, (.aload_n 0, (40, 0, 0, 0, 0, 0), .inl 0, [], none)),
  (40, (.getfield 15, (43, 8, 0, 2, 0, 0), .inl 0, [], none)),
  (43, (.getfield 49, (46, 6, 2, 0, 0, 0), .inl 0, [], none)),
  (46, (.iconst 4, (47, 0, 0, 0, 0, 0), .inl 0, [], none)),
  (47, (.invokevirtual 52, (50, 41, 3, 0, 3, 6), .inl 0, [], none)),
  (50, (.return_, (51, 0, 0, 0, 0, 0), .inl 0, [], none)),
  (51, (.aload_n 0, (52, 0, 0, 0, 0, 0), .inl 0, [], none)),
  (52, (.getfield 15, (55, 8, 0, 2, 0, 0), .inl 0, [], none)),
  (55, (.invokevirtual 56, (58, 47, 1, 0, 1, 6), .inl 0, [], none)),
  (58, (.aload_n 0, (59, 0, 0, 0, 0, 0), .inl 0, [], none)),
  (59, (.getfield 35, (62, 8, 2, 0, 0, 0), .inl 0, [], none)),
  (62, (.istore_n 3, (63, 0, 0, 0, 0, 0), .inl 0, [], none)),
  (63, (.aload_n 0, (64, 0, 0, 0, 0, 0), .inl 0, [], none)),
  (64, (.invokevirtual 59, (67, 66, 1, 0, 4, 8), .inl 0, [], none)),
  (67, (.aload_n 0, (68, 0, 0, 0, 0, 0), .inl 0, [], none)),
  (68, (.getfield 35, (71, 8, 2, 0, 0, 0), .inl 0, [], none)),
  (71, (.istore 4, (73, 0, 0, 0, 0, 0), .inl 0, [], none)),
  (73, (.aload_n 0, (74, 0, 0, 0, 0, 0), .inl 0, [], none)),
  (74, (.getfield 15, (77, 8, 0, 2, 0, 0), .inl 0, [], none)),
  (77, (.ldc 62, (79, 0, 0, 0, 0, 0), .inr (.inr (some 5)), [], none)),
  (79, (.invokevirtual 64, (82, 48, 2, 1, 2, 6), .inl 0, [], none)),
  (82, (.ifCond .eq 8, (85, 90, 0, 0, 0, 0), .inl 0, [], none)),
  (85, (.aload_n 0, (86, 0, 0, 0, 0, 0), .inl 0, [], none)),
  (86, (.iconst 0, (87, 0, 0, 0, 0, 0), .inl 0, [], none)),
  (87, (.invokevirtual 68, (90, 61, 2, 0, 3, 8), .inl 0, [], none)),
  (90, (.aload_n 2, (91, 0, 0, 0, 0, 0), .inl 0, [], none)),
  (91, (.iload_n 3, (92, 0, 0, 0, 0, 0), .inl 0, [], none)),
  (92, (.iload 4, (94, 0, 0, 0, 0, 0), .inl 0, [], none)),
  (94, (.aload_n 0, (95, 0, 0, 0, 0, 0), .inl 0, [], none)),
  (95, (.getfield 35, (98, 8, 2, 0, 0, 0), .inl 0, [], none)),
  (98, (.invokevirtual 72, (101, 53, 4, 0, 4, 7), .inl 0, [], none)),
  (101, (.return_, (102, 0, 0, 0, 0, 0), .inl 0, [], none))]
def z_RR_readTest : List (Nat × sk_E) := [
  (0, (.aload_n 0, (1, 0, 0, 0, 0, 0), .inl 0, [], none)),
  (1, (.iload_n 1, (2, 0, 0, 0, 0, 0), .inl 0, [], none)),
  (2, (.invokevirtual 76, (5, 62, 2, 0, 3, 8), .inl 0, [], none)),
  (5, (.iconst 0, (6, 0, 0, 0, 0, 0), .inl 0, [], none)),
  (6, (.istore_n 2, (7, 0, 0, 0, 0, 0), .inl 0, [], none)),
  (7, (.iload_n 2, (8, 0, 0, 0, 0, 0), .inl 0, [], some [true, true, true])),
  (8, (.sipush 400, (11, 0, 0, 0, 0, 0), .inl 0, [], none)),
  (11, (.if_icmp .ge 32, (14, 43, 0, 0, 0, 0), .inl 0, [], none)),
  (14, (.aload_n 0, (15, 0, 0, 0, 0, 0), .inl 0, [], none)),
  (15, (.getfield 15, (18, 8, 0, 2, 0, 0), .inl 0, [], none)),
  (18, (.ldc 79, (20, 0, 0, 0, 0, 0), .inr (.inr (some 8)), [], none)),
  (20, (.invokevirtual 64, (23, 48, 2, 1, 2, 6), .inl 0, [], none)),
  (23, (.ifCond .eq 20, (26, 43, 0, 0, 0, 0), .inl 0, [], none)),
  (26, (.aload_n 0, (27, 0, 0, 0, 0, 0), .inl 0, [], none)),
  (27, (.iload_n 1, (28, 0, 0, 0, 0, 0), .inl 0, [], none)),
  (28, (.invokevirtual 76, (31, 62, 2, 0, 3, 8), .inl 0, [], none)),
  (31, (.aload_n 0, (32, 0, 0, 0, 0, 0), .inl 0, [], none)),
  (32, (.bipush (-13), (34, 0, 0, 0, 0, 0), .inl 0, [], none)),
  (34, (.invokevirtual 81, (37, 70, 2, 0, 2, 8), .inl 0, [], none)),
  (37, (.iinc 2 1, (40, 0, 0, 0, 0, 0), .inl 0, [], none)),
  (40, (.goto (-33), (43, 7, 0, 0, 0, 0), .inl 0, [], none)),
  (43, (.return_, (44, 0, 0, 0, 0, 0), .inl 0, [], none))]
def z_RR_readPart : List (Nat × sk_E) := [
  (0, (.aload_n 0, (1, 0, 0, 0, 0, 0), .inl 0, [], none)),
  (1, (.iload_n 1, (2, 0, 0, 0, 0, 0), .inl 0, [], none)),
  (2, (.invokevirtual 84, (5, 63, 2, 0, 4, 8), .inl 0, [], none)),
  (5, (.iconst 0, (6, 0, 0, 0, 0, 0), .inl 0, [], none)),
  (6, (.istore_n 2, (7, 0, 0, 0, 0, 0), .inl 0, [], none)),
  (7, (.iload_n 2, (8, 0, 0, 0, 0, 0), .inl 0, [], some [true, true, true])),
  (8, (.sipush 400, (11, 0, 0, 0, 0, 0), .inl 0, [], none)),
  (11, (.if_icmp .ge 32, (14, 43, 0, 0, 0, 0), .inl 0, [], none)),
  (14, (.aload_n 0, (15, 0, 0, 0, 0, 0), .inl 0, [], none)),
  (15, (.getfield 15, (18, 8, 0, 2, 0, 0), .inl 0, [], none)),
  (18, (.ldc 87, (20, 0, 0, 0, 0, 0), .inr (.inr (some 7)), [], none)),
  (20, (.invokevirtual 64, (23, 48, 2, 1, 2, 6), .inl 0, [], none)),
  (23, (.ifCond .eq 20, (26, 43, 0, 0, 0, 0), .inl 0, [], none)),
  (26, (.aload_n 0, (27, 0, 0, 0, 0, 0), .inl 0, [], none)),
  (27, (.iload_n 1, (28, 0, 0, 0, 0, 0), .inl 0, [], none)),
  (28, (.invokevirtual 84, (31, 63, 2, 0, 4, 8), .inl 0, [], none)),
  (31, (.aload_n 0, (32, 0, 0, 0, 0, 0), .inl 0, [], none)),
  (32, (.bipush (-12), (34, 0, 0, 0, 0, 0), .inl 0, [], none)),
  (34, (.invokevirtual 81, (37, 70, 2, 0, 2, 8), .inl 0, [], none)),
  (37, (.iinc 2 1, (40, 0, 0, 0, 0, 0), .inl 0, [], none)),
  (40, (.goto (-33), (43, 7, 0, 0, 0, 0), .inl 0, [], none)),
  (43, (.return_, (44, 0, 0, 0, 0, 0), .inl 0, [], none))]
def z_RR_readFact : List (Nat × sk_E) := [
  (0, (.aload_n 0, (1, 0, 0, 0, 0, 0), .inl 0, [], none)),
  (1, (.getfield 15, (4, 8, 0, 2, 0, 0), .inl 0, [], none)),
  (4, (.invokevirtual 89, (7, 43, 1, 1, 1, 6), .inl 0, [], none)),
  (7, (.bipush 91, (9, 0, 0, 0, 0, 0), .inl 0, [], none)),
  (9, (.if_icmp .ne 7, (12, 16, 0, 0, 0, 0), .inl 0, [], none)),
  (12, (.iconst 1, (13, 0, 0, 0, 0, 0), .inl 0, [], none)),
  (13, (.goto 4, (16, 17, 0, 0, 0, 0), .inl 0, [], none)),
  (16, (.iconst 0, (17, 0, 0, 0, 0, 0), .inl 0, [], none)),
  (17, (.istore_n 2, (18, 0, 0, 0, 0, 0), .inl 0, [], none)),
  (18, (.aload_n 0, (19, 0, 0, 0, 0, 0), .inl 0, [], none)),
  (19, (.getfield 15, (22, 8, 0, 2, 0, 0), .inl 0, [], none)),
  (22, (.ldc 93, (24, 0, 0, 0, 0, 0), .inr (.inr (some 6)), [], none)),
  (24, (.invokevirtual 45, (27, 45, 2, 1, 5, 6), .inl 0, [], none)),
  (27, (.iconst (-1), (28, 0, 0, 0, 0, 0), .inl 0, [], none)),
  (28, (.if_icmp .eq 7, (31, 35, 0, 0, 0, 0), .inl 0, [], none)),
  (31, (.iconst 1, (32, 0, 0, 0, 0, 0), .inl 0, [], none)),
  (32, (.goto 4, (35, 36, 0, 0, 0, 0), .inl 0, [], none)),
  (35, (.iconst 0, (36, 0, 0, 0, 0, 0), .inl 0, [], none)),
  (36, (.istore_n 3, (37, 0, 0, 0, 0, 0), .inl 0, [], some [true, true, true, false])),
  (37, (.aload_n 0, (38, 0, 0, 0, 0, 0), .inl 0, [], none)),
  (38, (.getfield 15, (41, 8, 0, 2, 0, 0), .inl 0, [], none)),
  (41, (.invokevirtual 32, (44, 40, 1, 1, 1, 6), .inl 0, [], none)),
  (44, (.ifCond .ne 4, (47, 48, 0, 0, 0, 0), .inl 0, [], none)),
  (47, (.return_, (48, 0, 0, 0, 0, 0), .inl 0, [], none)),
  (48, (.iload_n 2, (49, 0, 0, 0, 0, 0), .inl 0, [], none)),
  (49, (.ifCond .ne 14, (52, 63, 0, 0, 0, 0), .inl 0, [], none)),
  (52, (.iload_n 3, (53, 0, 0, 0, 0, 0), .inl 0, [], none)),
  (53, (.ifCond .ne 10, (56, 63, 0, 0, 0, 0), .inl 0, [], none)),
  (56, (.aload_n 0, (57, 0, 0, 0, 0, 0), .inl 0, [], none)),
  (57, (.invokevirtual 95, (60, 64, 1, 0, 2, 8), .inl 0, [], none)),
  (60, (.goto 101, (63, 161, 0, 0, 0, 0), .inl 0, [], none)),
  (63, (.iload_n 1, (64, 0, 0, 0, 0, 0), .inl 0, [], some [true, true, false, true])),
  (64, (.bipush 10, (66, 0, 0, 0, 0, 0), .inl 0, [], none)),
  (66, (.if_icmp .lt 21, (69, 87, 0, 0, 0, 0), .inl 0, [], none)),
  (69, (.aload_n 0, (70, 0, 0, 0, 0, 0), .inl 0, [], none)),
  (70, (.getfield 15, (73, 8, 0, 2, 0, 0), .inl 0, [], none)),
  (73, (.aload_n 0, (74, 0, 0, 0, 0, 0), .inl 0, [], none)),
  (74, (.getfield 15, (77, 8, 0, 2, 0, 0), .inl 0, [], none)),
  (77, (.getfield 49, (80, 6, 2, 0, 0, 0), .inl 0, [], none)),
  (80, (.iconst 2, (81, 0, 0, 0, 0, 0), .inl 0, [], none)),
  (81, (.invokevirtual 52, (84, 41, 3, 0, 3, 6), .inl 0, [], none)),
  (84, (.goto 77, (87, 161, 0, 0, 0, 0), .inl 0, [], none)),
  (87, (.iload_n 3, (88, 0, 0, 0, 0, 0), .inl 0, [], none)),
  (88, (.ifCond .eq 26, (91, 114, 0, 0, 0, 0), .inl 0, [], none)),
  (91, (.aload_n 0, (92, 0, 0, 0, 0, 0), .inl 0, [], none)),
  (92, (.getfield 15, (95, 8, 0, 2, 0, 0), .inl 0, [], none)),
  (95, (.invokevirtual 56, (98, 47, 1, 0, 1, 6), .inl 0, [], none)),
  (98, (.aload_n 0, (99, 0, 0, 0, 0, 0), .inl 0, [], none)),
  (99, (.iload_n 1, (100, 0, 0, 0, 0, 0), .inl 0, [], none)),
  (100, (.iconst 1, (101, 0, 0, 0, 0, 0), .inl 0, [], none)),
  (101, (.iadd, (102, 0, 0, 0, 0, 0), .inl 0, [], none)),
  (102, (.invokevirtual 84, (105, 63, 2, 0, 4, 8), .inl 0, [], none)),
  (105, (.aload_n 0, (106, 0, 0, 0, 0, 0), .inl 0, [], none)),
  (106, (.bipush (-11), (108, 0, 0, 0, 0, 0), .inl 0, [], none)),
  (108, (.invokevirtual 81, (111, 70, 2, 0, 2, 8), .inl 0, [], none)),
  (111, (.goto 50, (114, 161, 0, 0, 0, 0), .inl 0, [], none)),
  (114, (.aload_n 0, (115, 0, 0, 0, 0, 0), .inl 0, [], none)),
  (115, (.getfield 15, (118, 8, 0, 2, 0, 0), .inl 0, [], none)),
  (118, (.dup, (119, 0, 0, 0, 0, 0), .inl 0, [], none)),
  (119, (.getfield 49, (122, 6, 2, 0, 0, 0), .inl 0, [], none)),
  (122, (.iconst 1, (123, 0, 0, 0, 0, 0), .inl 0, [], none)),
  (123, (.iadd, (124, 0, 0, 0, 0, 0), .inl 0, [], none)),
  (124, (.putfield 49, (127, 6, 2, 0, 0, 0), .inl 0, [], none)),
  (127, (.aload_n 0, (128, 0, 0, 0, 0, 0), .inl 0, [], none)),
  (128, (.iload_n 1, (129, 0, 0, 0, 0, 0), .inl 0, [], none)),
  (129, (.iconst 1, (130, 0, 0, 0, 0, 0), .inl 0, [], none)),
  (130, (.iadd, (131, 0, 0, 0, 0, 0), .inl 0, [], none)),
  (131, (.invokevirtual 68, (134, 61, 2, 0, 3, 8), .inl 0, [], none)),
  (134, (.aload_n 0, (135, 0, 0, 0, 0, 0), .inl 0, [], none)),
  (135, (.getfield 15, (138, 8, 0, 2, 0, 0), .inl 0, [], none)),
  (138, (.bipush 93, (140, 0, 0, 0, 0, 0), .inl 0, [], none)),
  (140, (.invokevirtual 98, (143, 44, 2, 1, 2, 6), .inl 0, [], none)),
  (143, (.ifCond .ne 18, (146, 161, 0, 0, 0, 0), .inl 0, [], none)),
  (146, (.aload_n 0, (147, 0, 0, 0, 0, 0), .inl 0, [], none)),
  (147, (.getfield 15, (150, 8, 0, 2, 0, 0), .inl 0, [], none)),
  (150, (.aload_n 0, (151, 0, 0, 0, 0, 0), .inl 0, [], none)),
  (151, (.getfield 15, (154, 8, 0, 2, 0, 0), .inl 0, [], none)),
  (154, (.getfield 49, (157, 6, 2, 0, 0, 0), .inl 0, [], none)),
  (157, (.iconst 0, (158, 0, 0, 0, 0, 0), .inl 0, [], none)),
  (158, (.invokevirtual 52, (161, 41, 3, 0, 3, 6), .inl 0, [], none)),
  (161, (.return_, (162, 0, 0, 0, 0, 0), .inl 0, [], none))]
def z_RR_readComparison : List (Nat × sk_E) := [
  (0, (.aload_n 0, (1, 0, 0, 0, 0, 0), .inl 0, [], none)),
  (1, (.invokevirtual 59, (4, 66, 1, 0, 4, 8), .inl 0, [], none)),
  (4, (.aload_n 0, (5, 0, 0, 0, 0, 0), .inl 0, [], none)),
  (5, (.invokevirtual 102, (8, 65, 1, 1, 4, 8), .inl 0, [], none)),
  (8, (.istore_n 1, (9, 0, 0, 0, 0, 0), .inl 0, [], none)),
  (9, (.aload_n 0, (10, 0, 0, 0, 0, 0), .inl 0, [], none)),
  (10, (.getfield 15, (13, 8, 0, 2, 0, 0), .inl 0, [], none)),
  (13, (.invokevirtual 32, (16, 40, 1, 1, 1, 6), .inl 0, [], none)),
  (16, (.ifCond .eq 12, (19, 28, 0, 0, 0, 0), .inl 0, [], none)),
  (19, (.aload_n 0, (20, 0, 0, 0, 0, 0), .inl 0, [], none)),
  (20, (.invokevirtual 59, (23, 66, 1, 0, 4, 8), .inl 0, [], none)),
  (23, (.aload_n 0, (24, 0, 0, 0, 0, 0), .inl 0, [], none)),
  (24, (.iload_n 1, (25, 0, 0, 0, 0, 0), .inl 0, [], none)),
  (25, (.invokevirtual 81, (28, 70, 2, 0, 2, 8), .inl 0, [], none)),
  (28, (.return_, (29, 0, 0, 0, 0, 0), .inl 0, [], none))]
def z_RR_readSign : List (Nat × sk_E) := [
  (0, (.aload_n 0, (1, 0, 0, 0, 0, 0), .inl 0, [], none)),
  (1, (.getfield 15, (4, 8, 0, 2, 0, 0), .inl 0, [], none)),
  (4, (.invokevirtual 89, (7, 43, 1, 1, 1, 6), .inl 0, [], none)),
  (7, (.istore_n 1, (8, 0, 0, 0, 0, 0), .inl 0, [], none)),
  (8, (.aload_n 0, (9, 0, 0, 0, 0, 0), .inl 0, [], none)),
  (9, (.getfield 15, (12, 8, 0, 2, 0, 0), .inl 0, [], none)),
  (12, (.getfield 49, (15, 6, 2, 0, 0, 0), .inl 0, [], none)),
  (15, (.istore_n 2, (16, 0, 0, 0, 0, 0), .inl 0, [], none)),
  (16, (.iload_n 1, (17, 0, 0, 0, 0, 0), .inl 0, [], none)),
  (17, (.bipush 60, (19, 0, 0, 0, 0, 0), .inl 0, [], none)),
  (19, (.if_icmp .eq 26, (22, 45, 0, 0, 0, 0), .inl 0, [], none)),
  (22, (.iload_n 1, (23, 0, 0, 0, 0, 0), .inl 0, [], none)),
  (23, (.bipush 61, (25, 0, 0, 0, 0, 0), .inl 0, [], none)),
  (25, (.if_icmp .eq 20, (28, 45, 0, 0, 0, 0), .inl 0, [], none)),
  (28, (.iload_n 1, (29, 0, 0, 0, 0, 0), .inl 0, [], none)),
  (29, (.bipush 62, (31, 0, 0, 0, 0, 0), .inl 0, [], none)),
  (31, (.if_icmp .eq 14, (34, 45, 0, 0, 0, 0), .inl 0, [], none)),
  (34, (.aload_n 0, (35, 0, 0, 0, 0, 0), .inl 0, [], none)),
  (35, (.getfield 15, (38, 8, 0, 2, 0, 0), .inl 0, [], none)),
  (38, (.iload_n 2, (39, 0, 0, 0, 0, 0), .inl 0, [], none)),
  (39, (.iconst 0, (40, 0, 0, 0, 0, 0), .inl 0, [], none)),
  (40, (.invokevirtual 52, (43, 41, 3, 0, 3, 6), .inl 0, [], none)),
  (43, (.iconst 0, (44, 0, 0, 0, 0, 0), .inl 0, [], none)),
  (44, (.ireturn, (45, 0, 0, 0, 0, 0), .inl 0, [], none)),
  (45, (.aload_n 0, (46, 0, 0, 0, 0, 0), .inl 0, [], some [true, true, true, false])),
  (46, (.iload_n 2, (47, 0, 0, 0, 0, 0), .inl 0, [], none)),
  (47, (.invokevirtual 105, (50, 69, 2, 0, 2, 8), .inl 0, [], none)),
  (50, (.aload_n 0, (51, 0, 0, 0, 0, 0), .inl 0, [], none)),
  (51, (.getfield 15, (54, 8, 0, 2, 0, 0), .inl 0, [], none)),
  (54, (.dup, (55, 0, 0, 0, 0, 0), .inl 0, [], none)),
  (55, (.getfield 49, (58, 6, 2, 0, 0, 0), .inl 0, [], none)),
  (58, (.iconst 1, (59, 0, 0, 0, 0, 0), .inl 0, [], none)),
  (59, (.iadd, (60, 0, 0, 0, 0, 0), .inl 0, [], none)),
  (60, (.putfield 49, (63, 6, 2, 0, 0, 0), .inl 0, [], none)),
  (63, (.iload_n 1, (64, 0, 0, 0, 0, 0), .inl 0, [], none)),
  (64, (.bipush 61, (66, 0, 0, 0, 0, 0), .inl 0, [], none)),
  (66, (.if_icmp .ne 6, (69, 72, 0, 0, 0, 0), .inl 0, [], none)),
  (69, (.bipush (-8), (71, 0, 0, 0, 0, 0), .inl 0, [], none)),
  (71, (.ireturn, (72, 0, 0, 0, 0, 0), .inl 0, [], none)),
  (72, (.aload_n 0, (73, 0, 0, 0, 0, 0), .inl 0, [], none)),
  (73, (.getfield 15, (76, 8, 0, 2, 0, 0), .inl 0, [], none)),
  (76, (.invokevirtual 108, (79, 42, 1, 1, 1, 6), .inl 0, [], none)),
  (79, (.bipush 61, (81, 0, 0, 0, 0, 0), .inl 0, [], none)),
  (81, (.if_icmp .ne 7, (84, 88, 0, 0, 0, 0), .inl 0, [], none)),
  (84, (.iconst 1, (85, 0, 0, 0, 0, 0), .inl 0, [], none)),
  (85, (.goto 4, (88, 89, 0, 0, 0, 0), .inl 0, [], none)),
  (88, (.iconst 0, (89, 0, 0, 0, 0, 0), .inl 0, [], none)),
  (89, (.istore_n 3, (90, 0, 0, 0, 0, 0), .inl 0, [], none)),
  (90, (.aload_n 0, (91, 0, 0, 0, 0, 0), .inl 0, [], none)),
  (91, (.getfield 15, (94, 8, 0, 2, 0, 0), .inl 0, [], none)),
  (94, (.dup, (95, 0, 0, 0, 0, 0), .inl 0, [], none)),
  (95, (.getfield 49, (98, 6, 2, 0, 0, 0), .inl 0, [], none)),
  (98, (.iload_n 3, (99, 0, 0, 0, 0, 0), .inl 0, [], none)),
  (99, (.ifCond .eq 7, (102, 106, 0, 0, 0, 0), .inl 0, [], none)),
  (102, (.iconst 1, (103, 0, 0, 0, 0, 0), .inl 0, [], none)),
  (103, (.goto 4, (106, 107, 0, 0, 0, 0), .inl 0, [], none)),
  (106, (.iconst 0, (107, 0, 0, 0, 0, 0), .inl 0, [], none)),
  (107, (.iadd, (108, 0, 0, 0, 0, 0), .inl 0, [], some [false, true, false, true])),
  (108, (.putfield 49, (111, 6, 2, 0, 0, 0), .inl 0, [], none)),
  (111, (.iload_n 1, (112, 0, 0, 0, 0, 0), .inl 0, [], none)),
  (112, (.bipush 60, (114, 0, 0, 0, 0, 0), .inl 0, [], none)),
  (114, (.if_icmp .ne 15, (117, 129, 0, 0, 0, 0), .inl 0, [], none)),
  (117, (.iload_n 3, (118, 0, 0, 0, 0, 0), .inl 0, [], none)),
  (118, (.ifCond .eq 8, (121, 126, 0, 0, 0, 0), .inl 0, [], none)),
  (121, (.bipush (-7), (123, 0, 0, 0, 0, 0), .inl 0, [], none)),
  (123, (.goto 5, (126, 128, 0, 0, 0, 0), .inl 0, [], none)),
  (126, (.bipush (-6), (128, 0, 0, 0, 0, 0), .inl 0, [], none)),
  (128, (.ireturn, (129, 0, 0, 0, 0, 0), .inl 0, [], none)),
  (129, (.iload_n 3, (130, 0, 0, 0, 0, 0), .inl 0, [], none)),
  (130, (.ifCond .eq 8, (133, 138, 0, 0, 0, 0), .inl 0, [], none)),
  (133, (.bipush (-9), (135, 0, 0, 0, 0, 0), .inl 0, [], none)),
  (135, (.goto 5, (138, 140, 0, 0, 0, 0), .inl 0, [], none)),
  (138, (.bipush (-10), (140, 0, 0, 0, 0, 0), .inl 0, [], none)),
  (140, (.ireturn, (141, 0, 0, 0, 0, 0), .inl 0, [], none))]
def z_RR_readSum : List (Nat × sk_E) := [
  (0, (.iconst 0, (1, 0, 0, 0, 0, 0), .inl 0, [], none)),
  (1, (.istore_n 1, (2, 0, 0, 0, 0, 0), .inl 0, [], none)),
  (2, (.aload_n 0, (3, 0, 0, 0, 0, 0), .inl 0, [], none)),
  (3, (.invokevirtual 111, (6, 68, 1, 0, 5, 8), .inl 0, [], none)),
  (6, (.iconst 0, (7, 0, 0, 0, 0, 0), .inl 0, [], none)),
  (7, (.istore_n 2, (8, 0, 0, 0, 0, 0), .inl 0, [], none)),
  (8, (.iload_n 2, (9, 0, 0, 0, 0, 0), .inl 0, [], some [true, true, true, false])),
  (9, (.sipush 400, (12, 0, 0, 0, 0, 0), .inl 0, [], none)),
  (12, (.if_icmp .ge 88, (15, 100, 0, 0, 0, 0), .inl 0, [], none)),
  (15, (.aload_n 0, (16, 0, 0, 0, 0, 0), .inl 0, [], none)),
  (16, (.getfield 15, (19, 8, 0, 2, 0, 0), .inl 0, [], none)),
  (19, (.invokevirtual 32, (22, 40, 1, 1, 1, 6), .inl 0, [], none)),
  (22, (.ifCond .eq 78, (25, 100, 0, 0, 0, 0), .inl 0, [], none)),
  (25, (.aload_n 0, (26, 0, 0, 0, 0, 0), .inl 0, [], none)),
  (26, (.getfield 15, (29, 8, 0, 2, 0, 0), .inl 0, [], none)),
  (29, (.invokevirtual 89, (32, 43, 1, 1, 1, 6), .inl 0, [], none)),
  (32, (.invokestatic 114, (35, 67, 1, 1, 1, 0), .inl 0, [], none)),
  (35, (.istore_n 3, (36, 0, 0, 0, 0, 0), .inl 0, [], none)),
  (36, (.iload_n 3, (37, 0, 0, 0, 0, 0), .inl 0, [], none)),
  (37, (.ifCond .ne 6, (40, 43, 0, 0, 0, 0), .inl 0, [], none)),
  (40, (.goto 60, (43, 100, 0, 0, 0, 0), .inl 0, [], none)),
  (43, (.aload_n 0, (44, 0, 0, 0, 0, 0), .inl 0, [], none)),
  (44, (.getfield 15, (47, 8, 0, 2, 0, 0), .inl 0, [], none)),
  (47, (.dup, (48, 0, 0, 0, 0, 0), .inl 0, [], none)),
  (48, (.getfield 49, (51, 6, 2, 0, 0, 0), .inl 0, [], none)),
  (51, (.iconst 1, (52, 0, 0, 0, 0, 0), .inl 0, [], none)),
  (52, (.iadd, (53, 0, 0, 0, 0, 0), .inl 0, [], none)),
  (53, (.putfield 49, (56, 6, 2, 0, 0, 0), .inl 0, [], none)),
  (56, (.iload_n 3, (57, 0, 0, 0, 0, 0), .inl 0, [], none)),
  (57, (.iconst (-1), (58, 0, 0, 0, 0, 0), .inl 0, [], none)),
  (58, (.if_icmp .eq 21, (61, 79, 0, 0, 0, 0), .inl 0, [], none)),
  (61, (.iload_n 3, (62, 0, 0, 0, 0, 0), .inl 0, [], none)),
  (62, (.bipush (-2), (64, 0, 0, 0, 0, 0), .inl 0, [], none)),
  (64, (.if_icmp .eq 15, (67, 79, 0, 0, 0, 0), .inl 0, [], none)),
  (67, (.aload_n 0, (68, 0, 0, 0, 0, 0), .inl 0, [], none)),
  (68, (.invokevirtual 111, (71, 68, 1, 0, 5, 8), .inl 0, [], none)),
  (71, (.aload_n 0, (72, 0, 0, 0, 0, 0), .inl 0, [], none)),
  (72, (.iload_n 3, (73, 0, 0, 0, 0, 0), .inl 0, [], none)),
  (73, (.invokevirtual 81, (76, 70, 2, 0, 2, 8), .inl 0, [], none)),
  (76, (.goto 18, (79, 94, 0, 0, 0, 0), .inl 0, [], none)),
  (79, (.iload_n 1, (80, 0, 0, 0, 0, 0), .inl 0, [], some [true, true, true, true])),
  (80, (.ifCond .eq 8, (83, 88, 0, 0, 0, 0), .inl 0, [], none)),
  (83, (.aload_n 0, (84, 0, 0, 0, 0, 0), .inl 0, [], none)),
  (84, (.iload_n 1, (85, 0, 0, 0, 0, 0), .inl 0, [], none)),
  (85, (.invokevirtual 81, (88, 70, 2, 0, 2, 8), .inl 0, [], none)),
  (88, (.iload_n 3, (89, 0, 0, 0, 0, 0), .inl 0, [], none)),
  (89, (.istore_n 1, (90, 0, 0, 0, 0, 0), .inl 0, [], none)),
  (90, (.aload_n 0, (91, 0, 0, 0, 0, 0), .inl 0, [], none)),
  (91, (.invokevirtual 111, (94, 68, 1, 0, 5, 8), .inl 0, [], none)),
  (94, (.iinc 2 1, (97, 0, 0, 0, 0, 0), .inl 0, [], none)),
  (97, (.goto (-89), (100, 8, 0, 0, 0, 0), .inl 0, [], none)),
  (100, (.iload_n 1, (101, 0, 0, 0, 0, 0), .inl 0, [], some [true, true, false, false])),
  (101, (.ifCond .eq 8, (104, 109, 0, 0, 0, 0), .inl 0, [], none)),
  (104, (.aload_n 0, (105, 0, 0, 0, 0, 0), .inl 0, [], none)),
  (105, (.iload_n 1, (106, 0, 0, 0, 0, 0), .inl 0, [], none)),
  (106, (.invokevirtual 81, (109, 70, 2, 0, 2, 8), .inl 0, [], none)),
  (109, (.return_, (110, 0, 0, 0, 0, 0), .inl 0, [], none))]
def z_RR_codeOf : List (Nat × sk_E) := [
  (0, (.iload_n 0, (1, 0, 0, 0, 0, 0), .inl 0, [], none)),
  (1, (.tableswitch 73 37 47 #[70, 73, 73, 73, 73, 64, 59, 73, 61, 73, 67], (60, 74, 0, 0, 0, 0), .inl 0, [(37, 71), (38, 74), (39, 74), (40, 74), (41, 74), (42, 65), (43, 60), (44, 74), (45, 62), (46, 74), (47, 68)], none)),
  (60, (.iconst (-1), (61, 0, 0, 0, 0, 0), .inl 0, [], none)),
  (61, (.ireturn, (62, 0, 0, 0, 0, 0), .inl 0, [], none)),
  (62, (.bipush (-2), (64, 0, 0, 0, 0, 0), .inl 0, [], none)),
  (64, (.ireturn, (65, 0, 0, 0, 0, 0), .inl 0, [], none)),
  (65, (.bipush (-3), (67, 0, 0, 0, 0, 0), .inl 0, [], none)),
  (67, (.ireturn, (68, 0, 0, 0, 0, 0), .inl 0, [], none)),
  (68, (.bipush (-4), (70, 0, 0, 0, 0, 0), .inl 0, [], none)),
  (70, (.ireturn, (71, 0, 0, 0, 0, 0), .inl 0, [], none)),
  (71, (.bipush (-5), (73, 0, 0, 0, 0, 0), .inl 0, [], none)),
  (73, (.ireturn, (74, 0, 0, 0, 0, 0), .inl 0, [], none)),
  (74, (.iconst 0, (75, 0, 0, 0, 0, 0), .inl 0, [], none)),
  (75, (.ireturn, (76, 0, 0, 0, 0, 0), .inl 0, [], none))]
def z_RR_readValue : List (Nat × sk_E) := [
  (0, (.aload_n 0, (1, 0, 0, 0, 0, 0), .inl 0, [], none)),
  (1, (.getfield 15, (4, 8, 0, 2, 0, 0), .inl 0, [], none)),
  (4, (.invokevirtual 89, (7, 43, 1, 1, 1, 6), .inl 0, [], none)),
  (7, (.istore_n 1, (8, 0, 0, 0, 0, 0), .inl 0, [], none)),
  (8, (.aload_n 0, (9, 0, 0, 0, 0, 0), .inl 0, [], none)),
  (9, (.getfield 15, (12, 8, 0, 2, 0, 0), .inl 0, [], none)),
  (12, (.getfield 49, (15, 6, 2, 0, 0, 0), .inl 0, [], none)),
  (15, (.istore_n 2, (16, 0, 0, 0, 0, 0), .inl 0, [], none)),
  (16, (.aload_n 0, (17, 0, 0, 0, 0, 0), .inl 0, [], none)),
  (17, (.getfield 15, (20, 8, 0, 2, 0, 0), .inl 0, [], none)),
  (20, (.invokevirtual 32, (23, 40, 1, 1, 1, 6), .inl 0, [], none)),
  (23, (.ifCond .ne 4, (26, 27, 0, 0, 0, 0), .inl 0, [], none)),
  (26, (.return_, (27, 0, 0, 0, 0, 0), .inl 0, [], none)),
  (27, (.iload_n 1, (28, 0, 0, 0, 0, 0), .inl 0, [], none)),
  (28, (.invokestatic 118, (31, 49, 1, 1, 1, 0), .inl 0, [], none)),
  (31, (.ifCond .eq 17, (34, 48, 0, 0, 0, 0), .inl 0, [], none)),
  (34, (.aload_n 0, (35, 0, 0, 0, 0, 0), .inl 0, [], none)),
  (35, (.getfield 15, (38, 8, 0, 2, 0, 0), .inl 0, [], none)),
  (38, (.iconst 0, (39, 0, 0, 0, 0, 0), .inl 0, [], none)),
  (39, (.ldc 121, (41, 0, 0, 0, 0, 0), .inl (99999), [], none)),
  (41, (.invokevirtual 122, (44, 50, 3, 1, 5, 6), .inl 0, [], none)),
  (44, (.istore_n 3, (45, 0, 0, 0, 0, 0), .inl 0, [], none)),
  (45, (.goto 43, (48, 88, 0, 0, 0, 0), .inl 0, [], none)),
  (48, (.aload_n 0, (49, 0, 0, 0, 0, 0), .inl 0, [], none)),
  (49, (.getfield 15, (52, 8, 0, 2, 0, 0), .inl 0, [], none)),
  (52, (.ldc 126, (54, 0, 0, 0, 0, 0), .inr (.inr (some 4)), [], none)),
  (54, (.invokevirtual 45, (57, 45, 2, 1, 5, 6), .inl 0, [], none)),
  (57, (.istore 4, (59, 0, 0, 0, 0, 0), .inl 0, [], none)),
  (59, (.iload 4, (61, 0, 0, 0, 0, 0), .inl 0, [], none)),
  (61, (.iconst (-1), (62, 0, 0, 0, 0, 0), .inl 0, [], none)),
  (62, (.if_icmp .ne 13, (65, 75, 0, 0, 0, 0), .inl 0, [], none)),
  (65, (.aload_n 0, (66, 0, 0, 0, 0, 0), .inl 0, [], none)),
  (66, (.getfield 15, (69, 8, 0, 2, 0, 0), .inl 0, [], none)),
  (69, (.iload_n 2, (70, 0, 0, 0, 0, 0), .inl 0, [], none)),
  (70, (.iconst 0, (71, 0, 0, 0, 0, 0), .inl 0, [], none)),
  (71, (.invokevirtual 52, (74, 41, 3, 0, 3, 6), .inl 0, [], none)),
  (74, (.return_, (75, 0, 0, 0, 0, 0), .inl 0, [], none)),
  (75, (.aload_n 0, (76, 0, 0, 0, 0, 0), .inl 0, [], none)),
  (76, (.getfield 15, (79, 8, 0, 2, 0, 0), .inl 0, [], none)),
  (79, (.invokevirtual 56, (82, 47, 1, 0, 1, 6), .inl 0, [], none)),
  (82, (.ldc 128, (84, 0, 0, 0, 0, 0), .inl (100000), [], none)),
  (84, (.iload 4, (86, 0, 0, 0, 0, 0), .inl 0, [], none)),
  (86, (.iadd, (87, 0, 0, 0, 0, 0), .inl 0, [], none)),
  (87, (.istore_n 3, (88, 0, 0, 0, 0, 0), .inl 0, [], none)),
  (88, (.aload_n 0, (89, 0, 0, 0, 0, 0), .inl 0, [], none)),
  (89, (.iload_n 2, (90, 0, 0, 0, 0, 0), .inl 0, [], none)),
  (90, (.invokevirtual 105, (93, 69, 2, 0, 2, 8), .inl 0, [], none)),
  (93, (.aload_n 0, (94, 0, 0, 0, 0, 0), .inl 0, [], none)),
  (94, (.iload_n 3, (95, 0, 0, 0, 0, 0), .inl 0, [], none)),
  (95, (.invokevirtual 81, (98, 70, 2, 0, 2, 8), .inl 0, [], none)),
  (98, (.return_, (99, 0, 0, 0, 0, 0), .inl 0, [], none))]
def z_RR_countPart : List (Nat × sk_E) := [
  (0, (.aload_n 0, (1, 0, 0, 0, 0, 0), .inl 0, [], none)),
  (1, (.dup, (2, 0, 0, 0, 0, 0), .inl 0, [], none)),
  (2, (.getfield 129, (5, 8, 3, 0, 0, 0), .inl 0, [], none)),
  (5, (.iconst 1, (6, 0, 0, 0, 0, 0), .inl 0, [], none)),
  (6, (.iadd, (7, 0, 0, 0, 0, 0), .inl 0, [], none)),
  (7, (.putfield 129, (10, 8, 3, 0, 0, 0), .inl 0, [], none)),
  (10, (.aload_n 0, (11, 0, 0, 0, 0, 0), .inl 0, [], none)),
  (11, (.getfield 129, (14, 8, 3, 0, 0, 0), .inl 0, [], none)),
  (14, (.bipush 60, (16, 0, 0, 0, 0, 0), .inl 0, [], none)),
  (16, (.if_icmp .le 12, (19, 28, 0, 0, 0, 0), .inl 0, [], none)),
  (19, (.aload_n 0, (20, 0, 0, 0, 0, 0), .inl 0, [], none)),
  (20, (.getfield 15, (23, 8, 0, 2, 0, 0), .inl 0, [], none)),
  (23, (.iload_n 1, (24, 0, 0, 0, 0, 0), .inl 0, [], none)),
  (24, (.iconst 3, (25, 0, 0, 0, 0, 0), .inl 0, [], none)),
  (25, (.invokevirtual 52, (28, 41, 3, 0, 3, 6), .inl 0, [], none)),
  (28, (.return_, (29, 0, 0, 0, 0, 0), .inl 0, [], none))]
def z_RR_put : List (Nat × sk_E) := [
  (0, (.aload_n 0, (1, 0, 0, 0, 0, 0), .inl 0, [], none)),
  (1, (.getfield 15, (4, 8, 0, 2, 0, 0), .inl 0, [], none)),
  (4, (.invokevirtual 32, (7, 40, 1, 1, 1, 6), .inl 0, [], none)),
  (7, (.ifCond .eq 35, (10, 42, 0, 0, 0, 0), .inl 0, [], none)),
  (10, (.aload_n 0, (11, 0, 0, 0, 0, 0), .inl 0, [], none)),
  (11, (.getfield 35, (14, 8, 2, 0, 0, 0), .inl 0, [], none)),
  (14, (.aload_n 0, (15, 0, 0, 0, 0, 0), .inl 0, [], none)),
  (15, (.getfield 9, (18, 8, 1, 2, 0, 0), .inl 0, [], none)),
  (18, (.arraylength, (19, 0, 0, 0, 0, 0), .inl 0, [], none)),
  (19, (.if_icmp .ge 23, (22, 42, 0, 0, 0, 0), .inl 0, [], none)),
  (22, (.aload_n 0, (23, 0, 0, 0, 0, 0), .inl 0, [], none)),
  (23, (.getfield 9, (26, 8, 1, 2, 0, 0), .inl 0, [], none)),
  (26, (.aload_n 0, (27, 0, 0, 0, 0, 0), .inl 0, [], none)),
  (27, (.getfield 35, (30, 8, 2, 0, 0, 0), .inl 0, [], none)),
  (30, (.iload_n 1, (31, 0, 0, 0, 0, 0), .inl 0, [], none)),
  (31, (.iastore, (32, 0, 0, 0, 0, 0), .inl 0, [], none)),
  (32, (.aload_n 0, (33, 0, 0, 0, 0, 0), .inl 0, [], none)),
  (33, (.dup, (34, 0, 0, 0, 0, 0), .inl 0, [], none)),
  (34, (.getfield 35, (37, 8, 2, 0, 0, 0), .inl 0, [], none)),
  (37, (.iconst 1, (38, 0, 0, 0, 0, 0), .inl 0, [], none)),
  (38, (.iadd, (39, 0, 0, 0, 0, 0), .inl 0, [], none)),
  (39, (.putfield 35, (42, 8, 2, 0, 0, 0), .inl 0, [], none)),
  (42, (.return_, (43, 0, 0, 0, 0, 0), .inl 0, [], none))]
def z_St_init : List (Nat × sk_E) := [
  (0, (.aload_n 0, (1, 0, 0, 0, 0, 0), .inl 0, [], none)),
  (1, (.invokespecial 3, (4, 0, 1, 0, 0, 0), .inl 0, [], none)),
  (4, (.aload_n 0, (5, 0, 0, 0, 0, 0), .inl 0, [], none)),
  (5, (.bipush 40, (7, 0, 0, 0, 0, 0), .inl 0, [], none)),
  (7, (.newarray .int, (9, 0, 0, 0, 0, 0), .inl 0, [], none)),
  (9, (.putfield 9, (12, 9, 5, 2, 0, 0), .inl 0, [], none)),
  (12, (.aload_n 0, (13, 0, 0, 0, 0, 0), .inl 0, [], none)),
  (13, (.bipush 40, (15, 0, 0, 0, 0, 0), .inl 0, [], none)),
  (15, (.newarray .int, (17, 0, 0, 0, 0, 0), .inl 0, [], none)),
  (17, (.putfield 15, (20, 9, 6, 2, 0, 0), .inl 0, [], none)),
  (20, (.aload_n 0, (21, 0, 0, 0, 0, 0), .inl 0, [], none)),
  (21, (.bipush 40, (23, 0, 0, 0, 0, 0), .inl 0, [], none)),
  (23, (.anewarray 18, (26, 108, 0, 0, 0, 0), .inl 0, [], none)),
  (26, (.putfield 20, (29, 9, 7, 2, 0, 0), .inl 0, [], none)),
  (29, (.return_, (30, 0, 0, 0, 0, 0), .inl 0, [], none))]
def z_St_begin : List (Nat × sk_E) := [
  (0, (.aload_n 0, (1, 0, 0, 0, 0, 0), .inl 0, [], none)),
  (1, (.aload_n 1, (2, 0, 0, 0, 0, 0), .inl 0, [], none)),
  (2, (.putfield 24, (5, 9, 0, 2, 0, 0), .inl 0, [], none)),
  (5, (.aload_n 0, (6, 0, 0, 0, 0, 0), .inl 0, [], none)),
  (6, (.aload_n 1, (7, 0, 0, 0, 0, 0), .inl 0, [], none)),
  (7, (.getfield 28, (10, 2, 1, 0, 0, 0), .inl 0, [], none)),
  (10, (.putfield 34, (13, 9, 1, 0, 0, 0), .inl 0, [], none)),
  (13, (.aload_n 0, (14, 0, 0, 0, 0, 0), .inl 0, [], none)),
  (14, (.aload_n 1, (15, 0, 0, 0, 0, 0), .inl 0, [], none)),
  (15, (.getfield 35, (18, 2, 0, 0, 0, 0), .inl 0, [], none)),
  (18, (.putfield 38, (21, 9, 2, 0, 0, 0), .inl 0, [], none)),
  (21, (.aload_n 0, (22, 0, 0, 0, 0, 0), .inl 0, [], none)),
  (22, (.iconst 0, (23, 0, 0, 0, 0, 0), .inl 0, [], none)),
  (23, (.putfield 41, (26, 9, 3, 0, 0, 0), .inl 0, [], none)),
  (26, (.return_, (27, 0, 0, 0, 0, 0), .inl 0, [], none))]
def z_St_noted : List (Nat × sk_E) := [
  (0, (.aload_n 0, (1, 0, 0, 0, 0, 0), .inl 0, [], none)),
  (1, (.getfield 41, (4, 9, 3, 0, 0, 0), .inl 0, [], none)),
  (4, (.bipush 40, (6, 0, 0, 0, 0, 0), .inl 0, [], none)),
  (6, (.invokestatic 44, (9, 242, 2, 1, 2, 0), .inl 0, [], none)),
  (9, (.ireturn, (10, 0, 0, 0, 0, 0), .inl 0, [], none))]
def z_St_strokeNoted : List (Nat × sk_E) := [
  (0, (.iload_n 1, (1, 0, 0, 0, 0, 0), .inl 0, [], none)),
  (1, (.ifCond .lt 21, (4, 22, 0, 0, 0, 0), .inl 0, [], none)),
  (4, (.iload_n 1, (5, 0, 0, 0, 0, 0), .inl 0, [], none)),
  (5, (.aload_n 0, (6, 0, 0, 0, 0, 0), .inl 0, [], none)),
  (6, (.invokevirtual 50, (9, 73, 1, 1, 1, 9), .inl 0, [], none)),
  (9, (.if_icmp .ge 13, (12, 22, 0, 0, 0, 0), .inl 0, [], none)),
  (12, (.aload_n 0, (13, 0, 0, 0, 0, 0), .inl 0, [], none)),
  (13, (.getfield 9, (16, 9, 5, 2, 0, 0), .inl 0, [], none)),
  (16, (.iload_n 1, (17, 0, 0, 0, 0, 0), .inl 0, [], none)),
  (17, (.iaload, (18, 0, 0, 0, 0, 0), .inl 0, [], none)),
  (18, (.iload_n 2, (19, 0, 0, 0, 0, 0), .inl 0, [], none)),
  (19, (.if_icmp .eq 5, (22, 24, 0, 0, 0, 0), .inl 0, [], none)),
  (22, (.aconst_null, (23, 0, 0, 0, 0, 0), .inl 0, [], none)),
  (23, (.areturn, (24, 0, 0, 0, 0, 0), .inl 0, [], none)),
  (24, (.aload_n 0, (25, 0, 0, 0, 0, 0), .inl 0, [], none)),
  (25, (.getfield 20, (28, 9, 7, 2, 0, 0), .inl 0, [], none)),
  (28, (.iload_n 1, (29, 0, 0, 0, 0, 0), .inl 0, [], none)),
  (29, (.aaload, (30, 0, 0, 0, 0, 0), .inl 0, [], none)),
  (30, (.areturn, (31, 0, 0, 0, 0, 0), .inl 0, [], none))]
def z_St_play : List (Nat × sk_E) := [
  (0, (.aload_n 0, (1, 0, 0, 0, 0, 0), .inl 0, [], none)),
  (1, (.getfield 41, (4, 9, 3, 0, 0, 0), .inl 0, [], none)),
  (4, (.bipush 40, (6, 0, 0, 0, 0, 0), .inl 0, [], none)),
  (6, (.if_icmp .ge 39, (9, 45, 0, 0, 0, 0), .inl 0, [], none)),
  (9, (.aload_n 0, (10, 0, 0, 0, 0, 0), .inl 0, [], none)),
  (10, (.getfield 9, (13, 9, 5, 2, 0, 0), .inl 0, [], none)),
  (13, (.aload_n 0, (14, 0, 0, 0, 0, 0), .inl 0, [], none)),
  (14, (.getfield 41, (17, 9, 3, 0, 0, 0), .inl 0, [], none)),
  (17, (.aload_n 0, (18, 0, 0, 0, 0, 0), .inl 0, [], none)),
  (18, (.getfield 38, (21, 9, 2, 0, 0, 0), .inl 0, [], none)),
  (21, (.iastore, (22, 0, 0, 0, 0, 0), .inl 0, [], none)),
  (22, (.aload_n 0, (23, 0, 0, 0, 0, 0), .inl 0, [], none)),
  (23, (.getfield 15, (26, 9, 6, 2, 0, 0), .inl 0, [], none)),
  (26, (.aload_n 0, (27, 0, 0, 0, 0, 0), .inl 0, [], none)),
  (27, (.getfield 41, (30, 9, 3, 0, 0, 0), .inl 0, [], none)),
  (30, (.aload_n 0, (31, 0, 0, 0, 0, 0), .inl 0, [], none)),
  (31, (.getfield 34, (34, 9, 1, 0, 0, 0), .inl 0, [], none)),
  (34, (.iastore, (35, 0, 0, 0, 0, 0), .inl 0, [], none)),
  (35, (.aload_n 0, (36, 0, 0, 0, 0, 0), .inl 0, [], none)),
  (36, (.getfield 20, (39, 9, 7, 2, 0, 0), .inl 0, [], none)),
  (39, (.aload_n 0, (40, 0, 0, 0, 0, 0), .inl 0, [], none)),
  (40, (.getfield 41, (43, 9, 3, 0, 0, 0), .inl 0, [], none)),
  (43, (.aload_n 1, (44, 0, 0, 0, 0, 0), .inl 0, [], none)),
  (44, (.aastore, (45, 0, 0, 0, 0, 0), .inl 0, [], none)),
  (45, (.aload_n 0, (46, 0, 0, 0, 0, 0), .inl 0, [], some [true, true])),
  (46, (.dup, (47, 0, 0, 0, 0, 0), .inl 0, [], none)),
  (47, (.getfield 34, (50, 9, 1, 0, 0, 0), .inl 0, [], none)),
  (50, (.aload_n 1, (51, 0, 0, 0, 0, 0), .inl 0, [], none)),
  (51, (.getfield 54, (54, 10, 3, 0, 0, 0), .inl 0, [], none)),
  (54, (.iconst (-1), (55, 0, 0, 0, 0, 0), .inl 0, [], none)),
  (55, (.ixor, (56, 0, 0, 0, 0, 0), .inl 0, [], none)),
  (56, (.iand, (57, 0, 0, 0, 0, 0), .inl 0, [], none)),
  (57, (.putfield 34, (60, 9, 1, 0, 0, 0), .inl 0, [], none)),
  (60, (.aload_n 0, (61, 0, 0, 0, 0, 0), .inl 0, [], none)),
  (61, (.iconst 1, (62, 0, 0, 0, 0, 0), .inl 0, [], none)),
  (62, (.aload_n 0, (63, 0, 0, 0, 0, 0), .inl 0, [], none)),
  (63, (.getfield 38, (66, 9, 2, 0, 0, 0), .inl 0, [], none)),
  (66, (.isub, (67, 0, 0, 0, 0, 0), .inl 0, [], none)),
  (67, (.putfield 38, (70, 9, 2, 0, 0, 0), .inl 0, [], none)),
  (70, (.aload_n 0, (71, 0, 0, 0, 0, 0), .inl 0, [], none)),
  (71, (.dup, (72, 0, 0, 0, 0, 0), .inl 0, [], none)),
  (72, (.getfield 41, (75, 9, 3, 0, 0, 0), .inl 0, [], none)),
  (75, (.iconst 1, (76, 0, 0, 0, 0, 0), .inl 0, [], none)),
  (76, (.iadd, (77, 0, 0, 0, 0, 0), .inl 0, [], none)),
  (77, (.putfield 41, (80, 9, 3, 0, 0, 0), .inl 0, [], none)),
  (80, (.return_, (81, 0, 0, 0, 0, 0), .inl 0, [], none))]
def z_St_copyOf : List (Nat × sk_E) := [
  (0, (.aload_n 0, (1, 0, 0, 0, 0, 0), .inl 0, [], none)),
  (1, (.aload_n 1, (2, 0, 0, 0, 0, 0), .inl 0, [], none)),
  (2, (.getfield 24, (5, 9, 0, 2, 0, 0), .inl 0, [], none)),
  (5, (.putfield 24, (8, 9, 0, 2, 0, 0), .inl 0, [], none)),
  (8, (.aload_n 0, (9, 0, 0, 0, 0, 0), .inl 0, [], none)),
  (9, (.aload_n 1, (10, 0, 0, 0, 0, 0), .inl 0, [], none)),
  (10, (.getfield 34, (13, 9, 1, 0, 0, 0), .inl 0, [], none)),
  (13, (.putfield 34, (16, 9, 1, 0, 0, 0), .inl 0, [], none)),
  (16, (.aload_n 0, (17, 0, 0, 0, 0, 0), .inl 0, [], none)),
  (17, (.aload_n 1, (18, 0, 0, 0, 0, 0), .inl 0, [], none)),
  (18, (.getfield 38, (21, 9, 2, 0, 0, 0), .inl 0, [], none)),
  (21, (.putfield 38, (24, 9, 2, 0, 0, 0), .inl 0, [], none)),
  (24, (.aload_n 0, (25, 0, 0, 0, 0, 0), .inl 0, [], none)),
  (25, (.aload_n 1, (26, 0, 0, 0, 0, 0), .inl 0, [], none)),
  (26, (.getfield 41, (29, 9, 3, 0, 0, 0), .inl 0, [], none)),
  (29, (.putfield 41, (32, 9, 3, 0, 0, 0), .inl 0, [], none)),
  (32, (.aload_n 0, (33, 0, 0, 0, 0, 0), .inl 0, [], none)),
  (33, (.aload_n 1, (34, 0, 0, 0, 0, 0), .inl 0, [], none)),
  (34, (.getfield 57, (37, 9, 4, 0, 0, 0), .inl 0, [], none)),
  (37, (.putfield 57, (40, 9, 4, 0, 0, 0), .inl 0, [], none)),
  (40, (.iconst 0, (41, 0, 0, 0, 0, 0), .inl 0, [], none)),
  (41, (.istore_n 2, (42, 0, 0, 0, 0, 0), .inl 0, [], none)),
  (42, (.iload_n 2, (43, 0, 0, 0, 0, 0), .inl 0, [], some [true, true, true])),
  (43, (.bipush 40, (45, 0, 0, 0, 0, 0), .inl 0, [], none)),
  (45, (.if_icmp .ge 45, (48, 90, 0, 0, 0, 0), .inl 0, [], none)),
  (48, (.aload_n 0, (49, 0, 0, 0, 0, 0), .inl 0, [], none)),
  (49, (.getfield 9, (52, 9, 5, 2, 0, 0), .inl 0, [], none)),
  (52, (.iload_n 2, (53, 0, 0, 0, 0, 0), .inl 0, [], none)),
  (53, (.aload_n 1, (54, 0, 0, 0, 0, 0), .inl 0, [], none)),
  (54, (.getfield 9, (57, 9, 5, 2, 0, 0), .inl 0, [], none)),
  (57, (.iload_n 2, (58, 0, 0, 0, 0, 0), .inl 0, [], none)),
  (58, (.iaload, (59, 0, 0, 0, 0, 0), .inl 0, [], none)),
  (59, (.iastore, (60, 0, 0, 0, 0, 0), .inl 0, [], none)),
  (60, (.aload_n 0, (61, 0, 0, 0, 0, 0), .inl 0, [], none)),
  (61, (.getfield 15, (64, 9, 6, 2, 0, 0), .inl 0, [], none)),
  (64, (.iload_n 2, (65, 0, 0, 0, 0, 0), .inl 0, [], none)),
  (65, (.aload_n 1, (66, 0, 0, 0, 0, 0), .inl 0, [], none)),
  (66, (.getfield 15, (69, 9, 6, 2, 0, 0), .inl 0, [], none)),
  (69, (.iload_n 2, (70, 0, 0, 0, 0, 0), .inl 0, [], none)),
  (70, (.iaload, (71, 0, 0, 0, 0, 0), .inl 0, [], none)),
  (71, (.iastore, (72, 0, 0, 0, 0, 0), .inl 0, [], none)),
  (72, (.aload_n 0, (73, 0, 0, 0, 0, 0), .inl 0, [], none)),
  (73, (.getfield 20, (76, 9, 7, 2, 0, 0), .inl 0, [], none)),
  (76, (.iload_n 2, (77, 0, 0, 0, 0, 0), .inl 0, [], none)),
  (77, (.aload_n 1, (78, 0, 0, 0, 0, 0), .inl 0, [], none)),
  (78, (.getfield 20, (81, 9, 7, 2, 0, 0), .inl 0, [], none)),
  (81, (.iload_n 2, (82, 0, 0, 0, 0, 0), .inl 0, [], none)),
  (82, (.aaload, (83, 0, 0, 0, 0, 0), .inl 0, [], none)),
  (83, (.aastore, (84, 0, 0, 0, 0, 0), .inl 0, [], none)),
  (84, (.iinc 2 1, (87, 0, 0, 0, 0, 0), .inl 0, [], none)),
  (87, (.goto (-45), (90, 42, 0, 0, 0, 0), .inl 0, [], none)),
  (90, (.return_, (91, 0, 0, 0, 0, 0), .inl 0, [], none))]
def z_Sk_init : List (Nat × sk_E) := [
  (0, (.aload_n 0, (1, 0, 0, 0, 0, 0), .inl 0, [], none)),
  (1, (.invokespecial 1, (4, 0, 1, 0, 0, 0), .inl 0, [], none)),
  (4, (.aload_n 0, (5, 0, 0, 0, 0, 0), .inl 0, [], none)),
  (5, (.iload_n 1, (6, 0, 0, 0, 0, 0), .inl 0, [], none)),
  (6, (.putfield 7, (9, 10, 0, 0, 0, 0), .inl 0, [], none)),
  (9, (.aload_n 0, (10, 0, 0, 0, 0, 0), .inl 0, [], none)),
  (10, (.iload_n 2, (11, 0, 0, 0, 0, 0), .inl 0, [], none)),
  (11, (.putfield 13, (14, 10, 1, 0, 0, 0), .inl 0, [], none)),
  (14, (.aload_n 0, (15, 0, 0, 0, 0, 0), .inl 0, [], none)),
  (15, (.iload_n 3, (16, 0, 0, 0, 0, 0), .inl 0, [], none)),
  (16, (.putfield 16, (19, 10, 2, 0, 0, 0), .inl 0, [], none)),
  (19, (.aload_n 0, (20, 0, 0, 0, 0, 0), .inl 0, [], none)),
  (20, (.iload 4, (22, 0, 0, 0, 0, 0), .inl 0, [], none)),
  (22, (.putfield 19, (25, 10, 3, 0, 0, 0), .inl 0, [], none)),
  (25, (.aload_n 0, (26, 0, 0, 0, 0, 0), .inl 0, [], none)),
  (26, (.iload 5, (28, 0, 0, 0, 0, 0), .inl 0, [], none)),
  (28, (.iload 4, (30, 0, 0, 0, 0, 0), .inl 0, [], none)),
  (30, (.iconst (-1), (31, 0, 0, 0, 0, 0), .inl 0, [], none)),
  (31, (.ixor, (32, 0, 0, 0, 0, 0), .inl 0, [], none)),
  (32, (.iand, (33, 0, 0, 0, 0, 0), .inl 0, [], none)),
  (33, (.putfield 22, (36, 10, 4, 0, 0, 0), .inl 0, [], none)),
  (36, (.aload_n 0, (37, 0, 0, 0, 0, 0), .inl 0, [], none)),
  (37, (.iload 6, (39, 0, 0, 0, 0, 0), .inl 0, [], none)),
  (39, (.iload 4, (41, 0, 0, 0, 0, 0), .inl 0, [], none)),
  (41, (.iconst (-1), (42, 0, 0, 0, 0, 0), .inl 0, [], none)),
  (42, (.ixor, (43, 0, 0, 0, 0, 0), .inl 0, [], none)),
  (43, (.iand, (44, 0, 0, 0, 0, 0), .inl 0, [], none)),
  (44, (.putfield 25, (47, 10, 5, 0, 0, 0), .inl 0, [], none)),
  (47, (.aload_n 0, (48, 0, 0, 0, 0, 0), .inl 0, [], none)),
  (48, (.iload_n 2, (49, 0, 0, 0, 0, 0), .inl 0, [], none)),
  (49, (.ifCond .le 19, (52, 68, 0, 0, 0, 0), .inl 0, [], none)),
  (52, (.iload_n 2, (53, 0, 0, 0, 0, 0), .inl 0, [], none)),
  (53, (.getstatic 28, (56, 0, 0, 0, 0, 0), .inr (.inr (some 1)), [], none)),
  (56, (.arraylength, (57, 0, 0, 0, 0, 0), .inl 0, [], none)),
  (57, (.if_icmp .ge 11, (60, 68, 0, 0, 0, 0), .inl 0, [], none)),
  (60, (.getstatic 28, (63, 0, 0, 0, 0, 0), .inr (.inr (some 1)), [], none)),
  (63, (.iload_n 2, (64, 0, 0, 0, 0, 0), .inl 0, [], none)),
  (64, (.laload, (65, 0, 0, 0, 0, 0), .inl 0, [], none)),
  (65, (.goto 4, (68, 69, 0, 0, 0, 0), .inl 0, [], none)),
  (68, (.lconst 0, (69, 0, 0, 0, 0, 0), .inl 0, [], none)),
  (69, (.putfield 34, (72, 10, 6, 1, 0, 0), .inl 0, [], none)),
  (72, (.return_, (73, 0, 0, 0, 0, 0), .inl 0, [], none))]
def z_Sk_hasEndIn : List (Nat × sk_E) := [
  (0, (.iload_n 1, (1, 0, 0, 0, 0, 0), .inl 0, [], none)),
  (1, (.aload_n 0, (2, 0, 0, 0, 0, 0), .inl 0, [], none)),
  (2, (.getfield 22, (5, 10, 4, 0, 0, 0), .inl 0, [], none)),
  (5, (.iand, (6, 0, 0, 0, 0, 0), .inl 0, [], none)),
  (6, (.ifCond .eq 12, (9, 18, 0, 0, 0, 0), .inl 0, [], none)),
  (9, (.iload_n 1, (10, 0, 0, 0, 0, 0), .inl 0, [], none)),
  (10, (.aload_n 0, (11, 0, 0, 0, 0, 0), .inl 0, [], none)),
  (11, (.getfield 25, (14, 10, 5, 0, 0, 0), .inl 0, [], none)),
  (14, (.iand, (15, 0, 0, 0, 0, 0), .inl 0, [], none)),
  (15, (.ifCond .ne 7, (18, 22, 0, 0, 0, 0), .inl 0, [], none)),
  (18, (.iconst 1, (19, 0, 0, 0, 0, 0), .inl 0, [], none)),
  (19, (.goto 4, (22, 23, 0, 0, 0, 0), .inl 0, [], none)),
  (22, (.iconst 0, (23, 0, 0, 0, 0, 0), .inl 0, [], none)),
  (23, (.ireturn, (24, 3, 0, 0, 0, 0), .inl 0, [], none))]
def z_Ta_init : List (Nat × sk_E) := [
  (0, (.aload_n 0, (1, 0, 0, 0, 0, 0), .inl 0, [], none)),
  (1, (.invokespecial 3, (4, 0, 1, 0, 0, 0), .inl 0, [], none)),
  (4, (.aload_n 0, (5, 0, 0, 0, 0, 0), .inl 0, [], none)),
  (5, (.new 9, (8, 2, 17, 0, 0, 0), .inl 0, [], none)),
  (8, (.dup, (9, 0, 0, 0, 0, 0), .inl 0, [], none)),
  (9, (.invokespecial 11, (12, 5, 1, 0, 1, 0), .inl 0, [], none)),
  (12, (.putfield 12, (15, 11, 0, 2, 0, 0), .inl 0, [], none)),
  (15, (.aload_n 0, (16, 0, 0, 0, 0, 0), .inl 0, [], none)),
  (16, (.sipush 4096, (19, 0, 0, 0, 0, 0), .inl 0, [], none)),
  (19, (.newarray .long, (21, 0, 0, 0, 0, 0), .inl 0, [], none)),
  (21, (.putfield 18, (24, 11, 3, 2, 0, 0), .inl 0, [], none)),
  (24, (.aload_n 0, (25, 0, 0, 0, 0, 0), .inl 0, [], none)),
  (25, (.sipush 4096, (28, 0, 0, 0, 0, 0), .inl 0, [], none)),
  (28, (.newarray .int, (30, 0, 0, 0, 0, 0), .inl 0, [], none)),
  (30, (.putfield 22, (33, 11, 4, 2, 0, 0), .inl 0, [], none)),
  (33, (.aload_n 0, (34, 0, 0, 0, 0, 0), .inl 0, [], none)),
  (34, (.sipush 4096, (37, 0, 0, 0, 0, 0), .inl 0, [], none)),
  (37, (.newarray .int, (39, 0, 0, 0, 0, 0), .inl 0, [], none)),
  (39, (.putfield 26, (42, 11, 5, 2, 0, 0), .inl 0, [], none)),
  (42, (.aload_n 0, (43, 0, 0, 0, 0, 0), .inl 0, [], none)),
  (43, (.sipush 4096, (46, 0, 0, 0, 0, 0), .inl 0, [], none)),
  (46, (.newarray .int, (48, 0, 0, 0, 0, 0), .inl 0, [], none)),
  (48, (.putfield 29, (51, 11, 6, 2, 0, 0), .inl 0, [], none)),
  (51, (.aload_n 0, (52, 0, 0, 0, 0, 0), .inl 0, [], none)),
  (52, (.sipush 4096, (55, 0, 0, 0, 0, 0), .inl 0, [], none)),
  (55, (.newarray .int, (57, 0, 0, 0, 0, 0), .inl 0, [], none)),
  (57, (.putfield 32, (60, 11, 7, 2, 0, 0), .inl 0, [], none)),
  (60, (.aload_n 0, (61, 0, 0, 0, 0, 0), .inl 0, [], none)),
  (61, (.sipush 4096, (64, 0, 0, 0, 0, 0), .inl 0, [], none)),
  (64, (.newarray .int, (66, 0, 0, 0, 0, 0), .inl 0, [], none)),
  (66, (.putfield 35, (69, 11, 8, 2, 0, 0), .inl 0, [], none)),
  (69, (.return_, (70, 0, 0, 0, 0, 0), .inl 0, [], none))]
def z_Ta_use : List (Nat × sk_E) := [
  (0, (.aload_n 1, (1, 0, 0, 0, 0, 0), .inl 0, [], none)),
  (1, (.ifnull 11, (4, 12, 0, 0, 0, 0), .inl 0, [], none)),
  (4, (.aload_n 1, (5, 0, 0, 0, 0, 0), .inl 0, [], none)),
  (5, (.aload_n 0, (6, 0, 0, 0, 0, 0), .inl 0, [], none)),
  (6, (.getfield 12, (9, 11, 0, 2, 0, 0), .inl 0, [], none)),
  (9, (.if_acmp .ne 4, (12, 13, 0, 0, 0, 0), .inl 0, [], none)),
  (12, (.return_, (13, 0, 0, 0, 0, 0), .inl 0, [], none)),
  (13, (.aload_n 0, (14, 0, 0, 0, 0, 0), .inl 0, [], none)),
  (14, (.aload_n 1, (15, 0, 0, 0, 0, 0), .inl 0, [], none)),
  (15, (.putfield 12, (18, 11, 0, 2, 0, 0), .inl 0, [], none)),
  (18, (.aload_n 0, (19, 0, 0, 0, 0, 0), .inl 0, [], none)),
  (19, (.iconst 1, (20, 0, 0, 0, 0, 0), .inl 0, [], none)),
  (20, (.aload_n 1, (21, 0, 0, 0, 0, 0), .inl 0, [], none)),
  (21, (.getfield 38, (24, 2, 2, 0, 0, 0), .inl 0, [], none)),
  (24, (.ishl, (25, 0, 0, 0, 0, 0), .inl 0, [], none)),
  (25, (.putfield 42, (28, 11, 2, 0, 0, 0), .inl 0, [], none)),
  (28, (.aload_n 0, (29, 0, 0, 0, 0, 0), .inl 0, [], none)),
  (29, (.iconst 4, (30, 0, 0, 0, 0, 0), .inl 0, [], none)),
  (30, (.aload_n 1, (31, 0, 0, 0, 0, 0), .inl 0, [], none)),
  (31, (.getfield 45, (34, 2, 4, 0, 0, 0), .inl 0, [], none)),
  (34, (.iconst 1, (35, 0, 0, 0, 0, 0), .inl 0, [], none)),
  (35, (.isub, (36, 0, 0, 0, 0, 0), .inl 0, [], none)),
  (36, (.imul, (37, 0, 0, 0, 0, 0), .inl 0, [], none)),
  (37, (.aload_n 1, (38, 0, 0, 0, 0, 0), .inl 0, [], none)),
  (38, (.getfield 48, (41, 2, 5, 3, 0, 0), .inl 0, [], none)),
  (41, (.ifCond .eq 7, (44, 48, 0, 0, 0, 0), .inl 0, [], none)),
  (44, (.iconst 2, (45, 0, 0, 0, 0, 0), .inl 0, [], none)),
  (45, (.goto 4, (48, 49, 0, 0, 0, 0), .inl 0, [], none)),
  (48, (.iconst 0, (49, 0, 0, 0, 0, 0), .inl 0, [], none)),
  (49, (.iadd, (50, 0, 0, 0, 0, 0), .inl 0, [], none)),
  (50, (.aload_n 1, (51, 0, 0, 0, 0, 0), .inl 0, [], none)),
  (51, (.getfield 52, (54, 2, 6, 3, 0, 0), .inl 0, [], none)),
  (54, (.ifCond .eq 7, (57, 61, 0, 0, 0, 0), .inl 0, [], none)),
  (57, (.iconst 1, (58, 0, 0, 0, 0, 0), .inl 0, [], none)),
  (58, (.goto 4, (61, 62, 0, 0, 0, 0), .inl 0, [], none)),
  (61, (.iconst 0, (62, 0, 0, 0, 0, 0), .inl 0, [], none)),
  (62, (.iadd, (63, 0, 0, 0, 0, 0), .inl 0, [], some [true, false])),
  (63, (.putfield 55, (66, 11, 1, 0, 0, 0), .inl 0, [], none)),
  (66, (.aload_n 0, (67, 0, 0, 0, 0, 0), .inl 0, [], none)),
  (67, (.iconst 0, (68, 0, 0, 0, 0, 0), .inl 0, [], none)),
  (68, (.putfield 58, (71, 11, 9, 3, 0, 0), .inl 0, [], none)),
  (71, (.aload_n 0, (72, 0, 0, 0, 0, 0), .inl 0, [], none)),
  (72, (.iconst 0, (73, 0, 0, 0, 0, 0), .inl 0, [], none)),
  (73, (.putfield 61, (76, 11, 10, 3, 0, 0), .inl 0, [], none)),
  (76, (.aload_n 0, (77, 0, 0, 0, 0, 0), .inl 0, [], none)),
  (77, (.iconst 0, (78, 0, 0, 0, 0, 0), .inl 0, [], none)),
  (78, (.putfield 64, (81, 11, 11, 3, 0, 0), .inl 0, [], none)),
  (81, (.aload_n 0, (82, 0, 0, 0, 0, 0), .inl 0, [], none)),
  (82, (.iconst 0, (83, 0, 0, 0, 0, 0), .inl 0, [], none)),
  (83, (.putfield 67, (86, 11, 12, 3, 0, 0), .inl 0, [], none)),
  (86, (.aload_n 0, (87, 0, 0, 0, 0, 0), .inl 0, [], none)),
  (87, (.iconst 0, (88, 0, 0, 0, 0, 0), .inl 0, [], none)),
  (88, (.putfield 70, (91, 11, 13, 3, 0, 0), .inl 0, [], none)),
  (91, (.return_, (92, 0, 0, 0, 0, 0), .inl 0, [], none))]
def z_Ta_fillWinning : List (Nat × sk_E) := [
  (0, (.iconst 0, (1, 0, 0, 0, 0, 0), .inl 0, [], none)),
  (1, (.istore_n 1, (2, 0, 0, 0, 0, 0), .inl 0, [], none)),
  (2, (.iload_n 1, (3, 0, 0, 0, 0, 0), .inl 0, [], some [true, true, false, false, false, false, false, false, false, false, false, false])),
  (3, (.aload_n 0, (4, 0, 0, 0, 0, 0), .inl 0, [], none)),
  (4, (.getfield 42, (7, 11, 2, 0, 0, 0), .inl 0, [], none)),
  (7, (.if_icmp .ge 143, (10, 150, 0, 0, 0, 0), .inl 0, [], none)),
  (10, (.lconst 0, (11, 0, 0, 0, 0, 0), .inl 0, [], none)),
  (11, (.lstore_n 2, (12, 0, 0, 0, 0, 0), .inl 0, [], none)),
  (12, (.lconst 0, (13, 0, 0, 0, 0, 0), .inl 0, [], none)),
  (13, (.lstore 4, (15, 0, 0, 0, 0, 0), .inl 0, [], none)),
  (15, (.aload_n 0, (16, 0, 0, 0, 0, 0), .inl 0, [], none)),
  (16, (.getfield 12, (19, 11, 0, 2, 0, 0), .inl 0, [], none)),
  (19, (.getfield 73, (22, 2, 15, 2, 0, 0), .inl 0, [], none)),
  (22, (.astore 6, (24, 0, 0, 0, 0, 0), .inl 0, [], none)),
  (24, (.aload 6, (26, 0, 0, 0, 0, 0), .inl 0, [], none)),
  (26, (.arraylength, (27, 0, 0, 0, 0, 0), .inl 0, [], none)),
  (27, (.istore 7, (29, 0, 0, 0, 0, 0), .inl 0, [], none)),
  (29, (.iconst 0, (30, 0, 0, 0, 0, 0), .inl 0, [], none)),
  (30, (.istore 8, (32, 0, 0, 0, 0, 0), .inl 0, [], none)),
  (32, (.iload 8, (34, 0, 0, 0, 0, 0), .inl 0, [], some [true, true, true, false, true, false, true, true, true, false, false, false])),
  (34, (.iload 7, (36, 0, 0, 0, 0, 0), .inl 0, [], none)),
  (36, (.if_icmp .ge 90, (39, 126, 0, 0, 0, 0), .inl 0, [], none)),
  (39, (.aload 6, (41, 0, 0, 0, 0, 0), .inl 0, [], none)),
  (41, (.iload 8, (43, 0, 0, 0, 0, 0), .inl 0, [], none)),
  (43, (.aaload, (44, 0, 0, 0, 0, 0), .inl 0, [], none)),
  (44, (.astore 9, (46, 0, 0, 0, 0, 0), .inl 0, [], none)),
  (46, (.iload_n 1, (47, 0, 0, 0, 0, 0), .inl 0, [], none)),
  (47, (.aload 9, (49, 0, 0, 0, 0, 0), .inl 0, [], none)),
  (49, (.getfield 77, (52, 10, 3, 0, 0, 0), .inl 0, [], none)),
  (52, (.iand, (53, 0, 0, 0, 0, 0), .inl 0, [], none)),
  (53, (.aload 9, (55, 0, 0, 0, 0, 0), .inl 0, [], none)),
  (55, (.getfield 77, (58, 10, 3, 0, 0, 0), .inl 0, [], none)),
  (58, (.if_icmp .ne 62, (61, 120, 0, 0, 0, 0), .inl 0, [], none)),
  (61, (.aload 9, (63, 0, 0, 0, 0, 0), .inl 0, [], none)),
  (63, (.iload_n 1, (64, 0, 0, 0, 0, 0), .inl 0, [], none)),
  (64, (.invokevirtual 82, (67, 78, 2, 1, 2, 10), .inl 0, [], none)),
  (67, (.ifCond .eq 11, (70, 78, 0, 0, 0, 0), .inl 0, [], none)),
  (70, (.aload 9, (72, 0, 0, 0, 0, 0), .inl 0, [], none)),
  (72, (.getfield 86, (75, 10, 6, 1, 0, 0), .inl 0, [], none)),
  (75, (.goto 12, (78, 87, 0, 0, 0, 0), .inl 0, [], none)),
  (78, (.aload 9, (80, 0, 0, 0, 0, 0), .inl 0, [], none)),
  (80, (.getfield 86, (83, 10, 6, 1, 0, 0), .inl 0, [], none)),
  (83, (.ldc2_w 90, (86, 0, 0, 0, 0, 0), .inr (.inl (230584300921369395)), [], none)),
  (86, (.land, (87, 0, 0, 0, 0, 0), .inl 0, [], none)),
  (87, (.lstore 10, (89, 0, 0, 0, 0, 0), .inl 0, [], some [true, true, true, false, true, false, true, true, true, true, false, false])),
  (89, (.lload_n 2, (90, 0, 0, 0, 0, 0), .inl 0, [], none)),
  (90, (.lload 10, (92, 0, 0, 0, 0, 0), .inl 0, [], none)),
  (92, (.lor, (93, 0, 0, 0, 0, 0), .inl 0, [], none)),
  (93, (.lstore_n 2, (94, 0, 0, 0, 0, 0), .inl 0, [], none)),
  (94, (.lload 4, (96, 0, 0, 0, 0, 0), .inl 0, [], none)),
  (96, (.lload 10, (98, 0, 0, 0, 0, 0), .inl 0, [], none)),
  (98, (.aload_n 0, (99, 0, 0, 0, 0, 0), .inl 0, [], none)),
  (99, (.getfield 18, (102, 11, 3, 2, 0, 0), .inl 0, [], none)),
  (102, (.iload_n 1, (103, 0, 0, 0, 0, 0), .inl 0, [], none)),
  (103, (.aload 9, (105, 0, 0, 0, 0, 0), .inl 0, [], none)),
  (105, (.getfield 77, (108, 10, 3, 0, 0, 0), .inl 0, [], none)),
  (108, (.iconst (-1), (109, 0, 0, 0, 0, 0), .inl 0, [], none)),
  (109, (.ixor, (110, 0, 0, 0, 0, 0), .inl 0, [], none)),
  (110, (.iand, (111, 0, 0, 0, 0, 0), .inl 0, [], none)),
  (111, (.laload, (112, 0, 0, 0, 0, 0), .inl 0, [], none)),
  (112, (.ldc2_w 92, (115, 0, 0, 0, 0, 0), .inr (.inl (-1)), [], none)),
  (115, (.lxor, (116, 0, 0, 0, 0, 0), .inl 0, [], none)),
  (116, (.land, (117, 0, 0, 0, 0, 0), .inl 0, [], none)),
  (117, (.lor, (118, 0, 0, 0, 0, 0), .inl 0, [], none)),
  (118, (.lstore 4, (120, 0, 0, 0, 0, 0), .inl 0, [], none)),
  (120, (.iinc 8 1, (123, 0, 0, 0, 0, 0), .inl 0, [], none)),
  (123, (.goto (-91), (126, 32, 0, 0, 0, 0), .inl 0, [], none)),
  (126, (.aload_n 0, (127, 0, 0, 0, 0, 0), .inl 0, [], none)),
  (127, (.getfield 18, (130, 11, 3, 2, 0, 0), .inl 0, [], none)),
  (130, (.iload_n 1, (131, 0, 0, 0, 0, 0), .inl 0, [], none)),
  (131, (.lload 4, (133, 0, 0, 0, 0, 0), .inl 0, [], none)),
  (133, (.ldc2_w 94, (136, 0, 0, 0, 0, 0), .inr (.inl (768614336404564650)), [], none)),
  (136, (.lload_n 2, (137, 0, 0, 0, 0, 0), .inl 0, [], none)),
  (137, (.ldc2_w 92, (140, 0, 0, 0, 0, 0), .inr (.inl (-1)), [], none)),
  (140, (.lxor, (141, 0, 0, 0, 0, 0), .inl 0, [], none)),
  (141, (.land, (142, 0, 0, 0, 0, 0), .inl 0, [], none)),
  (142, (.lor, (143, 0, 0, 0, 0, 0), .inl 0, [], none)),
  (143, (.lastore, (144, 0, 0, 0, 0, 0), .inl 0, [], none)),
  (144, (.iinc 1 1, (147, 0, 0, 0, 0, 0), .inl 0, [], none)),
  (147, (.goto (-145), (150, 2, 0, 0, 0, 0), .inl 0, [], none)),
  (150, (.aload_n 0, (151, 0, 0, 0, 0, 0), .inl 0, [], none)),
  (151, (.iconst 1, (152, 0, 0, 0, 0, 0), .inl 0, [], none)),
  (152, (.putfield 58, (155, 11, 9, 3, 0, 0), .inl 0, [], none)),
  (155, (.return_, (156, 0, 0, 0, 0, 0), .inl 0, [], none))]
def z_Ta_canWin : List (Nat × sk_E) := [
  (0, (.aload_n 0, (1, 0, 0, 0, 0, 0), .inl 0, [], none)),
  (1, (.getfield 58, (4, 11, 9, 3, 0, 0), .inl 0, [], none)),
  (4, (.ifCond .ne 7, (7, 11, 0, 0, 0, 0), .inl 0, [], none)),
  (7, (.aload_n 0, (8, 0, 0, 0, 0, 0), .inl 0, [], none)),
  (8, (.invokevirtual 96, (11, 81, 1, 0, 12, 11), .inl 0, [], none)),
  (11, (.aload_n 0, (12, 0, 0, 0, 0, 0), .inl 0, [], some [true, true])),
  (12, (.getfield 18, (15, 11, 3, 2, 0, 0), .inl 0, [], none)),
  (15, (.iload_n 1, (16, 0, 0, 0, 0, 0), .inl 0, [], none)),
  (16, (.laload, (17, 0, 0, 0, 0, 0), .inl 0, [], none)),
  (17, (.aload_n 0, (18, 0, 0, 0, 0, 0), .inl 0, [], none)),
  (18, (.getfield 55, (21, 11, 1, 0, 0, 0), .inl 0, [], none)),
  (21, (.lshr, (22, 0, 0, 0, 0, 0), .inl 0, [], none)),
  (22, (.lconst 1, (23, 0, 0, 0, 0, 0), .inl 0, [], none)),
  (23, (.land, (24, 0, 0, 0, 0, 0), .inl 0, [], none)),
  (24, (.lconst 1, (25, 0, 0, 0, 0, 0), .inl 0, [], none)),
  (25, (.lcmp, (26, 0, 0, 0, 0, 0), .inl 0, [], none)),
  (26, (.ifCond .ne 7, (29, 33, 0, 0, 0, 0), .inl 0, [], none)),
  (29, (.iconst 1, (30, 0, 0, 0, 0, 0), .inl 0, [], none)),
  (30, (.goto 4, (33, 34, 0, 0, 0, 0), .inl 0, [], none)),
  (33, (.iconst 0, (34, 0, 0, 0, 0, 0), .inl 0, [], none)),
  (34, (.ireturn, (35, 3, 0, 0, 0, 0), .inl 0, [], none))]
def z_Ta_winsBy : List (Nat × sk_E) := [
  (0, (.aload_n 0, (1, 0, 0, 0, 0, 0), .inl 0, [], none)),
  (1, (.iload_n 1, (2, 0, 0, 0, 0, 0), .inl 0, [], none)),
  (2, (.aload_n 2, (3, 0, 0, 0, 0, 0), .inl 0, [], none)),
  (3, (.getfield 77, (6, 10, 3, 0, 0, 0), .inl 0, [], none)),
  (6, (.iconst (-1), (7, 0, 0, 0, 0, 0), .inl 0, [], none)),
  (7, (.ixor, (8, 0, 0, 0, 0, 0), .inl 0, [], none)),
  (8, (.iand, (9, 0, 0, 0, 0, 0), .inl 0, [], none)),
  (9, (.invokevirtual 99, (12, 82, 2, 1, 2, 11), .inl 0, [], none)),
  (12, (.ifCond .ne 7, (15, 19, 0, 0, 0, 0), .inl 0, [], none)),
  (15, (.iconst 1, (16, 0, 0, 0, 0, 0), .inl 0, [], none)),
  (16, (.goto 4, (19, 20, 0, 0, 0, 0), .inl 0, [], none)),
  (19, (.iconst 0, (20, 0, 0, 0, 0, 0), .inl 0, [], none)),
  (20, (.ireturn, (21, 3, 0, 0, 0, 0), .inl 0, [], none))]
def z_Ta_lawsBehind : List (Nat × sk_E) := [
  (0, (.aload_n 0, (1, 0, 0, 0, 0, 0), .inl 0, [], none)),
  (1, (.getfield 58, (4, 11, 9, 3, 0, 0), .inl 0, [], none)),
  (4, (.ifCond .ne 7, (7, 11, 0, 0, 0, 0), .inl 0, [], none)),
  (7, (.aload_n 0, (8, 0, 0, 0, 0, 0), .inl 0, [], none)),
  (8, (.invokevirtual 96, (11, 81, 1, 0, 12, 11), .inl 0, [], none)),
  (11, (.aload_n 2, (12, 0, 0, 0, 0, 0), .inl 0, [], none)),
  (12, (.iload_n 1, (13, 0, 0, 0, 0, 0), .inl 0, [], none)),
  (13, (.invokevirtual 82, (16, 78, 2, 1, 2, 10), .inl 0, [], none)),
  (16, (.ifCond .eq 10, (19, 26, 0, 0, 0, 0), .inl 0, [], none)),
  (19, (.aload_n 2, (20, 0, 0, 0, 0, 0), .inl 0, [], none)),
  (20, (.getfield 86, (23, 10, 6, 1, 0, 0), .inl 0, [], none)),
  (23, (.goto 11, (26, 34, 0, 0, 0, 0), .inl 0, [], none)),
  (26, (.aload_n 2, (27, 0, 0, 0, 0, 0), .inl 0, [], none)),
  (27, (.getfield 86, (30, 10, 6, 1, 0, 0), .inl 0, [], none)),
  (30, (.ldc2_w 90, (33, 0, 0, 0, 0, 0), .inr (.inl (230584300921369395)), [], none)),
  (33, (.land, (34, 0, 0, 0, 0, 0), .inl 0, [], none)),
  (34, (.lstore_n 3, (35, 0, 0, 0, 0, 0), .inl 0, [], some [true, true, true, false, false])),
  (35, (.lload_n 3, (36, 0, 0, 0, 0, 0), .inl 0, [], none)),
  (36, (.aload_n 0, (37, 0, 0, 0, 0, 0), .inl 0, [], none)),
  (37, (.getfield 18, (40, 11, 3, 2, 0, 0), .inl 0, [], none)),
  (40, (.iload_n 1, (41, 0, 0, 0, 0, 0), .inl 0, [], none)),
  (41, (.laload, (42, 0, 0, 0, 0, 0), .inl 0, [], none)),
  (42, (.aload_n 0, (43, 0, 0, 0, 0, 0), .inl 0, [], none)),
  (43, (.getfield 18, (46, 11, 3, 2, 0, 0), .inl 0, [], none)),
  (46, (.iload_n 1, (47, 0, 0, 0, 0, 0), .inl 0, [], none)),
  (47, (.aload_n 2, (48, 0, 0, 0, 0, 0), .inl 0, [], none)),
  (48, (.getfield 77, (51, 10, 3, 0, 0, 0), .inl 0, [], none)),
  (51, (.iconst (-1), (52, 0, 0, 0, 0, 0), .inl 0, [], none)),
  (52, (.ixor, (53, 0, 0, 0, 0, 0), .inl 0, [], none)),
  (53, (.iand, (54, 0, 0, 0, 0, 0), .inl 0, [], none)),
  (54, (.laload, (55, 0, 0, 0, 0, 0), .inl 0, [], none)),
  (55, (.land, (56, 0, 0, 0, 0, 0), .inl 0, [], none)),
  (56, (.ldc2_w 92, (59, 0, 0, 0, 0, 0), .inr (.inl (-1)), [], none)),
  (59, (.lxor, (60, 0, 0, 0, 0, 0), .inl 0, [], none)),
  (60, (.land, (61, 0, 0, 0, 0, 0), .inl 0, [], none)),
  (61, (.lreturn, (62, 0, 0, 0, 0, 0), .inl 0, [], none))]
def z_Ta_fillLengths : List (Nat × sk_E) := [
  (0, (.iconst 0, (1, 0, 0, 0, 0, 0), .inl 0, [], none)),
  (1, (.istore_n 1, (2, 0, 0, 0, 0, 0), .inl 0, [], none)),
  (2, (.iload_n 1, (3, 0, 0, 0, 0, 0), .inl 0, [], some [true, true, false, false, false, false, false, false, false, false])),
  (3, (.aload_n 0, (4, 0, 0, 0, 0, 0), .inl 0, [], none)),
  (4, (.getfield 42, (7, 11, 2, 0, 0, 0), .inl 0, [], none)),
  (7, (.if_icmp .ge 158, (10, 165, 0, 0, 0, 0), .inl 0, [], none)),
  (10, (.aload_n 0, (11, 0, 0, 0, 0, 0), .inl 0, [], none)),
  (11, (.iload_n 1, (12, 0, 0, 0, 0, 0), .inl 0, [], none)),
  (12, (.invokevirtual 99, (15, 82, 2, 1, 2, 11), .inl 0, [], none)),
  (15, (.istore_n 2, (16, 0, 0, 0, 0, 0), .inl 0, [], none)),
  (16, (.iconst (-1), (17, 0, 0, 0, 0, 0), .inl 0, [], none)),
  (17, (.istore_n 3, (18, 0, 0, 0, 0, 0), .inl 0, [], none)),
  (18, (.aload_n 0, (19, 0, 0, 0, 0, 0), .inl 0, [], none)),
  (19, (.getfield 12, (22, 11, 0, 2, 0, 0), .inl 0, [], none)),
  (22, (.getfield 102, (25, 2, 14, 2, 0, 0), .inl 0, [], none)),
  (25, (.astore 4, (27, 0, 0, 0, 0, 0), .inl 0, [], none)),
  (27, (.aload 4, (29, 0, 0, 0, 0, 0), .inl 0, [], none)),
  (29, (.arraylength, (30, 0, 0, 0, 0, 0), .inl 0, [], none)),
  (30, (.istore 5, (32, 0, 0, 0, 0, 0), .inl 0, [], none)),
  (32, (.iconst 0, (33, 0, 0, 0, 0, 0), .inl 0, [], none)),
  (33, (.istore 6, (35, 0, 0, 0, 0, 0), .inl 0, [], none)),
  (35, (.iload 6, (37, 0, 0, 0, 0, 0), .inl 0, [], some [true, true, true, true, true, true, true, false, false, false])),
  (37, (.iload 5, (39, 0, 0, 0, 0, 0), .inl 0, [], none)),
  (39, (.if_icmp .ge 109, (42, 148, 0, 0, 0, 0), .inl 0, [], none)),
  (42, (.aload 4, (44, 0, 0, 0, 0, 0), .inl 0, [], none)),
  (44, (.iload 6, (46, 0, 0, 0, 0, 0), .inl 0, [], none)),
  (46, (.aaload, (47, 0, 0, 0, 0, 0), .inl 0, [], none)),
  (47, (.astore 7, (49, 0, 0, 0, 0, 0), .inl 0, [], none)),
  (49, (.aload_n 0, (50, 0, 0, 0, 0, 0), .inl 0, [], none)),
  (50, (.getfield 12, (53, 11, 0, 2, 0, 0), .inl 0, [], none)),
  (53, (.iload_n 1, (54, 0, 0, 0, 0, 0), .inl 0, [], none)),
  (54, (.aload 7, (56, 0, 0, 0, 0, 0), .inl 0, [], none)),
  (56, (.invokevirtual 105, (59, 12, 3, 1, 3, 2), .inl 0, [], none)),
  (59, (.ifCond .eq 83, (62, 142, 0, 0, 0, 0), .inl 0, [], none)),
  (62, (.iload_n 2, (63, 0, 0, 0, 0, 0), .inl 0, [], none)),
  (63, (.ifCond .eq 13, (66, 76, 0, 0, 0, 0), .inl 0, [], none)),
  (66, (.aload_n 0, (67, 0, 0, 0, 0, 0), .inl 0, [], none)),
  (67, (.iload_n 1, (68, 0, 0, 0, 0, 0), .inl 0, [], none)),
  (68, (.aload 7, (70, 0, 0, 0, 0, 0), .inl 0, [], none)),
  (70, (.invokevirtual 109, (73, 83, 3, 1, 3, 11), .inl 0, [], none)),
  (73, (.ifCond .eq 69, (76, 142, 0, 0, 0, 0), .inl 0, [], none)),
  (76, (.aload_n 0, (77, 0, 0, 0, 0, 0), .inl 0, [], some [true, true, true, true, true, true, true, true, false, false])),
  (77, (.getfield 22, (80, 11, 4, 2, 0, 0), .inl 0, [], none)),
  (80, (.iload_n 1, (81, 0, 0, 0, 0, 0), .inl 0, [], none)),
  (81, (.aload 7, (83, 0, 0, 0, 0, 0), .inl 0, [], none)),
  (83, (.getfield 77, (86, 10, 3, 0, 0, 0), .inl 0, [], none)),
  (86, (.iconst (-1), (87, 0, 0, 0, 0, 0), .inl 0, [], none)),
  (87, (.ixor, (88, 0, 0, 0, 0, 0), .inl 0, [], none)),
  (88, (.iand, (89, 0, 0, 0, 0, 0), .inl 0, [], none)),
  (89, (.iaload, (90, 0, 0, 0, 0, 0), .inl 0, [], none)),
  (90, (.iconst 1, (91, 0, 0, 0, 0, 0), .inl 0, [], none)),
  (91, (.iadd, (92, 0, 0, 0, 0, 0), .inl 0, [], none)),
  (92, (.istore 8, (94, 0, 0, 0, 0, 0), .inl 0, [], none)),
  (94, (.iload_n 2, (95, 0, 0, 0, 0, 0), .inl 0, [], none)),
  (95, (.ifCond .eq 17, (98, 112, 0, 0, 0, 0), .inl 0, [], none)),
  (98, (.iload 8, (100, 0, 0, 0, 0, 0), .inl 0, [], none)),
  (100, (.iload_n 3, (101, 0, 0, 0, 0, 0), .inl 0, [], none)),
  (101, (.if_icmp .ge 7, (104, 108, 0, 0, 0, 0), .inl 0, [], none)),
  (104, (.iconst 1, (105, 0, 0, 0, 0, 0), .inl 0, [], none)),
  (105, (.goto 18, (108, 123, 0, 0, 0, 0), .inl 0, [], none)),
  (108, (.iconst 0, (109, 0, 0, 0, 0, 0), .inl 0, [], none)),
  (109, (.goto 14, (112, 123, 0, 0, 0, 0), .inl 0, [], none)),
  (112, (.iload 8, (114, 0, 0, 0, 0, 0), .inl 0, [], none)),
  (114, (.iload_n 3, (115, 0, 0, 0, 0, 0), .inl 0, [], none)),
  (115, (.if_icmp .le 7, (118, 122, 0, 0, 0, 0), .inl 0, [], none)),
  (118, (.iconst 1, (119, 0, 0, 0, 0, 0), .inl 0, [], none)),
  (119, (.goto 4, (122, 123, 0, 0, 0, 0), .inl 0, [], none)),
  (122, (.iconst 0, (123, 0, 0, 0, 0, 0), .inl 0, [], none)),
  (123, (.istore 9, (125, 0, 0, 0, 0, 0), .inl 0, [], some [true, true, true, true, true, true, true, false, true, false])),
  (125, (.iload_n 3, (126, 0, 0, 0, 0, 0), .inl 0, [], none)),
  (126, (.iconst (-1), (127, 0, 0, 0, 0, 0), .inl 0, [], none)),
  (127, (.if_icmp .eq 8, (130, 135, 0, 0, 0, 0), .inl 0, [], none)),
  (130, (.iload 9, (132, 0, 0, 0, 0, 0), .inl 0, [], none)),
  (132, (.ifCond .eq 8, (135, 140, 0, 0, 0, 0), .inl 0, [], none)),
  (135, (.iload 8, (137, 0, 0, 0, 0, 0), .inl 0, [], none)),
  (137, (.goto 4, (140, 141, 0, 0, 0, 0), .inl 0, [], none)),
  (140, (.iload_n 3, (141, 0, 0, 0, 0, 0), .inl 0, [], none)),
  (141, (.istore_n 3, (142, 0, 0, 0, 0, 0), .inl 0, [], none)),
  (142, (.iinc 6 1, (145, 0, 0, 0, 0, 0), .inl 0, [], none)),
  (145, (.goto (-110), (148, 35, 0, 0, 0, 0), .inl 0, [], none)),
  (148, (.aload_n 0, (149, 0, 0, 0, 0, 0), .inl 0, [], none)),
  (149, (.getfield 22, (152, 11, 4, 2, 0, 0), .inl 0, [], none)),
  (152, (.iload_n 1, (153, 0, 0, 0, 0, 0), .inl 0, [], none)),
  (153, (.iload_n 3, (154, 0, 0, 0, 0, 0), .inl 0, [], none)),
  (154, (.iconst 0, (155, 0, 0, 0, 0, 0), .inl 0, [], none)),
  (155, (.invokestatic 112, (158, 241, 2, 1, 2, 0), .inl 0, [], none)),
  (158, (.iastore, (159, 0, 0, 0, 0, 0), .inl 0, [], none)),
  (159, (.iinc 1 1, (162, 0, 0, 0, 0, 0), .inl 0, [], none)),
  (162, (.goto (-160), (165, 2, 0, 0, 0, 0), .inl 0, [], none)),
  (165, (.aload_n 0, (166, 0, 0, 0, 0, 0), .inl 0, [], none)),
  (166, (.iconst 1, (167, 0, 0, 0, 0, 0), .inl 0, [], none)),
  (167, (.putfield 61, (170, 11, 10, 3, 0, 0), .inl 0, [], none)),
  (170, (.return_, (171, 0, 0, 0, 0, 0), .inl 0, [], none))]
def z_Ta_lengthAt : List (Nat × sk_E) := [
  (0, (.aload_n 0, (1, 0, 0, 0, 0, 0), .inl 0, [], none)),
  (1, (.getfield 61, (4, 11, 10, 3, 0, 0), .inl 0, [], none)),
  (4, (.ifCond .ne 7, (7, 11, 0, 0, 0, 0), .inl 0, [], none)),
  (7, (.aload_n 0, (8, 0, 0, 0, 0, 0), .inl 0, [], none)),
  (8, (.invokevirtual 118, (11, 85, 1, 0, 10, 11), .inl 0, [], none)),
  (11, (.aload_n 0, (12, 0, 0, 0, 0, 0), .inl 0, [], none)),
  (12, (.getfield 22, (15, 11, 4, 2, 0, 0), .inl 0, [], none)),
  (15, (.iload_n 1, (16, 0, 0, 0, 0, 0), .inl 0, [], none)),
  (16, (.iaload, (17, 0, 0, 0, 0, 0), .inl 0, [], none)),
  (17, (.ireturn, (18, 0, 0, 0, 0, 0), .inl 0, [], none))]
def z_Ta_fillPlayCounts : List (Nat × sk_E) := [
  (0, (.iconst 0, (1, 0, 0, 0, 0, 0), .inl 0, [], none)),
  (1, (.istore_n 1, (2, 0, 0, 0, 0, 0), .inl 0, [], none)),
  (2, (.iload_n 1, (3, 0, 0, 0, 0, 0), .inl 0, [], some [true, true, false, false, false, false, false, false, false])),
  (3, (.aload_n 0, (4, 0, 0, 0, 0, 0), .inl 0, [], none)),
  (4, (.getfield 42, (7, 11, 2, 0, 0, 0), .inl 0, [], none)),
  (7, (.if_icmp .ge 103, (10, 110, 0, 0, 0, 0), .inl 0, [], none)),
  (10, (.iconst 1, (11, 0, 0, 0, 0, 0), .inl 0, [], none)),
  (11, (.istore_n 2, (12, 0, 0, 0, 0, 0), .inl 0, [], none)),
  (12, (.lconst 0, (13, 0, 0, 0, 0, 0), .inl 0, [], none)),
  (13, (.lstore_n 3, (14, 0, 0, 0, 0, 0), .inl 0, [], none)),
  (14, (.aload_n 0, (15, 0, 0, 0, 0, 0), .inl 0, [], none)),
  (15, (.getfield 12, (18, 11, 0, 2, 0, 0), .inl 0, [], none)),
  (18, (.getfield 102, (21, 2, 14, 2, 0, 0), .inl 0, [], none)),
  (21, (.astore 5, (23, 0, 0, 0, 0, 0), .inl 0, [], none)),
  (23, (.aload 5, (25, 0, 0, 0, 0, 0), .inl 0, [], none)),
  (25, (.arraylength, (26, 0, 0, 0, 0, 0), .inl 0, [], none)),
  (26, (.istore 6, (28, 0, 0, 0, 0, 0), .inl 0, [], none)),
  (28, (.iconst 0, (29, 0, 0, 0, 0, 0), .inl 0, [], none)),
  (29, (.istore 7, (31, 0, 0, 0, 0, 0), .inl 0, [], none)),
  (31, (.iload 7, (33, 0, 0, 0, 0, 0), .inl 0, [], some [true, true, true, true, false, true, true, true, false])),
  (33, (.iload 6, (35, 0, 0, 0, 0, 0), .inl 0, [], none)),
  (35, (.if_icmp .ge 49, (38, 84, 0, 0, 0, 0), .inl 0, [], none)),
  (38, (.aload 5, (40, 0, 0, 0, 0, 0), .inl 0, [], none)),
  (40, (.iload 7, (42, 0, 0, 0, 0, 0), .inl 0, [], none)),
  (42, (.aaload, (43, 0, 0, 0, 0, 0), .inl 0, [], none)),
  (43, (.astore 8, (45, 0, 0, 0, 0, 0), .inl 0, [], none)),
  (45, (.aload_n 0, (46, 0, 0, 0, 0, 0), .inl 0, [], none)),
  (46, (.getfield 12, (49, 11, 0, 2, 0, 0), .inl 0, [], none)),
  (49, (.iload_n 1, (50, 0, 0, 0, 0, 0), .inl 0, [], none)),
  (50, (.aload 8, (52, 0, 0, 0, 0, 0), .inl 0, [], none)),
  (52, (.invokevirtual 105, (55, 12, 3, 1, 3, 2), .inl 0, [], none)),
  (55, (.ifCond .eq 23, (58, 78, 0, 0, 0, 0), .inl 0, [], none)),
  (58, (.iconst 0, (59, 0, 0, 0, 0, 0), .inl 0, [], none)),
  (59, (.istore_n 2, (60, 0, 0, 0, 0, 0), .inl 0, [], none)),
  (60, (.lload_n 3, (61, 0, 0, 0, 0, 0), .inl 0, [], none)),
  (61, (.aload_n 0, (62, 0, 0, 0, 0, 0), .inl 0, [], none)),
  (62, (.getfield 26, (65, 11, 5, 2, 0, 0), .inl 0, [], none)),
  (65, (.iload_n 1, (66, 0, 0, 0, 0, 0), .inl 0, [], none)),
  (66, (.aload 8, (68, 0, 0, 0, 0, 0), .inl 0, [], none)),
  (68, (.getfield 77, (71, 10, 3, 0, 0, 0), .inl 0, [], none)),
  (71, (.iconst (-1), (72, 0, 0, 0, 0, 0), .inl 0, [], none)),
  (72, (.ixor, (73, 0, 0, 0, 0, 0), .inl 0, [], none)),
  (73, (.iand, (74, 0, 0, 0, 0, 0), .inl 0, [], none)),
  (74, (.iaload, (75, 0, 0, 0, 0, 0), .inl 0, [], none)),
  (75, (.i2l, (76, 0, 0, 0, 0, 0), .inl 0, [], none)),
  (76, (.ladd, (77, 0, 0, 0, 0, 0), .inl 0, [], none)),
  (77, (.lstore_n 3, (78, 0, 0, 0, 0, 0), .inl 0, [], none)),
  (78, (.iinc 7 1, (81, 0, 0, 0, 0, 0), .inl 0, [], none)),
  (81, (.goto (-50), (84, 31, 0, 0, 0, 0), .inl 0, [], none)),
  (84, (.aload_n 0, (85, 0, 0, 0, 0, 0), .inl 0, [], none)),
  (85, (.getfield 26, (88, 11, 5, 2, 0, 0), .inl 0, [], none)),
  (88, (.iload_n 1, (89, 0, 0, 0, 0, 0), .inl 0, [], none)),
  (89, (.iload_n 2, (90, 0, 0, 0, 0, 0), .inl 0, [], none)),
  (90, (.ifCond .eq 7, (93, 97, 0, 0, 0, 0), .inl 0, [], none)),
  (93, (.iconst 1, (94, 0, 0, 0, 0, 0), .inl 0, [], none)),
  (94, (.goto 9, (97, 103, 0, 0, 0, 0), .inl 0, [], none)),
  (97, (.lload_n 3, (98, 0, 0, 0, 0, 0), .inl 0, [], none)),
  (98, (.ldc2_w 121, (101, 0, 0, 0, 0, 0), .inr (.inl (1000000007)), [], none)),
  (101, (.lrem, (102, 0, 0, 0, 0, 0), .inl 0, [], none)),
  (102, (.l2i, (103, 0, 0, 0, 0, 0), .inl 0, [], none)),
  (103, (.iastore, (104, 0, 0, 0, 0, 0), .inl 0, [], none)),
  (104, (.iinc 1 1, (107, 0, 0, 0, 0, 0), .inl 0, [], none)),
  (107, (.goto (-105), (110, 2, 0, 0, 0, 0), .inl 0, [], none)),
  (110, (.aload_n 0, (111, 0, 0, 0, 0, 0), .inl 0, [], none)),
  (111, (.iconst 1, (112, 0, 0, 0, 0, 0), .inl 0, [], none)),
  (112, (.putfield 64, (115, 11, 11, 3, 0, 0), .inl 0, [], none)),
  (115, (.return_, (116, 0, 0, 0, 0, 0), .inl 0, [], none))]
def z_Ta_playsAt : List (Nat × sk_E) := [
  (0, (.aload_n 0, (1, 0, 0, 0, 0, 0), .inl 0, [], none)),
  (1, (.getfield 64, (4, 11, 11, 3, 0, 0), .inl 0, [], none)),
  (4, (.ifCond .ne 7, (7, 11, 0, 0, 0, 0), .inl 0, [], none)),
  (7, (.aload_n 0, (8, 0, 0, 0, 0, 0), .inl 0, [], none)),
  (8, (.invokevirtual 123, (11, 87, 1, 0, 9, 11), .inl 0, [], none)),
  (11, (.aload_n 0, (12, 0, 0, 0, 0, 0), .inl 0, [], none)),
  (12, (.getfield 26, (15, 11, 5, 2, 0, 0), .inl 0, [], none)),
  (15, (.iload_n 1, (16, 0, 0, 0, 0, 0), .inl 0, [], none)),
  (16, (.iaload, (17, 0, 0, 0, 0, 0), .inl 0, [], none)),
  (17, (.ireturn, (18, 0, 0, 0, 0, 0), .inl 0, [], none))]
def z_Ta_fillChances : List (Nat × sk_E) := [
  (0, (.aload_n 0, (1, 0, 0, 0, 0, 0), .inl 0, [], none)),
  (1, (.getfield 12, (4, 11, 0, 2, 0, 0), .inl 0, [], none)),
  (4, (.getfield 52, (7, 2, 6, 3, 0, 0), .inl 0, [], none)),
  (7, (.ifCond .eq 9, (10, 16, 0, 0, 0, 0), .inl 0, [], none)),
  (10, (.sipush 10000, (13, 0, 0, 0, 0, 0), .inl 0, [], none)),
  (13, (.goto 4, (16, 17, 0, 0, 0, 0), .inl 0, [], none)),
  (16, (.iconst 0, (17, 0, 0, 0, 0, 0), .inl 0, [], none)),
  (17, (.istore_n 1, (18, 0, 0, 0, 0, 0), .inl 0, [], none)),
  (18, (.iconst 0, (19, 0, 0, 0, 0, 0), .inl 0, [], none)),
  (19, (.istore_n 2, (20, 0, 0, 0, 0, 0), .inl 0, [], none)),
  (20, (.iload_n 2, (21, 0, 0, 0, 0, 0), .inl 0, [], some [true, true, true, false, false, false, false, false, false, false, false])),
  (21, (.aload_n 0, (22, 0, 0, 0, 0, 0), .inl 0, [], none)),
  (22, (.getfield 42, (25, 11, 2, 0, 0, 0), .inl 0, [], none)),
  (25, (.if_icmp .ge 154, (28, 179, 0, 0, 0, 0), .inl 0, [], none)),
  (28, (.iconst (-1), (29, 0, 0, 0, 0, 0), .inl 0, [], none)),
  (29, (.istore_n 3, (30, 0, 0, 0, 0, 0), .inl 0, [], none)),
  (30, (.aload_n 0, (31, 0, 0, 0, 0, 0), .inl 0, [], none)),
  (31, (.getfield 12, (34, 11, 0, 2, 0, 0), .inl 0, [], none)),
  (34, (.getfield 102, (37, 2, 14, 2, 0, 0), .inl 0, [], none)),
  (37, (.astore 4, (39, 0, 0, 0, 0, 0), .inl 0, [], none)),
  (39, (.aload 4, (41, 0, 0, 0, 0, 0), .inl 0, [], none)),
  (41, (.arraylength, (42, 0, 0, 0, 0, 0), .inl 0, [], none)),
  (42, (.istore 5, (44, 0, 0, 0, 0, 0), .inl 0, [], none)),
  (44, (.iconst 0, (45, 0, 0, 0, 0, 0), .inl 0, [], none)),
  (45, (.istore 6, (47, 0, 0, 0, 0, 0), .inl 0, [], none)),
  (47, (.iload 6, (49, 0, 0, 0, 0, 0), .inl 0, [], some [true, true, true, true, true, true, true, false, false, false, false])),
  (49, (.iload 5, (51, 0, 0, 0, 0, 0), .inl 0, [], none)),
  (51, (.if_icmp .ge 106, (54, 157, 0, 0, 0, 0), .inl 0, [], none)),
  (54, (.aload 4, (56, 0, 0, 0, 0, 0), .inl 0, [], none)),
  (56, (.iload 6, (58, 0, 0, 0, 0, 0), .inl 0, [], none)),
  (58, (.aaload, (59, 0, 0, 0, 0, 0), .inl 0, [], none)),
  (59, (.astore 7, (61, 0, 0, 0, 0, 0), .inl 0, [], none)),
  (61, (.aload_n 0, (62, 0, 0, 0, 0, 0), .inl 0, [], none)),
  (62, (.getfield 12, (65, 11, 0, 2, 0, 0), .inl 0, [], none)),
  (65, (.iload_n 2, (66, 0, 0, 0, 0, 0), .inl 0, [], none)),
  (66, (.aload 7, (68, 0, 0, 0, 0, 0), .inl 0, [], none)),
  (68, (.invokevirtual 105, (71, 12, 3, 1, 3, 2), .inl 0, [], none)),
  (71, (.ifCond .eq 80, (74, 151, 0, 0, 0, 0), .inl 0, [], none)),
  (74, (.iload_n 2, (75, 0, 0, 0, 0, 0), .inl 0, [], none)),
  (75, (.aload 7, (77, 0, 0, 0, 0, 0), .inl 0, [], none)),
  (77, (.getfield 77, (80, 10, 3, 0, 0, 0), .inl 0, [], none)),
  (80, (.iconst (-1), (81, 0, 0, 0, 0, 0), .inl 0, [], none)),
  (81, (.ixor, (82, 0, 0, 0, 0, 0), .inl 0, [], none)),
  (82, (.iand, (83, 0, 0, 0, 0, 0), .inl 0, [], none)),
  (83, (.istore 8, (85, 0, 0, 0, 0, 0), .inl 0, [], none)),
  (85, (.iload 8, (87, 0, 0, 0, 0, 0), .inl 0, [], none)),
  (87, (.aload 7, (89, 0, 0, 0, 0, 0), .inl 0, [], none)),
  (89, (.getfield 126, (92, 10, 5, 0, 0, 0), .inl 0, [], none)),
  (92, (.iconst (-1), (93, 0, 0, 0, 0, 0), .inl 0, [], none)),
  (93, (.ixor, (94, 0, 0, 0, 0, 0), .inl 0, [], none)),
  (94, (.iand, (95, 0, 0, 0, 0, 0), .inl 0, [], none)),
  (95, (.istore 9, (97, 0, 0, 0, 0, 0), .inl 0, [], none)),
  (97, (.bipush 100, (99, 0, 0, 0, 0, 0), .inl 0, [], none)),
  (99, (.aload_n 0, (100, 0, 0, 0, 0, 0), .inl 0, [], none)),
  (100, (.getfield 12, (103, 11, 0, 2, 0, 0), .inl 0, [], none)),
  (103, (.getfield 129, (106, 2, 7, 0, 0, 0), .inl 0, [], none)),
  (106, (.isub, (107, 0, 0, 0, 0, 0), .inl 0, [], none)),
  (107, (.sipush 10000, (110, 0, 0, 0, 0, 0), .inl 0, [], none)),
  (110, (.aload_n 0, (111, 0, 0, 0, 0, 0), .inl 0, [], none)),
  (111, (.getfield 29, (114, 11, 6, 2, 0, 0), .inl 0, [], none)),
  (114, (.iload 8, (116, 0, 0, 0, 0, 0), .inl 0, [], none)),
  (116, (.iaload, (117, 0, 0, 0, 0, 0), .inl 0, [], none)),
  (117, (.isub, (118, 0, 0, 0, 0, 0), .inl 0, [], none)),
  (118, (.imul, (119, 0, 0, 0, 0, 0), .inl 0, [], none)),
  (119, (.aload_n 0, (120, 0, 0, 0, 0, 0), .inl 0, [], none)),
  (120, (.getfield 12, (123, 11, 0, 2, 0, 0), .inl 0, [], none)),
  (123, (.getfield 129, (126, 2, 7, 0, 0, 0), .inl 0, [], none)),
  (126, (.sipush 10000, (129, 0, 0, 0, 0, 0), .inl 0, [], none)),
  (129, (.aload_n 0, (130, 0, 0, 0, 0, 0), .inl 0, [], none)),
  (130, (.getfield 29, (133, 11, 6, 2, 0, 0), .inl 0, [], none)),
  (133, (.iload 9, (135, 0, 0, 0, 0, 0), .inl 0, [], none)),
  (135, (.iaload, (136, 0, 0, 0, 0, 0), .inl 0, [], none)),
  (136, (.isub, (137, 0, 0, 0, 0, 0), .inl 0, [], none)),
  (137, (.imul, (138, 0, 0, 0, 0, 0), .inl 0, [], none)),
  (138, (.iadd, (139, 0, 0, 0, 0, 0), .inl 0, [], none)),
  (139, (.istore 10, (141, 0, 0, 0, 0, 0), .inl 0, [], none)),
  (141, (.iload_n 3, (142, 0, 0, 0, 0, 0), .inl 0, [], none)),
  (142, (.iload 10, (144, 0, 0, 0, 0, 0), .inl 0, [], none)),
  (144, (.bipush 100, (146, 0, 0, 0, 0, 0), .inl 0, [], none)),
  (146, (.idiv, (147, 0, 0, 0, 0, 0), .inl 0, [], none)),
  (147, (.invokestatic 112, (150, 241, 2, 1, 2, 0), .inl 0, [], none)),
  (150, (.istore_n 3, (151, 0, 0, 0, 0, 0), .inl 0, [], none)),
  (151, (.iinc 6 1, (154, 0, 0, 0, 0, 0), .inl 0, [], none)),
  (154, (.goto (-107), (157, 47, 0, 0, 0, 0), .inl 0, [], none)),
  (157, (.aload_n 0, (158, 0, 0, 0, 0, 0), .inl 0, [], none)),
  (158, (.getfield 29, (161, 11, 6, 2, 0, 0), .inl 0, [], none)),
  (161, (.iload_n 2, (162, 0, 0, 0, 0, 0), .inl 0, [], none)),
  (162, (.iload_n 3, (163, 0, 0, 0, 0, 0), .inl 0, [], none)),
  (163, (.iconst (-1), (164, 0, 0, 0, 0, 0), .inl 0, [], none)),
  (164, (.if_icmp .ne 7, (167, 171, 0, 0, 0, 0), .inl 0, [], none)),
  (167, (.iload_n 1, (168, 0, 0, 0, 0, 0), .inl 0, [], none)),
  (168, (.goto 4, (171, 172, 0, 0, 0, 0), .inl 0, [], none)),
  (171, (.iload_n 3, (172, 0, 0, 0, 0, 0), .inl 0, [], none)),
  (172, (.iastore, (173, 0, 0, 0, 0, 0), .inl 0, [], none)),
  (173, (.iinc 2 1, (176, 0, 0, 0, 0, 0), .inl 0, [], none)),
  (176, (.goto (-156), (179, 20, 0, 0, 0, 0), .inl 0, [], none)),
  (179, (.aload_n 0, (180, 0, 0, 0, 0, 0), .inl 0, [], none)),
  (180, (.iconst 1, (181, 0, 0, 0, 0, 0), .inl 0, [], none)),
  (181, (.putfield 67, (184, 11, 12, 3, 0, 0), .inl 0, [], none)),
  (184, (.return_, (185, 0, 0, 0, 0, 0), .inl 0, [], none))]
def z_Ta_chanceAt : List (Nat × sk_E) := [
  (0, (.aload_n 0, (1, 0, 0, 0, 0, 0), .inl 0, [], none)),
  (1, (.getfield 67, (4, 11, 12, 3, 0, 0), .inl 0, [], none)),
  (4, (.ifCond .ne 7, (7, 11, 0, 0, 0, 0), .inl 0, [], none)),
  (7, (.aload_n 0, (8, 0, 0, 0, 0, 0), .inl 0, [], none)),
  (8, (.invokevirtual 132, (11, 89, 1, 0, 11, 11), .inl 0, [], none)),
  (11, (.aload_n 0, (12, 0, 0, 0, 0, 0), .inl 0, [], none)),
  (12, (.getfield 29, (15, 11, 6, 2, 0, 0), .inl 0, [], none)),
  (15, (.iload_n 1, (16, 0, 0, 0, 0, 0), .inl 0, [], none)),
  (16, (.iaload, (17, 0, 0, 0, 0, 0), .inl 0, [], none)),
  (17, (.ireturn, (18, 0, 0, 0, 0, 0), .inl 0, [], none))]
def z_Ta_fillClever : List (Nat × sk_E) := [
  (0, (.aload_n 0, (1, 0, 0, 0, 0, 0), .inl 0, [], none)),
  (1, (.getfield 12, (4, 11, 0, 2, 0, 0), .inl 0, [], none)),
  (4, (.getfield 52, (7, 2, 6, 3, 0, 0), .inl 0, [], none)),
  (7, (.ifCond .eq 9, (10, 16, 0, 0, 0, 0), .inl 0, [], none)),
  (10, (.sipush 10000, (13, 0, 0, 0, 0, 0), .inl 0, [], none)),
  (13, (.goto 4, (16, 17, 0, 0, 0, 0), .inl 0, [], none)),
  (16, (.iconst 0, (17, 0, 0, 0, 0, 0), .inl 0, [], none)),
  (17, (.istore_n 1, (18, 0, 0, 0, 0, 0), .inl 0, [], none)),
  (18, (.iconst 0, (19, 0, 0, 0, 0, 0), .inl 0, [], none)),
  (19, (.istore_n 2, (20, 0, 0, 0, 0, 0), .inl 0, [], none)),
  (20, (.iload_n 2, (21, 0, 0, 0, 0, 0), .inl 0, [], some [true, true, true, false, false, false, false, false, false, false])),
  (21, (.aload_n 0, (22, 0, 0, 0, 0, 0), .inl 0, [], none)),
  (22, (.getfield 42, (25, 11, 2, 0, 0, 0), .inl 0, [], none)),
  (25, (.if_icmp .ge 148, (28, 173, 0, 0, 0, 0), .inl 0, [], none)),
  (28, (.iconst 0, (29, 0, 0, 0, 0, 0), .inl 0, [], none)),
  (29, (.istore_n 3, (30, 0, 0, 0, 0, 0), .inl 0, [], none)),
  (30, (.iconst 0, (31, 0, 0, 0, 0, 0), .inl 0, [], none)),
  (31, (.istore 4, (33, 0, 0, 0, 0, 0), .inl 0, [], none)),
  (33, (.iconst 0, (34, 0, 0, 0, 0, 0), .inl 0, [], none)),
  (34, (.istore 5, (36, 0, 0, 0, 0, 0), .inl 0, [], none)),
  (36, (.aload_n 0, (37, 0, 0, 0, 0, 0), .inl 0, [], none)),
  (37, (.getfield 12, (40, 11, 0, 2, 0, 0), .inl 0, [], none)),
  (40, (.getfield 102, (43, 2, 14, 2, 0, 0), .inl 0, [], none)),
  (43, (.astore 6, (45, 0, 0, 0, 0, 0), .inl 0, [], none)),
  (45, (.aload 6, (47, 0, 0, 0, 0, 0), .inl 0, [], none)),
  (47, (.arraylength, (48, 0, 0, 0, 0, 0), .inl 0, [], none)),
  (48, (.istore 7, (50, 0, 0, 0, 0, 0), .inl 0, [], none)),
  (50, (.iconst 0, (51, 0, 0, 0, 0, 0), .inl 0, [], none)),
  (51, (.istore 8, (53, 0, 0, 0, 0, 0), .inl 0, [], none)),
  (53, (.iload 8, (55, 0, 0, 0, 0, 0), .inl 0, [], some [true, true, true, true, true, true, true, true, true, false])),
  (55, (.iload 7, (57, 0, 0, 0, 0, 0), .inl 0, [], none)),
  (57, (.if_icmp .ge 70, (60, 127, 0, 0, 0, 0), .inl 0, [], none)),
  (60, (.aload 6, (62, 0, 0, 0, 0, 0), .inl 0, [], none)),
  (62, (.iload 8, (64, 0, 0, 0, 0, 0), .inl 0, [], none)),
  (64, (.aaload, (65, 0, 0, 0, 0, 0), .inl 0, [], none)),
  (65, (.astore 9, (67, 0, 0, 0, 0, 0), .inl 0, [], none)),
  (67, (.aload_n 0, (68, 0, 0, 0, 0, 0), .inl 0, [], none)),
  (68, (.getfield 12, (71, 11, 0, 2, 0, 0), .inl 0, [], none)),
  (71, (.iload_n 2, (72, 0, 0, 0, 0, 0), .inl 0, [], none)),
  (72, (.aload 9, (74, 0, 0, 0, 0, 0), .inl 0, [], none)),
  (74, (.invokevirtual 105, (77, 12, 3, 1, 3, 2), .inl 0, [], none)),
  (77, (.ifCond .eq 44, (80, 121, 0, 0, 0, 0), .inl 0, [], none)),
  (80, (.iload_n 3, (81, 0, 0, 0, 0, 0), .inl 0, [], none)),
  (81, (.aload_n 0, (82, 0, 0, 0, 0, 0), .inl 0, [], none)),
  (82, (.getfield 35, (85, 11, 8, 2, 0, 0), .inl 0, [], none)),
  (85, (.iload_n 2, (86, 0, 0, 0, 0, 0), .inl 0, [], none)),
  (86, (.aload 9, (88, 0, 0, 0, 0, 0), .inl 0, [], none)),
  (88, (.getfield 77, (91, 10, 3, 0, 0, 0), .inl 0, [], none)),
  (91, (.iconst (-1), (92, 0, 0, 0, 0, 0), .inl 0, [], none)),
  (92, (.ixor, (93, 0, 0, 0, 0, 0), .inl 0, [], none)),
  (93, (.iand, (94, 0, 0, 0, 0, 0), .inl 0, [], none)),
  (94, (.iaload, (95, 0, 0, 0, 0, 0), .inl 0, [], none)),
  (95, (.invokestatic 112, (98, 241, 2, 1, 2, 0), .inl 0, [], none)),
  (98, (.istore_n 3, (99, 0, 0, 0, 0, 0), .inl 0, [], none)),
  (99, (.iload 4, (101, 0, 0, 0, 0, 0), .inl 0, [], none)),
  (101, (.aload_n 0, (102, 0, 0, 0, 0, 0), .inl 0, [], none)),
  (102, (.getfield 32, (105, 11, 7, 2, 0, 0), .inl 0, [], none)),
  (105, (.iload_n 2, (106, 0, 0, 0, 0, 0), .inl 0, [], none)),
  (106, (.aload 9, (108, 0, 0, 0, 0, 0), .inl 0, [], none)),
  (108, (.getfield 77, (111, 10, 3, 0, 0, 0), .inl 0, [], none)),
  (111, (.iconst (-1), (112, 0, 0, 0, 0, 0), .inl 0, [], none)),
  (112, (.ixor, (113, 0, 0, 0, 0, 0), .inl 0, [], none)),
  (113, (.iand, (114, 0, 0, 0, 0, 0), .inl 0, [], none)),
  (114, (.iaload, (115, 0, 0, 0, 0, 0), .inl 0, [], none)),
  (115, (.iadd, (116, 0, 0, 0, 0, 0), .inl 0, [], none)),
  (116, (.istore 4, (118, 0, 0, 0, 0, 0), .inl 0, [], none)),
  (118, (.iinc 5 1, (121, 0, 0, 0, 0, 0), .inl 0, [], none)),
  (121, (.iinc 8 1, (124, 0, 0, 0, 0, 0), .inl 0, [], none)),
  (124, (.goto (-71), (127, 53, 0, 0, 0, 0), .inl 0, [], none)),
  (127, (.aload_n 0, (128, 0, 0, 0, 0, 0), .inl 0, [], none)),
  (128, (.getfield 32, (131, 11, 7, 2, 0, 0), .inl 0, [], none)),
  (131, (.iload_n 2, (132, 0, 0, 0, 0, 0), .inl 0, [], none)),
  (132, (.iload 5, (134, 0, 0, 0, 0, 0), .inl 0, [], none)),
  (134, (.ifCond .ne 7, (137, 141, 0, 0, 0, 0), .inl 0, [], none)),
  (137, (.iload_n 1, (138, 0, 0, 0, 0, 0), .inl 0, [], none)),
  (138, (.goto 4, (141, 142, 0, 0, 0, 0), .inl 0, [], none)),
  (141, (.iload_n 3, (142, 0, 0, 0, 0, 0), .inl 0, [], none)),
  (142, (.iastore, (143, 0, 0, 0, 0, 0), .inl 0, [], some [true, true, true, false, true, true, false, false, false, false])),
  (143, (.aload_n 0, (144, 0, 0, 0, 0, 0), .inl 0, [], none)),
  (144, (.getfield 35, (147, 11, 8, 2, 0, 0), .inl 0, [], none)),
  (147, (.iload_n 2, (148, 0, 0, 0, 0, 0), .inl 0, [], none)),
  (148, (.iload 5, (150, 0, 0, 0, 0, 0), .inl 0, [], none)),
  (150, (.ifCond .ne 11, (153, 161, 0, 0, 0, 0), .inl 0, [], none)),
  (153, (.sipush 10000, (156, 0, 0, 0, 0, 0), .inl 0, [], none)),
  (156, (.iload_n 1, (157, 0, 0, 0, 0, 0), .inl 0, [], none)),
  (157, (.isub, (158, 0, 0, 0, 0, 0), .inl 0, [], none)),
  (158, (.goto 8, (161, 166, 0, 0, 0, 0), .inl 0, [], none)),
  (161, (.iload 4, (163, 0, 0, 0, 0, 0), .inl 0, [], none)),
  (163, (.iload 5, (165, 0, 0, 0, 0, 0), .inl 0, [], none)),
  (165, (.idiv, (166, 0, 0, 0, 0, 0), .inl 0, [], none)),
  (166, (.iastore, (167, 0, 0, 0, 0, 0), .inl 0, [], none)),
  (167, (.iinc 2 1, (170, 0, 0, 0, 0, 0), .inl 0, [], none)),
  (170, (.goto (-150), (173, 20, 0, 0, 0, 0), .inl 0, [], none)),
  (173, (.aload_n 0, (174, 0, 0, 0, 0, 0), .inl 0, [], none)),
  (174, (.iconst 1, (175, 0, 0, 0, 0, 0), .inl 0, [], none)),
  (175, (.putfield 70, (178, 11, 13, 3, 0, 0), .inl 0, [], none)),
  (178, (.return_, (179, 0, 0, 0, 0, 0), .inl 0, [], none))]
def z_Ta_childAt : List (Nat × sk_E) := [
  (0, (.aload_n 0, (1, 0, 0, 0, 0, 0), .inl 0, [], none)),
  (1, (.getfield 70, (4, 11, 13, 3, 0, 0), .inl 0, [], none)),
  (4, (.ifCond .ne 7, (7, 11, 0, 0, 0, 0), .inl 0, [], none)),
  (7, (.aload_n 0, (8, 0, 0, 0, 0, 0), .inl 0, [], none)),
  (8, (.invokevirtual 135, (11, 91, 1, 0, 10, 11), .inl 0, [], none)),
  (11, (.aload_n 0, (12, 0, 0, 0, 0, 0), .inl 0, [], none)),
  (12, (.getfield 32, (15, 11, 7, 2, 0, 0), .inl 0, [], none)),
  (15, (.iload_n 1, (16, 0, 0, 0, 0, 0), .inl 0, [], none)),
  (16, (.iaload, (17, 0, 0, 0, 0, 0), .inl 0, [], none)),
  (17, (.ireturn, (18, 0, 0, 0, 0, 0), .inl 0, [], none))]
def z_SR_init : List (Nat × sk_E) := [
  (0, (.aload_n 0, (1, 0, 0, 0, 0, 0), .inl 0, [], none)),
  (1, (.invokespecial 3, (4, 0, 1, 0, 0, 0), .inl 0, [], none)),
  (4, (.aload_n 0, (5, 0, 0, 0, 0, 0), .inl 0, [], none)),
  (5, (.sipush 400, (8, 0, 0, 0, 0, 0), .inl 0, [], none)),
  (8, (.newarray .char, (10, 0, 0, 0, 0, 0), .inl 0, [], none)),
  (10, (.putfield 9, (13, 12, 0, 2, 0, 0), .inl 0, [], none)),
  (13, (.aload_n 0, (14, 0, 0, 0, 0, 0), .inl 0, [], none)),
  (14, (.bipush 6, (16, 0, 0, 0, 0, 0), .inl 0, [], none)),
  (16, (.anewarray 13, (19, 106, 0, 0, 0, 0), .inl 0, [], none)),
  (19, (.putfield 15, (22, 12, 2, 2, 0, 0), .inl 0, [], none)),
  (22, (.aload_n 0, (23, 0, 0, 0, 0, 0), .inl 0, [], none)),
  (23, (.new 19, (26, 9, 8, 0, 0, 0), .inl 0, [], none)),
  (26, (.dup, (27, 0, 0, 0, 0, 0), .inl 0, [], none)),
  (27, (.invokespecial 21, (30, 71, 1, 0, 1, 0), .inl 0, [], none)),
  (30, (.putfield 22, (33, 12, 4, 2, 0, 0), .inl 0, [], none)),
  (33, (.aload_n 0, (34, 0, 0, 0, 0, 0), .inl 0, [], none)),
  (34, (.iconst 4, (35, 0, 0, 0, 0, 0), .inl 0, [], none)),
  (35, (.anewarray 19, (38, 107, 0, 0, 0, 0), .inl 0, [], none)),
  (38, (.putfield 26, (41, 12, 5, 2, 0, 0), .inl 0, [], none)),
  (41, (.aload_n 0, (42, 0, 0, 0, 0, 0), .inl 0, [], none)),
  (42, (.new 30, (45, 1, 5, 0, 0, 0), .inl 0, [], none)),
  (45, (.dup, (46, 0, 0, 0, 0, 0), .inl 0, [], none)),
  (46, (.invokespecial 32, (49, 1, 1, 0, 1, 0), .inl 0, [], none)),
  (49, (.putfield 33, (52, 12, 6, 2, 0, 0), .inl 0, [], none)),
  (52, (.aload_n 0, (53, 0, 0, 0, 0, 0), .inl 0, [], none)),
  (53, (.new 37, (56, 11, 14, 0, 0, 0), .inl 0, [], none)),
  (56, (.dup, (57, 0, 0, 0, 0, 0), .inl 0, [], none)),
  (57, (.invokespecial 39, (60, 79, 1, 0, 1, 0), .inl 0, [], none)),
  (60, (.putfield 40, (63, 12, 7, 2, 0, 0), .inl 0, [], none)),
  (63, (.aload_n 0, (64, 0, 0, 0, 0, 0), .inl 0, [], none)),
  (64, (.new 44, (67, 4, 9, 0, 0, 0), .inl 0, [], none)),
  (67, (.dup, (68, 0, 0, 0, 0, 0), .inl 0, [], none)),
  (68, (.invokespecial 46, (71, 30, 1, 0, 1, 0), .inl 0, [], none)),
  (71, (.putfield 47, (74, 12, 8, 2, 0, 0), .inl 0, [], none)),
  (74, (.return_, (75, 0, 0, 0, 0, 0), .inl 0, [], none))]
def z_SR_feed : List (Nat × sk_E) := [
  (0, (.aload_n 0, (1, 0, 0, 0, 0, 0), .inl 0, [], none)),
  (1, (.getfield 51, (4, 12, 1, 0, 0, 0), .inl 0, [], none)),
  (4, (.bipush 20, (6, 0, 0, 0, 0, 0), .inl 0, [], none)),
  (6, (.iadd, (7, 0, 0, 0, 0, 0), .inl 0, [], none)),
  (7, (.sipush 400, (10, 0, 0, 0, 0, 0), .inl 0, [], none)),
  (10, (.if_icmp .le 5, (13, 15, 0, 0, 0, 0), .inl 0, [], none)),
  (13, (.iconst (-1), (14, 0, 0, 0, 0, 0), .inl 0, [], none)),
  (14, (.ireturn, (15, 0, 0, 0, 0, 0), .inl 0, [], none)),
  (15, (.aload_n 0, (16, 0, 0, 0, 0, 0), .inl 0, [], none)),
  (16, (.iload_n 1, (17, 0, 0, 0, 0, 0), .inl 0, [], none)),
  (17, (.invokevirtual 55, (20, 95, 2, 0, 3, 12), .inl 0, [], none)),
  (20, (.aload_n 0, (21, 0, 0, 0, 0, 0), .inl 0, [], none)),
  (21, (.iload_n 2, (22, 0, 0, 0, 0, 0), .inl 0, [], none)),
  (22, (.invokevirtual 55, (25, 95, 2, 0, 3, 12), .inl 0, [], none)),
  (25, (.aload_n 0, (26, 0, 0, 0, 0, 0), .inl 0, [], none)),
  (26, (.iload_n 3, (27, 0, 0, 0, 0, 0), .inl 0, [], none)),
  (27, (.invokevirtual 55, (30, 95, 2, 0, 3, 12), .inl 0, [], none)),
  (30, (.aload_n 0, (31, 0, 0, 0, 0, 0), .inl 0, [], none)),
  (31, (.iload 4, (33, 0, 0, 0, 0, 0), .inl 0, [], none)),
  (33, (.invokevirtual 55, (36, 95, 2, 0, 3, 12), .inl 0, [], none)),
  (36, (.aload_n 0, (37, 0, 0, 0, 0, 0), .inl 0, [], none)),
  (37, (.iload 5, (39, 0, 0, 0, 0, 0), .inl 0, [], none)),
  (39, (.invokevirtual 55, (42, 95, 2, 0, 3, 12), .inl 0, [], none)),
  (42, (.aload_n 0, (43, 0, 0, 0, 0, 0), .inl 0, [], none)),
  (43, (.getfield 51, (46, 12, 1, 0, 0, 0), .inl 0, [], none)),
  (46, (.ireturn, (47, 0, 0, 0, 0, 0), .inl 0, [], none))]
def z_SR_putBytes : List (Nat × sk_E) := [
  (0, (.bipush 24, (2, 0, 0, 0, 0, 0), .inl 0, [], none)),
  (2, (.istore_n 2, (3, 0, 0, 0, 0, 0), .inl 0, [], none)),
  (3, (.iload_n 2, (4, 0, 0, 0, 0, 0), .inl 0, [], some [true, true, true])),
  (4, (.ifCond .lt 46, (7, 50, 0, 0, 0, 0), .inl 0, [], none)),
  (7, (.aload_n 0, (8, 0, 0, 0, 0, 0), .inl 0, [], none)),
  (8, (.getfield 51, (11, 12, 1, 0, 0, 0), .inl 0, [], none)),
  (11, (.sipush 400, (14, 0, 0, 0, 0, 0), .inl 0, [], none)),
  (14, (.if_icmp .ge 36, (17, 50, 0, 0, 0, 0), .inl 0, [], none)),
  (17, (.aload_n 0, (18, 0, 0, 0, 0, 0), .inl 0, [], none)),
  (18, (.getfield 9, (21, 12, 0, 2, 0, 0), .inl 0, [], none)),
  (21, (.aload_n 0, (22, 0, 0, 0, 0, 0), .inl 0, [], none)),
  (22, (.getfield 51, (25, 12, 1, 0, 0, 0), .inl 0, [], none)),
  (25, (.iload_n 1, (26, 0, 0, 0, 0, 0), .inl 0, [], none)),
  (26, (.iload_n 2, (27, 0, 0, 0, 0, 0), .inl 0, [], none)),
  (27, (.iushr, (28, 0, 0, 0, 0, 0), .inl 0, [], none)),
  (28, (.sipush 255, (31, 0, 0, 0, 0, 0), .inl 0, [], none)),
  (31, (.iand, (32, 0, 0, 0, 0, 0), .inl 0, [], none)),
  (32, (.i2c, (33, 0, 0, 0, 0, 0), .inl 0, [], none)),
  (33, (.castore, (34, 0, 0, 0, 0, 0), .inl 0, [], none)),
  (34, (.aload_n 0, (35, 0, 0, 0, 0, 0), .inl 0, [], none)),
  (35, (.dup, (36, 0, 0, 0, 0, 0), .inl 0, [], none)),
  (36, (.getfield 51, (39, 12, 1, 0, 0, 0), .inl 0, [], none)),
  (39, (.iconst 1, (40, 0, 0, 0, 0, 0), .inl 0, [], none)),
  (40, (.iadd, (41, 0, 0, 0, 0, 0), .inl 0, [], none)),
  (41, (.putfield 51, (44, 12, 1, 0, 0, 0), .inl 0, [], none)),
  (44, (.iinc 2 (-8), (47, 0, 0, 0, 0, 0), .inl 0, [], none)),
  (47, (.goto (-44), (50, 3, 0, 0, 0, 0), .inl 0, [], none)),
  (50, (.return_, (51, 0, 0, 0, 0, 0), .inl 0, [], none))]
def z_SR_end : List (Nat × sk_E) := [
  (0, (.iload_n 1, (1, 0, 0, 0, 0, 0), .inl 0, [], none)),
  (1, (.ifCond .lt 11, (4, 12, 0, 0, 0, 0), .inl 0, [], none)),
  (4, (.iload_n 1, (5, 0, 0, 0, 0, 0), .inl 0, [], none)),
  (5, (.aload_n 0, (6, 0, 0, 0, 0, 0), .inl 0, [], none)),
  (6, (.getfield 51, (9, 12, 1, 0, 0, 0), .inl 0, [], none)),
  (9, (.if_icmp .le 5, (12, 14, 0, 0, 0, 0), .inl 0, [], none)),
  (12, (.iconst (-1), (13, 0, 0, 0, 0, 0), .inl 0, [], none)),
  (13, (.ireturn, (14, 0, 0, 0, 0, 0), .inl 0, [], none)),
  (14, (.aload_n 0, (15, 0, 0, 0, 0, 0), .inl 0, [], none)),
  (15, (.iload_n 1, (16, 0, 0, 0, 0, 0), .inl 0, [], none)),
  (16, (.putfield 51, (19, 12, 1, 0, 0, 0), .inl 0, [], none)),
  (19, (.iload_n 1, (20, 0, 0, 0, 0, 0), .inl 0, [], none)),
  (20, (.ireturn, (21, 0, 0, 0, 0, 0), .inl 0, [], none))]
def z_SR_alley : List (Nat × sk_E) := [
  (0, (.new 59, (3, 6, 4, 0, 0, 0), .inl 0, [], none)),
  (3, (.dup, (4, 0, 0, 0, 0, 0), .inl 0, [], none)),
  (4, (.aload_n 0, (5, 0, 0, 0, 0, 0), .inl 0, [], none)),
  (5, (.getfield 9, (8, 12, 0, 2, 0, 0), .inl 0, [], none)),
  (8, (.aload_n 0, (9, 0, 0, 0, 0, 0), .inl 0, [], none)),
  (9, (.getfield 51, (12, 12, 1, 0, 0, 0), .inl 0, [], none)),
  (12, (.invokespecial 61, (15, 39, 3, 0, 3, 0), .inl 0, [], none)),
  (15, (.astore_n 1, (16, 0, 0, 0, 0, 0), .inl 0, [], none)),
  (16, (.new 64, (19, 3, 2, 0, 0, 0), .inl 0, [], none)),
  (19, (.dup, (20, 0, 0, 0, 0, 0), .inl 0, [], none)),
  (20, (.aload_n 1, (21, 0, 0, 0, 0, 0), .inl 0, [], none)),
  (21, (.invokespecial 66, (24, 22, 2, 0, 2, 0), .inl 0, [], none)),
  (24, (.invokevirtual 69, (27, 23, 1, 3, 2, 3), .inl 0, [], none)),
  (27, (.astore_n 2, (28, 0, 0, 0, 0, 0), .inl 0, [], none)),
  (28, (.aload_n 0, (29, 0, 0, 0, 0, 0), .inl 0, [], none)),
  (29, (.iconst 0, (30, 0, 0, 0, 0, 0), .inl 0, [], none)),
  (30, (.putfield 51, (33, 12, 1, 0, 0, 0), .inl 0, [], none)),
  (33, (.aload_n 1, (34, 0, 0, 0, 0, 0), .inl 0, [], none)),
  (34, (.invokevirtual 73, (37, 40, 1, 1, 1, 6), .inl 0, [], none)),
  (37, (.ifCond .ne 11, (40, 48, 0, 0, 0, 0), .inl 0, [], none)),
  (40, (.bipush (-2), (42, 0, 0, 0, 0, 0), .inl 0, [], none)),
  (42, (.aload_n 1, (43, 0, 0, 0, 0, 0), .inl 0, [], none)),
  (43, (.getfield 77, (46, 6, 3, 0, 0, 0), .inl 0, [], none)),
  (46, (.isub, (47, 0, 0, 0, 0, 0), .inl 0, [], none)),
  (47, (.ireturn, (48, 0, 0, 0, 0, 0), .inl 0, [], none)),
  (48, (.aload_n 0, (49, 0, 0, 0, 0, 0), .inl 0, [], none)),
  (49, (.getfield 22, (52, 12, 4, 2, 0, 0), .inl 0, [], none)),
  (52, (.aload_n 2, (53, 0, 0, 0, 0, 0), .inl 0, [], none)),
  (53, (.invokevirtual 80, (56, 72, 2, 0, 2, 9), .inl 0, [], none)),
  (56, (.aload_n 0, (57, 0, 0, 0, 0, 0), .inl 0, [], none)),
  (57, (.getfield 33, (60, 12, 6, 2, 0, 0), .inl 0, [], none)),
  (60, (.invokevirtual 84, (63, 2, 1, 0, 1, 1), .inl 0, [], none)),
  (63, (.aload_n 0, (64, 0, 0, 0, 0, 0), .inl 0, [], none)),
  (64, (.getfield 40, (67, 12, 7, 2, 0, 0), .inl 0, [], none)),
  (67, (.aload_n 2, (68, 0, 0, 0, 0, 0), .inl 0, [], none)),
  (68, (.invokevirtual 87, (71, 80, 2, 0, 2, 11), .inl 0, [], none)),
  (71, (.aload_n 2, (72, 0, 0, 0, 0, 0), .inl 0, [], none)),
  (72, (.getfield 90, (75, 2, 2, 0, 0, 0), .inl 0, [], none)),
  (75, (.ireturn, (76, 0, 0, 0, 0, 0), .inl 0, [], none))]
def z_SR_rule : List (Nat × sk_E) := [
  (0, (.aload_n 0, (1, 0, 0, 0, 0, 0), .inl 0, [], none)),
  (1, (.getfield 95, (4, 12, 3, 0, 0, 0), .inl 0, [], none)),
  (4, (.bipush 6, (6, 0, 0, 0, 0, 0), .inl 0, [], none)),
  (6, (.if_icmp .lt 5, (9, 11, 0, 0, 0, 0), .inl 0, [], none)),
  (9, (.iconst (-1), (10, 0, 0, 0, 0, 0), .inl 0, [], none)),
  (10, (.ireturn, (11, 0, 0, 0, 0, 0), .inl 0, [], none)),
  (11, (.new 59, (14, 6, 4, 0, 0, 0), .inl 0, [], none)),
  (14, (.dup, (15, 0, 0, 0, 0, 0), .inl 0, [], none)),
  (15, (.aload_n 0, (16, 0, 0, 0, 0, 0), .inl 0, [], none)),
  (16, (.getfield 9, (19, 12, 0, 2, 0, 0), .inl 0, [], none)),
  (19, (.aload_n 0, (20, 0, 0, 0, 0, 0), .inl 0, [], none)),
  (20, (.getfield 51, (23, 12, 1, 0, 0, 0), .inl 0, [], none)),
  (23, (.invokespecial 61, (26, 39, 3, 0, 3, 0), .inl 0, [], none)),
  (26, (.astore_n 1, (27, 0, 0, 0, 0, 0), .inl 0, [], none)),
  (27, (.new 98, (30, 8, 4, 0, 0, 0), .inl 0, [], none)),
  (30, (.dup, (31, 0, 0, 0, 0, 0), .inl 0, [], none)),
  (31, (.aload_n 1, (32, 0, 0, 0, 0, 0), .inl 0, [], none)),
  (32, (.invokespecial 100, (35, 58, 2, 0, 2, 0), .inl 0, [], none)),
  (35, (.invokevirtual 101, (38, 59, 1, 3, 3, 8), .inl 0, [], none)),
  (38, (.astore_n 2, (39, 0, 0, 0, 0, 0), .inl 0, [], none)),
  (39, (.aload_n 0, (40, 0, 0, 0, 0, 0), .inl 0, [], none)),
  (40, (.iconst 0, (41, 0, 0, 0, 0, 0), .inl 0, [], none)),
  (41, (.putfield 51, (44, 12, 1, 0, 0, 0), .inl 0, [], none)),
  (44, (.aload_n 1, (45, 0, 0, 0, 0, 0), .inl 0, [], none)),
  (45, (.invokevirtual 73, (48, 40, 1, 1, 1, 6), .inl 0, [], none)),
  (48, (.ifCond .ne 11, (51, 59, 0, 0, 0, 0), .inl 0, [], none)),
  (51, (.bipush (-2), (53, 0, 0, 0, 0, 0), .inl 0, [], none)),
  (53, (.aload_n 1, (54, 0, 0, 0, 0, 0), .inl 0, [], none)),
  (54, (.getfield 77, (57, 6, 3, 0, 0, 0), .inl 0, [], none)),
  (57, (.isub, (58, 0, 0, 0, 0, 0), .inl 0, [], none)),
  (58, (.ireturn, (59, 0, 0, 0, 0, 0), .inl 0, [], none)),
  (59, (.aload_n 0, (60, 0, 0, 0, 0, 0), .inl 0, [], none)),
  (60, (.getfield 15, (63, 12, 2, 2, 0, 0), .inl 0, [], none)),
  (63, (.aload_n 0, (64, 0, 0, 0, 0, 0), .inl 0, [], none)),
  (64, (.getfield 95, (67, 12, 3, 0, 0, 0), .inl 0, [], none)),
  (67, (.aload_n 2, (68, 0, 0, 0, 0, 0), .inl 0, [], none)),
  (68, (.aastore, (69, 0, 0, 0, 0, 0), .inl 0, [], none)),
  (69, (.aload_n 0, (70, 0, 0, 0, 0, 0), .inl 0, [], none)),
  (70, (.dup, (71, 0, 0, 0, 0, 0), .inl 0, [], none)),
  (71, (.getfield 95, (74, 12, 3, 0, 0, 0), .inl 0, [], none)),
  (74, (.iconst 1, (75, 0, 0, 0, 0, 0), .inl 0, [], none)),
  (75, (.iadd, (76, 0, 0, 0, 0, 0), .inl 0, [], none)),
  (76, (.putfield 95, (79, 12, 3, 0, 0, 0), .inl 0, [], none)),
  (79, (.aload_n 0, (80, 0, 0, 0, 0, 0), .inl 0, [], none)),
  (80, (.getfield 95, (83, 12, 3, 0, 0, 0), .inl 0, [], none)),
  (83, (.iconst 1, (84, 0, 0, 0, 0, 0), .inl 0, [], none)),
  (84, (.isub, (85, 0, 0, 0, 0, 0), .inl 0, [], none)),
  (85, (.ireturn, (86, 0, 0, 0, 0, 0), .inl 0, [], none))]
def z_SR_place : List (Nat × sk_E) := [
  (0, (.aload_n 0, (1, 0, 0, 0, 0, 0), .inl 0, [], none)),
  (1, (.getfield 22, (4, 12, 4, 2, 0, 0), .inl 0, [], none)),
  (4, (.getfield 104, (7, 9, 0, 2, 0, 0), .inl 0, [], none)),
  (7, (.astore_n 3, (8, 0, 0, 0, 0, 0), .inl 0, [], none)),
  (8, (.aload_n 3, (9, 0, 0, 0, 0, 0), .inl 0, [], none)),
  (9, (.ifnull 15, (12, 24, 0, 0, 0, 0), .inl 0, [], none)),
  (12, (.iload_n 1, (13, 0, 0, 0, 0, 0), .inl 0, [], none)),
  (13, (.ifCond .lt 11, (16, 24, 0, 0, 0, 0), .inl 0, [], none)),
  (16, (.iload_n 1, (17, 0, 0, 0, 0, 0), .inl 0, [], none)),
  (17, (.aload_n 3, (18, 0, 0, 0, 0, 0), .inl 0, [], none)),
  (18, (.getfield 90, (21, 2, 2, 0, 0, 0), .inl 0, [], none)),
  (21, (.if_icmp .lt 5, (24, 26, 0, 0, 0, 0), .inl 0, [], none)),
  (24, (.iconst (-1), (25, 0, 0, 0, 0, 0), .inl 0, [], none)),
  (25, (.ireturn, (26, 0, 0, 0, 0, 0), .inl 0, [], none)),
  (26, (.iload_n 2, (27, 0, 0, 0, 0, 0), .inl 0, [], none)),
  (27, (.tableswitch 62 0 3 #[29, 41, 48, 55], (56, 89, 0, 0, 0, 0), .inl 0, [(0, 56), (1, 68), (2, 75), (3, 82)], none)),
  (56, (.aload_n 0, (57, 0, 0, 0, 0, 0), .inl 0, [], none)),
  (57, (.getfield 22, (60, 12, 4, 2, 0, 0), .inl 0, [], none)),
  (60, (.getfield 108, (63, 9, 1, 0, 0, 0), .inl 0, [], none)),
  (63, (.iload_n 1, (64, 0, 0, 0, 0, 0), .inl 0, [], none)),
  (64, (.ishr, (65, 0, 0, 0, 0, 0), .inl 0, [], none)),
  (65, (.iconst 1, (66, 0, 0, 0, 0, 0), .inl 0, [], none)),
  (66, (.iand, (67, 0, 0, 0, 0, 0), .inl 0, [], none)),
  (67, (.ireturn, (68, 0, 0, 0, 0, 0), .inl 0, [], none)),
  (68, (.aload_n 3, (69, 0, 0, 0, 0, 0), .inl 0, [], none)),
  (69, (.getfield 111, (72, 2, 8, 2, 0, 0), .inl 0, [], none)),
  (72, (.iload_n 1, (73, 0, 0, 0, 0, 0), .inl 0, [], none)),
  (73, (.iaload, (74, 0, 0, 0, 0, 0), .inl 0, [], none)),
  (74, (.ireturn, (75, 0, 0, 0, 0, 0), .inl 0, [], none)),
  (75, (.aload_n 3, (76, 0, 0, 0, 0, 0), .inl 0, [], none)),
  (76, (.getfield 115, (79, 2, 12, 2, 0, 0), .inl 0, [], none)),
  (79, (.iload_n 1, (80, 0, 0, 0, 0, 0), .inl 0, [], none)),
  (80, (.iaload, (81, 0, 0, 0, 0, 0), .inl 0, [], none)),
  (81, (.ireturn, (82, 0, 0, 0, 0, 0), .inl 0, [], none)),
  (82, (.aload_n 3, (83, 0, 0, 0, 0, 0), .inl 0, [], none)),
  (83, (.getfield 118, (86, 2, 13, 2, 0, 0), .inl 0, [], none)),
  (86, (.iload_n 1, (87, 0, 0, 0, 0, 0), .inl 0, [], none)),
  (87, (.iaload, (88, 0, 0, 0, 0, 0), .inl 0, [], none)),
  (88, (.ireturn, (89, 0, 0, 0, 0, 0), .inl 0, [], none)),
  (89, (.iconst (-1), (90, 0, 0, 0, 0, 0), .inl 0, [], none)),
  (90, (.ireturn, (91, 0, 0, 0, 0, 0), .inl 0, [], none))]
def z_SR_can : List (Nat × sk_E) := [
  (0, (.aload_n 0, (1, 0, 0, 0, 0, 0), .inl 0, [], none)),
  (1, (.getfield 22, (4, 12, 4, 2, 0, 0), .inl 0, [], none)),
  (4, (.getfield 104, (7, 9, 0, 2, 0, 0), .inl 0, [], none)),
  (7, (.ifnonnull 5, (10, 12, 0, 0, 0, 0), .inl 0, [], none)),
  (10, (.iconst (-1), (11, 0, 0, 0, 0, 0), .inl 0, [], none)),
  (11, (.ireturn, (12, 0, 0, 0, 0, 0), .inl 0, [], none)),
  (12, (.aload_n 0, (13, 0, 0, 0, 0, 0), .inl 0, [], none)),
  (13, (.getfield 22, (16, 12, 4, 2, 0, 0), .inl 0, [], none)),
  (16, (.getfield 104, (19, 9, 0, 2, 0, 0), .inl 0, [], none)),
  (19, (.aload_n 0, (20, 0, 0, 0, 0, 0), .inl 0, [], none)),
  (20, (.getfield 22, (23, 12, 4, 2, 0, 0), .inl 0, [], none)),
  (23, (.getfield 108, (26, 9, 1, 0, 0, 0), .inl 0, [], none)),
  (26, (.iload_n 1, (27, 0, 0, 0, 0, 0), .inl 0, [], none)),
  (27, (.iload_n 2, (28, 0, 0, 0, 0, 0), .inl 0, [], none)),
  (28, (.invokevirtual 121, (31, 13, 4, 3, 8, 2), .inl 0, [], none)),
  (31, (.astore_n 3, (32, 0, 0, 0, 0, 0), .inl 0, [], none)),
  (32, (.aload_n 3, (33, 0, 0, 0, 0, 0), .inl 0, [], none)),
  (33, (.ifnonnull 5, (36, 38, 0, 0, 0, 0), .inl 0, [], none)),
  (36, (.iconst 0, (37, 0, 0, 0, 0, 0), .inl 0, [], none)),
  (37, (.ireturn, (38, 0, 0, 0, 0, 0), .inl 0, [], none)),
  (38, (.aload_n 0, (39, 0, 0, 0, 0, 0), .inl 0, [], none)),
  (39, (.getfield 40, (42, 12, 7, 2, 0, 0), .inl 0, [], none)),
  (42, (.aload_n 0, (43, 0, 0, 0, 0, 0), .inl 0, [], none)),
  (43, (.getfield 22, (46, 12, 4, 2, 0, 0), .inl 0, [], none)),
  (46, (.getfield 108, (49, 9, 1, 0, 0, 0), .inl 0, [], none)),
  (49, (.aload_n 3, (50, 0, 0, 0, 0, 0), .inl 0, [], none)),
  (50, (.invokevirtual 125, (53, 83, 3, 1, 3, 11), .inl 0, [], none)),
  (53, (.ifCond .eq 7, (56, 60, 0, 0, 0, 0), .inl 0, [], none)),
  (56, (.iconst 2, (57, 0, 0, 0, 0, 0), .inl 0, [], none)),
  (57, (.goto 4, (60, 61, 0, 0, 0, 0), .inl 0, [], none)),
  (60, (.iconst 1, (61, 0, 0, 0, 0, 0), .inl 0, [], none)),
  (61, (.ireturn, (62, 0, 0, 0, 0, 0), .inl 0, [], none))]
def z_SR_stroke : List (Nat × sk_E) := [
  (0, (.aload_n 0, (1, 0, 0, 0, 0, 0), .inl 0, [], none)),
  (1, (.getfield 22, (4, 12, 4, 2, 0, 0), .inl 0, [], none)),
  (4, (.getfield 104, (7, 9, 0, 2, 0, 0), .inl 0, [], none)),
  (7, (.ifnonnull 5, (10, 12, 0, 0, 0, 0), .inl 0, [], none)),
  (10, (.iconst (-1), (11, 0, 0, 0, 0, 0), .inl 0, [], none)),
  (11, (.ireturn, (12, 0, 0, 0, 0, 0), .inl 0, [], none)),
  (12, (.aload_n 0, (13, 0, 0, 0, 0, 0), .inl 0, [], none)),
  (13, (.getfield 22, (16, 12, 4, 2, 0, 0), .inl 0, [], none)),
  (16, (.getfield 104, (19, 9, 0, 2, 0, 0), .inl 0, [], none)),
  (19, (.aload_n 0, (20, 0, 0, 0, 0, 0), .inl 0, [], none)),
  (20, (.getfield 22, (23, 12, 4, 2, 0, 0), .inl 0, [], none)),
  (23, (.getfield 108, (26, 9, 1, 0, 0, 0), .inl 0, [], none)),
  (26, (.iload_n 1, (27, 0, 0, 0, 0, 0), .inl 0, [], none)),
  (27, (.iload_n 2, (28, 0, 0, 0, 0, 0), .inl 0, [], none)),
  (28, (.invokevirtual 121, (31, 13, 4, 3, 8, 2), .inl 0, [], none)),
  (31, (.astore_n 3, (32, 0, 0, 0, 0, 0), .inl 0, [], none)),
  (32, (.aload_n 3, (33, 0, 0, 0, 0, 0), .inl 0, [], none)),
  (33, (.ifnonnull 5, (36, 38, 0, 0, 0, 0), .inl 0, [], none)),
  (36, (.iconst (-1), (37, 0, 0, 0, 0, 0), .inl 0, [], none)),
  (37, (.ireturn, (38, 0, 0, 0, 0, 0), .inl 0, [], none)),
  (38, (.aload_n 0, (39, 0, 0, 0, 0, 0), .inl 0, [], none)),
  (39, (.getfield 33, (42, 12, 6, 2, 0, 0), .inl 0, [], none)),
  (42, (.aload_n 0, (43, 0, 0, 0, 0, 0), .inl 0, [], none)),
  (43, (.getfield 22, (46, 12, 4, 2, 0, 0), .inl 0, [], none)),
  (46, (.invokevirtual 129, (49, 3, 2, 0, 2, 1), .inl 0, [], none)),
  (49, (.aload_n 0, (50, 0, 0, 0, 0, 0), .inl 0, [], none)),
  (50, (.getfield 22, (53, 12, 4, 2, 0, 0), .inl 0, [], none)),
  (53, (.aload_n 3, (54, 0, 0, 0, 0, 0), .inl 0, [], none)),
  (54, (.invokevirtual 133, (57, 75, 2, 0, 2, 9), .inl 0, [], none)),
  (57, (.aload_n 0, (58, 0, 0, 0, 0, 0), .inl 0, [], none)),
  (58, (.getfield 22, (61, 12, 4, 2, 0, 0), .inl 0, [], none)),
  (61, (.getfield 108, (64, 9, 1, 0, 0, 0), .inl 0, [], none)),
  (64, (.invokestatic 137, (67, 238, 1, 1, 1, 0), .inl 0, [], none)),
  (67, (.ireturn, (68, 0, 0, 0, 0, 0), .inl 0, [], none))]
def z_SR_up : List (Nat × sk_E) := [
  (0, (.aload_n 0, (1, 0, 0, 0, 0, 0), .inl 0, [], none)),
  (1, (.getfield 22, (4, 12, 4, 2, 0, 0), .inl 0, [], none)),
  (4, (.getfield 104, (7, 9, 0, 2, 0, 0), .inl 0, [], none)),
  (7, (.ifnull 36, (10, 43, 0, 0, 0, 0), .inl 0, [], none)),
  (10, (.iload_n 1, (11, 0, 0, 0, 0, 0), .inl 0, [], none)),
  (11, (.ifCond .lt 32, (14, 43, 0, 0, 0, 0), .inl 0, [], none)),
  (14, (.iload_n 1, (15, 0, 0, 0, 0, 0), .inl 0, [], none)),
  (15, (.aload_n 0, (16, 0, 0, 0, 0, 0), .inl 0, [], none)),
  (16, (.getfield 22, (19, 12, 4, 2, 0, 0), .inl 0, [], none)),
  (19, (.getfield 104, (22, 9, 0, 2, 0, 0), .inl 0, [], none)),
  (22, (.getfield 90, (25, 2, 2, 0, 0, 0), .inl 0, [], none)),
  (25, (.if_icmp .ge 18, (28, 43, 0, 0, 0, 0), .inl 0, [], none)),
  (28, (.aload_n 0, (29, 0, 0, 0, 0, 0), .inl 0, [], none)),
  (29, (.getfield 22, (32, 12, 4, 2, 0, 0), .inl 0, [], none)),
  (32, (.getfield 108, (35, 9, 1, 0, 0, 0), .inl 0, [], none)),
  (35, (.iload_n 1, (36, 0, 0, 0, 0, 0), .inl 0, [], none)),
  (36, (.ishr, (37, 0, 0, 0, 0, 0), .inl 0, [], none)),
  (37, (.iconst 1, (38, 0, 0, 0, 0, 0), .inl 0, [], none)),
  (38, (.iand, (39, 0, 0, 0, 0, 0), .inl 0, [], none)),
  (39, (.iconst 1, (40, 0, 0, 0, 0, 0), .inl 0, [], none)),
  (40, (.if_icmp .ne 5, (43, 45, 0, 0, 0, 0), .inl 0, [], none)),
  (43, (.iconst (-1), (44, 0, 0, 0, 0, 0), .inl 0, [], none)),
  (44, (.ireturn, (45, 0, 0, 0, 0, 0), .inl 0, [], none)),
  (45, (.aload_n 0, (46, 0, 0, 0, 0, 0), .inl 0, [], none)),
  (46, (.getfield 33, (49, 12, 6, 2, 0, 0), .inl 0, [], none)),
  (49, (.aload_n 0, (50, 0, 0, 0, 0, 0), .inl 0, [], none)),
  (50, (.getfield 22, (53, 12, 4, 2, 0, 0), .inl 0, [], none)),
  (53, (.invokevirtual 129, (56, 3, 2, 0, 2, 1), .inl 0, [], none)),
  (56, (.aload_n 0, (57, 0, 0, 0, 0, 0), .inl 0, [], none)),
  (57, (.getfield 22, (60, 12, 4, 2, 0, 0), .inl 0, [], none)),
  (60, (.dup, (61, 0, 0, 0, 0, 0), .inl 0, [], none)),
  (61, (.getfield 108, (64, 9, 1, 0, 0, 0), .inl 0, [], none)),
  (64, (.iconst 1, (65, 0, 0, 0, 0, 0), .inl 0, [], none)),
  (65, (.iload_n 1, (66, 0, 0, 0, 0, 0), .inl 0, [], none)),
  (66, (.ishl, (67, 0, 0, 0, 0, 0), .inl 0, [], none)),
  (67, (.ior, (68, 0, 0, 0, 0, 0), .inl 0, [], none)),
  (68, (.putfield 108, (71, 9, 1, 0, 0, 0), .inl 0, [], none)),
  (71, (.aload_n 0, (72, 0, 0, 0, 0, 0), .inl 0, [], none)),
  (72, (.getfield 22, (75, 12, 4, 2, 0, 0), .inl 0, [], none)),
  (75, (.getfield 108, (78, 9, 1, 0, 0, 0), .inl 0, [], none)),
  (78, (.invokestatic 137, (81, 238, 1, 1, 1, 0), .inl 0, [], none)),
  (81, (.ireturn, (82, 0, 0, 0, 0, 0), .inl 0, [], none))]
def z_SR_pass : List (Nat × sk_E) := [
  (0, (.aload_n 0, (1, 0, 0, 0, 0, 0), .inl 0, [], none)),
  (1, (.getfield 22, (4, 12, 4, 2, 0, 0), .inl 0, [], none)),
  (4, (.getfield 104, (7, 9, 0, 2, 0, 0), .inl 0, [], none)),
  (7, (.ifnonnull 5, (10, 12, 0, 0, 0, 0), .inl 0, [], none)),
  (10, (.iconst (-1), (11, 0, 0, 0, 0, 0), .inl 0, [], none)),
  (11, (.ireturn, (12, 0, 0, 0, 0, 0), .inl 0, [], none)),
  (12, (.aload_n 0, (13, 0, 0, 0, 0, 0), .inl 0, [], none)),
  (13, (.getfield 33, (16, 12, 6, 2, 0, 0), .inl 0, [], none)),
  (16, (.aload_n 0, (17, 0, 0, 0, 0, 0), .inl 0, [], none)),
  (17, (.getfield 22, (20, 12, 4, 2, 0, 0), .inl 0, [], none)),
  (20, (.invokevirtual 129, (23, 3, 2, 0, 2, 1), .inl 0, [], none)),
  (23, (.aload_n 0, (24, 0, 0, 0, 0, 0), .inl 0, [], none)),
  (24, (.getfield 22, (27, 12, 4, 2, 0, 0), .inl 0, [], none)),
  (27, (.iconst 1, (28, 0, 0, 0, 0, 0), .inl 0, [], none)),
  (28, (.aload_n 0, (29, 0, 0, 0, 0, 0), .inl 0, [], none)),
  (29, (.getfield 22, (32, 12, 4, 2, 0, 0), .inl 0, [], none)),
  (32, (.getfield 143, (35, 9, 2, 0, 0, 0), .inl 0, [], none)),
  (35, (.isub, (36, 0, 0, 0, 0, 0), .inl 0, [], none)),
  (36, (.putfield 143, (39, 9, 2, 0, 0, 0), .inl 0, [], none)),
  (39, (.aload_n 0, (40, 0, 0, 0, 0, 0), .inl 0, [], none)),
  (40, (.getfield 22, (43, 12, 4, 2, 0, 0), .inl 0, [], none)),
  (43, (.getfield 143, (46, 9, 2, 0, 0, 0), .inl 0, [], none)),
  (46, (.ireturn, (47, 0, 0, 0, 0, 0), .inl 0, [], none))]
def z_SR_undo : List (Nat × sk_E) := [
  (0, (.aload_n 0, (1, 0, 0, 0, 0, 0), .inl 0, [], none)),
  (1, (.getfield 33, (4, 12, 6, 2, 0, 0), .inl 0, [], none)),
  (4, (.aload_n 0, (5, 0, 0, 0, 0, 0), .inl 0, [], none)),
  (5, (.getfield 22, (8, 12, 4, 2, 0, 0), .inl 0, [], none)),
  (8, (.invokevirtual 146, (11, 4, 2, 1, 2, 1), .inl 0, [], none)),
  (11, (.ireturn, (12, 0, 0, 0, 0, 0), .inl 0, [], none))]
def z_SR_won : List (Nat × sk_E) := [
  (0, (.aload_n 0, (1, 0, 0, 0, 0, 0), .inl 0, [], none)),
  (1, (.getfield 22, (4, 12, 4, 2, 0, 0), .inl 0, [], none)),
  (4, (.getfield 104, (7, 9, 0, 2, 0, 0), .inl 0, [], none)),
  (7, (.ifnonnull 5, (10, 12, 0, 0, 0, 0), .inl 0, [], none)),
  (10, (.iconst (-1), (11, 0, 0, 0, 0, 0), .inl 0, [], none)),
  (11, (.ireturn, (12, 0, 0, 0, 0, 0), .inl 0, [], none)),
  (12, (.aload_n 0, (13, 0, 0, 0, 0, 0), .inl 0, [], none)),
  (13, (.getfield 40, (16, 12, 7, 2, 0, 0), .inl 0, [], none)),
  (16, (.aload_n 0, (17, 0, 0, 0, 0, 0), .inl 0, [], none)),
  (17, (.getfield 22, (20, 12, 4, 2, 0, 0), .inl 0, [], none)),
  (20, (.getfield 108, (23, 9, 1, 0, 0, 0), .inl 0, [], none)),
  (23, (.invokevirtual 150, (26, 82, 2, 1, 2, 11), .inl 0, [], none)),
  (26, (.ifCond .eq 7, (29, 33, 0, 0, 0, 0), .inl 0, [], none)),
  (29, (.iconst 1, (30, 0, 0, 0, 0, 0), .inl 0, [], none)),
  (30, (.goto 4, (33, 34, 0, 0, 0, 0), .inl 0, [], none)),
  (33, (.iconst 0, (34, 0, 0, 0, 0, 0), .inl 0, [], none)),
  (34, (.ireturn, (35, 0, 0, 0, 0, 0), .inl 0, [], none))]
def z_SR_wins : List (Nat × sk_E) := [
  (0, (.aload_n 0, (1, 0, 0, 0, 0, 0), .inl 0, [], none)),
  (1, (.getfield 22, (4, 12, 4, 2, 0, 0), .inl 0, [], none)),
  (4, (.getfield 104, (7, 9, 0, 2, 0, 0), .inl 0, [], none)),
  (7, (.ifnull 12, (10, 19, 0, 0, 0, 0), .inl 0, [], none)),
  (10, (.iload_n 1, (11, 0, 0, 0, 0, 0), .inl 0, [], none)),
  (11, (.ifCond .lt 8, (14, 19, 0, 0, 0, 0), .inl 0, [], none)),
  (14, (.iload_n 1, (15, 0, 0, 0, 0, 0), .inl 0, [], none)),
  (15, (.iconst 2, (16, 0, 0, 0, 0, 0), .inl 0, [], none)),
  (16, (.if_icmp .le 5, (19, 21, 0, 0, 0, 0), .inl 0, [], none)),
  (19, (.iconst (-1), (20, 0, 0, 0, 0, 0), .inl 0, [], none)),
  (20, (.ireturn, (21, 0, 0, 0, 0, 0), .inl 0, [], none)),
  (21, (.iconst 0, (22, 0, 0, 0, 0, 0), .inl 0, [], none)),
  (22, (.istore_n 2, (23, 0, 0, 0, 0, 0), .inl 0, [], none)),
  (23, (.aconst_null, (24, 0, 0, 0, 0, 0), .inl 0, [], none)),
  (24, (.astore_n 3, (25, 0, 0, 0, 0, 0), .inl 0, [], none)),
  (25, (.aload_n 0, (26, 0, 0, 0, 0, 0), .inl 0, [], none)),
  (26, (.getfield 22, (29, 12, 4, 2, 0, 0), .inl 0, [], none)),
  (29, (.getfield 104, (32, 9, 0, 2, 0, 0), .inl 0, [], none)),
  (32, (.getfield 154, (35, 2, 14, 2, 0, 0), .inl 0, [], none)),
  (35, (.astore 4, (37, 0, 0, 0, 0, 0), .inl 0, [], none)),
  (37, (.aload 4, (39, 0, 0, 0, 0, 0), .inl 0, [], none)),
  (39, (.arraylength, (40, 0, 0, 0, 0, 0), .inl 0, [], none)),
  (40, (.istore 5, (42, 0, 0, 0, 0, 0), .inl 0, [], none)),
  (42, (.iconst 0, (43, 0, 0, 0, 0, 0), .inl 0, [], none)),
  (43, (.istore 6, (45, 0, 0, 0, 0, 0), .inl 0, [], none)),
  (45, (.iload 6, (47, 0, 0, 0, 0, 0), .inl 0, [], some [true, true, true, true, true, true, true, false])),
  (47, (.iload 5, (49, 0, 0, 0, 0, 0), .inl 0, [], none)),
  (49, (.if_icmp .ge 71, (52, 120, 0, 0, 0, 0), .inl 0, [], none)),
  (52, (.aload 4, (54, 0, 0, 0, 0, 0), .inl 0, [], none)),
  (54, (.iload 6, (56, 0, 0, 0, 0, 0), .inl 0, [], none)),
  (56, (.aaload, (57, 0, 0, 0, 0, 0), .inl 0, [], none)),
  (57, (.astore 7, (59, 0, 0, 0, 0, 0), .inl 0, [], none)),
  (59, (.aload_n 0, (60, 0, 0, 0, 0, 0), .inl 0, [], none)),
  (60, (.getfield 22, (63, 12, 4, 2, 0, 0), .inl 0, [], none)),
  (63, (.getfield 104, (66, 9, 0, 2, 0, 0), .inl 0, [], none)),
  (66, (.aload_n 0, (67, 0, 0, 0, 0, 0), .inl 0, [], none)),
  (67, (.getfield 22, (70, 12, 4, 2, 0, 0), .inl 0, [], none)),
  (70, (.getfield 108, (73, 9, 1, 0, 0, 0), .inl 0, [], none)),
  (73, (.aload 7, (75, 0, 0, 0, 0, 0), .inl 0, [], none)),
  (75, (.invokevirtual 158, (78, 12, 3, 1, 3, 2), .inl 0, [], none)),
  (78, (.ifCond .eq 36, (81, 114, 0, 0, 0, 0), .inl 0, [], none)),
  (81, (.aload_n 0, (82, 0, 0, 0, 0, 0), .inl 0, [], none)),
  (82, (.getfield 40, (85, 12, 7, 2, 0, 0), .inl 0, [], none)),
  (85, (.aload_n 0, (86, 0, 0, 0, 0, 0), .inl 0, [], none)),
  (86, (.getfield 22, (89, 12, 4, 2, 0, 0), .inl 0, [], none)),
  (89, (.getfield 108, (92, 9, 1, 0, 0, 0), .inl 0, [], none)),
  (92, (.aload 7, (94, 0, 0, 0, 0, 0), .inl 0, [], none)),
  (94, (.invokevirtual 125, (97, 83, 3, 1, 3, 11), .inl 0, [], none)),
  (97, (.ifCond .eq 17, (100, 114, 0, 0, 0, 0), .inl 0, [], none)),
  (100, (.aload_n 3, (101, 0, 0, 0, 0, 0), .inl 0, [], none)),
  (101, (.ifnonnull 8, (104, 109, 0, 0, 0, 0), .inl 0, [], none)),
  (104, (.aload 7, (106, 0, 0, 0, 0, 0), .inl 0, [], none)),
  (106, (.goto 4, (109, 110, 0, 0, 0, 0), .inl 0, [], none)),
  (109, (.aload_n 3, (110, 0, 0, 0, 0, 0), .inl 0, [], none)),
  (110, (.astore_n 3, (111, 0, 0, 0, 0, 0), .inl 0, [], none)),
  (111, (.iinc 2 1, (114, 0, 0, 0, 0, 0), .inl 0, [], none)),
  (114, (.iinc 6 1, (117, 0, 0, 0, 0, 0), .inl 0, [], none)),
  (117, (.goto (-72), (120, 45, 0, 0, 0, 0), .inl 0, [], none)),
  (120, (.iload_n 1, (121, 0, 0, 0, 0, 0), .inl 0, [], none)),
  (121, (.ifCond .ne 5, (124, 126, 0, 0, 0, 0), .inl 0, [], none)),
  (124, (.iload_n 2, (125, 0, 0, 0, 0, 0), .inl 0, [], none)),
  (125, (.ireturn, (126, 0, 0, 0, 0, 0), .inl 0, [], none)),
  (126, (.aload_n 3, (127, 0, 0, 0, 0, 0), .inl 0, [], none)),
  (127, (.ifnonnull 6, (130, 133, 0, 0, 0, 0), .inl 0, [], none)),
  (130, (.bipush (-2), (132, 0, 0, 0, 0, 0), .inl 0, [], none)),
  (132, (.ireturn, (133, 0, 0, 0, 0, 0), .inl 0, [], none)),
  (133, (.iload_n 1, (134, 0, 0, 0, 0, 0), .inl 0, [], none)),
  (134, (.iconst 1, (135, 0, 0, 0, 0, 0), .inl 0, [], none)),
  (135, (.if_icmp .ne 10, (138, 145, 0, 0, 0, 0), .inl 0, [], none)),
  (138, (.aload_n 3, (139, 0, 0, 0, 0, 0), .inl 0, [], none)),
  (139, (.getfield 161, (142, 10, 0, 0, 0, 0), .inl 0, [], none)),
  (142, (.goto 7, (145, 149, 0, 0, 0, 0), .inl 0, [], none)),
  (145, (.aload_n 3, (146, 0, 0, 0, 0, 0), .inl 0, [], none)),
  (146, (.getfield 166, (149, 10, 1, 0, 0, 0), .inl 0, [], none)),
  (149, (.ireturn, (150, 0, 0, 0, 0, 0), .inl 0, [], none))]
def z_SR_worth : List (Nat × sk_E) := [
  (0, (.aload_n 0, (1, 0, 0, 0, 0, 0), .inl 0, [], none)),
  (1, (.getfield 22, (4, 12, 4, 2, 0, 0), .inl 0, [], none)),
  (4, (.getfield 104, (7, 9, 0, 2, 0, 0), .inl 0, [], none)),
  (7, (.ifnull 21, (10, 28, 0, 0, 0, 0), .inl 0, [], none)),
  (10, (.iload_n 1, (11, 0, 0, 0, 0, 0), .inl 0, [], none)),
  (11, (.ifCond .lt 17, (14, 28, 0, 0, 0, 0), .inl 0, [], none)),
  (14, (.iload_n 1, (15, 0, 0, 0, 0, 0), .inl 0, [], none)),
  (15, (.aload_n 0, (16, 0, 0, 0, 0, 0), .inl 0, [], none)),
  (16, (.getfield 22, (19, 12, 4, 2, 0, 0), .inl 0, [], none)),
  (19, (.getfield 104, (22, 9, 0, 2, 0, 0), .inl 0, [], none)),
  (22, (.getfield 169, (25, 2, 3, 0, 0, 0), .inl 0, [], none)),
  (25, (.if_icmp .lt 5, (28, 30, 0, 0, 0, 0), .inl 0, [], none)),
  (28, (.iconst (-1), (29, 0, 0, 0, 0, 0), .inl 0, [], none)),
  (29, (.ireturn, (30, 0, 0, 0, 0, 0), .inl 0, [], none)),
  (30, (.aload_n 0, (31, 0, 0, 0, 0, 0), .inl 0, [], none)),
  (31, (.getfield 22, (34, 12, 4, 2, 0, 0), .inl 0, [], none)),
  (34, (.getfield 104, (37, 9, 0, 2, 0, 0), .inl 0, [], none)),
  (37, (.aload_n 0, (38, 0, 0, 0, 0, 0), .inl 0, [], none)),
  (38, (.getfield 22, (41, 12, 4, 2, 0, 0), .inl 0, [], none)),
  (41, (.getfield 108, (44, 9, 1, 0, 0, 0), .inl 0, [], none)),
  (44, (.iload_n 1, (45, 0, 0, 0, 0, 0), .inl 0, [], none)),
  (45, (.invokevirtual 172, (48, 18, 3, 1, 5, 2), .inl 0, [], none)),
  (48, (.ireturn, (49, 0, 0, 0, 0, 0), .inl 0, [], none))]
def z_SR_plain : List (Nat × sk_E) := [
  (0, (.aload_n 0, (1, 0, 0, 0, 0, 0), .inl 0, [], none)),
  (1, (.getfield 22, (4, 12, 4, 2, 0, 0), .inl 0, [], none)),
  (4, (.getfield 104, (7, 9, 0, 2, 0, 0), .inl 0, [], none)),
  (7, (.ifnull 13, (10, 20, 0, 0, 0, 0), .inl 0, [], none)),
  (10, (.iload_n 1, (11, 0, 0, 0, 0, 0), .inl 0, [], none)),
  (11, (.ifCond .lt 9, (14, 20, 0, 0, 0, 0), .inl 0, [], none)),
  (14, (.iload_n 1, (15, 0, 0, 0, 0, 0), .inl 0, [], none)),
  (15, (.bipush 40, (17, 0, 0, 0, 0, 0), .inl 0, [], none)),
  (17, (.if_icmp .le 5, (20, 22, 0, 0, 0, 0), .inl 0, [], none)),
  (20, (.iconst (-1), (21, 0, 0, 0, 0, 0), .inl 0, [], none)),
  (21, (.ireturn, (22, 0, 0, 0, 0, 0), .inl 0, [], none)),
  (22, (.aload_n 0, (23, 0, 0, 0, 0, 0), .inl 0, [], none)),
  (23, (.getfield 22, (26, 12, 4, 2, 0, 0), .inl 0, [], none)),
  (26, (.getfield 104, (29, 9, 0, 2, 0, 0), .inl 0, [], none)),
  (29, (.getfield 176, (32, 2, 16, 2, 0, 0), .inl 0, [], none)),
  (32, (.iload_n 1, (33, 0, 0, 0, 0, 0), .inl 0, [], none)),
  (33, (.iaload, (34, 0, 0, 0, 0, 0), .inl 0, [], none)),
  (34, (.ireturn, (35, 0, 0, 0, 0, 0), .inl 0, [], none))]
def z_SR_again : List (Nat × sk_E) := [
  (0, (.aload_n 0, (1, 0, 0, 0, 0, 0), .inl 0, [], none)),
  (1, (.getfield 22, (4, 12, 4, 2, 0, 0), .inl 0, [], none)),
  (4, (.getfield 104, (7, 9, 0, 2, 0, 0), .inl 0, [], none)),
  (7, (.ifnull 12, (10, 19, 0, 0, 0, 0), .inl 0, [], none)),
  (10, (.iload_n 1, (11, 0, 0, 0, 0, 0), .inl 0, [], none)),
  (11, (.ifCond .lt 8, (14, 19, 0, 0, 0, 0), .inl 0, [], none)),
  (14, (.iload_n 1, (15, 0, 0, 0, 0, 0), .inl 0, [], none)),
  (15, (.iconst 1, (16, 0, 0, 0, 0, 0), .inl 0, [], none)),
  (16, (.if_icmp .le 5, (19, 21, 0, 0, 0, 0), .inl 0, [], none)),
  (19, (.iconst (-1), (20, 0, 0, 0, 0, 0), .inl 0, [], none)),
  (20, (.ireturn, (21, 0, 0, 0, 0, 0), .inl 0, [], none)),
  (21, (.iconst 1, (22, 0, 0, 0, 0, 0), .inl 0, [], none)),
  (22, (.istore_n 2, (23, 0, 0, 0, 0, 0), .inl 0, [], none)),
  (23, (.iload_n 2, (24, 0, 0, 0, 0, 0), .inl 0, [], some [true, true, true, false])),
  (24, (.bipush 20, (26, 0, 0, 0, 0, 0), .inl 0, [], none)),
  (26, (.if_icmp .gt 36, (29, 62, 0, 0, 0, 0), .inl 0, [], none)),
  (29, (.aload_n 0, (30, 0, 0, 0, 0, 0), .inl 0, [], none)),
  (30, (.getfield 22, (33, 12, 4, 2, 0, 0), .inl 0, [], none)),
  (33, (.getfield 104, (36, 9, 0, 2, 0, 0), .inl 0, [], none)),
  (36, (.iload_n 2, (37, 0, 0, 0, 0, 0), .inl 0, [], none)),
  (37, (.invokevirtual 179, (40, 20, 2, 1, 3, 2), .inl 0, [], none)),
  (40, (.istore_n 3, (41, 0, 0, 0, 0, 0), .inl 0, [], none)),
  (41, (.iload_n 3, (42, 0, 0, 0, 0, 0), .inl 0, [], none)),
  (42, (.iconst (-1), (43, 0, 0, 0, 0, 0), .inl 0, [], none)),
  (43, (.if_icmp .eq 13, (46, 56, 0, 0, 0, 0), .inl 0, [], none)),
  (46, (.iload_n 1, (47, 0, 0, 0, 0, 0), .inl 0, [], none)),
  (47, (.ifCond .ne 7, (50, 54, 0, 0, 0, 0), .inl 0, [], none)),
  (50, (.iload_n 2, (51, 0, 0, 0, 0, 0), .inl 0, [], none)),
  (51, (.goto 4, (54, 55, 0, 0, 0, 0), .inl 0, [], none)),
  (54, (.iload_n 3, (55, 0, 0, 0, 0, 0), .inl 0, [], none)),
  (55, (.ireturn, (56, 0, 0, 0, 0, 0), .inl 0, [], none)),
  (56, (.iinc 2 1, (59, 0, 0, 0, 0, 0), .inl 0, [], none)),
  (59, (.goto (-36), (62, 23, 0, 0, 0, 0), .inl 0, [], none)),
  (62, (.bipush (-2), (64, 0, 0, 0, 0, 0), .inl 0, [], none)),
  (64, (.ireturn, (65, 0, 0, 0, 0, 0), .inl 0, [], none))]
def z_SR_lasts : List (Nat × sk_E) := [
  (0, (.aload_n 0, (1, 0, 0, 0, 0, 0), .inl 0, [], none)),
  (1, (.getfield 22, (4, 12, 4, 2, 0, 0), .inl 0, [], none)),
  (4, (.getfield 104, (7, 9, 0, 2, 0, 0), .inl 0, [], none)),
  (7, (.ifnonnull 7, (10, 14, 0, 0, 0, 0), .inl 0, [], none)),
  (10, (.iconst (-1), (11, 0, 0, 0, 0, 0), .inl 0, [], none)),
  (11, (.goto 17, (14, 28, 0, 0, 0, 0), .inl 0, [], none)),
  (14, (.aload_n 0, (15, 0, 0, 0, 0, 0), .inl 0, [], none)),
  (15, (.getfield 40, (18, 12, 7, 2, 0, 0), .inl 0, [], none)),
  (18, (.aload_n 0, (19, 0, 0, 0, 0, 0), .inl 0, [], none)),
  (19, (.getfield 22, (22, 12, 4, 2, 0, 0), .inl 0, [], none)),
  (22, (.getfield 108, (25, 9, 1, 0, 0, 0), .inl 0, [], none)),
  (25, (.invokevirtual 182, (28, 86, 2, 1, 2, 11), .inl 0, [], none)),
  (28, (.ireturn, (29, 0, 0, 0, 0, 0), .inl 0, [], none))]
def z_SR_plays : List (Nat × sk_E) := [
  (0, (.aload_n 0, (1, 0, 0, 0, 0, 0), .inl 0, [], none)),
  (1, (.getfield 22, (4, 12, 4, 2, 0, 0), .inl 0, [], none)),
  (4, (.getfield 104, (7, 9, 0, 2, 0, 0), .inl 0, [], none)),
  (7, (.ifnonnull 7, (10, 14, 0, 0, 0, 0), .inl 0, [], none)),
  (10, (.iconst (-1), (11, 0, 0, 0, 0, 0), .inl 0, [], none)),
  (11, (.goto 17, (14, 28, 0, 0, 0, 0), .inl 0, [], none)),
  (14, (.aload_n 0, (15, 0, 0, 0, 0, 0), .inl 0, [], none)),
  (15, (.getfield 40, (18, 12, 7, 2, 0, 0), .inl 0, [], none)),
  (18, (.aload_n 0, (19, 0, 0, 0, 0, 0), .inl 0, [], none)),
  (19, (.getfield 22, (22, 12, 4, 2, 0, 0), .inl 0, [], none)),
  (22, (.getfield 108, (25, 9, 1, 0, 0, 0), .inl 0, [], none)),
  (25, (.invokevirtual 185, (28, 88, 2, 1, 2, 11), .inl 0, [], none)),
  (28, (.ireturn, (29, 0, 0, 0, 0, 0), .inl 0, [], none))]
def z_SR_fair : List (Nat × sk_E) := [
  (0, (.aload_n 0, (1, 0, 0, 0, 0, 0), .inl 0, [], none)),
  (1, (.getfield 22, (4, 12, 4, 2, 0, 0), .inl 0, [], none)),
  (4, (.getfield 104, (7, 9, 0, 2, 0, 0), .inl 0, [], none)),
  (7, (.ifnull 12, (10, 19, 0, 0, 0, 0), .inl 0, [], none)),
  (10, (.iload_n 1, (11, 0, 0, 0, 0, 0), .inl 0, [], none)),
  (11, (.ifCond .lt 8, (14, 19, 0, 0, 0, 0), .inl 0, [], none)),
  (14, (.iload_n 1, (15, 0, 0, 0, 0, 0), .inl 0, [], none)),
  (15, (.iconst 1, (16, 0, 0, 0, 0, 0), .inl 0, [], none)),
  (16, (.if_icmp .le 5, (19, 21, 0, 0, 0, 0), .inl 0, [], none)),
  (19, (.iconst (-1), (20, 0, 0, 0, 0, 0), .inl 0, [], none)),
  (20, (.ireturn, (21, 0, 0, 0, 0, 0), .inl 0, [], none)),
  (21, (.aload_n 0, (22, 0, 0, 0, 0, 0), .inl 0, [], none)),
  (22, (.invokevirtual 188, (25, 113, 1, 1, 5, 12), .inl 0, [], none)),
  (25, (.istore_n 2, (26, 0, 0, 0, 0, 0), .inl 0, [], none)),
  (26, (.iload_n 2, (27, 0, 0, 0, 0, 0), .inl 0, [], none)),
  (27, (.iconst (-1), (28, 0, 0, 0, 0, 0), .inl 0, [], none)),
  (28, (.if_icmp .ne 6, (31, 34, 0, 0, 0, 0), .inl 0, [], none)),
  (31, (.bipush (-2), (33, 0, 0, 0, 0, 0), .inl 0, [], none)),
  (33, (.ireturn, (34, 0, 0, 0, 0, 0), .inl 0, [], none)),
  (34, (.iload_n 1, (35, 0, 0, 0, 0, 0), .inl 0, [], none)),
  (35, (.ifCond .ne 10, (38, 45, 0, 0, 0, 0), .inl 0, [], none)),
  (38, (.iload_n 2, (39, 0, 0, 0, 0, 0), .inl 0, [], none)),
  (39, (.invokestatic 137, (42, 238, 1, 1, 1, 0), .inl 0, [], none)),
  (42, (.goto 4, (45, 46, 0, 0, 0, 0), .inl 0, [], none)),
  (45, (.iload_n 2, (46, 0, 0, 0, 0, 0), .inl 0, [], none)),
  (46, (.ireturn, (47, 0, 0, 0, 0, 0), .inl 0, [], none))]
def z_SR_fairSet : List (Nat × sk_E) := [
  (0, (.aload_n 0, (1, 0, 0, 0, 0, 0), .inl 0, [], none)),
  (1, (.getfield 40, (4, 12, 7, 2, 0, 0), .inl 0, [], none)),
  (4, (.aload_n 0, (5, 0, 0, 0, 0, 0), .inl 0, [], none)),
  (5, (.getfield 22, (8, 12, 4, 2, 0, 0), .inl 0, [], none)),
  (8, (.getfield 108, (11, 9, 1, 0, 0, 0), .inl 0, [], none)),
  (11, (.invokevirtual 150, (14, 82, 2, 1, 2, 11), .inl 0, [], none)),
  (14, (.istore_n 1, (15, 0, 0, 0, 0, 0), .inl 0, [], none)),
  (15, (.iconst (-1), (16, 0, 0, 0, 0, 0), .inl 0, [], none)),
  (16, (.istore_n 2, (17, 0, 0, 0, 0, 0), .inl 0, [], none)),
  (17, (.iconst 1, (18, 0, 0, 0, 0, 0), .inl 0, [], none)),
  (18, (.istore_n 3, (19, 0, 0, 0, 0, 0), .inl 0, [], none)),
  (19, (.iload_n 3, (20, 0, 0, 0, 0, 0), .inl 0, [], some [true, true, true, true, false])),
  (20, (.aload_n 0, (21, 0, 0, 0, 0, 0), .inl 0, [], none)),
  (21, (.getfield 22, (24, 12, 4, 2, 0, 0), .inl 0, [], none)),
  (24, (.getfield 108, (27, 9, 1, 0, 0, 0), .inl 0, [], none)),
  (27, (.if_icmp .gt 75, (30, 102, 0, 0, 0, 0), .inl 0, [], none)),
  (30, (.iload_n 3, (31, 0, 0, 0, 0, 0), .inl 0, [], none)),
  (31, (.aload_n 0, (32, 0, 0, 0, 0, 0), .inl 0, [], none)),
  (32, (.getfield 22, (35, 12, 4, 2, 0, 0), .inl 0, [], none)),
  (35, (.getfield 108, (38, 9, 1, 0, 0, 0), .inl 0, [], none)),
  (38, (.iconst (-1), (39, 0, 0, 0, 0, 0), .inl 0, [], none)),
  (39, (.ixor, (40, 0, 0, 0, 0, 0), .inl 0, [], none)),
  (40, (.iand, (41, 0, 0, 0, 0, 0), .inl 0, [], none)),
  (41, (.ifCond .ne 7, (44, 48, 0, 0, 0, 0), .inl 0, [], none)),
  (44, (.iconst 1, (45, 0, 0, 0, 0, 0), .inl 0, [], none)),
  (45, (.goto 4, (48, 49, 0, 0, 0, 0), .inl 0, [], none)),
  (48, (.iconst 0, (49, 0, 0, 0, 0, 0), .inl 0, [], none)),
  (49, (.istore 4, (51, 0, 0, 0, 0, 0), .inl 0, [], some [true, true, true, true, false])),
  (51, (.iload 4, (53, 0, 0, 0, 0, 0), .inl 0, [], none)),
  (53, (.ifCond .eq 43, (56, 96, 0, 0, 0, 0), .inl 0, [], none)),
  (56, (.aload_n 0, (57, 0, 0, 0, 0, 0), .inl 0, [], none)),
  (57, (.getfield 40, (60, 12, 7, 2, 0, 0), .inl 0, [], none)),
  (60, (.aload_n 0, (61, 0, 0, 0, 0, 0), .inl 0, [], none)),
  (61, (.getfield 22, (64, 12, 4, 2, 0, 0), .inl 0, [], none)),
  (64, (.getfield 108, (67, 9, 1, 0, 0, 0), .inl 0, [], none)),
  (67, (.iload_n 3, (68, 0, 0, 0, 0, 0), .inl 0, [], none)),
  (68, (.iconst (-1), (69, 0, 0, 0, 0, 0), .inl 0, [], none)),
  (69, (.ixor, (70, 0, 0, 0, 0, 0), .inl 0, [], none)),
  (70, (.iand, (71, 0, 0, 0, 0, 0), .inl 0, [], none)),
  (71, (.invokevirtual 150, (74, 82, 2, 1, 2, 11), .inl 0, [], none)),
  (74, (.iload_n 1, (75, 0, 0, 0, 0, 0), .inl 0, [], none)),
  (75, (.if_icmp .eq 21, (78, 96, 0, 0, 0, 0), .inl 0, [], none)),
  (78, (.iload_n 2, (79, 0, 0, 0, 0, 0), .inl 0, [], none)),
  (79, (.iconst (-1), (80, 0, 0, 0, 0, 0), .inl 0, [], none)),
  (80, (.if_icmp .eq 14, (83, 94, 0, 0, 0, 0), .inl 0, [], none)),
  (83, (.iload_n 3, (84, 0, 0, 0, 0, 0), .inl 0, [], none)),
  (84, (.invokestatic 137, (87, 238, 1, 1, 1, 0), .inl 0, [], none)),
  (87, (.iload_n 2, (88, 0, 0, 0, 0, 0), .inl 0, [], none)),
  (88, (.invokestatic 137, (91, 238, 1, 1, 1, 0), .inl 0, [], none)),
  (91, (.if_icmp .ge 5, (94, 96, 0, 0, 0, 0), .inl 0, [], none)),
  (94, (.iload_n 3, (95, 0, 0, 0, 0, 0), .inl 0, [], none)),
  (95, (.istore_n 2, (96, 0, 0, 0, 0, 0), .inl 0, [], none)),
  (96, (.iinc 3 1, (99, 0, 0, 0, 0, 0), .inl 0, [], none)),
  (99, (.goto (-80), (102, 19, 0, 0, 0, 0), .inl 0, [], none)),
  (102, (.iload_n 2, (103, 0, 0, 0, 0, 0), .inl 0, [], none)),
  (103, (.ireturn, (104, 0, 0, 0, 0, 0), .inl 0, [], none))]
def z_SR_chance : List (Nat × sk_E) := [
  (0, (.aload_n 0, (1, 0, 0, 0, 0, 0), .inl 0, [], none)),
  (1, (.getfield 22, (4, 12, 4, 2, 0, 0), .inl 0, [], none)),
  (4, (.getfield 104, (7, 9, 0, 2, 0, 0), .inl 0, [], none)),
  (7, (.ifnonnull 7, (10, 14, 0, 0, 0, 0), .inl 0, [], none)),
  (10, (.iconst (-1), (11, 0, 0, 0, 0, 0), .inl 0, [], none)),
  (11, (.goto 17, (14, 28, 0, 0, 0, 0), .inl 0, [], none)),
  (14, (.aload_n 0, (15, 0, 0, 0, 0, 0), .inl 0, [], none)),
  (15, (.getfield 40, (18, 12, 7, 2, 0, 0), .inl 0, [], none)),
  (18, (.aload_n 0, (19, 0, 0, 0, 0, 0), .inl 0, [], none)),
  (19, (.getfield 22, (22, 12, 4, 2, 0, 0), .inl 0, [], none)),
  (22, (.getfield 108, (25, 9, 1, 0, 0, 0), .inl 0, [], none)),
  (25, (.invokevirtual 192, (28, 90, 2, 1, 2, 11), .inl 0, [], none)),
  (28, (.ireturn, (29, 0, 0, 0, 0, 0), .inl 0, [], none))]
def z_SR_child : List (Nat × sk_E) := [
  (0, (.aload_n 0, (1, 0, 0, 0, 0, 0), .inl 0, [], none)),
  (1, (.getfield 22, (4, 12, 4, 2, 0, 0), .inl 0, [], none)),
  (4, (.getfield 104, (7, 9, 0, 2, 0, 0), .inl 0, [], none)),
  (7, (.ifnonnull 7, (10, 14, 0, 0, 0, 0), .inl 0, [], none)),
  (10, (.iconst (-1), (11, 0, 0, 0, 0, 0), .inl 0, [], none)),
  (11, (.goto 17, (14, 28, 0, 0, 0, 0), .inl 0, [], none)),
  (14, (.aload_n 0, (15, 0, 0, 0, 0, 0), .inl 0, [], none)),
  (15, (.getfield 40, (18, 12, 7, 2, 0, 0), .inl 0, [], none)),
  (18, (.aload_n 0, (19, 0, 0, 0, 0, 0), .inl 0, [], none)),
  (19, (.getfield 22, (22, 12, 4, 2, 0, 0), .inl 0, [], none)),
  (22, (.getfield 108, (25, 9, 1, 0, 0, 0), .inl 0, [], none)),
  (25, (.invokevirtual 195, (28, 92, 2, 1, 2, 11), .inl 0, [], none)),
  (28, (.ireturn, (29, 0, 0, 0, 0, 0), .inl 0, [], none))]
def z_SR_match : List (Nat × sk_E) := [
  (0, (.aload_n 0, (1, 0, 0, 0, 0, 0), .inl 0, [], none)),
  (1, (.getfield 22, (4, 12, 4, 2, 0, 0), .inl 0, [], none)),
  (4, (.getfield 104, (7, 9, 0, 2, 0, 0), .inl 0, [], none)),
  (7, (.ifnull 28, (10, 35, 0, 0, 0, 0), .inl 0, [], none)),
  (10, (.aload_n 0, (11, 0, 0, 0, 0, 0), .inl 0, [], none)),
  (11, (.iload_n 1, (12, 0, 0, 0, 0, 0), .inl 0, [], none)),
  (12, (.invokevirtual 198, (15, 117, 2, 1, 2, 12), .inl 0, [], none)),
  (15, (.ifCond .eq 20, (18, 35, 0, 0, 0, 0), .inl 0, [], none)),
  (18, (.aload_n 0, (19, 0, 0, 0, 0, 0), .inl 0, [], none)),
  (19, (.iload_n 2, (20, 0, 0, 0, 0, 0), .inl 0, [], none)),
  (20, (.invokevirtual 198, (23, 117, 2, 1, 2, 12), .inl 0, [], none)),
  (23, (.ifCond .eq 12, (26, 35, 0, 0, 0, 0), .inl 0, [], none)),
  (26, (.iload_n 3, (27, 0, 0, 0, 0, 0), .inl 0, [], none)),
  (27, (.ifCond .lt 8, (30, 35, 0, 0, 0, 0), .inl 0, [], none)),
  (30, (.iload_n 3, (31, 0, 0, 0, 0, 0), .inl 0, [], none)),
  (31, (.iconst 1, (32, 0, 0, 0, 0, 0), .inl 0, [], none)),
  (32, (.if_icmp .le 5, (35, 37, 0, 0, 0, 0), .inl 0, [], none)),
  (35, (.iconst (-1), (36, 0, 0, 0, 0, 0), .inl 0, [], none)),
  (36, (.ireturn, (37, 0, 0, 0, 0, 0), .inl 0, [], none)),
  (37, (.aload_n 0, (38, 0, 0, 0, 0, 0), .inl 0, [], none)),
  (38, (.getfield 47, (41, 12, 8, 2, 0, 0), .inl 0, [], none)),
  (41, (.aload_n 0, (42, 0, 0, 0, 0, 0), .inl 0, [], none)),
  (42, (.getfield 22, (45, 12, 4, 2, 0, 0), .inl 0, [], none)),
  (45, (.aload_n 0, (46, 0, 0, 0, 0, 0), .inl 0, [], none)),
  (46, (.getfield 40, (49, 12, 7, 2, 0, 0), .inl 0, [], none)),
  (49, (.aload_n 0, (50, 0, 0, 0, 0, 0), .inl 0, [], none)),
  (50, (.getfield 15, (53, 12, 2, 2, 0, 0), .inl 0, [], none)),
  (53, (.iload_n 1, (54, 0, 0, 0, 0, 0), .inl 0, [], none)),
  (54, (.aaload, (55, 0, 0, 0, 0, 0), .inl 0, [], none)),
  (55, (.aload_n 0, (56, 0, 0, 0, 0, 0), .inl 0, [], none)),
  (56, (.getfield 15, (59, 12, 2, 2, 0, 0), .inl 0, [], none)),
  (59, (.iload_n 2, (60, 0, 0, 0, 0, 0), .inl 0, [], none)),
  (60, (.aaload, (61, 0, 0, 0, 0, 0), .inl 0, [], none)),
  (61, (.iconst 1, (62, 0, 0, 0, 0, 0), .inl 0, [], none)),
  (62, (.invokevirtual 201, (65, 31, 6, 0, 7, 4), .inl 0, [], none)),
  (65, (.iload_n 3, (66, 0, 0, 0, 0, 0), .inl 0, [], none)),
  (66, (.iconst 1, (67, 0, 0, 0, 0, 0), .inl 0, [], none)),
  (67, (.if_icmp .ne 11, (70, 78, 0, 0, 0, 0), .inl 0, [], none)),
  (70, (.aload_n 0, (71, 0, 0, 0, 0, 0), .inl 0, [], none)),
  (71, (.getfield 47, (74, 12, 8, 2, 0, 0), .inl 0, [], none)),
  (74, (.getfield 205, (77, 4, 8, 0, 0, 0), .inl 0, [], none)),
  (77, (.ireturn, (78, 0, 0, 0, 0, 0), .inl 0, [], none)),
  (78, (.aload_n 0, (79, 0, 0, 0, 0, 0), .inl 0, [], none)),
  (79, (.getfield 47, (82, 12, 8, 2, 0, 0), .inl 0, [], none)),
  (82, (.getfield 207, (85, 4, 7, 0, 0, 0), .inl 0, [], none)),
  (85, (.iconst 1, (86, 0, 0, 0, 0, 0), .inl 0, [], none)),
  (86, (.if_icmp .ne 7, (89, 93, 0, 0, 0, 0), .inl 0, [], none)),
  (89, (.iconst 0, (90, 0, 0, 0, 0, 0), .inl 0, [], none)),
  (90, (.goto 4, (93, 94, 0, 0, 0, 0), .inl 0, [], none)),
  (93, (.iconst 1, (94, 0, 0, 0, 0, 0), .inl 0, [], none)),
  (94, (.ireturn, (95, 0, 0, 0, 0, 0), .inl 0, [], none))]
def z_SR_isRule : List (Nat × sk_E) := [
  (0, (.iload_n 1, (1, 0, 0, 0, 0, 0), .inl 0, [], none)),
  (1, (.ifCond .lt 15, (4, 16, 0, 0, 0, 0), .inl 0, [], none)),
  (4, (.iload_n 1, (5, 0, 0, 0, 0, 0), .inl 0, [], none)),
  (5, (.aload_n 0, (6, 0, 0, 0, 0, 0), .inl 0, [], none)),
  (6, (.getfield 95, (9, 12, 3, 0, 0, 0), .inl 0, [], none)),
  (9, (.if_icmp .ge 7, (12, 16, 0, 0, 0, 0), .inl 0, [], none)),
  (12, (.iconst 1, (13, 0, 0, 0, 0, 0), .inl 0, [], none)),
  (13, (.goto 4, (16, 17, 0, 0, 0, 0), .inl 0, [], none)),
  (16, (.iconst 0, (17, 0, 0, 0, 0, 0), .inl 0, [], none)),
  (17, (.ireturn, (18, 3, 0, 0, 0, 0), .inl 0, [], none))]
def z_SR_knew : List (Nat × sk_E) := [
  (0, (.aload_n 0, (1, 0, 0, 0, 0, 0), .inl 0, [], none)),
  (1, (.getfield 22, (4, 12, 4, 2, 0, 0), .inl 0, [], none)),
  (4, (.getfield 104, (7, 9, 0, 2, 0, 0), .inl 0, [], none)),
  (7, (.ifnull 21, (10, 28, 0, 0, 0, 0), .inl 0, [], none)),
  (10, (.iload_n 1, (11, 0, 0, 0, 0, 0), .inl 0, [], none)),
  (11, (.ifCond .lt 17, (14, 28, 0, 0, 0, 0), .inl 0, [], none)),
  (14, (.iload_n 1, (15, 0, 0, 0, 0, 0), .inl 0, [], none)),
  (15, (.iconst 1, (16, 0, 0, 0, 0, 0), .inl 0, [], none)),
  (16, (.if_icmp .gt 12, (19, 28, 0, 0, 0, 0), .inl 0, [], none)),
  (19, (.iload_n 2, (20, 0, 0, 0, 0, 0), .inl 0, [], none)),
  (20, (.ifCond .lt 8, (23, 28, 0, 0, 0, 0), .inl 0, [], none)),
  (23, (.iload_n 2, (24, 0, 0, 0, 0, 0), .inl 0, [], none)),
  (24, (.iconst 3, (25, 0, 0, 0, 0, 0), .inl 0, [], none)),
  (25, (.if_icmp .le 5, (28, 30, 0, 0, 0, 0), .inl 0, [], none)),
  (28, (.iconst (-1), (29, 0, 0, 0, 0, 0), .inl 0, [], none)),
  (29, (.ireturn, (30, 0, 0, 0, 0, 0), .inl 0, [], none)),
  (30, (.iconst 0, (31, 0, 0, 0, 0, 0), .inl 0, [], none)),
  (31, (.istore_n 3, (32, 0, 0, 0, 0, 0), .inl 0, [], none)),
  (32, (.iconst 0, (33, 0, 0, 0, 0, 0), .inl 0, [], none)),
  (33, (.istore 4, (35, 0, 0, 0, 0, 0), .inl 0, [], none)),
  (35, (.iconst 0, (36, 0, 0, 0, 0, 0), .inl 0, [], none)),
  (36, (.istore 5, (38, 0, 0, 0, 0, 0), .inl 0, [], none)),
  (38, (.iconst 0, (39, 0, 0, 0, 0, 0), .inl 0, [], none)),
  (39, (.istore 6, (41, 0, 0, 0, 0, 0), .inl 0, [], none)),
  (41, (.iconst 0, (42, 0, 0, 0, 0, 0), .inl 0, [], none)),
  (42, (.istore 7, (44, 0, 0, 0, 0, 0), .inl 0, [], none)),
  (44, (.iload 7, (46, 0, 0, 0, 0, 0), .inl 0, [], some [true, true, true, true, true, true, true, true, false, false])),
  (46, (.aload_n 0, (47, 0, 0, 0, 0, 0), .inl 0, [], none)),
  (47, (.getfield 22, (50, 12, 4, 2, 0, 0), .inl 0, [], none)),
  (50, (.invokevirtual 210, (53, 73, 1, 1, 1, 9), .inl 0, [], none)),
  (53, (.if_icmp .ge 104, (56, 157, 0, 0, 0, 0), .inl 0, [], none)),
  (56, (.aload_n 0, (57, 0, 0, 0, 0, 0), .inl 0, [], none)),
  (57, (.getfield 22, (60, 12, 4, 2, 0, 0), .inl 0, [], none)),
  (60, (.iload 7, (62, 0, 0, 0, 0, 0), .inl 0, [], none)),
  (62, (.iload_n 1, (63, 0, 0, 0, 0, 0), .inl 0, [], none)),
  (63, (.invokevirtual 213, (66, 74, 3, 3, 3, 9), .inl 0, [], none)),
  (66, (.astore 8, (68, 0, 0, 0, 0, 0), .inl 0, [], none)),
  (68, (.aload 8, (70, 0, 0, 0, 0, 0), .inl 0, [], none)),
  (70, (.ifnonnull 6, (73, 76, 0, 0, 0, 0), .inl 0, [], none)),
  (73, (.goto 78, (76, 151, 0, 0, 0, 0), .inl 0, [], none)),
  (76, (.iinc 3 1, (79, 0, 0, 0, 0, 0), .inl 0, [], none)),
  (79, (.aload_n 0, (80, 0, 0, 0, 0, 0), .inl 0, [], none)),
  (80, (.getfield 40, (83, 12, 7, 2, 0, 0), .inl 0, [], none)),
  (83, (.aload_n 0, (84, 0, 0, 0, 0, 0), .inl 0, [], none)),
  (84, (.getfield 22, (87, 12, 4, 2, 0, 0), .inl 0, [], none)),
  (87, (.getfield 217, (90, 9, 6, 2, 0, 0), .inl 0, [], none)),
  (90, (.iload 7, (92, 0, 0, 0, 0, 0), .inl 0, [], none)),
  (92, (.iaload, (93, 0, 0, 0, 0, 0), .inl 0, [], none)),
  (93, (.invokevirtual 150, (96, 82, 2, 1, 2, 11), .inl 0, [], none)),
  (96, (.ifCond .eq 55, (99, 151, 0, 0, 0, 0), .inl 0, [], none)),
  (99, (.iinc 4 1, (102, 0, 0, 0, 0, 0), .inl 0, [], none)),
  (102, (.aload_n 0, (103, 0, 0, 0, 0, 0), .inl 0, [], none)),
  (103, (.getfield 40, (106, 12, 7, 2, 0, 0), .inl 0, [], none)),
  (106, (.aload_n 0, (107, 0, 0, 0, 0, 0), .inl 0, [], none)),
  (107, (.getfield 22, (110, 12, 4, 2, 0, 0), .inl 0, [], none)),
  (110, (.getfield 217, (113, 9, 6, 2, 0, 0), .inl 0, [], none)),
  (113, (.iload 7, (115, 0, 0, 0, 0, 0), .inl 0, [], none)),
  (115, (.iaload, (116, 0, 0, 0, 0, 0), .inl 0, [], none)),
  (116, (.aload 8, (118, 0, 0, 0, 0, 0), .inl 0, [], none)),
  (118, (.invokevirtual 125, (121, 83, 3, 1, 3, 11), .inl 0, [], none)),
  (121, (.istore 9, (123, 0, 0, 0, 0, 0), .inl 0, [], none)),
  (123, (.iload 5, (125, 0, 0, 0, 0, 0), .inl 0, [], none)),
  (125, (.iload 9, (127, 0, 0, 0, 0, 0), .inl 0, [], none)),
  (127, (.ifCond .eq 7, (130, 134, 0, 0, 0, 0), .inl 0, [], none)),
  (130, (.iconst 1, (131, 0, 0, 0, 0, 0), .inl 0, [], none)),
  (131, (.goto 4, (134, 135, 0, 0, 0, 0), .inl 0, [], none)),
  (134, (.iconst 0, (135, 0, 0, 0, 0, 0), .inl 0, [], none)),
  (135, (.iadd, (136, 0, 0, 0, 0, 0), .inl 0, [], none)),
  (136, (.istore 5, (138, 0, 0, 0, 0, 0), .inl 0, [], none)),
  (138, (.iload 9, (140, 0, 0, 0, 0, 0), .inl 0, [], none)),
  (140, (.ifCond .eq 8, (143, 148, 0, 0, 0, 0), .inl 0, [], none)),
  (143, (.iload 6, (145, 0, 0, 0, 0, 0), .inl 0, [], none)),
  (145, (.goto 4, (148, 149, 0, 0, 0, 0), .inl 0, [], none)),
  (148, (.iload_n 3, (149, 0, 0, 0, 0, 0), .inl 0, [], none)),
  (149, (.istore 6, (151, 0, 0, 0, 0, 0), .inl 0, [], none)),
  (151, (.iinc 7 1, (154, 0, 0, 0, 0, 0), .inl 0, [], none)),
  (154, (.goto (-110), (157, 44, 0, 0, 0, 0), .inl 0, [], none)),
  (157, (.iload_n 2, (158, 0, 0, 0, 0, 0), .inl 0, [], none)),
  (158, (.tableswitch 34 0 2 #[26, 28, 31], (184, 192, 0, 0, 0, 0), .inl 0, [(0, 184), (1, 186), (2, 189)], none)),
  (184, (.iload_n 3, (185, 0, 0, 0, 0, 0), .inl 0, [], none)),
  (185, (.ireturn, (186, 0, 0, 0, 0, 0), .inl 0, [], none)),
  (186, (.iload 4, (188, 0, 0, 0, 0, 0), .inl 0, [], none)),
  (188, (.ireturn, (189, 0, 0, 0, 0, 0), .inl 0, [], none)),
  (189, (.iload 5, (191, 0, 0, 0, 0, 0), .inl 0, [], none)),
  (191, (.ireturn, (192, 0, 0, 0, 0, 0), .inl 0, [], none)),
  (192, (.iload 6, (194, 0, 0, 0, 0, 0), .inl 0, [], none)),
  (194, (.ireturn, (195, 0, 0, 0, 0, 0), .inl 0, [], none))]
def z_SR_law : List (Nat × sk_E) := [
  (0, (.aload_n 0, (1, 0, 0, 0, 0, 0), .inl 0, [], none)),
  (1, (.getfield 22, (4, 12, 4, 2, 0, 0), .inl 0, [], none)),
  (4, (.getfield 104, (7, 9, 0, 2, 0, 0), .inl 0, [], none)),
  (7, (.ifnull 21, (10, 28, 0, 0, 0, 0), .inl 0, [], none)),
  (10, (.iload_n 1, (11, 0, 0, 0, 0, 0), .inl 0, [], none)),
  (11, (.ifCond .lt 17, (14, 28, 0, 0, 0, 0), .inl 0, [], none)),
  (14, (.iload_n 1, (15, 0, 0, 0, 0, 0), .inl 0, [], none)),
  (15, (.iconst 1, (16, 0, 0, 0, 0, 0), .inl 0, [], none)),
  (16, (.if_icmp .gt 12, (19, 28, 0, 0, 0, 0), .inl 0, [], none)),
  (19, (.iload_n 2, (20, 0, 0, 0, 0, 0), .inl 0, [], none)),
  (20, (.ifCond .lt 8, (23, 28, 0, 0, 0, 0), .inl 0, [], none)),
  (23, (.iload_n 2, (24, 0, 0, 0, 0, 0), .inl 0, [], none)),
  (24, (.iconst 3, (25, 0, 0, 0, 0, 0), .inl 0, [], none)),
  (25, (.if_icmp .le 5, (28, 30, 0, 0, 0, 0), .inl 0, [], none)),
  (28, (.iconst (-1), (29, 0, 0, 0, 0, 0), .inl 0, [], none)),
  (29, (.ireturn, (30, 0, 0, 0, 0, 0), .inl 0, [], none)),
  (30, (.ldc2_w 220, (33, 0, 0, 0, 0, 0), .inr (.inl (1152921504606846975)), [], none)),
  (33, (.lstore_n 3, (34, 0, 0, 0, 0, 0), .inl 0, [], none)),
  (34, (.iconst 0, (35, 0, 0, 0, 0, 0), .inl 0, [], none)),
  (35, (.istore 5, (37, 0, 0, 0, 0, 0), .inl 0, [], none)),
  (37, (.iload 5, (39, 0, 0, 0, 0, 0), .inl 0, [], some [true, true, true, true, false, true, false])),
  (39, (.aload_n 0, (40, 0, 0, 0, 0, 0), .inl 0, [], none)),
  (40, (.getfield 22, (43, 12, 4, 2, 0, 0), .inl 0, [], none)),
  (43, (.invokevirtual 210, (46, 73, 1, 1, 1, 9), .inl 0, [], none)),
  (46, (.if_icmp .ge 48, (49, 94, 0, 0, 0, 0), .inl 0, [], none)),
  (49, (.aload_n 0, (50, 0, 0, 0, 0, 0), .inl 0, [], none)),
  (50, (.getfield 22, (53, 12, 4, 2, 0, 0), .inl 0, [], none)),
  (53, (.iload 5, (55, 0, 0, 0, 0, 0), .inl 0, [], none)),
  (55, (.iload_n 1, (56, 0, 0, 0, 0, 0), .inl 0, [], none)),
  (56, (.invokevirtual 213, (59, 74, 3, 3, 3, 9), .inl 0, [], none)),
  (59, (.astore 6, (61, 0, 0, 0, 0, 0), .inl 0, [], none)),
  (61, (.aload 6, (63, 0, 0, 0, 0, 0), .inl 0, [], none)),
  (63, (.ifnull 25, (66, 88, 0, 0, 0, 0), .inl 0, [], none)),
  (66, (.lload_n 3, (67, 0, 0, 0, 0, 0), .inl 0, [], none)),
  (67, (.aload_n 0, (68, 0, 0, 0, 0, 0), .inl 0, [], none)),
  (68, (.getfield 40, (71, 12, 7, 2, 0, 0), .inl 0, [], none)),
  (71, (.aload_n 0, (72, 0, 0, 0, 0, 0), .inl 0, [], none)),
  (72, (.getfield 22, (75, 12, 4, 2, 0, 0), .inl 0, [], none)),
  (75, (.getfield 217, (78, 9, 6, 2, 0, 0), .inl 0, [], none)),
  (78, (.iload 5, (80, 0, 0, 0, 0, 0), .inl 0, [], none)),
  (80, (.iaload, (81, 0, 0, 0, 0, 0), .inl 0, [], none)),
  (81, (.aload 6, (83, 0, 0, 0, 0, 0), .inl 0, [], none)),
  (83, (.invokevirtual 222, (86, 84, 3, 2, 5, 11), .inl 0, [], none)),
  (86, (.land, (87, 0, 0, 0, 0, 0), .inl 0, [], none)),
  (87, (.lstore_n 3, (88, 0, 0, 0, 0, 0), .inl 0, [], none)),
  (88, (.iinc 5 1, (91, 0, 0, 0, 0, 0), .inl 0, [], none)),
  (91, (.goto (-54), (94, 37, 0, 0, 0, 0), .inl 0, [], none)),
  (94, (.iload_n 2, (95, 0, 0, 0, 0, 0), .inl 0, [], none)),
  (95, (.ifCond .ne 8, (98, 103, 0, 0, 0, 0), .inl 0, [], none)),
  (98, (.lload_n 3, (99, 0, 0, 0, 0, 0), .inl 0, [], none)),
  (99, (.invokestatic 226, (102, 240, 1, 1, 2, 0), .inl 0, [], none)),
  (102, (.ireturn, (103, 0, 0, 0, 0, 0), .inl 0, [], none)),
  (103, (.lload_n 3, (104, 0, 0, 0, 0, 0), .inl 0, [], none)),
  (104, (.lconst 0, (105, 0, 0, 0, 0, 0), .inl 0, [], none)),
  (105, (.lcmp, (106, 0, 0, 0, 0, 0), .inl 0, [], none)),
  (106, (.ifCond .ne 6, (109, 112, 0, 0, 0, 0), .inl 0, [], none)),
  (109, (.bipush (-2), (111, 0, 0, 0, 0, 0), .inl 0, [], none)),
  (111, (.ireturn, (112, 0, 0, 0, 0, 0), .inl 0, [], none)),
  (112, (.lload_n 3, (113, 0, 0, 0, 0, 0), .inl 0, [], none)),
  (113, (.invokestatic 231, (116, 239, 1, 1, 3, 0), .inl 0, [], none)),
  (116, (.istore 5, (118, 0, 0, 0, 0, 0), .inl 0, [], none)),
  (118, (.iload_n 2, (119, 0, 0, 0, 0, 0), .inl 0, [], none)),
  (119, (.lookupswitch 39 #[(1, 25), (2, 32)], (144, 158, 0, 0, 0, 0), .inl 0, [(1, 144), (2, 151)], none)),
  (144, (.iload 5, (146, 0, 0, 0, 0, 0), .inl 0, [], none)),
  (146, (.iconst 4, (147, 0, 0, 0, 0, 0), .inl 0, [], none)),
  (147, (.idiv, (148, 0, 0, 0, 0, 0), .inl 0, [], none)),
  (148, (.iconst 1, (149, 0, 0, 0, 0, 0), .inl 0, [], none)),
  (149, (.iadd, (150, 0, 0, 0, 0, 0), .inl 0, [], none)),
  (150, (.ireturn, (151, 0, 0, 0, 0, 0), .inl 0, [], none)),
  (151, (.iload 5, (153, 0, 0, 0, 0, 0), .inl 0, [], none)),
  (153, (.iconst 2, (154, 0, 0, 0, 0, 0), .inl 0, [], none)),
  (154, (.idiv, (155, 0, 0, 0, 0, 0), .inl 0, [], none)),
  (155, (.iconst 2, (156, 0, 0, 0, 0, 0), .inl 0, [], none)),
  (156, (.irem, (157, 0, 0, 0, 0, 0), .inl 0, [], none)),
  (157, (.ireturn, (158, 0, 0, 0, 0, 0), .inl 0, [], none)),
  (158, (.iload 5, (160, 0, 0, 0, 0, 0), .inl 0, [], none)),
  (160, (.iconst 2, (161, 0, 0, 0, 0, 0), .inl 0, [], none)),
  (161, (.irem, (162, 0, 0, 0, 0, 0), .inl 0, [], none)),
  (162, (.ireturn, (163, 0, 0, 0, 0, 0), .inl 0, [], none))]
def z_SR_seed : List (Nat × sk_E) := [
  (0, (.iload_n 1, (1, 0, 0, 0, 0, 0), .inl 0, [], none)),
  (1, (.ifCond .ge 5, (4, 6, 0, 0, 0, 0), .inl 0, [], none)),
  (4, (.iconst (-1), (5, 0, 0, 0, 0, 0), .inl 0, [], none)),
  (5, (.ireturn, (6, 0, 0, 0, 0, 0), .inl 0, [], none)),
  (6, (.aload_n 0, (7, 0, 0, 0, 0, 0), .inl 0, [], none)),
  (7, (.getfield 22, (10, 12, 4, 2, 0, 0), .inl 0, [], none)),
  (10, (.getfield 234, (13, 9, 4, 0, 0, 0), .inl 0, [], none)),
  (13, (.istore_n 2, (14, 0, 0, 0, 0, 0), .inl 0, [], none)),
  (14, (.aload_n 0, (15, 0, 0, 0, 0, 0), .inl 0, [], none)),
  (15, (.getfield 22, (18, 12, 4, 2, 0, 0), .inl 0, [], none)),
  (18, (.iload_n 1, (19, 0, 0, 0, 0, 0), .inl 0, [], none)),
  (19, (.putfield 234, (22, 9, 4, 0, 0, 0), .inl 0, [], none)),
  (22, (.iload_n 2, (23, 0, 0, 0, 0, 0), .inl 0, [], none)),
  (23, (.ireturn, (24, 0, 0, 0, 0, 0), .inl 0, [], none))]
def z_SR_games : List (Nat × sk_E) := [
  (0, (.aload_n 0, (1, 0, 0, 0, 0, 0), .inl 0, [], none)),
  (1, (.getfield 22, (4, 12, 4, 2, 0, 0), .inl 0, [], none)),
  (4, (.getfield 104, (7, 9, 0, 2, 0, 0), .inl 0, [], none)),
  (7, (.ifnull 23, (10, 30, 0, 0, 0, 0), .inl 0, [], none)),
  (10, (.iload_n 1, (11, 0, 0, 0, 0, 0), .inl 0, [], none)),
  (11, (.iconst 1, (12, 0, 0, 0, 0, 0), .inl 0, [], none)),
  (12, (.if_icmp .lt 18, (15, 30, 0, 0, 0, 0), .inl 0, [], none)),
  (15, (.iload_n 1, (16, 0, 0, 0, 0, 0), .inl 0, [], none)),
  (16, (.bipush 50, (18, 0, 0, 0, 0, 0), .inl 0, [], none)),
  (18, (.if_icmp .gt 12, (21, 30, 0, 0, 0, 0), .inl 0, [], none)),
  (21, (.iload_n 2, (22, 0, 0, 0, 0, 0), .inl 0, [], none)),
  (22, (.ifCond .lt 8, (25, 30, 0, 0, 0, 0), .inl 0, [], none)),
  (25, (.iload_n 2, (26, 0, 0, 0, 0, 0), .inl 0, [], none)),
  (26, (.iconst 1, (27, 0, 0, 0, 0, 0), .inl 0, [], none)),
  (27, (.if_icmp .le 5, (30, 32, 0, 0, 0, 0), .inl 0, [], none)),
  (30, (.iconst (-1), (31, 0, 0, 0, 0, 0), .inl 0, [], none)),
  (31, (.ireturn, (32, 0, 0, 0, 0, 0), .inl 0, [], none)),
  (32, (.aload_n 0, (33, 0, 0, 0, 0, 0), .inl 0, [], none)),
  (33, (.getfield 47, (36, 12, 8, 2, 0, 0), .inl 0, [], none)),
  (36, (.aload_n 0, (37, 0, 0, 0, 0, 0), .inl 0, [], none)),
  (37, (.getfield 22, (40, 12, 4, 2, 0, 0), .inl 0, [], none)),
  (40, (.aload_n 0, (41, 0, 0, 0, 0, 0), .inl 0, [], none)),
  (41, (.getfield 40, (44, 12, 7, 2, 0, 0), .inl 0, [], none)),
  (44, (.aconst_null, (45, 0, 0, 0, 0, 0), .inl 0, [], none)),
  (45, (.aconst_null, (46, 0, 0, 0, 0, 0), .inl 0, [], none)),
  (46, (.iload_n 1, (47, 0, 0, 0, 0, 0), .inl 0, [], none)),
  (47, (.invokevirtual 201, (50, 31, 6, 0, 7, 4), .inl 0, [], none)),
  (50, (.iload_n 2, (51, 0, 0, 0, 0, 0), .inl 0, [], none)),
  (51, (.ifCond .ne 13, (54, 64, 0, 0, 0, 0), .inl 0, [], none)),
  (54, (.aload_n 0, (55, 0, 0, 0, 0, 0), .inl 0, [], none)),
  (55, (.getfield 47, (58, 12, 8, 2, 0, 0), .inl 0, [], none)),
  (58, (.getfield 207, (61, 4, 7, 0, 0, 0), .inl 0, [], none)),
  (61, (.goto 10, (64, 71, 0, 0, 0, 0), .inl 0, [], none)),
  (64, (.aload_n 0, (65, 0, 0, 0, 0, 0), .inl 0, [], none)),
  (65, (.getfield 47, (68, 12, 8, 2, 0, 0), .inl 0, [], none)),
  (68, (.getfield 205, (71, 4, 8, 0, 0, 0), .inl 0, [], none)),
  (71, (.ireturn, (72, 0, 0, 0, 0, 0), .inl 0, [], none))]
def z_SR_against : List (Nat × sk_E) := [
  (0, (.aload_n 0, (1, 0, 0, 0, 0, 0), .inl 0, [], none)),
  (1, (.getfield 22, (4, 12, 4, 2, 0, 0), .inl 0, [], none)),
  (4, (.getfield 104, (7, 9, 0, 2, 0, 0), .inl 0, [], none)),
  (7, (.ifnull 31, (10, 38, 0, 0, 0, 0), .inl 0, [], none)),
  (10, (.aload_n 0, (11, 0, 0, 0, 0, 0), .inl 0, [], none)),
  (11, (.iload_n 1, (12, 0, 0, 0, 0, 0), .inl 0, [], none)),
  (12, (.invokevirtual 198, (15, 117, 2, 1, 2, 12), .inl 0, [], none)),
  (15, (.ifCond .eq 23, (18, 38, 0, 0, 0, 0), .inl 0, [], none)),
  (18, (.iload_n 2, (19, 0, 0, 0, 0, 0), .inl 0, [], none)),
  (19, (.iconst 1, (20, 0, 0, 0, 0, 0), .inl 0, [], none)),
  (20, (.if_icmp .lt 18, (23, 38, 0, 0, 0, 0), .inl 0, [], none)),
  (23, (.iload_n 2, (24, 0, 0, 0, 0, 0), .inl 0, [], none)),
  (24, (.bipush 50, (26, 0, 0, 0, 0, 0), .inl 0, [], none)),
  (26, (.if_icmp .gt 12, (29, 38, 0, 0, 0, 0), .inl 0, [], none)),
  (29, (.iload_n 3, (30, 0, 0, 0, 0, 0), .inl 0, [], none)),
  (30, (.ifCond .lt 8, (33, 38, 0, 0, 0, 0), .inl 0, [], none)),
  (33, (.iload_n 3, (34, 0, 0, 0, 0, 0), .inl 0, [], none)),
  (34, (.iconst 1, (35, 0, 0, 0, 0, 0), .inl 0, [], none)),
  (35, (.if_icmp .le 5, (38, 40, 0, 0, 0, 0), .inl 0, [], none)),
  (38, (.iconst (-1), (39, 0, 0, 0, 0, 0), .inl 0, [], none)),
  (39, (.ireturn, (40, 0, 0, 0, 0, 0), .inl 0, [], none)),
  (40, (.aload_n 0, (41, 0, 0, 0, 0, 0), .inl 0, [], none)),
  (41, (.getfield 47, (44, 12, 8, 2, 0, 0), .inl 0, [], none)),
  (44, (.aload_n 0, (45, 0, 0, 0, 0, 0), .inl 0, [], none)),
  (45, (.getfield 22, (48, 12, 4, 2, 0, 0), .inl 0, [], none)),
  (48, (.aload_n 0, (49, 0, 0, 0, 0, 0), .inl 0, [], none)),
  (49, (.getfield 40, (52, 12, 7, 2, 0, 0), .inl 0, [], none)),
  (52, (.aload_n 0, (53, 0, 0, 0, 0, 0), .inl 0, [], none)),
  (53, (.getfield 15, (56, 12, 2, 2, 0, 0), .inl 0, [], none)),
  (56, (.iload_n 1, (57, 0, 0, 0, 0, 0), .inl 0, [], none)),
  (57, (.aaload, (58, 0, 0, 0, 0, 0), .inl 0, [], none)),
  (58, (.aconst_null, (59, 0, 0, 0, 0, 0), .inl 0, [], none)),
  (59, (.iload_n 2, (60, 0, 0, 0, 0, 0), .inl 0, [], none)),
  (60, (.invokevirtual 201, (63, 31, 6, 0, 7, 4), .inl 0, [], none)),
  (63, (.iload_n 3, (64, 0, 0, 0, 0, 0), .inl 0, [], none)),
  (64, (.ifCond .ne 13, (67, 77, 0, 0, 0, 0), .inl 0, [], none)),
  (67, (.aload_n 0, (68, 0, 0, 0, 0, 0), .inl 0, [], none)),
  (68, (.getfield 47, (71, 12, 8, 2, 0, 0), .inl 0, [], none)),
  (71, (.getfield 207, (74, 4, 7, 0, 0, 0), .inl 0, [], none)),
  (74, (.goto 10, (77, 84, 0, 0, 0, 0), .inl 0, [], none)),
  (77, (.aload_n 0, (78, 0, 0, 0, 0, 0), .inl 0, [], none)),
  (78, (.getfield 47, (81, 12, 8, 2, 0, 0), .inl 0, [], none)),
  (81, (.getfield 205, (84, 4, 8, 0, 0, 0), .inl 0, [], none)),
  (84, (.ireturn, (85, 0, 0, 0, 0, 0), .inl 0, [], none))]
def z_SR_count : List (Nat × sk_E) := [
  (0, (.iload_n 1, (1, 0, 0, 0, 0, 0), .inl 0, [], none)),
  (1, (.ifCond .lt 34, (4, 35, 0, 0, 0, 0), .inl 0, [], none)),
  (4, (.iload_n 1, (5, 0, 0, 0, 0, 0), .inl 0, [], none)),
  (5, (.iconst 5, (6, 0, 0, 0, 0, 0), .inl 0, [], none)),
  (6, (.if_icmp .gt 29, (9, 35, 0, 0, 0, 0), .inl 0, [], none)),
  (9, (.aload_n 0, (10, 0, 0, 0, 0, 0), .inl 0, [], none)),
  (10, (.getfield 22, (13, 12, 4, 2, 0, 0), .inl 0, [], none)),
  (13, (.getfield 104, (16, 9, 0, 2, 0, 0), .inl 0, [], none)),
  (16, (.ifnonnull 7, (19, 23, 0, 0, 0, 0), .inl 0, [], none)),
  (19, (.iconst 0, (20, 0, 0, 0, 0, 0), .inl 0, [], none)),
  (20, (.goto 14, (23, 34, 0, 0, 0, 0), .inl 0, [], none)),
  (23, (.aload_n 0, (24, 0, 0, 0, 0, 0), .inl 0, [], none)),
  (24, (.getfield 22, (27, 12, 4, 2, 0, 0), .inl 0, [], none)),
  (27, (.getfield 104, (30, 9, 0, 2, 0, 0), .inl 0, [], none)),
  (30, (.iload_n 1, (31, 0, 0, 0, 0, 0), .inl 0, [], none)),
  (31, (.invokevirtual 237, (34, 21, 2, 1, 2, 2), .inl 0, [], none)),
  (34, (.ireturn, (35, 0, 0, 0, 0, 0), .inl 0, [], none)),
  (35, (.iload_n 1, (36, 0, 0, 0, 0, 0), .inl 0, [], some [true, true])),
  (36, (.tableswitch 94 6 12 #[44, 49, 57, 65, 73, 81, 89], (80, 130, 0, 0, 0, 0), .inl 0, [(6, 80), (7, 85), (8, 93), (9, 101), (10, 109), (11, 117), (12, 125)], none)),
  (80, (.aload_n 0, (81, 0, 0, 0, 0, 0), .inl 0, [], none)),
  (81, (.getfield 95, (84, 12, 3, 0, 0, 0), .inl 0, [], none)),
  (84, (.ireturn, (85, 0, 0, 0, 0, 0), .inl 0, [], none)),
  (85, (.aload_n 0, (86, 0, 0, 0, 0, 0), .inl 0, [], none)),
  (86, (.getfield 22, (89, 12, 4, 2, 0, 0), .inl 0, [], none)),
  (89, (.getfield 143, (92, 9, 2, 0, 0, 0), .inl 0, [], none)),
  (92, (.ireturn, (93, 0, 0, 0, 0, 0), .inl 0, [], none)),
  (93, (.aload_n 0, (94, 0, 0, 0, 0, 0), .inl 0, [], none)),
  (94, (.getfield 22, (97, 12, 4, 2, 0, 0), .inl 0, [], none)),
  (97, (.getfield 108, (100, 9, 1, 0, 0, 0), .inl 0, [], none)),
  (100, (.ireturn, (101, 0, 0, 0, 0, 0), .inl 0, [], none)),
  (101, (.aload_n 0, (102, 0, 0, 0, 0, 0), .inl 0, [], none)),
  (102, (.getfield 22, (105, 12, 4, 2, 0, 0), .inl 0, [], none)),
  (105, (.getfield 240, (108, 9, 3, 0, 0, 0), .inl 0, [], none)),
  (108, (.ireturn, (109, 0, 0, 0, 0, 0), .inl 0, [], none)),
  (109, (.aload_n 0, (110, 0, 0, 0, 0, 0), .inl 0, [], none)),
  (110, (.getfield 33, (113, 12, 6, 2, 0, 0), .inl 0, [], none)),
  (113, (.getfield 243, (116, 1, 4, 0, 0, 0), .inl 0, [], none)),
  (116, (.ireturn, (117, 0, 0, 0, 0, 0), .inl 0, [], none)),
  (117, (.aload_n 0, (118, 0, 0, 0, 0, 0), .inl 0, [], none)),
  (118, (.getfield 22, (121, 12, 4, 2, 0, 0), .inl 0, [], none)),
  (121, (.getfield 234, (124, 9, 4, 0, 0, 0), .inl 0, [], none)),
  (124, (.ireturn, (125, 0, 0, 0, 0, 0), .inl 0, [], none)),
  (125, (.aload_n 0, (126, 0, 0, 0, 0, 0), .inl 0, [], none)),
  (126, (.getfield 51, (129, 12, 1, 0, 0, 0), .inl 0, [], none)),
  (129, (.ireturn, (130, 0, 0, 0, 0, 0), .inl 0, [], none)),
  (130, (.iconst (-1), (131, 0, 0, 0, 0, 0), .inl 0, [], none)),
  (131, (.ireturn, (132, 0, 0, 0, 0, 0), .inl 0, [], none))]
def z_SR_image : List (Nat × sk_E) := [
  (0, (.iload_n 1, (1, 0, 0, 0, 0, 0), .inl 0, [], none)),
  (1, (.ifCond .lt 8, (4, 9, 0, 0, 0, 0), .inl 0, [], none)),
  (4, (.iload_n 1, (5, 0, 0, 0, 0, 0), .inl 0, [], none)),
  (5, (.iconst 4, (6, 0, 0, 0, 0, 0), .inl 0, [], none)),
  (6, (.if_icmp .lt 5, (9, 11, 0, 0, 0, 0), .inl 0, [], none)),
  (9, (.iconst (-1), (10, 0, 0, 0, 0, 0), .inl 0, [], none)),
  (10, (.ireturn, (11, 0, 0, 0, 0, 0), .inl 0, [], none)),
  (11, (.aload_n 0, (12, 0, 0, 0, 0, 0), .inl 0, [], none)),
  (12, (.getfield 26, (15, 12, 5, 2, 0, 0), .inl 0, [], none)),
  (15, (.iload_n 1, (16, 0, 0, 0, 0, 0), .inl 0, [], none)),
  (16, (.aaload, (17, 0, 0, 0, 0, 0), .inl 0, [], none)),
  (17, (.ifnonnull 16, (20, 33, 0, 0, 0, 0), .inl 0, [], none)),
  (20, (.aload_n 0, (21, 0, 0, 0, 0, 0), .inl 0, [], none)),
  (21, (.getfield 26, (24, 12, 5, 2, 0, 0), .inl 0, [], none)),
  (24, (.iload_n 1, (25, 0, 0, 0, 0, 0), .inl 0, [], none)),
  (25, (.new 19, (28, 9, 8, 0, 0, 0), .inl 0, [], none)),
  (28, (.dup, (29, 0, 0, 0, 0, 0), .inl 0, [], none)),
  (29, (.invokespecial 21, (32, 71, 1, 0, 1, 0), .inl 0, [], none)),
  (32, (.aastore, (33, 0, 0, 0, 0, 0), .inl 0, [], none)),
  (33, (.aload_n 0, (34, 0, 0, 0, 0, 0), .inl 0, [], none)),
  (34, (.getfield 26, (37, 12, 5, 2, 0, 0), .inl 0, [], none)),
  (37, (.iload_n 1, (38, 0, 0, 0, 0, 0), .inl 0, [], none)),
  (38, (.aaload, (39, 0, 0, 0, 0, 0), .inl 0, [], none)),
  (39, (.aload_n 0, (40, 0, 0, 0, 0, 0), .inl 0, [], none)),
  (40, (.getfield 22, (43, 12, 4, 2, 0, 0), .inl 0, [], none)),
  (43, (.invokevirtual 246, (46, 76, 2, 0, 3, 9), .inl 0, [], none)),
  (46, (.aload_n 0, (47, 0, 0, 0, 0, 0), .inl 0, [], none)),
  (47, (.getfield 22, (50, 12, 4, 2, 0, 0), .inl 0, [], none)),
  (50, (.getfield 240, (53, 9, 3, 0, 0, 0), .inl 0, [], none)),
  (53, (.ireturn, (54, 0, 0, 0, 0, 0), .inl 0, [], none))]
def z_SR_back : List (Nat × sk_E) := [
  (0, (.iload_n 1, (1, 0, 0, 0, 0, 0), .inl 0, [], none)),
  (1, (.ifCond .lt 17, (4, 18, 0, 0, 0, 0), .inl 0, [], none)),
  (4, (.iload_n 1, (5, 0, 0, 0, 0, 0), .inl 0, [], none)),
  (5, (.iconst 4, (6, 0, 0, 0, 0, 0), .inl 0, [], none)),
  (6, (.if_icmp .ge 12, (9, 18, 0, 0, 0, 0), .inl 0, [], none)),
  (9, (.aload_n 0, (10, 0, 0, 0, 0, 0), .inl 0, [], none)),
  (10, (.getfield 26, (13, 12, 5, 2, 0, 0), .inl 0, [], none)),
  (13, (.iload_n 1, (14, 0, 0, 0, 0, 0), .inl 0, [], none)),
  (14, (.aaload, (15, 0, 0, 0, 0, 0), .inl 0, [], none)),
  (15, (.ifnonnull 5, (18, 20, 0, 0, 0, 0), .inl 0, [], none)),
  (18, (.iconst (-1), (19, 0, 0, 0, 0, 0), .inl 0, [], none)),
  (19, (.ireturn, (20, 0, 0, 0, 0, 0), .inl 0, [], none)),
  (20, (.aload_n 0, (21, 0, 0, 0, 0, 0), .inl 0, [], none)),
  (21, (.getfield 22, (24, 12, 4, 2, 0, 0), .inl 0, [], none)),
  (24, (.aload_n 0, (25, 0, 0, 0, 0, 0), .inl 0, [], none)),
  (25, (.getfield 26, (28, 12, 5, 2, 0, 0), .inl 0, [], none)),
  (28, (.iload_n 1, (29, 0, 0, 0, 0, 0), .inl 0, [], none)),
  (29, (.aaload, (30, 0, 0, 0, 0, 0), .inl 0, [], none)),
  (30, (.invokevirtual 246, (33, 76, 2, 0, 3, 9), .inl 0, [], none)),
  (33, (.aload_n 0, (34, 0, 0, 0, 0, 0), .inl 0, [], none)),
  (34, (.getfield 33, (37, 12, 6, 2, 0, 0), .inl 0, [], none)),
  (37, (.invokevirtual 84, (40, 2, 1, 0, 1, 1), .inl 0, [], none)),
  (40, (.aload_n 0, (41, 0, 0, 0, 0, 0), .inl 0, [], none)),
  (41, (.getfield 40, (44, 12, 7, 2, 0, 0), .inl 0, [], none)),
  (44, (.aload_n 0, (45, 0, 0, 0, 0, 0), .inl 0, [], none)),
  (45, (.getfield 22, (48, 12, 4, 2, 0, 0), .inl 0, [], none)),
  (48, (.getfield 104, (51, 9, 0, 2, 0, 0), .inl 0, [], none)),
  (51, (.invokevirtual 87, (54, 80, 2, 0, 2, 11), .inl 0, [], none)),
  (54, (.aload_n 0, (55, 0, 0, 0, 0, 0), .inl 0, [], none)),
  (55, (.getfield 22, (58, 12, 4, 2, 0, 0), .inl 0, [], none)),
  (58, (.getfield 240, (61, 9, 3, 0, 0, 0), .inl 0, [], none)),
  (61, (.ireturn, (62, 0, 0, 0, 0, 0), .inl 0, [], none))]
def z_M_init : List (Nat × sk_E) := [
  (0, (.aload_n 0, (1, 0, 0, 0, 0, 0), .inl 0, [], none)),
  (1, (.invokespecial 1, (4, 0, 1, 0, 0, 0), .inl 0, [], none)),
  (4, (.aload_n 0, (5, 0, 0, 0, 0, 0), .inl 0, [], none)),
  (5, (.sipush 400, (8, 0, 0, 0, 0, 0), .inl 0, [], none)),
  (8, (.newarray .byte, (10, 0, 0, 0, 0, 0), .inl 0, [], none)),
  (10, (.putfield 7, (13, 13, 0, 2, 0, 0), .inl 0, [], none)),
  (13, (.aload_n 0, (14, 0, 0, 0, 0, 0), .inl 0, [], none)),
  (14, (.sipush 2400, (17, 0, 0, 0, 0, 0), .inl 0, [], none)),
  (17, (.newarray .int, (19, 0, 0, 0, 0, 0), .inl 0, [], none)),
  (19, (.putfield 13, (22, 13, 3, 2, 0, 0), .inl 0, [], none)),
  (22, (.aload_n 0, (23, 0, 0, 0, 0, 0), .inl 0, [], none)),
  (23, (.bipush 7, (25, 0, 0, 0, 0, 0), .inl 0, [], none)),
  (25, (.newarray .int, (27, 0, 0, 0, 0, 0), .inl 0, [], none)),
  (27, (.putfield 17, (30, 13, 4, 2, 0, 0), .inl 0, [], none)),
  (30, (.aload_n 0, (31, 0, 0, 0, 0, 0), .inl 0, [], none)),
  (31, (.sipush 288, (34, 0, 0, 0, 0, 0), .inl 0, [], none)),
  (34, (.newarray .int, (36, 0, 0, 0, 0, 0), .inl 0, [], none)),
  (36, (.putfield 20, (39, 13, 5, 2, 0, 0), .inl 0, [], none)),
  (39, (.aload_n 0, (40, 0, 0, 0, 0, 0), .inl 0, [], none)),
  (40, (.bipush 6, (42, 0, 0, 0, 0, 0), .inl 0, [], none)),
  (42, (.newarray .int, (44, 0, 0, 0, 0, 0), .inl 0, [], none)),
  (44, (.putfield 23, (47, 13, 6, 2, 0, 0), .inl 0, [], none)),
  (47, (.aload_n 0, (48, 0, 0, 0, 0, 0), .inl 0, [], none)),
  (48, (.bipush 24, (50, 0, 0, 0, 0, 0), .inl 0, [], none)),
  (50, (.newarray .int, (52, 0, 0, 0, 0, 0), .inl 0, [], none)),
  (52, (.putfield 26, (55, 13, 7, 2, 0, 0), .inl 0, [], none)),
  (55, (.aload_n 0, (56, 0, 0, 0, 0, 0), .inl 0, [], none)),
  (56, (.sipush 400, (59, 0, 0, 0, 0, 0), .inl 0, [], none)),
  (59, (.newarray .int, (61, 0, 0, 0, 0, 0), .inl 0, [], none)),
  (61, (.putfield 29, (64, 13, 15, 2, 0, 0), .inl 0, [], none)),
  (64, (.aload_n 0, (65, 0, 0, 0, 0, 0), .inl 0, [], none)),
  (65, (.bipush 64, (67, 0, 0, 0, 0, 0), .inl 0, [], none)),
  (67, (.newarray .long, (69, 0, 0, 0, 0, 0), .inl 0, [], none)),
  (69, (.putfield 32, (72, 13, 17, 2, 0, 0), .inl 0, [], none)),
  (72, (.aload_n 0, (73, 0, 0, 0, 0, 0), .inl 0, [], none)),
  (73, (.bipush 11, (75, 0, 0, 0, 0, 0), .inl 0, [], none)),
  (75, (.newarray .long, (77, 0, 0, 0, 0, 0), .inl 0, [], none)),
  (77, (.putfield 36, (80, 13, 19, 2, 0, 0), .inl 0, [], none)),
  (80, (.aload_n 0, (81, 0, 0, 0, 0, 0), .inl 0, [], none)),
  (81, (.sipush 184, (84, 0, 0, 0, 0, 0), .inl 0, [], none)),
  (84, (.newarray .int, (86, 0, 0, 0, 0, 0), .inl 0, [], none)),
  (86, (.putfield 39, (89, 13, 20, 2, 0, 0), .inl 0, [], none)),
  (89, (.aload_n 0, (90, 0, 0, 0, 0, 0), .inl 0, [], none)),
  (90, (.sipush 4096, (93, 0, 0, 0, 0, 0), .inl 0, [], none)),
  (93, (.newarray .boolean, (95, 0, 0, 0, 0, 0), .inl 0, [], none)),
  (95, (.putfield 42, (98, 13, 22, 2, 0, 0), .inl 0, [], none)),
  (98, (.aload_n 0, (99, 0, 0, 0, 0, 0), .inl 0, [], none)),
  (99, (.iconst (-1), (100, 0, 0, 0, 0, 0), .inl 0, [], none)),
  (100, (.putfield 46, (103, 13, 23, 0, 0, 0), .inl 0, [], none)),
  (103, (.aload_n 0, (104, 0, 0, 0, 0, 0), .inl 0, [], none)),
  (104, (.bipush 80, (106, 0, 0, 0, 0, 0), .inl 0, [], none)),
  (106, (.newarray .int, (108, 0, 0, 0, 0, 0), .inl 0, [], none)),
  (108, (.putfield 50, (111, 13, 24, 2, 0, 0), .inl 0, [], none)),
  (111, (.aload_n 0, (112, 0, 0, 0, 0, 0), .inl 0, [], none)),
  (112, (.sipush 4096, (115, 0, 0, 0, 0, 0), .inl 0, [], none)),
  (115, (.newarray .int, (117, 0, 0, 0, 0, 0), .inl 0, [], none)),
  (117, (.putfield 53, (120, 13, 26, 2, 0, 0), .inl 0, [], none)),
  (120, (.aload_n 0, (121, 0, 0, 0, 0, 0), .inl 0, [], none)),
  (121, (.sipush 256, (124, 0, 0, 0, 0, 0), .inl 0, [], none)),
  (124, (.newarray .boolean, (126, 0, 0, 0, 0, 0), .inl 0, [], none)),
  (126, (.putfield 56, (129, 13, 27, 2, 0, 0), .inl 0, [], none)),
  (129, (.aload_n 0, (130, 0, 0, 0, 0, 0), .inl 0, [], none)),
  (130, (.bipush 41, (132, 0, 0, 0, 0, 0), .inl 0, [], none)),
  (132, (.newarray .int, (134, 0, 0, 0, 0, 0), .inl 0, [], none)),
  (134, (.putfield 59, (137, 13, 28, 2, 0, 0), .inl 0, [], none)),
  (137, (.aload_n 0, (138, 0, 0, 0, 0, 0), .inl 0, [], none)),
  (138, (.sipush 4096, (141, 0, 0, 0, 0, 0), .inl 0, [], none)),
  (141, (.newarray .int, (143, 0, 0, 0, 0, 0), .inl 0, [], none)),
  (143, (.putfield 62, (146, 13, 29, 2, 0, 0), .inl 0, [], none)),
  (146, (.aload_n 0, (147, 0, 0, 0, 0, 0), .inl 0, [], none)),
  (147, (.sipush 4096, (150, 0, 0, 0, 0, 0), .inl 0, [], none)),
  (150, (.newarray .int, (152, 0, 0, 0, 0, 0), .inl 0, [], none)),
  (152, (.putfield 65, (155, 13, 30, 2, 0, 0), .inl 0, [], none)),
  (155, (.aload_n 0, (156, 0, 0, 0, 0, 0), .inl 0, [], none)),
  (156, (.sipush 736, (159, 0, 0, 0, 0, 0), .inl 0, [], none)),
  (159, (.newarray .int, (161, 0, 0, 0, 0, 0), .inl 0, [], none)),
  (161, (.putfield 68, (164, 13, 37, 2, 0, 0), .inl 0, [], none)),
  (164, (.aload_n 0, (165, 0, 0, 0, 0, 0), .inl 0, [], none)),
  (165, (.iconst 4, (166, 0, 0, 0, 0, 0), .inl 0, [], none)),
  (166, (.newarray .int, (168, 0, 0, 0, 0, 0), .inl 0, [], none)),
  (168, (.putfield 71, (171, 13, 38, 2, 0, 0), .inl 0, [], none)),
  (171, (.aload_n 0, (172, 0, 0, 0, 0, 0), .inl 0, [], none)),
  (172, (.iconst 4, (173, 0, 0, 0, 0, 0), .inl 0, [], none)),
  (173, (.newarray .boolean, (175, 0, 0, 0, 0, 0), .inl 0, [], none)),
  (175, (.putfield 74, (178, 13, 39, 2, 0, 0), .inl 0, [], none)),
  (178, (.return_, (179, 0, 0, 0, 0, 0), .inl 0, [], none))]
def z_M_in : List (Nat × sk_E) := [
  (0, (.lload_n 0, (1, 0, 0, 0, 0, 0), .inl 0, [], none)),
  (1, (.lload_n 2, (2, 0, 0, 0, 0, 0), .inl 0, [], none)),
  (2, (.lcmp, (3, 0, 0, 0, 0, 0), .inl 0, [], none)),
  (3, (.ifCond .lt 14, (6, 17, 0, 0, 0, 0), .inl 0, [], none)),
  (6, (.lload_n 0, (7, 0, 0, 0, 0, 0), .inl 0, [], none)),
  (7, (.lload 4, (9, 0, 0, 0, 0, 0), .inl 0, [], none)),
  (9, (.lcmp, (10, 0, 0, 0, 0, 0), .inl 0, [], none)),
  (10, (.ifCond .gt 7, (13, 17, 0, 0, 0, 0), .inl 0, [], none)),
  (13, (.iconst 1, (14, 0, 0, 0, 0, 0), .inl 0, [], none)),
  (14, (.goto 4, (17, 18, 0, 0, 0, 0), .inl 0, [], none)),
  (17, (.iconst 0, (18, 0, 0, 0, 0, 0), .inl 0, [], none)),
  (18, (.ireturn, (19, 3, 0, 0, 0, 0), .inl 0, [], none))]
def z_M_isOf : List (Nat × sk_E) := [
  (0, (.iload_n 0, (1, 0, 0, 0, 0, 0), .inl 0, [], none)),
  (1, (.iload_n 1, (2, 0, 0, 0, 0, 0), .inl 0, [], none)),
  (2, (.ishr, (3, 0, 0, 0, 0, 0), .inl 0, [], none)),
  (3, (.iconst 1, (4, 0, 0, 0, 0, 0), .inl 0, [], none)),
  (4, (.iand, (5, 0, 0, 0, 0, 0), .inl 0, [], none)),
  (5, (.iconst 1, (6, 0, 0, 0, 0, 0), .inl 0, [], none)),
  (6, (.if_icmp .ne 7, (9, 13, 0, 0, 0, 0), .inl 0, [], none)),
  (9, (.iconst 1, (10, 0, 0, 0, 0, 0), .inl 0, [], none)),
  (10, (.goto 4, (13, 14, 0, 0, 0, 0), .inl 0, [], none)),
  (13, (.iconst 0, (14, 0, 0, 0, 0, 0), .inl 0, [], none)),
  (14, (.ireturn, (15, 3, 0, 0, 0, 0), .inl 0, [], none))]
def z_M_bits : List (Nat × sk_E) := [
  (0, (.iconst 0, (1, 0, 0, 0, 0, 0), .inl 0, [], none)),
  (1, (.istore_n 1, (2, 0, 0, 0, 0, 0), .inl 0, [], none)),
  (2, (.iload_n 0, (3, 0, 0, 0, 0, 0), .inl 0, [], none)),
  (3, (.istore_n 2, (4, 0, 0, 0, 0, 0), .inl 0, [], none)),
  (4, (.iload_n 2, (5, 0, 0, 0, 0, 0), .inl 0, [], some [false, true, true])),
  (5, (.ifCond .eq 15, (8, 20, 0, 0, 0, 0), .inl 0, [], none)),
  (8, (.iinc 1 1, (11, 0, 0, 0, 0, 0), .inl 0, [], none)),
  (11, (.iload_n 2, (12, 0, 0, 0, 0, 0), .inl 0, [], none)),
  (12, (.iload_n 2, (13, 0, 0, 0, 0, 0), .inl 0, [], none)),
  (13, (.iconst 1, (14, 0, 0, 0, 0, 0), .inl 0, [], none)),
  (14, (.isub, (15, 0, 0, 0, 0, 0), .inl 0, [], none)),
  (15, (.iand, (16, 0, 0, 0, 0, 0), .inl 0, [], none)),
  (16, (.istore_n 2, (17, 0, 0, 0, 0, 0), .inl 0, [], none)),
  (17, (.goto (-13), (20, 4, 0, 0, 0, 0), .inl 0, [], none)),
  (20, (.iload_n 1, (21, 0, 0, 0, 0, 0), .inl 0, [], none)),
  (21, (.ireturn, (22, 0, 0, 0, 0, 0), .inl 0, [], none))]
def z_M_four : List (Nat × sk_E) := [
  (0, (.bipush 24, (2, 0, 0, 0, 0, 0), .inl 0, [], none)),
  (2, (.istore_n 2, (3, 0, 0, 0, 0, 0), .inl 0, [], none)),
  (3, (.iload_n 2, (4, 0, 0, 0, 0, 0), .inl 0, [], some [true, true, true])),
  (4, (.ifCond .lt 32, (7, 36, 0, 0, 0, 0), .inl 0, [], none)),
  (7, (.aload_n 0, (8, 0, 0, 0, 0, 0), .inl 0, [], none)),
  (8, (.getfield 7, (11, 13, 0, 2, 0, 0), .inl 0, [], none)),
  (11, (.aload_n 0, (12, 0, 0, 0, 0, 0), .inl 0, [], none)),
  (12, (.getfield 77, (15, 13, 1, 0, 0, 0), .inl 0, [], none)),
  (15, (.iload_n 1, (16, 0, 0, 0, 0, 0), .inl 0, [], none)),
  (16, (.iload_n 2, (17, 0, 0, 0, 0, 0), .inl 0, [], none)),
  (17, (.ishr, (18, 0, 0, 0, 0, 0), .inl 0, [], none)),
  (18, (.i2b, (19, 0, 0, 0, 0, 0), .inl 0, [], none)),
  (19, (.bastore, (20, 0, 0, 0, 0, 0), .inl 0, [], none)),
  (20, (.aload_n 0, (21, 0, 0, 0, 0, 0), .inl 0, [], none)),
  (21, (.dup, (22, 0, 0, 0, 0, 0), .inl 0, [], none)),
  (22, (.getfield 77, (25, 13, 1, 0, 0, 0), .inl 0, [], none)),
  (25, (.iconst 1, (26, 0, 0, 0, 0, 0), .inl 0, [], none)),
  (26, (.iadd, (27, 0, 0, 0, 0, 0), .inl 0, [], none)),
  (27, (.putfield 77, (30, 13, 1, 0, 0, 0), .inl 0, [], none)),
  (30, (.iinc 2 (-8), (33, 0, 0, 0, 0, 0), .inl 0, [], none)),
  (33, (.goto (-30), (36, 3, 0, 0, 0, 0), .inl 0, [], none)),
  (36, (.return_, (37, 0, 0, 0, 0, 0), .inl 0, [], none))]
def z_M_feed : List (Nat × sk_E) := [
  (0, (.aload_n 0, (1, 0, 0, 0, 0, 0), .inl 0, [], none)),
  (1, (.getfield 77, (4, 13, 1, 0, 0, 0), .inl 0, [], none)),
  (4, (.bipush 20, (6, 0, 0, 0, 0, 0), .inl 0, [], none)),
  (6, (.iadd, (7, 0, 0, 0, 0, 0), .inl 0, [], none)),
  (7, (.sipush 400, (10, 0, 0, 0, 0, 0), .inl 0, [], none)),
  (10, (.if_icmp .le 5, (13, 15, 0, 0, 0, 0), .inl 0, [], none)),
  (13, (.iconst (-1), (14, 0, 0, 0, 0, 0), .inl 0, [], none)),
  (14, (.ireturn, (15, 0, 0, 0, 0, 0), .inl 0, [], none)),
  (15, (.aload_n 0, (16, 0, 0, 0, 0, 0), .inl 0, [], none)),
  (16, (.iload_n 1, (17, 0, 0, 0, 0, 0), .inl 0, [], none)),
  (17, (.invokevirtual 80, (20, 130, 2, 0, 3, 13), .inl 0, [], none)),
  (20, (.aload_n 0, (21, 0, 0, 0, 0, 0), .inl 0, [], none)),
  (21, (.iload_n 2, (22, 0, 0, 0, 0, 0), .inl 0, [], none)),
  (22, (.invokevirtual 80, (25, 130, 2, 0, 3, 13), .inl 0, [], none)),
  (25, (.aload_n 0, (26, 0, 0, 0, 0, 0), .inl 0, [], none)),
  (26, (.iload_n 3, (27, 0, 0, 0, 0, 0), .inl 0, [], none)),
  (27, (.invokevirtual 80, (30, 130, 2, 0, 3, 13), .inl 0, [], none)),
  (30, (.aload_n 0, (31, 0, 0, 0, 0, 0), .inl 0, [], none)),
  (31, (.iload 4, (33, 0, 0, 0, 0, 0), .inl 0, [], none)),
  (33, (.invokevirtual 80, (36, 130, 2, 0, 3, 13), .inl 0, [], none)),
  (36, (.aload_n 0, (37, 0, 0, 0, 0, 0), .inl 0, [], none)),
  (37, (.iload 5, (39, 0, 0, 0, 0, 0), .inl 0, [], none)),
  (39, (.invokevirtual 80, (42, 130, 2, 0, 3, 13), .inl 0, [], none)),
  (42, (.aload_n 0, (43, 0, 0, 0, 0, 0), .inl 0, [], none)),
  (43, (.getfield 77, (46, 13, 1, 0, 0, 0), .inl 0, [], none)),
  (46, (.ireturn, (47, 0, 0, 0, 0, 0), .inl 0, [], none))]
def z_M_end : List (Nat × sk_E) := [
  (0, (.iload_n 1, (1, 0, 0, 0, 0, 0), .inl 0, [], none)),
  (1, (.ifCond .lt 11, (4, 12, 0, 0, 0, 0), .inl 0, [], none)),
  (4, (.iload_n 1, (5, 0, 0, 0, 0, 0), .inl 0, [], none)),
  (5, (.aload_n 0, (6, 0, 0, 0, 0, 0), .inl 0, [], none)),
  (6, (.getfield 77, (9, 13, 1, 0, 0, 0), .inl 0, [], none)),
  (9, (.if_icmp .le 5, (12, 14, 0, 0, 0, 0), .inl 0, [], none)),
  (12, (.iconst (-1), (13, 0, 0, 0, 0, 0), .inl 0, [], none)),
  (13, (.ireturn, (14, 0, 0, 0, 0, 0), .inl 0, [], none)),
  (14, (.aload_n 0, (15, 0, 0, 0, 0, 0), .inl 0, [], none)),
  (15, (.iload_n 1, (16, 0, 0, 0, 0, 0), .inl 0, [], none)),
  (16, (.putfield 77, (19, 13, 1, 0, 0, 0), .inl 0, [], none)),
  (19, (.iload_n 1, (20, 0, 0, 0, 0, 0), .inl 0, [], none)),
  (20, (.ireturn, (21, 0, 0, 0, 0, 0), .inl 0, [], none))]
def z_M_fails : List (Nat × sk_E) := [
  (0, (.aload_n 0, (1, 0, 0, 0, 0, 0), .inl 0, [], none)),
  (1, (.getfield 84, (4, 13, 9, 0, 0, 0), .inl 0, [], none)),
  (4, (.ifCond .ne 15, (7, 19, 0, 0, 0, 0), .inl 0, [], none)),
  (7, (.aload_n 0, (8, 0, 0, 0, 0, 0), .inl 0, [], none)),
  (8, (.iconst 1, (9, 0, 0, 0, 0, 0), .inl 0, [], none)),
  (9, (.bipush 8, (11, 0, 0, 0, 0, 0), .inl 0, [], none)),
  (11, (.iload_n 2, (12, 0, 0, 0, 0, 0), .inl 0, [], none)),
  (12, (.imul, (13, 0, 0, 0, 0, 0), .inl 0, [], none)),
  (13, (.iadd, (14, 0, 0, 0, 0, 0), .inl 0, [], none)),
  (14, (.iload_n 1, (15, 0, 0, 0, 0, 0), .inl 0, [], none)),
  (15, (.iadd, (16, 0, 0, 0, 0, 0), .inl 0, [], none)),
  (16, (.putfield 84, (19, 13, 9, 0, 0, 0), .inl 0, [], none)),
  (19, (.iconst 0, (20, 0, 0, 0, 0, 0), .inl 0, [], none)),
  (20, (.ireturn, (21, 3, 0, 0, 0, 0), .inl 0, [], none))]
def z_M_see : List (Nat × sk_E) := [
  (0, (.aload_n 0, (1, 0, 0, 0, 0, 0), .inl 0, [], some [true])),
  (1, (.getfield 87, (4, 13, 8, 0, 0, 0), .inl 0, [], none)),
  (4, (.aload_n 0, (5, 0, 0, 0, 0, 0), .inl 0, [], none)),
  (5, (.getfield 77, (8, 13, 1, 0, 0, 0), .inl 0, [], none)),
  (8, (.if_icmp .ge 30, (11, 38, 0, 0, 0, 0), .inl 0, [], none)),
  (11, (.aload_n 0, (12, 0, 0, 0, 0, 0), .inl 0, [], none)),
  (12, (.getfield 7, (15, 13, 0, 2, 0, 0), .inl 0, [], none)),
  (15, (.aload_n 0, (16, 0, 0, 0, 0, 0), .inl 0, [], none)),
  (16, (.getfield 87, (19, 13, 8, 0, 0, 0), .inl 0, [], none)),
  (19, (.baload, (20, 0, 0, 0, 0, 0), .inl 0, [], none)),
  (20, (.bipush 32, (22, 0, 0, 0, 0, 0), .inl 0, [], none)),
  (22, (.if_icmp .ne 16, (25, 38, 0, 0, 0, 0), .inl 0, [], none)),
  (25, (.aload_n 0, (26, 0, 0, 0, 0, 0), .inl 0, [], none)),
  (26, (.dup, (27, 0, 0, 0, 0, 0), .inl 0, [], none)),
  (27, (.getfield 87, (30, 13, 8, 0, 0, 0), .inl 0, [], none)),
  (30, (.iconst 1, (31, 0, 0, 0, 0, 0), .inl 0, [], none)),
  (31, (.iadd, (32, 0, 0, 0, 0, 0), .inl 0, [], none)),
  (32, (.putfield 87, (35, 13, 8, 0, 0, 0), .inl 0, [], none)),
  (35, (.goto (-35), (38, 0, 0, 0, 0, 0), .inl 0, [], none)),
  (38, (.aload_n 0, (39, 0, 0, 0, 0, 0), .inl 0, [], some [true])),
  (39, (.getfield 87, (42, 13, 8, 0, 0, 0), .inl 0, [], none)),
  (42, (.aload_n 0, (43, 0, 0, 0, 0, 0), .inl 0, [], none)),
  (43, (.getfield 77, (46, 13, 1, 0, 0, 0), .inl 0, [], none)),
  (46, (.if_icmp .ge 19, (49, 65, 0, 0, 0, 0), .inl 0, [], none)),
  (49, (.aload_n 0, (50, 0, 0, 0, 0, 0), .inl 0, [], none)),
  (50, (.getfield 7, (53, 13, 0, 2, 0, 0), .inl 0, [], none)),
  (53, (.aload_n 0, (54, 0, 0, 0, 0, 0), .inl 0, [], none)),
  (54, (.getfield 87, (57, 13, 8, 0, 0, 0), .inl 0, [], none)),
  (57, (.baload, (58, 0, 0, 0, 0, 0), .inl 0, [], none)),
  (58, (.sipush 255, (61, 0, 0, 0, 0, 0), .inl 0, [], none)),
  (61, (.iand, (62, 0, 0, 0, 0, 0), .inl 0, [], none)),
  (62, (.goto 4, (65, 66, 0, 0, 0, 0), .inl 0, [], none)),
  (65, (.iconst (-1), (66, 0, 0, 0, 0, 0), .inl 0, [], none)),
  (66, (.ireturn, (67, 0, 0, 0, 0, 0), .inl 0, [], none))]
def z_M_isDigit : List (Nat × sk_E) := [
  (0, (.iload_n 1, (1, 0, 0, 0, 0, 0), .inl 0, [], none)),
  (1, (.aload_n 0, (2, 0, 0, 0, 0, 0), .inl 0, [], none)),
  (2, (.getfield 77, (5, 13, 1, 0, 0, 0), .inl 0, [], none)),
  (5, (.if_icmp .ge 29, (8, 34, 0, 0, 0, 0), .inl 0, [], none)),
  (8, (.aload_n 0, (9, 0, 0, 0, 0, 0), .inl 0, [], none)),
  (9, (.getfield 7, (12, 13, 0, 2, 0, 0), .inl 0, [], none)),
  (12, (.iload_n 1, (13, 0, 0, 0, 0, 0), .inl 0, [], none)),
  (13, (.baload, (14, 0, 0, 0, 0, 0), .inl 0, [], none)),
  (14, (.bipush 48, (16, 0, 0, 0, 0, 0), .inl 0, [], none)),
  (16, (.if_icmp .lt 18, (19, 34, 0, 0, 0, 0), .inl 0, [], none)),
  (19, (.aload_n 0, (20, 0, 0, 0, 0, 0), .inl 0, [], none)),
  (20, (.getfield 7, (23, 13, 0, 2, 0, 0), .inl 0, [], none)),
  (23, (.iload_n 1, (24, 0, 0, 0, 0, 0), .inl 0, [], none)),
  (24, (.baload, (25, 0, 0, 0, 0, 0), .inl 0, [], none)),
  (25, (.bipush 57, (27, 0, 0, 0, 0, 0), .inl 0, [], none)),
  (27, (.if_icmp .gt 7, (30, 34, 0, 0, 0, 0), .inl 0, [], none)),
  (30, (.iconst 1, (31, 0, 0, 0, 0, 0), .inl 0, [], none)),
  (31, (.goto 4, (34, 35, 0, 0, 0, 0), .inl 0, [], none)),
  (34, (.iconst 0, (35, 0, 0, 0, 0, 0), .inl 0, [], none)),
  (35, (.ireturn, (36, 3, 0, 0, 0, 0), .inl 0, [], none))]
def z_M_isLetter : List (Nat × sk_E) := [
  (0, (.iload_n 1, (1, 0, 0, 0, 0, 0), .inl 0, [], none)),
  (1, (.aload_n 0, (2, 0, 0, 0, 0, 0), .inl 0, [], none)),
  (2, (.getfield 77, (5, 13, 1, 0, 0, 0), .inl 0, [], none)),
  (5, (.if_icmp .ge 29, (8, 34, 0, 0, 0, 0), .inl 0, [], none)),
  (8, (.aload_n 0, (9, 0, 0, 0, 0, 0), .inl 0, [], none)),
  (9, (.getfield 7, (12, 13, 0, 2, 0, 0), .inl 0, [], none)),
  (12, (.iload_n 1, (13, 0, 0, 0, 0, 0), .inl 0, [], none)),
  (13, (.baload, (14, 0, 0, 0, 0, 0), .inl 0, [], none)),
  (14, (.bipush 97, (16, 0, 0, 0, 0, 0), .inl 0, [], none)),
  (16, (.if_icmp .lt 18, (19, 34, 0, 0, 0, 0), .inl 0, [], none)),
  (19, (.aload_n 0, (20, 0, 0, 0, 0, 0), .inl 0, [], none)),
  (20, (.getfield 7, (23, 13, 0, 2, 0, 0), .inl 0, [], none)),
  (23, (.iload_n 1, (24, 0, 0, 0, 0, 0), .inl 0, [], none)),
  (24, (.baload, (25, 0, 0, 0, 0, 0), .inl 0, [], none)),
  (25, (.bipush 122, (27, 0, 0, 0, 0, 0), .inl 0, [], none)),
  (27, (.if_icmp .gt 7, (30, 34, 0, 0, 0, 0), .inl 0, [], none)),
  (30, (.iconst 1, (31, 0, 0, 0, 0, 0), .inl 0, [], none)),
  (31, (.goto 4, (34, 35, 0, 0, 0, 0), .inl 0, [], none)),
  (34, (.iconst 0, (35, 0, 0, 0, 0, 0), .inl 0, [], none)),
  (35, (.ireturn, (36, 3, 0, 0, 0, 0), .inl 0, [], none))]
def z_M_isWord : List (Nat × sk_E) := [
  (0, (.aload_n 0, (1, 0, 0, 0, 0, 0), .inl 0, [], none)),
  (1, (.invokevirtual 90, (4, 134, 1, 1, 1, 13), .inl 0, [], none)),
  (4, (.pop, (5, 0, 0, 0, 0, 0), .inl 0, [], none)),
  (5, (.lconst 0, (6, 0, 0, 0, 0, 0), .inl 0, [], none)),
  (6, (.lstore_n 3, (7, 0, 0, 0, 0, 0), .inl 0, [], none)),
  (7, (.iconst 0, (8, 0, 0, 0, 0, 0), .inl 0, [], none)),
  (8, (.istore 5, (10, 0, 0, 0, 0, 0), .inl 0, [], none)),
  (10, (.aload_n 0, (11, 0, 0, 0, 0, 0), .inl 0, [], some [true, true, false, true, false, true])),
  (11, (.aload_n 0, (12, 0, 0, 0, 0, 0), .inl 0, [], none)),
  (12, (.getfield 87, (15, 13, 8, 0, 0, 0), .inl 0, [], none)),
  (15, (.iload 5, (17, 0, 0, 0, 0, 0), .inl 0, [], none)),
  (17, (.iadd, (18, 0, 0, 0, 0, 0), .inl 0, [], none)),
  (18, (.invokevirtual 94, (21, 136, 2, 1, 2, 13), .inl 0, [], none)),
  (21, (.ifCond .eq 35, (24, 56, 0, 0, 0, 0), .inl 0, [], none)),
  (24, (.iload 5, (26, 0, 0, 0, 0, 0), .inl 0, [], none)),
  (26, (.bipush 8, (28, 0, 0, 0, 0, 0), .inl 0, [], none)),
  (28, (.if_icmp .ge 22, (31, 50, 0, 0, 0, 0), .inl 0, [], none)),
  (31, (.lload_n 3, (32, 0, 0, 0, 0, 0), .inl 0, [], none)),
  (32, (.bipush 8, (34, 0, 0, 0, 0, 0), .inl 0, [], none)),
  (34, (.lshl, (35, 0, 0, 0, 0, 0), .inl 0, [], none)),
  (35, (.aload_n 0, (36, 0, 0, 0, 0, 0), .inl 0, [], none)),
  (36, (.getfield 7, (39, 13, 0, 2, 0, 0), .inl 0, [], none)),
  (39, (.aload_n 0, (40, 0, 0, 0, 0, 0), .inl 0, [], none)),
  (40, (.getfield 87, (43, 13, 8, 0, 0, 0), .inl 0, [], none)),
  (43, (.iload 5, (45, 0, 0, 0, 0, 0), .inl 0, [], none)),
  (45, (.iadd, (46, 0, 0, 0, 0, 0), .inl 0, [], none)),
  (46, (.baload, (47, 0, 0, 0, 0, 0), .inl 0, [], none)),
  (47, (.i2l, (48, 0, 0, 0, 0, 0), .inl 0, [], none)),
  (48, (.lor, (49, 0, 0, 0, 0, 0), .inl 0, [], none)),
  (49, (.lstore_n 3, (50, 0, 0, 0, 0, 0), .inl 0, [], none)),
  (50, (.iinc 5 1, (53, 0, 0, 0, 0, 0), .inl 0, [], none)),
  (53, (.goto (-43), (56, 10, 0, 0, 0, 0), .inl 0, [], none)),
  (56, (.iload 5, (58, 0, 0, 0, 0, 0), .inl 0, [], none)),
  (58, (.ifCond .le 20, (61, 78, 0, 0, 0, 0), .inl 0, [], none)),
  (61, (.iload 5, (63, 0, 0, 0, 0, 0), .inl 0, [], none)),
  (63, (.bipush 9, (65, 0, 0, 0, 0, 0), .inl 0, [], none)),
  (65, (.if_icmp .ge 13, (68, 78, 0, 0, 0, 0), .inl 0, [], none)),
  (68, (.lload_n 3, (69, 0, 0, 0, 0, 0), .inl 0, [], none)),
  (69, (.lload_n 1, (70, 0, 0, 0, 0, 0), .inl 0, [], none)),
  (70, (.lcmp, (71, 0, 0, 0, 0, 0), .inl 0, [], none)),
  (71, (.ifCond .ne 7, (74, 78, 0, 0, 0, 0), .inl 0, [], none)),
  (74, (.iconst 1, (75, 0, 0, 0, 0, 0), .inl 0, [], none)),
  (75, (.goto 4, (78, 79, 0, 0, 0, 0), .inl 0, [], none)),
  (78, (.iconst 0, (79, 0, 0, 0, 0, 0), .inl 0, [], none)),
  (79, (.ireturn, (80, 3, 0, 0, 0, 0), .inl 0, [], none))]
def z_M_passWord : List (Nat × sk_E) := [
  (0, (.aload_n 0, (1, 0, 0, 0, 0, 0), .inl 0, [], some [true])),
  (1, (.aload_n 0, (2, 0, 0, 0, 0, 0), .inl 0, [], none)),
  (2, (.getfield 87, (5, 13, 8, 0, 0, 0), .inl 0, [], none)),
  (5, (.invokevirtual 94, (8, 136, 2, 1, 2, 13), .inl 0, [], none)),
  (8, (.ifCond .eq 16, (11, 24, 0, 0, 0, 0), .inl 0, [], none)),
  (11, (.aload_n 0, (12, 0, 0, 0, 0, 0), .inl 0, [], none)),
  (12, (.dup, (13, 0, 0, 0, 0, 0), .inl 0, [], none)),
  (13, (.getfield 87, (16, 13, 8, 0, 0, 0), .inl 0, [], none)),
  (16, (.iconst 1, (17, 0, 0, 0, 0, 0), .inl 0, [], none)),
  (17, (.iadd, (18, 0, 0, 0, 0, 0), .inl 0, [], none)),
  (18, (.putfield 87, (21, 13, 8, 0, 0, 0), .inl 0, [], none)),
  (21, (.goto (-21), (24, 0, 0, 0, 0, 0), .inl 0, [], none)),
  (24, (.return_, (25, 0, 0, 0, 0, 0), .inl 0, [], none))]
def z_M_takesWord : List (Nat × sk_E) := [
  (0, (.aload_n 0, (1, 0, 0, 0, 0, 0), .inl 0, [], none)),
  (1, (.lload_n 1, (2, 0, 0, 0, 0, 0), .inl 0, [], none)),
  (2, (.invokevirtual 98, (5, 137, 2, 1, 6, 13), .inl 0, [], none)),
  (5, (.ifCond .ne 5, (8, 10, 0, 0, 0, 0), .inl 0, [], none)),
  (8, (.iconst 0, (9, 0, 0, 0, 0, 0), .inl 0, [], none)),
  (9, (.ireturn, (10, 3, 0, 0, 0, 0), .inl 0, [], none)),
  (10, (.aload_n 0, (11, 0, 0, 0, 0, 0), .inl 0, [], none)),
  (11, (.invokevirtual 102, (14, 138, 1, 0, 1, 13), .inl 0, [], none)),
  (14, (.iconst 1, (15, 0, 0, 0, 0, 0), .inl 0, [], none)),
  (15, (.ireturn, (16, 3, 0, 0, 0, 0), .inl 0, [], none))]
def z_M_numberHere : List (Nat × sk_E) := [
  (0, (.aload_n 0, (1, 0, 0, 0, 0, 0), .inl 0, [], none)),
  (1, (.invokevirtual 90, (4, 134, 1, 1, 1, 13), .inl 0, [], none)),
  (4, (.pop, (5, 0, 0, 0, 0, 0), .inl 0, [], none)),
  (5, (.aload_n 0, (6, 0, 0, 0, 0, 0), .inl 0, [], none)),
  (6, (.aload_n 0, (7, 0, 0, 0, 0, 0), .inl 0, [], none)),
  (7, (.getfield 87, (10, 13, 8, 0, 0, 0), .inl 0, [], none)),
  (10, (.invokevirtual 105, (13, 135, 2, 1, 2, 13), .inl 0, [], none)),
  (13, (.ifCond .ne 13, (16, 26, 0, 0, 0, 0), .inl 0, [], none)),
  (16, (.aload_n 0, (17, 0, 0, 0, 0, 0), .inl 0, [], none)),
  (17, (.iconst 0, (18, 0, 0, 0, 0, 0), .inl 0, [], none)),
  (18, (.aload_n 0, (19, 0, 0, 0, 0, 0), .inl 0, [], none)),
  (19, (.getfield 87, (22, 13, 8, 0, 0, 0), .inl 0, [], none)),
  (22, (.invokevirtual 108, (25, 133, 3, 1, 3, 13), .inl 0, [], none)),
  (25, (.ireturn, (26, 3, 0, 0, 0, 0), .inl 0, [], none)),
  (26, (.aload_n 0, (27, 0, 0, 0, 0, 0), .inl 0, [], none)),
  (27, (.getfield 87, (30, 13, 8, 0, 0, 0), .inl 0, [], none)),
  (30, (.istore_n 3, (31, 0, 0, 0, 0, 0), .inl 0, [], none)),
  (31, (.iconst 0, (32, 0, 0, 0, 0, 0), .inl 0, [], none)),
  (32, (.istore 4, (34, 0, 0, 0, 0, 0), .inl 0, [], none)),
  (34, (.aload_n 0, (35, 0, 0, 0, 0, 0), .inl 0, [], some [true, true, true, true, true])),
  (35, (.aload_n 0, (36, 0, 0, 0, 0, 0), .inl 0, [], none)),
  (36, (.getfield 87, (39, 13, 8, 0, 0, 0), .inl 0, [], none)),
  (39, (.invokevirtual 105, (42, 135, 2, 1, 2, 13), .inl 0, [], none)),
  (42, (.ifCond .eq 46, (45, 88, 0, 0, 0, 0), .inl 0, [], none)),
  (45, (.aload_n 0, (46, 0, 0, 0, 0, 0), .inl 0, [], none)),
  (46, (.getfield 87, (49, 13, 8, 0, 0, 0), .inl 0, [], none)),
  (49, (.iload_n 3, (50, 0, 0, 0, 0, 0), .inl 0, [], none)),
  (50, (.isub, (51, 0, 0, 0, 0, 0), .inl 0, [], none)),
  (51, (.iconst 5, (52, 0, 0, 0, 0, 0), .inl 0, [], none)),
  (52, (.if_icmp .ge 23, (55, 75, 0, 0, 0, 0), .inl 0, [], none)),
  (55, (.bipush 10, (57, 0, 0, 0, 0, 0), .inl 0, [], none)),
  (57, (.iload 4, (59, 0, 0, 0, 0, 0), .inl 0, [], none)),
  (59, (.imul, (60, 0, 0, 0, 0, 0), .inl 0, [], none)),
  (60, (.aload_n 0, (61, 0, 0, 0, 0, 0), .inl 0, [], none)),
  (61, (.getfield 7, (64, 13, 0, 2, 0, 0), .inl 0, [], none)),
  (64, (.aload_n 0, (65, 0, 0, 0, 0, 0), .inl 0, [], none)),
  (65, (.getfield 87, (68, 13, 8, 0, 0, 0), .inl 0, [], none)),
  (68, (.baload, (69, 0, 0, 0, 0, 0), .inl 0, [], none)),
  (69, (.iadd, (70, 0, 0, 0, 0, 0), .inl 0, [], none)),
  (70, (.bipush 48, (72, 0, 0, 0, 0, 0), .inl 0, [], none)),
  (72, (.isub, (73, 0, 0, 0, 0, 0), .inl 0, [], none)),
  (73, (.istore 4, (75, 0, 0, 0, 0, 0), .inl 0, [], none)),
  (75, (.aload_n 0, (76, 0, 0, 0, 0, 0), .inl 0, [], none)),
  (76, (.dup, (77, 0, 0, 0, 0, 0), .inl 0, [], none)),
  (77, (.getfield 87, (80, 13, 8, 0, 0, 0), .inl 0, [], none)),
  (80, (.iconst 1, (81, 0, 0, 0, 0, 0), .inl 0, [], none)),
  (81, (.iadd, (82, 0, 0, 0, 0, 0), .inl 0, [], none)),
  (82, (.putfield 87, (85, 13, 8, 0, 0, 0), .inl 0, [], none)),
  (85, (.goto (-51), (88, 34, 0, 0, 0, 0), .inl 0, [], none)),
  (88, (.aload_n 0, (89, 0, 0, 0, 0, 0), .inl 0, [], none)),
  (89, (.iload 4, (91, 0, 0, 0, 0, 0), .inl 0, [], none)),
  (91, (.putfield 112, (94, 13, 10, 0, 0, 0), .inl 0, [], none)),
  (94, (.aload_n 0, (95, 0, 0, 0, 0, 0), .inl 0, [], none)),
  (95, (.getfield 87, (98, 13, 8, 0, 0, 0), .inl 0, [], none)),
  (98, (.iload_n 3, (99, 0, 0, 0, 0, 0), .inl 0, [], none)),
  (99, (.isub, (100, 0, 0, 0, 0, 0), .inl 0, [], none)),
  (100, (.iconst 5, (101, 0, 0, 0, 0, 0), .inl 0, [], none)),
  (101, (.if_icmp .gt 16, (104, 117, 0, 0, 0, 0), .inl 0, [], none)),
  (104, (.iload 4, (106, 0, 0, 0, 0, 0), .inl 0, [], none)),
  (106, (.i2l, (107, 0, 0, 0, 0, 0), .inl 0, [], none)),
  (107, (.iload_n 1, (108, 0, 0, 0, 0, 0), .inl 0, [], none)),
  (108, (.i2l, (109, 0, 0, 0, 0, 0), .inl 0, [], none)),
  (109, (.iload_n 2, (110, 0, 0, 0, 0, 0), .inl 0, [], none)),
  (110, (.i2l, (111, 0, 0, 0, 0, 0), .inl 0, [], none)),
  (111, (.invokestatic 115, (114, 127, 3, 1, 6, 0), .inl 0, [], none)),
  (114, (.ifCond .ne 12, (117, 126, 0, 0, 0, 0), .inl 0, [], none)),
  (117, (.aload_n 0, (118, 0, 0, 0, 0, 0), .inl 0, [], none)),
  (118, (.iconst 1, (119, 0, 0, 0, 0, 0), .inl 0, [], none)),
  (119, (.iload_n 3, (120, 0, 0, 0, 0, 0), .inl 0, [], none)),
  (120, (.invokevirtual 108, (123, 133, 3, 1, 3, 13), .inl 0, [], none)),
  (123, (.ifCond .eq 7, (126, 130, 0, 0, 0, 0), .inl 0, [], none)),
  (126, (.iconst 1, (127, 0, 0, 0, 0, 0), .inl 0, [], none)),
  (127, (.goto 4, (130, 131, 0, 0, 0, 0), .inl 0, [], none)),
  (130, (.iconst 0, (131, 0, 0, 0, 0, 0), .inl 0, [], none)),
  (131, (.ireturn, (132, 3, 0, 0, 0, 0), .inl 0, [], none))]
def z_M_wordHere : List (Nat × sk_E) := [
  (0, (.aload_n 0, (1, 0, 0, 0, 0, 0), .inl 0, [], none)),
  (1, (.ldc2_w 119, (4, 0, 0, 0, 0, 0), .inr (.inl (482854658917)), [], none)),
  (4, (.invokevirtual 98, (7, 137, 2, 1, 6, 13), .inl 0, [], none)),
  (7, (.ifCond .eq 5, (10, 12, 0, 0, 0, 0), .inl 0, [], none)),
  (10, (.iconst 0, (11, 0, 0, 0, 0, 0), .inl 0, [], none)),
  (11, (.ireturn, (12, 0, 0, 0, 0, 0), .inl 0, [], none)),
  (12, (.aload_n 0, (13, 0, 0, 0, 0, 0), .inl 0, [], none)),
  (13, (.ldc2_w 121, (16, 0, 0, 0, 0, 0), .inr (.inl (1835101817)), [], none)),
  (16, (.invokevirtual 98, (19, 137, 2, 1, 6, 13), .inl 0, [], none)),
  (19, (.ifCond .eq 5, (22, 24, 0, 0, 0, 0), .inl 0, [], none)),
  (22, (.iconst 1, (23, 0, 0, 0, 0, 0), .inl 0, [], none)),
  (23, (.ireturn, (24, 0, 0, 0, 0, 0), .inl 0, [], none)),
  (24, (.aload_n 0, (25, 0, 0, 0, 0, 0), .inl 0, [], none)),
  (25, (.ldc2_w 123, (28, 0, 0, 0, 0, 0), .inr (.inl (7499639)), [], none)),
  (28, (.invokevirtual 98, (31, 137, 2, 1, 6, 13), .inl 0, [], none)),
  (31, (.ifCond .eq 5, (34, 36, 0, 0, 0, 0), .inl 0, [], none)),
  (34, (.iconst 2, (35, 0, 0, 0, 0, 0), .inl 0, [], none)),
  (35, (.ireturn, (36, 0, 0, 0, 0, 0), .inl 0, [], none)),
  (36, (.aload_n 0, (37, 0, 0, 0, 0, 0), .inl 0, [], none)),
  (37, (.ldc2_w 125, (40, 0, 0, 0, 0, 0), .inr (.inl (8319381538419076711)), [], none)),
  (40, (.invokevirtual 98, (43, 137, 2, 1, 6, 13), .inl 0, [], none)),
  (43, (.ifCond .eq 5, (46, 48, 0, 0, 0, 0), .inl 0, [], none)),
  (46, (.iconst 3, (47, 0, 0, 0, 0, 0), .inl 0, [], none)),
  (47, (.ireturn, (48, 0, 0, 0, 0, 0), .inl 0, [], none)),
  (48, (.aload_n 0, (49, 0, 0, 0, 0, 0), .inl 0, [], none)),
  (49, (.ldc2_w 127, (52, 0, 0, 0, 0, 0), .inr (.inl (1818584692)), [], none)),
  (52, (.invokevirtual 98, (55, 137, 2, 1, 6, 13), .inl 0, [], none)),
  (55, (.ifCond .eq 5, (58, 60, 0, 0, 0, 0), .inl 0, [], none)),
  (58, (.iconst 4, (59, 0, 0, 0, 0, 0), .inl 0, [], none)),
  (59, (.ireturn, (60, 0, 0, 0, 0, 0), .inl 0, [], none)),
  (60, (.aload_n 0, (61, 0, 0, 0, 0, 0), .inl 0, [], none)),
  (61, (.ldc2_w 129, (64, 0, 0, 0, 0, 0), .inr (.inl (1920298611)), [], none)),
  (64, (.invokevirtual 98, (67, 137, 2, 1, 6, 13), .inl 0, [], none)),
  (67, (.ifCond .eq 5, (70, 72, 0, 0, 0, 0), .inl 0, [], none)),
  (70, (.iconst 5, (71, 0, 0, 0, 0, 0), .inl 0, [], none)),
  (71, (.ireturn, (72, 0, 0, 0, 0, 0), .inl 0, [], none)),
  (72, (.aload_n 0, (73, 0, 0, 0, 0, 0), .inl 0, [], none)),
  (73, (.ldc2_w 131, (76, 0, 0, 0, 0, 0), .inr (.inl (30521817456538484)), [], none)),
  (76, (.invokevirtual 98, (79, 137, 2, 1, 6, 13), .inl 0, [], none)),
  (79, (.ifCond .eq 6, (82, 85, 0, 0, 0, 0), .inl 0, [], none)),
  (82, (.bipush 6, (84, 0, 0, 0, 0, 0), .inl 0, [], none)),
  (84, (.ireturn, (85, 0, 0, 0, 0, 0), .inl 0, [], none)),
  (85, (.aload_n 0, (86, 0, 0, 0, 0, 0), .inl 0, [], none)),
  (86, (.ldc2_w 133, (89, 0, 0, 0, 0, 0), .inr (.inl (418431069797)), [], none)),
  (89, (.invokevirtual 98, (92, 137, 2, 1, 6, 13), .inl 0, [], none)),
  (92, (.ifCond .eq 6, (95, 98, 0, 0, 0, 0), .inl 0, [], none)),
  (95, (.bipush 7, (97, 0, 0, 0, 0, 0), .inl 0, [], none)),
  (97, (.ireturn, (98, 0, 0, 0, 0, 0), .inl 0, [], none)),
  (98, (.aload_n 0, (99, 0, 0, 0, 0, 0), .inl 0, [], none)),
  (99, (.ldc2_w 135, (102, 0, 0, 0, 0, 0), .inr (.inl (7827310)), [], none)),
  (102, (.invokevirtual 98, (105, 137, 2, 1, 6, 13), .inl 0, [], none)),
  (105, (.ifCond .eq 6, (108, 111, 0, 0, 0, 0), .inl 0, [], none)),
  (108, (.bipush 8, (110, 0, 0, 0, 0, 0), .inl 0, [], none)),
  (110, (.ireturn, (111, 0, 0, 0, 0, 0), .inl 0, [], none)),
  (111, (.aload_n 0, (112, 0, 0, 0, 0, 0), .inl 0, [], none)),
  (112, (.ldc2_w 137, (115, 0, 0, 0, 0, 0), .inr (.inl (1953854062)), [], none)),
  (115, (.invokevirtual 98, (118, 137, 2, 1, 6, 13), .inl 0, [], none)),
  (118, (.ifCond .eq 8, (121, 126, 0, 0, 0, 0), .inl 0, [], none)),
  (121, (.bipush 9, (123, 0, 0, 0, 0, 0), .inl 0, [], none)),
  (123, (.goto 19, (126, 142, 0, 0, 0, 0), .inl 0, [], none)),
  (126, (.aload_n 0, (127, 0, 0, 0, 0, 0), .inl 0, [], none)),
  (127, (.ldc2_w 139, (130, 0, 0, 0, 0, 0), .inr (.inl (32497657166128499)), [], none)),
  (130, (.invokevirtual 98, (133, 137, 2, 1, 6, 13), .inl 0, [], none)),
  (133, (.ifCond .eq 8, (136, 141, 0, 0, 0, 0), .inl 0, [], none)),
  (136, (.bipush 10, (138, 0, 0, 0, 0, 0), .inl 0, [], none)),
  (138, (.goto 4, (141, 142, 0, 0, 0, 0), .inl 0, [], none)),
  (141, (.iconst (-1), (142, 0, 0, 0, 0, 0), .inl 0, [], none)),
  (142, (.ireturn, (143, 0, 0, 0, 0, 0), .inl 0, [], none))]
def z_M_puts : List (Nat × sk_E) := [
  (0, (.aload_n 0, (1, 0, 0, 0, 0, 0), .inl 0, [], none)),
  (1, (.getfield 13, (4, 13, 3, 2, 0, 0), .inl 0, [], none)),
  (4, (.sipush 400, (7, 0, 0, 0, 0, 0), .inl 0, [], none)),
  (7, (.aload_n 0, (8, 0, 0, 0, 0, 0), .inl 0, [], none)),
  (8, (.getfield 141, (11, 13, 11, 0, 0, 0), .inl 0, [], none)),
  (11, (.imul, (12, 0, 0, 0, 0, 0), .inl 0, [], none)),
  (12, (.aload_n 0, (13, 0, 0, 0, 0, 0), .inl 0, [], none)),
  (13, (.getfield 17, (16, 13, 4, 2, 0, 0), .inl 0, [], none)),
  (16, (.aload_n 0, (17, 0, 0, 0, 0, 0), .inl 0, [], none)),
  (17, (.getfield 141, (20, 13, 11, 0, 0, 0), .inl 0, [], none)),
  (20, (.iaload, (21, 0, 0, 0, 0, 0), .inl 0, [], none)),
  (21, (.iadd, (22, 0, 0, 0, 0, 0), .inl 0, [], none)),
  (22, (.iload_n 1, (23, 0, 0, 0, 0, 0), .inl 0, [], none)),
  (23, (.bipush 16, (25, 0, 0, 0, 0, 0), .inl 0, [], none)),
  (25, (.iload_n 2, (26, 0, 0, 0, 0, 0), .inl 0, [], none)),
  (26, (.imul, (27, 0, 0, 0, 0, 0), .inl 0, [], none)),
  (27, (.iadd, (28, 0, 0, 0, 0, 0), .inl 0, [], none)),
  (28, (.iastore, (29, 0, 0, 0, 0, 0), .inl 0, [], none)),
  (29, (.aload_n 0, (30, 0, 0, 0, 0, 0), .inl 0, [], none)),
  (30, (.getfield 17, (33, 13, 4, 2, 0, 0), .inl 0, [], none)),
  (33, (.aload_n 0, (34, 0, 0, 0, 0, 0), .inl 0, [], none)),
  (34, (.getfield 141, (37, 13, 11, 0, 0, 0), .inl 0, [], none)),
  (37, (.dup2, (38, 0, 0, 0, 0, 0), .inl 0, [], none)),
  (38, (.iaload, (39, 0, 0, 0, 0, 0), .inl 0, [], none)),
  (39, (.iconst 1, (40, 0, 0, 0, 0, 0), .inl 0, [], none)),
  (40, (.iadd, (41, 0, 0, 0, 0, 0), .inl 0, [], none)),
  (41, (.iastore, (42, 0, 0, 0, 0, 0), .inl 0, [], none)),
  (42, (.return_, (43, 0, 0, 0, 0, 0), .inl 0, [], none))]
def z_M_makes : List (Nat × sk_E) := [
  (0, (.aload_n 0, (1, 0, 0, 0, 0, 0), .inl 0, [], none)),
  (1, (.getfield 144, (4, 13, 12, 0, 0, 0), .inl 0, [], none)),
  (4, (.bipush 60, (6, 0, 0, 0, 0, 0), .inl 0, [], none)),
  (6, (.if_icmp .ne 10, (9, 16, 0, 0, 0, 0), .inl 0, [], none)),
  (9, (.aload_n 0, (10, 0, 0, 0, 0, 0), .inl 0, [], none)),
  (10, (.iconst 3, (11, 0, 0, 0, 0, 0), .inl 0, [], none)),
  (11, (.iload_n 1, (12, 0, 0, 0, 0, 0), .inl 0, [], none)),
  (12, (.invokevirtual 108, (15, 133, 3, 1, 3, 13), .inl 0, [], none)),
  (15, (.ireturn, (16, 3, 0, 0, 0, 0), .inl 0, [], none)),
  (16, (.aload_n 0, (17, 0, 0, 0, 0, 0), .inl 0, [], none)),
  (17, (.dup, (18, 0, 0, 0, 0, 0), .inl 0, [], none)),
  (18, (.getfield 144, (21, 13, 12, 0, 0, 0), .inl 0, [], none)),
  (21, (.iconst 1, (22, 0, 0, 0, 0, 0), .inl 0, [], none)),
  (22, (.iadd, (23, 0, 0, 0, 0, 0), .inl 0, [], none)),
  (23, (.putfield 144, (26, 13, 12, 0, 0, 0), .inl 0, [], none)),
  (26, (.iconst 1, (27, 0, 0, 0, 0, 0), .inl 0, [], none)),
  (27, (.ireturn, (28, 3, 0, 0, 0, 0), .inl 0, [], none))]
def z_M_opens : List (Nat × sk_E) := [
  (0, (.aload_n 0, (1, 0, 0, 0, 0, 0), .inl 0, [], none)),
  (1, (.getfield 147, (4, 13, 13, 0, 0, 0), .inl 0, [], none)),
  (4, (.bipush 10, (6, 0, 0, 0, 0, 0), .inl 0, [], none)),
  (6, (.if_icmp .ne 13, (9, 19, 0, 0, 0, 0), .inl 0, [], none)),
  (9, (.aload_n 0, (10, 0, 0, 0, 0, 0), .inl 0, [], none)),
  (10, (.iconst 2, (11, 0, 0, 0, 0, 0), .inl 0, [], none)),
  (11, (.aload_n 0, (12, 0, 0, 0, 0, 0), .inl 0, [], none)),
  (12, (.getfield 87, (15, 13, 8, 0, 0, 0), .inl 0, [], none)),
  (15, (.invokevirtual 108, (18, 133, 3, 1, 3, 13), .inl 0, [], none)),
  (18, (.ireturn, (19, 3, 0, 0, 0, 0), .inl 0, [], none)),
  (19, (.aload_n 0, (20, 0, 0, 0, 0, 0), .inl 0, [], none)),
  (20, (.dup, (21, 0, 0, 0, 0, 0), .inl 0, [], none)),
  (21, (.getfield 147, (24, 13, 13, 0, 0, 0), .inl 0, [], none)),
  (24, (.iconst 1, (25, 0, 0, 0, 0, 0), .inl 0, [], none)),
  (25, (.iadd, (26, 0, 0, 0, 0, 0), .inl 0, [], none)),
  (26, (.putfield 147, (29, 13, 13, 0, 0, 0), .inl 0, [], none)),
  (29, (.aload_n 0, (30, 0, 0, 0, 0, 0), .inl 0, [], none)),
  (30, (.getfield 29, (33, 13, 15, 2, 0, 0), .inl 0, [], none)),
  (33, (.aload_n 0, (34, 0, 0, 0, 0, 0), .inl 0, [], none)),
  (34, (.getfield 150, (37, 13, 16, 0, 0, 0), .inl 0, [], none)),
  (37, (.iload_n 1, (38, 0, 0, 0, 0, 0), .inl 0, [], none)),
  (38, (.iastore, (39, 0, 0, 0, 0, 0), .inl 0, [], none)),
  (39, (.aload_n 0, (40, 0, 0, 0, 0, 0), .inl 0, [], none)),
  (40, (.dup, (41, 0, 0, 0, 0, 0), .inl 0, [], none)),
  (41, (.getfield 150, (44, 13, 16, 0, 0, 0), .inl 0, [], none)),
  (44, (.iconst 1, (45, 0, 0, 0, 0, 0), .inl 0, [], none)),
  (45, (.iadd, (46, 0, 0, 0, 0, 0), .inl 0, [], none)),
  (46, (.putfield 150, (49, 13, 16, 0, 0, 0), .inl 0, [], none)),
  (49, (.iconst 1, (50, 0, 0, 0, 0, 0), .inl 0, [], none)),
  (50, (.ireturn, (51, 3, 0, 0, 0, 0), .inl 0, [], none))]
def z_M_strength : List (Nat × sk_E) := [
  (0, (.iload_n 0, (1, 0, 0, 0, 0, 0), .inl 0, [], none)),
  (1, (.bipush 13, (3, 0, 0, 0, 0, 0), .inl 0, [], none)),
  (3, (.if_icmp .ne 7, (6, 10, 0, 0, 0, 0), .inl 0, [], none)),
  (6, (.iconst 1, (7, 0, 0, 0, 0, 0), .inl 0, [], none)),
  (7, (.goto 24, (10, 31, 0, 0, 0, 0), .inl 0, [], none)),
  (10, (.iload_n 0, (11, 0, 0, 0, 0, 0), .inl 0, [], none)),
  (11, (.bipush 12, (13, 0, 0, 0, 0, 0), .inl 0, [], none)),
  (13, (.if_icmp .ne 7, (16, 20, 0, 0, 0, 0), .inl 0, [], none)),
  (16, (.iconst 2, (17, 0, 0, 0, 0, 0), .inl 0, [], none)),
  (17, (.goto 14, (20, 31, 0, 0, 0, 0), .inl 0, [], none)),
  (20, (.iload_n 0, (21, 0, 0, 0, 0, 0), .inl 0, [], none)),
  (21, (.bipush 11, (23, 0, 0, 0, 0, 0), .inl 0, [], none)),
  (23, (.if_icmp .ne 7, (26, 30, 0, 0, 0, 0), .inl 0, [], none)),
  (26, (.iconst 3, (27, 0, 0, 0, 0, 0), .inl 0, [], none)),
  (27, (.goto 4, (30, 31, 0, 0, 0, 0), .inl 0, [], none)),
  (30, (.iconst 0, (31, 0, 0, 0, 0, 0), .inl 0, [], none)),
  (31, (.ireturn, (32, 0, 0, 0, 0, 0), .inl 0, [], none))]
def z_M_settles : List (Nat × sk_E) := [
  (0, (.aload_n 0, (1, 0, 0, 0, 0, 0), .inl 0, [], some [true, true])),
  (1, (.getfield 150, (4, 13, 16, 0, 0, 0), .inl 0, [], none)),
  (4, (.ifCond .le 72, (7, 76, 0, 0, 0, 0), .inl 0, [], none)),
  (7, (.aload_n 0, (8, 0, 0, 0, 0, 0), .inl 0, [], none)),
  (8, (.getfield 29, (11, 13, 15, 2, 0, 0), .inl 0, [], none)),
  (11, (.aload_n 0, (12, 0, 0, 0, 0, 0), .inl 0, [], none)),
  (12, (.getfield 150, (15, 13, 16, 0, 0, 0), .inl 0, [], none)),
  (15, (.iconst 1, (16, 0, 0, 0, 0, 0), .inl 0, [], none)),
  (16, (.isub, (17, 0, 0, 0, 0, 0), .inl 0, [], none)),
  (17, (.iaload, (18, 0, 0, 0, 0, 0), .inl 0, [], none)),
  (18, (.invokestatic 153, (21, 145, 1, 1, 1, 0), .inl 0, [], none)),
  (21, (.iload_n 1, (22, 0, 0, 0, 0, 0), .inl 0, [], none)),
  (22, (.if_icmp .lt 54, (25, 76, 0, 0, 0, 0), .inl 0, [], none)),
  (25, (.aload_n 0, (26, 0, 0, 0, 0, 0), .inl 0, [], none)),
  (26, (.dup, (27, 0, 0, 0, 0, 0), .inl 0, [], none)),
  (27, (.getfield 150, (30, 13, 16, 0, 0, 0), .inl 0, [], none)),
  (30, (.iconst 1, (31, 0, 0, 0, 0, 0), .inl 0, [], none)),
  (31, (.isub, (32, 0, 0, 0, 0, 0), .inl 0, [], none)),
  (32, (.putfield 150, (35, 13, 16, 0, 0, 0), .inl 0, [], none)),
  (35, (.aload_n 0, (36, 0, 0, 0, 0, 0), .inl 0, [], none)),
  (36, (.aload_n 0, (37, 0, 0, 0, 0, 0), .inl 0, [], none)),
  (37, (.getfield 29, (40, 13, 15, 2, 0, 0), .inl 0, [], none)),
  (40, (.aload_n 0, (41, 0, 0, 0, 0, 0), .inl 0, [], none)),
  (41, (.getfield 150, (44, 13, 16, 0, 0, 0), .inl 0, [], none)),
  (44, (.iaload, (45, 0, 0, 0, 0, 0), .inl 0, [], none)),
  (45, (.iconst 0, (46, 0, 0, 0, 0, 0), .inl 0, [], none)),
  (46, (.invokevirtual 157, (49, 142, 3, 0, 3, 13), .inl 0, [], none)),
  (49, (.aload_n 0, (50, 0, 0, 0, 0, 0), .inl 0, [], none)),
  (50, (.getfield 29, (53, 13, 15, 2, 0, 0), .inl 0, [], none)),
  (53, (.aload_n 0, (54, 0, 0, 0, 0, 0), .inl 0, [], none)),
  (54, (.getfield 150, (57, 13, 16, 0, 0, 0), .inl 0, [], none)),
  (57, (.iaload, (58, 0, 0, 0, 0, 0), .inl 0, [], none)),
  (58, (.bipush 11, (60, 0, 0, 0, 0, 0), .inl 0, [], none)),
  (60, (.if_icmp .ne (-60), (63, 0, 0, 0, 0, 0), .inl 0, [], none)),
  (63, (.aload_n 0, (64, 0, 0, 0, 0, 0), .inl 0, [], none)),
  (64, (.dup, (65, 0, 0, 0, 0, 0), .inl 0, [], none)),
  (65, (.getfield 147, (68, 13, 13, 0, 0, 0), .inl 0, [], none)),
  (68, (.iconst 1, (69, 0, 0, 0, 0, 0), .inl 0, [], none)),
  (69, (.isub, (70, 0, 0, 0, 0, 0), .inl 0, [], none)),
  (70, (.putfield 147, (73, 13, 13, 0, 0, 0), .inl 0, [], none)),
  (73, (.goto (-73), (76, 0, 0, 0, 0, 0), .inl 0, [], none)),
  (76, (.return_, (77, 0, 0, 0, 0, 0), .inl 0, [], none))]
def z_M_value : List (Nat × sk_E) := [
  (0, (.aload_n 0, (1, 0, 0, 0, 0, 0), .inl 0, [], none)),
  (1, (.invokevirtual 90, (4, 134, 1, 1, 1, 13), .inl 0, [], none)),
  (4, (.pop, (5, 0, 0, 0, 0, 0), .inl 0, [], none)),
  (5, (.aload_n 0, (6, 0, 0, 0, 0, 0), .inl 0, [], none)),
  (6, (.getfield 87, (9, 13, 8, 0, 0, 0), .inl 0, [], none)),
  (9, (.istore_n 1, (10, 0, 0, 0, 0, 0), .inl 0, [], none)),
  (10, (.aload_n 0, (11, 0, 0, 0, 0, 0), .inl 0, [], none)),
  (11, (.aload_n 0, (12, 0, 0, 0, 0, 0), .inl 0, [], none)),
  (12, (.getfield 87, (15, 13, 8, 0, 0, 0), .inl 0, [], none)),
  (15, (.invokevirtual 105, (18, 135, 2, 1, 2, 13), .inl 0, [], none)),
  (18, (.ifCond .eq 34, (21, 52, 0, 0, 0, 0), .inl 0, [], none)),
  (21, (.aload_n 0, (22, 0, 0, 0, 0, 0), .inl 0, [], none)),
  (22, (.iconst 0, (23, 0, 0, 0, 0, 0), .inl 0, [], none)),
  (23, (.ldc 161, (25, 0, 0, 0, 0, 0), .inl (99999), [], none)),
  (25, (.invokevirtual 162, (28, 140, 3, 1, 5, 13), .inl 0, [], none)),
  (28, (.ifCond .eq 11, (31, 39, 0, 0, 0, 0), .inl 0, [], none)),
  (31, (.aload_n 0, (32, 0, 0, 0, 0, 0), .inl 0, [], none)),
  (32, (.iload_n 1, (33, 0, 0, 0, 0, 0), .inl 0, [], none)),
  (33, (.invokevirtual 165, (36, 143, 2, 1, 2, 13), .inl 0, [], none)),
  (36, (.ifCond .ne 5, (39, 41, 0, 0, 0, 0), .inl 0, [], none)),
  (39, (.iconst 0, (40, 0, 0, 0, 0, 0), .inl 0, [], none)),
  (40, (.ireturn, (41, 3, 0, 0, 0, 0), .inl 0, [], none)),
  (41, (.aload_n 0, (42, 0, 0, 0, 0, 0), .inl 0, [], none)),
  (42, (.iconst 0, (43, 0, 0, 0, 0, 0), .inl 0, [], none)),
  (43, (.aload_n 0, (44, 0, 0, 0, 0, 0), .inl 0, [], none)),
  (44, (.getfield 112, (47, 13, 10, 0, 0, 0), .inl 0, [], none)),
  (47, (.invokevirtual 157, (50, 142, 3, 0, 3, 13), .inl 0, [], none)),
  (50, (.iconst 1, (51, 0, 0, 0, 0, 0), .inl 0, [], none)),
  (51, (.ireturn, (52, 3, 0, 0, 0, 0), .inl 0, [], none)),
  (52, (.aload_n 0, (53, 0, 0, 0, 0, 0), .inl 0, [], none)),
  (53, (.invokevirtual 168, (56, 141, 1, 1, 1, 13), .inl 0, [], none)),
  (56, (.istore_n 2, (57, 0, 0, 0, 0, 0), .inl 0, [], none)),
  (57, (.iload_n 2, (58, 0, 0, 0, 0, 0), .inl 0, [], none)),
  (58, (.ifCond .ge 10, (61, 68, 0, 0, 0, 0), .inl 0, [], none)),
  (61, (.aload_n 0, (62, 0, 0, 0, 0, 0), .inl 0, [], none)),
  (62, (.iconst 0, (63, 0, 0, 0, 0, 0), .inl 0, [], none)),
  (63, (.iload_n 1, (64, 0, 0, 0, 0, 0), .inl 0, [], none)),
  (64, (.invokevirtual 108, (67, 133, 3, 1, 3, 13), .inl 0, [], none)),
  (67, (.ireturn, (68, 3, 0, 0, 0, 0), .inl 0, [], none)),
  (68, (.aload_n 0, (69, 0, 0, 0, 0, 0), .inl 0, [], none)),
  (69, (.iload_n 1, (70, 0, 0, 0, 0, 0), .inl 0, [], none)),
  (70, (.invokevirtual 165, (73, 143, 2, 1, 2, 13), .inl 0, [], none)),
  (73, (.ifCond .ne 5, (76, 78, 0, 0, 0, 0), .inl 0, [], none)),
  (76, (.iconst 0, (77, 0, 0, 0, 0, 0), .inl 0, [], none)),
  (77, (.ireturn, (78, 3, 0, 0, 0, 0), .inl 0, [], none)),
  (78, (.aload_n 0, (79, 0, 0, 0, 0, 0), .inl 0, [], none)),
  (79, (.invokevirtual 102, (82, 138, 1, 0, 1, 13), .inl 0, [], none)),
  (82, (.aload_n 0, (83, 0, 0, 0, 0, 0), .inl 0, [], none)),
  (83, (.iconst 1, (84, 0, 0, 0, 0, 0), .inl 0, [], none)),
  (84, (.iload_n 2, (85, 0, 0, 0, 0, 0), .inl 0, [], none)),
  (85, (.invokevirtual 157, (88, 142, 3, 0, 3, 13), .inl 0, [], none)),
  (88, (.iconst 1, (89, 0, 0, 0, 0, 0), .inl 0, [], none)),
  (89, (.ireturn, (90, 3, 0, 0, 0, 0), .inl 0, [], none))]
def z_M_term : List (Nat × sk_E) := [
  (0, (.aload_n 0, (1, 0, 0, 0, 0, 0), .inl 0, [], none)),
  (1, (.invokevirtual 171, (4, 147, 1, 1, 3, 13), .inl 0, [], none)),
  (4, (.ifCond .ne 5, (7, 9, 0, 0, 0, 0), .inl 0, [], none)),
  (7, (.iconst 0, (8, 0, 0, 0, 0, 0), .inl 0, [], none)),
  (8, (.ireturn, (9, 3, 0, 0, 0, 0), .inl 0, [], none)),
  (9, (.aload_n 0, (10, 0, 0, 0, 0, 0), .inl 0, [], some [true, false])),
  (10, (.invokevirtual 90, (13, 134, 1, 1, 1, 13), .inl 0, [], none)),
  (13, (.bipush 42, (15, 0, 0, 0, 0, 0), .inl 0, [], none)),
  (15, (.if_icmp .eq 21, (18, 36, 0, 0, 0, 0), .inl 0, [], none)),
  (18, (.aload_n 0, (19, 0, 0, 0, 0, 0), .inl 0, [], none)),
  (19, (.invokevirtual 90, (22, 134, 1, 1, 1, 13), .inl 0, [], none)),
  (22, (.bipush 47, (24, 0, 0, 0, 0, 0), .inl 0, [], none)),
  (24, (.if_icmp .eq 12, (27, 36, 0, 0, 0, 0), .inl 0, [], none)),
  (27, (.aload_n 0, (28, 0, 0, 0, 0, 0), .inl 0, [], none)),
  (28, (.invokevirtual 90, (31, 134, 1, 1, 1, 13), .inl 0, [], none)),
  (31, (.bipush 37, (33, 0, 0, 0, 0, 0), .inl 0, [], none)),
  (33, (.if_icmp .ne 70, (36, 103, 0, 0, 0, 0), .inl 0, [], none)),
  (36, (.aload_n 0, (37, 0, 0, 0, 0, 0), .inl 0, [], some [true, false])),
  (37, (.getfield 7, (40, 13, 0, 2, 0, 0), .inl 0, [], none)),
  (40, (.aload_n 0, (41, 0, 0, 0, 0, 0), .inl 0, [], none)),
  (41, (.getfield 87, (44, 13, 8, 0, 0, 0), .inl 0, [], none)),
  (44, (.baload, (45, 0, 0, 0, 0, 0), .inl 0, [], none)),
  (45, (.bipush 42, (47, 0, 0, 0, 0, 0), .inl 0, [], none)),
  (47, (.if_icmp .ne 7, (50, 54, 0, 0, 0, 0), .inl 0, [], none)),
  (50, (.iconst 4, (51, 0, 0, 0, 0, 0), .inl 0, [], none)),
  (51, (.goto 23, (54, 74, 0, 0, 0, 0), .inl 0, [], none)),
  (54, (.aload_n 0, (55, 0, 0, 0, 0, 0), .inl 0, [], none)),
  (55, (.getfield 7, (58, 13, 0, 2, 0, 0), .inl 0, [], none)),
  (58, (.aload_n 0, (59, 0, 0, 0, 0, 0), .inl 0, [], none)),
  (59, (.getfield 87, (62, 13, 8, 0, 0, 0), .inl 0, [], none)),
  (62, (.baload, (63, 0, 0, 0, 0, 0), .inl 0, [], none)),
  (63, (.bipush 47, (65, 0, 0, 0, 0, 0), .inl 0, [], none)),
  (65, (.if_icmp .ne 7, (68, 72, 0, 0, 0, 0), .inl 0, [], none)),
  (68, (.iconst 5, (69, 0, 0, 0, 0, 0), .inl 0, [], none)),
  (69, (.goto 5, (72, 74, 0, 0, 0, 0), .inl 0, [], none)),
  (72, (.bipush 14, (74, 0, 0, 0, 0, 0), .inl 0, [], none)),
  (74, (.istore_n 1, (75, 0, 0, 0, 0, 0), .inl 0, [], some [true, false])),
  (75, (.aload_n 0, (76, 0, 0, 0, 0, 0), .inl 0, [], none)),
  (76, (.dup, (77, 0, 0, 0, 0, 0), .inl 0, [], none)),
  (77, (.getfield 87, (80, 13, 8, 0, 0, 0), .inl 0, [], none)),
  (80, (.iconst 1, (81, 0, 0, 0, 0, 0), .inl 0, [], none)),
  (81, (.iadd, (82, 0, 0, 0, 0, 0), .inl 0, [], none)),
  (82, (.putfield 87, (85, 13, 8, 0, 0, 0), .inl 0, [], none)),
  (85, (.aload_n 0, (86, 0, 0, 0, 0, 0), .inl 0, [], none)),
  (86, (.invokevirtual 171, (89, 147, 1, 1, 3, 13), .inl 0, [], none)),
  (89, (.ifCond .ne 5, (92, 94, 0, 0, 0, 0), .inl 0, [], none)),
  (92, (.iconst 0, (93, 0, 0, 0, 0, 0), .inl 0, [], none)),
  (93, (.ireturn, (94, 3, 0, 0, 0, 0), .inl 0, [], none)),
  (94, (.aload_n 0, (95, 0, 0, 0, 0, 0), .inl 0, [], none)),
  (95, (.iload_n 1, (96, 0, 0, 0, 0, 0), .inl 0, [], none)),
  (96, (.iconst 0, (97, 0, 0, 0, 0, 0), .inl 0, [], none)),
  (97, (.invokevirtual 157, (100, 142, 3, 0, 3, 13), .inl 0, [], none)),
  (100, (.goto (-91), (103, 9, 0, 0, 0, 0), .inl 0, [], none)),
  (103, (.iconst 1, (104, 0, 0, 0, 0, 0), .inl 0, [], none)),
  (104, (.ireturn, (105, 3, 0, 0, 0, 0), .inl 0, [], none))]
def z_M_sum : List (Nat × sk_E) := [
  (0, (.aload_n 0, (1, 0, 0, 0, 0, 0), .inl 0, [], none)),
  (1, (.invokevirtual 175, (4, 148, 1, 1, 2, 13), .inl 0, [], none)),
  (4, (.ifCond .ne 5, (7, 9, 0, 0, 0, 0), .inl 0, [], none)),
  (7, (.iconst 0, (8, 0, 0, 0, 0, 0), .inl 0, [], none)),
  (8, (.ireturn, (9, 3, 0, 0, 0, 0), .inl 0, [], none)),
  (9, (.aload_n 0, (10, 0, 0, 0, 0, 0), .inl 0, [], some [true, false])),
  (10, (.invokevirtual 90, (13, 134, 1, 1, 1, 13), .inl 0, [], none)),
  (13, (.bipush 43, (15, 0, 0, 0, 0, 0), .inl 0, [], none)),
  (15, (.if_icmp .eq 12, (18, 27, 0, 0, 0, 0), .inl 0, [], none)),
  (18, (.aload_n 0, (19, 0, 0, 0, 0, 0), .inl 0, [], none)),
  (19, (.invokevirtual 90, (22, 134, 1, 1, 1, 13), .inl 0, [], none)),
  (22, (.bipush 45, (24, 0, 0, 0, 0, 0), .inl 0, [], none)),
  (24, (.if_icmp .ne 51, (27, 75, 0, 0, 0, 0), .inl 0, [], none)),
  (27, (.aload_n 0, (28, 0, 0, 0, 0, 0), .inl 0, [], none)),
  (28, (.getfield 7, (31, 13, 0, 2, 0, 0), .inl 0, [], none)),
  (31, (.aload_n 0, (32, 0, 0, 0, 0, 0), .inl 0, [], none)),
  (32, (.getfield 87, (35, 13, 8, 0, 0, 0), .inl 0, [], none)),
  (35, (.baload, (36, 0, 0, 0, 0, 0), .inl 0, [], none)),
  (36, (.bipush 43, (38, 0, 0, 0, 0, 0), .inl 0, [], none)),
  (38, (.if_icmp .ne 7, (41, 45, 0, 0, 0, 0), .inl 0, [], none)),
  (41, (.iconst 2, (42, 0, 0, 0, 0, 0), .inl 0, [], none)),
  (42, (.goto 4, (45, 46, 0, 0, 0, 0), .inl 0, [], none)),
  (45, (.iconst 3, (46, 0, 0, 0, 0, 0), .inl 0, [], none)),
  (46, (.istore_n 1, (47, 0, 0, 0, 0, 0), .inl 0, [], some [true, false])),
  (47, (.aload_n 0, (48, 0, 0, 0, 0, 0), .inl 0, [], none)),
  (48, (.dup, (49, 0, 0, 0, 0, 0), .inl 0, [], none)),
  (49, (.getfield 87, (52, 13, 8, 0, 0, 0), .inl 0, [], none)),
  (52, (.iconst 1, (53, 0, 0, 0, 0, 0), .inl 0, [], none)),
  (53, (.iadd, (54, 0, 0, 0, 0, 0), .inl 0, [], none)),
  (54, (.putfield 87, (57, 13, 8, 0, 0, 0), .inl 0, [], none)),
  (57, (.aload_n 0, (58, 0, 0, 0, 0, 0), .inl 0, [], none)),
  (58, (.invokevirtual 175, (61, 148, 1, 1, 2, 13), .inl 0, [], none)),
  (61, (.ifCond .ne 5, (64, 66, 0, 0, 0, 0), .inl 0, [], none)),
  (64, (.iconst 0, (65, 0, 0, 0, 0, 0), .inl 0, [], none)),
  (65, (.ireturn, (66, 3, 0, 0, 0, 0), .inl 0, [], none)),
  (66, (.aload_n 0, (67, 0, 0, 0, 0, 0), .inl 0, [], none)),
  (67, (.iload_n 1, (68, 0, 0, 0, 0, 0), .inl 0, [], none)),
  (68, (.iconst 0, (69, 0, 0, 0, 0, 0), .inl 0, [], none)),
  (69, (.invokevirtual 157, (72, 142, 3, 0, 3, 13), .inl 0, [], none)),
  (72, (.goto (-63), (75, 9, 0, 0, 0, 0), .inl 0, [], none)),
  (75, (.iconst 1, (76, 0, 0, 0, 0, 0), .inl 0, [], none)),
  (76, (.ireturn, (77, 3, 0, 0, 0, 0), .inl 0, [], none))]
def z_M_compare : List (Nat × sk_E) := [
  (0, (.aload_n 0, (1, 0, 0, 0, 0, 0), .inl 0, [], none)),
  (1, (.invokevirtual 178, (4, 149, 1, 1, 2, 13), .inl 0, [], none)),
  (4, (.ifCond .ne 5, (7, 9, 0, 0, 0, 0), .inl 0, [], none)),
  (7, (.iconst 0, (8, 0, 0, 0, 0, 0), .inl 0, [], none)),
  (8, (.ireturn, (9, 3, 0, 0, 0, 0), .inl 0, [], none)),
  (9, (.aload_n 0, (10, 0, 0, 0, 0, 0), .inl 0, [], none)),
  (10, (.invokevirtual 90, (13, 134, 1, 1, 1, 13), .inl 0, [], none)),
  (13, (.istore_n 1, (14, 0, 0, 0, 0, 0), .inl 0, [], none)),
  (14, (.aload_n 0, (15, 0, 0, 0, 0, 0), .inl 0, [], none)),
  (15, (.getfield 87, (18, 13, 8, 0, 0, 0), .inl 0, [], none)),
  (18, (.istore_n 2, (19, 0, 0, 0, 0, 0), .inl 0, [], none)),
  (19, (.iload_n 1, (20, 0, 0, 0, 0, 0), .inl 0, [], none)),
  (20, (.bipush 60, (22, 0, 0, 0, 0, 0), .inl 0, [], none)),
  (22, (.if_icmp .eq 22, (25, 44, 0, 0, 0, 0), .inl 0, [], none)),
  (25, (.iload_n 1, (26, 0, 0, 0, 0, 0), .inl 0, [], none)),
  (26, (.bipush 61, (28, 0, 0, 0, 0, 0), .inl 0, [], none)),
  (28, (.if_icmp .eq 16, (31, 44, 0, 0, 0, 0), .inl 0, [], none)),
  (31, (.iload_n 1, (32, 0, 0, 0, 0, 0), .inl 0, [], none)),
  (32, (.bipush 62, (34, 0, 0, 0, 0, 0), .inl 0, [], none)),
  (34, (.if_icmp .eq 10, (37, 44, 0, 0, 0, 0), .inl 0, [], none)),
  (37, (.aload_n 0, (38, 0, 0, 0, 0, 0), .inl 0, [], none)),
  (38, (.iconst 0, (39, 0, 0, 0, 0, 0), .inl 0, [], none)),
  (39, (.iload_n 2, (40, 0, 0, 0, 0, 0), .inl 0, [], none)),
  (40, (.invokevirtual 108, (43, 133, 3, 1, 3, 13), .inl 0, [], none)),
  (43, (.ireturn, (44, 3, 0, 0, 0, 0), .inl 0, [], none)),
  (44, (.aload_n 0, (45, 0, 0, 0, 0, 0), .inl 0, [], some [true, true, true, false, false])),
  (45, (.dup, (46, 0, 0, 0, 0, 0), .inl 0, [], none)),
  (46, (.getfield 87, (49, 13, 8, 0, 0, 0), .inl 0, [], none)),
  (49, (.iconst 1, (50, 0, 0, 0, 0, 0), .inl 0, [], none)),
  (50, (.iadd, (51, 0, 0, 0, 0, 0), .inl 0, [], none)),
  (51, (.putfield 87, (54, 13, 8, 0, 0, 0), .inl 0, [], none)),
  (54, (.iload_n 1, (55, 0, 0, 0, 0, 0), .inl 0, [], none)),
  (55, (.bipush 61, (57, 0, 0, 0, 0, 0), .inl 0, [], none)),
  (57, (.if_icmp .eq 32, (60, 89, 0, 0, 0, 0), .inl 0, [], none)),
  (60, (.aload_n 0, (61, 0, 0, 0, 0, 0), .inl 0, [], none)),
  (61, (.getfield 87, (64, 13, 8, 0, 0, 0), .inl 0, [], none)),
  (64, (.aload_n 0, (65, 0, 0, 0, 0, 0), .inl 0, [], none)),
  (65, (.getfield 77, (68, 13, 1, 0, 0, 0), .inl 0, [], none)),
  (68, (.if_icmp .ge 21, (71, 89, 0, 0, 0, 0), .inl 0, [], none)),
  (71, (.aload_n 0, (72, 0, 0, 0, 0, 0), .inl 0, [], none)),
  (72, (.getfield 7, (75, 13, 0, 2, 0, 0), .inl 0, [], none)),
  (75, (.aload_n 0, (76, 0, 0, 0, 0, 0), .inl 0, [], none)),
  (76, (.getfield 87, (79, 13, 8, 0, 0, 0), .inl 0, [], none)),
  (79, (.baload, (80, 0, 0, 0, 0, 0), .inl 0, [], none)),
  (80, (.bipush 61, (82, 0, 0, 0, 0, 0), .inl 0, [], none)),
  (82, (.if_icmp .ne 7, (85, 89, 0, 0, 0, 0), .inl 0, [], none)),
  (85, (.iconst 1, (86, 0, 0, 0, 0, 0), .inl 0, [], none)),
  (86, (.goto 4, (89, 90, 0, 0, 0, 0), .inl 0, [], none)),
  (89, (.iconst 0, (90, 0, 0, 0, 0, 0), .inl 0, [], some [true, true, true, false, false])),
  (90, (.istore_n 3, (91, 0, 0, 0, 0, 0), .inl 0, [], none)),
  (91, (.iload_n 3, (92, 0, 0, 0, 0, 0), .inl 0, [], none)),
  (92, (.ifCond .eq 13, (95, 105, 0, 0, 0, 0), .inl 0, [], none)),
  (95, (.aload_n 0, (96, 0, 0, 0, 0, 0), .inl 0, [], none)),
  (96, (.dup, (97, 0, 0, 0, 0, 0), .inl 0, [], none)),
  (97, (.getfield 87, (100, 13, 8, 0, 0, 0), .inl 0, [], none)),
  (100, (.iconst 1, (101, 0, 0, 0, 0, 0), .inl 0, [], none)),
  (101, (.iadd, (102, 0, 0, 0, 0, 0), .inl 0, [], none)),
  (102, (.putfield 87, (105, 13, 8, 0, 0, 0), .inl 0, [], none)),
  (105, (.aload_n 0, (106, 0, 0, 0, 0, 0), .inl 0, [], some [true, true, true, true, false])),
  (106, (.iload_n 2, (107, 0, 0, 0, 0, 0), .inl 0, [], none)),
  (107, (.invokevirtual 165, (110, 143, 2, 1, 2, 13), .inl 0, [], none)),
  (110, (.ifCond .ne 5, (113, 115, 0, 0, 0, 0), .inl 0, [], none)),
  (113, (.iconst 0, (114, 0, 0, 0, 0, 0), .inl 0, [], none)),
  (114, (.ireturn, (115, 3, 0, 0, 0, 0), .inl 0, [], none)),
  (115, (.iload_n 1, (116, 0, 0, 0, 0, 0), .inl 0, [], none)),
  (116, (.bipush 60, (118, 0, 0, 0, 0, 0), .inl 0, [], none)),
  (118, (.if_icmp .ne 15, (121, 133, 0, 0, 0, 0), .inl 0, [], none)),
  (121, (.iload_n 3, (122, 0, 0, 0, 0, 0), .inl 0, [], none)),
  (122, (.ifCond .eq 7, (125, 129, 0, 0, 0, 0), .inl 0, [], none)),
  (125, (.iconst 1, (126, 0, 0, 0, 0, 0), .inl 0, [], none)),
  (126, (.goto 26, (129, 152, 0, 0, 0, 0), .inl 0, [], none)),
  (129, (.iconst 0, (130, 0, 0, 0, 0, 0), .inl 0, [], none)),
  (130, (.goto 22, (133, 152, 0, 0, 0, 0), .inl 0, [], none)),
  (133, (.iload_n 1, (134, 0, 0, 0, 0, 0), .inl 0, [], none)),
  (134, (.bipush 61, (136, 0, 0, 0, 0, 0), .inl 0, [], none)),
  (136, (.if_icmp .ne 7, (139, 143, 0, 0, 0, 0), .inl 0, [], none)),
  (139, (.iconst 2, (140, 0, 0, 0, 0, 0), .inl 0, [], none)),
  (140, (.goto 12, (143, 152, 0, 0, 0, 0), .inl 0, [], none)),
  (143, (.iload_n 3, (144, 0, 0, 0, 0, 0), .inl 0, [], none)),
  (144, (.ifCond .eq 7, (147, 151, 0, 0, 0, 0), .inl 0, [], none)),
  (147, (.iconst 3, (148, 0, 0, 0, 0, 0), .inl 0, [], none)),
  (148, (.goto 4, (151, 152, 0, 0, 0, 0), .inl 0, [], none)),
  (151, (.iconst 4, (152, 0, 0, 0, 0, 0), .inl 0, [], none)),
  (152, (.istore 4, (154, 0, 0, 0, 0, 0), .inl 0, [], some [true, false, false, false, false])),
  (154, (.aload_n 0, (155, 0, 0, 0, 0, 0), .inl 0, [], none)),
  (155, (.invokevirtual 178, (158, 149, 1, 1, 2, 13), .inl 0, [], none)),
  (158, (.ifCond .ne 5, (161, 163, 0, 0, 0, 0), .inl 0, [], none)),
  (161, (.iconst 0, (162, 0, 0, 0, 0, 0), .inl 0, [], none)),
  (162, (.ireturn, (163, 3, 0, 0, 0, 0), .inl 0, [], none)),
  (163, (.aload_n 0, (164, 0, 0, 0, 0, 0), .inl 0, [], none)),
  (164, (.bipush 6, (166, 0, 0, 0, 0, 0), .inl 0, [], none)),
  (166, (.iload 4, (168, 0, 0, 0, 0, 0), .inl 0, [], none)),
  (168, (.iadd, (169, 0, 0, 0, 0, 0), .inl 0, [], none)),
  (169, (.iconst 0, (170, 0, 0, 0, 0, 0), .inl 0, [], none)),
  (170, (.invokevirtual 157, (173, 142, 3, 0, 3, 13), .inl 0, [], none)),
  (173, (.iconst 1, (174, 0, 0, 0, 0, 0), .inl 0, [], none)),
  (174, (.ireturn, (175, 3, 0, 0, 0, 0), .inl 0, [], none))]
def z_M_fact : List (Nat × sk_E) := [
  (0, (.iconst 1, (1, 0, 0, 0, 0, 0), .inl 0, [], none)),
  (1, (.istore_n 1, (2, 0, 0, 0, 0, 0), .inl 0, [], none)),
  (2, (.iload_n 1, (3, 0, 0, 0, 0, 0), .inl 0, [], some [true, true, false])),
  (3, (.ifCond .eq 72, (6, 75, 0, 0, 0, 0), .inl 0, [], none)),
  (6, (.iconst 0, (7, 0, 0, 0, 0, 0), .inl 0, [], none)),
  (7, (.istore_n 1, (8, 0, 0, 0, 0, 0), .inl 0, [], none)),
  (8, (.aload_n 0, (9, 0, 0, 0, 0, 0), .inl 0, [], none)),
  (9, (.invokevirtual 90, (12, 134, 1, 1, 1, 13), .inl 0, [], none)),
  (12, (.istore_n 2, (13, 0, 0, 0, 0, 0), .inl 0, [], none)),
  (13, (.aload_n 0, (14, 0, 0, 0, 0, 0), .inl 0, [], none)),
  (14, (.ldc2_w 181, (17, 0, 0, 0, 0, 0), .inr (.inl (7237492)), [], none)),
  (17, (.invokevirtual 98, (20, 137, 2, 1, 6, 13), .inl 0, [], none)),
  (20, (.ifCond .eq 23, (23, 43, 0, 0, 0, 0), .inl 0, [], none)),
  (23, (.aload_n 0, (24, 0, 0, 0, 0, 0), .inl 0, [], none)),
  (24, (.bipush 11, (26, 0, 0, 0, 0, 0), .inl 0, [], none)),
  (26, (.invokevirtual 183, (29, 144, 2, 1, 2, 13), .inl 0, [], none)),
  (29, (.ifCond .ne 5, (32, 34, 0, 0, 0, 0), .inl 0, [], none)),
  (32, (.iconst 0, (33, 0, 0, 0, 0, 0), .inl 0, [], none)),
  (33, (.ireturn, (34, 3, 0, 0, 0, 0), .inl 0, [], none)),
  (34, (.aload_n 0, (35, 0, 0, 0, 0, 0), .inl 0, [], none)),
  (35, (.invokevirtual 102, (38, 138, 1, 0, 1, 13), .inl 0, [], none)),
  (38, (.iconst 1, (39, 0, 0, 0, 0, 0), .inl 0, [], none)),
  (39, (.istore_n 1, (40, 0, 0, 0, 0, 0), .inl 0, [], none)),
  (40, (.goto 32, (43, 72, 0, 0, 0, 0), .inl 0, [], none)),
  (43, (.iload_n 2, (44, 0, 0, 0, 0, 0), .inl 0, [], none)),
  (44, (.bipush 91, (46, 0, 0, 0, 0, 0), .inl 0, [], none)),
  (46, (.if_icmp .ne 26, (49, 72, 0, 0, 0, 0), .inl 0, [], none)),
  (49, (.aload_n 0, (50, 0, 0, 0, 0, 0), .inl 0, [], none)),
  (50, (.bipush 91, (52, 0, 0, 0, 0, 0), .inl 0, [], none)),
  (52, (.invokevirtual 183, (55, 144, 2, 1, 2, 13), .inl 0, [], none)),
  (55, (.ifCond .ne 5, (58, 60, 0, 0, 0, 0), .inl 0, [], none)),
  (58, (.iconst 0, (59, 0, 0, 0, 0, 0), .inl 0, [], none)),
  (59, (.ireturn, (60, 3, 0, 0, 0, 0), .inl 0, [], none)),
  (60, (.aload_n 0, (61, 0, 0, 0, 0, 0), .inl 0, [], none)),
  (61, (.dup, (62, 0, 0, 0, 0, 0), .inl 0, [], none)),
  (62, (.getfield 87, (65, 13, 8, 0, 0, 0), .inl 0, [], none)),
  (65, (.iconst 1, (66, 0, 0, 0, 0, 0), .inl 0, [], none)),
  (66, (.iadd, (67, 0, 0, 0, 0, 0), .inl 0, [], none)),
  (67, (.putfield 87, (70, 13, 8, 0, 0, 0), .inl 0, [], none)),
  (70, (.iconst 1, (71, 0, 0, 0, 0, 0), .inl 0, [], none)),
  (71, (.istore_n 1, (72, 0, 0, 0, 0, 0), .inl 0, [], none)),
  (72, (.goto (-70), (75, 2, 0, 0, 0, 0), .inl 0, [], none)),
  (75, (.aload_n 0, (76, 0, 0, 0, 0, 0), .inl 0, [], none)),
  (76, (.invokevirtual 186, (79, 150, 1, 1, 5, 13), .inl 0, [], none)),
  (79, (.ireturn, (80, 3, 0, 0, 0, 0), .inl 0, [], none))]
def z_M_isInside : List (Nat × sk_E) := [
  (0, (.iconst 0, (1, 0, 0, 0, 0, 0), .inl 0, [], none)),
  (1, (.istore_n 1, (2, 0, 0, 0, 0, 0), .inl 0, [], none)),
  (2, (.iload_n 1, (3, 0, 0, 0, 0, 0), .inl 0, [], some [true, true])),
  (3, (.aload_n 0, (4, 0, 0, 0, 0, 0), .inl 0, [], none)),
  (4, (.getfield 150, (7, 13, 16, 0, 0, 0), .inl 0, [], none)),
  (7, (.if_icmp .ge 22, (10, 29, 0, 0, 0, 0), .inl 0, [], none)),
  (10, (.aload_n 0, (11, 0, 0, 0, 0, 0), .inl 0, [], none)),
  (11, (.getfield 29, (14, 13, 15, 2, 0, 0), .inl 0, [], none)),
  (14, (.iload_n 1, (15, 0, 0, 0, 0, 0), .inl 0, [], none)),
  (15, (.iaload, (16, 0, 0, 0, 0, 0), .inl 0, [], none)),
  (16, (.bipush 91, (18, 0, 0, 0, 0, 0), .inl 0, [], none)),
  (18, (.if_icmp .ne 5, (21, 23, 0, 0, 0, 0), .inl 0, [], none)),
  (21, (.iconst 1, (22, 0, 0, 0, 0, 0), .inl 0, [], none)),
  (22, (.ireturn, (23, 3, 0, 0, 0, 0), .inl 0, [], none)),
  (23, (.iinc 1 1, (26, 0, 0, 0, 0, 0), .inl 0, [], none)),
  (26, (.goto (-24), (29, 2, 0, 0, 0, 0), .inl 0, [], none)),
  (29, (.iconst 0, (30, 0, 0, 0, 0, 0), .inl 0, [], none)),
  (30, (.ireturn, (31, 3, 0, 0, 0, 0), .inl 0, [], none))]
def z_M_closes : List (Nat × sk_E) := [
  (0, (.aload_n 0, (1, 0, 0, 0, 0, 0), .inl 0, [], none)),
  (1, (.iconst 3, (2, 0, 0, 0, 0, 0), .inl 0, [], none)),
  (2, (.invokevirtual 189, (5, 146, 2, 0, 2, 13), .inl 0, [], none)),
  (5, (.aload_n 0, (6, 0, 0, 0, 0, 0), .inl 0, [], some [true])),
  (6, (.invokevirtual 90, (9, 134, 1, 1, 1, 13), .inl 0, [], none)),
  (9, (.bipush 93, (11, 0, 0, 0, 0, 0), .inl 0, [], none)),
  (11, (.if_icmp .ne 53, (14, 64, 0, 0, 0, 0), .inl 0, [], none)),
  (14, (.aload_n 0, (15, 0, 0, 0, 0, 0), .inl 0, [], none)),
  (15, (.invokevirtual 192, (18, 152, 1, 1, 2, 13), .inl 0, [], none)),
  (18, (.ifCond .eq 46, (21, 64, 0, 0, 0, 0), .inl 0, [], none)),
  (21, (.aload_n 0, (22, 0, 0, 0, 0, 0), .inl 0, [], none)),
  (22, (.iconst 1, (23, 0, 0, 0, 0, 0), .inl 0, [], none)),
  (23, (.invokevirtual 189, (26, 146, 2, 0, 2, 13), .inl 0, [], none)),
  (26, (.aload_n 0, (27, 0, 0, 0, 0, 0), .inl 0, [], none)),
  (27, (.dup, (28, 0, 0, 0, 0, 0), .inl 0, [], none)),
  (28, (.getfield 150, (31, 13, 16, 0, 0, 0), .inl 0, [], none)),
  (31, (.iconst 1, (32, 0, 0, 0, 0, 0), .inl 0, [], none)),
  (32, (.isub, (33, 0, 0, 0, 0, 0), .inl 0, [], none)),
  (33, (.putfield 150, (36, 13, 16, 0, 0, 0), .inl 0, [], none)),
  (36, (.aload_n 0, (37, 0, 0, 0, 0, 0), .inl 0, [], none)),
  (37, (.dup, (38, 0, 0, 0, 0, 0), .inl 0, [], none)),
  (38, (.getfield 147, (41, 13, 13, 0, 0, 0), .inl 0, [], none)),
  (41, (.iconst 1, (42, 0, 0, 0, 0, 0), .inl 0, [], none)),
  (42, (.isub, (43, 0, 0, 0, 0, 0), .inl 0, [], none)),
  (43, (.putfield 147, (46, 13, 13, 0, 0, 0), .inl 0, [], none)),
  (46, (.aload_n 0, (47, 0, 0, 0, 0, 0), .inl 0, [], none)),
  (47, (.dup, (48, 0, 0, 0, 0, 0), .inl 0, [], none)),
  (48, (.getfield 87, (51, 13, 8, 0, 0, 0), .inl 0, [], none)),
  (51, (.iconst 1, (52, 0, 0, 0, 0, 0), .inl 0, [], none)),
  (52, (.iadd, (53, 0, 0, 0, 0, 0), .inl 0, [], none)),
  (53, (.putfield 87, (56, 13, 8, 0, 0, 0), .inl 0, [], none)),
  (56, (.aload_n 0, (57, 0, 0, 0, 0, 0), .inl 0, [], none)),
  (57, (.iconst 3, (58, 0, 0, 0, 0, 0), .inl 0, [], none)),
  (58, (.invokevirtual 189, (61, 146, 2, 0, 2, 13), .inl 0, [], none)),
  (61, (.goto (-56), (64, 5, 0, 0, 0, 0), .inl 0, [], none)),
  (64, (.return_, (65, 0, 0, 0, 0, 0), .inl 0, [], none))]
def z_M_tested : List (Nat × sk_E) := [
  (0, (.aload_n 0, (1, 0, 0, 0, 0, 0), .inl 0, [], none)),
  (1, (.iconst 0, (2, 0, 0, 0, 0, 0), .inl 0, [], none)),
  (2, (.putfield 150, (5, 13, 16, 0, 0, 0), .inl 0, [], none)),
  (5, (.aload_n 0, (6, 0, 0, 0, 0, 0), .inl 0, [], none)),
  (6, (.iconst 0, (7, 0, 0, 0, 0, 0), .inl 0, [], none)),
  (7, (.putfield 147, (10, 13, 13, 0, 0, 0), .inl 0, [], none)),
  (10, (.iconst 1, (11, 0, 0, 0, 0, 0), .inl 0, [], none)),
  (11, (.istore_n 1, (12, 0, 0, 0, 0, 0), .inl 0, [], none)),
  (12, (.iload_n 1, (13, 0, 0, 0, 0, 0), .inl 0, [], some [true, true, false])),
  (13, (.ifCond .eq 99, (16, 112, 0, 0, 0, 0), .inl 0, [], none)),
  (16, (.aload_n 0, (17, 0, 0, 0, 0, 0), .inl 0, [], none)),
  (17, (.invokevirtual 195, (20, 151, 1, 1, 3, 13), .inl 0, [], none)),
  (20, (.ifCond .ne 5, (23, 25, 0, 0, 0, 0), .inl 0, [], none)),
  (23, (.iconst 0, (24, 0, 0, 0, 0, 0), .inl 0, [], none)),
  (24, (.ireturn, (25, 3, 0, 0, 0, 0), .inl 0, [], none)),
  (25, (.aload_n 0, (26, 0, 0, 0, 0, 0), .inl 0, [], none)),
  (26, (.invokevirtual 198, (29, 153, 1, 0, 1, 13), .inl 0, [], none)),
  (29, (.aload_n 0, (30, 0, 0, 0, 0, 0), .inl 0, [], none)),
  (30, (.ldc2_w 201, (33, 0, 0, 0, 0, 0), .inr (.inl (6385252)), [], none)),
  (33, (.invokevirtual 98, (36, 137, 2, 1, 6, 13), .inl 0, [], none)),
  (36, (.ifCond .ne 13, (39, 49, 0, 0, 0, 0), .inl 0, [], none)),
  (39, (.aload_n 0, (40, 0, 0, 0, 0, 0), .inl 0, [], none)),
  (40, (.ldc2_w 203, (43, 0, 0, 0, 0, 0), .inr (.inl (28530)), [], none)),
  (43, (.invokevirtual 98, (46, 137, 2, 1, 6, 13), .inl 0, [], none)),
  (46, (.ifCond .eq 7, (49, 53, 0, 0, 0, 0), .inl 0, [], none)),
  (49, (.iconst 1, (50, 0, 0, 0, 0, 0), .inl 0, [], none)),
  (50, (.goto 4, (53, 54, 0, 0, 0, 0), .inl 0, [], none)),
  (53, (.iconst 0, (54, 0, 0, 0, 0, 0), .inl 0, [], none)),
  (54, (.istore_n 1, (55, 0, 0, 0, 0, 0), .inl 0, [], none)),
  (55, (.iload_n 1, (56, 0, 0, 0, 0, 0), .inl 0, [], none)),
  (56, (.ifCond .eq (-44), (59, 12, 0, 0, 0, 0), .inl 0, [], none)),
  (59, (.aload_n 0, (60, 0, 0, 0, 0, 0), .inl 0, [], none)),
  (60, (.ldc2_w 201, (63, 0, 0, 0, 0, 0), .inr (.inl (6385252)), [], none)),
  (63, (.invokevirtual 98, (66, 137, 2, 1, 6, 13), .inl 0, [], none)),
  (66, (.ifCond .eq 8, (69, 74, 0, 0, 0, 0), .inl 0, [], none)),
  (69, (.bipush 12, (71, 0, 0, 0, 0, 0), .inl 0, [], none)),
  (71, (.goto 5, (74, 76, 0, 0, 0, 0), .inl 0, [], none)),
  (74, (.bipush 13, (76, 0, 0, 0, 0, 0), .inl 0, [], none)),
  (76, (.istore_n 2, (77, 0, 0, 0, 0, 0), .inl 0, [], some [true, true, false])),
  (77, (.aload_n 0, (78, 0, 0, 0, 0, 0), .inl 0, [], none)),
  (78, (.invokevirtual 102, (81, 138, 1, 0, 1, 13), .inl 0, [], none)),
  (81, (.aload_n 0, (82, 0, 0, 0, 0, 0), .inl 0, [], none)),
  (82, (.iload_n 2, (83, 0, 0, 0, 0, 0), .inl 0, [], none)),
  (83, (.invokestatic 153, (86, 145, 1, 1, 1, 0), .inl 0, [], none)),
  (86, (.invokevirtual 189, (89, 146, 2, 0, 2, 13), .inl 0, [], none)),
  (89, (.aload_n 0, (90, 0, 0, 0, 0, 0), .inl 0, [], none)),
  (90, (.getfield 29, (93, 13, 15, 2, 0, 0), .inl 0, [], none)),
  (93, (.aload_n 0, (94, 0, 0, 0, 0, 0), .inl 0, [], none)),
  (94, (.getfield 150, (97, 13, 16, 0, 0, 0), .inl 0, [], none)),
  (97, (.iload_n 2, (98, 0, 0, 0, 0, 0), .inl 0, [], none)),
  (98, (.iastore, (99, 0, 0, 0, 0, 0), .inl 0, [], none)),
  (99, (.aload_n 0, (100, 0, 0, 0, 0, 0), .inl 0, [], none)),
  (100, (.dup, (101, 0, 0, 0, 0, 0), .inl 0, [], none)),
  (101, (.getfield 150, (104, 13, 16, 0, 0, 0), .inl 0, [], none)),
  (104, (.iconst 1, (105, 0, 0, 0, 0, 0), .inl 0, [], none)),
  (105, (.iadd, (106, 0, 0, 0, 0, 0), .inl 0, [], none)),
  (106, (.putfield 150, (109, 13, 16, 0, 0, 0), .inl 0, [], none)),
  (109, (.goto (-97), (112, 12, 0, 0, 0, 0), .inl 0, [], none)),
  (112, (.aload_n 0, (113, 0, 0, 0, 0, 0), .inl 0, [], none)),
  (113, (.invokevirtual 192, (116, 152, 1, 1, 2, 13), .inl 0, [], none)),
  (116, (.ifCond .eq 18, (119, 134, 0, 0, 0, 0), .inl 0, [], none)),
  (119, (.aload_n 0, (120, 0, 0, 0, 0, 0), .inl 0, [], none)),
  (120, (.invokevirtual 90, (123, 134, 1, 1, 1, 13), .inl 0, [], none)),
  (123, (.pop, (124, 0, 0, 0, 0, 0), .inl 0, [], none)),
  (124, (.aload_n 0, (125, 0, 0, 0, 0, 0), .inl 0, [], none)),
  (125, (.iconst 0, (126, 0, 0, 0, 0, 0), .inl 0, [], none)),
  (126, (.aload_n 0, (127, 0, 0, 0, 0, 0), .inl 0, [], none)),
  (127, (.getfield 87, (130, 13, 8, 0, 0, 0), .inl 0, [], none)),
  (130, (.invokevirtual 108, (133, 133, 3, 1, 3, 13), .inl 0, [], none)),
  (133, (.ireturn, (134, 3, 0, 0, 0, 0), .inl 0, [], none)),
  (134, (.aload_n 0, (135, 0, 0, 0, 0, 0), .inl 0, [], none)),
  (135, (.iconst 1, (136, 0, 0, 0, 0, 0), .inl 0, [], none)),
  (136, (.invokevirtual 189, (139, 146, 2, 0, 2, 13), .inl 0, [], none)),
  (139, (.iconst 1, (140, 0, 0, 0, 0, 0), .inl 0, [], none)),
  (140, (.ireturn, (141, 3, 0, 0, 0, 0), .inl 0, [], none))]
def z_M_isStrokeHere : List (Nat × sk_E) := [
  (0, (.aload_n 0, (1, 0, 0, 0, 0, 0), .inl 0, [], none)),
  (1, (.invokevirtual 102, (4, 138, 1, 0, 1, 13), .inl 0, [], none)),
  (4, (.bipush 48, (6, 0, 0, 0, 0, 0), .inl 0, [], none)),
  (6, (.aload_n 0, (7, 0, 0, 0, 0, 0), .inl 0, [], none)),
  (7, (.getfield 141, (10, 13, 11, 0, 0, 0), .inl 0, [], none)),
  (10, (.imul, (11, 0, 0, 0, 0, 0), .inl 0, [], none)),
  (11, (.iconst 4, (12, 0, 0, 0, 0, 0), .inl 0, [], none)),
  (12, (.aload_n 0, (13, 0, 0, 0, 0, 0), .inl 0, [], none)),
  (13, (.getfield 23, (16, 13, 6, 2, 0, 0), .inl 0, [], none)),
  (16, (.aload_n 0, (17, 0, 0, 0, 0, 0), .inl 0, [], none)),
  (17, (.getfield 141, (20, 13, 11, 0, 0, 0), .inl 0, [], none)),
  (20, (.iaload, (21, 0, 0, 0, 0, 0), .inl 0, [], none)),
  (21, (.imul, (22, 0, 0, 0, 0, 0), .inl 0, [], none)),
  (22, (.iadd, (23, 0, 0, 0, 0, 0), .inl 0, [], none)),
  (23, (.istore_n 1, (24, 0, 0, 0, 0, 0), .inl 0, [], none)),
  (24, (.aload_n 0, (25, 0, 0, 0, 0, 0), .inl 0, [], none)),
  (25, (.getfield 20, (28, 13, 5, 2, 0, 0), .inl 0, [], none)),
  (28, (.iload_n 1, (29, 0, 0, 0, 0, 0), .inl 0, [], none)),
  (29, (.aload_n 0, (30, 0, 0, 0, 0, 0), .inl 0, [], none)),
  (30, (.getfield 17, (33, 13, 4, 2, 0, 0), .inl 0, [], none)),
  (33, (.aload_n 0, (34, 0, 0, 0, 0, 0), .inl 0, [], none)),
  (34, (.getfield 141, (37, 13, 11, 0, 0, 0), .inl 0, [], none)),
  (37, (.iaload, (38, 0, 0, 0, 0, 0), .inl 0, [], none)),
  (38, (.iastore, (39, 0, 0, 0, 0, 0), .inl 0, [], none)),
  (39, (.aload_n 0, (40, 0, 0, 0, 0, 0), .inl 0, [], none)),
  (40, (.invokevirtual 178, (43, 149, 1, 1, 2, 13), .inl 0, [], none)),
  (43, (.ifCond .ne 5, (46, 48, 0, 0, 0, 0), .inl 0, [], none)),
  (46, (.iconst 0, (47, 0, 0, 0, 0, 0), .inl 0, [], none)),
  (47, (.ireturn, (48, 3, 0, 0, 0, 0), .inl 0, [], none)),
  (48, (.aload_n 0, (49, 0, 0, 0, 0, 0), .inl 0, [], none)),
  (49, (.getfield 20, (52, 13, 5, 2, 0, 0), .inl 0, [], none)),
  (52, (.iload_n 1, (53, 0, 0, 0, 0, 0), .inl 0, [], none)),
  (53, (.iconst 1, (54, 0, 0, 0, 0, 0), .inl 0, [], none)),
  (54, (.iadd, (55, 0, 0, 0, 0, 0), .inl 0, [], none)),
  (55, (.aload_n 0, (56, 0, 0, 0, 0, 0), .inl 0, [], none)),
  (56, (.getfield 17, (59, 13, 4, 2, 0, 0), .inl 0, [], none)),
  (59, (.aload_n 0, (60, 0, 0, 0, 0, 0), .inl 0, [], none)),
  (60, (.getfield 141, (63, 13, 11, 0, 0, 0), .inl 0, [], none)),
  (63, (.iaload, (64, 0, 0, 0, 0, 0), .inl 0, [], none)),
  (64, (.iastore, (65, 0, 0, 0, 0, 0), .inl 0, [], none)),
  (65, (.aload_n 0, (66, 0, 0, 0, 0, 0), .inl 0, [], none)),
  (66, (.getfield 20, (69, 13, 5, 2, 0, 0), .inl 0, [], none)),
  (69, (.iload_n 1, (70, 0, 0, 0, 0, 0), .inl 0, [], none)),
  (70, (.iconst 2, (71, 0, 0, 0, 0, 0), .inl 0, [], none)),
  (71, (.iadd, (72, 0, 0, 0, 0, 0), .inl 0, [], none)),
  (72, (.iconst (-1), (73, 0, 0, 0, 0, 0), .inl 0, [], none)),
  (73, (.iastore, (74, 0, 0, 0, 0, 0), .inl 0, [], none)),
  (74, (.aload_n 0, (75, 0, 0, 0, 0, 0), .inl 0, [], none)),
  (75, (.ldc2_w 205, (78, 0, 0, 0, 0, 0), .inr (.inl (26982)), [], none)),
  (78, (.invokevirtual 207, (81, 139, 2, 1, 3, 13), .inl 0, [], none)),
  (81, (.ifCond .eq 29, (84, 110, 0, 0, 0, 0), .inl 0, [], none)),
  (84, (.aload_n 0, (85, 0, 0, 0, 0, 0), .inl 0, [], none)),
  (85, (.getfield 20, (88, 13, 5, 2, 0, 0), .inl 0, [], none)),
  (88, (.iload_n 1, (89, 0, 0, 0, 0, 0), .inl 0, [], none)),
  (89, (.iconst 2, (90, 0, 0, 0, 0, 0), .inl 0, [], none)),
  (90, (.iadd, (91, 0, 0, 0, 0, 0), .inl 0, [], none)),
  (91, (.aload_n 0, (92, 0, 0, 0, 0, 0), .inl 0, [], none)),
  (92, (.getfield 17, (95, 13, 4, 2, 0, 0), .inl 0, [], none)),
  (95, (.aload_n 0, (96, 0, 0, 0, 0, 0), .inl 0, [], none)),
  (96, (.getfield 141, (99, 13, 11, 0, 0, 0), .inl 0, [], none)),
  (99, (.iaload, (100, 0, 0, 0, 0, 0), .inl 0, [], none)),
  (100, (.iastore, (101, 0, 0, 0, 0, 0), .inl 0, [], none)),
  (101, (.aload_n 0, (102, 0, 0, 0, 0, 0), .inl 0, [], none)),
  (102, (.invokevirtual 210, (105, 154, 1, 1, 3, 13), .inl 0, [], none)),
  (105, (.ifCond .ne 5, (108, 110, 0, 0, 0, 0), .inl 0, [], none)),
  (108, (.iconst 0, (109, 0, 0, 0, 0, 0), .inl 0, [], none)),
  (109, (.ireturn, (110, 3, 0, 0, 0, 0), .inl 0, [], none)),
  (110, (.aload_n 0, (111, 0, 0, 0, 0, 0), .inl 0, [], some [true, true])),
  (111, (.getfield 20, (114, 13, 5, 2, 0, 0), .inl 0, [], none)),
  (114, (.iload_n 1, (115, 0, 0, 0, 0, 0), .inl 0, [], none)),
  (115, (.iconst 3, (116, 0, 0, 0, 0, 0), .inl 0, [], none)),
  (116, (.iadd, (117, 0, 0, 0, 0, 0), .inl 0, [], none)),
  (117, (.aload_n 0, (118, 0, 0, 0, 0, 0), .inl 0, [], none)),
  (118, (.getfield 17, (121, 13, 4, 2, 0, 0), .inl 0, [], none)),
  (121, (.aload_n 0, (122, 0, 0, 0, 0, 0), .inl 0, [], none)),
  (122, (.getfield 141, (125, 13, 11, 0, 0, 0), .inl 0, [], none)),
  (125, (.iaload, (126, 0, 0, 0, 0, 0), .inl 0, [], none)),
  (126, (.iastore, (127, 0, 0, 0, 0, 0), .inl 0, [], none)),
  (127, (.aload_n 0, (128, 0, 0, 0, 0, 0), .inl 0, [], none)),
  (128, (.getfield 23, (131, 13, 6, 2, 0, 0), .inl 0, [], none)),
  (131, (.aload_n 0, (132, 0, 0, 0, 0, 0), .inl 0, [], none)),
  (132, (.getfield 141, (135, 13, 11, 0, 0, 0), .inl 0, [], none)),
  (135, (.dup2, (136, 0, 0, 0, 0, 0), .inl 0, [], none)),
  (136, (.iaload, (137, 0, 0, 0, 0, 0), .inl 0, [], none)),
  (137, (.iconst 1, (138, 0, 0, 0, 0, 0), .inl 0, [], none)),
  (138, (.iadd, (139, 0, 0, 0, 0, 0), .inl 0, [], none)),
  (139, (.iastore, (140, 0, 0, 0, 0, 0), .inl 0, [], none)),
  (140, (.iconst 1, (141, 0, 0, 0, 0, 0), .inl 0, [], none)),
  (141, (.ireturn, (142, 3, 0, 0, 0, 0), .inl 0, [], none))]
def z_M_isAlleyHere : List (Nat × sk_E) := [
  (0, (.aload_n 0, (1, 0, 0, 0, 0, 0), .inl 0, [], none)),
  (1, (.getfield 26, (4, 13, 7, 2, 0, 0), .inl 0, [], none)),
  (4, (.iconst 0, (5, 0, 0, 0, 0, 0), .inl 0, [], none)),
  (5, (.iaload, (6, 0, 0, 0, 0, 0), .inl 0, [], none)),
  (6, (.ifCond .le 10, (9, 16, 0, 0, 0, 0), .inl 0, [], none)),
  (9, (.aload_n 0, (10, 0, 0, 0, 0, 0), .inl 0, [], none)),
  (10, (.iconst 4, (11, 0, 0, 0, 0, 0), .inl 0, [], none)),
  (11, (.iload_n 1, (12, 0, 0, 0, 0, 0), .inl 0, [], none)),
  (12, (.invokevirtual 108, (15, 133, 3, 1, 3, 13), .inl 0, [], none)),
  (15, (.ireturn, (16, 3, 0, 0, 0, 0), .inl 0, [], none)),
  (16, (.aload_n 0, (17, 0, 0, 0, 0, 0), .inl 0, [], none)),
  (17, (.invokevirtual 102, (20, 138, 1, 0, 1, 13), .inl 0, [], none)),
  (20, (.aload_n 0, (21, 0, 0, 0, 0, 0), .inl 0, [], none)),
  (21, (.iconst 0, (22, 0, 0, 0, 0, 0), .inl 0, [], none)),
  (22, (.iconst 1, (23, 0, 0, 0, 0, 0), .inl 0, [], none)),
  (23, (.invokevirtual 162, (26, 140, 3, 1, 5, 13), .inl 0, [], none)),
  (26, (.ifCond .ne 5, (29, 31, 0, 0, 0, 0), .inl 0, [], none)),
  (29, (.iconst 0, (30, 0, 0, 0, 0, 0), .inl 0, [], none)),
  (30, (.ireturn, (31, 3, 0, 0, 0, 0), .inl 0, [], none)),
  (31, (.aload_n 0, (32, 0, 0, 0, 0, 0), .inl 0, [], none)),
  (32, (.getfield 26, (35, 13, 7, 2, 0, 0), .inl 0, [], none)),
  (35, (.bipush 7, (37, 0, 0, 0, 0, 0), .inl 0, [], none)),
  (37, (.aload_n 0, (38, 0, 0, 0, 0, 0), .inl 0, [], none)),
  (38, (.getfield 112, (41, 13, 10, 0, 0, 0), .inl 0, [], none)),
  (41, (.iastore, (42, 0, 0, 0, 0, 0), .inl 0, [], none)),
  (42, (.aload_n 0, (43, 0, 0, 0, 0, 0), .inl 0, [], none)),
  (43, (.getfield 26, (46, 13, 7, 2, 0, 0), .inl 0, [], none)),
  (46, (.iconst 0, (47, 0, 0, 0, 0, 0), .inl 0, [], none)),
  (47, (.iconst 1, (48, 0, 0, 0, 0, 0), .inl 0, [], none)),
  (48, (.iastore, (49, 0, 0, 0, 0, 0), .inl 0, [], none)),
  (49, (.iconst 1, (50, 0, 0, 0, 0, 0), .inl 0, [], none)),
  (50, (.ireturn, (51, 3, 0, 0, 0, 0), .inl 0, [], none))]
def z_M_isPlaceHere : List (Nat × sk_E) := [
  (0, (.aload_n 0, (1, 0, 0, 0, 0, 0), .inl 0, [], none)),
  (1, (.getfield 87, (4, 13, 8, 0, 0, 0), .inl 0, [], none)),
  (4, (.aload_n 0, (5, 0, 0, 0, 0, 0), .inl 0, [], none)),
  (5, (.getfield 77, (8, 13, 1, 0, 0, 0), .inl 0, [], none)),
  (8, (.if_icmp .ge 35, (11, 43, 0, 0, 0, 0), .inl 0, [], none)),
  (11, (.aload_n 0, (12, 0, 0, 0, 0, 0), .inl 0, [], none)),
  (12, (.getfield 7, (15, 13, 0, 2, 0, 0), .inl 0, [], none)),
  (15, (.aload_n 0, (16, 0, 0, 0, 0, 0), .inl 0, [], none)),
  (16, (.getfield 87, (19, 13, 8, 0, 0, 0), .inl 0, [], none)),
  (19, (.baload, (20, 0, 0, 0, 0, 0), .inl 0, [], none)),
  (20, (.bipush 48, (22, 0, 0, 0, 0, 0), .inl 0, [], none)),
  (22, (.if_icmp .eq 17, (25, 39, 0, 0, 0, 0), .inl 0, [], none)),
  (25, (.aload_n 0, (26, 0, 0, 0, 0, 0), .inl 0, [], none)),
  (26, (.getfield 7, (29, 13, 0, 2, 0, 0), .inl 0, [], none)),
  (29, (.aload_n 0, (30, 0, 0, 0, 0, 0), .inl 0, [], none)),
  (30, (.getfield 87, (33, 13, 8, 0, 0, 0), .inl 0, [], none)),
  (33, (.baload, (34, 0, 0, 0, 0, 0), .inl 0, [], none)),
  (34, (.bipush 49, (36, 0, 0, 0, 0, 0), .inl 0, [], none)),
  (36, (.if_icmp .ne 7, (39, 43, 0, 0, 0, 0), .inl 0, [], none)),
  (39, (.iconst 1, (40, 0, 0, 0, 0, 0), .inl 0, [], none)),
  (40, (.goto 4, (43, 44, 0, 0, 0, 0), .inl 0, [], none)),
  (43, (.iconst 0, (44, 0, 0, 0, 0, 0), .inl 0, [], none)),
  (44, (.ireturn, (45, 3, 0, 0, 0, 0), .inl 0, [], none))]
def z_M_isRowHere : List (Nat × sk_E) := [
  (0, (.aload_n 0, (1, 0, 0, 0, 0, 0), .inl 0, [], none)),
  (1, (.getfield 26, (4, 13, 7, 2, 0, 0), .inl 0, [], none)),
  (4, (.iconst 2, (5, 0, 0, 0, 0, 0), .inl 0, [], none)),
  (5, (.iaload, (6, 0, 0, 0, 0, 0), .inl 0, [], none)),
  (6, (.iconst 4, (7, 0, 0, 0, 0, 0), .inl 0, [], none)),
  (7, (.if_icmp .ne 10, (10, 17, 0, 0, 0, 0), .inl 0, [], none)),
  (10, (.aload_n 0, (11, 0, 0, 0, 0, 0), .inl 0, [], none)),
  (11, (.iconst 4, (12, 0, 0, 0, 0, 0), .inl 0, [], none)),
  (12, (.iload_n 1, (13, 0, 0, 0, 0, 0), .inl 0, [], none)),
  (13, (.invokevirtual 108, (16, 133, 3, 1, 3, 13), .inl 0, [], none)),
  (16, (.ireturn, (17, 3, 0, 0, 0, 0), .inl 0, [], none)),
  (17, (.aload_n 0, (18, 0, 0, 0, 0, 0), .inl 0, [], none)),
  (18, (.invokevirtual 102, (21, 138, 1, 0, 1, 13), .inl 0, [], none)),
  (21, (.aload_n 0, (22, 0, 0, 0, 0, 0), .inl 0, [], none)),
  (22, (.invokevirtual 90, (25, 134, 1, 1, 1, 13), .inl 0, [], none)),
  (25, (.pop, (26, 0, 0, 0, 0, 0), .inl 0, [], none)),
  (26, (.aload_n 0, (27, 0, 0, 0, 0, 0), .inl 0, [], none)),
  (27, (.invokevirtual 213, (30, 157, 1, 1, 1, 13), .inl 0, [], none)),
  (30, (.ifCond .ne 13, (33, 43, 0, 0, 0, 0), .inl 0, [], none)),
  (33, (.aload_n 0, (34, 0, 0, 0, 0, 0), .inl 0, [], none)),
  (34, (.iconst 0, (35, 0, 0, 0, 0, 0), .inl 0, [], none)),
  (35, (.aload_n 0, (36, 0, 0, 0, 0, 0), .inl 0, [], none)),
  (36, (.getfield 87, (39, 13, 8, 0, 0, 0), .inl 0, [], none)),
  (39, (.invokevirtual 108, (42, 133, 3, 1, 3, 13), .inl 0, [], none)),
  (42, (.ireturn, (43, 3, 0, 0, 0, 0), .inl 0, [], none)),
  (43, (.aload_n 0, (44, 0, 0, 0, 0, 0), .inl 0, [], none)),
  (44, (.getfield 26, (47, 13, 7, 2, 0, 0), .inl 0, [], none)),
  (47, (.iconst 2, (48, 0, 0, 0, 0, 0), .inl 0, [], none)),
  (48, (.iaload, (49, 0, 0, 0, 0, 0), .inl 0, [], none)),
  (49, (.istore_n 2, (50, 0, 0, 0, 0, 0), .inl 0, [], none)),
  (50, (.aload_n 0, (51, 0, 0, 0, 0, 0), .inl 0, [], none)),
  (51, (.getfield 26, (54, 13, 7, 2, 0, 0), .inl 0, [], none)),
  (54, (.bipush 12, (56, 0, 0, 0, 0, 0), .inl 0, [], none)),
  (56, (.iload_n 2, (57, 0, 0, 0, 0, 0), .inl 0, [], none)),
  (57, (.iadd, (58, 0, 0, 0, 0, 0), .inl 0, [], none)),
  (58, (.aload_n 0, (59, 0, 0, 0, 0, 0), .inl 0, [], none)),
  (59, (.getfield 26, (62, 13, 7, 2, 0, 0), .inl 0, [], none)),
  (62, (.iconst 1, (63, 0, 0, 0, 0, 0), .inl 0, [], none)),
  (63, (.iaload, (64, 0, 0, 0, 0, 0), .inl 0, [], none)),
  (64, (.iastore, (65, 0, 0, 0, 0, 0), .inl 0, [], none)),
  (65, (.aload_n 0, (66, 0, 0, 0, 0, 0), .inl 0, [], none)),
  (66, (.getfield 26, (69, 13, 7, 2, 0, 0), .inl 0, [], none)),
  (69, (.bipush 16, (71, 0, 0, 0, 0, 0), .inl 0, [], none)),
  (71, (.iload_n 2, (72, 0, 0, 0, 0, 0), .inl 0, [], none)),
  (72, (.iadd, (73, 0, 0, 0, 0, 0), .inl 0, [], none)),
  (73, (.iconst 0, (74, 0, 0, 0, 0, 0), .inl 0, [], none)),
  (74, (.iastore, (75, 0, 0, 0, 0, 0), .inl 0, [], none)),
  (75, (.aload_n 0, (76, 0, 0, 0, 0, 0), .inl 0, [], none)),
  (76, (.getfield 26, (79, 13, 7, 2, 0, 0), .inl 0, [], none)),
  (79, (.bipush 20, (81, 0, 0, 0, 0, 0), .inl 0, [], none)),
  (81, (.iload_n 2, (82, 0, 0, 0, 0, 0), .inl 0, [], none)),
  (82, (.iadd, (83, 0, 0, 0, 0, 0), .inl 0, [], none)),
  (83, (.iconst 0, (84, 0, 0, 0, 0, 0), .inl 0, [], none)),
  (84, (.iastore, (85, 0, 0, 0, 0, 0), .inl 0, [], none)),
  (85, (.aload_n 0, (86, 0, 0, 0, 0, 0), .inl 0, [], some [true, false, true])),
  (86, (.invokevirtual 213, (89, 157, 1, 1, 1, 13), .inl 0, [], none)),
  (89, (.ifCond .eq 92, (92, 181, 0, 0, 0, 0), .inl 0, [], none)),
  (92, (.aload_n 0, (93, 0, 0, 0, 0, 0), .inl 0, [], none)),
  (93, (.getfield 26, (96, 13, 7, 2, 0, 0), .inl 0, [], none)),
  (96, (.iconst 1, (97, 0, 0, 0, 0, 0), .inl 0, [], none)),
  (97, (.iaload, (98, 0, 0, 0, 0, 0), .inl 0, [], none)),
  (98, (.bipush 12, (100, 0, 0, 0, 0, 0), .inl 0, [], none)),
  (100, (.if_icmp .ne 13, (103, 113, 0, 0, 0, 0), .inl 0, [], none)),
  (103, (.aload_n 0, (104, 0, 0, 0, 0, 0), .inl 0, [], none)),
  (104, (.iconst 3, (105, 0, 0, 0, 0, 0), .inl 0, [], none)),
  (105, (.aload_n 0, (106, 0, 0, 0, 0, 0), .inl 0, [], none)),
  (106, (.getfield 87, (109, 13, 8, 0, 0, 0), .inl 0, [], none)),
  (109, (.invokevirtual 108, (112, 133, 3, 1, 3, 13), .inl 0, [], none)),
  (112, (.ireturn, (113, 3, 0, 0, 0, 0), .inl 0, [], none)),
  (113, (.aload_n 0, (114, 0, 0, 0, 0, 0), .inl 0, [], none)),
  (114, (.getfield 7, (117, 13, 0, 2, 0, 0), .inl 0, [], none)),
  (117, (.aload_n 0, (118, 0, 0, 0, 0, 0), .inl 0, [], none)),
  (118, (.getfield 87, (121, 13, 8, 0, 0, 0), .inl 0, [], none)),
  (121, (.baload, (122, 0, 0, 0, 0, 0), .inl 0, [], none)),
  (122, (.bipush 49, (124, 0, 0, 0, 0, 0), .inl 0, [], none)),
  (124, (.if_icmp .ne 21, (127, 145, 0, 0, 0, 0), .inl 0, [], none)),
  (127, (.aload_n 0, (128, 0, 0, 0, 0, 0), .inl 0, [], none)),
  (128, (.getfield 26, (131, 13, 7, 2, 0, 0), .inl 0, [], none)),
  (131, (.bipush 8, (133, 0, 0, 0, 0, 0), .inl 0, [], none)),
  (133, (.dup2, (134, 0, 0, 0, 0, 0), .inl 0, [], none)),
  (134, (.iaload, (135, 0, 0, 0, 0, 0), .inl 0, [], none)),
  (135, (.iconst 1, (136, 0, 0, 0, 0, 0), .inl 0, [], none)),
  (136, (.aload_n 0, (137, 0, 0, 0, 0, 0), .inl 0, [], none)),
  (137, (.getfield 26, (140, 13, 7, 2, 0, 0), .inl 0, [], none)),
  (140, (.iconst 1, (141, 0, 0, 0, 0, 0), .inl 0, [], none)),
  (141, (.iaload, (142, 0, 0, 0, 0, 0), .inl 0, [], none)),
  (142, (.ishl, (143, 0, 0, 0, 0, 0), .inl 0, [], none)),
  (143, (.ior, (144, 0, 0, 0, 0, 0), .inl 0, [], none)),
  (144, (.iastore, (145, 0, 0, 0, 0, 0), .inl 0, [], none)),
  (145, (.aload_n 0, (146, 0, 0, 0, 0, 0), .inl 0, [], some [true, false, true])),
  (146, (.getfield 26, (149, 13, 7, 2, 0, 0), .inl 0, [], none)),
  (149, (.iconst 1, (150, 0, 0, 0, 0, 0), .inl 0, [], none)),
  (150, (.dup2, (151, 0, 0, 0, 0, 0), .inl 0, [], none)),
  (151, (.iaload, (152, 0, 0, 0, 0, 0), .inl 0, [], none)),
  (152, (.iconst 1, (153, 0, 0, 0, 0, 0), .inl 0, [], none)),
  (153, (.iadd, (154, 0, 0, 0, 0, 0), .inl 0, [], none)),
  (154, (.iastore, (155, 0, 0, 0, 0, 0), .inl 0, [], none)),
  (155, (.aload_n 0, (156, 0, 0, 0, 0, 0), .inl 0, [], none)),
  (156, (.getfield 26, (159, 13, 7, 2, 0, 0), .inl 0, [], none)),
  (159, (.bipush 16, (161, 0, 0, 0, 0, 0), .inl 0, [], none)),
  (161, (.iload_n 2, (162, 0, 0, 0, 0, 0), .inl 0, [], none)),
  (162, (.iadd, (163, 0, 0, 0, 0, 0), .inl 0, [], none)),
  (163, (.dup2, (164, 0, 0, 0, 0, 0), .inl 0, [], none)),
  (164, (.iaload, (165, 0, 0, 0, 0, 0), .inl 0, [], none)),
  (165, (.iconst 1, (166, 0, 0, 0, 0, 0), .inl 0, [], none)),
  (166, (.iadd, (167, 0, 0, 0, 0, 0), .inl 0, [], none)),
  (167, (.iastore, (168, 0, 0, 0, 0, 0), .inl 0, [], none)),
  (168, (.aload_n 0, (169, 0, 0, 0, 0, 0), .inl 0, [], none)),
  (169, (.dup, (170, 0, 0, 0, 0, 0), .inl 0, [], none)),
  (170, (.getfield 87, (173, 13, 8, 0, 0, 0), .inl 0, [], none)),
  (173, (.iconst 1, (174, 0, 0, 0, 0, 0), .inl 0, [], none)),
  (174, (.iadd, (175, 0, 0, 0, 0, 0), .inl 0, [], none)),
  (175, (.putfield 87, (178, 13, 8, 0, 0, 0), .inl 0, [], none)),
  (178, (.goto (-93), (181, 85, 0, 0, 0, 0), .inl 0, [], none)),
  (181, (.aload_n 0, (182, 0, 0, 0, 0, 0), .inl 0, [], none)),
  (182, (.getfield 26, (185, 13, 7, 2, 0, 0), .inl 0, [], none)),
  (185, (.iconst 2, (186, 0, 0, 0, 0, 0), .inl 0, [], none)),
  (186, (.dup2, (187, 0, 0, 0, 0, 0), .inl 0, [], none)),
  (187, (.iaload, (188, 0, 0, 0, 0, 0), .inl 0, [], none)),
  (188, (.iconst 1, (189, 0, 0, 0, 0, 0), .inl 0, [], none)),
  (189, (.iadd, (190, 0, 0, 0, 0, 0), .inl 0, [], none)),
  (190, (.iastore, (191, 0, 0, 0, 0, 0), .inl 0, [], none)),
  (191, (.aload_n 0, (192, 0, 0, 0, 0, 0), .inl 0, [], none)),
  (192, (.aload_n 0, (193, 0, 0, 0, 0, 0), .inl 0, [], none)),
  (193, (.getfield 87, (196, 13, 8, 0, 0, 0), .inl 0, [], none)),
  (196, (.invokevirtual 105, (199, 135, 2, 1, 2, 13), .inl 0, [], none)),
  (199, (.ifCond .eq 15, (202, 214, 0, 0, 0, 0), .inl 0, [], none)),
  (202, (.aload_n 0, (203, 0, 0, 0, 0, 0), .inl 0, [], none)),
  (203, (.iconst 0, (204, 0, 0, 0, 0, 0), .inl 0, [], none)),
  (204, (.aload_n 0, (205, 0, 0, 0, 0, 0), .inl 0, [], none)),
  (205, (.getfield 87, (208, 13, 8, 0, 0, 0), .inl 0, [], none)),
  (208, (.invokevirtual 108, (211, 133, 3, 1, 3, 13), .inl 0, [], none)),
  (211, (.ifCond .eq 7, (214, 218, 0, 0, 0, 0), .inl 0, [], none)),
  (214, (.iconst 1, (215, 0, 0, 0, 0, 0), .inl 0, [], none)),
  (215, (.goto 4, (218, 219, 0, 0, 0, 0), .inl 0, [], none)),
  (218, (.iconst 0, (219, 0, 0, 0, 0, 0), .inl 0, [], none)),
  (219, (.ireturn, (220, 3, 0, 0, 0, 0), .inl 0, [], none))]
def z_M_isRingHere : List (Nat × sk_E) := [
  (0, (.aload_n 0, (1, 0, 0, 0, 0, 0), .inl 0, [], none)),
  (1, (.invokevirtual 102, (4, 138, 1, 0, 1, 13), .inl 0, [], none)),
  (4, (.aload_n 0, (5, 0, 0, 0, 0, 0), .inl 0, [], none)),
  (5, (.invokevirtual 90, (8, 134, 1, 1, 1, 13), .inl 0, [], none)),
  (8, (.pop, (9, 0, 0, 0, 0, 0), .inl 0, [], none)),
  (9, (.aload_n 0, (10, 0, 0, 0, 0, 0), .inl 0, [], none)),
  (10, (.getfield 87, (13, 13, 8, 0, 0, 0), .inl 0, [], none)),
  (13, (.istore_n 1, (14, 0, 0, 0, 0, 0), .inl 0, [], none)),
  (14, (.aload_n 0, (15, 0, 0, 0, 0, 0), .inl 0, [], none)),
  (15, (.iconst 0, (16, 0, 0, 0, 0, 0), .inl 0, [], none)),
  (16, (.aload_n 0, (17, 0, 0, 0, 0, 0), .inl 0, [], none)),
  (17, (.getfield 26, (20, 13, 7, 2, 0, 0), .inl 0, [], none)),
  (20, (.iconst 2, (21, 0, 0, 0, 0, 0), .inl 0, [], none)),
  (21, (.iaload, (22, 0, 0, 0, 0, 0), .inl 0, [], none)),
  (22, (.iconst 1, (23, 0, 0, 0, 0, 0), .inl 0, [], none)),
  (23, (.isub, (24, 0, 0, 0, 0, 0), .inl 0, [], none)),
  (24, (.invokevirtual 162, (27, 140, 3, 1, 5, 13), .inl 0, [], none)),
  (27, (.ifCond .ne 5, (30, 32, 0, 0, 0, 0), .inl 0, [], none)),
  (30, (.iconst 0, (31, 0, 0, 0, 0, 0), .inl 0, [], none)),
  (31, (.ireturn, (32, 3, 0, 0, 0, 0), .inl 0, [], none)),
  (32, (.aload_n 0, (33, 0, 0, 0, 0, 0), .inl 0, [], none)),
  (33, (.getfield 26, (36, 13, 7, 2, 0, 0), .inl 0, [], none)),
  (36, (.bipush 16, (38, 0, 0, 0, 0, 0), .inl 0, [], none)),
  (38, (.aload_n 0, (39, 0, 0, 0, 0, 0), .inl 0, [], none)),
  (39, (.getfield 112, (42, 13, 10, 0, 0, 0), .inl 0, [], none)),
  (42, (.iadd, (43, 0, 0, 0, 0, 0), .inl 0, [], none)),
  (43, (.iaload, (44, 0, 0, 0, 0, 0), .inl 0, [], none)),
  (44, (.iconst 3, (45, 0, 0, 0, 0, 0), .inl 0, [], none)),
  (45, (.if_icmp .ge 10, (48, 55, 0, 0, 0, 0), .inl 0, [], none)),
  (48, (.aload_n 0, (49, 0, 0, 0, 0, 0), .inl 0, [], none)),
  (49, (.iconst 1, (50, 0, 0, 0, 0, 0), .inl 0, [], none)),
  (50, (.iload_n 1, (51, 0, 0, 0, 0, 0), .inl 0, [], none)),
  (51, (.invokevirtual 108, (54, 133, 3, 1, 3, 13), .inl 0, [], none)),
  (54, (.ireturn, (55, 3, 0, 0, 0, 0), .inl 0, [], none)),
  (55, (.aload_n 0, (56, 0, 0, 0, 0, 0), .inl 0, [], none)),
  (56, (.getfield 26, (59, 13, 7, 2, 0, 0), .inl 0, [], none)),
  (59, (.bipush 20, (61, 0, 0, 0, 0, 0), .inl 0, [], none)),
  (61, (.aload_n 0, (62, 0, 0, 0, 0, 0), .inl 0, [], none)),
  (62, (.getfield 112, (65, 13, 10, 0, 0, 0), .inl 0, [], none)),
  (65, (.iadd, (66, 0, 0, 0, 0, 0), .inl 0, [], none)),
  (66, (.iconst 1, (67, 0, 0, 0, 0, 0), .inl 0, [], none)),
  (67, (.iastore, (68, 0, 0, 0, 0, 0), .inl 0, [], none)),
  (68, (.iconst 1, (69, 0, 0, 0, 0, 0), .inl 0, [], none)),
  (69, (.ireturn, (70, 3, 0, 0, 0, 0), .inl 0, [], none))]
def z_M_isHitHere : List (Nat × sk_E) := [
  (0, (.aload_n 0, (1, 0, 0, 0, 0, 0), .inl 0, [], none)),
  (1, (.invokevirtual 102, (4, 138, 1, 0, 1, 13), .inl 0, [], none)),
  (4, (.aload_n 0, (5, 0, 0, 0, 0, 0), .inl 0, [], none)),
  (5, (.iconst 1, (6, 0, 0, 0, 0, 0), .inl 0, [], none)),
  (6, (.iconst 4, (7, 0, 0, 0, 0, 0), .inl 0, [], none)),
  (7, (.invokevirtual 162, (10, 140, 3, 1, 5, 13), .inl 0, [], none)),
  (10, (.ifCond .ne 5, (13, 15, 0, 0, 0, 0), .inl 0, [], none)),
  (13, (.iconst 0, (14, 0, 0, 0, 0, 0), .inl 0, [], none)),
  (14, (.ireturn, (15, 3, 0, 0, 0, 0), .inl 0, [], none)),
  (15, (.aload_n 0, (16, 0, 0, 0, 0, 0), .inl 0, [], none)),
  (16, (.getfield 26, (19, 13, 7, 2, 0, 0), .inl 0, [], none)),
  (19, (.iconst 3, (20, 0, 0, 0, 0, 0), .inl 0, [], none)),
  (20, (.dup2, (21, 0, 0, 0, 0, 0), .inl 0, [], none)),
  (21, (.iaload, (22, 0, 0, 0, 0, 0), .inl 0, [], none)),
  (22, (.iconst 1, (23, 0, 0, 0, 0, 0), .inl 0, [], none)),
  (23, (.aload_n 0, (24, 0, 0, 0, 0, 0), .inl 0, [], none)),
  (24, (.getfield 112, (27, 13, 10, 0, 0, 0), .inl 0, [], none)),
  (27, (.iconst 1, (28, 0, 0, 0, 0, 0), .inl 0, [], none)),
  (28, (.isub, (29, 0, 0, 0, 0, 0), .inl 0, [], none)),
  (29, (.ishl, (30, 0, 0, 0, 0, 0), .inl 0, [], none)),
  (30, (.ior, (31, 0, 0, 0, 0, 0), .inl 0, [], none)),
  (31, (.iastore, (32, 0, 0, 0, 0, 0), .inl 0, [], none)),
  (32, (.iconst 1, (33, 0, 0, 0, 0, 0), .inl 0, [], none)),
  (33, (.ireturn, (34, 3, 0, 0, 0, 0), .inl 0, [], none))]
def z_M_isOnceHere : List (Nat × sk_E) := [
  (0, (.aload_n 0, (1, 0, 0, 0, 0, 0), .inl 0, [], none)),
  (1, (.getfield 26, (4, 13, 7, 2, 0, 0), .inl 0, [], none)),
  (4, (.iload_n 1, (5, 0, 0, 0, 0, 0), .inl 0, [], none)),
  (5, (.iaload, (6, 0, 0, 0, 0, 0), .inl 0, [], none)),
  (6, (.ifCond .le 10, (9, 16, 0, 0, 0, 0), .inl 0, [], none)),
  (9, (.aload_n 0, (10, 0, 0, 0, 0, 0), .inl 0, [], none)),
  (10, (.iconst 4, (11, 0, 0, 0, 0, 0), .inl 0, [], none)),
  (11, (.iload_n 2, (12, 0, 0, 0, 0, 0), .inl 0, [], none)),
  (12, (.invokevirtual 108, (15, 133, 3, 1, 3, 13), .inl 0, [], none)),
  (15, (.ireturn, (16, 3, 0, 0, 0, 0), .inl 0, [], none)),
  (16, (.aload_n 0, (17, 0, 0, 0, 0, 0), .inl 0, [], none)),
  (17, (.invokevirtual 102, (20, 138, 1, 0, 1, 13), .inl 0, [], none)),
  (20, (.aload_n 0, (21, 0, 0, 0, 0, 0), .inl 0, [], none)),
  (21, (.getfield 26, (24, 13, 7, 2, 0, 0), .inl 0, [], none)),
  (24, (.iload_n 1, (25, 0, 0, 0, 0, 0), .inl 0, [], none)),
  (25, (.iconst 1, (26, 0, 0, 0, 0, 0), .inl 0, [], none)),
  (26, (.iastore, (27, 0, 0, 0, 0, 0), .inl 0, [], none)),
  (27, (.iconst 1, (28, 0, 0, 0, 0, 0), .inl 0, [], none)),
  (28, (.ireturn, (29, 3, 0, 0, 0, 0), .inl 0, [], none))]
def z_M_isStrayHere : List (Nat × sk_E) := [
  (0, (.aload_n 0, (1, 0, 0, 0, 0, 0), .inl 0, [], none)),
  (1, (.invokevirtual 102, (4, 138, 1, 0, 1, 13), .inl 0, [], none)),
  (4, (.aload_n 0, (5, 0, 0, 0, 0, 0), .inl 0, [], none)),
  (5, (.iconst 0, (6, 0, 0, 0, 0, 0), .inl 0, [], none)),
  (6, (.bipush 100, (8, 0, 0, 0, 0, 0), .inl 0, [], none)),
  (8, (.invokevirtual 162, (11, 140, 3, 1, 5, 13), .inl 0, [], none)),
  (11, (.ifCond .ne 5, (14, 16, 0, 0, 0, 0), .inl 0, [], none)),
  (14, (.iconst 0, (15, 0, 0, 0, 0, 0), .inl 0, [], none)),
  (15, (.ireturn, (16, 3, 0, 0, 0, 0), .inl 0, [], none)),
  (16, (.aload_n 0, (17, 0, 0, 0, 0, 0), .inl 0, [], none)),
  (17, (.getfield 26, (20, 13, 7, 2, 0, 0), .inl 0, [], none)),
  (20, (.bipush 6, (22, 0, 0, 0, 0, 0), .inl 0, [], none)),
  (22, (.aload_n 0, (23, 0, 0, 0, 0, 0), .inl 0, [], none)),
  (23, (.getfield 112, (26, 13, 10, 0, 0, 0), .inl 0, [], none)),
  (26, (.iastore, (27, 0, 0, 0, 0, 0), .inl 0, [], none)),
  (27, (.iconst 1, (28, 0, 0, 0, 0, 0), .inl 0, [], none)),
  (28, (.ireturn, (29, 3, 0, 0, 0, 0), .inl 0, [], none))]
def z_M_alleyLineHere : List (Nat × sk_E) := [
  (0, (.aload_n 0, (1, 0, 0, 0, 0, 0), .inl 0, [], none)),
  (1, (.ldc2_w 216, (4, 0, 0, 0, 0, 0), .inr (.inl (418430870905)), [], none)),
  (4, (.invokevirtual 98, (7, 137, 2, 1, 6, 13), .inl 0, [], none)),
  (7, (.ifCond .eq 9, (10, 16, 0, 0, 0, 0), .inl 0, [], none)),
  (10, (.aload_n 0, (11, 0, 0, 0, 0, 0), .inl 0, [], none)),
  (11, (.iload_n 1, (12, 0, 0, 0, 0, 0), .inl 0, [], none)),
  (12, (.invokevirtual 218, (15, 156, 2, 1, 2, 13), .inl 0, [], none)),
  (15, (.ireturn, (16, 3, 0, 0, 0, 0), .inl 0, [], none)),
  (16, (.aload_n 0, (17, 0, 0, 0, 0, 0), .inl 0, [], none)),
  (17, (.getfield 26, (20, 13, 7, 2, 0, 0), .inl 0, [], none)),
  (20, (.iconst 0, (21, 0, 0, 0, 0, 0), .inl 0, [], none)),
  (21, (.iaload, (22, 0, 0, 0, 0, 0), .inl 0, [], none)),
  (22, (.ifCond .ne 10, (25, 32, 0, 0, 0, 0), .inl 0, [], none)),
  (25, (.aload_n 0, (26, 0, 0, 0, 0, 0), .inl 0, [], none)),
  (26, (.iconst 4, (27, 0, 0, 0, 0, 0), .inl 0, [], none)),
  (27, (.iload_n 1, (28, 0, 0, 0, 0, 0), .inl 0, [], none)),
  (28, (.invokevirtual 108, (31, 133, 3, 1, 3, 13), .inl 0, [], none)),
  (31, (.ireturn, (32, 3, 0, 0, 0, 0), .inl 0, [], none)),
  (32, (.aload_n 0, (33, 0, 0, 0, 0, 0), .inl 0, [], none)),
  (33, (.ldc2_w 123, (36, 0, 0, 0, 0, 0), .inr (.inl (7499639)), [], none)),
  (36, (.invokevirtual 98, (39, 137, 2, 1, 6, 13), .inl 0, [], none)),
  (39, (.ifCond .eq 9, (42, 48, 0, 0, 0, 0), .inl 0, [], none)),
  (42, (.aload_n 0, (43, 0, 0, 0, 0, 0), .inl 0, [], none)),
  (43, (.iload_n 1, (44, 0, 0, 0, 0, 0), .inl 0, [], none)),
  (44, (.invokevirtual 221, (47, 158, 2, 1, 3, 13), .inl 0, [], none)),
  (47, (.ireturn, (48, 3, 0, 0, 0, 0), .inl 0, [], none)),
  (48, (.aload_n 0, (49, 0, 0, 0, 0, 0), .inl 0, [], none)),
  (49, (.ldc2_w 224, (52, 0, 0, 0, 0, 0), .inr (.inl (1919512167)), [], none)),
  (52, (.invokevirtual 98, (55, 137, 2, 1, 6, 13), .inl 0, [], none)),
  (55, (.ifCond .eq 8, (58, 63, 0, 0, 0, 0), .inl 0, [], none)),
  (58, (.aload_n 0, (59, 0, 0, 0, 0, 0), .inl 0, [], none)),
  (59, (.invokevirtual 226, (62, 159, 1, 1, 2, 13), .inl 0, [], none)),
  (62, (.ireturn, (63, 3, 0, 0, 0, 0), .inl 0, [], none)),
  (63, (.aload_n 0, (64, 0, 0, 0, 0, 0), .inl 0, [], none)),
  (64, (.ldc2_w 229, (67, 0, 0, 0, 0, 0), .inr (.inl (6842740)), [], none)),
  (67, (.invokevirtual 98, (70, 137, 2, 1, 6, 13), .inl 0, [], none)),
  (70, (.ifCond .eq 8, (73, 78, 0, 0, 0, 0), .inl 0, [], none)),
  (73, (.aload_n 0, (74, 0, 0, 0, 0, 0), .inl 0, [], none)),
  (74, (.invokevirtual 231, (77, 160, 1, 1, 1, 13), .inl 0, [], none)),
  (77, (.ireturn, (78, 3, 0, 0, 0, 0), .inl 0, [], none)),
  (78, (.aload_n 0, (79, 0, 0, 0, 0, 0), .inl 0, [], none)),
  (79, (.ldc2_w 234, (82, 0, 0, 0, 0, 0), .inr (.inl (1701733491)), [], none)),
  (82, (.invokevirtual 98, (85, 137, 2, 1, 6, 13), .inl 0, [], none)),
  (85, (.ifCond .eq 10, (88, 95, 0, 0, 0, 0), .inl 0, [], none)),
  (88, (.aload_n 0, (89, 0, 0, 0, 0, 0), .inl 0, [], none)),
  (89, (.iconst 4, (90, 0, 0, 0, 0, 0), .inl 0, [], none)),
  (90, (.iload_n 1, (91, 0, 0, 0, 0, 0), .inl 0, [], none)),
  (91, (.invokevirtual 236, (94, 161, 3, 1, 3, 13), .inl 0, [], none)),
  (94, (.ireturn, (95, 3, 0, 0, 0, 0), .inl 0, [], none)),
  (95, (.aload_n 0, (96, 0, 0, 0, 0, 0), .inl 0, [], none)),
  (96, (.ldc2_w 239, (99, 0, 0, 0, 0, 0), .inr (.inl (1818325876)), [], none)),
  (99, (.invokevirtual 98, (102, 137, 2, 1, 6, 13), .inl 0, [], none)),
  (102, (.ifCond .eq 12, (105, 114, 0, 0, 0, 0), .inl 0, [], none)),
  (105, (.aload_n 0, (106, 0, 0, 0, 0, 0), .inl 0, [], none)),
  (106, (.iconst 5, (107, 0, 0, 0, 0, 0), .inl 0, [], none)),
  (107, (.iload_n 1, (108, 0, 0, 0, 0, 0), .inl 0, [], none)),
  (108, (.invokevirtual 236, (111, 161, 3, 1, 3, 13), .inl 0, [], none)),
  (111, (.goto 7, (114, 118, 0, 0, 0, 0), .inl 0, [], none)),
  (114, (.aload_n 0, (115, 0, 0, 0, 0, 0), .inl 0, [], none)),
  (115, (.invokevirtual 241, (118, 162, 1, 1, 1, 13), .inl 0, [], none)),
  (118, (.ireturn, (119, 3, 0, 0, 0, 0), .inl 0, [], none))]
def z_M_isAlleyWord : List (Nat × sk_E) := [
  (0, (.aload_n 0, (1, 0, 0, 0, 0, 0), .inl 0, [], none)),
  (1, (.ldc2_w 216, (4, 0, 0, 0, 0, 0), .inr (.inl (418430870905)), [], none)),
  (4, (.invokevirtual 98, (7, 137, 2, 1, 6, 13), .inl 0, [], none)),
  (7, (.ifCond .ne 33, (10, 40, 0, 0, 0, 0), .inl 0, [], none)),
  (10, (.aload_n 0, (11, 0, 0, 0, 0, 0), .inl 0, [], none)),
  (11, (.ldc2_w 123, (14, 0, 0, 0, 0, 0), .inr (.inl (7499639)), [], none)),
  (14, (.invokevirtual 98, (17, 137, 2, 1, 6, 13), .inl 0, [], none)),
  (17, (.ifCond .ne 23, (20, 40, 0, 0, 0, 0), .inl 0, [], none)),
  (20, (.aload_n 0, (21, 0, 0, 0, 0, 0), .inl 0, [], none)),
  (21, (.ldc2_w 224, (24, 0, 0, 0, 0, 0), .inr (.inl (1919512167)), [], none)),
  (24, (.invokevirtual 98, (27, 137, 2, 1, 6, 13), .inl 0, [], none)),
  (27, (.ifCond .ne 13, (30, 40, 0, 0, 0, 0), .inl 0, [], none)),
  (30, (.aload_n 0, (31, 0, 0, 0, 0, 0), .inl 0, [], none)),
  (31, (.ldc2_w 229, (34, 0, 0, 0, 0, 0), .inr (.inl (6842740)), [], none)),
  (34, (.invokevirtual 98, (37, 137, 2, 1, 6, 13), .inl 0, [], none)),
  (37, (.ifCond .eq 7, (40, 44, 0, 0, 0, 0), .inl 0, [], none)),
  (40, (.iconst 1, (41, 0, 0, 0, 0, 0), .inl 0, [], none)),
  (41, (.goto 4, (44, 45, 0, 0, 0, 0), .inl 0, [], none)),
  (44, (.iconst 0, (45, 0, 0, 0, 0, 0), .inl 0, [], none)),
  (45, (.istore_n 1, (46, 0, 0, 0, 0, 0), .inl 0, [], some [true, false])),
  (46, (.iload_n 1, (47, 0, 0, 0, 0, 0), .inl 0, [], none)),
  (47, (.ifCond .ne 33, (50, 80, 0, 0, 0, 0), .inl 0, [], none)),
  (50, (.aload_n 0, (51, 0, 0, 0, 0, 0), .inl 0, [], none)),
  (51, (.ldc2_w 234, (54, 0, 0, 0, 0, 0), .inr (.inl (1701733491)), [], none)),
  (54, (.invokevirtual 98, (57, 137, 2, 1, 6, 13), .inl 0, [], none)),
  (57, (.ifCond .ne 23, (60, 80, 0, 0, 0, 0), .inl 0, [], none)),
  (60, (.aload_n 0, (61, 0, 0, 0, 0, 0), .inl 0, [], none)),
  (61, (.ldc2_w 239, (64, 0, 0, 0, 0, 0), .inr (.inl (1818325876)), [], none)),
  (64, (.invokevirtual 98, (67, 137, 2, 1, 6, 13), .inl 0, [], none)),
  (67, (.ifCond .ne 13, (70, 80, 0, 0, 0, 0), .inl 0, [], none)),
  (70, (.aload_n 0, (71, 0, 0, 0, 0, 0), .inl 0, [], none)),
  (71, (.ldc2_w 244, (74, 0, 0, 0, 0, 0), .inr (.inl (495874892153)), [], none)),
  (74, (.invokevirtual 98, (77, 137, 2, 1, 6, 13), .inl 0, [], none)),
  (77, (.ifCond .eq 7, (80, 84, 0, 0, 0, 0), .inl 0, [], none)),
  (80, (.iconst 1, (81, 0, 0, 0, 0, 0), .inl 0, [], none)),
  (81, (.goto 4, (84, 85, 0, 0, 0, 0), .inl 0, [], none)),
  (84, (.iconst 0, (85, 0, 0, 0, 0, 0), .inl 0, [], none)),
  (85, (.ireturn, (86, 3, 0, 0, 0, 0), .inl 0, [], none))]
def z_M_clauseHere : List (Nat × sk_E) := [
  (0, (.aload_n 0, (1, 0, 0, 0, 0, 0), .inl 0, [], none)),
  (1, (.invokevirtual 90, (4, 134, 1, 1, 1, 13), .inl 0, [], none)),
  (4, (.pop, (5, 0, 0, 0, 0, 0), .inl 0, [], none)),
  (5, (.aload_n 0, (6, 0, 0, 0, 0, 0), .inl 0, [], none)),
  (6, (.getfield 87, (9, 13, 8, 0, 0, 0), .inl 0, [], none)),
  (9, (.istore_n 1, (10, 0, 0, 0, 0, 0), .inl 0, [], none)),
  (10, (.aload_n 0, (11, 0, 0, 0, 0, 0), .inl 0, [], none)),
  (11, (.getfield 141, (14, 13, 11, 0, 0, 0), .inl 0, [], none)),
  (14, (.bipush 6, (16, 0, 0, 0, 0, 0), .inl 0, [], none)),
  (16, (.if_icmp .ne 7, (19, 23, 0, 0, 0, 0), .inl 0, [], none)),
  (19, (.iconst 1, (20, 0, 0, 0, 0, 0), .inl 0, [], none)),
  (20, (.goto 4, (23, 24, 0, 0, 0, 0), .inl 0, [], none)),
  (23, (.iconst 0, (24, 0, 0, 0, 0, 0), .inl 0, [], none)),
  (24, (.istore_n 2, (25, 0, 0, 0, 0, 0), .inl 0, [], some [true, true, false])),
  (25, (.iload_n 2, (26, 0, 0, 0, 0, 0), .inl 0, [], none)),
  (26, (.ifCond .eq 13, (29, 39, 0, 0, 0, 0), .inl 0, [], none)),
  (29, (.aload_n 0, (30, 0, 0, 0, 0, 0), .inl 0, [], none)),
  (30, (.invokevirtual 246, (33, 164, 1, 1, 2, 13), .inl 0, [], none)),
  (33, (.ifCond .ne 23, (36, 56, 0, 0, 0, 0), .inl 0, [], none)),
  (36, (.goto 13, (39, 49, 0, 0, 0, 0), .inl 0, [], none)),
  (39, (.aload_n 0, (40, 0, 0, 0, 0, 0), .inl 0, [], none)),
  (40, (.ldc2_w 249, (43, 0, 0, 0, 0, 0), .inr (.inl (126943973305189)), [], none)),
  (43, (.invokevirtual 98, (46, 137, 2, 1, 6, 13), .inl 0, [], none)),
  (46, (.ifCond .ne 10, (49, 56, 0, 0, 0, 0), .inl 0, [], none)),
  (49, (.aload_n 0, (50, 0, 0, 0, 0, 0), .inl 0, [], none)),
  (50, (.iconst 0, (51, 0, 0, 0, 0, 0), .inl 0, [], none)),
  (51, (.iload_n 1, (52, 0, 0, 0, 0, 0), .inl 0, [], none)),
  (52, (.invokevirtual 108, (55, 133, 3, 1, 3, 13), .inl 0, [], none)),
  (55, (.ireturn, (56, 3, 0, 0, 0, 0), .inl 0, [], none)),
  (56, (.aload_n 0, (57, 0, 0, 0, 0, 0), .inl 0, [], none)),
  (57, (.getfield 251, (60, 13, 14, 0, 0, 0), .inl 0, [], none)),
  (60, (.iload_n 2, (61, 0, 0, 0, 0, 0), .inl 0, [], none)),
  (61, (.ifCond .eq 8, (64, 69, 0, 0, 0, 0), .inl 0, [], none)),
  (64, (.bipush 40, (66, 0, 0, 0, 0, 0), .inl 0, [], none)),
  (66, (.goto 5, (69, 71, 0, 0, 0, 0), .inl 0, [], none)),
  (69, (.bipush 12, (71, 0, 0, 0, 0, 0), .inl 0, [], none)),
  (71, (.if_icmp .ne 10, (74, 81, 0, 0, 0, 0), .inl 0, [], some [true, true, true])),
  (74, (.aload_n 0, (75, 0, 0, 0, 0, 0), .inl 0, [], none)),
  (75, (.iconst 4, (76, 0, 0, 0, 0, 0), .inl 0, [], none)),
  (76, (.iload_n 1, (77, 0, 0, 0, 0, 0), .inl 0, [], none)),
  (77, (.invokevirtual 108, (80, 133, 3, 1, 3, 13), .inl 0, [], none)),
  (80, (.ireturn, (81, 3, 0, 0, 0, 0), .inl 0, [], none)),
  (81, (.aload_n 0, (82, 0, 0, 0, 0, 0), .inl 0, [], none)),
  (82, (.dup, (83, 0, 0, 0, 0, 0), .inl 0, [], none)),
  (83, (.getfield 251, (86, 13, 14, 0, 0, 0), .inl 0, [], none)),
  (86, (.iconst 1, (87, 0, 0, 0, 0, 0), .inl 0, [], none)),
  (87, (.iadd, (88, 0, 0, 0, 0, 0), .inl 0, [], none)),
  (88, (.putfield 251, (91, 13, 14, 0, 0, 0), .inl 0, [], none)),
  (91, (.iload_n 2, (92, 0, 0, 0, 0, 0), .inl 0, [], none)),
  (92, (.ifCond .eq 11, (95, 103, 0, 0, 0, 0), .inl 0, [], none)),
  (95, (.aload_n 0, (96, 0, 0, 0, 0, 0), .inl 0, [], none)),
  (96, (.iload_n 1, (97, 0, 0, 0, 0, 0), .inl 0, [], none)),
  (97, (.invokevirtual 254, (100, 163, 2, 1, 2, 13), .inl 0, [], none)),
  (100, (.goto 7, (103, 107, 0, 0, 0, 0), .inl 0, [], none)),
  (103, (.aload_n 0, (104, 0, 0, 0, 0, 0), .inl 0, [], none)),
  (104, (.invokevirtual 257, (107, 155, 1, 1, 2, 13), .inl 0, [], none)),
  (107, (.ireturn, (108, 3, 0, 0, 0, 0), .inl 0, [], none))]
def z_M_readsAll : List (Nat × sk_E) := [
  (0, (.aload_n 0, (1, 0, 0, 0, 0, 0), .inl 0, [], none)),
  (1, (.getfield 17, (4, 13, 4, 2, 0, 0), .inl 0, [], none)),
  (4, (.aload_n 0, (5, 0, 0, 0, 0, 0), .inl 0, [], none)),
  (5, (.getfield 141, (8, 13, 11, 0, 0, 0), .inl 0, [], none)),
  (8, (.iconst 0, (9, 0, 0, 0, 0, 0), .inl 0, [], none)),
  (9, (.iastore, (10, 0, 0, 0, 0, 0), .inl 0, [], none)),
  (10, (.aload_n 0, (11, 0, 0, 0, 0, 0), .inl 0, [], none)),
  (11, (.iconst 0, (12, 0, 0, 0, 0, 0), .inl 0, [], none)),
  (12, (.putfield 251, (15, 13, 14, 0, 0, 0), .inl 0, [], none)),
  (15, (.aload_n 0, (16, 0, 0, 0, 0, 0), .inl 0, [], none)),
  (16, (.iconst 0, (17, 0, 0, 0, 0, 0), .inl 0, [], none)),
  (17, (.putfield 87, (20, 13, 8, 0, 0, 0), .inl 0, [], none)),
  (20, (.aload_n 0, (21, 0, 0, 0, 0, 0), .inl 0, [], none)),
  (21, (.iconst 0, (22, 0, 0, 0, 0, 0), .inl 0, [], none)),
  (22, (.putfield 84, (25, 13, 9, 0, 0, 0), .inl 0, [], none)),
  (25, (.aload_n 0, (26, 0, 0, 0, 0, 0), .inl 0, [], none)),
  (26, (.iconst 0, (27, 0, 0, 0, 0, 0), .inl 0, [], none)),
  (27, (.putfield 144, (30, 13, 12, 0, 0, 0), .inl 0, [], none)),
  (30, (.aload_n 0, (31, 0, 0, 0, 0, 0), .inl 0, [], none)),
  (31, (.invokevirtual 260, (34, 165, 1, 1, 3, 13), .inl 0, [], none)),
  (34, (.istore_n 1, (35, 0, 0, 0, 0, 0), .inl 0, [], none)),
  (35, (.iload_n 1, (36, 0, 0, 0, 0, 0), .inl 0, [], some [true, true])),
  (36, (.ifCond .eq 30, (39, 66, 0, 0, 0, 0), .inl 0, [], none)),
  (39, (.aload_n 0, (40, 0, 0, 0, 0, 0), .inl 0, [], none)),
  (40, (.invokevirtual 90, (43, 134, 1, 1, 1, 13), .inl 0, [], none)),
  (43, (.bipush 59, (45, 0, 0, 0, 0, 0), .inl 0, [], none)),
  (45, (.if_icmp .ne 21, (48, 66, 0, 0, 0, 0), .inl 0, [], none)),
  (48, (.aload_n 0, (49, 0, 0, 0, 0, 0), .inl 0, [], none)),
  (49, (.dup, (50, 0, 0, 0, 0, 0), .inl 0, [], none)),
  (50, (.getfield 87, (53, 13, 8, 0, 0, 0), .inl 0, [], none)),
  (53, (.iconst 1, (54, 0, 0, 0, 0, 0), .inl 0, [], none)),
  (54, (.iadd, (55, 0, 0, 0, 0, 0), .inl 0, [], none)),
  (55, (.putfield 87, (58, 13, 8, 0, 0, 0), .inl 0, [], none)),
  (58, (.aload_n 0, (59, 0, 0, 0, 0, 0), .inl 0, [], none)),
  (59, (.invokevirtual 260, (62, 165, 1, 1, 3, 13), .inl 0, [], none)),
  (62, (.istore_n 1, (63, 0, 0, 0, 0, 0), .inl 0, [], none)),
  (63, (.goto (-28), (66, 35, 0, 0, 0, 0), .inl 0, [], none)),
  (66, (.iload_n 1, (67, 0, 0, 0, 0, 0), .inl 0, [], some [true, true])),
  (67, (.ifCond .eq 21, (70, 88, 0, 0, 0, 0), .inl 0, [], none)),
  (70, (.aload_n 0, (71, 0, 0, 0, 0, 0), .inl 0, [], none)),
  (71, (.invokevirtual 90, (74, 134, 1, 1, 1, 13), .inl 0, [], none)),
  (74, (.iconst (-1), (75, 0, 0, 0, 0, 0), .inl 0, [], none)),
  (75, (.if_icmp .eq 13, (78, 88, 0, 0, 0, 0), .inl 0, [], none)),
  (78, (.aload_n 0, (79, 0, 0, 0, 0, 0), .inl 0, [], none)),
  (79, (.iconst 0, (80, 0, 0, 0, 0, 0), .inl 0, [], none)),
  (80, (.aload_n 0, (81, 0, 0, 0, 0, 0), .inl 0, [], none)),
  (81, (.getfield 87, (84, 13, 8, 0, 0, 0), .inl 0, [], none)),
  (84, (.invokevirtual 108, (87, 133, 3, 1, 3, 13), .inl 0, [], none)),
  (87, (.pop, (88, 0, 0, 0, 0, 0), .inl 0, [], none)),
  (88, (.aload_n 0, (89, 0, 0, 0, 0, 0), .inl 0, [], some [true, false])),
  (89, (.iconst 0, (90, 0, 0, 0, 0, 0), .inl 0, [], none)),
  (90, (.putfield 77, (93, 13, 1, 0, 0, 0), .inl 0, [], none)),
  (93, (.aload_n 0, (94, 0, 0, 0, 0, 0), .inl 0, [], none)),
  (94, (.getfield 84, (97, 13, 9, 0, 0, 0), .inl 0, [], none)),
  (97, (.ifCond .ne 7, (100, 104, 0, 0, 0, 0), .inl 0, [], none)),
  (100, (.iconst 1, (101, 0, 0, 0, 0, 0), .inl 0, [], none)),
  (101, (.goto 4, (104, 105, 0, 0, 0, 0), .inl 0, [], none)),
  (104, (.iconst 0, (105, 0, 0, 0, 0, 0), .inl 0, [], none)),
  (105, (.ireturn, (106, 3, 0, 0, 0, 0), .inl 0, [], none))]
def z_M_rule : List (Nat × sk_E) := [
  (0, (.aload_n 0, (1, 0, 0, 0, 0, 0), .inl 0, [], none)),
  (1, (.getfield 263, (4, 13, 2, 0, 0, 0), .inl 0, [], none)),
  (4, (.bipush 6, (6, 0, 0, 0, 0, 0), .inl 0, [], none)),
  (6, (.if_icmp .ne 5, (9, 11, 0, 0, 0, 0), .inl 0, [], none)),
  (9, (.iconst (-1), (10, 0, 0, 0, 0, 0), .inl 0, [], none)),
  (10, (.ireturn, (11, 0, 0, 0, 0, 0), .inl 0, [], none)),
  (11, (.aload_n 0, (12, 0, 0, 0, 0, 0), .inl 0, [], none)),
  (12, (.aload_n 0, (13, 0, 0, 0, 0, 0), .inl 0, [], none)),
  (13, (.getfield 263, (16, 13, 2, 0, 0, 0), .inl 0, [], none)),
  (16, (.putfield 141, (19, 13, 11, 0, 0, 0), .inl 0, [], none)),
  (19, (.aload_n 0, (20, 0, 0, 0, 0, 0), .inl 0, [], none)),
  (20, (.getfield 23, (23, 13, 6, 2, 0, 0), .inl 0, [], none)),
  (23, (.aload_n 0, (24, 0, 0, 0, 0, 0), .inl 0, [], none)),
  (24, (.getfield 141, (27, 13, 11, 0, 0, 0), .inl 0, [], none)),
  (27, (.iconst 0, (28, 0, 0, 0, 0, 0), .inl 0, [], none)),
  (28, (.iastore, (29, 0, 0, 0, 0, 0), .inl 0, [], none)),
  (29, (.aload_n 0, (30, 0, 0, 0, 0, 0), .inl 0, [], none)),
  (30, (.invokevirtual 266, (33, 166, 1, 1, 2, 13), .inl 0, [], none)),
  (33, (.ifCond .ne 11, (36, 44, 0, 0, 0, 0), .inl 0, [], none)),
  (36, (.bipush (-2), (38, 0, 0, 0, 0, 0), .inl 0, [], none)),
  (38, (.aload_n 0, (39, 0, 0, 0, 0, 0), .inl 0, [], none)),
  (39, (.getfield 84, (42, 13, 9, 0, 0, 0), .inl 0, [], none)),
  (42, (.isub, (43, 0, 0, 0, 0, 0), .inl 0, [], none)),
  (43, (.ireturn, (44, 0, 0, 0, 0, 0), .inl 0, [], none)),
  (44, (.aload_n 0, (45, 0, 0, 0, 0, 0), .inl 0, [], none)),
  (45, (.dup, (46, 0, 0, 0, 0, 0), .inl 0, [], none)),
  (46, (.getfield 263, (49, 13, 2, 0, 0, 0), .inl 0, [], none)),
  (49, (.iconst 1, (50, 0, 0, 0, 0, 0), .inl 0, [], none)),
  (50, (.iadd, (51, 0, 0, 0, 0, 0), .inl 0, [], none)),
  (51, (.putfield 263, (54, 13, 2, 0, 0, 0), .inl 0, [], none)),
  (54, (.aload_n 0, (55, 0, 0, 0, 0, 0), .inl 0, [], none)),
  (55, (.getfield 263, (58, 13, 2, 0, 0, 0), .inl 0, [], none)),
  (58, (.iconst 1, (59, 0, 0, 0, 0, 0), .inl 0, [], none)),
  (59, (.isub, (60, 0, 0, 0, 0, 0), .inl 0, [], none)),
  (60, (.ireturn, (61, 0, 0, 0, 0, 0), .inl 0, [], none))]
def z_M_alley : List (Nat × sk_E) := [
  (0, (.aload_n 0, (1, 0, 0, 0, 0, 0), .inl 0, [], none)),
  (1, (.bipush 6, (3, 0, 0, 0, 0, 0), .inl 0, [], none)),
  (3, (.putfield 141, (6, 13, 11, 0, 0, 0), .inl 0, [], none)),
  (6, (.iconst 0, (7, 0, 0, 0, 0, 0), .inl 0, [], none)),
  (7, (.istore_n 1, (8, 0, 0, 0, 0, 0), .inl 0, [], none)),
  (8, (.iload_n 1, (9, 0, 0, 0, 0, 0), .inl 0, [], some [true, true])),
  (9, (.bipush 24, (11, 0, 0, 0, 0, 0), .inl 0, [], none)),
  (11, (.if_icmp .ge 16, (14, 27, 0, 0, 0, 0), .inl 0, [], none)),
  (14, (.aload_n 0, (15, 0, 0, 0, 0, 0), .inl 0, [], none)),
  (15, (.getfield 26, (18, 13, 7, 2, 0, 0), .inl 0, [], none)),
  (18, (.iload_n 1, (19, 0, 0, 0, 0, 0), .inl 0, [], none)),
  (19, (.iconst 0, (20, 0, 0, 0, 0, 0), .inl 0, [], none)),
  (20, (.iastore, (21, 0, 0, 0, 0, 0), .inl 0, [], none)),
  (21, (.iinc 1 1, (24, 0, 0, 0, 0, 0), .inl 0, [], none)),
  (24, (.goto (-16), (27, 8, 0, 0, 0, 0), .inl 0, [], none)),
  (27, (.aload_n 0, (28, 0, 0, 0, 0, 0), .inl 0, [], none)),
  (28, (.invokevirtual 266, (31, 166, 1, 1, 2, 13), .inl 0, [], none)),
  (31, (.ifCond .ne 11, (34, 42, 0, 0, 0, 0), .inl 0, [], none)),
  (34, (.bipush (-2), (36, 0, 0, 0, 0, 0), .inl 0, [], none)),
  (36, (.aload_n 0, (37, 0, 0, 0, 0, 0), .inl 0, [], none)),
  (37, (.getfield 84, (40, 13, 9, 0, 0, 0), .inl 0, [], none)),
  (40, (.isub, (41, 0, 0, 0, 0, 0), .inl 0, [], none)),
  (41, (.ireturn, (42, 0, 0, 0, 0, 0), .inl 0, [], none)),
  (42, (.iconst 0, (43, 0, 0, 0, 0, 0), .inl 0, [], none)),
  (43, (.istore_n 1, (44, 0, 0, 0, 0, 0), .inl 0, [], none)),
  (44, (.iload_n 1, (45, 0, 0, 0, 0, 0), .inl 0, [], some [true, true])),
  (45, (.sipush 184, (48, 0, 0, 0, 0, 0), .inl 0, [], none)),
  (48, (.if_icmp .ge 31, (51, 79, 0, 0, 0, 0), .inl 0, [], none)),
  (51, (.aload_n 0, (52, 0, 0, 0, 0, 0), .inl 0, [], none)),
  (52, (.getfield 39, (55, 13, 20, 2, 0, 0), .inl 0, [], none)),
  (55, (.iload_n 1, (56, 0, 0, 0, 0, 0), .inl 0, [], none)),
  (56, (.iload_n 1, (57, 0, 0, 0, 0, 0), .inl 0, [], none)),
  (57, (.bipush 24, (59, 0, 0, 0, 0, 0), .inl 0, [], none)),
  (59, (.if_icmp .ge 12, (62, 71, 0, 0, 0, 0), .inl 0, [], none)),
  (62, (.aload_n 0, (63, 0, 0, 0, 0, 0), .inl 0, [], none)),
  (63, (.getfield 26, (66, 13, 7, 2, 0, 0), .inl 0, [], none)),
  (66, (.iload_n 1, (67, 0, 0, 0, 0, 0), .inl 0, [], none)),
  (67, (.iaload, (68, 0, 0, 0, 0, 0), .inl 0, [], none)),
  (68, (.goto 4, (71, 72, 0, 0, 0, 0), .inl 0, [], none)),
  (71, (.iconst 0, (72, 0, 0, 0, 0, 0), .inl 0, [], none)),
  (72, (.iastore, (73, 0, 0, 0, 0, 0), .inl 0, [], none)),
  (73, (.iinc 1 1, (76, 0, 0, 0, 0, 0), .inl 0, [], none)),
  (76, (.goto (-32), (79, 44, 0, 0, 0, 0), .inl 0, [], none)),
  (79, (.aload_n 0, (80, 0, 0, 0, 0, 0), .inl 0, [], none)),
  (80, (.getfield 39, (83, 13, 20, 2, 0, 0), .inl 0, [], none)),
  (83, (.iconst 3, (84, 0, 0, 0, 0, 0), .inl 0, [], none)),
  (84, (.iaload, (85, 0, 0, 0, 0, 0), .inl 0, [], none)),
  (85, (.ifCond .ne 10, (88, 95, 0, 0, 0, 0), .inl 0, [], none)),
  (88, (.aload_n 0, (89, 0, 0, 0, 0, 0), .inl 0, [], none)),
  (89, (.getfield 39, (92, 13, 20, 2, 0, 0), .inl 0, [], none)),
  (92, (.iconst 3, (93, 0, 0, 0, 0, 0), .inl 0, [], none)),
  (93, (.iconst 3, (94, 0, 0, 0, 0, 0), .inl 0, [], none)),
  (94, (.iastore, (95, 0, 0, 0, 0, 0), .inl 0, [], none)),
  (95, (.aload_n 0, (96, 0, 0, 0, 0, 0), .inl 0, [], none)),
  (96, (.iconst 0, (97, 0, 0, 0, 0, 0), .inl 0, [], none)),
  (97, (.putfield 269, (100, 13, 25, 0, 0, 0), .inl 0, [], none)),
  (100, (.aload_n 0, (101, 0, 0, 0, 0, 0), .inl 0, [], none)),
  (101, (.iconst (-1), (102, 0, 0, 0, 0, 0), .inl 0, [], none)),
  (102, (.putfield 46, (105, 13, 23, 0, 0, 0), .inl 0, [], none)),
  (105, (.aload_n 0, (106, 0, 0, 0, 0, 0), .inl 0, [], none)),
  (106, (.getfield 39, (109, 13, 20, 2, 0, 0), .inl 0, [], none)),
  (109, (.iconst 1, (110, 0, 0, 0, 0, 0), .inl 0, [], none)),
  (110, (.iaload, (111, 0, 0, 0, 0, 0), .inl 0, [], none)),
  (111, (.ireturn, (112, 0, 0, 0, 0, 0), .inl 0, [], none))]
def z_M_isRule : List (Nat × sk_E) := [
  (0, (.iload_n 1, (1, 0, 0, 0, 0, 0), .inl 0, [], none)),
  (1, (.ifCond .lt 15, (4, 16, 0, 0, 0, 0), .inl 0, [], none)),
  (4, (.iload_n 1, (5, 0, 0, 0, 0, 0), .inl 0, [], none)),
  (5, (.aload_n 0, (6, 0, 0, 0, 0, 0), .inl 0, [], none)),
  (6, (.getfield 263, (9, 13, 2, 0, 0, 0), .inl 0, [], none)),
  (9, (.if_icmp .ge 7, (12, 16, 0, 0, 0, 0), .inl 0, [], none)),
  (12, (.iconst 1, (13, 0, 0, 0, 0, 0), .inl 0, [], none)),
  (13, (.goto 4, (16, 17, 0, 0, 0, 0), .inl 0, [], none)),
  (16, (.iconst 0, (17, 0, 0, 0, 0, 0), .inl 0, [], none)),
  (17, (.ireturn, (18, 3, 0, 0, 0, 0), .inl 0, [], none))]
def z_M_push : List (Nat × sk_E) := [
  (0, (.aload_n 0, (1, 0, 0, 0, 0, 0), .inl 0, [], none)),
  (1, (.getfield 32, (4, 13, 17, 2, 0, 0), .inl 0, [], none)),
  (4, (.aload_n 0, (5, 0, 0, 0, 0, 0), .inl 0, [], none)),
  (5, (.getfield 272, (8, 13, 18, 0, 0, 0), .inl 0, [], none)),
  (8, (.lload_n 1, (9, 0, 0, 0, 0, 0), .inl 0, [], none)),
  (9, (.lastore, (10, 0, 0, 0, 0, 0), .inl 0, [], none)),
  (10, (.aload_n 0, (11, 0, 0, 0, 0, 0), .inl 0, [], none)),
  (11, (.dup, (12, 0, 0, 0, 0, 0), .inl 0, [], none)),
  (12, (.getfield 272, (15, 13, 18, 0, 0, 0), .inl 0, [], none)),
  (15, (.iconst 1, (16, 0, 0, 0, 0, 0), .inl 0, [], none)),
  (16, (.iadd, (17, 0, 0, 0, 0, 0), .inl 0, [], none)),
  (17, (.putfield 272, (20, 13, 18, 0, 0, 0), .inl 0, [], none)),
  (20, (.return_, (21, 0, 0, 0, 0, 0), .inl 0, [], none))]
def z_M_pop : List (Nat × sk_E) := [
  (0, (.aload_n 0, (1, 0, 0, 0, 0, 0), .inl 0, [], none)),
  (1, (.dup, (2, 0, 0, 0, 0, 0), .inl 0, [], none)),
  (2, (.getfield 272, (5, 13, 18, 0, 0, 0), .inl 0, [], none)),
  (5, (.iconst 1, (6, 0, 0, 0, 0, 0), .inl 0, [], none)),
  (6, (.isub, (7, 0, 0, 0, 0, 0), .inl 0, [], none)),
  (7, (.putfield 272, (10, 13, 18, 0, 0, 0), .inl 0, [], none)),
  (10, (.aload_n 0, (11, 0, 0, 0, 0, 0), .inl 0, [], none)),
  (11, (.getfield 32, (14, 13, 17, 2, 0, 0), .inl 0, [], none)),
  (14, (.aload_n 0, (15, 0, 0, 0, 0, 0), .inl 0, [], none)),
  (15, (.getfield 272, (18, 13, 18, 0, 0, 0), .inl 0, [], none)),
  (18, (.laload, (19, 0, 0, 0, 0, 0), .inl 0, [], none)),
  (19, (.lreturn, (20, 0, 0, 0, 0, 0), .inl 0, [], none))]
def z_M_one : List (Nat × sk_E) := [
  (0, (.iload_n 0, (1, 0, 0, 0, 0, 0), .inl 0, [], none)),
  (1, (.tableswitch 171 2 14 #[67, 71, 75, 79, 107, 119, 131, 143, 155, 171, 167, 171, 93], (68, 172, 0, 0, 0, 0), .inl 0, [(2, 68), (3, 72), (4, 76), (5, 80), (6, 108), (7, 120), (8, 132), (9, 144), (10, 156), (11, 172), (12, 168), (13, 172), (14, 94)], none)),
  (68, (.lload_n 1, (69, 0, 0, 0, 0, 0), .inl 0, [], none)),
  (69, (.lload_n 3, (70, 0, 0, 0, 0, 0), .inl 0, [], none)),
  (70, (.ladd, (71, 0, 0, 0, 0, 0), .inl 0, [], none)),
  (71, (.lreturn, (72, 0, 0, 0, 0, 0), .inl 0, [], none)),
  (72, (.lload_n 1, (73, 0, 0, 0, 0, 0), .inl 0, [], none)),
  (73, (.lload_n 3, (74, 0, 0, 0, 0, 0), .inl 0, [], none)),
  (74, (.lsub, (75, 0, 0, 0, 0, 0), .inl 0, [], none)),
  (75, (.lreturn, (76, 0, 0, 0, 0, 0), .inl 0, [], none)),
  (76, (.lload_n 1, (77, 0, 0, 0, 0, 0), .inl 0, [], none)),
  (77, (.lload_n 3, (78, 0, 0, 0, 0, 0), .inl 0, [], none)),
  (78, (.lmul, (79, 0, 0, 0, 0, 0), .inl 0, [], none)),
  (79, (.lreturn, (80, 0, 0, 0, 0, 0), .inl 0, [], none)),
  (80, (.lload_n 3, (81, 0, 0, 0, 0, 0), .inl 0, [], none)),
  (81, (.lconst 0, (82, 0, 0, 0, 0, 0), .inl 0, [], none)),
  (82, (.lcmp, (83, 0, 0, 0, 0, 0), .inl 0, [], none)),
  (83, (.ifCond .ne 7, (86, 90, 0, 0, 0, 0), .inl 0, [], none)),
  (86, (.lconst 0, (87, 0, 0, 0, 0, 0), .inl 0, [], none)),
  (87, (.goto 6, (90, 93, 0, 0, 0, 0), .inl 0, [], none)),
  (90, (.lload_n 1, (91, 0, 0, 0, 0, 0), .inl 0, [], none)),
  (91, (.lload_n 3, (92, 0, 0, 0, 0, 0), .inl 0, [], none)),
  (92, (.ldiv, (93, 0, 0, 0, 0, 0), .inl 0, [], none)),
  (93, (.lreturn, (94, 0, 0, 0, 0, 0), .inl 0, [], none)),
  (94, (.lload_n 3, (95, 0, 0, 0, 0, 0), .inl 0, [], none)),
  (95, (.lconst 0, (96, 0, 0, 0, 0, 0), .inl 0, [], none)),
  (96, (.lcmp, (97, 0, 0, 0, 0, 0), .inl 0, [], none)),
  (97, (.ifCond .ne 7, (100, 104, 0, 0, 0, 0), .inl 0, [], none)),
  (100, (.lconst 0, (101, 0, 0, 0, 0, 0), .inl 0, [], none)),
  (101, (.goto 6, (104, 107, 0, 0, 0, 0), .inl 0, [], none)),
  (104, (.lload_n 1, (105, 0, 0, 0, 0, 0), .inl 0, [], none)),
  (105, (.lload_n 3, (106, 0, 0, 0, 0, 0), .inl 0, [], none)),
  (106, (.lrem, (107, 0, 0, 0, 0, 0), .inl 0, [], none)),
  (107, (.lreturn, (108, 0, 0, 0, 0, 0), .inl 0, [], none)),
  (108, (.lload_n 1, (109, 0, 0, 0, 0, 0), .inl 0, [], none)),
  (109, (.lload_n 3, (110, 0, 0, 0, 0, 0), .inl 0, [], none)),
  (110, (.lcmp, (111, 0, 0, 0, 0, 0), .inl 0, [], none)),
  (111, (.ifCond .ge 7, (114, 118, 0, 0, 0, 0), .inl 0, [], none)),
  (114, (.lconst 1, (115, 0, 0, 0, 0, 0), .inl 0, [], none)),
  (115, (.goto 4, (118, 119, 0, 0, 0, 0), .inl 0, [], none)),
  (118, (.lconst 0, (119, 0, 0, 0, 0, 0), .inl 0, [], none)),
  (119, (.lreturn, (120, 0, 0, 0, 0, 0), .inl 0, [], none)),
  (120, (.lload_n 1, (121, 0, 0, 0, 0, 0), .inl 0, [], none)),
  (121, (.lload_n 3, (122, 0, 0, 0, 0, 0), .inl 0, [], none)),
  (122, (.lcmp, (123, 0, 0, 0, 0, 0), .inl 0, [], none)),
  (123, (.ifCond .gt 7, (126, 130, 0, 0, 0, 0), .inl 0, [], none)),
  (126, (.lconst 1, (127, 0, 0, 0, 0, 0), .inl 0, [], none)),
  (127, (.goto 4, (130, 131, 0, 0, 0, 0), .inl 0, [], none)),
  (130, (.lconst 0, (131, 0, 0, 0, 0, 0), .inl 0, [], none)),
  (131, (.lreturn, (132, 0, 0, 0, 0, 0), .inl 0, [], none)),
  (132, (.lload_n 1, (133, 0, 0, 0, 0, 0), .inl 0, [], none)),
  (133, (.lload_n 3, (134, 0, 0, 0, 0, 0), .inl 0, [], none)),
  (134, (.lcmp, (135, 0, 0, 0, 0, 0), .inl 0, [], none)),
  (135, (.ifCond .ne 7, (138, 142, 0, 0, 0, 0), .inl 0, [], none)),
  (138, (.lconst 1, (139, 0, 0, 0, 0, 0), .inl 0, [], none)),
  (139, (.goto 4, (142, 143, 0, 0, 0, 0), .inl 0, [], none)),
  (142, (.lconst 0, (143, 0, 0, 0, 0, 0), .inl 0, [], none)),
  (143, (.lreturn, (144, 0, 0, 0, 0, 0), .inl 0, [], none)),
  (144, (.lload_n 1, (145, 0, 0, 0, 0, 0), .inl 0, [], none)),
  (145, (.lload_n 3, (146, 0, 0, 0, 0, 0), .inl 0, [], none)),
  (146, (.lcmp, (147, 0, 0, 0, 0, 0), .inl 0, [], none)),
  (147, (.ifCond .lt 7, (150, 154, 0, 0, 0, 0), .inl 0, [], none)),
  (150, (.lconst 1, (151, 0, 0, 0, 0, 0), .inl 0, [], none)),
  (151, (.goto 4, (154, 155, 0, 0, 0, 0), .inl 0, [], none)),
  (154, (.lconst 0, (155, 0, 0, 0, 0, 0), .inl 0, [], none)),
  (155, (.lreturn, (156, 0, 0, 0, 0, 0), .inl 0, [], none)),
  (156, (.lload_n 1, (157, 0, 0, 0, 0, 0), .inl 0, [], none)),
  (157, (.lload_n 3, (158, 0, 0, 0, 0, 0), .inl 0, [], none)),
  (158, (.lcmp, (159, 0, 0, 0, 0, 0), .inl 0, [], none)),
  (159, (.ifCond .le 7, (162, 166, 0, 0, 0, 0), .inl 0, [], none)),
  (162, (.lconst 1, (163, 0, 0, 0, 0, 0), .inl 0, [], none)),
  (163, (.goto 4, (166, 167, 0, 0, 0, 0), .inl 0, [], none)),
  (166, (.lconst 0, (167, 0, 0, 0, 0, 0), .inl 0, [], none)),
  (167, (.lreturn, (168, 0, 0, 0, 0, 0), .inl 0, [], none)),
  (168, (.lload_n 1, (169, 0, 0, 0, 0, 0), .inl 0, [], none)),
  (169, (.lload_n 3, (170, 0, 0, 0, 0, 0), .inl 0, [], none)),
  (170, (.land, (171, 0, 0, 0, 0, 0), .inl 0, [], none)),
  (171, (.lreturn, (172, 0, 0, 0, 0, 0), .inl 0, [], none)),
  (172, (.lload_n 1, (173, 0, 0, 0, 0, 0), .inl 0, [], none)),
  (173, (.lload_n 3, (174, 0, 0, 0, 0, 0), .inl 0, [], none)),
  (174, (.lor, (175, 0, 0, 0, 0, 0), .inl 0, [], none)),
  (175, (.lreturn, (176, 0, 0, 0, 0, 0), .inl 0, [], none))]
def z_M_reckons : List (Nat × sk_E) := [
  (0, (.aload_n 0, (1, 0, 0, 0, 0, 0), .inl 0, [], none)),
  (1, (.iconst 0, (2, 0, 0, 0, 0, 0), .inl 0, [], none)),
  (2, (.putfield 272, (5, 13, 18, 0, 0, 0), .inl 0, [], none)),
  (5, (.iload_n 2, (6, 0, 0, 0, 0, 0), .inl 0, [], none)),
  (6, (.istore 4, (8, 0, 0, 0, 0, 0), .inl 0, [], none)),
  (8, (.iload 4, (10, 0, 0, 0, 0, 0), .inl 0, [], some [true, true, false, true, true, false, false, false, false, false, false])),
  (10, (.iload_n 3, (11, 0, 0, 0, 0, 0), .inl 0, [], none)),
  (11, (.if_icmp .ge 124, (14, 135, 0, 0, 0, 0), .inl 0, [], none)),
  (14, (.aload_n 0, (15, 0, 0, 0, 0, 0), .inl 0, [], none)),
  (15, (.getfield 13, (18, 13, 3, 2, 0, 0), .inl 0, [], none)),
  (18, (.sipush 400, (21, 0, 0, 0, 0, 0), .inl 0, [], none)),
  (21, (.iload_n 1, (22, 0, 0, 0, 0, 0), .inl 0, [], none)),
  (22, (.imul, (23, 0, 0, 0, 0, 0), .inl 0, [], none)),
  (23, (.iload 4, (25, 0, 0, 0, 0, 0), .inl 0, [], none)),
  (25, (.iadd, (26, 0, 0, 0, 0, 0), .inl 0, [], none)),
  (26, (.iaload, (27, 0, 0, 0, 0, 0), .inl 0, [], none)),
  (27, (.bipush 15, (29, 0, 0, 0, 0, 0), .inl 0, [], none)),
  (29, (.iand, (30, 0, 0, 0, 0, 0), .inl 0, [], none)),
  (30, (.istore 5, (32, 0, 0, 0, 0, 0), .inl 0, [], none)),
  (32, (.aload_n 0, (33, 0, 0, 0, 0, 0), .inl 0, [], none)),
  (33, (.getfield 13, (36, 13, 3, 2, 0, 0), .inl 0, [], none)),
  (36, (.sipush 400, (39, 0, 0, 0, 0, 0), .inl 0, [], none)),
  (39, (.iload_n 1, (40, 0, 0, 0, 0, 0), .inl 0, [], none)),
  (40, (.imul, (41, 0, 0, 0, 0, 0), .inl 0, [], none)),
  (41, (.iload 4, (43, 0, 0, 0, 0, 0), .inl 0, [], none)),
  (43, (.iadd, (44, 0, 0, 0, 0, 0), .inl 0, [], none)),
  (44, (.iaload, (45, 0, 0, 0, 0, 0), .inl 0, [], none)),
  (45, (.iconst 4, (46, 0, 0, 0, 0, 0), .inl 0, [], none)),
  (46, (.ishr, (47, 0, 0, 0, 0, 0), .inl 0, [], none)),
  (47, (.istore 6, (49, 0, 0, 0, 0, 0), .inl 0, [], none)),
  (49, (.iload 5, (51, 0, 0, 0, 0, 0), .inl 0, [], none)),
  (51, (.ifCond .ne 13, (54, 64, 0, 0, 0, 0), .inl 0, [], none)),
  (54, (.aload_n 0, (55, 0, 0, 0, 0, 0), .inl 0, [], none)),
  (55, (.iload 6, (57, 0, 0, 0, 0, 0), .inl 0, [], none)),
  (57, (.i2l, (58, 0, 0, 0, 0, 0), .inl 0, [], none)),
  (58, (.invokevirtual 275, (61, 170, 2, 0, 3, 13), .inl 0, [], none)),
  (61, (.goto 68, (64, 129, 0, 0, 0, 0), .inl 0, [], none)),
  (64, (.iload 5, (66, 0, 0, 0, 0, 0), .inl 0, [], none)),
  (66, (.iconst 1, (67, 0, 0, 0, 0, 0), .inl 0, [], none)),
  (67, (.if_icmp .ne 17, (70, 84, 0, 0, 0, 0), .inl 0, [], none)),
  (70, (.aload_n 0, (71, 0, 0, 0, 0, 0), .inl 0, [], none)),
  (71, (.aload_n 0, (72, 0, 0, 0, 0, 0), .inl 0, [], none)),
  (72, (.getfield 36, (75, 13, 19, 2, 0, 0), .inl 0, [], none)),
  (75, (.iload 6, (77, 0, 0, 0, 0, 0), .inl 0, [], none)),
  (77, (.laload, (78, 0, 0, 0, 0, 0), .inl 0, [], none)),
  (78, (.invokevirtual 275, (81, 170, 2, 0, 3, 13), .inl 0, [], none)),
  (81, (.goto 48, (84, 129, 0, 0, 0, 0), .inl 0, [], none)),
  (84, (.iload 5, (86, 0, 0, 0, 0, 0), .inl 0, [], none)),
  (86, (.bipush 11, (88, 0, 0, 0, 0, 0), .inl 0, [], none)),
  (88, (.if_icmp .ne 16, (91, 104, 0, 0, 0, 0), .inl 0, [], none)),
  (91, (.aload_n 0, (92, 0, 0, 0, 0, 0), .inl 0, [], none)),
  (92, (.lconst 1, (93, 0, 0, 0, 0, 0), .inl 0, [], none)),
  (93, (.aload_n 0, (94, 0, 0, 0, 0, 0), .inl 0, [], none)),
  (94, (.invokevirtual 279, (97, 171, 1, 2, 1, 13), .inl 0, [], none)),
  (97, (.lsub, (98, 0, 0, 0, 0, 0), .inl 0, [], none)),
  (98, (.invokevirtual 275, (101, 170, 2, 0, 3, 13), .inl 0, [], none)),
  (101, (.goto 28, (104, 129, 0, 0, 0, 0), .inl 0, [], none)),
  (104, (.aload_n 0, (105, 0, 0, 0, 0, 0), .inl 0, [], none)),
  (105, (.invokevirtual 279, (108, 171, 1, 2, 1, 13), .inl 0, [], none)),
  (108, (.lstore 7, (110, 0, 0, 0, 0, 0), .inl 0, [], none)),
  (110, (.aload_n 0, (111, 0, 0, 0, 0, 0), .inl 0, [], none)),
  (111, (.invokevirtual 279, (114, 171, 1, 2, 1, 13), .inl 0, [], none)),
  (114, (.lstore 9, (116, 0, 0, 0, 0, 0), .inl 0, [], none)),
  (116, (.aload_n 0, (117, 0, 0, 0, 0, 0), .inl 0, [], none)),
  (117, (.iload 5, (119, 0, 0, 0, 0, 0), .inl 0, [], none)),
  (119, (.lload 9, (121, 0, 0, 0, 0, 0), .inl 0, [], none)),
  (121, (.lload 7, (123, 0, 0, 0, 0, 0), .inl 0, [], none)),
  (123, (.invokestatic 283, (126, 172, 3, 2, 5, 0), .inl 0, [], none)),
  (126, (.invokevirtual 275, (129, 170, 2, 0, 3, 13), .inl 0, [], none)),
  (129, (.iinc 4 1, (132, 0, 0, 0, 0, 0), .inl 0, [], none)),
  (132, (.goto (-124), (135, 8, 0, 0, 0, 0), .inl 0, [], none)),
  (135, (.aload_n 0, (136, 0, 0, 0, 0, 0), .inl 0, [], none)),
  (136, (.invokevirtual 279, (139, 171, 1, 2, 1, 13), .inl 0, [], none)),
  (139, (.lreturn, (140, 0, 0, 0, 0, 0), .inl 0, [], none))]
def z_M_isAlley : List (Nat × sk_E) := [
  (0, (.aload_n 0, (1, 0, 0, 0, 0, 0), .inl 0, [], none)),
  (1, (.getfield 39, (4, 13, 20, 2, 0, 0), .inl 0, [], none)),
  (4, (.iconst 0, (5, 0, 0, 0, 0, 0), .inl 0, [], none)),
  (5, (.iaload, (6, 0, 0, 0, 0, 0), .inl 0, [], none)),
  (6, (.iconst 1, (7, 0, 0, 0, 0, 0), .inl 0, [], none)),
  (7, (.if_icmp .ne 7, (10, 14, 0, 0, 0, 0), .inl 0, [], none)),
  (10, (.iconst 1, (11, 0, 0, 0, 0, 0), .inl 0, [], none)),
  (11, (.goto 4, (14, 15, 0, 0, 0, 0), .inl 0, [], none)),
  (14, (.iconst 0, (15, 0, 0, 0, 0, 0), .inl 0, [], none)),
  (15, (.ireturn, (16, 3, 0, 0, 0, 0), .inl 0, [], none))]
def z_M_isPlace : List (Nat × sk_E) := [
  (0, (.iload_n 1, (1, 0, 0, 0, 0, 0), .inl 0, [], none)),
  (1, (.ifCond .lt 17, (4, 18, 0, 0, 0, 0), .inl 0, [], none)),
  (4, (.iload_n 1, (5, 0, 0, 0, 0, 0), .inl 0, [], none)),
  (5, (.aload_n 0, (6, 0, 0, 0, 0, 0), .inl 0, [], none)),
  (6, (.getfield 39, (9, 13, 20, 2, 0, 0), .inl 0, [], none)),
  (9, (.iconst 1, (10, 0, 0, 0, 0, 0), .inl 0, [], none)),
  (10, (.iaload, (11, 0, 0, 0, 0, 0), .inl 0, [], none)),
  (11, (.if_icmp .ge 7, (14, 18, 0, 0, 0, 0), .inl 0, [], none)),
  (14, (.iconst 1, (15, 0, 0, 0, 0, 0), .inl 0, [], none)),
  (15, (.goto 4, (18, 19, 0, 0, 0, 0), .inl 0, [], none)),
  (18, (.iconst 0, (19, 0, 0, 0, 0, 0), .inl 0, [], none)),
  (19, (.ireturn, (20, 3, 0, 0, 0, 0), .inl 0, [], none))]
def z_M_rowOf : List (Nat × sk_E) := [
  (0, (.aload_n 0, (1, 0, 0, 0, 0, 0), .inl 0, [], none)),
  (1, (.getfield 39, (4, 13, 20, 2, 0, 0), .inl 0, [], none)),
  (4, (.iconst 2, (5, 0, 0, 0, 0, 0), .inl 0, [], none)),
  (5, (.iaload, (6, 0, 0, 0, 0, 0), .inl 0, [], none)),
  (6, (.iconst 1, (7, 0, 0, 0, 0, 0), .inl 0, [], none)),
  (7, (.isub, (8, 0, 0, 0, 0, 0), .inl 0, [], none)),
  (8, (.istore_n 2, (9, 0, 0, 0, 0, 0), .inl 0, [], none)),
  (9, (.aload_n 0, (10, 0, 0, 0, 0, 0), .inl 0, [], some [true, true, true])),
  (10, (.getfield 39, (13, 13, 20, 2, 0, 0), .inl 0, [], none)),
  (13, (.bipush 12, (15, 0, 0, 0, 0, 0), .inl 0, [], none)),
  (15, (.iload_n 2, (16, 0, 0, 0, 0, 0), .inl 0, [], none)),
  (16, (.iadd, (17, 0, 0, 0, 0, 0), .inl 0, [], none)),
  (17, (.iaload, (18, 0, 0, 0, 0, 0), .inl 0, [], none)),
  (18, (.iload_n 1, (19, 0, 0, 0, 0, 0), .inl 0, [], none)),
  (19, (.if_icmp .le 9, (22, 28, 0, 0, 0, 0), .inl 0, [], none)),
  (22, (.iinc 2 (-1), (25, 0, 0, 0, 0, 0), .inl 0, [], none)),
  (25, (.goto (-16), (28, 9, 0, 0, 0, 0), .inl 0, [], none)),
  (28, (.iload_n 2, (29, 0, 0, 0, 0, 0), .inl 0, [], none)),
  (29, (.ireturn, (30, 0, 0, 0, 0, 0), .inl 0, [], none))]
def z_M_beside : List (Nat × sk_E) := [
  (0, (.aload_n 0, (1, 0, 0, 0, 0, 0), .inl 0, [], none)),
  (1, (.iload_n 1, (2, 0, 0, 0, 0, 0), .inl 0, [], none)),
  (2, (.invokevirtual 287, (5, 176, 2, 1, 3, 13), .inl 0, [], none)),
  (5, (.istore_n 3, (6, 0, 0, 0, 0, 0), .inl 0, [], none)),
  (6, (.iload_n 1, (7, 0, 0, 0, 0, 0), .inl 0, [], none)),
  (7, (.aload_n 0, (8, 0, 0, 0, 0, 0), .inl 0, [], none)),
  (8, (.getfield 39, (11, 13, 20, 2, 0, 0), .inl 0, [], none)),
  (11, (.bipush 12, (13, 0, 0, 0, 0, 0), .inl 0, [], none)),
  (13, (.iload_n 3, (14, 0, 0, 0, 0, 0), .inl 0, [], none)),
  (14, (.iadd, (15, 0, 0, 0, 0, 0), .inl 0, [], none)),
  (15, (.iaload, (16, 0, 0, 0, 0, 0), .inl 0, [], none)),
  (16, (.isub, (17, 0, 0, 0, 0, 0), .inl 0, [], none)),
  (17, (.iload_n 2, (18, 0, 0, 0, 0, 0), .inl 0, [], none)),
  (18, (.iadd, (19, 0, 0, 0, 0, 0), .inl 0, [], none)),
  (19, (.istore 4, (21, 0, 0, 0, 0, 0), .inl 0, [], none)),
  (21, (.iload 4, (23, 0, 0, 0, 0, 0), .inl 0, [], none)),
  (23, (.ifCond .lt 17, (26, 40, 0, 0, 0, 0), .inl 0, [], none)),
  (26, (.iload 4, (28, 0, 0, 0, 0, 0), .inl 0, [], none)),
  (28, (.aload_n 0, (29, 0, 0, 0, 0, 0), .inl 0, [], none)),
  (29, (.getfield 39, (32, 13, 20, 2, 0, 0), .inl 0, [], none)),
  (32, (.bipush 16, (34, 0, 0, 0, 0, 0), .inl 0, [], none)),
  (34, (.iload_n 3, (35, 0, 0, 0, 0, 0), .inl 0, [], none)),
  (35, (.iadd, (36, 0, 0, 0, 0, 0), .inl 0, [], none)),
  (36, (.iaload, (37, 0, 0, 0, 0, 0), .inl 0, [], none)),
  (37, (.if_icmp .lt 39, (40, 76, 0, 0, 0, 0), .inl 0, [], none)),
  (40, (.aload_n 0, (41, 0, 0, 0, 0, 0), .inl 0, [], some [true, false, false, true, true])),
  (41, (.getfield 39, (44, 13, 20, 2, 0, 0), .inl 0, [], none)),
  (44, (.bipush 20, (46, 0, 0, 0, 0, 0), .inl 0, [], none)),
  (46, (.iload_n 3, (47, 0, 0, 0, 0, 0), .inl 0, [], none)),
  (47, (.iadd, (48, 0, 0, 0, 0, 0), .inl 0, [], none)),
  (48, (.iaload, (49, 0, 0, 0, 0, 0), .inl 0, [], none)),
  (49, (.ifCond .ne 5, (52, 54, 0, 0, 0, 0), .inl 0, [], none)),
  (52, (.iconst (-1), (53, 0, 0, 0, 0, 0), .inl 0, [], none)),
  (53, (.ireturn, (54, 0, 0, 0, 0, 0), .inl 0, [], none)),
  (54, (.iload 4, (56, 0, 0, 0, 0, 0), .inl 0, [], none)),
  (56, (.ifCond .ge 17, (59, 73, 0, 0, 0, 0), .inl 0, [], none)),
  (59, (.aload_n 0, (60, 0, 0, 0, 0, 0), .inl 0, [], none)),
  (60, (.getfield 39, (63, 13, 20, 2, 0, 0), .inl 0, [], none)),
  (63, (.bipush 16, (65, 0, 0, 0, 0, 0), .inl 0, [], none)),
  (65, (.iload_n 3, (66, 0, 0, 0, 0, 0), .inl 0, [], none)),
  (66, (.iadd, (67, 0, 0, 0, 0, 0), .inl 0, [], none)),
  (67, (.iaload, (68, 0, 0, 0, 0, 0), .inl 0, [], none)),
  (68, (.iconst 1, (69, 0, 0, 0, 0, 0), .inl 0, [], none)),
  (69, (.isub, (70, 0, 0, 0, 0, 0), .inl 0, [], none)),
  (70, (.goto 4, (73, 74, 0, 0, 0, 0), .inl 0, [], none)),
  (73, (.iconst 0, (74, 0, 0, 0, 0, 0), .inl 0, [], none)),
  (74, (.istore 4, (76, 0, 0, 0, 0, 0), .inl 0, [], none)),
  (76, (.aload_n 0, (77, 0, 0, 0, 0, 0), .inl 0, [], none)),
  (77, (.getfield 39, (80, 13, 20, 2, 0, 0), .inl 0, [], none)),
  (80, (.bipush 12, (82, 0, 0, 0, 0, 0), .inl 0, [], none)),
  (82, (.iload_n 3, (83, 0, 0, 0, 0, 0), .inl 0, [], none)),
  (83, (.iadd, (84, 0, 0, 0, 0, 0), .inl 0, [], none)),
  (84, (.iaload, (85, 0, 0, 0, 0, 0), .inl 0, [], none)),
  (85, (.iload 4, (87, 0, 0, 0, 0, 0), .inl 0, [], none)),
  (87, (.iadd, (88, 0, 0, 0, 0, 0), .inl 0, [], none)),
  (88, (.ireturn, (89, 0, 0, 0, 0, 0), .inl 0, [], none))]
def z_M_strokeBits : List (Nat × sk_E) := [
  (0, (.iconst 0, (1, 0, 0, 0, 0, 0), .inl 0, [], none)),
  (1, (.istore_n 3, (2, 0, 0, 0, 0, 0), .inl 0, [], none)),
  (2, (.iload_n 1, (3, 0, 0, 0, 0, 0), .inl 0, [], none)),
  (3, (.istore 4, (5, 0, 0, 0, 0, 0), .inl 0, [], none)),
  (5, (.iconst 0, (6, 0, 0, 0, 0, 0), .inl 0, [], none)),
  (6, (.istore 5, (8, 0, 0, 0, 0, 0), .inl 0, [], none)),
  (8, (.iload 5, (10, 0, 0, 0, 0, 0), .inl 0, [], some [true, false, true, true, true, true])),
  (10, (.iload_n 2, (11, 0, 0, 0, 0, 0), .inl 0, [], none)),
  (11, (.if_icmp .ge 41, (14, 52, 0, 0, 0, 0), .inl 0, [], none)),
  (14, (.iload 4, (16, 0, 0, 0, 0, 0), .inl 0, [], none)),
  (16, (.ifCond .lt 12, (19, 28, 0, 0, 0, 0), .inl 0, [], none)),
  (19, (.iload_n 3, (20, 0, 0, 0, 0, 0), .inl 0, [], none)),
  (20, (.iload 4, (22, 0, 0, 0, 0, 0), .inl 0, [], none)),
  (22, (.invokestatic 290, (25, 128, 2, 1, 2, 0), .inl 0, [], none)),
  (25, (.ifCond .eq 5, (28, 30, 0, 0, 0, 0), .inl 0, [], none)),
  (28, (.iconst 0, (29, 0, 0, 0, 0, 0), .inl 0, [], none)),
  (29, (.ireturn, (30, 0, 0, 0, 0, 0), .inl 0, [], none)),
  (30, (.iload_n 3, (31, 0, 0, 0, 0, 0), .inl 0, [], none)),
  (31, (.iconst 1, (32, 0, 0, 0, 0, 0), .inl 0, [], none)),
  (32, (.iload 4, (34, 0, 0, 0, 0, 0), .inl 0, [], none)),
  (34, (.ishl, (35, 0, 0, 0, 0, 0), .inl 0, [], none)),
  (35, (.ior, (36, 0, 0, 0, 0, 0), .inl 0, [], none)),
  (36, (.istore_n 3, (37, 0, 0, 0, 0, 0), .inl 0, [], none)),
  (37, (.aload_n 0, (38, 0, 0, 0, 0, 0), .inl 0, [], none)),
  (38, (.iload 4, (40, 0, 0, 0, 0, 0), .inl 0, [], none)),
  (40, (.iconst 1, (41, 0, 0, 0, 0, 0), .inl 0, [], none)),
  (41, (.invokevirtual 293, (44, 177, 3, 1, 5, 13), .inl 0, [], none)),
  (44, (.istore 4, (46, 0, 0, 0, 0, 0), .inl 0, [], none)),
  (46, (.iinc 5 1, (49, 0, 0, 0, 0, 0), .inl 0, [], none)),
  (49, (.goto (-41), (52, 8, 0, 0, 0, 0), .inl 0, [], none)),
  (52, (.iload_n 3, (53, 0, 0, 0, 0, 0), .inl 0, [], none)),
  (53, (.ireturn, (54, 0, 0, 0, 0, 0), .inl 0, [], none))]
def z_M_lastOf : List (Nat × sk_E) := [
  (0, (.iload_n 1, (1, 0, 0, 0, 0, 0), .inl 0, [], none)),
  (1, (.istore_n 3, (2, 0, 0, 0, 0, 0), .inl 0, [], none)),
  (2, (.iconst 1, (3, 0, 0, 0, 0, 0), .inl 0, [], none)),
  (3, (.istore 4, (5, 0, 0, 0, 0, 0), .inl 0, [], none)),
  (5, (.iload 4, (7, 0, 0, 0, 0, 0), .inl 0, [], some [true, false, true, true, true])),
  (7, (.iload_n 2, (8, 0, 0, 0, 0, 0), .inl 0, [], none)),
  (8, (.if_icmp .ge 16, (11, 24, 0, 0, 0, 0), .inl 0, [], none)),
  (11, (.aload_n 0, (12, 0, 0, 0, 0, 0), .inl 0, [], none)),
  (12, (.iload_n 3, (13, 0, 0, 0, 0, 0), .inl 0, [], none)),
  (13, (.iconst 1, (14, 0, 0, 0, 0, 0), .inl 0, [], none)),
  (14, (.invokevirtual 293, (17, 177, 3, 1, 5, 13), .inl 0, [], none)),
  (17, (.istore_n 3, (18, 0, 0, 0, 0, 0), .inl 0, [], none)),
  (18, (.iinc 4 1, (21, 0, 0, 0, 0, 0), .inl 0, [], none)),
  (21, (.goto (-16), (24, 5, 0, 0, 0, 0), .inl 0, [], none)),
  (24, (.iload_n 3, (25, 0, 0, 0, 0, 0), .inl 0, [], none)),
  (25, (.ireturn, (26, 0, 0, 0, 0, 0), .inl 0, [], none))]
def z_M_canBe : List (Nat × sk_E) := [
  (0, (.iload 4, (2, 0, 0, 0, 0, 0), .inl 0, [], none)),
  (2, (.iload_n 3, (3, 0, 0, 0, 0, 0), .inl 0, [], none)),
  (3, (.iconst 1, (4, 0, 0, 0, 0, 0), .inl 0, [], none)),
  (4, (.isub, (5, 0, 0, 0, 0, 0), .inl 0, [], none)),
  (5, (.invokestatic 290, (8, 128, 2, 1, 2, 0), .inl 0, [], none)),
  (8, (.ifCond .ne 5, (11, 13, 0, 0, 0, 0), .inl 0, [], none)),
  (11, (.iconst 0, (12, 0, 0, 0, 0, 0), .inl 0, [], none)),
  (12, (.ireturn, (13, 3, 0, 0, 0, 0), .inl 0, [], none)),
  (13, (.aload_n 0, (14, 0, 0, 0, 0, 0), .inl 0, [], none)),
  (14, (.iload_n 2, (15, 0, 0, 0, 0, 0), .inl 0, [], none)),
  (15, (.iload_n 3, (16, 0, 0, 0, 0, 0), .inl 0, [], none)),
  (16, (.invokevirtual 297, (19, 178, 3, 1, 6, 13), .inl 0, [], none)),
  (19, (.istore 6, (21, 0, 0, 0, 0, 0), .inl 0, [], none)),
  (21, (.iload 6, (23, 0, 0, 0, 0, 0), .inl 0, [], none)),
  (23, (.ifCond .eq 12, (26, 35, 0, 0, 0, 0), .inl 0, [], none)),
  (26, (.iload_n 1, (27, 0, 0, 0, 0, 0), .inl 0, [], none)),
  (27, (.iload 6, (29, 0, 0, 0, 0, 0), .inl 0, [], none)),
  (29, (.iand, (30, 0, 0, 0, 0, 0), .inl 0, [], none)),
  (30, (.iload 6, (32, 0, 0, 0, 0, 0), .inl 0, [], none)),
  (32, (.if_icmp .eq 5, (35, 37, 0, 0, 0, 0), .inl 0, [], none)),
  (35, (.iconst 0, (36, 0, 0, 0, 0, 0), .inl 0, [], none)),
  (36, (.ireturn, (37, 3, 0, 0, 0, 0), .inl 0, [], none)),
  (37, (.iload 5, (39, 0, 0, 0, 0, 0), .inl 0, [], none)),
  (39, (.ifCond .ne 5, (42, 44, 0, 0, 0, 0), .inl 0, [], none)),
  (42, (.iconst 1, (43, 0, 0, 0, 0, 0), .inl 0, [], none)),
  (43, (.ireturn, (44, 3, 0, 0, 0, 0), .inl 0, [], none)),
  (44, (.aload_n 0, (45, 0, 0, 0, 0, 0), .inl 0, [], none)),
  (45, (.iload_n 2, (46, 0, 0, 0, 0, 0), .inl 0, [], none)),
  (46, (.iconst (-1), (47, 0, 0, 0, 0, 0), .inl 0, [], none)),
  (47, (.invokevirtual 293, (50, 177, 3, 1, 5, 13), .inl 0, [], none)),
  (50, (.istore 7, (52, 0, 0, 0, 0, 0), .inl 0, [], none)),
  (52, (.aload_n 0, (53, 0, 0, 0, 0, 0), .inl 0, [], none)),
  (53, (.aload_n 0, (54, 0, 0, 0, 0, 0), .inl 0, [], none)),
  (54, (.iload_n 2, (55, 0, 0, 0, 0, 0), .inl 0, [], none)),
  (55, (.iload_n 3, (56, 0, 0, 0, 0, 0), .inl 0, [], none)),
  (56, (.invokevirtual 300, (59, 179, 3, 1, 5, 13), .inl 0, [], none)),
  (59, (.iconst 1, (60, 0, 0, 0, 0, 0), .inl 0, [], none)),
  (60, (.invokevirtual 293, (63, 177, 3, 1, 5, 13), .inl 0, [], none)),
  (63, (.istore 8, (65, 0, 0, 0, 0, 0), .inl 0, [], none)),
  (65, (.iload_n 1, (66, 0, 0, 0, 0, 0), .inl 0, [], none)),
  (66, (.iload 6, (68, 0, 0, 0, 0, 0), .inl 0, [], none)),
  (68, (.iconst (-1), (69, 0, 0, 0, 0, 0), .inl 0, [], none)),
  (69, (.ixor, (70, 0, 0, 0, 0, 0), .inl 0, [], none)),
  (70, (.iand, (71, 0, 0, 0, 0, 0), .inl 0, [], none)),
  (71, (.istore 9, (73, 0, 0, 0, 0, 0), .inl 0, [], none)),
  (73, (.iload 7, (75, 0, 0, 0, 0, 0), .inl 0, [], none)),
  (75, (.ifCond .lt 28, (78, 103, 0, 0, 0, 0), .inl 0, [], none)),
  (78, (.iload 9, (80, 0, 0, 0, 0, 0), .inl 0, [], none)),
  (80, (.iload 7, (82, 0, 0, 0, 0, 0), .inl 0, [], none)),
  (82, (.invokestatic 290, (85, 128, 2, 1, 2, 0), .inl 0, [], none)),
  (85, (.ifCond .eq 18, (88, 103, 0, 0, 0, 0), .inl 0, [], none)),
  (88, (.iload 8, (90, 0, 0, 0, 0, 0), .inl 0, [], none)),
  (90, (.ifCond .lt 13, (93, 103, 0, 0, 0, 0), .inl 0, [], none)),
  (93, (.iload 9, (95, 0, 0, 0, 0, 0), .inl 0, [], none)),
  (95, (.iload 8, (97, 0, 0, 0, 0, 0), .inl 0, [], none)),
  (97, (.invokestatic 290, (100, 128, 2, 1, 2, 0), .inl 0, [], none)),
  (100, (.ifCond .ne 7, (103, 107, 0, 0, 0, 0), .inl 0, [], none)),
  (103, (.iconst 1, (104, 0, 0, 0, 0, 0), .inl 0, [], none)),
  (104, (.goto 4, (107, 108, 0, 0, 0, 0), .inl 0, [], none)),
  (107, (.iconst 0, (108, 0, 0, 0, 0, 0), .inl 0, [], none)),
  (108, (.ireturn, (109, 3, 0, 0, 0, 0), .inl 0, [], none))]
def z_M_canBeNow : List (Nat × sk_E) := [
  (0, (.aload_n 0, (1, 0, 0, 0, 0, 0), .inl 0, [], none)),
  (1, (.iload_n 1, (2, 0, 0, 0, 0, 0), .inl 0, [], none)),
  (2, (.iload_n 2, (3, 0, 0, 0, 0, 0), .inl 0, [], none)),
  (3, (.iload_n 3, (4, 0, 0, 0, 0, 0), .inl 0, [], none)),
  (4, (.aload_n 0, (5, 0, 0, 0, 0, 0), .inl 0, [], none)),
  (5, (.getfield 39, (8, 13, 20, 2, 0, 0), .inl 0, [], none)),
  (8, (.iconst 3, (9, 0, 0, 0, 0, 0), .inl 0, [], none)),
  (9, (.iaload, (10, 0, 0, 0, 0, 0), .inl 0, [], none)),
  (10, (.aload_n 0, (11, 0, 0, 0, 0, 0), .inl 0, [], none)),
  (11, (.getfield 39, (14, 13, 20, 2, 0, 0), .inl 0, [], none)),
  (14, (.iconst 4, (15, 0, 0, 0, 0, 0), .inl 0, [], none)),
  (15, (.iaload, (16, 0, 0, 0, 0, 0), .inl 0, [], none)),
  (16, (.iconst 1, (17, 0, 0, 0, 0, 0), .inl 0, [], none)),
  (17, (.if_icmp .ne 7, (20, 24, 0, 0, 0, 0), .inl 0, [], none)),
  (20, (.iconst 1, (21, 0, 0, 0, 0, 0), .inl 0, [], none)),
  (21, (.goto 4, (24, 25, 0, 0, 0, 0), .inl 0, [], none)),
  (24, (.iconst 0, (25, 0, 0, 0, 0, 0), .inl 0, [], none)),
  (25, (.invokevirtual 303, (28, 180, 6, 1, 10, 13), .inl 0, [], none)),
  (28, (.ireturn, (29, 3, 0, 0, 0, 0), .inl 0, [], none))]
def z_M_fillsWon : List (Nat × sk_E) := [
  (0, (.iload_n 1, (1, 0, 0, 0, 0, 0), .inl 0, [], none)),
  (1, (.bipush 16, (3, 0, 0, 0, 0, 0), .inl 0, [], none)),
  (3, (.iload_n 2, (4, 0, 0, 0, 0, 0), .inl 0, [], none)),
  (4, (.imul, (5, 0, 0, 0, 0, 0), .inl 0, [], none)),
  (5, (.iadd, (6, 0, 0, 0, 0, 0), .inl 0, [], none)),
  (6, (.bipush 32, (8, 0, 0, 0, 0, 0), .inl 0, [], none)),
  (8, (.iload_n 3, (9, 0, 0, 0, 0, 0), .inl 0, [], none)),
  (9, (.imul, (10, 0, 0, 0, 0, 0), .inl 0, [], none)),
  (10, (.iadd, (11, 0, 0, 0, 0, 0), .inl 0, [], none)),
  (11, (.istore 4, (13, 0, 0, 0, 0, 0), .inl 0, [], none)),
  (13, (.aload_n 0, (14, 0, 0, 0, 0, 0), .inl 0, [], none)),
  (14, (.getfield 46, (17, 13, 23, 0, 0, 0), .inl 0, [], none)),
  (17, (.iload 4, (19, 0, 0, 0, 0, 0), .inl 0, [], none)),
  (19, (.if_icmp .ne 4, (22, 23, 0, 0, 0, 0), .inl 0, [], none)),
  (22, (.return_, (23, 0, 0, 0, 0, 0), .inl 0, [], none)),
  (23, (.aload_n 0, (24, 0, 0, 0, 0, 0), .inl 0, [], none)),
  (24, (.iload 4, (26, 0, 0, 0, 0, 0), .inl 0, [], none)),
  (26, (.putfield 46, (29, 13, 23, 0, 0, 0), .inl 0, [], none)),
  (29, (.iconst 0, (30, 0, 0, 0, 0, 0), .inl 0, [], none)),
  (30, (.istore 5, (32, 0, 0, 0, 0, 0), .inl 0, [], none)),
  (32, (.iload 5, (34, 0, 0, 0, 0, 0), .inl 0, [], some [true, true, true, true, false, true, false, false, false, false])),
  (34, (.iconst 1, (35, 0, 0, 0, 0, 0), .inl 0, [], none)),
  (35, (.aload_n 0, (36, 0, 0, 0, 0, 0), .inl 0, [], none)),
  (36, (.getfield 39, (39, 13, 20, 2, 0, 0), .inl 0, [], none)),
  (39, (.iconst 1, (40, 0, 0, 0, 0, 0), .inl 0, [], none)),
  (40, (.iaload, (41, 0, 0, 0, 0, 0), .inl 0, [], none)),
  (41, (.ishl, (42, 0, 0, 0, 0, 0), .inl 0, [], none)),
  (42, (.if_icmp .ge 145, (45, 187, 0, 0, 0, 0), .inl 0, [], none)),
  (45, (.iconst 0, (46, 0, 0, 0, 0, 0), .inl 0, [], none)),
  (46, (.istore 6, (48, 0, 0, 0, 0, 0), .inl 0, [], none)),
  (48, (.iconst 1, (49, 0, 0, 0, 0, 0), .inl 0, [], none)),
  (49, (.istore 7, (51, 0, 0, 0, 0, 0), .inl 0, [], none)),
  (51, (.iconst 0, (52, 0, 0, 0, 0, 0), .inl 0, [], none)),
  (52, (.istore 8, (54, 0, 0, 0, 0, 0), .inl 0, [], none)),
  (54, (.iload 8, (56, 0, 0, 0, 0, 0), .inl 0, [], some [true, true, true, true, false, true, true, true, true, false])),
  (56, (.aload_n 0, (57, 0, 0, 0, 0, 0), .inl 0, [], none)),
  (57, (.getfield 39, (60, 13, 20, 2, 0, 0), .inl 0, [], none)),
  (60, (.iconst 1, (61, 0, 0, 0, 0, 0), .inl 0, [], none)),
  (61, (.iaload, (62, 0, 0, 0, 0, 0), .inl 0, [], none)),
  (62, (.if_icmp .ge 92, (65, 154, 0, 0, 0, 0), .inl 0, [], none)),
  (65, (.iload 6, (67, 0, 0, 0, 0, 0), .inl 0, [], none)),
  (67, (.ifCond .ne 87, (70, 154, 0, 0, 0, 0), .inl 0, [], none)),
  (70, (.iconst 1, (71, 0, 0, 0, 0, 0), .inl 0, [], none)),
  (71, (.istore 9, (73, 0, 0, 0, 0, 0), .inl 0, [], none)),
  (73, (.iload 9, (75, 0, 0, 0, 0, 0), .inl 0, [], some [true, true, true, true, false, true, true, true, true, true])),
  (75, (.iconst 4, (76, 0, 0, 0, 0, 0), .inl 0, [], none)),
  (76, (.if_icmp .gt 72, (79, 148, 0, 0, 0, 0), .inl 0, [], none)),
  (79, (.aload_n 0, (80, 0, 0, 0, 0, 0), .inl 0, [], none)),
  (80, (.iload 5, (82, 0, 0, 0, 0, 0), .inl 0, [], none)),
  (82, (.iload 8, (84, 0, 0, 0, 0, 0), .inl 0, [], none)),
  (84, (.iload 9, (86, 0, 0, 0, 0, 0), .inl 0, [], none)),
  (86, (.iload_n 1, (87, 0, 0, 0, 0, 0), .inl 0, [], none)),
  (87, (.iload_n 2, (88, 0, 0, 0, 0, 0), .inl 0, [], none)),
  (88, (.iconst 1, (89, 0, 0, 0, 0, 0), .inl 0, [], none)),
  (89, (.if_icmp .ne 7, (92, 96, 0, 0, 0, 0), .inl 0, [], none)),
  (92, (.iconst 1, (93, 0, 0, 0, 0, 0), .inl 0, [], none)),
  (93, (.goto 4, (96, 97, 0, 0, 0, 0), .inl 0, [], none)),
  (96, (.iconst 0, (97, 0, 0, 0, 0, 0), .inl 0, [], none)),
  (97, (.invokevirtual 303, (100, 180, 6, 1, 10, 13), .inl 0, [], some [true, true, true, true, false, true, true, true, true, true])),
  (100, (.ifCond .ne 6, (103, 106, 0, 0, 0, 0), .inl 0, [], none)),
  (103, (.goto 39, (106, 142, 0, 0, 0, 0), .inl 0, [], none)),
  (106, (.iconst 0, (107, 0, 0, 0, 0, 0), .inl 0, [], none)),
  (107, (.istore 7, (109, 0, 0, 0, 0, 0), .inl 0, [], none)),
  (109, (.iload 6, (111, 0, 0, 0, 0, 0), .inl 0, [], none)),
  (111, (.ifCond .ne 24, (114, 135, 0, 0, 0, 0), .inl 0, [], none)),
  (114, (.aload_n 0, (115, 0, 0, 0, 0, 0), .inl 0, [], none)),
  (115, (.getfield 42, (118, 13, 22, 2, 0, 0), .inl 0, [], none)),
  (118, (.iload 5, (120, 0, 0, 0, 0, 0), .inl 0, [], none)),
  (120, (.aload_n 0, (121, 0, 0, 0, 0, 0), .inl 0, [], none)),
  (121, (.iload 8, (123, 0, 0, 0, 0, 0), .inl 0, [], none)),
  (123, (.iload 9, (125, 0, 0, 0, 0, 0), .inl 0, [], none)),
  (125, (.invokevirtual 297, (128, 178, 3, 1, 6, 13), .inl 0, [], none)),
  (128, (.iconst (-1), (129, 0, 0, 0, 0, 0), .inl 0, [], none)),
  (129, (.ixor, (130, 0, 0, 0, 0, 0), .inl 0, [], none)),
  (130, (.iand, (131, 0, 0, 0, 0, 0), .inl 0, [], none)),
  (131, (.baload, (132, 0, 0, 0, 0, 0), .inl 0, [], none)),
  (132, (.ifCond .ne 7, (135, 139, 0, 0, 0, 0), .inl 0, [], none)),
  (135, (.iconst 1, (136, 0, 0, 0, 0, 0), .inl 0, [], none)),
  (136, (.goto 4, (139, 140, 0, 0, 0, 0), .inl 0, [], none)),
  (139, (.iconst 0, (140, 0, 0, 0, 0, 0), .inl 0, [], none)),
  (140, (.istore 6, (142, 0, 0, 0, 0, 0), .inl 0, [], none)),
  (142, (.iinc 9 1, (145, 0, 0, 0, 0, 0), .inl 0, [], none)),
  (145, (.goto (-72), (148, 73, 0, 0, 0, 0), .inl 0, [], none)),
  (148, (.iinc 8 1, (151, 0, 0, 0, 0, 0), .inl 0, [], none)),
  (151, (.goto (-97), (154, 54, 0, 0, 0, 0), .inl 0, [], none)),
  (154, (.aload_n 0, (155, 0, 0, 0, 0, 0), .inl 0, [], some [true, true, true, true, false, true, true, true, false, false])),
  (155, (.getfield 42, (158, 13, 22, 2, 0, 0), .inl 0, [], none)),
  (158, (.iload 5, (160, 0, 0, 0, 0, 0), .inl 0, [], none)),
  (160, (.iload 7, (162, 0, 0, 0, 0, 0), .inl 0, [], none)),
  (162, (.ifCond .eq 16, (165, 178, 0, 0, 0, 0), .inl 0, [], none)),
  (165, (.iload_n 3, (166, 0, 0, 0, 0, 0), .inl 0, [], none)),
  (166, (.iconst 1, (167, 0, 0, 0, 0, 0), .inl 0, [], none)),
  (167, (.if_icmp .ne 7, (170, 174, 0, 0, 0, 0), .inl 0, [], none)),
  (170, (.iconst 1, (171, 0, 0, 0, 0, 0), .inl 0, [], none)),
  (171, (.goto 9, (174, 180, 0, 0, 0, 0), .inl 0, [], none)),
  (174, (.iconst 0, (175, 0, 0, 0, 0, 0), .inl 0, [], none)),
  (175, (.goto 5, (178, 180, 0, 0, 0, 0), .inl 0, [], none)),
  (178, (.iload 6, (180, 0, 0, 0, 0, 0), .inl 0, [], none)),
  (180, (.bastore, (181, 0, 0, 0, 0, 0), .inl 0, [], none)),
  (181, (.iinc 5 1, (184, 0, 0, 0, 0, 0), .inl 0, [], none)),
  (184, (.goto (-152), (187, 32, 0, 0, 0, 0), .inl 0, [], none)),
  (187, (.return_, (188, 0, 0, 0, 0, 0), .inl 0, [], none))]
def z_M_fillsNow : List (Nat × sk_E) := [
  (0, (.aload_n 0, (1, 0, 0, 0, 0, 0), .inl 0, [], none)),
  (1, (.aload_n 0, (2, 0, 0, 0, 0, 0), .inl 0, [], none)),
  (2, (.getfield 39, (5, 13, 20, 2, 0, 0), .inl 0, [], none)),
  (5, (.iconst 3, (6, 0, 0, 0, 0, 0), .inl 0, [], none)),
  (6, (.iaload, (7, 0, 0, 0, 0, 0), .inl 0, [], none)),
  (7, (.aload_n 0, (8, 0, 0, 0, 0, 0), .inl 0, [], none)),
  (8, (.getfield 39, (11, 13, 20, 2, 0, 0), .inl 0, [], none)),
  (11, (.iconst 4, (12, 0, 0, 0, 0, 0), .inl 0, [], none)),
  (12, (.iaload, (13, 0, 0, 0, 0, 0), .inl 0, [], none)),
  (13, (.aload_n 0, (14, 0, 0, 0, 0, 0), .inl 0, [], none)),
  (14, (.getfield 39, (17, 13, 20, 2, 0, 0), .inl 0, [], none)),
  (17, (.iconst 5, (18, 0, 0, 0, 0, 0), .inl 0, [], none)),
  (18, (.iaload, (19, 0, 0, 0, 0, 0), .inl 0, [], none)),
  (19, (.invokevirtual 307, (22, 182, 4, 0, 10, 13), .inl 0, [], none)),
  (22, (.return_, (23, 0, 0, 0, 0, 0), .inl 0, [], none))]
def z_M_isWonAt : List (Nat × sk_E) := [
  (0, (.aload_n 0, (1, 0, 0, 0, 0, 0), .inl 0, [], none)),
  (1, (.invokevirtual 311, (4, 183, 1, 0, 1, 13), .inl 0, [], none)),
  (4, (.aload_n 0, (5, 0, 0, 0, 0, 0), .inl 0, [], none)),
  (5, (.getfield 42, (8, 13, 22, 2, 0, 0), .inl 0, [], none)),
  (8, (.iload_n 1, (9, 0, 0, 0, 0, 0), .inl 0, [], none)),
  (9, (.baload, (10, 0, 0, 0, 0, 0), .inl 0, [], none)),
  (10, (.ireturn, (11, 3, 0, 0, 0, 0), .inl 0, [], none))]
def z_M_winsBy : List (Nat × sk_E) := [
  (0, (.aload_n 0, (1, 0, 0, 0, 0, 0), .inl 0, [], none)),
  (1, (.iload_n 1, (2, 0, 0, 0, 0, 0), .inl 0, [], none)),
  (2, (.iload_n 2, (3, 0, 0, 0, 0, 0), .inl 0, [], none)),
  (3, (.iload_n 3, (4, 0, 0, 0, 0, 0), .inl 0, [], none)),
  (4, (.invokevirtual 314, (7, 181, 4, 1, 4, 13), .inl 0, [], none)),
  (7, (.ifCond .eq 24, (10, 31, 0, 0, 0, 0), .inl 0, [], none)),
  (10, (.aload_n 0, (11, 0, 0, 0, 0, 0), .inl 0, [], none)),
  (11, (.iload_n 1, (12, 0, 0, 0, 0, 0), .inl 0, [], none)),
  (12, (.aload_n 0, (13, 0, 0, 0, 0, 0), .inl 0, [], none)),
  (13, (.iload_n 2, (14, 0, 0, 0, 0, 0), .inl 0, [], none)),
  (14, (.iload_n 3, (15, 0, 0, 0, 0, 0), .inl 0, [], none)),
  (15, (.invokevirtual 297, (18, 178, 3, 1, 6, 13), .inl 0, [], none)),
  (18, (.iconst (-1), (19, 0, 0, 0, 0, 0), .inl 0, [], none)),
  (19, (.ixor, (20, 0, 0, 0, 0, 0), .inl 0, [], none)),
  (20, (.iand, (21, 0, 0, 0, 0, 0), .inl 0, [], none)),
  (21, (.invokevirtual 318, (24, 184, 2, 1, 2, 13), .inl 0, [], none)),
  (24, (.ifCond .ne 7, (27, 31, 0, 0, 0, 0), .inl 0, [], none)),
  (27, (.iconst 1, (28, 0, 0, 0, 0, 0), .inl 0, [], none)),
  (28, (.goto 4, (31, 32, 0, 0, 0, 0), .inl 0, [], none)),
  (31, (.iconst 0, (32, 0, 0, 0, 0, 0), .inl 0, [], none)),
  (32, (.ireturn, (33, 3, 0, 0, 0, 0), .inl 0, [], none))]
def z_M_isOverAt : List (Nat × sk_E) := [
  (0, (.iconst 0, (1, 0, 0, 0, 0, 0), .inl 0, [], none)),
  (1, (.istore_n 2, (2, 0, 0, 0, 0, 0), .inl 0, [], none)),
  (2, (.iload_n 2, (3, 0, 0, 0, 0, 0), .inl 0, [], some [true, true, true, false])),
  (3, (.aload_n 0, (4, 0, 0, 0, 0, 0), .inl 0, [], none)),
  (4, (.getfield 39, (7, 13, 20, 2, 0, 0), .inl 0, [], none)),
  (7, (.iconst 1, (8, 0, 0, 0, 0, 0), .inl 0, [], none)),
  (8, (.iaload, (9, 0, 0, 0, 0, 0), .inl 0, [], none)),
  (9, (.if_icmp .ge 34, (12, 43, 0, 0, 0, 0), .inl 0, [], none)),
  (12, (.iconst 1, (13, 0, 0, 0, 0, 0), .inl 0, [], none)),
  (13, (.istore_n 3, (14, 0, 0, 0, 0, 0), .inl 0, [], none)),
  (14, (.iload_n 3, (15, 0, 0, 0, 0, 0), .inl 0, [], some [true, true, true, true])),
  (15, (.iconst 4, (16, 0, 0, 0, 0, 0), .inl 0, [], none)),
  (16, (.if_icmp .gt 21, (19, 37, 0, 0, 0, 0), .inl 0, [], none)),
  (19, (.aload_n 0, (20, 0, 0, 0, 0, 0), .inl 0, [], none)),
  (20, (.iload_n 1, (21, 0, 0, 0, 0, 0), .inl 0, [], none)),
  (21, (.iload_n 2, (22, 0, 0, 0, 0, 0), .inl 0, [], none)),
  (22, (.iload_n 3, (23, 0, 0, 0, 0, 0), .inl 0, [], none)),
  (23, (.invokevirtual 314, (26, 181, 4, 1, 4, 13), .inl 0, [], none)),
  (26, (.ifCond .eq 5, (29, 31, 0, 0, 0, 0), .inl 0, [], none)),
  (29, (.iconst 0, (30, 0, 0, 0, 0, 0), .inl 0, [], none)),
  (30, (.ireturn, (31, 3, 0, 0, 0, 0), .inl 0, [], none)),
  (31, (.iinc 3 1, (34, 0, 0, 0, 0, 0), .inl 0, [], none)),
  (34, (.goto (-20), (37, 14, 0, 0, 0, 0), .inl 0, [], none)),
  (37, (.iinc 2 1, (40, 0, 0, 0, 0, 0), .inl 0, [], none)),
  (40, (.goto (-38), (43, 2, 0, 0, 0, 0), .inl 0, [], none)),
  (43, (.iconst 1, (44, 0, 0, 0, 0, 0), .inl 0, [], none)),
  (44, (.ireturn, (45, 3, 0, 0, 0, 0), .inl 0, [], none))]
def z_M_place : List (Nat × sk_E) := [
  (0, (.aload_n 0, (1, 0, 0, 0, 0, 0), .inl 0, [], none)),
  (1, (.iload_n 1, (2, 0, 0, 0, 0, 0), .inl 0, [], none)),
  (2, (.invokevirtual 321, (5, 175, 2, 1, 2, 13), .inl 0, [], none)),
  (5, (.ifCond .eq 15, (8, 20, 0, 0, 0, 0), .inl 0, [], none)),
  (8, (.iload_n 2, (9, 0, 0, 0, 0, 0), .inl 0, [], none)),
  (9, (.i2l, (10, 0, 0, 0, 0, 0), .inl 0, [], none)),
  (10, (.lconst 0, (11, 0, 0, 0, 0, 0), .inl 0, [], none)),
  (11, (.ldc2_w 324, (14, 0, 0, 0, 0, 0), .inr (.inl (3)), [], none)),
  (14, (.invokestatic 115, (17, 127, 3, 1, 6, 0), .inl 0, [], none)),
  (17, (.ifCond .ne 5, (20, 22, 0, 0, 0, 0), .inl 0, [], none)),
  (20, (.iconst (-1), (21, 0, 0, 0, 0, 0), .inl 0, [], none)),
  (21, (.ireturn, (22, 0, 0, 0, 0, 0), .inl 0, [], none)),
  (22, (.iload_n 2, (23, 0, 0, 0, 0, 0), .inl 0, [], none)),
  (23, (.ifCond .ne 17, (26, 40, 0, 0, 0, 0), .inl 0, [], none)),
  (26, (.aload_n 0, (27, 0, 0, 0, 0, 0), .inl 0, [], none)),
  (27, (.getfield 39, (30, 13, 20, 2, 0, 0), .inl 0, [], none)),
  (30, (.bipush 8, (32, 0, 0, 0, 0, 0), .inl 0, [], none)),
  (32, (.iaload, (33, 0, 0, 0, 0, 0), .inl 0, [], none)),
  (33, (.iload_n 1, (34, 0, 0, 0, 0, 0), .inl 0, [], none)),
  (34, (.ishr, (35, 0, 0, 0, 0, 0), .inl 0, [], none)),
  (35, (.iconst 1, (36, 0, 0, 0, 0, 0), .inl 0, [], none)),
  (36, (.iand, (37, 0, 0, 0, 0, 0), .inl 0, [], none)),
  (37, (.goto 31, (40, 68, 0, 0, 0, 0), .inl 0, [], none)),
  (40, (.iload_n 2, (41, 0, 0, 0, 0, 0), .inl 0, [], none)),
  (41, (.iconst 1, (42, 0, 0, 0, 0, 0), .inl 0, [], none)),
  (42, (.if_icmp .ne 11, (45, 53, 0, 0, 0, 0), .inl 0, [], none)),
  (45, (.aload_n 0, (46, 0, 0, 0, 0, 0), .inl 0, [], none)),
  (46, (.iload_n 1, (47, 0, 0, 0, 0, 0), .inl 0, [], none)),
  (47, (.invokevirtual 287, (50, 176, 2, 1, 3, 13), .inl 0, [], none)),
  (50, (.goto 18, (53, 68, 0, 0, 0, 0), .inl 0, [], none)),
  (53, (.aload_n 0, (54, 0, 0, 0, 0, 0), .inl 0, [], none)),
  (54, (.iload_n 1, (55, 0, 0, 0, 0, 0), .inl 0, [], none)),
  (55, (.iload_n 2, (56, 0, 0, 0, 0, 0), .inl 0, [], none)),
  (56, (.iconst 2, (57, 0, 0, 0, 0, 0), .inl 0, [], none)),
  (57, (.if_icmp .ne 7, (60, 64, 0, 0, 0, 0), .inl 0, [], none)),
  (60, (.iconst (-1), (61, 0, 0, 0, 0, 0), .inl 0, [], none)),
  (61, (.goto 4, (64, 65, 0, 0, 0, 0), .inl 0, [], none)),
  (64, (.iconst 1, (65, 0, 0, 0, 0, 0), .inl 0, [], none)),
  (65, (.invokevirtual 293, (68, 177, 3, 1, 5, 13), .inl 0, [], none)),
  (68, (.ireturn, (69, 0, 0, 0, 0, 0), .inl 0, [], none))]
def z_M_can : List (Nat × sk_E) := [
  (0, (.aload_n 0, (1, 0, 0, 0, 0, 0), .inl 0, [], none)),
  (1, (.invokevirtual 326, (4, 174, 1, 1, 1, 13), .inl 0, [], none)),
  (4, (.ifCond .ne 5, (7, 9, 0, 0, 0, 0), .inl 0, [], none)),
  (7, (.iconst (-1), (8, 0, 0, 0, 0, 0), .inl 0, [], none)),
  (8, (.ireturn, (9, 0, 0, 0, 0, 0), .inl 0, [], none)),
  (9, (.aload_n 0, (10, 0, 0, 0, 0, 0), .inl 0, [], none)),
  (10, (.iload_n 1, (11, 0, 0, 0, 0, 0), .inl 0, [], none)),
  (11, (.invokevirtual 321, (14, 175, 2, 1, 2, 13), .inl 0, [], none)),
  (14, (.ifCond .eq 31, (17, 45, 0, 0, 0, 0), .inl 0, [], none)),
  (17, (.iload_n 2, (18, 0, 0, 0, 0, 0), .inl 0, [], none)),
  (18, (.i2l, (19, 0, 0, 0, 0, 0), .inl 0, [], none)),
  (19, (.lconst 1, (20, 0, 0, 0, 0, 0), .inl 0, [], none)),
  (20, (.ldc2_w 329, (23, 0, 0, 0, 0, 0), .inr (.inl (4)), [], none)),
  (23, (.invokestatic 115, (26, 127, 3, 1, 6, 0), .inl 0, [], none)),
  (26, (.ifCond .eq 19, (29, 45, 0, 0, 0, 0), .inl 0, [], none)),
  (29, (.aload_n 0, (30, 0, 0, 0, 0, 0), .inl 0, [], none)),
  (30, (.aload_n 0, (31, 0, 0, 0, 0, 0), .inl 0, [], none)),
  (31, (.getfield 39, (34, 13, 20, 2, 0, 0), .inl 0, [], none)),
  (34, (.bipush 8, (36, 0, 0, 0, 0, 0), .inl 0, [], none)),
  (36, (.iaload, (37, 0, 0, 0, 0, 0), .inl 0, [], none)),
  (37, (.iload_n 1, (38, 0, 0, 0, 0, 0), .inl 0, [], none)),
  (38, (.iload_n 2, (39, 0, 0, 0, 0, 0), .inl 0, [], none)),
  (39, (.invokevirtual 314, (42, 181, 4, 1, 4, 13), .inl 0, [], none)),
  (42, (.ifCond .ne 5, (45, 47, 0, 0, 0, 0), .inl 0, [], none)),
  (45, (.iconst 0, (46, 0, 0, 0, 0, 0), .inl 0, [], none)),
  (46, (.ireturn, (47, 0, 0, 0, 0, 0), .inl 0, [], none)),
  (47, (.aload_n 0, (48, 0, 0, 0, 0, 0), .inl 0, [], none)),
  (48, (.aload_n 0, (49, 0, 0, 0, 0, 0), .inl 0, [], none)),
  (49, (.getfield 39, (52, 13, 20, 2, 0, 0), .inl 0, [], none)),
  (52, (.bipush 8, (54, 0, 0, 0, 0, 0), .inl 0, [], none)),
  (54, (.iaload, (55, 0, 0, 0, 0, 0), .inl 0, [], none)),
  (55, (.iload_n 1, (56, 0, 0, 0, 0, 0), .inl 0, [], none)),
  (56, (.iload_n 2, (57, 0, 0, 0, 0, 0), .inl 0, [], none)),
  (57, (.invokevirtual 331, (60, 185, 4, 1, 4, 13), .inl 0, [], none)),
  (60, (.ifCond .eq 7, (63, 67, 0, 0, 0, 0), .inl 0, [], none)),
  (63, (.iconst 2, (64, 0, 0, 0, 0, 0), .inl 0, [], none)),
  (64, (.goto 4, (67, 68, 0, 0, 0, 0), .inl 0, [], none)),
  (67, (.iconst 1, (68, 0, 0, 0, 0, 0), .inl 0, [], none)),
  (68, (.ireturn, (69, 0, 0, 0, 0, 0), .inl 0, [], none))]
def z_M_keepsAct : List (Nat × sk_E) := [
  (0, (.aload_n 0, (1, 0, 0, 0, 0, 0), .inl 0, [], none)),
  (1, (.getfield 269, (4, 13, 25, 0, 0, 0), .inl 0, [], none)),
  (4, (.bipush 20, (6, 0, 0, 0, 0, 0), .inl 0, [], none)),
  (6, (.if_icmp .ne 41, (9, 47, 0, 0, 0, 0), .inl 0, [], none)),
  (9, (.iconst 4, (10, 0, 0, 0, 0, 0), .inl 0, [], none)),
  (10, (.istore_n 1, (11, 0, 0, 0, 0, 0), .inl 0, [], none)),
  (11, (.iload_n 1, (12, 0, 0, 0, 0, 0), .inl 0, [], some [true, true])),
  (12, (.bipush 80, (14, 0, 0, 0, 0, 0), .inl 0, [], none)),
  (14, (.if_icmp .ge 23, (17, 37, 0, 0, 0, 0), .inl 0, [], none)),
  (17, (.aload_n 0, (18, 0, 0, 0, 0, 0), .inl 0, [], none)),
  (18, (.getfield 50, (21, 13, 24, 2, 0, 0), .inl 0, [], none)),
  (21, (.iload_n 1, (22, 0, 0, 0, 0, 0), .inl 0, [], none)),
  (22, (.iconst 4, (23, 0, 0, 0, 0, 0), .inl 0, [], none)),
  (23, (.isub, (24, 0, 0, 0, 0, 0), .inl 0, [], none)),
  (24, (.aload_n 0, (25, 0, 0, 0, 0, 0), .inl 0, [], none)),
  (25, (.getfield 50, (28, 13, 24, 2, 0, 0), .inl 0, [], none)),
  (28, (.iload_n 1, (29, 0, 0, 0, 0, 0), .inl 0, [], none)),
  (29, (.iaload, (30, 0, 0, 0, 0, 0), .inl 0, [], none)),
  (30, (.iastore, (31, 0, 0, 0, 0, 0), .inl 0, [], none)),
  (31, (.iinc 1 1, (34, 0, 0, 0, 0, 0), .inl 0, [], none)),
  (34, (.goto (-23), (37, 11, 0, 0, 0, 0), .inl 0, [], none)),
  (37, (.aload_n 0, (38, 0, 0, 0, 0, 0), .inl 0, [], none)),
  (38, (.dup, (39, 0, 0, 0, 0, 0), .inl 0, [], none)),
  (39, (.getfield 269, (42, 13, 25, 0, 0, 0), .inl 0, [], none)),
  (42, (.iconst 1, (43, 0, 0, 0, 0, 0), .inl 0, [], none)),
  (43, (.isub, (44, 0, 0, 0, 0, 0), .inl 0, [], none)),
  (44, (.putfield 269, (47, 13, 25, 0, 0, 0), .inl 0, [], none)),
  (47, (.iconst 0, (48, 0, 0, 0, 0, 0), .inl 0, [], none)),
  (48, (.istore_n 1, (49, 0, 0, 0, 0, 0), .inl 0, [], none)),
  (49, (.iload_n 1, (50, 0, 0, 0, 0, 0), .inl 0, [], some [true, true])),
  (50, (.iconst 4, (51, 0, 0, 0, 0, 0), .inl 0, [], none)),
  (51, (.if_icmp .ge 31, (54, 82, 0, 0, 0, 0), .inl 0, [], none)),
  (54, (.aload_n 0, (55, 0, 0, 0, 0, 0), .inl 0, [], none)),
  (55, (.getfield 50, (58, 13, 24, 2, 0, 0), .inl 0, [], none)),
  (58, (.iconst 4, (59, 0, 0, 0, 0, 0), .inl 0, [], none)),
  (59, (.aload_n 0, (60, 0, 0, 0, 0, 0), .inl 0, [], none)),
  (60, (.getfield 269, (63, 13, 25, 0, 0, 0), .inl 0, [], none)),
  (63, (.imul, (64, 0, 0, 0, 0, 0), .inl 0, [], none)),
  (64, (.iload_n 1, (65, 0, 0, 0, 0, 0), .inl 0, [], none)),
  (65, (.iadd, (66, 0, 0, 0, 0, 0), .inl 0, [], none)),
  (66, (.aload_n 0, (67, 0, 0, 0, 0, 0), .inl 0, [], none)),
  (67, (.getfield 39, (70, 13, 20, 2, 0, 0), .inl 0, [], none)),
  (70, (.bipush 7, (72, 0, 0, 0, 0, 0), .inl 0, [], none)),
  (72, (.iload_n 1, (73, 0, 0, 0, 0, 0), .inl 0, [], none)),
  (73, (.iadd, (74, 0, 0, 0, 0, 0), .inl 0, [], none)),
  (74, (.iaload, (75, 0, 0, 0, 0, 0), .inl 0, [], none)),
  (75, (.iastore, (76, 0, 0, 0, 0, 0), .inl 0, [], none)),
  (76, (.iinc 1 1, (79, 0, 0, 0, 0, 0), .inl 0, [], none)),
  (79, (.goto (-30), (82, 49, 0, 0, 0, 0), .inl 0, [], none)),
  (82, (.aload_n 0, (83, 0, 0, 0, 0, 0), .inl 0, [], none)),
  (83, (.dup, (84, 0, 0, 0, 0, 0), .inl 0, [], none)),
  (84, (.getfield 269, (87, 13, 25, 0, 0, 0), .inl 0, [], none)),
  (87, (.iconst 1, (88, 0, 0, 0, 0, 0), .inl 0, [], none)),
  (88, (.iadd, (89, 0, 0, 0, 0, 0), .inl 0, [], none)),
  (89, (.putfield 269, (92, 13, 25, 0, 0, 0), .inl 0, [], none)),
  (92, (.return_, (93, 0, 0, 0, 0, 0), .inl 0, [], none))]
def z_M_undo : List (Nat × sk_E) := [
  (0, (.aload_n 0, (1, 0, 0, 0, 0, 0), .inl 0, [], none)),
  (1, (.getfield 269, (4, 13, 25, 0, 0, 0), .inl 0, [], none)),
  (4, (.ifCond .ne 5, (7, 9, 0, 0, 0, 0), .inl 0, [], none)),
  (7, (.iconst (-1), (8, 0, 0, 0, 0, 0), .inl 0, [], none)),
  (8, (.ireturn, (9, 0, 0, 0, 0, 0), .inl 0, [], none)),
  (9, (.aload_n 0, (10, 0, 0, 0, 0, 0), .inl 0, [], none)),
  (10, (.dup, (11, 0, 0, 0, 0, 0), .inl 0, [], none)),
  (11, (.getfield 269, (14, 13, 25, 0, 0, 0), .inl 0, [], none)),
  (14, (.iconst 1, (15, 0, 0, 0, 0, 0), .inl 0, [], none)),
  (15, (.isub, (16, 0, 0, 0, 0, 0), .inl 0, [], none)),
  (16, (.putfield 269, (19, 13, 25, 0, 0, 0), .inl 0, [], none)),
  (19, (.iconst 0, (20, 0, 0, 0, 0, 0), .inl 0, [], none)),
  (20, (.istore_n 1, (21, 0, 0, 0, 0, 0), .inl 0, [], none)),
  (21, (.iload_n 1, (22, 0, 0, 0, 0, 0), .inl 0, [], some [true, true])),
  (22, (.iconst 4, (23, 0, 0, 0, 0, 0), .inl 0, [], none)),
  (23, (.if_icmp .ge 31, (26, 54, 0, 0, 0, 0), .inl 0, [], none)),
  (26, (.aload_n 0, (27, 0, 0, 0, 0, 0), .inl 0, [], none)),
  (27, (.getfield 39, (30, 13, 20, 2, 0, 0), .inl 0, [], none)),
  (30, (.bipush 7, (32, 0, 0, 0, 0, 0), .inl 0, [], none)),
  (32, (.iload_n 1, (33, 0, 0, 0, 0, 0), .inl 0, [], none)),
  (33, (.iadd, (34, 0, 0, 0, 0, 0), .inl 0, [], none)),
  (34, (.aload_n 0, (35, 0, 0, 0, 0, 0), .inl 0, [], none)),
  (35, (.getfield 50, (38, 13, 24, 2, 0, 0), .inl 0, [], none)),
  (38, (.iconst 4, (39, 0, 0, 0, 0, 0), .inl 0, [], none)),
  (39, (.aload_n 0, (40, 0, 0, 0, 0, 0), .inl 0, [], none)),
  (40, (.getfield 269, (43, 13, 25, 0, 0, 0), .inl 0, [], none)),
  (43, (.imul, (44, 0, 0, 0, 0, 0), .inl 0, [], none)),
  (44, (.iload_n 1, (45, 0, 0, 0, 0, 0), .inl 0, [], none)),
  (45, (.iadd, (46, 0, 0, 0, 0, 0), .inl 0, [], none)),
  (46, (.iaload, (47, 0, 0, 0, 0, 0), .inl 0, [], none)),
  (47, (.iastore, (48, 0, 0, 0, 0, 0), .inl 0, [], none)),
  (48, (.iinc 1 1, (51, 0, 0, 0, 0, 0), .inl 0, [], none)),
  (51, (.goto (-30), (54, 21, 0, 0, 0, 0), .inl 0, [], none)),
  (54, (.aload_n 0, (55, 0, 0, 0, 0, 0), .inl 0, [], none)),
  (55, (.getfield 269, (58, 13, 25, 0, 0, 0), .inl 0, [], none)),
  (58, (.ireturn, (59, 0, 0, 0, 0, 0), .inl 0, [], none))]
def z_M_notes : List (Nat × sk_E) := [
  (0, (.aload_n 0, (1, 0, 0, 0, 0, 0), .inl 0, [], none)),
  (1, (.getfield 39, (4, 13, 20, 2, 0, 0), .inl 0, [], none)),
  (4, (.bipush 10, (6, 0, 0, 0, 0, 0), .inl 0, [], none)),
  (6, (.iaload, (7, 0, 0, 0, 0, 0), .inl 0, [], none)),
  (7, (.bipush 40, (9, 0, 0, 0, 0, 0), .inl 0, [], none)),
  (9, (.if_icmp .ne 4, (12, 13, 0, 0, 0, 0), .inl 0, [], none)),
  (12, (.return_, (13, 0, 0, 0, 0, 0), .inl 0, [], none)),
  (13, (.bipush 24, (15, 0, 0, 0, 0, 0), .inl 0, [], none)),
  (15, (.iconst 4, (16, 0, 0, 0, 0, 0), .inl 0, [], none)),
  (16, (.aload_n 0, (17, 0, 0, 0, 0, 0), .inl 0, [], none)),
  (17, (.getfield 39, (20, 13, 20, 2, 0, 0), .inl 0, [], none)),
  (20, (.bipush 10, (22, 0, 0, 0, 0, 0), .inl 0, [], none)),
  (22, (.iaload, (23, 0, 0, 0, 0, 0), .inl 0, [], none)),
  (23, (.imul, (24, 0, 0, 0, 0, 0), .inl 0, [], none)),
  (24, (.iadd, (25, 0, 0, 0, 0, 0), .inl 0, [], none)),
  (25, (.istore_n 3, (26, 0, 0, 0, 0, 0), .inl 0, [], none)),
  (26, (.aload_n 0, (27, 0, 0, 0, 0, 0), .inl 0, [], none)),
  (27, (.getfield 39, (30, 13, 20, 2, 0, 0), .inl 0, [], none)),
  (30, (.iload_n 3, (31, 0, 0, 0, 0, 0), .inl 0, [], none)),
  (31, (.aload_n 0, (32, 0, 0, 0, 0, 0), .inl 0, [], none)),
  (32, (.getfield 39, (35, 13, 20, 2, 0, 0), .inl 0, [], none)),
  (35, (.bipush 7, (37, 0, 0, 0, 0, 0), .inl 0, [], none)),
  (37, (.iaload, (38, 0, 0, 0, 0, 0), .inl 0, [], none)),
  (38, (.iastore, (39, 0, 0, 0, 0, 0), .inl 0, [], none)),
  (39, (.aload_n 0, (40, 0, 0, 0, 0, 0), .inl 0, [], none)),
  (40, (.getfield 39, (43, 13, 20, 2, 0, 0), .inl 0, [], none)),
  (43, (.iload_n 3, (44, 0, 0, 0, 0, 0), .inl 0, [], none)),
  (44, (.iconst 1, (45, 0, 0, 0, 0, 0), .inl 0, [], none)),
  (45, (.iadd, (46, 0, 0, 0, 0, 0), .inl 0, [], none)),
  (46, (.aload_n 0, (47, 0, 0, 0, 0, 0), .inl 0, [], none)),
  (47, (.getfield 39, (50, 13, 20, 2, 0, 0), .inl 0, [], none)),
  (50, (.bipush 8, (52, 0, 0, 0, 0, 0), .inl 0, [], none)),
  (52, (.iaload, (53, 0, 0, 0, 0, 0), .inl 0, [], none)),
  (53, (.iastore, (54, 0, 0, 0, 0, 0), .inl 0, [], none)),
  (54, (.aload_n 0, (55, 0, 0, 0, 0, 0), .inl 0, [], none)),
  (55, (.getfield 39, (58, 13, 20, 2, 0, 0), .inl 0, [], none)),
  (58, (.iload_n 3, (59, 0, 0, 0, 0, 0), .inl 0, [], none)),
  (59, (.iconst 2, (60, 0, 0, 0, 0, 0), .inl 0, [], none)),
  (60, (.iadd, (61, 0, 0, 0, 0, 0), .inl 0, [], none)),
  (61, (.iload_n 1, (62, 0, 0, 0, 0, 0), .inl 0, [], none)),
  (62, (.iastore, (63, 0, 0, 0, 0, 0), .inl 0, [], none)),
  (63, (.aload_n 0, (64, 0, 0, 0, 0, 0), .inl 0, [], none)),
  (64, (.getfield 39, (67, 13, 20, 2, 0, 0), .inl 0, [], none)),
  (67, (.iload_n 3, (68, 0, 0, 0, 0, 0), .inl 0, [], none)),
  (68, (.iconst 3, (69, 0, 0, 0, 0, 0), .inl 0, [], none)),
  (69, (.iadd, (70, 0, 0, 0, 0, 0), .inl 0, [], none)),
  (70, (.iload_n 2, (71, 0, 0, 0, 0, 0), .inl 0, [], none)),
  (71, (.iastore, (72, 0, 0, 0, 0, 0), .inl 0, [], none)),
  (72, (.aload_n 0, (73, 0, 0, 0, 0, 0), .inl 0, [], none)),
  (73, (.getfield 39, (76, 13, 20, 2, 0, 0), .inl 0, [], none)),
  (76, (.bipush 10, (78, 0, 0, 0, 0, 0), .inl 0, [], none)),
  (78, (.dup2, (79, 0, 0, 0, 0, 0), .inl 0, [], none)),
  (79, (.iaload, (80, 0, 0, 0, 0, 0), .inl 0, [], none)),
  (80, (.iconst 1, (81, 0, 0, 0, 0, 0), .inl 0, [], none)),
  (81, (.iadd, (82, 0, 0, 0, 0, 0), .inl 0, [], none)),
  (82, (.iastore, (83, 0, 0, 0, 0, 0), .inl 0, [], none)),
  (83, (.return_, (84, 0, 0, 0, 0, 0), .inl 0, [], none))]
def z_M_stroke : List (Nat × sk_E) := [
  (0, (.aload_n 0, (1, 0, 0, 0, 0, 0), .inl 0, [], none)),
  (1, (.iload_n 1, (2, 0, 0, 0, 0, 0), .inl 0, [], none)),
  (2, (.invokevirtual 321, (5, 175, 2, 1, 2, 13), .inl 0, [], none)),
  (5, (.ifCond .eq 31, (8, 36, 0, 0, 0, 0), .inl 0, [], none)),
  (8, (.iload_n 2, (9, 0, 0, 0, 0, 0), .inl 0, [], none)),
  (9, (.i2l, (10, 0, 0, 0, 0, 0), .inl 0, [], none)),
  (10, (.lconst 1, (11, 0, 0, 0, 0, 0), .inl 0, [], none)),
  (11, (.ldc2_w 329, (14, 0, 0, 0, 0, 0), .inr (.inl (4)), [], none)),
  (14, (.invokestatic 115, (17, 127, 3, 1, 6, 0), .inl 0, [], none)),
  (17, (.ifCond .eq 19, (20, 36, 0, 0, 0, 0), .inl 0, [], none)),
  (20, (.aload_n 0, (21, 0, 0, 0, 0, 0), .inl 0, [], none)),
  (21, (.aload_n 0, (22, 0, 0, 0, 0, 0), .inl 0, [], none)),
  (22, (.getfield 39, (25, 13, 20, 2, 0, 0), .inl 0, [], none)),
  (25, (.bipush 8, (27, 0, 0, 0, 0, 0), .inl 0, [], none)),
  (27, (.iaload, (28, 0, 0, 0, 0, 0), .inl 0, [], none)),
  (28, (.iload_n 1, (29, 0, 0, 0, 0, 0), .inl 0, [], none)),
  (29, (.iload_n 2, (30, 0, 0, 0, 0, 0), .inl 0, [], none)),
  (30, (.invokevirtual 314, (33, 181, 4, 1, 4, 13), .inl 0, [], none)),
  (33, (.ifCond .ne 5, (36, 38, 0, 0, 0, 0), .inl 0, [], none)),
  (36, (.iconst (-1), (37, 0, 0, 0, 0, 0), .inl 0, [], none)),
  (37, (.ireturn, (38, 0, 0, 0, 0, 0), .inl 0, [], none)),
  (38, (.aload_n 0, (39, 0, 0, 0, 0, 0), .inl 0, [], none)),
  (39, (.invokevirtual 334, (42, 189, 1, 0, 2, 13), .inl 0, [], none)),
  (42, (.aload_n 0, (43, 0, 0, 0, 0, 0), .inl 0, [], none)),
  (43, (.iload_n 1, (44, 0, 0, 0, 0, 0), .inl 0, [], none)),
  (44, (.iload_n 2, (45, 0, 0, 0, 0, 0), .inl 0, [], none)),
  (45, (.invokevirtual 337, (48, 191, 3, 0, 4, 13), .inl 0, [], none)),
  (48, (.aload_n 0, (49, 0, 0, 0, 0, 0), .inl 0, [], none)),
  (49, (.getfield 39, (52, 13, 20, 2, 0, 0), .inl 0, [], none)),
  (52, (.bipush 8, (54, 0, 0, 0, 0, 0), .inl 0, [], none)),
  (54, (.dup2, (55, 0, 0, 0, 0, 0), .inl 0, [], none)),
  (55, (.iaload, (56, 0, 0, 0, 0, 0), .inl 0, [], none)),
  (56, (.aload_n 0, (57, 0, 0, 0, 0, 0), .inl 0, [], none)),
  (57, (.iload_n 1, (58, 0, 0, 0, 0, 0), .inl 0, [], none)),
  (58, (.iload_n 2, (59, 0, 0, 0, 0, 0), .inl 0, [], none)),
  (59, (.invokevirtual 297, (62, 178, 3, 1, 6, 13), .inl 0, [], none)),
  (62, (.iconst (-1), (63, 0, 0, 0, 0, 0), .inl 0, [], none)),
  (63, (.ixor, (64, 0, 0, 0, 0, 0), .inl 0, [], none)),
  (64, (.iand, (65, 0, 0, 0, 0, 0), .inl 0, [], none)),
  (65, (.iastore, (66, 0, 0, 0, 0, 0), .inl 0, [], none)),
  (66, (.aload_n 0, (67, 0, 0, 0, 0, 0), .inl 0, [], none)),
  (67, (.getfield 39, (70, 13, 20, 2, 0, 0), .inl 0, [], none)),
  (70, (.bipush 7, (72, 0, 0, 0, 0, 0), .inl 0, [], none)),
  (72, (.iconst 1, (73, 0, 0, 0, 0, 0), .inl 0, [], none)),
  (73, (.aload_n 0, (74, 0, 0, 0, 0, 0), .inl 0, [], none)),
  (74, (.getfield 39, (77, 13, 20, 2, 0, 0), .inl 0, [], none)),
  (77, (.bipush 7, (79, 0, 0, 0, 0, 0), .inl 0, [], none)),
  (79, (.iaload, (80, 0, 0, 0, 0, 0), .inl 0, [], none)),
  (80, (.isub, (81, 0, 0, 0, 0, 0), .inl 0, [], none)),
  (81, (.iastore, (82, 0, 0, 0, 0, 0), .inl 0, [], none)),
  (82, (.aload_n 0, (83, 0, 0, 0, 0, 0), .inl 0, [], none)),
  (83, (.getfield 39, (86, 13, 20, 2, 0, 0), .inl 0, [], none)),
  (86, (.bipush 9, (88, 0, 0, 0, 0, 0), .inl 0, [], none)),
  (88, (.dup2, (89, 0, 0, 0, 0, 0), .inl 0, [], none)),
  (89, (.iaload, (90, 0, 0, 0, 0, 0), .inl 0, [], none)),
  (90, (.iconst 1, (91, 0, 0, 0, 0, 0), .inl 0, [], none)),
  (91, (.iadd, (92, 0, 0, 0, 0, 0), .inl 0, [], none)),
  (92, (.iastore, (93, 0, 0, 0, 0, 0), .inl 0, [], none)),
  (93, (.aload_n 0, (94, 0, 0, 0, 0, 0), .inl 0, [], none)),
  (94, (.getfield 39, (97, 13, 20, 2, 0, 0), .inl 0, [], none)),
  (97, (.bipush 8, (99, 0, 0, 0, 0, 0), .inl 0, [], none)),
  (99, (.iaload, (100, 0, 0, 0, 0, 0), .inl 0, [], none)),
  (100, (.invokestatic 340, (103, 129, 1, 1, 3, 0), .inl 0, [], none)),
  (103, (.ireturn, (104, 0, 0, 0, 0, 0), .inl 0, [], none))]
def z_M_up : List (Nat × sk_E) := [
  (0, (.aload_n 0, (1, 0, 0, 0, 0, 0), .inl 0, [], none)),
  (1, (.iload_n 1, (2, 0, 0, 0, 0, 0), .inl 0, [], none)),
  (2, (.invokevirtual 321, (5, 175, 2, 1, 2, 13), .inl 0, [], none)),
  (5, (.ifCond .eq 17, (8, 22, 0, 0, 0, 0), .inl 0, [], none)),
  (8, (.aload_n 0, (9, 0, 0, 0, 0, 0), .inl 0, [], none)),
  (9, (.getfield 39, (12, 13, 20, 2, 0, 0), .inl 0, [], none)),
  (12, (.bipush 8, (14, 0, 0, 0, 0, 0), .inl 0, [], none)),
  (14, (.iaload, (15, 0, 0, 0, 0, 0), .inl 0, [], none)),
  (15, (.iload_n 1, (16, 0, 0, 0, 0, 0), .inl 0, [], none)),
  (16, (.invokestatic 290, (19, 128, 2, 1, 2, 0), .inl 0, [], none)),
  (19, (.ifCond .eq 5, (22, 24, 0, 0, 0, 0), .inl 0, [], none)),
  (22, (.iconst (-1), (23, 0, 0, 0, 0, 0), .inl 0, [], none)),
  (23, (.ireturn, (24, 0, 0, 0, 0, 0), .inl 0, [], none)),
  (24, (.aload_n 0, (25, 0, 0, 0, 0, 0), .inl 0, [], none)),
  (25, (.invokevirtual 334, (28, 189, 1, 0, 2, 13), .inl 0, [], none)),
  (28, (.aload_n 0, (29, 0, 0, 0, 0, 0), .inl 0, [], none)),
  (29, (.getfield 39, (32, 13, 20, 2, 0, 0), .inl 0, [], none)),
  (32, (.bipush 8, (34, 0, 0, 0, 0, 0), .inl 0, [], none)),
  (34, (.dup2, (35, 0, 0, 0, 0, 0), .inl 0, [], none)),
  (35, (.iaload, (36, 0, 0, 0, 0, 0), .inl 0, [], none)),
  (36, (.iconst 1, (37, 0, 0, 0, 0, 0), .inl 0, [], none)),
  (37, (.iload_n 1, (38, 0, 0, 0, 0, 0), .inl 0, [], none)),
  (38, (.ishl, (39, 0, 0, 0, 0, 0), .inl 0, [], none)),
  (39, (.ior, (40, 0, 0, 0, 0, 0), .inl 0, [], none)),
  (40, (.iastore, (41, 0, 0, 0, 0, 0), .inl 0, [], none)),
  (41, (.aload_n 0, (42, 0, 0, 0, 0, 0), .inl 0, [], none)),
  (42, (.getfield 39, (45, 13, 20, 2, 0, 0), .inl 0, [], none)),
  (45, (.bipush 8, (47, 0, 0, 0, 0, 0), .inl 0, [], none)),
  (47, (.iaload, (48, 0, 0, 0, 0, 0), .inl 0, [], none)),
  (48, (.invokestatic 340, (51, 129, 1, 1, 3, 0), .inl 0, [], none)),
  (51, (.ireturn, (52, 0, 0, 0, 0, 0), .inl 0, [], none))]
def z_M_pass : List (Nat × sk_E) := [
  (0, (.aload_n 0, (1, 0, 0, 0, 0, 0), .inl 0, [], none)),
  (1, (.invokevirtual 326, (4, 174, 1, 1, 1, 13), .inl 0, [], none)),
  (4, (.ifCond .ne 5, (7, 9, 0, 0, 0, 0), .inl 0, [], none)),
  (7, (.iconst (-1), (8, 0, 0, 0, 0, 0), .inl 0, [], none)),
  (8, (.ireturn, (9, 0, 0, 0, 0, 0), .inl 0, [], none)),
  (9, (.aload_n 0, (10, 0, 0, 0, 0, 0), .inl 0, [], none)),
  (10, (.invokevirtual 334, (13, 189, 1, 0, 2, 13), .inl 0, [], none)),
  (13, (.aload_n 0, (14, 0, 0, 0, 0, 0), .inl 0, [], none)),
  (14, (.getfield 39, (17, 13, 20, 2, 0, 0), .inl 0, [], none)),
  (17, (.bipush 7, (19, 0, 0, 0, 0, 0), .inl 0, [], none)),
  (19, (.iconst 1, (20, 0, 0, 0, 0, 0), .inl 0, [], none)),
  (20, (.aload_n 0, (21, 0, 0, 0, 0, 0), .inl 0, [], none)),
  (21, (.getfield 39, (24, 13, 20, 2, 0, 0), .inl 0, [], none)),
  (24, (.bipush 7, (26, 0, 0, 0, 0, 0), .inl 0, [], none)),
  (26, (.iaload, (27, 0, 0, 0, 0, 0), .inl 0, [], none)),
  (27, (.isub, (28, 0, 0, 0, 0, 0), .inl 0, [], none)),
  (28, (.iastore, (29, 0, 0, 0, 0, 0), .inl 0, [], none)),
  (29, (.aload_n 0, (30, 0, 0, 0, 0, 0), .inl 0, [], none)),
  (30, (.getfield 39, (33, 13, 20, 2, 0, 0), .inl 0, [], none)),
  (33, (.bipush 7, (35, 0, 0, 0, 0, 0), .inl 0, [], none)),
  (35, (.iaload, (36, 0, 0, 0, 0, 0), .inl 0, [], none)),
  (36, (.ireturn, (37, 0, 0, 0, 0, 0), .inl 0, [], none))]
def z_M_won : List (Nat × sk_E) := [
  (0, (.aload_n 0, (1, 0, 0, 0, 0, 0), .inl 0, [], none)),
  (1, (.invokevirtual 326, (4, 174, 1, 1, 1, 13), .inl 0, [], none)),
  (4, (.ifCond .ne 7, (7, 11, 0, 0, 0, 0), .inl 0, [], none)),
  (7, (.iconst (-1), (8, 0, 0, 0, 0, 0), .inl 0, [], none)),
  (8, (.goto 22, (11, 30, 0, 0, 0, 0), .inl 0, [], none)),
  (11, (.aload_n 0, (12, 0, 0, 0, 0, 0), .inl 0, [], none)),
  (12, (.aload_n 0, (13, 0, 0, 0, 0, 0), .inl 0, [], none)),
  (13, (.getfield 39, (16, 13, 20, 2, 0, 0), .inl 0, [], none)),
  (16, (.bipush 8, (18, 0, 0, 0, 0, 0), .inl 0, [], none)),
  (18, (.iaload, (19, 0, 0, 0, 0, 0), .inl 0, [], none)),
  (19, (.invokevirtual 318, (22, 184, 2, 1, 2, 13), .inl 0, [], none)),
  (22, (.ifCond .eq 7, (25, 29, 0, 0, 0, 0), .inl 0, [], none)),
  (25, (.iconst 1, (26, 0, 0, 0, 0, 0), .inl 0, [], none)),
  (26, (.goto 4, (29, 30, 0, 0, 0, 0), .inl 0, [], none)),
  (29, (.iconst 0, (30, 0, 0, 0, 0, 0), .inl 0, [], none)),
  (30, (.ireturn, (31, 0, 0, 0, 0, 0), .inl 0, [], none))]
def z_M_wins : List (Nat × sk_E) := [
  (0, (.aload_n 0, (1, 0, 0, 0, 0, 0), .inl 0, [], none)),
  (1, (.invokevirtual 326, (4, 174, 1, 1, 1, 13), .inl 0, [], none)),
  (4, (.ifCond .eq 15, (7, 19, 0, 0, 0, 0), .inl 0, [], none)),
  (7, (.iload_n 1, (8, 0, 0, 0, 0, 0), .inl 0, [], none)),
  (8, (.i2l, (9, 0, 0, 0, 0, 0), .inl 0, [], none)),
  (9, (.lconst 0, (10, 0, 0, 0, 0, 0), .inl 0, [], none)),
  (10, (.ldc2_w 343, (13, 0, 0, 0, 0, 0), .inr (.inl (2)), [], none)),
  (13, (.invokestatic 115, (16, 127, 3, 1, 6, 0), .inl 0, [], none)),
  (16, (.ifCond .ne 5, (19, 21, 0, 0, 0, 0), .inl 0, [], none)),
  (19, (.iconst (-1), (20, 0, 0, 0, 0, 0), .inl 0, [], none)),
  (20, (.ireturn, (21, 0, 0, 0, 0, 0), .inl 0, [], none)),
  (21, (.iconst 0, (22, 0, 0, 0, 0, 0), .inl 0, [], none)),
  (22, (.istore_n 2, (23, 0, 0, 0, 0, 0), .inl 0, [], none)),
  (23, (.bipush (-2), (25, 0, 0, 0, 0, 0), .inl 0, [], none)),
  (25, (.istore_n 3, (26, 0, 0, 0, 0, 0), .inl 0, [], none)),
  (26, (.bipush (-2), (28, 0, 0, 0, 0, 0), .inl 0, [], none)),
  (28, (.istore 4, (30, 0, 0, 0, 0, 0), .inl 0, [], none)),
  (30, (.aload_n 0, (31, 0, 0, 0, 0, 0), .inl 0, [], none)),
  (31, (.getfield 39, (34, 13, 20, 2, 0, 0), .inl 0, [], none)),
  (34, (.iconst 1, (35, 0, 0, 0, 0, 0), .inl 0, [], none)),
  (35, (.iaload, (36, 0, 0, 0, 0, 0), .inl 0, [], none)),
  (36, (.iconst 1, (37, 0, 0, 0, 0, 0), .inl 0, [], none)),
  (37, (.isub, (38, 0, 0, 0, 0, 0), .inl 0, [], none)),
  (38, (.istore 5, (40, 0, 0, 0, 0, 0), .inl 0, [], none)),
  (40, (.iload 5, (42, 0, 0, 0, 0, 0), .inl 0, [], some [true, true, true, true, true, true, false])),
  (42, (.ifCond .lt 54, (45, 96, 0, 0, 0, 0), .inl 0, [], none)),
  (45, (.iconst 4, (46, 0, 0, 0, 0, 0), .inl 0, [], none)),
  (46, (.istore 6, (48, 0, 0, 0, 0, 0), .inl 0, [], none)),
  (48, (.iload 6, (50, 0, 0, 0, 0, 0), .inl 0, [], some [true, true, true, true, true, true, true])),
  (50, (.ifCond .le 40, (53, 90, 0, 0, 0, 0), .inl 0, [], none)),
  (53, (.aload_n 0, (54, 0, 0, 0, 0, 0), .inl 0, [], none)),
  (54, (.aload_n 0, (55, 0, 0, 0, 0, 0), .inl 0, [], none)),
  (55, (.getfield 39, (58, 13, 20, 2, 0, 0), .inl 0, [], none)),
  (58, (.bipush 8, (60, 0, 0, 0, 0, 0), .inl 0, [], none)),
  (60, (.iaload, (61, 0, 0, 0, 0, 0), .inl 0, [], none)),
  (61, (.iload 5, (63, 0, 0, 0, 0, 0), .inl 0, [], none)),
  (63, (.iload 6, (65, 0, 0, 0, 0, 0), .inl 0, [], none)),
  (65, (.invokevirtual 331, (68, 185, 4, 1, 4, 13), .inl 0, [], none)),
  (68, (.ifCond .ne 6, (71, 74, 0, 0, 0, 0), .inl 0, [], none)),
  (71, (.goto 13, (74, 84, 0, 0, 0, 0), .inl 0, [], none)),
  (74, (.iinc 2 1, (77, 0, 0, 0, 0, 0), .inl 0, [], none)),
  (77, (.iload 5, (79, 0, 0, 0, 0, 0), .inl 0, [], none)),
  (79, (.istore_n 3, (80, 0, 0, 0, 0, 0), .inl 0, [], none)),
  (80, (.iload 6, (82, 0, 0, 0, 0, 0), .inl 0, [], none)),
  (82, (.istore 4, (84, 0, 0, 0, 0, 0), .inl 0, [], none)),
  (84, (.iinc 6 (-1), (87, 0, 0, 0, 0, 0), .inl 0, [], none)),
  (87, (.goto (-39), (90, 48, 0, 0, 0, 0), .inl 0, [], none)),
  (90, (.iinc 5 (-1), (93, 0, 0, 0, 0, 0), .inl 0, [], none)),
  (93, (.goto (-53), (96, 40, 0, 0, 0, 0), .inl 0, [], none)),
  (96, (.iload_n 1, (97, 0, 0, 0, 0, 0), .inl 0, [], none)),
  (97, (.ifCond .ne 7, (100, 104, 0, 0, 0, 0), .inl 0, [], none)),
  (100, (.iload_n 2, (101, 0, 0, 0, 0, 0), .inl 0, [], none)),
  (101, (.goto 14, (104, 115, 0, 0, 0, 0), .inl 0, [], none)),
  (104, (.iload_n 1, (105, 0, 0, 0, 0, 0), .inl 0, [], none)),
  (105, (.iconst 1, (106, 0, 0, 0, 0, 0), .inl 0, [], none)),
  (106, (.if_icmp .ne 7, (109, 113, 0, 0, 0, 0), .inl 0, [], none)),
  (109, (.iload_n 3, (110, 0, 0, 0, 0, 0), .inl 0, [], none)),
  (110, (.goto 5, (113, 115, 0, 0, 0, 0), .inl 0, [], none)),
  (113, (.iload 4, (115, 0, 0, 0, 0, 0), .inl 0, [], none)),
  (115, (.ireturn, (116, 0, 0, 0, 0, 0), .inl 0, [], none))]
def z_M_leastUnseen : List (Nat × sk_E) := [
  (0, (.iconst 0, (1, 0, 0, 0, 0, 0), .inl 0, [], none)),
  (1, (.istore_n 1, (2, 0, 0, 0, 0, 0), .inl 0, [], none)),
  (2, (.aload_n 0, (3, 0, 0, 0, 0, 0), .inl 0, [], some [true, true])),
  (3, (.getfield 56, (6, 13, 27, 2, 0, 0), .inl 0, [], none)),
  (6, (.iload_n 1, (7, 0, 0, 0, 0, 0), .inl 0, [], none)),
  (7, (.baload, (8, 0, 0, 0, 0, 0), .inl 0, [], none)),
  (8, (.ifCond .eq 9, (11, 17, 0, 0, 0, 0), .inl 0, [], none)),
  (11, (.iinc 1 1, (14, 0, 0, 0, 0, 0), .inl 0, [], none)),
  (14, (.goto (-12), (17, 2, 0, 0, 0, 0), .inl 0, [], none)),
  (17, (.iload_n 1, (18, 0, 0, 0, 0, 0), .inl 0, [], none)),
  (18, (.ireturn, (19, 0, 0, 0, 0, 0), .inl 0, [], none))]
def z_M_clearsSeen : List (Nat × sk_E) := [
  (0, (.iconst 0, (1, 0, 0, 0, 0, 0), .inl 0, [], none)),
  (1, (.istore_n 1, (2, 0, 0, 0, 0, 0), .inl 0, [], none)),
  (2, (.iload_n 1, (3, 0, 0, 0, 0, 0), .inl 0, [], some [true, true])),
  (3, (.sipush 256, (6, 0, 0, 0, 0, 0), .inl 0, [], none)),
  (6, (.if_icmp .ge 16, (9, 22, 0, 0, 0, 0), .inl 0, [], none)),
  (9, (.aload_n 0, (10, 0, 0, 0, 0, 0), .inl 0, [], none)),
  (10, (.getfield 56, (13, 13, 27, 2, 0, 0), .inl 0, [], none)),
  (13, (.iload_n 1, (14, 0, 0, 0, 0, 0), .inl 0, [], none)),
  (14, (.iconst 0, (15, 0, 0, 0, 0, 0), .inl 0, [], none)),
  (15, (.bastore, (16, 0, 0, 0, 0, 0), .inl 0, [], none)),
  (16, (.iinc 1 1, (19, 0, 0, 0, 0, 0), .inl 0, [], none)),
  (19, (.goto (-17), (22, 2, 0, 0, 0, 0), .inl 0, [], none)),
  (22, (.return_, (23, 0, 0, 0, 0, 0), .inl 0, [], none))]
def z_M_worth : List (Nat × sk_E) := [
  (0, (.iload_n 1, (1, 0, 0, 0, 0, 0), .inl 0, [], none)),
  (1, (.ifCond .lt 13, (4, 14, 0, 0, 0, 0), .inl 0, [], none)),
  (4, (.iload_n 1, (5, 0, 0, 0, 0, 0), .inl 0, [], none)),
  (5, (.aload_n 0, (6, 0, 0, 0, 0, 0), .inl 0, [], none)),
  (6, (.getfield 39, (9, 13, 20, 2, 0, 0), .inl 0, [], none)),
  (9, (.iconst 2, (10, 0, 0, 0, 0, 0), .inl 0, [], none)),
  (10, (.iaload, (11, 0, 0, 0, 0, 0), .inl 0, [], none)),
  (11, (.if_icmp .lt 5, (14, 16, 0, 0, 0, 0), .inl 0, [], none)),
  (14, (.iconst (-1), (15, 0, 0, 0, 0, 0), .inl 0, [], none)),
  (15, (.ireturn, (16, 0, 0, 0, 0, 0), .inl 0, [], none)),
  (16, (.aload_n 0, (17, 0, 0, 0, 0, 0), .inl 0, [], none)),
  (17, (.getfield 39, (20, 13, 20, 2, 0, 0), .inl 0, [], none)),
  (20, (.bipush 12, (22, 0, 0, 0, 0, 0), .inl 0, [], none)),
  (22, (.iload_n 1, (23, 0, 0, 0, 0, 0), .inl 0, [], none)),
  (23, (.iadd, (24, 0, 0, 0, 0, 0), .inl 0, [], none)),
  (24, (.iaload, (25, 0, 0, 0, 0, 0), .inl 0, [], none)),
  (25, (.istore_n 2, (26, 0, 0, 0, 0, 0), .inl 0, [], none)),
  (26, (.iconst 1, (27, 0, 0, 0, 0, 0), .inl 0, [], none)),
  (27, (.aload_n 0, (28, 0, 0, 0, 0, 0), .inl 0, [], none)),
  (28, (.getfield 39, (31, 13, 20, 2, 0, 0), .inl 0, [], none)),
  (31, (.bipush 16, (33, 0, 0, 0, 0, 0), .inl 0, [], none)),
  (33, (.iload_n 1, (34, 0, 0, 0, 0, 0), .inl 0, [], none)),
  (34, (.iadd, (35, 0, 0, 0, 0, 0), .inl 0, [], none)),
  (35, (.iaload, (36, 0, 0, 0, 0, 0), .inl 0, [], none)),
  (36, (.ishl, (37, 0, 0, 0, 0, 0), .inl 0, [], none)),
  (37, (.iconst 1, (38, 0, 0, 0, 0, 0), .inl 0, [], none)),
  (38, (.isub, (39, 0, 0, 0, 0, 0), .inl 0, [], none)),
  (39, (.istore_n 3, (40, 0, 0, 0, 0, 0), .inl 0, [], none)),
  (40, (.iconst 0, (41, 0, 0, 0, 0, 0), .inl 0, [], none)),
  (41, (.istore 4, (43, 0, 0, 0, 0, 0), .inl 0, [], none)),
  (43, (.iload 4, (45, 0, 0, 0, 0, 0), .inl 0, [], some [true, true, true, true, true, false, false, false])),
  (45, (.iload_n 3, (46, 0, 0, 0, 0, 0), .inl 0, [], none)),
  (46, (.if_icmp .gt 109, (49, 155, 0, 0, 0, 0), .inl 0, [], none)),
  (49, (.aload_n 0, (50, 0, 0, 0, 0, 0), .inl 0, [], none)),
  (50, (.invokevirtual 345, (53, 198, 1, 0, 2, 13), .inl 0, [], none)),
  (53, (.iload 4, (55, 0, 0, 0, 0, 0), .inl 0, [], none)),
  (55, (.iload_n 2, (56, 0, 0, 0, 0, 0), .inl 0, [], none)),
  (56, (.ishl, (57, 0, 0, 0, 0, 0), .inl 0, [], none)),
  (57, (.istore 5, (59, 0, 0, 0, 0, 0), .inl 0, [], none)),
  (59, (.iload_n 2, (60, 0, 0, 0, 0, 0), .inl 0, [], none)),
  (60, (.istore 6, (62, 0, 0, 0, 0, 0), .inl 0, [], none)),
  (62, (.iload 6, (64, 0, 0, 0, 0, 0), .inl 0, [], some [true, true, true, true, true, true, true, false])),
  (64, (.iload_n 2, (65, 0, 0, 0, 0, 0), .inl 0, [], none)),
  (65, (.aload_n 0, (66, 0, 0, 0, 0, 0), .inl 0, [], none)),
  (66, (.getfield 39, (69, 13, 20, 2, 0, 0), .inl 0, [], none)),
  (69, (.bipush 16, (71, 0, 0, 0, 0, 0), .inl 0, [], none)),
  (71, (.iload_n 1, (72, 0, 0, 0, 0, 0), .inl 0, [], none)),
  (72, (.iadd, (73, 0, 0, 0, 0, 0), .inl 0, [], none)),
  (73, (.iaload, (74, 0, 0, 0, 0, 0), .inl 0, [], none)),
  (74, (.iadd, (75, 0, 0, 0, 0, 0), .inl 0, [], none)),
  (75, (.if_icmp .ge 63, (78, 138, 0, 0, 0, 0), .inl 0, [], none)),
  (78, (.iconst 1, (79, 0, 0, 0, 0, 0), .inl 0, [], none)),
  (79, (.istore 7, (81, 0, 0, 0, 0, 0), .inl 0, [], none)),
  (81, (.iload 7, (83, 0, 0, 0, 0, 0), .inl 0, [], some [true, true, true, true, true, true, true, true])),
  (83, (.iconst 4, (84, 0, 0, 0, 0, 0), .inl 0, [], none)),
  (84, (.if_icmp .gt 48, (87, 132, 0, 0, 0, 0), .inl 0, [], none)),
  (87, (.aload_n 0, (88, 0, 0, 0, 0, 0), .inl 0, [], none)),
  (88, (.iload 5, (90, 0, 0, 0, 0, 0), .inl 0, [], none)),
  (90, (.iload 6, (92, 0, 0, 0, 0, 0), .inl 0, [], none)),
  (92, (.iload 7, (94, 0, 0, 0, 0, 0), .inl 0, [], none)),
  (94, (.invokevirtual 314, (97, 181, 4, 1, 4, 13), .inl 0, [], none)),
  (97, (.ifCond .eq 29, (100, 126, 0, 0, 0, 0), .inl 0, [], none)),
  (100, (.aload_n 0, (101, 0, 0, 0, 0, 0), .inl 0, [], none)),
  (101, (.getfield 56, (104, 13, 27, 2, 0, 0), .inl 0, [], none)),
  (104, (.aload_n 0, (105, 0, 0, 0, 0, 0), .inl 0, [], none)),
  (105, (.getfield 53, (108, 13, 26, 2, 0, 0), .inl 0, [], none)),
  (108, (.iload 5, (110, 0, 0, 0, 0, 0), .inl 0, [], none)),
  (110, (.aload_n 0, (111, 0, 0, 0, 0, 0), .inl 0, [], none)),
  (111, (.iload 6, (113, 0, 0, 0, 0, 0), .inl 0, [], none)),
  (113, (.iload 7, (115, 0, 0, 0, 0, 0), .inl 0, [], none)),
  (115, (.invokevirtual 297, (118, 178, 3, 1, 6, 13), .inl 0, [], none)),
  (118, (.iconst (-1), (119, 0, 0, 0, 0, 0), .inl 0, [], none)),
  (119, (.ixor, (120, 0, 0, 0, 0, 0), .inl 0, [], none)),
  (120, (.iand, (121, 0, 0, 0, 0, 0), .inl 0, [], none)),
  (121, (.iload_n 2, (122, 0, 0, 0, 0, 0), .inl 0, [], none)),
  (122, (.ishr, (123, 0, 0, 0, 0, 0), .inl 0, [], none)),
  (123, (.iaload, (124, 0, 0, 0, 0, 0), .inl 0, [], none)),
  (124, (.iconst 1, (125, 0, 0, 0, 0, 0), .inl 0, [], none)),
  (125, (.bastore, (126, 0, 0, 0, 0, 0), .inl 0, [], none)),
  (126, (.iinc 7 1, (129, 0, 0, 0, 0, 0), .inl 0, [], none)),
  (129, (.goto (-48), (132, 81, 0, 0, 0, 0), .inl 0, [], none)),
  (132, (.iinc 6 1, (135, 0, 0, 0, 0, 0), .inl 0, [], none)),
  (135, (.goto (-73), (138, 62, 0, 0, 0, 0), .inl 0, [], none)),
  (138, (.aload_n 0, (139, 0, 0, 0, 0, 0), .inl 0, [], none)),
  (139, (.getfield 53, (142, 13, 26, 2, 0, 0), .inl 0, [], none)),
  (142, (.iload 4, (144, 0, 0, 0, 0, 0), .inl 0, [], none)),
  (144, (.aload_n 0, (145, 0, 0, 0, 0, 0), .inl 0, [], none)),
  (145, (.invokevirtual 348, (148, 197, 1, 1, 2, 13), .inl 0, [], none)),
  (148, (.iastore, (149, 0, 0, 0, 0, 0), .inl 0, [], none)),
  (149, (.iinc 4 1, (152, 0, 0, 0, 0, 0), .inl 0, [], none)),
  (152, (.goto (-109), (155, 43, 0, 0, 0, 0), .inl 0, [], none)),
  (155, (.aload_n 0, (156, 0, 0, 0, 0, 0), .inl 0, [], none)),
  (156, (.getfield 53, (159, 13, 26, 2, 0, 0), .inl 0, [], none)),
  (159, (.aload_n 0, (160, 0, 0, 0, 0, 0), .inl 0, [], none)),
  (160, (.getfield 39, (163, 13, 20, 2, 0, 0), .inl 0, [], none)),
  (163, (.bipush 8, (165, 0, 0, 0, 0, 0), .inl 0, [], none)),
  (165, (.iaload, (166, 0, 0, 0, 0, 0), .inl 0, [], none)),
  (166, (.iload_n 2, (167, 0, 0, 0, 0, 0), .inl 0, [], none)),
  (167, (.ishr, (168, 0, 0, 0, 0, 0), .inl 0, [], none)),
  (168, (.iload_n 3, (169, 0, 0, 0, 0, 0), .inl 0, [], none)),
  (169, (.iand, (170, 0, 0, 0, 0, 0), .inl 0, [], none)),
  (170, (.iaload, (171, 0, 0, 0, 0, 0), .inl 0, [], none)),
  (171, (.ireturn, (172, 0, 0, 0, 0, 0), .inl 0, [], none))]
def z_M_fillsPlains : List (Nat × sk_E) := [
  (0, (.iconst 0, (1, 0, 0, 0, 0, 0), .inl 0, [], none)),
  (1, (.istore_n 1, (2, 0, 0, 0, 0, 0), .inl 0, [], none)),
  (2, (.iload_n 1, (3, 0, 0, 0, 0, 0), .inl 0, [], some [true, true, false, false, false])),
  (3, (.bipush 40, (5, 0, 0, 0, 0, 0), .inl 0, [], none)),
  (5, (.if_icmp .gt 129, (8, 134, 0, 0, 0, 0), .inl 0, [], none)),
  (8, (.aload_n 0, (9, 0, 0, 0, 0, 0), .inl 0, [], none)),
  (9, (.invokevirtual 345, (12, 198, 1, 0, 2, 13), .inl 0, [], none)),
  (12, (.iconst 1, (13, 0, 0, 0, 0, 0), .inl 0, [], none)),
  (13, (.istore_n 2, (14, 0, 0, 0, 0, 0), .inl 0, [], none)),
  (14, (.iload_n 2, (15, 0, 0, 0, 0, 0), .inl 0, [], some [true, true, true, false, false])),
  (15, (.iconst 4, (16, 0, 0, 0, 0, 0), .inl 0, [], none)),
  (16, (.if_icmp .gt 102, (19, 118, 0, 0, 0, 0), .inl 0, [], none)),
  (19, (.iload_n 2, (20, 0, 0, 0, 0, 0), .inl 0, [], none)),
  (20, (.iload_n 1, (21, 0, 0, 0, 0, 0), .inl 0, [], none)),
  (21, (.if_icmp .gt 97, (24, 118, 0, 0, 0, 0), .inl 0, [], none)),
  (24, (.aload_n 0, (25, 0, 0, 0, 0, 0), .inl 0, [], none)),
  (25, (.getfield 39, (28, 13, 20, 2, 0, 0), .inl 0, [], none)),
  (28, (.iconst 3, (29, 0, 0, 0, 0, 0), .inl 0, [], none)),
  (29, (.iaload, (30, 0, 0, 0, 0, 0), .inl 0, [], none)),
  (30, (.iload_n 2, (31, 0, 0, 0, 0, 0), .inl 0, [], none)),
  (31, (.iconst 1, (32, 0, 0, 0, 0, 0), .inl 0, [], none)),
  (32, (.isub, (33, 0, 0, 0, 0, 0), .inl 0, [], none)),
  (33, (.invokestatic 290, (36, 128, 2, 1, 2, 0), .inl 0, [], none)),
  (36, (.ifCond .ne 6, (39, 42, 0, 0, 0, 0), .inl 0, [], none)),
  (39, (.goto 73, (42, 112, 0, 0, 0, 0), .inl 0, [], none)),
  (42, (.iconst 0, (43, 0, 0, 0, 0, 0), .inl 0, [], none)),
  (43, (.istore_n 3, (44, 0, 0, 0, 0, 0), .inl 0, [], none)),
  (44, (.iload_n 3, (45, 0, 0, 0, 0, 0), .inl 0, [], some [true, true, true, true, false])),
  (45, (.iload_n 1, (46, 0, 0, 0, 0, 0), .inl 0, [], none)),
  (46, (.iload_n 2, (47, 0, 0, 0, 0, 0), .inl 0, [], none)),
  (47, (.isub, (48, 0, 0, 0, 0, 0), .inl 0, [], none)),
  (48, (.if_icmp .gt 64, (51, 112, 0, 0, 0, 0), .inl 0, [], none)),
  (51, (.iload_n 3, (52, 0, 0, 0, 0, 0), .inl 0, [], none)),
  (52, (.ifCond .eq 10, (55, 62, 0, 0, 0, 0), .inl 0, [], none)),
  (55, (.iload_n 3, (56, 0, 0, 0, 0, 0), .inl 0, [], none)),
  (56, (.iload_n 1, (57, 0, 0, 0, 0, 0), .inl 0, [], none)),
  (57, (.iload_n 2, (58, 0, 0, 0, 0, 0), .inl 0, [], none)),
  (58, (.isub, (59, 0, 0, 0, 0, 0), .inl 0, [], none)),
  (59, (.if_icmp .ne 7, (62, 66, 0, 0, 0, 0), .inl 0, [], none)),
  (62, (.iconst 1, (63, 0, 0, 0, 0, 0), .inl 0, [], none)),
  (63, (.goto 4, (66, 67, 0, 0, 0, 0), .inl 0, [], none)),
  (66, (.iconst 0, (67, 0, 0, 0, 0, 0), .inl 0, [], none)),
  (67, (.istore 4, (69, 0, 0, 0, 0, 0), .inl 0, [], none)),
  (69, (.aload_n 0, (70, 0, 0, 0, 0, 0), .inl 0, [], none)),
  (70, (.getfield 39, (73, 13, 20, 2, 0, 0), .inl 0, [], none)),
  (73, (.iconst 4, (74, 0, 0, 0, 0, 0), .inl 0, [], none)),
  (74, (.iaload, (75, 0, 0, 0, 0, 0), .inl 0, [], none)),
  (75, (.ifCond .eq 8, (78, 83, 0, 0, 0, 0), .inl 0, [], none)),
  (78, (.iload 4, (80, 0, 0, 0, 0, 0), .inl 0, [], none)),
  (80, (.ifCond .eq 26, (83, 106, 0, 0, 0, 0), .inl 0, [], none)),
  (83, (.aload_n 0, (84, 0, 0, 0, 0, 0), .inl 0, [], some [true, true, true, true, false])),
  (84, (.getfield 56, (87, 13, 27, 2, 0, 0), .inl 0, [], none)),
  (87, (.aload_n 0, (88, 0, 0, 0, 0, 0), .inl 0, [], none)),
  (88, (.getfield 59, (91, 13, 28, 2, 0, 0), .inl 0, [], none)),
  (91, (.iload_n 3, (92, 0, 0, 0, 0, 0), .inl 0, [], none)),
  (92, (.iaload, (93, 0, 0, 0, 0, 0), .inl 0, [], none)),
  (93, (.aload_n 0, (94, 0, 0, 0, 0, 0), .inl 0, [], none)),
  (94, (.getfield 59, (97, 13, 28, 2, 0, 0), .inl 0, [], none)),
  (97, (.iload_n 1, (98, 0, 0, 0, 0, 0), .inl 0, [], none)),
  (98, (.iload_n 2, (99, 0, 0, 0, 0, 0), .inl 0, [], none)),
  (99, (.isub, (100, 0, 0, 0, 0, 0), .inl 0, [], none)),
  (100, (.iload_n 3, (101, 0, 0, 0, 0, 0), .inl 0, [], none)),
  (101, (.isub, (102, 0, 0, 0, 0, 0), .inl 0, [], none)),
  (102, (.iaload, (103, 0, 0, 0, 0, 0), .inl 0, [], none)),
  (103, (.ixor, (104, 0, 0, 0, 0, 0), .inl 0, [], none)),
  (104, (.iconst 1, (105, 0, 0, 0, 0, 0), .inl 0, [], none)),
  (105, (.bastore, (106, 0, 0, 0, 0, 0), .inl 0, [], none)),
  (106, (.iinc 3 1, (109, 0, 0, 0, 0, 0), .inl 0, [], none)),
  (109, (.goto (-65), (112, 44, 0, 0, 0, 0), .inl 0, [], none)),
  (112, (.iinc 2 1, (115, 0, 0, 0, 0, 0), .inl 0, [], none)),
  (115, (.goto (-101), (118, 14, 0, 0, 0, 0), .inl 0, [], none)),
  (118, (.aload_n 0, (119, 0, 0, 0, 0, 0), .inl 0, [], none)),
  (119, (.getfield 59, (122, 13, 28, 2, 0, 0), .inl 0, [], none)),
  (122, (.iload_n 1, (123, 0, 0, 0, 0, 0), .inl 0, [], none)),
  (123, (.aload_n 0, (124, 0, 0, 0, 0, 0), .inl 0, [], none)),
  (124, (.invokevirtual 348, (127, 197, 1, 1, 2, 13), .inl 0, [], none)),
  (127, (.iastore, (128, 0, 0, 0, 0, 0), .inl 0, [], none)),
  (128, (.iinc 1 1, (131, 0, 0, 0, 0, 0), .inl 0, [], none)),
  (131, (.goto (-129), (134, 2, 0, 0, 0, 0), .inl 0, [], none)),
  (134, (.return_, (135, 0, 0, 0, 0, 0), .inl 0, [], none))]
def z_M_plain : List (Nat × sk_E) := [
  (0, (.aload_n 0, (1, 0, 0, 0, 0, 0), .inl 0, [], none)),
  (1, (.invokevirtual 326, (4, 174, 1, 1, 1, 13), .inl 0, [], none)),
  (4, (.ifCond .eq 15, (7, 19, 0, 0, 0, 0), .inl 0, [], none)),
  (7, (.iload_n 1, (8, 0, 0, 0, 0, 0), .inl 0, [], none)),
  (8, (.i2l, (9, 0, 0, 0, 0, 0), .inl 0, [], none)),
  (9, (.lconst 0, (10, 0, 0, 0, 0, 0), .inl 0, [], none)),
  (10, (.ldc2_w 351, (13, 0, 0, 0, 0, 0), .inr (.inl (40)), [], none)),
  (13, (.invokestatic 115, (16, 127, 3, 1, 6, 0), .inl 0, [], none)),
  (16, (.ifCond .ne 5, (19, 21, 0, 0, 0, 0), .inl 0, [], none)),
  (19, (.iconst (-1), (20, 0, 0, 0, 0, 0), .inl 0, [], none)),
  (20, (.ireturn, (21, 0, 0, 0, 0, 0), .inl 0, [], none)),
  (21, (.aload_n 0, (22, 0, 0, 0, 0, 0), .inl 0, [], none)),
  (22, (.invokevirtual 353, (25, 200, 1, 0, 5, 13), .inl 0, [], none)),
  (25, (.aload_n 0, (26, 0, 0, 0, 0, 0), .inl 0, [], none)),
  (26, (.getfield 59, (29, 13, 28, 2, 0, 0), .inl 0, [], none)),
  (29, (.iload_n 1, (30, 0, 0, 0, 0, 0), .inl 0, [], none)),
  (30, (.iaload, (31, 0, 0, 0, 0, 0), .inl 0, [], none)),
  (31, (.ireturn, (32, 0, 0, 0, 0, 0), .inl 0, [], none))]
def z_M_comesAgain : List (Nat × sk_E) := [
  (0, (.iload_n 2, (1, 0, 0, 0, 0, 0), .inl 0, [], none)),
  (1, (.istore_n 3, (2, 0, 0, 0, 0, 0), .inl 0, [], none)),
  (2, (.iload_n 3, (3, 0, 0, 0, 0, 0), .inl 0, [], some [true, true, false, true])),
  (3, (.iload_n 1, (4, 0, 0, 0, 0, 0), .inl 0, [], none)),
  (4, (.iadd, (5, 0, 0, 0, 0, 0), .inl 0, [], none)),
  (5, (.bipush 40, (7, 0, 0, 0, 0, 0), .inl 0, [], none)),
  (7, (.if_icmp .gt 28, (10, 35, 0, 0, 0, 0), .inl 0, [], none)),
  (10, (.aload_n 0, (11, 0, 0, 0, 0, 0), .inl 0, [], none)),
  (11, (.getfield 59, (14, 13, 28, 2, 0, 0), .inl 0, [], none)),
  (14, (.iload_n 3, (15, 0, 0, 0, 0, 0), .inl 0, [], none)),
  (15, (.iaload, (16, 0, 0, 0, 0, 0), .inl 0, [], none)),
  (16, (.aload_n 0, (17, 0, 0, 0, 0, 0), .inl 0, [], none)),
  (17, (.getfield 59, (20, 13, 28, 2, 0, 0), .inl 0, [], none)),
  (20, (.iload_n 3, (21, 0, 0, 0, 0, 0), .inl 0, [], none)),
  (21, (.iload_n 1, (22, 0, 0, 0, 0, 0), .inl 0, [], none)),
  (22, (.iadd, (23, 0, 0, 0, 0, 0), .inl 0, [], none)),
  (23, (.iaload, (24, 0, 0, 0, 0, 0), .inl 0, [], none)),
  (24, (.if_icmp .eq 5, (27, 29, 0, 0, 0, 0), .inl 0, [], none)),
  (27, (.iconst 0, (28, 0, 0, 0, 0, 0), .inl 0, [], none)),
  (28, (.ireturn, (29, 3, 0, 0, 0, 0), .inl 0, [], none)),
  (29, (.iinc 3 1, (32, 0, 0, 0, 0, 0), .inl 0, [], none)),
  (32, (.goto (-30), (35, 2, 0, 0, 0, 0), .inl 0, [], none)),
  (35, (.iconst 1, (36, 0, 0, 0, 0, 0), .inl 0, [], none)),
  (36, (.ireturn, (37, 3, 0, 0, 0, 0), .inl 0, [], none))]
def z_M_again : List (Nat × sk_E) := [
  (0, (.aload_n 0, (1, 0, 0, 0, 0, 0), .inl 0, [], none)),
  (1, (.invokevirtual 326, (4, 174, 1, 1, 1, 13), .inl 0, [], none)),
  (4, (.ifCond .eq 13, (7, 17, 0, 0, 0, 0), .inl 0, [], none)),
  (7, (.iload_n 1, (8, 0, 0, 0, 0, 0), .inl 0, [], none)),
  (8, (.i2l, (9, 0, 0, 0, 0, 0), .inl 0, [], none)),
  (9, (.lconst 0, (10, 0, 0, 0, 0, 0), .inl 0, [], none)),
  (10, (.lconst 1, (11, 0, 0, 0, 0, 0), .inl 0, [], none)),
  (11, (.invokestatic 115, (14, 127, 3, 1, 6, 0), .inl 0, [], none)),
  (14, (.ifCond .ne 5, (17, 19, 0, 0, 0, 0), .inl 0, [], none)),
  (17, (.iconst (-1), (18, 0, 0, 0, 0, 0), .inl 0, [], none)),
  (18, (.ireturn, (19, 0, 0, 0, 0, 0), .inl 0, [], none)),
  (19, (.aload_n 0, (20, 0, 0, 0, 0, 0), .inl 0, [], none)),
  (20, (.invokevirtual 353, (23, 200, 1, 0, 5, 13), .inl 0, [], none)),
  (23, (.iconst 1, (24, 0, 0, 0, 0, 0), .inl 0, [], none)),
  (24, (.istore_n 2, (25, 0, 0, 0, 0, 0), .inl 0, [], none)),
  (25, (.iload_n 2, (26, 0, 0, 0, 0, 0), .inl 0, [], some [true, true, true, false])),
  (26, (.bipush 20, (28, 0, 0, 0, 0, 0), .inl 0, [], none)),
  (28, (.if_icmp .gt 46, (31, 74, 0, 0, 0, 0), .inl 0, [], none)),
  (31, (.iconst 0, (32, 0, 0, 0, 0, 0), .inl 0, [], none)),
  (32, (.istore_n 3, (33, 0, 0, 0, 0, 0), .inl 0, [], none)),
  (33, (.iload_n 3, (34, 0, 0, 0, 0, 0), .inl 0, [], some [true, true, true, true])),
  (34, (.iconst 2, (35, 0, 0, 0, 0, 0), .inl 0, [], none)),
  (35, (.iload_n 2, (36, 0, 0, 0, 0, 0), .inl 0, [], none)),
  (36, (.imul, (37, 0, 0, 0, 0, 0), .inl 0, [], none)),
  (37, (.iadd, (38, 0, 0, 0, 0, 0), .inl 0, [], none)),
  (38, (.bipush 40, (40, 0, 0, 0, 0, 0), .inl 0, [], none)),
  (40, (.if_icmp .gt 28, (43, 68, 0, 0, 0, 0), .inl 0, [], none)),
  (43, (.aload_n 0, (44, 0, 0, 0, 0, 0), .inl 0, [], none)),
  (44, (.iload_n 2, (45, 0, 0, 0, 0, 0), .inl 0, [], none)),
  (45, (.iload_n 3, (46, 0, 0, 0, 0, 0), .inl 0, [], none)),
  (46, (.invokevirtual 356, (49, 202, 3, 1, 4, 13), .inl 0, [], none)),
  (49, (.ifCond .eq 13, (52, 62, 0, 0, 0, 0), .inl 0, [], none)),
  (52, (.iload_n 1, (53, 0, 0, 0, 0, 0), .inl 0, [], none)),
  (53, (.ifCond .ne 7, (56, 60, 0, 0, 0, 0), .inl 0, [], none)),
  (56, (.iload_n 2, (57, 0, 0, 0, 0, 0), .inl 0, [], none)),
  (57, (.goto 4, (60, 61, 0, 0, 0, 0), .inl 0, [], none)),
  (60, (.iload_n 3, (61, 0, 0, 0, 0, 0), .inl 0, [], none)),
  (61, (.ireturn, (62, 0, 0, 0, 0, 0), .inl 0, [], none)),
  (62, (.iinc 3 1, (65, 0, 0, 0, 0, 0), .inl 0, [], none)),
  (65, (.goto (-32), (68, 33, 0, 0, 0, 0), .inl 0, [], none)),
  (68, (.iinc 2 1, (71, 0, 0, 0, 0, 0), .inl 0, [], none)),
  (71, (.goto (-46), (74, 25, 0, 0, 0, 0), .inl 0, [], none)),
  (74, (.bipush (-2), (76, 0, 0, 0, 0, 0), .inl 0, [], none)),
  (76, (.ireturn, (77, 0, 0, 0, 0, 0), .inl 0, [], none))]
def z_M_lastsAt : List (Nat × sk_E) := [
  (0, (.iconst (-1), (1, 0, 0, 0, 0, 0), .inl 0, [], none)),
  (1, (.istore_n 2, (2, 0, 0, 0, 0, 0), .inl 0, [], none)),
  (2, (.iconst 0, (3, 0, 0, 0, 0, 0), .inl 0, [], none)),
  (3, (.istore_n 3, (4, 0, 0, 0, 0, 0), .inl 0, [], none)),
  (4, (.iconst 0, (5, 0, 0, 0, 0, 0), .inl 0, [], none)),
  (5, (.istore 4, (7, 0, 0, 0, 0, 0), .inl 0, [], none)),
  (7, (.iload 4, (9, 0, 0, 0, 0, 0), .inl 0, [], some [true, true, true, true, true, false, false, false])),
  (9, (.aload_n 0, (10, 0, 0, 0, 0, 0), .inl 0, [], none)),
  (10, (.getfield 39, (13, 13, 20, 2, 0, 0), .inl 0, [], none)),
  (13, (.iconst 1, (14, 0, 0, 0, 0, 0), .inl 0, [], none)),
  (14, (.iaload, (15, 0, 0, 0, 0, 0), .inl 0, [], none)),
  (15, (.if_icmp .ge 100, (18, 115, 0, 0, 0, 0), .inl 0, [], none)),
  (18, (.iconst 1, (19, 0, 0, 0, 0, 0), .inl 0, [], none)),
  (19, (.istore 5, (21, 0, 0, 0, 0, 0), .inl 0, [], none)),
  (21, (.iload 5, (23, 0, 0, 0, 0, 0), .inl 0, [], some [true, true, true, true, true, true, false, false])),
  (23, (.iconst 4, (24, 0, 0, 0, 0, 0), .inl 0, [], none)),
  (24, (.if_icmp .gt 85, (27, 109, 0, 0, 0, 0), .inl 0, [], none)),
  (27, (.aload_n 0, (28, 0, 0, 0, 0, 0), .inl 0, [], none)),
  (28, (.iload_n 1, (29, 0, 0, 0, 0, 0), .inl 0, [], none)),
  (29, (.iload 4, (31, 0, 0, 0, 0, 0), .inl 0, [], none)),
  (31, (.iload 5, (33, 0, 0, 0, 0, 0), .inl 0, [], none)),
  (33, (.invokevirtual 314, (36, 181, 4, 1, 4, 13), .inl 0, [], none)),
  (36, (.ifCond .ne 6, (39, 42, 0, 0, 0, 0), .inl 0, [], none)),
  (39, (.goto 64, (42, 103, 0, 0, 0, 0), .inl 0, [], none)),
  (42, (.iload_n 1, (43, 0, 0, 0, 0, 0), .inl 0, [], none)),
  (43, (.aload_n 0, (44, 0, 0, 0, 0, 0), .inl 0, [], none)),
  (44, (.iload 4, (46, 0, 0, 0, 0, 0), .inl 0, [], none)),
  (46, (.iload 5, (48, 0, 0, 0, 0, 0), .inl 0, [], none)),
  (48, (.invokevirtual 297, (51, 178, 3, 1, 6, 13), .inl 0, [], none)),
  (51, (.iconst (-1), (52, 0, 0, 0, 0, 0), .inl 0, [], none)),
  (52, (.ixor, (53, 0, 0, 0, 0, 0), .inl 0, [], none)),
  (53, (.iand, (54, 0, 0, 0, 0, 0), .inl 0, [], none)),
  (54, (.istore 6, (56, 0, 0, 0, 0, 0), .inl 0, [], none)),
  (56, (.aload_n 0, (57, 0, 0, 0, 0, 0), .inl 0, [], none)),
  (57, (.getfield 62, (60, 13, 29, 2, 0, 0), .inl 0, [], none)),
  (60, (.iload 6, (62, 0, 0, 0, 0, 0), .inl 0, [], none)),
  (62, (.iaload, (63, 0, 0, 0, 0, 0), .inl 0, [], none)),
  (63, (.iconst 1, (64, 0, 0, 0, 0, 0), .inl 0, [], none)),
  (64, (.iadd, (65, 0, 0, 0, 0, 0), .inl 0, [], none)),
  (65, (.istore 7, (67, 0, 0, 0, 0, 0), .inl 0, [], none)),
  (67, (.iload 7, (69, 0, 0, 0, 0, 0), .inl 0, [], none)),
  (69, (.iload_n 3, (70, 0, 0, 0, 0, 0), .inl 0, [], none)),
  (70, (.if_icmp .le 8, (73, 78, 0, 0, 0, 0), .inl 0, [], none)),
  (73, (.iload 7, (75, 0, 0, 0, 0, 0), .inl 0, [], none)),
  (75, (.goto 4, (78, 79, 0, 0, 0, 0), .inl 0, [], none)),
  (78, (.iload_n 3, (79, 0, 0, 0, 0, 0), .inl 0, [], none)),
  (79, (.istore_n 3, (80, 0, 0, 0, 0, 0), .inl 0, [], some [true, true, true, false, true, true, true, true])),
  (80, (.aload_n 0, (81, 0, 0, 0, 0, 0), .inl 0, [], none)),
  (81, (.getfield 42, (84, 13, 22, 2, 0, 0), .inl 0, [], none)),
  (84, (.iload 6, (86, 0, 0, 0, 0, 0), .inl 0, [], none)),
  (86, (.baload, (87, 0, 0, 0, 0, 0), .inl 0, [], none)),
  (87, (.ifCond .ne 16, (90, 103, 0, 0, 0, 0), .inl 0, [], none)),
  (90, (.iload_n 2, (91, 0, 0, 0, 0, 0), .inl 0, [], none)),
  (91, (.ifCond .lt 9, (94, 100, 0, 0, 0, 0), .inl 0, [], none)),
  (94, (.iload 7, (96, 0, 0, 0, 0, 0), .inl 0, [], none)),
  (96, (.iload_n 2, (97, 0, 0, 0, 0, 0), .inl 0, [], none)),
  (97, (.if_icmp .ge 6, (100, 103, 0, 0, 0, 0), .inl 0, [], none)),
  (100, (.iload 7, (102, 0, 0, 0, 0, 0), .inl 0, [], none)),
  (102, (.istore_n 2, (103, 0, 0, 0, 0, 0), .inl 0, [], none)),
  (103, (.iinc 5 1, (106, 0, 0, 0, 0, 0), .inl 0, [], none)),
  (106, (.goto (-85), (109, 21, 0, 0, 0, 0), .inl 0, [], none)),
  (109, (.iinc 4 1, (112, 0, 0, 0, 0, 0), .inl 0, [], none)),
  (112, (.goto (-105), (115, 7, 0, 0, 0, 0), .inl 0, [], none)),
  (115, (.iload_n 2, (116, 0, 0, 0, 0, 0), .inl 0, [], none)),
  (116, (.ifCond .le 7, (119, 123, 0, 0, 0, 0), .inl 0, [], none)),
  (119, (.iload_n 2, (120, 0, 0, 0, 0, 0), .inl 0, [], none)),
  (120, (.goto 4, (123, 124, 0, 0, 0, 0), .inl 0, [], none)),
  (123, (.iload_n 3, (124, 0, 0, 0, 0, 0), .inl 0, [], none)),
  (124, (.ireturn, (125, 0, 0, 0, 0, 0), .inl 0, [], none))]
def z_M_lasts : List (Nat × sk_E) := [
  (0, (.aload_n 0, (1, 0, 0, 0, 0, 0), .inl 0, [], none)),
  (1, (.invokevirtual 326, (4, 174, 1, 1, 1, 13), .inl 0, [], none)),
  (4, (.ifCond .ne 5, (7, 9, 0, 0, 0, 0), .inl 0, [], none)),
  (7, (.iconst (-1), (8, 0, 0, 0, 0, 0), .inl 0, [], none)),
  (8, (.ireturn, (9, 0, 0, 0, 0, 0), .inl 0, [], none)),
  (9, (.aload_n 0, (10, 0, 0, 0, 0, 0), .inl 0, [], none)),
  (10, (.invokevirtual 311, (13, 183, 1, 0, 1, 13), .inl 0, [], none)),
  (13, (.iconst 0, (14, 0, 0, 0, 0, 0), .inl 0, [], none)),
  (14, (.istore_n 1, (15, 0, 0, 0, 0, 0), .inl 0, [], none)),
  (15, (.iload_n 1, (16, 0, 0, 0, 0, 0), .inl 0, [], some [true, true])),
  (16, (.aload_n 0, (17, 0, 0, 0, 0, 0), .inl 0, [], none)),
  (17, (.getfield 39, (20, 13, 20, 2, 0, 0), .inl 0, [], none)),
  (20, (.bipush 8, (22, 0, 0, 0, 0, 0), .inl 0, [], none)),
  (22, (.iaload, (23, 0, 0, 0, 0, 0), .inl 0, [], none)),
  (23, (.if_icmp .gt 20, (26, 43, 0, 0, 0, 0), .inl 0, [], none)),
  (26, (.aload_n 0, (27, 0, 0, 0, 0, 0), .inl 0, [], none)),
  (27, (.getfield 62, (30, 13, 29, 2, 0, 0), .inl 0, [], none)),
  (30, (.iload_n 1, (31, 0, 0, 0, 0, 0), .inl 0, [], none)),
  (31, (.aload_n 0, (32, 0, 0, 0, 0, 0), .inl 0, [], none)),
  (32, (.iload_n 1, (33, 0, 0, 0, 0, 0), .inl 0, [], none)),
  (33, (.invokevirtual 359, (36, 204, 2, 1, 8, 13), .inl 0, [], none)),
  (36, (.iastore, (37, 0, 0, 0, 0, 0), .inl 0, [], none)),
  (37, (.iinc 1 1, (40, 0, 0, 0, 0, 0), .inl 0, [], none)),
  (40, (.goto (-25), (43, 15, 0, 0, 0, 0), .inl 0, [], none)),
  (43, (.aload_n 0, (44, 0, 0, 0, 0, 0), .inl 0, [], none)),
  (44, (.getfield 62, (47, 13, 29, 2, 0, 0), .inl 0, [], none)),
  (47, (.aload_n 0, (48, 0, 0, 0, 0, 0), .inl 0, [], none)),
  (48, (.getfield 39, (51, 13, 20, 2, 0, 0), .inl 0, [], none)),
  (51, (.bipush 8, (53, 0, 0, 0, 0, 0), .inl 0, [], none)),
  (53, (.iaload, (54, 0, 0, 0, 0, 0), .inl 0, [], none)),
  (54, (.iaload, (55, 0, 0, 0, 0, 0), .inl 0, [], none)),
  (55, (.ireturn, (56, 0, 0, 0, 0, 0), .inl 0, [], none))]
def z_M_playsAt : List (Nat × sk_E) := [
  (0, (.lconst 0, (1, 0, 0, 0, 0, 0), .inl 0, [], none)),
  (1, (.lstore_n 2, (2, 0, 0, 0, 0, 0), .inl 0, [], none)),
  (2, (.iconst 1, (3, 0, 0, 0, 0, 0), .inl 0, [], none)),
  (3, (.istore 4, (5, 0, 0, 0, 0, 0), .inl 0, [], none)),
  (5, (.iconst 0, (6, 0, 0, 0, 0, 0), .inl 0, [], none)),
  (6, (.istore 5, (8, 0, 0, 0, 0, 0), .inl 0, [], none)),
  (8, (.iload 5, (10, 0, 0, 0, 0, 0), .inl 0, [], some [true, true, true, false, true, true, false])),
  (10, (.aload_n 0, (11, 0, 0, 0, 0, 0), .inl 0, [], none)),
  (11, (.getfield 39, (14, 13, 20, 2, 0, 0), .inl 0, [], none)),
  (14, (.iconst 1, (15, 0, 0, 0, 0, 0), .inl 0, [], none)),
  (15, (.iaload, (16, 0, 0, 0, 0, 0), .inl 0, [], none)),
  (16, (.if_icmp .ge 63, (19, 79, 0, 0, 0, 0), .inl 0, [], none)),
  (19, (.iconst 1, (20, 0, 0, 0, 0, 0), .inl 0, [], none)),
  (20, (.istore 6, (22, 0, 0, 0, 0, 0), .inl 0, [], none)),
  (22, (.iload 6, (24, 0, 0, 0, 0, 0), .inl 0, [], some [true, true, true, false, true, true, true])),
  (24, (.iconst 4, (25, 0, 0, 0, 0, 0), .inl 0, [], none)),
  (25, (.if_icmp .gt 48, (28, 73, 0, 0, 0, 0), .inl 0, [], none)),
  (28, (.aload_n 0, (29, 0, 0, 0, 0, 0), .inl 0, [], none)),
  (29, (.iload_n 1, (30, 0, 0, 0, 0, 0), .inl 0, [], none)),
  (30, (.iload 5, (32, 0, 0, 0, 0, 0), .inl 0, [], none)),
  (32, (.iload 6, (34, 0, 0, 0, 0, 0), .inl 0, [], none)),
  (34, (.invokevirtual 314, (37, 181, 4, 1, 4, 13), .inl 0, [], none)),
  (37, (.ifCond .ne 6, (40, 43, 0, 0, 0, 0), .inl 0, [], none)),
  (40, (.goto 27, (43, 67, 0, 0, 0, 0), .inl 0, [], none)),
  (43, (.iconst 0, (44, 0, 0, 0, 0, 0), .inl 0, [], none)),
  (44, (.istore 4, (46, 0, 0, 0, 0, 0), .inl 0, [], none)),
  (46, (.lload_n 2, (47, 0, 0, 0, 0, 0), .inl 0, [], none)),
  (47, (.aload_n 0, (48, 0, 0, 0, 0, 0), .inl 0, [], none)),
  (48, (.getfield 62, (51, 13, 29, 2, 0, 0), .inl 0, [], none)),
  (51, (.iload_n 1, (52, 0, 0, 0, 0, 0), .inl 0, [], none)),
  (52, (.aload_n 0, (53, 0, 0, 0, 0, 0), .inl 0, [], none)),
  (53, (.iload 5, (55, 0, 0, 0, 0, 0), .inl 0, [], none)),
  (55, (.iload 6, (57, 0, 0, 0, 0, 0), .inl 0, [], none)),
  (57, (.invokevirtual 297, (60, 178, 3, 1, 6, 13), .inl 0, [], none)),
  (60, (.iconst (-1), (61, 0, 0, 0, 0, 0), .inl 0, [], none)),
  (61, (.ixor, (62, 0, 0, 0, 0, 0), .inl 0, [], none)),
  (62, (.iand, (63, 0, 0, 0, 0, 0), .inl 0, [], none)),
  (63, (.iaload, (64, 0, 0, 0, 0, 0), .inl 0, [], none)),
  (64, (.i2l, (65, 0, 0, 0, 0, 0), .inl 0, [], none)),
  (65, (.ladd, (66, 0, 0, 0, 0, 0), .inl 0, [], none)),
  (66, (.lstore_n 2, (67, 0, 0, 0, 0, 0), .inl 0, [], none)),
  (67, (.iinc 6 1, (70, 0, 0, 0, 0, 0), .inl 0, [], none)),
  (70, (.goto (-48), (73, 22, 0, 0, 0, 0), .inl 0, [], none)),
  (73, (.iinc 5 1, (76, 0, 0, 0, 0, 0), .inl 0, [], none)),
  (76, (.goto (-68), (79, 8, 0, 0, 0, 0), .inl 0, [], none)),
  (79, (.iload 4, (81, 0, 0, 0, 0, 0), .inl 0, [], none)),
  (81, (.ifCond .eq 7, (84, 88, 0, 0, 0, 0), .inl 0, [], none)),
  (84, (.iconst 1, (85, 0, 0, 0, 0, 0), .inl 0, [], none)),
  (85, (.goto 9, (88, 94, 0, 0, 0, 0), .inl 0, [], none)),
  (88, (.lload_n 2, (89, 0, 0, 0, 0, 0), .inl 0, [], none)),
  (89, (.ldc2_w 362, (92, 0, 0, 0, 0, 0), .inr (.inl (1000000007)), [], none)),
  (92, (.lrem, (93, 0, 0, 0, 0, 0), .inl 0, [], none)),
  (93, (.l2i, (94, 0, 0, 0, 0, 0), .inl 0, [], none)),
  (94, (.ireturn, (95, 0, 0, 0, 0, 0), .inl 0, [], none))]
def z_M_plays : List (Nat × sk_E) := [
  (0, (.aload_n 0, (1, 0, 0, 0, 0, 0), .inl 0, [], none)),
  (1, (.invokevirtual 326, (4, 174, 1, 1, 1, 13), .inl 0, [], none)),
  (4, (.ifCond .ne 5, (7, 9, 0, 0, 0, 0), .inl 0, [], none)),
  (7, (.iconst (-1), (8, 0, 0, 0, 0, 0), .inl 0, [], none)),
  (8, (.ireturn, (9, 0, 0, 0, 0, 0), .inl 0, [], none)),
  (9, (.iconst 0, (10, 0, 0, 0, 0, 0), .inl 0, [], none)),
  (10, (.istore_n 1, (11, 0, 0, 0, 0, 0), .inl 0, [], none)),
  (11, (.iload_n 1, (12, 0, 0, 0, 0, 0), .inl 0, [], some [true, true])),
  (12, (.aload_n 0, (13, 0, 0, 0, 0, 0), .inl 0, [], none)),
  (13, (.getfield 39, (16, 13, 20, 2, 0, 0), .inl 0, [], none)),
  (16, (.bipush 8, (18, 0, 0, 0, 0, 0), .inl 0, [], none)),
  (18, (.iaload, (19, 0, 0, 0, 0, 0), .inl 0, [], none)),
  (19, (.if_icmp .gt 20, (22, 39, 0, 0, 0, 0), .inl 0, [], none)),
  (22, (.aload_n 0, (23, 0, 0, 0, 0, 0), .inl 0, [], none)),
  (23, (.getfield 62, (26, 13, 29, 2, 0, 0), .inl 0, [], none)),
  (26, (.iload_n 1, (27, 0, 0, 0, 0, 0), .inl 0, [], none)),
  (27, (.aload_n 0, (28, 0, 0, 0, 0, 0), .inl 0, [], none)),
  (28, (.iload_n 1, (29, 0, 0, 0, 0, 0), .inl 0, [], none)),
  (29, (.invokevirtual 364, (32, 206, 2, 1, 7, 13), .inl 0, [], none)),
  (32, (.iastore, (33, 0, 0, 0, 0, 0), .inl 0, [], none)),
  (33, (.iinc 1 1, (36, 0, 0, 0, 0, 0), .inl 0, [], none)),
  (36, (.goto (-25), (39, 11, 0, 0, 0, 0), .inl 0, [], none)),
  (39, (.aload_n 0, (40, 0, 0, 0, 0, 0), .inl 0, [], none)),
  (40, (.getfield 62, (43, 13, 29, 2, 0, 0), .inl 0, [], none)),
  (43, (.aload_n 0, (44, 0, 0, 0, 0, 0), .inl 0, [], none)),
  (44, (.getfield 39, (47, 13, 20, 2, 0, 0), .inl 0, [], none)),
  (47, (.bipush 8, (49, 0, 0, 0, 0, 0), .inl 0, [], none)),
  (49, (.iaload, (50, 0, 0, 0, 0, 0), .inl 0, [], none)),
  (50, (.iaload, (51, 0, 0, 0, 0, 0), .inl 0, [], none)),
  (51, (.ireturn, (52, 0, 0, 0, 0, 0), .inl 0, [], none))]
def z_M_fair : List (Nat × sk_E) := [
  (0, (.aload_n 0, (1, 0, 0, 0, 0, 0), .inl 0, [], none)),
  (1, (.invokevirtual 326, (4, 174, 1, 1, 1, 13), .inl 0, [], none)),
  (4, (.ifCond .eq 13, (7, 17, 0, 0, 0, 0), .inl 0, [], none)),
  (7, (.iload_n 1, (8, 0, 0, 0, 0, 0), .inl 0, [], none)),
  (8, (.i2l, (9, 0, 0, 0, 0, 0), .inl 0, [], none)),
  (9, (.lconst 0, (10, 0, 0, 0, 0, 0), .inl 0, [], none)),
  (10, (.lconst 1, (11, 0, 0, 0, 0, 0), .inl 0, [], none)),
  (11, (.invokestatic 115, (14, 127, 3, 1, 6, 0), .inl 0, [], none)),
  (14, (.ifCond .ne 5, (17, 19, 0, 0, 0, 0), .inl 0, [], none)),
  (17, (.iconst (-1), (18, 0, 0, 0, 0, 0), .inl 0, [], none)),
  (18, (.ireturn, (19, 0, 0, 0, 0, 0), .inl 0, [], none)),
  (19, (.aload_n 0, (20, 0, 0, 0, 0, 0), .inl 0, [], none)),
  (20, (.aload_n 0, (21, 0, 0, 0, 0, 0), .inl 0, [], none)),
  (21, (.getfield 39, (24, 13, 20, 2, 0, 0), .inl 0, [], none)),
  (24, (.bipush 8, (26, 0, 0, 0, 0, 0), .inl 0, [], none)),
  (26, (.iaload, (27, 0, 0, 0, 0, 0), .inl 0, [], none)),
  (27, (.invokevirtual 318, (30, 184, 2, 1, 2, 13), .inl 0, [], none)),
  (30, (.istore_n 2, (31, 0, 0, 0, 0, 0), .inl 0, [], none)),
  (31, (.iconst (-1), (32, 0, 0, 0, 0, 0), .inl 0, [], none)),
  (32, (.istore_n 3, (33, 0, 0, 0, 0, 0), .inl 0, [], none)),
  (33, (.iconst 1, (34, 0, 0, 0, 0, 0), .inl 0, [], none)),
  (34, (.istore 4, (36, 0, 0, 0, 0, 0), .inl 0, [], none)),
  (36, (.iload 4, (38, 0, 0, 0, 0, 0), .inl 0, [], some [true, true, true, true, true])),
  (38, (.aload_n 0, (39, 0, 0, 0, 0, 0), .inl 0, [], none)),
  (39, (.getfield 39, (42, 13, 20, 2, 0, 0), .inl 0, [], none)),
  (42, (.bipush 8, (44, 0, 0, 0, 0, 0), .inl 0, [], none)),
  (44, (.iaload, (45, 0, 0, 0, 0, 0), .inl 0, [], none)),
  (45, (.if_icmp .gt 67, (48, 112, 0, 0, 0, 0), .inl 0, [], none)),
  (48, (.iload 4, (50, 0, 0, 0, 0, 0), .inl 0, [], none)),
  (50, (.aload_n 0, (51, 0, 0, 0, 0, 0), .inl 0, [], none)),
  (51, (.getfield 39, (54, 13, 20, 2, 0, 0), .inl 0, [], none)),
  (54, (.bipush 8, (56, 0, 0, 0, 0, 0), .inl 0, [], none)),
  (56, (.iaload, (57, 0, 0, 0, 0, 0), .inl 0, [], none)),
  (57, (.iconst (-1), (58, 0, 0, 0, 0, 0), .inl 0, [], none)),
  (58, (.ixor, (59, 0, 0, 0, 0, 0), .inl 0, [], none)),
  (59, (.iand, (60, 0, 0, 0, 0, 0), .inl 0, [], none)),
  (60, (.ifCond .ne 46, (63, 106, 0, 0, 0, 0), .inl 0, [], none)),
  (63, (.iload_n 3, (64, 0, 0, 0, 0, 0), .inl 0, [], none)),
  (64, (.ifCond .lt 18, (67, 82, 0, 0, 0, 0), .inl 0, [], none)),
  (67, (.iload 4, (69, 0, 0, 0, 0, 0), .inl 0, [], none)),
  (69, (.invokestatic 340, (72, 129, 1, 1, 3, 0), .inl 0, [], none)),
  (72, (.iload_n 3, (73, 0, 0, 0, 0, 0), .inl 0, [], none)),
  (73, (.invokestatic 340, (76, 129, 1, 1, 3, 0), .inl 0, [], none)),
  (76, (.if_icmp .lt 6, (79, 82, 0, 0, 0, 0), .inl 0, [], none)),
  (79, (.goto 27, (82, 106, 0, 0, 0, 0), .inl 0, [], none)),
  (82, (.aload_n 0, (83, 0, 0, 0, 0, 0), .inl 0, [], some [true, true, true, true, true])),
  (83, (.getfield 42, (86, 13, 22, 2, 0, 0), .inl 0, [], none)),
  (86, (.aload_n 0, (87, 0, 0, 0, 0, 0), .inl 0, [], none)),
  (87, (.getfield 39, (90, 13, 20, 2, 0, 0), .inl 0, [], none)),
  (90, (.bipush 8, (92, 0, 0, 0, 0, 0), .inl 0, [], none)),
  (92, (.iaload, (93, 0, 0, 0, 0, 0), .inl 0, [], none)),
  (93, (.iload 4, (95, 0, 0, 0, 0, 0), .inl 0, [], none)),
  (95, (.iconst (-1), (96, 0, 0, 0, 0, 0), .inl 0, [], none)),
  (96, (.ixor, (97, 0, 0, 0, 0, 0), .inl 0, [], none)),
  (97, (.iand, (98, 0, 0, 0, 0, 0), .inl 0, [], none)),
  (98, (.baload, (99, 0, 0, 0, 0, 0), .inl 0, [], none)),
  (99, (.iload_n 2, (100, 0, 0, 0, 0, 0), .inl 0, [], none)),
  (100, (.if_icmp .eq 6, (103, 106, 0, 0, 0, 0), .inl 0, [], none)),
  (103, (.iload 4, (105, 0, 0, 0, 0, 0), .inl 0, [], none)),
  (105, (.istore_n 3, (106, 0, 0, 0, 0, 0), .inl 0, [], none)),
  (106, (.iinc 4 1, (109, 0, 0, 0, 0, 0), .inl 0, [], none)),
  (109, (.goto (-73), (112, 36, 0, 0, 0, 0), .inl 0, [], none)),
  (112, (.iload_n 3, (113, 0, 0, 0, 0, 0), .inl 0, [], none)),
  (113, (.ifCond .ge 8, (116, 121, 0, 0, 0, 0), .inl 0, [], none)),
  (116, (.bipush (-2), (118, 0, 0, 0, 0, 0), .inl 0, [], none)),
  (118, (.goto 15, (121, 133, 0, 0, 0, 0), .inl 0, [], none)),
  (121, (.iload_n 1, (122, 0, 0, 0, 0, 0), .inl 0, [], none)),
  (122, (.ifCond .ne 10, (125, 132, 0, 0, 0, 0), .inl 0, [], none)),
  (125, (.iload_n 3, (126, 0, 0, 0, 0, 0), .inl 0, [], none)),
  (126, (.invokestatic 340, (129, 129, 1, 1, 3, 0), .inl 0, [], none)),
  (129, (.goto 4, (132, 133, 0, 0, 0, 0), .inl 0, [], none)),
  (132, (.iload_n 3, (133, 0, 0, 0, 0, 0), .inl 0, [], none)),
  (133, (.ireturn, (134, 0, 0, 0, 0, 0), .inl 0, [], none))]
def z_M_strayed : List (Nat × sk_E) := [
  (0, (.aload_n 0, (1, 0, 0, 0, 0, 0), .inl 0, [], none)),
  (1, (.aload_n 0, (2, 0, 0, 0, 0, 0), .inl 0, [], none)),
  (2, (.iload_n 2, (3, 0, 0, 0, 0, 0), .inl 0, [], none)),
  (3, (.iload_n 3, (4, 0, 0, 0, 0, 0), .inl 0, [], none)),
  (4, (.invokevirtual 300, (7, 179, 3, 1, 5, 13), .inl 0, [], none)),
  (7, (.iconst 1, (8, 0, 0, 0, 0, 0), .inl 0, [], none)),
  (8, (.invokevirtual 293, (11, 177, 3, 1, 5, 13), .inl 0, [], none)),
  (11, (.istore 4, (13, 0, 0, 0, 0, 0), .inl 0, [], none)),
  (13, (.iload 4, (15, 0, 0, 0, 0, 0), .inl 0, [], none)),
  (15, (.ifCond .ge 7, (18, 22, 0, 0, 0, 0), .inl 0, [], none)),
  (18, (.iload_n 1, (19, 0, 0, 0, 0, 0), .inl 0, [], none)),
  (19, (.goto 11, (22, 30, 0, 0, 0, 0), .inl 0, [], none)),
  (22, (.iload_n 1, (23, 0, 0, 0, 0, 0), .inl 0, [], none)),
  (23, (.iconst 1, (24, 0, 0, 0, 0, 0), .inl 0, [], none)),
  (24, (.iload 4, (26, 0, 0, 0, 0, 0), .inl 0, [], none)),
  (26, (.ishl, (27, 0, 0, 0, 0, 0), .inl 0, [], none)),
  (27, (.iconst (-1), (28, 0, 0, 0, 0, 0), .inl 0, [], none)),
  (28, (.ixor, (29, 0, 0, 0, 0, 0), .inl 0, [], none)),
  (29, (.iand, (30, 0, 0, 0, 0, 0), .inl 0, [], none)),
  (30, (.ireturn, (31, 0, 0, 0, 0, 0), .inl 0, [], none))]
def z_M_chanceAt : List (Nat × sk_E) := [
  (0, (.iconst (-1), (1, 0, 0, 0, 0, 0), .inl 0, [], none)),
  (1, (.istore_n 2, (2, 0, 0, 0, 0, 0), .inl 0, [], none)),
  (2, (.iconst 0, (3, 0, 0, 0, 0, 0), .inl 0, [], none)),
  (3, (.istore_n 3, (4, 0, 0, 0, 0, 0), .inl 0, [], none)),
  (4, (.iload_n 3, (5, 0, 0, 0, 0, 0), .inl 0, [], some [true, true, true, true, false, false, false])),
  (5, (.aload_n 0, (6, 0, 0, 0, 0, 0), .inl 0, [], none)),
  (6, (.getfield 39, (9, 13, 20, 2, 0, 0), .inl 0, [], none)),
  (9, (.iconst 1, (10, 0, 0, 0, 0, 0), .inl 0, [], none)),
  (10, (.iaload, (11, 0, 0, 0, 0, 0), .inl 0, [], none)),
  (11, (.if_icmp .ge 118, (14, 129, 0, 0, 0, 0), .inl 0, [], none)),
  (14, (.iconst 1, (15, 0, 0, 0, 0, 0), .inl 0, [], none)),
  (15, (.istore 4, (17, 0, 0, 0, 0, 0), .inl 0, [], none)),
  (17, (.iload 4, (19, 0, 0, 0, 0, 0), .inl 0, [], some [true, true, true, true, true, false, false])),
  (19, (.iconst 4, (20, 0, 0, 0, 0, 0), .inl 0, [], none)),
  (20, (.if_icmp .gt 103, (23, 123, 0, 0, 0, 0), .inl 0, [], none)),
  (23, (.aload_n 0, (24, 0, 0, 0, 0, 0), .inl 0, [], none)),
  (24, (.iload_n 1, (25, 0, 0, 0, 0, 0), .inl 0, [], none)),
  (25, (.iload_n 3, (26, 0, 0, 0, 0, 0), .inl 0, [], none)),
  (26, (.iload 4, (28, 0, 0, 0, 0, 0), .inl 0, [], none)),
  (28, (.invokevirtual 314, (31, 181, 4, 1, 4, 13), .inl 0, [], none)),
  (31, (.ifCond .ne 6, (34, 37, 0, 0, 0, 0), .inl 0, [], none)),
  (34, (.goto 83, (37, 117, 0, 0, 0, 0), .inl 0, [], none)),
  (37, (.iload_n 1, (38, 0, 0, 0, 0, 0), .inl 0, [], none)),
  (38, (.aload_n 0, (39, 0, 0, 0, 0, 0), .inl 0, [], none)),
  (39, (.iload_n 3, (40, 0, 0, 0, 0, 0), .inl 0, [], none)),
  (40, (.iload 4, (42, 0, 0, 0, 0, 0), .inl 0, [], none)),
  (42, (.invokevirtual 297, (45, 178, 3, 1, 6, 13), .inl 0, [], none)),
  (45, (.iconst (-1), (46, 0, 0, 0, 0, 0), .inl 0, [], none)),
  (46, (.ixor, (47, 0, 0, 0, 0, 0), .inl 0, [], none)),
  (47, (.iand, (48, 0, 0, 0, 0, 0), .inl 0, [], none)),
  (48, (.istore 5, (50, 0, 0, 0, 0, 0), .inl 0, [], none)),
  (50, (.bipush 100, (52, 0, 0, 0, 0, 0), .inl 0, [], none)),
  (52, (.aload_n 0, (53, 0, 0, 0, 0, 0), .inl 0, [], none)),
  (53, (.getfield 39, (56, 13, 20, 2, 0, 0), .inl 0, [], none)),
  (56, (.bipush 6, (58, 0, 0, 0, 0, 0), .inl 0, [], none)),
  (58, (.iaload, (59, 0, 0, 0, 0, 0), .inl 0, [], none)),
  (59, (.isub, (60, 0, 0, 0, 0, 0), .inl 0, [], none)),
  (60, (.sipush 10000, (63, 0, 0, 0, 0, 0), .inl 0, [], none)),
  (63, (.aload_n 0, (64, 0, 0, 0, 0, 0), .inl 0, [], none)),
  (64, (.getfield 62, (67, 13, 29, 2, 0, 0), .inl 0, [], none)),
  (67, (.iload 5, (69, 0, 0, 0, 0, 0), .inl 0, [], none)),
  (69, (.iaload, (70, 0, 0, 0, 0, 0), .inl 0, [], none)),
  (70, (.isub, (71, 0, 0, 0, 0, 0), .inl 0, [], none)),
  (71, (.imul, (72, 0, 0, 0, 0, 0), .inl 0, [], none)),
  (72, (.aload_n 0, (73, 0, 0, 0, 0, 0), .inl 0, [], none)),
  (73, (.getfield 39, (76, 13, 20, 2, 0, 0), .inl 0, [], none)),
  (76, (.bipush 6, (78, 0, 0, 0, 0, 0), .inl 0, [], none)),
  (78, (.iaload, (79, 0, 0, 0, 0, 0), .inl 0, [], none)),
  (79, (.sipush 10000, (82, 0, 0, 0, 0, 0), .inl 0, [], none)),
  (82, (.aload_n 0, (83, 0, 0, 0, 0, 0), .inl 0, [], none)),
  (83, (.getfield 62, (86, 13, 29, 2, 0, 0), .inl 0, [], none)),
  (86, (.aload_n 0, (87, 0, 0, 0, 0, 0), .inl 0, [], none)),
  (87, (.iload 5, (89, 0, 0, 0, 0, 0), .inl 0, [], none)),
  (89, (.iload_n 3, (90, 0, 0, 0, 0, 0), .inl 0, [], none)),
  (90, (.iload 4, (92, 0, 0, 0, 0, 0), .inl 0, [], none)),
  (92, (.invokevirtual 367, (95, 209, 4, 1, 5, 13), .inl 0, [], none)),
  (95, (.iaload, (96, 0, 0, 0, 0, 0), .inl 0, [], none)),
  (96, (.isub, (97, 0, 0, 0, 0, 0), .inl 0, [], none)),
  (97, (.imul, (98, 0, 0, 0, 0, 0), .inl 0, [], none)),
  (98, (.iadd, (99, 0, 0, 0, 0, 0), .inl 0, [], none)),
  (99, (.bipush 100, (101, 0, 0, 0, 0, 0), .inl 0, [], none)),
  (101, (.idiv, (102, 0, 0, 0, 0, 0), .inl 0, [], none)),
  (102, (.istore 6, (104, 0, 0, 0, 0, 0), .inl 0, [], none)),
  (104, (.iload 6, (106, 0, 0, 0, 0, 0), .inl 0, [], none)),
  (106, (.iload_n 2, (107, 0, 0, 0, 0, 0), .inl 0, [], none)),
  (107, (.if_icmp .le 8, (110, 115, 0, 0, 0, 0), .inl 0, [], none)),
  (110, (.iload 6, (112, 0, 0, 0, 0, 0), .inl 0, [], none)),
  (112, (.goto 4, (115, 116, 0, 0, 0, 0), .inl 0, [], none)),
  (115, (.iload_n 2, (116, 0, 0, 0, 0, 0), .inl 0, [], none)),
  (116, (.istore_n 2, (117, 0, 0, 0, 0, 0), .inl 0, [], none)),
  (117, (.iinc 4 1, (120, 0, 0, 0, 0, 0), .inl 0, [], none)),
  (120, (.goto (-103), (123, 17, 0, 0, 0, 0), .inl 0, [], none)),
  (123, (.iinc 3 1, (126, 0, 0, 0, 0, 0), .inl 0, [], none)),
  (126, (.goto (-122), (129, 4, 0, 0, 0, 0), .inl 0, [], none)),
  (129, (.iload_n 2, (130, 0, 0, 0, 0, 0), .inl 0, [], none)),
  (130, (.ifCond .lt 7, (133, 137, 0, 0, 0, 0), .inl 0, [], none)),
  (133, (.iload_n 2, (134, 0, 0, 0, 0, 0), .inl 0, [], none)),
  (134, (.goto 20, (137, 154, 0, 0, 0, 0), .inl 0, [], none)),
  (137, (.aload_n 0, (138, 0, 0, 0, 0, 0), .inl 0, [], none)),
  (138, (.getfield 39, (141, 13, 20, 2, 0, 0), .inl 0, [], none)),
  (141, (.iconst 5, (142, 0, 0, 0, 0, 0), .inl 0, [], none)),
  (142, (.iaload, (143, 0, 0, 0, 0, 0), .inl 0, [], none)),
  (143, (.iconst 1, (144, 0, 0, 0, 0, 0), .inl 0, [], none)),
  (144, (.if_icmp .ne 9, (147, 153, 0, 0, 0, 0), .inl 0, [], none)),
  (147, (.sipush 10000, (150, 0, 0, 0, 0, 0), .inl 0, [], none)),
  (150, (.goto 4, (153, 154, 0, 0, 0, 0), .inl 0, [], none)),
  (153, (.iconst 0, (154, 0, 0, 0, 0, 0), .inl 0, [], none)),
  (154, (.ireturn, (155, 0, 0, 0, 0, 0), .inl 0, [], none))]
def z_M_chance : List (Nat × sk_E) := [
  (0, (.aload_n 0, (1, 0, 0, 0, 0, 0), .inl 0, [], none)),
  (1, (.invokevirtual 326, (4, 174, 1, 1, 1, 13), .inl 0, [], none)),
  (4, (.ifCond .ne 5, (7, 9, 0, 0, 0, 0), .inl 0, [], none)),
  (7, (.iconst (-1), (8, 0, 0, 0, 0, 0), .inl 0, [], none)),
  (8, (.ireturn, (9, 0, 0, 0, 0, 0), .inl 0, [], none)),
  (9, (.iconst 0, (10, 0, 0, 0, 0, 0), .inl 0, [], none)),
  (10, (.istore_n 1, (11, 0, 0, 0, 0, 0), .inl 0, [], none)),
  (11, (.iload_n 1, (12, 0, 0, 0, 0, 0), .inl 0, [], some [true, true])),
  (12, (.aload_n 0, (13, 0, 0, 0, 0, 0), .inl 0, [], none)),
  (13, (.getfield 39, (16, 13, 20, 2, 0, 0), .inl 0, [], none)),
  (16, (.bipush 8, (18, 0, 0, 0, 0, 0), .inl 0, [], none)),
  (18, (.iaload, (19, 0, 0, 0, 0, 0), .inl 0, [], none)),
  (19, (.if_icmp .gt 20, (22, 39, 0, 0, 0, 0), .inl 0, [], none)),
  (22, (.aload_n 0, (23, 0, 0, 0, 0, 0), .inl 0, [], none)),
  (23, (.getfield 62, (26, 13, 29, 2, 0, 0), .inl 0, [], none)),
  (26, (.iload_n 1, (27, 0, 0, 0, 0, 0), .inl 0, [], none)),
  (27, (.aload_n 0, (28, 0, 0, 0, 0, 0), .inl 0, [], none)),
  (28, (.iload_n 1, (29, 0, 0, 0, 0, 0), .inl 0, [], none)),
  (29, (.invokevirtual 371, (32, 210, 2, 1, 7, 13), .inl 0, [], none)),
  (32, (.iastore, (33, 0, 0, 0, 0, 0), .inl 0, [], none)),
  (33, (.iinc 1 1, (36, 0, 0, 0, 0, 0), .inl 0, [], none)),
  (36, (.goto (-25), (39, 11, 0, 0, 0, 0), .inl 0, [], none)),
  (39, (.aload_n 0, (40, 0, 0, 0, 0, 0), .inl 0, [], none)),
  (40, (.getfield 62, (43, 13, 29, 2, 0, 0), .inl 0, [], none)),
  (43, (.aload_n 0, (44, 0, 0, 0, 0, 0), .inl 0, [], none)),
  (44, (.getfield 39, (47, 13, 20, 2, 0, 0), .inl 0, [], none)),
  (47, (.bipush 8, (49, 0, 0, 0, 0, 0), .inl 0, [], none)),
  (49, (.iaload, (50, 0, 0, 0, 0, 0), .inl 0, [], none)),
  (50, (.iaload, (51, 0, 0, 0, 0, 0), .inl 0, [], none)),
  (51, (.ireturn, (52, 0, 0, 0, 0, 0), .inl 0, [], none))]
def z_M_bestAt : List (Nat × sk_E) := [
  (0, (.iconst (-1), (1, 0, 0, 0, 0, 0), .inl 0, [], none)),
  (1, (.istore_n 2, (2, 0, 0, 0, 0, 0), .inl 0, [], none)),
  (2, (.iconst 0, (3, 0, 0, 0, 0, 0), .inl 0, [], none)),
  (3, (.istore_n 3, (4, 0, 0, 0, 0, 0), .inl 0, [], none)),
  (4, (.iload_n 3, (5, 0, 0, 0, 0, 0), .inl 0, [], some [true, true, true, true, false, false])),
  (5, (.aload_n 0, (6, 0, 0, 0, 0, 0), .inl 0, [], none)),
  (6, (.getfield 39, (9, 13, 20, 2, 0, 0), .inl 0, [], none)),
  (9, (.iconst 1, (10, 0, 0, 0, 0, 0), .inl 0, [], none)),
  (10, (.iaload, (11, 0, 0, 0, 0, 0), .inl 0, [], none)),
  (11, (.if_icmp .ge 69, (14, 80, 0, 0, 0, 0), .inl 0, [], none)),
  (14, (.iconst 1, (15, 0, 0, 0, 0, 0), .inl 0, [], none)),
  (15, (.istore 4, (17, 0, 0, 0, 0, 0), .inl 0, [], none)),
  (17, (.iload 4, (19, 0, 0, 0, 0, 0), .inl 0, [], some [true, true, true, true, true, false])),
  (19, (.iconst 4, (20, 0, 0, 0, 0, 0), .inl 0, [], none)),
  (20, (.if_icmp .gt 54, (23, 74, 0, 0, 0, 0), .inl 0, [], none)),
  (23, (.aload_n 0, (24, 0, 0, 0, 0, 0), .inl 0, [], none)),
  (24, (.iload_n 1, (25, 0, 0, 0, 0, 0), .inl 0, [], none)),
  (25, (.iload_n 3, (26, 0, 0, 0, 0, 0), .inl 0, [], none)),
  (26, (.iload 4, (28, 0, 0, 0, 0, 0), .inl 0, [], none)),
  (28, (.invokevirtual 314, (31, 181, 4, 1, 4, 13), .inl 0, [], none)),
  (31, (.ifCond .ne 6, (34, 37, 0, 0, 0, 0), .inl 0, [], none)),
  (34, (.goto 34, (37, 68, 0, 0, 0, 0), .inl 0, [], none)),
  (37, (.aload_n 0, (38, 0, 0, 0, 0, 0), .inl 0, [], none)),
  (38, (.getfield 65, (41, 13, 30, 2, 0, 0), .inl 0, [], none)),
  (41, (.iload_n 1, (42, 0, 0, 0, 0, 0), .inl 0, [], none)),
  (42, (.aload_n 0, (43, 0, 0, 0, 0, 0), .inl 0, [], none)),
  (43, (.iload_n 3, (44, 0, 0, 0, 0, 0), .inl 0, [], none)),
  (44, (.iload 4, (46, 0, 0, 0, 0, 0), .inl 0, [], none)),
  (46, (.invokevirtual 297, (49, 178, 3, 1, 6, 13), .inl 0, [], none)),
  (49, (.iconst (-1), (50, 0, 0, 0, 0, 0), .inl 0, [], none)),
  (50, (.ixor, (51, 0, 0, 0, 0, 0), .inl 0, [], none)),
  (51, (.iand, (52, 0, 0, 0, 0, 0), .inl 0, [], none)),
  (52, (.iaload, (53, 0, 0, 0, 0, 0), .inl 0, [], none)),
  (53, (.istore 5, (55, 0, 0, 0, 0, 0), .inl 0, [], none)),
  (55, (.iload 5, (57, 0, 0, 0, 0, 0), .inl 0, [], none)),
  (57, (.iload_n 2, (58, 0, 0, 0, 0, 0), .inl 0, [], none)),
  (58, (.if_icmp .le 8, (61, 66, 0, 0, 0, 0), .inl 0, [], none)),
  (61, (.iload 5, (63, 0, 0, 0, 0, 0), .inl 0, [], none)),
  (63, (.goto 4, (66, 67, 0, 0, 0, 0), .inl 0, [], none)),
  (66, (.iload_n 2, (67, 0, 0, 0, 0, 0), .inl 0, [], none)),
  (67, (.istore_n 2, (68, 0, 0, 0, 0, 0), .inl 0, [], none)),
  (68, (.iinc 4 1, (71, 0, 0, 0, 0, 0), .inl 0, [], none)),
  (71, (.goto (-54), (74, 17, 0, 0, 0, 0), .inl 0, [], none)),
  (74, (.iinc 3 1, (77, 0, 0, 0, 0, 0), .inl 0, [], none)),
  (77, (.goto (-73), (80, 4, 0, 0, 0, 0), .inl 0, [], none)),
  (80, (.iload_n 2, (81, 0, 0, 0, 0, 0), .inl 0, [], none)),
  (81, (.ifCond .lt 7, (84, 88, 0, 0, 0, 0), .inl 0, [], none)),
  (84, (.iload_n 2, (85, 0, 0, 0, 0, 0), .inl 0, [], none)),
  (85, (.goto 20, (88, 105, 0, 0, 0, 0), .inl 0, [], none)),
  (88, (.aload_n 0, (89, 0, 0, 0, 0, 0), .inl 0, [], none)),
  (89, (.getfield 39, (92, 13, 20, 2, 0, 0), .inl 0, [], none)),
  (92, (.iconst 5, (93, 0, 0, 0, 0, 0), .inl 0, [], none)),
  (93, (.iaload, (94, 0, 0, 0, 0, 0), .inl 0, [], none)),
  (94, (.iconst 1, (95, 0, 0, 0, 0, 0), .inl 0, [], none)),
  (95, (.if_icmp .ne 9, (98, 104, 0, 0, 0, 0), .inl 0, [], none)),
  (98, (.sipush 10000, (101, 0, 0, 0, 0, 0), .inl 0, [], none)),
  (101, (.goto 4, (104, 105, 0, 0, 0, 0), .inl 0, [], none)),
  (104, (.iconst 0, (105, 0, 0, 0, 0, 0), .inl 0, [], none)),
  (105, (.ireturn, (106, 0, 0, 0, 0, 0), .inl 0, [], none))]
def z_M_childAt : List (Nat × sk_E) := [
  (0, (.iconst 0, (1, 0, 0, 0, 0, 0), .inl 0, [], none)),
  (1, (.istore_n 2, (2, 0, 0, 0, 0, 0), .inl 0, [], none)),
  (2, (.iconst 0, (3, 0, 0, 0, 0, 0), .inl 0, [], none)),
  (3, (.istore_n 3, (4, 0, 0, 0, 0, 0), .inl 0, [], none)),
  (4, (.iconst 0, (5, 0, 0, 0, 0, 0), .inl 0, [], none)),
  (5, (.istore 4, (7, 0, 0, 0, 0, 0), .inl 0, [], none)),
  (7, (.iload 4, (9, 0, 0, 0, 0, 0), .inl 0, [], some [true, true, true, true, true, false])),
  (9, (.aload_n 0, (10, 0, 0, 0, 0, 0), .inl 0, [], none)),
  (10, (.getfield 39, (13, 13, 20, 2, 0, 0), .inl 0, [], none)),
  (13, (.iconst 1, (14, 0, 0, 0, 0, 0), .inl 0, [], none)),
  (14, (.iaload, (15, 0, 0, 0, 0, 0), .inl 0, [], none)),
  (15, (.if_icmp .ge 62, (18, 77, 0, 0, 0, 0), .inl 0, [], none)),
  (18, (.iconst 1, (19, 0, 0, 0, 0, 0), .inl 0, [], none)),
  (19, (.istore 5, (21, 0, 0, 0, 0, 0), .inl 0, [], none)),
  (21, (.iload 5, (23, 0, 0, 0, 0, 0), .inl 0, [], some [true, true, true, true, true, true])),
  (23, (.iconst 4, (24, 0, 0, 0, 0, 0), .inl 0, [], none)),
  (24, (.if_icmp .gt 47, (27, 71, 0, 0, 0, 0), .inl 0, [], none)),
  (27, (.aload_n 0, (28, 0, 0, 0, 0, 0), .inl 0, [], none)),
  (28, (.iload_n 1, (29, 0, 0, 0, 0, 0), .inl 0, [], none)),
  (29, (.iload 4, (31, 0, 0, 0, 0, 0), .inl 0, [], none)),
  (31, (.iload 5, (33, 0, 0, 0, 0, 0), .inl 0, [], none)),
  (33, (.invokevirtual 314, (36, 181, 4, 1, 4, 13), .inl 0, [], none)),
  (36, (.ifCond .ne 6, (39, 42, 0, 0, 0, 0), .inl 0, [], none)),
  (39, (.goto 26, (42, 65, 0, 0, 0, 0), .inl 0, [], none)),
  (42, (.iload_n 2, (43, 0, 0, 0, 0, 0), .inl 0, [], none)),
  (43, (.aload_n 0, (44, 0, 0, 0, 0, 0), .inl 0, [], none)),
  (44, (.getfield 62, (47, 13, 29, 2, 0, 0), .inl 0, [], none)),
  (47, (.iload_n 1, (48, 0, 0, 0, 0, 0), .inl 0, [], none)),
  (48, (.aload_n 0, (49, 0, 0, 0, 0, 0), .inl 0, [], none)),
  (49, (.iload 4, (51, 0, 0, 0, 0, 0), .inl 0, [], none)),
  (51, (.iload 5, (53, 0, 0, 0, 0, 0), .inl 0, [], none)),
  (53, (.invokevirtual 297, (56, 178, 3, 1, 6, 13), .inl 0, [], none)),
  (56, (.iconst (-1), (57, 0, 0, 0, 0, 0), .inl 0, [], none)),
  (57, (.ixor, (58, 0, 0, 0, 0, 0), .inl 0, [], none)),
  (58, (.iand, (59, 0, 0, 0, 0, 0), .inl 0, [], none)),
  (59, (.iaload, (60, 0, 0, 0, 0, 0), .inl 0, [], none)),
  (60, (.iadd, (61, 0, 0, 0, 0, 0), .inl 0, [], none)),
  (61, (.istore_n 2, (62, 0, 0, 0, 0, 0), .inl 0, [], none)),
  (62, (.iinc 3 1, (65, 0, 0, 0, 0, 0), .inl 0, [], none)),
  (65, (.iinc 5 1, (68, 0, 0, 0, 0, 0), .inl 0, [], none)),
  (68, (.goto (-47), (71, 21, 0, 0, 0, 0), .inl 0, [], none)),
  (71, (.iinc 4 1, (74, 0, 0, 0, 0, 0), .inl 0, [], none)),
  (74, (.goto (-67), (77, 7, 0, 0, 0, 0), .inl 0, [], none)),
  (77, (.iload_n 3, (78, 0, 0, 0, 0, 0), .inl 0, [], none)),
  (78, (.ifCond .le 9, (81, 87, 0, 0, 0, 0), .inl 0, [], none)),
  (81, (.iload_n 2, (82, 0, 0, 0, 0, 0), .inl 0, [], none)),
  (82, (.iload_n 3, (83, 0, 0, 0, 0, 0), .inl 0, [], none)),
  (83, (.idiv, (84, 0, 0, 0, 0, 0), .inl 0, [], none)),
  (84, (.goto 20, (87, 104, 0, 0, 0, 0), .inl 0, [], none)),
  (87, (.aload_n 0, (88, 0, 0, 0, 0, 0), .inl 0, [], none)),
  (88, (.getfield 39, (91, 13, 20, 2, 0, 0), .inl 0, [], none)),
  (91, (.iconst 5, (92, 0, 0, 0, 0, 0), .inl 0, [], none)),
  (92, (.iaload, (93, 0, 0, 0, 0, 0), .inl 0, [], none)),
  (93, (.iconst 1, (94, 0, 0, 0, 0, 0), .inl 0, [], none)),
  (94, (.if_icmp .ne 7, (97, 101, 0, 0, 0, 0), .inl 0, [], none)),
  (97, (.iconst 0, (98, 0, 0, 0, 0, 0), .inl 0, [], none)),
  (98, (.goto 6, (101, 104, 0, 0, 0, 0), .inl 0, [], none)),
  (101, (.sipush 10000, (104, 0, 0, 0, 0, 0), .inl 0, [], none)),
  (104, (.ireturn, (105, 0, 0, 0, 0, 0), .inl 0, [], none))]
def z_M_child : List (Nat × sk_E) := [
  (0, (.aload_n 0, (1, 0, 0, 0, 0, 0), .inl 0, [], none)),
  (1, (.invokevirtual 326, (4, 174, 1, 1, 1, 13), .inl 0, [], none)),
  (4, (.ifCond .ne 5, (7, 9, 0, 0, 0, 0), .inl 0, [], none)),
  (7, (.iconst (-1), (8, 0, 0, 0, 0, 0), .inl 0, [], none)),
  (8, (.ireturn, (9, 0, 0, 0, 0, 0), .inl 0, [], none)),
  (9, (.iconst 0, (10, 0, 0, 0, 0, 0), .inl 0, [], none)),
  (10, (.istore_n 1, (11, 0, 0, 0, 0, 0), .inl 0, [], none)),
  (11, (.iload_n 1, (12, 0, 0, 0, 0, 0), .inl 0, [], some [true, true])),
  (12, (.aload_n 0, (13, 0, 0, 0, 0, 0), .inl 0, [], none)),
  (13, (.getfield 39, (16, 13, 20, 2, 0, 0), .inl 0, [], none)),
  (16, (.bipush 8, (18, 0, 0, 0, 0, 0), .inl 0, [], none)),
  (18, (.iaload, (19, 0, 0, 0, 0, 0), .inl 0, [], none)),
  (19, (.if_icmp .gt 31, (22, 50, 0, 0, 0, 0), .inl 0, [], none)),
  (22, (.aload_n 0, (23, 0, 0, 0, 0, 0), .inl 0, [], none)),
  (23, (.getfield 62, (26, 13, 29, 2, 0, 0), .inl 0, [], none)),
  (26, (.iload_n 1, (27, 0, 0, 0, 0, 0), .inl 0, [], none)),
  (27, (.aload_n 0, (28, 0, 0, 0, 0, 0), .inl 0, [], none)),
  (28, (.iload_n 1, (29, 0, 0, 0, 0, 0), .inl 0, [], none)),
  (29, (.invokevirtual 374, (32, 212, 2, 1, 6, 13), .inl 0, [], none)),
  (32, (.iastore, (33, 0, 0, 0, 0, 0), .inl 0, [], none)),
  (33, (.aload_n 0, (34, 0, 0, 0, 0, 0), .inl 0, [], none)),
  (34, (.getfield 65, (37, 13, 30, 2, 0, 0), .inl 0, [], none)),
  (37, (.iload_n 1, (38, 0, 0, 0, 0, 0), .inl 0, [], none)),
  (38, (.aload_n 0, (39, 0, 0, 0, 0, 0), .inl 0, [], none)),
  (39, (.iload_n 1, (40, 0, 0, 0, 0, 0), .inl 0, [], none)),
  (40, (.invokevirtual 377, (43, 213, 2, 1, 6, 13), .inl 0, [], none)),
  (43, (.iastore, (44, 0, 0, 0, 0, 0), .inl 0, [], none)),
  (44, (.iinc 1 1, (47, 0, 0, 0, 0, 0), .inl 0, [], none)),
  (47, (.goto (-36), (50, 11, 0, 0, 0, 0), .inl 0, [], none)),
  (50, (.aload_n 0, (51, 0, 0, 0, 0, 0), .inl 0, [], none)),
  (51, (.getfield 62, (54, 13, 29, 2, 0, 0), .inl 0, [], none)),
  (54, (.aload_n 0, (55, 0, 0, 0, 0, 0), .inl 0, [], none)),
  (55, (.getfield 39, (58, 13, 20, 2, 0, 0), .inl 0, [], none)),
  (58, (.bipush 8, (60, 0, 0, 0, 0, 0), .inl 0, [], none)),
  (60, (.iaload, (61, 0, 0, 0, 0, 0), .inl 0, [], none)),
  (61, (.iaload, (62, 0, 0, 0, 0, 0), .inl 0, [], none)),
  (62, (.ireturn, (63, 0, 0, 0, 0, 0), .inl 0, [], none))]
def z_M_countsRun : List (Nat × sk_E) := [
  (0, (.iload_n 1, (1, 0, 0, 0, 0, 0), .inl 0, [], none)),
  (1, (.ifCond .ne 4, (4, 5, 0, 0, 0, 0), .inl 0, [], none)),
  (4, (.return_, (5, 0, 0, 0, 0, 0), .inl 0, [], none)),
  (5, (.aload_n 0, (6, 0, 0, 0, 0, 0), .inl 0, [], none)),
  (6, (.dup, (7, 0, 0, 0, 0, 0), .inl 0, [], none)),
  (7, (.getfield 380, (10, 13, 31, 0, 0, 0), .inl 0, [], none)),
  (10, (.iconst 1, (11, 0, 0, 0, 0, 0), .inl 0, [], none)),
  (11, (.iadd, (12, 0, 0, 0, 0, 0), .inl 0, [], none)),
  (12, (.putfield 380, (15, 13, 31, 0, 0, 0), .inl 0, [], none)),
  (15, (.aload_n 0, (16, 0, 0, 0, 0, 0), .inl 0, [], none)),
  (16, (.iload_n 1, (17, 0, 0, 0, 0, 0), .inl 0, [], none)),
  (17, (.aload_n 0, (18, 0, 0, 0, 0, 0), .inl 0, [], none)),
  (18, (.getfield 383, (21, 13, 32, 0, 0, 0), .inl 0, [], none)),
  (21, (.if_icmp .le 7, (24, 28, 0, 0, 0, 0), .inl 0, [], none)),
  (24, (.iload_n 1, (25, 0, 0, 0, 0, 0), .inl 0, [], none)),
  (25, (.goto 7, (28, 32, 0, 0, 0, 0), .inl 0, [], none)),
  (28, (.aload_n 0, (29, 0, 0, 0, 0, 0), .inl 0, [], none)),
  (29, (.getfield 383, (32, 13, 32, 0, 0, 0), .inl 0, [], none)),
  (32, (.putfield 383, (35, 13, 32, 0, 0, 0), .inl 0, [], some [true, true])),
  (35, (.aload_n 0, (36, 0, 0, 0, 0, 0), .inl 0, [], none)),
  (36, (.dup, (37, 0, 0, 0, 0, 0), .inl 0, [], none)),
  (37, (.getfield 386, (40, 13, 33, 0, 0, 0), .inl 0, [], none)),
  (40, (.iload_n 1, (41, 0, 0, 0, 0, 0), .inl 0, [], none)),
  (41, (.iconst 1, (42, 0, 0, 0, 0, 0), .inl 0, [], none)),
  (42, (.if_icmp .ne 7, (45, 49, 0, 0, 0, 0), .inl 0, [], none)),
  (45, (.iconst 1, (46, 0, 0, 0, 0, 0), .inl 0, [], none)),
  (46, (.goto 4, (49, 50, 0, 0, 0, 0), .inl 0, [], none)),
  (49, (.iconst 0, (50, 0, 0, 0, 0, 0), .inl 0, [], none)),
  (50, (.iadd, (51, 0, 0, 0, 0, 0), .inl 0, [], none)),
  (51, (.putfield 386, (54, 13, 33, 0, 0, 0), .inl 0, [], none)),
  (54, (.return_, (55, 0, 0, 0, 0, 0), .inl 0, [], none))]
def z_M_countsRow : List (Nat × sk_E) := [
  (0, (.aload_n 0, (1, 0, 0, 0, 0, 0), .inl 0, [], none)),
  (1, (.getfield 39, (4, 13, 20, 2, 0, 0), .inl 0, [], none)),
  (4, (.bipush 12, (6, 0, 0, 0, 0, 0), .inl 0, [], none)),
  (6, (.iload_n 2, (7, 0, 0, 0, 0, 0), .inl 0, [], none)),
  (7, (.iadd, (8, 0, 0, 0, 0, 0), .inl 0, [], none)),
  (8, (.iaload, (9, 0, 0, 0, 0, 0), .inl 0, [], none)),
  (9, (.istore_n 3, (10, 0, 0, 0, 0, 0), .inl 0, [], none)),
  (10, (.aload_n 0, (11, 0, 0, 0, 0, 0), .inl 0, [], none)),
  (11, (.getfield 39, (14, 13, 20, 2, 0, 0), .inl 0, [], none)),
  (14, (.bipush 16, (16, 0, 0, 0, 0, 0), .inl 0, [], none)),
  (16, (.iload_n 2, (17, 0, 0, 0, 0, 0), .inl 0, [], none)),
  (17, (.iadd, (18, 0, 0, 0, 0, 0), .inl 0, [], none)),
  (18, (.iaload, (19, 0, 0, 0, 0, 0), .inl 0, [], none)),
  (19, (.istore 4, (21, 0, 0, 0, 0, 0), .inl 0, [], none)),
  (21, (.iconst 0, (22, 0, 0, 0, 0, 0), .inl 0, [], none)),
  (22, (.istore 5, (24, 0, 0, 0, 0, 0), .inl 0, [], none)),
  (24, (.aload_n 0, (25, 0, 0, 0, 0, 0), .inl 0, [], none)),
  (25, (.getfield 39, (28, 13, 20, 2, 0, 0), .inl 0, [], none)),
  (28, (.bipush 20, (30, 0, 0, 0, 0, 0), .inl 0, [], none)),
  (30, (.iload_n 2, (31, 0, 0, 0, 0, 0), .inl 0, [], none)),
  (31, (.iadd, (32, 0, 0, 0, 0, 0), .inl 0, [], none)),
  (32, (.iaload, (33, 0, 0, 0, 0, 0), .inl 0, [], none)),
  (33, (.iconst 1, (34, 0, 0, 0, 0, 0), .inl 0, [], none)),
  (34, (.if_icmp .ne 37, (37, 71, 0, 0, 0, 0), .inl 0, [], none)),
  (37, (.iload 5, (39, 0, 0, 0, 0, 0), .inl 0, [], some [true, true, false, true, true, true, false, false])),
  (39, (.iload 4, (41, 0, 0, 0, 0, 0), .inl 0, [], none)),
  (41, (.if_icmp .ge 20, (44, 61, 0, 0, 0, 0), .inl 0, [], none)),
  (44, (.iload_n 1, (45, 0, 0, 0, 0, 0), .inl 0, [], none)),
  (45, (.iload_n 3, (46, 0, 0, 0, 0, 0), .inl 0, [], none)),
  (46, (.iload 5, (48, 0, 0, 0, 0, 0), .inl 0, [], none)),
  (48, (.iadd, (49, 0, 0, 0, 0, 0), .inl 0, [], none)),
  (49, (.invokestatic 290, (52, 128, 2, 1, 2, 0), .inl 0, [], none)),
  (52, (.ifCond .eq 9, (55, 61, 0, 0, 0, 0), .inl 0, [], none)),
  (55, (.iinc 5 1, (58, 0, 0, 0, 0, 0), .inl 0, [], none)),
  (58, (.goto (-21), (61, 37, 0, 0, 0, 0), .inl 0, [], none)),
  (61, (.iload 5, (63, 0, 0, 0, 0, 0), .inl 0, [], none)),
  (63, (.iload 4, (65, 0, 0, 0, 0, 0), .inl 0, [], none)),
  (65, (.if_icmp .ne 6, (68, 71, 0, 0, 0, 0), .inl 0, [], none)),
  (68, (.iconst 0, (69, 0, 0, 0, 0, 0), .inl 0, [], none)),
  (69, (.istore 5, (71, 0, 0, 0, 0, 0), .inl 0, [], none)),
  (71, (.iconst 0, (72, 0, 0, 0, 0, 0), .inl 0, [], none)),
  (72, (.istore 6, (74, 0, 0, 0, 0, 0), .inl 0, [], none)),
  (74, (.iconst 0, (75, 0, 0, 0, 0, 0), .inl 0, [], none)),
  (75, (.istore 7, (77, 0, 0, 0, 0, 0), .inl 0, [], none)),
  (77, (.iload 7, (79, 0, 0, 0, 0, 0), .inl 0, [], some [true, true, false, true, true, true, true, true])),
  (79, (.iload 4, (81, 0, 0, 0, 0, 0), .inl 0, [], none)),
  (81, (.if_icmp .ge 41, (84, 122, 0, 0, 0, 0), .inl 0, [], none)),
  (84, (.iload_n 1, (85, 0, 0, 0, 0, 0), .inl 0, [], none)),
  (85, (.iload_n 3, (86, 0, 0, 0, 0, 0), .inl 0, [], none)),
  (86, (.iload 5, (88, 0, 0, 0, 0, 0), .inl 0, [], none)),
  (88, (.iload 7, (90, 0, 0, 0, 0, 0), .inl 0, [], none)),
  (90, (.iadd, (91, 0, 0, 0, 0, 0), .inl 0, [], none)),
  (91, (.iload 4, (93, 0, 0, 0, 0, 0), .inl 0, [], none)),
  (93, (.irem, (94, 0, 0, 0, 0, 0), .inl 0, [], none)),
  (94, (.iadd, (95, 0, 0, 0, 0, 0), .inl 0, [], none)),
  (95, (.invokestatic 290, (98, 128, 2, 1, 2, 0), .inl 0, [], none)),
  (98, (.ifCond .eq 9, (101, 107, 0, 0, 0, 0), .inl 0, [], none)),
  (101, (.iinc 6 1, (104, 0, 0, 0, 0, 0), .inl 0, [], none)),
  (104, (.goto 12, (107, 116, 0, 0, 0, 0), .inl 0, [], none)),
  (107, (.aload_n 0, (108, 0, 0, 0, 0, 0), .inl 0, [], none)),
  (108, (.iload 6, (110, 0, 0, 0, 0, 0), .inl 0, [], none)),
  (110, (.invokevirtual 389, (113, 215, 2, 0, 2, 13), .inl 0, [], none)),
  (113, (.iconst 0, (114, 0, 0, 0, 0, 0), .inl 0, [], none)),
  (114, (.istore 6, (116, 0, 0, 0, 0, 0), .inl 0, [], none)),
  (116, (.iinc 7 1, (119, 0, 0, 0, 0, 0), .inl 0, [], none)),
  (119, (.goto (-42), (122, 77, 0, 0, 0, 0), .inl 0, [], none)),
  (122, (.aload_n 0, (123, 0, 0, 0, 0, 0), .inl 0, [], none)),
  (123, (.iload 6, (125, 0, 0, 0, 0, 0), .inl 0, [], none)),
  (125, (.invokevirtual 389, (128, 215, 2, 0, 2, 13), .inl 0, [], none)),
  (128, (.return_, (129, 0, 0, 0, 0, 0), .inl 0, [], none))]
def z_M_countsRuns : List (Nat × sk_E) := [
  (0, (.aload_n 0, (1, 0, 0, 0, 0, 0), .inl 0, [], none)),
  (1, (.iconst 0, (2, 0, 0, 0, 0, 0), .inl 0, [], none)),
  (2, (.putfield 380, (5, 13, 31, 0, 0, 0), .inl 0, [], none)),
  (5, (.aload_n 0, (6, 0, 0, 0, 0, 0), .inl 0, [], none)),
  (6, (.iconst 0, (7, 0, 0, 0, 0, 0), .inl 0, [], none)),
  (7, (.putfield 383, (10, 13, 32, 0, 0, 0), .inl 0, [], none)),
  (10, (.aload_n 0, (11, 0, 0, 0, 0, 0), .inl 0, [], none)),
  (11, (.iconst 0, (12, 0, 0, 0, 0, 0), .inl 0, [], none)),
  (12, (.putfield 386, (15, 13, 33, 0, 0, 0), .inl 0, [], none)),
  (15, (.iconst 0, (16, 0, 0, 0, 0, 0), .inl 0, [], none)),
  (16, (.istore_n 2, (17, 0, 0, 0, 0, 0), .inl 0, [], none)),
  (17, (.iload_n 2, (18, 0, 0, 0, 0, 0), .inl 0, [], some [true, true, true])),
  (18, (.aload_n 0, (19, 0, 0, 0, 0, 0), .inl 0, [], none)),
  (19, (.getfield 39, (22, 13, 20, 2, 0, 0), .inl 0, [], none)),
  (22, (.iconst 2, (23, 0, 0, 0, 0, 0), .inl 0, [], none)),
  (23, (.iaload, (24, 0, 0, 0, 0, 0), .inl 0, [], none)),
  (24, (.if_icmp .ge 15, (27, 39, 0, 0, 0, 0), .inl 0, [], none)),
  (27, (.aload_n 0, (28, 0, 0, 0, 0, 0), .inl 0, [], none)),
  (28, (.iload_n 1, (29, 0, 0, 0, 0, 0), .inl 0, [], none)),
  (29, (.iload_n 2, (30, 0, 0, 0, 0, 0), .inl 0, [], none)),
  (30, (.invokevirtual 392, (33, 216, 3, 0, 8, 13), .inl 0, [], none)),
  (33, (.iinc 2 1, (36, 0, 0, 0, 0, 0), .inl 0, [], none)),
  (36, (.goto (-19), (39, 17, 0, 0, 0, 0), .inl 0, [], none)),
  (39, (.return_, (40, 0, 0, 0, 0, 0), .inl 0, [], none))]
def z_M_words : List (Nat × sk_E) := [
  (0, (.iload_n 1, (1, 0, 0, 0, 0, 0), .inl 0, [], none)),
  (1, (.aload_n 0, (2, 0, 0, 0, 0, 0), .inl 0, [], none)),
  (2, (.iload 4, (4, 0, 0, 0, 0, 0), .inl 0, [], none)),
  (4, (.iload 5, (6, 0, 0, 0, 0, 0), .inl 0, [], none)),
  (6, (.invokevirtual 297, (9, 178, 3, 1, 6, 13), .inl 0, [], none)),
  (9, (.iconst (-1), (10, 0, 0, 0, 0, 0), .inl 0, [], none)),
  (10, (.ixor, (11, 0, 0, 0, 0, 0), .inl 0, [], none)),
  (11, (.iand, (12, 0, 0, 0, 0, 0), .inl 0, [], none)),
  (12, (.istore 6, (14, 0, 0, 0, 0, 0), .inl 0, [], none)),
  (14, (.aload_n 0, (15, 0, 0, 0, 0, 0), .inl 0, [], none)),
  (15, (.iload 6, (17, 0, 0, 0, 0, 0), .inl 0, [], none)),
  (17, (.invokevirtual 395, (20, 217, 2, 0, 3, 13), .inl 0, [], none)),
  (20, (.aload_n 0, (21, 0, 0, 0, 0, 0), .inl 0, [], none)),
  (21, (.getfield 36, (24, 13, 19, 2, 0, 0), .inl 0, [], none)),
  (24, (.iconst 0, (25, 0, 0, 0, 0, 0), .inl 0, [], none)),
  (25, (.iload 4, (27, 0, 0, 0, 0, 0), .inl 0, [], none)),
  (27, (.i2l, (28, 0, 0, 0, 0, 0), .inl 0, [], none)),
  (28, (.lastore, (29, 0, 0, 0, 0, 0), .inl 0, [], none)),
  (29, (.aload_n 0, (30, 0, 0, 0, 0, 0), .inl 0, [], none)),
  (30, (.getfield 36, (33, 13, 19, 2, 0, 0), .inl 0, [], none)),
  (33, (.iconst 1, (34, 0, 0, 0, 0, 0), .inl 0, [], none)),
  (34, (.iload 5, (36, 0, 0, 0, 0, 0), .inl 0, [], none)),
  (36, (.i2l, (37, 0, 0, 0, 0, 0), .inl 0, [], none)),
  (37, (.lastore, (38, 0, 0, 0, 0, 0), .inl 0, [], none)),
  (38, (.aload_n 0, (39, 0, 0, 0, 0, 0), .inl 0, [], none)),
  (39, (.getfield 36, (42, 13, 19, 2, 0, 0), .inl 0, [], none)),
  (42, (.iconst 2, (43, 0, 0, 0, 0, 0), .inl 0, [], none)),
  (43, (.aload_n 0, (44, 0, 0, 0, 0, 0), .inl 0, [], none)),
  (44, (.iload 4, (46, 0, 0, 0, 0, 0), .inl 0, [], none)),
  (46, (.invokevirtual 287, (49, 176, 2, 1, 3, 13), .inl 0, [], none)),
  (49, (.i2l, (50, 0, 0, 0, 0, 0), .inl 0, [], none)),
  (50, (.lastore, (51, 0, 0, 0, 0, 0), .inl 0, [], none)),
  (51, (.aload_n 0, (52, 0, 0, 0, 0, 0), .inl 0, [], none)),
  (52, (.getfield 36, (55, 13, 19, 2, 0, 0), .inl 0, [], none)),
  (55, (.iconst 3, (56, 0, 0, 0, 0, 0), .inl 0, [], none)),
  (56, (.iload_n 1, (57, 0, 0, 0, 0, 0), .inl 0, [], none)),
  (57, (.invokestatic 340, (60, 129, 1, 1, 3, 0), .inl 0, [], none)),
  (60, (.i2l, (61, 0, 0, 0, 0, 0), .inl 0, [], none)),
  (61, (.lastore, (62, 0, 0, 0, 0, 0), .inl 0, [], none)),
  (62, (.aload_n 0, (63, 0, 0, 0, 0, 0), .inl 0, [], none)),
  (63, (.getfield 36, (66, 13, 19, 2, 0, 0), .inl 0, [], none)),
  (66, (.iconst 4, (67, 0, 0, 0, 0, 0), .inl 0, [], none)),
  (67, (.iload 6, (69, 0, 0, 0, 0, 0), .inl 0, [], none)),
  (69, (.invokestatic 340, (72, 129, 1, 1, 3, 0), .inl 0, [], none)),
  (72, (.i2l, (73, 0, 0, 0, 0, 0), .inl 0, [], none)),
  (73, (.lastore, (74, 0, 0, 0, 0, 0), .inl 0, [], none)),
  (74, (.aload_n 0, (75, 0, 0, 0, 0, 0), .inl 0, [], none)),
  (75, (.getfield 36, (78, 13, 19, 2, 0, 0), .inl 0, [], none)),
  (78, (.iconst 5, (79, 0, 0, 0, 0, 0), .inl 0, [], none)),
  (79, (.aload_n 0, (80, 0, 0, 0, 0, 0), .inl 0, [], none)),
  (80, (.getfield 380, (83, 13, 31, 0, 0, 0), .inl 0, [], none)),
  (83, (.i2l, (84, 0, 0, 0, 0, 0), .inl 0, [], none)),
  (84, (.lastore, (85, 0, 0, 0, 0, 0), .inl 0, [], none)),
  (85, (.aload_n 0, (86, 0, 0, 0, 0, 0), .inl 0, [], none)),
  (86, (.getfield 36, (89, 13, 19, 2, 0, 0), .inl 0, [], none)),
  (89, (.bipush 6, (91, 0, 0, 0, 0, 0), .inl 0, [], none)),
  (91, (.aload_n 0, (92, 0, 0, 0, 0, 0), .inl 0, [], none)),
  (92, (.getfield 383, (95, 13, 32, 0, 0, 0), .inl 0, [], none)),
  (95, (.i2l, (96, 0, 0, 0, 0, 0), .inl 0, [], none)),
  (96, (.lastore, (97, 0, 0, 0, 0, 0), .inl 0, [], none)),
  (97, (.aload_n 0, (98, 0, 0, 0, 0, 0), .inl 0, [], none)),
  (98, (.getfield 36, (101, 13, 19, 2, 0, 0), .inl 0, [], none)),
  (101, (.bipush 7, (103, 0, 0, 0, 0, 0), .inl 0, [], none)),
  (103, (.aload_n 0, (104, 0, 0, 0, 0, 0), .inl 0, [], none)),
  (104, (.getfield 386, (107, 13, 33, 0, 0, 0), .inl 0, [], none)),
  (107, (.i2l, (108, 0, 0, 0, 0, 0), .inl 0, [], none)),
  (108, (.lastore, (109, 0, 0, 0, 0, 0), .inl 0, [], none)),
  (109, (.aload_n 0, (110, 0, 0, 0, 0, 0), .inl 0, [], none)),
  (110, (.getfield 36, (113, 13, 19, 2, 0, 0), .inl 0, [], none)),
  (113, (.bipush 8, (115, 0, 0, 0, 0, 0), .inl 0, [], none)),
  (115, (.aload_n 0, (116, 0, 0, 0, 0, 0), .inl 0, [], none)),
  (116, (.iload 6, (118, 0, 0, 0, 0, 0), .inl 0, [], none)),
  (118, (.invokevirtual 318, (121, 184, 2, 1, 2, 13), .inl 0, [], none)),
  (121, (.ifCond .eq 7, (124, 128, 0, 0, 0, 0), .inl 0, [], none)),
  (124, (.lconst 0, (125, 0, 0, 0, 0, 0), .inl 0, [], none)),
  (125, (.goto 4, (128, 129, 0, 0, 0, 0), .inl 0, [], none)),
  (128, (.lconst 1, (129, 0, 0, 0, 0, 0), .inl 0, [], none)),
  (129, (.lastore, (130, 0, 0, 0, 0, 0), .inl 0, [], none)),
  (130, (.aload_n 0, (131, 0, 0, 0, 0, 0), .inl 0, [], none)),
  (131, (.getfield 36, (134, 13, 19, 2, 0, 0), .inl 0, [], none)),
  (134, (.bipush 9, (136, 0, 0, 0, 0, 0), .inl 0, [], none)),
  (136, (.iload_n 2, (137, 0, 0, 0, 0, 0), .inl 0, [], none)),
  (137, (.i2l, (138, 0, 0, 0, 0, 0), .inl 0, [], none)),
  (138, (.lastore, (139, 0, 0, 0, 0, 0), .inl 0, [], none)),
  (139, (.aload_n 0, (140, 0, 0, 0, 0, 0), .inl 0, [], none)),
  (140, (.getfield 36, (143, 13, 19, 2, 0, 0), .inl 0, [], none)),
  (143, (.bipush 10, (145, 0, 0, 0, 0, 0), .inl 0, [], none)),
  (145, (.iload_n 3, (146, 0, 0, 0, 0, 0), .inl 0, [], none)),
  (146, (.i2l, (147, 0, 0, 0, 0, 0), .inl 0, [], none)),
  (147, (.lastore, (148, 0, 0, 0, 0, 0), .inl 0, [], none)),
  (148, (.return_, (149, 0, 0, 0, 0, 0), .inl 0, [], none))]
def z_M_summedBy : List (Nat × sk_E) := [
  (0, (.iconst 0, (1, 0, 0, 0, 0, 0), .inl 0, [], none)),
  (1, (.istore_n 2, (2, 0, 0, 0, 0, 0), .inl 0, [], none)),
  (2, (.iload_n 2, (3, 0, 0, 0, 0, 0), .inl 0, [], some [true, true, true, false])),
  (3, (.aload_n 0, (4, 0, 0, 0, 0, 0), .inl 0, [], none)),
  (4, (.getfield 23, (7, 13, 6, 2, 0, 0), .inl 0, [], none)),
  (7, (.iload_n 1, (8, 0, 0, 0, 0, 0), .inl 0, [], none)),
  (8, (.iaload, (9, 0, 0, 0, 0, 0), .inl 0, [], none)),
  (9, (.if_icmp .ge 75, (12, 84, 0, 0, 0, 0), .inl 0, [], none)),
  (12, (.bipush 48, (14, 0, 0, 0, 0, 0), .inl 0, [], none)),
  (14, (.iload_n 1, (15, 0, 0, 0, 0, 0), .inl 0, [], none)),
  (15, (.imul, (16, 0, 0, 0, 0, 0), .inl 0, [], none)),
  (16, (.iconst 4, (17, 0, 0, 0, 0, 0), .inl 0, [], none)),
  (17, (.iload_n 2, (18, 0, 0, 0, 0, 0), .inl 0, [], none)),
  (18, (.imul, (19, 0, 0, 0, 0, 0), .inl 0, [], none)),
  (19, (.iadd, (20, 0, 0, 0, 0, 0), .inl 0, [], none)),
  (20, (.istore_n 3, (21, 0, 0, 0, 0, 0), .inl 0, [], none)),
  (21, (.aload_n 0, (22, 0, 0, 0, 0, 0), .inl 0, [], none)),
  (22, (.getfield 20, (25, 13, 5, 2, 0, 0), .inl 0, [], none)),
  (25, (.iload_n 3, (26, 0, 0, 0, 0, 0), .inl 0, [], none)),
  (26, (.iconst 2, (27, 0, 0, 0, 0, 0), .inl 0, [], none)),
  (27, (.iadd, (28, 0, 0, 0, 0, 0), .inl 0, [], none)),
  (28, (.iaload, (29, 0, 0, 0, 0, 0), .inl 0, [], none)),
  (29, (.ifCond .lt 29, (32, 58, 0, 0, 0, 0), .inl 0, [], none)),
  (32, (.aload_n 0, (33, 0, 0, 0, 0, 0), .inl 0, [], none)),
  (33, (.iload_n 1, (34, 0, 0, 0, 0, 0), .inl 0, [], none)),
  (34, (.aload_n 0, (35, 0, 0, 0, 0, 0), .inl 0, [], none)),
  (35, (.getfield 20, (38, 13, 5, 2, 0, 0), .inl 0, [], none)),
  (38, (.iload_n 3, (39, 0, 0, 0, 0, 0), .inl 0, [], none)),
  (39, (.iconst 2, (40, 0, 0, 0, 0, 0), .inl 0, [], none)),
  (40, (.iadd, (41, 0, 0, 0, 0, 0), .inl 0, [], none)),
  (41, (.iaload, (42, 0, 0, 0, 0, 0), .inl 0, [], none)),
  (42, (.aload_n 0, (43, 0, 0, 0, 0, 0), .inl 0, [], none)),
  (43, (.getfield 20, (46, 13, 5, 2, 0, 0), .inl 0, [], none)),
  (46, (.iload_n 3, (47, 0, 0, 0, 0, 0), .inl 0, [], none)),
  (47, (.iconst 3, (48, 0, 0, 0, 0, 0), .inl 0, [], none)),
  (48, (.iadd, (49, 0, 0, 0, 0, 0), .inl 0, [], none)),
  (49, (.iaload, (50, 0, 0, 0, 0, 0), .inl 0, [], none)),
  (50, (.invokevirtual 398, (53, 173, 4, 2, 11, 13), .inl 0, [], none)),
  (53, (.lconst 1, (54, 0, 0, 0, 0, 0), .inl 0, [], none)),
  (54, (.lcmp, (55, 0, 0, 0, 0, 0), .inl 0, [], none)),
  (55, (.ifCond .ne 23, (58, 78, 0, 0, 0, 0), .inl 0, [], none)),
  (58, (.aload_n 0, (59, 0, 0, 0, 0, 0), .inl 0, [], some [true, true, false, true])),
  (59, (.iload_n 1, (60, 0, 0, 0, 0, 0), .inl 0, [], none)),
  (60, (.aload_n 0, (61, 0, 0, 0, 0, 0), .inl 0, [], none)),
  (61, (.getfield 20, (64, 13, 5, 2, 0, 0), .inl 0, [], none)),
  (64, (.iload_n 3, (65, 0, 0, 0, 0, 0), .inl 0, [], none)),
  (65, (.iaload, (66, 0, 0, 0, 0, 0), .inl 0, [], none)),
  (66, (.aload_n 0, (67, 0, 0, 0, 0, 0), .inl 0, [], none)),
  (67, (.getfield 20, (70, 13, 5, 2, 0, 0), .inl 0, [], none)),
  (70, (.iload_n 3, (71, 0, 0, 0, 0, 0), .inl 0, [], none)),
  (71, (.iconst 1, (72, 0, 0, 0, 0, 0), .inl 0, [], none)),
  (72, (.iadd, (73, 0, 0, 0, 0, 0), .inl 0, [], none)),
  (73, (.iaload, (74, 0, 0, 0, 0, 0), .inl 0, [], none)),
  (74, (.invokevirtual 398, (77, 173, 4, 2, 11, 13), .inl 0, [], none)),
  (77, (.lreturn, (78, 0, 0, 0, 0, 0), .inl 0, [], none)),
  (78, (.iinc 2 1, (81, 0, 0, 0, 0, 0), .inl 0, [], none)),
  (81, (.goto (-79), (84, 2, 0, 0, 0, 0), .inl 0, [], none)),
  (84, (.lconst 0, (85, 0, 0, 0, 0, 0), .inl 0, [], none)),
  (85, (.lreturn, (86, 0, 0, 0, 0, 0), .inl 0, [], none))]
def z_M_strokeBy : List (Nat × sk_E) := [
  (0, (.iconst (-1), (1, 0, 0, 0, 0, 0), .inl 0, [], none)),
  (1, (.istore 5, (3, 0, 0, 0, 0, 0), .inl 0, [], none)),
  (3, (.lconst 0, (4, 0, 0, 0, 0, 0), .inl 0, [], none)),
  (4, (.lstore 6, (6, 0, 0, 0, 0, 0), .inl 0, [], none)),
  (6, (.iconst 0, (7, 0, 0, 0, 0, 0), .inl 0, [], none)),
  (7, (.istore 8, (9, 0, 0, 0, 0, 0), .inl 0, [], none)),
  (9, (.iload 8, (11, 0, 0, 0, 0, 0), .inl 0, [], some [true, true, true, true, true, true, true, false, true, false, false, false])),
  (11, (.aload_n 0, (12, 0, 0, 0, 0, 0), .inl 0, [], none)),
  (12, (.getfield 39, (15, 13, 20, 2, 0, 0), .inl 0, [], none)),
  (15, (.iconst 1, (16, 0, 0, 0, 0, 0), .inl 0, [], none)),
  (16, (.iaload, (17, 0, 0, 0, 0, 0), .inl 0, [], none)),
  (17, (.if_icmp .ge 92, (20, 109, 0, 0, 0, 0), .inl 0, [], none)),
  (20, (.iconst 1, (21, 0, 0, 0, 0, 0), .inl 0, [], none)),
  (21, (.istore 9, (23, 0, 0, 0, 0, 0), .inl 0, [], none)),
  (23, (.iload 9, (25, 0, 0, 0, 0, 0), .inl 0, [], some [true, true, true, true, true, true, true, false, true, true, false, false])),
  (25, (.iconst 4, (26, 0, 0, 0, 0, 0), .inl 0, [], none)),
  (26, (.if_icmp .gt 77, (29, 103, 0, 0, 0, 0), .inl 0, [], none)),
  (29, (.aload_n 0, (30, 0, 0, 0, 0, 0), .inl 0, [], none)),
  (30, (.iload_n 2, (31, 0, 0, 0, 0, 0), .inl 0, [], none)),
  (31, (.iload 8, (33, 0, 0, 0, 0, 0), .inl 0, [], none)),
  (33, (.iload 9, (35, 0, 0, 0, 0, 0), .inl 0, [], none)),
  (35, (.invokevirtual 314, (38, 181, 4, 1, 4, 13), .inl 0, [], none)),
  (38, (.ifCond .ne 6, (41, 44, 0, 0, 0, 0), .inl 0, [], none)),
  (41, (.goto 56, (44, 97, 0, 0, 0, 0), .inl 0, [], none)),
  (44, (.aload_n 0, (45, 0, 0, 0, 0, 0), .inl 0, [], none)),
  (45, (.iload_n 2, (46, 0, 0, 0, 0, 0), .inl 0, [], none)),
  (46, (.iload_n 3, (47, 0, 0, 0, 0, 0), .inl 0, [], none)),
  (47, (.iload 4, (49, 0, 0, 0, 0, 0), .inl 0, [], none)),
  (49, (.iload 8, (51, 0, 0, 0, 0, 0), .inl 0, [], none)),
  (51, (.iload 9, (53, 0, 0, 0, 0, 0), .inl 0, [], none)),
  (53, (.invokevirtual 402, (56, 218, 6, 0, 7, 13), .inl 0, [], none)),
  (56, (.aload_n 0, (57, 0, 0, 0, 0, 0), .inl 0, [], none)),
  (57, (.iload_n 1, (58, 0, 0, 0, 0, 0), .inl 0, [], none)),
  (58, (.invokevirtual 406, (61, 219, 2, 2, 4, 13), .inl 0, [], none)),
  (61, (.lstore 10, (63, 0, 0, 0, 0, 0), .inl 0, [], none)),
  (63, (.iload 5, (65, 0, 0, 0, 0, 0), .inl 0, [], none)),
  (65, (.ifCond .lt 14, (68, 79, 0, 0, 0, 0), .inl 0, [], none)),
  (68, (.lload 10, (70, 0, 0, 0, 0, 0), .inl 0, [], none)),
  (70, (.lload 6, (72, 0, 0, 0, 0, 0), .inl 0, [], none)),
  (72, (.lcmp, (73, 0, 0, 0, 0, 0), .inl 0, [], none)),
  (73, (.ifCond .gt 6, (76, 79, 0, 0, 0, 0), .inl 0, [], none)),
  (76, (.goto 21, (79, 97, 0, 0, 0, 0), .inl 0, [], none)),
  (79, (.iload_n 2, (80, 0, 0, 0, 0, 0), .inl 0, [], some [true, true, true, true, true, false, false, false, true, true, true, false])),
  (80, (.aload_n 0, (81, 0, 0, 0, 0, 0), .inl 0, [], none)),
  (81, (.iload 8, (83, 0, 0, 0, 0, 0), .inl 0, [], none)),
  (83, (.iload 9, (85, 0, 0, 0, 0, 0), .inl 0, [], none)),
  (85, (.invokevirtual 297, (88, 178, 3, 1, 6, 13), .inl 0, [], none)),
  (88, (.iconst (-1), (89, 0, 0, 0, 0, 0), .inl 0, [], none)),
  (89, (.ixor, (90, 0, 0, 0, 0, 0), .inl 0, [], none)),
  (90, (.iand, (91, 0, 0, 0, 0, 0), .inl 0, [], none)),
  (91, (.istore 5, (93, 0, 0, 0, 0, 0), .inl 0, [], none)),
  (93, (.lload 10, (95, 0, 0, 0, 0, 0), .inl 0, [], none)),
  (95, (.lstore 6, (97, 0, 0, 0, 0, 0), .inl 0, [], none)),
  (97, (.iinc 9 1, (100, 0, 0, 0, 0, 0), .inl 0, [], none)),
  (100, (.goto (-77), (103, 23, 0, 0, 0, 0), .inl 0, [], none)),
  (103, (.iinc 8 1, (106, 0, 0, 0, 0, 0), .inl 0, [], none)),
  (106, (.goto (-97), (109, 9, 0, 0, 0, 0), .inl 0, [], none)),
  (109, (.iload 5, (111, 0, 0, 0, 0, 0), .inl 0, [], none)),
  (111, (.ireturn, (112, 0, 0, 0, 0, 0), .inl 0, [], none))]
def z_M_winner : List (Nat × sk_E) := [
  (0, (.aload_n 0, (1, 0, 0, 0, 0, 0), .inl 0, [], none)),
  (1, (.getfield 39, (4, 13, 20, 2, 0, 0), .inl 0, [], none)),
  (4, (.iconst 5, (5, 0, 0, 0, 0, 0), .inl 0, [], none)),
  (5, (.iaload, (6, 0, 0, 0, 0, 0), .inl 0, [], none)),
  (6, (.iconst 1, (7, 0, 0, 0, 0, 0), .inl 0, [], none)),
  (7, (.if_icmp .ne 7, (10, 14, 0, 0, 0, 0), .inl 0, [], none)),
  (10, (.iload_n 1, (11, 0, 0, 0, 0, 0), .inl 0, [], none)),
  (11, (.goto 6, (14, 17, 0, 0, 0, 0), .inl 0, [], none)),
  (14, (.iconst 1, (15, 0, 0, 0, 0, 0), .inl 0, [], none)),
  (15, (.iload_n 1, (16, 0, 0, 0, 0, 0), .inl 0, [], none)),
  (16, (.isub, (17, 0, 0, 0, 0, 0), .inl 0, [], none)),
  (17, (.ireturn, (18, 0, 0, 0, 0, 0), .inl 0, [], none))]
def z_M_match : List (Nat × sk_E) := [
  (0, (.aload_n 0, (1, 0, 0, 0, 0, 0), .inl 0, [], none)),
  (1, (.invokevirtual 326, (4, 174, 1, 1, 1, 13), .inl 0, [], none)),
  (4, (.ifCond .eq 29, (7, 33, 0, 0, 0, 0), .inl 0, [], none)),
  (7, (.aload_n 0, (8, 0, 0, 0, 0, 0), .inl 0, [], none)),
  (8, (.iload_n 1, (9, 0, 0, 0, 0, 0), .inl 0, [], none)),
  (9, (.invokevirtual 410, (12, 169, 2, 1, 2, 13), .inl 0, [], none)),
  (12, (.ifCond .eq 21, (15, 33, 0, 0, 0, 0), .inl 0, [], none)),
  (15, (.aload_n 0, (16, 0, 0, 0, 0, 0), .inl 0, [], none)),
  (16, (.iload_n 2, (17, 0, 0, 0, 0, 0), .inl 0, [], none)),
  (17, (.invokevirtual 410, (20, 169, 2, 1, 2, 13), .inl 0, [], none)),
  (20, (.ifCond .eq 13, (23, 33, 0, 0, 0, 0), .inl 0, [], none)),
  (23, (.iload_n 3, (24, 0, 0, 0, 0, 0), .inl 0, [], none)),
  (24, (.i2l, (25, 0, 0, 0, 0, 0), .inl 0, [], none)),
  (25, (.lconst 0, (26, 0, 0, 0, 0, 0), .inl 0, [], none)),
  (26, (.lconst 1, (27, 0, 0, 0, 0, 0), .inl 0, [], none)),
  (27, (.invokestatic 115, (30, 127, 3, 1, 6, 0), .inl 0, [], none)),
  (30, (.ifCond .ne 5, (33, 35, 0, 0, 0, 0), .inl 0, [], none)),
  (33, (.iconst (-1), (34, 0, 0, 0, 0, 0), .inl 0, [], none)),
  (34, (.ireturn, (35, 0, 0, 0, 0, 0), .inl 0, [], none)),
  (35, (.aload_n 0, (36, 0, 0, 0, 0, 0), .inl 0, [], none)),
  (36, (.getfield 39, (39, 13, 20, 2, 0, 0), .inl 0, [], none)),
  (39, (.bipush 8, (41, 0, 0, 0, 0, 0), .inl 0, [], none)),
  (41, (.iaload, (42, 0, 0, 0, 0, 0), .inl 0, [], none)),
  (42, (.istore 4, (44, 0, 0, 0, 0, 0), .inl 0, [], none)),
  (44, (.aload_n 0, (45, 0, 0, 0, 0, 0), .inl 0, [], none)),
  (45, (.getfield 39, (48, 13, 20, 2, 0, 0), .inl 0, [], none)),
  (48, (.bipush 7, (50, 0, 0, 0, 0, 0), .inl 0, [], none)),
  (50, (.iaload, (51, 0, 0, 0, 0, 0), .inl 0, [], none)),
  (51, (.istore 5, (53, 0, 0, 0, 0, 0), .inl 0, [], none)),
  (53, (.iconst 0, (54, 0, 0, 0, 0, 0), .inl 0, [], none)),
  (54, (.istore 6, (56, 0, 0, 0, 0, 0), .inl 0, [], none)),
  (56, (.aload_n 0, (57, 0, 0, 0, 0, 0), .inl 0, [], none)),
  (57, (.iload 5, (59, 0, 0, 0, 0, 0), .inl 0, [], none)),
  (59, (.ifCond .ne 7, (62, 66, 0, 0, 0, 0), .inl 0, [], none)),
  (62, (.iload_n 1, (63, 0, 0, 0, 0, 0), .inl 0, [], none)),
  (63, (.goto 4, (66, 67, 0, 0, 0, 0), .inl 0, [], none)),
  (66, (.iload_n 2, (67, 0, 0, 0, 0, 0), .inl 0, [], none)),
  (67, (.iload 4, (69, 0, 0, 0, 0, 0), .inl 0, [], none)),
  (69, (.iload 5, (71, 0, 0, 0, 0, 0), .inl 0, [], none)),
  (71, (.aload_n 0, (72, 0, 0, 0, 0, 0), .inl 0, [], none)),
  (72, (.getfield 39, (75, 13, 20, 2, 0, 0), .inl 0, [], none)),
  (75, (.bipush 9, (77, 0, 0, 0, 0, 0), .inl 0, [], none)),
  (77, (.iaload, (78, 0, 0, 0, 0, 0), .inl 0, [], none)),
  (78, (.invokevirtual 413, (81, 220, 5, 1, 12, 13), .inl 0, [], none)),
  (81, (.istore 7, (83, 0, 0, 0, 0, 0), .inl 0, [], none)),
  (83, (.iload 7, (85, 0, 0, 0, 0, 0), .inl 0, [], some [true, true, true, true, false, true, true, true])),
  (85, (.ifCond .lt 49, (88, 134, 0, 0, 0, 0), .inl 0, [], none)),
  (88, (.iload 7, (90, 0, 0, 0, 0, 0), .inl 0, [], none)),
  (90, (.istore 4, (92, 0, 0, 0, 0, 0), .inl 0, [], none)),
  (92, (.iconst 1, (93, 0, 0, 0, 0, 0), .inl 0, [], none)),
  (93, (.iload 5, (95, 0, 0, 0, 0, 0), .inl 0, [], none)),
  (95, (.isub, (96, 0, 0, 0, 0, 0), .inl 0, [], none)),
  (96, (.istore 5, (98, 0, 0, 0, 0, 0), .inl 0, [], none)),
  (98, (.iinc 6 1, (101, 0, 0, 0, 0, 0), .inl 0, [], none)),
  (101, (.aload_n 0, (102, 0, 0, 0, 0, 0), .inl 0, [], none)),
  (102, (.iload 5, (104, 0, 0, 0, 0, 0), .inl 0, [], none)),
  (104, (.ifCond .ne 7, (107, 111, 0, 0, 0, 0), .inl 0, [], none)),
  (107, (.iload_n 1, (108, 0, 0, 0, 0, 0), .inl 0, [], none)),
  (108, (.goto 4, (111, 112, 0, 0, 0, 0), .inl 0, [], none)),
  (111, (.iload_n 2, (112, 0, 0, 0, 0, 0), .inl 0, [], none)),
  (112, (.iload 4, (114, 0, 0, 0, 0, 0), .inl 0, [], none)),
  (114, (.iload 5, (116, 0, 0, 0, 0, 0), .inl 0, [], none)),
  (116, (.aload_n 0, (117, 0, 0, 0, 0, 0), .inl 0, [], none)),
  (117, (.getfield 39, (120, 13, 20, 2, 0, 0), .inl 0, [], none)),
  (120, (.bipush 9, (122, 0, 0, 0, 0, 0), .inl 0, [], none)),
  (122, (.iaload, (123, 0, 0, 0, 0, 0), .inl 0, [], none)),
  (123, (.iload 6, (125, 0, 0, 0, 0, 0), .inl 0, [], none)),
  (125, (.iadd, (126, 0, 0, 0, 0, 0), .inl 0, [], none)),
  (126, (.invokevirtual 413, (129, 220, 5, 1, 12, 13), .inl 0, [], none)),
  (129, (.istore 7, (131, 0, 0, 0, 0, 0), .inl 0, [], none)),
  (131, (.goto (-48), (134, 83, 0, 0, 0, 0), .inl 0, [], none)),
  (134, (.iload_n 3, (135, 0, 0, 0, 0, 0), .inl 0, [], none)),
  (135, (.ifCond .ne 12, (138, 147, 0, 0, 0, 0), .inl 0, [], none)),
  (138, (.aload_n 0, (139, 0, 0, 0, 0, 0), .inl 0, [], none)),
  (139, (.iload 5, (141, 0, 0, 0, 0, 0), .inl 0, [], none)),
  (141, (.invokevirtual 417, (144, 221, 2, 1, 2, 13), .inl 0, [], none)),
  (144, (.goto 5, (147, 149, 0, 0, 0, 0), .inl 0, [], none)),
  (147, (.iload 6, (149, 0, 0, 0, 0, 0), .inl 0, [], none)),
  (149, (.ireturn, (150, 0, 0, 0, 0, 0), .inl 0, [], none))]
def z_M_noted : List (Nat × sk_E) := [
  (0, (.aload_n 0, (1, 0, 0, 0, 0, 0), .inl 0, [], none)),
  (1, (.getfield 39, (4, 13, 20, 2, 0, 0), .inl 0, [], none)),
  (4, (.bipush 24, (6, 0, 0, 0, 0, 0), .inl 0, [], none)),
  (6, (.iconst 4, (7, 0, 0, 0, 0, 0), .inl 0, [], none)),
  (7, (.iload_n 1, (8, 0, 0, 0, 0, 0), .inl 0, [], none)),
  (8, (.imul, (9, 0, 0, 0, 0, 0), .inl 0, [], none)),
  (9, (.iadd, (10, 0, 0, 0, 0, 0), .inl 0, [], none)),
  (10, (.iload_n 2, (11, 0, 0, 0, 0, 0), .inl 0, [], none)),
  (11, (.iadd, (12, 0, 0, 0, 0, 0), .inl 0, [], none)),
  (12, (.iaload, (13, 0, 0, 0, 0, 0), .inl 0, [], none)),
  (13, (.ireturn, (14, 0, 0, 0, 0, 0), .inl 0, [], none))]
def z_M_winsNoted : List (Nat × sk_E) := [
  (0, (.aload_n 0, (1, 0, 0, 0, 0, 0), .inl 0, [], none)),
  (1, (.getfield 42, (4, 13, 22, 2, 0, 0), .inl 0, [], none)),
  (4, (.aload_n 0, (5, 0, 0, 0, 0, 0), .inl 0, [], none)),
  (5, (.iload_n 1, (6, 0, 0, 0, 0, 0), .inl 0, [], none)),
  (6, (.iconst 1, (7, 0, 0, 0, 0, 0), .inl 0, [], none)),
  (7, (.invokevirtual 420, (10, 223, 3, 1, 3, 13), .inl 0, [], none)),
  (10, (.aload_n 0, (11, 0, 0, 0, 0, 0), .inl 0, [], none)),
  (11, (.aload_n 0, (12, 0, 0, 0, 0, 0), .inl 0, [], none)),
  (12, (.iload_n 1, (13, 0, 0, 0, 0, 0), .inl 0, [], none)),
  (13, (.iconst 2, (14, 0, 0, 0, 0, 0), .inl 0, [], none)),
  (14, (.invokevirtual 420, (17, 223, 3, 1, 3, 13), .inl 0, [], none)),
  (17, (.aload_n 0, (18, 0, 0, 0, 0, 0), .inl 0, [], none)),
  (18, (.iload_n 1, (19, 0, 0, 0, 0, 0), .inl 0, [], none)),
  (19, (.iconst 3, (20, 0, 0, 0, 0, 0), .inl 0, [], none)),
  (20, (.invokevirtual 420, (23, 223, 3, 1, 3, 13), .inl 0, [], none)),
  (23, (.invokevirtual 297, (26, 178, 3, 1, 6, 13), .inl 0, [], none)),
  (26, (.iconst (-1), (27, 0, 0, 0, 0, 0), .inl 0, [], none)),
  (27, (.ixor, (28, 0, 0, 0, 0, 0), .inl 0, [], none)),
  (28, (.iand, (29, 0, 0, 0, 0, 0), .inl 0, [], none)),
  (29, (.baload, (30, 0, 0, 0, 0, 0), .inl 0, [], none)),
  (30, (.ifCond .ne 7, (33, 37, 0, 0, 0, 0), .inl 0, [], none)),
  (33, (.iconst 1, (34, 0, 0, 0, 0, 0), .inl 0, [], none)),
  (34, (.goto 4, (37, 38, 0, 0, 0, 0), .inl 0, [], none)),
  (37, (.iconst 0, (38, 0, 0, 0, 0, 0), .inl 0, [], none)),
  (38, (.ireturn, (39, 3, 0, 0, 0, 0), .inl 0, [], none))]
def z_M_knew : List (Nat × sk_E) := [
  (0, (.aload_n 0, (1, 0, 0, 0, 0, 0), .inl 0, [], none)),
  (1, (.invokevirtual 326, (4, 174, 1, 1, 1, 13), .inl 0, [], none)),
  (4, (.ifCond .eq 25, (7, 29, 0, 0, 0, 0), .inl 0, [], none)),
  (7, (.iload_n 1, (8, 0, 0, 0, 0, 0), .inl 0, [], none)),
  (8, (.i2l, (9, 0, 0, 0, 0, 0), .inl 0, [], none)),
  (9, (.lconst 0, (10, 0, 0, 0, 0, 0), .inl 0, [], none)),
  (10, (.lconst 1, (11, 0, 0, 0, 0, 0), .inl 0, [], none)),
  (11, (.invokestatic 115, (14, 127, 3, 1, 6, 0), .inl 0, [], none)),
  (14, (.ifCond .eq 15, (17, 29, 0, 0, 0, 0), .inl 0, [], none)),
  (17, (.iload_n 2, (18, 0, 0, 0, 0, 0), .inl 0, [], none)),
  (18, (.i2l, (19, 0, 0, 0, 0, 0), .inl 0, [], none)),
  (19, (.lconst 0, (20, 0, 0, 0, 0, 0), .inl 0, [], none)),
  (20, (.ldc2_w 324, (23, 0, 0, 0, 0, 0), .inr (.inl (3)), [], none)),
  (23, (.invokestatic 115, (26, 127, 3, 1, 6, 0), .inl 0, [], none)),
  (26, (.ifCond .ne 5, (29, 31, 0, 0, 0, 0), .inl 0, [], none)),
  (29, (.iconst (-1), (30, 0, 0, 0, 0, 0), .inl 0, [], none)),
  (30, (.ireturn, (31, 0, 0, 0, 0, 0), .inl 0, [], none)),
  (31, (.aload_n 0, (32, 0, 0, 0, 0, 0), .inl 0, [], none)),
  (32, (.invokevirtual 311, (35, 183, 1, 0, 1, 13), .inl 0, [], none)),
  (35, (.iconst 0, (36, 0, 0, 0, 0, 0), .inl 0, [], none)),
  (36, (.istore_n 3, (37, 0, 0, 0, 0, 0), .inl 0, [], none)),
  (37, (.iconst 0, (38, 0, 0, 0, 0, 0), .inl 0, [], none)),
  (38, (.istore 4, (40, 0, 0, 0, 0, 0), .inl 0, [], none)),
  (40, (.iconst 0, (41, 0, 0, 0, 0, 0), .inl 0, [], none)),
  (41, (.istore 5, (43, 0, 0, 0, 0, 0), .inl 0, [], none)),
  (43, (.iconst 0, (44, 0, 0, 0, 0, 0), .inl 0, [], none)),
  (44, (.istore 6, (46, 0, 0, 0, 0, 0), .inl 0, [], none)),
  (46, (.iconst 0, (47, 0, 0, 0, 0, 0), .inl 0, [], none)),
  (47, (.istore 7, (49, 0, 0, 0, 0, 0), .inl 0, [], none)),
  (49, (.iload 7, (51, 0, 0, 0, 0, 0), .inl 0, [], some [true, true, true, true, true, true, true, true])),
  (51, (.aload_n 0, (52, 0, 0, 0, 0, 0), .inl 0, [], none)),
  (52, (.getfield 39, (55, 13, 20, 2, 0, 0), .inl 0, [], none)),
  (55, (.bipush 10, (57, 0, 0, 0, 0, 0), .inl 0, [], none)),
  (57, (.iaload, (58, 0, 0, 0, 0, 0), .inl 0, [], none)),
  (58, (.if_icmp .ge 79, (61, 137, 0, 0, 0, 0), .inl 0, [], none)),
  (61, (.aload_n 0, (62, 0, 0, 0, 0, 0), .inl 0, [], none)),
  (62, (.iload 7, (64, 0, 0, 0, 0, 0), .inl 0, [], none)),
  (64, (.iconst 0, (65, 0, 0, 0, 0, 0), .inl 0, [], none)),
  (65, (.invokevirtual 420, (68, 223, 3, 1, 3, 13), .inl 0, [], none)),
  (68, (.iload_n 1, (69, 0, 0, 0, 0, 0), .inl 0, [], none)),
  (69, (.if_icmp .eq 6, (72, 75, 0, 0, 0, 0), .inl 0, [], none)),
  (72, (.goto 59, (75, 131, 0, 0, 0, 0), .inl 0, [], none)),
  (75, (.iinc 3 1, (78, 0, 0, 0, 0, 0), .inl 0, [], none)),
  (78, (.aload_n 0, (79, 0, 0, 0, 0, 0), .inl 0, [], none)),
  (79, (.getfield 42, (82, 13, 22, 2, 0, 0), .inl 0, [], none)),
  (82, (.aload_n 0, (83, 0, 0, 0, 0, 0), .inl 0, [], none)),
  (83, (.iload 7, (85, 0, 0, 0, 0, 0), .inl 0, [], none)),
  (85, (.iconst 1, (86, 0, 0, 0, 0, 0), .inl 0, [], none)),
  (86, (.invokevirtual 420, (89, 223, 3, 1, 3, 13), .inl 0, [], none)),
  (89, (.baload, (90, 0, 0, 0, 0, 0), .inl 0, [], none)),
  (90, (.ifCond .eq 41, (93, 131, 0, 0, 0, 0), .inl 0, [], none)),
  (93, (.aload_n 0, (94, 0, 0, 0, 0, 0), .inl 0, [], none)),
  (94, (.aload_n 0, (95, 0, 0, 0, 0, 0), .inl 0, [], none)),
  (95, (.iload 7, (97, 0, 0, 0, 0, 0), .inl 0, [], none)),
  (97, (.iconst 1, (98, 0, 0, 0, 0, 0), .inl 0, [], none)),
  (98, (.invokevirtual 420, (101, 223, 3, 1, 3, 13), .inl 0, [], none)),
  (101, (.invokevirtual 423, (104, 186, 2, 1, 4, 13), .inl 0, [], none)),
  (104, (.ifCond .eq 6, (107, 110, 0, 0, 0, 0), .inl 0, [], none)),
  (107, (.goto 24, (110, 131, 0, 0, 0, 0), .inl 0, [], none)),
  (110, (.iinc 4 1, (113, 0, 0, 0, 0, 0), .inl 0, [], none)),
  (113, (.aload_n 0, (114, 0, 0, 0, 0, 0), .inl 0, [], none)),
  (114, (.iload 7, (116, 0, 0, 0, 0, 0), .inl 0, [], none)),
  (116, (.invokevirtual 426, (119, 224, 2, 1, 2, 13), .inl 0, [], none)),
  (119, (.ifCond .eq 9, (122, 128, 0, 0, 0, 0), .inl 0, [], none)),
  (122, (.iinc 5 1, (125, 0, 0, 0, 0, 0), .inl 0, [], none)),
  (125, (.goto 6, (128, 131, 0, 0, 0, 0), .inl 0, [], none)),
  (128, (.iload_n 3, (129, 0, 0, 0, 0, 0), .inl 0, [], none)),
  (129, (.istore 6, (131, 0, 0, 0, 0, 0), .inl 0, [], none)),
  (131, (.iinc 7 1, (134, 0, 0, 0, 0, 0), .inl 0, [], none)),
  (134, (.goto (-85), (137, 49, 0, 0, 0, 0), .inl 0, [], none)),
  (137, (.iload_n 2, (138, 0, 0, 0, 0, 0), .inl 0, [], none)),
  (138, (.ifCond .ne 7, (141, 145, 0, 0, 0, 0), .inl 0, [], none)),
  (141, (.iload_n 3, (142, 0, 0, 0, 0, 0), .inl 0, [], none)),
  (142, (.goto 25, (145, 167, 0, 0, 0, 0), .inl 0, [], none)),
  (145, (.iload_n 2, (146, 0, 0, 0, 0, 0), .inl 0, [], none)),
  (146, (.iconst 1, (147, 0, 0, 0, 0, 0), .inl 0, [], none)),
  (147, (.if_icmp .ne 8, (150, 155, 0, 0, 0, 0), .inl 0, [], none)),
  (150, (.iload 4, (152, 0, 0, 0, 0, 0), .inl 0, [], none)),
  (152, (.goto 15, (155, 167, 0, 0, 0, 0), .inl 0, [], none)),
  (155, (.iload_n 2, (156, 0, 0, 0, 0, 0), .inl 0, [], none)),
  (156, (.iconst 2, (157, 0, 0, 0, 0, 0), .inl 0, [], none)),
  (157, (.if_icmp .ne 8, (160, 165, 0, 0, 0, 0), .inl 0, [], none)),
  (160, (.iload 5, (162, 0, 0, 0, 0, 0), .inl 0, [], none)),
  (162, (.goto 5, (165, 167, 0, 0, 0, 0), .inl 0, [], none)),
  (165, (.iload 6, (167, 0, 0, 0, 0, 0), .inl 0, [], none)),
  (167, (.ireturn, (168, 0, 0, 0, 0, 0), .inl 0, [], none))]
def z_M_fitsLaw : List (Nat × sk_E) := [
  (0, (.aload_n 0, (1, 0, 0, 0, 0, 0), .inl 0, [], none)),
  (1, (.iload_n 2, (2, 0, 0, 0, 0, 0), .inl 0, [], none)),
  (2, (.iload_n 3, (3, 0, 0, 0, 0, 0), .inl 0, [], none)),
  (3, (.iload 4, (5, 0, 0, 0, 0, 0), .inl 0, [], none)),
  (5, (.invokevirtual 307, (8, 182, 4, 0, 10, 13), .inl 0, [], none)),
  (8, (.iconst 0, (9, 0, 0, 0, 0, 0), .inl 0, [], none)),
  (9, (.istore 5, (11, 0, 0, 0, 0, 0), .inl 0, [], none)),
  (11, (.iload 5, (13, 0, 0, 0, 0, 0), .inl 0, [], some [true, true, true, true, false, true])),
  (13, (.aload_n 0, (14, 0, 0, 0, 0, 0), .inl 0, [], none)),
  (14, (.getfield 39, (17, 13, 20, 2, 0, 0), .inl 0, [], none)),
  (17, (.bipush 10, (19, 0, 0, 0, 0, 0), .inl 0, [], none)),
  (19, (.iaload, (20, 0, 0, 0, 0, 0), .inl 0, [], none)),
  (20, (.if_icmp .ge 90, (23, 110, 0, 0, 0, 0), .inl 0, [], none)),
  (23, (.aload_n 0, (24, 0, 0, 0, 0, 0), .inl 0, [], none)),
  (24, (.iload 5, (26, 0, 0, 0, 0, 0), .inl 0, [], none)),
  (26, (.iconst 0, (27, 0, 0, 0, 0, 0), .inl 0, [], none)),
  (27, (.invokevirtual 420, (30, 223, 3, 1, 3, 13), .inl 0, [], none)),
  (30, (.iload_n 1, (31, 0, 0, 0, 0, 0), .inl 0, [], none)),
  (31, (.if_icmp .eq 6, (34, 37, 0, 0, 0, 0), .inl 0, [], none)),
  (34, (.goto 70, (37, 104, 0, 0, 0, 0), .inl 0, [], none)),
  (37, (.aload_n 0, (38, 0, 0, 0, 0, 0), .inl 0, [], none)),
  (38, (.aload_n 0, (39, 0, 0, 0, 0, 0), .inl 0, [], none)),
  (39, (.iload 5, (41, 0, 0, 0, 0, 0), .inl 0, [], none)),
  (41, (.iconst 1, (42, 0, 0, 0, 0, 0), .inl 0, [], none)),
  (42, (.invokevirtual 420, (45, 223, 3, 1, 3, 13), .inl 0, [], none)),
  (45, (.aload_n 0, (46, 0, 0, 0, 0, 0), .inl 0, [], none)),
  (46, (.iload 5, (48, 0, 0, 0, 0, 0), .inl 0, [], none)),
  (48, (.iconst 2, (49, 0, 0, 0, 0, 0), .inl 0, [], none)),
  (49, (.invokevirtual 420, (52, 223, 3, 1, 3, 13), .inl 0, [], none)),
  (52, (.aload_n 0, (53, 0, 0, 0, 0, 0), .inl 0, [], none)),
  (53, (.iload 5, (55, 0, 0, 0, 0, 0), .inl 0, [], none)),
  (55, (.iconst 3, (56, 0, 0, 0, 0, 0), .inl 0, [], none)),
  (56, (.invokevirtual 420, (59, 223, 3, 1, 3, 13), .inl 0, [], none)),
  (59, (.iload_n 2, (60, 0, 0, 0, 0, 0), .inl 0, [], none)),
  (60, (.iload_n 3, (61, 0, 0, 0, 0, 0), .inl 0, [], none)),
  (61, (.iconst 1, (62, 0, 0, 0, 0, 0), .inl 0, [], none)),
  (62, (.if_icmp .ne 7, (65, 69, 0, 0, 0, 0), .inl 0, [], none)),
  (65, (.iconst 1, (66, 0, 0, 0, 0, 0), .inl 0, [], none)),
  (66, (.goto 4, (69, 70, 0, 0, 0, 0), .inl 0, [], none)),
  (69, (.iconst 0, (70, 0, 0, 0, 0, 0), .inl 0, [], none)),
  (70, (.invokevirtual 303, (73, 180, 6, 1, 10, 13), .inl 0, [], some [true, true, true, true, false, true])),
  (73, (.ifCond .ne 5, (76, 78, 0, 0, 0, 0), .inl 0, [], none)),
  (76, (.iconst 0, (77, 0, 0, 0, 0, 0), .inl 0, [], none)),
  (77, (.ireturn, (78, 3, 0, 0, 0, 0), .inl 0, [], none)),
  (78, (.aload_n 0, (79, 0, 0, 0, 0, 0), .inl 0, [], none)),
  (79, (.getfield 42, (82, 13, 22, 2, 0, 0), .inl 0, [], none)),
  (82, (.aload_n 0, (83, 0, 0, 0, 0, 0), .inl 0, [], none)),
  (83, (.iload 5, (85, 0, 0, 0, 0, 0), .inl 0, [], none)),
  (85, (.iconst 1, (86, 0, 0, 0, 0, 0), .inl 0, [], none)),
  (86, (.invokevirtual 420, (89, 223, 3, 1, 3, 13), .inl 0, [], none)),
  (89, (.baload, (90, 0, 0, 0, 0, 0), .inl 0, [], none)),
  (90, (.ifCond .eq 14, (93, 104, 0, 0, 0, 0), .inl 0, [], none)),
  (93, (.aload_n 0, (94, 0, 0, 0, 0, 0), .inl 0, [], none)),
  (94, (.iload 5, (96, 0, 0, 0, 0, 0), .inl 0, [], none)),
  (96, (.invokevirtual 426, (99, 224, 2, 1, 2, 13), .inl 0, [], none)),
  (99, (.ifCond .ne 5, (102, 104, 0, 0, 0, 0), .inl 0, [], none)),
  (102, (.iconst 0, (103, 0, 0, 0, 0, 0), .inl 0, [], none)),
  (103, (.ireturn, (104, 3, 0, 0, 0, 0), .inl 0, [], none)),
  (104, (.iinc 5 1, (107, 0, 0, 0, 0, 0), .inl 0, [], none)),
  (107, (.goto (-96), (110, 11, 0, 0, 0, 0), .inl 0, [], none)),
  (110, (.iconst 1, (111, 0, 0, 0, 0, 0), .inl 0, [], none)),
  (111, (.ireturn, (112, 3, 0, 0, 0, 0), .inl 0, [], none))]
def z_M_law : List (Nat × sk_E) := [
  (0, (.aload_n 0, (1, 0, 0, 0, 0, 0), .inl 0, [], none)),
  (1, (.invokevirtual 326, (4, 174, 1, 1, 1, 13), .inl 0, [], none)),
  (4, (.ifCond .eq 25, (7, 29, 0, 0, 0, 0), .inl 0, [], none)),
  (7, (.iload_n 1, (8, 0, 0, 0, 0, 0), .inl 0, [], none)),
  (8, (.i2l, (9, 0, 0, 0, 0, 0), .inl 0, [], none)),
  (9, (.lconst 0, (10, 0, 0, 0, 0, 0), .inl 0, [], none)),
  (10, (.lconst 1, (11, 0, 0, 0, 0, 0), .inl 0, [], none)),
  (11, (.invokestatic 115, (14, 127, 3, 1, 6, 0), .inl 0, [], none)),
  (14, (.ifCond .eq 15, (17, 29, 0, 0, 0, 0), .inl 0, [], none)),
  (17, (.iload_n 2, (18, 0, 0, 0, 0, 0), .inl 0, [], none)),
  (18, (.i2l, (19, 0, 0, 0, 0, 0), .inl 0, [], none)),
  (19, (.lconst 0, (20, 0, 0, 0, 0, 0), .inl 0, [], none)),
  (20, (.ldc2_w 324, (23, 0, 0, 0, 0, 0), .inr (.inl (3)), [], none)),
  (23, (.invokestatic 115, (26, 127, 3, 1, 6, 0), .inl 0, [], none)),
  (26, (.ifCond .ne 5, (29, 31, 0, 0, 0, 0), .inl 0, [], none)),
  (29, (.iconst (-1), (30, 0, 0, 0, 0, 0), .inl 0, [], none)),
  (30, (.ireturn, (31, 0, 0, 0, 0, 0), .inl 0, [], none)),
  (31, (.iconst 0, (32, 0, 0, 0, 0, 0), .inl 0, [], none)),
  (32, (.istore_n 3, (33, 0, 0, 0, 0, 0), .inl 0, [], none)),
  (33, (.iconst (-1), (34, 0, 0, 0, 0, 0), .inl 0, [], none)),
  (34, (.istore 4, (36, 0, 0, 0, 0, 0), .inl 0, [], none)),
  (36, (.iconst 0, (37, 0, 0, 0, 0, 0), .inl 0, [], none)),
  (37, (.istore 5, (39, 0, 0, 0, 0, 0), .inl 0, [], none)),
  (39, (.iload 5, (41, 0, 0, 0, 0, 0), .inl 0, [], some [true, true, true, true, true, true])),
  (41, (.bipush 60, (43, 0, 0, 0, 0, 0), .inl 0, [], none)),
  (43, (.if_icmp .ge 47, (46, 90, 0, 0, 0, 0), .inl 0, [], none)),
  (46, (.aload_n 0, (47, 0, 0, 0, 0, 0), .inl 0, [], none)),
  (47, (.iload_n 1, (48, 0, 0, 0, 0, 0), .inl 0, [], none)),
  (48, (.iload 5, (50, 0, 0, 0, 0, 0), .inl 0, [], none)),
  (50, (.iconst 4, (51, 0, 0, 0, 0, 0), .inl 0, [], none)),
  (51, (.idiv, (52, 0, 0, 0, 0, 0), .inl 0, [], none)),
  (52, (.iconst 1, (53, 0, 0, 0, 0, 0), .inl 0, [], none)),
  (53, (.iadd, (54, 0, 0, 0, 0, 0), .inl 0, [], none)),
  (54, (.iload 5, (56, 0, 0, 0, 0, 0), .inl 0, [], none)),
  (56, (.iconst 2, (57, 0, 0, 0, 0, 0), .inl 0, [], none)),
  (57, (.idiv, (58, 0, 0, 0, 0, 0), .inl 0, [], none)),
  (58, (.iconst 2, (59, 0, 0, 0, 0, 0), .inl 0, [], none)),
  (59, (.irem, (60, 0, 0, 0, 0, 0), .inl 0, [], none)),
  (60, (.iload 5, (62, 0, 0, 0, 0, 0), .inl 0, [], none)),
  (62, (.iconst 2, (63, 0, 0, 0, 0, 0), .inl 0, [], none)),
  (63, (.irem, (64, 0, 0, 0, 0, 0), .inl 0, [], none)),
  (64, (.invokevirtual 429, (67, 226, 5, 1, 6, 13), .inl 0, [], none)),
  (67, (.ifCond .ne 6, (70, 73, 0, 0, 0, 0), .inl 0, [], none)),
  (70, (.goto 14, (73, 84, 0, 0, 0, 0), .inl 0, [], none)),
  (73, (.iload_n 3, (74, 0, 0, 0, 0, 0), .inl 0, [], none)),
  (74, (.ifCond .ne 7, (77, 81, 0, 0, 0, 0), .inl 0, [], none)),
  (77, (.iload 5, (79, 0, 0, 0, 0, 0), .inl 0, [], none)),
  (79, (.istore 4, (81, 0, 0, 0, 0, 0), .inl 0, [], none)),
  (81, (.iinc 3 1, (84, 0, 0, 0, 0, 0), .inl 0, [], none)),
  (84, (.iinc 5 1, (87, 0, 0, 0, 0, 0), .inl 0, [], none)),
  (87, (.goto (-48), (90, 39, 0, 0, 0, 0), .inl 0, [], none)),
  (90, (.iload_n 2, (91, 0, 0, 0, 0, 0), .inl 0, [], none)),
  (91, (.ifCond .ne 5, (94, 96, 0, 0, 0, 0), .inl 0, [], none)),
  (94, (.iload_n 3, (95, 0, 0, 0, 0, 0), .inl 0, [], none)),
  (95, (.ireturn, (96, 0, 0, 0, 0, 0), .inl 0, [], none)),
  (96, (.iload 4, (98, 0, 0, 0, 0, 0), .inl 0, [], none)),
  (98, (.ifCond .ge 8, (101, 106, 0, 0, 0, 0), .inl 0, [], none)),
  (101, (.bipush (-2), (103, 0, 0, 0, 0, 0), .inl 0, [], none)),
  (103, (.goto 35, (106, 138, 0, 0, 0, 0), .inl 0, [], none)),
  (106, (.iload_n 2, (107, 0, 0, 0, 0, 0), .inl 0, [], none)),
  (107, (.iconst 1, (108, 0, 0, 0, 0, 0), .inl 0, [], none)),
  (108, (.if_icmp .ne 12, (111, 120, 0, 0, 0, 0), .inl 0, [], none)),
  (111, (.iload 4, (113, 0, 0, 0, 0, 0), .inl 0, [], none)),
  (113, (.iconst 4, (114, 0, 0, 0, 0, 0), .inl 0, [], none)),
  (114, (.idiv, (115, 0, 0, 0, 0, 0), .inl 0, [], none)),
  (115, (.iconst 1, (116, 0, 0, 0, 0, 0), .inl 0, [], none)),
  (116, (.iadd, (117, 0, 0, 0, 0, 0), .inl 0, [], none)),
  (117, (.goto 21, (120, 138, 0, 0, 0, 0), .inl 0, [], none)),
  (120, (.iload_n 2, (121, 0, 0, 0, 0, 0), .inl 0, [], none)),
  (121, (.iconst 2, (122, 0, 0, 0, 0, 0), .inl 0, [], none)),
  (122, (.if_icmp .ne 12, (125, 134, 0, 0, 0, 0), .inl 0, [], none)),
  (125, (.iload 4, (127, 0, 0, 0, 0, 0), .inl 0, [], none)),
  (127, (.iconst 2, (128, 0, 0, 0, 0, 0), .inl 0, [], none)),
  (128, (.idiv, (129, 0, 0, 0, 0, 0), .inl 0, [], none)),
  (129, (.iconst 2, (130, 0, 0, 0, 0, 0), .inl 0, [], none)),
  (130, (.irem, (131, 0, 0, 0, 0, 0), .inl 0, [], none)),
  (131, (.goto 7, (134, 138, 0, 0, 0, 0), .inl 0, [], none)),
  (134, (.iload 4, (136, 0, 0, 0, 0, 0), .inl 0, [], none)),
  (136, (.iconst 2, (137, 0, 0, 0, 0, 0), .inl 0, [], none)),
  (137, (.irem, (138, 0, 0, 0, 0, 0), .inl 0, [], none)),
  (138, (.ireturn, (139, 0, 0, 0, 0, 0), .inl 0, [], none))]
def z_M_seed : List (Nat × sk_E) := [
  (0, (.iload_n 1, (1, 0, 0, 0, 0, 0), .inl 0, [], none)),
  (1, (.ifCond .ge 5, (4, 6, 0, 0, 0, 0), .inl 0, [], none)),
  (4, (.iconst (-1), (5, 0, 0, 0, 0, 0), .inl 0, [], none)),
  (5, (.ireturn, (6, 0, 0, 0, 0, 0), .inl 0, [], none)),
  (6, (.aload_n 0, (7, 0, 0, 0, 0, 0), .inl 0, [], none)),
  (7, (.getfield 433, (10, 13, 21, 0, 0, 0), .inl 0, [], none)),
  (10, (.istore_n 2, (11, 0, 0, 0, 0, 0), .inl 0, [], none)),
  (11, (.aload_n 0, (12, 0, 0, 0, 0, 0), .inl 0, [], none)),
  (12, (.iload_n 1, (13, 0, 0, 0, 0, 0), .inl 0, [], none)),
  (13, (.putfield 433, (16, 13, 21, 0, 0, 0), .inl 0, [], none)),
  (16, (.iload_n 2, (17, 0, 0, 0, 0, 0), .inl 0, [], none)),
  (17, (.ireturn, (18, 0, 0, 0, 0, 0), .inl 0, [], none))]
def z_M_draw : List (Nat × sk_E) := [
  (0, (.aload_n 0, (1, 0, 0, 0, 0, 0), .inl 0, [], none)),
  (1, (.aload_n 0, (2, 0, 0, 0, 0, 0), .inl 0, [], none)),
  (2, (.getfield 436, (5, 13, 34, 1, 0, 0), .inl 0, [], none)),
  (5, (.ldc2_w 440, (8, 0, 0, 0, 0, 0), .inr (.inl (1103515245)), [], none)),
  (8, (.lmul, (9, 0, 0, 0, 0, 0), .inl 0, [], none)),
  (9, (.ldc2_w 442, (12, 0, 0, 0, 0, 0), .inr (.inl (12345)), [], none)),
  (12, (.ladd, (13, 0, 0, 0, 0, 0), .inl 0, [], none)),
  (13, (.ldc2_w 444, (16, 0, 0, 0, 0, 0), .inr (.inl (2147483648)), [], none)),
  (16, (.lrem, (17, 0, 0, 0, 0, 0), .inl 0, [], none)),
  (17, (.putfield 436, (20, 13, 34, 1, 0, 0), .inl 0, [], none)),
  (20, (.aload_n 0, (21, 0, 0, 0, 0, 0), .inl 0, [], none)),
  (21, (.getfield 436, (24, 13, 34, 1, 0, 0), .inl 0, [], none)),
  (24, (.ldc2_w 446, (27, 0, 0, 0, 0, 0), .inr (.inl (65536)), [], none)),
  (27, (.ldiv, (28, 0, 0, 0, 0, 0), .inl 0, [], none)),
  (28, (.iload_n 1, (29, 0, 0, 0, 0, 0), .inl 0, [], none)),
  (29, (.i2l, (30, 0, 0, 0, 0, 0), .inl 0, [], none)),
  (30, (.lrem, (31, 0, 0, 0, 0, 0), .inl 0, [], none)),
  (31, (.l2i, (32, 0, 0, 0, 0, 0), .inl 0, [], none)),
  (32, (.ireturn, (33, 0, 0, 0, 0, 0), .inl 0, [], none))]
def z_M_strokeDrawn : List (Nat × sk_E) := [
  (0, (.iconst 0, (1, 0, 0, 0, 0, 0), .inl 0, [], none)),
  (1, (.istore_n 2, (2, 0, 0, 0, 0, 0), .inl 0, [], none)),
  (2, (.iconst 0, (3, 0, 0, 0, 0, 0), .inl 0, [], none)),
  (3, (.istore_n 3, (4, 0, 0, 0, 0, 0), .inl 0, [], none)),
  (4, (.iload_n 3, (5, 0, 0, 0, 0, 0), .inl 0, [], some [true, true, true, true, false, false])),
  (5, (.aload_n 0, (6, 0, 0, 0, 0, 0), .inl 0, [], none)),
  (6, (.getfield 39, (9, 13, 20, 2, 0, 0), .inl 0, [], none)),
  (9, (.iconst 1, (10, 0, 0, 0, 0, 0), .inl 0, [], none)),
  (10, (.iaload, (11, 0, 0, 0, 0, 0), .inl 0, [], none)),
  (11, (.if_icmp .ge 43, (14, 54, 0, 0, 0, 0), .inl 0, [], none)),
  (14, (.iconst 1, (15, 0, 0, 0, 0, 0), .inl 0, [], none)),
  (15, (.istore 4, (17, 0, 0, 0, 0, 0), .inl 0, [], none)),
  (17, (.iload 4, (19, 0, 0, 0, 0, 0), .inl 0, [], some [true, true, true, true, true, false])),
  (19, (.iconst 4, (20, 0, 0, 0, 0, 0), .inl 0, [], none)),
  (20, (.if_icmp .gt 28, (23, 48, 0, 0, 0, 0), .inl 0, [], none)),
  (23, (.iload_n 2, (24, 0, 0, 0, 0, 0), .inl 0, [], none)),
  (24, (.aload_n 0, (25, 0, 0, 0, 0, 0), .inl 0, [], none)),
  (25, (.iload_n 1, (26, 0, 0, 0, 0, 0), .inl 0, [], none)),
  (26, (.iload_n 3, (27, 0, 0, 0, 0, 0), .inl 0, [], none)),
  (27, (.iload 4, (29, 0, 0, 0, 0, 0), .inl 0, [], none)),
  (29, (.invokevirtual 314, (32, 181, 4, 1, 4, 13), .inl 0, [], none)),
  (32, (.ifCond .eq 7, (35, 39, 0, 0, 0, 0), .inl 0, [], none)),
  (35, (.iconst 1, (36, 0, 0, 0, 0, 0), .inl 0, [], none)),
  (36, (.goto 4, (39, 40, 0, 0, 0, 0), .inl 0, [], none)),
  (39, (.iconst 0, (40, 0, 0, 0, 0, 0), .inl 0, [], none)),
  (40, (.iadd, (41, 0, 0, 0, 0, 0), .inl 0, [], none)),
  (41, (.istore_n 2, (42, 0, 0, 0, 0, 0), .inl 0, [], none)),
  (42, (.iinc 4 1, (45, 0, 0, 0, 0, 0), .inl 0, [], none)),
  (45, (.goto (-28), (48, 17, 0, 0, 0, 0), .inl 0, [], none)),
  (48, (.iinc 3 1, (51, 0, 0, 0, 0, 0), .inl 0, [], none)),
  (51, (.goto (-47), (54, 4, 0, 0, 0, 0), .inl 0, [], none)),
  (54, (.iload_n 2, (55, 0, 0, 0, 0, 0), .inl 0, [], none)),
  (55, (.ifCond .ne 5, (58, 60, 0, 0, 0, 0), .inl 0, [], none)),
  (58, (.iconst (-1), (59, 0, 0, 0, 0, 0), .inl 0, [], none)),
  (59, (.ireturn, (60, 0, 0, 0, 0, 0), .inl 0, [], none)),
  (60, (.aload_n 0, (61, 0, 0, 0, 0, 0), .inl 0, [], none)),
  (61, (.iload_n 2, (62, 0, 0, 0, 0, 0), .inl 0, [], none)),
  (62, (.invokevirtual 448, (65, 229, 2, 1, 2, 13), .inl 0, [], none)),
  (65, (.istore_n 3, (66, 0, 0, 0, 0, 0), .inl 0, [], none)),
  (66, (.iconst 0, (67, 0, 0, 0, 0, 0), .inl 0, [], none)),
  (67, (.istore 4, (69, 0, 0, 0, 0, 0), .inl 0, [], none)),
  (69, (.iload 4, (71, 0, 0, 0, 0, 0), .inl 0, [], some [true, true, false, true, true, false])),
  (71, (.aload_n 0, (72, 0, 0, 0, 0, 0), .inl 0, [], none)),
  (72, (.getfield 39, (75, 13, 20, 2, 0, 0), .inl 0, [], none)),
  (75, (.iconst 1, (76, 0, 0, 0, 0, 0), .inl 0, [], none)),
  (76, (.iaload, (77, 0, 0, 0, 0, 0), .inl 0, [], none)),
  (77, (.if_icmp .ge 59, (80, 136, 0, 0, 0, 0), .inl 0, [], none)),
  (80, (.iconst 1, (81, 0, 0, 0, 0, 0), .inl 0, [], none)),
  (81, (.istore 5, (83, 0, 0, 0, 0, 0), .inl 0, [], none)),
  (83, (.iload 5, (85, 0, 0, 0, 0, 0), .inl 0, [], some [true, true, false, true, true, true])),
  (85, (.iconst 4, (86, 0, 0, 0, 0, 0), .inl 0, [], none)),
  (86, (.if_icmp .gt 44, (89, 130, 0, 0, 0, 0), .inl 0, [], none)),
  (89, (.aload_n 0, (90, 0, 0, 0, 0, 0), .inl 0, [], none)),
  (90, (.iload_n 1, (91, 0, 0, 0, 0, 0), .inl 0, [], none)),
  (91, (.iload 4, (93, 0, 0, 0, 0, 0), .inl 0, [], none)),
  (93, (.iload 5, (95, 0, 0, 0, 0, 0), .inl 0, [], none)),
  (95, (.invokevirtual 314, (98, 181, 4, 1, 4, 13), .inl 0, [], none)),
  (98, (.ifCond .ne 6, (101, 104, 0, 0, 0, 0), .inl 0, [], none)),
  (101, (.goto 23, (104, 124, 0, 0, 0, 0), .inl 0, [], none)),
  (104, (.iload_n 3, (105, 0, 0, 0, 0, 0), .inl 0, [], none)),
  (105, (.ifCond .ne 16, (108, 121, 0, 0, 0, 0), .inl 0, [], none)),
  (108, (.iload_n 1, (109, 0, 0, 0, 0, 0), .inl 0, [], none)),
  (109, (.aload_n 0, (110, 0, 0, 0, 0, 0), .inl 0, [], none)),
  (110, (.iload 4, (112, 0, 0, 0, 0, 0), .inl 0, [], none)),
  (112, (.iload 5, (114, 0, 0, 0, 0, 0), .inl 0, [], none)),
  (114, (.invokevirtual 297, (117, 178, 3, 1, 6, 13), .inl 0, [], none)),
  (117, (.iconst (-1), (118, 0, 0, 0, 0, 0), .inl 0, [], none)),
  (118, (.ixor, (119, 0, 0, 0, 0, 0), .inl 0, [], none)),
  (119, (.iand, (120, 0, 0, 0, 0, 0), .inl 0, [], none)),
  (120, (.ireturn, (121, 0, 0, 0, 0, 0), .inl 0, [], none)),
  (121, (.iinc 3 (-1), (124, 0, 0, 0, 0, 0), .inl 0, [], none)),
  (124, (.iinc 5 1, (127, 0, 0, 0, 0, 0), .inl 0, [], none)),
  (127, (.goto (-44), (130, 83, 0, 0, 0, 0), .inl 0, [], none)),
  (130, (.iinc 4 1, (133, 0, 0, 0, 0, 0), .inl 0, [], none)),
  (133, (.goto (-64), (136, 69, 0, 0, 0, 0), .inl 0, [], none)),
  (136, (.iconst (-1), (137, 0, 0, 0, 0, 0), .inl 0, [], none)),
  (137, (.ireturn, (138, 0, 0, 0, 0, 0), .inl 0, [], none))]
def z_M_playsDrawn : List (Nat × sk_E) := [
  (0, (.aload_n 0, (1, 0, 0, 0, 0, 0), .inl 0, [], none)),
  (1, (.aload_n 0, (2, 0, 0, 0, 0, 0), .inl 0, [], none)),
  (2, (.getfield 433, (5, 13, 21, 0, 0, 0), .inl 0, [], none)),
  (5, (.i2l, (6, 0, 0, 0, 0, 0), .inl 0, [], none)),
  (6, (.putfield 436, (9, 13, 34, 1, 0, 0), .inl 0, [], none)),
  (9, (.aload_n 0, (10, 0, 0, 0, 0, 0), .inl 0, [], none)),
  (10, (.iconst 0, (11, 0, 0, 0, 0, 0), .inl 0, [], none)),
  (11, (.putfield 451, (14, 13, 35, 0, 0, 0), .inl 0, [], none)),
  (14, (.aload_n 0, (15, 0, 0, 0, 0, 0), .inl 0, [], none)),
  (15, (.iconst 0, (16, 0, 0, 0, 0, 0), .inl 0, [], none)),
  (16, (.putfield 454, (19, 13, 36, 0, 0, 0), .inl 0, [], none)),
  (19, (.iconst 0, (20, 0, 0, 0, 0, 0), .inl 0, [], none)),
  (20, (.istore_n 3, (21, 0, 0, 0, 0, 0), .inl 0, [], none)),
  (21, (.iload_n 3, (22, 0, 0, 0, 0, 0), .inl 0, [], some [true, true, true, true, false, false, false, false, false])),
  (22, (.iload_n 2, (23, 0, 0, 0, 0, 0), .inl 0, [], none)),
  (23, (.if_icmp .ge 147, (26, 170, 0, 0, 0, 0), .inl 0, [], none)),
  (26, (.aload_n 0, (27, 0, 0, 0, 0, 0), .inl 0, [], none)),
  (27, (.getfield 39, (30, 13, 20, 2, 0, 0), .inl 0, [], none)),
  (30, (.bipush 8, (32, 0, 0, 0, 0, 0), .inl 0, [], none)),
  (32, (.iaload, (33, 0, 0, 0, 0, 0), .inl 0, [], none)),
  (33, (.istore 4, (35, 0, 0, 0, 0, 0), .inl 0, [], none)),
  (35, (.aload_n 0, (36, 0, 0, 0, 0, 0), .inl 0, [], none)),
  (36, (.getfield 39, (39, 13, 20, 2, 0, 0), .inl 0, [], none)),
  (39, (.bipush 7, (41, 0, 0, 0, 0, 0), .inl 0, [], none)),
  (41, (.iaload, (42, 0, 0, 0, 0, 0), .inl 0, [], none)),
  (42, (.istore 5, (44, 0, 0, 0, 0, 0), .inl 0, [], none)),
  (44, (.iconst 0, (45, 0, 0, 0, 0, 0), .inl 0, [], none)),
  (45, (.istore 6, (47, 0, 0, 0, 0, 0), .inl 0, [], none)),
  (47, (.iconst 1, (48, 0, 0, 0, 0, 0), .inl 0, [], none)),
  (48, (.istore 7, (50, 0, 0, 0, 0, 0), .inl 0, [], none)),
  (50, (.iload 7, (52, 0, 0, 0, 0, 0), .inl 0, [], some [true, true, true, true, true, true, true, true, false])),
  (52, (.ifCond .eq 78, (55, 130, 0, 0, 0, 0), .inl 0, [], none)),
  (55, (.iload 5, (57, 0, 0, 0, 0, 0), .inl 0, [], none)),
  (57, (.ifCond .ne 29, (60, 86, 0, 0, 0, 0), .inl 0, [], none)),
  (60, (.iload_n 1, (61, 0, 0, 0, 0, 0), .inl 0, [], none)),
  (61, (.ifCond .lt 25, (64, 86, 0, 0, 0, 0), .inl 0, [], none)),
  (64, (.aload_n 0, (65, 0, 0, 0, 0, 0), .inl 0, [], none)),
  (65, (.iload_n 1, (66, 0, 0, 0, 0, 0), .inl 0, [], none)),
  (66, (.iload 4, (68, 0, 0, 0, 0, 0), .inl 0, [], none)),
  (68, (.iload 5, (70, 0, 0, 0, 0, 0), .inl 0, [], none)),
  (70, (.aload_n 0, (71, 0, 0, 0, 0, 0), .inl 0, [], none)),
  (71, (.getfield 39, (74, 13, 20, 2, 0, 0), .inl 0, [], none)),
  (74, (.bipush 9, (76, 0, 0, 0, 0, 0), .inl 0, [], none)),
  (76, (.iaload, (77, 0, 0, 0, 0, 0), .inl 0, [], none)),
  (77, (.iload 6, (79, 0, 0, 0, 0, 0), .inl 0, [], none)),
  (79, (.iadd, (80, 0, 0, 0, 0, 0), .inl 0, [], none)),
  (80, (.invokevirtual 413, (83, 220, 5, 1, 12, 13), .inl 0, [], none)),
  (83, (.goto 9, (86, 92, 0, 0, 0, 0), .inl 0, [], none)),
  (86, (.aload_n 0, (87, 0, 0, 0, 0, 0), .inl 0, [], none)),
  (87, (.iload 4, (89, 0, 0, 0, 0, 0), .inl 0, [], none)),
  (89, (.invokevirtual 457, (92, 230, 2, 1, 6, 13), .inl 0, [], none)),
  (92, (.istore 8, (94, 0, 0, 0, 0, 0), .inl 0, [], some [true, true, true, true, true, true, true, false, false])),
  (94, (.iload 8, (96, 0, 0, 0, 0, 0), .inl 0, [], none)),
  (96, (.ifCond .lt 7, (99, 103, 0, 0, 0, 0), .inl 0, [], none)),
  (99, (.iconst 1, (100, 0, 0, 0, 0, 0), .inl 0, [], none)),
  (100, (.goto 4, (103, 104, 0, 0, 0, 0), .inl 0, [], none)),
  (103, (.iconst 0, (104, 0, 0, 0, 0, 0), .inl 0, [], none)),
  (104, (.istore 7, (106, 0, 0, 0, 0, 0), .inl 0, [], none)),
  (106, (.iload 7, (108, 0, 0, 0, 0, 0), .inl 0, [], none)),
  (108, (.ifCond .ne 6, (111, 114, 0, 0, 0, 0), .inl 0, [], none)),
  (111, (.goto (-61), (114, 50, 0, 0, 0, 0), .inl 0, [], none)),
  (114, (.iload 8, (116, 0, 0, 0, 0, 0), .inl 0, [], none)),
  (116, (.istore 4, (118, 0, 0, 0, 0, 0), .inl 0, [], none)),
  (118, (.iconst 1, (119, 0, 0, 0, 0, 0), .inl 0, [], none)),
  (119, (.iload 5, (121, 0, 0, 0, 0, 0), .inl 0, [], none)),
  (121, (.isub, (122, 0, 0, 0, 0, 0), .inl 0, [], none)),
  (122, (.istore 5, (124, 0, 0, 0, 0, 0), .inl 0, [], none)),
  (124, (.iinc 6 1, (127, 0, 0, 0, 0, 0), .inl 0, [], none)),
  (127, (.goto (-77), (130, 50, 0, 0, 0, 0), .inl 0, [], none)),
  (130, (.aload_n 0, (131, 0, 0, 0, 0, 0), .inl 0, [], none)),
  (131, (.dup, (132, 0, 0, 0, 0, 0), .inl 0, [], none)),
  (132, (.getfield 454, (135, 13, 36, 0, 0, 0), .inl 0, [], none)),
  (135, (.iload 6, (137, 0, 0, 0, 0, 0), .inl 0, [], none)),
  (137, (.iadd, (138, 0, 0, 0, 0, 0), .inl 0, [], none)),
  (138, (.putfield 454, (141, 13, 36, 0, 0, 0), .inl 0, [], none)),
  (141, (.aload_n 0, (142, 0, 0, 0, 0, 0), .inl 0, [], none)),
  (142, (.dup, (143, 0, 0, 0, 0, 0), .inl 0, [], none)),
  (143, (.getfield 451, (146, 13, 35, 0, 0, 0), .inl 0, [], none)),
  (146, (.aload_n 0, (147, 0, 0, 0, 0, 0), .inl 0, [], none)),
  (147, (.iload 5, (149, 0, 0, 0, 0, 0), .inl 0, [], none)),
  (149, (.invokevirtual 417, (152, 221, 2, 1, 2, 13), .inl 0, [], none)),
  (152, (.ifCond .ne 7, (155, 159, 0, 0, 0, 0), .inl 0, [], none)),
  (155, (.iconst 1, (156, 0, 0, 0, 0, 0), .inl 0, [], none)),
  (156, (.goto 4, (159, 160, 0, 0, 0, 0), .inl 0, [], none)),
  (159, (.iconst 0, (160, 0, 0, 0, 0, 0), .inl 0, [], none)),
  (160, (.iadd, (161, 0, 0, 0, 0, 0), .inl 0, [], none)),
  (161, (.putfield 451, (164, 13, 35, 0, 0, 0), .inl 0, [], none)),
  (164, (.iinc 3 1, (167, 0, 0, 0, 0, 0), .inl 0, [], none)),
  (167, (.goto (-146), (170, 21, 0, 0, 0, 0), .inl 0, [], none)),
  (170, (.return_, (171, 0, 0, 0, 0, 0), .inl 0, [], none))]
def z_M_games : List (Nat × sk_E) := [
  (0, (.aload_n 0, (1, 0, 0, 0, 0, 0), .inl 0, [], none)),
  (1, (.invokevirtual 326, (4, 174, 1, 1, 1, 13), .inl 0, [], none)),
  (4, (.ifCond .eq 25, (7, 29, 0, 0, 0, 0), .inl 0, [], none)),
  (7, (.iload_n 1, (8, 0, 0, 0, 0, 0), .inl 0, [], none)),
  (8, (.i2l, (9, 0, 0, 0, 0, 0), .inl 0, [], none)),
  (9, (.lconst 1, (10, 0, 0, 0, 0, 0), .inl 0, [], none)),
  (10, (.ldc2_w 460, (13, 0, 0, 0, 0, 0), .inr (.inl (50)), [], none)),
  (13, (.invokestatic 115, (16, 127, 3, 1, 6, 0), .inl 0, [], none)),
  (16, (.ifCond .eq 13, (19, 29, 0, 0, 0, 0), .inl 0, [], none)),
  (19, (.iload_n 2, (20, 0, 0, 0, 0, 0), .inl 0, [], none)),
  (20, (.i2l, (21, 0, 0, 0, 0, 0), .inl 0, [], none)),
  (21, (.lconst 0, (22, 0, 0, 0, 0, 0), .inl 0, [], none)),
  (22, (.lconst 1, (23, 0, 0, 0, 0, 0), .inl 0, [], none)),
  (23, (.invokestatic 115, (26, 127, 3, 1, 6, 0), .inl 0, [], none)),
  (26, (.ifCond .ne 5, (29, 31, 0, 0, 0, 0), .inl 0, [], none)),
  (29, (.iconst (-1), (30, 0, 0, 0, 0, 0), .inl 0, [], none)),
  (30, (.ireturn, (31, 0, 0, 0, 0, 0), .inl 0, [], none)),
  (31, (.aload_n 0, (32, 0, 0, 0, 0, 0), .inl 0, [], none)),
  (32, (.iconst (-1), (33, 0, 0, 0, 0, 0), .inl 0, [], none)),
  (33, (.iload_n 1, (34, 0, 0, 0, 0, 0), .inl 0, [], none)),
  (34, (.invokevirtual 462, (37, 231, 3, 0, 9, 13), .inl 0, [], none)),
  (37, (.iload_n 2, (38, 0, 0, 0, 0, 0), .inl 0, [], none)),
  (38, (.ifCond .ne 10, (41, 48, 0, 0, 0, 0), .inl 0, [], none)),
  (41, (.aload_n 0, (42, 0, 0, 0, 0, 0), .inl 0, [], none)),
  (42, (.getfield 451, (45, 13, 35, 0, 0, 0), .inl 0, [], none)),
  (45, (.goto 7, (48, 52, 0, 0, 0, 0), .inl 0, [], none)),
  (48, (.aload_n 0, (49, 0, 0, 0, 0, 0), .inl 0, [], none)),
  (49, (.getfield 454, (52, 13, 36, 0, 0, 0), .inl 0, [], none)),
  (52, (.ireturn, (53, 0, 0, 0, 0, 0), .inl 0, [], none))]
def z_M_against : List (Nat × sk_E) := [
  (0, (.aload_n 0, (1, 0, 0, 0, 0, 0), .inl 0, [], none)),
  (1, (.invokevirtual 326, (4, 174, 1, 1, 1, 13), .inl 0, [], none)),
  (4, (.ifCond .eq 33, (7, 37, 0, 0, 0, 0), .inl 0, [], none)),
  (7, (.aload_n 0, (8, 0, 0, 0, 0, 0), .inl 0, [], none)),
  (8, (.iload_n 1, (9, 0, 0, 0, 0, 0), .inl 0, [], none)),
  (9, (.invokevirtual 410, (12, 169, 2, 1, 2, 13), .inl 0, [], none)),
  (12, (.ifCond .eq 25, (15, 37, 0, 0, 0, 0), .inl 0, [], none)),
  (15, (.iload_n 2, (16, 0, 0, 0, 0, 0), .inl 0, [], none)),
  (16, (.i2l, (17, 0, 0, 0, 0, 0), .inl 0, [], none)),
  (17, (.lconst 1, (18, 0, 0, 0, 0, 0), .inl 0, [], none)),
  (18, (.ldc2_w 460, (21, 0, 0, 0, 0, 0), .inr (.inl (50)), [], none)),
  (21, (.invokestatic 115, (24, 127, 3, 1, 6, 0), .inl 0, [], none)),
  (24, (.ifCond .eq 13, (27, 37, 0, 0, 0, 0), .inl 0, [], none)),
  (27, (.iload_n 3, (28, 0, 0, 0, 0, 0), .inl 0, [], none)),
  (28, (.i2l, (29, 0, 0, 0, 0, 0), .inl 0, [], none)),
  (29, (.lconst 0, (30, 0, 0, 0, 0, 0), .inl 0, [], none)),
  (30, (.lconst 1, (31, 0, 0, 0, 0, 0), .inl 0, [], none)),
  (31, (.invokestatic 115, (34, 127, 3, 1, 6, 0), .inl 0, [], none)),
  (34, (.ifCond .ne 5, (37, 39, 0, 0, 0, 0), .inl 0, [], none)),
  (37, (.iconst (-1), (38, 0, 0, 0, 0, 0), .inl 0, [], none)),
  (38, (.ireturn, (39, 0, 0, 0, 0, 0), .inl 0, [], none)),
  (39, (.aload_n 0, (40, 0, 0, 0, 0, 0), .inl 0, [], none)),
  (40, (.iload_n 1, (41, 0, 0, 0, 0, 0), .inl 0, [], none)),
  (41, (.iload_n 2, (42, 0, 0, 0, 0, 0), .inl 0, [], none)),
  (42, (.invokevirtual 462, (45, 231, 3, 0, 9, 13), .inl 0, [], none)),
  (45, (.iload_n 3, (46, 0, 0, 0, 0, 0), .inl 0, [], none)),
  (46, (.ifCond .ne 10, (49, 56, 0, 0, 0, 0), .inl 0, [], none)),
  (49, (.aload_n 0, (50, 0, 0, 0, 0, 0), .inl 0, [], none)),
  (50, (.getfield 451, (53, 13, 35, 0, 0, 0), .inl 0, [], none)),
  (53, (.goto 7, (56, 60, 0, 0, 0, 0), .inl 0, [], none)),
  (56, (.aload_n 0, (57, 0, 0, 0, 0, 0), .inl 0, [], none)),
  (57, (.getfield 454, (60, 13, 36, 0, 0, 0), .inl 0, [], none)),
  (60, (.ireturn, (61, 0, 0, 0, 0, 0), .inl 0, [], none))]
def z_M_count : List (Nat × sk_E) := [
  (0, (.iload_n 1, (1, 0, 0, 0, 0, 0), .inl 0, [], none)),
  (1, (.tableswitch 134 0 12 #[67, 67, 67, 67, 67, 67, 90, 95, 103, 111, 119, 124, 129], (68, 135, 0, 0, 0, 0), .inl 0, [(0, 68), (1, 68), (2, 68), (3, 68), (4, 68), (5, 68), (6, 91), (7, 96), (8, 104), (9, 112), (10, 120), (11, 125), (12, 130)], none)),
  (68, (.iload_n 1, (69, 0, 0, 0, 0, 0), .inl 0, [], none)),
  (69, (.iconst 1, (70, 0, 0, 0, 0, 0), .inl 0, [], none)),
  (70, (.if_icmp .ge 12, (73, 82, 0, 0, 0, 0), .inl 0, [], none)),
  (73, (.aload_n 0, (74, 0, 0, 0, 0, 0), .inl 0, [], none)),
  (74, (.getfield 39, (77, 13, 20, 2, 0, 0), .inl 0, [], none)),
  (77, (.iconst 1, (78, 0, 0, 0, 0, 0), .inl 0, [], none)),
  (78, (.iaload, (79, 0, 0, 0, 0, 0), .inl 0, [], none)),
  (79, (.goto 11, (82, 90, 0, 0, 0, 0), .inl 0, [], none)),
  (82, (.aload_n 0, (83, 0, 0, 0, 0, 0), .inl 0, [], none)),
  (83, (.getfield 39, (86, 13, 20, 2, 0, 0), .inl 0, [], none)),
  (86, (.iload_n 1, (87, 0, 0, 0, 0, 0), .inl 0, [], none)),
  (87, (.iconst 1, (88, 0, 0, 0, 0, 0), .inl 0, [], none)),
  (88, (.iadd, (89, 0, 0, 0, 0, 0), .inl 0, [], none)),
  (89, (.iaload, (90, 0, 0, 0, 0, 0), .inl 0, [], none)),
  (90, (.ireturn, (91, 0, 0, 0, 0, 0), .inl 0, [], none)),
  (91, (.aload_n 0, (92, 0, 0, 0, 0, 0), .inl 0, [], none)),
  (92, (.getfield 263, (95, 13, 2, 0, 0, 0), .inl 0, [], none)),
  (95, (.ireturn, (96, 0, 0, 0, 0, 0), .inl 0, [], none)),
  (96, (.aload_n 0, (97, 0, 0, 0, 0, 0), .inl 0, [], none)),
  (97, (.getfield 39, (100, 13, 20, 2, 0, 0), .inl 0, [], none)),
  (100, (.bipush 7, (102, 0, 0, 0, 0, 0), .inl 0, [], none)),
  (102, (.iaload, (103, 0, 0, 0, 0, 0), .inl 0, [], none)),
  (103, (.ireturn, (104, 0, 0, 0, 0, 0), .inl 0, [], none)),
  (104, (.aload_n 0, (105, 0, 0, 0, 0, 0), .inl 0, [], none)),
  (105, (.getfield 39, (108, 13, 20, 2, 0, 0), .inl 0, [], none)),
  (108, (.bipush 8, (110, 0, 0, 0, 0, 0), .inl 0, [], none)),
  (110, (.iaload, (111, 0, 0, 0, 0, 0), .inl 0, [], none)),
  (111, (.ireturn, (112, 0, 0, 0, 0, 0), .inl 0, [], none)),
  (112, (.aload_n 0, (113, 0, 0, 0, 0, 0), .inl 0, [], none)),
  (113, (.getfield 39, (116, 13, 20, 2, 0, 0), .inl 0, [], none)),
  (116, (.bipush 9, (118, 0, 0, 0, 0, 0), .inl 0, [], none)),
  (118, (.iaload, (119, 0, 0, 0, 0, 0), .inl 0, [], none)),
  (119, (.ireturn, (120, 0, 0, 0, 0, 0), .inl 0, [], none)),
  (120, (.aload_n 0, (121, 0, 0, 0, 0, 0), .inl 0, [], none)),
  (121, (.getfield 269, (124, 13, 25, 0, 0, 0), .inl 0, [], none)),
  (124, (.ireturn, (125, 0, 0, 0, 0, 0), .inl 0, [], none)),
  (125, (.aload_n 0, (126, 0, 0, 0, 0, 0), .inl 0, [], none)),
  (126, (.getfield 433, (129, 13, 21, 0, 0, 0), .inl 0, [], none)),
  (129, (.ireturn, (130, 0, 0, 0, 0, 0), .inl 0, [], none)),
  (130, (.aload_n 0, (131, 0, 0, 0, 0, 0), .inl 0, [], none)),
  (131, (.getfield 77, (134, 13, 1, 0, 0, 0), .inl 0, [], none)),
  (134, (.ireturn, (135, 0, 0, 0, 0, 0), .inl 0, [], none)),
  (135, (.iconst (-1), (136, 0, 0, 0, 0, 0), .inl 0, [], none)),
  (136, (.ireturn, (137, 0, 0, 0, 0, 0), .inl 0, [], none))]
def z_M_image : List (Nat × sk_E) := [
  (0, (.iload_n 1, (1, 0, 0, 0, 0, 0), .inl 0, [], none)),
  (1, (.i2l, (2, 0, 0, 0, 0, 0), .inl 0, [], none)),
  (2, (.lconst 0, (3, 0, 0, 0, 0, 0), .inl 0, [], none)),
  (3, (.ldc2_w 324, (6, 0, 0, 0, 0, 0), .inr (.inl (3)), [], none)),
  (6, (.invokestatic 115, (9, 127, 3, 1, 6, 0), .inl 0, [], none)),
  (9, (.ifCond .ne 5, (12, 14, 0, 0, 0, 0), .inl 0, [], none)),
  (12, (.iconst (-1), (13, 0, 0, 0, 0, 0), .inl 0, [], none)),
  (13, (.ireturn, (14, 0, 0, 0, 0, 0), .inl 0, [], none)),
  (14, (.aload_n 0, (15, 0, 0, 0, 0, 0), .inl 0, [], none)),
  (15, (.getfield 74, (18, 13, 39, 2, 0, 0), .inl 0, [], none)),
  (18, (.iload_n 1, (19, 0, 0, 0, 0, 0), .inl 0, [], none)),
  (19, (.iconst 1, (20, 0, 0, 0, 0, 0), .inl 0, [], none)),
  (20, (.bastore, (21, 0, 0, 0, 0, 0), .inl 0, [], none)),
  (21, (.aload_n 0, (22, 0, 0, 0, 0, 0), .inl 0, [], none)),
  (22, (.getfield 71, (25, 13, 38, 2, 0, 0), .inl 0, [], none)),
  (25, (.iload_n 1, (26, 0, 0, 0, 0, 0), .inl 0, [], none)),
  (26, (.aload_n 0, (27, 0, 0, 0, 0, 0), .inl 0, [], none)),
  (27, (.getfield 433, (30, 13, 21, 0, 0, 0), .inl 0, [], none)),
  (30, (.iastore, (31, 0, 0, 0, 0, 0), .inl 0, [], none)),
  (31, (.iconst 0, (32, 0, 0, 0, 0, 0), .inl 0, [], none)),
  (32, (.istore_n 2, (33, 0, 0, 0, 0, 0), .inl 0, [], none)),
  (33, (.iload_n 2, (34, 0, 0, 0, 0, 0), .inl 0, [], some [true, true, true])),
  (34, (.sipush 184, (37, 0, 0, 0, 0, 0), .inl 0, [], none)),
  (37, (.if_icmp .ge 27, (40, 64, 0, 0, 0, 0), .inl 0, [], none)),
  (40, (.aload_n 0, (41, 0, 0, 0, 0, 0), .inl 0, [], none)),
  (41, (.getfield 68, (44, 13, 37, 2, 0, 0), .inl 0, [], none)),
  (44, (.sipush 184, (47, 0, 0, 0, 0, 0), .inl 0, [], none)),
  (47, (.iload_n 1, (48, 0, 0, 0, 0, 0), .inl 0, [], none)),
  (48, (.imul, (49, 0, 0, 0, 0, 0), .inl 0, [], none)),
  (49, (.iload_n 2, (50, 0, 0, 0, 0, 0), .inl 0, [], none)),
  (50, (.iadd, (51, 0, 0, 0, 0, 0), .inl 0, [], none)),
  (51, (.aload_n 0, (52, 0, 0, 0, 0, 0), .inl 0, [], none)),
  (52, (.getfield 39, (55, 13, 20, 2, 0, 0), .inl 0, [], none)),
  (55, (.iload_n 2, (56, 0, 0, 0, 0, 0), .inl 0, [], none)),
  (56, (.iaload, (57, 0, 0, 0, 0, 0), .inl 0, [], none)),
  (57, (.iastore, (58, 0, 0, 0, 0, 0), .inl 0, [], none)),
  (58, (.iinc 2 1, (61, 0, 0, 0, 0, 0), .inl 0, [], none)),
  (61, (.goto (-28), (64, 33, 0, 0, 0, 0), .inl 0, [], none)),
  (64, (.aload_n 0, (65, 0, 0, 0, 0, 0), .inl 0, [], none)),
  (65, (.getfield 39, (68, 13, 20, 2, 0, 0), .inl 0, [], none)),
  (68, (.bipush 9, (70, 0, 0, 0, 0, 0), .inl 0, [], none)),
  (70, (.iaload, (71, 0, 0, 0, 0, 0), .inl 0, [], none)),
  (71, (.ireturn, (72, 0, 0, 0, 0, 0), .inl 0, [], none))]
def z_M_back : List (Nat × sk_E) := [
  (0, (.iload_n 1, (1, 0, 0, 0, 0, 0), .inl 0, [], none)),
  (1, (.i2l, (2, 0, 0, 0, 0, 0), .inl 0, [], none)),
  (2, (.lconst 0, (3, 0, 0, 0, 0, 0), .inl 0, [], none)),
  (3, (.ldc2_w 324, (6, 0, 0, 0, 0, 0), .inr (.inl (3)), [], none)),
  (6, (.invokestatic 115, (9, 127, 3, 1, 6, 0), .inl 0, [], none)),
  (9, (.ifCond .eq 12, (12, 21, 0, 0, 0, 0), .inl 0, [], none)),
  (12, (.aload_n 0, (13, 0, 0, 0, 0, 0), .inl 0, [], none)),
  (13, (.getfield 74, (16, 13, 39, 2, 0, 0), .inl 0, [], none)),
  (16, (.iload_n 1, (17, 0, 0, 0, 0, 0), .inl 0, [], none)),
  (17, (.baload, (18, 0, 0, 0, 0, 0), .inl 0, [], none)),
  (18, (.ifCond .ne 5, (21, 23, 0, 0, 0, 0), .inl 0, [], none)),
  (21, (.iconst (-1), (22, 0, 0, 0, 0, 0), .inl 0, [], none)),
  (22, (.ireturn, (23, 0, 0, 0, 0, 0), .inl 0, [], none)),
  (23, (.aload_n 0, (24, 0, 0, 0, 0, 0), .inl 0, [], none)),
  (24, (.aload_n 0, (25, 0, 0, 0, 0, 0), .inl 0, [], none)),
  (25, (.getfield 71, (28, 13, 38, 2, 0, 0), .inl 0, [], none)),
  (28, (.iload_n 1, (29, 0, 0, 0, 0, 0), .inl 0, [], none)),
  (29, (.iaload, (30, 0, 0, 0, 0, 0), .inl 0, [], none)),
  (30, (.putfield 433, (33, 13, 21, 0, 0, 0), .inl 0, [], none)),
  (33, (.aload_n 0, (34, 0, 0, 0, 0, 0), .inl 0, [], none)),
  (34, (.iconst 0, (35, 0, 0, 0, 0, 0), .inl 0, [], none)),
  (35, (.putfield 269, (38, 13, 25, 0, 0, 0), .inl 0, [], none)),
  (38, (.aload_n 0, (39, 0, 0, 0, 0, 0), .inl 0, [], none)),
  (39, (.iconst (-1), (40, 0, 0, 0, 0, 0), .inl 0, [], none)),
  (40, (.putfield 46, (43, 13, 23, 0, 0, 0), .inl 0, [], none)),
  (43, (.iconst 0, (44, 0, 0, 0, 0, 0), .inl 0, [], none)),
  (44, (.istore_n 2, (45, 0, 0, 0, 0, 0), .inl 0, [], none)),
  (45, (.iload_n 2, (46, 0, 0, 0, 0, 0), .inl 0, [], some [true, true, true])),
  (46, (.sipush 184, (49, 0, 0, 0, 0, 0), .inl 0, [], none)),
  (49, (.if_icmp .ge 27, (52, 76, 0, 0, 0, 0), .inl 0, [], none)),
  (52, (.aload_n 0, (53, 0, 0, 0, 0, 0), .inl 0, [], none)),
  (53, (.getfield 39, (56, 13, 20, 2, 0, 0), .inl 0, [], none)),
  (56, (.iload_n 2, (57, 0, 0, 0, 0, 0), .inl 0, [], none)),
  (57, (.aload_n 0, (58, 0, 0, 0, 0, 0), .inl 0, [], none)),
  (58, (.getfield 68, (61, 13, 37, 2, 0, 0), .inl 0, [], none)),
  (61, (.sipush 184, (64, 0, 0, 0, 0, 0), .inl 0, [], none)),
  (64, (.iload_n 1, (65, 0, 0, 0, 0, 0), .inl 0, [], none)),
  (65, (.imul, (66, 0, 0, 0, 0, 0), .inl 0, [], none)),
  (66, (.iload_n 2, (67, 0, 0, 0, 0, 0), .inl 0, [], none)),
  (67, (.iadd, (68, 0, 0, 0, 0, 0), .inl 0, [], none)),
  (68, (.iaload, (69, 0, 0, 0, 0, 0), .inl 0, [], none)),
  (69, (.iastore, (70, 0, 0, 0, 0, 0), .inl 0, [], none)),
  (70, (.iinc 2 1, (73, 0, 0, 0, 0, 0), .inl 0, [], none)),
  (73, (.goto (-28), (76, 45, 0, 0, 0, 0), .inl 0, [], none)),
  (76, (.aload_n 0, (77, 0, 0, 0, 0, 0), .inl 0, [], none)),
  (77, (.getfield 39, (80, 13, 20, 2, 0, 0), .inl 0, [], none)),
  (80, (.bipush 9, (82, 0, 0, 0, 0, 0), .inl 0, [], none)),
  (82, (.iaload, (83, 0, 0, 0, 0, 0), .inl 0, [], none)),
  (83, (.ireturn, (84, 0, 0, 0, 0, 0), .inl 0, [], none))]
def z_JI_numberOfTrailingZeros : List (Nat × sk_E) := [
  (0, (.iload_n 0, (1, 0, 0, 0, 0, 0), .inl 0, [], none)),
  (1, (.iconst (-1), (2, 0, 0, 0, 0, 0), .inl 0, [], none)),
  (2, (.ixor, (3, 0, 0, 0, 0, 0), .inl 0, [], none)),
  (3, (.iload_n 0, (4, 0, 0, 0, 0, 0), .inl 0, [], none)),
  (4, (.iconst 1, (5, 0, 0, 0, 0, 0), .inl 0, [], none)),
  (5, (.isub, (6, 0, 0, 0, 0, 0), .inl 0, [], none)),
  (6, (.iand, (7, 0, 0, 0, 0, 0), .inl 0, [], none)),
  (7, (.istore_n 0, (8, 0, 0, 0, 0, 0), .inl 0, [], none)),
  (8, (.iload_n 0, (9, 0, 0, 0, 0, 0), .inl 0, [], none)),
  (9, (.ifCond .gt 8, (12, 17, 0, 0, 0, 0), .inl 0, [], none)),
  (12, (.iload_n 0, (13, 0, 0, 0, 0, 0), .inl 0, [], none)),
  (13, (.bipush 32, (15, 0, 0, 0, 0, 0), .inl 0, [], none)),
  (15, (.iand, (16, 0, 0, 0, 0, 0), .inl 0, [], none)),
  (16, (.ireturn, (17, 0, 0, 0, 0, 0), .inl 0, [], none)),
  (17, (.iconst 1, (18, 0, 0, 0, 0, 0), .inl 0, [], none)),
  (18, (.istore_n 1, (19, 0, 0, 0, 0, 0), .inl 0, [], none)),
  (19, (.iload_n 0, (20, 0, 0, 0, 0, 0), .inl 0, [], none)),
  (20, (.ldc_w 264, (23, 0, 0, 0, 0, 0), .inl (65536), [], none)),
  (23, (.if_icmp .le 11, (26, 34, 0, 0, 0, 0), .inl 0, [], none)),
  (26, (.iinc 1 16, (29, 0, 0, 0, 0, 0), .inl 0, [], none)),
  (29, (.iload_n 0, (30, 0, 0, 0, 0, 0), .inl 0, [], none)),
  (30, (.bipush 16, (32, 0, 0, 0, 0, 0), .inl 0, [], none)),
  (32, (.iushr, (33, 0, 0, 0, 0, 0), .inl 0, [], none)),
  (33, (.istore_n 0, (34, 0, 0, 0, 0, 0), .inl 0, [], none)),
  (34, (.iload_n 0, (35, 0, 0, 0, 0, 0), .inl 0, [], some [true, true])),
  (35, (.sipush 256, (38, 0, 0, 0, 0, 0), .inl 0, [], none)),
  (38, (.if_icmp .le 11, (41, 49, 0, 0, 0, 0), .inl 0, [], none)),
  (41, (.iinc 1 8, (44, 0, 0, 0, 0, 0), .inl 0, [], none)),
  (44, (.iload_n 0, (45, 0, 0, 0, 0, 0), .inl 0, [], none)),
  (45, (.bipush 8, (47, 0, 0, 0, 0, 0), .inl 0, [], none)),
  (47, (.iushr, (48, 0, 0, 0, 0, 0), .inl 0, [], none)),
  (48, (.istore_n 0, (49, 0, 0, 0, 0, 0), .inl 0, [], none)),
  (49, (.iload_n 0, (50, 0, 0, 0, 0, 0), .inl 0, [], none)),
  (50, (.bipush 16, (52, 0, 0, 0, 0, 0), .inl 0, [], none)),
  (52, (.if_icmp .le 10, (55, 62, 0, 0, 0, 0), .inl 0, [], none)),
  (55, (.iinc 1 4, (58, 0, 0, 0, 0, 0), .inl 0, [], none)),
  (58, (.iload_n 0, (59, 0, 0, 0, 0, 0), .inl 0, [], none)),
  (59, (.iconst 4, (60, 0, 0, 0, 0, 0), .inl 0, [], none)),
  (60, (.iushr, (61, 0, 0, 0, 0, 0), .inl 0, [], none)),
  (61, (.istore_n 0, (62, 0, 0, 0, 0, 0), .inl 0, [], none)),
  (62, (.iload_n 0, (63, 0, 0, 0, 0, 0), .inl 0, [], some [true, true])),
  (63, (.iconst 4, (64, 0, 0, 0, 0, 0), .inl 0, [], none)),
  (64, (.if_icmp .le 10, (67, 74, 0, 0, 0, 0), .inl 0, [], none)),
  (67, (.iinc 1 2, (70, 0, 0, 0, 0, 0), .inl 0, [], none)),
  (70, (.iload_n 0, (71, 0, 0, 0, 0, 0), .inl 0, [], none)),
  (71, (.iconst 2, (72, 0, 0, 0, 0, 0), .inl 0, [], none)),
  (72, (.iushr, (73, 0, 0, 0, 0, 0), .inl 0, [], none)),
  (73, (.istore_n 0, (74, 0, 0, 0, 0, 0), .inl 0, [], none)),
  (74, (.iload_n 1, (75, 0, 0, 0, 0, 0), .inl 0, [], none)),
  (75, (.iload_n 0, (76, 0, 0, 0, 0, 0), .inl 0, [], none)),
  (76, (.iconst 1, (77, 0, 0, 0, 0, 0), .inl 0, [], none)),
  (77, (.iushr, (78, 0, 0, 0, 0, 0), .inl 0, [], none)),
  (78, (.iadd, (79, 0, 0, 0, 0, 0), .inl 0, [], none)),
  (79, (.ireturn, (80, 0, 0, 0, 0, 0), .inl 0, [], none))]
def z_JI_bitCount : List (Nat × sk_E) := [
  (0, (.iload_n 0, (1, 0, 0, 0, 0, 0), .inl 0, [], none)),
  (1, (.iload_n 0, (2, 0, 0, 0, 0, 0), .inl 0, [], none)),
  (2, (.iconst 1, (3, 0, 0, 0, 0, 0), .inl 0, [], none)),
  (3, (.iushr, (4, 0, 0, 0, 0, 0), .inl 0, [], none)),
  (4, (.ldc_w 265, (7, 0, 0, 0, 0, 0), .inl (1431655765), [], none)),
  (7, (.iand, (8, 0, 0, 0, 0, 0), .inl 0, [], none)),
  (8, (.isub, (9, 0, 0, 0, 0, 0), .inl 0, [], none)),
  (9, (.istore_n 0, (10, 0, 0, 0, 0, 0), .inl 0, [], none)),
  (10, (.iload_n 0, (11, 0, 0, 0, 0, 0), .inl 0, [], none)),
  (11, (.ldc_w 266, (14, 0, 0, 0, 0, 0), .inl (858993459), [], none)),
  (14, (.iand, (15, 0, 0, 0, 0, 0), .inl 0, [], none)),
  (15, (.iload_n 0, (16, 0, 0, 0, 0, 0), .inl 0, [], none)),
  (16, (.iconst 2, (17, 0, 0, 0, 0, 0), .inl 0, [], none)),
  (17, (.iushr, (18, 0, 0, 0, 0, 0), .inl 0, [], none)),
  (18, (.ldc_w 266, (21, 0, 0, 0, 0, 0), .inl (858993459), [], none)),
  (21, (.iand, (22, 0, 0, 0, 0, 0), .inl 0, [], none)),
  (22, (.iadd, (23, 0, 0, 0, 0, 0), .inl 0, [], none)),
  (23, (.istore_n 0, (24, 0, 0, 0, 0, 0), .inl 0, [], none)),
  (24, (.iload_n 0, (25, 0, 0, 0, 0, 0), .inl 0, [], none)),
  (25, (.iload_n 0, (26, 0, 0, 0, 0, 0), .inl 0, [], none)),
  (26, (.iconst 4, (27, 0, 0, 0, 0, 0), .inl 0, [], none)),
  (27, (.iushr, (28, 0, 0, 0, 0, 0), .inl 0, [], none)),
  (28, (.iadd, (29, 0, 0, 0, 0, 0), .inl 0, [], none)),
  (29, (.ldc_w 267, (32, 0, 0, 0, 0, 0), .inl (252645135), [], none)),
  (32, (.iand, (33, 0, 0, 0, 0, 0), .inl 0, [], none)),
  (33, (.istore_n 0, (34, 0, 0, 0, 0, 0), .inl 0, [], none)),
  (34, (.iload_n 0, (35, 0, 0, 0, 0, 0), .inl 0, [], none)),
  (35, (.iload_n 0, (36, 0, 0, 0, 0, 0), .inl 0, [], none)),
  (36, (.bipush 8, (38, 0, 0, 0, 0, 0), .inl 0, [], none)),
  (38, (.iushr, (39, 0, 0, 0, 0, 0), .inl 0, [], none)),
  (39, (.iadd, (40, 0, 0, 0, 0, 0), .inl 0, [], none)),
  (40, (.istore_n 0, (41, 0, 0, 0, 0, 0), .inl 0, [], none)),
  (41, (.iload_n 0, (42, 0, 0, 0, 0, 0), .inl 0, [], none)),
  (42, (.iload_n 0, (43, 0, 0, 0, 0, 0), .inl 0, [], none)),
  (43, (.bipush 16, (45, 0, 0, 0, 0, 0), .inl 0, [], none)),
  (45, (.iushr, (46, 0, 0, 0, 0, 0), .inl 0, [], none)),
  (46, (.iadd, (47, 0, 0, 0, 0, 0), .inl 0, [], none)),
  (47, (.istore_n 0, (48, 0, 0, 0, 0, 0), .inl 0, [], none)),
  (48, (.iload_n 0, (49, 0, 0, 0, 0, 0), .inl 0, [], none)),
  (49, (.bipush 63, (51, 0, 0, 0, 0, 0), .inl 0, [], none)),
  (51, (.iand, (52, 0, 0, 0, 0, 0), .inl 0, [], none)),
  (52, (.ireturn, (53, 0, 0, 0, 0, 0), .inl 0, [], none))]
def z_JL_numberOfTrailingZeros : List (Nat × sk_E) := [
  (0, (.lload_n 0, (1, 0, 0, 0, 0, 0), .inl 0, [], none)),
  (1, (.l2i, (2, 0, 0, 0, 0, 0), .inl 0, [], none)),
  (2, (.istore_n 2, (3, 0, 0, 0, 0, 0), .inl 0, [], none)),
  (3, (.iload_n 2, (4, 0, 0, 0, 0, 0), .inl 0, [], none)),
  (4, (.ifCond .ne 17, (7, 21, 0, 0, 0, 0), .inl 0, [], none)),
  (7, (.bipush 32, (9, 0, 0, 0, 0, 0), .inl 0, [], none)),
  (9, (.lload_n 0, (10, 0, 0, 0, 0, 0), .inl 0, [], none)),
  (10, (.bipush 32, (12, 0, 0, 0, 0, 0), .inl 0, [], none)),
  (12, (.lushr, (13, 0, 0, 0, 0, 0), .inl 0, [], none)),
  (13, (.l2i, (14, 0, 0, 0, 0, 0), .inl 0, [], none)),
  (14, (.invokestatic 311, (17, 237, 1, 1, 2, 0), .inl 0, [], none)),
  (17, (.iadd, (18, 0, 0, 0, 0, 0), .inl 0, [], none)),
  (18, (.goto 7, (21, 25, 0, 0, 0, 0), .inl 0, [], none)),
  (21, (.iload_n 2, (22, 0, 0, 0, 0, 0), .inl 0, [], none)),
  (22, (.invokestatic 311, (25, 237, 1, 1, 2, 0), .inl 0, [], none)),
  (25, (.ireturn, (26, 0, 0, 0, 0, 0), .inl 0, [], none))]
def z_JL_bitCount : List (Nat × sk_E) := [
  (0, (.lload_n 0, (1, 0, 0, 0, 0, 0), .inl 0, [], none)),
  (1, (.lload_n 0, (2, 0, 0, 0, 0, 0), .inl 0, [], none)),
  (2, (.iconst 1, (3, 0, 0, 0, 0, 0), .inl 0, [], none)),
  (3, (.lushr, (4, 0, 0, 0, 0, 0), .inl 0, [], none)),
  (4, (.ldc2_w 314, (7, 0, 0, 0, 0, 0), .inr (.inl (6148914691236517205)), [], none)),
  (7, (.land, (8, 0, 0, 0, 0, 0), .inl 0, [], none)),
  (8, (.lsub, (9, 0, 0, 0, 0, 0), .inl 0, [], none)),
  (9, (.lstore_n 0, (10, 0, 0, 0, 0, 0), .inl 0, [], none)),
  (10, (.lload_n 0, (11, 0, 0, 0, 0, 0), .inl 0, [], none)),
  (11, (.ldc2_w 316, (14, 0, 0, 0, 0, 0), .inr (.inl (3689348814741910323)), [], none)),
  (14, (.land, (15, 0, 0, 0, 0, 0), .inl 0, [], none)),
  (15, (.lload_n 0, (16, 0, 0, 0, 0, 0), .inl 0, [], none)),
  (16, (.iconst 2, (17, 0, 0, 0, 0, 0), .inl 0, [], none)),
  (17, (.lushr, (18, 0, 0, 0, 0, 0), .inl 0, [], none)),
  (18, (.ldc2_w 316, (21, 0, 0, 0, 0, 0), .inr (.inl (3689348814741910323)), [], none)),
  (21, (.land, (22, 0, 0, 0, 0, 0), .inl 0, [], none)),
  (22, (.ladd, (23, 0, 0, 0, 0, 0), .inl 0, [], none)),
  (23, (.lstore_n 0, (24, 0, 0, 0, 0, 0), .inl 0, [], none)),
  (24, (.lload_n 0, (25, 0, 0, 0, 0, 0), .inl 0, [], none)),
  (25, (.lload_n 0, (26, 0, 0, 0, 0, 0), .inl 0, [], none)),
  (26, (.iconst 4, (27, 0, 0, 0, 0, 0), .inl 0, [], none)),
  (27, (.lushr, (28, 0, 0, 0, 0, 0), .inl 0, [], none)),
  (28, (.ladd, (29, 0, 0, 0, 0, 0), .inl 0, [], none)),
  (29, (.ldc2_w 318, (32, 0, 0, 0, 0, 0), .inr (.inl (1085102592571150095)), [], none)),
  (32, (.land, (33, 0, 0, 0, 0, 0), .inl 0, [], none)),
  (33, (.lstore_n 0, (34, 0, 0, 0, 0, 0), .inl 0, [], none)),
  (34, (.lload_n 0, (35, 0, 0, 0, 0, 0), .inl 0, [], none)),
  (35, (.lload_n 0, (36, 0, 0, 0, 0, 0), .inl 0, [], none)),
  (36, (.bipush 8, (38, 0, 0, 0, 0, 0), .inl 0, [], none)),
  (38, (.lushr, (39, 0, 0, 0, 0, 0), .inl 0, [], none)),
  (39, (.ladd, (40, 0, 0, 0, 0, 0), .inl 0, [], none)),
  (40, (.lstore_n 0, (41, 0, 0, 0, 0, 0), .inl 0, [], none)),
  (41, (.lload_n 0, (42, 0, 0, 0, 0, 0), .inl 0, [], none)),
  (42, (.lload_n 0, (43, 0, 0, 0, 0, 0), .inl 0, [], none)),
  (43, (.bipush 16, (45, 0, 0, 0, 0, 0), .inl 0, [], none)),
  (45, (.lushr, (46, 0, 0, 0, 0, 0), .inl 0, [], none)),
  (46, (.ladd, (47, 0, 0, 0, 0, 0), .inl 0, [], none)),
  (47, (.lstore_n 0, (48, 0, 0, 0, 0, 0), .inl 0, [], none)),
  (48, (.lload_n 0, (49, 0, 0, 0, 0, 0), .inl 0, [], none)),
  (49, (.lload_n 0, (50, 0, 0, 0, 0, 0), .inl 0, [], none)),
  (50, (.bipush 32, (52, 0, 0, 0, 0, 0), .inl 0, [], none)),
  (52, (.lushr, (53, 0, 0, 0, 0, 0), .inl 0, [], none)),
  (53, (.ladd, (54, 0, 0, 0, 0, 0), .inl 0, [], none)),
  (54, (.lstore_n 0, (55, 0, 0, 0, 0, 0), .inl 0, [], none)),
  (55, (.lload_n 0, (56, 0, 0, 0, 0, 0), .inl 0, [], none)),
  (56, (.l2i, (57, 0, 0, 0, 0, 0), .inl 0, [], none)),
  (57, (.bipush 127, (59, 0, 0, 0, 0, 0), .inl 0, [], none)),
  (59, (.iand, (60, 0, 0, 0, 0, 0), .inl 0, [], none)),
  (60, (.ireturn, (61, 0, 0, 0, 0, 0), .inl 0, [], none))]
def z_JM_max : List (Nat × sk_E) := [
  (0, (.iload_n 0, (1, 0, 0, 0, 0, 0), .inl 0, [], none)),
  (1, (.iload_n 1, (2, 0, 0, 0, 0, 0), .inl 0, [], none)),
  (2, (.if_icmp .lt 7, (5, 9, 0, 0, 0, 0), .inl 0, [], none)),
  (5, (.iload_n 0, (6, 0, 0, 0, 0, 0), .inl 0, [], none)),
  (6, (.goto 4, (9, 10, 0, 0, 0, 0), .inl 0, [], none)),
  (9, (.iload_n 1, (10, 0, 0, 0, 0, 0), .inl 0, [], none)),
  (10, (.ireturn, (11, 0, 0, 0, 0, 0), .inl 0, [], none))]
def z_JM_min : List (Nat × sk_E) := [
  (0, (.iload_n 0, (1, 0, 0, 0, 0, 0), .inl 0, [], none)),
  (1, (.iload_n 1, (2, 0, 0, 0, 0, 0), .inl 0, [], none)),
  (2, (.if_icmp .gt 7, (5, 9, 0, 0, 0, 0), .inl 0, [], none)),
  (5, (.iload_n 0, (6, 0, 0, 0, 0, 0), .inl 0, [], none)),
  (6, (.goto 4, (9, 10, 0, 0, 0, 0), .inl 0, [], none)),
  (9, (.iload_n 1, (10, 0, 0, 0, 0, 0), .inl 0, [], none)),
  (10, (.ireturn, (11, 0, 0, 0, 0, 0), .inl 0, [], none))]
def z_JS_length : List (Nat × sk_E) := [
  (0, (.aload_n 0, (1, 0, 0, 0, 0, 0), .inl 0, [], none)),
  (1, (.getfield 9, (4, 51, 0, 2, 0, 0), .inl 0, [], none)),
  (4, (.arraylength, (5, 0, 0, 0, 0, 0), .inl 0, [], none)),
  (5, (.aload_n 0, (6, 0, 0, 0, 0, 0), .inl 0, [], none)),
  (6, (.invokevirtual 335, (9, 245, 1, 1, 1, 51), .inl 0, [], none)),
  (9, (.ishr, (10, 0, 0, 0, 0, 0), .inl 0, [], none)),
  (10, (.ireturn, (11, 0, 0, 0, 0, 0), .inl 0, [], none))]
def z_JS_charAt : List (Nat × sk_E) := [
  (0, (.aload_n 0, (1, 0, 0, 0, 0, 0), .inl 0, [], none)),
  (1, (.invokevirtual 492, (4, 246, 1, 1, 1, 51), .inl 0, [], none)),
  (4, (.ifCond .eq 12, (7, 16, 0, 0, 0, 0), .inl 0, [], none)),
  (7, (.aload_n 0, (8, 0, 0, 0, 0, 0), .inl 0, [], none)),
  (8, (.getfield 9, (11, 51, 0, 2, 0, 0), .inl 0, [], none)),
  (11, (.iload_n 1, (12, 0, 0, 0, 0, 0), .inl 0, [], none)),
  (12, (.invokestatic 495, (15, 248, 2, 1, 2, 0), .inl 0, [], none)),
  (15, (.ireturn, (16, 5, 0, 0, 0, 0), .inl 0, [], none)),
  (16, (.aload_n 0, (17, 0, 0, 0, 0, 0), .inl 0, [], none)),
  (17, (.getfield 9, (20, 51, 0, 2, 0, 0), .inl 0, [], none)),
  (20, (.iload_n 1, (21, 0, 0, 0, 0, 0), .inl 0, [], none)),
  (21, (.invokestatic 498, (24, 251, 2, 1, 2, 0), .inl 0, [], none)),
  (24, (.ireturn, (25, 5, 0, 0, 0, 0), .inl 0, [], none))]
def z_JS_coder : List (Nat × sk_E) := [
  (0, (.getstatic 38, (3, 0, 0, 0, 0, 0), .inl 1, [], none)),
  (3, (.ifCond .eq 10, (6, 13, 0, 0, 0, 0), .inl 0, [], none)),
  (6, (.aload_n 0, (7, 0, 0, 0, 0, 0), .inl 0, [], none)),
  (7, (.getfield 15, (10, 51, 1, 0, 0, 0), .inl 0, [], none)),
  (10, (.goto 4, (13, 14, 0, 0, 0, 0), .inl 0, [], none)),
  (13, (.iconst 1, (14, 0, 0, 0, 0, 0), .inl 0, [], none)),
  (14, (.ireturn, (15, 4, 0, 0, 0, 0), .inl 0, [], none))]
def z_JS_isLatin1 : List (Nat × sk_E) := [
  (0, (.getstatic 38, (3, 0, 0, 0, 0, 0), .inl 1, [], none)),
  (3, (.ifCond .eq 14, (6, 17, 0, 0, 0, 0), .inl 0, [], none)),
  (6, (.aload_n 0, (7, 0, 0, 0, 0, 0), .inl 0, [], none)),
  (7, (.getfield 15, (10, 51, 1, 0, 0, 0), .inl 0, [], none)),
  (10, (.ifCond .ne 7, (13, 17, 0, 0, 0, 0), .inl 0, [], none)),
  (13, (.iconst 1, (14, 0, 0, 0, 0, 0), .inl 0, [], none)),
  (14, (.goto 4, (17, 18, 0, 0, 0, 0), .inl 0, [], none)),
  (17, (.iconst 0, (18, 0, 0, 0, 0, 0), .inl 0, [], none)),
  (18, (.ireturn, (19, 3, 0, 0, 0, 0), .inl 0, [], none))]
def z_JS_checkIndex : List (Nat × sk_E) := [
  (0, (.iload_n 0, (1, 0, 0, 0, 0, 0), .inl 0, [], none)),
  (1, (.iload_n 1, (2, 0, 0, 0, 0, 0), .inl 0, [], none)),
  (2, (.getstatic 1053, (5, 1, 0, 0, 0, 0), .inl 0, [], none)),
  (5, (.invokestatic 1059, (8, 253, 3, 1, 3, 0), .inl 0, [], none)),
  (8, (.pop, (9, 0, 0, 0, 0, 0), .inl 0, [], none)),
  (9, (.return_, (10, 0, 0, 0, 0, 0), .inl 0, [], none))]
def z_JT_charAt : List (Nat × sk_E) := [
  (0, (.iload_n 1, (1, 0, 0, 0, 0, 0), .inl 0, [], none)),
  (1, (.aload_n 0, (2, 0, 0, 0, 0, 0), .inl 0, [], none)),
  (2, (.arraylength, (3, 0, 0, 0, 0, 0), .inl 0, [], none)),
  (3, (.invokestatic 9, (6, 247, 2, 0, 2, 0), .inl 0, [], none)),
  (6, (.aload_n 0, (7, 0, 0, 0, 0, 0), .inl 0, [], none)),
  (7, (.iload_n 1, (8, 0, 0, 0, 0, 0), .inl 0, [], none)),
  (8, (.baload, (9, 0, 0, 0, 0, 0), .inl 0, [], none)),
  (9, (.sipush 255, (12, 0, 0, 0, 0, 0), .inl 0, [], none)),
  (12, (.iand, (13, 0, 0, 0, 0, 0), .inl 0, [], none)),
  (13, (.i2c, (14, 0, 0, 0, 0, 0), .inl 0, [], none)),
  (14, (.ireturn, (15, 5, 0, 0, 0, 0), .inl 0, [], none))]
def z_JU_getChar : List (Nat × sk_E) := [
  (0, (.getstatic 44, (3, 0, 0, 0, 0, 0), .inl 1, [], none)),
  (3, (.ifCond .ne 25, (6, 28, 0, 0, 0, 0), .inl 0, [], none)),
  (6, (.iload_n 1, (7, 0, 0, 0, 0, 0), .inl 0, [], none)),
  (7, (.ifCond .lt 11, (10, 18, 0, 0, 0, 0), .inl 0, [], none)),
  (10, (.iload_n 1, (11, 0, 0, 0, 0, 0), .inl 0, [], none)),
  (11, (.aload_n 0, (12, 0, 0, 0, 0, 0), .inl 0, [], none)),
  (12, (.invokestatic 48, (15, 250, 1, 1, 1, 0), .inl 0, [], none)),
  (15, (.if_icmp .lt 13, (18, 28, 0, 0, 0, 0), .inl 0, [], none)),
  (28, (.iload_n 1, (29, 0, 0, 0, 0, 0), .inl 0, [], some [true, true])),
  (29, (.iconst 1, (30, 0, 0, 0, 0, 0), .inl 0, [], none)),
  (30, (.ishl, (31, 0, 0, 0, 0, 0), .inl 0, [], none)),
  (31, (.istore_n 1, (32, 0, 0, 0, 0, 0), .inl 0, [], none)),
  (32, (.aload_n 0, (33, 0, 0, 0, 0, 0), .inl 0, [], none)),
  (33, (.iload_n 1, (34, 0, 0, 0, 0, 0), .inl 0, [], none)),
  (34, (.iinc 1 1, (37, 0, 0, 0, 0, 0), .inl 0, [], none)),
  (37, (.baload, (38, 0, 0, 0, 0, 0), .inl 0, [], none)),
  (38, (.sipush 255, (41, 0, 0, 0, 0, 0), .inl 0, [], none)),
  (41, (.iand, (42, 0, 0, 0, 0, 0), .inl 0, [], none)),
  (42, (.getstatic 59, (45, 0, 0, 0, 0, 0), .inl 0, [], none)),
  (45, (.ishl, (46, 0, 0, 0, 0, 0), .inl 0, [], none)),
  (46, (.aload_n 0, (47, 0, 0, 0, 0, 0), .inl 0, [], none)),
  (47, (.iload_n 1, (48, 0, 0, 0, 0, 0), .inl 0, [], none)),
  (48, (.baload, (49, 0, 0, 0, 0, 0), .inl 0, [], none)),
  (49, (.sipush 255, (52, 0, 0, 0, 0, 0), .inl 0, [], none)),
  (52, (.iand, (53, 0, 0, 0, 0, 0), .inl 0, [], none)),
  (53, (.getstatic 63, (56, 0, 0, 0, 0, 0), .inl 8, [], none)),
  (56, (.ishl, (57, 0, 0, 0, 0, 0), .inl 0, [], none)),
  (57, (.ior, (58, 0, 0, 0, 0, 0), .inl 0, [], none)),
  (58, (.i2c, (59, 0, 0, 0, 0, 0), .inl 0, [], none)),
  (59, (.ireturn, (60, 5, 0, 0, 0, 0), .inl 0, [], none))]
def z_JU_length : List (Nat × sk_E) := [
  (0, (.aload_n 0, (1, 0, 0, 0, 0, 0), .inl 0, [], none)),
  (1, (.arraylength, (2, 0, 0, 0, 0, 0), .inl 0, [], none)),
  (2, (.iconst 1, (3, 0, 0, 0, 0, 0), .inl 0, [], none)),
  (3, (.ishr, (4, 0, 0, 0, 0, 0), .inl 0, [], none)),
  (4, (.ireturn, (5, 0, 0, 0, 0, 0), .inl 0, [], none))]
def z_JU_charAt : List (Nat × sk_E) := [
  (0, (.iload_n 1, (1, 0, 0, 0, 0, 0), .inl 0, [], none)),
  (1, (.aload_n 0, (2, 0, 0, 0, 0, 0), .inl 0, [], none)),
  (2, (.invokestatic 67, (5, 252, 2, 0, 2, 0), .inl 0, [], none)),
  (5, (.aload_n 0, (6, 0, 0, 0, 0, 0), .inl 0, [], none)),
  (6, (.iload_n 1, (7, 0, 0, 0, 0, 0), .inl 0, [], none)),
  (7, (.invokestatic 71, (10, 249, 2, 1, 2, 0), .inl 0, [], none)),
  (10, (.ireturn, (11, 5, 0, 0, 0, 0), .inl 0, [], none))]
def z_JU_checkIndex : List (Nat × sk_E) := [
  (0, (.iload_n 0, (1, 0, 0, 0, 0, 0), .inl 0, [], none)),
  (1, (.aload_n 1, (2, 0, 0, 0, 0, 0), .inl 0, [], none)),
  (2, (.invokestatic 48, (5, 250, 1, 1, 1, 0), .inl 0, [], none)),
  (5, (.invokestatic 414, (8, 247, 2, 0, 2, 0), .inl 0, [], none)),
  (8, (.return_, (9, 0, 0, 0, 0, 0), .inl 0, [], none))]
def z_JP_checkIndex : List (Nat × sk_E) := [
  (0, (.iload_n 0, (1, 0, 0, 0, 0, 0), .inl 0, [], none)),
  (1, (.ifCond .lt 8, (4, 9, 0, 0, 0, 0), .inl 0, [], none)),
  (4, (.iload_n 0, (5, 0, 0, 0, 0, 0), .inl 0, [], none)),
  (5, (.iload_n 1, (6, 0, 0, 0, 0, 0), .inl 0, [], none)),
  (6, (.if_icmp .lt 10, (9, 16, 0, 0, 0, 0), .inl 0, [], none)),
  (9, (.aload_n 2, (10, 0, 0, 0, 0, 0), .inl 0, [], none)),
  (10, (.iload_n 0, (11, 0, 0, 0, 0, 0), .inl 0, [], none)),
  (11, (.iload_n 1, (12, 0, 0, 0, 0, 0), .inl 0, [], none)),
  (16, (.iload_n 0, (17, 0, 0, 0, 0, 0), .inl 0, [], none)),
  (17, (.ireturn, (18, 0, 0, 0, 0, 0), .inl 0, [], none))]
def z_L_law : List (Nat × sk_E) := [
  (0, (.new 7, (3, 12, 9, 0, 0, 0), .inl 0, [], none)),
  (3, (.dup, (4, 0, 0, 0, 0, 0), .inl 0, [], none)),
  (4, (.invokespecial 9, (7, 93, 1, 0, 1, 0), .inl 0, [], none)),
  (7, (.astore_n 1, (8, 0, 0, 0, 0, 0), .inl 0, [], none)),
  (8, (.new 10, (11, 13, 40, 0, 0, 0), .inl 0, [], none)),
  (11, (.dup, (12, 0, 0, 0, 0, 0), .inl 0, [], none)),
  (12, (.invokespecial 12, (15, 126, 1, 0, 1, 0), .inl 0, [], none)),
  (15, (.astore_n 2, (16, 0, 0, 0, 0, 0), .inl 0, [], none)),
  (16, (.iconst 0, (17, 0, 0, 0, 0, 0), .inl 0, [], none)),
  (17, (.istore_n 3, (18, 0, 0, 0, 0, 0), .inl 0, [], none)),
  (18, (.iload_n 3, (19, 0, 0, 0, 0, 0), .inl 0, [], some [true, true, true, true])),
  (19, (.aload_n 0, (20, 0, 0, 0, 0, 0), .inl 0, [], none)),
  (20, (.arraylength, (21, 0, 0, 0, 0, 0), .inl 0, [], none)),
  (21, (.bipush 6, (23, 0, 0, 0, 0, 0), .inl 0, [], none)),
  (23, (.isub, (24, 0, 0, 0, 0, 0), .inl 0, [], none)),
  (24, (.if_icmp .gt 863, (27, 887, 0, 0, 0, 0), .inl 0, [], none)),
  (27, (.aload_n 0, (28, 0, 0, 0, 0, 0), .inl 0, [], none)),
  (28, (.iload_n 3, (29, 0, 0, 0, 0, 0), .inl 0, [], none)),
  (29, (.iaload, (30, 0, 0, 0, 0, 0), .inl 0, [], none)),
  (30, (.bipush 31, (32, 0, 0, 0, 0, 0), .inl 0, [], none)),
  (32, (.iand, (33, 0, 0, 0, 0, 0), .inl 0, [], none)),
  (33, (.tableswitch 848 0 28 #[131, 194, 217, 230, 243, 276, 309, 342, 365, 378, 391, 404, 427, 450, 473, 496, 509, 522, 545, 558, 571, 614, 647, 680, 703, 736, 779, 802, 825], (164, 881, 0, 0, 0, 0), .inl 0, [(0, 164), (1, 227), (2, 250), (3, 263), (4, 276), (5, 309), (6, 342), (7, 375), (8, 398), (9, 411), (10, 424), (11, 437), (12, 460), (13, 483), (14, 506), (15, 529), (16, 542), (17, 555), (18, 578), (19, 591), (20, 604), (21, 647), (22, 680), (23, 713), (24, 736), (25, 769), (26, 812), (27, 835), (28, 858)], none)),
  (164, (.aload_n 1, (165, 0, 0, 0, 0, 0), .inl 0, [], none)),
  (165, (.aload_n 0, (166, 0, 0, 0, 0, 0), .inl 0, [], none)),
  (166, (.iload_n 3, (167, 0, 0, 0, 0, 0), .inl 0, [], none)),
  (167, (.iconst 1, (168, 0, 0, 0, 0, 0), .inl 0, [], none)),
  (168, (.iadd, (169, 0, 0, 0, 0, 0), .inl 0, [], none)),
  (169, (.iaload, (170, 0, 0, 0, 0, 0), .inl 0, [], none)),
  (170, (.aload_n 0, (171, 0, 0, 0, 0, 0), .inl 0, [], none)),
  (171, (.iload_n 3, (172, 0, 0, 0, 0, 0), .inl 0, [], none)),
  (172, (.iconst 2, (173, 0, 0, 0, 0, 0), .inl 0, [], none)),
  (173, (.iadd, (174, 0, 0, 0, 0, 0), .inl 0, [], none)),
  (174, (.iaload, (175, 0, 0, 0, 0, 0), .inl 0, [], none)),
  (175, (.aload_n 0, (176, 0, 0, 0, 0, 0), .inl 0, [], none)),
  (176, (.iload_n 3, (177, 0, 0, 0, 0, 0), .inl 0, [], none)),
  (177, (.iconst 3, (178, 0, 0, 0, 0, 0), .inl 0, [], none)),
  (178, (.iadd, (179, 0, 0, 0, 0, 0), .inl 0, [], none)),
  (179, (.iaload, (180, 0, 0, 0, 0, 0), .inl 0, [], none)),
  (180, (.aload_n 0, (181, 0, 0, 0, 0, 0), .inl 0, [], none)),
  (181, (.iload_n 3, (182, 0, 0, 0, 0, 0), .inl 0, [], none)),
  (182, (.iconst 4, (183, 0, 0, 0, 0, 0), .inl 0, [], none)),
  (183, (.iadd, (184, 0, 0, 0, 0, 0), .inl 0, [], none)),
  (184, (.iaload, (185, 0, 0, 0, 0, 0), .inl 0, [], none)),
  (185, (.aload_n 0, (186, 0, 0, 0, 0, 0), .inl 0, [], none)),
  (186, (.iload_n 3, (187, 0, 0, 0, 0, 0), .inl 0, [], none)),
  (187, (.iconst 5, (188, 0, 0, 0, 0, 0), .inl 0, [], none)),
  (188, (.iadd, (189, 0, 0, 0, 0, 0), .inl 0, [], none)),
  (189, (.iaload, (190, 0, 0, 0, 0, 0), .inl 0, [], none)),
  (190, (.invokevirtual 13, (193, 94, 6, 1, 6, 12), .inl 0, [], none)),
  (193, (.aload_n 2, (194, 0, 0, 0, 0, 0), .inl 0, [], none)),
  (194, (.aload_n 0, (195, 0, 0, 0, 0, 0), .inl 0, [], none)),
  (195, (.iload_n 3, (196, 0, 0, 0, 0, 0), .inl 0, [], none)),
  (196, (.iconst 1, (197, 0, 0, 0, 0, 0), .inl 0, [], none)),
  (197, (.iadd, (198, 0, 0, 0, 0, 0), .inl 0, [], none)),
  (198, (.iaload, (199, 0, 0, 0, 0, 0), .inl 0, [], none)),
  (199, (.aload_n 0, (200, 0, 0, 0, 0, 0), .inl 0, [], none)),
  (200, (.iload_n 3, (201, 0, 0, 0, 0, 0), .inl 0, [], none)),
  (201, (.iconst 2, (202, 0, 0, 0, 0, 0), .inl 0, [], none)),
  (202, (.iadd, (203, 0, 0, 0, 0, 0), .inl 0, [], none)),
  (203, (.iaload, (204, 0, 0, 0, 0, 0), .inl 0, [], none)),
  (204, (.aload_n 0, (205, 0, 0, 0, 0, 0), .inl 0, [], none)),
  (205, (.iload_n 3, (206, 0, 0, 0, 0, 0), .inl 0, [], none)),
  (206, (.iconst 3, (207, 0, 0, 0, 0, 0), .inl 0, [], none)),
  (207, (.iadd, (208, 0, 0, 0, 0, 0), .inl 0, [], none)),
  (208, (.iaload, (209, 0, 0, 0, 0, 0), .inl 0, [], none)),
  (209, (.aload_n 0, (210, 0, 0, 0, 0, 0), .inl 0, [], none)),
  (210, (.iload_n 3, (211, 0, 0, 0, 0, 0), .inl 0, [], none)),
  (211, (.iconst 4, (212, 0, 0, 0, 0, 0), .inl 0, [], none)),
  (212, (.iadd, (213, 0, 0, 0, 0, 0), .inl 0, [], none)),
  (213, (.iaload, (214, 0, 0, 0, 0, 0), .inl 0, [], none)),
  (214, (.aload_n 0, (215, 0, 0, 0, 0, 0), .inl 0, [], none)),
  (215, (.iload_n 3, (216, 0, 0, 0, 0, 0), .inl 0, [], none)),
  (216, (.iconst 5, (217, 0, 0, 0, 0, 0), .inl 0, [], none)),
  (217, (.iadd, (218, 0, 0, 0, 0, 0), .inl 0, [], none)),
  (218, (.iaload, (219, 0, 0, 0, 0, 0), .inl 0, [], none)),
  (219, (.invokevirtual 17, (222, 131, 6, 1, 6, 13), .inl 0, [], none)),
  (222, (.if_icmp .eq 659, (225, 881, 0, 0, 0, 0), .inl 0, [], none)),
  (225, (.iconst 0, (226, 0, 0, 0, 0, 0), .inl 0, [], none)),
  (226, (.ireturn, (227, 3, 0, 0, 0, 0), .inl 0, [], none)),
  (227, (.aload_n 1, (228, 0, 0, 0, 0, 0), .inl 0, [], none)),
  (228, (.aload_n 0, (229, 0, 0, 0, 0, 0), .inl 0, [], none)),
  (229, (.iload_n 3, (230, 0, 0, 0, 0, 0), .inl 0, [], none)),
  (230, (.iconst 1, (231, 0, 0, 0, 0, 0), .inl 0, [], none)),
  (231, (.iadd, (232, 0, 0, 0, 0, 0), .inl 0, [], none)),
  (232, (.iaload, (233, 0, 0, 0, 0, 0), .inl 0, [], none)),
  (233, (.invokevirtual 18, (236, 96, 2, 1, 2, 12), .inl 0, [], none)),
  (236, (.aload_n 2, (237, 0, 0, 0, 0, 0), .inl 0, [], none)),
  (237, (.aload_n 0, (238, 0, 0, 0, 0, 0), .inl 0, [], none)),
  (238, (.iload_n 3, (239, 0, 0, 0, 0, 0), .inl 0, [], none)),
  (239, (.iconst 1, (240, 0, 0, 0, 0, 0), .inl 0, [], none)),
  (240, (.iadd, (241, 0, 0, 0, 0, 0), .inl 0, [], none)),
  (241, (.iaload, (242, 0, 0, 0, 0, 0), .inl 0, [], none)),
  (242, (.invokevirtual 22, (245, 132, 2, 1, 2, 13), .inl 0, [], none)),
  (245, (.if_icmp .eq 636, (248, 881, 0, 0, 0, 0), .inl 0, [], none)),
  (248, (.iconst 0, (249, 0, 0, 0, 0, 0), .inl 0, [], none)),
  (249, (.ireturn, (250, 3, 0, 0, 0, 0), .inl 0, [], none)),
  (250, (.aload_n 1, (251, 0, 0, 0, 0, 0), .inl 0, [], none)),
  (251, (.invokevirtual 23, (254, 97, 1, 1, 3, 12), .inl 0, [], none)),
  (254, (.aload_n 2, (255, 0, 0, 0, 0, 0), .inl 0, [], none)),
  (255, (.invokevirtual 27, (258, 168, 1, 1, 2, 13), .inl 0, [], none)),
  (258, (.if_icmp .eq 623, (261, 881, 0, 0, 0, 0), .inl 0, [], none)),
  (261, (.iconst 0, (262, 0, 0, 0, 0, 0), .inl 0, [], none)),
  (262, (.ireturn, (263, 3, 0, 0, 0, 0), .inl 0, [], none)),
  (263, (.aload_n 1, (264, 0, 0, 0, 0, 0), .inl 0, [], none)),
  (264, (.invokevirtual 28, (267, 98, 1, 1, 3, 12), .inl 0, [], none)),
  (267, (.aload_n 2, (268, 0, 0, 0, 0, 0), .inl 0, [], none)),
  (268, (.invokevirtual 31, (271, 167, 1, 1, 1, 13), .inl 0, [], none)),
  (271, (.if_icmp .eq 610, (274, 881, 0, 0, 0, 0), .inl 0, [], none)),
  (274, (.iconst 0, (275, 0, 0, 0, 0, 0), .inl 0, [], none)),
  (275, (.ireturn, (276, 3, 0, 0, 0, 0), .inl 0, [], none)),
  (276, (.aload_n 1, (277, 0, 0, 0, 0, 0), .inl 0, [], none)),
  (277, (.aload_n 0, (278, 0, 0, 0, 0, 0), .inl 0, [], none)),
  (278, (.iload_n 3, (279, 0, 0, 0, 0, 0), .inl 0, [], none)),
  (279, (.iconst 1, (280, 0, 0, 0, 0, 0), .inl 0, [], none)),
  (280, (.iadd, (281, 0, 0, 0, 0, 0), .inl 0, [], none)),
  (281, (.iaload, (282, 0, 0, 0, 0, 0), .inl 0, [], none)),
  (282, (.aload_n 0, (283, 0, 0, 0, 0, 0), .inl 0, [], none)),
  (283, (.iload_n 3, (284, 0, 0, 0, 0, 0), .inl 0, [], none)),
  (284, (.iconst 2, (285, 0, 0, 0, 0, 0), .inl 0, [], none)),
  (285, (.iadd, (286, 0, 0, 0, 0, 0), .inl 0, [], none)),
  (286, (.iaload, (287, 0, 0, 0, 0, 0), .inl 0, [], none)),
  (287, (.invokevirtual 32, (290, 99, 3, 1, 4, 12), .inl 0, [], none)),
  (290, (.aload_n 2, (291, 0, 0, 0, 0, 0), .inl 0, [], none)),
  (291, (.aload_n 0, (292, 0, 0, 0, 0, 0), .inl 0, [], none)),
  (292, (.iload_n 3, (293, 0, 0, 0, 0, 0), .inl 0, [], none)),
  (293, (.iconst 1, (294, 0, 0, 0, 0, 0), .inl 0, [], none)),
  (294, (.iadd, (295, 0, 0, 0, 0, 0), .inl 0, [], none)),
  (295, (.iaload, (296, 0, 0, 0, 0, 0), .inl 0, [], none)),
  (296, (.aload_n 0, (297, 0, 0, 0, 0, 0), .inl 0, [], none)),
  (297, (.iload_n 3, (298, 0, 0, 0, 0, 0), .inl 0, [], none)),
  (298, (.iconst 2, (299, 0, 0, 0, 0, 0), .inl 0, [], none)),
  (299, (.iadd, (300, 0, 0, 0, 0, 0), .inl 0, [], none)),
  (300, (.iaload, (301, 0, 0, 0, 0, 0), .inl 0, [], none)),
  (301, (.invokevirtual 36, (304, 187, 3, 1, 3, 13), .inl 0, [], none)),
  (304, (.if_icmp .eq 577, (307, 881, 0, 0, 0, 0), .inl 0, [], none)),
  (307, (.iconst 0, (308, 0, 0, 0, 0, 0), .inl 0, [], none)),
  (308, (.ireturn, (309, 3, 0, 0, 0, 0), .inl 0, [], none)),
  (309, (.aload_n 1, (310, 0, 0, 0, 0, 0), .inl 0, [], none)),
  (310, (.aload_n 0, (311, 0, 0, 0, 0, 0), .inl 0, [], none)),
  (311, (.iload_n 3, (312, 0, 0, 0, 0, 0), .inl 0, [], none)),
  (312, (.iconst 1, (313, 0, 0, 0, 0, 0), .inl 0, [], none)),
  (313, (.iadd, (314, 0, 0, 0, 0, 0), .inl 0, [], none)),
  (314, (.iaload, (315, 0, 0, 0, 0, 0), .inl 0, [], none)),
  (315, (.aload_n 0, (316, 0, 0, 0, 0, 0), .inl 0, [], none)),
  (316, (.iload_n 3, (317, 0, 0, 0, 0, 0), .inl 0, [], none)),
  (317, (.iconst 2, (318, 0, 0, 0, 0, 0), .inl 0, [], none)),
  (318, (.iadd, (319, 0, 0, 0, 0, 0), .inl 0, [], none)),
  (319, (.iaload, (320, 0, 0, 0, 0, 0), .inl 0, [], none)),
  (320, (.invokevirtual 37, (323, 100, 3, 1, 4, 12), .inl 0, [], none)),
  (323, (.aload_n 2, (324, 0, 0, 0, 0, 0), .inl 0, [], none)),
  (324, (.aload_n 0, (325, 0, 0, 0, 0, 0), .inl 0, [], none)),
  (325, (.iload_n 3, (326, 0, 0, 0, 0, 0), .inl 0, [], none)),
  (326, (.iconst 1, (327, 0, 0, 0, 0, 0), .inl 0, [], none)),
  (327, (.iadd, (328, 0, 0, 0, 0, 0), .inl 0, [], none)),
  (328, (.iaload, (329, 0, 0, 0, 0, 0), .inl 0, [], none)),
  (329, (.aload_n 0, (330, 0, 0, 0, 0, 0), .inl 0, [], none)),
  (330, (.iload_n 3, (331, 0, 0, 0, 0, 0), .inl 0, [], none)),
  (331, (.iconst 2, (332, 0, 0, 0, 0, 0), .inl 0, [], none)),
  (332, (.iadd, (333, 0, 0, 0, 0, 0), .inl 0, [], none)),
  (333, (.iaload, (334, 0, 0, 0, 0, 0), .inl 0, [], none)),
  (334, (.invokevirtual 40, (337, 188, 3, 1, 3, 13), .inl 0, [], none)),
  (337, (.if_icmp .eq 544, (340, 881, 0, 0, 0, 0), .inl 0, [], none)),
  (340, (.iconst 0, (341, 0, 0, 0, 0, 0), .inl 0, [], none)),
  (341, (.ireturn, (342, 3, 0, 0, 0, 0), .inl 0, [], none)),
  (342, (.aload_n 1, (343, 0, 0, 0, 0, 0), .inl 0, [], none)),
  (343, (.aload_n 0, (344, 0, 0, 0, 0, 0), .inl 0, [], none)),
  (344, (.iload_n 3, (345, 0, 0, 0, 0, 0), .inl 0, [], none)),
  (345, (.iconst 1, (346, 0, 0, 0, 0, 0), .inl 0, [], none)),
  (346, (.iadd, (347, 0, 0, 0, 0, 0), .inl 0, [], none)),
  (347, (.iaload, (348, 0, 0, 0, 0, 0), .inl 0, [], none)),
  (348, (.aload_n 0, (349, 0, 0, 0, 0, 0), .inl 0, [], none)),
  (349, (.iload_n 3, (350, 0, 0, 0, 0, 0), .inl 0, [], none)),
  (350, (.iconst 2, (351, 0, 0, 0, 0, 0), .inl 0, [], none)),
  (351, (.iadd, (352, 0, 0, 0, 0, 0), .inl 0, [], none)),
  (352, (.iaload, (353, 0, 0, 0, 0, 0), .inl 0, [], none)),
  (353, (.invokevirtual 41, (356, 101, 3, 1, 4, 12), .inl 0, [], none)),
  (356, (.aload_n 2, (357, 0, 0, 0, 0, 0), .inl 0, [], none)),
  (357, (.aload_n 0, (358, 0, 0, 0, 0, 0), .inl 0, [], none)),
  (358, (.iload_n 3, (359, 0, 0, 0, 0, 0), .inl 0, [], none)),
  (359, (.iconst 1, (360, 0, 0, 0, 0, 0), .inl 0, [], none)),
  (360, (.iadd, (361, 0, 0, 0, 0, 0), .inl 0, [], none)),
  (361, (.iaload, (362, 0, 0, 0, 0, 0), .inl 0, [], none)),
  (362, (.aload_n 0, (363, 0, 0, 0, 0, 0), .inl 0, [], none)),
  (363, (.iload_n 3, (364, 0, 0, 0, 0, 0), .inl 0, [], none)),
  (364, (.iconst 2, (365, 0, 0, 0, 0, 0), .inl 0, [], none)),
  (365, (.iadd, (366, 0, 0, 0, 0, 0), .inl 0, [], none)),
  (366, (.iaload, (367, 0, 0, 0, 0, 0), .inl 0, [], none)),
  (367, (.invokevirtual 44, (370, 192, 3, 1, 3, 13), .inl 0, [], none)),
  (370, (.if_icmp .eq 511, (373, 881, 0, 0, 0, 0), .inl 0, [], none)),
  (373, (.iconst 0, (374, 0, 0, 0, 0, 0), .inl 0, [], none)),
  (374, (.ireturn, (375, 3, 0, 0, 0, 0), .inl 0, [], none)),
  (375, (.aload_n 1, (376, 0, 0, 0, 0, 0), .inl 0, [], none)),
  (376, (.aload_n 0, (377, 0, 0, 0, 0, 0), .inl 0, [], none)),
  (377, (.iload_n 3, (378, 0, 0, 0, 0, 0), .inl 0, [], none)),
  (378, (.iconst 1, (379, 0, 0, 0, 0, 0), .inl 0, [], none)),
  (379, (.iadd, (380, 0, 0, 0, 0, 0), .inl 0, [], none)),
  (380, (.iaload, (381, 0, 0, 0, 0, 0), .inl 0, [], none)),
  (381, (.invokevirtual 45, (384, 102, 2, 1, 2, 12), .inl 0, [], none)),
  (384, (.aload_n 2, (385, 0, 0, 0, 0, 0), .inl 0, [], none)),
  (385, (.aload_n 0, (386, 0, 0, 0, 0, 0), .inl 0, [], none)),
  (386, (.iload_n 3, (387, 0, 0, 0, 0, 0), .inl 0, [], none)),
  (387, (.iconst 1, (388, 0, 0, 0, 0, 0), .inl 0, [], none)),
  (388, (.iadd, (389, 0, 0, 0, 0, 0), .inl 0, [], none)),
  (389, (.iaload, (390, 0, 0, 0, 0, 0), .inl 0, [], none)),
  (390, (.invokevirtual 48, (393, 193, 2, 1, 2, 13), .inl 0, [], none)),
  (393, (.if_icmp .eq 488, (396, 881, 0, 0, 0, 0), .inl 0, [], none)),
  (396, (.iconst 0, (397, 0, 0, 0, 0, 0), .inl 0, [], none)),
  (397, (.ireturn, (398, 3, 0, 0, 0, 0), .inl 0, [], none)),
  (398, (.aload_n 1, (399, 0, 0, 0, 0, 0), .inl 0, [], none)),
  (399, (.invokevirtual 49, (402, 103, 1, 1, 1, 12), .inl 0, [], none)),
  (402, (.aload_n 2, (403, 0, 0, 0, 0, 0), .inl 0, [], none)),
  (403, (.invokevirtual 52, (406, 194, 1, 1, 1, 13), .inl 0, [], none)),
  (406, (.if_icmp .eq 475, (409, 881, 0, 0, 0, 0), .inl 0, [], none)),
  (409, (.iconst 0, (410, 0, 0, 0, 0, 0), .inl 0, [], none)),
  (410, (.ireturn, (411, 3, 0, 0, 0, 0), .inl 0, [], none)),
  (411, (.aload_n 1, (412, 0, 0, 0, 0, 0), .inl 0, [], none)),
  (412, (.invokevirtual 53, (415, 104, 1, 1, 1, 12), .inl 0, [], none)),
  (415, (.aload_n 2, (416, 0, 0, 0, 0, 0), .inl 0, [], none)),
  (416, (.invokevirtual 56, (419, 190, 1, 1, 2, 13), .inl 0, [], none)),
  (419, (.if_icmp .eq 462, (422, 881, 0, 0, 0, 0), .inl 0, [], none)),
  (422, (.iconst 0, (423, 0, 0, 0, 0, 0), .inl 0, [], none)),
  (423, (.ireturn, (424, 3, 0, 0, 0, 0), .inl 0, [], none)),
  (424, (.aload_n 1, (425, 0, 0, 0, 0, 0), .inl 0, [], none)),
  (425, (.invokevirtual 57, (428, 105, 1, 1, 1, 12), .inl 0, [], none)),
  (428, (.aload_n 2, (429, 0, 0, 0, 0, 0), .inl 0, [], none)),
  (429, (.invokevirtual 60, (432, 195, 1, 1, 1, 13), .inl 0, [], none)),
  (432, (.if_icmp .eq 449, (435, 881, 0, 0, 0, 0), .inl 0, [], none)),
  (435, (.iconst 0, (436, 0, 0, 0, 0, 0), .inl 0, [], none)),
  (436, (.ireturn, (437, 3, 0, 0, 0, 0), .inl 0, [], none)),
  (437, (.aload_n 1, (438, 0, 0, 0, 0, 0), .inl 0, [], none)),
  (438, (.aload_n 0, (439, 0, 0, 0, 0, 0), .inl 0, [], none)),
  (439, (.iload_n 3, (440, 0, 0, 0, 0, 0), .inl 0, [], none)),
  (440, (.iconst 1, (441, 0, 0, 0, 0, 0), .inl 0, [], none)),
  (441, (.iadd, (442, 0, 0, 0, 0, 0), .inl 0, [], none)),
  (442, (.iaload, (443, 0, 0, 0, 0, 0), .inl 0, [], none)),
  (443, (.invokevirtual 61, (446, 106, 2, 1, 8, 12), .inl 0, [], none)),
  (446, (.aload_n 2, (447, 0, 0, 0, 0, 0), .inl 0, [], none)),
  (447, (.aload_n 0, (448, 0, 0, 0, 0, 0), .inl 0, [], none)),
  (448, (.iload_n 3, (449, 0, 0, 0, 0, 0), .inl 0, [], none)),
  (449, (.iconst 1, (450, 0, 0, 0, 0, 0), .inl 0, [], none)),
  (450, (.iadd, (451, 0, 0, 0, 0, 0), .inl 0, [], none)),
  (451, (.iaload, (452, 0, 0, 0, 0, 0), .inl 0, [], none)),
  (452, (.invokevirtual 64, (455, 196, 2, 1, 7, 13), .inl 0, [], none)),
  (455, (.if_icmp .eq 426, (458, 881, 0, 0, 0, 0), .inl 0, [], none)),
  (458, (.iconst 0, (459, 0, 0, 0, 0, 0), .inl 0, [], none)),
  (459, (.ireturn, (460, 3, 0, 0, 0, 0), .inl 0, [], none)),
  (460, (.aload_n 1, (461, 0, 0, 0, 0, 0), .inl 0, [], none)),
  (461, (.aload_n 0, (462, 0, 0, 0, 0, 0), .inl 0, [], none)),
  (462, (.iload_n 3, (463, 0, 0, 0, 0, 0), .inl 0, [], none)),
  (463, (.iconst 1, (464, 0, 0, 0, 0, 0), .inl 0, [], none)),
  (464, (.iadd, (465, 0, 0, 0, 0, 0), .inl 0, [], none)),
  (465, (.iaload, (466, 0, 0, 0, 0, 0), .inl 0, [], none)),
  (466, (.invokevirtual 65, (469, 107, 2, 1, 2, 12), .inl 0, [], none)),
  (469, (.aload_n 2, (470, 0, 0, 0, 0, 0), .inl 0, [], none)),
  (470, (.aload_n 0, (471, 0, 0, 0, 0, 0), .inl 0, [], none)),
  (471, (.iload_n 3, (472, 0, 0, 0, 0, 0), .inl 0, [], none)),
  (472, (.iconst 1, (473, 0, 0, 0, 0, 0), .inl 0, [], none)),
  (473, (.iadd, (474, 0, 0, 0, 0, 0), .inl 0, [], none)),
  (474, (.iaload, (475, 0, 0, 0, 0, 0), .inl 0, [], none)),
  (475, (.invokevirtual 68, (478, 199, 2, 1, 8, 13), .inl 0, [], none)),
  (478, (.if_icmp .eq 403, (481, 881, 0, 0, 0, 0), .inl 0, [], none)),
  (481, (.iconst 0, (482, 0, 0, 0, 0, 0), .inl 0, [], none)),
  (482, (.ireturn, (483, 3, 0, 0, 0, 0), .inl 0, [], none)),
  (483, (.aload_n 1, (484, 0, 0, 0, 0, 0), .inl 0, [], none)),
  (484, (.aload_n 0, (485, 0, 0, 0, 0, 0), .inl 0, [], none)),
  (485, (.iload_n 3, (486, 0, 0, 0, 0, 0), .inl 0, [], none)),
  (486, (.iconst 1, (487, 0, 0, 0, 0, 0), .inl 0, [], none)),
  (487, (.iadd, (488, 0, 0, 0, 0, 0), .inl 0, [], none)),
  (488, (.iaload, (489, 0, 0, 0, 0, 0), .inl 0, [], none)),
  (489, (.invokevirtual 69, (492, 108, 2, 1, 2, 12), .inl 0, [], none)),
  (492, (.aload_n 2, (493, 0, 0, 0, 0, 0), .inl 0, [], none)),
  (493, (.aload_n 0, (494, 0, 0, 0, 0, 0), .inl 0, [], none)),
  (494, (.iload_n 3, (495, 0, 0, 0, 0, 0), .inl 0, [], none)),
  (495, (.iconst 1, (496, 0, 0, 0, 0, 0), .inl 0, [], none)),
  (496, (.iadd, (497, 0, 0, 0, 0, 0), .inl 0, [], none)),
  (497, (.iaload, (498, 0, 0, 0, 0, 0), .inl 0, [], none)),
  (498, (.invokevirtual 72, (501, 201, 2, 1, 2, 13), .inl 0, [], none)),
  (501, (.if_icmp .eq 380, (504, 881, 0, 0, 0, 0), .inl 0, [], none)),
  (504, (.iconst 0, (505, 0, 0, 0, 0, 0), .inl 0, [], none)),
  (505, (.ireturn, (506, 3, 0, 0, 0, 0), .inl 0, [], none)),
  (506, (.aload_n 1, (507, 0, 0, 0, 0, 0), .inl 0, [], none)),
  (507, (.aload_n 0, (508, 0, 0, 0, 0, 0), .inl 0, [], none)),
  (508, (.iload_n 3, (509, 0, 0, 0, 0, 0), .inl 0, [], none)),
  (509, (.iconst 1, (510, 0, 0, 0, 0, 0), .inl 0, [], none)),
  (510, (.iadd, (511, 0, 0, 0, 0, 0), .inl 0, [], none)),
  (511, (.iaload, (512, 0, 0, 0, 0, 0), .inl 0, [], none)),
  (512, (.invokevirtual 73, (515, 109, 2, 1, 4, 12), .inl 0, [], none)),
  (515, (.aload_n 2, (516, 0, 0, 0, 0, 0), .inl 0, [], none)),
  (516, (.aload_n 0, (517, 0, 0, 0, 0, 0), .inl 0, [], none)),
  (517, (.iload_n 3, (518, 0, 0, 0, 0, 0), .inl 0, [], none)),
  (518, (.iconst 1, (519, 0, 0, 0, 0, 0), .inl 0, [], none)),
  (519, (.iadd, (520, 0, 0, 0, 0, 0), .inl 0, [], none)),
  (520, (.iaload, (521, 0, 0, 0, 0, 0), .inl 0, [], none)),
  (521, (.invokevirtual 76, (524, 203, 2, 1, 4, 13), .inl 0, [], none)),
  (524, (.if_icmp .eq 357, (527, 881, 0, 0, 0, 0), .inl 0, [], none)),
  (527, (.iconst 0, (528, 0, 0, 0, 0, 0), .inl 0, [], none)),
  (528, (.ireturn, (529, 3, 0, 0, 0, 0), .inl 0, [], none)),
  (529, (.aload_n 1, (530, 0, 0, 0, 0, 0), .inl 0, [], none)),
  (530, (.invokevirtual 77, (533, 110, 1, 1, 1, 12), .inl 0, [], none)),
  (533, (.aload_n 2, (534, 0, 0, 0, 0, 0), .inl 0, [], none)),
  (534, (.invokevirtual 80, (537, 205, 1, 1, 2, 13), .inl 0, [], none)),
  (537, (.if_icmp .eq 344, (540, 881, 0, 0, 0, 0), .inl 0, [], none)),
  (540, (.iconst 0, (541, 0, 0, 0, 0, 0), .inl 0, [], none)),
  (541, (.ireturn, (542, 3, 0, 0, 0, 0), .inl 0, [], none)),
  (542, (.aload_n 1, (543, 0, 0, 0, 0, 0), .inl 0, [], none)),
  (543, (.invokevirtual 81, (546, 111, 1, 1, 1, 12), .inl 0, [], none)),
  (546, (.aload_n 2, (547, 0, 0, 0, 0, 0), .inl 0, [], none)),
  (547, (.invokevirtual 84, (550, 207, 1, 1, 2, 13), .inl 0, [], none)),
  (550, (.if_icmp .eq 331, (553, 881, 0, 0, 0, 0), .inl 0, [], none)),
  (553, (.iconst 0, (554, 0, 0, 0, 0, 0), .inl 0, [], none)),
  (554, (.ireturn, (555, 3, 0, 0, 0, 0), .inl 0, [], none)),
  (555, (.aload_n 1, (556, 0, 0, 0, 0, 0), .inl 0, [], none)),
  (556, (.aload_n 0, (557, 0, 0, 0, 0, 0), .inl 0, [], none)),
  (557, (.iload_n 3, (558, 0, 0, 0, 0, 0), .inl 0, [], none)),
  (558, (.iconst 1, (559, 0, 0, 0, 0, 0), .inl 0, [], none)),
  (559, (.iadd, (560, 0, 0, 0, 0, 0), .inl 0, [], none)),
  (560, (.iaload, (561, 0, 0, 0, 0, 0), .inl 0, [], none)),
  (561, (.invokevirtual 85, (564, 112, 2, 1, 3, 12), .inl 0, [], none)),
  (564, (.aload_n 2, (565, 0, 0, 0, 0, 0), .inl 0, [], none)),
  (565, (.aload_n 0, (566, 0, 0, 0, 0, 0), .inl 0, [], none)),
  (566, (.iload_n 3, (567, 0, 0, 0, 0, 0), .inl 0, [], none)),
  (567, (.iconst 1, (568, 0, 0, 0, 0, 0), .inl 0, [], none)),
  (568, (.iadd, (569, 0, 0, 0, 0, 0), .inl 0, [], none)),
  (569, (.iaload, (570, 0, 0, 0, 0, 0), .inl 0, [], none)),
  (570, (.invokevirtual 88, (573, 208, 2, 1, 5, 13), .inl 0, [], none)),
  (573, (.if_icmp .eq 308, (576, 881, 0, 0, 0, 0), .inl 0, [], none)),
  (576, (.iconst 0, (577, 0, 0, 0, 0, 0), .inl 0, [], none)),
  (577, (.ireturn, (578, 3, 0, 0, 0, 0), .inl 0, [], none)),
  (578, (.aload_n 1, (579, 0, 0, 0, 0, 0), .inl 0, [], none)),
  (579, (.invokevirtual 89, (582, 114, 1, 1, 1, 12), .inl 0, [], none)),
  (582, (.aload_n 2, (583, 0, 0, 0, 0, 0), .inl 0, [], none)),
  (583, (.invokevirtual 92, (586, 211, 1, 1, 2, 13), .inl 0, [], none)),
  (586, (.if_icmp .eq 295, (589, 881, 0, 0, 0, 0), .inl 0, [], none)),
  (589, (.iconst 0, (590, 0, 0, 0, 0, 0), .inl 0, [], none)),
  (590, (.ireturn, (591, 3, 0, 0, 0, 0), .inl 0, [], none)),
  (591, (.aload_n 1, (592, 0, 0, 0, 0, 0), .inl 0, [], none)),
  (592, (.invokevirtual 93, (595, 115, 1, 1, 1, 12), .inl 0, [], none)),
  (595, (.aload_n 2, (596, 0, 0, 0, 0, 0), .inl 0, [], none)),
  (596, (.invokevirtual 96, (599, 214, 1, 1, 2, 13), .inl 0, [], none)),
  (599, (.if_icmp .eq 282, (602, 881, 0, 0, 0, 0), .inl 0, [], none)),
  (602, (.iconst 0, (603, 0, 0, 0, 0, 0), .inl 0, [], none)),
  (603, (.ireturn, (604, 3, 0, 0, 0, 0), .inl 0, [], none)),
  (604, (.aload_n 1, (605, 0, 0, 0, 0, 0), .inl 0, [], none)),
  (605, (.aload_n 0, (606, 0, 0, 0, 0, 0), .inl 0, [], none)),
  (606, (.iload_n 3, (607, 0, 0, 0, 0, 0), .inl 0, [], none)),
  (607, (.iconst 1, (608, 0, 0, 0, 0, 0), .inl 0, [], none)),
  (608, (.iadd, (609, 0, 0, 0, 0, 0), .inl 0, [], none)),
  (609, (.iaload, (610, 0, 0, 0, 0, 0), .inl 0, [], none)),
  (610, (.aload_n 0, (611, 0, 0, 0, 0, 0), .inl 0, [], none)),
  (611, (.iload_n 3, (612, 0, 0, 0, 0, 0), .inl 0, [], none)),
  (612, (.iconst 2, (613, 0, 0, 0, 0, 0), .inl 0, [], none)),
  (613, (.iadd, (614, 0, 0, 0, 0, 0), .inl 0, [], none)),
  (614, (.iaload, (615, 0, 0, 0, 0, 0), .inl 0, [], none)),
  (615, (.aload_n 0, (616, 0, 0, 0, 0, 0), .inl 0, [], none)),
  (616, (.iload_n 3, (617, 0, 0, 0, 0, 0), .inl 0, [], none)),
  (617, (.iconst 3, (618, 0, 0, 0, 0, 0), .inl 0, [], none)),
  (618, (.iadd, (619, 0, 0, 0, 0, 0), .inl 0, [], none)),
  (619, (.iaload, (620, 0, 0, 0, 0, 0), .inl 0, [], none)),
  (620, (.invokevirtual 97, (623, 116, 4, 1, 4, 12), .inl 0, [], none)),
  (623, (.aload_n 2, (624, 0, 0, 0, 0, 0), .inl 0, [], none)),
  (624, (.aload_n 0, (625, 0, 0, 0, 0, 0), .inl 0, [], none)),
  (625, (.iload_n 3, (626, 0, 0, 0, 0, 0), .inl 0, [], none)),
  (626, (.iconst 1, (627, 0, 0, 0, 0, 0), .inl 0, [], none)),
  (627, (.iadd, (628, 0, 0, 0, 0, 0), .inl 0, [], none)),
  (628, (.iaload, (629, 0, 0, 0, 0, 0), .inl 0, [], none)),
  (629, (.aload_n 0, (630, 0, 0, 0, 0, 0), .inl 0, [], none)),
  (630, (.iload_n 3, (631, 0, 0, 0, 0, 0), .inl 0, [], none)),
  (631, (.iconst 2, (632, 0, 0, 0, 0, 0), .inl 0, [], none)),
  (632, (.iadd, (633, 0, 0, 0, 0, 0), .inl 0, [], none)),
  (633, (.iaload, (634, 0, 0, 0, 0, 0), .inl 0, [], none)),
  (634, (.aload_n 0, (635, 0, 0, 0, 0, 0), .inl 0, [], none)),
  (635, (.iload_n 3, (636, 0, 0, 0, 0, 0), .inl 0, [], none)),
  (636, (.iconst 3, (637, 0, 0, 0, 0, 0), .inl 0, [], none)),
  (637, (.iadd, (638, 0, 0, 0, 0, 0), .inl 0, [], none)),
  (638, (.iaload, (639, 0, 0, 0, 0, 0), .inl 0, [], none)),
  (639, (.invokevirtual 101, (642, 222, 4, 1, 8, 13), .inl 0, [], none)),
  (642, (.if_icmp .eq 239, (645, 881, 0, 0, 0, 0), .inl 0, [], none)),
  (645, (.iconst 0, (646, 0, 0, 0, 0, 0), .inl 0, [], none)),
  (646, (.ireturn, (647, 3, 0, 0, 0, 0), .inl 0, [], none)),
  (647, (.aload_n 1, (648, 0, 0, 0, 0, 0), .inl 0, [], none)),
  (648, (.aload_n 0, (649, 0, 0, 0, 0, 0), .inl 0, [], none)),
  (649, (.iload_n 3, (650, 0, 0, 0, 0, 0), .inl 0, [], none)),
  (650, (.iconst 1, (651, 0, 0, 0, 0, 0), .inl 0, [], none)),
  (651, (.iadd, (652, 0, 0, 0, 0, 0), .inl 0, [], none)),
  (652, (.iaload, (653, 0, 0, 0, 0, 0), .inl 0, [], none)),
  (653, (.aload_n 0, (654, 0, 0, 0, 0, 0), .inl 0, [], none)),
  (654, (.iload_n 3, (655, 0, 0, 0, 0, 0), .inl 0, [], none)),
  (655, (.iconst 2, (656, 0, 0, 0, 0, 0), .inl 0, [], none)),
  (656, (.iadd, (657, 0, 0, 0, 0, 0), .inl 0, [], none)),
  (657, (.iaload, (658, 0, 0, 0, 0, 0), .inl 0, [], none)),
  (658, (.invokevirtual 102, (661, 118, 3, 1, 10, 12), .inl 0, [], none)),
  (661, (.aload_n 2, (662, 0, 0, 0, 0, 0), .inl 0, [], none)),
  (662, (.aload_n 0, (663, 0, 0, 0, 0, 0), .inl 0, [], none)),
  (663, (.iload_n 3, (664, 0, 0, 0, 0, 0), .inl 0, [], none)),
  (664, (.iconst 1, (665, 0, 0, 0, 0, 0), .inl 0, [], none)),
  (665, (.iadd, (666, 0, 0, 0, 0, 0), .inl 0, [], none)),
  (666, (.iaload, (667, 0, 0, 0, 0, 0), .inl 0, [], none)),
  (667, (.aload_n 0, (668, 0, 0, 0, 0, 0), .inl 0, [], none)),
  (668, (.iload_n 3, (669, 0, 0, 0, 0, 0), .inl 0, [], none)),
  (669, (.iconst 2, (670, 0, 0, 0, 0, 0), .inl 0, [], none)),
  (670, (.iadd, (671, 0, 0, 0, 0, 0), .inl 0, [], none)),
  (671, (.iaload, (672, 0, 0, 0, 0, 0), .inl 0, [], none)),
  (672, (.invokevirtual 105, (675, 225, 3, 1, 8, 13), .inl 0, [], none)),
  (675, (.if_icmp .eq 206, (678, 881, 0, 0, 0, 0), .inl 0, [], none)),
  (678, (.iconst 0, (679, 0, 0, 0, 0, 0), .inl 0, [], none)),
  (679, (.ireturn, (680, 3, 0, 0, 0, 0), .inl 0, [], none)),
  (680, (.aload_n 1, (681, 0, 0, 0, 0, 0), .inl 0, [], none)),
  (681, (.aload_n 0, (682, 0, 0, 0, 0, 0), .inl 0, [], none)),
  (682, (.iload_n 3, (683, 0, 0, 0, 0, 0), .inl 0, [], none)),
  (683, (.iconst 1, (684, 0, 0, 0, 0, 0), .inl 0, [], none)),
  (684, (.iadd, (685, 0, 0, 0, 0, 0), .inl 0, [], none)),
  (685, (.iaload, (686, 0, 0, 0, 0, 0), .inl 0, [], none)),
  (686, (.aload_n 0, (687, 0, 0, 0, 0, 0), .inl 0, [], none)),
  (687, (.iload_n 3, (688, 0, 0, 0, 0, 0), .inl 0, [], none)),
  (688, (.iconst 2, (689, 0, 0, 0, 0, 0), .inl 0, [], none)),
  (689, (.iadd, (690, 0, 0, 0, 0, 0), .inl 0, [], none)),
  (690, (.iaload, (691, 0, 0, 0, 0, 0), .inl 0, [], none)),
  (691, (.invokevirtual 106, (694, 119, 3, 1, 7, 12), .inl 0, [], none)),
  (694, (.aload_n 2, (695, 0, 0, 0, 0, 0), .inl 0, [], none)),
  (695, (.aload_n 0, (696, 0, 0, 0, 0, 0), .inl 0, [], none)),
  (696, (.iload_n 3, (697, 0, 0, 0, 0, 0), .inl 0, [], none)),
  (697, (.iconst 1, (698, 0, 0, 0, 0, 0), .inl 0, [], none)),
  (698, (.iadd, (699, 0, 0, 0, 0, 0), .inl 0, [], none)),
  (699, (.iaload, (700, 0, 0, 0, 0, 0), .inl 0, [], none)),
  (700, (.aload_n 0, (701, 0, 0, 0, 0, 0), .inl 0, [], none)),
  (701, (.iload_n 3, (702, 0, 0, 0, 0, 0), .inl 0, [], none)),
  (702, (.iconst 2, (703, 0, 0, 0, 0, 0), .inl 0, [], none)),
  (703, (.iadd, (704, 0, 0, 0, 0, 0), .inl 0, [], none)),
  (704, (.iaload, (705, 0, 0, 0, 0, 0), .inl 0, [], none)),
  (705, (.invokevirtual 109, (708, 227, 3, 1, 6, 13), .inl 0, [], none)),
  (708, (.if_icmp .eq 173, (711, 881, 0, 0, 0, 0), .inl 0, [], none)),
  (711, (.iconst 0, (712, 0, 0, 0, 0, 0), .inl 0, [], none)),
  (712, (.ireturn, (713, 3, 0, 0, 0, 0), .inl 0, [], none)),
  (713, (.aload_n 1, (714, 0, 0, 0, 0, 0), .inl 0, [], none)),
  (714, (.aload_n 0, (715, 0, 0, 0, 0, 0), .inl 0, [], none)),
  (715, (.iload_n 3, (716, 0, 0, 0, 0, 0), .inl 0, [], none)),
  (716, (.iconst 1, (717, 0, 0, 0, 0, 0), .inl 0, [], none)),
  (717, (.iadd, (718, 0, 0, 0, 0, 0), .inl 0, [], none)),
  (718, (.iaload, (719, 0, 0, 0, 0, 0), .inl 0, [], none)),
  (719, (.invokevirtual 110, (722, 120, 2, 1, 3, 12), .inl 0, [], none)),
  (722, (.aload_n 2, (723, 0, 0, 0, 0, 0), .inl 0, [], none)),
  (723, (.aload_n 0, (724, 0, 0, 0, 0, 0), .inl 0, [], none)),
  (724, (.iload_n 3, (725, 0, 0, 0, 0, 0), .inl 0, [], none)),
  (725, (.iconst 1, (726, 0, 0, 0, 0, 0), .inl 0, [], none)),
  (726, (.iadd, (727, 0, 0, 0, 0, 0), .inl 0, [], none)),
  (727, (.iaload, (728, 0, 0, 0, 0, 0), .inl 0, [], none)),
  (728, (.invokevirtual 113, (731, 228, 2, 1, 3, 13), .inl 0, [], none)),
  (731, (.if_icmp .eq 150, (734, 881, 0, 0, 0, 0), .inl 0, [], none)),
  (734, (.iconst 0, (735, 0, 0, 0, 0, 0), .inl 0, [], none)),
  (735, (.ireturn, (736, 3, 0, 0, 0, 0), .inl 0, [], none)),
  (736, (.aload_n 1, (737, 0, 0, 0, 0, 0), .inl 0, [], none)),
  (737, (.aload_n 0, (738, 0, 0, 0, 0, 0), .inl 0, [], none)),
  (738, (.iload_n 3, (739, 0, 0, 0, 0, 0), .inl 0, [], none)),
  (739, (.iconst 1, (740, 0, 0, 0, 0, 0), .inl 0, [], none)),
  (740, (.iadd, (741, 0, 0, 0, 0, 0), .inl 0, [], none)),
  (741, (.iaload, (742, 0, 0, 0, 0, 0), .inl 0, [], none)),
  (742, (.aload_n 0, (743, 0, 0, 0, 0, 0), .inl 0, [], none)),
  (743, (.iload_n 3, (744, 0, 0, 0, 0, 0), .inl 0, [], none)),
  (744, (.iconst 2, (745, 0, 0, 0, 0, 0), .inl 0, [], none)),
  (745, (.iadd, (746, 0, 0, 0, 0, 0), .inl 0, [], none)),
  (746, (.iaload, (747, 0, 0, 0, 0, 0), .inl 0, [], none)),
  (747, (.invokevirtual 114, (750, 121, 3, 1, 3, 12), .inl 0, [], none)),
  (750, (.aload_n 2, (751, 0, 0, 0, 0, 0), .inl 0, [], none)),
  (751, (.aload_n 0, (752, 0, 0, 0, 0, 0), .inl 0, [], none)),
  (752, (.iload_n 3, (753, 0, 0, 0, 0, 0), .inl 0, [], none)),
  (753, (.iconst 1, (754, 0, 0, 0, 0, 0), .inl 0, [], none)),
  (754, (.iadd, (755, 0, 0, 0, 0, 0), .inl 0, [], none)),
  (755, (.iaload, (756, 0, 0, 0, 0, 0), .inl 0, [], none)),
  (756, (.aload_n 0, (757, 0, 0, 0, 0, 0), .inl 0, [], none)),
  (757, (.iload_n 3, (758, 0, 0, 0, 0, 0), .inl 0, [], none)),
  (758, (.iconst 2, (759, 0, 0, 0, 0, 0), .inl 0, [], none)),
  (759, (.iadd, (760, 0, 0, 0, 0, 0), .inl 0, [], none)),
  (760, (.iaload, (761, 0, 0, 0, 0, 0), .inl 0, [], none)),
  (761, (.invokevirtual 117, (764, 232, 3, 1, 3, 13), .inl 0, [], none)),
  (764, (.if_icmp .eq 117, (767, 881, 0, 0, 0, 0), .inl 0, [], none)),
  (767, (.iconst 0, (768, 0, 0, 0, 0, 0), .inl 0, [], none)),
  (768, (.ireturn, (769, 3, 0, 0, 0, 0), .inl 0, [], none)),
  (769, (.aload_n 1, (770, 0, 0, 0, 0, 0), .inl 0, [], none)),
  (770, (.aload_n 0, (771, 0, 0, 0, 0, 0), .inl 0, [], none)),
  (771, (.iload_n 3, (772, 0, 0, 0, 0, 0), .inl 0, [], none)),
  (772, (.iconst 1, (773, 0, 0, 0, 0, 0), .inl 0, [], none)),
  (773, (.iadd, (774, 0, 0, 0, 0, 0), .inl 0, [], none)),
  (774, (.iaload, (775, 0, 0, 0, 0, 0), .inl 0, [], none)),
  (775, (.aload_n 0, (776, 0, 0, 0, 0, 0), .inl 0, [], none)),
  (776, (.iload_n 3, (777, 0, 0, 0, 0, 0), .inl 0, [], none)),
  (777, (.iconst 2, (778, 0, 0, 0, 0, 0), .inl 0, [], none)),
  (778, (.iadd, (779, 0, 0, 0, 0, 0), .inl 0, [], none)),
  (779, (.iaload, (780, 0, 0, 0, 0, 0), .inl 0, [], none)),
  (780, (.aload_n 0, (781, 0, 0, 0, 0, 0), .inl 0, [], none)),
  (781, (.iload_n 3, (782, 0, 0, 0, 0, 0), .inl 0, [], none)),
  (782, (.iconst 3, (783, 0, 0, 0, 0, 0), .inl 0, [], none)),
  (783, (.iadd, (784, 0, 0, 0, 0, 0), .inl 0, [], none)),
  (784, (.iaload, (785, 0, 0, 0, 0, 0), .inl 0, [], none)),
  (785, (.invokevirtual 118, (788, 122, 4, 1, 4, 12), .inl 0, [], none)),
  (788, (.aload_n 2, (789, 0, 0, 0, 0, 0), .inl 0, [], none)),
  (789, (.aload_n 0, (790, 0, 0, 0, 0, 0), .inl 0, [], none)),
  (790, (.iload_n 3, (791, 0, 0, 0, 0, 0), .inl 0, [], none)),
  (791, (.iconst 1, (792, 0, 0, 0, 0, 0), .inl 0, [], none)),
  (792, (.iadd, (793, 0, 0, 0, 0, 0), .inl 0, [], none)),
  (793, (.iaload, (794, 0, 0, 0, 0, 0), .inl 0, [], none)),
  (794, (.aload_n 0, (795, 0, 0, 0, 0, 0), .inl 0, [], none)),
  (795, (.iload_n 3, (796, 0, 0, 0, 0, 0), .inl 0, [], none)),
  (796, (.iconst 2, (797, 0, 0, 0, 0, 0), .inl 0, [], none)),
  (797, (.iadd, (798, 0, 0, 0, 0, 0), .inl 0, [], none)),
  (798, (.iaload, (799, 0, 0, 0, 0, 0), .inl 0, [], none)),
  (799, (.aload_n 0, (800, 0, 0, 0, 0, 0), .inl 0, [], none)),
  (800, (.iload_n 3, (801, 0, 0, 0, 0, 0), .inl 0, [], none)),
  (801, (.iconst 3, (802, 0, 0, 0, 0, 0), .inl 0, [], none)),
  (802, (.iadd, (803, 0, 0, 0, 0, 0), .inl 0, [], none)),
  (803, (.iaload, (804, 0, 0, 0, 0, 0), .inl 0, [], none)),
  (804, (.invokevirtual 121, (807, 233, 4, 1, 4, 13), .inl 0, [], none)),
  (807, (.if_icmp .eq 74, (810, 881, 0, 0, 0, 0), .inl 0, [], none)),
  (810, (.iconst 0, (811, 0, 0, 0, 0, 0), .inl 0, [], none)),
  (811, (.ireturn, (812, 3, 0, 0, 0, 0), .inl 0, [], none)),
  (812, (.aload_n 1, (813, 0, 0, 0, 0, 0), .inl 0, [], none)),
  (813, (.aload_n 0, (814, 0, 0, 0, 0, 0), .inl 0, [], none)),
  (814, (.iload_n 3, (815, 0, 0, 0, 0, 0), .inl 0, [], none)),
  (815, (.iconst 1, (816, 0, 0, 0, 0, 0), .inl 0, [], none)),
  (816, (.iadd, (817, 0, 0, 0, 0, 0), .inl 0, [], none)),
  (817, (.iaload, (818, 0, 0, 0, 0, 0), .inl 0, [], none)),
  (818, (.invokevirtual 122, (821, 123, 2, 1, 2, 12), .inl 0, [], none)),
  (821, (.aload_n 2, (822, 0, 0, 0, 0, 0), .inl 0, [], none)),
  (822, (.aload_n 0, (823, 0, 0, 0, 0, 0), .inl 0, [], none)),
  (823, (.iload_n 3, (824, 0, 0, 0, 0, 0), .inl 0, [], none)),
  (824, (.iconst 1, (825, 0, 0, 0, 0, 0), .inl 0, [], none)),
  (825, (.iadd, (826, 0, 0, 0, 0, 0), .inl 0, [], none)),
  (826, (.iaload, (827, 0, 0, 0, 0, 0), .inl 0, [], none)),
  (827, (.invokevirtual 125, (830, 234, 2, 1, 2, 13), .inl 0, [], none)),
  (830, (.if_icmp .eq 51, (833, 881, 0, 0, 0, 0), .inl 0, [], none)),
  (833, (.iconst 0, (834, 0, 0, 0, 0, 0), .inl 0, [], none)),
  (834, (.ireturn, (835, 3, 0, 0, 0, 0), .inl 0, [], none)),
  (835, (.aload_n 1, (836, 0, 0, 0, 0, 0), .inl 0, [], none)),
  (836, (.aload_n 0, (837, 0, 0, 0, 0, 0), .inl 0, [], none)),
  (837, (.iload_n 3, (838, 0, 0, 0, 0, 0), .inl 0, [], none)),
  (838, (.iconst 1, (839, 0, 0, 0, 0, 0), .inl 0, [], none)),
  (839, (.iadd, (840, 0, 0, 0, 0, 0), .inl 0, [], none)),
  (840, (.iaload, (841, 0, 0, 0, 0, 0), .inl 0, [], none)),
  (841, (.invokevirtual 126, (844, 124, 2, 1, 2, 12), .inl 0, [], none)),
  (844, (.aload_n 2, (845, 0, 0, 0, 0, 0), .inl 0, [], none)),
  (845, (.aload_n 0, (846, 0, 0, 0, 0, 0), .inl 0, [], none)),
  (846, (.iload_n 3, (847, 0, 0, 0, 0, 0), .inl 0, [], none)),
  (847, (.iconst 1, (848, 0, 0, 0, 0, 0), .inl 0, [], none)),
  (848, (.iadd, (849, 0, 0, 0, 0, 0), .inl 0, [], none)),
  (849, (.iaload, (850, 0, 0, 0, 0, 0), .inl 0, [], none)),
  (850, (.invokevirtual 129, (853, 235, 2, 1, 3, 13), .inl 0, [], none)),
  (853, (.if_icmp .eq 28, (856, 881, 0, 0, 0, 0), .inl 0, [], none)),
  (856, (.iconst 0, (857, 0, 0, 0, 0, 0), .inl 0, [], none)),
  (857, (.ireturn, (858, 3, 0, 0, 0, 0), .inl 0, [], none)),
  (858, (.aload_n 1, (859, 0, 0, 0, 0, 0), .inl 0, [], none)),
  (859, (.aload_n 0, (860, 0, 0, 0, 0, 0), .inl 0, [], none)),
  (860, (.iload_n 3, (861, 0, 0, 0, 0, 0), .inl 0, [], none)),
  (861, (.iconst 1, (862, 0, 0, 0, 0, 0), .inl 0, [], none)),
  (862, (.iadd, (863, 0, 0, 0, 0, 0), .inl 0, [], none)),
  (863, (.iaload, (864, 0, 0, 0, 0, 0), .inl 0, [], none)),
  (864, (.invokevirtual 130, (867, 125, 2, 1, 2, 12), .inl 0, [], none)),
  (867, (.aload_n 2, (868, 0, 0, 0, 0, 0), .inl 0, [], none)),
  (868, (.aload_n 0, (869, 0, 0, 0, 0, 0), .inl 0, [], none)),
  (869, (.iload_n 3, (870, 0, 0, 0, 0, 0), .inl 0, [], none)),
  (870, (.iconst 1, (871, 0, 0, 0, 0, 0), .inl 0, [], none)),
  (871, (.iadd, (872, 0, 0, 0, 0, 0), .inl 0, [], none)),
  (872, (.iaload, (873, 0, 0, 0, 0, 0), .inl 0, [], none)),
  (873, (.invokevirtual 133, (876, 236, 2, 1, 3, 13), .inl 0, [], none)),
  (876, (.if_icmp .eq 5, (879, 881, 0, 0, 0, 0), .inl 0, [], none)),
  (879, (.iconst 0, (880, 0, 0, 0, 0, 0), .inl 0, [], none)),
  (880, (.ireturn, (881, 3, 0, 0, 0, 0), .inl 0, [], none)),
  (881, (.iinc 3 6, (884, 0, 0, 0, 0, 0), .inl 0, [], some [true, true, true, true])),
  (884, (.goto (-866), (887, 18, 0, 0, 0, 0), .inl 0, [], none)),
  (887, (.iconst 1, (888, 0, 0, 0, 0, 0), .inl 0, [], none)),
  (888, (.ireturn, (889, 3, 0, 0, 0, 0), .inl 0, [], none))]
def sk_g0 : Nat → List (Nat × sk_E)
  | 0 => z_Ac_init
  | 1 => z_Ac_forget
  | 2 => z_Ac_keep
  | 3 => z_Ac_takeBack
  | 4 => z_Al_init
  | 5 => z_Al_addPlace
  | 6 => z_Al_settle
  | 7 => z_Al_listStrokes
  | 8 => z_Al_chosen
  | 9 => z_Al_hasHit
  | 10 => z_Al_bitOf
  | 11 => z_Al_allows
  | 12 => z_Al_strokeOf
  | 13 => z_Al_plainLeavings
  | 14 => z_Al_leastLeftOut
  | _ => z_Al_isWholeRing
def sk_g1 : Nat → List (Nat × sk_E)
  | 0 => z_Al_runFrom
  | 1 => z_Al_rowWorth
  | 2 => z_Al_ringLeavings
  | 3 => z_Al_sameFrom
  | 4 => z_Al_number
  | 5 => z_AR_init
  | 6 => z_AR_read
  | 7 => z_AR_readClause
  | 8 => z_AR_isTooMany
  | 9 => z_AR_readRow
  | 10 => z_AR_isPlace
  | 11 => z_AR_readRing
  | 12 => z_AR_readHit
  | 13 => z_Bo_init
  | 14 => z_Bo_playTimes
  | _ => z_Bo_playOut
def sk_g2 : Nat → List (Nat × sk_E)
  | 0 => z_Bo_bestBy
  | 1 => z_Bo_drawn
  | 2 => z_Lo_init
  | 3 => z_Lo_word
  | 4 => z_Lo_lookAt
  | 5 => z_Lo_countRuns
  | 6 => z_Re_init
  | 7 => z_Re_sound
  | 8 => z_Re_refuse
  | 9 => z_Re_look
  | 10 => z_Re_next
  | 11 => z_Re_takes
  | 12 => z_Re_wordOf
  | 13 => z_Re_isWord
  | 14 => z_Re_skipWord
  | _ => z_Re_takesWord
def sk_g3 : Nat → List (Nat × sk_E)
  | 0 => z_Re_isDigit
  | 1 => z_Re_number
  | 2 => z_Re_goesOn
  | 3 => z_Ru_init
  | 4 => z_Ru_addClause
  | 5 => z_Ru_settle
  | 6 => z_Ru_valueOf
  | 7 => z_Ru_reckon
  | 8 => z_Ru_join
  | 9 => z_RR_init
  | 10 => z_RR_read
  | 11 => z_RR_readClause
  | 12 => z_RR_readTest
  | 13 => z_RR_readPart
  | 14 => z_RR_readFact
  | _ => z_RR_readComparison
def sk_g4 : Nat → List (Nat × sk_E)
  | 0 => z_RR_readSign
  | 1 => z_RR_readSum
  | 2 => z_RR_codeOf
  | 3 => z_RR_readValue
  | 4 => z_RR_countPart
  | 5 => z_RR_put
  | 6 => z_St_init
  | 7 => z_St_begin
  | 8 => z_St_noted
  | 9 => z_St_strokeNoted
  | 10 => z_St_play
  | 11 => z_St_copyOf
  | 12 => z_Sk_init
  | 13 => z_Sk_hasEndIn
  | 14 => z_Ta_init
  | _ => z_Ta_use
def sk_g5 : Nat → List (Nat × sk_E)
  | 0 => z_Ta_fillWinning
  | 1 => z_Ta_canWin
  | 2 => z_Ta_winsBy
  | 3 => z_Ta_lawsBehind
  | 4 => z_Ta_fillLengths
  | 5 => z_Ta_lengthAt
  | 6 => z_Ta_fillPlayCounts
  | 7 => z_Ta_playsAt
  | 8 => z_Ta_fillChances
  | 9 => z_Ta_chanceAt
  | 10 => z_Ta_fillClever
  | 11 => z_Ta_childAt
  | 12 => z_SR_init
  | 13 => z_SR_feed
  | 14 => z_SR_putBytes
  | _ => z_SR_end
def sk_g6 : Nat → List (Nat × sk_E)
  | 0 => z_SR_alley
  | 1 => z_SR_rule
  | 2 => z_SR_place
  | 3 => z_SR_can
  | 4 => z_SR_stroke
  | 5 => z_SR_up
  | 6 => z_SR_pass
  | 7 => z_SR_undo
  | 8 => z_SR_won
  | 9 => z_SR_wins
  | 10 => z_SR_worth
  | 11 => z_SR_plain
  | 12 => z_SR_again
  | 13 => z_SR_lasts
  | 14 => z_SR_plays
  | _ => z_SR_fair
def sk_g7 : Nat → List (Nat × sk_E)
  | 0 => z_SR_fairSet
  | 1 => z_SR_chance
  | 2 => z_SR_child
  | 3 => z_SR_match
  | 4 => z_SR_isRule
  | 5 => z_SR_knew
  | 6 => z_SR_law
  | 7 => z_SR_seed
  | 8 => z_SR_games
  | 9 => z_SR_against
  | 10 => z_SR_count
  | 11 => z_SR_image
  | 12 => z_SR_back
  | 13 => z_M_init
  | 14 => z_M_in
  | _ => z_M_isOf
def sk_g8 : Nat → List (Nat × sk_E)
  | 0 => z_M_bits
  | 1 => z_M_four
  | 2 => z_M_feed
  | 3 => z_M_end
  | 4 => z_M_fails
  | 5 => z_M_see
  | 6 => z_M_isDigit
  | 7 => z_M_isLetter
  | 8 => z_M_isWord
  | 9 => z_M_passWord
  | 10 => z_M_takesWord
  | 11 => z_M_numberHere
  | 12 => z_M_wordHere
  | 13 => z_M_puts
  | 14 => z_M_makes
  | _ => z_M_opens
def sk_g9 : Nat → List (Nat × sk_E)
  | 0 => z_M_strength
  | 1 => z_M_settles
  | 2 => z_M_value
  | 3 => z_M_term
  | 4 => z_M_sum
  | 5 => z_M_compare
  | 6 => z_M_fact
  | 7 => z_M_isInside
  | 8 => z_M_closes
  | 9 => z_M_tested
  | 10 => z_M_isStrokeHere
  | 11 => z_M_isAlleyHere
  | 12 => z_M_isPlaceHere
  | 13 => z_M_isRowHere
  | 14 => z_M_isRingHere
  | _ => z_M_isHitHere
def sk_g10 : Nat → List (Nat × sk_E)
  | 0 => z_M_isOnceHere
  | 1 => z_M_isStrayHere
  | 2 => z_M_alleyLineHere
  | 3 => z_M_isAlleyWord
  | 4 => z_M_clauseHere
  | 5 => z_M_readsAll
  | 6 => z_M_rule
  | 7 => z_M_alley
  | 8 => z_M_isRule
  | 9 => z_M_push
  | 10 => z_M_pop
  | 11 => z_M_one
  | 12 => z_M_reckons
  | 13 => z_M_isAlley
  | 14 => z_M_isPlace
  | _ => z_M_rowOf
def sk_g11 : Nat → List (Nat × sk_E)
  | 0 => z_M_beside
  | 1 => z_M_strokeBits
  | 2 => z_M_lastOf
  | 3 => z_M_canBe
  | 4 => z_M_canBeNow
  | 5 => z_M_fillsWon
  | 6 => z_M_fillsNow
  | 7 => z_M_isWonAt
  | 8 => z_M_winsBy
  | 9 => z_M_isOverAt
  | 10 => z_M_place
  | 11 => z_M_can
  | 12 => z_M_keepsAct
  | 13 => z_M_undo
  | 14 => z_M_notes
  | _ => z_M_stroke
def sk_g12 : Nat → List (Nat × sk_E)
  | 0 => z_M_up
  | 1 => z_M_pass
  | 2 => z_M_won
  | 3 => z_M_wins
  | 4 => z_M_leastUnseen
  | 5 => z_M_clearsSeen
  | 6 => z_M_worth
  | 7 => z_M_fillsPlains
  | 8 => z_M_plain
  | 9 => z_M_comesAgain
  | 10 => z_M_again
  | 11 => z_M_lastsAt
  | 12 => z_M_lasts
  | 13 => z_M_playsAt
  | 14 => z_M_plays
  | _ => z_M_fair
def sk_g13 : Nat → List (Nat × sk_E)
  | 0 => z_M_strayed
  | 1 => z_M_chanceAt
  | 2 => z_M_chance
  | 3 => z_M_bestAt
  | 4 => z_M_childAt
  | 5 => z_M_child
  | 6 => z_M_countsRun
  | 7 => z_M_countsRow
  | 8 => z_M_countsRuns
  | 9 => z_M_words
  | 10 => z_M_summedBy
  | 11 => z_M_strokeBy
  | 12 => z_M_winner
  | 13 => z_M_match
  | 14 => z_M_noted
  | _ => z_M_winsNoted
def sk_g14 : Nat → List (Nat × sk_E)
  | 0 => z_M_knew
  | 1 => z_M_fitsLaw
  | 2 => z_M_law
  | 3 => z_M_seed
  | 4 => z_M_draw
  | 5 => z_M_strokeDrawn
  | 6 => z_M_playsDrawn
  | 7 => z_M_games
  | 8 => z_M_against
  | 9 => z_M_count
  | 10 => z_M_image
  | 11 => z_M_back
  | 12 => z_JI_numberOfTrailingZeros
  | 13 => z_JI_bitCount
  | 14 => z_JL_numberOfTrailingZeros
  | _ => z_JL_bitCount
def sk_g15 : Nat → List (Nat × sk_E)
  | 0 => z_JM_max
  | 1 => z_JM_min
  | 2 => z_JS_length
  | 3 => z_JS_charAt
  | 4 => z_JS_coder
  | 5 => z_JS_isLatin1
  | 6 => z_JS_checkIndex
  | 7 => z_JT_charAt
  | 8 => z_JU_getChar
  | 9 => z_JU_length
  | 10 => z_JU_charAt
  | 11 => z_JU_checkIndex
  | 12 => z_JP_checkIndex
  | _ => z_L_law
def sk_grp (j : Nat) : Nat → List (Nat × sk_E)
  | 0 => sk_g0 j
  | 1 => sk_g1 j
  | 2 => sk_g2 j
  | 3 => sk_g3 j
  | 4 => sk_g4 j
  | 5 => sk_g5 j
  | 6 => sk_g6 j
  | 7 => sk_g7 j
  | 8 => sk_g8 j
  | 9 => sk_g9 j
  | 10 => sk_g10 j
  | 11 => sk_g11 j
  | 12 => sk_g12 j
  | 13 => sk_g13 j
  | 14 => sk_g14 j
  | _ => sk_g15 j
def sk_look : List (Nat × sk_E) → Nat → Option sk_E
  | [], _ => none
  | e :: r, pc => match Nat.beq e.1 pc with
    | true => some e.2
    | false => sk_look r pc
def sk_tab (m pc : Nat) : Option sk_E := sk_look (sk_grp (m % 16) (m / 16)) pc
def sk_rec (m : Nat) : Bool := Nat.beq m 60 || Nat.beq m 61 || Nat.beq m 62
end
section
def sk_hopL {τ : Type} (L : List (Nat × sk_E)) (f g : sk_C → Option τ) (c : sk_C) : Option τ := match sk_look L c.1 with
  | none => f c
  | some e => match e.2.2.2.2 with
    | some ks => f (c.1, sk_kill ks c.2.1, c.2.2)
    | none => g c
def sk_evL {τ : Type} (L : List (Nat × sk_E)) (ret : sk_H → Option sk_V → Option τ) (fc : Nat → sk_Ls → sk_H → sk_R) (f : sk_C → Option τ) : Nat → sk_C → Option τ
  | 0, c => f c
  | n + 1, c => (sk_look L c.1).bind fun e => sk_one ret fc (sk_hopL L f (sk_evL L ret fc f n)) e c
theorem sk_evL_eq {τ : Type} (T : sk_T) (ret : sk_H → Option sk_V → Option τ) (fc : Nat → sk_Ls → sk_H → sk_R) (m : Nat) (f : sk_C → Option τ) {L : List (Nat × sk_E)} (hL : ∀ pc, T m pc = sk_look L pc) : ∀ (n : Nat) (c : sk_C), sk_ev T ret fc m f n c = sk_evL L ret fc f n c
  | 0, _ => rfl
  | n + 1, c => by
    unfold sk_ev sk_evL
    rw [hL]
    have : sk_hop T m f (sk_ev T ret fc m f n) = sk_hopL L f (sk_evL L ret fc f n) := by
      funext c
      unfold sk_hop sk_hopL
      rw [hL, sk_evL_eq T ret fc m f hL n c]
      rfl
    rw [this]
theorem sk_XT_evL {τ : Type} (rec? : Nat → Bool) (ret : sk_H → Option sk_V → Option τ) (d m n : Nat) (c : sk_C) {L : List (Nat × sk_E)} (hL : ∀ pc, sk_tab m pc = sk_look L pc) : sk_XT sk_tab rec? ret d m c = sk_evL L ret (sk_call rec? (sk_X sk_tab rec?) d) (sk_XT sk_tab rec? ret d m) n c :=
  (sk_XT_ev sk_tab rec? ret d m n c).trans (sk_evL_eq sk_tab ret _ m _ hL n c)
noncomputable def c_Ac_init (d : Nat) (x0 : Option Nat) (h : sk_H) : Option (sk_H) := sk_XT sk_tab sk_rec t_V d 0 (0, [some (.inr (.inr x0))], [], h)
noncomputable def c_Ac_forget (d : Nat) (x0 : Option Nat) (h : sk_H) : Option (sk_H) := sk_XT sk_tab sk_rec t_V d 1 (0, [some (.inr (.inr x0))], [], h)
noncomputable def c_Ac_keep (d : Nat) (x0 : Option Nat) (x1 : Option Nat) (h : sk_H) : Option (sk_H) := sk_XT sk_tab sk_rec t_V d 2 (0, [some (.inr (.inr x0)), some (.inr (.inr x1))], [], h)
noncomputable def c_Ac_takeBack (d : Nat) (x0 : Option Nat) (x1 : Option Nat) (h : sk_H) : Option (sk_H × Int32) := sk_XT sk_tab sk_rec t_I d 3 (0, [some (.inr (.inr x0)), some (.inr (.inr x1))], [], h)
noncomputable def c_Al_init (d : Nat) (x0 : Option Nat) (h : sk_H) : Option (sk_H) := sk_XT sk_tab sk_rec t_V d 4 (0, [some (.inr (.inr x0))], [], h)
noncomputable def c_Al_addPlace (d : Nat) (x0 : Option Nat) (x1 : Int32) (h : sk_H) : Option (sk_H) := sk_XT sk_tab sk_rec t_V d 5 (0, [some (.inr (.inr x0)), some (.inl x1), none], [], h)
noncomputable def c_Al_settle (d : Nat) (x0 : Option Nat) (h : sk_H) : Option (sk_H) := sk_XT sk_tab sk_rec t_V d 6 (0, [some (.inr (.inr x0)), none, none, none], [], h)
noncomputable def k_Al_settle_14 (d : Nat) (x0 : Option Nat) (x1 : Int32) (h : sk_H) : Option (sk_H) := sk_XT sk_tab sk_rec t_V d 6 (14, [some (.inr (.inr x0)), some (.inl x1), none, none], [], h)
noncomputable def k_Al_settle_80 (d : Nat) (x0 : Option Nat) (x1 : Int32) (x2 : Int32) (x3 : Int32) (s0 : Int32) (s1 : Int32) (s2 : Option Nat) (h : sk_H) : Option (sk_H) := sk_XT sk_tab sk_rec t_V d 6 (80, [some (.inr (.inr x0)), some (.inl x1), some (.inl x2), some (.inl x3)], [.inl s0, .inl s1, .inr (.inr s2)], h)
noncomputable def k_Al_settle_129 (d : Nat) (x0 : Option Nat) (x1 : Int32) (h : sk_H) : Option (sk_H) := sk_XT sk_tab sk_rec t_V d 6 (129, [some (.inr (.inr x0)), some (.inl x1), none, none], [], h)
noncomputable def c_Al_listStrokes (d : Nat) (x0 : Option Nat) (h : sk_H) : Option (sk_H) := sk_XT sk_tab sk_rec t_V d 7 (0, [some (.inr (.inr x0)), none, none, none, none, none, none], [], h)
noncomputable def k_Al_listStrokes_14 (d : Nat) (x0 : Option Nat) (x1 : Option Nat) (x2 : Int32) (x3 : Int32) (h : sk_H) : Option (sk_H) := sk_XT sk_tab sk_rec t_V d 7 (14, [some (.inr (.inr x0)), some (.inr (.inr x1)), some (.inl x2), some (.inl x3), none, none, none], [], h)
noncomputable def k_Al_listStrokes_31 (d : Nat) (x0 : Option Nat) (x1 : Option Nat) (x2 : Int32) (x3 : Int32) (x4 : Int32) (x5 : Int32) (x6 : Int32) (h : sk_H) : Option (sk_H) := sk_XT sk_tab sk_rec t_V d 7 (31, [some (.inr (.inr x0)), some (.inr (.inr x1)), some (.inl x2), some (.inl x3), some (.inl x4), some (.inl x5), some (.inl x6)], [], h)
noncomputable def c_Al_chosen (d : Nat) (x0 : Option Nat) (x1 : Int32) (x2 : Int32) (h : sk_H) : Option (sk_H × Option Nat) := sk_XT sk_tab sk_rec t_R d 8 (0, [some (.inr (.inr x0)), some (.inl x1), some (.inl x2), none, none, none, none], [], h)
noncomputable def k_Al_chosen_5 (d : Nat) (x0 : Option Nat) (x1 : Int32) (x2 : Int32) (x3 : Int32) (x4 : Int32) (h : sk_H) : Option (sk_H × Option Nat) := sk_XT sk_tab sk_rec t_R d 8 (5, [some (.inr (.inr x0)), some (.inl x1), some (.inl x2), some (.inl x3), some (.inl x4), none, none], [], h)
noncomputable def k_Al_chosen_51 (d : Nat) (x0 : Option Nat) (x1 : Int32) (x2 : Int32) (x4 : Option Nat) (x5 : Int32) (x6 : Int32) (h : sk_H) : Option (sk_H × Option Nat) := sk_XT sk_tab sk_rec t_R d 8 (51, [some (.inr (.inr x0)), some (.inl x1), some (.inl x2), none, some (.inr (.inr x4)), some (.inl x5), some (.inl x6)], [], h)
noncomputable def c_Al_hasHit (d : Nat) (x0 : Int32) (x1 : Int32) (h : sk_H) : Option (sk_H × Int32) := sk_XT sk_tab sk_rec t_I d 9 (0, [some (.inl x0), some (.inl x1)], [], h)
noncomputable def c_Al_bitOf (d : Nat) (x0 : Int32) (h : sk_H) : Option (sk_H × Int32) := sk_XT sk_tab sk_rec t_I d 10 (0, [some (.inl x0)], [], h)
noncomputable def c_Al_allows (d : Nat) (x0 : Option Nat) (x1 : Int32) (x2 : Option Nat) (h : sk_H) : Option (sk_H × Int32) := sk_XT sk_tab sk_rec t_I d 11 (0, [some (.inr (.inr x0)), some (.inl x1), some (.inr (.inr x2))], [], h)
noncomputable def c_Al_strokeOf (d : Nat) (x0 : Option Nat) (x1 : Int32) (x2 : Int32) (x3 : Int32) (h : sk_H) : Option (sk_H × Option Nat) := sk_XT sk_tab sk_rec t_R d 12 (0, [some (.inr (.inr x0)), some (.inl x1), some (.inl x2), some (.inl x3), none, none, none, none], [], h)
noncomputable def k_Al_strokeOf_14 (d : Nat) (x0 : Option Nat) (x1 : Int32) (x2 : Int32) (x3 : Int32) (x4 : Option Nat) (x5 : Int32) (x6 : Int32) (h : sk_H) : Option (sk_H × Option Nat) := sk_XT sk_tab sk_rec t_R d 12 (14, [some (.inr (.inr x0)), some (.inl x1), some (.inl x2), some (.inl x3), some (.inr (.inr x4)), some (.inl x5), some (.inl x6), none], [], h)
noncomputable def c_Al_plainLeavings (d : Nat) (x0 : Option Nat) (x1 : Int32) (h : sk_H) : Option (sk_H × Int64) := sk_XT sk_tab sk_rec t_L d 13 (0, [some (.inr (.inr x0)), some (.inl x1), none, none, none, none, none], [], h)
noncomputable def k_Al_plainLeavings_5 (d : Nat) (x0 : Option Nat) (x1 : Int32) (x2 : Int64) (x4 : Int32) (h : sk_H) : Option (sk_H × Int64) := sk_XT sk_tab sk_rec t_L d 13 (5, [some (.inr (.inr x0)), some (.inl x1), some (.inr (.inl x2)), none, some (.inl x4), none, none], [], h)
noncomputable def k_Al_plainLeavings_26 (d : Nat) (x0 : Option Nat) (x1 : Int32) (x2 : Int64) (x4 : Int32) (x5 : Int32) (x6 : Int32) (h : sk_H) : Option (sk_H × Int64) := sk_XT sk_tab sk_rec t_L d 13 (26, [some (.inr (.inr x0)), some (.inl x1), some (.inr (.inl x2)), none, some (.inl x4), some (.inl x5), some (.inl x6)], [], h)
noncomputable def k_Al_plainLeavings_64 (d : Nat) (x0 : Option Nat) (x1 : Int32) (x2 : Int64) (x4 : Int32) (x5 : Int32) (x6 : Int32) (h : sk_H) : Option (sk_H × Int64) := sk_XT sk_tab sk_rec t_L d 13 (64, [some (.inr (.inr x0)), some (.inl x1), some (.inr (.inl x2)), none, some (.inl x4), some (.inl x5), some (.inl x6)], [], h)
noncomputable def c_Al_leastLeftOut (d : Nat) (x0 : Int64) (h : sk_H) : Option (sk_H × Int32) := sk_XT sk_tab sk_rec t_I d 14 (0, [some (.inr (.inl x0)), none], [], h)
noncomputable def c_Al_isWholeRing (d : Nat) (x0 : Option Nat) (x1 : Int32) (x2 : Int32) (h : sk_H) : Option (sk_H × Int32) := sk_XT sk_tab sk_rec t_I d 15 (0, [some (.inr (.inr x0)), some (.inl x1), some (.inl x2), none], [], h)
noncomputable def c_Al_runFrom (d : Nat) (x0 : Option Nat) (x1 : Int32) (x2 : Int32) (h : sk_H) : Option (sk_H × Int32) := sk_XT sk_tab sk_rec t_I d 16 (0, [some (.inr (.inr x0)), some (.inl x1), some (.inl x2), none, none, none], [], h)
noncomputable def k_Al_runFrom_69 (d : Nat) (x0 : Option Nat) (x1 : Int32) (x4 : Int32) (x5 : Int32) (h : sk_H) : Option (sk_H × Int32) := sk_XT sk_tab sk_rec t_I d 16 (69, [some (.inr (.inr x0)), some (.inl x1), none, none, some (.inl x4), some (.inl x5)], [], h)
noncomputable def c_Al_rowWorth (d : Nat) (x0 : Option Nat) (x1 : Int32) (x2 : Int32) (h : sk_H) : Option (sk_H × Int32) := sk_XT sk_tab sk_rec t_I d 17 (0, [some (.inr (.inr x0)), some (.inl x1), some (.inl x2), none, none], [], h)
noncomputable def k_Al_rowWorth_28 (d : Nat) (x0 : Option Nat) (x1 : Int32) (x2 : Int32) (x3 : Int32) (x4 : Int32) (h : sk_H) : Option (sk_H × Int32) := sk_XT sk_tab sk_rec t_I d 17 (28, [some (.inr (.inr x0)), some (.inl x1), some (.inl x2), some (.inl x3), some (.inl x4)], [], h)
noncomputable def c_Al_ringLeavings (d : Nat) (x0 : Option Nat) (x1 : Int32) (h : sk_H) : Option (sk_H × Int64) := sk_XT sk_tab sk_rec t_L d 18 (0, [some (.inr (.inr x0)), some (.inl x1), none, none, none], [], h)
noncomputable def k_Al_ringLeavings_5 (d : Nat) (x0 : Option Nat) (x1 : Int32) (x2 : Int64) (x4 : Int32) (h : sk_H) : Option (sk_H × Int64) := sk_XT sk_tab sk_rec t_L d 18 (5, [some (.inr (.inr x0)), some (.inl x1), some (.inr (.inl x2)), none, some (.inl x4)], [], h)
noncomputable def c_Al_sameFrom (d : Nat) (x0 : Option Nat) (x1 : Int32) (h : sk_H) : Option (sk_H × Int32) := sk_XT sk_tab sk_rec t_I d 19 (0, [some (.inr (.inr x0)), some (.inl x1), none], [], h)
noncomputable def k_Al_sameFrom_5 (d : Nat) (x0 : Option Nat) (x1 : Int32) (x2 : Int32) (h : sk_H) : Option (sk_H × Int32) := sk_XT sk_tab sk_rec t_I d 19 (5, [some (.inr (.inr x0)), some (.inl x1), some (.inl x2)], [], h)
noncomputable def c_Al_number (d : Nat) (x0 : Option Nat) (x1 : Int32) (h : sk_H) : Option (sk_H × Int32) := sk_XT sk_tab sk_rec t_I d 20 (0, [some (.inr (.inr x0)), some (.inl x1)], [], h)
noncomputable def c_AR_init (d : Nat) (x0 : Option Nat) (x1 : Option Nat) (h : sk_H) : Option (sk_H) := sk_XT sk_tab sk_rec t_V d 21 (0, [some (.inr (.inr x0)), some (.inr (.inr x1))], [], h)
noncomputable def c_AR_read (d : Nat) (x0 : Option Nat) (h : sk_H) : Option (sk_H × Option Nat) := sk_XT sk_tab sk_rec t_R d 22 (0, [some (.inr (.inr x0)), none], [], h)
noncomputable def k_AR_read_2 (d : Nat) (x0 : Option Nat) (x1 : Int32) (h : sk_H) : Option (sk_H × Option Nat) := sk_XT sk_tab sk_rec t_R d 22 (2, [some (.inr (.inr x0)), some (.inl x1)], [], h)
noncomputable def k_AR_read_26 (d : Nat) (x0 : Option Nat) (h : sk_H) : Option (sk_H × Option Nat) := sk_XT sk_tab sk_rec t_R d 22 (26, [some (.inr (.inr x0)), none], [], h)
noncomputable def c_AR_readClause (d : Nat) (x0 : Option Nat) (x1 : Int32) (h : sk_H) : Option (sk_H) := sk_XT sk_tab sk_rec t_V d 23 (0, [some (.inr (.inr x0)), some (.inl x1), none], [], h)
noncomputable def c_AR_isTooMany (d : Nat) (x0 : Option Nat) (x1 : Int32) (x2 : Int32) (h : sk_H) : Option (sk_H × Int32) := sk_XT sk_tab sk_rec t_I d 24 (0, [some (.inr (.inr x0)), some (.inl x1), some (.inl x2)], [], h)
noncomputable def c_AR_readRow (d : Nat) (x0 : Option Nat) (h : sk_H) : Option (sk_H) := sk_XT sk_tab sk_rec t_V d 25 (0, [some (.inr (.inr x0))], [], h)
noncomputable def k_AR_readRow_75 (d : Nat) (x0 : Option Nat) (h : sk_H) : Option (sk_H) := sk_XT sk_tab sk_rec t_V d 25 (75, [some (.inr (.inr x0))], [], h)
noncomputable def k_AR_readRow_125 (d : Nat) (x0 : Option Nat) (h : sk_H) : Option (sk_H) := sk_XT sk_tab sk_rec t_V d 25 (125, [some (.inr (.inr x0))], [], h)
noncomputable def c_AR_isPlace (d : Nat) (x0 : Int32) (h : sk_H) : Option (sk_H × Int32) := sk_XT sk_tab sk_rec t_I d 26 (0, [some (.inl x0)], [], h)
noncomputable def c_AR_readRing (d : Nat) (x0 : Option Nat) (h : sk_H) : Option (sk_H) := sk_XT sk_tab sk_rec t_V d 27 (0, [some (.inr (.inr x0)), none, none], [], h)
noncomputable def c_AR_readHit (d : Nat) (x0 : Option Nat) (h : sk_H) : Option (sk_H) := sk_XT sk_tab sk_rec t_V d 28 (0, [some (.inr (.inr x0)), none], [], h)
noncomputable def c_Bo_init (d : Nat) (x0 : Option Nat) (h : sk_H) : Option (sk_H) := sk_XT sk_tab sk_rec t_V d 29 (0, [some (.inr (.inr x0))], [], h)
noncomputable def c_Bo_playTimes (d : Nat) (x0 : Option Nat) (x1 : Option Nat) (x2 : Option Nat) (x3 : Option Nat) (x4 : Option Nat) (x5 : Int32) (h : sk_H) : Option (sk_H) := sk_XT sk_tab sk_rec t_V d 30 (0, [some (.inr (.inr x0)), some (.inr (.inr x1)), some (.inr (.inr x2)), some (.inr (.inr x3)), some (.inr (.inr x4)), some (.inl x5), none], [], h)
noncomputable def k_Bo_playTimes_35 (d : Nat) (x0 : Option Nat) (x1 : Option Nat) (x3 : Option Nat) (x4 : Option Nat) (x5 : Int32) (x6 : Int32) (h : sk_H) : Option (sk_H) := sk_XT sk_tab sk_rec t_V d 30 (35, [some (.inr (.inr x0)), some (.inr (.inr x1)), none, some (.inr (.inr x3)), some (.inr (.inr x4)), some (.inl x5), some (.inl x6)], [], h)
noncomputable def c_Bo_playOut (d : Nat) (x0 : Option Nat) (x1 : Option Nat) (x2 : Option Nat) (h : sk_H) : Option (sk_H) := sk_XT sk_tab sk_rec t_V d 31 (0, [some (.inr (.inr x0)), some (.inr (.inr x1)), some (.inr (.inr x2)), none, none, none], [], h)
noncomputable def k_Bo_playOut_2 (d : Nat) (x0 : Option Nat) (x1 : Option Nat) (x2 : Option Nat) (x3 : Int32) (h : sk_H) : Option (sk_H) := sk_XT sk_tab sk_rec t_V d 31 (2, [some (.inr (.inr x0)), some (.inr (.inr x1)), some (.inr (.inr x2)), some (.inl x3), none, none], [], h)
noncomputable def k_Bo_playOut_40 (d : Nat) (x0 : Option Nat) (x1 : Option Nat) (x2 : Option Nat) (x3 : Int32) (s0 : Option Nat) (h : sk_H) : Option (sk_H) := sk_XT sk_tab sk_rec t_V d 31 (40, [some (.inr (.inr x0)), some (.inr (.inr x1)), some (.inr (.inr x2)), some (.inl x3), none, none], [.inr (.inr s0)], h)
noncomputable def c_Bo_bestBy (d : Nat) (x0 : Option Nat) (x1 : Option Nat) (h : sk_H) : Option (sk_H × Option Nat) := sk_XT sk_tab sk_rec t_R d 32 (0, [some (.inr (.inr x0)), some (.inr (.inr x1)), none, none, none, none, none, none, none, none, none], [], h)
noncomputable def k_Bo_bestBy_21 (d : Nat) (x0 : Option Nat) (x1 : Option Nat) (x2 : Option Nat) (x3 : Int64) (x5 : Option Nat) (x6 : Int32) (x7 : Int32) (h : sk_H) : Option (sk_H × Option Nat) := sk_XT sk_tab sk_rec t_R d 32 (21, [some (.inr (.inr x0)), some (.inr (.inr x1)), some (.inr (.inr x2)), some (.inr (.inl x3)), none, some (.inr (.inr x5)), some (.inl x6), some (.inl x7), none, none, none], [], h)
noncomputable def c_Bo_drawn (d : Nat) (x0 : Option Nat) (h : sk_H) : Option (sk_H × Option Nat) := sk_XT sk_tab sk_rec t_R d 33 (0, [some (.inr (.inr x0)), none, none, none, none, none, none, none], [], h)
noncomputable def k_Bo_drawn_16 (d : Nat) (x0 : Option Nat) (x1 : Int32) (x2 : Option Nat) (x3 : Int32) (x4 : Int32) (h : sk_H) : Option (sk_H × Option Nat) := sk_XT sk_tab sk_rec t_R d 33 (16, [some (.inr (.inr x0)), some (.inl x1), some (.inr (.inr x2)), some (.inl x3), some (.inl x4), none, none, none], [], h)
noncomputable def k_Bo_drawn_113 (d : Nat) (x0 : Option Nat) (x2 : Int64) (x4 : Option Nat) (x5 : Int32) (x6 : Int32) (h : sk_H) : Option (sk_H × Option Nat) := sk_XT sk_tab sk_rec t_R d 33 (113, [some (.inr (.inr x0)), none, some (.inr (.inl x2)), none, some (.inr (.inr x4)), some (.inl x5), some (.inl x6), none], [], h)
noncomputable def c_Lo_init (d : Nat) (x0 : Option Nat) (h : sk_H) : Option (sk_H) := sk_XT sk_tab sk_rec t_V d 34 (0, [some (.inr (.inr x0))], [], h)
noncomputable def c_Lo_word (d : Nat) (x0 : Option Nat) (x1 : Int32) (h : sk_H) : Option (sk_H × Int64) := sk_XT sk_tab sk_rec t_L d 35 (0, [some (.inr (.inr x0)), some (.inl x1)], [], h)
noncomputable def c_Lo_lookAt (d : Nat) (x0 : Option Nat) (x1 : Option Nat) (x2 : Option Nat) (x3 : Int32) (h : sk_H) : Option (sk_H) := sk_XT sk_tab sk_rec t_V d 36 (0, [some (.inr (.inr x0)), some (.inr (.inr x1)), some (.inr (.inr x2)), some (.inl x3), none], [], h)
noncomputable def c_Lo_countRuns (d : Nat) (x0 : Option Nat) (x1 : Option Nat) (x2 : Int32) (h : sk_H) : Option (sk_H) := sk_XT sk_tab sk_rec t_V d 37 (0, [some (.inr (.inr x0)), some (.inr (.inr x1)), some (.inl x2), none, none, none, none, none], [], h)
noncomputable def k_Lo_countRuns_11 (d : Nat) (x0 : Option Nat) (x1 : Option Nat) (x2 : Int32) (x3 : Int32) (x4 : Int32) (x5 : Int32) (x6 : Int32) (h : sk_H) : Option (sk_H) := sk_XT sk_tab sk_rec t_V d 37 (11, [some (.inr (.inr x0)), some (.inr (.inr x1)), some (.inl x2), some (.inl x3), some (.inl x4), some (.inl x5), some (.inl x6), none], [], h)
noncomputable def k_Lo_countRuns_40 (d : Nat) (x0 : Option Nat) (x1 : Option Nat) (x2 : Int32) (x4 : Int32) (x5 : Int32) (x6 : Int32) (x7 : Int32) (s0 : Int32) (s1 : Int32) (h : sk_H) : Option (sk_H) := sk_XT sk_tab sk_rec t_V d 37 (40, [some (.inr (.inr x0)), some (.inr (.inr x1)), some (.inl x2), none, some (.inl x4), some (.inl x5), some (.inl x6), some (.inl x7)], [.inl s0, .inl s1], h)
noncomputable def c_Re_init (d : Nat) (x0 : Option Nat) (x1 : Option Nat) (x2 : Int32) (h : sk_H) : Option (sk_H) := sk_XT sk_tab sk_rec t_V d 38 (0, [some (.inr (.inr x0)), some (.inr (.inr x1)), some (.inl x2)], [], h)
noncomputable def c_Re_sound (d : Nat) (x0 : Option Nat) (h : sk_H) : Option (sk_H × Int32) := sk_XT sk_tab sk_rec t_I d 39 (0, [some (.inr (.inr x0))], [], h)
noncomputable def c_Re_refuse (d : Nat) (x0 : Option Nat) (x1 : Int32) (x2 : Int32) (h : sk_H) : Option (sk_H) := sk_XT sk_tab sk_rec t_V d 40 (0, [some (.inr (.inr x0)), some (.inl x1), some (.inl x2)], [], h)
noncomputable def c_Re_look (d : Nat) (x0 : Option Nat) (h : sk_H) : Option (sk_H × Int32) := sk_XT sk_tab sk_rec t_I d 41 (0, [some (.inr (.inr x0))], [], h)
noncomputable def c_Re_next (d : Nat) (x0 : Option Nat) (h : sk_H) : Option (sk_H × Int32) := sk_XT sk_tab sk_rec t_I d 42 (0, [some (.inr (.inr x0))], [], h)
noncomputable def k_Re_next_0 (d : Nat) (x0 : Option Nat) (h : sk_H) : Option (sk_H × Int32) := sk_XT sk_tab sk_rec t_I d 42 (0, [some (.inr (.inr x0))], [], h)
noncomputable def c_Re_takes (d : Nat) (x0 : Option Nat) (x1 : Int32) (h : sk_H) : Option (sk_H × Int32) := sk_XT sk_tab sk_rec t_I d 43 (0, [some (.inr (.inr x0)), some (.inl x1)], [], h)
noncomputable def c_Re_wordOf (d : Nat) (x0 : Option Nat) (x1 : Option Nat) (h : sk_H) : Option (sk_H × Int32) := sk_XT sk_tab sk_rec t_I d 44 (0, [some (.inr (.inr x0)), some (.inr (.inr x1)), none, none, none], [], h)
noncomputable def k_Re_wordOf_12 (d : Nat) (x0 : Option Nat) (x1 : Option Nat) (x2 : Int32) (x3 : Int32) (x4 : Int32) (h : sk_H) : Option (sk_H × Int32) := sk_XT sk_tab sk_rec t_I d 44 (12, [some (.inr (.inr x0)), some (.inr (.inr x1)), some (.inl x2), some (.inl x3), some (.inl x4)], [], h)
noncomputable def k_Re_wordOf_41 (d : Nat) (x0 : Option Nat) (x1 : Option Nat) (x2 : Int32) (x3 : Int32) (x4 : Int32) (h : sk_H) : Option (sk_H × Int32) := sk_XT sk_tab sk_rec t_I d 44 (41, [some (.inr (.inr x0)), some (.inr (.inr x1)), some (.inl x2), some (.inl x3), some (.inl x4)], [], h)
noncomputable def c_Re_isWord (d : Nat) (x0 : Option Nat) (x1 : Option Nat) (x2 : Int32) (x3 : Int32) (h : sk_H) : Option (sk_H × Int32) := sk_XT sk_tab sk_rec t_I d 45 (0, [some (.inr (.inr x0)), some (.inr (.inr x1)), some (.inl x2), some (.inl x3), none, none], [], h)
noncomputable def k_Re_isWord_24 (d : Nat) (x0 : Option Nat) (x1 : Option Nat) (x2 : Int32) (x4 : Int32) (x5 : Int32) (h : sk_H) : Option (sk_H × Int32) := sk_XT sk_tab sk_rec t_I d 45 (24, [some (.inr (.inr x0)), some (.inr (.inr x1)), some (.inl x2), none, some (.inl x4), some (.inl x5)], [], h)
noncomputable def c_Re_skipWord (d : Nat) (x0 : Option Nat) (h : sk_H) : Option (sk_H) := sk_XT sk_tab sk_rec t_V d 46 (0, [some (.inr (.inr x0))], [], h)
noncomputable def k_Re_skipWord_0 (d : Nat) (x0 : Option Nat) (h : sk_H) : Option (sk_H) := sk_XT sk_tab sk_rec t_V d 46 (0, [some (.inr (.inr x0))], [], h)
noncomputable def c_Re_takesWord (d : Nat) (x0 : Option Nat) (x1 : Option Nat) (h : sk_H) : Option (sk_H × Int32) := sk_XT sk_tab sk_rec t_I d 47 (0, [some (.inr (.inr x0)), some (.inr (.inr x1))], [], h)
noncomputable def c_Re_isDigit (d : Nat) (x0 : Int32) (h : sk_H) : Option (sk_H × Int32) := sk_XT sk_tab sk_rec t_I d 48 (0, [some (.inl x0)], [], h)
noncomputable def c_Re_number (d : Nat) (x0 : Option Nat) (x1 : Int32) (x2 : Int32) (h : sk_H) : Option (sk_H × Int32) := sk_XT sk_tab sk_rec t_I d 49 (0, [some (.inr (.inr x0)), some (.inl x1), some (.inl x2), none, none], [], h)
noncomputable def k_Re_number_29 (d : Nat) (x0 : Option Nat) (x1 : Int32) (x2 : Int32) (x3 : Int32) (x4 : Int32) (h : sk_H) : Option (sk_H × Int32) := sk_XT sk_tab sk_rec t_I d 49 (29, [some (.inr (.inr x0)), some (.inl x1), some (.inl x2), some (.inl x3), some (.inl x4)], [], h)
noncomputable def k_Re_number_125 (d : Nat) (x0 : Option Nat) (x3 : Int32) (x4 : Int32) (h : sk_H) : Option (sk_H × Int32) := sk_XT sk_tab sk_rec t_I d 49 (125, [some (.inr (.inr x0)), none, none, some (.inl x3), some (.inl x4)], [], h)
noncomputable def c_Re_goesOn (d : Nat) (x0 : Option Nat) (h : sk_H) : Option (sk_H × Int32) := sk_XT sk_tab sk_rec t_I d 50 (0, [some (.inr (.inr x0))], [], h)
noncomputable def c_Ru_init (d : Nat) (x0 : Option Nat) (h : sk_H) : Option (sk_H) := sk_XT sk_tab sk_rec t_V d 51 (0, [some (.inr (.inr x0))], [], h)
noncomputable def c_Ru_addClause (d : Nat) (x0 : Option Nat) (x1 : Int32) (x2 : Int32) (x3 : Int32) (h : sk_H) : Option (sk_H) := sk_XT sk_tab sk_rec t_V d 52 (0, [some (.inr (.inr x0)), some (.inl x1), some (.inl x2), some (.inl x3)], [], h)
noncomputable def c_Ru_settle (d : Nat) (x0 : Option Nat) (x1 : Option Nat) (x2 : Int32) (h : sk_H) : Option (sk_H) := sk_XT sk_tab sk_rec t_V d 53 (0, [some (.inr (.inr x0)), some (.inr (.inr x1)), some (.inl x2), none, none], [], h)
noncomputable def k_Ru_settle_21 (d : Nat) (x0 : Option Nat) (x1 : Option Nat) (x3 : Int32) (x4 : Int32) (h : sk_H) : Option (sk_H) := sk_XT sk_tab sk_rec t_V d 53 (21, [some (.inr (.inr x0)), some (.inr (.inr x1)), none, some (.inl x3), some (.inl x4)], [], h)
noncomputable def c_Ru_valueOf (d : Nat) (x0 : Option Nat) (x1 : Option Nat) (h : sk_H) : Option (sk_H × Int64) := sk_XT sk_tab sk_rec t_L d 54 (0, [some (.inr (.inr x0)), some (.inr (.inr x1)), none, none], [], h)
noncomputable def k_Ru_valueOf_2 (d : Nat) (x0 : Option Nat) (x1 : Option Nat) (x2 : Int32) (h : sk_H) : Option (sk_H × Int64) := sk_XT sk_tab sk_rec t_L d 54 (2, [some (.inr (.inr x0)), some (.inr (.inr x1)), some (.inl x2), none], [], h)
noncomputable def k_Ru_valueOf_52 (d : Nat) (x0 : Option Nat) (x1 : Option Nat) (x2 : Int32) (s0 : Int32) (h : sk_H) : Option (sk_H × Int64) := sk_XT sk_tab sk_rec t_L d 54 (52, [some (.inr (.inr x0)), some (.inr (.inr x1)), some (.inl x2), none], [.inl s0], h)
noncomputable def c_Ru_reckon (d : Nat) (x0 : Option Nat) (x1 : Int32) (x2 : Int32) (x3 : Option Nat) (h : sk_H) : Option (sk_H × Int64) := sk_XT sk_tab sk_rec t_L d 55 (0, [some (.inr (.inr x0)), some (.inl x1), some (.inl x2), some (.inr (.inr x3)), none, none, none], [], h)
noncomputable def k_Ru_reckon_6 (d : Nat) (x0 : Option Nat) (x2 : Int32) (x3 : Option Nat) (x4 : Int32) (x5 : Int32) (h : sk_H) : Option (sk_H × Int64) := sk_XT sk_tab sk_rec t_L d 55 (6, [some (.inr (.inr x0)), none, some (.inl x2), some (.inr (.inr x3)), some (.inl x4), some (.inl x5), none], [], h)
noncomputable def k_Ru_reckon_81 (d : Nat) (x0 : Option Nat) (x2 : Int32) (x3 : Option Nat) (x4 : Int32) (x5 : Int32) (x6 : Int32) (h : sk_H) : Option (sk_H × Int64) := sk_XT sk_tab sk_rec t_L d 55 (81, [some (.inr (.inr x0)), none, some (.inl x2), some (.inr (.inr x3)), some (.inl x4), some (.inl x5), some (.inl x6)], [], h)
noncomputable def k_Ru_reckon_117 (d : Nat) (x0 : Option Nat) (x2 : Int32) (x3 : Option Nat) (x4 : Int32) (x5 : Int32) (x6 : Int32) (h : sk_H) : Option (sk_H × Int64) := sk_XT sk_tab sk_rec t_L d 55 (117, [some (.inr (.inr x0)), none, some (.inl x2), some (.inr (.inr x3)), some (.inl x4), some (.inl x5), some (.inl x6)], [], h)
noncomputable def c_Ru_join (d : Nat) (x0 : Int32) (x1 : Int64) (x2 : Int64) (h : sk_H) : Option (sk_H × Int64) := sk_XT sk_tab sk_rec t_L d 56 (0, [some (.inl x0), some (.inr (.inl x1)), none, some (.inr (.inl x2)), none], [], h)
noncomputable def c_RR_init (d : Nat) (x0 : Option Nat) (x1 : Option Nat) (h : sk_H) : Option (sk_H) := sk_XT sk_tab sk_rec t_V d 57 (0, [some (.inr (.inr x0)), some (.inr (.inr x1))], [], h)
noncomputable def c_RR_read (d : Nat) (x0 : Option Nat) (h : sk_H) : Option (sk_H × Option Nat) := sk_XT sk_tab sk_rec t_R d 58 (0, [some (.inr (.inr x0)), none, none], [], h)
noncomputable def k_RR_read_10 (d : Nat) (x0 : Option Nat) (x1 : Option Nat) (x2 : Int32) (h : sk_H) : Option (sk_H × Option Nat) := sk_XT sk_tab sk_rec t_R d 58 (10, [some (.inr (.inr x0)), some (.inr (.inr x1)), some (.inl x2)], [], h)
noncomputable def k_RR_read_35 (d : Nat) (x0 : Option Nat) (x1 : Option Nat) (h : sk_H) : Option (sk_H × Option Nat) := sk_XT sk_tab sk_rec t_R d 58 (35, [some (.inr (.inr x0)), some (.inr (.inr x1)), none], [], h)
noncomputable def c_RR_readClause (d : Nat) (x0 : Option Nat) (x1 : Int32) (x2 : Option Nat) (h : sk_H) : Option (sk_H) := sk_XT sk_tab sk_rec t_V d 59 (0, [some (.inr (.inr x0)), some (.inl x1), some (.inr (.inr x2)), none, none], [], h)
noncomputable def c_RR_readTest (d : Nat) (x0 : Option Nat) (x1 : Int32) (h : sk_H) : Option (sk_H) := sk_XT sk_tab sk_rec t_V d 60 (0, [some (.inr (.inr x0)), some (.inl x1), none], [], h)
noncomputable def rc_RR_readTest (d : Nat) (x0 : Option Nat) (x1 : Int32) (h : sk_H) : Option (sk_H) := sk_ty t_V (sk_call sk_rec (sk_X sk_tab sk_rec) d 60 [some (.inr (.inr x0)), some (.inl x1), none] h)
noncomputable def k_RR_readTest_7 (d : Nat) (x0 : Option Nat) (x1 : Int32) (x2 : Int32) (h : sk_H) : Option (sk_H) := sk_XT sk_tab sk_rec t_V d 60 (7, [some (.inr (.inr x0)), some (.inl x1), some (.inl x2)], [], h)
noncomputable def c_RR_readPart (d : Nat) (x0 : Option Nat) (x1 : Int32) (h : sk_H) : Option (sk_H) := sk_XT sk_tab sk_rec t_V d 61 (0, [some (.inr (.inr x0)), some (.inl x1), none], [], h)
noncomputable def rc_RR_readPart (d : Nat) (x0 : Option Nat) (x1 : Int32) (h : sk_H) : Option (sk_H) := sk_ty t_V (sk_call sk_rec (sk_X sk_tab sk_rec) d 61 [some (.inr (.inr x0)), some (.inl x1), none] h)
noncomputable def k_RR_readPart_7 (d : Nat) (x0 : Option Nat) (x1 : Int32) (x2 : Int32) (h : sk_H) : Option (sk_H) := sk_XT sk_tab sk_rec t_V d 61 (7, [some (.inr (.inr x0)), some (.inl x1), some (.inl x2)], [], h)
noncomputable def c_RR_readFact (d : Nat) (x0 : Option Nat) (x1 : Int32) (h : sk_H) : Option (sk_H) := sk_XT sk_tab sk_rec t_V d 62 (0, [some (.inr (.inr x0)), some (.inl x1), none, none], [], h)
noncomputable def rc_RR_readFact (d : Nat) (x0 : Option Nat) (x1 : Int32) (h : sk_H) : Option (sk_H) := sk_ty t_V (sk_call sk_rec (sk_X sk_tab sk_rec) d 62 [some (.inr (.inr x0)), some (.inl x1), none, none] h)
noncomputable def k_RR_readFact_36 (d : Nat) (x0 : Option Nat) (x1 : Int32) (x2 : Int32) (s0 : Int32) (h : sk_H) : Option (sk_H) := sk_XT sk_tab sk_rec t_V d 62 (36, [some (.inr (.inr x0)), some (.inl x1), some (.inl x2), none], [.inl s0], h)
noncomputable def k_RR_readFact_63 (d : Nat) (x0 : Option Nat) (x1 : Int32) (x3 : Int32) (h : sk_H) : Option (sk_H) := sk_XT sk_tab sk_rec t_V d 62 (63, [some (.inr (.inr x0)), some (.inl x1), none, some (.inl x3)], [], h)
noncomputable def c_RR_readComparison (d : Nat) (x0 : Option Nat) (h : sk_H) : Option (sk_H) := sk_XT sk_tab sk_rec t_V d 63 (0, [some (.inr (.inr x0)), none], [], h)
noncomputable def c_RR_readSign (d : Nat) (x0 : Option Nat) (h : sk_H) : Option (sk_H × Int32) := sk_XT sk_tab sk_rec t_I d 64 (0, [some (.inr (.inr x0)), none, none, none], [], h)
noncomputable def k_RR_readSign_45 (d : Nat) (x0 : Option Nat) (x1 : Int32) (x2 : Int32) (h : sk_H) : Option (sk_H × Int32) := sk_XT sk_tab sk_rec t_I d 64 (45, [some (.inr (.inr x0)), some (.inl x1), some (.inl x2), none], [], h)
noncomputable def k_RR_readSign_107 (d : Nat) (x1 : Int32) (x3 : Int32) (s0 : Int32) (s1 : Int32) (s2 : Option Nat) (h : sk_H) : Option (sk_H × Int32) := sk_XT sk_tab sk_rec t_I d 64 (107, [none, some (.inl x1), none, some (.inl x3)], [.inl s0, .inl s1, .inr (.inr s2)], h)
noncomputable def c_RR_readSum (d : Nat) (x0 : Option Nat) (h : sk_H) : Option (sk_H) := sk_XT sk_tab sk_rec t_V d 65 (0, [some (.inr (.inr x0)), none, none, none], [], h)
noncomputable def k_RR_readSum_8 (d : Nat) (x0 : Option Nat) (x1 : Int32) (x2 : Int32) (h : sk_H) : Option (sk_H) := sk_XT sk_tab sk_rec t_V d 65 (8, [some (.inr (.inr x0)), some (.inl x1), some (.inl x2), none], [], h)
noncomputable def k_RR_readSum_79 (d : Nat) (x0 : Option Nat) (x1 : Int32) (x2 : Int32) (x3 : Int32) (h : sk_H) : Option (sk_H) := sk_XT sk_tab sk_rec t_V d 65 (79, [some (.inr (.inr x0)), some (.inl x1), some (.inl x2), some (.inl x3)], [], h)
noncomputable def k_RR_readSum_100 (d : Nat) (x0 : Option Nat) (x1 : Int32) (h : sk_H) : Option (sk_H) := sk_XT sk_tab sk_rec t_V d 65 (100, [some (.inr (.inr x0)), some (.inl x1), none, none], [], h)
noncomputable def c_RR_codeOf (d : Nat) (x0 : Int32) (h : sk_H) : Option (sk_H × Int32) := sk_XT sk_tab sk_rec t_I d 66 (0, [some (.inl x0)], [], h)
noncomputable def c_RR_readValue (d : Nat) (x0 : Option Nat) (h : sk_H) : Option (sk_H) := sk_XT sk_tab sk_rec t_V d 67 (0, [some (.inr (.inr x0)), none, none, none, none], [], h)
noncomputable def c_RR_countPart (d : Nat) (x0 : Option Nat) (x1 : Int32) (h : sk_H) : Option (sk_H) := sk_XT sk_tab sk_rec t_V d 68 (0, [some (.inr (.inr x0)), some (.inl x1)], [], h)
noncomputable def c_RR_put (d : Nat) (x0 : Option Nat) (x1 : Int32) (h : sk_H) : Option (sk_H) := sk_XT sk_tab sk_rec t_V d 69 (0, [some (.inr (.inr x0)), some (.inl x1)], [], h)
noncomputable def c_St_init (d : Nat) (x0 : Option Nat) (h : sk_H) : Option (sk_H) := sk_XT sk_tab sk_rec t_V d 70 (0, [some (.inr (.inr x0))], [], h)
noncomputable def c_St_begin (d : Nat) (x0 : Option Nat) (x1 : Option Nat) (h : sk_H) : Option (sk_H) := sk_XT sk_tab sk_rec t_V d 71 (0, [some (.inr (.inr x0)), some (.inr (.inr x1))], [], h)
noncomputable def c_St_noted (d : Nat) (x0 : Option Nat) (h : sk_H) : Option (sk_H × Int32) := sk_XT sk_tab sk_rec t_I d 72 (0, [some (.inr (.inr x0))], [], h)
noncomputable def c_St_strokeNoted (d : Nat) (x0 : Option Nat) (x1 : Int32) (x2 : Int32) (h : sk_H) : Option (sk_H × Option Nat) := sk_XT sk_tab sk_rec t_R d 73 (0, [some (.inr (.inr x0)), some (.inl x1), some (.inl x2)], [], h)
noncomputable def c_St_play (d : Nat) (x0 : Option Nat) (x1 : Option Nat) (h : sk_H) : Option (sk_H) := sk_XT sk_tab sk_rec t_V d 74 (0, [some (.inr (.inr x0)), some (.inr (.inr x1))], [], h)
noncomputable def k_St_play_45 (d : Nat) (x0 : Option Nat) (x1 : Option Nat) (h : sk_H) : Option (sk_H) := sk_XT sk_tab sk_rec t_V d 74 (45, [some (.inr (.inr x0)), some (.inr (.inr x1))], [], h)
noncomputable def c_St_copyOf (d : Nat) (x0 : Option Nat) (x1 : Option Nat) (h : sk_H) : Option (sk_H) := sk_XT sk_tab sk_rec t_V d 75 (0, [some (.inr (.inr x0)), some (.inr (.inr x1)), none], [], h)
noncomputable def k_St_copyOf_42 (d : Nat) (x0 : Option Nat) (x1 : Option Nat) (x2 : Int32) (h : sk_H) : Option (sk_H) := sk_XT sk_tab sk_rec t_V d 75 (42, [some (.inr (.inr x0)), some (.inr (.inr x1)), some (.inl x2)], [], h)
noncomputable def c_Sk_init (d : Nat) (x0 : Option Nat) (x1 : Int32) (x2 : Int32) (x3 : Int32) (x4 : Int32) (x5 : Int32) (x6 : Int32) (h : sk_H) : Option (sk_H) := sk_XT sk_tab sk_rec t_V d 76 (0, [some (.inr (.inr x0)), some (.inl x1), some (.inl x2), some (.inl x3), some (.inl x4), some (.inl x5), some (.inl x6)], [], h)
noncomputable def c_Sk_hasEndIn (d : Nat) (x0 : Option Nat) (x1 : Int32) (h : sk_H) : Option (sk_H × Int32) := sk_XT sk_tab sk_rec t_I d 77 (0, [some (.inr (.inr x0)), some (.inl x1)], [], h)
noncomputable def c_Ta_init (d : Nat) (x0 : Option Nat) (h : sk_H) : Option (sk_H) := sk_XT sk_tab sk_rec t_V d 78 (0, [some (.inr (.inr x0))], [], h)
noncomputable def c_Ta_use (d : Nat) (x0 : Option Nat) (x1 : Option Nat) (h : sk_H) : Option (sk_H) := sk_XT sk_tab sk_rec t_V d 79 (0, [some (.inr (.inr x0)), some (.inr (.inr x1))], [], h)
noncomputable def k_Ta_use_62 (d : Nat) (x0 : Option Nat) (s0 : Int32) (s1 : Int32) (s2 : Option Nat) (h : sk_H) : Option (sk_H) := sk_XT sk_tab sk_rec t_V d 79 (62, [some (.inr (.inr x0)), none], [.inl s0, .inl s1, .inr (.inr s2)], h)
noncomputable def c_Ta_fillWinning (d : Nat) (x0 : Option Nat) (h : sk_H) : Option (sk_H) := sk_XT sk_tab sk_rec t_V d 80 (0, [some (.inr (.inr x0)), none, none, none, none, none, none, none, none, none, none, none], [], h)
noncomputable def k_Ta_fillWinning_2 (d : Nat) (x0 : Option Nat) (x1 : Int32) (h : sk_H) : Option (sk_H) := sk_XT sk_tab sk_rec t_V d 80 (2, [some (.inr (.inr x0)), some (.inl x1), none, none, none, none, none, none, none, none, none, none], [], h)
noncomputable def k_Ta_fillWinning_32 (d : Nat) (x0 : Option Nat) (x1 : Int32) (x2 : Int64) (x4 : Int64) (x6 : Option Nat) (x7 : Int32) (x8 : Int32) (h : sk_H) : Option (sk_H) := sk_XT sk_tab sk_rec t_V d 80 (32, [some (.inr (.inr x0)), some (.inl x1), some (.inr (.inl x2)), none, some (.inr (.inl x4)), none, some (.inr (.inr x6)), some (.inl x7), some (.inl x8), none, none, none], [], h)
noncomputable def k_Ta_fillWinning_87 (d : Nat) (x0 : Option Nat) (x1 : Int32) (x2 : Int64) (x4 : Int64) (x6 : Option Nat) (x7 : Int32) (x8 : Int32) (x9 : Option Nat) (s0 : Int64) (h : sk_H) : Option (sk_H) := sk_XT sk_tab sk_rec t_V d 80 (87, [some (.inr (.inr x0)), some (.inl x1), some (.inr (.inl x2)), none, some (.inr (.inl x4)), none, some (.inr (.inr x6)), some (.inl x7), some (.inl x8), some (.inr (.inr x9)), none, none], [.inr (.inl s0)], h)
noncomputable def c_Ta_canWin (d : Nat) (x0 : Option Nat) (x1 : Int32) (h : sk_H) : Option (sk_H × Int32) := sk_XT sk_tab sk_rec t_I d 81 (0, [some (.inr (.inr x0)), some (.inl x1)], [], h)
noncomputable def k_Ta_canWin_11 (d : Nat) (x0 : Option Nat) (x1 : Int32) (h : sk_H) : Option (sk_H × Int32) := sk_XT sk_tab sk_rec t_I d 81 (11, [some (.inr (.inr x0)), some (.inl x1)], [], h)
noncomputable def c_Ta_winsBy (d : Nat) (x0 : Option Nat) (x1 : Int32) (x2 : Option Nat) (h : sk_H) : Option (sk_H × Int32) := sk_XT sk_tab sk_rec t_I d 82 (0, [some (.inr (.inr x0)), some (.inl x1), some (.inr (.inr x2))], [], h)
noncomputable def c_Ta_lawsBehind (d : Nat) (x0 : Option Nat) (x1 : Int32) (x2 : Option Nat) (h : sk_H) : Option (sk_H × Int64) := sk_XT sk_tab sk_rec t_L d 83 (0, [some (.inr (.inr x0)), some (.inl x1), some (.inr (.inr x2)), none, none], [], h)
noncomputable def k_Ta_lawsBehind_34 (d : Nat) (x0 : Option Nat) (x1 : Int32) (x2 : Option Nat) (s0 : Int64) (h : sk_H) : Option (sk_H × Int64) := sk_XT sk_tab sk_rec t_L d 83 (34, [some (.inr (.inr x0)), some (.inl x1), some (.inr (.inr x2)), none, none], [.inr (.inl s0)], h)
noncomputable def c_Ta_fillLengths (d : Nat) (x0 : Option Nat) (h : sk_H) : Option (sk_H) := sk_XT sk_tab sk_rec t_V d 84 (0, [some (.inr (.inr x0)), none, none, none, none, none, none, none, none, none], [], h)
noncomputable def k_Ta_fillLengths_2 (d : Nat) (x0 : Option Nat) (x1 : Int32) (h : sk_H) : Option (sk_H) := sk_XT sk_tab sk_rec t_V d 84 (2, [some (.inr (.inr x0)), some (.inl x1), none, none, none, none, none, none, none, none], [], h)
noncomputable def k_Ta_fillLengths_35 (d : Nat) (x0 : Option Nat) (x1 : Int32) (x2 : Int32) (x3 : Int32) (x4 : Option Nat) (x5 : Int32) (x6 : Int32) (h : sk_H) : Option (sk_H) := sk_XT sk_tab sk_rec t_V d 84 (35, [some (.inr (.inr x0)), some (.inl x1), some (.inl x2), some (.inl x3), some (.inr (.inr x4)), some (.inl x5), some (.inl x6), none, none, none], [], h)
noncomputable def k_Ta_fillLengths_76 (d : Nat) (x0 : Option Nat) (x1 : Int32) (x2 : Int32) (x3 : Int32) (x4 : Option Nat) (x5 : Int32) (x6 : Int32) (x7 : Option Nat) (h : sk_H) : Option (sk_H) := sk_XT sk_tab sk_rec t_V d 84 (76, [some (.inr (.inr x0)), some (.inl x1), some (.inl x2), some (.inl x3), some (.inr (.inr x4)), some (.inl x5), some (.inl x6), some (.inr (.inr x7)), none, none], [], h)
noncomputable def k_Ta_fillLengths_123 (d : Nat) (x0 : Option Nat) (x1 : Int32) (x2 : Int32) (x3 : Int32) (x4 : Option Nat) (x5 : Int32) (x6 : Int32) (x8 : Int32) (s0 : Int32) (h : sk_H) : Option (sk_H) := sk_XT sk_tab sk_rec t_V d 84 (123, [some (.inr (.inr x0)), some (.inl x1), some (.inl x2), some (.inl x3), some (.inr (.inr x4)), some (.inl x5), some (.inl x6), none, some (.inl x8), none], [.inl s0], h)
noncomputable def c_Ta_lengthAt (d : Nat) (x0 : Option Nat) (x1 : Int32) (h : sk_H) : Option (sk_H × Int32) := sk_XT sk_tab sk_rec t_I d 85 (0, [some (.inr (.inr x0)), some (.inl x1)], [], h)
noncomputable def c_Ta_fillPlayCounts (d : Nat) (x0 : Option Nat) (h : sk_H) : Option (sk_H) := sk_XT sk_tab sk_rec t_V d 86 (0, [some (.inr (.inr x0)), none, none, none, none, none, none, none, none], [], h)
noncomputable def k_Ta_fillPlayCounts_2 (d : Nat) (x0 : Option Nat) (x1 : Int32) (h : sk_H) : Option (sk_H) := sk_XT sk_tab sk_rec t_V d 86 (2, [some (.inr (.inr x0)), some (.inl x1), none, none, none, none, none, none, none], [], h)
noncomputable def k_Ta_fillPlayCounts_31 (d : Nat) (x0 : Option Nat) (x1 : Int32) (x2 : Int32) (x3 : Int64) (x5 : Option Nat) (x6 : Int32) (x7 : Int32) (h : sk_H) : Option (sk_H) := sk_XT sk_tab sk_rec t_V d 86 (31, [some (.inr (.inr x0)), some (.inl x1), some (.inl x2), some (.inr (.inl x3)), none, some (.inr (.inr x5)), some (.inl x6), some (.inl x7), none], [], h)
noncomputable def c_Ta_playsAt (d : Nat) (x0 : Option Nat) (x1 : Int32) (h : sk_H) : Option (sk_H × Int32) := sk_XT sk_tab sk_rec t_I d 87 (0, [some (.inr (.inr x0)), some (.inl x1)], [], h)
noncomputable def c_Ta_fillChances (d : Nat) (x0 : Option Nat) (h : sk_H) : Option (sk_H) := sk_XT sk_tab sk_rec t_V d 88 (0, [some (.inr (.inr x0)), none, none, none, none, none, none, none, none, none, none], [], h)
noncomputable def k_Ta_fillChances_20 (d : Nat) (x0 : Option Nat) (x1 : Int32) (x2 : Int32) (h : sk_H) : Option (sk_H) := sk_XT sk_tab sk_rec t_V d 88 (20, [some (.inr (.inr x0)), some (.inl x1), some (.inl x2), none, none, none, none, none, none, none, none], [], h)
noncomputable def k_Ta_fillChances_47 (d : Nat) (x0 : Option Nat) (x1 : Int32) (x2 : Int32) (x3 : Int32) (x4 : Option Nat) (x5 : Int32) (x6 : Int32) (h : sk_H) : Option (sk_H) := sk_XT sk_tab sk_rec t_V d 88 (47, [some (.inr (.inr x0)), some (.inl x1), some (.inl x2), some (.inl x3), some (.inr (.inr x4)), some (.inl x5), some (.inl x6), none, none, none, none], [], h)
noncomputable def c_Ta_chanceAt (d : Nat) (x0 : Option Nat) (x1 : Int32) (h : sk_H) : Option (sk_H × Int32) := sk_XT sk_tab sk_rec t_I d 89 (0, [some (.inr (.inr x0)), some (.inl x1)], [], h)
noncomputable def c_Ta_fillClever (d : Nat) (x0 : Option Nat) (h : sk_H) : Option (sk_H) := sk_XT sk_tab sk_rec t_V d 90 (0, [some (.inr (.inr x0)), none, none, none, none, none, none, none, none, none], [], h)
noncomputable def k_Ta_fillClever_20 (d : Nat) (x0 : Option Nat) (x1 : Int32) (x2 : Int32) (h : sk_H) : Option (sk_H) := sk_XT sk_tab sk_rec t_V d 90 (20, [some (.inr (.inr x0)), some (.inl x1), some (.inl x2), none, none, none, none, none, none, none], [], h)
noncomputable def k_Ta_fillClever_53 (d : Nat) (x0 : Option Nat) (x1 : Int32) (x2 : Int32) (x3 : Int32) (x4 : Int32) (x5 : Int32) (x6 : Option Nat) (x7 : Int32) (x8 : Int32) (h : sk_H) : Option (sk_H) := sk_XT sk_tab sk_rec t_V d 90 (53, [some (.inr (.inr x0)), some (.inl x1), some (.inl x2), some (.inl x3), some (.inl x4), some (.inl x5), some (.inr (.inr x6)), some (.inl x7), some (.inl x8), none], [], h)
noncomputable def k_Ta_fillClever_142 (d : Nat) (x0 : Option Nat) (x1 : Int32) (x2 : Int32) (x4 : Int32) (x5 : Int32) (s0 : Int32) (s1 : Int32) (s2 : Option Nat) (h : sk_H) : Option (sk_H) := sk_XT sk_tab sk_rec t_V d 90 (142, [some (.inr (.inr x0)), some (.inl x1), some (.inl x2), none, some (.inl x4), some (.inl x5), none, none, none, none], [.inl s0, .inl s1, .inr (.inr s2)], h)
noncomputable def c_Ta_childAt (d : Nat) (x0 : Option Nat) (x1 : Int32) (h : sk_H) : Option (sk_H × Int32) := sk_XT sk_tab sk_rec t_I d 91 (0, [some (.inr (.inr x0)), some (.inl x1)], [], h)
noncomputable def c_SR_init (d : Nat) (x0 : Option Nat) (h : sk_H) : Option (sk_H) := sk_XT sk_tab sk_rec t_V d 92 (0, [some (.inr (.inr x0))], [], h)
noncomputable def c_SR_feed (d : Nat) (x0 : Option Nat) (x1 : Int32) (x2 : Int32) (x3 : Int32) (x4 : Int32) (x5 : Int32) (h : sk_H) : Option (sk_H × Int32) := sk_XT sk_tab sk_rec t_I d 93 (0, [some (.inr (.inr x0)), some (.inl x1), some (.inl x2), some (.inl x3), some (.inl x4), some (.inl x5)], [], h)
noncomputable def c_SR_putBytes (d : Nat) (x0 : Option Nat) (x1 : Int32) (h : sk_H) : Option (sk_H) := sk_XT sk_tab sk_rec t_V d 94 (0, [some (.inr (.inr x0)), some (.inl x1), none], [], h)
noncomputable def k_SR_putBytes_3 (d : Nat) (x0 : Option Nat) (x1 : Int32) (x2 : Int32) (h : sk_H) : Option (sk_H) := sk_XT sk_tab sk_rec t_V d 94 (3, [some (.inr (.inr x0)), some (.inl x1), some (.inl x2)], [], h)
noncomputable def c_SR_end (d : Nat) (x0 : Option Nat) (x1 : Int32) (h : sk_H) : Option (sk_H × Int32) := sk_XT sk_tab sk_rec t_I d 95 (0, [some (.inr (.inr x0)), some (.inl x1)], [], h)
noncomputable def c_SR_alley (d : Nat) (x0 : Option Nat) (h : sk_H) : Option (sk_H × Int32) := sk_XT sk_tab sk_rec t_I d 96 (0, [some (.inr (.inr x0)), none, none], [], h)
noncomputable def c_SR_rule (d : Nat) (x0 : Option Nat) (h : sk_H) : Option (sk_H × Int32) := sk_XT sk_tab sk_rec t_I d 97 (0, [some (.inr (.inr x0)), none, none], [], h)
noncomputable def c_SR_place (d : Nat) (x0 : Option Nat) (x1 : Int32) (x2 : Int32) (h : sk_H) : Option (sk_H × Int32) := sk_XT sk_tab sk_rec t_I d 98 (0, [some (.inr (.inr x0)), some (.inl x1), some (.inl x2), none], [], h)
noncomputable def c_SR_can (d : Nat) (x0 : Option Nat) (x1 : Int32) (x2 : Int32) (h : sk_H) : Option (sk_H × Int32) := sk_XT sk_tab sk_rec t_I d 99 (0, [some (.inr (.inr x0)), some (.inl x1), some (.inl x2), none], [], h)
noncomputable def c_SR_stroke (d : Nat) (x0 : Option Nat) (x1 : Int32) (x2 : Int32) (h : sk_H) : Option (sk_H × Int32) := sk_XT sk_tab sk_rec t_I d 100 (0, [some (.inr (.inr x0)), some (.inl x1), some (.inl x2), none], [], h)
noncomputable def c_SR_up (d : Nat) (x0 : Option Nat) (x1 : Int32) (h : sk_H) : Option (sk_H × Int32) := sk_XT sk_tab sk_rec t_I d 101 (0, [some (.inr (.inr x0)), some (.inl x1)], [], h)
noncomputable def c_SR_pass (d : Nat) (x0 : Option Nat) (h : sk_H) : Option (sk_H × Int32) := sk_XT sk_tab sk_rec t_I d 102 (0, [some (.inr (.inr x0))], [], h)
noncomputable def c_SR_undo (d : Nat) (x0 : Option Nat) (h : sk_H) : Option (sk_H × Int32) := sk_XT sk_tab sk_rec t_I d 103 (0, [some (.inr (.inr x0))], [], h)
noncomputable def c_SR_won (d : Nat) (x0 : Option Nat) (h : sk_H) : Option (sk_H × Int32) := sk_XT sk_tab sk_rec t_I d 104 (0, [some (.inr (.inr x0))], [], h)
noncomputable def c_SR_wins (d : Nat) (x0 : Option Nat) (x1 : Int32) (h : sk_H) : Option (sk_H × Int32) := sk_XT sk_tab sk_rec t_I d 105 (0, [some (.inr (.inr x0)), some (.inl x1), none, none, none, none, none, none], [], h)
noncomputable def k_SR_wins_45 (d : Nat) (x0 : Option Nat) (x1 : Int32) (x2 : Int32) (x3 : Option Nat) (x4 : Option Nat) (x5 : Int32) (x6 : Int32) (h : sk_H) : Option (sk_H × Int32) := sk_XT sk_tab sk_rec t_I d 105 (45, [some (.inr (.inr x0)), some (.inl x1), some (.inl x2), some (.inr (.inr x3)), some (.inr (.inr x4)), some (.inl x5), some (.inl x6), none], [], h)
noncomputable def c_SR_worth (d : Nat) (x0 : Option Nat) (x1 : Int32) (h : sk_H) : Option (sk_H × Int32) := sk_XT sk_tab sk_rec t_I d 106 (0, [some (.inr (.inr x0)), some (.inl x1)], [], h)
noncomputable def c_SR_plain (d : Nat) (x0 : Option Nat) (x1 : Int32) (h : sk_H) : Option (sk_H × Int32) := sk_XT sk_tab sk_rec t_I d 107 (0, [some (.inr (.inr x0)), some (.inl x1)], [], h)
noncomputable def c_SR_again (d : Nat) (x0 : Option Nat) (x1 : Int32) (h : sk_H) : Option (sk_H × Int32) := sk_XT sk_tab sk_rec t_I d 108 (0, [some (.inr (.inr x0)), some (.inl x1), none, none], [], h)
noncomputable def k_SR_again_23 (d : Nat) (x0 : Option Nat) (x1 : Int32) (x2 : Int32) (h : sk_H) : Option (sk_H × Int32) := sk_XT sk_tab sk_rec t_I d 108 (23, [some (.inr (.inr x0)), some (.inl x1), some (.inl x2), none], [], h)
noncomputable def c_SR_lasts (d : Nat) (x0 : Option Nat) (h : sk_H) : Option (sk_H × Int32) := sk_XT sk_tab sk_rec t_I d 109 (0, [some (.inr (.inr x0))], [], h)
noncomputable def c_SR_plays (d : Nat) (x0 : Option Nat) (h : sk_H) : Option (sk_H × Int32) := sk_XT sk_tab sk_rec t_I d 110 (0, [some (.inr (.inr x0))], [], h)
noncomputable def c_SR_fair (d : Nat) (x0 : Option Nat) (x1 : Int32) (h : sk_H) : Option (sk_H × Int32) := sk_XT sk_tab sk_rec t_I d 111 (0, [some (.inr (.inr x0)), some (.inl x1), none], [], h)
noncomputable def c_SR_fairSet (d : Nat) (x0 : Option Nat) (h : sk_H) : Option (sk_H × Int32) := sk_XT sk_tab sk_rec t_I d 112 (0, [some (.inr (.inr x0)), none, none, none, none], [], h)
noncomputable def k_SR_fairSet_19 (d : Nat) (x0 : Option Nat) (x1 : Int32) (x2 : Int32) (x3 : Int32) (h : sk_H) : Option (sk_H × Int32) := sk_XT sk_tab sk_rec t_I d 112 (19, [some (.inr (.inr x0)), some (.inl x1), some (.inl x2), some (.inl x3), none], [], h)
noncomputable def k_SR_fairSet_49 (d : Nat) (x0 : Option Nat) (x1 : Int32) (x2 : Int32) (x3 : Int32) (s0 : Int32) (h : sk_H) : Option (sk_H × Int32) := sk_XT sk_tab sk_rec t_I d 112 (49, [some (.inr (.inr x0)), some (.inl x1), some (.inl x2), some (.inl x3), none], [.inl s0], h)
noncomputable def c_SR_chance (d : Nat) (x0 : Option Nat) (h : sk_H) : Option (sk_H × Int32) := sk_XT sk_tab sk_rec t_I d 113 (0, [some (.inr (.inr x0))], [], h)
noncomputable def c_SR_child (d : Nat) (x0 : Option Nat) (h : sk_H) : Option (sk_H × Int32) := sk_XT sk_tab sk_rec t_I d 114 (0, [some (.inr (.inr x0))], [], h)
noncomputable def c_SR_match (d : Nat) (x0 : Option Nat) (x1 : Int32) (x2 : Int32) (x3 : Int32) (h : sk_H) : Option (sk_H × Int32) := sk_XT sk_tab sk_rec t_I d 115 (0, [some (.inr (.inr x0)), some (.inl x1), some (.inl x2), some (.inl x3)], [], h)
noncomputable def c_SR_isRule (d : Nat) (x0 : Option Nat) (x1 : Int32) (h : sk_H) : Option (sk_H × Int32) := sk_XT sk_tab sk_rec t_I d 116 (0, [some (.inr (.inr x0)), some (.inl x1)], [], h)
noncomputable def c_SR_knew (d : Nat) (x0 : Option Nat) (x1 : Int32) (x2 : Int32) (h : sk_H) : Option (sk_H × Int32) := sk_XT sk_tab sk_rec t_I d 117 (0, [some (.inr (.inr x0)), some (.inl x1), some (.inl x2), none, none, none, none, none, none, none], [], h)
noncomputable def k_SR_knew_44 (d : Nat) (x0 : Option Nat) (x1 : Int32) (x2 : Int32) (x3 : Int32) (x4 : Int32) (x5 : Int32) (x6 : Int32) (x7 : Int32) (h : sk_H) : Option (sk_H × Int32) := sk_XT sk_tab sk_rec t_I d 117 (44, [some (.inr (.inr x0)), some (.inl x1), some (.inl x2), some (.inl x3), some (.inl x4), some (.inl x5), some (.inl x6), some (.inl x7), none, none], [], h)
noncomputable def c_SR_law (d : Nat) (x0 : Option Nat) (x1 : Int32) (x2 : Int32) (h : sk_H) : Option (sk_H × Int32) := sk_XT sk_tab sk_rec t_I d 118 (0, [some (.inr (.inr x0)), some (.inl x1), some (.inl x2), none, none, none, none], [], h)
noncomputable def k_SR_law_37 (d : Nat) (x0 : Option Nat) (x1 : Int32) (x2 : Int32) (x3 : Int64) (x5 : Int32) (h : sk_H) : Option (sk_H × Int32) := sk_XT sk_tab sk_rec t_I d 118 (37, [some (.inr (.inr x0)), some (.inl x1), some (.inl x2), some (.inr (.inl x3)), none, some (.inl x5), none], [], h)
noncomputable def c_SR_seed (d : Nat) (x0 : Option Nat) (x1 : Int32) (h : sk_H) : Option (sk_H × Int32) := sk_XT sk_tab sk_rec t_I d 119 (0, [some (.inr (.inr x0)), some (.inl x1), none], [], h)
noncomputable def c_SR_games (d : Nat) (x0 : Option Nat) (x1 : Int32) (x2 : Int32) (h : sk_H) : Option (sk_H × Int32) := sk_XT sk_tab sk_rec t_I d 120 (0, [some (.inr (.inr x0)), some (.inl x1), some (.inl x2)], [], h)
noncomputable def c_SR_against (d : Nat) (x0 : Option Nat) (x1 : Int32) (x2 : Int32) (x3 : Int32) (h : sk_H) : Option (sk_H × Int32) := sk_XT sk_tab sk_rec t_I d 121 (0, [some (.inr (.inr x0)), some (.inl x1), some (.inl x2), some (.inl x3)], [], h)
noncomputable def c_SR_count (d : Nat) (x0 : Option Nat) (x1 : Int32) (h : sk_H) : Option (sk_H × Int32) := sk_XT sk_tab sk_rec t_I d 122 (0, [some (.inr (.inr x0)), some (.inl x1)], [], h)
noncomputable def k_SR_count_35 (d : Nat) (x0 : Option Nat) (x1 : Int32) (h : sk_H) : Option (sk_H × Int32) := sk_XT sk_tab sk_rec t_I d 122 (35, [some (.inr (.inr x0)), some (.inl x1)], [], h)
noncomputable def c_SR_image (d : Nat) (x0 : Option Nat) (x1 : Int32) (h : sk_H) : Option (sk_H × Int32) := sk_XT sk_tab sk_rec t_I d 123 (0, [some (.inr (.inr x0)), some (.inl x1)], [], h)
noncomputable def c_SR_back (d : Nat) (x0 : Option Nat) (x1 : Int32) (h : sk_H) : Option (sk_H × Int32) := sk_XT sk_tab sk_rec t_I d 124 (0, [some (.inr (.inr x0)), some (.inl x1)], [], h)
noncomputable def c_M_init (d : Nat) (x0 : Option Nat) (h : sk_H) : Option (sk_H) := sk_XT sk_tab sk_rec t_V d 125 (0, [some (.inr (.inr x0))], [], h)
noncomputable def c_M_in (d : Nat) (x0 : Int64) (x1 : Int64) (x2 : Int64) (h : sk_H) : Option (sk_H × Int32) := sk_XT sk_tab sk_rec t_I d 126 (0, [some (.inr (.inl x0)), none, some (.inr (.inl x1)), none, some (.inr (.inl x2)), none], [], h)
noncomputable def c_M_isOf (d : Nat) (x0 : Int32) (x1 : Int32) (h : sk_H) : Option (sk_H × Int32) := sk_XT sk_tab sk_rec t_I d 127 (0, [some (.inl x0), some (.inl x1)], [], h)
noncomputable def c_M_bits (d : Nat) (x0 : Int32) (h : sk_H) : Option (sk_H × Int32) := sk_XT sk_tab sk_rec t_I d 128 (0, [some (.inl x0), none, none], [], h)
noncomputable def k_M_bits_4 (d : Nat) (x1 : Int32) (x2 : Int32) (h : sk_H) : Option (sk_H × Int32) := sk_XT sk_tab sk_rec t_I d 128 (4, [none, some (.inl x1), some (.inl x2)], [], h)
noncomputable def c_M_four (d : Nat) (x0 : Option Nat) (x1 : Int32) (h : sk_H) : Option (sk_H) := sk_XT sk_tab sk_rec t_V d 129 (0, [some (.inr (.inr x0)), some (.inl x1), none], [], h)
noncomputable def k_M_four_3 (d : Nat) (x0 : Option Nat) (x1 : Int32) (x2 : Int32) (h : sk_H) : Option (sk_H) := sk_XT sk_tab sk_rec t_V d 129 (3, [some (.inr (.inr x0)), some (.inl x1), some (.inl x2)], [], h)
noncomputable def c_M_feed (d : Nat) (x0 : Option Nat) (x1 : Int32) (x2 : Int32) (x3 : Int32) (x4 : Int32) (x5 : Int32) (h : sk_H) : Option (sk_H × Int32) := sk_XT sk_tab sk_rec t_I d 130 (0, [some (.inr (.inr x0)), some (.inl x1), some (.inl x2), some (.inl x3), some (.inl x4), some (.inl x5)], [], h)
noncomputable def c_M_end (d : Nat) (x0 : Option Nat) (x1 : Int32) (h : sk_H) : Option (sk_H × Int32) := sk_XT sk_tab sk_rec t_I d 131 (0, [some (.inr (.inr x0)), some (.inl x1)], [], h)
noncomputable def c_M_fails (d : Nat) (x0 : Option Nat) (x1 : Int32) (x2 : Int32) (h : sk_H) : Option (sk_H × Int32) := sk_XT sk_tab sk_rec t_I d 132 (0, [some (.inr (.inr x0)), some (.inl x1), some (.inl x2)], [], h)
noncomputable def c_M_see (d : Nat) (x0 : Option Nat) (h : sk_H) : Option (sk_H × Int32) := sk_XT sk_tab sk_rec t_I d 133 (0, [some (.inr (.inr x0))], [], h)
noncomputable def k_M_see_0 (d : Nat) (x0 : Option Nat) (h : sk_H) : Option (sk_H × Int32) := sk_XT sk_tab sk_rec t_I d 133 (0, [some (.inr (.inr x0))], [], h)
noncomputable def k_M_see_38 (d : Nat) (x0 : Option Nat) (h : sk_H) : Option (sk_H × Int32) := sk_XT sk_tab sk_rec t_I d 133 (38, [some (.inr (.inr x0))], [], h)
noncomputable def c_M_isDigit (d : Nat) (x0 : Option Nat) (x1 : Int32) (h : sk_H) : Option (sk_H × Int32) := sk_XT sk_tab sk_rec t_I d 134 (0, [some (.inr (.inr x0)), some (.inl x1)], [], h)
noncomputable def c_M_isLetter (d : Nat) (x0 : Option Nat) (x1 : Int32) (h : sk_H) : Option (sk_H × Int32) := sk_XT sk_tab sk_rec t_I d 135 (0, [some (.inr (.inr x0)), some (.inl x1)], [], h)
noncomputable def c_M_isWord (d : Nat) (x0 : Option Nat) (x1 : Int64) (h : sk_H) : Option (sk_H × Int32) := sk_XT sk_tab sk_rec t_I d 136 (0, [some (.inr (.inr x0)), some (.inr (.inl x1)), none, none, none, none], [], h)
noncomputable def k_M_isWord_10 (d : Nat) (x0 : Option Nat) (x1 : Int64) (x3 : Int64) (x5 : Int32) (h : sk_H) : Option (sk_H × Int32) := sk_XT sk_tab sk_rec t_I d 136 (10, [some (.inr (.inr x0)), some (.inr (.inl x1)), none, some (.inr (.inl x3)), none, some (.inl x5)], [], h)
noncomputable def c_M_passWord (d : Nat) (x0 : Option Nat) (h : sk_H) : Option (sk_H) := sk_XT sk_tab sk_rec t_V d 137 (0, [some (.inr (.inr x0))], [], h)
noncomputable def k_M_passWord_0 (d : Nat) (x0 : Option Nat) (h : sk_H) : Option (sk_H) := sk_XT sk_tab sk_rec t_V d 137 (0, [some (.inr (.inr x0))], [], h)
noncomputable def c_M_takesWord (d : Nat) (x0 : Option Nat) (x1 : Int64) (h : sk_H) : Option (sk_H × Int32) := sk_XT sk_tab sk_rec t_I d 138 (0, [some (.inr (.inr x0)), some (.inr (.inl x1)), none], [], h)
noncomputable def c_M_numberHere (d : Nat) (x0 : Option Nat) (x1 : Int32) (x2 : Int32) (h : sk_H) : Option (sk_H × Int32) := sk_XT sk_tab sk_rec t_I d 139 (0, [some (.inr (.inr x0)), some (.inl x1), some (.inl x2), none, none], [], h)
noncomputable def k_M_numberHere_34 (d : Nat) (x0 : Option Nat) (x1 : Int32) (x2 : Int32) (x3 : Int32) (x4 : Int32) (h : sk_H) : Option (sk_H × Int32) := sk_XT sk_tab sk_rec t_I d 139 (34, [some (.inr (.inr x0)), some (.inl x1), some (.inl x2), some (.inl x3), some (.inl x4)], [], h)
noncomputable def c_M_wordHere (d : Nat) (x0 : Option Nat) (h : sk_H) : Option (sk_H × Int32) := sk_XT sk_tab sk_rec t_I d 140 (0, [some (.inr (.inr x0))], [], h)
noncomputable def c_M_puts (d : Nat) (x0 : Option Nat) (x1 : Int32) (x2 : Int32) (h : sk_H) : Option (sk_H) := sk_XT sk_tab sk_rec t_V d 141 (0, [some (.inr (.inr x0)), some (.inl x1), some (.inl x2)], [], h)
noncomputable def c_M_makes (d : Nat) (x0 : Option Nat) (x1 : Int32) (h : sk_H) : Option (sk_H × Int32) := sk_XT sk_tab sk_rec t_I d 142 (0, [some (.inr (.inr x0)), some (.inl x1)], [], h)
noncomputable def c_M_opens (d : Nat) (x0 : Option Nat) (x1 : Int32) (h : sk_H) : Option (sk_H × Int32) := sk_XT sk_tab sk_rec t_I d 143 (0, [some (.inr (.inr x0)), some (.inl x1)], [], h)
noncomputable def c_M_strength (d : Nat) (x0 : Int32) (h : sk_H) : Option (sk_H × Int32) := sk_XT sk_tab sk_rec t_I d 144 (0, [some (.inl x0)], [], h)
noncomputable def c_M_settles (d : Nat) (x0 : Option Nat) (x1 : Int32) (h : sk_H) : Option (sk_H) := sk_XT sk_tab sk_rec t_V d 145 (0, [some (.inr (.inr x0)), some (.inl x1)], [], h)
noncomputable def k_M_settles_0 (d : Nat) (x0 : Option Nat) (x1 : Int32) (h : sk_H) : Option (sk_H) := sk_XT sk_tab sk_rec t_V d 145 (0, [some (.inr (.inr x0)), some (.inl x1)], [], h)
noncomputable def c_M_value (d : Nat) (x0 : Option Nat) (h : sk_H) : Option (sk_H × Int32) := sk_XT sk_tab sk_rec t_I d 146 (0, [some (.inr (.inr x0)), none, none], [], h)
noncomputable def c_M_term (d : Nat) (x0 : Option Nat) (h : sk_H) : Option (sk_H × Int32) := sk_XT sk_tab sk_rec t_I d 147 (0, [some (.inr (.inr x0)), none], [], h)
noncomputable def k_M_term_9 (d : Nat) (x0 : Option Nat) (h : sk_H) : Option (sk_H × Int32) := sk_XT sk_tab sk_rec t_I d 147 (9, [some (.inr (.inr x0)), none], [], h)
noncomputable def k_M_term_36 (d : Nat) (x0 : Option Nat) (h : sk_H) : Option (sk_H × Int32) := sk_XT sk_tab sk_rec t_I d 147 (36, [some (.inr (.inr x0)), none], [], h)
noncomputable def k_M_term_74 (d : Nat) (x0 : Option Nat) (s0 : Int32) (h : sk_H) : Option (sk_H × Int32) := sk_XT sk_tab sk_rec t_I d 147 (74, [some (.inr (.inr x0)), none], [.inl s0], h)
noncomputable def c_M_sum (d : Nat) (x0 : Option Nat) (h : sk_H) : Option (sk_H × Int32) := sk_XT sk_tab sk_rec t_I d 148 (0, [some (.inr (.inr x0)), none], [], h)
noncomputable def k_M_sum_9 (d : Nat) (x0 : Option Nat) (h : sk_H) : Option (sk_H × Int32) := sk_XT sk_tab sk_rec t_I d 148 (9, [some (.inr (.inr x0)), none], [], h)
noncomputable def k_M_sum_46 (d : Nat) (x0 : Option Nat) (s0 : Int32) (h : sk_H) : Option (sk_H × Int32) := sk_XT sk_tab sk_rec t_I d 148 (46, [some (.inr (.inr x0)), none], [.inl s0], h)
noncomputable def c_M_compare (d : Nat) (x0 : Option Nat) (h : sk_H) : Option (sk_H × Int32) := sk_XT sk_tab sk_rec t_I d 149 (0, [some (.inr (.inr x0)), none, none, none, none], [], h)
noncomputable def k_M_compare_44 (d : Nat) (x0 : Option Nat) (x1 : Int32) (x2 : Int32) (h : sk_H) : Option (sk_H × Int32) := sk_XT sk_tab sk_rec t_I d 149 (44, [some (.inr (.inr x0)), some (.inl x1), some (.inl x2), none, none], [], h)
noncomputable def k_M_compare_89 (d : Nat) (x0 : Option Nat) (x1 : Int32) (x2 : Int32) (h : sk_H) : Option (sk_H × Int32) := sk_XT sk_tab sk_rec t_I d 149 (89, [some (.inr (.inr x0)), some (.inl x1), some (.inl x2), none, none], [], h)
noncomputable def k_M_compare_105 (d : Nat) (x0 : Option Nat) (x1 : Int32) (x2 : Int32) (x3 : Int32) (h : sk_H) : Option (sk_H × Int32) := sk_XT sk_tab sk_rec t_I d 149 (105, [some (.inr (.inr x0)), some (.inl x1), some (.inl x2), some (.inl x3), none], [], h)
noncomputable def k_M_compare_152 (d : Nat) (x0 : Option Nat) (s0 : Int32) (h : sk_H) : Option (sk_H × Int32) := sk_XT sk_tab sk_rec t_I d 149 (152, [some (.inr (.inr x0)), none, none, none, none], [.inl s0], h)
noncomputable def c_M_fact (d : Nat) (x0 : Option Nat) (h : sk_H) : Option (sk_H × Int32) := sk_XT sk_tab sk_rec t_I d 150 (0, [some (.inr (.inr x0)), none, none], [], h)
noncomputable def k_M_fact_2 (d : Nat) (x0 : Option Nat) (x1 : Int32) (h : sk_H) : Option (sk_H × Int32) := sk_XT sk_tab sk_rec t_I d 150 (2, [some (.inr (.inr x0)), some (.inl x1), none], [], h)
noncomputable def c_M_isInside (d : Nat) (x0 : Option Nat) (h : sk_H) : Option (sk_H × Int32) := sk_XT sk_tab sk_rec t_I d 151 (0, [some (.inr (.inr x0)), none], [], h)
noncomputable def k_M_isInside_2 (d : Nat) (x0 : Option Nat) (x1 : Int32) (h : sk_H) : Option (sk_H × Int32) := sk_XT sk_tab sk_rec t_I d 151 (2, [some (.inr (.inr x0)), some (.inl x1)], [], h)
noncomputable def c_M_closes (d : Nat) (x0 : Option Nat) (h : sk_H) : Option (sk_H) := sk_XT sk_tab sk_rec t_V d 152 (0, [some (.inr (.inr x0))], [], h)
noncomputable def k_M_closes_5 (d : Nat) (x0 : Option Nat) (h : sk_H) : Option (sk_H) := sk_XT sk_tab sk_rec t_V d 152 (5, [some (.inr (.inr x0))], [], h)
noncomputable def c_M_tested (d : Nat) (x0 : Option Nat) (h : sk_H) : Option (sk_H × Int32) := sk_XT sk_tab sk_rec t_I d 153 (0, [some (.inr (.inr x0)), none, none], [], h)
noncomputable def k_M_tested_12 (d : Nat) (x0 : Option Nat) (x1 : Int32) (h : sk_H) : Option (sk_H × Int32) := sk_XT sk_tab sk_rec t_I d 153 (12, [some (.inr (.inr x0)), some (.inl x1), none], [], h)
noncomputable def k_M_tested_76 (d : Nat) (x0 : Option Nat) (x1 : Int32) (s0 : Int32) (h : sk_H) : Option (sk_H × Int32) := sk_XT sk_tab sk_rec t_I d 153 (76, [some (.inr (.inr x0)), some (.inl x1), none], [.inl s0], h)
noncomputable def c_M_isStrokeHere (d : Nat) (x0 : Option Nat) (h : sk_H) : Option (sk_H × Int32) := sk_XT sk_tab sk_rec t_I d 154 (0, [some (.inr (.inr x0)), none], [], h)
noncomputable def k_M_isStrokeHere_110 (d : Nat) (x0 : Option Nat) (x1 : Int32) (h : sk_H) : Option (sk_H × Int32) := sk_XT sk_tab sk_rec t_I d 154 (110, [some (.inr (.inr x0)), some (.inl x1)], [], h)
noncomputable def c_M_isAlleyHere (d : Nat) (x0 : Option Nat) (x1 : Int32) (h : sk_H) : Option (sk_H × Int32) := sk_XT sk_tab sk_rec t_I d 155 (0, [some (.inr (.inr x0)), some (.inl x1)], [], h)
noncomputable def c_M_isPlaceHere (d : Nat) (x0 : Option Nat) (h : sk_H) : Option (sk_H × Int32) := sk_XT sk_tab sk_rec t_I d 156 (0, [some (.inr (.inr x0))], [], h)
noncomputable def c_M_isRowHere (d : Nat) (x0 : Option Nat) (x1 : Int32) (h : sk_H) : Option (sk_H × Int32) := sk_XT sk_tab sk_rec t_I d 157 (0, [some (.inr (.inr x0)), some (.inl x1), none], [], h)
noncomputable def k_M_isRowHere_85 (d : Nat) (x0 : Option Nat) (x2 : Int32) (h : sk_H) : Option (sk_H × Int32) := sk_XT sk_tab sk_rec t_I d 157 (85, [some (.inr (.inr x0)), none, some (.inl x2)], [], h)
noncomputable def k_M_isRowHere_145 (d : Nat) (x0 : Option Nat) (x2 : Int32) (h : sk_H) : Option (sk_H × Int32) := sk_XT sk_tab sk_rec t_I d 157 (145, [some (.inr (.inr x0)), none, some (.inl x2)], [], h)
noncomputable def c_M_isRingHere (d : Nat) (x0 : Option Nat) (h : sk_H) : Option (sk_H × Int32) := sk_XT sk_tab sk_rec t_I d 158 (0, [some (.inr (.inr x0)), none], [], h)
noncomputable def c_M_isHitHere (d : Nat) (x0 : Option Nat) (h : sk_H) : Option (sk_H × Int32) := sk_XT sk_tab sk_rec t_I d 159 (0, [some (.inr (.inr x0))], [], h)
noncomputable def c_M_isOnceHere (d : Nat) (x0 : Option Nat) (x1 : Int32) (x2 : Int32) (h : sk_H) : Option (sk_H × Int32) := sk_XT sk_tab sk_rec t_I d 160 (0, [some (.inr (.inr x0)), some (.inl x1), some (.inl x2)], [], h)
noncomputable def c_M_isStrayHere (d : Nat) (x0 : Option Nat) (h : sk_H) : Option (sk_H × Int32) := sk_XT sk_tab sk_rec t_I d 161 (0, [some (.inr (.inr x0))], [], h)
noncomputable def c_M_alleyLineHere (d : Nat) (x0 : Option Nat) (x1 : Int32) (h : sk_H) : Option (sk_H × Int32) := sk_XT sk_tab sk_rec t_I d 162 (0, [some (.inr (.inr x0)), some (.inl x1)], [], h)
noncomputable def c_M_isAlleyWord (d : Nat) (x0 : Option Nat) (h : sk_H) : Option (sk_H × Int32) := sk_XT sk_tab sk_rec t_I d 163 (0, [some (.inr (.inr x0)), none], [], h)
noncomputable def k_M_isAlleyWord_45 (d : Nat) (x0 : Option Nat) (s0 : Int32) (h : sk_H) : Option (sk_H × Int32) := sk_XT sk_tab sk_rec t_I d 163 (45, [some (.inr (.inr x0)), none], [.inl s0], h)
noncomputable def c_M_clauseHere (d : Nat) (x0 : Option Nat) (h : sk_H) : Option (sk_H × Int32) := sk_XT sk_tab sk_rec t_I d 164 (0, [some (.inr (.inr x0)), none, none], [], h)
noncomputable def k_M_clauseHere_24 (d : Nat) (x0 : Option Nat) (x1 : Int32) (s0 : Int32) (h : sk_H) : Option (sk_H × Int32) := sk_XT sk_tab sk_rec t_I d 164 (24, [some (.inr (.inr x0)), some (.inl x1), none], [.inl s0], h)
noncomputable def k_M_clauseHere_71 (d : Nat) (x0 : Option Nat) (x1 : Int32) (x2 : Int32) (s0 : Int32) (s1 : Int32) (h : sk_H) : Option (sk_H × Int32) := sk_XT sk_tab sk_rec t_I d 164 (71, [some (.inr (.inr x0)), some (.inl x1), some (.inl x2)], [.inl s0, .inl s1], h)
noncomputable def c_M_readsAll (d : Nat) (x0 : Option Nat) (h : sk_H) : Option (sk_H × Int32) := sk_XT sk_tab sk_rec t_I d 165 (0, [some (.inr (.inr x0)), none], [], h)
noncomputable def k_M_readsAll_35 (d : Nat) (x0 : Option Nat) (x1 : Int32) (h : sk_H) : Option (sk_H × Int32) := sk_XT sk_tab sk_rec t_I d 165 (35, [some (.inr (.inr x0)), some (.inl x1)], [], h)
noncomputable def k_M_readsAll_66 (d : Nat) (x0 : Option Nat) (x1 : Int32) (h : sk_H) : Option (sk_H × Int32) := sk_XT sk_tab sk_rec t_I d 165 (66, [some (.inr (.inr x0)), some (.inl x1)], [], h)
noncomputable def k_M_readsAll_88 (d : Nat) (x0 : Option Nat) (h : sk_H) : Option (sk_H × Int32) := sk_XT sk_tab sk_rec t_I d 165 (88, [some (.inr (.inr x0)), none], [], h)
noncomputable def c_M_rule (d : Nat) (x0 : Option Nat) (h : sk_H) : Option (sk_H × Int32) := sk_XT sk_tab sk_rec t_I d 166 (0, [some (.inr (.inr x0))], [], h)
noncomputable def c_M_alley (d : Nat) (x0 : Option Nat) (h : sk_H) : Option (sk_H × Int32) := sk_XT sk_tab sk_rec t_I d 167 (0, [some (.inr (.inr x0)), none], [], h)
noncomputable def k_M_alley_8 (d : Nat) (x0 : Option Nat) (x1 : Int32) (h : sk_H) : Option (sk_H × Int32) := sk_XT sk_tab sk_rec t_I d 167 (8, [some (.inr (.inr x0)), some (.inl x1)], [], h)
noncomputable def k_M_alley_44 (d : Nat) (x0 : Option Nat) (x1 : Int32) (h : sk_H) : Option (sk_H × Int32) := sk_XT sk_tab sk_rec t_I d 167 (44, [some (.inr (.inr x0)), some (.inl x1)], [], h)
noncomputable def c_M_isRule (d : Nat) (x0 : Option Nat) (x1 : Int32) (h : sk_H) : Option (sk_H × Int32) := sk_XT sk_tab sk_rec t_I d 168 (0, [some (.inr (.inr x0)), some (.inl x1)], [], h)
noncomputable def c_M_push (d : Nat) (x0 : Option Nat) (x1 : Int64) (h : sk_H) : Option (sk_H) := sk_XT sk_tab sk_rec t_V d 169 (0, [some (.inr (.inr x0)), some (.inr (.inl x1)), none], [], h)
noncomputable def c_M_pop (d : Nat) (x0 : Option Nat) (h : sk_H) : Option (sk_H × Int64) := sk_XT sk_tab sk_rec t_L d 170 (0, [some (.inr (.inr x0))], [], h)
noncomputable def c_M_one (d : Nat) (x0 : Int32) (x1 : Int64) (x2 : Int64) (h : sk_H) : Option (sk_H × Int64) := sk_XT sk_tab sk_rec t_L d 171 (0, [some (.inl x0), some (.inr (.inl x1)), none, some (.inr (.inl x2)), none], [], h)
noncomputable def c_M_reckons (d : Nat) (x0 : Option Nat) (x1 : Int32) (x2 : Int32) (x3 : Int32) (h : sk_H) : Option (sk_H × Int64) := sk_XT sk_tab sk_rec t_L d 172 (0, [some (.inr (.inr x0)), some (.inl x1), some (.inl x2), some (.inl x3), none, none, none, none, none, none, none], [], h)
noncomputable def k_M_reckons_8 (d : Nat) (x0 : Option Nat) (x1 : Int32) (x3 : Int32) (x4 : Int32) (h : sk_H) : Option (sk_H × Int64) := sk_XT sk_tab sk_rec t_L d 172 (8, [some (.inr (.inr x0)), some (.inl x1), none, some (.inl x3), some (.inl x4), none, none, none, none, none, none], [], h)
noncomputable def c_M_isAlley (d : Nat) (x0 : Option Nat) (h : sk_H) : Option (sk_H × Int32) := sk_XT sk_tab sk_rec t_I d 173 (0, [some (.inr (.inr x0))], [], h)
noncomputable def c_M_isPlace (d : Nat) (x0 : Option Nat) (x1 : Int32) (h : sk_H) : Option (sk_H × Int32) := sk_XT sk_tab sk_rec t_I d 174 (0, [some (.inr (.inr x0)), some (.inl x1)], [], h)
noncomputable def c_M_rowOf (d : Nat) (x0 : Option Nat) (x1 : Int32) (h : sk_H) : Option (sk_H × Int32) := sk_XT sk_tab sk_rec t_I d 175 (0, [some (.inr (.inr x0)), some (.inl x1), none], [], h)
noncomputable def k_M_rowOf_9 (d : Nat) (x0 : Option Nat) (x1 : Int32) (x2 : Int32) (h : sk_H) : Option (sk_H × Int32) := sk_XT sk_tab sk_rec t_I d 175 (9, [some (.inr (.inr x0)), some (.inl x1), some (.inl x2)], [], h)
noncomputable def c_M_beside (d : Nat) (x0 : Option Nat) (x1 : Int32) (x2 : Int32) (h : sk_H) : Option (sk_H × Int32) := sk_XT sk_tab sk_rec t_I d 176 (0, [some (.inr (.inr x0)), some (.inl x1), some (.inl x2), none, none], [], h)
noncomputable def k_M_beside_40 (d : Nat) (x0 : Option Nat) (x3 : Int32) (x4 : Int32) (h : sk_H) : Option (sk_H × Int32) := sk_XT sk_tab sk_rec t_I d 176 (40, [some (.inr (.inr x0)), none, none, some (.inl x3), some (.inl x4)], [], h)
noncomputable def c_M_strokeBits (d : Nat) (x0 : Option Nat) (x1 : Int32) (x2 : Int32) (h : sk_H) : Option (sk_H × Int32) := sk_XT sk_tab sk_rec t_I d 177 (0, [some (.inr (.inr x0)), some (.inl x1), some (.inl x2), none, none, none], [], h)
noncomputable def k_M_strokeBits_8 (d : Nat) (x0 : Option Nat) (x2 : Int32) (x3 : Int32) (x4 : Int32) (x5 : Int32) (h : sk_H) : Option (sk_H × Int32) := sk_XT sk_tab sk_rec t_I d 177 (8, [some (.inr (.inr x0)), none, some (.inl x2), some (.inl x3), some (.inl x4), some (.inl x5)], [], h)
noncomputable def c_M_lastOf (d : Nat) (x0 : Option Nat) (x1 : Int32) (x2 : Int32) (h : sk_H) : Option (sk_H × Int32) := sk_XT sk_tab sk_rec t_I d 178 (0, [some (.inr (.inr x0)), some (.inl x1), some (.inl x2), none, none], [], h)
noncomputable def k_M_lastOf_5 (d : Nat) (x0 : Option Nat) (x2 : Int32) (x3 : Int32) (x4 : Int32) (h : sk_H) : Option (sk_H × Int32) := sk_XT sk_tab sk_rec t_I d 178 (5, [some (.inr (.inr x0)), none, some (.inl x2), some (.inl x3), some (.inl x4)], [], h)
noncomputable def c_M_canBe (d : Nat) (x0 : Option Nat) (x1 : Int32) (x2 : Int32) (x3 : Int32) (x4 : Int32) (x5 : Int32) (h : sk_H) : Option (sk_H × Int32) := sk_XT sk_tab sk_rec t_I d 179 (0, [some (.inr (.inr x0)), some (.inl x1), some (.inl x2), some (.inl x3), some (.inl x4), some (.inl x5), none, none, none, none], [], h)
noncomputable def c_M_canBeNow (d : Nat) (x0 : Option Nat) (x1 : Int32) (x2 : Int32) (x3 : Int32) (h : sk_H) : Option (sk_H × Int32) := sk_XT sk_tab sk_rec t_I d 180 (0, [some (.inr (.inr x0)), some (.inl x1), some (.inl x2), some (.inl x3)], [], h)
noncomputable def c_M_fillsWon (d : Nat) (x0 : Option Nat) (x1 : Int32) (x2 : Int32) (x3 : Int32) (h : sk_H) : Option (sk_H) := sk_XT sk_tab sk_rec t_V d 181 (0, [some (.inr (.inr x0)), some (.inl x1), some (.inl x2), some (.inl x3), none, none, none, none, none, none], [], h)
noncomputable def k_M_fillsWon_32 (d : Nat) (x0 : Option Nat) (x1 : Int32) (x2 : Int32) (x3 : Int32) (x5 : Int32) (h : sk_H) : Option (sk_H) := sk_XT sk_tab sk_rec t_V d 181 (32, [some (.inr (.inr x0)), some (.inl x1), some (.inl x2), some (.inl x3), none, some (.inl x5), none, none, none, none], [], h)
noncomputable def k_M_fillsWon_54 (d : Nat) (x0 : Option Nat) (x1 : Int32) (x2 : Int32) (x3 : Int32) (x5 : Int32) (x6 : Int32) (x7 : Int32) (x8 : Int32) (h : sk_H) : Option (sk_H) := sk_XT sk_tab sk_rec t_V d 181 (54, [some (.inr (.inr x0)), some (.inl x1), some (.inl x2), some (.inl x3), none, some (.inl x5), some (.inl x6), some (.inl x7), some (.inl x8), none], [], h)
noncomputable def k_M_fillsWon_73 (d : Nat) (x0 : Option Nat) (x1 : Int32) (x2 : Int32) (x3 : Int32) (x5 : Int32) (x6 : Int32) (x7 : Int32) (x8 : Int32) (x9 : Int32) (h : sk_H) : Option (sk_H) := sk_XT sk_tab sk_rec t_V d 181 (73, [some (.inr (.inr x0)), some (.inl x1), some (.inl x2), some (.inl x3), none, some (.inl x5), some (.inl x6), some (.inl x7), some (.inl x8), some (.inl x9)], [], h)
noncomputable def k_M_fillsWon_154 (d : Nat) (x0 : Option Nat) (x1 : Int32) (x2 : Int32) (x3 : Int32) (x5 : Int32) (x6 : Int32) (x7 : Int32) (h : sk_H) : Option (sk_H) := sk_XT sk_tab sk_rec t_V d 181 (154, [some (.inr (.inr x0)), some (.inl x1), some (.inl x2), some (.inl x3), none, some (.inl x5), some (.inl x6), some (.inl x7), none, none], [], h)
noncomputable def k_M_fillsWon_97 (d : Nat) (x0 : Option Nat) (x1 : Int32) (x2 : Int32) (x3 : Int32) (x5 : Int32) (x6 : Int32) (x7 : Int32) (x8 : Int32) (x9 : Int32) (s0 : Int32) (s1 : Int32) (s2 : Int32) (s3 : Int32) (s4 : Int32) (s5 : Option Nat) (h : sk_H) : Option (sk_H) := sk_XT sk_tab sk_rec t_V d 181 (97, [some (.inr (.inr x0)), some (.inl x1), some (.inl x2), some (.inl x3), none, some (.inl x5), some (.inl x6), some (.inl x7), some (.inl x8), some (.inl x9)], [.inl s0, .inl s1, .inl s2, .inl s3, .inl s4, .inr (.inr s5)], h)
noncomputable def c_M_fillsNow (d : Nat) (x0 : Option Nat) (h : sk_H) : Option (sk_H) := sk_XT sk_tab sk_rec t_V d 182 (0, [some (.inr (.inr x0))], [], h)
noncomputable def c_M_isWonAt (d : Nat) (x0 : Option Nat) (x1 : Int32) (h : sk_H) : Option (sk_H × Int32) := sk_XT sk_tab sk_rec t_I d 183 (0, [some (.inr (.inr x0)), some (.inl x1)], [], h)
noncomputable def c_M_winsBy (d : Nat) (x0 : Option Nat) (x1 : Int32) (x2 : Int32) (x3 : Int32) (h : sk_H) : Option (sk_H × Int32) := sk_XT sk_tab sk_rec t_I d 184 (0, [some (.inr (.inr x0)), some (.inl x1), some (.inl x2), some (.inl x3)], [], h)
noncomputable def c_M_isOverAt (d : Nat) (x0 : Option Nat) (x1 : Int32) (h : sk_H) : Option (sk_H × Int32) := sk_XT sk_tab sk_rec t_I d 185 (0, [some (.inr (.inr x0)), some (.inl x1), none, none], [], h)
noncomputable def k_M_isOverAt_2 (d : Nat) (x0 : Option Nat) (x1 : Int32) (x2 : Int32) (h : sk_H) : Option (sk_H × Int32) := sk_XT sk_tab sk_rec t_I d 185 (2, [some (.inr (.inr x0)), some (.inl x1), some (.inl x2), none], [], h)
noncomputable def k_M_isOverAt_14 (d : Nat) (x0 : Option Nat) (x1 : Int32) (x2 : Int32) (x3 : Int32) (h : sk_H) : Option (sk_H × Int32) := sk_XT sk_tab sk_rec t_I d 185 (14, [some (.inr (.inr x0)), some (.inl x1), some (.inl x2), some (.inl x3)], [], h)
noncomputable def c_M_place (d : Nat) (x0 : Option Nat) (x1 : Int32) (x2 : Int32) (h : sk_H) : Option (sk_H × Int32) := sk_XT sk_tab sk_rec t_I d 186 (0, [some (.inr (.inr x0)), some (.inl x1), some (.inl x2)], [], h)
noncomputable def c_M_can (d : Nat) (x0 : Option Nat) (x1 : Int32) (x2 : Int32) (h : sk_H) : Option (sk_H × Int32) := sk_XT sk_tab sk_rec t_I d 187 (0, [some (.inr (.inr x0)), some (.inl x1), some (.inl x2)], [], h)
noncomputable def c_M_keepsAct (d : Nat) (x0 : Option Nat) (h : sk_H) : Option (sk_H) := sk_XT sk_tab sk_rec t_V d 188 (0, [some (.inr (.inr x0)), none], [], h)
noncomputable def k_M_keepsAct_11 (d : Nat) (x0 : Option Nat) (x1 : Int32) (h : sk_H) : Option (sk_H) := sk_XT sk_tab sk_rec t_V d 188 (11, [some (.inr (.inr x0)), some (.inl x1)], [], h)
noncomputable def k_M_keepsAct_49 (d : Nat) (x0 : Option Nat) (x1 : Int32) (h : sk_H) : Option (sk_H) := sk_XT sk_tab sk_rec t_V d 188 (49, [some (.inr (.inr x0)), some (.inl x1)], [], h)
noncomputable def c_M_undo (d : Nat) (x0 : Option Nat) (h : sk_H) : Option (sk_H × Int32) := sk_XT sk_tab sk_rec t_I d 189 (0, [some (.inr (.inr x0)), none], [], h)
noncomputable def k_M_undo_21 (d : Nat) (x0 : Option Nat) (x1 : Int32) (h : sk_H) : Option (sk_H × Int32) := sk_XT sk_tab sk_rec t_I d 189 (21, [some (.inr (.inr x0)), some (.inl x1)], [], h)
noncomputable def c_M_notes (d : Nat) (x0 : Option Nat) (x1 : Int32) (x2 : Int32) (h : sk_H) : Option (sk_H) := sk_XT sk_tab sk_rec t_V d 190 (0, [some (.inr (.inr x0)), some (.inl x1), some (.inl x2), none], [], h)
noncomputable def c_M_stroke (d : Nat) (x0 : Option Nat) (x1 : Int32) (x2 : Int32) (h : sk_H) : Option (sk_H × Int32) := sk_XT sk_tab sk_rec t_I d 191 (0, [some (.inr (.inr x0)), some (.inl x1), some (.inl x2)], [], h)
noncomputable def c_M_up (d : Nat) (x0 : Option Nat) (x1 : Int32) (h : sk_H) : Option (sk_H × Int32) := sk_XT sk_tab sk_rec t_I d 192 (0, [some (.inr (.inr x0)), some (.inl x1)], [], h)
noncomputable def c_M_pass (d : Nat) (x0 : Option Nat) (h : sk_H) : Option (sk_H × Int32) := sk_XT sk_tab sk_rec t_I d 193 (0, [some (.inr (.inr x0))], [], h)
noncomputable def c_M_won (d : Nat) (x0 : Option Nat) (h : sk_H) : Option (sk_H × Int32) := sk_XT sk_tab sk_rec t_I d 194 (0, [some (.inr (.inr x0))], [], h)
noncomputable def c_M_wins (d : Nat) (x0 : Option Nat) (x1 : Int32) (h : sk_H) : Option (sk_H × Int32) := sk_XT sk_tab sk_rec t_I d 195 (0, [some (.inr (.inr x0)), some (.inl x1), none, none, none, none, none], [], h)
noncomputable def k_M_wins_40 (d : Nat) (x0 : Option Nat) (x1 : Int32) (x2 : Int32) (x3 : Int32) (x4 : Int32) (x5 : Int32) (h : sk_H) : Option (sk_H × Int32) := sk_XT sk_tab sk_rec t_I d 195 (40, [some (.inr (.inr x0)), some (.inl x1), some (.inl x2), some (.inl x3), some (.inl x4), some (.inl x5), none], [], h)
noncomputable def k_M_wins_48 (d : Nat) (x0 : Option Nat) (x1 : Int32) (x2 : Int32) (x3 : Int32) (x4 : Int32) (x5 : Int32) (x6 : Int32) (h : sk_H) : Option (sk_H × Int32) := sk_XT sk_tab sk_rec t_I d 195 (48, [some (.inr (.inr x0)), some (.inl x1), some (.inl x2), some (.inl x3), some (.inl x4), some (.inl x5), some (.inl x6)], [], h)
noncomputable def c_M_leastUnseen (d : Nat) (x0 : Option Nat) (h : sk_H) : Option (sk_H × Int32) := sk_XT sk_tab sk_rec t_I d 196 (0, [some (.inr (.inr x0)), none], [], h)
noncomputable def k_M_leastUnseen_2 (d : Nat) (x0 : Option Nat) (x1 : Int32) (h : sk_H) : Option (sk_H × Int32) := sk_XT sk_tab sk_rec t_I d 196 (2, [some (.inr (.inr x0)), some (.inl x1)], [], h)
noncomputable def c_M_clearsSeen (d : Nat) (x0 : Option Nat) (h : sk_H) : Option (sk_H) := sk_XT sk_tab sk_rec t_V d 197 (0, [some (.inr (.inr x0)), none], [], h)
noncomputable def k_M_clearsSeen_2 (d : Nat) (x0 : Option Nat) (x1 : Int32) (h : sk_H) : Option (sk_H) := sk_XT sk_tab sk_rec t_V d 197 (2, [some (.inr (.inr x0)), some (.inl x1)], [], h)
noncomputable def c_M_worth (d : Nat) (x0 : Option Nat) (x1 : Int32) (h : sk_H) : Option (sk_H × Int32) := sk_XT sk_tab sk_rec t_I d 198 (0, [some (.inr (.inr x0)), some (.inl x1), none, none, none, none, none, none], [], h)
noncomputable def k_M_worth_43 (d : Nat) (x0 : Option Nat) (x1 : Int32) (x2 : Int32) (x3 : Int32) (x4 : Int32) (h : sk_H) : Option (sk_H × Int32) := sk_XT sk_tab sk_rec t_I d 198 (43, [some (.inr (.inr x0)), some (.inl x1), some (.inl x2), some (.inl x3), some (.inl x4), none, none, none], [], h)
noncomputable def k_M_worth_62 (d : Nat) (x0 : Option Nat) (x1 : Int32) (x2 : Int32) (x3 : Int32) (x4 : Int32) (x5 : Int32) (x6 : Int32) (h : sk_H) : Option (sk_H × Int32) := sk_XT sk_tab sk_rec t_I d 198 (62, [some (.inr (.inr x0)), some (.inl x1), some (.inl x2), some (.inl x3), some (.inl x4), some (.inl x5), some (.inl x6), none], [], h)
noncomputable def k_M_worth_81 (d : Nat) (x0 : Option Nat) (x1 : Int32) (x2 : Int32) (x3 : Int32) (x4 : Int32) (x5 : Int32) (x6 : Int32) (x7 : Int32) (h : sk_H) : Option (sk_H × Int32) := sk_XT sk_tab sk_rec t_I d 198 (81, [some (.inr (.inr x0)), some (.inl x1), some (.inl x2), some (.inl x3), some (.inl x4), some (.inl x5), some (.inl x6), some (.inl x7)], [], h)
noncomputable def c_M_fillsPlains (d : Nat) (x0 : Option Nat) (h : sk_H) : Option (sk_H) := sk_XT sk_tab sk_rec t_V d 199 (0, [some (.inr (.inr x0)), none, none, none, none], [], h)
noncomputable def k_M_fillsPlains_2 (d : Nat) (x0 : Option Nat) (x1 : Int32) (h : sk_H) : Option (sk_H) := sk_XT sk_tab sk_rec t_V d 199 (2, [some (.inr (.inr x0)), some (.inl x1), none, none, none], [], h)
noncomputable def k_M_fillsPlains_14 (d : Nat) (x0 : Option Nat) (x1 : Int32) (x2 : Int32) (h : sk_H) : Option (sk_H) := sk_XT sk_tab sk_rec t_V d 199 (14, [some (.inr (.inr x0)), some (.inl x1), some (.inl x2), none, none], [], h)
noncomputable def k_M_fillsPlains_44 (d : Nat) (x0 : Option Nat) (x1 : Int32) (x2 : Int32) (x3 : Int32) (h : sk_H) : Option (sk_H) := sk_XT sk_tab sk_rec t_V d 199 (44, [some (.inr (.inr x0)), some (.inl x1), some (.inl x2), some (.inl x3), none], [], h)
noncomputable def k_M_fillsPlains_83 (d : Nat) (x0 : Option Nat) (x1 : Int32) (x2 : Int32) (x3 : Int32) (h : sk_H) : Option (sk_H) := sk_XT sk_tab sk_rec t_V d 199 (83, [some (.inr (.inr x0)), some (.inl x1), some (.inl x2), some (.inl x3), none], [], h)
noncomputable def c_M_plain (d : Nat) (x0 : Option Nat) (x1 : Int32) (h : sk_H) : Option (sk_H × Int32) := sk_XT sk_tab sk_rec t_I d 200 (0, [some (.inr (.inr x0)), some (.inl x1)], [], h)
noncomputable def c_M_comesAgain (d : Nat) (x0 : Option Nat) (x1 : Int32) (x2 : Int32) (h : sk_H) : Option (sk_H × Int32) := sk_XT sk_tab sk_rec t_I d 201 (0, [some (.inr (.inr x0)), some (.inl x1), some (.inl x2), none], [], h)
noncomputable def k_M_comesAgain_2 (d : Nat) (x0 : Option Nat) (x1 : Int32) (x3 : Int32) (h : sk_H) : Option (sk_H × Int32) := sk_XT sk_tab sk_rec t_I d 201 (2, [some (.inr (.inr x0)), some (.inl x1), none, some (.inl x3)], [], h)
noncomputable def c_M_again (d : Nat) (x0 : Option Nat) (x1 : Int32) (h : sk_H) : Option (sk_H × Int32) := sk_XT sk_tab sk_rec t_I d 202 (0, [some (.inr (.inr x0)), some (.inl x1), none, none], [], h)
noncomputable def k_M_again_25 (d : Nat) (x0 : Option Nat) (x1 : Int32) (x2 : Int32) (h : sk_H) : Option (sk_H × Int32) := sk_XT sk_tab sk_rec t_I d 202 (25, [some (.inr (.inr x0)), some (.inl x1), some (.inl x2), none], [], h)
noncomputable def k_M_again_33 (d : Nat) (x0 : Option Nat) (x1 : Int32) (x2 : Int32) (x3 : Int32) (h : sk_H) : Option (sk_H × Int32) := sk_XT sk_tab sk_rec t_I d 202 (33, [some (.inr (.inr x0)), some (.inl x1), some (.inl x2), some (.inl x3)], [], h)
noncomputable def c_M_lastsAt (d : Nat) (x0 : Option Nat) (x1 : Int32) (h : sk_H) : Option (sk_H × Int32) := sk_XT sk_tab sk_rec t_I d 203 (0, [some (.inr (.inr x0)), some (.inl x1), none, none, none, none, none, none], [], h)
noncomputable def k_M_lastsAt_7 (d : Nat) (x0 : Option Nat) (x1 : Int32) (x2 : Int32) (x3 : Int32) (x4 : Int32) (h : sk_H) : Option (sk_H × Int32) := sk_XT sk_tab sk_rec t_I d 203 (7, [some (.inr (.inr x0)), some (.inl x1), some (.inl x2), some (.inl x3), some (.inl x4), none, none, none], [], h)
noncomputable def k_M_lastsAt_21 (d : Nat) (x0 : Option Nat) (x1 : Int32) (x2 : Int32) (x3 : Int32) (x4 : Int32) (x5 : Int32) (h : sk_H) : Option (sk_H × Int32) := sk_XT sk_tab sk_rec t_I d 203 (21, [some (.inr (.inr x0)), some (.inl x1), some (.inl x2), some (.inl x3), some (.inl x4), some (.inl x5), none, none], [], h)
noncomputable def k_M_lastsAt_79 (d : Nat) (x0 : Option Nat) (x1 : Int32) (x2 : Int32) (x4 : Int32) (x5 : Int32) (x6 : Int32) (x7 : Int32) (s0 : Int32) (h : sk_H) : Option (sk_H × Int32) := sk_XT sk_tab sk_rec t_I d 203 (79, [some (.inr (.inr x0)), some (.inl x1), some (.inl x2), none, some (.inl x4), some (.inl x5), some (.inl x6), some (.inl x7)], [.inl s0], h)
noncomputable def c_M_lasts (d : Nat) (x0 : Option Nat) (h : sk_H) : Option (sk_H × Int32) := sk_XT sk_tab sk_rec t_I d 204 (0, [some (.inr (.inr x0)), none], [], h)
noncomputable def k_M_lasts_15 (d : Nat) (x0 : Option Nat) (x1 : Int32) (h : sk_H) : Option (sk_H × Int32) := sk_XT sk_tab sk_rec t_I d 204 (15, [some (.inr (.inr x0)), some (.inl x1)], [], h)
noncomputable def c_M_playsAt (d : Nat) (x0 : Option Nat) (x1 : Int32) (h : sk_H) : Option (sk_H × Int32) := sk_XT sk_tab sk_rec t_I d 205 (0, [some (.inr (.inr x0)), some (.inl x1), none, none, none, none, none], [], h)
noncomputable def k_M_playsAt_8 (d : Nat) (x0 : Option Nat) (x1 : Int32) (x2 : Int64) (x4 : Int32) (x5 : Int32) (h : sk_H) : Option (sk_H × Int32) := sk_XT sk_tab sk_rec t_I d 205 (8, [some (.inr (.inr x0)), some (.inl x1), some (.inr (.inl x2)), none, some (.inl x4), some (.inl x5), none], [], h)
noncomputable def k_M_playsAt_22 (d : Nat) (x0 : Option Nat) (x1 : Int32) (x2 : Int64) (x4 : Int32) (x5 : Int32) (x6 : Int32) (h : sk_H) : Option (sk_H × Int32) := sk_XT sk_tab sk_rec t_I d 205 (22, [some (.inr (.inr x0)), some (.inl x1), some (.inr (.inl x2)), none, some (.inl x4), some (.inl x5), some (.inl x6)], [], h)
noncomputable def c_M_plays (d : Nat) (x0 : Option Nat) (h : sk_H) : Option (sk_H × Int32) := sk_XT sk_tab sk_rec t_I d 206 (0, [some (.inr (.inr x0)), none], [], h)
noncomputable def k_M_plays_11 (d : Nat) (x0 : Option Nat) (x1 : Int32) (h : sk_H) : Option (sk_H × Int32) := sk_XT sk_tab sk_rec t_I d 206 (11, [some (.inr (.inr x0)), some (.inl x1)], [], h)
noncomputable def c_M_fair (d : Nat) (x0 : Option Nat) (x1 : Int32) (h : sk_H) : Option (sk_H × Int32) := sk_XT sk_tab sk_rec t_I d 207 (0, [some (.inr (.inr x0)), some (.inl x1), none, none, none], [], h)
noncomputable def k_M_fair_36 (d : Nat) (x0 : Option Nat) (x1 : Int32) (x2 : Int32) (x3 : Int32) (x4 : Int32) (h : sk_H) : Option (sk_H × Int32) := sk_XT sk_tab sk_rec t_I d 207 (36, [some (.inr (.inr x0)), some (.inl x1), some (.inl x2), some (.inl x3), some (.inl x4)], [], h)
noncomputable def k_M_fair_82 (d : Nat) (x0 : Option Nat) (x1 : Int32) (x2 : Int32) (x3 : Int32) (x4 : Int32) (h : sk_H) : Option (sk_H × Int32) := sk_XT sk_tab sk_rec t_I d 207 (82, [some (.inr (.inr x0)), some (.inl x1), some (.inl x2), some (.inl x3), some (.inl x4)], [], h)
noncomputable def c_M_strayed (d : Nat) (x0 : Option Nat) (x1 : Int32) (x2 : Int32) (x3 : Int32) (h : sk_H) : Option (sk_H × Int32) := sk_XT sk_tab sk_rec t_I d 208 (0, [some (.inr (.inr x0)), some (.inl x1), some (.inl x2), some (.inl x3), none], [], h)
noncomputable def c_M_chanceAt (d : Nat) (x0 : Option Nat) (x1 : Int32) (h : sk_H) : Option (sk_H × Int32) := sk_XT sk_tab sk_rec t_I d 209 (0, [some (.inr (.inr x0)), some (.inl x1), none, none, none, none, none], [], h)
noncomputable def k_M_chanceAt_4 (d : Nat) (x0 : Option Nat) (x1 : Int32) (x2 : Int32) (x3 : Int32) (h : sk_H) : Option (sk_H × Int32) := sk_XT sk_tab sk_rec t_I d 209 (4, [some (.inr (.inr x0)), some (.inl x1), some (.inl x2), some (.inl x3), none, none, none], [], h)
noncomputable def k_M_chanceAt_17 (d : Nat) (x0 : Option Nat) (x1 : Int32) (x2 : Int32) (x3 : Int32) (x4 : Int32) (h : sk_H) : Option (sk_H × Int32) := sk_XT sk_tab sk_rec t_I d 209 (17, [some (.inr (.inr x0)), some (.inl x1), some (.inl x2), some (.inl x3), some (.inl x4), none, none], [], h)
noncomputable def c_M_chance (d : Nat) (x0 : Option Nat) (h : sk_H) : Option (sk_H × Int32) := sk_XT sk_tab sk_rec t_I d 210 (0, [some (.inr (.inr x0)), none], [], h)
noncomputable def k_M_chance_11 (d : Nat) (x0 : Option Nat) (x1 : Int32) (h : sk_H) : Option (sk_H × Int32) := sk_XT sk_tab sk_rec t_I d 210 (11, [some (.inr (.inr x0)), some (.inl x1)], [], h)
noncomputable def c_M_bestAt (d : Nat) (x0 : Option Nat) (x1 : Int32) (h : sk_H) : Option (sk_H × Int32) := sk_XT sk_tab sk_rec t_I d 211 (0, [some (.inr (.inr x0)), some (.inl x1), none, none, none, none], [], h)
noncomputable def k_M_bestAt_4 (d : Nat) (x0 : Option Nat) (x1 : Int32) (x2 : Int32) (x3 : Int32) (h : sk_H) : Option (sk_H × Int32) := sk_XT sk_tab sk_rec t_I d 211 (4, [some (.inr (.inr x0)), some (.inl x1), some (.inl x2), some (.inl x3), none, none], [], h)
noncomputable def k_M_bestAt_17 (d : Nat) (x0 : Option Nat) (x1 : Int32) (x2 : Int32) (x3 : Int32) (x4 : Int32) (h : sk_H) : Option (sk_H × Int32) := sk_XT sk_tab sk_rec t_I d 211 (17, [some (.inr (.inr x0)), some (.inl x1), some (.inl x2), some (.inl x3), some (.inl x4), none], [], h)
noncomputable def c_M_childAt (d : Nat) (x0 : Option Nat) (x1 : Int32) (h : sk_H) : Option (sk_H × Int32) := sk_XT sk_tab sk_rec t_I d 212 (0, [some (.inr (.inr x0)), some (.inl x1), none, none, none, none], [], h)
noncomputable def k_M_childAt_7 (d : Nat) (x0 : Option Nat) (x1 : Int32) (x2 : Int32) (x3 : Int32) (x4 : Int32) (h : sk_H) : Option (sk_H × Int32) := sk_XT sk_tab sk_rec t_I d 212 (7, [some (.inr (.inr x0)), some (.inl x1), some (.inl x2), some (.inl x3), some (.inl x4), none], [], h)
noncomputable def k_M_childAt_21 (d : Nat) (x0 : Option Nat) (x1 : Int32) (x2 : Int32) (x3 : Int32) (x4 : Int32) (x5 : Int32) (h : sk_H) : Option (sk_H × Int32) := sk_XT sk_tab sk_rec t_I d 212 (21, [some (.inr (.inr x0)), some (.inl x1), some (.inl x2), some (.inl x3), some (.inl x4), some (.inl x5)], [], h)
noncomputable def c_M_child (d : Nat) (x0 : Option Nat) (h : sk_H) : Option (sk_H × Int32) := sk_XT sk_tab sk_rec t_I d 213 (0, [some (.inr (.inr x0)), none], [], h)
noncomputable def k_M_child_11 (d : Nat) (x0 : Option Nat) (x1 : Int32) (h : sk_H) : Option (sk_H × Int32) := sk_XT sk_tab sk_rec t_I d 213 (11, [some (.inr (.inr x0)), some (.inl x1)], [], h)
noncomputable def c_M_countsRun (d : Nat) (x0 : Option Nat) (x1 : Int32) (h : sk_H) : Option (sk_H) := sk_XT sk_tab sk_rec t_V d 214 (0, [some (.inr (.inr x0)), some (.inl x1)], [], h)
noncomputable def k_M_countsRun_32 (d : Nat) (x0 : Option Nat) (x1 : Int32) (s0 : Int32) (s1 : Option Nat) (h : sk_H) : Option (sk_H) := sk_XT sk_tab sk_rec t_V d 214 (32, [some (.inr (.inr x0)), some (.inl x1)], [.inl s0, .inr (.inr s1)], h)
noncomputable def c_M_countsRow (d : Nat) (x0 : Option Nat) (x1 : Int32) (x2 : Int32) (h : sk_H) : Option (sk_H) := sk_XT sk_tab sk_rec t_V d 215 (0, [some (.inr (.inr x0)), some (.inl x1), some (.inl x2), none, none, none, none, none], [], h)
noncomputable def k_M_countsRow_37 (d : Nat) (x0 : Option Nat) (x1 : Int32) (x3 : Int32) (x4 : Int32) (x5 : Int32) (h : sk_H) : Option (sk_H) := sk_XT sk_tab sk_rec t_V d 215 (37, [some (.inr (.inr x0)), some (.inl x1), none, some (.inl x3), some (.inl x4), some (.inl x5), none, none], [], h)
noncomputable def k_M_countsRow_77 (d : Nat) (x0 : Option Nat) (x1 : Int32) (x3 : Int32) (x4 : Int32) (x5 : Int32) (x6 : Int32) (x7 : Int32) (h : sk_H) : Option (sk_H) := sk_XT sk_tab sk_rec t_V d 215 (77, [some (.inr (.inr x0)), some (.inl x1), none, some (.inl x3), some (.inl x4), some (.inl x5), some (.inl x6), some (.inl x7)], [], h)
noncomputable def c_M_countsRuns (d : Nat) (x0 : Option Nat) (x1 : Int32) (h : sk_H) : Option (sk_H) := sk_XT sk_tab sk_rec t_V d 216 (0, [some (.inr (.inr x0)), some (.inl x1), none], [], h)
noncomputable def k_M_countsRuns_17 (d : Nat) (x0 : Option Nat) (x1 : Int32) (x2 : Int32) (h : sk_H) : Option (sk_H) := sk_XT sk_tab sk_rec t_V d 216 (17, [some (.inr (.inr x0)), some (.inl x1), some (.inl x2)], [], h)
noncomputable def c_M_words (d : Nat) (x0 : Option Nat) (x1 : Int32) (x2 : Int32) (x3 : Int32) (x4 : Int32) (x5 : Int32) (h : sk_H) : Option (sk_H) := sk_XT sk_tab sk_rec t_V d 217 (0, [some (.inr (.inr x0)), some (.inl x1), some (.inl x2), some (.inl x3), some (.inl x4), some (.inl x5), none], [], h)
noncomputable def c_M_summedBy (d : Nat) (x0 : Option Nat) (x1 : Int32) (h : sk_H) : Option (sk_H × Int64) := sk_XT sk_tab sk_rec t_L d 218 (0, [some (.inr (.inr x0)), some (.inl x1), none, none], [], h)
noncomputable def k_M_summedBy_2 (d : Nat) (x0 : Option Nat) (x1 : Int32) (x2 : Int32) (h : sk_H) : Option (sk_H × Int64) := sk_XT sk_tab sk_rec t_L d 218 (2, [some (.inr (.inr x0)), some (.inl x1), some (.inl x2), none], [], h)
noncomputable def k_M_summedBy_58 (d : Nat) (x0 : Option Nat) (x1 : Int32) (x3 : Int32) (h : sk_H) : Option (sk_H × Int64) := sk_XT sk_tab sk_rec t_L d 218 (58, [some (.inr (.inr x0)), some (.inl x1), none, some (.inl x3)], [], h)
noncomputable def c_M_strokeBy (d : Nat) (x0 : Option Nat) (x1 : Int32) (x2 : Int32) (x3 : Int32) (x4 : Int32) (h : sk_H) : Option (sk_H × Int32) := sk_XT sk_tab sk_rec t_I d 219 (0, [some (.inr (.inr x0)), some (.inl x1), some (.inl x2), some (.inl x3), some (.inl x4), none, none, none, none, none, none, none], [], h)
noncomputable def k_M_strokeBy_9 (d : Nat) (x0 : Option Nat) (x1 : Int32) (x2 : Int32) (x3 : Int32) (x4 : Int32) (x5 : Int32) (x6 : Int64) (x8 : Int32) (h : sk_H) : Option (sk_H × Int32) := sk_XT sk_tab sk_rec t_I d 219 (9, [some (.inr (.inr x0)), some (.inl x1), some (.inl x2), some (.inl x3), some (.inl x4), some (.inl x5), some (.inr (.inl x6)), none, some (.inl x8), none, none, none], [], h)
noncomputable def k_M_strokeBy_23 (d : Nat) (x0 : Option Nat) (x1 : Int32) (x2 : Int32) (x3 : Int32) (x4 : Int32) (x5 : Int32) (x6 : Int64) (x8 : Int32) (x9 : Int32) (h : sk_H) : Option (sk_H × Int32) := sk_XT sk_tab sk_rec t_I d 219 (23, [some (.inr (.inr x0)), some (.inl x1), some (.inl x2), some (.inl x3), some (.inl x4), some (.inl x5), some (.inr (.inl x6)), none, some (.inl x8), some (.inl x9), none, none], [], h)
noncomputable def k_M_strokeBy_79 (d : Nat) (x0 : Option Nat) (x1 : Int32) (x2 : Int32) (x3 : Int32) (x4 : Int32) (x8 : Int32) (x9 : Int32) (x10 : Int64) (h : sk_H) : Option (sk_H × Int32) := sk_XT sk_tab sk_rec t_I d 219 (79, [some (.inr (.inr x0)), some (.inl x1), some (.inl x2), some (.inl x3), some (.inl x4), none, none, none, some (.inl x8), some (.inl x9), some (.inr (.inl x10)), none], [], h)
noncomputable def c_M_winner (d : Nat) (x0 : Option Nat) (x1 : Int32) (h : sk_H) : Option (sk_H × Int32) := sk_XT sk_tab sk_rec t_I d 220 (0, [some (.inr (.inr x0)), some (.inl x1)], [], h)
noncomputable def c_M_match (d : Nat) (x0 : Option Nat) (x1 : Int32) (x2 : Int32) (x3 : Int32) (h : sk_H) : Option (sk_H × Int32) := sk_XT sk_tab sk_rec t_I d 221 (0, [some (.inr (.inr x0)), some (.inl x1), some (.inl x2), some (.inl x3), none, none, none, none], [], h)
noncomputable def k_M_match_83 (d : Nat) (x0 : Option Nat) (x1 : Int32) (x2 : Int32) (x3 : Int32) (x5 : Int32) (x6 : Int32) (x7 : Int32) (h : sk_H) : Option (sk_H × Int32) := sk_XT sk_tab sk_rec t_I d 221 (83, [some (.inr (.inr x0)), some (.inl x1), some (.inl x2), some (.inl x3), none, some (.inl x5), some (.inl x6), some (.inl x7)], [], h)
noncomputable def c_M_noted (d : Nat) (x0 : Option Nat) (x1 : Int32) (x2 : Int32) (h : sk_H) : Option (sk_H × Int32) := sk_XT sk_tab sk_rec t_I d 222 (0, [some (.inr (.inr x0)), some (.inl x1), some (.inl x2)], [], h)
noncomputable def c_M_winsNoted (d : Nat) (x0 : Option Nat) (x1 : Int32) (h : sk_H) : Option (sk_H × Int32) := sk_XT sk_tab sk_rec t_I d 223 (0, [some (.inr (.inr x0)), some (.inl x1)], [], h)
noncomputable def c_M_knew (d : Nat) (x0 : Option Nat) (x1 : Int32) (x2 : Int32) (h : sk_H) : Option (sk_H × Int32) := sk_XT sk_tab sk_rec t_I d 224 (0, [some (.inr (.inr x0)), some (.inl x1), some (.inl x2), none, none, none, none, none], [], h)
noncomputable def k_M_knew_49 (d : Nat) (x0 : Option Nat) (x1 : Int32) (x2 : Int32) (x3 : Int32) (x4 : Int32) (x5 : Int32) (x6 : Int32) (x7 : Int32) (h : sk_H) : Option (sk_H × Int32) := sk_XT sk_tab sk_rec t_I d 224 (49, [some (.inr (.inr x0)), some (.inl x1), some (.inl x2), some (.inl x3), some (.inl x4), some (.inl x5), some (.inl x6), some (.inl x7)], [], h)
noncomputable def c_M_fitsLaw (d : Nat) (x0 : Option Nat) (x1 : Int32) (x2 : Int32) (x3 : Int32) (x4 : Int32) (h : sk_H) : Option (sk_H × Int32) := sk_XT sk_tab sk_rec t_I d 225 (0, [some (.inr (.inr x0)), some (.inl x1), some (.inl x2), some (.inl x3), some (.inl x4), none], [], h)
noncomputable def k_M_fitsLaw_11 (d : Nat) (x0 : Option Nat) (x1 : Int32) (x2 : Int32) (x3 : Int32) (x5 : Int32) (h : sk_H) : Option (sk_H × Int32) := sk_XT sk_tab sk_rec t_I d 225 (11, [some (.inr (.inr x0)), some (.inl x1), some (.inl x2), some (.inl x3), none, some (.inl x5)], [], h)
noncomputable def k_M_fitsLaw_70 (d : Nat) (x0 : Option Nat) (x1 : Int32) (x2 : Int32) (x3 : Int32) (x5 : Int32) (s0 : Int32) (s1 : Int32) (s2 : Int32) (s3 : Int32) (s4 : Int32) (s5 : Option Nat) (h : sk_H) : Option (sk_H × Int32) := sk_XT sk_tab sk_rec t_I d 225 (70, [some (.inr (.inr x0)), some (.inl x1), some (.inl x2), some (.inl x3), none, some (.inl x5)], [.inl s0, .inl s1, .inl s2, .inl s3, .inl s4, .inr (.inr s5)], h)
noncomputable def c_M_law (d : Nat) (x0 : Option Nat) (x1 : Int32) (x2 : Int32) (h : sk_H) : Option (sk_H × Int32) := sk_XT sk_tab sk_rec t_I d 226 (0, [some (.inr (.inr x0)), some (.inl x1), some (.inl x2), none, none, none], [], h)
noncomputable def k_M_law_39 (d : Nat) (x0 : Option Nat) (x1 : Int32) (x2 : Int32) (x3 : Int32) (x4 : Int32) (x5 : Int32) (h : sk_H) : Option (sk_H × Int32) := sk_XT sk_tab sk_rec t_I d 226 (39, [some (.inr (.inr x0)), some (.inl x1), some (.inl x2), some (.inl x3), some (.inl x4), some (.inl x5)], [], h)
noncomputable def c_M_seed (d : Nat) (x0 : Option Nat) (x1 : Int32) (h : sk_H) : Option (sk_H × Int32) := sk_XT sk_tab sk_rec t_I d 227 (0, [some (.inr (.inr x0)), some (.inl x1), none], [], h)
noncomputable def c_M_draw (d : Nat) (x0 : Option Nat) (x1 : Int32) (h : sk_H) : Option (sk_H × Int32) := sk_XT sk_tab sk_rec t_I d 228 (0, [some (.inr (.inr x0)), some (.inl x1)], [], h)
noncomputable def c_M_strokeDrawn (d : Nat) (x0 : Option Nat) (x1 : Int32) (h : sk_H) : Option (sk_H × Int32) := sk_XT sk_tab sk_rec t_I d 229 (0, [some (.inr (.inr x0)), some (.inl x1), none, none, none, none], [], h)
noncomputable def k_M_strokeDrawn_4 (d : Nat) (x0 : Option Nat) (x1 : Int32) (x2 : Int32) (x3 : Int32) (h : sk_H) : Option (sk_H × Int32) := sk_XT sk_tab sk_rec t_I d 229 (4, [some (.inr (.inr x0)), some (.inl x1), some (.inl x2), some (.inl x3), none, none], [], h)
noncomputable def k_M_strokeDrawn_17 (d : Nat) (x0 : Option Nat) (x1 : Int32) (x2 : Int32) (x3 : Int32) (x4 : Int32) (h : sk_H) : Option (sk_H × Int32) := sk_XT sk_tab sk_rec t_I d 229 (17, [some (.inr (.inr x0)), some (.inl x1), some (.inl x2), some (.inl x3), some (.inl x4), none], [], h)
noncomputable def k_M_strokeDrawn_69 (d : Nat) (x0 : Option Nat) (x1 : Int32) (x3 : Int32) (x4 : Int32) (h : sk_H) : Option (sk_H × Int32) := sk_XT sk_tab sk_rec t_I d 229 (69, [some (.inr (.inr x0)), some (.inl x1), none, some (.inl x3), some (.inl x4), none], [], h)
noncomputable def k_M_strokeDrawn_83 (d : Nat) (x0 : Option Nat) (x1 : Int32) (x3 : Int32) (x4 : Int32) (x5 : Int32) (h : sk_H) : Option (sk_H × Int32) := sk_XT sk_tab sk_rec t_I d 229 (83, [some (.inr (.inr x0)), some (.inl x1), none, some (.inl x3), some (.inl x4), some (.inl x5)], [], h)
noncomputable def c_M_playsDrawn (d : Nat) (x0 : Option Nat) (x1 : Int32) (x2 : Int32) (h : sk_H) : Option (sk_H) := sk_XT sk_tab sk_rec t_V d 230 (0, [some (.inr (.inr x0)), some (.inl x1), some (.inl x2), none, none, none, none, none, none], [], h)
noncomputable def k_M_playsDrawn_21 (d : Nat) (x0 : Option Nat) (x1 : Int32) (x2 : Int32) (x3 : Int32) (h : sk_H) : Option (sk_H) := sk_XT sk_tab sk_rec t_V d 230 (21, [some (.inr (.inr x0)), some (.inl x1), some (.inl x2), some (.inl x3), none, none, none, none, none], [], h)
noncomputable def k_M_playsDrawn_50 (d : Nat) (x0 : Option Nat) (x1 : Int32) (x2 : Int32) (x3 : Int32) (x4 : Int32) (x5 : Int32) (x6 : Int32) (x7 : Int32) (h : sk_H) : Option (sk_H) := sk_XT sk_tab sk_rec t_V d 230 (50, [some (.inr (.inr x0)), some (.inl x1), some (.inl x2), some (.inl x3), some (.inl x4), some (.inl x5), some (.inl x6), some (.inl x7), none], [], h)
noncomputable def k_M_playsDrawn_92 (d : Nat) (x0 : Option Nat) (x1 : Int32) (x2 : Int32) (x3 : Int32) (x4 : Int32) (x5 : Int32) (x6 : Int32) (s0 : Int32) (h : sk_H) : Option (sk_H) := sk_XT sk_tab sk_rec t_V d 230 (92, [some (.inr (.inr x0)), some (.inl x1), some (.inl x2), some (.inl x3), some (.inl x4), some (.inl x5), some (.inl x6), none, none], [.inl s0], h)
noncomputable def c_M_games (d : Nat) (x0 : Option Nat) (x1 : Int32) (x2 : Int32) (h : sk_H) : Option (sk_H × Int32) := sk_XT sk_tab sk_rec t_I d 231 (0, [some (.inr (.inr x0)), some (.inl x1), some (.inl x2)], [], h)
noncomputable def c_M_against (d : Nat) (x0 : Option Nat) (x1 : Int32) (x2 : Int32) (x3 : Int32) (h : sk_H) : Option (sk_H × Int32) := sk_XT sk_tab sk_rec t_I d 232 (0, [some (.inr (.inr x0)), some (.inl x1), some (.inl x2), some (.inl x3)], [], h)
noncomputable def c_M_count (d : Nat) (x0 : Option Nat) (x1 : Int32) (h : sk_H) : Option (sk_H × Int32) := sk_XT sk_tab sk_rec t_I d 233 (0, [some (.inr (.inr x0)), some (.inl x1)], [], h)
noncomputable def c_M_image (d : Nat) (x0 : Option Nat) (x1 : Int32) (h : sk_H) : Option (sk_H × Int32) := sk_XT sk_tab sk_rec t_I d 234 (0, [some (.inr (.inr x0)), some (.inl x1), none], [], h)
noncomputable def k_M_image_33 (d : Nat) (x0 : Option Nat) (x1 : Int32) (x2 : Int32) (h : sk_H) : Option (sk_H × Int32) := sk_XT sk_tab sk_rec t_I d 234 (33, [some (.inr (.inr x0)), some (.inl x1), some (.inl x2)], [], h)
noncomputable def c_M_back (d : Nat) (x0 : Option Nat) (x1 : Int32) (h : sk_H) : Option (sk_H × Int32) := sk_XT sk_tab sk_rec t_I d 235 (0, [some (.inr (.inr x0)), some (.inl x1), none], [], h)
noncomputable def k_M_back_45 (d : Nat) (x0 : Option Nat) (x1 : Int32) (x2 : Int32) (h : sk_H) : Option (sk_H × Int32) := sk_XT sk_tab sk_rec t_I d 235 (45, [some (.inr (.inr x0)), some (.inl x1), some (.inl x2)], [], h)
noncomputable def c_JI_numberOfTrailingZeros (d : Nat) (x0 : Int32) (h : sk_H) : Option (sk_H × Int32) := sk_XT sk_tab sk_rec t_I d 236 (0, [some (.inl x0), none], [], h)
noncomputable def k_JI_numberOfTrailingZeros_34 (d : Nat) (x0 : Int32) (x1 : Int32) (h : sk_H) : Option (sk_H × Int32) := sk_XT sk_tab sk_rec t_I d 236 (34, [some (.inl x0), some (.inl x1)], [], h)
noncomputable def k_JI_numberOfTrailingZeros_62 (d : Nat) (x0 : Int32) (x1 : Int32) (h : sk_H) : Option (sk_H × Int32) := sk_XT sk_tab sk_rec t_I d 236 (62, [some (.inl x0), some (.inl x1)], [], h)
noncomputable def c_JI_bitCount (d : Nat) (x0 : Int32) (h : sk_H) : Option (sk_H × Int32) := sk_XT sk_tab sk_rec t_I d 237 (0, [some (.inl x0)], [], h)
noncomputable def c_JL_numberOfTrailingZeros (d : Nat) (x0 : Int64) (h : sk_H) : Option (sk_H × Int32) := sk_XT sk_tab sk_rec t_I d 238 (0, [some (.inr (.inl x0)), none, none], [], h)
noncomputable def c_JL_bitCount (d : Nat) (x0 : Int64) (h : sk_H) : Option (sk_H × Int32) := sk_XT sk_tab sk_rec t_I d 239 (0, [some (.inr (.inl x0)), none], [], h)
noncomputable def c_JM_max (d : Nat) (x0 : Int32) (x1 : Int32) (h : sk_H) : Option (sk_H × Int32) := sk_XT sk_tab sk_rec t_I d 240 (0, [some (.inl x0), some (.inl x1)], [], h)
noncomputable def c_JM_min (d : Nat) (x0 : Int32) (x1 : Int32) (h : sk_H) : Option (sk_H × Int32) := sk_XT sk_tab sk_rec t_I d 241 (0, [some (.inl x0), some (.inl x1)], [], h)
noncomputable def c_JS_length (d : Nat) (x0 : Option Nat) (h : sk_H) : Option (sk_H × Int32) := sk_XT sk_tab sk_rec t_I d 242 (0, [some (.inr (.inr x0))], [], h)
noncomputable def c_JS_charAt (d : Nat) (x0 : Option Nat) (x1 : Int32) (h : sk_H) : Option (sk_H × Int32) := sk_XT sk_tab sk_rec t_I d 243 (0, [some (.inr (.inr x0)), some (.inl x1)], [], h)
noncomputable def c_JS_coder (d : Nat) (x0 : Option Nat) (h : sk_H) : Option (sk_H × Int32) := sk_XT sk_tab sk_rec t_I d 244 (0, [some (.inr (.inr x0))], [], h)
noncomputable def c_JS_isLatin1 (d : Nat) (x0 : Option Nat) (h : sk_H) : Option (sk_H × Int32) := sk_XT sk_tab sk_rec t_I d 245 (0, [some (.inr (.inr x0))], [], h)
noncomputable def c_JS_checkIndex (d : Nat) (x0 : Int32) (x1 : Int32) (h : sk_H) : Option (sk_H) := sk_XT sk_tab sk_rec t_V d 246 (0, [some (.inl x0), some (.inl x1)], [], h)
noncomputable def c_JT_charAt (d : Nat) (x0 : Option Nat) (x1 : Int32) (h : sk_H) : Option (sk_H × Int32) := sk_XT sk_tab sk_rec t_I d 247 (0, [some (.inr (.inr x0)), some (.inl x1)], [], h)
noncomputable def c_JU_getChar (d : Nat) (x0 : Option Nat) (x1 : Int32) (h : sk_H) : Option (sk_H × Int32) := sk_XT sk_tab sk_rec t_I d 248 (0, [some (.inr (.inr x0)), some (.inl x1)], [], h)
noncomputable def k_JU_getChar_28 (d : Nat) (x0 : Option Nat) (x1 : Int32) (h : sk_H) : Option (sk_H × Int32) := sk_XT sk_tab sk_rec t_I d 248 (28, [some (.inr (.inr x0)), some (.inl x1)], [], h)
noncomputable def c_JU_length (d : Nat) (x0 : Option Nat) (h : sk_H) : Option (sk_H × Int32) := sk_XT sk_tab sk_rec t_I d 249 (0, [some (.inr (.inr x0))], [], h)
noncomputable def c_JU_charAt (d : Nat) (x0 : Option Nat) (x1 : Int32) (h : sk_H) : Option (sk_H × Int32) := sk_XT sk_tab sk_rec t_I d 250 (0, [some (.inr (.inr x0)), some (.inl x1)], [], h)
noncomputable def c_JU_checkIndex (d : Nat) (x0 : Int32) (x1 : Option Nat) (h : sk_H) : Option (sk_H) := sk_XT sk_tab sk_rec t_V d 251 (0, [some (.inl x0), some (.inr (.inr x1))], [], h)
noncomputable def c_JP_checkIndex (d : Nat) (x0 : Int32) (x1 : Int32) (x2 : Option Nat) (h : sk_H) : Option (sk_H × Int32) := sk_XT sk_tab sk_rec t_I d 252 (0, [some (.inl x0), some (.inl x1), some (.inr (.inr x2))], [], h)
noncomputable def c_L_law (d : Nat) (x0 : Option Nat) (h : sk_H) : Option (sk_H × Int32) := sk_XT sk_tab sk_rec t_I d 253 (0, [some (.inr (.inr x0)), none, none, none], [], h)
noncomputable def k_L_law_18 (d : Nat) (x0 : Option Nat) (x1 : Option Nat) (x2 : Option Nat) (x3 : Int32) (h : sk_H) : Option (sk_H × Int32) := sk_XT sk_tab sk_rec t_I d 253 (18, [some (.inr (.inr x0)), some (.inr (.inr x1)), some (.inr (.inr x2)), some (.inl x3)], [], h)
noncomputable def k_L_law_881 (d : Nat) (x0 : Option Nat) (x1 : Option Nat) (x2 : Option Nat) (x3 : Int32) (h : sk_H) : Option (sk_H × Int32) := sk_XT sk_tab sk_rec t_I d 253 (881, [some (.inr (.inr x0)), some (.inr (.inr x1)), some (.inr (.inr x2)), some (.inl x3)], [], h)
end
section
set_option maxRecDepth 100000 in
theorem e_Sk_init (d : Nat) (x0 : Nat) (x1 : Int32) (x2 : Int32) (x3 : Int32) (x4 : Int32) (x5 : Int32) (x6 : Int32) (h : sk_H) : c_Sk_init d (some x0) x1 x2 x3 x4 x5 x6 h =
  if hK h x0 = 10 then
  let h1 := wI h x0 0 x1
  if hK h1 x0 = 10 then
  let h2 := wI h1 x0 1 x2
  if hK h2 x0 = 10 then
  let h3 := wI h2 x0 2 x3
  if hK h3 x0 = 10 then
  let h4 := wI h3 x0 3 x4
  if hK h4 x0 = 10 then
  let h5 := wI h4 x0 4 (x5 &&& (x4 ^^^ ((-1) : Int32)))
  if hK h5 x0 = 10 then
  let h6 := wI h5 x0 5 (x6 &&& (x4 ^^^ ((-1) : Int32)))
  if x2 ≤ 0 then
    if hK h6 x0 = 10 then
    let h7 := wJ h6 x0 6 (0 : Int64)
    some h7
    else none
  else
    if a_any (hK h6 1) = true then
    if (Int32.ofNat (hN h6 1)) ≤ x2 then
      if hK h6 x0 = 10 then
      let h8 := wJ h6 x0 6 (0 : Int64)
      some h8
      else none
    else
      if (hK h6 1 = 102 ∨ hK h6 1 = 202) ∧ sk_in x2 (hN h6 1) then
      if hK h6 x0 = 10 then
      let h9 := wJ h6 x0 6 (hJ h6 1 x2.toNatClampNeg)
      some h9
      else none
      else none
    else none
  else none
  else none
  else none
  else none
  else none
  else none := (sk_XT_evL sk_rec t_V d 76 44 _ (fun _ => rfl)).trans rfl
set_option maxRecDepth 100000 in
theorem e_Ta_fillClever (d : Nat) (x0 : Nat) (h : sk_H) : c_Ta_fillClever d (some x0) h =
  if hK h x0 = 11 then
  Option.bind (hR h x0 0) fun a1 => if hK h a1 = 2 then
  if (hI h a1 6) = 0 then
    k_Ta_fillClever_20 d (some x0) (0 : Int32) (0 : Int32) h
  else
    k_Ta_fillClever_20 d (some x0) (10000 : Int32) (0 : Int32) h
  else none
  else none := (sk_XT_evL sk_rec t_V d 90 99 _ (fun _ => rfl)).trans rfl
set_option maxRecDepth 100000 in
theorem e_Ta_fillClever_20 (d : Nat) (x0 : Nat) (x1 : Int32) (x2 : Int32) (h : sk_H) : k_Ta_fillClever_20 d (some x0) x1 x2 h =
  if hK h x0 = 11 then
  if (hI h x0 2) ≤ x2 then
    if hK h x0 = 11 ∧ ((1 : Int32) = 0 ∨ (1 : Int32) = 1) then
    let h1 := wI h x0 13 (1 : Int32)
    some h1
    else none
  else
    if hK h x0 = 11 then
    Option.bind (hR h x0 0) fun a2 => if hK h a2 = 2 then
    Option.bind (hR h a2 14) fun a3 => if a_any (hK h a3) = true then
    k_Ta_fillClever_53 d (some x0) x1 x2 (0 : Int32) (0 : Int32) (0 : Int32) (hR h a2 14) (Int32.ofNat (hN h a3)) (0 : Int32) h
    else none
    else none
    else none
  else none := (sk_XT_evL sk_rec t_V d 90 99 _ (fun _ => rfl)).trans rfl
set_option maxRecDepth 100000 in
theorem e_Ta_fillClever_53 (d : Nat) (x0 : Nat) (x1 : Int32) (x2 : Int32) (x3 : Int32) (x4 : Int32) (x5 : Int32) (x6 : Option Nat) (x7 : Int32) (x8 : Int32) (h : sk_H) : k_Ta_fillClever_53 d (some x0) x1 x2 x3 x4 x5 x6 x7 x8 h =
  if x7 ≤ x8 then
    if hK h x0 = 11 then
    if ¬ x5 = 0 then
      k_Ta_fillClever_142 d (some x0) x1 x2 x4 x5 x3 x2 (hR h x0 7) h
    else
      k_Ta_fillClever_142 d (some x0) x1 x2 x4 x5 x1 x2 (hR h x0 7) h
    else none
  else
    Option.bind x6 fun a1 => if a_ref (hK h a1) = true ∧ sk_in x8 (hN h a1) then
    if hK h x0 = 11 then
    Option.bind (hR h x0 0) fun a8 => if hK h a8 = 2 then
    Option.bind (c_Al_allows d (hR h x0 0) x2 (hR h a1 x8.toNatClampNeg) h) fun q2 =>
    if q2.2 = 0 then
      k_Ta_fillClever_53 d (some x0) x1 x2 x3 x4 x5 x6 x7 (x8 + 1) q2.1
    else
      if hK q2.1 x0 = 11 then
      Option.bind (hR h a1 x8.toNatClampNeg) fun a3 => if hK q2.1 a3 = 10 then
      Option.bind (hR q2.1 x0 8) fun a4 => if (hK q2.1 a4 = 101 ∨ hK q2.1 a4 = 201) ∧ sk_in (x2 &&& ((hI q2.1 a3 3) ^^^ ((-1) : Int32))) (hN q2.1 a4) then
      Option.bind (c_JM_max d x3 (hI q2.1 a4 (x2 &&& ((hI q2.1 a3 3) ^^^ ((-1) : Int32))).toNatClampNeg) q2.1) fun q5 =>
      if hK q5.1 x0 = 11 then
      Option.bind (hR h a1 x8.toNatClampNeg) fun a6 => if hK q5.1 a6 = 10 then
      Option.bind (hR q5.1 x0 7) fun a7 => if (hK q5.1 a7 = 101 ∨ hK q5.1 a7 = 201) ∧ sk_in (x2 &&& ((hI q5.1 a6 3) ^^^ ((-1) : Int32))) (hN q5.1 a7) then
      k_Ta_fillClever_53 d (some x0) x1 x2 q5.2 (x4 + (hI q5.1 a7 (x2 &&& ((hI q5.1 a6 3) ^^^ ((-1) : Int32))).toNatClampNeg)) (x5 + 1) x6 x7 (x8 + 1) q5.1
      else none
      else none
      else none
      else none
      else none
      else none
    else none
    else none
    else none := (sk_XT_evL sk_rec t_V d 90 99 _ (fun _ => rfl)).trans rfl
set_option maxRecDepth 100000 in
theorem e_Ta_fillClever_142 (d : Nat) (x0 : Nat) (x1 : Int32) (x2 : Int32) (x4 : Int32) (x5 : Int32) (s0 : Int32) (s1 : Int32) (s2 : Option Nat) (h : sk_H) : k_Ta_fillClever_142 d (some x0) x1 x2 x4 x5 s0 s1 s2 h =
  Option.bind s2 fun a1 => if hK h a1 = 101 ∧ sk_in s1 (hN h a1) then
  let h2 := wI h a1 s1.toNatClampNeg s0
  if hK h2 x0 = 11 then
  if ¬ x5 = 0 then
    if ¬ x5 = 0 then
    Option.bind (hR h2 x0 8) fun a3 => if hK h2 a3 = 101 ∧ sk_in x2 (hN h2 a3) then
    let h4 := wI h2 a3 x2.toNatClampNeg (x4 / x5)
    k_Ta_fillClever_20 d (some x0) x1 (x2 + 1) h4
    else none
    else none
  else
    Option.bind (hR h2 x0 8) fun a5 => if hK h2 a5 = 101 ∧ sk_in x2 (hN h2 a5) then
    let h6 := wI h2 a5 x2.toNatClampNeg ((10000 : Int32) - x1)
    k_Ta_fillClever_20 d (some x0) x1 (x2 + 1) h6
    else none
  else none
  else none := (sk_XT_evL sk_rec t_V d 90 99 _ (fun _ => rfl)).trans rfl
set_option maxRecDepth 100000 in
theorem e_SR_init (d : Nat) (x0 : Nat) (h : sk_H) : c_SR_init d (some x0) h =
  let n1 := hn h
  let h2 := hnew h 105 400
  if hK h2 x0 = 12 then
  let h3 := wR h2 x0 0 (some n1)
  let n4 := hn h3
  let h5 := hnew h3 106 6
  if hK h5 x0 = 12 then
  let h6 := wR h5 x0 2 (some n4)
  let n7 := hn h6
  let h8 := hnew h6 9 8
  Option.bind (c_St_init d (some n7) h8) fun q9 =>
  if hK q9 x0 = 12 then
  let h10 := wR q9 x0 4 (some n7)
  let n11 := hn h10
  let h12 := hnew h10 107 4
  if hK h12 x0 = 12 then
  let h13 := wR h12 x0 5 (some n11)
  let n14 := hn h13
  let h15 := hnew h13 1 5
  Option.bind (c_Ac_init d (some n14) h15) fun q16 =>
  if hK q16 x0 = 12 then
  let h17 := wR q16 x0 6 (some n14)
  let n18 := hn h17
  let h19 := hnew h17 11 14
  Option.bind (c_Ta_init d (some n18) h19) fun q20 =>
  if hK q20 x0 = 12 then
  let h21 := wR q20 x0 7 (some n18)
  let n22 := hn h21
  let h23 := hnew h21 4 9
  Option.bind (c_Bo_init d (some n22) h23) fun q24 =>
  if hK q24 x0 = 12 then
  let h25 := wR q24 x0 8 (some n22)
  some h25
  else none
  else none
  else none
  else none
  else none
  else none
  else none := (sk_XT_evL sk_rec t_V d 92 37 _ (fun _ => rfl)).trans rfl
set_option maxRecDepth 100000 in
theorem e_SR_knew (d : Nat) (x0 : Nat) (x1 : Int32) (x2 : Int32) (h : sk_H) : c_SR_knew d (some x0) x1 x2 h =
  if hK h x0 = 12 then
  Option.bind (hR h x0 4) fun a1 => if hK h a1 = 9 then
  if (hR h a1 0) = none then
    some (h, ((-1) : Int32))
  else
    if x1 < 0 then
      some (h, ((-1) : Int32))
    else
      if (1 : Int32) < x1 then
        some (h, ((-1) : Int32))
      else
        if x2 < 0 then
          some (h, ((-1) : Int32))
        else
          if x2 ≤ (3 : Int32) then
            k_SR_knew_44 d (some x0) x1 x2 (0 : Int32) (0 : Int32) (0 : Int32) (0 : Int32) (0 : Int32) h
          else
            some (h, ((-1) : Int32))
  else none
  else none := (sk_XT_evL sk_rec t_I d 117 89 _ (fun _ => rfl)).trans rfl
set_option maxRecDepth 100000 in
theorem e_SR_knew_44 (d : Nat) (x0 : Nat) (x1 : Int32) (x2 : Int32) (x3 : Int32) (x4 : Int32) (x5 : Int32) (x6 : Int32) (x7 : Int32) (h : sk_H) : k_SR_knew_44 d (some x0) x1 x2 x3 x4 x5 x6 x7 h =
  if hK h x0 = 12 then
  Option.bind (hR h x0 4) fun a12 => if hK h a12 = 9 then
  Option.bind (c_St_noted d (hR h x0 4) h) fun q1 =>
  if q1.2 ≤ x7 then
    if x2 = 0 then
      some (q1.1, x3)
    else if x2 = 1 then
      some (q1.1, x4)
    else if x2 = 2 then
      some (q1.1, x5)
    else some (q1.1, x6)
  else
    if hK q1.1 x0 = 12 then
    Option.bind (hR q1.1 x0 4) fun a11 => if hK q1.1 a11 = 9 then
    Option.bind (c_St_strokeNoted d (hR q1.1 x0 4) x7 x1 q1.1) fun q2 =>
    if ¬ q2.2 = none then
      if hK q2.1 x0 = 12 then
      if hK q2.1 x0 = 12 then
      Option.bind (hR q2.1 x0 4) fun a3 => if hK q2.1 a3 = 9 then
      Option.bind (hR q2.1 a3 6) fun a4 => if (hK q2.1 a4 = 101 ∨ hK q2.1 a4 = 201) ∧ sk_in x7 (hN q2.1 a4) then
      Option.bind (hR q2.1 x0 7) fun a10 => if hK q2.1 a10 = 11 then
      Option.bind (c_Ta_canWin d (hR q2.1 x0 7) (hI q2.1 a4 x7.toNatClampNeg) q2.1) fun q5 =>
      if q5.2 = 0 then
        k_SR_knew_44 d (some x0) x1 x2 (x3 + 1) x4 x5 x6 (x7 + 1) q5.1
      else
        if hK q5.1 x0 = 12 then
        if hK q5.1 x0 = 12 then
        Option.bind (hR q5.1 x0 4) fun a6 => if hK q5.1 a6 = 9 then
        Option.bind (hR q5.1 a6 6) fun a7 => if (hK q5.1 a7 = 101 ∨ hK q5.1 a7 = 201) ∧ sk_in x7 (hN q5.1 a7) then
        Option.bind (hR q5.1 x0 7) fun a9 => if hK q5.1 a9 = 11 then
        Option.bind (c_Ta_winsBy d (hR q5.1 x0 7) (hI q5.1 a7 x7.toNatClampNeg) q2.2 q5.1) fun q8 =>
        if q8.2 = 0 then
          if q8.2 = 0 then
            k_SR_knew_44 d (some x0) x1 x2 (x3 + 1) (x4 + 1) (x5 + (0 : Int32)) (x3 + 1) (x7 + 1) q8.1
          else
            k_SR_knew_44 d (some x0) x1 x2 (x3 + 1) (x4 + 1) (x5 + (0 : Int32)) x6 (x7 + 1) q8.1
        else
          if q8.2 = 0 then
            k_SR_knew_44 d (some x0) x1 x2 (x3 + 1) (x4 + 1) (x5 + (1 : Int32)) (x3 + 1) (x7 + 1) q8.1
          else
            k_SR_knew_44 d (some x0) x1 x2 (x3 + 1) (x4 + 1) (x5 + (1 : Int32)) x6 (x7 + 1) q8.1
        else none
        else none
        else none
        else none
        else none
      else none
      else none
      else none
      else none
      else none
    else
      k_SR_knew_44 d (some x0) x1 x2 x3 x4 x5 x6 (x7 + 1) q2.1
    else none
    else none
  else none
  else none := (sk_XT_evL sk_rec t_I d 117 89 _ (fun _ => rfl)).trans rfl
set_option maxRecDepth 100000 in
theorem e_M_isRowHere (d : Nat) (x0 : Nat) (x1 : Int32) (h : sk_H) : c_M_isRowHere d (some x0) x1 h =
  if hK h x0 = 13 then
  Option.bind (hR h x0 7) fun a1 => if (hK h a1 = 101 ∨ hK h a1 = 201) ∧ sk_in (2 : Int32) (hN h a1) then
  if ¬ (hI h a1 (2 : Int32).toNatClampNeg) = (4 : Int32) then
    if hK h x0 = 13 then
    Option.bind (c_M_passWord d (some x0) h) fun q2 =>
    if hK q2 x0 = 13 then
    Option.bind (c_M_see d (some x0) q2) fun q3 =>
    if hK q3.1 x0 = 13 then
    Option.bind (c_M_isPlaceHere d (some x0) q3.1) fun q4 =>
    if ¬ q4.2 = 0 then
      if hK q4.1 x0 = 13 then
      Option.bind (hR q4.1 x0 7) fun a5 => if (hK q4.1 a5 = 101 ∨ hK q4.1 a5 = 201) ∧ sk_in (2 : Int32) (hN q4.1 a5) then
      if hK q4.1 x0 = 13 then
      if hK q4.1 x0 = 13 then
      Option.bind (hR q4.1 x0 7) fun a6 => if (hK q4.1 a6 = 101 ∨ hK q4.1 a6 = 201) ∧ sk_in (1 : Int32) (hN q4.1 a6) then
      Option.bind (hR q4.1 x0 7) fun a7 => if hK q4.1 a7 = 101 ∧ sk_in ((12 : Int32) + (hI q4.1 a5 (2 : Int32).toNatClampNeg)) (hN q4.1 a7) then
      let h8 := wI q4.1 a7 ((12 : Int32) + (hI q4.1 a5 (2 : Int32).toNatClampNeg)).toNatClampNeg (hI q4.1 a6 (1 : Int32).toNatClampNeg)
      if hK h8 x0 = 13 then
      Option.bind (hR h8 x0 7) fun a9 => if hK h8 a9 = 101 ∧ sk_in ((16 : Int32) + (hI q4.1 a5 (2 : Int32).toNatClampNeg)) (hN h8 a9) then
      let h10 := wI h8 a9 ((16 : Int32) + (hI q4.1 a5 (2 : Int32).toNatClampNeg)).toNatClampNeg (0 : Int32)
      if hK h10 x0 = 13 then
      Option.bind (hR h10 x0 7) fun a11 => if hK h10 a11 = 101 ∧ sk_in ((20 : Int32) + (hI q4.1 a5 (2 : Int32).toNatClampNeg)) (hN h10 a11) then
      let h12 := wI h10 a11 ((20 : Int32) + (hI q4.1 a5 (2 : Int32).toNatClampNeg)).toNatClampNeg (0 : Int32)
      k_M_isRowHere_85 d (some x0) (hI q4.1 a5 (2 : Int32).toNatClampNeg) h12
      else none
      else none
      else none
      else none
      else none
      else none
      else none
      else none
      else none
      else none
    else
      if hK q4.1 x0 = 13 then
      if hK q4.1 x0 = 13 then
      Option.bind (c_M_fails d (some x0) (0 : Int32) (hI q4.1 x0 8) q4.1) fun q13 =>
      if q13.2 = 0 ∨ q13.2 = 1 then some (q13.1, q13.2) else none
      else none
      else none
    else none
    else none
    else none
  else
    if hK h x0 = 13 then
    Option.bind (c_M_fails d (some x0) (4 : Int32) x1 h) fun q14 =>
    if q14.2 = 0 ∨ q14.2 = 1 then some (q14.1, q14.2) else none
    else none
  else none
  else none := (sk_XT_evL sk_rec t_I d 157 139 _ (fun _ => rfl)).trans rfl
set_option maxRecDepth 100000 in
theorem e_M_isRowHere_85 (d : Nat) (x0 : Nat) (x2 : Int32) (h : sk_H) : k_M_isRowHere_85 d (some x0) x2 h =
  if hK h x0 = 13 then
  Option.bind (c_M_isPlaceHere d (some x0) h) fun q1 =>
  if q1.2 = 0 then
    if hK q1.1 x0 = 13 then
    Option.bind (hR q1.1 x0 7) fun a2 => if (hK q1.1 a2 = 101 ∨ hK q1.1 a2 = 201) ∧ sk_in (2 : Int32) (hN q1.1 a2) then
    Option.bind (hR q1.1 x0 7) fun a3 => if hK q1.1 a3 = 101 ∧ sk_in (2 : Int32) (hN q1.1 a3) then
    let h4 := wI q1.1 a3 (2 : Int32).toNatClampNeg ((hI q1.1 a2 (2 : Int32).toNatClampNeg) + (1 : Int32))
    if hK h4 x0 = 13 then
    if hK h4 x0 = 13 then
    Option.bind (c_M_isDigit d (some x0) (hI h4 x0 8) h4) fun q5 =>
    if q5.2 = 0 then
      some (q5.1, (1 : Int32))
    else
      if hK q5.1 x0 = 13 then
      if hK q5.1 x0 = 13 then
      Option.bind (c_M_fails d (some x0) (0 : Int32) (hI q5.1 x0 8) q5.1) fun q6 =>
      if q6.2 = 0 then
        some (q6.1, (0 : Int32))
      else
        some (q6.1, (1 : Int32))
      else none
      else none
    else none
    else none
    else none
    else none
    else none
  else
    if hK q1.1 x0 = 13 then
    Option.bind (hR q1.1 x0 7) fun a7 => if (hK q1.1 a7 = 101 ∨ hK q1.1 a7 = 201) ∧ sk_in (1 : Int32) (hN q1.1 a7) then
    if ¬ (hI q1.1 a7 (1 : Int32).toNatClampNeg) = (12 : Int32) then
      if hK q1.1 x0 = 13 then
      if hK q1.1 x0 = 13 then
      Option.bind (hR q1.1 x0 0) fun a8 => if (hK q1.1 a8 = 103 ∨ hK q1.1 a8 = 104 ∨ hK q1.1 a8 = 204) ∧ sk_in (hI q1.1 x0 8) (hN q1.1 a8) then
      if ¬ (hI q1.1 a8 (hI q1.1 x0 8).toNatClampNeg) = (49 : Int32) then
        k_M_isRowHere_145 d (some x0) x2 q1.1
      else
        if hK q1.1 x0 = 13 then
        Option.bind (hR q1.1 x0 7) fun a9 => if (hK q1.1 a9 = 101 ∨ hK q1.1 a9 = 201) ∧ sk_in (8 : Int32) (hN q1.1 a9) then
        if hK q1.1 x0 = 13 then
        Option.bind (hR q1.1 x0 7) fun a10 => if (hK q1.1 a10 = 101 ∨ hK q1.1 a10 = 201) ∧ sk_in (1 : Int32) (hN q1.1 a10) then
        Option.bind (hR q1.1 x0 7) fun a11 => if hK q1.1 a11 = 101 ∧ sk_in (8 : Int32) (hN q1.1 a11) then
        let h12 := wI q1.1 a11 (8 : Int32).toNatClampNeg ((hI q1.1 a9 (8 : Int32).toNatClampNeg) ||| ((1 : Int32) <<< ((hI q1.1 a10 (1 : Int32).toNatClampNeg) &&& 31)))
        k_M_isRowHere_145 d (some x0) x2 h12
        else none
        else none
        else none
        else none
        else none
      else none
      else none
      else none
    else
      if hK q1.1 x0 = 13 then
      if hK q1.1 x0 = 13 then
      Option.bind (c_M_fails d (some x0) (3 : Int32) (hI q1.1 x0 8) q1.1) fun q13 =>
      if q13.2 = 0 ∨ q13.2 = 1 then some (q13.1, q13.2) else none
      else none
      else none
    else none
    else none
  else none := (sk_XT_evL sk_rec t_I d 157 139 _ (fun _ => rfl)).trans rfl
set_option maxRecDepth 100000 in
theorem e_M_isRowHere_145 (d : Nat) (x0 : Nat) (x2 : Int32) (h : sk_H) : k_M_isRowHere_145 d (some x0) x2 h =
  if hK h x0 = 13 then
  Option.bind (hR h x0 7) fun a1 => if (hK h a1 = 101 ∨ hK h a1 = 201) ∧ sk_in (1 : Int32) (hN h a1) then
  Option.bind (hR h x0 7) fun a2 => if hK h a2 = 101 ∧ sk_in (1 : Int32) (hN h a2) then
  let h3 := wI h a2 (1 : Int32).toNatClampNeg ((hI h a1 (1 : Int32).toNatClampNeg) + (1 : Int32))
  if hK h3 x0 = 13 then
  Option.bind (hR h3 x0 7) fun a4 => if (hK h3 a4 = 101 ∨ hK h3 a4 = 201) ∧ sk_in ((16 : Int32) + x2) (hN h3 a4) then
  Option.bind (hR h3 x0 7) fun a5 => if hK h3 a5 = 101 ∧ sk_in ((16 : Int32) + x2) (hN h3 a5) then
  let h6 := wI h3 a5 ((16 : Int32) + x2).toNatClampNeg ((hI h3 a4 ((16 : Int32) + x2).toNatClampNeg) + (1 : Int32))
  if hK h6 x0 = 13 then
  if hK h6 x0 = 13 then
  let h7 := wI h6 x0 8 ((hI h6 x0 8) + (1 : Int32))
  k_M_isRowHere_85 d (some x0) x2 h7
  else none
  else none
  else none
  else none
  else none
  else none
  else none
  else none := (sk_XT_evL sk_rec t_I d 157 139 _ (fun _ => rfl)).trans rfl
set_option maxRecDepth 100000 in
theorem e_M_chanceAt (d : Nat) (x0 : Nat) (x1 : Int32) (h : sk_H) : c_M_chanceAt d (some x0) x1 h =
  k_M_chanceAt_4 d (some x0) x1 ((-1) : Int32) (0 : Int32) h := (sk_XT_evL sk_rec t_I d 209 90 _ (fun _ => rfl)).trans rfl
set_option maxRecDepth 100000 in
theorem e_M_chanceAt_4 (d : Nat) (x0 : Nat) (x1 : Int32) (x2 : Int32) (x3 : Int32) (h : sk_H) : k_M_chanceAt_4 d (some x0) x1 x2 x3 h =
  if hK h x0 = 13 then
  Option.bind (hR h x0 20) fun a1 => if (hK h a1 = 101 ∨ hK h a1 = 201) ∧ sk_in (1 : Int32) (hN h a1) then
  if (hI h a1 (1 : Int32).toNatClampNeg) ≤ x3 then
    if x2 < 0 then
      if hK h x0 = 13 then
      Option.bind (hR h x0 20) fun a2 => if (hK h a2 = 101 ∨ hK h a2 = 201) ∧ sk_in (5 : Int32) (hN h a2) then
      if ¬ (hI h a2 (5 : Int32).toNatClampNeg) = (1 : Int32) then
        some (h, (0 : Int32))
      else
        some (h, (10000 : Int32))
      else none
      else none
    else
      some (h, x2)
  else
    k_M_chanceAt_17 d (some x0) x1 x2 x3 (1 : Int32) h
  else none
  else none := (sk_XT_evL sk_rec t_I d 209 90 _ (fun _ => rfl)).trans rfl
set_option maxRecDepth 100000 in
theorem e_M_chanceAt_17 (d : Nat) (x0 : Nat) (x1 : Int32) (x2 : Int32) (x3 : Int32) (x4 : Int32) (h : sk_H) : k_M_chanceAt_17 d (some x0) x1 x2 x3 x4 h =
  if (4 : Int32) < x4 then
    k_M_chanceAt_4 d (some x0) x1 x2 (x3 + 1) h
  else
    if hK h x0 = 13 then
    Option.bind (c_M_canBeNow d (some x0) x1 x3 x4 h) fun q1 =>
    if ¬ q1.2 = 0 then
      if hK q1.1 x0 = 13 then
      Option.bind (c_M_strokeBits d (some x0) x3 x4 q1.1) fun q2 =>
      if hK q2.1 x0 = 13 then
      Option.bind (hR q2.1 x0 20) fun a3 => if (hK q2.1 a3 = 101 ∨ hK q2.1 a3 = 201) ∧ sk_in (6 : Int32) (hN q2.1 a3) then
      if hK q2.1 x0 = 13 then
      Option.bind (hR q2.1 x0 29) fun a4 => if (hK q2.1 a4 = 101 ∨ hK q2.1 a4 = 201) ∧ sk_in (x1 &&& (q2.2 ^^^ ((-1) : Int32))) (hN q2.1 a4) then
      if hK q2.1 x0 = 13 then
      Option.bind (hR q2.1 x0 20) fun a5 => if (hK q2.1 a5 = 101 ∨ hK q2.1 a5 = 201) ∧ sk_in (6 : Int32) (hN q2.1 a5) then
      if hK q2.1 x0 = 13 then
      if hK q2.1 x0 = 13 then
      Option.bind (c_M_strayed d (some x0) (x1 &&& (q2.2 ^^^ ((-1) : Int32))) x3 x4 q2.1) fun q6 =>
      Option.bind (hR q2.1 x0 29) fun a7 => if (hK q6.1 a7 = 101 ∨ hK q6.1 a7 = 201) ∧ sk_in q6.2 (hN q6.1 a7) then
      if ¬ (100 : Int32) = 0 then
      if (((((100 : Int32) - (hI q2.1 a3 (6 : Int32).toNatClampNeg)) * ((10000 : Int32) - (hI q2.1 a4 (x1 &&& (q2.2 ^^^ ((-1) : Int32))).toNatClampNeg))) + ((hI q2.1 a5 (6 : Int32).toNatClampNeg) * ((10000 : Int32) - (hI q6.1 a7 q6.2.toNatClampNeg)))) / (100 : Int32)) ≤ x2 then
        k_M_chanceAt_17 d (some x0) x1 x2 x3 (x4 + 1) q6.1
      else
        k_M_chanceAt_17 d (some x0) x1 (((((100 : Int32) - (hI q2.1 a3 (6 : Int32).toNatClampNeg)) * ((10000 : Int32) - (hI q2.1 a4 (x1 &&& (q2.2 ^^^ ((-1) : Int32))).toNatClampNeg))) + ((hI q2.1 a5 (6 : Int32).toNatClampNeg) * ((10000 : Int32) - (hI q6.1 a7 q6.2.toNatClampNeg)))) / (100 : Int32)) x3 (x4 + 1) q6.1
      else none
      else none
      else none
      else none
      else none
      else none
      else none
      else none
      else none
      else none
      else none
    else
      k_M_chanceAt_17 d (some x0) x1 x2 x3 (x4 + 1) q1.1
    else none := (sk_XT_evL sk_rec t_I d 209 90 _ (fun _ => rfl)).trans rfl
set_option maxRecDepth 100000 in
theorem e_JI_bitCount (d : Nat) (x0 : Int32) (h : sk_H) : c_JI_bitCount d x0 h =
  some (h, (((((((x0 - (((x0.toUInt32 >>> ((1 : Int32).toUInt32 &&& Int32.toUInt32 31)).toInt32) &&& (1431655765 : Int32))) &&& (858993459 : Int32)) + ((((x0 - (((x0.toUInt32 >>> ((1 : Int32).toUInt32 &&& Int32.toUInt32 31)).toInt32) &&& (1431655765 : Int32))).toUInt32 >>> ((2 : Int32).toUInt32 &&& Int32.toUInt32 31)).toInt32) &&& (858993459 : Int32))) + (((((x0 - (((x0.toUInt32 >>> ((1 : Int32).toUInt32 &&& Int32.toUInt32 31)).toInt32) &&& (1431655765 : Int32))) &&& (858993459 : Int32)) + ((((x0 - (((x0.toUInt32 >>> ((1 : Int32).toUInt32 &&& Int32.toUInt32 31)).toInt32) &&& (1431655765 : Int32))).toUInt32 >>> ((2 : Int32).toUInt32 &&& Int32.toUInt32 31)).toInt32) &&& (858993459 : Int32))).toUInt32 >>> ((4 : Int32).toUInt32 &&& Int32.toUInt32 31)).toInt32)) &&& (252645135 : Int32)) + (((((((x0 - (((x0.toUInt32 >>> ((1 : Int32).toUInt32 &&& Int32.toUInt32 31)).toInt32) &&& (1431655765 : Int32))) &&& (858993459 : Int32)) + ((((x0 - (((x0.toUInt32 >>> ((1 : Int32).toUInt32 &&& Int32.toUInt32 31)).toInt32) &&& (1431655765 : Int32))).toUInt32 >>> ((2 : Int32).toUInt32 &&& Int32.toUInt32 31)).toInt32) &&& (858993459 : Int32))) + (((((x0 - (((x0.toUInt32 >>> ((1 : Int32).toUInt32 &&& Int32.toUInt32 31)).toInt32) &&& (1431655765 : Int32))) &&& (858993459 : Int32)) + ((((x0 - (((x0.toUInt32 >>> ((1 : Int32).toUInt32 &&& Int32.toUInt32 31)).toInt32) &&& (1431655765 : Int32))).toUInt32 >>> ((2 : Int32).toUInt32 &&& Int32.toUInt32 31)).toInt32) &&& (858993459 : Int32))).toUInt32 >>> ((4 : Int32).toUInt32 &&& Int32.toUInt32 31)).toInt32)) &&& (252645135 : Int32)).toUInt32 >>> ((8 : Int32).toUInt32 &&& Int32.toUInt32 31)).toInt32)) + ((((((((x0 - (((x0.toUInt32 >>> ((1 : Int32).toUInt32 &&& Int32.toUInt32 31)).toInt32) &&& (1431655765 : Int32))) &&& (858993459 : Int32)) + ((((x0 - (((x0.toUInt32 >>> ((1 : Int32).toUInt32 &&& Int32.toUInt32 31)).toInt32) &&& (1431655765 : Int32))).toUInt32 >>> ((2 : Int32).toUInt32 &&& Int32.toUInt32 31)).toInt32) &&& (858993459 : Int32))) + (((((x0 - (((x0.toUInt32 >>> ((1 : Int32).toUInt32 &&& Int32.toUInt32 31)).toInt32) &&& (1431655765 : Int32))) &&& (858993459 : Int32)) + ((((x0 - (((x0.toUInt32 >>> ((1 : Int32).toUInt32 &&& Int32.toUInt32 31)).toInt32) &&& (1431655765 : Int32))).toUInt32 >>> ((2 : Int32).toUInt32 &&& Int32.toUInt32 31)).toInt32) &&& (858993459 : Int32))).toUInt32 >>> ((4 : Int32).toUInt32 &&& Int32.toUInt32 31)).toInt32)) &&& (252645135 : Int32)) + (((((((x0 - (((x0.toUInt32 >>> ((1 : Int32).toUInt32 &&& Int32.toUInt32 31)).toInt32) &&& (1431655765 : Int32))) &&& (858993459 : Int32)) + ((((x0 - (((x0.toUInt32 >>> ((1 : Int32).toUInt32 &&& Int32.toUInt32 31)).toInt32) &&& (1431655765 : Int32))).toUInt32 >>> ((2 : Int32).toUInt32 &&& Int32.toUInt32 31)).toInt32) &&& (858993459 : Int32))) + (((((x0 - (((x0.toUInt32 >>> ((1 : Int32).toUInt32 &&& Int32.toUInt32 31)).toInt32) &&& (1431655765 : Int32))) &&& (858993459 : Int32)) + ((((x0 - (((x0.toUInt32 >>> ((1 : Int32).toUInt32 &&& Int32.toUInt32 31)).toInt32) &&& (1431655765 : Int32))).toUInt32 >>> ((2 : Int32).toUInt32 &&& Int32.toUInt32 31)).toInt32) &&& (858993459 : Int32))).toUInt32 >>> ((4 : Int32).toUInt32 &&& Int32.toUInt32 31)).toInt32)) &&& (252645135 : Int32)).toUInt32 >>> ((8 : Int32).toUInt32 &&& Int32.toUInt32 31)).toInt32)).toUInt32 >>> ((16 : Int32).toUInt32 &&& Int32.toUInt32 31)).toInt32)) &&& (63 : Int32)) := (sk_XT_evL sk_rec t_I d 237 44 _ (fun _ => rfl)).trans rfl
end
