section
-- ===== PART A: goes FIRST, ahead of the names: the tables' words, and 'selects' of the private methods out of them =====
/-- a private method of a class that the tables say can be made, by its rows of tables_1 -/
def lw_okq (q : MethodName × Nat) : Prop := (q.1.cls ≠ "java/lang/invoke/MethodHandle" ∧ q.1.cls ≠ "java/lang/invoke/VarHandle") ∧ Cond.instantiable q.1.cls q.2 ∈ tables_1 ∧ Cond.privateMethod q.1 ∈ tables_1 ∧ Cond.instanceMethod q.1 ∈ tables_1
theorem lw_p0 : lw_okq (⟨"SkittleRow", "putBytes", "(I)V"⟩, 9) := ⟨⟨by decide +kernel, by decide +kernel⟩, List.mem_of_getElem? (i := 22) (by decide +kernel), List.mem_of_getElem? (i := 326) (by decide +kernel), List.mem_of_getElem? (i := 327) (by decide +kernel)⟩
theorem lw_p1 : lw_okq (⟨"SkittleRow$AlleyReader", "readClause", "(I)V"⟩, 2) := ⟨⟨by decide +kernel, by decide +kernel⟩, List.mem_of_getElem? (i := 363) (by decide +kernel), List.mem_of_getElem? (i := 382) (by decide +kernel), List.mem_of_getElem? (i := 383) (by decide +kernel)⟩
theorem lw_p2 : lw_okq (⟨"SkittleRow$Reader", "isWord", "(Ljava/lang/String;II)Z"⟩, 4) := ⟨⟨by decide +kernel, by decide +kernel⟩, List.mem_of_getElem? (i := 338) (by decide +kernel), List.mem_of_getElem? (i := 443) (by decide +kernel), List.mem_of_getElem? (i := 444) (by decide +kernel)⟩
theorem lw_p3 : lw_okq (⟨"SkittleRow$AlleyReader", "isTooMany", "(II)Z"⟩, 2) := ⟨⟨by decide +kernel, by decide +kernel⟩, List.mem_of_getElem? (i := 363) (by decide +kernel), List.mem_of_getElem? (i := 451) (by decide +kernel), List.mem_of_getElem? (i := 452) (by decide +kernel)⟩
theorem lw_p4 : lw_okq (⟨"SkittleRow$AlleyReader", "readRow", "()V"⟩, 2) := ⟨⟨by decide +kernel, by decide +kernel⟩, List.mem_of_getElem? (i := 363) (by decide +kernel), List.mem_of_getElem? (i := 467) (by decide +kernel), List.mem_of_getElem? (i := 468) (by decide +kernel)⟩
theorem lw_p5 : lw_okq (⟨"SkittleRow$AlleyReader", "readRing", "()V"⟩, 2) := ⟨⟨by decide +kernel, by decide +kernel⟩, List.mem_of_getElem? (i := 363) (by decide +kernel), List.mem_of_getElem? (i := 487) (by decide +kernel), List.mem_of_getElem? (i := 488) (by decide +kernel)⟩
theorem lw_p6 : lw_okq (⟨"SkittleRow$AlleyReader", "readHit", "()V"⟩, 2) := ⟨⟨by decide +kernel, by decide +kernel⟩, List.mem_of_getElem? (i := 363) (by decide +kernel), List.mem_of_getElem? (i := 491) (by decide +kernel), List.mem_of_getElem? (i := 492) (by decide +kernel)⟩
theorem lw_p7 : lw_okq (⟨"SkittleRow$Alley", "listStrokes", "()V"⟩, 17) := ⟨⟨by decide +kernel, by decide +kernel⟩, List.mem_of_getElem? (i := 111) (by decide +kernel), List.mem_of_getElem? (i := 508) (by decide +kernel), List.mem_of_getElem? (i := 509) (by decide +kernel)⟩
theorem lw_p8 : lw_okq (⟨"SkittleRow$Alley", "plainLeavings", "(I)J"⟩, 17) := ⟨⟨by decide +kernel, by decide +kernel⟩, List.mem_of_getElem? (i := 111) (by decide +kernel), List.mem_of_getElem? (i := 565) (by decide +kernel), List.mem_of_getElem? (i := 566) (by decide +kernel)⟩
theorem lw_p9 : lw_okq (⟨"SkittleRow$RuleReader", "readClause", "(ILSkittleRow$Rule;)V"⟩, 4) := ⟨⟨by decide +kernel, by decide +kernel⟩, List.mem_of_getElem? (i := 597) (by decide +kernel), List.mem_of_getElem? (i := 649) (by decide +kernel), List.mem_of_getElem? (i := 650) (by decide +kernel)⟩
theorem lw_p10 : lw_okq (⟨"SkittleRow$RuleReader", "readSum", "()V"⟩, 4) := ⟨⟨by decide +kernel, by decide +kernel⟩, List.mem_of_getElem? (i := 597) (by decide +kernel), List.mem_of_getElem? (i := 657) (by decide +kernel), List.mem_of_getElem? (i := 658) (by decide +kernel)⟩
theorem lw_p11 : lw_okq (⟨"SkittleRow$RuleReader", "readValue", "()V"⟩, 4) := ⟨⟨by decide +kernel, by decide +kernel⟩, List.mem_of_getElem? (i := 597) (by decide +kernel), List.mem_of_getElem? (i := 661) (by decide +kernel), List.mem_of_getElem? (i := 662) (by decide +kernel)⟩
theorem lw_p12 : lw_okq (⟨"SkittleRow$RuleReader", "countPart", "(I)V"⟩, 4) := ⟨⟨by decide +kernel, by decide +kernel⟩, List.mem_of_getElem? (i := 597) (by decide +kernel), List.mem_of_getElem? (i := 672) (by decide +kernel), List.mem_of_getElem? (i := 673) (by decide +kernel)⟩
theorem lw_p13 : lw_okq (⟨"SkittleRow$RuleReader", "put", "(I)V"⟩, 4) := ⟨⟨by decide +kernel, by decide +kernel⟩, List.mem_of_getElem? (i := 597) (by decide +kernel), List.mem_of_getElem? (i := 676) (by decide +kernel), List.mem_of_getElem? (i := 677) (by decide +kernel)⟩
theorem lw_p14 : lw_okq (⟨"SkittleRow$RuleReader", "readTest", "(I)V"⟩, 4) := ⟨⟨by decide +kernel, by decide +kernel⟩, List.mem_of_getElem? (i := 597) (by decide +kernel), List.mem_of_getElem? (i := 690) (by decide +kernel), List.mem_of_getElem? (i := 691) (by decide +kernel)⟩
theorem lw_p15 : lw_okq (⟨"SkittleRow$RuleReader", "readPart", "(I)V"⟩, 4) := ⟨⟨by decide +kernel, by decide +kernel⟩, List.mem_of_getElem? (i := 597) (by decide +kernel), List.mem_of_getElem? (i := 694) (by decide +kernel), List.mem_of_getElem? (i := 695) (by decide +kernel)⟩
def lw_privs_1 : List (MethodName × Nat) := [(⟨"SkittleRow", "putBytes", "(I)V"⟩, 9), (⟨"SkittleRow$AlleyReader", "readClause", "(I)V"⟩, 2), (⟨"SkittleRow$Reader", "isWord", "(Ljava/lang/String;II)Z"⟩, 4), (⟨"SkittleRow$AlleyReader", "isTooMany", "(II)Z"⟩, 2), (⟨"SkittleRow$AlleyReader", "readRow", "()V"⟩, 2), (⟨"SkittleRow$AlleyReader", "readRing", "()V"⟩, 2), (⟨"SkittleRow$AlleyReader", "readHit", "()V"⟩, 2), (⟨"SkittleRow$Alley", "listStrokes", "()V"⟩, 17), (⟨"SkittleRow$Alley", "plainLeavings", "(I)J"⟩, 17), (⟨"SkittleRow$RuleReader", "readClause", "(ILSkittleRow$Rule;)V"⟩, 4), (⟨"SkittleRow$RuleReader", "readSum", "()V"⟩, 4), (⟨"SkittleRow$RuleReader", "readValue", "()V"⟩, 4), (⟨"SkittleRow$RuleReader", "countPart", "(I)V"⟩, 4), (⟨"SkittleRow$RuleReader", "put", "(I)V"⟩, 4), (⟨"SkittleRow$RuleReader", "readTest", "(I)V"⟩, 4), (⟨"SkittleRow$RuleReader", "readPart", "(I)V"⟩, 4)]
theorem lw_r1 : ∀ q ∈ lw_privs_1, lw_okq q := List.forall_mem_cons.mpr ⟨lw_p0, List.forall_mem_cons.mpr ⟨lw_p1, List.forall_mem_cons.mpr ⟨lw_p2, List.forall_mem_cons.mpr ⟨lw_p3, List.forall_mem_cons.mpr ⟨lw_p4, List.forall_mem_cons.mpr ⟨lw_p5, List.forall_mem_cons.mpr ⟨lw_p6, List.forall_mem_cons.mpr ⟨lw_p7, List.forall_mem_cons.mpr ⟨lw_p8, List.forall_mem_cons.mpr ⟨lw_p9, List.forall_mem_cons.mpr ⟨lw_p10, List.forall_mem_cons.mpr ⟨lw_p11, List.forall_mem_cons.mpr ⟨lw_p12, List.forall_mem_cons.mpr ⟨lw_p13, List.forall_mem_cons.mpr ⟨lw_p14, List.forall_mem_cons.mpr ⟨lw_p15, fun _ h => absurd h List.not_mem_nil⟩⟩⟩⟩⟩⟩⟩⟩⟩⟩⟩⟩⟩⟩⟩⟩
theorem lw_p16 : lw_okq (⟨"SkittleRow$RuleReader", "readFact", "(I)V"⟩, 4) := ⟨⟨by decide +kernel, by decide +kernel⟩, List.mem_of_getElem? (i := 597) (by decide +kernel), List.mem_of_getElem? (i := 698) (by decide +kernel), List.mem_of_getElem? (i := 699) (by decide +kernel)⟩
theorem lw_p17 : lw_okq (⟨"SkittleRow$RuleReader", "readComparison", "()V"⟩, 4) := ⟨⟨by decide +kernel, by decide +kernel⟩, List.mem_of_getElem? (i := 597) (by decide +kernel), List.mem_of_getElem? (i := 703) (by decide +kernel), List.mem_of_getElem? (i := 704) (by decide +kernel)⟩
theorem lw_p18 : lw_okq (⟨"SkittleRow$RuleReader", "readSign", "()I"⟩, 4) := ⟨⟨by decide +kernel, by decide +kernel⟩, List.mem_of_getElem? (i := 597) (by decide +kernel), List.mem_of_getElem? (i := 707) (by decide +kernel), List.mem_of_getElem? (i := 708) (by decide +kernel)⟩
theorem lw_p19 : lw_okq (⟨"SkittleRow$Tables", "fillWinning", "()V"⟩, 14) := ⟨⟨by decide +kernel, by decide +kernel⟩, List.mem_of_getElem? (i := 105) (by decide +kernel), List.mem_of_getElem? (i := 757) (by decide +kernel), List.mem_of_getElem? (i := 758) (by decide +kernel)⟩
theorem lw_p20 : lw_okq (⟨"SkittleRow$Alley", "ringLeavings", "(I)J"⟩, 17) := ⟨⟨by decide +kernel, by decide +kernel⟩, List.mem_of_getElem? (i := 111) (by decide +kernel), List.mem_of_getElem? (i := 822) (by decide +kernel), List.mem_of_getElem? (i := 823) (by decide +kernel)⟩
theorem lw_p21 : lw_okq (⟨"SkittleRow$Tables", "fillLengths", "()V"⟩, 14) := ⟨⟨by decide +kernel, by decide +kernel⟩, List.mem_of_getElem? (i := 105) (by decide +kernel), List.mem_of_getElem? (i := 850) (by decide +kernel), List.mem_of_getElem? (i := 851) (by decide +kernel)⟩
theorem lw_p22 : lw_okq (⟨"SkittleRow$Tables", "fillPlayCounts", "()V"⟩, 14) := ⟨⟨by decide +kernel, by decide +kernel⟩, List.mem_of_getElem? (i := 105) (by decide +kernel), List.mem_of_getElem? (i := 865) (by decide +kernel), List.mem_of_getElem? (i := 866) (by decide +kernel)⟩
theorem lw_p23 : lw_okq (⟨"SkittleRow", "fairSet", "()I"⟩, 9) := ⟨⟨by decide +kernel, by decide +kernel⟩, List.mem_of_getElem? (i := 22) (by decide +kernel), List.mem_of_getElem? (i := 874) (by decide +kernel), List.mem_of_getElem? (i := 875) (by decide +kernel)⟩
theorem lw_p24 : lw_okq (⟨"SkittleRow$Tables", "fillChances", "()V"⟩, 14) := ⟨⟨by decide +kernel, by decide +kernel⟩, List.mem_of_getElem? (i := 105) (by decide +kernel), List.mem_of_getElem? (i := 886) (by decide +kernel), List.mem_of_getElem? (i := 887) (by decide +kernel)⟩
theorem lw_p25 : lw_okq (⟨"SkittleRow$Tables", "fillClever", "()V"⟩, 14) := ⟨⟨by decide +kernel, by decide +kernel⟩, List.mem_of_getElem? (i := 105) (by decide +kernel), List.mem_of_getElem? (i := 898) (by decide +kernel), List.mem_of_getElem? (i := 899) (by decide +kernel)⟩
theorem lw_p26 : lw_okq (⟨"SkittleRow", "isRule", "(I)Z"⟩, 9) := ⟨⟨by decide +kernel, by decide +kernel⟩, List.mem_of_getElem? (i := 22) (by decide +kernel), List.mem_of_getElem? (i := 906) (by decide +kernel), List.mem_of_getElem? (i := 907) (by decide +kernel)⟩
theorem lw_p27 : lw_okq (⟨"SkittleRow$Bout", "playOut", "(LSkittleRow$Rule;LSkittleRow$Rule;)V"⟩, 9) := ⟨⟨by decide +kernel, by decide +kernel⟩, List.mem_of_getElem? (i := 243) (by decide +kernel), List.mem_of_getElem? (i := 914) (by decide +kernel), List.mem_of_getElem? (i := 915) (by decide +kernel)⟩
theorem lw_p28 : lw_okq (⟨"SkittleRow$Bout", "drawn", "()LSkittleRow$Stroke;"⟩, 9) := ⟨⟨by decide +kernel, by decide +kernel⟩, List.mem_of_getElem? (i := 243) (by decide +kernel), List.mem_of_getElem? (i := 918) (by decide +kernel), List.mem_of_getElem? (i := 919) (by decide +kernel)⟩
theorem lw_p29 : lw_okq (⟨"SkittleRow$Bout", "bestBy", "(LSkittleRow$Rule;)LSkittleRow$Stroke;"⟩, 9) := ⟨⟨by decide +kernel, by decide +kernel⟩, List.mem_of_getElem? (i := 243) (by decide +kernel), List.mem_of_getElem? (i := 927) (by decide +kernel), List.mem_of_getElem? (i := 928) (by decide +kernel)⟩
theorem lw_p30 : lw_okq (⟨"SkittleRow$Look", "countRuns", "(LSkittleRow$Alley;I)V"⟩, 1) := ⟨⟨by decide +kernel, by decide +kernel⟩, List.mem_of_getElem? (i := 249) (by decide +kernel), List.mem_of_getElem? (i := 937) (by decide +kernel), List.mem_of_getElem? (i := 938) (by decide +kernel)⟩
theorem lw_p31 : lw_okq (⟨"SkittleRow$Rule", "reckon", "(IILSkittleRow$Look;)J"⟩, 7) := ⟨⟨by decide +kernel, by decide +kernel⟩, List.mem_of_getElem? (i := 620) (by decide +kernel), List.mem_of_getElem? (i := 947) (by decide +kernel), List.mem_of_getElem? (i := 948) (by decide +kernel)⟩
def lw_privs_2 : List (MethodName × Nat) := [(⟨"SkittleRow$RuleReader", "readFact", "(I)V"⟩, 4), (⟨"SkittleRow$RuleReader", "readComparison", "()V"⟩, 4), (⟨"SkittleRow$RuleReader", "readSign", "()I"⟩, 4), (⟨"SkittleRow$Tables", "fillWinning", "()V"⟩, 14), (⟨"SkittleRow$Alley", "ringLeavings", "(I)J"⟩, 17), (⟨"SkittleRow$Tables", "fillLengths", "()V"⟩, 14), (⟨"SkittleRow$Tables", "fillPlayCounts", "()V"⟩, 14), (⟨"SkittleRow", "fairSet", "()I"⟩, 9), (⟨"SkittleRow$Tables", "fillChances", "()V"⟩, 14), (⟨"SkittleRow$Tables", "fillClever", "()V"⟩, 14), (⟨"SkittleRow", "isRule", "(I)Z"⟩, 9), (⟨"SkittleRow$Bout", "playOut", "(LSkittleRow$Rule;LSkittleRow$Rule;)V"⟩, 9), (⟨"SkittleRow$Bout", "drawn", "()LSkittleRow$Stroke;"⟩, 9), (⟨"SkittleRow$Bout", "bestBy", "(LSkittleRow$Rule;)LSkittleRow$Stroke;"⟩, 9), (⟨"SkittleRow$Look", "countRuns", "(LSkittleRow$Alley;I)V"⟩, 1), (⟨"SkittleRow$Rule", "reckon", "(IILSkittleRow$Look;)J"⟩, 7)]
theorem lw_r2 : ∀ q ∈ lw_privs_2, lw_okq q := List.forall_mem_cons.mpr ⟨lw_p16, List.forall_mem_cons.mpr ⟨lw_p17, List.forall_mem_cons.mpr ⟨lw_p18, List.forall_mem_cons.mpr ⟨lw_p19, List.forall_mem_cons.mpr ⟨lw_p20, List.forall_mem_cons.mpr ⟨lw_p21, List.forall_mem_cons.mpr ⟨lw_p22, List.forall_mem_cons.mpr ⟨lw_p23, List.forall_mem_cons.mpr ⟨lw_p24, List.forall_mem_cons.mpr ⟨lw_p25, List.forall_mem_cons.mpr ⟨lw_p26, List.forall_mem_cons.mpr ⟨lw_p27, List.forall_mem_cons.mpr ⟨lw_p28, List.forall_mem_cons.mpr ⟨lw_p29, List.forall_mem_cons.mpr ⟨lw_p30, List.forall_mem_cons.mpr ⟨lw_p31, fun _ h => absurd h List.not_mem_nil⟩⟩⟩⟩⟩⟩⟩⟩⟩⟩⟩⟩⟩⟩⟩⟩
theorem lw_p32 : lw_okq (⟨"SkittleRowModel", "four", "(I)V"⟩, 40) := ⟨⟨by decide +kernel, by decide +kernel⟩, List.mem_of_getElem? (i := 1020) (by decide +kernel), List.mem_of_getElem? (i := 1151) (by decide +kernel), List.mem_of_getElem? (i := 1152) (by decide +kernel)⟩
theorem lw_p33 : lw_okq (⟨"SkittleRowModel", "readsAll", "()Z"⟩, 40) := ⟨⟨by decide +kernel, by decide +kernel⟩, List.mem_of_getElem? (i := 1020) (by decide +kernel), List.mem_of_getElem? (i := 1163) (by decide +kernel), List.mem_of_getElem? (i := 1164) (by decide +kernel)⟩
theorem lw_p34 : lw_okq (⟨"SkittleRowModel", "clauseHere", "()Z"⟩, 40) := ⟨⟨by decide +kernel, by decide +kernel⟩, List.mem_of_getElem? (i := 1020) (by decide +kernel), List.mem_of_getElem? (i := 1167) (by decide +kernel), List.mem_of_getElem? (i := 1168) (by decide +kernel)⟩
theorem lw_p35 : lw_okq (⟨"SkittleRowModel", "see", "()I"⟩, 40) := ⟨⟨by decide +kernel, by decide +kernel⟩, List.mem_of_getElem? (i := 1020) (by decide +kernel), List.mem_of_getElem? (i := 1171) (by decide +kernel), List.mem_of_getElem? (i := 1172) (by decide +kernel)⟩
theorem lw_p36 : lw_okq (⟨"SkittleRowModel", "isAlleyWord", "()Z"⟩, 40) := ⟨⟨by decide +kernel, by decide +kernel⟩, List.mem_of_getElem? (i := 1020) (by decide +kernel), List.mem_of_getElem? (i := 1175) (by decide +kernel), List.mem_of_getElem? (i := 1176) (by decide +kernel)⟩
theorem lw_p37 : lw_okq (⟨"SkittleRowModel", "isWord", "(J)Z"⟩, 40) := ⟨⟨by decide +kernel, by decide +kernel⟩, List.mem_of_getElem? (i := 1020) (by decide +kernel), List.mem_of_getElem? (i := 1180) (by decide +kernel), List.mem_of_getElem? (i := 1181) (by decide +kernel)⟩
theorem lw_p38 : lw_okq (⟨"SkittleRowModel", "isLetter", "(I)Z"⟩, 40) := ⟨⟨by decide +kernel, by decide +kernel⟩, List.mem_of_getElem? (i := 1020) (by decide +kernel), List.mem_of_getElem? (i := 1184) (by decide +kernel), List.mem_of_getElem? (i := 1185) (by decide +kernel)⟩
theorem lw_p39 : lw_okq (⟨"SkittleRowModel", "fails", "(II)Z"⟩, 40) := ⟨⟨by decide +kernel, by decide +kernel⟩, List.mem_of_getElem? (i := 1020) (by decide +kernel), List.mem_of_getElem? (i := 1195) (by decide +kernel), List.mem_of_getElem? (i := 1196) (by decide +kernel)⟩
theorem lw_p40 : lw_okq (⟨"SkittleRowModel", "alleyLineHere", "(I)Z"⟩, 40) := ⟨⟨by decide +kernel, by decide +kernel⟩, List.mem_of_getElem? (i := 1020) (by decide +kernel), List.mem_of_getElem? (i := 1199) (by decide +kernel), List.mem_of_getElem? (i := 1200) (by decide +kernel)⟩
theorem lw_p41 : lw_okq (⟨"SkittleRowModel", "isAlleyHere", "(I)Z"⟩, 40) := ⟨⟨by decide +kernel, by decide +kernel⟩, List.mem_of_getElem? (i := 1020) (by decide +kernel), List.mem_of_getElem? (i := 1203) (by decide +kernel), List.mem_of_getElem? (i := 1204) (by decide +kernel)⟩
theorem lw_p42 : lw_okq (⟨"SkittleRowModel", "passWord", "()V"⟩, 40) := ⟨⟨by decide +kernel, by decide +kernel⟩, List.mem_of_getElem? (i := 1020) (by decide +kernel), List.mem_of_getElem? (i := 1207) (by decide +kernel), List.mem_of_getElem? (i := 1208) (by decide +kernel)⟩
theorem lw_p43 : lw_okq (⟨"SkittleRowModel", "numberHere", "(II)Z"⟩, 40) := ⟨⟨by decide +kernel, by decide +kernel⟩, List.mem_of_getElem? (i := 1020) (by decide +kernel), List.mem_of_getElem? (i := 1211) (by decide +kernel), List.mem_of_getElem? (i := 1212) (by decide +kernel)⟩
theorem lw_p44 : lw_okq (⟨"SkittleRowModel", "isDigit", "(I)Z"⟩, 40) := ⟨⟨by decide +kernel, by decide +kernel⟩, List.mem_of_getElem? (i := 1020) (by decide +kernel), List.mem_of_getElem? (i := 1215) (by decide +kernel), List.mem_of_getElem? (i := 1216) (by decide +kernel)⟩
theorem lw_p45 : lw_okq (⟨"SkittleRowModel", "isRowHere", "(I)Z"⟩, 40) := ⟨⟨by decide +kernel, by decide +kernel⟩, List.mem_of_getElem? (i := 1020) (by decide +kernel), List.mem_of_getElem? (i := 1222) (by decide +kernel), List.mem_of_getElem? (i := 1223) (by decide +kernel)⟩
theorem lw_p46 : lw_okq (⟨"SkittleRowModel", "isPlaceHere", "()Z"⟩, 40) := ⟨⟨by decide +kernel, by decide +kernel⟩, List.mem_of_getElem? (i := 1020) (by decide +kernel), List.mem_of_getElem? (i := 1226) (by decide +kernel), List.mem_of_getElem? (i := 1227) (by decide +kernel)⟩
theorem lw_p47 : lw_okq (⟨"SkittleRowModel", "isRingHere", "()Z"⟩, 40) := ⟨⟨by decide +kernel, by decide +kernel⟩, List.mem_of_getElem? (i := 1020) (by decide +kernel), List.mem_of_getElem? (i := 1230) (by decide +kernel), List.mem_of_getElem? (i := 1231) (by decide +kernel)⟩
def lw_privs_3 : List (MethodName × Nat) := [(⟨"SkittleRowModel", "four", "(I)V"⟩, 40), (⟨"SkittleRowModel", "readsAll", "()Z"⟩, 40), (⟨"SkittleRowModel", "clauseHere", "()Z"⟩, 40), (⟨"SkittleRowModel", "see", "()I"⟩, 40), (⟨"SkittleRowModel", "isAlleyWord", "()Z"⟩, 40), (⟨"SkittleRowModel", "isWord", "(J)Z"⟩, 40), (⟨"SkittleRowModel", "isLetter", "(I)Z"⟩, 40), (⟨"SkittleRowModel", "fails", "(II)Z"⟩, 40), (⟨"SkittleRowModel", "alleyLineHere", "(I)Z"⟩, 40), (⟨"SkittleRowModel", "isAlleyHere", "(I)Z"⟩, 40), (⟨"SkittleRowModel", "passWord", "()V"⟩, 40), (⟨"SkittleRowModel", "numberHere", "(II)Z"⟩, 40), (⟨"SkittleRowModel", "isDigit", "(I)Z"⟩, 40), (⟨"SkittleRowModel", "isRowHere", "(I)Z"⟩, 40), (⟨"SkittleRowModel", "isPlaceHere", "()Z"⟩, 40), (⟨"SkittleRowModel", "isRingHere", "()Z"⟩, 40)]
theorem lw_r3 : ∀ q ∈ lw_privs_3, lw_okq q := List.forall_mem_cons.mpr ⟨lw_p32, List.forall_mem_cons.mpr ⟨lw_p33, List.forall_mem_cons.mpr ⟨lw_p34, List.forall_mem_cons.mpr ⟨lw_p35, List.forall_mem_cons.mpr ⟨lw_p36, List.forall_mem_cons.mpr ⟨lw_p37, List.forall_mem_cons.mpr ⟨lw_p38, List.forall_mem_cons.mpr ⟨lw_p39, List.forall_mem_cons.mpr ⟨lw_p40, List.forall_mem_cons.mpr ⟨lw_p41, List.forall_mem_cons.mpr ⟨lw_p42, List.forall_mem_cons.mpr ⟨lw_p43, List.forall_mem_cons.mpr ⟨lw_p44, List.forall_mem_cons.mpr ⟨lw_p45, List.forall_mem_cons.mpr ⟨lw_p46, List.forall_mem_cons.mpr ⟨lw_p47, fun _ h => absurd h List.not_mem_nil⟩⟩⟩⟩⟩⟩⟩⟩⟩⟩⟩⟩⟩⟩⟩⟩
theorem lw_p48 : lw_okq (⟨"SkittleRowModel", "isHitHere", "()Z"⟩, 40) := ⟨⟨by decide +kernel, by decide +kernel⟩, List.mem_of_getElem? (i := 1020) (by decide +kernel), List.mem_of_getElem? (i := 1234) (by decide +kernel), List.mem_of_getElem? (i := 1235) (by decide +kernel)⟩
theorem lw_p49 : lw_okq (⟨"SkittleRowModel", "isOnceHere", "(II)Z"⟩, 40) := ⟨⟨by decide +kernel, by decide +kernel⟩, List.mem_of_getElem? (i := 1020) (by decide +kernel), List.mem_of_getElem? (i := 1238) (by decide +kernel), List.mem_of_getElem? (i := 1239) (by decide +kernel)⟩
theorem lw_p50 : lw_okq (⟨"SkittleRowModel", "isStrayHere", "()Z"⟩, 40) := ⟨⟨by decide +kernel, by decide +kernel⟩, List.mem_of_getElem? (i := 1020) (by decide +kernel), List.mem_of_getElem? (i := 1242) (by decide +kernel), List.mem_of_getElem? (i := 1243) (by decide +kernel)⟩
theorem lw_p51 : lw_okq (⟨"SkittleRowModel", "isStrokeHere", "()Z"⟩, 40) := ⟨⟨by decide +kernel, by decide +kernel⟩, List.mem_of_getElem? (i := 1020) (by decide +kernel), List.mem_of_getElem? (i := 1246) (by decide +kernel), List.mem_of_getElem? (i := 1247) (by decide +kernel)⟩
theorem lw_p52 : lw_okq (⟨"SkittleRowModel", "sum", "()Z"⟩, 40) := ⟨⟨by decide +kernel, by decide +kernel⟩, List.mem_of_getElem? (i := 1020) (by decide +kernel), List.mem_of_getElem? (i := 1250) (by decide +kernel), List.mem_of_getElem? (i := 1251) (by decide +kernel)⟩
theorem lw_p53 : lw_okq (⟨"SkittleRowModel", "term", "()Z"⟩, 40) := ⟨⟨by decide +kernel, by decide +kernel⟩, List.mem_of_getElem? (i := 1020) (by decide +kernel), List.mem_of_getElem? (i := 1254) (by decide +kernel), List.mem_of_getElem? (i := 1255) (by decide +kernel)⟩
theorem lw_p54 : lw_okq (⟨"SkittleRowModel", "value", "()Z"⟩, 40) := ⟨⟨by decide +kernel, by decide +kernel⟩, List.mem_of_getElem? (i := 1020) (by decide +kernel), List.mem_of_getElem? (i := 1258) (by decide +kernel), List.mem_of_getElem? (i := 1259) (by decide +kernel)⟩
theorem lw_p55 : lw_okq (⟨"SkittleRowModel", "makes", "(I)Z"⟩, 40) := ⟨⟨by decide +kernel, by decide +kernel⟩, List.mem_of_getElem? (i := 1020) (by decide +kernel), List.mem_of_getElem? (i := 1263) (by decide +kernel), List.mem_of_getElem? (i := 1264) (by decide +kernel)⟩
theorem lw_p56 : lw_okq (⟨"SkittleRowModel", "puts", "(II)V"⟩, 40) := ⟨⟨by decide +kernel, by decide +kernel⟩, List.mem_of_getElem? (i := 1020) (by decide +kernel), List.mem_of_getElem? (i := 1267) (by decide +kernel), List.mem_of_getElem? (i := 1268) (by decide +kernel)⟩
theorem lw_p57 : lw_okq (⟨"SkittleRowModel", "wordHere", "()I"⟩, 40) := ⟨⟨by decide +kernel, by decide +kernel⟩, List.mem_of_getElem? (i := 1020) (by decide +kernel), List.mem_of_getElem? (i := 1271) (by decide +kernel), List.mem_of_getElem? (i := 1272) (by decide +kernel)⟩
theorem lw_p58 : lw_okq (⟨"SkittleRowModel", "takesWord", "(J)Z"⟩, 40) := ⟨⟨by decide +kernel, by decide +kernel⟩, List.mem_of_getElem? (i := 1020) (by decide +kernel), List.mem_of_getElem? (i := 1286) (by decide +kernel), List.mem_of_getElem? (i := 1287) (by decide +kernel)⟩
theorem lw_p59 : lw_okq (⟨"SkittleRowModel", "tested", "()Z"⟩, 40) := ⟨⟨by decide +kernel, by decide +kernel⟩, List.mem_of_getElem? (i := 1020) (by decide +kernel), List.mem_of_getElem? (i := 1290) (by decide +kernel), List.mem_of_getElem? (i := 1291) (by decide +kernel)⟩
theorem lw_p60 : lw_okq (⟨"SkittleRowModel", "fact", "()Z"⟩, 40) := ⟨⟨by decide +kernel, by decide +kernel⟩, List.mem_of_getElem? (i := 1020) (by decide +kernel), List.mem_of_getElem? (i := 1294) (by decide +kernel), List.mem_of_getElem? (i := 1295) (by decide +kernel)⟩
theorem lw_p61 : lw_okq (⟨"SkittleRowModel", "opens", "(I)Z"⟩, 40) := ⟨⟨by decide +kernel, by decide +kernel⟩, List.mem_of_getElem? (i := 1020) (by decide +kernel), List.mem_of_getElem? (i := 1299) (by decide +kernel), List.mem_of_getElem? (i := 1300) (by decide +kernel)⟩
theorem lw_p62 : lw_okq (⟨"SkittleRowModel", "compare", "()Z"⟩, 40) := ⟨⟨by decide +kernel, by decide +kernel⟩, List.mem_of_getElem? (i := 1020) (by decide +kernel), List.mem_of_getElem? (i := 1303) (by decide +kernel), List.mem_of_getElem? (i := 1304) (by decide +kernel)⟩
theorem lw_p63 : lw_okq (⟨"SkittleRowModel", "closes", "()V"⟩, 40) := ⟨⟨by decide +kernel, by decide +kernel⟩, List.mem_of_getElem? (i := 1020) (by decide +kernel), List.mem_of_getElem? (i := 1307) (by decide +kernel), List.mem_of_getElem? (i := 1308) (by decide +kernel)⟩
def lw_privs_4 : List (MethodName × Nat) := [(⟨"SkittleRowModel", "isHitHere", "()Z"⟩, 40), (⟨"SkittleRowModel", "isOnceHere", "(II)Z"⟩, 40), (⟨"SkittleRowModel", "isStrayHere", "()Z"⟩, 40), (⟨"SkittleRowModel", "isStrokeHere", "()Z"⟩, 40), (⟨"SkittleRowModel", "sum", "()Z"⟩, 40), (⟨"SkittleRowModel", "term", "()Z"⟩, 40), (⟨"SkittleRowModel", "value", "()Z"⟩, 40), (⟨"SkittleRowModel", "makes", "(I)Z"⟩, 40), (⟨"SkittleRowModel", "puts", "(II)V"⟩, 40), (⟨"SkittleRowModel", "wordHere", "()I"⟩, 40), (⟨"SkittleRowModel", "takesWord", "(J)Z"⟩, 40), (⟨"SkittleRowModel", "tested", "()Z"⟩, 40), (⟨"SkittleRowModel", "fact", "()Z"⟩, 40), (⟨"SkittleRowModel", "opens", "(I)Z"⟩, 40), (⟨"SkittleRowModel", "compare", "()Z"⟩, 40), (⟨"SkittleRowModel", "closes", "()V"⟩, 40)]
theorem lw_r4 : ∀ q ∈ lw_privs_4, lw_okq q := List.forall_mem_cons.mpr ⟨lw_p48, List.forall_mem_cons.mpr ⟨lw_p49, List.forall_mem_cons.mpr ⟨lw_p50, List.forall_mem_cons.mpr ⟨lw_p51, List.forall_mem_cons.mpr ⟨lw_p52, List.forall_mem_cons.mpr ⟨lw_p53, List.forall_mem_cons.mpr ⟨lw_p54, List.forall_mem_cons.mpr ⟨lw_p55, List.forall_mem_cons.mpr ⟨lw_p56, List.forall_mem_cons.mpr ⟨lw_p57, List.forall_mem_cons.mpr ⟨lw_p58, List.forall_mem_cons.mpr ⟨lw_p59, List.forall_mem_cons.mpr ⟨lw_p60, List.forall_mem_cons.mpr ⟨lw_p61, List.forall_mem_cons.mpr ⟨lw_p62, List.forall_mem_cons.mpr ⟨lw_p63, fun _ h => absurd h List.not_mem_nil⟩⟩⟩⟩⟩⟩⟩⟩⟩⟩⟩⟩⟩⟩⟩⟩
theorem lw_p64 : lw_okq (⟨"SkittleRowModel", "settles", "(I)V"⟩, 40) := ⟨⟨by decide +kernel, by decide +kernel⟩, List.mem_of_getElem? (i := 1020) (by decide +kernel), List.mem_of_getElem? (i := 1311) (by decide +kernel), List.mem_of_getElem? (i := 1312) (by decide +kernel)⟩
theorem lw_p65 : lw_okq (⟨"SkittleRowModel", "isInside", "()Z"⟩, 40) := ⟨⟨by decide +kernel, by decide +kernel⟩, List.mem_of_getElem? (i := 1020) (by decide +kernel), List.mem_of_getElem? (i := 1318) (by decide +kernel), List.mem_of_getElem? (i := 1319) (by decide +kernel)⟩
theorem lw_p66 : lw_okq (⟨"SkittleRowModel", "isPlace", "(I)Z"⟩, 40) := ⟨⟨by decide +kernel, by decide +kernel⟩, List.mem_of_getElem? (i := 1020) (by decide +kernel), List.mem_of_getElem? (i := 1332) (by decide +kernel), List.mem_of_getElem? (i := 1333) (by decide +kernel)⟩
theorem lw_p67 : lw_okq (⟨"SkittleRowModel", "rowOf", "(I)I"⟩, 40) := ⟨⟨by decide +kernel, by decide +kernel⟩, List.mem_of_getElem? (i := 1020) (by decide +kernel), List.mem_of_getElem? (i := 1337) (by decide +kernel), List.mem_of_getElem? (i := 1338) (by decide +kernel)⟩
theorem lw_p68 : lw_okq (⟨"SkittleRowModel", "beside", "(II)I"⟩, 40) := ⟨⟨by decide +kernel, by decide +kernel⟩, List.mem_of_getElem? (i := 1020) (by decide +kernel), List.mem_of_getElem? (i := 1341) (by decide +kernel), List.mem_of_getElem? (i := 1342) (by decide +kernel)⟩
theorem lw_p69 : lw_okq (⟨"SkittleRowModel", "isAlley", "()Z"⟩, 40) := ⟨⟨by decide +kernel, by decide +kernel⟩, List.mem_of_getElem? (i := 1020) (by decide +kernel), List.mem_of_getElem? (i := 1349) (by decide +kernel), List.mem_of_getElem? (i := 1350) (by decide +kernel)⟩
theorem lw_p70 : lw_okq (⟨"SkittleRowModel", "canBeNow", "(III)Z"⟩, 40) := ⟨⟨by decide +kernel, by decide +kernel⟩, List.mem_of_getElem? (i := 1020) (by decide +kernel), List.mem_of_getElem? (i := 1354) (by decide +kernel), List.mem_of_getElem? (i := 1355) (by decide +kernel)⟩
theorem lw_p71 : lw_okq (⟨"SkittleRowModel", "canBe", "(IIIIZ)Z"⟩, 40) := ⟨⟨by decide +kernel, by decide +kernel⟩, List.mem_of_getElem? (i := 1020) (by decide +kernel), List.mem_of_getElem? (i := 1358) (by decide +kernel), List.mem_of_getElem? (i := 1359) (by decide +kernel)⟩
theorem lw_p72 : lw_okq (⟨"SkittleRowModel", "strokeBits", "(II)I"⟩, 40) := ⟨⟨by decide +kernel, by decide +kernel⟩, List.mem_of_getElem? (i := 1020) (by decide +kernel), List.mem_of_getElem? (i := 1365) (by decide +kernel), List.mem_of_getElem? (i := 1366) (by decide +kernel)⟩
theorem lw_p73 : lw_okq (⟨"SkittleRowModel", "lastOf", "(II)I"⟩, 40) := ⟨⟨by decide +kernel, by decide +kernel⟩, List.mem_of_getElem? (i := 1020) (by decide +kernel), List.mem_of_getElem? (i := 1369) (by decide +kernel), List.mem_of_getElem? (i := 1370) (by decide +kernel)⟩
theorem lw_p74 : lw_okq (⟨"SkittleRowModel", "winsBy", "(III)Z"⟩, 40) := ⟨⟨by decide +kernel, by decide +kernel⟩, List.mem_of_getElem? (i := 1020) (by decide +kernel), List.mem_of_getElem? (i := 1373) (by decide +kernel), List.mem_of_getElem? (i := 1374) (by decide +kernel)⟩
theorem lw_p75 : lw_okq (⟨"SkittleRowModel", "isWonAt", "(I)Z"⟩, 40) := ⟨⟨by decide +kernel, by decide +kernel⟩, List.mem_of_getElem? (i := 1020) (by decide +kernel), List.mem_of_getElem? (i := 1377) (by decide +kernel), List.mem_of_getElem? (i := 1378) (by decide +kernel)⟩
theorem lw_p76 : lw_okq (⟨"SkittleRowModel", "fillsNow", "()V"⟩, 40) := ⟨⟨by decide +kernel, by decide +kernel⟩, List.mem_of_getElem? (i := 1020) (by decide +kernel), List.mem_of_getElem? (i := 1381) (by decide +kernel), List.mem_of_getElem? (i := 1382) (by decide +kernel)⟩
theorem lw_p77 : lw_okq (⟨"SkittleRowModel", "fillsWon", "(III)V"⟩, 40) := ⟨⟨by decide +kernel, by decide +kernel⟩, List.mem_of_getElem? (i := 1020) (by decide +kernel), List.mem_of_getElem? (i := 1385) (by decide +kernel), List.mem_of_getElem? (i := 1386) (by decide +kernel)⟩
theorem lw_p78 : lw_okq (⟨"SkittleRowModel", "keepsAct", "()V"⟩, 40) := ⟨⟨by decide +kernel, by decide +kernel⟩, List.mem_of_getElem? (i := 1020) (by decide +kernel), List.mem_of_getElem? (i := 1397) (by decide +kernel), List.mem_of_getElem? (i := 1398) (by decide +kernel)⟩
theorem lw_p79 : lw_okq (⟨"SkittleRowModel", "notes", "(II)V"⟩, 40) := ⟨⟨by decide +kernel, by decide +kernel⟩, List.mem_of_getElem? (i := 1020) (by decide +kernel), List.mem_of_getElem? (i := 1401) (by decide +kernel), List.mem_of_getElem? (i := 1402) (by decide +kernel)⟩
def lw_privs_5 : List (MethodName × Nat) := [(⟨"SkittleRowModel", "settles", "(I)V"⟩, 40), (⟨"SkittleRowModel", "isInside", "()Z"⟩, 40), (⟨"SkittleRowModel", "isPlace", "(I)Z"⟩, 40), (⟨"SkittleRowModel", "rowOf", "(I)I"⟩, 40), (⟨"SkittleRowModel", "beside", "(II)I"⟩, 40), (⟨"SkittleRowModel", "isAlley", "()Z"⟩, 40), (⟨"SkittleRowModel", "canBeNow", "(III)Z"⟩, 40), (⟨"SkittleRowModel", "canBe", "(IIIIZ)Z"⟩, 40), (⟨"SkittleRowModel", "strokeBits", "(II)I"⟩, 40), (⟨"SkittleRowModel", "lastOf", "(II)I"⟩, 40), (⟨"SkittleRowModel", "winsBy", "(III)Z"⟩, 40), (⟨"SkittleRowModel", "isWonAt", "(I)Z"⟩, 40), (⟨"SkittleRowModel", "fillsNow", "()V"⟩, 40), (⟨"SkittleRowModel", "fillsWon", "(III)V"⟩, 40), (⟨"SkittleRowModel", "keepsAct", "()V"⟩, 40), (⟨"SkittleRowModel", "notes", "(II)V"⟩, 40)]
theorem lw_r5 : ∀ q ∈ lw_privs_5, lw_okq q := List.forall_mem_cons.mpr ⟨lw_p64, List.forall_mem_cons.mpr ⟨lw_p65, List.forall_mem_cons.mpr ⟨lw_p66, List.forall_mem_cons.mpr ⟨lw_p67, List.forall_mem_cons.mpr ⟨lw_p68, List.forall_mem_cons.mpr ⟨lw_p69, List.forall_mem_cons.mpr ⟨lw_p70, List.forall_mem_cons.mpr ⟨lw_p71, List.forall_mem_cons.mpr ⟨lw_p72, List.forall_mem_cons.mpr ⟨lw_p73, List.forall_mem_cons.mpr ⟨lw_p74, List.forall_mem_cons.mpr ⟨lw_p75, List.forall_mem_cons.mpr ⟨lw_p76, List.forall_mem_cons.mpr ⟨lw_p77, List.forall_mem_cons.mpr ⟨lw_p78, List.forall_mem_cons.mpr ⟨lw_p79, fun _ h => absurd h List.not_mem_nil⟩⟩⟩⟩⟩⟩⟩⟩⟩⟩⟩⟩⟩⟩⟩⟩
theorem lw_p80 : lw_okq (⟨"SkittleRowModel", "clearsSeen", "()V"⟩, 40) := ⟨⟨by decide +kernel, by decide +kernel⟩, List.mem_of_getElem? (i := 1020) (by decide +kernel), List.mem_of_getElem? (i := 1429) (by decide +kernel), List.mem_of_getElem? (i := 1430) (by decide +kernel)⟩
theorem lw_p81 : lw_okq (⟨"SkittleRowModel", "leastUnseen", "()I"⟩, 40) := ⟨⟨by decide +kernel, by decide +kernel⟩, List.mem_of_getElem? (i := 1020) (by decide +kernel), List.mem_of_getElem? (i := 1433) (by decide +kernel), List.mem_of_getElem? (i := 1434) (by decide +kernel)⟩
theorem lw_p82 : lw_okq (⟨"SkittleRowModel", "fillsPlains", "()V"⟩, 40) := ⟨⟨by decide +kernel, by decide +kernel⟩, List.mem_of_getElem? (i := 1020) (by decide +kernel), List.mem_of_getElem? (i := 1442) (by decide +kernel), List.mem_of_getElem? (i := 1443) (by decide +kernel)⟩
theorem lw_p83 : lw_okq (⟨"SkittleRowModel", "comesAgain", "(II)Z"⟩, 40) := ⟨⟨by decide +kernel, by decide +kernel⟩, List.mem_of_getElem? (i := 1020) (by decide +kernel), List.mem_of_getElem? (i := 1450) (by decide +kernel), List.mem_of_getElem? (i := 1451) (by decide +kernel)⟩
theorem lw_p84 : lw_okq (⟨"SkittleRowModel", "lastsAt", "(I)I"⟩, 40) := ⟨⟨by decide +kernel, by decide +kernel⟩, List.mem_of_getElem? (i := 1020) (by decide +kernel), List.mem_of_getElem? (i := 1458) (by decide +kernel), List.mem_of_getElem? (i := 1459) (by decide +kernel)⟩
theorem lw_p85 : lw_okq (⟨"SkittleRowModel", "playsAt", "(I)I"⟩, 40) := ⟨⟨by decide +kernel, by decide +kernel⟩, List.mem_of_getElem? (i := 1020) (by decide +kernel), List.mem_of_getElem? (i := 1466) (by decide +kernel), List.mem_of_getElem? (i := 1467) (by decide +kernel)⟩
theorem lw_p86 : lw_okq (⟨"SkittleRowModel", "chanceAt", "(I)I"⟩, 40) := ⟨⟨by decide +kernel, by decide +kernel⟩, List.mem_of_getElem? (i := 1020) (by decide +kernel), List.mem_of_getElem? (i := 1479) (by decide +kernel), List.mem_of_getElem? (i := 1480) (by decide +kernel)⟩
theorem lw_p87 : lw_okq (⟨"SkittleRowModel", "strayed", "(III)I"⟩, 40) := ⟨⟨by decide +kernel, by decide +kernel⟩, List.mem_of_getElem? (i := 1020) (by decide +kernel), List.mem_of_getElem? (i := 1483) (by decide +kernel), List.mem_of_getElem? (i := 1484) (by decide +kernel)⟩
theorem lw_p88 : lw_okq (⟨"SkittleRowModel", "bestAt", "(I)I"⟩, 40) := ⟨⟨by decide +kernel, by decide +kernel⟩, List.mem_of_getElem? (i := 1020) (by decide +kernel), List.mem_of_getElem? (i := 1491) (by decide +kernel), List.mem_of_getElem? (i := 1492) (by decide +kernel)⟩
theorem lw_p89 : lw_okq (⟨"SkittleRowModel", "childAt", "(I)I"⟩, 40) := ⟨⟨by decide +kernel, by decide +kernel⟩, List.mem_of_getElem? (i := 1020) (by decide +kernel), List.mem_of_getElem? (i := 1495) (by decide +kernel), List.mem_of_getElem? (i := 1496) (by decide +kernel)⟩
theorem lw_p90 : lw_okq (⟨"SkittleRowModel", "isRule", "(I)Z"⟩, 40) := ⟨⟨by decide +kernel, by decide +kernel⟩, List.mem_of_getElem? (i := 1020) (by decide +kernel), List.mem_of_getElem? (i := 1503) (by decide +kernel), List.mem_of_getElem? (i := 1504) (by decide +kernel)⟩
theorem lw_p91 : lw_okq (⟨"SkittleRowModel", "strokeBy", "(IIII)I"⟩, 40) := ⟨⟨by decide +kernel, by decide +kernel⟩, List.mem_of_getElem? (i := 1020) (by decide +kernel), List.mem_of_getElem? (i := 1507) (by decide +kernel), List.mem_of_getElem? (i := 1508) (by decide +kernel)⟩
theorem lw_p92 : lw_okq (⟨"SkittleRowModel", "words", "(IIIII)V"⟩, 40) := ⟨⟨by decide +kernel, by decide +kernel⟩, List.mem_of_getElem? (i := 1020) (by decide +kernel), List.mem_of_getElem? (i := 1511) (by decide +kernel), List.mem_of_getElem? (i := 1512) (by decide +kernel)⟩
theorem lw_p93 : lw_okq (⟨"SkittleRowModel", "countsRuns", "(I)V"⟩, 40) := ⟨⟨by decide +kernel, by decide +kernel⟩, List.mem_of_getElem? (i := 1020) (by decide +kernel), List.mem_of_getElem? (i := 1515) (by decide +kernel), List.mem_of_getElem? (i := 1516) (by decide +kernel)⟩
theorem lw_p94 : lw_okq (⟨"SkittleRowModel", "countsRow", "(II)V"⟩, 40) := ⟨⟨by decide +kernel, by decide +kernel⟩, List.mem_of_getElem? (i := 1020) (by decide +kernel), List.mem_of_getElem? (i := 1519) (by decide +kernel), List.mem_of_getElem? (i := 1520) (by decide +kernel)⟩
theorem lw_p95 : lw_okq (⟨"SkittleRowModel", "countsRun", "(I)V"⟩, 40) := ⟨⟨by decide +kernel, by decide +kernel⟩, List.mem_of_getElem? (i := 1020) (by decide +kernel), List.mem_of_getElem? (i := 1523) (by decide +kernel), List.mem_of_getElem? (i := 1524) (by decide +kernel)⟩
def lw_privs_6 : List (MethodName × Nat) := [(⟨"SkittleRowModel", "clearsSeen", "()V"⟩, 40), (⟨"SkittleRowModel", "leastUnseen", "()I"⟩, 40), (⟨"SkittleRowModel", "fillsPlains", "()V"⟩, 40), (⟨"SkittleRowModel", "comesAgain", "(II)Z"⟩, 40), (⟨"SkittleRowModel", "lastsAt", "(I)I"⟩, 40), (⟨"SkittleRowModel", "playsAt", "(I)I"⟩, 40), (⟨"SkittleRowModel", "chanceAt", "(I)I"⟩, 40), (⟨"SkittleRowModel", "strayed", "(III)I"⟩, 40), (⟨"SkittleRowModel", "bestAt", "(I)I"⟩, 40), (⟨"SkittleRowModel", "childAt", "(I)I"⟩, 40), (⟨"SkittleRowModel", "isRule", "(I)Z"⟩, 40), (⟨"SkittleRowModel", "strokeBy", "(IIII)I"⟩, 40), (⟨"SkittleRowModel", "words", "(IIIII)V"⟩, 40), (⟨"SkittleRowModel", "countsRuns", "(I)V"⟩, 40), (⟨"SkittleRowModel", "countsRow", "(II)V"⟩, 40), (⟨"SkittleRowModel", "countsRun", "(I)V"⟩, 40)]
theorem lw_r6 : ∀ q ∈ lw_privs_6, lw_okq q := List.forall_mem_cons.mpr ⟨lw_p80, List.forall_mem_cons.mpr ⟨lw_p81, List.forall_mem_cons.mpr ⟨lw_p82, List.forall_mem_cons.mpr ⟨lw_p83, List.forall_mem_cons.mpr ⟨lw_p84, List.forall_mem_cons.mpr ⟨lw_p85, List.forall_mem_cons.mpr ⟨lw_p86, List.forall_mem_cons.mpr ⟨lw_p87, List.forall_mem_cons.mpr ⟨lw_p88, List.forall_mem_cons.mpr ⟨lw_p89, List.forall_mem_cons.mpr ⟨lw_p90, List.forall_mem_cons.mpr ⟨lw_p91, List.forall_mem_cons.mpr ⟨lw_p92, List.forall_mem_cons.mpr ⟨lw_p93, List.forall_mem_cons.mpr ⟨lw_p94, List.forall_mem_cons.mpr ⟨lw_p95, fun _ h => absurd h List.not_mem_nil⟩⟩⟩⟩⟩⟩⟩⟩⟩⟩⟩⟩⟩⟩⟩⟩
theorem lw_p96 : lw_okq (⟨"SkittleRowModel", "summedBy", "(I)J"⟩, 40) := ⟨⟨by decide +kernel, by decide +kernel⟩, List.mem_of_getElem? (i := 1020) (by decide +kernel), List.mem_of_getElem? (i := 1527) (by decide +kernel), List.mem_of_getElem? (i := 1528) (by decide +kernel)⟩
theorem lw_p97 : lw_okq (⟨"SkittleRowModel", "reckons", "(III)J"⟩, 40) := ⟨⟨by decide +kernel, by decide +kernel⟩, List.mem_of_getElem? (i := 1020) (by decide +kernel), List.mem_of_getElem? (i := 1531) (by decide +kernel), List.mem_of_getElem? (i := 1532) (by decide +kernel)⟩
theorem lw_p98 : lw_okq (⟨"SkittleRowModel", "push", "(J)V"⟩, 40) := ⟨⟨by decide +kernel, by decide +kernel⟩, List.mem_of_getElem? (i := 1020) (by decide +kernel), List.mem_of_getElem? (i := 1535) (by decide +kernel), List.mem_of_getElem? (i := 1536) (by decide +kernel)⟩
theorem lw_p99 : lw_okq (⟨"SkittleRowModel", "pop", "()J"⟩, 40) := ⟨⟨by decide +kernel, by decide +kernel⟩, List.mem_of_getElem? (i := 1020) (by decide +kernel), List.mem_of_getElem? (i := 1539) (by decide +kernel), List.mem_of_getElem? (i := 1540) (by decide +kernel)⟩
theorem lw_p100 : lw_okq (⟨"SkittleRowModel", "winner", "(I)I"⟩, 40) := ⟨⟨by decide +kernel, by decide +kernel⟩, List.mem_of_getElem? (i := 1020) (by decide +kernel), List.mem_of_getElem? (i := 1546) (by decide +kernel), List.mem_of_getElem? (i := 1547) (by decide +kernel)⟩
theorem lw_p101 : lw_okq (⟨"SkittleRowModel", "noted", "(II)I"⟩, 40) := ⟨⟨by decide +kernel, by decide +kernel⟩, List.mem_of_getElem? (i := 1020) (by decide +kernel), List.mem_of_getElem? (i := 1554) (by decide +kernel), List.mem_of_getElem? (i := 1555) (by decide +kernel)⟩
theorem lw_p102 : lw_okq (⟨"SkittleRowModel", "isOverAt", "(I)Z"⟩, 40) := ⟨⟨by decide +kernel, by decide +kernel⟩, List.mem_of_getElem? (i := 1020) (by decide +kernel), List.mem_of_getElem? (i := 1558) (by decide +kernel), List.mem_of_getElem? (i := 1559) (by decide +kernel)⟩
theorem lw_p103 : lw_okq (⟨"SkittleRowModel", "winsNoted", "(I)Z"⟩, 40) := ⟨⟨by decide +kernel, by decide +kernel⟩, List.mem_of_getElem? (i := 1020) (by decide +kernel), List.mem_of_getElem? (i := 1562) (by decide +kernel), List.mem_of_getElem? (i := 1563) (by decide +kernel)⟩
theorem lw_p104 : lw_okq (⟨"SkittleRowModel", "fitsLaw", "(IIII)Z"⟩, 40) := ⟨⟨by decide +kernel, by decide +kernel⟩, List.mem_of_getElem? (i := 1020) (by decide +kernel), List.mem_of_getElem? (i := 1570) (by decide +kernel), List.mem_of_getElem? (i := 1571) (by decide +kernel)⟩
theorem lw_p105 : lw_okq (⟨"SkittleRowModel", "playsDrawn", "(II)V"⟩, 40) := ⟨⟨by decide +kernel, by decide +kernel⟩, List.mem_of_getElem? (i := 1020) (by decide +kernel), List.mem_of_getElem? (i := 1583) (by decide +kernel), List.mem_of_getElem? (i := 1584) (by decide +kernel)⟩
theorem lw_p106 : lw_okq (⟨"SkittleRowModel", "strokeDrawn", "(I)I"⟩, 40) := ⟨⟨by decide +kernel, by decide +kernel⟩, List.mem_of_getElem? (i := 1020) (by decide +kernel), List.mem_of_getElem? (i := 1587) (by decide +kernel), List.mem_of_getElem? (i := 1588) (by decide +kernel)⟩
theorem lw_p107 : lw_okq (⟨"SkittleRowModel", "draw", "(I)I"⟩, 40) := ⟨⟨by decide +kernel, by decide +kernel⟩, List.mem_of_getElem? (i := 1020) (by decide +kernel), List.mem_of_getElem? (i := 1591) (by decide +kernel), List.mem_of_getElem? (i := 1592) (by decide +kernel)⟩
def lw_privs_7 : List (MethodName × Nat) := [(⟨"SkittleRowModel", "summedBy", "(I)J"⟩, 40), (⟨"SkittleRowModel", "reckons", "(III)J"⟩, 40), (⟨"SkittleRowModel", "push", "(J)V"⟩, 40), (⟨"SkittleRowModel", "pop", "()J"⟩, 40), (⟨"SkittleRowModel", "winner", "(I)I"⟩, 40), (⟨"SkittleRowModel", "noted", "(II)I"⟩, 40), (⟨"SkittleRowModel", "isOverAt", "(I)Z"⟩, 40), (⟨"SkittleRowModel", "winsNoted", "(I)Z"⟩, 40), (⟨"SkittleRowModel", "fitsLaw", "(IIII)Z"⟩, 40), (⟨"SkittleRowModel", "playsDrawn", "(II)V"⟩, 40), (⟨"SkittleRowModel", "strokeDrawn", "(I)I"⟩, 40), (⟨"SkittleRowModel", "draw", "(I)I"⟩, 40)]
theorem lw_r7 : ∀ q ∈ lw_privs_7, lw_okq q := List.forall_mem_cons.mpr ⟨lw_p96, List.forall_mem_cons.mpr ⟨lw_p97, List.forall_mem_cons.mpr ⟨lw_p98, List.forall_mem_cons.mpr ⟨lw_p99, List.forall_mem_cons.mpr ⟨lw_p100, List.forall_mem_cons.mpr ⟨lw_p101, List.forall_mem_cons.mpr ⟨lw_p102, List.forall_mem_cons.mpr ⟨lw_p103, List.forall_mem_cons.mpr ⟨lw_p104, List.forall_mem_cons.mpr ⟨lw_p105, List.forall_mem_cons.mpr ⟨lw_p106, List.forall_mem_cons.mpr ⟨lw_p107, fun _ h => absurd h List.not_mem_nil⟩⟩⟩⟩⟩⟩⟩⟩⟩⟩⟩⟩
def lw_privs : List (MethodName × Nat) := lw_privs_1 ++ (lw_privs_2 ++ (lw_privs_3 ++ (lw_privs_4 ++ (lw_privs_5 ++ (lw_privs_6 ++ (lw_privs_7))))))
def lw_tbl : List Cond := k2_sels lw_privs ++ tables_1
theorem lw_privs_ok : ∀ q ∈ lw_privs, lw_okq q := by
  show ∀ q ∈ lw_privs_1 ++ (lw_privs_2 ++ (lw_privs_3 ++ (lw_privs_4 ++ (lw_privs_5 ++ (lw_privs_6 ++ (lw_privs_7)))))), lw_okq q
  exact List.forall_mem_append.mpr ⟨lw_r1, List.forall_mem_append.mpr ⟨lw_r2, List.forall_mem_append.mpr ⟨lw_r3, List.forall_mem_append.mpr ⟨lw_r4, List.forall_mem_append.mpr ⟨lw_r5, List.forall_mem_append.mpr ⟨lw_r6, lw_r7⟩⟩⟩⟩⟩⟩
end
section
/-! ===== an evaluator of the code over a memory of words; the machine is tied to it in the parts behind ===== -/
abbrev sk_V : Type := Int32 ⊕ (Int64 ⊕ Option Nat)
abbrev sk_Ls : Type := List (Option sk_V)
/-- the memory: kinds, lengths, the next address, the slots made; ints, longs, references by address and place -/
abbrev sk_H : Type := ((Nat → Nat) × (Nat → Nat) × Nat × Nat) × (Nat → Nat → Int32) × (Nat → Nat → Int64) × (Nat → Nat → Option Nat)
def hK (h : sk_H) : Nat → Nat := h.1.1
def hN (h : sk_H) : Nat → Nat := h.1.2.1
def hn (h : sk_H) : Nat := h.1.2.2.1
def hs (h : sk_H) : Nat := h.1.2.2.2
def hI (h : sk_H) : Nat → Nat → Int32 := h.2.1
def hJ (h : sk_H) : Nat → Nat → Int64 := h.2.2.1
def hR (h : sk_H) : Nat → Nat → Option Nat := h.2.2.2
def up2 {α : Type} (f : Nat → Nat → α) (a i : Nat) (v : α) : Nat → Nat → α := va_up f a (va_up (f a) i v)
def wI (h : sk_H) (a i : Nat) (v : Int32) : sk_H := (h.1, up2 h.2.1 a i v, h.2.2)
def wJ (h : sk_H) (a i : Nat) (v : Int64) : sk_H := (h.1, h.2.1, up2 h.2.2.1 a i v, h.2.2.2)
def wR (h : sk_H) (a i : Nat) (v : Option Nat) : sk_H := (h.1, h.2.1, h.2.2.1, up2 h.2.2.2 a i v)
/-- a new cell of kind k and n places, all 0 -/
def hnew (h : sk_H) (k n : Nat) : sk_H :=
  ((va_up h.1.1 h.1.2.2.1 k, va_up h.1.2.1 h.1.2.2.1 n, h.1.2.2.1 + 1, h.1.2.2.2 + n), va_up h.2.1 h.1.2.2.1 (fun _ => 0), va_up h.2.2.1 h.1.2.2.1 (fun _ => 0), va_up h.2.2.2 h.1.2.2.1 (fun _ => none))
/-- place, slots, stack, memory -/
abbrev sk_C : Type := Nat × sk_Ls × List sk_V × sk_H
abbrev sk_P : Type := (p : Prop) ×' Decidable p
abbrev sk_A : Type := sk_C ⊕ (sk_P × sk_C × sk_C) ⊕ (sk_P × sk_C) ⊕ (Int32 × List (Int32 × Nat) × sk_C) ⊕ (Option sk_V) ⊕ ((Nat × Nat × Nat) × List sk_V × List sk_V)
/-- an instruction; four numbers (a field: kind, place, tag; a call: method, how many, kind of answer, room); a constant; a switch; at a cut what lives -/
abbrev sk_E : Type := Instr × (Nat × Nat × Nat × Nat) × sk_V × List (Int32 × Nat) × Option (List Bool)
abbrev sk_T : Type := Nat → Nat → Option sk_E
abbrev sk_B : Type := Option Nat × (Nat → Option sk_A)
def b_go (c : sk_C) : sk_B := (some 0, fun _ => some (.inl c))
def b_no : sk_B := (none, fun _ => none)
def b_br (q : sk_P) (c1 c2 : sk_C) : sk_B := (some 0, fun _ => some (.inr (.inl (q, c1, c2))))
def b_ck (q : sk_P) (c : sk_C) : sk_B := (some 0, fun _ => some (.inr (.inr (.inl (q, c)))))
def b_at (r : Option Nat) (k : Nat → sk_P × sk_C) : sk_B := (r, fun a => some (.inr (.inr (.inl (k a)))))
def b_sw (x : Int32) (cs : List (Int32 × Nat)) (c : sk_C) : sk_B := (some 0, fun _ => some (.inr (.inr (.inr (.inl (x, cs, c))))))
def b_rt (v : Option sk_V) : sk_B := (some 0, fun _ => some (.inr (.inr (.inr (.inr (.inl v))))))
def b_cl (m rk ml : Nat) (args rest : List sk_V) : sk_B := (some 0, fun _ => some (.inr (.inr (.inr (.inr (.inr ((m, rk, ml), args, rest)))))))
/-- patterns of the stack -/
def s_i (st : List sk_V) (k : Int32 → List sk_V → sk_B) : sk_B := match st with
  | .inl x :: r => k x r
  | _ => b_no
def s_ii (st : List sk_V) (k : Int32 → Int32 → List sk_V → sk_B) : sk_B := match st with
  | .inl y :: .inl x :: r => k x y r
  | _ => b_no
def s_l (st : List sk_V) (k : Int64 → List sk_V → sk_B) : sk_B := match st with
  | .inr (.inl x) :: r => k x r
  | _ => b_no
def s_ll (st : List sk_V) (k : Int64 → Int64 → List sk_V → sk_B) : sk_B := match st with
  | .inr (.inl y) :: .inr (.inl x) :: r => k x y r
  | _ => b_no
def s_li (st : List sk_V) (k : Int64 → Int32 → List sk_V → sk_B) : sk_B := match st with
  | .inl y :: .inr (.inl x) :: r => k x y r
  | _ => b_no
def s_r (st : List sk_V) (k : Option Nat → List sk_V → sk_B) : sk_B := match st with
  | .inr (.inr x) :: r => k x r
  | _ => b_no
def s_rr (st : List sk_V) (k : Option Nat → Option Nat → List sk_V → sk_B) : sk_B := match st with
  | .inr (.inr y) :: .inr (.inr x) :: r => k x y r
  | _ => b_no
/-- an array and a place; with a value on top -/
def s_ri (st : List sk_V) (k : Option Nat → Int32 → List sk_V → sk_B) : sk_B := match st with
  | .inl i :: .inr (.inr x) :: r => k x i r
  | _ => b_no
def s_rii (st : List sk_V) (k : Option Nat → Int32 → Int32 → List sk_V → sk_B) : sk_B := match st with
  | .inl v :: .inl i :: .inr (.inr x) :: r => k x i v r
  | _ => b_no
def s_ril (st : List sk_V) (k : Option Nat → Int32 → Int64 → List sk_V → sk_B) : sk_B := match st with
  | .inr (.inl v) :: .inl i :: .inr (.inr x) :: r => k x i v r
  | _ => b_no
def s_rir (st : List sk_V) (k : Option Nat → Int32 → Option Nat → List sk_V → sk_B) : sk_B := match st with
  | .inr (.inr v) :: .inl i :: .inr (.inr x) :: r => k x i v r
  | _ => b_no
/-- is it of one slot -/
def v_one (v : sk_V) : Bool := match v with
  | .inr (.inl _) => false
  | _ => true
def s_1 (st : List sk_V) (k : sk_V → List sk_V → sk_B) : sk_B := match st with
  | v :: r => match v_one v with
    | true => k v r
    | false => b_no
  | _ => b_no
def s_11 (st : List sk_V) (k : sk_V → sk_V → List sk_V → sk_B) : sk_B := match st with
  | v :: w :: r => match v_one v, v_one w with
    | true, true => k v w r
    | _, _ => b_no
  | _ => b_no
/-- slots -/
def l_at : sk_Ls → Nat → Option sk_V
  | [], _ => none
  | v :: _, 0 => v
  | _ :: r, k + 1 => l_at r k
def l_i (ls : sk_Ls) (k : Nat) (f : Int32 → sk_B) : sk_B := match l_at ls k with
  | some (.inl x) => f x
  | _ => b_no
def l_l (ls : sk_Ls) (k : Nat) (f : Int64 → sk_B) : sk_B := match l_at ls k with
  | some (.inr (.inl x)) => f x
  | _ => b_no
def l_r (ls : sk_Ls) (k : Nat) (f : Option Nat → sk_B) : sk_B := match l_at ls k with
  | some (.inr (.inr x)) => f x
  | _ => b_no
/-- not a long: what stands below a stored slot -/
def v_keep (v : Option sk_V) : Option sk_V := match v with
  | some (.inr (.inl _)) => none
  | w => w
def l_s1 : sk_Ls → Nat → sk_V → sk_Ls
  | [], _, _ => []
  | _ :: r, 0, v => some v :: r
  | w :: x :: r, 1, v => v_keep w :: some v :: r
  | w :: r, k + 1, v => w :: l_s1 r k v
def l_s2 : sk_Ls → Nat → sk_V → sk_Ls
  | [], _, _ => []
  | [_], 0, _ => [none]
  | _ :: _ :: r, 0, v => some v :: none :: r
  | [w, _], 1, _ => [v_keep w, none]
  | w :: _ :: _ :: r, 1, v => v_keep w :: some v :: none :: r
  | w :: r, k + 1, v => w :: l_s2 r k v
def sk_ex : List sk_V → sk_Ls
  | [] => []
  | .inr (.inl y) :: r => some (.inr (.inl y)) :: none :: sk_ex r
  | .inl x :: r => some (.inl x) :: sk_ex r
  | .inr (.inr x) :: r => some (.inr (.inr x)) :: sk_ex r
def sk_rp : Nat → sk_Ls
  | 0 => []
  | n + 1 => none :: sk_rp n
def sk_pad : Nat → sk_Ls → sk_Ls
  | 0, _ => []
  | n + 1, [] => none :: sk_pad n []
  | n + 1, v :: r => v :: sk_pad n r
def sk_ent (ml : Nat) (args : List sk_V) : sk_Ls := sk_pad ml (sk_ex args)
def sk_kill : List Bool → sk_Ls → sk_Ls
  | b :: bs, v :: r => (match b with
    | true => v
    | false => none) :: sk_kill bs r
  | _, r => r
/-- what an index is within -/
abbrev sk_out (i : Int32) (n : Nat) : Prop := i < 0 ∨ n ≤ i.toNatClampNeg
abbrev sk_in (i : Int32) (n : Nat) : Prop := ¬ (i < 0 ∨ n ≤ i.toNatClampNeg)
/-- n things off the stack, the first below -/
def sk_take : Nat → List sk_V → List sk_V → Option (List sk_V × List sk_V)
  | 0, acc, st => some (acc, st)
  | _ + 1, _, [] => none
  | n + 1, acc, v :: r => sk_take n (v :: acc) r
def j_cond (cd : ClassFile.Cond) (x y : Int32) : sk_P := match cd with
  | .eq => ⟨x = y, inferInstance⟩
  | .ne => ⟨¬ x = y, inferInstance⟩
  | .lt => ⟨x < y, inferInstance⟩
  | .ge => ⟨y ≤ x, inferInstance⟩
  | .gt => ⟨y < x, inferInstance⟩
  | .le => ⟨x ≤ y, inferInstance⟩
/-- what a place of a field holds, by its tag: 0 a whole number, 3 a truth, 1 a long, 2 a reference -/
def f_get (h : sk_H) (a fi tag : Nat) : sk_V := match tag with
  | 1 => .inr (.inl (hJ h a fi))
  | 2 => .inr (.inr (hR h a fi))
  | _ => .inl (hI h a fi)
def a_ref (k : Nat) : Bool := Nat.ble 106 k && Nat.ble k 108
def a_any (k : Nat) : Bool := (Nat.ble 101 k && Nat.ble k 108) || (k == 201 || k == 202 || k == 204)
/-- of which kind are the things in a row of references -/
def a_of (k : Nat) : Nat := match k with
  | 106 => 8
  | 107 => 9
  | 108 => 10
  | _ => 0
def n_kind (t : ArrayType) : Nat := match t with
  | .int => 101
  | .long => 102
  | .boolean => 103
  | .byte => 104
  | .char => 105
  | _ => 0
def sk_act (e : sk_E) (pc : Nat) (ls : sk_Ls) (st : List sk_V) (h : sk_H) : sk_B := match e.1 with
  | .aconst_null => b_go (pc + 1, ls, .inr (.inr none) :: st, h)
  | .iconst n => b_go (pc + 1, ls, .inl (Int32.ofInt n) :: st, h)
  | .bipush n => b_go (pc + 2, ls, .inl (Int8.ofInt n).toInt32 :: st, h)
  | .sipush n => b_go (pc + 3, ls, .inl (Int16.ofInt n).toInt32 :: st, h)
  | .lconst n => b_go (pc + 1, ls, .inr (.inl (Int64.ofNat n)) :: st, h)
  | .ldc _ => b_go (pc + 2, ls, e.2.2.1 :: st, h)
  | .ldc_w _ => b_go (pc + 3, ls, e.2.2.1 :: st, h)
  | .ldc2_w _ => b_go (pc + 3, ls, e.2.2.1 :: st, h)
  | .iload_n k => l_i ls k fun x => b_go (pc + 1, ls, .inl x :: st, h)
  | .iload k => l_i ls k fun x => b_go (pc + 2, ls, .inl x :: st, h)
  | .lload_n k => l_l ls k fun x => b_go (pc + 1, ls, .inr (.inl x) :: st, h)
  | .lload k => l_l ls k fun x => b_go (pc + 2, ls, .inr (.inl x) :: st, h)
  | .aload_n k => l_r ls k fun x => b_go (pc + 1, ls, .inr (.inr x) :: st, h)
  | .aload k => l_r ls k fun x => b_go (pc + 2, ls, .inr (.inr x) :: st, h)
  | .istore_n k => s_i st fun x r => b_go (pc + 1, l_s1 ls k (.inl x), r, h)
  | .istore k => s_i st fun x r => b_go (pc + 2, l_s1 ls k (.inl x), r, h)
  | .lstore_n k => s_l st fun x r => b_go (pc + 1, l_s2 ls k (.inr (.inl x)), r, h)
  | .lstore k => s_l st fun x r => b_go (pc + 2, l_s2 ls k (.inr (.inl x)), r, h)
  | .astore_n k => s_r st fun x r => b_go (pc + 1, l_s1 ls k (.inr (.inr x)), r, h)
  | .astore k => s_r st fun x r => b_go (pc + 2, l_s1 ls k (.inr (.inr x)), r, h)
  | .iinc k n => l_i ls k fun x => b_go (pc + 3, l_s1 ls k (.inl (x + Int32.ofInt n)), st, h)
  | .dup => s_1 st fun v r => b_go (pc + 1, ls, v :: v :: r, h)
  | .dup_x1 => s_11 st fun v w r => b_go (pc + 1, ls, v :: w :: v :: r, h)
  | .dup2 => s_11 st fun v w r => b_go (pc + 1, ls, v :: w :: v :: w :: r, h)
  | .pop => s_1 st fun _ r => b_go (pc + 1, ls, r, h)
  | .iadd => s_ii st fun x y r => b_go (pc + 1, ls, .inl (x + y) :: r, h)
  | .isub => s_ii st fun x y r => b_go (pc + 1, ls, .inl (x - y) :: r, h)
  | .imul => s_ii st fun x y r => b_go (pc + 1, ls, .inl (x * y) :: r, h)
  | .iand => s_ii st fun x y r => b_go (pc + 1, ls, .inl (x &&& y) :: r, h)
  | .ior => s_ii st fun x y r => b_go (pc + 1, ls, .inl (x ||| y) :: r, h)
  | .ixor => s_ii st fun x y r => b_go (pc + 1, ls, .inl (x ^^^ y) :: r, h)
  | .idiv => s_ii st fun x y r => b_ck ⟨¬ y = 0, inferInstance⟩ (pc + 1, ls, .inl (x / y) :: r, h)
  | .irem => s_ii st fun x y r => b_ck ⟨¬ y = 0, inferInstance⟩ (pc + 1, ls, .inl (x - x / y * y) :: r, h)
  | .ineg => s_i st fun x r => b_go (pc + 1, ls, .inl (-x) :: r, h)
  | .ishl => s_ii st fun x y r => b_go (pc + 1, ls, .inl (x <<< (y &&& 31)) :: r, h)
  | .ishr => s_ii st fun x y r => b_go (pc + 1, ls, .inl (x >>> (y &&& 31)) :: r, h)
  | .iushr => s_ii st fun x y r => b_go (pc + 1, ls, .inl (x.toUInt32 >>> (y.toUInt32 &&& Int32.toUInt32 31)).toInt32 :: r, h)
  | .ladd => s_ll st fun x y r => b_go (pc + 1, ls, .inr (.inl (x + y)) :: r, h)
  | .lsub => s_ll st fun x y r => b_go (pc + 1, ls, .inr (.inl (x - y)) :: r, h)
  | .lmul => s_ll st fun x y r => b_go (pc + 1, ls, .inr (.inl (x * y)) :: r, h)
  | .land => s_ll st fun x y r => b_go (pc + 1, ls, .inr (.inl (x &&& y)) :: r, h)
  | .lor => s_ll st fun x y r => b_go (pc + 1, ls, .inr (.inl (x ||| y)) :: r, h)
  | .lxor => s_ll st fun x y r => b_go (pc + 1, ls, .inr (.inl (x ^^^ y)) :: r, h)
  | .ldiv => s_ll st fun x y r => b_ck ⟨¬ y = 0, inferInstance⟩ (pc + 1, ls, .inr (.inl (x / y)) :: r, h)
  | .lrem => s_ll st fun x y r => b_ck ⟨¬ y = 0, inferInstance⟩ (pc + 1, ls, .inr (.inl (x - x / y * y)) :: r, h)
  | .lshl => s_li st fun x y r => b_go (pc + 1, ls, .inr (.inl (x <<< (y.toInt64 &&& 63))) :: r, h)
  | .lshr => s_li st fun x y r => b_go (pc + 1, ls, .inr (.inl (x >>> (y.toInt64 &&& 63))) :: r, h)
  | .lushr => s_li st fun x y r => b_go (pc + 1, ls, .inr (.inl (x.toUInt64 >>> (y.toInt64.toUInt64 &&& Int64.toUInt64 63)).toInt64) :: r, h)
  | .lcmp => s_ll st fun x y r => b_go (pc + 1, ls, .inl (lg_cmp x y) :: r, h)
  | .i2l => s_i st fun x r => b_go (pc + 1, ls, .inr (.inl x.toInt64) :: r, h)
  | .l2i => s_l st fun x r => b_go (pc + 1, ls, .inl x.toInt32 :: r, h)
  | .i2b => s_i st fun x r => b_go (pc + 1, ls, .inl x.toInt8.toInt32 :: r, h)
  | .i2c => s_i st fun x r => b_go (pc + 1, ls, .inl (x.toUInt32 % 65536).toInt32 :: r, h)
  | .goto _ => b_go (e.2.1.1, ls, st, h)
  | .ifCond cd _ => s_i st fun x r => b_br (j_cond cd x 0) (e.2.1.1, ls, r, h) (pc + 3, ls, r, h)
  | .if_icmp cd _ => s_ii st fun x y r => b_br (j_cond cd x y) (e.2.1.1, ls, r, h) (pc + 3, ls, r, h)
  | .if_acmp .eq _ => s_rr st fun x y r => b_br ⟨x = y, inferInstance⟩ (e.2.1.1, ls, r, h) (pc + 3, ls, r, h)
  | .if_acmp .ne _ => s_rr st fun x y r => b_br ⟨¬ x = y, inferInstance⟩ (e.2.1.1, ls, r, h) (pc + 3, ls, r, h)
  | .ifnull _ => s_r st fun x r => b_br ⟨x = none, inferInstance⟩ (e.2.1.1, ls, r, h) (pc + 3, ls, r, h)
  | .ifnonnull _ => s_r st fun x r => b_br ⟨¬ x = none, inferInstance⟩ (e.2.1.1, ls, r, h) (pc + 3, ls, r, h)
  | .tableswitch _ _ _ _ => s_i st fun x r => b_sw x e.2.2.2.1 (e.2.1.1, ls, r, h)
  | .lookupswitch _ _ => s_i st fun x r => b_sw x e.2.2.2.1 (e.2.1.1, ls, r, h)
  | .ireturn => s_i st fun x _ => b_rt (some (.inl x))
  | .lreturn => s_l st fun x _ => b_rt (some (.inr (.inl x)))
  | .areturn => s_r st fun x _ => b_rt (some (.inr (.inr x)))
  | .return_ => b_rt none
  | .getfield _ => s_r st fun x r => b_at x fun a => (⟨hK h a = e.2.1.1, inferInstance⟩, (pc + 3, ls, f_get h a e.2.1.2.1 e.2.1.2.2.1 :: r, h))
  | .putfield _ => match e.2.1.2.2.1 with
    | 0 => s_ri st fun x v r => b_at x fun a => (⟨hK h a = e.2.1.1, inferInstance⟩, (pc + 3, ls, r, wI h a e.2.1.2.1 v))
    | 1 => match st with
      | .inr (.inl v) :: .inr (.inr x) :: r => b_at x fun a => (⟨hK h a = e.2.1.1, inferInstance⟩, (pc + 3, ls, r, wJ h a e.2.1.2.1 v))
      | _ => b_no
    | 2 => match st with
      | .inr (.inr v) :: .inr (.inr x) :: r => b_at x fun a => (⟨hK h a = e.2.1.1, inferInstance⟩, (pc + 3, ls, r, wR h a e.2.1.2.1 v))
      | _ => b_no
    | _ => s_ri st fun x v r => b_at x fun a => (⟨hK h a = e.2.1.1 ∧ (v = 0 ∨ v = 1), inferInstance⟩, (pc + 3, ls, r, wI h a e.2.1.2.1 v))
  | .getstatic _ => match e.2.1.1 with
    | 0 => b_go (pc + 3, ls, e.2.2.1 :: st, h)
    | _ => b_go (pc + 3, ls, .inr (.inr (hR h 0 2)) :: st, h)
  | .new _ => b_go (pc + 3, ls, .inr (.inr (some (hn h))) :: st, hnew h e.2.1.1 e.2.1.2.1)
  | .newarray t => s_i st fun n r => b_ck ⟨¬ n < 0 ∧ n.toNatClampNeg ≤ 60000, inferInstance⟩ (pc + 2, ls, .inr (.inr (some (hn h))) :: r, hnew h (n_kind t) n.toNatClampNeg)
  | .anewarray _ => s_i st fun n r => b_ck ⟨¬ n < 0 ∧ n.toNatClampNeg ≤ 60000, inferInstance⟩ (pc + 3, ls, .inr (.inr (some (hn h))) :: r, hnew h e.2.1.1 n.toNatClampNeg)
  | .arraylength => s_r st fun x r => b_at x fun a => (⟨a_any (hK h a) = true, inferInstance⟩, (pc + 1, ls, .inl (Int32.ofNat (hN h a)) :: r, h))
  | .iaload => s_ri st fun x i r => b_at x fun a => (⟨(hK h a = 101 ∨ hK h a = 201) ∧ sk_in i (hN h a), inferInstance⟩, (pc + 1, ls, .inl (hI h a i.toNatClampNeg) :: r, h))
  | .baload => s_ri st fun x i r => b_at x fun a => (⟨(hK h a = 103 ∨ hK h a = 104 ∨ hK h a = 204) ∧ sk_in i (hN h a), inferInstance⟩, (pc + 1, ls, .inl (hI h a i.toNatClampNeg) :: r, h))
  | .caload => s_ri st fun x i r => b_at x fun a => (⟨hK h a = 105 ∧ sk_in i (hN h a), inferInstance⟩, (pc + 1, ls, .inl (hI h a i.toNatClampNeg) :: r, h))
  | .laload => s_ri st fun x i r => b_at x fun a => (⟨(hK h a = 102 ∨ hK h a = 202) ∧ sk_in i (hN h a), inferInstance⟩, (pc + 1, ls, .inr (.inl (hJ h a i.toNatClampNeg)) :: r, h))
  | .aaload => s_ri st fun x i r => b_at x fun a => (⟨a_ref (hK h a) = true ∧ sk_in i (hN h a), inferInstance⟩, (pc + 1, ls, .inr (.inr (hR h a i.toNatClampNeg)) :: r, h))
  | .iastore => s_rii st fun x i v r => b_at x fun a => (⟨hK h a = 101 ∧ sk_in i (hN h a), inferInstance⟩, (pc + 1, ls, r, wI h a i.toNatClampNeg v))
  | .bastore => s_rii st fun x i v r => b_at x fun a => (⟨(hK h a = 104 ∨ (hK h a = 103 ∧ (v = 0 ∨ v = 1))) ∧ sk_in i (hN h a), inferInstance⟩, (pc + 1, ls, r, wI h a i.toNatClampNeg v.toInt8.toInt32))
  | .castore => s_rii st fun x i v r => b_at x fun a => (⟨hK h a = 105 ∧ sk_in i (hN h a), inferInstance⟩, (pc + 1, ls, r, wI h a i.toNatClampNeg v.toUInt32.toUInt16.toUInt32.toInt32))
  | .lastore => s_ril st fun x i v r => b_at x fun a => (⟨hK h a = 102 ∧ sk_in i (hN h a), inferInstance⟩, (pc + 1, ls, r, wJ h a i.toNatClampNeg v))
  | .aastore => s_rir st fun x i v r => b_at x fun a => (⟨a_ref (hK h a) = true ∧ sk_in i (hN h a) ∧ hK h (v.getD 0) = a_of (hK h a) ∧ ¬ v = none, inferInstance⟩, (pc + 1, ls, r, wR h a i.toNatClampNeg v))
  | .invokespecial _ => match e.2.1.1 with
    | 0 => s_r st fun _ r => b_go (pc + 3, ls, r, h)
    | m + 1 => match sk_take e.2.1.2.1 [] st with
      | some (as, r) => b_cl m e.2.1.2.2.1 e.2.1.2.2.2 as r
      | none => b_no
  | .invokevirtual _ => match sk_take e.2.1.2.1 [] st with
    | some (as, r) => b_cl (e.2.1.1 - 1) e.2.1.2.2.1 e.2.1.2.2.2 as r
    | none => b_no
  | .invokestatic _ => match sk_take e.2.1.2.1 [] st with
    | some (as, r) => b_cl (e.2.1.1 - 1) e.2.1.2.2.1 e.2.1.2.2.2 as r
    | none => b_no
  | _ => b_no
/-! answers by their kinds -/
abbrev sk_R : Type := Option (sk_H × Option sk_V)
def t_V (h : sk_H) (v : Option sk_V) : Option sk_H := match v with
  | none => some h
  | _ => none
def t_I (h : sk_H) (v : Option sk_V) : Option (sk_H × Int32) := match v with
  | some (.inl x) => some (h, x)
  | _ => none
def t_L (h : sk_H) (v : Option sk_V) : Option (sk_H × Int64) := match v with
  | some (.inr (.inl x)) => some (h, x)
  | _ => none
def t_R (h : sk_H) (v : Option sk_V) : Option (sk_H × Option Nat) := match v with
  | some (.inr (.inr x)) => some (h, x)
  | _ => none
def t_O (h : sk_H) (v : Option sk_V) : sk_R := some (h, v)
def sk_ty {τ : Type} (ret : sk_H → Option sk_V → Option τ) (r : sk_R) : Option τ := r.bind fun q => ret q.1 q.2
def sk_cont {τ : Type} (rk : Nat) (r : sk_R) (k : sk_H → List sk_V → Option τ) : Option τ := match rk with
  | 0 => (sk_ty t_V r).bind fun q => k q []
  | 1 => (sk_ty t_I r).bind fun q => k q.1 [.inl q.2]
  | 2 => (sk_ty t_L r).bind fun q => k q.1 [.inr (.inl q.2)]
  | _ => (sk_ty t_R r).bind fun q => k q.1 [.inr (.inr q.2)]
def sk_sw {τ : Type} (x : Int32) (f : Nat → Option τ) (d : Nat) : List (Int32 × Nat) → Option τ
  | [] => f d
  | c :: r => if x = c.1 then f c.2 else sk_sw x f d r
def sk_step {τ : Type} (ret : sk_H → Option sk_V → Option τ) (fc : Nat → sk_Ls → sk_H → sk_R) (f : sk_C → Option τ) (pc : Nat) (ls : sk_Ls) (h : sk_H) (A : sk_A) : Option τ := match A with
  | .inl c => f c
  | .inr (.inl q) => @ite _ q.1.1 q.1.2 (f q.2.1) (f q.2.2)
  | .inr (.inr (.inl q)) => @ite _ q.1.1 q.1.2 (f q.2) none
  | .inr (.inr (.inr (.inl q))) => sk_sw q.1 (fun t => f (t, q.2.2.2)) q.2.2.1 q.2.1
  | .inr (.inr (.inr (.inr (.inl v)))) => ret h v
  | .inr (.inr (.inr (.inr (.inr q)))) => sk_cont q.1.2.1 (fc q.1.1 (sk_ent q.1.2.2 q.2.1) h) (fun h1 vs => f (pc + 3, ls, vs ++ q.2.2, h1))
def sk_live (e : sk_E) (ls : sk_Ls) : sk_Ls := match e.2.2.2.2 with
  | some ks => sk_kill ks ls
  | none => ls
def sk_fin {τ : Type} (ret : sk_H → Option sk_V → Option τ) (fc : Nat → sk_Ls → sk_H → sk_R) (f : sk_C → Option τ) (pc : Nat) (ls : sk_Ls) (h : sk_H) (b : sk_B) : Option τ := b.1.bind fun a => (b.2 a).bind fun A => sk_step ret fc f pc ls h A
def sk_one {τ : Type} (ret : sk_H → Option sk_V → Option τ) (fc : Nat → sk_Ls → sk_H → sk_R) (f : sk_C → Option τ) (e : sk_E) (c : sk_C) : Option τ :=
  sk_fin ret fc f c.1 (sk_live e c.2.1) c.2.2.2 (sk_act e c.1 (sk_live e c.2.1) c.2.2.1 c.2.2.2)
/-- a call: the methods that call themselves spend one of d -/
def sk_call (rec? : Nat → Bool) (g : Nat → Nat → sk_C → sk_R) (d m : Nat) (ls : sk_Ls) (h : sk_H) : sk_R := match rec? m with
  | false => g d m (0, ls, [], h)
  | true => match d with
    | 0 => none
    | k + 1 => g k m (0, ls, [], h)
def sk_run (T : sk_T) (rec? : Nat → Bool) : Nat → Nat → Nat → sk_C → sk_R
  | 0, _, _, _ => none
  | n + 1, d, m, c => (T m c.1).bind fun e => sk_one t_O (sk_call rec? (sk_run T rec? n) d) (sk_run T rec? n d m) e c
end
