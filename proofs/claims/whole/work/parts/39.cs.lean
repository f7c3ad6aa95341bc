/-! ===== the shape of the class's fixed cells (printed by cs.py) ===== -/
def cK : List (Nat × Nat × Nat) := [(20, 12, 9), (21, 105, 400), (22, 106, 6), (23, 9, 8), (24, 101, 40), (25, 101, 40), (26, 108, 40), (27, 107, 4), (28, 1, 5), (29, 101, 20), (30, 101, 20), (31, 101, 20), (32, 11, 14), (43, 102, 4096), (44, 101, 4096), (45, 101, 4096), (46, 101, 4096), (47, 101, 4096), (48, 101, 4096), (49, 4, 9), (50, 5, 1), (51, 102, 11)]
def cR : List (Nat × Nat × Nat) := [(20, 0, 21), (20, 2, 22), (20, 4, 23), (20, 5, 27), (20, 6, 28), (20, 7, 32), (20, 8, 49), (23, 5, 24), (23, 6, 25), (23, 7, 26), (28, 0, 29), (28, 1, 30), (28, 2, 31), (32, 3, 43), (32, 4, 44), (32, 5, 45), (32, 6, 46), (32, 7, 47), (32, 8, 48), (49, 0, 50), (50, 0, 51)]
def CS (h : sk_H) : Prop := (∀ q ∈ cK, hK h q.1 = q.2.1 ∧ hN h q.1 = q.2.2) ∧ ∀ q ∈ cR, hR h q.1 q.2.1 = some q.2.2
section SkCS
variable {h h2 : sk_H}
theorem CS.k20 (C : CS h) : hK h 20 = 12 := (C.1 (20, 12, 9) (by simp [cK])).1
theorem CS.k21 (C : CS h) : hK h 21 = 105 := (C.1 (21, 105, 400) (by simp [cK])).1
theorem CS.n21 (C : CS h) : hN h 21 = 400 := (C.1 (21, 105, 400) (by simp [cK])).2
theorem CS.k22 (C : CS h) : hK h 22 = 106 := (C.1 (22, 106, 6) (by simp [cK])).1
theorem CS.n22 (C : CS h) : hN h 22 = 6 := (C.1 (22, 106, 6) (by simp [cK])).2
theorem CS.k23 (C : CS h) : hK h 23 = 9 := (C.1 (23, 9, 8) (by simp [cK])).1
theorem CS.k24 (C : CS h) : hK h 24 = 101 := (C.1 (24, 101, 40) (by simp [cK])).1
theorem CS.n24 (C : CS h) : hN h 24 = 40 := (C.1 (24, 101, 40) (by simp [cK])).2
theorem CS.k25 (C : CS h) : hK h 25 = 101 := (C.1 (25, 101, 40) (by simp [cK])).1
theorem CS.n25 (C : CS h) : hN h 25 = 40 := (C.1 (25, 101, 40) (by simp [cK])).2
theorem CS.k26 (C : CS h) : hK h 26 = 108 := (C.1 (26, 108, 40) (by simp [cK])).1
theorem CS.n26 (C : CS h) : hN h 26 = 40 := (C.1 (26, 108, 40) (by simp [cK])).2
theorem CS.k27 (C : CS h) : hK h 27 = 107 := (C.1 (27, 107, 4) (by simp [cK])).1
theorem CS.n27 (C : CS h) : hN h 27 = 4 := (C.1 (27, 107, 4) (by simp [cK])).2
theorem CS.k28 (C : CS h) : hK h 28 = 1 := (C.1 (28, 1, 5) (by simp [cK])).1
theorem CS.k29 (C : CS h) : hK h 29 = 101 := (C.1 (29, 101, 20) (by simp [cK])).1
theorem CS.n29 (C : CS h) : hN h 29 = 20 := (C.1 (29, 101, 20) (by simp [cK])).2
theorem CS.k30 (C : CS h) : hK h 30 = 101 := (C.1 (30, 101, 20) (by simp [cK])).1
theorem CS.n30 (C : CS h) : hN h 30 = 20 := (C.1 (30, 101, 20) (by simp [cK])).2
theorem CS.k31 (C : CS h) : hK h 31 = 101 := (C.1 (31, 101, 20) (by simp [cK])).1
theorem CS.n31 (C : CS h) : hN h 31 = 20 := (C.1 (31, 101, 20) (by simp [cK])).2
theorem CS.k32 (C : CS h) : hK h 32 = 11 := (C.1 (32, 11, 14) (by simp [cK])).1
theorem CS.k43 (C : CS h) : hK h 43 = 102 := (C.1 (43, 102, 4096) (by simp [cK])).1
theorem CS.n43 (C : CS h) : hN h 43 = 4096 := (C.1 (43, 102, 4096) (by simp [cK])).2
theorem CS.k44 (C : CS h) : hK h 44 = 101 := (C.1 (44, 101, 4096) (by simp [cK])).1
theorem CS.n44 (C : CS h) : hN h 44 = 4096 := (C.1 (44, 101, 4096) (by simp [cK])).2
theorem CS.k45 (C : CS h) : hK h 45 = 101 := (C.1 (45, 101, 4096) (by simp [cK])).1
theorem CS.n45 (C : CS h) : hN h 45 = 4096 := (C.1 (45, 101, 4096) (by simp [cK])).2
theorem CS.k46 (C : CS h) : hK h 46 = 101 := (C.1 (46, 101, 4096) (by simp [cK])).1
theorem CS.n46 (C : CS h) : hN h 46 = 4096 := (C.1 (46, 101, 4096) (by simp [cK])).2
theorem CS.k47 (C : CS h) : hK h 47 = 101 := (C.1 (47, 101, 4096) (by simp [cK])).1
theorem CS.n47 (C : CS h) : hN h 47 = 4096 := (C.1 (47, 101, 4096) (by simp [cK])).2
theorem CS.k48 (C : CS h) : hK h 48 = 101 := (C.1 (48, 101, 4096) (by simp [cK])).1
theorem CS.n48 (C : CS h) : hN h 48 = 4096 := (C.1 (48, 101, 4096) (by simp [cK])).2
theorem CS.k49 (C : CS h) : hK h 49 = 4 := (C.1 (49, 4, 9) (by simp [cK])).1
theorem CS.k50 (C : CS h) : hK h 50 = 5 := (C.1 (50, 5, 1) (by simp [cK])).1
theorem CS.k51 (C : CS h) : hK h 51 = 102 := (C.1 (51, 102, 11) (by simp [cK])).1
theorem CS.n51 (C : CS h) : hN h 51 = 11 := (C.1 (51, 102, 11) (by simp [cK])).2
theorem CS.r20_0 (C : CS h) : hR h 20 0 = some 21 := C.2 (20, 0, 21) (by simp [cR])
theorem CS.r20_2 (C : CS h) : hR h 20 2 = some 22 := C.2 (20, 2, 22) (by simp [cR])
theorem CS.r20_4 (C : CS h) : hR h 20 4 = some 23 := C.2 (20, 4, 23) (by simp [cR])
theorem CS.r20_5 (C : CS h) : hR h 20 5 = some 27 := C.2 (20, 5, 27) (by simp [cR])
theorem CS.r20_6 (C : CS h) : hR h 20 6 = some 28 := C.2 (20, 6, 28) (by simp [cR])
theorem CS.r20_7 (C : CS h) : hR h 20 7 = some 32 := C.2 (20, 7, 32) (by simp [cR])
theorem CS.r20_8 (C : CS h) : hR h 20 8 = some 49 := C.2 (20, 8, 49) (by simp [cR])
theorem CS.r23_5 (C : CS h) : hR h 23 5 = some 24 := C.2 (23, 5, 24) (by simp [cR])
theorem CS.r23_6 (C : CS h) : hR h 23 6 = some 25 := C.2 (23, 6, 25) (by simp [cR])
theorem CS.r23_7 (C : CS h) : hR h 23 7 = some 26 := C.2 (23, 7, 26) (by simp [cR])
theorem CS.r28_0 (C : CS h) : hR h 28 0 = some 29 := C.2 (28, 0, 29) (by simp [cR])
theorem CS.r28_1 (C : CS h) : hR h 28 1 = some 30 := C.2 (28, 1, 30) (by simp [cR])
theorem CS.r28_2 (C : CS h) : hR h 28 2 = some 31 := C.2 (28, 2, 31) (by simp [cR])
theorem CS.r32_3 (C : CS h) : hR h 32 3 = some 43 := C.2 (32, 3, 43) (by simp [cR])
theorem CS.r32_4 (C : CS h) : hR h 32 4 = some 44 := C.2 (32, 4, 44) (by simp [cR])
theorem CS.r32_5 (C : CS h) : hR h 32 5 = some 45 := C.2 (32, 5, 45) (by simp [cR])
theorem CS.r32_6 (C : CS h) : hR h 32 6 = some 46 := C.2 (32, 6, 46) (by simp [cR])
theorem CS.r32_7 (C : CS h) : hR h 32 7 = some 47 := C.2 (32, 7, 47) (by simp [cR])
theorem CS.r32_8 (C : CS h) : hR h 32 8 = some 48 := C.2 (32, 8, 48) (by simp [cR])
theorem CS.r49_0 (C : CS h) : hR h 49 0 = some 50 := C.2 (49, 0, 50) (by simp [cR])
theorem CS.r50_0 (C : CS h) : hR h 50 0 = some 51 := C.2 (50, 0, 51) (by simp [cR])
theorem CS.wI (C : CS h) (a i : Nat) (v : Int32) : CS (wI h a i v) := C
theorem CS.wJ (C : CS h) (a i : Nat) (v : Int64) : CS (wJ h a i v) := C
theorem CS.cg (C : CS h) (h1 : ∀ a, a < 73 → hK h2 a = hK h a ∧ hN h2 a = hN h a) (h3 : ∀ q ∈ cR, hR h2 q.1 q.2.1 = hR h q.1 q.2.1) : CS h2 := ⟨fun q hq => by
  have h4 : q.1 < 73 := by
    simp only [cK, List.mem_cons, List.not_mem_nil, or_false] at hq
    rcases hq with rfl | rfl | rfl | rfl | rfl | rfl | rfl | rfl | rfl | rfl | rfl | rfl | rfl | rfl | rfl | rfl | rfl | rfl | rfl | rfl | rfl | rfl <;> decide
  rw [(h1 _ h4).1, (h1 _ h4).2]; exact C.1 q hq, fun q hq => by rw [h3 q hq]; exact C.2 q hq⟩
end SkCS
section SkMS52
variable {h : sk_H}
theorem MS.K52 (M : MS 52 h) : hK h 52 = 13 := M.1
theorem MS.R0 (M : MS 52 h) : hR h 52 0 = some 53 := M.r0
theorem MS.K53 (M : MS 52 h) : hK h 53 = 104 := (M.2.2 1 (by decide) (by decide)).1
theorem MS.N53 (M : MS 52 h) : hN h 53 = 400 := (M.2.2 1 (by decide) (by decide)).2
theorem MS.R3 (M : MS 52 h) : hR h 52 3 = some 54 := M.r3
theorem MS.K54 (M : MS 52 h) : hK h 54 = 101 := (M.2.2 2 (by decide) (by decide)).1
theorem MS.N54 (M : MS 52 h) : hN h 54 = 2400 := (M.2.2 2 (by decide) (by decide)).2
theorem MS.R4 (M : MS 52 h) : hR h 52 4 = some 55 := M.r4
theorem MS.K55 (M : MS 52 h) : hK h 55 = 101 := (M.2.2 3 (by decide) (by decide)).1
theorem MS.N55 (M : MS 52 h) : hN h 55 = 7 := (M.2.2 3 (by decide) (by decide)).2
theorem MS.R5 (M : MS 52 h) : hR h 52 5 = some 56 := M.r5
theorem MS.K56 (M : MS 52 h) : hK h 56 = 101 := (M.2.2 4 (by decide) (by decide)).1
theorem MS.N56 (M : MS 52 h) : hN h 56 = 288 := (M.2.2 4 (by decide) (by decide)).2
theorem MS.R6 (M : MS 52 h) : hR h 52 6 = some 57 := M.r6
theorem MS.K57 (M : MS 52 h) : hK h 57 = 101 := (M.2.2 5 (by decide) (by decide)).1
theorem MS.N57 (M : MS 52 h) : hN h 57 = 6 := (M.2.2 5 (by decide) (by decide)).2
theorem MS.R7 (M : MS 52 h) : hR h 52 7 = some 58 := M.r7
theorem MS.K58 (M : MS 52 h) : hK h 58 = 101 := (M.2.2 6 (by decide) (by decide)).1
theorem MS.N58 (M : MS 52 h) : hN h 58 = 24 := (M.2.2 6 (by decide) (by decide)).2
theorem MS.R15 (M : MS 52 h) : hR h 52 15 = some 59 := M.r15
theorem MS.K59 (M : MS 52 h) : hK h 59 = 101 := (M.2.2 7 (by decide) (by decide)).1
theorem MS.N59 (M : MS 52 h) : hN h 59 = 400 := (M.2.2 7 (by decide) (by decide)).2
theorem MS.R17 (M : MS 52 h) : hR h 52 17 = some 60 := M.r17
theorem MS.K60 (M : MS 52 h) : hK h 60 = 102 := (M.2.2 8 (by decide) (by decide)).1
theorem MS.N60 (M : MS 52 h) : hN h 60 = 64 := (M.2.2 8 (by decide) (by decide)).2
theorem MS.R19 (M : MS 52 h) : hR h 52 19 = some 61 := M.r19
theorem MS.K61 (M : MS 52 h) : hK h 61 = 102 := (M.2.2 9 (by decide) (by decide)).1
theorem MS.N61 (M : MS 52 h) : hN h 61 = 11 := (M.2.2 9 (by decide) (by decide)).2
theorem MS.R20 (M : MS 52 h) : hR h 52 20 = some 62 := M.r20
theorem MS.K62 (M : MS 52 h) : hK h 62 = 101 := (M.2.2 10 (by decide) (by decide)).1
theorem MS.N62 (M : MS 52 h) : hN h 62 = 184 := (M.2.2 10 (by decide) (by decide)).2
theorem MS.R22 (M : MS 52 h) : hR h 52 22 = some 63 := M.r22
theorem MS.K63 (M : MS 52 h) : hK h 63 = 103 := (M.2.2 11 (by decide) (by decide)).1
theorem MS.N63 (M : MS 52 h) : hN h 63 = 4096 := (M.2.2 11 (by decide) (by decide)).2
theorem MS.R24 (M : MS 52 h) : hR h 52 24 = some 64 := M.r24
theorem MS.K64 (M : MS 52 h) : hK h 64 = 101 := (M.2.2 12 (by decide) (by decide)).1
theorem MS.N64 (M : MS 52 h) : hN h 64 = 80 := (M.2.2 12 (by decide) (by decide)).2
theorem MS.R26 (M : MS 52 h) : hR h 52 26 = some 65 := M.r26
theorem MS.K65 (M : MS 52 h) : hK h 65 = 101 := (M.2.2 13 (by decide) (by decide)).1
theorem MS.N65 (M : MS 52 h) : hN h 65 = 4096 := (M.2.2 13 (by decide) (by decide)).2
theorem MS.R27 (M : MS 52 h) : hR h 52 27 = some 66 := M.r27
theorem MS.K66 (M : MS 52 h) : hK h 66 = 103 := (M.2.2 14 (by decide) (by decide)).1
theorem MS.N66 (M : MS 52 h) : hN h 66 = 256 := (M.2.2 14 (by decide) (by decide)).2
theorem MS.R28 (M : MS 52 h) : hR h 52 28 = some 67 := M.r28
theorem MS.K67 (M : MS 52 h) : hK h 67 = 101 := (M.2.2 15 (by decide) (by decide)).1
theorem MS.N67 (M : MS 52 h) : hN h 67 = 41 := (M.2.2 15 (by decide) (by decide)).2
theorem MS.R29 (M : MS 52 h) : hR h 52 29 = some 68 := M.r29
theorem MS.K68 (M : MS 52 h) : hK h 68 = 101 := (M.2.2 16 (by decide) (by decide)).1
theorem MS.N68 (M : MS 52 h) : hN h 68 = 4096 := (M.2.2 16 (by decide) (by decide)).2
theorem MS.R30 (M : MS 52 h) : hR h 52 30 = some 69 := M.r30
theorem MS.K69 (M : MS 52 h) : hK h 69 = 101 := (M.2.2 17 (by decide) (by decide)).1
theorem MS.N69 (M : MS 52 h) : hN h 69 = 4096 := (M.2.2 17 (by decide) (by decide)).2
theorem MS.R37 (M : MS 52 h) : hR h 52 37 = some 70 := M.r37
theorem MS.K70 (M : MS 52 h) : hK h 70 = 101 := (M.2.2 18 (by decide) (by decide)).1
theorem MS.N70 (M : MS 52 h) : hN h 70 = 736 := (M.2.2 18 (by decide) (by decide)).2
theorem MS.R38 (M : MS 52 h) : hR h 52 38 = some 71 := M.r38
theorem MS.K71 (M : MS 52 h) : hK h 71 = 101 := (M.2.2 19 (by decide) (by decide)).1
theorem MS.N71 (M : MS 52 h) : hN h 71 = 4 := (M.2.2 19 (by decide) (by decide)).2
theorem MS.R39 (M : MS 52 h) : hR h 52 39 = some 72 := M.r39
theorem MS.K72 (M : MS 52 h) : hK h 72 = 103 := (M.2.2 20 (by decide) (by decide)).1
theorem MS.N72 (M : MS 52 h) : hN h 72 = 4 := (M.2.2 20 (by decide) (by decide)).2
end SkMS52
