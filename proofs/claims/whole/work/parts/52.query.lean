/-! ===== queries: won, lasts, plays, chance, child ===== -/
section SkQ
variable {L : Nat} {xs : Nat → Int32} {F G : Nat → Prop} {E : Nat → Option DD} {h h1 h2 : sk_H} {j st tu pl a : Nat} {D : DD} {c : Nat → Nat} {d : Nat} {P : Nat → Nat → Bool}
theorem TI.wq {fl arr N : Nat} {T : Nat → Int32} (t : TI h fl arr T N) (Q : Wq h h1) (hf : fl ≠ 9) (ha : arr ≠ 32) : TI h1 fl arr T N := by
  rcases t with q | ⟨q1, q2⟩
  · exact Or.inl (by rw [Q.I2 hf]; exact q)
  · exact Or.inr ⟨by rw [Q.I2 hf]; exact q1, fun j hj => by rw [Q.I ha]; exact q2 j hj⟩
theorem TD.wq (t : TD h D a) (Q : Wq h h1) (t1 : TC h1 D a) : TD h1 D a := by
  obtain ⟨-, t2, t3, t4, t5⟩ := t
  refine ⟨t1, t2.wq Q (by decide) (by decide), t3.wq Q (by decide) (by decide), t4.wq Q (by decide) (by decide), t5.imp (fun q => by rw [Q.I2 (by decide)]; exact q) (fun q => ⟨by rw [Q.I2 (by decide)]; exact q.1, fun j hj => by rw [Q.I (by decide)]; exact q.2.1 j hj, fun j hj => by rw [Q.I (by decide)]; exact q.2.2 j hj⟩)⟩
theorem TI.iq {fl arr N : Nat} {T : Nat → Int32} (t : TI h fl arr T N) (Q : Iq P h h1) (hf : P 32 fl = false) (ha : ∀ i, P arr i = false) : TI h1 fl arr T N := by
  rcases t with q | ⟨q1, q2⟩
  · exact Or.inl (by rw [Q.I hf]; exact q)
  · exact Or.inr ⟨by rw [Q.I hf]; exact q1, fun j hj => by rw [Q.I (ha j)]; exact q2 j hj⟩
theorem TC.iq (t : TC h D a) (Q : Iq P h h1) (p1 : P 32 1 = false) (p2 : P 32 2 = false) (p9 : P 32 9 = false) : TC h1 D a := ⟨by rw [Q.eR]; exact t.1, by rw [Q.I p1]; exact t.2.1, by rw [Q.I p2]; exact t.2.2.1, t.2.2.2.imp (fun q => by rw [Q.I p9]; exact q) (fun q => ⟨by rw [Q.I p9]; exact q.1, by rw [Q.eJ]; exact q.2⟩)⟩
theorem cl_iq {N : Nat} (t : hI h 32 13 = nI 0 ∨ (hI h 32 13 = nI 1 ∧ clK D N h)) (Q : Iq P h h1) (hf : P 32 13 = false) (ha : ∀ i, P 47 i = false) (hb : ∀ i, P 48 i = false) : hI h1 32 13 = nI 0 ∨ (hI h1 32 13 = nI 1 ∧ clK D N h1) := t.imp (fun q => by rw [Q.I hf]; exact q) (fun q => ⟨by rw [Q.I hf]; exact q.1, fun j hj => by rw [Q.I (ha j)]; exact q.2.1 j hj, fun j hj => by rw [Q.I (hb j)]; exact q.2.2 j hj⟩)
theorem QC.ci (Q : QC F h a D c st) : CI F D a c h := ⟨Q.1, Q.2.2.2.2.1, Q.2.2.2.2.2.2.2.2.1.1.1, Q.2.2.2.2.2.2.2.2.1.1.2.2.1, Q.2.2.2.2.2.2.2.2.1.1.2.1⟩
theorem QC.m (Q : QC F h a D c st) (q : Cq h h1) : MI D st h1 ∧ MWon (dA D) h1 := by
  obtain ⟨C, M, hF, w, O, r, i, hst, T, S, s8, X⟩ := Q
  exact ⟨⟨M.cq q, by rw [q.I52 (by decide)]; exact S, by rw [q.I52 (by decide)]; exact s8⟩, X.cq q⟩
theorem M_isAlley_1 (M : MS 52 h) (s0 : hI h 62 0 = nI 1) : c_M_isAlley d (some 52) h = some (h, nI 1) := by
  rw [e_M_isAlley]
  simp (disch := omega) only [M.K52, M.R0, M.R3, M.R4, M.R5, M.R6, M.R7, M.R15, M.R17, M.R19, M.R20, M.R22, M.R24, M.R26, M.R27, M.R28, M.R29, M.R30, M.R37, M.R38, M.R39, ↓bnd M.R0, ↓bnd M.R3, ↓bnd M.R4, ↓bnd M.R5, ↓bnd M.R6, ↓bnd M.R7, ↓bnd M.R15, ↓bnd M.R17, ↓bnd M.R19, ↓bnd M.R20, ↓bnd M.R22, ↓bnd M.R24, ↓bnd M.R26, ↓bnd M.R27, ↓bnd M.R28, ↓bnd M.R29, ↓bnd M.R30, ↓bnd M.R37, ↓bnd M.R38, ↓bnd M.R39, M.K53, M.K54, M.K55, M.K56, M.K57, M.K58, M.K59, M.K60, M.K61, M.K62, M.K63, M.K64, M.K65, M.K66, M.K67, M.K68, M.K69, M.K70, M.K71, M.K72, M.N53, M.N54, M.N55, M.N56, M.N57, M.N58, M.N59, M.N60, M.N61, M.N62, M.N63, M.N64, M.N65, M.N66, M.N67, M.N68, M.N69, M.N70, M.N71, M.N72, ↓reduceIte, ↓Option.bind_some, if_true, if_false, true_and, and_true, and_self, true_or, or_true, false_or, or_false, not_true_eq_false, not_false_eq_true, Option.bind_some, somene, false_and, and_false, reduceCtorEq, Nat.reduceEqDiff, l0, l1, q_in, q_cl, s0]
theorem M_isAlley_0 (M : MS 52 h) (s0 : hI h 62 0 = nI 0) : c_M_isAlley d (some 52) h = some (h, nI 0) := by
  rw [e_M_isAlley]
  simp (disch := omega) only [M.K52, M.R0, M.R3, M.R4, M.R5, M.R6, M.R7, M.R15, M.R17, M.R19, M.R20, M.R22, M.R24, M.R26, M.R27, M.R28, M.R29, M.R30, M.R37, M.R38, M.R39, ↓bnd M.R0, ↓bnd M.R3, ↓bnd M.R4, ↓bnd M.R5, ↓bnd M.R6, ↓bnd M.R7, ↓bnd M.R15, ↓bnd M.R17, ↓bnd M.R19, ↓bnd M.R20, ↓bnd M.R22, ↓bnd M.R24, ↓bnd M.R26, ↓bnd M.R27, ↓bnd M.R28, ↓bnd M.R29, ↓bnd M.R30, ↓bnd M.R37, ↓bnd M.R38, ↓bnd M.R39, M.K53, M.K54, M.K55, M.K56, M.K57, M.K58, M.K59, M.K60, M.K61, M.K62, M.K63, M.K64, M.K65, M.K66, M.K67, M.K68, M.K69, M.K70, M.K71, M.K72, M.N53, M.N54, M.N55, M.N56, M.N57, M.N58, M.N59, M.N60, M.N61, M.N62, M.N63, M.N64, M.N65, M.N66, M.N67, M.N68, M.N69, M.N70, M.N71, M.N72, ↓reduceIte, ↓Option.bind_some, if_true, if_false, true_and, and_true, and_self, true_or, or_true, false_or, or_false, not_true_eq_false, not_false_eq_true, Option.bind_some, somene, false_and, and_false, reduceCtorEq, Nat.reduceEqDiff, l0, l1, q_in, q_cl, s0, q_eq_f]
theorem q_won : sk_Ag (JJ L xs) L xs 52 (fun h => c_SR_won 40 (some 20) h) (fun h => c_M_won 40 (some 52) h) := by
  refine Ag_of (fun j h F E J r s => ?_) (fun j h F E st tu pl a D c hj J hE Q => ?_)
  · have C := J.2.1
    have M := J.2.2.1
    refine ⟨nM, ?_, ?_⟩
    · show c_SR_won 40 (some 20) h = _
      rw [e_SR_won]
      simp only [C.k20, C.k21, C.k22, C.k23, C.k24, C.k25, C.k26, C.k27, C.k28, C.k29, C.k30, C.k31, C.k32, C.k43, C.k44, C.k45, C.k46, C.k47, C.k48, C.k49, C.k50, C.k51, C.n21, C.n22, C.n24, C.n25, C.n26, C.n27, C.n29, C.n30, C.n31, C.n43, C.n44, C.n45, C.n46, C.n47, C.n48, C.n51, C.r20_0, C.r20_2, C.r20_4, C.r20_5, C.r20_6, C.r20_7, C.r20_8, C.r23_5, C.r23_6, C.r23_7, C.r28_0, C.r28_1, C.r28_2, C.r32_3, C.r32_4, C.r32_5, C.r32_6, C.r32_7, C.r32_8, C.r49_0, C.r50_0, ↓bnd C.r20_0, ↓bnd C.r20_2, ↓bnd C.r20_4, ↓bnd C.r20_5, ↓bnd C.r20_6, ↓bnd C.r20_7, ↓bnd C.r20_8, ↓bnd C.r23_5, ↓bnd C.r23_6, ↓bnd C.r23_7, ↓bnd C.r28_0, ↓bnd C.r28_1, ↓bnd C.r28_2, ↓bnd C.r32_3, ↓bnd C.r32_4, ↓bnd C.r32_5, ↓bnd C.r32_6, ↓bnd C.r32_7, ↓bnd C.r32_8, ↓bnd C.r49_0, ↓bnd C.r50_0, ↓reduceIte, ↓Option.bind_some, if_true, if_false, true_and, and_true, and_self, true_or, or_true, false_or, or_false, not_true_eq_false, not_false_eq_true, Option.bind_some, somene, false_and, and_false, reduceCtorEq, Nat.reduceEqDiff, r, lm1, l1]
    · show c_M_won 40 (some 52) h = _
      rw [e_M_won]
      simp only [M.K52, ↓reduceIte, ↓Option.bind_some, if_true, if_false, true_and, and_true, and_self, true_or, or_true, false_or, or_false, not_true_eq_false, not_false_eq_true, Option.bind_some, somene, false_and, and_false, reduceCtorEq, Nat.reduceEqDiff, M_isAlley_0 M (s 0 (by omega)), lm1, l1, l0]
  · obtain ⟨C, M, hF, w, O, r, i, hst, T, S, s8, X⟩ := id Q
    obtain ⟨h1, e, q, t, f⟩ := Ta_canWin_ok (d := 40) C w hF O T.1 hst
    have q' := q.cq C
    obtain ⟨⟨M1, S1, s81⟩, X1⟩ := Q.m q'
    obtain ⟨h2, e2, Q2, X2, -⟩ := M_isWonAt_ok 40 M1 w S1 X1 hst
    refine ⟨h1, h2, bi (wD D st), ?_, q', T.wq q t, ?_, Q2, X2⟩
    · show c_SR_won 40 (some 20) h = _
      rw [e_SR_won]
      simp only [C.k20, C.k21, C.k22, C.k23, C.k24, C.k25, C.k26, C.k27, C.k28, C.k29, C.k30, C.k31, C.k32, C.k43, C.k44, C.k45, C.k46, C.k47, C.k48, C.k49, C.k50, C.k51, C.n21, C.n22, C.n24, C.n25, C.n26, C.n27, C.n29, C.n30, C.n31, C.n43, C.n44, C.n45, C.n46, C.n47, C.n48, C.n51, C.r20_0, C.r20_2, C.r20_4, C.r20_5, C.r20_6, C.r20_7, C.r20_8, C.r23_5, C.r23_6, C.r23_7, C.r28_0, C.r28_1, C.r28_2, C.r32_3, C.r32_4, C.r32_5, C.r32_6, C.r32_7, C.r32_8, C.r49_0, C.r50_0, ↓bnd C.r20_0, ↓bnd C.r20_2, ↓bnd C.r20_4, ↓bnd C.r20_5, ↓bnd C.r20_6, ↓bnd C.r20_7, ↓bnd C.r20_8, ↓bnd C.r23_5, ↓bnd C.r23_6, ↓bnd C.r23_7, ↓bnd C.r28_0, ↓bnd C.r28_1, ↓bnd C.r28_2, ↓bnd C.r32_3, ↓bnd C.r32_4, ↓bnd C.r32_5, ↓bnd C.r32_6, ↓bnd C.r32_7, ↓bnd C.r32_8, ↓bnd C.r49_0, ↓bnd C.r50_0, ↓reduceIte, ↓Option.bind_some, if_true, if_false, true_and, and_true, and_self, true_or, or_true, false_or, or_false, not_true_eq_false, not_false_eq_true, Option.bind_some, somene, false_and, and_false, reduceCtorEq, Nat.reduceEqDiff, r, i, e, l0, l1, q_bi0]
      cases wD D st <;> rfl
    · show c_M_won 40 (some 52) h1 = _
      rw [e_M_won]
      have e10 : (nI 1 = nI 0) = False := eq_false (by decide)
      simp (disch := omega) only [M1.K52, M1.R20, M1.K62, M1.N62, ↓reduceIte, ↓Option.bind_some, if_true, if_false, true_and, and_true, and_self, true_or, or_true, false_or, or_false, not_true_eq_false, not_false_eq_true, Option.bind_some, somene, false_and, and_false, reduceCtorEq, Nat.reduceEqDiff, M_isAlley_1 M1 S1.2.1, l0, l1, l8, s81, q_in, q_cl, e2, q_bi0, e10]
      cases wD D st <;> rfl
theorem q_lasts : sk_Ag (JJ L xs) L xs 52 (fun h => c_SR_lasts 40 (some 20) h) (fun h => c_M_lasts 40 (some 52) h) := by
  refine Ag_of (fun j h F E J r s => ?_) (fun j h F E st tu pl a D c hj J hE Q => ?_)
  · have C := J.2.1
    have M := J.2.2.1
    refine ⟨nM, ?_, ?_⟩
    · show c_SR_lasts 40 (some 20) h = _
      rw [e_SR_lasts]
      simp only [C.k20, C.k21, C.k22, C.k23, C.k24, C.k25, C.k26, C.k27, C.k28, C.k29, C.k30, C.k31, C.k32, C.k43, C.k44, C.k45, C.k46, C.k47, C.k48, C.k49, C.k50, C.k51, C.n21, C.n22, C.n24, C.n25, C.n26, C.n27, C.n29, C.n30, C.n31, C.n43, C.n44, C.n45, C.n46, C.n47, C.n48, C.n51, C.r20_0, C.r20_2, C.r20_4, C.r20_5, C.r20_6, C.r20_7, C.r20_8, C.r23_5, C.r23_6, C.r23_7, C.r28_0, C.r28_1, C.r28_2, C.r32_3, C.r32_4, C.r32_5, C.r32_6, C.r32_7, C.r32_8, C.r49_0, C.r50_0, ↓bnd C.r20_0, ↓bnd C.r20_2, ↓bnd C.r20_4, ↓bnd C.r20_5, ↓bnd C.r20_6, ↓bnd C.r20_7, ↓bnd C.r20_8, ↓bnd C.r23_5, ↓bnd C.r23_6, ↓bnd C.r23_7, ↓bnd C.r28_0, ↓bnd C.r28_1, ↓bnd C.r28_2, ↓bnd C.r32_3, ↓bnd C.r32_4, ↓bnd C.r32_5, ↓bnd C.r32_6, ↓bnd C.r32_7, ↓bnd C.r32_8, ↓bnd C.r49_0, ↓bnd C.r50_0, ↓reduceIte, ↓Option.bind_some, if_true, if_false, true_and, and_true, and_self, true_or, or_true, false_or, or_false, not_true_eq_false, not_false_eq_true, Option.bind_some, somene, false_and, and_false, reduceCtorEq, Nat.reduceEqDiff, r, lm1, l1]
    · show c_M_lasts 40 (some 52) h = _
      rw [e_M_lasts]
      simp only [M.K52, ↓reduceIte, ↓Option.bind_some, if_true, if_false, true_and, and_true, and_self, true_or, or_true, false_or, or_false, not_true_eq_false, not_false_eq_true, Option.bind_some, somene, false_and, and_false, reduceCtorEq, Nat.reduceEqDiff, M_isAlley_0 M (s 0 (by omega)), lm1, l1, l0]
  · obtain ⟨C, M, hF, w, O, r, i, hst, T, S, s8, X⟩ := id Q
    have hp := pow12 w.1.1
    have key : ∃ h1, c_Ta_lengthAt 40 (some 32) (nI st) h = some (h1, nI (lnT D st)) ∧ Cq h h1 ∧ TD h1 D a := by
      rw [e_Ta_lengthAt]
      rcases id T.2.1 with q0 | ⟨q1, q2⟩
      · obtain ⟨h0, h1, e1, e2, e3, e4, e5, e6, e7⟩ := Ta_ln_all (d := 40) hF w Q.ci T.1
        have q' := e2.cq C
        have C0 := C.cq q'
        have q'' := e5.cq P44_C
        have C1 := C0.cq q''
        have T0 := T.wq e2 e3
        have e8 := e7 st hst
        refine ⟨h1, ?_, q'.trans q'', T0.1.iq e5 rfl rfl rfl, Or.inr ⟨e6, e7⟩, T0.2.2.1.iq e5 rfl (fun _ => rfl), T0.2.2.2.1.iq e5 rfl (fun _ => rfl), cl_iq T0.2.2.2.2 e5 rfl (fun _ => rfl) (fun _ => rfl)⟩
        simp (disch := omega) only [C.k32, ↓reduceIte, ↓Option.bind_some, if_true, if_false, true_and, and_true, and_self, true_or, or_true, false_or, or_false, not_true_eq_false, not_false_eq_true, Option.bind_some, somene, false_and, and_false, reduceCtorEq, Nat.reduceEqDiff, q0, l0, e1, C1.k32, C1.r32_4, C1.k44, C1.n44, q_in, q_cl, e8]
      · have e8 := q2 st hst
        refine ⟨h, ?_, Cq.refl h, T⟩
        simp (disch := omega) only [C.k20, C.k21, C.k22, C.k23, C.k24, C.k25, C.k26, C.k27, C.k28, C.k29, C.k30, C.k31, C.k32, C.k43, C.k44, C.k45, C.k46, C.k47, C.k48, C.k49, C.k50, C.k51, C.n21, C.n22, C.n24, C.n25, C.n26, C.n27, C.n29, C.n30, C.n31, C.n43, C.n44, C.n45, C.n46, C.n47, C.n48, C.n51, C.r20_0, C.r20_2, C.r20_4, C.r20_5, C.r20_6, C.r20_7, C.r20_8, C.r23_5, C.r23_6, C.r23_7, C.r28_0, C.r28_1, C.r28_2, C.r32_3, C.r32_4, C.r32_5, C.r32_6, C.r32_7, C.r32_8, C.r49_0, C.r50_0, ↓bnd C.r20_0, ↓bnd C.r20_2, ↓bnd C.r20_4, ↓bnd C.r20_5, ↓bnd C.r20_6, ↓bnd C.r20_7, ↓bnd C.r20_8, ↓bnd C.r23_5, ↓bnd C.r23_6, ↓bnd C.r23_7, ↓bnd C.r28_0, ↓bnd C.r28_1, ↓bnd C.r28_2, ↓bnd C.r32_3, ↓bnd C.r32_4, ↓bnd C.r32_5, ↓bnd C.r32_6, ↓bnd C.r32_7, ↓bnd C.r32_8, ↓bnd C.r49_0, ↓bnd C.r50_0, ↓reduceIte, ↓Option.bind_some, if_true, if_false, true_and, and_true, and_self, true_or, or_true, false_or, or_false, not_true_eq_false, not_false_eq_true, Option.bind_some, somene, false_and, and_false, reduceCtorEq, Nat.reduceEqDiff, q1, l0, q_eq_f, q_in, q_cl, e8]
    obtain ⟨h1, e1, q', t⟩ := key
    obtain ⟨I1, X1⟩ := Q.m q'
    obtain ⟨M1, S1, s81⟩ := id I1
    obtain ⟨h2, e2, Q2, X2, e3, -⟩ := M_fillsNow_ok 40 M1 w S1 X1
    have I2 : MI D st h2 := ⟨M1.mq Q2, by rw [Q2.Iw (by decide) (by decide)]; exact S1, by rw [Q2.Iw (by decide) (by decide)]; exact s81⟩
    obtain ⟨h3, e4, Q3⟩ := M_lasts_all (d := 40) w I2 e3 hst
    have Q3' := Q3.mq P68_M
    refine ⟨h1, h3, nI (lnT D st), ?_, q', t, ?_, Q2.trans Q3', ?_⟩
    · show c_SR_lasts 40 (some 20) h = _
      rw [e_SR_lasts]
      simp only [C.k20, C.k21, C.k22, C.k23, C.k24, C.k25, C.k26, C.k27, C.k28, C.k29, C.k30, C.k31, C.k32, C.k43, C.k44, C.k45, C.k46, C.k47, C.k48, C.k49, C.k50, C.k51, C.n21, C.n22, C.n24, C.n25, C.n26, C.n27, C.n29, C.n30, C.n31, C.n43, C.n44, C.n45, C.n46, C.n47, C.n48, C.n51, C.r20_0, C.r20_2, C.r20_4, C.r20_5, C.r20_6, C.r20_7, C.r20_8, C.r23_5, C.r23_6, C.r23_7, C.r28_0, C.r28_1, C.r28_2, C.r32_3, C.r32_4, C.r32_5, C.r32_6, C.r32_7, C.r32_8, C.r49_0, C.r50_0, ↓bnd C.r20_0, ↓bnd C.r20_2, ↓bnd C.r20_4, ↓bnd C.r20_5, ↓bnd C.r20_6, ↓bnd C.r20_7, ↓bnd C.r20_8, ↓bnd C.r23_5, ↓bnd C.r23_6, ↓bnd C.r23_7, ↓bnd C.r28_0, ↓bnd C.r28_1, ↓bnd C.r28_2, ↓bnd C.r32_3, ↓bnd C.r32_4, ↓bnd C.r32_5, ↓bnd C.r32_6, ↓bnd C.r32_7, ↓bnd C.r32_8, ↓bnd C.r49_0, ↓bnd C.r50_0, ↓reduceIte, ↓Option.bind_some, if_true, if_false, true_and, and_true, and_self, true_or, or_true, false_or, or_false, not_true_eq_false, not_false_eq_true, Option.bind_some, somene, false_and, and_false, reduceCtorEq, Nat.reduceEqDiff, r, i, e1]
    · show c_M_lasts 40 (some 52) h1 = _
      rw [e_M_lasts]
      have e10 : (nI 1 = nI 0) = False := eq_false (by decide)
      simp (disch := omega) only [M1.K52, ↓reduceIte, ↓Option.bind_some, if_true, if_false, true_and, and_true, and_self, true_or, or_true, false_or, or_false, not_true_eq_false, not_false_eq_true, Option.bind_some, somene, false_and, and_false, reduceCtorEq, Nat.reduceEqDiff, M_isAlley_1 M1 S1.2.1, l0, e10, e2, e4]
    · unfold MWon
      rw [Q3.I (by decide)]
      rcases X2 with q | ⟨H, E, L, x1, x2, x3⟩
      · exact Or.inl q
      · exact Or.inr ⟨H, E, L, x1, x2, fun m hm => by rw [Q3.I rfl]; exact x3 m hm⟩
theorem MWon.iq {A : AD} (X : MWon A h) (Q : Iq P68 h h1) : MWon A h1 := by
  unfold MWon
  rw [Q.I (by decide)]
  rcases X with q | ⟨H, E, L, x1, x2, x3⟩
  · exact Or.inl q
  · exact Or.inr ⟨H, E, L, x1, x2, fun m hm => by rw [Q.I rfl]; exact x3 m hm⟩
theorem q_plays : sk_Ag (JJ L xs) L xs 52 (fun h => c_SR_plays 40 (some 20) h) (fun h => c_M_plays 40 (some 52) h) := by
  refine Ag_of (fun j h F E J r s => ?_) (fun j h F E st tu pl a D c hj J hE Q => ?_)
  · have C := J.2.1
    have M := J.2.2.1
    refine ⟨nM, ?_, ?_⟩
    · show c_SR_plays 40 (some 20) h = _
      rw [e_SR_plays]
      simp only [C.k20, C.k21, C.k22, C.k23, C.k24, C.k25, C.k26, C.k27, C.k28, C.k29, C.k30, C.k31, C.k32, C.k43, C.k44, C.k45, C.k46, C.k47, C.k48, C.k49, C.k50, C.k51, C.n21, C.n22, C.n24, C.n25, C.n26, C.n27, C.n29, C.n30, C.n31, C.n43, C.n44, C.n45, C.n46, C.n47, C.n48, C.n51, C.r20_0, C.r20_2, C.r20_4, C.r20_5, C.r20_6, C.r20_7, C.r20_8, C.r23_5, C.r23_6, C.r23_7, C.r28_0, C.r28_1, C.r28_2, C.r32_3, C.r32_4, C.r32_5, C.r32_6, C.r32_7, C.r32_8, C.r49_0, C.r50_0, ↓bnd C.r20_0, ↓bnd C.r20_2, ↓bnd C.r20_4, ↓bnd C.r20_5, ↓bnd C.r20_6, ↓bnd C.r20_7, ↓bnd C.r20_8, ↓bnd C.r23_5, ↓bnd C.r23_6, ↓bnd C.r23_7, ↓bnd C.r28_0, ↓bnd C.r28_1, ↓bnd C.r28_2, ↓bnd C.r32_3, ↓bnd C.r32_4, ↓bnd C.r32_5, ↓bnd C.r32_6, ↓bnd C.r32_7, ↓bnd C.r32_8, ↓bnd C.r49_0, ↓bnd C.r50_0, ↓reduceIte, ↓Option.bind_some, if_true, if_false, true_and, and_true, and_self, true_or, or_true, false_or, or_false, not_true_eq_false, not_false_eq_true, Option.bind_some, somene, false_and, and_false, reduceCtorEq, Nat.reduceEqDiff, r, lm1, l1]
    · show c_M_plays 40 (some 52) h = _
      rw [e_M_plays]
      simp only [M.K52, ↓reduceIte, ↓Option.bind_some, if_true, if_false, true_and, and_true, and_self, true_or, or_true, false_or, or_false, not_true_eq_false, not_false_eq_true, Option.bind_some, somene, false_and, and_false, reduceCtorEq, Nat.reduceEqDiff, M_isAlley_0 M (s 0 (by omega)), lm1, l1, l0]
  · obtain ⟨C, M, hF, w, O, r, i, hst, T, S, s8, X⟩ := id Q
    have hp := pow12 w.1.1
    have key : ∃ h1, c_Ta_playsAt 40 (some 32) (nI st) h = some (h1, plT D st) ∧ Cq h h1 ∧ TD h1 D a := by
      rw [e_Ta_playsAt]
      rcases id T.2.2.1 with q0 | ⟨q1, q2⟩
      · obtain ⟨h1, e1, e5, e6, e7⟩ := Ta_pl_all (d := 40) hF w Q.ci
        have q'' := e5.cq P45_C
        have C1 := C.cq q''
        have e8 := e7 st hst
        refine ⟨h1, ?_, q'', T.1.iq e5 rfl rfl rfl, T.2.1.iq e5 rfl (fun _ => rfl), Or.inr ⟨e6, e7⟩, T.2.2.2.1.iq e5 rfl (fun _ => rfl), cl_iq T.2.2.2.2 e5 rfl (fun _ => rfl) (fun _ => rfl)⟩
        simp (disch := omega) only [C.k32, ↓reduceIte, ↓Option.bind_some, if_true, if_false, true_and, and_true, and_self, true_or, or_true, false_or, or_false, not_true_eq_false, not_false_eq_true, Option.bind_some, somene, false_and, and_false, reduceCtorEq, Nat.reduceEqDiff, q0, l0, e1, C1.k32, C1.r32_5, C1.k45, C1.n45, q_in, q_cl, e8]
      · have e8 := q2 st hst
        refine ⟨h, ?_, Cq.refl h, T⟩
        simp (disch := omega) only [C.k20, C.k21, C.k22, C.k23, C.k24, C.k25, C.k26, C.k27, C.k28, C.k29, C.k30, C.k31, C.k32, C.k43, C.k44, C.k45, C.k46, C.k47, C.k48, C.k49, C.k50, C.k51, C.n21, C.n22, C.n24, C.n25, C.n26, C.n27, C.n29, C.n30, C.n31, C.n43, C.n44, C.n45, C.n46, C.n47, C.n48, C.n51, C.r20_0, C.r20_2, C.r20_4, C.r20_5, C.r20_6, C.r20_7, C.r20_8, C.r23_5, C.r23_6, C.r23_7, C.r28_0, C.r28_1, C.r28_2, C.r32_3, C.r32_4, C.r32_5, C.r32_6, C.r32_7, C.r32_8, C.r49_0, C.r50_0, ↓bnd C.r20_0, ↓bnd C.r20_2, ↓bnd C.r20_4, ↓bnd C.r20_5, ↓bnd C.r20_6, ↓bnd C.r20_7, ↓bnd C.r20_8, ↓bnd C.r23_5, ↓bnd C.r23_6, ↓bnd C.r23_7, ↓bnd C.r28_0, ↓bnd C.r28_1, ↓bnd C.r28_2, ↓bnd C.r32_3, ↓bnd C.r32_4, ↓bnd C.r32_5, ↓bnd C.r32_6, ↓bnd C.r32_7, ↓bnd C.r32_8, ↓bnd C.r49_0, ↓bnd C.r50_0, ↓reduceIte, ↓Option.bind_some, if_true, if_false, true_and, and_true, and_self, true_or, or_true, false_or, or_false, not_true_eq_false, not_false_eq_true, Option.bind_some, somene, false_and, and_false, reduceCtorEq, Nat.reduceEqDiff, q1, l0, q_eq_f, q_in, q_cl, e8]
    obtain ⟨h1, e1, q', t⟩ := key
    obtain ⟨I1, X1⟩ := Q.m q'
    obtain ⟨M1, S1, s81⟩ := id I1
    obtain ⟨h3, e4, Q3⟩ := M_plays_all (d := 40) w I1 hst
    refine ⟨h1, h3, plT D st, ?_, q', t, ?_, Q3.mq P68_M, X1.iq Q3⟩
    · show c_SR_plays 40 (some 20) h = _
      rw [e_SR_plays]
      simp only [C.k20, C.k21, C.k22, C.k23, C.k24, C.k25, C.k26, C.k27, C.k28, C.k29, C.k30, C.k31, C.k32, C.k43, C.k44, C.k45, C.k46, C.k47, C.k48, C.k49, C.k50, C.k51, C.n21, C.n22, C.n24, C.n25, C.n26, C.n27, C.n29, C.n30, C.n31, C.n43, C.n44, C.n45, C.n46, C.n47, C.n48, C.n51, C.r20_0, C.r20_2, C.r20_4, C.r20_5, C.r20_6, C.r20_7, C.r20_8, C.r23_5, C.r23_6, C.r23_7, C.r28_0, C.r28_1, C.r28_2, C.r32_3, C.r32_4, C.r32_5, C.r32_6, C.r32_7, C.r32_8, C.r49_0, C.r50_0, ↓bnd C.r20_0, ↓bnd C.r20_2, ↓bnd C.r20_4, ↓bnd C.r20_5, ↓bnd C.r20_6, ↓bnd C.r20_7, ↓bnd C.r20_8, ↓bnd C.r23_5, ↓bnd C.r23_6, ↓bnd C.r23_7, ↓bnd C.r28_0, ↓bnd C.r28_1, ↓bnd C.r28_2, ↓bnd C.r32_3, ↓bnd C.r32_4, ↓bnd C.r32_5, ↓bnd C.r32_6, ↓bnd C.r32_7, ↓bnd C.r32_8, ↓bnd C.r49_0, ↓bnd C.r50_0, ↓reduceIte, ↓Option.bind_some, if_true, if_false, true_and, and_true, and_self, true_or, or_true, false_or, or_false, not_true_eq_false, not_false_eq_true, Option.bind_some, somene, false_and, and_false, reduceCtorEq, Nat.reduceEqDiff, r, i, e1]
    · show c_M_plays 40 (some 52) h1 = _
      rw [e_M_plays]
      have e10 : (nI 1 = nI 0) = False := eq_false (by decide)
      simp (disch := omega) only [M1.K52, ↓reduceIte, ↓Option.bind_some, if_true, if_false, true_and, and_true, and_self, true_or, or_true, false_or, or_false, not_true_eq_false, not_false_eq_true, Option.bind_some, somene, false_and, and_false, reduceCtorEq, Nat.reduceEqDiff, M_isAlley_1 M1 S1.2.1, l0, e10, e4]
theorem q_chance : sk_Ag (JJ L xs) L xs 52 (fun h => c_SR_chance 40 (some 20) h) (fun h => c_M_chance 40 (some 52) h) := by
  refine Ag_of (fun j h F E J r s => ?_) (fun j h F E st tu pl a D c hj J hE Q => ?_)
  · have C := J.2.1
    have M := J.2.2.1
    refine ⟨nM, ?_, ?_⟩
    · show c_SR_chance 40 (some 20) h = _
      rw [e_SR_chance]
      simp only [C.k20, C.k21, C.k22, C.k23, C.k24, C.k25, C.k26, C.k27, C.k28, C.k29, C.k30, C.k31, C.k32, C.k43, C.k44, C.k45, C.k46, C.k47, C.k48, C.k49, C.k50, C.k51, C.n21, C.n22, C.n24, C.n25, C.n26, C.n27, C.n29, C.n30, C.n31, C.n43, C.n44, C.n45, C.n46, C.n47, C.n48, C.n51, C.r20_0, C.r20_2, C.r20_4, C.r20_5, C.r20_6, C.r20_7, C.r20_8, C.r23_5, C.r23_6, C.r23_7, C.r28_0, C.r28_1, C.r28_2, C.r32_3, C.r32_4, C.r32_5, C.r32_6, C.r32_7, C.r32_8, C.r49_0, C.r50_0, ↓bnd C.r20_0, ↓bnd C.r20_2, ↓bnd C.r20_4, ↓bnd C.r20_5, ↓bnd C.r20_6, ↓bnd C.r20_7, ↓bnd C.r20_8, ↓bnd C.r23_5, ↓bnd C.r23_6, ↓bnd C.r23_7, ↓bnd C.r28_0, ↓bnd C.r28_1, ↓bnd C.r28_2, ↓bnd C.r32_3, ↓bnd C.r32_4, ↓bnd C.r32_5, ↓bnd C.r32_6, ↓bnd C.r32_7, ↓bnd C.r32_8, ↓bnd C.r49_0, ↓bnd C.r50_0, ↓reduceIte, ↓Option.bind_some, if_true, if_false, true_and, and_true, and_self, true_or, or_true, false_or, or_false, not_true_eq_false, not_false_eq_true, Option.bind_some, somene, false_and, and_false, reduceCtorEq, Nat.reduceEqDiff, r, lm1, l1]
    · show c_M_chance 40 (some 52) h = _
      rw [e_M_chance]
      simp only [M.K52, ↓reduceIte, ↓Option.bind_some, if_true, if_false, true_and, and_true, and_self, true_or, or_true, false_or, or_false, not_true_eq_false, not_false_eq_true, Option.bind_some, somene, false_and, and_false, reduceCtorEq, Nat.reduceEqDiff, M_isAlley_0 M (s 0 (by omega)), lm1, l1, l0]
  · obtain ⟨C, M, hF, w, O, r, i, hst, T, S, s8, X⟩ := id Q
    have hp := pow12 w.1.1
    have key : ∃ h1, c_Ta_chanceAt 40 (some 32) (nI st) h = some (h1, chT D st) ∧ Cq h h1 ∧ TD h1 D a := by
      rw [e_Ta_chanceAt]
      rcases id T.2.2.2.1 with q0 | ⟨q1, q2⟩
      · obtain ⟨h1, e1, e5, e6, e7⟩ := Ta_ch_all (d := 40) hF w Q.ci
        have q'' := e5.cq P46_C
        have C1 := C.cq q''
        have e8 := e7 st hst
        refine ⟨h1, ?_, q'', T.1.iq e5 rfl rfl rfl, T.2.1.iq e5 rfl (fun _ => rfl), T.2.2.1.iq e5 rfl (fun _ => rfl), Or.inr ⟨e6, e7⟩, cl_iq T.2.2.2.2 e5 rfl (fun _ => rfl) (fun _ => rfl)⟩
        simp (disch := omega) only [C.k32, ↓reduceIte, ↓Option.bind_some, if_true, if_false, true_and, and_true, and_self, true_or, or_true, false_or, or_false, not_true_eq_false, not_false_eq_true, Option.bind_some, somene, false_and, and_false, reduceCtorEq, Nat.reduceEqDiff, q0, l0, e1, C1.k32, C1.r32_6, C1.k46, C1.n46, q_in, q_cl, e8]
      · have e8 := q2 st hst
        refine ⟨h, ?_, Cq.refl h, T⟩
        simp (disch := omega) only [C.k20, C.k21, C.k22, C.k23, C.k24, C.k25, C.k26, C.k27, C.k28, C.k29, C.k30, C.k31, C.k32, C.k43, C.k44, C.k45, C.k46, C.k47, C.k48, C.k49, C.k50, C.k51, C.n21, C.n22, C.n24, C.n25, C.n26, C.n27, C.n29, C.n30, C.n31, C.n43, C.n44, C.n45, C.n46, C.n47, C.n48, C.n51, C.r20_0, C.r20_2, C.r20_4, C.r20_5, C.r20_6, C.r20_7, C.r20_8, C.r23_5, C.r23_6, C.r23_7, C.r28_0, C.r28_1, C.r28_2, C.r32_3, C.r32_4, C.r32_5, C.r32_6, C.r32_7, C.r32_8, C.r49_0, C.r50_0, ↓bnd C.r20_0, ↓bnd C.r20_2, ↓bnd C.r20_4, ↓bnd C.r20_5, ↓bnd C.r20_6, ↓bnd C.r20_7, ↓bnd C.r20_8, ↓bnd C.r23_5, ↓bnd C.r23_6, ↓bnd C.r23_7, ↓bnd C.r28_0, ↓bnd C.r28_1, ↓bnd C.r28_2, ↓bnd C.r32_3, ↓bnd C.r32_4, ↓bnd C.r32_5, ↓bnd C.r32_6, ↓bnd C.r32_7, ↓bnd C.r32_8, ↓bnd C.r49_0, ↓bnd C.r50_0, ↓reduceIte, ↓Option.bind_some, if_true, if_false, true_and, and_true, and_self, true_or, or_true, false_or, or_false, not_true_eq_false, not_false_eq_true, Option.bind_some, somene, false_and, and_false, reduceCtorEq, Nat.reduceEqDiff, q1, l0, q_eq_f, q_in, q_cl, e8]
    obtain ⟨h1, e1, q', t⟩ := key
    obtain ⟨I1, X1⟩ := Q.m q'
    obtain ⟨M1, S1, s81⟩ := id I1
    obtain ⟨h3, e4, Q3⟩ := M_chance_all (d := 40) w I1 hst
    refine ⟨h1, h3, chT D st, ?_, q', t, ?_, Q3.mq P68_M, X1.iq Q3⟩
    · show c_SR_chance 40 (some 20) h = _
      rw [e_SR_chance]
      simp only [C.k20, C.k21, C.k22, C.k23, C.k24, C.k25, C.k26, C.k27, C.k28, C.k29, C.k30, C.k31, C.k32, C.k43, C.k44, C.k45, C.k46, C.k47, C.k48, C.k49, C.k50, C.k51, C.n21, C.n22, C.n24, C.n25, C.n26, C.n27, C.n29, C.n30, C.n31, C.n43, C.n44, C.n45, C.n46, C.n47, C.n48, C.n51, C.r20_0, C.r20_2, C.r20_4, C.r20_5, C.r20_6, C.r20_7, C.r20_8, C.r23_5, C.r23_6, C.r23_7, C.r28_0, C.r28_1, C.r28_2, C.r32_3, C.r32_4, C.r32_5, C.r32_6, C.r32_7, C.r32_8, C.r49_0, C.r50_0, ↓bnd C.r20_0, ↓bnd C.r20_2, ↓bnd C.r20_4, ↓bnd C.r20_5, ↓bnd C.r20_6, ↓bnd C.r20_7, ↓bnd C.r20_8, ↓bnd C.r23_5, ↓bnd C.r23_6, ↓bnd C.r23_7, ↓bnd C.r28_0, ↓bnd C.r28_1, ↓bnd C.r28_2, ↓bnd C.r32_3, ↓bnd C.r32_4, ↓bnd C.r32_5, ↓bnd C.r32_6, ↓bnd C.r32_7, ↓bnd C.r32_8, ↓bnd C.r49_0, ↓bnd C.r50_0, ↓reduceIte, ↓Option.bind_some, if_true, if_false, true_and, and_true, and_self, true_or, or_true, false_or, or_false, not_true_eq_false, not_false_eq_true, Option.bind_some, somene, false_and, and_false, reduceCtorEq, Nat.reduceEqDiff, r, i, e1]
    · show c_M_chance 40 (some 52) h1 = _
      rw [e_M_chance]
      have e10 : (nI 1 = nI 0) = False := eq_false (by decide)
      simp (disch := omega) only [M1.K52, ↓reduceIte, ↓Option.bind_some, if_true, if_false, true_and, and_true, and_self, true_or, or_true, false_or, or_false, not_true_eq_false, not_false_eq_true, Option.bind_some, somene, false_and, and_false, reduceCtorEq, Nat.reduceEqDiff, M_isAlley_1 M1 S1.2.1, l0, e10, e4]
theorem q_child : sk_Ag (JJ L xs) L xs 52 (fun h => c_SR_child 40 (some 20) h) (fun h => c_M_child 40 (some 52) h) := by
  refine Ag_of (fun j h F E J r s => ?_) (fun j h F E st tu pl a D c hj J hE Q => ?_)
  · have C := J.2.1
    have M := J.2.2.1
    refine ⟨nM, ?_, ?_⟩
    · show c_SR_child 40 (some 20) h = _
      rw [e_SR_child]
      simp only [C.k20, C.k21, C.k22, C.k23, C.k24, C.k25, C.k26, C.k27, C.k28, C.k29, C.k30, C.k31, C.k32, C.k43, C.k44, C.k45, C.k46, C.k47, C.k48, C.k49, C.k50, C.k51, C.n21, C.n22, C.n24, C.n25, C.n26, C.n27, C.n29, C.n30, C.n31, C.n43, C.n44, C.n45, C.n46, C.n47, C.n48, C.n51, C.r20_0, C.r20_2, C.r20_4, C.r20_5, C.r20_6, C.r20_7, C.r20_8, C.r23_5, C.r23_6, C.r23_7, C.r28_0, C.r28_1, C.r28_2, C.r32_3, C.r32_4, C.r32_5, C.r32_6, C.r32_7, C.r32_8, C.r49_0, C.r50_0, ↓bnd C.r20_0, ↓bnd C.r20_2, ↓bnd C.r20_4, ↓bnd C.r20_5, ↓bnd C.r20_6, ↓bnd C.r20_7, ↓bnd C.r20_8, ↓bnd C.r23_5, ↓bnd C.r23_6, ↓bnd C.r23_7, ↓bnd C.r28_0, ↓bnd C.r28_1, ↓bnd C.r28_2, ↓bnd C.r32_3, ↓bnd C.r32_4, ↓bnd C.r32_5, ↓bnd C.r32_6, ↓bnd C.r32_7, ↓bnd C.r32_8, ↓bnd C.r49_0, ↓bnd C.r50_0, ↓reduceIte, ↓Option.bind_some, if_true, if_false, true_and, and_true, and_self, true_or, or_true, false_or, or_false, not_true_eq_false, not_false_eq_true, Option.bind_some, somene, false_and, and_false, reduceCtorEq, Nat.reduceEqDiff, r, lm1, l1]
    · show c_M_child 40 (some 52) h = _
      rw [e_M_child]
      simp only [M.K52, ↓reduceIte, ↓Option.bind_some, if_true, if_false, true_and, and_true, and_self, true_or, or_true, false_or, or_false, not_true_eq_false, not_false_eq_true, Option.bind_some, somene, false_and, and_false, reduceCtorEq, Nat.reduceEqDiff, M_isAlley_0 M (s 0 (by omega)), lm1, l1, l0]
  · obtain ⟨C, M, hF, w, O, r, i, hst, T, S, s8, X⟩ := id Q
    have hp := pow12 w.1.1
    have key : ∃ h1, c_Ta_childAt 40 (some 32) (nI st) h = some (h1, nI (clT D st).1) ∧ Cq h h1 ∧ TD h1 D a := by
      rw [e_Ta_childAt]
      rcases id T.2.2.2.2 with q0 | ⟨q1, q2⟩
      · obtain ⟨h1, e1, e5, e6, e7⟩ := Ta_cl_all (d := 40) hF w Q.ci
        have q'' := e5.cq P47_C
        have C1 := C.cq q''
        have e8 := e7.1 st hst
        refine ⟨h1, ?_, q'', T.1.iq e5 rfl rfl rfl, T.2.1.iq e5 rfl (fun _ => rfl), T.2.2.1.iq e5 rfl (fun _ => rfl), T.2.2.2.1.iq e5 rfl (fun _ => rfl), Or.inr ⟨e6, e7⟩⟩
        simp (disch := omega) only [C.k32, ↓reduceIte, ↓Option.bind_some, if_true, if_false, true_and, and_true, and_self, true_or, or_true, false_or, or_false, not_true_eq_false, not_false_eq_true, Option.bind_some, somene, false_and, and_false, reduceCtorEq, Nat.reduceEqDiff, q0, l0, e1, C1.k32, C1.r32_7, C1.k47, C1.n47, q_in, q_cl, e8]
      · have e8 := q2.1 st hst
        refine ⟨h, ?_, Cq.refl h, T⟩
        simp (disch := omega) only [C.k20, C.k21, C.k22, C.k23, C.k24, C.k25, C.k26, C.k27, C.k28, C.k29, C.k30, C.k31, C.k32, C.k43, C.k44, C.k45, C.k46, C.k47, C.k48, C.k49, C.k50, C.k51, C.n21, C.n22, C.n24, C.n25, C.n26, C.n27, C.n29, C.n30, C.n31, C.n43, C.n44, C.n45, C.n46, C.n47, C.n48, C.n51, C.r20_0, C.r20_2, C.r20_4, C.r20_5, C.r20_6, C.r20_7, C.r20_8, C.r23_5, C.r23_6, C.r23_7, C.r28_0, C.r28_1, C.r28_2, C.r32_3, C.r32_4, C.r32_5, C.r32_6, C.r32_7, C.r32_8, C.r49_0, C.r50_0, ↓bnd C.r20_0, ↓bnd C.r20_2, ↓bnd C.r20_4, ↓bnd C.r20_5, ↓bnd C.r20_6, ↓bnd C.r20_7, ↓bnd C.r20_8, ↓bnd C.r23_5, ↓bnd C.r23_6, ↓bnd C.r23_7, ↓bnd C.r28_0, ↓bnd C.r28_1, ↓bnd C.r28_2, ↓bnd C.r32_3, ↓bnd C.r32_4, ↓bnd C.r32_5, ↓bnd C.r32_6, ↓bnd C.r32_7, ↓bnd C.r32_8, ↓bnd C.r49_0, ↓bnd C.r50_0, ↓reduceIte, ↓Option.bind_some, if_true, if_false, true_and, and_true, and_self, true_or, or_true, false_or, or_false, not_true_eq_false, not_false_eq_true, Option.bind_some, somene, false_and, and_false, reduceCtorEq, Nat.reduceEqDiff, q1, l0, q_eq_f, q_in, q_cl, e8]
    obtain ⟨h1, e1, q', t⟩ := key
    obtain ⟨I1, X1⟩ := Q.m q'
    obtain ⟨M1, S1, s81⟩ := id I1
    obtain ⟨h3, e4, Q3⟩ := M_child_all (d := 40) w I1 hst
    refine ⟨h1, h3, nI (clT D st).1, ?_, q', t, ?_, Q3.mq P68_M, X1.iq Q3⟩
    · show c_SR_child 40 (some 20) h = _
      rw [e_SR_child]
      simp only [C.k20, C.k21, C.k22, C.k23, C.k24, C.k25, C.k26, C.k27, C.k28, C.k29, C.k30, C.k31, C.k32, C.k43, C.k44, C.k45, C.k46, C.k47, C.k48, C.k49, C.k50, C.k51, C.n21, C.n22, C.n24, C.n25, C.n26, C.n27, C.n29, C.n30, C.n31, C.n43, C.n44, C.n45, C.n46, C.n47, C.n48, C.n51, C.r20_0, C.r20_2, C.r20_4, C.r20_5, C.r20_6, C.r20_7, C.r20_8, C.r23_5, C.r23_6, C.r23_7, C.r28_0, C.r28_1, C.r28_2, C.r32_3, C.r32_4, C.r32_5, C.r32_6, C.r32_7, C.r32_8, C.r49_0, C.r50_0, ↓bnd C.r20_0, ↓bnd C.r20_2, ↓bnd C.r20_4, ↓bnd C.r20_5, ↓bnd C.r20_6, ↓bnd C.r20_7, ↓bnd C.r20_8, ↓bnd C.r23_5, ↓bnd C.r23_6, ↓bnd C.r23_7, ↓bnd C.r28_0, ↓bnd C.r28_1, ↓bnd C.r28_2, ↓bnd C.r32_3, ↓bnd C.r32_4, ↓bnd C.r32_5, ↓bnd C.r32_6, ↓bnd C.r32_7, ↓bnd C.r32_8, ↓bnd C.r49_0, ↓bnd C.r50_0, ↓reduceIte, ↓Option.bind_some, if_true, if_false, true_and, and_true, and_self, true_or, or_true, false_or, or_false, not_true_eq_false, not_false_eq_true, Option.bind_some, somene, false_and, and_false, reduceCtorEq, Nat.reduceEqDiff, r, i, e1]
    · show c_M_child 40 (some 52) h1 = _
      rw [e_M_child]
      have e10 : (nI 1 = nI 0) = False := eq_false (by decide)
      simp (disch := omega) only [M1.K52, ↓reduceIte, ↓Option.bind_some, if_true, if_false, true_and, and_true, and_self, true_or, or_true, false_or, or_false, not_true_eq_false, not_false_eq_true, Option.bind_some, somene, false_and, and_false, reduceCtorEq, Nat.reduceEqDiff, M_isAlley_1 M1 S1.2.1, l0, e10, e4]
end SkQ
