/-! ===== the reference against a child; how long it lasts ===== -/
section SkChildM
variable {F : Nat → Prop} {h : sk_H} {a m st : Nat} {D : DD} {c : Nat → Nat} {d : Nat}
theorem M_bestAt_ok (w : dW D) (I : MI D st h) (hm : m < 2 ^ aN (dA D)) (T : TB 69 (fun j => nI (clT D j).2) m h) : c_M_bestAt d (some 52) (nI m) h = some (h, nI (clT D m).1) := by
  obtain ⟨M, S, _⟩ := I
  have hm4 := p12 w.1 hm
  have hp := pow12 w.1.1
  have w1 := w.1.1
  obtain ⟨⟨s1, -⟩, s0, s3, s4, s5, s6⟩ := id S
  have key := dfoldI (n := aN (dA D)) (f := fun p k => cB (dA D) m p k (dH D) (dE D)) (g := fun o x => omx o (clT D (aT (dA D) m x)).2) (fun o => ∀ b, o = some b → b ≤ 10000) (fun p (r : Option Nat) => k_M_bestAt_4 d (some 52) (nI m) (oI r) (nI p) h) (fun p k r => k_M_bestAt_17 d (some 52) (nI m) (oI r) (nI p) (nI k) h) (fun r => some (h, nI (r.getD (ovN D)))) ?_ ?_ ?_ ?_ ?_ none (fun b hb => by cases hb)
  · rw [e_M_bestAt, l1, l0, lm1]
    refine key.trans ?_
    rw [clT_eq D hm4]
    rfl
  · intro p k o _ _ _ _ ho
    exact omx_le ho (clT_le D (aT (dA D) m (p, k)) (Nat.lt_of_le_of_lt (an_le _ _) hm4)).2
  · intro q hq
    show k_M_bestAt_4 d (some 52) (nI m) (oI q) _ h = _
    rw [e_M_bestAt_4]
    cases q with
    | none =>
      have e1 : (oI none < nI 0) = True := q_mlt0
      unfold ovN
      simp (disch := omega) only [M.K52, M.R0, M.R3, M.R4, M.R5, M.R6, M.R7, M.R15, M.R17, M.R19, M.R20, M.R22, M.R24, M.R26, M.R27, M.R28, M.R29, M.R30, M.R37, M.R38, M.R39, ↓bnd M.R0, ↓bnd M.R3, ↓bnd M.R4, ↓bnd M.R5, ↓bnd M.R6, ↓bnd M.R7, ↓bnd M.R15, ↓bnd M.R17, ↓bnd M.R19, ↓bnd M.R20, ↓bnd M.R22, ↓bnd M.R24, ↓bnd M.R26, ↓bnd M.R27, ↓bnd M.R28, ↓bnd M.R29, ↓bnd M.R30, ↓bnd M.R37, ↓bnd M.R38, ↓bnd M.R39, M.K53, M.K54, M.K55, M.K56, M.K57, M.K58, M.K59, M.K60, M.K61, M.K62, M.K63, M.K64, M.K65, M.K66, M.K67, M.K68, M.K69, M.K70, M.K71, M.K72, M.N53, M.N54, M.N55, M.N56, M.N57, M.N58, M.N59, M.N60, M.N61, M.N62, M.N63, M.N64, M.N65, M.N66, M.N67, M.N68, M.N69, M.N70, M.N71, M.N72, ↓reduceIte, ↓Option.bind_some, if_true, if_false, true_and, and_true, and_self, true_or, or_true, false_or, or_false, not_true_eq_false, not_false_eq_true, Option.bind_some, somene, false_and, and_false, reduceCtorEq, Nat.reduceEqDiff, q_le_t, l0, l1, l5, l10000, q_in, q_cl, s1, s5, e1, q_bi1, Option.getD_none]
      cases dL D
      · simp only [↓reduceIte, ↓Option.bind_some, if_true, if_false, true_and, and_true, and_self, true_or, or_true, false_or, or_false, not_true_eq_false, not_false_eq_true, Option.bind_some, somene, false_and, and_false, reduceCtorEq, Nat.reduceEqDiff, Bool.false_eq_true]
      · simp only [↓reduceIte, ↓Option.bind_some, if_true, if_false, true_and, and_true, and_self, true_or, or_true, false_or, or_false, not_true_eq_false, not_false_eq_true, Option.bind_some, somene, false_and, and_false, reduceCtorEq, Nat.reduceEqDiff]
    | some b =>
      have hb := hq b rfl
      have e1 : oI (some b) = nI b := rfl
      simp (disch := omega) only [M.K52, M.R0, M.R3, M.R4, M.R5, M.R6, M.R7, M.R15, M.R17, M.R19, M.R20, M.R22, M.R24, M.R26, M.R27, M.R28, M.R29, M.R30, M.R37, M.R38, M.R39, ↓bnd M.R0, ↓bnd M.R3, ↓bnd M.R4, ↓bnd M.R5, ↓bnd M.R6, ↓bnd M.R7, ↓bnd M.R15, ↓bnd M.R17, ↓bnd M.R19, ↓bnd M.R20, ↓bnd M.R22, ↓bnd M.R24, ↓bnd M.R26, ↓bnd M.R27, ↓bnd M.R28, ↓bnd M.R29, ↓bnd M.R30, ↓bnd M.R37, ↓bnd M.R38, ↓bnd M.R39, M.K53, M.K54, M.K55, M.K56, M.K57, M.K58, M.K59, M.K60, M.K61, M.K62, M.K63, M.K64, M.K65, M.K66, M.K67, M.K68, M.K69, M.K70, M.K71, M.K72, M.N53, M.N54, M.N55, M.N56, M.N57, M.N58, M.N59, M.N60, M.N61, M.N62, M.N63, M.N64, M.N65, M.N66, M.N67, M.N68, M.N69, M.N70, M.N71, M.N72, ↓reduceIte, ↓Option.bind_some, if_true, if_false, true_and, and_true, and_self, true_or, or_true, false_or, or_false, not_true_eq_false, not_false_eq_true, Option.bind_some, somene, false_and, and_false, reduceCtorEq, Nat.reduceEqDiff, q_le_t, q_lt_f, l0, l1, q_in, q_cl, s1, e1, Option.getD_some]
  · intro p q hpn _
    show k_M_bestAt_4 d (some 52) (nI m) (oI q) _ h = _
    rw [e_M_bestAt_4]
    simp (disch := omega) only [M.K52, M.R0, M.R3, M.R4, M.R5, M.R6, M.R7, M.R15, M.R17, M.R19, M.R20, M.R22, M.R24, M.R26, M.R27, M.R28, M.R29, M.R30, M.R37, M.R38, M.R39, ↓bnd M.R0, ↓bnd M.R3, ↓bnd M.R4, ↓bnd M.R5, ↓bnd M.R6, ↓bnd M.R7, ↓bnd M.R15, ↓bnd M.R17, ↓bnd M.R19, ↓bnd M.R20, ↓bnd M.R22, ↓bnd M.R24, ↓bnd M.R26, ↓bnd M.R27, ↓bnd M.R28, ↓bnd M.R29, ↓bnd M.R30, ↓bnd M.R37, ↓bnd M.R38, ↓bnd M.R39, M.K53, M.K54, M.K55, M.K56, M.K57, M.K58, M.K59, M.K60, M.K61, M.K62, M.K63, M.K64, M.K65, M.K66, M.K67, M.K68, M.K69, M.K70, M.K71, M.K72, M.N53, M.N54, M.N55, M.N56, M.N57, M.N58, M.N59, M.N60, M.N61, M.N62, M.N63, M.N64, M.N65, M.N66, M.N67, M.N68, M.N69, M.N70, M.N71, M.N72, ↓reduceIte, ↓Option.bind_some, if_true, if_false, true_and, and_true, and_self, true_or, or_true, false_or, or_false, not_true_eq_false, not_false_eq_true, Option.bind_some, somene, false_and, and_false, reduceCtorEq, Nat.reduceEqDiff, q_le_f, l0, l1, q_in, q_cl, s1]
  · intro p q hpn _
    show k_M_bestAt_17 d (some 52) (nI m) (oI q) _ _ h = _
    rw [e_M_bestAt_17]
    simp (disch := omega) only [↓reduceIte, ↓Option.bind_some, if_true, if_false, true_and, and_true, and_self, true_or, or_true, false_or, or_false, not_true_eq_false, not_false_eq_true, Option.bind_some, somene, false_and, and_false, reduceCtorEq, Nat.reduceEqDiff, q_lt_t, l4, l1, nI_add]
  · intro p k q hpn h1 h4 hq
    show k_M_bestAt_17 d (some 52) (nI m) (oI q) _ _ h = _
    have hs := sB_lt w.1 hpn k
    have hlt := an_le m (sB (dA D) p k)
    rw [e_M_bestAt_17]
    cases hc : cB (dA D) m p k (dH D) (dE D)
    · simp (disch := omega) only [M.K52, M.R0, M.R3, M.R4, M.R5, M.R6, M.R7, M.R15, M.R17, M.R19, M.R20, M.R22, M.R24, M.R26, M.R27, M.R28, M.R29, M.R30, M.R37, M.R38, M.R39, ↓bnd M.R0, ↓bnd M.R3, ↓bnd M.R4, ↓bnd M.R5, ↓bnd M.R6, ↓bnd M.R7, ↓bnd M.R15, ↓bnd M.R17, ↓bnd M.R19, ↓bnd M.R20, ↓bnd M.R22, ↓bnd M.R24, ↓bnd M.R26, ↓bnd M.R27, ↓bnd M.R28, ↓bnd M.R29, ↓bnd M.R30, ↓bnd M.R37, ↓bnd M.R38, ↓bnd M.R39, M.K53, M.K54, M.K55, M.K56, M.K57, M.K58, M.K59, M.K60, M.K61, M.K62, M.K63, M.K64, M.K65, M.K66, M.K67, M.K68, M.K69, M.K70, M.K71, M.K72, M.N53, M.N54, M.N55, M.N56, M.N57, M.N58, M.N59, M.N60, M.N61, M.N62, M.N63, M.N64, M.N65, M.N66, M.N67, M.N68, M.N69, M.N70, M.N71, M.N72, ↓reduceIte, ↓Option.bind_some, if_true, if_false, true_and, and_true, and_self, true_or, or_true, false_or, or_false, not_true_eq_false, not_false_eq_true, Option.bind_some, somene, false_and, and_false, reduceCtorEq, Nat.reduceEqDiff, q_lt_f, l4, l1, l0, lm1, nI_add, ↓bnd (M_canBeNow_ok d M w S hm4 hpn h1 h4), hc, q_bi0, Bool.false_eq_true]
    · obtain ⟨_, c2, c3⟩ := cB_sub hc
      have hl := an_sub hm4 c2 c3
      have ht := T _ hl
      have hle := (clT_le D (an m (sB (dA D) p k)) (by omega)).2
      simp (disch := omega) only [M.K52, M.R0, M.R3, M.R4, M.R5, M.R6, M.R7, M.R15, M.R17, M.R19, M.R20, M.R22, M.R24, M.R26, M.R27, M.R28, M.R29, M.R30, M.R37, M.R38, M.R39, ↓bnd M.R0, ↓bnd M.R3, ↓bnd M.R4, ↓bnd M.R5, ↓bnd M.R6, ↓bnd M.R7, ↓bnd M.R15, ↓bnd M.R17, ↓bnd M.R19, ↓bnd M.R20, ↓bnd M.R22, ↓bnd M.R24, ↓bnd M.R26, ↓bnd M.R27, ↓bnd M.R28, ↓bnd M.R29, ↓bnd M.R30, ↓bnd M.R37, ↓bnd M.R38, ↓bnd M.R39, M.K53, M.K54, M.K55, M.K56, M.K57, M.K58, M.K59, M.K60, M.K61, M.K62, M.K63, M.K64, M.K65, M.K66, M.K67, M.K68, M.K69, M.K70, M.K71, M.K72, M.N53, M.N54, M.N55, M.N56, M.N57, M.N58, M.N59, M.N60, M.N61, M.N62, M.N63, M.N64, M.N65, M.N66, M.N67, M.N68, M.N69, M.N70, M.N71, M.N72, ↓reduceIte, ↓Option.bind_some, if_true, if_false, true_and, and_true, and_self, true_or, or_true, false_or, or_false, not_true_eq_false, not_false_eq_true, Option.bind_some, somene, false_and, and_false, reduceCtorEq, Nat.reduceEqDiff, q_lt_f, l4, l1, l0, lm1, nI_add, ↓bnd (M_canBeNow_ok d M w S hm4 hpn h1 h4), ↓bnd (M_strokeBits_ok (b := 52) d M w.1 S.1 hpn h4), hc, q_bi0, q_nan, q_in, q_cl, Bool.true_eq_false, ht]
      have ea : aT (dA D) m (p, k) = an m (sB (dA D) p k) := rfl
      rw [ea]
      cases q with
      | none =>
        have e1 : oI none = nM := rfl
        simp (disch := omega) only [e1, q_lem, if_false]
        rfl
      | some b =>
        have hb := hq b rfl
        have e1 : oI (some b) = nI b := rfl
        rw [e1]
        unfold omx
        by_cases hbb : b < (clT D (an m (sB (dA D) p k))).2
        · rw [if_neg (nI_ge hbb (by omega))]
          show _ = k_M_bestAt_17 d (some 52) (nI m) (nI (if _ then _ else _)) _ _ h
          rw [if_pos hbb]
        · rw [if_pos (nI_le (by omega) (by omega))]
          show _ = k_M_bestAt_17 d (some 52) (nI m) (nI (if _ then _ else _)) _ _ h
          rw [if_neg hbb]
theorem M_childAt_ok (w : dW D) (I : MI D st h) (hm : m < 2 ^ aN (dA D)) (T : TB 68 (fun j => nI (clT D j).1) m h) : c_M_childAt d (some 52) (nI m) h = some (h, nI (clT D m).2) := by
  obtain ⟨M, S, _⟩ := I
  have hm4 := p12 w.1 hm
  have hp := pow12 w.1.1
  have w1 := w.1.1
  have hv := ovN_le D
  obtain ⟨⟨s1, -⟩, s0, s3, s4, s5, s6⟩ := id S
  have hl2 := aL_len w.1 (dH D) (dE D) m
  have key := dfold (n := aN (dA D)) (f := fun p k => cB (dA D) m p k (dH D) (dE D)) (g := fun (r : Nat × Nat) x => (r.1 + (clT D (aT (dA D) m x)).1, r.2 + 1)) (fun p (r : Nat × Nat) => k_M_childAt_7 d (some 52) (nI m) (nI r.1) (nI r.2) (nI p) h) (fun p k r => k_M_childAt_21 d (some 52) (nI m) (nI r.1) (nI r.2) (nI p) (nI k) h) (fun r => k_M_childAt_7 d (some 52) (nI m) (nI r.1) (nI r.2) (nI (aN (dA D))) h) ?_ ?_ ?_ ?_ (0, 0)
  · rw [e_M_childAt, l0]
    refine key.trans ?_
    have e3 : (aL (dA D) (dH D) (dE D) m).foldl (fun (r : Nat × Nat) x => (r.1 + (clT D (aT (dA D) m x)).1, r.2 + 1)) (0, 0) = ((aL (dA D) (dH D) (dE D) m).foldl (fun s x => s + (clT D (aT (dA D) m x)).1) 0, (aL (dA D) (dH D) (dE D) m).length) := by
      have := fold3 (l := aL (dA D) (dH D) (dE D) m) (fun b _ => b) (fun s x => s + (clT D (aT (dA D) m x)).1) 0 0 0
      rw [Nat.zero_add] at this
      have h5 := fold2 (l := aL (dA D) (dH D) (dE D) m) (fun s x => s + (clT D (aT (dA D) m x)).1) (fun n _ => n + 1) 0 0
      rw [h5]
      have h6 : ∀ (l : List (Nat × Nat)) (n : Nat), l.foldl (fun n _ => n + 1) n = n + l.length := by
        intro l
        induction l with
        | nil => intro n; rfl
        | cons y l ih => intro n; rw [List.foldl_cons, ih, List.length_cons]; omega
      rw [h6, Nat.zero_add]
    rw [show rA (fun p k => cB (dA D) m p k (dH D) (dE D)) (aN (dA D)) 0 1 = aL (dA D) (dH D) (dE D) m from rfl, e3]
    have hs := sum_le (l := aL (dA D) (dH D) (dE D) m) (f := fun x => (clT D (aT (dA D) m x)).1) (B := 10000) (fun x hx => (clT_le D _ (Nat.lt_trans (aT_lt hm4 hx) hm4)).1) 0
    rw [clT_eq D hm4, e_M_childAt_7]
    unfold clB
    by_cases hq : aL (dA D) (dH D) (dE D) m = []
    · rw [hq]
      unfold ovN
      simp (disch := omega) only [List.foldl_nil, List.length_nil, M.K52, M.R0, M.R3, M.R4, M.R5, M.R6, M.R7, M.R15, M.R17, M.R19, M.R20, M.R22, M.R24, M.R26, M.R27, M.R28, M.R29, M.R30, M.R37, M.R38, M.R39, ↓bnd M.R0, ↓bnd M.R3, ↓bnd M.R4, ↓bnd M.R5, ↓bnd M.R6, ↓bnd M.R7, ↓bnd M.R15, ↓bnd M.R17, ↓bnd M.R19, ↓bnd M.R20, ↓bnd M.R22, ↓bnd M.R24, ↓bnd M.R26, ↓bnd M.R27, ↓bnd M.R28, ↓bnd M.R29, ↓bnd M.R30, ↓bnd M.R37, ↓bnd M.R38, ↓bnd M.R39, M.K53, M.K54, M.K55, M.K56, M.K57, M.K58, M.K59, M.K60, M.K61, M.K62, M.K63, M.K64, M.K65, M.K66, M.K67, M.K68, M.K69, M.K70, M.K71, M.K72, M.N53, M.N54, M.N55, M.N56, M.N57, M.N58, M.N59, M.N60, M.N61, M.N62, M.N63, M.N64, M.N65, M.N66, M.N67, M.N68, M.N69, M.N70, M.N71, M.N72, ↓reduceIte, ↓Option.bind_some, if_true, if_false, true_and, and_true, and_self, true_or, or_true, false_or, or_false, not_true_eq_false, not_false_eq_true, Option.bind_some, somene, false_and, and_false, reduceCtorEq, Nat.reduceEqDiff, q_le_t, l0, l1, l5, l10000, q_in, q_cl, s1, s5, q_bi1]
      cases dL D
      · simp only [↓reduceIte, ↓Option.bind_some, if_true, if_false, true_and, and_true, and_self, true_or, or_true, false_or, or_false, not_true_eq_false, not_false_eq_true, Option.bind_some, somene, false_and, and_false, reduceCtorEq, Nat.reduceEqDiff, Bool.false_eq_true]
      · simp only [↓reduceIte, ↓Option.bind_some, if_true, if_false, true_and, and_true, and_self, true_or, or_true, false_or, or_false, not_true_eq_false, not_false_eq_true, Option.bind_some, somene, false_and, and_false, reduceCtorEq, Nat.reduceEqDiff]
    · have h2 : 0 < (aL (dA D) (dH D) (dE D) m).length := List.length_pos_iff.mpr hq
      simp only [hq, if_false]
      simp (disch := omega) only [M.K52, M.R0, M.R3, M.R4, M.R5, M.R6, M.R7, M.R15, M.R17, M.R19, M.R20, M.R22, M.R24, M.R26, M.R27, M.R28, M.R29, M.R30, M.R37, M.R38, M.R39, ↓bnd M.R0, ↓bnd M.R3, ↓bnd M.R4, ↓bnd M.R5, ↓bnd M.R6, ↓bnd M.R7, ↓bnd M.R15, ↓bnd M.R17, ↓bnd M.R19, ↓bnd M.R20, ↓bnd M.R22, ↓bnd M.R24, ↓bnd M.R26, ↓bnd M.R27, ↓bnd M.R28, ↓bnd M.R29, ↓bnd M.R30, ↓bnd M.R37, ↓bnd M.R38, ↓bnd M.R39, M.K53, M.K54, M.K55, M.K56, M.K57, M.K58, M.K59, M.K60, M.K61, M.K62, M.K63, M.K64, M.K65, M.K66, M.K67, M.K68, M.K69, M.K70, M.K71, M.K72, M.N53, M.N54, M.N55, M.N56, M.N57, M.N58, M.N59, M.N60, M.N61, M.N62, M.N63, M.N64, M.N65, M.N66, M.N67, M.N68, M.N69, M.N70, M.N71, M.N72, ↓reduceIte, ↓Option.bind_some, if_true, if_false, true_and, and_true, and_self, true_or, or_true, false_or, or_false, not_true_eq_false, not_false_eq_true, Option.bind_some, somene, false_and, and_false, reduceCtorEq, Nat.reduceEqDiff, q_le_t, q_le_f, q_eq_f, l0, l1, q_in, q_cl, s1, q_div]
  · intro q
    rfl
  · intro p q hpn
    show k_M_childAt_7 d (some 52) (nI m) (nI q.1) (nI q.2) _ h = _
    rw [e_M_childAt_7]
    simp (disch := omega) only [M.K52, M.R0, M.R3, M.R4, M.R5, M.R6, M.R7, M.R15, M.R17, M.R19, M.R20, M.R22, M.R24, M.R26, M.R27, M.R28, M.R29, M.R30, M.R37, M.R38, M.R39, ↓bnd M.R0, ↓bnd M.R3, ↓bnd M.R4, ↓bnd M.R5, ↓bnd M.R6, ↓bnd M.R7, ↓bnd M.R15, ↓bnd M.R17, ↓bnd M.R19, ↓bnd M.R20, ↓bnd M.R22, ↓bnd M.R24, ↓bnd M.R26, ↓bnd M.R27, ↓bnd M.R28, ↓bnd M.R29, ↓bnd M.R30, ↓bnd M.R37, ↓bnd M.R38, ↓bnd M.R39, M.K53, M.K54, M.K55, M.K56, M.K57, M.K58, M.K59, M.K60, M.K61, M.K62, M.K63, M.K64, M.K65, M.K66, M.K67, M.K68, M.K69, M.K70, M.K71, M.K72, M.N53, M.N54, M.N55, M.N56, M.N57, M.N58, M.N59, M.N60, M.N61, M.N62, M.N63, M.N64, M.N65, M.N66, M.N67, M.N68, M.N69, M.N70, M.N71, M.N72, ↓reduceIte, ↓Option.bind_some, if_true, if_false, true_and, and_true, and_self, true_or, or_true, false_or, or_false, not_true_eq_false, not_false_eq_true, Option.bind_some, somene, false_and, and_false, reduceCtorEq, Nat.reduceEqDiff, q_le_f, l0, l1, q_in, q_cl, s1]
  · intro p q hpn
    show k_M_childAt_21 d (some 52) (nI m) (nI q.1) (nI q.2) _ _ h = _
    rw [e_M_childAt_21]
    simp (disch := omega) only [↓reduceIte, ↓Option.bind_some, if_true, if_false, true_and, and_true, and_self, true_or, or_true, false_or, or_false, not_true_eq_false, not_false_eq_true, Option.bind_some, somene, false_and, and_false, reduceCtorEq, Nat.reduceEqDiff, q_lt_t, l4, l1, nI_add]
  · intro p k q hpn h1 h4
    show k_M_childAt_21 d (some 52) (nI m) (nI q.1) (nI q.2) _ _ h = _
    have hs := sB_lt w.1 hpn k
    have hlt := an_le m (sB (dA D) p k)
    rw [e_M_childAt_21]
    cases hc : cB (dA D) m p k (dH D) (dE D)
    · simp (disch := omega) only [M.K52, M.R0, M.R3, M.R4, M.R5, M.R6, M.R7, M.R15, M.R17, M.R19, M.R20, M.R22, M.R24, M.R26, M.R27, M.R28, M.R29, M.R30, M.R37, M.R38, M.R39, ↓bnd M.R0, ↓bnd M.R3, ↓bnd M.R4, ↓bnd M.R5, ↓bnd M.R6, ↓bnd M.R7, ↓bnd M.R15, ↓bnd M.R17, ↓bnd M.R19, ↓bnd M.R20, ↓bnd M.R22, ↓bnd M.R24, ↓bnd M.R26, ↓bnd M.R27, ↓bnd M.R28, ↓bnd M.R29, ↓bnd M.R30, ↓bnd M.R37, ↓bnd M.R38, ↓bnd M.R39, M.K53, M.K54, M.K55, M.K56, M.K57, M.K58, M.K59, M.K60, M.K61, M.K62, M.K63, M.K64, M.K65, M.K66, M.K67, M.K68, M.K69, M.K70, M.K71, M.K72, M.N53, M.N54, M.N55, M.N56, M.N57, M.N58, M.N59, M.N60, M.N61, M.N62, M.N63, M.N64, M.N65, M.N66, M.N67, M.N68, M.N69, M.N70, M.N71, M.N72, ↓reduceIte, ↓Option.bind_some, if_true, if_false, true_and, and_true, and_self, true_or, or_true, false_or, or_false, not_true_eq_false, not_false_eq_true, Option.bind_some, somene, false_and, and_false, reduceCtorEq, Nat.reduceEqDiff, q_lt_f, l4, l1, l0, lm1, nI_add, ↓bnd (M_canBeNow_ok d M w S hm4 hpn h1 h4), hc, q_bi0, Bool.false_eq_true]
    · obtain ⟨_, c2, c3⟩ := cB_sub hc
      have hl := an_sub hm4 c2 c3
      have ht := T _ hl
      simp (disch := omega) only [M.K52, M.R0, M.R3, M.R4, M.R5, M.R6, M.R7, M.R15, M.R17, M.R19, M.R20, M.R22, M.R24, M.R26, M.R27, M.R28, M.R29, M.R30, M.R37, M.R38, M.R39, ↓bnd M.R0, ↓bnd M.R3, ↓bnd M.R4, ↓bnd M.R5, ↓bnd M.R6, ↓bnd M.R7, ↓bnd M.R15, ↓bnd M.R17, ↓bnd M.R19, ↓bnd M.R20, ↓bnd M.R22, ↓bnd M.R24, ↓bnd M.R26, ↓bnd M.R27, ↓bnd M.R28, ↓bnd M.R29, ↓bnd M.R30, ↓bnd M.R37, ↓bnd M.R38, ↓bnd M.R39, M.K53, M.K54, M.K55, M.K56, M.K57, M.K58, M.K59, M.K60, M.K61, M.K62, M.K63, M.K64, M.K65, M.K66, M.K67, M.K68, M.K69, M.K70, M.K71, M.K72, M.N53, M.N54, M.N55, M.N56, M.N57, M.N58, M.N59, M.N60, M.N61, M.N62, M.N63, M.N64, M.N65, M.N66, M.N67, M.N68, M.N69, M.N70, M.N71, M.N72, ↓reduceIte, ↓Option.bind_some, if_true, if_false, true_and, and_true, and_self, true_or, or_true, false_or, or_false, not_true_eq_false, not_false_eq_true, Option.bind_some, somene, false_and, and_false, reduceCtorEq, Nat.reduceEqDiff, q_lt_f, l4, l1, l0, lm1, nI_add, ↓bnd (M_canBeNow_ok d M w S hm4 hpn h1 h4), ↓bnd (M_strokeBits_ok (b := 52) d M w.1 S.1 hpn h4), hc, q_bi0, q_nan, q_in, q_cl, Bool.true_eq_false, ht]
      rfl
def clM (D : DD) (m : Nat) (h : sk_H) : Prop := TB 68 (fun j => nI (clT D j).1) m h ∧ TB 69 (fun j => nI (clT D j).2) m h
theorem M_child_all (w : dW D) (I : MI D st h) (hst : st < 2 ^ aN (dA D)) : ∃ h', k_M_child_11 d (some 52) (nI 0) h = some (h', nI (clT D st).1) ∧ Iq P68 h h' := by
  have hp := pow12 w.1.1
  obtain ⟨h', e1, e2, e3, e4⟩ := gfill (P := P68) (K := fun m h => k_M_child_11 d (some 52) (nI m) h) (N := st + 1) (fun m h => wI (wI h 68 m (nI (clT D m).1)) 69 m (nI (clT D m).2)) (clM D) (MI D st) (fun h h' Q I => I.iq P68_M Q) (fun m h hm I T => ⟨by
    obtain ⟨M, S, s8⟩ := id I
    have I2 : MI D st (wI h 68 m (nI (clT D m).1)) := I.iq (P := P68) P68_M (Iq.w h _ rfl)
    have b1 := M_bestAt_ok (d := d) w I (show m < 2 ^ aN (dA D) by omega) T.2
    have b2 := M_childAt_ok (d := d) w I2 (show m < 2 ^ aN (dA D) by omega) (fun j hj => by
      rw [hI_wI, if_neg (fun q => by have := q.2; omega)]
      exact T.1 j hj)
    show k_M_child_11 d (some 52) (nI m) h = _
    rw [e_M_child_11]
    simp (disch := omega) only [M.K52, M.R0, M.R3, M.R4, M.R5, M.R6, M.R7, M.R15, M.R17, M.R19, M.R20, M.R22, M.R24, M.R26, M.R27, M.R28, M.R29, M.R30, M.R37, M.R38, M.R39, ↓bnd M.R0, ↓bnd M.R3, ↓bnd M.R4, ↓bnd M.R5, ↓bnd M.R6, ↓bnd M.R7, ↓bnd M.R15, ↓bnd M.R17, ↓bnd M.R19, ↓bnd M.R20, ↓bnd M.R22, ↓bnd M.R24, ↓bnd M.R26, ↓bnd M.R27, ↓bnd M.R28, ↓bnd M.R29, ↓bnd M.R30, ↓bnd M.R37, ↓bnd M.R38, ↓bnd M.R39, M.K53, M.K54, M.K55, M.K56, M.K57, M.K58, M.K59, M.K60, M.K61, M.K62, M.K63, M.K64, M.K65, M.K66, M.K67, M.K68, M.K69, M.K70, M.K71, M.K72, M.N53, M.N54, M.N55, M.N56, M.N57, M.N58, M.N59, M.N60, M.N61, M.N62, M.N63, M.N64, M.N65, M.N66, M.N67, M.N68, M.N69, M.N70, M.N71, M.N72, ↓reduceIte, ↓Option.bind_some, if_true, if_false, true_and, and_true, and_self, true_or, or_true, false_or, or_false, not_true_eq_false, not_false_eq_true, Option.bind_some, somene, false_and, and_false, reduceCtorEq, Nat.reduceEqDiff, hK_wI, hN_wI, hn_wI, hs_wI, hJ_wI, hR_wI, hK_wJ, hN_wJ, hn_wJ, hs_wJ, hI_wJ, hR_wJ, hK_wR, hN_wR, hn_wR, hs_wR, hI_wR, hJ_wR, q_lt_f, l8, l1, s8, q_in, q_cl, nI_add, b1, b2], (Iq.w h _ rfl).trans (Iq.w _ _ rfl), fun j hj => by rw [hI_wI, if_neg (fun q => by have := q.1; omega)]; exact T.1.s rfl j hj, fun j hj => by
    have := (T.2.s (v := nI (clT D m).2) rfl) j hj
    rw [hI_wI] at this ⊢
    by_cases hq : j = m
    · rw [if_pos ⟨rfl, hq⟩] at this ⊢; exact this
    · rw [if_neg (fun q => hq q.2)] at this ⊢
      rw [hI_wI, if_neg (fun q => by have := q.1; omega)]; exact this⟩) (st + 1) 0 h (by omega) I ⟨fun j hj => absurd hj (by omega), fun j hj => absurd hj (by omega)⟩
  obtain ⟨M, S, s8⟩ := e3
  refine ⟨h', e1.trans ?_, e2⟩
  rw [e_M_child_11]
  have e5 := e4.1 st (by omega)
  simp (disch := omega) only [M.K52, M.R0, M.R3, M.R4, M.R5, M.R6, M.R7, M.R15, M.R17, M.R19, M.R20, M.R22, M.R24, M.R26, M.R27, M.R28, M.R29, M.R30, M.R37, M.R38, M.R39, ↓bnd M.R0, ↓bnd M.R3, ↓bnd M.R4, ↓bnd M.R5, ↓bnd M.R6, ↓bnd M.R7, ↓bnd M.R15, ↓bnd M.R17, ↓bnd M.R19, ↓bnd M.R20, ↓bnd M.R22, ↓bnd M.R24, ↓bnd M.R26, ↓bnd M.R27, ↓bnd M.R28, ↓bnd M.R29, ↓bnd M.R30, ↓bnd M.R37, ↓bnd M.R38, ↓bnd M.R39, M.K53, M.K54, M.K55, M.K56, M.K57, M.K58, M.K59, M.K60, M.K61, M.K62, M.K63, M.K64, M.K65, M.K66, M.K67, M.K68, M.K69, M.K70, M.K71, M.K72, M.N53, M.N54, M.N55, M.N56, M.N57, M.N58, M.N59, M.N60, M.N61, M.N62, M.N63, M.N64, M.N65, M.N66, M.N67, M.N68, M.N69, M.N70, M.N71, M.N72, ↓reduceIte, ↓Option.bind_some, if_true, if_false, true_and, and_true, and_self, true_or, or_true, false_or, or_false, not_true_eq_false, not_false_eq_true, Option.bind_some, somene, false_and, and_false, reduceCtorEq, Nat.reduceEqDiff, q_lt_t, l8, s8, q_in, q_cl, e5]
end SkChildM
/-! lasts -/
def lnW (D : DD) (m : Nat) (u : Nat → Nat) : Option Nat := ((aL (dA D) (dH D) (dE D) m).filter (fun x => !wD D (aT (dA D) m x))).foldl (fun o x => omn o (u (aT (dA D) m x) + 1)) none
def lnA (D : DD) (m : Nat) (u : Nat → Nat) : Option Nat := (aL (dA D) (dH D) (dE D) m).foldl (fun o x => omx o (u (aT (dA D) m x) + 1)) none
def lnB (D : DD) (m : Nat) (u : Nat → Nat) : Nat := (if wD D m = true then lnW D m u else lnA D m u).getD 0
def lnT (D : DD) : Nat → Nat := fv (lnB D) 0
theorem lnT_eq (D : DD) {m : Nat} (hm : m < 4096) : lnT D m = lnB D m (lnT D) := fv_eq (N := 4096) (fun m hm u v h => by
  have e1 : lnW D m u = lnW D m v := foldl_cg (fun r x hx => by rw [h _ (aT_lt hm (List.mem_filter.mp hx).1)]) none
  have e2 : lnA D m u = lnA D m v := foldl_cg (fun r x hx => by rw [h _ (aT_lt hm hx)]) none
  unfold lnB
  rw [e1, e2]) hm
theorem lnT_le (D : DD) : ∀ m, m < 4096 → lnT D m ≤ m := by
  intro m
  induction m using Nat.strongRecOn with
  | _ m ih =>
    intro hm
    rw [lnT_eq D hm]
    have hi := fun x (hx : x ∈ aL (dA D) (dH D) (dE D) m) => ih _ (aT_lt hm hx) (Nat.lt_trans (aT_lt hm hx) hm)
    have hj := fun x (hx : x ∈ aL (dA D) (dH D) (dE D) m) => aT_lt hm hx
    have h1 : ∀ b, lnW D m (lnT D) = some b → b ≤ m := foldl_inv (P := fun o : Option Nat => ∀ b, o = some b → b ≤ m) (fun o x hx ho => omn_le ho (by
      have := hi x (List.mem_filter.mp hx).1
      have := hj x (List.mem_filter.mp hx).1
      omega)) none (fun b hb => by cases hb)
    have h2 : ∀ b, lnA D m (lnT D) = some b → b ≤ m := foldl_inv (P := fun o : Option Nat => ∀ b, o = some b → b ≤ m) (fun o x hx ho => omx_le ho (by
      have := hi x hx
      have := hj x hx
      omega)) none (fun b hb => by cases hb)
    unfold lnB
    split
    · cases hq : lnW D m (lnT D) with
      | none => exact Nat.zero_le _
      | some b => exact h1 b hq
    · cases hq : lnA D m (lnT D) with
      | none => exact Nat.zero_le _
      | some b => exact h2 b hq
theorem omn_pos {o : Option Nat} {n : Nat} (ho : ∀ b, o = some b → 1 ≤ b) (hn : 1 ≤ n) : ∀ b, omn o n = some b → 1 ≤ b := by
  intro b hb
  cases o with
  | none =>
    have hb : some n = some b := hb
    cases hb; exact hn
  | some c =>
    have := ho c rfl
    have hb : some (if n < c then n else c) = some b := hb
    by_cases q : n < c
    · rw [if_pos q] at hb; cases hb; exact hn
    · rw [if_neg q] at hb; cases hb; exact this
/-- the reference's way to say it -/
theorem ln_pure (D : DD) {m : Nat} (hm : m < 4096) (u : Nat → Nat) : (match lnW D m u with
  | none => (lnA D m u).getD 0
  | some b => b) = lnB D m u ∧ ∀ b, lnW D m u = some b → 1 ≤ b := by
  refine ⟨?_, foldl_inv (P := fun o : Option Nat => ∀ b, o = some b → 1 ≤ b) (fun o x hx ho => omn_pos ho (by omega)) none (fun b hb => by cases hb)⟩
  have e : wD D m = wB (dA D) (dH D) (dE D) (dL D) m (wD D) := wA_eq hm
  unfold lnB
  by_cases hq : aL (dA D) (dH D) (dE D) m = []
  · unfold lnW lnA
    rw [hq]
    cases wD D m <;> rfl
  · have e2 : wD D m = (aL (dA D) (dH D) (dE D) m).any (fun x => !wD D (aT (dA D) m x)) := by
      rw [e]; unfold wB; rw [if_neg hq]
    cases hw : wD D m
    · rw [if_neg (by decide)]
      rw [hw] at e2
      have e3 : (aL (dA D) (dH D) (dE D) m).filter (fun x => !wD D (aT (dA D) m x)) = [] := by rw [filter_nil]; exact e2.symm
      unfold lnW
      rw [e3]
      rfl
    · rw [if_pos rfl]
      rw [hw] at e2
      have e3 : (aL (dA D) (dH D) (dE D) m).filter (fun x => !wD D (aT (dA D) m x)) ≠ [] := by
        intro q
        rw [filter_nil] at q
        rw [q] at e2
        cases e2
      obtain ⟨b, hb⟩ := omn_some (fun x => u (aT (dA D) m x) + 1) none (Or.inl e3)
      have hb : lnW D m u = some b := hb
      rw [hb]
      rfl
