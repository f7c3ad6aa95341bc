/-! ===== fair, wins ===== -/
def frC (D : DD) (st : Nat) (bf : Bool) (o : Option Nat) (s : Nat) : Bool := decide (an s st = 0) && ((wD D (an st s) != bf) && (match o with
  | none => true
  | some b => decide (pc s < pc b)))
def frG (D : DD) (st : Nat) (bf : Bool) (o : Option Nat) (s : Nat) : Option Nat := if frC D st bf o s = true then some s else o
def frF (D : DD) (st : Nat) (bf : Bool) : Nat → Nat → Option Nat → Option Nat
  | 0, _, o => o
  | n + 1, s, o => frF D st bf n (s + 1) (frG D st bf o s)
theorem q_bib (c e : Bool) : (bi c = bi e) = (c = e) := propext ⟨bi_inj, fun q => by rw [q]⟩
section SkFair
variable {L : Nat} {xs : Nat → Int32} {F G : Nat → Prop} {E : Nat → Option DD} {h h1 h2 : sk_H} {j st tu pl a m p k : Nat} {D : DD} {c : Nat → Nat} {d : Nat}
theorem frG_lt {bf : Bool} {o : Option Nat} {s : Nat} (ho : ∀ b, o = some b → b < 4096) (hs : s < 4096) : ∀ b, frG D st bf o s = some b → b < 4096 := by
  intro b hb
  unfold frG at hb
  split at hb
  · cases hb; exact hs
  · exact ho b hb
theorem frF_lt {bf : Bool} : ∀ (n s : Nat) (o : Option Nat), s + n ≤ 4096 → (∀ b, o = some b → b < 4096) → ∀ b, frF D st bf n s o = some b → b < 4096
  | 0, s, o, _, ho, b, hb => ho b hb
  | n + 1, s, o, hs, ho, b, hb => frF_lt n (s + 1) _ (by omega) (frG_lt ho (by omega)) b hb
theorem SR_fair_in (C : CS h) (w : dW D) (ow : hI h 32 1 = nI (owN D)) (X : TFl h D) (i : hI h 23 1 = nI st) (hst : st < 2 ^ aN (dA D)) (bf : Bool) : ∀ (n s : Nat) (o : Option Nat), s + n = st + 1 → (∀ b, o = some b → b < 4096) → k_SR_fairSet_19 d (some 20) (bi bf) (oI o) (nI s) h = some (h, oI (frF D st bf n s o))
  | 0, s, o, hs, ho => by
    have hst4 := p12 w.1 hst
    rw [e_SR_fairSet_19]
    simp (disch := omega) only [C.k20, C.k21, C.k22, C.k23, C.k24, C.k25, C.k26, C.k27, C.k28, C.k29, C.k30, C.k31, C.k32, C.k43, C.k44, C.k45, C.k46, C.k47, C.k48, C.k49, C.k50, C.k51, C.n21, C.n22, C.n24, C.n25, C.n26, C.n27, C.n29, C.n30, C.n31, C.n43, C.n44, C.n45, C.n46, C.n47, C.n48, C.n51, C.r20_0, C.r20_2, C.r20_4, C.r20_5, C.r20_6, C.r20_7, C.r20_8, C.r23_5, C.r23_6, C.r23_7, C.r28_0, C.r28_1, C.r28_2, C.r32_3, C.r32_4, C.r32_5, C.r32_6, C.r32_7, C.r32_8, C.r49_0, C.r50_0, ↓bnd C.r20_0, ↓bnd C.r20_2, ↓bnd C.r20_4, ↓bnd C.r20_5, ↓bnd C.r20_6, ↓bnd C.r20_7, ↓bnd C.r20_8, ↓bnd C.r23_5, ↓bnd C.r23_6, ↓bnd C.r23_7, ↓bnd C.r28_0, ↓bnd C.r28_1, ↓bnd C.r28_2, ↓bnd C.r32_3, ↓bnd C.r32_4, ↓bnd C.r32_5, ↓bnd C.r32_6, ↓bnd C.r32_7, ↓bnd C.r32_8, ↓bnd C.r49_0, ↓bnd C.r50_0, ↓reduceIte, ↓Option.bind_some, if_true, if_false, true_and, and_true, and_self, true_or, or_true, false_or, or_false, not_true_eq_false, not_false_eq_true, Option.bind_some, somene, false_and, and_false, reduceCtorEq, Nat.reduceEqDiff, i, q_lt_t]
    rfl
  | n + 1, s, o, hs, ho => by
    have hst4 := p12 w.1 hst
    have ih := SR_fair_in C w ow X i hst bf n (s + 1) (frG D st bf o s) (by omega) (frG_lt ho (by omega))
    have hlt := an_lt st (show s < 4096 by omega)
    have hle := an_le st s
    have cw := Ta_cw_f (d := d) C w ow X (Nat.lt_of_le_of_lt hle hst)
    show _ = some (h, oI (frF D st bf n (s + 1) (frG D st bf o s)))
    rw [← ih, e_SR_fairSet_19]
    simp (disch := omega) only [C.k20, C.k21, C.k22, C.k23, C.k24, C.k25, C.k26, C.k27, C.k28, C.k29, C.k30, C.k31, C.k32, C.k43, C.k44, C.k45, C.k46, C.k47, C.k48, C.k49, C.k50, C.k51, C.n21, C.n22, C.n24, C.n25, C.n26, C.n27, C.n29, C.n30, C.n31, C.n43, C.n44, C.n45, C.n46, C.n47, C.n48, C.n51, C.r20_0, C.r20_2, C.r20_4, C.r20_5, C.r20_6, C.r20_7, C.r20_8, C.r23_5, C.r23_6, C.r23_7, C.r28_0, C.r28_1, C.r28_2, C.r32_3, C.r32_4, C.r32_5, C.r32_6, C.r32_7, C.r32_8, C.r49_0, C.r50_0, ↓bnd C.r20_0, ↓bnd C.r20_2, ↓bnd C.r20_4, ↓bnd C.r20_5, ↓bnd C.r20_6, ↓bnd C.r20_7, ↓bnd C.r20_8, ↓bnd C.r23_5, ↓bnd C.r23_6, ↓bnd C.r23_7, ↓bnd C.r28_0, ↓bnd C.r28_1, ↓bnd C.r28_2, ↓bnd C.r32_3, ↓bnd C.r32_4, ↓bnd C.r32_5, ↓bnd C.r32_6, ↓bnd C.r32_7, ↓bnd C.r32_8, ↓bnd C.r49_0, ↓bnd C.r50_0, ↓reduceIte, ↓Option.bind_some, if_true, if_false, true_and, and_true, and_self, true_or, or_true, false_or, or_false, not_true_eq_false, not_false_eq_true, Option.bind_some, somene, false_and, and_false, reduceCtorEq, Nat.reduceEqDiff, i, q_lt_f, lm1, l1, l0, q_nan]
    unfold frG frC
    by_cases h0 : an s st = 0
    · simp only [h0, decide_true, Bool.true_and, ↓reduceIte, ↓Option.bind_some, if_true, if_false, true_and, and_true, and_self, true_or, or_true, false_or, or_false, not_true_eq_false, not_false_eq_true, Option.bind_some, somene, false_and, and_false, reduceCtorEq, Nat.reduceEqDiff]
      rw [e_SR_fairSet_49]
      simp (disch := omega) only [C.k20, C.k21, C.k22, C.k23, C.k24, C.k25, C.k26, C.k27, C.k28, C.k29, C.k30, C.k31, C.k32, C.k43, C.k44, C.k45, C.k46, C.k47, C.k48, C.k49, C.k50, C.k51, C.n21, C.n22, C.n24, C.n25, C.n26, C.n27, C.n29, C.n30, C.n31, C.n43, C.n44, C.n45, C.n46, C.n47, C.n48, C.n51, C.r20_0, C.r20_2, C.r20_4, C.r20_5, C.r20_6, C.r20_7, C.r20_8, C.r23_5, C.r23_6, C.r23_7, C.r28_0, C.r28_1, C.r28_2, C.r32_3, C.r32_4, C.r32_5, C.r32_6, C.r32_7, C.r32_8, C.r49_0, C.r50_0, ↓bnd C.r20_0, ↓bnd C.r20_2, ↓bnd C.r20_4, ↓bnd C.r20_5, ↓bnd C.r20_6, ↓bnd C.r20_7, ↓bnd C.r20_8, ↓bnd C.r23_5, ↓bnd C.r23_6, ↓bnd C.r23_7, ↓bnd C.r28_0, ↓bnd C.r28_1, ↓bnd C.r28_2, ↓bnd C.r32_3, ↓bnd C.r32_4, ↓bnd C.r32_5, ↓bnd C.r32_6, ↓bnd C.r32_7, ↓bnd C.r32_8, ↓bnd C.r49_0, ↓bnd C.r50_0, ↓reduceIte, ↓Option.bind_some, if_true, if_false, true_and, and_true, and_self, true_or, or_true, false_or, or_false, not_true_eq_false, not_false_eq_true, Option.bind_some, somene, false_and, and_false, reduceCtorEq, Nat.reduceEqDiff, i, lm1, l1, l0, q_nan, q_eq_f, cw, nI_add, q_bib]
      cases o with
      | none =>
        have e1 : oI none = nM := rfl
        by_cases hb : wD D (an st s) = bf
        · simp [hb, e1]
        · have hb2 : (wD D (an st s) != bf) = true := by simpa using hb
          simp only [hb, hb2, e1, if_false, if_true, Bool.true_and]
          rfl
      | some b =>
        have hb4 := ho b rfl
        have e1 : oI (some b) = nI b := rfl
        have p1 := pc_le s
        have p2 := pc_le b
        by_cases hb : wD D (an st s) = bf
        · simp [hb, e1]
        · have hb2 : (wD D (an st s) != bf) = true := by simpa using hb
          simp (disch := omega) only [hb, hb2, e1, if_false, q_m1, JI_bc_ok (show s < 4096 by omega), JI_bc_ok hb4, Option.bind_some, Bool.true_and, q_le]
          by_cases hpc : pc s < pc b
          · rw [if_neg (by omega), if_pos (decide_eq_true hpc)]
            rfl
          · rw [if_pos (by omega), if_neg (by simp [hpc])]
            rfl
    · have n0 : (nI (an s st) = nI 0) = False := q_eq_f h0 (by omega) (by omega)
      simp only [h0, n0, decide_false, Bool.false_and, Bool.false_eq_true, ↓reduceIte, ↓Option.bind_some, if_true, if_false, true_and, and_true, and_self, true_or, or_true, false_or, or_false, not_true_eq_false, not_false_eq_true, Option.bind_some, somene, false_and, and_false, reduceCtorEq, Nat.reduceEqDiff]
      rw [e_SR_fairSet_49]
      simp (disch := omega) only [↓reduceIte, ↓Option.bind_some, if_true, if_false, true_and, and_true, and_self, true_or, or_true, false_or, or_false, not_true_eq_false, not_false_eq_true, Option.bind_some, somene, false_and, and_false, reduceCtorEq, Nat.reduceEqDiff, l1, l0, nI_add]
theorem M_fair_in (I : MI D st h) (w : dW D) (X : ∀ j, j < 2 ^ aN (dA D) → hI h 63 j = bi (wD D j)) (hst : st < 2 ^ aN (dA D)) (bf : Bool) (x1 : Int32) : ∀ (n s : Nat) (o : Option Nat), s + n = st + 1 → (∀ b, o = some b → b < 4096) → k_M_fair_36 d (some 52) x1 (bi bf) (oI o) (nI s) h = (match frF D st bf n s o with
      | none => some (h, nM2)
      | some b => if x1 = nI 0 then some (h, nI (pc b)) else some (h, nI b))
  | 0, s, o, hs, ho => by
    obtain ⟨M, S, s8⟩ := I
    have hst4 := p12 w.1 hst
    rw [e_M_fair_36]
    cases o with
    | none =>
      have e1 : oI none = nM := rfl
      simp (disch := omega) only [M.K52, M.R0, M.R3, M.R4, M.R5, M.R6, M.R7, M.R15, M.R17, M.R19, M.R20, M.R22, M.R24, M.R26, M.R27, M.R28, M.R29, M.R30, M.R37, M.R38, M.R39, ↓bnd M.R0, ↓bnd M.R3, ↓bnd M.R4, ↓bnd M.R5, ↓bnd M.R6, ↓bnd M.R7, ↓bnd M.R15, ↓bnd M.R17, ↓bnd M.R19, ↓bnd M.R20, ↓bnd M.R22, ↓bnd M.R24, ↓bnd M.R26, ↓bnd M.R27, ↓bnd M.R28, ↓bnd M.R29, ↓bnd M.R30, ↓bnd M.R37, ↓bnd M.R38, ↓bnd M.R39, M.K53, M.K54, M.K55, M.K56, M.K57, M.K58, M.K59, M.K60, M.K61, M.K62, M.K63, M.K64, M.K65, M.K66, M.K67, M.K68, M.K69, M.K70, M.K71, M.K72, M.N53, M.N54, M.N55, M.N56, M.N57, M.N58, M.N59, M.N60, M.N61, M.N62, M.N63, M.N64, M.N65, M.N66, M.N67, M.N68, M.N69, M.N70, M.N71, M.N72, ↓reduceIte, ↓Option.bind_some, if_true, if_false, true_and, and_true, and_self, true_or, or_true, false_or, or_false, not_true_eq_false, not_false_eq_true, Option.bind_some, somene, false_and, and_false, reduceCtorEq, Nat.reduceEqDiff, l8, l0, l2, lm2, q_in, q_cl, s8, q_lt_t, e1, q_mle0]
      rfl
    | some b =>
      have hb := ho b rfl
      have e1 : oI (some b) = nI b := rfl
      simp (disch := omega) only [M.K52, M.R0, M.R3, M.R4, M.R5, M.R6, M.R7, M.R15, M.R17, M.R19, M.R20, M.R22, M.R24, M.R26, M.R27, M.R28, M.R29, M.R30, M.R37, M.R38, M.R39, ↓bnd M.R0, ↓bnd M.R3, ↓bnd M.R4, ↓bnd M.R5, ↓bnd M.R6, ↓bnd M.R7, ↓bnd M.R15, ↓bnd M.R17, ↓bnd M.R19, ↓bnd M.R20, ↓bnd M.R22, ↓bnd M.R24, ↓bnd M.R26, ↓bnd M.R27, ↓bnd M.R28, ↓bnd M.R29, ↓bnd M.R30, ↓bnd M.R37, ↓bnd M.R38, ↓bnd M.R39, M.K53, M.K54, M.K55, M.K56, M.K57, M.K58, M.K59, M.K60, M.K61, M.K62, M.K63, M.K64, M.K65, M.K66, M.K67, M.K68, M.K69, M.K70, M.K71, M.K72, M.N53, M.N54, M.N55, M.N56, M.N57, M.N58, M.N59, M.N60, M.N61, M.N62, M.N63, M.N64, M.N65, M.N66, M.N67, M.N68, M.N69, M.N70, M.N71, M.N72, ↓reduceIte, ↓Option.bind_some, if_true, if_false, true_and, and_true, and_self, true_or, or_true, false_or, or_false, not_true_eq_false, not_false_eq_true, Option.bind_some, somene, false_and, and_false, reduceCtorEq, Nat.reduceEqDiff, l8, l0, l2, lm2, q_in, q_cl, s8, q_lt_t, q_le_t, e1, M_bits_ok hb]
      show _ = (if x1 = nI 0 then some (h, nI (pc b)) else some (h, nI b))
      by_cases hx : x1 = nI 0
      · rw [if_neg (by simp [hx]), if_pos hx]
      · rw [if_pos hx, if_neg hx]
  | n + 1, s, o, hs, ho => by
    have ih := M_fair_in I w X hst bf x1 n (s + 1) (frG D st bf o s) (by omega) (frG_lt ho (by have := p12 w.1 hst; omega))
    obtain ⟨M, S, s8⟩ := I
    have hst4 := p12 w.1 hst
    have hlt := an_lt st (show s < 4096 by omega)
    have hle := an_le st s
    have xw := X _ (Nat.lt_of_le_of_lt hle hst)
    show _ = (match frF D st bf n (s + 1) (frG D st bf o s) with
      | none => some (h, nM2)
      | some b => if x1 = nI 0 then some (h, nI (pc b)) else some (h, nI b))
    rw [← ih, e_M_fair_36]
    have e82 : k_M_fair_82 d (some 52) x1 (bi bf) (oI o) (nI s) h = k_M_fair_36 d (some 52) x1 (bi bf) (oI (if (wD D (an st s) != bf) = true then some s else o)) (nI (s + 1)) h := by
      rw [e_M_fair_82]
      simp (disch := omega) only [M.K52, M.R0, M.R3, M.R4, M.R5, M.R6, M.R7, M.R15, M.R17, M.R19, M.R20, M.R22, M.R24, M.R26, M.R27, M.R28, M.R29, M.R30, M.R37, M.R38, M.R39, ↓bnd M.R0, ↓bnd M.R3, ↓bnd M.R4, ↓bnd M.R5, ↓bnd M.R6, ↓bnd M.R7, ↓bnd M.R15, ↓bnd M.R17, ↓bnd M.R19, ↓bnd M.R20, ↓bnd M.R22, ↓bnd M.R24, ↓bnd M.R26, ↓bnd M.R27, ↓bnd M.R28, ↓bnd M.R29, ↓bnd M.R30, ↓bnd M.R37, ↓bnd M.R38, ↓bnd M.R39, M.K53, M.K54, M.K55, M.K56, M.K57, M.K58, M.K59, M.K60, M.K61, M.K62, M.K63, M.K64, M.K65, M.K66, M.K67, M.K68, M.K69, M.K70, M.K71, M.K72, M.N53, M.N54, M.N55, M.N56, M.N57, M.N58, M.N59, M.N60, M.N61, M.N62, M.N63, M.N64, M.N65, M.N66, M.N67, M.N68, M.N69, M.N70, M.N71, M.N72, ↓reduceIte, ↓Option.bind_some, if_true, if_false, true_and, and_true, and_self, true_or, or_true, false_or, or_false, not_true_eq_false, not_false_eq_true, Option.bind_some, somene, false_and, and_false, reduceCtorEq, Nat.reduceEqDiff, l8, l1, lm1, q_in, q_cl, s8, q_nan, xw, q_bib, nI_add]
      by_cases hb : wD D (an st s) = bf
      · simp [hb]
      · have hb2 : (wD D (an st s) != bf) = true := by simpa using hb
        rw [if_neg hb, if_pos hb2]
        rfl
    simp (disch := omega) only [M.K52, M.R0, M.R3, M.R4, M.R5, M.R6, M.R7, M.R15, M.R17, M.R19, M.R20, M.R22, M.R24, M.R26, M.R27, M.R28, M.R29, M.R30, M.R37, M.R38, M.R39, ↓bnd M.R0, ↓bnd M.R3, ↓bnd M.R4, ↓bnd M.R5, ↓bnd M.R6, ↓bnd M.R7, ↓bnd M.R15, ↓bnd M.R17, ↓bnd M.R19, ↓bnd M.R20, ↓bnd M.R22, ↓bnd M.R24, ↓bnd M.R26, ↓bnd M.R27, ↓bnd M.R28, ↓bnd M.R29, ↓bnd M.R30, ↓bnd M.R37, ↓bnd M.R38, ↓bnd M.R39, M.K53, M.K54, M.K55, M.K56, M.K57, M.K58, M.K59, M.K60, M.K61, M.K62, M.K63, M.K64, M.K65, M.K66, M.K67, M.K68, M.K69, M.K70, M.K71, M.K72, M.N53, M.N54, M.N55, M.N56, M.N57, M.N58, M.N59, M.N60, M.N61, M.N62, M.N63, M.N64, M.N65, M.N66, M.N67, M.N68, M.N69, M.N70, M.N71, M.N72, ↓reduceIte, ↓Option.bind_some, if_true, if_false, true_and, and_true, and_self, true_or, or_true, false_or, or_false, not_true_eq_false, not_false_eq_true, Option.bind_some, somene, false_and, and_false, reduceCtorEq, Nat.reduceEqDiff, l8, l0, l1, lm1, q_in, q_cl, s8, q_lt_f, q_nan, e82, nI_add]
    unfold frG frC
    by_cases h0 : an s st = 0
    · simp only [h0, decide_true, Bool.true_and, ↓reduceIte, ↓Option.bind_some, if_true, if_false, true_and, and_true, and_self, true_or, or_true, false_or, or_false, not_true_eq_false, not_false_eq_true, Option.bind_some, somene, false_and, and_false, reduceCtorEq, Nat.reduceEqDiff]
      cases o with
      | none =>
        have e1 : oI none = nM := rfl
        simp only [e1, q_mlt0, if_true, Bool.and_true]
      | some b =>
        have hb4 := ho b rfl
        have e1 : oI (some b) = nI b := rfl
        have p1 := pc_le s
        have p2 := pc_le b
        simp (disch := omega) only [e1, q_lt_f, if_false, M_bits_ok (show s < 4096 by omega), M_bits_ok hb4, Option.bind_some, q_lt]
        by_cases hpc : pc s < pc b
        · rw [if_pos hpc]
          rw [e1] at e82
          rw [e82]
          simp only [hpc, decide_true, Bool.and_true]
        · rw [if_neg hpc]
          simp only [hpc, decide_false, Bool.and_false, Bool.false_eq_true, if_false]
          rfl
    · have n0 : (nI (an s st) = nI 0) = False := q_eq_f h0 (by omega) (by omega)
      simp only [h0, n0, decide_false, Bool.false_and, Bool.false_eq_true, ↓reduceIte, ↓Option.bind_some, if_true, if_false, true_and, and_true, and_self, true_or, or_true, false_or, or_false, not_true_eq_false, not_false_eq_true, Option.bind_some, somene, false_and, and_false, reduceCtorEq, Nat.reduceEqDiff]
theorem q_fair (a0 : Int32) : sk_Ag (JJ L xs) L xs 52 (fun h => c_SR_fair 40 (some 20) a0 h) (fun h => c_M_fair 40 (some 52) a0 h) := by
  refine Ag_of (fun j h F E J r s => ?_) (fun j h F E st tu pl a D c hj J hE Q => ?_)
  · have C := J.2.1
    have M := J.2.2.1
    refine ⟨nM, ?_, ?_⟩
    · show c_SR_fair 40 (some 20) a0 h = _
      rw [e_SR_fair]
      simp only [C.k20, C.k21, C.k22, C.k23, C.k24, C.k25, C.k26, C.k27, C.k28, C.k29, C.k30, C.k31, C.k32, C.k43, C.k44, C.k45, C.k46, C.k47, C.k48, C.k49, C.k50, C.k51, C.n21, C.n22, C.n24, C.n25, C.n26, C.n27, C.n29, C.n30, C.n31, C.n43, C.n44, C.n45, C.n46, C.n47, C.n48, C.n51, C.r20_0, C.r20_2, C.r20_4, C.r20_5, C.r20_6, C.r20_7, C.r20_8, C.r23_5, C.r23_6, C.r23_7, C.r28_0, C.r28_1, C.r28_2, C.r32_3, C.r32_4, C.r32_5, C.r32_6, C.r32_7, C.r32_8, C.r49_0, C.r50_0, ↓bnd C.r20_0, ↓bnd C.r20_2, ↓bnd C.r20_4, ↓bnd C.r20_5, ↓bnd C.r20_6, ↓bnd C.r20_7, ↓bnd C.r20_8, ↓bnd C.r23_5, ↓bnd C.r23_6, ↓bnd C.r23_7, ↓bnd C.r28_0, ↓bnd C.r28_1, ↓bnd C.r28_2, ↓bnd C.r32_3, ↓bnd C.r32_4, ↓bnd C.r32_5, ↓bnd C.r32_6, ↓bnd C.r32_7, ↓bnd C.r32_8, ↓bnd C.r49_0, ↓bnd C.r50_0, ↓reduceIte, ↓Option.bind_some, if_true, if_false, true_and, and_true, and_self, true_or, or_true, false_or, or_false, not_true_eq_false, not_false_eq_true, Option.bind_some, somene, false_and, and_false, reduceCtorEq, Nat.reduceEqDiff, r, lm1, l1]
    · show c_M_fair 40 (some 52) a0 h = _
      rw [e_M_fair]
      simp only [M.K52, ↓reduceIte, ↓Option.bind_some, if_true, if_false, true_and, and_true, and_self, true_or, or_true, false_or, or_false, not_true_eq_false, not_false_eq_true, Option.bind_some, somene, false_and, and_false, reduceCtorEq, Nat.reduceEqDiff, M_isAlley_0 M (s 0 (by omega)), lm1, l1, l0]
  · obtain ⟨C, M, hF, w, O, r, i, hst, T, S, s8, X⟩ := id Q
    have hst4 := p12 w.1 hst
    have e10 : (nI 1 = nI 0) = False := eq_false (by decide)
    obtain ⟨b2, g1, g2, g3⟩ := M_in_n (d := 40) (h := h) 0 1 (by decide) (by decide) (l2 := 0) (h2 := 1) (by decide) (by decide) a0
    cases b2
    · refine ⟨h, h, nM, ?_, Cq.refl h, T, ?_, Mq.refl h, X⟩
      · show c_SR_fair 40 (some 20) a0 h = _
        rw [e_SR_fair]
        rcases i_cases a0 with hx | ⟨p, hp, hx⟩
        · simp only [C.k20, C.k21, C.k22, C.k23, C.k24, C.k25, C.k26, C.k27, C.k28, C.k29, C.k30, C.k31, C.k32, C.k43, C.k44, C.k45, C.k46, C.k47, C.k48, C.k49, C.k50, C.k51, C.n21, C.n22, C.n24, C.n25, C.n26, C.n27, C.n29, C.n30, C.n31, C.n43, C.n44, C.n45, C.n46, C.n47, C.n48, C.n51, C.r20_0, C.r20_2, C.r20_4, C.r20_5, C.r20_6, C.r20_7, C.r20_8, C.r23_5, C.r23_6, C.r23_7, C.r28_0, C.r28_1, C.r28_2, C.r32_3, C.r32_4, C.r32_5, C.r32_6, C.r32_7, C.r32_8, C.r49_0, C.r50_0, ↓bnd C.r20_0, ↓bnd C.r20_2, ↓bnd C.r20_4, ↓bnd C.r20_5, ↓bnd C.r20_6, ↓bnd C.r20_7, ↓bnd C.r20_8, ↓bnd C.r23_5, ↓bnd C.r23_6, ↓bnd C.r23_7, ↓bnd C.r28_0, ↓bnd C.r28_1, ↓bnd C.r28_2, ↓bnd C.r32_3, ↓bnd C.r32_4, ↓bnd C.r32_5, ↓bnd C.r32_6, ↓bnd C.r32_7, ↓bnd C.r32_8, ↓bnd C.r49_0, ↓bnd C.r50_0, ↓reduceIte, ↓Option.bind_some, if_true, if_false, true_and, and_true, and_self, true_or, or_true, false_or, or_false, not_true_eq_false, not_false_eq_true, Option.bind_some, somene, false_and, and_false, reduceCtorEq, Nat.reduceEqDiff, r, l0, l1, lm1, hx]
        · subst hx
          have hp1 : 1 < p := by
            rcases Nat.lt_or_ge 1 p with q | q
            · exact q
            · exact absurd rfl (g3 rfl p (by omega) q)
          simp (disch := omega) only [C.k20, C.k21, C.k22, C.k23, C.k24, C.k25, C.k26, C.k27, C.k28, C.k29, C.k30, C.k31, C.k32, C.k43, C.k44, C.k45, C.k46, C.k47, C.k48, C.k49, C.k50, C.k51, C.n21, C.n22, C.n24, C.n25, C.n26, C.n27, C.n29, C.n30, C.n31, C.n43, C.n44, C.n45, C.n46, C.n47, C.n48, C.n51, C.r20_0, C.r20_2, C.r20_4, C.r20_5, C.r20_6, C.r20_7, C.r20_8, C.r23_5, C.r23_6, C.r23_7, C.r28_0, C.r28_1, C.r28_2, C.r32_3, C.r32_4, C.r32_5, C.r32_6, C.r32_7, C.r32_8, C.r49_0, C.r50_0, ↓bnd C.r20_0, ↓bnd C.r20_2, ↓bnd C.r20_4, ↓bnd C.r20_5, ↓bnd C.r20_6, ↓bnd C.r20_7, ↓bnd C.r20_8, ↓bnd C.r23_5, ↓bnd C.r23_6, ↓bnd C.r23_7, ↓bnd C.r28_0, ↓bnd C.r28_1, ↓bnd C.r28_2, ↓bnd C.r32_3, ↓bnd C.r32_4, ↓bnd C.r32_5, ↓bnd C.r32_6, ↓bnd C.r32_7, ↓bnd C.r32_8, ↓bnd C.r49_0, ↓bnd C.r50_0, ↓reduceIte, ↓Option.bind_some, if_true, if_false, true_and, and_true, and_self, true_or, or_true, false_or, or_false, not_true_eq_false, not_false_eq_true, Option.bind_some, somene, false_and, and_false, reduceCtorEq, Nat.reduceEqDiff, r, l0, l1, lm1, q_lt_f, q_le_f]
      · show c_M_fair 40 (some 52) a0 h = _
        rw [e_M_fair]
        simp only [M.K52, ↓reduceIte, ↓Option.bind_some, if_true, if_false, true_and, and_true, and_self, true_or, or_true, false_or, or_false, not_true_eq_false, not_false_eq_true, Option.bind_some, somene, false_and, and_false, reduceCtorEq, Nat.reduceEqDiff, M_isAlley_1 M S.2.1, l0, l1, lm1, e10, g1, q_bi0]
    · obtain ⟨k, h1', h4', rfl⟩ := g2 rfl
      obtain ⟨h1, e, q, t, f⟩ := Ta_canWin_ok (d := 40) C w hF O T.1 hst
      have q' := q.cq C
      have C1 := C.cq q'
      have i1 : hI h1 23 1 = nI st := by rw [q.I (by decide)]; exact i
      obtain ⟨⟨M1, S1, s81⟩, X1⟩ := Q.m q'
      obtain ⟨h2, e2, Q2, X2, e3⟩ := M_isWonAt_ok 40 M1 w S1 X1 hst
      have I2 : MI D st h2 := ⟨M1.mq Q2, by rw [Q2.Iw (by decide) (by decide)]; exact S1, by rw [Q2.Iw (by decide) (by decide)]; exact s81⟩
      have cl := SR_fair_in (d := 40) C1 w t.2.1 f i1 hst (wD D st) st 1 none (by omega) (fun b hb => by cases hb)
      have ml := M_fair_in (d := 40) I2 w e3 hst (wD D st) (nI k) st 1 none (by omega) (fun b hb => by cases hb)
      have e1 : oI none = nM := rfl
      rw [e1] at cl ml
      have hlt := frF_lt (D := D) (st := st) (bf := wD D st) st 1 none (by omega) (fun b hb => by cases hb)
      have cs : c_SR_fairSet 40 (some 20) h = some (h1, oI (frF D st (wD D st) st 1 none)) := by
        rw [e_SR_fairSet]
        simp only [C.k20, C.k21, C.k22, C.k23, C.k24, C.k25, C.k26, C.k27, C.k28, C.k29, C.k30, C.k31, C.k32, C.k43, C.k44, C.k45, C.k46, C.k47, C.k48, C.k49, C.k50, C.k51, C.n21, C.n22, C.n24, C.n25, C.n26, C.n27, C.n29, C.n30, C.n31, C.n43, C.n44, C.n45, C.n46, C.n47, C.n48, C.n51, C.r20_0, C.r20_2, C.r20_4, C.r20_5, C.r20_6, C.r20_7, C.r20_8, C.r23_5, C.r23_6, C.r23_7, C.r28_0, C.r28_1, C.r28_2, C.r32_3, C.r32_4, C.r32_5, C.r32_6, C.r32_7, C.r32_8, C.r49_0, C.r50_0, ↓bnd C.r20_0, ↓bnd C.r20_2, ↓bnd C.r20_4, ↓bnd C.r20_5, ↓bnd C.r20_6, ↓bnd C.r20_7, ↓bnd C.r20_8, ↓bnd C.r23_5, ↓bnd C.r23_6, ↓bnd C.r23_7, ↓bnd C.r28_0, ↓bnd C.r28_1, ↓bnd C.r28_2, ↓bnd C.r32_3, ↓bnd C.r32_4, ↓bnd C.r32_5, ↓bnd C.r32_6, ↓bnd C.r32_7, ↓bnd C.r32_8, ↓bnd C.r49_0, ↓bnd C.r50_0, ↓reduceIte, ↓Option.bind_some, if_true, if_false, true_and, and_true, and_self, true_or, or_true, false_or, or_false, not_true_eq_false, not_false_eq_true, Option.bind_some, somene, false_and, and_false, reduceCtorEq, Nat.reduceEqDiff, i, e, l1, lm1, cl]
      have mm : c_M_fair 40 (some 52) (nI k) h1 = k_M_fair_36 40 (some 52) (nI k) (bi (wD D st)) nM (nI 1) h2 := by
        obtain ⟨b2, g1, g2, g3⟩ := M_in_n (d := 40) (h := h1) 0 1 (by decide) (by decide) (l2 := 0) (h2 := 1) (by decide) (by decide) (nI k)
        have hb2 : b2 = true := by
          cases b2
          · exact absurd rfl (g3 rfl k h1' h4')
          · rfl
        subst hb2
        rw [e_M_fair]
        simp (disch := omega) only [M1.K52, M1.R20, M1.K62, M1.N62, ↓reduceIte, ↓Option.bind_some, if_true, if_false, true_and, and_true, and_self, true_or, or_true, false_or, or_false, not_true_eq_false, not_false_eq_true, Option.bind_some, somene, false_and, and_false, reduceCtorEq, Nat.reduceEqDiff, M_isAlley_1 M1 S1.2.1, l0, l1, lm1, l8, e10, g1, q_bi0, Bool.true_eq_false, q_in, q_cl, s81, e2]
      cases hf : frF D st (wD D st) st 1 none with
      | none =>
        rw [hf] at cs ml
        refine ⟨h1, h2, nM2, ?_, q', T.wq q t, ?_, Q2, X2⟩
        · show c_SR_fair 40 (some 20) (nI k) h = _
          rw [e_SR_fair]
          simp (disch := omega) only [C.k20, C.k21, C.k22, C.k23, C.k24, C.k25, C.k26, C.k27, C.k28, C.k29, C.k30, C.k31, C.k32, C.k43, C.k44, C.k45, C.k46, C.k47, C.k48, C.k49, C.k50, C.k51, C.n21, C.n22, C.n24, C.n25, C.n26, C.n27, C.n29, C.n30, C.n31, C.n43, C.n44, C.n45, C.n46, C.n47, C.n48, C.n51, C.r20_0, C.r20_2, C.r20_4, C.r20_5, C.r20_6, C.r20_7, C.r20_8, C.r23_5, C.r23_6, C.r23_7, C.r28_0, C.r28_1, C.r28_2, C.r32_3, C.r32_4, C.r32_5, C.r32_6, C.r32_7, C.r32_8, C.r49_0, C.r50_0, ↓bnd C.r20_0, ↓bnd C.r20_2, ↓bnd C.r20_4, ↓bnd C.r20_5, ↓bnd C.r20_6, ↓bnd C.r20_7, ↓bnd C.r20_8, ↓bnd C.r23_5, ↓bnd C.r23_6, ↓bnd C.r23_7, ↓bnd C.r28_0, ↓bnd C.r28_1, ↓bnd C.r28_2, ↓bnd C.r32_3, ↓bnd C.r32_4, ↓bnd C.r32_5, ↓bnd C.r32_6, ↓bnd C.r32_7, ↓bnd C.r32_8, ↓bnd C.r49_0, ↓bnd C.r50_0, ↓reduceIte, ↓Option.bind_some, if_true, if_false, true_and, and_true, and_self, true_or, or_true, false_or, or_false, not_true_eq_false, not_false_eq_true, Option.bind_some, somene, false_and, and_false, reduceCtorEq, Nat.reduceEqDiff, r, cs, e1, l0, l1, l2, lm1, lm2, q_lt_f, q_le_t]
        · show c_M_fair 40 (some 52) (nI k) h1 = _
          rw [mm, ml]
      | some b =>
        rw [hf] at cs ml
        have hb := hlt b hf
        have e5 : oI (some b) = nI b := rfl
        refine ⟨h1, h2, if nI k = nI 0 then nI (pc b) else nI b, ?_, q', T.wq q t, ?_, Q2, X2⟩
        · show c_SR_fair 40 (some 20) (nI k) h = _
          rw [e_SR_fair]
          simp (disch := omega) only [C.k20, C.k21, C.k22, C.k23, C.k24, C.k25, C.k26, C.k27, C.k28, C.k29, C.k30, C.k31, C.k32, C.k43, C.k44, C.k45, C.k46, C.k47, C.k48, C.k49, C.k50, C.k51, C.n21, C.n22, C.n24, C.n25, C.n26, C.n27, C.n29, C.n30, C.n31, C.n43, C.n44, C.n45, C.n46, C.n47, C.n48, C.n51, C.r20_0, C.r20_2, C.r20_4, C.r20_5, C.r20_6, C.r20_7, C.r20_8, C.r23_5, C.r23_6, C.r23_7, C.r28_0, C.r28_1, C.r28_2, C.r32_3, C.r32_4, C.r32_5, C.r32_6, C.r32_7, C.r32_8, C.r49_0, C.r50_0, ↓bnd C.r20_0, ↓bnd C.r20_2, ↓bnd C.r20_4, ↓bnd C.r20_5, ↓bnd C.r20_6, ↓bnd C.r20_7, ↓bnd C.r20_8, ↓bnd C.r23_5, ↓bnd C.r23_6, ↓bnd C.r23_7, ↓bnd C.r28_0, ↓bnd C.r28_1, ↓bnd C.r28_2, ↓bnd C.r32_3, ↓bnd C.r32_4, ↓bnd C.r32_5, ↓bnd C.r32_6, ↓bnd C.r32_7, ↓bnd C.r32_8, ↓bnd C.r49_0, ↓bnd C.r50_0, ↓reduceIte, ↓Option.bind_some, if_true, if_false, true_and, and_true, and_self, true_or, or_true, false_or, or_false, not_true_eq_false, not_false_eq_true, Option.bind_some, somene, false_and, and_false, reduceCtorEq, Nat.reduceEqDiff, r, cs, e5, l0, l1, l2, lm1, lm2, q_lt_f, q_le_t, q_m1, JI_bc_ok hb]
          by_cases hk : nI k = nI 0
          · rw [if_neg (by simp [hk]), if_pos hk]
          · rw [if_pos hk, if_neg hk]
        · show c_M_fair 40 (some 52) (nI k) h1 = _
          rw [mm, ml]
          by_cases hk : nI k = nI 0
          · simp only [hk, if_true]
          · simp only [hk, if_false]
/-! wins: the strokes that win -/
def wnL (D : DD) (m : Nat) : Nat → Nat → Bool := fun p k => cB (dA D) m p k (dH D) (dE D) && !wD D (aT (dA D) m (p, k))
def wnV (x1 : Nat) (l : List (Nat × Nat)) : Int32 := if x1 = 0 then nI l.length else match l with
  | [] => nM2
  | y :: _ => if x1 = 1 then nI y.1 else nI y.2
theorem SR_wins_in {x1 : Nat} (hx1 : x1 ≤ 2) (w : dW D) (hF : Far F) (hst : st < 2 ^ aN (dA D)) {arr N : Nat} (hN2 : N < 2 ^ 31) : ∀ (l : List (Nat × Nat)) (i n : Nat) (fi : Option (Nat × Nat × Nat)) (h : sk_H), n + l.length ≤ 100 → (n = 0 ↔ fi = none) → QC F h a D c st → hK h arr = 108 → hN h arr = N → AS F h (dA D) arr i l → (∀ x ∈ l, x ∈ sH (dA D) (dH D)) → (∀ s p k, fi = some (s, p, k) → F s ∧ SO h (dA D) s (p, k)) → ∃ h', k_SR_wins_45 d (some 20) (nI x1) (nI n) (fi.map (fun q => q.1)) (some arr) (nI N) (nI i) h = some (h', if x1 = 0 then nI (n + (l.filter (fun x => wnL D st x.1 x.2)).length) else match fi with
      | some (_, p, k) => if x1 = 1 then nI p else nI k
      | none => wnV x1 (l.filter (fun x => wnL D st x.1 x.2))) ∧ Wq h h' ∧ TC h' D a
  | [], i, n, fi, h, hn, hfi, Q, hk, hN, S, hl, hs => by
    obtain ⟨C, M, hF, w, O, r, i1, hst, T, S8, s8, X⟩ := id Q
    have S : Jvm.Pilot.CSkittleRowLaw_law_r7134_573cdd.hN h arr = i := S
    have e : N = i := hN.symm.trans S
    subst e
    refine ⟨h, ?_, Wq.refl h, T.1⟩
    rw [e_SR_wins_45]
    by_cases h0 : x1 = 0
    · subst h0
      simp (disch := omega) only [↓reduceIte, ↓Option.bind_some, if_true, if_false, true_and, and_true, and_self, true_or, or_true, false_or, or_false, not_true_eq_false, not_false_eq_true, Option.bind_some, somene, false_and, and_false, reduceCtorEq, Nat.reduceEqDiff, q_le_t, l0]
      rfl
    · rw [if_neg h0]
      cases fi with
      | none =>
        simp (disch := omega) only [↓reduceIte, ↓Option.bind_some, if_true, if_false, true_and, and_true, and_self, true_or, or_true, false_or, or_false, not_true_eq_false, not_false_eq_true, Option.bind_some, somene, false_and, and_false, reduceCtorEq, Nat.reduceEqDiff, q_le_t, l0, l2, lm2, q_eq_f, Option.map_none]
        unfold wnV
        rw [if_neg h0]
        rfl
      | some q =>
        obtain ⟨s, p, k⟩ := q
        obtain ⟨-, o1, o2, o3, -⟩ := hs s p k rfl
        by_cases h1 : x1 = 1
        · subst h1
          simp (disch := omega) only [↓reduceIte, ↓Option.bind_some, if_true, if_false, true_and, and_true, and_self, true_or, or_true, false_or, or_false, not_true_eq_false, not_false_eq_true, Option.bind_some, somene, false_and, and_false, reduceCtorEq, Nat.reduceEqDiff, q_le_t, l0, l1, q_eq_f, Option.map_some, o1, o2]
        · simp (disch := omega) only [↓reduceIte, ↓Option.bind_some, if_true, if_false, true_and, and_true, and_self, true_or, or_true, false_or, or_false, not_true_eq_false, not_false_eq_true, Option.bind_some, somene, false_and, and_false, reduceCtorEq, Nat.reduceEqDiff, q_le_t, l0, l1, q_eq_f, Option.map_some, o1, o3]
          rw [if_neg h1]
  | x :: l, i, n, fi, h, hn, hfi, Q, hk, hN, ⟨⟨s, rs, fs, o⟩, S⟩, hl, hs => by
    obtain ⟨C, M, hF, w, O, r, i1, hst, T, S8, s8, X⟩ := id Q
    have hst4 := p12 w.1 hst
    have hlen := AS_len l (i + 1) S
    obtain ⟨y0, y1, y2, y3, y4⟩ := sH_mem (hl x (List.mem_cons_self ..))
    have hl' := fun y hy => hl y (List.mem_cons_of_mem _ hy)
    obtain ⟨o1, oa, ob, _⟩ := id o
    have al := Al_allows_ok d O w o y4 hst4
    have ka := O.k
    have hws : wnL D st x.1 x.2 = (cO (dA D) st (dE D) x && !wD D (aT (dA D) st x)) := by
      unfold wnL
      rw [cB_cO, y0, decide_eq_true y1]
      rfl
    rw [List.length_cons] at hn
    cases hc : cO (dA D) st (dE D) x
    · rw [hc, Bool.false_and] at hws
      obtain ⟨h', e1, e2, e3⟩ := SR_wins_in hx1 w hF hst hN2 l (i + 1) n fi h (by omega) hfi Q hk hN S hl' hs
      refine ⟨h', ?_, e2, e3⟩
      rw [List.filter_cons_of_neg (by simp [hws]), ← e1, e_SR_wins_45]
      simp (disch := omega) only [C.k20, C.k21, C.k22, C.k23, C.k24, C.k25, C.k26, C.k27, C.k28, C.k29, C.k30, C.k31, C.k32, C.k43, C.k44, C.k45, C.k46, C.k47, C.k48, C.k49, C.k50, C.k51, C.n21, C.n22, C.n24, C.n25, C.n26, C.n27, C.n29, C.n30, C.n31, C.n43, C.n44, C.n45, C.n46, C.n47, C.n48, C.n51, C.r20_0, C.r20_2, C.r20_4, C.r20_5, C.r20_6, C.r20_7, C.r20_8, C.r23_5, C.r23_6, C.r23_7, C.r28_0, C.r28_1, C.r28_2, C.r32_3, C.r32_4, C.r32_5, C.r32_6, C.r32_7, C.r32_8, C.r49_0, C.r50_0, ↓bnd C.r20_0, ↓bnd C.r20_2, ↓bnd C.r20_4, ↓bnd C.r20_5, ↓bnd C.r20_6, ↓bnd C.r20_7, ↓bnd C.r20_8, ↓bnd C.r23_5, ↓bnd C.r23_6, ↓bnd C.r23_7, ↓bnd C.r28_0, ↓bnd C.r28_1, ↓bnd C.r28_2, ↓bnd C.r32_3, ↓bnd C.r32_4, ↓bnd C.r32_5, ↓bnd C.r32_6, ↓bnd C.r32_7, ↓bnd C.r32_8, ↓bnd C.r49_0, ↓bnd C.r50_0, ↓reduceIte, ↓Option.bind_some, if_true, if_false, true_and, and_true, and_self, true_or, or_true, false_or, or_false, not_true_eq_false, not_false_eq_true, Option.bind_some, somene, false_and, and_false, reduceCtorEq, Nat.reduceEqDiff, hk, hN, ar108, q_le_f, q_in, q_cl, r, i1, rs, o1, ka, al, hc, l0, l1, q_bi0, nI_add]
    · rw [hc, Bool.true_and] at hws
      obtain ⟨h1, f1, f2, f3, f4⟩ := Ta_winsBy_ok (d := d) C w hF O T.1 hst o fs
      have q' := f2.cq C
      have Q1 : QC F h1 a D c st := ⟨C.cq q', M.cq q', hF, w, O.cq hF q', by rw [f2.2.1]; exact r, by rw [f2.I (by decide)]; exact i1, hst, T.wq f2 f3, by rw [q'.I52 (by decide)]; exact S8, by rw [q'.I52 (by decide)]; exact s8, X.cq q'⟩
      have hF' : ∀ c, F c → F c ∧ Same h h1 c := fun c hc => ⟨hc, q'.same (hF c hc)⟩
      have S1 := AS.same (G := F) hF' (h' := h1) (arr := arr) (by rw [q'.eN]) (by rw [f2.2.1]) l (i + 1) S
      have hk1 : hK h1 arr = 108 := by rw [q'.eK]; exact hk
      have hN1 : Jvm.Pilot.CSkittleRowLaw_law_r7134_573cdd.hN h1 arr = N := by rw [q'.eN]; exact hN
      have hs1 : ∀ s p k, fi = some (s, p, k) → F s ∧ SO h1 (dA D) s (p, k) := fun s p k hq => ⟨(hs s p k hq).1, (hs s p k hq).2.same (hF' s (hs s p k hq).1).2⟩
      cases hw : wD D (aT (dA D) st x)
      · rw [hw] at hws f1
        have hws : wnL D st x.1 x.2 = true := hws
        obtain ⟨h', e1, e2, e3⟩ := SR_wins_in hx1 w hF hst hN2 l (i + 1) (n + 1) (fi.or (some (s, x))) h1 (by omega) (by cases fi <;> simp) Q1 hk1 hN1 S1 hl' (fun s' p k hq => by
            cases fi with
            | none =>
              have hq : some (s, x) = some (s', p, k) := hq
              cases hq
              exact ⟨fs, o.same (hF' _ fs).2⟩
            | some q => exact hs1 s' p k hq)
        refine ⟨h', ?_, f2.trans e2, e3⟩
        rw [List.filter_cons_of_pos (p := fun x : Nat × Nat => wnL D st x.1 x.2) (a := x) hws]
        have e4 : k_SR_wins_45 d (some 20) (nI x1) (nI n) (fi.map (fun q => q.1)) (some arr) (nI N) (nI i) h = k_SR_wins_45 d (some 20) (nI x1) (nI (n + 1)) ((fi.or (some (s, x))).map (fun q => q.1)) (some arr) (nI N) (nI (i + 1)) h1 := by
          rw [e_SR_wins_45]
          cases fi with
          | none =>
            have eo : (none : Option (Nat × Nat × Nat)).or (some (s, x)) = some (s, x) := rfl
            simp (disch := omega) only [C.k20, C.k21, C.k22, C.k23, C.k24, C.k25, C.k26, C.k27, C.k28, C.k29, C.k30, C.k31, C.k32, C.k43, C.k44, C.k45, C.k46, C.k47, C.k48, C.k49, C.k50, C.k51, C.n21, C.n22, C.n24, C.n25, C.n26, C.n27, C.n29, C.n30, C.n31, C.n43, C.n44, C.n45, C.n46, C.n47, C.n48, C.n51, C.r20_0, C.r20_2, C.r20_4, C.r20_5, C.r20_6, C.r20_7, C.r20_8, C.r23_5, C.r23_6, C.r23_7, C.r28_0, C.r28_1, C.r28_2, C.r32_3, C.r32_4, C.r32_5, C.r32_6, C.r32_7, C.r32_8, C.r49_0, C.r50_0, ↓bnd C.r20_0, ↓bnd C.r20_2, ↓bnd C.r20_4, ↓bnd C.r20_5, ↓bnd C.r20_6, ↓bnd C.r20_7, ↓bnd C.r20_8, ↓bnd C.r23_5, ↓bnd C.r23_6, ↓bnd C.r23_7, ↓bnd C.r28_0, ↓bnd C.r28_1, ↓bnd C.r28_2, ↓bnd C.r32_3, ↓bnd C.r32_4, ↓bnd C.r32_5, ↓bnd C.r32_6, ↓bnd C.r32_7, ↓bnd C.r32_8, ↓bnd C.r49_0, ↓bnd C.r50_0, ↓reduceIte, ↓Option.bind_some, if_true, if_false, true_and, and_true, and_self, true_or, or_true, false_or, or_false, not_true_eq_false, not_false_eq_true, Option.bind_some, somene, false_and, and_false, reduceCtorEq, Nat.reduceEqDiff, eo, hk, hN, ar108, q_le_f, q_in, q_cl, r, i1, rs, o1, ka, al, hc, f1, l0, l1, q_bi0, nI_add, Bool.true_eq_false, Bool.not_false, Option.map_none, Option.map_some]
          | some q =>
            have eo : (some q).or (some (s, x)) = some q := rfl
            simp (disch := omega) only [C.k20, C.k21, C.k22, C.k23, C.k24, C.k25, C.k26, C.k27, C.k28, C.k29, C.k30, C.k31, C.k32, C.k43, C.k44, C.k45, C.k46, C.k47, C.k48, C.k49, C.k50, C.k51, C.n21, C.n22, C.n24, C.n25, C.n26, C.n27, C.n29, C.n30, C.n31, C.n43, C.n44, C.n45, C.n46, C.n47, C.n48, C.n51, C.r20_0, C.r20_2, C.r20_4, C.r20_5, C.r20_6, C.r20_7, C.r20_8, C.r23_5, C.r23_6, C.r23_7, C.r28_0, C.r28_1, C.r28_2, C.r32_3, C.r32_4, C.r32_5, C.r32_6, C.r32_7, C.r32_8, C.r49_0, C.r50_0, ↓bnd C.r20_0, ↓bnd C.r20_2, ↓bnd C.r20_4, ↓bnd C.r20_5, ↓bnd C.r20_6, ↓bnd C.r20_7, ↓bnd C.r20_8, ↓bnd C.r23_5, ↓bnd C.r23_6, ↓bnd C.r23_7, ↓bnd C.r28_0, ↓bnd C.r28_1, ↓bnd C.r28_2, ↓bnd C.r32_3, ↓bnd C.r32_4, ↓bnd C.r32_5, ↓bnd C.r32_6, ↓bnd C.r32_7, ↓bnd C.r32_8, ↓bnd C.r49_0, ↓bnd C.r50_0, ↓reduceIte, ↓Option.bind_some, if_true, if_false, true_and, and_true, and_self, true_or, or_true, false_or, or_false, not_true_eq_false, not_false_eq_true, Option.bind_some, somene, false_and, and_false, reduceCtorEq, Nat.reduceEqDiff, eo, hk, hN, ar108, q_le_f, q_in, q_cl, r, i1, rs, o1, ka, al, hc, f1, l0, l1, q_bi0, nI_add, Bool.true_eq_false, Bool.not_false, Option.map_some]
        rw [e4, e1]
        by_cases h0 : x1 = 0
        · rw [if_pos h0, if_pos h0, List.length_cons]
          congr 3
          omega
        · rw [if_neg h0, if_neg h0]
          cases fi with
          | none =>
            unfold wnV
            simp only [h0, if_false]
            rfl
          | some q => rfl
      · rw [hw] at hws f1
        obtain ⟨h', e1, e2, e3⟩ := SR_wins_in hx1 w hF hst hN2 l (i + 1) n fi h1 (by omega) hfi Q1 hk1 hN1 S1 hl' hs1
        refine ⟨h', ?_, f2.trans e2, e3⟩
        rw [List.filter_cons_of_neg (by simp [hws]), ← e1, e_SR_wins_45]
        simp (disch := omega) only [C.k20, C.k21, C.k22, C.k23, C.k24, C.k25, C.k26, C.k27, C.k28, C.k29, C.k30, C.k31, C.k32, C.k43, C.k44, C.k45, C.k46, C.k47, C.k48, C.k49, C.k50, C.k51, C.n21, C.n22, C.n24, C.n25, C.n26, C.n27, C.n29, C.n30, C.n31, C.n43, C.n44, C.n45, C.n46, C.n47, C.n48, C.n51, C.r20_0, C.r20_2, C.r20_4, C.r20_5, C.r20_6, C.r20_7, C.r20_8, C.r23_5, C.r23_6, C.r23_7, C.r28_0, C.r28_1, C.r28_2, C.r32_3, C.r32_4, C.r32_5, C.r32_6, C.r32_7, C.r32_8, C.r49_0, C.r50_0, ↓bnd C.r20_0, ↓bnd C.r20_2, ↓bnd C.r20_4, ↓bnd C.r20_5, ↓bnd C.r20_6, ↓bnd C.r20_7, ↓bnd C.r20_8, ↓bnd C.r23_5, ↓bnd C.r23_6, ↓bnd C.r23_7, ↓bnd C.r28_0, ↓bnd C.r28_1, ↓bnd C.r28_2, ↓bnd C.r32_3, ↓bnd C.r32_4, ↓bnd C.r32_5, ↓bnd C.r32_6, ↓bnd C.r32_7, ↓bnd C.r32_8, ↓bnd C.r49_0, ↓bnd C.r50_0, ↓reduceIte, ↓Option.bind_some, if_true, if_false, true_and, and_true, and_self, true_or, or_true, false_or, or_false, not_true_eq_false, not_false_eq_true, Option.bind_some, somene, false_and, and_false, reduceCtorEq, Nat.reduceEqDiff, hk, hN, ar108, q_le_f, q_in, q_cl, r, i1, rs, o1, ka, al, hc, f1, l0, l1, q_bi0, nI_add, Bool.true_eq_false, Bool.not_true]
/-- the reference, from the last place down -/
def hdI (l : List (Nat × Nat)) (f : Nat × Nat → Nat) : Int32 := match l with
  | [] => nM2
  | y :: _ => nI (f y)
theorem M_wins_k {x1 : Int32} (w : dW D) (hst : st < 2 ^ aN (dA D)) (hp : p < aN (dA D)) {v : Int32} (ih : ∀ h, MI D st h → MWon (dA D) h → ∃ h', k_M_wins_40 d (some 52) x1 (nI (rA (wnL D st) (aN (dA D)) p 1).length) (hdI (rA (wnL D st) (aN (dA D)) p 1) (fun y => y.1)) (hdI (rA (wnL D st) (aN (dA D)) p 1) (fun y => y.2)) (nI p + nM) h = some (h', v) ∧ Mq h h' ∧ MWon (dA D) h') : ∀ (k : Nat) (h : sk_H), k ≤ 4 → MI D st h → MWon (dA D) h → ∃ h', k_M_wins_48 d (some 52) x1 (nI (rA (wnL D st) (aN (dA D)) p (k + 1)).length) (hdI (rA (wnL D st) (aN (dA D)) p (k + 1)) (fun y => y.1)) (hdI (rA (wnL D st) (aN (dA D)) p (k + 1)) (fun y => y.2)) (nI p) (nI k) h = some (h', v) ∧ Mq h h' ∧ MWon (dA D) h'
  | 0, h, _, I, X => by
    obtain ⟨h', e1, e2⟩ := ih h I X
    refine ⟨h', ?_, e2⟩
    rw [← e1, e_M_wins_48]
    simp (disch := omega) only [q_le_t, l0, l1, lm1, if_true]
  | k + 1, h, hk, I, X => by
    obtain ⟨M, S, s8⟩ := id I
    obtain ⟨h1, e1, e2, e3⟩ := M_winsBy_ok (d := d) I w X hst hp (k := k + 1) (by omega) hk
    have I1 : MI D st h1 := ⟨M.mq e2, by rw [e2.Iw (by decide) (by decide)]; exact S, by rw [e2.Iw (by decide) (by decide)]; exact s8⟩
    obtain ⟨h', f1, f2, f3⟩ := M_wins_k w hst hp ih k h1 (by omega) I1 e3
    refine ⟨h', ?_, e2.trans f2, f3⟩
    rw [← f1, rA_s (wnL D st) hp (show 1 ≤ k + 1 by omega) hk, e_M_wins_48]
    have e5 : nI (k + 1) + nM = nI k := pk_m1 k
    have e6 : (cB (dA D) st p (k + 1) (dH D) (dE D) && !wD D (aT (dA D) st (p, k + 1))) = wnL D st p (k + 1) := rfl
    rw [e6] at e1
    simp (disch := omega) only [M.K52, M.R0, M.R3, M.R4, M.R5, M.R6, M.R7, M.R15, M.R17, M.R19, M.R20, M.R22, M.R24, M.R26, M.R27, M.R28, M.R29, M.R30, M.R37, M.R38, M.R39, ↓bnd M.R0, ↓bnd M.R3, ↓bnd M.R4, ↓bnd M.R5, ↓bnd M.R6, ↓bnd M.R7, ↓bnd M.R15, ↓bnd M.R17, ↓bnd M.R19, ↓bnd M.R20, ↓bnd M.R22, ↓bnd M.R24, ↓bnd M.R26, ↓bnd M.R27, ↓bnd M.R28, ↓bnd M.R29, ↓bnd M.R30, ↓bnd M.R37, ↓bnd M.R38, ↓bnd M.R39, M.K53, M.K54, M.K55, M.K56, M.K57, M.K58, M.K59, M.K60, M.K61, M.K62, M.K63, M.K64, M.K65, M.K66, M.K67, M.K68, M.K69, M.K70, M.K71, M.K72, M.N53, M.N54, M.N55, M.N56, M.N57, M.N58, M.N59, M.N60, M.N61, M.N62, M.N63, M.N64, M.N65, M.N66, M.N67, M.N68, M.N69, M.N70, M.N71, M.N72, ↓reduceIte, ↓Option.bind_some, if_true, if_false, true_and, and_true, and_self, true_or, or_true, false_or, or_false, not_true_eq_false, not_false_eq_true, Option.bind_some, somene, false_and, and_false, reduceCtorEq, Nat.reduceEqDiff, q_le_f, l0, l1, l8, lm1, q_in, q_cl, s8, e1, e5, q_bi0, nI_add]
    cases wnL D st p (k + 1)
    · simp only [↓reduceIte, ↓Option.bind_some, if_true, if_false, true_and, and_true, and_self, true_or, or_true, false_or, or_false, not_true_eq_false, not_false_eq_true, Option.bind_some, somene, false_and, and_false, reduceCtorEq, Nat.reduceEqDiff, Bool.false_eq_true]
    · simp only [↓reduceIte, ↓Option.bind_some, if_true, if_false, true_and, and_true, and_self, true_or, or_true, false_or, or_false, not_true_eq_false, not_false_eq_true, Option.bind_some, somene, false_and, and_false, reduceCtorEq, Nat.reduceEqDiff, Bool.true_eq_false, List.length_cons]
      rfl
theorem M_wins_p {x1 : Nat} (hx1 : x1 ≤ 2) (w : dW D) (hst : st < 2 ^ aN (dA D)) : ∀ (p : Nat) (h : sk_H), p ≤ aN (dA D) → MI D st h → MWon (dA D) h → ∃ h', k_M_wins_40 d (some 52) (nI x1) (nI (rA (wnL D st) (aN (dA D)) p 1).length) (hdI (rA (wnL D st) (aN (dA D)) p 1) (fun y => y.1)) (hdI (rA (wnL D st) (aN (dA D)) p 1) (fun y => y.2)) (nI p + nM) h = some (h', wnV x1 (rA (wnL D st) (aN (dA D)) 0 1)) ∧ Mq h h' ∧ MWon (dA D) h'
  | 0, h, _, I, X => by
    refine ⟨h, ?_, Mq.refl h, X⟩
    rw [e_M_wins_40]
    have e5 : nI 0 + nM = nM := by decide
    unfold wnV
    rcases (show x1 = 0 ∨ x1 = 1 ∨ x1 = 2 by omega) with rfl | rfl | rfl
    · simp (disch := omega) only [↓reduceIte, ↓Option.bind_some, if_true, if_false, true_and, and_true, and_self, true_or, or_true, false_or, or_false, not_true_eq_false, not_false_eq_true, Option.bind_some, somene, false_and, and_false, reduceCtorEq, Nat.reduceEqDiff, e5, l0, q_mlt0]
    · simp (disch := omega) only [↓reduceIte, ↓Option.bind_some, if_true, if_false, true_and, and_true, and_self, true_or, or_true, false_or, or_false, not_true_eq_false, not_false_eq_true, Option.bind_some, somene, false_and, and_false, reduceCtorEq, Nat.reduceEqDiff, e5, l0, l1, q_mlt0, q_eq_f]
      cases rA (wnL D st) (aN (dA D)) 0 1 <;> rfl
    · simp (disch := omega) only [↓reduceIte, ↓Option.bind_some, if_true, if_false, true_and, and_true, and_self, true_or, or_true, false_or, or_false, not_true_eq_false, not_false_eq_true, Option.bind_some, somene, false_and, and_false, reduceCtorEq, Nat.reduceEqDiff, e5, l0, l1, q_mlt0, q_eq_f]
      cases rA (wnL D st) (aN (dA D)) 0 1 <;> rfl
  | p + 1, h, hp, I, X => by
    have w1 := w.1.1
    obtain ⟨h', e1, e2⟩ := M_wins_k (d := d) (x1 := nI x1) (p := p) w hst (by omega) (fun h I X => M_wins_p hx1 w hst p h (by omega) I X) 4 h (by omega) I X
    refine ⟨h', ?_, e2⟩
    have e5 : nI (p + 1) + nM = nI p := pk_m1 p
    rw [← e1, e_M_wins_40, rA_5, e5]
    simp (disch := omega) only [q_lt_f, l0, l4, if_false]
theorem q_wins (a0 : Int32) : sk_Ag (JJ L xs) L xs 52 (fun h => c_SR_wins 40 (some 20) a0 h) (fun h => c_M_wins 40 (some 52) a0 h) := by
  refine Ag_of (fun j h F E J r s => ?_) (fun j h F E st tu pl a D c hj J hE Q => ?_)
  · have C := J.2.1
    have M := J.2.2.1
    refine ⟨nM, ?_, ?_⟩
    · show c_SR_wins 40 (some 20) a0 h = _
      rw [e_SR_wins]
      simp only [C.k20, C.k21, C.k22, C.k23, C.k24, C.k25, C.k26, C.k27, C.k28, C.k29, C.k30, C.k31, C.k32, C.k43, C.k44, C.k45, C.k46, C.k47, C.k48, C.k49, C.k50, C.k51, C.n21, C.n22, C.n24, C.n25, C.n26, C.n27, C.n29, C.n30, C.n31, C.n43, C.n44, C.n45, C.n46, C.n47, C.n48, C.n51, C.r20_0, C.r20_2, C.r20_4, C.r20_5, C.r20_6, C.r20_7, C.r20_8, C.r23_5, C.r23_6, C.r23_7, C.r28_0, C.r28_1, C.r28_2, C.r32_3, C.r32_4, C.r32_5, C.r32_6, C.r32_7, C.r32_8, C.r49_0, C.r50_0, ↓bnd C.r20_0, ↓bnd C.r20_2, ↓bnd C.r20_4, ↓bnd C.r20_5, ↓bnd C.r20_6, ↓bnd C.r20_7, ↓bnd C.r20_8, ↓bnd C.r23_5, ↓bnd C.r23_6, ↓bnd C.r23_7, ↓bnd C.r28_0, ↓bnd C.r28_1, ↓bnd C.r28_2, ↓bnd C.r32_3, ↓bnd C.r32_4, ↓bnd C.r32_5, ↓bnd C.r32_6, ↓bnd C.r32_7, ↓bnd C.r32_8, ↓bnd C.r49_0, ↓bnd C.r50_0, ↓reduceIte, ↓Option.bind_some, if_true, if_false, true_and, and_true, and_self, true_or, or_true, false_or, or_false, not_true_eq_false, not_false_eq_true, Option.bind_some, somene, false_and, and_false, reduceCtorEq, Nat.reduceEqDiff, r, lm1, l1]
    · show c_M_wins 40 (some 52) a0 h = _
      rw [e_M_wins]
      simp only [M.K52, ↓reduceIte, ↓Option.bind_some, if_true, if_false, true_and, and_true, and_self, true_or, or_true, false_or, or_false, not_true_eq_false, not_false_eq_true, Option.bind_some, somene, false_and, and_false, reduceCtorEq, Nat.reduceEqDiff, M_isAlley_0 M (s 0 (by omega)), lm1, l1, l0]
  · obtain ⟨C, M, hF, w, O, r, i, hst, T, S, s8, X⟩ := id Q
    have hst4 := p12 w.1 hst
    have w1 := w.1.1
    have e10 : (nI 1 = nI 0) = False := eq_false (by decide)
    obtain ⟨b2, g1, g2, g3⟩ := M_in_n (d := 40) (h := h) 0 2 (by decide) (by decide) (l2 := 0) (h2 := 2) (by decide) (by decide) a0
    cases b2
    · refine ⟨h, h, nM, ?_, Cq.refl h, T, ?_, Mq.refl h, X⟩
      · show c_SR_wins 40 (some 20) a0 h = _
        rw [e_SR_wins]
        rcases i_cases a0 with hx | ⟨p, hp, hx⟩
        · simp only [C.k20, C.k21, C.k22, C.k23, C.k24, C.k25, C.k26, C.k27, C.k28, C.k29, C.k30, C.k31, C.k32, C.k43, C.k44, C.k45, C.k46, C.k47, C.k48, C.k49, C.k50, C.k51, C.n21, C.n22, C.n24, C.n25, C.n26, C.n27, C.n29, C.n30, C.n31, C.n43, C.n44, C.n45, C.n46, C.n47, C.n48, C.n51, C.r20_0, C.r20_2, C.r20_4, C.r20_5, C.r20_6, C.r20_7, C.r20_8, C.r23_5, C.r23_6, C.r23_7, C.r28_0, C.r28_1, C.r28_2, C.r32_3, C.r32_4, C.r32_5, C.r32_6, C.r32_7, C.r32_8, C.r49_0, C.r50_0, ↓bnd C.r20_0, ↓bnd C.r20_2, ↓bnd C.r20_4, ↓bnd C.r20_5, ↓bnd C.r20_6, ↓bnd C.r20_7, ↓bnd C.r20_8, ↓bnd C.r23_5, ↓bnd C.r23_6, ↓bnd C.r23_7, ↓bnd C.r28_0, ↓bnd C.r28_1, ↓bnd C.r28_2, ↓bnd C.r32_3, ↓bnd C.r32_4, ↓bnd C.r32_5, ↓bnd C.r32_6, ↓bnd C.r32_7, ↓bnd C.r32_8, ↓bnd C.r49_0, ↓bnd C.r50_0, ↓reduceIte, ↓Option.bind_some, if_true, if_false, true_and, and_true, and_self, true_or, or_true, false_or, or_false, not_true_eq_false, not_false_eq_true, Option.bind_some, somene, false_and, and_false, reduceCtorEq, Nat.reduceEqDiff, r, l0, l1, lm1, hx]
        · subst hx
          have hp1 : 2 < p := by
            rcases Nat.lt_or_ge 2 p with q | q
            · exact q
            · exact absurd rfl (g3 rfl p (by omega) q)
          simp (disch := omega) only [C.k20, C.k21, C.k22, C.k23, C.k24, C.k25, C.k26, C.k27, C.k28, C.k29, C.k30, C.k31, C.k32, C.k43, C.k44, C.k45, C.k46, C.k47, C.k48, C.k49, C.k50, C.k51, C.n21, C.n22, C.n24, C.n25, C.n26, C.n27, C.n29, C.n30, C.n31, C.n43, C.n44, C.n45, C.n46, C.n47, C.n48, C.n51, C.r20_0, C.r20_2, C.r20_4, C.r20_5, C.r20_6, C.r20_7, C.r20_8, C.r23_5, C.r23_6, C.r23_7, C.r28_0, C.r28_1, C.r28_2, C.r32_3, C.r32_4, C.r32_5, C.r32_6, C.r32_7, C.r32_8, C.r49_0, C.r50_0, ↓bnd C.r20_0, ↓bnd C.r20_2, ↓bnd C.r20_4, ↓bnd C.r20_5, ↓bnd C.r20_6, ↓bnd C.r20_7, ↓bnd C.r20_8, ↓bnd C.r23_5, ↓bnd C.r23_6, ↓bnd C.r23_7, ↓bnd C.r28_0, ↓bnd C.r28_1, ↓bnd C.r28_2, ↓bnd C.r32_3, ↓bnd C.r32_4, ↓bnd C.r32_5, ↓bnd C.r32_6, ↓bnd C.r32_7, ↓bnd C.r32_8, ↓bnd C.r49_0, ↓bnd C.r50_0, ↓reduceIte, ↓Option.bind_some, if_true, if_false, true_and, and_true, and_self, true_or, or_true, false_or, or_false, not_true_eq_false, not_false_eq_true, Option.bind_some, somene, false_and, and_false, reduceCtorEq, Nat.reduceEqDiff, r, l0, l1, l2, lm1, q_lt_f, q_le_f]
      · show c_M_wins 40 (some 52) a0 h = _
        rw [e_M_wins]
        simp only [M.K52, ↓reduceIte, ↓Option.bind_some, if_true, if_false, true_and, and_true, and_self, true_or, or_true, false_or, or_false, not_true_eq_false, not_false_eq_true, Option.bind_some, somene, false_and, and_false, reduceCtorEq, Nat.reduceEqDiff, M_isAlley_1 M S.2.1, l0, l1, lm1, e10, g1, q_bi0]
    · obtain ⟨k, h1', h4', rfl⟩ := g2 rfl
      have hlen := AS_len _ _ O.S
      rw [Nat.zero_add] at hlen
      have hll := sH_len w.1 (dH D)
      obtain ⟨h1, e1, q, t⟩ := SR_wins_in (d := 40) (x1 := k) h4' w hF hst (N := (sH (dA D) (dH D)).length) (by omega) (sH (dA D) (dH D)) 0 0 none h (by omega) (by simp) Q O.kS hlen O.S (fun x hx => hx) (fun s p k hq => by cases hq)
      have q' := q.cq C
      obtain ⟨I1, X1⟩ := Q.m q'
      obtain ⟨M1, S1, s81⟩ := id I1
      obtain ⟨h2, m1, m2, m3⟩ := M_wins_p (d := 40) (x1 := k) h4' w hst (aN (dA D)) h1 (Nat.le_refl _) I1 X1
      have el : (sH (dA D) (dH D)).filter (fun x => wnL D st x.1 x.2) = rA (wnL D st) (aN (dA D)) 0 1 := by
        refine (rA_filter _ _ (fun p k => ?_) _ _ _).symm
        unfold wnL
        rw [cB_cO]
        cases ((dH D).testBit (k - 1) && decide (sB (dA D) p k ≠ 0)) <;> simp
      refine ⟨h1, h2, wnV k (rA (wnL D st) (aN (dA D)) 0 1), ?_, q', T.wq q t, ?_, m2, m3⟩
      · show c_SR_wins 40 (some 20) (nI k) h = _
        have e2 : k_SR_wins_45 40 (some 20) (nI k) (nI 0) none (some (c 14)) (nI (sH (dA D) (dH D)).length) (nI 0) h = some (h1, wnV k (rA (wnL D st) (aN (dA D)) 0 1)) := by
          refine e1.trans ?_
          rw [el, Nat.zero_add]
          unfold wnV
          by_cases h0 : k = 0
          · rw [if_pos h0, if_pos h0]
          · simp only [h0, if_false]
        have ra := O.r (j := 14) (by omega) (by omega)
        rw [← e2, e_SR_wins]
        simp (disch := omega) only [C.k20, C.k21, C.k22, C.k23, C.k24, C.k25, C.k26, C.k27, C.k28, C.k29, C.k30, C.k31, C.k32, C.k43, C.k44, C.k45, C.k46, C.k47, C.k48, C.k49, C.k50, C.k51, C.n21, C.n22, C.n24, C.n25, C.n26, C.n27, C.n29, C.n30, C.n31, C.n43, C.n44, C.n45, C.n46, C.n47, C.n48, C.n51, C.r20_0, C.r20_2, C.r20_4, C.r20_5, C.r20_6, C.r20_7, C.r20_8, C.r23_5, C.r23_6, C.r23_7, C.r28_0, C.r28_1, C.r28_2, C.r32_3, C.r32_4, C.r32_5, C.r32_6, C.r32_7, C.r32_8, C.r49_0, C.r50_0, ↓bnd C.r20_0, ↓bnd C.r20_2, ↓bnd C.r20_4, ↓bnd C.r20_5, ↓bnd C.r20_6, ↓bnd C.r20_7, ↓bnd C.r20_8, ↓bnd C.r23_5, ↓bnd C.r23_6, ↓bnd C.r23_7, ↓bnd C.r28_0, ↓bnd C.r28_1, ↓bnd C.r28_2, ↓bnd C.r32_3, ↓bnd C.r32_4, ↓bnd C.r32_5, ↓bnd C.r32_6, ↓bnd C.r32_7, ↓bnd C.r32_8, ↓bnd C.r49_0, ↓bnd C.r50_0, ↓reduceIte, ↓Option.bind_some, if_true, if_false, true_and, and_true, and_self, true_or, or_true, false_or, or_false, not_true_eq_false, not_false_eq_true, Option.bind_some, somene, false_and, and_false, reduceCtorEq, Nat.reduceEqDiff, aa101, aa102, aa103, aa104, aa105, aa106, aa107, aa108, aa201, aa202, aa204, ar106, ar107, ar108, ofn, r, l0, l2, q_lt_f, q_le_t, O.k, ra, O.kS, hlen]
      · show c_M_wins 40 (some 52) (nI k) h1 = _
        obtain ⟨b2, g1, g2, g3⟩ := M_in_n (d := 40) (h := h1) 0 2 (by decide) (by decide) (l2 := 0) (h2 := 2) (by decide) (by decide) (nI k)
        have hb2 : b2 = true := by
          cases b2
          · exact absurd rfl (g3 rfl k h1' h4')
          · rfl
        subst hb2
        rw [rA_n] at m1
        rw [← m1, e_M_wins]
        have e7 : nI (aN (dA D)) - nI 1 = nI (aN (dA D)) + nM := by
          rw [Int32.sub_eq_add_neg]
          rfl
        simp (disch := omega) only [M1.K52, M1.R20, M1.K62, M1.N62, ↓reduceIte, ↓Option.bind_some, if_true, if_false, true_and, and_true, and_self, true_or, or_true, false_or, or_false, not_true_eq_false, not_false_eq_true, Option.bind_some, somene, false_and, and_false, reduceCtorEq, Nat.reduceEqDiff, M_isAlley_1 M1 S1.2.1, l0, l1, l2, lm2, e10, g1, q_bi0, Bool.true_eq_false, q_in, q_cl, S1.1.1, e7]
        rfl
end SkFair
