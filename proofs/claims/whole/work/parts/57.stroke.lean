/-! ===== stroke, feed ===== -/
theorem ao108 : a_of 108 = 10 := rfl
theorem ao107 : a_of 107 = 9 := rfl
theorem ao106 : a_of 106 = 7 := rfl
section SkStroke
variable {L : Nat} {xs : Nat → Int32} {F G : Nat → Prop} {E : Nat → Option DD} {h h' h1 h2 : sk_H} {j st tu pl st' tu' pl' a b m p k s : Nat} {D : DD} {c : Nat → Nat} {d : Nat} {P : Nat → Bool} {sd sd' : Nat → Int32} {R : Nat → Nat → Bool} {A : AD} {x : Nat × Nat}
theorem St_p45 {mk : Nat} (C : CS h) (s1 : hI h 23 1 = nI st) (s2 : hI h 23 2 = nI tu) (s3 : hI h 23 3 = nI pl) (ht : tu ≤ 1) (hst : st < 4096) (k10 : hK h s = 10) (mm : hI h s 3 = nI mk) : k_St_play_45 d (some 23) (some s) h = some (wI (wI (wI h 23 1 (nI (an st mk))) 23 2 (nI (1 - tu))) 23 3 (nI (pl + 1))) := by
  rw [e_St_play_45]
  simp (disch := omega) only [C.k23, ↓reduceIte, ↓Option.bind_some, if_true, if_false, true_and, and_true, and_self, true_or, or_true, false_or, or_false, not_true_eq_false, not_false_eq_true, Option.bind_some, somene, false_and, and_false, reduceCtorEq, Nat.reduceEqDiff, hK_wI, hN_wI, hn_wI, hs_wI, hJ_wI, hR_wI, hK_wJ, hN_wJ, hn_wJ, hs_wJ, hI_wJ, hR_wJ, hK_wR, hN_wR, hn_wR, hs_wR, hI_wR, hJ_wR, hI_wI, s1, s2, s3, k10, mm, l1, lm1, q_nan, q_sub, nI_add]
def lP : List Nat := [23, 24, 25, 26]
theorem St_play_ok (C : CS h) (s1 : hI h 23 1 = nI st) (s2 : hI h 23 2 = nI tu) (s3 : hI h 23 3 = nI pl) (ht : tu ≤ 1) (hst : st < 4096) (hpl : pl < 2000) (o : SO h A s x) (hs : 73 ≤ s) : ∃ h', c_St_play d (some 23) (some s) h = some h' ∧ Ck (cl lP) h h' ∧ CS h' ∧ hR h' 23 = hR h 23 ∧ hI h' 23 1 = nI (an st (sB A x.1 x.2)) ∧ hI h' 23 2 = nI (1 - tu) ∧ hI h' 23 3 = nI (pl + 1) ∧ hI h' 23 4 = hI h 23 4 ∧ (pl < 40 → hI h' 24 pl = nI tu ∧ hI h' 25 pl = nI st ∧ hR h' 26 pl = some s) ∧ ∀ i, i < 40 → i ≠ pl → hI h' 24 i = hI h 24 i ∧ hI h' 25 i = hI h 25 i ∧ hR h' 26 i = hR h 26 i := by
  obtain ⟨o1, o2, o3, o4, o5, -⟩ := o
  rcases Nat.lt_or_ge pl 40 with q | q
  · have C6 : CS (wR (wI (wI h 24 pl (nI tu)) 25 pl (nI st)) 26 pl (some s)) := C.cg (fun a _ => ⟨rfl, rfl⟩) (fun q hq => by
      rw [hR_wR_n _ _ _ (by
        have : ∀ q ∈ cR, q.1 ≠ 26 := by decide
        exact this q hq)]
      rfl)
    have n24 : s ≠ 24 := by omega
    have n25 : s ≠ 25 := by omega
    have e45 := St_p45 (d := d) (s := s) (mk := sB A x.1 x.2) C6 (st := st) (tu := tu) (pl := pl) (by simp only [hI_wR, hI_wI, ↓reduceIte, ↓Option.bind_some, if_true, if_false, true_and, and_true, and_self, true_or, or_true, false_or, or_false, not_true_eq_false, not_false_eq_true, Option.bind_some, somene, false_and, and_false, reduceCtorEq, Nat.reduceEqDiff, s1]) (by simp only [hI_wR, hI_wI, ↓reduceIte, ↓Option.bind_some, if_true, if_false, true_and, and_true, and_self, true_or, or_true, false_or, or_false, not_true_eq_false, not_false_eq_true, Option.bind_some, somene, false_and, and_false, reduceCtorEq, Nat.reduceEqDiff, s2]) (by simp only [hI_wR, hI_wI, ↓reduceIte, ↓Option.bind_some, if_true, if_false, true_and, and_true, and_self, true_or, or_true, false_or, or_false, not_true_eq_false, not_false_eq_true, Option.bind_some, somene, false_and, and_false, reduceCtorEq, Nat.reduceEqDiff, s3]) ht hst o1 (by simp only [hI_wR, hI_wI, ↓reduceIte, ↓Option.bind_some, if_true, if_false, true_and, and_true, and_self, true_or, or_true, false_or, or_false, not_true_eq_false, not_false_eq_true, Option.bind_some, somene, false_and, and_false, reduceCtorEq, Nat.reduceEqDiff, n24, n25, o5])
    refine ⟨wI (wI (wI (wR (wI (wI h 24 pl (nI tu)) 25 pl (nI st)) 26 pl (some s)) 23 1 (nI (an st (sB A x.1 x.2)))) 23 2 (nI (1 - tu))) 23 3 (nI (pl + 1)), ?_, ?_, ?_, ?_, ?_, ?_, ?_, ?_, fun _ => ⟨?_, ?_, ?_⟩, fun i hi hip => ⟨?_, ?_, ?_⟩⟩
    rotate_left
    · exact (((((Ck.vI h (P := cl lP) (a := 24) pl (nI tu) (by decide)).trans (Ck.vI _ (a := 25) pl (nI st) (by decide))).trans (Ck.vR _ (a := 26) pl (some s) (by decide))).trans (Ck.vI _ (a := 23) 1 (nI (an st (sB A x.1 x.2))) (by decide))).trans (Ck.vI _ (a := 23) 2 (nI (1 - tu)) (by decide))).trans (Ck.vI _ (a := 23) 3 (nI (pl + 1)) (by decide))
    · exact C6
    · show hR (wR (wI (wI h 24 pl (nI tu)) 25 pl (nI st)) 26 pl (some s)) 23 = hR h 23
      rw [hR_wR_n _ _ _ (by decide)]; rfl
    · simp only [hI_wI, hI_wR, ↓reduceIte, ↓Option.bind_some, if_true, if_false, true_and, and_true, and_self, true_or, or_true, false_or, or_false, not_true_eq_false, not_false_eq_true, Option.bind_some, somene, false_and, and_false, reduceCtorEq, Nat.reduceEqDiff]
    · simp only [hI_wI, hI_wR, ↓reduceIte, ↓Option.bind_some, if_true, if_false, true_and, and_true, and_self, true_or, or_true, false_or, or_false, not_true_eq_false, not_false_eq_true, Option.bind_some, somene, false_and, and_false, reduceCtorEq, Nat.reduceEqDiff]
    · simp only [hI_wI, hI_wR, ↓reduceIte, ↓Option.bind_some, if_true, if_false, true_and, and_true, and_self, true_or, or_true, false_or, or_false, not_true_eq_false, not_false_eq_true, Option.bind_some, somene, false_and, and_false, reduceCtorEq, Nat.reduceEqDiff]
    · simp only [hI_wI, hI_wR, ↓reduceIte, ↓Option.bind_some, if_true, if_false, true_and, and_true, and_self, true_or, or_true, false_or, or_false, not_true_eq_false, not_false_eq_true, Option.bind_some, somene, false_and, and_false, reduceCtorEq, Nat.reduceEqDiff]
    · simp only [hI_wI, hI_wR, ↓reduceIte, ↓Option.bind_some, if_true, if_false, true_and, and_true, and_self, true_or, or_true, false_or, or_false, not_true_eq_false, not_false_eq_true, Option.bind_some, somene, false_and, and_false, reduceCtorEq, Nat.reduceEqDiff]
    · simp only [hI_wI, hI_wR, ↓reduceIte, ↓Option.bind_some, if_true, if_false, true_and, and_true, and_self, true_or, or_true, false_or, or_false, not_true_eq_false, not_false_eq_true, Option.bind_some, somene, false_and, and_false, reduceCtorEq, Nat.reduceEqDiff]
    · simp only [hR_wI, hR_wR, ↓reduceIte, ↓Option.bind_some, if_true, if_false, true_and, and_true, and_self, true_or, or_true, false_or, or_false, not_true_eq_false, not_false_eq_true, Option.bind_some, somene, false_and, and_false, reduceCtorEq, Nat.reduceEqDiff]
    · simp only [hI_wI, hI_wR, ↓reduceIte, ↓Option.bind_some, if_true, if_false, true_and, and_true, and_self, true_or, or_true, false_or, or_false, not_true_eq_false, not_false_eq_true, Option.bind_some, somene, false_and, and_false, reduceCtorEq, Nat.reduceEqDiff, hip]
    · simp only [hI_wI, hI_wR, ↓reduceIte, ↓Option.bind_some, if_true, if_false, true_and, and_true, and_self, true_or, or_true, false_or, or_false, not_true_eq_false, not_false_eq_true, Option.bind_some, somene, false_and, and_false, reduceCtorEq, Nat.reduceEqDiff, hip]
    · simp only [hR_wI, hR_wR, ↓reduceIte, ↓Option.bind_some, if_true, if_false, true_and, and_true, and_self, true_or, or_true, false_or, or_false, not_true_eq_false, not_false_eq_true, Option.bind_some, somene, false_and, and_false, reduceCtorEq, Nat.reduceEqDiff, hip]
    · rw [e_St_play]
      simp (disch := omega) only [C.k23, C.k24, C.n24, C.k25, C.n25, C.k26, C.n26, C.r23_5, C.r23_6, C.r23_7, ↓bnd C.r23_5, ↓bnd C.r23_6, ↓bnd C.r23_7, ↓reduceIte, ↓Option.bind_some, if_true, if_false, true_and, and_true, and_self, true_or, or_true, false_or, or_false, not_true_eq_false, not_false_eq_true, Option.bind_some, somene, false_and, and_false, reduceCtorEq, Nat.reduceEqDiff, hK_wI, hN_wI, hn_wI, hs_wI, hJ_wI, hR_wI, hK_wJ, hN_wJ, hn_wJ, hs_wJ, hI_wJ, hR_wJ, hK_wR, hN_wR, hn_wR, hs_wR, hI_wR, hJ_wR, hI_wI, s1, s2, s3, l40, q_le_f, q_in, q_cl, ar108, ao108, o1, Option.getD_some, e45]
  · have e45 := St_p45 (d := d) (s := s) (mk := sB A x.1 x.2) C (st := st) (tu := tu) (pl := pl) s1 s2 s3 ht hst o1 o5
    refine ⟨wI (wI (wI h 23 1 (nI (an st (sB A x.1 x.2)))) 23 2 (nI (1 - tu))) 23 3 (nI (pl + 1)), ?_, ?_, ?_, ?_, ?_, ?_, ?_, ?_, fun q2 => absurd q2 (by omega), fun i hi hip => ⟨?_, ?_, ?_⟩⟩
    rotate_left
    · exact ((Ck.vI _ (P := cl lP) (a := 23) 1 (nI (an st (sB A x.1 x.2))) (by decide)).trans (Ck.vI _ (a := 23) 2 (nI (1 - tu)) (by decide))).trans (Ck.vI _ (a := 23) 3 (nI (pl + 1)) (by decide))
    · exact C
    · rfl
    · simp only [hI_wI, hI_wR, ↓reduceIte, ↓Option.bind_some, if_true, if_false, true_and, and_true, and_self, true_or, or_true, false_or, or_false, not_true_eq_false, not_false_eq_true, Option.bind_some, somene, false_and, and_false, reduceCtorEq, Nat.reduceEqDiff]
    · simp only [hI_wI, hI_wR, ↓reduceIte, ↓Option.bind_some, if_true, if_false, true_and, and_true, and_self, true_or, or_true, false_or, or_false, not_true_eq_false, not_false_eq_true, Option.bind_some, somene, false_and, and_false, reduceCtorEq, Nat.reduceEqDiff]
    · simp only [hI_wI, hI_wR, ↓reduceIte, ↓Option.bind_some, if_true, if_false, true_and, and_true, and_self, true_or, or_true, false_or, or_false, not_true_eq_false, not_false_eq_true, Option.bind_some, somene, false_and, and_false, reduceCtorEq, Nat.reduceEqDiff]
    · simp only [hI_wI, hI_wR, ↓reduceIte, ↓Option.bind_some, if_true, if_false, true_and, and_true, and_self, true_or, or_true, false_or, or_false, not_true_eq_false, not_false_eq_true, Option.bind_some, somene, false_and, and_false, reduceCtorEq, Nat.reduceEqDiff]
    · simp only [hI_wI, hI_wR, ↓reduceIte, ↓Option.bind_some, if_true, if_false, true_and, and_true, and_self, true_or, or_true, false_or, or_false, not_true_eq_false, not_false_eq_true, Option.bind_some, somene, false_and, and_false, reduceCtorEq, Nat.reduceEqDiff]
    · simp only [hI_wI, hI_wR, ↓reduceIte, ↓Option.bind_some, if_true, if_false, true_and, and_true, and_self, true_or, or_true, false_or, or_false, not_true_eq_false, not_false_eq_true, Option.bind_some, somene, false_and, and_false, reduceCtorEq, Nat.reduceEqDiff]
    · simp only [hR_wI, hR_wR, ↓reduceIte, ↓Option.bind_some, if_true, if_false, true_and, and_true, and_self, true_or, or_true, false_or, or_false, not_true_eq_false, not_false_eq_true, Option.bind_some, somene, false_and, and_false, reduceCtorEq, Nat.reduceEqDiff]
    · rw [e_St_play]
      simp (disch := omega) only [C.k23, ↓reduceIte, ↓Option.bind_some, if_true, if_false, true_and, and_true, and_self, true_or, or_true, false_or, or_false, not_true_eq_false, not_false_eq_true, Option.bind_some, somene, false_and, and_false, reduceCtorEq, Nat.reduceEqDiff, s3, l40, q_le_t, e45]
theorem M_notes_ok (M : MS 52 h) (n10 : hI h 62 10 = nI (min pl 40)) (x1 x2 : Int32) : ∃ h', c_M_notes d (some 52) x1 x2 h = some h' ∧ Iq P62 h h' ∧ hI h' 62 10 = nI (min (pl + 1) 40) ∧ (pl < 40 → hI h' 62 (24 + 4 * pl) = hI h 62 7 ∧ hI h' 62 (25 + 4 * pl) = hI h 62 8 ∧ hI h' 62 (26 + 4 * pl) = x1 ∧ hI h' 62 (27 + 4 * pl) = x2) ∧ ∀ i, i ≠ 10 → (pl < 40 → i < 24 + 4 * pl ∨ 28 + 4 * pl ≤ i) → hI h' 62 i = hI h 62 i := by
  rcases Nat.lt_or_ge pl 40 with q | q
  · have e1 : min pl 40 = pl := by omega
    have e2 : min (pl + 1) 40 = pl + 1 := by omega
    rw [e1] at n10
    rw [e2]
    have m7 : ¬ (7 : Nat) = 24 + 4 * pl := by omega
    have m8 : ¬ (8 : Nat) = 24 + 4 * pl := by omega
    have m10 : ¬ (10 : Nat) = 24 + 4 * pl := by omega
    have m11 : ¬ (10 : Nat) = 24 + 4 * pl + 1 := by omega
    have m12 : ¬ (10 : Nat) = 24 + 4 * pl + 2 := by omega
    have m13 : ¬ (10 : Nat) = 24 + 4 * pl + 3 := by omega
    refine ⟨wI (wI (wI (wI (wI h 62 (24 + 4 * pl) (hI h 62 7)) 62 (24 + 4 * pl + 1) (hI h 62 8)) 62 (24 + 4 * pl + 2) x1) 62 (24 + 4 * pl + 3) x2) 62 10 (nI (pl + 1)), ?_, ?_, ?_, fun _ => ⟨?_, ?_, ?_, ?_⟩, fun i hi hip => ?_⟩
    · rw [e_M_notes]
      simp (disch := omega) only [M.K52, M.R0, M.R3, M.R4, M.R5, M.R6, M.R7, M.R15, M.R17, M.R19, M.R20, M.R22, M.R24, M.R26, M.R27, M.R28, M.R29, M.R30, M.R37, M.R38, M.R39, ↓bnd M.R0, ↓bnd M.R3, ↓bnd M.R4, ↓bnd M.R5, ↓bnd M.R6, ↓bnd M.R7, ↓bnd M.R15, ↓bnd M.R17, ↓bnd M.R19, ↓bnd M.R20, ↓bnd M.R22, ↓bnd M.R24, ↓bnd M.R26, ↓bnd M.R27, ↓bnd M.R28, ↓bnd M.R29, ↓bnd M.R30, ↓bnd M.R37, ↓bnd M.R38, ↓bnd M.R39, M.K53, M.K54, M.K55, M.K56, M.K57, M.K58, M.K59, M.K60, M.K61, M.K62, M.K63, M.K64, M.K65, M.K66, M.K67, M.K68, M.K69, M.K70, M.K71, M.K72, M.N53, M.N54, M.N55, M.N56, M.N57, M.N58, M.N59, M.N60, M.N61, M.N62, M.N63, M.N64, M.N65, M.N66, M.N67, M.N68, M.N69, M.N70, M.N71, M.N72, ↓reduceIte, ↓Option.bind_some, if_true, if_false, true_and, and_true, and_self, true_or, or_true, false_or, or_false, not_true_eq_false, not_false_eq_true, Option.bind_some, somene, false_and, and_false, reduceCtorEq, Nat.reduceEqDiff, hK_wI, hN_wI, hn_wI, hs_wI, hJ_wI, hR_wI, hK_wJ, hN_wJ, hn_wJ, hs_wJ, hI_wJ, hR_wJ, hK_wR, hN_wR, hn_wR, hs_wR, hI_wR, hJ_wR, hI_wI, n10, l10, l40, l7, l8, l24, l4, l1, l2, l3, pk_mul, nI_add, q_in, q_cl, q_eq_f, m7, m8, m10, m11, m12, m13]
    · exact ((((Iq.w _ _ rfl).trans (Iq.w _ _ rfl)).trans (Iq.w _ _ rfl)).trans (Iq.w _ _ rfl)).trans (Iq.w _ _ rfl)
    · rw [hI_wI, if_pos ⟨rfl, rfl⟩]
    · rw [hI_wI, if_neg (by omega), hI_wI, if_neg (by omega), hI_wI, if_neg (by omega), hI_wI, if_neg (by omega), hI_wI, if_pos (by omega)]
    · rw [hI_wI, if_neg (by omega), hI_wI, if_neg (by omega), hI_wI, if_neg (by omega), hI_wI, if_pos (by omega)]
    · rw [hI_wI, if_neg (by omega), hI_wI, if_neg (by omega), hI_wI, if_pos (by omega)]
    · rw [hI_wI, if_neg (by omega), hI_wI, if_pos (by omega)]
    · have := hip q
      rw [hI_wI, if_neg (by omega), hI_wI, if_neg (by omega), hI_wI, if_neg (by omega), hI_wI, if_neg (by omega), hI_wI, if_neg (by omega)]
  · have e1 : min pl 40 = 40 := by omega
    have e2 : min (pl + 1) 40 = 40 := by omega
    rw [e1] at n10
    rw [e2]
    refine ⟨h, ?_, Iq.refl h, n10, fun q2 => absurd q2 (by omega), fun i _ _ => rfl⟩
    rw [e_M_notes]
    simp (disch := omega) only [M.K52, M.R0, M.R3, M.R4, M.R5, M.R6, M.R7, M.R15, M.R17, M.R19, M.R20, M.R22, M.R24, M.R26, M.R27, M.R28, M.R29, M.R30, M.R37, M.R38, M.R39, ↓bnd M.R0, ↓bnd M.R3, ↓bnd M.R4, ↓bnd M.R5, ↓bnd M.R6, ↓bnd M.R7, ↓bnd M.R15, ↓bnd M.R17, ↓bnd M.R19, ↓bnd M.R20, ↓bnd M.R22, ↓bnd M.R24, ↓bnd M.R26, ↓bnd M.R27, ↓bnd M.R28, ↓bnd M.R29, ↓bnd M.R30, ↓bnd M.R37, ↓bnd M.R38, ↓bnd M.R39, M.K53, M.K54, M.K55, M.K56, M.K57, M.K58, M.K59, M.K60, M.K61, M.K62, M.K63, M.K64, M.K65, M.K66, M.K67, M.K68, M.K69, M.K70, M.K71, M.K72, M.N53, M.N54, M.N55, M.N56, M.N57, M.N58, M.N59, M.N60, M.N61, M.N62, M.N63, M.N64, M.N65, M.N66, M.N67, M.N68, M.N69, M.N70, M.N71, M.N72, ↓reduceIte, ↓Option.bind_some, if_true, if_false, true_and, and_true, and_self, true_or, or_true, false_or, or_false, not_true_eq_false, not_false_eq_true, Option.bind_some, somene, false_and, and_false, reduceCtorEq, Nat.reduceEqDiff, n10, l10, l40, q_in, q_cl]
theorem lP_A : ∀ c, cl lA c = false → cl lP c = false := by
  intro c hc
  cases hq : cl lP c
  · rfl
  · have h1 : c ∈ lP := by unfold cl at hq; simpa using hq
    have h2 : ∀ c ∈ lP, cl lA c = true := by decide
    rw [h2 c h1] at hc; cases hc
theorem Ck.sub {Q : Nat → Bool} (A : Ck P h h1) (hq : ∀ c, Q c = false → P c = false) : Ck Q h h1 := ⟨A.1, A.2.1, fun c hc => A.2.2 c (hq c hc)⟩
theorem q_stroke (a0 a1 : Int32) : sk_Ag (JJ L xs) L xs 52 (fun h => c_SR_stroke 40 (some 20) a0 a1 h) (fun h => c_M_stroke 40 (some 52) a0 a1 h) := by
  refine Ag_chg lA okA (fun j h F E st tu pl hj J => ?_)
  have C := J.2.1
  have M := J.2.2.1
  have hpl := J.2.2.2.2.2.2.2.2.1
  have S := J.2.2.2.2.2.2.2.2.2.1
  obtain ⟨s0, s1, s2, s3, s4, s5, s6, s7, s8, s9⟩ := id S
  rcases s9 with ⟨q1, q2, q3⟩ | ⟨a, D, q1, q2, qw, q3, q4, q5⟩
  · refine Or.inl ⟨nM, ?_, ?_⟩
    · show c_SR_stroke 40 (some 20) a0 a1 h = _
      rw [e_SR_stroke]
      simp only [C.k20, C.k21, C.k22, C.k23, C.k24, C.k25, C.k26, C.k27, C.k28, C.k29, C.k30, C.k31, C.k32, C.k43, C.k44, C.k45, C.k46, C.k47, C.k48, C.k49, C.k50, C.k51, C.n21, C.n22, C.n24, C.n25, C.n26, C.n27, C.n29, C.n30, C.n31, C.n43, C.n44, C.n45, C.n46, C.n47, C.n48, C.n51, C.r20_0, C.r20_2, C.r20_4, C.r20_5, C.r20_6, C.r20_7, C.r20_8, C.r23_5, C.r23_6, C.r23_7, C.r28_0, C.r28_1, C.r28_2, C.r32_3, C.r32_4, C.r32_5, C.r32_6, C.r32_7, C.r32_8, C.r49_0, C.r50_0, ↓bnd C.r20_0, ↓bnd C.r20_2, ↓bnd C.r20_4, ↓bnd C.r20_5, ↓bnd C.r20_6, ↓bnd C.r20_7, ↓bnd C.r20_8, ↓bnd C.r23_5, ↓bnd C.r23_6, ↓bnd C.r23_7, ↓bnd C.r28_0, ↓bnd C.r28_1, ↓bnd C.r28_2, ↓bnd C.r32_3, ↓bnd C.r32_4, ↓bnd C.r32_5, ↓bnd C.r32_6, ↓bnd C.r32_7, ↓bnd C.r32_8, ↓bnd C.r49_0, ↓bnd C.r50_0, ↓reduceIte, ↓Option.bind_some, if_true, if_false, true_and, and_true, and_self, true_or, or_true, false_or, or_false, not_true_eq_false, not_false_eq_true, Option.bind_some, somene, false_and, and_false, reduceCtorEq, Nat.reduceEqDiff, q1, lm1, l1]
    · show c_M_stroke 40 (some 52) a0 a1 h = _
      rw [e_M_stroke]
      simp only [M.K52, ↓reduceIte, ↓Option.bind_some, if_true, if_false, true_and, and_true, and_self, true_or, or_true, false_or, or_false, not_true_eq_false, not_false_eq_true, Option.bind_some, somene, false_and, and_false, reduceCtorEq, Nat.reduceEqDiff, M_isPlace_0 M (q2 1 (by omega)), lm1, l1, l0]
  · have w1 := qw.1.1
    obtain ⟨-, O⟩ := J.2.2.2.2.2.2.2.1 a D q2
    obtain ⟨cc, O⟩ := O
    have hst4 := p12 qw.1 q4
    obtain ⟨rr, e1, e2⟩ := Al_strokeOf_ok (d := 40) O qw hst4 a0 a1
    rcases e2 with ⟨y1, y2⟩ | ⟨s, p, k, y1, y2, y3, y4, y5, y6, y7, y8, y9⟩
    · subst y1
      refine Or.inl ⟨nM, ?_, ?_⟩
      · show c_SR_stroke 40 (some 20) a0 a1 h = _
        rw [e_SR_stroke]
        simp only [C.k20, C.k21, C.k22, C.k23, C.k24, C.k25, C.k26, C.k27, C.k28, C.k29, C.k30, C.k31, C.k32, C.k43, C.k44, C.k45, C.k46, C.k47, C.k48, C.k49, C.k50, C.k51, C.n21, C.n22, C.n24, C.n25, C.n26, C.n27, C.n29, C.n30, C.n31, C.n43, C.n44, C.n45, C.n46, C.n47, C.n48, C.n51, C.r20_0, C.r20_2, C.r20_4, C.r20_5, C.r20_6, C.r20_7, C.r20_8, C.r23_5, C.r23_6, C.r23_7, C.r28_0, C.r28_1, C.r28_2, C.r32_3, C.r32_4, C.r32_5, C.r32_6, C.r32_7, C.r32_8, C.r49_0, C.r50_0, ↓bnd C.r20_0, ↓bnd C.r20_2, ↓bnd C.r20_4, ↓bnd C.r20_5, ↓bnd C.r20_6, ↓bnd C.r20_7, ↓bnd C.r20_8, ↓bnd C.r23_5, ↓bnd C.r23_6, ↓bnd C.r23_7, ↓bnd C.r28_0, ↓bnd C.r28_1, ↓bnd C.r28_2, ↓bnd C.r32_3, ↓bnd C.r32_4, ↓bnd C.r32_5, ↓bnd C.r32_6, ↓bnd C.r32_7, ↓bnd C.r32_8, ↓bnd C.r49_0, ↓bnd C.r50_0, ↓reduceIte, ↓Option.bind_some, if_true, if_false, true_and, and_true, and_self, true_or, or_true, false_or, or_false, not_true_eq_false, not_false_eq_true, Option.bind_some, somene, false_and, and_false, reduceCtorEq, Nat.reduceEqDiff, q1, s1, O.k, e1, lm1, l1]
      · show c_M_stroke 40 (some 52) a0 a1 h = _
        rw [e_M_stroke]
        obtain ⟨b1, f1, f2, f3⟩ := M_isPlace_ok (d := 40) M q3 qw a0
        obtain ⟨b2, g1, g2, g3⟩ := M_in_n (d := 40) (h := h) 1 4 (by decide) (by decide) (l2 := 1) (h2 := 4) (by decide) (by decide) a1
        cases b1
        · simp only [M.K52, ↓reduceIte, ↓Option.bind_some, if_true, if_false, true_and, and_true, and_self, true_or, or_true, false_or, or_false, not_true_eq_false, not_false_eq_true, Option.bind_some, somene, false_and, and_false, reduceCtorEq, Nat.reduceEqDiff, l0, l1, lm1, ↓bnd f1, q_bi0]
        · cases b2
          · simp only [M.K52, ↓reduceIte, ↓Option.bind_some, if_true, if_false, true_and, and_true, and_self, true_or, or_true, false_or, or_false, not_true_eq_false, not_false_eq_true, Option.bind_some, somene, false_and, and_false, reduceCtorEq, Nat.reduceEqDiff, l0, l1, lm1, ↓bnd f1, ↓bnd g1, q_bi0, Bool.true_eq_false]
          · obtain ⟨p, hp, rfl⟩ := f2 rfl
            obtain ⟨k, h1, h4, rfl⟩ := g2 rfl
            have hc := y2 p k hp h1 h4 rfl rfl
            have e8 : (8 : Int32).toNatClampNeg = 8 := nI_clamp (n := 8) (by omega)
            have cb : c_M_canBeNow 40 (some 52) (hI h 62 (8 : Int32).toNatClampNeg) (nI p) (nI k) h = some (h, bi false) := by
              rw [e8, s5, ← hc]; exact M_canBeNow_ok 40 M qw q3 hst4 hp h1 h4
            simp (disch := omega) only [M.K52, ↓bnd M.R20, M.K62, M.N62, ↓reduceIte, ↓Option.bind_some, if_true, if_false, true_and, and_true, and_self, true_or, or_true, false_or, or_false, not_true_eq_false, not_false_eq_true, Option.bind_some, somene, false_and, and_false, reduceCtorEq, Nat.reduceEqDiff, Bool.true_eq_false, l0, l1, lm1, l8, q_in, q_cl, s5, ↓bnd f1, ↓bnd g1, ↓bnd cb, q_bi0]
    · subst y1; subst y7; subst y8
      have hs73 := J.2.2.2.1.1 s y2
      obtain ⟨hk, k1, k2, k3⟩ := keep2 (d := 40) C J.2.2.2.2.2.2.2.2.2.2.2.1 s1 s2 s3 s4 s5 s6 s7 s8 q1 q2 q4
      have Ck1 := C.ir k2
      have Mk := M.ir k2
      have ok : SO hk (dA D) s (p, k) := y3.same ⟨by rw [k2.eK], by rw [k2.eN], k2.A (by omega), by rw [k2.eR], fun _ => by rw [k2.eJ]⟩
      obtain ⟨h1, p1, p2, p3, p4, p5, p6, p7, p8, p9, p10⟩ := St_play_ok (d := 40) (s := s) Ck1 (st := st) (tu := tu) (pl := pl) (by rw [k2.A (by omega)]; exact s1) (by rw [k2.A (by omega)]; exact s2) (by rw [k2.A (by omega)]; exact s3) s8 hst4 (by omega) ok hs73
      have y : ∀ c, cl lP c = false → (c < 28 ∨ 31 < c) → hI h1 c = hI h c := fun c hc h5 => by rw [(p2.2.2 c hc).1, k2.A h5]
      have M1 : MS 52 h1 := Mk.ck p2 ((p2.2.2 52 (by decide)).2)
      have A1 : Ck (cl lA) h h1 := (k2.ck (clA PA_A)).trans (p2.sub lP_A)
      obtain ⟨hm, m1, m2, m3⟩ := k3 h1 M1 (fun c h1 h2 => (p2.2.2 c (by
          have : ∀ c, c < 32 → 28 ≤ c → cl lP c = false := by decide
          exact this c (by omega) h1)).1) (y 64 (by decide) (by omega)) (y 62 (by decide) (by omega)) (by rw [y 52 (by decide) (by omega)])
      have Mm := M1.ir m2
      have v62 : hI hm 62 = hI h 62 := by rw [m2.K (by decide) (by decide), y 62 (by decide) (by omega)]
      obtain ⟨hn', n1, n2, n3, n4, n5⟩ := M_notes_ok (d := 40) (pl := pl) Mm (by rw [v62]; exact s7) (nI p) (nI k)
      rw [v62] at n4
      have Mn := Mm.ir n2
      have w62 : ∀ i, i ≠ 10 → (pl < 40 → i < 24 + 4 * pl ∨ 28 + 4 * pl ≤ i) → hI hn' 62 i = hI h 62 i := fun i h1 h2 => by rw [n5 i h1 h2, v62]
      have u7 : hI hn' 62 7 = nI tu := by rw [w62 7 (by decide) (fun _ => by omega)]; exact s4
      have u8 : hI hn' 62 8 = nI st := by rw [w62 8 (by decide) (fun _ => by omega)]; exact s5
      have u9 : hI hn' 62 9 = nI pl := by rw [w62 9 (by decide) (fun _ => by omega)]; exact s6
      have Sn : mSaid D (hI hn' 62) := by
        obtain ⟨⟨e1, e2, e3⟩, e4, e5, e6, e7, e8⟩ := q3
        refine ⟨⟨by rw [w62 1 (by decide) (fun _ => by omega)]; exact e1, by rw [w62 2 (by decide) (fun _ => by omega)]; exact e2, fun r hr => ?_⟩, by rw [w62 0 (by decide) (fun _ => by omega)]; exact e4, by rw [w62 3 (by decide) (fun _ => by omega)]; exact e5, by rw [w62 4 (by decide) (fun _ => by omega)]; exact e6, by rw [w62 5 (by decide) (fun _ => by omega)]; exact e7, by rw [w62 6 (by decide) (fun _ => by omega)]; exact e8⟩
        have hr4 := qw.1.2.1
        rw [w62 _ (by omega) (fun _ => by omega), w62 _ (by omega) (fun _ => by omega), w62 _ (by omega) (fun _ => by omega)]
        exact e3 r hr
      have hT4 : an st (sB (dA D) p k) < 4096 := an_lt _ hst4
      have hTn : an st (sB (dA D) p k) < 2 ^ aN (dA D) := Nat.lt_of_le_of_lt (an_le _ _) q4
      obtain ⟨h2, hh2⟩ : ∃ h2, h2 = wI (wI (wI hn' 62 8 (nI (an st (sB (dA D) p k)))) 62 7 (nI (1 - tu))) 62 9 (nI (pl + 1)) := ⟨_, rfl⟩
      have A2 : Ck (cl lA) h1 h2 := by
        rw [hh2]
        exact (((m2.ck (clA PK_A)).trans (n2.ck (clA P62_A))).trans ((Ck.vI _ _ _ (by decide)).trans (Ck.vI _ _ _ (by decide)))).trans (Ck.vI _ _ _ (by decide))
      have R2 : hR h2 = hR h1 := by rw [hh2, hR_wI, hR_wI, hR_wI, n2.eR, m2.eR]
      have hF : ∀ c, F c → Same h h2 c := fun c hc => (A1.trans A2).same (okA.2.1 c (J.2.2.2.1.1 c hc))
      have zn : ∀ c, c ≠ 62 → hI h2 c = hI hm c := fun c hc => by rw [hh2, hI_wI_n _ _ _ hc, hI_wI_n _ _ _ hc, hI_wI_n _ _ _ hc, n2.n62 hc]
      have z1 : ∀ c, c ≠ 62 → c ≠ 64 → c ≠ 52 → hI h2 c = hI h1 c := fun c n1 n2 n3 => by rw [zn c n1, m2.K n2 n3]
      have z : ∀ c, c ≠ 62 → c ≠ 64 → c ≠ 52 → cl lP c = false → (c < 28 ∨ 31 < c) → hI h2 c = hI h c := fun c n1 n2 n3 n4 n5 => by rw [z1 c n1 n2 n3, y c n4 n5]
      have z52 : ∀ i, i ≠ 25 → hI h2 52 i = hI h 52 i := fun i hi => by
        rw [zn 52 (by decide), m2.I (by unfold PK; rw [beq_false_of_ne hi]; rfl), y 52 (by decide) (by omega)]
      have z62 : ∀ i, i ≠ 7 → i ≠ 8 → i ≠ 9 → hI h2 62 i = hI hn' 62 i := fun i n7 n8 n9 => by
        rw [hh2, hI_wI, if_neg (by omega), hI_wI, if_neg (by omega), hI_wI, if_neg (by omega)]
      have r23 : hR h2 23 = hR h 23 := by rw [R2, p4, k2.eR]
      have x1 : (1 - tu) ≤ 1 := by omega
      refine Or.inr ⟨h1, h2, nI (pc (an st (sB (dA D) p k))), an st (sB (dA D) p k), 1 - tu, pl + 1, ?_, A1, ?_, A2, p3.cg (fun a _ => by rw [A2.eK, A2.eN]; exact ⟨rfl, rfl⟩) (fun q _ => by rw [R2]), M1.ck A2 (by rw [R2]), ?_, ?_, ?_, by omega, ?_, ?_, ?_, ?_, ?_⟩
      · show c_SR_stroke 40 (some 20) (nI p) (nI k) h = _
        rw [e_SR_stroke]
        have bc := JI_bc_ok (d := 40) (h := h1) hT4
        have p5' : hI h1 23 1 = nI (an st (sB (dA D) p k)) := p5
        simp (disch := omega) only [C.k20, C.k23, C.k28, ↓bnd C.r20_4, ↓bnd C.r20_6, ↓bnd q1, C.r20_4, C.r20_6, ↓reduceIte, ↓Option.bind_some, if_true, if_false, true_and, and_true, and_self, true_or, or_true, false_or, or_false, not_true_eq_false, not_false_eq_true, Option.bind_some, somene, false_and, and_false, reduceCtorEq, Nat.reduceEqDiff, q1, s1, O.k, e1, k1, Ck1.k20, Ck1.k23, ↓bnd Ck1.r20_4, Ck1.r20_4, p1, p3.k20, p3.k23, ↓bnd p3.r20_4, p5', bc]
      · show c_M_stroke 40 (some 52) (nI p) (nI k) h1 = _
        rw [e_M_stroke]
        have S1 : mSaid D (hI h1 62) := by rw [y 62 (by decide) (by omega)]; exact q3
        have t8 : hI h1 62 8 = nI st := by rw [y 62 (by decide) (by omega)]; exact s5
        obtain ⟨b1, f1, f2, f3⟩ := M_isPlace_ok (d := 40) M1 S1 qw (nI p)
        obtain ⟨b2, g1, g2, g3⟩ := M_in_n (d := 40) (h := h1) 1 4 (by decide) (by decide) (l2 := 1) (h2 := 4) (by decide) (by decide) (nI k)
        have hb1 : b1 = true := by
          cases b1
          · exact absurd rfl (f3 rfl p y4)
          · rfl
        have hb2 : b2 = true := by
          cases b2
          · exact absurd rfl (g3 rfl k y5 y6)
          · rfl
        subst hb1; subst hb2
        have e8 : (8 : Int32).toNatClampNeg = 8 := nI_clamp (n := 8) (by omega)
        have cb : c_M_canBeNow 40 (some 52) (hI h1 62 (8 : Int32).toNatClampNeg) (nI p) (nI k) h1 = some (h1, bi true) := by
          rw [e8, t8, ← y9]; exact M_canBeNow_ok 40 M1 qw S1 hst4 y4 y5 y6
        have sb := M_strokeBits_ok (b := 52) 40 Mn qw.1 Sn.1 y4 y6
        have bc := M_bits_ok (d := 40) (h := h2) hT4
        rw [hh2] at bc
        rw [hh2]
        simp (maxSteps := 3000000) (disch := omega) only [M1.K52, ↓bnd M1.R20, M1.K62, M1.N62, ↓reduceIte, ↓Option.bind_some, if_true, if_false, true_and, and_true, and_self, true_or, or_true, false_or, or_false, not_true_eq_false, not_false_eq_true, Option.bind_some, somene, false_and, and_false, reduceCtorEq, Nat.reduceEqDiff, ↓bnd f1, ↓bnd g1, q_bi0, Bool.true_eq_false, l0, l1, l7, l8, l9, lm1, q_in, q_cl, t8, ↓bnd cb, ↓bnd m1, Mm.K52, ↓bnd n1, Mn.K52, ↓bnd Mn.R20, Mn.K62, Mn.N62, ↓bnd sb, u8, u7, u9, q_nan, q_sub, nI_add, hK_wI, hN_wI, hR_wI, hI_wI, bc]
      · exact J.2.2.2.2.2.1.kp (by rw [z 20 (by decide) (by decide) (by decide) (by decide) (by decide)]) (z52 1 (by decide)) (z 21 (by decide) (by decide) (by decide) (by decide) (by decide)) (z 53 (by decide) (by decide) (by decide) (by decide) (by decide))
      · rw [z 20 (by decide) (by decide) (by decide) (by decide) (by decide)]
      · exact z52 2 (by decide)
      · have z23 : hI h2 23 = hI h1 23 := z1 23 (by decide) (by decide) (by decide)
        have z24 : hI h2 24 = hI h1 24 := z1 24 (by decide) (by decide) (by decide)
        have z25 : hI h2 25 = hI h1 25 := z1 25 (by decide) (by decide) (by decide)
        have z26 : hR h2 26 = hR h1 26 := by rw [R2]
        refine S.upd q1 q2 (by rw [r23]) (fun i hi q hq => ?_) (by rw [z23]; exact p5) (by rw [z23]; exact p6) (by rw [z23]; exact p7) ?_ ?_ ?_ ?_ x1 hTn (fun i hi hk => ?_) (fun i hi => ?_)
        · have hq : hR h2 26 i = some q := hq
          rw [z26] at hq
          by_cases hip : i = pl
          · subst hip
            rw [(p9 hi).2.2] at hq
            cases hq
            exact ⟨y2, by rw [(hF s y2).1]; exact y3.1⟩
          · rw [(p10 i hi hip).2.2, k2.eR] at hq
            obtain ⟨f, kq⟩ := s0 i hi q hq
            exact ⟨f, by rw [(hF q f).1]; exact kq⟩
        · rw [hh2, hI_wI, if_neg (by omega), hI_wI, if_pos ⟨rfl, rfl⟩]
        · rw [hh2, hI_wI, if_neg (by omega), hI_wI, if_neg (by omega), hI_wI, if_pos ⟨rfl, rfl⟩]
        · rw [hh2, hI_wI, if_pos ⟨rfl, rfl⟩]
        · rw [z62 10 (by decide) (by decide) (by decide)]; exact n3
        · rw [z62 i (by omega) (by omega) (by omega), w62 i (by omega) (fun _ => by omega)]
        · by_cases hip : i = pl
          · subst hip
            have hi40 : i < 40 := by omega
            obtain ⟨v1, v2, v3⟩ := p9 hi40
            obtain ⟨v4, v5, v6, v7⟩ := n4 hi40
            refine ⟨tu, st, s, (p, k), s8, ?_, ?_, q4, ?_, ?_, ?_, y2, y3.same (hF s y2), ?_, ?_, mem_aL y4 y5 y6 y9⟩
            · show hI h2 24 i = _
              rw [z24]; exact v1
            · rw [z62 _ (by omega) (by omega) (by omega), v4]; exact s4
            · show hI h2 25 i = _
              rw [z25]; exact v2
            · rw [z62 _ (by omega) (by omega) (by omega), v5]; exact s5
            · show hR h2 26 i = _
              rw [z26]; exact v3
            · rw [z62 _ (by omega) (by omega) (by omega)]; exact v6
            · rw [z62 _ (by omega) (by omega) (by omega)]; exact v7
          · have hi40 : i < 40 := by omega
            obtain ⟨v1, v2, v3⟩ := p10 i hi40 hip
            refine (q5 i (by omega)).kp ?_ ?_ ?_ (fun c hc => ⟨hc, hF c hc⟩) (fun k h1 h2 => ?_)
            · show hI h2 24 i = hI h 24 i
              rw [z24, v1, k2.A (by omega)]
            · show hI h2 25 i = hI h 25 i
              rw [z25, v2, k2.A (by omega)]
            · show hR h2 26 i = hR h 26 i
              rw [z26, v3, k2.eR]
            · rw [z62 k (by omega) (by omega) (by omega), w62 k (by omega) (fun _ => by omega)]
      · have z23 : hI h2 23 = hI h1 23 := z1 23 (by decide) (by decide) (by decide)
        rw [z52 21 (by decide), z23, p8, k2.A (by omega)]
        exact J.2.2.2.2.2.2.2.2.2.2.1
      · exact m3 h2 (pl + 1) (by omega) (by rw [r23]) (fun c h1 h2 => zn c (by omega)) (zn 64 (by decide)) (by rw [zn 52 (by decide)])
      · rw [r23]
      · exact z52 23 (by decide)
end SkStroke
/-! feed -/
def by8 (x : Int32) (s : Nat) : Nat := x.toBitVec.toNat / 2 ^ s % 256
theorem by8_lt (x : Int32) (s : Nat) : by8 x s < 256 := Nat.mod_lt _ (by decide)
theorem u_val (u : UInt32) (s : UInt32) (n : Nat) (hs : s.toNat = n) (hn : n < 32) : (((u >>> s) &&& 255) % 65536).toUInt16.toUInt32.toNat = u.toNat / 2 ^ n % 256 := by
  rw [UInt16.toNat_toUInt32, UInt32.toNat_toUInt16, UInt32.toNat_mod, UInt32.toNat_and, UInt32.toNat_shiftRight, hs, Nat.mod_eq_of_lt hn, Nat.shiftRight_eq_div_pow]
  have e : (255 : UInt32).toNat = 2 ^ 8 - 1 := by decide
  have e2 : (65536 : UInt32).toNat = 65536 := by decide
  rw [e, e2, Nat.and_two_pow_sub_one_eq_mod]
  omega
theorem c_val (x : Int32) (n : Nat) (hn : n ≤ 3) : ((((((x.toUInt32 >>> ((nI (8 * n)).toUInt32 &&& Int32.toUInt32 31)).toInt32) &&& (255 : Int32)).toUInt32 % 65536).toInt32).toUInt32.toUInt16.toUInt32.toInt32) = nI (by8 x (8 * n)) := by
  have hs : ((nI (8 * n)).toUInt32 &&& Int32.toUInt32 31).toNat = 8 * n := by
    rcases (show n = 0 ∨ n = 1 ∨ n = 2 ∨ n = 3 by omega) with rfl | rfl | rfl | rfl <;> decide
  have e := u_val x.toUInt32 _ (8 * n) hs (by omega)
  refine Int32.toBitVec_inj.mp (BitVec.eq_of_toNat_eq ?_)
  refine Eq.trans e ?_
  have h1 := by8_lt x (8 * n)
  show by8 x (8 * n) = (nI (by8 x (8 * n))).toBitVec.toNat
  rw [pk_tn (by omega)]
theorem m_val (x : Int32) (n : Nat) (hn : n ≤ 3) : ((x >>> (nI (8 * n) &&& 31)).toInt8.toInt32).toInt8.toInt32 = sx (by8 x (8 * n)) := by
  rw [Int8.toInt8_toInt32]
  unfold sx
  congr 1
  refine Int8.toBitVec_inj.mp (BitVec.eq_of_getLsbD_eq fun i hi => ?_)
  rw [Int32.toBitVec_toInt8, Int32.toBitVec_toInt8, BitVec.getLsbD_signExtend, BitVec.getLsbD_signExtend]
  have hi2 : i < 32 := by omega
  simp only [hi, hi2, decide_true, Bool.true_and, if_true]
  have h1 := b_sshr (8 * n) (by omega) x hi2
  rw [if_pos (by omega)] at h1
  refine Eq.trans h1 ?_
  refine Eq.trans ?_ (bt_nI _ hi2).symm
  show x.toBitVec.toNat.testBit (8 * n + i) = (x.toBitVec.toNat / 2 ^ (8 * n) % 2 ^ 8).testBit i
  rw [Nat.testBit_mod_two_pow, decide_eq_true hi, Bool.true_and, Nat.testBit_div_two_pow]
  congr 1
  omega
def P21 (a i : Nat) : Bool := a == 21 || (a == 20 && i == 1)
def P53 (a i : Nat) : Bool := a == 53 || (a == 52 && i == 1)
def Tc (h : sk_H) (T : Nat) (t : Nat → Nat) : Prop := hI h 20 1 = nI T ∧ ∀ i, i < T → hI h 21 i = nI (t i)
def Tm (h : sk_H) (T : Nat) (t : Nat → Nat) : Prop := hI h 52 1 = nI T ∧ ∀ i, i < T → hI h 53 i = sx (t i)
def ex8 (t : Nat → Nat) (T n : Nat) (x : Int32) (i : Nat) : Nat := if T ≤ i then by8 x (8 * (n - 1 - (i - T))) else t i
theorem ex8_s (t : Nat → Nat) (T n : Nat) (x : Int32) : ex8 (fun i => if i = T then by8 x (8 * n) else t i) (T + 1) n x = ex8 t T (n + 1) x := by
  funext i
  unfold ex8
  dsimp only
  by_cases q1 : T + 1 ≤ i
  · rw [if_pos q1, if_pos (by omega)]
    congr 2
    omega
  · rw [if_neg q1]
    by_cases q2 : i = T
    · rw [if_pos q2, if_pos (by omega)]
      congr 2
      omega
    · rw [if_neg q2, if_neg (by omega)]
theorem ex8_b {t : Nat → Nat} {T n : Nat} (x : Int32) (ht : ∀ i, i < T → t i < 256) (i : Nat) : ex8 t T n x i < 256 := by
  unfold ex8
  by_cases q : T ≤ i
  · rw [if_pos q]; exact by8_lt _ _
  · rw [if_neg q]; exact ht i (by omega)
section SkFeed
variable {L : Nat} {xs : Nat → Int32} {h : sk_H} {d : Nat}
theorem sI_s (n : Nat) : nI (8 * (n + 1)) + (-8) = nI (8 * n) := by
  have : nI (8 * n) + nI 8 = nI (8 * (n + 1)) := by rw [nI_add]; rfl
  rw [← this, Int32.add_assoc, show nI 8 + (-8 : Int32) = 0 from by decide, Int32.add_zero]
theorem put_in (x : Int32) : ∀ (n T : Nat) (t : Nat → Nat) (h : sk_H), n ≤ 4 → T + n ≤ 400 → CS h → Tc h T t → ∃ h', k_SR_putBytes_3 d (some 20) x (nI (8 * n) + (-8)) h = some h' ∧ Iq P21 h h' ∧ Tc h' (T + n) (ex8 t T n x)
  | 0, T, t, h, hn, hT, C, X => by
    refine ⟨h, ?_, Iq.refl h, X.1, fun i hi => ?_⟩
    · rw [e_SR_putBytes_3, if_pos (by decide)]
    · unfold ex8
      rw [if_neg (by omega)]
      exact X.2 i (by omega)
  | n + 1, T, t, h, hn, hT, C, X => by
    obtain ⟨h', e1, e2, e3⟩ := put_in x n (T + 1) (fun i => if i = T then by8 x (8 * n) else t i) (wI (wI h 21 T (nI (by8 x (8 * n)))) 20 1 (nI (T + 1))) (by omega) (by omega) C ⟨by rw [hI_wI, if_pos ⟨rfl, rfl⟩], fun i hi => by
      show _ = nI (if i = T then by8 x (8 * n) else t i)
      rw [hI_wI_n _ _ _ (by decide), hI_wI]
      by_cases q : i = T
      · rw [if_pos ⟨rfl, q⟩, if_pos q]
      · rw [if_neg (fun r => q r.2), if_neg q]; exact X.2 i (by omega)⟩
    rw [ex8_s, show T + 1 + n = T + (n + 1) by omega] at e3
    refine ⟨h', ?_, ((Iq.w _ _ rfl).trans (Iq.w _ _ rfl)).trans e2, e3⟩
    rw [← e1, sI_s, e_SR_putBytes_3]
    have hv := c_val x n (by omega)
    have e8 : ¬ nI (8 * n) < 0 := nI_pos (by omega)
    have x1 := X.1
    rw [if_neg e8]
    simp only [hv]
    simp (disch := omega) only [C.k20, C.k21, C.n21, C.r20_0, ↓bnd C.r20_0, ↓reduceIte, ↓Option.bind_some, if_true, if_false, true_and, and_true, and_self, true_or, or_true, false_or, or_false, not_true_eq_false, not_false_eq_true, Option.bind_some, somene, false_and, and_false, reduceCtorEq, Nat.reduceEqDiff, hK_wI, hN_wI, hn_wI, hs_wI, hJ_wI, hR_wI, hK_wJ, hN_wJ, hn_wJ, hs_wJ, hI_wJ, hR_wJ, hK_wR, hN_wR, hn_wR, hs_wR, hI_wR, hJ_wR, hI_wI, x1, l400, l1, q_le_f, q_in, q_cl, nI_add]
theorem four_in (x : Int32) : ∀ (n T : Nat) (t : Nat → Nat) (h : sk_H), n ≤ 4 → T + n ≤ 400 → MS 52 h → Tm h T t → ∃ h', k_M_four_3 d (some 52) x (nI (8 * n) + (-8)) h = some h' ∧ Iq P53 h h' ∧ Tm h' (T + n) (ex8 t T n x)
  | 0, T, t, h, hn, hT, C, X => by
    refine ⟨h, ?_, Iq.refl h, X.1, fun i hi => ?_⟩
    · rw [e_M_four_3, if_pos (by decide)]
    · unfold ex8
      rw [if_neg (by omega)]
      exact X.2 i (by omega)
  | n + 1, T, t, h, hn, hT, M, X => by
    obtain ⟨h', e1, e2, e3⟩ := four_in x n (T + 1) (fun i => if i = T then by8 x (8 * n) else t i) (wI (wI h 53 T (sx (by8 x (8 * n)))) 52 1 (nI (T + 1))) (by omega) (by omega) M ⟨by rw [hI_wI, if_pos ⟨rfl, rfl⟩], fun i hi => by
      show _ = sx (if i = T then by8 x (8 * n) else t i)
      rw [hI_wI_n _ _ _ (by decide), hI_wI]
      by_cases q : i = T
      · rw [if_pos ⟨rfl, q⟩, if_pos q]
      · rw [if_neg (fun r => q r.2), if_neg q]; exact X.2 i (by omega)⟩
    rw [ex8_s, show T + 1 + n = T + (n + 1) by omega] at e3
    refine ⟨h', ?_, ((Iq.w _ _ rfl).trans (Iq.w _ _ rfl)).trans e2, e3⟩
    rw [← e1, sI_s, e_M_four_3]
    have hv := m_val x n (by omega)
    have e8 : ¬ nI (8 * n) < 0 := nI_pos (by omega)
    have x1 := X.1
    rw [if_neg e8]
    simp only [hv]
    simp (disch := omega) only [M.K52, M.K53, M.N53, M.R0, ↓bnd M.R0, ↓reduceIte, ↓Option.bind_some, if_true, if_false, true_and, and_true, and_self, true_or, or_true, false_or, or_false, not_true_eq_false, not_false_eq_true, Option.bind_some, somene, false_and, and_false, reduceCtorEq, Nat.reduceEqDiff, hK_wI, hN_wI, hn_wI, hs_wI, hJ_wI, hR_wI, hK_wJ, hN_wJ, hn_wJ, hs_wJ, hI_wJ, hR_wJ, hK_wR, hN_wR, hn_wR, hs_wR, hI_wR, hJ_wR, hI_wI, x1, l1, q_in, q_cl, nI_add]
theorem put_ok (x : Int32) {T : Nat} {t : Nat → Nat} (hT : T + 4 ≤ 400) (C : CS h) (X : Tc h T t) : ∃ h', c_SR_putBytes d (some 20) x h = some h' ∧ Iq P21 h h' ∧ CS h' ∧ Tc h' (T + 4) (ex8 t T 4 x) := by
  obtain ⟨h', e1, e2, e3⟩ := put_in (d := d) x 4 T t h (by omega) hT C X
  exact ⟨h', by rw [e_SR_putBytes]; exact e1, e2, C.ir e2, e3⟩
theorem four_ok (x : Int32) {T : Nat} {t : Nat → Nat} (hT : T + 4 ≤ 400) (M : MS 52 h) (X : Tm h T t) : ∃ h', c_M_four d (some 52) x h = some h' ∧ Iq P53 h h' ∧ MS 52 h' ∧ Tm h' (T + 4) (ex8 t T 4 x) := by
  obtain ⟨h', e1, e2, e3⟩ := four_in (d := d) x 4 T t h (by omega) hT M X
  exact ⟨h', by rw [e_M_four]; exact e1, e2, M.ir e2, e3⟩
def lF : List Nat := [20, 21, 52, 53]
theorem clF {R : Nat → Nat → Bool} (hP : ∀ c i, R c i = true → cl lF c = true) : ∀ c, cl lF c = false → ∀ i, R c i = false := by
  intro c hc i
  cases hq : R c i
  · rfl
  · rw [hP c i hq] at hc; cases hc
theorem P21_F : ∀ c i, P21 c i = true → cl lF c = true := by
  intro c i hc
  unfold P21 at hc
  rw [Bool.or_eq_true, Bool.and_eq_true] at hc
  rcases hc with q | ⟨q, -⟩
  · rw [eq_of_beq q]; rfl
  · rw [eq_of_beq q]; rfl
theorem P53_F : ∀ c i, P53 c i = true → cl lF c = true := by
  intro c i hc
  unfold P53 at hc
  rw [Bool.or_eq_true, Bool.and_eq_true] at hc
  rcases hc with q | ⟨q, -⟩
  · rw [eq_of_beq q]; rfl
  · rw [eq_of_beq q]; rfl
theorem Iq.n21 {h1 : sk_H} (Q : Iq P21 h h1) {c i : Nat} (hc : c ≠ 21) (hc2 : c = 20 → i ≠ 1) : hI h1 c i = hI h c i := Q.I (by
  unfold P21
  rw [beq_false_of_ne hc, Bool.false_or]
  by_cases q : c = 20
  · rw [beq_false_of_ne (hc2 q), Bool.and_false]
  · rw [beq_false_of_ne q, Bool.false_and])
theorem Iq.n53 {h1 : sk_H} (Q : Iq P53 h h1) {c i : Nat} (hc : c ≠ 53) (hc2 : c = 52 → i ≠ 1) : hI h1 c i = hI h c i := Q.I (by
  unfold P53
  rw [beq_false_of_ne hc, Bool.false_or]
  by_cases q : c = 52
  · rw [beq_false_of_ne (hc2 q), Bool.and_false]
  · rw [beq_false_of_ne q, Bool.false_and])
theorem q_feed (a0 a1 a2 a3 a4 : Int32) : sk_Ag (JJ L xs) L xs 52 (fun h => c_SR_feed 40 (some 20) a0 a1 a2 a3 a4 h) (fun h => c_M_feed 40 (some 52) a0 a1 a2 a3 a4 h) := by
  refine Ag_chg lF ⟨by decide, cl73 (by decide), by decide⟩ (fun j h F E st tu pl hj J => ?_)
  have C := J.2.1
  have M := J.2.2.1
  obtain ⟨T, t, t1, t2, t3, t4⟩ := J.2.2.2.2.2.1
  rcases Nat.lt_or_ge 400 (T + 20) with hT | hT
  · refine Or.inl ⟨nM, ?_, ?_⟩
    · show c_SR_feed 40 (some 20) a0 a1 a2 a3 a4 h = _
      rw [e_SR_feed]
      simp (disch := omega) only [↓reduceIte, ↓Option.bind_some, if_true, if_false, true_and, and_true, and_self, true_or, or_true, false_or, or_false, not_true_eq_false, not_false_eq_true, Option.bind_some, somene, false_and, and_false, reduceCtorEq, Nat.reduceEqDiff, C.k20, t2, l20, l400, nI_add, q_le_f, l1, lm1]
    · show c_M_feed 40 (some 52) a0 a1 a2 a3 a4 h = _
      rw [e_M_feed]
      simp (disch := omega) only [↓reduceIte, ↓Option.bind_some, if_true, if_false, true_and, and_true, and_self, true_or, or_true, false_or, or_false, not_true_eq_false, not_false_eq_true, Option.bind_some, somene, false_and, and_false, reduceCtorEq, Nat.reduceEqDiff, M.K52, t3, l20, l400, nI_add, q_le_f, l1, lm1]
  · obtain ⟨h1, u1, v1, C1, X1⟩ := put_ok (d := 40) a0 (T := T) (t := t) (by omega) C ⟨t2, fun i hi => (t4 i hi).2.1⟩
    obtain ⟨h2, u2, v2, C2, X2⟩ := put_ok (d := 40) a1 (by omega) C1 X1
    obtain ⟨h3, u3, v3, C3, X3⟩ := put_ok (d := 40) a2 (by omega) C2 X2
    obtain ⟨h4, u4, v4, C4, X4⟩ := put_ok (d := 40) a3 (by omega) C3 X3
    obtain ⟨h5, u5, v5, C5, X5⟩ := put_ok (d := 40) a4 (by omega) C4 X4
    have V := (((v1.trans v2).trans v3).trans v4).trans v5
    have M5 := M.ir V
    obtain ⟨g1, w1, z1, M1', Y1⟩ := four_ok (d := 40) a0 (T := T) (t := t) (by omega) M5 ⟨by rw [V.n21 (by decide) (by decide)]; exact t3, fun i hi => by rw [V.n21 (by decide) (fun q => absurd q (by decide))]; exact (t4 i hi).2.2⟩
    obtain ⟨g2, w2, z2, M2', Y2⟩ := four_ok (d := 40) a1 (by omega) M1' Y1
    obtain ⟨g3, w3, z3, M3', Y3⟩ := four_ok (d := 40) a2 (by omega) M2' Y2
    obtain ⟨g4, w4, z4, M4', Y4⟩ := four_ok (d := 40) a3 (by omega) M3' Y3
    obtain ⟨g5, w5, z5, M5', Y5⟩ := four_ok (d := 40) a4 (by omega) M4' Y4
    have Z := (((z1.trans z2).trans z3).trans z4).trans z5
    have K1 : Ck (cl lF) h h5 := V.ck (clF P21_F)
    have K2 : Ck (cl lF) h5 g5 := Z.ck (clF P53_F)
    have n0 : ∀ c i, c ≠ 21 → c ≠ 53 → (c = 20 → i ≠ 1) → (c = 52 → i ≠ 1) → hI g5 c i = hI h c i := fun c i q1 q2 q3 q4 => by rw [Z.n53 q2 q4, V.n21 q1 q3]
    have nc : ∀ c, c ≠ 21 → c ≠ 53 → c ≠ 20 → c ≠ 52 → hI g5 c = hI h c := fun c q1 q2 q3 q4 => funext fun i => n0 c i q1 q2 (fun q => absurd q q3) (fun q => absurd q q4)
    have eR : hR g5 = hR h := by rw [Z.eR, V.eR]
    refine Or.inr ⟨h5, g5, nI (T + 4 + 4 + 4 + 4 + 4), st, tu, pl, ?_, K1, ?_, K2, C5.ir Z, M5', ?_, n0 20 3 (by decide) (by decide) (by decide) (by decide), n0 52 2 (by decide) (by decide) (by decide) (by decide), ?_, ?_, ?_, ?_, by rw [eR], n0 52 23 (by decide) (by decide) (by decide) (by decide)⟩
    · show c_SR_feed 40 (some 20) a0 a1 a2 a3 a4 h = _
      rw [e_SR_feed]
      have x5 := X5.1
      simp (disch := omega) only [↓reduceIte, ↓Option.bind_some, if_true, if_false, true_and, and_true, and_self, true_or, or_true, false_or, or_false, not_true_eq_false, not_false_eq_true, Option.bind_some, somene, false_and, and_false, reduceCtorEq, Nat.reduceEqDiff, C.k20, C1.k20, C2.k20, C3.k20, C4.k20, C5.k20, t2, l20, l400, nI_add, q_le_t, u1, u2, u3, u4, u5, x5]
    · show c_M_feed 40 (some 52) a0 a1 a2 a3 a4 h5 = _
      rw [e_M_feed]
      have y5 := Y5.1
      have t5 : hI h5 52 1 = nI T := by rw [V.n21 (by decide) (by decide)]; exact t3
      simp (disch := omega) only [↓reduceIte, ↓Option.bind_some, if_true, if_false, true_and, and_true, and_self, true_or, or_true, false_or, or_false, not_true_eq_false, not_false_eq_true, Option.bind_some, somene, false_and, and_false, reduceCtorEq, Nat.reduceEqDiff, M5.K52, M1'.K52, M2'.K52, M3'.K52, M4'.K52, M5'.K52, t5, l20, l400, nI_add, q_le_t, w1, w2, w3, w4, w5, y5]
    · refine ⟨T + 4 + 4 + 4 + 4 + 4, ex8 (ex8 (ex8 (ex8 (ex8 t T 4 a0) (T + 4) 4 a1) (T + 4 + 4) 4 a2) (T + 4 + 4 + 4) 4 a3) (T + 4 + 4 + 4 + 4) 4 a4, by omega, ?_, Y5.1, fun i hi => ⟨?_, ?_, Y5.2 i hi⟩⟩
      · rw [Z.n53 (by decide) (by decide)]; exact X5.1
      · exact ex8_b _ (fun i _ => ex8_b _ (fun i _ => ex8_b _ (fun i _ => ex8_b _ (fun i _ => ex8_b _ (fun i hi => (t4 i hi).1) i) i) i) i) i
      · rw [Z.n53 (by decide) (fun q => absurd q (by decide))]; exact X5.2 i hi
    · have := J.2.2.2.2.2.2.2.2.1; omega
    · exact J.2.2.2.2.2.2.2.2.2.1.fr (by rw [nc 23 (by decide) (by decide) (by decide) (by decide)]) (by rw [nc 23 (by decide) (by decide) (by decide) (by decide)]) (by rw [nc 23 (by decide) (by decide) (by decide) (by decide)]) (by rw [eR]) (nc 24 (by decide) (by decide) (by decide) (by decide)) (nc 25 (by decide) (by decide) (by decide) (by decide)) (by rw [eR]) (fun c hc => (K1.trans K2).same (cl73 (by decide) c (J.2.2.2.1.1 c hc))) (fun k _ => by rw [nc 62 (by decide) (by decide) (by decide) (by decide)])
    · rw [nc 23 (by decide) (by decide) (by decide) (by decide), n0 52 21 (by decide) (by decide) (by decide) (by decide)]
      exact J.2.2.2.2.2.2.2.2.2.2.1
    · exact J.2.2.2.2.2.2.2.2.2.2.2.1.kp (by rw [eR]) (nc 28 (by decide) (by decide) (by decide) (by decide)) (nc 29 (by decide) (by decide) (by decide) (by decide)) (nc 30 (by decide) (by decide) (by decide) (by decide)) (nc 31 (by decide) (by decide) (by decide) (by decide)) (nc 64 (by decide) (by decide) (by decide) (by decide)) (n0 52 25 (by decide) (by decide) (by decide) (by decide))
end SkFeed
