/-! ===== the words of a rule: the class, the reference ===== -/
def wvF (D : DD) (st tu pl : Nat) (x : Nat × Nat) : Nat → Int64
  | 0 => tL x.1
  | 1 => tL x.2
  | 2 => tL (aRow (dA D) x.1)
  | 3 => tL (pc st)
  | 4 => tL (pc (aT (dA D) st x))
  | 5 => tL (rn1 (dA D) (aT (dA D) st x))
  | 6 => tL (rn2 (dA D) (aT (dA D) st x))
  | 7 => tL (rn3 (dA D) (aT (dA D) st x))
  | 8 => if wD D (aT (dA D) st x) = true then 0 else 1
  | 9 => tL tu
  | 10 => tL pl
  | _ => 0
section SkWords
variable {F G : Nat → Prop} {h h' h1 h2 : sk_H} {j st tu pl a m p k n i l r s : Nat} {D : DD} {c : Nat → Nat} {d : Nat} {A : AD} {H : Nat} {E L : Bool} {x : Nat × Nat}
theorem M_fw_J (d : Nat) (w : aW A) (hH : H < 16) : ∀ (c m : Nat) (h h' : sk_H), m + c = 2 ^ aN A → MS 52 h → aSaid A (hI h 62) → (∀ j, j < m → hI h 63 j = bi (wA A H E L j)) → k_M_fillsWon_32 d (some 52) (nI H) (bi E) (bi L) (nI m) h = some h' → h'.2.2 = h.2.2 ∧ ∀ i, 34 ≤ i → hI h' 52 i = hI h 52 i
  | 0, m, h, h', hc, M, S, T, e => by
    have hp := pow12 w.1
    have w1 := w.1
    rw [e_M_fillsWon_32] at e
    simp (disch := omega) only [M.K52, M.R0, M.R3, M.R4, M.R5, M.R6, M.R7, M.R15, M.R17, M.R19, M.R20, M.R22, M.R24, M.R26, M.R27, M.R28, M.R29, M.R30, M.R37, M.R38, M.R39, ↓bnd M.R0, ↓bnd M.R3, ↓bnd M.R4, ↓bnd M.R5, ↓bnd M.R6, ↓bnd M.R7, ↓bnd M.R15, ↓bnd M.R17, ↓bnd M.R19, ↓bnd M.R20, ↓bnd M.R22, ↓bnd M.R24, ↓bnd M.R26, ↓bnd M.R27, ↓bnd M.R28, ↓bnd M.R29, ↓bnd M.R30, ↓bnd M.R37, ↓bnd M.R38, ↓bnd M.R39, M.K53, M.K54, M.K55, M.K56, M.K57, M.K58, M.K59, M.K60, M.K61, M.K62, M.K63, M.K64, M.K65, M.K66, M.K67, M.K68, M.K69, M.K70, M.K71, M.K72, M.N53, M.N54, M.N55, M.N56, M.N57, M.N58, M.N59, M.N60, M.N61, M.N62, M.N63, M.N64, M.N65, M.N66, M.N67, M.N68, M.N69, M.N70, M.N71, M.N72, l1, l31, nI_clamp, q_in, S.1, ↓reduceIte, ↓Option.bind_some, if_true, if_false, true_and, and_true, and_self, true_or, or_true, false_or, or_false, not_true_eq_false, not_false_eq_true, Option.bind_some, somene, false_and, and_false, reduceCtorEq, Nat.reduceEqDiff, two_shl, q_le_t] at e
    rw [Option.some.inj e]
    exact ⟨rfl, fun _ _ => rfl⟩
  | c + 1, m, h, h', hc, M, S, T, e => by
    have hp := pow12 w.1
    have w1 := w.1
    rw [e_M_fillsWon_32] at e
    simp (disch := omega) only [M.K52, M.R0, M.R3, M.R4, M.R5, M.R6, M.R7, M.R15, M.R17, M.R19, M.R20, M.R22, M.R24, M.R26, M.R27, M.R28, M.R29, M.R30, M.R37, M.R38, M.R39, ↓bnd M.R0, ↓bnd M.R3, ↓bnd M.R4, ↓bnd M.R5, ↓bnd M.R6, ↓bnd M.R7, ↓bnd M.R15, ↓bnd M.R17, ↓bnd M.R19, ↓bnd M.R20, ↓bnd M.R22, ↓bnd M.R24, ↓bnd M.R26, ↓bnd M.R27, ↓bnd M.R28, ↓bnd M.R29, ↓bnd M.R30, ↓bnd M.R37, ↓bnd M.R38, ↓bnd M.R39, M.K53, M.K54, M.K55, M.K56, M.K57, M.K58, M.K59, M.K60, M.K61, M.K62, M.K63, M.K64, M.K65, M.K66, M.K67, M.K68, M.K69, M.K70, M.K71, M.K72, M.N53, M.N54, M.N55, M.N56, M.N57, M.N58, M.N59, M.N60, M.N61, M.N62, M.N63, M.N64, M.N65, M.N66, M.N67, M.N68, M.N69, M.N70, M.N71, M.N72, l0, l1, l31, nI_clamp, q_in, S.1, ↓reduceIte, ↓Option.bind_some, if_true, if_false, true_and, and_true, and_self, true_or, or_true, false_or, or_false, not_true_eq_false, not_false_eq_true, Option.bind_some, somene, false_and, and_false, reduceCtorEq, Nat.reduceEqDiff, two_shl, q_le_f] at e
    rw [M_fw_m d M w S hH (by omega) T] at e
    obtain ⟨u1, u2⟩ := M_fw_J d w hH c (m + 1) (wI h 63 m (bi (wA A H E L m))) h' (by omega) M S (fun j hj => by
      rw [hI_wI]
      by_cases hq : j = m
      · rw [if_pos ⟨rfl, hq⟩, hq]
      · rw [if_neg (fun q => hq q.2)]; exact T j (by omega)) e
    exact ⟨u1, fun i hi => (u2 i hi).trans (by rw [hI_wI, if_neg (fun q => by omega)])⟩
theorem M_fillsWon_J (d : Nat) (M : MS 52 h) (w : aW A) (S : aSaid A (hI h 62)) (hH : H < 16) (E L : Bool) (e : c_M_fillsWon d (some 52) (nI H) (bi E) (bi L) h = some h') : h'.2.2 = h.2.2 ∧ ∀ i, 34 ≤ i → hI h' 52 i = hI h 52 i := by
  have hl := lw_lt E L hH
  rw [e_M_fillsWon] at e
  simp (disch := omega) only [M.K52, M.R0, M.R3, M.R4, M.R5, M.R6, M.R7, M.R15, M.R17, M.R19, M.R20, M.R22, M.R24, M.R26, M.R27, M.R28, M.R29, M.R30, M.R37, M.R38, M.R39, ↓bnd M.R0, ↓bnd M.R3, ↓bnd M.R4, ↓bnd M.R5, ↓bnd M.R6, ↓bnd M.R7, ↓bnd M.R15, ↓bnd M.R17, ↓bnd M.R19, ↓bnd M.R20, ↓bnd M.R22, ↓bnd M.R24, ↓bnd M.R26, ↓bnd M.R27, ↓bnd M.R28, ↓bnd M.R29, ↓bnd M.R30, ↓bnd M.R37, ↓bnd M.R38, ↓bnd M.R39, M.K53, M.K54, M.K55, M.K56, M.K57, M.K58, M.K59, M.K60, M.K61, M.K62, M.K63, M.K64, M.K65, M.K66, M.K67, M.K68, M.K69, M.K70, M.K71, M.K72, M.N53, M.N54, M.N55, M.N56, M.N57, M.N58, M.N59, M.N60, M.N61, M.N62, M.N63, M.N64, M.N65, M.N66, M.N67, M.N68, M.N69, M.N70, M.N71, M.N72, l16, l32, lw_code, ↓reduceIte, ↓Option.bind_some, if_true, if_false, true_and, and_true, and_self, true_or, or_true, false_or, or_false, not_true_eq_false, not_false_eq_true, Option.bind_some, somene, false_and, and_false, reduceCtorEq, Nat.reduceEqDiff, l0] at e
  by_cases hq : hI h 52 23 = nI (lwN H E L)
  · simp only [hq, ↓reduceIte, ↓Option.bind_some, if_true, if_false, true_and, and_true, and_self, true_or, or_true, false_or, or_false, not_true_eq_false, not_false_eq_true, Option.bind_some, somene, false_and, and_false, reduceCtorEq, Nat.reduceEqDiff] at e
    rw [Option.some.inj e]
    exact ⟨rfl, fun _ _ => rfl⟩
  · simp only [hq, ↓reduceIte, ↓Option.bind_some, if_true, if_false, true_and, and_true, and_self, true_or, or_true, false_or, or_false, not_true_eq_false, not_false_eq_true, Option.bind_some, somene, false_and, and_false, reduceCtorEq, Nat.reduceEqDiff] at e
    obtain ⟨u1, u2⟩ := M_fw_J (E := E) (L := L) d w hH (2 ^ aN A) 0 (wI h 52 23 (nI (lwN H E L))) h' (by omega) M S (fun j hj => absurd hj (by omega)) e
    exact ⟨u1, fun i hi => (u2 i hi).trans (by rw [hI_wI, if_neg (fun q => by omega)])⟩
/-- won, and no long changes -/
theorem M_won_J (d : Nat) (M : MS 52 h) (w : dW D) (S : mSaid D (hI h 62)) (X : MWon (dA D) h) (hm : m < 2 ^ aN (dA D)) : ∃ h', c_M_isWonAt d (some 52) (nI m) h = some (h', bi (wD D m)) ∧ Mq h h' ∧ MWon (dA D) h' ∧ hJ h' = hJ h ∧ ∀ i, 34 ≤ i → hI h' 52 i = hI h 52 i := by
  obtain ⟨S1, S2, S3, S4, S5, S6⟩ := id S
  obtain ⟨h', e1, Q, e2, e3⟩ := M_fillsWon_ok d M w.1 S1 X w.2.2.1 (dE D) (dL D)
  have ej := M_fillsWon_J d M w.1 S1 w.2.2.1 (dE D) (dL D) e1
  have M' := M.mq Q
  have hp := pow12 w.1.1
  have fn : c_M_fillsNow d (some 52) h = some h' := by
    rw [e_M_fillsNow]
    simp (disch := omega) only [M.K52, M.R0, M.R3, M.R4, M.R5, M.R6, M.R7, M.R15, M.R17, M.R19, M.R20, M.R22, M.R24, M.R26, M.R27, M.R28, M.R29, M.R30, M.R37, M.R38, M.R39, ↓bnd M.R0, ↓bnd M.R3, ↓bnd M.R4, ↓bnd M.R5, ↓bnd M.R6, ↓bnd M.R7, ↓bnd M.R15, ↓bnd M.R17, ↓bnd M.R19, ↓bnd M.R20, ↓bnd M.R22, ↓bnd M.R24, ↓bnd M.R26, ↓bnd M.R27, ↓bnd M.R28, ↓bnd M.R29, ↓bnd M.R30, ↓bnd M.R37, ↓bnd M.R38, ↓bnd M.R39, M.K53, M.K54, M.K55, M.K56, M.K57, M.K58, M.K59, M.K60, M.K61, M.K62, M.K63, M.K64, M.K65, M.K66, M.K67, M.K68, M.K69, M.K70, M.K71, M.K72, M.N53, M.N54, M.N55, M.N56, M.N57, M.N58, M.N59, M.N60, M.N61, M.N62, M.N63, M.N64, M.N65, M.N66, M.N67, M.N68, M.N69, M.N70, M.N71, M.N72, hK_wI, hN_wI, hn_wI, hs_wI, hJ_wI, hR_wI, hK_wJ, hN_wJ, hn_wJ, hs_wJ, hI_wJ, hR_wJ, hK_wR, hN_wR, hn_wR, hs_wR, hI_wR, hJ_wR, ↓reduceIte, ↓Option.bind_some, if_true, if_false, true_and, and_true, and_self, true_or, or_true, false_or, or_false, not_true_eq_false, not_false_eq_true, Option.bind_some, somene, false_and, and_false, reduceCtorEq, Nat.reduceEqDiff, aa101, aa102, aa103, aa104, aa105, aa106, aa107, aa108, aa201, aa202, aa204, ar106, ar107, ar108, ofn, q_le_t, q_le_f, q_lt_t, q_lt_f, q_eq_t, q_eq_f, nI_add, q_sub, q_in, q_cl, q_m1, q_1m, q_ltm, q_mlt, q_lem, q_mle, q_bi0, q_bi1, lm1, lm2, q_nan, q_an, q_mlt0, q_mle0, l0, l1, l2, l3, l4, l5, l6, l7, l8, l9, l10, l11, l12, l13, l14, l15, l16, l17, l18, l19, l20, l22, l23, l24, l26, l28, l30, l31, l32, l40, l41, l48, l50, l59, l60, l64, l70, l100, l103, l184, l255, l256, l400, l10000, l65536, l100000, l99999, l736, S3, S4, S5, e1]
  refine ⟨h', ?_, Q, MWon_of w.2.2.1 e2 e3, congrArg (fun x => x.1) ej.1, ej.2⟩
  rw [e_M_isWonAt]
  have e4 := e3 m hm
  have e4 : hI h' 63 m = bi (wD D m) := e4
  simp only [M.K52, ↓reduceIte, ↓Option.bind_some, if_true, if_false, true_and, and_true, and_self, true_or, or_true, false_or, or_false, not_true_eq_false, not_false_eq_true, Option.bind_some, somene, false_and, and_false, reduceCtorEq, Nat.reduceEqDiff, fn, M'.K52, M'.R22, M'.K63, M'.N63, q_in (i := m) (N := 4096) (by omega) (by omega), nI_clamp (n := m) (by omega), e4, l0, l1, bi_01]
theorem bR_wJ {β : Type} (h : sk_H) (a i : Nat) (v : Int64) (b k : Nat) (f : Nat → Option β) : Option.bind (hR (wJ h a i v) b k) f = Option.bind (hR h b k) f := rfl
theorem bR_wI {β : Type} (h : sk_H) (a i : Nat) (v : Int32) (b k : Nat) (f : Nat → Option β) : Option.bind (hR (wI h a i v) b k) f = Option.bind (hR h b k) f := rfl
theorem bits_b {β : Type} (hm : m < 4096) (h : sk_H) (f : sk_H × Int32 → Option β) : Option.bind (c_M_bits d (nI m) h) f = f (h, nI (pc m)) := by rw [M_bits_ok hm]; rfl
theorem bc_b {β : Type} (hm : m < 4096) (h : sk_H) (f : sk_H × Int32 → Option β) : Option.bind (c_JI_bitCount d (nI m) h) f = f (h, nI (pc m)) := by rw [JI_bc_ok hm]; rfl
theorem M_words_ok (M : MS 52 h) (w : dW D) (S : mSaid D (hI h 62)) (X : MWon (dA D) h) (hst : st < 2 ^ aN (dA D)) (hp : x.1 < aN (dA D)) (h4 : x.2 ≤ 4) : ∃ h', c_M_words d (some 52) (nI st) (nI tu) (nI pl) (nI x.1) (nI x.2) h = some h' ∧ Mq h h' ∧ MWon (dA D) h' ∧ hJ h' 52 = hJ h 52 ∧ (∀ i, 34 ≤ i → hI h' 52 i = hI h 52 i) ∧ ∀ i, i < 11 → hJ h' 61 i = wvF D st tu pl x i := by
  have hst4 := p12 w.1 hst
  have hl := Nat.lt_of_le_of_lt (an_le st (sB (dA D) x.1 x.2)) hst
  have hl4 := p12 w.1 hl
  have w1 := w.1.1
  have sb := M_strokeBits_ok (b := 52) d M w.1 S.1 hp h4
  have ea : nI st &&& (nI (sB (dA D) x.1 x.2) ^^^ ((-1) : Int32)) = nI (an st (sB (dA D) x.1 x.2)) := nI_an _ hst4
  obtain ⟨hq, c1, c2, r1, r2, r3⟩ := M_runs_ok (d := d) w hl4 M S.1
  have cr : c_M_countsRuns d (some 52) (nI st &&& (nI (sB (dA D) x.1 x.2) ^^^ ((-1) : Int32))) h = some hq := by rw [ea]; exact c1
  have Mq' := M.ir c2
  have q62 : hI hq 62 = hI h 62 := funext fun i => c2.I (PRn_n (by decide))
  have Sq : mSaid D (hI hq 62) := by rw [q62]; exact S
  have Xq : MWon (dA D) hq := by
    unfold MWon
    have q63 : hI hq 63 = hI h 63 := funext fun i => c2.I (PRn_n (by decide))
    rw [q63, c2.I (by decide)]
    exact X
  have mb2 : ∀ {β : Type} (g : sk_H) (f : sk_H × Int32 → Option β), Option.bind (c_M_bits d (nI st &&& (nI (sB (dA D) x.1 x.2) ^^^ ((-1) : Int32))) g) f = f (g, nI (pc (an st (sB (dA D) x.1 x.2)))) := fun g f => by rw [ea]; exact bits_b hl4 g f
  have ro : c_M_rowOf d (some 52) (nI x.1) (wJ (wJ hq 61 (0 : Int32).toNatClampNeg (nI x.1).toInt64) 61 (1 : Int32).toNatClampNeg (nI x.2).toInt64) = some ((wJ (wJ hq 61 (0 : Int32).toNatClampNeg (nI x.1).toInt64) 61 (1 : Int32).toNatClampNeg (nI x.2).toInt64), nI (aRow (dA D) x.1)) := M_rowOf_ok (b := 52) (h := (wJ (wJ hq 61 (0 : Int32).toNatClampNeg (nI x.1).toInt64) 61 (1 : Int32).toNatClampNeg (nI x.2).toInt64)) d Mq' w.1 Sq.1 hp
  obtain ⟨h8, hh8⟩ : ∃ h8, h8 = (wJ (wJ (wJ (wJ (wJ (wJ (wJ (wJ hq 61 (0 : Int32).toNatClampNeg (nI x.1).toInt64) 61 (1 : Int32).toNatClampNeg (nI x.2).toInt64) 61 (2 : Int32).toNatClampNeg (nI (aRow (dA D) x.1)).toInt64) 61 (3 : Int32).toNatClampNeg (nI (pc st)).toInt64) 61 (4 : Int32).toNatClampNeg (nI (pc (an st (sB (dA D) x.1 x.2)))).toInt64) 61 (5 : Int32).toNatClampNeg (hI (wJ (wJ (wJ (wJ (wJ hq 61 (0 : Int32).toNatClampNeg (nI x.1).toInt64) 61 (1 : Int32).toNatClampNeg (nI x.2).toInt64) 61 (2 : Int32).toNatClampNeg (nI (aRow (dA D) x.1)).toInt64) 61 (3 : Int32).toNatClampNeg (nI (pc st)).toInt64) 61 (4 : Int32).toNatClampNeg (nI (pc (an st (sB (dA D) x.1 x.2)))).toInt64) 52 31).toInt64) 61 (6 : Int32).toNatClampNeg (hI (wJ (wJ (wJ (wJ (wJ (wJ hq 61 (0 : Int32).toNatClampNeg (nI x.1).toInt64) 61 (1 : Int32).toNatClampNeg (nI x.2).toInt64) 61 (2 : Int32).toNatClampNeg (nI (aRow (dA D) x.1)).toInt64) 61 (3 : Int32).toNatClampNeg (nI (pc st)).toInt64) 61 (4 : Int32).toNatClampNeg (nI (pc (an st (sB (dA D) x.1 x.2)))).toInt64) 61 (5 : Int32).toNatClampNeg (hI (wJ (wJ (wJ (wJ (wJ hq 61 (0 : Int32).toNatClampNeg (nI x.1).toInt64) 61 (1 : Int32).toNatClampNeg (nI x.2).toInt64) 61 (2 : Int32).toNatClampNeg (nI (aRow (dA D) x.1)).toInt64) 61 (3 : Int32).toNatClampNeg (nI (pc st)).toInt64) 61 (4 : Int32).toNatClampNeg (nI (pc (an st (sB (dA D) x.1 x.2)))).toInt64) 52 31).toInt64) 52 32).toInt64) 61 (7 : Int32).toNatClampNeg (hI (wJ (wJ (wJ (wJ (wJ (wJ (wJ hq 61 (0 : Int32).toNatClampNeg (nI x.1).toInt64) 61 (1 : Int32).toNatClampNeg (nI x.2).toInt64) 61 (2 : Int32).toNatClampNeg (nI (aRow (dA D) x.1)).toInt64) 61 (3 : Int32).toNatClampNeg (nI (pc st)).toInt64) 61 (4 : Int32).toNatClampNeg (nI (pc (an st (sB (dA D) x.1 x.2)))).toInt64) 61 (5 : Int32).toNatClampNeg (hI (wJ (wJ (wJ (wJ (wJ hq 61 (0 : Int32).toNatClampNeg (nI x.1).toInt64) 61 (1 : Int32).toNatClampNeg (nI x.2).toInt64) 61 (2 : Int32).toNatClampNeg (nI (aRow (dA D) x.1)).toInt64) 61 (3 : Int32).toNatClampNeg (nI (pc st)).toInt64) 61 (4 : Int32).toNatClampNeg (nI (pc (an st (sB (dA D) x.1 x.2)))).toInt64) 52 31).toInt64) 61 (6 : Int32).toNatClampNeg (hI (wJ (wJ (wJ (wJ (wJ (wJ hq 61 (0 : Int32).toNatClampNeg (nI x.1).toInt64) 61 (1 : Int32).toNatClampNeg (nI x.2).toInt64) 61 (2 : Int32).toNatClampNeg (nI (aRow (dA D) x.1)).toInt64) 61 (3 : Int32).toNatClampNeg (nI (pc st)).toInt64) 61 (4 : Int32).toNatClampNeg (nI (pc (an st (sB (dA D) x.1 x.2)))).toInt64) 61 (5 : Int32).toNatClampNeg (hI (wJ (wJ (wJ (wJ (wJ hq 61 (0 : Int32).toNatClampNeg (nI x.1).toInt64) 61 (1 : Int32).toNatClampNeg (nI x.2).toInt64) 61 (2 : Int32).toNatClampNeg (nI (aRow (dA D) x.1)).toInt64) 61 (3 : Int32).toNatClampNeg (nI (pc st)).toInt64) 61 (4 : Int32).toNatClampNeg (nI (pc (an st (sB (dA D) x.1 x.2)))).toInt64) 52 31).toInt64) 52 32).toInt64) 52 33).toInt64) := ⟨_, rfl⟩
  have M8 : MS 52 h8 := by rw [hh8]; exact Mq'
  have S8 : mSaid D (hI h8 62) := by rw [hh8]; exact Sq
  have X8 : MWon (dA D) h8 := by rw [hh8]; exact Xq
  have Q8 : Mq h h8 := by
    rw [hh8]
    refine (c2.mq (fun a i ha => ?_)).trans ((((((((Mq.vJ _ _ _ (by decide)).trans (Mq.vJ _ _ _ (by decide))).trans (Mq.vJ _ _ _ (by decide))).trans (Mq.vJ _ _ _ (by decide))).trans (Mq.vJ _ _ _ (by decide))).trans (Mq.vJ _ _ _ (by decide))).trans (Mq.vJ _ _ _ (by decide))).trans (Mq.vJ _ _ _ (by decide)))
    cases hr : PRn a i
    · rfl
    · unfold PRn at hr
      rw [Bool.and_eq_true, Bool.and_eq_true] at hr
      unfold pM at ha
      rw [hr.1] at ha
      have l1 := Nat.le_of_ble_eq_true hr.2.1
      have l2 := Nat.le_of_ble_eq_true hr.2.2
      have l3 : Nat.ble i 36 = true := Nat.ble_eq_true_of_le (by omega)
      rw [hr.2.1, l3] at ha
      simp at ha
  have J8 : ∀ i, hJ h8 52 i = hJ h 52 i := fun i => by
    rw [hh8]
    simp only [hJ_wJ, ↓reduceIte, ↓Option.bind_some, if_true, if_false, true_and, and_true, and_self, true_or, or_true, false_or, or_false, not_true_eq_false, not_false_eq_true, Option.bind_some, somene, false_and, and_false, reduceCtorEq, Nat.reduceEqDiff, c2.eJ, l0]
  have I8 : ∀ i, 34 ≤ i → hI h8 52 i = hI h 52 i := fun i hi => by
    rw [hh8]
    refine c2.I ?_
    unfold PRn
    rw [show Nat.ble i 33 = false from (Bool.eq_false_iff.mpr (fun q => by have := Nat.le_of_ble_eq_true q; omega)), Bool.and_false, Bool.and_false]
  have J61 : ∀ i, i < 8 → hJ h8 61 i = wvF D st tu pl x i := fun i hi => by
    rw [hh8]
    rcases (show i = 0 ∨ i = 1 ∨ i = 2 ∨ i = 3 ∨ i = 4 ∨ i = 5 ∨ i = 6 ∨ i = 7 by omega) with rfl | rfl | rfl | rfl | rfl | rfl | rfl | rfl <;> simp (disch := omega) only [hJ_wJ, hI_wJ, ↓reduceIte, ↓Option.bind_some, if_true, if_false, true_and, and_true, and_self, true_or, or_true, false_or, or_false, not_true_eq_false, not_false_eq_true, Option.bind_some, somene, false_and, and_false, reduceCtorEq, Nat.reduceEqDiff, l0, l1, l2, l3, l4, l5, l6, l7, q_cl, r1, r2, r3] <;> rfl
  obtain ⟨hw, i1, i2, i3, i4, i5⟩ := M_won_J d M8 w S8 X8 hl
  have Mw := M8.mq i2
  obtain ⟨v8, hv8⟩ : ∃ v8 : Int64, v8 = if wD D (an st (sB (dA D) x.1 x.2)) = true then 0 else 1 := ⟨_, rfl⟩
  refine ⟨wJ (wJ (wJ hw 61 (8 : Int32).toNatClampNeg v8) 61 (9 : Int32).toNatClampNeg (nI tu).toInt64) 61 (10 : Int32).toNatClampNeg (nI pl).toInt64, ?_, ?_, i3, ?_, fun i hi => (i5 i hi).trans (I8 i hi), fun i hi => ?_⟩
  · have iw : c_M_isWonAt d (some 52) (nI st &&& (nI (sB (dA D) x.1 x.2) ^^^ ((-1) : Int32))) (wJ (wJ (wJ (wJ (wJ (wJ (wJ (wJ hq 61 (0 : Int32).toNatClampNeg (nI x.1).toInt64) 61 (1 : Int32).toNatClampNeg (nI x.2).toInt64) 61 (2 : Int32).toNatClampNeg (nI (aRow (dA D) x.1)).toInt64) 61 (3 : Int32).toNatClampNeg (nI (pc st)).toInt64) 61 (4 : Int32).toNatClampNeg (nI (pc (an st (sB (dA D) x.1 x.2)))).toInt64) 61 (5 : Int32).toNatClampNeg (hI (wJ (wJ (wJ (wJ (wJ hq 61 (0 : Int32).toNatClampNeg (nI x.1).toInt64) 61 (1 : Int32).toNatClampNeg (nI x.2).toInt64) 61 (2 : Int32).toNatClampNeg (nI (aRow (dA D) x.1)).toInt64) 61 (3 : Int32).toNatClampNeg (nI (pc st)).toInt64) 61 (4 : Int32).toNatClampNeg (nI (pc (an st (sB (dA D) x.1 x.2)))).toInt64) 52 31).toInt64) 61 (6 : Int32).toNatClampNeg (hI (wJ (wJ (wJ (wJ (wJ (wJ hq 61 (0 : Int32).toNatClampNeg (nI x.1).toInt64) 61 (1 : Int32).toNatClampNeg (nI x.2).toInt64) 61 (2 : Int32).toNatClampNeg (nI (aRow (dA D) x.1)).toInt64) 61 (3 : Int32).toNatClampNeg (nI (pc st)).toInt64) 61 (4 : Int32).toNatClampNeg (nI (pc (an st (sB (dA D) x.1 x.2)))).toInt64) 61 (5 : Int32).toNatClampNeg (hI (wJ (wJ (wJ (wJ (wJ hq 61 (0 : Int32).toNatClampNeg (nI x.1).toInt64) 61 (1 : Int32).toNatClampNeg (nI x.2).toInt64) 61 (2 : Int32).toNatClampNeg (nI (aRow (dA D) x.1)).toInt64) 61 (3 : Int32).toNatClampNeg (nI (pc st)).toInt64) 61 (4 : Int32).toNatClampNeg (nI (pc (an st (sB (dA D) x.1 x.2)))).toInt64) 52 31).toInt64) 52 32).toInt64) 61 (7 : Int32).toNatClampNeg (hI (wJ (wJ (wJ (wJ (wJ (wJ (wJ hq 61 (0 : Int32).toNatClampNeg (nI x.1).toInt64) 61 (1 : Int32).toNatClampNeg (nI x.2).toInt64) 61 (2 : Int32).toNatClampNeg (nI (aRow (dA D) x.1)).toInt64) 61 (3 : Int32).toNatClampNeg (nI (pc st)).toInt64) 61 (4 : Int32).toNatClampNeg (nI (pc (an st (sB (dA D) x.1 x.2)))).toInt64) 61 (5 : Int32).toNatClampNeg (hI (wJ (wJ (wJ (wJ (wJ hq 61 (0 : Int32).toNatClampNeg (nI x.1).toInt64) 61 (1 : Int32).toNatClampNeg (nI x.2).toInt64) 61 (2 : Int32).toNatClampNeg (nI (aRow (dA D) x.1)).toInt64) 61 (3 : Int32).toNatClampNeg (nI (pc st)).toInt64) 61 (4 : Int32).toNatClampNeg (nI (pc (an st (sB (dA D) x.1 x.2)))).toInt64) 52 31).toInt64) 61 (6 : Int32).toNatClampNeg (hI (wJ (wJ (wJ (wJ (wJ (wJ hq 61 (0 : Int32).toNatClampNeg (nI x.1).toInt64) 61 (1 : Int32).toNatClampNeg (nI x.2).toInt64) 61 (2 : Int32).toNatClampNeg (nI (aRow (dA D) x.1)).toInt64) 61 (3 : Int32).toNatClampNeg (nI (pc st)).toInt64) 61 (4 : Int32).toNatClampNeg (nI (pc (an st (sB (dA D) x.1 x.2)))).toInt64) 61 (5 : Int32).toNatClampNeg (hI (wJ (wJ (wJ (wJ (wJ hq 61 (0 : Int32).toNatClampNeg (nI x.1).toInt64) 61 (1 : Int32).toNatClampNeg (nI x.2).toInt64) 61 (2 : Int32).toNatClampNeg (nI (aRow (dA D) x.1)).toInt64) 61 (3 : Int32).toNatClampNeg (nI (pc st)).toInt64) 61 (4 : Int32).toNatClampNeg (nI (pc (an st (sB (dA D) x.1 x.2)))).toInt64) 52 31).toInt64) 52 32).toInt64) 52 33).toInt64) = some (hw, bi (wD D (an st (sB (dA D) x.1 x.2)))) := by
      rw [ea, ← hh8]; exact i1
    have in0 : sk_in (0 : Int32) (hN hq 61) := by rw [Mq'.N61]; exact vp_in_nI (n := 0) (by omega) (by omega)
    have in1 : sk_in (1 : Int32) (hN hq 61) := by rw [Mq'.N61]; exact vp_in_nI (n := 1) (by omega) (by omega)
    have in2 : sk_in (2 : Int32) (hN hq 61) := by rw [Mq'.N61]; exact vp_in_nI (n := 2) (by omega) (by omega)
    have in3 : sk_in (3 : Int32) (hN hq 61) := by rw [Mq'.N61]; exact vp_in_nI (n := 3) (by omega) (by omega)
    have in4 : sk_in (4 : Int32) (hN hq 61) := by rw [Mq'.N61]; exact vp_in_nI (n := 4) (by omega) (by omega)
    have in5 : sk_in (5 : Int32) (hN hq 61) := by rw [Mq'.N61]; exact vp_in_nI (n := 5) (by omega) (by omega)
    have in6 : sk_in (6 : Int32) (hN hq 61) := by rw [Mq'.N61]; exact vp_in_nI (n := 6) (by omega) (by omega)
    have in7 : sk_in (7 : Int32) (hN hq 61) := by rw [Mq'.N61]; exact vp_in_nI (n := 7) (by omega) (by omega)
    have inw8 : sk_in (8 : Int32) (hN hw 61) := by rw [Mw.N61]; exact vp_in_nI (n := 8) (by omega) (by omega)
    have inw9 : sk_in (9 : Int32) (hN hw 61) := by rw [Mw.N61]; exact vp_in_nI (n := 9) (by omega) (by omega)
    have inw10 : sk_in (10 : Int32) (hN hw 61) := by rw [Mw.N61]; exact vp_in_nI (n := 10) (by omega) (by omega)
    cases hwd : wD D (an st (sB (dA D) x.1 x.2))
    · rw [hwd] at iw hv8
      rw [if_neg (by decide)] at hv8
      subst hv8
      refine (e_M_words _ _ _ _ _ _ _ _).trans ?_
      refine (if_pos M.K52).trans ?_
      refine (bnd sb _).trans ?_
      refine (if_pos M.K52).trans ?_
      refine (bnd cr _).trans ?_
      refine (if_pos Mq'.K52).trans ?_
      refine (bnd Mq'.R19 _).trans ?_
      refine (if_pos ⟨Mq'.K61, in0⟩).trans ?_
      refine (if_pos Mq'.K52).trans ?_
      refine (bnd Mq'.R19 _).trans ?_
      refine (if_pos ⟨Mq'.K61, in1⟩).trans ?_
      refine (if_pos Mq'.K52).trans ?_
      refine (if_pos Mq'.K52).trans ?_
      refine (bnd ro _).trans ?_
      refine (bnd Mq'.R19 _).trans ?_
      refine (if_pos ⟨Mq'.K61, in2⟩).trans ?_
      refine (if_pos Mq'.K52).trans ?_
      refine (bits_b hst4 _ _).trans ?_
      refine (bnd Mq'.R19 _).trans ?_
      refine (if_pos ⟨Mq'.K61, in3⟩).trans ?_
      refine (if_pos Mq'.K52).trans ?_
      refine (mb2 _ _).trans ?_
      refine (bnd Mq'.R19 _).trans ?_
      refine (if_pos ⟨Mq'.K61, in4⟩).trans ?_
      refine (if_pos Mq'.K52).trans ?_
      refine (if_pos Mq'.K52).trans ?_
      refine (bnd Mq'.R19 _).trans ?_
      refine (if_pos ⟨Mq'.K61, in5⟩).trans ?_
      refine (if_pos Mq'.K52).trans ?_
      refine (if_pos Mq'.K52).trans ?_
      refine (bnd Mq'.R19 _).trans ?_
      refine (if_pos ⟨Mq'.K61, in6⟩).trans ?_
      refine (if_pos Mq'.K52).trans ?_
      refine (if_pos Mq'.K52).trans ?_
      refine (bnd Mq'.R19 _).trans ?_
      refine (if_pos ⟨Mq'.K61, in7⟩).trans ?_
      refine (if_pos Mq'.K52).trans ?_
      refine (if_pos Mq'.K52).trans ?_
      refine (bnd iw _).trans ?_
      refine (if_pos (show bi false = 0 by decide)).trans ?_
      refine (bnd Mq'.R19 _).trans ?_
      refine (if_pos ⟨Mw.K61, inw8⟩).trans ?_
      refine (if_pos Mw.K52).trans ?_
      refine (bnd Mw.R19 _).trans ?_
      refine (if_pos ⟨Mw.K61, inw9⟩).trans ?_
      refine (if_pos Mw.K52).trans ?_
      refine (bnd Mw.R19 _).trans ?_
      refine (if_pos ⟨Mw.K61, inw10⟩).trans ?_
      rfl
    · rw [hwd] at iw hv8
      rw [if_pos rfl] at hv8
      subst hv8
      refine (e_M_words _ _ _ _ _ _ _ _).trans ?_
      refine (if_pos M.K52).trans ?_
      refine (bnd sb _).trans ?_
      refine (if_pos M.K52).trans ?_
      refine (bnd cr _).trans ?_
      refine (if_pos Mq'.K52).trans ?_
      refine (bnd Mq'.R19 _).trans ?_
      refine (if_pos ⟨Mq'.K61, in0⟩).trans ?_
      refine (if_pos Mq'.K52).trans ?_
      refine (bnd Mq'.R19 _).trans ?_
      refine (if_pos ⟨Mq'.K61, in1⟩).trans ?_
      refine (if_pos Mq'.K52).trans ?_
      refine (if_pos Mq'.K52).trans ?_
      refine (bnd ro _).trans ?_
      refine (bnd Mq'.R19 _).trans ?_
      refine (if_pos ⟨Mq'.K61, in2⟩).trans ?_
      refine (if_pos Mq'.K52).trans ?_
      refine (bits_b hst4 _ _).trans ?_
      refine (bnd Mq'.R19 _).trans ?_
      refine (if_pos ⟨Mq'.K61, in3⟩).trans ?_
      refine (if_pos Mq'.K52).trans ?_
      refine (mb2 _ _).trans ?_
      refine (bnd Mq'.R19 _).trans ?_
      refine (if_pos ⟨Mq'.K61, in4⟩).trans ?_
      refine (if_pos Mq'.K52).trans ?_
      refine (if_pos Mq'.K52).trans ?_
      refine (bnd Mq'.R19 _).trans ?_
      refine (if_pos ⟨Mq'.K61, in5⟩).trans ?_
      refine (if_pos Mq'.K52).trans ?_
      refine (if_pos Mq'.K52).trans ?_
      refine (bnd Mq'.R19 _).trans ?_
      refine (if_pos ⟨Mq'.K61, in6⟩).trans ?_
      refine (if_pos Mq'.K52).trans ?_
      refine (if_pos Mq'.K52).trans ?_
      refine (bnd Mq'.R19 _).trans ?_
      refine (if_pos ⟨Mq'.K61, in7⟩).trans ?_
      refine (if_pos Mq'.K52).trans ?_
      refine (if_pos Mq'.K52).trans ?_
      refine (bnd iw _).trans ?_
      refine (if_neg (show ¬ bi true = 0 by decide)).trans ?_
      refine (bnd Mq'.R19 _).trans ?_
      refine (if_pos ⟨Mw.K61, inw8⟩).trans ?_
      refine (if_pos Mw.K52).trans ?_
      refine (bnd Mw.R19 _).trans ?_
      refine (if_pos ⟨Mw.K61, inw9⟩).trans ?_
      refine (if_pos Mw.K52).trans ?_
      refine (bnd Mw.R19 _).trans ?_
      refine (if_pos ⟨Mw.K61, inw10⟩).trans ?_
      rfl
  · exact (Q8.trans i2).trans (((Mq.vJ _ _ _ (by decide)).trans (Mq.vJ _ _ _ (by decide))).trans (Mq.vJ _ _ _ (by decide)))
  · funext i
    simp only [hJ_wJ, ↓reduceIte, ↓Option.bind_some, if_true, if_false, true_and, and_true, and_self, true_or, or_true, false_or, or_false, not_true_eq_false, not_false_eq_true, Option.bind_some, somene, false_and, and_false, reduceCtorEq, Nat.reduceEqDiff, i4]
    exact J8 i
  · rcases (show i < 8 ∨ i = 8 ∨ i = 9 ∨ i = 10 by omega) with q | rfl | rfl | rfl
    · have n8 : ¬ i = 8 := by omega
      have n9 : ¬ i = 9 := by omega
      have n10 : ¬ i = 10 := by omega
      simp (disch := omega) only [hJ_wJ, l8, l9, l10, q_cl, ↓reduceIte, ↓Option.bind_some, if_true, if_false, true_and, and_true, and_self, true_or, or_true, false_or, or_false, not_true_eq_false, not_false_eq_true, Option.bind_some, somene, false_and, and_false, reduceCtorEq, Nat.reduceEqDiff, n8, n9, n10, i4]
      exact J61 i q
    · simp (disch := omega) only [hJ_wJ, l8, l9, l10, q_cl, ↓reduceIte, ↓Option.bind_some, if_true, if_false, true_and, and_true, and_self, true_or, or_true, false_or, or_false, not_true_eq_false, not_false_eq_true, Option.bind_some, somene, false_and, and_false, reduceCtorEq, Nat.reduceEqDiff]
      exact hv8
    · simp (disch := omega) only [hJ_wJ, l8, l9, l10, q_cl, ↓reduceIte, ↓Option.bind_some, if_true, if_false, true_and, and_true, and_self, true_or, or_true, false_or, or_false, not_true_eq_false, not_false_eq_true, Option.bind_some, somene, false_and, and_false, reduceCtorEq, Nat.reduceEqDiff]
      rfl
    · simp (disch := omega) only [hJ_wJ, l8, l9, l10, q_cl, ↓reduceIte, ↓Option.bind_some, if_true, if_false, true_and, and_true, and_self, true_or, or_true, false_or, or_false, not_true_eq_false, not_false_eq_true, Option.bind_some, somene, false_and, and_false, reduceCtorEq, Nat.reduceEqDiff]
      rfl
/-! the class -/
/-- a look's frame -/
def Lq (h h' : sk_H) : Prop := h'.1 = h.1 ∧ hR h' = hR h ∧ (∀ a i, ¬ (a = 32 ∧ i = 9) → hI h' a i = hI h a i) ∧ ∀ a, hK h a ≠ 102 → hJ h' a = hJ h a
theorem Lq.refl (h : sk_H) : Lq h h := ⟨rfl, rfl, fun _ _ _ => rfl, fun _ _ => rfl⟩
theorem Lq.eK (Q : Lq h h1) : hK h1 = hK h := congrArg (fun x => x.1) Q.1
theorem Lq.trans (Q : Lq h h1) (P : Lq h1 h2) : Lq h h2 := ⟨P.1.trans Q.1, P.2.1.trans Q.2.1, fun a i ha => (P.2.2.1 a i ha).trans (Q.2.2.1 a i ha), fun a ha => (P.2.2.2 a (by rw [Q.eK]; exact ha)).trans (Q.2.2.2 a ha)⟩
theorem Lq.vJ (h : sk_H) {a : Nat} (i : Nat) (v : Int64) (ha : hK h a = 102) : Lq h (wJ h a i v) := ⟨rfl, rfl, fun _ _ _ => rfl, fun b hb => by
  funext k
  rw [hJ_wJ, if_neg (fun q => hb (by rw [q.1]; exact ha))]⟩
theorem Wq.lq (Q : Wq h h1) (C : CS h) : Lq h h1 := ⟨Q.1, Q.2.1, Q.2.2.1, fun a ha => Q.2.2.2 a (fun q => by rw [q, C.k43] at ha; exact ha rfl)⟩
theorem Lq.cq (Q : Lq h h1) : Cq h h1 := ⟨Q.1, fun a _ => by rw [Q.2.1], by rw [Q.2.1], fun a i ha => Q.2.2.1 a i (fun q => by rw [q.1, q.2] at ha; exact absurd ha (by decide)), fun a _ hk => Q.2.2.2 a hk⟩
theorem Lq.I (Q : Lq h h1) {a : Nat} (ha : a ≠ 32) : hI h1 a = hI h a := funext fun i => Q.2.2.1 a i (fun q => ha q.1)
theorem TC.vJ (T : TC h D a) {b : Nat} (i : Nat) (v : Int64) (hb : b ≠ 43) : TC (wJ h b i v) D a := ⟨T.1, T.2.1, T.2.2.1, T.2.2.2.imp id (fun q => ⟨q.1, fun m hm l hl => by
  rw [hJ_wJ, if_neg (fun r => hb r.1.symm)]; exact q.2 m hm l hl⟩)⟩
def wOk (wd i : Nat) : Prop := i < 5 ∨ i = 9 ∨ i = 10 ∨ wd.testBit i = true
theorem b224 {wd : Nat} (hw : wd < 2048) (h0 : wd &&& 224 = 0) : wd.testBit 5 = false ∧ wd.testBit 6 = false ∧ wd.testBit 7 = false := by
  have h5 := congrArg (fun y => y.testBit 5) h0
  have h6 := congrArg (fun y => y.testBit 6) h0
  have h7 := congrArg (fun y => y.testBit 7) h0
  simp only [Nat.testBit_and, Nat.zero_testBit] at h5 h6 h7
  have e5 : Nat.testBit 224 5 = true := by decide
  have e6 : Nat.testBit 224 6 = true := by decide
  have e7 : Nat.testBit 224 7 = true := by decide
  rw [e5, Bool.and_true] at h5
  rw [e6, Bool.and_true] at h6
  rw [e7, Bool.and_true] at h7
  exact ⟨h5, h6, h7⟩
theorem Lo_look_ok (C : CS h) (hF : Far F) (O : AOc F h a D c) (w : dW D) (T : TC h D a) (hs : s ≠ 51) (o : SO h (dA D) s x) (hp : x.1 < aN (dA D)) (b1 : hR h 49 1 = some 32) (b2 : hR h 49 2 = some a) (i3 : hI h 49 3 = nI st) (i4 : hI h 49 4 = nI tu) (i5 : hI h 49 5 = nI pl) (hst : st < 2 ^ aN (dA D)) {wd : Nat} (hwd : wd < 2048) : ∃ h', c_Lo_lookAt d (some 50) (some 49) (some s) (nI wd) h = some h' ∧ Lq h h' ∧ TC h' D a ∧ ∀ i, i < 11 → wOk wd i → hJ h' 51 i = wvF D st tu pl x i := by
  have hst4 := p12 w.1 hst
  have hl := Nat.lt_of_le_of_lt (an_le st (sB (dA D) x.1 x.2)) hst
  have hl4 := p12 w.1 hl
  obtain ⟨o1, oa, ob, oc, od, -⟩ := id o
  have ea : nI st &&& (nI (sB (dA D) x.1 x.2) ^^^ nM) = nI (an st (sB (dA D) x.1 x.2)) := nI_an _ hst4
  obtain ⟨h7, hh7⟩ : ∃ h7, h7 = (wJ (wJ (wJ (wJ (wJ (wJ (wJ h 51 (0 : Int32).toNatClampNeg (hI h s 0).toInt64) 51 (1 : Int32).toNatClampNeg (hI (wJ h 51 (0 : Int32).toNatClampNeg (hI h s 0).toInt64) s 1).toInt64) 51 (2 : Int32).toNatClampNeg (hI (wJ (wJ h 51 (0 : Int32).toNatClampNeg (hI h s 0).toInt64) 51 (1 : Int32).toNatClampNeg (hI (wJ h 51 (0 : Int32).toNatClampNeg (hI h s 0).toInt64) s 1).toInt64) s 2).toInt64) 51 (3 : Int32).toNatClampNeg (nI (pc st)).toInt64) 51 (4 : Int32).toNatClampNeg (nI (pc (an st (sB (dA D) x.1 x.2)))).toInt64) 51 (9 : Int32).toNatClampNeg (hI (wJ (wJ (wJ (wJ (wJ h 51 (0 : Int32).toNatClampNeg (hI h s 0).toInt64) 51 (1 : Int32).toNatClampNeg (hI (wJ h 51 (0 : Int32).toNatClampNeg (hI h s 0).toInt64) s 1).toInt64) 51 (2 : Int32).toNatClampNeg (hI (wJ (wJ h 51 (0 : Int32).toNatClampNeg (hI h s 0).toInt64) 51 (1 : Int32).toNatClampNeg (hI (wJ h 51 (0 : Int32).toNatClampNeg (hI h s 0).toInt64) s 1).toInt64) s 2).toInt64) 51 (3 : Int32).toNatClampNeg (nI (pc st)).toInt64) 51 (4 : Int32).toNatClampNeg (nI (pc (an st (sB (dA D) x.1 x.2)))).toInt64) 49 4).toInt64) 51 (10 : Int32).toNatClampNeg (hI (wJ (wJ (wJ (wJ (wJ (wJ h 51 (0 : Int32).toNatClampNeg (hI h s 0).toInt64) 51 (1 : Int32).toNatClampNeg (hI (wJ h 51 (0 : Int32).toNatClampNeg (hI h s 0).toInt64) s 1).toInt64) 51 (2 : Int32).toNatClampNeg (hI (wJ (wJ h 51 (0 : Int32).toNatClampNeg (hI h s 0).toInt64) 51 (1 : Int32).toNatClampNeg (hI (wJ h 51 (0 : Int32).toNatClampNeg (hI h s 0).toInt64) s 1).toInt64) s 2).toInt64) 51 (3 : Int32).toNatClampNeg (nI (pc st)).toInt64) 51 (4 : Int32).toNatClampNeg (nI (pc (an st (sB (dA D) x.1 x.2)))).toInt64) 51 (9 : Int32).toNatClampNeg (hI (wJ (wJ (wJ (wJ (wJ h 51 (0 : Int32).toNatClampNeg (hI h s 0).toInt64) 51 (1 : Int32).toNatClampNeg (hI (wJ h 51 (0 : Int32).toNatClampNeg (hI h s 0).toInt64) s 1).toInt64) 51 (2 : Int32).toNatClampNeg (hI (wJ (wJ h 51 (0 : Int32).toNatClampNeg (hI h s 0).toInt64) 51 (1 : Int32).toNatClampNeg (hI (wJ h 51 (0 : Int32).toNatClampNeg (hI h s 0).toInt64) s 1).toInt64) s 2).toInt64) 51 (3 : Int32).toNatClampNeg (nI (pc st)).toInt64) 51 (4 : Int32).toNatClampNeg (nI (pc (an st (sB (dA D) x.1 x.2)))).toInt64) 49 4).toInt64) 49 5).toInt64) := ⟨_, rfl⟩
  have ea2 : hI h 49 3 &&& (hI h s 3 ^^^ ((-1) : Int32)) = nI (an st (sB (dA D) x.1 x.2)) := by rw [i3, od]; exact ea
  have bc1 : ∀ {β : Type} (g : sk_H) (f : sk_H × Int32 → Option β), Option.bind (c_JI_bitCount d (hI (wJ (wJ (wJ h 51 (0 : Int32).toNatClampNeg (hI h s 0).toInt64) 51 (1 : Int32).toNatClampNeg (hI (wJ h 51 (0 : Int32).toNatClampNeg (hI h s 0).toInt64) s 1).toInt64) 51 (2 : Int32).toNatClampNeg (hI (wJ (wJ h 51 (0 : Int32).toNatClampNeg (hI h s 0).toInt64) 51 (1 : Int32).toNatClampNeg (hI (wJ h 51 (0 : Int32).toNatClampNeg (hI h s 0).toInt64) s 1).toInt64) s 2).toInt64) 49 3) g) f = f (g, nI (pc st)) := fun g f => by
    have e : hI (wJ (wJ (wJ h 51 (0 : Int32).toNatClampNeg (hI h s 0).toInt64) 51 (1 : Int32).toNatClampNeg (hI (wJ h 51 (0 : Int32).toNatClampNeg (hI h s 0).toInt64) s 1).toInt64) 51 (2 : Int32).toNatClampNeg (hI (wJ (wJ h 51 (0 : Int32).toNatClampNeg (hI h s 0).toInt64) 51 (1 : Int32).toNatClampNeg (hI (wJ h 51 (0 : Int32).toNatClampNeg (hI h s 0).toInt64) s 1).toInt64) s 2).toInt64) 49 3 = nI st := i3
    rw [e]; exact bc_b hst4 g f
  have bc2 : ∀ {β : Type} (g : sk_H) (f : sk_H × Int32 → Option β), Option.bind (c_JI_bitCount d (hI h 49 3 &&& (hI h s 3 ^^^ ((-1) : Int32))) g) f = f (g, nI (pc (an st (sB (dA D) x.1 x.2)))) := fun g f => by rw [ea2]; exact bc_b hl4 g f
  have k51 := C.k51
  have Q7 : Lq h h7 := by
    rw [hh7]
    exact ((((((Lq.vJ _ _ _ k51).trans (Lq.vJ _ _ _ k51)).trans (Lq.vJ _ _ _ k51)).trans (Lq.vJ _ _ _ k51)).trans (Lq.vJ _ _ _ k51)).trans (Lq.vJ _ _ _ k51)).trans (Lq.vJ _ _ _ k51)
  have C7 : CS h7 := by rw [hh7]; exact C
  have T7 : TC h7 D a := by
    rw [hh7]
    exact ((((((T.vJ _ _ (by decide)).vJ _ _ (by decide)).vJ _ _ (by decide)).vJ _ _ (by decide)).vJ _ _ (by decide)).vJ _ _ (by decide)).vJ _ _ (by decide)
  have O7 : AOc F h7 a D c := O.cq hF Q7.cq
  have J7 : ∀ i, i < 11 → (i < 5 ∨ i = 9 ∨ i = 10) → hJ h7 51 i = wvF D st tu pl x i := fun i hi hq => by
    rw [hh7]
    rcases (show i = 0 ∨ i = 1 ∨ i = 2 ∨ i = 3 ∨ i = 4 ∨ i = 9 ∨ i = 10 by omega) with rfl | rfl | rfl | rfl | rfl | rfl | rfl <;> simp (disch := omega) only [hJ_wJ, hI_wJ, ↓reduceIte, ↓Option.bind_some, if_true, if_false, true_and, and_true, and_self, true_or, or_true, false_or, or_false, not_true_eq_false, not_false_eq_true, Option.bind_some, somene, false_and, and_false, reduceCtorEq, Nat.reduceEqDiff, l0, l1, l2, l3, l4, l9, l10, q_cl, oa, ob, oc, i4, i5] <;> rfl
  -- won, where it is asked for
  have stage2 : ∃ h8, Lq h7 h8 ∧ CS h8 ∧ TC h8 D a ∧ AOc F h8 a D c ∧ hR h8 49 2 = some a ∧ (∀ i, i < 11 → (i < 5 ∨ i = 9 ∨ i = 10 ∨ (i = 8 ∧ wd.testBit 8 = true)) → hJ h8 51 i = wvF D st tu pl x i) ∧ (∀ G : Option sk_H, (if (nI wd &&& (224 : Int32)) = 0 then some h8 else Option.bind (c_Lo_countRuns d (some 50) (some a) (nI (an st (sB (dA D) x.1 x.2))) h8) fun q => some q) = G → c_Lo_lookAt d (some 50) (some 49) (some s) (nI wd) h = G) := by
    have bt := nI_bit (m := wd) (k := 8) (by omega) (by omega)
    have r492 : hR h7 49 2 = some a := by rw [Q7.2.1]; exact b2
    have in0 : sk_in (0 : Int32) (hN h 51) := by rw [C.n51]; exact vp_in_nI (n := 0) (by omega) (by omega)
    have in1 : sk_in (1 : Int32) (hN h 51) := by rw [C.n51]; exact vp_in_nI (n := 1) (by omega) (by omega)
    have in2 : sk_in (2 : Int32) (hN h 51) := by rw [C.n51]; exact vp_in_nI (n := 2) (by omega) (by omega)
    have in3 : sk_in (3 : Int32) (hN h 51) := by rw [C.n51]; exact vp_in_nI (n := 3) (by omega) (by omega)
    have in4 : sk_in (4 : Int32) (hN h 51) := by rw [C.n51]; exact vp_in_nI (n := 4) (by omega) (by omega)
    have in9 : sk_in (9 : Int32) (hN h 51) := by rw [C.n51]; exact vp_in_nI (n := 9) (by omega) (by omega)
    have in10 : sk_in (10 : Int32) (hN h 51) := by rw [C.n51]; exact vp_in_nI (n := 10) (by omega) (by omega)
    cases hb : wd.testBit 8
    · rw [hb] at bt
      have bt : ¬ (nI wd >>> ((8 : Int32) &&& 31)) &&& (1 : Int32) = (1 : Int32) := fun q => by
        have q2 : nI 0 = nI 1 := bt.symm.trans q
        exact absurd q2 (by decide)
      refine ⟨h7, Lq.refl _, C7, T7, O7, r492, fun i hi hq => J7 i hi (by rcases hq with q | q | q | ⟨-, q⟩; exact Or.inl q; exact Or.inr (Or.inl q); exact Or.inr (Or.inr q); cases q), fun G hG => ?_⟩
      subst hh7
      refine (e_Lo_lookAt _ _ _ _ _ _).trans ?_
      refine (bnd (rfl : some 49 = some 49) _).trans ?_
      refine (if_pos C.k49).trans ?_
      refine (bnd (rfl : some s = some s) _).trans ?_
      refine (if_pos o1).trans ?_
      refine (if_pos C.k50).trans ?_
      refine (bnd (rfl : some s = some s) _).trans ?_
      refine (if_pos o1).trans ?_
      refine (bnd C.r50_0 _).trans ?_
      refine (if_pos ⟨C.k51, in0⟩).trans ?_
      refine (if_pos C.k50).trans ?_
      refine (bnd (rfl : some s = some s) _).trans ?_
      refine (if_pos o1).trans ?_
      refine (bnd C.r50_0 _).trans ?_
      refine (if_pos ⟨C.k51, in1⟩).trans ?_
      refine (if_pos C.k50).trans ?_
      refine (bnd (rfl : some s = some s) _).trans ?_
      refine (if_pos o1).trans ?_
      refine (bnd C.r50_0 _).trans ?_
      refine (if_pos ⟨C.k51, in2⟩).trans ?_
      refine (if_pos C.k50).trans ?_
      refine (bnd (rfl : some 49 = some 49) _).trans ?_
      refine (if_pos C.k49).trans ?_
      refine (bc1 _ _).trans ?_
      refine (bnd C.r50_0 _).trans ?_
      refine (if_pos ⟨C.k51, in3⟩).trans ?_
      refine (if_pos C.k50).trans ?_
      refine (bc2 _ _).trans ?_
      refine (bnd C.r50_0 _).trans ?_
      refine (if_pos ⟨C.k51, in4⟩).trans ?_
      refine (if_pos C.k50).trans ?_
      refine (bnd (rfl : some 49 = some 49) _).trans ?_
      refine (if_pos C.k49).trans ?_
      refine (bnd C.r50_0 _).trans ?_
      refine (if_pos ⟨C.k51, in9⟩).trans ?_
      refine (if_pos C.k50).trans ?_
      refine (bnd (rfl : some 49 = some 49) _).trans ?_
      refine (if_pos C.k49).trans ?_
      refine (bnd C.r50_0 _).trans ?_
      refine (if_pos ⟨C.k51, in10⟩).trans ?_
      refine (if_pos bt).trans ?_
      refine Eq.trans ?_ hG
      by_cases q : nI wd &&& (224 : Int32) = 0
      · exact (if_pos q).trans (if_pos q).symm
      · refine (if_neg q).trans ?_
        refine Eq.trans ?_ (if_neg q).symm
        refine (bnd (rfl : some 49 = some 49) _).trans ?_
        refine (if_pos C.k49).trans ?_
        refine (if_pos C.k50).trans ?_
        rw [show hR (wJ (wJ (wJ (wJ (wJ (wJ (wJ h 51 (0 : Int32).toNatClampNeg (hI h s 0).toInt64) 51 (1 : Int32).toNatClampNeg (hI (wJ h 51 (0 : Int32).toNatClampNeg (hI h s 0).toInt64) s 1).toInt64) 51 (2 : Int32).toNatClampNeg (hI (wJ (wJ h 51 (0 : Int32).toNatClampNeg (hI h s 0).toInt64) 51 (1 : Int32).toNatClampNeg (hI (wJ h 51 (0 : Int32).toNatClampNeg (hI h s 0).toInt64) s 1).toInt64) s 2).toInt64) 51 (3 : Int32).toNatClampNeg (nI (pc st)).toInt64) 51 (4 : Int32).toNatClampNeg (nI (pc (an st (sB (dA D) x.1 x.2)))).toInt64) 51 (9 : Int32).toNatClampNeg (hI (wJ (wJ (wJ (wJ (wJ h 51 (0 : Int32).toNatClampNeg (hI h s 0).toInt64) 51 (1 : Int32).toNatClampNeg (hI (wJ h 51 (0 : Int32).toNatClampNeg (hI h s 0).toInt64) s 1).toInt64) 51 (2 : Int32).toNatClampNeg (hI (wJ (wJ h 51 (0 : Int32).toNatClampNeg (hI h s 0).toInt64) 51 (1 : Int32).toNatClampNeg (hI (wJ h 51 (0 : Int32).toNatClampNeg (hI h s 0).toInt64) s 1).toInt64) s 2).toInt64) 51 (3 : Int32).toNatClampNeg (nI (pc st)).toInt64) 51 (4 : Int32).toNatClampNeg (nI (pc (an st (sB (dA D) x.1 x.2)))).toInt64) 49 4).toInt64) 51 (10 : Int32).toNatClampNeg (hI (wJ (wJ (wJ (wJ (wJ (wJ h 51 (0 : Int32).toNatClampNeg (hI h s 0).toInt64) 51 (1 : Int32).toNatClampNeg (hI (wJ h 51 (0 : Int32).toNatClampNeg (hI h s 0).toInt64) s 1).toInt64) 51 (2 : Int32).toNatClampNeg (hI (wJ (wJ h 51 (0 : Int32).toNatClampNeg (hI h s 0).toInt64) 51 (1 : Int32).toNatClampNeg (hI (wJ h 51 (0 : Int32).toNatClampNeg (hI h s 0).toInt64) s 1).toInt64) s 2).toInt64) 51 (3 : Int32).toNatClampNeg (nI (pc st)).toInt64) 51 (4 : Int32).toNatClampNeg (nI (pc (an st (sB (dA D) x.1 x.2)))).toInt64) 51 (9 : Int32).toNatClampNeg (hI (wJ (wJ (wJ (wJ (wJ h 51 (0 : Int32).toNatClampNeg (hI h s 0).toInt64) 51 (1 : Int32).toNatClampNeg (hI (wJ h 51 (0 : Int32).toNatClampNeg (hI h s 0).toInt64) s 1).toInt64) 51 (2 : Int32).toNatClampNeg (hI (wJ (wJ h 51 (0 : Int32).toNatClampNeg (hI h s 0).toInt64) 51 (1 : Int32).toNatClampNeg (hI (wJ h 51 (0 : Int32).toNatClampNeg (hI h s 0).toInt64) s 1).toInt64) s 2).toInt64) 51 (3 : Int32).toNatClampNeg (nI (pc st)).toInt64) 51 (4 : Int32).toNatClampNeg (nI (pc (an st (sB (dA D) x.1 x.2)))).toInt64) 49 4).toInt64) 49 5).toInt64) 49 2 = some a from b2, ea2]
    · rw [hb] at bt
      have bt : (nI wd >>> ((8 : Int32) &&& 31)) &&& (1 : Int32) = (1 : Int32) := bt
      obtain ⟨hw, f1, f2, f3, f4⟩ := Ta_canWin_ok (d := d) C7 w hF O7 T7 hl
      have Cw := C7.cq (f2.cq C7)
      obtain ⟨v8, hv8⟩ : ∃ v8 : Int64, v8 = if wD D (an st (sB (dA D) x.1 x.2)) = true then 0 else 1 := ⟨_, rfl⟩
      have r1 : hR h7 49 1 = some 32 := by rw [Q7.2.1]; exact b1
      have Lw := f2.lq C7
      have J8 : ∀ i, hJ hw 51 i = hJ h7 51 i := fun i => by rw [f2.2.2.2 51 (by decide)]
      have L8 : Lq h7 (wJ hw 51 (8 : Int32).toNatClampNeg v8) := Lw.trans (Lq.vJ _ _ _ Cw.k51)
      have z8 : (8 : Int32).toNatClampNeg = 8 := nI_clamp (n := 8) (by omega)
      refine ⟨wJ hw 51 (8 : Int32).toNatClampNeg v8, L8, Cw, f3.vJ _ _ (by decide), O7.cq hF L8.cq, by rw [hR_wJ, f2.2.1]; exact r492, fun i hi hq => ?_, fun G hG => ?_⟩
      · rw [hJ_wJ, z8]
        by_cases q8 : i = 8
        · rw [if_pos ⟨rfl, q8⟩, q8]; exact hv8
        · rw [if_neg (fun r => q8 r.2), J8]
          exact J7 i hi (by omega)
      · have cw : c_Ta_canWin d (hR (wJ (wJ (wJ (wJ (wJ (wJ (wJ h 51 (0 : Int32).toNatClampNeg (hI h s 0).toInt64) 51 (1 : Int32).toNatClampNeg (hI (wJ h 51 (0 : Int32).toNatClampNeg (hI h s 0).toInt64) s 1).toInt64) 51 (2 : Int32).toNatClampNeg (hI (wJ (wJ h 51 (0 : Int32).toNatClampNeg (hI h s 0).toInt64) 51 (1 : Int32).toNatClampNeg (hI (wJ h 51 (0 : Int32).toNatClampNeg (hI h s 0).toInt64) s 1).toInt64) s 2).toInt64) 51 (3 : Int32).toNatClampNeg (nI (pc st)).toInt64) 51 (4 : Int32).toNatClampNeg (nI (pc (an st (sB (dA D) x.1 x.2)))).toInt64) 51 (9 : Int32).toNatClampNeg (hI (wJ (wJ (wJ (wJ (wJ h 51 (0 : Int32).toNatClampNeg (hI h s 0).toInt64) 51 (1 : Int32).toNatClampNeg (hI (wJ h 51 (0 : Int32).toNatClampNeg (hI h s 0).toInt64) s 1).toInt64) 51 (2 : Int32).toNatClampNeg (hI (wJ (wJ h 51 (0 : Int32).toNatClampNeg (hI h s 0).toInt64) 51 (1 : Int32).toNatClampNeg (hI (wJ h 51 (0 : Int32).toNatClampNeg (hI h s 0).toInt64) s 1).toInt64) s 2).toInt64) 51 (3 : Int32).toNatClampNeg (nI (pc st)).toInt64) 51 (4 : Int32).toNatClampNeg (nI (pc (an st (sB (dA D) x.1 x.2)))).toInt64) 49 4).toInt64) 51 (10 : Int32).toNatClampNeg (hI (wJ (wJ (wJ (wJ (wJ (wJ h 51 (0 : Int32).toNatClampNeg (hI h s 0).toInt64) 51 (1 : Int32).toNatClampNeg (hI (wJ h 51 (0 : Int32).toNatClampNeg (hI h s 0).toInt64) s 1).toInt64) 51 (2 : Int32).toNatClampNeg (hI (wJ (wJ h 51 (0 : Int32).toNatClampNeg (hI h s 0).toInt64) 51 (1 : Int32).toNatClampNeg (hI (wJ h 51 (0 : Int32).toNatClampNeg (hI h s 0).toInt64) s 1).toInt64) s 2).toInt64) 51 (3 : Int32).toNatClampNeg (nI (pc st)).toInt64) 51 (4 : Int32).toNatClampNeg (nI (pc (an st (sB (dA D) x.1 x.2)))).toInt64) 51 (9 : Int32).toNatClampNeg (hI (wJ (wJ (wJ (wJ (wJ h 51 (0 : Int32).toNatClampNeg (hI h s 0).toInt64) 51 (1 : Int32).toNatClampNeg (hI (wJ h 51 (0 : Int32).toNatClampNeg (hI h s 0).toInt64) s 1).toInt64) 51 (2 : Int32).toNatClampNeg (hI (wJ (wJ h 51 (0 : Int32).toNatClampNeg (hI h s 0).toInt64) 51 (1 : Int32).toNatClampNeg (hI (wJ h 51 (0 : Int32).toNatClampNeg (hI h s 0).toInt64) s 1).toInt64) s 2).toInt64) 51 (3 : Int32).toNatClampNeg (nI (pc st)).toInt64) 51 (4 : Int32).toNatClampNeg (nI (pc (an st (sB (dA D) x.1 x.2)))).toInt64) 49 4).toInt64) 49 5).toInt64) 49 1) (hI h 49 3 &&& (hI h s 3 ^^^ ((-1) : Int32))) (wJ (wJ (wJ (wJ (wJ (wJ (wJ h 51 (0 : Int32).toNatClampNeg (hI h s 0).toInt64) 51 (1 : Int32).toNatClampNeg (hI (wJ h 51 (0 : Int32).toNatClampNeg (hI h s 0).toInt64) s 1).toInt64) 51 (2 : Int32).toNatClampNeg (hI (wJ (wJ h 51 (0 : Int32).toNatClampNeg (hI h s 0).toInt64) 51 (1 : Int32).toNatClampNeg (hI (wJ h 51 (0 : Int32).toNatClampNeg (hI h s 0).toInt64) s 1).toInt64) s 2).toInt64) 51 (3 : Int32).toNatClampNeg (nI (pc st)).toInt64) 51 (4 : Int32).toNatClampNeg (nI (pc (an st (sB (dA D) x.1 x.2)))).toInt64) 51 (9 : Int32).toNatClampNeg (hI (wJ (wJ (wJ (wJ (wJ h 51 (0 : Int32).toNatClampNeg (hI h s 0).toInt64) 51 (1 : Int32).toNatClampNeg (hI (wJ h 51 (0 : Int32).toNatClampNeg (hI h s 0).toInt64) s 1).toInt64) 51 (2 : Int32).toNatClampNeg (hI (wJ (wJ h 51 (0 : Int32).toNatClampNeg (hI h s 0).toInt64) 51 (1 : Int32).toNatClampNeg (hI (wJ h 51 (0 : Int32).toNatClampNeg (hI h s 0).toInt64) s 1).toInt64) s 2).toInt64) 51 (3 : Int32).toNatClampNeg (nI (pc st)).toInt64) 51 (4 : Int32).toNatClampNeg (nI (pc (an st (sB (dA D) x.1 x.2)))).toInt64) 49 4).toInt64) 51 (10 : Int32).toNatClampNeg (hI (wJ (wJ (wJ (wJ (wJ (wJ h 51 (0 : Int32).toNatClampNeg (hI h s 0).toInt64) 51 (1 : Int32).toNatClampNeg (hI (wJ h 51 (0 : Int32).toNatClampNeg (hI h s 0).toInt64) s 1).toInt64) 51 (2 : Int32).toNatClampNeg (hI (wJ (wJ h 51 (0 : Int32).toNatClampNeg (hI h s 0).toInt64) 51 (1 : Int32).toNatClampNeg (hI (wJ h 51 (0 : Int32).toNatClampNeg (hI h s 0).toInt64) s 1).toInt64) s 2).toInt64) 51 (3 : Int32).toNatClampNeg (nI (pc st)).toInt64) 51 (4 : Int32).toNatClampNeg (nI (pc (an st (sB (dA D) x.1 x.2)))).toInt64) 51 (9 : Int32).toNatClampNeg (hI (wJ (wJ (wJ (wJ (wJ h 51 (0 : Int32).toNatClampNeg (hI h s 0).toInt64) 51 (1 : Int32).toNatClampNeg (hI (wJ h 51 (0 : Int32).toNatClampNeg (hI h s 0).toInt64) s 1).toInt64) 51 (2 : Int32).toNatClampNeg (hI (wJ (wJ h 51 (0 : Int32).toNatClampNeg (hI h s 0).toInt64) 51 (1 : Int32).toNatClampNeg (hI (wJ h 51 (0 : Int32).toNatClampNeg (hI h s 0).toInt64) s 1).toInt64) s 2).toInt64) 51 (3 : Int32).toNatClampNeg (nI (pc st)).toInt64) 51 (4 : Int32).toNatClampNeg (nI (pc (an st (sB (dA D) x.1 x.2)))).toInt64) 49 4).toInt64) 49 5).toInt64) = some (hw, bi (wD D (an st (sB (dA D) x.1 x.2)))) := by
          have e : hR (wJ (wJ (wJ (wJ (wJ (wJ (wJ h 51 (0 : Int32).toNatClampNeg (hI h s 0).toInt64) 51 (1 : Int32).toNatClampNeg (hI (wJ h 51 (0 : Int32).toNatClampNeg (hI h s 0).toInt64) s 1).toInt64) 51 (2 : Int32).toNatClampNeg (hI (wJ (wJ h 51 (0 : Int32).toNatClampNeg (hI h s 0).toInt64) 51 (1 : Int32).toNatClampNeg (hI (wJ h 51 (0 : Int32).toNatClampNeg (hI h s 0).toInt64) s 1).toInt64) s 2).toInt64) 51 (3 : Int32).toNatClampNeg (nI (pc st)).toInt64) 51 (4 : Int32).toNatClampNeg (nI (pc (an st (sB (dA D) x.1 x.2)))).toInt64) 51 (9 : Int32).toNatClampNeg (hI (wJ (wJ (wJ (wJ (wJ h 51 (0 : Int32).toNatClampNeg (hI h s 0).toInt64) 51 (1 : Int32).toNatClampNeg (hI (wJ h 51 (0 : Int32).toNatClampNeg (hI h s 0).toInt64) s 1).toInt64) 51 (2 : Int32).toNatClampNeg (hI (wJ (wJ h 51 (0 : Int32).toNatClampNeg (hI h s 0).toInt64) 51 (1 : Int32).toNatClampNeg (hI (wJ h 51 (0 : Int32).toNatClampNeg (hI h s 0).toInt64) s 1).toInt64) s 2).toInt64) 51 (3 : Int32).toNatClampNeg (nI (pc st)).toInt64) 51 (4 : Int32).toNatClampNeg (nI (pc (an st (sB (dA D) x.1 x.2)))).toInt64) 49 4).toInt64) 51 (10 : Int32).toNatClampNeg (hI (wJ (wJ (wJ (wJ (wJ (wJ h 51 (0 : Int32).toNatClampNeg (hI h s 0).toInt64) 51 (1 : Int32).toNatClampNeg (hI (wJ h 51 (0 : Int32).toNatClampNeg (hI h s 0).toInt64) s 1).toInt64) 51 (2 : Int32).toNatClampNeg (hI (wJ (wJ h 51 (0 : Int32).toNatClampNeg (hI h s 0).toInt64) 51 (1 : Int32).toNatClampNeg (hI (wJ h 51 (0 : Int32).toNatClampNeg (hI h s 0).toInt64) s 1).toInt64) s 2).toInt64) 51 (3 : Int32).toNatClampNeg (nI (pc st)).toInt64) 51 (4 : Int32).toNatClampNeg (nI (pc (an st (sB (dA D) x.1 x.2)))).toInt64) 51 (9 : Int32).toNatClampNeg (hI (wJ (wJ (wJ (wJ (wJ h 51 (0 : Int32).toNatClampNeg (hI h s 0).toInt64) 51 (1 : Int32).toNatClampNeg (hI (wJ h 51 (0 : Int32).toNatClampNeg (hI h s 0).toInt64) s 1).toInt64) 51 (2 : Int32).toNatClampNeg (hI (wJ (wJ h 51 (0 : Int32).toNatClampNeg (hI h s 0).toInt64) 51 (1 : Int32).toNatClampNeg (hI (wJ h 51 (0 : Int32).toNatClampNeg (hI h s 0).toInt64) s 1).toInt64) s 2).toInt64) 51 (3 : Int32).toNatClampNeg (nI (pc st)).toInt64) 51 (4 : Int32).toNatClampNeg (nI (pc (an st (sB (dA D) x.1 x.2)))).toInt64) 49 4).toInt64) 49 5).toInt64) 49 1 = some 32 := b1
          rw [e, ea2, ← hh7]; exact f1
        have r492' : hR hw 49 2 = some a := by rw [f2.2.1]; exact r492
        have inw : sk_in (8 : Int32) (hN hw 51) := by rw [Cw.n51]; exact vp_in_nI (n := 8) (by omega) (by omega)
        have tail : ∀ v : Int64, (if nI wd &&& (224 : Int32) = 0 then some (wJ hw 51 (8 : Int32).toNatClampNeg v) else Option.bind (some 49) fun a31 => if hK (wJ hw 51 (8 : Int32).toNatClampNeg v) a31 = 4 then if hK (wJ hw 51 (8 : Int32).toNatClampNeg v) 50 = 5 then Option.bind (c_Lo_countRuns d (some 50) (hR (wJ hw 51 (8 : Int32).toNatClampNeg v) a31 2) (hI h 49 3 &&& (hI h s 3 ^^^ ((-1) : Int32))) (wJ hw 51 (8 : Int32).toNatClampNeg v)) fun q32 => some q32 else none else none) = (if (nI wd &&& (224 : Int32)) = 0 then some (wJ hw 51 (8 : Int32).toNatClampNeg v) else Option.bind (c_Lo_countRuns d (some 50) (some a) (nI (an st (sB (dA D) x.1 x.2))) (wJ hw 51 (8 : Int32).toNatClampNeg v)) fun q => some q) := fun v => by
          by_cases q : nI wd &&& (224 : Int32) = 0
          · exact (if_pos q).trans (if_pos q).symm
          · refine (if_neg q).trans ?_
            refine Eq.trans ?_ (if_neg q).symm
            refine (bnd (rfl : some 49 = some 49) _).trans ?_
            refine (if_pos Cw.k49).trans ?_
            refine (if_pos Cw.k50).trans ?_
            rw [show hR (wJ hw 51 (8 : Int32).toNatClampNeg v) 49 2 = some a from r492', ea2]
        cases hwd2 : wD D (an st (sB (dA D) x.1 x.2))
        · rw [hwd2] at cw hv8
          rw [if_neg (by decide)] at hv8
          subst hv8
          refine (e_Lo_lookAt _ _ _ _ _ _).trans ?_
          refine (bnd (rfl : some 49 = some 49) _).trans ?_
          refine (if_pos C.k49).trans ?_
          refine (bnd (rfl : some s = some s) _).trans ?_
          refine (if_pos o1).trans ?_
          refine (if_pos C.k50).trans ?_
          refine (bnd (rfl : some s = some s) _).trans ?_
          refine (if_pos o1).trans ?_
          refine (bnd C.r50_0 _).trans ?_
          refine (if_pos ⟨C.k51, in0⟩).trans ?_
          refine (if_pos C.k50).trans ?_
          refine (bnd (rfl : some s = some s) _).trans ?_
          refine (if_pos o1).trans ?_
          refine (bnd C.r50_0 _).trans ?_
          refine (if_pos ⟨C.k51, in1⟩).trans ?_
          refine (if_pos C.k50).trans ?_
          refine (bnd (rfl : some s = some s) _).trans ?_
          refine (if_pos o1).trans ?_
          refine (bnd C.r50_0 _).trans ?_
          refine (if_pos ⟨C.k51, in2⟩).trans ?_
          refine (if_pos C.k50).trans ?_
          refine (bnd (rfl : some 49 = some 49) _).trans ?_
          refine (if_pos C.k49).trans ?_
          refine (bc1 _ _).trans ?_
          refine (bnd C.r50_0 _).trans ?_
          refine (if_pos ⟨C.k51, in3⟩).trans ?_
          refine (if_pos C.k50).trans ?_
          refine (bc2 _ _).trans ?_
          refine (bnd C.r50_0 _).trans ?_
          refine (if_pos ⟨C.k51, in4⟩).trans ?_
          refine (if_pos C.k50).trans ?_
          refine (bnd (rfl : some 49 = some 49) _).trans ?_
          refine (if_pos C.k49).trans ?_
          refine (bnd C.r50_0 _).trans ?_
          refine (if_pos ⟨C.k51, in9⟩).trans ?_
          refine (if_pos C.k50).trans ?_
          refine (bnd (rfl : some 49 = some 49) _).trans ?_
          refine (if_pos C.k49).trans ?_
          refine (bnd C.r50_0 _).trans ?_
          refine (if_pos ⟨C.k51, in10⟩).trans ?_
          refine (if_neg (fun r => r bt)).trans ?_
          refine (if_pos C.k50).trans ?_
          refine (bnd (rfl : some 49 = some 49) _).trans ?_
          refine (if_pos C.k49).trans ?_
          refine (bnd b1 _).trans ?_
          refine (if_pos C.k32).trans ?_
          refine (bnd cw _).trans ?_
          refine (if_pos (show bi false = 0 by decide)).trans ?_
          refine (bnd C.r50_0 _).trans ?_
          refine (if_pos ⟨Cw.k51, inw⟩).trans ?_
          exact (tail 1).trans hG
        · rw [hwd2] at cw hv8
          rw [if_pos rfl] at hv8
          subst hv8
          refine (e_Lo_lookAt _ _ _ _ _ _).trans ?_
          refine (bnd (rfl : some 49 = some 49) _).trans ?_
          refine (if_pos C.k49).trans ?_
          refine (bnd (rfl : some s = some s) _).trans ?_
          refine (if_pos o1).trans ?_
          refine (if_pos C.k50).trans ?_
          refine (bnd (rfl : some s = some s) _).trans ?_
          refine (if_pos o1).trans ?_
          refine (bnd C.r50_0 _).trans ?_
          refine (if_pos ⟨C.k51, in0⟩).trans ?_
          refine (if_pos C.k50).trans ?_
          refine (bnd (rfl : some s = some s) _).trans ?_
          refine (if_pos o1).trans ?_
          refine (bnd C.r50_0 _).trans ?_
          refine (if_pos ⟨C.k51, in1⟩).trans ?_
          refine (if_pos C.k50).trans ?_
          refine (bnd (rfl : some s = some s) _).trans ?_
          refine (if_pos o1).trans ?_
          refine (bnd C.r50_0 _).trans ?_
          refine (if_pos ⟨C.k51, in2⟩).trans ?_
          refine (if_pos C.k50).trans ?_
          refine (bnd (rfl : some 49 = some 49) _).trans ?_
          refine (if_pos C.k49).trans ?_
          refine (bc1 _ _).trans ?_
          refine (bnd C.r50_0 _).trans ?_
          refine (if_pos ⟨C.k51, in3⟩).trans ?_
          refine (if_pos C.k50).trans ?_
          refine (bc2 _ _).trans ?_
          refine (bnd C.r50_0 _).trans ?_
          refine (if_pos ⟨C.k51, in4⟩).trans ?_
          refine (if_pos C.k50).trans ?_
          refine (bnd (rfl : some 49 = some 49) _).trans ?_
          refine (if_pos C.k49).trans ?_
          refine (bnd C.r50_0 _).trans ?_
          refine (if_pos ⟨C.k51, in9⟩).trans ?_
          refine (if_pos C.k50).trans ?_
          refine (bnd (rfl : some 49 = some 49) _).trans ?_
          refine (if_pos C.k49).trans ?_
          refine (bnd C.r50_0 _).trans ?_
          refine (if_pos ⟨C.k51, in10⟩).trans ?_
          refine (if_neg (fun r => r bt)).trans ?_
          refine (if_pos C.k50).trans ?_
          refine (bnd (rfl : some 49 = some 49) _).trans ?_
          refine (if_pos C.k49).trans ?_
          refine (bnd b1 _).trans ?_
          refine (if_pos C.k32).trans ?_
          refine (bnd cw _).trans ?_
          refine (if_neg (show ¬ bi true = 0 by decide)).trans ?_
          refine (bnd C.r50_0 _).trans ?_
          refine (if_pos ⟨Cw.k51, inw⟩).trans ?_
          exact (tail 0).trans hG
  obtain ⟨h8, L8, C8, T8, O8, r8, J8, K8⟩ := stage2
  have Q8 := Q7.trans L8
  by_cases q : wd &&& 224 = 0
  · obtain ⟨z5, z6, z7⟩ := b224 hwd q
    refine ⟨h8, K8 _ ?_, Q8, T8, fun i hi hok => J8 i hi ?_⟩
    · have e : nI wd &&& (224 : Int32) = 0 := by
        have := nI_and wd 224
        rw [q] at this
        exact this
      exact if_pos e
    · rcases hok with r | r | r | r
      · exact Or.inl r
      · exact Or.inr (Or.inl r)
      · exact Or.inr (Or.inr (Or.inl r))
      · rcases (show i < 5 ∨ i = 5 ∨ i = 6 ∨ i = 7 ∨ i = 8 ∨ i = 9 ∨ i = 10 by omega) with e | rfl | rfl | rfl | rfl | e | e
        · exact Or.inl e
        · rw [z5] at r; cases r
        · rw [z6] at r; cases r
        · rw [z7] at r; cases r
        · exact Or.inr (Or.inr (Or.inr ⟨rfl, r⟩))
        · exact Or.inr (Or.inl e)
        · exact Or.inr (Or.inr (Or.inl e))
  · have cr := Lo_countRuns_ok (d := d) C8 O8 w hl4
    have hlt : wd &&& 224 < 2048 := Nat.lt_of_le_of_lt Nat.and_le_left hwd
    refine ⟨wJ (wJ (wJ h8 51 5 (tL (rn1 (dA D) (an st (sB (dA D) x.1 x.2))))) 51 6 (tL (rn2 (dA D) (an st (sB (dA D) x.1 x.2))))) 51 7 (tL (rn3 (dA D) (an st (sB (dA D) x.1 x.2)))), K8 _ ?_, Q8.trans (((Lq.vJ _ _ _ C8.k51).trans (Lq.vJ _ _ _ C8.k51)).trans (Lq.vJ _ _ _ C8.k51)), ((T8.vJ _ _ (by decide)).vJ _ _ (by decide)).vJ _ _ (by decide), fun i hi hok => ?_⟩
    · have e : ¬ nI wd &&& (224 : Int32) = 0 := fun r => by
        have h2 : nI (wd &&& 224) = nI 0 := (nI_and wd 224).symm.trans r
        exact q ((nI_eq (by omega) (by omega)).mp h2)
      refine (if_neg e).trans ?_
      rw [cr]
      rfl
    · rcases (show i = 5 ∨ i = 6 ∨ i = 7 ∨ (i ≠ 5 ∧ i ≠ 6 ∧ i ≠ 7) by omega) with rfl | rfl | rfl | ⟨n5, n6, n7⟩
      · simp only [hJ_wJ, ↓reduceIte, ↓Option.bind_some, if_true, if_false, true_and, and_true, and_self, true_or, or_true, false_or, or_false, not_true_eq_false, not_false_eq_true, Option.bind_some, somene, false_and, and_false, reduceCtorEq, Nat.reduceEqDiff]; rfl
      · simp only [hJ_wJ, ↓reduceIte, ↓Option.bind_some, if_true, if_false, true_and, and_true, and_self, true_or, or_true, false_or, or_false, not_true_eq_false, not_false_eq_true, Option.bind_some, somene, false_and, and_false, reduceCtorEq, Nat.reduceEqDiff]; rfl
      · simp only [hJ_wJ, ↓reduceIte, ↓Option.bind_some, if_true, if_false, true_and, and_true, and_self, true_or, or_true, false_or, or_false, not_true_eq_false, not_false_eq_true, Option.bind_some, somene, false_and, and_false, reduceCtorEq, Nat.reduceEqDiff]; rfl
      · simp only [hJ_wJ, ↓reduceIte, ↓Option.bind_some, if_true, if_false, true_and, and_true, and_self, true_or, or_true, false_or, or_false, not_true_eq_false, not_false_eq_true, Option.bind_some, somene, false_and, and_false, reduceCtorEq, Nat.reduceEqDiff, n5, n6, n7]
        refine J8 i hi ?_
        rcases hok with r | r | r | r
        · exact Or.inl r
        · exact Or.inr (Or.inl r)
        · exact Or.inr (Or.inr (Or.inl r))
        · rcases (show i < 5 ∨ i = 8 ∨ i = 9 ∨ i = 10 by omega) with e | rfl | e | e
          · exact Or.inl e
          · exact Or.inr (Or.inr (Or.inr ⟨rfl, r⟩))
          · exact Or.inr (Or.inl e)
          · exact Or.inr (Or.inr (Or.inl e))
end SkWords
