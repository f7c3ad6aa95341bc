/-! ===== the reference's table of what is won ===== -/
/-- an alley: its rows; hits, ends, last, stray -/
abbrev DD : Type := AD × Nat × Bool × Bool × Nat
def dA (D : DD) : AD := D.1
def dH (D : DD) : Nat := D.2.1
def dE (D : DD) : Bool := D.2.2.1
def dL (D : DD) : Bool := D.2.2.2.1
def dS (D : DD) : Nat := D.2.2.2.2
def dW (D : DD) : Prop := aW (dA D) ∧ 1 ≤ dH D ∧ dH D < 16 ∧ dS D ≤ 100
def mSaid (D : DD) (s : Nat → Int32) : Prop := aSaid (dA D) s ∧ s 0 = nI 1 ∧ s 3 = nI (dH D) ∧ s 4 = bi (dE D) ∧ s 5 = bi (dL D) ∧ s 6 = nI (dS D)
theorem bi_t : bi true = nI 1 := rfl
theorem bi_f : bi false = nI 0 := rfl
theorem i8_0 : (nI 0).toInt8.toInt32 = nI 0 := by decide
theorem i8_1 : (nI 1).toInt8.toInt32 = nI 1 := by decide
theorem i8_bi (c : Bool) : (bi c).toInt8.toInt32 = bi c := by cases c <;> decide
theorem bool_ft (c : Bool) : (c = false ∨ c = true) = True := by cases c <;> simp
theorem bi_01 (c : Bool) : (bi c = nI 0 ∨ bi c = nI 1) = True := by cases c <;> simp [bi_t, bi_f]
theorem bi_ne0 (c : Bool) : (¬ bi c = nI 0) = (c = true) := by cases c <;> simp [bi_t, bi_f]; decide
theorem bi_inj {c e : Bool} (h : bi c = bi e) : c = e := by
  cases c <;> cases e <;> first | rfl | exact absurd h (by decide)
def lwN (H : Nat) (E L : Bool) : Nat := H + 16 * E.toNat + 32 * L.toNat
theorem lw_code (H : Nat) (E L : Bool) : nI H + nI 16 * bi E + nI 32 * bi L = nI (lwN H E L) := by
  have e1 : ∀ c : Bool, bi c = nI c.toNat := fun c => by cases c <;> rfl
  rw [e1, e1, pk_mul, pk_mul, nI_add, nI_add]
  rfl
theorem toN_le (c : Bool) : c.toNat ≤ 1 := by cases c <;> decide
theorem lw_inj {H H' : Nat} {E L E' L' : Bool} (h1 : H < 16) (h2 : H' < 16) (h : lwN H E L = lwN H' E' L') : H = H' ∧ E = E' ∧ L = L' := by
  unfold lwN at h
  cases E <;> cases L <;> cases E' <;> cases L' <;> simp only [Bool.toNat_true, Bool.toNat_false] at h <;> first | exact ⟨by omega, rfl, rfl⟩ | (exfalso; omega)
theorem lw_lt {H : Nat} (E L : Bool) (h1 : H < 16) : lwN H E L < 64 := by
  have := toN_le E
  have := toN_le L
  unfold lwN; omega
def MWon (A : AD) (h : sk_H) : Prop := hI h 52 23 = nM ∨ ∃ H E L, H < 16 ∧ hI h 52 23 = nI (lwN H E L) ∧ ∀ m, m < 2 ^ aN A → hI h 63 m = bi (wA A H E L m)
theorem M_in2_ok (d : Nat) {v lo hi : Int32} {h : sk_H} : c_M_in d v.toInt64 lo.toInt64 hi.toInt64 h = some (h, bi (decide (lo ≤ v ∧ v ≤ hi))) := by
  rw [M_in_ok]
  congr 3
  simp only [Int32.le_iff_toInt_le, Int64.le_iff_toInt_le, Int32.toInt_toInt64]
section SkMW
variable {h : sk_H} {A : AD} {H n m p k : Nat} {E L : Bool}
theorem M_canBeNow_ok (d : Nat) {D : DD} (M : MS 52 h) (w : dW D) (S : mSaid D (hI h 62)) (hm : m < 4096) (hp : p < aN (dA D)) (h1 : 1 ≤ k) (h4 : k ≤ 4) : c_M_canBeNow d (some 52) (nI m) (nI p) (nI k) h = some (h, bi (cB (dA D) m p k (dH D) (dE D))) := by
  obtain ⟨S1, S2, S3, S4, S5, S6⟩ := S
  have hc := fun E => M_canBe_ok (b := 52) (ends := E) d M w.1 S1 hm hp h1 h4 w.2.2.1
  rw [e_M_canBeNow]
  have c0 := hc false
  have c1 := hc true
  rw [bi_f] at c0
  rw [bi_t] at c1
  simp (disch := omega) only [M.K52, M.R0, M.R3, M.R4, M.R5, M.R6, M.R7, M.R15, M.R17, M.R19, M.R20, M.R22, M.R24, M.R26, M.R27, M.R28, M.R29, M.R30, M.R37, M.R38, M.R39, M.K53, M.K54, M.K55, M.K56, M.K57, M.K58, M.K59, M.K60, M.K61, M.K62, M.K63, M.K64, M.K65, M.K66, M.K67, M.K68, M.K69, M.K70, M.K71, M.K72, M.N53, M.N54, M.N55, M.N56, M.N57, M.N58, M.N59, M.N60, M.N61, M.N62, M.N63, M.N64, M.N65, M.N66, M.N67, M.N68, M.N69, M.N70, M.N71, M.N72, hK_wI, hN_wI, hn_wI, hs_wI, hJ_wI, hR_wI, hK_wJ, hN_wJ, hn_wJ, hs_wJ, hI_wJ, hR_wJ, hK_wR, hN_wR, hn_wR, hs_wR, hI_wR, hJ_wR, if_true, if_false, true_and, and_true, and_self, true_or, or_true, false_or, or_false, not_true_eq_false, not_false_eq_true, Option.bind_some, somene, false_and, and_false, reduceCtorEq, Nat.reduceEqDiff, aa101, aa102, aa103, aa104, aa105, aa106, aa107, aa108, aa201, aa202, aa204, ar106, ar107, ar108, ofn, q_le_t, q_le_f, q_lt_t, q_lt_f, q_eq_t, q_eq_f, nI_add, q_sub, q_in, q_cl, q_m1, q_1m, q_ltm, q_mlt, q_lem, q_mle, q_bi0, q_bi1, lm1, lm2, q_nan, q_an, q_mlt0, q_mle0, l0, l1, l2, l3, l4, l5, l6, l7, l8, l9, l10, l11, l12, l13, l14, l15, l16, l17, l18, l19, l20, l22, l23, l24, l26, l28, l30, l31, l32, l40, l41, l48, l50, l59, l60, l64, l70, l100, l103, l184, l255, l256, l400, l10000, l65536, l100000, l99999, l736, S3, S4, q_bi1]
  cases dE D
  · simp only [if_true, if_false, true_and, and_true, and_self, true_or, or_true, false_or, or_false, not_true_eq_false, not_false_eq_true, Option.bind_some, somene, false_and, and_false, reduceCtorEq, Nat.reduceEqDiff, c0, bi_01]
  · simp only [if_true, if_false, true_and, and_true, and_self, true_or, or_true, false_or, or_false, not_true_eq_false, not_false_eq_true, Option.bind_some, somene, false_and, and_false, reduceCtorEq, Nat.reduceEqDiff, c1, bi_01]
theorem two_shl {n : Nat} (hn : n ≤ 12) : (nI 1 : Int32) <<< (nI n &&& nI 31) = nI (2 ^ n) := by
  have := nI_shl (k := n) (by omega)
  rw [Nat.one_shiftLeft] at this
  exact this
theorem pow12 {n : Nat} (hn : n ≤ 12) : 2 ^ n ≤ 4096 := show 2 ^ n ≤ 2 ^ 12 from Nat.pow_le_pow_right (by omega) hn
/-- the value written for a state -/
def fwV (L is ov : Bool) (l : List (Nat × Nat)) (g : Nat × Nat → Bool) : Bool := if (ov && l.isEmpty) = true then L else (is || l.any g)
theorem M_fw_m (d : Nat) (M : MS 52 h) (w : aW A) (S : aSaid A (hI h 62)) (hH : H < 16) (hm : m < 2 ^ aN A) (T : ∀ j, j < m → hI h 63 j = bi (wA A H E L j)) : k_M_fillsWon_54 d (some 52) (nI H) (bi E) (bi L) (nI m) (nI 0) (nI 1) (nI 0) h = k_M_fillsWon_32 d (some 52) (nI H) (bi E) (bi L) (nI (m + 1)) (wI h 63 m (bi (wA A H E L m))) := by
  have w1 := w.1
  have hm4 := p12 w hm
  obtain ⟨S1, S2, S3⟩ := id S
  have hend : ∀ is ov, k_M_fillsWon_154 d (some 52) (nI H) (bi E) (bi L) (nI m) (bi is) (bi ov) h = k_M_fillsWon_32 d (some 52) (nI H) (bi E) (bi L) (nI (m + 1)) (wI h 63 m (bi (if ov = true then L else is))) := by
    intro is ov
    rw [e_M_fillsWon_154]
    cases ov <;> cases L <;> simp (disch := omega) only [M.K52, M.R0, M.R3, M.R4, M.R5, M.R6, M.R7, M.R15, M.R17, M.R19, M.R20, M.R22, M.R24, M.R26, M.R27, M.R28, M.R29, M.R30, M.R37, M.R38, M.R39, M.K53, M.K54, M.K55, M.K56, M.K57, M.K58, M.K59, M.K60, M.K61, M.K62, M.K63, M.K64, M.K65, M.K66, M.K67, M.K68, M.K69, M.K70, M.K71, M.K72, M.N53, M.N54, M.N55, M.N56, M.N57, M.N58, M.N59, M.N60, M.N61, M.N62, M.N63, M.N64, M.N65, M.N66, M.N67, M.N68, M.N69, M.N70, M.N71, M.N72, hK_wI, hN_wI, hn_wI, hs_wI, hJ_wI, hR_wI, hK_wJ, hN_wJ, hn_wJ, hs_wJ, hI_wJ, hR_wJ, hK_wR, hN_wR, hn_wR, hs_wR, hI_wR, hJ_wR, if_true, if_false, true_and, and_true, and_self, true_or, or_true, false_or, or_false, not_true_eq_false, not_false_eq_true, Option.bind_some, somene, false_and, and_false, reduceCtorEq, Nat.reduceEqDiff, aa101, aa102, aa103, aa104, aa105, aa106, aa107, aa108, aa201, aa202, aa204, ar106, ar107, ar108, ofn, q_le_t, q_le_f, q_lt_t, q_lt_f, q_eq_t, q_eq_f, nI_add, q_sub, q_in, q_cl, q_m1, q_1m, q_ltm, q_mlt, q_lem, q_mle, q_bi0, q_bi1, lm1, lm2, q_nan, q_an, q_mlt0, q_mle0, l0, l1, l2, l3, l4, l5, l6, l7, l8, l9, l10, l11, l12, l13, l14, l15, l16, l17, l18, l19, l20, l22, l23, l24, l26, l28, l30, l31, l32, l40, l41, l48, l50, l59, l60, l64, l70, l100, l103, l184, l255, l256, l400, l10000, l65536, l100000, l99999, l736, bi_t, bi_f, i8_0, i8_1, i8_bi, bi_01, bool_ft] <;> rfl
  let f : Nat → Nat → Bool := fun p k => cB A m p k H E
  let g : Nat × Nat → Bool := fun x => !wA A H E L (aT A m x)
  have key := dloop (aN A) (fun p => ∀ is ov : Bool, (is = true → ov = false) → k_M_fillsWon_54 d (some 52) (nI H) (bi E) (bi L) (nI m) (bi is) (bi ov) (nI p) h = k_M_fillsWon_32 d (some 52) (nI H) (bi E) (bi L) (nI (m + 1)) (wI h 63 m (bi (fwV L is ov (rA f (aN A) p 1) g))))
    (fun p k => ∀ is ov : Bool, (is = true → ov = false) → k_M_fillsWon_73 d (some 52) (nI H) (bi E) (bi L) (nI m) (bi is) (bi ov) (nI p) (nI k) h = k_M_fillsWon_32 d (some 52) (nI H) (bi E) (bi L) (nI (m + 1)) (wI h 63 m (bi (fwV L is ov (rA f (aN A) p k) g))))
    ?_ ?_ ?_ ?_ (aN A) 0 (by omega)
  · have := key false true (by simp)
    rw [bi_t, bi_f] at this
    rw [this, wA_eq hm4]
    congr 3
    unfold fwV wB
    cases hl : aL A H E m with
    | nil => rw [show rA f (aN A) 0 1 = [] from hl]; rfl
    | cons x l => rw [show rA f (aN A) 0 1 = x :: l from hl, if_neg (by simp), if_neg (by simp), Bool.false_or]
  · intro is ov hio
    rw [e_M_fillsWon_54]
    simp (disch := omega) only [M.K52, M.R0, M.R3, M.R4, M.R5, M.R6, M.R7, M.R15, M.R17, M.R19, M.R20, M.R22, M.R24, M.R26, M.R27, M.R28, M.R29, M.R30, M.R37, M.R38, M.R39, M.K53, M.K54, M.K55, M.K56, M.K57, M.K58, M.K59, M.K60, M.K61, M.K62, M.K63, M.K64, M.K65, M.K66, M.K67, M.K68, M.K69, M.K70, M.K71, M.K72, M.N53, M.N54, M.N55, M.N56, M.N57, M.N58, M.N59, M.N60, M.N61, M.N62, M.N63, M.N64, M.N65, M.N66, M.N67, M.N68, M.N69, M.N70, M.N71, M.N72, hK_wI, hN_wI, hn_wI, hs_wI, hJ_wI, hR_wI, hK_wJ, hN_wJ, hn_wJ, hs_wJ, hI_wJ, hR_wJ, hK_wR, hN_wR, hn_wR, hs_wR, hI_wR, hJ_wR, if_true, if_false, true_and, and_true, and_self, true_or, or_true, false_or, or_false, not_true_eq_false, not_false_eq_true, Option.bind_some, somene, false_and, and_false, reduceCtorEq, Nat.reduceEqDiff, aa101, aa102, aa103, aa104, aa105, aa106, aa107, aa108, aa201, aa202, aa204, ar106, ar107, ar108, ofn, q_le_t, q_le_f, q_lt_t, q_lt_f, q_eq_t, q_eq_f, nI_add, q_sub, q_in, q_cl, q_m1, q_1m, q_ltm, q_mlt, q_lem, q_mle, q_bi0, q_bi1, lm1, lm2, q_nan, q_an, q_mlt0, q_mle0, l0, l1, l2, l3, l4, l5, l6, l7, l8, l9, l10, l11, l12, l13, l14, l15, l16, l17, l18, l19, l20, l22, l23, l24, l26, l28, l30, l31, l32, l40, l41, l48, l50, l59, l60, l64, l70, l100, l103, l184, l255, l256, l400, l10000, l65536, l100000, l99999, l736, S1, hend, rA_n]
    unfold fwV
    simp
  · intro p hp hin is ov hio
    rw [e_M_fillsWon_54]
    simp (disch := omega) only [M.K52, M.R0, M.R3, M.R4, M.R5, M.R6, M.R7, M.R15, M.R17, M.R19, M.R20, M.R22, M.R24, M.R26, M.R27, M.R28, M.R29, M.R30, M.R37, M.R38, M.R39, M.K53, M.K54, M.K55, M.K56, M.K57, M.K58, M.K59, M.K60, M.K61, M.K62, M.K63, M.K64, M.K65, M.K66, M.K67, M.K68, M.K69, M.K70, M.K71, M.K72, M.N53, M.N54, M.N55, M.N56, M.N57, M.N58, M.N59, M.N60, M.N61, M.N62, M.N63, M.N64, M.N65, M.N66, M.N67, M.N68, M.N69, M.N70, M.N71, M.N72, hK_wI, hN_wI, hn_wI, hs_wI, hJ_wI, hR_wI, hK_wJ, hN_wJ, hn_wJ, hs_wJ, hI_wJ, hR_wJ, hK_wR, hN_wR, hn_wR, hs_wR, hI_wR, hJ_wR, if_true, if_false, true_and, and_true, and_self, true_or, or_true, false_or, or_false, not_true_eq_false, not_false_eq_true, Option.bind_some, somene, false_and, and_false, reduceCtorEq, Nat.reduceEqDiff, aa101, aa102, aa103, aa104, aa105, aa106, aa107, aa108, aa201, aa202, aa204, ar106, ar107, ar108, ofn, q_le_t, q_le_f, q_lt_t, q_lt_f, q_eq_t, q_eq_f, nI_add, q_sub, q_in, q_cl, q_m1, q_1m, q_ltm, q_mlt, q_lem, q_mle, q_bi0, q_bi1, lm1, lm2, q_nan, q_an, q_mlt0, q_mle0, l0, l1, l2, l3, l4, l5, l6, l7, l8, l9, l10, l11, l12, l13, l14, l15, l16, l17, l18, l19, l20, l22, l23, l24, l26, l28, l30, l31, l32, l40, l41, l48, l50, l59, l60, l64, l70, l100, l103, l184, l255, l256, l400, l10000, l65536, l100000, l99999, l736, S1, hend]
    cases is
    · simp only [bi_f, if_true, if_false, true_and, and_true, and_self, true_or, or_true, false_or, or_false, not_true_eq_false, not_false_eq_true, Option.bind_some, somene, false_and, and_false, reduceCtorEq, Nat.reduceEqDiff]
      have := hin false ov hio
      rw [bi_f] at this
      exact this
    · have ho := hio rfl
      subst ho
      simp [fwV]
  · intro p hp hco is ov hio
    rw [e_M_fillsWon_73]
    simp (disch := omega) only [hK_wI, hN_wI, hn_wI, hs_wI, hJ_wI, hR_wI, hK_wJ, hN_wJ, hn_wJ, hs_wJ, hI_wJ, hR_wJ, hK_wR, hN_wR, hn_wR, hs_wR, hI_wR, hJ_wR, if_true, if_false, true_and, and_true, and_self, true_or, or_true, false_or, or_false, not_true_eq_false, not_false_eq_true, Option.bind_some, somene, false_and, and_false, reduceCtorEq, Nat.reduceEqDiff, aa101, aa102, aa103, aa104, aa105, aa106, aa107, aa108, aa201, aa202, aa204, ar106, ar107, ar108, ofn, q_le_t, q_le_f, q_lt_t, q_lt_f, q_eq_t, q_eq_f, nI_add, q_sub, q_in, q_cl, q_m1, q_1m, q_ltm, q_mlt, q_lem, q_mle, q_bi0, q_bi1, lm1, lm2, q_nan, q_an, q_mlt0, q_mle0, l0, l1, l2, l3, l4, l5, l6, l7, l8, l9, l10, l11, l12, l13, l14, l15, l16, l17, l18, l19, l20, l22, l23, l24, l26, l28, l30, l31, l32, l40, l41, l48, l50, l59, l60, l64, l70, l100, l103, l184, l255, l256, l400, l10000, l65536, l100000, l99999, l736, rA_5]
    exact hco is ov hio
  · intro p k hp h1 h4 hin is ov hio
    rw [e_M_fillsWon_73]
    have h97 : ∀ e : Bool, e = E → k_M_fillsWon_97 d (some 52) (nI H) (bi E) (bi L) (nI m) (bi is) (bi ov) (nI p) (nI k) (bi e) (nI H) (nI k) (nI p) (nI m) (some 52) h = k_M_fillsWon_32 d (some 52) (nI H) (bi E) (bi L) (nI (m + 1)) (wI h 63 m (bi (fwV L is ov (rA f (aN A) p k) g))) := by
      intro e he
      subst he
      rw [e_M_fillsWon_97]
      simp (disch := omega) only [M.K52, M.R0, M.R3, M.R4, M.R5, M.R6, M.R7, M.R15, M.R17, M.R19, M.R20, M.R22, M.R24, M.R26, M.R27, M.R28, M.R29, M.R30, M.R37, M.R38, M.R39, M.K53, M.K54, M.K55, M.K56, M.K57, M.K58, M.K59, M.K60, M.K61, M.K62, M.K63, M.K64, M.K65, M.K66, M.K67, M.K68, M.K69, M.K70, M.K71, M.K72, M.N53, M.N54, M.N55, M.N56, M.N57, M.N58, M.N59, M.N60, M.N61, M.N62, M.N63, M.N64, M.N65, M.N66, M.N67, M.N68, M.N69, M.N70, M.N71, M.N72, hK_wI, hN_wI, hn_wI, hs_wI, hJ_wI, hR_wI, hK_wJ, hN_wJ, hn_wJ, hs_wJ, hI_wJ, hR_wJ, hK_wR, hN_wR, hn_wR, hs_wR, hI_wR, hJ_wR, if_true, if_false, true_and, and_true, and_self, true_or, or_true, false_or, or_false, not_true_eq_false, not_false_eq_true, Option.bind_some, somene, false_and, and_false, reduceCtorEq, Nat.reduceEqDiff, aa101, aa102, aa103, aa104, aa105, aa106, aa107, aa108, aa201, aa202, aa204, ar106, ar107, ar108, ofn, q_le_t, q_le_f, q_lt_t, q_lt_f, q_eq_t, q_eq_f, nI_add, q_sub, q_in, q_cl, q_m1, q_1m, q_ltm, q_mlt, q_lem, q_mle, q_bi0, q_bi1, lm1, lm2, q_nan, q_an, q_mlt0, q_mle0, l0, l1, l2, l3, l4, l5, l6, l7, l8, l9, l10, l11, l12, l13, l14, l15, l16, l17, l18, l19, l20, l22, l23, l24, l26, l28, l30, l31, l32, l40, l41, l48, l50, l59, l60, l64, l70, l100, l103, l184, l255, l256, l400, l10000, l65536, l100000, l99999, l736, M_canBe_ok (b := 52) (ends := e) d M w S hm4 hp h1 h4 hH]
      rw [rA_s f hp h1 h4]
      cases hf : cB A m p k H e
      · rw [show f p k = false from hf]
        simp only [if_true, if_false, true_and, and_true, and_self, true_or, or_true, false_or, or_false, not_true_eq_false, not_false_eq_true, Option.bind_some, somene, false_and, and_false, reduceCtorEq, Nat.reduceEqDiff, Bool.false_eq_true]
        exact hin is ov hio
      · rw [show f p k = true from hf]
        obtain ⟨_, c2, c3⟩ := cB_sub hf
        have hlt := an_sub hm4 c2 c3
        simp only [if_true, if_false, true_and, and_true, and_self, true_or, or_true, false_or, or_false, not_true_eq_false, not_false_eq_true, Option.bind_some, somene, false_and, and_false, reduceCtorEq, Nat.reduceEqDiff, Bool.true_eq_false]
        cases is
        · have hs := sB_lt w hp k
          have hT := T _ hlt
          simp (disch := omega) only [M.K52, M.R0, M.R3, M.R4, M.R5, M.R6, M.R7, M.R15, M.R17, M.R19, M.R20, M.R22, M.R24, M.R26, M.R27, M.R28, M.R29, M.R30, M.R37, M.R38, M.R39, M.K53, M.K54, M.K55, M.K56, M.K57, M.K58, M.K59, M.K60, M.K61, M.K62, M.K63, M.K64, M.K65, M.K66, M.K67, M.K68, M.K69, M.K70, M.K71, M.K72, M.N53, M.N54, M.N55, M.N56, M.N57, M.N58, M.N59, M.N60, M.N61, M.N62, M.N63, M.N64, M.N65, M.N66, M.N67, M.N68, M.N69, M.N70, M.N71, M.N72, hK_wI, hN_wI, hn_wI, hs_wI, hJ_wI, hR_wI, hK_wJ, hN_wJ, hn_wJ, hs_wJ, hI_wJ, hR_wJ, hK_wR, hN_wR, hn_wR, hs_wR, hI_wR, hJ_wR, if_true, if_false, true_and, and_true, and_self, true_or, or_true, false_or, or_false, not_true_eq_false, not_false_eq_true, Option.bind_some, somene, false_and, and_false, reduceCtorEq, Nat.reduceEqDiff, aa101, aa102, aa103, aa104, aa105, aa106, aa107, aa108, aa201, aa202, aa204, ar106, ar107, ar108, ofn, q_le_t, q_le_f, q_lt_t, q_lt_f, q_eq_t, q_eq_f, nI_add, q_sub, q_in, q_cl, q_m1, q_1m, q_ltm, q_mlt, q_lem, q_mle, q_bi0, q_bi1, lm1, lm2, q_nan, q_an, q_mlt0, q_mle0, l0, l1, l2, l3, l4, l5, l6, l7, l8, l9, l10, l11, l12, l13, l14, l15, l16, l17, l18, l19, l20, l22, l23, l24, l26, l28, l30, l31, l32, l40, l41, l48, l50, l59, l60, l64, l70, l100, l103, l184, l255, l256, l400, l10000, l65536, l100000, l99999, l736, bi_f, M_strokeBits_ok (b := 52) d M w S hp h4, hT]
          cases hw : wA A H e L (an m (sB A p k))
          · simp only [if_true, if_false, true_and, and_true, and_self, true_or, or_true, false_or, or_false, not_true_eq_false, not_false_eq_true, Option.bind_some, somene, false_and, and_false, reduceCtorEq, Nat.reduceEqDiff]
            have := hin true false (by simp)
            rw [bi_t, bi_f] at this
            rw [this]
            simp [fwV, g, aT, hw]
          · simp only [if_true, if_false, true_and, and_true, and_self, true_or, or_true, false_or, or_false, not_true_eq_false, not_false_eq_true, Option.bind_some, somene, false_and, and_false, reduceCtorEq, Nat.reduceEqDiff, Bool.true_eq_false]
            have := hin false false (by simp)
            rw [bi_f] at this
            rw [this]
            simp [fwV, g, aT, hw]
        · have ho := hio rfl
          subst ho
          simp only [bi_t, if_true, if_false, true_and, and_true, and_self, true_or, or_true, false_or, or_false, not_true_eq_false, not_false_eq_true, Option.bind_some, somene, false_and, and_false, reduceCtorEq, Nat.reduceEqDiff]
          have := hin true false (by simp)
          rw [bi_t, bi_f] at this
          rw [this]
          simp [fwV]
    have hE0 := h97 false
    have hE1 := h97 true
    rw [bi_f] at hE0
    rw [bi_t] at hE1
    simp (disch := omega) only [hK_wI, hN_wI, hn_wI, hs_wI, hJ_wI, hR_wI, hK_wJ, hN_wJ, hn_wJ, hs_wJ, hI_wJ, hR_wJ, hK_wR, hN_wR, hn_wR, hs_wR, hI_wR, hJ_wR, if_true, if_false, true_and, and_true, and_self, true_or, or_true, false_or, or_false, not_true_eq_false, not_false_eq_true, Option.bind_some, somene, false_and, and_false, reduceCtorEq, Nat.reduceEqDiff, aa101, aa102, aa103, aa104, aa105, aa106, aa107, aa108, aa201, aa202, aa204, ar106, ar107, ar108, ofn, q_le_t, q_le_f, q_lt_t, q_lt_f, q_eq_t, q_eq_f, nI_add, q_sub, q_in, q_cl, q_m1, q_1m, q_ltm, q_mlt, q_lem, q_mle, q_bi0, q_bi1, lm1, lm2, q_nan, q_an, q_mlt0, q_mle0, l0, l1, l2, l3, l4, l5, l6, l7, l8, l9, l10, l11, l12, l13, l14, l15, l16, l17, l18, l19, l20, l22, l23, l24, l26, l28, l30, l31, l32, l40, l41, l48, l50, l59, l60, l64, l70, l100, l103, l184, l255, l256, l400, l10000, l65536, l100000, l99999, l736]
    cases E
    · simp only [if_true, if_false, true_and, and_true, and_self, true_or, or_true, false_or, or_false, not_true_eq_false, not_false_eq_true, Option.bind_some, somene, false_and, and_false, reduceCtorEq, Nat.reduceEqDiff, Bool.false_eq_true]
      exact hE0 rfl
    · simp only [if_true, if_false, true_and, and_true, and_self, true_or, or_true, false_or, or_false, not_true_eq_false, not_false_eq_true, Option.bind_some, somene, false_and, and_false, reduceCtorEq, Nat.reduceEqDiff]
      exact hE1 rfl
theorem M_fw_all (d : Nat) (w : aW A) (hH : H < 16) : ∀ (c m : Nat) (h : sk_H), m + c = 2 ^ aN A → MS 52 h → aSaid A (hI h 62) → (∀ j, j < m → hI h 63 j = bi (wA A H E L j)) → ∃ h', k_M_fillsWon_32 d (some 52) (nI H) (bi E) (bi L) (nI m) h = some h' ∧ Mq h h' ∧ hI h' 52 23 = hI h 52 23 ∧ ∀ j, j < 2 ^ aN A → hI h' 63 j = bi (wA A H E L j)
  | 0, m, h, hc, M, S, T => by
    have hp := pow12 w.1
    have w1 := w.1
    refine ⟨h, ?_, Mq.refl h, rfl, fun j hj => T j (by omega)⟩
    rw [e_M_fillsWon_32]
    simp (disch := omega) only [M.K52, M.R0, M.R3, M.R4, M.R5, M.R6, M.R7, M.R15, M.R17, M.R19, M.R20, M.R22, M.R24, M.R26, M.R27, M.R28, M.R29, M.R30, M.R37, M.R38, M.R39, M.K53, M.K54, M.K55, M.K56, M.K57, M.K58, M.K59, M.K60, M.K61, M.K62, M.K63, M.K64, M.K65, M.K66, M.K67, M.K68, M.K69, M.K70, M.K71, M.K72, M.N53, M.N54, M.N55, M.N56, M.N57, M.N58, M.N59, M.N60, M.N61, M.N62, M.N63, M.N64, M.N65, M.N66, M.N67, M.N68, M.N69, M.N70, M.N71, M.N72, l1, l31, nI_clamp, q_in, S.1, if_true, if_false, true_and, and_true, and_self, true_or, or_true, false_or, or_false, not_true_eq_false, not_false_eq_true, Option.bind_some, somene, false_and, and_false, reduceCtorEq, Nat.reduceEqDiff, two_shl, q_le_t]
  | c + 1, m, h, hc, M, S, T => by
    have hp := pow12 w.1
    have w1 := w.1
    obtain ⟨h', e1, Q, e2, e3⟩ := M_fw_all d w hH c (m + 1) (wI h 63 m (bi (wA A H E L m))) (by omega) M S (fun j hj => by
      rw [hI_wI]
      by_cases hq : j = m
      · rw [if_pos ⟨rfl, hq⟩, hq]
      · rw [if_neg (fun q => hq q.2)]; exact T j (by omega))
    refine ⟨h', ?_, (Mq.vI h _ rfl).trans Q, e2, e3⟩
    rw [e_M_fillsWon_32]
    simp (disch := omega) only [M.K52, M.R0, M.R3, M.R4, M.R5, M.R6, M.R7, M.R15, M.R17, M.R19, M.R20, M.R22, M.R24, M.R26, M.R27, M.R28, M.R29, M.R30, M.R37, M.R38, M.R39, M.K53, M.K54, M.K55, M.K56, M.K57, M.K58, M.K59, M.K60, M.K61, M.K62, M.K63, M.K64, M.K65, M.K66, M.K67, M.K68, M.K69, M.K70, M.K71, M.K72, M.N53, M.N54, M.N55, M.N56, M.N57, M.N58, M.N59, M.N60, M.N61, M.N62, M.N63, M.N64, M.N65, M.N66, M.N67, M.N68, M.N69, M.N70, M.N71, M.N72, l0, l1, l31, nI_clamp, q_in, S.1, if_true, if_false, true_and, and_true, and_self, true_or, or_true, false_or, or_false, not_true_eq_false, not_false_eq_true, Option.bind_some, somene, false_and, and_false, reduceCtorEq, Nat.reduceEqDiff, two_shl, q_le_f]
    rw [M_fw_m d M w S hH (by omega) T]
    exact e1
theorem M_fillsWon_ok (d : Nat) (M : MS 52 h) (w : aW A) (S : aSaid A (hI h 62)) (X : MWon A h) (hH : H < 16) (E L : Bool) : ∃ h', c_M_fillsWon d (some 52) (nI H) (bi E) (bi L) h = some h' ∧ Mq h h' ∧ hI h' 52 23 = nI (lwN H E L) ∧ ∀ j, j < 2 ^ aN A → hI h' 63 j = bi (wA A H E L j) := by
  have hl := lw_lt E L hH
  rw [e_M_fillsWon]
  simp (disch := omega) only [M.K52, M.R0, M.R3, M.R4, M.R5, M.R6, M.R7, M.R15, M.R17, M.R19, M.R20, M.R22, M.R24, M.R26, M.R27, M.R28, M.R29, M.R30, M.R37, M.R38, M.R39, M.K53, M.K54, M.K55, M.K56, M.K57, M.K58, M.K59, M.K60, M.K61, M.K62, M.K63, M.K64, M.K65, M.K66, M.K67, M.K68, M.K69, M.K70, M.K71, M.K72, M.N53, M.N54, M.N55, M.N56, M.N57, M.N58, M.N59, M.N60, M.N61, M.N62, M.N63, M.N64, M.N65, M.N66, M.N67, M.N68, M.N69, M.N70, M.N71, M.N72, l16, l32, lw_code, if_true, if_false, true_and, and_true, and_self, true_or, or_true, false_or, or_false, not_true_eq_false, not_false_eq_true, Option.bind_some, somene, false_and, and_false, reduceCtorEq, Nat.reduceEqDiff, l0]
  by_cases hq : hI h 52 23 = nI (lwN H E L)
  · simp only [hq, if_true, if_false, true_and, and_true, and_self, true_or, or_true, false_or, or_false, not_true_eq_false, not_false_eq_true, Option.bind_some, somene, false_and, and_false, reduceCtorEq, Nat.reduceEqDiff]
    refine ⟨h, rfl, Mq.refl h, hq, ?_⟩
    rcases X with q | ⟨H', E', L', h1, h2, h3⟩
    · rw [q] at hq
      exact absurd hq (by rw [q_1m (by omega)]; exact id)
    · have hl' := lw_lt E' L' h1
      rw [h2, q_eq (by omega) (by omega)] at hq
      obtain ⟨i1, i2, i3⟩ := lw_inj h1 hH hq
      subst i1; subst i2; subst i3
      exact h3
  · simp only [hq, if_true, if_false, true_and, and_true, and_self, true_or, or_true, false_or, or_false, not_true_eq_false, not_false_eq_true, Option.bind_some, somene, false_and, and_false, reduceCtorEq, Nat.reduceEqDiff]
    obtain ⟨h', e1, Q, e2, e3⟩ := M_fw_all (E := E) (L := L) d w hH (2 ^ aN A) 0 (wI h 52 23 (nI (lwN H E L))) (by omega) M S (fun j hj => absurd hj (by omega))
    refine ⟨h', e1, (Mq.vI h _ (by decide)).trans Q, ?_, e3⟩
    rw [e2, hI_wI]
    rfl
theorem MWon_of {h' : sk_H} (hH : H < 16) (h1 : hI h' 52 23 = nI (lwN H E L)) (h2 : ∀ j, j < 2 ^ aN A → hI h' 63 j = bi (wA A H E L j)) : MWon A h' := Or.inr ⟨H, E, L, hH, h1, h2⟩
/-- the law of an alley itself -/
def wD (D : DD) : Nat → Bool := wA (dA D) (dH D) (dE D) (dL D)
theorem M_fillsNow_ok (d : Nat) {D : DD} (M : MS 52 h) (w : dW D) (S : mSaid D (hI h 62)) (X : MWon (dA D) h) : ∃ h', c_M_fillsNow d (some 52) h = some h' ∧ Mq h h' ∧ MWon (dA D) h' ∧ (∀ j, j < 2 ^ aN (dA D) → hI h' 63 j = bi (wD D j)) ∧ ((∀ j, j < 2 ^ aN (dA D) → hI h 63 j = bi (wD D j)) → hI h 52 23 = nI (lwN (dH D) (dE D) (dL D)) → h' = h) := by
  obtain ⟨S1, S2, S3, S4, S5, S6⟩ := S
  obtain ⟨h', e1, Q, e2, e3⟩ := M_fillsWon_ok d M w.1 S1 X w.2.2.1 (dE D) (dL D)
  refine ⟨h', ?_, Q, MWon_of w.2.2.1 e2 e3, e3, fun _ hq => ?_⟩
  · rw [e_M_fillsNow]
    simp (disch := omega) only [M.K52, M.R0, M.R3, M.R4, M.R5, M.R6, M.R7, M.R15, M.R17, M.R19, M.R20, M.R22, M.R24, M.R26, M.R27, M.R28, M.R29, M.R30, M.R37, M.R38, M.R39, M.K53, M.K54, M.K55, M.K56, M.K57, M.K58, M.K59, M.K60, M.K61, M.K62, M.K63, M.K64, M.K65, M.K66, M.K67, M.K68, M.K69, M.K70, M.K71, M.K72, M.N53, M.N54, M.N55, M.N56, M.N57, M.N58, M.N59, M.N60, M.N61, M.N62, M.N63, M.N64, M.N65, M.N66, M.N67, M.N68, M.N69, M.N70, M.N71, M.N72, hK_wI, hN_wI, hn_wI, hs_wI, hJ_wI, hR_wI, hK_wJ, hN_wJ, hn_wJ, hs_wJ, hI_wJ, hR_wJ, hK_wR, hN_wR, hn_wR, hs_wR, hI_wR, hJ_wR, if_true, if_false, true_and, and_true, and_self, true_or, or_true, false_or, or_false, not_true_eq_false, not_false_eq_true, Option.bind_some, somene, false_and, and_false, reduceCtorEq, Nat.reduceEqDiff, aa101, aa102, aa103, aa104, aa105, aa106, aa107, aa108, aa201, aa202, aa204, ar106, ar107, ar108, ofn, q_le_t, q_le_f, q_lt_t, q_lt_f, q_eq_t, q_eq_f, nI_add, q_sub, q_in, q_cl, q_m1, q_1m, q_ltm, q_mlt, q_lem, q_mle, q_bi0, q_bi1, lm1, lm2, q_nan, q_an, q_mlt0, q_mle0, l0, l1, l2, l3, l4, l5, l6, l7, l8, l9, l10, l11, l12, l13, l14, l15, l16, l17, l18, l19, l20, l22, l23, l24, l26, l28, l30, l31, l32, l40, l41, l48, l50, l59, l60, l64, l70, l100, l103, l184, l255, l256, l400, l10000, l65536, l100000, l99999, l736, S3, S4, S5, e1]
  · have hl := lw_lt (dE D) (dL D) w.2.2.1
    rw [e_M_fillsWon] at e1
    simp (disch := omega) only [M.K52, M.R0, M.R3, M.R4, M.R5, M.R6, M.R7, M.R15, M.R17, M.R19, M.R20, M.R22, M.R24, M.R26, M.R27, M.R28, M.R29, M.R30, M.R37, M.R38, M.R39, M.K53, M.K54, M.K55, M.K56, M.K57, M.K58, M.K59, M.K60, M.K61, M.K62, M.K63, M.K64, M.K65, M.K66, M.K67, M.K68, M.K69, M.K70, M.K71, M.K72, M.N53, M.N54, M.N55, M.N56, M.N57, M.N58, M.N59, M.N60, M.N61, M.N62, M.N63, M.N64, M.N65, M.N66, M.N67, M.N68, M.N69, M.N70, M.N71, M.N72, l16, l32, lw_code, if_true, if_false, true_and, and_true, and_self, true_or, or_true, false_or, or_false, not_true_eq_false, not_false_eq_true, Option.bind_some, somene, false_and, and_false, reduceCtorEq, Nat.reduceEqDiff, l0, hq] at e1
    exact (Option.some.inj e1).symm
theorem M_isWonAt_ok (d : Nat) {D : DD} (M : MS 52 h) (w : dW D) (S : mSaid D (hI h 62)) (X : MWon (dA D) h) (hm : m < 2 ^ aN (dA D)) : ∃ h', c_M_isWonAt d (some 52) (nI m) h = some (h', bi (wD D m)) ∧ Mq h h' ∧ MWon (dA D) h' ∧ (∀ j, j < 2 ^ aN (dA D) → hI h' 63 j = bi (wD D j)) := by
  obtain ⟨h', e1, Q, X', e3, _⟩ := M_fillsNow_ok d M w S X
  have M' := M.mq Q
  have hp := pow12 w.1.1
  refine ⟨h', ?_, Q, X', e3⟩
  rw [e_M_isWonAt]
  have e4 := e3 m hm
  simp only [M.K52, if_true, if_false, true_and, and_true, and_self, true_or, or_true, false_or, or_false, not_true_eq_false, not_false_eq_true, Option.bind_some, somene, false_and, and_false, reduceCtorEq, Nat.reduceEqDiff, e1, M'.K52, M'.R22, M'.K63, M'.N63, q_in (i := m) (N := 4096) (by omega) (by omega), nI_clamp (n := m) (by omega), e4, l0, l1, bi_01]
end SkMW
