/-! ===== runs counted: the class, the reference ===== -/
def W1 (n : Nat) : Nat := if n = 0 then 0 else 1
def W2 (n : Nat) : Nat := n
def W3 (n : Nat) : Nat := if n = 1 then 1 else 0
def opA (a b : Nat) : Nat := a + b
def opM (a b : Nat) : Nat := max a b
theorem JoA : Jo opA := Jo_add
theorem JoM : Jo opM := Jo_max
def rn1 (A : AD) (m : Nat) : Nat := allF opA W1 A m
def rn2 (A : AD) (m : Nat) : Nat := allF opM W2 A m
def rn3 (A : AD) (m : Nat) : Nat := allF opA W3 A m
theorem W1_le (n : Nat) : W1 n ≤ 1 := by unfold W1; split <;> omega
theorem W3_le (n : Nat) : W3 n ≤ 1 := by unfold W3; split <;> omega
theorem foA_le {f : Nat → Nat} (h : ∀ i, f i ≤ 1) : ∀ n, fo opA f n ≤ n
  | 0 => Nat.le_refl 0
  | n + 1 => by
    have h1 := foA_le h n
    have h2 := h n
    show fo opA f n + f n ≤ n + 1
    omega
theorem foM_le {f : Nat → Nat} {B : Nat} (h : ∀ i, f i ≤ B) : ∀ n, fo opM f n ≤ B
  | 0 => Nat.zero_le B
  | n + 1 => by
    have h1 := foM_le h n
    have h2 := h n
    show max (fo opM f n) (f n) ≤ B
    omega
theorem mx_ite {a b : Nat} (ha : a < 2 ^ 31) (hb : b < 2 ^ 31) : (if nI a < nI b then nI b else nI a) = nI (max a b) := by
  by_cases q : a < b
  · rw [if_pos (nI_lt q hb), Nat.max_eq_right (by omega)]
  · rw [if_neg (nI_nlt (by omega) ha), Nat.max_eq_left (by omega)]
section SkCount
variable {F G : Nat → Prop} {h h' h1 h2 : sk_H} {j st tu pl a m p k n i w l r : Nat} {D : DD} {c : Nat → Nat} {d : Nat} {A : AD}
theorem rL_le (w : aW A) (hp : p < aN A) : rL' A m p ≤ 12 := by
  unfold rL'
  have h1 := (aRow_in w hp).1
  have w3 := w.2.2.1 _ h1
  have w1 := w.1
  split
  · split <;> omega
  · have := ru_le A m p; omega
theorem Al_runL_ok (O : AOc F h a D c) (w : dW D) (hm : m < 4096) (hp : p < aN (dA D)) : c_Al_runFrom d (some a) (nI m) (nI p) h = some (h, nI (rL' (dA D) m p)) := by
  cases hw : whole (dA D) (aRow (dA D) p) m
  · have e : rL' (dA D) m p = ru (dA D) m p := by unfold rL'; rw [hw]; rfl
    rw [e]
    exact Al_runFrom_ok O w hm hp hw
  · obtain ⟨o1, o2, o3, o4, o8, o9, o10, -⟩ := id O
    have w1 := w.1.1
    have hr := (aRow_in w.1 hp).1
    have w2 := w.1.2.1
    have w3 := w.1.2.2.1 _ hr
    have r8 := O.r (j := 8) (by omega) (by omega)
    have r9 := O.r (j := 9) (by omega) (by omega)
    have r10 := O.r (j := 10) (by omega) (by omega)
    have e8 := o8.2.2 p hp
    have e9 := o9.2.2 _ hr
    have e10 := o10.2.2 _ hr
    have wr : c_Al_isWholeRing d (some a) (nI m) (hI h (c 8) (nI p).toNatClampNeg) h = some (h, bi true) := by
      rw [q_cl (by omega), e8, Al_whole_ok O w hr hm, hw]
    have e : rL' (dA D) m p = if p = aSt (dA D) (aRow (dA D) p) then aSz (dA D) (aRow (dA D) p) else 0 := by unfold rL'; rw [hw, if_pos rfl]
    rw [e, e_Al_runFrom]
    by_cases q : p = aSt (dA D) (aRow (dA D) p)
    · rw [if_pos q]
      rw [← q] at e9
      simp (disch := omega) only [o2, ↓bnd r8, ↓bnd r9, ↓bnd r10, o8.1, o8.2.1, o9.1, o9.2.1, o10.1, o10.2.1, ↓reduceIte, ↓Option.bind_some, if_true, if_false, true_and, and_true, and_self, true_or, or_true, false_or, or_false, not_true_eq_false, not_false_eq_true, Option.bind_some, somene, false_and, and_false, reduceCtorEq, Nat.reduceEqDiff, q_in, q_cl, e8, ↓bnd wr, l0, q_bi0, Bool.true_eq_false, e9, e10]
    · rw [if_neg q]
      simp (disch := omega) only [o2, ↓bnd r8, ↓bnd r9, ↓bnd r10, o8.1, o8.2.1, o9.1, o9.2.1, o10.1, o10.2.1, ↓reduceIte, ↓Option.bind_some, if_true, if_false, true_and, and_true, and_self, true_or, or_true, false_or, or_false, not_true_eq_false, not_false_eq_true, Option.bind_some, somene, false_and, and_false, reduceCtorEq, Nat.reduceEqDiff, q_in, q_cl, e8, ↓bnd wr, l0, q_bi0, Bool.true_eq_false, e9, q_eq_f, q]
def tL (n : Nat) : Int64 := (nI n).toInt64
theorem Lo_cr_in (C : CS h) (O : AOc F h a D c) (w : dW D) (hm : m < 4096) : ∀ (n p : Nat), p + n = aN (dA D) → k_Lo_countRuns_11 d (some 50) (some a) (nI m) (nI (fo opA (fun p => W1 (rL' (dA D) m p)) p)) (nI (fo opM (fun p => W2 (rL' (dA D) m p)) p)) (nI (fo opA (fun p => W3 (rL' (dA D) m p)) p)) (nI p) h = some (wJ (wJ (wJ h 51 5 (tL (rn1 (dA D) m))) 51 6 (tL (rn2 (dA D) m))) 51 7 (tL (rn3 (dA D) m)))
  | 0, p, hp => by
    obtain ⟨o1, o2, o3, -⟩ := id O
    have o31 := o3.1
    have w1 := w.1.1
    have e : p = aN (dA D) := by omega
    subst e
    rw [e_Lo_countRuns_11]
    simp (disch := omega) only [o2, o31, ↓reduceIte, ↓Option.bind_some, if_true, if_false, true_and, and_true, and_self, true_or, or_true, false_or, or_false, not_true_eq_false, not_false_eq_true, Option.bind_some, somene, false_and, and_false, reduceCtorEq, Nat.reduceEqDiff, q_le_t, C.k50, ↓bnd C.r50_0, C.k51, C.n51, hK_wI, hN_wI, hn_wI, hs_wI, hJ_wI, hR_wI, hK_wJ, hN_wJ, hn_wJ, hs_wJ, hI_wJ, hR_wJ, hK_wR, hN_wR, hn_wR, hs_wR, hI_wR, hJ_wR, l5, l6, l7, q_in, q_cl]
    rfl
  | n + 1, p, hp => by
    obtain ⟨o1, o2, o3, -⟩ := id O
    have o31 := o3.1
    have w1 := w.1.1
    have rf := Al_runL_ok (d := d) O w hm (show p < aN (dA D) by omega)
    have b1 := foA_le (f := fun p => W1 (rL' (dA D) m p)) (fun i => W1_le _) p
    have b3 := foA_le (f := fun p => W3 (rL' (dA D) m p)) (fun i => W3_le _) p
    have rl := rL_le (m := m) w.1 (show p < aN (dA D) by omega)
    have b2 : fo opM (fun p => W2 (rL' (dA D) m p)) p ≤ 12 := by
      have : ∀ q, q ≤ p → fo opM (fun p => W2 (rL' (dA D) m p)) q ≤ 12 := by
        intro q
        induction q with
        | zero => intro _; exact Nat.zero_le _
        | succ q ih =>
          intro hq
          have h1 := ih (by omega)
          have h2 := rL_le (m := m) w.1 (show q < aN (dA D) by omega)
          show max (fo opM (fun p => W2 (rL' (dA D) m p)) q) (rL' (dA D) m q) ≤ 12
          omega
      exact this p (Nat.le_refl _)
    rw [← Lo_cr_in C O w hm n (p + 1) (by omega), e_Lo_countRuns_11]
    show _ = k_Lo_countRuns_11 d (some 50) (some a) (nI m) (nI (fo opA (fun p => W1 (rL' (dA D) m p)) p + W1 (rL' (dA D) m p))) (nI (max (fo opM (fun p => W2 (rL' (dA D) m p)) p) (rL' (dA D) m p))) (nI (fo opA (fun p => W3 (rL' (dA D) m p)) p + W3 (rL' (dA D) m p))) (nI (p + 1)) h
    generalize fo opA (fun p => W1 (rL' (dA D) m p)) p = f1 at *
    generalize fo opM (fun p => W2 (rL' (dA D) m p)) p = f2 at *
    generalize fo opA (fun p => W3 (rL' (dA D) m p)) p = f3 at *
    generalize rL' (dA D) m p = q at *
    have mx := mx_ite (a := f2) (b := q) (by omega) (by omega)
    rcases (show q = 0 ∨ q = 1 ∨ 2 ≤ q by omega) with hq | hq | hq
    · subst hq
      have e1 : W1 0 = 0 := rfl
      have e3 : W3 0 = 0 := rfl
      rw [e1, e3]
      simp (disch := omega) only [o2, o31, ↓reduceIte, ↓Option.bind_some, if_true, if_false, true_and, and_true, and_self, true_or, or_true, false_or, or_false, not_true_eq_false, not_false_eq_true, Option.bind_some, somene, false_and, and_false, reduceCtorEq, Nat.reduceEqDiff, q_le_f, q_le_t, ↓bnd rf, l0, l1, e_Lo_countRuns_40, q_eq_f, nI_add, mx]
    · subst hq
      have e1 : W1 1 = 1 := rfl
      have e3 : W3 1 = 1 := rfl
      rw [e1, e3]
      simp (disch := omega) only [o2, o31, ↓reduceIte, ↓Option.bind_some, if_true, if_false, true_and, and_true, and_self, true_or, or_true, false_or, or_false, not_true_eq_false, not_false_eq_true, Option.bind_some, somene, false_and, and_false, reduceCtorEq, Nat.reduceEqDiff, q_le_f, ↓bnd rf, l0, l1, e_Lo_countRuns_40, nI_add, mx]
    · have e1 : W1 q = 1 := if_neg (by omega)
      have e3 : W3 q = 0 := if_neg (by omega)
      rw [e1, e3]
      simp (disch := omega) only [o2, o31, ↓reduceIte, ↓Option.bind_some, if_true, if_false, true_and, and_true, and_self, true_or, or_true, false_or, or_false, not_true_eq_false, not_false_eq_true, Option.bind_some, somene, false_and, and_false, reduceCtorEq, Nat.reduceEqDiff, q_le_f, ↓bnd rf, l0, l1, e_Lo_countRuns_40, q_eq_f, nI_add, mx]
theorem Lo_countRuns_ok (C : CS h) (O : AOc F h a D c) (w : dW D) (hm : m < 4096) : c_Lo_countRuns d (some 50) (some a) (nI m) h = some (wJ (wJ (wJ h 51 5 (tL (rn1 (dA D) m))) 51 6 (tL (rn2 (dA D) m))) 51 7 (tL (rn3 (dA D) m))) := by
  rw [e_Lo_countRuns]
  exact Lo_cr_in C O w hm (aN (dA D)) 0 (by omega)
/-! the reference -/
def PRn (a i : Nat) : Bool := a == 52 && (Nat.ble 31 i && Nat.ble i 33)
theorem PRn_n {a i : Nat} (h : a ≠ 52) : PRn a i = false := by
  unfold PRn
  rw [beq_false_of_ne h]
  rfl
def R3 (h : sk_H) (x y z : Nat) : Prop := hI h 52 31 = nI x ∧ hI h 52 32 = nI y ∧ hI h 52 33 = nI z
theorem M_cr_ok (M : MS 52 h) {x y z : Nat} (R : R3 h x y z) (hy : y ≤ 12) (hn : n ≤ 12) : ∃ h', c_M_countsRun d (some 52) (nI n) h = some h' ∧ Iq PRn h h' ∧ R3 h' (x + W1 n) (max y n) (z + W3 n) := by
  obtain ⟨r1, r2, r3⟩ := R
  by_cases q0 : n = 0
  · subst q0
    refine ⟨h, ?_, Iq.refl h, r1, ?_, r3⟩
    · rw [e_M_countsRun]
      simp (disch := omega) only [l0, ↓reduceIte, ↓Option.bind_some, if_true, if_false, true_and, and_true, and_self, true_or, or_true, false_or, or_false, not_true_eq_false, not_false_eq_true, Option.bind_some, somene, false_and, and_false, reduceCtorEq, Nat.reduceEqDiff]
    · rw [Nat.max_eq_left (by omega)]; exact r2
  · have e1 : W1 n = 1 := if_neg q0
    rw [e1]
    refine ⟨wI (wI (wI h 52 31 (nI (x + 1))) 52 32 (nI (max y n))) 52 33 (nI (z + W3 n)), ?_, ((Iq.w _ _ rfl).trans (Iq.w _ _ rfl)).trans (Iq.w _ _ rfl), ?_, ?_, ?_⟩
    · rw [e_M_countsRun]
      by_cases q1 : n = 1
      · subst q1
        have e3 : W3 1 = 1 := rfl
        rw [e3]
        by_cases q2 : 1 ≤ y
        · rw [Nat.max_eq_left q2]
          simp (disch := omega) only [M.K52, hK_wI, hI_wI, l0, l1, ↓reduceIte, ↓Option.bind_some, if_true, if_false, true_and, and_true, and_self, true_or, or_true, false_or, or_false, not_true_eq_false, not_false_eq_true, Option.bind_some, somene, false_and, and_false, reduceCtorEq, Nat.reduceEqDiff, r1, r2, r3, nI_add, q_eq_f, q_le_t, e_M_countsRun_32]
        · rw [Nat.max_eq_right (by omega)]
          simp (disch := omega) only [M.K52, hK_wI, hI_wI, l0, l1, ↓reduceIte, ↓Option.bind_some, if_true, if_false, true_and, and_true, and_self, true_or, or_true, false_or, or_false, not_true_eq_false, not_false_eq_true, Option.bind_some, somene, false_and, and_false, reduceCtorEq, Nat.reduceEqDiff, r1, r2, r3, nI_add, q_eq_f, q_le_f, e_M_countsRun_32]
      · have e3 : W3 n = 0 := if_neg q1
        rw [e3]
        by_cases q2 : n ≤ y
        · rw [Nat.max_eq_left q2]
          simp (disch := omega) only [M.K52, hK_wI, hI_wI, l0, l1, ↓reduceIte, ↓Option.bind_some, if_true, if_false, true_and, and_true, and_self, true_or, or_true, false_or, or_false, not_true_eq_false, not_false_eq_true, Option.bind_some, somene, false_and, and_false, reduceCtorEq, Nat.reduceEqDiff, r1, r2, r3, nI_add, q_eq_f, q_le_t, e_M_countsRun_32]
        · rw [Nat.max_eq_right (by omega)]
          simp (disch := omega) only [M.K52, hK_wI, hI_wI, l0, l1, ↓reduceIte, ↓Option.bind_some, if_true, if_false, true_and, and_true, and_self, true_or, or_true, false_or, or_false, not_true_eq_false, not_false_eq_true, Option.bind_some, somene, false_and, and_false, reduceCtorEq, Nat.reduceEqDiff, r1, r2, r3, nI_add, q_eq_f, q_le_f, e_M_countsRun_32]
    · simp only [hI_wI, ↓reduceIte, ↓Option.bind_some, if_true, if_false, true_and, and_true, and_self, true_or, or_true, false_or, or_false, not_true_eq_false, not_false_eq_true, Option.bind_some, somene, false_and, and_false, reduceCtorEq, Nat.reduceEqDiff]
    · simp only [hI_wI, ↓reduceIte, ↓Option.bind_some, if_true, if_false, true_and, and_true, and_self, true_or, or_true, false_or, or_false, not_true_eq_false, not_false_eq_true, Option.bind_some, somene, false_and, and_false, reduceCtorEq, Nat.reduceEqDiff]
    · simp only [hI_wI, ↓reduceIte, ↓Option.bind_some, if_true, if_false, true_and, and_true, and_self, true_or, or_true, false_or, or_false, not_true_eq_false, not_false_eq_true, Option.bind_some, somene, false_and, and_false, reduceCtorEq, Nat.reduceEqDiff]
theorem lvM_le : ∀ (l : List Bool) (q : Nat), lvO opM W2 l q ≤ q + l.length
  | [], q => Nat.le_refl q
  | true :: l, q => by
    have := lvM_le l (q + 1)
    show lvO opM W2 l (q + 1) ≤ q + (l.length + 1)
    omega
  | false :: l, q => by
    have := lvM_le l 0
    show max (W2 q) (lvO opM W2 l 0) ≤ q + (l.length + 1)
    have e : W2 q = q := rfl
    omega
theorem lsB_len {o m : Nat} : (lsB A r o m i).length = aSz A r - i := by
  unfold lsB
  rw [List.length_map, List.length_range]
theorem M_row_in (w : aW A) (hr : r < aK A) (hm : m < 4096) {b : Nat} (hb : b < aSz A r) : ∀ (n k run : Nat) (h : sk_H) (x y z : Nat), k + n = aSz A r → run ≤ k → MS 52 h → R3 h x y z → y ≤ 12 → ∃ h', k_M_countsRow_77 d (some 52) (nI m) (nI (aSt A r)) (nI (aSz A r)) (nI b) (nI run) (nI k) h = some h' ∧ Iq PRn h h' ∧ R3 h' (x + lvO opA W1 (lsB A r b m k) run) (max y (lvO opM W2 (lsB A r b m k) run)) (z + lvO opA W3 (lsB A r b m k) run)
  | 0, k, run, h, x, y, z, hk, hrun, M, R, hy => by
    have w1 := w.1
    have w3 := w.2.2.1 r hr
    obtain ⟨h', e1, e2, e3⟩ := M_cr_ok (d := d) (n := run) M R hy (by omega)
    refine ⟨h', ?_, e2, ?_⟩
    · rw [e_M_countsRow_77]
      simp (disch := omega) only [q_le_t, ↓reduceIte, ↓Option.bind_some, if_true, if_false, true_and, and_true, and_self, true_or, or_true, false_or, or_false, not_true_eq_false, not_false_eq_true, Option.bind_some, somene, false_and, and_false, reduceCtorEq, Nat.reduceEqDiff, M.K52, e1]
    · have e : k = aSz A r := by omega
      rw [e, lsB_n]
      exact e3
  | n + 1, k, run, h, x, y, z, hk, hrun, M, R, hy => by
    have w1 := w.1
    have w3 := w.2.2.1 r hr
    have pl := po_lt w hr b k
    have io : c_M_isOf d (nI m) (nI (aSt A r) + ((nI b + nI k) - (nI b + nI k) / nI (aSz A r) * nI (aSz A r))) h = some (h, bi (m.testBit (po A r b k))) := by
      rw [nI_add, q_rem (by omega) (by omega) (by omega), nI_add]
      exact M_isOf_ok d (by omega) (show po A r b k < 31 by omega) h
    rw [lsB_c (show k < aSz A r by omega)]
    cases hbit : m.testBit (po A r b k)
    · rw [hbit] at io
      obtain ⟨h1, c1, c2, c3⟩ := M_cr_ok (d := d) (n := run) M R hy (by omega)
      obtain ⟨h', e1, e2, e3⟩ := M_row_in w hr hm hb n (k + 1) 0 h1 _ _ _ (by omega) (by omega) (M.ir c2) c3 (by omega)
      refine ⟨h', ?_, c2.trans e2, ?_⟩
      · rw [← e1, e_M_countsRow_77]
        simp (disch := omega) only [q_le_f, ↓reduceIte, ↓Option.bind_some, if_true, if_false, true_and, and_true, and_self, true_or, or_true, false_or, or_false, not_true_eq_false, not_false_eq_true, Option.bind_some, somene, false_and, and_false, reduceCtorEq, Nat.reduceEqDiff, M.K52, l0, l1, q_eq_f, ↓bnd io, ↓bnd c1, q_bi0, nI_add]
      · have f1 : lvO opA W1 (false :: lsB A r b m (k + 1)) run = W1 run + lvO opA W1 (lsB A r b m (k + 1)) 0 := rfl
        have f2 : lvO opM W2 (false :: lsB A r b m (k + 1)) run = max run (lvO opM W2 (lsB A r b m (k + 1)) 0) := rfl
        have f3 : lvO opA W3 (false :: lsB A r b m (k + 1)) run = W3 run + lvO opA W3 (lsB A r b m (k + 1)) 0 := rfl
        rw [f1, f2, f3, ← Nat.add_assoc, ← Nat.add_assoc, ← Nat.max_assoc]
        exact e3
    · rw [hbit] at io
      obtain ⟨h', e1, e2, e3⟩ := M_row_in w hr hm hb n (k + 1) (run + 1) h x y z (by omega) (by omega) M R hy
      refine ⟨h', ?_, e2, e3⟩
      rw [← e1, e_M_countsRow_77]
      simp (disch := omega) only [q_le_f, ↓reduceIte, ↓Option.bind_some, if_true, if_false, true_and, and_true, and_self, true_or, or_true, false_or, or_false, not_true_eq_false, not_false_eq_true, Option.bind_some, somene, false_and, and_false, reduceCtorEq, Nat.reduceEqDiff, M.K52, l0, l1, q_eq_f, ↓bnd io, q_bi0, Bool.true_eq_false, nI_add]
theorem lsB_0 {o m : Nat} : lsB A r o m 0 = (List.range (aSz A r)).map (fun i => m.testBit (po A r o i)) := by
  unfold lsB
  exact rg_cg (fun i _ => by rw [Nat.zero_add])
theorem M_begin (w : aW A) (hr : r < aK A) (hm : m < 4096) : ∀ (n j : Nat), j + n = aSz A r → (∀ t, t < j → m.testBit (aSt A r + t) = true) → ∃ b, k_M_countsRow_37 d (some 52) (nI m) (nI (aSt A r)) (nI (aSz A r)) (nI j) h = k_M_countsRow_77 d (some 52) (nI m) (nI (aSt A r)) (nI (aSz A r)) (nI b) (nI 0) (nI 0) h ∧ b < aSz A r ∧ (m.testBit (aSt A r + b) = false ∨ (b = 0 ∧ ∀ t, t < aSz A r → m.testBit (aSt A r + t) = true))
  | 0, j, hj, ht => by
    have w1 := w.1
    have w3 := w.2.2.1 r hr
    refine ⟨0, ?_, by omega, Or.inr ⟨rfl, fun t h => ht t (by omega)⟩⟩
    rw [e_M_countsRow_37]
    simp (disch := omega) only [q_le_t, q_eq_t, ↓reduceIte, ↓Option.bind_some, if_true, if_false, true_and, and_true, and_self, true_or, or_true, false_or, or_false, not_true_eq_false, not_false_eq_true, Option.bind_some, somene, false_and, and_false, reduceCtorEq, Nat.reduceEqDiff, l0]
  | n + 1, j, hj, ht => by
    have w1 := w.1
    have w3 := w.2.2.1 r hr
    have io : c_M_isOf d (nI m) (nI (aSt A r) + nI j) h = some (h, bi (m.testBit (aSt A r + j))) := by
      rw [nI_add]
      exact M_isOf_ok d (by omega) (by omega) h
    cases hb : m.testBit (aSt A r + j)
    · rw [hb] at io
      refine ⟨j, ?_, by omega, Or.inl hb⟩
      rw [e_M_countsRow_37]
      simp (disch := omega) only [q_le_f, q_eq_f, ↓reduceIte, ↓Option.bind_some, if_true, if_false, true_and, and_true, and_self, true_or, or_true, false_or, or_false, not_true_eq_false, not_false_eq_true, Option.bind_some, somene, false_and, and_false, reduceCtorEq, Nat.reduceEqDiff, l0, ↓bnd io, q_bi0]
    · rw [hb] at io
      obtain ⟨b, e1, e2⟩ := M_begin w hr hm n (j + 1) (by omega) (fun t h => by
        rcases (show t < j ∨ t = j by omega) with q | q
        · exact ht t q
        · rw [q]; exact hb)
      refine ⟨b, ?_, e2⟩
      rw [← e1, e_M_countsRow_37]
      simp (disch := omega) only [q_le_f, ↓reduceIte, ↓Option.bind_some, if_true, if_false, true_and, and_true, and_self, true_or, or_true, false_or, or_false, not_true_eq_false, not_false_eq_true, Option.bind_some, somene, false_and, and_false, reduceCtorEq, Nat.reduceEqDiff, l0, l1, ↓bnd io, q_bi0, Bool.true_eq_false, nI_add]
theorem M_row_ok (w : aW A) (hr : r < aK A) (hm : m < 4096) (M : MS 52 h) (S : aSaid A (hI h 62)) {x y z : Nat} (R : R3 h x y z) (hy : y ≤ 12) : ∃ h', c_M_countsRow d (some 52) (nI m) (nI r) h = some h' ∧ Iq PRn h h' ∧ R3 h' (opA x (fo opA (fun j => W1 (rL' A m (aSt A r + j))) (aSz A r))) (opM y (fo opM (fun j => W2 (rL' A m (aSt A r + j))) (aSz A r))) (opA z (fo opA (fun j => W3 (rL' A m (aSt A r + j))) (aSz A r))) := by
  have w1 := w.1
  have w2 := w.2.1
  have w3 := w.2.2.1 r hr
  obtain ⟨s1, s2, s3⟩ := S.2.2 r hr
  have key : ∃ b, c_M_countsRow d (some 52) (nI m) (nI r) h = k_M_countsRow_77 d (some 52) (nI m) (nI (aSt A r)) (nI (aSz A r)) (nI b) (nI 0) (nI 0) h ∧ b < aSz A r ∧ ((aRg A r = false ∧ b = 0) ∨ (aRg A r = true ∧ b < aSz A r ∧ (m.testBit (aSt A r + b) = false ∨ (b = 0 ∧ whole A r m = true)))) := by
    cases hg : aRg A r
    · refine ⟨0, ?_, by omega, Or.inl ⟨rfl, rfl⟩⟩
      rw [hg] at s3
      rw [e_M_countsRow]
      simp (disch := omega) only [M.K52, ↓bnd M.R20, M.K62, M.N62, ↓reduceIte, ↓Option.bind_some, if_true, if_false, true_and, and_true, and_self, true_or, or_true, false_or, or_false, not_true_eq_false, not_false_eq_true, Option.bind_some, somene, false_and, and_false, reduceCtorEq, Nat.reduceEqDiff, l12, l16, l20, l0, l1, nI_add, q_in, q_cl, s1, s2, s3, q_bi1, Bool.false_eq_true]
    · rw [hg] at s3
      obtain ⟨b, e1, e2, e3⟩ := M_begin (d := d) (h := h) w hr hm (aSz A r) 0 (by omega) (fun t ht => absurd ht (by omega))
      refine ⟨b, ?_, e2, Or.inr ⟨rfl, e2, e3.imp id (fun q => ⟨q.1, whole_iff.mpr ⟨hg, q.2⟩⟩)⟩⟩
      rw [← e1, e_M_countsRow]
      simp (disch := omega) only [M.K52, ↓bnd M.R20, M.K62, M.N62, ↓reduceIte, ↓Option.bind_some, if_true, if_false, true_and, and_true, and_self, true_or, or_true, false_or, or_false, not_true_eq_false, not_false_eq_true, Option.bind_some, somene, false_and, and_false, reduceCtorEq, Nat.reduceEqDiff, l12, l16, l20, l0, l1, nI_add, q_in, q_cl, s1, s2, s3, q_bi1]
  obtain ⟨b, e1, bl, hb⟩ := key
  obtain ⟨h', f1, f2, f3⟩ := M_row_in (d := d) w hr hm bl (aSz A r) 0 0 h x y z (by omega) (by omega) M R hy
  refine ⟨h', e1.trans f1, f2, ?_⟩
  rw [row_sc JoA rfl w hr hb, row_sc JoM rfl w hr hb, row_sc JoA rfl w hr hb]
  rw [lsB_0] at f3
  exact f3
theorem M_rows_in (w : dW D) (hm : m < 4096) : ∀ (n r : Nat) (h : sk_H), r + n = aK (dA D) → MS 52 h → aSaid (dA D) (hI h 62) → R3 h (fo opA (fun r => fo opA (fun j => W1 (rL' (dA D) m (aSt (dA D) r + j))) (aSz (dA D) r)) r) (fo opM (fun r => fo opM (fun j => W2 (rL' (dA D) m (aSt (dA D) r + j))) (aSz (dA D) r)) r) (fo opA (fun r => fo opA (fun j => W3 (rL' (dA D) m (aSt (dA D) r + j))) (aSz (dA D) r)) r) → (∀ r, r ≤ aK (dA D) → fo opM (fun r => fo opM (fun j => W2 (rL' (dA D) m (aSt (dA D) r + j))) (aSz (dA D) r)) r ≤ 12) → ∃ h', k_M_countsRuns_17 d (some 52) (nI m) (nI r) h = some h' ∧ Iq PRn h h' ∧ R3 h' (rn1 (dA D) m) (rn2 (dA D) m) (rn3 (dA D) m)
  | 0, r, h, hr, M, S, R, hB => by
    have w2 := w.1.2.1
    have e : r = aK (dA D) := by omega
    subst e
    refine ⟨h, ?_, Iq.refl h, ?_⟩
    · rw [e_M_countsRuns_17]
      have s2 := S.2.1
      simp (disch := omega) only [M.K52, ↓bnd M.R20, M.K62, M.N62, ↓reduceIte, ↓Option.bind_some, if_true, if_false, true_and, and_true, and_self, true_or, or_true, false_or, or_false, not_true_eq_false, not_false_eq_true, Option.bind_some, somene, false_and, and_false, reduceCtorEq, Nat.reduceEqDiff, l2, q_in, q_cl, s2, q_le_t]
    · rw [all_ok JoA w.1, all_ok JoM w.1, all_ok JoA w.1] at R
      exact R
  | n + 1, r, h, hr, M, S, R, hB => by
    have w2 := w.1.2.1
    obtain ⟨h1, c1, c2, c3⟩ := M_row_ok (d := d) w.1 (show r < aK (dA D) by omega) hm M S R (hB r (by omega))
    have S1 : aSaid (dA D) (hI h1 62) := by
      have : hI h1 62 = hI h 62 := funext fun i => c2.I (PRn_n (by decide))
      rw [this]; exact S
    obtain ⟨h', e1, e2, e3⟩ := M_rows_in w hm n (r + 1) h1 (by omega) (M.ir c2) S1 c3 hB
    refine ⟨h', ?_, c2.trans e2, e3⟩
    rw [← e1, e_M_countsRuns_17]
    have s2 := S.2.1
    simp (disch := omega) only [M.K52, ↓bnd M.R20, M.K62, M.N62, ↓reduceIte, ↓Option.bind_some, if_true, if_false, true_and, and_true, and_self, true_or, or_true, false_or, or_false, not_true_eq_false, not_false_eq_true, Option.bind_some, somene, false_and, and_false, reduceCtorEq, Nat.reduceEqDiff, l2, l1, q_in, q_cl, s2, q_le_f, ↓bnd c1, nI_add]
theorem foM_pre {f : Nat → Nat} : ∀ {n k : Nat}, k ≤ n → fo opM f k ≤ fo opM f n
  | 0, k, h => by
    have : k = 0 := by omega
    subst this; exact Nat.le_refl _
  | n + 1, k, h => by
    rcases (show k = n + 1 ∨ k ≤ n by omega) with q | q
    · subst q; exact Nat.le_refl _
    · exact Nat.le_trans (foM_pre q) (Nat.le_max_left _ _)
theorem M_runs_ok (w : dW D) (hm : m < 4096) (M : MS 52 h) (S : aSaid (dA D) (hI h 62)) : ∃ h', c_M_countsRuns d (some 52) (nI m) h = some h' ∧ Iq PRn h h' ∧ R3 h' (rn1 (dA D) m) (rn2 (dA D) m) (rn3 (dA D) m) := by
  have b12 : ∀ q, q ≤ aN (dA D) → fo opM (fun p => W2 (rL' (dA D) m p)) q ≤ 12 := by
    intro q
    induction q with
    | zero => intro _; exact Nat.zero_le _
    | succ q ih =>
      intro hq
      have h1 := ih (by omega)
      have h2 := rL_le (m := m) w.1 (show q < aN (dA D) by omega)
      show max (fo opM (fun p => W2 (rL' (dA D) m p)) q) (rL' (dA D) m q) ≤ 12
      omega
  obtain ⟨h', e1, e2, e3⟩ := M_rows_in (d := d) w hm (aK (dA D)) 0 (wI (wI (wI h 52 31 (nI 0)) 52 32 (nI 0)) 52 33 (nI 0)) (by omega) M (by rw [hI_wI_n _ _ _ (by decide), hI_wI_n _ _ _ (by decide), hI_wI_n _ _ _ (by decide)]; exact S) ⟨by simp only [hI_wI, ↓reduceIte, ↓Option.bind_some, if_true, if_false, true_and, and_true, and_self, true_or, or_true, false_or, or_false, not_true_eq_false, not_false_eq_true, Option.bind_some, somene, false_and, and_false, reduceCtorEq, Nat.reduceEqDiff]; rfl, by simp only [hI_wI, ↓reduceIte, ↓Option.bind_some, if_true, if_false, true_and, and_true, and_self, true_or, or_true, false_or, or_false, not_true_eq_false, not_false_eq_true, Option.bind_some, somene, false_and, and_false, reduceCtorEq, Nat.reduceEqDiff]; rfl, by simp only [hI_wI, ↓reduceIte, ↓Option.bind_some, if_true, if_false, true_and, and_true, and_self, true_or, or_true, false_or, or_false, not_true_eq_false, not_false_eq_true, Option.bind_some, somene, false_and, and_false, reduceCtorEq, Nat.reduceEqDiff]; rfl⟩ (fun r hr => by
    refine Nat.le_trans (foM_pre hr) ?_
    rw [all_ok JoM w.1]
    exact b12 _ (Nat.le_refl _))
  refine ⟨h', ?_, (((Iq.w _ _ rfl).trans (Iq.w _ _ rfl)).trans (Iq.w _ _ rfl)).trans e2, e3⟩
  rw [← e1, e_M_countsRuns]
  simp only [M.K52, hK_wI, ↓reduceIte, ↓Option.bind_some, if_true, if_false, true_and, and_true, and_self, true_or, or_true, false_or, or_false, not_true_eq_false, not_false_eq_true, Option.bind_some, somene, false_and, and_false, reduceCtorEq, Nat.reduceEqDiff, l0]
end SkCount
