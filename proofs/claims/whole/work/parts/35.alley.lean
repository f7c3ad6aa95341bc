/-! ===== an alley's rows as numbers; the reference's walks over them ===== -/
theorem sk_inN {i N : Nat} (h : i < N) (hN : N < 2 ^ 31) : sk_in (nI i) N = True := eq_true (vp_in_nI h hN)
/-- places, rows, where a row begins, how long it is, whether it is a ring -/
abbrev AD : Type := Nat × Nat × (Nat → Nat) × (Nat → Nat) × (Nat → Bool)
def aN (A : AD) : Nat := A.1
def aK (A : AD) : Nat := A.2.1
def aSt (A : AD) : Nat → Nat := A.2.2.1
def aSz (A : AD) : Nat → Nat := A.2.2.2.1
def aRg (A : AD) : Nat → Bool := A.2.2.2.2
def aW (A : AD) : Prop := aN A ≤ 12 ∧ aK A ≤ 4 ∧ (∀ r, r < aK A → aSt A r + aSz A r ≤ aN A ∧ 1 ≤ aSz A r ∧ (aRg A r = true → 3 ≤ aSz A r)) ∧ aSt A 0 = 0 ∧ (∀ r, r + 1 < aK A → aSt A (r + 1) = aSt A r + aSz A r) ∧ (∀ r, r + 1 = aK A → aSt A r + aSz A r = aN A) ∧ (aK A = 0 → aN A = 0)
def aSaid (A : AD) (s : Nat → Int32) : Prop := s 1 = nI (aN A) ∧ s 2 = nI (aK A) ∧ ∀ r, r < aK A → s (12 + r) = nI (aSt A r) ∧ s (16 + r) = nI (aSz A r) ∧ s (20 + r) = bi (aRg A r)
def rf (st : Nat → Nat) (p : Nat) : Nat → Nat
  | 0 => 0
  | r + 1 => if st (r + 1) ≤ p then r + 1 else rf st p r
def aRow (A : AD) (p : Nat) : Nat := rf (aSt A) p (aK A - 1)
theorem rf_le (st : Nat → Nat) (p : Nat) : ∀ r, rf st p r ≤ r
  | 0 => Nat.le_refl 0
  | r + 1 => by
    unfold rf
    split
    · exact Nat.le_refl _
    · exact Nat.le_succ_of_le (rf_le st p r)
theorem rf_st (st : Nat → Nat) (p : Nat) (h0 : st 0 = 0) : ∀ r, st (rf st p r) ≤ p
  | 0 => by unfold rf; omega
  | r + 1 => by
    unfold rf
    split
    · assumption
    · exact rf_st st p h0 r
theorem rf_nx (st : Nat → Nat) (p : Nat) : ∀ r, rf st p r < r → p < st (rf st p r + 1)
  | 0, h => absurd h (by omega)
  | r + 1, h => by
    unfold rf at h ⊢
    split
    · rename_i hc; rw [if_pos hc] at h; omega
    · rename_i hc
      rw [if_neg hc] at h
      rcases Nat.lt_or_ge (rf st p r) r with q | q
      · exact rf_nx st p r q
      · have : rf st p r = r := Nat.le_antisymm (rf_le st p r) q
        rw [this]; omega
/-- a place stands in its row -/
theorem aRow_in {A : AD} (W : aW A) {p : Nat} (hp : p < aN A) : aRow A p < aK A ∧ aSt A (aRow A p) ≤ p ∧ p < aSt A (aRow A p) + aSz A (aRow A p) := by
  obtain ⟨w1, w2, w3, w4, w5, w6, w7⟩ := W
  have hk : 0 < aK A := by
    rcases Nat.eq_zero_or_pos (aK A) with q | q
    · have := w7 q; omega
    · exact q
  have h1 := rf_le (aSt A) p (aK A - 1)
  refine ⟨by unfold aRow; omega, rf_st _ _ w4 _, ?_⟩
  rcases Nat.lt_or_ge (rf (aSt A) p (aK A - 1)) (aK A - 1) with q | q
  · have h2 := rf_nx (aSt A) p (aK A - 1) q
    have h3 := w5 (rf (aSt A) p (aK A - 1)) (by omega)
    unfold aRow
    omega
  · have h2 := w6 (rf (aSt A) p (aK A - 1)) (by omega)
    unfold aRow
    omega
section SkRows
variable {b : Nat} {h : sk_H} {A : AD}
theorem M_rowOf_9_ok (d : Nat) (M : MS b h) (W : aW A) (S : aSaid A (hI h (b + 10))) {p : Nat} (hp : p < 4096) : ∀ r, r < aK A → k_M_rowOf_9 d (some b) (nI p) (nI r) h = some (h, nI (rf (aSt A) p r)) := by
  obtain ⟨w1, w2, w3, w4, -⟩ := W
  intro r
  induction r with
  | zero =>
    intro hr
    obtain ⟨s1, -⟩ := S.2.2 0 hr
    rw [e_M_rowOf_9]
    have a1 : (12 : Int32) + nI 0 = nI 12 := rfl
    simp only [M.k, M.r20, M.t10, M.n10, if_true, Option.bind_some, true_or, true_and, a1, sk_inN (i := 12) (N := 184) (by omega) (by omega), nI_clamp (n := 12) (by omega)]
    rw [show hI h (b + 10) 12 = nI 0 by rw [← w4]; exact s1, if_pos (nI_le (by omega) (by omega))]
    rfl
  | succ r ih =>
    intro hr
    obtain ⟨s1, -⟩ := S.2.2 (r + 1) hr
    have hb := (w3 (r + 1) hr).1
    rw [e_M_rowOf_9]
    have a1 : (12 : Int32) + nI (r + 1) = nI (12 + (r + 1)) := nI_add 12 (r + 1)
    simp only [M.k, M.r20, M.t10, M.n10, if_true, Option.bind_some, true_or, true_and, a1, sk_inN (i := 12 + (r + 1)) (N := 184) (by omega) (by omega), nI_clamp (n := 12 + (r + 1)) (by omega), s1, pk_m1]
    by_cases hc : aSt A (r + 1) ≤ p
    · rw [if_pos (nI_le hc (by omega))]
      unfold rf
      rw [if_pos hc]
    · rw [if_neg (nI_ge (by omega) (by omega)), ih (by omega), show rf (aSt A) p (r + 1) = rf (aSt A) p r from if_neg hc]
theorem M_rowOf_ok (d : Nat) (M : MS b h) (W : aW A) (S : aSaid A (hI h (b + 10))) {p : Nat} (hp : p < aN A) : c_M_rowOf d (some b) (nI p) h = some (h, nI (aRow A p)) := by
  have hk : 0 < aK A := Nat.lt_of_le_of_lt (Nat.zero_le _) (aRow_in W hp).1
  have w2 := W.2.1
  have w1 := W.1
  rw [e_M_rowOf]
  have a1 : (2 : Int32) = nI 2 := rfl
  simp only [M.k, M.r20, M.t10, M.n10, if_true, Option.bind_some, true_or, true_and, a1, sk_inN (i := 2) (N := 184) (by omega) (by omega), nI_clamp (n := 2) (by omega), S.2.1]
  have a2 : nI (aK A) - 1 = nI (aK A - 1) := pk_sub (a := aK A) (b := 1) hk
  rw [a2]
  exact M_rowOf_9_ok d M W S (by omega) (aK A - 1) (by omega)
/-- the place ahead, the place behind -/
def aNx (A : AD) (p : Nat) : Option Nat := if p + 1 < aSt A (aRow A p) + aSz A (aRow A p) then some (p + 1) else if aRg A (aRow A p) then some (aSt A (aRow A p)) else none
def aPv (A : AD) (p : Nat) : Option Nat := if aSt A (aRow A p) < p then some (p - 1) else if aRg A (aRow A p) then some (aSt A (aRow A p) + aSz A (aRow A p) - 1) else none
/-- a place as the code has it: -1 for none -/
def oI (o : Option Nat) : Int32 := match o with
  | some p => nI p
  | none => -1
theorem M_besideN_ok (d : Nat) (M : MS b h) (W : aW A) (S : aSaid A (hI h (b + 10))) {p : Nat} (hp : p < aN A) : c_M_beside d (some b) (nI p) 1 h = some (h, oI (aNx A p)) := by
  obtain ⟨r1, r2, r3⟩ := aRow_in W hp
  obtain ⟨s1, s2, s3⟩ := S.2.2 _ r1
  have w1 := W.1
  have w2 := W.2.1
  have w3 := (W.2.2.1 _ r1).1
  rw [e_M_beside]
  have a1 : (12 : Int32) + nI (aRow A p) = nI (12 + aRow A p) := nI_add 12 _
  have a2 : (16 : Int32) + nI (aRow A p) = nI (16 + aRow A p) := nI_add 16 _
  have a3 : (20 : Int32) + nI (aRow A p) = nI (20 + aRow A p) := nI_add 20 _
  have a4 : nI p - nI (aSt A (aRow A p)) + 1 = nI (p - aSt A (aRow A p) + 1) := by rw [pk_sub r2, nI_1]
  simp only [M_rowOf_ok d M W S hp, M.k, M.r20, M.t10, M.n10, if_true, Option.bind_some, true_or, true_and, a1, a2, sk_inN (i := 12 + aRow A p) (N := 184) (by omega) (by omega), sk_inN (i := 16 + aRow A p) (N := 184) (by omega) (by omega), nI_clamp (n := 12 + aRow A p) (by omega), nI_clamp (n := 16 + aRow A p) (by omega), s1, s2, a4]
  rw [if_neg (nI_pos (by omega))]
  by_cases hc : p + 1 < aSt A (aRow A p) + aSz A (aRow A p)
  · rw [if_pos (nI_lt (by omega) (by omega)), nI_add, show aSt A (aRow A p) + (p - aSt A (aRow A p) + 1) = p + 1 by omega]
    unfold aNx
    rw [if_pos hc]
    rfl
  · rw [if_neg (nI_nlt (by omega) (by omega)), e_M_beside_40]
    unfold aNx
    rw [if_neg hc]
    simp only [M.k, M.r20, M.t10, M.n10, if_true, Option.bind_some, true_or, true_and, a1, a2, a3, sk_inN (i := 12 + aRow A p) (N := 184) (by omega) (by omega), sk_inN (i := 20 + aRow A p) (N := 184) (by omega) (by omega), nI_clamp (n := 12 + aRow A p) (by omega), nI_clamp (n := 20 + aRow A p) (by omega), s1, s3]
    cases hg : aRg A (aRow A p)
    · rw [if_neg (by decide)]
      rfl
    · rw [if_pos (by decide), if_pos (nI_pos' (by omega)), Int32.add_zero]
      rfl
theorem M_besideP_ok (d : Nat) (M : MS b h) (W : aW A) (S : aSaid A (hI h (b + 10))) {p : Nat} (hp : p < aN A) : c_M_beside d (some b) (nI p) (-1) h = some (h, oI (aPv A p)) := by
  obtain ⟨r1, r2, r3⟩ := aRow_in W hp
  obtain ⟨s1, s2, s3⟩ := S.2.2 _ r1
  have w1 := W.1
  have w2 := W.2.1
  have w3 := W.2.2.1 _ r1
  rw [e_M_beside]
  have a1 : (12 : Int32) + nI (aRow A p) = nI (12 + aRow A p) := nI_add 12 _
  have a2 : (16 : Int32) + nI (aRow A p) = nI (16 + aRow A p) := nI_add 16 _
  have a3 : (20 : Int32) + nI (aRow A p) = nI (20 + aRow A p) := nI_add 20 _
  simp only [M_rowOf_ok d M W S hp, M.k, M.r20, M.t10, M.n10, if_true, Option.bind_some, true_or, true_and, a1, a2, sk_inN (i := 12 + aRow A p) (N := 184) (by omega) (by omega), sk_inN (i := 16 + aRow A p) (N := 184) (by omega) (by omega), nI_clamp (n := 12 + aRow A p) (by omega), nI_clamp (n := 16 + aRow A p) (by omega), s1, s2]
  by_cases hc : aSt A (aRow A p) < p
  · have a4 : nI p - nI (aSt A (aRow A p)) + (-1) = nI (p - aSt A (aRow A p) - 1) := by
      rw [pk_sub r2, show p - aSt A (aRow A p) = (p - aSt A (aRow A p) - 1) + 1 by omega, pk_m1]
      congr 1
    rw [a4, if_neg (nI_pos (by omega)), if_pos (nI_lt (by omega) (by omega)), nI_add, show aSt A (aRow A p) + (p - aSt A (aRow A p) - 1) = p - 1 by omega]
    unfold aPv
    rw [if_pos hc]
    rfl
  · have a4 : nI p - nI (aSt A (aRow A p)) + (-1) = -1 := by
      rw [pk_sub r2, show p - aSt A (aRow A p) = 0 by omega]
      rfl
    rw [a4, if_pos (by decide), e_M_beside_40]
    unfold aPv
    rw [if_neg hc]
    simp only [M.k, M.r20, M.t10, M.n10, if_true, Option.bind_some, true_or, true_and, a1, a2, a3, sk_inN (i := 12 + aRow A p) (N := 184) (by omega) (by omega), sk_inN (i := 16 + aRow A p) (N := 184) (by omega) (by omega), sk_inN (i := 20 + aRow A p) (N := 184) (by omega) (by omega), nI_clamp (n := 12 + aRow A p) (by omega), nI_clamp (n := 16 + aRow A p) (by omega), nI_clamp (n := 20 + aRow A p) (by omega), s1, s2, s3]
    cases hg : aRg A (aRow A p)
    · rw [if_neg (by decide)]
      rfl
    · have a5 : nI (aSz A (aRow A p)) - 1 = nI (aSz A (aRow A p) - 1) := pk_sub (a := aSz A (aRow A p)) (b := 1) w3.2.1
      rw [if_pos (by decide), if_neg (by decide), a5, nI_add, show aSt A (aRow A p) + (aSz A (aRow A p) - 1) = aSt A (aRow A p) + aSz A (aRow A p) - 1 by omega]
      rfl
end SkRows
