/-! ===== knew ===== -/
abbrev NT : Type := Nat × Nat × Nat × (Nat × Nat)
/-- the notes as a function: who, how all stood, the class's stroke, the stroke -/
def NF (F : Nat → Prop) (D : DD) (h : sk_H) (n : Nat) (f : Nat → NT) : Prop := ∀ i, i < n → (f i).1 ≤ 1 ∧ hI h 24 i = nI (f i).1 ∧ hI h 62 (24 + 4 * i) = nI (f i).1 ∧ (f i).2.1 < 2 ^ aN (dA D) ∧ hI h 25 i = nI (f i).2.1 ∧ hI h 62 (25 + 4 * i) = nI (f i).2.1 ∧ hR h 26 i = some (f i).2.2.1 ∧ F (f i).2.2.1 ∧ SO h (dA D) (f i).2.2.1 (f i).2.2.2 ∧ hI h 62 (26 + 4 * i) = nI (f i).2.2.2.1 ∧ hI h 62 (27 + 4 * i) = nI (f i).2.2.2.2 ∧ (f i).2.2.2 ∈ aL (dA D) (dH D) (dE D) (f i).2.1
section SkKnew
variable {L : Nat} {xs : Nat → Int32} {F G : Nat → Prop} {E : Nat → Option DD} {h h' h1 h2 : sk_H} {j st tu pl a m p k n i w : Nat} {D : DD} {c : Nat → Nat} {d : Nat} {f : Nat → NT}
theorem NF_of (N : ∀ i, i < n → NO F D h 23 (hI h 62) i) : ∃ f, NF F D h n f := by
  have : ∀ i, ∃ y : NT, i < n → y.1 ≤ 1 ∧ hI h 24 i = nI y.1 ∧ hI h 62 (24 + 4 * i) = nI y.1 ∧ y.2.1 < 2 ^ aN (dA D) ∧ hI h 25 i = nI y.2.1 ∧ hI h 62 (25 + 4 * i) = nI y.2.1 ∧ hR h 26 i = some y.2.2.1 ∧ F y.2.2.1 ∧ SO h (dA D) y.2.2.1 y.2.2.2 ∧ hI h 62 (26 + 4 * i) = nI y.2.2.2.1 ∧ hI h 62 (27 + 4 * i) = nI y.2.2.2.2 ∧ y.2.2.2 ∈ aL (dA D) (dH D) (dE D) y.2.1 := by
    intro i
    by_cases q : i < n
    · obtain ⟨who, ns, s, x, n1, n2, n3, n4, n5, n6, n7, n8, n9, n10, n11, n12⟩ := N i q
      exact ⟨(who, ns, s, x), fun _ => ⟨n1, n2, n3, n4, n5, n6, n7, n8, n9, n10, n11, n12⟩⟩
    · exact ⟨(0, 0, 0, 0, 0), fun q2 => absurd q2 q⟩
  obtain ⟨f, hf⟩ := Classical.skolem.mp this
  exact ⟨f, fun i hi => hf i hi⟩
theorem NF.cq (N : NF F D h n f) (hF : Far F) (Q : Cq h h1) : NF F D h1 n f := by
  intro i hi
  obtain ⟨n1, n2, n3, n4, n5, n6, n7, n8, n9, n10, n11, n12⟩ := N i hi
  refine ⟨n1, by rw [Q.I rfl]; exact n2, by rw [Q.I52 (by decide)]; exact n3, n4, by rw [Q.I rfl]; exact n5, by rw [Q.I52 (by decide)]; exact n6, by rw [Q.2.1 26 (by decide)]; exact n7, n8, n9.same (Q.same (hF _ n8)), by rw [Q.I52 (by decide)]; exact n10, by rw [Q.I52 (by decide)]; exact n11, n12⟩
theorem NF.mq (N : NF F D h n f) (hF : Far F) (Q : Mq h h1) : NF F D h1 n f := by
  intro i hi
  obtain ⟨n1, n2, n3, n4, n5, n6, n7, n8, n9, n10, n11, n12⟩ := N i hi
  refine ⟨n1, by rw [Q.I51 (by decide)]; exact n2, by rw [Q.Iw (by decide) (by decide)]; exact n3, n4, by rw [Q.I51 (by decide)]; exact n5, by rw [Q.Iw (by decide) (by decide)]; exact n6, by rw [Q.eR]; exact n7, n8, n9.same (Q.same (hF _ n8)), by rw [Q.Iw (by decide) (by decide)]; exact n10, by rw [Q.Iw (by decide) (by decide)]; exact n11, n12⟩
theorem JB.no (J : JB L xs F E j h st tu pl) (r : hR h 23 0 = some a) (hE : E a = some D) : ∃ f, NF F D h (min pl 40) f := by
  obtain ⟨s0, s1, s2, s3, s4, s5, s6, s7, s8, s9⟩ := J.2.2.2.2.2.2.2.2.2.1
  rcases s9 with ⟨q1, -⟩ | ⟨a', D', q1, q2, qw, q3, q4, q5⟩
  · rw [q1] at r; cases r
  · rw [r] at q1; cases q1
    rw [hE] at q2; cases q2
    exact NF_of q5
theorem QC.wq (Q : QC F h a D c st) (f2 : Wq h h1) (f3 : TC h1 D a) : QC F h1 a D c st := by
  obtain ⟨C, M, hF, w, O, r, i1, hst, T, S8, s8, X⟩ := id Q
  have q' := f2.cq C
  exact ⟨C.cq q', M.cq q', hF, w, O.cq hF q', by rw [f2.2.1]; exact r, by rw [f2.I (by decide)]; exact i1, hst, T.wq f2 f3, by rw [q'.I52 (by decide)]; exact S8, by rw [q'.I52 (by decide)]; exact s8, X.cq q'⟩
theorem St_noted_ok (C : CS h) (s3 : hI h 23 3 = nI pl) (hp : pl < 2000) : c_St_noted d (some 23) h = some (h, nI (min pl 40)) := by
  rw [e_St_noted]
  by_cases q : 40 < pl
  · simp (disch := omega) only [C.k23, ↓reduceIte, ↓Option.bind_some, if_true, if_false, true_and, and_true, and_self, true_or, or_true, false_or, or_false, not_true_eq_false, not_false_eq_true, Option.bind_some, somene, false_and, and_false, reduceCtorEq, Nat.reduceEqDiff, s3, l40, q_lt_t, show min pl 40 = 40 by omega]
  · simp (disch := omega) only [C.k23, ↓reduceIte, ↓Option.bind_some, if_true, if_false, true_and, and_true, and_self, true_or, or_true, false_or, or_false, not_true_eq_false, not_false_eq_true, Option.bind_some, somene, false_and, and_false, reduceCtorEq, Nat.reduceEqDiff, s3, l40, q_lt_f, show min pl 40 = pl by omega]
theorem St_sN_ok (C : CS h) (s3 : hI h 23 3 = nI pl) (hp : pl < 2000) (N : NF F D h (min pl 40) f) (hi : i < min pl 40) (hw : p ≤ 1) : c_St_strokeNoted d (some 23) (nI i) (nI p) h = some (h, if (f i).1 = p then some (f i).2.2.1 else none) := by
  obtain ⟨n1, n2, n3, n4, n5, n6, n7, n8, n9, n10, n11, n12⟩ := N i hi
  rw [e_St_strokeNoted]
  by_cases q : (f i).1 = p
  · simp (disch := omega) only [C.k23, C.k24, C.n24, C.k26, C.n26, ↓bnd C.r23_5, ↓bnd C.r23_7, ↓reduceIte, ↓Option.bind_some, if_true, if_false, true_and, and_true, and_self, true_or, or_true, false_or, or_false, not_true_eq_false, not_false_eq_true, Option.bind_some, somene, false_and, and_false, reduceCtorEq, Nat.reduceEqDiff, ↓bnd (St_noted_ok (d := d) C s3 hp), l0, q_lt_f, q_le_f, q_in, q_cl, n2, n7, q, ar108]
  · simp (disch := omega) only [C.k23, C.k24, C.n24, C.k26, C.n26, ↓bnd C.r23_5, ↓bnd C.r23_7, ↓reduceIte, ↓Option.bind_some, if_true, if_false, true_and, and_true, and_self, true_or, or_true, false_or, or_false, not_true_eq_false, not_false_eq_true, Option.bind_some, somene, false_and, and_false, reduceCtorEq, Nat.reduceEqDiff, ↓bnd (St_noted_ok (d := d) C s3 hp), l0, q_lt_f, q_le_f, q_in, q_cl, n2, q_eq_f, q]
def knS (D : DD) (p : Nat) (r : Nat × Nat × Nat × Nat) (y : NT) : Nat × Nat × Nat × Nat := if y.1 = p then (if wD D y.2.1 = true then (if wD D (aT (dA D) y.2.1 y.2.2.2) = true then (r.1 + 1, r.2.1 + 1, r.2.2.1, r.1 + 1) else (r.1 + 1, r.2.1 + 1, r.2.2.1 + 1, r.2.2.2)) else (r.1 + 1, r.2.1, r.2.2.1, r.2.2.2)) else r
def knL (D : DD) (p : Nat) (f : Nat → NT) : Nat → Nat → Nat × Nat × Nat × Nat → Nat × Nat × Nat × Nat
  | 0, _, r => r
  | n + 1, i, r => knL D p f n (i + 1) (knS D p r (f i))
def knV (w : Nat) (r : Nat × Nat × Nat × Nat) : Int32 := if w = 0 then nI r.1 else if w = 1 then nI r.2.1 else if w = 2 then nI r.2.2.1 else nI r.2.2.2
theorem SR_knew_in (hp : p ≤ 1) (hw : w ≤ 3) (hpl : pl < 2000) : ∀ (n i : Nat) (r : Nat × Nat × Nat × Nat) (h : sk_H), i + n = min pl 40 → QC F h a D c st → NF F D h (min pl 40) f → hI h 23 3 = nI pl → ∃ h', k_SR_knew_44 d (some 20) (nI p) (nI w) (nI r.1) (nI r.2.1) (nI r.2.2.1) (nI r.2.2.2) (nI i) h = some (h', knV w (knL D p f n i r)) ∧ Wq h h' ∧ TC h' D a
  | 0, i, r, h, hi, Q, N, s3 => by
    obtain ⟨C, M, hF, ww, O, rr, i1, hst, T, S8, s8, X⟩ := id Q
    refine ⟨h, ?_, Wq.refl h, T.1⟩
    rw [e_SR_knew_44]
    have sn : c_St_noted d (hR h 20 4) h = some (h, nI (min pl 40)) := by rw [C.r20_4]; exact St_noted_ok C s3 hpl
    simp (disch := omega) only [C.k20, C.k23, ↓bnd C.r20_4, ↓bnd sn, ↓reduceIte, ↓Option.bind_some, if_true, if_false, true_and, and_true, and_self, true_or, or_true, false_or, or_false, not_true_eq_false, not_false_eq_true, Option.bind_some, somene, false_and, and_false, reduceCtorEq, Nat.reduceEqDiff, q_le_t]
    show _ = some (h, knV w r)
    unfold knV
    rcases (show w = 0 ∨ w = 1 ∨ w = 2 ∨ w = 3 by omega) with rfl | rfl | rfl | rfl <;> simp (disch := omega) only [l0, l1, l2, q_eq_f, ↓reduceIte, ↓Option.bind_some, if_true, if_false, true_and, and_true, and_self, true_or, or_true, false_or, or_false, not_true_eq_false, not_false_eq_true, Option.bind_some, somene, false_and, and_false, reduceCtorEq, Nat.reduceEqDiff]
  | n + 1, i, r, h, hi, Q, N, s3 => by
    obtain ⟨C, M, hF, ww, O, rr, i1, hst, T, S8, s8, X⟩ := id Q
    obtain ⟨n1, n2, n3, n4, n5, n6, n7, n8, n9, n10, n11, n12⟩ := N i (by omega)
    have sn : c_St_noted d (hR h 20 4) h = some (h, nI (min pl 40)) := by rw [C.r20_4]; exact St_noted_ok C s3 hpl
    have sN : c_St_strokeNoted d (hR h 20 4) (nI i) (nI p) h = some (h, if (f i).1 = p then some (f i).2.2.1 else none) := by rw [C.r20_4]; exact St_sN_ok C s3 hpl N (by omega) hp
    have e25 : (nI i).toNatClampNeg = i := q_cl (by omega)
    by_cases q : (f i).1 = p
    · rw [if_pos q] at sN
      obtain ⟨h1, f1, f2, f3, f4⟩ := Ta_canWin_ok (d := d) C ww hF O T.1 n4
      have Q1 := Q.wq f2 f3
      have N1 := N.cq hF (f2.cq C)
      have s31 : hI h1 23 3 = nI pl := by rw [f2.I (by decide)]; exact s3
      obtain ⟨C1, M1, -, -, O1, -, -, -, T1, -⟩ := id Q1
      have g1 : c_Ta_canWin d (hR h 20 7) (hI h 25 (nI i).toNatClampNeg) h = some (h1, bi (wD D (f i).2.1)) := by rw [C.r20_7, e25, n5]; exact f1
      cases hwd : wD D (f i).2.1
      · rw [hwd] at g1
        obtain ⟨h', e1, e2, e3⟩ := SR_knew_in hp hw hpl n (i + 1) (knS D p r (f i)) h1 (by omega) Q1 N1 s31
        refine ⟨h', ?_, f2.trans e2, e3⟩
        show _ = some (h', knV w (knL D p f n (i + 1) (knS D p r (f i))))
        rw [← e1, e_SR_knew_44]
        have ks : knS D p r (f i) = (r.1 + 1, r.2.1, r.2.2.1, r.2.2.2) := by
          unfold knS; rw [if_pos q, if_neg (by rw [hwd]; decide)]
        rw [ks]
        simp (disch := omega) only [C.k20, C.k23, C.k25, C.n25, C.k32, ↓bnd C.r20_4, ↓bnd C.r20_7, ↓bnd C.r23_6, ↓bnd sn, ↓bnd sN, ↓bnd g1, ↓reduceIte, ↓Option.bind_some, if_true, if_false, true_and, and_true, and_self, true_or, or_true, false_or, or_false, not_true_eq_false, not_false_eq_true, Option.bind_some, somene, false_and, and_false, reduceCtorEq, Nat.reduceEqDiff, q_le_f, q_in, l0, l1, q_bi0, nI_add]
      · rw [hwd] at g1
        obtain ⟨h2, u1, u2, u3, u4⟩ := Ta_winsBy_ok (d := d) C1 ww hF O1 T1.1 n4 (N1 i (by omega)).2.2.2.2.2.2.2.2.1 n8
        have Q2 := Q1.wq u2 u3
        have N2 := N1.cq hF (u2.cq C1)
        have s32 : hI h2 23 3 = nI pl := by rw [u2.I (by decide)]; exact s31
        obtain ⟨h', e1, e2, e3⟩ := SR_knew_in hp hw hpl n (i + 1) (knS D p r (f i)) h2 (by omega) Q2 N2 s32
        have g2 : c_Ta_winsBy d (hR h1 20 7) (hI h1 25 (nI i).toNatClampNeg) (some (f i).2.2.1) h1 = some (h2, bi (!wD D (aT (dA D) (f i).2.1 (f i).2.2.2))) := by
          rw [C1.r20_7, e25, (N1 i (by omega)).2.2.2.2.1]; exact u1
        refine ⟨h', ?_, f2.trans (u2.trans e2), e3⟩
        show _ = some (h', knV w (knL D p f n (i + 1) (knS D p r (f i))))
        rw [← e1, e_SR_knew_44]
        cases hwt : wD D (aT (dA D) (f i).2.1 (f i).2.2.2)
        · have ks : knS D p r (f i) = (r.1 + 1, r.2.1 + 1, r.2.2.1 + 1, r.2.2.2) := by
            unfold knS; rw [if_pos q, if_pos hwd, if_neg (by rw [hwt]; decide)]
          rw [ks]
          rw [hwt] at g2
          simp (disch := omega) only [C.k20, C.k23, C.k25, C.n25, C.k32, ↓bnd C.r20_4, ↓bnd C.r20_7, ↓bnd C.r23_6, ↓bnd sn, ↓bnd sN, ↓bnd g1, C1.k20, C1.k23, C1.k25, C1.n25, C1.k32, ↓bnd C1.r20_4, ↓bnd C1.r20_7, ↓bnd C1.r23_6, ↓bnd g2, ↓reduceIte, ↓Option.bind_some, if_true, if_false, true_and, and_true, and_self, true_or, or_true, false_or, or_false, not_true_eq_false, not_false_eq_true, Option.bind_some, somene, false_and, and_false, reduceCtorEq, Nat.reduceEqDiff, q_le_f, q_in, l0, l1, q_bi0, nI_add, Bool.true_eq_false, Bool.not_false]
        · have ks : knS D p r (f i) = (r.1 + 1, r.2.1 + 1, r.2.2.1, r.1 + 1) := by
            unfold knS; rw [if_pos q, if_pos hwd, if_pos hwt]
          rw [ks]
          rw [hwt] at g2
          simp (disch := omega) only [C.k20, C.k23, C.k25, C.n25, C.k32, ↓bnd C.r20_4, ↓bnd C.r20_7, ↓bnd C.r23_6, ↓bnd sn, ↓bnd sN, ↓bnd g1, C1.k20, C1.k23, C1.k25, C1.n25, C1.k32, ↓bnd C1.r20_4, ↓bnd C1.r20_7, ↓bnd C1.r23_6, ↓bnd g2, ↓reduceIte, ↓Option.bind_some, if_true, if_false, true_and, and_true, and_self, true_or, or_true, false_or, or_false, not_true_eq_false, not_false_eq_true, Option.bind_some, somene, false_and, and_false, reduceCtorEq, Nat.reduceEqDiff, q_le_f, q_in, l0, l1, q_bi0, nI_add, Bool.true_eq_false, Bool.not_true, Nat.add_zero]
    · rw [if_neg q] at sN
      obtain ⟨h', e1, e2, e3⟩ := SR_knew_in hp hw hpl n (i + 1) (knS D p r (f i)) h (by omega) Q N s3
      refine ⟨h', ?_, e2, e3⟩
      show _ = some (h', knV w (knL D p f n (i + 1) (knS D p r (f i))))
      rw [← e1, e_SR_knew_44]
      have ks : knS D p r (f i) = r := by unfold knS; rw [if_neg q]
      rw [ks]
      simp (disch := omega) only [C.k20, C.k23, ↓bnd C.r20_4, ↓bnd sn, ↓bnd sN, ↓reduceIte, ↓Option.bind_some, if_true, if_false, true_and, and_true, and_self, true_or, or_true, false_or, or_false, not_true_eq_false, not_false_eq_true, Option.bind_some, somene, false_and, and_false, reduceCtorEq, Nat.reduceEqDiff, q_le_f, l1, nI_add]
/-! the reference -/
theorem M_noted_ok (M : MS 52 h) (hi : i < 40) (hk : k < 4) {x : Int32} (hx : x = nI k) : c_M_noted d (some 52) (nI i) x h = some (h, hI h 62 (24 + 4 * i + k)) := by
  subst hx
  rw [e_M_noted]
  simp (disch := omega) only [M.K52, ↓bnd M.R20, M.K62, M.N62, ↓reduceIte, ↓Option.bind_some, if_true, if_false, true_and, and_true, and_self, true_or, or_true, false_or, or_false, not_true_eq_false, not_false_eq_true, Option.bind_some, somene, false_and, and_false, reduceCtorEq, Nat.reduceEqDiff, l24, l4, pk_mul, nI_add, q_in, q_cl]
theorem M_isOverAt_ok (M : MS 52 h) (w : dW D) (S : mSaid D (hI h 62)) (hm : m < 4096) : c_M_isOverAt d (some 52) (nI m) h = some (h, bi (aL (dA D) (dH D) (dE D) m).isEmpty) := by
  have w1 := w.1.1
  rw [e_M_isOverAt]
  unfold aL
  refine dloop (aN (dA D)) (fun p => k_M_isOverAt_2 d (some 52) (nI m) (nI p) h = some (h, bi (rA (fun p k => cB (dA D) m p k (dH D) (dE D)) (aN (dA D)) p 1).isEmpty)) (fun p k => k_M_isOverAt_14 d (some 52) (nI m) (nI p) (nI k) h = some (h, bi (rA (fun p k => cB (dA D) m p k (dH D) (dE D)) (aN (dA D)) p k).isEmpty)) ?_ ?_ ?_ ?_ (aN (dA D)) 0 (by omega)
  · rw [e_M_isOverAt_2, rA_n]
    simp (disch := omega) only [M.K52, ↓bnd M.R20, M.K62, M.N62, ↓reduceIte, ↓Option.bind_some, if_true, if_false, true_and, and_true, and_self, true_or, or_true, false_or, or_false, not_true_eq_false, not_false_eq_true, Option.bind_some, somene, false_and, and_false, reduceCtorEq, Nat.reduceEqDiff, l1, q_in, q_cl, S.1.1, q_le_t]
    rfl
  · intro p hp ih
    rw [← ih, e_M_isOverAt_2]
    simp (disch := omega) only [M.K52, ↓bnd M.R20, M.K62, M.N62, ↓reduceIte, ↓Option.bind_some, if_true, if_false, true_and, and_true, and_self, true_or, or_true, false_or, or_false, not_true_eq_false, not_false_eq_true, Option.bind_some, somene, false_and, and_false, reduceCtorEq, Nat.reduceEqDiff, l1, q_in, q_cl, S.1.1, q_le_f]
  · intro p hp ih
    rw [rA_5, ← ih, e_M_isOverAt_14]
    simp (disch := omega) only [l4, l1, q_lt_t, if_true, nI_add]
  · intro p k hp h1 h4 ih
    rw [rA_s _ hp h1 h4, e_M_isOverAt_14]
    have cb := M_canBeNow_ok d M w S hm hp h1 h4
    cases hc : cB (dA D) m p k (dH D) (dE D)
    · rw [hc] at cb
      simp (disch := omega) only [M.K52, ↓reduceIte, ↓Option.bind_some, if_true, if_false, true_and, and_true, and_self, true_or, or_true, false_or, or_false, not_true_eq_false, not_false_eq_true, Option.bind_some, somene, false_and, and_false, reduceCtorEq, Nat.reduceEqDiff, l4, l0, l1, q_lt_f, ↓bnd cb, q_bi0, nI_add, Bool.false_eq_true]
      exact ih
    · rw [hc] at cb
      simp (disch := omega) only [M.K52, ↓reduceIte, ↓Option.bind_some, if_true, if_false, true_and, and_true, and_self, true_or, or_true, false_or, or_false, not_true_eq_false, not_false_eq_true, Option.bind_some, somene, false_and, and_false, reduceCtorEq, Nat.reduceEqDiff, l4, l0, l1, q_lt_f, ↓bnd cb, q_bi0, Bool.true_eq_false]
      rfl
theorem M_winsNoted_ok {W : Nat → Bool} (M : MS 52 h) (w : dW D) (S : aSaid (dA D) (hI h 62)) (N : NF F D h n f) (hn : n ≤ 40) (hi : i < n) (X : ∀ j, j < 2 ^ aN (dA D) → hI h 63 j = bi (W j)) : c_M_winsNoted d (some 52) (nI i) h = some (h, bi (!W (aT (dA D) (f i).2.1 (f i).2.2.2))) := by
  obtain ⟨n1, n2, n3, n4, n5, n6, n7, n8, n9, n10, n11, n12⟩ := N i hi
  obtain ⟨x1, x2, x3, x4⟩ := aL_mem n12
  have hm4 := p12 w.1 n4
  have hlt := Nat.lt_of_le_of_lt (an_le (f i).2.1 (sB (dA D) (f i).2.2.2.1 (f i).2.2.2.2)) n4
  have hlt4 := p12 w.1 hlt
  have xw := X _ hlt
  have m1 : c_M_noted d (some 52) (nI i) (1 : Int32) h = some (h, nI (f i).2.1) := by
    rw [M_noted_ok M (by omega) (k := 1) (x := (1 : Int32)) (by omega) rfl, show 24 + 4 * i + 1 = 25 + 4 * i by omega, n6]
  have m2 : c_M_noted d (some 52) (nI i) (2 : Int32) h = some (h, nI (f i).2.2.2.1) := by
    rw [M_noted_ok M (by omega) (k := 2) (x := (2 : Int32)) (by omega) rfl, show 24 + 4 * i + 2 = 26 + 4 * i by omega, n10]
  have m3 : c_M_noted d (some 52) (nI i) (3 : Int32) h = some (h, nI (f i).2.2.2.2) := by
    rw [M_noted_ok M (by omega) (k := 3) (x := (3 : Int32)) (by omega) rfl, show 24 + 4 * i + 3 = 27 + 4 * i by omega, n11]
  have sb := M_strokeBits_ok (b := 52) d M w.1 S x4 x3
  rw [e_M_winsNoted]
  simp (disch := omega) only [M.K52, ↓bnd M.R22, M.K63, M.N63, ↓reduceIte, ↓Option.bind_some, if_true, if_false, true_and, and_true, and_self, true_or, or_true, false_or, or_false, not_true_eq_false, not_false_eq_true, Option.bind_some, somene, false_and, and_false, reduceCtorEq, Nat.reduceEqDiff, ↓bnd m1, ↓bnd m2, ↓bnd m3, ↓bnd sb, l1, l0, lm1, q_nan, q_in, q_cl, xw, q_bi0]
  show _ = some (h, bi (!W (an (f i).2.1 (sB (dA D) (f i).2.2.2.1 (f i).2.2.2.2))))
  cases W (an (f i).2.1 (sB (dA D) (f i).2.2.2.1 (f i).2.2.2.2)) <;> rfl
theorem M_knew_in (hp : p ≤ 1) (hw : w ≤ 3) (ww : dW D) (M : MS 52 h) (S : mSaid D (hI h 62)) (N : NF F D h (min pl 40) f) (s10 : hI h 62 10 = nI (min pl 40)) (X : ∀ j, j < 2 ^ aN (dA D) → hI h 63 j = bi (wD D j)) : ∀ (n i : Nat) (r : Nat × Nat × Nat × Nat), i + n = min pl 40 → k_M_knew_49 d (some 52) (nI p) (nI w) (nI r.1) (nI r.2.1) (nI r.2.2.1) (nI r.2.2.2) (nI i) h = some (h, knV w (knL D p f n i r))
  | 0, i, r, hi => by
    rw [e_M_knew_49]
    simp (disch := omega) only [M.K52, ↓bnd M.R20, M.K62, M.N62, ↓reduceIte, ↓Option.bind_some, if_true, if_false, true_and, and_true, and_self, true_or, or_true, false_or, or_false, not_true_eq_false, not_false_eq_true, Option.bind_some, somene, false_and, and_false, reduceCtorEq, Nat.reduceEqDiff, l10, q_in, q_cl, s10, q_le_t]
    show _ = some (h, knV w r)
    unfold knV
    rcases (show w = 0 ∨ w = 1 ∨ w = 2 ∨ w = 3 by omega) with rfl | rfl | rfl | rfl <;> simp (disch := omega) only [l0, l1, l2, q_eq_f, ↓reduceIte, ↓Option.bind_some, if_true, if_false, true_and, and_true, and_self, true_or, or_true, false_or, or_false, not_true_eq_false, not_false_eq_true, Option.bind_some, somene, false_and, and_false, reduceCtorEq, Nat.reduceEqDiff]
  | n + 1, i, r, hi => by
    have ih := M_knew_in hp hw ww M S N s10 X n (i + 1) (knS D p r (f i)) (by omega)
    obtain ⟨n1, n2, n3, n4, n5, n6, n7, n8, n9, n10, n11, n12⟩ := N i (by omega)
    have hm4 := p12 ww.1 n4
    have m0 : c_M_noted d (some 52) (nI i) (0 : Int32) h = some (h, nI (f i).1) := by
      rw [M_noted_ok M (by omega) (k := 0) (x := (0 : Int32)) (by omega) rfl, show 24 + 4 * i + 0 = 24 + 4 * i by omega, n3]
    have m1 : c_M_noted d (some 52) (nI i) (1 : Int32) h = some (h, nI (f i).2.1) := by
      rw [M_noted_ok M (by omega) (k := 1) (x := (1 : Int32)) (by omega) rfl, show 24 + 4 * i + 1 = 25 + 4 * i by omega, n6]
    have xw := X _ n4
    have ov : c_M_isOverAt d (some 52) (nI (f i).2.1) h = some (h, bi false) := by
      rw [M_isOverAt_ok M ww S hm4]
      congr 3
      cases hq : aL (dA D) (dH D) (dE D) (f i).2.1 with
      | nil => rw [hq] at n12; cases n12
      | cons => rfl
    have wn := M_winsNoted_ok (d := d) M ww S.1 N (by omega) (show i < min pl 40 by omega) X
    show _ = some (h, knV w (knL D p f n (i + 1) (knS D p r (f i))))
    rw [← ih, e_M_knew_49]
    by_cases q : (f i).1 = p
    · cases hwd : wD D (f i).2.1
      · rw [hwd] at xw
        have ks : knS D p r (f i) = (r.1 + 1, r.2.1, r.2.2.1, r.2.2.2) := by
          unfold knS; rw [if_pos q, if_neg (by rw [hwd]; decide)]
        rw [ks]
        simp (disch := omega) only [M.K52, ↓bnd M.R20, ↓bnd M.R22, M.K62, M.N62, M.K63, M.N63, ↓reduceIte, ↓Option.bind_some, if_true, if_false, true_and, and_true, and_self, true_or, or_true, false_or, or_false, not_true_eq_false, not_false_eq_true, Option.bind_some, somene, false_and, and_false, reduceCtorEq, Nat.reduceEqDiff, l10, l0, l1, q_in, q_cl, s10, q_le_f, ↓bnd m0, ↓bnd m1, q, xw, q_bi0, nI_add]
      · rw [hwd] at xw
        cases hwt : wD D (aT (dA D) (f i).2.1 (f i).2.2.2)
        · rw [hwt] at wn
          have ks : knS D p r (f i) = (r.1 + 1, r.2.1 + 1, r.2.2.1 + 1, r.2.2.2) := by
            unfold knS; rw [if_pos q, if_pos hwd, if_neg (by rw [hwt]; decide)]
          rw [ks]
          simp (disch := omega) only [M.K52, ↓bnd M.R20, ↓bnd M.R22, M.K62, M.N62, M.K63, M.N63, ↓reduceIte, ↓Option.bind_some, if_true, if_false, true_and, and_true, and_self, true_or, or_true, false_or, or_false, not_true_eq_false, not_false_eq_true, Option.bind_some, somene, false_and, and_false, reduceCtorEq, Nat.reduceEqDiff, l10, l0, l1, q_in, q_cl, s10, q_le_f, ↓bnd m0, ↓bnd m1, ↓bnd ov, ↓bnd wn, q, xw, q_bi0, nI_add, Bool.true_eq_false, Bool.not_false]
        · rw [hwt] at wn
          have ks : knS D p r (f i) = (r.1 + 1, r.2.1 + 1, r.2.2.1, r.1 + 1) := by
            unfold knS; rw [if_pos q, if_pos hwd, if_pos hwt]
          rw [ks]
          simp (disch := omega) only [M.K52, ↓bnd M.R20, ↓bnd M.R22, M.K62, M.N62, M.K63, M.N63, ↓reduceIte, ↓Option.bind_some, if_true, if_false, true_and, and_true, and_self, true_or, or_true, false_or, or_false, not_true_eq_false, not_false_eq_true, Option.bind_some, somene, false_and, and_false, reduceCtorEq, Nat.reduceEqDiff, l10, l0, l1, q_in, q_cl, s10, q_le_f, ↓bnd m0, ↓bnd m1, ↓bnd ov, ↓bnd wn, q, xw, q_bi0, nI_add, Bool.true_eq_false, Bool.not_true]
    · have ks : knS D p r (f i) = r := by unfold knS; rw [if_neg q]
      rw [ks]
      simp (disch := omega) only [M.K52, ↓bnd M.R20, M.K62, M.N62, ↓reduceIte, ↓Option.bind_some, if_true, if_false, true_and, and_true, and_self, true_or, or_true, false_or, or_false, not_true_eq_false, not_false_eq_true, Option.bind_some, somene, false_and, and_false, reduceCtorEq, Nat.reduceEqDiff, l10, l0, l1, q_in, q_cl, s10, q_le_f, ↓bnd m0, q_eq_f, q, nI_add]
theorem q_knew (a0 a1 : Int32) : sk_Ag (JJ L xs) L xs 52 (fun h => c_SR_knew 40 (some 20) a0 a1 h) (fun h => c_M_knew 40 (some 52) a0 a1 h) := by
  refine Ag_of (fun j h F E J r s => ?_) (fun j h F E st tu pl a D c hj J hE Q => ?_)
  · have C := J.2.1
    have M := J.2.2.1
    refine ⟨nM, ?_, ?_⟩
    · show c_SR_knew 40 (some 20) a0 a1 h = _
      rw [e_SR_knew]
      simp only [C.k20, C.k21, C.k22, C.k23, C.k24, C.k25, C.k26, C.k27, C.k28, C.k29, C.k30, C.k31, C.k32, C.k43, C.k44, C.k45, C.k46, C.k47, C.k48, C.k49, C.k50, C.k51, C.n21, C.n22, C.n24, C.n25, C.n26, C.n27, C.n29, C.n30, C.n31, C.n43, C.n44, C.n45, C.n46, C.n47, C.n48, C.n51, C.r20_0, C.r20_2, C.r20_4, C.r20_5, C.r20_6, C.r20_7, C.r20_8, C.r23_5, C.r23_6, C.r23_7, C.r28_0, C.r28_1, C.r28_2, C.r32_3, C.r32_4, C.r32_5, C.r32_6, C.r32_7, C.r32_8, C.r49_0, C.r50_0, ↓bnd C.r20_0, ↓bnd C.r20_2, ↓bnd C.r20_4, ↓bnd C.r20_5, ↓bnd C.r20_6, ↓bnd C.r20_7, ↓bnd C.r20_8, ↓bnd C.r23_5, ↓bnd C.r23_6, ↓bnd C.r23_7, ↓bnd C.r28_0, ↓bnd C.r28_1, ↓bnd C.r28_2, ↓bnd C.r32_3, ↓bnd C.r32_4, ↓bnd C.r32_5, ↓bnd C.r32_6, ↓bnd C.r32_7, ↓bnd C.r32_8, ↓bnd C.r49_0, ↓bnd C.r50_0, ↓reduceIte, ↓Option.bind_some, if_true, if_false, true_and, and_true, and_self, true_or, or_true, false_or, or_false, not_true_eq_false, not_false_eq_true, Option.bind_some, somene, false_and, and_false, reduceCtorEq, Nat.reduceEqDiff, r, lm1, l1]
    · show c_M_knew 40 (some 52) a0 a1 h = _
      rw [e_M_knew]
      simp only [M.K52, ↓reduceIte, ↓Option.bind_some, if_true, if_false, true_and, and_true, and_self, true_or, or_true, false_or, or_false, not_true_eq_false, not_false_eq_true, Option.bind_some, somene, false_and, and_false, reduceCtorEq, Nat.reduceEqDiff, M_isAlley_0 M (s 0 (by omega)), lm1, l1, l0]
  · obtain ⟨C, M, hF, w, O, r, i, hst, T, S, s8, X⟩ := id Q
    have e10 : (nI 1 = nI 0) = False := eq_false (by decide)
    obtain ⟨b1, f1, f2, f3⟩ := M_in_n (d := 40) (h := h) 0 1 (by decide) (by decide) (l2 := 0) (h2 := 1) (by decide) (by decide) a0
    obtain ⟨b2, g1, g2, g3⟩ := M_in_n (d := 40) (h := h) 0 3 (by decide) (by decide) (l2 := 0) (h2 := 3) (by decide) (by decide) a1
    have fin : c_SR_knew 40 (some 20) a0 a1 h = some (h, nM) → c_M_knew 40 (some 52) a0 a1 h = some (h, nM) → QR (fun h => c_SR_knew 40 (some 20) a0 a1 h) (fun h => c_M_knew 40 (some 52) a0 a1 h) h a D := fun h1 h2 => ⟨h, h, nM, h1, Cq.refl h, T, h2, Mq.refl h, X⟩
    cases b1
    · refine fin ?_ ?_
      · rw [e_SR_knew]
        rcases i_cases a0 with hx | ⟨p, hp, hx⟩
        · simp only [C.k20, C.k21, C.k22, C.k23, C.k24, C.k25, C.k26, C.k27, C.k28, C.k29, C.k30, C.k31, C.k32, C.k43, C.k44, C.k45, C.k46, C.k47, C.k48, C.k49, C.k50, C.k51, C.n21, C.n22, C.n24, C.n25, C.n26, C.n27, C.n29, C.n30, C.n31, C.n43, C.n44, C.n45, C.n46, C.n47, C.n48, C.n51, C.r20_0, C.r20_2, C.r20_4, C.r20_5, C.r20_6, C.r20_7, C.r20_8, C.r23_5, C.r23_6, C.r23_7, C.r28_0, C.r28_1, C.r28_2, C.r32_3, C.r32_4, C.r32_5, C.r32_6, C.r32_7, C.r32_8, C.r49_0, C.r50_0, ↓bnd C.r20_0, ↓bnd C.r20_2, ↓bnd C.r20_4, ↓bnd C.r20_5, ↓bnd C.r20_6, ↓bnd C.r20_7, ↓bnd C.r20_8, ↓bnd C.r23_5, ↓bnd C.r23_6, ↓bnd C.r23_7, ↓bnd C.r28_0, ↓bnd C.r28_1, ↓bnd C.r28_2, ↓bnd C.r32_3, ↓bnd C.r32_4, ↓bnd C.r32_5, ↓bnd C.r32_6, ↓bnd C.r32_7, ↓bnd C.r32_8, ↓bnd C.r49_0, ↓bnd C.r50_0, ↓reduceIte, ↓Option.bind_some, if_true, if_false, true_and, and_true, and_self, true_or, or_true, false_or, or_false, not_true_eq_false, not_false_eq_true, Option.bind_some, somene, false_and, and_false, reduceCtorEq, Nat.reduceEqDiff, r, l0, l1, lm1, hx]
        · subst hx
          have hp1 : ¬ p ≤ 1 := fun q => f3 rfl p (by omega) q rfl
          simp (disch := omega) only [C.k20, C.k21, C.k22, C.k23, C.k24, C.k25, C.k26, C.k27, C.k28, C.k29, C.k30, C.k31, C.k32, C.k43, C.k44, C.k45, C.k46, C.k47, C.k48, C.k49, C.k50, C.k51, C.n21, C.n22, C.n24, C.n25, C.n26, C.n27, C.n29, C.n30, C.n31, C.n43, C.n44, C.n45, C.n46, C.n47, C.n48, C.n51, C.r20_0, C.r20_2, C.r20_4, C.r20_5, C.r20_6, C.r20_7, C.r20_8, C.r23_5, C.r23_6, C.r23_7, C.r28_0, C.r28_1, C.r28_2, C.r32_3, C.r32_4, C.r32_5, C.r32_6, C.r32_7, C.r32_8, C.r49_0, C.r50_0, ↓bnd C.r20_0, ↓bnd C.r20_2, ↓bnd C.r20_4, ↓bnd C.r20_5, ↓bnd C.r20_6, ↓bnd C.r20_7, ↓bnd C.r20_8, ↓bnd C.r23_5, ↓bnd C.r23_6, ↓bnd C.r23_7, ↓bnd C.r28_0, ↓bnd C.r28_1, ↓bnd C.r28_2, ↓bnd C.r32_3, ↓bnd C.r32_4, ↓bnd C.r32_5, ↓bnd C.r32_6, ↓bnd C.r32_7, ↓bnd C.r32_8, ↓bnd C.r49_0, ↓bnd C.r50_0, ↓reduceIte, ↓Option.bind_some, if_true, if_false, true_and, and_true, and_self, true_or, or_true, false_or, or_false, not_true_eq_false, not_false_eq_true, Option.bind_some, somene, false_and, and_false, reduceCtorEq, Nat.reduceEqDiff, r, l0, l1, lm1, q_lt_f, q_lt_t]
      · rw [e_M_knew]
        simp only [M.K52, ↓reduceIte, ↓Option.bind_some, if_true, if_false, true_and, and_true, and_self, true_or, or_true, false_or, or_false, not_true_eq_false, not_false_eq_true, Option.bind_some, somene, false_and, and_false, reduceCtorEq, Nat.reduceEqDiff, ↓bnd (M_isAlley_1 M S.2.1), l0, l1, lm1, e10, ↓bnd f1, q_bi0]
    · obtain ⟨p, -, hp, rfl⟩ := f2 rfl
      cases b2
      · refine fin ?_ ?_
        · rw [e_SR_knew]
          rcases i_cases a1 with hx | ⟨q, hq, hx⟩
          · simp (disch := omega) only [C.k20, C.k21, C.k22, C.k23, C.k24, C.k25, C.k26, C.k27, C.k28, C.k29, C.k30, C.k31, C.k32, C.k43, C.k44, C.k45, C.k46, C.k47, C.k48, C.k49, C.k50, C.k51, C.n21, C.n22, C.n24, C.n25, C.n26, C.n27, C.n29, C.n30, C.n31, C.n43, C.n44, C.n45, C.n46, C.n47, C.n48, C.n51, C.r20_0, C.r20_2, C.r20_4, C.r20_5, C.r20_6, C.r20_7, C.r20_8, C.r23_5, C.r23_6, C.r23_7, C.r28_0, C.r28_1, C.r28_2, C.r32_3, C.r32_4, C.r32_5, C.r32_6, C.r32_7, C.r32_8, C.r49_0, C.r50_0, ↓bnd C.r20_0, ↓bnd C.r20_2, ↓bnd C.r20_4, ↓bnd C.r20_5, ↓bnd C.r20_6, ↓bnd C.r20_7, ↓bnd C.r20_8, ↓bnd C.r23_5, ↓bnd C.r23_6, ↓bnd C.r23_7, ↓bnd C.r28_0, ↓bnd C.r28_1, ↓bnd C.r28_2, ↓bnd C.r32_3, ↓bnd C.r32_4, ↓bnd C.r32_5, ↓bnd C.r32_6, ↓bnd C.r32_7, ↓bnd C.r32_8, ↓bnd C.r49_0, ↓bnd C.r50_0, ↓reduceIte, ↓Option.bind_some, if_true, if_false, true_and, and_true, and_self, true_or, or_true, false_or, or_false, not_true_eq_false, not_false_eq_true, Option.bind_some, somene, false_and, and_false, reduceCtorEq, Nat.reduceEqDiff, r, l0, l1, lm1, hx, q_lt_f]
          · subst hx
            have hp1 : ¬ q ≤ 3 := fun r => g3 rfl q (by omega) r rfl
            simp (disch := omega) only [C.k20, C.k21, C.k22, C.k23, C.k24, C.k25, C.k26, C.k27, C.k28, C.k29, C.k30, C.k31, C.k32, C.k43, C.k44, C.k45, C.k46, C.k47, C.k48, C.k49, C.k50, C.k51, C.n21, C.n22, C.n24, C.n25, C.n26, C.n27, C.n29, C.n30, C.n31, C.n43, C.n44, C.n45, C.n46, C.n47, C.n48, C.n51, C.r20_0, C.r20_2, C.r20_4, C.r20_5, C.r20_6, C.r20_7, C.r20_8, C.r23_5, C.r23_6, C.r23_7, C.r28_0, C.r28_1, C.r28_2, C.r32_3, C.r32_4, C.r32_5, C.r32_6, C.r32_7, C.r32_8, C.r49_0, C.r50_0, ↓bnd C.r20_0, ↓bnd C.r20_2, ↓bnd C.r20_4, ↓bnd C.r20_5, ↓bnd C.r20_6, ↓bnd C.r20_7, ↓bnd C.r20_8, ↓bnd C.r23_5, ↓bnd C.r23_6, ↓bnd C.r23_7, ↓bnd C.r28_0, ↓bnd C.r28_1, ↓bnd C.r28_2, ↓bnd C.r32_3, ↓bnd C.r32_4, ↓bnd C.r32_5, ↓bnd C.r32_6, ↓bnd C.r32_7, ↓bnd C.r32_8, ↓bnd C.r49_0, ↓bnd C.r50_0, ↓reduceIte, ↓Option.bind_some, if_true, if_false, true_and, and_true, and_self, true_or, or_true, false_or, or_false, not_true_eq_false, not_false_eq_true, Option.bind_some, somene, false_and, and_false, reduceCtorEq, Nat.reduceEqDiff, r, l0, l1, l3, lm1, q_lt_f, q_le_f]
        · rw [e_M_knew]
          simp only [M.K52, ↓reduceIte, ↓Option.bind_some, if_true, if_false, true_and, and_true, and_self, true_or, or_true, false_or, or_false, not_true_eq_false, not_false_eq_true, Option.bind_some, somene, false_and, and_false, reduceCtorEq, Nat.reduceEqDiff, ↓bnd (M_isAlley_1 M S.2.1), l0, l1, lm1, e10, ↓bnd f1, ↓bnd g1, q_bi0, Bool.true_eq_false]
      · obtain ⟨q, -, hq, rfl⟩ := g2 rfl
        obtain ⟨f, N⟩ := J.no r hE
        have hpl := J.2.2.2.2.2.2.2.2.1
        obtain ⟨-, -, -, s3, -, -, -, s10, -⟩ := J.2.2.2.2.2.2.2.2.2.1
        obtain ⟨h1, e1, e2, e3⟩ := SR_knew_in (d := 40) hp hq (show pl < 2000 by omega) (min pl 40) 0 (0, 0, 0, 0) h (by omega) Q N s3
        have q' := e2.cq C
        obtain ⟨⟨M1, S1, s81⟩, X1⟩ := Q.m q'
        obtain ⟨h2, m1, Q2, X2, m3, -⟩ := M_fillsNow_ok 40 M1 w S1 X1
        have N2 := (N.cq hF q').mq hF Q2
        have M2 := M1.mq Q2
        have S2 : mSaid D (hI h2 62) := by rw [Q2.Iw (by decide) (by decide)]; exact S1
        have t10 : hI h2 62 10 = nI (min pl 40) := by rw [Q2.Iw (by decide) (by decide), q'.I52 (by decide)]; exact s10
        have mi := M_knew_in (d := 40) hp hq w M2 S2 N2 t10 m3 (min pl 40) 0 (0, 0, 0, 0) (by omega)
        refine ⟨h1, h2, knV q (knL D p f (min pl 40) 0 (0, 0, 0, 0)), ?_, q', T.wq e2 e3, ?_, Q2, X2⟩
        · show c_SR_knew 40 (some 20) (nI p) (nI q) h = _
          rw [e_SR_knew, ← e1]
          simp (disch := omega) only [C.k20, C.k21, C.k22, C.k23, C.k24, C.k25, C.k26, C.k27, C.k28, C.k29, C.k30, C.k31, C.k32, C.k43, C.k44, C.k45, C.k46, C.k47, C.k48, C.k49, C.k50, C.k51, C.n21, C.n22, C.n24, C.n25, C.n26, C.n27, C.n29, C.n30, C.n31, C.n43, C.n44, C.n45, C.n46, C.n47, C.n48, C.n51, C.r20_0, C.r20_2, C.r20_4, C.r20_5, C.r20_6, C.r20_7, C.r20_8, C.r23_5, C.r23_6, C.r23_7, C.r28_0, C.r28_1, C.r28_2, C.r32_3, C.r32_4, C.r32_5, C.r32_6, C.r32_7, C.r32_8, C.r49_0, C.r50_0, ↓bnd C.r20_0, ↓bnd C.r20_2, ↓bnd C.r20_4, ↓bnd C.r20_5, ↓bnd C.r20_6, ↓bnd C.r20_7, ↓bnd C.r20_8, ↓bnd C.r23_5, ↓bnd C.r23_6, ↓bnd C.r23_7, ↓bnd C.r28_0, ↓bnd C.r28_1, ↓bnd C.r28_2, ↓bnd C.r32_3, ↓bnd C.r32_4, ↓bnd C.r32_5, ↓bnd C.r32_6, ↓bnd C.r32_7, ↓bnd C.r32_8, ↓bnd C.r49_0, ↓bnd C.r50_0, ↓reduceIte, ↓Option.bind_some, if_true, if_false, true_and, and_true, and_self, true_or, or_true, false_or, or_false, not_true_eq_false, not_false_eq_true, Option.bind_some, somene, false_and, and_false, reduceCtorEq, Nat.reduceEqDiff, r, l0, l1, l3, lm1, q_lt_f, q_le_t]
        · show c_M_knew 40 (some 52) (nI p) (nI q) h1 = _
          obtain ⟨b1, f1, f2, f3⟩ := M_in_n (d := 40) (h := h1) 0 1 (by decide) (by decide) (l2 := 0) (h2 := 1) (by decide) (by decide) (nI p)
          obtain ⟨b2, g1, g2, g3⟩ := M_in_n (d := 40) (h := h1) 0 3 (by decide) (by decide) (l2 := 0) (h2 := 3) (by decide) (by decide) (nI q)
          have hb1 : b1 = true := by
            cases b1
            · exact absurd rfl (f3 rfl p (by omega) hp)
            · rfl
          have hb2 : b2 = true := by
            cases b2
            · exact absurd rfl (g3 rfl q (by omega) hq)
            · rfl
          subst hb1; subst hb2
          rw [e_M_knew, ← mi]
          simp only [M1.K52, ↓reduceIte, ↓Option.bind_some, if_true, if_false, true_and, and_true, and_self, true_or, or_true, false_or, or_false, not_true_eq_false, not_false_eq_true, Option.bind_some, somene, false_and, and_false, reduceCtorEq, Nat.reduceEqDiff, ↓bnd (M_isAlley_1 M1 S1.2.1), l0, l1, lm1, e10, ↓bnd f1, ↓bnd g1, ↓bnd m1, q_bi0, Bool.true_eq_false]
end SkKnew
