/-! ===== back ===== -/
section SkBk
variable {L : Nat} {xs : Nat → Int32} {F G : Nat → Prop} {E : Nat → Option DD} {h h' h1 h2 : sk_H} {j st tu pl st' tu' pl' a b b' m p k s ta : Nat} {D : DD} {c : Nat → Nat} {d : Nat} {P : Nat → Bool} {sd sd' : Nat → Int32} {R : Nat → Nat → Bool} {A : AD} {x : Nat × Nat}
theorem Ta_use_ok (C : CS h) (O : AOc F h a D c) (w : dW D) (t0 : hR h 32 0 = some ta) (h20 : 20 ≤ ta) (a20 : 73 ≤ a) : ∃ h', c_Ta_use d (some 32) (some a) h = some h' ∧ Ck (cl [32]) h h' ∧ (∀ i, i ≠ 0 → hR h' 32 i = hR h 32 i) ∧ hR h' 32 0 = some a ∧ ((a = ta ∧ h' = h) ∨ TD h' D a) := by
  have b1 : (20 ≤ a) = True := eq_true (by omega)
  have b2 : (20 ≤ ta) = True := eq_true h20
  by_cases q : a = ta
  · refine ⟨h, ?_, Ck.refl h, fun _ _ => rfl, by rw [t0, q], Or.inl ⟨q, rfl⟩⟩
    subst q
    rw [e_Ta_use]
    simp only [↓reduceIte, ↓Option.bind_some, if_true, if_false, true_and, and_true, and_self, true_or, or_true, false_or, or_false, not_true_eq_false, not_false_eq_true, Option.bind_some, somene, false_and, and_false, reduceCtorEq, Nat.reduceEqDiff, C.k32, Option.getD_some, t0, b1]
  · have na : ¬ a = 32 := by omega
    have w1 := w.1.1
    obtain ⟨o1, o2, ⟨o3, -, o5, o6, o7, -⟩, -⟩ := id O
    have w2 := w.2.1
    have w3 := w.2.2.1
    refine ⟨wI (wI (wI (wI (wI (wI (wI (wR h 32 0 (some a)) 32 2 (nI (2 ^ aN (dA D)))) 32 1 (nI (owN D))) 32 9 (nI 0)) 32 10 (nI 0)) 32 11 (nI 0)) 32 12 (nI 0)) 32 13 (nI 0), ?_, ?_, fun i hi => ?_, ?_, Or.inr ?_⟩
    · rw [e_Ta_use]
      have tw := two_shl w1
      have q' : (some a = some ta) = False := eq_false (fun r => q (Option.some.inj r))
      have ow : nI (owN D) = nI (4 * (dH D - 1)) + nI (2 * (dE D).toNat) + nI ((dL D).toNat) := by
        rw [nI_add, nI_add]; rfl
      rw [ow]
      cases hE : dE D <;> cases hL : dL D <;>
        simp (disch := omega) only [↓reduceIte, ↓Option.bind_some, if_true, if_false, true_and, and_true, and_self, true_or, or_true, false_or, or_false, not_true_eq_false, not_false_eq_true, Option.bind_some, somene, false_and, and_false, reduceCtorEq, Nat.reduceEqDiff, C.k32, Option.getD_some, t0, b1, b2, q', hK_wR, hK_wI, hI_wR, hI_wI, o2, o3, o5, o6, o7, hE, hL, bi_t, bi_f, l0, l1, l2, l4, l31, tw, q_sub, pk_mul, q_eq_f, na, e_Ta_use_62, Bool.toNat_true, Bool.toNat_false, Nat.mul_one, Nat.mul_zero]
    · exact (((((((Ck.vR _ _ _ (by decide)).trans (Ck.vI _ _ _ (by decide))).trans (Ck.vI _ _ _ (by decide))).trans (Ck.vI _ _ _ (by decide))).trans (Ck.vI _ _ _ (by decide))).trans (Ck.vI _ _ _ (by decide))).trans (Ck.vI _ _ _ (by decide))).trans (Ck.vI _ _ _ (by decide))
    · show hR (wR h 32 0 (some a)) 32 i = _
      rw [hR_wR, if_neg (fun r => hi r.2)]
    · show hR (wR h 32 0 (some a)) 32 0 = _
      rw [hR_wR, if_pos ⟨rfl, rfl⟩]
    · refine ⟨⟨?_, ?_, ?_, Or.inl ?_⟩, Or.inl ?_, Or.inl ?_, Or.inl ?_, Or.inl ?_⟩
      · show hR (wR h 32 0 (some a)) 32 0 = _
        rw [hR_wR, if_pos ⟨rfl, rfl⟩]
      all_goals simp only [hI_wI, hI_wR, ↓reduceIte, ↓Option.bind_some, if_true, if_false, true_and, and_true, and_self, true_or, or_true, false_or, or_false, not_true_eq_false, not_false_eq_true, Option.bind_some, somene, false_and, and_false, reduceCtorEq, Nat.reduceEqDiff]
def lB : List Nat := [23, 24, 25, 26, 28, 32, 52, 62]
theorem p4_B : ∀ c, cl lB c = false → p4 23 c = false := by
  intro c hc
  refine p4_f ?_
  rcases Nat.lt_or_ge c 23 with q | q
  · exact Or.inl q
  · refine Or.inr ?_
    rcases Nat.lt_or_ge c 27 with r | r
    · have : ∀ c, c < 27 → 23 ≤ c → cl lB c = true := by decide
      rw [this c r q] at hc; cases hc
    · exact r
theorem q_back (a0 : Int32) : sk_Ag (JJ L xs) L xs 52 (fun h => c_SR_back 40 (some 20) a0 h) (fun h => c_M_back 40 (some 52) a0 h) := by
  intro j h hj ⟨F, E, st, tu, pl, J, T, MM⟩
  obtain ⟨b2, g1, g2, g3⟩ := M_in_n (d := 40) (h := h) 0 3 (by decide) (by decide) (l2 := 0) (h2 := 3) (by decide) (by decide) a0
  have C := J.2.1
  have M := J.2.2.1
  cases b2
  · refine ⟨h, h, nM, ?_, J.ex, ?_, F, E, st, tu, pl, J.s, T, MM⟩
    · show c_SR_back 40 (some 20) a0 h = _
      rw [e_SR_back]
      rcases i_cases a0 with hx | ⟨p, hp, hx⟩
      · simp only [↓reduceIte, ↓Option.bind_some, if_true, if_false, true_and, and_true, and_self, true_or, or_true, false_or, or_false, not_true_eq_false, not_false_eq_true, Option.bind_some, somene, false_and, and_false, reduceCtorEq, Nat.reduceEqDiff, l0, l1, lm1, hx]
      · subst hx
        have hpn : ¬ p ≤ 3 := fun q => g3 rfl p (by omega) q rfl
        simp (disch := omega) only [↓reduceIte, ↓Option.bind_some, if_true, if_false, true_and, and_true, and_self, true_or, or_true, false_or, or_false, not_true_eq_false, not_false_eq_true, Option.bind_some, somene, false_and, and_false, reduceCtorEq, Nat.reduceEqDiff, l0, l1, l4, lm1, q_lt_f, q_le_t]
    · show c_M_back 40 (some 52) a0 h = _
      rw [e_M_back]
      simp only [↓bnd g1, ↓reduceIte, ↓Option.bind_some, if_true, if_false, true_and, and_true, and_self, true_or, or_true, false_or, or_false, not_true_eq_false, not_false_eq_true, Option.bind_some, somene, false_and, and_false, reduceCtorEq, Nat.reduceEqDiff, q_bi0, l0, l1, lm1]
  · obtain ⟨k, -, hk3, rfl⟩ := g2 rfl
    obtain ⟨j1, j2, j3, j4, j5, j6, j7, j8, j9, j10, j11, j12, j13⟩ := id J
    obtain ⟨g, i1, i2⟩ := id j13
    rcases i1 k (by omega) with ⟨q1, q2, q3⟩ | ⟨q1, q2, q3, q4, q5, q6, q7, q8, st', tu', pl', q9, q10⟩
    · refine ⟨h, h, nM, ?_, J.ex, ?_, F, E, st, tu, pl, J.s, T, MM⟩
      · show c_SR_back 40 (some 20) (nI k) h = _
        rw [e_SR_back]
        simp (disch := omega) only [↓reduceIte, ↓Option.bind_some, if_true, if_false, true_and, and_true, and_self, true_or, or_true, false_or, or_false, not_true_eq_false, not_false_eq_true, Option.bind_some, somene, false_and, and_false, reduceCtorEq, Nat.reduceEqDiff, q_lt_f, q_le_f, l0, l1, l4, lm1, q_in, q_cl, C.k20, C.k27, C.n27, ↓bnd C.r20_5, q1, ar107]
      · show c_M_back 40 (some 52) (nI k) h = _
        rw [e_M_back]
        simp (disch := omega) only [↓bnd g1, ↓reduceIte, ↓Option.bind_some, if_true, if_false, true_and, and_true, and_self, true_or, or_true, false_or, or_false, not_true_eq_false, not_false_eq_true, Option.bind_some, somene, false_and, and_false, reduceCtorEq, Nat.reduceEqDiff, q_bi0, Bool.true_eq_false, l0, l1, lm1, M.K52, ↓bnd M.R39, M.K72, M.N72, q_in, q_cl, q2]
    · have s0' : ∀ i, i < 40 → ∀ q, hR h (g k + 3) i = some q → hK h q = 10 := fun i hi q hq => (q10.1 i hi q hq).2
      obtain ⟨hc, c1, c2, c3, c4, c5⟩ := St_copy (d := 40) C.s23 q6 (Or.inl (by omega)) s0'
      obtain ⟨hf, hhf⟩ : ∃ hf, hf = wI hc 28 4 (nI 0) := ⟨_, rfl⟩
      have Cc : CS hc := C.cg (fun a _ => by rw [c2.eK, c2.eN]; exact ⟨rfl, rfl⟩) (fun q hq => by
        by_cases q23 : q.1 = 23
        · have : ∀ q ∈ cR, q.2.1 ≠ 0 ∨ q.1 ≠ 23 := by decide
          rw [q23, c4, if_neg (by rcases this q hq with r | r; exact r; exact absurd q23 r)]
        · have : ∀ q ∈ cR, q.1 < 23 ∨ q.1 = 23 ∨ 27 ≤ q.1 := by decide
          rw [(c2.2.2 q.1 (p4_f (by have := this q hq; omega))).2])
      have Cf : CS hf := by rw [hhf]; exact Cc
      have A1 : Ck (cl lB) h hf := by
        rw [hhf]
        exact (c2.sub p4_B).trans (Ck.vI _ _ _ (by decide))
      have Rf : hR hf = hR hc := by rw [hhf]; rfl
      have rf0 : hR hf 23 0 = hR h (g k) 0 := by rw [Rf, c4, if_pos rfl]
      have If : ∀ c, c ≠ 28 → hI hf c = hI hc c := fun c hc => by rw [hhf, hI_wI_n _ _ _ hc]
      have hFf : ∀ c, F c → F c ∧ Same h hf c := fun c hc => ⟨hc, A1.same (cl73 (by decide) c (j4.1 c hc))⟩
      obtain ⟨ta, t1, t2, t3, t4⟩ := id T
      have t1f : hR hf 32 0 = some ta := by rw [Rf, (c2.2.2 32 (p4_f (by omega))).2]; exact t1
      have tsm : ∀ c, c ∈ [32, 43, 44, 45, 46, 47, 48] → sk_same h hf c := fun c hc => by
        obtain ⟨hb, h28⟩ : (c < 23 ∨ 23 + 4 ≤ c) ∧ c ≠ 28 := by revert hc; revert c; decide
        have q := c2.sm (p4_f hb)
        rw [hhf]
        exact q.trans ⟨rfl, rfl, hI_wI_n _ _ _ h28, rfl, rfl⟩
      have key : ∃ h1, c_Ta_use 40 (some 32) (hR hf 23 0) hf = some h1 ∧ Ck (cl [32]) hf h1 ∧ (∀ i, i ≠ 0 → hR h1 32 i = hR hf 32 i) ∧ ∃ tb, hR h1 32 0 = some tb ∧ (20 ≤ tb ∧ (tb < 73 ∨ ∃ D, E tb = some D)) ∧ (∀ D, E tb = some D → TD h1 D tb) ∧ ∀ a, hR hf 23 0 = some a → a = tb := by
        obtain ⟨-, -, -, -, -, -, -, -, -, w9⟩ := id q10
        rcases w9 with ⟨w1, -⟩ | ⟨a, D, w1, w2, ww, -⟩
        · refine ⟨hf, ?_, Ck.refl hf, fun _ _ => rfl, ta, t1f, t2, fun D hD => (t3 D hD).sm tsm, fun a ha => ?_⟩
          · rw [rf0, w1, e_Ta_use]
            simp only [if_true]
          · rw [rf0, w1] at ha; cases ha
        · obtain ⟨-, O⟩ := j8 a D w2
          obtain ⟨cc, O⟩ := O
          have O' := O.same hFf
          have a73 := j4.1 a O.1
          obtain ⟨h1, u1, u2, u3, u4, u5⟩ := Ta_use_ok (d := 40) Cf O' ww t1f t2.1 a73
          refine ⟨h1, by rw [rf0, w1]; exact u1, u2, u3, a, u4, ⟨by omega, Or.inr ⟨D, w2⟩⟩, fun D' hD' => ?_, fun a' ha' => ?_⟩
          · rw [w2] at hD'; cases hD'
            rcases u5 with ⟨v1, v2⟩ | v
            · rw [v2, v1]; exact (t3 D (by rw [← v1]; exact w2)).sm tsm
            · exact v
          · rw [rf0, w1] at ha'; cases ha'; rfl
      obtain ⟨h1, u1, u2, u3, tb, u4, u5, u6, u7⟩ := key
      have C1 : CS h1 := Cf.cg (fun a _ => by rw [u2.eK, u2.eN]; exact ⟨rfl, rfl⟩) (fun q hq => by
        by_cases q32 : q.1 = 32
        · have : ∀ q ∈ cR, q.2.1 ≠ 0 ∨ q.1 ≠ 32 := by decide
          rw [q32, u3 _ (by rcases this q hq with r | r; exact r; exact absurd q32 r)]
        · rw [(u2.2.2 q.1 (by unfold cl; simp [q32])).2])
      have z1 : ∀ c, c ≠ 32 → hI h1 c = hI hf c ∧ hR h1 c = hR hf c := fun c hc => u2.2.2 c (by unfold cl; simp [hc])
      have A1' : Ck (cl lB) h h1 := A1.trans (u2.sub (fun c hc => by
        cases hq : cl [32] c
        · rfl
        · have : c = 32 := by unfold cl at hq; simpa using hq
          rw [this] at hc; exact absurd hc (by decide)))
      have R52 : hR h1 52 = hR h 52 := by rw [(z1 52 (by decide)).2, Rf, (c2.2.2 52 (p4_f (by omega))).2]
      have M1 : MS 52 h1 := M.ck A1' R52
      have y : ∀ c, c ≠ 32 → c ≠ 28 → (c < 23 ∨ 27 ≤ c) → hI h1 c = hI h c := fun c n1 n2 n3 => by rw [(z1 c n1).1, If c n2, (c2.2.2 c (p4_f n3)).1]
      obtain ⟨hx, hhx⟩ : ∃ hx, hx = wI (wI (wI h1 52 21 (hI h1 71 k)) 52 25 (nI 0)) 52 23 nM := ⟨_, rfl⟩
      have Mx : MS 52 hx := by rw [hhx]; exact M1
      obtain ⟨h2, v, m1, m2, m3, m4, -⟩ := M_bk_in (d := 40) (k := k) (by omega) 184 0 hx (by omega) Mx
      have Ix : ∀ c, c ≠ 52 → hI hx c = hI h1 c := fun c hc => by rw [hhx, hI_wI_n _ _ _ hc, hI_wI_n _ _ _ hc, hI_wI_n _ _ _ hc]
      have A2 : Ck (cl lB) h1 h2 := by
        refine Ck.trans ?_ (m3.ck (fun c hc i => ?_))
        · rw [hhx]
          exact ((Ck.vI _ _ _ (by decide)).trans (Ck.vI _ _ _ (by decide))).trans (Ck.vI _ _ _ (by decide))
        · cases hq : P62 c i
          · rfl
          · have : c = 62 := by unfold P62 at hq; exact eq_of_beq hq
            rw [this] at hc; exact absurd hc (by decide)
      have R2 : hR h2 = hR h1 := by rw [m3.eR, hhx]; rfl
      have z2 : ∀ c, c ≠ 62 → c ≠ 52 → hI h2 c = hI h1 c := fun c n1 n2 => by rw [m3.n62 n1, Ix c n2]
      have z52 : ∀ i, i ≠ 21 → i ≠ 25 → i ≠ 23 → hI h2 52 i = hI h 52 i := fun i n1 n2 n3 => by
        rw [m3.n62 (by decide), hhx, hI_wI, if_neg (fun q => n3 q.2), hI_wI, if_neg (fun q => n2 q.2), hI_wI, if_neg (fun q => n1 q.2), y 52 (by decide) (by decide) (by decide)]
      have x21 : hI h2 52 21 = hI h 71 k := by
        rw [m3.n62 (by decide), hhx, hI_wI, if_neg (by decide), hI_wI, if_neg (by decide), hI_wI, if_pos ⟨rfl, rfl⟩, y 71 (by decide) (by decide) (by decide)]
      have z62 : ∀ l, l < 184 → hI h2 62 l = hI h 70 (184 * k + l) := fun l hl => by rw [m4 l (by omega) hl, Ix 70 (by decide), y 70 (by decide) (by decide) (by decide)]
      have e23 : ∀ i, 1 ≤ i → i ≤ 4 → hI h2 23 i = hI h (g k) i := fun i n1 n2 => by rw [z2 23 (by decide) (by decide), (z1 23 (by decide)).1, If 23 (by decide), c3 i n1 n2]
      have r23 : hR h2 23 0 = hR h (g k) 0 := by rw [R2, (z1 23 (by decide)).2, rf0]
      have hF : ∀ c, F c → Same h h2 c := fun c hc => (A1'.trans A2).same (cl73 (by decide) c (j4.1 c hc))
      have sv : SV F E h2 23 (hI h2 62) st' tu' pl' := by
        refine q10.cp (e23 1 (by omega) (by omega)) (e23 2 (by omega) (by omega)) (e23 3 (by omega) (by omega)) r23 (fun i hi => ?_) (fun i hi => ?_) (fun i hi => ?_) hF (fun l hl => z62 l hl)
        · show hI h2 24 i = _
          rw [z2 24 (by decide) (by decide), (z1 24 (by decide)).1, If 24 (by decide)]
          exact (c5 i hi).1
        · show hI h2 25 i = _
          rw [z2 25 (by decide) (by decide), (z1 25 (by decide)).1, If 25 (by decide)]
          exact (c5 i hi).2.1
        · show hR h2 26 i = _
          rw [R2, (z1 26 (by decide)).2, Rf]
          exact (c5 i hi).2.2
      obtain ⟨nx, kp, f, hnx, hkp, a3, a4, a25, -⟩ := j12
      have s9 : v = nI pl' := by rw [m2]; exact sv.2.2.2.2.2.2.1
      have i28 : hI h2 28 3 = nI nx := by
        rw [z2 28 (by decide) (by decide), (z1 28 (by decide)).1, hhf, hI_wI, if_neg (by decide), (c2.2.2 28 (p4_f (by omega))).1]; exact a3
      have i284 : hI h2 28 4 = nI 0 := by
        rw [z2 28 (by decide) (by decide), (z1 28 (by decide)).1, hhf, hI_wI, if_pos ⟨rfl, rfl⟩]
      have i25 : hI h2 52 25 = nI 0 := by
        rw [m3.n62 (by decide), hhx, hI_wI, if_neg (by decide), hI_wI, if_pos ⟨rfl, rfl⟩]
      refine ⟨h1, h2, nI pl', ?_, Ex_ck J.ex A1' (by decide), ?_, F, E, st', tu', pl', J.ck (A1'.trans A2) (by decide) (cl73 (by decide)) (by decide) (C1.cg (fun a _ => by rw [A2.eK, A2.eN]; exact ⟨rfl, rfl⟩) (fun q _ => by rw [R2])) (M1.ck A2 (by rw [R2])) ?_ ?_ ?_ (by omega) sv ?_ ?_, ⟨tb, by rw [R2]; exact u4, u5, fun D hD => (u6 D hD).sm (fun c hc => ?_), fun a ha => u7 a ?_⟩, fun a D ha hD => Or.inl ?_⟩
      · show c_SR_back 40 (some 20) (nI k) h = _
        rw [e_SR_back]
        have fg : c_Ac_forget 40 (some 28) hc = some hf := by
          rw [e_Ac_forget, hhf]
          simp only [Cc.k28, l0, if_true]
        have p3 : hI h1 23 3 = nI pl' := by rw [← z2 23 (by decide) (by decide), e23 3 (by omega) (by omega)]; exact q10.2.2.2.1
        simp (disch := omega) only [↓reduceIte, ↓Option.bind_some, if_true, if_false, true_and, and_true, and_self, true_or, or_true, false_or, or_false, not_true_eq_false, not_false_eq_true, Option.bind_some, somene, false_and, and_false, reduceCtorEq, Nat.reduceEqDiff, q_lt_f, q_le_f, l0, l1, l4, lm1, q_in, q_cl, C.k20, C.k23, C.k27, C.n27, ↓bnd C.r20_5, C.r20_4, ↓bnd C.r20_4, q1, ar107, c1, Cc.k20, Cc.k28, Cc.r20_6, ↓bnd Cc.r20_6, fg, Cf.k20, Cf.k23, ↓bnd Cf.r20_4, Cf.k32, Cf.r20_7, ↓bnd Cf.r20_7, u1, C1.k20, ↓bnd C1.r20_4, C1.k23, p3]
      · show c_M_back 40 (some 52) (nI k) h1 = _
        obtain ⟨b3, f1, f2, f3⟩ := M_in_n (d := 40) (h := h1) 0 3 (by decide) (by decide) (l2 := 0) (h2 := 3) (by decide) (by decide) (nI k)
        have hb3 : b3 = true := by
          cases b3
          · exact absurd rfl (f3 rfl k (by omega) (by omega))
          · rfl
        subst hb3
        rw [← s9, ← m1, hhx, e_M_back]
        have w72 : hI h1 72 k = nI 1 := by rw [y 72 (by decide) (by decide) (by decide)]; exact q2
        simp (disch := omega) only [↓bnd f1, ↓reduceIte, ↓Option.bind_some, if_true, if_false, true_and, and_true, and_self, true_or, or_true, false_or, or_false, not_true_eq_false, not_false_eq_true, Option.bind_some, somene, false_and, and_false, reduceCtorEq, Nat.reduceEqDiff, q_bi0, Bool.true_eq_false, l0, l1, lm1, M1.K52, ↓bnd M1.R39, M1.K72, M1.N72, ↓bnd M1.R38, M1.K71, M1.N71, q_in, q_cl, w72, q_eq_f, hK_wI]
      · exact j6.kp (by rw [z2 20 (by decide) (by decide), y 20 (by decide) (by decide) (by decide)]) (z52 1 (by decide) (by decide) (by decide)) (by rw [z2 21 (by decide) (by decide), y 21 (by decide) (by decide) (by decide)]) (by rw [z2 53 (by decide) (by decide), y 53 (by decide) (by decide) (by decide)])
      · rw [z2 20 (by decide) (by decide), y 20 (by decide) (by decide) (by decide)]
      · exact z52 2 (by decide) (by decide) (by decide)
      · rw [e23 4 (by omega) (by omega), x21]
        exact ⟨q7, q8⟩
      · exact ⟨nx, 0, f, hnx, by omega, i28, i284, i25, fun _ => rfl, fun i hi => absurd hi (by omega), fun i k _ hk => absurd hk (by omega)⟩
      · obtain ⟨n1, n2⟩ : c ≠ 52 ∧ c ≠ 62 := by revert hc; revert c; decide
        refine ⟨by rw [A2.eK], by rw [A2.eN], z2 c n2 n1, by rw [A2.2.1], by rw [R2]⟩
      · rw [← (z1 23 (by decide)).2, ← R2]; exact ha
      · rw [m3.n62 (by decide), hhx, hI_wI, if_pos ⟨rfl, rfl⟩]
end SkBk
