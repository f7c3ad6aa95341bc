/-! ===== image, back: the calls ===== -/
section SkBack
variable {L : Nat} {xs : Nat → Int32} {F G : Nat → Prop} {E : Nat → Option DD} {h h' h1 h2 : sk_H} {j st tu pl st' tu' pl' a b b' m p k s ta : Nat} {D : DD} {c : Nat → Nat} {d : Nat} {P : Nat → Bool} {sd sd' : Nat → Int32} {R : Nat → Nat → Bool} {A : AD} {x : Nat × Nat}
theorem sk_same.same (q : sk_same h h1 a) : Same h h1 a := ⟨q.1, q.2.1, q.2.2.1, q.2.2.2.2, fun _ => q.2.2.2.1⟩
theorem sk_same.kp (q : sk_same h h1 a) : Kp h h1 a := ⟨q.1, q.2.1, q.2.2.1, q.2.2.2.2⟩
theorem sk_same.rf (h : sk_H) (a : Nat) : sk_same h h a := ⟨rfl, rfl, rfl, rfl, rfl⟩
theorem Ck.sm (Q : Ck P h h1) (ha : P a = false) : sk_same h h1 a := ⟨by rw [Q.eK], by rw [Q.eN], (Q.2.2 a ha).1, by rw [Q.2.1], (Q.2.2 a ha).2⟩
theorem Iq.sm (Q : Iq R h h1) (ha : ∀ i, R a i = false) : sk_same h h1 a := ⟨by rw [Q.eK], by rw [Q.eN], funext fun i => Q.I (ha i), by rw [Q.eJ], by rw [Q.eR]⟩
theorem TD.sm (t : TD h D a) (s : ∀ c, c ∈ [32, 43, 44, 45, 46, 47, 48] → sk_same h h1 c) : TD h1 D a := by
  have e32 := s 32 (by decide)
  have e43 := s 43 (by decide)
  have e44 := s 44 (by decide)
  have e45 := s 45 (by decide)
  have e46 := s 46 (by decide)
  have e47 := s 47 (by decide)
  have e48 := s 48 (by decide)
  unfold TD TC TFl TI clK TB at t ⊢
  rw [e43.2.2.2.1, e32.2.2.1, e32.2.2.2.2, e44.2.2.1, e45.2.2.1, e46.2.2.1, e47.2.2.1, e48.2.2.1]
  exact t
theorem JT.sm (T : JT E h) (s : ∀ c, c ∈ [32, 43, 44, 45, 46, 47, 48] → sk_same h h1 c) (r : hR h1 23 0 = hR h 23 0) : JT E h1 := by
  obtain ⟨ta, t1, t2, t3, t4⟩ := T
  exact ⟨ta, by rw [(s 32 (by decide)).2.2.2.2]; exact t1, t2, fun D hD => (t3 D hD).sm s, fun a ha => t4 a (by rw [← r]; exact ha)⟩
theorem JM.sm (M : JM E h) (s : sk_same h h1 63) (r : hR h1 23 0 = hR h 23 0) (x : hI h1 52 23 = hI h 52 23) : JM E h1 := by
  unfold JM MWon at M ⊢
  rw [r, x, s.2.2.1]
  exact M
theorem MS.sm (M : MS 52 h) (s : ∀ c, 52 ≤ c → c ≤ 72 → hK h1 c = hK h c ∧ hN h1 c = hN h c) (r : hR h1 52 = hR h 52) : MS 52 h1 := by
  refine ⟨by rw [(s 52 (by omega) (by omega)).1]; exact M.1, fun k hk => by rw [r]; exact M.2.1 k hk, fun k h1 h2 => by rw [(s (52 + k) (by omega) (by omega)).1, (s (52 + k) (by omega) (by omega)).2]; exact M.2.2 k h1 h2⟩
theorem CS.sm (C : CS h) (s : ∀ c, c < 52 → c ≠ 26 → c ≠ 27 → sk_same h h1 c) (s26 : hK h1 26 = hK h 26 ∧ hN h1 26 = hN h 26) (s27 : hK h1 27 = hK h 27 ∧ hN h1 27 = hN h 27) : CS h1 := by
  refine ⟨fun q hq => ?_, fun q hq => ?_⟩
  · have e : hK h1 q.1 = hK h q.1 ∧ hN h1 q.1 = hN h q.1 := by
      by_cases q26 : q.1 = 26
      · rw [q26]; exact s26
      · by_cases q27 : q.1 = 27
        · rw [q27]; exact s27
        · have : ∀ q ∈ cK, q.1 < 52 := by decide
          have := s q.1 (this q hq) q26 q27
          exact ⟨this.1, this.2.1⟩
    rw [e.1, e.2]
    exact C.1 q hq
  · have : ∀ q ∈ cR, q.1 < 52 ∧ q.1 ≠ 26 ∧ q.1 ≠ 27 := by decide
    obtain ⟨h1, h2, h3⟩ := this q hq
    rw [(s q.1 h1 h2 h3).2.2.2.2]
    exact C.2 q hq
theorem new_sm (h : sk_H) (k n : Nat) {c : Nat} (hc : c < hn h) : sk_same h (hnew h k n) c := by
  have q : c ≠ hn h := by omega
  refine ⟨by rw [hK_new, if_neg q], by rw [hN_new, if_neg q], funext fun i => by rw [hI_new, if_neg q], funext fun i => by rw [hJ_new, if_neg q], funext fun i => by rw [hR_new, if_neg q]⟩
theorem wR_sm (h : sk_H) {c : Nat} (i : Nat) (v : Option Nat) (hc : c ≠ a) : sk_same h (wR h a i v) c := ⟨rfl, rfl, rfl, rfl, hR_wR_n h i v hc⟩
theorem St_new (h : sk_H) : ∃ hA, c_St_init d (some (hn h)) (hnew h 9 8) = some hA ∧ hn hA = hn h + 4 ∧ hs hA = hs h + 128 ∧ (∀ c, c < hn h → sk_same h hA c) ∧ SS hA (hn h) := by
  obtain ⟨hA, hhA⟩ : ∃ hA, hA = wR (hnew (wR (hnew (wR (hnew (hnew h 9 8) 101 40) (hn h) 5 (some (hn h + 1))) 101 40) (hn h) 6 (some (hn h + 2))) 108 40) (hn h) 7 (some (hn h + 3)) := ⟨_, rfl⟩
  have n1 : ¬ hn h = hn h + 1 := by omega
  have n2 : ¬ hn h = hn h + 1 + 1 := by omega
  have n3 : ¬ hn h = hn h + 1 + 1 + 1 := by omega
  have m1 : ¬ hn h + 1 = hn h := by omega
  have m2 : ¬ hn h + 2 = hn h := by omega
  have m3 : ¬ hn h + 3 = hn h := by omega
  refine ⟨hA, ?_, by rw [hhA]; rfl, by rw [hhA]; rfl, fun c hc => ?_, ?_⟩
  · rw [e_St_init, hhA]
    simp only [↓reduceIte, ↓Option.bind_some, if_true, if_false, true_and, and_true, and_self, true_or, or_true, false_or, or_false, not_true_eq_false, not_false_eq_true, Option.bind_some, somene, false_and, and_false, reduceCtorEq, Nat.reduceEqDiff, hK_wR, hK_new, hn_new, hn_wR, n1, n2, n3]
  · rw [hhA]
    refine (new_sm h 9 8 hc).trans ((new_sm _ 101 40 (by rw [hn_new]; omega)).trans ((wR_sm _ _ _ (by omega)).trans ((new_sm _ 101 40 (by rw [hn_wR, hn_new, hn_new]; omega)).trans ((wR_sm _ _ _ (by omega)).trans ((new_sm _ 108 40 (by rw [hn_wR, hn_new, hn_wR, hn_new, hn_new]; omega)).trans (wR_sm _ _ _ (by omega)))))))
  · rw [hhA]
    unfold SS
    simp (disch := omega) only [hR_wR, hR_new, hK_wR, hN_wR, hK_new, hN_new, hn_wR, hn_new, ↓reduceIte, ↓Option.bind_some, if_true, if_false, true_and, and_true, and_self, true_or, or_true, false_or, or_false, not_true_eq_false, not_false_eq_true, Option.bind_some, somene, false_and, and_false, reduceCtorEq, Nat.reduceEqDiff, n1, n2, n3, m1, m2, m3, Nat.add_assoc, Nat.reduceAdd, Nat.add_left_cancel_iff]
/-- what image does in the class -/
theorem SR_image_ok (C : CS h) (hn73 : 73 ≤ hn h) (g : Nat → Nat) (hk : k < 4) (hi : (hR h 27 k = none ∧ g k = 0) ∨ (hR h 27 k = some (g k) ∧ 73 ≤ g k ∧ g k + 4 ≤ hn h ∧ SS h (g k))) (hr : ∀ i, i < 40 → ∀ q, hR h 26 i = some q → hK h q = 10 ∧ q < hn h) : ∃ b h1, c_SR_image d (some 20) (nI k) h = some (h1, hI h 23 3) ∧ (b = g k ∨ b = hn h) ∧ (g k ≠ 0 → b = g k) ∧ 73 ≤ b ∧ b + 4 ≤ hn h1 ∧ hn h ≤ hn h1 ∧ hn h1 ≤ hn h + 4 ∧ hs h1 ≤ hs h + 128 ∧ (∀ c, c < hn h → c ≠ 27 → (c < b ∨ b + 4 ≤ c) → sk_same h h1 c) ∧ (hK h1 27 = hK h 27 ∧ hN h1 27 = hN h 27 ∧ hI h1 27 = hI h 27) ∧ (∀ i, hR h1 27 i = if i = k then some b else hR h 27 i) ∧ SS h1 b ∧ (∀ i, 1 ≤ i → i ≤ 4 → hI h1 b i = hI h 23 i) ∧ hR h1 b 0 = hR h 23 0 ∧ ∀ l, l < 40 → hI h1 (b + 1) l = hI h 24 l ∧ hI h1 (b + 2) l = hI h 25 l ∧ hR h1 (b + 3) l = hR h 26 l := by
  rcases hi with ⟨r0, g0⟩ | ⟨r0, g1, g2, g3⟩
  · obtain ⟨hA, a1, a2, a3, a4, a5⟩ := St_new (d := d) h
    have CA : CS hA := C.sm (fun c hc _ _ => a4 c (by omega)) ⟨(a4 26 (by omega)).1, (a4 26 (by omega)).2.1⟩ ⟨(a4 27 (by omega)).1, (a4 27 (by omega)).2.1⟩
    have CB : CS (wR hA 27 k (some (hn h))) := CA.sm (fun c hc _ h27 => wR_sm _ _ _ h27) ⟨rfl, rfl⟩ ⟨rfl, rfl⟩
    have SB : SS (wR hA 27 k (some (hn h))) (hn h) := by
      unfold SS
      rw [hR_wR_n _ _ _ (show hn h ≠ 27 by omega)]
      exact a5
    have Rb : ∀ c, c < hn h → c ≠ 27 → hR (wR hA 27 k (some (hn h))) c = hR h c := fun c hc h27 => by rw [hR_wR_n _ _ _ h27, (a4 c hc).2.2.2.2]
    obtain ⟨h1, e1, e2, e3, e4, e5⟩ := St_copy (d := d) SB CB.s23 (Or.inr (by omega)) (fun i hi q hq => by
      have hq : hR (wR hA 27 k (some (hn h))) 26 i = some q := hq
      rw [Rb 26 (by omega) (by decide)] at hq
      obtain ⟨q1, q2⟩ := hr i hi q hq
      show hK hA q = 10
      rw [(a4 q q2).1]; exact q1)
    have en : hn h1 = hn hA := congrArg (fun x => x.2.2.1) e2.1
    have es : hs h1 = hs hA := congrArg (fun x => x.2.2.2) e2.1
    have C1 : CS h1 := CB.sm (fun c hc _ _ => e2.sm (p4_f (by omega))) ⟨(e2.sm (a := 26) (p4_f (by omega))).1, (e2.sm (a := 26) (p4_f (by omega))).2.1⟩ ⟨(e2.sm (a := 27) (p4_f (by omega))).1, (e2.sm (a := 27) (p4_f (by omega))).2.1⟩
    have I23 : hI h1 23 = hI h 23 := by rw [(e2.sm (a := 23) (p4_f (by omega))).2.2.1, hI_wR, (a4 23 (by omega)).2.2.1]
    refine ⟨hn h, h1, ?_, Or.inr rfl, fun q => absurd g0 q, hn73, by omega, by omega, by omega, by omega, fun c hc h27 hb => ?_, ?_, fun i => ?_, ?_, fun i h1 h4 => ?_, ?_, fun l hl => ?_⟩
    · rw [e_SR_image]
      have kn : hK hA (hn h) = 9 := a5.1
      have K7 : hK (hnew h 9 8) (hn h) = 9 := by rw [hK_new, if_pos rfl]
      simp (disch := omega) only [↓reduceIte, ↓Option.bind_some, if_true, if_false, true_and, and_true, and_self, true_or, or_true, false_or, or_false, not_true_eq_false, not_false_eq_true, Option.bind_some, somene, false_and, and_false, reduceCtorEq, Nat.reduceEqDiff, q_lt_f, q_lt_t, l0, l4, q_in, q_cl, C.k20, C.k27, C.n27, ↓bnd C.r20_5, r0, ar107, ao107, K7, ↓bnd a1, CA.k20, CA.k27, CA.n27, kn, Option.getD_some, hK_wR, hN_wR, hR_wR, CA.r20_5, CA.r20_4, e1, C1.k20, C1.r20_4, C1.k23, I23]
    · exact (a4 c hc).trans ((wR_sm _ _ _ h27).trans (e2.sm (p4_f hb)))
    · have q := e2.sm (a := 27) (p4_f (by omega))
      have q2 := a4 27 (by omega)
      exact ⟨q.1.trans q2.1, q.2.1.trans q2.2.1, q.2.2.1.trans q2.2.2.1⟩
    · rw [(e2.sm (a := 27) (p4_f (by omega))).2.2.2.2, hR_wR]
      by_cases q : i = k
      · rw [if_pos ⟨rfl, q⟩, if_pos q]
      · rw [if_neg (fun r => q r.2), if_neg q, (a4 27 (by omega)).2.2.2.2]
    · unfold SS
      rw [e2.eK, e2.eN, e4, e4, e4, if_neg (by decide), if_neg (by decide), if_neg (by decide)]
      exact SB
    · rw [e3 i h1 h4, hI_wR, (a4 23 (by omega)).2.2.1]
    · rw [e4, if_pos rfl, Rb 23 (by omega) (by decide)]
    · obtain ⟨f1, f2, f3⟩ := e5 l hl
      refine ⟨f1.trans ?_, f2.trans ?_, f3.trans ?_⟩
      · show hI hA 24 l = _
        rw [(a4 24 (by omega)).2.2.1]
      · show hI hA 25 l = _
        rw [(a4 25 (by omega)).2.2.1]
      · show hR (wR hA 27 k (some (hn h))) 26 l = _
        rw [Rb 26 (by omega) (by decide)]
  · obtain ⟨h1, e1, e2, e3, e4, e5⟩ := St_copy (d := d) g3 C.s23 (Or.inr (by omega)) (fun i hi q hq => (hr i hi q hq).1)
    have en : hn h1 = hn h := congrArg (fun x => x.2.2.1) e2.1
    have es : hs h1 = hs h := congrArg (fun x => x.2.2.2) e2.1
    have C1 : CS h1 := C.sm (fun c hc _ _ => e2.sm (p4_f (by omega))) ⟨(e2.sm (a := 26) (p4_f (by omega))).1, (e2.sm (a := 26) (p4_f (by omega))).2.1⟩ ⟨(e2.sm (a := 27) (p4_f (by omega))).1, (e2.sm (a := 27) (p4_f (by omega))).2.1⟩
    have I23 : hI h1 23 = hI h 23 := (e2.sm (a := 23) (p4_f (by omega))).2.2.1
    refine ⟨g k, h1, ?_, Or.inl rfl, fun _ => rfl, g1, by omega, by omega, by omega, by omega, fun c hc h27 hb => e2.sm (p4_f hb), ?_, fun i => ?_, ?_, e3, ?_, e5⟩
    · rw [e_SR_image]
      have kn : hK h (g k) = 9 := g3.1
      simp (disch := omega) only [↓reduceIte, ↓Option.bind_some, if_true, if_false, true_and, and_true, and_self, true_or, or_true, false_or, or_false, not_true_eq_false, not_false_eq_true, Option.bind_some, somene, false_and, and_false, reduceCtorEq, Nat.reduceEqDiff, q_lt_f, q_lt_t, l0, l4, q_in, q_cl, C.k20, C.k27, C.n27, ↓bnd C.r20_5, r0, ar107, kn, C.r20_4, e1, C1.k20, C1.r20_4, C1.k23, I23]
    · have q := e2.sm (a := 27) (p4_f (by omega))
      exact ⟨q.1, q.2.1, q.2.2.1⟩
    · rw [(e2.sm (a := 27) (p4_f (by omega))).2.2.2.2]
      by_cases q : i = k
      · rw [if_pos q, q]; exact r0
      · rw [if_neg q]
    · unfold SS
      rw [e2.eK, e2.eN, e4, e4, e4, if_neg (by decide), if_neg (by decide), if_neg (by decide)]
      exact g3
    · rw [e4, if_pos rfl]
theorem q_image (a0 : Int32) : sk_Ag (JJ L xs) L xs 52 (fun h => c_SR_image 40 (some 20) a0 h) (fun h => c_M_image 40 (some 52) a0 h) := by
  intro j h hj ⟨F, E, st, tu, pl, J, T, MM⟩
  obtain ⟨b2, g1, g2, g3⟩ := M_in_n (d := 40) (h := h) 0 3 (by decide) (by decide) (l2 := 0) (h2 := 3) (by decide) (by decide) a0
  have C := J.2.1
  have M := J.2.2.1
  cases b2
  · refine ⟨h, h, nM, ?_, J.ex, ?_, F, E, st, tu, pl, J.s, T, MM⟩
    · show c_SR_image 40 (some 20) a0 h = _
      rw [e_SR_image]
      rcases i_cases a0 with hx | ⟨p, hp, hx⟩
      · simp only [↓reduceIte, ↓Option.bind_some, if_true, if_false, true_and, and_true, and_self, true_or, or_true, false_or, or_false, not_true_eq_false, not_false_eq_true, Option.bind_some, somene, false_and, and_false, reduceCtorEq, Nat.reduceEqDiff, l0, l1, lm1, hx]
      · subst hx
        have hpn : ¬ p ≤ 3 := fun q => g3 rfl p (by omega) q rfl
        simp (disch := omega) only [↓reduceIte, ↓Option.bind_some, if_true, if_false, true_and, and_true, and_self, true_or, or_true, false_or, or_false, not_true_eq_false, not_false_eq_true, Option.bind_some, somene, false_and, and_false, reduceCtorEq, Nat.reduceEqDiff, l0, l1, l4, lm1, q_lt_f]
    · show c_M_image 40 (some 52) a0 h = _
      rw [e_M_image]
      simp only [↓bnd g1, ↓reduceIte, ↓Option.bind_some, if_true, if_false, true_and, and_true, and_self, true_or, or_true, false_or, or_false, not_true_eq_false, not_false_eq_true, Option.bind_some, somene, false_and, and_false, reduceCtorEq, Nat.reduceEqDiff, q_bi0, l0, l1, lm1]
  · obtain ⟨k, -, hk3, rfl⟩ := g2 rfl
    obtain ⟨j1, j2, j3, j4, j5, j6, j7, j8, j9, j10, j11, j12, j13⟩ := id J
    obtain ⟨g, i1, i2⟩ := j13
    have SVn := j10
    obtain ⟨s0, s1, s2, s3, s4, s5, s6, s7, s8, s9⟩ := id j10
    obtain ⟨b, h1, e1, eb, eb2, b73, bn, n1, n2, n3, sm, ⟨k27, n27, i27⟩, r27, ss, cI, cR, cA⟩ := SR_image_ok (d := 40) C j5.1 g (k := k) (by omega) (by
      rcases i1 k (by omega) with ⟨q1, -, q3⟩ | ⟨q1, -, q3, q4, -, q6, -⟩
      · exact Or.inl ⟨q1, q3⟩
      · exact Or.inr ⟨q1, q3, q4, q6⟩) (fun i hi q hq => ⟨(s0 i hi q hq).2, j4.2 q (s0 i hi q hq).1⟩)
    rw [s3] at e1
    have lo : ∀ c, c < 73 → c ≠ 27 → sk_same h h1 c := fun c hc h27 => sm c (by omega) h27 (Or.inl (by omega))
    have C1 : CS h1 := C.sm (fun c hc _ h27 => lo c (by omega) h27) ⟨(lo 26 (by omega) (by omega)).1, (lo 26 (by omega) (by omega)).2.1⟩ ⟨k27, n27⟩
    have M1 : MS 52 h1 := M.sm (fun c h1 h2 => ⟨(lo c (by omega) (by omega)).1, (lo c (by omega) (by omega)).2.1⟩) (lo 52 (by omega) (by omega)).2.2.2.2
    obtain ⟨h2, m1, m2, m3, m4, m5, m6⟩ := M_image_ok (d := 40) M1 (k := k) (by omega)
    have hi2 : ∀ c, c ≠ 70 → c ≠ 71 → c ≠ 72 → sk_same h1 h2 c := fun c q1 q2 q3 => m2.sm (fun i => by rw [beq_false_of_ne q1, beq_false_of_ne q2, beq_false_of_ne q3]; rfl)
    have en2 : hn h2 = hn h1 := congrArg (fun x => x.2.2.1) m2.1
    have es2 : hs h2 = hs h1 := congrArg (fun x => x.2.2.2) m2.1
    have lo2 : ∀ c, c < 73 → c ≠ 27 → c ≠ 70 → c ≠ 71 → c ≠ 72 → sk_same h h2 c := fun c hc h27 q1 q2 q3 => (lo c hc h27).trans (hi2 c q1 q2 q3)
    have nF : ∀ i, i < 4 → ¬ F (b + i) := fun i hi hF => by
      rcases i1 k (by omega) with ⟨-, -, q3⟩ | ⟨-, -, q3, q4, q5, -⟩
      · have hb : b = hn h := by rcases eb with q | q <;> omega
        have := j4.2 _ hF
        omega
      · have hb : b = g k := eb2 (by omega)
        rw [hb] at hF
        exact q5 i hi hF
    have hF : ∀ c, F c → Same h h2 c := fun c hc => by
      have q1 := j4.1 c hc
      have q2 := j4.2 c hc
      have q3 : c < b ∨ b + 4 ≤ c := by
        rcases Nat.lt_or_ge c b with q | q
        · exact Or.inl q
        · refine Or.inr ?_
          rcases Nat.lt_or_ge c (b + 4) with r | r
          · exact absurd (by rw [show b + (c - b) = c by omega]; exact hc) (nF (c - b) (by omega))
          · exact r
      exact ((sm c q2 (by omega) q3).trans (hi2 c (by omega) (by omega) (by omega))).same
    have hF2 : ∀ c, F c → F c ∧ Same h h2 c := fun c hc => ⟨hc, hF c hc⟩
    have K2 : ∀ c, c < 73 → c ≠ 27 → c ≠ 70 → c ≠ 71 → c ≠ 72 → Kp h h2 c := fun c q1 q2 q3 q4 q5 => (lo2 c q1 q2 q3 q4 q5).kp
    have C2 : CS h2 := C1.sm (fun c hc _ h27 => hi2 c (by omega) (by omega) (by omega)) ⟨(hi2 26 (by omega) (by omega) (by omega)).1, (hi2 26 (by omega) (by omega) (by omega)).2.1⟩ ⟨(hi2 27 (by omega) (by omega) (by omega)).1, (hi2 27 (by omega) (by omega) (by omega)).2.1⟩
    have M2 : MS 52 h2 := M1.ir m2
    have v9 : hI h1 62 9 = nI pl := by rw [(lo 62 (by omega) (by omega)).2.2.1]; exact s6
    rw [v9] at m1
    have s71 : ∀ i, hI h2 71 i = if i = k then hI h 52 21 else hI h 71 i := fun i => by
      rw [m5, (lo 52 (by omega) (by omega)).2.2.1, (lo 71 (by omega) (by omega)).2.2.1]
    have s72 : ∀ i, hI h2 72 i = if i = k then nI 1 else hI h 72 i := fun i => by
      rw [m6, (lo 72 (by omega) (by omega)).2.2.1]
    have s27 : ∀ i, hR h2 27 i = if i = k then some b else hR h 27 i := fun i => by
      rw [(hi2 27 (by omega) (by omega) (by omega)).2.2.2.2]; exact r27 i
    have ex1 : sk_Ex L xs 52 h1 := by
      obtain ⟨x1, x2, x3, x4, x5⟩ := J.ex
      have q := lo 16 (by omega) (by omega)
      exact ⟨q.1.trans x1, q.2.1.trans x2, q.2.2.1.trans x3, (lo 20 (by omega) (by omega)).1.trans x4, (lo 52 (by omega) (by omega)).1.trans x5⟩
    have svB : SV F E h2 b (fun i => hI h2 70 (184 * k + i)) st tu pl := by
      have z0 := hi2 b (by omega) (by omega) (by omega)
      have z1 := hi2 (b + 1) (by omega) (by omega) (by omega)
      have z2 := hi2 (b + 2) (by omega) (by omega) (by omega)
      have z3 := hi2 (b + 3) (by omega) (by omega) (by omega)
      refine SVn.cp (by rw [z0.2.2.1, cI 1 (by omega) (by omega)]) (by rw [z0.2.2.1, cI 2 (by omega) (by omega)]) (by rw [z0.2.2.1, cI 3 (by omega) (by omega)]) (by rw [z0.2.2.2.2, cR]) (fun i hi => by rw [z1.2.2.1]; exact (cA i hi).1) (fun i hi => by rw [z2.2.2.1]; exact (cA i hi).2.1) (fun i hi => by rw [z3.2.2.2.2]; exact (cA i hi).2.2) hF (fun l hl => ?_)
      show hI h2 70 (184 * k + l) = hI h 62 l
      rw [m3 l hl, (lo 62 (by omega) (by omega)).2.2.1]
    refine ⟨h1, h2, nI pl, e1, ex1, m1, F, E, st, tu, pl, ⟨j1.qf (fun c hc => lo2 c (by omega) (by omega) (by omega) (by omega) (by omega)), C2, M2, ⟨j4.1, fun c hc => by have := j4.2 c hc; omega⟩, by omega, ?_, ?_, fun a D hD => ⟨(j8 a D hD).1, (j8 a D hD).2.same hF2⟩, by omega, ?_, ?_, ?_, ?_⟩, T.sm (fun c hc => lo2 c (by revert hc; revert c; decide) (by revert hc; revert c; decide) (by revert hc; revert c; decide) (by revert hc; revert c; decide) (by revert hc; revert c; decide)) (by rw [(K2 23 (by omega) (by omega) (by omega) (by omega) (by omega)).2.2.2]), MM.sm (lo2 63 (by omega) (by omega) (by omega) (by omega) (by omega)) (by rw [(K2 23 (by omega) (by omega) (by omega) (by omega) (by omega)).2.2.2]) (by rw [(K2 52 (by omega) (by omega) (by omega) (by omega) (by omega)).2.2.1])⟩
    · exact j6.kp (by rw [(K2 20 (by omega) (by omega) (by omega) (by omega) (by omega)).2.2.1]) (by rw [(K2 52 (by omega) (by omega) (by omega) (by omega) (by omega)).2.2.1]) (K2 21 (by omega) (by omega) (by omega) (by omega) (by omega)).2.2.1 (K2 53 (by omega) (by omega) (by omega) (by omega) (by omega)).2.2.1
    · exact j7.kp (by rw [(K2 20 (by omega) (by omega) (by omega) (by omega) (by omega)).2.2.1]) (by rw [(K2 52 (by omega) (by omega) (by omega) (by omega) (by omega)).2.2.1]) (K2 22 (by omega) (by omega) (by omega) (by omega) (by omega)).2.2.2 (K2 54 (by omega) (by omega) (by omega) (by omega) (by omega)).2.2.1 (K2 56 (by omega) (by omega) (by omega) (by omega) (by omega)).2.2.1 (K2 57 (by omega) (by omega) (by omega) (by omega) (by omega)).2.2.1 hF2
    · exact j10.kp (K2 23 (by omega) (by omega) (by omega) (by omega) (by omega)) (K2 24 (by omega) (by omega) (by omega) (by omega) (by omega)) (K2 25 (by omega) (by omega) (by omega) (by omega) (by omega)) (K2 26 (by omega) (by omega) (by omega) (by omega) (by omega)) hF2 (fun l _ => by rw [(K2 62 (by omega) (by omega) (by omega) (by omega) (by omega)).2.2.1])
    · rw [(K2 23 (by omega) (by omega) (by omega) (by omega) (by omega)).2.2.1, (K2 52 (by omega) (by omega) (by omega) (by omega) (by omega)).2.2.1]; exact j11
    · exact j12.kp (by rw [(K2 23 (by omega) (by omega) (by omega) (by omega) (by omega)).2.2.2]) (K2 28 (by omega) (by omega) (by omega) (by omega) (by omega)).2.2.1 (K2 29 (by omega) (by omega) (by omega) (by omega) (by omega)).2.2.1 (K2 30 (by omega) (by omega) (by omega) (by omega) (by omega)).2.2.1 (K2 31 (by omega) (by omega) (by omega) (by omega) (by omega)).2.2.1 (K2 64 (by omega) (by omega) (by omega) (by omega) (by omega)).2.2.1 (by rw [(K2 52 (by omega) (by omega) (by omega) (by omega) (by omega)).2.2.1])
    · have dis : ∀ l, l < 4 → l ≠ k → g l ≠ 0 → g l + 4 ≤ b ∨ b + 4 ≤ g l := fun l hl hlk hg => by
        rcases i1 l hl with ⟨-, -, q3⟩ | ⟨-, -, q3, q4, -⟩
        · exact absurd q3 hg
        · rcases i1 k (by omega) with ⟨-, -, p3⟩ | ⟨-, -, p3, -⟩
          · have hb : b = hn h := by rcases eb with q | q <;> omega
            omega
          · have hb : b = g k := eb2 (by omega)
            rw [hb]
            exact i2 l k hl (by omega) hlk hg (by omega)
      refine ⟨fun l => if l = k then b else g l, fun l hl => ?_, fun l l' hl hl' hne h0 h0' => ?_⟩
      · by_cases q : l = k
        · subst q
          simp only [if_true]
          refine Or.inr ⟨by rw [s27, if_pos rfl], by rw [s72, if_pos rfl], b73, by omega, nF, ?_, ?_, ?_, st, tu, pl, by omega, svB⟩
          · exact ss.kp (hi2 b (by omega) (by omega) (by omega)).kp (hi2 (b + 1) (by omega) (by omega) (by omega)).kp (hi2 (b + 2) (by omega) (by omega) (by omega)).kp (hi2 (b + 3) (by omega) (by omega) (by omega)).kp
          · rw [(hi2 b (by omega) (by omega) (by omega)).2.2.1, cI 4 (by omega) (by omega), s71, if_pos rfl]; exact j11.1
          · rw [s71, if_pos rfl]; exact j11.2
        · simp only [if_neg q]
          rcases i1 l hl with ⟨q1, q2, q3⟩ | ⟨q1, q2, q3, q4, q5, q6, q7, q8, st0, tu0, pl0, q9, q10⟩
          · exact Or.inl ⟨by rw [s27, if_neg q]; exact q1, by rw [s72, if_neg q]; exact q2, q3⟩
          · have dl := dis l hl q (by omega)
            have Kl : ∀ i, i < 4 → Kp h h2 (g l + i) := fun i hi => ((sm (g l + i) (by omega) (by omega) (by omega)).trans (hi2 (g l + i) (by omega) (by omega) (by omega))).kp
            have K0 : Kp h h2 (g l) := Kl 0 (by omega)
            refine Or.inr ⟨by rw [s27, if_neg q]; exact q1, by rw [s72, if_neg q]; exact q2, q3, by omega, q5, q6.kp K0 (Kl 1 (by omega)) (Kl 2 (by omega)) (Kl 3 (by omega)), by rw [K0.2.2.1, s71, if_neg q]; exact q7, by rw [s71, if_neg q]; exact q8, st0, tu0, pl0, by omega, ?_⟩
            refine q10.kp K0 (Kl 1 (by omega)) (Kl 2 (by omega)) (Kl 3 (by omega)) hF2 (fun i hi => ?_)
            show hI h2 70 (184 * l + i) = hI h 70 (184 * l + i)
            rw [m4 l i hl q hi, (lo 70 (by omega) (by omega)).2.2.1]
      · by_cases q : l = k
        · by_cases q' : l' = k
          · omega
          · simp only [if_pos q, if_neg q'] at h0 h0' ⊢
            rcases dis l' hl' q' h0' with r | r
            · exact Or.inr r
            · exact Or.inl r
        · by_cases q' : l' = k
          · simp only [if_pos q', if_neg q] at h0 h0' ⊢
            exact dis l hl q h0
          · simp only [if_neg q', if_neg q] at h0 h0' ⊢
            exact i2 l l' hl hl' hne h0 h0'
end SkBack
