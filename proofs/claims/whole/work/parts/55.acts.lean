/-! ===== acts: the frame of a change; end, seed, pass, up, undo ===== -/
/-- only these cells' ints and references change; nothing is made -/
def Ck (P : Nat → Bool) (h h' : sk_H) : Prop := h'.1 = h.1 ∧ hJ h' = hJ h ∧ ∀ c, P c = false → hI h' c = hI h c ∧ hR h' c = hR h c
def cl (l : List Nat) (c : Nat) : Bool := l.contains c
def okL (l : List Nat) : Prop := (∀ c, c < 20 → cl l c = false) ∧ (∀ c, 73 ≤ c → cl l c = false) ∧ ∀ c, c ∈ [22, 27, 32, 43, 44, 45, 46, 47, 48, 54, 56, 57, 63, 70, 71, 72] → cl l c = false
theorem cl73 {l : List Nat} (hl : l.all (fun x => Nat.blt x 73) = true) : ∀ c, 73 ≤ c → cl l c = false := by
  intro c hc
  cases hq : cl l c
  · rfl
  · have h1 : c ∈ l := by unfold cl at hq; simpa using hq
    have h2 := List.all_eq_true.mp hl c h1
    have h3 : c < 73 := by simpa using h2
    omega
section SkCk
variable {P Q : Nat → Bool} {h h1 h2 : sk_H}
theorem Ck.refl (h : sk_H) : Ck P h h := ⟨rfl, rfl, fun _ _ => ⟨rfl, rfl⟩⟩
theorem Ck.trans (A : Ck P h h1) (B : Ck P h1 h2) : Ck P h h2 := ⟨B.1.trans A.1, B.2.1.trans A.2.1, fun c hc => ⟨(B.2.2 c hc).1.trans (A.2.2 c hc).1, (B.2.2 c hc).2.trans (A.2.2 c hc).2⟩⟩
theorem Ck.vI (h : sk_H) {a : Nat} (i : Nat) (v : Int32) (ha : P a = true) : Ck P h (wI h a i v) := ⟨rfl, rfl, fun c hc => ⟨hI_wI_n h i v (fun q => by rw [q, ha] at hc; cases hc), rfl⟩⟩
theorem Ck.vR (h : sk_H) {a : Nat} (i : Nat) (v : Option Nat) (ha : P a = true) : Ck P h (wR h a i v) := ⟨rfl, rfl, fun c hc => ⟨rfl, hR_wR_n h i v (fun q => by rw [q, ha] at hc; cases hc)⟩⟩
theorem Ck.kp (A : Ck P h h1) {c : Nat} (hc : P c = false) : Kp h h1 c := ⟨congrFun (congrArg (fun x => x.1) A.1) c, congrFun (congrArg (fun x => x.2.1) A.1) c, (A.2.2 c hc).1, (A.2.2 c hc).2⟩
theorem Ck.eK (A : Ck P h h1) : hK h1 = hK h := congrArg (fun x => x.1) A.1
theorem Ck.eN (A : Ck P h h1) : hN h1 = hN h := congrArg (fun x => x.2.1) A.1
theorem Ck.same (A : Ck P h h1) {c : Nat} (hc : P c = false) : Same h h1 c := ⟨(A.kp hc).1, (A.kp hc).2.1, (A.kp hc).2.2.1, (A.kp hc).2.2.2, fun _ => by rw [A.2.1]⟩
theorem Iq.ck {R : Nat → Nat → Bool} (A : Iq R h h1) (hq : ∀ c, P c = false → ∀ i, R c i = false) : Ck P h h1 := ⟨A.1, A.eJ, fun c hc => ⟨funext fun i => A.I (hq c hc i), by rw [A.eR]⟩⟩
end SkCk
section SkAct
variable {L : Nat} {xs : Nat → Int32} {F G : Nat → Prop} {E : Nat → Option DD} {h h' h1 h2 : sk_H} {j st tu pl st' tu' pl' a b m p k : Nat} {D : DD} {c : Nat → Nat} {d : Nat} {P : Nat → Bool} {sd sd' : Nat → Int32}
theorem Ex_ck (X : sk_Ex L xs 52 h) (A : Ck P h h1) (h16 : P 16 = false) : sk_Ex L xs 52 h1 := by
  obtain ⟨e1, e2, e3, e4, e5⟩ := X
  have k := A.kp h16
  exact ⟨k.1.trans e1, k.2.1.trans e2, k.2.2.1.trans e3, by rw [A.eK]; exact e4, by rw [A.eK]; exact e5⟩
theorem TD.ck (t : TD h D a) (A : Ck P h h1) (p : ∀ c, c ∈ [32, 43, 44, 45, 46, 47, 48] → P c = false) : TD h1 D a := by
  have e := fun c hc => A.2.2 c (p c hc)
  have e32 := e 32 (by decide)
  have e44 := e 44 (by decide)
  have e45 := e 45 (by decide)
  have e46 := e 46 (by decide)
  have e47 := e 47 (by decide)
  have e48 := e 48 (by decide)
  unfold TD TC TFl TI clK TB at t ⊢
  rw [A.2.1, e32.1, e32.2, e44.1, e45.1, e46.1, e47.1, e48.1]
  exact t
theorem JT.ck (T : JT E h) (A : Ck P h h1) (p : ∀ c, c ∈ [32, 43, 44, 45, 46, 47, 48] → P c = false) (r : hR h1 23 0 = hR h 23 0) : JT E h1 := by
  obtain ⟨ta, t1, t2, t3, t4⟩ := T
  exact ⟨ta, by rw [(A.2.2 32 (p 32 (by decide))).2]; exact t1, t2, fun D hD => (t3 D hD).ck A p, fun a ha => t4 a (by rw [← r]; exact ha)⟩
theorem JM.ck (M : JM E h) (A : Ck P h h1) (p : P 63 = false) (r : hR h1 23 0 = hR h 23 0) (x : hI h1 52 23 = hI h 52 23) : JM E h1 := by
  unfold JM MWon at M ⊢
  rw [r, x, (A.2.2 63 p).1]
  exact M
theorem JB.ck (J : JB L xs F E j h st tu pl) (A : Ck P h h1) (p20 : ∀ c, c < 20 → P c = false) (p73 : ∀ c, 73 ≤ c → P c = false) (p : ∀ c, c ∈ [22, 27, 54, 56, 57, 70, 71, 72] → P c = false) (C' : CS h1) (M' : MS 52 h1) (tp : TP h1) (r1 : hI h1 20 3 = hI h 20 3) (r2 : hI h1 52 2 = hI h 52 2) (hpl : pl' ≤ j + 1) (sv : SV F E h1 23 (hI h1 62) st' tu' pl') (x : hI h1 23 4 = hI h1 52 21 ∧ nI 0 ≤ hI h1 52 21) (ac : AC E h1 pl') : JB L xs F E (j + 1) h1 st' tu' pl' := by
  obtain ⟨j1, j2, j3, j4, j5, j6, j7, j8, j9, j10, j11, j12, j13⟩ := J
  have hF : ∀ c, F c → F c ∧ Same h h1 c := fun c hc => ⟨hc, A.same (p73 c (j4.1 c hc))⟩
  have en : hn h1 = hn h := congrArg (fun x => x.2.2.1) A.1
  have es : hs h1 = hs h := congrArg (fun x => x.2.2.2) A.1
  have K : ∀ c, c ∈ [22, 27, 54, 56, 57, 70, 71, 72] → Kp h h1 c := fun c hc => A.kp (p c hc)
  refine ⟨j1.qf (fun c hc => ⟨(A.kp (p20 c hc)).1, (A.kp (p20 c hc)).2.1, (A.kp (p20 c hc)).2.2.1, by rw [A.2.1], (A.kp (p20 c hc)).2.2.2⟩), C', M', ⟨j4.1, fun c hc => by rw [en]; exact j4.2 c hc⟩, by rw [en, es]; omega, tp, ?_, fun a D hD => ⟨(j8 a D hD).1, (j8 a D hD).2.same hF⟩, hpl, sv, x, ac, ?_⟩
  · exact j7.kp r1 r2 (K 22 (by decide)).2.2.2 (K 54 (by decide)).2.2.1 (K 56 (by decide)).2.2.1 (K 57 (by decide)).2.2.1 hF
  · exact j13.kp (by omega) (by omega) (K 27 (by decide)).2.2.2 (K 72 (by decide)).2.2.1 (K 71 (by decide)).2.2.1 (K 70 (by decide)).2.2.1 hF (fun c h1 _ hc => ⟨hc, A.kp (p73 c h1)⟩)
/-- a call that changes a few cells -/
def CG (F : Nat → Prop) (E : Nat → Option DD) (f g : sk_H → Option (sk_H × Int32)) (l : List Nat) (j : Nat) (h : sk_H) : Prop := ∃ h1 h2 v st' tu' pl', f h = some (h1, v) ∧ Ck (cl l) h h1 ∧ g h1 = some (h2, v) ∧ Ck (cl l) h1 h2 ∧ CS h2 ∧ MS 52 h2 ∧ TP h2 ∧ hI h2 20 3 = hI h 20 3 ∧ hI h2 52 2 = hI h 52 2 ∧ pl' ≤ j + 1 ∧ SV F E h2 23 (hI h2 62) st' tu' pl' ∧ (hI h2 23 4 = hI h2 52 21 ∧ nI 0 ≤ hI h2 52 21) ∧ AC E h2 pl' ∧ hR h2 23 0 = hR h 23 0 ∧ hI h2 52 23 = hI h 52 23
theorem Ag_chg {f g : sk_H → Option (sk_H × Int32)} (l : List Nat) (ok : okL l) (H : ∀ j h F E st tu pl, j < 512 → JB L xs F E j h st tu pl → Q0 f g h ∨ CG F E f g l j h) : sk_Ag (JJ L xs) L xs 52 f g := by
  intro j h hj ⟨F, E, st, tu, pl, J, T, M⟩
  rcases H j h F E st tu pl hj J with ⟨v, e1, e2⟩ | ⟨h1, h2, v, st', tu', pl', e1, k1, e2, k2, C', M', tp, r1, r2, hpl, sv, x, ac, r0, x23⟩
  · exact ⟨h, h, v, e1, J.ex, e2, F, E, st, tu, pl, J.s, T, M⟩
  · have A := k1.trans k2
    obtain ⟨o1, o2, o3⟩ := ok
    have sub1 : ∀ c, c ∈ [22, 27, 54, 56, 57, 70, 71, 72] → cl l c = false := fun c hc => o3 c (by revert hc; revert c; decide)
    have sub2 : ∀ c, c ∈ [32, 43, 44, 45, 46, 47, 48] → cl l c = false := fun c hc => o3 c (by revert hc; revert c; decide)
    exact ⟨h1, h2, v, e1, Ex_ck J.ex k1 (o1 16 (by decide)), e2, F, E, st', tu', pl', J.ck A o1 o2 sub1 C' M' tp r1 r2 hpl sv x ac, T.ck A sub2 r0, M.ck A (o3 63 (by decide)) r0 x23⟩
theorem SV.fr (S : SV F E h b sd st tu pl) (k1 : hI h' b 1 = hI h b 1) (k2 : hI h' b 2 = hI h b 2) (k3 : hI h' b 3 = hI h b 3) (r0 : hR h' b 0 = hR h b 0) (a1 : hI h' (b + 1) = hI h (b + 1)) (a2 : hI h' (b + 2) = hI h (b + 2)) (a3 : hR h' (b + 3) = hR h (b + 3)) (hF : ∀ c, F c → Same h h' c) (hs : ∀ k, k < 184 → sd' k = sd k) : SV F E h' b sd' st tu pl := by
  obtain ⟨s0, s1, s2, s3, s4, s5, s6, s7, s8, s9⟩ := S
  refine ⟨fun i hi q hq => ?_, by rw [k1]; exact s1, by rw [k2]; exact s2, by rw [k3]; exact s3, by rw [hs _ (by omega)]; exact s4, by rw [hs _ (by omega)]; exact s5, by rw [hs _ (by omega)]; exact s6, by rw [hs _ (by omega)]; exact s7, s8, ?_⟩
  · rw [a3] at hq
    obtain ⟨f, k⟩ := s0 i hi q hq
    exact ⟨f, by rw [(hF q f).1]; exact k⟩
  · rcases s9 with ⟨q1, q2, q3⟩ | ⟨a, D, q1, q2, qw, q3, q4, q5⟩
    · exact Or.inl ⟨by rw [r0]; exact q1, fun i hi => by rw [hs _ (by omega)]; exact q2 i hi, q3⟩
    · refine Or.inr ⟨a, D, by rw [r0]; exact q1, q2, qw, ?_, q4, fun i hi => (q5 i hi).kp (by rw [a1]) (by rw [a2]) (by rw [a3]) (fun c hc => ⟨hc, hF c hc⟩) (fun k h1 h2 => hs k (by omega))⟩
      obtain ⟨⟨m1, m2, m3⟩, m4, m5, m6, m7, m8⟩ := q3
      refine ⟨⟨by rw [hs _ (by omega)]; exact m1, by rw [hs _ (by omega)]; exact m2, fun r hr => ?_⟩, by rw [hs _ (by omega)]; exact m4, by rw [hs _ (by omega)]; exact m5, by rw [hs _ (by omega)]; exact m6, by rw [hs _ (by omega)]; exact m7, by rw [hs _ (by omega)]; exact m8⟩
      have hr4 := qw.1.2.1
      rw [hs _ (by omega), hs _ (by omega), hs _ (by omega)]
      exact m3 r hr
theorem SV.upd (S : SV F E h b sd st tu pl) (ra : hR h b 0 = some a) (hE : E a = some D) (r0 : hR h' b 0 = hR h b 0) (r3 : ∀ i, i < 40 → ∀ q, hR h' (b + 3) i = some q → F q ∧ hK h' q = 10) (i1 : hI h' b 1 = nI st') (i2 : hI h' b 2 = nI tu') (i3 : hI h' b 3 = nI pl') (s7 : sd' 7 = nI tu') (s8 : sd' 8 = nI st') (s9 : sd' 9 = nI pl') (s10 : sd' 10 = nI (min pl' 40)) (ht : tu' ≤ 1) (hst : st' < 2 ^ aN (dA D)) (hs : ∀ k, k < 24 → (k < 7 ∨ 10 < k) → sd' k = sd k) (hn : ∀ i, i < min pl' 40 → NO F D h' b sd' i) : SV F E h' b sd' st' tu' pl' := by
  obtain ⟨s0, -, -, -, -, -, -, -, -, q9⟩ := S
  rcases q9 with ⟨q1, -⟩ | ⟨a', D', q1, q2, qw, q3, q4, q5⟩
  · rw [q1] at ra; cases ra
  · rw [ra] at q1; cases q1
    rw [hE] at q2; cases q2
    refine ⟨r3, i1, i2, i3, s7, s8, s9, s10, ht, Or.inr ⟨a, D, by rw [r0]; exact ra, hE, qw, ?_, hst, hn⟩⟩
    obtain ⟨⟨m1, m2, m3⟩, m4, m5, m6, m7, m8⟩ := q3
    refine ⟨⟨by rw [hs _ (by omega) (by omega)]; exact m1, by rw [hs _ (by omega) (by omega)]; exact m2, fun r hr => ?_⟩, by rw [hs _ (by omega) (by omega)]; exact m4, by rw [hs _ (by omega) (by omega)]; exact m5, by rw [hs _ (by omega) (by omega)]; exact m6, by rw [hs _ (by omega) (by omega)]; exact m7, by rw [hs _ (by omega) (by omega)]; exact m8⟩
    have hr4 := qw.1.2.1
    rw [hs _ (by omega) (by omega), hs _ (by omega) (by omega), hs _ (by omega) (by omega)]
    exact m3 r hr
theorem SV.r3 (S : SV F E h 23 sd st tu pl) (hF : ∀ c, F c → Same h h' c) (e : hR h' 26 = hR h 26) : ∀ i, i < 40 → ∀ q, hR h' (23 + 3) i = some q → F q ∧ hK h' q = 10 := by
  intro i hi q hq
  have hq2 : hR h (23 + 3) i = some q := by
    have := congrFun e i
    exact this.symm.trans hq
  obtain ⟨f, k⟩ := S.1 i hi q hq2
  exact ⟨f, by rw [(hF q f).1]; exact k⟩
/-- the notes stay -/
theorem SV.no (S : SV F E h 23 sd st tu pl) (ra : hR h 23 0 = some a) (hE : E a = some D) (hF : ∀ c, F c → Same h h' c) (e1 : hI h' 24 = hI h 24) (e2 : hI h' 25 = hI h 25) (e3 : hR h' 26 = hR h 26) (hs : ∀ k, 24 ≤ k → k < 184 → sd' k = sd k) (hpl : pl' ≤ pl) : ∀ i, i < min pl' 40 → NO F D h' 23 sd' i := by
  obtain ⟨s0, -, -, -, -, -, -, -, -, q9⟩ := S
  rcases q9 with ⟨q1, -⟩ | ⟨a', D', q1, q2, qw, q3, q4, q5⟩
  · rw [q1] at ra; cases ra
  · rw [ra] at q1; cases q1
    rw [hE] at q2; cases q2
    exact fun i hi => (q5 i (by omega)).kp (congrFun e1 i) (congrFun e2 i) (congrFun e3 i) (fun c hc => ⟨hc, hF c hc⟩) (fun k h1 h2 => hs k (by omega) (by omega))
theorem q_end (a0 : Int32) : sk_Ag (JJ L xs) L xs 52 (fun h => c_SR_end 40 (some 20) a0 h) (fun h => c_M_end 40 (some 52) a0 h) := by
  refine Ag_chg [20, 52] ⟨by decide, cl73 (by decide), by decide⟩ (fun j h F E st tu pl hj J => ?_)
  have C := J.2.1
  have M := J.2.2.1
  obtain ⟨T, t, t1, t2, t3, t4⟩ := J.2.2.2.2.2.1
  have no : (a0 < nI 0 ∨ ∃ p, p < 2 ^ 31 ∧ T < p ∧ a0 = nI p) → Q0 (fun h => c_SR_end 40 (some 20) a0 h) (fun h => c_M_end 40 (some 52) a0 h) h := by
    rintro (hx | ⟨p, hp, hT, hx⟩)
    · refine ⟨nM, ?_, ?_⟩
      · show c_SR_end 40 (some 20) a0 h = _
        rw [e_SR_end]
        simp only [↓reduceIte, ↓Option.bind_some, if_true, if_false, true_and, and_true, and_self, true_or, or_true, false_or, or_false, not_true_eq_false, not_false_eq_true, Option.bind_some, somene, false_and, and_false, reduceCtorEq, Nat.reduceEqDiff, hx, l0, l1, lm1]
      · show c_M_end 40 (some 52) a0 h = _
        rw [e_M_end]
        simp only [↓reduceIte, ↓Option.bind_some, if_true, if_false, true_and, and_true, and_self, true_or, or_true, false_or, or_false, not_true_eq_false, not_false_eq_true, Option.bind_some, somene, false_and, and_false, reduceCtorEq, Nat.reduceEqDiff, hx, l0, l1, lm1]
    · subst hx
      refine ⟨nM, ?_, ?_⟩
      · show c_SR_end 40 (some 20) (nI p) h = _
        rw [e_SR_end]
        simp (disch := omega) only [↓reduceIte, ↓Option.bind_some, if_true, if_false, true_and, and_true, and_self, true_or, or_true, false_or, or_false, not_true_eq_false, not_false_eq_true, Option.bind_some, somene, false_and, and_false, reduceCtorEq, Nat.reduceEqDiff, C.k20, t2, q_lt_f, q_le_f, l0, l1, lm1]
      · show c_M_end 40 (some 52) (nI p) h = _
        rw [e_M_end]
        simp (disch := omega) only [↓reduceIte, ↓Option.bind_some, if_true, if_false, true_and, and_true, and_self, true_or, or_true, false_or, or_false, not_true_eq_false, not_false_eq_true, Option.bind_some, somene, false_and, and_false, reduceCtorEq, Nat.reduceEqDiff, M.K52, t3, q_lt_f, q_le_f, l0, l1, lm1]
  rcases i_cases a0 with hx | ⟨p, hp, hx⟩
  · exact Or.inl (no (Or.inl hx))
  · rcases Nat.lt_or_ge T p with hT | hT
    · exact Or.inl (no (Or.inr ⟨p, hp, hT, hx⟩))
    · subst hx
      refine Or.inr ⟨wI h 20 1 (nI p), wI (wI h 20 1 (nI p)) 52 1 (nI p), nI p, st, tu, pl, ?_, Ck.vI _ _ _ (by decide), ?_, Ck.vI _ _ _ (by decide), C, M, ?_, ?_, ?_, ?_, ?_, ?_, ?_, rfl, ?_⟩
      · show c_SR_end 40 (some 20) (nI p) h = _
        rw [e_SR_end]
        simp (disch := omega) only [↓reduceIte, ↓Option.bind_some, if_true, if_false, true_and, and_true, and_self, true_or, or_true, false_or, or_false, not_true_eq_false, not_false_eq_true, Option.bind_some, somene, false_and, and_false, reduceCtorEq, Nat.reduceEqDiff, C.k20, t2, q_lt_f, q_le_t, l0, l1, lm1]
      · show c_M_end 40 (some 52) (nI p) _ = _
        rw [e_M_end]
        simp (disch := omega) only [↓reduceIte, ↓Option.bind_some, if_true, if_false, true_and, and_true, and_self, true_or, or_true, false_or, or_false, not_true_eq_false, not_false_eq_true, Option.bind_some, somene, false_and, and_false, reduceCtorEq, Nat.reduceEqDiff, hK_wI, hN_wI, hn_wI, hs_wI, hJ_wI, hR_wI, hK_wJ, hN_wJ, hn_wJ, hs_wJ, hI_wJ, hR_wJ, hK_wR, hN_wR, hn_wR, hs_wR, hI_wR, hJ_wR, M.K52, hI_wI, t3, q_lt_f, q_le_t, l0, l1, lm1]
      · refine ⟨p, t, by omega, ?_, ?_, fun i hi => ?_⟩
        · simp only [hI_wI, ↓reduceIte, ↓Option.bind_some, if_true, if_false, true_and, and_true, and_self, true_or, or_true, false_or, or_false, not_true_eq_false, not_false_eq_true, Option.bind_some, somene, false_and, and_false, reduceCtorEq, Nat.reduceEqDiff]
        · simp only [hI_wI, ↓reduceIte, ↓Option.bind_some, if_true, if_false, true_and, and_true, and_self, true_or, or_true, false_or, or_false, not_true_eq_false, not_false_eq_true, Option.bind_some, somene, false_and, and_false, reduceCtorEq, Nat.reduceEqDiff]
        · simp only [hI_wI, ↓reduceIte, ↓Option.bind_some, if_true, if_false, true_and, and_true, and_self, true_or, or_true, false_or, or_false, not_true_eq_false, not_false_eq_true, Option.bind_some, somene, false_and, and_false, reduceCtorEq, Nat.reduceEqDiff]
          exact t4 i (by omega)
      · simp only [hI_wI, ↓reduceIte, ↓Option.bind_some, if_true, if_false, true_and, and_true, and_self, true_or, or_true, false_or, or_false, not_true_eq_false, not_false_eq_true, Option.bind_some, somene, false_and, and_false, reduceCtorEq, Nat.reduceEqDiff]
      · simp only [hI_wI, ↓reduceIte, ↓Option.bind_some, if_true, if_false, true_and, and_true, and_self, true_or, or_true, false_or, or_false, not_true_eq_false, not_false_eq_true, Option.bind_some, somene, false_and, and_false, reduceCtorEq, Nat.reduceEqDiff]
      · have := J.2.2.2.2.2.2.2.2.1; omega
      · refine J.2.2.2.2.2.2.2.2.2.1.fr ?_ ?_ ?_ rfl ?_ ?_ rfl (fun c hc => ?_) (fun k _ => ?_)
        · simp only [hI_wI, ↓reduceIte, ↓Option.bind_some, if_true, if_false, true_and, and_true, and_self, true_or, or_true, false_or, or_false, not_true_eq_false, not_false_eq_true, Option.bind_some, somene, false_and, and_false, reduceCtorEq, Nat.reduceEqDiff]
        · simp only [hI_wI, ↓reduceIte, ↓Option.bind_some, if_true, if_false, true_and, and_true, and_self, true_or, or_true, false_or, or_false, not_true_eq_false, not_false_eq_true, Option.bind_some, somene, false_and, and_false, reduceCtorEq, Nat.reduceEqDiff]
        · simp only [hI_wI, ↓reduceIte, ↓Option.bind_some, if_true, if_false, true_and, and_true, and_self, true_or, or_true, false_or, or_false, not_true_eq_false, not_false_eq_true, Option.bind_some, somene, false_and, and_false, reduceCtorEq, Nat.reduceEqDiff]
        · rw [hI_wI_n _ _ _ (by decide), hI_wI_n _ _ _ (by decide)]
        · rw [hI_wI_n _ _ _ (by decide), hI_wI_n _ _ _ (by decide)]
        · have := J.2.2.2.1.1 c hc
          refine ⟨rfl, rfl, ?_, rfl, fun _ => rfl⟩
          rw [hI_wI_n _ _ _ (by omega), hI_wI_n _ _ _ (by omega)]
        · simp only [hI_wI, ↓reduceIte, ↓Option.bind_some, if_true, if_false, true_and, and_true, and_self, true_or, or_true, false_or, or_false, not_true_eq_false, not_false_eq_true, Option.bind_some, somene, false_and, and_false, reduceCtorEq, Nat.reduceEqDiff]
      · simp only [hI_wI, ↓reduceIte, ↓Option.bind_some, if_true, if_false, true_and, and_true, and_self, true_or, or_true, false_or, or_false, not_true_eq_false, not_false_eq_true, Option.bind_some, somene, false_and, and_false, reduceCtorEq, Nat.reduceEqDiff]
        exact J.2.2.2.2.2.2.2.2.2.2.1
      · refine J.2.2.2.2.2.2.2.2.2.2.2.1.kp rfl ?_ ?_ ?_ ?_ ?_ ?_
        · rw [hI_wI_n _ _ _ (by decide), hI_wI_n _ _ _ (by decide)]
        · rw [hI_wI_n _ _ _ (by decide), hI_wI_n _ _ _ (by decide)]
        · rw [hI_wI_n _ _ _ (by decide), hI_wI_n _ _ _ (by decide)]
        · rw [hI_wI_n _ _ _ (by decide), hI_wI_n _ _ _ (by decide)]
        · rw [hI_wI_n _ _ _ (by decide), hI_wI_n _ _ _ (by decide)]
        · simp only [hI_wI, ↓reduceIte, ↓Option.bind_some, if_true, if_false, true_and, and_true, and_self, true_or, or_true, false_or, or_false, not_true_eq_false, not_false_eq_true, Option.bind_some, somene, false_and, and_false, reduceCtorEq, Nat.reduceEqDiff]
      · simp only [hI_wI, ↓reduceIte, ↓Option.bind_some, if_true, if_false, true_and, and_true, and_self, true_or, or_true, false_or, or_false, not_true_eq_false, not_false_eq_true, Option.bind_some, somene, false_and, and_false, reduceCtorEq, Nat.reduceEqDiff]
theorem q_seed (a0 : Int32) : sk_Ag (JJ L xs) L xs 52 (fun h => c_SR_seed 40 (some 20) a0 h) (fun h => c_M_seed 40 (some 52) a0 h) := by
  refine Ag_chg [23, 52] ⟨by decide, cl73 (by decide), by decide⟩ (fun j h F E st tu pl hj J => ?_)
  have C := J.2.1
  have M := J.2.2.1
  obtain ⟨x1, x2⟩ := J.2.2.2.2.2.2.2.2.2.2.1
  by_cases hx : nI 0 ≤ a0
  · refine Or.inr ⟨wI h 23 4 a0, wI (wI h 23 4 a0) 52 21 a0, hI h 52 21, st, tu, pl, ?_, Ck.vI _ _ _ (by decide), ?_, Ck.vI _ _ _ (by decide), C, M, ?_, ?_, ?_, ?_, ?_, ?_, ?_, rfl, ?_⟩
    · show c_SR_seed 40 (some 20) a0 h = _
      rw [e_SR_seed]
      simp only [C.k20, C.k21, C.k22, C.k23, C.k24, C.k25, C.k26, C.k27, C.k28, C.k29, C.k30, C.k31, C.k32, C.k43, C.k44, C.k45, C.k46, C.k47, C.k48, C.k49, C.k50, C.k51, C.n21, C.n22, C.n24, C.n25, C.n26, C.n27, C.n29, C.n30, C.n31, C.n43, C.n44, C.n45, C.n46, C.n47, C.n48, C.n51, C.r20_0, C.r20_2, C.r20_4, C.r20_5, C.r20_6, C.r20_7, C.r20_8, C.r23_5, C.r23_6, C.r23_7, C.r28_0, C.r28_1, C.r28_2, C.r32_3, C.r32_4, C.r32_5, C.r32_6, C.r32_7, C.r32_8, C.r49_0, C.r50_0, ↓bnd C.r20_0, ↓bnd C.r20_2, ↓bnd C.r20_4, ↓bnd C.r20_5, ↓bnd C.r20_6, ↓bnd C.r20_7, ↓bnd C.r20_8, ↓bnd C.r23_5, ↓bnd C.r23_6, ↓bnd C.r23_7, ↓bnd C.r28_0, ↓bnd C.r28_1, ↓bnd C.r28_2, ↓bnd C.r32_3, ↓bnd C.r32_4, ↓bnd C.r32_5, ↓bnd C.r32_6, ↓bnd C.r32_7, ↓bnd C.r32_8, ↓bnd C.r49_0, ↓bnd C.r50_0, ↓reduceIte, ↓Option.bind_some, if_true, if_false, true_and, and_true, and_self, true_or, or_true, false_or, or_false, not_true_eq_false, not_false_eq_true, Option.bind_some, somene, false_and, and_false, reduceCtorEq, Nat.reduceEqDiff, hx, l0, x1]
    · show c_M_seed 40 (some 52) a0 _ = _
      rw [e_M_seed]
      simp only [↓reduceIte, ↓Option.bind_some, if_true, if_false, true_and, and_true, and_self, true_or, or_true, false_or, or_false, not_true_eq_false, not_false_eq_true, Option.bind_some, somene, false_and, and_false, reduceCtorEq, Nat.reduceEqDiff, hK_wI, hN_wI, hn_wI, hs_wI, hJ_wI, hR_wI, hK_wJ, hN_wJ, hn_wJ, hs_wJ, hI_wJ, hR_wJ, hK_wR, hN_wR, hn_wR, hs_wR, hI_wR, hJ_wR, M.K52, hI_wI, hx, l0]
    · refine J.2.2.2.2.2.1.kp ?_ ?_ ?_ ?_
      · simp only [hI_wI, ↓reduceIte, ↓Option.bind_some, if_true, if_false, true_and, and_true, and_self, true_or, or_true, false_or, or_false, not_true_eq_false, not_false_eq_true, Option.bind_some, somene, false_and, and_false, reduceCtorEq, Nat.reduceEqDiff]
      · simp only [hI_wI, ↓reduceIte, ↓Option.bind_some, if_true, if_false, true_and, and_true, and_self, true_or, or_true, false_or, or_false, not_true_eq_false, not_false_eq_true, Option.bind_some, somene, false_and, and_false, reduceCtorEq, Nat.reduceEqDiff]
      · rw [hI_wI_n _ _ _ (by decide), hI_wI_n _ _ _ (by decide)]
      · rw [hI_wI_n _ _ _ (by decide), hI_wI_n _ _ _ (by decide)]
    · simp only [hI_wI, ↓reduceIte, ↓Option.bind_some, if_true, if_false, true_and, and_true, and_self, true_or, or_true, false_or, or_false, not_true_eq_false, not_false_eq_true, Option.bind_some, somene, false_and, and_false, reduceCtorEq, Nat.reduceEqDiff]
    · simp only [hI_wI, ↓reduceIte, ↓Option.bind_some, if_true, if_false, true_and, and_true, and_self, true_or, or_true, false_or, or_false, not_true_eq_false, not_false_eq_true, Option.bind_some, somene, false_and, and_false, reduceCtorEq, Nat.reduceEqDiff]
    · have := J.2.2.2.2.2.2.2.2.1; omega
    · refine J.2.2.2.2.2.2.2.2.2.1.fr ?_ ?_ ?_ rfl ?_ ?_ rfl (fun c hc => ?_) (fun k _ => ?_)
      · simp only [hI_wI, ↓reduceIte, ↓Option.bind_some, if_true, if_false, true_and, and_true, and_self, true_or, or_true, false_or, or_false, not_true_eq_false, not_false_eq_true, Option.bind_some, somene, false_and, and_false, reduceCtorEq, Nat.reduceEqDiff]
      · simp only [hI_wI, ↓reduceIte, ↓Option.bind_some, if_true, if_false, true_and, and_true, and_self, true_or, or_true, false_or, or_false, not_true_eq_false, not_false_eq_true, Option.bind_some, somene, false_and, and_false, reduceCtorEq, Nat.reduceEqDiff]
      · simp only [hI_wI, ↓reduceIte, ↓Option.bind_some, if_true, if_false, true_and, and_true, and_self, true_or, or_true, false_or, or_false, not_true_eq_false, not_false_eq_true, Option.bind_some, somene, false_and, and_false, reduceCtorEq, Nat.reduceEqDiff]
      · rw [hI_wI_n _ _ _ (by decide), hI_wI_n _ _ _ (by decide)]
      · rw [hI_wI_n _ _ _ (by decide), hI_wI_n _ _ _ (by decide)]
      · have := J.2.2.2.1.1 c hc
        refine ⟨rfl, rfl, ?_, rfl, fun _ => rfl⟩
        rw [hI_wI_n _ _ _ (by omega), hI_wI_n _ _ _ (by omega)]
      · simp only [hI_wI, ↓reduceIte, ↓Option.bind_some, if_true, if_false, true_and, and_true, and_self, true_or, or_true, false_or, or_false, not_true_eq_false, not_false_eq_true, Option.bind_some, somene, false_and, and_false, reduceCtorEq, Nat.reduceEqDiff]
    · refine ⟨?_, ?_⟩
      · simp only [hI_wI, ↓reduceIte, ↓Option.bind_some, if_true, if_false, true_and, and_true, and_self, true_or, or_true, false_or, or_false, not_true_eq_false, not_false_eq_true, Option.bind_some, somene, false_and, and_false, reduceCtorEq, Nat.reduceEqDiff]
      · simp only [hI_wI, ↓reduceIte, ↓Option.bind_some, if_true, if_false, true_and, and_true, and_self, true_or, or_true, false_or, or_false, not_true_eq_false, not_false_eq_true, Option.bind_some, somene, false_and, and_false, reduceCtorEq, Nat.reduceEqDiff]
        exact hx
    · refine J.2.2.2.2.2.2.2.2.2.2.2.1.kp rfl ?_ ?_ ?_ ?_ ?_ ?_
      · rw [hI_wI_n _ _ _ (by decide), hI_wI_n _ _ _ (by decide)]
      · rw [hI_wI_n _ _ _ (by decide), hI_wI_n _ _ _ (by decide)]
      · rw [hI_wI_n _ _ _ (by decide), hI_wI_n _ _ _ (by decide)]
      · rw [hI_wI_n _ _ _ (by decide), hI_wI_n _ _ _ (by decide)]
      · rw [hI_wI_n _ _ _ (by decide), hI_wI_n _ _ _ (by decide)]
      · simp only [hI_wI, ↓reduceIte, ↓Option.bind_some, if_true, if_false, true_and, and_true, and_self, true_or, or_true, false_or, or_false, not_true_eq_false, not_false_eq_true, Option.bind_some, somene, false_and, and_false, reduceCtorEq, Nat.reduceEqDiff]
    · simp only [hI_wI, ↓reduceIte, ↓Option.bind_some, if_true, if_false, true_and, and_true, and_self, true_or, or_true, false_or, or_false, not_true_eq_false, not_false_eq_true, Option.bind_some, somene, false_and, and_false, reduceCtorEq, Nat.reduceEqDiff]
  · refine Or.inl ⟨nM, ?_, ?_⟩
    · show c_SR_seed 40 (some 20) a0 h = _
      rw [e_SR_seed]
      simp only [↓reduceIte, ↓Option.bind_some, if_true, if_false, true_and, and_true, and_self, true_or, or_true, false_or, or_false, not_true_eq_false, not_false_eq_true, Option.bind_some, somene, false_and, and_false, reduceCtorEq, Nat.reduceEqDiff, hx, l0, l1, lm1]
    · show c_M_seed 40 (some 52) a0 h = _
      rw [e_M_seed]
      simp only [↓reduceIte, ↓Option.bind_some, if_true, if_false, true_and, and_true, and_self, true_or, or_true, false_or, or_false, not_true_eq_false, not_false_eq_true, Option.bind_some, somene, false_and, and_false, reduceCtorEq, Nat.reduceEqDiff, hx, l0, l1, lm1]
/-! keeping an act -/
theorem Ac_keep_ok {nx kp : Nat} (C : CS h) (i3 : hI h 28 3 = nI nx) (hnx : nx < 20) (i4 : hI h 28 4 = nI kp) (hkp : kp ≤ 20) : c_Ac_keep d (some 28) (some 23) h = some (wI (wI (wI (wI (wI h 29 nx (hI h 23 1)) 30 nx (hI h 23 2)) 31 nx (hI h 23 3)) 28 3 (nI ((nx + 1) % 20))) 28 4 (nI (min (kp + 1) 20))) := by
  have m : (if nI 20 < nI (kp + 1) then nI 20 else nI (kp + 1)) = nI (min (kp + 1) 20) := by
    by_cases q : kp + 1 ≤ 20
    · rw [if_neg (nI_nlt q (by omega)), Nat.min_eq_left q]
    · rw [if_pos (nI_lt (by omega) (by omega)), Nat.min_eq_right (by omega)]
  rw [e_Ac_keep]
  simp (disch := omega) only [C.k20, C.k21, C.k22, C.k23, C.k24, C.k25, C.k26, C.k27, C.k28, C.k29, C.k30, C.k31, C.k32, C.k43, C.k44, C.k45, C.k46, C.k47, C.k48, C.k49, C.k50, C.k51, C.n21, C.n22, C.n24, C.n25, C.n26, C.n27, C.n29, C.n30, C.n31, C.n43, C.n44, C.n45, C.n46, C.n47, C.n48, C.n51, C.r20_0, C.r20_2, C.r20_4, C.r20_5, C.r20_6, C.r20_7, C.r20_8, C.r23_5, C.r23_6, C.r23_7, C.r28_0, C.r28_1, C.r28_2, C.r32_3, C.r32_4, C.r32_5, C.r32_6, C.r32_7, C.r32_8, C.r49_0, C.r50_0, ↓bnd C.r20_0, ↓bnd C.r20_2, ↓bnd C.r20_4, ↓bnd C.r20_5, ↓bnd C.r20_6, ↓bnd C.r20_7, ↓bnd C.r20_8, ↓bnd C.r23_5, ↓bnd C.r23_6, ↓bnd C.r23_7, ↓bnd C.r28_0, ↓bnd C.r28_1, ↓bnd C.r28_2, ↓bnd C.r32_3, ↓bnd C.r32_4, ↓bnd C.r32_5, ↓bnd C.r32_6, ↓bnd C.r32_7, ↓bnd C.r32_8, ↓bnd C.r49_0, ↓bnd C.r50_0, ↓reduceIte, ↓Option.bind_some, if_true, if_false, true_and, and_true, and_self, true_or, or_true, false_or, or_false, not_true_eq_false, not_false_eq_true, Option.bind_some, somene, false_and, and_false, reduceCtorEq, Nat.reduceEqDiff, hK_wI, hN_wI, hn_wI, hs_wI, hJ_wI, hR_wI, hK_wJ, hN_wJ, hn_wJ, hs_wJ, hI_wJ, hR_wJ, hK_wR, hN_wR, hn_wR, hs_wR, hI_wR, hJ_wR, hI_wI, i3, i4, l20, l1, l0, q_in, q_cl, nI_add, q_rem, q_eq_f, m]
def PK (a i : Nat) : Bool := a == 64 || (a == 52 && i == 25)
theorem M_k49_s {u : Nat} (M : MS 52 h) (i25 : hI h 52 25 = nI u) (hu : u < 20) (hk : k < 4) : k_M_keepsAct_49 d (some 52) (nI k) h = k_M_keepsAct_49 d (some 52) (nI (k + 1)) (wI h 64 (4 * u + k) (hI h 62 (7 + k))) := by
  rw [e_M_keepsAct_49]
  simp (disch := omega) only [M.K52, M.R0, M.R3, M.R4, M.R5, M.R6, M.R7, M.R15, M.R17, M.R19, M.R20, M.R22, M.R24, M.R26, M.R27, M.R28, M.R29, M.R30, M.R37, M.R38, M.R39, ↓bnd M.R0, ↓bnd M.R3, ↓bnd M.R4, ↓bnd M.R5, ↓bnd M.R6, ↓bnd M.R7, ↓bnd M.R15, ↓bnd M.R17, ↓bnd M.R19, ↓bnd M.R20, ↓bnd M.R22, ↓bnd M.R24, ↓bnd M.R26, ↓bnd M.R27, ↓bnd M.R28, ↓bnd M.R29, ↓bnd M.R30, ↓bnd M.R37, ↓bnd M.R38, ↓bnd M.R39, M.K53, M.K54, M.K55, M.K56, M.K57, M.K58, M.K59, M.K60, M.K61, M.K62, M.K63, M.K64, M.K65, M.K66, M.K67, M.K68, M.K69, M.K70, M.K71, M.K72, M.N53, M.N54, M.N55, M.N56, M.N57, M.N58, M.N59, M.N60, M.N61, M.N62, M.N63, M.N64, M.N65, M.N66, M.N67, M.N68, M.N69, M.N70, M.N71, M.N72, ↓reduceIte, ↓Option.bind_some, if_true, if_false, true_and, and_true, and_self, true_or, or_true, false_or, or_false, not_true_eq_false, not_false_eq_true, Option.bind_some, somene, false_and, and_false, reduceCtorEq, Nat.reduceEqDiff, i25, l4, l7, l1, pk_mul, nI_add, q_le_f, q_in, q_cl]
theorem M_k49 {u : Nat} (M : MS 52 h) (i25 : hI h 52 25 = nI u) (hu : u < 20) : ∃ h', k_M_keepsAct_49 d (some 52) (nI 0) h = some h' ∧ Iq PK h h' ∧ hI h' 52 25 = nI (u + 1) ∧ (∀ i, i < 4 * u → hI h' 64 i = hI h 64 i) ∧ ∀ k, k < 4 → hI h' 64 (4 * u + k) = hI h 62 (7 + k) := by
  refine ⟨wI (wI (wI (wI (wI h 64 (4 * u + 0) (hI h 62 (7 + 0))) 64 (4 * u + 1) (hI h 62 (7 + 1))) 64 (4 * u + 2) (hI h 62 (7 + 2))) 64 (4 * u + 3) (hI h 62 (7 + 3))) 52 25 (nI (u + 1)), ?_, ?_, ?_, fun i hi => ?_, fun k hk => ?_⟩
  · rw [M_k49_s M i25 hu (k := 0) (by omega)]
    have i1 : hI (wI h 64 (4 * u + 0) (hI h 62 (7 + 0))) 52 25 = nI u := by rw [hI_wI_n _ _ _ (by decide)]; exact i25
    rw [M_k49_s (h := wI h 64 (4 * u + 0) (hI h 62 (7 + 0))) M i1 hu (k := 1) (by omega), hI_wI_n _ _ _ (by decide)]
    have i2 : hI (wI (wI h 64 (4 * u + 0) (hI h 62 (7 + 0))) 64 (4 * u + 1) (hI h 62 (7 + 1))) 52 25 = nI u := by rw [hI_wI_n _ _ _ (by decide)]; exact i1
    rw [M_k49_s (h := wI (wI h 64 (4 * u + 0) (hI h 62 (7 + 0))) 64 (4 * u + 1) (hI h 62 (7 + 1))) M i2 hu (k := 2) (by omega), hI_wI_n _ _ _ (by decide), hI_wI_n _ _ _ (by decide)]
    have i3 : hI (wI (wI (wI h 64 (4 * u + 0) (hI h 62 (7 + 0))) 64 (4 * u + 1) (hI h 62 (7 + 1))) 64 (4 * u + 2) (hI h 62 (7 + 2))) 52 25 = nI u := by rw [hI_wI_n _ _ _ (by decide)]; exact i2
    rw [M_k49_s (h := wI (wI (wI h 64 (4 * u + 0) (hI h 62 (7 + 0))) 64 (4 * u + 1) (hI h 62 (7 + 1))) 64 (4 * u + 2) (hI h 62 (7 + 2))) M i3 hu (k := 3) (by omega), hI_wI_n _ _ _ (by decide), hI_wI_n _ _ _ (by decide), hI_wI_n _ _ _ (by decide)]
    rw [e_M_keepsAct_49]
    have i4 : hI (wI (wI (wI (wI h 64 (4 * u + 0) (hI h 62 (7 + 0))) 64 (4 * u + 1) (hI h 62 (7 + 1))) 64 (4 * u + 2) (hI h 62 (7 + 2))) 64 (4 * u + 3) (hI h 62 (7 + 3))) 52 25 = nI u := by rw [hI_wI_n _ _ _ (by decide)]; exact i3
    rw [i4]
    simp (disch := omega) only [↓reduceIte, ↓Option.bind_some, if_true, if_false, true_and, and_true, and_self, true_or, or_true, false_or, or_false, not_true_eq_false, not_false_eq_true, Option.bind_some, somene, false_and, and_false, reduceCtorEq, Nat.reduceEqDiff, hK_wI, hN_wI, hn_wI, hs_wI, hJ_wI, hR_wI, hK_wJ, hN_wJ, hn_wJ, hs_wJ, hI_wJ, hR_wJ, hK_wR, hN_wR, hn_wR, hs_wR, hI_wR, hJ_wR, M.K52, l4, l1, nI_add, q_le_t]
  · exact ((((Iq.w _ _ rfl).trans (Iq.w _ _ rfl)).trans (Iq.w _ _ rfl)).trans (Iq.w _ _ rfl)).trans (Iq.w _ _ rfl)
  · simp only [hI_wI, ↓reduceIte, ↓Option.bind_some, if_true, if_false, true_and, and_true, and_self, true_or, or_true, false_or, or_false, not_true_eq_false, not_false_eq_true, Option.bind_some, somene, false_and, and_false, reduceCtorEq, Nat.reduceEqDiff]
  · have n0 : ¬ i = 4 * u + 0 := by omega
    have n1 : ¬ i = 4 * u + 1 := by omega
    have n2 : ¬ i = 4 * u + 2 := by omega
    have n3 : ¬ i = 4 * u + 3 := by omega
    simp only [hI_wI, ↓reduceIte, ↓Option.bind_some, if_true, if_false, true_and, and_true, and_self, true_or, or_true, false_or, or_false, not_true_eq_false, not_false_eq_true, Option.bind_some, somene, false_and, and_false, reduceCtorEq, Nat.reduceEqDiff, n0, n1, n2, n3]
  · rcases (show k = 0 ∨ k = 1 ∨ k = 2 ∨ k = 3 by omega) with rfl | rfl | rfl | rfl
    all_goals
      simp only [hI_wI, ↓reduceIte, ↓Option.bind_some, if_true, if_false, true_and, and_true, and_self, true_or, or_true, false_or, or_false, not_true_eq_false, not_false_eq_true, Option.bind_some, somene, false_and, and_false, reduceCtorEq, Nat.reduceEqDiff, Nat.add_left_cancel_iff]
theorem M_k11 : ∀ (n x : Nat) (h : sk_H), x + n = 80 → 4 ≤ x → MS 52 h → hI h 52 25 = nI 20 → ∃ h', k_M_keepsAct_11 d (some 52) (nI x) h = k_M_keepsAct_49 d (some 52) (nI 0) (wI h' 52 25 (nI 19)) ∧ Iq PK h h' ∧ ∀ i, hI h' 64 i = if x - 4 ≤ i ∧ i < 76 then hI h 64 (i + 4) else hI h 64 i
  | 0, x, h, hx, h4, M, i25 => by
    refine ⟨h, ?_, Iq.refl h, fun i => ?_⟩
    · rw [e_M_keepsAct_11]
      have e80 : (80 : Int32) = nI 80 := rfl
      simp (disch := omega) only [↓reduceIte, ↓Option.bind_some, if_true, if_false, true_and, and_true, and_self, true_or, or_true, false_or, or_false, not_true_eq_false, not_false_eq_true, Option.bind_some, somene, false_and, and_false, reduceCtorEq, Nat.reduceEqDiff, M.K52, e80, i25, l1, l0, q_le_t, q_sub]
    · rw [if_neg (by omega)]
  | n + 1, x, h, hx, h4, M, i25 => by
    obtain ⟨h', e1, e2, e3⟩ := M_k11 n (x + 1) (wI h 64 (x - 4) (hI h 64 x)) (by omega) (by omega) M (by rw [hI_wI_n _ _ _ (by decide)]; exact i25)
    refine ⟨h', ?_, (Iq.w _ _ rfl).trans e2, fun i => ?_⟩
    · rw [← e1, e_M_keepsAct_11]
      have e80 : (80 : Int32) = nI 80 := rfl
      simp (disch := omega) only [M.K52, M.R0, M.R3, M.R4, M.R5, M.R6, M.R7, M.R15, M.R17, M.R19, M.R20, M.R22, M.R24, M.R26, M.R27, M.R28, M.R29, M.R30, M.R37, M.R38, M.R39, ↓bnd M.R0, ↓bnd M.R3, ↓bnd M.R4, ↓bnd M.R5, ↓bnd M.R6, ↓bnd M.R7, ↓bnd M.R15, ↓bnd M.R17, ↓bnd M.R19, ↓bnd M.R20, ↓bnd M.R22, ↓bnd M.R24, ↓bnd M.R26, ↓bnd M.R27, ↓bnd M.R28, ↓bnd M.R29, ↓bnd M.R30, ↓bnd M.R37, ↓bnd M.R38, ↓bnd M.R39, M.K53, M.K54, M.K55, M.K56, M.K57, M.K58, M.K59, M.K60, M.K61, M.K62, M.K63, M.K64, M.K65, M.K66, M.K67, M.K68, M.K69, M.K70, M.K71, M.K72, M.N53, M.N54, M.N55, M.N56, M.N57, M.N58, M.N59, M.N60, M.N61, M.N62, M.N63, M.N64, M.N65, M.N66, M.N67, M.N68, M.N69, M.N70, M.N71, M.N72, ↓reduceIte, ↓Option.bind_some, if_true, if_false, true_and, and_true, and_self, true_or, or_true, false_or, or_false, not_true_eq_false, not_false_eq_true, Option.bind_some, somene, false_and, and_false, reduceCtorEq, Nat.reduceEqDiff, e80, l4, l1, nI_add, q_le_f, q_in, q_cl, q_sub]
    · rw [e3, hI_wI, hI_wI]
      by_cases q1 : x - 4 ≤ i ∧ i < 76
      · rw [if_pos q1]
        by_cases q2 : i = x - 4
        · rw [if_neg (by omega), if_pos ⟨rfl, q2⟩, q2, show x - 4 + 4 = x by omega]
        · rw [if_pos (by omega), if_neg (by omega)]
      · rw [if_neg q1, if_neg (by omega), if_neg (by omega)]
theorem M_keepsAct_ok {kp : Nat} (M : MS 52 h) (i25 : hI h 52 25 = nI kp) (hkp : kp ≤ 20) : ∃ s kp' h', ((s = 0 ∧ kp' = kp + 1 ∧ kp < 20) ∨ (s = 1 ∧ kp = 20 ∧ kp' = 20)) ∧ c_M_keepsAct d (some 52) h = some h' ∧ Iq PK h h' ∧ hI h' 52 25 = nI kp' ∧ (∀ i k, i + 1 < kp' → k < 4 → hI h' 64 (4 * i + k) = hI h 64 (4 * (i + s) + k)) ∧ ∀ k, k < 4 → hI h' 64 (4 * (kp' - 1) + k) = hI h 62 (7 + k) := by
  rcases Nat.lt_or_ge kp 20 with q | q
  · obtain ⟨h', e1, e2, e3, e4, e5⟩ := M_k49 (d := d) M i25 q
    refine ⟨0, kp + 1, h', Or.inl ⟨rfl, rfl, q⟩, ?_, e2, e3, fun i k hi hk => ?_, fun k hk => ?_⟩
    · rw [← e1, e_M_keepsAct]
      simp (disch := omega) only [↓reduceIte, ↓Option.bind_some, if_true, if_false, true_and, and_true, and_self, true_or, or_true, false_or, or_false, not_true_eq_false, not_false_eq_true, Option.bind_some, somene, false_and, and_false, reduceCtorEq, Nat.reduceEqDiff, M.K52, i25, l20, l0, q_eq_f]
    · rw [e4 _ (by omega), Nat.add_zero]
    · rw [show kp + 1 - 1 = kp by omega]; exact e5 k hk
  · have hk20 : kp = 20 := by omega
    subst hk20
    obtain ⟨h0, f1, f2, f3⟩ := M_k11 (d := d) 76 4 h (by omega) (by omega) M i25
    have M0 : MS 52 (wI h0 52 25 (nI 19)) := by
      refine ⟨by rw [hK_wI, f2.eK]; exact M.1, fun k hk => by rw [hR_wI, f2.eR]; exact M.2.1 k hk, fun k h1 h2 => by rw [hK_wI, hN_wI, f2.eK, f2.eN]; exact M.2.2 k h1 h2⟩
    obtain ⟨h', e1, e2, e3, e4, e5⟩ := M_k49 (d := d) (u := 19) M0 (by simp only [hI_wI, ↓reduceIte, ↓Option.bind_some, if_true, if_false, true_and, and_true, and_self, true_or, or_true, false_or, or_false, not_true_eq_false, not_false_eq_true, Option.bind_some, somene, false_and, and_false, reduceCtorEq, Nat.reduceEqDiff]) (by omega)
    refine ⟨1, 20, h', Or.inr ⟨rfl, rfl, rfl⟩, ?_, (f2.trans (Iq.w _ _ rfl)).trans e2, e3, fun i k hi hk => ?_, fun k hk => ?_⟩
    · rw [← e1, ← f1, e_M_keepsAct]
      simp (disch := omega) only [↓reduceIte, ↓Option.bind_some, if_true, if_false, true_and, and_true, and_self, true_or, or_true, false_or, or_false, not_true_eq_false, not_false_eq_true, Option.bind_some, somene, false_and, and_false, reduceCtorEq, Nat.reduceEqDiff, M.K52, i25, l20, l0, l4]
    · rw [e4 _ (by omega), hI_wI_n _ _ _ (by decide), f3, if_pos (by omega)]
      congr 1
      omega
    · have := e5 k hk
      rw [hI_wI_n _ _ _ (by decide), f2.I rfl] at this
      exact this
/-- the acts after one more -/
theorem AC_keep {nx kp kp' s : Nat} {f : Nat → Nat × Nat × Nat} (hnx : nx < 20) (hkp : kp ≤ 20) (fa : ∀ i, i < kp → (f i).2.1 ≤ 1 ∧ (f i).2.2 ≤ pl ∧ (∀ a D, hR h 23 0 = some a → E a = some D → (f i).1 < 2 ^ aN (dA D)) ∧ hI h 29 ((nx + 20 - kp + i) % 20) = nI (f i).1 ∧ hI h 30 ((nx + 20 - kp + i) % 20) = nI (f i).2.1 ∧ hI h 31 ((nx + 20 - kp + i) % 20) = nI (f i).2.2 ∧ hI h 64 (4 * i) = nI (f i).2.1 ∧ hI h 64 (4 * i + 1) = nI (f i).1 ∧ hI h 64 (4 * i + 2) = nI (f i).2.2 ∧ hI h 64 (4 * i + 3) = nI (min (f i).2.2 40)) (fm : ∀ i k, i ≤ k → k < kp → (f i).2.2 ≤ (f k).2.2) (hs : (s = 0 ∧ kp' = kp + 1 ∧ kp < 20) ∨ (s = 1 ∧ kp = 20 ∧ kp' = 20)) (r0 : hR h' 23 0 = hR h 23 0) (ra : hR h 23 0 = some a) (hE : E a = some D) (hst : st < 2 ^ aN (dA D)) (ht : tu ≤ 1) (hpl : pl ≤ pl') (c3 : hI h' 28 3 = nI ((nx + 1) % 20)) (c4 : hI h' 28 4 = nI kp') (c29 : ∀ i, hI h' 29 i = if i = nx then nI st else hI h 29 i) (c30 : ∀ i, hI h' 30 i = if i = nx then nI tu else hI h 30 i) (c31 : ∀ i, hI h' 31 i = if i = nx then nI pl else hI h 31 i) (m25 : hI h' 52 25 = nI kp') (ma : ∀ i k, i + 1 < kp' → k < 4 → hI h' 64 (4 * i + k) = hI h 64 (4 * (i + s) + k)) (m0 : hI h' 64 (4 * (kp' - 1) + 0) = nI tu) (m1 : hI h' 64 (4 * (kp' - 1) + 1) = nI st) (m2 : hI h' 64 (4 * (kp' - 1) + 2) = nI pl) (m3 : hI h' 64 (4 * (kp' - 1) + 3) = nI (min pl 40)) : AC E h' pl' := by
  refine ⟨(nx + 1) % 20, kp', fun i => if i + 1 < kp' then f (i + s) else (st, tu, pl), by omega, by omega, c3, c4, m25, (fun q => by rw [r0, ra] at q; cases q), fun i hi => ?_, fun i k hik hk => ?_⟩
  · by_cases q : i + 1 < kp'
    · obtain ⟨g1, g2, g3, g4, g5, g6, g7, g8, g9, g10⟩ := fa (i + s) (by omega)
      have ei : ((nx + 1) % 20 + 20 - kp' + i) % 20 = (nx + 20 - kp + (i + s)) % 20 := by omega
      have en : ¬ (nx + 20 - kp + (i + s)) % 20 = nx := by omega
      have b0 := ma i 0 q (by omega)
      have b1 := ma i 1 q (by omega)
      have b2 := ma i 2 q (by omega)
      have b3 := ma i 3 q (by omega)
      simp only [if_pos q, ei, c29, c30, c31, en, if_false]
      refine ⟨g1, by omega, fun a D h1 h2 => g3 a D (by rw [← r0]; exact h1) h2, g4, g5, g6, b0.trans g7, b1.trans g8, b2.trans g9, b3.trans g10⟩
    · have e1 : i = kp' - 1 := by omega
      have ei : ((nx + 1) % 20 + 20 - kp' + i) % 20 = nx := by omega
      simp only [if_neg q, ei, c29, c30, c31, if_true]
      subst e1
      refine ⟨ht, hpl, fun a' D' h1 h2 => ?_, trivial, trivial, trivial, m0, m1, m2, m3⟩
      rw [r0, ra] at h1; cases h1
      rw [hE] at h2; cases h2
      exact hst
  · by_cases q : k + 1 < kp'
    · have q2 : i + 1 < kp' := by omega
      simp only [if_pos q, if_pos q2]
      exact fm _ _ (by omega) (by omega)
    · by_cases q2 : i + 1 < kp'
      · simp only [if_neg q, if_pos q2]
        exact (fa _ (by omega)).2.1
      · simp only [if_neg q, if_neg q2]
        exact Nat.le_refl _
end SkAct
