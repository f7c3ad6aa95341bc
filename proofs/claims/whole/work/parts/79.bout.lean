/-! ===== a play, played out ===== -/
def bk (f : Nat → Bool) : Nat → Nat
  | 0 => 0
  | n + 1 => bk f n + (if f n = true then 1 else 0)
theorem bk_le (f : Nat → Bool) : ∀ n, bk f n ≤ n
  | 0 => Nat.le_refl 0
  | n + 1 => by
    have := bk_le f n
    unfold bk
    split <;> omega
theorem bk_mono {f g : Nat → Bool} (h : ∀ i, g i = true → f i = true) : ∀ n, bk g n ≤ bk f n
  | 0 => Nat.le_refl 0
  | n + 1 => by
    have e := bk_mono h n
    have e2 := h n
    unfold bk
    cases hg : g n
    · rw [if_neg (by decide)]; omega
    · rw [if_pos rfl, if_pos (e2 hg)]; omega
theorem bk_lt {f g : Nat → Bool} (h : ∀ i, g i = true → f i = true) : ∀ n, (∃ j, j < n ∧ f j = true ∧ g j = false) → bk g n < bk f n
  | 0, ⟨j, hj, _⟩ => absurd hj (by omega)
  | n + 1, ⟨j, hj, e1, e2⟩ => by
    have m := bk_mono h n
    unfold bk
    by_cases hq : j = n
    · subst hq
      rw [e1, e2, if_pos rfl, if_neg (by decide)]; omega
    · have e := bk_lt h n ⟨j, by omega, e1, e2⟩
      have e3 := h n
      cases hg : g n
      · rw [if_neg (by decide)]; omega
      · rw [if_pos rfl, if_pos (e3 hg)]; omega
def pick (D : DD) (r : Option RT) (st tu pl X : Nat) : Option (Nat × Nat) := match r with
  | none => drw (aL (dA D) (dH D) (dE D) st) X
  | some R => (best D R st tu pl).map Prod.fst
def nxX (r : Option RT) (X : Nat) : Nat := match r with
  | none => lcg X
  | some _ => X
def pld (D : DD) (r0 r1 : Option RT) : Nat → Nat → Nat → Nat → Nat → Nat × Nat × Nat
  | 0, _, tu, _, X => (0, tu, X)
  | f + 1, st, tu, pl, X => match pick D (if tu = 0 then r0 else r1) st tu pl X with
    | none => (0, tu, X)
    | some y => ((pld D r0 r1 f (aT (dA D) st y) (1 - tu) (pl + 1) (nxX (if tu = 0 then r0 else r1) X)).1 + 1, (pld D r0 r1 f (aT (dA D) st y) (1 - tu) (pl + 1) (nxX (if tu = 0 then r0 else r1) X)).2)
section SkBout
variable {F G : Nat → Prop} {h h' h1 h2 : sk_H} {a m n i s k x st tu pl ra f X : Nat} {d : Nat} {R : RT} {D : DD} {c : Nat → Nat} {r r0 r1 : Option RT} {y : Nat × Nat}
theorem pld_none (e : pick D (if tu = 0 then r0 else r1) st tu pl X = none) : pld D r0 r1 f st tu pl X = (0, tu, X) := by
  cases f with
  | zero => rfl
  | succ f => unfold pld; rw [e]
theorem pld_some (e : pick D (if tu = 0 then r0 else r1) st tu pl X = some y) : pld D r0 r1 (f + 1) st tu pl X = ((pld D r0 r1 f (aT (dA D) st y) (1 - tu) (pl + 1) (nxX (if tu = 0 then r0 else r1) X)).1 + 1, (pld D r0 r1 f (aT (dA D) st y) (1 - tu) (pl + 1) (nxX (if tu = 0 then r0 else r1) X)).2) := by
  show (match pick D (if tu = 0 then r0 else r1) st tu pl X with | none => _ | some y => _) = _
  rw [e]
theorem bs_mem : ∀ (l : List (Nat × Nat)) (o : Option ((Nat × Nat) × Int64)) (z : (Nat × Nat) × Int64), l.foldl (bsG D R st tu pl) o = some z → z.1 ∈ l ∨ o = some z
  | [], o, z, e => Or.inr e
  | x :: l, o, z, e => by
    rw [List.foldl_cons] at e
    rcases bs_mem l _ z e with q | q
    · exact Or.inl (List.mem_cons_of_mem _ q)
    · cases o with
      | none =>
        have q : some (x, rval R (wvF D st tu pl x)) = some z := q
        cases q
        exact Or.inl (List.mem_cons_self ..)
      | some u =>
        have q : (if 0 < lg_cmp (rval R (wvF D st tu pl x)) u.2 then some (x, rval R (wvF D st tu pl x)) else some u) = some z := q
        by_cases hq : 0 < lg_cmp (rval R (wvF D st tu pl x)) u.2
        · rw [if_pos hq] at q
          cases q
          exact Or.inl (List.mem_cons_self ..)
        · rw [if_neg hq] at q
          exact Or.inr q
theorem pick_mem (e : pick D r st tu pl X = some y) : y ∈ aL (dA D) (dH D) (dE D) st := by
  cases r with
  | none => exact List.mem_of_getElem? e
  | some R =>
    have e : (best D R st tu pl).map Prod.fst = some y := e
    cases hb : best D R st tu pl with
    | none => rw [hb] at e; cases e
    | some z =>
      rw [hb] at e
      cases e
      rcases bs_mem _ _ _ hb with q | q
      · exact q
      · cases q
theorem bk_aT (h4 : st < 4096) (hy : y ∈ aL (dA D) (dH D) (dE D) st) : bk (aT (dA D) st y).testBit 12 < bk st.testBit 12 := by
  have hl := aT_lt h4 hy
  have hb : ∀ c, (aT (dA D) st y).testBit c = (st.testBit c && !(sB (dA D) y.1 y.2).testBit c) := fun c => an_bit _ _ h4
  refine bk_lt (fun i hi => ?_) 12 ?_
  · rw [hb, Bool.and_eq_true] at hi
    exact hi.1
  · apply Classical.byContradiction
    intro hn
    have : aT (dA D) st y = st := by
      apply Nat.eq_of_testBit_eq
      intro j
      cases hs : st.testBit j
      · rw [hb, hs, Bool.false_and]
      · by_cases hj : j < 12
        · cases ha : (aT (dA D) st y).testBit j
          · exact absurd ⟨j, hj, hs, ha⟩ hn
          · rfl
        · rw [tb_hi (n := 12) h4 (by omega)] at hs
          cases hs
    omega
theorem pick_aT (h4 : st < 4096) (e : pick D r st tu pl X = some y) : bk (aT (dA D) st y).testBit 12 < bk st.testBit 12 := bk_aT h4 (pick_mem e)
/-! the class -/
def Uq (h h' : sk_H) : Prop := h'.1 = h.1 ∧ hR h' = hR h ∧ (∀ a i, a ≠ 49 → ¬ (a = 32 ∧ i = 9) → hI h' a i = hI h a i) ∧ ∀ a, a ≠ 49 → hK h a ≠ 102 → hJ h' a = hJ h a
theorem Uq.refl (h : sk_H) : Uq h h := ⟨rfl, rfl, fun _ _ _ _ => rfl, fun _ _ _ => rfl⟩
theorem Uq.eK (Q : Uq h h1) : hK h1 = hK h := congrArg (fun x => x.1) Q.1
theorem Uq.trans (P : Uq h h1) (Q : Uq h1 h2) : Uq h h2 := ⟨Q.1.trans P.1, Q.2.1.trans P.2.1, fun a i h1 h2 => (Q.2.2.1 a i h1 h2).trans (P.2.2.1 a i h1 h2), fun a h1 h2 => (Q.2.2.2 a h1 (by rw [P.eK]; exact h2)).trans (P.2.2.2 a h1 h2)⟩
theorem Lq.uq (Q : Lq h h1) : Uq h h1 := ⟨Q.1, Q.2.1, fun a i _ h2 => Q.2.2.1 a i h2, fun a _ h2 => Q.2.2.2 a h2⟩
theorem Uq.vI (h : sk_H) (i : Nat) (v : Int32) : Uq h (wI h 49 i v) := ⟨rfl, rfl, fun a k h1 _ => by rw [hI_wI, if_neg (fun q => h1 q.1)], fun _ _ _ => rfl⟩
theorem Uq.vJ (h : sk_H) (i : Nat) (v : Int64) : Uq h (wJ h 49 i v) := ⟨rfl, rfl, fun _ _ _ _ => rfl, fun a h1 _ => by funext k; rw [hJ_wJ, if_neg (fun q => h1 q.1)]⟩
theorem Uq.cq (Q : Uq h h1) : Cq h h1 := ⟨Q.1, fun a _ => by rw [Q.2.1], by rw [Q.2.1], fun a i ha => Q.2.2.1 a i (fun q => by rw [q] at ha; exact absurd ha (by show ¬ pC 49 i = false; unfold pC; simp)) (fun q => by rw [q.1, q.2] at ha; exact absurd ha (by decide)), Q.2.2.2⟩
theorem TC.cg (T : TC h D a) (r : hR h1 32 = hR h 32) (i : hI h1 32 = hI h 32) (j : hJ h1 43 = hJ h 43) : TC h1 D a := ⟨by rw [r]; exact T.1, by rw [i]; exact T.2.1, by rw [i]; exact T.2.2.1, T.2.2.2.imp (fun q => by rw [i]; exact q) (fun q => ⟨by rw [i]; exact q.1, by rw [j]; exact q.2⟩)⟩
/-- a rule of the class, or none -/
def RX (F : Nat → Prop) (h : sk_H) (x : Option Nat) (r : Option RT) : Prop := (x = none ∧ r = none) ∨ ∃ ra R, x = some ra ∧ r = some R ∧ RW R ∧ RO F h ra R
theorem RX.cq {x : Option Nat} (O : RX F h x r) (hF : Far F) (Q : Cq h h1) : RX F h1 x r := O.imp id (fun ⟨ra, R, e1, e2, e3, e4⟩ => ⟨ra, R, e1, e2, e3, e4.same (fun c hc => ⟨hc, Q.same (hF c hc)⟩)⟩)
theorem Bo_pick_ok (w : dW D) (hF : Far F) (hst : st < 2 ^ aN (dA D)) (I : BI F h a D c st tu pl) (hX : hJ h 49 6 = nL X) {x : Option Nat} (O : RX F h x r) : ∃ h1 q, (if ¬ x = none then c_Bo_bestBy d (some 49) x h else c_Bo_drawn d (some 49) h) = some (h1, q) ∧ Uq h h1 ∧ TC h1 D a ∧ hI h1 49 = hI h 49 ∧ ((pick D r st tu pl X = none ∧ q = none ∧ hJ h1 49 6 = nL X) ∨ ∃ y s, pick D r st tu pl X = some y ∧ q = some s ∧ F s ∧ SO h1 (dA D) s y ∧ hJ h1 49 6 = nL (nxX r X)) := by
  rcases O with ⟨rfl, rfl⟩ | ⟨ra, R, rfl, rfl, hW, O⟩
  · rw [if_neg (fun q => q rfl)]
    rcases Bo_drawn_ok (d := d) w hF hst I hX with ⟨e1, e2⟩ | ⟨y, s, e1, e2, e3, e4⟩
    · exact ⟨h, none, e2, Uq.refl h, I.2.2.1, rfl, Or.inl ⟨e1, rfl, hX⟩⟩
    · exact ⟨_, some s, e2, Uq.vJ h 6 _, (I.wX hF _).2.2.1, rfl, Or.inr ⟨y, s, e1, rfl, e3, e4, by rw [hJ_wJ, if_pos ⟨rfl, rfl⟩]; rfl⟩⟩
  · rw [if_pos (fun q => by cases q)]
    obtain ⟨h1, q, e1, e2, e3, e4, e5⟩ := Bo_bestBy_ok (d := d) hW w hF hst I O
    have e6 : hJ h1 49 6 = nL X := by rw [e2.2.2.2 49 (by rw [I.1.k49]; decide)]; exact hX
    refine ⟨h1, q, e1, e2.uq, e3, e2.I (by decide), ?_⟩
    cases hb : best D R st tu pl with
    | none => exact Or.inl ⟨by show (best D R st tu pl).map Prod.fst = none; rw [hb]; rfl, e4.mp hb, e6⟩
    | some z =>
      obtain ⟨s, g1, g2, g3⟩ := e5 z hb
      exact Or.inr ⟨z.1, s, by show (best D R st tu pl).map Prod.fst = some z.1; rw [hb]; rfl, g1, g2, g3, e6⟩
theorem Bo_out_in (w : dW D) (hF : Far F) {x1 x2 : Option Nat} : ∀ (f st tu pl X s8 : Nat) (h : sk_H), bk st.testBit 12 ≤ f → f ≤ 12 → st < 2 ^ aN (dA D) → tu ≤ 1 → BI F h a D c st tu pl → hJ h 49 6 = nL X → hI h 49 8 = nI s8 → RX F h x1 r0 → RX F h x2 r1 → ∃ h', k_Bo_playOut_2 d (some 49) x1 x2 (nI (12 - f)) h = some h' ∧ Uq h h' ∧ TC h' D a ∧ hI h' 49 7 = hI h 49 7 ∧ hI h' 49 4 = nI (pld D r0 r1 f st tu pl X).2.1 ∧ hI h' 49 8 = nI (s8 + (pld D r0 r1 f st tu pl X).1) ∧ hJ h' 49 6 = nL (pld D r0 r1 f st tu pl X).2.2
  | 0, st, tu, pl, X, s8, h, hb, hf, hst, ht, I, hX, h8, O1, O2 => by
    obtain ⟨C, O, T, b1, b2, i3, i4, i5⟩ := id I
    refine ⟨h, ?_, Uq.refl h, T, rfl, i4, h8, hX⟩
    refine (e_Bo_playOut_2 _ _ _ _ _ _).trans ?_
    exact if_pos (show (12 : Int32) ≤ nI (12 - 0) by decide)
  | f + 1, st, tu, pl, X, s8, h, hb, hf, hst, ht, I, hX, h8, O1, O2 => by
    obtain ⟨C, O, T, b1, b2, i3, i4, i5⟩ := id I
    have hst4 := p12 w.1 hst
    obtain ⟨h1, q, p1, p2, p3, p4, p5⟩ : ∃ h1 q, (if ¬ (if tu = 0 then x1 else x2) = none then c_Bo_bestBy d (some 49) (if tu = 0 then x1 else x2) h else c_Bo_drawn d (some 49) h) = some (h1, q) ∧ Uq h h1 ∧ TC h1 D a ∧ hI h1 49 = hI h 49 ∧ ((pick D (if tu = 0 then r0 else r1) st tu pl X = none ∧ q = none ∧ hJ h1 49 6 = nL X) ∨ ∃ y s, pick D (if tu = 0 then r0 else r1) st tu pl X = some y ∧ q = some s ∧ F s ∧ SO h1 (dA D) s y ∧ hJ h1 49 6 = nL (nxX (if tu = 0 then r0 else r1) X)) := by
      refine Bo_pick_ok (d := d) w hF hst I hX ?_
      by_cases ht0 : tu = 0
      · rw [if_pos ht0, if_pos ht0]; exact O1
      · rw [if_neg ht0, if_neg ht0]; exact O2
    have head : k_Bo_playOut_2 d (some 49) x1 x2 (nI (12 - (f + 1))) h = k_Bo_playOut_40 d (some 49) x1 x2 (nI (12 - (f + 1))) q h1 := by
      refine (e_Bo_playOut_2 _ _ _ _ _ _).trans ?_
      refine (if_neg (show ¬ nI 12 ≤ nI (12 - (f + 1)) from nI_ge (by omega) (by omega))).trans ?_
      refine (if_pos C.k49).trans ?_
      by_cases ht0 : tu = 0
      · rw [if_pos ht0] at p1
        refine (if_neg (show ¬ ¬ hI h 49 4 = 0 by rw [i4, ht0]; decide)).trans ?_
        by_cases hx : x1 = none
        · rw [if_neg (fun q => q hx)] at p1
          refine (if_neg (fun q => q hx)).trans ?_
          refine (if_pos C.k49).trans ?_
          exact bnd p1 _
        · rw [if_pos hx] at p1
          refine (if_pos hx).trans ?_
          refine (if_pos C.k49).trans ?_
          exact bnd p1 _
      · rw [if_neg ht0] at p1
        refine (if_pos (show ¬ hI h 49 4 = 0 by rw [i4, show tu = 1 by omega]; decide)).trans ?_
        by_cases hx : x2 = none
        · rw [if_neg (fun q => q hx)] at p1
          refine (if_neg (fun q => q hx)).trans ?_
          refine (if_pos C.k49).trans ?_
          exact bnd p1 _
        · rw [if_pos hx] at p1
          refine (if_pos hx).trans ?_
          refine (if_pos C.k49).trans ?_
          exact bnd p1 _
    rw [head]
    have C1 := C.cq p2.cq
    rcases p5 with ⟨g1, rfl, g3⟩ | ⟨y, s, g1, rfl, g3, g4, g5⟩
    · rw [pld_none g1]
      refine ⟨h1, ?_, p2, p3, by rw [p4], by rw [p4]; exact i4, by rw [p4]; exact h8, g3⟩
      refine (e_Bo_playOut_40 _ _ _ _ _ _ _).trans ?_
      exact if_neg (fun q => q rfl)
    · rw [pld_some g1]
      have s73 := hF s g3
      obtain ⟨o1, oa, ob, oc, od, -⟩ := id g4
      have e3 : hI h1 49 3 &&& (hI h1 s 3 ^^^ ((-1) : Int32)) = nI (aT (dA D) st y) := by
        rw [p4, i3, od]; exact nI_an _ hst4
      have e4 : (1 : Int32) - hI h1 49 4 = nI (1 - tu) := by rw [p4, i4, l1, q_sub ht]
      have e5 : hI h1 49 5 + (1 : Int32) = nI (pl + 1) := by rw [p4, i5, nI_1]
      have e8 : hI h1 49 8 + (1 : Int32) = nI (s8 + 1) := by rw [p4, h8, nI_1]
      obtain ⟨h5, hh5⟩ : ∃ h5, h5 = wI (wI (wI (wI h1 49 3 (nI (aT (dA D) st y))) 49 4 (nI (1 - tu))) 49 5 (nI (pl + 1))) 49 8 (nI (s8 + 1)) := ⟨_, rfl⟩
      have U5 : Uq h1 h5 := by rw [hh5]; exact (((Uq.vI _ _ _).trans (Uq.vI _ _ _)).trans (Uq.vI _ _ _)).trans (Uq.vI _ _ _)
      have i32 : hI h5 32 = hI h1 32 := by rw [hh5]; funext k; simp only [hI_wI, ↓reduceIte, ↓Option.bind_some, if_true, if_false, true_and, and_true, and_self, true_or, or_true, false_or, or_false, not_true_eq_false, not_false_eq_true, Option.bind_some, somene, false_and, and_false, reduceCtorEq, Nat.reduceEqDiff]
      have U := p2.trans U5
      have T5 : TC h5 D a := p3.cg (by rw [U5.2.1]) i32 (by rw [hh5]; rfl)
      have I5 : BI F h5 a D c (aT (dA D) st y) (1 - tu) (pl + 1) := ⟨C.cq U.cq, O.cq hF U.cq, T5, by rw [U.2.1]; exact b1, by rw [U.2.1]; exact b2, by rw [hh5]; simp only [hI_wI, ↓reduceIte, ↓Option.bind_some, if_true, if_false, true_and, and_true, and_self, true_or, or_true, false_or, or_false, not_true_eq_false, not_false_eq_true, Option.bind_some, somene, false_and, and_false, reduceCtorEq, Nat.reduceEqDiff], by rw [hh5]; simp only [hI_wI, ↓reduceIte, ↓Option.bind_some, if_true, if_false, true_and, and_true, and_self, true_or, or_true, false_or, or_false, not_true_eq_false, not_false_eq_true, Option.bind_some, somene, false_and, and_false, reduceCtorEq, Nat.reduceEqDiff], by rw [hh5]; simp only [hI_wI, ↓reduceIte, ↓Option.bind_some, if_true, if_false, true_and, and_true, and_self, true_or, or_true, false_or, or_false, not_true_eq_false, not_false_eq_true, Option.bind_some, somene, false_and, and_false, reduceCtorEq, Nat.reduceEqDiff]⟩
      have bl := pick_aT hst4 g1
      obtain ⟨h', r1', r2, r3, r4, r5, r6, r7⟩ := Bo_out_in w hF f (aT (dA D) st y) (1 - tu) (pl + 1) (nxX (if tu = 0 then r0 else r1) X) (s8 + 1) h5 (by omega) (by omega) (Nat.lt_of_le_of_lt (an_le _ _) hst) (by omega) I5 (by rw [hh5]; exact g5) (by rw [hh5]; simp only [hI_wI, ↓reduceIte, ↓Option.bind_some, if_true, if_false, true_and, and_true, and_self, true_or, or_true, false_or, or_false, not_true_eq_false, not_false_eq_true, Option.bind_some, somene, false_and, and_false, reduceCtorEq, Nat.reduceEqDiff]) (O1.cq hF U.cq) (O2.cq hF U.cq)
      refine ⟨h', ?_, U.trans r2, r3, ?_, r5, ?_, r7⟩
      · rw [← r1', hh5]
        refine (e_Bo_playOut_40 _ _ _ _ _ _ _).trans ?_
        refine (if_pos (fun q => by cases q)).trans ?_
        refine (if_pos C1.k49).trans ?_
        refine (bnd (rfl : some s = some s) _).trans ?_
        refine (if_pos o1).trans ?_
        refine (if_pos C1.k49).trans ?_
        rw [e3]
        refine (if_pos C1.k49).trans ?_
        refine (if_pos C1.k49).trans ?_
        rw [show hI (wI h1 49 3 (nI (aT (dA D) st y))) 49 4 = hI h1 49 4 by simp only [hI_wI, ↓reduceIte, ↓Option.bind_some, if_true, if_false, true_and, and_true, and_self, true_or, or_true, false_or, or_false, not_true_eq_false, not_false_eq_true, Option.bind_some, somene, false_and, and_false, reduceCtorEq, Nat.reduceEqDiff], e4]
        refine (if_pos C1.k49).trans ?_
        refine (if_pos C1.k49).trans ?_
        rw [show hI (wI (wI h1 49 3 (nI (aT (dA D) st y))) 49 4 (nI (1 - tu))) 49 5 = hI h1 49 5 by simp only [hI_wI, ↓reduceIte, ↓Option.bind_some, if_true, if_false, true_and, and_true, and_self, true_or, or_true, false_or, or_false, not_true_eq_false, not_false_eq_true, Option.bind_some, somene, false_and, and_false, reduceCtorEq, Nat.reduceEqDiff], e5]
        refine (if_pos C1.k49).trans ?_
        refine (if_pos C1.k49).trans ?_
        rw [show hI (wI (wI (wI h1 49 3 (nI (aT (dA D) st y))) 49 4 (nI (1 - tu))) 49 5 (nI (pl + 1))) 49 8 = hI h1 49 8 by simp only [hI_wI, ↓reduceIte, ↓Option.bind_some, if_true, if_false, true_and, and_true, and_self, true_or, or_true, false_or, or_false, not_true_eq_false, not_false_eq_true, Option.bind_some, somene, false_and, and_false, reduceCtorEq, Nat.reduceEqDiff], e8]
        rw [nI_1, show 12 - (f + 1) + 1 = 12 - f by omega]
      · rw [r4, hh5]
        simp only [hI_wI, ↓reduceIte, ↓Option.bind_some, if_true, if_false, true_and, and_true, and_self, true_or, or_true, false_or, or_false, not_true_eq_false, not_false_eq_true, Option.bind_some, somene, false_and, and_false, reduceCtorEq, Nat.reduceEqDiff, p4]
      · rw [r6, Nat.add_assoc, Nat.add_comm 1]
end SkBout
