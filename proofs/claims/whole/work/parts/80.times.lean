/-! ===== many plays: the class ===== -/
/-- the first player wins, when tu would be to play -/
def wn0 (D : DD) (tu : Nat) : Bool := decide (tu = 0) == dL D
def gm1 (D : DD) (r0 r1 : Option RT) (st tu pl : Nat) (s : Nat × Nat × Nat) : Nat × Nat × Nat := (s.1 + (if wn0 D (pld D r0 r1 12 st tu pl s.2.2).2.1 = true then 1 else 0), s.2.1 + (pld D r0 r1 12 st tu pl s.2.2).1, (pld D r0 r1 12 st tu pl s.2.2).2.2)
def gms (D : DD) (r0 r1 : Option RT) (st tu pl : Nat) : Nat → Nat × Nat × Nat → Nat × Nat × Nat
  | 0, s => s
  | k + 1, s => gms D r0 r1 st tu pl k (gm1 D r0 r1 st tu pl s)
section SkTimes
variable {F G : Nat → Prop} {h h' h1 h2 : sk_H} {a m n i s k x st tu pl ra f X : Nat} {d : Nat} {R : RT} {D : DD} {c : Nat → Nat} {r r0 r1 : Option RT} {y : Nat × Nat}
theorem pld_tu : ∀ (f st tu pl X : Nat), tu ≤ 1 → (pld D r0 r1 f st tu pl X).2.1 ≤ 1
  | 0, st, tu, pl, X, ht => ht
  | f + 1, st, tu, pl, X, ht => by
    cases hp : pick D (if tu = 0 then r0 else r1) st tu pl X with
    | none => rw [pld_none hp]; exact ht
    | some y => rw [pld_some hp]; exact pld_tu f _ _ _ _ (by omega)
/-- what many plays rest on -/
def BJ (F : Nat → Prop) (h : sk_H) (a : Nat) (D : DD) (c : Nat → Nat) (st tu pl : Nat) : Prop := CS h ∧ AOc F h a D c ∧ TC h D a ∧ hR h 49 1 = some 32 ∧ hR h 49 2 = some a ∧ hI h 23 1 = nI st ∧ hI h 23 2 = nI tu ∧ hI h 23 3 = nI pl
theorem BJ.uq (J : BJ F h a D c st tu pl) (hF : Far F) (U : Uq h h1) (T : TC h1 D a) : BJ F h1 a D c st tu pl := by
  obtain ⟨C, O, -, b1, b2, i1, i2, i3⟩ := J
  exact ⟨C.cq U.cq, O.cq hF U.cq, T, by rw [U.2.1]; exact b1, by rw [U.2.1]; exact b2, by rw [U.2.2.1 23 1 (by decide) (by decide)]; exact i1, by rw [U.2.2.1 23 2 (by decide) (by decide)]; exact i2, by rw [U.2.2.1 23 3 (by decide) (by decide)]; exact i3⟩
theorem Bo_ti_in (w : dW D) (hF : Far F) {x3 x4 : Option Nat} {N : Nat} (hN : N < 2 ^ 31) (hst : st < 2 ^ aN (dA D)) (ht : tu ≤ 1) : ∀ (k i : Nat) (s : Nat × Nat × Nat) (h : sk_H), i + k = N → BJ F h a D c st tu pl → hI h 49 7 = nI s.1 → hI h 49 8 = nI s.2.1 → hJ h 49 6 = nL s.2.2 → RX F h x3 r0 → RX F h x4 r1 → ∃ h', k_Bo_playTimes_35 d (some 49) (some 23) x3 x4 (nI N) (nI i) h = some h' ∧ Uq h h' ∧ TC h' D a ∧ hI h' 49 7 = nI (gms D r0 r1 st tu pl k s).1 ∧ hI h' 49 8 = nI (gms D r0 r1 st tu pl k s).2.1
  | 0, i, s, h, hk, J, h7, h8, hX, O1, O2 => by
    refine ⟨h, ?_, Uq.refl h, J.2.2.1, h7, h8⟩
    refine (e_Bo_playTimes_35 _ _ _ _ _ _ _ _).trans ?_
    exact if_pos (nI_le (by omega) (by omega))
  | k + 1, i, s, h, hk, J, h7, h8, hX, O1, O2 => by
    obtain ⟨C, O, T, b1, b2, i1, i2, i3⟩ := id J
    obtain ⟨h6, hh6⟩ : ∃ h6, h6 = wI (wI (wI h 49 3 (hI h 23 1)) 49 4 (hI (wI h 49 3 (hI h 23 1)) 23 2)) 49 5 (hI (wI (wI h 49 3 (hI h 23 1)) 49 4 (hI (wI h 49 3 (hI h 23 1)) 23 2)) 23 3) := ⟨_, rfl⟩
    have U6 : Uq h h6 := by rw [hh6]; exact ((Uq.vI _ _ _).trans (Uq.vI _ _ _)).trans (Uq.vI _ _ _)
    have i32 : hI h6 32 = hI h 32 := by rw [hh6]; funext k; simp only [hI_wI, ↓reduceIte, ↓Option.bind_some, if_true, if_false, true_and, and_true, and_self, true_or, or_true, false_or, or_false, not_true_eq_false, not_false_eq_true, Option.bind_some, somene, false_and, and_false, reduceCtorEq, Nat.reduceEqDiff]
    have T6 : TC h6 D a := T.cg (by rw [U6.2.1]) i32 (by rw [hh6]; rfl)
    have I6 : BI F h6 a D c st tu pl := ⟨C.cq U6.cq, O.cq hF U6.cq, T6, by rw [U6.2.1]; exact b1, by rw [U6.2.1]; exact b2, by rw [hh6]; simp only [hI_wI, ↓reduceIte, ↓Option.bind_some, if_true, if_false, true_and, and_true, and_self, true_or, or_true, false_or, or_false, not_true_eq_false, not_false_eq_true, Option.bind_some, somene, false_and, and_false, reduceCtorEq, Nat.reduceEqDiff, i1], by rw [hh6]; simp only [hI_wI, ↓reduceIte, ↓Option.bind_some, if_true, if_false, true_and, and_true, and_self, true_or, or_true, false_or, or_false, not_true_eq_false, not_false_eq_true, Option.bind_some, somene, false_and, and_false, reduceCtorEq, Nat.reduceEqDiff, i2], by rw [hh6]; simp only [hI_wI, ↓reduceIte, ↓Option.bind_some, if_true, if_false, true_and, and_true, and_self, true_or, or_true, false_or, or_false, not_true_eq_false, not_false_eq_true, Option.bind_some, somene, false_and, and_false, reduceCtorEq, Nat.reduceEqDiff, i3]⟩
    obtain ⟨h', q1, q2, q3, q4, q5, q6, q7⟩ := Bo_out_in (d := d) w hF 12 st tu pl s.2.2 s.2.1 h6 (bk_le _ 12) (by omega) hst ht I6 (by rw [hh6]; exact hX) (by rw [hh6]; simp only [hI_wI, ↓reduceIte, ↓Option.bind_some, if_true, if_false, true_and, and_true, and_self, true_or, or_true, false_or, or_false, not_true_eq_false, not_false_eq_true, Option.bind_some, somene, false_and, and_false, reduceCtorEq, Nat.reduceEqDiff, h8]) (O1.cq hF U6.cq) (O2.cq hF U6.cq)
    have out : c_Bo_playOut d (some 49) x3 x4 h6 = some h' := by rw [e_Bo_playOut]; exact q1
    have U := U6.trans q2
    have C' := C.cq U.cq
    have O' := O.cq hF U.cq
    have k23 := C.k23
    have ht' := pld_tu (D := D) (r0 := r0) (r1 := r1) 12 st tu pl s.2.2 ht
    have b2' : hR h' 49 2 = some a := by rw [U.2.1]; exact b2
    have a6 : hI h' a 6 = bi (dL D) := O'.2.2.1.2.2.2.2.1
    have h7' : hI h' 49 7 = nI s.1 := by rw [q4, hh6]; simp only [hI_wI, ↓reduceIte, ↓Option.bind_some, if_true, if_false, true_and, and_true, and_self, true_or, or_true, false_or, or_false, not_true_eq_false, not_false_eq_true, Option.bind_some, somene, false_and, and_false, reduceCtorEq, Nat.reduceEqDiff, h7]
    have fin : ∀ (v : Nat), v = s.1 + (if wn0 D (pld D r0 r1 12 st tu pl s.2.2).2.1 = true then 1 else 0) → ∃ g, k_Bo_playTimes_35 d (some 49) (some 23) x3 x4 (nI N) (nI (i + 1)) (wI h' 49 7 (nI v)) = some g ∧ Uq h g ∧ TC g D a ∧ hI g 49 7 = nI (gms D r0 r1 st tu pl (k + 1) s).1 ∧ hI g 49 8 = nI (gms D r0 r1 st tu pl (k + 1) s).2.1 := by
      intro v hv
      have U7 := U.trans (Uq.vI h' 7 (nI v))
      have T7 : TC (wI h' 49 7 (nI v)) D a := q3.cg rfl (by funext k; simp only [hI_wI, ↓reduceIte, ↓Option.bind_some, if_true, if_false, true_and, and_true, and_self, true_or, or_true, false_or, or_false, not_true_eq_false, not_false_eq_true, Option.bind_some, somene, false_and, and_false, reduceCtorEq, Nat.reduceEqDiff]) rfl
      obtain ⟨g, g1, g2, g3⟩ := Bo_ti_in w hF hN hst ht k (i + 1) (gm1 D r0 r1 st tu pl s) (wI h' 49 7 (nI v)) (by omega) (J.uq hF U7 T7) (by rw [hI_wI, if_pos ⟨rfl, rfl⟩, hv]; rfl) (by rw [hI_wI, if_neg (by decide)]; exact q6) q7 (O1.cq hF U7.cq) (O2.cq hF U7.cq)
      exact ⟨g, g1, U7.trans g2, g3⟩
    have head : ∀ (Gv : Option sk_H), ((if ¬ (hI h' 49 4) = 0 then (if ¬ (hI h' a 6) = (0 : Int32) then k_Bo_playTimes_35 d (some 49) (some 23) x3 x4 (nI N) (nI (i + 1)) (wI h' 49 7 (nI (s.1 + 0))) else k_Bo_playTimes_35 d (some 49) (some 23) x3 x4 (nI N) (nI (i + 1)) (wI h' 49 7 (nI (s.1 + 1)))) else (if ¬ (hI h' a 6) = (1 : Int32) then k_Bo_playTimes_35 d (some 49) (some 23) x3 x4 (nI N) (nI (i + 1)) (wI h' 49 7 (nI (s.1 + 0))) else k_Bo_playTimes_35 d (some 49) (some 23) x3 x4 (nI N) (nI (i + 1)) (wI h' 49 7 (nI (s.1 + 1))))) = Gv) → k_Bo_playTimes_35 d (some 49) (some 23) x3 x4 (nI N) (nI i) h = Gv := by
      intro Gv hG
      rw [← hG]
      refine (e_Bo_playTimes_35 _ _ _ _ _ _ _ _).trans ?_
      refine (if_neg (nI_ge (by omega) (by omega))).trans ?_
      refine (if_pos C.k49).trans ?_
      refine (if_neg (show ¬ hR h 49 2 = none by rw [b2]; exact fun q => by cases q)).trans ?_
      refine (bnd (rfl : some 23 = some 23) _).trans ?_
      refine (if_pos k23).trans ?_
      refine (if_pos C.k49).trans ?_
      refine (bnd (rfl : some 23 = some 23) _).trans ?_
      refine (if_pos k23).trans ?_
      refine (if_pos C.k49).trans ?_
      refine (bnd (rfl : some 23 = some 23) _).trans ?_
      refine (if_pos k23).trans ?_
      refine (if_pos C.k49).trans ?_
      refine (if_pos C.k49).trans ?_
      rw [hh6] at out
      refine (bnd out _).trans ?_
      refine (if_pos C'.k49).trans ?_
      refine (if_pos C'.k49).trans ?_
      refine (bnd b2' _).trans ?_
      refine (if_pos O'.2.1).trans ?_
      refine (if_pos C'.k49).trans ?_
      have e0 : hI h' 49 7 + (0 : Int32) = nI (s.1 + 0) := by rw [h7', l0, nI_add]
      have e1 : hI h' 49 7 + (1 : Int32) = nI (s.1 + 1) := by rw [h7', nI_1]
      by_cases z1 : ¬ hI h' 49 4 = 0
      · rw [if_pos z1, if_pos z1]
        by_cases z2 : ¬ hI h' a 6 = (0 : Int32)
        · rw [if_pos z2, if_pos z2]
          refine (if_pos C'.k49).trans ?_
          rw [e0, nI_1]
        · rw [if_neg z2, if_neg z2]
          refine (if_pos C'.k49).trans ?_
          rw [e1, nI_1]
      · rw [if_neg z1, if_neg z1]
        by_cases z2 : ¬ hI h' a 6 = (1 : Int32)
        · rw [if_pos z2, if_pos z2]
          refine (if_pos C'.k49).trans ?_
          rw [e0, nI_1]
        · rw [if_neg z2, if_neg z2]
          refine (if_pos C'.k49).trans ?_
          rw [e1, nI_1]
    have q5' := q5
    obtain ⟨tt, htt⟩ : ∃ tt, tt = (pld D r0 r1 12 st tu pl s.2.2).2.1 := ⟨_, rfl⟩
    rw [← htt] at q5' ht' fin
    rcases (show tt = 0 ∨ tt = 1 by omega) with rfl | rfl
    · cases hL : dL D
      · rw [hL] at a6
        obtain ⟨g, g1, g2⟩ := fin (s.1 + 0) (by unfold wn0; rw [hL]; rfl)
        exact ⟨g, head _ (by rw [if_neg (by rw [q5']; decide), if_pos (by rw [a6]; decide)]; exact g1), g2⟩
      · rw [hL] at a6
        obtain ⟨g, g1, g2⟩ := fin (s.1 + 1) (by unfold wn0; rw [hL]; rfl)
        exact ⟨g, head _ (by rw [if_neg (by rw [q5']; decide), if_neg (by rw [a6]; decide)]; exact g1), g2⟩
    · cases hL : dL D
      · rw [hL] at a6
        obtain ⟨g, g1, g2⟩ := fin (s.1 + 1) (by unfold wn0; rw [hL]; rfl)
        exact ⟨g, head _ (by rw [if_pos (by rw [q5']; decide), if_neg (by rw [a6]; decide)]; exact g1), g2⟩
      · rw [hL] at a6
        obtain ⟨g, g1, g2⟩ := fin (s.1 + 0) (by unfold wn0; rw [hL]; rfl)
        exact ⟨g, head _ (by rw [if_pos (by rw [q5']; decide), if_pos (by rw [a6]; decide)]; exact g1), g2⟩
/-- the class's frame of many plays: the bout's references change too -/
theorem Bo_times_ok (w : dW D) (hF : Far F) {x3 x4 : Option Nat} {N : Nat} (hN : N < 2 ^ 31) (hst : st < 2 ^ aN (dA D)) (ht : tu ≤ 1) (C : CS h) (O : AOc F h a D c) (T : TC h D a) (b0 : hR h 23 0 = some a) (i1 : hI h 23 1 = nI st) (i2 : hI h 23 2 = nI tu) (i3 : hI h 23 3 = nI pl) (hx : X < 2 ^ 31) (i4 : hI h 23 4 = nI X) (O1 : RX F h x3 r0) (O2 : RX F h x4 r1) : ∃ h', c_Bo_playTimes d (some 49) (some 23) (some 32) x3 x4 (nI N) h = some h' ∧ Cq h h' ∧ TC h' D a ∧ hI h' 32 10 = hI h 32 10 ∧ hI h' 32 11 = hI h 32 11 ∧ hI h' 32 12 = hI h 32 12 ∧ hI h' 32 13 = hI h 32 13 ∧ (∀ c, 44 ≤ c → c ≤ 48 → hI h' c = hI h c) ∧ hI h' 49 7 = nI (gms D r0 r1 st tu pl N (0, 0, X)).1 ∧ hI h' 49 8 = nI (gms D r0 r1 st tu pl N (0, 0, X)).2.1 := by
  obtain ⟨h7, hh7⟩ : ∃ h7, h7 = wJ (wR (wR (wI (wI h 49 7 (0 : Int32)) 49 8 (0 : Int32)) 49 1 (some 32)) 49 2 (hR (wR (wI (wI h 49 7 (0 : Int32)) 49 8 (0 : Int32)) 49 1 (some 32)) 23 0)) 49 6 ((hI (wR (wR (wI (wI h 49 7 (0 : Int32)) 49 8 (0 : Int32)) 49 1 (some 32)) 49 2 (hR (wR (wI (wI h 49 7 (0 : Int32)) 49 8 (0 : Int32)) 49 1 (some 32)) 23 0)) 23 4).toInt64) := ⟨_, rfl⟩
  have eR : ∀ c, c ≠ 49 → hR h7 c = hR h c := fun c hc => by rw [hh7]; funext k; simp only [hR_wJ, hR_wR, hR_wI]; rw [if_neg (fun q => hc q.1), if_neg (fun q => hc q.1)]
  have eI : ∀ c, c ≠ 49 → hI h7 c = hI h c := fun c hc => by rw [hh7]; funext k; simp only [hI_wJ, hI_wR, hI_wI]; rw [if_neg (fun q => hc q.1), if_neg (fun q => hc q.1)]
  have eJ : ∀ c, c ≠ 49 → hJ h7 c = hJ h c := fun c hc => by rw [hh7]; funext k; rw [hJ_wJ, if_neg (fun q => hc q.1)]; rfl
  have Q7 : Cq h h7 := ⟨by rw [hh7]; rfl, eR, by rw [hh7]; simp only [hR_wJ, hR_wR, hR_wI, ↓reduceIte, ↓Option.bind_some, if_true, if_false, true_and, and_true, and_self, true_or, or_true, false_or, or_false, not_true_eq_false, not_false_eq_true, Option.bind_some, somene, false_and, and_false, reduceCtorEq, Nat.reduceEqDiff], fun a i ha => by rw [eI a (fun q => by rw [q] at ha; exact absurd ha (by unfold pC; simp))], fun a h1 _ => eJ a h1⟩
  have T7 : TC h7 D a := T.cg (eR 32 (by decide)) (eI 32 (by decide)) (eJ 43 (by decide))
  have J7 : BJ F h7 a D c st tu pl := ⟨C.cq Q7, O.cq hF Q7, T7, by rw [hh7]; simp only [hR_wJ, hR_wR, hR_wI, ↓reduceIte, ↓Option.bind_some, if_true, if_false, true_and, and_true, and_self, true_or, or_true, false_or, or_false, not_true_eq_false, not_false_eq_true, Option.bind_some, somene, false_and, and_false, reduceCtorEq, Nat.reduceEqDiff], by rw [hh7]; simp only [hR_wJ, hR_wR, hR_wI, ↓reduceIte, ↓Option.bind_some, if_true, if_false, true_and, and_true, and_self, true_or, or_true, false_or, or_false, not_true_eq_false, not_false_eq_true, Option.bind_some, somene, false_and, and_false, reduceCtorEq, Nat.reduceEqDiff, b0], by rw [eI 23 (by decide)]; exact i1, by rw [eI 23 (by decide)]; exact i2, by rw [eI 23 (by decide)]; exact i3⟩
  obtain ⟨h', q1, q2, q3, q4, q5⟩ := Bo_ti_in (d := d) w hF hN hst ht N 0 (0, 0, X) h7 (by omega) J7 (by rw [hh7]; simp only [hI_wJ, hI_wR, hI_wI, ↓reduceIte, ↓Option.bind_some, if_true, if_false, true_and, and_true, and_self, true_or, or_true, false_or, or_false, not_true_eq_false, not_false_eq_true, Option.bind_some, somene, false_and, and_false, reduceCtorEq, Nat.reduceEqDiff]; rfl) (by rw [hh7]; simp only [hI_wJ, hI_wR, hI_wI, ↓reduceIte, ↓Option.bind_some, if_true, if_false, true_and, and_true, and_self, true_or, or_true, false_or, or_false, not_true_eq_false, not_false_eq_true, Option.bind_some, somene, false_and, and_false, reduceCtorEq, Nat.reduceEqDiff]; rfl) (by rw [hh7]; simp only [hJ_wJ, hI_wJ, hI_wR, hI_wI, ↓reduceIte, ↓Option.bind_some, if_true, if_false, true_and, and_true, and_self, true_or, or_true, false_or, or_false, not_true_eq_false, not_false_eq_true, Option.bind_some, somene, false_and, and_false, reduceCtorEq, Nat.reduceEqDiff, i4]; exact nL_i hx) (O1.cq hF Q7) (O2.cq hF Q7)
  refine ⟨h', ?_, Q7.trans q2.cq, q3, ?_, ?_, ?_, ?_, fun c h1 h2 => ?_, q4, q5⟩
  · rw [← q1, hh7]
    refine (e_Bo_playTimes _ _ _ _ _ _ _ _).trans ?_
    refine (if_pos C.k49).trans ?_
    refine (if_pos C.k49).trans ?_
    refine (if_pos C.k49).trans ?_
    refine (bnd (rfl : some 23 = some 23) _).trans ?_
    refine (if_pos C.k23).trans ?_
    refine (if_pos C.k49).trans ?_
    refine (bnd (rfl : some 23 = some 23) _).trans ?_
    refine (if_pos C.k23).trans ?_
    refine (if_pos C.k49).trans ?_
    rfl
  · rw [q2.2.2.1 32 10 (by decide) (by decide), eI 32 (by decide)]
  · rw [q2.2.2.1 32 11 (by decide) (by decide), eI 32 (by decide)]
  · rw [q2.2.2.1 32 12 (by decide) (by decide), eI 32 (by decide)]
  · rw [q2.2.2.1 32 13 (by decide) (by decide), eI 32 (by decide)]
  · funext k
    rw [q2.2.2.1 c k (by omega) (by omega), eI c (by omega)]
end SkTimes
