/-! ===== the class reads a clause of a rule ===== -/
/-- a clause of a rule from z on, the num-th: the code's places from, middle, end; whether a test is told -/
def clR (t : Nat → Nat) (T m num : Nat) (z : RZ) : Option (Nat ⊕ (RZ × (Nat × Nat × Nat × Bool))) :=
  if wdl t T (nxt t T z.1) = wStk then
    if 12 ≤ num then some (.inl (1 + 8 * nxt t T z.1 + 4))
    else match sumP t T m (zAt z (wE t T (nxt t T z.1))) with
      | none => none
      | some (.inl g) => some (.inl g)
      | some (.inr z1) => if wdl t T (nxt t T z1.1) = wIf then
          match mch t T m true [] (zAt z1 (wE t T (nxt t T z1.1))) with
          | none => none
          | some (.inl g) => some (.inl g)
          | some (.inr z2) => some (.inr (z2, z.2.1.length, z1.2.1.length, z2.2.1.length, true))
        else some (.inr (zAt z1 (nxt t T z1.1), z.2.1.length, z1.2.1.length, z1.2.1.length, false))
  else some (.inl (1 + 8 * nxt t T z.1 + 0))
/-- all clauses from z on -/
def ruP (t : Nat → Nat) (T m : Nat) : Nat → RZ → List (Nat × Nat × Nat × Bool) → Option (Nat ⊕ (RZ × List (Nat × Nat × Nat × Bool)))
  | 0, _, _ => none
  | x + 1, z, cs => match clR t T m cs.length z with
    | none => none
    | some (.inl g) => some (.inl g)
    | some (.inr (z1, c)) => match gO t T z1.1 with
      | .inl g => some (.inl g)
      | .inr none => some (.inr (zAt z1 (nxt t T z1.1), cs ++ [c]))
      | .inr (some q) => ruP t T m x (zAt z1 q) (cs ++ [c])
/-- what a clause has added -/
def cOk (z z1 : RZ) (c : Nat × Nat × Nat × Bool) : Prop := ∃ l l', z1.2.1 = z.2.1 ++ (l ++ l') ∧ c.1 = z.2.1.length ∧ c.2.1 = z.2.1.length + l.length ∧ c.2.2.1 = z.2.1.length + l.length + l'.length ∧ tc l [] = some [false] ∧ pu l ≤ 60 ∧ pu l' ≤ 60 ∧ (∀ o ∈ l ++ l', oW o) ∧ (c.2.2.2 = true → tc l' [] = some [true]) ∧ (c.2.2.2 = false → l' = [])
def RUS (h : sk_H) (n : Nat) : Prop := hK h (n + 3) = 7 ∧ (hR h (n + 3) 2 = some (n + 5) ∧ hK h (n + 5) = 101 ∧ hN h (n + 5) = 12) ∧ (hR h (n + 3) 3 = some (n + 6) ∧ hK h (n + 6) = 101 ∧ hN h (n + 6) = 12) ∧ (hR h (n + 3) 4 = some (n + 7) ∧ hK h (n + 7) = 101 ∧ hN h (n + 7) = 12)
def RUI (h : sk_H) (n : Nat) (cs : List (Nat × Nat × Nat × Bool)) : Prop := hI h (n + 3) 1 = nI cs.length ∧ hI h (n + 3) 6 = nI 0 ∧ ∀ i c, cs[i]? = some c → hI h (n + 5) i = nI c.1 ∧ hI h (n + 6) i = nI c.2.1 ∧ hI h (n + 7) i = nI c.2.2.1
def PU8 (n a _i : Nat) : Bool := decide (n + 3 ≤ a ∧ a < n + 8)
section SkRulecl
variable {h h' h1 h2 : sk_H} {t : Nat → Nat} {T n d k m : Nat} {z z1 : RZ} {cs : List (Nat × Nat × Nat × Bool)} {c : Nat × Nat × Nat × Bool}
theorem clR_mn {m' : Nat} (hm : m ≤ m') {r : Nat ⊕ (RZ × (Nat × Nat × Nat × Bool))} (e : clR t T m k z = some r) : clR t T m' k z = some r := by
  unfold clR at e ⊢
  by_cases q1 : wdl t T (nxt t T z.1) = wStk
  · rw [if_pos q1] at e ⊢
    by_cases q2 : 12 ≤ k
    · rw [if_pos q2] at e ⊢; exact e
    · rw [if_neg q2] at e ⊢
      cases hs : sumP t T m (zAt z (wE t T (nxt t T z.1))) with
      | none => rw [hs] at e; cases e
      | some y =>
        rw [sumP_mn hm _ _ hs]
        rw [hs] at e
        cases y with
        | inl g => exact e
        | inr z1 =>
          by_cases q3 : wdl t T (nxt t T z1.1) = wIf
          · have e : (if wdl t T (nxt t T z1.1) = wIf then
              match mch t T m true [] (zAt z1 (wE t T (nxt t T z1.1))) with
              | none => none
              | some (.inl g) => some (.inl g)
              | some (.inr z2) => some (.inr (z2, z.2.1.length, z1.2.1.length, z2.2.1.length, true))
              else some (.inr (zAt z1 (nxt t T z1.1), z.2.1.length, z1.2.1.length, z1.2.1.length, false))) = some r := e
            show (if wdl t T (nxt t T z1.1) = wIf then
              match mch t T m' true [] (zAt z1 (wE t T (nxt t T z1.1))) with
              | none => none
              | some (.inl g) => some (.inl g)
              | some (.inr z2) => some (.inr (z2, z.2.1.length, z1.2.1.length, z2.2.1.length, true))
              else some (.inr (zAt z1 (nxt t T z1.1), z.2.1.length, z1.2.1.length, z1.2.1.length, false))) = some r
            rw [if_pos q3] at e ⊢
            cases hs2 : mch t T m true [] (zAt z1 (wE t T (nxt t T z1.1))) with
            | none => rw [hs2] at e; cases e
            | some y =>
              rw [mch_mn m m' hm _ _ _ _ hs2]
              rw [hs2] at e
              exact e
          · have e : (if wdl t T (nxt t T z1.1) = wIf then
              match mch t T m true [] (zAt z1 (wE t T (nxt t T z1.1))) with
              | none => none
              | some (.inl g) => some (.inl g)
              | some (.inr z2) => some (.inr (z2, z.2.1.length, z1.2.1.length, z2.2.1.length, true))
              else some (.inr (zAt z1 (nxt t T z1.1), z.2.1.length, z1.2.1.length, z1.2.1.length, false))) = some r := e
            show (if wdl t T (nxt t T z1.1) = wIf then
              match mch t T m' true [] (zAt z1 (wE t T (nxt t T z1.1))) with
              | none => none
              | some (.inl g) => some (.inl g)
              | some (.inr z2) => some (.inr (z2, z.2.1.length, z1.2.1.length, z2.2.1.length, true))
              else some (.inr (zAt z1 (nxt t T z1.1), z.2.1.length, z1.2.1.length, z1.2.1.length, false))) = some r
            rw [if_neg q3] at e ⊢
            exact e
  · rw [if_neg q1] at e ⊢; exact e
theorem RUS.pn {P : Nat → Nat → Bool} (U : RUS h n) (Q : Iq P h h1) : RUS h1 n := by
  obtain ⟨I, rfl⟩ := Q.hw
  exact U
theorem RUI.p3 (D : RUI h n cs) (Q : Iq (P3 n) h h1) : RUI h1 n cs := by
  have e : ∀ a i, n + 3 ≤ a → hI h1 a i = hI h a i := fun a i ha => Q.I (by unfold P3; exact decide_eq_false (by omega))
  obtain ⟨d1, d2, d3⟩ := D
  refine ⟨(e _ _ (by omega)).trans d1, (e _ _ (by omega)).trans d2, fun i c hc => ?_⟩
  obtain ⟨x1, x2, x3⟩ := d3 i c hc
  exact ⟨(e _ _ (by omega)).trans x1, (e _ _ (by omega)).trans x2, (e _ _ (by omega)).trans x3⟩
theorem PU8.pn (Q : Iq (PU8 n) h h1) : Iq (PN n) h h1 := Q.mono fun a i ha => by
  unfold PN at ha
  have := of_decide_eq_false ha
  exact decide_eq_false (fun y => this (by omega))
theorem PU8_w {a i : Nat} {v : Int32} (ha : n + 3 ≤ a ∧ a < n + 8) : Iq (PU8 n) h (wI h a i v) := Iq.w h v (by unfold PU8; exact decide_eq_true ha)
theorem Rd.pu8 {p : Nat} {f : Int32} (R : Rd h n T p f) (Q : Iq (PU8 n) h h1) : Rd h1 n T p f := by
  have e : ∀ i, hI h1 n i = hI h n i := fun i => Q.I (by unfold PU8; exact decide_eq_false (by omega))
  obtain ⟨r1, r2, r3, r4, r5, r6⟩ := R
  obtain ⟨I, rfl⟩ := Q.hw
  exact ⟨r1, r2, (e _).trans r3, (e _).trans r4, (e _).trans r5, r6⟩
theorem RA.pu8 (A : RA h n t T z) (Q : Iq (PU8 n) h h1) : RA h1 n t T z := by
  obtain ⟨X, B, C, D, G, O, l⟩ := A
  have n73 := C.2.2.2.2.2
  have e : ∀ a i, a < n + 3 → hI h1 a i = hI h a i := fun a i ha => Q.I (by unfold PU8; exact decide_eq_false (by omega))
  refine ⟨?_, B.pn Q, C.pu8 Q, ⟨(e _ _ (by omega)).trans D.1, (e _ _ (by omega)).trans D.2.1, fun i o ho => (e _ _ (by omega)).trans (D.2.2 i o ho)⟩, fun k hk => (G k hk).pn (by omega) (PU8.pn Q) n73, O, l⟩
  obtain ⟨x1, x2, x3, x4⟩ := X
  obtain ⟨I, rfl⟩ := id Q.hw
  exact ⟨x1, x2, x3, fun i hi => ⟨(x4 i hi).1, (e 21 i (by omega)).trans (x4 i hi).2⟩⟩
theorem Ru_add (U : RUS h n) (hc : hI h (n + 3) 1 = nI k) (hk : k < 12) (x y w : Int32) : c_Ru_addClause d (some (n + 3)) x y w h = some (wI (wI (wI (wI h (n + 5) k x) (n + 6) k y) (n + 7) k w) (n + 3) 1 (nI (k + 1))) := by
  obtain ⟨u0, ⟨u1, u2, u3⟩, ⟨v1, v2, v3⟩, ⟨w1, w2, w3⟩⟩ := U
  refine (e_Ru_addClause _ _ _ _ _ _).trans ?_
  refine (if_pos u0).trans ?_
  refine (if_neg (show ¬ nI 12 ≤ hI h (n + 3) 1 by rw [hc]; exact nI_ge (by omega) (by omega))).trans ?_
  refine (if_pos u0).trans ?_
  refine (if_pos u0).trans ?_
  refine (bnd u1 _).trans ?_
  refine (if_pos ⟨u2, show sk_in (hI h (n + 3) 1) (hN h (n + 5)) by rw [u3, hc]; exact vp_in_nI (by omega) (by omega)⟩).trans ?_
  have k1 : (hI h (n + 3) 1).toNatClampNeg = k := by rw [hc, q_cl (by omega)]
  have e1 : hI (wI h (n + 5) (hI h (n + 3) 1).toNatClampNeg x) (n + 3) 1 = nI k := by rw [hI_na (by omega)]; exact hc
  refine (if_pos u0).trans ?_
  refine (if_pos u0).trans ?_
  refine (bnd v1 _).trans ?_
  refine (if_pos ⟨v2, show sk_in (hI (wI h (n + 5) (hI h (n + 3) 1).toNatClampNeg x) (n + 3) 1) (hN h (n + 6)) by rw [v3, e1]; exact vp_in_nI (by omega) (by omega)⟩).trans ?_
  have k2 : (hI (wI h (n + 5) (hI h (n + 3) 1).toNatClampNeg x) (n + 3) 1).toNatClampNeg = k := by rw [e1, q_cl (by omega)]
  have e2 : hI (wI (wI h (n + 5) (hI h (n + 3) 1).toNatClampNeg x) (n + 6) (hI (wI h (n + 5) (hI h (n + 3) 1).toNatClampNeg x) (n + 3) 1).toNatClampNeg y) (n + 3) 1 = nI k := by rw [hI_na (by omega)]; exact e1
  refine (if_pos u0).trans ?_
  refine (if_pos u0).trans ?_
  refine (bnd w1 _).trans ?_
  refine (if_pos ⟨w2, show sk_in (hI (wI (wI h (n + 5) (hI h (n + 3) 1).toNatClampNeg x) (n + 6) (hI (wI h (n + 5) (hI h (n + 3) 1).toNatClampNeg x) (n + 3) 1).toNatClampNeg y) (n + 3) 1) (hN h (n + 7)) by rw [w3, e2]; exact vp_in_nI (by omega) (by omega)⟩).trans ?_
  refine (if_pos u0).trans ?_
  refine (if_pos u0).trans ?_
  rw [k2, k1]
  rw [k2, k1] at e2
  rw [e2, q_cl (by omega), hI_na (by omega), e2, nI_1]
theorem Ru_add_q (x y w v : Int32) : Iq (PU8 n) h (wI (wI (wI (wI h (n + 5) k x) (n + 6) k y) (n + 7) k w) (n + 3) 1 v) := (PU8_w (by omega)).trans ((PU8_w (by omega)).trans ((PU8_w (by omega)).trans (PU8_w (by omega))))
theorem RUI.add (D : RUI h n cs) : RUI (wI (wI (wI (wI h (n + 5) cs.length (nI c.1)) (n + 6) cs.length (nI c.2.1)) (n + 7) cs.length (nI c.2.2.1)) (n + 3) 1 (nI (cs.length + 1))) n (cs ++ [c]) := by
  obtain ⟨d1, d2, d3⟩ := D
  refine ⟨?_, ?_, fun i c' hi => ?_⟩
  · rw [hI_se, List.length_append]; rfl
  · rw [hI_ni (by omega), hI_na (by omega), hI_na (by omega), hI_na (by omega)]; exact d2
  · rw [hI_na (by omega), hI_na (by omega), hI_na (by omega), hI_na (a := n + 3) (by omega), hI_na (a := n + 7) (by omega), hI_na (a := n + 3) (b := n + 7) (by omega)]
    by_cases y : i < cs.length
    · rw [List.getElem?_append_left y] at hi
      rw [hI_ni (by omega), hI_ni (by omega), hI_na (by omega), hI_ni (by omega), hI_na (by omega), hI_na (by omega)]
      exact d3 i c' hi
    · rw [List.getElem?_append_right (by omega)] at hi
      by_cases y2 : i = cs.length
      · rw [y2, Nat.sub_self] at hi
        have : c = c' := by simpa using hi
        rw [y2, hI_se, hI_se, hI_se, this]
        exact ⟨rfl, rfl, rfl⟩
      · rw [List.getElem?_eq_none (by show [c].length ≤ _; simp; omega)] at hi
        cases hi
end SkRulecl
