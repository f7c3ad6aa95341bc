/-! ===== the class reads all of a rule's text ===== -/
/-- a clause lies well in the code -/
def cW (l : List (Nat × Nat)) (c : Nat × Nat × Nat × Bool) : Prop := ∃ l0 a b l1, l = l0 ++ (a ++ (b ++ l1)) ∧ c.1 = l0.length ∧ c.2.1 = l0.length + a.length ∧ c.2.2.1 = l0.length + a.length + b.length ∧ tc a [] = some [false] ∧ pu a ≤ 60 ∧ pu b ≤ 60 ∧ (c.2.2.2 = true → tc b [] = some [true]) ∧ (c.2.2.2 = false → b = [])
def ruW (z : RZ) (cs : List (Nat × Nat × Nat × Bool)) : Prop := cs.length ≤ 12 ∧ (∀ o ∈ z.2.1, oW o) ∧ ∀ c ∈ cs, cW z.2.1 c
section SkRuleall
variable {h h' h1 h2 : sk_H} {t : Nat → Nat} {T n k m : Nat} {z z1 : RZ} {cs : List (Nat × Nat × Nat × Bool)} {c : Nat × Nat × Nat × Bool}
theorem gO_ge {p q : Nat} (hp : p ≤ T) (e : gO t T p = .inr (some q)) : p ≤ q := by
  have hq := nxt_le (t := t) hp
  unfold gO at e
  repeat' split at e
  all_goals first
    | cases e; done
    | (have := Option.some.inj (Sum.inr.inj e); omega)
theorem cW.app {l l' : List (Nat × Nat)} (w : cW l c) : cW (l ++ l') c := by
  obtain ⟨l0, a, b, l1, e, w⟩ := w
  exact ⟨l0, a, b, l1 ++ l', by rw [e]; simp only [List.append_assoc], w⟩
theorem ruW.add (w : ruW z cs) (c0 : cOk z z1 c) (hc : cs.length < 12) : ruW z1 (cs ++ [c]) := by
  obtain ⟨w1, w2, w3⟩ := w
  obtain ⟨l, l', e, f1, f2, f3, f4, f5, f6, f7, f8, f9⟩ := c0
  refine ⟨by rw [List.length_append]; show cs.length + 1 ≤ 12; omega, fun o ho => ?_, fun x hx => ?_⟩
  · rw [e] at ho
    rcases List.mem_append.mp ho with y | y
    · exact w2 o y
    · exact f7 o y
  · rcases List.mem_append.mp hx with y | y
    · rw [e]; exact (w3 x y).app
    · have : x = c := by simpa using y
      subst this
      exact ⟨z.2.1, l, l', [], by rw [e, List.append_nil], f1, f2, f3, f4, f5, f6, f8, f9⟩
theorem ruP_mn {m m' : Nat} (hm : m ≤ m') : ∀ (x : Nat) (z : RZ) (cs : List (Nat × Nat × Nat × Bool)) (r : Nat ⊕ (RZ × List (Nat × Nat × Nat × Bool))), ruP t T m x z cs = some r → ruP t T m' x z cs = some r
  | 0, z, cs, r, e => by cases e
  | x + 1, z, cs, r, e => by
    unfold ruP at e ⊢
    cases hs : clR t T m cs.length z with
    | none => rw [hs] at e; cases e
    | some y =>
      rw [clR_mn hm hs]
      rw [hs] at e
      rcases y with g | ⟨z1, c⟩
      · exact e
      · cases hg : gO t T z1.1 with
        | inl g =>
          have e : (match gO t T z1.1 with
            | Sum.inl g => some (Sum.inl g)
            | .inr none => some (Sum.inr (zAt z1 (nxt t T z1.1), cs ++ [c]))
            | .inr (some q) => ruP t T m x (zAt z1 q) (cs ++ [c])) = some r := e
          show (match gO t T z1.1 with
            | Sum.inl g => some (Sum.inl g)
            | .inr none => some (Sum.inr (zAt z1 (nxt t T z1.1), cs ++ [c]))
            | .inr (some q) => ruP t T m' x (zAt z1 q) (cs ++ [c])) = some r
          rw [hg] at e ⊢
          exact e
        | inr y =>
          have e : (match gO t T z1.1 with
            | Sum.inl g => some (Sum.inl g)
            | .inr none => some (Sum.inr (zAt z1 (nxt t T z1.1), cs ++ [c]))
            | .inr (some q) => ruP t T m x (zAt z1 q) (cs ++ [c])) = some r := e
          show (match gO t T z1.1 with
            | Sum.inl g => some (Sum.inl g)
            | .inr none => some (Sum.inr (zAt z1 (nxt t T z1.1), cs ++ [c]))
            | .inr (some q) => ruP t T m' x (zAt z1 q) (cs ++ [c])) = some r
          rw [hg] at e ⊢
          cases y with
          | none => exact e
          | some q => exact ruP_mn hm x _ _ r e
theorem RR_35_f {p : Nat} {f : Int32} (B : RRS h n) (R : Rd h n T p f) (hf : f ≠ nM) : k_RR_read_35 40 (some (n + 1)) (some (n + 3)) h = some (h, some (n + 3)) := by
  have so := Re_sound_ok (d := 40) R
  rw [decide_eq_false hf] at so
  refine (e_RR_read_35 _ _ _ _).trans ?_
  refine (if_pos B.1).trans ?_
  refine (bnd B.2.1 _).trans ?_
  refine (if_pos R.1).trans ?_
  refine (bnd (show c_Re_sound 40 (hR h (n + 1) 0) h = _ by rw [B.2.1]; exact so) _).trans ?_
  exact (if_pos rfl).trans rfl
theorem RR_35_s (A : RA h n t T z) (U : RUS h n) : k_RR_read_35 40 (some (n + 1)) (some (n + 3)) h = Option.bind (c_Ru_settle 40 (some (n + 3)) (some (n + 2)) (nI z.2.1.length) h) fun q2 => some (q2, some (n + 3)) := by
  obtain ⟨X, B, C, D, G, O, l⟩ := A
  have so := Re_sound_ok (d := 40) C
  rw [decide_eq_true rfl] at so
  refine (e_RR_read_35 _ _ _ _).trans ?_
  refine (if_pos B.1).trans ?_
  refine (bnd B.2.1 _).trans ?_
  refine (if_pos C.1).trans ?_
  refine (bnd (show c_Re_sound 40 (hR h (n + 1) 0) h = _ by rw [B.2.1]; exact so) _).trans ?_
  refine (if_neg nb1).trans ?_
  refine (if_pos B.1).trans ?_
  refine (if_pos B.1).trans ?_
  refine (bnd rfl _).trans ?_
  refine (if_pos U.1).trans ?_
  show Option.bind (c_Ru_settle 40 (some (n + 3)) (hR h (n + 1) 1) (hI h (n + 1) 2) h) _ = _
  rw [B.2.2.1, D.1]
theorem RUI.rd (D : RUI h n cs) (Q : Iq (PRd n) h h1) : RUI h1 n cs := D.p3 (P3_of Q)
theorem RR_read_in : ∀ (x : Nat) (z : RZ) (cs : List (Nat × Nat × Nat × Bool)) (h : sk_H), cs.length + x = 13 → RA h n t T z → RUS h n → RUI h n cs → ruW z cs → ∃ m r h', ruP t T m x z cs = some r ∧ Iq (PN n) h h' ∧ ((∃ g, r = .inl g ∧ RF h' n T g ∧ k_RR_read_10 40 (some (n + 1)) (some (n + 3)) (nI cs.length) h = some (h', some (n + 3))) ∨ ∃ z' cs', r = .inr (z', cs') ∧ RA h' n t T z' ∧ RUI h' n cs' ∧ ruW z' cs' ∧ k_RR_read_10 40 (some (n + 1)) (some (n + 3)) (nI cs.length) h = Option.bind (c_Ru_settle 40 (some (n + 3)) (some (n + 2)) (nI z'.2.1.length) h') fun q2 => some (q2, some (n + 3)))
  | 0, z, cs, h, hx, A, U, D, w => absurd hx (by have := w.1; omega)
  | x + 1, z, cs, h, hx, A, U, D, w => by
    have hc := w.1
    have B := A.2.1
    obtain ⟨m1, r1, h1, e1, e2, e3, e4⟩ := RR_clause_ok A U D hc
    have B1 := B.pn e3
    have U1 := U.pn e3
    rcases e4 with ⟨g, rfl, p, hp, R1, hg⟩ | ⟨z1, c, rfl, A1, D1, hl, c0, hz⟩
    · refine ⟨m1, .inl g, h1, ?_, e3, Or.inl ⟨g, rfl, ⟨p, hp, R1, hg⟩, ?_⟩⟩
      · unfold ruP
        rw [e1]
      · have en := RR_35_f B1 R1 (fne hg)
        refine (e_RR_read_10 _ _ _ _ _).trans ?_
        refine (if_pos B.1).trans ?_
        refine (bnd e2 _).trans ?_
        rw [nI_1]
        by_cases q : 12 < cs.length + 1
        · refine (if_pos (show nI 12 < nI (cs.length + 1) from nI_lt q (by omega))).trans ?_
          exact en
        · refine (if_neg (show ¬ nI 12 < nI (cs.length + 1) from nI_nlt (by omega) (by omega))).trans ?_
          refine (if_pos B1.1).trans ?_
          refine (bnd B1.2.1 _).trans ?_
          refine (if_pos R1.1).trans ?_
          rw [B1.2.1]
          refine (bnd (Re_goesOn_no R1 (fne hg)) _).trans ?_
          refine (if_neg (fun z => z rfl)).trans ?_
          exact en
    · have w1 := w.add c0 hl
      have C1 := A1.2.2.1
      have O1 := A1.2.2.2.2.2.1
      have x3 := A1.1.2.2.1
      have el : (cs ++ [c]).length = cs.length + 1 := by rw [List.length_append]; rfl
      have pre : ∀ o, (Option.bind (c_Re_goesOn 40 (some n) h1) fun (q2 : sk_H × Int32) => if ¬ q2.2 = 0 then k_RR_read_10 40 (some (n + 1)) (some (n + 3)) (nI (cs.length + 1)) q2.1 else k_RR_read_35 40 (some (n + 1)) (some (n + 3)) q2.1) = o → k_RR_read_10 40 (some (n + 1)) (some (n + 3)) (nI cs.length) h = o := by
        intro o ho
        rw [← ho]
        refine (e_RR_read_10 _ _ _ _ _).trans ?_
        refine (if_pos B.1).trans ?_
        refine (bnd e2 _).trans ?_
        rw [nI_1]
        refine (if_neg (show ¬ nI 12 < nI (cs.length + 1) from nI_nlt (by omega) (by omega))).trans ?_
        refine (if_pos B1.1).trans ?_
        refine (bnd B1.2.1 _).trans ?_
        refine (if_pos C1.1).trans ?_
        rw [B1.2.1]
      have hq1 := nxt_le (t := t) O1.1
      rcases Re_goesOn_ok (d := 40) A1.1 C1 O1.1 with ⟨h2, f0, f1, f2, f3⟩ | ⟨q', h2, f0, f1, f2, f3, f4⟩ | ⟨g, q', h2, f0, f1, f2, f3, f4⟩
      · have A2 : RA h2 n t T (zAt z1 (nxt t T z1.1)) := A1.rd f3 f2 hq1.2 hq1.1
        refine ⟨m1, .inr (zAt z1 (nxt t T z1.1), cs ++ [c]), h2, ?_, e3.trans (PN_of f3), Or.inr ⟨_, _, rfl, A2, D1.rd f3, w1, pre _ ?_⟩⟩
        · unfold ruP
          rw [e1]
          show (match gO t T z1.1 with
            | Sum.inl g => some (Sum.inl g)
            | .inr none => some (Sum.inr (zAt z1 (nxt t T z1.1), cs ++ [c]))
            | .inr (some q) => ruP t T m1 x (zAt z1 q) (cs ++ [c])) = _
          rw [f0]
        · refine (bnd f1 _).trans ?_
          refine (if_neg (fun z => z rfl)).trans ?_
          exact RR_35_s A2 (U1.pn f3)
      · have hq' : z1.1 ≤ q' := by
          have := gO_ge O1.1 f0
          omega
        have A2 : RA h2 n t T (zAt z1 q') := A1.rd f3 f2 f4 hq'
        obtain ⟨m2, r2, h3, k1, k2, k3⟩ := RR_read_in x (zAt z1 q') (cs ++ [c]) h2 (by rw [el]; omega) A2 (U1.pn f3) (D1.rd f3) w1
        rw [el] at k3
        have ek : k_RR_read_10 40 (some (n + 1)) (some (n + 3)) (nI cs.length) h = k_RR_read_10 40 (some (n + 1)) (some (n + 3)) (nI (cs.length + 1)) h2 := by
          refine pre _ ?_
          refine (bnd f1 _).trans ?_
          exact if_pos nb1
        refine ⟨max m1 m2, r2, h3, ?_, e3.trans ((PN_of f3).trans k2), ?_⟩
        · unfold ruP
          rw [clR_mn (Nat.le_max_left m1 m2) e1]
          show (match gO t T z1.1 with
            | Sum.inl g => some (Sum.inl g)
            | .inr none => some (Sum.inr (zAt z1 (nxt t T z1.1), cs ++ [c]))
            | .inr (some q) => ruP t T (max m1 m2) x (zAt z1 q) (cs ++ [c])) = _
          rw [f0]
          exact ruP_mn (Nat.le_max_right m1 m2) x _ _ _ k1
        · rw [ek]
          exact k3
      · have hg := gO_lt O1.1 x3 f0
        refine ⟨m1, .inl g, h2, ?_, e3.trans (PN_of f3), Or.inl ⟨g, rfl, ⟨q', f4, f2, hg⟩, pre _ ?_⟩⟩
        · unfold ruP
          rw [e1]
          show (match gO t T z1.1 with
            | Sum.inl g => some (Sum.inl g)
            | .inr none => some (Sum.inr (zAt z1 (nxt t T z1.1), cs ++ [c]))
            | .inr (some q) => ruP t T m1 x (zAt z1 q) (cs ++ [c])) = _
          rw [f0]
        · refine (bnd f1 _).trans ?_
          refine (if_neg (fun z => z rfl)).trans ?_
          exact RR_35_f (B1.pn f3) f2 (fne hg)
end SkRuleall
