section SkRuleclc
variable {h h' h1 h2 : sk_H} {t : Nat → Nat} {T n k m : Nat} {z z1 : RZ} {cs : List (Nat × Nat × Nat × Bool)}
/-- the result of reading a clause -/
def RcR (h h' : sk_H) (n : Nat) (t : Nat → Nat) (T : Nat) (z : RZ) (cs : List (Nat × Nat × Nat × Bool)) (r : Nat ⊕ (RZ × (Nat × Nat × Nat × Bool))) : Prop := Iq (PN n) h h' ∧ ((∃ g, r = .inl g ∧ RF h' n T g) ∨ ∃ z1 c, r = .inr (z1, c) ∧ RA h' n t T z1 ∧ RUI h' n (cs ++ [c]) ∧ cs.length < 12 ∧ cOk z z1 c ∧ z.1 + 1 ≤ z1.1)
theorem tc_ne {l : List (Nat × Nat)} (h : tc l [] = some [true]) : l ≠ [] := fun e => by subst e; cases h
theorem wix1 (l w : List Nat) : wix l [w] 0 = if l = w then nI 0 else nM := rfl
theorem RR_clause_ok (A : RA h n t T z) (U : RUS h n) (D : RUI h n cs) (hc : cs.length ≤ 12) : ∃ m r h', clR t T m cs.length z = some r ∧ c_RR_readClause 40 (some (n + 1)) (nI cs.length) (some (n + 3)) h = some h' ∧ RcR h h' n t T z cs r := by
  obtain ⟨X, B, C, Dz, G, O, l⟩ := id A
  have n73 := C.2.2.2.2.2
  have x3 := X.2.2.1
  have hq := nxt_le (t := t) O.1
  have hE := wE_le (t := t) hq.2
  obtain ⟨h1, e1, e2, e3⟩ := Re_wordOf_ok (d := 40) (G 1 (by omega)) (by omega) X C O.1 spS
  have A1 := A.rd e3 e2 hq.2 hq.1
  have B1 := A1.2.1
  have j2 := e2.2.2.2.1
  have e0 : c_Re_wordOf 40 (hR h (n + 1) 0) (some 3) h = c_Re_wordOf 40 (some n) (some 3) h := by rw [B.2.1]
  rw [wix1] at e1
  have rf : ∀ kd : Nat, kd ≤ 4 → ∃ h2, c_Re_refuse 40 (some n) (nI (nxt t T z.1)) (nI kd) h1 = some h2 ∧ RcR h h2 n t T z cs (.inl (1 + 8 * nxt t T z.1 + kd)) := by
    intro kd hkd
    obtain ⟨h2, g1, g2, g3⟩ := Re_refuse_ok (d := 40) e2 (q := nxt t T z.1) (k := kd)
    rw [if_pos rfl] at g2
    exact ⟨h2, g1, PN_of (e3.trans g3), Or.inl ⟨_, rfl, _, hq.2, g2, by omega⟩⟩
  by_cases q1 : wdl t T (nxt t T z.1) = wStk
  · rw [if_pos q1] at e1
    have hgt := wE_gt q1 (show 0 < wStk.length by decide)
    by_cases q2 : 12 ≤ cs.length
    · obtain ⟨h2, g1, g2⟩ := rf 4 (by omega)
      refine ⟨0, _, h2, ?_, ?_, g2⟩
      · unfold clR
        rw [if_pos q1, if_pos q2]
      · refine (e_RR_readClause _ _ _ _ _).trans ?_
        refine (if_pos B.1).trans ?_
        refine (bnd B.2.1 _).trans ?_
        refine (if_pos C.1).trans ?_
        refine (bnd (e0.trans e1) _).trans ?_
        refine (if_pos (show ¬ nI 0 = (-1 : Int32) by decide)).trans ?_
        refine (if_neg (show ¬ nI cs.length < nI 12 from nI_nlt (by omega) (by omega))).trans ?_
        refine (if_pos B1.1).trans ?_
        refine (if_pos B1.1).trans ?_
        refine (bnd B1.2.1 _).trans ?_
        refine (if_pos e2.1).trans ?_
        refine (bnd B1.2.1 _).trans ?_
        refine (if_pos e2.1).trans ?_
        exact (bnd (show c_Re_refuse 40 (hR h1 (n + 1) 0) (hI h1 n 2) (4 : Int32) h1 = some h2 by rw [B1.2.1, j2]; exact g1) _).trans rfl
    · obtain ⟨h2, f1, f2, f3⟩ := Re_skipWord_ok (d := 40) A1.1 e2 hq.2
      have A2 : RA h2 n t T (zAt z (wE t T (nxt t T z.1))) := A1.rd f3 f2 hE.2 hE.1
      have B2 := A2.2.1
      obtain ⟨m1, r1, h3, s1, s2, s3, s4⟩ := RR_sum_ok (d := 40) A2
      have B3 := B2.pn s3
      have Q3 : Iq (P3 n) h h3 := (P3_of e3).trans ((P3_of f3).trans s3)
      have D3 := D.p3 Q3
      have U3 := U.pn Q3
      have pre : ∀ o, (Option.bind (hR h3 (n + 1) 0) fun a10 => if hK h3 a10 = 6 then
          Option.bind (c_Re_takesWord 40 (hR h3 (n + 1) 0) (some 5) h3) fun (q4 : sk_H × Int32) =>
          if q4.2 = 0 then
            if hK q4.1 (n + 1) = 8 then
            Option.bind (some (n + 3)) fun a6 => if hK q4.1 a6 = 7 then
            Option.bind (c_Ru_addClause 40 (some (n + 3)) (hI h2 (n + 1) 2) (hI h3 (n + 1) 2) (hI q4.1 (n + 1) 2) q4.1) fun q5 =>
            some q5
            else none
            else none
          else
            if hK q4.1 (n + 1) = 8 then
            Option.bind (rc_RR_readTest 40 (some (n + 1)) (0 : Int32) q4.1) fun q7 =>
            if hK q7 (n + 1) = 8 then
            Option.bind (some (n + 3)) fun a9 => if hK q7 a9 = 7 then
            Option.bind (c_Ru_addClause 40 (some (n + 3)) (hI h2 (n + 1) 2) (hI h3 (n + 1) 2) (hI q7 (n + 1) 2) q7) fun q8 =>
            some q8
            else none
            else none
            else none
          else none) = o → c_RR_readClause 40 (some (n + 1)) (nI cs.length) (some (n + 3)) h = o := by
        intro o ho
        rw [← ho]
        refine (e_RR_readClause _ _ _ _ _).trans ?_
        refine (if_pos B.1).trans ?_
        refine (bnd B.2.1 _).trans ?_
        refine (if_pos C.1).trans ?_
        refine (bnd (e0.trans e1) _).trans ?_
        refine (if_pos (show ¬ nI 0 = (-1 : Int32) by decide)).trans ?_
        refine (if_pos (show nI cs.length < nI 12 from nI_lt (by omega) (by omega))).trans ?_
        refine (if_pos B1.1).trans ?_
        refine (bnd B1.2.1 _).trans ?_
        refine (if_pos e2.1).trans ?_
        refine (bnd (show c_Re_skipWord 40 (hR h1 (n + 1) 0) h1 = some h2 by rw [B1.2.1]; exact f1) _).trans ?_
        refine (if_pos B2.1).trans ?_
        refine (if_pos B2.1).trans ?_
        refine (bnd s2 _).trans ?_
        refine (if_pos B3.1).trans ?_
        exact (if_pos B3.1).trans rfl
      have l2 : hI h2 (n + 1) 2 = nI z.2.1.length := A2.2.2.2.1.1
      rcases s4 with ⟨z1, rfl, A3⟩ | ⟨g, rfl, p, hp, R3, hg⟩
      · have B3 := A3.2.1
        have C3 := A3.2.2.1
        have O3 := A3.2.2.2.2.2.1
        have l3 : hI h3 (n + 1) 2 = nI z1.2.1.length := A3.2.2.2.1.1
        obtain ⟨la, ga1, ga2, ga3, ga4, ga5, ga6, ga7⟩ := sumP_g (a := []) (z := zAt z (wE t T (nxt t T z.1))) hE.2 O.2 s1
        have ga1 : z1.2.1 = z.2.1 ++ la := ga1
        have ga4 : z.2.2 + pu la ≤ z1.2.2 := ga4
        have ga5 : wE t T (nxt t T z.1) + la.length + 0 ≤ z1.1 := ga5
        have ga2 := ga2 []
        have hq3 := nxt_le (t := t) O3.1
        have hE3 := wE_le (t := t) hq3.2
        obtain ⟨h4, t1, t2, t3⟩ := RR_tw (d := 40) A3 (k := 3) (by omega) spIf
        have t1 : c_Re_takesWord 40 (hR h3 (n + 1) 0) (some 5) h3 = some (h4, bi (decide (wdl t T (nxt t T z1.1) = wIf))) := by rw [B3.2.1]; exact t1
        have D4 := D3.p3 t2
        have U4 := U3.pn t2
        have B4 := t3.2.1
        by_cases q3 : wdl t T (nxt t T z1.1) = wIf
        · rw [decide_eq_true q3] at t1
          unfold tkE at t3
          rw [if_pos q3] at t3
          have FA0 : FA 38 n t T 0 T := fun z h hx A => by
            obtain ⟨m, r, h', w1, w2, w3⟩ := RR_fact_ok T 0 37 (by omega) (by omega) z h hx A
            exact ⟨m, r, h', w1, w2, w3⟩
          obtain ⟨m2, r2, h5, w1, w2, w3, w4⟩ := RR_test_ok FA0 _ h4 (by omega) t3
          have B5 := B4.pn w3
          have U5 := U4.pn w3
          have D5 := D4.p3 w3
          obtain ⟨m3, w5⟩ := tesP_top t3.2.2.2.2.2.1 w1
          have c1 : ∀ r', (match r2 with
              | .inl g => (.inl g : Nat ⊕ (RZ × (Nat × Nat × Nat × Bool)))
              | .inr z2 => .inr (z2, z.2.1.length, z1.2.1.length, z2.2.1.length, true)) = r' → clR t T (max m1 m3) cs.length z = some r' := by
            intro r' hr'
            rw [← hr']
            unfold clR
            rw [if_pos q1, if_neg q2, sumP_mn (Nat.le_max_left m1 m3) _ _ s1]
            refine (if_pos q3).trans ?_
            rw [mch_mn m3 (max m1 m3) (Nat.le_max_right m1 m3) _ _ _ _ w5]
            cases r2 <;> rfl
          have fin : c_RR_readClause 40 (some (n + 1)) (nI cs.length) (some (n + 3)) h = some (wI (wI (wI (wI h5 (n + 5) cs.length (nI z.2.1.length)) (n + 6) cs.length (nI z1.2.1.length)) (n + 7) cs.length (hI h5 (n + 1) 2)) (n + 3) 1 (nI (cs.length + 1))) := by
            refine pre _ ?_
            refine (bnd B3.2.1 _).trans ?_
            refine (if_pos C3.1).trans ?_
            refine (bnd t1 _).trans ?_
            refine (if_neg nb1).trans ?_
            refine (if_pos B4.1).trans ?_
            refine (bnd w2 _).trans ?_
            refine (if_pos B5.1).trans ?_
            refine (bnd rfl _).trans ?_
            refine (if_pos U5.1).trans ?_
            rw [l2, l3]
            exact (bnd (Ru_add U5 D5.1 (by omega) _ _ _) _).trans rfl
          have Q5 : Iq (P3 n) h h5 := Q3.trans (t2.trans w3)
          have Q6 := (P3.pn Q5).trans (PU8.pn (Ru_add_q (n := n) (h := h5) (k := cs.length) (nI z.2.1.length) (nI z1.2.1.length) (hI h5 (n + 1) 2) (nI (cs.length + 1))))
          rcases w4 with ⟨z2, rfl, A5⟩ | ⟨g, rfl, p, hp, R5, hg⟩
          · have l5 : hI h5 (n + 1) 2 = nI z2.2.1.length := A5.2.2.2.1.1
            obtain ⟨lb, gb1, gb2, gb3, gb4, gb5, gb6, gb7⟩ := tesP_g (a := []) (z := zAt z1 (wE t T (nxt t T z1.1))) (facP_g m2 0) hE3.2 O3.2 w1
            have gb1 : z2.2.1 = z1.2.1 ++ lb := gb1
            have gb4 : z1.2.2 + pu lb ≤ z2.2.2 := gb4
            have gb5 : wE t T (nxt t T z1.1) + lb.length + 0 ≤ z2.1 := gb5
            have gb2 := gb2 []
            rw [l5] at fin Q6
            refine ⟨_, _, _, c1 _ rfl, fin, Q6, Or.inr ⟨z2, _, rfl, A5.pu8 (Ru_add_q _ _ _ _), D5.add (c := (z.2.1.length, z1.2.1.length, z2.2.1.length, true)), by omega, ⟨la, lb, ?_, rfl, ?_, ?_, ga2, by omega, by omega, fun o ho => ?_, fun _ => gb2, fun e => by cases e⟩, by omega⟩⟩
            · rw [gb1, ga1, List.append_assoc]
            · show z1.2.1.length = _
              rw [ga1, List.length_append]
            · show z2.2.1.length = _
              rw [gb1, ga1, List.length_append, List.length_append]
            · rcases List.mem_append.mp ho with y | y
              · exact ga3 o y
              · exact gb3 o y
          · exact ⟨_, _, _, c1 _ rfl, fin, Q6, Or.inl ⟨g, rfl, p, hp, R5.pu8 (Ru_add_q _ _ _ _), hg⟩⟩
        · rw [decide_eq_false q3] at t1
          unfold tkE at t3
          rw [if_neg q3] at t3
          have l4 : hI h4 (n + 1) 2 = nI z1.2.1.length := t3.2.2.2.1.1
          have Q4 : Iq (P3 n) h h4 := Q3.trans t2
          have Q6 := (P3.pn Q4).trans (PU8.pn (Ru_add_q (n := n) (h := h4) (k := cs.length) (nI z.2.1.length) (nI z1.2.1.length) (nI z1.2.1.length) (nI (cs.length + 1))))
          refine ⟨m1, _, _, ?_, ?_, Q6, Or.inr ⟨zAt z1 (nxt t T z1.1), (z.2.1.length, z1.2.1.length, z1.2.1.length, false), rfl, t3.pu8 (Ru_add_q _ _ _ _), D4.add (c := (z.2.1.length, z1.2.1.length, z1.2.1.length, false)), by omega, ⟨la, [], ?_, rfl, ?_, ?_, ga2, by omega, by show (0 : Nat) ≤ 60; omega, fun o ho => ?_, fun e => (by cases e), fun _ => rfl⟩, ?_⟩⟩
          · unfold clR
            rw [if_pos q1, if_neg q2, s1]
            exact (if_neg q3)
          · refine pre _ ?_
            refine (bnd B3.2.1 _).trans ?_
            refine (if_pos C3.1).trans ?_
            refine (bnd t1 _).trans ?_
            refine (if_pos rfl).trans ?_
            refine (if_pos B4.1).trans ?_
            refine (bnd rfl _).trans ?_
            refine (if_pos U4.1).trans ?_
            show Option.bind (c_Ru_addClause 40 (some (n + 3)) (hI h2 (n + 1) 2) (hI h3 (n + 1) 2) (hI h4 (n + 1) 2) h4) _ = _
            rw [l2, l3, l4]
            exact (bnd (Ru_add U4 D4.1 (by omega) _ _ _) _).trans rfl
          · show z1.2.1 = _
            rw [ga1, List.append_nil]
          · show z1.2.1.length = _
            rw [ga1, List.length_append]
          · show z1.2.1.length = _
            rw [ga1, List.length_append]; rfl
          · rw [List.append_nil] at ho
            exact ga3 o ho
          · show z.1 + 1 ≤ nxt t T z1.1
            omega
      · have no := Re_takesWord_no (d := 40) (i := 5) R3 (fne hg)
        refine ⟨m1, .inl g, _, ?_, ?_, (P3.pn Q3).trans (PU8.pn (Ru_add_q (n := n) (h := h3) (k := cs.length) (hI h2 (n + 1) 2) (hI h3 (n + 1) 2) (hI h3 (n + 1) 2) (nI (cs.length + 1)))), Or.inl ⟨g, rfl, p, hp, R3.pu8 (Ru_add_q _ _ _ _), hg⟩⟩
        · unfold clR
          rw [if_pos q1, if_neg q2, s1]
        · refine pre _ ?_
          refine (bnd B3.2.1 _).trans ?_
          refine (if_pos R3.1).trans ?_
          refine (bnd (show c_Re_takesWord 40 (hR h3 (n + 1) 0) (some 5) h3 = _ by rw [B3.2.1]; exact no) _).trans ?_
          refine (if_pos rfl).trans ?_
          refine (if_pos B3.1).trans ?_
          refine (bnd rfl _).trans ?_
          refine (if_pos U3.1).trans ?_
          exact (bnd (Ru_add U3 D3.1 (by omega) _ _ _) _).trans rfl
  · rw [if_neg q1] at e1
    obtain ⟨h2, g1, g2⟩ := rf 0 (by omega)
    refine ⟨0, _, h2, ?_, ?_, g2⟩
    · unfold clR
      rw [if_neg q1]
    · refine (e_RR_readClause _ _ _ _ _).trans ?_
      refine (if_pos B.1).trans ?_
      refine (bnd B.2.1 _).trans ?_
      refine (if_pos C.1).trans ?_
      refine (bnd (e0.trans e1) _).trans ?_
      refine (if_neg (fun z => z rfl)).trans ?_
      refine (if_pos B1.1).trans ?_
      refine (if_pos B1.1).trans ?_
      refine (bnd B1.2.1 _).trans ?_
      refine (if_pos e2.1).trans ?_
      refine (bnd B1.2.1 _).trans ?_
      refine (if_pos e2.1).trans ?_
      exact (bnd (show c_Re_refuse 40 (hR h1 (n + 1) 0) (hI h1 n 2) (0 : Int32) h1 = some h2 by rw [B1.2.1, j2]; exact g1) _).trans rfl
end SkRuleclc
