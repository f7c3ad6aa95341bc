/-! ===== the class reads a fact; a clause of a rule ===== -/
section SkRulefact
variable {t : Nat → Nat} {T n dp : Nat} {z : RZ} {h h1 : sk_H}
theorem RR_f36 {d : Nat} (A : RA h n t T z) : ∃ h2, c_RR_readFact d (some (n + 1)) (nI dp) h = k_RR_readFact_36 d (some (n + 1)) (nI dp) (bi (decide (nxt t T z.1 < T ∧ t (nxt t T z.1) = 91))) (bi (decide (wdl t T (nxt t T z.1) = wNot))) h2 ∧ Iq (P3 n) h h2 ∧ RA h2 n t T (zAt z (nxt t T z.1)) := by
  obtain ⟨X, B, C, D, G, O, l⟩ := id A
  obtain ⟨b1, b2, b3, b4, b5⟩ := id B
  have x3 := X.2.2.1
  have hq := nxt_le (t := t) O.1
  have hqq := nxt_nxt (t := t) O.1
  obtain ⟨h1, e1, e2, e3⟩ := Re_next_ok (d := d) X C O.1
  have A1 := A.rd e3 e2 hq.2 hq.1
  obtain ⟨h2, g1, g2, g3⟩ := Re_wordOf_ok (d := d) (A1.2.2.2.2.1 4 (by omega)) (by omega) A1.1 e2 hq.2 spN
  rw [hqq] at g1 g2
  have A2 := A1.rd g3 g2 hq.2 (Nat.le_refl _)
  have B1 := B.pn e3
  have c11 := e2.1
  refine ⟨h2, ?_, (P3_of e3).trans (P3_of g3), A2⟩
  have wv : ∀ x : Int32, (if wix (wdl t T (nxt t T z.1)) [wNot] 0 = (-1 : Int32) then k_RR_readFact_36 d (some (n + 1)) (nI dp) x (0 : Int32) h2 else k_RR_readFact_36 d (some (n + 1)) (nI dp) x (1 : Int32) h2) = k_RR_readFact_36 d (some (n + 1)) (nI dp) x (bi (decide (wdl t T (nxt t T z.1) = wNot))) h2 := by
    intro x
    unfold wix
    by_cases y : wdl t T (nxt t T z.1) = wNot
    · rw [if_pos y, decide_eq_true y]
      exact if_neg (by decide)
    · rw [if_neg y, decide_eq_false y]
      exact if_pos rfl
  refine (e_RR_readFact _ _ _ _).trans ?_
  refine (if_pos b1).trans ?_
  refine (bnd b2 _).trans ?_
  refine (if_pos C.1).trans ?_
  refine (bnd (show c_Re_next d (hR h (n + 1) 0) h = _ by rw [b2]; exact e1) _).trans ?_
  by_cases y : nxt t T z.1 < T ∧ t (nxt t T z.1) = 91
  · rw [decide_eq_true y]
    refine (if_neg (fun w => w (show lk t T (nxt t T z.1) = nI 91 by rw [lk_lt y.1, y.2]))).trans ?_
    refine (if_pos B1.1).trans ?_
    refine (bnd B1.2.1 _).trans ?_
    refine (if_pos c11).trans ?_
    refine (bnd (show c_Re_wordOf d (hR h1 (n + 1) 0) (some 6) h1 = _ by rw [B1.2.1]; exact g1) _).trans ?_
    exact wv 1
  · rw [decide_eq_false y]
    refine (if_pos (show ¬ lk t T (nxt t T z.1) = nI 91 from ?_)).trans ?_
    · unfold lk
      by_cases w : nxt t T z.1 < T
      · have tl := (X.2.2.2 _ w).1
        rw [if_pos w, q_eq_f (fun k => y ⟨w, k⟩) (by omega) (by omega)]
        exact not_false
      · rw [if_neg w]
        decide
    refine (if_pos B1.1).trans ?_
    refine (bnd B1.2.1 _).trans ?_
    refine (if_pos c11).trans ?_
    refine (bnd (show c_Re_wordOf d (hR h1 (n + 1) 0) (some 6) h1 = _ by rw [B1.2.1]; exact g1) _).trans ?_
    exact wv 0
theorem RR_fact_ok : ∀ (X0 : Nat) (dp d : Nat), dp ≤ 10 → 3 * (10 - dp) ≤ d → ∀ (z : RZ) (h : sk_H), T - z.1 ≤ X0 → RA h n t T z → ∃ m r h', facP t T m dp z = some r ∧ c_RR_readFact d (some (n + 1)) (nI dp) h = some h' ∧ Rz h h' n t T r
  | X0, dp, d, hdp, hd, z, h, hx, A => by
    obtain ⟨X, B, C, D, G, O, l⟩ := id A
    have n73 := C.2.2.2.2.2
    have x3 := X.2.2.1
    have hq := nxt_le (t := t) O.1
    have hqq := nxt_nxt (t := t) O.1
    obtain ⟨h2, e1, e2, e3⟩ := RR_f36 (d := d) (dp := dp) A
    have B2 := B.pn e2
    have so := Re_sound_ok (d := d) e3.2.2.1
    rw [decide_eq_true rfl] at so
    have j2 : hI h2 n 2 = nI (nxt t T z.1) := e3.2.2.1.2.2.2.1
    have k6 := e3.2.2.1.1
    have pre : ∀ (x y : Int32) (w : Option sk_H), (if ¬ x = 0 then k_RR_readFact_79 d (some (n + 1)) (nI dp) y h2 else if ¬ y = 0 then k_RR_readFact_79 d (some (n + 1)) (nI dp) y h2 else if hK h2 (n + 1) = 8 then cmK d n h2 else none) = w → k_RR_readFact_36 d (some (n + 1)) (nI dp) x y h2 = w := by
      intro x y w hw
      rw [← hw]
      refine (e_RR_readFact_36 _ _ _ _ _ _).trans ?_
      refine (if_pos B2.1).trans ?_
      refine (bnd B2.2.1 _).trans ?_
      refine (if_pos k6).trans ?_
      refine (bnd (show c_Re_sound d (hR h2 (n + 1) 0) h2 = _ by rw [B2.2.1]; exact so) _).trans ?_
      exact (if_pos nb1).trans rfl
    -- too deep
    have deep : ¬ dp < 10 → ∀ y : Int32, ∃ h3, k_RR_readFact_79 d (some (n + 1)) (nI dp) y h2 = some h3 ∧ Rz h h3 n t T (.inl (1 + 8 * nxt t T z.1 + 2)) := by
      intro h10 y
      obtain ⟨h3, k1, k2, k3⟩ := Re_refuse_ok (d := d) e3.2.2.1 (q := nxt t T z.1) (k := 2)
      rw [if_pos rfl] at k2
      refine ⟨h3, ?_, e2.trans (P3_of k3), Or.inr ⟨_, rfl, _, hq.2, k2, by omega⟩⟩
      refine (e_RR_readFact_79 _ _ _ _ _).trans ?_
      refine (if_neg (show ¬ nI dp < nI 10 from nI_nlt (by omega) (by omega))).trans ?_
      refine (if_pos B2.1).trans ?_
      refine (if_pos B2.1).trans ?_
      refine (bnd B2.2.1 _).trans ?_
      refine (if_pos k6).trans ?_
      refine (bnd B2.2.1 _).trans ?_
      refine (if_pos k6).trans ?_
      exact (bnd (show c_Re_refuse d (hR h2 (n + 1) 0) (hI h2 n 2) 2 h2 = some h3 by rw [B2.2.1, j2]; exact k1) _).trans rfl
    by_cases w1 : wdl t T (nxt t T z.1) = wNot
    · have hl := ltr_93 (t := t) (T := T) (q := nxt t T z.1) (by rw [w1]; decide) rfl
      have n91 : ¬ (nxt t T z.1 < T ∧ t (nxt t T z.1) = 91) := fun y => by omega
      rw [decide_eq_true w1, decide_eq_false n91] at e1
      have hE := wE_le (t := t) hq.2
      have hE1 := wE_gt w1 (by decide)
      by_cases h10 : dp < 10
      · obtain ⟨h3, k1, k2, k3⟩ := Re_skipWord_ok (d := d) e3.1 e3.2.2.1 hq.2
        have A3 := e3.rd k3 k2 hE.2 (by show nxt t T z.1 ≤ wE t T (nxt t T z.1); omega)
        have B3 := B2.pn k3
        cases X0 with
        | zero => exact absurd hE.2 (by omega)
        | succ X0 =>
          obtain ⟨d', hd'⟩ : ∃ d', d = d' + 1 := ⟨d - 1, by omega⟩
          obtain ⟨m1, r1, h4, f1, f2, f3⟩ := RR_fact_ok X0 (dp + 1) d' (by omega) (by omega) _ h3 (by show T - wE t T (nxt t T z.1) ≤ X0; omega) A3
          have B4 := B3.pn f3.1
          have wk : ∀ o, (Option.bind (c_RR_put d (some (n + 1)) (-11) h4) fun q12 => some q12) = o → c_RR_readFact d (some (n + 1)) (nI dp) h = o := by
            intro o ho
            rw [← ho, e1]
            refine pre _ _ _ ?_
            refine (if_neg (fun y => y rfl)).trans ?_
            refine (if_pos nb1).trans ?_
            refine (e_RR_readFact_79 _ _ _ _ _).trans ?_
            refine (if_pos (show nI dp < nI 10 from nI_lt h10 (by omega))).trans ?_
            refine (if_neg nb1).trans ?_
            refine (if_pos B2.1).trans ?_
            refine (bnd B2.2.1 _).trans ?_
            refine (if_pos k6).trans ?_
            refine (bnd (show c_Re_skipWord d (hR h2 (n + 1) 0) h2 = _ by rw [B2.2.1]; exact k1) _).trans ?_
            refine (if_pos B3.1).trans ?_
            refine (bnd (show rc_RR_readFact d (some (n + 1)) (nI dp + 1) h3 = some h4 by rw [nI_1, hd']; exact (rc_f d' _ _ _).trans f2) _).trans ?_
            exact (if_pos B4.1).trans rfl
          have fz : facP t T (m1 + 1) dp z = oB (facP t T m1 (dp + 1) (zAt z (wE t T (nxt t T z.1)))) fun z1 => some (.inr (zE z1 11)) := by
            show (if wdl t T (nxt t T z.1) = wNot then (if 10 ≤ dp then some (Sum.inl (1 + 8 * nxt t T z.1 + 2)) else oB (facP t T m1 (dp + 1) (zAt z (wE t T (nxt t T z.1)))) fun z1 => some (.inr (zE z1 11))) else _) = _
            rw [if_pos w1, if_neg (by omega)]
          have f1 : facP t T m1 (dp + 1) (zAt z (wE t T (nxt t T z.1))) = some r1 := f1
          have Q4 : Iq (P3 n) h h4 := (e2.trans (P3_of k3)).trans f3.1
          rcases f3.2 with ⟨z1, y1, y2⟩ | ⟨g, y1, p, p1, p2, p3⟩
          · subst y1
            have G1 := facP_g m1 (dp + 1) (zAt z (wE t T (nxt t T z.1))) z1 [] hE.2 O.2 f1
            have hl1 := G1.len (j := 1) (by show z.2.1.length + 1 ≤ wE t T (nxt t T z.1); omega)
            obtain ⟨h5, v1, v2, v3⟩ := RR_put_ok (d := d) y2 (by omega) (11, 0)
            refine ⟨m1 + 1, .inr (zE z1 11), h5, ?_, wk _ ?_, Q4.trans v3, Or.inl ⟨_, rfl, v2⟩⟩
            · rw [fz, f1]
              rfl
            · exact (bnd (show c_RR_put d (some (n + 1)) (-11) h4 = some h5 from v1) _).trans rfl
          · subst y1
            refine ⟨m1 + 1, .inl g, h4, ?_, wk _ ?_, Q4, Or.inr ⟨g, rfl, p, p1, p2, p3⟩⟩
            · rw [fz, f1]
              rfl
            · exact (bnd (RR_put_f B4 p2 (fne p3)) _).trans rfl
      · obtain ⟨h3, k1, k2⟩ := deep h10 (bi true)
        refine ⟨1, _, h3, ?_, ?_, k2⟩
        · unfold facP
          rw [if_pos w1, if_pos (by omega)]
        · rw [e1]
          refine pre _ _ _ ?_
          refine (if_neg (fun y => y rfl)).trans ?_
          exact (if_pos nb1).trans k1
    · rw [decide_eq_false w1] at e1
      by_cases w2 : nxt t T z.1 < T ∧ t (nxt t T z.1) = 91
      · rw [decide_eq_true w2] at e1
        by_cases h10 : dp < 10
        · have R3 : Rd (wI h2 n 2 (nI (nxt t T z.1 + 1))) n T (nxt t T z.1 + 1) nM := e3.2.2.1.w2
          have A3 : RA (wI h2 n 2 (nI (nxt t T z.1 + 1))) n t T (zAt z (nxt t T z.1 + 1)) := e3.rd PRd_w2 R3 (by omega) (by show nxt t T z.1 ≤ nxt t T z.1 + 1; omega)
          cases X0 with
          | zero => exact absurd w2.1 (by omega)
          | succ X0 =>
            obtain ⟨d', hd'⟩ : ∃ d', d = d' + 3 := ⟨d - 3, by omega⟩
            have F : FA (d' + 1) n t T (dp + 1) X0 := fun z' h' hx' A' => by
              obtain ⟨m, r, h'', q1, q2, q3⟩ := RR_fact_ok X0 (dp + 1) d' (by omega) (by omega) z' h' hx' A'
              exact ⟨m, r, h'', q1, (rc_f d' _ _ _).trans q2, q3⟩
            obtain ⟨m1, r1, h4, f1, f2, f3⟩ := RR_test_ok F _ _ (by show T - (nxt t T z.1 + 1) ≤ X0; omega) A3
            have f1 : tesP t T (facP t T m1 (dp + 1)) m1 (zAt z (nxt t T z.1 + 1)) = some r1 := f1
            have Q4 : Iq (P3 n) h h4 := (e2.trans (P3_of PRd_w2)).trans f3.1
            have B4 := B.pn Q4
            have fz : facP t T (m1 + 1) dp z = oB (tesP t T (facP t T m1 (dp + 1)) m1 (zAt z (nxt t T z.1 + 1))) fun z1 => some (clsP t T z1) := by
              show (if wdl t T (nxt t T z.1) = wNot then _ else if nxt t T z.1 < T ∧ t (nxt t T z.1) = 91 then (if 10 ≤ dp then some (Sum.inl (1 + 8 * nxt t T z.1 + 2)) else oB (tesP t T (facP t T m1 (dp + 1)) m1 (zAt z (nxt t T z.1 + 1))) fun z1 => some (clsP t T z1)) else _) = _
              rw [if_neg w1, if_pos w2, if_neg (by omega)]
            have wk : ∀ o, hK h4 n = 6 → (Option.bind (c_Re_takes d (some n) (93 : Int32) h4) fun (q5 : sk_H × Int32) => if ¬ q5.2 = 0 then some q5.1 else if hK q5.1 (n + 1) = 8 then if hK q5.1 (n + 1) = 8 then Option.bind (hR q5.1 (n + 1) 0) fun a6 => if hK q5.1 a6 = 6 then Option.bind (hR q5.1 (n + 1) 0) fun a8 => if hK q5.1 a8 = 6 then Option.bind (c_Re_refuse d (hR q5.1 (n + 1) 0) (hI q5.1 a6 2) (0 : Int32) q5.1) fun q7 => some q7 else none else none else none else none) = o → c_RR_readFact d (some (n + 1)) (nI dp) h = o := by
              intro o k4 ho
              rw [← ho, e1]
              refine pre _ _ _ ?_
              refine (if_pos nb1).trans ?_
              refine (e_RR_readFact_79 _ _ _ _ _).trans ?_
              refine (if_pos (show nI dp < nI 10 from nI_lt h10 (by omega))).trans ?_
              refine (if_pos rfl).trans ?_
              refine (if_pos B2.1).trans ?_
              refine (bnd B2.2.1 _).trans ?_
              refine (if_pos k6).trans ?_
              refine (bnd B2.2.1 _).trans ?_
              refine (if_pos k6).trans ?_
              refine (if_pos B2.1).trans ?_
              refine (bnd (show rc_RR_readTest d (some (n + 1)) (nI dp + 1) (wI h2 n 2 (hI h2 n 2 + 1)) = some h4 by rw [j2, nI_1, nI_1, hd']; exact (rc_t (d' + 2) _ _ _).trans f2) _).trans ?_
              refine (if_pos B4.1).trans ?_
              refine (bnd B4.2.1 _).trans ?_
              refine (if_pos k4).trans ?_
              rw [B4.2.1]
            rcases f3.2 with ⟨z1, y1, y2⟩ | ⟨g, y1, p, p1, p2, p3⟩
            · subst y1
              have hz1 := y2.2.2.2.2.2.1.1
              have hq1 := nxt_le (t := t) hz1
              obtain ⟨h5, v1, v2, v3⟩ := Re_takes_ok (d := d) y2.1 y2.2.2.1 hz1 (c := 93) (by omega)
              have B5 := B4.pn v3
              by_cases cc : nxt t T z1.1 < T ∧ t (nxt t T z1.1) = 93
              · have tk : tkP t T z1.1 93 = true := decide_eq_true cc
                rw [tk] at v1 v2
                rw [if_pos rfl] at v2
                have A5 := y2.rd v3 v2 (by omega) (by omega)
                refine ⟨m1 + 1, .inr (zAt z1 (nxt t T z1.1 + 1)), h5, ?_, wk _ y2.2.2.1.1 ?_, Q4.trans (P3_of v3), Or.inl ⟨_, rfl, A5⟩⟩
                · rw [fz, f1]
                  show some (clsP t T z1) = _
                  unfold clsP
                  rw [if_pos cc]
                · refine (bnd (show c_Re_takes d (some n) 93 h4 = _ from v1) _).trans ?_
                  exact if_pos nb1
              · have tk : tkP t T z1.1 93 = false := decide_eq_false cc
                rw [tk] at v1 v2
                rw [if_neg (by decide)] at v2
                obtain ⟨h6, s1, s2, s3⟩ := Re_refuse_ok (d := d) v2 (q := nxt t T z1.1) (k := 0)
                rw [if_pos rfl] at s2
                refine ⟨m1 + 1, .inl (1 + 8 * nxt t T z1.1 + 0), h6, ?_, wk _ y2.2.2.1.1 ?_, (Q4.trans (P3_of v3)).trans (P3_of s3), Or.inr ⟨_, rfl, _, hq1.2, s2, by omega⟩⟩
                · rw [fz, f1]
                  show some (clsP t T z1) = _
                  unfold clsP
                  rw [if_neg cc]
                · refine (bnd (show c_Re_takes d (some n) 93 h4 = _ from v1) _).trans ?_
                  refine (if_neg (fun y => y rfl)).trans ?_
                  refine (if_pos B5.1).trans ?_
                  refine (if_pos B5.1).trans ?_
                  refine (bnd B5.2.1 _).trans ?_
                  refine (if_pos v2.1).trans ?_
                  refine (bnd B5.2.1 _).trans ?_
                  refine (if_pos v2.1).trans ?_
                  exact (bnd (show c_Re_refuse d (hR h5 (n + 1) 0) (hI h5 n 2) 0 h5 = some h6 by rw [B5.2.1, v2.2.2.2.1]; exact s1) _).trans rfl
            · subst y1
              obtain ⟨h6, s1, s2, s3⟩ := Re_refuse_ok (d := d) p2 (q := p) (k := 0)
              rw [if_neg (fne p3)] at s2
              refine ⟨m1 + 1, .inl g, h6, ?_, wk _ p2.1 ?_, Q4.trans (P3_of s3), Or.inr ⟨g, rfl, p, p1, s2, p3⟩⟩
              · rw [fz, f1]
                rfl
              · refine (bnd (Re_takes_no p2 (fne p3)) _).trans ?_
                refine (if_neg (fun y => y rfl)).trans ?_
                refine (if_pos B4.1).trans ?_
                refine (if_pos B4.1).trans ?_
                refine (bnd B4.2.1 _).trans ?_
                refine (if_pos p2.1).trans ?_
                refine (bnd B4.2.1 _).trans ?_
                refine (if_pos p2.1).trans ?_
                exact (bnd (show c_Re_refuse d (hR h4 (n + 1) 0) (hI h4 n 2) 0 h4 = some h6 by rw [B4.2.1, p2.2.2.2.1]; exact s1) _).trans rfl
        · obtain ⟨h3, k1, k2⟩ := deep h10 (bi false)
          refine ⟨1, _, h3, ?_, ?_, k2⟩
          · unfold facP
            rw [if_neg w1, if_pos w2, if_pos (by omega)]
          · rw [e1]
            refine pre _ _ _ ?_
            exact (if_pos nb1).trans k1
      · rw [decide_eq_false w2] at e1
        obtain ⟨m1, r1, h3, f1, f2, f3⟩ := RR_cmp_ok (d := d) e3
        refine ⟨m1 + 1, r1, h3, ?_, ?_, e2.trans f3.1, f3.2⟩
        · show (if wdl t T (nxt t T z.1) = wNot then _ else if nxt t T z.1 < T ∧ t (nxt t T z.1) = 91 then _ else cmpP t T m1 (zAt z (nxt t T z.1))) = _
          rw [if_neg w1, if_neg w2]
          exact f1
        · rw [e1]
          refine pre _ _ _ ?_
          refine (if_neg (fun y => y rfl)).trans ?_
          refine (if_neg (fun y => y rfl)).trans ?_
          exact (if_pos B2.1).trans f2
end SkRulefact
