/-! ===== the class reads a test ===== -/
theorem spN : Sp (fun i => (tLs 4).getD i 0) (tLs 4).length 0 [wNot] = true := by decide +kernel
theorem spAn : Sp (fun i => (tLs 5).getD i 0) (tLs 5).length 0 [wAnd] = true := by decide +kernel
theorem spO : Sp (fun i => (tLs 6).getD i 0) (tLs 6).length 0 [wOr] = true := by decide +kernel
theorem spIf : Sp (fun i => (tLs 3).getD i 0) (tLs 3).length 0 [wIf] = true := by decide +kernel
theorem spS : Sp (fun i => (tLs 1).getD i 0) (tLs 1).length 0 [wStk] = true := by decide +kernel
theorem rc_t (d : Nat) (x0 : Option Nat) (x1 : Int32) (h : sk_H) : rc_RR_readTest (d + 1) x0 x1 h = c_RR_readTest d x0 x1 h := rfl
theorem rc_p (d : Nat) (x0 : Option Nat) (x1 : Int32) (h : sk_H) : rc_RR_readPart (d + 1) x0 x1 h = c_RR_readPart d x0 x1 h := rfl
theorem rc_f (d : Nat) (x0 : Option Nat) (x1 : Int32) (h : sk_H) : rc_RR_readFact (d + 1) x0 x1 h = c_RR_readFact d x0 x1 h := rfl
section SkRuletest
variable {t : Nat → Nat} {T n dp X0 : Nat} {z : RZ} {f : Int32} {h h1 : sk_H}
/-- a word that joins comes next, or not -/
theorem RR_tw (A : RA h n t T z) {k d : Nat} (hk : k < 7) {w : List Nat} (sp : Sp (fun i => (tLs k).getD i 0) (tLs k).length 0 [w] = true) : ∃ h1, c_Re_takesWord d (some n) (some (k + 2)) h = some (h1, bi (decide (wdl t T (nxt t T z.1) = w))) ∧ Iq (P3 n) h h1 ∧ RA h1 n t T (zAt z (tkE t T z.1 w)) := by
  obtain ⟨X, B, C, D, G, O, l⟩ := id A
  have hq := nxt_le (t := t) O.1
  have hE := wE_le (t := t) hq.2
  obtain ⟨h1, e1, e2, e3⟩ := Re_takesWord_ok (d := d) (G k hk) (by omega) X C O.1 sp
  refine ⟨h1, e1, P3_of e3, A.rd e3 e2 ?_ ?_⟩
  · unfold tkE
    by_cases y : wdl t T (nxt t T z.1) = w
    · rw [if_pos y]; exact hE.2
    · rw [if_neg y]; exact hq.2
  · unfold tkE
    by_cases y : wdl t T (nxt t T z.1) = w
    · rw [if_pos y]; omega
    · rw [if_neg y]; exact hq.1
/-- the class reads facts from here on as the descent does -/
def FA (d n : Nat) (t : Nat → Nat) (T dp X0 : Nat) : Prop := ∀ (z : RZ) (h : sk_H), T - z.1 ≤ X0 → RA h n t T z → ∃ m r h', facP t T m dp z = some r ∧ rc_RR_readFact d (some (n + 1)) (nI dp) h = some h' ∧ Rz h h' n t T r
theorem RR_p7_f {d : Nat} {x y : Int32} (B : RRS h n) {p : Nat} (R : Rd h n T p f) (hf : f ≠ nM) : k_RR_readPart_7 d (some (n + 1)) x y h = some h := by
  refine (e_RR_readPart_7 _ _ _ _ _).trans ?_
  refine if_both rfl ?_
  refine (if_pos B.1).trans ?_
  refine (bnd B.2.1 _).trans ?_
  refine (if_pos R.1).trans ?_
  refine (bnd (show c_Re_takesWord d (hR h (n + 1) 0) (some 7) h = _ by rw [B.2.1]; exact Re_takesWord_no R hf) _).trans ?_
  exact if_pos rfl
theorem RR_t7_f {d : Nat} {x y : Int32} (B : RRS h n) {p : Nat} (R : Rd h n T p f) (hf : f ≠ nM) : k_RR_readTest_7 d (some (n + 1)) x y h = some h := by
  refine (e_RR_readTest_7 _ _ _ _ _).trans ?_
  refine if_both rfl ?_
  refine (if_pos B.1).trans ?_
  refine (bnd B.2.1 _).trans ?_
  refine (if_pos R.1).trans ?_
  refine (bnd (show c_Re_takesWord d (hR h (n + 1) 0) (some 8) h = _ by rw [B.2.1]; exact Re_takesWord_no R hf) _).trans ?_
  exact if_pos rfl
theorem RR_p7 {d : Nat} (F : FA d n t T dp X0) : ∀ (x i : Nat) (z : RZ) (h : sk_H), x ≤ X0 → T - z.1 ≤ x → i ≤ z.1 → RA h n t T z → ∃ m r h', parL t T (facP t T m dp) m z = some r ∧ k_RR_readPart_7 d (some (n + 1)) (nI dp) (nI i) h = some h' ∧ Rz h h' n t T r
  | x, i, z, h, hX, hx, hi, A => by
    obtain ⟨X, B, C, D, G, O, l⟩ := id A
    obtain ⟨b1, b2, b3, b4, b5⟩ := id B
    have x3 := X.2.2.1
    have hq := nxt_le (t := t) O.1
    have hz := O.1
    by_cases i4 : 400 ≤ i
    · have e1 : z.1 = T := by omega
      have eq : nxt t T z.1 = z.1 := by omega
      have nw : ¬ wdl t T (nxt t T z.1) = wAnd := by
        rw [wdl_n (by unfold ltr; exact decide_eq_false (by omega))]
        decide
      refine ⟨1, .inr z, h, ?_, ?_, Iq.refl h, Or.inl ⟨z, rfl, A⟩⟩
      · unfold parL
        rw [if_neg nw, eq]
        rfl
      · refine (e_RR_readPart_7 _ _ _ _ _).trans ?_
        exact if_pos (show nI 400 ≤ nI i from nI_le i4 (by omega))
    · obtain ⟨h1, e1, e2, e3⟩ := RR_tw (d := d) A (k := 5) (by omega) spAn
      have B1 := B.pn e2
      have pre : ∀ w, (if bi (decide (wdl t T (nxt t T z.1) = wAnd)) = 0 then some h1 else if hK h1 (n + 1) = 8 then Option.bind (rc_RR_readFact d (some (n + 1)) (nI dp) h1) fun q2 => if hK q2 (n + 1) = 8 then Option.bind (c_RR_put d (some (n + 1)) ((-12) : Int32) q2) fun q3 => k_RR_readPart_7 d (some (n + 1)) (nI dp) (nI i + 1) q3 else none else none) = w → k_RR_readPart_7 d (some (n + 1)) (nI dp) (nI i) h = w := by
        intro w hw'
        rw [← hw']
        refine (e_RR_readPart_7 _ _ _ _ _).trans ?_
        refine (if_neg (show ¬ nI 400 ≤ nI i from nI_ge (by omega) (by omega))).trans ?_
        refine (if_pos b1).trans ?_
        refine (bnd b2 _).trans ?_
        refine (if_pos C.1).trans ?_
        exact (bnd (show c_Re_takesWord d (hR h (n + 1) 0) (some 7) h = _ by rw [b2]; exact e1) _).trans rfl
      by_cases y : wdl t T (nxt t T z.1) = wAnd
      · rw [decide_eq_true y] at pre
        have te : tkE t T z.1 wAnd = wE t T (nxt t T z.1) := by unfold tkE; rw [if_pos y]
        rw [te] at e3
        have hE := wE_le (t := t) hq.2
        have hE1 := wE_gt y (by decide)
        obtain ⟨m1, r1, h2, f1, f2, f3⟩ := F _ h1 (by show T - wE t T (nxt t T z.1) ≤ X0; omega) e3
        have B2 := B.pn (e2.trans f3.1)
        rcases f3.2 with ⟨z1, k1, k2⟩ | ⟨g, k1, p, p1, p2, p3⟩
        · subst k1
          have G1 := facP_g m1 dp (zAt z (wE t T (nxt t T z.1))) z1 [] hE.2 O.2 f1
          have hl1 := G1.len (j := 1) (by show z.2.1.length + 1 ≤ wE t T (nxt t T z.1); omega)
          have hm1 : wE t T (nxt t T z.1) + 0 ≤ z1.1 := G1.mm.2.2
          obtain ⟨h3, w1, w2, w3⟩ := RR_put_ok (d := d) k2 (by omega) (12, 0)
          have w2 : RA h3 n t T (zE z1 12) := w2
          cases x with
          | zero => exact absurd hE.2 (by omega)
          | succ x =>
            obtain ⟨m2, r, h', q1, q2, q3⟩ := RR_p7 F x (i + 1) (zE z1 12) h3 (by omega) (by show T - z1.1 ≤ x; omega) (by show i + 1 ≤ z1.1; omega) w2
            refine ⟨max m1 m2 + 1, r, h', ?_, pre _ ?_, ((e2.trans f3.1).trans w3).trans q3.1, q3.2⟩
            · unfold parL
              rw [if_pos y, facP_mn m1 (max m1 m2 + 1) (by omega) dp _ _ f1]
              exact parL_mn (facP_mn m2 (max m1 m2 + 1) (by omega) dp) m2 (max m1 m2) (Nat.le_max_right ..) _ _ q1
            · refine (if_neg nb1).trans ?_
              refine (if_pos B1.1).trans ?_
              refine (bnd f2 _).trans ?_
              refine (if_pos B2.1).trans ?_
              refine (bnd (show c_RR_put d (some (n + 1)) (-12) h2 = some h3 from w1) _).trans ?_
              rw [nI_1]
              exact q2
        · subst k1
          refine ⟨m1 + 1, .inl g, h2, ?_, pre _ ?_, e2.trans f3.1, Or.inr ⟨g, rfl, p, p1, p2, p3⟩⟩
          · unfold parL
            rw [if_pos y, facP_mn m1 (m1 + 1) (by omega) dp _ _ f1]
            rfl
          · refine (if_neg nb1).trans ?_
            refine (if_pos B1.1).trans ?_
            refine (bnd f2 _).trans ?_
            refine (if_pos B2.1).trans ?_
            refine (bnd (RR_put_f B2 p2 (fne p3)) _).trans ?_
            exact RR_p7_f B2 p2 (fne p3)
      · rw [decide_eq_false y] at pre
        have te : tkE t T z.1 wAnd = nxt t T z.1 := by unfold tkE; rw [if_neg y]
        rw [te] at e3
        refine ⟨1, .inr (zAt z (nxt t T z.1)), h1, ?_, pre _ (if_pos rfl), e2, Or.inl ⟨_, rfl, e3⟩⟩
        unfold parL
        rw [if_neg y]
theorem RR_part_ok {d : Nat} (F : FA d n t T dp X0) (z : RZ) (h : sk_H) (hx : T - z.1 ≤ X0) (A : RA h n t T z) : ∃ m r h', parP t T (facP t T m dp) m z = some r ∧ c_RR_readPart d (some (n + 1)) (nI dp) h = some h' ∧ Rz h h' n t T r := by
  obtain ⟨m1, r1, h1, f1, f2, f3⟩ := F z h hx A
  have b1 := A.2.1.1
  have O := A.2.2.2.2.2.1
  have pre : c_RR_readPart d (some (n + 1)) (nI dp) h = k_RR_readPart_7 d (some (n + 1)) (nI dp) (nI 0) h1 := by
    refine (e_RR_readPart _ _ _ _).trans ?_
    refine (if_pos b1).trans ?_
    exact (bnd f2 _).trans rfl
  rcases f3.2 with ⟨z1, k1, k2⟩ | ⟨g, k1, p, p1, p2, p3⟩
  · subst k1
    have G1 := facP_g m1 dp z z1 [] O.1 O.2 f1
    obtain ⟨m2, r, h', q1, q2, q3⟩ := RR_p7 F X0 0 z1 h1 (Nat.le_refl _) (by have := G1.mm.2.2; omega) (Nat.zero_le _) k2
    refine ⟨max m1 m2, r, h', ?_, pre.trans q2, f3.1.trans q3.1, q3.2⟩
    unfold parP
    rw [facP_mn m1 (max m1 m2) (Nat.le_max_left ..) dp _ _ f1]
    exact parL_mn (facP_mn m2 (max m1 m2) (Nat.le_max_right ..) dp) m2 (max m1 m2) (Nat.le_max_right ..) _ _ q1
  · subst k1
    refine ⟨m1, .inl g, h1, ?_, pre.trans (RR_p7_f (A.2.1.pn f3.1) p2 (fne p3)), f3.1, Or.inr ⟨g, rfl, p, p1, p2, p3⟩⟩
    unfold parP
    rw [f1]
    rfl
theorem RR_t7 {d : Nat} (F : FA d n t T dp X0) : ∀ (x i : Nat) (z : RZ) (h : sk_H), x ≤ X0 → T - z.1 ≤ x → i ≤ z.1 → RA h n t T z → ∃ m r h', tesL t T (facP t T m dp) m z = some r ∧ k_RR_readTest_7 (d + 1) (some (n + 1)) (nI dp) (nI i) h = some h' ∧ Rz h h' n t T r
  | x, i, z, h, hX, hx, hi, A => by
    obtain ⟨X, B, C, D, G, O, l⟩ := id A
    obtain ⟨b1, b2, b3, b4, b5⟩ := id B
    have x3 := X.2.2.1
    have hq := nxt_le (t := t) O.1
    have hz := O.1
    by_cases i4 : 400 ≤ i
    · have e1 : z.1 = T := by omega
      have eq : nxt t T z.1 = z.1 := by omega
      have nw : ¬ wdl t T (nxt t T z.1) = wOr := by
        rw [wdl_n (by unfold ltr; exact decide_eq_false (by omega))]
        decide
      refine ⟨1, .inr z, h, ?_, ?_, Iq.refl h, Or.inl ⟨z, rfl, A⟩⟩
      · unfold tesL
        rw [if_neg nw, eq]
        rfl
      · refine (e_RR_readTest_7 _ _ _ _ _).trans ?_
        exact if_pos (show nI 400 ≤ nI i from nI_le i4 (by omega))
    · obtain ⟨h1, e1, e2, e3⟩ := RR_tw (d := d + 1) A (k := 6) (by omega) spO
      have B1 := B.pn e2
      have pre : ∀ w, (if bi (decide (wdl t T (nxt t T z.1) = wOr)) = 0 then some h1 else if hK h1 (n + 1) = 8 then Option.bind (rc_RR_readPart (d + 1) (some (n + 1)) (nI dp) h1) fun q2 => if hK q2 (n + 1) = 8 then Option.bind (c_RR_put (d + 1) (some (n + 1)) ((-13) : Int32) q2) fun q3 => k_RR_readTest_7 (d + 1) (some (n + 1)) (nI dp) (nI i + 1) q3 else none else none) = w → k_RR_readTest_7 (d + 1) (some (n + 1)) (nI dp) (nI i) h = w := by
        intro w hw'
        rw [← hw']
        refine (e_RR_readTest_7 _ _ _ _ _).trans ?_
        refine (if_neg (show ¬ nI 400 ≤ nI i from nI_ge (by omega) (by omega))).trans ?_
        refine (if_pos b1).trans ?_
        refine (bnd b2 _).trans ?_
        refine (if_pos C.1).trans ?_
        exact (bnd (show c_Re_takesWord (d + 1) (hR h (n + 1) 0) (some 8) h = _ by rw [b2]; exact e1) _).trans rfl
      by_cases y : wdl t T (nxt t T z.1) = wOr
      · rw [decide_eq_true y] at pre
        have te : tkE t T z.1 wOr = wE t T (nxt t T z.1) := by unfold tkE; rw [if_pos y]
        rw [te] at e3
        have hE := wE_le (t := t) hq.2
        have hE1 := wE_gt y (by decide)
        obtain ⟨m1, r1, h2, f1, f2, f3⟩ := RR_part_ok F _ h1 (by show T - wE t T (nxt t T z.1) ≤ X0; omega) e3
        have B2 := B.pn (e2.trans f3.1)
        rcases f3.2 with ⟨z1, k1, k2⟩ | ⟨g, k1, p, p1, p2, p3⟩
        · subst k1
          have G1 := parP_g (a := []) (facP_g m1 dp) (show (zAt z (wE t T (nxt t T z.1))).1 ≤ T from hE.2) O.2 f1
          have hl1 := G1.len (j := 1) (by show z.2.1.length + 1 ≤ wE t T (nxt t T z.1); omega)
          have hm1 : wE t T (nxt t T z.1) + 0 ≤ z1.1 := G1.mm.2.2
          obtain ⟨h3, w1, w2, w3⟩ := RR_put_ok (d := d + 1) k2 (by omega) (13, 0)
          have w2 : RA h3 n t T (zE z1 13) := w2
          cases x with
          | zero => exact absurd hE.2 (by omega)
          | succ x =>
            obtain ⟨m2, r, h', q1, q2, q3⟩ := RR_t7 F x (i + 1) (zE z1 13) h3 (by omega) (by show T - z1.1 ≤ x; omega) (by show i + 1 ≤ z1.1; omega) w2
            refine ⟨max m1 m2 + 1, r, h', ?_, pre _ ?_, ((e2.trans f3.1).trans w3).trans q3.1, q3.2⟩
            · unfold tesL
              rw [if_pos y, parP_mn (facP_mn m1 (max m1 m2 + 1) (by omega) dp) (Nat.le_max_left m1 m2) _ _ f1]
              exact tesL_mn (facP_mn m2 (max m1 m2 + 1) (by omega) dp) m2 (max m1 m2) (Nat.le_max_right ..) _ _ q1
            · refine (if_neg nb1).trans ?_
              refine (if_pos B1.1).trans ?_
              refine (bnd ((rc_p d _ _ _).trans f2) _).trans ?_
              refine (if_pos B2.1).trans ?_
              refine (bnd (show c_RR_put (d + 1) (some (n + 1)) (-13) h2 = some h3 from w1) _).trans ?_
              rw [nI_1]
              exact q2
        · subst k1
          refine ⟨m1 + 1, .inl g, h2, ?_, pre _ ?_, e2.trans f3.1, Or.inr ⟨g, rfl, p, p1, p2, p3⟩⟩
          · unfold tesL
            rw [if_pos y, parP_mn (facP_mn m1 (m1 + 1) (by omega) dp) (Nat.le_refl m1) _ _ f1]
            rfl
          · refine (if_neg nb1).trans ?_
            refine (if_pos B1.1).trans ?_
            refine (bnd ((rc_p d _ _ _).trans f2) _).trans ?_
            refine (if_pos B2.1).trans ?_
            refine (bnd (RR_put_f B2 p2 (fne p3)) _).trans ?_
            exact RR_t7_f B2 p2 (fne p3)
      · rw [decide_eq_false y] at pre
        have te : tkE t T z.1 wOr = nxt t T z.1 := by unfold tkE; rw [if_neg y]
        rw [te] at e3
        refine ⟨1, .inr (zAt z (nxt t T z.1)), h1, ?_, pre _ (if_pos rfl), e2, Or.inl ⟨_, rfl, e3⟩⟩
        unfold tesL
        rw [if_neg y]
theorem RR_test_ok {d : Nat} (F : FA d n t T dp X0) (z : RZ) (h : sk_H) (hx : T - z.1 ≤ X0) (A : RA h n t T z) : ∃ m r h', tesP t T (facP t T m dp) m z = some r ∧ c_RR_readTest (d + 1) (some (n + 1)) (nI dp) h = some h' ∧ Rz h h' n t T r := by
  obtain ⟨m1, r1, h1, f1, f2, f3⟩ := RR_part_ok F z h hx A
  have b1 := A.2.1.1
  have O := A.2.2.2.2.2.1
  have pre : c_RR_readTest (d + 1) (some (n + 1)) (nI dp) h = k_RR_readTest_7 (d + 1) (some (n + 1)) (nI dp) (nI 0) h1 := by
    refine (e_RR_readTest _ _ _ _).trans ?_
    refine (if_pos b1).trans ?_
    exact (bnd ((rc_p d _ _ _).trans f2) _).trans rfl
  rcases f3.2 with ⟨z1, k1, k2⟩ | ⟨g, k1, p, p1, p2, p3⟩
  · subst k1
    have G1 := parP_g (a := []) (facP_g m1 dp) O.1 O.2 f1
    obtain ⟨m2, r, h', q1, q2, q3⟩ := RR_t7 F X0 0 z1 h1 (Nat.le_refl _) (by have := G1.mm.2.2; omega) (Nat.zero_le _) k2
    refine ⟨max m1 m2, r, h', ?_, pre.trans q2, f3.1.trans q3.1, q3.2⟩
    unfold tesP
    rw [parP_mn (facP_mn m1 (max m1 m2) (Nat.le_max_left ..) dp) (Nat.le_max_left ..) _ _ f1]
    exact tesL_mn (facP_mn m2 (max m1 m2) (Nat.le_max_right ..) dp) m2 (max m1 m2) (Nat.le_max_right ..) _ _ q1
  · subst k1
    refine ⟨m1, .inl g, h1, ?_, pre.trans (RR_t7_f (A.2.1.pn f3.1) p2 (fne p3)), f3.1, Or.inr ⟨g, rfl, p, p1, p2, p3⟩⟩
    unfold tesP
    rw [f1]
    rfl
end SkRuletest
