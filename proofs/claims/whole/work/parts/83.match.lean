/-! ===== a match of two rules: both agree ===== -/
section SkMatch
variable {L : Nat} {xs : Nat → Int32} {F G : Nat → Prop} {E : Nat → Option DD} {h h' h1 h2 : sk_H} {j a m n i s k x st tu pl ra f X : Nat} {d : Nat} {R R0 R1 : RT} {D : DD} {c : Nat → Nat} {y : Nat × Nat} {v : Int32}
def PV (D : DD) (v : Int32) (r : Option RT) (st tu pl X : Nat) : Prop := (pick D r st tu pl X = none ∧ v = nM) ∨ ∃ y, pick D r st tu pl X = some y ∧ v = nI (aT (dA D) st y)
theorem M_by2 (hW : RW R) (w : dW D) (hst : st < 2 ^ aN (dA D)) {y : Nat} (hy : y < 6) (B : MB h D) (T : MR h y R) : ∃ h1 v, c_M_strokeBy d (some 52) (nI y) (nI st) (nI tu) (nI pl) h = some (h1, v) ∧ Mq h h1 ∧ MB h1 D ∧ PV D v (some R) st tu pl X := by
  obtain ⟨h1, e1, e2, e3⟩ := M_strokeBy_ok (d := d) (tu := tu) (pl := pl) hW w hst hy B T
  refine ⟨h1, _, e1, e2.1, e3, ?_⟩
  cases hb : best D R st tu pl with
  | none => exact Or.inl ⟨by show (best D R st tu pl).map Prod.fst = none; rw [hb]; rfl, rfl⟩
  | some z => exact Or.inr ⟨z.1, by show (best D R st tu pl).map Prod.fst = some z.1; rw [hb]; rfl, rfl⟩
theorem nx_R (q : Prop) [Decidable q] : nxX (if q then some R0 else some R1) X = X := by
  by_cases hq : q
  · rw [if_pos hq]; rfl
  · rw [if_neg hq]; rfl
theorem M_ma_in (w : dW D) {y0 y1 : Nat} {x3 : Int32} (hy0 : y0 < 6) (hy1 : y1 < 6) (W0 : RW R0) (W1 : RW R1) : ∀ (f st tu n : Nat) (v : Int32) (h : sk_H), bk st.testBit 12 ≤ f → st < 2 ^ aN (dA D) → tu ≤ 1 → MB h D → hI h 62 9 = nI pl → MR h y0 R0 → MR h y1 R1 → PV D v (if tu = 0 then some R0 else some R1) st tu (pl + n) X → ∃ h', k_M_match_83 d (some 52) (nI y0) (nI y1) x3 (nI tu) (nI n) v h = some (h', if ¬ x3 = 0 then nI (n + (pld D (some R0) (some R1) f st tu (pl + n) X).1) else nI (if wn0 D (pld D (some R0) (some R1) f st tu (pl + n) X).2.1 = true then 0 else 1)) ∧ Mq h h' ∧ MB h' D := by
  intro f
  induction f with
  | zero => ?_
  | succ f ih => ?_
  all_goals
    intro st tu n v h hb hst ht B s9 T0 T1 P
    obtain ⟨M, S, W⟩ := id B
    have hst4 := p12 w.1 hst
    have done : pick D (if tu = 0 then some R0 else some R1) st tu (pl + n) X = none → v = nM → ∀ f, ∃ h', k_M_match_83 d (some 52) (nI y0) (nI y1) x3 (nI tu) (nI n) v h = some (h', if ¬ x3 = 0 then nI (n + (pld D (some R0) (some R1) f st tu (pl + n) X).1) else nI (if wn0 D (pld D (some R0) (some R1) f st tu (pl + n) X).2.1 = true then 0 else 1)) ∧ Mq h h' ∧ MB h' D := by
      intro g1 g2 f
      rw [pld_none g1, g2]
      refine ⟨h, ?_, Mq.refl h, B⟩
      refine (e_M_match_83 _ _ _ _ _ _ _ _ _).trans ?_
      refine (if_pos (by decide)).trans ?_
      by_cases hx : x3 = 0
      · have hx' : ¬ ¬ x3 = 0 := fun q => q hx
        rw [if_neg hx', if_neg hx']
        refine (if_pos M.K52).trans ?_
        exact bnd (M_winner_ok B ht) _
      · rw [if_pos hx, if_pos hx]
        rfl
  · rcases P with ⟨g1, g2⟩ | ⟨y, g1, g2⟩
    · exact done g1 g2 0
    · have := pick_aT hst4 g1
      omega
  · rcases P with ⟨g1, g2⟩ | ⟨y, g1, g2⟩
    · exact done g1 g2 (f + 1)
    · have bl := pick_aT hst4 g1
      have l4 := p12 w.1 (aT_lp (D := D) hst y)
      have hl := aT_lp (D := D) hst y
      rw [pld_some g1, nx_R]
      obtain ⟨h1, v', p1, p2, p3, p4⟩ : ∃ h1 v', k_M_match_83 d (some 52) (nI y0) (nI y1) x3 (nI tu) (nI n) v h = k_M_match_83 d (some 52) (nI y0) (nI y1) x3 (nI (1 - tu)) (nI (n + 1)) v' h1 ∧ Mq h h1 ∧ MB h1 D ∧ PV D v' (if 1 - tu = 0 then some R0 else some R1) (aT (dA D) st y) (1 - tu) (pl + (n + 1)) X := by
        have pre : ∀ Gv : Option (sk_H × Int32), ((if ¬ nI (1 - tu) = 0 then Option.bind (c_M_strokeBy d (some 52) (nI y1) (nI (aT (dA D) st y)) (nI (1 - tu)) (nI (pl + (n + 1))) h) fun q3 => k_M_match_83 d (some 52) (nI y0) (nI y1) x3 (nI (1 - tu)) (nI (n + 1)) q3.2 q3.1 else Option.bind (c_M_strokeBy d (some 52) (nI y0) (nI (aT (dA D) st y)) (nI (1 - tu)) (nI (pl + (n + 1))) h) fun q3 => k_M_match_83 d (some 52) (nI y0) (nI y1) x3 (nI (1 - tu)) (nI (n + 1)) q3.2 q3.1) = Gv) → k_M_match_83 d (some 52) (nI y0) (nI y1) x3 (nI tu) (nI n) v h = Gv := by
          intro Gv hG
          rw [← hG, g2]
          refine (e_M_match_83 _ _ _ _ _ _ _ _ _).trans ?_
          refine (if_neg (show ¬ nI (aT (dA D) st y) < 0 by rw [l0, q_lt_f (by omega) (by omega)]; exact not_false)).trans ?_
          have et : (1 : Int32) - nI tu = nI (1 - tu) := by rw [l1, q_sub ht]
          rw [et]
          by_cases z : ¬ nI (1 - tu) = 0
          · rw [if_pos z, if_pos z]
            refine (if_pos M.K52).trans ?_
            refine (bnd M.R20 _).trans ?_
            refine (if_pos ⟨Or.inl M.K62, by rw [M.N62]; exact vp_in_nI (n := 9) (by omega) (by omega)⟩).trans ?_
            refine (if_pos M.K52).trans ?_
            rw [show (9 : Int32).toNatClampNeg = 9 from rfl, s9, nI_1, nI_add]
          · rw [if_neg z, if_neg z]
            refine (if_pos M.K52).trans ?_
            refine (bnd M.R20 _).trans ?_
            refine (if_pos ⟨Or.inl M.K62, by rw [M.N62]; exact vp_in_nI (n := 9) (by omega) (by omega)⟩).trans ?_
            refine (if_pos M.K52).trans ?_
            rw [show (9 : Int32).toNatClampNeg = 9 from rfl, s9, nI_1, nI_add]
        rcases (show tu = 0 ∨ tu = 1 by omega) with rfl | rfl
        · obtain ⟨h1, v', q1, q2, q3, q4⟩ := M_by2 (d := d) (tu := 1 - 0) (pl := pl + (n + 1)) (X := X) W1 w hl hy1 B T1
          exact ⟨h1, v', pre _ ((if_pos (show ¬ nI (1 - 0) = 0 by decide)).trans (bnd q1 _)), q2, q3, q4⟩
        · obtain ⟨h1, v', q1, q2, q3, q4⟩ := M_by2 (d := d) (tu := 1 - 1) (pl := pl + (n + 1)) (X := X) W0 w hl hy0 B T0
          exact ⟨h1, v', pre _ ((if_neg (show ¬ ¬ nI (1 - 1) = 0 by decide)).trans (bnd q1 _)), q2, q3, q4⟩
      obtain ⟨h', q1, q2, q3⟩ := ih (aT (dA D) st y) (1 - tu) (n + 1) v' h1 (by omega) hl (by omega) p3 (by rw [p2.Iw (by decide) (by decide)]; exact s9) (T0.mq p2) (T1.mq p2) p4
      refine ⟨h', ?_, p2.trans q2, q3⟩
      rw [p1, q1, show n + ((pld D (some R0) (some R1) f (aT (dA D) st y) (1 - tu) (pl + n + 1) X).1 + 1) = n + 1 + (pld D (some R0) (some R1) f (aT (dA D) st y) (1 - tu) (pl + n + 1) X).1 by omega]
      rfl
theorem q_match (a0 a1 a2 : Int32) : sk_Ag (JJ L xs) L xs 52 (fun h => c_SR_match 40 (some 20) a0 a1 a2 h) (fun h => c_M_match 40 (some 52) a0 a1 a2 h) := by
  refine Ag_of (fun j h F E J r s => ?_) (fun j h F E st tu pl a D c hj J hE Q => ?_)
  · have C := J.2.1
    have M := J.2.2.1
    refine ⟨nM, ?_, ?_⟩
    · refine (e_SR_match _ _ _ _ _ _).trans ?_
      refine (if_pos C.k20).trans ?_
      refine (bnd C.r20_4 _).trans ?_
      refine (if_pos C.k23).trans ?_
      exact if_pos r
    · refine (e_M_match _ _ _ _ _ _).trans ?_
      refine (if_pos M.K52).trans ?_
      refine (bnd (M_isAlley_0 M (s 0 (by omega))) _).trans ?_
      exact if_pos (show nI 0 = 0 by decide)
  · obtain ⟨C, M, hF, w, O, r, i, hst, T, S, s8, X⟩ := id Q
    obtain ⟨ht, i2, i3, s7, s9, x, hx, i4, m4⟩ := J.bout
    have rn : ¬ hR h 23 0 = none := by rw [r]; exact fun q => by cases q
    rcases isRule_ok (d := 40) C J.2.2.2.2.2.2.1 a0 with ⟨u1, u2⟩ | ⟨y, R, ra, rfl, hy, hW, u1, u2, u3, u4, u5⟩
    · refine ⟨h, h, nM, ?_, Cq.refl h, T, ?_, Mq.refl h, X⟩
      · refine (e_SR_match _ _ _ _ _ _).trans ?_
        refine (if_pos C.k20).trans ?_
        refine (bnd C.r20_4 _).trans ?_
        refine (if_pos C.k23).trans ?_
        refine (if_neg rn).trans ?_
        refine (if_pos C.k20).trans ?_
        refine (bnd u1 _).trans ?_
        exact if_pos (show bi false = 0 by decide)
      · refine (e_M_match _ _ _ _ _ _).trans ?_
        refine (if_pos M.K52).trans ?_
        refine (bnd (M_isAlley_1 M S.2.1) _).trans ?_
        refine (if_neg (show ¬ nI 1 = 0 by decide)).trans ?_
        refine (if_pos M.K52).trans ?_
        refine (bnd (u2 h M rfl) _).trans ?_
        exact if_pos (show bi false = 0 by decide)
    · rcases isRule_ok (d := 40) C J.2.2.2.2.2.2.1 a1 with ⟨t1, t2⟩ | ⟨y1, R1, ra1, rfl, hy1, hW1, t1, t2, t3, t4, t5⟩
      · refine ⟨h, h, nM, ?_, Cq.refl h, T, ?_, Mq.refl h, X⟩
        · refine (e_SR_match _ _ _ _ _ _).trans ?_
          refine (if_pos C.k20).trans ?_
          refine (bnd C.r20_4 _).trans ?_
          refine (if_pos C.k23).trans ?_
          refine (if_neg rn).trans ?_
          refine (if_pos C.k20).trans ?_
          refine (bnd u4 _).trans ?_
          refine (if_neg (show ¬ bi true = 0 by decide)).trans ?_
          refine (if_pos C.k20).trans ?_
          refine (bnd t1 _).trans ?_
          exact if_pos (show bi false = 0 by decide)
        · refine (e_M_match _ _ _ _ _ _).trans ?_
          refine (if_pos M.K52).trans ?_
          refine (bnd (M_isAlley_1 M S.2.1) _).trans ?_
          refine (if_neg (show ¬ nI 1 = 0 by decide)).trans ?_
          refine (if_pos M.K52).trans ?_
          refine (bnd (u5 h M rfl) _).trans ?_
          refine (if_neg (show ¬ bi true = 0 by decide)).trans ?_
          refine (if_pos M.K52).trans ?_
          refine (bnd (t2 h M rfl) _).trans ?_
          exact if_pos (show bi false = 0 by decide)
      · obtain ⟨b2, g1, g2, g3⟩ := M_in_n (d := 40) (h := h) 0 1 (by decide) (by decide) (l2 := 0) (h2 := 1) (by decide) (by decide) a2
        cases b2
        · refine ⟨h, h, nM, ?_, Cq.refl h, T, ?_, Mq.refl h, X⟩
          · refine (e_SR_match _ _ _ _ _ _).trans ?_
            refine (if_pos C.k20).trans ?_
            refine (bnd C.r20_4 _).trans ?_
            refine (if_pos C.k23).trans ?_
            refine (if_neg rn).trans ?_
            refine (if_pos C.k20).trans ?_
            refine (bnd u4 _).trans ?_
            refine (if_neg (show ¬ bi true = 0 by decide)).trans ?_
            refine (if_pos C.k20).trans ?_
            refine (bnd t4 _).trans ?_
            refine (if_neg (show ¬ bi true = 0 by decide)).trans ?_
            by_cases z : a2 < (0 : Int32)
            · exact if_pos z
            · refine (if_neg z).trans ?_
              refine if_neg ?_
              rcases i_cases a2 with hq | ⟨p, hp, rfl⟩
              · exact absurd hq z
              · have hp2 : ¬ p ≤ 1 := fun q => g3 rfl p (by omega) q rfl
                show ¬ nI p ≤ nI 1
                exact nI_ge (by omega) (by omega)
          · refine (e_M_match _ _ _ _ _ _).trans ?_
            refine (if_pos M.K52).trans ?_
            refine (bnd (M_isAlley_1 M S.2.1) _).trans ?_
            refine (if_neg (show ¬ nI 1 = 0 by decide)).trans ?_
            refine (if_pos M.K52).trans ?_
            refine (bnd (u5 h M rfl) _).trans ?_
            refine (if_neg (show ¬ bi true = 0 by decide)).trans ?_
            refine (if_pos M.K52).trans ?_
            refine (bnd (t5 h M rfl) _).trans ?_
            refine (if_neg (show ¬ bi true = 0 by decide)).trans ?_
            refine (bnd g1 _).trans ?_
            exact if_neg (show ¬ ¬ bi false = 0 by decide)
        · obtain ⟨W, w1, w2, rfl⟩ := g2 rfl
          obtain ⟨h1, p1, p2, p3, p4, p5, p6, p7, p8, p9, p10⟩ := Bo_times_ok (d := 40) (N := 1) (x3 := some ra) (x4 := some ra1) (r0 := some R) (r1 := some R1) w hF (by omega) hst ht C O T.1 r i i2 i3 hx i4 (Or.inr ⟨ra, R, rfl, rfl, hW, u2⟩) (Or.inr ⟨ra1, R1, rfl, rfl, hW1, t2⟩)
          have B1 := Q.mb p2
          have M1 := B1.1
          have C1 := C.cq p2
          have e62 := p2.I52 (a := 62) (by decide)
          have e52 : hI h1 52 2 = hI h 52 2 := by rw [p2.I52 (by decide)]
          have T0 := u3.cq p2
          have T1 := t3.cq p2
          have z3 : ¬ nI W < (0 : Int32) := by rw [l0, q_lt_f (by omega) (by omega)]; exact not_false
          have z4 : nI W ≤ (1 : Int32) := nI_le (b := 1) w2 (by omega)
          have g1 := M_in_t (d := 40) (h := h1) 0 1 (by decide) (by decide) (l2 := 0) (h2 := 1) (by decide) (by decide) w1 w2
          obtain ⟨h2, m1, m2, m3⟩ : ∃ h2, c_M_match 40 (some 52) (nI y) (nI y1) (nI W) h1 = some (h2, if ¬ nI W = 0 then nI (0 + (pld D (some R) (some R1) 12 st tu (pl + 0) x).1) else nI (if wn0 D (pld D (some R) (some R1) 12 st tu (pl + 0) x).2.1 = true then 0 else 1)) ∧ Mq h1 h2 ∧ MB h2 D := by
            rcases (show tu = 0 ∨ tu = 1 by omega) with rfl | rfl
            · obtain ⟨g, v, b1, b2, b3, b4⟩ := M_by2 (d := 40) (h := h1) (tu := 0) (pl := pl + 0) (X := x) hW w hst hy B1 T0
              obtain ⟨h2, c1, c2, c3⟩ := M_ma_in (d := 40) (x3 := nI W) (y0 := y) (y1 := y1) (R0 := R) (R1 := R1) (pl := pl) (X := x) w hy hy1 hW hW1 12 st 0 0 v g (bk_le _ 12) hst (by omega) b3 (by rw [b2.Iw (by decide) (by decide), e62]; exact s9) (T0.mq b2) (T1.mq b2) b4
              refine ⟨h2, ?_, b2.trans c2, c3⟩
              rw [← c1]
              refine (e_M_match _ _ _ _ _ _).trans ?_
              refine (if_pos M1.K52).trans ?_
              refine (bnd (M_isAlley_1 M1 B1.2.1.2.1) _).trans ?_
              refine (if_neg (show ¬ nI 1 = 0 by decide)).trans ?_
              refine (if_pos M1.K52).trans ?_
              refine (bnd (u5 h1 M1 e52) _).trans ?_
              refine (if_neg (show ¬ bi true = 0 by decide)).trans ?_
              refine (if_pos M1.K52).trans ?_
              refine (bnd (t5 h1 M1 e52) _).trans ?_
              refine (if_neg (show ¬ bi true = 0 by decide)).trans ?_
              refine (bnd g1 _).trans ?_
              refine (if_pos (show ¬ bi true = 0 by decide)).trans ?_
              refine (if_pos M1.K52).trans ?_
              refine (bnd M1.R20 _).trans ?_
              refine (if_pos ⟨Or.inl M1.K62, by rw [M1.N62]; exact vp_in_nI (n := 8) (by omega) (by omega)⟩).trans ?_
              refine (if_pos M1.K52).trans ?_
              refine (bnd M1.R20 _).trans ?_
              refine (if_pos ⟨Or.inl M1.K62, by rw [M1.N62]; exact vp_in_nI (n := 7) (by omega) (by omega)⟩).trans ?_
              rw [show (8 : Int32).toNatClampNeg = 8 from rfl, show (7 : Int32).toNatClampNeg = 7 from rfl, e62, s7, s8]
              refine (if_neg (show ¬ ¬ nI 0 = 0 by decide)).trans ?_
              refine (if_pos M1.K52).trans ?_
              refine (bnd M1.R20 _).trans ?_
              refine (if_pos ⟨Or.inl M1.K62, by rw [M1.N62]; exact vp_in_nI (n := 9) (by omega) (by omega)⟩).trans ?_
              refine (if_pos M1.K52).trans ?_
              rw [show (9 : Int32).toNatClampNeg = 9 from rfl, e62, s9]
              exact bnd b1 _
            · obtain ⟨g, v, b1, b2, b3, b4⟩ := M_by2 (d := 40) (h := h1) (tu := 1) (pl := pl + 0) (X := x) hW1 w hst hy1 B1 T1
              obtain ⟨h2, c1, c2, c3⟩ := M_ma_in (d := 40) (x3 := nI W) (y0 := y) (y1 := y1) (R0 := R) (R1 := R1) (pl := pl) (X := x) w hy hy1 hW hW1 12 st 1 0 v g (bk_le _ 12) hst (by omega) b3 (by rw [b2.Iw (by decide) (by decide), e62]; exact s9) (T0.mq b2) (T1.mq b2) b4
              refine ⟨h2, ?_, b2.trans c2, c3⟩
              rw [← c1]
              refine (e_M_match _ _ _ _ _ _).trans ?_
              refine (if_pos M1.K52).trans ?_
              refine (bnd (M_isAlley_1 M1 B1.2.1.2.1) _).trans ?_
              refine (if_neg (show ¬ nI 1 = 0 by decide)).trans ?_
              refine (if_pos M1.K52).trans ?_
              refine (bnd (u5 h1 M1 e52) _).trans ?_
              refine (if_neg (show ¬ bi true = 0 by decide)).trans ?_
              refine (if_pos M1.K52).trans ?_
              refine (bnd (t5 h1 M1 e52) _).trans ?_
              refine (if_neg (show ¬ bi true = 0 by decide)).trans ?_
              refine (bnd g1 _).trans ?_
              refine (if_pos (show ¬ bi true = 0 by decide)).trans ?_
              refine (if_pos M1.K52).trans ?_
              refine (bnd M1.R20 _).trans ?_
              refine (if_pos ⟨Or.inl M1.K62, by rw [M1.N62]; exact vp_in_nI (n := 8) (by omega) (by omega)⟩).trans ?_
              refine (if_pos M1.K52).trans ?_
              refine (bnd M1.R20 _).trans ?_
              refine (if_pos ⟨Or.inl M1.K62, by rw [M1.N62]; exact vp_in_nI (n := 7) (by omega) (by omega)⟩).trans ?_
              rw [show (8 : Int32).toNatClampNeg = 8 from rfl, show (7 : Int32).toNatClampNeg = 7 from rfl, e62, s7, s8]
              refine (if_pos (show ¬ nI 1 = 0 by decide)).trans ?_
              refine (if_pos M1.K52).trans ?_
              refine (bnd M1.R20 _).trans ?_
              refine (if_pos ⟨Or.inl M1.K62, by rw [M1.N62]; exact vp_in_nI (n := 9) (by omega) (by omega)⟩).trans ?_
              refine (if_pos M1.K52).trans ?_
              rw [show (9 : Int32).toNatClampNeg = 9 from rfl, e62, s9]
              exact bnd b1 _
          have p1' : c_Bo_playTimes 40 (hR h 20 8) (hR h 20 4) (hR h 20 7) (hR h 22 (nI y).toNatClampNeg) (hR h 22 (nI y1).toNatClampNeg) (1 : Int32) h = some h1 := by rw [C.r20_8, C.r20_4, C.r20_7, q_cl (by omega), q_cl (by omega), u1, t1]; exact p1
          have TD1 := T.bt p3 p4 p5 p6 p7 p8
          rw [Nat.add_zero, Nat.zero_add] at m1
          have p9 : hI h1 49 7 = nI (0 + (if wn0 D (pld D (some R) (some R1) 12 st tu pl x).2.1 = true then 1 else 0)) := p9
          have p10 : hI h1 49 8 = nI (0 + (pld D (some R) (some R1) 12 st tu pl x).1) := p10
          rw [Nat.zero_add] at p9 p10
          rcases (show W = 0 ∨ W = 1 by omega) with rfl | rfl
          · refine ⟨h1, h2, _, ?_, p2, TD1, m1, m2, m3.2.2⟩
            rw [if_neg (show ¬ ¬ nI 0 = 0 by decide)]
            refine (e_SR_match _ _ _ _ _ _).trans ?_
            refine (if_pos C.k20).trans ?_
            refine (bnd C.r20_4 _).trans ?_
            refine (if_pos C.k23).trans ?_
            refine (if_neg rn).trans ?_
            refine (if_pos C.k20).trans ?_
            refine (bnd u4 _).trans ?_
            refine (if_neg (show ¬ bi true = 0 by decide)).trans ?_
            refine (if_pos C.k20).trans ?_
            refine (bnd t4 _).trans ?_
            refine (if_neg (show ¬ bi true = 0 by decide)).trans ?_
            refine (if_neg z3).trans ?_
            refine (if_pos z4).trans ?_
            refine (if_pos C.k20).trans ?_
            refine (if_pos C.k20).trans ?_
            refine (if_pos C.k20).trans ?_
            refine (if_pos C.k20).trans ?_
            refine (bnd C.r20_2 _).trans ?_
            refine (if_pos ⟨by rw [C.k22]; rfl, by rw [C.n22]; exact vp_in_nI (by omega) (by omega)⟩).trans ?_
            refine (if_pos C.k20).trans ?_
            refine (bnd C.r20_2 _).trans ?_
            refine (if_pos ⟨by rw [C.k22]; rfl, by rw [C.n22]; exact vp_in_nI (by omega) (by omega)⟩).trans ?_
            refine (bnd C.r20_8 _).trans ?_
            refine (if_pos C.k49).trans ?_
            refine (bnd p1' _).trans ?_
            refine (if_pos (show ¬ nI 0 = 1 by decide)).trans ?_
            refine (if_pos C1.k20).trans ?_
            refine (bnd C1.r20_8 _).trans ?_
            refine (if_pos C1.k49).trans ?_
            by_cases hw : wn0 D (pld D (some R) (some R1) 12 st tu pl x).2.1 = true
            · rw [if_pos hw] at p9
              rw [if_pos hw]
              exact if_neg (by rw [p9]; decide)
            · rw [if_neg hw] at p9
              rw [if_neg hw]
              exact if_pos (by rw [p9]; decide)
          · refine ⟨h1, h2, _, ?_, p2, TD1, m1, m2, m3.2.2⟩
            rw [if_pos (show ¬ nI 1 = 0 by decide)]
            refine (e_SR_match _ _ _ _ _ _).trans ?_
            refine (if_pos C.k20).trans ?_
            refine (bnd C.r20_4 _).trans ?_
            refine (if_pos C.k23).trans ?_
            refine (if_neg rn).trans ?_
            refine (if_pos C.k20).trans ?_
            refine (bnd u4 _).trans ?_
            refine (if_neg (show ¬ bi true = 0 by decide)).trans ?_
            refine (if_pos C.k20).trans ?_
            refine (bnd t4 _).trans ?_
            refine (if_neg (show ¬ bi true = 0 by decide)).trans ?_
            refine (if_neg z3).trans ?_
            refine (if_pos z4).trans ?_
            refine (if_pos C.k20).trans ?_
            refine (if_pos C.k20).trans ?_
            refine (if_pos C.k20).trans ?_
            refine (if_pos C.k20).trans ?_
            refine (bnd C.r20_2 _).trans ?_
            refine (if_pos ⟨by rw [C.k22]; rfl, by rw [C.n22]; exact vp_in_nI (by omega) (by omega)⟩).trans ?_
            refine (if_pos C.k20).trans ?_
            refine (bnd C.r20_2 _).trans ?_
            refine (if_pos ⟨by rw [C.k22]; rfl, by rw [C.n22]; exact vp_in_nI (by omega) (by omega)⟩).trans ?_
            refine (bnd C.r20_8 _).trans ?_
            refine (if_pos C.k49).trans ?_
            refine (bnd p1' _).trans ?_
            refine (if_neg (show ¬ ¬ nI 1 = 1 by decide)).trans ?_
            refine (if_pos C1.k20).trans ?_
            refine (bnd C1.r20_8 _).trans ?_
            refine (if_pos C1.k49).trans ?_
            rw [p10]
end SkMatch
