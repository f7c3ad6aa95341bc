/-! ===== games, against: both agree ===== -/
section SkGames
variable {L : Nat} {xs : Nat → Int32} {F G : Nat → Prop} {E : Nat → Option DD} {h h' h1 h2 : sk_H} {j a m n i s k x st tu pl ra f X : Nat} {d : Nat} {R : RT} {D : DD} {c : Nat → Nat} {r r0 r1 : Option RT} {y : Nat × Nat} {v : Int32}
theorem TD.bt (t : TD h D a) (T : TC h1 D a) (e10 : hI h1 32 10 = hI h 32 10) (e11 : hI h1 32 11 = hI h 32 11) (e12 : hI h1 32 12 = hI h 32 12) (e13 : hI h1 32 13 = hI h 32 13) (e : ∀ c, 44 ≤ c → c ≤ 48 → hI h1 c = hI h c) : TD h1 D a := by
  obtain ⟨-, t1, t2, t3, t4⟩ := t
  unfold TD TI TB clK TB
  unfold TI TB at t1 t2 t3
  unfold clK TB at t4
  rw [e10, e11, e12, e13, e 44 (by decide) (by decide), e 45 (by decide) (by decide), e 46 (by decide) (by decide), e 47 (by decide) (by decide), e 48 (by decide) (by decide)]
  exact ⟨T, t1, t2, t3, t4⟩
theorem M_in_t (lo hi : Nat) (hlo : lo < 2 ^ 31) (hhi : hi < 2 ^ 31) {l2 h2 : Int64} (e1 : l2 = (nI lo).toInt64) (e2 : h2 = (nI hi).toInt64) {p : Nat} (h1 : lo ≤ p) (h3 : p ≤ hi) : c_M_in d (nI p).toInt64 l2 h2 h = some (h, bi true) := by
  obtain ⟨q, f1, -, f3⟩ := M_in_n (d := d) (h := h) lo hi hlo hhi e1 e2 (nI p)
  cases q
  · exact absurd rfl (f3 rfl p h1 h3)
  · exact f1
/-- is there a rule of that number: both say so -/
theorem isRule_ok (C : CS h) (RSh : RS F h) (x : Int32) : (c_SR_isRule d (some 20) x h = some (h, bi false) ∧ ∀ h1 : sk_H, MS 52 h1 → hI h1 52 2 = hI h 52 2 → c_M_isRule d (some 52) x h1 = some (h1, bi false)) ∨ ∃ y R ra, x = nI y ∧ y < 6 ∧ RW R ∧ hR h 22 y = some ra ∧ RO F h ra R ∧ MR h y R ∧ c_SR_isRule d (some 20) x h = some (h, bi true) ∧ ∀ h1 : sk_H, MS 52 h1 → hI h1 52 2 = hI h 52 2 → c_M_isRule d (some 52) x h1 = some (h1, bi true) := by
  obtain ⟨n, R, hn, e1, e2, e3⟩ := RSh
  rcases i_cases x with hx | ⟨p, hp, rfl⟩
  · left
    refine ⟨?_, fun h1 M e => ?_⟩
    · refine (e_SR_isRule _ _ _ _).trans ?_
      exact if_pos hx
    · refine (e_M_isRule _ _ _ _).trans ?_
      exact if_pos hx
  · have n0 : ¬ nI p < 0 := by rw [l0, q_lt_f (by omega) (by omega)]; exact not_false
    by_cases hq : n ≤ p
    · left
      refine ⟨?_, fun h1 M e => ?_⟩
      · refine (e_SR_isRule _ _ _ _).trans ?_
        refine (if_neg n0).trans ?_
        refine (if_pos C.k20).trans ?_
        exact if_pos (by rw [e1]; exact nI_le hq (by omega))
      · refine (e_M_isRule _ _ _ _).trans ?_
        refine (if_neg n0).trans ?_
        refine (if_pos M.K52).trans ?_
        exact if_pos (by rw [e, e2]; exact nI_le hq (by omega))
    · right
      obtain ⟨f1, ⟨ra, f2, f3⟩, f4⟩ := e3 p (by omega)
      refine ⟨p, R p, ra, rfl, by omega, f1, f2, f3, f4, ?_, fun h1 M e => ?_⟩
      · refine (e_SR_isRule _ _ _ _).trans ?_
        refine (if_neg n0).trans ?_
        refine (if_pos C.k20).trans ?_
        exact if_neg (by rw [e1]; exact nI_ge (by omega) (by omega))
      · refine (e_M_isRule _ _ _ _).trans ?_
        refine (if_neg n0).trans ?_
        refine (if_pos M.K52).trans ?_
        exact if_neg (by rw [e, e2]; exact nI_ge (by omega) (by omega))
/-- what a bout finds -/
theorem JB.bout (J : JB L xs F E j h st tu pl) : tu ≤ 1 ∧ hI h 23 2 = nI tu ∧ hI h 23 3 = nI pl ∧ hI h 62 7 = nI tu ∧ hI h 62 9 = nI pl ∧ ∃ X, X < 2 ^ 31 ∧ hI h 23 4 = nI X ∧ hI h 52 21 = nI X := by
  obtain ⟨s0, s1, s2, s3, s4, s5, s6, s7, s8, s9⟩ := J.2.2.2.2.2.2.2.2.2.1
  obtain ⟨d1, d2⟩ := J.2.2.2.2.2.2.2.2.2.2.1
  refine ⟨s8, s2, s3, s4, s6, ?_⟩
  rcases i_cases (hI h 52 21) with hx | ⟨p, hp, hx⟩
  · exact absurd d2 (Int32.not_le.mpr hx)
  · exact ⟨p, hp, by rw [d1]; exact hx, hx⟩
theorem QC.mb (Q : QC F h a D c st) (U : Cq h h1) : MB h1 D := by
  obtain ⟨C, M, hF, w, O, r, i, hst, T, S, s8, X⟩ := Q
  exact ⟨M.cq U, by rw [U.I52 (by decide)]; exact S, X.cq U⟩
theorem lt1 {x : Int32} (h : x < nI 0) : x < 1 := Int32.lt_trans h (by decide)
theorem MR.cq {x : Nat} (T : MR h x R) (Q : Cq h h1) : MR h1 x R := by
  unfold MR
  rw [Q.I52 (a := 57) (by decide), Q.I52 (a := 54) (by decide), Q.I52 (a := 56) (by decide)]
  exact T
theorem q_games (a0 a1 : Int32) : sk_Ag (JJ L xs) L xs 52 (fun h => c_SR_games 40 (some 20) a0 a1 h) (fun h => c_M_games 40 (some 52) a0 a1 h) := by
  refine Ag_of (fun j h F E J r s => ?_) (fun j h F E st tu pl a D c hj J hE Q => ?_)
  · have C := J.2.1
    have M := J.2.2.1
    refine ⟨nM, ?_, ?_⟩
    · refine (e_SR_games _ _ _ _ _).trans ?_
      refine (if_pos C.k20).trans ?_
      refine (bnd C.r20_4 _).trans ?_
      refine (if_pos C.k23).trans ?_
      exact if_pos r
    · refine (e_M_games _ _ _ _ _).trans ?_
      refine (if_pos M.K52).trans ?_
      refine (bnd (M_isAlley_0 M (s 0 (by omega))) _).trans ?_
      exact if_pos (show nI 0 = 0 by decide)
  · obtain ⟨C, M, hF, w, O, r, i, hst, T, S, s8, X⟩ := id Q
    obtain ⟨ht, i2, i3, s7, s9, x, hx, i4, m4⟩ := J.bout
    have rn : ¬ hR h 23 0 = none := by rw [r]; exact fun q => by cases q
    obtain ⟨b1, f1, f2, f3⟩ := M_in_n (d := 40) (h := h) 1 50 (by decide) (by decide) (l2 := 1) (h2 := 50) (by decide) (by decide) a0
    obtain ⟨b2, g1, g2, g3⟩ := M_in_n (d := 40) (h := h) 0 1 (by decide) (by decide) (l2 := 0) (h2 := 1) (by decide) (by decide) a1
    cases b1
    · refine ⟨h, h, nM, ?_, Cq.refl h, T, ?_, Mq.refl h, X⟩
      · refine (e_SR_games _ _ _ _ _).trans ?_
        refine (if_pos C.k20).trans ?_
        refine (bnd C.r20_4 _).trans ?_
        refine (if_pos C.k23).trans ?_
        refine (if_neg rn).trans ?_
        by_cases z : a0 < (1 : Int32)
        · exact if_pos z
        · refine (if_neg z).trans ?_
          refine if_pos ?_
          rcases i_cases a0 with hq | ⟨p, hp, rfl⟩
          · exact absurd (lt1 hq) z
          · have hp1 : 1 ≤ p := by
              rcases Nat.eq_zero_or_pos p with q | q
              · subst q; exact absurd (by decide) z
              · exact q
            have hp2 : ¬ p ≤ 50 := fun q => f3 rfl p hp1 q rfl
            show nI 50 < nI p
            rw [q_lt_t (by omega) (by omega)]; exact True.intro
      · refine (e_M_games _ _ _ _ _).trans ?_
        refine (if_pos M.K52).trans ?_
        refine (bnd (M_isAlley_1 M S.2.1) _).trans ?_
        refine (if_neg (show ¬ nI 1 = 0 by decide)).trans ?_
        refine (bnd f1 _).trans ?_
        exact if_pos (show bi false = 0 by decide)
    · obtain ⟨N, n1, n2, rfl⟩ := f2 rfl
      have z1 : ¬ nI N < (1 : Int32) := by rw [l1, q_lt_f (by omega) (by omega)]; exact not_false
      have z2 : ¬ (50 : Int32) < nI N := by rw [show (50 : Int32) = nI 50 from rfl, q_lt_f (by omega) (by omega)]; exact not_false
      cases b2
      · refine ⟨h, h, nM, ?_, Cq.refl h, T, ?_, Mq.refl h, X⟩
        · refine (e_SR_games _ _ _ _ _).trans ?_
          refine (if_pos C.k20).trans ?_
          refine (bnd C.r20_4 _).trans ?_
          refine (if_pos C.k23).trans ?_
          refine (if_neg rn).trans ?_
          refine (if_neg z1).trans ?_
          refine (if_neg z2).trans ?_
          by_cases z : a1 < (0 : Int32)
          · exact if_pos z
          · refine (if_neg z).trans ?_
            refine if_neg ?_
            rcases i_cases a1 with hq | ⟨p, hp, rfl⟩
            · exact absurd hq z
            · have hp2 : ¬ p ≤ 1 := fun q => g3 rfl p (by omega) q rfl
              show ¬ nI p ≤ nI 1
              exact nI_ge (by omega) (by omega)
        · refine (e_M_games _ _ _ _ _).trans ?_
          refine (if_pos M.K52).trans ?_
          refine (bnd (M_isAlley_1 M S.2.1) _).trans ?_
          refine (if_neg (show ¬ nI 1 = 0 by decide)).trans ?_
          refine (bnd f1 _).trans ?_
          refine (if_neg (show ¬ bi true = 0 by decide)).trans ?_
          refine (bnd g1 _).trans ?_
          exact if_neg (show ¬ ¬ bi false = 0 by decide)
      · obtain ⟨W, w1, w2, rfl⟩ := g2 rfl
        obtain ⟨h1, p1, p2, p3, p4, p5, p6, p7, p8, p9, p10⟩ := Bo_times_ok (d := 40) (N := N) (x3 := none) (x4 := none) (r0 := none) (r1 := none) w hF (by omega) hst ht C O T.1 r i i2 i3 hx i4 (Or.inl ⟨rfl, rfl⟩) (Or.inl ⟨rfl, rfl⟩)
        have B1 := Q.mb p2
        have M1 := B1.1
        have C1 := C.cq p2
        have e62 := p2.I52 (a := 62) (by decide)
        have e52 : hI h1 52 2 = hI h 52 2 := by rw [p2.I52 (by decide)]
        obtain ⟨h2, m1, m2, m3, m5, m6⟩ := M_plays_drawn (d := 40) (N := N) (x1 := (-1)) (r0 := none) w (by omega) hst ht B1 (by rw [e62]; exact s7) (by rw [e62]; exact s8) (by rw [e62]; exact s9) (by rw [p2.I52 (by decide)]; exact m4) hx (Or.inl ⟨by decide, rfl⟩)
        have z3 : ¬ nI W < (0 : Int32) := by rw [l0, q_lt_f (by omega) (by omega)]; exact not_false
        have z4 : nI W ≤ (1 : Int32) := nI_le (b := 1) w2 (by omega)
        have f1 := M_in_t (d := 40) (h := h1) 1 50 (by decide) (by decide) (l2 := 1) (h2 := 50) (by decide) (by decide) n1 n2
        have g1 := M_in_t (d := 40) (h := h1) 0 1 (by decide) (by decide) (l2 := 0) (h2 := 1) (by decide) (by decide) w1 w2
        have p1' : c_Bo_playTimes 40 (hR h 20 8) (hR h 20 4) (hR h 20 7) none none (nI N) h = some h1 := by rw [C.r20_8, C.r20_4, C.r20_7]; exact p1
        have M2 := m3.1
        have TD1 := T.bt p3 p4 p5 p6 p7 p8
        rcases (show W = 0 ∨ W = 1 by omega) with rfl | rfl
        · refine ⟨h1, h2, nI (gms D (none) none st tu pl N (0, 0, x)).1, ?_, p2, TD1, ?_, m2, m3.2.2⟩
          · refine (e_SR_games _ _ _ _ _).trans ?_
            refine (if_pos C.k20).trans ?_
            refine (bnd C.r20_4 _).trans ?_
            refine (if_pos C.k23).trans ?_
            refine (if_neg rn).trans ?_
            refine (if_neg z1).trans ?_
            refine (if_neg z2).trans ?_
            refine (if_neg z3).trans ?_
            refine (if_pos z4).trans ?_
            refine (if_pos C.k20).trans ?_
            refine (if_pos C.k20).trans ?_
            refine (if_pos C.k20).trans ?_
            refine (bnd C.r20_8 _).trans ?_
            refine (if_pos C.k49).trans ?_
            refine (bnd p1' _).trans ?_
            refine (if_neg (show ¬ ¬ nI 0 = 0 by decide)).trans ?_
            refine (if_pos C1.k20).trans ?_
            refine (bnd C1.r20_8 _).trans ?_
            refine (if_pos C1.k49).trans ?_
            rw [p9]
          · refine (e_M_games _ _ _ _ _).trans ?_
            refine (if_pos M1.K52).trans ?_
            refine (bnd (M_isAlley_1 M1 B1.2.1.2.1) _).trans ?_
            refine (if_neg (show ¬ nI 1 = 0 by decide)).trans ?_
            refine (bnd f1 _).trans ?_
            refine (if_neg (show ¬ bi true = 0 by decide)).trans ?_
            refine (bnd g1 _).trans ?_
            refine (if_pos (show ¬ bi true = 0 by decide)).trans ?_
            refine (if_pos M1.K52).trans ?_
            refine (bnd m1 _).trans ?_
            refine (if_neg (show ¬ ¬ nI 0 = 0 by decide)).trans ?_
            refine (if_pos M2.K52).trans ?_
            rw [m5]
        · refine ⟨h1, h2, nI (gms D (none) none st tu pl N (0, 0, x)).2.1, ?_, p2, TD1, ?_, m2, m3.2.2⟩
          · refine (e_SR_games _ _ _ _ _).trans ?_
            refine (if_pos C.k20).trans ?_
            refine (bnd C.r20_4 _).trans ?_
            refine (if_pos C.k23).trans ?_
            refine (if_neg rn).trans ?_
            refine (if_neg z1).trans ?_
            refine (if_neg z2).trans ?_
            refine (if_neg z3).trans ?_
            refine (if_pos z4).trans ?_
            refine (if_pos C.k20).trans ?_
            refine (if_pos C.k20).trans ?_
            refine (if_pos C.k20).trans ?_
            refine (bnd C.r20_8 _).trans ?_
            refine (if_pos C.k49).trans ?_
            refine (bnd p1' _).trans ?_
            refine (if_pos (show ¬ nI 1 = 0 by decide)).trans ?_
            refine (if_pos C1.k20).trans ?_
            refine (bnd C1.r20_8 _).trans ?_
            refine (if_pos C1.k49).trans ?_
            rw [p10]
          · refine (e_M_games _ _ _ _ _).trans ?_
            refine (if_pos M1.K52).trans ?_
            refine (bnd (M_isAlley_1 M1 B1.2.1.2.1) _).trans ?_
            refine (if_neg (show ¬ nI 1 = 0 by decide)).trans ?_
            refine (bnd f1 _).trans ?_
            refine (if_neg (show ¬ bi true = 0 by decide)).trans ?_
            refine (bnd g1 _).trans ?_
            refine (if_pos (show ¬ bi true = 0 by decide)).trans ?_
            refine (if_pos M1.K52).trans ?_
            refine (bnd m1 _).trans ?_
            refine (if_pos (show ¬ nI 1 = 0 by decide)).trans ?_
            refine (if_pos M2.K52).trans ?_
            rw [m6]
theorem q_against (a0 a1 a2 : Int32) : sk_Ag (JJ L xs) L xs 52 (fun h => c_SR_against 40 (some 20) a0 a1 a2 h) (fun h => c_M_against 40 (some 52) a0 a1 a2 h) := by
  refine Ag_of (fun j h F E J r s => ?_) (fun j h F E st tu pl a D c hj J hE Q => ?_)
  · have C := J.2.1
    have M := J.2.2.1
    refine ⟨nM, ?_, ?_⟩
    · refine (e_SR_against _ _ _ _ _ _).trans ?_
      refine (if_pos C.k20).trans ?_
      refine (bnd C.r20_4 _).trans ?_
      refine (if_pos C.k23).trans ?_
      exact if_pos r
    · refine (e_M_against _ _ _ _ _ _).trans ?_
      refine (if_pos M.K52).trans ?_
      refine (bnd (M_isAlley_0 M (s 0 (by omega))) _).trans ?_
      exact if_pos (show nI 0 = 0 by decide)
  · obtain ⟨C, M, hF, w, O, r, i, hst, T, S, s8, X⟩ := id Q
    obtain ⟨ht, i2, i3, s7, s9, x, hx, i4, m4⟩ := J.bout
    have rn : ¬ hR h 23 0 = none := by rw [r]; exact fun q => by cases q
    rcases isRule_ok (d := 40) C J.2.2.2.2.2.2.1 a0 with ⟨u1, u2⟩ | ⟨y, R, ra, rfl, hy, hW, u1, u2, u3, u4, u5⟩
    · refine ⟨h, h, nM, ?_, Cq.refl h, T, ?_, Mq.refl h, X⟩
      · refine (e_SR_against _ _ _ _ _ _).trans ?_
        refine (if_pos C.k20).trans ?_
        refine (bnd C.r20_4 _).trans ?_
        refine (if_pos C.k23).trans ?_
        refine (if_neg rn).trans ?_
        refine (if_pos C.k20).trans ?_
        refine (bnd u1 _).trans ?_
        exact if_pos (show bi false = 0 by decide)
      · refine (e_M_against _ _ _ _ _ _).trans ?_
        refine (if_pos M.K52).trans ?_
        refine (bnd (M_isAlley_1 M S.2.1) _).trans ?_
        refine (if_neg (show ¬ nI 1 = 0 by decide)).trans ?_
        refine (if_pos M.K52).trans ?_
        refine (bnd (u2 h M rfl) _).trans ?_
        exact if_pos (show bi false = 0 by decide)
    · obtain ⟨b1, f1, f2, f3⟩ := M_in_n (d := 40) (h := h) 1 50 (by decide) (by decide) (l2 := 1) (h2 := 50) (by decide) (by decide) a1
      obtain ⟨b2, g1, g2, g3⟩ := M_in_n (d := 40) (h := h) 0 1 (by decide) (by decide) (l2 := 0) (h2 := 1) (by decide) (by decide) a2
      cases b1
      · refine ⟨h, h, nM, ?_, Cq.refl h, T, ?_, Mq.refl h, X⟩
        · refine (e_SR_against _ _ _ _ _ _).trans ?_
          refine (if_pos C.k20).trans ?_
          refine (bnd C.r20_4 _).trans ?_
          refine (if_pos C.k23).trans ?_
          refine (if_neg rn).trans ?_
          refine (if_pos C.k20).trans ?_
          refine (bnd u4 _).trans ?_
          refine (if_neg (show ¬ bi true = 0 by decide)).trans ?_
          by_cases z : a1 < (1 : Int32)
          · exact if_pos z
          · refine (if_neg z).trans ?_
            refine if_pos ?_
            rcases i_cases a1 with hq | ⟨p, hp, rfl⟩
            · exact absurd (lt1 hq) z
            · have hp1 : 1 ≤ p := by
                rcases Nat.eq_zero_or_pos p with q | q
                · subst q; exact absurd (by decide) z
                · exact q
              have hp2 : ¬ p ≤ 50 := fun q => f3 rfl p hp1 q rfl
              show nI 50 < nI p
              rw [q_lt_t (by omega) (by omega)]; exact True.intro
        · refine (e_M_against _ _ _ _ _ _).trans ?_
          refine (if_pos M.K52).trans ?_
          refine (bnd (M_isAlley_1 M S.2.1) _).trans ?_
          refine (if_neg (show ¬ nI 1 = 0 by decide)).trans ?_
          refine (if_pos M.K52).trans ?_
          refine (bnd (u5 h M rfl) _).trans ?_
          refine (if_neg (show ¬ bi true = 0 by decide)).trans ?_
          refine (bnd f1 _).trans ?_
          exact if_pos (show bi false = 0 by decide)
      · obtain ⟨N, n1, n2, rfl⟩ := f2 rfl
        have z1 : ¬ nI N < (1 : Int32) := by rw [l1, q_lt_f (by omega) (by omega)]; exact not_false
        have z2 : ¬ (50 : Int32) < nI N := by rw [show (50 : Int32) = nI 50 from rfl, q_lt_f (by omega) (by omega)]; exact not_false
        cases b2
        · refine ⟨h, h, nM, ?_, Cq.refl h, T, ?_, Mq.refl h, X⟩
          · refine (e_SR_against _ _ _ _ _ _).trans ?_
            refine (if_pos C.k20).trans ?_
            refine (bnd C.r20_4 _).trans ?_
            refine (if_pos C.k23).trans ?_
            refine (if_neg rn).trans ?_
            refine (if_pos C.k20).trans ?_
            refine (bnd u4 _).trans ?_
            refine (if_neg (show ¬ bi true = 0 by decide)).trans ?_
            refine (if_neg z1).trans ?_
            refine (if_neg z2).trans ?_
            by_cases z : a2 < (0 : Int32)
            · exact if_pos z
            · refine (if_neg z).trans ?_
              refine if_neg ?_
              rcases i_cases a2 with hq | ⟨p, hp, rfl⟩
              · exact absurd hq z
              · have hp2 : ¬ p ≤ 1 := fun q => g3 rfl p (by omega) q rfl
                show ¬ nI p ≤ nI 1
                exact nI_ge (by omega) (by omega)
          · refine (e_M_against _ _ _ _ _ _).trans ?_
            refine (if_pos M.K52).trans ?_
            refine (bnd (M_isAlley_1 M S.2.1) _).trans ?_
            refine (if_neg (show ¬ nI 1 = 0 by decide)).trans ?_
            refine (if_pos M.K52).trans ?_
            refine (bnd (u5 h M rfl) _).trans ?_
            refine (if_neg (show ¬ bi true = 0 by decide)).trans ?_
            refine (bnd f1 _).trans ?_
            refine (if_neg (show ¬ bi true = 0 by decide)).trans ?_
            refine (bnd g1 _).trans ?_
            exact if_neg (show ¬ ¬ bi false = 0 by decide)
        · obtain ⟨W, w1, w2, rfl⟩ := g2 rfl
          obtain ⟨h1, p1, p2, p3, p4, p5, p6, p7, p8, p9, p10⟩ := Bo_times_ok (d := 40) (N := N) (x3 := some ra) (x4 := none) (r0 := some R) (r1 := none) w hF (by omega) hst ht C O T.1 r i i2 i3 hx i4 (Or.inr ⟨ra, R, rfl, rfl, hW, u2⟩) (Or.inl ⟨rfl, rfl⟩)
          have B1 := Q.mb p2
          have M1 := B1.1
          have C1 := C.cq p2
          have e62 := p2.I52 (a := 62) (by decide)
          have e52 : hI h1 52 2 = hI h 52 2 := by rw [p2.I52 (by decide)]
          obtain ⟨h2, m1, m2, m3, m5, m6⟩ := M_plays_drawn (d := 40) (N := N) (x1 := nI y) (r0 := some R) w (by omega) hst ht B1 (by rw [e62]; exact s7) (by rw [e62]; exact s8) (by rw [e62]; exact s9) (by rw [p2.I52 (by decide)]; exact m4) hx (Or.inr ⟨y, R, rfl, hy, rfl, hW, MR.cq u3 p2⟩)
          have z3 : ¬ nI W < (0 : Int32) := by rw [l0, q_lt_f (by omega) (by omega)]; exact not_false
          have z4 : nI W ≤ (1 : Int32) := nI_le (b := 1) w2 (by omega)
          have f1 := M_in_t (d := 40) (h := h1) 1 50 (by decide) (by decide) (l2 := 1) (h2 := 50) (by decide) (by decide) n1 n2
          have g1 := M_in_t (d := 40) (h := h1) 0 1 (by decide) (by decide) (l2 := 0) (h2 := 1) (by decide) (by decide) w1 w2
          have p1' : c_Bo_playTimes 40 (hR h 20 8) (hR h 20 4) (hR h 20 7) (hR h 22 (nI y).toNatClampNeg) none (nI N) h = some h1 := by rw [C.r20_8, C.r20_4, C.r20_7, q_cl (by omega), u1]; exact p1
          have M2 := m3.1
          have TD1 := T.bt p3 p4 p5 p6 p7 p8
          rcases (show W = 0 ∨ W = 1 by omega) with rfl | rfl
          · refine ⟨h1, h2, nI (gms D (some R) none st tu pl N (0, 0, x)).1, ?_, p2, TD1, ?_, m2, m3.2.2⟩
            · refine (e_SR_against _ _ _ _ _ _).trans ?_
              refine (if_pos C.k20).trans ?_
              refine (bnd C.r20_4 _).trans ?_
              refine (if_pos C.k23).trans ?_
              refine (if_neg rn).trans ?_
              refine (if_pos C.k20).trans ?_
              refine (bnd u4 _).trans ?_
              refine (if_neg (show ¬ bi true = 0 by decide)).trans ?_
              refine (if_neg z1).trans ?_
              refine (if_neg z2).trans ?_
              refine (if_neg z3).trans ?_
              refine (if_pos z4).trans ?_
              refine (if_pos C.k20).trans ?_
              refine (if_pos C.k20).trans ?_
              refine (if_pos C.k20).trans ?_
              refine (if_pos C.k20).trans ?_
              refine (bnd C.r20_2 _).trans ?_
              refine (if_pos ⟨by rw [C.k22]; rfl, by rw [C.n22]; exact vp_in_nI (by omega) (by omega)⟩).trans ?_
              refine (bnd C.r20_8 _).trans ?_
              refine (if_pos C.k49).trans ?_
              refine (bnd p1' _).trans ?_
              refine (if_neg (show ¬ ¬ nI 0 = 0 by decide)).trans ?_
              refine (if_pos C1.k20).trans ?_
              refine (bnd C1.r20_8 _).trans ?_
              refine (if_pos C1.k49).trans ?_
              rw [p9]
            · refine (e_M_against _ _ _ _ _ _).trans ?_
              refine (if_pos M1.K52).trans ?_
              refine (bnd (M_isAlley_1 M1 B1.2.1.2.1) _).trans ?_
              refine (if_neg (show ¬ nI 1 = 0 by decide)).trans ?_
              refine (if_pos M1.K52).trans ?_
              refine (bnd (u5 h1 M1 e52) _).trans ?_
              refine (if_neg (show ¬ bi true = 0 by decide)).trans ?_
              refine (bnd f1 _).trans ?_
              refine (if_neg (show ¬ bi true = 0 by decide)).trans ?_
              refine (bnd g1 _).trans ?_
              refine (if_pos (show ¬ bi true = 0 by decide)).trans ?_
              refine (if_pos M1.K52).trans ?_
              refine (bnd m1 _).trans ?_
              refine (if_neg (show ¬ ¬ nI 0 = 0 by decide)).trans ?_
              refine (if_pos M2.K52).trans ?_
              rw [m5]
          · refine ⟨h1, h2, nI (gms D (some R) none st tu pl N (0, 0, x)).2.1, ?_, p2, TD1, ?_, m2, m3.2.2⟩
            · refine (e_SR_against _ _ _ _ _ _).trans ?_
              refine (if_pos C.k20).trans ?_
              refine (bnd C.r20_4 _).trans ?_
              refine (if_pos C.k23).trans ?_
              refine (if_neg rn).trans ?_
              refine (if_pos C.k20).trans ?_
              refine (bnd u4 _).trans ?_
              refine (if_neg (show ¬ bi true = 0 by decide)).trans ?_
              refine (if_neg z1).trans ?_
              refine (if_neg z2).trans ?_
              refine (if_neg z3).trans ?_
              refine (if_pos z4).trans ?_
              refine (if_pos C.k20).trans ?_
              refine (if_pos C.k20).trans ?_
              refine (if_pos C.k20).trans ?_
              refine (if_pos C.k20).trans ?_
              refine (bnd C.r20_2 _).trans ?_
              refine (if_pos ⟨by rw [C.k22]; rfl, by rw [C.n22]; exact vp_in_nI (by omega) (by omega)⟩).trans ?_
              refine (bnd C.r20_8 _).trans ?_
              refine (if_pos C.k49).trans ?_
              refine (bnd p1' _).trans ?_
              refine (if_pos (show ¬ nI 1 = 0 by decide)).trans ?_
              refine (if_pos C1.k20).trans ?_
              refine (bnd C1.r20_8 _).trans ?_
              refine (if_pos C1.k49).trans ?_
              rw [p10]
            · refine (e_M_against _ _ _ _ _ _).trans ?_
              refine (if_pos M1.K52).trans ?_
              refine (bnd (M_isAlley_1 M1 B1.2.1.2.1) _).trans ?_
              refine (if_neg (show ¬ nI 1 = 0 by decide)).trans ?_
              refine (if_pos M1.K52).trans ?_
              refine (bnd (u5 h1 M1 e52) _).trans ?_
              refine (if_neg (show ¬ bi true = 0 by decide)).trans ?_
              refine (bnd f1 _).trans ?_
              refine (if_neg (show ¬ bi true = 0 by decide)).trans ?_
              refine (bnd g1 _).trans ?_
              refine (if_pos (show ¬ bi true = 0 by decide)).trans ?_
              refine (if_pos M1.K52).trans ?_
              refine (bnd m1 _).trans ?_
              refine (if_pos (show ¬ nI 1 = 0 by decide)).trans ?_
              refine (if_pos M2.K52).trans ?_
              rw [m6]
end SkGames
