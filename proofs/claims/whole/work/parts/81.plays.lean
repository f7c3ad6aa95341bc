/-! ===== many plays: the reference ===== -/
section SkPlays
variable {F G : Nat → Prop} {h h' h1 h2 : sk_H} {a m n i s k x st tu pl ra f X : Nat} {d : Nat} {R : RT} {D : DD} {c : Nat → Nat} {r r0 r1 : Option RT} {y : Nat × Nat} {v : Int32}
def Oq (h h' : sk_H) : Prop := Mq h h' ∧ ∀ i, 35 ≤ i → hI h' 52 i = hI h 52 i
theorem Oq.refl (h : sk_H) : Oq h h := ⟨Mq.refl h, fun _ _ => rfl⟩
theorem Oq.trans (P : Oq h h1) (Q : Oq h1 h2) : Oq h h2 := ⟨P.1.trans Q.1, fun i hi => (Q.2 i hi).trans (P.2 i hi)⟩
theorem Nq.oq (Q : Nq h h1) : Oq h h1 := ⟨Q.1, fun i hi => Q.2.2 i (by omega)⟩
/-- a rule of the reference, or none -/
def MX (h : sk_H) (x : Int32) (r : Option RT) : Prop := (x < 0 ∧ r = none) ∨ ∃ y R, x = nI y ∧ y < 6 ∧ r = some R ∧ RW R ∧ MR h y R
theorem MX.mq {x : Int32} (O : MX h x r) (Q : Mq h h1) : MX h1 x r := O.imp id (fun ⟨y, R, e1, e2, e3, e4, e5⟩ => ⟨y, R, e1, e2, e3, e4, e5.mq Q⟩)
def PKm (D : DD) (h h1 : sk_H) (v : Int32) (r : Option RT) (st tu pl X : Nat) : Prop := Oq h h1 ∧ MB h1 D ∧ ((pick D r st tu pl X = none ∧ v = nM ∧ hJ h1 52 34 = nL X) ∨ ∃ y, pick D r st tu pl X = some y ∧ v = nI (aT (dA D) st y) ∧ hJ h1 52 34 = nL (nxX r X))
theorem M_dr1 (w : dW D) (hst : st < 2 ^ aN (dA D)) (B : MB h D) (hX : hJ h 52 34 = nL X) (hx : X < 2 ^ 31) : ∃ h1 v, c_M_strokeDrawn d (some 52) (nI st) h = some (h1, v) ∧ PKm D h h1 v none st tu pl X := by
  rcases M_strokeDrawn_ok (d := d) w hst B hX hx with ⟨e1, e2⟩ | ⟨y, e1, e2⟩
  · exact ⟨h, nM, e2, Oq.refl h, B, Or.inl ⟨e1, rfl, hX⟩⟩
  · exact ⟨_, _, e2, ⟨Mq.vJ h 34 _ (by decide), fun _ _ => rfl⟩, B, Or.inr ⟨y, e1, rfl, by rw [hJ_wJ, if_pos ⟨rfl, rfl⟩]; rfl⟩⟩
theorem M_by1 (hW : RW R) (w : dW D) (hst : st < 2 ^ aN (dA D)) {y : Nat} (hy : y < 6) (B : MB h D) (T : MR h y R) (hX : hJ h 52 34 = nL X) : ∃ h1 v, c_M_strokeBy d (some 52) (nI y) (nI st) (nI tu) (nI pl) h = some (h1, v) ∧ PKm D h h1 v (some R) st tu pl X := by
  obtain ⟨h1, e1, e2, e3⟩ := M_strokeBy_ok (d := d) (tu := tu) (pl := pl) hW w hst hy B T
  have e4 : hJ h1 52 34 = nL X := by rw [e2.2.1]; exact hX
  refine ⟨h1, _, e1, e2.oq, e3, ?_⟩
  cases hb : best D R st tu pl with
  | none => exact Or.inl ⟨by show (best D R st tu pl).map Prod.fst = none; rw [hb]; rfl, rfl, e4⟩
  | some z => exact Or.inr ⟨z.1, by show (best D R st tu pl).map Prod.fst = some z.1; rw [hb]; rfl, rfl, e4⟩
theorem nx_lt (hx : X < 2 ^ 31) : nxX r X < 2 ^ 31 := by
  cases r
  · exact lcg_lt X
  · exact hx
theorem M_winner_ok (B : MB h D) (ht : tu ≤ 1) : c_M_winner d (some 52) (nI tu) h = some (h, nI (if wn0 D tu = true then 0 else 1)) := by
  obtain ⟨M, S, X⟩ := B
  refine (e_M_winner _ _ _ _).trans ?_
  refine (if_pos M.K52).trans ?_
  refine (bnd M.R20 _).trans ?_
  refine (if_pos ⟨Or.inl M.K62, by rw [M.N62]; exact vp_in_nI (n := 5) (by omega) (by omega)⟩).trans ?_
  rw [show (5 : Int32).toNatClampNeg = 5 from rfl, S.2.2.2.2.1]
  unfold wn0
  rcases (show tu = 0 ∨ tu = 1 by omega) with rfl | rfl <;> cases dL D <;> rfl
theorem M_pd_in (w : dW D) {x1 N i : Int32} : ∀ (f st tu n X : Nat) (h : sk_H), bk st.testBit 12 ≤ f → st < 2 ^ aN (dA D) → tu ≤ 1 → MB h D → hI h 62 9 = nI pl → hJ h 52 34 = nL X → X < 2 ^ 31 → MX h x1 r0 → ∃ h' st', k_M_playsDrawn_50 d (some 52) x1 N i (nI st) (nI tu) (nI n) (1 : Int32) h = k_M_playsDrawn_50 d (some 52) x1 N i st' (nI (pld D r0 none f st tu (pl + n) X).2.1) (nI (n + (pld D r0 none f st tu (pl + n) X).1)) (0 : Int32) h' ∧ Oq h h' ∧ MB h' D ∧ hJ h' 52 34 = nL (pld D r0 none f st tu (pl + n) X).2.2 ∧ (pld D r0 none f st tu (pl + n) X).2.2 < 2 ^ 31 := by
  intro f
  induction f with
  | zero => ?_
  | succ f ih => ?_
  all_goals
    intro st tu n X h hb hst ht B s9 hX hx O
    obtain ⟨M, S, W⟩ := id B
    have hst4 := p12 w.1 hst
    obtain ⟨h1, v, p1, p2, p3, p4⟩ : ∃ h1 v, k_M_playsDrawn_50 d (some 52) x1 N i (nI st) (nI tu) (nI n) (1 : Int32) h = k_M_playsDrawn_92 d (some 52) x1 N i (nI st) (nI tu) (nI n) v h1 ∧ PKm D h h1 v (if tu = 0 then r0 else none) st tu (pl + n) X := by
      by_cases ht0 : tu = 0
      · rw [if_pos ht0]
        have e0 : ¬ ¬ nI tu = 0 := by rw [ht0]; decide
        rcases O with ⟨o1, rfl⟩ | ⟨y, R, rfl, hy, rfl, hW, T⟩
        · obtain ⟨h1, v, q1, q2⟩ := M_dr1 (d := d) (tu := tu) (pl := pl + n) w hst B hX hx
          refine ⟨h1, v, ?_, q2⟩
          refine (e_M_playsDrawn_50 _ _ _ _ _ _ _ _ _ _).trans ?_
          refine (if_neg (by decide)).trans ?_
          refine (if_neg e0).trans ?_
          refine (if_pos o1).trans ?_
          refine (if_pos M.K52).trans ?_
          exact bnd q1 _
        · obtain ⟨h1, v, q1, q2⟩ := M_by1 (d := d) (tu := tu) (pl := pl + n) hW w hst hy B T hX
          refine ⟨h1, v, ?_, q2⟩
          refine (e_M_playsDrawn_50 _ _ _ _ _ _ _ _ _ _).trans ?_
          refine (if_neg (by decide)).trans ?_
          refine (if_neg e0).trans ?_
          refine (if_neg (show ¬ nI y < 0 by rw [l0, q_lt_f (by omega) (by omega)]; exact not_false)).trans ?_
          refine (if_pos M.K52).trans ?_
          refine (bnd M.R20 _).trans ?_
          refine (if_pos ⟨Or.inl M.K62, by rw [M.N62]; exact vp_in_nI (n := 9) (by omega) (by omega)⟩).trans ?_
          refine (if_pos M.K52).trans ?_
          rw [show (9 : Int32).toNatClampNeg = 9 from rfl, s9, nI_add]
          exact bnd q1 _
      · rw [if_neg ht0]
        obtain ⟨h1, v, q1, q2⟩ := M_dr1 (d := d) (tu := tu) (pl := pl + n) w hst B hX hx
        refine ⟨h1, v, ?_, q2⟩
        refine (e_M_playsDrawn_50 _ _ _ _ _ _ _ _ _ _).trans ?_
        refine (if_neg (by decide)).trans ?_
        refine (if_pos (show ¬ nI tu = 0 by rw [show tu = 1 by omega]; decide)).trans ?_
        refine (if_pos M.K52).trans ?_
        exact bnd q1 _
    have done : pick D (if tu = 0 then r0 else none) st tu (pl + n) X = none → v = nM → hJ h1 52 34 = nL X → ∀ f, ∃ h' st', k_M_playsDrawn_50 d (some 52) x1 N i (nI st) (nI tu) (nI n) (1 : Int32) h = k_M_playsDrawn_50 d (some 52) x1 N i st' (nI (pld D r0 none f st tu (pl + n) X).2.1) (nI (n + (pld D r0 none f st tu (pl + n) X).1)) (0 : Int32) h' ∧ Oq h h' ∧ MB h' D ∧ hJ h' 52 34 = nL (pld D r0 none f st tu (pl + n) X).2.2 ∧ (pld D r0 none f st tu (pl + n) X).2.2 < 2 ^ 31 := by
      intro g1 g2 g3 f
      rw [pld_none g1]
      refine ⟨h1, nI st, ?_, p2, p3, g3, hx⟩
      rw [p1, g2]
      refine (e_M_playsDrawn_92 _ _ _ _ _ _ _ _ _ _).trans ?_
      refine (if_pos (by decide)).trans ?_
      exact if_neg (by decide)
  · rcases p4 with ⟨g1, g2, g3⟩ | ⟨y, g1, g2, g3⟩
    · exact done g1 g2 g3 0
    · have := pick_aT hst4 g1
      omega
  · rcases p4 with ⟨g1, g2, g3⟩ | ⟨y, g1, g2, g3⟩
    · exact done g1 g2 g3 (f + 1)
    · have bl := pick_aT hst4 g1
      have l4 := p12 w.1 (aT_lp (D := D) hst y)
      rw [pld_some g1]
      obtain ⟨h', st', q1, q2, q3⟩ := ih (aT (dA D) st y) (1 - tu) (n + 1) (nxX (if tu = 0 then r0 else none) X) h1 (by omega) (aT_lp hst y) (by omega) p3 (by rw [p2.1.Iw (by decide) (by decide)]; exact s9) g3 (nx_lt hx) (O.mq p2.1)
      refine ⟨h', st', ?_, p2.trans q2, q3⟩
      rw [p1, g2]
      refine (e_M_playsDrawn_92 _ _ _ _ _ _ _ _ _ _).trans ?_
      refine (if_neg (show ¬ nI (aT (dA D) st y) < 0 by rw [l0, q_lt_f (by omega) (by omega)]; exact not_false)).trans ?_
      refine (if_pos (by decide)).trans ?_
      rw [nI_1, l1, q_sub ht]
      refine q1.trans ?_
      rw [show n + ((pld D r0 none f (aT (dA D) st y) (1 - tu) (pl + n + 1) (nxX (if tu = 0 then r0 else none) X)).1 + 1) = n + 1 + (pld D r0 none f (aT (dA D) st y) (1 - tu) (pl + n + 1) (nxX (if tu = 0 then r0 else none) X)).1 by omega]
      rfl
theorem MB.v52 (B : MB h D) (i : Nat) (v : Int32) (hi : i = 35 ∨ i = 36) : MB (wI h 52 i v) D := by
  have Q : Mq h (wI h 52 i v) := Mq.vI h v (by rcases hi with rfl | rfl <;> decide)
  refine B.mq Q ?_
  unfold MWon
  rw [show hI (wI h 52 i v) 63 = hI h 63 from funext fun k => by rw [hI_wI, if_neg (fun q => absurd q.1 (by decide))], hI_wI, if_neg (fun q => by omega)]
  exact B.2.2
theorem M_pl_in (w : dW D) {x1 : Int32} {N : Nat} (hN : N < 2 ^ 31) (hst : st < 2 ^ aN (dA D)) (ht : tu ≤ 1) : ∀ (k i : Nat) (s : Nat × Nat × Nat) (h : sk_H), i + k = N → MB h D → hI h 62 7 = nI tu → hI h 62 8 = nI st → hI h 62 9 = nI pl → hI h 52 35 = nI s.1 → hI h 52 36 = nI s.2.1 → hJ h 52 34 = nL s.2.2 → s.2.2 < 2 ^ 31 → MX h x1 r0 → ∃ h', k_M_playsDrawn_21 d (some 52) x1 (nI N) (nI i) h = some h' ∧ Mq h h' ∧ MB h' D ∧ hI h' 52 35 = nI (gms D r0 none st tu pl k s).1 ∧ hI h' 52 36 = nI (gms D r0 none st tu pl k s).2.1
  | 0, i, s, h, hk, B, s7, s8, s9, h5, h6, hX, hx, O => by
    refine ⟨h, ?_, Mq.refl h, B, h5, h6⟩
    refine (e_M_playsDrawn_21 _ _ _ _ _ _).trans ?_
    exact if_pos (nI_le (by omega) (by omega))
  | k + 1, i, s, h, hk, B, s7, s8, s9, h5, h6, hX, hx, O => by
    obtain ⟨M, S, W⟩ := id B
    obtain ⟨h1, st', q1, q2, q3, q4, q5⟩ := M_pd_in (d := d) (N := nI N) (i := nI i) w 12 st tu 0 s.2.2 h (bk_le _ 12) hst ht B s9 hX hx O
    rw [Nat.add_zero] at q1 q4 q5
    rw [Nat.zero_add] at q1
    have M1 := q3.1
    obtain ⟨g1, hg1⟩ : ∃ g1, g1 = wI h1 52 36 (hI h1 52 36 + nI (pld D r0 none 12 st tu pl s.2.2).1) := ⟨_, rfl⟩
    have Bg : MB g1 D := by rw [hg1]; exact q3.v52 36 _ (Or.inr rfl)
    have ht' := pld_tu (D := D) (r0 := r0) (r1 := none) 12 st tu pl s.2.2 ht
    have wi := M_winner_ok (d := d) Bg ht'
    have v5 : hI g1 52 35 = nI s.1 := by rw [hg1, hI_wI, if_neg (by decide), q2.2 35 (by decide)]; exact h5
    have v6 : hI g1 52 36 = nI (s.2.1 + (pld D r0 none 12 st tu pl s.2.2).1) := by rw [hg1, hI_wI, if_pos ⟨rfl, rfl⟩, q2.2 36 (by decide), h6, nI_add]
    have fin : ∀ (v : Nat), v = s.1 + (if wn0 D (pld D r0 none 12 st tu pl s.2.2).2.1 = true then 1 else 0) → ∃ g, k_M_playsDrawn_21 d (some 52) x1 (nI N) (nI (i + 1)) (wI g1 52 35 (nI v)) = some g ∧ Mq h g ∧ MB g D ∧ hI g 52 35 = nI (gms D r0 none st tu pl (k + 1) s).1 ∧ hI g 52 36 = nI (gms D r0 none st tu pl (k + 1) s).2.1 := by
      intro v hv
      have Q7 : Mq h (wI g1 52 35 (nI v)) := (q2.1.trans (by rw [hg1]; exact Mq.vI _ _ (by decide))).trans (Mq.vI _ _ (by decide))
      obtain ⟨g, g2, g3, g4⟩ := M_pl_in w hN hst ht k (i + 1) (gm1 D r0 none st tu pl s) (wI g1 52 35 (nI v)) (by omega) (Bg.v52 35 _ (Or.inl rfl)) (by rw [Q7.Iw (by decide) (by decide)]; exact s7) (by rw [Q7.Iw (by decide) (by decide)]; exact s8) (by rw [Q7.Iw (by decide) (by decide)]; exact s9) (by rw [hI_wI, if_pos ⟨rfl, rfl⟩, hv]; rfl) (by rw [hI_wI, if_neg (by decide)]; exact v6) (by rw [hg1]; exact q4) q5 (O.mq Q7)
      exact ⟨g, g2, Q7.trans g3, g4⟩
    have head : ∀ (Gv : Option sk_H), ((if ¬ nI (if wn0 D (pld D r0 none 12 st tu pl s.2.2).2.1 = true then 0 else 1) = 0 then k_M_playsDrawn_21 d (some 52) x1 (nI N) (nI (i + 1)) (wI g1 52 35 (nI (s.1 + 0))) else k_M_playsDrawn_21 d (some 52) x1 (nI N) (nI (i + 1)) (wI g1 52 35 (nI (s.1 + 1)))) = Gv) → k_M_playsDrawn_21 d (some 52) x1 (nI N) (nI i) h = Gv := by
      intro Gv hG
      rw [← hG]
      refine (e_M_playsDrawn_21 _ _ _ _ _ _).trans ?_
      refine (if_neg (nI_ge (by omega) (by omega))).trans ?_
      refine (if_pos M.K52).trans ?_
      refine (bnd M.R20 _).trans ?_
      refine (if_pos ⟨Or.inl M.K62, by rw [M.N62]; exact vp_in_nI (n := 8) (by omega) (by omega)⟩).trans ?_
      refine (if_pos M.K52).trans ?_
      refine (bnd M.R20 _).trans ?_
      refine (if_pos ⟨Or.inl M.K62, by rw [M.N62]; exact vp_in_nI (n := 7) (by omega) (by omega)⟩).trans ?_
      rw [show (8 : Int32).toNatClampNeg = 8 from rfl, show (7 : Int32).toNatClampNeg = 7 from rfl, s7, s8]
      refine q1.trans ?_
      refine (e_M_playsDrawn_50 _ _ _ _ _ _ _ _ _ _).trans ?_
      refine (if_pos rfl).trans ?_
      refine (if_pos M1.K52).trans ?_
      refine (if_pos M1.K52).trans ?_
      rw [← hg1]
      refine (if_pos Bg.1.K52).trans ?_
      refine (if_pos Bg.1.K52).trans ?_
      refine (bnd wi _).trans ?_
      have e0 : hI g1 52 35 + (0 : Int32) = nI (s.1 + 0) := by rw [v5, l0, nI_add]
      have e1 : hI g1 52 35 + (1 : Int32) = nI (s.1 + 1) := by rw [v5, nI_1]
      by_cases z1 : ¬ nI (if wn0 D (pld D r0 none 12 st tu pl s.2.2).2.1 = true then 0 else 1) = 0
      · rw [if_pos z1, if_pos z1]
        refine (if_pos Bg.1.K52).trans ?_
        rw [e0, nI_1]
      · rw [if_neg z1, if_neg z1]
        refine (if_pos Bg.1.K52).trans ?_
        rw [e1, nI_1]
    by_cases hw : wn0 D (pld D r0 none 12 st tu pl s.2.2).2.1 = true
    · obtain ⟨g, g2, g3⟩ := fin (s.1 + 1) (by rw [if_pos hw])
      exact ⟨g, head _ (by rw [if_pos hw, if_neg (by decide)]; exact g2), g3⟩
    · obtain ⟨g, g2, g3⟩ := fin (s.1 + 0) (by rw [if_neg hw])
      exact ⟨g, head _ (by rw [if_neg hw, if_pos (by decide)]; exact g2), g3⟩
theorem M_plays_drawn (w : dW D) {x1 : Int32} {N : Nat} (hN : N < 2 ^ 31) (hst : st < 2 ^ aN (dA D)) (ht : tu ≤ 1) (B : MB h D) (s7 : hI h 62 7 = nI tu) (s8 : hI h 62 8 = nI st) (s9 : hI h 62 9 = nI pl) (i4 : hI h 52 21 = nI X) (hx : X < 2 ^ 31) (O : MX h x1 r0) : ∃ h', c_M_playsDrawn d (some 52) x1 (nI N) h = some h' ∧ Mq h h' ∧ MB h' D ∧ hI h' 52 35 = nI (gms D r0 none st tu pl N (0, 0, X)).1 ∧ hI h' 52 36 = nI (gms D r0 none st tu pl N (0, 0, X)).2.1 := by
  obtain ⟨g, hg⟩ : ∃ g, g = wI (wI (wJ h 52 34 ((hI h 52 21).toInt64)) 52 35 (0 : Int32)) 52 36 (0 : Int32) := ⟨_, rfl⟩
  have B1 : MB (wJ h 52 34 ((hI h 52 21).toInt64)) D := B
  have Bg : MB g D := by rw [hg]; exact (B1.v52 35 _ (Or.inl rfl)).v52 36 _ (Or.inr rfl)
  have Qg : Mq h g := by rw [hg]; exact ((Mq.vJ _ _ _ (by decide)).trans (Mq.vI _ _ (by decide))).trans (Mq.vI _ _ (by decide))
  have M := B.1
  obtain ⟨h', e1, e2, e3⟩ := M_pl_in (d := d) w hN hst ht N 0 (0, 0, X) g (by omega) Bg (by rw [Qg.Iw (by decide) (by decide)]; exact s7) (by rw [Qg.Iw (by decide) (by decide)]; exact s8) (by rw [Qg.Iw (by decide) (by decide)]; exact s9) (by rw [hg, hI_wI, if_neg (by decide), hI_wI, if_pos ⟨rfl, rfl⟩]; rfl) (by rw [hg, hI_wI, if_pos ⟨rfl, rfl⟩]; rfl) (by rw [hg]; simp only [hJ_wI, hJ_wJ, ↓reduceIte, ↓Option.bind_some, if_true, if_false, true_and, and_true, and_self, true_or, or_true, false_or, or_false, not_true_eq_false, not_false_eq_true, Option.bind_some, somene, false_and, and_false, reduceCtorEq, Nat.reduceEqDiff, i4]; exact nL_i hx) hx (O.mq Qg)
  refine ⟨h', ?_, Qg.trans e2, e3⟩
  rw [← e1, hg]
  refine (e_M_playsDrawn _ _ _ _ _).trans ?_
  refine (if_pos M.K52).trans ?_
  refine (if_pos M.K52).trans ?_
  refine (if_pos M.K52).trans ?_
  refine (if_pos M.K52).trans ?_
  rfl
end SkPlays
