/-! ===== the stroke that a rule plays, in the reference ===== -/
section SkStrokeBy
variable {F G : Nat → Prop} {h h' h1 h2 : sk_H} {a m n i s k x st tu pl ra : Nat} {d : Nat} {R : RT} {D : DD} {c : Nat → Nat}
/-- a bout's frame in the reference -/
def Nq (h h' : sk_H) : Prop := Mq h h' ∧ hJ h' 52 = hJ h 52 ∧ ∀ i, 34 ≤ i → hI h' 52 i = hI h 52 i
theorem Nq.refl (h : sk_H) : Nq h h := ⟨Mq.refl h, rfl, fun _ _ => rfl⟩
theorem Nq.trans (P : Nq h h1) (Q : Nq h1 h2) : Nq h h2 := ⟨P.1.trans Q.1, Q.2.1.trans P.2.1, fun i hi => (Q.2.2 i hi).trans (P.2.2 i hi)⟩
theorem Zq.nq (Q : Zq h h1) : Nq h h1 := ⟨Q.mq, Q.2.2.2 52 (by decide), fun i hi => Q.2.2.1 52 i (fun q => by omega)⟩
theorem MWon.zq (X : MWon (dA D) h) (Q : Zq h h1) : MWon (dA D) h1 := by
  unfold MWon
  have q63 : hI h1 63 = hI h 63 := funext fun i => Q.2.2.1 63 i (by omega)
  rw [q63, Q.2.2.1 52 23 (by decide)]
  exact X
theorem MR.mq {x : Nat} (T : MR h x R) (Q : Mq h h1) : MR h1 x R := by
  unfold MR
  rw [Q.Iw (a := 57) (by decide) (by decide), Q.Iw (a := 54) (by decide) (by decide), Q.Iw (a := 56) (by decide) (by decide)]
  exact T
def MB (h : sk_H) (D : DD) : Prop := MS 52 h ∧ mSaid D (hI h 62) ∧ MWon (dA D) h
theorem MB.mq (B : MB h D) (Q : Mq h h1) (X : MWon (dA D) h1) : MB h1 D := ⟨B.1.mq Q, by rw [Q.Iw (a := 62) (by decide) (by decide)]; exact B.2.1, X⟩
theorem aT_lp (hst : st < 2 ^ n) (y : Nat × Nat) : aT (dA D) st y < 2 ^ n := Nat.lt_of_le_of_lt (an_le _ _) hst
theorem bsT_lt (w : dW D) (hst : st < 2 ^ aN (dA D)) (o : Option ((Nat × Nat) × Int64)) : (bsT D st o < 0) ↔ o = none := by
  cases o with
  | none => exact ⟨fun _ => rfl, fun _ => by show nM < 0; decide⟩
  | some y =>
    refine ⟨fun q => ?_, fun q => by cases q⟩
    have h4 := p12 w.1 (aT_lp (D := D) hst y.1)
    have q : nI (aT (dA D) st y.1) < 0 := q
    rw [l0, q_lt_f (by omega) (by omega)] at q
    exact q.elim
theorem M_strokeBy_ok (hW : RW R) (w : dW D) (hst : st < 2 ^ aN (dA D)) {y : Nat} (hy : y < 6) (B : MB h D) (T : MR h y R) : ∃ h', c_M_strokeBy d (some 52) (nI y) (nI st) (nI tu) (nI pl) h = some (h', bsT D st (best D R st tu pl)) ∧ Nq h h' ∧ MB h' D := by
  have w1 := w.1.1
  have hst4 := p12 w.1 hst
  rw [e_M_strokeBy]
  unfold best aL
  refine dloop (aN (dA D)) (fun p => ∀ (o : Option ((Nat × Nat) × Int64)) (h : sk_H), MB h D → MR h y R → ∃ h', k_M_strokeBy_9 d (some 52) (nI y) (nI st) (nI tu) (nI pl) (bsT D st o) (bsO o) (nI p) h = some (h', bsT D st ((rA (fun p k => cB (dA D) st p k (dH D) (dE D)) (aN (dA D)) p 1).foldl (bsG D R st tu pl) o)) ∧ Nq h h' ∧ MB h' D) (fun p k => ∀ (o : Option ((Nat × Nat) × Int64)) (h : sk_H), MB h D → MR h y R → ∃ h', k_M_strokeBy_23 d (some 52) (nI y) (nI st) (nI tu) (nI pl) (bsT D st o) (bsO o) (nI p) (nI k) h = some (h', bsT D st ((rA (fun p k => cB (dA D) st p k (dH D) (dE D)) (aN (dA D)) p k).foldl (bsG D R st tu pl) o)) ∧ Nq h h' ∧ MB h' D) ?_ ?_ ?_ ?_ (aN (dA D)) 0 (by omega) none h B T
  · intro o h B T
    obtain ⟨M, S, X⟩ := id B
    refine ⟨h, ?_, Nq.refl h, B⟩
    rw [rA_n]
    refine (e_M_strokeBy_9 _ _ _ _ _ _ _ _ _ _).trans ?_
    refine (if_pos M.K52).trans ?_
    refine (bnd M.R20 _).trans ?_
    refine (if_pos ⟨Or.inl M.K62, by rw [M.N62]; exact vp_in_nI (n := 1) (by omega) (by omega)⟩).trans ?_
    refine (if_pos (show hI h 62 (1 : Int32).toNatClampNeg ≤ nI (aN (dA D)) from ?_)).trans rfl
    rw [show (1 : Int32).toNatClampNeg = 1 from rfl, S.1.1]
    exact nI_le (Nat.le_refl _) (by omega)
  · intro p hp ih o h B T
    obtain ⟨M, S, X⟩ := id B
    obtain ⟨h', e1, e2⟩ := ih o h B T
    refine ⟨h', ?_, e2⟩
    rw [← e1]
    refine (e_M_strokeBy_9 _ _ _ _ _ _ _ _ _ _).trans ?_
    refine (if_pos M.K52).trans ?_
    refine (bnd M.R20 _).trans ?_
    refine (if_pos ⟨Or.inl M.K62, by rw [M.N62]; exact vp_in_nI (n := 1) (by omega) (by omega)⟩).trans ?_
    refine (if_neg (show ¬ hI h 62 (1 : Int32).toNatClampNeg ≤ nI p from ?_)).trans rfl
    rw [show (1 : Int32).toNatClampNeg = 1 from rfl, S.1.1]
    exact nI_ge (by omega) (by omega)
  · intro p hp ih o h B T
    obtain ⟨h', e1, e2⟩ := ih o h B T
    refine ⟨h', ?_, e2⟩
    rw [rA_5, ← e1]
    refine (e_M_strokeBy_23 _ _ _ _ _ _ _ _ _ _ _).trans ?_
    refine (if_pos (show (4 : Int32) < nI 5 by decide)).trans ?_
    rw [nI_1]
  · intro p k hp h1 h4 ih o h B T
    obtain ⟨M, S, X⟩ := id B
    have cb := M_canBeNow_ok d M w S hst4 hp h1 h4
    have n4 : ¬ (4 : Int32) < nI k := by
      rcases (show k = 1 ∨ k = 2 ∨ k = 3 ∨ k = 4 by omega) with rfl | rfl | rfl | rfl <;> decide
    rw [rA_s _ hp h1 h4]
    cases hc : cB (dA D) st p k (dH D) (dE D)
    · rw [hc] at cb
      obtain ⟨h', e1, e2⟩ := ih o h B T
      refine ⟨h', ?_, e2⟩
      rw [if_neg (by decide), ← e1]
      refine (e_M_strokeBy_23 _ _ _ _ _ _ _ _ _ _ _).trans ?_
      refine (if_neg n4).trans ?_
      refine (if_pos M.K52).trans ?_
      refine (bnd cb _).trans ?_
      refine (if_neg (show ¬ ¬ bi false = 0 by decide)).trans ?_
      rw [nI_1]
    · rw [hc] at cb
      rw [if_pos rfl, List.foldl_cons]
      obtain ⟨hq, f1, f2, f3, f4, f5, f6⟩ := M_words_ok (d := d) (tu := tu) (pl := pl) (x := (p, k)) M w S X hst hp h4
      have Mq' := M.mq f2
      have Tq := T.mq f2
      obtain ⟨hv, v1, v2⟩ := M_summedBy_ok (d := d) hW (⟨Mq', hy, Tq, f6⟩ : MI2 hq y R (wvF D st tu pl (p, k)))
      have Nv : Nq h hv := (show Nq h hq from ⟨f2, f4, f5⟩).trans v2.nq
      have Bv : MB hv D := B.mq Nv.1 (f3.zq v2)
      have Tv := T.mq Nv.1
      have Mv := Bv.1
      have sb := M_strokeBits_ok (b := 52) d Mv w.1 Bv.2.1.1 hp h4
      have take : ∃ h', k_M_strokeBy_79 d (some 52) (nI y) (nI st) (nI tu) (nI pl) (nI p) (nI k) (rval R (wvF D st tu pl (p, k))) hv = some (h', bsT D st ((rA (fun p k => cB (dA D) st p k (dH D) (dE D)) (aN (dA D)) p (k + 1)).foldl (bsG D R st tu pl) (some ((p, k), rval R (wvF D st tu pl (p, k)))))) ∧ Nq h h' ∧ MB h' D := by
        obtain ⟨h', e1, e2, e3⟩ := ih (some ((p, k), rval R (wvF D st tu pl (p, k)))) hv Bv Tv
        refine ⟨h', ?_, Nv.trans e2, e3⟩
        rw [← e1]
        refine (e_M_strokeBy_79 _ _ _ _ _ _ _ _ _ _).trans ?_
        refine (if_pos Mv.K52).trans ?_
        refine (bnd sb _).trans ?_
        have ea : nI st &&& (nI (sB (dA D) p k) ^^^ ((-1) : Int32)) = nI (aT (dA D) st (p, k)) := nI_an _ hst4
        show k_M_strokeBy_23 d (some 52) (nI y) (nI st) (nI tu) (nI pl) (nI st &&& (nI (sB (dA D) p k) ^^^ ((-1) : Int32))) (rval R (wvF D st tu pl (p, k))) (nI p) (nI k + 1) hv = k_M_strokeBy_23 d (some 52) (nI y) (nI st) (nI tu) (nI pl) (nI (aT (dA D) st (p, k))) (rval R (wvF D st tu pl (p, k))) (nI p) (nI (k + 1)) hv
        rw [ea, nI_1]
      have head : ∀ (Gv : Option (sk_H × Int32)), ((if bsT D st o < 0 then k_M_strokeBy_79 d (some 52) (nI y) (nI st) (nI tu) (nI pl) (nI p) (nI k) (rval R (wvF D st tu pl (p, k))) hv else if 0 < lg_cmp (rval R (wvF D st tu pl (p, k))) (bsO o) then k_M_strokeBy_79 d (some 52) (nI y) (nI st) (nI tu) (nI pl) (nI p) (nI k) (rval R (wvF D st tu pl (p, k))) hv else k_M_strokeBy_23 d (some 52) (nI y) (nI st) (nI tu) (nI pl) (bsT D st o) (bsO o) (nI p) (nI (k + 1)) hv) = Gv) → k_M_strokeBy_23 d (some 52) (nI y) (nI st) (nI tu) (nI pl) (bsT D st o) (bsO o) (nI p) (nI k) h = Gv := by
        intro Gv hG
        rw [← hG]
        refine (e_M_strokeBy_23 _ _ _ _ _ _ _ _ _ _ _).trans ?_
        refine (if_neg n4).trans ?_
        refine (if_pos M.K52).trans ?_
        refine (bnd cb _).trans ?_
        refine (if_pos (show ¬ bi true = 0 by decide)).trans ?_
        refine (if_pos M.K52).trans ?_
        refine (bnd f1 _).trans ?_
        refine (if_pos Mq'.K52).trans ?_
        refine (bnd v1 _).trans ?_
        rw [nI_1]
      cases o with
      | none =>
        obtain ⟨h', t1, t2⟩ := take
        exact ⟨h', head _ (by rw [if_pos ((bsT_lt w hst none).mpr rfl)]; exact t1), t2⟩
      | some z =>
        have hr : ¬ bsT D st (some z) < 0 := fun q => by have := (bsT_lt w hst _).mp q; cases this
        have eo : bsO (some z) = z.2 := rfl
        show ∃ h', _ = some (h', bsT D st ((rA (fun p k => cB (dA D) st p k (dH D) (dE D)) (aN (dA D)) p (k + 1)).foldl (bsG D R st tu pl) (if 0 < lg_cmp (rval R (wvF D st tu pl (p, k))) z.2 then some ((p, k), rval R (wvF D st tu pl (p, k))) else some z))) ∧ _
        by_cases q : 0 < lg_cmp (rval R (wvF D st tu pl (p, k))) z.2
        · rw [if_pos q]
          obtain ⟨h', t1, t2⟩ := take
          exact ⟨h', head _ (by rw [if_neg hr, eo, if_pos q]; exact t1), t2⟩
        · rw [if_neg q]
          obtain ⟨h', e1, e2, e3⟩ := ih (some z) hv Bv Tv
          exact ⟨h', head _ (by rw [if_neg hr, eo, if_neg q]; exact e1), Nv.trans e2, e3⟩
end SkStrokeBy
