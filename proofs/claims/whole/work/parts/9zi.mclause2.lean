def Mcs (h h' : sk_H) (i : Nat) (t : Nat → Nat) (T : Nat) (cs : List (Nat × Nat × Nat × Bool)) (r : Nat ⊕ (RZ × (Nat × Nat × Nat × Bool))) (v : Int32) : Prop := Iq (PCz i) h h' ∧ ((∃ z c, r = .inr (z, c) ∧ v = 1 ∧ Mz h' i t T z ∧ McI h' i (cs ++ [c]) ∧ hI h' 52 14 = nI (cs.length + 1) ∧ cs.length < 12) ∨ ∃ g, r = .inl g ∧ v = 0 ∧ hI h' 52 9 = nI g ∧ 0 < g ∧ g < 10000)
section SkMclause2
variable {h h' h1 h2 : sk_H} {t : Nat → Nat} {T i d p q n g o m k : Nat} {z z1 : RZ} {v : Int32} {cs : List (Nat × Nat × Nat × Bool)} {c : Nat × Nat × Nat × Bool} {r : Nat ⊕ (RZ × (Nat × Nat × Nat × Bool))}
theorem McI.w14 (I : McI h i cs) : McI (wI h 52 14 v) i cs := by
  refine ⟨by rw [hI_na (by omega)]; exact I.1, fun k c hc => ?_⟩
  obtain ⟨l1, l2, l3, l4⟩ := I.2 k c hc
  exact ⟨by rw [hI_na (by omega)]; exact l1, by rw [hI_na (by omega)]; exact l2, by rw [hI_na (by omega)]; exact l3, by rw [hI_na (by omega)]; exact l4⟩
theorem PCz_9 : Iq (PCz i) h (wI h 52 9 v) := (PVz_w (by omega) : Iq (PVz i) h (wI h 52 9 v)).pt.pc
theorem M_rclause_ok (Z : Mz h i t T z) (I : McI h i cs) (e14 : hI h 52 14 = nI cs.length) (hk : cs.length ≤ 12) (e : clR t T m cs.length z = some r) : ∃ h' v, c_M_clauseHere d (some 52) h = some (h', v) ∧ Mcs h h' i t T cs r v := by
  have hz := Z.1.2.2.2.2.2.2
  have hT := Z.1.2.1
  have hq := nxt_le (t := t) hz
  have hqq := nxt_nxt (t := t) hz
  have M := Z.1.1
  obtain ⟨h1, e1, e2, e3⟩ := M_see_ok (d := d) Z.1
  have Z1 := Z.mv e3.p8F e2 hq.1
  have I1 : McI h1 i cs := I.pt e3.p8F.pv.pt
  have f14 : hI h1 52 14 = nI cs.length := by rw [PTz_14 (i := i) e3.p8F.pv.pt]; exact e14
  have M1 := e2.1
  have j8 := e2.2.2.2.2.1
  have i11 := Z1.2.1
  have hi := Z1.2.2.1
  have Q1 : Iq (PCz i) h h1 := e3.p8F.pv.pt.pc
  have aw := M_isWord_same (d := d) (w := wStk) (x1 := 126943973305189) e2 hqq (by decide) (by decide) (by decide) (by decide)
  have pre : ∀ o, (if ¬ bi (decide (wdl t T (nxt t T z.1) = wStk)) = 0 then if hK h1 52 = 13 then if (0 : Int32) = 0 then k_M_clauseHere_71 d (some 52) (nI (nxt t T z.1)) 0 (12 : Int32) (hI h1 52 14) h1 else k_M_clauseHere_71 d (some 52) (nI (nxt t T z.1)) 0 (40 : Int32) (hI h1 52 14) h1 else none else if hK h1 52 = 13 then Option.bind (c_M_fails d (some 52) (0 : Int32) (nI (nxt t T z.1)) h1) fun (q4 : sk_H × Int32) => if q4.2 = 0 ∨ q4.2 = 1 then some (q4.1, q4.2) else none else none) = o → c_M_clauseHere d (some 52) h = o := by
    intro o ho
    rw [← ho]
    refine (e_M_clauseHere _ _ _).trans ?_
    refine (if_pos M.K52).trans ?_
    refine (bnd e1 _).trans ?_
    refine (if_pos M1.K52).trans ?_
    refine (if_pos M1.K52).trans ?_
    refine (if_pos (show ¬ hI h1 52 11 = nI 6 by rw [i11, q_eq_f (by omega) (by omega) (by omega)]; exact not_false)).trans ?_
    show k_M_clauseHere_24 d (some 52) (hI h1 52 8) 0 h1 = _
    rw [j8]
    refine (e_M_clauseHere_24 _ _ _ _ _).trans ?_
    refine (if_pos rfl).trans ?_
    refine (if_pos M1.K52).trans ?_
    exact (bnd aw _).trans rfl
  by_cases w : wdl t T (nxt t T z.1) = wStk
  · rw [decide_eq_true w] at pre
    have pre2 : ∀ o, k_M_clauseHere_71 d (some 52) (nI (nxt t T z.1)) 0 (12 : Int32) (nI cs.length) h1 = o → c_M_clauseHere d (some 52) h = o := by
      intro o ho
      rw [← ho]
      refine pre _ ?_
      refine (if_pos nb1).trans ?_
      refine (if_pos M1.K52).trans ?_
      refine (if_pos rfl).trans ?_
      rw [f14]
    by_cases y : 12 ≤ cs.length
    · unfold clR at e
      rw [if_pos w, if_pos y] at e
      refine ⟨wI h1 52 9 (nI (1 + 8 * nxt t T z.1 + 4)), 0, pre2 _ ?_, Q1.trans PCz_9, Or.inr ⟨_, (Option.some.inj e).symm, rfl, hI_se, by omega, by omega⟩⟩
      refine (e_M_clauseHere_71 _ _ _ _ _ _ _).trans ?_
      refine (if_neg (fun y => y (show nI cs.length = nI 12 by rw [show cs.length = 12 by omega]))).trans ?_
      refine (if_pos M1.K52).trans ?_
      refine (bnd (M_fails_ok (k := 4) M1 e2.2.2.2.2.2.1) _).trans ?_
      exact if_pos (Or.inl rfl)
    · have Z2 : Mz (wI h1 52 14 (nI (cs.length + 1))) i t T (zAt z (nxt t T z.1)) := Z1.nc (by omega)
      obtain ⟨h', v, f1, f2, f3⟩ := M_stroke_ok (d := d) Z2 hqq w (I1.w14 (v := nI (cs.length + 1))) (by omega) ((clR_nxt hz).trans e)
      have v01 : v = 0 ∨ v = 1 := by
        rcases f3 with ⟨_, _, _, x, _⟩ | ⟨_, _, x, _⟩
        · exact Or.inr x
        · exact Or.inl x
      refine ⟨h', v, pre2 _ ?_, Q1.trans ((PCz_w (by omega)).trans f2), ?_⟩
      · refine (e_M_clauseHere_71 _ _ _ _ _ _ _).trans ?_
        refine (if_pos (show ¬ nI cs.length = nI 12 by rw [q_eq_f (by omega) (by omega) (by omega)]; exact not_false)).trans ?_
        refine (if_pos M1.K52).trans ?_
        refine (if_pos M1.K52).trans ?_
        rw [f14, nI_1]
        refine (if_pos rfl).trans ?_
        refine (if_pos M1.K52).trans ?_
        refine (bnd f1 _).trans ?_
        exact if_pos v01
      · rcases f3 with ⟨z1, c, x1, x2, x3, x4, x5⟩ | x
        · exact Or.inl ⟨z1, c, x1, x2, x3, x4, x5.trans hI_se, by omega⟩
        · exact Or.inr x
  · rw [decide_eq_false w] at pre
    unfold clR at e
    rw [if_neg w] at e
    refine ⟨wI h1 52 9 (nI (1 + 8 * nxt t T z.1 + 0)), 0, pre _ ?_, Q1.trans PCz_9, Or.inr ⟨_, (Option.some.inj e).symm, rfl, hI_se, by omega, by omega⟩⟩
    refine (if_neg (fun z => z rfl)).trans ?_
    refine (if_pos M1.K52).trans ?_
    refine (bnd (M_fails_ok (k := 0) M1 e2.2.2.2.2.2.1) _).trans ?_
    exact if_pos (Or.inl rfl)
end SkMclause2
