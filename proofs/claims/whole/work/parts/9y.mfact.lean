/-! ===== the reference comes to a fact ===== -/
section SkMfact
variable {h h' h1 h2 : sk_H} {t : Nat → Nat} {T i d p q n g o m k : Nat} {z z1 : RZ} {v : Int32} {r : Nat ⊕ RZ} {s : List Nat}
theorem M_wNot (R : Mr h t T q) (hq : nxt t T q = q) : c_M_isWord d (some 52) (7237492 : Int64) h = some (h, bi (decide (wdl t T q = wNot))) := M_isWord_same R hq (by decide) (by decide) (by decide) (by decide)
theorem M_wAnd (R : Mr h t T q) (hq : nxt t T q = q) : c_M_isWord d (some 52) (6385252 : Int64) h = some (h, bi (decide (wdl t T q = wAnd))) := M_isWord_same R hq (by decide) (by decide) (by decide) (by decide)
theorem M_wOr (R : Mr h t T q) (hq : nxt t T q = q) : c_M_isWord d (some 52) (28530 : Int64) h = some (h, bi (decide (wdl t T q = wOr))) := M_isWord_same R hq (by decide) (by decide) (by decide) (by decide)
theorem wd_lt {w : List Nat} (hp : q ≤ T) (hw : wdl t T q = w) (h0 : 0 < w.length) : q < T := by
  have := wE_gt hw h0
  have := (wE_le (t := t) hp).2
  omega
theorem M_fact_pre (X : Mt h i t T s z) : ∃ h1, Mt h1 i t T s (zAt z (nxt t T z.1)) ∧ Iq (PTz i) h h1 ∧ k_M_fact_2 d (some 52) 1 h = (if bi (decide (wdl t T (nxt t T z.1) = wNot)) = 0 then
      if ¬ lk t T (nxt t T z.1) = (91 : Int32) then
        k_M_fact_2 d (some 52) (0 : Int32) h1
      else
        if hK h1 52 = 13 then
        Option.bind (c_M_opens d (some 52) (91 : Int32) h1) fun q4 =>
        if ¬ q4.2 = 0 then
          if hK q4.1 52 = 13 then
          if hK q4.1 52 = 13 then
          let h5 := wI q4.1 52 8 ((hI q4.1 52 8) + (1 : Int32))
          k_M_fact_2 d (some 52) (1 : Int32) h5
          else none
          else none
        else
          some (q4.1, (0 : Int32))
        else none
    else
      if hK h1 52 = 13 then
      Option.bind (c_M_opens d (some 52) (11 : Int32) h1) fun q6 =>
      if ¬ q6.2 = 0 then
        if hK q6.1 52 = 13 then
        Option.bind (c_M_passWord d (some 52) q6.1) fun q7 =>
        k_M_fact_2 d (some 52) (1 : Int32) q7
        else none
      else
        some (q6.1, (0 : Int32))
      else none) := by
  obtain ⟨Z, x1, x2, x3, x4⟩ := id X
  have hz := Z.1.2.2.2.2.2.2
  have hq := nxt_le (t := t) hz
  obtain ⟨h1, e1, e2, e3⟩ := M_see_ok (d := d) Z.1
  have X1 : Mt h1 i t T s (zAt z (nxt t T z.1)) := X.mz e3.p8F.pv (Z.mv e3.p8F e2 hq.1) (by show z.2.1.length + s.length ≤ nxt t T z.1; omega)
  refine ⟨h1, X1, e3.p8F.pv.pt, ?_⟩
  refine (e_M_fact_2 _ _ _ _).trans ?_
  refine (if_neg (show ¬ (1 : Int32) = 0 by decide)).trans ?_
  refine (if_pos Z.1.1.K52).trans ?_
  refine (bnd e1 _).trans ?_
  refine (if_pos e2.1.K52).trans ?_
  exact (bnd (M_wNot e2 (nxt_nxt hz)) _).trans rfl
theorem M_fact_not (X : Mt h i t T s z) (hd : dpS s ≤ 10) (hw : wdl t T (nxt t T z.1) = wNot) : (dpS s = 10 → ∃ h', k_M_fact_2 d (some 52) 1 h = some (h', 0) ∧ hI h' 52 9 = nI (1 + 8 * nxt t T z.1 + 2) ∧ Iq (PTz i) h h') ∧ (dpS s ≠ 10 → ∃ h', k_M_fact_2 d (some 52) 1 h = k_M_fact_2 d (some 52) 1 h' ∧ Mt h' i t T (11 :: s) (zAt z (wE t T (nxt t T z.1))) ∧ Iq (PTz i) h h') := by
  have hz := X.1.1.2.2.2.2.2.2
  have hq := nxt_le (t := t) hz
  obtain ⟨h1, X1, Q1, e1⟩ := M_fact_pre (d := d) X
  rw [decide_eq_true hw] at e1
  have hlt := wd_lt hq.2 hw (by decide)
  have hgt := wE_gt hw (show 0 < wNot.length by decide)
  have hE := wE_le (t := t) hq.2
  obtain ⟨o1, o2⟩ := M_opens_ok (d := d) X1 (x := 11) (Or.inl rfl) hlt
  refine ⟨fun y => ?_, fun y => ?_⟩
  · obtain ⟨h2, f1, f2, f3⟩ := o1 y
    refine ⟨h2, ?_, f2, Q1.trans f3⟩
    rw [e1]
    refine (if_neg nb1).trans ?_
    refine (if_pos X1.1.1.1.K52).trans ?_
    refine (bnd f1 _).trans ?_
    exact (if_neg (fun w => w rfl)).trans rfl
  · obtain ⟨h2, f1, f2, f3⟩ := o2 y hd
    obtain ⟨h3, p1, p2, p3⟩ := M_passWord_ok (d := d) f2.1.1
    have x4 := X1.2.2.2.2
    have X3 := f2.mt p3 p2 hE.1 (by
      have x4 : z.2.1.length + s.length ≤ nxt t T z.1 := x4
      show z.2.1.length + (11 :: s).length ≤ wE t T (nxt t T z.1)
      rw [List.length_cons]
      omega)
    refine ⟨h3, ?_, X3, Q1.trans (f3.trans p3.p8F.pv.pt)⟩
    rw [e1]
    refine (if_neg nb1).trans ?_
    refine (if_pos X1.1.1.1.K52).trans ?_
    refine (bnd f1 _).trans ?_
    refine (if_pos (show ¬ (1 : Int32) = 0 by decide)).trans ?_
    refine (if_pos f2.1.1.1.K52).trans ?_
    exact (bnd p1 _).trans rfl
theorem M_fact_brk (X : Mt h i t T s z) (hd : dpS s ≤ 10) (hw : wdl t T (nxt t T z.1) ≠ wNot) (hb : nxt t T z.1 < T ∧ t (nxt t T z.1) = 91) : (dpS s = 10 → ∃ h', k_M_fact_2 d (some 52) 1 h = some (h', 0) ∧ hI h' 52 9 = nI (1 + 8 * nxt t T z.1 + 2) ∧ Iq (PTz i) h h') ∧ (dpS s ≠ 10 → ∃ h', k_M_fact_2 d (some 52) 1 h = k_M_fact_2 d (some 52) 1 h' ∧ Mt h' i t T (91 :: s) (zAt z (nxt t T z.1 + 1)) ∧ Iq (PTz i) h h') := by
  have hz := X.1.1.2.2.2.2.2.2
  have hq := nxt_le (t := t) hz
  obtain ⟨h1, X1, Q1, e1⟩ := M_fact_pre (d := d) X
  rw [decide_eq_false hw] at e1
  have l91 : ¬ ¬ lk t T (nxt t T z.1) = (91 : Int32) := fun w => w (show lk t T (nxt t T z.1) = nI 91 by rw [lk_eq X.1.1 (by omega)]; exact hb)
  obtain ⟨o1, o2⟩ := M_opens_ok (d := d) X1 (x := 91) (Or.inr rfl) hb.1
  refine ⟨fun y => ?_, fun y => ?_⟩
  · obtain ⟨h2, f1, f2, f3⟩ := o1 y
    refine ⟨h2, ?_, f2, Q1.trans f3⟩
    rw [e1]
    refine (if_pos rfl).trans ?_
    refine (if_neg l91).trans ?_
    refine (if_pos X1.1.1.1.K52).trans ?_
    refine (bnd f1 _).trans ?_
    exact (if_neg (fun w => w rfl)).trans rfl
  · obtain ⟨h2, f1, f2, f3⟩ := o2 y hd
    have j8 : hI h2 52 8 = nI (nxt t T z.1) := f2.1.1.2.2.2.2.1
    have x4 : z.2.1.length + s.length ≤ nxt t T z.1 := X1.2.2.2.2
    have X3 := f2.mt (Iq.w h2 (nI (nxt t T z.1 + 1)) (P := P8) rfl) (f2.1.1.w8 (q := nxt t T z.1 + 1) (by omega)) (by show nxt t T z.1 ≤ _; omega) (by
      show z.2.1.length + (91 :: s).length ≤ nxt t T z.1 + 1
      rw [List.length_cons]
      omega)
    refine ⟨_, ?_, X3, Q1.trans (f3.trans (PVz_w (by omega) : Iq (PVz i) h2 _).pt)⟩
    rw [e1]
    refine (if_pos rfl).trans ?_
    refine (if_neg l91).trans ?_
    refine (if_pos X1.1.1.1.K52).trans ?_
    refine (bnd f1 _).trans ?_
    refine (if_pos (show ¬ (1 : Int32) = 0 by decide)).trans ?_
    refine (if_pos f2.1.1.1.K52).trans ?_
    refine (if_pos f2.1.1.1.K52).trans ?_
    show k_M_fact_2 d (some 52) 1 (wI h2 52 8 (hI h2 52 8 + 1)) = _
    rw [j8, nI_1]
theorem M_fact_cmp (X : Mt h i t T s z) (hw : wdl t T (nxt t T z.1) ≠ wNot) (hb : ¬ (nxt t T z.1 < T ∧ t (nxt t T z.1) = 91)) (e : cmpP t T m (zAt z (nxt t T z.1)) = some r) : ∃ h' v, k_M_fact_2 d (some 52) 1 h = some (h', v) ∧ Iq (PTz i) h h' ∧ ((∃ z1, r = .inr z1 ∧ v = 1 ∧ Mt h' i t T s z1) ∨ ∃ g, r = .inl g ∧ v = 0 ∧ hI h' 52 9 = nI g ∧ 0 < g ∧ g < 10000) := by
  have hz := X.1.1.2.2.2.2.2.2
  have hq := nxt_le (t := t) hz
  obtain ⟨h1, X1, Q1, e1⟩ := M_fact_pre (d := d) X
  rw [decide_eq_false hw] at e1
  have l91 : ¬ lk t T (nxt t T z.1) = (91 : Int32) := by
    show ¬ lk t T (nxt t T z.1) = nI 91
    rw [lk_eq X.1.1 (by omega)]; exact hb
  obtain ⟨h2, v2, c1, c2, c3⟩ := M_cmp_ok (d := d) X1.1 e
  have v01 : v2 = 0 ∨ v2 = 1 := by
    rcases c3 with ⟨_, _, y, _⟩ | ⟨_, _, y, _⟩
    · exact Or.inr y
    · exact Or.inl y
  refine ⟨h2, v2, ?_, Q1.trans c2.pt, ?_⟩
  · rw [e1]
    refine (if_pos rfl).trans ?_
    refine (if_pos l91).trans ?_
    refine (e_M_fact_2 _ _ _ _).trans ?_
    refine (if_pos rfl).trans ?_
    refine (if_pos X1.1.1.1.K52).trans ?_
    refine (bnd c1 _).trans ?_
    exact if_pos v01
  · rcases c3 with ⟨z1, y1, y2, Z1⟩ | ⟨g, y1, y2, y3⟩
    · subst y1
      have G := cmpP_g (a := []) (z := zAt z (nxt t T z.1)) hq.2 X.1.2.2.2.2.2.2.1 e
      have x4 : (zAt z (nxt t T z.1)).2.1.length + s.length ≤ (zAt z (nxt t T z.1)).1 := X1.2.2.2.2
      exact Or.inl ⟨z1, rfl, y2, X1.mz c2 Z1 (by have := G.len x4; omega)⟩
    · exact Or.inr ⟨g, y1, y2, y3⟩
end SkMfact
