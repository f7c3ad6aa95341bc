def Mtr (h h' : sk_H) (i : Nat) (t : Nat → Nat) (T : Nat) (r : Nat ⊕ RZ) (v : Int32) : Prop := Iq (PTz i) h h' ∧ ((∃ z, r = .inr z ∧ v = 1 ∧ Mz h' i t T z) ∨ ∃ g, r = .inl g ∧ v = 0 ∧ hI h' 52 9 = nI g ∧ 0 < g ∧ g < 10000)
section SkMmch
variable {h h' h1 h2 : sk_H} {t : Nat → Nat} {T i d p q n g o m k : Nat} {z z1 : RZ} {v : Int32} {r : Nat ⊕ RZ} {s : List Nat}
theorem Mtr.pre (Q : Iq (PTz i) h h1) (x : Mtr h1 h' i t T r v) : Mtr h h' i t T r v := ⟨Q.trans x.1, x.2⟩
theorem M_mch : ∀ (m : Nat) (b : Bool) (s : List Nat) (z : RZ) (h : sk_H) (r : Nat ⊕ RZ), mch t T m b s z = some r → dpS s ≤ 10 → Mt h i t T s z → ∃ h' v, (if b = true then k_M_tested_12 d (some 52) 1 h else Option.bind (c_M_closes d (some 52) h) (tsK d)) = some (h', v) ∧ Mtr h h' i t T r v
  | 0, b, s, z, h, r, e, hd, X => by cases e
  | m + 1, true, s, z, h, r, e, hd, X => by
    have hz := X.1.1.2.2.2.2.2.2
    have hT := X.1.1.2.1
    have hq := nxt_le (t := t) hz
    rw [if_pos rfl, M_t12 X.1.1.1]
    unfold mch at e
    by_cases a : wdl t T (nxt t T z.1) = wNot
    · rw [if_pos a] at e
      obtain ⟨f1, f2⟩ := M_fact_not (d := d) X hd a
      by_cases y : dpS s = 10
      · rw [if_pos y] at e
        have e := Option.some.inj e
        subst e
        obtain ⟨h1, g1, g2, g3⟩ := f1 y
        exact ⟨h1, 0, (bnd g1 _).trans (if_neg (fun w => w rfl)), g3, Or.inr ⟨_, rfl, rfl, g2, by omega, by omega⟩⟩
      · rw [if_neg y] at e
        obtain ⟨h1, g1, g2, g3⟩ := f2 y
        obtain ⟨h2, v2, k1, k2⟩ := M_mch m true _ _ h1 r e (by rw [dpS_cons, if_pos (Or.inl rfl)]; omega) g2
        rw [if_pos rfl, M_t12 g2.1.1.1] at k1
        rw [g1]
        exact ⟨h2, v2, k1, k2.pre g3⟩
    · rw [if_neg a] at e
      by_cases b : nxt t T z.1 < T ∧ t (nxt t T z.1) = 91
      · rw [if_pos b] at e
        obtain ⟨f1, f2⟩ := M_fact_brk (d := d) X hd a b
        by_cases y : dpS s = 10
        · rw [if_pos y] at e
          have e := Option.some.inj e
          subst e
          obtain ⟨h1, g1, g2, g3⟩ := f1 y
          exact ⟨h1, 0, (bnd g1 _).trans (if_neg (fun w => w rfl)), g3, Or.inr ⟨_, rfl, rfl, g2, by omega, by omega⟩⟩
        · rw [if_neg y] at e
          obtain ⟨h1, g1, g2, g3⟩ := f2 y
          obtain ⟨h2, v2, k1, k2⟩ := M_mch m true _ _ h1 r e (by rw [dpS_cons, if_pos (Or.inr rfl)]; omega) g2
          rw [if_pos rfl, M_t12 g2.1.1.1] at k1
          rw [g1]
          exact ⟨h2, v2, k1, k2.pre g3⟩
      · rw [if_neg b] at e
        rcases oB_cs e with ⟨g, a1, rfl⟩ | ⟨z1, a1, a2⟩
        · obtain ⟨h1, v1, c1, c2, c3⟩ := M_fact_cmp (d := d) X a b a1
          rcases c3 with ⟨_, y, _⟩ | ⟨g', y1, rfl, y3⟩
          · cases y
          · exact ⟨h1, 0, (bnd c1 _).trans (if_neg (fun w => w rfl)), c2, Or.inr ⟨g', y1, rfl, y3⟩⟩
        · obtain ⟨h1, v1, c1, c2, c3⟩ := M_fact_cmp (d := d) X a b a1
          rcases c3 with ⟨z1', y1, rfl, X1⟩ | ⟨g', y1, _⟩
          · have y1 := Sum.inr.inj y1
            subst y1
            obtain ⟨h2, v2, k1, k2⟩ := M_mch m false s z1 h1 r a2 hd X1
            rw [if_neg (by decide)] at k1
            refine ⟨h2, v2, (bnd c1 _).trans ?_, k2.pre c2⟩
            refine (if_pos (show ¬ (1 : Int32) = 0 by decide)).trans ?_
            exact (if_pos X1.1.1.1.K52).trans k1
          · cases y1
  | m + 1, false, s, z, h, r, e, hd, X => by
    have hz := X.1.1.2.2.2.2.2.2
    have hT := X.1.1.2.1
    have hq := nxt_le (t := t) hz
    have hqq := nxt_nxt (t := t) hz
    rw [if_neg (by decide)]
    unfold mch at e
    obtain ⟨h1, X1, Q1, f1, f2⟩ := M_closes_ok (d := d) X
    have d3 := dpS_stl (k := 3) s z
    by_cases a : (nxt t T z.1 < T ∧ t (nxt t T z.1) = 93) ∧ insS (stl 3 s z).1 = true
    · rw [if_pos a] at e
      obtain ⟨h6, g1, g2, g3⟩ := f2 a
      have d1 := dpS_stl (k := 1) (stl 3 s z).1 (stl 3 s z).2
      have dt : dpS (stl 1 (stl 3 s z).1 (stl 3 s z).2).1.tail ≤ dpS (stl 1 (stl 3 s z).1 (stl 3 s z).2).1 := by
        cases (stl 1 (stl 3 s z).1 (stl 3 s z).2).1 with
        | nil => exact Nat.le_refl _
        | cons x r => rw [dpS_cons]; exact Nat.le_add_left _ _
      obtain ⟨h2, v2, k1, k2⟩ := M_mch m false _ _ h6 r e (by omega) g2
      rw [if_neg (by decide)] at k1
      rw [g1]
      exact ⟨h2, v2, k1, k2.pre g3⟩
    · rw [if_neg a] at e
      have R1 := X1.1.1
      have c1 := bnd (f1 a) (tsK d)
      by_cases b : wdl t T (nxt t T z.1) = wAnd
      · rw [if_pos b] at e
        obtain ⟨h2, g1, g2, g3⟩ := M_76 (d := d) X1 (x := 12) (Or.inl rfl) b (by decide)
        rw [stl_zAt] at g2
        have d1 := dpS_stl (k := 2) (stl 3 s z).1 (stl 3 s z).2
        obtain ⟨h3, v3, k1, k2⟩ := M_mch m true _ _ h2 r e (by rw [dpS_cons, if_neg (by decide)]; omega) g2
        rw [if_pos rfl] at k1
        exact ⟨h3, v3, c1.trans ((tsK_and R1 hqq b).trans (g1.trans k1)), k2.pre (Q1.trans g3)⟩
      · rw [if_neg b] at e
        by_cases b2 : wdl t T (nxt t T z.1) = wOr
        · rw [if_pos b2] at e
          obtain ⟨h2, g1, g2, g3⟩ := M_76 (d := d) X1 (x := 13) (Or.inr rfl) b2 (by decide)
          rw [stl_zAt] at g2
          have d1 := dpS_stl (k := 1) (stl 3 s z).1 (stl 3 s z).2
          obtain ⟨h3, v3, k1, k2⟩ := M_mch m true _ _ h2 r e (by rw [dpS_cons, if_neg (by decide)]; omega) g2
          rw [if_pos rfl] at k1
          exact ⟨h3, v3, c1.trans ((tsK_or R1 hqq b2).trans (g1.trans k1)), k2.pre (Q1.trans g3)⟩
        · rw [if_neg b2] at e
          have t0 := tsK_no (d := d) R1 hqq b b2
          have ins := M_inside_ok (d := d) X1
          cases hi : insS (stl 3 s z).1 with
          | true =>
            rw [hi, if_pos rfl] at e
            have e := Option.some.inj e
            subst e
            rw [hi] at ins
            have se := M_see_same (d := d) R1 hqq
            have j8 : hI h1 52 8 = nI (nxt t T z.1) := R1.2.2.2.2.1
            refine ⟨wI h1 52 9 (nI (1 + 8 * nxt t T z.1 + 0)), 0, c1.trans (t0.trans ?_), Q1.trans (PVz_w (by omega) : Iq (PVz i) h1 _).pt, Or.inr ⟨_, rfl, rfl, hI_se, by omega, by omega⟩⟩
            refine (e_M_tested_12 _ _ _ _).trans ?_
            refine (if_pos rfl).trans ?_
            refine (if_pos R1.1.K52).trans ?_
            refine (bnd ins _).trans ?_
            refine (if_neg nb1).trans ?_
            refine (if_pos R1.1.K52).trans ?_
            refine (bnd se _).trans ?_
            refine (if_pos R1.1.K52).trans ?_
            refine (if_pos R1.1.K52).trans ?_
            refine (bnd (show c_M_fails d (some 52) (0 : Int32) (hI h1 52 8) h1 = _ by rw [j8]; exact M_fails_ok (k := 0) R1.1 R1.2.2.2.2.2.1) _).trans ?_
            exact (if_pos (Or.inl rfl)).trans rfl
          | false =>
            rw [hi, if_neg (by decide)] at e
            have e := Option.some.inj e
            subst e
            rw [hi] at ins
            obtain ⟨h2, g1, g2, g3, g4⟩ := M_settles_ok (d := d) (k := 1) (by omega) (by omega) X1
            rw [stl_zAt] at g2
            refine ⟨h2, 1, c1.trans (t0.trans ?_), Q1.trans g3, Or.inl ⟨_, rfl, rfl, g2.1⟩⟩
            refine (e_M_tested_12 _ _ _ _).trans ?_
            refine (if_pos rfl).trans ?_
            refine (if_pos R1.1.K52).trans ?_
            refine (bnd ins _).trans ?_
            refine (if_pos rfl).trans ?_
            refine (if_pos R1.1.K52).trans ?_
            exact (bnd g1 _).trans rfl
end SkMmch
