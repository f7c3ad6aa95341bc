section SkMcmp3
variable {h h' h1 h2 : sk_H} {t : Nat → Nat} {T i d p q n g o m : Nat} {z z1 : RZ} {v : Int32} {r : Nat ⊕ RZ}
theorem sgC_no (e : sgC t T q = none) {c : Nat} (hc : c = 60 ∨ c = 61 ∨ c = 62) : ¬ (q < T ∧ t q = c) := fun ⟨a, b⟩ => by
  unfold sgC at e
  rw [if_pos a, b] at e
  by_cases y : q + 1 < T ∧ t (q + 1) = 61
  · rw [if_pos y, if_pos y] at e
    rcases hc with rfl | rfl | rfl <;> cases e
  · rw [if_neg y, if_neg y] at e
    rcases hc with rfl | rfl | rfl <;> cases e
theorem M_cmp_ok (Z : Mz h i t T z) (e : cmpP t T m z = some r) : ∃ h' v, c_M_compare d (some 52) h = some (h', v) ∧ Mzr h h' i t T r v := by
  have x3 := Z.1.2.1
  unfold cmpP at e
  have pre : ∀ h1 v1, c_M_sum d (some 52) h = some (h1, v1) → ∀ w, (if ¬ v1 = 0 then
      if hK h1 52 = 13 then
      Option.bind (c_M_see d (some 52) h1) fun (q2 : sk_H × Int32) =>
      if hK q2.1 52 = 13 then
      if q2.2 = (60 : Int32) then
        k_M_compare_44 d (some 52) q2.2 (hI q2.1 52 8) q2.1
      else
        if q2.2 = (61 : Int32) then
          k_M_compare_44 d (some 52) q2.2 (hI q2.1 52 8) q2.1
        else
          if q2.2 = (62 : Int32) then
            k_M_compare_44 d (some 52) q2.2 (hI q2.1 52 8) q2.1
          else
            if hK q2.1 52 = 13 then
            Option.bind (c_M_fails d (some 52) (0 : Int32) (hI q2.1 52 8) q2.1) fun (q3 : sk_H × Int32) =>
            if q3.2 = 0 ∨ q3.2 = 1 then some (q3.1, q3.2) else none
            else none
      else none
      else none
    else
      some (h1, (0 : Int32))) = w → c_M_compare d (some 52) h = w := by
    intro h1 v1 f1 w hw
    rw [← hw]
    refine (e_M_compare _ _ _).trans ?_
    refine (if_pos Z.1.1.K52).trans ?_
    exact (bnd f1 _).trans rfl
  rcases oB_cs e with ⟨g, a1, rfl⟩ | ⟨z1, a1, a2⟩
  · obtain ⟨h1, v1, f1, f2, f3⟩ := M_sum_ok (d := d) Z a1
    rcases f3 with ⟨z3, g0, -⟩ | ⟨g', g0, rfl, g1, g2, g3⟩
    · cases g0
    · exact ⟨h1, 0, pre _ _ f1 _ (if_neg (fun w => w rfl)), f2, Or.inr ⟨g', g0, rfl, g1, g2, g3⟩⟩
  · obtain ⟨h1, v1, f1, f2, f3⟩ := M_sum_ok (d := d) Z a1
    rcases f3 with ⟨z1', g0, rfl, Z1⟩ | ⟨g', g0, -⟩
    · have g0 := Sum.inr.inj g0
      subst g0
      have pre := pre _ _ f1
      have hz := Z1.1.2.2.2.2.2.2
      have hm := Z1.2.2.2.2.2.2.1
      have hl := Z1.2.2.2.2.2.2.2
      have hq := nxt_le (t := t) hz
      obtain ⟨h2, e1, e2, e3⟩ := M_see_ok (d := d) Z1.1
      have Z2 := Z1.mv e3.p8F e2 hq.1
      have j8 : hI h2 52 8 = nI (nxt t T z1.1) := e2.2.2.2.2.1
      have Q2 : Iq (PVz i) h h2 := f2.trans e3.p8F.pv
      cases hs : sgC t T (nxt t T z1.1) with
      | none =>
        rw [hs] at a2
        have a2 : r = .inl (1 + 8 * nxt t T z1.1 + 0) := (Option.some.inj a2).symm
        subst a2
        obtain ⟨b1, b2⟩ := M_fail_z (d := d) (i := i) e2 (k := 0) (q := nxt t T z1.1) (by omega) (by omega)
        refine ⟨_, 0, pre _ ?_, Mzr.pre Q2 b2⟩
        refine (if_pos (show ¬ (1 : Int32) = 0 by decide)).trans ?_
        refine (if_pos Z1.1.1.K52).trans ?_
        refine (bnd e1 _).trans ?_
        refine (if_pos e2.1.K52).trans ?_
        refine (if_neg (show ¬ lk t T (nxt t T z1.1) = nI 60 by rw [lk_eq e2 (by omega)]; exact sgC_no hs (by omega))).trans ?_
        refine (if_neg (show ¬ lk t T (nxt t T z1.1) = nI 61 by rw [lk_eq e2 (by omega)]; exact sgC_no hs (by omega))).trans ?_
        refine (if_neg (show ¬ lk t T (nxt t T z1.1) = nI 62 by rw [lk_eq e2 (by omega)]; exact sgC_no hs (by omega))).trans ?_
        refine (if_pos e2.1.K52).trans ?_
        refine (bnd (show c_M_fails d (some 52) (0 : Int32) (hI h2 52 8) h2 = _ by rw [j8]; exact b1) _).trans ?_
        exact (if_pos (Or.inl rfl)).trans rfl
      | some x =>
        obtain ⟨o, e'⟩ := x
        rw [hs] at a2
        have a2 : oB (some (zMk e' (nxt t T z1.1) z1.2.1 z1.2.2)) (fun z2 => oB (sumP t T m z2) fun z3 => some (.inr (zE z3 o))) = some r := a2
        obtain ⟨h3, c1, c2, c3, c4, c5, c6, c7, c8⟩ := M_c44 (d := d) e2 hs
        have Z3 : Mz h3 i t T (zAt z1 e') := Z2.mv c2.p8F c1 (by show nxt t T z1.1 ≤ e'; omega)
        have Q3 : Iq (PVz i) h h3 := Q2.trans c2.p8F.pv
        have go : c_M_compare d (some 52) h = Option.bind (c_M_makes d (some 52) (nI (nxt t T z1.1)) h3) fun (q1 : sk_H × Int32) => if ¬ q1.2 = 0 then k_M_compare_152 d (some 52) (nI (o - 6)) q1.1 else some (q1.1, (0 : Int32)) := by
          rw [← c8]
          have ek : k_M_compare_44 d (some 52) (lk t T (nxt t T z1.1)) (hI h2 52 8) h2 = k_M_compare_44 d (some 52) (nI (t (nxt t T z1.1))) (nI (nxt t T z1.1)) h2 := by rw [lk_lt c3, j8]
          refine pre _ ?_
          refine (if_pos (show ¬ (1 : Int32) = 0 by decide)).trans ?_
          refine (if_pos Z1.1.1.K52).trans ?_
          refine (bnd e1 _).trans ?_
          refine (if_pos e2.1.K52).trans ?_
          by_cases y : t (nxt t T z1.1) = 60
          · exact (if_pos (show lk t T (nxt t T z1.1) = nI 60 by rw [lk_eq e2 (by omega)]; exact ⟨c3, y⟩)).trans ek
          · refine (if_neg (show ¬ lk t T (nxt t T z1.1) = nI 60 by rw [lk_eq e2 (by omega)]; exact fun w => y w.2)).trans ?_
            by_cases y2 : t (nxt t T z1.1) = 61
            · exact (if_pos (show lk t T (nxt t T z1.1) = nI 61 by rw [lk_eq e2 (by omega)]; exact ⟨c3, y2⟩)).trans ek
            · refine (if_neg (show ¬ lk t T (nxt t T z1.1) = nI 61 by rw [lk_eq e2 (by omega)]; exact fun w => y2 w.2)).trans ?_
              exact (if_pos (show lk t T (nxt t T z1.1) = nI 62 by rw [lk_eq e2 (by omega)]; exact ⟨c3, by omega⟩)).trans ek
        obtain ⟨h4, v4, m1, m2, m3⟩ := M_makes_ok (d := d) (q := nxt t T z1.1) Z3
        rcases m3 with ⟨y, rfl, Z4⟩ | ⟨y, rfl, f9⟩
        · have y : z1.2.2 ≠ 60 := y
          rw [show zMk e' (nxt t T z1.1) z1.2.1 z1.2.2 = .inr (e', z1.2.1, z1.2.2 + 1) from if_neg y] at a2
          have a2 : oB (sumP t T m (e', z1.2.1, z1.2.2 + 1)) (fun z3 => some (.inr (zE z3 o))) = some r := a2
          have go2 : ∀ h5 v5, c_M_sum d (some 52) h4 = some (h5, v5) → ∀ w, (if ¬ v5 = 0 then
              if hK h5 52 = 13 then
              Option.bind (c_M_puts d (some 52) ((6 : Int32) + nI (o - 6)) (0 : Int32) h5) fun q2 =>
              some (q2, (1 : Int32))
              else none
            else
              some (h5, (0 : Int32))) = w → c_M_compare d (some 52) h = w := by
            intro h5 v5 k1 w hw
            rw [← hw, go]
            refine (bnd m1 _).trans ?_
            refine (if_pos (show ¬ (1 : Int32) = 0 by decide)).trans ?_
            refine (e_M_compare_152 _ _ _ _).trans ?_
            refine (if_pos Z4.1.1.K52).trans ?_
            exact (bnd k1 _).trans rfl
          rcases oB_cs a2 with ⟨g, b1, rfl⟩ | ⟨z3, b1, b2⟩
          · obtain ⟨h5, v5, k1, k2, k3⟩ := M_sum_ok (d := d) Z4 b1
            rcases k3 with ⟨z3, g0, -⟩ | ⟨g', g0, rfl, g1, g2, g3⟩
            · cases g0
            · exact ⟨h5, 0, go2 _ _ k1 _ (if_neg (fun w => w rfl)), Q3.trans (m2.trans k2), Or.inr ⟨g', g0, rfl, g1, g2, g3⟩⟩
          · have b2 : r = .inr (zE z3 o) := (Option.some.inj b2).symm
            subst b2
            obtain ⟨h5, v5, k1, k2, k3⟩ := M_sum_ok (d := d) Z4 b1
            rcases k3 with ⟨z3', g0, rfl, Z5⟩ | ⟨g', g0, -⟩
            · have g0 := Sum.inr.inj g0
              subst g0
              have he' : e' ≤ T := c1.2.2.2.2.2.2
              have G := sumP_g (a := []) (z := (e', z1.2.1, z1.2.2 + 1)) he' (show z1.2.2 + 1 ≤ 60 by omega) b1
              have hl5 := G.len (j := 1) (show z1.2.1.length + 1 ≤ e' by omega)
              obtain ⟨h6, p1, p2, p3⟩ := M_puts_ok (d := d) Z5 (by omega) (o, 0)
              refine ⟨h6, 1, go2 _ _ k1 _ ?_, Q3.trans (m2.trans (k2.trans p3)), Or.inl ⟨_, rfl, rfl, p2⟩⟩
              refine (if_pos (show ¬ (1 : Int32) = 0 by decide)).trans ?_
              refine (if_pos Z5.1.1.K52).trans ?_
              refine (bnd (show c_M_puts d (some 52) ((6 : Int32) + nI (o - 6)) (0 : Int32) h5 = some h6 from ?_) _).trans rfl
              rw [show (6 : Int32) + nI (o - 6) = nI o by rw [show (6 : Int32) = nI 6 from rfl, nI_add, show 6 + (o - 6) = o by omega]]
              exact p1
            · cases g0
        · have y : z1.2.2 = 60 := y
          rw [show zMk e' (nxt t T z1.1) z1.2.1 z1.2.2 = .inl (1 + 8 * nxt t T z1.1 + 3) from if_pos y] at a2
          have a2 : r = .inl (1 + 8 * nxt t T z1.1 + 3) := (Option.some.inj a2).symm
          subst a2
          refine ⟨h4, 0, ?_, Q3.trans m2, Or.inr ⟨_, rfl, rfl, f9, by omega, by omega⟩⟩
          rw [go]
          refine (bnd m1 _).trans ?_
          exact if_neg (fun w => w rfl)
    · cases g0
end SkMcmp3
