/-! ===== the reference reads a sum, a comparison ===== -/
section SkMcmp
variable {h h' h1 h2 : sk_H} {t : Nat → Nat} {T i d p q n g o m : Nat} {z z1 : RZ} {v : Int32} {r : Nat ⊕ RZ}
theorem oB_as (x : Option (Nat ⊕ RZ)) (f k : RZ → Option (Nat ⊕ RZ)) : oB (oB x f) k = oB x (fun z => oB (f z) k) := by
  cases x with
  | none => rfl
  | some w => cases w <;> rfl
theorem M_s9_some (R : Mr h t T p) (hp : p ≤ T) (ho : sgA adS t T (nxt t T p) = some o) (e1 : c_M_see d (some 52) h = some (h1, lk t T (nxt t T p))) (e2 : Mr h1 t T (nxt t T p)) : k_M_sum_9 d (some 52) h = k_M_sum_46 d (some 52) (nI o) h1 := by
  have hqq := nxt_nxt (t := t) hp
  have s2 := M_see_same (d := d) e2 hqq
  obtain ⟨hq, ho⟩ := sgA_i2 ho
  have i1 := rd_in e2 hq
  have M1 := e2.1
  refine (e_M_sum_9 _ _ _).trans ?_
  refine (if_pos R.1.K52).trans ?_
  refine (bnd e1 _).trans ?_
  rcases adS_cs ho with ⟨a, rfl⟩ | ⟨a, rfl⟩
  · refine (if_pos (show lk t T (nxt t T p) = nI 43 by rw [lk_eq R (by omega)]; exact ⟨hq, a⟩)).trans ?_
    refine (if_pos M1.K52).trans ?_
    refine (if_pos M1.K52).trans ?_
    refine (bnd M1.R0 _).trans ?_
    refine (if_pos i1).trans ?_
    exact (if_neg (fun w => w ((rd_eq e2 hq (c := 43) (by omega)).mpr a))).trans rfl
  · refine (if_neg (show ¬ lk t T (nxt t T p) = nI 43 by rw [lk_eq R (by omega)]; exact fun w => by omega)).trans ?_
    refine (if_pos M1.K52).trans ?_
    refine (bnd s2 _).trans ?_
    refine (if_neg (fun w => w (show lk t T (nxt t T p) = nI 45 by rw [lk_eq R (by omega)]; exact ⟨hq, a⟩))).trans ?_
    refine (if_pos M1.K52).trans ?_
    refine (if_pos M1.K52).trans ?_
    refine (bnd M1.R0 _).trans ?_
    refine (if_pos i1).trans ?_
    exact (if_pos (show ¬ hI h1 53 (hI h1 52 8).toNatClampNeg = nI 43 by rw [rd_eq e2 hq (by omega)]; omega)).trans rfl
theorem M_s9_none (R : Mr h t T p) (hp : p ≤ T) (ho : sgA adS t T (nxt t T p) = none) (e1 : c_M_see d (some 52) h = some (h1, lk t T (nxt t T p))) (e2 : Mr h1 t T (nxt t T p)) : k_M_sum_9 d (some 52) h = some (h1, 1) := by
  have s2 := M_see_same (d := d) e2 (nxt_nxt (t := t) hp)
  refine (e_M_sum_9 _ _ _).trans ?_
  refine (if_pos R.1.K52).trans ?_
  refine (bnd e1 _).trans ?_
  refine (if_neg (show ¬ lk t T (nxt t T p) = nI 43 by rw [lk_eq R (by omega)]; exact adS_no ho (by omega))).trans ?_
  refine (if_pos e2.1.K52).trans ?_
  refine (bnd s2 _).trans ?_
  exact (if_pos (show ¬ lk t T (nxt t T p) = nI 45 by rw [lk_eq R (by omega)]; exact adS_no ho (by omega))).trans rfl
theorem term_len (hz : z.1 ≤ T) (hm : z.2.2 ≤ 60) {j : Nat} (hl : z.2.1.length + j ≤ z.1) (e : (oB (some (valP t T z)) fun z1 => tLo t T m z1) = some (.inr z1)) : z1.2.1.length + j ≤ z1.1 := by
  obtain ⟨y, e1, e2⟩ := oB_in e
  have g1 := valP_g (a := []) hz hm (Option.some.inj e1)
  have g2 := tLo_g (a := []) m _ _ g1.mm.2.1 g1.mm.1 e2
  have := (g1.tr g2).len hl
  omega
theorem M_s9 : ∀ (m : Nat) (z : RZ) (h : sk_H) (r : Nat ⊕ RZ), sLo t T m z = some r → Mz h i t T z → ∃ h' v, k_M_sum_9 d (some 52) h = some (h', v) ∧ Mzr h h' i t T r v
  | 0, z, h, r, e, Z => by cases e
  | m + 1, z, h, r, e, Z => by
    have hz := Z.1.2.2.2.2.2.2
    have hm := Z.2.2.2.2.2.2.1
    have hl := Z.2.2.2.2.2.2.2
    have hq := nxt_le (t := t) hz
    obtain ⟨h1, e1, e2, e3⟩ := M_see_ok (d := d) Z.1
    have Z1 := Z.mv e3.p8F e2 hq.1
    have j8 : hI h1 52 8 = nI (nxt t T z.1) := e2.2.2.2.2.1
    unfold sLo at e
    cases hs : sgA adS t T (nxt t T z.1) with
    | none =>
      rw [hs] at e
      have e : r = .inr (zAt z (nxt t T z.1)) := (Option.some.inj e).symm
      subst e
      exact ⟨h1, 1, M_s9_none Z.1 hz hs e1 e2, e3.p8F.pv, Or.inl ⟨_, rfl, rfl, Z1⟩⟩
    | some o =>
      rw [hs] at e
      have e : oB (some (valP t T (zAt z (nxt t T z.1 + 1)))) (fun z1 => oB (tLo t T m z1) fun z2 => sLo t T m (zE z2 o)) = some r := e
      rw [← oB_as] at e
      obtain ⟨hlt, ho⟩ := sgA_i2 hs
      have Z2 : Mz (wI h1 52 8 (nI (nxt t T z.1 + 1))) i t T (zAt z (nxt t T z.1 + 1)) := Z1.w8 (by omega) (by show nxt t T z.1 ≤ _; omega)
      have Q2 : Iq (PVz i) h (wI h1 52 8 (nI (nxt t T z.1 + 1))) := e3.p8F.pv.trans (PVz_w (by omega))
      have pre : ∀ h3 v3, c_M_term d (some 52) (wI h1 52 8 (nI (nxt t T z.1 + 1))) = some (h3, v3) → ∀ w, (if ¬ v3 = 0 then
          if hK h3 52 = 13 then
          Option.bind (c_M_puts d (some 52) (nI o) (0 : Int32) h3) fun q3 =>
          k_M_sum_9 d (some 52) q3
          else none
        else some (h3, (0 : Int32))) = w → k_M_sum_9 d (some 52) h = w := by
        intro h3 v3 f1 w hw
        rw [← hw, M_s9_some Z.1 hz hs e1 e2]
        refine (e_M_sum_46 _ _ _ _).trans ?_
        refine (if_pos e2.1.K52).trans ?_
        refine (if_pos e2.1.K52).trans ?_
        rw [j8, nI_1]
        refine (if_pos e2.1.K52).trans ?_
        exact (bnd f1 _).trans rfl
      rcases oB_cs e with ⟨g, a1, rfl⟩ | ⟨z3, a1, a2⟩
      · obtain ⟨h3, v3, f1, f2, f3⟩ := M_term_ok (d := d) Z2 a1
        rcases f3 with ⟨z3, g0, -⟩ | ⟨g', g0, rfl, g1, g2, g3⟩
        · cases g0
        · exact ⟨h3, 0, pre _ _ f1 _ (if_neg (fun w => w rfl)), Q2.trans f2, Or.inr ⟨g', g0, rfl, g1, g2, g3⟩⟩
      · obtain ⟨h3, v3, f1, f2, f3⟩ := M_term_ok (d := d) Z2 a1
        rcases f3 with ⟨z3', g0, rfl, Z3⟩ | ⟨g', g0, -⟩
        · have g0 := Sum.inr.inj g0
          subst g0
          have hl3 : z3.2.1.length + 1 ≤ z3.1 := term_len (z := zAt z (nxt t T z.1 + 1)) (show nxt t T z.1 + 1 ≤ T by omega) hm (show z.2.1.length + 1 ≤ nxt t T z.1 + 1 by omega) a1
          obtain ⟨h4, p1, p2, p3⟩ := M_puts_ok (d := d) Z3 hl3 (o, 0)
          obtain ⟨h5, v5, k1, k2⟩ := M_s9 m (zE z3 o) h4 r a2 p2
          refine ⟨h5, v5, pre _ _ f1 _ ?_, Mzr.pre (Q2.trans (f2.trans p3)) k2⟩
          refine (if_pos (show ¬ (1 : Int32) = 0 by decide)).trans ?_
          refine (if_pos Z3.1.1.K52).trans ?_
          exact (bnd p1 _).trans k1
        · cases g0
theorem M_sum_ok (Z : Mz h i t T z) (e : sumP t T m z = some r) : ∃ h' v, c_M_sum d (some 52) h = some (h', v) ∧ Mzr h h' i t T r v := by
  have e : oB (some (valP t T z)) (fun z1 => oB (tLo t T m z1) (sLo t T m)) = some r := e
  rw [← oB_as] at e
  have pre : ∀ h1 v1, c_M_term d (some 52) h = some (h1, v1) → ∀ w, (if ¬ v1 = 0 then k_M_sum_9 d (some 52) h1 else some (h1, (0 : Int32))) = w → c_M_sum d (some 52) h = w := by
    intro h1 v1 f1 w hw
    rw [← hw]
    refine (e_M_sum _ _ _).trans ?_
    refine (if_pos Z.1.1.K52).trans ?_
    exact (bnd f1 _).trans rfl
  rcases oB_cs e with ⟨g, a1, rfl⟩ | ⟨z3, a1, a2⟩
  · obtain ⟨h3, v3, f1, f2, f3⟩ := M_term_ok (d := d) Z a1
    rcases f3 with ⟨z3, g0, -⟩ | ⟨g', g0, rfl, g1, g2, g3⟩
    · cases g0
    · exact ⟨h3, 0, pre _ _ f1 _ (if_neg (fun w => w rfl)), f2, Or.inr ⟨g', g0, rfl, g1, g2, g3⟩⟩
  · obtain ⟨h3, v3, f1, f2, f3⟩ := M_term_ok (d := d) Z a1
    rcases f3 with ⟨z3', g0, rfl, Z3⟩ | ⟨g', g0, -⟩
    · have g0 := Sum.inr.inj g0
      subst g0
      obtain ⟨h5, v5, k1, k2⟩ := M_s9 (d := d) m z3 h3 r a2 Z3
      exact ⟨h5, v5, pre _ _ f1 _ ((if_pos (show ¬ (1 : Int32) = 0 by decide)).trans k1), Mzr.pre f2 k2⟩
    · cases g0
end SkMcmp
