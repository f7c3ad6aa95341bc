/-! ===== the reference reads a term, a sum ===== -/
section SkMsum
variable {h h' h1 h2 : sk_H} {t : Nat → Nat} {T i d p q n g o : Nat} {z z1 : RZ} {v : Int32} {r : Nat ⊕ RZ}
theorem oB_cs {x : Option (Nat ⊕ RZ)} {f : RZ → Option (Nat ⊕ RZ)} (e : oB x f = some r) : (∃ g, x = some (.inl g) ∧ r = .inl g) ∨ ∃ z1, x = some (.inr z1) ∧ f z1 = some r := by
  cases x with
  | none => cases e
  | some w =>
    cases w with
    | inl g => exact Or.inl ⟨g, rfl, (Option.some.inj e).symm⟩
    | inr z1 => exact Or.inr ⟨z1, rfl, e⟩
theorem lk_eq (R : Mr h t T p) {c : Nat} (hc : c < 128) : (lk t T q = nI c) = (q < T ∧ t q = c) := by
  unfold lk
  by_cases y : q < T
  · rw [if_pos y]
    have := (R.2.2.1 q y).1
    rw [q_eq (by omega) (by omega)]
    exact propext ⟨fun e => ⟨y, e⟩, fun e => e.2⟩
  · rw [if_neg y]
    exact propext ⟨fun e => absurd e.symm (fun w => by have := q_m1 (n := c) (by omega); exact this.mp w), fun e => absurd e.1 y⟩
theorem rd_in (R : Mr h t T q) (hq : q < T) : (hK h 53 = 103 ∨ hK h 53 = 104 ∨ hK h 53 = 204) ∧ sk_in (hI h 52 8) (hN h 53) := by
  obtain ⟨M, r1, r2, r3, r4, r5, r6⟩ := R
  exact ⟨Or.inr (Or.inl M.K53), by rw [r4, M.N53]; exact vp_in_nI (by omega) (by omega)⟩
theorem rd_eq (R : Mr h t T q) (hq : q < T) {c : Nat} (hc : c < 128) : (hI h 53 (hI h 52 8).toNatClampNeg = nI c) = (t q = c) := by
  obtain ⟨M, r1, r2, r3, r4, r5, r6⟩ := R
  rw [r4, q_cl (by omega), (r2 q hq).2, sx_eq (r2 q hq).1 hc]
theorem sgA_i2 {f : Nat → Option Nat} (e : sgA f t T q = some o) : q < T ∧ f (t q) = some o := by
  unfold sgA at e
  by_cases y : q < T
  · rw [if_pos y] at e; exact ⟨y, e⟩
  · rw [if_neg y] at e; cases e
theorem tS_cs {c : Nat} (e : tS c = some o) : (c = 42 ∧ o = 4) ∨ (c = 47 ∧ o = 5) ∨ (c = 37 ∧ o = 14) := by
  unfold tS at e
  by_cases a : c = 42
  · rw [if_pos a] at e; exact Or.inl ⟨a, (Option.some.inj e).symm⟩
  · rw [if_neg a] at e
    by_cases b : c = 47
    · rw [if_pos b] at e; exact Or.inr (Or.inl ⟨b, (Option.some.inj e).symm⟩)
    · rw [if_neg b] at e
      by_cases b2 : c = 37
      · rw [if_pos b2] at e; exact Or.inr (Or.inr ⟨b2, (Option.some.inj e).symm⟩)
      · rw [if_neg b2] at e; cases e
theorem adS_cs {c : Nat} (e : adS c = some o) : (c = 43 ∧ o = 2) ∨ (c = 45 ∧ o = 3) := by
  unfold adS at e
  by_cases a : c = 43
  · rw [if_pos a] at e; exact Or.inl ⟨a, (Option.some.inj e).symm⟩
  · rw [if_neg a] at e
    by_cases b : c = 45
    · rw [if_pos b] at e; exact Or.inr ⟨b, (Option.some.inj e).symm⟩
    · rw [if_neg b] at e; cases e
theorem tS_no (e : sgA tS t T q = none) {c : Nat} (hc : c = 42 ∨ c = 47 ∨ c = 37) : ¬ (q < T ∧ t q = c) := fun ⟨a, b⟩ => by
  unfold sgA at e
  rw [if_pos a, b] at e
  rcases hc with rfl | rfl | rfl <;> cases e
theorem adS_no (e : sgA adS t T q = none) {c : Nat} (hc : c = 43 ∨ c = 45) : ¬ (q < T ∧ t q = c) := fun ⟨a, b⟩ => by
  unfold sgA at e
  rw [if_pos a, b] at e
  rcases hc with rfl | rfl <;> cases e
theorem M_t36 (R : Mr h t T q) (hq : q < T) (ho : tS (t q) = some o) : k_M_term_36 d (some 52) h = k_M_term_74 d (some 52) (nI o) h := by
  have M := R.1
  have i1 := rd_in R hq
  refine (e_M_term_36 _ _ _).trans ?_
  refine (if_pos M.K52).trans ?_
  refine (if_pos M.K52).trans ?_
  refine (bnd M.R0 _).trans ?_
  refine (if_pos i1).trans ?_
  rcases tS_cs ho with ⟨a, rfl⟩ | ⟨a, rfl⟩ | ⟨a, rfl⟩
  · exact (if_neg (fun w => w ((rd_eq R hq (c := 42) (by omega)).mpr a))).trans rfl
  · refine (if_pos (show ¬ hI h 53 (hI h 52 8).toNatClampNeg = nI 42 by rw [rd_eq R hq (by omega)]; omega)).trans ?_
    refine (if_pos M.K52).trans ?_
    refine (if_pos M.K52).trans ?_
    refine (bnd M.R0 _).trans ?_
    refine (if_pos i1).trans ?_
    exact (if_neg (fun w => w ((rd_eq R hq (c := 47) (by omega)).mpr a))).trans rfl
  · refine (if_pos (show ¬ hI h 53 (hI h 52 8).toNatClampNeg = nI 42 by rw [rd_eq R hq (by omega)]; omega)).trans ?_
    refine (if_pos M.K52).trans ?_
    refine (if_pos M.K52).trans ?_
    refine (bnd M.R0 _).trans ?_
    refine (if_pos i1).trans ?_
    exact (if_pos (show ¬ hI h 53 (hI h 52 8).toNatClampNeg = nI 47 by rw [rd_eq R hq (by omega)]; omega)).trans rfl
theorem M_t9_some (R : Mr h t T p) (hp : p ≤ T) (ho : sgA tS t T (nxt t T p) = some o) (e1 : c_M_see d (some 52) h = some (h1, lk t T (nxt t T p))) (e2 : Mr h1 t T (nxt t T p)) : k_M_term_9 d (some 52) h = k_M_term_74 d (some 52) (nI o) h1 := by
  have hqq := nxt_nxt (t := t) hp
  have s2 := M_see_same (d := d) e2 hqq
  obtain ⟨hq, ho⟩ := sgA_i2 ho
  have k36 := M_t36 (d := d) e2 hq ho
  refine (e_M_term_9 _ _ _).trans ?_
  refine (if_pos R.1.K52).trans ?_
  refine (bnd e1 _).trans ?_
  by_cases a : t (nxt t T p) = 42
  · exact (if_pos (show lk t T (nxt t T p) = nI 42 by rw [lk_eq R (by omega)]; exact ⟨hq, a⟩)).trans k36
  · refine (if_neg (show ¬ lk t T (nxt t T p) = nI 42 by rw [lk_eq R (by omega)]; exact fun w => a w.2)).trans ?_
    refine (if_pos e2.1.K52).trans ?_
    refine (bnd s2 _).trans ?_
    by_cases b : t (nxt t T p) = 47
    · exact (if_pos (show lk t T (nxt t T p) = nI 47 by rw [lk_eq R (by omega)]; exact ⟨hq, b⟩)).trans k36
    · refine (if_neg (show ¬ lk t T (nxt t T p) = nI 47 by rw [lk_eq R (by omega)]; exact fun w => b w.2)).trans ?_
      refine (if_pos e2.1.K52).trans ?_
      refine (bnd s2 _).trans ?_
      refine (if_neg (fun w => w (show lk t T (nxt t T p) = nI 37 by
        rw [lk_eq R (by omega)]
        refine ⟨hq, ?_⟩
        rcases tS_cs ho with ⟨y, -⟩ | ⟨y, -⟩ | ⟨y, -⟩
        · exact absurd y a
        · exact absurd y b
        · exact y))).trans ?_
      exact k36
theorem M_t9_none (R : Mr h t T p) (hp : p ≤ T) (ho : sgA tS t T (nxt t T p) = none) (e1 : c_M_see d (some 52) h = some (h1, lk t T (nxt t T p))) (e2 : Mr h1 t T (nxt t T p)) : k_M_term_9 d (some 52) h = some (h1, 1) := by
  have hqq := nxt_nxt (t := t) hp
  have s2 := M_see_same (d := d) e2 hqq
  refine (e_M_term_9 _ _ _).trans ?_
  refine (if_pos R.1.K52).trans ?_
  refine (bnd e1 _).trans ?_
  refine (if_neg (show ¬ lk t T (nxt t T p) = nI 42 by rw [lk_eq R (by omega)]; exact tS_no ho (by omega))).trans ?_
  refine (if_pos e2.1.K52).trans ?_
  refine (bnd s2 _).trans ?_
  refine (if_neg (show ¬ lk t T (nxt t T p) = nI 47 by rw [lk_eq R (by omega)]; exact tS_no ho (by omega))).trans ?_
  refine (if_pos e2.1.K52).trans ?_
  refine (bnd s2 _).trans ?_
  exact (if_pos (show ¬ lk t T (nxt t T p) = nI 37 by rw [lk_eq R (by omega)]; exact tS_no ho (by omega))).trans rfl
theorem Mz.w8 (Z : Mz h i t T z) (hq : q ≤ T) (hz : z.1 ≤ q) : Mz (wI h 52 8 (nI q)) i t T (zAt z q) := Z.mv (Iq.p8F (Iq.w h (nI q) (P := P8) rfl)) (Z.1.w8 hq) hz
theorem M_t9 : ∀ (m : Nat) (z : RZ) (h : sk_H) (r : Nat ⊕ RZ), tLo t T m z = some r → Mz h i t T z → ∃ h' v, k_M_term_9 d (some 52) h = some (h', v) ∧ Mzr h h' i t T r v
  | 0, z, h, r, e, Z => by cases e
  | m + 1, z, h, r, e, Z => by
    have hz := Z.1.2.2.2.2.2.2
    have hm := Z.2.2.2.2.2.2.1
    have hl := Z.2.2.2.2.2.2.2
    have hq := nxt_le (t := t) hz
    obtain ⟨h1, e1, e2, e3⟩ := M_see_ok (d := d) Z.1
    have Z1 := Z.mv e3.p8F e2 hq.1
    have j8 : hI h1 52 8 = nI (nxt t T z.1) := e2.2.2.2.2.1
    unfold tLo at e
    cases hs : sgA tS t T (nxt t T z.1) with
    | none =>
      rw [hs] at e
      have e : r = .inr (zAt z (nxt t T z.1)) := (Option.some.inj e).symm
      subst e
      exact ⟨h1, 1, M_t9_none Z.1 hz hs e1 e2, e3.p8F.pv, Or.inl ⟨_, rfl, rfl, Z1⟩⟩
    | some o =>
      rw [hs] at e
      obtain ⟨hlt, ho⟩ := sgA_i2 hs
      have Z2 : Mz (wI h1 52 8 (nI (nxt t T z.1 + 1))) i t T (zAt z (nxt t T z.1 + 1)) := Z1.w8 (by omega) (by show nxt t T z.1 ≤ _; omega)
      have Q2 : Iq (PVz i) h (wI h1 52 8 (nI (nxt t T z.1 + 1))) := e3.p8F.pv.trans (PVz_w (by omega))
      obtain ⟨h3, v3, f1, f2, f3⟩ := M_value_ok (d := d) Z2
      have pre : ∀ w, (if ¬ v3 = 0 then
          if hK h3 52 = 13 then
          Option.bind (c_M_puts d (some 52) (nI o) (0 : Int32) h3) fun q3 =>
          k_M_term_9 d (some 52) q3
          else none
        else some (h3, (0 : Int32))) = w → k_M_term_9 d (some 52) h = w := by
        intro w hw
        rw [← hw, M_t9_some Z.1 hz hs e1 e2]
        refine (e_M_term_74 _ _ _ _).trans ?_
        refine (if_pos e2.1.K52).trans ?_
        refine (if_pos e2.1.K52).trans ?_
        rw [j8, nI_1]
        refine (if_pos e2.1.K52).trans ?_
        exact (bnd f1 _).trans rfl
      rcases f3 with ⟨z3, g0, rfl, Z3⟩ | ⟨g, g0, rfl, g1, g2, g3⟩
      · have e : tLo t T m (zE z3 o) = some r := by
          have e : oB (some (valP t T (zAt z (nxt t T z.1 + 1)))) (fun z1 => tLo t T m (zE z1 o)) = some r := e
          rw [g0] at e
          exact e
        obtain ⟨l, a1, a2, a3, a4, a5, a6, a7⟩ := valP_g (a := []) (z := zAt z (nxt t T z.1 + 1)) (show nxt t T z.1 + 1 ≤ T by omega) hm g0
        have a1 : z3.2.1 = z.2.1 ++ l := a1
        have a5 : nxt t T z.1 + 1 + l.length + 0 ≤ z3.1 := a5
        have hl3 : z3.2.1.length + 1 ≤ z3.1 := by rw [a1, List.length_append]; omega
        obtain ⟨h4, p1, p2, p3⟩ := M_puts_ok (d := d) Z3 hl3 (o, 0)
        obtain ⟨h5, v5, k1, k2⟩ := M_t9 m (zE z3 o) h4 r e p2
        refine ⟨h5, v5, pre _ ?_, Mzr.pre (Q2.trans (f2.trans p3)) k2⟩
        refine (if_pos (show ¬ (1 : Int32) = 0 by decide)).trans ?_
        refine (if_pos Z3.1.1.K52).trans ?_
        exact (bnd p1 _).trans k1
      · have e : some (Sum.inl g) = some r := by
          have e : oB (some (valP t T (zAt z (nxt t T z.1 + 1)))) (fun z1 => tLo t T m (zE z1 o)) = some r := e
          rw [g0] at e
          exact e
        have e := Option.some.inj e
        subst e
        refine ⟨h3, 0, pre _ ?_, Q2.trans f2, Or.inr ⟨g, rfl, rfl, g1, g2, g3⟩⟩
        exact (if_neg (fun w => w rfl)).trans rfl
theorem M_term_ok {m : Nat} (Z : Mz h i t T z) (e : (oB (some (valP t T z)) fun z1 => tLo t T m z1) = some r) : ∃ h' v, c_M_term d (some 52) h = some (h', v) ∧ Mzr h h' i t T r v := by
  obtain ⟨h1, v1, f1, f2, f3⟩ := M_value_ok (d := d) Z
  have pre : ∀ w, (if ¬ v1 = 0 then k_M_term_9 d (some 52) h1 else some (h1, (0 : Int32))) = w → c_M_term d (some 52) h = w := by
    intro w hw
    rw [← hw]
    refine (e_M_term _ _ _).trans ?_
    refine (if_pos Z.1.1.K52).trans ?_
    exact (bnd f1 _).trans rfl
  rcases f3 with ⟨z3, g0, rfl, Z3⟩ | ⟨g, g0, rfl, g1, g2, g3⟩
  · rw [g0] at e
    obtain ⟨h2, v2, k1, k2⟩ := M_t9 (d := d) m z3 h1 r e Z3
    exact ⟨h2, v2, pre _ ((if_pos (show ¬ (1 : Int32) = 0 by decide)).trans k1), Mzr.pre f2 k2⟩
  · rw [g0] at e
    have e : Sum.inl g = r := Option.some.inj e
    subst e
    exact ⟨h1, 0, pre _ (if_neg (fun w => w rfl)), f2, Or.inr ⟨g, rfl, rfl, g1, g2, g3⟩⟩
end SkMsum
