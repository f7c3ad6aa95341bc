/-! ===== the reference reads all of a rule's text ===== -/
def PDz (i a j : Nat) : Bool := PCz i a j || decide (a = 52 ∧ (j = 1 ∨ j = 2 ∨ j = 11))
/-- the reference has read rule i -/
def Mrd (h : sk_H) (i : Nat) (z : RZ) (cs : List (Nat × Nat × Nat × Bool)) : Prop := McI h i cs ∧ ∀ k o, z.2.1[k]? = some o → hI h 54 (400 * i + k) = nI (o.1 + 16 * o.2)
section SkMreads
variable {h h' h1 h2 : sk_H} {t : Nat → Nat} {T i d p q n g o m k : Nat} {z z1 : RZ} {v : Int32} {cs : List (Nat × Nat × Nat × Bool)} {c : Nat × Nat × Nat × Bool}
theorem Iq.pd (Q : Iq (PCz i) h h1) : Iq (PDz i) h h1 := Q.mono fun a j hP => by
  unfold PDz at hP
  exact (Bool.or_eq_false_iff.mp hP).1
theorem PDz_w {j : Nat} (ha : j = 1 ∨ j = 2 ∨ j = 11) : Iq (PDz i) h (wI h 52 j v) := Iq.w h v (by unfold PDz; rw [decide_eq_true ⟨rfl, ha⟩, Bool.or_true])
theorem Mrd.w52 {j : Nat} (D : Mrd h i z cs) : Mrd (wI h 52 j v) i z cs := by
  obtain ⟨⟨i1, i2⟩, d2⟩ := D
  refine ⟨⟨by rw [hI_na (by omega)]; exact i1, fun k c hc => ?_⟩, fun k o ho => by rw [hI_na (by omega)]; exact d2 k o ho⟩
  obtain ⟨l1, l2, l3, l4⟩ := i2 k c hc
  exact ⟨by rw [hI_na (by omega)]; exact l1, by rw [hI_na (by omega)]; exact l2, by rw [hI_na (by omega)]; exact l3, by rw [hI_na (by omega)]; exact l4⟩
theorem M_rreads_in : ∀ (x : Nat) (z : RZ) (cs : List (Nat × Nat × Nat × Bool)) (h : sk_H) (r : Nat ⊕ (RZ × List (Nat × Nat × Nat × Bool))), cs.length + x = 13 → ruP t T m x z cs = some r → Mz h i t T z → McI h i cs → hI h 52 14 = nI cs.length → ∃ h' v, (Option.bind (c_M_clauseHere d (some 52) h) fun (q : sk_H × Int32) => k_M_readsAll_35 d (some 52) q.2 q.1) = some (h', v) ∧ Iq (PDz i) h h' ∧ hI h' 52 1 = nI 0 ∧ hI h' 52 2 = hI h 52 2 ∧ ((∃ g, r = .inl g ∧ v = 0 ∧ hI h' 52 9 = nI g) ∨ ∃ z' cs', r = .inr (z', cs') ∧ v = 1 ∧ Mrd h' i z' cs')
  | 0, z, cs, h, r, hx, e, Z, I, e14 => by cases e
  | x + 1, z, cs, h, r, hx, e, Z, I, e14 => by
    have n2 : ∀ {m1 m2 : sk_H}, Iq (PCz i) m1 m2 → hI m2 52 2 = hI m1 52 2 := fun Q => Q.I (by
      unfold PCz PTz PVz
      rw [decide_eq_false (by omega), decide_eq_false (by omega), decide_eq_false (by omega)]
      rfl)
    unfold ruP at e
    cases hc : clR t T m cs.length z with
    | none => rw [hc] at e; cases e
    | some y =>
      rw [hc] at e
      obtain ⟨h1, v1, c1, c2, c3⟩ := M_rclause_ok (d := d) Z I e14 (by omega) hc
      have M1 : MS 52 h1 := by have := Z.1.1; obtain ⟨I, rfl⟩ := c2.hw; exact this
      rcases c3 with ⟨z1, c, rfl, rfl, Z1, I1, f14, h12⟩ | ⟨g, rfl, rfl, g1, g2, g3⟩
      · have e : (match gO t T z1.1 with
            | Sum.inl g => some (Sum.inl g)
            | .inr none => some (Sum.inr (zAt z1 (nxt t T z1.1), cs ++ [c]))
            | .inr (some q) => ruP t T m x (zAt z1 q) (cs ++ [c])) = some r := e
        have el : (cs ++ [c]).length = cs.length + 1 := by rw [List.length_append]; rfl
        have hq := Z1.1.2.2.2.2.2.2
        have hT := Z1.1.2.1
        have hqn := nxt_le (t := t) hq
        obtain ⟨h2, f1, f2, f3⟩ := M_see_ok (d := d) Z1.1
        have Z2 := Z1.mv f3.p8F f2 hqn.1
        have M2 := f2.1
        have j8 := f2.2.2.2.2.1
        have I2 : McI h2 i (cs ++ [c]) := I1.pt f3.p8F.pv.pt
        have Q2 : Iq (PCz i) h h2 := c2.trans f3.p8F.pv.pt.pc
        have f14 : hI h2 52 14 = nI (cs.length + 1) := by rw [PTz_14 (i := i) f3.p8F.pv.pt]; exact f14
        by_cases zt : nxt t T z1.1 < T
        · have tl := (Z1.1.2.2.1 _ zt).1
          by_cases z2 : t (nxt t T z1.1) = 59
          · have gg : gO t T z1.1 = .inr (some (nxt t T z1.1 + 1)) := by unfold gO; rw [if_pos zt, if_pos z2]
            rw [gg] at e
            have e : ruP t T m x (zAt z1 (nxt t T z1.1 + 1)) (cs ++ [c]) = some r := e
            have R3 := f2.w8 (show nxt t T z1.1 + 1 ≤ T by omega)
            have Q3 : Iq PF h2 (wI h2 52 8 (nI (nxt t T z1.1 + 1))) := Iq.w _ _ (P := PF) rfl
            have Z3 : Mz (wI h2 52 8 (nI (nxt t T z1.1 + 1))) i t T (zAt z1 (nxt t T z1.1 + 1)) := Z2.mv Q3 R3 (show nxt t T z1.1 ≤ nxt t T z1.1 + 1 by omega)
            obtain ⟨h', v, k1, k2, k3, k4, k5⟩ := M_rreads_in x (zAt z1 (nxt t T z1.1 + 1)) (cs ++ [c]) (wI h2 52 8 (nI (nxt t T z1.1 + 1))) r (by rw [el]; omega) e Z3 (I2.pt Q3.pv.pt) (by rw [el, hI_ni (by omega)]; exact f14)
            refine ⟨h', v, ?_, (Q2.trans Q3.pv.pt.pc).pd.trans k2, k3, by rw [k4, hI_ni (by omega)]; exact n2 Q2, k5⟩
            refine Eq.trans ?_ k1
            refine (bnd c1 _).trans ?_
            refine (e_M_readsAll_35 _ _ _ _).trans ?_
            refine (if_neg n10).trans ?_
            refine (if_pos M1.K52).trans ?_
            refine (bnd f1 _).trans ?_
            refine (if_neg (fun y => y (show lk t T (nxt t T z1.1) = nI 59 by rw [lk_lt zt, z2]))).trans ?_
            refine (if_pos M2.K52).trans ?_
            refine (if_pos M2.K52).trans ?_
            rw [j8, nI_1]
            refine (if_pos M2.K52).trans ?_
            rfl
          · have gg : gO t T z1.1 = .inl (1 + 8 * nxt t T z1.1 + 0) := by unfold gO; rw [if_pos zt, if_neg z2]
            rw [gg] at e
            have e : (some (Sum.inl (1 + 8 * nxt t T z1.1 + 0)) : Option (Nat ⊕ (RZ × List (Nat × Nat × Nat × Bool)))) = some r := e
            have f9 := M_fails_ok (d := d) M2 f2.2.2.2.2.2.1 (k := 0) (q := nxt t T z1.1)
            rw [← j8] at f9
            have f88 := M_88 (d := d) (h := wI h2 52 9 (nI (1 + 8 * nxt t T z1.1 + 0))) M2 (g := 1 + 8 * nxt t T z1.1 + 0) (by omega) hI_se
            rw [decide_eq_false (by omega)] at f88
            refine ⟨wI (wI h2 52 9 (nI (1 + 8 * nxt t T z1.1 + 0))) 52 1 0, _, ?_, (Q2.trans PCz_9).pd.trans (PDz_w (by omega)), hI_se, by rw [hI_ni (by omega), hI_ni (by omega)]; exact n2 Q2, Or.inl ⟨_, (Option.some.inj e).symm, rfl, by rw [hI_ni (by omega), hI_se]⟩⟩
            refine (bnd c1 _).trans ?_
            refine (e_M_readsAll_35 _ _ _ _).trans ?_
            refine (if_neg n10).trans ?_
            refine (if_pos M1.K52).trans ?_
            refine (bnd f1 _).trans ?_
            refine (if_pos (show ¬ lk t T (nxt t T z1.1) = nI 59 by rw [lk_lt zt, q_eq_f z2 (by omega) (by omega)]; exact not_false)).trans ?_
            refine (e_M_readsAll_66 _ _ _ _).trans ?_
            refine (if_neg n10).trans ?_
            refine (if_pos M2.K52).trans ?_
            refine (bnd (M_see_same f2 (nxt_nxt hq)) _).trans ?_
            refine (if_neg (show ¬ lk t T (nxt t T z1.1) = nM by rw [lk_lt zt, q_m1 (by omega)]; exact not_false)).trans ?_
            refine (if_pos M2.K52).trans ?_
            refine (if_pos M2.K52).trans ?_
            refine (bnd f9 _).trans ?_
            exact f88
        · have gg : gO t T z1.1 = .inr none := by unfold gO; rw [if_neg zt]
          rw [gg] at e
          have e : (some (Sum.inr (zAt z1 (nxt t T z1.1), cs ++ [c])) : Option (Nat ⊕ (RZ × List (Nat × Nat × Nat × Bool)))) = some r := e
          have f88 := M_88 (d := d) M2 (g := 0) (by omega) f2.2.2.2.2.2.1
          have lm : lk t T (nxt t T z1.1) = nM := by unfold lk; rw [if_neg zt]
          have D2 : Mrd h2 i (zAt z1 (nxt t T z1.1)) (cs ++ [c]) := ⟨I2, Z2.2.2.2.2.2.1⟩
          refine ⟨wI h2 52 1 0, _, ?_, Q2.pd.trans (PDz_w (by omega)), hI_se, by rw [hI_ni (by omega)]; exact n2 Q2, Or.inr ⟨_, _, (Option.some.inj e).symm, rfl, D2.w52⟩⟩
          refine (bnd c1 _).trans ?_
          refine (e_M_readsAll_35 _ _ _ _).trans ?_
          refine (if_neg n10).trans ?_
          refine (if_pos M1.K52).trans ?_
          refine (bnd f1 _).trans ?_
          refine (if_pos (show ¬ lk t T (nxt t T z1.1) = nI 59 by rw [lm]; decide)).trans ?_
          refine (e_M_readsAll_66 _ _ _ _).trans ?_
          refine (if_neg n10).trans ?_
          refine (if_pos M2.K52).trans ?_
          refine (bnd (M_see_same f2 (nxt_nxt hq)) _).trans ?_
          refine (if_pos lm).trans ?_
          exact f88
      · have e : (some (Sum.inl g) : Option (Nat ⊕ (RZ × List (Nat × Nat × Nat × Bool)))) = some r := e
        have f88 := M_88 (d := d) M1 g3 g1
        rw [decide_eq_false (by omega)] at f88
        refine ⟨wI h1 52 1 0, _, ?_, c2.pd.trans (PDz_w (by omega)), hI_se, by rw [hI_ni (by omega)]; exact n2 c2, Or.inl ⟨g, (Option.some.inj e).symm, rfl, by rw [hI_ni (by omega)]; exact g1⟩⟩
        refine (bnd c1 _).trans ?_
        refine (e_M_readsAll_35 _ _ _ _).trans ?_
        refine (if_pos rfl).trans ?_
        refine (e_M_readsAll_66 _ _ _ _).trans ?_
        refine (if_pos rfl).trans ?_
        exact f88
theorem M_rule_ok (M : MS 52 h) (hT : T ≤ 400) (tp : ∀ i, i < T → t i < 256 ∧ hI h 53 i = sx (t i)) (e1 : hI h 52 1 = nI T) (e2 : hI h 52 2 = nI i) (hi : i < 6) {r : Nat ⊕ (RZ × List (Nat × Nat × Nat × Bool))} (e : ruP t T m 13 z0R [] = some r) : ∃ h' v, c_M_rule d (some 52) h = some (h', v) ∧ Iq (PDz i) h h' ∧ hI h' 52 1 = nI 0 ∧ ((∃ g, r = .inl g ∧ v = nM2 - nI g ∧ hI h' 52 2 = nI i) ∨ ∃ z cs, r = .inr (z, cs) ∧ v = nI i ∧ hI h' 52 2 = nI (i + 1) ∧ Mrd h' i z cs) := by
  obtain ⟨h3, hh3⟩ : ∃ h3, h3 = wI (wI h 52 11 (nI i)) 57 i 0 := ⟨_, rfl⟩
  have Q3 : Iq (PDz i) h h3 := by rw [hh3]; exact (PDz_w (by omega)).trans (PCz_w (by omega)).pd
  have M3 : MS 52 h3 := by obtain ⟨I, rfl⟩ := Q3.hw; exact M
  have i11 : hI h3 52 11 = nI i := by rw [hh3, hI_na (by omega), hI_se]
  obtain ⟨h6, hh6⟩ : ∃ h6, h6 = wI (wI (wI (wI (wI h3 55 i 0) 52 14 0) 52 8 0) 52 9 0) 52 12 0 := ⟨_, rfl⟩
  have Q6 : Iq (PDz i) h3 h6 := by
    rw [hh6]
    exact (((((PVz_w (by omega) : Iq (PVz i) _ _).pt.pc).trans (PCz_w (by omega))).trans ((PVz_w (by omega) : Iq (PVz i) _ _).pt.pc)).trans (((PVz_w (by omega) : Iq (PVz i) _ _).pt.pc).trans ((PVz_w (by omega) : Iq (PVz i) _ _).pt.pc))).pd
  have M6 : MS 52 h6 := by obtain ⟨I, rfl⟩ := Q6.hw; exact M3
  have x2 : hI h6 52 2 = nI i := by rw [hh6, hI_ni (by omega), hI_ni (by omega), hI_ni (by omega), hI_ni (by omega), hI_na (by omega), hh3, hI_na (by omega), hI_ni (by omega)]; exact e2
  have Z6 : Mz h6 i t T z0R := by
    refine ⟨⟨M6, hT, fun j hj => ⟨(tp j hj).1, ?_⟩, ?_, ?_, ?_, Nat.zero_le _⟩, ?_, hi, ?_, ?_, fun k o hk => ?_, Nat.zero_le _, Nat.le_refl _⟩
    · rw [hh6, hI_na (by omega), hI_na (by omega), hI_na (by omega), hI_na (by omega), hI_na (by omega), hh3, hI_na (by omega), hI_na (by omega)]; exact (tp j hj).2
    · rw [hh6, hI_ni (by omega), hI_ni (by omega), hI_ni (by omega), hI_ni (by omega), hI_na (by omega), hh3, hI_na (by omega), hI_ni (by omega)]; exact e1
    · rw [hh6, hI_ni (by omega), hI_ni (by omega), hI_se]; rfl
    · rw [hh6, hI_ni (by omega), hI_se]; rfl
    · rw [hh6, hI_ni (by omega), hI_ni (by omega), hI_ni (by omega), hI_ni (by omega), hI_na (by omega)]; exact i11
    · rw [hh6, hI_na (by omega), hI_na (by omega), hI_na (by omega), hI_na (by omega), hI_se]; rfl
    · rw [hh6, hI_se]; rfl
    · have hk : ([] : List (Nat × Nat))[k]? = some o := hk
      simp at hk
  have I6 : McI h6 i [] := ⟨by rw [hh6, hI_na (by omega), hI_na (by omega), hI_na (by omega), hI_na (by omega), hI_na (by omega), hh3, hI_se]; rfl, fun k c hc => by simp at hc⟩
  have f14 : hI h6 52 14 = nI ([] : List (Nat × Nat × Nat × Bool)).length := by rw [hh6, hI_ni (by omega), hI_ni (by omega), hI_ni (by omega), hI_se]; rfl
  obtain ⟨h2, v, k1, k2, k3, k4, k5⟩ := M_rreads_in (d := d) 13 z0R [] h6 r rfl e Z6 I6 f14
  have Q2 : Iq (PDz i) h h2 := (Q3.trans Q6).trans k2
  have M2 : MS 52 h2 := by obtain ⟨I, rfl⟩ := Q2.hw; exact M
  have y2 : hI h2 52 2 = nI i := k4.trans x2
  have ra : c_M_readsAll d (some 52) h3 = some (h2, v) := by
    refine Eq.trans ?_ k1
    refine (e_M_readsAll _ _ _).trans ?_
    refine (if_pos M3.K52).trans ?_
    refine (if_pos M3.K52).trans ?_
    refine (bnd M3.r4 _).trans ?_
    refine (if_pos ⟨M3.K55, by rw [i11, M3.N55]; exact vp_in_nI (by omega) (by omega)⟩).trans ?_
    rw [i11, q_cl (show i < 2 ^ 31 by omega)]
    refine (if_pos M3.K52).trans ?_
    refine (if_pos M3.K52).trans ?_
    refine (if_pos M3.K52).trans ?_
    refine (if_pos M3.K52).trans ?_
    refine (if_pos M3.K52).trans ?_
    rw [hh6]
  have pre : ∀ o, (if ¬ v = 0 then if hK h2 52 = 13 then if hK h2 52 = 13 then
      let h5 := wI h2 52 2 ((hI h2 52 2) + (1 : Int32))
      if hK h5 52 = 13 then
      some (h5, (hI h5 52 2) - (1 : Int32))
      else none
      else none
      else none
    else
      if hK h2 52 = 13 then
      some (h2, ((-2) : Int32) - (hI h2 52 9))
      else none) = o → c_M_rule d (some 52) h = o := by
    intro o ho
    rw [← ho]
    have i11' : hI (wI h 52 11 (hI h 52 2)) 52 11 = nI i := by rw [hI_se]; exact e2
    refine (e_M_rule _ _ _).trans ?_
    refine (if_pos M.K52).trans ?_
    refine (if_pos (show ¬ hI h 52 2 = nI 6 by rw [e2, q_eq_f (by omega) (by omega) (by omega)]; exact not_false)).trans ?_
    refine (if_pos M.K52).trans ?_
    refine (if_pos M.K52).trans ?_
    refine (if_pos M.K52).trans ?_
    refine (if_pos M.K52).trans ?_
    refine (bnd M.r6 _).trans ?_
    refine (if_pos ⟨M.K57, show sk_in (hI (wI h 52 11 (hI h 52 2)) 52 11) (hN h 57) by rw [i11', M.N57]; exact vp_in_nI (by omega) (by omega)⟩).trans ?_
    refine (if_pos M.K52).trans ?_
    exact (bnd (show c_M_readsAll d (some 52) (wI (wI h 52 11 (hI h 52 2)) 57 (hI (wI h 52 11 (hI h 52 2)) 52 11).toNatClampNeg 0) = some (h2, v) by rw [i11', q_cl (by omega), e2, ← hh3]; exact ra) _).trans rfl
  rcases k5 with ⟨g, c1, c2, c3⟩ | ⟨z, cs, c1, c2, c3⟩
  · refine ⟨h2, _, pre _ ?_, Q2, k3, Or.inl ⟨g, c1, rfl, y2⟩⟩
    rw [c2]
    refine (if_neg (fun y => y rfl)).trans ?_
    refine (if_pos M2.K52).trans ?_
    rw [c3]
    rfl
  · refine ⟨wI h2 52 2 (nI (i + 1)), nI i, pre _ ?_, Q2.trans (PDz_w (by omega)), by rw [hI_ni (by omega)]; exact k3, Or.inr ⟨z, cs, c1, rfl, hI_se, c3.w52⟩⟩
    rw [c2]
    refine (if_pos n10).trans ?_
    refine (if_pos M2.K52).trans ?_
    refine (if_pos M2.K52).trans ?_
    refine (if_pos M2.K52).trans ?_
    show some (wI h2 52 2 (hI h2 52 2 + 1), hI (wI h2 52 2 (hI h2 52 2 + 1)) 52 2 - 1) = _
    rw [y2, nI_1, hI_se]
    rw [show nI (i + 1) = nI i + 1 from (nI_1 i).symm, Int32.add_sub_cancel]
end SkMreads
