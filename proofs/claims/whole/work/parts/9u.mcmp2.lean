section SkMcmp2
variable {h h' h1 h2 : sk_H} {t : Nat → Nat} {T i d p q n g o e m : Nat} {z z1 : RZ} {v : Int32} {r : Nat ⊕ RZ}
/-- a sign counts as a fact, then its right side is read -/
theorem M_c105 {x1 x2 x3 s : Int32} (M : MS 52 h) (hs : ∀ X : sk_H, (if ¬ x1 = (60 : Int32) then
      if ¬ x1 = (61 : Int32) then
        if x3 = 0 then
          k_M_compare_152 d (some 52) (4 : Int32) X
        else
          k_M_compare_152 d (some 52) (3 : Int32) X
      else
        k_M_compare_152 d (some 52) (2 : Int32) X
    else
      if x3 = 0 then
        k_M_compare_152 d (some 52) (0 : Int32) X
      else
        k_M_compare_152 d (some 52) (1 : Int32) X) = k_M_compare_152 d (some 52) s X) : k_M_compare_105 d (some 52) x1 x2 x3 h = Option.bind (c_M_makes d (some 52) x2 h) fun (q1 : sk_H × Int32) => if ¬ q1.2 = 0 then k_M_compare_152 d (some 52) s q1.1 else some (q1.1, (0 : Int32)) := by
  refine (e_M_compare_105 _ _ _ _ _ _).trans ?_
  refine (if_pos M.K52).trans ?_
  refine congrArg (Option.bind _) (funext fun q1 => ?_)
  by_cases y : q1.2 = 0
  · exact (if_neg (fun w => w y)).trans (if_neg (fun w => w y)).symm
  · exact (if_pos y).trans ((hs q1.1).trans (if_pos y).symm)
theorem M_c89 {x1 x2 : Int32} : k_M_compare_89 d (some 52) x1 x2 h = k_M_compare_105 d (some 52) x1 x2 0 h := (e_M_compare_89 _ _ _ _ _).trans (if_pos rfl)
theorem M_c44 (R : Mr h t T q) (hs : sgC t T q = some (o, e)) : ∃ h2, Mr h2 t T e ∧ Iq P8 h h2 ∧ q < T ∧ (t q = 60 ∨ t q = 61 ∨ t q = 62) ∧ q + 1 ≤ e ∧ 6 ≤ o ∧ o ≤ 10 ∧ k_M_compare_44 d (some 52) (nI (t q)) (nI q) h = Option.bind (c_M_makes d (some 52) (nI q) h2) fun (q1 : sk_H × Int32) => if ¬ q1.2 = 0 then k_M_compare_152 d (some 52) (nI (o - 6)) q1.1 else some (q1.1, (0 : Int32)) := by
  obtain ⟨M, r1, r2, r3, r4, r5, r6⟩ := id R
  have q1 : ∀ k, Iq P8 h (wI h 52 8 (nI k)) := fun k => Iq.w h (nI k) (P := P8) rfl
  have pre : ∀ w, (let h1 := wI h 52 8 (nI (q + 1))
      if nI (t q) = (61 : Int32) then
        k_M_compare_89 d (some 52) (nI (t q)) (nI q) h1
      else
        if hK h1 52 = 13 then
        if hK h1 52 = 13 then
        if (hI h1 52 1) ≤ (hI h1 52 8) then
          k_M_compare_89 d (some 52) (nI (t q)) (nI q) h1
        else
          if hK h1 52 = 13 then
          if hK h1 52 = 13 then
          Option.bind (hR h1 52 0) fun a2 => if (hK h1 a2 = 103 ∨ hK h1 a2 = 104 ∨ hK h1 a2 = 204) ∧ sk_in (hI h1 52 8) (hN h1 a2) then
          if ¬ (hI h1 a2 (hI h1 52 8).toNatClampNeg) = (61 : Int32) then
            k_M_compare_89 d (some 52) (nI (t q)) (nI q) h1
          else
            if (1 : Int32) = 0 then
              k_M_compare_105 d (some 52) (nI (t q)) (nI q) (1 : Int32) h1
            else
              if hK h1 52 = 13 then
              if hK h1 52 = 13 then
              let h3 := wI h1 52 8 ((hI h1 52 8) + (1 : Int32))
              k_M_compare_105 d (some 52) (nI (t q)) (nI q) (1 : Int32) h3
              else none
              else none
          else none
          else none
          else none
        else none
        else none) = w → k_M_compare_44 d (some 52) (nI (t q)) (nI q) h = w := by
    intro w hw
    rw [← hw]
    refine (e_M_compare_44 _ _ _ _ _).trans ?_
    refine (if_pos M.K52).trans ?_
    refine (if_pos M.K52).trans ?_
    rw [r4, nI_1]
  unfold sgC at hs
  by_cases hq : q < T
  · rw [if_pos hq] at hs
    have R1 := R.w8 (q := q + 1) (by omega)
    have Q2 : Iq P8 h (wI (wI h 52 8 (nI (q + 1))) 52 8 (nI (q + 2))) := (q1 _).trans (Iq.w _ (nI (q + 2)) (P := P8) rfl)
    have e1 : hI (wI h 52 8 (nI (q + 1))) 52 8 = nI (q + 1) := hI_se
    have e1' : hI (wI h 52 8 (nI (q + 1))) 52 1 = nI T := R1.2.2.2.1
    -- the sign has one byte
    have one : (t q = 61 ∨ ¬ (q + 1 < T ∧ t (q + 1) = 61)) → k_M_compare_44 d (some 52) (nI (t q)) (nI q) h = k_M_compare_105 d (some 52) (nI (t q)) (nI q) 0 (wI h 52 8 (nI (q + 1))) := by
      intro hc
      refine pre _ ?_
      by_cases y : t q = 61
      · exact (if_pos (show nI (t q) = nI 61 by rw [y])).trans M_c89
      · refine (if_neg (show ¬ nI (t q) = nI 61 by have := (r2 q hq).1; rw [q_eq (by omega) (by omega)]; exact y)).trans ?_
        refine (if_pos M.K52).trans ?_
        refine (if_pos M.K52).trans ?_
        by_cases y2 : q + 1 < T
        · refine (if_neg (show ¬ hI (wI h 52 8 (nI (q + 1))) 52 1 ≤ hI (wI h 52 8 (nI (q + 1))) 52 8 by rw [e1, e1']; exact nI_ge y2 (by omega))).trans ?_
          refine (if_pos M.K52).trans ?_
          refine (if_pos M.K52).trans ?_
          refine (bnd M.R0 _).trans ?_
          refine (if_pos (rd_in R1 y2)).trans ?_
          refine (if_pos (show ¬ hI (wI h 52 8 (nI (q + 1))) 53 (hI (wI h 52 8 (nI (q + 1))) 52 8).toNatClampNeg = nI 61 by
            rw [rd_eq R1 y2 (by omega)]
            intro w
            rcases hc with hc | hc
            · exact y hc
            · exact hc ⟨y2, w⟩)).trans ?_
          exact M_c89
        · refine (if_pos (show hI (wI h 52 8 (nI (q + 1))) 52 1 ≤ hI (wI h 52 8 (nI (q + 1))) 52 8 by rw [e1, e1']; exact nI_le (by omega) (by omega))).trans ?_
          exact M_c89
    have two : t q ≠ 61 → (q + 1 < T ∧ t (q + 1) = 61) → k_M_compare_44 d (some 52) (nI (t q)) (nI q) h = k_M_compare_105 d (some 52) (nI (t q)) (nI q) 1 (wI (wI h 52 8 (nI (q + 1))) 52 8 (nI (q + 2))) := by
      intro y hc
      refine pre _ ?_
      refine (if_neg (show ¬ nI (t q) = nI 61 by have := (r2 q hq).1; rw [q_eq (by omega) (by omega)]; exact y)).trans ?_
      refine (if_pos M.K52).trans ?_
      refine (if_pos M.K52).trans ?_
      refine (if_neg (show ¬ hI (wI h 52 8 (nI (q + 1))) 52 1 ≤ hI (wI h 52 8 (nI (q + 1))) 52 8 by rw [e1, e1']; exact nI_ge hc.1 (by omega))).trans ?_
      refine (if_pos M.K52).trans ?_
      refine (if_pos M.K52).trans ?_
      refine (bnd M.R0 _).trans ?_
      refine (if_pos (rd_in R1 hc.1)).trans ?_
      refine (if_neg (fun w => w ((rd_eq R1 hc.1 (c := 61) (by omega)).mpr hc.2))).trans ?_
      refine (if_neg (show ¬ (1 : Int32) = 0 by decide)).trans ?_
      refine (if_pos M.K52).trans ?_
      refine (if_pos M.K52).trans ?_
      show k_M_compare_105 d (some 52) (nI (t q)) (nI q) 1 (wI (wI h 52 8 (nI (q + 1))) 52 8 (hI (wI h 52 8 (nI (q + 1))) 52 8 + 1)) = _
      rw [e1, nI_1]
    by_cases a : t q = 60
    · rw [if_pos a] at hs
      by_cases b : q + 1 < T ∧ t (q + 1) = 61
      · rw [if_pos b] at hs
        obtain ⟨rfl, rfl⟩ := Prod.mk.inj (Option.some.inj hs)
        refine ⟨_, R1.w8 (by omega), Q2, hq, Or.inl a, by omega, by omega, by omega, (two (by omega) b).trans ?_⟩
        exact M_c105 M (fun X => by rw [a]; rfl)
      · rw [if_neg b] at hs
        obtain ⟨rfl, rfl⟩ := Prod.mk.inj (Option.some.inj hs)
        refine ⟨_, R1, q1 _, hq, Or.inl a, by omega, by omega, by omega, (one (Or.inr b)).trans ?_⟩
        exact M_c105 M (fun X => by rw [a]; rfl)
    · rw [if_neg a] at hs
      by_cases a2 : t q = 61
      · rw [if_pos a2] at hs
        obtain ⟨rfl, rfl⟩ := Prod.mk.inj (Option.some.inj hs)
        refine ⟨_, R1, q1 _, hq, Or.inr (Or.inl a2), by omega, by omega, by omega, (one (Or.inl a2)).trans ?_⟩
        exact M_c105 M (fun X => by rw [a2]; rfl)
      · rw [if_neg a2] at hs
        by_cases a3 : t q = 62
        · rw [if_pos a3] at hs
          by_cases b : q + 1 < T ∧ t (q + 1) = 61
          · rw [if_pos b] at hs
            obtain ⟨rfl, rfl⟩ := Prod.mk.inj (Option.some.inj hs)
            refine ⟨_, R1.w8 (by omega), Q2, hq, Or.inr (Or.inr a3), by omega, by omega, by omega, (two (by omega) b).trans ?_⟩
            exact M_c105 M (fun X => by rw [a3]; rfl)
          · rw [if_neg b] at hs
            obtain ⟨rfl, rfl⟩ := Prod.mk.inj (Option.some.inj hs)
            refine ⟨_, R1, q1 _, hq, Or.inr (Or.inr a3), by omega, by omega, by omega, (one (Or.inr b)).trans ?_⟩
            exact M_c105 M (fun X => by rw [a3]; rfl)
        · rw [if_neg a3] at hs; cases hs
  · rw [if_neg hq] at hs; cases hs
end SkMcmp2
