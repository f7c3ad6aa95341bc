/-! ===== the class settles a rule ===== -/
def PS9 (n a i : Nat) : Bool := decide (a = n + 9 ∨ (a = n + 3 ∧ i = 6))
def SI9 (h : sk_H) (n i wd : Nat) (l : List (Nat × Nat)) : Prop := hK h (n + 3) = 7 ∧ hR h (n + 3) 0 = some (n + 9) ∧ hK h (n + 9) = 101 ∧ hN h (n + 9) = l.length ∧ hK h (n + 2) = 101 ∧ hN h (n + 2) = 400 ∧ (∀ j o, l[j]? = some o → hI h (n + 2) j = oC o) ∧ hI h (n + 3) 6 = nI wd ∧ wd < 2048 ∧ ∀ j o, j < i → l[j]? = some o → hI h (n + 9) j = oC o ∧ (o.1 = 1 → wd.testBit o.2 = true)
section SkRulemade
variable {h h' h1 h2 : sk_H} {t : Nat → Nat} {T n d k m : Nat} {z z1 : RZ} {cs : List (Nat × Nat × Nat × Bool)} {l : List (Nat × Nat)}
theorem SI9.step {i wd wd' : Nat} {o : Nat × Nat} (S : SI9 h n i wd l) (ho : l[i]? = some o) (hw : wd' < 2048) (hb : ∀ b, wd.testBit b = true → wd'.testBit b = true) (hb1 : o.1 = 1 → wd'.testBit o.2 = true) : SI9 (wI (wI h (n + 9) i (oC o)) (n + 3) 6 (nI wd')) n (i + 1) wd' l := by
  obtain ⟨s1, s2, s3, s4, s5, s6, s7, s8, s9, s10⟩ := S
  refine ⟨s1, s2, s3, s4, s5, s6, fun j o hj => by rw [hI_na (by omega), hI_na (by omega)]; exact s7 j o hj, hI_se, hw, fun j o' hj hj' => ?_⟩
  rw [hI_na (by omega)]
  by_cases y : j = i
  · subst y
    rw [ho] at hj'
    have : o = o' := Option.some.inj hj'
    subst this
    exact ⟨hI_se, hb1⟩
  · rw [hI_ni y]
    obtain ⟨x1, x2⟩ := s10 j o' (by omega) hj'
    exact ⟨x1, fun e => hb _ (x2 e)⟩
theorem PS9_2 {i : Nat} {v w : Int32} : Iq (PS9 n) h (wI (wI h (n + 9) i v) (n + 3) 6 w) := (Iq.w h v (by unfold PS9; exact decide_eq_true (Or.inl rfl))).trans (Iq.w _ w (by unfold PS9; exact decide_eq_true (Or.inr ⟨rfl, rfl⟩)))
theorem oC_lt {o : Nat × Nat} (w : oW o) (h1 : o.1 ≠ 1) : oC o < nI 100000 := by
  obtain ⟨a, b⟩ := o
  rcases w with ⟨w1, w2⟩ | ⟨w1, w2⟩ | ⟨w1, w2, w3⟩
  · have w1 : a = 0 := w1
    subst w1
    exact nI_lt (show b < 100000 from Nat.lt_of_le_of_lt w2 (by omega)) (by omega)
  · exact absurd w1 h1
  · have w1 : 2 ≤ a := w1
    have w2 : a ≤ 14 := w2
    have w3 : b = 0 := w3
    subst w3
    rcases (show a = 2 ∨ a = 3 ∨ a = 4 ∨ a = 5 ∨ a = 6 ∨ a = 7 ∨ a = 8 ∨ a = 9 ∨ a = 10 ∨ a = 11 ∨ a = 12 ∨ a = 13 ∨ a = 14 by omega) with rfl | rfl | rfl | rfl | rfl | rfl | rfl | rfl | rfl | rfl | rfl | rfl | rfl <;> decide
theorem Ru_set_in (hl : l.length ≤ 400) (ow : ∀ o ∈ l, oW o) : ∀ (x i wd : Nat) (h : sk_H), i + x = l.length → SI9 h n i wd l → ∃ h' wd', k_Ru_settle_21 d (some (n + 3)) (some (n + 2)) (nI l.length) (nI i) h = some h' ∧ Iq (PS9 n) h h' ∧ SI9 h' n l.length wd' l
  | 0, i, wd, h, hx, S => by
    have : i = l.length := by omega
    subst this
    exact ⟨h, wd, (e_Ru_settle_21 _ _ _ _ _ _).trans (if_pos (Int32.le_refl _)), Iq.refl h, S⟩
  | x + 1, i, wd, h, hx, S => by
    obtain ⟨s1, s2, s3, s4, s5, s6, s7, s8, s9, s10⟩ := id S
    have hi : i < l.length := by omega
    have ho : l[i]? = some l[i] := List.getElem?_eq_getElem hi
    have wo := ow _ (List.getElem_mem hi)
    generalize l[i] = o at ho wo
    have ev : (nI i).toNatClampNeg = i := q_cl (by omega)
    have e2 : hI h (n + 2) (nI i).toNatClampNeg = oC o := by rw [ev]; exact s7 i o ho
    have e3 : ∀ v, hI (wI h (n + 9) (nI i).toNatClampNeg v) (n + 2) (nI i).toNatClampNeg = oC o := fun v => by rw [hI_na (by omega)]; exact e2
    have i2 : sk_in (nI i) (hN h (n + 2)) := by rw [s6]; exact vp_in_nI (by omega) (by omega)
    have i9 : sk_in (nI i) (hN h (n + 9)) := by rw [s4]; exact vp_in_nI (by omega) (by omega)
    by_cases q : o.1 = 1
    · have k10 : o.2 ≤ 10 := by
        rcases wo with ⟨y, -⟩ | ⟨-, y⟩ | ⟨y, -⟩
        · omega
        · exact y
        · omega
      have eC : oC o = nI (100000 + o.2) := by unfold oC; rw [q]; rfl
      have S1 := S.step (wd' := wd ||| 1 <<< o.2) ho (Nat.or_lt_two_pow (n := 11) s9 (by rw [Nat.one_shiftLeft]; exact Nat.pow_lt_pow_right (by omega) (by omega))) (fun b hb => by rw [Nat.testBit_or, hb]; rfl) (fun _ => by rw [Nat.testBit_or, bit_1, decide_eq_true rfl, Bool.or_true])
      obtain ⟨h', wd', k1, k2, k3⟩ := Ru_set_in hl ow x (i + 1) _ _ (by omega) S1
      refine ⟨h', wd', ?_, PS9_2.trans k2, k3⟩
      refine (e_Ru_settle_21 _ _ _ _ _ _).trans ?_
      refine (if_neg (nI_ge (by omega) (by omega))).trans ?_
      refine (if_pos s1).trans ?_
      refine (bnd rfl _).trans ?_
      refine (if_pos ⟨Or.inl s5, i2⟩).trans ?_
      refine (bnd s2 _).trans ?_
      refine (if_pos ⟨s3, i9⟩).trans ?_
      refine (if_pos s1).trans ?_
      refine (bnd rfl _).trans ?_
      refine (if_pos ⟨Or.inl s5, i2⟩).trans ?_
      refine (if_neg (show ¬ hI (wI h (n + 9) (nI i).toNatClampNeg (hI h (n + 2) (nI i).toNatClampNeg)) (n + 2) (nI i).toNatClampNeg < nI 100000 by rw [e3, eC]; exact nI_nlt (by omega) (by omega))).trans ?_
      refine (bnd rfl _).trans ?_
      refine (if_pos ⟨Or.inl s5, i2⟩).trans ?_
      refine (if_pos s1).trans ?_
      show k_Ru_settle_21 d (some (n + 3)) (some (n + 2)) (nI l.length) (nI i + 1) (wI (wI h (n + 9) (nI i).toNatClampNeg (hI h (n + 2) (nI i).toNatClampNeg)) (n + 3) 6 (hI (wI h (n + 9) (nI i).toNatClampNeg (hI h (n + 2) (nI i).toNatClampNeg)) (n + 3) 6 ||| ((1 : Int32) <<< ((hI (wI h (n + 9) (nI i).toNatClampNeg (hI h (n + 2) (nI i).toNatClampNeg)) (n + 2) (nI i).toNatClampNeg - nI 100000) &&& 31)))) = some h'
      rw [e3, e2, ev, hI_na (show n + 3 ≠ n + 9 by omega), s8, nI_1]
      rw [show oC o - nI 100000 = nI o.2 by rw [eC, q_sub (by omega), Nat.add_sub_cancel_left], nI_shl (by omega), nI_or]
      exact k1
    · have S1 := S.step (wd' := wd) ho s9 (fun b hb => hb) (fun e => absurd e q)
      obtain ⟨h', wd', k1, k2, k3⟩ := Ru_set_in hl ow x (i + 1) _ _ (by omega) S1
      refine ⟨h', wd', ?_, PS9_2.trans k2, k3⟩
      refine (e_Ru_settle_21 _ _ _ _ _ _).trans ?_
      refine (if_neg (nI_ge (by omega) (by omega))).trans ?_
      refine (if_pos s1).trans ?_
      refine (bnd rfl _).trans ?_
      refine (if_pos ⟨Or.inl s5, i2⟩).trans ?_
      refine (bnd s2 _).trans ?_
      refine (if_pos ⟨s3, i9⟩).trans ?_
      refine (if_pos s1).trans ?_
      refine (bnd rfl _).trans ?_
      refine (if_pos ⟨Or.inl s5, i2⟩).trans ?_
      refine (if_pos (show hI (wI h (n + 9) (nI i).toNatClampNeg (hI h (n + 2) (nI i).toNatClampNeg)) (n + 2) (nI i).toNatClampNeg < nI 100000 by rw [e3]; exact oC_lt wo q)).trans ?_
      refine (if_pos s1).trans ?_
      show k_Ru_settle_21 d (some (n + 3)) (some (n + 2)) (nI l.length) (nI i + 1) (wI (wI h (n + 9) (nI i).toNatClampNeg (hI h (n + 2) (nI i).toNatClampNeg)) (n + 3) 6 (hI (wI h (n + 9) (nI i).toNatClampNeg (hI h (n + 2) (nI i).toNatClampNeg)) (n + 3) 6 ||| nI 0)) = some h'
      rw [e2, ev, hI_na (show n + 3 ≠ n + 9 by omega), s8, nI_1, nI_or, Nat.or_zero]
      exact k1
/-- the class's rule is settled -/
theorem Ru_settle_ok (A : RA h n t T z) (U : RUS h n) (D : RUI h n cs) (en : hn h = n + 9) (w : ∀ o ∈ z.2.1, oW o) : ∃ h' wd, c_Ru_settle d (some (n + 3)) (some (n + 2)) (nI z.2.1.length) h = some h' ∧ hn h' = n + 10 ∧ hs h' = hs h + z.2.1.length ∧ (∀ c, c < n + 9 → c ≠ n + 3 → sk_same h h' c) ∧ SI9 h' n z.2.1.length wd z.2.1 ∧ (∀ j, j ≠ 0 → hR h' (n + 3) j = hR h (n + 3) j) ∧ hI h' (n + 3) 1 = hI h (n + 3) 1 := by
  obtain ⟨X, B, C, Dz, G, O, l⟩ := A
  obtain ⟨b1, b2, b3, b4, b5⟩ := id B
  have x3 := X.2.2.1
  have hL : z.2.1.length ≤ 400 := by have := O.1; omega
  obtain ⟨g1, g2, g3, ⟨g4, g5, g6⟩, g7, g8, g9⟩ := lkF (n + 3) [(0, 101, z.2.1.length)] h (by omega)
  have ef : [((0 : Nat), (101 : Nat), z.2.1.length)].foldl (lk1 (n + 3)) h = wR (hnew h 101 z.2.1.length) (n + 3) 0 (some (hn h)) := rfl
  rw [ef] at g1 g2 g3 g4 g5 g6 g7 g8 g9
  generalize hh : wR (hnew h 101 z.2.1.length) (n + 3) 0 (some (hn h)) = h4 at g1 g2 g3 g4 g5 g6 g7 g8 g9
  have m7 := g7 0 _ rfl
  have m9 := g9 (List.pairwise_singleton _ _) 0 _ rfl
  rw [en] at m7 m9 g1 g3
  have u2 := g3 (n + 2) (by omega) (by omega)
  have S0 : SI9 h4 n 0 0 z.2.1 := ⟨g4.trans U.1, m9, m7.1, m7.2.1, u2.1.trans b4, u2.2.1.trans b5, fun j o hj => by rw [u2.2.2.1]; exact Dz.2.2 j o hj, by rw [g6]; exact D.2.1, by omega, fun j o hj => absurd hj (by omega)⟩
  obtain ⟨h', wd, k1, k2, k3⟩ := Ru_set_in (d := d) hL w z.2.1.length 0 0 h4 (by omega) S0
  have eI : ∀ c i, ¬ (c = n + 9 ∨ (c = n + 3 ∧ i = 6)) → hI h' c i = hI h4 c i := fun c i hc => k2.I (by unfold PS9; exact decide_eq_false hc)
  refine ⟨h', wd, ?_, ?_, ?_, fun c hc hc3 => sk_same.trans (g3 c hc hc3) (k2.sm (fun i => by unfold PS9; exact decide_eq_false (by omega))), k3, fun j hj => ?_, ?_⟩
  · have c1 : (if Int32.ofNat (hN h (n + 2)) < nI z.2.1.length then Int32.ofNat (hN h (n + 2)) else nI z.2.1.length) = nI z.2.1.length := if_neg (by rw [b5]; exact nI_nlt (a := 400) (b := z.2.1.length) (by omega) (by omega))
    have c2 : (if (0 : Int32) < nI z.2.1.length then nI z.2.1.length else (0 : Int32)) = nI z.2.1.length := by
      by_cases y : 0 < z.2.1.length
      · exact if_pos (show nI 0 < nI z.2.1.length from nI_lt y (by omega))
      · rw [show z.2.1.length = 0 by omega]; rfl
    refine (e_Ru_settle _ _ _ _ _).trans ?_
    refine (bnd rfl _).trans ?_
    refine (if_pos (by rw [b4]; rfl)).trans ?_
    rw [c1, c2]
    refine (if_pos ⟨show ¬ nI z.2.1.length < nI 0 from nI_nlt (by omega) (by omega), by rw [q_cl (by omega)]; omega⟩).trans ?_
    rw [q_cl (by omega)]
    refine (if_pos (show hK (hnew h 101 z.2.1.length) (n + 3) = 7 by rw [newK (by omega)]; exact U.1)).trans ?_
    show k_Ru_settle_21 d (some (n + 3)) (some (n + 2)) (nI z.2.1.length) (nI 0) (wR (hnew h 101 z.2.1.length) (n + 3) 0 (some (hn h))) = _
    rw [hh]
    exact k1
  · rw [show hn h' = hn h4 from congrArg (fun x => x.2.2.1) k2.1, g1]; rfl
  · rw [show hs h' = hs h4 from congrArg (fun x => x.2.2.2) k2.1, g2]; rfl
  · rw [k2.eR]
    exact g8 j (fun x hx => by
      have : x = (0, 101, z.2.1.length) := by simpa using hx
      rw [this]
      exact fun e => hj e.symm)
  · rw [eI _ _ (by omega), g6]
end SkRulemade
