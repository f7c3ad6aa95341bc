/-- what reading a clause leaves -/
def Mcr (h h' : sk_H) (i : Nat) (t : Nat → Nat) (T : Nat) (cs : List (Nat × Nat × Nat × Bool)) (r : Nat ⊕ (RZ × (Nat × Nat × Nat × Bool))) (v : Int32) : Prop := Iq (PCz i) h h' ∧ ((∃ z c, r = .inr (z, c) ∧ v = 1 ∧ Mz h' i t T z ∧ McI h' i (cs ++ [c]) ∧ hI h' 52 14 = hI h 52 14) ∨ ∃ g, r = .inl g ∧ v = 0 ∧ hI h' 52 9 = nI g ∧ 0 < g ∧ g < 10000)
section SkMstroke2
variable {h h' h1 h2 : sk_H} {t : Nat → Nat} {T i d p q n g o m k : Nat} {z z1 : RZ} {v : Int32} {cs : List (Nat × Nat × Nat × Bool)} {c : Nat × Nat × Nat × Bool} {r : Nat ⊕ (RZ × (Nat × Nat × Nat × Bool))}
theorem PTz_14 (Q : Iq (PTz i) h h1) : hI h1 52 14 = hI h 52 14 := Q.I (by
  unfold PTz PVz
  rw [decide_eq_false (by omega), decide_eq_false (by omega)]
  rfl)
theorem McI.add (I : McI h i cs) (e : ∀ j, j < 48 * i + 4 * cs.length → hI h' 56 j = hI h 56 j) (e57 : hI h' 57 i = nI (cs.length + 1)) (L : McL h' i cs.length c) : McI h' i (cs ++ [c]) := by
  refine ⟨by rw [e57, List.length_append]; rfl, fun k c' hk => ?_⟩
  by_cases y : k < cs.length
  · rw [List.getElem?_append_left y] at hk
    obtain ⟨l1, l2, l3, l4⟩ := I.2 k c' hk
    exact ⟨by rw [e _ (by omega)]; exact l1, by rw [e _ (by omega)]; exact l2, by rw [e _ (by omega)]; exact l3, by rw [e _ (by omega)]; exact l4⟩
  · rw [List.getElem?_append_right (by omega)] at hk
    by_cases y2 : k = cs.length
    · rw [y2, Nat.sub_self] at hk
      have : c = c' := by simpa using hk
      rw [y2, ← this]
      exact L
    · rw [List.getElem?_eq_none (by show [c].length ≤ _; simp; omega)] at hk
      cases hk
theorem clR_nxt (hz : z.1 ≤ T) : clR t T m k (zAt z (nxt t T z.1)) = clR t T m k z := by
  unfold clR
  show (if wdl t T (nxt t T (nxt t T z.1)) = wStk then _ else _) = _
  simp only [zAt, nxt_nxt hz]
theorem M_stroke_ok (Z : Mz h i t T z) (hn : nxt t T z.1 = z.1) (hw : wdl t T z.1 = wStk) (I : McI h i cs) (hk : cs.length < 12) (e : clR t T m cs.length z = some r) : ∃ h' v, c_M_isStrokeHere d (some 52) h = some (h', v) ∧ Mcr h h' i t T cs r v := by
  have hz := Z.1.2.2.2.2.2.2
  have hE := wE_le (t := t) hz
  obtain ⟨h1, p1, p2, p3⟩ := M_passWord_ok (d := d) Z.1
  have Z1 := Z.mv p3.p8F p2 hE.1
  have I1 : McI h1 i cs := I.pt p3.p8F.pv.pt
  have e57 := I1.1
  obtain ⟨R1, z2, z3, z4, -⟩ := id Z1
  have M1 := R1.1
  have z4 : hI h1 55 i = nI z.2.1.length := z4
  have ec : (hI h1 52 11).toNatClampNeg = i := by rw [z2, q_cl (by omega)]
  have ea : ((48 : Int32) * hI h1 52 11 + (4 : Int32) * hI h1 57 (hI h1 52 11).toNatClampNeg) = nI (48 * i + 4 * cs.length) := by rw [ec, z2, e57, show (48 : Int32) = nI 48 from rfl, show (4 : Int32) = nI 4 from rfl, pk_mul, pk_mul, nI_add]
  obtain ⟨a, ha⟩ : ∃ a, a = 48 * i + 4 * cs.length := ⟨_, rfl⟩
  have hb : a + 4 ≤ 288 := by omega
  rw [← ha] at ea
  have ea1 : ((48 : Int32) * hI h1 52 11 + (4 : Int32) * hI h1 57 (hI h1 52 11).toNatClampNeg) + (1 : Int32) = nI (a + 1) := by rw [ea, nI_1]
  have ea2 : ((48 : Int32) * hI h1 52 11 + (4 : Int32) * hI h1 57 (hI h1 52 11).toNatClampNeg) + (2 : Int32) = nI (a + 2) := by rw [ea, show (2 : Int32) = nI 2 from rfl, nI_add]
  have e5 : (wI h1 56 ((48 : Int32) * hI h1 52 11 + (4 : Int32) * hI h1 57 (hI h1 52 11).toNatClampNeg).toNatClampNeg (hI h1 55 (hI h1 52 11).toNatClampNeg)) = wI h1 56 a (nI z.2.1.length) := by rw [ea, ec, z4, q_cl (by omega)]
  have Z5 : Mz (wI h1 56 a (nI z.2.1.length)) i t T (zAt z (wE t T z.1)) := Z1.nc (by omega)
  have s4 : sk_in (hI h1 52 11) (hN h1 55) := by rw [z2, M1.N55]; exact vp_in_nI (by omega) (by omega)
  have s6 : sk_in (hI h1 52 11) (hN h1 57) := by rw [z2, M1.N57]; exact vp_in_nI (by omega) (by omega)
  have s5 : sk_in ((48 : Int32) * hI h1 52 11 + (4 : Int32) * hI h1 57 (hI h1 52 11).toNatClampNeg) (hN h1 56) := by rw [ea, M1.N56]; exact vp_in_nI (by omega) (by omega)
  have Q5 : Iq (PCz i) h (wI h1 56 a (nI z.2.1.length)) := p3.p8F.pv.pt.pc.trans (PCz_w (by omega))
  have o5 : ∀ j, j < a → hI (wI h1 56 a (nI z.2.1.length)) 56 j = hI h 56 j := fun j hj => by rw [hI_ni (by omega), PTz_no (i := i) p3.p8F.pv.pt (by omega)]
  have f5 : hI (wI h1 56 a (nI z.2.1.length)) 52 14 = hI h 52 14 := by rw [hI_na (by omega), PTz_14 (i := i) p3.p8F.pv.pt]
  have w5 : hI (wI h1 56 a (nI z.2.1.length)) 56 a = nI z.2.1.length := hI_se
  have g5 : hI (wI h1 56 a (nI z.2.1.length)) 57 i = nI cs.length := by rw [hI_na (by omega)]; exact e57
  -- what comes before the sum
  have pre : ∀ (h6 : sk_H) (v6 : Int32) o, c_M_sum d (some 52) (wI h1 56 a (nI z.2.1.length)) = some (h6, v6) → (if ¬ v6 = 0 then if hK h6 52 = 13 then if hK h6 52 = 13 then if hK h6 52 = 13 then Option.bind (hR h6 52 4) fun a7 => if (hK h6 a7 = 101 ∨ hK h6 a7 = 201) ∧ sk_in (hI h6 52 11) (hN h6 a7) then Option.bind (hR h6 52 5) fun a8 => if hK h6 a8 = 101 ∧ sk_in (((48 : Int32) * hI h1 52 11 + (4 : Int32) * hI h1 57 (hI h1 52 11).toNatClampNeg) + (1 : Int32)) (hN h6 a8) then
    let h9 := wI h6 a8 (((48 : Int32) * hI h1 52 11 + (4 : Int32) * hI h1 57 (hI h1 52 11).toNatClampNeg) + (1 : Int32)).toNatClampNeg (hI h6 a7 (hI h6 52 11).toNatClampNeg)
    if hK h9 52 = 13 then
    Option.bind (hR h9 52 5) fun a10 => if hK h9 a10 = 101 ∧ sk_in (((48 : Int32) * hI h1 52 11 + (4 : Int32) * hI h1 57 (hI h1 52 11).toNatClampNeg) + (2 : Int32)) (hN h9 a10) then
    let h11 := wI h9 a10 (((48 : Int32) * hI h1 52 11 + (4 : Int32) * hI h1 57 (hI h1 52 11).toNatClampNeg) + (2 : Int32)).toNatClampNeg ((-1) : Int32)
    if hK h11 52 = 13 then
    Option.bind (c_M_takesWord d (some 52) (26982 : Int64) h11) fun q12 =>
    if q12.2 = 0 then
      k_M_isStrokeHere_110 d (some 52) ((48 : Int32) * hI h1 52 11 + (4 : Int32) * hI h1 57 (hI h1 52 11).toNatClampNeg) q12.1
    else
      if hK q12.1 52 = 13 then
      if hK q12.1 52 = 13 then
      if hK q12.1 52 = 13 then
      Option.bind (hR q12.1 52 4) fun a13 => if (hK q12.1 a13 = 101 ∨ hK q12.1 a13 = 201) ∧ sk_in (hI q12.1 52 11) (hN q12.1 a13) then
      Option.bind (hR q12.1 52 5) fun a14 => if hK q12.1 a14 = 101 ∧ sk_in (((48 : Int32) * hI h1 52 11 + (4 : Int32) * hI h1 57 (hI h1 52 11).toNatClampNeg) + (2 : Int32)) (hN q12.1 a14) then
      let h15 := wI q12.1 a14 (((48 : Int32) * hI h1 52 11 + (4 : Int32) * hI h1 57 (hI h1 52 11).toNatClampNeg) + (2 : Int32)).toNatClampNeg (hI q12.1 a13 (hI q12.1 52 11).toNatClampNeg)
      if hK h15 52 = 13 then
      Option.bind (c_M_tested d (some 52) h15) fun q16 =>
      if ¬ q16.2 = 0 then
        k_M_isStrokeHere_110 d (some 52) ((48 : Int32) * hI h1 52 11 + (4 : Int32) * hI h1 57 (hI h1 52 11).toNatClampNeg) q16.1
      else
        some (q16.1, (0 : Int32))
      else none
      else none
      else none
      else none
      else none
      else none
    else none
    else none
    else none
    else none
    else none
    else none
    else none
    else none
    else some (h6, (0 : Int32))) = o → c_M_isStrokeHere d (some 52) h = o := by
    intro h6 v6 o hs ho
    rw [← ho]
    refine (e_M_isStrokeHere _ _ _).trans ?_
    refine (if_pos Z.1.1.K52).trans ?_
    refine (bnd p1 _).trans ?_
    refine (if_pos M1.K52).trans ?_
    refine (if_pos M1.K52).trans ?_
    refine (if_pos M1.K52).trans ?_
    refine (bnd M1.r6 _).trans ?_
    refine (if_pos ⟨Or.inl M1.K57, s6⟩).trans ?_
    refine (if_pos M1.K52).trans ?_
    refine (if_pos M1.K52).trans ?_
    refine (if_pos M1.K52).trans ?_
    refine (bnd M1.r4 _).trans ?_
    refine (if_pos ⟨Or.inl M1.K55, s4⟩).trans ?_
    refine (bnd M1.r5 _).trans ?_
    refine (if_pos ⟨M1.K56, s5⟩).trans ?_
    refine (if_pos M1.K52).trans ?_
    exact (bnd (show c_M_sum d (some 52) (wI h1 56 ((48 : Int32) * hI h1 52 11 + (4 : Int32) * hI h1 57 (hI h1 52 11).toNatClampNeg).toNatClampNeg (hI h1 55 (hI h1 52 11).toNatClampNeg)) = some (h6, v6) by rw [e5]; exact hs) _).trans rfl
  unfold clR at e
  rw [hn, if_pos hw, if_neg (by omega)] at e
  cases hs : sumP t T m (zAt z (wE t T z.1)) with
  | none => rw [hs] at e; cases e
  | some y =>
    rw [hs] at e
    obtain ⟨h6, v6, s1, s2⟩ := M_sum_ok (d := d) Z5 hs
    rcases s2.2 with ⟨z1, rfl, rfl, Z6⟩ | ⟨g, rfl, rfl, g1, g2, g3⟩
    · have e : (if wdl t T (nxt t T z1.1) = wIf then
          match mch t T m true [] (zAt z1 (wE t T (nxt t T z1.1))) with
          | none => none
          | some (.inl g) => some (.inl g)
          | some (.inr z2) => some (.inr (z2, z.2.1.length, z1.2.1.length, z2.2.1.length, true))
        else some (.inr (zAt z1 (nxt t T z1.1), z.2.1.length, z1.2.1.length, z1.2.1.length, false))) = some r := e
      obtain ⟨R6, y2, -, y4, -⟩ := id Z6
      have M6 := R6.1
      have ec6 : (hI h6 52 11).toNatClampNeg = i := by rw [y2, q_cl (by omega)]
      have e11 : (wI (wI h6 56 (((48 : Int32) * hI h1 52 11 + (4 : Int32) * hI h1 57 (hI h1 52 11).toNatClampNeg) + (1 : Int32)).toNatClampNeg (hI h6 55 (hI h6 52 11).toNatClampNeg)) 56 (((48 : Int32) * hI h1 52 11 + (4 : Int32) * hI h1 57 (hI h1 52 11).toNatClampNeg) + (2 : Int32)).toNatClampNeg ((-1) : Int32)) = wI (wI h6 56 (a + 1) (nI z1.2.1.length)) 56 (a + 2) nM := by rw [ea1, ea2, ec6, y4, q_cl (by omega), q_cl (by omega)]; rfl
      have Z11 : Mz (wI (wI h6 56 (a + 1) (nI z1.2.1.length)) 56 (a + 2) nM) i t T z1 := (Z6.nc (by omega)).nc (by omega)
      obtain ⟨h12, k1, k2, k3⟩ := M_if_ok (d := d) Z11
      have M12 := k2.1.1
      have k6 : ∀ j, hI h6 56 j = hI (wI h1 56 a (nI z.2.1.length)) 56 j := fun j => PTz_no s2.1.pt (by omega)
      have k12 : ∀ j, hI h12 56 j = hI (wI (wI h6 56 (a + 1) (nI z1.2.1.length)) 56 (a + 2) nM) 56 j := fun j => PTz_no k3.p8F.pv.pt (i := i) (by omega)
      have Q12 : Iq (PCz i) h h12 := (Q5.trans s2.1.pt.pc).trans (((PCz_w (by omega)).trans (PCz_w (by omega))).trans k3.p8F.pv.pt.pc)
      have o12 : ∀ j, j < a → hI h12 56 j = hI h 56 j := fun j hj => by rw [k12, hI_ni (by omega), hI_ni (by omega), k6, o5 j hj]
      have w12 : hI h12 56 a = nI z.2.1.length := by rw [k12, hI_ni (by omega), hI_ni (by omega), k6, w5]
      have x12 : hI h12 56 (a + 1) = nI z1.2.1.length := by rw [k12, hI_ni (by omega), hI_se]
      have y12 : hI h12 56 (a + 2) = nM := by rw [k12, hI_se]
      have f12 : hI h12 52 14 = hI h 52 14 := by rw [PTz_14 (i := i) k3.p8F.pv.pt, hI_na (by omega), hI_na (by omega), PTz_14 s2.1.pt, f5]
      have g12 : hI h12 57 i = nI cs.length := by rw [PTz_no (i := i) k3.p8F.pv.pt (by omega), hI_na (by omega), hI_na (by omega), PTz_no s2.1.pt (by omega), g5]
      have pre2 : ∀ o, (if bi (decide (wdl t T (nxt t T z1.1) = wIf)) = 0 then
            k_M_isStrokeHere_110 d (some 52) ((48 : Int32) * hI h1 52 11 + (4 : Int32) * hI h1 57 (hI h1 52 11).toNatClampNeg) h12
          else
            if hK h12 52 = 13 then
            if hK h12 52 = 13 then
            if hK h12 52 = 13 then
            Option.bind (hR h12 52 4) fun a13 => if (hK h12 a13 = 101 ∨ hK h12 a13 = 201) ∧ sk_in (hI h12 52 11) (hN h12 a13) then
            Option.bind (hR h12 52 5) fun a14 => if hK h12 a14 = 101 ∧ sk_in (((48 : Int32) * hI h1 52 11 + (4 : Int32) * hI h1 57 (hI h1 52 11).toNatClampNeg) + (2 : Int32)) (hN h12 a14) then
            let h15 := wI h12 a14 (((48 : Int32) * hI h1 52 11 + (4 : Int32) * hI h1 57 (hI h1 52 11).toNatClampNeg) + (2 : Int32)).toNatClampNeg (hI h12 a13 (hI h12 52 11).toNatClampNeg)
            if hK h15 52 = 13 then
            Option.bind (c_M_tested d (some 52) h15) fun q16 =>
            if ¬ q16.2 = 0 then
              k_M_isStrokeHere_110 d (some 52) ((48 : Int32) * hI h1 52 11 + (4 : Int32) * hI h1 57 (hI h1 52 11).toNatClampNeg) q16.1
            else
              some (q16.1, (0 : Int32))
            else none
            else none
            else none
            else none
            else none
            else none) = o → c_M_isStrokeHere d (some 52) h = o := by
        intro o ho
        rw [← ho]
        refine pre h6 1 _ s1 ?_
        refine (if_pos n10).trans ?_
        refine (if_pos M6.K52).trans ?_
        refine (if_pos M6.K52).trans ?_
        refine (if_pos M6.K52).trans ?_
        refine (bnd M6.r4 _).trans ?_
        refine (if_pos ⟨Or.inl M6.K55, show sk_in (hI h6 52 11) (hN h6 55) by rw [y2, M6.N55]; exact vp_in_nI (by omega) (by omega)⟩).trans ?_
        refine (bnd M6.r5 _).trans ?_
        refine (if_pos ⟨M6.K56, show sk_in (((48 : Int32) * hI h1 52 11 + (4 : Int32) * hI h1 57 (hI h1 52 11).toNatClampNeg) + (1 : Int32)) (hN h6 56) by rw [ea1, M6.N56]; exact vp_in_nI (by omega) (by omega)⟩).trans ?_
        refine (if_pos M6.K52).trans ?_
        refine (bnd M6.r5 _).trans ?_
        refine (if_pos ⟨M6.K56, show sk_in (((48 : Int32) * hI h1 52 11 + (4 : Int32) * hI h1 57 (hI h1 52 11).toNatClampNeg) + (2 : Int32)) (hN h6 56) by rw [ea2, M6.N56]; exact vp_in_nI (by omega) (by omega)⟩).trans ?_
        refine (if_pos M6.K52).trans ?_
        exact (bnd (show c_M_takesWord d (some 52) (26982 : Int64) (wI (wI h6 56 (((48 : Int32) * hI h1 52 11 + (4 : Int32) * hI h1 57 (hI h1 52 11).toNatClampNeg) + (1 : Int32)).toNatClampNeg (hI h6 55 (hI h6 52 11).toNatClampNeg)) 56 (((48 : Int32) * hI h1 52 11 + (4 : Int32) * hI h1 57 (hI h1 52 11).toNatClampNeg) + (2 : Int32)).toNatClampNeg ((-1) : Int32)) = _ by rw [e11]; exact k1) _).trans rfl
      by_cases y : wdl t T (nxt t T z1.1) = wIf
      · rw [if_pos y] at e
        rw [decide_eq_true y] at pre2
        have ek : tkE t T z1.1 wIf = wE t T (nxt t T z1.1) := by unfold tkE; rw [if_pos y]
        rw [ek] at k2
        obtain ⟨R12, u2, -, u4, -⟩ := id k2
        have u4 : hI h12 55 i = nI z1.2.1.length := u4
        have ec12 : (hI h12 52 11).toNatClampNeg = i := by rw [u2, q_cl (by omega)]
        have e15 : (wI h12 56 (((48 : Int32) * hI h1 52 11 + (4 : Int32) * hI h1 57 (hI h1 52 11).toNatClampNeg) + (2 : Int32)).toNatClampNeg (hI h12 55 (hI h12 52 11).toNatClampNeg)) = wI h12 56 (a + 2) (nI z1.2.1.length) := by rw [ea2, ec12, u4, q_cl (by omega)]
        have Z15 : Mz (wI h12 56 (a + 2) (nI z1.2.1.length)) i t T (zAt z1 (wE t T (nxt t T z1.1))) := k2.nc (by omega)
        have pre3 : ∀ (h16 : sk_H) (v16 : Int32) o, c_M_tested d (some 52) (wI h12 56 (a + 2) (nI z1.2.1.length)) = some (h16, v16) → (if ¬ v16 = 0 then k_M_isStrokeHere_110 d (some 52) ((48 : Int32) * hI h1 52 11 + (4 : Int32) * hI h1 57 (hI h1 52 11).toNatClampNeg) h16 else some (h16, (0 : Int32))) = o → c_M_isStrokeHere d (some 52) h = o := by
          intro h16 v16 o ht ho
          rw [← ho]
          refine pre2 _ ?_
          refine (if_neg nb1).trans ?_
          refine (if_pos M12.K52).trans ?_
          refine (if_pos M12.K52).trans ?_
          refine (if_pos M12.K52).trans ?_
          refine (bnd M12.r4 _).trans ?_
          refine (if_pos ⟨Or.inl M12.K55, show sk_in (hI h12 52 11) (hN h12 55) by rw [u2, M12.N55]; exact vp_in_nI (by omega) (by omega)⟩).trans ?_
          refine (bnd M12.r5 _).trans ?_
          refine (if_pos ⟨M12.K56, show sk_in (((48 : Int32) * hI h1 52 11 + (4 : Int32) * hI h1 57 (hI h1 52 11).toNatClampNeg) + (2 : Int32)) (hN h12 56) by rw [ea2, M12.N56]; exact vp_in_nI (by omega) (by omega)⟩).trans ?_
          refine (if_pos M12.K52).trans ?_
          exact (bnd (show c_M_tested d (some 52) (wI h12 56 (((48 : Int32) * hI h1 52 11 + (4 : Int32) * hI h1 57 (hI h1 52 11).toNatClampNeg) + (2 : Int32)).toNatClampNeg (hI h12 55 (hI h12 52 11).toNatClampNeg)) = some (h16, v16) by rw [e15]; exact ht) _).trans rfl
        cases hm : mch t T m true [] (zAt z1 (wE t T (nxt t T z1.1))) with
        | none => rw [hm] at e; cases e
        | some y =>
          rw [hm] at e
          obtain ⟨h16, v16, t1, t2⟩ := M_tested_ok (d := d) Z15 hm
          have k16 : ∀ j, hI h16 56 j = hI (wI h12 56 (a + 2) (nI z1.2.1.length)) 56 j := fun j => PTz_no t2.1 (by omega)
          have Q16 : Iq (PCz i) h h16 := Q12.trans ((PCz_w (by omega)).trans t2.1.pc)
          rcases t2.2 with ⟨z2, rfl, rfl, Z16⟩ | ⟨g, rfl, rfl, g1, g2, g3⟩
          · have e : (some (.inr (z2, z.2.1.length, z1.2.1.length, z2.2.1.length, true)) : Option (Nat ⊕ (RZ × (Nat × Nat × Nat × Bool)))) = some r := e
            have er := Option.some.inj e
            have g16 : hI h16 57 i = nI cs.length := by rw [PTz_no t2.1 (by omega), hI_na (by omega)]; exact g12
            refine ⟨wI (wI h16 56 (a + 3) (nI z2.2.1.length)) 57 i (nI (cs.length + 1)), 1, pre3 h16 1 _ t1 ?_, Q16.trans ((PCz_w (by omega)).trans (PCz_w (by omega))), Or.inl ⟨z2, _, er.symm, rfl, (Z16.nc (by omega)).nc (by omega), I.add (fun j hj => ?_) hI_se ⟨?_, ?_, ?_, ?_⟩, ?_⟩⟩
            · refine (if_pos n10).trans ?_
              rw [ea, ha]
              exact M_110 Z16 g16 hk
            · rw [hI_na (by omega), hI_ni (by omega), k16, hI_ni (by omega), o12 j (by omega)]
            · rw [← ha, hI_na (by omega), hI_ni (by omega), k16, hI_ni (by omega), w12]
            · rw [← ha, hI_na (by omega), hI_ni (by omega), k16, hI_ni (by omega), x12]
            · rw [← ha, hI_na (by omega), hI_ni (by omega), k16, hI_se]
              exact (if_pos rfl).symm
            · rw [← ha, hI_na (by omega), hI_se]
            · rw [hI_na (by omega), hI_na (by omega), PTz_14 t2.1, hI_na (by omega), f12]
          · have e : (some (.inl g) : Option (Nat ⊕ (RZ × (Nat × Nat × Nat × Bool)))) = some r := e
            exact ⟨h16, 0, pre3 h16 0 _ t1 (if_neg (fun w => w rfl)), Q16, Or.inr ⟨g, (Option.some.inj e).symm, rfl, g1, g2, g3⟩⟩
      · rw [if_neg y] at e
        rw [decide_eq_false y] at pre2
        have ek : tkE t T z1.1 wIf = nxt t T z1.1 := by unfold tkE; rw [if_neg y]
        rw [ek] at k2
        have er := Option.some.inj e
        refine ⟨wI (wI h12 56 (a + 3) (nI z1.2.1.length)) 57 i (nI (cs.length + 1)), 1, pre2 _ ?_, Q12.trans ((PCz_w (by omega)).trans (PCz_w (by omega))), Or.inl ⟨_, _, er.symm, rfl, (k2.nc (by omega)).nc (by omega), I.add (fun j hj => ?_) hI_se ⟨?_, ?_, ?_, ?_⟩, ?_⟩⟩
        · refine (if_pos rfl).trans ?_
          rw [ea, ha]
          exact M_110 (z := zAt z1 (nxt t T z1.1)) k2 g12 hk
        · rw [hI_na (by omega), hI_ni (by omega), o12 j (by omega)]
        · rw [← ha, hI_na (by omega), hI_ni (by omega), w12]
        · rw [← ha, hI_na (by omega), hI_ni (by omega), x12]
        · rw [← ha, hI_na (by omega), hI_ni (by omega), y12]
          exact (if_neg (fun w => by cases w)).symm
        · rw [← ha, hI_na (by omega), hI_se]
        · rw [hI_na (by omega), hI_na (by omega), f12]
    · have e : (some (.inl g) : Option (Nat ⊕ (RZ × (Nat × Nat × Nat × Bool)))) = some r := e
      exact ⟨h6, 0, pre h6 0 _ s1 (if_neg (fun w => w rfl)), Q5.trans s2.1.pt.pc, Or.inr ⟨g, (Option.some.inj e).symm, rfl, g1, g2, g3⟩⟩
end SkMstroke2
