/-! ===== the reference's stack of signs ===== -/
def PTz (i a j : Nat) : Bool := PVz i a j || decide ((a = 52 ∧ (j = 13 ∨ j = 16)) ∨ a = 59)
/-- the signs that wait, the last first -/
def Sks (h : sk_H) : List Nat → Prop
  | [] => True
  | x :: r => hI h 59 r.length = nI x ∧ (x = 11 ∨ x = 12 ∨ x = 13 ∨ x = 91) ∧ Sks h r
def Mt (h : sk_H) (i : Nat) (t : Nat → Nat) (T : Nat) (s : List Nat) (z : RZ) : Prop := Mz h i t T z ∧ hI h 52 16 = nI s.length ∧ hI h 52 13 = nI (dpS s) ∧ Sks h s ∧ z.2.1.length + s.length ≤ z.1
section SkMstk
variable {h h' h1 h2 : sk_H} {t : Nat → Nat} {T i d p q n g o m k : Nat} {z z1 : RZ} {v : Int32} {r : Nat ⊕ RZ} {s : List Nat}
theorem Iq.pt (Q : Iq (PVz i) h h1) : Iq (PTz i) h h1 := Q.mono fun a j hP => by
  unfold PTz at hP
  exact (Bool.or_eq_false_iff.mp hP).1
theorem PTz_w {a j : Nat} (ha : (a = 52 ∧ (j = 13 ∨ j = 16)) ∨ a = 59) : Iq (PTz i) h (wI h a j v) := Iq.w h v (by unfold PTz; rw [decide_eq_true ha, Bool.or_true])
theorem Sks.mv : ∀ (s : List Nat), Sks h s → (∀ j, j < s.length → hI h1 59 j = hI h 59 j) → Sks h1 s
  | [], _, _ => trivial
  | x :: r, S, e => ⟨(e _ (by rw [List.length_cons]; omega)).trans S.1, S.2.1, Sks.mv r S.2.2 (fun j hj => e j (by rw [List.length_cons]; omega))⟩
theorem PVz_no {a j : Nat} (Q : Iq (PVz i) h h1) (ha : ¬ ((a = 52 ∧ (j = 8 ∨ j = 9 ∨ j = 10 ∨ j = 12)) ∨ (a = 54 ∧ 400 * i ≤ j ∧ j < 400 * i + 400) ∨ (a = 55 ∧ j = i))) : hI h1 a j = hI h a j := Q.I (by unfold PVz; exact decide_eq_false ha)
theorem Mt.mz (X : Mt h i t T s z) (Q : Iq (PVz i) h h1) (Z : Mz h1 i t T z1) (hl : z1.2.1.length + s.length ≤ z1.1) : Mt h1 i t T s z1 :=
  ⟨Z, by rw [PVz_no Q (by omega)]; exact X.2.1, by rw [PVz_no Q (by omega)]; exact X.2.2.1, X.2.2.2.1.mv s (fun j _ => PVz_no Q (by omega)), hl⟩
theorem Mz.nt (Z : Mz h i t T z) {a j : Nat} (ha : (a = 52 ∧ (j = 13 ∨ j = 16)) ∨ a = 59) : Mz (wI h a j v) i t T z := by
  obtain ⟨R, z2, z3, z4, z5, z6, z7, z8⟩ := Z
  obtain ⟨M, r1, r2, r3, r4, r5, r6⟩ := id R
  have e : ∀ b k, ¬ (b = a ∧ k = j) → hI (wI h a j v) b k = hI h b k := fun b k hb => by rw [hI_wI, if_neg hb]
  refine ⟨⟨M, r1, fun i hi => ⟨(r2 i hi).1, by rw [e _ _ (by omega)]; exact (r2 i hi).2⟩, by rw [e _ _ (by omega)]; exact r3, by rw [e _ _ (by omega)]; exact r4, by rw [e _ _ (by omega)]; exact r5, r6⟩, by rw [e _ _ (by omega)]; exact z2, z3, by rw [e _ _ (by omega)]; exact z4, by rw [e _ _ (by omega)]; exact z5, fun k o hk => by rw [e _ _ (by omega)]; exact z6 k o hk, z7, z8⟩
theorem M_str {x : Nat} (hx : x = 11 ∨ x = 12 ∨ x = 13 ∨ x = 91) : c_M_strength d (nI x) h = some (h, nI (strS x)) := by
  refine (e_M_strength _ _ _).trans ?_
  rcases hx with rfl | rfl | rfl | rfl <;> rfl
theorem dpS_cons (x : Nat) (r : List Nat) : dpS (x :: r) = (if x = 11 ∨ x = 91 then 1 else 0) + dpS r := rfl
theorem M_set : ∀ (s : List Nat) (z : RZ) (h : sk_H), 1 ≤ k → k ≤ 3 → Mt h i t T s z → ∃ h', k_M_settles_0 d (some 52) (nI k) h = some h' ∧ Mt h' i t T (stl k s z).1 (stl k s z).2 ∧ Iq (PTz i) h h' ∧ (stl k s z).2.1 = z.1
  | [], z, h, hk, hk3, X => by
    have M := X.1.1.1
    refine ⟨h, ?_, X, Iq.refl h, rfl⟩
    refine (e_M_settles_0 _ _ _ _).trans ?_
    refine (if_pos M.K52).trans ?_
    exact if_pos (show hI h 52 16 ≤ nI 0 by rw [X.2.1]; exact Int32.le_refl _)
  | x :: r, z, h, hk, hk3, X => by
    obtain ⟨Z, x1, x2, ⟨y1, y2, y3⟩, x4⟩ := id X
    have M := Z.1.1
    have hT := Z.1.2.1
    have hz := Z.1.2.2.2.2.2.2
    rw [List.length_cons] at x1 x4
    have em : hI h 52 16 - (1 : Int32) = nI r.length := by rw [x1, l1, q_sub (by omega), Nat.add_sub_cancel]
    have in1 : sk_in (nI r.length) (hN h 59) := by rw [M.N59]; exact vp_in_nI (by omega) (by omega)
    have sx3 : strS x ≤ 3 := by rcases y2 with rfl | rfl | rfl | rfl <;> decide
    have pre : ∀ w, (if nI (strS x) < nI k then some h
        else
      if hK h 52 = 13 then
      if hK h 52 = 13 then
      let h3 := wI h 52 16 (nI r.length)
      if hK h3 52 = 13 then
      if hK h3 52 = 13 then
      Option.bind (hR h3 52 15) fun a4 => if (hK h3 a4 = 101 ∨ hK h3 a4 = 201) ∧ sk_in (hI h3 52 16) (hN h3 a4) then
      if hK h3 52 = 13 then
      Option.bind (c_M_puts d (some 52) (hI h3 a4 (hI h3 52 16).toNatClampNeg) (0 : Int32) h3) fun q5 =>
      if hK q5 52 = 13 then
      if hK q5 52 = 13 then
      Option.bind (hR q5 52 15) fun a6 => if (hK q5 a6 = 101 ∨ hK q5 a6 = 201) ∧ sk_in (hI q5 52 16) (hN q5 a6) then
      if ¬ (hI q5 a6 (hI q5 52 16).toNatClampNeg) = (11 : Int32) then
        k_M_settles_0 d (some 52) (nI k) q5
      else
        if hK q5 52 = 13 then
        if hK q5 52 = 13 then
        let h7 := wI q5 52 13 ((hI q5 52 13) - (1 : Int32))
        k_M_settles_0 d (some 52) (nI k) h7
        else none
        else none
      else none
      else none
      else none
      else none
      else none
      else none
      else none
      else none
      else none) = w → k_M_settles_0 d (some 52) (nI k) h = w := by
      intro w hw
      rw [← hw]
      refine (e_M_settles_0 _ _ _ _).trans ?_
      refine (if_pos M.K52).trans ?_
      refine (if_neg (show ¬ hI h 52 16 ≤ nI 0 by rw [x1]; exact nI_ge (by omega) (by omega))).trans ?_
      refine (if_pos M.K52).trans ?_
      refine (if_pos M.K52).trans ?_
      refine (bnd M.r15 _).trans ?_
      refine (if_pos ⟨Or.inl M.K59, show sk_in (hI h 52 16 - (1 : Int32)) (hN h 59) by rw [em]; exact in1⟩).trans ?_
      refine (bnd (show c_M_strength d (hI h 59 (hI h 52 16 - (1 : Int32)).toNatClampNeg) h = some (h, nI (strS x)) by rw [em, q_cl (by omega), y1]; exact M_str y2) _).trans ?_
      show (if nI (strS x) < nI k then some h else _) = _
      rw [em]
    by_cases q : k ≤ strS x
    · have es : stl k (x :: r) z = stl k r (zE z x) := if_pos q
      rw [es]
      have Z1 : Mz (wI h 52 16 (nI r.length)) i t T z := Z.nt (by omega)
      obtain ⟨h4, p1, p2, p3⟩ := M_puts_ok (d := d) Z1 (by omega) (x, 0)
      have e16 : hI h4 52 16 = nI r.length := by rw [PVz_no p3 (by omega), hI_se]
      have e13 : hI h4 52 13 = nI (dpS (x :: r)) := by rw [PVz_no p3 (by omega), hI_ni (by omega)]; exact x2
      have e59 : ∀ j, hI h4 59 j = hI h 59 j := fun j => by rw [PVz_no p3 (by omega), hI_na (by omega)]
      have M4 := p2.1.1
      have hl4 : (zE z x).2.1.length + r.length ≤ (zE z x).1 := by
        show (z.2.1 ++ [(x, 0)]).length + r.length ≤ z.1
        rw [List.length_append]
        show z.2.1.length + 1 + r.length ≤ z.1
        omega
      have Q4 : Iq (PTz i) h h4 := (PTz_w (by omega)).trans p3.pt
      have pre2 : ∀ w, (if ¬ nI x = (11 : Int32) then k_M_settles_0 d (some 52) (nI k) h4 else k_M_settles_0 d (some 52) (nI k) (wI h4 52 13 (hI h4 52 13 - (1 : Int32)))) = w → k_M_settles_0 d (some 52) (nI k) h = w := by
        intro w hw
        rw [← hw]
        refine pre _ ?_
        refine (if_neg (show ¬ nI (strS x) < nI k from nI_nlt q (by omega))).trans ?_
        refine (if_pos M.K52).trans ?_
        refine (if_pos M.K52).trans ?_
        refine (if_pos M.K52).trans ?_
        refine (if_pos M.K52).trans ?_
        refine (bnd M.r15 _).trans ?_
        refine (if_pos ⟨Or.inl M.K59, show sk_in (hI (wI h 52 16 (nI r.length)) 52 16) (hN h 59) by rw [hI_se]; exact in1⟩).trans ?_
        refine (if_pos M.K52).trans ?_
        refine (bnd (show c_M_puts d (some 52) (hI (wI h 52 16 (nI r.length)) 59 (hI (wI h 52 16 (nI r.length)) 52 16).toNatClampNeg) (0 : Int32) (wI h 52 16 (nI r.length)) = some h4 by rw [hI_se, q_cl (by omega), hI_na (by omega), y1]; exact p1) _).trans ?_
        refine (if_pos M4.K52).trans ?_
        refine (if_pos M4.K52).trans ?_
        refine (bnd M4.r15 _).trans ?_
        refine (if_pos ⟨Or.inl M4.K59, show sk_in (hI h4 52 16) (hN h4 59) by rw [e16, M4.N59]; exact vp_in_nI (by omega) (by omega)⟩).trans ?_
        have ex : hI h4 59 (hI h4 52 16).toNatClampNeg = nI x := by rw [e16, q_cl (by omega), e59]; exact y1
        by_cases y : nI x = (11 : Int32)
        · refine (if_neg (fun w => w (ex.trans y))).trans ?_
          refine (if_pos M4.K52).trans ?_
          refine (if_pos M4.K52).trans ?_
          exact (if_neg (fun w => w y)).symm
        · refine (if_pos (fun w => y (ex.symm.trans w))).trans ?_
          exact (if_pos y).symm
      by_cases y : x = 11
      · have X5 : Mt (wI h4 52 13 (nI (dpS r))) i t T r (zE z x) := ⟨p2.nt (by omega), by rw [hI_ni (by omega)]; exact e16, hI_se, y3.mv r (fun j _ => by rw [hI_na (by omega)]; exact e59 j), hl4⟩
        obtain ⟨h5, k1, k2, k3, k4⟩ := M_set r (zE z x) _ hk hk3 X5
        refine ⟨h5, pre2 _ ?_, k2, Q4.trans ((PTz_w (by omega)).trans k3), k4⟩
        refine (if_neg (fun w => w (by rw [y]; rfl))).trans ?_
        rw [e13, l1, dpS_cons, if_pos (Or.inl y), q_sub (by omega), Nat.add_sub_cancel_left]
        exact k1
      · have y91 : x ≠ 91 := fun w => by
          rw [w] at q
          have : strS 91 = 0 := rfl
          omega
        have X5 : Mt h4 i t T r (zE z x) := ⟨p2, e16, by rw [e13, dpS_cons, if_neg (by omega), Nat.zero_add], y3.mv r (fun j _ => e59 j), hl4⟩
        obtain ⟨h5, k1, k2, k3, k4⟩ := M_set r (zE z x) _ hk hk3 X5
        refine ⟨h5, pre2 _ ?_, k2, Q4.trans k3, k4⟩
        refine (if_pos (show ¬ nI x = nI 11 by rw [q_eq (by omega) (by omega)]; exact y)).trans ?_
        exact k1
    · have es : stl k (x :: r) z = (x :: r, z) := if_neg q
      rw [es]
      exact ⟨h, pre _ (if_pos (nI_lt (by omega) (by omega))), X, Iq.refl h, rfl⟩
end SkMstk
