/-! ===== the reference opens and closes ===== -/
section SkMopen
variable {h h' h1 h2 : sk_H} {t : Nat → Nat} {T i d p q n g o m k : Nat} {z z1 : RZ} {v : Int32} {r : Nat ⊕ RZ} {s : List Nat}
theorem M_settles_ok (hk : 1 ≤ k) (hk3 : k ≤ 3) (X : Mt h i t T s z) : ∃ h', c_M_settles d (some 52) (nI k) h = some h' ∧ Mt h' i t T (stl k s z).1 (stl k s z).2 ∧ Iq (PTz i) h h' ∧ (stl k s z).2.1 = z.1 := by
  obtain ⟨h', e, w⟩ := M_set (d := d) s z h hk hk3 X
  exact ⟨h', ((e_M_settles _ _ _ _).trans (e_M_settles_0 _ _ _ _).symm).trans e, w⟩
/-- a sign is put on the stack -/
theorem Mt.push (X : Mt h i t T s z) {x : Nat} (hx : x = 11 ∨ x = 12 ∨ x = 13 ∨ x = 91) (hd : z.2.1.length + s.length + 1 ≤ z.1) : Mt (wI (wI (wI h 52 13 (nI (dpS (x :: s)))) 59 s.length (nI x)) 52 16 (nI (s.length + 1))) i t T (x :: s) z := by
  obtain ⟨Z, x1, x2, x3, x4⟩ := X
  refine ⟨((Z.nt (by omega)).nt (by omega)).nt (by omega), by rw [hI_se]; rfl, by rw [hI_ni (by omega), hI_na (by omega), hI_se], ⟨by rw [hI_na (by omega), hI_se], hx, x3.mv s (fun j hj => ?_)⟩, by rw [List.length_cons]; omega⟩
  rw [hI_na (by omega), hI_ni (by omega), hI_na (by omega)]
/-- the stack is higher than its text allows for a moment: the word is not yet passed -/
def Mo (h : sk_H) (i : Nat) (t : Nat → Nat) (T : Nat) (s : List Nat) (z : RZ) : Prop := Mz h i t T z ∧ hI h 52 16 = nI s.length ∧ hI h 52 13 = nI (dpS s) ∧ Sks h s
theorem M_opens_ok (X : Mt h i t T s z) {x : Nat} (hx : x = 11 ∨ x = 91) (hz : z.1 < T) : (dpS s = 10 → ∃ h', c_M_opens d (some 52) (nI x) h = some (h', 0) ∧ hI h' 52 9 = nI (1 + 8 * z.1 + 2) ∧ Iq (PTz i) h h') ∧ (dpS s ≠ 10 → dpS s ≤ 10 → ∃ h', c_M_opens d (some 52) (nI x) h = some (h', 1) ∧ Mo h' i t T (x :: s) z ∧ Iq (PTz i) h h') := by
  obtain ⟨Z, x1, x2, x3, x4⟩ := X
  obtain ⟨M, r1, r2, r3, r4, r5, r6⟩ := id Z.1
  refine ⟨fun y => ?_, fun y y10 => ?_⟩
  · refine ⟨wI h 52 9 (nI (1 + 8 * z.1 + 2)), ?_, hI_se, (PVz_w (by omega) : Iq (PVz i) h _).pt⟩
    refine (e_M_opens _ _ _ _).trans ?_
    refine (if_pos M.K52).trans ?_
    refine (if_neg (fun w => w (show hI h 52 13 = (10 : Int32) by rw [x2, y]; rfl))).trans ?_
    refine (if_pos M.K52).trans ?_
    refine (if_pos M.K52).trans ?_
    refine (bnd (show c_M_fails d (some 52) (2 : Int32) (hI h 52 8) h = _ by rw [r4]; exact M_fails_ok (k := 2) M r5) _).trans ?_
    exact (if_pos (Or.inl rfl)).trans rfl
  · have ed : dpS (x :: s) = dpS s + 1 := by rw [dpS_cons, if_pos hx]; omega
    refine ⟨wI (wI (wI h 52 13 (nI (dpS s + 1))) 59 s.length (nI x)) 52 16 (nI (s.length + 1)), ?_, ⟨((Z.nt (by omega)).nt (by omega)).nt (by omega), by rw [hI_se]; rfl, by rw [hI_ni (by omega), hI_na (by omega), hI_se, ed], by rw [hI_na (by omega), hI_se], by omega, x3.mv s (fun j hj => by rw [hI_na (by omega), hI_ni (by omega), hI_na (by omega)])⟩, (PTz_w (by omega)).trans ((PTz_w (by omega)).trans (PTz_w (by omega)))⟩
    refine (e_M_opens _ _ _ _).trans ?_
    refine (if_pos M.K52).trans ?_
    refine (if_pos (show ¬ hI h 52 13 = nI 10 by rw [x2, q_eq (by omega) (by omega)]; exact y)).trans ?_
    refine (if_pos M.K52).trans ?_
    refine (if_pos M.K52).trans ?_
    refine (if_pos M.K52).trans ?_
    refine (if_pos M.K52).trans ?_
    refine (bnd M.r15 _).trans ?_
    have e16 : ∀ w, hI (wI h 52 13 w) 52 16 = nI s.length := fun w => by rw [hI_ni (by omega)]; exact x1
    refine (if_pos ⟨M.K59, show sk_in (hI (wI h 52 13 (hI h 52 13 + 1)) 52 16) (hN h 59) by rw [e16, M.N59]; exact vp_in_nI (by omega) (by omega)⟩).trans ?_
    refine (if_pos M.K52).trans ?_
    refine (if_pos M.K52).trans ?_
    show some (wI (wI (wI h 52 13 (hI h 52 13 + 1)) 59 (hI (wI h 52 13 (hI h 52 13 + 1)) 52 16).toNatClampNeg (nI x)) 52 16 (hI (wI (wI h 52 13 (hI h 52 13 + 1)) 59 (hI (wI h 52 13 (hI h 52 13 + 1)) 52 16).toNatClampNeg (nI x)) 52 16 + 1), (1 : Int32)) = _
    rw [hI_na (show 52 ≠ 59 by omega), e16, q_cl (by omega), x2, nI_1, nI_1]
theorem Mo.mt (X : Mo h i t T s z) (Q : Iq P8 h h1) (R : Mr h1 t T q) (hq : z.1 ≤ q) (hl : z.2.1.length + s.length ≤ q) : Mt h1 i t T s (zAt z q) := by
  obtain ⟨Z, x1, x2, x3⟩ := X
  have Q' : Iq (PVz i) h h1 := Q.p8F.pv
  exact ⟨Z.mv Q.p8F R hq, by rw [PVz_no Q' (by omega)]; exact x1, by rw [PVz_no Q' (by omega)]; exact x2, x3.mv s (fun j _ => PVz_no Q' (by omega)), hl⟩
/-- whether a bracket is open -/
theorem Sks.at : ∀ (s : List Nat), Sks h s → ∀ j x, s.reverse[j]? = some x → hI h 59 j = nI x ∧ (x = 11 ∨ x = 12 ∨ x = 13 ∨ x = 91)
  | [], _, j, x, e => by simp at e
  | y :: r, S, j, x, e => by
    rw [List.reverse_cons] at e
    by_cases hj : j < r.reverse.length
    · rw [List.getElem?_append_left hj] at e
      exact Sks.at r S.2.2 j x e
    · rw [List.getElem?_append_right (by omega)] at e
      by_cases hj2 : j = r.reverse.length
      · rw [hj2, Nat.sub_self] at e
        have : y = x := by simpa using e
        subst this
        rw [hj2, List.length_reverse]
        exact ⟨S.1, S.2.1⟩
      · rw [List.getElem?_eq_none (by show [y].length ≤ _; simp; simp at hj hj2; omega)] at e
        cases e
theorem M_ins_in (X : Mt h i t T s z) : ∀ (k j : Nat), j + k = s.length → k_M_isInside_2 d (some 52) (nI j) h = some (h, bi ((s.reverse.drop j).contains 91))
  | 0, j, hj => by
    have M := X.1.1.1
    rw [List.drop_eq_nil_of_le (by rw [List.length_reverse]; omega)]
    refine (e_M_isInside_2 _ _ _ _).trans ?_
    refine (if_pos M.K52).trans ?_
    exact (if_pos (show hI h 52 16 ≤ nI j by rw [X.2.1, show j = s.length by omega]; exact Int32.le_refl _)).trans rfl
  | k + 1, j, hj => by
    obtain ⟨Z, x1, x2, x3, x4⟩ := id X
    have M := Z.1.1
    have hT := Z.1.2.1
    have hz := Z.1.2.2.2.2.2.2
    have hlt : j < s.reverse.length := by rw [List.length_reverse]; omega
    obtain ⟨y1, y2⟩ := x3.at s j _ (List.getElem?_eq_getElem hlt)
    rw [List.drop_eq_getElem_cons hlt, List.contains_cons]
    refine (e_M_isInside_2 _ _ _ _).trans ?_
    refine (if_pos M.K52).trans ?_
    refine (if_neg (show ¬ hI h 52 16 ≤ nI j by rw [x1]; exact nI_ge (by omega) (by omega))).trans ?_
    refine (if_pos M.K52).trans ?_
    refine (bnd M.r15 _).trans ?_
    refine (if_pos ⟨Or.inl M.K59, show sk_in (nI j) (hN h 59) by rw [M.N59]; exact vp_in_nI (by omega) (by omega)⟩).trans ?_
    have ex : hI h 59 (nI j).toNatClampNeg = nI s.reverse[j] := by rw [q_cl (by omega)]; exact y1
    by_cases y : s.reverse[j] = 91
    · refine (if_neg (fun w => w (show hI h 59 (nI j).toNatClampNeg = nI 91 by rw [ex, y]))).trans ?_
      rw [y]
      rfl
    · refine (if_pos (show ¬ hI h 59 (nI j).toNatClampNeg = nI 91 by rw [ex, q_eq (by omega) (by omega)]; exact y)).trans ?_
      rw [nI_1, M_ins_in X k (j + 1) (by omega), show (91 == s.reverse[j]) = false from beq_eq_false_iff_ne.mpr (fun w => y w.symm), Bool.false_or]
theorem M_inside_ok (X : Mt h i t T s z) : c_M_isInside d (some 52) h = some (h, bi (insS s)) := by
  rw [show c_M_isInside d (some 52) h = k_M_isInside_2 d (some 52) (nI 0) h from e_M_isInside _ _ _, M_ins_in X s.length 0 (by omega), List.drop_zero]
  unfold insS
  rw [show s.reverse.contains 91 = s.contains 91 by simp]
end SkMopen
