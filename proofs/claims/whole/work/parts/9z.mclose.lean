/-! ===== the reference closes brackets ===== -/
section SkMclose
variable {h h' h1 h2 : sk_H} {t : Nat → Nat} {T i d p q n g o m k : Nat} {z z1 : RZ} {v : Int32} {r : Nat ⊕ RZ} {s : List Nat}
theorem stl_zAt : ∀ (s : List Nat) (z : RZ), stl k s (zAt z p) = ((stl k s z).1, zAt (stl k s z).2 p)
  | [], z => rfl
  | x :: r, z => by
    by_cases y : k ≤ strS x
    · rw [show stl k (x :: r) (zAt z p) = stl k r (zAt (zE z x) p) from if_pos y, show stl k (x :: r) z = stl k r (zE z x) from if_pos y]
      exact stl_zAt r (zE z x)
    · rw [show stl k (x :: r) (zAt z p) = (x :: r, zAt z p) from if_neg y, show stl k (x :: r) z = (x :: r, z) from if_neg y]
theorem stl_91 : ∀ (s : List Nat) (z : RZ), Sks h s → insS s = true → ∃ r, (stl 1 s z).1 = 91 :: r
  | [], z, S, e => by cases e
  | x :: r, z, S, e => by
    by_cases y : 1 ≤ strS x
    · rw [show stl 1 (x :: r) z = stl 1 r (zE z x) from if_pos y]
      refine stl_91 r (zE z x) S.2.2 ?_
      have hx : x ≠ 91 := fun w => by rw [w] at y; exact absurd y (by decide)
      unfold insS at e ⊢
      rw [List.contains_cons, show (91 == x) = false from beq_eq_false_iff_ne.mpr (fun w => hx w.symm), Bool.false_or] at e
      exact e
    · rw [show stl 1 (x :: r) z = (x :: r, z) from if_neg y]
      have : x = 91 := by
        rcases S.2.1 with rfl | rfl | rfl | rfl
        · exact absurd (show 1 ≤ strS 11 by decide) y
        · exact absurd (show 1 ≤ strS 12 by decide) y
        · exact absurd (show 1 ≤ strS 13 by decide) y
        · rfl
      rw [this]
      exact ⟨r, rfl⟩
theorem dpS_stl : ∀ (s : List Nat) (z : RZ), dpS (stl k s z).1 ≤ dpS s
  | [], z => Nat.le_refl _
  | x :: r, z => by
    by_cases y : k ≤ strS x
    · rw [show stl k (x :: r) z = stl k r (zE z x) from if_pos y, dpS_cons]
      have := dpS_stl r (zE z x)
      omega
    · rw [show stl k (x :: r) z = (x :: r, z) from if_neg y]
      exact Nat.le_refl _
theorem M_closes_ok (X : Mt h i t T s z) : ∃ h1, Mt h1 i t T (stl 3 s z).1 (zAt (stl 3 s z).2 (nxt t T z.1)) ∧ Iq (PTz i) h h1 ∧ (¬ ((nxt t T z.1 < T ∧ t (nxt t T z.1) = 93) ∧ insS (stl 3 s z).1 = true) → c_M_closes d (some 52) h = some h1) ∧ ((nxt t T z.1 < T ∧ t (nxt t T z.1) = 93) ∧ insS (stl 3 s z).1 = true → ∃ h6, c_M_closes d (some 52) h = c_M_closes d (some 52) h6 ∧ Mt h6 i t T (stl 1 (stl 3 s z).1 (stl 3 s z).2).1.tail (zAt (stl 1 (stl 3 s z).1 (stl 3 s z).2).2 (nxt t T z.1 + 1)) ∧ Iq (PTz i) h h6) := by
  have hz := X.1.1.2.2.2.2.2.2
  have hT := X.1.1.2.1
  have hq := nxt_le (t := t) hz
  obtain ⟨h0, a1, a2, a3, a4⟩ := M_settles_ok (d := d) (k := 3) (by omega) (by omega) X
  generalize hs3 : stl 3 s z = y3 at a2 a4 ⊢
  obtain ⟨s3, z3⟩ := y3
  have a2 : Mt h0 i t T s3 z3 := a2
  have a4 : z3.1 = z.1 := a4
  obtain ⟨h1, e1, e2, e3⟩ := M_see_ok (d := d) a2.1.1
  rw [a4] at e1 e2
  have X1 : Mt h1 i t T s3 (zAt z3 (nxt t T z.1)) := a2.mz e3.p8F.pv (a2.1.mv e3.p8F e2 (by omega)) (by have := a2.2.2.2.2; show z3.2.1.length + s3.length ≤ nxt t T z.1; omega)
  have M1 := e2.1
  have pre : ∀ w, (if ¬ lk t T (nxt t T z.1) = (93 : Int32) then some h1 else
      if hK h1 52 = 13 then
      Option.bind (c_M_isInside d (some 52) h1) fun (q2 : sk_H × Int32) =>
      if q2.2 = 0 then
        some q2.1
      else
        if hK q2.1 52 = 13 then
        Option.bind (c_M_settles d (some 52) (1 : Int32) q2.1) fun q3 =>
        if hK q3 52 = 13 then
        if hK q3 52 = 13 then
        let h4 := wI q3 52 16 ((hI q3 52 16) - (1 : Int32))
        if hK h4 52 = 13 then
        if hK h4 52 = 13 then
        let h5 := wI h4 52 13 ((hI h4 52 13) - (1 : Int32))
        if hK h5 52 = 13 then
        if hK h5 52 = 13 then
        let h6 := wI h5 52 8 ((hI h5 52 8) + (1 : Int32))
        if hK h6 52 = 13 then
        Option.bind (c_M_settles d (some 52) (3 : Int32) h6) fun q7 =>
        k_M_closes_5 d (some 52) q7
        else none
        else none
        else none
        else none
        else none
        else none
        else none
        else none
      else none) = w → c_M_closes d (some 52) h = w := by
    intro w hw
    rw [← hw]
    refine (e_M_closes _ _ _).trans ?_
    refine (if_pos X.1.1.1.K52).trans ?_
    refine (bnd a1 _).trans ?_
    refine (e_M_closes_5 _ _ _).trans ?_
    refine (if_pos a2.1.1.1.K52).trans ?_
    exact (bnd e1 _).trans rfl
  have ins := M_inside_ok (d := d) X1
  refine ⟨h1, X1, a3.trans e3.p8F.pv.pt, fun y => ?_, fun y => ?_⟩
  · have y : ¬ ((nxt t T z.1 < T ∧ t (nxt t T z.1) = 93) ∧ insS s3 = true) := y
    refine pre _ ?_
    by_cases y1 : nxt t T z.1 < T ∧ t (nxt t T z.1) = 93
    · refine (if_neg (fun w => w (show lk t T (nxt t T z.1) = nI 93 by rw [lk_eq e2 (by omega)]; exact y1))).trans ?_
      refine (if_pos M1.K52).trans ?_
      refine (bnd ins _).trans ?_
      have : insS s3 = false := by
        cases hh : insS s3
        · rfl
        · exact absurd ⟨y1, hh⟩ y
      rw [this]
      exact if_pos rfl
    · exact if_pos (show ¬ lk t T (nxt t T z.1) = nI 93 by rw [lk_eq e2 (by omega)]; exact y1)
  · have y : (nxt t T z.1 < T ∧ t (nxt t T z.1) = 93) ∧ insS s3 = true := y
    obtain ⟨h2, b1, b2, b3, b4⟩ := M_settles_ok (d := d) (k := 1) (by omega) (by omega) X1
    obtain ⟨r', hr⟩ := stl_91 s3 z3 X1.2.2.2.1 y.2
    rw [stl_zAt] at b2
    show ∃ h6, _ ∧ Mt h6 i t T (stl 1 s3 z3).1.tail (zAt (stl 1 s3 z3).2 (nxt t T z.1 + 1)) ∧ _
    have b2 : Mt h2 i t T (stl 1 s3 z3).1 (zAt (stl 1 s3 z3).2 (nxt t T z.1)) := b2
    rw [hr] at b2 ⊢
    obtain ⟨Z2, u1, u2, ⟨u3, u4, u5⟩, u6⟩ := b2
    rw [List.length_cons] at u1 u6
    have u6 : (stl 1 s3 z3).2.2.1.length + (r'.length + 1) ≤ nxt t T z.1 := u6
    have Z3 := ((Z2.nt (a := 52) (j := 16) (v := nI r'.length) (by omega)).nt (a := 52) (j := 13) (v := nI (dpS r')) (by omega)).w8 (q := nxt t T z.1 + 1) (by omega) (by show nxt t T z.1 ≤ _; omega)
    refine ⟨wI (wI (wI h2 52 16 (nI r'.length)) 52 13 (nI (dpS r'))) 52 8 (nI (nxt t T z.1 + 1)), ?_, ⟨Z3, by rw [hI_ni (by omega), hI_ni (by omega), hI_se]; rfl, by rw [hI_ni (by omega), hI_se]; rfl, u5.mv r' (fun j _ => by rw [hI_na (by omega), hI_na (by omega), hI_na (by omega)]), by show (stl 1 s3 z3).2.2.1.length + r'.length ≤ nxt t T z.1 + 1; omega⟩, a3.trans (e3.p8F.pv.pt.trans (b3.trans ((PTz_w (by omega)).trans ((PTz_w (by omega)).trans (PVz_w (by omega) : Iq (PVz i) _ _).pt))))⟩
    refine pre _ ?_
    have M2 := Z2.1.1
    have j8 : hI h2 52 8 = nI (nxt t T z.1) := Z2.1.2.2.2.2.1
    refine (if_neg (fun w => w (show lk t T (nxt t T z.1) = nI 93 by rw [lk_eq e2 (by omega)]; exact y.1))).trans ?_
    refine (if_pos M1.K52).trans ?_
    refine (bnd ins _).trans ?_
    rw [y.2]
    refine (if_neg nb1).trans ?_
    refine (if_pos M1.K52).trans ?_
    refine (bnd b1 _).trans ?_
    refine (if_pos M2.K52).trans ?_
    refine (if_pos M2.K52).trans ?_
    refine (if_pos M2.K52).trans ?_
    refine (if_pos M2.K52).trans ?_
    refine (if_pos M2.K52).trans ?_
    refine (if_pos M2.K52).trans ?_
    refine (if_pos M2.K52).trans ?_
    have ec : c_M_closes d (some 52) (wI (wI (wI h2 52 16 (nI r'.length)) 52 13 (nI (dpS r'))) 52 8 (nI (nxt t T z.1 + 1))) = Option.bind (c_M_settles d (some 52) (3 : Int32) (wI (wI (wI h2 52 16 (nI r'.length)) 52 13 (nI (dpS r'))) 52 8 (nI (nxt t T z.1 + 1)))) fun q7 => k_M_closes_5 d (some 52) q7 := (e_M_closes _ _ _).trans (if_pos M2.K52)
    rw [ec]
    have w1 : hI h2 52 16 - (1 : Int32) = nI r'.length := by rw [u1, l1, q_sub (by omega), Nat.add_sub_cancel]
    have w2 : hI (wI h2 52 16 (nI r'.length)) 52 13 - (1 : Int32) = nI (dpS r') := by rw [hI_ni (by omega), u2, dpS_cons, if_pos (Or.inr rfl), l1, q_sub (by omega), Nat.add_sub_cancel_left]
    have w3 : hI (wI (wI h2 52 16 (nI r'.length)) 52 13 (nI (dpS r'))) 52 8 + (1 : Int32) = nI (nxt t T z.1 + 1) := by rw [hI_ni (by omega), hI_ni (by omega), j8, nI_1]
    rw [w1, w2, w3]
end SkMclose
