section SkMtest2
variable {h h' h1 h2 : sk_H} {t : Nat → Nat} {T i d p q n g o m k : Nat} {z z1 : RZ} {v : Int32} {r : Nat ⊕ RZ} {s : List Nat}
/-- a joining word: it is passed, what is stronger is settled, and it waits -/
theorem M_76 (X : Mt h i t T s z) {x : Nat} (hx : x = 12 ∨ x = 13) {w : List Nat} (hw : wdl t T z.1 = w) (h0 : 0 < w.length) : ∃ h', k_M_tested_76 d (some 52) 1 (nI x) h = k_M_tested_12 d (some 52) 1 h' ∧ Mt h' i t T (x :: (stl (strS x) s z).1) (zAt (stl (strS x) s z).2 (wE t T z.1)) ∧ Iq (PTz i) h h' := by
  obtain ⟨Z, x1, x2, x3, x4⟩ := id X
  have hz := Z.1.2.2.2.2.2.2
  have hT := Z.1.2.1
  have hE := wE_le (t := t) hz
  have hgt := wE_gt hw h0
  obtain ⟨h1, p1, p2, p3⟩ := M_passWord_ok (d := d) Z.1
  have X1 : Mt h1 i t T s (zAt z (wE t T z.1)) := X.mz p3.p8F.pv (Z.mv p3.p8F p2 hE.1) (by show z.2.1.length + s.length ≤ wE t T z.1; omega)
  have st := M_str (d := d) (h := h1) (x := x) (by omega)
  have hk : 1 ≤ strS x ∧ strS x ≤ 3 := by rcases hx with rfl | rfl <;> decide
  obtain ⟨h2, b1, b2, b3, b4⟩ := M_settles_ok (d := d) hk.1 hk.2 X1
  obtain ⟨hc, c1, c2, c3, c4⟩ := M_settles_ok (d := d) hk.1 hk.2 X
  rw [stl_zAt] at b2
  have b2 : Mt h2 i t T (stl (strS x) s z).1 (zAt (stl (strS x) s z).2 (wE t T z.1)) := b2
  generalize hy : stl (strS x) s z = y at b2 c2 c4 ⊢
  obtain ⟨s2, z2⟩ := y
  have b2 : Mt h2 i t T s2 (zAt z2 (wE t T z.1)) := b2
  have c4 : z2.1 = z.1 := c4
  have c5 : z2.2.1.length + s2.length ≤ z2.1 := c2.2.2.2.2
  have M2 := b2.1.1.1
  obtain ⟨Z2, u1, u2, u3, u4⟩ := id b2
  have ed : dpS (x :: s2) = dpS s2 := by rw [dpS_cons, if_neg (by omega), Nat.zero_add]
  refine ⟨wI (wI h2 59 s2.length (nI x)) 52 16 (nI (s2.length + 1)), ?_, ⟨(Z2.nt (by omega)).nt (by omega), by rw [hI_se]; rfl, by rw [hI_ni (by omega), hI_na (by omega), ed]; exact u2, ⟨by rw [hI_na (by omega), hI_se], by omega, u3.mv s2 (fun j hj => by rw [hI_na (by omega), hI_ni (by omega)])⟩, by show z2.2.1.length + (x :: s2).length ≤ wE t T z.1; rw [List.length_cons]; omega⟩, p3.p8F.pv.pt.trans (b3.trans ((PTz_w (by omega)).trans (PTz_w (by omega))))⟩
  refine (e_M_tested_76 _ _ _ _ _).trans ?_
  refine (if_pos Z.1.1.K52).trans ?_
  refine (bnd p1 _).trans ?_
  refine (bnd st _).trans ?_
  refine (if_pos p2.1.K52).trans ?_
  refine (bnd b1 _).trans ?_
  refine (if_pos M2.K52).trans ?_
  refine (if_pos M2.K52).trans ?_
  refine (bnd M2.r15 _).trans ?_
  refine (if_pos ⟨M2.K59, show sk_in (hI h2 52 16) (hN h2 59) by rw [u1, M2.N59]; exact vp_in_nI (by omega) (by omega)⟩).trans ?_
  refine (if_pos M2.K52).trans ?_
  refine (if_pos M2.K52).trans ?_
  show k_M_tested_12 d (some 52) 1 (wI (wI h2 59 (hI h2 52 16).toNatClampNeg (nI x)) 52 16 (hI (wI h2 59 (hI h2 52 16).toNatClampNeg (nI x)) 52 16 + 1)) = _
  rw [hI_na (show 52 ≠ 59 by omega), u1, q_cl (by omega), nI_1]
end SkMtest2
