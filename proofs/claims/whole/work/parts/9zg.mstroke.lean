section SkMstroke
variable {h h' h1 h2 : sk_H} {t : Nat → Nat} {T i d p q n g o m k : Nat} {z z1 : RZ} {v : Int32} {cs : List (Nat × Nat × Nat × Bool)} {c : Nat × Nat × Nat × Bool}
theorem M_110 (Z : Mz h i t T z) (h57 : hI h 57 i = nI k) (hk : k < 12) : k_M_isStrokeHere_110 d (some 52) (nI (48 * i + 4 * k)) h = some (wI (wI h 56 (48 * i + 4 * k + 3) (nI z.2.1.length)) 57 i (nI (k + 1)), 1) := by
  obtain ⟨R, z2, z3, z4, z5, z6, z7, z8⟩ := Z
  have M := R.1
  have ec : (hI h 52 11).toNatClampNeg = i := by rw [z2, q_cl (by omega)]
  have e3 : nI (48 * i + 4 * k) + (3 : Int32) = nI (48 * i + 4 * k + 3) := by rw [show (3 : Int32) = nI 3 from rfl, nI_add]
  refine (e_M_isStrokeHere_110 _ _ _ _).trans ?_
  refine (if_pos M.K52).trans ?_
  refine (if_pos M.K52).trans ?_
  refine (if_pos M.K52).trans ?_
  refine (bnd M.r4 _).trans ?_
  refine (if_pos ⟨Or.inl M.K55, show sk_in (hI h 52 11) (hN h 55) by rw [z2, M.N55]; exact vp_in_nI (by omega) (by omega)⟩).trans ?_
  refine (bnd M.r5 _).trans ?_
  refine (if_pos ⟨M.K56, show sk_in (nI (48 * i + 4 * k) + (3 : Int32)) (hN h 56) by rw [e3, M.N56]; exact vp_in_nI (by omega) (by omega)⟩).trans ?_
  refine (if_pos M.K52).trans ?_
  refine (if_pos M.K52).trans ?_
  have s6 : ∀ j w, sk_in (hI (wI h 56 j w) 52 11) (hN h 57) := fun j w => by rw [hI_na (by omega), z2, M.N57]; exact vp_in_nI (by omega) (by omega)
  refine (bnd M.r6 _).trans ?_
  refine (if_pos ⟨Or.inl M.K57, s6 _ _⟩).trans ?_
  refine (bnd M.r6 _).trans ?_
  refine (if_pos ⟨M.K57, s6 _ _⟩).trans ?_
  show some (wI (wI h 56 (nI (48 * i + 4 * k) + (3 : Int32)).toNatClampNeg (hI h 55 (hI h 52 11).toNatClampNeg)) 57 (hI (wI h 56 (nI (48 * i + 4 * k) + (3 : Int32)).toNatClampNeg (hI h 55 (hI h 52 11).toNatClampNeg)) 52 11).toNatClampNeg (hI (wI h 56 (nI (48 * i + 4 * k) + (3 : Int32)).toNatClampNeg (hI h 55 (hI h 52 11).toNatClampNeg)) 57 (hI (wI h 56 (nI (48 * i + 4 * k) + (3 : Int32)).toNatClampNeg (hI h 55 (hI h 52 11).toNatClampNeg)) 52 11).toNatClampNeg + 1), (1 : Int32)) = _
  rw [hI_na (show 52 ≠ 56 by omega), ec, e3, q_cl (by omega), z4, hI_na (show 57 ≠ 56 by omega), h57, nI_1]
end SkMstroke
