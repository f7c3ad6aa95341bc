section SkMtested
variable {h : sk_H} {t : Nat → Nat} {T i d m : Nat} {z : RZ} {r : Nat ⊕ RZ}
theorem M_tested_ok (Z : Mz h i t T z) (e : mch t T m true [] z = some r) : ∃ h' v, c_M_tested d (some 52) h = some (h', v) ∧ Mtr h h' i t T r v := by
  have M := Z.1.1
  have X : Mt (wI (wI h 52 16 (nI 0)) 52 13 (nI 0)) i t T [] z := ⟨(Z.nt (by omega)).nt (by omega), by rw [hI_ni (by omega), hI_se]; rfl, hI_se, trivial, Z.2.2.2.2.2.2.2⟩
  obtain ⟨h', v, k1, k2⟩ := M_mch (d := d) m true [] z _ r e (Nat.zero_le _) X
  rw [if_pos rfl] at k1
  refine ⟨h', v, ?_, k2.pre ((PTz_w (by omega)).trans (PTz_w (by omega)))⟩
  refine (e_M_tested _ _ _).trans ?_
  refine (if_pos M.K52).trans ?_
  refine (if_pos M.K52).trans ?_
  exact k1
end SkMtested
