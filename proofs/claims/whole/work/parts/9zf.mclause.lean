/-! ===== the reference reads a clause of a rule ===== -/
def PCz (i a j : Nat) : Bool := PTz i a j || decide ((a = 52 ∧ j = 14) ∨ (a = 56 ∧ 48 * i ≤ j ∧ j < 48 * i + 48) ∨ (a = 57 ∧ j = i))
/-- clause k of rule i, as the reference keeps it -/
def McL (h : sk_H) (i k : Nat) (c : Nat × Nat × Nat × Bool) : Prop := hI h 56 (48 * i + 4 * k) = nI c.1 ∧ hI h 56 (48 * i + 4 * k + 1) = nI c.2.1 ∧ hI h 56 (48 * i + 4 * k + 2) = (if c.2.2.2 = true then nI c.2.1 else nM) ∧ hI h 56 (48 * i + 4 * k + 3) = nI c.2.2.1
def McI (h : sk_H) (i : Nat) (cs : List (Nat × Nat × Nat × Bool)) : Prop := hI h 57 i = nI cs.length ∧ ∀ k c, cs[k]? = some c → McL h i k c
section SkMclause
variable {h h' h1 h2 : sk_H} {t : Nat → Nat} {T i d p q n g o m k : Nat} {z z1 : RZ} {v : Int32} {cs : List (Nat × Nat × Nat × Bool)} {c : Nat × Nat × Nat × Bool}
theorem Iq.pc (Q : Iq (PTz i) h h1) : Iq (PCz i) h h1 := Q.mono fun a j hP => by
  unfold PCz at hP
  exact (Bool.or_eq_false_iff.mp hP).1
theorem PCz_w {a j : Nat} (ha : (a = 52 ∧ j = 14) ∨ (a = 56 ∧ 48 * i ≤ j ∧ j < 48 * i + 48) ∨ (a = 57 ∧ j = i)) : Iq (PCz i) h (wI h a j v) := Iq.w h v (by unfold PCz; rw [decide_eq_true ha, Bool.or_true])
theorem PTz_no {a j : Nat} (Q : Iq (PTz i) h h1) (ha : a = 56 ∨ a = 57) : hI h1 a j = hI h a j := Q.I (by
  unfold PTz PVz
  rw [decide_eq_false (by omega), decide_eq_false (by omega)]
  rfl)
theorem McL.pt (L : McL h i k c) (Q : Iq (PTz i) h h1) : McL h1 i k c := by
  obtain ⟨l1, l2, l3, l4⟩ := L
  exact ⟨by rw [PTz_no Q (by omega)]; exact l1, by rw [PTz_no Q (by omega)]; exact l2, by rw [PTz_no Q (by omega)]; exact l3, by rw [PTz_no Q (by omega)]; exact l4⟩
theorem McI.pt (I : McI h i cs) (Q : Iq (PTz i) h h1) : McI h1 i cs := ⟨by rw [PTz_no Q (by omega)]; exact I.1, fun k c hc => (I.2 k c hc).pt Q⟩
theorem Mz.nc (Z : Mz h i t T z) {a j : Nat} (ha : (a = 52 ∧ j = 14) ∨ a = 56 ∨ a = 57) : Mz (wI h a j v) i t T z := by
  obtain ⟨R, z2, z3, z4, z5, z6, z7, z8⟩ := Z
  obtain ⟨M, r1, r2, r3, r4, r5, r6⟩ := id R
  have e : ∀ b k, ¬ (b = a ∧ k = j) → hI (wI h a j v) b k = hI h b k := fun b k hb => by rw [hI_wI, if_neg hb]
  refine ⟨⟨M, r1, fun i hi => ⟨(r2 i hi).1, by rw [e _ _ (by omega)]; exact (r2 i hi).2⟩, by rw [e _ _ (by omega)]; exact r3, by rw [e _ _ (by omega)]; exact r4, by rw [e _ _ (by omega)]; exact r5, r6⟩, by rw [e _ _ (by omega)]; exact z2, z3, by rw [e _ _ (by omega)]; exact z4, by rw [e _ _ (by omega)]; exact z5, fun k o hk => by rw [e _ _ (by omega)]; exact z6 k o hk, z7, z8⟩
end SkMclause
