/-! ===== the class's reader ===== -/
def nxF (t : Nat → Nat) : Nat → Nat → Nat
  | 0, p => p
  | n + 1, p => if t p = 32 then nxF t n (p + 1) else p
/-- the next place that is no blank -/
def nxt (t : Nat → Nat) (T p : Nat) : Nat := nxF t (T - p) p
/-- the byte there, or none -/
def lk (t : Nat → Nat) (T p : Nat) : Int32 := if p < T then nI (t p) else nM
def PRd (b a i : Nat) : Bool := a == b && (i == 2 || i == 3)
def Tx (h : sk_H) (t : Nat → Nat) (T : Nat) : Prop := hK h 21 = 105 ∧ hN h 21 = 400 ∧ T ≤ 400 ∧ ∀ i, i < T → t i < 256 ∧ hI h 21 i = nI (t i)
def Rd (h : sk_H) (b T p : Nat) (f : Int32) : Prop := hK h b = 6 ∧ hR h b 0 = some 21 ∧ hI h b 1 = nI T ∧ hI h b 2 = nI p ∧ hI h b 3 = f ∧ 73 ≤ b
section SkReader
variable {h h' h1 h2 : sk_H} {t : Nat → Nat} {T p b n d : Nat} {f : Int32}
theorem nxF_le : ∀ (n p : Nat), p ≤ nxF t n p ∧ nxF t n p ≤ p + n
  | 0, p => ⟨Nat.le_refl _, Nat.le_refl _⟩
  | n + 1, p => by
    unfold nxF
    by_cases q : t p = 32
    · rw [if_pos q]
      have := nxF_le n (p + 1)
      omega
    · rw [if_neg q]
      omega
theorem Re_look_ok (X : Tx h t T) (R : Rd h b T p f) (hp : p ≤ T) : c_Re_look d (some b) h = some (h, lk t T p) := by
  obtain ⟨k, r, i1, i2, i3, -⟩ := R
  obtain ⟨x1, x2, x3, x4⟩ := X
  refine (e_Re_look _ _ _).trans ?_
  refine (if_pos k).trans ?_
  refine (if_pos k).trans ?_
  rw [i1, i2]
  unfold lk
  by_cases q : p < T
  · rw [if_pos q]
    refine (if_neg (nI_ge q (by omega))).trans ?_
    refine (if_pos k).trans ?_
    refine (if_pos k).trans ?_
    refine (bnd r _).trans ?_
    refine (if_pos ⟨x1, by rw [x2]; exact vp_in_nI (by omega) (by omega)⟩).trans ?_
    rw [q_cl (by omega), (x4 p q).2]
  · rw [if_neg q]
    exact if_pos (nI_le (by omega) (by omega))
theorem Re_next_in : ∀ (n p : Nat) (h : sk_H), p + n = T → Tx h t T → Rd h b T p f → ∃ h', k_Re_next_0 d (some b) h = some (h', lk t T (nxF t n p)) ∧ Rd h' b T (nxF t n p) f ∧ Iq (PRd b) h h'
  | 0, p, h, hp, X, R => by
    have lo := Re_look_ok (d := d) X R (by omega)
    obtain ⟨k, r, i1, i2, i3, -⟩ := id R
    obtain ⟨x1, x2, x3, x4⟩ := id X
    have z : hI h b 1 ≤ hI h b 2 := by rw [i1, i2]; exact nI_le (by omega) (by omega)
    refine ⟨h, ?_, R, ⟨rfl, rfl, fun _ _ _ => rfl⟩⟩
    refine (e_Re_next_0 _ _ _).trans ?_
    refine (if_pos k).trans ?_
    refine (if_pos k).trans ?_
    refine (if_pos z).trans ?_
    exact (e_Re_look _ _ _).symm.trans lo
  | n + 1, p, h, hp, X, R => by
    have lo := Re_look_ok (d := d) X R (by omega)
    obtain ⟨k, r, i1, i2, i3, hb⟩ := id R
    obtain ⟨x1, x2, x3, x4⟩ := id X
    have z : ¬ hI h b 1 ≤ hI h b 2 := by rw [i1, i2]; exact nI_ge (by omega) (by omega)
    have xp := x4 p (by omega)
    have inn : sk_in (hI h b 2) (hN h 21) := by rw [i2, x2]; exact vp_in_nI (by omega) (by omega)
    have ev : hI h 21 (hI h b 2).toNatClampNeg = nI (t p) := by rw [i2, q_cl (by omega)]; exact xp.2
    unfold nxF
    by_cases q : t p = 32
    · rw [if_pos q]
      obtain ⟨h', e1, e2, e3⟩ := Re_next_in n (p + 1) (wI h b 2 (nI (p + 1))) (by omega) ⟨x1, x2, x3, fun i hi => ⟨(x4 i hi).1, by rw [hI_wI, if_neg (fun q => by omega)]; exact (x4 i hi).2⟩⟩ ⟨k, r, by rw [hI_wI, if_neg (fun q => by omega)]; exact i1, by rw [hI_wI, if_pos ⟨rfl, rfl⟩], by rw [hI_wI, if_neg (fun q => by omega)]; exact i3, hb⟩
      refine ⟨h', ?_, e2, ⟨e3.1, e3.2.1, fun a i ha => (e3.2.2 a i ha).trans ?_⟩⟩
      · rw [← e1]
        refine (e_Re_next_0 _ _ _).trans ?_
        refine (if_pos k).trans ?_
        refine (if_pos k).trans ?_
        refine (if_neg z).trans ?_
        refine (if_pos k).trans ?_
        refine (if_pos k).trans ?_
        refine (bnd r _).trans ?_
        refine (if_pos ⟨x1, inn⟩).trans ?_
        refine (if_neg (by rw [ev, q]; decide)).trans ?_
        refine (if_pos k).trans ?_
        refine (if_pos k).trans ?_
        rw [i2, nI_1]
      · rw [hI_wI, if_neg (fun q => by rw [q.1, q.2] at ha; unfold PRd at ha; simp at ha)]
    · rw [if_neg q]
      refine ⟨h, ?_, R, ⟨rfl, rfl, fun _ _ _ => rfl⟩⟩
      refine (e_Re_next_0 _ _ _).trans ?_
      refine (if_pos k).trans ?_
      refine (if_pos k).trans ?_
      refine (if_neg z).trans ?_
      refine (if_pos k).trans ?_
      refine (if_pos k).trans ?_
      refine (bnd r _).trans ?_
      refine (if_pos ⟨x1, inn⟩).trans ?_
      refine (if_pos (show ¬ hI h 21 (hI h b 2).toNatClampNeg = (32 : Int32) from ?_)).trans ?_
      · rw [ev, show (32 : Int32) = nI 32 from rfl, q_eq_f q (by omega) (by omega)]; exact not_false
      rw [← lo]
      exact (e_Re_look _ _ _).symm
end SkReader
