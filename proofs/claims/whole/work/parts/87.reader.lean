/-! ===== the class's reader ===== -/
def nxF (t : Nat → Nat) : Nat → Nat → Nat
  | 0, p => p
  | n + 1, p => if t p = 32 then nxF t n (p + 1) else p
/-- the next place that is no blank -/
def nxt (t : Nat → Nat) (T p : Nat) : Nat := nxF t (T - p) p
/-- the byte there, or none -/
def lk (t : Nat → Nat) (T p : Nat) : Int32 := if p < T then nI (t p) else nM
def PRd (b a i : Nat) : Bool := a == b && (i == 2 || i == 3)
def Tx (h : sk_H) (t : Nat → Nat) (T : Nat) : Prop := hK h 21 = 105 ∧ hN h 21 = 400 ∧ T ≤ 400 ∧ ∀ i, i < T → t i < 256 ∧ hI h 21 i = nI (t i)
def Rd (h : sk_H) (b T p : Nat) (f : Int32) : Prop := hK h b = 6 ∧ hR h b 0 = some 21 ∧ hI h b 1 = nI T ∧ hI h b 2 = nI p ∧ hI h b 3 = f ∧ 73 ≤ b
section SkReader
variable {h h' h1 h2 : sk_H} {t : Nat → Nat} {T p b n d : Nat} {f : Int32}
theorem nxF_le : ∀ (n p : Nat), p ≤ nxF t n p ∧ nxF t n p ≤ p + n
  | 0, p => ⟨Nat.le_refl _, Nat.le_refl _⟩
  | n + 1, p => by
    unfold nxF
    by_cases q : t p = 32
    · rw [if_pos q]
      have := nxF_le n (p + 1)
      omega
    · rw [if_neg q]
      omega
theorem Re_look_ok (X : Tx h t T) (R : Rd h b T p f) (hp : p ≤ T) : c_Re_look d (some b) h = some (h, lk t T p) := by
  obtain ⟨k, r, i1, i2, i3, -⟩ := R
  obtain ⟨x1, x2, x3, x4⟩ := X
  refine (e_Re_look _ _ _).trans ?_
  refine (if_pos k).trans ?_
  refine (if_pos k).trans ?_
  rw [i1, i2]
  unfold lk
  by_cases q : p < T
  · rw [if_pos q]
    refine (if_neg (nI_ge q (by omega))).trans ?_
    refine (if_pos k).trans ?_
    refine (if_pos k).trans ?_
    refine (bnd r _).trans ?_
    refine (if_pos ⟨x1, by rw [x2]; exact vp_in_nI (by omega) (by omega)⟩).trans ?_
    rw [q_cl (by omega), (x4 p q).2]
  · rw [if_neg q]
    exact if_pos (nI_le (by omega) (by omega))
theorem Re_next_in : ∀ (n p : Nat) (h : sk_H), p + n = T → Tx h t T → Rd h b T p f → ∃ h', k_Re_next_0 d (some b) h = some (h', lk t T (nxF t n p)) ∧ Rd h' b T (nxF t n p) f ∧ Iq (PRd b) h h'
  | 0, p, h, hp, X, R => by
    have lo := Re_look_ok (d := d) X R (by omega)
    obtain ⟨k, r, i1, i2, i3, -⟩ := id R
    obtain ⟨x1, x2, x3, x4⟩ := id X
    have z : hI h b 1 ≤ hI h b 2 := by rw [i1, i2]; exact nI_le (by omega) (by omega)
    refine ⟨h, ?_, R, ⟨rfl, rfl, fun _ _ _ => rfl⟩⟩
    refine (e_Re_next_0 _ _ _).trans ?_
    refine (if_pos k).trans ?_
    refine (if_pos k).trans ?_
    refine (if_pos z).trans ?_
    exact (e_Re_look _ _ _).symm.trans lo
  | n + 1, p, h, hp, X, R => by
    have lo := Re_look_ok (d := d) X R (by omega)
    obtain ⟨k, r, i1, i2, i3, hb⟩ := id R
    obtain ⟨x1, x2, x3, x4⟩ := id X
    have z : ¬ hI h b 1 ≤ hI h b 2 := by rw [i1, i2]; exact nI_ge (by omega) (by omega)
    have xp := x4 p (by omega)
    have inn : sk_in (hI h b 2) (hN h 21) := by rw [i2, x2]; exact vp_in_nI (by omega) (by omega)
    have ev : hI h 21 (hI h b 2).toNatClampNeg = nI (t p) := by rw [i2, q_cl (by omega)]; exact xp.2
    unfold nxF
    by_cases q : t p = 32
    · rw [if_pos q]
      obtain ⟨h', e1, e2, e3⟩ := Re_next_in n (p + 1) (wI h b 2 (nI (p + 1))) (by omega) ⟨x1, x2, x3, fun i hi => ⟨(x4 i hi).1, by rw [hI_wI, if_neg (fun q => by omega)]; exact (x4 i hi).2⟩⟩ ⟨k, r, by rw [hI_wI, if_neg (fun q => by omega)]; exact i1, by rw [hI_wI, if_pos ⟨rfl, rfl⟩], by rw [hI_wI, if_neg (fun q => by omega)]; exact i3, hb⟩
      refine ⟨h', ?_, e2, ⟨e3.1, e3.2.1, fun a i ha => (e3.2.2 a i ha).trans ?_⟩⟩
      · rw [← e1]
        refine (e_Re_next_0 _ _ _).trans ?_
        refine (if_pos k).trans ?_
        refine (if_pos k).trans ?_
        refine (if_neg z).trans ?_
        refine (if_pos k).trans ?_
        refine (if_pos k).trans ?_
        refine (bnd r _).trans ?_
        refine (if_pos ⟨x1, inn⟩).trans ?_
        refine (if_neg (by rw [ev, q]; decide)).trans ?_
        refine (if_pos k).trans ?_
        refine (if_pos k).trans ?_
        rw [i2, nI_1]
      · rw [hI_wI, if_neg (fun q => by rw [q.1, q.2] at ha; unfold PRd at ha; simp at ha)]
    · rw [if_neg q]
      refine ⟨h, ?_, R, ⟨rfl, rfl, fun _ _ _ => rfl⟩⟩
      refine (e_Re_next_0 _ _ _).trans ?_
      refine (if_pos k).trans ?_
      refine (if_pos k).trans ?_
      refine (if_neg z).trans ?_
      refine (if_pos k).trans ?_
      refine (if_pos k).trans ?_
      refine (bnd r _).trans ?_
      refine (if_pos ⟨x1, inn⟩).trans ?_
      refine (if_pos (show ¬ hI h 21 (hI h b 2).toNatClampNeg = (32 : Int32) from ?_)).trans ?_
      · rw [ev, show (32 : Int32) = nI 32 from rfl, q_eq_f q (by omega) (by omega)]; exact not_false
      rw [← lo]
      exact (e_Re_look _ _ _).symm
theorem Re_next_e : c_Re_next d (some b) h = k_Re_next_0 d (some b) h := (e_Re_next _ _ _).trans (e_Re_next_0 _ _ _).symm
theorem nxt_le (hp : p ≤ T) : p ≤ nxt t T p ∧ nxt t T p ≤ T := by
  have := nxF_le (t := t) (T - p) p
  unfold nxt
  omega
theorem Re_next_ok (X : Tx h t T) (R : Rd h b T p f) (hp : p ≤ T) : ∃ h', c_Re_next d (some b) h = some (h', lk t T (nxt t T p)) ∧ Rd h' b T (nxt t T p) f ∧ Iq (PRd b) h h' := by
  rw [Re_next_e]
  exact Re_next_in (T - p) p h (by omega) X R
theorem Tx.iq (X : Tx h t T) (Q : Iq (PRd b) h h1) (hb : 73 ≤ b) : Tx h1 t T := by
  obtain ⟨x1, x2, x3, x4⟩ := X
  have e : hI h1 21 = hI h 21 := funext fun i => Q.2.2 21 i (by unfold PRd; rw [show (21 == b) = false from beq_eq_false_iff_ne.mpr (by omega)]; rfl)
  refine ⟨?_, ?_, x3, fun i hi => ⟨(x4 i hi).1, by rw [e]; exact (x4 i hi).2⟩⟩
  · rw [show hK h1 = hK h from congrArg (fun x => x.1) Q.1]; exact x1
  · rw [show Jvm.Pilot.CSkittleRowLaw_law_r7134_573cdd.hN h1 = Jvm.Pilot.CSkittleRowLaw_law_r7134_573cdd.hN h from congrArg (fun x => x.2.1) Q.1]; exact x2
theorem Re_sound_ok (R : Rd h b T p f) : c_Re_sound d (some b) h = some (h, bi (decide (f = nM))) := by
  obtain ⟨k, r, i1, i2, i3, -⟩ := R
  refine (e_Re_sound _ _ _).trans ?_
  refine (if_pos k).trans ?_
  rw [i3]
  by_cases q : f = nM
  · rw [decide_eq_true q]
    exact if_neg (fun z => z q)
  · rw [decide_eq_false q]
    exact if_pos q
theorem Re_refuse_ok (R : Rd h b T p f) {q k : Nat} : ∃ h', c_Re_refuse d (some b) (nI q) (nI k) h = some h' ∧ Rd h' b T p (if f = nM then nI (1 + 8 * q + k) else f) ∧ Iq (PRd b) h h' := by
  obtain ⟨kk, r, i1, i2, i3, hb⟩ := id R
  by_cases z : f = nM
  · rw [if_pos z]
    refine ⟨wI h b 3 (nI (1 + 8 * q + k)), ?_, ⟨kk, r, by rw [hI_wI, if_neg (fun q => by omega)]; exact i1, by rw [hI_wI, if_neg (fun q => by omega)]; exact i2, by rw [hI_wI, if_pos ⟨rfl, rfl⟩], hb⟩, ⟨rfl, rfl, fun a i ha => by rw [hI_wI, if_neg (fun q => by rw [q.1, q.2] at ha; unfold PRd at ha; simp at ha)]⟩⟩
    refine (e_Re_refuse _ _ _ _ _).trans ?_
    refine (if_pos kk).trans ?_
    refine (if_neg (fun y => y (i3.trans z))).trans ?_
    refine (if_pos kk).trans ?_
    rw [show (8 : Int32) = nI 8 from rfl, pk_mul, l1, nI_add, nI_add]
  · rw [if_neg z]
    refine ⟨h, ?_, R, ⟨rfl, rfl, fun _ _ _ => rfl⟩⟩
    refine (e_Re_refuse _ _ _ _ _).trans ?_
    refine (if_pos kk).trans ?_
    exact if_pos (fun y => z (i3.symm.trans y))
/-- the sign c comes next -/
def tkP (t : Nat → Nat) (T p c : Nat) : Bool := decide (nxt t T p < T ∧ t (nxt t T p) = c)
theorem Re_takes_no (R : Rd h b T p f) (hf : f ≠ nM) {x : Int32} : c_Re_takes d (some b) x h = some (h, bi false) := by
  have so := Re_sound_ok (d := d) R
  rw [decide_eq_false hf] at so
  refine (e_Re_takes _ _ _ _).trans ?_
  refine (if_pos R.1).trans ?_
  refine (bnd so _).trans ?_
  exact if_pos (show bi false = 0 by decide)
theorem Re_takes_ok (X : Tx h t T) (R : Rd h b T p nM) (hp : p ≤ T) {c : Nat} (hc : c < 256) : ∃ h', c_Re_takes d (some b) (nI c) h = some (h', bi (tkP t T p c)) ∧ Rd h' b T (if tkP t T p c = true then nxt t T p + 1 else nxt t T p) nM ∧ Iq (PRd b) h h' := by
  have so := Re_sound_ok (d := d) R
  rw [decide_eq_true rfl] at so
  obtain ⟨h1, e1, e2, e3⟩ := Re_next_ok (d := d) X R hp
  obtain ⟨k, r, i1, i2, i3, hb⟩ := id e2
  have hl : ∀ Gv : Option (sk_H × Int32), ((if lk t T (nxt t T p) = nI c then some (wI h1 b 2 (nI (nxt t T p + 1)), (1 : Int32)) else some (h1, (0 : Int32))) = Gv) → c_Re_takes d (some b) (nI c) h = Gv := by
    intro Gv hG
    rw [← hG]
    refine (e_Re_takes _ _ _ _).trans ?_
    refine (if_pos R.1).trans ?_
    refine (bnd so _).trans ?_
    refine (if_neg (show ¬ bi true = 0 by decide)).trans ?_
    refine (if_pos R.1).trans ?_
    refine (bnd e1 _).trans ?_
    by_cases z : lk t T (nxt t T p) = nI c
    · rw [if_pos z, if_pos z]
      refine (if_pos k).trans ?_
      refine (if_pos k).trans ?_
      show some (wI h1 b 2 (hI h1 b 2 + (1 : Int32)), (1 : Int32)) = _
      rw [i2, nI_1]
    · rw [if_neg z, if_neg z]
  unfold tkP
  by_cases q : nxt t T p < T
  · have tl := (X.2.2.2 _ q).1
    by_cases q2 : t (nxt t T p) = c
    · rw [decide_eq_true ⟨q, q2⟩, if_pos rfl]
      refine ⟨wI h1 b 2 (nI (nxt t T p + 1)), hl _ ?_, ⟨k, r, by rw [hI_wI, if_neg (fun q => by omega)]; exact i1, by rw [hI_wI, if_pos ⟨rfl, rfl⟩], by rw [hI_wI, if_neg (fun q => by omega)]; exact i3, hb⟩, ⟨e3.1, e3.2.1, fun a i ha => by rw [hI_wI, if_neg (fun q => by rw [q.1, q.2] at ha; unfold PRd at ha; simp at ha)]; exact e3.2.2 a i ha⟩⟩
      unfold lk
      rw [if_pos q, q2]
      exact if_pos rfl
    · rw [decide_eq_false (fun z => q2 z.2), if_neg (by decide)]
      refine ⟨h1, hl _ ?_, e2, e3⟩
      unfold lk
      rw [if_pos q]
      exact if_neg (by rw [q_eq_f q2 (by omega) (by omega)]; exact not_false)
  · rw [decide_eq_false (fun z => q z.1), if_neg (by decide)]
    refine ⟨h1, hl _ ?_, e2, e3⟩
    unfold lk
    rw [if_neg q]
    exact if_neg (fun z => absurd (congrArg Int32.toInt z) (by rw [nI_toInt (by omega), show nM.toInt = -1 from rfl]; omega))
end SkReader
