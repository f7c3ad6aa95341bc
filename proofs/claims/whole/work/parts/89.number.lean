/-! ===== the class's reader: numbers, what follows a clause ===== -/
/-- a digit stands at p -/
def dgt (t : Nat → Nat) (T p : Nat) : Bool := decide (p < T ∧ 48 ≤ t p ∧ t p ≤ 57)
def dlF (t : Nat → Nat) (T : Nat) : Nat → Nat → List Nat
  | 0, _ => []
  | n + 1, p => if dgt t T p = true then (t p - 48) :: dlF t T n (p + 1) else []
/-- the digits from p on -/
def dl (t : Nat → Nat) (T p : Nat) : List Nat := dlF t T (T - p) p
def dgE (t : Nat → Nat) (T p : Nat) : Nat := p + (dl t T p).length
/-- the value of the first five -/
def nv : Nat → Nat → List Nat → Nat
  | _, v, [] => v
  | k, v, x :: l => nv (k + 1) (if k < 5 then v * 10 + x else v) l
/-- a number from l on and below u -/
def nmR (t : Nat → Nat) (T p l u : Nat) : Nat ⊕ (Nat × Nat) :=
  if dgt t T (nxt t T p) = true then
    if dgE t T (nxt t T p) ≤ nxt t T p + 5 ∧ l ≤ nv 0 0 (dl t T (nxt t T p)) ∧ nv 0 0 (dl t T (nxt t T p)) < u then .inr (dgE t T (nxt t T p), nv 0 0 (dl t T (nxt t T p)))
    else .inl (1 + 8 * nxt t T p + 1)
  else .inl (1 + 8 * nxt t T p + 0)
/-- what follows a clause -/
def gO (t : Nat → Nat) (T p : Nat) : Nat ⊕ Option Nat :=
  if nxt t T p < T then (if t (nxt t T p) = 59 then .inr (some (nxt t T p + 1)) else .inl (1 + 8 * nxt t T p + 0)) else .inr none
theorem if3 {α : Type} {A B C : Prop} [Decidable A] [Decidable B] [Decidable C] (x y : α) : (if A then x else if B then x else if C then y else x) = if A ∨ B ∨ ¬ C then x else y := by
  by_cases a : A <;> by_cases b : B <;> by_cases c : C <;> simp [a, b, c]
section SkNumb
variable {h h' h1 h2 : sk_H} {t : Nat → Nat} {T p b n d s i : Nat} {f lo hi : Int32}
theorem dlF_le : ∀ (n p : Nat), (dlF t T n p).length ≤ n
  | 0, p => Nat.le_refl _
  | n + 1, p => by
    unfold dlF
    by_cases q : dgt t T p = true
    · rw [if_pos q]
      have := dlF_le n (p + 1)
      simp only [List.length_cons]
      omega
    · rw [if_neg q]
      exact Nat.zero_le _
theorem dgE_le (hp : p ≤ T) : p ≤ dgE t T p ∧ dgE t T p ≤ T := by
  have := dlF_le (t := t) (T := T) (T - p) p
  unfold dgE dl
  omega
theorem dl_c (hl : dgt t T p = true) : dl t T p = (t p - 48) :: dl t T (p + 1) := by
  have hp : p < T := (of_decide_eq_true hl).1
  unfold dl
  rw [show T - p = (T - (p + 1)) + 1 by omega]
  show (if dgt t T p = true then (t p - 48) :: dlF t T (T - (p + 1)) (p + 1) else []) = _
  rw [if_pos hl]
theorem dl_n (hl : dgt t T p = false) : dl t T p = [] := by
  unfold dl
  cases hT : T - p with
  | zero => rfl
  | succ m =>
    show (if dgt t T p = true then (t p - 48) :: dlF t T m (p + 1) else []) = _
    rw [if_neg (by rw [hl]; decide)]
theorem dgE_c (hl : dgt t T p = true) : dgE t T p = dgE t T (p + 1) := by
  unfold dgE
  rw [dl_c hl, List.length_cons]
  omega
theorem dgE_n (hl : dgt t T p = false) : dgE t T p = p := by
  unfold dgE
  rw [dl_n hl]
  rfl
/-- so many digits, so large -/
def nvB (k v : Nat) : Prop := v < 100000 ∧ (k = 0 → v = 0) ∧ (k = 1 → v < 10) ∧ (k = 2 → v < 100) ∧ (k = 3 → v < 1000) ∧ (k = 4 → v < 10000)
theorem nvB.st {k v x : Nat} (B : nvB k v) (hx : x ≤ 9) : nvB (k + 1) (if k < 5 then v * 10 + x else v) := by
  obtain ⟨b0, b1, b2, b3, b4, b5⟩ := B
  by_cases q : k < 5
  · rw [if_pos q]
    unfold nvB
    refine ⟨?_, ?_, ?_, ?_, ?_, ?_⟩ <;> omega
  · rw [if_neg q]
    unfold nvB
    refine ⟨?_, ?_, ?_, ?_, ?_, ?_⟩ <;> omega
theorem nv_lt : ∀ (n p k v : Nat), nvB k v → nv k v (dlF t T n p) < 100000
  | 0, p, k, v, B => B.1
  | n + 1, p, k, v, B => by
    unfold dlF
    by_cases q : dgt t T p = true
    · rw [if_pos q]
      have q' := of_decide_eq_true q
      exact nv_lt n (p + 1) (k + 1) _ (B.st (by omega))
    · rw [if_neg q]
      exact B.1
theorem nv_le : nv 0 0 (dl t T p) < 100000 := nv_lt _ _ _ _ ⟨by omega, fun _ => rfl, by omega, by omega, by omega, by omega⟩
theorem lk_lt (hp : p < T) : lk t T p = nI (t p) := by unfold lk; rw [if_pos hp]
theorem Re_isDigit_ok (X : Tx h1 t T) : c_Re_isDigit d (lk t T p) h = some (h, bi (dgt t T p)) := by
  refine (e_Re_isDigit _ _ _).trans ?_
  unfold dgt
  by_cases q : p < T
  · have tl := (X.2.2.2 p q).1
    rw [lk_lt q]
    by_cases q1 : t p < 48
    · refine (if_pos (show nI _ < nI 48 from nI_lt q1 (by omega))).trans ?_
      rw [decide_eq_false (by omega)]
      rfl
    · refine (if_neg (show ¬ nI _ < nI 48 from nI_nlt (by omega) (by omega))).trans ?_
      by_cases q2 : 57 < t p
      · refine (if_pos (show nI 57 < nI _ from nI_lt q2 (by omega))).trans ?_
        rw [decide_eq_false (by omega)]
        rfl
      · refine (if_neg (show ¬ nI 57 < nI _ from nI_nlt (by omega) (by omega))).trans ?_
        rw [decide_eq_true (by omega)]
        rfl
  · rw [decide_eq_false (by omega)]
    unfold lk
    rw [if_neg q]
    exact if_pos (by decide)
theorem Re_number_in (hs : s ≤ T) : ∀ (n p k v : Nat) (h : sk_H), p + n = T → s + k = p → nvB k v → Tx h t T → Rd h b T p f → ∃ h', k_Re_number_29 d (some b) lo hi (nI s) (nI v) h = (if (5 : Int32) < nI (dgE t T p) - nI s ∨ nI (nv k v (dl t T p)) < lo ∨ ¬ nI (nv k v (dl t T p)) ≤ hi then k_Re_number_125 d (some b) (nI s) (nI (nv k v (dl t T p))) h' else some (h', nI (nv k v (dl t T p)))) ∧ Rd h' b T (dgE t T p) f ∧ Iq (PRd b) h h'
  | 0, p, k, v, h, hp, hk, B, X, R => by
    obtain ⟨k, r, i1, i2, i3, hb⟩ := id R
    have x3 := X.2.2.1
    have q : dgt t T p = false := by unfold dgt; exact decide_eq_false (by omega)
    rw [dgE_n q, dl_n q]
    refine ⟨h, ?_, R, Iq.refl h⟩
    refine (e_Re_number_29 _ _ _ _ _ _ _).trans ?_
    refine (if_pos k).trans ?_
    refine (if_pos k).trans ?_
    refine (if_pos (by rw [i1, i2]; exact nI_le (by omega) (by omega))).trans ?_
    refine (if_pos k).trans ?_
    rw [i2]
    exact if3 _ _
  | n + 1, p, k, v, h, hp, hk, B, X, R => by
    obtain ⟨kk, r, i1, i2, i3, hb⟩ := id R
    obtain ⟨x1, x2, x3, x4⟩ := id X
    have xp := x4 p (by omega)
    have ev : hI h 21 (hI h b 2).toNatClampNeg = nI (t p) := by rw [i2, q_cl (by omega)]; exact xp.2
    have inn : sk_in (hI h b 2) (hN h 21) := by rw [i2, x2]; exact vp_in_nI (by omega) (by omega)
    have di : c_Re_isDigit d (hI h 21 (hI h b 2).toNatClampNeg) h = some (h, bi (dgt t T p)) := by
      rw [ev, ← lk_lt (t := t) (show p < T by omega)]
      exact Re_isDigit_ok X
    by_cases q : dgt t T p = true
    · have q' := of_decide_eq_true q
      obtain ⟨h', e1, e2, e3⟩ := Re_number_in hs n (p + 1) (k + 1) (if k < 5 then v * 10 + (t p - 48) else v) (wI h b 2 (nI (p + 1))) (by omega) (by omega) (B.st (by omega)) ⟨x1, x2, x3, fun i hi => ⟨(x4 i hi).1, by rw [hI_wI, if_neg (fun q => by omega)]; exact (x4 i hi).2⟩⟩ ⟨kk, r, by rw [hI_wI, if_neg (fun q => by omega)]; exact i1, by rw [hI_wI, if_pos ⟨rfl, rfl⟩], by rw [hI_wI, if_neg (fun q => by omega)]; exact i3, hb⟩
      rw [dgE_c q, dl_c q]
      refine ⟨h', ?_, e2, (Iq.w h (nI (p + 1)) (by unfold PRd; simp)).trans e3⟩
      refine Eq.trans ?_ e1
      refine (e_Re_number_29 _ _ _ _ _ _ _).trans ?_
      refine (if_pos kk).trans ?_
      refine (if_pos kk).trans ?_
      refine (if_neg (by rw [i1, i2]; exact nI_ge (by omega) (by omega))).trans ?_
      refine (if_pos kk).trans ?_
      refine (if_pos kk).trans ?_
      refine (bnd r _).trans ?_
      refine (if_pos ⟨x1, inn⟩).trans ?_
      refine (bnd di _).trans ?_
      refine (if_neg (show ¬ bi (dgt t T p) = 0 by rw [q]; decide)).trans ?_
      refine (if_pos kk).trans ?_
      have e5 : hI h b 2 - nI s = nI k := by rw [i2, q_sub (by omega), show p - s = k by omega]
      by_cases q5 : k < 5
      · refine (if_neg (show ¬ nI 5 ≤ hI h b 2 - nI s by rw [e5]; exact nI_ge q5 (by omega))).trans ?_
        refine (if_pos kk).trans ?_
        refine (if_pos kk).trans ?_
        refine (bnd r _).trans ?_
        refine (if_pos ⟨x1, inn⟩).trans ?_
        refine (if_pos kk).trans ?_
        refine (if_pos kk).trans ?_
        show k_Re_number_29 d (some b) lo hi (nI s) (nI v * (10 : Int32) + hI h 21 (hI h b 2).toNatClampNeg - (48 : Int32)) (wI h b 2 (hI h b 2 + (1 : Int32))) = _
        rw [ev, i2, nI_1, if_pos q5, show (10 : Int32) = nI 10 from rfl, show (48 : Int32) = nI 48 from rfl, pk_mul, nI_add, q_sub (by omega), show v * 10 + t p - 48 = v * 10 + (t p - 48) by omega]
      · refine (if_pos (show nI 5 ≤ hI h b 2 - nI s by rw [e5]; exact nI_le (by omega) (by omega))).trans ?_
        refine (if_pos kk).trans ?_
        refine (if_pos kk).trans ?_
        show k_Re_number_29 d (some b) lo hi (nI s) (nI v) (wI h b 2 (hI h b 2 + (1 : Int32))) = _
        rw [i2, nI_1, if_neg q5]
    · have q : dgt t T p = false := by simpa using q
      rw [dgE_n q, dl_n q]
      refine ⟨h, ?_, R, Iq.refl h⟩
      refine (e_Re_number_29 _ _ _ _ _ _ _).trans ?_
      refine (if_pos kk).trans ?_
      refine (if_pos kk).trans ?_
      refine (if_neg (by rw [i1, i2]; exact nI_ge (by omega) (by omega))).trans ?_
      refine (if_pos kk).trans ?_
      refine (if_pos kk).trans ?_
      refine (bnd r _).trans ?_
      refine (if_pos ⟨x1, inn⟩).trans ?_
      refine (bnd di _).trans ?_
      refine (if_pos (show bi (dgt t T p) = 0 by rw [q]; rfl)).trans ?_
      refine (if_pos kk).trans ?_
      rw [i2]
      exact if3 _ _
theorem fne {g : Nat} (hg : g < 10000) : nI g ≠ nM := fun q => by
  have := q_m1 (n := g) (by omega)
  rw [q] at this
  exact this.mp rfl
theorem nmR_lt {l u g : Nat} (hp : p ≤ T) (hT : T ≤ 400) (e : nmR t T p l u = .inl g) : g < 10000 := by
  have := nxt_le (t := t) hp
  unfold nmR at e
  by_cases q1 : dgt t T (nxt t T p) = true
  · rw [if_pos q1] at e
    by_cases q2 : dgE t T (nxt t T p) ≤ nxt t T p + 5 ∧ l ≤ nv 0 0 (dl t T (nxt t T p)) ∧ nv 0 0 (dl t T (nxt t T p)) < u
    · rw [if_pos q2] at e
      cases e
    · rw [if_neg q2] at e
      have := Sum.inl.inj e
      omega
  · rw [if_neg q1] at e
    have := Sum.inl.inj e
    omega
/-- how a number of the class compares with bounds -/
def Bds (lo hi : Int32) (l u : Nat) : Prop := ∀ v, v < 100000 → (nI v < lo ↔ v < l) ∧ (nI v ≤ hi ↔ v < u)
theorem Bds.of {l u : Nat} (hl : l < 100000) (hu : u < 100000) : Bds (nI l) (nI u) l (u + 1) := fun v hv => ⟨nI_ltI (by omega) (by omega), (nI_leI (by omega) (by omega)).trans (by omega)⟩
theorem Re_number_ok {l u : Nat} (B : Bds lo hi l u) (X : Tx h t T) (R : Rd h b T p nM) (hp : p ≤ T) : (∃ e v h', nmR t T p l u = .inr (e, v) ∧ c_Re_number d (some b) lo hi h = some (h', nI v) ∧ Rd h' b T e nM ∧ Iq (PRd b) h h' ∧ e ≤ T ∧ v < 100000) ∨ ∃ g v q h', nmR t T p l u = .inl g ∧ c_Re_number d (some b) lo hi h = some (h', nI v) ∧ Rd h' b T q (nI g) ∧ Iq (PRd b) h h' ∧ q ≤ T ∧ v < 100000 := by
  obtain ⟨h1, e1, e2, e3⟩ := Re_next_ok (d := d) X R hp
  have hb := R.2.2.2.2.2
  have X1 := X.iq e3 hb
  have hq := nxt_le (t := t) hp
  have x3 := X.2.2.1
  have di := Re_isDigit_ok (d := d) (h := h1) (p := nxt t T p) X1
  by_cases q : dgt t T (nxt t T p) = true
  · obtain ⟨h2, g1, g2, g3⟩ := Re_number_in (d := d) (lo := lo) (hi := hi) hq.2 (T - nxt t T p) (nxt t T p) 0 0 h1 (by omega) rfl ⟨by omega, fun _ => rfl, by omega, by omega, by omega, by omega⟩ X1 e2
    have hv := nv_le (t := t) (T := T) (p := nxt t T p)
    have hd := dgE_le (t := t) hq.2
    have Bv := B _ hv
    have pre : c_Re_number d (some b) lo hi h = k_Re_number_29 d (some b) lo hi (nI (nxt t T p)) (nI 0) h1 := by
      refine (e_Re_number _ _ _ _ _).trans ?_
      refine (if_pos R.1).trans ?_
      refine (bnd e1 _).trans ?_
      refine (bnd di _).trans ?_
      refine (if_pos (show ¬ bi (dgt t T (nxt t T p)) = 0 by rw [q]; decide)).trans ?_
      refine (if_pos e2.1).trans ?_
      show k_Re_number_29 d (some b) lo hi (hI h1 b 2) (nI 0) h1 = _
      rw [e2.2.2.2.1]
    by_cases q2 : dgE t T (nxt t T p) ≤ nxt t T p + 5 ∧ l ≤ nv 0 0 (dl t T (nxt t T p)) ∧ nv 0 0 (dl t T (nxt t T p)) < u
    · refine Or.inl ⟨_, _, h2, ?_, ?_, g2, e3.trans g3, hd.2, hv⟩
      · unfold nmR
        rw [if_pos q, if_pos q2]
      · refine pre.trans (g1.trans (if_neg ?_))
        rw [q_sub (by omega), Bv.1, Bv.2]
        refine fun z => z.elim (fun z => ?_) (fun z => by omega)
        exact absurd z (show ¬ nI 5 < _ from nI_nlt (by omega) (by omega))
    · obtain ⟨h3, k1, k2, k3⟩ := Re_refuse_ok (d := d) g2 (q := nxt t T p) (k := 1)
      rw [if_pos rfl] at k2
      refine Or.inr ⟨_, _, _, h3, ?_, ?_, k2, (e3.trans g3).trans k3, hd.2, hv⟩
      · unfold nmR
        rw [if_pos q, if_neg q2]
      · refine pre.trans (g1.trans ((if_pos ?_).trans ?_))
        · rw [q_sub (by omega), Bv.1, Bv.2]
          by_cases q3 : dgE t T (nxt t T p) ≤ nxt t T p + 5
          · exact Or.inr (by omega)
          · exact Or.inl (show nI 5 < _ from nI_lt (by omega) (by omega))
        · refine (e_Re_number_125 _ _ _ _ _).trans ?_
          refine (if_pos g2.1).trans ?_
          exact (bnd k1 _).trans rfl
  · obtain ⟨h3, k1, k2, k3⟩ := Re_refuse_ok (d := d) e2 (q := nxt t T p) (k := 0)
    rw [if_pos rfl] at k2
    refine Or.inr ⟨_, 0, _, h3, ?_, ?_, k2, e3.trans k3, hq.2, by omega⟩
    · unfold nmR
      rw [if_neg q]
    · refine (e_Re_number _ _ _ _ _).trans ?_
      refine (if_pos R.1).trans ?_
      refine (bnd e1 _).trans ?_
      refine (bnd di _).trans ?_
      refine (if_neg (fun z => z (show bi (dgt t T (nxt t T p)) = 0 by rw [show dgt t T (nxt t T p) = false by simpa using q]; rfl))).trans ?_
      refine (if_pos e2.1).trans ?_
      refine (if_pos e2.1).trans ?_
      refine (bnd (a := h3) ?_ _).trans rfl
      show c_Re_refuse d (some b) (hI h1 b 2) (nI 0) h1 = _
      rw [e2.2.2.2.1]
      exact k1
theorem Re_goesOn_no (R : Rd h b T p f) (hf : f ≠ nM) : c_Re_goesOn d (some b) h = some (h, bi false) := by
  have so := Re_sound_ok (d := d) R
  rw [decide_eq_false hf] at so
  refine (e_Re_goesOn _ _ _).trans ?_
  refine (if_pos R.1).trans ?_
  refine (bnd so _).trans ?_
  exact if_pos (show bi false = 0 by decide)
theorem gO_lt {g : Nat} (hp : p ≤ T) (hT : T ≤ 400) (e : gO t T p = .inl g) : g < 10000 := by
  have := nxt_le (t := t) hp
  unfold gO at e
  by_cases q1 : nxt t T p < T
  · rw [if_pos q1] at e
    by_cases q2 : t (nxt t T p) = 59
    · rw [if_pos q2] at e; cases e
    · rw [if_neg q2] at e
      have := Sum.inl.inj e
      omega
  · rw [if_neg q1] at e; cases e
theorem nxt_nb (h32 : nxt t T p < T) : t (nxt t T p) ≠ 32 := by
  have key : ∀ (n p : Nat), p + n = T → nxF t n p < T → t (nxF t n p) ≠ 32 := by
    intro n
    induction n with
    | zero => intro p hp hl; exact absurd hl (by show ¬ p < T; omega)
    | succ n ih =>
      intro p hp hl
      unfold nxF at hl ⊢
      by_cases q : t p = 32
      · rw [if_pos q] at hl ⊢
        exact ih (p + 1) (by omega) hl
      · rw [if_neg q]
        exact q
  by_cases hp : p ≤ T
  · exact key (T - p) p (by omega) h32
  · have e : nxt t T p = p := by unfold nxt; rw [show T - p = 0 by omega]; rfl
    rw [e] at h32
    omega
theorem nxt_id (hp : p ≤ T) (h32 : p < T → t p ≠ 32) : nxt t T p = p := by
  unfold nxt
  cases hT : T - p with
  | zero => rfl
  | succ m =>
    show (if t p = 32 then nxF t m (p + 1) else p) = p
    rw [if_neg (h32 (by omega))]
theorem nxt_nxt (hp : p ≤ T) : nxt t T (nxt t T p) = nxt t T p := nxt_id (nxt_le hp).2 (fun h => nxt_nb h)
theorem Re_goesOn_ok (X : Tx h t T) (R : Rd h b T p nM) (hp : p ≤ T) : (∃ h', gO t T p = .inr none ∧ c_Re_goesOn d (some b) h = some (h', bi false) ∧ Rd h' b T (nxt t T p) nM ∧ Iq (PRd b) h h') ∨ (∃ q h', gO t T p = .inr (some q) ∧ c_Re_goesOn d (some b) h = some (h', bi true) ∧ Rd h' b T q nM ∧ Iq (PRd b) h h' ∧ q ≤ T) ∨ ∃ g q h', gO t T p = .inl g ∧ c_Re_goesOn d (some b) h = some (h', bi false) ∧ Rd h' b T q (nI g) ∧ Iq (PRd b) h h' ∧ q ≤ T := by
  have so := Re_sound_ok (d := d) R
  rw [decide_eq_true rfl] at so
  obtain ⟨h1, e1, e2, e3⟩ := Re_next_ok (d := d) X R hp
  have hb := R.2.2.2.2.2
  have X1 := X.iq e3 hb
  have hq := nxt_le (t := t) hp
  have x3 := X.2.2.1
  by_cases q : nxt t T p < T
  · obtain ⟨h2, g1, g2, g3⟩ := Re_takes_ok (d := d) X1 e2 hq.2 (c := 59) (by omega)
    have tl := (X.2.2.2 _ q).1
    have pre : ∀ o, (Option.bind (some (h2, bi (tkP t T (nxt t T p) 59))) fun (q3 : sk_H × Int32) => if q3.2 = 0 then if hK q3.1 b = 6 then if hK q3.1 b = 6 then Option.bind (c_Re_refuse d (some b) (hI q3.1 b 2) (0 : Int32) q3.1) fun q4 => some (q4, (0 : Int32)) else none else none else some (q3.1, (1 : Int32))) = o → c_Re_goesOn d (some b) h = o := by
      intro o ho
      rw [← ho]
      refine (e_Re_goesOn _ _ _).trans ?_
      refine (if_pos R.1).trans ?_
      refine (bnd so _).trans ?_
      refine (if_neg (show ¬ bi true = 0 by decide)).trans ?_
      refine (if_pos R.1).trans ?_
      refine (bnd e1 _).trans ?_
      refine (if_pos (show ¬ lk t T (nxt t T p) = nM by rw [lk_lt q, q_m1 (by omega)]; exact not_false)).trans ?_
      refine (if_pos e2.1).trans ?_
      exact (bnd g1 _).trans rfl
    have e4 := nxt_nxt (t := t) hp
    have tk : tkP t T (nxt t T p) 59 = decide (t (nxt t T p) = 59) := by
      unfold tkP
      rw [e4]
      simp only [q, true_and]
    rw [tk] at pre g2
    rw [e4] at g2
    by_cases q2 : t (nxt t T p) = 59
    · refine Or.inr (Or.inl ⟨nxt t T p + 1, h2, ?_, pre _ ?_, ?_, e3.trans g3, by omega⟩)
      · unfold gO
        rw [if_pos q, if_pos q2]
      · rw [decide_eq_true q2]
        rfl
      · rw [decide_eq_true q2, if_pos rfl] at g2
        exact g2
    · rw [decide_eq_false q2, if_neg (by decide)] at g2
      obtain ⟨h3, k1, k2, k3⟩ := Re_refuse_ok (d := d) g2 (q := nxt t T p) (k := 0)
      rw [if_pos rfl] at k2
      refine Or.inr (Or.inr ⟨_, nxt t T p, h3, ?_, pre _ ?_, k2, (e3.trans g3).trans k3, hq.2⟩)
      · unfold gO
        rw [if_pos q, if_neg q2]
      · rw [decide_eq_false q2]
        refine (bnd rfl _).trans ?_
        refine (if_pos (show bi false = 0 by decide)).trans ?_
        refine (if_pos g2.1).trans ?_
        refine (if_pos g2.1).trans ?_
        refine (bnd (a := h3) ?_ _).trans rfl
        show c_Re_refuse d (some b) (hI h2 b 2) (nI 0) h2 = _
        rw [g2.2.2.2.1]
        exact k1
  · refine Or.inl ⟨h1, ?_, ?_, e2, e3⟩
    · unfold gO
      rw [if_neg q]
    · refine (e_Re_goesOn _ _ _).trans ?_
      refine (if_pos R.1).trans ?_
      refine (bnd so _).trans ?_
      refine (if_neg (show ¬ bi true = 0 by decide)).trans ?_
      refine (if_pos R.1).trans ?_
      refine (bnd e1 _).trans ?_
      refine (if_neg (fun z => z ?_)).trans rfl
      show lk t T (nxt t T p) = nM
      unfold lk
      rw [if_neg q]
end SkNumb
