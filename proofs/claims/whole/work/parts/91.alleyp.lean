/-! ===== what an alley's text says; the class reads a row ===== -/
/-- places, rows, standing, hits, first; ends, last, stray; starts, sizes, rings -/
abbrev PS : Type := (Nat × Nat × Nat × Nat × Nat) × (Bool × Bool × Nat) × (Nat → Nat) × (Nat → Nat) × (Nat → Bool)
def yN (S : PS) : Nat := S.1.1
def yK (S : PS) : Nat := S.1.2.1
def yM (S : PS) : Nat := S.1.2.2.1
def yH (S : PS) : Nat := S.1.2.2.2.1
def yF (S : PS) : Nat := S.1.2.2.2.2
def yE (S : PS) : Bool := S.2.1.1
def yL (S : PS) : Bool := S.2.1.2.1
def yS (S : PS) : Nat := S.2.1.2.2
def yT (S : PS) : Nat → Nat := S.2.2.1
def yZ (S : PS) : Nat → Nat := S.2.2.2.1
def yR (S : PS) : Nat → Bool := S.2.2.2.2
def yA (S : PS) : AD := (yN S, yK S, yT S, yZ S, yR S)
def y0 : PS := ((0, 0, 0, 0, 0), (false, false, 0), (fun _ => 0), (fun _ => 0), (fun _ => false))
def yRow (S : PS) : PS := ((yN S, yK S + 1, yM S, yH S, yF S), S.2.1, va_up (yT S) (yK S) (yN S), yZ S, yR S)
def yAdd (S : PS) (o : Bool) : PS := ((yN S + 1, yK S, (if o = true then yM S ||| 1 <<< yN S else yM S), yH S, yF S), S.2.1, yT S, va_up (yZ S) (yK S - 1) (yZ S (yK S - 1) + 1), yR S)
def yRing (S : PS) (r : Nat) : PS := (S.1, S.2.1, yT S, yZ S, va_up (yR S) r true)
def yHit (S : PS) (v : Nat) : PS := ((yN S, yK S, yM S, yH S ||| 1 <<< (v - 1), yF S), S.2)
def yFst (S : PS) (v : Nat) : PS := ((yN S, yK S, yM S, yH S, v), S.2)
def yEnds (S : PS) : PS := (S.1, (true, yL S, yS S), S.2.2)
def yLast (S : PS) : PS := (S.1, (yE S, true, yS S), S.2.2)
def yStr (S : PS) (v : Nat) : PS := (S.1, (yE S, yL S, v), S.2.2)
/-- what holds while it is read -/
def PWr (S : PS) : Prop := yN S ≤ 12 ∧ yK S ≤ 4 ∧ (∀ r, r < yK S → yT S r + yZ S r ≤ yN S) ∧ (∀ r, yK S ≤ r → yZ S r = 0 ∧ yR S r = false) ∧ yM S < 2 ^ yN S ∧ yH S < 16 ∧ yS S ≤ 100 ∧ yF S ≤ 1 ∧ (yK S = 0 → yN S = 0)
def plc (t : Nat → Nat) (T p : Nat) : Bool := decide (p < T ∧ (t p = 48 ∨ t p = 49))
/-- the places of a row -/
def yRL (t : Nat → Nat) (T : Nat) : Nat → Nat → PS → Nat ⊕ (Nat × PS)
  | 0, p, S => .inr (p, S)
  | n + 1, p, S => if plc t T p = true then (if yN S = 12 then .inl (1 + 8 * p + 3) else yRL t T n (p + 1) (yAdd S (decide (t p = 49)))) else .inr (p, S)
/-- ints from address n on -/
def PN (n a _i : Nat) : Bool := decide (n ≤ a)
theorem nb1 : ¬ bi true = 0 := by decide
theorem n10 : ¬ (1 : Int32) = 0 := by decide
theorem hI_na {m : sk_H} {a b i j : Nat} {v : Int32} (h : b ≠ a) : hI (wI m a i v) b j = hI m b j := by rw [hI_wI, if_neg (fun q => h q.1)]
theorem hI_ni {m : sk_H} {a i j : Nat} {v : Int32} (h : j ≠ i) : hI (wI m a i v) a j = hI m a j := by rw [hI_wI, if_neg (fun q => h q.2)]
theorem hI_se {m : sk_H} {a i : Nat} {v : Int32} : hI (wI m a i v) a i = v := by rw [hI_wI, if_pos ⟨rfl, rfl⟩]
/-- the reader of alleys at n + 1, its alley at n + 2 -/
def ARS (h : sk_H) (n : Nat) : Prop := (hK h (n + 1) = 3 ∧ hR h (n + 1) 0 = some n ∧ hR h (n + 1) 1 = some (n + 2) ∧ hK h (n + 2) = 2) ∧
  (hR h (n + 2) 8 = some (n + 3) ∧ hR h (n + 2) 9 = some (n + 4) ∧ hR h (n + 2) 10 = some (n + 5) ∧ hR h (n + 2) 11 = some (n + 6) ∧ hR h (n + 2) 12 = some (n + 7) ∧ hR h (n + 2) 13 = some (n + 8) ∧ hR h (n + 2) 16 = some (n + 11)) ∧
  (hK h (n + 3) = 101 ∧ hK h (n + 4) = 101 ∧ hK h (n + 5) = 101 ∧ hK h (n + 6) = 103 ∧ hK h (n + 7) = 101 ∧ hK h (n + 8) = 101 ∧ hK h (n + 11) = 101) ∧
  (hN h (n + 3) = 12 ∧ hN h (n + 4) = 4 ∧ hN h (n + 5) = 4 ∧ hN h (n + 6) = 4 ∧ hN h (n + 7) = 12 ∧ hN h (n + 8) = 12 ∧ hN h (n + 11) = 41)
def ARI (h : sk_H) (n : Nat) (S : PS) : Prop := (hI h (n + 2) 0 = nI (yF S) ∧ hI h (n + 2) 1 = nI (yM S) ∧ hI h (n + 2) 2 = nI (yN S) ∧ hI h (n + 2) 3 = nI (yK S) ∧ hI h (n + 2) 4 = nI (yH S) ∧ hI h (n + 2) 5 = bi (yE S) ∧ hI h (n + 2) 6 = bi (yL S) ∧ hI h (n + 2) 7 = nI (yS S)) ∧
  (∀ p, p < yN S → hI h (n + 3) p = nI (aRow (yA S) p)) ∧ ∀ r, r < 4 → hI h (n + 4) r = nI (yT S r) ∧ hI h (n + 5) r = nI (yZ S r) ∧ hI h (n + 6) r = bi (yR S r)
def AIr (h : sk_H) (n : Nat) (t : Nat → Nat) (T p : Nat) (S : PS) : Prop := Tx h t T ∧ ARS h n ∧ Rd h n T p nM ∧ ARI h n S ∧ p ≤ T
/-- how the class answers -/
def CRs (h h' : sk_H) (n : Nat) (t : Nat → Nat) (T : Nat) (r : Nat ⊕ (Nat × PS)) : Prop := Iq (PN n) h h' ∧ ((∃ p S, r = .inr (p, S) ∧ AIr h' n t T p S) ∨ ∃ g p, r = .inl g ∧ Rd h' n T p (nI g) ∧ g < 10000)
theorem rf_cg {st st' : Nat → Nat} {p : Nat} : ∀ r, (∀ i, i ≤ r → st' i = st i) → rf st' p r = rf st p r
  | 0, _ => rfl
  | r + 1, h => by
    unfold rf
    rw [h (r + 1) (Nat.le_refl _), rf_cg r (fun i hi => h i (by omega))]
section SkAlleyp
variable {h h' h1 h2 : sk_H} {t : Nat → Nat} {T p n d : Nat} {S : PS} {f : Int32}
theorem aRow_row (w : PWr S) (hp : p < yN S) (hk : 0 < yK S) : aRow (yA (yRow S)) p = aRow (yA S) p := by
  show rf (va_up (yT S) (yK S) (yN S)) p (yK S + 1 - 1) = rf (yT S) p (yK S - 1)
  rw [show yK S + 1 - 1 = (yK S - 1) + 1 by omega]
  show (if va_up (yT S) (yK S) (yN S) (yK S - 1 + 1) ≤ p then yK S - 1 + 1 else rf (va_up (yT S) (yK S) (yN S)) p (yK S - 1)) = _
  rw [show yK S - 1 + 1 = yK S by omega, va_up_self, if_neg (by omega)]
  exact rf_cg (yK S - 1) (fun i hi => va_up_ne (yT S) (yN S) (show i ≠ yK S by omega))
theorem aRow_add (o : Bool) : aRow (yA (yAdd S o)) p = aRow (yA S) p := rfl
theorem aRow_new (w : PWr S) (hk : 0 < yK S) : aRow (yA S) (yN S) = yK S - 1 := by
  have h3 := w.2.2.1 (yK S - 1) (by omega)
  show rf (yT S) (yN S) (yK S - 1) = yK S - 1
  generalize hm : yK S - 1 = m at h3
  cases m with
  | zero => rfl
  | succ m =>
    unfold rf
    rw [if_pos (by omega)]
theorem PN_of (Q : Iq (PRd n) h h1) : Iq (PN n) h h1 := Q.mono fun a i ha => by
  unfold PN at ha
  unfold PRd
  rw [show (a == n) = false from beq_eq_false_iff_ne.mpr (fun e => by rw [e] at ha; simp at ha)]
  rfl
theorem ARI.rd (A : ARI h n S) (Q : Iq (PRd n) h h1) : ARI h1 n S := by
  have e : ∀ a, a ≠ n → hI h1 a = hI h a := fun a ha => funext fun i => Q.I (by unfold PRd; rw [show (a == n) = false from beq_eq_false_iff_ne.mpr ha]; rfl)
  unfold ARI
  rw [e (n + 2) (by omega), e (n + 3) (by omega), e (n + 4) (by omega), e (n + 5) (by omega), e (n + 6) (by omega)]
  exact A
theorem AIr.rd (A : AIr h n t T p S) (Q : Iq (PRd n) h h1) {q : Nat} (R : Rd h1 n T q nM) (hq : q ≤ T) : AIr h1 n t T q S := by
  obtain ⟨X, B, C, D, -⟩ := A
  have X1 := X.iq Q C.2.2.2.2.2
  have D1 := D.rd Q
  obtain ⟨I, rfl⟩ := Q.hw
  exact ⟨X1, B, R, D1, hq⟩
/-- ints from n + 2 on -/
theorem AIr.al (A : AIr h n t T p S) (Q : Iq (PN (n + 2)) h h1) {S' : PS} (D1 : ARI h1 n S') : AIr h1 n t T p S' := by
  obtain ⟨X, B, C, D, hp⟩ := A
  obtain ⟨x1, x2, x3, x4⟩ := X
  obtain ⟨c1, c2, c3, c4, c5, c6⟩ := C
  have e : ∀ a i, a < n + 2 → hI h1 a i = hI h a i := fun a i ha => Q.I (by unfold PN; exact decide_eq_false (by omega))
  obtain ⟨I, rfl⟩ := Q.hw
  exact ⟨⟨x1, x2, x3, fun i hi => ⟨(x4 i hi).1, (e 21 i (by omega)).trans (x4 i hi).2⟩⟩, B, ⟨c1, c2, (e n 1 (by omega)).trans c3, (e n 2 (by omega)).trans c4, (e n 3 (by omega)).trans c5, c6⟩, D1, hp⟩
theorem PN_le {m : Nat} (hm : n ≤ m) (Q : Iq (PN m) h h1) : Iq (PN n) h h1 := Q.mono fun a i ha => by
  unfold PN at ha ⊢
  have := of_decide_eq_false ha
  exact decide_eq_false (by omega)
theorem AR_isPlace_ok (X : Tx h1 t T) : c_AR_isPlace d (lk t T p) h = some (h, bi (plc t T p)) := by
  refine (e_AR_isPlace _ _ _).trans ?_
  unfold plc lk
  by_cases q : p < T
  · have tl := (X.2.2.2 p q).1
    rw [if_pos q]
    by_cases q1 : t p = 48
    · rw [decide_eq_true ⟨q, Or.inl q1⟩, q1]
      exact if_pos rfl
    · refine (if_neg (show ¬ nI _ = nI 48 by rw [q_eq_f q1 (by omega) (by omega)]; exact not_false)).trans ?_
      by_cases q2 : t p = 49
      · rw [decide_eq_true ⟨q, Or.inr q2⟩, q2]
        exact if_neg (fun z => z rfl)
      · rw [decide_eq_false (by omega)]
        exact if_pos (show ¬ nI _ = nI 49 by rw [q_eq_f q2 (by omega) (by omega)]; exact not_false)
  · rw [if_neg q, decide_eq_false (by omega)]
    refine (if_neg (by decide)).trans ?_
    exact if_pos (by decide)
theorem Al_addPlace_full (A : ARS h n) (D : ARI h n S) (hN : yN S = 12) {x : Int32} : c_Al_addPlace d (some (n + 2)) x h = some h := by
  obtain ⟨⟨a1, a2, a3, a4⟩, -⟩ := A
  refine (e_Al_addPlace _ _ _ _).trans ?_
  refine (if_pos a4).trans ?_
  refine (if_pos a4).trans ?_
  refine if_pos ?_
  rw [D.1.2.2.1, hN]
  decide
theorem Al_addPlace_ok (w : PWr S) (hk : 0 < yK S) (hN12 : yN S < 12) (A : ARS h n) (D : ARI h n S) (o : Bool) : ∃ h', c_Al_addPlace d (some (n + 2)) (bi o) h = some h' ∧ ARI h' n (yAdd S o) ∧ Iq (PN (n + 2)) h h' := by
  obtain ⟨⟨a1, a2, a3, a4⟩, ⟨r8, r9, r10, r11, r12, r13, r16⟩, ⟨k3, k4, k5, k6, k7, k8, k11⟩, ⟨n3, n4, n5, n6, n7, n8, n11⟩⟩ := A
  obtain ⟨⟨d0, d1, d2, d3, d4, d5, d6, d7⟩, d8, d9⟩ := id D
  have w2 := w.2.1
  have w3 := w.2.2.1 (yK S - 1) (by omega)
  have e3 : hI h (n + 2) 3 - (1 : Int32) = nI (yK S - 1) := by rw [d3, l1, q_sub (by omega)]
  have hz := (d9 (yK S - 1) (by omega)).2.1
  have fin : ∀ M : Nat, M = yM (yAdd S o) → ARI (wI (wI (wI (wI h (n + 3) (yN S) (nI (yK S - 1))) (n + 5) (yK S - 1) (nI (yZ S (yK S - 1) + 1))) (n + 2) 1 (nI M)) (n + 2) 2 (nI (yN S + 1))) n (yAdd S o) := by
    intro M hM
    refine ⟨⟨?_, ?_, ?_, ?_, ?_, ?_, ?_, ?_⟩, fun p hp => ?_, fun r hr => ⟨?_, ?_, ?_⟩⟩
    · rw [hI_ni (by omega), hI_ni (by omega), hI_na (by omega), hI_na (by omega)]; exact d0
    · rw [hI_ni (by omega), hI_se, hM]
    · rw [hI_se]; rfl
    · rw [hI_ni (by omega), hI_ni (by omega), hI_na (by omega), hI_na (by omega)]; exact d3
    · rw [hI_ni (by omega), hI_ni (by omega), hI_na (by omega), hI_na (by omega)]; exact d4
    · rw [hI_ni (by omega), hI_ni (by omega), hI_na (by omega), hI_na (by omega)]; exact d5
    · rw [hI_ni (by omega), hI_ni (by omega), hI_na (by omega), hI_na (by omega)]; exact d6
    · rw [hI_ni (by omega), hI_ni (by omega), hI_na (by omega), hI_na (by omega)]; exact d7
    · have hp : p < yN S + 1 := hp
      rw [hI_na (by omega), hI_na (by omega), hI_na (by omega), aRow_add]
      by_cases q : p = yN S
      · rw [q, hI_se, aRow_new w hk]
      · rw [hI_ni q]; exact d8 p (by omega)
    · rw [hI_na (by omega), hI_na (by omega), hI_na (by omega), hI_na (by omega)]; exact (d9 r hr).1
    · rw [hI_na (by omega), hI_na (by omega)]
      show _ = nI (va_up (yZ S) (yK S - 1) (yZ S (yK S - 1) + 1) r)
      by_cases q : r = yK S - 1
      · rw [q, hI_se, va_up_self]
      · rw [hI_ni q, hI_na (by omega), va_up_ne _ _ q]; exact (d9 r hr).2.1
    · rw [hI_na (by omega), hI_na (by omega), hI_na (by omega), hI_na (by omega)]; exact (d9 r hr).2.2
  have fr : ∀ M : Nat, Iq (PN (n + 2)) h (wI (wI (wI (wI h (n + 3) (yN S) (nI (yK S - 1))) (n + 5) (yK S - 1) (nI (yZ S (yK S - 1) + 1))) (n + 2) 1 (nI M)) (n + 2) 2 (nI (yN S + 1))) := fun M => (((Iq.w _ _ (by unfold PN; exact decide_eq_true (by omega))).trans (Iq.w _ _ (by unfold PN; exact decide_eq_true (by omega)))).trans (Iq.w _ _ (by unfold PN; exact decide_eq_true (by omega)))).trans (Iq.w _ _ (by unfold PN; exact decide_eq_true (by omega)))
  refine ⟨_, ?_, fin _ rfl, fr _⟩
  refine (e_Al_addPlace _ _ _ _).trans ?_
  refine (if_pos a4).trans ?_
  refine (if_pos a4).trans ?_
  rw [d2, e3]
  refine (if_neg (show ¬ nI 12 ≤ nI (yN S) from nI_ge hN12 (by omega))).trans ?_
  refine (if_neg (nI_pos (by omega))).trans ?_
  refine (if_pos (show nI (yK S - 1) < nI 4 from nI_lt (by omega) (by omega))).trans ?_
  refine (if_pos a4).trans ?_
  refine (if_pos a4).trans ?_
  refine (bnd r8 _).trans ?_
  refine (if_pos ⟨k3, by rw [n3]; exact vp_in_nI hN12 (by omega)⟩).trans ?_
  refine (if_pos a4).trans ?_
  refine (bnd r10 _).trans ?_
  refine (if_pos ⟨Or.inl k5, show sk_in (nI (yK S - 1)) (hN h (n + 5)) by rw [n5]; exact vp_in_nI (by omega) (by omega)⟩).trans ?_
  refine (bnd r10 _).trans ?_
  refine (if_pos ⟨k5, show sk_in (nI (yK S - 1)) (hN h (n + 5)) by rw [n5]; exact vp_in_nI (by omega) (by omega)⟩).trans ?_
  refine (if_pos a4).trans ?_
  rw [q_cl (show yN S < 2 ^ 31 by omega), q_cl (show yK S - 1 < 2 ^ 31 by omega)]
  have ez : hI (wI h (n + 3) (yN S) (nI (yK S - 1))) (n + 5) (yK S - 1) + (1 : Int32) = nI (yZ S (yK S - 1) + 1) := by rw [hI_na (by omega), hz, nI_1]
  have e1' : ∀ v : Int32, hI (wI (wI h (n + 3) (yN S) (nI (yK S - 1))) (n + 5) (yK S - 1) v) (n + 2) 1 = nI (yM S) := fun v => by rw [hI_na (by omega), hI_na (by omega)]; exact d1
  have e2' : ∀ v u : Int32, hI (wI (wI (wI h (n + 3) (yN S) (nI (yK S - 1))) (n + 5) (yK S - 1) v) (n + 2) 1 u) (n + 2) 2 = nI (yN S) := fun v u => by rw [hI_ni (by omega), hI_na (by omega), hI_na (by omega)]; exact d2
  have e2'' : ∀ v : Int32, hI (wI (wI h (n + 3) (yN S) (nI (yK S - 1))) (n + 5) (yK S - 1) v) (n + 2) 2 = nI (yN S) := fun v => by rw [hI_na (by omega), hI_na (by omega)]; exact d2
  cases o
  · refine (if_pos rfl).trans ?_
    refine (if_pos a4).trans ?_
    refine (if_pos a4).trans ?_
    refine (if_pos a4).trans ?_
    rw [ez, e1', show (0 : Int32) = nI 0 from rfl, nI_or, Nat.or_zero, e2', nI_1]
    rfl
  · refine (if_neg (by decide)).trans ?_
    refine (if_pos a4).trans ?_
    refine (if_pos a4).trans ?_
    refine (if_pos a4).trans ?_
    refine (if_pos a4).trans ?_
    rw [ez, e1', e2'', nI_shl (by omega), nI_or, e2', nI_1]
    rfl
theorem PWr.add (w : PWr S) (hk : 0 < yK S) (hN : yN S < 12) (o : Bool) : PWr (yAdd S o) := by
  obtain ⟨w1, w2, w3, w4, w5, w6, w7, w8, w9⟩ := w
  refine ⟨show yN S + 1 ≤ 12 by omega, w2, fun r hr => ?_, fun r hr => ?_, ?_, w6, w7, w8, fun q => absurd (show yK S = 0 from q) (by omega)⟩
  · show yT S r + va_up (yZ S) (yK S - 1) (yZ S (yK S - 1) + 1) r ≤ yN S + 1
    have := w3 r hr
    by_cases q : r = yK S - 1
    · rw [q, va_up_self]; rw [q] at this; omega
    · rw [va_up_ne _ _ q]; omega
  · have hr : yK S ≤ r := hr
    refine ⟨?_, (w4 r hr).2⟩
    show va_up (yZ S) (yK S - 1) (yZ S (yK S - 1) + 1) r = 0
    rw [va_up_ne _ _ (by omega)]
    exact (w4 r hr).1
  · show (if o = true then yM S ||| 1 <<< yN S else yM S) < 2 ^ (yN S + 1)
    have h2 : 2 ^ yN S ≤ 2 ^ (yN S + 1) := Nat.pow_le_pow_right (by omega) (by omega)
    cases o
    · exact Nat.lt_of_lt_of_le w5 h2
    · rw [if_pos rfl]
      refine Nat.or_lt_two_pow (Nat.lt_of_lt_of_le w5 h2) ?_
      rw [Nat.one_shiftLeft]
      exact Nat.pow_lt_pow_right (by omega) (by omega)
theorem AR_row_77_f (A : ARS h n) (R : Rd h n T p f) (hf : f ≠ nM) {c : Int32} : k_AR_readRow_77 d (some (n + 1)) c h = some h := by
  obtain ⟨⟨a1, a2, a3, a4⟩, -⟩ := A
  have so := Re_sound_ok (d := d) R
  rw [decide_eq_false hf] at so
  refine (e_AR_readRow_77 _ _ _ _).trans ?_
  by_cases q : (400 : Int32) ≤ c
  · exact if_pos q
  refine (if_neg q).trans ?_
  refine (if_pos a1).trans ?_
  refine (bnd a2 _).trans ?_
  refine (if_pos R.1).trans ?_
  rw [a2]
  refine (bnd so _).trans ?_
  exact if_pos rfl
/-- a place is added and the reader goes on -/
theorem AR_row_134_ok (A : ARS h n) (X : Tx h t T) (R : Rd h n T p f) (hp : p < T) {c : Int32} {h2 : sk_H} (e : c_Al_addPlace d (some (n + 2)) (bi (decide (t p = 49))) h = some h2) (Q : Iq (PN (n + 2)) h h2) : k_AR_readRow_134 d (some (n + 1)) c h = k_AR_readRow_77 d (some (n + 1)) (c + 1) (wI h2 n 2 (nI (p + 1))) := by
  obtain ⟨⟨a1, a2, a3, a4⟩, -⟩ := A
  have lo := Re_look_ok (d := d) X R (by omega)
  rw [lk_lt hp] at lo
  have tl := (X.2.2.2 p hp).1
  have e8 : hI h2 n 2 = nI p := (Q.I (by unfold PN; exact decide_eq_false (by omega))).trans R.2.2.2.1
  have r1 := R.1
  obtain ⟨I, rfl⟩ := Q.hw
  refine (e_AR_readRow_134 _ _ _ _).trans ?_
  refine (if_pos a1).trans ?_
  refine (if_pos a1).trans ?_
  refine (bnd a2 _).trans ?_
  refine (if_pos r1).trans ?_
  rw [a2, a3]
  refine (bnd lo _).trans ?_
  by_cases q : t p = 49
  · rw [decide_eq_true q] at e
    refine (if_neg (fun z => z (show nI (t p) = nI 49 by rw [q]))).trans ?_
    refine (bnd rfl _).trans ?_
    refine (if_pos a4).trans ?_
    refine (bnd e _).trans ?_
    refine (if_pos a1).trans ?_
    refine (bnd a2 _).trans ?_
    refine (if_pos r1).trans ?_
    refine (bnd a2 _).trans ?_
    refine (if_pos r1).trans ?_
    show k_AR_readRow_77 d (some (n + 1)) (c + 1) (wI (hw h I) n 2 (hI (hw h I) n 2 + 1)) = _
    rw [e8, nI_1]
  · rw [decide_eq_false q] at e
    refine (if_pos (show ¬ nI (t p) = nI 49 by rw [q_eq_f q (by omega) (by omega)]; exact not_false)).trans ?_
    refine (bnd rfl _).trans ?_
    refine (if_pos a4).trans ?_
    refine (bnd e _).trans ?_
    refine (if_pos a1).trans ?_
    refine (bnd a2 _).trans ?_
    refine (if_pos r1).trans ?_
    refine (bnd a2 _).trans ?_
    refine (if_pos r1).trans ?_
    show k_AR_readRow_77 d (some (n + 1)) (c + 1) (wI (hw h I) n 2 (hI (hw h I) n 2 + 1)) = _
    rw [e8, nI_1]
theorem PRd_w2 {v : Int32} : Iq (PRd n) h (wI h n 2 v) := Iq.w h v (by unfold PRd; simp)
theorem Rd.w2 (R : Rd h n T p f) {q : Nat} : Rd (wI h n 2 (nI q)) n T q f := by
  obtain ⟨k, r, i1, i2, i3, hb⟩ := R
  exact ⟨k, r, by rw [hI_ni (by omega)]; exact i1, hI_se, by rw [hI_ni (by omega)]; exact i3, hb⟩
theorem AR_row_77_ok : ∀ (m p i : Nat) (S : PS) (h : sk_H), p + m = T → i ≤ p → PWr S → 0 < yK S → AIr h n t T p S → ∃ h', k_AR_readRow_77 d (some (n + 1)) (nI i) h = some h' ∧ CRs h h' n t T (yRL t T m p S)
  | m, p, i, S, h, hm, hi, w, hk, A => by
    obtain ⟨X, B, R, D, hp⟩ := id A
    obtain ⟨⟨a1, a2, a3, a4⟩, -⟩ := id B
    have x3 := X.2.2.1
    have so := Re_sound_ok (d := d) R
    rw [decide_eq_true rfl] at so
    have lo := Re_look_ok (d := d) X R hp
    have ip := AR_isPlace_ok (d := d) (h := h) (p := p) X
    by_cases q : plc t T p = true
    · have q' := of_decide_eq_true q
      cases m with
      | zero => exact absurd q'.1 (by omega)
      | succ m =>
        have pre : ∀ o, (if hI h (n + 2) 2 < (12 : Int32) then k_AR_readRow_134 d (some (n + 1)) (nI i) h else if hK h (n + 1) = 3 then if hK h (n + 1) = 3 then Option.bind (hR h (n + 1) 0) fun a5 => if hK h a5 = 6 then Option.bind (hR h (n + 1) 0) fun a7 => if hK h a7 = 6 then Option.bind (c_Re_refuse d (hR h (n + 1) 0) (hI h a5 2) (3 : Int32) h) fun q6 => k_AR_readRow_134 d (some (n + 1)) (nI i) q6 else none else none else none else none) = o → k_AR_readRow_77 d (some (n + 1)) (nI i) h = o := by
          intro o ho
          rw [← ho]
          refine (e_AR_readRow_77 _ _ _ _).trans ?_
          refine (if_neg (show ¬ nI 400 ≤ nI i from nI_ge (by omega) (by omega))).trans ?_
          refine (if_pos a1).trans ?_
          refine (bnd a2 _).trans ?_
          refine (if_pos R.1).trans ?_
          refine (bnd (show c_Re_sound d (hR h (n + 1) 0) h = _ by rw [a2]; exact so) _).trans ?_
          refine (if_neg nb1).trans ?_
          refine (if_pos a1).trans ?_
          refine (bnd a2 _).trans ?_
          refine (if_pos R.1).trans ?_
          refine (bnd (show c_Re_look d (hR h (n + 1) 0) h = _ by rw [a2]; exact lo) _).trans ?_
          refine (bnd ip _).trans ?_
          refine (if_neg (show ¬ bi (plc t T p) = 0 by rw [q]; decide)).trans ?_
          refine (if_pos a1).trans ?_
          refine (bnd a3 _).trans ?_
          exact (if_pos a4).trans rfl
        rw [D.1.2.2.1] at pre
        show ∃ h', k_AR_readRow_77 d (some (n + 1)) (nI i) h = some h' ∧ CRs h h' n t T (if plc t T p = true then (if yN S = 12 then .inl (1 + 8 * p + 3) else yRL t T m (p + 1) (yAdd S (decide (t p = 49)))) else .inr (p, S))
        rw [if_pos q]
        by_cases q12 : yN S = 12
        · rw [if_pos q12]
          obtain ⟨h1, e1, e2, e3⟩ := Re_refuse_ok (d := d) R (q := p) (k := 3)
          rw [if_pos rfl] at e2
          have X1 := X.iq e3 R.2.2.2.2.2
          have D1 := D.rd e3
          have fu := Al_addPlace_full (d := d) (h := h1) (n := n) (S := S) (x := bi (decide (t p = 49))) (by obtain ⟨I, rfl⟩ := e3.hw; exact B) D1 q12
          have B1 : ARS h1 n := by obtain ⟨I, rfl⟩ := e3.hw; exact B
          have st := AR_row_134_ok (d := d) (c := nI i) B1 X1 e2 q'.1 fu (Iq.refl h1)
          have en := AR_row_77_f (d := d) (c := nI i + 1) (h := wI h1 n 2 (nI (p + 1))) B1 e2.w2 (fne (by omega))
          refine ⟨_, pre _ ?_, PN_of (e3.trans PRd_w2), Or.inr ⟨_, p + 1, rfl, e2.w2, by omega⟩⟩
          refine (if_neg (show ¬ nI (yN S) < nI 12 from nI_nlt (by omega) (by omega))).trans ?_
          refine (if_pos a1).trans ?_
          refine (if_pos a1).trans ?_
          refine (bnd a2 _).trans ?_
          refine (if_pos R.1).trans ?_
          refine (bnd a2 _).trans ?_
          refine (if_pos R.1).trans ?_
          refine (bnd (show c_Re_refuse d (hR h (n + 1) 0) (hI h n 2) (3 : Int32) h = _ by rw [a2, R.2.2.2.1]; exact e1) _).trans ?_
          exact st.trans en
        · rw [if_neg q12]
          have w1 := w.1
          obtain ⟨h1, e1, e2, e3⟩ := Al_addPlace_ok (d := d) w hk (by omega) B D (decide (t p = 49))
          have st := AR_row_134_ok (d := d) (c := nI i) B X R q'.1 e1 e3
          have A1 := A.al e3 e2
          have A2 := A1.rd (PRd_w2 (v := nI (p + 1))) A1.2.2.1.w2 (by omega)
          obtain ⟨h', g1, g2, g3⟩ := AR_row_77_ok m (p + 1) (i + 1) (yAdd S (decide (t p = 49))) (wI h1 n 2 (nI (p + 1))) (by omega) (by omega) (w.add hk (by omega) _) hk A2
          refine ⟨h', pre _ ?_, ((PN_le (by omega) e3).trans (PN_of PRd_w2)).trans g2, g3⟩
          refine (if_pos (show nI (yN S) < nI 12 from nI_lt (by omega) (by omega))).trans ?_
          exact st.trans (by rw [nI_1]; exact g1)
    · have q : plc t T p = false := by simpa using q
      have en : yRL t T m p S = .inr (p, S) := by
        cases m with
        | zero => rfl
        | succ m =>
          show (if plc t T p = true then _ else _) = _
          exact if_neg (by rw [q]; decide)
      rw [en]
      refine ⟨h, ?_, Iq.refl h, Or.inl ⟨p, S, rfl, A⟩⟩
      refine (e_AR_readRow_77 _ _ _ _).trans ?_
      by_cases q4 : (400 : Int32) ≤ nI i
      · exact if_pos q4
      refine (if_neg q4).trans ?_
      refine (if_pos a1).trans ?_
      refine (bnd a2 _).trans ?_
      refine (if_pos R.1).trans ?_
      refine (bnd (show c_Re_sound d (hR h (n + 1) 0) h = _ by rw [a2]; exact so) _).trans ?_
      refine (if_neg nb1).trans ?_
      refine (if_pos a1).trans ?_
      refine (bnd a2 _).trans ?_
      refine (if_pos R.1).trans ?_
      refine (bnd (show c_Re_look d (hR h (n + 1) 0) h = _ by rw [a2]; exact lo) _).trans ?_
      refine (bnd ip _).trans ?_
      exact if_pos (show bi (plc t T p) = 0 by rw [q]; rfl)
end SkAlleyp
