/-! ===== the reference reads an alley's clause (printed by gen94.py) ===== -/
def PMA (a i : Nat) : Bool := (a == 52 && decide (8 ≤ i ∧ i ≤ 14)) || a == 58
def MAI (h : sk_H) (fl ln kk : Nat) (S : PS) : Prop := (hI h 52 11 = nI 6 ∧ hI h 52 14 = nI ln) ∧ (hI h 58 0 = nI fl ∧ hI h 58 1 = nI (yN S) ∧ hI h 58 2 = nI kk ∧ hI h 58 3 = nI (yH S) ∧ hI h 58 4 = bi (yE S) ∧ hI h 58 5 = bi (yL S) ∧ hI h 58 6 = nI (yS S) ∧ hI h 58 7 = nI (yF S) ∧ hI h 58 8 = nI (yM S)) ∧ (∀ j, 9 ≤ j → j ≤ 11 → hI h 58 j = nI 0) ∧ ∀ r, r < 4 → hI h 58 (12 + r) = nI (yT S r) ∧ hI h 58 (16 + r) = nI (yZ S r) ∧ hI h 58 (20 + r) = bi (yR S r)
/-- how the reference answers -/
def MRs (h h' : sk_H) (t : Nat → Nat) (T ln : Nat) (r : Nat ⊕ (Nat × PS)) (v : Int32) : Prop := Iq PMA h h' ∧ ((∃ p S, r = .inr (p, S) ∧ v = 1 ∧ Mr h' t T p ∧ MAI h' 1 ln (yK S) S) ∨ (v = 0 ∧ ∃ g, hI h' 52 9 = nI g ∧ 0 < g ∧ g < 10000 ∧ (r = .inl g ∨ ∃ p S, r = .inr (p, S) ∧ gO t T p = .inl g)))
theorem cl0 : (0 : Int32).toNatClampNeg = 0 := rfl
theorem cl1 : (1 : Int32).toNatClampNeg = 1 := rfl
theorem cl2 : (2 : Int32).toNatClampNeg = 2 := rfl
theorem cl3 : (3 : Int32).toNatClampNeg = 3 := rfl
theorem cl4 : (4 : Int32).toNatClampNeg = 4 := rfl
theorem cl5 : (5 : Int32).toNatClampNeg = 5 := rfl
theorem cl6 : (6 : Int32).toNatClampNeg = 6 := rfl
theorem cl7 : (7 : Int32).toNatClampNeg = 7 := rfl
theorem cl8 : (8 : Int32).toNatClampNeg = 8 := rfl
section SkMalley
variable {h h' h1 h2 : sk_H} {t : Nat → Nat} {T p q n d fl ln kk : Nat} {S : PS}
theorem in58 (M : MS 52 h) (hn : n < 24) : sk_in (nI n) (hN h 58) := by rw [M.N58]; exact vp_in_nI hn (by omega)
theorem PF_PMA {a i : Nat} (hP : PMA a i = false) : PF a i = false := by
  unfold PMA at hP
  unfold PF
  rw [Bool.or_eq_false_iff] at hP
  cases ha : a == 52
  · rfl
  · have h1 := hP.1
    rw [ha, Bool.true_and] at h1
    have h2 := of_decide_eq_false h1
    rw [Bool.true_and]
    simp only [Bool.or_eq_false_iff, beq_eq_false_iff_ne]
    omega
theorem Iq.pma (Q : Iq PF h h1) : Iq PMA h h1 := Q.mono fun _ _ => PF_PMA
theorem PMA_58 {i : Nat} {v : Int32} : Iq PMA h (wI h 58 i v) := Iq.w h v rfl
theorem PMA_52 {i : Nat} {v : Int32} (h1 : 8 ≤ i) (h2 : i ≤ 14) : Iq PMA h (wI h 52 i v) := Iq.w h v (by unfold PMA; rw [decide_eq_true ⟨h1, h2⟩]; rfl)
theorem MAI.pf (A : MAI h fl ln kk S) (Q : Iq PF h h1) : MAI h1 fl ln kk S := by
  have e : hI h1 58 = hI h 58 := funext fun i => Q.I rfl
  obtain ⟨⟨b1, b2⟩, r⟩ := A
  refine ⟨⟨(Q.I rfl).trans b1, (Q.I rfl).trans b2⟩, ?_⟩
  rw [e]
  exact r
theorem Mr.w58 (R : Mr h t T p) {i : Nat} {v : Int32} : Mr (wI h 58 i v) t T p := by
  obtain ⟨M, r1, r2, r3, r4, r5, r6⟩ := R
  exact ⟨M, r1, fun i hi => ⟨(r2 i hi).1, by rw [hI_na (by omega)]; exact (r2 i hi).2⟩, by rw [hI_na (by omega)]; exact r3, by rw [hI_na (by omega)]; exact r4, by rw [hI_na (by omega)]; exact r5, r6⟩
theorem nmR_g {l u g : Nat} (hp : p ≤ T) (hT : T ≤ 400) (e : nmR t T p l u = .inl g) : 0 < g ∧ g < 10000 := by
  refine ⟨?_, nmR_lt hp hT e⟩
  unfold nmR at e
  by_cases q1 : dgt t T (nxt t T p) = true
  · rw [if_pos q1] at e
    by_cases q2 : dgE t T (nxt t T p) ≤ nxt t T p + 5 ∧ l ≤ nv 0 0 (dl t T (nxt t T p)) ∧ nv 0 0 (dl t T (nxt t T p)) < u
    · rw [if_pos q2] at e; cases e
    · rw [if_neg q2] at e
      have := Sum.inl.inj e
      omega
  · rw [if_neg q1] at e
    have := Sum.inl.inj e
    omega
theorem M_see_same (R : Mr h t T q) (hq : nxt t T q = q) : c_M_see d (some 52) h = some (h, lk t T q) := by
  obtain ⟨M, r1, r2, r3, r4, r5, r6⟩ := id R
  refine (e_M_see _ _ _).trans ?_
  refine (if_pos M.K52).trans ?_
  refine (if_pos M.K52).trans ?_
  rw [r3]
  by_cases z : q < T
  · have h32 : t q ≠ 32 := by
      have := nxt_nb (t := t) (T := T) (p := q) (by rw [hq]; exact z)
      rw [hq] at this
      exact this
    have xp := r2 q z
    refine (if_neg (show ¬ nI T ≤ hI h 52 8 by rw [r4]; exact nI_ge z (by omega))).trans ?_
    refine (if_pos M.K52).trans ?_
    refine (if_pos M.K52).trans ?_
    refine (bnd M.R0 _).trans ?_
    refine (if_pos ⟨Or.inr (Or.inl M.K53), by rw [r4, M.N53]; exact vp_in_nI (by omega) (by omega)⟩).trans ?_
    refine (if_pos (show ¬ hI h 53 (hI h 52 8).toNatClampNeg = nI 32 from ?_)).trans (M_see38_ok R)
    rw [r4, q_cl (by omega), xp.2, sx_eq xp.1 (by omega)]
    exact h32
  · refine (if_pos (show nI T ≤ hI h 52 8 by rw [r4]; exact nI_le (by omega) (by omega))).trans ?_
    exact M_see38_ok R
theorem M_isWord_same {x1 : Int64} {w : List Nat} (R : Mr h t T q) (hq : nxt t T q = q) (hw : ∀ x ∈ w, 97 ≤ x ∧ x ≤ 122) (h0 : 0 < w.length) (h9 : w.length < 9) (hx : x1 = nL (pkA 0 w)) : c_M_isWord d (some 52) x1 h = some (h, bi (decide (wdl t T q = w))) := by
  have hwE := (wE_le (t := t) R.2.2.2.2.2.2).2
  refine (e_M_isWord _ _ _ _).trans ?_
  refine (if_pos R.1.K52).trans ?_
  refine (bnd (M_see_same R hq) _).trans ?_
  refine (M_isWord_in R (wdl t T q) 0 0 rfl hwE).trans ?_
  have := pk_word (l := wdl t T q) (wdF_ltr _ _) hw h0 h9
  simp only [Nat.zero_add, hx, this]
theorem MAI.f3 (A : MAI h fl ln kk S) (v : Nat) : MAI (wI h 58 3 (nI (yH S ||| 1 <<< (v - 1)))) fl ln kk (yHit S v) := by
  obtain ⟨⟨b1, b2⟩, ⟨a0, a1, a2, a3, a4, a5, a6, a7, a8⟩, a9, a10⟩ := A
  exact ⟨⟨by rw [hI_na (by omega)]; exact b1, by rw [hI_na (by omega)]; exact b2⟩, ⟨by rw [hI_ni (by omega)]; exact a0, by rw [hI_ni (by omega)]; exact a1, by rw [hI_ni (by omega)]; exact a2, by rw [hI_se] <;> rfl, by rw [hI_ni (by omega)]; exact a4, by rw [hI_ni (by omega)]; exact a5, by rw [hI_ni (by omega)]; exact a6, by rw [hI_ni (by omega)]; exact a7, by rw [hI_ni (by omega)]; exact a8⟩, fun j h1 h2 => by rw [hI_ni (by omega)]; exact a9 j h1 h2, fun r hr => ⟨by rw [hI_ni (by omega)]; exact (a10 r hr).1, by rw [hI_ni (by omega)]; exact (a10 r hr).2.1, by rw [hI_ni (by omega)]; exact (a10 r hr).2.2⟩⟩
theorem MAI.f4 (A : MAI h fl ln kk S) : MAI (wI h 58 4 (1 : Int32)) fl ln kk (yEnds S) := by
  obtain ⟨⟨b1, b2⟩, ⟨a0, a1, a2, a3, a4, a5, a6, a7, a8⟩, a9, a10⟩ := A
  exact ⟨⟨by rw [hI_na (by omega)]; exact b1, by rw [hI_na (by omega)]; exact b2⟩, ⟨by rw [hI_ni (by omega)]; exact a0, by rw [hI_ni (by omega)]; exact a1, by rw [hI_ni (by omega)]; exact a2, by rw [hI_ni (by omega)]; exact a3, by rw [hI_se] <;> rfl, by rw [hI_ni (by omega)]; exact a5, by rw [hI_ni (by omega)]; exact a6, by rw [hI_ni (by omega)]; exact a7, by rw [hI_ni (by omega)]; exact a8⟩, fun j h1 h2 => by rw [hI_ni (by omega)]; exact a9 j h1 h2, fun r hr => ⟨by rw [hI_ni (by omega)]; exact (a10 r hr).1, by rw [hI_ni (by omega)]; exact (a10 r hr).2.1, by rw [hI_ni (by omega)]; exact (a10 r hr).2.2⟩⟩
theorem MAI.f5 (A : MAI h fl ln kk S) : MAI (wI h 58 5 (1 : Int32)) fl ln kk (yLast S) := by
  obtain ⟨⟨b1, b2⟩, ⟨a0, a1, a2, a3, a4, a5, a6, a7, a8⟩, a9, a10⟩ := A
  exact ⟨⟨by rw [hI_na (by omega)]; exact b1, by rw [hI_na (by omega)]; exact b2⟩, ⟨by rw [hI_ni (by omega)]; exact a0, by rw [hI_ni (by omega)]; exact a1, by rw [hI_ni (by omega)]; exact a2, by rw [hI_ni (by omega)]; exact a3, by rw [hI_ni (by omega)]; exact a4, by rw [hI_se] <;> rfl, by rw [hI_ni (by omega)]; exact a6, by rw [hI_ni (by omega)]; exact a7, by rw [hI_ni (by omega)]; exact a8⟩, fun j h1 h2 => by rw [hI_ni (by omega)]; exact a9 j h1 h2, fun r hr => ⟨by rw [hI_ni (by omega)]; exact (a10 r hr).1, by rw [hI_ni (by omega)]; exact (a10 r hr).2.1, by rw [hI_ni (by omega)]; exact (a10 r hr).2.2⟩⟩
theorem MAI.f6 (A : MAI h fl ln kk S) (v : Nat) : MAI (wI h 58 6 (nI v)) fl ln kk (yStr S v) := by
  obtain ⟨⟨b1, b2⟩, ⟨a0, a1, a2, a3, a4, a5, a6, a7, a8⟩, a9, a10⟩ := A
  exact ⟨⟨by rw [hI_na (by omega)]; exact b1, by rw [hI_na (by omega)]; exact b2⟩, ⟨by rw [hI_ni (by omega)]; exact a0, by rw [hI_ni (by omega)]; exact a1, by rw [hI_ni (by omega)]; exact a2, by rw [hI_ni (by omega)]; exact a3, by rw [hI_ni (by omega)]; exact a4, by rw [hI_ni (by omega)]; exact a5, by rw [hI_se] <;> rfl, by rw [hI_ni (by omega)]; exact a7, by rw [hI_ni (by omega)]; exact a8⟩, fun j h1 h2 => by rw [hI_ni (by omega)]; exact a9 j h1 h2, fun r hr => ⟨by rw [hI_ni (by omega)]; exact (a10 r hr).1, by rw [hI_ni (by omega)]; exact (a10 r hr).2.1, by rw [hI_ni (by omega)]; exact (a10 r hr).2.2⟩⟩
theorem MAI.f70 (A : MAI h fl ln kk S) (v : Nat) : MAI (wI (wI h 58 7 (nI v)) 58 0 (1 : Int32)) 1 ln kk (yFst S v) := by
  obtain ⟨⟨b1, b2⟩, ⟨a0, a1, a2, a3, a4, a5, a6, a7, a8⟩, a9, a10⟩ := A
  exact ⟨⟨by rw [hI_na (by omega), hI_na (by omega)]; exact b1, by rw [hI_na (by omega), hI_na (by omega)]; exact b2⟩, ⟨by rw [hI_se] <;> rfl, by rw [hI_ni (by omega), hI_ni (by omega)]; exact a1, by rw [hI_ni (by omega), hI_ni (by omega)]; exact a2, by rw [hI_ni (by omega), hI_ni (by omega)]; exact a3, by rw [hI_ni (by omega), hI_ni (by omega)]; exact a4, by rw [hI_ni (by omega), hI_ni (by omega)]; exact a5, by rw [hI_ni (by omega), hI_ni (by omega)]; exact a6, by rw [hI_ni (by omega), hI_se] <;> rfl, by rw [hI_ni (by omega), hI_ni (by omega)]; exact a8⟩, fun j h1 h2 => by rw [hI_ni (by omega), hI_ni (by omega)]; exact a9 j h1 h2, fun r hr => ⟨by rw [hI_ni (by omega), hI_ni (by omega)]; exact (a10 r hr).1, by rw [hI_ni (by omega), hI_ni (by omega)]; exact (a10 r hr).2.1, by rw [hI_ni (by omega), hI_ni (by omega)]; exact (a10 r hr).2.2⟩⟩
theorem MAI.f2 (A : MAI h fl ln kk S) (k : Nat) : MAI (wI h 58 2 (nI k)) fl ln k S := by
  obtain ⟨⟨b1, b2⟩, ⟨a0, a1, a2, a3, a4, a5, a6, a7, a8⟩, a9, a10⟩ := A
  exact ⟨⟨by rw [hI_na (by omega)]; exact b1, by rw [hI_na (by omega)]; exact b2⟩, ⟨by rw [hI_ni (by omega)]; exact a0, by rw [hI_ni (by omega)]; exact a1, by rw [hI_se] <;> rfl, by rw [hI_ni (by omega)]; exact a3, by rw [hI_ni (by omega)]; exact a4, by rw [hI_ni (by omega)]; exact a5, by rw [hI_ni (by omega)]; exact a6, by rw [hI_ni (by omega)]; exact a7, by rw [hI_ni (by omega)]; exact a8⟩, fun j h1 h2 => by rw [hI_ni (by omega)]; exact a9 j h1 h2, fun r hr => ⟨by rw [hI_ni (by omega)]; exact (a10 r hr).1, by rw [hI_ni (by omega)]; exact (a10 r hr).2.1, by rw [hI_ni (by omega)]; exact (a10 r hr).2.2⟩⟩
theorem MAI.ring (A : MAI h fl ln kk S) {v : Nat} (hv : v < 4) : MAI (wI h 58 (20 + v) 1) fl ln kk (yRing S v) := by
  obtain ⟨⟨b1, b2⟩, ⟨a0, a1, a2, a3, a4, a5, a6, a7, a8⟩, a9, a10⟩ := A
  refine ⟨⟨by rw [hI_na (by omega)]; exact b1, by rw [hI_na (by omega)]; exact b2⟩, ⟨by rw [hI_ni (by omega)]; exact a0, by rw [hI_ni (by omega)]; exact a1, by rw [hI_ni (by omega)]; exact a2, by rw [hI_ni (by omega)]; exact a3, by rw [hI_ni (by omega)]; exact a4, by rw [hI_ni (by omega)]; exact a5, by rw [hI_ni (by omega)]; exact a6, by rw [hI_ni (by omega)]; exact a7, by rw [hI_ni (by omega)]; exact a8⟩, fun j h1 h2 => by rw [hI_ni (by omega)]; exact a9 j h1 h2, fun r hr => ⟨by rw [hI_ni (by omega)]; exact (a10 r hr).1, by rw [hI_ni (by omega)]; exact (a10 r hr).2.1, ?_⟩⟩
  show _ = bi (va_up (yR S) v true r)
  by_cases y : r = v
  · rw [y, hI_se, va_up_self]; rfl
  · rw [hI_ni (by omega), va_up_ne _ _ y]; exact (a10 r hr).2.2
theorem M_fail_rs (R : Mr h t T p) {k : Nat} (hk : k ≤ 7) {g q : Nat} (hq : q ≤ 400) {r : Nat ⊕ (Nat × PS)} (hr : r = .inl g ∨ ∃ p S, r = .inr (p, S) ∧ gO t T p = .inl g) (hg : g = 1 + 8 * q + k) : c_M_fails d (some 52) (nI k) (nI q) h = some (wI h 52 9 (nI g), 0) ∧ MRs h (wI h 52 9 (nI g)) t T ln r 0 := by
  subst hg
  exact ⟨M_fails_ok R.1 R.2.2.2.2.2.1, PMA_52 (by omega) (by omega), Or.inr ⟨rfl, _, hI_se, by omega, by omega, hr⟩⟩
theorem MRs.pre {r : Nat ⊕ (Nat × PS)} {v : Int32} (Q : Iq PMA h h1) (r1 : MRs h1 h' t T ln r v) : MRs h h' t T ln r v := ⟨Q.trans r1.1, r1.2⟩
theorem M_hit_ok (R : Mr h t T q) (A : MAI h 1 ln (yK S) S) : ∃ h' v, c_M_isHitHere d (some 52) h = some (h', v) ∧ MRs h h' t T ln (claB t T (wE t T q) 3 S) v := by
  obtain ⟨h1, e1, e2, e3⟩ := M_passWord_ok (d := d) R
  have A1 := A.pf e3.p8F
  have M := R.1
  have x3 := R.2.1
  unfold claB
  rw [if_neg (by decide), if_neg (by decide), if_neg (by decide), if_pos rfl]
  rcases M_number_ok (d := d) (Bds.of (l := 1) (u := 4) (by omega) (by omega)) e2 with ⟨e, v, h2, g0, g1, g2, g3, g4, g5⟩ | ⟨g, h2, g0, g1, g2, g3⟩
  · rw [g0]
    have hv := nmR_in g0
    have A2 := A1.pf g4
    have i3 := A2.2.1.2.2.2.1
    refine ⟨wI h2 58 3 (nI (yH S ||| 1 <<< (v - 1))), 1, ?_, (e3.p8F.pma.trans g4.pma).trans PMA_58, Or.inl ⟨e, yHit S v, rfl, rfl, g2.w58, A2.f3 v⟩⟩
    obtain ⟨I, rfl⟩ := (e3.p8F.trans g4).hw
    obtain ⟨I1, rfl⟩ := e3.hw
    refine (e_M_isHitHere _ _ _).trans ?_
    refine (if_pos M.K52).trans ?_
    refine (bnd e1 _).trans ?_
    refine (if_pos M.K52).trans ?_
    refine (bnd g1 _).trans ?_
    refine (if_pos n10).trans ?_
    refine (if_pos M.K52).trans ?_
    refine (bnd M.R7 _).trans ?_
    refine (if_pos ⟨Or.inl M.K58, in58 M (n := 3) (by omega)⟩).trans ?_
    refine (if_pos M.K52).trans ?_
    refine (bnd M.R7 _).trans ?_
    refine (if_pos ⟨M.K58, in58 M (n := 3) (by omega)⟩).trans ?_
    show some (wI (hw h I) 58 (3 : Int32).toNatClampNeg (hI (hw h I) 58 (3 : Int32).toNatClampNeg ||| ((1 : Int32) <<< ((hI (hw h I) 52 10 - 1) &&& 31))), (1 : Int32)) = _
    rw [cl3, i3, g3, l1, q_sub (by omega), ← l1, nI_shl (by omega), nI_or]
  · rw [g0]
    obtain ⟨I1, rfl⟩ := e3.hw
    refine ⟨h2, 0, ?_, e3.p8F.pma.trans g3.pma, Or.inr ⟨rfl, g, g2, (nmR_g e2.2.2.2.2.2.2 x3 g0).1, (nmR_g e2.2.2.2.2.2.2 x3 g0).2, Or.inl rfl⟩⟩
    refine (e_M_isHitHere _ _ _).trans ?_
    refine (if_pos M.K52).trans ?_
    refine (bnd e1 _).trans ?_
    refine (if_pos M.K52).trans ?_
    refine (bnd g1 _).trans ?_
    exact if_neg (fun z => z rfl)
theorem M_stray_ok (R : Mr h t T q) (A : MAI h 1 ln (yK S) S) : ∃ h' v, c_M_isStrayHere d (some 52) h = some (h', v) ∧ MRs h h' t T ln (claB t T (wE t T q) 6 S) v := by
  obtain ⟨h1, e1, e2, e3⟩ := M_passWord_ok (d := d) R
  have A1 := A.pf e3.p8F
  have M := R.1
  have x3 := R.2.1
  unfold claB
  rw [if_neg (by decide), if_neg (by decide), if_neg (by decide), if_neg (by decide), if_neg (by decide), if_neg (by decide), ]
  rcases M_number_ok (d := d) (Bds.of (l := 0) (u := 100) (by omega) (by omega)) e2 with ⟨e, v, h2, g0, g1, g2, g3, g4, g5⟩ | ⟨g, h2, g0, g1, g2, g3⟩
  · rw [g0]
    have hv := nmR_in g0
    have A2 := A1.pf g4
    have i3 := A2.2.1.2.2.2.1
    refine ⟨wI h2 58 6 (nI v), 1, ?_, (e3.p8F.pma.trans g4.pma).trans PMA_58, Or.inl ⟨e, yStr S v, rfl, rfl, g2.w58, A2.f6 v⟩⟩
    obtain ⟨I, rfl⟩ := (e3.p8F.trans g4).hw
    obtain ⟨I1, rfl⟩ := e3.hw
    refine (e_M_isStrayHere _ _ _).trans ?_
    refine (if_pos M.K52).trans ?_
    refine (bnd e1 _).trans ?_
    refine (if_pos M.K52).trans ?_
    refine (bnd g1 _).trans ?_
    refine (if_pos n10).trans ?_
    refine (if_pos M.K52).trans ?_
    refine (if_pos M.K52).trans ?_
    refine (bnd M.R7 _).trans ?_
    refine (if_pos ⟨M.K58, in58 M (n := 6) (by omega)⟩).trans ?_
    show some (wI (hw h I) 58 (6 : Int32).toNatClampNeg (hI (hw h I) 52 10), (1 : Int32)) = _
    rw [cl6, g3]
  · rw [g0]
    obtain ⟨I1, rfl⟩ := e3.hw
    refine ⟨h2, 0, ?_, e3.p8F.pma.trans g3.pma, Or.inr ⟨rfl, g, g2, (nmR_g e2.2.2.2.2.2.2 x3 g0).1, (nmR_g e2.2.2.2.2.2.2 x3 g0).2, Or.inl rfl⟩⟩
    refine (e_M_isStrayHere _ _ _).trans ?_
    refine (if_pos M.K52).trans ?_
    refine (bnd e1 _).trans ?_
    refine (if_pos M.K52).trans ?_
    refine (bnd g1 _).trans ?_
    exact if_neg (fun z => z rfl)
theorem M_alleyw_ok (R : Mr h t T q) (A : MAI h 0 ln (yK S) S) : ∃ h' v, c_M_isAlleyHere d (some 52) (nI p) h = some (h', v) ∧ MRs h h' t T ln (claB t T (wE t T q) 0 S) v := by
  obtain ⟨h1, e1, e2, e3⟩ := M_passWord_ok (d := d) R
  have A1 := A.pf e3.p8F
  have M := R.1
  have x3 := R.2.1
  have i0 := A.2.1.1
  have i0' : hI h 58 (0 : Int32).toNatClampNeg ≤ 0 := by rw [cl0, i0]; decide
  unfold claB
  rw [if_pos rfl]
  rcases M_number_ok (d := d) (Bds.of (l := 0) (u := 1) (by omega) (by omega)) e2 with ⟨e, v, h2, g0, g1, g2, g3, g4, g5⟩ | ⟨g, h2, g0, g1, g2, g3⟩
  · rw [g0]
    have A2 := A1.pf g4
    refine ⟨wI (wI h2 58 7 (nI v)) 58 0 1, 1, ?_, ((e3.p8F.pma.trans g4.pma).trans PMA_58).trans PMA_58, Or.inl ⟨e, yFst S v, rfl, rfl, g2.w58.w58, A2.f70 v⟩⟩
    obtain ⟨I, rfl⟩ := (e3.p8F.trans g4).hw
    obtain ⟨I1, rfl⟩ := e3.hw
    refine (e_M_isAlleyHere _ _ _ _).trans ?_
    refine (if_pos M.K52).trans ?_
    refine (bnd M.R7 _).trans ?_
    refine (if_pos ⟨Or.inl M.K58, in58 M (n := 0) (by omega)⟩).trans ?_
    refine (if_pos i0').trans ?_
    refine (if_pos M.K52).trans ?_
    refine (bnd e1 _).trans ?_
    refine (if_pos M.K52).trans ?_
    refine (bnd g1 _).trans ?_
    refine (if_pos n10).trans ?_
    refine (if_pos M.K52).trans ?_
    refine (if_pos M.K52).trans ?_
    refine (bnd M.R7 _).trans ?_
    refine (if_pos ⟨M.K58, in58 M (n := 7) (by omega)⟩).trans ?_
    refine (if_pos M.K52).trans ?_
    refine (bnd M.R7 _).trans ?_
    refine (if_pos ⟨M.K58, in58 M (n := 0) (by omega)⟩).trans ?_
    show some (wI (wI (hw h I) 58 (7 : Int32).toNatClampNeg (hI (hw h I) 52 10)) 58 (0 : Int32).toNatClampNeg 1, (1 : Int32)) = _
    rw [cl7, cl0, g3]
  · rw [g0]
    obtain ⟨I1, rfl⟩ := e3.hw
    refine ⟨h2, 0, ?_, e3.p8F.pma.trans g3.pma, Or.inr ⟨rfl, g, g2, (nmR_g e2.2.2.2.2.2.2 x3 g0).1, (nmR_g e2.2.2.2.2.2.2 x3 g0).2, Or.inl rfl⟩⟩
    refine (e_M_isAlleyHere _ _ _ _).trans ?_
    refine (if_pos M.K52).trans ?_
    refine (bnd M.R7 _).trans ?_
    refine (if_pos ⟨Or.inl M.K58, in58 M (n := 0) (by omega)⟩).trans ?_
    refine (if_pos i0').trans ?_
    refine (if_pos M.K52).trans ?_
    refine (bnd e1 _).trans ?_
    refine (if_pos M.K52).trans ?_
    refine (bnd g1 _).trans ?_
    exact if_neg (fun z => z rfl)
theorem M_alleyw_no (R : Mr h t T q) (A : MAI h 1 ln kk S) (hp : p ≤ 400) {r : Nat ⊕ (Nat × PS)} (hr : r = .inl (1 + 8 * p + 4)) : ∃ h' v, c_M_isAlleyHere d (some 52) (nI p) h = some (h', v) ∧ MRs h h' t T ln r v := by
  have M := R.1
  obtain ⟨f1, f2⟩ := M_fail_rs (d := d) (ln := ln) R (k := 4) (by omega) hp (Or.inl hr) rfl
  refine ⟨_, _, ?_, f2⟩
  refine (e_M_isAlleyHere _ _ _ _).trans ?_
  refine (if_pos M.K52).trans ?_
  refine (bnd M.R7 _).trans ?_
  refine (if_pos ⟨Or.inl M.K58, in58 M (n := 0) (by omega)⟩).trans ?_
  refine (if_neg (show ¬ hI h 58 (0 : Int32).toNatClampNeg ≤ 0 by rw [cl0, A.2.1.1]; decide)).trans ?_
  refine (if_pos M.K52).trans ?_
  refine (bnd f1 _).trans ?_
  exact if_pos (Or.inl rfl)
theorem M_ends_ok (R : Mr h t T q) (A : MAI h 1 ln (yK S) S) (hp : p ≤ 400) {r : Nat ⊕ (Nat × PS)} (hr : r = if yE S = true then .inl (1 + 8 * p + 4) else claB t T (wE t T q) 4 S) : ∃ h' v, c_M_isOnceHere d (some 52) (4 : Int32) (nI p) h = some (h', v) ∧ MRs h h' t T ln r v := by
  have M := R.1
  have ib := A.2.1.2.2.2.2.1
  by_cases z : yE S = true
  · rw [if_pos z] at hr
    obtain ⟨f1, f2⟩ := M_fail_rs (d := d) (ln := ln) R (k := 4) (by omega) hp (Or.inl hr) rfl
    refine ⟨_, _, ?_, f2⟩
    refine (e_M_isOnceHere _ _ _ _ _).trans ?_
    refine (if_pos M.K52).trans ?_
    refine (bnd M.R7 _).trans ?_
    refine (if_pos ⟨Or.inl M.K58, in58 M (n := 4) (by omega)⟩).trans ?_
    refine (if_neg (show ¬ hI h 58 (4 : Int32).toNatClampNeg ≤ 0 by rw [cl4, ib, z]; decide)).trans ?_
    refine (if_pos M.K52).trans ?_
    refine (bnd f1 _).trans ?_
    exact if_pos (Or.inl rfl)
  · rw [if_neg z] at hr
    subst hr
    have z : yE S = false := by simpa using z
    obtain ⟨h1, e1, e2, e3⟩ := M_passWord_ok (d := d) R
    have A1 := A.pf e3.p8F
    refine ⟨wI h1 58 4 1, 1, ?_, e3.p8F.pma.trans PMA_58, Or.inl ⟨wE t T q, yEnds S, rfl, rfl, e2.w58, A1.f4⟩⟩
    obtain ⟨I, rfl⟩ := e3.hw
    refine (e_M_isOnceHere _ _ _ _ _).trans ?_
    refine (if_pos M.K52).trans ?_
    refine (bnd M.R7 _).trans ?_
    refine (if_pos ⟨Or.inl M.K58, in58 M (n := 4) (by omega)⟩).trans ?_
    refine (if_pos (show hI h 58 (4 : Int32).toNatClampNeg ≤ 0 by rw [cl4, ib, z]; decide)).trans ?_
    refine (if_pos M.K52).trans ?_
    refine (bnd e1 _).trans ?_
    refine (if_pos M.K52).trans ?_
    refine (bnd M.R7 _).trans ?_
    refine (if_pos ⟨M.K58, in58 M (n := 4) (by omega)⟩).trans ?_
    show some (wI (hw h I) 58 (4 : Int32).toNatClampNeg 1, (1 : Int32)) = _
    rw [cl4]
theorem M_last_ok (R : Mr h t T q) (A : MAI h 1 ln (yK S) S) (hp : p ≤ 400) {r : Nat ⊕ (Nat × PS)} (hr : r = if yL S = true then .inl (1 + 8 * p + 4) else claB t T (wE t T q) 5 S) : ∃ h' v, c_M_isOnceHere d (some 52) (5 : Int32) (nI p) h = some (h', v) ∧ MRs h h' t T ln r v := by
  have M := R.1
  have ib := A.2.1.2.2.2.2.2.1
  by_cases z : yL S = true
  · rw [if_pos z] at hr
    obtain ⟨f1, f2⟩ := M_fail_rs (d := d) (ln := ln) R (k := 4) (by omega) hp (Or.inl hr) rfl
    refine ⟨_, _, ?_, f2⟩
    refine (e_M_isOnceHere _ _ _ _ _).trans ?_
    refine (if_pos M.K52).trans ?_
    refine (bnd M.R7 _).trans ?_
    refine (if_pos ⟨Or.inl M.K58, in58 M (n := 5) (by omega)⟩).trans ?_
    refine (if_neg (show ¬ hI h 58 (5 : Int32).toNatClampNeg ≤ 0 by rw [cl5, ib, z]; decide)).trans ?_
    refine (if_pos M.K52).trans ?_
    refine (bnd f1 _).trans ?_
    exact if_pos (Or.inl rfl)
  · rw [if_neg z] at hr
    subst hr
    have z : yL S = false := by simpa using z
    obtain ⟨h1, e1, e2, e3⟩ := M_passWord_ok (d := d) R
    have A1 := A.pf e3.p8F
    refine ⟨wI h1 58 5 1, 1, ?_, e3.p8F.pma.trans PMA_58, Or.inl ⟨wE t T q, yLast S, rfl, rfl, e2.w58, A1.f5⟩⟩
    obtain ⟨I, rfl⟩ := e3.hw
    refine (e_M_isOnceHere _ _ _ _ _).trans ?_
    refine (if_pos M.K52).trans ?_
    refine (bnd M.R7 _).trans ?_
    refine (if_pos ⟨Or.inl M.K58, in58 M (n := 5) (by omega)⟩).trans ?_
    refine (if_pos (show hI h 58 (5 : Int32).toNatClampNeg ≤ 0 by rw [cl5, ib, z]; decide)).trans ?_
    refine (if_pos M.K52).trans ?_
    refine (bnd e1 _).trans ?_
    refine (if_pos M.K52).trans ?_
    refine (bnd M.R7 _).trans ?_
    refine (if_pos ⟨M.K58, in58 M (n := 5) (by omega)⟩).trans ?_
    show some (wI (hw h I) 58 (5 : Int32).toNatClampNeg 1, (1 : Int32)) = _
    rw [cl5]
theorem M_ring_ok (w : PWr S) (R : Mr h t T q) (A : MAI h 1 ln (yK S) S) : ∃ h' v, c_M_isRingHere d (some 52) h = some (h', v) ∧ MRs h h' t T ln (claB t T (wE t T q) 2 S) v := by
  obtain ⟨h1, e1, e2, e3⟩ := M_passWord_ok (d := d) R
  obtain ⟨h2, f1, f2, f3⟩ := M_see_ok (d := d) e2
  have Q2 := e3.p8F.trans f3.p8F
  have A2 := A.pf Q2
  have M := R.1
  have x3 := R.2.1
  have w2 := w.2.1
  have i2 : hI h2 58 (2 : Int32).toNatClampNeg - 1 = nI (yK S) - 1 := by rw [cl2, A2.2.1.2.2.1]
  have j8 := f2.2.2.2.2.1
  have hp := e2.2.2.2.2.2.2
  have hq := nxt_le (t := t) hp
  unfold claB
  rw [if_neg (by decide), if_neg (by decide), if_pos rfl, ← nmR_nxt hp]
  rcases M_number_ok (d := d) (Bds.sub w2) f2 with ⟨e, v, h3, g0, g1, g2, g3, g4, g5⟩ | ⟨g, h3, g0, g1, g2, g3⟩
  · rw [g0]
    show ∃ h' v', _ ∧ MRs h h' t T ln (if yZ S v < 3 then .inl (1 + 8 * nxt t T (wE t T q) + 1) else .inr (e, yRing S v)) v'
    have hv := nmR_in g0
    have hz := w.2.2.1 v hv.2
    have w1 := w.1
    have A3 := A2.pf g4
    have zv := (A3.2.2.2 v (by omega)).2.1
    have pre : ∀ o, (if (3 : Int32) ≤ nI (yZ S v) then some (wI h3 58 (20 + v) 1, (1 : Int32)) else Option.bind (c_M_fails d (some 52) (1 : Int32) (nI (nxt t T (wE t T q))) h3) fun (q8 : sk_H × Int32) => if q8.2 = 0 ∨ q8.2 = 1 then some (q8.1, q8.2) else none) = o → c_M_isRingHere d (some 52) h = o := by
      intro o ho
      rw [← ho]
      obtain ⟨I, rfl⟩ := (Q2.trans g4).hw
      obtain ⟨I2, rfl⟩ := Q2.hw
      obtain ⟨I1, rfl⟩ := e3.hw
      refine (e_M_isRingHere _ _ _).trans ?_
      refine (if_pos M.K52).trans ?_
      refine (bnd e1 _).trans ?_
      refine (if_pos M.K52).trans ?_
      refine (bnd f1 _).trans ?_
      refine (if_pos M.K52).trans ?_
      refine (if_pos M.K52).trans ?_
      refine (bnd M.R7 _).trans ?_
      refine (if_pos ⟨Or.inl M.K58, in58 M (n := 2) (by omega)⟩).trans ?_
      refine (if_pos M.K52).trans ?_
      refine (bnd (show c_M_numberHere d (some 52) (0 : Int32) (hI (hw h I2) 58 (2 : Int32).toNatClampNeg - 1) (hw h I2) = some (hw h I, 1) by rw [i2]; exact g1) _).trans ?_
      refine (if_pos n10).trans ?_
      refine (if_pos M.K52).trans ?_
      refine (if_pos M.K52).trans ?_
      refine (bnd M.R7 _).trans ?_
      refine (if_pos ⟨Or.inl M.K58, show sk_in ((16 : Int32) + hI (hw h I) 52 10) (hN h 58) by rw [g3, show (16 : Int32) = nI 16 from rfl, nI_add, M.N58]; exact vp_in_nI (by omega) (by omega)⟩).trans ?_
      have ez : hI (hw h I) 58 ((16 : Int32) + hI (hw h I) 52 10).toNatClampNeg = nI (yZ S v) := by rw [g3, show (16 : Int32) = nI 16 from rfl, nI_add, q_cl (by omega)]; exact zv
      by_cases z : (3 : Int32) ≤ nI (yZ S v)
      · rw [if_pos z]
        refine (if_pos (show (3 : Int32) ≤ hI (hw h I) 58 ((16 : Int32) + hI (hw h I) 52 10).toNatClampNeg by rw [ez]; exact z)).trans ?_
        refine (if_pos M.K52).trans ?_
        refine (if_pos M.K52).trans ?_
        refine (bnd M.R7 _).trans ?_
        refine (if_pos ⟨M.K58, show sk_in ((20 : Int32) + hI (hw h I) 52 10) (hN h 58) by rw [g3, show (20 : Int32) = nI 20 from rfl, nI_add, M.N58]; exact vp_in_nI (by omega) (by omega)⟩).trans ?_
        show some (wI (hw h I) 58 ((20 : Int32) + hI (hw h I) 52 10).toNatClampNeg 1, (1 : Int32)) = _
        rw [g3, show (20 : Int32) = nI 20 from rfl, nI_add, q_cl (by omega)]
      · rw [if_neg z]
        refine (if_neg (show ¬ (3 : Int32) ≤ hI (hw h I) 58 ((16 : Int32) + hI (hw h I) 52 10).toNatClampNeg by rw [ez]; exact z)).trans ?_
        refine (if_pos M.K52).trans ?_
        show Option.bind (c_M_fails d (some 52) (1 : Int32) (hI (hw h I2) 52 8) (hw h I)) _ = _
        rw [j8]
    by_cases z : yZ S v < 3
    · rw [if_pos z]
      obtain ⟨k1, k2⟩ := M_fail_rs (d := d) (ln := ln) g2 (k := 1) (by omega) (show nxt t T (wE t T q) ≤ 400 by omega) (Or.inl rfl) rfl
      refine ⟨_, _, pre _ ?_, MRs.pre (Q2.trans g4).pma k2⟩
      refine (if_neg (show ¬ nI 3 ≤ nI (yZ S v) from nI_ge z (by omega))).trans ?_
      refine (bnd k1 _).trans ?_
      exact if_pos (Or.inl rfl)
    · rw [if_neg z]
      refine ⟨_, _, pre _ (if_pos (show nI 3 ≤ nI (yZ S v) from nI_le (by omega) (by omega))), (Q2.trans g4).pma.trans PMA_58, Or.inl ⟨e, yRing S v, rfl, rfl, g2.w58, A3.ring (by omega)⟩⟩
  · rw [g0]
    refine ⟨h3, 0, ?_, (Q2.trans g3).pma, Or.inr ⟨rfl, g, g2, (nmR_g hq.2 x3 g0).1, (nmR_g hq.2 x3 g0).2, Or.inl rfl⟩⟩
    obtain ⟨I2, rfl⟩ := Q2.hw
    obtain ⟨I1, rfl⟩ := e3.hw
    refine (e_M_isRingHere _ _ _).trans ?_
    refine (if_pos M.K52).trans ?_
    refine (bnd e1 _).trans ?_
    refine (if_pos M.K52).trans ?_
    refine (bnd f1 _).trans ?_
    refine (if_pos M.K52).trans ?_
    refine (if_pos M.K52).trans ?_
    refine (bnd M.R7 _).trans ?_
    refine (if_pos ⟨Or.inl M.K58, in58 M (n := 2) (by omega)⟩).trans ?_
    refine (if_pos M.K52).trans ?_
    refine (bnd (show c_M_numberHere d (some 52) (0 : Int32) (hI (hw h I2) 58 (2 : Int32).toNatClampNeg - 1) (hw h I2) = some (h3, 0) by rw [i2]; exact g1) _).trans ?_
    exact if_neg (fun z => z rfl)
theorem M_isPlace_at (R : Mr h t T p) : c_M_isPlaceHere d (some 52) h = some (h, bi (plc t T p)) := by
  obtain ⟨M, r1, r2, r3, r4, r5, r6⟩ := R
  refine (e_M_isPlaceHere _ _ _).trans ?_
  refine (if_pos M.K52).trans ?_
  refine (if_pos M.K52).trans ?_
  rw [r3, r4]
  unfold plc
  by_cases z : p < T
  · have xp := r2 p z
    refine (if_neg (nI_ge z (by omega))).trans ?_
    refine (if_pos M.K52).trans ?_
    refine (if_pos M.K52).trans ?_
    refine (bnd M.R0 _).trans ?_
    refine (if_pos ⟨Or.inr (Or.inl M.K53), by rw [M.N53]; exact vp_in_nI (by omega) (by omega)⟩).trans ?_
    have ev : hI h 53 (nI p).toNatClampNeg = sx (t p) := by rw [q_cl (by omega)]; exact xp.2
    by_cases q1 : t p = 48
    · refine (if_pos (show hI h 53 (nI p).toNatClampNeg = nI 48 by rw [ev, sx_eq xp.1 (by omega)]; exact q1)).trans ?_
      rw [decide_eq_true ⟨z, Or.inl q1⟩]; rfl
    · refine (if_neg (show ¬ hI h 53 (nI p).toNatClampNeg = nI 48 by rw [ev, sx_eq xp.1 (by omega)]; exact q1)).trans ?_
      refine (if_pos M.K52).trans ?_
      refine (if_pos M.K52).trans ?_
      refine (bnd M.R0 _).trans ?_
      refine (if_pos ⟨Or.inr (Or.inl M.K53), by rw [M.N53]; exact vp_in_nI (by omega) (by omega)⟩).trans ?_
      by_cases q2 : t p = 49
      · refine (if_neg (fun y => y (show hI h 53 (nI p).toNatClampNeg = nI 49 by rw [ev, sx_eq xp.1 (by omega)]; exact q2))).trans ?_
        rw [decide_eq_true ⟨z, Or.inr q2⟩]; rfl
      · refine (if_pos (show ¬ hI h 53 (nI p).toNatClampNeg = nI 49 by rw [ev, sx_eq xp.1 (by omega)]; exact q2)).trans ?_
        rw [decide_eq_false (by omega)]; rfl
  · refine (if_pos (nI_le (by omega) (by omega))).trans ?_
    rw [decide_eq_false (by omega)]; rfl
/-- a place read by the reference: its bit is set, all is counted -/
theorem MAI.add (w : PWr S) (hk : 0 < yK S) (hN : yN S < 12) (A : MAI h fl ln (yK S - 1) S) (o : Bool) {m : sk_H} (hm : m = if o = true then wI h 58 8 (nI (yM S ||| 1 <<< yN S)) else h) : MAI (wI (wI m 58 1 (nI (yN S + 1))) 58 (16 + (yK S - 1)) (nI (yZ S (yK S - 1) + 1))) fl ln (yK (yAdd S o) - 1) (yAdd S o) := by
  have w2 := w.2.1
  obtain ⟨⟨b1, b2⟩, ⟨a0, a1, a2, a3, a4, a5, a6, a7, a8⟩, a9, a10⟩ := A
  have k52 : ∀ i, hI m 52 i = hI h 52 i := fun i => by
    rw [hm]; cases o
    · rfl
    · exact hI_na (by omega)
  have k58 : ∀ i, i ≠ 8 → hI m 58 i = hI h 58 i := fun i hi => by
    rw [hm]; cases o
    · rfl
    · exact hI_ni hi
  have k8 : hI m 58 8 = nI (yM (yAdd S o)) := by
    rw [hm]; cases o
    · exact a8
    · exact hI_se
  refine ⟨⟨by rw [hI_na (by omega), hI_na (by omega), k52]; exact b1, by rw [hI_na (by omega), hI_na (by omega), k52]; exact b2⟩, ⟨by rw [hI_ni (by omega), hI_ni (by omega), k58 _ (by omega)]; exact a0, by rw [hI_ni (by omega), hI_se]; rfl, by rw [hI_ni (by omega), hI_ni (by omega), k58 _ (by omega)]; exact a2, by rw [hI_ni (by omega), hI_ni (by omega), k58 _ (by omega)]; exact a3, by rw [hI_ni (by omega), hI_ni (by omega), k58 _ (by omega)]; exact a4, by rw [hI_ni (by omega), hI_ni (by omega), k58 _ (by omega)]; exact a5, by rw [hI_ni (by omega), hI_ni (by omega), k58 _ (by omega)]; exact a6, by rw [hI_ni (by omega), hI_ni (by omega), k58 _ (by omega)]; exact a7, by rw [hI_ni (by omega), hI_ni (by omega)]; exact k8⟩, fun j h1 h2 => by rw [hI_ni (by omega), hI_ni (by omega), k58 _ (by omega)]; exact a9 j h1 h2, fun r hr => ⟨by rw [hI_ni (by omega), hI_ni (by omega), k58 _ (by omega)]; exact (a10 r hr).1, ?_, by rw [hI_ni (by omega), hI_ni (by omega), k58 _ (by omega)]; exact (a10 r hr).2.2⟩⟩
  show _ = nI (va_up (yZ S) (yK S - 1) (yZ S (yK S - 1) + 1) r)
  by_cases y : r = yK S - 1
  · rw [y, hI_se, va_up_self]
  · rw [hI_ni (by omega), hI_ni (by omega), k58 _ (by omega), va_up_ne _ _ y]; exact (a10 r hr).2.1
theorem MAI.w8 (A : MAI h fl ln kk S) {v : Int32} : MAI (wI h 52 8 v) fl ln kk S := A.pf (Iq.w h v rfl)
theorem M_row_145 (w : PWr S) (hk : 0 < yK S) (hN12 : yN S < 12) (R : Mr h t T p) (hp : p < T) {m : sk_H} {o : Bool} (hm : m = if o = true then wI h 58 8 (nI (yM S ||| 1 <<< yN S)) else h) (A : MAI h fl ln (yK S - 1) S) : k_M_isRowHere_145 d (some 52) (nI (yK S - 1)) m = k_M_isRowHere_85 d (some 52) (nI (yK S - 1)) (wI (wI (wI m 58 1 (nI (yN S + 1))) 58 (16 + (yK S - 1)) (nI (yZ S (yK S - 1) + 1))) 52 8 (nI (p + 1))) ∧ Iq PMA h m ∧ Mr m t T p := by
  have M := R.1
  have w2 := w.2.1
  have Q : Iq PMA h m := by
    rw [hm]; cases o
    · exact Iq.refl h
    · exact PMA_58
  have R1 : Mr m t T p := by
    rw [hm]; cases o
    · exact R
    · exact R.w58
  have k58 : ∀ i, i ≠ 8 → hI m 58 i = hI h 58 i := fun i hi => by
    rw [hm]; cases o
    · rfl
    · exact hI_ni hi
  have e1 : hI m 58 1 = nI (yN S) := (k58 1 (by omega)).trans A.2.1.2.1
  have ez : hI m 58 (16 + (yK S - 1)) = nI (yZ S (yK S - 1)) := (k58 _ (by omega)).trans (A.2.2.2 (yK S - 1) (by omega)).2.1
  have e8 := R1.2.2.2.2.1
  refine ⟨?_, Q, R1⟩
  obtain ⟨I, rfl⟩ := Q.hw
  refine (e_M_isRowHere_145 _ _ _ _).trans ?_
  refine (if_pos M.K52).trans ?_
  refine (bnd M.R7 _).trans ?_
  refine (if_pos ⟨Or.inl M.K58, in58 M (n := 1) (by omega)⟩).trans ?_
  refine (bnd M.R7 _).trans ?_
  refine (if_pos ⟨M.K58, in58 M (n := 1) (by omega)⟩).trans ?_
  refine (if_pos M.K52).trans ?_
  have e16 : (16 : Int32) + nI (yK S - 1) = nI (16 + (yK S - 1)) := nI_add 16 _
  have i16 : sk_in ((16 : Int32) + nI (yK S - 1)) (hN h 58) := by rw [e16]; exact in58 M (by omega)
  refine (bnd M.R7 _).trans ?_
  refine (if_pos ⟨Or.inl M.K58, i16⟩).trans ?_
  refine (bnd M.R7 _).trans ?_
  refine (if_pos ⟨M.K58, i16⟩).trans ?_
  refine (if_pos M.K52).trans ?_
  refine (if_pos M.K52).trans ?_
  have g1 : hI (hw h I) 58 1 + 1 = nI (yN S + 1) := by rw [e1, nI_1]
  have g2 : hI (wI (hw h I) 58 1 (nI (yN S + 1))) 58 (16 + (yK S - 1)) + 1 = nI (yZ S (yK S - 1) + 1) := by rw [hI_ni (by omega), ez, nI_1]
  have g3 : hI (wI (wI (hw h I) 58 1 (nI (yN S + 1))) 58 (16 + (yK S - 1)) (nI (yZ S (yK S - 1) + 1))) 52 8 + 1 = nI (p + 1) := by rw [hI_na (by omega), hI_na (by omega), e8, nI_1]
  show k_M_isRowHere_85 d (some 52) (nI (yK S - 1)) (wI (wI (wI (hw h I) 58 (1 : Int32).toNatClampNeg (hI (hw h I) 58 (1 : Int32).toNatClampNeg + 1)) 58 ((16 : Int32) + nI (yK S - 1)).toNatClampNeg (hI (wI (hw h I) 58 (1 : Int32).toNatClampNeg (hI (hw h I) 58 (1 : Int32).toNatClampNeg + 1)) 58 ((16 : Int32) + nI (yK S - 1)).toNatClampNeg + 1)) 52 8 (hI (wI (wI (hw h I) 58 (1 : Int32).toNatClampNeg (hI (hw h I) 58 (1 : Int32).toNatClampNeg + 1)) 58 ((16 : Int32) + nI (yK S - 1)).toNatClampNeg (hI (wI (hw h I) 58 (1 : Int32).toNatClampNeg (hI (hw h I) 58 (1 : Int32).toNatClampNeg + 1)) 58 ((16 : Int32) + nI (yK S - 1)).toNatClampNeg + 1)) 52 8 + 1)) = _
  rw [e16, q_cl (show 16 + (yK S - 1) < 2 ^ 31 by omega), cl1, g1, g2, g3]
theorem M_row_85 : ∀ (x p : Nat) (S : PS) (h : sk_H), p + x = T → PWr S → 0 < yK S → Mr h t T p → MAI h 1 ln (yK S - 1) S → ∃ h' v, k_M_isRowHere_85 d (some 52) (nI (yK S - 1)) h = some (h', v) ∧ MRs h h' t T ln (yRL t T x p S) v
  | x, p, S, h, hx, w, hk, R, A => by
    have M := R.1
    have x3 := R.2.1
    have w2 := w.2.1
    have ip := M_isPlace_at (d := d) R
    have e1 : hI h 58 (1 : Int32).toNatClampNeg = nI (yN S) := A.2.1.2.1
    have e8 := R.2.2.2.2.1
    by_cases z : plc t T p = true
    · have z' := of_decide_eq_true z
      cases x with
      | zero => exact absurd z'.1 (by omega)
      | succ x =>
        show ∃ h' v, _ ∧ MRs h h' t T ln (if plc t T p = true then (if yN S = 12 then .inl (1 + 8 * p + 3) else yRL t T x (p + 1) (yAdd S (decide (t p = 49)))) else .inr (p, S)) v
        rw [if_pos z]
        by_cases z12 : yN S = 12
        · rw [if_pos z12]
          obtain ⟨f1, f2⟩ := M_fail_rs (d := d) (ln := ln) R (k := 3) (by omega) (show p ≤ 400 by omega) (Or.inl rfl) rfl
          rw [← e8] at f1
          refine ⟨_, _, ?_, f2⟩
          refine (e_M_isRowHere_85 _ _ _ _).trans ?_
          refine (if_pos M.K52).trans ?_
          refine (bnd ip _).trans ?_
          refine (if_neg (show ¬ bi (plc t T p) = 0 by rw [z]; decide)).trans ?_
          refine (if_pos M.K52).trans ?_
          refine (bnd M.R7 _).trans ?_
          refine (if_pos ⟨Or.inl M.K58, in58 M (n := 1) (by omega)⟩).trans ?_
          refine (if_neg (fun y => y (by rw [e1, z12]; rfl))).trans ?_
          refine (if_pos M.K52).trans ?_
          refine (if_pos M.K52).trans ?_
          refine (bnd f1 _).trans ?_
          exact if_pos (Or.inl rfl)
        · rw [if_neg z12]
          have w1 := w.1
          have hN : yN S < 12 := by omega
          have xp := R.2.2.1 p z'.1
          have m8 := A.2.1.2.2.2.2.2.2.2.2
          obtain ⟨f1, f2, f3⟩ := M_row_145 (d := d) w hk hN R z'.1 (o := decide (t p = 49)) rfl A
          have A1 := MAI.add w hk hN A (decide (t p = 49)) rfl
          have R1 := (f3.w58 (i := 1) (v := nI (yN S + 1))).w58 (i := 16 + (yK S - 1)) (v := nI (yZ S (yK S - 1) + 1))
          obtain ⟨h', v, g1, g2⟩ := M_row_85 x (p + 1) (yAdd S (decide (t p = 49))) _ (by omega) (w.add hk hN _) hk (R1.w8 (show p + 1 ≤ T by omega)) A1.w8
          refine ⟨h', v, ?_, MRs.pre (((f2.trans PMA_58).trans PMA_58).trans (PMA_52 (by omega) (by omega))) g2⟩
          refine Eq.trans ?_ g1
          refine Eq.trans ?_ f1
          refine (e_M_isRowHere_85 _ _ _ _).trans ?_
          refine (if_pos M.K52).trans ?_
          refine (bnd ip _).trans ?_
          refine (if_neg (show ¬ bi (plc t T p) = 0 by rw [z]; decide)).trans ?_
          refine (if_pos M.K52).trans ?_
          refine (bnd M.R7 _).trans ?_
          refine (if_pos ⟨Or.inl M.K58, in58 M (n := 1) (by omega)⟩).trans ?_
          refine (if_pos (show ¬ hI h 58 (1 : Int32).toNatClampNeg = nI 12 by rw [e1, q_eq_f z12 (by omega) (by omega)]; exact not_false)).trans ?_
          refine (if_pos M.K52).trans ?_
          refine (if_pos M.K52).trans ?_
          refine (bnd M.R0 _).trans ?_
          refine (if_pos ⟨Or.inr (Or.inl M.K53), by rw [e8, M.N53]; exact vp_in_nI (by omega) (by omega)⟩).trans ?_
          have ev : hI h 53 (hI h 52 8).toNatClampNeg = sx (t p) := by rw [e8, q_cl (by omega)]; exact xp.2
          by_cases z1 : t p = 49
          · have em : (if decide (t p = 49) = true then wI h 58 8 (nI (yM S ||| 1 <<< yN S)) else h) = wI h 58 8 (nI (yM S ||| 1 <<< yN S)) := by rw [decide_eq_true z1]; rfl
            rw [em]
            refine (if_neg (fun y => y (show hI h 53 (hI h 52 8).toNatClampNeg = 49 by rw [ev, z1]; rfl))).trans ?_
            refine (if_pos M.K52).trans ?_
            refine (bnd M.R7 _).trans ?_
            refine (if_pos ⟨Or.inl M.K58, in58 M (n := 8) (by omega)⟩).trans ?_
            refine (if_pos M.K52).trans ?_
            refine (bnd M.R7 _).trans ?_
            refine (if_pos ⟨Or.inl M.K58, in58 M (n := 1) (by omega)⟩).trans ?_
            refine (bnd M.R7 _).trans ?_
            refine (if_pos ⟨M.K58, in58 M (n := 8) (by omega)⟩).trans ?_
            show k_M_isRowHere_145 d (some 52) (nI (yK S - 1)) (wI h 58 (8 : Int32).toNatClampNeg (hI h 58 (8 : Int32).toNatClampNeg ||| ((1 : Int32) <<< ((hI h 58 (1 : Int32).toNatClampNeg) &&& 31)))) = _
            rw [e1, cl8, m8, nI_shl (by omega), nI_or]
          · have em : (if decide (t p = 49) = true then wI h 58 8 (nI (yM S ||| 1 <<< yN S)) else h) = h := by rw [decide_eq_false z1]; rfl
            rw [em]
            exact if_pos (show ¬ hI h 53 (hI h 52 8).toNatClampNeg = nI 49 by rw [ev, sx_eq xp.1 (by omega)]; exact z1)
    · have z : plc t T p = false := by simpa using z
      have en : yRL t T x p S = .inr (p, S) := by
        cases x with
        | zero => rfl
        | succ x =>
          show (if plc t T p = true then _ else _) = _
          exact if_neg (by rw [z]; decide)
      rw [en]
      have A1 := A.f2 (yK S)
      have R1 := R.w58 (i := 2) (v := nI (yK S))
      have di := M_isDigit_ok (d := d) R1 (k := p) (by omega)
      have e81 := R1.2.2.2.2.1
      rw [← e81] at di
      have pre : ∀ o, (Option.bind (some (wI h 58 2 (nI (yK S)), bi (dgt t T p))) fun (q5 : sk_H × Int32) => if q5.2 = 0 then some (q5.1, (1 : Int32)) else if hK q5.1 52 = 13 then if hK q5.1 52 = 13 then Option.bind (c_M_fails d (some 52) (0 : Int32) (hI q5.1 52 8) q5.1) fun (q6 : sk_H × Int32) => if q6.2 = 0 then some (q6.1, (0 : Int32)) else some (q6.1, (1 : Int32)) else none else none) = o → k_M_isRowHere_85 d (some 52) (nI (yK S - 1)) h = o := by
        intro o ho
        rw [← ho]
        refine (e_M_isRowHere_85 _ _ _ _).trans ?_
        refine (if_pos M.K52).trans ?_
        refine (bnd ip _).trans ?_
        refine (if_pos (show bi (plc t T p) = 0 by rw [z]; rfl)).trans ?_
        refine (if_pos M.K52).trans ?_
        refine (bnd M.R7 _).trans ?_
        refine (if_pos ⟨Or.inl M.K58, in58 M (n := 2) (by omega)⟩).trans ?_
        refine (bnd M.R7 _).trans ?_
        refine (if_pos ⟨M.K58, in58 M (n := 2) (by omega)⟩).trans ?_
        have e2 : hI h 58 (2 : Int32).toNatClampNeg + 1 = nI (yK S) := by
          rw [cl2, A.2.1.2.2.1, nI_1, show yK S - 1 + 1 = yK S by omega]
        rw [e2, cl2]
        refine (if_pos M.K52).trans ?_
        refine (if_pos M.K52).trans ?_
        exact (bnd di _).trans rfl
      by_cases y : dgt t T p = true
      · have y' := of_decide_eq_true y
        have z' := of_decide_eq_false z
        have nn : nxt t T p = p := nxt_id (by omega) (fun _ => by omega)
        have gg : gO t T p = .inl (1 + 8 * p + 0) := by
          unfold gO
          rw [nn, if_pos y'.1, if_neg (by omega)]
        obtain ⟨f1, f2⟩ := M_fail_rs (d := d) (ln := ln) R1 (k := 0) (by omega) (show p ≤ 400 by omega) (r := .inr (p, S)) (Or.inr ⟨p, S, rfl, gg⟩) rfl
        rw [← e81] at f1
        refine ⟨_, _, pre _ ?_, MRs.pre PMA_58 f2⟩
        rw [y]
        refine (bnd rfl _).trans ?_
        refine (if_neg nb1).trans ?_
        refine (if_pos M.K52).trans ?_
        refine (if_pos M.K52).trans ?_
        refine (bnd f1 _).trans ?_
        exact if_pos rfl
      · have y : dgt t T p = false := by simpa using y
        refine ⟨_, 1, pre _ ?_, PMA_58, Or.inl ⟨p, S, rfl, rfl, R1, A1⟩⟩
        rw [y]
        rfl
theorem M_rowh_ok (w : PWr S) (R : Mr h t T q) (A : MAI h 1 ln (yK S) S) (hp : p ≤ 400) {r : Nat ⊕ (Nat × PS)} (hr : r = if 4 ≤ yK S then .inl (1 + 8 * p + 4) else claB t T (wE t T q) 1 S) : ∃ h' v, c_M_isRowHere d (some 52) (nI p) h = some (h', v) ∧ MRs h h' t T ln r v := by
  have M := R.1
  have x3 := R.2.1
  have w2 := w.2.1
  have e2 : hI h 58 (2 : Int32).toNatClampNeg = nI (yK S) := A.2.1.2.2.1
  by_cases z : 4 ≤ yK S
  · rw [if_pos z] at hr
    obtain ⟨f1, f2⟩ := M_fail_rs (d := d) (ln := ln) R (k := 4) (by omega) hp (Or.inl hr) rfl
    refine ⟨_, _, ?_, f2⟩
    refine (e_M_isRowHere _ _ _ _).trans ?_
    refine (if_pos M.K52).trans ?_
    refine (bnd M.R7 _).trans ?_
    refine (if_pos ⟨Or.inl M.K58, in58 M (n := 2) (by omega)⟩).trans ?_
    refine (if_neg (fun y => y (by rw [e2, show yK S = 4 by omega]; rfl))).trans ?_
    refine (if_pos M.K52).trans ?_
    refine (bnd f1 _).trans ?_
    exact if_pos (Or.inl rfl)
  · rw [if_neg z] at hr
    subst hr
    obtain ⟨h1, e1, e3, e4⟩ := M_passWord_ok (d := d) R
    obtain ⟨h2, f1, f2, f3⟩ := M_see_ok (d := d) e3
    have Q2 := e4.p8F.trans f3.p8F
    have A2 := A.pf Q2
    have j8 := f2.2.2.2.2.1
    have hq := f2.2.2.2.2.2.2
    have ip := M_isPlace_at (d := d) f2
    unfold claB
    rw [if_neg (by decide), if_pos rfl]
    by_cases y : plc t T (nxt t T (wE t T q)) = true
    · rw [if_pos y]
      have i1 : hI h2 58 (1 : Int32).toNatClampNeg = nI (yN S) := A2.2.1.2.1
      have i2 : hI h2 58 (2 : Int32).toNatClampNeg = nI (yK S) := A2.2.1.2.2.1
      have A3 : MAI (wI (wI (wI h2 58 (12 + yK S) (nI (yN S))) 58 (16 + yK S) (nI 0)) 58 (20 + yK S) (nI 0)) 1 ln (yK (yRow S) - 1) (yRow S) := by
        obtain ⟨⟨b1, b2⟩, ⟨a0, a1, a2, a3, a4, a5, a6, a7, a8⟩, a9, a10⟩ := A2
        have w4 := w.2.2.2.1 (yK S) (Nat.le_refl _)
        refine ⟨⟨by rw [hI_na (by omega), hI_na (by omega), hI_na (by omega)]; exact b1, by rw [hI_na (by omega), hI_na (by omega), hI_na (by omega)]; exact b2⟩, ⟨by rw [hI_ni (by omega), hI_ni (by omega), hI_ni (by omega)]; exact a0, by rw [hI_ni (by omega), hI_ni (by omega), hI_ni (by omega)]; exact a1, by rw [hI_ni (by omega), hI_ni (by omega), hI_ni (by omega)]; exact a2, by rw [hI_ni (by omega), hI_ni (by omega), hI_ni (by omega)]; exact a3, by rw [hI_ni (by omega), hI_ni (by omega), hI_ni (by omega)]; exact a4, by rw [hI_ni (by omega), hI_ni (by omega), hI_ni (by omega)]; exact a5, by rw [hI_ni (by omega), hI_ni (by omega), hI_ni (by omega)]; exact a6, by rw [hI_ni (by omega), hI_ni (by omega), hI_ni (by omega)]; exact a7, by rw [hI_ni (by omega), hI_ni (by omega), hI_ni (by omega)]; exact a8⟩, fun j h1 h2 => by rw [hI_ni (by omega), hI_ni (by omega), hI_ni (by omega)]; exact a9 j h1 h2, fun r hr => ⟨?_, ?_, ?_⟩⟩
        · rw [hI_ni (by omega), hI_ni (by omega)]
          show _ = nI (va_up (yT S) (yK S) (yN S) r)
          by_cases y : r = yK S
          · rw [y, hI_se, va_up_self]
          · rw [hI_ni (by omega), va_up_ne _ _ y]; exact (a10 r hr).1
        · rw [hI_ni (by omega)]
          show _ = nI (yZ S r)
          by_cases y : r = yK S
          · rw [y, hI_se, w4.1]
          · rw [hI_ni (by omega), hI_ni (by omega)]; exact (a10 r hr).2.1
        · show _ = bi (yR S r)
          by_cases y : r = yK S
          · rw [y, hI_se, w4.2]; rfl
          · rw [hI_ni (by omega), hI_ni (by omega), hI_ni (by omega)]; exact (a10 r hr).2.2
      obtain ⟨h', v, g1, g2⟩ := M_row_85 (d := d) (T - nxt t T (wE t T q)) (nxt t T (wE t T q)) (yRow S) _ (by omega) (w.row (by omega)) (Nat.succ_pos _) ((f2.w58.w58).w58) A3
      refine ⟨h', v, ?_, MRs.pre (((Q2.pma.trans PMA_58).trans PMA_58).trans PMA_58) g2⟩
      refine Eq.trans ?_ g1
      obtain ⟨I2, rfl⟩ := Q2.hw
      obtain ⟨I1, rfl⟩ := e4.hw
      refine (e_M_isRowHere _ _ _ _).trans ?_
      refine (if_pos M.K52).trans ?_
      refine (bnd M.R7 _).trans ?_
      refine (if_pos ⟨Or.inl M.K58, in58 M (n := 2) (by omega)⟩).trans ?_
      refine (if_pos (show ¬ hI h 58 (2 : Int32).toNatClampNeg = nI 4 by rw [e2, q_eq_f (by omega) (by omega) (by omega)]; exact not_false)).trans ?_
      refine (if_pos M.K52).trans ?_
      refine (bnd e1 _).trans ?_
      refine (if_pos M.K52).trans ?_
      refine (bnd f1 _).trans ?_
      refine (if_pos M.K52).trans ?_
      refine (bnd ip _).trans ?_
      refine (if_pos (show ¬ bi (plc t T (nxt t T (wE t T q))) = 0 by rw [y]; decide)).trans ?_
      refine (if_pos M.K52).trans ?_
      refine (bnd M.R7 _).trans ?_
      refine (if_pos ⟨Or.inl M.K58, in58 M (n := 2) (by omega)⟩).trans ?_
      refine (if_pos M.K52).trans ?_
      refine (if_pos M.K52).trans ?_
      refine (bnd M.R7 _).trans ?_
      refine (if_pos ⟨Or.inl M.K58, in58 M (n := 1) (by omega)⟩).trans ?_
      rw [i1, i2, show (12 : Int32) = nI 12 from rfl, show (16 : Int32) = nI 16 from rfl, show (20 : Int32) = nI 20 from rfl, nI_add, nI_add, nI_add]
      refine (bnd M.R7 _).trans ?_
      refine (if_pos ⟨M.K58, show sk_in (nI (12 + yK S)) (hN h 58) by rw [M.N58]; exact vp_in_nI (by omega) (by omega)⟩).trans ?_
      refine (if_pos M.K52).trans ?_
      refine (bnd M.R7 _).trans ?_
      refine (if_pos ⟨M.K58, show sk_in (nI (16 + yK S)) (hN h 58) by rw [M.N58]; exact vp_in_nI (by omega) (by omega)⟩).trans ?_
      refine (if_pos M.K52).trans ?_
      refine (bnd M.R7 _).trans ?_
      refine (if_pos ⟨M.K58, show sk_in (nI (20 + yK S)) (hN h 58) by rw [M.N58]; exact vp_in_nI (by omega) (by omega)⟩).trans ?_
      show k_M_isRowHere_85 d (some 52) (nI (yK S)) (wI (wI (wI (hw h I2) 58 (nI (12 + yK S)).toNatClampNeg (nI (yN S))) 58 (nI (16 + yK S)).toNatClampNeg (nI 0)) 58 (nI (20 + yK S)).toNatClampNeg (nI 0)) = _
      rw [q_cl (show 12 + yK S < 2 ^ 31 by omega), q_cl (show 16 + yK S < 2 ^ 31 by omega), q_cl (show 20 + yK S < 2 ^ 31 by omega)]
      rfl
    · rw [if_neg y]
      have y : plc t T (nxt t T (wE t T q)) = false := by simpa using y
      obtain ⟨k1, k2⟩ := M_fail_rs (d := d) (ln := ln) f2 (k := 0) (by omega) (show nxt t T (wE t T q) ≤ 400 by omega) (Or.inl rfl) rfl
      rw [← j8] at k1
      refine ⟨_, _, ?_, MRs.pre Q2.pma k2⟩
      obtain ⟨I2, rfl⟩ := Q2.hw
      obtain ⟨I1, rfl⟩ := e4.hw
      refine (e_M_isRowHere _ _ _ _).trans ?_
      refine (if_pos M.K52).trans ?_
      refine (bnd M.R7 _).trans ?_
      refine (if_pos ⟨Or.inl M.K58, in58 M (n := 2) (by omega)⟩).trans ?_
      refine (if_pos (show ¬ hI h 58 (2 : Int32).toNatClampNeg = nI 4 by rw [e2, q_eq_f (by omega) (by omega) (by omega)]; exact not_false)).trans ?_
      refine (if_pos M.K52).trans ?_
      refine (bnd e1 _).trans ?_
      refine (if_pos M.K52).trans ?_
      refine (bnd f1 _).trans ?_
      refine (if_pos M.K52).trans ?_
      refine (bnd ip _).trans ?_
      refine (if_neg (fun x => x (show bi (plc t T (nxt t T (wE t T q))) = 0 by rw [y]; rfl))).trans ?_
      refine (if_pos M.K52).trans ?_
      refine (if_pos M.K52).trans ?_
      refine (bnd k1 _).trans ?_
      exact if_pos (Or.inl rfl)
end SkMalley
