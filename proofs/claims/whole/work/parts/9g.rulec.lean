/-! ===== the class reads a sum ===== -/
def P3 (n a _i : Nat) : Bool := decide (n ≤ a ∧ a < n + 3)
theorem P3.pn {h h1 : sk_H} {n : Nat} (Q : Iq (fun a i => decide (n ≤ a ∧ a < n + 3)) h h1) : Iq (PN n) h h1 := Q.mono fun a i ha => by
  unfold PN at ha
  have := of_decide_eq_false ha
  exact decide_eq_false (fun y => this y.1)
theorem P3_of {h h1 : sk_H} {n : Nat} (Q : Iq (PRd n) h h1) : Iq (P3 n) h h1 := Q.mono fun a i ha => by
  unfold P3 at ha
  unfold PRd
  rw [show (a == n) = false from beq_eq_false_iff_ne.mpr (fun e => by rw [e] at ha; simp at ha)]
  rfl
theorem P3_w {h : sk_H} {n a i : Nat} {v : Int32} (ha : n ≤ a ∧ a < n + 3) : Iq (P3 n) h (wI h a i v) := Iq.w h v (by unfold P3; exact decide_eq_true ha)
def RRS (h : sk_H) (n : Nat) : Prop := hK h (n + 1) = 8 ∧ hR h (n + 1) 0 = some n ∧ hR h (n + 1) 1 = some (n + 2) ∧ hK h (n + 2) = 101 ∧ hN h (n + 2) = 400
def RRI (h : sk_H) (n : Nat) (z : RZ) : Prop := hI h (n + 1) 2 = nI z.2.1.length ∧ hI h (n + 1) 3 = nI z.2.2 ∧ ∀ i o, z.2.1[i]? = some o → hI h (n + 2) i = oC o
def Sgs (h : sk_H) : Prop := ∀ k, k < 7 → Stg h (k + 2) (fun i => (tLs k).getD i 0) (tLs k).length
/-- the class's reader of rules at n + 1 -/
def RA (h : sk_H) (n : Nat) (t : Nat → Nat) (T : Nat) (z : RZ) : Prop := Tx h t T ∧ RRS h n ∧ Rd h n T z.1 nM ∧ RRI h n z ∧ Sgs h ∧ zOk T z ∧ z.2.1.length ≤ z.1
def RF (h : sk_H) (n T g : Nat) : Prop := ∃ p, p ≤ T ∧ Rd h n T p (nI g) ∧ g < 10000
def Rz (h h' : sk_H) (n : Nat) (t : Nat → Nat) (T : Nat) (r : Nat ⊕ RZ) : Prop := Iq (P3 n) h h' ∧ ((∃ z, r = .inr z ∧ RA h' n t T z) ∨ ∃ g, r = .inl g ∧ RF h' n T g)
def wIo (w : Option Nat) : Int32 := match w with
  | none => 0
  | some o => oC (o, 0)
def emW (w : Option Nat) (z : RZ) : RZ := match w with
  | none => z
  | some o => zE z o
def pnd (w : Option Nat) : Nat := match w with
  | none => 0
  | some _ => 1
theorem if_both {α : Type} {p : Prop} [Decidable p] {x y z : α} (h1 : x = z) (h2 : y = z) : (if p then x else y) = z := by
  by_cases q : p
  · rw [if_pos q]; exact h1
  · rw [if_neg q]; exact h2
theorem spR : Sp (fun i => (tLs 2).getD i 0) (tLs 2).length 0 rWs = true := by decide +kernel
section SkRulec
variable {h h' h1 h2 : sk_H} {t : Nat → Nat} {T n d p q g : Nat} {z z1 : RZ} {f x : Int32} {r : Nat ⊕ RZ}
theorem RRS.pn {P : Nat → Nat → Bool} (B : RRS h n) (Q : Iq P h h1) : RRS h1 n := by
  obtain ⟨I, rfl⟩ := Q.hw
  exact B
theorem Tx.p3 (X : Tx h t T) (Q : Iq (P3 n) h h1) (hn : 73 ≤ n) : Tx h1 t T := by
  obtain ⟨x1, x2, x3, x4⟩ := X
  have e : ∀ i, hI h1 21 i = hI h 21 i := fun i => Q.I (by unfold P3; exact decide_eq_false (by omega))
  obtain ⟨I, rfl⟩ := Q.hw
  exact ⟨x1, x2, x3, fun i hi => ⟨(x4 i hi).1, (e i).trans (x4 i hi).2⟩⟩
theorem Sgs.pn (G : Sgs h) (Q : Iq (P3 n) h h1) (hn : 73 ≤ n) : Sgs h1 := fun k hk => (G k hk).pn (by omega) (P3.pn Q) hn
theorem RRI.rd (D : RRI h n z) (Q : Iq (PRd n) h h1) (p : Nat) : RRI h1 n (zAt z p) := by
  have e : ∀ a, a ≠ n → hI h1 a = hI h a := fun a ha => funext fun i => Q.I (by unfold PRd; rw [show (a == n) = false from beq_eq_false_iff_ne.mpr ha]; rfl)
  unfold RRI
  rw [e (n + 1) (by omega), e (n + 2) (by omega)]
  exact D
theorem RA.rd (A : RA h n t T z) (Q : Iq (PRd n) h h1) (R : Rd h1 n T q nM) (hq : q ≤ T) (hzq : z.1 ≤ q) : RA h1 n t T (zAt z q) := by
  obtain ⟨X, B, C, D, G, O, l⟩ := A
  have n73 := C.2.2.2.2.2
  exact ⟨X.iq Q n73, B.pn (P3_of Q), R, D.rd Q q, G.pn (P3_of Q) n73, ⟨hq, O.2⟩, by show z.2.1.length ≤ q; omega⟩
theorem RR_put_f (B : RRS h n) (R : Rd h n T p f) (hf : f ≠ nM) : c_RR_put d (some (n + 1)) x h = some h := by
  obtain ⟨b1, b2, b3, b4, b5⟩ := B
  have so := Re_sound_ok (d := d) R
  rw [decide_eq_false hf] at so
  refine (e_RR_put _ _ _ _).trans ?_
  refine (if_pos b1).trans ?_
  refine (bnd b2 _).trans ?_
  refine (if_pos R.1).trans ?_
  refine (bnd (show c_Re_sound d (hR h (n + 1) 0) h = _ by rw [b2]; exact so) _).trans ?_
  exact if_pos rfl
theorem RR_put_ok (A : RA h n t T z) (hl : z.2.1.length + 1 ≤ z.1) (o : Nat × Nat) : ∃ h', c_RR_put d (some (n + 1)) (oC o) h = some h' ∧ RA h' n t T (z.1, z.2.1 ++ [o], z.2.2) ∧ Iq (P3 n) h h' := by
  obtain ⟨X, B, C, D, G, O, l⟩ := A
  obtain ⟨b1, b2, b3, b4, b5⟩ := id B
  obtain ⟨d2, d3, d4⟩ := D
  have n73 := C.2.2.2.2.2
  have x3 := X.2.2.1
  have so := Re_sound_ok (d := d) C
  rw [decide_eq_true rfl] at so
  have hz := O.1
  have Q : Iq (P3 n) h (wI (wI h (n + 2) z.2.1.length (oC o)) (n + 1) 2 (nI (z.2.1.length + 1))) := (P3_w (by omega)).trans (P3_w (by omega))
  refine ⟨_, ?_, ⟨X.p3 Q n73, B, (C.wa (by omega)).wa (by omega), ⟨?_, ?_, fun i o' hi => ?_⟩, G.pn Q n73, O, ?_⟩, Q⟩
  · refine (e_RR_put _ _ _ _).trans ?_
    refine (if_pos b1).trans ?_
    refine (bnd b2 _).trans ?_
    refine (if_pos C.1).trans ?_
    refine (bnd (show c_Re_sound d (hR h (n + 1) 0) h = _ by rw [b2]; exact so) _).trans ?_
    refine (if_neg nb1).trans ?_
    refine (if_pos b1).trans ?_
    refine (if_pos b1).trans ?_
    refine (bnd b3 _).trans ?_
    refine (if_pos (by rw [b4]; rfl)).trans ?_
    refine (if_neg (show ¬ Int32.ofNat (hN h (n + 2)) ≤ hI h (n + 1) 2 by rw [b5, d2]; exact nI_ge (a := z.2.1.length) (b := 400) (by omega) (by omega))).trans ?_
    refine (if_pos b1).trans ?_
    refine (if_pos b1).trans ?_
    refine (bnd b3 _).trans ?_
    refine (if_pos ⟨b4, show sk_in (hI h (n + 1) 2) (hN h (n + 2)) by rw [b5, d2]; exact vp_in_nI (by omega) (by omega)⟩).trans ?_
    refine (if_pos b1).trans ?_
    refine (if_pos b1).trans ?_
    show some (wI (wI h (n + 2) (hI h (n + 1) 2).toNatClampNeg (oC o)) (n + 1) 2 (hI (wI h (n + 2) (hI h (n + 1) 2).toNatClampNeg (oC o)) (n + 1) 2 + 1)) = _
    rw [hI_na (by omega), d2, q_cl (by omega), nI_1]
  · rw [hI_se]
    show _ = nI (z.2.1 ++ [o]).length
    rw [List.length_append]
    rfl
  · rw [hI_ni (by omega), hI_na (by omega)]; exact d3
  · have hi : (z.2.1 ++ [o])[i]? = some o' := hi
    rw [hI_na (by omega)]
    by_cases y : i < z.2.1.length
    · rw [List.getElem?_append_left y] at hi
      rw [hI_ni (by omega)]; exact d4 i o' hi
    · rw [List.getElem?_append_right (by omega)] at hi
      by_cases y2 : i = z.2.1.length
      · rw [y2, Nat.sub_self] at hi
        have : o = o' := by simpa using hi
        rw [y2, hI_se, this]
      · rw [List.getElem?_eq_none (by show [o].length ≤ _; simp; omega)] at hi
        cases hi
  · show (z.2.1 ++ [o]).length ≤ z.1
    rw [List.length_append]
    exact hl
theorem RR_count_f (B : RRS h n) (R : Rd h n T p f) (hf : f ≠ nM) {y : Int32} : ∃ h', c_RR_countPart d (some (n + 1)) y h = some h' ∧ Rd h' n T p f ∧ Iq (P3 n) h h' := by
  obtain ⟨b1, b2, b3, b4, b5⟩ := id B
  have R1 := R.wa (a := n + 1) (i := 3) (v := hI h (n + 1) 3 + 1) (by omega)
  refine ⟨wI h (n + 1) 3 (hI h (n + 1) 3 + 1), ?_, R1, P3_w (by omega)⟩
  have rfs : c_Re_refuse d (some n) y 3 (wI h (n + 1) 3 (hI h (n + 1) 3 + 1)) = some (wI h (n + 1) 3 (hI h (n + 1) 3 + 1)) := by
    refine (e_Re_refuse _ _ _ _ _).trans ?_
    refine (if_pos R1.1).trans ?_
    exact if_pos (fun y => hf (R1.2.2.2.2.1.symm.trans y))
  refine (e_RR_countPart _ _ _ _).trans ?_
  refine (if_pos b1).trans ?_
  refine (if_pos b1).trans ?_
  refine (if_pos b1).trans ?_
  refine if_both rfl ?_
  refine (if_pos b1).trans ?_
  refine (bnd b2 _).trans ?_
  refine (if_pos R.1).trans ?_
  exact (bnd (show c_Re_refuse d (hR h (n + 1) 0) y 3 (wI h (n + 1) 3 (hI h (n + 1) 3 + 1)) = _ by rw [b2]; exact rfs) _).trans rfl
theorem RR_count_ok (A : RA h n t T z) (hq : q ≤ T) : (z.2.2 ≠ 60 → ∃ h', c_RR_countPart d (some (n + 1)) (nI q) h = some h' ∧ RA h' n t T (z.1, z.2.1, z.2.2 + 1) ∧ Iq (P3 n) h h') ∧ (z.2.2 = 60 → ∃ h', c_RR_countPart d (some (n + 1)) (nI q) h = some h' ∧ Rd h' n T z.1 (nI (1 + 8 * q + 3)) ∧ 1 + 8 * q + 3 < 10000 ∧ Iq (P3 n) h h') := by
  obtain ⟨X, B, C, D, G, O, l⟩ := A
  obtain ⟨b1, b2, b3, b4, b5⟩ := id B
  obtain ⟨d2, d3, d4⟩ := D
  have n73 := C.2.2.2.2.2
  have x3 := X.2.2.1
  have Q : Iq (P3 n) h (wI h (n + 1) 3 (nI (z.2.2 + 1))) := P3_w (by omega)
  have C1 : Rd (wI h (n + 1) 3 (nI (z.2.2 + 1))) n T z.1 nM := C.wa (by omega)
  have o2 := O.2
  have pre : ∀ o, (if nI (z.2.2 + 1) ≤ (60 : Int32) then some (wI h (n + 1) 3 (nI (z.2.2 + 1))) else if hK h (n + 1) = 8 then Option.bind (hR h (n + 1) 0) fun a3 => if hK h a3 = 6 then Option.bind (c_Re_refuse d (hR h (n + 1) 0) (nI q) (3 : Int32) (wI h (n + 1) 3 (nI (z.2.2 + 1)))) fun q2 => some q2 else none else none) = o → c_RR_countPart d (some (n + 1)) (nI q) h = o := by
    intro o ho
    rw [← ho]
    refine (e_RR_countPart _ _ _ _).trans ?_
    refine (if_pos b1).trans ?_
    refine (if_pos b1).trans ?_
    refine (if_pos b1).trans ?_
    have e : hI (wI h (n + 1) 3 (hI h (n + 1) 3 + 1)) (n + 1) 3 = nI (z.2.2 + 1) := by rw [hI_se, d3, nI_1]
    show (if hI (wI h (n + 1) 3 (hI h (n + 1) 3 + 1)) (n + 1) 3 ≤ (60 : Int32) then some (wI h (n + 1) 3 (hI h (n + 1) 3 + 1)) else if hK h (n + 1) = 8 then Option.bind (hR h (n + 1) 0) fun a3 => if hK h a3 = 6 then Option.bind (c_Re_refuse d (hR h (n + 1) 0) (nI q) (3 : Int32) (wI h (n + 1) 3 (hI h (n + 1) 3 + 1))) fun q2 => some q2 else none else none) = _
    rw [e, show hI h (n + 1) 3 + 1 = nI (z.2.2 + 1) by rw [d3, nI_1]]
  refine ⟨fun h60 => ⟨_, pre _ (if_pos (show nI (z.2.2 + 1) ≤ nI 60 from nI_le (by omega) (by omega))), ⟨X.p3 Q n73, B, C1, ⟨?_, hI_se, fun i o hi => ?_⟩, G.pn Q n73, ⟨O.1, by show z.2.2 + 1 ≤ 60; omega⟩, l⟩, Q⟩, fun h60 => ?_⟩
  · rw [hI_ni (by omega)]; exact d2
  · rw [hI_na (by omega)]; exact d4 i o hi
  · obtain ⟨h2, e1, e2, e3⟩ := Re_refuse_ok (d := d) C1 (q := q) (k := 3)
    rw [if_pos rfl] at e2
    refine ⟨h2, pre _ ?_, e2, by omega, Q.trans (P3_of e3)⟩
    refine (if_neg (show ¬ nI (z.2.2 + 1) ≤ nI 60 from nI_ge (by omega) (by omega))).trans ?_
    refine (if_pos b1).trans ?_
    refine (bnd b2 _).trans ?_
    refine (if_pos C.1).trans ?_
    exact (bnd (show c_Re_refuse d (hR h (n + 1) 0) (nI q) 3 (wI h (n + 1) 3 (nI (z.2.2 + 1))) = some h2 by rw [b2]; exact e1) _).trans rfl
/-- one value is counted and put -/
theorem RR_cp (A : RA h n t T z) (hq : q ≤ T) (hl : z.2.1.length + 1 ≤ z.1) (o : Nat × Nat) : ∃ h1 h2, c_RR_countPart d (some (n + 1)) (nI q) h = some h1 ∧ c_RR_put d (some (n + 1)) (oC o) h1 = some h2 ∧ h1.1 = h.1 ∧ Rz h h2 n t T (zMk z.1 q (z.2.1 ++ [o]) z.2.2) := by
  have C := RR_count_ok (d := d) A hq
  unfold zMk
  by_cases h60 : z.2.2 = 60
  · obtain ⟨h1, e1, e3, e4, e5⟩ := C.2 h60
    rw [if_pos h60]
    exact ⟨h1, h1, e1, RR_put_f (A.2.1.pn e5) e3 (fne e4), e5.1, e5, Or.inr ⟨_, rfl, z.1, A.2.2.2.2.2.1.1, e3, e4⟩⟩
  · obtain ⟨h1, e1, e2, e3⟩ := C.1 h60
    obtain ⟨h2, f1, f2, f3⟩ := RR_put_ok (d := d) e2 hl o
    rw [if_neg h60]
    exact ⟨h1, h2, e1, f1, e3.1, e3.trans f3, Or.inl ⟨_, rfl, f2⟩⟩
theorem RR_value_ok (A : RA h n t T z) : ∃ h', c_RR_readValue d (some (n + 1)) h = some h' ∧ Rz h h' n t T (valP t T z) := by
  obtain ⟨X, B, C, D, G, O, l⟩ := id A
  obtain ⟨b1, b2, b3, b4, b5⟩ := id B
  have n73 := C.2.2.2.2.2
  have x3 := X.2.2.1
  have hq := nxt_le (t := t) O.1
  have hqq := nxt_nxt (t := t) O.1
  obtain ⟨h1, e1, e2, e3⟩ := Re_next_ok (d := d) X C O.1
  have A1 := A.rd e3 e2 hq.2 hq.1
  have X1 := A1.1
  have j2 := e2.2.2.2.1
  have so := Re_sound_ok (d := d) e2
  rw [decide_eq_true rfl] at so
  have di := Re_isDigit_ok (d := d) (h := h1) (p := nxt t T z.1) X1
  have c1 := C.1
  obtain ⟨I, rfl⟩ := e3.hw
  have pre : ∀ o, (if bi (dgt t T (nxt t T z.1)) = 0 then
      Option.bind (hR h (n + 1) 0) fun a12 => if hK h a12 = 6 then
      Option.bind (c_Re_wordOf d (hR h (n + 1) 0) (some 4) (hw h I)) fun (q5 : sk_H × Int32) =>
      if ¬ q5.2 = ((-1) : Int32) then
        if hK q5.1 (n + 1) = 8 then
        Option.bind (hR q5.1 (n + 1) 0) fun a9 => if hK q5.1 a9 = 6 then
        Option.bind (c_Re_skipWord d (hR q5.1 (n + 1) 0) q5.1) fun q6 =>
        if hK q6 (n + 1) = 8 then
        Option.bind (c_RR_countPart d (some (n + 1)) (nI (nxt t T z.1)) q6) fun q7 =>
        if hK q7 (n + 1) = 8 then
        Option.bind (c_RR_put d (some (n + 1)) ((100000 : Int32) + q5.2) q7) fun q8 =>
        some q8
        else none
        else none
        else none
        else none
      else
        if hK q5.1 (n + 1) = 8 then
        Option.bind (hR q5.1 (n + 1) 0) fun a11 => if hK q5.1 a11 = 6 then
        Option.bind (c_Re_refuse d (hR q5.1 (n + 1) 0) (nI (nxt t T z.1)) (0 : Int32) q5.1) fun q10 =>
        some q10
        else none
        else none
      else none
    else
      Option.bind (hR h (n + 1) 0) fun a16 => if hK h a16 = 6 then
      Option.bind (c_Re_number d (hR h (n + 1) 0) (0 : Int32) (99999 : Int32) (hw h I)) fun (q13 : sk_H × Int32) =>
      if hK q13.1 (n + 1) = 8 then
      Option.bind (c_RR_countPart d (some (n + 1)) (nI (nxt t T z.1)) q13.1) fun q14 =>
      if hK q14 (n + 1) = 8 then
      Option.bind (c_RR_put d (some (n + 1)) q13.2 q14) fun q15 =>
      some q15
      else none
      else none
      else none) = o → c_RR_readValue d (some (n + 1)) h = o := by
    intro o ho
    rw [← ho]
    refine (e_RR_readValue _ _ _).trans ?_
    refine (if_pos b1).trans ?_
    refine (bnd b2 _).trans ?_
    refine (if_pos c1).trans ?_
    refine (bnd (show c_Re_next d (hR h (n + 1) 0) h = _ by rw [b2]; exact e1) _).trans ?_
    refine (if_pos b1).trans ?_
    refine (bnd b2 _).trans ?_
    refine (if_pos c1).trans ?_
    refine (if_pos b1).trans ?_
    refine (bnd b2 _).trans ?_
    refine (if_pos c1).trans ?_
    refine (bnd (show c_Re_sound d (hR h (n + 1) 0) (hw h I) = _ by rw [b2]; exact so) _).trans ?_
    refine (if_pos nb1).trans ?_
    refine (bnd di _).trans ?_
    by_cases y : bi (dgt t T (nxt t T z.1)) = 0
    · refine (if_pos y).trans ?_
      refine Eq.trans ?_ (if_pos y).symm
      refine (if_pos b1).trans ?_
      show _ = _
      rw [← j2]
      rfl
    · refine (if_neg y).trans ?_
      refine Eq.trans ?_ (if_neg y).symm
      refine (if_pos b1).trans ?_
      rw [← j2]
      rfl
  unfold valP
  by_cases y : dgt t T (nxt t T z.1) = true
  · rw [if_pos y]
    rw [y] at pre
    rcases Re_number_ok (d := d) (Bds.of (l := 0) (u := 99999) (by omega) (by omega)) X1 e2 hq.2 with ⟨e, v, h2, g0, g1, g2, g3, g4, g5⟩ | ⟨g, v, p, h2, g0, g1, g2, g3, g4, g5⟩
    · rw [nmR_nxt O.1] at g0
      have g0 : nmR t T z.1 0 100000 = .inr (e, v) := g0
      rw [g0]
      have he : nxt t T z.1 + 1 ≤ e := by
        unfold nmR at g0
        rw [if_pos y] at g0
        by_cases k2 : dgE t T (nxt t T z.1) ≤ nxt t T z.1 + 5 ∧ 0 ≤ nv 0 0 (dl t T (nxt t T z.1)) ∧ nv 0 0 (dl t T (nxt t T z.1)) < 100000
        · rw [if_pos k2] at g0
          have := (Prod.mk.inj (Sum.inr.inj g0)).1
          have : dgE t T (nxt t T z.1) = dgE t T (nxt t T z.1 + 1) := dgE_c y
          have hd2 := dgE_le (t := t) (T := T) (p := nxt t T z.1 + 1) (by have := (of_decide_eq_true y).1; omega)
          omega
        · rw [if_neg k2] at g0; cases g0
      have A2 := A1.rd g3 g2 g4 (by show nxt t T z.1 ≤ e; omega)
      obtain ⟨h3, h4, k1, k2, k3, k4⟩ := RR_cp (d := d) A2 (show nxt t T z.1 ≤ T from hq.2) (by show z.2.1.length + 1 ≤ e; omega) (0, v)
      obtain ⟨I2, rfl⟩ : ∃ I2, h2 = hw h I2 := (e3.trans g3).hw
      refine ⟨h4, pre _ ?_, ⟨(P3_of (e3.trans g3)).trans k4.1, k4.2⟩⟩
      refine (if_neg nb1).trans ?_
      refine (bnd b2 _).trans ?_
      refine (if_pos c1).trans ?_
      refine (bnd (show c_Re_number d (hR h (n + 1) 0) 0 99999 (hw h I) = _ by rw [b2]; exact g1) _).trans ?_
      refine (if_pos b1).trans ?_
      refine (bnd k1 _).trans ?_
      refine (if_pos (show hK h3 (n + 1) = 8 by rw [show hK h3 = hK h from congrArg (fun x => x.1) k3]; exact b1)).trans ?_
      exact (bnd k2 _).trans rfl
    · rw [nmR_nxt O.1] at g0
      have g0 : nmR t T z.1 0 100000 = .inl g := g0
      rw [g0]
      have hg := nmR_lt O.1 x3 g0
      obtain ⟨h3, k1, k2, k3⟩ := RR_count_f (d := d) (B.pn ((P3_of e3).trans (P3_of g3))) g2 (fne hg) (y := nI (nxt t T z.1))
      have k4 := RR_put_f (d := d) (x := nI v) (B.pn (((P3_of e3).trans (P3_of g3)).trans k3)) k2 (fne hg)
      have kk : hK h3 (n + 1) = 8 := by rw [k3.eK, g3.eK]; exact b1
      obtain ⟨I2, rfl⟩ : ∃ I2, h2 = hw h I2 := (e3.trans g3).hw
      refine ⟨h3, pre _ ?_, ((P3_of e3).trans (P3_of g3)).trans k3, Or.inr ⟨g, rfl, p, g4, k2, hg⟩⟩
      refine (if_neg nb1).trans ?_
      refine (bnd b2 _).trans ?_
      refine (if_pos c1).trans ?_
      refine (bnd (show c_Re_number d (hR h (n + 1) 0) 0 99999 (hw h I) = _ by rw [b2]; exact g1) _).trans ?_
      refine (if_pos b1).trans ?_
      refine (bnd k1 _).trans ?_
      refine (if_pos kk).trans ?_
      exact (bnd k4 _).trans rfl
  · rw [if_neg y]
    have y : dgt t T (nxt t T z.1) = false := by simpa using y
    rw [y] at pre
    obtain ⟨h2, g1, g2, g3⟩ := Re_wordOf_ok (d := d) (A1.2.2.2.2.1 2 (by omega)) (by omega) X1 e2 hq.2 spR
    rw [hqq, wix_N] at g1
    rw [hqq] at g2
    have A2 := A1.rd g3 g2 hq.2 (Nat.le_refl _)
    have kk : hK h2 (n + 1) = 8 := by rw [g3.eK]; exact b1
    have rr : hR h2 (n + 1) 0 = some n := by rw [g3.eR]; exact b2
    cases hx : wxN (wdl t T (nxt t T z.1)) rWs 0 with
    | none =>
      rw [hx] at g1
      obtain ⟨h3, k1, k2, k3⟩ := Re_refuse_ok (d := d) g2 (q := nxt t T z.1) (k := 0)
      rw [if_pos rfl] at k2
      refine ⟨h3, pre _ ?_, ((P3_of e3).trans (P3_of g3)).trans (P3_of k3), Or.inr ⟨_, rfl, nxt t T z.1, hq.2, k2, by omega⟩⟩
      refine (if_pos rfl).trans ?_
      refine (bnd b2 _).trans ?_
      refine (if_pos c1).trans ?_
      refine (bnd (show c_Re_wordOf d (hR h (n + 1) 0) (some 4) (hw h I) = _ by rw [b2]; exact g1) _).trans ?_
      refine (if_neg (fun w => w rfl)).trans ?_
      refine (if_pos kk).trans ?_
      refine (bnd rr _).trans ?_
      refine (if_pos g2.1).trans ?_
      exact (bnd (show c_Re_refuse d (hR h2 (n + 1) 0) (nI (nxt t T z.1)) 0 h2 = some h3 by rw [rr]; exact k1) _).trans rfl
    | some k =>
      rw [hx] at g1
      have hk : k < 11 := wxN_lt _ rWs 0 k hx
      have hl : 0 < (wdl t T (nxt t T z.1)).length := by
        have y : ∀ w ∈ rWs, 0 < w.length := by decide
        exact y _ (wxN_mem _ rWs 0 k hx)
      obtain ⟨h3, k1, k2, k3⟩ := Re_skipWord_ok (d := d) A2.1 g2 hq.2
      have hE := wE_le (t := t) hq.2
      have hE1 : nxt t T z.1 + 1 ≤ wE t T (nxt t T z.1) := by unfold wE; omega
      have A3 := A2.rd k3 k2 hE.2 (by show nxt t T z.1 ≤ wE t T (nxt t T z.1); omega)
      obtain ⟨h4, h5, m1, m2, m3, m4⟩ := RR_cp (d := d) A3 (show nxt t T z.1 ≤ T from hq.2) (by show z.2.1.length + 1 ≤ wE t T (nxt t T z.1); omega) (1, k)
      have kk3 : hK h3 (n + 1) = 8 := by rw [k3.eK]; exact kk
      refine ⟨h5, pre _ ?_, ⟨(((P3_of e3).trans (P3_of g3)).trans (P3_of k3)).trans m4.1, m4.2⟩⟩
      refine (if_pos rfl).trans ?_
      refine (bnd b2 _).trans ?_
      refine (if_pos c1).trans ?_
      refine (bnd (show c_Re_wordOf d (hR h (n + 1) 0) (some 4) (hw h I) = _ by rw [b2]; exact g1) _).trans ?_
      refine (if_pos (show ¬ nI k = nM by rw [q_m1 (by omega)]; exact not_false)).trans ?_
      refine (if_pos kk).trans ?_
      refine (bnd rr _).trans ?_
      refine (if_pos g2.1).trans ?_
      refine (bnd (show c_Re_skipWord d (hR h2 (n + 1) 0) h2 = some h3 by rw [rr]; exact k1) _).trans ?_
      refine (if_pos kk3).trans ?_
      refine (bnd m1 _).trans ?_
      refine (if_pos (show hK h4 (n + 1) = 8 by rw [show hK h4 = hK h3 from congrArg (fun x => x.1) m3]; exact kk3)).trans ?_
      refine (bnd (show c_RR_put d (some (n + 1)) ((100000 : Int32) + nI k) h4 = some h5 by rw [show (100000 : Int32) = nI 100000 from rfl, nI_add]; exact m2) _).trans rfl
end SkRulec
