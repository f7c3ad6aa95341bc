/-! ===== the class reads a comparison ===== -/
section SkRulecmp
variable {h h' h1 h2 : sk_H} {t : Nat → Nat} {T n d p q g o e : Nat} {z z1 : RZ} {f x : Int32} {r : Nat ⊕ RZ}
theorem RR_107 (R : Rd h n T p f) {b c : Nat} : k_RR_readSign_107 d (nI c) (nI b) (nI b) (nI p) (some n) h = some (wI h n 2 (nI (p + b)), if nI c = (60 : Int32) then (if nI b = 0 then (-6 : Int32) else -7) else (if nI b = 0 then (-10 : Int32) else -9)) := by
  refine (e_RR_readSign_107 _ _ _ _ _ _ _).trans ?_
  refine (bnd rfl _).trans ?_
  refine (if_pos R.1).trans ?_
  rw [nI_add]
  by_cases y : nI c = (60 : Int32)
  · rw [if_pos y]
    refine (if_neg (fun w => w y)).trans ?_
    by_cases y2 : nI b = 0
    · refine (if_pos y2).trans ?_
      rw [if_pos y2]
    · refine (if_neg y2).trans ?_
      rw [if_neg y2]
  · rw [if_neg y]
    refine (if_pos y).trans ?_
    by_cases y2 : nI b = 0
    · refine (if_pos y2).trans ?_
      rw [if_pos y2]
    · refine (if_neg y2).trans ?_
      rw [if_neg y2]
theorem RR_sign_45 (X : Tx h1 t T) (B : RRS h1 n) (R : Rd h1 n T q f) (hs : sgC t T q = some (o, e)) (b1 : hK h (n + 1) = 8) (ec : c_RR_countPart d (some (n + 1)) (nI q) h = some h1) : ∃ h2, k_RR_readSign_45 d (some (n + 1)) (nI (t q)) (nI q) h = some (h2, oC (o, 0)) ∧ Rd h2 n T e f ∧ Iq (PRd n) h1 h2 := by
  obtain ⟨c1, c2, c3, c4, c5⟩ := id B
  have x3 := X.2.2.1
  have hqT : q < T := by
    unfold sgC at hs
    by_cases y : q < T
    · exact y
    · rw [if_neg y] at hs; cases hs
  have tl := (X.2.2.2 q hqT).1
  have R4 : Rd (wI h1 n 2 (nI (q + 1))) n T (q + 1) f := R.w2
  have X4 : Tx (wI h1 n 2 (nI (q + 1))) t T := X.iq PRd_w2 R.2.2.2.2.2
  have lo := Re_look_ok (d := d) X4 R4 (by omega)
  have pre : ∀ w, (if ¬ nI (t q) = (61 : Int32) then
      if hK h1 (n + 1) = 8 then
      Option.bind (hR h1 (n + 1) 0) fun a8 => if hK h1 a8 = 6 then
      Option.bind (c_Re_look d (hR h1 (n + 1) 0) (wI h1 n 2 (nI (q + 1)))) fun (q5 : sk_H × Int32) =>
      if ¬ q5.2 = (61 : Int32) then
        if hK q5.1 (n + 1) = 8 then
        Option.bind (hR q5.1 (n + 1) 0) fun a6 => if hK q5.1 a6 = 6 then
        if (0 : Int32) = 0 then
          k_RR_readSign_107 d (nI (t q)) (0 : Int32) (0 : Int32) (hI q5.1 a6 2) (hR q5.1 (n + 1) 0) q5.1
        else
          k_RR_readSign_107 d (nI (t q)) (0 : Int32) (1 : Int32) (hI q5.1 a6 2) (hR q5.1 (n + 1) 0) q5.1
        else none
        else none
      else
        if hK q5.1 (n + 1) = 8 then
        Option.bind (hR q5.1 (n + 1) 0) fun a7 => if hK q5.1 a7 = 6 then
        if (1 : Int32) = 0 then
          k_RR_readSign_107 d (nI (t q)) (1 : Int32) (0 : Int32) (hI q5.1 a7 2) (hR q5.1 (n + 1) 0) q5.1
        else
          k_RR_readSign_107 d (nI (t q)) (1 : Int32) (1 : Int32) (hI q5.1 a7 2) (hR q5.1 (n + 1) 0) q5.1
        else none
        else none
      else none
      else none
    else
      some (wI h1 n 2 (nI (q + 1)), ((-8) : Int32))) = w → k_RR_readSign_45 d (some (n + 1)) (nI (t q)) (nI q) h = w := by
    intro w hw
    rw [← hw]
    refine (e_RR_readSign_45 _ _ _ _ _).trans ?_
    refine (if_pos b1).trans ?_
    refine (bnd ec _).trans ?_
    refine (if_pos c1).trans ?_
    refine (bnd c2 _).trans ?_
    refine (if_pos R.1).trans ?_
    refine (bnd c2 _).trans ?_
    refine (if_pos R.1).trans ?_
    rw [R.2.2.2.1, nI_1]
    rfl
  have go : ∀ b : Nat, b ≤ 1 → ¬ nI (t q) = (61 : Int32) → (lk t T (q + 1) = nI 61 ↔ b = 1) → k_RR_readSign_45 d (some (n + 1)) (nI (t q)) (nI q) h = some (wI (wI h1 n 2 (nI (q + 1))) n 2 (nI (q + 1 + b)), if nI (t q) = (60 : Int32) then (if nI b = 0 then (-6 : Int32) else -7) else (if nI b = 0 then (-10 : Int32) else -9)) := by
    intro b hb n61 hl
    refine pre _ ?_
    refine (if_pos n61).trans ?_
    refine (if_pos c1).trans ?_
    refine (bnd c2 _).trans ?_
    refine (if_pos R.1).trans ?_
    refine (bnd (show c_Re_look d (hR h1 (n + 1) 0) (wI h1 n 2 (nI (q + 1))) = _ by rw [c2]; exact lo) _).trans ?_
    have k7 := RR_107 (d := d) R4 (b := b) (c := t q)
    by_cases y : lk t T (q + 1) = nI 61
    · have b1' := hl.mp y
      subst b1'
      refine (if_neg (fun w => w y)).trans ?_
      refine (if_pos c1).trans ?_
      refine (bnd c2 _).trans ?_
      refine (if_pos R.1).trans ?_
      refine (if_neg n10).trans ?_
      show k_RR_readSign_107 d (nI (t q)) (nI 1) (nI 1) (hI (wI h1 n 2 (nI (q + 1))) n 2) (hR h1 (n + 1) 0) (wI h1 n 2 (nI (q + 1))) = _
      rw [hI_se, c2]
      exact k7
    · have b0 : b = 0 := by
        rcases (show b = 0 ∨ b = 1 by omega) with w | w
        · exact w
        · exact absurd (hl.mpr w) y
      subst b0
      refine (if_pos y).trans ?_
      refine (if_pos c1).trans ?_
      refine (bnd c2 _).trans ?_
      refine (if_pos R.1).trans ?_
      refine (if_pos rfl).trans ?_
      show k_RR_readSign_107 d (nI (t q)) (nI 0) (nI 0) (hI (wI h1 n 2 (nI (q + 1))) n 2) (hR h1 (n + 1) 0) (wI h1 n 2 (nI (q + 1))) = _
      rw [hI_se, c2]
      exact k7
  have hlk : ∀ b : Nat, (b = 1 ↔ q + 1 < T ∧ t (q + 1) = 61) → (lk t T (q + 1) = nI 61 ↔ b = 1) := by
    intro b hb
    rw [hb]
    unfold lk
    by_cases y : q + 1 < T
    · have tl1 := (X.2.2.2 (q + 1) y).1
      rw [if_pos y, nI_eq (by omega) (by omega)]
      exact ⟨fun w => ⟨y, w⟩, fun w => w.2⟩
    · rw [if_neg y]
      exact ⟨fun w => absurd w (by decide), fun w => absurd w.1 y⟩
  have QQ : ∀ v, Iq (PRd n) h1 (wI (wI h1 n 2 (nI (q + 1))) n 2 v) := fun v => PRd_w2.trans PRd_w2
  unfold sgC at hs
  rw [if_pos hqT] at hs
  by_cases t60 : t q = 60
  · rw [if_pos t60] at hs
    have n61 : ¬ nI (t q) = (61 : Int32) := by rw [t60]; decide
    by_cases y : q + 1 < T ∧ t (q + 1) = 61
    · rw [if_pos y] at hs
      obtain ⟨h1', h2'⟩ := Prod.mk.inj (Option.some.inj hs)
      subst h1'; subst h2'
      have k := go 1 (by omega) n61 (hlk 1 ⟨fun _ => y, fun _ => rfl⟩)
      rw [t60] at k ⊢
      exact ⟨_, k, R4.w2, QQ _⟩
    · rw [if_neg y] at hs
      obtain ⟨h1', h2'⟩ := Prod.mk.inj (Option.some.inj hs)
      subst h1'; subst h2'
      have k := go 0 (by omega) n61 (hlk 0 ⟨fun w => absurd w (by omega), fun w => absurd w y⟩)
      rw [t60] at k ⊢
      exact ⟨_, k, R4.w2, QQ _⟩
  · rw [if_neg t60] at hs
    by_cases t61 : t q = 61
    · rw [if_pos t61] at hs
      obtain ⟨h1', h2'⟩ := Prod.mk.inj (Option.some.inj hs)
      subst h1'; subst h2'
      refine ⟨_, pre _ ?_, R4, PRd_w2⟩
      exact if_neg (fun w => w (by rw [t61]; rfl))
    · rw [if_neg t61] at hs
      by_cases t62 : t q = 62
      · rw [if_pos t62] at hs
        have n61 : ¬ nI (t q) = (61 : Int32) := by rw [t62]; decide
        by_cases y : q + 1 < T ∧ t (q + 1) = 61
        · rw [if_pos y] at hs
          obtain ⟨h1', h2'⟩ := Prod.mk.inj (Option.some.inj hs)
          subst h1'; subst h2'
          have k := go 1 (by omega) n61 (hlk 1 ⟨fun _ => y, fun _ => rfl⟩)
          rw [t62] at k ⊢
          exact ⟨_, k, R4.w2, QQ _⟩
        · rw [if_neg y] at hs
          obtain ⟨h1', h2'⟩ := Prod.mk.inj (Option.some.inj hs)
          subst h1'; subst h2'
          have k := go 0 (by omega) n61 (hlk 0 ⟨fun w => absurd w (by omega), fun w => absurd w y⟩)
          rw [t62] at k ⊢
          exact ⟨_, k, R4.w2, QQ _⟩
      · rw [if_neg t62] at hs; cases hs
/-- where the sign stands -/
theorem RR_sign_pre (X : Tx h t T) (B : RRS h n) (R : Rd h n T p f) (hp : p ≤ T) : ∃ h1, Rd h1 n T (nxt t T p) f ∧ Iq (PRd n) h h1 ∧ ((sgC t T (nxt t T p) = none ∧ c_RR_readSign d (some (n + 1)) h = Option.bind (c_Re_refuse d (some n) (nI (nxt t T p)) 0 h1) fun q3 => some (q3, (0 : Int32))) ∨ ∃ o e, sgC t T (nxt t T p) = some (o, e) ∧ c_RR_readSign d (some (n + 1)) h = k_RR_readSign_45 d (some (n + 1)) (nI (t (nxt t T p))) (nI (nxt t T p)) h1) := by
  obtain ⟨c1, c2, c3, c4, c5⟩ := id B
  obtain ⟨h1, e1, e2, e3⟩ := Re_next_ok (d := d) X R hp
  have j2 := e2.2.2.2.1
  have r1 := R.1
  have hq := nxt_le (t := t) hp
  have x3 := X.2.2.1
  obtain ⟨I, rfl⟩ := e3.hw
  refine ⟨_, e2, e3, ?_⟩
  have pre : ∀ w, (if lk t T (nxt t T p) = (60 : Int32) then k_RR_readSign_45 d (some (n + 1)) (lk t T (nxt t T p)) (nI (nxt t T p)) (hw h I) else if lk t T (nxt t T p) = (61 : Int32) then k_RR_readSign_45 d (some (n + 1)) (lk t T (nxt t T p)) (nI (nxt t T p)) (hw h I) else if lk t T (nxt t T p) = (62 : Int32) then k_RR_readSign_45 d (some (n + 1)) (lk t T (nxt t T p)) (nI (nxt t T p)) (hw h I) else if hK h (n + 1) = 8 then Option.bind (hR h (n + 1) 0) fun a4 => if hK h a4 = 6 then Option.bind (c_Re_refuse d (hR h (n + 1) 0) (nI (nxt t T p)) (0 : Int32) (hw h I)) fun q3 => some (q3, (0 : Int32)) else none else none) = w → c_RR_readSign d (some (n + 1)) h = w := by
    intro w hw'
    rw [← hw']
    refine (e_RR_readSign _ _ _).trans ?_
    refine (if_pos c1).trans ?_
    refine (bnd c2 _).trans ?_
    refine (if_pos r1).trans ?_
    refine (bnd (show c_Re_next d (hR h (n + 1) 0) h = _ by rw [c2]; exact e1) _).trans ?_
    refine (if_pos c1).trans ?_
    refine (bnd c2 _).trans ?_
    refine (if_pos r1).trans ?_
    rw [← j2]
    rfl
  by_cases y : nxt t T p < T
  · have tl := (X.2.2.2 _ y).1
    rw [lk_lt y] at pre
    have ne : ∀ k, t (nxt t T p) ≠ k → k < 256 → ¬ nI (t (nxt t T p)) = nI k := fun k hk h2 => by rw [q_eq_f hk (by omega) (by omega)]; exact not_false
    by_cases t60 : t (nxt t T p) = 60
    · refine Or.inr ?_
      have : ∃ o e, sgC t T (nxt t T p) = some (o, e) := by
        unfold sgC
        rw [if_pos y, if_pos t60]
        by_cases w : nxt t T p + 1 < T ∧ t (nxt t T p + 1) = 61
        · rw [if_pos w]; exact ⟨_, _, rfl⟩
        · rw [if_neg w]; exact ⟨_, _, rfl⟩
      obtain ⟨o, e, hs⟩ := this
      exact ⟨o, e, hs, pre _ (if_pos (show nI _ = nI 60 by rw [t60]))⟩
    · by_cases t61 : t (nxt t T p) = 61
      · refine Or.inr ⟨8, nxt t T p + 1, ?_, pre _ ?_⟩
        · unfold sgC
          rw [if_pos y, if_neg t60, if_pos t61]
        · refine (if_neg (ne 60 t60 (by omega))).trans ?_
          exact if_pos (show nI _ = nI 61 by rw [t61])
      · by_cases t62 : t (nxt t T p) = 62
        · refine Or.inr ?_
          have : ∃ o e, sgC t T (nxt t T p) = some (o, e) := by
            unfold sgC
            rw [if_pos y, if_neg t60, if_neg t61, if_pos t62]
            by_cases w : nxt t T p + 1 < T ∧ t (nxt t T p + 1) = 61
            · rw [if_pos w]; exact ⟨_, _, rfl⟩
            · rw [if_neg w]; exact ⟨_, _, rfl⟩
          obtain ⟨o, e, hs⟩ := this
          refine ⟨o, e, hs, pre _ ?_⟩
          refine (if_neg (ne 60 t60 (by omega))).trans ?_
          refine (if_neg (ne 61 t61 (by omega))).trans ?_
          exact if_pos (show nI _ = nI 62 by rw [t62])
        · refine Or.inl ⟨?_, pre _ ?_⟩
          · unfold sgC
            rw [if_pos y, if_neg t60, if_neg t61, if_neg t62]
          · refine (if_neg (ne 60 t60 (by omega))).trans ?_
            refine (if_neg (ne 61 t61 (by omega))).trans ?_
            refine (if_neg (ne 62 t62 (by omega))).trans ?_
            refine (if_pos c1).trans ?_
            refine (bnd c2 _).trans ?_
            refine (if_pos r1).trans ?_
            rw [c2]
  · refine Or.inl ⟨by unfold sgC; rw [if_neg y], pre _ ?_⟩
    have lm : lk t T (nxt t T p) = nM := by unfold lk; rw [if_neg y]
    rw [lm]
    refine (if_neg (by decide)).trans ?_
    refine (if_neg (by decide)).trans ?_
    refine (if_neg (by decide)).trans ?_
    refine (if_pos c1).trans ?_
    refine (bnd c2 _).trans ?_
    refine (if_pos r1).trans ?_
    rw [c2]
theorem RR_sign_f (X : Tx h t T) (B : RRS h n) (R : Rd h n T p f) (hf : f ≠ nM) (hp : p ≤ T) : ∃ h' v p', c_RR_readSign d (some (n + 1)) h = some (h', v) ∧ p' ≤ T ∧ Rd h' n T p' f ∧ Iq (P3 n) h h' := by
  have n73 := R.2.2.2.2.2
  have hq := nxt_le (t := t) hp
  obtain ⟨h1, e1, e2, e3⟩ := RR_sign_pre (d := d) X B R hp
  rcases e3 with ⟨-, e3⟩ | ⟨o, e, hs, e3⟩
  · obtain ⟨h2, k1, k2, k3⟩ := Re_refuse_ok (d := d) e1 (q := nxt t T p) (k := 0)
    rw [if_neg hf] at k2
    refine ⟨h2, 0, _, e3.trans ?_, hq.2, k2, (P3_of e2).trans (P3_of k3)⟩
    exact (bnd (show c_Re_refuse d (some n) (nI (nxt t T p)) 0 h1 = some h2 from k1) _).trans rfl
  · obtain ⟨h2, k1, k2, k3⟩ := RR_count_f (d := d) (B.pn (P3_of e2)) e1 hf (y := nI (nxt t T p))
    have Q2 := (P3_of e2).trans k3
    obtain ⟨h3, m1, m2, m3⟩ := RR_sign_45 (d := d) (X.p3 Q2 n73) (B.pn Q2) k2 hs (B.pn (P3_of e2)).1 k1
    have hc := sgC_in hs
    exact ⟨h3, _, e, e3.trans m1, hc.2.1, m2, Q2.trans (P3_of m3)⟩
theorem RR_sign_ok (A : RA h n t T z) : ∃ h' v, c_RR_readSign d (some (n + 1)) h = some (h', v) ∧ ((sgC t T (nxt t T z.1) = none ∧ Iq (P3 n) h h' ∧ RF h' n T (1 + 8 * nxt t T z.1 + 0)) ∨ ∃ o e, sgC t T (nxt t T z.1) = some (o, e) ∧ v = oC (o, 0) ∧ Rz h h' n t T (zMk e (nxt t T z.1) z.2.1 z.2.2)) := by
  obtain ⟨X, B, C, D, G, O, l⟩ := id A
  have n73 := C.2.2.2.2.2
  have x3 := X.2.2.1
  have hq := nxt_le (t := t) O.1
  obtain ⟨h1, e1, e2, e3⟩ := RR_sign_pre (d := d) X B C O.1
  rcases e3 with ⟨hs, e3⟩ | ⟨o, e, hs, e3⟩
  · obtain ⟨h2, k1, k2, k3⟩ := Re_refuse_ok (d := d) e1 (q := nxt t T z.1) (k := 0)
    rw [if_pos rfl] at k2
    refine ⟨h2, 0, e3.trans ?_, Or.inl ⟨hs, (P3_of e2).trans (P3_of k3), _, hq.2, k2, by omega⟩⟩
    exact (bnd (show c_Re_refuse d (some n) (nI (nxt t T z.1)) 0 h1 = some h2 from k1) _).trans rfl
  · have hc := sgC_in hs
    have A1 := A.rd e2 e1 hq.2 hq.1
    have CC := RR_count_ok (d := d) A1 (q := nxt t T z.1) hq.2
    by_cases h60 : z.2.2 = 60
    · obtain ⟨h2, k1, pq, p3, k3⟩ := CC.2 h60
      have Q2 := (P3_of e2).trans k3
      obtain ⟨h3, m1, m2, m3⟩ := RR_sign_45 (d := d) (X.p3 Q2 n73) (B.pn Q2) pq hs (B.pn (P3_of e2)).1 k1
      refine ⟨h3, _, e3.trans m1, Or.inr ⟨o, e, hs, rfl, Q2.trans (P3_of m3), Or.inr ⟨_, ?_, e, hc.2.1, m2, p3⟩⟩⟩
      unfold zMk
      rw [if_pos h60]
    · obtain ⟨h2, k1, k2, k3⟩ := CC.1 h60
      have Q2 := (P3_of e2).trans k3
      obtain ⟨h3, m1, m2, m3⟩ := RR_sign_45 (d := d) k2.1 k2.2.1 k2.2.2.1 hs (B.pn (P3_of e2)).1 k1
      have A3 := k2.rd m3 m2 hc.2.1 (by show nxt t T z.1 ≤ e; omega)
      refine ⟨h3, _, e3.trans m1, Or.inr ⟨o, e, hs, rfl, Q2.trans (P3_of m3), Or.inl ⟨_, ?_, A3⟩⟩⟩
      unfold zMk
      rw [if_neg h60]
      rfl
/-- a sum read behind a fault: the fault stays -/
theorem RR_value_f (X : Tx h t T) (B : RRS h n) (R : Rd h n T p f) (hf : f ≠ nM) (hp : p ≤ T) : ∃ h', c_RR_readValue d (some (n + 1)) h = some h' ∧ Rd h' n T (nxt t T p) f ∧ Iq (P3 n) h h' := by
  obtain ⟨h1, e1, e2, e3⟩ := Re_next_ok (d := d) X R hp
  have B1 := B.pn e3
  have so := Re_sound_ok (d := d) e2
  rw [decide_eq_false hf] at so
  refine ⟨h1, ?_, e2, P3_of e3⟩
  refine (e_RR_readValue _ _ _).trans ?_
  refine (if_pos B.1).trans ?_
  refine (bnd B.2.1 _).trans ?_
  refine (if_pos R.1).trans ?_
  refine (bnd (show c_Re_next d (hR h (n + 1) 0) h = _ by rw [B.2.1]; exact e1) _).trans ?_
  refine (if_pos B1.1).trans ?_
  refine (bnd B1.2.1 _).trans ?_
  refine (if_pos e2.1).trans ?_
  refine (if_pos B1.1).trans ?_
  refine (bnd B1.2.1 _).trans ?_
  refine (if_pos e2.1).trans ?_
  refine (bnd (show c_Re_sound d (hR h1 (n + 1) 0) h1 = _ by rw [B1.2.1]; exact so) _).trans ?_
  exact if_neg (fun y => y rfl)
theorem RR_sum_f (X : Tx h t T) (B : RRS h n) (R : Rd h n T p f) (hf : f ≠ nM) (hp : p ≤ T) : ∃ h', c_RR_readSum d (some (n + 1)) h = some h' ∧ Rd h' n T (nxt t T p) f ∧ Iq (P3 n) h h' := by
  obtain ⟨h1, e1, e2, e3⟩ := RR_value_f (d := d) X B R hf hp
  refine ⟨h1, ?_, e2, e3⟩
  refine (e_RR_readSum _ _ _).trans ?_
  refine (if_pos B.1).trans ?_
  refine (bnd e1 _).trans ?_
  exact RR_8_f (B.pn e3) e2 hf
/-- the class's comparison, as it stands in its reader of facts: sum, sign, sum, and the sign is put down -/
noncomputable def cmK (d n : Nat) (h : sk_H) : Option sk_H := Option.bind (c_RR_readSum d (some (n + 1)) h) fun q2 => if hK q2 (n + 1) = 8 then Option.bind (c_RR_readSign d (some (n + 1)) q2) fun q3 => if hK q3.1 (n + 1) = 8 then Option.bind (c_RR_readSum d (some (n + 1)) q3.1) fun q4 => if hK q4 (n + 1) = 8 then Option.bind (c_RR_put d (some (n + 1)) q3.2 q4) fun q5 => some q5 else none else none else none
theorem RR_cmp_ok (A : RA h n t T z) : ∃ m r h', cmpP t T m z = some r ∧ cmK d n h = some h' ∧ Rz h h' n t T r := by
  obtain ⟨X, B, C, D, G, O, l⟩ := id A
  have n73 := C.2.2.2.2.2
  have x3 := X.2.2.1
  obtain ⟨m1, r1, h1, e1, e2, e3⟩ := RR_sum_ok (d := d) A
  have B1 := B.pn e3.1
  have pre : ∀ (h2 : sk_H) (v : Int32) (w : Option sk_H), c_RR_readSign d (some (n + 1)) h1 = some (h2, v) → Iq (P3 n) h h2 → (Option.bind (c_RR_readSum d (some (n + 1)) h2) fun q4 => if hK q4 (n + 1) = 8 then Option.bind (c_RR_put d (some (n + 1)) v q4) fun q5 => some q5 else none) = w → cmK d n h = w := by
    intro h2 v w s1 Q2 hw
    rw [← hw]
    have B2 := B.pn Q2
    unfold cmK
    refine (bnd e2 _).trans ?_
    refine (if_pos B1.1).trans ?_
    refine (bnd s1 _).trans ?_
    exact (if_pos B2.1).trans rfl
  have bad : ∀ (h2 : sk_H) (v : Int32) (p g : Nat), c_RR_readSign d (some (n + 1)) h1 = some (h2, v) → Iq (P3 n) h h2 → p ≤ T → Rd h2 n T p (nI g) → g < 10000 → ∃ h3, cmK d n h = some h3 ∧ Rz h h3 n t T (.inl g) := by
    intro h2 v p g s1 Q2 p1 p2 p3
    obtain ⟨h3, k1, k2, k3⟩ := RR_sum_f (d := d) (X.p3 Q2 n73) (B.pn Q2) p2 (fne p3) p1
    have B3 := B.pn (Q2.trans k3)
    refine ⟨h3, pre h2 v _ s1 Q2 ?_, Q2.trans k3, Or.inr ⟨g, rfl, _, (nxt_le (t := t) p1).2, k2, p3⟩⟩
    refine (bnd k1 _).trans ?_
    refine (if_pos B3.1).trans ?_
    exact (bnd (RR_put_f B3 k2 (fne p3)) _).trans rfl
  rcases e3.2 with ⟨z1, g1, g2⟩ | ⟨g, g1, g2⟩
  · subst g1
    have G1 := sumP_g (a := []) O.1 O.2 e1
    have hl1 := G1.len (j := 0) (by omega)
    obtain ⟨h2, v, s1, s2⟩ := RR_sign_ok (d := d) g2
    have hq := nxt_le (t := t) G1.mm.2.1
    rcases s2 with ⟨hs, Q2, p, p1, p2, p3⟩ | ⟨o, e, hs, hv, Q2, s2⟩
    · obtain ⟨h3, k1, k2⟩ := bad h2 v p _ s1 (e3.1.trans Q2) p1 p2 p3
      refine ⟨m1, .inl (1 + 8 * nxt t T z1.1 + 0), h3, ?_, k1, k2⟩
      unfold cmpP
      rw [e1]
      show (match sgC t T (nxt t T z1.1) with
        | none => some (Sum.inl (1 + 8 * nxt t T z1.1 + 0))
        | some (o, e) => _) = _
      rw [hs]
    · have hc := sgC_in hs
      have cm : ∀ m, m1 ≤ m → cmpP t T m z = oB (some (zMk e (nxt t T z1.1) z1.2.1 z1.2.2)) fun z2 => oB (sumP t T m z2) fun z3 => some (.inr (zE z3 o)) := by
        intro m hm
        unfold cmpP
        rw [sumP_mn hm _ _ e1]
        show (match sgC t T (nxt t T z1.1) with
          | none => some (Sum.inl (1 + 8 * nxt t T z1.1 + 0))
          | some (o, e) => oB (some (zMk e (nxt t T z1.1) z1.2.1 z1.2.2)) fun z2 => oB (sumP t T m z2) fun z3 => some (.inr (zE z3 o))) = _
        rw [hs]
      rcases s2 with ⟨z2, k1, k2⟩ | ⟨g, k1, p, p1, p2, p3⟩
      · have G2 : Gx T 1 (false :: []) (false :: []) z1 z2 := zMk_g (by omega) hc.2.1 G1.mm.1 k1
        obtain ⟨m2, r2, h3, f1, f2, f3⟩ := RR_sum_ok (d := d) k2
        have hl2 := G2.len (j := 0) (by omega)
        have kk3 : hK h3 (n + 1) = 8 := (B.pn ((e3.1.trans Q2).trans f3.1)).1
        rcases f3.2 with ⟨z3, y1, y2⟩ | ⟨g, y1, p, p1, p2, p3⟩
        · subst y1
          have G3 := sumP_g (a := []) G2.mm.2.1 G2.mm.1 f1
          have hl3 := G3.len (j := 1) (by omega)
          obtain ⟨h4, w1, w2, w3⟩ := RR_put_ok (d := d) y2 (by omega) (o, 0)
          refine ⟨max m1 m2, .inr (zE z3 o), h4, ?_, pre h2 v _ s1 (e3.1.trans Q2) ?_, ((e3.1.trans Q2).trans f3.1).trans w3, Or.inl ⟨_, rfl, w2⟩⟩
          · rw [cm _ (Nat.le_max_left ..), k1]
            show (oB (sumP t T (max m1 m2) z2) fun z3 => some (.inr (zE z3 o))) = _
            rw [sumP_mn (Nat.le_max_right ..) _ _ f1]
            rfl
          · refine (bnd f2 _).trans ?_
            refine (if_pos kk3).trans ?_
            rw [hv]
            exact (bnd w1 _).trans rfl
        · subst y1
          refine ⟨max m1 m2, .inl g, h3, ?_, pre h2 v _ s1 (e3.1.trans Q2) ?_, (e3.1.trans Q2).trans f3.1, Or.inr ⟨_, rfl, p, p1, p2, p3⟩⟩
          · rw [cm _ (Nat.le_max_left ..), k1]
            show (oB (sumP t T (max m1 m2) z2) fun z3 => some (.inr (zE z3 o))) = _
            rw [sumP_mn (Nat.le_max_right ..) _ _ f1]
            rfl
          · refine (bnd f2 _).trans ?_
            refine (if_pos kk3).trans ?_
            exact (bnd (RR_put_f (B.pn ((e3.1.trans Q2).trans f3.1)) p2 (fne p3)) _).trans rfl
      · obtain ⟨h3, b1, b2⟩ := bad h2 v p _ s1 (e3.1.trans Q2) p1 p2 p3
        refine ⟨m1, .inl g, h3, ?_, b1, b2⟩
        rw [cm _ (Nat.le_refl _), k1]
        rfl
  · subst g1
    obtain ⟨p, p1, p2, p3⟩ := id g2
    obtain ⟨h2, v, p', s1, s2, s3, s4⟩ := RR_sign_f (d := d) (X.p3 e3.1 n73) B1 p2 (fne p3) p1
    obtain ⟨h3, b1, b2⟩ := bad h2 v p' g s1 (e3.1.trans s4) s2 s3 p3
    refine ⟨m1, .inl g, h3, ?_, b1, b2⟩
    unfold cmpP
    rw [e1]
    rfl
end SkRulecmp
