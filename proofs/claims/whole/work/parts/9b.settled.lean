/-! ===== the class's alley is settled; alley() up to its tables ===== -/
def yD (S : PS) : DD := (yA S, (if yH S = 0 then 3 else yH S), yE S, yL S, yS S)
def cJ (n m j : Nat) : Nat := if j = 14 then n + 14 + m else if j = 15 then n + 13 + m else n + j - 5
section SkSettled
variable {h h' h1 h2 : sk_H} {t : Nat → Nat} {T n d q : Nat} {S : PS}
theorem bnd_eq {α β : Type} {o o2 : Option α} (e : o = o2) (f : α → Option β) : Option.bind o f = Option.bind o2 f := by rw [e]
theorem yD_w (w : PWr S) (a : aW (yA S)) : dW (yD S) := by
  obtain ⟨w1, w2, w3, w4, w5, w6, w7, w8, w9⟩ := w
  refine ⟨a, ?_, ?_, w7⟩
  · show 1 ≤ if yH S = 0 then 3 else yH S
    by_cases z : yH S = 0
    · rw [if_pos z]; omega
    · rw [if_neg z]; omega
  · show (if yH S = 0 then 3 else yH S) < 16
    by_cases z : yH S = 0
    · rw [if_pos z]; omega
    · rw [if_neg z]; omega
theorem Al_settle_ok (X : AIr h n t T q S) (w : PWr S) (a : aW (yA S)) (L : Lw1 h) (en : hn h = n + 12) : ∃ h' m, c_Al_settle d (some (n + 2)) h = some h' ∧ m ≤ 48 ∧ hn h' = n + 15 + m ∧ hs h' ≤ hs h + 480 ∧ (∀ c, c < n + 2 → sk_same h h' c) ∧ hI h' (n + 2) 0 = nI (yF S) ∧ hI h' (n + 2) 1 = nI (yM S) ∧ AOc (fun c => n ≤ c ∧ c < n + 15 + m) h' (n + 2) (yD S) (cJ n m) := by
  obtain ⟨Xt, B, R, D, hq⟩ := X
  have n73 := R.2.2.2.2.2
  obtain ⟨⟨a1, a2, a3, a4⟩, ⟨r8, r9, r10, r11, r12, r13, r16⟩, ⟨k3, k4, k5, k6, k7, k8, k11⟩, ⟨n3, n4, n5, n6, n7, n8, n11⟩⟩ := id B
  obtain ⟨⟨d0, d1, d2, d3, d4, d5, d6, d7⟩, d8, d9⟩ := id D
  have w2 := w.2.1
  have dw := yD_w w a
  -- the hits
  obtain ⟨h0, e0, f0, f4, fi, fc⟩ : ∃ h0, c_Al_settle d (some (n + 2)) h = k_Al_settle_14 d (some (n + 2)) (nI 0) h0 ∧ (h0.1 = h.1 ∧ h0.2.2 = h.2.2) ∧ hI h0 (n + 2) 4 = nI (dH (yD S)) ∧ (∀ i, i ≠ 4 → hI h0 (n + 2) i = hI h (n + 2) i) ∧ ∀ c, c ≠ n + 2 → hI h0 c = hI h c := by
    by_cases z : yH S = 0
    · refine ⟨wI h (n + 2) 4 3, ?_, ⟨rfl, rfl⟩, ?_, fun i hi => hI_ni hi, fun c hc => funext fun i => hI_na hc⟩
      · refine (e_Al_settle _ _ _).trans ?_
        refine (if_pos a4).trans ?_
        refine (if_neg (fun y => y (by rw [d4, z]; rfl))).trans ?_
        exact (if_pos a4).trans rfl
      · rw [hI_se]
        show _ = nI (if yH S = 0 then 3 else yH S)
        rw [if_pos z]
        rfl
    · refine ⟨h, ?_, ⟨rfl, rfl⟩, ?_, fun _ _ => rfl, fun _ _ => rfl⟩
      · refine (e_Al_settle _ _ _).trans ?_
        refine (if_pos a4).trans ?_
        have w6 := w.2.2.2.2.2.1
        exact (if_pos (show ¬ hI h (n + 2) 4 = nI 0 by rw [d4, q_eq_f z (by omega) (by omega)]; exact not_false)).trans rfl
      · rw [d4]
        show _ = nI (if yH S = 0 then 3 else yH S)
        rw [if_neg z]
  have s0 : ∀ c, c ≠ n + 2 → sk_same h h0 c := fun c hc => ⟨by rw [show hK h0 = hK h from congrArg (fun x => x.1) f0.1], by rw [show Jvm.Pilot.CSkittleRowLaw_law_r7134_573cdd.hN h0 = Jvm.Pilot.CSkittleRowLaw_law_r7134_573cdd.hN h from congrArg (fun x => x.2.1) f0.1], fc c hc, by rw [show hJ h0 = hJ h from congrArg (fun x => x.1) f0.2], by rw [show hR h0 = hR h from congrArg (fun x => x.2) f0.2]⟩
  have en0 : hn h0 = n + 12 := by rw [show Jvm.Pilot.CSkittleRowLaw_law_r7134_573cdd.hn h0 = Jvm.Pilot.CSkittleRowLaw_law_r7134_573cdd.hn h from congrArg (fun x => x.2.2.1) f0.1]; exact en
  have es0 : hs h0 = hs h := congrArg (fun x => x.2.2.2) f0.1
  have B0 : ARS h0 n := by
    obtain ⟨x, y, z⟩ := h0
    obtain ⟨f01, f02⟩ := f0
    have f01 : x = h.1 := f01
    have f02 : z = h.2.2 := f02
    subst f01
    subst f02
    exact B
  have SB0 : SB h0 n (yA S) 0 := by
    refine ⟨B0, by rw [fi 2 (by omega)]; exact d2, fun p hp => by rw [fc _ (by omega)]; exact d8 p hp, fun r (hr : r < yK S) => ?_, fun p hp => absurd hp (Nat.not_lt_zero _)⟩
    rw [fc _ (by omega), fc _ (by omega), fc _ (by omega)]
    exact d9 r (by omega)
  obtain ⟨h1, g1, g2, g3⟩ := Al_set_in (d := d) a (aN (yA S)) 0 h0 (by omega) SB0
  have s1 : ∀ c, c ≠ n + 7 → c ≠ n + 8 → sk_same h0 h1 c := fun c h7 h8 => g3.sm (fun i => by unfold P78; rw [beq_false_of_ne h7, beq_false_of_ne h8]; rfl)
  have L1 : Lw1 h1 := by
    have u := sk_same.trans (s0 1 (by omega)) (s1 1 (by omega) (by omega))
    exact ⟨u.1.trans L.1, u.2.1.trans L.2.1, by rw [u.2.2.2.1]; exact L.2.2⟩
  have en1 : hn h1 = n + 12 := by rw [show Jvm.Pilot.CSkittleRowLaw_law_r7134_573cdd.hn h1 = Jvm.Pilot.CSkittleRowLaw_law_r7134_573cdd.hn h0 from congrArg (fun x => x.2.2.1) g3.1]; exact en0
  have es1 : hs h1 = hs h := by rw [show hs h1 = hs h0 from congrArg (fun x => x.2.2.2) g3.1]; exact es0
  have u12 := s1 (n + 2) (by omega) (by omega)
  obtain ⟨h2, p1, p2, p3, p4, p5, ⟨p6, p7, p8, p9⟩, p10, ⟨p11, p12⟩, p13, p14⟩ := Al_list_ok (d := d) a (by omega) g2 L1 en1 dw.2.2.1 (by rw [u12.2.2.1]; exact f4)
  obtain ⟨a4', b2', b3', b4', b5'⟩ := id g2
  obtain ⟨⟨a1'', a2'', a3'', a4''⟩, ⟨r8', r9', r10', r11', r12', r13', r16'⟩, ⟨k3', k4', k5', k6', k7', k8', k11'⟩, ⟨n3', n4', n5', n6', n7', n8', n11'⟩⟩ := id a4'
  have v11 := p5 (n + 11) (by omega) (by omega)
  have I2 : PlI h2 (n + 2) (n + 11) (dH (yD S)) (dE (yD S)) 0 := by
    refine ⟨p6.trans a4'', ?_, ?_, ?_, v11.1.trans k11', v11.2.1.trans n11', fun i hi => absurd hi (Nat.not_lt_zero _)⟩
    · rw [p8, u12.2.2.1]; exact f4
    · rw [p8, u12.2.2.1, fi 5 (by omega)]; exact d5
    · rw [p10, if_neg (by decide), if_neg (by decide)]; exact r16'
  obtain ⟨h3, t1, t2, t3⟩ := Al_plains (d := d) dw.2.2.1 (show n + 2 ≠ n + 11 by omega) 41 0 h2 rfl I2
  have s3 : ∀ c, c ≠ n + 11 → sk_same h2 h3 c := fun c hc => t3.sm (fun i => by unfold P1a; exact beq_false_of_ne hc)
  have en3 : hn h3 = n + 15 + (sL (yA S)).length := by rw [show Jvm.Pilot.CSkittleRowLaw_law_r7134_573cdd.hn h3 = Jvm.Pilot.CSkittleRowLaw_law_r7134_573cdd.hn h2 from congrArg (fun x => x.2.2.1) t3.1]; exact p3
  have es3 : hs h3 ≤ hs h + 480 := by rw [show hs h3 = hs h2 from congrArg (fun x => x.2.2.2) t3.1, ← es1]; exact p4
  have s13 : ∀ c, c < n + 11 → c ≠ n + 2 → sk_same h1 h3 c := fun c h1 h2 => sk_same.trans (p5 c (by omega) h2) (s3 c (by omega))
  have v2 := s3 (n + 2) (by omega)
  have I23 : ∀ i, i ≠ 4 → hI h3 (n + 2) i = hI h (n + 2) i := fun i hi => by rw [v2.2.2.1, p8, u12.2.2.1]; exact fi i hi
  have R23 : ∀ i, hR h3 (n + 2) i = if i = 14 then some (n + 14 + (sL (yA S)).length) else if i = 15 then some (n + 13 + (sL (yA S)).length) else hR h1 (n + 2) i := fun i => by rw [v2.2.2.2.2]; exact p10 i
  refine ⟨h3, (sL (yA S)).length, ?_, p2, en3, es3, fun c hc => ?_, by rw [I23 0 (by omega)]; exact d0, by rw [I23 1 (by omega)]; exact d1, ?_⟩
  · rw [e0, g1]
    refine (e_Al_settle_14 _ _ _ _).trans ?_
    refine (if_pos a4'').trans ?_
    refine (if_pos (by rw [b2']; exact nI_le (Nat.le_refl _) (by have := a.1; omega))).trans ?_
    refine (if_pos a4'').trans ?_
    refine (bnd p1 _).trans ?_
    exact t1
  · exact sk_same.trans (sk_same.trans (s0 c (by omega)) (s1 c (by omega) (by omega))) (s13 c (by omega) (by omega))
  · have cc : ∀ j, j ≠ 14 → j ≠ 15 → cJ n (sL (yA S)).length j = n + j - 5 := fun j h1 h2 => by unfold cJ; rw [if_neg h1, if_neg h2]
    have c14 : cJ n (sL (yA S)).length 14 = n + 14 + (sL (yA S)).length := rfl
    have c15 : cJ n (sL (yA S)).length 15 = n + 13 + (sL (yA S)).length := rfl
    have gF : ∀ s, (n + 13 ≤ s ∧ s < n + 13 + (sL (yA S)).length) → (n ≤ s ∧ s < n + 15 + (sL (yA S)).length) ∧ Same h2 h3 s := fun s hs => ⟨⟨by omega, by omega⟩, (s3 s (by omega)).same⟩
    refine ⟨⟨by omega, by omega⟩, v2.1.trans (p6.trans a4''), ⟨by rw [I23 2 (by omega)]; exact d2, by rw [I23 3 (by omega)]; exact d3, ?_, by rw [I23 5 (by omega)]; exact d5, by rw [I23 6 (by omega)]; exact d6, by rw [I23 7 (by omega)]; exact d7⟩, ?_, ?_, ?_, ?_, ?_, ?_, ?_, ?_, ?_, ?_⟩
    · rw [v2.2.2.1, p8, u12.2.2.1]; exact f4
    · intro j j8 j16
      rcases (show j = 8 ∨ j = 9 ∨ j = 10 ∨ j = 11 ∨ j = 12 ∨ j = 13 ∨ j = 14 ∨ j = 15 ∨ j = 16 by omega) with rfl | rfl | rfl | rfl | rfl | rfl | rfl | rfl | rfl
      · rw [R23, if_neg (by decide), if_neg (by decide), cc _ (by decide) (by decide)]; exact ⟨r8', ⟨by omega, by omega⟩⟩
      · rw [R23, if_neg (by decide), if_neg (by decide), cc _ (by decide) (by decide)]; exact ⟨r9', ⟨by omega, by omega⟩⟩
      · rw [R23, if_neg (by decide), if_neg (by decide), cc _ (by decide) (by decide)]; exact ⟨r10', ⟨by omega, by omega⟩⟩
      · rw [R23, if_neg (by decide), if_neg (by decide), cc _ (by decide) (by decide)]; exact ⟨r11', ⟨by omega, by omega⟩⟩
      · rw [R23, if_neg (by decide), if_neg (by decide), cc _ (by decide) (by decide)]; exact ⟨r12', ⟨by omega, by omega⟩⟩
      · rw [R23, if_neg (by decide), if_neg (by decide), cc _ (by decide) (by decide)]; exact ⟨r13', ⟨by omega, by omega⟩⟩
      · rw [R23, if_pos rfl, c14]; exact ⟨rfl, ⟨by omega, by omega⟩⟩
      · rw [R23, if_neg (by decide), if_pos rfl, c15]; exact ⟨rfl, ⟨by omega, by omega⟩⟩
      · rw [R23, if_neg (by decide), if_neg (by decide), cc _ (by decide) (by decide)]; exact ⟨r16', ⟨by omega, by omega⟩⟩
    · rw [cc 8 (by decide) (by decide)]
      have z := s13 (n + 3) (by omega) (by omega)
      exact ⟨z.1.trans k3', z.2.1.trans n3', fun p hp => (congrFun z.2.2.1 p).trans (b3' p hp)⟩
    · rw [cc 9 (by decide) (by decide)]
      have z := s13 (n + 4) (by omega) (by omega)
      exact ⟨z.1.trans k4', z.2.1.trans n4', fun p hp => (congrFun z.2.2.1 p).trans (b4' p hp).1⟩
    · rw [cc 10 (by decide) (by decide)]
      have z := s13 (n + 5) (by omega) (by omega)
      exact ⟨z.1.trans k5', z.2.1.trans n5', fun p hp => (congrFun z.2.2.1 p).trans (b4' p hp).2.1⟩
    · rw [cc 11 (by decide) (by decide)]
      have z := s13 (n + 6) (by omega) (by omega)
      exact ⟨z.1.trans k6', z.2.1.trans n6', fun p hp => (congrFun z.2.2.1 p).trans (b4' p hp).2.2⟩
    · rw [cc 12 (by decide) (by decide)]
      have z := s13 (n + 7) (by omega) (by omega)
      exact ⟨z.1.trans k7', z.2.1.trans n7', fun p hp => (congrFun z.2.2.1 p).trans (b5' p hp).1⟩
    · rw [cc 13 (by decide) (by decide)]
      have z := s13 (n + 8) (by omega) (by omega)
      exact ⟨z.1.trans k8', z.2.1.trans n8', fun p hp => (congrFun z.2.2.1 p).trans (b5' p hp).2⟩
    · rw [c14]
      have z := s3 (n + 14 + (sL (yA S)).length) (by omega)
      exact ⟨z.1.trans p11, AS.same gF z.2.1 z.2.2.2.2 _ _ p12⟩
    · rw [c15]
      have z := s3 (n + 13 + (sL (yA S)).length) (by omega)
      exact ⟨z.1.trans p13, AS.same gF z.2.1 z.2.2.2.2 _ _ p14⟩
    · rw [cc 16 (by decide) (by decide)]
      exact ⟨t2.2.2.2.2.1, t2.2.2.2.2.2.1, fun i hi => t2.2.2.2.2.2.2 i (by omega)⟩
/-- the rest of alley() behind the reading -/
noncomputable def alT (d n : Nat) (q7 : sk_H × Option Nat) : Option (sk_H × Int32) :=
  if hK q7.1 20 = 12 then
  let h8 := wI q7.1 20 1 (0 : Int32)
  if hK h8 n = 6 then
  Option.bind (c_Re_sound d (some n) h8) fun q9 =>
  if ¬ q9.2 = 0 then
    if hK q9.1 20 = 12 then
    Option.bind (hR q9.1 20 4) fun a16 => if hK q9.1 a16 = 9 then
    Option.bind (c_St_begin d (hR q9.1 20 4) q7.2 q9.1) fun q10 =>
    if hK q10 20 = 12 then
    Option.bind (hR q10 20 6) fun a15 => if hK q10 a15 = 1 then
    Option.bind (c_Ac_forget d (hR q10 20 6) q10) fun q11 =>
    if hK q11 20 = 12 then
    Option.bind (hR q11 20 7) fun a14 => if hK q11 a14 = 11 then
    Option.bind (c_Ta_use d (hR q11 20 7) q7.2 q11) fun q12 =>
    Option.bind q7.2 fun a13 => if hK q12 a13 = 2 then
    some (q12, hI q12 a13 2)
    else none
    else none
    else none
    else none
    else none
    else none
    else none
  else
    if hK q9.1 n = 6 then
    some (q9.1, ((-2) : Int32) - (hI q9.1 n 3))
    else none
  else none
  else none
theorem SR_alley_pre {c : Nat → Nat} {m : Nat} (sp : Sp c m 0 aWs = true) (C : CS h) (G : Stg h 2 c m) (X : Tx h t T) (eT : hI h 20 1 = nI T) (n73 : 73 ≤ hn h) (L : Lw1 h) : (∃ g h', alP t T 41 0 0 y0 = .inl g ∧ g < 10000 ∧ c_SR_alley d (some 20) h = alT d (hn h) (h', some (hn h + 2)) ∧ (∃ q, Rd h' (hn h) T q (nI g)) ∧ Up (hn h) h h' ∧ hn h' = hn h + 12 ∧ hs h' = hs h + 112) ∨ ∃ S h' m, alP t T 41 0 0 y0 = .inr S ∧ PWr S ∧ aW (yA S) ∧ c_SR_alley d (some 20) h = alT d (hn h) (h', some (hn h + 2)) ∧ (∃ q, Rd h' (hn h) T q nM) ∧ Up (hn h) h h' ∧ m ≤ 48 ∧ hn h' = hn h + 15 + m ∧ hs h' ≤ hs h + 592 ∧ hI h' (hn h + 2) 0 = nI (yF S) ∧ hI h' (hn h + 2) 1 = nI (yM S) ∧ AOc (fun c => hn h ≤ c ∧ c < hn h + 15 + m) h' (hn h + 2) (yD S) (cJ (hn h) m) := by
  obtain ⟨x1, x2, x3, x4⟩ := id X
  obtain ⟨hA, e1, e2, e3, e4, e5⟩ := Re_made (d := d) x1 x2 x3 n73
  obtain ⟨hB, f1, f2, f3, f4, f5, f6⟩ := AR_made (d := d) (X.up e3 n73) e2 e4
  generalize hb : hn h = n at *
  have U := e3.trans f3
  have u2 := U 2 (by omega)
  have u9 := U 9 (by omega)
  have GB : Stg hB 2 c m := by
    obtain ⟨k, r, i1, k2, n2, n3, x⟩ := G
    exact ⟨u2.1.trans k, by rw [u2.2.2.2.2]; exact r, by rw [u2.2.2.1]; exact i1, u9.1.trans k2, u9.2.1.trans n2, n3, by rw [u9.2.2.1]; exact x⟩
  have LB : Lw1 hB := by
    have u := U 1 (by omega)
    exact ⟨u.1.trans L.1, u.2.1.trans L.2.1, by rw [u.2.2.2.1]; exact L.2.2⟩
  have en5 : hn (hnew h 6 4) = n + 1 := by rw [hn_new, hb]
  have pre : c_SR_alley d (some 20) h = Option.bind (k_AR_read_2 d (some (n + 1)) (nI 0) hB) (alT d n) := by
    have s := new_sm h 6 4 (c := 20) (by omega)
    have k20 : hK (hnew h 6 4) 20 = 12 := s.1.trans C.k20
    refine (e_SR_alley _ _ _).trans ?_
    refine (if_pos k20).trans ?_
    refine (if_pos k20).trans ?_
    refine (if_pos (show hK (hnew h 6 4) (hn h) = 6 by rw [hK_new, if_pos rfl])).trans ?_
    have ei : c_Re_init d (some (hn h)) (hR (hnew h 6 4) 20 0) (hI (hnew h 6 4) 20 1) (hnew h 6 4) = some hA := by
      rw [s.2.2.2.2, s.2.2.1, C.r20_0, eT, hb]
      exact e1
    refine (bnd ei _).trans ?_
    have k3 : hK (hnew hA 3 2) (hn hA) = 3 := by rw [hK_new, if_pos rfl]
    refine (if_pos k3).trans ?_
    refine (bnd (show c_AR_init d (some (hn hA)) (some (hn h)) (hnew hA 3 2) = some hB by rw [e4, hb]; exact f1) _).trans ?_
    refine (if_pos (show hK hB (hn hA) = 3 by rw [e4]; exact f6)).trans ?_
    rw [e4, hb]
    refine (bnd_eq ((e_AR_read _ _ _).trans rfl) _).trans ?_
    rfl
  obtain ⟨h1, g1, g2⟩ := AR_read_in (d := d) sp n73 41 0 0 y0 hB rfl (by omega) PWr_0 aW_0 GB f2
  have U1 : Up n h h1 := U.trans (fun c hc => g1.sm (fun i => by unfold PN; exact decide_eq_false (by omega)))
  have en1 : hn h1 = n + 12 := by rw [show Jvm.Pilot.CSkittleRowLaw_law_r7134_573cdd.hn h1 = Jvm.Pilot.CSkittleRowLaw_law_r7134_573cdd.hn hB from congrArg (fun x => x.2.2.1) g1.1]; exact f4
  have es1 : hs h1 = hs h + 112 := by rw [show hs h1 = hs hB from congrArg (fun x => x.2.2.2) g1.1, f5, e5]
  rcases g2 with ⟨g, q, k1, k2, k3, k4⟩ | ⟨S, q, k1, k2, k3, k4, k5⟩
  · refine Or.inl ⟨g, h1, k1, k4, ?_, ⟨q, k3⟩, U1, en1, es1⟩
    rw [pre]
    exact bnd k2 _
  · have L1 : Lw1 h1 := by
      have u := U1 1 (by omega)
      exact ⟨u.1.trans L.1, u.2.1.trans L.2.1, by rw [u.2.2.2.1]; exact L.2.2⟩
    obtain ⟨h2, m', p1, p2, p3, p4, p5, p6, p7, p8⟩ := Al_settle_ok (d := d) k2 k3 k4 L1 en1
    obtain ⟨⟨a1, a2, a3, a4⟩, -⟩ := id k2.2.1
    have v1 := p5 (n + 1) (by omega)
    have v0 := p5 n (by omega)
    refine Or.inr ⟨S, h2, m', k1, k3, k4, ?_, ⟨q, ?_⟩, U1.trans (fun c hc => p5 c (by omega)), p2, p3, by omega, p6, p7, p8⟩
    · rw [pre, k5]
      refine bnd ?_ _
      refine (bnd p1 _).trans ?_
      refine (if_pos (v1.1.trans a1)).trans ?_
      rw [v1.2.2.2.2, a3]
    · obtain ⟨c1, c2, c3, c4, c5, c6⟩ := k2.2.2.1
      exact ⟨v0.1.trans c1, by rw [v0.2.2.2.2]; exact c2, by rw [v0.2.2.1]; exact c3, by rw [v0.2.2.1]; exact c4, by rw [v0.2.2.1]; exact c5, c6⟩
end SkSettled
