/-! ===== alley: both agree ===== -/
/-- a string's signs -/
def tLs (k : Nat) : List Nat := ((sk_str.map (fun q => q.2.2.2.2)).getD k []).map (fun x => x.toNatClampNeg)
theorem tl_ok : ∀ k, k < 7 → (tLs k).length ≤ 64 ∧ (sk_str.map (fun q => q.2.2.2.1)).getD k 0 = (tLs k).length ∧ ∀ i, i < 64 → (tLs k).getD i 0 < 128 ∧ ((sk_str.map (fun q => q.2.2.2.2)).getD k []).getD i 0 = nI ((tLs k).getD i 0) := by decide +kernel
theorem spA : Sp (fun i => (tLs 0).getD i 0) (tLs 0).length 0 aWs = true := by decide +kernel
section SkAlley
variable {L : Nat} {xs : Nat → Int32} {F G : Nat → Prop} {E E' : Nat → Option DD} {h h' h1 h2 : sk_H} {j st tu pl b : Nat} {sd : Nat → Int32}
theorem OU.stg (o : OU L xs h) {k : Nat} (hk : k < 7) : Stg h (k + 2) (fun i => (tLs k).getD i 0) (tLs k).length := by
  obtain ⟨r, o⟩ := o
  have e2 := o (k + 2) (by omega)
  have e9 := o (k + 9) (by omega)
  obtain ⟨t1, t2, t3⟩ := tl_ok k hk
  refine ⟨?_, ?_, ?_, ?_, ?_, t1, fun i hi => ⟨(t3 i (by omega)).1, ?_⟩⟩
  · rw [e2.1]
    show sk_ek (k + 2) = 51
    unfold sk_ek
    rw [if_neg (by omega), if_pos (by omega)]
  · rw [e2.2.2.2.2]
    show (if k + 2 = 0 then (fun j => if j = 2 then r else none) else if 2 ≤ k + 2 ∧ k + 2 ≤ 8 then (fun j => if j = 0 then some (k + 2 + 7) else none) else fun _ => none) 0 = _
    rw [if_neg (by omega), if_pos (by omega)]
    rfl
  · rw [e2.2.2.1]
    show (if k + 2 = 16 then xs else if 9 ≤ k + 2 ∧ k + 2 ≤ 15 then (fun j => ((sk_str.map (fun q => q.2.2.2.2)).getD (k + 2 - 9) []).getD j 0) else fun _ => 0) 1 = 0
    rw [if_neg (by omega), if_neg (by omega)]
  · show hK h (k + 9) = 204
    rw [e9.1]
    show sk_ek (k + 9) = 204
    unfold sk_ek
    rw [if_neg (by omega), if_neg (by omega), if_pos (by omega)]
  · show hN h (k + 9) = _
    rw [e9.2.1]
    show (if k + 9 = 1 then 5 else if k + 9 = 16 then L else if 9 ≤ k + 9 ∧ k + 9 ≤ 15 then (sk_str.map (fun q => q.2.2.2.1)).getD (k + 9 - 9) 0 else 0) = _
    rw [if_neg (by omega), if_neg (by omega), if_pos (by omega), Nat.add_sub_cancel]
    exact t2
  · show hI h (k + 9) i = _
    rw [e9.2.2.1]
    show (if k + 9 = 16 then xs else if 9 ≤ k + 9 ∧ k + 9 ≤ 15 then (fun j => ((sk_str.map (fun q => q.2.2.2.2)).getD (k + 9 - 9) []).getD j 0) else fun _ => 0) i = _
    rw [if_neg (by omega), if_pos (by omega), Nat.add_sub_cancel]
    exact (t3 i (by omega)).2
theorem OU.lw (o : OU L xs h) : Lw1 h := by
  obtain ⟨r, o⟩ := o
  have e := o 1 (by omega)
  exact ⟨e.1.trans rfl, e.2.1.trans rfl, fun k => (congrFun e.2.2.2.1 k).trans rfl⟩
theorem SV.me (S : SV F E h b sd st tu pl) (m : ∀ a D, E a = some D → E' a = some D) : SV F E' h b sd st tu pl := by
  obtain ⟨s0, s1, s2, s3, s4, s5, s6, s7, s8, s9⟩ := S
  refine ⟨s0, s1, s2, s3, s4, s5, s6, s7, s8, s9.imp (fun q => q) ?_⟩
  rintro ⟨a, D, q1, q2, q3⟩
  exact ⟨a, D, q1, m a D q2, q3⟩
theorem IM.me (I : IM F E j h) (m : ∀ a D, E a = some D → E' a = some D) : IM F E' j h := by
  obtain ⟨g, i1, i2⟩ := I
  refine ⟨g, fun k hk => (i1 k hk).imp (fun q => q) ?_, i2⟩
  rintro ⟨q1, q2, q3, q4, q5, q6, q7, q8, st, tu, pl, q9, q10⟩
  exact ⟨q1, q2, q3, q4, q5, q6, q7, q8, st, tu, pl, q9, q10.me m⟩
/-- cells that a call with a text may change -/
def kT (c : Nat) : Bool := c == 20 || c == 22 || c == 52 || (decide (54 ≤ c) && decide (c ≤ 59))
theorem JB.tx (J : JB L xs F E j h st tu pl) (s : ∀ c, c < hn h → kT c = false → sk_same h h2 c) (C2 : CS h2) (M2 : MS 52 h2) (n1 : hn h ≤ hn h2) (n2 : hn h2 ≤ 73 + 70 * (j + 1)) (n3 : hs h2 ≤ 60000 + 1000 * (j + 1)) (gF : ∀ c, F c → G c) (gG : ∀ c, G c → F c ∨ hn h ≤ c) (gn : ∀ c, G c → c < hn h2) (T2 : TP h2) (R2 : RS G h2) (z21 : hI h2 52 21 = hI h 52 21) (z25 : hI h2 52 25 = hI h 52 25) : JB L xs G E (j + 1) h2 st tu pl := by
  obtain ⟨j1, j2, j3, j4, j5, j6, j7, j8, j9, j10, j11, j12, j13⟩ := J
  have hF : ∀ c, F c → G c ∧ Same h h2 c := fun c hc => by
    have := j4.1 c hc
    refine ⟨gF c hc, (s c (j4.2 c hc) ?_).same⟩
    unfold kT
    rw [beq_false_of_ne (by omega), beq_false_of_ne (by omega), beq_false_of_ne (by omega), decide_eq_false (show ¬ c ≤ 59 by omega)]
    simp
  have K : ∀ c, c < 73 → kT c = false → Kp h h2 c := fun c hc hk => (s c (by omega) hk).kp
  refine ⟨j1.qf (fun c hc => s c (by omega) (by revert hc; revert c; decide)), C2, M2, ⟨fun c hc => ?_, gn⟩, ⟨by omega, n2, n3⟩, T2, R2, fun a D hD => ⟨(j8 a D hD).1, (j8 a D hD).2.same hF⟩, by omega, ?_, ?_, ?_, ?_⟩
  · rcases gG c hc with q | q
    · exact j4.1 c q
    · omega
  · exact j10.kp (K 23 (by omega) rfl) (K 24 (by omega) rfl) (K 25 (by omega) rfl) (K 26 (by omega) rfl) hF (fun k _ => by rw [(K 62 (by omega) rfl).2.2.1])
  · rw [(K 23 (by omega) rfl).2.2.1, z21]; exact j11
  · exact j12.kp (by rw [(K 23 (by omega) rfl).2.2.2]) (K 28 (by omega) rfl).2.2.1 (K 29 (by omega) rfl).2.2.1 (K 30 (by omega) rfl).2.2.1 (K 31 (by omega) rfl).2.2.1 (K 64 (by omega) rfl).2.2.1 z25
  · refine j13.kp (by omega) n1 (K 27 (by omega) rfl).2.2.2 (K 72 (by omega) rfl).2.2.1 (K 71 (by omega) rfl).2.2.1 (K 70 (by omega) rfl).2.2.1 hF (fun c h1 h2 hc => ⟨fun q => ?_, (s c h2 ?_).kp⟩)
    · rcases gG c q with r | r
      · exact hc r
      · omega
    · unfold kT
      rw [beq_false_of_ne (by omega), beq_false_of_ne (by omega), beq_false_of_ne (by omega), decide_eq_false (show ¬ c ≤ 59 by omega)]
      simp
theorem bnd3 {a b s n m j : Nat} (e : a = n + 15 + m) (hm : m ≤ 48) (hn : n ≤ 73 + 70 * j) (h73 : 73 ≤ n) (hb : b ≤ s + 592) (hs : s ≤ 60000 + 1000 * j) : 73 ≤ a ∧ a ≤ 73 + 70 * (j + 1) ∧ b ≤ 60000 + 1000 * (j + 1) := by omega
theorem q_alley : sk_Ag (JJ L xs) L xs 52 (fun h => c_SR_alley 40 (some 20) h) (fun h => c_M_alley 40 (some 52) h) := by
  intro j h hj ⟨F, E, st, tu, pl, J, TT, MM⟩
  obtain ⟨j1, j2, j3, j4, j5, j6, j7, j8, j9, j10, j11, j12, j13⟩ := id J
  have C := j2
  have M := j3
  obtain ⟨T, t, hT, e20, e52, tp⟩ := id j6
  have X : Tx h t T := ⟨C.k21, C.n21, hT, fun i hi => ⟨(tp i hi).1, (tp i hi).2.1⟩⟩
  obtain ⟨n, hnn⟩ : ∃ n, n = hn h := ⟨_, rfl⟩
  have n73 : 73 ≤ n := by rw [hnn]; exact j5.1
  have cl := SR_alley_pre (d := 40) spA C (j1.stg (k := 0) (by omega)) X e20 j5.1 j1.lw
  rw [← hnn] at cl
  rcases cl with ⟨g, hc, a1, a2, a3, ⟨q, a4⟩, a5, a6, a7⟩ | ⟨S, hc, m, a1, a2, a3, a4, ⟨q, a5⟩, a6, a7, a8, a9, a10, a11, a12⟩
  · -- a fault
    have k20 : hK hc 20 = 12 := (a5 20 (by omega)).1.trans C.k20
    have R8 : Rd (wI hc 20 1 0) n T q (nI g) := by
      obtain ⟨c1, c2, c3, c4, c5, c6⟩ := a4
      exact ⟨c1, c2, by rw [hI_na (by omega)]; exact c3, by rw [hI_na (by omega)]; exact c4, by rw [hI_na (by omega)]; exact c5, c6⟩
    have so := Re_sound_ok (d := 40) R8
    rw [decide_eq_false (fne a2)] at so
    have e1 : c_SR_alley 40 (some 20) h = some (wI hc 20 1 0, nM2 - nI g) := by
      rw [a3]
      unfold alT
      refine (if_pos k20).trans ?_
      refine (if_pos R8.1).trans ?_
      refine (bnd so _).trans ?_
      refine (if_neg (fun y => y rfl)).trans ?_
      refine (if_pos R8.1).trans ?_
      show some (wI hc 20 1 0, (-2 : Int32) - hI (wI hc 20 1 0) n 3) = _
      rw [R8.2.2.2.2.1]
      rfl
    have s1 : ∀ c, c < n → c ≠ 20 → sk_same h (wI hc 20 1 0) c := fun c hc1 h20 => sk_same.trans (a5 c hc1) ⟨rfl, rfl, funext fun i => hI_na h20, rfl, rfl⟩
    have M1 : MS 52 (wI hc 20 1 0) := M.sm (fun c h1 h2 => ⟨(s1 c (by omega) (by omega)).1, (s1 c (by omega) (by omega)).2.1⟩) (s1 52 (by omega) (by omega)).2.2.2.2
    rcases M_alley_ok (d := 40) M1 hT (fun i hi => ⟨(tp i hi).1, by rw [(s1 53 (by omega) (by omega)).2.2.1]; exact (tp i hi).2.2⟩) (by rw [(s1 52 (by omega) (by omega)).2.2.1]; exact e52) with ⟨g', h2, b1, b2, b3, b4⟩ | ⟨S, h2, b1, -⟩
    · rw [a1] at b1
      have := Sum.inl.inj b1
      subst this
      have s2 : ∀ c, c ≠ 52 → c ≠ 55 → c ≠ 58 → sk_same (wI hc 20 1 0) h2 c := fun c x1 x2 x3 => b3.sm (fun i => by unfold PMC; rw [beq_false_of_ne x1, beq_false_of_ne x2, beq_false_of_ne x3]; rfl)
      have ss : ∀ c, c < n → kT c = false → sk_same h h2 c := fun c hc1 hk => by
        have hk' : c ≠ 20 ∧ c ≠ 52 ∧ c ≠ 55 ∧ c ≠ 58 := by
          refine ⟨fun e => ?_, fun e => ?_, fun e => ?_, fun e => ?_⟩ <;> (rw [e] at hk; exact absurd hk (by decide))
        exact sk_same.trans (s1 c hc1 hk'.1) (s2 c hk'.2.1 hk'.2.2.1 hk'.2.2.2)
      have en2 : hn h2 = n + 12 := by rw [show Jvm.Pilot.CSkittleRowLaw_law_r7134_573cdd.hn h2 = Jvm.Pilot.CSkittleRowLaw_law_r7134_573cdd.hn (wI hc 20 1 0) from congrArg (fun x => x.2.2.1) b3.1]; exact a6
      have es2 : hs h2 = hs h + 112 := by rw [show hs h2 = hs (wI hc 20 1 0) from congrArg (fun x => x.2.2.2) b3.1]; exact a7
      have kn : ∀ c, c < n → hK h2 c = hK h c ∧ hN h2 c = hN h c := fun c hc1 => by
        rw [b3.eK, b3.eN]
        exact ⟨(a5 c hc1).1, (a5 c hc1).2.1⟩
      have rr : ∀ c, c < n → hR h2 c = hR h c := fun c hc1 => by
        rw [b3.eR]
        exact (a5 c hc1).2.2.2.2
      have i52 : ∀ i, PMC 52 i = false → hI h2 52 i = hI h 52 i := fun i hi => by
        rw [b3.I hi]
        exact congrFun (s1 52 (by omega) (by omega)).2.2.1 i
      have i20 : ∀ i, i ≠ 1 → hI h2 20 i = hI h 20 i := fun i hi => by
        rw [b3.I rfl, hI_ni hi]
        exact congrFun (a5 20 (by omega)).2.2.1 i
      have hF : ∀ c, F c → F c ∧ Same h h2 c := fun c hc1 => by
        have := j4.1 c hc1
        have := j4.2 c hc1
        exact ⟨hc1, (ss c (by omega) (by unfold kT; rw [beq_false_of_ne (by omega), beq_false_of_ne (by omega), beq_false_of_ne (by omega), decide_eq_false (show ¬ c ≤ 59 by omega)]; simp)).same⟩
      have tcs : ∀ c, c ∈ [32, 43, 44, 45, 46, 47, 48] → sk_same h h2 c := fun c hc1 => by
        have y : ∀ c, c ∈ [32, 43, 44, 45, 46, 47, 48] → c ≤ 48 ∧ kT c = false := by decide
        exact ss c (by have := (y c hc1).1; omega) (y c hc1).2
      refine ⟨_, h2, _, e1, ⟨(s1 16 (by omega) (by omega)).1.trans J.ex.1, (s1 16 (by omega) (by omega)).2.1.trans J.ex.2.1, (s1 16 (by omega) (by omega)).2.2.1.trans J.ex.2.2.1, (a5 20 (by omega)).1.trans J.ex.2.2.2.1, (s1 52 (by omega) (by omega)).1.trans J.ex.2.2.2.2⟩, b2, F, E, st, tu, pl, J.tx (fun c hc1 => ss c (by omega)) (C.cg (fun a ha => kn a (by omega)) (fun q hq => by
          have : ∀ q ∈ cR, q.1 < 73 := by decide
          rw [rr q.1 (by have := this q hq; omega)])) (M.sm (fun c x1 x2 => kn c (by omega)) (rr 52 (by omega))) (by omega) (by omega) (by omega) (fun c hc1 => hc1) (fun c hc1 => Or.inl hc1) (fun c hc1 => by have := j4.2 c hc1; omega) ⟨0, fun _ => 0, by omega, ?_, b4, fun i hi => absurd hi (by omega)⟩ (j7.kp (i20 3 (by omega)) (i52 2 (by decide)) (rr 22 (by omega)) ?_ ?_ ?_ hF) (i52 21 (by decide)) (i52 25 (by decide)), TT.sm tcs (by rw [rr 23 (by omega)]), MM.sm (ss 63 (by omega) rfl) (by rw [rr 23 (by omega)]) (i52 23 (by decide))⟩
      · rw [b3.I rfl, hI_se]; rfl
      · rw [(s2 54 (by omega) (by omega) (by omega)).2.2.1, (s1 54 (by omega) (by omega)).2.2.1]
      · rw [(s2 56 (by omega) (by omega) (by omega)).2.2.1, (s1 56 (by omega) (by omega)).2.2.1]
      · rw [(s2 57 (by omega) (by omega) (by omega)).2.2.1, (s1 57 (by omega) (by omega)).2.2.1]
    · rw [a1] at b1; cases b1
  · -- an alley
    have k20 : hK hc 20 = 12 := (a6 20 (by omega)).1.trans C.k20
    have dw := yD_w a2 a3
    have R8 : Rd (wI hc 20 1 0) n T q nM := by
      obtain ⟨c1, c2, c3, c4, c5, c6⟩ := a5
      exact ⟨c1, c2, by rw [hI_na (by omega)]; exact c3, by rw [hI_na (by omega)]; exact c4, by rw [hI_na (by omega)]; exact c5, c6⟩
    have so := Re_sound_ok (d := 40) R8
    rw [decide_eq_true rfl] at so
    have k2 : hK hc (n + 2) = 2 := a12.2.1
    have kc : ∀ c, c < n → hK hc c = hK h c ∧ hN hc c = hN h c := fun c hc1 => ⟨(a6 c hc1).1, (a6 c hc1).2.1⟩
    have rc : ∀ c, c < n → hR hc c = hR h c := fun c hc1 => (a6 c hc1).2.2.2.2
    obtain ⟨hf, hhf⟩ : ∃ hf, hf = wI (wI (wI (wI (wR (wI hc 20 1 0) 23 0 (some (n + 2))) 23 1 (nI (yM S))) 23 2 (nI (yF S))) 23 3 0) 28 4 0 := ⟨_, rfl⟩
    have f1 : hf.1 = hc.1 := by rw [hhf]; rfl
    have fK : hK hf = hK hc := congrArg (fun x => x.1) f1
    have fN : Jvm.Pilot.CSkittleRowLaw_law_r7134_573cdd.hN hf = Jvm.Pilot.CSkittleRowLaw_law_r7134_573cdd.hN hc := congrArg (fun x => x.2.1) f1
    have fJ : hJ hf = hJ hc := by rw [hhf]; rfl
    have fR : ∀ c i, hR hf c i = if c = 23 ∧ i = 0 then some (n + 2) else hR hc c i := fun c i => by
      rw [hhf]
      show hR (wR (wI hc 20 1 0) 23 0 (some (n + 2))) c i = _
      rw [hR_wR]
      rfl
    have fI : ∀ c, c ≠ 20 → c ≠ 23 → c ≠ 28 → hI hf c = hI hc c := fun c x1 x2 x3 => funext fun i => by
      rw [hhf, hI_na x3, hI_na x2, hI_na x2, hI_na x2]
      show hI (wI hc 20 1 0) c i = _
      rw [hI_na x1]
    have fs : ∀ c, c ≠ 20 → c ≠ 23 → c ≠ 28 → sk_same hc hf c := fun c x1 x2 x3 => ⟨by rw [fK], by rw [fN], fI c x1 x2 x3, by rw [fJ], funext fun i => by rw [fR, if_neg (fun y => x2 y.1)]⟩
    have i201 : hI hf 20 1 = 0 := by
      rw [hhf, hI_na (by omega), hI_na (by omega), hI_na (by omega), hI_na (by omega)]
      show hI (wI hc 20 1 0) 20 1 = _
      rw [hI_se]
    have i20 : ∀ i, i ≠ 1 → hI hf 20 i = hI h 20 i := fun i hi => by
      rw [hhf, hI_na (by omega), hI_na (by omega), hI_na (by omega), hI_na (by omega)]
      show hI (wI hc 20 1 0) 20 i = _
      rw [hI_ni hi]
      exact congrFun (a6 20 (by omega)).2.2.1 i
    have i23 : hI hf 23 1 = nI (yM S) ∧ hI hf 23 2 = nI (yF S) ∧ hI hf 23 3 = nI 0 ∧ hI hf 23 4 = hI h 23 4 := by
      refine ⟨?_, ?_, ?_, ?_⟩
      · rw [hhf, hI_na (by omega), hI_ni (by omega), hI_ni (by omega), hI_se]
      · rw [hhf, hI_na (by omega), hI_ni (by omega), hI_se]
      · rw [hhf, hI_na (by omega), hI_se]; rfl
      · rw [hhf, hI_na (by omega), hI_ni (by omega), hI_ni (by omega), hI_ni (by omega)]
        show hI (wI hc 20 1 0) 23 4 = _
        rw [hI_na (by omega)]
        exact congrFun (a6 23 (by omega)).2.2.1 4
    have i28 : hI hf 28 4 = nI 0 ∧ ∀ i, i ≠ 4 → hI hf 28 i = hI h 28 i := by
      refine ⟨by rw [hhf, hI_se]; rfl, fun i hi => ?_⟩
      rw [hhf, hI_ni hi, hI_na (by omega), hI_na (by omega), hI_na (by omega)]
      show hI (wI hc 20 1 0) 28 i = _
      rw [hI_na (by omega)]
      exact congrFun (a6 28 (by omega)).2.2.1 i
    have Cf : CS hf := C.cg (fun a ha => by rw [fK, fN]; exact kc a (by omega)) (fun q hq => by
      have : ∀ q ∈ cR, q.1 < 73 ∧ (q.2.1 ≠ 0 ∨ q.1 ≠ 23) := by decide
      have y := this q hq
      rw [fR, if_neg (fun z => by rcases y.2 with r | r; exact r z.2; exact r z.1), rc q.1 (by omega)])
    have O1 : AOc (fun c => n ≤ c ∧ c < n + 15 + m) hf (n + 2) (yD S) (cJ n m) := a12.same (fun c hc1 => ⟨hc1, (fs c (by omega) (by omega) (by omega)).same⟩)
    obtain ⟨ta, t1, t2, t3, t4⟩ := id TT
    have t1f : hR hf 32 0 = some ta := by rw [fR, if_neg (by decide), rc 32 (by omega)]; exact t1
    obtain ⟨h1, u1, u2, u3, u4, u5⟩ := Ta_use_ok (d := 40) Cf O1 dw t1f t2.1 (by omega)
    have tne : ¬ n + 2 = ta := by
      intro e
      rcases t2.2 with r | ⟨D0, r⟩
      · omega
      · obtain ⟨c0, o⟩ := (j8 ta D0 r).2
        have := j4.2 ta o.1
        omega
    have TD1 : TD h1 (yD S) (n + 2) := by
      rcases u5 with ⟨r, -⟩ | r
      · exact absurd r tne
      · exact r
    have v1 : ∀ c, c ≠ 32 → sk_same hf h1 c := fun c x1 => ⟨by rw [u2.eK], by rw [u2.eN], (u2.2.2 c (by unfold cl; simp [x1])).1, by rw [u2.2.1], (u2.2.2 c (by unfold cl; simp [x1])).2⟩
    have e1 : c_SR_alley 40 (some 20) h = some (h1, nI (yN S)) := by
      rw [a4]
      unfold alT
      have i21 : hI hc (n + 2) 1 = nI (yM S) := a11
      have i20' : hI hc (n + 2) 0 = nI (yF S) := a10
      have bg : c_St_begin 40 (hR (wI hc 20 1 0) 20 4) (some (n + 2)) (wI hc 20 1 0) = some (wI (wI (wI (wR (wI hc 20 1 0) 23 0 (some (n + 2))) 23 1 (nI (yM S))) 23 2 (nI (yF S))) 23 3 0) := by
        have k23 : hK hc 23 = 9 := (kc 23 (by omega)).1.trans C.k23
        have y1 : hI (wR (wI hc 20 1 0) 23 0 (some (n + 2))) (n + 2) 1 = nI (yM S) := by
          show hI (wI hc 20 1 0) (n + 2) 1 = _
          rw [hI_na (by omega)]; exact i21
        have y2 : hI (wI (wR (wI hc 20 1 0) 23 0 (some (n + 2))) 23 1 (nI (yM S))) (n + 2) 0 = nI (yF S) := by
          rw [hI_na (by omega)]
          show hI (wI hc 20 1 0) (n + 2) 0 = _
          rw [hI_na (by omega)]; exact i20'
        show c_St_begin 40 (hR hc 20 4) (some (n + 2)) (wI hc 20 1 0) = _
        rw [rc 20 (by omega), C.r20_4]
        refine (e_St_begin _ _ _ _).trans ?_
        refine (if_pos k23).trans ?_
        refine (bnd rfl _).trans ?_
        refine (if_pos k2).trans ?_
        refine (if_pos k23).trans ?_
        rw [y1]
        refine (bnd rfl _).trans ?_
        refine (if_pos k2).trans ?_
        refine (if_pos k23).trans ?_
        rw [y2]
        exact (if_pos k23).trans rfl
      have k28 : hK hc 28 = 1 := (kc 28 (by omega)).1.trans C.k28
      have fg : c_Ac_forget 40 (hR (wI (wI (wI (wR (wI hc 20 1 0) 23 0 (some (n + 2))) 23 1 (nI (yM S))) 23 2 (nI (yF S))) 23 3 0) 20 6) (wI (wI (wI (wR (wI hc 20 1 0) 23 0 (some (n + 2))) 23 1 (nI (yM S))) 23 2 (nI (yF S))) 23 3 0) = some hf := by
        have r6 : hR (wI (wI (wI (wR (wI hc 20 1 0) 23 0 (some (n + 2))) 23 1 (nI (yM S))) 23 2 (nI (yF S))) 23 3 0) 20 6 = some 28 := by
          show hR (wR (wI hc 20 1 0) 23 0 (some (n + 2))) 20 6 = _
          rw [hR_wR, if_neg (by decide)]
          show hR hc 20 6 = _
          rw [rc 20 (by omega)]; exact C.r20_6
        rw [r6, hhf]
        refine (e_Ac_forget _ _ _).trans ?_
        exact (if_pos k28).trans rfl
      refine (if_pos k20).trans ?_
      refine (if_pos R8.1).trans ?_
      refine (bnd so _).trans ?_
      refine (if_pos nb1).trans ?_
      refine (if_pos k20).trans ?_
      refine (bnd (show hR hc 20 4 = some 23 by rw [rc 20 (by omega)]; exact C.r20_4) _).trans ?_
      refine (if_pos (show hK hc 23 = 9 from (kc 23 (by omega)).1.trans C.k23)).trans ?_
      refine (bnd bg _).trans ?_
      refine (if_pos k20).trans ?_
      refine (bnd (show hR (wR (wI hc 20 1 0) 23 0 (some (n + 2))) 20 6 = some 28 by rw [hR_wR, if_neg (by decide)]; show hR hc 20 6 = _; rw [rc 20 (by omega)]; exact C.r20_6) _).trans ?_
      refine (if_pos k28).trans ?_
      refine (bnd fg _).trans ?_
      refine (if_pos Cf.k20).trans ?_
      refine (bnd Cf.r20_7 _).trans ?_
      refine (if_pos Cf.k32).trans ?_
      refine (bnd (show c_Ta_use 40 (hR hf 20 7) (some (n + 2)) hf = some h1 by rw [Cf.r20_7]; exact u1) _).trans ?_
      refine (bnd rfl _).trans ?_
      have w := v1 (n + 2) (by omega)
      refine (if_pos (show hK h1 (n + 2) = 2 from w.1.trans O1.2.1)).trans ?_
      show some (h1, hI h1 (n + 2) 2) = _
      rw [w.2.2.1, O1.2.2.1.1]
      rfl
    have hm1 : ∀ c, c < n → c ≠ 20 → c ≠ 23 → c ≠ 28 → c ≠ 32 → sk_same h h1 c := fun c x0 x1 x2 x3 x4 => sk_same.trans (sk_same.trans (a6 c x0) (fs c x1 x2 x3)) (v1 c x4)
    have M1 : MS 52 h1 := M.sm (fun c x1 x2 => ⟨(hm1 c (by omega) (by omega) (by omega) (by omega) (by omega)).1, (hm1 c (by omega) (by omega) (by omega) (by omega) (by omega)).2.1⟩) (hm1 52 (by omega) (by omega) (by omega) (by omega) (by omega)).2.2.2.2
    have s52 := hm1 52 (by omega) (by omega) (by omega) (by omega) (by omega)
    have s53 := hm1 53 (by omega) (by omega) (by omega) (by omega) (by omega)
    rcases M_alley_ok (d := 40) M1 hT (fun i hi => ⟨(tp i hi).1, by rw [s53.2.2.1]; exact (tp i hi).2.2⟩) (by rw [s52.2.2.1]; exact e52) with ⟨g', h2, b1, -⟩ | ⟨S', h2, b1, b2, b3, b4, b5, b6, b7, b8, b9, b10, b11, b12, b13⟩
    · rw [a1] at b1; cases b1
    rw [a1] at b1
    have := Sum.inr.inj b1
    subst this
    have s2 : ∀ c, c ≠ 52 → c ≠ 55 → c ≠ 58 → c ≠ 62 → sk_same h1 h2 c := fun c x1 x2 x3 x4 => b5.sm (fun i => by unfold PMD; rw [beq_false_of_ne x1, beq_false_of_ne x2, beq_false_of_ne x3, beq_false_of_ne x4]; rfl)
    have en2 : hn h2 = n + 15 + m := by
      rw [show Jvm.Pilot.CSkittleRowLaw_law_r7134_573cdd.hn h2 = Jvm.Pilot.CSkittleRowLaw_law_r7134_573cdd.hn h1 from congrArg (fun x => x.2.2.1) b5.1, show Jvm.Pilot.CSkittleRowLaw_law_r7134_573cdd.hn h1 = Jvm.Pilot.CSkittleRowLaw_law_r7134_573cdd.hn hf from congrArg (fun x => x.2.2.1) u2.1, show Jvm.Pilot.CSkittleRowLaw_law_r7134_573cdd.hn hf = Jvm.Pilot.CSkittleRowLaw_law_r7134_573cdd.hn hc from congrArg (fun x => x.2.2.1) f1]
      exact a8
    have es2 : hs h2 ≤ hs h + 592 := by
      rw [show hs h2 = hs h1 from congrArg (fun x => x.2.2.2) b5.1, show hs h1 = hs hf from congrArg (fun x => x.2.2.2) u2.1, show hs hf = hs hc from congrArg (fun x => x.2.2.2) f1]
      exact a9
    have all : ∀ c, c < n → c ≠ 20 → c ≠ 23 → c ≠ 28 → c ≠ 32 → c ≠ 52 → c ≠ 55 → c ≠ 58 → c ≠ 62 → sk_same h h2 c := fun c x0 x1 x2 x3 x4 x5 x6 x7 x8 => sk_same.trans (hm1 c x0 x1 x2 x3 x4) (s2 c x5 x6 x7 x8)
    have far : ∀ c, 73 ≤ c → c < n → sk_same h h2 c := fun c x0 x1 => all c x1 (by omega) (by omega) (by omega) (by omega) (by omega) (by omega) (by omega) (by omega)
    have hK2 : hK h2 = hK hc := by rw [b5.eK, u2.eK, fK]
    have hN2 : Jvm.Pilot.CSkittleRowLaw_law_r7134_573cdd.hN h2 = Jvm.Pilot.CSkittleRowLaw_law_r7134_573cdd.hN hc := by rw [b5.eN, u2.eN, fN]
    have r2 : ∀ c i, c < n → (c = 23 → i ≠ 0) → (c = 32 → i ≠ 0) → hR h2 c i = hR h c i := fun c i x0 x1 x2 => by
      rw [b5.eR]
      by_cases z : c = 32
      · rw [z, u3 i (x2 z), fR, if_neg (by omega), rc 32 (by omega)]
      · rw [(v1 c z).2.2.2.2, fR, if_neg (fun y => x1 y.1 y.2), rc c x0]
    have r230 : hR h2 23 0 = some (n + 2) := by rw [b5.eR, (v1 23 (by omega)).2.2.2.2, fR, if_pos ⟨rfl, rfl⟩]
    have r320 : hR h2 32 0 = some (n + 2) := by rw [b5.eR]; exact u4
    have C2 : CS h2 := C.cg (fun a ha => by rw [hK2, hN2]; exact kc a (by omega)) (fun q hq => by
      have : ∀ q ∈ cR, q.1 < 73 ∧ (q.2.1 ≠ 0 ∨ (q.1 ≠ 23 ∧ q.1 ≠ 32)) := by decide
      have y := this q hq
      exact r2 q.1 q.2.1 (by omega) (fun e => by rcases y.2 with r | r; exact r; exact absurd e r.1) (fun e => by rcases y.2 with r | r; exact r; exact absurd e r.2))
    have M2 : MS 52 h2 := M.sm (fun c x1 x2 => by rw [hK2, hN2]; exact kc c (by omega)) (funext fun i => r2 52 i (by omega) (by omega) (by omega))
    have i52 : ∀ i, PMD 52 i = false → hI h2 52 i = hI h 52 i := fun i hi => by
      rw [b5.I hi]
      exact congrFun s52.2.2.1 i
    have l23 : hI h2 23 = hI hf 23 := by rw [(s2 23 (by omega) (by omega) (by omega) (by omega)).2.2.1, (v1 23 (by omega)).2.2.1]
    have l28 : hI h2 28 = hI hf 28 := by rw [(s2 28 (by omega) (by omega) (by omega) (by omega)).2.2.1, (v1 28 (by omega)).2.2.1]
    have l20 : hI h2 20 = hI hf 20 := by rw [(s2 20 (by omega) (by omega) (by omega) (by omega)).2.2.1, (v1 20 (by omega)).2.2.1]
    obtain ⟨G, hG⟩ : ∃ G : Nat → Prop, G = fun c => F c ∨ (n ≤ c ∧ c < n + 15 + m) := ⟨_, rfl⟩
    have gF : ∀ c, F c → G c := fun c hc1 => by rw [hG]; exact Or.inl hc1
    have gG : ∀ c, G c → F c ∨ (n ≤ c ∧ c < n + 15 + m) := fun c hc1 => by rw [hG] at hc1; exact hc1
    have hF : ∀ c, F c → G c ∧ Same h h2 c := fun c hc1 => by
      have := j4.1 c hc1
      have := j4.2 c hc1
      exact ⟨gF c hc1, (far c (by omega) (by omega)).same⟩
    obtain ⟨E', hE⟩ : ∃ E' : Nat → Option DD, E' = fun a => if a = n + 2 then some (yD S) else E a := ⟨_, rfl⟩
    have En : E' (n + 2) = some (yD S) := by rw [hE]; exact if_pos rfl
    have Eo : ∀ a D, E a = some D → E' a = some D := fun a D hD => by
      have : a ≠ n + 2 := by
        intro e
        obtain ⟨c0, o⟩ := (j8 a D hD).2
        have := j4.2 a o.1
        omega
      rw [hE]
      show (if a = n + 2 then some (yD S) else E a) = _
      rw [if_neg this]; exact hD
    have O2 : AOc G h2 (n + 2) (yD S) (cJ n m) := O1.same (fun c hc1 => ⟨by rw [hG]; exact Or.inr hc1, (sk_same.trans (v1 c (by omega)) (s2 c (by omega) (by omega) (by omega) (by omega))).same⟩)
    have K : ∀ c, c < 73 → c ≠ 20 → c ≠ 23 → c ≠ 28 → c ≠ 32 → c ≠ 52 → c ≠ 55 → c ≠ 58 → c ≠ 62 → Kp h h2 c := fun c x0 x1 x2 x3 x4 x5 x6 x7 x8 => (all c (by omega) x1 x2 x3 x4 x5 x6 x7 x8).kp
    obtain ⟨s0, -⟩ := id j10
    obtain ⟨nx, kp, f, hnx, hkp, c3, -⟩ := id j12
    have hl : m ≤ 48 := a7
    refine ⟨h1, h2, nI (yN S), e1, ⟨?_, ?_, ?_, ?_, M1.K52⟩, b4, G, E', yM S, yF S, 0, ⟨j1.qf (fun c hc1 => all c (by omega) (by omega) (by omega) (by omega) (by omega) (by omega) (by omega) (by omega) (by omega)), C2, M2, ⟨fun c hc1 => ?_, fun c hc1 => ?_⟩, bnd3 en2 hl (by rw [hnn]; exact j5.2.1) n73 es2 j5.2.2, ⟨0, fun _ => 0, Nat.zero_le _, ?_, b6, fun i hi => absurd hi (Nat.not_lt_zero _)⟩, ?_, fun a D hD => ?_, Nat.zero_le _, ?_, ?_, ?_, ?_⟩, ⟨n + 2, r320, ⟨by omega, Or.inr ⟨yD S, En⟩⟩, fun D hD => ?_, fun a ha => ?_⟩, fun a D ha hD => Or.inl b7⟩
    · exact (hm1 16 (by omega) (by omega) (by omega) (by omega) (by omega)).1.trans J.ex.1
    · exact (hm1 16 (by omega) (by omega) (by omega) (by omega) (by omega)).2.1.trans J.ex.2.1
    · exact (hm1 16 (by omega) (by omega) (by omega) (by omega) (by omega)).2.2.1.trans J.ex.2.2.1
    · rw [u2.eK, fK]; exact k20
    · rcases gG c hc1 with r | r
      · exact j4.1 c r
      · omega
    · rcases gG c hc1 with r | r
      · have := j4.2 c r; omega
      · omega
    · rw [l20]; exact i201
    · exact j7.kp (by rw [l20]; exact i20 3 (by omega)) (i52 2 (by decide)) (funext fun i => r2 22 i (by omega) (by omega) (by omega)) (K 54 (by omega) (by omega) (by omega) (by omega) (by omega) (by omega) (by omega) (by omega) (by omega)).2.2.1 (K 56 (by omega) (by omega) (by omega) (by omega) (by omega) (by omega) (by omega) (by omega) (by omega)).2.2.1 (K 57 (by omega) (by omega) (by omega) (by omega) (by omega) (by omega) (by omega) (by omega) (by omega)).2.2.1 hF
    · by_cases z : a = n + 2
      · subst z
        rw [En] at hD
        cases hD
        exact ⟨dw, _, O2⟩
      · have hD : E a = some D := by
          rw [hE] at hD
          have hD : (if a = n + 2 then some (yD S) else E a) = some D := hD
          rw [if_neg z] at hD
          exact hD
        exact ⟨(j8 a D hD).1, (j8 a D hD).2.same hF⟩
    · refine ⟨fun i hi q hq => ?_, by rw [l23]; exact i23.1, by rw [l23]; exact i23.2.1, by rw [l23]; exact i23.2.2.1, b10, b11, b12, b13, a2.2.2.2.2.2.2.2.1, Or.inr ⟨n + 2, yD S, r230, En, dw, b9, a2.2.2.2.2.1, fun i hi => absurd hi (by omega)⟩⟩
      have hq' : hR h 26 i = some q := by rw [← r2 26 i (by omega) (by omega) (by omega)]; exact hq
      obtain ⟨fq, kq⟩ := s0 i hi q hq'
      have := j4.1 q fq
      have := j4.2 q fq
      exact ⟨gF q fq, (far q (by omega) (by omega)).1.trans kq⟩
    · rw [l23, i23.2.2.2, i52 21 (by decide)]; exact j11
    · exact ⟨nx, 0, f, hnx, by omega, by rw [l28, i28.2 3 (by omega)]; exact c3, by rw [l28]; exact i28.1, b8, fun _ => rfl, fun i hi => absurd hi (by omega), fun i k _ hk => absurd hk (by omega)⟩
    · refine (j13.kp (j' := j + 1) (by omega) (by omega) ?_ (K 72 (by omega) (by omega) (by omega) (by omega) (by omega) (by omega) (by omega) (by omega) (by omega)).2.2.1 (K 71 (by omega) (by omega) (by omega) (by omega) (by omega) (by omega) (by omega) (by omega) (by omega)).2.2.1 (K 70 (by omega) (by omega) (by omega) (by omega) (by omega) (by omega) (by omega) (by omega) (by omega)).2.2.1 hF (fun c x1 x2 hc1 => ⟨fun q => ?_, (far c x1 (by omega)).kp⟩)).me Eo
      · exact funext fun i => r2 27 i (by omega) (by omega) (by omega)
      · rcases gG c q with r | r
        · exact hc1 r
        · omega
    · rw [En] at hD
      cases hD
      exact TD1.sm (fun c hc1 => s2 c (by revert hc1; revert c; decide) (by revert hc1; revert c; decide) (by revert hc1; revert c; decide) (by revert hc1; revert c; decide))
    · rw [r230] at ha
      exact (Option.some.inj ha).symm
end SkAlley
