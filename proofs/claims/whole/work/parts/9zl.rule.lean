/-! ===== rule: both agree ===== -/
section SkRule
variable {L : Nat} {xs : Nat → Int32}
theorem kT_far {c : Nat} (h : 73 ≤ c) : kT c = false := by
  unfold kT
  rw [beq_false_of_ne (by omega), beq_false_of_ne (by omega), beq_false_of_ne (by omega), decide_eq_false (show ¬ c ≤ 59 by omega)]
  simp
theorem kT_no {c : Nat} (h : kT c = false) : c ≠ 20 ∧ c ≠ 22 ∧ c ≠ 52 ∧ (c < 54 ∨ 59 < c) := by
  refine ⟨fun e => ?_, fun e => ?_, fun e => ?_, ?_⟩
  · rw [e] at h; exact absurd h (by decide)
  · rw [e] at h; exact absurd h (by decide)
  · rw [e] at h; exact absurd h (by decide)
  · unfold kT at h
    have h := (Bool.or_eq_false_iff.mp h).2
    by_cases y : 54 ≤ c
    · rw [decide_eq_true y, Bool.true_and] at h
      have := of_decide_eq_false h
      omega
    · omega
theorem bnd4 {a b s n j : Nat} (e : a = n + 10) (hn : n ≤ 73 + 70 * j) (hb : b ≤ s + 915) (hs : s ≤ 60000 + 1000 * j) : n ≤ a ∧ a ≤ 73 + 70 * (j + 1) ∧ b ≤ 60000 + 1000 * (j + 1) := by omega
theorem q_rule : sk_Ag (JJ L xs) L xs 52 (fun h => c_SR_rule 40 (some 20) h) (fun h => c_M_rule 40 (some 52) h) := by
  intro j h hj ⟨F, E, st, tu, pl, J, TT, MM⟩
  obtain ⟨j1, j2, j3, j4, j5, j6, j7, j8, j9, j10, j11, j12, j13⟩ := id J
  have C := j2
  have M := j3
  obtain ⟨T, t, hT, e20, e52, tp⟩ := id j6
  obtain ⟨k, R, hk6, r20, r52, rr⟩ := id j7
  have X : Tx h t T := ⟨C.k21, C.n21, hT, fun i hi => ⟨(tp i hi).1, (tp i hi).2.1⟩⟩
  by_cases hk : k < 6
  · obtain ⟨n, hnn⟩ : ∃ n, n = hn h := ⟨_, rfl⟩
    have n73 : 73 ≤ n := by rw [hnn]; exact j5.1
    have cl := SR_rule_pre C (fun k hk => j1.stg hk) X e20 j5.1 r20 hk
    rw [← hnn] at cl
    rcases cl with ⟨m, g, hc, a1, a2, a3, ⟨q, a4⟩, a5, a6, a7⟩ | ⟨m, z, cs, hc, wd, a1, a2, a3, a4, ⟨q, a5⟩, a6, a7, a8, a9⟩
    · -- a fault
      have k20 : hK hc 20 = 12 := (a5 20 (by omega)).1.trans C.k20
      have R8 : Rd (wI hc 20 1 0) n T q (nI g) := by
        obtain ⟨c1, c2, c3, c4, c5, c6⟩ := a4
        exact ⟨c1, c2, by rw [hI_na (by omega)]; exact c3, by rw [hI_na (by omega)]; exact c4, by rw [hI_na (by omega)]; exact c5, c6⟩
      have so := Re_sound_ok (d := 40) R8
      rw [decide_eq_false (fne a2)] at so
      have e1 : c_SR_rule 40 (some 20) h = some (wI hc 20 1 0, nM2 - nI g) := by
        rw [a3]
        unfold ruT
        refine (if_pos k20).trans ?_
        refine (if_pos R8.1).trans ?_
        refine (bnd so _).trans ?_
        refine (if_neg (fun y => y rfl)).trans ?_
        refine (if_pos R8.1).trans ?_
        show some (wI hc 20 1 0, (-2 : Int32) - hI (wI hc 20 1 0) n 3) = _
        rw [R8.2.2.2.2.1]
        rfl
      have s1 : ∀ c, c < n → c ≠ 20 → sk_same h (wI hc 20 1 0) c := fun c hc1 h20 => sk_same.trans (a5 c hc1) ⟨rfl, rfl, funext fun i => hI_na h20, rfl, rfl⟩
      have M1 : MS 52 (wI hc 20 1 0) := M.sm (fun c h1 h2 => ⟨(s1 c (by omega) (by omega)).1, (s1 c (by omega) (by omega)).2.1⟩) (s1 52 (by omega) (by omega)).2.2.2.2
      obtain ⟨h2, v, b1, b2, b3, b4⟩ := M_rule_ok (d := 40) M1 hT (fun i hi => ⟨(tp i hi).1, by rw [(s1 53 (by omega) (by omega)).2.2.1]; exact (tp i hi).2.2⟩) (by rw [(s1 52 (by omega) (by omega)).2.2.1]; exact e52) (by rw [(s1 52 (by omega) (by omega)).2.2.1]; exact r52) hk a1
      rcases b4 with ⟨g', c1, c2, c3⟩ | ⟨z, cs, c1, -⟩
      · have := Sum.inl.inj c1
        subst this
        subst c2
        have s2 : ∀ c, c ≠ 52 → (c < 54 ∨ 59 < c) → sk_same (wI hc 20 1 0) h2 c := fun c x1 x2 => b2.sm (fun i => PDz_c x1 x2)
        have ss : ∀ c, c < n → kT c = false → sk_same h h2 c := fun c hc1 hk' => by
          have y := kT_no hk'
          exact sk_same.trans (s1 c hc1 y.1) (s2 c y.2.2.1 y.2.2.2)
        have en2 : hn h2 = n + 9 := by rw [show Jvm.Pilot.CSkittleRowLaw_law_r7134_573cdd.hn h2 = Jvm.Pilot.CSkittleRowLaw_law_r7134_573cdd.hn (wI hc 20 1 0) from congrArg (fun x => x.2.2.1) b2.1]; exact a6
        have es2 : hs h2 = hs h + 515 := by rw [show hs h2 = hs (wI hc 20 1 0) from congrArg (fun x => x.2.2.2) b2.1]; exact a7
        have kn : ∀ c, c < n → hK h2 c = hK h c ∧ hN h2 c = hN h c := fun c hc1 => by
          rw [b2.eK, b2.eN]
          exact ⟨(a5 c hc1).1, (a5 c hc1).2.1⟩
        have rR : ∀ c, c < n → hR h2 c = hR h c := fun c hc1 => by
          rw [b2.eR]
          exact (a5 c hc1).2.2.2.2
        have i52 : ∀ i, (i = 21 ∨ i = 23 ∨ i = 25) → hI h2 52 i = hI h 52 i := fun i hi => by
          rw [b2.I (PDz_52 hi)]
          exact congrFun (s1 52 (by omega) (by omega)).2.2.1 i
        have i20 : ∀ i, i ≠ 1 → hI h2 20 i = hI h 20 i := fun i hi => by
          rw [b2.I (PDz_c (by omega) (by omega)), hI_ni hi]
          exact congrFun (a5 20 (by omega)).2.2.1 i
        have hF : ∀ c, F c → F c ∧ Same h h2 c := fun c hc1 => by
          have := j4.1 c hc1
          have := j4.2 c hc1
          exact ⟨hc1, (ss c (by omega) (kT_far (by omega))).same⟩
        have tcs : ∀ c, c ∈ [32, 43, 44, 45, 46, 47, 48] → sk_same h h2 c := fun c hc1 => by
          have y : ∀ c, c ∈ [32, 43, 44, 45, 46, 47, 48] → c ≤ 48 ∧ kT c = false := by decide
          exact ss c (by have := (y c hc1).1; omega) (y c hc1).2
        refine ⟨_, h2, _, e1, ⟨(s1 16 (by omega) (by omega)).1.trans J.ex.1, (s1 16 (by omega) (by omega)).2.1.trans J.ex.2.1, (s1 16 (by omega) (by omega)).2.2.1.trans J.ex.2.2.1, (a5 20 (by omega)).1.trans J.ex.2.2.2.1, (s1 52 (by omega) (by omega)).1.trans J.ex.2.2.2.2⟩, b1, F, E, st, tu, pl, J.tx (fun c hc1 => ss c (by omega)) (C.cg (fun a ha => kn a (by omega)) (fun q hq => by
            have : ∀ q ∈ cR, q.1 < 73 := by decide
            rw [rR q.1 (by have := this q hq; omega)])) (M.sm (fun c x1 x2 => kn c (by omega)) (rR 52 (by omega))) (by omega) (by omega) (by omega) (fun c hc1 => hc1) (fun c hc1 => Or.inl hc1) (fun c hc1 => by have := j4.2 c hc1; omega) ⟨0, fun _ => 0, by omega, ?_, b3, fun i hi => absurd hi (by omega)⟩ ⟨k, R, hk6, ?_, c3, fun i hi => ?_⟩ (i52 21 (by omega)) (i52 25 (by omega)), TT.sm tcs (by rw [rR 23 (by omega)]), MM.sm (ss 63 (by omega) rfl) (by rw [rR 23 (by omega)]) (i52 23 (by omega))⟩
        · rw [b2.I (PDz_c (by omega) (by omega)), hI_se]; rfl
        · rw [i20 3 (by omega)]; exact r20
        · obtain ⟨o1, ⟨a, o2, o3⟩, o4⟩ := rr i hi
          exact ⟨o1, ⟨a, by rw [rR 22 (by omega)]; exact o2, o3.same hF⟩, (o4.eq (s1 54 (by omega) (by omega)).2.2.1 (s1 56 (by omega) (by omega)).2.2.1 (s1 57 (by omega) (by omega)).2.2.1).pd b2 hi o1⟩
      · cases c1
    · -- a rule
      have k20 : hK hc 20 = 12 := (a6 20 (by omega)).1.trans C.k20
      have k22 : hK hc 22 = 106 := (a6 22 (by omega)).1.trans C.k22
      have n22 : hN hc 22 = 6 := (a6 22 (by omega)).2.1.trans C.n22
      have k3 : hK hc (n + 3) = 7 := a9.1.1
      have R8 : Rd (wI hc 20 1 0) n T q nM := by
        obtain ⟨c1, c2, c3, c4, c5, c6⟩ := a5
        exact ⟨c1, c2, by rw [hI_na (by omega)]; exact c3, by rw [hI_na (by omega)]; exact c4, by rw [hI_na (by omega)]; exact c5, c6⟩
      have so := Re_sound_ok (d := 40) R8
      rw [decide_eq_true rfl] at so
      have x3 : hI (wI hc 20 1 0) 20 3 = nI k := by rw [hI_ni (by omega), (a6 20 (by omega)).2.2.1]; exact r20
      have r2 : hR hc 20 2 = some 22 := by rw [(a6 20 (by omega)).2.2.2.2]; exact C.r20_2
      obtain ⟨hf, hhf⟩ : ∃ hf, hf = wI (wR (wI hc 20 1 0) 22 k (some (n + 3))) 20 3 (nI (k + 1)) := ⟨_, rfl⟩
      have f1 : hf.1 = hc.1 := by rw [hhf]; rfl
      have fK : hK hf = hK hc := congrArg (fun x => x.1) f1
      have fN : Jvm.Pilot.CSkittleRowLaw_law_r7134_573cdd.hN hf = Jvm.Pilot.CSkittleRowLaw_law_r7134_573cdd.hN hc := congrArg (fun x => x.2.1) f1
      have fJ : hJ hf = hJ hc := by rw [hhf]; rfl
      have fR : ∀ c i, hR hf c i = if c = 22 ∧ i = k then some (n + 3) else hR hc c i := fun c i => by
        rw [hhf]
        show hR (wR (wI hc 20 1 0) 22 k (some (n + 3))) c i = _
        rw [hR_wR]
        rfl
      have fI : ∀ c, c ≠ 20 → hI hf c = hI hc c := fun c x1 => funext fun i => by
        rw [hhf, hI_na x1]
        show hI (wI hc 20 1 0) c i = _
        rw [hI_na x1]
      have fs : ∀ c, c ≠ 20 → c ≠ 22 → sk_same hc hf c := fun c x1 x2 => ⟨by rw [fK], by rw [fN], fI c x1, by rw [fJ], funext fun i => by rw [fR, if_neg (fun y => x2 y.1)]⟩
      have i201 : hI hf 20 1 = 0 := by
        rw [hhf, hI_ni (by omega)]
        show hI (wI hc 20 1 0) 20 1 = _
        rw [hI_se]
      have i203 : hI hf 20 3 = nI (k + 1) := by rw [hhf, hI_se]
      have e1 : c_SR_rule 40 (some 20) h = some (hf, nI k) := by
        rw [a4]
        unfold ruT
        refine (if_pos k20).trans ?_
        refine (if_pos R8.1).trans ?_
        refine (bnd so _).trans ?_
        refine (if_pos nb1).trans ?_
        refine (if_pos k20).trans ?_
        refine (if_pos k20).trans ?_
        refine (bnd r2 _).trans ?_
        refine (if_pos ⟨show a_ref (hK hc 22) = true by rw [k22]; rfl, show sk_in (hI (wI hc 20 1 0) 20 3) (hN hc 22) by rw [x3, n22]; exact vp_in_nI (by omega) (by omega), Or.inr (show hK hc (n + 3) = a_of (hK hc 22) by rw [k3, k22]; rfl)⟩).trans ?_
        refine (if_pos k20).trans ?_
        refine (if_pos k20).trans ?_
        refine (if_pos k20).trans ?_
        show some (wI (wR (wI hc 20 1 0) 22 (hI (wI hc 20 1 0) 20 3).toNatClampNeg (some (n + 3))) 20 3 (hI (wI hc 20 1 0) 20 3 + 1), hI (wI (wR (wI hc 20 1 0) 22 (hI (wI hc 20 1 0) 20 3).toNatClampNeg (some (n + 3))) 20 3 (hI (wI hc 20 1 0) 20 3 + 1)) 20 3 - 1) = _
        rw [x3, q_cl (by omega), nI_1, hI_se, ← hhf, show nI (k + 1) = nI k + 1 from (nI_1 k).symm, Int32.add_sub_cancel]
      have s1 : ∀ c, c < n → c ≠ 20 → c ≠ 22 → sk_same h hf c := fun c x0 x1 x2 => sk_same.trans (a6 c x0) (fs c x1 x2)
      have M1 : MS 52 hf := M.sm (fun c x1 x2 => ⟨(s1 c (by omega) (by omega) (by omega)).1, (s1 c (by omega) (by omega) (by omega)).2.1⟩) (s1 52 (by omega) (by omega) (by omega)).2.2.2.2
      have s52 := s1 52 (by omega) (by omega) (by omega)
      have s53 := s1 53 (by omega) (by omega) (by omega)
      obtain ⟨h2, v, b1, b2, b3, b4⟩ := M_rule_ok (d := 40) M1 hT (fun i hi => ⟨(tp i hi).1, by rw [s53.2.2.1]; exact (tp i hi).2.2⟩) (by rw [s52.2.2.1]; exact e52) (by rw [s52.2.2.1]; exact r52) hk a1
      rcases b4 with ⟨g', c1, -⟩ | ⟨z', cs', c1, c2, c3, c4⟩
      · cases c1
      have := Sum.inr.inj c1
      cases this
      subst c2
      have s2 : ∀ c, c ≠ 52 → (c < 54 ∨ 59 < c) → sk_same hf h2 c := fun c x1 x2 => b2.sm (fun i => PDz_c x1 x2)
      have ss : ∀ c, c < n → kT c = false → sk_same h h2 c := fun c hc1 hk' => by
        have y := kT_no hk'
        exact sk_same.trans (s1 c hc1 y.1 y.2.1) (s2 c y.2.2.1 y.2.2.2)
      have en2 : hn h2 = n + 10 := by
        rw [show Jvm.Pilot.CSkittleRowLaw_law_r7134_573cdd.hn h2 = Jvm.Pilot.CSkittleRowLaw_law_r7134_573cdd.hn hf from congrArg (fun x => x.2.2.1) b2.1, show Jvm.Pilot.CSkittleRowLaw_law_r7134_573cdd.hn hf = Jvm.Pilot.CSkittleRowLaw_law_r7134_573cdd.hn hc from congrArg (fun x => x.2.2.1) f1]
        exact a7
      have es2 : hs h2 ≤ hs h + 915 := by
        rw [show hs h2 = hs hf from congrArg (fun x => x.2.2.2) b2.1, show hs hf = hs hc from congrArg (fun x => x.2.2.2) f1]
        exact a8
      have kn : ∀ c, c < n → hK h2 c = hK h c ∧ hN h2 c = hN h c := fun c hc1 => by
        rw [b2.eK, b2.eN, fK, fN]
        exact ⟨(a6 c hc1).1, (a6 c hc1).2.1⟩
      have rR : ∀ c i, c < n → ¬ (c = 22 ∧ i = k) → hR h2 c i = hR h c i := fun c i hc1 y => by
        rw [b2.eR, fR, if_neg y, (a6 c hc1).2.2.2.2]
      have i52 : ∀ i, (i = 21 ∨ i = 23 ∨ i = 25) → hI h2 52 i = hI h 52 i := fun i hi => by
        rw [b2.I (PDz_52 hi)]
        exact congrFun s52.2.2.1 i
      have l20 : ∀ i, hI h2 20 i = hI hf 20 i := fun i => b2.I (PDz_c (by omega) (by omega))
      obtain ⟨G, hG⟩ : ∃ G : Nat → Prop, G = fun c => F c ∨ (n ≤ c ∧ c < n + 10) := ⟨_, rfl⟩
      have gF : ∀ c, F c → G c := fun c hc1 => by rw [hG]; exact Or.inl hc1
      have gG : ∀ c, G c → F c ∨ (n ≤ c ∧ c < n + 10) := fun c hc1 => by rw [hG] at hc1; exact hc1
      have hF : ∀ c, F c → G c ∧ Same h h2 c := fun c hc1 => by
        have := j4.1 c hc1
        have := j4.2 c hc1
        exact ⟨gF c hc1, (ss c (by omega) (kT_far (by omega))).same⟩
      have tcs : ∀ c, c ∈ [32, 43, 44, 45, 46, 47, 48] → sk_same h h2 c := fun c hc1 => by
        have y : ∀ c, c ∈ [32, 43, 44, 45, 46, 47, 48] → c ≤ 48 ∧ kT c = false := by decide
        exact ss c (by have := (y c hc1).1; omega) (y c hc1).2
      have OC : RO (fun c => n ≤ c ∧ c < n + 10) hc (n + 3) (nRT z cs) := RO_new a9 (fun c x1 x2 => ⟨x1, x2⟩)
      have O2 : RO G h2 (n + 3) (nRT z cs) := OC.same (fun c hc1 => ⟨by rw [hG]; exact Or.inr hc1, (sk_same.trans (fs c (by omega) (by omega)) (s2 c (by omega) (by omega))).same⟩)
      have bb := bnd4 en2 (by rw [hnn]; exact j5.2.1) es2 j5.2.2
      refine ⟨hf, h2, nI k, e1, ⟨(s1 16 (by omega) (by omega) (by omega)).1.trans J.ex.1, (s1 16 (by omega) (by omega) (by omega)).2.1.trans J.ex.2.1, (s1 16 (by omega) (by omega) (by omega)).2.2.1.trans J.ex.2.2.1, by rw [fK]; exact k20, M1.K52⟩, b1, G, E, st, tu, pl, J.tx (G := G) (fun c hc1 => ss c (by omega)) (C.cg (fun a ha => kn a (by omega)) (fun q hq => by
          have : ∀ q ∈ cR, q.1 < 73 ∧ q.1 ≠ 22 := by decide
          have y := this q hq
          exact rR q.1 q.2.1 (by omega) (fun w => y.2 w.1))) (M.sm (fun c x1 x2 => kn c (by omega)) (funext fun i => rR 52 i (by omega) (by omega))) (by rw [← hnn]; exact bb.1) bb.2.1 bb.2.2 gF (fun c hc1 => ?_) (fun c hc1 => ?_) ⟨0, fun _ => 0, by omega, ?_, b3, fun i hi => absurd hi (by omega)⟩ ⟨k + 1, fun i => if i = k then nRT z cs else R i, by omega, ?_, c3, fun i hi => ?_⟩ (i52 21 (by omega)) (i52 25 (by omega)), TT.sm tcs (rR 23 0 (by omega) (by omega)), MM.sm (ss 63 (by omega) rfl) (rR 23 0 (by omega) (by omega)) (i52 23 (by omega))⟩
      · rcases gG c hc1 with r | r
        · exact Or.inl r
        · exact Or.inr (by omega)
      · rcases gG c hc1 with r | r
        · have := j4.2 c r; omega
        · omega
      · rw [l20]; exact i201
      · rw [l20]; exact i203
      · by_cases y : i = k
        · subst y
          show RW (if i = i then nRT z cs else R i) ∧ (∃ a, hR h2 22 i = some a ∧ RO G h2 a (if i = i then nRT z cs else R i)) ∧ MR h2 i (if i = i then nRT z cs else R i)
          rw [if_pos rfl]
          exact ⟨RW_new a2 a3, ⟨n + 3, by rw [b2.eR, fR, if_pos ⟨rfl, rfl⟩], O2⟩, MR_new c4⟩
        · show RW (if i = k then nRT z cs else R i) ∧ (∃ a, hR h2 22 i = some a ∧ RO G h2 a (if i = k then nRT z cs else R i)) ∧ MR h2 i (if i = k then nRT z cs else R i)
          rw [if_neg y]
          obtain ⟨o1, ⟨a, o2, o3⟩, o4⟩ := rr i (by omega)
          exact ⟨o1, ⟨a, by rw [rR 22 i (by omega) (fun w => y w.2)]; exact o2, o3.same hF⟩, (o4.eq (s1 54 (by omega) (by omega) (by omega)).2.2.1 (s1 56 (by omega) (by omega) (by omega)).2.2.1 (s1 57 (by omega) (by omega) (by omega)).2.2.1).pd b2 (by omega) o1⟩
  · have k6 : k = 6 := by omega
    subst k6
    refine ⟨h, h, nM, ?_, J.ex, ?_, F, E, st, tu, pl, J.s, TT, MM⟩
    · show c_SR_rule 40 (some 20) h = some (h, nM)
      refine (e_SR_rule _ _ _).trans ?_
      refine (if_pos C.k20).trans ?_
      exact if_neg (show ¬ hI h 20 3 < nI 6 by rw [r20]; exact nI_nlt (by omega) (by omega))
    · show c_M_rule 40 (some 52) h = some (h, nM)
      refine (e_M_rule _ _ _).trans ?_
      refine (if_pos M.K52).trans ?_
      exact if_neg (fun y => y r52)
theorem sk_law_ok (L : Nat) (xs : Nat → Int32) (r : Option Nat) (hL : L ≤ 3072) : ∃ h', c_L_law 40 (some 16) (sk_h0 L xs r) = some (h', 1) ∧ hn h' ≤ 600020 ∧ hs h' ≤ 7302250 := sk_law_of q_alley q_rule r hL
end SkRule
