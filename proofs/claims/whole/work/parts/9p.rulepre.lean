/-! ===== the class makes a reader of rules and reads a rule ===== -/
def ruL : List (Nat × Nat × Nat) := [(0, 101, 0), (2, 101, 12), (3, 101, 12), (4, 101, 12), (5, 102, 64)]
def z0R : RZ := (0, [], 0)
/-- what is left to do with what is read -/
noncomputable def ruT (n : Nat) (q7 : sk_H × Option Nat) : Option (sk_H × Int32) :=
    if hK q7.1 20 = 12 then
    let h8 := wI q7.1 20 1 (0 : Int32)
    if hK h8 n = 6 then
    Option.bind (c_Re_sound 40 (some n) h8) fun q9 =>
    if ¬ q9.2 = 0 then
      if hK q9.1 20 = 12 then
      if hK q9.1 20 = 12 then
      Option.bind (hR q9.1 20 2) fun a10 => if a_ref (hK q9.1 a10) = true ∧ sk_in (hI q9.1 20 3) (hN q9.1 a10) ∧ (q7.2 = none ∨ hK q9.1 (q7.2.getD 0) = a_of (hK q9.1 a10)) then
      let h11 := wR q9.1 a10 (hI q9.1 20 3).toNatClampNeg q7.2
      if hK h11 20 = 12 then
      if hK h11 20 = 12 then
      let h12 := wI h11 20 3 ((hI h11 20 3) + (1 : Int32))
      if hK h12 20 = 12 then
      some (h12, (hI h12 20 3) - (1 : Int32))
      else none
      else none
      else none
      else none
      else none
      else none
    else
      if hK q9.1 n = 6 then
      some (q9.1, ((-2) : Int32) - (hI q9.1 n 3))
      else none
    else none
    else none
/-- the class's rule, made -/
def ruX (h : sk_H) (n wd : Nat) (z : RZ) (cs : List (Nat × Nat × Nat × Bool)) : Prop := SI9 h n z.2.1.length wd z.2.1 ∧ RUS h n ∧ (hR h (n + 3) 5 = some (n + 8) ∧ hK h (n + 8) = 102 ∧ hN h (n + 8) = 64) ∧ hI h (n + 3) 1 = nI cs.length ∧ ∀ i c, cs[i]? = some c → hI h (n + 5) i = nI c.1 ∧ hI h (n + 6) i = nI c.2.1 ∧ hI h (n + 7) i = nI c.2.2.1
section SkRulepre
variable {h h' h1 h2 : sk_H} {t : Nat → Nat} {T n d k m : Nat} {z z1 : RZ}
theorem Stg.up {i m : Nat} {c : Nat → Nat} (G : Stg h i c m) (hi : i ≤ 8) (U : Up n h h1) (hn : 73 ≤ n) : Stg h1 i c m := by
  obtain ⟨k, r, i1, k2, n2, n3, x⟩ := G
  have u := U i (by omega)
  have u' := U (i + 7) (by omega)
  exact ⟨u.1.trans k, by rw [u.2.2.2.2]; exact r, by rw [u.2.2.1]; exact i1, u'.1.trans k2, u'.2.1.trans n2, n3, by rw [u'.2.2.1]; exact x⟩
theorem Rd.sm {p : Nat} {f : Int32} (R : Rd h n T p f) (s : sk_same h h1 n) : Rd h1 n T p f := by
  obtain ⟨c1, c2, c3, c4, c5, c6⟩ := R
  exact ⟨s.1.trans c1, by rw [s.2.2.2.2]; exact c2, by rw [s.2.2.1]; exact c3, by rw [s.2.2.1]; exact c4, by rw [s.2.2.1]; exact c5, c6⟩
theorem RA.up (A : RA h n t T z) (U : Up (n + 3) h h1) : RA h1 n t T z := by
  obtain ⟨X, B, C, D, G, O, l⟩ := A
  have n73 := C.2.2.2.2.2
  have u1 := U (n + 1) (by omega)
  have u2 := U (n + 2) (by omega)
  obtain ⟨b1, b2, b3, b4, b5⟩ := B
  obtain ⟨d1, d2, d3⟩ := D
  exact ⟨X.up U (by omega), ⟨u1.1.trans b1, by rw [u1.2.2.2.2]; exact b2, by rw [u1.2.2.2.2]; exact b3, u2.1.trans b4, u2.2.1.trans b5⟩, C.sm (U n (by omega)), ⟨by rw [u1.2.2.1]; exact d1, by rw [u1.2.2.1]; exact d2, fun i o ho => by rw [u2.2.2.1]; exact d3 i o ho⟩, fun k hk => (G k hk).up (by omega) U (by omega), O, l⟩
theorem RR_made (X : Tx h t T) (R : Rd h n T 0 nM) (G : Sgs h) (en : hn h = n + 1) : ∃ h1, c_RR_init d (some (n + 1)) (some n) (hnew h 8 4) = some h1 ∧ RA h1 n t T z0R ∧ Up (n + 1) h h1 ∧ hn h1 = n + 3 ∧ hs h1 = hs h + 404 := by
  have n73 := R.2.2.2.2.2
  have u1 : Up (n + 1) h (hnew h 8 4) := fun c hc => new_sm h _ _ (by omega)
  have k1 : hK (hnew h 8 4) (n + 1) = 8 := by rw [hK_new, if_pos en.symm]
  have i1 : ∀ i, hI (hnew h 8 4) (n + 1) i = 0 := fun i => by rw [hI_new, if_pos en.symm]
  have en2 : hn (hnew h 8 4) = n + 2 := by rw [hn_new, en]
  have u2 : Up (n + 2) (hnew h 8 4) (hnew (hnew h 8 4) 101 400) := fun c hc => new_sm _ _ _ (by omega)
  have k2 : hK (hnew (hnew h 8 4) 101 400) (n + 2) = 101 := by rw [hK_new, if_pos en2.symm]
  have n2 : hN (hnew (hnew h 8 4) 101 400) (n + 2) = 400 := by rw [hN_new, if_pos en2.symm]
  have k1m : hK (hnew (hnew h 8 4) 101 400) (n + 1) = 8 := (u2 (n + 1) (by omega)).1.trans k1
  have i1m : ∀ i, hI (hnew (hnew h 8 4) 101 400) (n + 1) i = 0 := fun i => by rw [(u2 (n + 1) (by omega)).2.2.1]; exact i1 i
  have es : hs (hnew (hnew h 8 4) 101 400) = hs h + 404 := by rw [hs_new, hs_new]
  have en3 : hn (hnew (hnew h 8 4) 101 400) = n + 3 := by rw [hn_new, en2]
  have e0 : c_RR_init d (some (n + 1)) (some n) (hnew h 8 4) = some (wR (wR (hnew (hnew h 8 4) 101 400) (n + 1) 1 (some (n + 2))) (n + 1) 0 (some n)) := by
    refine (e_RR_init _ _ _ _).trans ?_
    refine (if_pos k1m).trans ?_
    refine (if_pos k1m).trans ?_
    show some (wR (wR (hnew (hnew h 8 4) 101 400) (n + 1) 1 (some (hn (hnew h 8 4)))) (n + 1) 0 (some n)) = _
    rw [en2]
  have u12 : Up (n + 1) h (hnew (hnew h 8 4) 101 400) := u1.trans (u2.le (by omega))
  generalize hnew (hnew h 8 4) 101 400 = m at *
  have U : Up (n + 1) h (wR (wR m (n + 1) 1 (some (n + 2))) (n + 1) 0 (some n)) := fun c hc => sk_same.trans (u12 c hc) (sk_same.trans (wR_sm m _ _ (by omega)) (wR_sm _ _ _ (by omega)))
  refine ⟨_, e0, ⟨X.up U (by omega), ⟨k1m, ?_, ?_, k2, n2⟩, R.sm (U n (by omega)), ⟨i1m 2, i1m 3, fun i o ho => ?_⟩, fun k hk => (G k hk).up (by omega) U (by omega), ⟨Nat.zero_le _, by show (0 : Nat) ≤ 60; omega⟩, Nat.le_refl _⟩, U, en3, es⟩
  · rw [hR_wR, if_pos ⟨rfl, rfl⟩]
  · rw [hR_wR, if_neg (by omega), hR_wR, if_pos ⟨rfl, rfl⟩]
  · have ho : ([] : List (Nat × Nat))[i]? = some o := ho
    simp at ho
theorem Ru_init_ok {a : Nat} (k : hK h a = 7) (ha : a < hn h) : c_Ru_init d (some a) h = some (ruL.foldl (lk1 a) h) := by
  have kk : ∀ (l : List (Nat × Nat × Nat)) (x : Nat × Nat × Nat), hK (hnew (l.foldl (lk1 a) h) x.2.1 x.2.2) a = 7 := fun l x => by
    obtain ⟨g1, g2, g3, ⟨g4, -⟩, -⟩ := lkF a l h ha
    rw [newK (by rw [g1]; omega)]
    exact g4.trans k
  refine (e_Ru_init _ _ _).trans ?_
  refine (if_pos (kk [] (0, 101, 0))).trans ?_
  refine (if_pos (kk [(0, 101, 0)] (2, 101, 12))).trans ?_
  refine (if_pos (kk [(0, 101, 0), (2, 101, 12)] (3, 101, 12))).trans ?_
  refine (if_pos (kk [(0, 101, 0), (2, 101, 12), (3, 101, 12)] (4, 101, 12))).trans ?_
  exact (if_pos (kk [(0, 101, 0), (2, 101, 12), (3, 101, 12), (4, 101, 12)] (5, 102, 64))).trans rfl
theorem Ru_made (A : RA h n t T z) (en : hn h = n + 3) : ∃ h1, c_RR_read 40 (some (n + 1)) h = k_RR_read_10 40 (some (n + 1)) (some (n + 3)) (nI 0) h1 ∧ RA h1 n t T z ∧ RUS h1 n ∧ RUI h1 n [] ∧ (hR h1 (n + 3) 5 = some (n + 8) ∧ hK h1 (n + 8) = 102 ∧ hN h1 (n + 8) = 64) ∧ Up (n + 3) h h1 ∧ hn h1 = n + 9 ∧ hs h1 = hs h + 107 := by
  have u1 : Up (n + 3) h (hnew h 7 7) := fun c hc => new_sm h _ _ (by omega)
  have k1 : hK (hnew h 7 7) (n + 3) = 7 := by rw [hK_new, if_pos en.symm]
  have i1 : ∀ i, hI (hnew h 7 7) (n + 3) i = 0 := fun i => by rw [hI_new, if_pos en.symm]
  have en1 : hn (hnew h 7 7) = n + 4 := by rw [hn_new, en]
  have es1 : hs (hnew h 7 7) = hs h + 7 := by rw [hs_new]
  obtain ⟨g1, g2, g3, ⟨g4, g5, g6⟩, g7, g8, g9⟩ := lkF (n + 3) ruL (hnew h 7 7) (by omega)
  have g9 := g9 (by decide)
  have ai := Ru_init_ok (d := 40) k1 (by omega)
  rw [en1] at g1 g3 g7 g9
  have e0 : c_RR_read 40 (some (n + 1)) h = k_RR_read_10 40 (some (n + 1)) (some (n + 3)) (nI 0) (ruL.foldl (lk1 (n + 3)) (hnew h 7 7)) := by
    refine (e_RR_read _ _ _).trans ?_
    show (if hK (hnew h 7 7) (hn h) = 7 then Option.bind (c_Ru_init 40 (some (hn h)) (hnew h 7 7)) fun q3 => k_RR_read_10 40 (some (n + 1)) (some (hn h)) (0 : Int32) q3 else none) = _
    rw [en]
    refine (if_pos k1).trans ?_
    exact (bnd ai _).trans rfl
  generalize ruL.foldl (lk1 (n + 3)) (hnew h 7 7) = m at *
  have U : Up (n + 3) h m := fun c hc => sk_same.trans (u1 c hc) (g3 c (by omega) (by omega))
  refine ⟨m, e0, A.up U, ⟨g4.trans k1, ⟨g9 1 (2, 101, 12) rfl, (g7 1 (2, 101, 12) rfl).1, (g7 1 (2, 101, 12) rfl).2.1⟩, ⟨g9 2 (3, 101, 12) rfl, (g7 2 (3, 101, 12) rfl).1, (g7 2 (3, 101, 12) rfl).2.1⟩, ⟨g9 3 (4, 101, 12) rfl, (g7 3 (4, 101, 12) rfl).1, (g7 3 (4, 101, 12) rfl).2.1⟩⟩, ⟨by rw [g6]; exact i1 1, by rw [g6]; exact i1 6, fun i c hc => by simp at hc⟩, ⟨g9 4 (5, 102, 64) rfl, (g7 4 (5, 102, 64) rfl).1, (g7 4 (5, 102, 64) rfl).2.1⟩, U, by rw [g1]; rfl, by rw [g2, es1]; rfl⟩
theorem ruW_0 : ruW z0R [] := ⟨by decide, fun o ho => (by cases ho), fun c hc => (by cases hc)⟩
theorem SR_rule_pre (C : CS h) (G : Sgs h) (X : Tx h t T) (eT : hI h 20 1 = nI T) (n73 : 73 ≤ hn h) (h3 : hI h 20 3 = nI k) (hk : k < 6) : (∃ m g h', ruP t T m 13 z0R [] = some (.inl g) ∧ g < 10000 ∧ c_SR_rule 40 (some 20) h = ruT (hn h) (h', some (hn h + 3)) ∧ (∃ q, Rd h' (hn h) T q (nI g)) ∧ Up (hn h) h h' ∧ hn h' = hn h + 9 ∧ hs h' = hs h + 515) ∨ ∃ m z cs h' wd, ruP t T m 13 z0R [] = some (.inr (z, cs)) ∧ ruW z cs ∧ z.2.1.length ≤ 400 ∧ c_SR_rule 40 (some 20) h = ruT (hn h) (h', some (hn h + 3)) ∧ (∃ q, Rd h' (hn h) T q nM) ∧ Up (hn h) h h' ∧ hn h' = hn h + 10 ∧ hs h' ≤ hs h + 915 ∧ ruX h' (hn h) wd z cs := by
  obtain ⟨x1, x2, x3, x4⟩ := id X
  obtain ⟨hA, e1, e2, e3, e4, e5⟩ := Re_made (d := 40) x1 x2 x3 n73
  generalize hb : hn h = n at *
  obtain ⟨hB, f1, f2, f3, f4, f5⟩ := RR_made (d := 40) (X.up e3 n73) e2 (fun k hk => (G k hk).up (by omega) e3 n73) e4
  obtain ⟨hC, c1, c2, c3, c4, c5, c6, c7, c8⟩ := Ru_made f2 f4
  have U : Up n h hC := e3.trans ((f3.le (by omega)).trans (c6.le (by omega)))
  obtain ⟨m, r, h1, p1, p2, p3⟩ := RR_read_in 13 z0R [] hC rfl c2 c3 c4 ruW_0
  have pre : c_SR_rule 40 (some 20) h = Option.bind (k_RR_read_10 40 (some (n + 1)) (some (n + 3)) (nI 0) hC) (ruT n) := by
    have s := new_sm h 6 4 (c := 20) (by omega)
    have k20 : hK (hnew h 6 4) 20 = 12 := s.1.trans C.k20
    refine (e_SR_rule _ _ _).trans ?_
    refine (if_pos C.k20).trans ?_
    refine (if_pos (show hI h 20 3 < nI 6 by rw [h3]; exact nI_lt hk (by omega))).trans ?_
    refine (if_pos k20).trans ?_
    refine (if_pos k20).trans ?_
    refine (if_pos (show hK (hnew h 6 4) (hn h) = 6 by rw [hK_new, if_pos rfl])).trans ?_
    have ei : c_Re_init 40 (some (hn h)) (hR (hnew h 6 4) 20 0) (hI (hnew h 6 4) 20 1) (hnew h 6 4) = some hA := by
      rw [s.2.2.2.2, s.2.2.1, C.r20_0, eT, hb]
      exact e1
    refine (bnd ei _).trans ?_
    refine (if_pos (show hK (hnew hA 8 4) (hn hA) = 8 by rw [hK_new, if_pos rfl])).trans ?_
    refine (bnd (show c_RR_init 40 (some (hn hA)) (some (hn h)) (hnew hA 8 4) = some hB by rw [e4, hb]; exact f1) _).trans ?_
    refine (if_pos (show hK hB (hn hA) = 8 by rw [e4]; exact f2.2.1.1)).trans ?_
    rw [e4, hb]
    refine (bnd_eq c1 _).trans ?_
    rfl
  have U1 : Up n h h1 := U.trans (fun c hc => p2.sm (fun i => by unfold PN; exact decide_eq_false (by omega)))
  have en1 : hn h1 = n + 9 := by rw [show hn h1 = hn hC from congrArg (fun x => x.2.2.1) p2.1]; exact c7
  have es1 : hs h1 = hs h + 515 := by rw [show hs h1 = hs hC from congrArg (fun x => x.2.2.2) p2.1, c8, f5, e5]
  rcases p3 with ⟨g, rfl, ⟨q, hq, R, hg⟩, k2⟩ | ⟨z, cs, rfl, A, D, w, k2⟩
  · refine Or.inl ⟨m, g, h1, p1, hg, ?_, ⟨q, R⟩, U1, en1, es1⟩
    rw [pre]
    exact bnd k2 _
  · have U8 := c3.pn p2
    obtain ⟨h2, wd, q1, q2, q3, q4, q5, q6, q7⟩ := Ru_settle_ok (d := 40) A U8 D en1 w.2.1
    have hl : z.2.1.length ≤ 400 := by have := A.2.2.2.2.2.1.1; have := A.2.2.2.2.2.2; omega
    have v0 := q4 n (by omega) (by omega)
    have v5 := q4 (n + 5) (by omega) (by omega)
    have v6 := q4 (n + 6) (by omega) (by omega)
    have v7 := q4 (n + 7) (by omega) (by omega)
    have v8 := q4 (n + 8) (by omega) (by omega)
    obtain ⟨u0, ⟨u1, u2, u3⟩, ⟨u4, u5, u6⟩, ⟨u7, u8, u9⟩⟩ := U8
    refine Or.inr ⟨m, z, cs, h2, wd, p1, w, hl, ?_, ⟨_, A.2.2.1.sm v0⟩, U1.trans (fun c hc => q4 c (by omega) (by omega)), q2, by omega, q5, ⟨q5.1, ⟨by rw [q6 2 (by omega)]; exact u1, v5.1.trans u2, v5.2.1.trans u3⟩, ⟨by rw [q6 3 (by omega)]; exact u4, v6.1.trans u5, v6.2.1.trans u6⟩, ⟨by rw [q6 4 (by omega)]; exact u7, v7.1.trans u8, v7.2.1.trans u9⟩⟩, ⟨by rw [q6 5 (by omega), p2.eR]; exact c5.1, v8.1.trans (by rw [p2.eK]; exact c5.2.1), v8.2.1.trans (by rw [p2.eN]; exact c5.2.2)⟩, q7.trans D.1, fun i c hc => ?_⟩
    · rw [pre]
      refine (bnd_eq k2 _).trans ?_
      refine bnd ?_ _
      exact (bnd q1 _).trans rfl
    · rw [v5.2.2.1, v6.2.2.1, v7.2.2.1]
      exact D.2.2 i c hc
end SkRulepre
