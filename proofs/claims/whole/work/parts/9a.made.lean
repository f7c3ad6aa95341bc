/-! ===== the class makes a reader and an alley (printed by gen9a.py) ===== -/
/-- a new cell, linked at a's place x -/
def lk1 (a : Nat) (h : sk_H) (x : Nat × Nat × Nat) : sk_H := wR (hnew h x.2.1 x.2.2) a x.1 (some (hn h))
def lkS : List (Nat × Nat × Nat) → Nat
  | [] => 0
  | x :: l => x.2.2 + lkS l
section SkMade
variable {h h' h1 h2 : sk_H} {t : Nat → Nat} {T n d a : Nat}
theorem newK {k m : Nat} (ha : a < hn h) : hK (hnew h k m) a = hK h a := by rw [hK_new, if_neg (by omega)]
theorem lk1_sm {x : Nat × Nat × Nat} {c : Nat} (hc : c < hn h) (ha : c ≠ a) : sk_same h (lk1 a h x) c := sk_same.trans (new_sm h _ _ hc) (wR_sm _ _ _ ha)
theorem lkF (a : Nat) : ∀ (l : List (Nat × Nat × Nat)) (h : sk_H), a < hn h → hn (l.foldl (lk1 a) h) = hn h + l.length ∧ hs (l.foldl (lk1 a) h) = hs h + lkS l ∧ (∀ c, c < hn h → c ≠ a → sk_same h (l.foldl (lk1 a) h) c) ∧ (hK (l.foldl (lk1 a) h) a = hK h a ∧ hN (l.foldl (lk1 a) h) a = hN h a ∧ hI (l.foldl (lk1 a) h) a = hI h a) ∧ (∀ i x, l[i]? = some x → hK (l.foldl (lk1 a) h) (hn h + i) = x.2.1 ∧ hN (l.foldl (lk1 a) h) (hn h + i) = x.2.2 ∧ ∀ j, hI (l.foldl (lk1 a) h) (hn h + i) j = 0) ∧ (∀ j, (∀ x ∈ l, x.1 ≠ j) → hR (l.foldl (lk1 a) h) a j = hR h a j) ∧ (l.Pairwise (fun x y => y.1 ≠ x.1) → ∀ i x, l[i]? = some x → hR (l.foldl (lk1 a) h) a x.1 = some (hn h + i))
  | [], h, ha => ⟨rfl, rfl, fun c _ _ => sk_same.rf h c, ⟨rfl, rfl, rfl⟩, fun i x e => by simp at e, fun _ _ => rfl, fun _ i x e => by simp at e⟩
  | y :: l, h, ha => by
    have en : hn (lk1 a h y) = hn h + 1 := rfl
    obtain ⟨g1, g2, g3, ⟨g4, g5, g6⟩, g7, g8, g9⟩ := lkF a l (lk1 a h y) (by rw [en]; omega)
    rw [en] at g1 g3 g7 g9
    have es : hs (lk1 a h y) = hs h + y.2.2 := rfl
    have sa := new_sm h y.2.1 y.2.2 (c := a) ha
    have nw : hK (lk1 a h y) (hn h) = y.2.1 ∧ hN (lk1 a h y) (hn h) = y.2.2 ∧ ∀ j, hI (lk1 a h y) (hn h) j = 0 := ⟨by show hK (hnew h y.2.1 y.2.2) (hn h) = _; rw [hK_new, if_pos rfl], by show hN (hnew h y.2.1 y.2.2) (hn h) = _; rw [hN_new, if_pos rfl], fun j => by show hI (hnew h y.2.1 y.2.2) (hn h) j = _; rw [hI_new, if_pos rfl]⟩
    rw [List.foldl_cons]
    refine ⟨by rw [g1, List.length_cons]; omega, by rw [g2, es]; show _ = hs h + (y.2.2 + lkS l); omega, fun c hc hca => sk_same.trans (lk1_sm hc hca) (g3 c (by omega) hca), ⟨g4.trans sa.1, g5.trans sa.2.1, g6.trans sa.2.2.1⟩, fun i x e => ?_, fun j hj => ?_, fun hp i x e => ?_⟩
    · cases i with
      | zero =>
        have : y = x := by simpa using e
        subst this
        have s := g3 (hn h) (by omega) (by omega)
        exact ⟨s.1.trans nw.1, s.2.1.trans nw.2.1, fun j => by rw [Nat.add_zero, s.2.2.1]; exact nw.2.2 j⟩
      | succ i =>
        have e : l[i]? = some x := by simpa using e
        have := g7 i x e
        rw [show hn h + 1 + i = hn h + (i + 1) by omega] at this
        exact this
    · rw [g8 j (fun x hx => hj x (List.mem_cons_of_mem _ hx))]
      show hR (wR (hnew h y.2.1 y.2.2) a y.1 (some (hn h))) a j = _
      rw [hR_wR, if_neg (fun q => hj y (List.mem_cons_self ..) q.2.symm), sa.2.2.2.2]
    · have hp' := List.pairwise_cons.mp hp
      cases i with
      | zero =>
        have : y = x := by simpa using e
        subst this
        rw [g8 y.1 (fun x hx => hp'.1 x hx)]
        show hR (wR (hnew h y.2.1 y.2.2) a y.1 (some (hn h))) a y.1 = _
        rw [hR_wR, if_pos ⟨rfl, rfl⟩]
        rfl
      | succ i =>
        have e : l[i]? = some x := by simpa using e
        rw [g9 hp'.2 i x e, show hn h + 1 + i = hn h + (i + 1) by omega]
def alL : List (Nat × Nat × Nat) := [(8, 101, 12), (9, 101, 4), (10, 101, 4), (11, 103, 4), (12, 101, 12), (13, 101, 12), (14, 108, 0), (15, 108, 0), (16, 101, 41)]
theorem Al_init_ok (k : hK h a = 2) (ha : a < hn h) : c_Al_init d (some a) h = some (alL.foldl (lk1 a) h) := by
  refine (e_Al_init _ _ _).trans ?_
  have k0 : hK (hnew h 101 12) a = 2 := (newK (show a < hn h by exact ha)).trans k
  have k1 : hK (hnew (lk1 a h (8, 101, 12)) 101 4) a = 2 := (newK (show a < hn (lk1 a h (8, 101, 12)) by show a < hn h + 1; omega)).trans k0
  have k2 : hK (hnew (lk1 a (lk1 a h (8, 101, 12)) (9, 101, 4)) 101 4) a = 2 := (newK (show a < hn (lk1 a (lk1 a h (8, 101, 12)) (9, 101, 4)) by show a < hn h + 2; omega)).trans k1
  have k3 : hK (hnew (lk1 a (lk1 a (lk1 a h (8, 101, 12)) (9, 101, 4)) (10, 101, 4)) 103 4) a = 2 := (newK (show a < hn (lk1 a (lk1 a (lk1 a h (8, 101, 12)) (9, 101, 4)) (10, 101, 4)) by show a < hn h + 3; omega)).trans k2
  have k4 : hK (hnew (lk1 a (lk1 a (lk1 a (lk1 a h (8, 101, 12)) (9, 101, 4)) (10, 101, 4)) (11, 103, 4)) 101 12) a = 2 := (newK (show a < hn (lk1 a (lk1 a (lk1 a (lk1 a h (8, 101, 12)) (9, 101, 4)) (10, 101, 4)) (11, 103, 4)) by show a < hn h + 4; omega)).trans k3
  have k5 : hK (hnew (lk1 a (lk1 a (lk1 a (lk1 a (lk1 a h (8, 101, 12)) (9, 101, 4)) (10, 101, 4)) (11, 103, 4)) (12, 101, 12)) 101 12) a = 2 := (newK (show a < hn (lk1 a (lk1 a (lk1 a (lk1 a (lk1 a h (8, 101, 12)) (9, 101, 4)) (10, 101, 4)) (11, 103, 4)) (12, 101, 12)) by show a < hn h + 5; omega)).trans k4
  have k6 : hK (hnew (lk1 a (lk1 a (lk1 a (lk1 a (lk1 a (lk1 a h (8, 101, 12)) (9, 101, 4)) (10, 101, 4)) (11, 103, 4)) (12, 101, 12)) (13, 101, 12)) 108 0) a = 2 := (newK (show a < hn (lk1 a (lk1 a (lk1 a (lk1 a (lk1 a (lk1 a h (8, 101, 12)) (9, 101, 4)) (10, 101, 4)) (11, 103, 4)) (12, 101, 12)) (13, 101, 12)) by show a < hn h + 6; omega)).trans k5
  have k7 : hK (hnew (lk1 a (lk1 a (lk1 a (lk1 a (lk1 a (lk1 a (lk1 a h (8, 101, 12)) (9, 101, 4)) (10, 101, 4)) (11, 103, 4)) (12, 101, 12)) (13, 101, 12)) (14, 108, 0)) 108 0) a = 2 := (newK (show a < hn (lk1 a (lk1 a (lk1 a (lk1 a (lk1 a (lk1 a (lk1 a h (8, 101, 12)) (9, 101, 4)) (10, 101, 4)) (11, 103, 4)) (12, 101, 12)) (13, 101, 12)) (14, 108, 0)) by show a < hn h + 7; omega)).trans k6
  have k8 : hK (hnew (lk1 a (lk1 a (lk1 a (lk1 a (lk1 a (lk1 a (lk1 a (lk1 a h (8, 101, 12)) (9, 101, 4)) (10, 101, 4)) (11, 103, 4)) (12, 101, 12)) (13, 101, 12)) (14, 108, 0)) (15, 108, 0)) 101 41) a = 2 := (newK (show a < hn (lk1 a (lk1 a (lk1 a (lk1 a (lk1 a (lk1 a (lk1 a (lk1 a h (8, 101, 12)) (9, 101, 4)) (10, 101, 4)) (11, 103, 4)) (12, 101, 12)) (13, 101, 12)) (14, 108, 0)) (15, 108, 0)) by show a < hn h + 8; omega)).trans k7
  refine (if_pos k0).trans ?_
  refine (if_pos k1).trans ?_
  refine (if_pos k2).trans ?_
  refine (if_pos k3).trans ?_
  refine (if_pos k4).trans ?_
  refine (if_pos k5).trans ?_
  refine (if_pos k6).trans ?_
  refine (if_pos k7).trans ?_
  refine (if_pos k8).trans ?_
  rfl
theorem Re_made (k21 : hK h 21 = 105) (n21 : hN h 21 = 400) (hT : T ≤ 400) (hn : 73 ≤ hn h) : ∃ h1, c_Re_init d (some (Jvm.Pilot.CSkittleRowLaw_law_r7134_573cdd.hn h)) (some 21) (nI T) (hnew h 6 4) = some h1 ∧ Rd h1 (Jvm.Pilot.CSkittleRowLaw_law_r7134_573cdd.hn h) T 0 nM ∧ Up (Jvm.Pilot.CSkittleRowLaw_law_r7134_573cdd.hn h) h h1 ∧ Jvm.Pilot.CSkittleRowLaw_law_r7134_573cdd.hn h1 = Jvm.Pilot.CSkittleRowLaw_law_r7134_573cdd.hn h + 1 ∧ hs h1 = hs h + 4 := by
  generalize hb : Jvm.Pilot.CSkittleRowLaw_law_r7134_573cdd.hn h = b at *
  have k6 : hK (hnew h 6 4) b = 6 := by rw [hK_new, if_pos hb.symm]
  have i2 : hI (hnew h 6 4) b 2 = 0 := by rw [hI_new, if_pos hb.symm]
  have u : Up b h (hnew h 6 4) := fun c hc => new_sm h _ _ (by omega)
  refine ⟨wI (wR (wI (hnew h 6 4) b 3 (-1)) b 0 (some 21)) b 1 (nI T), ?_, ⟨k6, ?_, ?_, ?_, ?_, hn⟩, fun c hc => ?_, by show Jvm.Pilot.CSkittleRowLaw_law_r7134_573cdd.hn h + 1 = _; rw [hb], rfl⟩
  · refine (e_Re_init _ _ _ _ _).trans ?_
    refine (if_pos k6).trans ?_
    refine (if_pos k6).trans ?_
    refine (bnd rfl _).trans ?_
    have k21' : hK (hnew h 6 4) 21 = 105 := (u 21 (by omega)).1.trans k21
    have n21' : hN (hnew h 6 4) 21 = 400 := (u 21 (by omega)).2.1.trans n21
    refine (if_pos (show a_any (hK (hnew h 6 4) 21) = true by rw [k21']; rfl)).trans ?_
    refine (if_pos k6).trans ?_
    have e : (if Int32.ofNat (hN (wR (wI (hnew h 6 4) b 3 (-1)) b 0 (some 21)) 21) < nI T then Int32.ofNat (hN (wR (wI (hnew h 6 4) b 3 (-1)) b 0 (some 21)) 21) else nI T) = nI T := if_neg (show ¬ nI (hN (hnew h 6 4) 21) < nI T by rw [n21']; exact nI_nlt hT (by omega))
    rw [e]
  · show hR (wR (wI (hnew h 6 4) b 3 (-1)) b 0 (some 21)) b 0 = _
    rw [hR_wR, if_pos ⟨rfl, rfl⟩]
  · rw [hI_se]
  · rw [hI_ni (by omega)]
    show hI (wI (hnew h 6 4) b 3 (-1)) b 2 = _
    rw [hI_ni (by omega), i2]
    rfl
  · rw [hI_ni (by omega)]
    show hI (wI (hnew h 6 4) b 3 (-1)) b 3 = _
    rw [hI_se]
    rfl
  · have s := u c hc
    refine sk_same.trans s ⟨rfl, rfl, ?_, rfl, ?_⟩
    · funext i
      rw [hI_na (by omega)]
      show hI (wI (hnew h 6 4) b 3 (-1)) c i = _
      rw [hI_na (by omega)]
    · funext i
      show hR (wR (wI (hnew h 6 4) b 3 (-1)) b 0 (some 21)) c i = _
      rw [hR_wR, if_neg (by omega)]
      rfl
theorem Tx.up (X : Tx h t T) (U : Up n h h1) (hn : 73 ≤ n) : Tx h1 t T := by
  obtain ⟨x1, x2, x3, x4⟩ := X
  have u := U 21 (by omega)
  exact ⟨u.1.trans x1, u.2.1.trans x2, x3, fun i hi => ⟨(x4 i hi).1, by rw [u.2.2.1]; exact (x4 i hi).2⟩⟩
/-- the alley's reader, made -/
theorem AR_made (X : Tx h t T) (R : Rd h n T 0 nM) (en : hn h = n + 1) : ∃ h1, c_AR_init d (some (n + 1)) (some n) (hnew h 3 2) = some h1 ∧ AIr h1 n t T 0 y0 ∧ Up n h h1 ∧ hn h1 = n + 12 ∧ hs h1 = hs h + 108 ∧ hK h1 (n + 1) = 3 := by
  have n73 := R.2.2.2.2.2
  have u1 : Up (n + 1) h (hnew h 3 2) := fun c hc => new_sm h _ _ (by omega)
  have k1 : hK (hnew h 3 2) (n + 1) = 3 := by rw [hK_new, if_pos en.symm]
  have en2 : hn (hnew h 3 2) = n + 2 := by rw [hn_new, en]
  have u2 : Up (n + 2) (hnew h 3 2) (hnew (hnew h 3 2) 2 17) := fun c hc => new_sm _ _ _ (by omega)
  have k2 : hK (hnew (hnew h 3 2) 2 17) (n + 2) = 2 := by rw [hK_new, if_pos en2.symm]
  have i2 : ∀ i, hI (hnew (hnew h 3 2) 2 17) (n + 2) i = 0 := fun i => by rw [hI_new, if_pos en2.symm]
  have en3 : hn (hnew (hnew h 3 2) 2 17) = n + 3 := by rw [hn_new, en2]
  have ai := Al_init_ok (d := d) k2 (by omega)
  obtain ⟨g1, g2, g3, ⟨g4, g5, g6⟩, g7, g8, g9⟩ := lkF (n + 2) alL (hnew (hnew h 3 2) 2 17) (by omega)
  have g9 := g9 (by decide)
  rw [en3] at g1 g3 g7 g9
  generalize hm : alL.foldl (lk1 (n + 2)) (hnew (hnew h 3 2) 2 17) = m at *
  have k1m : hK m (n + 1) = 3 := (g3 (n + 1) (by omega) (by omega)).1.trans ((u2 (n + 1) (by omega)).1.trans k1)
  have U : Up n h (wR (wR m (n + 1) 1 (some (n + 2))) (n + 1) 0 (some n)) := fun c hc => sk_same.trans (sk_same.trans (sk_same.trans (sk_same.trans (u1 c (by omega)) (u2 c (by omega))) (g3 c (by omega) (by omega))) (wR_sm m _ _ (by omega))) (wR_sm _ _ _ (by omega))
  have same_n : sk_same h (wR (wR m (n + 1) 1 (some (n + 2))) (n + 1) 0 (some n)) n := sk_same.trans (sk_same.trans (sk_same.trans (sk_same.trans (u1 n (by omega)) (u2 n (by omega))) (g3 n (by omega) (by omega))) (wR_sm m _ _ (by omega))) (wR_sm _ _ _ (by omega))
  have r2 : ∀ j x, j ≠ 0 → hR m (n + 2) j = x → hR (wR (wR m (n + 1) 1 (some (n + 2))) (n + 1) 0 (some n)) (n + 2) j = x := fun j x _ e => by rw [hR_wR, if_neg (by omega), hR_wR, if_neg (by omega)]; exact e
  refine ⟨wR (wR m (n + 1) 1 (some (n + 2))) (n + 1) 0 (some n), ?_, ⟨X.up U n73, ⟨⟨k1m, ?_, ?_, ?_⟩, ⟨r2 8 _ (by omega) (g9 0 (8, 101, 12) rfl), r2 9 _ (by omega) (g9 1 (9, 101, 4) rfl), r2 10 _ (by omega) (g9 2 (10, 101, 4) rfl), r2 11 _ (by omega) (g9 3 (11, 103, 4) rfl), r2 12 _ (by omega) (g9 4 (12, 101, 12) rfl), r2 13 _ (by omega) (g9 5 (13, 101, 12) rfl), r2 16 _ (by omega) (g9 8 (16, 101, 41) rfl)⟩, ⟨(g7 0 (8, 101, 12) rfl).1, (g7 1 (9, 101, 4) rfl).1, (g7 2 (10, 101, 4) rfl).1, (g7 3 (11, 103, 4) rfl).1, (g7 4 (12, 101, 12) rfl).1, (g7 5 (13, 101, 12) rfl).1, (g7 8 (16, 101, 41) rfl).1⟩, ⟨(g7 0 (8, 101, 12) rfl).2.1, (g7 1 (9, 101, 4) rfl).2.1, (g7 2 (10, 101, 4) rfl).2.1, (g7 3 (11, 103, 4) rfl).2.1, (g7 4 (12, 101, 12) rfl).2.1, (g7 5 (13, 101, 12) rfl).2.1, (g7 8 (16, 101, 41) rfl).2.1⟩⟩, ?_, ?_, Nat.zero_le _⟩, U, by show hn m = _; rw [g1]; rfl, by show hs m = _; rw [g2, hs_new, hs_new]; rfl, k1m⟩
  · refine (e_AR_init _ _ _ _).trans ?_
    show (if hK (hnew (hnew h 3 2) 2 17) (hn (hnew h 3 2)) = 2 then Option.bind (c_Al_init d (some (hn (hnew h 3 2))) (hnew (hnew h 3 2) 2 17)) fun q3 => if hK q3 (n + 1) = 3 then if hK (wR q3 (n + 1) 1 (some (hn (hnew h 3 2)))) (n + 1) = 3 then some (wR (wR q3 (n + 1) 1 (some (hn (hnew h 3 2)))) (n + 1) 0 (some n)) else none else none else none) = _
    rw [en2]
    refine (if_pos k2).trans ?_
    refine (bnd ai _).trans ?_
    refine (if_pos k1m).trans ?_
    exact if_pos k1m
  · rw [hR_wR, if_pos ⟨rfl, rfl⟩]
  · rw [hR_wR, if_neg (by omega), hR_wR, if_pos ⟨rfl, rfl⟩]
  · exact g4.trans k2
  · obtain ⟨c1, c2, c3, c4, c5, c6⟩ := R
    exact ⟨same_n.1.trans c1, by rw [same_n.2.2.2.2]; exact c2, by rw [same_n.2.2.1]; exact c3, by rw [same_n.2.2.1]; exact c4, by rw [same_n.2.2.1]; exact c5, c6⟩
  · have z : ∀ i, hI (wR (wR m (n + 1) 1 (some (n + 2))) (n + 1) 0 (some n)) (n + 2) i = 0 := fun i => by show hI m (n + 2) i = 0; rw [g6]; exact i2 i
    refine ⟨⟨z 0, z 1, z 2, z 3, z 4, z 5, z 6, z 7⟩, fun p hp => absurd hp (Nat.not_lt_zero _), fun r _ => ⟨?_, ?_, ?_⟩⟩
    · exact (g7 1 (9, 101, 4) rfl).2.2 r
    · exact (g7 2 (10, 101, 4) rfl).2.2 r
    · exact (g7 3 (11, 103, 4) rfl).2.2 r
theorem PWr_0 : PWr y0 := ⟨by decide, by decide, fun r hr => absurd hr (Nat.not_lt_zero _), fun r _ => ⟨rfl, rfl⟩, by decide, by decide, by decide, by decide, fun _ => rfl⟩
theorem aW_0 : aW (yA y0) := ⟨by decide, by decide, fun r hr => absurd hr (Nat.not_lt_zero _), rfl, fun r hr => absurd hr (Nat.not_lt_zero _), fun r hr => absurd hr (by show ¬ r + 1 = 0; omega), fun _ => rfl⟩
end SkMade
