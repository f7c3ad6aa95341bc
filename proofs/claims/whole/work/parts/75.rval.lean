/-! ===== a rule's value, the class's and the reference's ===== -/
def vof (l : List (Nat × Nat)) (wv : Nat → Int64) : Int64 := (evl wv l []).headD 0
def rvA (R : RT) (wv : Nat → Int64) : Nat → Nat → Int64
  | 0, _ => 0
  | n + 1, c => if (rL R c).2.2.2 = false ∨ vof (rT R c) wv = 1 then vof (rF R c) wv else rvA R wv n (c + 1)
def rval (R : RT) (wv : Nat → Int64) : Int64 := rvA R wv (rC R) 0
section SkRval
variable {F G : Nat → Prop} {h h' h1 h2 : sk_H} {a m n i s k x c b e : Nat} {d : Nat} {R : RT} {wv : Nat → Int64}
theorem one_of {kb : Bool} {s : List Int64} {g : Nat → Int64} (hk : kOk [kb] s) (sk : SkM g s) : g 0 = s.headD 0 ∧ (kb = true → s.headD 0 = 0 ∨ s.headD 0 = 1) ∧ s.length = 1 := by
  cases s with
  | nil => exact hk.elim
  | cons v s =>
    cases s with
    | nil => exact ⟨sk.1, hk.1, rfl⟩
    | cons u s => exact hk.2.elim
theorem Ru_reckon_ok {g0 g5 : Nat} (hW : RW R) (I : RI F h a R g0 g5 wv) (hbe : b ≤ e) (he : e ≤ rN R) {kb : Bool} (ht : tc (sli (rO R) b (e - b)) [] = some [kb]) (hp : pu (sli (rO R) b (e - b)) ≤ 60) : ∃ h', c_Ru_reckon d (some a) (nI b) (nI e) (some 50) h = some (h', vof (sli (rO R) b (e - b)) wv) ∧ Gq g5 h h' ∧ RI F h' a R g0 g5 wv ∧ (kb = true → vof (sli (rO R) b (e - b)) wv = 0 ∨ vof (sli (rO R) b (e - b)) wv = 1) := by
  obtain ⟨h', e1, e2, e3, e4, e5⟩ := Ru_in (d := d) hW he (e - b) b [] [kb] [] h (by omega) I trivial ht (by simpa using hp) trivial
  obtain ⟨o1, o2, -⟩ := one_of e5 e4
  refine ⟨h', ?_, e2, e3, o2⟩
  rw [e_Ru_reckon]
  rw [o1] at e1
  exact e1
theorem M_reckons_ok (hW : RW R) (I : MI2 h x R wv) (hbe : b ≤ e) (he : e ≤ rN R) {kb : Bool} (ht : tc (sli (rO R) b (e - b)) [] = some [kb]) (hp : pu (sli (rO R) b (e - b)) ≤ 60) : ∃ h', c_M_reckons d (some 52) (nI x) (nI b) (nI e) h = some (h', vof (sli (rO R) b (e - b)) wv) ∧ Zq h h' ∧ MI2 h' x R wv ∧ (kb = true → vof (sli (rO R) b (e - b)) wv = 0 ∨ vof (sli (rO R) b (e - b)) wv = 1) := by
  obtain ⟨h', e1, e2, e3, e4, e5, e6⟩ := M_re_in (d := d) hW he (e - b) b [] [kb] [] (wI h 52 18 (nI 0)) (by omega) (I.zq (Zq.vI _ _)) trivial ht (by simpa using hp) trivial (by rw [hI_wI, if_pos ⟨rfl, rfl⟩]; rfl)
  obtain ⟨o1, o2, o3⟩ := one_of e5 e4
  rw [o3] at e6
  have hN := hW.1
  have pp := M_pop_ok (d := d) (n := 0) e3.1 e6 (by omega)
  rw [o1] at pp
  refine ⟨wI h' 52 18 (nI 0), ?_, ((Zq.vI _ _).trans e2).trans (Zq.vI _ _), e3.zq (Zq.vI _ _), o2⟩
  refine (e_M_reckons _ _ _ _ _ _).trans ?_
  refine (if_pos I.1.K52).trans ?_
  refine Eq.trans e1 ?_
  refine (e_M_reckons_8 _ _ _ _ _ _).trans ?_
  refine (if_pos (nI_le (Nat.le_refl _) (by omega))).trans ?_
  refine (if_pos e3.1.K52).trans ?_
  refine (bnd pp _).trans ?_
  rfl
theorem cmp1 (v : Int64) : (lg_cmp v 1 = 0) = (v = 1) := by
  unfold lg_cmp
  by_cases q : v > 1
  · rw [if_pos q]
    refine propext ⟨fun r => absurd r (by decide), fun r => ?_⟩
    subst r
    exact absurd q (by decide)
  · rw [if_neg q]
    by_cases q2 : v = 1
    · rw [if_pos q2]; exact propext ⟨fun _ => q2, fun _ => rfl⟩
    · rw [if_neg q2]; exact propext ⟨fun r => absurd r (by decide), fun r => absurd r q2⟩
theorem M_sb_in (hW : RW R) : ∀ (n c : Nat) (h : sk_H), c + n = rC R → MI2 h x R wv → ∃ h', k_M_summedBy_2 d (some 52) (nI x) (nI c) h = some (h', rvA R wv n c) ∧ Zq h h'
  | 0, c, h, hc, I => by
    obtain ⟨M, hx, ⟨r1, r2, r3⟩, w⟩ := id I
    have hC := hW.2.1
    refine ⟨h, ?_, Zq.refl h⟩
    rw [e_M_summedBy_2]
    simp (disch := omega) only [M.K52, ↓bnd M.R6, M.K57, M.N57, ↓reduceIte, ↓Option.bind_some, if_true, if_false, true_and, and_true, and_self, true_or, or_true, false_or, or_false, not_true_eq_false, not_false_eq_true, Option.bind_some, somene, false_and, and_false, reduceCtorEq, Nat.reduceEqDiff, q_in, q_cl, r1, q_le_t]
    rfl
  | n + 1, c, h, hc, I => by
    obtain ⟨M, hx, ⟨r1, r2, r3⟩, w⟩ := id I
    have hC := hW.2.1
    have hNR := hW.1
    obtain ⟨w1, w2, w3, w4, w5, w6, w7, w8⟩ := hW.2.2.2 c (by omega)
    obtain ⟨c0, c1, c2, c3⟩ := r3 c (by omega)
    have e48 : nI 48 * nI x + nI 4 * nI c = nI (48 * x + 4 * c) := by rw [pk_mul, pk_mul, nI_add]
    have l48' : ((48 : Int32) * nI x) + ((4 : Int32) * nI c) = nI (48 * x + 4 * c) := e48
    have i0 : sk_in (nI (48 * x + 4 * c)) 288 := vp_in_nI (by omega) (by omega)
    -- the sum of this clause
    have fin : ∀ g, MI2 g x R wv → Zq h g → ∃ h', k_M_summedBy_58 d (some 52) (nI x) (nI (48 * x + 4 * c)) g = some (h', vof (rF R c) wv) ∧ Zq h h' := by
      intro g Ig Q
      obtain ⟨Mg, -, ⟨-, -, g3⟩, -⟩ := id Ig
      obtain ⟨d0, d1, d2, d3⟩ := g3 c (by omega)
      obtain ⟨h', f1, f2, f3, -⟩ := M_reckons_ok (d := d) hW Ig w1 (by omega) w4 w5
      have rk : c_M_reckons d (some 52) (nI x) (hI g 56 (nI (48 * x + 4 * c)).toNatClampNeg) (hI g 56 (nI (48 * x + 4 * c) + (1 : Int32)).toNatClampNeg) g = some (h', vof (rF R c) wv) := by
        rw [l1, nI_add, q_cl (by omega), q_cl (by omega), d0, d1]; exact f1
      refine ⟨h', ?_, Q.trans f2⟩
      rw [e_M_summedBy_58]
      simp (disch := omega) only [Mg.K52, ↓bnd Mg.R5, Mg.K56, Mg.N56, ↓reduceIte, ↓Option.bind_some, if_true, if_false, true_and, and_true, and_self, true_or, or_true, false_or, or_false, not_true_eq_false, not_false_eq_true, Option.bind_some, somene, false_and, and_false, reduceCtorEq, Nat.reduceEqDiff, l1, nI_add, q_in, ↓bnd rk]
    have nm0 : (nM < nI 0) = True := q_mlt0
    cases hT : (rL R c).2.2.2
    · rw [if_neg (by rw [hT]; decide)] at c2
      obtain ⟨h', f1, f2⟩ := fin h I (Zq.refl h)
      refine ⟨h', ?_, f2⟩
      have ev : rvA R wv (n + 1) c = vof (rF R c) wv := if_pos (Or.inl hT)
      rw [ev, ← f1, e_M_summedBy_2]
      have c2' : hI h 56 (48 * x + 4 * c + 2) = nM := c2
      simp (disch := omega) only [M.K52, ↓bnd M.R6, ↓bnd M.R5, M.K57, M.N57, M.K56, M.N56, ↓reduceIte, ↓Option.bind_some, if_true, if_false, true_and, and_true, and_self, true_or, or_true, false_or, or_false, not_true_eq_false, not_false_eq_true, Option.bind_some, somene, false_and, and_false, reduceCtorEq, Nat.reduceEqDiff, l48', l2, l0, nI_add, q_in, q_cl, r1, q_le_f, c2', nm0]
    · rw [if_pos hT] at c2
      obtain ⟨t1, t2⟩ := w7 hT
      obtain ⟨hg, f1, f2, f3, f4⟩ := M_reckons_ok (d := d) hW I w2 (by omega) t2 w6
      have rk : c_M_reckons d (some 52) (nI x) (hI h 56 (nI (48 * x + 4 * c) + (2 : Int32)).toNatClampNeg) (hI h 56 (nI (48 * x + 4 * c) + (3 : Int32)).toNatClampNeg) h = some (hg, vof (rT R c) wv) := by
        rw [l2, l3, nI_add, nI_add, q_cl (by omega), q_cl (by omega), c2, c3]; exact f1
      by_cases q : vof (rT R c) wv = 1
      · obtain ⟨h', k1, k2⟩ := fin hg f3 f2
        refine ⟨h', ?_, k2⟩
        have ev : rvA R wv (n + 1) c = vof (rF R c) wv := if_pos (Or.inr q)
        have cm : (lg_cmp (vof (rT R c) wv) 1 = nI 0) = True := (cmp1 _).trans (eq_true q)
        rw [ev, ← k1, e_M_summedBy_2, l48']
        simp (disch := omega) only [M.K52, ↓bnd M.R6, ↓bnd M.R5, M.K57, M.N57, M.K56, M.N56, ↓reduceIte, ↓Option.bind_some, if_true, if_false, true_and, and_true, and_self, true_or, or_true, false_or, or_false, not_true_eq_false, not_false_eq_true, Option.bind_some, somene, false_and, and_false, reduceCtorEq, Nat.reduceEqDiff, l2, l3, l0, nI_add, q_in, q_cl, r1, q_le_f, c2, q_lt_f, ↓bnd rk, cm]
      · obtain ⟨h', k1, k2⟩ := M_sb_in hW n (c + 1) hg (by omega) f3
        refine ⟨h', ?_, f2.trans k2⟩
        have ev : rvA R wv (n + 1) c = rvA R wv n (c + 1) := if_neg (by
          rintro (r | r)
          · rw [hT] at r; cases r
          · exact q r)
        have cm : (lg_cmp (vof (rT R c) wv) 1 = nI 0) = False := (cmp1 _).trans (eq_false q)
        rw [ev, ← k1, e_M_summedBy_2, l48']
        simp (disch := omega) only [M.K52, ↓bnd M.R6, ↓bnd M.R5, M.K57, M.N57, M.K56, M.N56, ↓reduceIte, ↓Option.bind_some, if_true, if_false, true_and, and_true, and_self, true_or, or_true, false_or, or_false, not_true_eq_false, not_false_eq_true, Option.bind_some, somene, false_and, and_false, reduceCtorEq, Nat.reduceEqDiff, l1, l2, l3, l0, nI_add, q_in, q_cl, r1, q_le_f, c2, q_lt_f, ↓bnd rk, cm]
theorem M_summedBy_ok (hW : RW R) (I : MI2 h x R wv) : ∃ h', c_M_summedBy d (some 52) (nI x) h = some (h', rval R wv) ∧ Zq h h' := by
  rw [e_M_summedBy]
  exact M_sb_in hW (rC R) 0 h (by omega) I
/-! the class -/
def VI (F : Nat → Prop) (h : sk_H) (a : Nat) (R : RT) (wv : Nat → Int64) (g : Nat → Nat) : Prop := RI F h a R (g 0) (g 5) wv ∧ hI h a 1 = nI (rC R) ∧ (hR h a 2 = some (g 2) ∧ hK h (g 2) = 101 ∧ hN h (g 2) = 12 ∧ ∀ c, c < rC R → hI h (g 2) c = nI (rL R c).1) ∧ (hR h a 3 = some (g 3) ∧ hK h (g 3) = 101 ∧ hN h (g 3) = 12 ∧ ∀ c, c < rC R → hI h (g 3) c = nI (rL R c).2.1) ∧ (hR h a 4 = some (g 4) ∧ hK h (g 4) = 101 ∧ hN h (g 4) = 12 ∧ ∀ c, c < rC R → hI h (g 4) c = nI (rL R c).2.2.1)
theorem VI.gq {g : Nat → Nat} (I : VI F h a R wv g) (Q : Gq (g 5) h h1) (I2 : RI F h1 a R (g 0) (g 5) wv) : VI F h1 a R wv g := by
  obtain ⟨-, i1, i2, i3, i4⟩ := I
  have eK : hK h1 = hK h := congrArg (fun x => x.1) Q.1
  have eN : hN h1 = hN h := congrArg (fun x => x.2.1) Q.1
  unfold VI
  rw [eK, eN, Q.2.1, Q.2.2.1]
  exact ⟨I2, i1, i2, i3, i4⟩
theorem Ru_v_in (hW : RW R) {g : Nat → Nat} : ∀ (n c : Nat) (h : sk_H), c + n = rC R → VI F h a R wv g → ∃ h', k_Ru_valueOf_2 d (some a) (some 50) (nI c) h = some (h', rvA R wv n c) ∧ Gq (g 5) h h'
  | 0, c, h, hc, I => by
    obtain ⟨I0, i1, -⟩ := id I
    have hC := hW.2.1
    have k7 := I0.2.1
    refine ⟨h, ?_, Gq.refl _ h⟩
    rw [e_Ru_valueOf_2]
    simp (disch := omega) only [k7, ↓reduceIte, ↓Option.bind_some, if_true, if_false, true_and, and_true, and_self, true_or, or_true, false_or, or_false, not_true_eq_false, not_false_eq_true, Option.bind_some, somene, false_and, and_false, reduceCtorEq, Nat.reduceEqDiff, i1, q_le_t]
    rfl
  | n + 1, c, h, hc, I => by
    obtain ⟨I0, i1, ⟨a2, b2, n2, c2⟩, ⟨a3, b3, n3, c3⟩, ⟨a4, b4, n4, c4⟩⟩ := id I
    have hC := hW.2.1
    have hNR := hW.1
    have k7 := I0.2.1
    obtain ⟨w1, w2, w3, w4, w5, w6, w7, w8⟩ := hW.2.2.2 c (by omega)
    have d2 := c2 c (by omega)
    have d3 := c3 c (by omega)
    have d4 := c4 c (by omega)
    have fin : ∀ h2, VI F h2 a R wv g → Gq (g 5) h h2 → ∃ h', k_Ru_valueOf_52 d (some a) (some 50) (nI c) (1 : Int32) h2 = some (h', vof (rF R c) wv) ∧ Gq (g 5) h h' := by
      intro h2 I2 Q
      obtain ⟨J0, -, ⟨p2, q2, m2, r2⟩, ⟨p3, q3, m3, r3⟩, -⟩ := id I2
      have s2 := r2 c (by omega)
      have s3 := r3 c (by omega)
      have k72 := J0.2.1
      obtain ⟨h', f1, f2, f3, -⟩ := Ru_reckon_ok (d := d) hW J0 w1 (by omega) w4 w5
      have rk : c_Ru_reckon d (some a) (hI h2 (g 2) (nI c).toNatClampNeg) (hI h2 (g 3) (nI c).toNatClampNeg) (some 50) h2 = some (h', vof (rF R c) wv) := by
        rw [q_cl (by omega), s2, s3]; exact f1
      refine ⟨h', ?_, Q.trans f2⟩
      rw [e_Ru_valueOf_52]
      simp (disch := omega) only [k72, ↓bnd p2, ↓bnd p3, q2, m2, q3, m3, ↓reduceIte, ↓Option.bind_some, if_true, if_false, true_and, and_true, and_self, true_or, or_true, false_or, or_false, not_true_eq_false, not_false_eq_true, Option.bind_some, somene, false_and, and_false, reduceCtorEq, Nat.reduceEqDiff, l0, l1, q_eq_f, q_in, ↓bnd rk]
    cases hT : (rL R c).2.2.2
    · have eq := w8 hT
      obtain ⟨h', f1, f2⟩ := fin h I (Gq.refl _ h)
      refine ⟨h', ?_, f2⟩
      have ev : rvA R wv (n + 1) c = vof (rF R c) wv := if_pos (Or.inl hT)
      rw [← eq] at d4
      rw [ev, ← f1, e_Ru_valueOf_2]
      simp (disch := omega) only [k7, ↓bnd a3, ↓bnd a4, b3, n3, b4, n4, ↓reduceIte, ↓Option.bind_some, if_true, if_false, true_and, and_true, and_self, true_or, or_true, false_or, or_false, not_true_eq_false, not_false_eq_true, Option.bind_some, somene, false_and, and_false, reduceCtorEq, Nat.reduceEqDiff, i1, q_le_f, q_in, q_cl, d3, d4]
    · obtain ⟨t1, t2⟩ := w7 hT
      obtain ⟨hg, f1, f2, f3, f4⟩ := Ru_reckon_ok (d := d) hW I0 w2 (by omega) t2 w6
      have rk : c_Ru_reckon d (some a) (hI h (g 3) (nI c).toNatClampNeg) (hI h (g 4) (nI c).toNatClampNeg) (some 50) h = some (hg, vof (rT R c) wv) := by
        rw [q_cl (by omega), d3, d4]; exact f1
      have Ig := I.gq f2 f3
      have ne : (nI (rL R c).2.1 = nI (rL R c).2.2.1) = False := q_eq_f (by omega) (by omega) (by omega)
      by_cases q : vof (rT R c) wv = 1
      · obtain ⟨h', k1, k2⟩ := fin hg Ig f2
        refine ⟨h', ?_, k2⟩
        have ev : rvA R wv (n + 1) c = vof (rF R c) wv := if_pos (Or.inr q)
        have cm : (lg_cmp (vof (rT R c) wv) 0 = nI 0) = False := (cmp_0 _).trans (eq_false (by rw [q]; decide))
        rw [ev, ← k1, e_Ru_valueOf_2]
        simp (disch := omega) only [k7, ↓bnd a3, ↓bnd a4, b3, n3, b4, n4, ↓reduceIte, ↓Option.bind_some, if_true, if_false, true_and, and_true, and_self, true_or, or_true, false_or, or_false, not_true_eq_false, not_false_eq_true, Option.bind_some, somene, false_and, and_false, reduceCtorEq, Nat.reduceEqDiff, i1, l0, q_le_f, q_in, q_cl, d3, d4, ne, ↓bnd rk, cm]
      · have z : vof (rT R c) wv = 0 := (f4 rfl).resolve_right q
        obtain ⟨h', k1, k2⟩ := Ru_v_in hW n (c + 1) hg (by omega) Ig
        refine ⟨h', ?_, f2.trans k2⟩
        have ev : rvA R wv (n + 1) c = rvA R wv n (c + 1) := if_neg (by
          rintro (r | r)
          · rw [hT] at r; cases r
          · exact q r)
        have cm : (lg_cmp (vof (rT R c) wv) 0 = nI 0) = True := (cmp_0 _).trans (eq_true z)
        rw [ev, ← k1, e_Ru_valueOf_2]
        simp (disch := omega) only [k7, ↓bnd a3, ↓bnd a4, b3, n3, b4, n4, ↓reduceIte, ↓Option.bind_some, if_true, if_false, true_and, and_true, and_self, true_or, or_true, false_or, or_false, not_true_eq_false, not_false_eq_true, Option.bind_some, somene, false_and, and_false, reduceCtorEq, Nat.reduceEqDiff, i1, l0, l1, q_le_f, q_in, q_cl, d3, d4, ne, ↓bnd rk, cm, e_Ru_valueOf_52, nI_add]
theorem Ru_value_ok (hW : RW R) (C : CS h) (hF : Far F) (O : RO F h a R) (hw : ∀ wd, hI h a 6 = nI wd → wd < 2048 → (∀ i, i < rN R → (rO R i).1 = 1 → wd.testBit (rO R i).2 = true) → ∀ i, i < rN R → (rO R i).1 = 1 → hJ h 51 (rO R i).2 = wv (rO R i).2) : ∃ h' g5, 73 ≤ g5 ∧ hK h g5 = 102 ∧ c_Ru_valueOf d (some a) (some 50) h = some (h', rval R wv) ∧ Gq g5 h h' := by
  obtain ⟨g, wd, f, k, i1, i6, w, ww, ⟨a0, f0, b0, n0, c0⟩, ⟨a2, f2, b2, n2, c2⟩, ⟨a3, f3, b3, n3, c3⟩, ⟨a4, f4, b4, n4, c4⟩, a5, f5, b5, n5⟩ := O
  obtain ⟨h', e1, e2⟩ := Ru_v_in (F := F) (d := d) hW (g := g) (rC R) 0 h (by omega) ⟨⟨C, k, a0, b0, n0, c0, a5, b5, n5, hF _ f5, hw wd i6 w ww⟩, i1, ⟨a2, b2, n2, c2⟩, ⟨a3, b3, n3, c3⟩, a4, b4, n4, c4⟩
  exact ⟨h', g 5, hF _ f5, b5, by rw [e_Ru_valueOf]; exact e1, e2⟩
end SkRval
