/-! ===== the reference reads a value, a term, a sum ===== -/
section SkMval
variable {h h' h1 h2 : sk_H} {t : Nat → Nat} {T i d p q n g : Nat} {z z1 : RZ} {v : Int32}
theorem Mzr.pre {r : Nat ⊕ RZ} (Q : Iq (PVz i) h h1) (x : Mzr h1 h' i t T r v) : Mzr h h' i t T r v := ⟨Q.trans x.1, x.2⟩
theorem M_fail_z (R : Mr h t T p) {k q : Nat} (hk : k ≤ 7) (hq : q ≤ 400) : c_M_fails d (some 52) (nI k) (nI q) h = some (wI h 52 9 (nI (1 + 8 * q + k)), 0) ∧ Mzr h (wI h 52 9 (nI (1 + 8 * q + k))) i t T (.inl (1 + 8 * q + k)) 0 := by
  obtain ⟨M, r1, r2, r3, r4, r5, r6⟩ := R
  exact ⟨M_fails_ok M r5, PVz_w (by omega), Or.inr ⟨_, rfl, rfl, hI_se, by omega, by omega⟩⟩
theorem m10 {v3 : Int32} {w : Nat} (m : c_M_makes d (some 52) (nI q) h = some (h1, v3)) (Z : Mz h i t T z) (hy : z.2.2 ≠ 60) (e : hI h 52 10 = nI w) : hI h1 52 10 = nI w := by
  obtain ⟨R, z2, z3, z4, z5, z6, z7, z8⟩ := Z
  have M := R.1
  have m' : c_M_makes d (some 52) (nI q) h = some (wI h 52 12 (hI h 52 12 + 1), (1 : Int32)) := by
    refine (e_M_makes _ _ _ _).trans ?_
    refine (if_pos M.K52).trans ?_
    refine (if_pos (show ¬ hI h 52 12 = nI 60 by rw [z5]; exact fun w => hy ((nI_eq (by omega) (by omega)).mp w))).trans ?_
    refine (if_pos M.K52).trans ?_
    exact (if_pos M.K52).trans rfl
  have := (Prod.mk.inj (Option.some.inj (m'.symm.trans m))).1
  rw [← this, hI_ni (by omega)]
  exact e
theorem nmR_ge {l u e v : Nat} (hp : p ≤ T) (g0 : nmR t T p l u = .inr (e, v)) : nxt t T p ≤ e := by
  unfold nmR at g0
  by_cases y : dgt t T (nxt t T p) = true
  · rw [if_pos y] at g0
    by_cases y2 : dgE t T (nxt t T p) ≤ nxt t T p + 5 ∧ l ≤ nv 0 0 (dl t T (nxt t T p)) ∧ nv 0 0 (dl t T (nxt t T p)) < u
    · rw [if_pos y2] at g0
      have := (Prod.mk.inj (Sum.inr.inj g0)).1
      have : dgE t T (nxt t T p) = nxt t T p + (dl t T (nxt t T p)).length := rfl
      omega
    · rw [if_neg y2] at g0; cases g0
  · rw [if_neg y] at g0; cases g0
theorem M_value_ok (Z : Mz h i t T z) : ∃ h' v, c_M_value d (some 52) h = some (h', v) ∧ Mzr h h' i t T (valP t T z) v := by
  have hz := Z.1.2.2.2.2.2.2
  have x3 := Z.1.2.1
  have hm := Z.2.2.2.2.2.2.1
  have hl := Z.2.2.2.2.2.2.2
  have hq := nxt_le (t := t) hz
  have hqq := nxt_nxt (t := t) hz
  have gr : ∀ e o, valP t T z = .inr (e, z.2.1 ++ [o], z.2.2 + 1) → z.1 + 1 ≤ e := fun e o hv => by
    obtain ⟨l, g1, g2, g3, g4, g5, g6, g7⟩ := valP_g (a := []) hz hm hv
    have g1 : z.2.1 ++ [o] = z.2.1 ++ l := g1
    have : l = [o] := (List.append_cancel_left g1).symm
    rw [this] at g5
    exact g5
  obtain ⟨h1, e1, e2, e3⟩ := M_see_ok (d := d) Z.1
  have Z1 := Z.mv e3.p8F e2 hq.1
  have M1 := e2.1
  have j8 : hI h1 52 8 = nI (nxt t T z.1) := e2.2.2.2.2.1
  have di := M_isDigit_ok (d := d) e2 (k := nxt t T z.1) (by omega)
  have pre : ∀ o, (if bi (dgt t T (nxt t T z.1)) = 0 then
      if hK h1 52 = 13 then
      Option.bind (c_M_wordHere d (some 52) h1) fun (q3 : sk_H × Int32) =>
      if 0 ≤ q3.2 then
        if hK q3.1 52 = 13 then
        Option.bind (c_M_makes d (some 52) (nI (nxt t T z.1)) q3.1) fun (q4 : sk_H × Int32) =>
        if ¬ q4.2 = 0 then
          if hK q4.1 52 = 13 then
          Option.bind (c_M_passWord d (some 52) q4.1) fun q5 =>
          if hK q5 52 = 13 then
          Option.bind (c_M_puts d (some 52) (1 : Int32) q3.2 q5) fun q6 =>
          some (q6, (1 : Int32))
          else none
          else none
        else
          some (q4.1, (0 : Int32))
        else none
      else
        if hK q3.1 52 = 13 then
        Option.bind (c_M_fails d (some 52) (0 : Int32) (nI (nxt t T z.1)) q3.1) fun (q7 : sk_H × Int32) =>
        if q7.2 = 0 ∨ q7.2 = 1 then some (q7.1, q7.2) else none
        else none
      else none
    else
      if hK h1 52 = 13 then
      Option.bind (c_M_numberHere d (some 52) (0 : Int32) (99999 : Int32) h1) fun (q8 : sk_H × Int32) =>
      if q8.2 = 0 then
        some (q8.1, (0 : Int32))
      else
        if hK q8.1 52 = 13 then
        Option.bind (c_M_makes d (some 52) (nI (nxt t T z.1)) q8.1) fun (q9 : sk_H × Int32) =>
        if ¬ q9.2 = 0 then
          if hK q9.1 52 = 13 then
          if hK q9.1 52 = 13 then
          Option.bind (c_M_puts d (some 52) (0 : Int32) (hI q9.1 52 10) q9.1) fun q10 =>
          some (q10, (1 : Int32))
          else none
          else none
        else
          some (q9.1, (0 : Int32))
        else none
      else none) = o → c_M_value d (some 52) h = o := by
    intro o ho
    rw [← ho]
    refine (e_M_value _ _ _).trans ?_
    refine (if_pos Z.1.1.K52).trans ?_
    refine (bnd e1 _).trans ?_
    refine (if_pos M1.K52).trans ?_
    refine (if_pos M1.K52).trans ?_
    refine (if_pos M1.K52).trans ?_
    rw [j8]
    exact (bnd di _).trans rfl
  cases hd : dgt t T (nxt t T z.1) with
  | true =>
    rw [hd] at pre
    have ev : valP t T z = match nmR t T z.1 0 100000 with
        | .inl g => .inl g
        | .inr (e, v) => zMk e (nxt t T z.1) (z.2.1 ++ [(0, v)]) z.2.2 := by
      unfold valP
      exact if_pos hd
    have en : nmR t T (nxt t T z.1) 0 100000 = nmR t T z.1 0 100000 := by unfold nmR; rw [hqq]
    rcases M_number_ok (d := d) (Bds.of (l := 0) (u := 99999) (by omega) (by omega)) e2 with ⟨e, v, h2, g0, g1, g2, g3, g4, g5⟩ | ⟨g, h2, g0, g1, g2, g3⟩
    · rw [en] at g0
      rw [g0] at ev
      have ev : valP t T z = zMk e (nxt t T z.1) (z.2.1 ++ [(0, v)]) z.2.2 := ev
      have he := g2.2.2.2.2.2.2
      have hge : z.1 ≤ e := by
        have := nmR_ge hz g0
        omega
      have Z2 : Mz h2 i t T (zAt z e) := Z1.mv g4 g2 (show nxt t T z.1 ≤ e from nmR_ge hz g0)
      obtain ⟨h3, v3, m1, m2, m3⟩ := M_makes_ok (d := d) (q := nxt t T z.1) Z2
      rcases m3 with ⟨y, rfl, Z3⟩ | ⟨y, rfl, f9⟩
      · have y : z.2.2 ≠ 60 := y
        have ev2 : valP t T z = .inr (e, z.2.1 ++ [(0, v)], z.2.2 + 1) := by rw [ev]; exact if_neg y
        obtain ⟨h4, p1, p2, p3⟩ := M_puts_ok (d := d) Z3 (show z.2.1.length + 1 ≤ e by have := gr _ _ ev2; omega) (0, v)
        rw [ev2]
        refine ⟨h4, 1, pre _ ?_, (e3.p8F.pv).trans (g4.pv.trans (m2.trans p3)), Or.inl ⟨_, rfl, rfl, p2⟩⟩
        refine (if_neg nb1).trans ?_
        refine (if_pos M1.K52).trans ?_
        refine (bnd g1 _).trans ?_
        refine (if_neg (show ¬ (1 : Int32) = 0 by decide)).trans ?_
        refine (if_pos g2.1.K52).trans ?_
        refine (bnd m1 _).trans ?_
        refine (if_pos (show ¬ (1 : Int32) = 0 by decide)).trans ?_
        refine (if_pos Z3.1.1.K52).trans ?_
        refine (if_pos Z3.1.1.K52).trans ?_
        have e10 : hI h3 52 10 = nI v := m10 m1 Z2 y g3
        exact (bnd (show c_M_puts d (some 52) (0 : Int32) (hI h3 52 10) h3 = some h4 by rw [e10]; exact p1) _).trans rfl
      · have y : z.2.2 = 60 := y
        have ev2 : valP t T z = .inl (1 + 8 * nxt t T z.1 + 3) := by rw [ev]; exact if_pos y
        rw [ev2]
        refine ⟨h3, 0, pre _ ?_, (e3.p8F.pv).trans (g4.pv.trans m2), Or.inr ⟨_, rfl, rfl, f9, by omega, by omega⟩⟩
        refine (if_neg nb1).trans ?_
        refine (if_pos M1.K52).trans ?_
        refine (bnd g1 _).trans ?_
        refine (if_neg (show ¬ (1 : Int32) = 0 by decide)).trans ?_
        refine (if_pos g2.1.K52).trans ?_
        refine (bnd m1 _).trans ?_
        exact (if_neg (fun w => w rfl)).trans rfl
    · rw [en] at g0
      have hg := nmR_g hz x3 g0
      rw [g0] at ev
      rw [ev]
      refine ⟨h2, 0, pre _ ?_, (e3.p8F.pv).trans g3.pv, Or.inr ⟨g, rfl, rfl, g2, hg.1, hg.2⟩⟩
      refine (if_neg nb1).trans ?_
      refine (if_pos M1.K52).trans ?_
      refine (bnd g1 _).trans ?_
      exact (if_pos rfl).trans rfl
  | false =>
    rw [hd] at pre
    have ev : valP t T z = match wxN (wdl t T (nxt t T z.1)) rWs 0 with
        | none => .inl (1 + 8 * nxt t T z.1 + 0)
        | some k => zMk (wE t T (nxt t T z.1)) (nxt t T z.1) (z.2.1 ++ [(1, k)]) z.2.2 := by
      unfold valP
      exact if_neg (by rw [hd]; decide)
    have wo := M_wordHere_ok (d := d) e2 hqq
    cases hw : wxN (wdl t T (nxt t T z.1)) rWs 0 with
    | none =>
      rw [hw] at ev wo
      rw [ev]
      obtain ⟨f1, f2⟩ := M_fail_z (d := d) (i := i) e2 (k := 0) (q := nxt t T z.1) (by omega) (by omega)
      refine ⟨_, 0, pre _ ?_, Mzr.pre e3.p8F.pv f2⟩
      refine (if_pos rfl).trans ?_
      refine (if_pos M1.K52).trans ?_
      refine (bnd wo _).trans ?_
      refine (if_neg (show ¬ (0 : Int32) ≤ nM by decide)).trans ?_
      refine (if_pos M1.K52).trans ?_
      refine (bnd f1 _).trans ?_
      exact (if_pos (Or.inl rfl)).trans rfl
    | some k =>
      rw [hw] at ev wo
      have ev : valP t T z = zMk (wE t T (nxt t T z.1)) (nxt t T z.1) (z.2.1 ++ [(1, k)]) z.2.2 := ev
      have hk : k < 11 := wxN_lt _ rWs 0 k hw
      have hE := wE_le (t := t) hq.2
      obtain ⟨h3, v3, m1, m2, m3⟩ := M_makes_ok (d := d) (q := nxt t T z.1) Z1
      rcases m3 with ⟨y, rfl, Z3⟩ | ⟨y, rfl, f9⟩
      · have y : z.2.2 ≠ 60 := y
        have ev2 : valP t T z = .inr (wE t T (nxt t T z.1), z.2.1 ++ [(1, k)], z.2.2 + 1) := by rw [ev]; exact if_neg y
        obtain ⟨h4, s1, s2, s3⟩ := M_passWord_ok (d := d) Z3.1
        have Z4 := Z3.mv s3.p8F s2 hE.1
        obtain ⟨h5, p1, p2, p3⟩ := M_puts_ok (d := d) Z4 (show z.2.1.length + 1 ≤ wE t T (nxt t T z.1) by have := gr _ _ ev2; omega) (1, k)
        rw [ev2]
        refine ⟨h5, 1, pre _ ?_, (e3.p8F.pv).trans (m2.trans ((s3.p8F.pv).trans p3)), Or.inl ⟨_, rfl, rfl, p2⟩⟩
        refine (if_pos rfl).trans ?_
        refine (if_pos M1.K52).trans ?_
        refine (bnd wo _).trans ?_
        refine (if_pos (show nI 0 ≤ nI k from (nI_leI (by omega) (by omega)).mpr (by omega))).trans ?_
        refine (if_pos M1.K52).trans ?_
        refine (bnd m1 _).trans ?_
        refine (if_pos (show ¬ (1 : Int32) = 0 by decide)).trans ?_
        refine (if_pos Z3.1.1.K52).trans ?_
        refine (bnd s1 _).trans ?_
        refine (if_pos s2.1.K52).trans ?_
        exact (bnd p1 _).trans rfl
      · have y : z.2.2 = 60 := y
        have ev2 : valP t T z = .inl (1 + 8 * nxt t T z.1 + 3) := by rw [ev]; exact if_pos y
        rw [ev2]
        refine ⟨h3, 0, pre _ ?_, (e3.p8F.pv).trans m2, Or.inr ⟨_, rfl, rfl, f9, by omega, by omega⟩⟩
        refine (if_pos rfl).trans ?_
        refine (if_pos M1.K52).trans ?_
        refine (bnd wo _).trans ?_
        refine (if_pos (show nI 0 ≤ nI k from (nI_leI (by omega) (by omega)).mpr (by omega))).trans ?_
        refine (if_pos M1.K52).trans ?_
        refine (bnd m1 _).trans ?_
        exact (if_neg (fun w => w rfl)).trans rfl
end SkMval
