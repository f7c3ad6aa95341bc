/-! ===== the stroke that a rule plays ===== -/
def bsG (D : DD) (R : RT) (st tu pl : Nat) (o : Option ((Nat × Nat) × Int64)) (x : Nat × Nat) : Option ((Nat × Nat) × Int64) := match o with
  | none => some (x, rval R (wvF D st tu pl x))
  | some y => if 0 < lg_cmp (rval R (wvF D st tu pl x)) y.2 then some (x, rval R (wvF D st tu pl x)) else some y
def bsO (o : Option ((Nat × Nat) × Int64)) : Int64 := match o with
  | none => 0
  | some y => y.2
def bsT (D : DD) (st : Nat) (o : Option ((Nat × Nat) × Int64)) : Int32 := match o with
  | none => nM
  | some y => nI (aT (dA D) st y.1)
section SkBest
variable {F G : Nat → Prop} {h h' h1 h2 : sk_H} {a m n i s k x st tu pl ra : Nat} {d : Nat} {R : RT} {D : DD} {c : Nat → Nat}
theorem Gq.lq {g5 : Nat} (Q : Gq g5 h h1) (hk : hK h g5 = 102) : Lq h h1 := ⟨Q.1, Q.2.1, fun a i _ => by rw [Q.2.2.1], fun b hb => Q.2.2.2 b (fun e => hb (by rw [e]; exact hk))⟩
/-- what a bout's look rests on -/
def BI (F : Nat → Prop) (h : sk_H) (a : Nat) (D : DD) (c : Nat → Nat) (st tu pl : Nat) : Prop := CS h ∧ AOc F h a D c ∧ TC h D a ∧ hR h 49 1 = some 32 ∧ hR h 49 2 = some a ∧ hI h 49 3 = nI st ∧ hI h 49 4 = nI tu ∧ hI h 49 5 = nI pl
theorem BI.lq (I : BI F h a D c st tu pl) (hF : Far F) (Q : Lq h h1) (T : TC h1 D a) : BI F h1 a D c st tu pl := by
  obtain ⟨C, O, -, b1, b2, i3, i4, i5⟩ := I
  exact ⟨C.cq Q.cq, O.cq hF Q.cq, T, by rw [Q.2.1]; exact b1, by rw [Q.2.1]; exact b2, by rw [Q.I (by decide)]; exact i3, by rw [Q.I (by decide)]; exact i4, by rw [Q.I (by decide)]; exact i5⟩
theorem RO.lq (O : RO F h ra R) (hF : Far F) (Q : Lq h h1) : RO F h1 ra R := O.same (fun c hc => ⟨hc, Q.cq.same (hF c hc)⟩)
theorem TC.gq {g5 : Nat} (T : TC h D a) (Q : Gq g5 h h1) (hg : 73 ≤ g5) : TC h1 D a := ⟨by rw [Q.2.1]; exact T.1, by rw [Q.2.2.1]; exact T.2.1, by rw [Q.2.2.1]; exact T.2.2.1, T.2.2.2.imp (fun q => by rw [Q.2.2.1]; exact q) (fun q => ⟨by rw [Q.2.2.1]; exact q.1, by rw [Q.2.2.2 43 (by omega)]; exact q.2⟩)⟩
theorem Bo_best_in (hW : RW R) (w : dW D) (hF : Far F) (hst : st < 2 ^ aN (dA D)) {arr N : Nat} (hN2 : N < 2 ^ 31) : ∀ (l : List (Nat × Nat)) (i : Nat) (o : Option ((Nat × Nat) × Int64)) (r : Option Nat) (h : sk_H), BI F h a D c st tu pl → RO F h ra R → hK h arr = 108 → hN h arr = N → AS F h (dA D) arr i l → (∀ y ∈ l, y ∈ sH (dA D) (dH D)) → (o = none ↔ r = none) → (∀ y, o = some y → ∃ s, r = some s ∧ F s ∧ SO h (dA D) s y.1) → ∃ h' r', k_Bo_bestBy_21 d (some 49) (some ra) r (bsO o) (some arr) (nI N) (nI i) h = some (h', r') ∧ Lq h h' ∧ TC h' D a ∧ ((l.filter (cO (dA D) st (dE D))).foldl (bsG D R st tu pl) o = none ↔ r' = none) ∧ ∀ y, (l.filter (cO (dA D) st (dE D))).foldl (bsG D R st tu pl) o = some y → ∃ s, r' = some s ∧ F s ∧ SO h' (dA D) s y.1
  | [], i, o, r, h, I, RO', hk, hN, S, hl, ho1, ho2 => by
    have S : Jvm.Pilot.CSkittleRowLaw_law_r7134_573cdd.hN h arr = i := S
    have e : N = i := hN.symm.trans S
    subst e
    refine ⟨h, r, ?_, Lq.refl h, I.2.2.1, ho1, ho2⟩
    rw [e_Bo_bestBy_21]
    exact if_pos (nI_le (Nat.le_refl _) (by omega))
  | x :: l, i, o, r, h, I, RO', hk, hN, ⟨⟨s, rs, fs, os⟩, S⟩, hl, ho1, ho2 => by
    obtain ⟨C, O, T, b1, b2, i3, i4, i5⟩ := id I
    have hst4 := p12 w.1 hst
    have hlen := AS_len l (i + 1) S
    obtain ⟨y0, y1, y2, y3, y4⟩ := sH_mem (hl x (List.mem_cons_self ..))
    have hl' := fun y hy => hl y (List.mem_cons_of_mem _ hy)
    have al : c_Al_allows d (hR h 49 2) (hI h 49 3) (hR h arr (nI i).toNatClampNeg) h = some (h, bi (cO (dA D) st (dE D) x)) := by
      rw [b2, i3, q_cl (by omega), rs]; exact Al_allows_ok d O w os y4 hst4
    cases hc : cO (dA D) st (dE D) x
    · rw [hc] at al
      obtain ⟨h', r', e1, e2⟩ := Bo_best_in hW w hF hst hN2 l (i + 1) o r h I RO' hk hN S hl' ho1 ho2
      rw [List.filter_cons_of_neg (by simp [hc])]
      refine ⟨h', r', ?_, e2⟩
      rw [← e1, e_Bo_bestBy_21]
      refine (if_neg (nI_ge (show i < N by omega) (by omega))).trans ?_
      refine (bnd (rfl : some arr = some arr) _).trans ?_
      refine (if_pos ⟨by rw [hk]; rfl, by rw [hN]; exact vp_in_nI (by omega) (by omega)⟩).trans ?_
      refine (if_pos C.k49).trans ?_
      refine (if_pos C.k49).trans ?_
      refine (bnd b2 _).trans ?_
      refine (if_pos O.k).trans ?_
      refine (bnd al _).trans ?_
      refine (if_pos (show bi false = 0 by decide)).trans ?_
      rw [nI_1]
    · rw [hc] at al
      rw [List.filter_cons_of_pos (by simp [hc]), List.foldl_cons]
      obtain ⟨g, wd, fr, kr, ir1, ir6, wr, wwr, -⟩ := id RO'
      have s73 := hF s fs
      obtain ⟨hq, f1, f2, f3, f4⟩ := Lo_look_ok (d := d) C hF O w T (show s ≠ 51 by omega) os y4 b1 b2 i3 i4 i5 hst wr
      have Iq' := I.lq hF f2 f3
      have ROq := RO'.lq hF f2
      have Cq' := Iq'.1
      obtain ⟨hv, g5, v1, v2, v3, v4⟩ := Ru_value_ok (d := d) (wv := wvF D st tu pl x) hW Cq' hF ROq (fun wd' e6 e7 e8 i hi h1 => by
        have ra73 := hF ra fr
        have e9 : nI wd' = nI wd := e6.symm.trans (by rw [f2.I (by omega)]; exact ir6)
        have e10 := (nI_eq (by omega) (by omega)).mp e9
        have ow := hW.2.2.1 i hi
        refine f4 _ ?_ (Or.inr (Or.inr (Or.inr (wwr i hi h1))))
        rcases ow with ⟨o1, -⟩ | ⟨-, o2⟩ | ⟨o1, -⟩ <;> omega)
      have Lv := v4.lq v2
      have Lt := f2.trans Lv
      have Tv := f3.gq v4 v1
      have Iv := Iq'.lq hF Lv Tv
      have ROv := ROq.lq hF Lv
      have hF' : ∀ c, F c → F c ∧ Same h hv c := fun c hc => ⟨hc, Lt.cq.same (hF c hc)⟩
      have Sv := AS.same (G := F) hF' (h' := hv) (arr := arr) (by rw [show Jvm.Pilot.CSkittleRowLaw_law_r7134_573cdd.hN hv = Jvm.Pilot.CSkittleRowLaw_law_r7134_573cdd.hN h from congrArg (fun x => x.2.1) Lt.1]) (by rw [Lt.2.1]) l (i + 1) S
      have hkv : hK hv arr = 108 := by rw [Lt.eK]; exact hk
      have hNv : Jvm.Pilot.CSkittleRowLaw_law_r7134_573cdd.hN hv arr = N := by rw [show Jvm.Pilot.CSkittleRowLaw_law_r7134_573cdd.hN hv = Jvm.Pilot.CSkittleRowLaw_law_r7134_573cdd.hN h from congrArg (fun x => x.2.1) Lt.1]; exact hN
      have osv : SO hv (dA D) s x := os.same (hF' s fs).2
      have lk : c_Lo_lookAt d (hR h 49 0) (some 49) (hR h arr (nI i).toNatClampNeg) (hI h ra 6) h = some hq := by
        rw [C.r49_0, q_cl (by omega), rs, ir6]; exact f1
      have vo : c_Ru_valueOf d (some ra) (hR hq 49 0) hq = some (hv, rval R (wvF D st tu pl x)) := by
        rw [Cq'.r49_0]; exact v3
      have krq : hK hq ra = 7 := by rw [f2.eK]; exact kr
      have take : ∃ h' r', k_Bo_bestBy_21 d (some 49) (some ra) (some s) (rval R (wvF D st tu pl x)) (some arr) (nI N) (nI (i + 1)) hv = some (h', r') ∧ Lq h h' ∧ TC h' D a ∧ ((l.filter (cO (dA D) st (dE D))).foldl (bsG D R st tu pl) (some (x, rval R (wvF D st tu pl x))) = none ↔ r' = none) ∧ ∀ y, (l.filter (cO (dA D) st (dE D))).foldl (bsG D R st tu pl) (some (x, rval R (wvF D st tu pl x))) = some y → ∃ s, r' = some s ∧ F s ∧ SO h' (dA D) s y.1 := by
        obtain ⟨h', r', e1, e2, e3⟩ := Bo_best_in hW w hF hst hN2 l (i + 1) (some (x, rval R (wvF D st tu pl x))) (some s) hv Iv ROv hkv hNv Sv hl' (by simp) (fun y hy => by cases hy; exact ⟨s, rfl, fs, osv⟩)
        exact ⟨h', r', e1, Lt.trans e2, e3⟩
      have head : ∀ (Gv : Option (sk_H × Option Nat)), ((if r = none then k_Bo_bestBy_21 d (some 49) (some ra) (some s) (rval R (wvF D st tu pl x)) (some arr) (nI N) (nI (i + 1)) hv else if lg_cmp (rval R (wvF D st tu pl x)) (bsO o) ≤ 0 then k_Bo_bestBy_21 d (some 49) (some ra) r (bsO o) (some arr) (nI N) (nI (i + 1)) hv else k_Bo_bestBy_21 d (some 49) (some ra) (some s) (rval R (wvF D st tu pl x)) (some arr) (nI N) (nI (i + 1)) hv) = Gv) → k_Bo_bestBy_21 d (some 49) (some ra) r (bsO o) (some arr) (nI N) (nI i) h = Gv := by
        intro Gv hG
        rw [← hG]
        refine (e_Bo_bestBy_21 _ _ _ _ _ _ _ _ _).trans ?_
        refine (if_neg (nI_ge (show i < N by omega) (by omega))).trans ?_
        refine (bnd (rfl : some arr = some arr) _).trans ?_
        refine (if_pos ⟨by rw [hk]; rfl, by rw [hN]; exact vp_in_nI (by omega) (by omega)⟩).trans ?_
        refine (if_pos C.k49).trans ?_
        refine (if_pos C.k49).trans ?_
        refine (bnd b2 _).trans ?_
        refine (if_pos O.k).trans ?_
        refine (bnd al _).trans ?_
        refine (if_neg (show ¬ bi true = 0 by decide)).trans ?_
        refine (if_pos C.k49).trans ?_
        refine (bnd (rfl : some ra = some ra) _).trans ?_
        refine (if_pos kr).trans ?_
        refine (bnd C.r49_0 _).trans ?_
        refine (if_pos C.k50).trans ?_
        refine (bnd lk _).trans ?_
        refine (if_pos Cq'.k49).trans ?_
        refine (bnd (rfl : some ra = some ra) _).trans ?_
        refine (if_pos krq).trans ?_
        refine (bnd vo _).trans ?_
        rw [q_cl (by omega), rs, nI_1]
      cases o with
      | none =>
        have hr : r = none := ho1.mp rfl
        obtain ⟨h', r', t1, t2⟩ := take
        exact ⟨h', r', head _ (by rw [if_pos hr]; exact t1), t2⟩
      | some y =>
        have hr : ¬ r = none := fun q => by have := ho1.mpr q; cases this
        have eo : bsO (some y) = y.2 := rfl
        show ∃ h' r', _ ∧ _ ∧ _ ∧ ((l.filter (cO (dA D) st (dE D))).foldl (bsG D R st tu pl) (if 0 < lg_cmp (rval R (wvF D st tu pl x)) y.2 then some (x, rval R (wvF D st tu pl x)) else some y) = none ↔ r' = none) ∧ ∀ z, (l.filter (cO (dA D) st (dE D))).foldl (bsG D R st tu pl) (if 0 < lg_cmp (rval R (wvF D st tu pl x)) y.2 then some (x, rval R (wvF D st tu pl x)) else some y) = some z → _
        by_cases q : 0 < lg_cmp (rval R (wvF D st tu pl x)) y.2
        · rw [if_pos q]
          obtain ⟨h', r', t1, t2⟩ := take
          exact ⟨h', r', head _ (by rw [if_neg hr, eo, if_neg (Int32.not_le.mpr q)]; exact t1), t2⟩
        · rw [if_neg q]
          obtain ⟨s', e7, e8, e9⟩ := ho2 y rfl
          obtain ⟨h', r', e1, e2, e3⟩ := Bo_best_in hW w hF hst hN2 l (i + 1) (some y) r hv Iv ROv hkv hNv Sv hl' ho1 (fun z hz => by cases hz; exact ⟨s', e7, e8, e9.same (hF' s' e8).2⟩)
          exact ⟨h', r', head _ (by rw [if_neg hr, eo, if_pos (Int32.not_lt.mp q)]; exact e1), Lt.trans e2, e3⟩
/-- what a rule plays, of strokes that can be -/
def best (D : DD) (R : RT) (st tu pl : Nat) : Option ((Nat × Nat) × Int64) := (aL (dA D) (dH D) (dE D) st).foldl (bsG D R st tu pl) none
theorem Bo_bestBy_ok (hW : RW R) (w : dW D) (hF : Far F) (hst : st < 2 ^ aN (dA D)) (I : BI F h a D c st tu pl) (O' : RO F h ra R) : ∃ h' r', c_Bo_bestBy d (some 49) (some ra) h = some (h', r') ∧ Lq h h' ∧ TC h' D a ∧ (best D R st tu pl = none ↔ r' = none) ∧ ∀ y, best D R st tu pl = some y → ∃ s, r' = some s ∧ F s ∧ SO h' (dA D) s y.1 := by
  obtain ⟨C, O, T, b1, b2, -⟩ := id I
  have hlen := AS_len _ _ O.S
  rw [Nat.zero_add] at hlen
  have hll := sH_len w.1 (dH D)
  obtain ⟨h', r', e1, e2, e3, e4⟩ := Bo_best_in (d := d) hW w hF hst (N := (sH (dA D) (dH D)).length) (by omega) (sH (dA D) (dH D)) 0 none none h I O' O.kS hlen O.S (fun y hy => hy) (by simp) (fun y hy => by cases hy)
  rw [← aL_sH] at e4
  refine ⟨h', r', ?_, e2, e3, e4⟩
  rw [← e1, e_Bo_bestBy]
  have r14 := O.r (j := 14) (by omega) (by omega)
  simp (disch := omega) only [C.k49, ↓bnd b2, O.k, ↓bnd r14, r14, O.kS, hlen, aa108, ofn, ↓reduceIte, ↓Option.bind_some, if_true, if_false, true_and, and_true, and_self, true_or, or_true, false_or, or_false, not_true_eq_false, not_false_eq_true, Option.bind_some, somene, false_and, and_false, reduceCtorEq, Nat.reduceEqDiff, l0]
  rfl
end SkBest
