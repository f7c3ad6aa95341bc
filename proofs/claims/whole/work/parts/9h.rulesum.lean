/-! ===== the class reads a sum and a comparison ===== -/
def cdI (a b : Option Nat) : Int32 := match a with
  | some o => oC (o, 0)
  | none => match b with
    | some o => oC (o, 0)
    | none => 0
section SkRulesum
variable {h h' h1 h2 : sk_H} {t : Nat → Nat} {T n d p q g : Nat} {z z1 : RZ} {f x : Int32} {r : Nat ⊕ RZ}
theorem RR_codeOf_ok (X : Tx h1 t T) : c_RR_codeOf d (lk t T q) h = some (h, cdI (sgA tS t T q) (sgA adS t T q)) := by
  refine (e_RR_codeOf _ _ _).trans ?_
  unfold sgA
  by_cases hq : q < T
  · have tl := (X.2.2.2 q hq).1
    rw [lk_lt hq, if_pos hq, if_pos hq]
    generalize hc : t q = c at tl
    have ne : ∀ k, c ≠ k → k < 256 → ¬ nI c = nI k := fun k hk h2 => by rw [q_eq_f hk (by omega) (by omega)]; exact not_false
    by_cases c37 : c = 37
    · subst c37; rfl
    by_cases c42 : c = 42
    · subst c42; rfl
    by_cases c43 : c = 43
    · subst c43; rfl
    by_cases c45 : c = 45
    · subst c45; rfl
    by_cases c47 : c = 47
    · subst c47; rfl
    have e : cdI (tS c) (adS c) = 0 := by
      unfold tS adS
      rw [if_neg c42, if_neg c47, if_neg c37, if_neg c43, if_neg c45]
      rfl
    rw [e]
    refine (if_neg (ne 37 c37 (by omega))).trans ?_
    refine if_both rfl (if_both rfl (if_both rfl (if_both rfl ?_)))
    refine (if_neg (ne 42 c42 (by omega))).trans ?_
    refine (if_neg (ne 43 c43 (by omega))).trans ?_
    refine if_both rfl ?_
    refine (if_neg (ne 45 c45 (by omega))).trans ?_
    refine if_both rfl ?_
    exact if_neg (ne 47 c47 (by omega))
  · rw [if_neg hq, if_neg hq]
    unfold lk
    rw [if_neg hq]
    rfl
theorem RR_100_f (B : RRS h n) (R : Rd h n T p f) (hf : f ≠ nM) : k_RR_readSum_100 d (some (n + 1)) x h = some h := by
  refine (e_RR_readSum_100 _ _ _ _).trans ?_
  refine if_both rfl ?_
  refine (if_pos B.1).trans ?_
  exact (bnd (RR_put_f B R hf) _).trans rfl
theorem RR_8_f (B : RRS h n) (R : Rd h n T p f) (hf : f ≠ nM) {y : Int32} : k_RR_readSum_8 d (some (n + 1)) x y h = some h := by
  have so := Re_sound_ok (d := d) R
  rw [decide_eq_false hf] at so
  refine (e_RR_readSum_8 _ _ _ _ _).trans ?_
  refine if_both (RR_100_f B R hf) ?_
  refine (if_pos B.1).trans ?_
  refine (bnd B.2.1 _).trans ?_
  refine (if_pos R.1).trans ?_
  refine (bnd (show c_Re_sound d (hR h (n + 1) 0) h = _ by rw [B.2.1]; exact so) _).trans ?_
  refine (if_pos rfl).trans ?_
  exact RR_100_f B R hf
def waOk (w : Option Nat) : Prop := w = none ∨ w = some 2 ∨ w = some 3
theorem RR_100_ok (A : RA h n t T z) {w : Option Nat} (hw : waOk w) (hl : z.2.1.length + pnd w ≤ z.1) : ∃ h', k_RR_readSum_100 d (some (n + 1)) (wIo w) h = some h' ∧ RA h' n t T (emW w z) ∧ Iq (P3 n) h h' := by
  have b1 := A.2.1.1
  rcases hw with rfl | rfl | rfl
  · exact ⟨h, (e_RR_readSum_100 _ _ _ _).trans (if_pos rfl), A, Iq.refl h⟩
  · obtain ⟨h', e1, e2, e3⟩ := RR_put_ok (d := d) A hl (2, 0)
    refine ⟨h', ?_, e2, e3⟩
    refine (e_RR_readSum_100 _ _ _ _).trans ?_
    refine (if_neg (by decide)).trans ?_
    refine (if_pos b1).trans ?_
    exact (bnd e1 _).trans rfl
  · obtain ⟨h', e1, e2, e3⟩ := RR_put_ok (d := d) A hl (3, 0)
    refine ⟨h', ?_, e2, e3⟩
    refine (e_RR_readSum_100 _ _ _ _).trans ?_
    refine (if_neg (by decide)).trans ?_
    refine (if_pos b1).trans ?_
    exact (bnd e1 _).trans rfl
theorem emW_1 (w : Option Nat) (z : RZ) : (emW w z).1 = z.1 := by cases w <;> rfl
theorem emW_at (w : Option Nat) (z : RZ) (p q : Nat) : zAt (emW w (zAt z p)) q = emW w (zAt z q) := by cases w <;> rfl
theorem emW_len (w : Option Nat) (z : RZ) : (emW w z).2.1.length = z.2.1.length + pnd w := by
  cases w with
  | none => rfl
  | some o => show (z.2.1 ++ [(o, 0)]).length = z.2.1.length + 1; rw [List.length_append]; rfl
theorem Gx.len {T k : Nat} {a b : List Bool} {z y : RZ} (G : Gx T k a b z y) {j : Nat} (hl : z.2.1.length + j ≤ z.1) : y.2.1.length + j + k ≤ y.1 := by
  obtain ⟨l, e1, e2, e3, e4, e5, e6, e7⟩ := G
  rw [e1, List.length_append]
  omega
theorem RR_sum_8 : ∀ (x i : Nat) (z : RZ) (w : Option Nat) (h : sk_H), T - z.1 ≤ x → i ≤ z.1 → waOk w → z.2.1.length + pnd w ≤ z.1 → RA h n t T z → ∃ m r h', (oB (tLo t T m z) fun z1 => sLo t T m (emW w z1)) = some r ∧ k_RR_readSum_8 d (some (n + 1)) (wIo w) (nI i) h = some h' ∧ Rz h h' n t T r
  | x, i, z, w, h, hx, hi, hw, hl, A => by
    obtain ⟨X, B, C, D, G, O, l⟩ := id A
    obtain ⟨b1, b2, b3, b4, b5⟩ := id B
    have n73 := C.2.2.2.2.2
    have x3 := X.2.2.1
    have hz := O.1
    have hq := nxt_le (t := t) hz
    have hqq := nxt_nxt (t := t) hz
    have so := Re_sound_ok (d := d) C
    rw [decide_eq_true rfl] at so
    by_cases i4 : 400 ≤ i
    · have e1 : z.1 = T := by omega
      have eq : nxt t T z.1 = z.1 := by omega
      have s1 : sgA tS t T (nxt t T z.1) = none := by unfold sgA; rw [if_neg (by omega)]
      have s2 : sgA adS t T (nxt t T (emW w z).1) = none := by unfold sgA; rw [emW_1, if_neg (by omega)]
      obtain ⟨h', f1, f2, f3⟩ := RR_100_ok (d := d) A hw hl
      refine ⟨1, .inr (emW w z), h', ?_, ?_, f3, Or.inl ⟨_, rfl, f2⟩⟩
      · have t1 : tLo t T 1 z = some (.inr z) := by
          unfold tLo
          rw [s1, eq]
          rfl
        rw [t1]
        show sLo t T 1 (emW w z) = _
        unfold sLo
        rw [s2, emW_1, eq]
        show some (Sum.inr (zAt (emW w z) z.1) : Nat ⊕ RZ) = _
        rw [← emW_1 w z]
        rfl
      · refine (e_RR_readSum_8 _ _ _ _ _).trans ?_
        exact (if_pos (show nI 400 ≤ nI i from nI_le i4 (by omega))).trans f1
    · obtain ⟨h1, e1, e2, e3⟩ := Re_next_ok (d := d) X C hz
      have A1 := A.rd e3 e2 hq.2 hq.1
      have X1 := A1.1
      have j2 := e2.2.2.2.1
      have co := RR_codeOf_ok (d := d) (h := h1) (q := nxt t T z.1) X1
      have c1 := C.1
      have B1 := B.pn (P3_of e3)
      obtain ⟨b11, b12, b13, b14, b15⟩ := id B1
      have c11 := e2.1
      have pre : ∀ o, (Option.bind (some (h1, cdI (sgA tS t T (nxt t T z.1)) (sgA adS t T (nxt t T z.1)))) fun (q3 : sk_H × Int32) => if ¬ q3.2 = 0 then
        if hK q3.1 (n + 1) = 8 then
        Option.bind (hR q3.1 (n + 1) 0) fun a4 => if hK q3.1 a4 = 6 then
        Option.bind (hR q3.1 (n + 1) 0) fun a5 => if hK q3.1 a5 = 6 then
        let h6 := wI q3.1 a5 2 ((hI q3.1 a4 2) + (1 : Int32))
        if q3.2 = ((-1) : Int32) then
          k_RR_readSum_79 d (some (n + 1)) (wIo w) (nI i) q3.2 h6
        else
          if q3.2 = ((-2) : Int32) then
            k_RR_readSum_79 d (some (n + 1)) (wIo w) (nI i) q3.2 h6
          else
            if hK h6 (n + 1) = 8 then
            Option.bind (c_RR_readValue d (some (n + 1)) h6) fun q7 =>
            if hK q7 (n + 1) = 8 then
            Option.bind (c_RR_put d (some (n + 1)) q3.2 q7) fun q8 =>
            k_RR_readSum_8 d (some (n + 1)) (wIo w) (nI i + 1) q8
            else none
            else none
        else none
        else none
        else none
      else
        k_RR_readSum_100 d (some (n + 1)) (wIo w) q3.1) = o → k_RR_readSum_8 d (some (n + 1)) (wIo w) (nI i) h = o := by
        intro o ho
        rw [← ho]
        refine (e_RR_readSum_8 _ _ _ _ _).trans ?_
        refine (if_neg (show ¬ nI 400 ≤ nI i from nI_ge (by omega) (by omega))).trans ?_
        refine (if_pos b1).trans ?_
        refine (bnd b2 _).trans ?_
        refine (if_pos c1).trans ?_
        refine (bnd (show c_Re_sound d (hR h (n + 1) 0) h = _ by rw [b2]; exact so) _).trans ?_
        refine (if_neg nb1).trans ?_
        refine (if_pos b1).trans ?_
        refine (bnd b2 _).trans ?_
        refine (if_pos c1).trans ?_
        refine (bnd (show c_Re_next d (hR h (n + 1) 0) h = _ by rw [b2]; exact e1) _).trans ?_
        exact (bnd co _).trans rfl
      have R6 : Rd (wI h1 n 2 (nI (nxt t T z.1 + 1))) n T (nxt t T z.1 + 1) nM := e2.w2
      cases hs : sgA tS t T (nxt t T z.1) with
      | some o =>
        rw [hs] at pre
        obtain ⟨h1q, h2q⟩ := sgA_in hs
        have ho := tS_in h2q
        have hc0 : ¬ oC (o, 0) = 0 ∧ ¬ oC (o, 0) = (-1 : Int32) ∧ ¬ oC (o, 0) = (-2 : Int32) := by rcases ho with rfl | rfl | rfl <;> decide
        have A6 : RA (wI h1 n 2 (nI (nxt t T z.1 + 1))) n t T (zAt z (nxt t T z.1 + 1)) := A1.rd PRd_w2 R6 (by omega) (by show nxt t T z.1 ≤ nxt t T z.1 + 1; omega)
        obtain ⟨h2, v1, v2⟩ := RR_value_ok (d := d) A6
        have Q2 : Iq (P3 n) h h2 := ((P3_of e3).trans (P3_of PRd_w2)).trans v2.1
        have kk2 : hK h2 (n + 1) = 8 := (B.pn Q2).1
        have pre2 : ∀ o', (Option.bind (c_RR_put d (some (n + 1)) (oC (o, 0)) h2) fun q8 => k_RR_readSum_8 d (some (n + 1)) (wIo w) (nI i + 1) q8) = o' → k_RR_readSum_8 d (some (n + 1)) (wIo w) (nI i) h = o' := by
          intro o' ho'
          rw [← ho']
          refine pre _ ?_
          refine (bnd rfl _).trans ?_
          refine (if_pos hc0.1).trans ?_
          refine (if_pos b11).trans ?_
          refine (bnd b12 _).trans ?_
          refine (if_pos c11).trans ?_
          refine (bnd b12 _).trans ?_
          refine (if_pos c11).trans ?_
          refine (if_neg hc0.2.1).trans ?_
          refine (if_neg hc0.2.2).trans ?_
          refine (if_pos b11).trans ?_
          refine (bnd (show c_RR_readValue d (some (n + 1)) (wI h1 n 2 (hI h1 n 2 + 1)) = some h2 by rw [j2, nI_1]; exact v1) _).trans ?_
          exact (if_pos kk2).trans rfl
        rcases v2.2 with ⟨z1, g1, g2⟩ | ⟨g, g1, g2⟩
        · have G1 := valP_g (a := []) (show (zAt z (nxt t T z.1 + 1)).1 ≤ T by show nxt t T z.1 + 1 ≤ T; omega) O.2 g1
          have hl1 := G1.len (j := pnd w + 1) (by show z.2.1.length + (pnd w + 1) ≤ nxt t T z.1 + 1; omega)
          have hm1 := G1.mm.2.2
          have hm1 : nxt t T z.1 + 1 + 0 ≤ z1.1 := hm1
          obtain ⟨h3, k1, k2, k3⟩ := RR_put_ok (d := d) g2 (by omega) (o, 0)
          have k2 : RA h3 n t T (zE z1 o) := k2
          cases x with
          | zero => exact absurd h1q (by omega)
          | succ x =>
            obtain ⟨m, r, h', m1, m2, m3⟩ := RR_sum_8 x (i + 1) (zE z1 o) w h3 (by show T - z1.1 ≤ x; omega) (by show i + 1 ≤ z1.1; omega) hw (by show (z1.2.1 ++ [(o, 0)]).length + pnd w ≤ z1.1; rw [List.length_append]; show z1.2.1.length + 1 + pnd w ≤ z1.1; omega) k2
            refine ⟨m + 1, r, h', ?_, pre2 _ ?_, (Q2.trans k3).trans m3.1, m3.2⟩
            · have t1 : tLo t T (m + 1) z = tLo t T m (zE z1 o) := by
                show (match sgA tS t T (nxt t T z.1) with
                  | none => some (Sum.inr (zAt z (nxt t T z.1)))
                  | some o => oB (some (valP t T (zAt z (nxt t T z.1 + 1)))) fun z1 => tLo t T m (zE z1 o)) = _
                rw [hs, g1]
                rfl
              rw [t1]
              exact oB_mn (fun r h => h) (fun z2 r h => sLo_mn m _ r h) m1
            · refine (bnd k1 _).trans ?_
              rw [nI_1]
              exact m2
        · obtain ⟨p0, p1, p2, p3⟩ := id g2
          refine ⟨1, .inl g, h2, ?_, pre2 _ ?_, Q2, Or.inr ⟨g, rfl, g2⟩⟩
          · have t1 : tLo t T 1 z = some (.inl g) := by
              show (match sgA tS t T (nxt t T z.1) with
                | none => some (Sum.inr (zAt z (nxt t T z.1)))
                | some o => oB (some (valP t T (zAt z (nxt t T z.1 + 1)))) fun z1 => tLo t T 0 (zE z1 o)) = _
              rw [hs, g1]
              rfl
            rw [t1]
            rfl
          · refine (bnd (RR_put_f (B.pn Q2) p2 (fne p3)) _).trans ?_
            exact RR_8_f (B.pn Q2) p2 (fne p3)
      | none =>
        rw [hs] at pre
        have t1 : ∀ m, tLo t T (m + 1) z = some (.inr (zAt z (nxt t T z.1))) := fun m => by
          show (match sgA tS t T (nxt t T z.1) with
            | none => some (Sum.inr (zAt z (nxt t T z.1)))
            | some o => oB (some (valP t T (zAt z (nxt t T z.1 + 1)))) fun z1 => tLo t T m (zE z1 o)) = _
          rw [hs]
        have ne : nxt t T (emW w (zAt z (nxt t T z.1))).1 = nxt t T z.1 := by rw [emW_1]; exact hqq
        have s0 : ∀ m, sLo t T (m + 1) (emW w (zAt z (nxt t T z.1))) = match sgA adS t T (nxt t T z.1) with
            | none => some (Sum.inr (emW w (zAt z (nxt t T z.1))))
            | some o => oB (some (valP t T (emW w (zAt z (nxt t T z.1 + 1))))) fun z1 => oB (tLo t T m z1) fun z2 => sLo t T m (zE z2 o) := fun m => by
          show (match sgA adS t T (nxt t T (emW w (zAt z (nxt t T z.1))).1) with
            | none => some (Sum.inr (zAt (emW w (zAt z (nxt t T z.1))) (nxt t T (emW w (zAt z (nxt t T z.1))).1)))
            | some o => oB (some (valP t T (zAt (emW w (zAt z (nxt t T z.1))) (nxt t T (emW w (zAt z (nxt t T z.1))).1 + 1)))) fun z1 => oB (tLo t T m z1) fun z2 => sLo t T m (zE z2 o)) = _
          rw [ne, emW_at, emW_at]
        cases ha : sgA adS t T (nxt t T z.1) with
        | none =>
          rw [ha] at pre
          obtain ⟨h2, f1, f2, f3⟩ := RR_100_ok (d := d) A1 hw (by show z.2.1.length + pnd w ≤ nxt t T z.1; omega)
          refine ⟨1, .inr (emW w (zAt z (nxt t T z.1))), h2, ?_, pre _ ?_, (P3_of e3).trans f3, Or.inl ⟨_, rfl, f2⟩⟩
          · rw [t1 0]
            show sLo t T 1 (emW w (zAt z (nxt t T z.1))) = _
            rw [s0 0, ha]
          · refine (bnd rfl _).trans ?_
            exact (if_neg (fun y => y rfl)).trans f1
        | some o =>
          rw [ha] at pre
          obtain ⟨h1q, h2q⟩ := sgA_in ha
          have ho := adS_in h2q
          have A6 : RA (wI h1 n 2 (nI (nxt t T z.1 + 1))) n t T (zAt z (nxt t T z.1 + 1)) := A1.rd PRd_w2 R6 (by omega) (by show nxt t T z.1 ≤ nxt t T z.1 + 1; omega)
          -- the waiting sign, then the value
          have st : ∃ h3, RA h3 n t T (emW w (zAt z (nxt t T z.1 + 1))) ∧ Iq (P3 n) (wI h1 n 2 (nI (nxt t T z.1 + 1))) h3 ∧ ∀ y : Int32, k_RR_readSum_79 d (some (n + 1)) (wIo w) (nI i) y (wI h1 n 2 (nI (nxt t T z.1 + 1))) = Option.bind (c_RR_readValue d (some (n + 1)) h3) fun q3 => k_RR_readSum_8 d (some (n + 1)) y (nI i + 1) q3 := by
            rcases hw with rfl | rfl | rfl
            · refine ⟨_, A6, Iq.refl _, fun y => ?_⟩
              refine (e_RR_readSum_79 _ _ _ _ _ _).trans ?_
              refine (if_pos rfl).trans ?_
              exact (if_pos b11).trans rfl
            · obtain ⟨h3, f1, f2, f3⟩ := RR_put_ok (d := d) A6 (by show z.2.1.length + 1 ≤ nxt t T z.1 + 1; omega) (2, 0)
              refine ⟨h3, f2, f3, fun y => ?_⟩
              refine (e_RR_readSum_79 _ _ _ _ _ _).trans ?_
              refine (if_neg (by decide)).trans ?_
              refine (if_pos b11).trans ?_
              refine (bnd f1 _).trans ?_
              exact (if_pos f2.2.1.1).trans rfl
            · obtain ⟨h3, f1, f2, f3⟩ := RR_put_ok (d := d) A6 (by show z.2.1.length + 1 ≤ nxt t T z.1 + 1; omega) (3, 0)
              refine ⟨h3, f2, f3, fun y => ?_⟩
              refine (e_RR_readSum_79 _ _ _ _ _ _).trans ?_
              refine (if_neg (by decide)).trans ?_
              refine (if_pos b11).trans ?_
              refine (bnd f1 _).trans ?_
              exact (if_pos f2.2.1.1).trans rfl
          obtain ⟨h3, A3, Q3, k79⟩ := st
          obtain ⟨h4, v1, v2⟩ := RR_value_ok (d := d) A3
          have Q4 : Iq (P3 n) h h4 := (((P3_of e3).trans (P3_of PRd_w2)).trans Q3).trans v2.1
          have pre2 : ∀ o', k_RR_readSum_8 d (some (n + 1)) (oC (o, 0)) (nI i + 1) h4 = o' → k_RR_readSum_8 d (some (n + 1)) (wIo w) (nI i) h = o' := by
            intro o' ho'
            rw [← ho']
            refine pre _ ?_
            refine (bnd rfl _).trans ?_
            refine (if_pos (show ¬ oC (o, 0) = 0 by rcases ho with rfl | rfl <;> decide)).trans ?_
            refine (if_pos b11).trans ?_
            refine (bnd b12 _).trans ?_
            refine (if_pos c11).trans ?_
            refine (bnd b12 _).trans ?_
            refine (if_pos c11).trans ?_
            have fin : k_RR_readSum_79 d (some (n + 1)) (wIo w) (nI i) (oC (o, 0)) (wI h1 n 2 (hI h1 n 2 + 1)) = k_RR_readSum_8 d (some (n + 1)) (oC (o, 0)) (nI i + 1) h4 := by
              rw [j2, nI_1, k79]
              exact bnd v1 _
            rcases ho with rfl | rfl
            · exact (if_pos rfl).trans fin
            · refine (if_neg (show ¬ oC (3, 0) = (-1 : Int32) by decide)).trans ?_
              exact (if_pos rfl).trans fin
          have wo : waOk (some o) := by rcases ho with rfl | rfl; exact Or.inr (Or.inl rfl); exact Or.inr (Or.inr rfl)
          rcases v2.2 with ⟨z1, g1, g2⟩ | ⟨g, g1, g2⟩
          · have ze : (emW w (zAt z (nxt t T z.1 + 1))).1 = nxt t T z.1 + 1 := emW_1 _ _
            have zm : (emW w (zAt z (nxt t T z.1 + 1))).2.2 ≤ 60 := by cases w <;> exact O.2
            have G1 := valP_g (a := []) (by rw [ze]; omega) zm g1
            have hl1 := G1.len (j := 1) (by rw [emW_len, ze]; show z.2.1.length + pnd w + 1 ≤ nxt t T z.1 + 1; omega)
            have hm1 := G1.mm.2.2
            rw [ze] at hm1
            cases x with
            | zero => exact absurd h1q (by omega)
            | succ x =>
              obtain ⟨m, r, h', m1, m2, m3⟩ := RR_sum_8 x (i + 1) z1 (some o) h4 (by omega) (by omega) wo (by show z1.2.1.length + 1 ≤ z1.1; omega) g2
              refine ⟨m + 1, r, h', ?_, pre2 _ ?_, Q4.trans m3.1, m3.2⟩
              · rw [t1 m]
                show sLo t T (m + 1) (emW w (zAt z (nxt t T z.1))) = _
                rw [s0 m, ha, g1]
                exact m1
              · rw [nI_1]
                exact m2
          · obtain ⟨p0, p1, p2, p3⟩ := id g2
            refine ⟨1, .inl g, h4, ?_, pre2 _ (RR_8_f (B.pn Q4) p2 (fne p3)), Q4, Or.inr ⟨g, rfl, g2⟩⟩
            rw [t1 0]
            show sLo t T 1 (emW w (zAt z (nxt t T z.1))) = _
            rw [s0 0, ha, g1]
            rfl
theorem RR_sum_ok (A : RA h n t T z) : ∃ m r h', sumP t T m z = some r ∧ c_RR_readSum d (some (n + 1)) h = some h' ∧ Rz h h' n t T r := by
  obtain ⟨h1, v1, v2⟩ := RR_value_ok (d := d) A
  have b1 := A.2.1.1
  have pre : c_RR_readSum d (some (n + 1)) h = k_RR_readSum_8 d (some (n + 1)) 0 (nI 0) h1 := by
    refine (e_RR_readSum _ _ _).trans ?_
    refine (if_pos b1).trans ?_
    exact (bnd v1 _).trans rfl
  rcases v2.2 with ⟨z1, g1, g2⟩ | ⟨g, g1, g2⟩
  · have G1 := valP_g (a := []) A.2.2.2.2.2.1.1 A.2.2.2.2.2.1.2 g1
    have hl1 := G1.len (j := 0) (by have := A.2.2.2.2.2.2; omega)
    obtain ⟨m, r, h', m1, m2, m3⟩ := RR_sum_8 (d := d) (T - z1.1) 0 z1 none h1 (Nat.le_refl _) (Nat.zero_le _) (Or.inl rfl) (by show z1.2.1.length + 0 ≤ z1.1; omega) g2
    refine ⟨m, r, h', ?_, pre.trans m2, v2.1.trans m3.1, m3.2⟩
    unfold sumP
    rw [g1]
    exact m1
  · obtain ⟨p0, p1, p2, p3⟩ := id g2
    refine ⟨0, .inl g, h1, ?_, pre.trans (RR_8_f (A.2.1.pn v2.1) p2 (fne p3)), v2.1, Or.inr ⟨g, rfl, g2⟩⟩
    unfold sumP
    rw [g1]
    rfl
end SkRulesum
