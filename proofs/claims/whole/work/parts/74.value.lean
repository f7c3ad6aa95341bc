/-! ===== a rule's value: the reference's stack, both values ===== -/
/-- the reference's frame while it reckons -/
def Zq (h h' : sk_H) : Prop := h'.1 = h.1 ∧ hR h' = hR h ∧ (∀ a i, ¬ (a = 52 ∧ i = 18) → hI h' a i = hI h a i) ∧ ∀ b, b ≠ 60 → hJ h' b = hJ h b
section SkValue
variable {F G : Nat → Prop} {h h' h1 h2 : sk_H} {a m n i s k x : Nat} {d : Nat} {R : RT}
theorem Zq.refl (h : sk_H) : Zq h h := ⟨rfl, rfl, fun _ _ _ => rfl, fun _ _ => rfl⟩
theorem Zq.trans (P : Zq h h1) (Q : Zq h1 h2) : Zq h h2 := ⟨Q.1.trans P.1, Q.2.1.trans P.2.1, fun a i ha => (Q.2.2.1 a i ha).trans (P.2.2.1 a i ha), fun b hb => (Q.2.2.2 b hb).trans (P.2.2.2 b hb)⟩
theorem Zq.vJ (h : sk_H) (i : Nat) (v : Int64) : Zq h (wJ h 60 i v) := ⟨rfl, rfl, fun _ _ _ => rfl, fun b hb => by funext k; rw [hJ_wJ, if_neg (fun q => hb q.1)]⟩
theorem Zq.vI (h : sk_H) (v : Int32) : Zq h (wI h 52 18 v) := ⟨rfl, rfl, fun a i ha => by rw [hI_wI, if_neg ha], fun _ _ => rfl⟩
theorem Zq.mq (Q : Zq h h1) : Mq h h1 := ⟨Q.1, Q.2.1, fun a i ha => Q.2.2.1 a i (fun q => by rw [q.1, q.2] at ha; exact absurd ha (by decide)), fun a _ h60 _ => Q.2.2.2 a h60⟩
theorem MS.zq (M : MS 52 h) (Q : Zq h h1) : MS 52 h1 := M.mq Q.mq
/-- what the reference's reckoning needs -/
def MI2 (h : sk_H) (x : Nat) (R : RT) (wv : Nat → Int64) : Prop := MS 52 h ∧ x < 6 ∧ MR h x R ∧ ∀ i, i < 11 → hJ h 61 i = wv i
theorem MI2.zq {wv : Nat → Int64} (I : MI2 h x R wv) (Q : Zq h h1) : MI2 h1 x R wv := by
  obtain ⟨M, hx, ⟨r1, r2, r3⟩, w⟩ := I
  have e : ∀ c, c ≠ 52 → hI h1 c = hI h c := fun c hc => funext fun i => Q.2.2.1 c i (fun q => hc q.1)
  exact ⟨M.zq Q, hx, ⟨by rw [e 57 (by decide)]; exact r1, by rw [e 54 (by decide)]; exact r2, by rw [e 56 (by decide)]; exact r3⟩, fun i hi => by rw [Q.2.2.2 61 (by decide)]; exact w i hi⟩
theorem M_push_ok (M : MS 52 h) (t : hI h 52 18 = nI n) (hn : n < 64) (v : Int64) : c_M_push d (some 52) v h = some (wI (wJ h 60 n v) 52 18 (nI (n + 1))) := by
  rw [e_M_push]
  simp (disch := omega) only [M.K52, ↓bnd M.R17, M.K60, M.N60, ↓reduceIte, ↓Option.bind_some, if_true, if_false, true_and, and_true, and_self, true_or, or_true, false_or, or_false, not_true_eq_false, not_false_eq_true, Option.bind_some, somene, false_and, and_false, reduceCtorEq, Nat.reduceEqDiff, hK_wJ, hI_wJ, t, q_in, q_cl, l1, nI_add]
theorem M_pop_ok (M : MS 52 h) (t : hI h 52 18 = nI (n + 1)) (hn : n < 64) : c_M_pop d (some 52) h = some (wI h 52 18 (nI n), hJ h 60 n) := by
  have e : nI (n + 1) - nI 1 = nI n := by rw [q_sub (by omega)]; rfl
  rw [e_M_pop]
  simp (disch := omega) only [M.K52, ↓bR_wI, ↓bnd M.R17, M.K60, M.N60, ↓reduceIte, ↓Option.bind_some, if_true, if_false, true_and, and_true, and_self, true_or, or_true, false_or, or_false, not_true_eq_false, not_false_eq_true, Option.bind_some, somene, false_and, and_false, reduceCtorEq, Nat.reduceEqDiff, hK_wI, hN_wI, hJ_wI, hI_wI, t, e, q_in, q_cl, l1]
theorem M_re_in {wv : Nat → Int64} {to : Nat} (hW : RW R) (hto : to ≤ rN R) : ∀ (n i : Nat) (ks ks' : List Bool) (s : List Int64) (h : sk_H), i + n = to → MI2 h x R wv → kOk ks s → tc (sli (rO R) i n) ks = some ks' → s.length + pu (sli (rO R) i n) ≤ 60 → SkM (hJ h 60) s → hI h 52 18 = nI s.length → ∃ h', k_M_reckons_8 d (some 52) (nI x) (nI to) (nI i) h = k_M_reckons_8 d (some 52) (nI x) (nI to) (nI to) h' ∧ Zq h h' ∧ MI2 h' x R wv ∧ SkM (hJ h' 60) (evl wv (sli (rO R) i n) s) ∧ kOk ks' (evl wv (sli (rO R) i n) s) ∧ hI h' 52 18 = nI (evl wv (sli (rO R) i n) s).length
  | 0, i, ks, ks', s, h, hi, I, hk, ht, hp, sk, t => by
    have ht : some ks = some ks' := ht
    cases ht
    refine ⟨h, by rw [show i = to by omega], Zq.refl h, I, sk, hk, t⟩
  | n + 1, i, ks, ks', s, h, hi, I, hk, ht, hp, sk, t => by
    obtain ⟨M, hx, ⟨r1, r2, r3⟩, w⟩ := id I
    have hNR := hW.1
    have hiN : i < rN R := by omega
    have ei := r2 i hiN
    have ow := hW.2.2.1 i hiN
    have esl : sli (rO R) i (n + 1) = rO R i :: sli (rO R) (i + 1) n := rfl
    rw [esl] at ht hp ⊢
    have ht : (tc1 (rO R i) ks).bind (tc (sli (rO R) (i + 1) n)) = some ks' := ht
    have o16 : (rO R i).1 < 16 ∧ (rO R i).2 ≤ 99999 := by rcases ow with ⟨o1, o2⟩ | ⟨o1, o2⟩ | ⟨o1, o2, o3⟩ <;> omega
    have e15 : nI ((rO R i).1 + 16 * (rO R i).2) &&& (15 : Int32) = nI (rO R i).1 := by
      have h1 : nI ((rO R i).1 + 16 * (rO R i).2) &&& nI 15 = nI ((rO R i).1 + 16 * (rO R i).2 &&& 15) := nI_and _ _
      have h2 : (rO R i).1 + 16 * (rO R i).2 &&& 15 = (rO R i).1 := by
        rw [show (15 : Nat) = 2 ^ 4 - 1 from rfl, Nat.and_two_pow_sub_one_eq_mod]
        omega
      rw [h2] at h1
      exact h1
    have e4 : nI ((rO R i).1 + 16 * (rO R i).2) >>> ((4 : Int32) &&& 31) = nI (rO R i).2 := by
      have h1 := q_shr2 (x := (rO R i).1 + 16 * (rO R i).2) (k := 4) (by omega) (by omega)
      have h2 : ((rO R i).1 + 16 * (rO R i).2) >>> 4 = (rO R i).2 := by
        rw [Nat.shiftRight_eq_div_pow]
        omega
      rw [h2] at h1
      exact h1
    have e400 : (400 : Int32) * nI x + nI i = nI (400 * x + i) := by
      have : nI 400 * nI x + nI i = nI (400 * x + i) := by rw [pk_mul, nI_add]
      exact this
    have in54 : sk_in (nI (400 * x + i)) (hN h 54) := by rw [M.N54]; exact vp_in_nI (by omega) (by omega)
    have ec : (nI (400 * x + i)).toNatClampNeg = 400 * x + i := q_cl (by omega)
    cases h1 : tc1 (rO R i) ks with
    | none => rw [h1] at ht; cases ht
    | some k1 =>
      rw [h1] at ht
      have ht : tc (sli (rO R) (i + 1) n) k1 = some ks' := ht
      have hk1 := ev1_ok (wv := wv) hk h1
      have hpu : pu (rO R i :: sli (rO R) (i + 1) n) = pu (sli (rO R) (i + 1) n) + (if decide ((rO R i).1 ≤ 1) = true then 1 else 0) := List.countP_cons ..
      rw [hpu] at hp
      show ∃ h', _ ∧ _ ∧ _ ∧ SkM (hJ h' 60) (evl wv (sli (rO R) (i + 1) n) (ev1 wv (rO R i) s)) ∧ kOk ks' (evl wv (sli (rO R) (i + 1) n) (ev1 wv (rO R i) s)) ∧ hI h' 52 18 = nI (evl wv (sli (rO R) (i + 1) n) (ev1 wv (rO R i) s)).length
      have pushed : ∀ (g : sk_H) (v : Int64) (s' : List Int64), Zq h g → SkM (hJ g 60) s' → hI g 52 18 = nI s'.length → s'.length < 60 → ev1 wv (rO R i) s = v :: s' → c_M_push d (some 52) v g = some (wI (wJ g 60 s'.length v) 52 18 (nI (s'.length + 1))) ∧ ∃ h', k_M_reckons_8 d (some 52) (nI x) (nI to) (nI (i + 1)) (wI (wJ g 60 s'.length v) 52 18 (nI (s'.length + 1))) = k_M_reckons_8 d (some 52) (nI x) (nI to) (nI to) h' ∧ Zq h h' ∧ MI2 h' x R wv ∧ SkM (hJ h' 60) (evl wv (sli (rO R) (i + 1) n) (ev1 wv (rO R i) s)) ∧ kOk ks' (evl wv (sli (rO R) (i + 1) n) (ev1 wv (rO R i) s)) ∧ hI h' 52 18 = nI (evl wv (sli (rO R) (i + 1) n) (ev1 wv (rO R i) s)).length := by
        intro g v s' Q sk' tg hl ev
        have Mg := M.zq Q
        refine ⟨M_push_ok Mg tg (by omega) v, ?_⟩
        rw [ev] at hk1 ⊢
        have Z2 : Zq h (wI (wJ g 60 s'.length v) 52 18 (nI (s'.length + 1))) := (Q.trans (Zq.vJ _ _ _)).trans (Zq.vI _ _)
        have hlen : (v :: s').length + pu (sli (rO R) (i + 1) n) ≤ 60 := by
          have l1 : (ev1 wv (rO R i) s).length = s'.length + 1 := by rw [ev]; rfl
          have l2 : (ev1 wv (rO R i) s).length ≤ s.length + (if decide ((rO R i).1 ≤ 1) = true then 1 else 0) := by
            unfold ev1
            by_cases q0 : (rO R i).1 = 0
            · rw [if_pos q0]; simp [q0]
            · rw [if_neg q0]
              by_cases q1 : (rO R i).1 = 1
              · rw [if_pos q1]; simp [q1]
              · rw [if_neg q1]
                cases s with
                | nil => exact Nat.zero_le _
                | cons u s =>
                  show (if (rO R i).1 = 11 then _ else _ : List Int64).length ≤ _
                  by_cases q11 : (rO R i).1 = 11
                  · rw [if_pos q11]; simp only [List.length_cons]; omega
                  · rw [if_neg q11]
                    cases s with
                    | nil => exact Nat.zero_le _
                    | cons u' s => simp only [List.length_cons]; omega
          rw [List.length_cons]
          omega
        obtain ⟨h', f1, f2, f3, f4, f5, f6⟩ := M_re_in hW hto n (i + 1) k1 ks' (v :: s') (wI (wJ g 60 s'.length v) 52 18 (nI (s'.length + 1))) (by omega) (I.zq Z2) hk1 ht hlen ⟨by rw [hJ_wI, hJ_wJ, if_pos ⟨rfl, rfl⟩], SkM_cg sk' (fun j hj => by rw [hJ_wI, hJ_wJ, if_neg (fun q => by have := q.2; omega)])⟩ (by rw [hI_wI, if_pos ⟨rfl, rfl⟩]; rfl)
        exact ⟨h', f1, Z2.trans f2, f3, f4, f5, f6⟩
      have start : ∀ G : Option (sk_H × Int64), ((if ¬ nI (rO R i).1 = 0 then (if ¬ nI (rO R i).1 = (1 : Int32) then (if ¬ nI (rO R i).1 = (11 : Int32) then Option.bind (c_M_pop d (some 52) h) fun q4 => if hK q4.1 52 = 13 then Option.bind (c_M_pop d (some 52) q4.1) fun q5 => Option.bind (c_M_one d (nI (rO R i).1) q5.2 q4.2 q5.1) fun q6 => if hK q6.1 52 = 13 then Option.bind (c_M_push d (some 52) q6.2 q6.1) fun q7 => k_M_reckons_8 d (some 52) (nI x) (nI to) (nI i + 1) q7 else none else none else Option.bind (c_M_pop d (some 52) h) fun q8 => if hK q8.1 52 = 13 then Option.bind (c_M_push d (some 52) ((1 : Int64) - q8.2) q8.1) fun q9 => k_M_reckons_8 d (some 52) (nI x) (nI to) (nI i + 1) q9 else none) else Option.bind (some 61) fun a10 => if (hK h a10 = 102 ∨ hK h a10 = 202) ∧ sk_in (nI (rO R i).2) (hN h a10) then Option.bind (c_M_push d (some 52) (hJ h a10 (nI (rO R i).2).toNatClampNeg) h) fun q11 => k_M_reckons_8 d (some 52) (nI x) (nI to) (nI i + 1) q11 else none) else Option.bind (c_M_push d (some 52) ((nI (rO R i).2).toInt64) h) fun q12 => k_M_reckons_8 d (some 52) (nI x) (nI to) (nI i + 1) q12) = G) → k_M_reckons_8 d (some 52) (nI x) (nI to) (nI i) h = G := by
        intro G hG
        refine (e_M_reckons_8 _ _ _ _ _ _).trans ?_
        refine (if_neg (nI_ge (show i < to by omega) (by omega))).trans ?_
        refine (if_pos M.K52).trans ?_
        refine (bnd M.R3 _).trans ?_
        rw [e400]
        refine (if_pos ⟨Or.inl M.K54, in54⟩).trans ?_
        refine (if_pos M.K52).trans ?_
        refine (bnd M.R3 _).trans ?_
        refine (if_pos ⟨Or.inl M.K54, in54⟩).trans ?_
        rw [ec, ei, e15, e4]
        rw [← hG]
        simp only [M.K52, if_true, ↓bnd M.R19, Option.bind_some]
      have e1i : nI i + 1 = nI (i + 1) := nI_1 i
      rcases ow with ⟨o1, o2⟩ | ⟨o1, o2⟩ | ⟨o1, o2, o3⟩
      · rw [if_pos (by simp [o1])] at hp
        have ev : ev1 wv (rO R i) s = tL (rO R i).2 :: s := by unfold ev1; rw [if_pos o1]
        obtain ⟨p1, h', p2, p3⟩ := pushed h (tL (rO R i).2) s (Zq.refl h) sk t (by omega) ev
        refine ⟨h', start _ ?_, p3⟩
        rw [if_neg (fun q => q (by rw [o1]; rfl)), show (nI (rO R i).2).toInt64 = tL (rO R i).2 from rfl, bnd p1, e1i]
        exact p2
      · rw [if_pos (by simp [o1])] at hp
        have ev : ev1 wv (rO R i) s = wv (rO R i).2 :: s := by unfold ev1; rw [if_neg (by omega), if_pos o1]
        obtain ⟨p1, h', p2, p3⟩ := pushed h (wv (rO R i).2) s (Zq.refl h) sk t (by omega) ev
        refine ⟨h', start _ ?_, p3⟩
        have in61 : sk_in (nI (rO R i).2) (hN h 61) := by rw [M.N61]; exact vp_in_nI (by omega) (by omega)
        rw [if_pos (by rw [o1]; decide), if_neg (fun q => q (by rw [o1]; rfl))]
        refine (bnd (rfl : some 61 = some 61) _).trans ?_
        refine (if_pos ⟨Or.inl M.K61, in61⟩).trans ?_
        rw [q_cl (by omega), w _ (by omega), bnd p1, e1i]
        exact p2
      · rw [if_neg (by simp; omega)] at hp
        have ne0 : ¬ nI (rO R i).1 = 0 := fun q => by
          have := (nI_eq (a := (rO R i).1) (b := 0) (by omega) (by omega)).mp q; omega
        have ne1 : ¬ nI (rO R i).1 = (1 : Int32) := fun q => by
          have := (nI_eq (a := (rO R i).1) (b := 1) (by omega) (by omega)).mp q; omega
        by_cases q11 : (rO R i).1 = 11
        · cases s with
          | nil =>
            have hl := kOk_len hk
            cases ks with
            | nil => unfold tc1 at h1; rw [if_neg (by omega), if_pos q11] at h1; cases h1
            | cons b ks => cases hl
          | cons v s =>
            rw [List.length_cons] at hp t
            have ev : ev1 wv (rO R i) (v :: s) = (1 - v) :: s := by
              unfold ev1; rw [if_neg (by omega), if_neg (by omega)]
              show (if (rO R i).1 = 11 then _ else _) = _
              rw [if_pos q11]
            have pp := M_pop_ok (d := d) M t (by omega)
            rw [sk.1] at pp
            obtain ⟨p1, h', p2, p3⟩ := pushed (wI h 52 18 (nI s.length)) (1 - v) s (Zq.vI _ _) sk.2 (by rw [hI_wI, if_pos ⟨rfl, rfl⟩]) (by omega) ev
            refine ⟨h', start _ ?_, p3⟩
            rw [if_pos ne0, if_pos ne1, if_neg (fun q => q (by rw [q11]; rfl)), bnd pp]
            refine (if_pos M.K52).trans ?_
            refine (bnd p1 _).trans ?_
            rw [e1i]
            exact p2
        · have ne11 : ¬ nI (rO R i).1 = (11 : Int32) := fun q => by
            have := (nI_eq (a := (rO R i).1) (b := 11) (by omega) (by omega)).mp q; omega
          have two : ∃ u v s', s = v :: u :: s' := by
            have h1' := h1
            unfold tc1 at h1'
            rw [if_neg (show ¬ (rO R i).1 ≤ 1 by omega), if_neg q11] at h1'
            have hl := kOk_len hk
            cases s with
            | nil =>
              cases ks with
              | nil =>
                by_cases q12 : (rO R i).1 = 12 ∨ (rO R i).1 = 13
                · rw [if_pos q12] at h1'; cases h1'
                · rw [if_neg q12] at h1'; cases h1'
              | cons b ks => cases hl
            | cons v s =>
              cases s with
              | nil =>
                cases ks with
                | nil => cases hl
                | cons b ks =>
                  cases ks with
                  | nil =>
                    by_cases q12 : (rO R i).1 = 12 ∨ (rO R i).1 = 13
                    · rw [if_pos q12] at h1'; cases b <;> cases h1'
                    · rw [if_neg q12] at h1'; cases b <;> cases h1'
                  | cons b' ks =>
                    have : ks.length + 1 + 1 = 1 := hl
                    omega
              | cons u s => exact ⟨u, v, s, rfl⟩
          obtain ⟨u, v, s', rfl⟩ := two
          rw [List.length_cons, List.length_cons] at hp t
          have ev : ev1 wv (rO R i) (v :: u :: s') = jn (rO R i).1 u v :: s' := by
            unfold ev1; rw [if_neg (by omega), if_neg (by omega)]
            show (if (rO R i).1 = 11 then _ else _) = _
            rw [if_neg q11]
          have pp := M_pop_ok (d := d) M t (by omega)
          have s1 := sk.1
          rw [List.length_cons] at s1
          rw [s1] at pp
          have M2 : MS 52 (wI h 52 18 (nI (s'.length + 1))) := M
          have pp2 := M_pop_ok (d := d) (h := wI h 52 18 (nI (s'.length + 1))) (n := s'.length) M2 (by rw [hI_wI, if_pos ⟨rfl, rfl⟩]) (by omega)
          have s2 : hJ (wI h 52 18 (nI (s'.length + 1))) 60 s'.length = u := sk.2.1
          rw [s2] at pp2
          have on := M_one_ok (d := d) (h := wI (wI h 52 18 (nI (s'.length + 1))) 52 18 (nI s'.length)) (x := u) (y := v) o1 o2
          obtain ⟨p1, h', p2, p3⟩ := pushed (wI (wI h 52 18 (nI (s'.length + 1))) 52 18 (nI s'.length)) (jn (rO R i).1 u v) s' ((Zq.vI _ _).trans (Zq.vI _ _)) sk.2.2 (by rw [hI_wI, if_pos ⟨rfl, rfl⟩]) (by omega) ev
          refine ⟨h', start _ ?_, p3⟩
          rw [if_pos ne0, if_pos ne1, if_pos ne11, bnd pp]
          refine (if_pos M.K52).trans ?_
          refine (bnd pp2 _).trans ?_
          refine (bnd on _).trans ?_
          refine (if_pos M.K52).trans ?_
          refine (bnd p1 _).trans ?_
          rw [e1i]
          exact p2
end SkValue
