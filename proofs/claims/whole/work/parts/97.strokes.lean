/-! ===== the class lists an alley's strokes ===== -/
/-- an array holds these strokes from place i on -/
def ASl (F : Nat → Prop) (h : sk_H) (A : AD) (arr : Nat) : Nat → List (Nat × Nat) → Prop
  | _, [] => True
  | i, x :: l => (∃ s, hR h arr i = some s ∧ F s ∧ SO h A s x) ∧ ASl F h A arr (i + 1) l
def Lw1 (h : sk_H) : Prop := hK h 1 = 202 ∧ hN h 1 = 5 ∧ ∀ k, hJ h 1 k = lwH k
/-- the list so far -/
def LSt (h : sk_H) (n : Nat) (A : AD) (s0 : Nat) (l : List (Nat × Nat)) : Prop := SB h n A (aN A) ∧ Lw1 h ∧ hK h (n + 12) = 108 ∧ hN h (n + 12) = 4 * aN A ∧ hn h = n + 13 + l.length ∧ hs h = s0 + 7 * l.length ∧ ASl (fun s => n + 13 ≤ s ∧ s < n + 13 + l.length) h A (n + 12) 0 l
section SkStrokes
variable {F G : Nat → Prop} {h h' h1 h2 : sk_H} {n d arr s0 : Nat} {A : AD}
theorem ASl.mono : ∀ (l : List (Nat × Nat)) (i : Nat), (∀ j, i ≤ j → j < i + l.length → hR h1 arr j = hR h arr j) → (∀ s, F s → G s ∧ Same h h1 s) → ASl F h A arr i l → ASl G h1 A arr i l
  | [], _, _, _, _ => trivial
  | x :: l, i, hr, hF, ⟨⟨s, q1, q2, q3⟩, q4⟩ => ⟨⟨s, (hr i (Nat.le_refl _) (by rw [List.length_cons]; omega)).trans q1, (hF s q2).1, q3.same (hF s q2).2⟩, ASl.mono l (i + 1) (fun j h1 h2 => hr j (by omega) (by rw [List.length_cons]; omega)) hF q4⟩
theorem ASl.snoc {x : Nat × Nat} : ∀ (l : List (Nat × Nat)) (i : Nat), ASl F h A arr i l → (∃ s, hR h arr (i + l.length) = some s ∧ F s ∧ SO h A s x) → ASl F h A arr i (l ++ [x])
  | [], i, _, e => ⟨e, trivial⟩
  | y :: l, i, ⟨q1, q2⟩, e => ⟨q1, ASl.snoc l (i + 1) q2 (by rw [List.length_cons, show i + (l.length + 1) = i + 1 + l.length by omega] at e; exact e)⟩
theorem ASl.as : ∀ (l : List (Nat × Nat)) (i : Nat), ASl F h A arr i l → hN h arr = i + l.length → AS F h A arr i l
  | [], i, _, e => e
  | x :: l, i, ⟨q1, q2⟩, e => ⟨q1, ASl.as l (i + 1) q2 (by rw [e, List.length_cons]; omega)⟩
theorem hasH_ok {H k : Nat} (hH : H < 16) (h1 : 1 ≤ k) (h4 : k ≤ 4) : c_Al_hasHit d (nI H) (nI k) h = some (h, bi (H.testBit (k - 1))) := by
  refine (e_Al_hasHit _ _ _ _).trans ?_
  have e : (nI H >>> ((nI k - 1) &&& 31)) &&& 1 = nI (if H.testBit (k - 1) = true then 1 else 0) := by
    rw [l1, q_sub h1]
    exact nI_bit (by omega) (by omega)
  by_cases z : H.testBit (k - 1) = true
  · rw [if_pos z] at e
    rw [z]
    exact if_neg (fun y => y e)
  · rw [if_neg z] at e
    rw [show H.testBit (k - 1) = false by simpa using z]
    exact if_pos (fun y => absurd (e.symm.trans y) (by decide))
theorem bitOf_ok {o : Option Nat} (ho : ∀ x, o = some x → x < 12) : c_Al_bitOf d (oI o) h = some (h, nI (bO o)) := by
  refine (e_Al_bitOf _ _ _).trans ?_
  cases o with
  | none => exact if_neg (fun y => y rfl)
  | some x =>
    have hx := ho x rfl
    refine (if_pos (show ¬ nI x = nM by rw [q_m1 (by omega)]; exact not_false)).trans ?_
    show some (h, (1 : Int32) <<< (nI x &&& 31)) = _
    rw [nI_shl (by omega)]
    rfl
theorem Sk_init_ok (w : aW A) {s p k : Nat} (hp : p < aN A) (h1 : 1 ≤ k) (h4 : k ≤ 4) (hk : hK h s = 10) (hs1 : s ≠ 1) (L : Lw1 h) : ∃ h', c_Sk_init d (some s) (nI p) (nI k) (nI (aRow A p)) (nI (sB A p k)) (nI (bO (aPv A p))) (nI (bO (aAh A p k))) h = some h' ∧ SO h' A s (p, k) ∧ h'.1 = h.1 ∧ hR h' = hR h ∧ ∀ a, a ≠ s → hI h' a = hI h a ∧ hJ h' a = hJ h a := by
  obtain ⟨l1', l2', l3'⟩ := L
  have b1 := bO_lt (aPv_12 w hp)
  have b2 := bO_lt (aAh_lt w (k := k) hp)
  have n1 : nI (bO (aPv A p)) &&& (nI (sB A p k) ^^^ (-1 : Int32)) = nI (an (bO (aPv A p)) (sB A p k)) := nI_an _ b1
  have n2 : nI (bO (aAh A p k)) &&& (nI (sB A p k) ^^^ (-1 : Int32)) = nI (an (bO (aAh A p k)) (sB A p k)) := nI_an _ b2
  have ck : (nI k).toNatClampNeg = k := q_cl (by omega)
  obtain ⟨h6, hh6⟩ : ∃ h6, h6 = wI (wI (wI (wI (wI (wI h s 0 (nI p)) s 1 (nI k)) s 2 (nI (aRow A p))) s 3 (nI (sB A p k))) s 4 (nI (bO (aPv A p)) &&& (nI (sB A p k) ^^^ (-1 : Int32)))) s 5 (nI (bO (aAh A p k)) &&& (nI (sB A p k) ^^^ (-1 : Int32))) := ⟨_, rfl⟩
  have k6 : hK h6 = hK h := by rw [hh6]; rfl
  have e6 : hN h6 = hN h := by rw [hh6]; rfl
  have j6 : hJ h6 = hJ h := by rw [hh6]; rfl
  have r6 : hR h6 = hR h := by rw [hh6]; rfl
  have o6 : h6.1 = h.1 := by rw [hh6]; rfl
  have tail : (if nI k ≤ (0 : Int32) then if hK h6 s = 10 then some (wJ h6 s 6 (0 : Int64)) else none else if a_any (hK h6 1) = true then if (Int32.ofNat (hN h6 1)) ≤ nI k then if hK h6 s = 10 then some (wJ h6 s 6 (0 : Int64)) else none else if (hK h6 1 = 102 ∨ hK h6 1 = 202) ∧ sk_in (nI k) (hN h6 1) then if hK h6 s = 10 then some (wJ h6 s 6 (hJ h6 1 (nI k).toNatClampNeg)) else none else none else none) = some (wJ h6 s 6 (hJ h 1 k)) := by
    have kk : hK h6 s = 10 := by rw [k6]; exact hk
    refine (if_neg (show ¬ nI k ≤ nI 0 from nI_ge (by omega) (by omega))).trans ?_
    refine (if_pos (by rw [k6, l1']; rfl)).trans ?_
    refine (if_neg (by rw [e6, l2']; exact nI_ge (a := k) (b := 5) (by omega) (by omega))).trans ?_
    refine (if_pos ⟨Or.inr (by rw [k6]; exact l1'), by rw [e6, l2']; exact vp_in_nI (by omega) (by omega)⟩).trans ?_
    refine (if_pos kk).trans ?_
    rw [ck, j6]
  refine ⟨wJ h6 s 6 (hJ h 1 k), ?_, ⟨by show hK h6 s = 10; rw [k6]; exact hk, ?_, ?_, ?_, ?_, ?_, ?_, ?_⟩, o6, by show hR h6 = _; exact r6, fun a ha => ⟨?_, ?_⟩⟩
  · refine (e_Sk_init _ _ _ _ _ _ _ _ _).trans ?_
    refine (if_pos hk).trans ?_
    refine (if_pos hk).trans ?_
    refine (if_pos hk).trans ?_
    refine (if_pos hk).trans ?_
    refine (if_pos hk).trans ?_
    refine (if_pos hk).trans ?_
    rw [hh6] at tail
    rw [hh6]
    exact tail
  · show hI h6 s 0 = _
    rw [hh6, hI_ni (by omega), hI_ni (by omega), hI_ni (by omega), hI_ni (by omega), hI_ni (by omega), hI_se]
  · show hI h6 s 1 = _
    rw [hh6, hI_ni (by omega), hI_ni (by omega), hI_ni (by omega), hI_ni (by omega), hI_se]
  · show hI h6 s 2 = _
    rw [hh6, hI_ni (by omega), hI_ni (by omega), hI_ni (by omega), hI_se]
  · show hI h6 s 3 = _
    rw [hh6, hI_ni (by omega), hI_ni (by omega), hI_se]
  · show hI h6 s 4 = _
    rw [hh6, hI_ni (by omega), hI_se, n1]
  · show hI h6 s 5 = _
    rw [hh6, hI_se, n2]
  · rw [hJ_wJ, if_pos ⟨rfl, rfl⟩]
    exact l3' k
  · show hI h6 a = _
    funext i
    rw [hh6, hI_na ha, hI_na ha, hI_na ha, hI_na ha, hI_na ha, hI_na ha]
  · funext i
    rw [hJ_wJ, if_neg (fun y => ha y.1), j6]
theorem oI_m {o : Option Nat} (ho : ∀ x, o = some x → x < 12) : (oI o = nM) = (o = none) := by
  cases o with
  | none => exact eq_true rfl |>.trans (eq_true rfl).symm
  | some x =>
    have hx := ho x rfl
    rw [show oI (some x) = nI x from rfl, q_m1 (by omega)]
    exact (eq_false (fun y => by cases y)).symm
/-- one stroke more -/
theorem LSt.add (w : aW A) {l : List (Nat × Nat)} (L : LSt h n A s0 l) (hn : 1 < n) {p k : Nat} (hp : p < aN A) (h1 : 1 ≤ k) (h4 : k ≤ 4) {hS : sk_H} (eS : ∃ hb, hb = hnew h 10 7 ∧ SO hS A (n + 13 + l.length) (p, k) ∧ hS.1 = hb.1 ∧ hR hS = hR hb ∧ ∀ a, a ≠ n + 13 + l.length → hI hS a = hI hb a ∧ hJ hS a = hJ hb a) : LSt (wR hS (n + 12) l.length (some (n + 13 + l.length))) n A s0 (l ++ [(p, k)]) ∧ Up (n + 12) h (wR hS (n + 12) l.length (some (n + 13 + l.length))) := by
  obtain ⟨B, ⟨v1, v2, v3⟩, c1, c2, c3, c4, c5⟩ := L
  obtain ⟨hb, rfl, o1, o2, o3, o4⟩ := eS
  have sm : ∀ a, a < n + 13 + l.length → sk_same h hS a := by
    intro a ha
    have ns := new_sm h 10 7 (c := a) (by rw [c3]; exact ha)
    refine ⟨?_, ?_, (o4 a (by omega)).1.trans ns.2.2.1, (o4 a (by omega)).2.trans ns.2.2.2.1, by rw [o3]; exact ns.2.2.2.2⟩
    · rw [show hK hS = hK (hnew h 10 7) from congrArg (fun x => x.1) o2]; exact ns.1
    · rw [show Jvm.Pilot.CSkittleRowLaw_law_r7134_573cdd.hN hS = Jvm.Pilot.CSkittleRowLaw_law_r7134_573cdd.hN (hnew h 10 7) from congrArg (fun x => x.2.1) o2]; exact ns.2.1
  have U : Up (n + 12) h (wR hS (n + 12) l.length (some (n + 13 + l.length))) := fun a ha => sk_same.trans (sm a (by omega)) (wR_sm hS _ _ (by omega))
  refine ⟨⟨B.up U, ?_, ?_, ?_, ?_, ?_, ?_⟩, U⟩
  · have u := U 1 (by omega)
    exact ⟨by rw [u.1]; exact v1, by rw [u.2.1]; exact v2, by rw [u.2.2.2.1]; exact v3⟩
  · exact (sm (n + 12) (by omega)).1.trans c1
  · exact (sm (n + 12) (by omega)).2.1.trans c2
  · rw [hn_wR, List.length_append, show Jvm.Pilot.CSkittleRowLaw_law_r7134_573cdd.hn hS = Jvm.Pilot.CSkittleRowLaw_law_r7134_573cdd.hn (hnew h 10 7) from congrArg (fun x => x.2.2.1) o2, hn_new, c3]
    rfl
  · rw [hs_wR, List.length_append, show hs hS = hs (hnew h 10 7) from congrArg (fun x => x.2.2.2) o2, hs_new, c4]
    show _ = s0 + 7 * (l.length + 1)
    omega
  · have q1 : ASl (fun s => n + 13 ≤ s ∧ s < n + 13 + (l ++ [(p, k)]).length) (wR hS (n + 12) l.length (some (n + 13 + l.length))) A (n + 12) 0 l := by
      refine ASl.mono l 0 (fun j _ hj => ?_) (fun s hs => ⟨⟨hs.1, by rw [List.length_append]; have := hs.2; omega⟩, ?_⟩) c5
      · rw [hR_wR, if_neg (by omega)]
        exact congrFun (sm (n + 12) (by omega)).2.2.2.2 j
      · exact (sk_same.trans (sm s hs.2) (wR_sm hS _ _ (by omega))).same
    refine ASl.snoc l 0 q1 ⟨n + 13 + l.length, ?_, ⟨by omega, by rw [List.length_append]; show _ < n + 13 + (l.length + 1); omega⟩, ?_⟩
    · rw [hR_wR, if_pos ⟨rfl, by omega⟩]
    · exact o1
theorem Al_ls_k (w : aW A) (hn1 : 1 < n) {p : Nat} (hp : p < aN A) : ∀ (x k : Nat) (h : sk_H) (l : List (Nat × Nat)), k + x = 5 → 1 ≤ k → LSt h n A s0 l → (k = 1 ∨ sB A p (k - 1) ≠ 0) → l.length ≤ 4 * p + (k - 1) → ∃ h' l', k_Al_listStrokes_31 d (some (n + 2)) (some (n + 12)) (nI l.length) (nI p) (nI (sB A p (k - 1))) (oI (lO A (k - 1) (some p))) (nI k) h = k_Al_listStrokes_14 d (some (n + 2)) (some (n + 12)) (nI l'.length) (nI (p + 1)) h' ∧ LSt h' n A s0 l' ∧ Up (n + 12) h h' ∧ l' ++ rA (sF A) (aN A) (p + 1) 1 = l ++ rA (sF A) (aN A) p k ∧ l'.length ≤ 4 * (p + 1)
  | 0, k, h, l, hk, h1, L, hv, hl => by
    have w1 := w.1
    refine ⟨h, l, ?_, L, Up.refl h, ?_, by omega⟩
    · refine (e_Al_listStrokes_31 _ _ _ _ _ _ _ _ _).trans ?_
      refine (if_pos (show nI 4 < nI k from nI_lt (by omega) (by omega))).trans ?_
      rw [nI_1]
    · rw [show k = 5 by omega, rA_5]
  | x + 1, k, h, l, hk, h1, L, hv, hl => by
    obtain ⟨B, V, c1, c2, c3, c4, c5⟩ := id L
    obtain ⟨B1, b2, b3, b4, b5⟩ := id B
    obtain ⟨⟨a1, a2, a3, a4⟩, ⟨r8, r9, r10, r11, r12, r13, r16⟩, ⟨k3, k4, k5, k6, k7, k8, k11⟩, ⟨n3, n4, n5, n6, n7, n8, n11⟩⟩ := id B1
    have w1 := w.1
    have hs4 := sB_lt w hp (k - 1)
    have ho : ∀ y, lO A (k - 1) (some p) = some y → y < 12 := fun y hy => Nat.lt_of_lt_of_le (lO_lt w (k - 1) (some p) y (fun z hz => by cases hz; exact hp) hy) w1
    have ss := sbA_s A (k - 1) (some p) 0 (hv.imp (fun e => by omega) (fun e => e))
    rw [show k - 1 + 1 = k by omega] at ss
    have stop : sF A p k = false → (k_Al_listStrokes_31 d (some (n + 2)) (some (n + 12)) (nI l.length) (nI p) (nI (sB A p (k - 1))) (oI (lO A (k - 1) (some p))) (nI k) h = k_Al_listStrokes_14 d (some (n + 2)) (some (n + 12)) (nI l.length) (nI p + 1) h) → ∃ h' l', k_Al_listStrokes_31 d (some (n + 2)) (some (n + 12)) (nI l.length) (nI p) (nI (sB A p (k - 1))) (oI (lO A (k - 1) (some p))) (nI k) h = k_Al_listStrokes_14 d (some (n + 2)) (some (n + 12)) (nI l'.length) (nI (p + 1)) h' ∧ LSt h' n A s0 l' ∧ Up (n + 12) h h' ∧ l' ++ rA (sF A) (aN A) (p + 1) 1 = l ++ rA (sF A) (aN A) p k ∧ l'.length ≤ 4 * (p + 1) := by
      intro e1 e2
      refine ⟨h, l, by rw [e2, nI_1], L, Up.refl h, ?_, by omega⟩
      rw [rA_stop hp (x + 1) k hk h1 (fun _ => e1)]
    cases hq : lO A (k - 1) (some p) with
    | none =>
      rw [hq] at ss stop
      refine stop (decide_eq_false (fun y => y ss)) ?_
      refine (e_Al_listStrokes_31 _ _ _ _ _ _ _ _ _).trans ?_
      refine (if_neg (show ¬ nI 4 < nI k from nI_nlt (by omega) (by omega))).trans ?_
      exact if_pos rfl
    | some q =>
      have hq12 := ho q hq
      have hqN : q < aN A := lO_lt w (k - 1) (some p) q (fun z hz => by cases hz; exact hp) hq
      rw [hq] at ss stop
      have ss : sB A p k = if (sB A p (k - 1)).testBit q = true then 0 else sB A p (k - 1) ||| 1 <<< q := ss
      have bt : (nI (sB A p (k - 1)) >>> (nI q &&& 31)) &&& 1 = nI (if (sB A p (k - 1)).testBit q = true then 1 else 0) := nI_bit (by omega) (by omega)
      by_cases z : (sB A p (k - 1)).testBit q = true
      · rw [if_pos z] at ss bt
        refine stop (decide_eq_false (fun y => y ss)) ?_
        refine (e_Al_listStrokes_31 _ _ _ _ _ _ _ _ _).trans ?_
        refine (if_neg (show ¬ nI 4 < nI k from nI_nlt (by omega) (by omega))).trans ?_
        refine (if_neg (show ¬ nI q = nM by rw [q_m1 (by omega)]; exact not_false)).trans ?_
        exact if_pos (show ¬ (nI (sB A p (k - 1)) >>> (nI q &&& 31)) &&& 1 = 0 by rw [bt]; decide)
      · rw [if_neg z] at ss bt
        have nz : sB A p k ≠ 0 := by rw [ss]; exact or_ne _ _
        have ah : aAh A p k = aNx A q := by unfold aAh; rw [hq]; rfl
        have eK : hK (hnew h 10 7) (n + 13 + l.length) = 10 := by rw [hK_new, if_pos c3.symm]
        have Lw : Lw1 (hnew h 10 7) := by
          have u := new_sm h 10 7 (c := 1) (by omega)
          exact ⟨by rw [u.1]; exact V.1, by rw [u.2.1]; exact V.2.1, by rw [u.2.2.2.1]; exact V.2.2⟩
        obtain ⟨hS, i1, i2, i3, i4, i5⟩ := Sk_init_ok (d := d) w hp h1 (by omega) eK (by omega) Lw
        obtain ⟨L', U'⟩ := L.add w hn1 hp h1 (by omega) ⟨_, rfl, i2, i3, i4, i5⟩
        have nxq : lO A k (some p) = aNx A q := by
          have : ∀ (m : Nat) (o : Option Nat), lO A (m + 1) o = (lO A m o).bind (aNx A) := by
            intro m
            induction m with
            | zero => intro o; rfl
            | succ m ih => intro o; exact ih (o.bind (aNx A))
          rw [show k = k - 1 + 1 by omega, this, hq]
          rfl
        obtain ⟨h', l', g1, g2, g3, g4, g5⟩ := Al_ls_k w hn1 hp x (k + 1) _ (l ++ [(p, k)]) (by omega) (by omega) L' (Or.inr (by rw [Nat.add_sub_cancel]; exact nz)) (by rw [List.length_append]; show l.length + 1 ≤ _; omega)
        refine ⟨h', l', ?_, g2, U'.trans g3, ?_, g5⟩
        · refine Eq.trans ?_ g1
          have sm : ∀ a, a < n + 13 + l.length → sk_same h (hnew h 10 7) a := fun a ha => new_sm h 10 7 (by omega)
          have B' := B.up (fun a ha => sm a (by omega) : Up (n + 12) h (hnew h 10 7))
          obtain ⟨B1', b2', b3', b4', b5'⟩ := id B'
          obtain ⟨⟨a1', a2', a3', a4'⟩, ⟨r8', r9', r10', r11', r12', r13', r16'⟩, ⟨k3', k4', k5', k6', k7', k8', k11'⟩, ⟨n3', n4', n5', n6', n7', n8', n11'⟩⟩ := id B1'
          have t3 : hI (hnew h 10 7) (n + 3) (nI p).toNatClampNeg = nI (aRow A p) := by rw [q_cl (by omega)]; exact b3' p hp
          have t7 : hI (hnew h 10 7) (n + 7) (nI p).toNatClampNeg = oI (aPv A p) := by rw [q_cl (by omega)]; exact (b5' p hp).1
          have t8 : hI (hnew h 10 7) (n + 8) (nI q).toNatClampNeg = oI (aNx A q) := by rw [q_cl (by omega)]; exact (b5' q hqN).2
          have eN : hn h = n + 13 + l.length := c3
          have kS : hK hS = hK (hnew h 10 7) := congrArg (fun x => x.1) i3
          have nS : Jvm.Pilot.CSkittleRowLaw_law_r7134_573cdd.hN hS = Jvm.Pilot.CSkittleRowLaw_law_r7134_573cdd.hN (hnew h 10 7) := congrArg (fun x => x.2.1) i3
          have cK : hK hS (n + 12) = 108 := by rw [kS]; exact (sm (n + 12) (by omega)).1.trans c1
          have cN : Jvm.Pilot.CSkittleRowLaw_law_r7134_573cdd.hN hS (n + 12) = 4 * aN A := by rw [nS]; exact (sm (n + 12) (by omega)).2.1.trans c2
          refine (e_Al_listStrokes_31 _ _ _ _ _ _ _ _ _).trans ?_
          refine (if_neg (show ¬ nI 4 < nI k from nI_nlt (by omega) (by omega))).trans ?_
          refine (if_neg (show ¬ nI q = nM by rw [q_m1 (by omega)]; exact not_false)).trans ?_
          refine (if_neg (fun y => y (show (nI (sB A p (k - 1)) >>> (nI q &&& 31)) &&& 1 = 0 by rw [bt]; rfl))).trans ?_
          refine (if_pos a4').trans ?_
          refine (bnd r8' _).trans ?_
          refine (if_pos ⟨Or.inl k3', by rw [n3']; exact vp_in_nI (by omega) (by omega)⟩).trans ?_
          refine (if_pos a4').trans ?_
          refine (bnd r12' _).trans ?_
          refine (if_pos ⟨Or.inl k7', by rw [n7']; exact vp_in_nI (by omega) (by omega)⟩).trans ?_
          refine (bnd (show c_Al_bitOf d (hI (hnew h 10 7) (n + 7) (nI p).toNatClampNeg) (hnew h 10 7) = some (hnew h 10 7, nI (bO (aPv A p))) by rw [t7]; exact bitOf_ok (aPv_12 w hp)) _).trans ?_
          refine (if_pos a4').trans ?_
          refine (bnd r13' _).trans ?_
          refine (if_pos ⟨Or.inl k8', show sk_in (nI q) (hN (hnew h 10 7) (n + 8)) by rw [n8']; exact vp_in_nI (by omega) (by omega)⟩).trans ?_
          refine (bnd (show c_Al_bitOf d (hI (hnew h 10 7) (n + 8) (nI q).toNatClampNeg) (hnew h 10 7) = some (hnew h 10 7, nI (bO (aNx A q))) by rw [t8]; exact bitOf_ok (fun y hy => Nat.lt_of_lt_of_le (aNx_lt w hqN hy) w1)) _).trans ?_
          refine (if_pos (show hK (hnew h 10 7) (hn h) = 10 by rw [eN]; exact eK)).trans ?_
          have ei : c_Sk_init d (some (hn h)) (nI p) (nI k) (hI (hnew h 10 7) (n + 3) (nI p).toNatClampNeg) (nI (sB A p (k - 1)) ||| ((1 : Int32) <<< (nI q &&& 31))) (nI (bO (aPv A p))) (nI (bO (aNx A q))) (hnew h 10 7) = some hS := by
            rw [t3, nI_shl (by omega), nI_or, ← ss, eN, ← ah]
            exact i1
          refine (bnd ei _).trans ?_
          refine (bnd rfl _).trans ?_
          refine (if_pos ⟨by rw [cK]; rfl, by rw [cN]; exact vp_in_nI (by omega) (by omega), Or.inr (by rw [cK]; show hK hS (hn h) = 10; rw [kS, eN]; exact eK)⟩).trans ?_
          rw [q_cl (show l.length < 2 ^ 31 by omega)]
          have a4S : hK hS (n + 2) = 2 := by rw [kS]; exact a4'
          have r13S : hR hS (n + 2) 13 = some (n + 8) := by rw [i4]; exact r13'
          refine (if_pos a4S).trans ?_
          refine (bnd (show hR (wR hS (n + 12) l.length (some (hn h))) (n + 2) 13 = some (n + 8) by rw [hR_wR, if_neg (by omega)]; exact r13S) _).trans ?_
          refine (if_pos ⟨Or.inl (show hK hS (n + 8) = 101 by rw [kS]; exact k8'), show sk_in (nI q) (hN hS (n + 8)) by rw [nS, n8']; exact vp_in_nI (by omega) (by omega)⟩).trans ?_
          have t8S : hI (wR hS (n + 12) l.length (some (hn h))) (n + 8) (nI q).toNatClampNeg = oI (aNx A q) := by
            rw [hI_wR, (i5 (n + 8) (by omega)).1]
            exact t8
          rw [show oI (some q) = nI q from rfl, t8S, nI_1, nI_1, nI_shl (by omega), nI_or, ← ss, Nat.add_sub_cancel, nxq, eN, List.length_append]
          rfl
        · rw [g4, List.append_assoc, rA_s _ hp h1 (by omega), if_pos (show sF A p k = true from decide_eq_true nz)]
          rfl
theorem Al_ls_p (w : aW A) (hn1 : 1 < n) : ∀ (x p : Nat) (h : sk_H) (l : List (Nat × Nat)), p + x = aN A → LSt h n A s0 l → l.length ≤ 4 * p → l ++ rA (sF A) (aN A) p 1 = sL A → ∃ h', k_Al_listStrokes_14 d (some (n + 2)) (some (n + 12)) (nI l.length) (nI p) h = k_Al_listStrokes_14 d (some (n + 2)) (some (n + 12)) (nI (sL A).length) (nI (aN A)) h' ∧ LSt h' n A s0 (sL A) ∧ Up (n + 12) h h' ∧ (sL A).length ≤ 48
  | 0, p, h, l, hx, L, hl, e => by
    have w1 := w.1
    have hp : p = aN A := by omega
    rw [hp, rA_n, List.append_nil] at e
    rw [← e, hp]
    exact ⟨h, rfl, L, Up.refl h, by omega⟩
  | x + 1, p, h, l, hx, L, hl, e => by
    have w1 := w.1
    have hp : p < aN A := by omega
    obtain ⟨B1, b2, b3, b4, b5⟩ := id L.1
    obtain ⟨⟨a1, a2, a3, a4⟩, -⟩ := id B1
    obtain ⟨h1, l1, g1, g2, g3, g4, g5⟩ := Al_ls_k (d := d) w hn1 hp 4 1 h l rfl (Nat.le_refl _) L (Or.inl rfl) (by omega)
    obtain ⟨h', f1, f2, f3, f4⟩ := Al_ls_p w hn1 x (p + 1) h1 l1 (by omega) g2 g5 (by rw [g4]; exact e)
    refine ⟨h', ?_, f2, g3.trans f3, f4⟩
    refine Eq.trans ?_ f1
    refine Eq.trans ?_ g1
    refine (e_Al_listStrokes_14 _ _ _ _ _ _).trans ?_
    refine (if_pos a4).trans ?_
    refine (if_neg (by rw [b2]; exact nI_ge hp (by omega))).trans ?_
    rfl
end SkStrokes
