/-! ===== the class's lists of strokes by their hits ===== -/
def hF (H : Nat) (x : Nat × Nat) : Bool := H.testBit (x.2 - 1)
section SkChosen
variable {F G : Nat → Prop} {h h' h1 h2 : sk_H} {n d g r m H N s0 : Nat} {A : AD}
theorem Al_ch_5 (kg : hK h g = 108) (ng : hN h g = N) (hmN : m ≤ N) (hN2 : N < 60000) (hH : H < 16) : ∀ (l : List (Nat × Nat)) (i c : Nat), ASl F h A g i l → i + l.length = m → c ≤ i → (∀ x ∈ l, 1 ≤ x.2 ∧ x.2 ≤ 4) → k_Al_chosen_5 d (some g) (nI m) (nI H) (nI c) (nI i) h = k_Al_chosen_5 d (some g) (nI m) (nI H) (nI (c + (l.filter (hF H)).length)) (nI m) h
  | [], i, c, a, hi, hc, hx => by
    rw [show i = m from hi]
    rfl
  | x :: l, i, c, ⟨⟨s, q1, q2, q3⟩, q4⟩, hi, hc, hx => by
    rw [List.length_cons] at hi
    have hx1 := hx x (List.mem_cons_self ..)
    have hh := hasH_ok (d := d) (h := h) hH hx1.1 hx1.2
    rw [← q3.2.2.1] at hh
    have pre : ∀ o, (if bi (H.testBit (x.2 - 1)) = 0 then k_Al_chosen_5 d (some g) (nI m) (nI H) (nI c + (0 : Int32)) (nI i + 1) h else k_Al_chosen_5 d (some g) (nI m) (nI H) (nI c + (1 : Int32)) (nI i + 1) h) = o → k_Al_chosen_5 d (some g) (nI m) (nI H) (nI c) (nI i) h = o := by
      intro o ho
      rw [← ho]
      refine (e_Al_chosen_5 _ _ _ _ _ _ _).trans ?_
      refine (if_neg (nI_ge (by omega) (by omega))).trans ?_
      refine (bnd rfl _).trans ?_
      refine (if_pos ⟨by rw [kg]; rfl, by rw [ng]; exact vp_in_nI (by omega) (by omega)⟩).trans ?_
      rw [q_cl (show i < 2 ^ 31 by omega)]
      refine (bnd q1 _).trans ?_
      refine (if_pos q3.1).trans ?_
      exact (bnd hh _).trans rfl
    by_cases z : H.testBit (x.2 - 1) = true
    · have ih := Al_ch_5 kg ng hmN hN2 hH l (i + 1) (c + 1) q4 (by omega) (by omega) (fun y hy => hx y (List.mem_cons_of_mem _ hy))
      rw [List.filter_cons_of_pos (p := hF H) (a := x) z, List.length_cons, show c + ((l.filter (hF H)).length + 1) = c + 1 + (l.filter (hF H)).length by omega]
      refine (pre _ ?_).trans ih
      rw [z]
      refine (if_neg nb1).trans ?_
      rw [nI_1, nI_1]
    · have ih := Al_ch_5 kg ng hmN hN2 hH l (i + 1) c q4 (by omega) (by omega) (fun y hy => hx y (List.mem_cons_of_mem _ hy))
      rw [List.filter_cons_of_neg (p := hF H) (a := x) z]
      refine (pre _ ?_).trans ih
      rw [show H.testBit (x.2 - 1) = false by simpa using z]
      refine (if_pos rfl).trans ?_
      rw [nI_1, show nI c + (0 : Int32) = nI c from (nI_add c 0).trans (by rw [Nat.add_zero])]
theorem Al_ch_51 (ng : hN h g = N) (hmN : m ≤ N) (hN2 : N < 60000) (hH : H < 16) (hrg : r ≠ g) (hF' : ∀ s, F s → s ≠ r) : ∀ (l : List (Nat × Nat)) (i : Nat) (ll : List (Nat × Nat)) (h1 : sk_H), hK h1 g = 108 → hN h1 g = N → hK h1 r = 108 → hN h1 r = ll.length + (l.filter (hF H)).length → ASl F h1 A g i l → ASl F h1 A r 0 ll → i + l.length = m → ll.length ≤ i → (∀ x ∈ l, 1 ≤ x.2 ∧ x.2 ≤ 4) → ∃ h', k_Al_chosen_51 d (some g) (nI m) (nI H) (some r) (nI ll.length) (nI i) h1 = some (h', some r) ∧ ASl F h' A r 0 (ll ++ l.filter (hF H)) ∧ h'.1 = h1.1 ∧ ∀ a, a ≠ r → sk_same h1 h' a
  | [], i, ll, h1, kg, ng1, kr, nr, a, b, hi, hl, hx => by
    refine ⟨h1, ?_, by rw [List.filter_nil, List.append_nil]; exact b, rfl, fun a _ => sk_same.rf h1 a⟩
    refine (e_Al_chosen_51 _ _ _ _ _ _ _ _).trans ?_
    exact if_pos (nI_le (by simp at hi; omega) (by omega))
  | x :: l, i, ll, h1, kg, ng1, kr, nr, ⟨⟨s, q1, q2, q3⟩, q4⟩, b, hi, hl, hx => by
    rw [List.length_cons] at hi
    have hx1 := hx x (List.mem_cons_self ..)
    have hh := hasH_ok (d := d) (h := h1) hH hx1.1 hx1.2
    rw [← q3.2.2.1] at hh
    have q1' : hR h1 g (nI i).toNatClampNeg = some s := by rw [q_cl (by omega)]; exact q1
    have pre : ∀ o, (if bi (H.testBit (x.2 - 1)) = 0 then k_Al_chosen_51 d (some g) (nI m) (nI H) (some r) (nI ll.length) (nI i + 1) h1 else Option.bind (some g) fun a4 => if a_ref (hK h1 a4) = true ∧ sk_in (nI i) (hN h1 a4) then Option.bind (some r) fun a5 => if a_ref (hK h1 a5) = true ∧ sk_in (nI ll.length) (hN h1 a5) ∧ ((hR h1 a4 (nI i).toNatClampNeg) = none ∨ hK h1 ((hR h1 a4 (nI i).toNatClampNeg).getD 0) = a_of (hK h1 a5)) then k_Al_chosen_51 d (some g) (nI m) (nI H) (some r) (nI ll.length + 1) (nI i + 1) (wR h1 a5 (nI ll.length).toNatClampNeg (hR h1 a4 (nI i).toNatClampNeg)) else none else none) = o → k_Al_chosen_51 d (some g) (nI m) (nI H) (some r) (nI ll.length) (nI i) h1 = o := by
      intro o ho
      rw [← ho]
      refine (e_Al_chosen_51 _ _ _ _ _ _ _ _).trans ?_
      refine (if_neg (nI_ge (by omega) (by omega))).trans ?_
      refine (bnd rfl _).trans ?_
      refine (if_pos ⟨by rw [kg]; rfl, by rw [ng1]; exact vp_in_nI (by omega) (by omega)⟩).trans ?_
      refine (bnd q1' _).trans ?_
      refine (if_pos q3.1).trans ?_
      exact (bnd hh _).trans rfl
    by_cases z : H.testBit (x.2 - 1) = true
    · rw [List.filter_cons_of_pos (p := hF H) (a := x) z] at nr ⊢
      rw [List.length_cons] at nr
      have lf : (l.filter (hF H)).length ≤ l.length := List.length_filter_le ..
      have sm : ∀ a, a ≠ r → sk_same h1 (wR h1 r ll.length (some s)) a := fun a ha => wR_sm h1 _ _ ha
      obtain ⟨h', g1, g2, g3, g4⟩ := Al_ch_51 ng hmN hN2 hH hrg hF' l (i + 1) (ll ++ [x]) (wR h1 r ll.length (some s)) kg ng1 kr (by rw [List.length_append]; show Jvm.Pilot.CSkittleRowLaw_law_r7134_573cdd.hN h1 r = ll.length + 1 + _; omega) (ASl.mono l (i + 1) (fun j _ _ => congrFun (sm g (fun e => hrg e.symm)).2.2.2.2 j) (fun s' hs' => ⟨hs', (sm s' (hF' s' hs')).same⟩) q4) (ASl.snoc ll 0 (ASl.mono ll 0 (fun j _ hj => by rw [hR_wR, if_neg (by omega)]) (fun s' hs' => ⟨hs', (sm s' (hF' s' hs')).same⟩) b) ⟨s, by rw [hR_wR, if_pos ⟨rfl, by omega⟩], q2, q3.same (sm s (hF' s q2)).same⟩) (by omega) (by rw [List.length_append]; show ll.length + 1 ≤ _; omega) (fun y hy => hx y (List.mem_cons_of_mem _ hy))
      refine ⟨h', pre _ ?_, by rw [List.append_assoc] at g2; exact g2, g3, fun a ha => sk_same.trans (sm a ha) (g4 a ha)⟩
      rw [z]
      refine (if_neg nb1).trans ?_
      refine (bnd rfl _).trans ?_
      refine (if_pos ⟨by rw [kg]; rfl, by rw [ng1]; exact vp_in_nI (by omega) (by omega)⟩).trans ?_
      refine (bnd rfl _).trans ?_
      refine (if_pos ⟨by rw [kr]; rfl, by rw [nr]; exact vp_in_nI (by omega) (by omega), Or.inr (by rw [q1', kr]; exact q3.1)⟩).trans ?_
      rw [q1', nI_1, nI_1, q_cl (show ll.length < 2 ^ 31 by omega)]
      rw [List.length_append] at g1
      exact g1
    · rw [List.filter_cons_of_neg (p := hF H) (a := x) z] at nr ⊢
      obtain ⟨h', g1, g2, g3, g4⟩ := Al_ch_51 ng hmN hN2 hH hrg hF' l (i + 1) ll h1 kg ng1 kr nr q4 b (by omega) (by omega) (fun y hy => hx y (List.mem_cons_of_mem _ hy))
      refine ⟨h', pre _ ?_, g2, g3, g4⟩
      rw [show H.testBit (x.2 - 1) = false by simpa using z]
      refine (if_pos rfl).trans ?_
      rw [nI_1]
      exact g1
theorem Al_chosen_ok (kg : hK h g = 108) (ng : hN h g = N) (hN2 : N < 60000) (hH : H < 16) (hg : g < hn h) (hF1 : ∀ s, F s → s < hn h) {l : List (Nat × Nat)} (hl : l.length ≤ N) (a : ASl F h A g 0 l) (hx : ∀ x ∈ l, 1 ≤ x.2 ∧ x.2 ≤ 4) : ∃ h', c_Al_chosen d (some g) (nI l.length) (nI H) h = some (h', some (hn h)) ∧ hn h' = hn h + 1 ∧ hs h' = hs h + (l.filter (hF H)).length ∧ Up (hn h) h h' ∧ hK h' (hn h) = 108 ∧ AS F h' A (hn h) 0 (l.filter (hF H)) := by
  have hc : (l.filter (hF H)).length ≤ l.length := List.length_filter_le ..
  have sm : ∀ c, c < hn h → sk_same h (hnew h 108 (l.filter (hF H)).length) c := fun c hc => new_sm h _ _ hc
  obtain ⟨h', g1, g2, g3, g4⟩ := Al_ch_51 (d := d) (h := h) (F := F) (A := A) (g := g) (r := hn h) (m := l.length) (N := N) ng hl hN2 hH (by omega) (fun s hs => by have := hF1 s hs; omega) l 0 [] (hnew h 108 (l.filter (hF H)).length) (by rw [(sm g hg).1]; exact kg) (by rw [(sm g hg).2.1]; exact ng) (by rw [hK_new, if_pos rfl]) (by rw [hN_new, if_pos rfl]; simp) (ASl.mono l 0 (fun j _ _ => congrFun (sm g hg).2.2.2.2 j) (fun s hs => ⟨hs, (sm s (hF1 s hs)).same⟩) a) trivial (by omega) (Nat.zero_le _) hx
  have eK : hK h' = hK (hnew h 108 (l.filter (hF H)).length) := congrArg (fun x => x.1) g3
  have eN : Jvm.Pilot.CSkittleRowLaw_law_r7134_573cdd.hN h' = Jvm.Pilot.CSkittleRowLaw_law_r7134_573cdd.hN (hnew h 108 (l.filter (hF H)).length) := congrArg (fun x => x.2.1) g3
  have en : Jvm.Pilot.CSkittleRowLaw_law_r7134_573cdd.hn h' = Jvm.Pilot.CSkittleRowLaw_law_r7134_573cdd.hn (hnew h 108 (l.filter (hF H)).length) := congrArg (fun x => x.2.2.1) g3
  have es : hs h' = hs (hnew h 108 (l.filter (hF H)).length) := congrArg (fun x => x.2.2.2) g3
  refine ⟨h', ?_, by rw [en, hn_new], by rw [es, hs_new], fun c hc => sk_same.trans (sm c hc) (g4 c (by omega)), by rw [eK, hK_new, if_pos rfl], ?_⟩
  · refine (e_Al_chosen _ _ _ _ _).trans ?_
    refine (Al_ch_5 kg ng hl hN2 hH l 0 0 a (by omega) (Nat.le_refl _) hx).trans ?_
    rw [Nat.zero_add]
    refine (e_Al_chosen_5 _ _ _ _ _ _ _).trans ?_
    refine (if_pos (nI_le (Nat.le_refl _) (by omega))).trans ?_
    refine (if_pos ⟨nI_pos (by omega), by rw [q_cl (by omega)]; omega⟩).trans ?_
    rw [q_cl (show (l.filter (hF H)).length < 2 ^ 31 by omega)]
    exact g1
  · refine ASl.as _ 0 g2 ?_
    rw [eN, hN_new, if_pos rfl]
    simp
theorem sH_f (A : AD) (H : Nat) : sH A H = (sL A).filter (hF H) := rA_filter _ _ (fun p k => by rw [Bool.and_comm]; rfl) _ _ _
theorem sL_15 (A : AD) : (sL A).filter (hF 15) = sL A := by
  refine List.filter_eq_self.mpr (fun x hx => ?_)
  have := sL_mem hx
  unfold hF
  rcases (show x.2 = 1 ∨ x.2 = 2 ∨ x.2 = 3 ∨ x.2 = 4 by omega) with e | e | e | e <;> rw [e] <;> decide
theorem Al_list_ok (w : aW A) (hn1 : 1 < n) (B : SB h n A (aN A)) (L : Lw1 h) (en : hn h = n + 12) (hH : H < 16) (eH : hI h (n + 2) 4 = nI H) : ∃ h', c_Al_listStrokes d (some (n + 2)) h = some h' ∧ (sL A).length ≤ 48 ∧ hn h' = n + 15 + (sL A).length ∧ hs h' ≤ hs h + 480 ∧ (∀ a, a < n + 12 → a ≠ n + 2 → sk_same h h' a) ∧ (hK h' (n + 2) = hK h (n + 2) ∧ hN h' (n + 2) = hN h (n + 2) ∧ hI h' (n + 2) = hI h (n + 2) ∧ hJ h' (n + 2) = hJ h (n + 2)) ∧ (∀ i, hR h' (n + 2) i = if i = 14 then some (n + 14 + (sL A).length) else if i = 15 then some (n + 13 + (sL A).length) else hR h (n + 2) i) ∧ (hK h' (n + 14 + (sL A).length) = 108 ∧ AS (fun s => n + 13 ≤ s ∧ s < n + 13 + (sL A).length) h' A (n + 14 + (sL A).length) 0 (sH A H)) ∧ (hK h' (n + 13 + (sL A).length) = 108 ∧ AS (fun s => n + 13 ≤ s ∧ s < n + 13 + (sL A).length) h' A (n + 13 + (sL A).length) 0 (sL A)) := by
  obtain ⟨B1, b2, b3, b4, b5⟩ := id B
  obtain ⟨⟨a1, a2, a3, a4⟩, -⟩ := id B1
  have w1 := w.1
  have sm0 : Up (n + 12) h (hnew h 108 (4 * aN A)) := fun c hc => new_sm h _ _ (by omega)
  have L0 : LSt (hnew h 108 (4 * aN A)) n A (hs h + 4 * aN A) [] := by
    have u := sm0 1 (by omega)
    refine ⟨B.up sm0, ⟨by rw [u.1]; exact L.1, by rw [u.2.1]; exact L.2.1, by rw [u.2.2.2.1]; exact L.2.2⟩, by rw [hK_new, if_pos en.symm], by rw [hN_new, if_pos en.symm], by rw [hn_new, en]; rfl, by rw [hs_new]; rfl, trivial⟩
  obtain ⟨h1, g1, g2, g3, g4⟩ := Al_ls_p (d := d) w hn1 (aN A) 0 (hnew h 108 (4 * aN A)) [] (by omega) L0 (Nat.zero_le _) rfl
  obtain ⟨B', L', c1, c2, c3, c4, c5⟩ := id g2
  have hx : ∀ x ∈ sL A, 1 ≤ x.2 ∧ x.2 ≤ 4 := fun x hx => ⟨(sL_mem hx).2.1, (sL_mem hx).2.2.1⟩
  have hlN : (sL A).length ≤ 4 * aN A := by
    by_cases z : aN A = 0
    · have : sL A = [] := by
        unfold sL
        rw [z]
        exact rA_n _ _
      rw [this]; exact Nat.zero_le _
    · have : ∀ (c p k : Nat), (rl (sF A) c p k).length ≤ c := by
        intro c
        induction c with
        | zero => intro p k; exact Nat.le_refl _
        | succ c ih =>
          intro p k
          unfold rl
          have e1 := ih p (k + 1)
          have e2 := ih (p + 1) 1
          by_cases y : sF A p k = true
          · rw [if_pos y]
            by_cases y2 : k < 4
            · rw [if_pos y2, List.length_cons]; omega
            · rw [if_neg y2, List.length_cons]; omega
          · rw [if_neg y]
            by_cases y2 : k < 4
            · rw [if_pos y2]; omega
            · rw [if_neg y2]; omega
      have t := this (4 * (aN A - 0) + 1 - 1) 0 1
      have e : sL A = rl (sF A) (4 * (aN A - 0) + 1 - 1) 0 1 := by
        show rA (sF A) (aN A) 0 1 = _
        unfold rA
        rw [if_pos (by omega)]
      rw [e]
      omega
  obtain ⟨h2, f1, f2, f3, f4, f5, f6⟩ := Al_chosen_ok (d := d) (h := h1) (g := n + 12) (H := 15) (N := 4 * aN A) c1 c2 (by omega) (by omega) (by omega) (fun s hs => by have := hs.2; omega) hlN c5 hx
  rw [sL_15] at f3 f6
  have c3' : hn h1 = n + 13 + (sL A).length := c3
  rw [c3'] at f1 f2 f4 f5 f6
  have u2 := (f4.le (show n + 12 ≤ n + 13 + (sL A).length by omega))
  have a4_1 : hK h1 (n + 2) = 2 := B'.1.1.2.2.2
  have a4_2 : hK h2 (n + 2) = 2 := by rw [(f4 (n + 2) (by omega)).1]; exact a4_1
  -- the second list
  have sm3 : ∀ a, a ≠ n + 2 → sk_same h2 (wR h2 (n + 2) 15 (some (n + 13 + (sL A).length))) a := fun a ha => wR_sm h2 _ _ ha
  obtain ⟨h4, k1, k2, k3, k4, k5, k6⟩ := Al_chosen_ok (d := d) (h := wR h2 (n + 2) 15 (some (n + 13 + (sL A).length))) (g := n + 12) (H := H) (N := 4 * aN A) (F := fun s => n + 13 ≤ s ∧ s < n + 13 + (sL A).length) (A := A) (l := sL A) (by rw [(sm3 (n + 12) (by omega)).1, (f4 (n + 12) (by omega)).1]; exact c1) (by rw [(sm3 (n + 12) (by omega)).2.1, (f4 (n + 12) (by omega)).2.1]; exact c2) (by omega) hH (by rw [hn_wR, f2]; omega) (fun s hs => by rw [hn_wR, f2]; have := hs.2; omega) hlN (ASl.mono (sL A) 0 (fun j _ _ => by rw [(sm3 (n + 12) (by omega)).2.2.2.2, (f4 (n + 12) (by omega)).2.2.2.2]) (fun s hs => ⟨hs, (sk_same.trans (f4 s hs.2) (sm3 s (by have := hs.1; omega))).same⟩) c5) hx
  rw [← sH_f] at k3 k6
  have ehn : hn (wR h2 (n + 2) 15 (some (n + 13 + (sL A).length))) = n + 14 + (sL A).length := by rw [hn_wR, f2]; omega
  rw [ehn] at k1 k2 k4 k5 k6
  have hlH : (sH A H).length ≤ (sL A).length := by rw [sH_f]; exact List.length_filter_le ..
  have sm5 : ∀ a, a ≠ n + 2 → sk_same h4 (wR h4 (n + 2) 14 (some (n + 14 + (sL A).length))) a := fun a ha => wR_sm h4 _ _ ha
  have all : ∀ a, a < n + 12 → a ≠ n + 2 → sk_same h (wR h4 (n + 2) 14 (some (n + 14 + (sL A).length))) a := fun a ha hne => sk_same.trans (sk_same.trans (sk_same.trans (sk_same.trans (sk_same.trans (sm0 a ha) (g3 a ha)) (f4 a (by omega))) (sm3 a hne)) (k4 a (by omega))) (sm5 a hne)
  have v4 := k4 (n + 2) (by omega)
  have v2 := f4 (n + 2) (by omega)
  have v1 := g3 (n + 2) (by omega)
  have v0 := sm0 (n + 2) (by omega)
  have iH : hI (wR h2 (n + 2) 15 (some (n + 13 + (sL A).length))) (n + 2) 4 = nI H := by
    rw [hI_wR, v2.2.2.1, v1.2.2.1, v0.2.2.1]
    exact eH
  refine ⟨wR h4 (n + 2) 14 (some (n + 14 + (sL A).length)), ?_, g4, by rw [hn_wR, k2]; omega, ?_, all, ⟨?_, ?_, ?_, ?_⟩, fun i => ?_, ⟨?_, ?_⟩, ?_, ?_⟩
  · refine (e_Al_listStrokes _ _ _).trans ?_
    refine (if_pos a4).trans ?_
    have e4 : hI h (n + 2) 2 * (4 : Int32) = nI (4 * aN A) := by rw [b2, show (4 : Int32) = nI 4 from rfl, pk_mul, Nat.mul_comm]
    rw [e4, q_cl (show 4 * aN A < 2 ^ 31 by omega)]
    refine (if_pos ⟨nI_pos (by omega), by omega⟩).trans ?_
    show k_Al_listStrokes_14 d (some (n + 2)) (some (hn h)) (nI ([] : List (Nat × Nat)).length) (nI 0) (hnew h 108 (4 * aN A)) = _
    rw [en]
    refine g1.trans ?_
    refine (e_Al_listStrokes_14 _ _ _ _ _ _).trans ?_
    refine (if_pos a4_1).trans ?_
    refine (if_pos (by rw [B'.2.1]; exact nI_le (Nat.le_refl _) (by omega))).trans ?_
    refine (bnd f1 _).trans ?_
    refine (if_pos a4_2).trans ?_
    refine (if_pos a4_2).trans ?_
    refine (bnd (show c_Al_chosen d (some (n + 12)) (nI (sL A).length) (hI (wR h2 (n + 2) 15 (some (n + 13 + (sL A).length))) (n + 2) 4) (wR h2 (n + 2) 15 (some (n + 13 + (sL A).length))) = some (h4, some (n + 14 + (sL A).length)) by rw [iH]; exact k1) _).trans ?_
    exact (if_pos (show hK h4 (n + 2) = 2 by rw [v4.1]; exact a4_2)).trans rfl
  · rw [hs_wR, k3, hs_wR, f3, c4]
    omega
  · rw [hK_wR, v4.1, hK_wR, v2.1, v1.1, v0.1]
  · rw [hN_wR, v4.2.1, hN_wR, v2.2.1, v1.2.1, v0.2.1]
  · rw [hI_wR, v4.2.2.1, hI_wR, v2.2.2.1, v1.2.2.1, v0.2.2.1]
  · rw [hJ_wR, v4.2.2.2.1, hJ_wR, v2.2.2.2.1, v1.2.2.2.1, v0.2.2.2.1]
  · rw [hR_wR]
    by_cases z : i = 14
    · rw [if_pos ⟨rfl, z⟩, if_pos z]
    · rw [if_neg (fun y => z y.2), if_neg z, v4.2.2.2.2, hR_wR]
      by_cases z5 : i = 15
      · rw [if_pos ⟨rfl, z5⟩, if_pos z5]
      · rw [if_neg (fun y => z5 y.2), if_neg z5, v2.2.2.2.2, v1.2.2.2.2, v0.2.2.2.2]
  · exact k5
  · exact AS.same (fun s hs => ⟨hs, (sm5 s (by have := hs.1; omega)).same⟩) rfl (funext fun i => by rw [hR_wR, if_neg (by omega)]) _ _ k6
  · rw [hK_wR, (k4 (n + 13 + (sL A).length) (by omega)).1, hK_wR]
    exact f5
  · refine AS.same (F := fun s => n + 13 ≤ s ∧ s < n + 13 + (sL A).length) (h := h2) (fun s hs => ⟨hs, ?_⟩) ?_ ?_ _ _ f6
    · have := hs.1
      have := hs.2
      exact (sk_same.trans (sk_same.trans (sm3 s (by omega)) (k4 s (by omega))) (sm5 s (by omega))).same
    · have q := sk_same.trans (sk_same.trans (sm3 (n + 13 + (sL A).length) (by omega)) (k4 (n + 13 + (sL A).length) (by omega))) (sm5 (n + 13 + (sL A).length) (by omega))
      exact q.2.1
    · have q := sk_same.trans (sk_same.trans (sm3 (n + 13 + (sL A).length) (by omega)) (k4 (n + 13 + (sL A).length) (by omega))) (sm5 (n + 13 + (sL A).length) (by omega))
      exact q.2.2.2.2
end SkChosen
