/-! ===== the reference's alley() ===== -/
def PMC (a i : Nat) : Bool := (a == 52 && (i == 1 || decide (8 ≤ i ∧ i ≤ 14))) || a == 55 || a == 58
def PMD (a i : Nat) : Bool := (a == 52 && (i == 1 || i == 23 || i == 25 || decide (8 ≤ i ∧ i ≤ 14))) || a == 55 || a == 58 || a == 62
section SkMtold
variable {h h' h1 h2 : sk_H} {t : Nat → Nat} {T n d : Nat} {S : PS}
theorem PMC_D {a i : Nat} (hP : PMD a i = false) : PMC a i = false := by
  unfold PMD at hP
  unfold PMC
  simp only [Bool.or_eq_false_iff, Bool.and_eq_false_imp] at hP ⊢
  exact ⟨⟨fun e => ⟨(hP.1.1.1 e).1.1.1, (hP.1.1.1 e).2⟩, hP.1.1.2⟩, hP.1.2⟩
theorem PMB_C {a i : Nat} (hP : PMC a i = false) : PMB a i = false := by
  unfold PMC at hP
  unfold PMB PMA
  simp only [Bool.or_eq_false_iff, Bool.and_eq_false_imp] at hP ⊢
  exact ⟨⟨fun e => (hP.1.1 e).2, hP.2⟩, fun e => (hP.1.1 e).1⟩
theorem P58_C {a i : Nat} (hP : PMC a i = false) : P58a a i = false := by
  unfold PMC at hP
  simp only [Bool.or_eq_false_iff] at hP
  exact hP.2
theorem P62_D {a i : Nat} (hP : PMD a i = false) : P62a a i = false := by
  unfold PMD at hP
  simp only [Bool.or_eq_false_iff] at hP
  exact hP.2
theorem M_al_8 : ∀ (x i : Nat) (h : sk_H), i + x = 24 → MS 52 h → (∀ j, j < i → hI h 58 j = 0) → ∃ h', k_M_alley_8 d (some 52) (nI i) h = k_M_alley_8 d (some 52) (nI 24) h' ∧ Iq P58a h h' ∧ ∀ j, j < 24 → hI h' 58 j = 0
  | 0, i, h, hx, M, z => by
    rw [show i = 24 by omega] at z ⊢
    exact ⟨h, rfl, Iq.refl h, z⟩
  | x + 1, i, h, hx, M, z => by
    obtain ⟨h', g1, g2, g3⟩ := M_al_8 x (i + 1) (wI h 58 i 0) (by omega) M (fun j hj => by
      by_cases y : j = i
      · rw [y, hI_se]
      · rw [hI_ni y]; exact z j (by omega))
    refine ⟨h', Eq.trans ?_ g1, (Iq.w h 0 (P := P58a) rfl).trans g2, g3⟩
    refine (e_M_alley_8 _ _ _ _).trans ?_
    refine (if_neg (show ¬ nI 24 ≤ nI i from nI_ge (by omega) (by omega))).trans ?_
    refine (if_pos M.K52).trans ?_
    refine (bnd M.R7 _).trans ?_
    refine (if_pos ⟨M.K58, by rw [M.N58]; exact vp_in_nI (by omega) (by omega)⟩).trans ?_
    rw [q_cl (show i < 2 ^ 31 by omega), nI_1]
theorem M_al_44 : ∀ (x i : Nat) (h : sk_H), i + x = 184 → MS 52 h → ∃ h', k_M_alley_44 d (some 52) (nI i) h = k_M_alley_44 d (some 52) (nI 184) h' ∧ Iq P62a h h' ∧ (∀ j, i ≤ j → j < 184 → hI h' 62 j = if j < 24 then hI h 58 j else 0) ∧ ∀ j, j < i → hI h' 62 j = hI h 62 j
  | 0, i, h, hx, M => by
    rw [show i = 184 by omega]
    exact ⟨h, rfl, Iq.refl h, fun j h1 h2 => absurd h1 (by omega), fun _ _ => rfl⟩
  | x + 1, i, h, hx, M => by
    have step : ∀ v : Int32, v = (if i < 24 then hI h 58 i else 0) → k_M_alley_44 d (some 52) (nI i) h = k_M_alley_44 d (some 52) (nI (i + 1)) (wI h 62 i v) := by
      intro v hv
      refine (e_M_alley_44 _ _ _ _).trans ?_
      refine (if_neg (show ¬ nI 184 ≤ nI i from nI_ge (by omega) (by omega))).trans ?_
      refine (if_pos M.K52).trans ?_
      by_cases z : i < 24
      · rw [if_pos z] at hv
        refine (if_neg (show ¬ nI 24 ≤ nI i from nI_ge z (by omega))).trans ?_
        refine (if_pos M.K52).trans ?_
        refine (bnd M.R7 _).trans ?_
        refine (if_pos ⟨Or.inl M.K58, by rw [M.N58]; exact vp_in_nI (by omega) (by omega)⟩).trans ?_
        refine (bnd M.R20 _).trans ?_
        refine (if_pos ⟨M.K62, by rw [M.N62]; exact vp_in_nI (by omega) (by omega)⟩).trans ?_
        rw [q_cl (show i < 2 ^ 31 by omega), nI_1, hv]
      · rw [if_neg z] at hv
        refine (if_pos (show nI 24 ≤ nI i from nI_le (by omega) (by omega))).trans ?_
        refine (bnd M.R20 _).trans ?_
        refine (if_pos ⟨M.K62, by rw [M.N62]; exact vp_in_nI (by omega) (by omega)⟩).trans ?_
        rw [q_cl (show i < 2 ^ 31 by omega), nI_1, hv]
    obtain ⟨h', g1, g2, g3, g4⟩ := M_al_44 x (i + 1) (wI h 62 i (if i < 24 then hI h 58 i else 0)) (by omega) M
    refine ⟨h', (step _ rfl).trans g1, (Iq.w h _ (P := P62a) rfl).trans g2, fun j h1 h2 => ?_, fun j hj => ?_⟩
    · by_cases y : j = i
      · rw [g4 j (by omega), y, hI_se]
      · rw [g3 j (by omega) h2, hI_na (by omega)]
    · rw [g4 j (by omega), hI_ni (by omega)]
theorem M_alley_ok (M : MS 52 h) (hT : T ≤ 400) (tp : ∀ i, i < T → t i < 256 ∧ hI h 53 i = sx (t i)) (e1 : hI h 52 1 = nI T) : (∃ g h', alP t T 41 0 0 y0 = .inl g ∧ c_M_alley d (some 52) h = some (h', nM2 - nI g) ∧ Iq PMC h h' ∧ hI h' 52 1 = nI 0) ∨ ∃ S h', alP t T 41 0 0 y0 = .inr S ∧ PWr S ∧ aW (yA S) ∧ c_M_alley d (some 52) h = some (h', nI (yN S)) ∧ Iq PMD h h' ∧ hI h' 52 1 = nI 0 ∧ hI h' 52 23 = nM ∧ hI h' 52 25 = nI 0 ∧ mSaid (yD S) (hI h' 62) ∧ hI h' 62 7 = nI (yF S) ∧ hI h' 62 8 = nI (yM S) ∧ hI h' 62 9 = nI 0 ∧ hI h' 62 10 = nI 0 := by
  have QA : Iq PMC h (wI h 52 11 6) := Iq.w h 6 (P := PMC) (by decide)
  obtain ⟨h1, g1, g2, g3⟩ := M_al_8 (d := d) 24 0 (wI h 52 11 6) rfl M (fun j hj => absurd hj (Nat.not_lt_zero _))
  have Q1 : Iq PMC h h1 := QA.trans (g2.mono fun _ _ => P58_C)
  have M1 : MS 52 h1 := by obtain ⟨I, rfl⟩ := Q1.hw; exact M
  have i11 : hI h1 52 11 = nI 6 := by rw [g2.I rfl, hI_se]; rfl
  have i1 : hI h1 52 1 = nI T := by rw [g2.I rfl, hI_ni (by omega)]; exact e1
  have i53 : hI h1 53 = hI h 53 := funext fun i => by rw [g2.I rfl, hI_na (by omega)]
  obtain ⟨h6, hh6⟩ : ∃ h6, h6 = wI (wI (wI (wI (wI h1 55 6 0) 52 14 0) 52 8 0) 52 9 0) 52 12 0 := ⟨_, rfl⟩
  have Q6 : Iq PMC h1 h6 := by
    rw [hh6]
    exact ((((Iq.w _ _ (P := PMC) (by decide)).trans (Iq.w _ _ (P := PMC) (by decide))).trans (Iq.w _ _ (P := PMC) (by decide))).trans (Iq.w _ _ (P := PMC) (by decide))).trans (Iq.w _ _ (P := PMC) (by decide))
  have M6 : MS 52 h6 := by obtain ⟨I, rfl⟩ := Q6.hw; exact M1
  have R6 : Mr h6 t T 0 := by
    refine ⟨M6, hT, fun i hi => ⟨(tp i hi).1, ?_⟩, ?_, ?_, ?_, Nat.zero_le _⟩
    · rw [Q6.I rfl, i53]; exact (tp i hi).2
    · rw [hh6, hI_ni (by omega), hI_ni (by omega), hI_ni (by omega), hI_ni (by omega), hI_na (by omega)]; exact i1
    · rw [hh6, hI_ni (by omega), hI_ni (by omega), hI_se]; rfl
    · rw [hh6, hI_ni (by omega), hI_se]; rfl
  have z58 : ∀ j, j < 24 → hI h6 58 j = 0 := fun j hj => by rw [hh6, hI_na (by omega), hI_na (by omega), hI_na (by omega), hI_na (by omega), hI_na (by omega)]; exact g3 j hj
  have A6 : MAI h6 (if (0 : Nat) = 0 then 0 else 1) 0 (yK y0) y0 := by
    rw [if_pos rfl]
    refine ⟨⟨?_, ?_⟩, ⟨z58 0 (by omega), z58 1 (by omega), z58 2 (by omega), z58 3 (by omega), z58 4 (by omega), z58 5 (by omega), z58 6 (by omega), z58 7 (by omega), z58 8 (by omega)⟩, fun j h1 h2 => z58 j (by omega), fun r hr => ⟨z58 _ (by omega), z58 _ (by omega), z58 _ (by omega)⟩⟩
    · rw [hh6, hI_ni (by omega), hI_ni (by omega), hI_ni (by omega), hI_ni (by omega), hI_na (by omega)]; exact i11
    · rw [hh6, hI_ni (by omega), hI_ni (by omega), hI_ni (by omega), hI_se]; rfl
  obtain ⟨h2, v, k1, k2, k3, k4⟩ := M_reads_in (d := d) 41 0 0 y0 h6 rfl (by omega) PWr_0 aW_0 R6 A6
  have Q2 : Iq PMC h h2 := (Q1.trans Q6).trans (k2.mono fun _ _ => PMB_C)
  have M2 : MS 52 h2 := by obtain ⟨I, rfl⟩ := Q2.hw; exact M
  have ra : c_M_readsAll d (some 52) h1 = some (h2, v) := by
    refine Eq.trans ?_ k1
    refine (e_M_readsAll _ _ _).trans ?_
    refine (if_pos M1.K52).trans ?_
    refine (if_pos M1.K52).trans ?_
    refine (bnd M1.R4 _).trans ?_
    refine (if_pos ⟨M1.K55, by rw [i11, M1.N55]; exact vp_in_nI (n := 6) (by omega) (by omega)⟩).trans ?_
    rw [i11, q_cl (show 6 < 2 ^ 31 by omega)]
    refine (if_pos M1.K52).trans ?_
    refine (if_pos M1.K52).trans ?_
    refine (if_pos M1.K52).trans ?_
    refine (if_pos M1.K52).trans ?_
    refine (if_pos M1.K52).trans ?_
    rw [hh6]
  have pre : ∀ o, (if ¬ v = 0 then k_M_alley_44 d (some 52) (nI 0) h2 else if hK h2 52 = 13 then some (h2, ((-2) : Int32) - hI h2 52 9) else none) = o → c_M_alley d (some 52) h = o := by
    intro o ho
    rw [← ho]
    refine (e_M_alley _ _ _).trans ?_
    refine (if_pos M.K52).trans ?_
    refine Eq.trans g1 ?_
    refine (e_M_alley_8 _ _ _ _).trans ?_
    refine (if_pos (by decide)).trans ?_
    refine (if_pos M1.K52).trans ?_
    exact (bnd ra _).trans rfl
  rcases k4 with ⟨g, c1, c2, c3⟩ | ⟨S, ln, c1, c2, c3, c4, c5⟩
  · refine Or.inl ⟨g, h2, c1, pre _ ?_, Q2, k3⟩
    rw [c2]
    refine (if_neg (fun y => y rfl)).trans ?_
    refine (if_pos M2.K52).trans ?_
    rw [c3]
    rfl
  · obtain ⟨h3, m1, m2, m3, m4⟩ := M_al_44 (d := d) 184 0 h2 rfl M2
    have M3 : MS 52 h3 := by obtain ⟨I, rfl⟩ := m2.hw; exact M2
    obtain ⟨⟨b1, b2⟩, ⟨a0, a1, a2, a3, a4, a5, a6, a7, a8⟩, a9, a10⟩ := id c3
    have s : ∀ j, j < 24 → hI h3 62 j = hI h2 58 j := fun j hj => by rw [m3 j (Nat.zero_le _) (by omega), if_pos hj]
    have c6 := c4.2.2.2.2.2.1
    have w2 := c4.2.1
    have w1 := c4.1
    -- what is said of the hits
    obtain ⟨h4, n1, n2, n3, n4⟩ : ∃ h4, (k_M_alley_44 d (some 52) (nI 184) h3 = some (wI (wI h4 52 25 0) 52 23 nM, hI (wI (wI h4 52 25 0) 52 23 nM) 62 1)) ∧ Iq P62a h3 h4 ∧ hI h4 62 3 = nI (dH (yD S)) ∧ ∀ j, j ≠ 3 → hI h4 62 j = hI h3 62 j := by
      by_cases z : yH S = 0
      · refine ⟨wI h3 62 3 3, ?_, Iq.w _ _ (P := P62a) rfl, ?_, fun j hj => hI_ni hj⟩
        · refine (e_M_alley_44 _ _ _ _).trans ?_
          refine (if_pos (by decide)).trans ?_
          refine (if_pos M3.K52).trans ?_
          refine (bnd M3.R20 _).trans ?_
          refine (if_pos ⟨Or.inl M3.K62, by rw [M3.N62]; exact vp_in_nI (n := 3) (by omega) (by omega)⟩).trans ?_
          refine (if_neg (fun y => y (show hI h3 62 (3 : Int32).toNatClampNeg = 0 by rw [cl3, s 3 (by omega), a3, z]; rfl))).trans ?_
          refine (if_pos M3.K52).trans ?_
          refine (bnd M3.R20 _).trans ?_
          refine (if_pos ⟨M3.K62, by rw [M3.N62]; exact vp_in_nI (n := 3) (by omega) (by omega)⟩).trans ?_
          refine (if_pos M3.K52).trans ?_
          refine (if_pos M3.K52).trans ?_
          refine (if_pos M3.K52).trans ?_
          refine (bnd M3.R20 _).trans ?_
          exact (if_pos ⟨Or.inl M3.K62, show sk_in (1 : Int32) (hN h3 62) by rw [M3.N62]; exact vp_in_nI (n := 1) (by omega) (by omega)⟩).trans rfl
        · rw [hI_se]
          show _ = nI (if yH S = 0 then 3 else yH S)
          rw [if_pos z]
          rfl
      · refine ⟨h3, ?_, Iq.refl h3, ?_, fun _ _ => rfl⟩
        · refine (e_M_alley_44 _ _ _ _).trans ?_
          refine (if_pos (by decide)).trans ?_
          refine (if_pos M3.K52).trans ?_
          refine (bnd M3.R20 _).trans ?_
          refine (if_pos ⟨Or.inl M3.K62, by rw [M3.N62]; exact vp_in_nI (n := 3) (by omega) (by omega)⟩).trans ?_
          refine (if_pos (show ¬ hI h3 62 (3 : Int32).toNatClampNeg = nI 0 by rw [cl3, s 3 (by omega), a3, q_eq_f z (by omega) (by omega)]; exact not_false)).trans ?_
          refine (if_pos M3.K52).trans ?_
          refine (if_pos M3.K52).trans ?_
          refine (if_pos M3.K52).trans ?_
          refine (bnd M3.R20 _).trans ?_
          exact (if_pos ⟨Or.inl M3.K62, show sk_in (1 : Int32) (hN h3 62) by rw [M3.N62]; exact vp_in_nI (n := 1) (by omega) (by omega)⟩).trans rfl
        · rw [s 3 (by omega), a3]
          show _ = nI (if yH S = 0 then 3 else yH S)
          rw [if_neg z]
    have f62 : ∀ j, hI (wI (wI h4 52 25 0) 52 23 nM) 62 j = hI h4 62 j := fun j => by rw [hI_na (by omega), hI_na (by omega)]
    have e62 : ∀ j, j < 24 → j ≠ 3 → hI (wI (wI h4 52 25 0) 52 23 nM) 62 j = hI h2 58 j := fun j h1 h2 => by rw [f62, n4 j h2, s j h1]
    refine Or.inr ⟨S, wI (wI h4 52 25 0) 52 23 nM, c1, c4, c5, pre _ ?_, (((Q2.mono fun _ _ => PMC_D).trans ((m2.trans n2).mono fun _ _ => P62_D)).trans (Iq.w _ _ (P := PMD) (by decide))).trans (Iq.w _ _ (P := PMD) (by decide)), ?_, hI_se, ?_, ?_, ?_, ?_, ?_, ?_⟩
    · rw [c2]
      refine (if_pos n10).trans ?_
      rw [m1, n1, e62 1 (by omega) (by omega), a1]
    · rw [hI_ni (by omega), hI_ni (by omega), n2.I rfl, m2.I rfl]; exact k3
    · rw [hI_ni (by omega), hI_se]; rfl
    · refine ⟨⟨?_, ?_, fun r (hr : r < yK S) => ⟨?_, ?_, ?_⟩⟩, ?_, ?_, ?_, ?_, ?_⟩
      · rw [e62 1 (by omega) (by omega)]; exact a1
      · rw [e62 2 (by omega) (by omega)]; exact a2
      · rw [e62 _ (by omega) (by omega)]; exact (a10 r (by omega)).1
      · rw [e62 _ (by omega) (by omega)]; exact (a10 r (by omega)).2.1
      · rw [e62 _ (by omega) (by omega)]; exact (a10 r (by omega)).2.2
      · rw [e62 0 (by omega) (by omega)]; exact a0
      · rw [f62]; exact n3
      · rw [e62 4 (by omega) (by omega)]; exact a4
      · rw [e62 5 (by omega) (by omega)]; exact a5
      · rw [e62 6 (by omega) (by omega)]; exact a6
    · rw [e62 7 (by omega) (by omega)]; exact a7
    · rw [e62 8 (by omega) (by omega)]; exact a8
    · rw [e62 9 (by omega) (by omega)]; exact a9 9 (by omega) (by omega)
    · rw [e62 10 (by omega) (by omega)]; exact a9 10 (by omega) (by omega)
end SkMtold
