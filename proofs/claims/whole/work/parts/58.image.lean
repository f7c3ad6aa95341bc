/-! ===== image, back ===== -/
section SkImg
variable {L : Nat} {xs : Nat → Int32} {F G : Nat → Prop} {E : Nat → Option DD} {h h' h1 h2 : sk_H} {j st tu pl st' tu' pl' a b b' m p k s ta : Nat} {D : DD} {c : Nat → Nat} {d : Nat} {P : Nat → Bool} {sd sd' : Nat → Int32} {R : Nat → Nat → Bool} {A : AD} {x : Nat × Nat}
theorem NO.cp {i : Nat} (N : NO F D h b sd i) (k1 : hI h' (b' + 1) i = hI h (b + 1) i) (k2 : hI h' (b' + 2) i = hI h (b + 2) i) (k3 : hR h' (b' + 3) i = hR h (b + 3) i) (hF : ∀ c, F c → Same h h' c) (hs : ∀ k, 24 + 4 * i ≤ k → k ≤ 27 + 4 * i → sd' k = sd k) : NO F D h' b' sd' i := by
  obtain ⟨who, ns, q, x, n1, n2, n3, n4, n5, n6, n7, n8, n9, n10, n11, n12⟩ := N
  exact ⟨who, ns, q, x, n1, by rw [k1]; exact n2, by rw [hs _ (by omega) (by omega)]; exact n3, n4, by rw [k2]; exact n5, by rw [hs _ (by omega) (by omega)]; exact n6, by rw [k3]; exact n7, n8, n9.same (hF q n8), by rw [hs _ (by omega) (by omega)]; exact n10, by rw [hs _ (by omega) (by omega)]; exact n11, n12⟩
theorem SV.cp (S : SV F E h b sd st tu pl) (k1 : hI h' b' 1 = hI h b 1) (k2 : hI h' b' 2 = hI h b 2) (k3 : hI h' b' 3 = hI h b 3) (r0 : hR h' b' 0 = hR h b 0) (a1 : ∀ i, i < 40 → hI h' (b' + 1) i = hI h (b + 1) i) (a2 : ∀ i, i < 40 → hI h' (b' + 2) i = hI h (b + 2) i) (a3 : ∀ i, i < 40 → hR h' (b' + 3) i = hR h (b + 3) i) (hF : ∀ c, F c → Same h h' c) (hs : ∀ k, k < 184 → sd' k = sd k) : SV F E h' b' sd' st tu pl := by
  obtain ⟨s0, s1, s2, s3, s4, s5, s6, s7, s8, s9⟩ := S
  refine ⟨fun i hi q hq => ?_, by rw [k1]; exact s1, by rw [k2]; exact s2, by rw [k3]; exact s3, by rw [hs _ (by omega)]; exact s4, by rw [hs _ (by omega)]; exact s5, by rw [hs _ (by omega)]; exact s6, by rw [hs _ (by omega)]; exact s7, s8, ?_⟩
  · rw [a3 i hi] at hq
    obtain ⟨f, k⟩ := s0 i hi q hq
    exact ⟨f, by rw [(hF q f).1]; exact k⟩
  · rcases s9 with ⟨q1, q2, q3⟩ | ⟨a, D, q1, q2, qw, q3, q4, q5⟩
    · exact Or.inl ⟨by rw [r0]; exact q1, fun i hi => by rw [hs _ (by omega)]; exact q2 i hi, q3⟩
    · refine Or.inr ⟨a, D, by rw [r0]; exact q1, q2, qw, ?_, q4, fun i hi => (q5 i hi).cp (a1 i (by omega)) (a2 i (by omega)) (a3 i (by omega)) hF (fun k h1 h2 => hs k (by omega))⟩
      obtain ⟨⟨m1, m2, m3⟩, m4, m5, m6, m7, m8⟩ := q3
      refine ⟨⟨by rw [hs _ (by omega)]; exact m1, by rw [hs _ (by omega)]; exact m2, fun r hr => ?_⟩, by rw [hs _ (by omega)]; exact m4, by rw [hs _ (by omega)]; exact m5, by rw [hs _ (by omega)]; exact m6, by rw [hs _ (by omega)]; exact m7, by rw [hs _ (by omega)]; exact m8⟩
      have hr4 := qw.1.2.1
      rw [hs _ (by omega), hs _ (by omega), hs _ (by omega)]
      exact m3 r hr
/-- four cells from b on -/
def p4 (b c : Nat) : Bool := decide (b ≤ c ∧ c < b + 4)
theorem p4_f {c : Nat} (h : c < b ∨ b + 4 ≤ c) : p4 b c = false := decide_eq_false (by omega)
theorem p4_t {c : Nat} (h1 : b ≤ c) (h2 : c < b + 4) : p4 b c = true := decide_eq_true ⟨h1, h2⟩
/-- one state is copied onto another -/
theorem cp_in : ∀ (n i : Nat) (h : sk_H), i + n = 40 → SS h b → SS h b' → (b + 4 ≤ b' ∨ b' + 4 ≤ b) → (∀ i, i < 40 → ∀ q, hR h (b' + 3) i = some q → hK h q = 10) → ∃ h', k_St_copyOf_42 d (some b) (some b') (nI i) h = some h' ∧ Ck (p4 b) h h' ∧ hI h' b = hI h b ∧ hR h' b = hR h b ∧ (∀ l, i ≤ l → l < 40 → hI h' (b + 1) l = hI h (b' + 1) l ∧ hI h' (b + 2) l = hI h (b' + 2) l ∧ hR h' (b + 3) l = hR h (b' + 3) l) ∧ ∀ l, l < i → hI h' (b + 1) l = hI h (b + 1) l ∧ hI h' (b + 2) l = hI h (b + 2) l ∧ hR h' (b + 3) l = hR h (b + 3) l
  | 0, i, h, hi, S, S', hb, hk => by
    refine ⟨h, ?_, Ck.refl h, rfl, rfl, fun l h1 h2 => by omega, fun l _ => ⟨rfl, rfl, rfl⟩⟩
    rw [e_St_copyOf_42]
    simp (disch := omega) only [↓reduceIte, ↓Option.bind_some, if_true, if_false, true_and, and_true, and_self, true_or, or_true, false_or, or_false, not_true_eq_false, not_false_eq_true, Option.bind_some, somene, false_and, and_false, reduceCtorEq, Nat.reduceEqDiff, l40, q_le_t]
  | n + 1, i, h, hi, S, S', hb, hk => by
    obtain ⟨t1, t2, t3, t4, t5, t6, t7, t8, t9, t10⟩ := id S
    obtain ⟨u1, u2, u3, u4, u5, u6, u7, u8, u9, u10⟩ := id S'
    obtain ⟨ha, hha⟩ : ∃ ha, ha = wR (wI (wI h (b + 1) i (hI h (b' + 1) i)) (b + 2) i (hI h (b' + 2) i)) (b + 3) i (hR h (b' + 3) i) := ⟨_, rfl⟩
    have Ra : ∀ c, c ≠ b + 3 → hR ha c = hR h c := fun c hc => by rw [hha, hR_wR_n _ _ _ hc]; rfl
    have Ia : ∀ c, c ≠ b + 1 → c ≠ b + 2 → hI ha c = hI h c := fun c h1 h2 => by rw [hha, hI_wR, hI_wI_n _ _ _ h2, hI_wI_n _ _ _ h1]
    have Ka : hK ha = hK h := by rw [hha]; rfl
    have Na : hN ha = hN h := by rw [hha]; rfl
    have Sa : SS ha b := by
      unfold SS
      rw [Ka, Na, Ra b (by omega)]
      exact S
    have Sa' : SS ha b' := by
      unfold SS
      rw [Ka, Na, Ra b' (by omega)]
      exact S'
    obtain ⟨h', e1, e2, e3, e4, e5, e6⟩ := cp_in n (i + 1) ha (by omega) Sa Sa' hb (fun l hl q hq => by rw [Ra _ (by omega)] at hq; rw [Ka]; exact hk l hl q hq)
    have i1 : ∀ l, hI ha (b + 1) l = if l = i then hI h (b' + 1) i else hI h (b + 1) l := fun l => by
      rw [hha, hI_wR, hI_wI, if_neg (by omega), hI_wI]
      by_cases q : l = i
      · rw [if_pos ⟨rfl, q⟩, if_pos q]
      · rw [if_neg (fun r => q r.2), if_neg q]
    have i2 : ∀ l, hI ha (b + 2) l = if l = i then hI h (b' + 2) i else hI h (b + 2) l := fun l => by
      rw [hha, hI_wR, hI_wI]
      by_cases q : l = i
      · rw [if_pos ⟨rfl, q⟩, if_pos q]
      · rw [if_neg (fun r => q r.2), if_neg q, hI_wI, if_neg (by omega)]
    have i3 : ∀ l, hR ha (b + 3) l = if l = i then hR h (b' + 3) i else hR h (b + 3) l := fun l => by
      rw [hha, hR_wR]
      by_cases q : l = i
      · rw [if_pos ⟨rfl, q⟩, if_pos q]
      · rw [if_neg (fun r => q r.2), if_neg q]; rfl
    refine ⟨h', ?_, Ck.trans ?_ e2, by rw [e3, Ia b (by omega) (by omega)], by rw [e4, Ra b (by omega)], fun l h1 h2 => ?_, fun l hl => ?_⟩
    · rw [← e1, e_St_copyOf_42]
      have hc : (hR h (b' + 3) i = none ∨ hK h ((hR h (b' + 3) i).getD 0) = 10) = True := by
        refine eq_true ?_
        cases hq : hR h (b' + 3) i with
        | none => exact Or.inl rfl
        | some q => exact Or.inr (hk i (by omega) q hq)
      have n1 : ¬ b' + 2 = b + 1 := by omega
      rw [hha]
      simp (disch := omega) only [↓reduceIte, ↓Option.bind_some, if_true, if_false, true_and, and_true, and_self, true_or, or_true, false_or, or_false, not_true_eq_false, not_false_eq_true, Option.bind_some, somene, false_and, and_false, reduceCtorEq, Nat.reduceEqDiff, hK_wI, hN_wI, hn_wI, hs_wI, hJ_wI, hR_wI, hK_wJ, hN_wJ, hn_wJ, hs_wJ, hI_wJ, hR_wJ, hK_wR, hN_wR, hn_wR, hs_wR, hI_wR, hJ_wR, l40, l1, q_le_f, q_in, q_cl, nI_add, t1, t2, t3, t4, t5, t6, t7, t8, t9, t10, u1, u2, u3, u4, u5, u6, u7, u8, u9, u10, ar108, ao108, hI_wI, n1, hc]
    · rw [hha]
      exact ((Ck.vI _ _ _ (p4_t (by omega) (by omega))).trans (Ck.vI _ _ _ (p4_t (by omega) (by omega)))).trans (Ck.vR _ _ _ (p4_t (by omega) (by omega)))
    · by_cases q : l = i
      · subst q
        obtain ⟨f1, f2, f3⟩ := e6 l (by omega)
        rw [f1, f2, f3, i1, i2, i3, if_pos rfl, if_pos rfl, if_pos rfl]
        exact ⟨rfl, rfl, rfl⟩
      · obtain ⟨f1, f2, f3⟩ := e5 l (by omega) h2
        rw [f1, f2, f3, Ia _ (by omega) (by omega), Ia _ (by omega) (by omega), Ra _ (by omega)]
        exact ⟨rfl, rfl, rfl⟩
    · obtain ⟨f1, f2, f3⟩ := e6 l (by omega)
      rw [f1, f2, f3, i1, i2, i3, if_neg (by omega), if_neg (by omega), if_neg (by omega)]
      exact ⟨rfl, rfl, rfl⟩
theorem St_copy (S : SS h b) (S' : SS h b') (hb : b + 4 ≤ b' ∨ b' + 4 ≤ b) (hk : ∀ i, i < 40 → ∀ q, hR h (b' + 3) i = some q → hK h q = 10) : ∃ h', c_St_copyOf d (some b) (some b') h = some h' ∧ Ck (p4 b) h h' ∧ (∀ i, 1 ≤ i → i ≤ 4 → hI h' b i = hI h b' i) ∧ (∀ i, hR h' b i = if i = 0 then hR h b' 0 else hR h b i) ∧ ∀ l, l < 40 → hI h' (b + 1) l = hI h (b' + 1) l ∧ hI h' (b + 2) l = hI h (b' + 2) l ∧ hR h' (b + 3) l = hR h (b' + 3) l := by
  obtain ⟨t1, t2, t3, t4, t5, t6, t7, t8, t9, t10⟩ := id S
  obtain ⟨u1, u2, u3, u4, u5, u6, u7, u8, u9, u10⟩ := id S'
  obtain ⟨ha, hha⟩ : ∃ ha, ha = wI (wI (wI (wI (wR h b 0 (hR h b' 0)) b 1 (hI h b' 1)) b 2 (hI h b' 2)) b 3 (hI h b' 3)) b 4 (hI h b' 4) := ⟨_, rfl⟩
  have Ra : ∀ c, c ≠ b → hR ha c = hR h c := fun c hc => by rw [hha, hR_wI, hR_wI, hR_wI, hR_wI, hR_wR_n _ _ _ hc]
  have Rb : ∀ i, hR ha b i = if i = 0 then hR h b' 0 else hR h b i := fun i => by
    rw [hha, hR_wI, hR_wI, hR_wI, hR_wI, hR_wR]
    by_cases q : i = 0
    · rw [if_pos ⟨rfl, q⟩, if_pos q]
    · rw [if_neg (fun r => q r.2), if_neg q]
  have Ia : ∀ c, c ≠ b → hI ha c = hI h c := fun c hc => by rw [hha, hI_wI_n _ _ _ hc, hI_wI_n _ _ _ hc, hI_wI_n _ _ _ hc, hI_wI_n _ _ _ hc, hI_wR]
  have Ka : hK ha = hK h := by rw [hha]; rfl
  have Na : hN ha = hN h := by rw [hha]; rfl
  have Sa : SS ha b := by
    unfold SS
    rw [Ka, Na, Rb 5, Rb 6, Rb 7, if_neg (by decide), if_neg (by decide), if_neg (by decide)]
    exact S
  have Sa' : SS ha b' := by
    unfold SS
    rw [Ka, Na, Ra b' (by omega)]
    exact S'
  obtain ⟨h', e1, e2, e3, e4, e5, -⟩ := cp_in (d := d) 40 0 ha (by omega) Sa Sa' hb (fun l hl q hq => by rw [Ra _ (by omega)] at hq; rw [Ka]; exact hk l hl q hq)
  have n1 : ¬ b' = b := by omega
  refine ⟨h', ?_, Ck.trans ?_ e2, fun i h1 h4 => ?_, fun i => by rw [e4]; exact Rb i, fun l hl => ?_⟩
  · rw [e_St_copyOf, ← e1, hha]
    simp (disch := omega) only [↓reduceIte, ↓Option.bind_some, if_true, if_false, true_and, and_true, and_self, true_or, or_true, false_or, or_false, not_true_eq_false, not_false_eq_true, Option.bind_some, somene, false_and, and_false, reduceCtorEq, Nat.reduceEqDiff, hK_wI, hN_wI, hn_wI, hs_wI, hJ_wI, hR_wI, hK_wJ, hN_wJ, hn_wJ, hs_wJ, hI_wJ, hR_wJ, hK_wR, hN_wR, hn_wR, hs_wR, hI_wR, hJ_wR, l0, t1, u1, hI_wI, n1]
  · rw [hha]
    exact ((((Ck.vR _ _ _ (p4_t (by omega) (by omega))).trans (Ck.vI _ _ _ (p4_t (by omega) (by omega)))).trans (Ck.vI _ _ _ (p4_t (by omega) (by omega)))).trans (Ck.vI _ _ _ (p4_t (by omega) (by omega)))).trans (Ck.vI _ _ _ (p4_t (by omega) (by omega)))
  · rw [e3, hha]
    rcases (show i = 1 ∨ i = 2 ∨ i = 3 ∨ i = 4 by omega) with rfl | rfl | rfl | rfl <;> simp only [hI_wI, hI_wR, ↓reduceIte, ↓Option.bind_some, if_true, if_false, true_and, and_true, and_self, true_or, or_true, false_or, or_false, not_true_eq_false, not_false_eq_true, Option.bind_some, somene, false_and, and_false, reduceCtorEq, Nat.reduceEqDiff]
  · obtain ⟨f1, f2, f3⟩ := e5 l (by omega) hl
    rw [f1, f2, f3, Ia _ (by omega), Ia _ (by omega), Ra _ (by omega)]
    exact ⟨rfl, rfl, rfl⟩
theorem CS.s23 (C : CS h) : SS h 23 := ⟨C.k23, C.r23_5, C.r23_6, C.r23_7, C.k24, C.n24, C.k25, C.n25, C.k26, C.n26⟩
/-- the reference copies 184 words -/
theorem M_im_in (hk : k < 4) : ∀ (n i : Nat) (h : sk_H), i + n = 184 → MS 52 h → ∃ h', k_M_image_33 d (some 52) (nI k) (nI i) h = some (h', hI h 62 9) ∧ Iq (fun a _ => a == 70) h h' ∧ ∀ l, hI h' 70 l = if 184 * k + i ≤ l ∧ l < 184 * k + 184 then hI h 62 (l - 184 * k) else hI h 70 l
  | 0, i, h, hi, M => by
    refine ⟨h, ?_, Iq.refl h, fun l => by rw [if_neg (by omega)]⟩
    rw [e_M_image_33]
    simp (disch := omega) only [M.K52, ↓bnd M.R20, M.K62, M.N62, ↓reduceIte, ↓Option.bind_some, if_true, if_false, true_and, and_true, and_self, true_or, or_true, false_or, or_false, not_true_eq_false, not_false_eq_true, Option.bind_some, somene, false_and, and_false, reduceCtorEq, Nat.reduceEqDiff, l184, l9, q_le_t, q_in, q_cl]
  | n + 1, i, h, hi, M => by
    obtain ⟨h', e1, e2, e3⟩ := M_im_in hk n (i + 1) (wI h 70 (184 * k + i) (hI h 62 i)) (by omega) M
    refine ⟨h', ?_, (Iq.w _ _ rfl).trans e2, fun l => ?_⟩
    · rw [hI_wI_n _ _ _ (by decide)] at e1
      rw [← e1, e_M_image_33]
      simp (disch := omega) only [M.K52, ↓bnd M.R20, ↓bnd M.R37, M.K62, M.N62, M.K70, M.N70, ↓reduceIte, ↓Option.bind_some, if_true, if_false, true_and, and_true, and_self, true_or, or_true, false_or, or_false, not_true_eq_false, not_false_eq_true, Option.bind_some, somene, false_and, and_false, reduceCtorEq, Nat.reduceEqDiff, l184, l1, q_le_f, q_in, q_cl, pk_mul, nI_add]
    · rw [e3, hI_wI_n _ _ _ (by decide)]
      by_cases q1 : l = 184 * k + i
      · subst q1
        rw [if_neg (by omega), if_pos (by omega), hI_wI, if_pos ⟨rfl, rfl⟩]
        congr 1
        omega
      · by_cases q2 : 184 * k + i ≤ l ∧ l < 184 * k + 184
        · rw [if_pos q2, if_pos (by omega)]
        · rw [if_neg q2, if_neg (by omega), hI_wI, if_neg (fun r => q1 r.2)]
theorem M_bk_in (hk : k < 4) : ∀ (n i : Nat) (h : sk_H), i + n = 184 → MS 52 h → ∃ h' v, k_M_back_45 d (some 52) (nI k) (nI i) h = some (h', v) ∧ v = hI h' 62 9 ∧ Iq P62 h h' ∧ (∀ l, i ≤ l → l < 184 → hI h' 62 l = hI h 70 (184 * k + l)) ∧ ∀ l, l < i → hI h' 62 l = hI h 62 l
  | 0, i, h, hi, M => by
    refine ⟨h, hI h 62 9, ?_, rfl, Iq.refl h, fun l h1 h2 => by omega, fun l _ => rfl⟩
    rw [e_M_back_45]
    simp (disch := omega) only [M.K52, ↓bnd M.R20, M.K62, M.N62, ↓reduceIte, ↓Option.bind_some, if_true, if_false, true_and, and_true, and_self, true_or, or_true, false_or, or_false, not_true_eq_false, not_false_eq_true, Option.bind_some, somene, false_and, and_false, reduceCtorEq, Nat.reduceEqDiff, l184, l9, q_le_t, q_in, q_cl]
  | n + 1, i, h, hi, M => by
    obtain ⟨h', v, e1, e2, e3, e4, e5⟩ := M_bk_in hk n (i + 1) (wI h 62 i (hI h 70 (184 * k + i))) (by omega) M
    refine ⟨h', v, ?_, e2, (Iq.w _ _ rfl).trans e3, fun l h1 h2 => ?_, fun l hl => ?_⟩
    · rw [← e1, e_M_back_45]
      simp (disch := omega) only [M.K52, ↓bnd M.R20, ↓bnd M.R37, M.K62, M.N62, M.K70, M.N70, ↓reduceIte, ↓Option.bind_some, if_true, if_false, true_and, and_true, and_self, true_or, or_true, false_or, or_false, not_true_eq_false, not_false_eq_true, Option.bind_some, somene, false_and, and_false, reduceCtorEq, Nat.reduceEqDiff, l184, l1, q_le_f, q_in, q_cl, pk_mul, nI_add]
    · by_cases q : l = i
      · subst q
        rw [e5 l (by omega), hI_wI, if_pos ⟨rfl, rfl⟩]
      · rw [e4 l (by omega) h2, hI_wI_n _ _ _ (by decide)]
    · rw [e5 l (by omega), hI_wI, if_neg (by omega)]
theorem M_image_ok (M : MS 52 h) (hk : k < 4) : ∃ h', c_M_image d (some 52) (nI k) h = some (h', hI h 62 9) ∧ Iq (fun a _ => a == 70 || a == 71 || a == 72) h h' ∧ (∀ l, l < 184 → hI h' 70 (184 * k + l) = hI h 62 l) ∧ (∀ i l, i < 4 → i ≠ k → l < 184 → hI h' 70 (184 * i + l) = hI h 70 (184 * i + l)) ∧ (∀ i, hI h' 71 i = if i = k then hI h 52 21 else hI h 71 i) ∧ ∀ i, hI h' 72 i = if i = k then nI 1 else hI h 72 i := by
  have M2 : MS 52 (wI (wI h 72 k (nI 1)) 71 k (hI h 52 21)) := M
  obtain ⟨h', e1, e2, e3⟩ := M_im_in (d := d) hk 184 0 _ (by omega) M2
  rw [hI_wI_n _ _ _ (by decide), hI_wI_n _ _ _ (by decide)] at e1
  rw [hI_wI_n _ _ _ (by decide), hI_wI_n _ _ _ (by decide), hI_wI_n _ _ _ (by decide), hI_wI_n _ _ _ (by decide)] at e3
  refine ⟨h', ?_, ?_, fun l hl => ?_, fun i l hi hik hl => ?_, fun i => ?_, fun i => ?_⟩
  · rw [← e1, e_M_image]
    obtain ⟨b2, g1, g2, g3⟩ := M_in_n (d := d) (h := h) 0 3 (by decide) (by decide) (l2 := 0) (h2 := 3) (by decide) (by decide) (nI k)
    have hb2 : b2 = true := by
      cases b2
      · exact absurd rfl (g3 rfl k (by omega) (by omega))
      · rfl
    subst hb2
    simp (disch := omega) only [↓bnd g1, q_bi0, Bool.true_eq_false, M.K52, ↓bnd M.R39, ↓bnd M.R38, M.K72, M.N72, M.K71, M.N71, ↓reduceIte, ↓Option.bind_some, if_true, if_false, true_and, and_true, and_self, true_or, or_true, false_or, or_false, not_true_eq_false, not_false_eq_true, Option.bind_some, somene, false_and, and_false, reduceCtorEq, Nat.reduceEqDiff, hK_wI, hN_wI, hn_wI, hs_wI, hJ_wI, hR_wI, hK_wJ, hN_wJ, hn_wJ, hs_wJ, hI_wJ, hR_wJ, hK_wR, hN_wR, hn_wR, hs_wR, hI_wR, hJ_wR, l0, l1, q_in, q_cl, i8_1, hI_wI]
  · refine ((Iq.w _ _ ?_).trans (Iq.w _ _ ?_)).trans ⟨e2.1, e2.2.1, fun a i ha => e2.I ?_⟩
    · rfl
    · rfl
    · rw [Bool.or_eq_false_iff, Bool.or_eq_false_iff] at ha
      exact ha.1.1
  · rw [e3, if_pos (by omega)]
    congr 1
    omega
  · rw [e3, if_neg (by
      rcases Nat.lt_or_ge i k with q | q
      · have : 184 * (i + 1) ≤ 184 * k := Nat.mul_le_mul_left _ q
        omega
      · have : 184 * (k + 1) ≤ 184 * i := Nat.mul_le_mul_left _ (by omega)
        omega)]
  · rw [e2.I (by decide), hI_wI]
    by_cases q : i = k
    · rw [if_pos ⟨rfl, q⟩, if_pos q]
    · rw [if_neg (fun r => q r.2), if_neg q, hI_wI_n _ _ _ (by decide)]
  · rw [e2.I (by decide), hI_wI_n _ _ _ (by decide), hI_wI]
    by_cases q : i = k
    · rw [if_pos ⟨rfl, q⟩, if_pos q]
    · rw [if_neg (fun r => q r.2), if_neg q]
end SkImg
