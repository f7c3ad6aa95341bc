/-! ===== the class settles an alley: what lies behind and ahead; the list of its strokes ===== -/
def P78 (n a _i : Nat) : Bool := a == n + 7 || a == n + 8
def SB (h : sk_H) (n : Nat) (A : AD) (j : Nat) : Prop := ARS h n ∧ hI h (n + 2) 2 = nI (aN A) ∧ (∀ p, p < aN A → hI h (n + 3) p = nI (aRow A p)) ∧ (∀ r, r < aK A → hI h (n + 4) r = nI (aSt A r) ∧ hI h (n + 5) r = nI (aSz A r) ∧ hI h (n + 6) r = bi (aRg A r)) ∧ ∀ p, p < j → hI h (n + 7) p = oI (aPv A p) ∧ hI h (n + 8) p = oI (aNx A p)
/-- cells below m are as they were -/
def Up (m : Nat) (h h' : sk_H) : Prop := ∀ a, a < m → sk_same h h' a
theorem sbA_s (A : AD) : ∀ (m : Nat) (o : Option Nat) (set : Nat), (m = 0 ∨ sbA A m o set ≠ 0) → sbA A (m + 1) o set = (match lO A m o with
    | none => 0
    | some x => if (sbA A m o set).testBit x = true then 0 else sbA A m o set ||| 1 <<< x)
  | 0, none, set, _ => rfl
  | 0, some q, set, _ => by
    show (if set.testBit q = true then 0 else sbA A 0 (aNx A q) (set ||| 1 <<< q)) = _
    rfl
  | m + 1, none, set, h => by
    rcases h with h | h
    · omega
    · exact absurd rfl h
  | m + 1, some q, set, h => by
    have hn : sbA A (m + 1) (some q) set ≠ 0 := h.resolve_left (by omega)
    have e1 : sbA A (m + 1) (some q) set = if set.testBit q = true then 0 else sbA A m (aNx A q) (set ||| 1 <<< q) := rfl
    have e2 : sbA A (m + 1 + 1) (some q) set = if set.testBit q = true then 0 else sbA A (m + 1) (aNx A q) (set ||| 1 <<< q) := rfl
    by_cases z : set.testBit q = true
    · rw [e1, if_pos z] at hn
      exact absurd rfl hn
    · rw [if_neg z] at e1 e2
      rw [e1] at hn
      rw [e2, e1, sbA_s A m (aNx A q) (set ||| 1 <<< q) (Or.inr hn)]
      rfl
theorem sbA_z (A : AD) : ∀ (m : Nat) (o : Option Nat) (set : Nat), (1 ≤ m ∨ set ≠ 0) → sbA A m o set = 0 → sbA A (m + 1) o set = 0
  | 0, o, set, h, e => absurd e (h.resolve_left (by omega))
  | m + 1, none, set, h, e => rfl
  | m + 1, some q, set, h, e => by
    have e1 : sbA A (m + 1) (some q) set = if set.testBit q = true then 0 else sbA A m (aNx A q) (set ||| 1 <<< q) := rfl
    have e2 : sbA A (m + 1 + 1) (some q) set = if set.testBit q = true then 0 else sbA A (m + 1) (aNx A q) (set ||| 1 <<< q) := rfl
    by_cases z : set.testBit q = true
    · rw [e2, if_pos z]
    · rw [if_neg z] at e1 e2
      rw [e2]
      exact sbA_z A m _ _ (Or.inr (or_ne _ _)) (e1.symm.trans e)
def sF (A : AD) (p k : Nat) : Bool := decide (sB A p k ≠ 0)
theorem sF_z {A : AD} {p k : Nat} (hk : 1 ≤ k) (e : sF A p k = false) : sF A p (k + 1) = false := by
  unfold sF at e ⊢
  have e := of_decide_eq_false e
  exact decide_eq_false (fun z => z (sbA_z A k (some p) 0 (Or.inl hk) (Decidable.not_not.mp e)))
/-- where no stroke can go on, no longer one can -/
theorem rA_stop {A : AD} {N p : Nat} (hp : p < N) : ∀ (x k : Nat), k + x = 5 → 1 ≤ k → (k ≤ 4 → sF A p k = false) → rA (sF A) N p k = rA (sF A) N (p + 1) 1
  | 0, k, hk, h1, e => by
    rw [show k = 5 by omega]
    exact rA_5 _ _ _
  | x + 1, k, hk, h1, e => by
    have ek := e (by omega)
    rw [rA_s _ hp h1 (by omega), ek, if_neg (by decide)]
    exact rA_stop hp x (k + 1) (by omega) (by omega) (fun _ => sF_z h1 ek)
section SkSettle
variable {h h' h1 h2 : sk_H} {n d : Nat} {A : AD}
theorem Up.refl {m : Nat} (h : sk_H) : Up m h h := fun a _ => sk_same.rf h a
theorem Up.trans {m : Nat} (p : Up m h h1) (q : Up m h1 h2) : Up m h h2 := fun a ha => sk_same.trans (p a ha) (q a ha)
theorem Up.le {m k : Nat} (hk : k ≤ m) (p : Up m h h1) : Up k h h1 := fun a ha => p a (by omega)
theorem SB.up {j : Nat} (B : SB h n A j) (U : Up (n + 12) h h1) : SB h1 n A j := by
  obtain ⟨⟨⟨a1, a2, a3, a4⟩, ⟨r8, r9, r10, r11, r12, r13, r16⟩, ⟨k3, k4, k5, k6, k7, k8, k11⟩, ⟨n3, n4, n5, n6, n7, n8, n11⟩⟩, b2, b3, b4, b5⟩ := B
  have u1 := U (n + 1) (by omega)
  have u2 := U (n + 2) (by omega)
  have u3 := U (n + 3) (by omega)
  have u4 := U (n + 4) (by omega)
  have u5 := U (n + 5) (by omega)
  have u6 := U (n + 6) (by omega)
  have u7 := U (n + 7) (by omega)
  have u8 := U (n + 8) (by omega)
  have u11 := U (n + 11) (by omega)
  refine ⟨⟨⟨by rw [u1.1]; exact a1, by rw [u1.2.2.2.2]; exact a2, by rw [u1.2.2.2.2]; exact a3, by rw [u2.1]; exact a4⟩, ?_, ⟨by rw [u3.1]; exact k3, by rw [u4.1]; exact k4, by rw [u5.1]; exact k5, by rw [u6.1]; exact k6, by rw [u7.1]; exact k7, by rw [u8.1]; exact k8, by rw [u11.1]; exact k11⟩, ⟨by rw [u3.2.1]; exact n3, by rw [u4.2.1]; exact n4, by rw [u5.2.1]; exact n5, by rw [u6.2.1]; exact n6, by rw [u7.2.1]; exact n7, by rw [u8.2.1]; exact n8, by rw [u11.2.1]; exact n11⟩⟩, by rw [u2.2.2.1]; exact b2, by rw [u3.2.2.1]; exact b3, by rw [u4.2.2.1, u5.2.2.1, u6.2.2.1]; exact b4, by rw [u7.2.2.1, u8.2.2.1]; exact b5⟩
  rw [u2.2.2.2.2]
  exact ⟨r8, r9, r10, r11, r12, r13, r16⟩
theorem Al_set_in (w : aW A) : ∀ (x i : Nat) (h : sk_H), i + x = aN A → SB h n A i → ∃ h', k_Al_settle_14 d (some (n + 2)) (nI i) h = k_Al_settle_14 d (some (n + 2)) (nI (aN A)) h' ∧ SB h' n A (aN A) ∧ Iq (P78 n) h h'
  | 0, i, h, hx, B => by
    rw [show i = aN A by omega] at B ⊢
    exact ⟨h, rfl, B, Iq.refl h⟩
  | x + 1, i, h, hx, B => by
    obtain ⟨B1, b2, b3, b4, b5⟩ := id B
    obtain ⟨⟨a1, a2, a3, a4⟩, ⟨r8, r9, r10, r11, r12, r13, r16⟩, ⟨k3, k4, k5, k6, k7, k8, k11⟩, ⟨n3, n4, n5, n6, n7, n8, n11⟩⟩ := id B1
    have hi : i < aN A := by omega
    have w1 := w.1
    have w2 := w.2.1
    obtain ⟨q1, q2, q3⟩ := aRow_in w hi
    obtain ⟨w31, w32, w33⟩ := w.2.2.1 _ q1
    obtain ⟨c4, c5, c6⟩ := b4 _ q1
    have e8 := b3 i hi
    have hm : SB (wI (wI h (n + 7) i (oI (aPv A i))) (n + 8) i (oI (aNx A i))) n A (i + 1) := by
      refine ⟨B1, by rw [hI_na (by omega), hI_na (by omega)]; exact b2, fun p hp => by rw [hI_na (by omega), hI_na (by omega)]; exact b3 p hp, fun r hr => by rw [hI_na (by omega), hI_na (by omega), hI_na (by omega), hI_na (by omega), hI_na (by omega), hI_na (by omega)]; exact b4 r hr, fun p hp => ?_⟩
      by_cases z : p = i
      · rw [z, hI_na (by omega), hI_se, hI_se]
        exact ⟨rfl, rfl⟩
      · rw [hI_na (by omega), hI_ni z, hI_ni z, hI_na (by omega)]
        exact b5 p (by omega)
    obtain ⟨h', g1, g2, g3⟩ := Al_set_in w x (i + 1) _ (by omega) hm
    refine ⟨h', Eq.trans ?_ g1, g2, ((Iq.w h _ (by unfold P78; simp)).trans (Iq.w _ _ (by unfold P78; simp))).trans g3⟩
    -- the second half
    have s80 : k_Al_settle_80 d (some (n + 2)) (nI i) (nI (aRow A i)) (nI (aSt A (aRow A i) + aSz A (aRow A i) - 1)) (oI (aPv A i)) (nI i) (some (n + 7)) h = k_Al_settle_14 d (some (n + 2)) (nI (i + 1)) (wI (wI h (n + 7) i (oI (aPv A i))) (n + 8) i (oI (aNx A i))) := by
      have f6 : hI (wI h (n + 7) (nI i).toNatClampNeg (oI (aPv A i))) (n + 6) (nI (aRow A i)).toNatClampNeg = bi (aRg A (aRow A i)) := by rw [hI_na (by omega), q_cl (by omega)]; exact c6
      have ei : (nI i).toNatClampNeg = i := q_cl (by omega)
      have f4 : hI (wI h (n + 7) (nI i).toNatClampNeg (oI (aPv A i))) (n + 4) (nI (aRow A i)).toNatClampNeg = nI (aSt A (aRow A i)) := by rw [hI_na (by omega), q_cl (by omega)]; exact c4
      refine (e_Al_settle_80 _ _ _ _ _ _ _ _ _).trans ?_
      refine (bnd rfl _).trans ?_
      refine (if_pos ⟨k7, by rw [n7]; exact vp_in_nI (by omega) (by omega)⟩).trans ?_
      refine (if_pos a4).trans ?_
      by_cases z : i + 1 < aSt A (aRow A i) + aSz A (aRow A i)
      · have en : aNx A i = some (i + 1) := by unfold aNx; rw [if_pos z]
        refine (if_neg (nI_ge (by omega) (by omega))).trans ?_
        refine (bnd r13 _).trans ?_
        refine (if_pos ⟨k8, show sk_in (nI i) (hN h (n + 8)) by rw [n8]; exact vp_in_nI (by omega) (by omega)⟩).trans ?_
        rw [en]
        show k_Al_settle_14 d (some (n + 2)) (nI i + 1) (wI (wI h (n + 7) (nI i).toNatClampNeg (oI (aPv A i))) (n + 8) (nI i).toNatClampNeg (nI i + 1)) = _
        rw [nI_1, ei]
        rfl
      · refine (if_pos (nI_le (by omega) (by omega))).trans ?_
        refine (if_pos a4).trans ?_
        refine (bnd r11 _).trans ?_
        refine (if_pos ⟨Or.inl k6, show sk_in (nI (aRow A i)) (hN h (n + 6)) by rw [n6]; exact vp_in_nI (by omega) (by omega)⟩).trans ?_
        by_cases y : aRg A (aRow A i) = true
        · have en : aNx A i = some (aSt A (aRow A i)) := by unfold aNx; rw [if_neg z, if_pos y]
          refine (if_neg (show ¬ hI (wI h (n + 7) (nI i).toNatClampNeg (oI (aPv A i))) (n + 6) (nI (aRow A i)).toNatClampNeg = 0 by rw [f6, y]; decide)).trans ?_
          refine (if_pos a4).trans ?_
          refine (bnd r9 _).trans ?_
          refine (if_pos ⟨Or.inl k4, show sk_in (nI (aRow A i)) (hN h (n + 4)) by rw [n4]; exact vp_in_nI (by omega) (by omega)⟩).trans ?_
          refine (bnd r13 _).trans ?_
          refine (if_pos ⟨k8, show sk_in (nI i) (hN h (n + 8)) by rw [n8]; exact vp_in_nI (by omega) (by omega)⟩).trans ?_
          show k_Al_settle_14 d (some (n + 2)) (nI i + 1) (wI (wI h (n + 7) (nI i).toNatClampNeg (oI (aPv A i))) (n + 8) (nI i).toNatClampNeg (hI (wI h (n + 7) (nI i).toNatClampNeg (oI (aPv A i))) (n + 4) (nI (aRow A i)).toNatClampNeg)) = _
          rw [f4, nI_1, en, ei]
          rfl
        · have y : aRg A (aRow A i) = false := by simpa using y
          have en : aNx A i = none := by unfold aNx; rw [if_neg z, if_neg (by rw [y]; decide)]
          refine (if_pos (show hI (wI h (n + 7) (nI i).toNatClampNeg (oI (aPv A i))) (n + 6) (nI (aRow A i)).toNatClampNeg = 0 by rw [f6, y]; rfl)).trans ?_
          refine (bnd r13 _).trans ?_
          refine (if_pos ⟨k8, show sk_in (nI i) (hN h (n + 8)) by rw [n8]; exact vp_in_nI (by omega) (by omega)⟩).trans ?_
          show k_Al_settle_14 d (some (n + 2)) (nI i + 1) (wI (wI h (n + 7) (nI i).toNatClampNeg (oI (aPv A i))) (n + 8) (nI i).toNatClampNeg nM) = _
          rw [nI_1, en, ei]
          rfl
    refine Eq.trans ?_ s80
    have cl8 : hI h (n + 3) (nI i).toNatClampNeg = nI (aRow A i) := by rw [q_cl (by omega)]; exact e8
    have cl4 : hI h (n + 4) (hI h (n + 3) (nI i).toNatClampNeg).toNatClampNeg = nI (aSt A (aRow A i)) := by rw [cl8, q_cl (by omega)]; exact c4
    have cl5 : hI h (n + 5) (hI h (n + 3) (nI i).toNatClampNeg).toNatClampNeg = nI (aSz A (aRow A i)) := by rw [cl8, q_cl (by omega)]; exact c5
    have cl6 : hI h (n + 6) (hI h (n + 3) (nI i).toNatClampNeg).toNatClampNeg = bi (aRg A (aRow A i)) := by rw [cl8, q_cl (by omega)]; exact c6
    have la : nI (aSt A (aRow A i)) + nI (aSz A (aRow A i)) - 1 = nI (aSt A (aRow A i) + aSz A (aRow A i) - 1) := by rw [nI_add, l1, q_sub (by omega)]
    refine (e_Al_settle_14 _ _ _ _).trans ?_
    refine (if_pos a4).trans ?_
    refine (if_neg (by rw [b2]; exact nI_ge hi (by omega))).trans ?_
    refine (if_pos a4).trans ?_
    refine (bnd r8 _).trans ?_
    refine (if_pos ⟨Or.inl k3, by rw [n3]; exact vp_in_nI (by omega) (by omega)⟩).trans ?_
    refine (if_pos a4).trans ?_
    refine (bnd r9 _).trans ?_
    refine (if_pos ⟨Or.inl k4, by rw [cl8, n4]; exact vp_in_nI (by omega) (by omega)⟩).trans ?_
    refine (if_pos a4).trans ?_
    refine (bnd r10 _).trans ?_
    refine (if_pos ⟨Or.inl k5, by rw [cl8, n5]; exact vp_in_nI (by omega) (by omega)⟩).trans ?_
    refine (if_pos a4).trans ?_
    refine (if_pos a4).trans ?_
    refine (bnd r9 _).trans ?_
    refine (if_pos ⟨Or.inl k4, by rw [cl8, n4]; exact vp_in_nI (by omega) (by omega)⟩).trans ?_
    by_cases z : aSt A (aRow A i) < i
    · have ep : aPv A i = some (i - 1) := by unfold aPv; rw [if_pos z]
      refine (if_neg (by rw [cl4]; exact nI_ge z (by omega))).trans ?_
      rw [cl4, cl5, cl8, la, r12, ep, l1, q_sub (by omega)]
      rfl
    · refine (if_pos (by rw [cl4]; exact nI_le (by omega) (by omega))).trans ?_
      refine (if_pos a4).trans ?_
      refine (bnd r11 _).trans ?_
      refine (if_pos ⟨Or.inl k6, by rw [cl8, n6]; exact vp_in_nI (by omega) (by omega)⟩).trans ?_
      by_cases y : aRg A (aRow A i) = true
      · have ep : aPv A i = some (aSt A (aRow A i) + aSz A (aRow A i) - 1) := by unfold aPv; rw [if_neg z, if_pos y]
        refine (if_neg (by rw [cl6, y]; decide)).trans ?_
        rw [cl4, cl5, cl8, la, r12, ep]
        rfl
      · have y : aRg A (aRow A i) = false := by simpa using y
        have ep : aPv A i = none := by unfold aPv; rw [if_neg z, if_neg (by rw [y]; decide)]
        refine (if_pos (by rw [cl6, y]; rfl)).trans ?_
        rw [cl4, cl5, cl8, la, r12, ep]
        rfl
end SkSettle
