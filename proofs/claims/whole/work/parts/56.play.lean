/-! ===== pass, up, undo, stroke ===== -/
def PA (a _i : Nat) : Bool := Nat.ble 28 a && Nat.ble a 31
def P62 (a _i : Nat) : Bool := a == 62
def lA : List Nat := [23, 24, 25, 26, 28, 29, 30, 31, 52, 62, 64]
theorem okA : okL lA := ⟨by decide, cl73 (by decide), by decide⟩
section SkPlay
variable {L : Nat} {xs : Nat → Int32} {F G : Nat → Prop} {E : Nat → Option DD} {h h' h1 h2 : sk_H} {j st tu pl st' tu' pl' a b m p k : Nat} {D : DD} {c : Nat → Nat} {d : Nat} {P : Nat → Bool} {sd sd' : Nat → Int32} {R : Nat → Nat → Bool}
theorem CS.ir (C : CS h) (Q : Iq R h h1) : CS h1 := C.cg (fun a _ => by rw [Q.eK, Q.eN]; exact ⟨rfl, rfl⟩) (fun q hq => by rw [Q.eR])
theorem MS.ir (M : MS 52 h) (Q : Iq R h h1) : MS 52 h1 := by
  refine ⟨by rw [Q.eK]; exact M.1, fun k hk => by rw [Q.eR]; exact M.2.1 k hk, fun k h1 h2 => by rw [Q.eK, Q.eN]; exact M.2.2 k h1 h2⟩
theorem MS.ck (M : MS 52 h) (A : Ck P h h1) (e : hR h1 52 = hR h 52) : MS 52 h1 := by
  refine ⟨by rw [A.eK]; exact M.1, fun k hk => by rw [e]; exact M.2.1 k hk, fun k h1 h2 => by rw [A.eK, A.eN]; exact M.2.2 k h1 h2⟩
theorem clA (hP : ∀ c i, R c i = true → cl lA c = true) : ∀ c, cl lA c = false → ∀ i, R c i = false := by
  intro c hc i
  cases hq : R c i
  · rfl
  · rw [hP c i hq] at hc; cases hc
theorem PA_A : ∀ c i, PA c i = true → cl lA c = true := by
  intro c i hc
  unfold PA at hc
  rw [Bool.and_eq_true] at hc
  have h1 := Nat.le_of_ble_eq_true hc.1
  have h2 := Nat.le_of_ble_eq_true hc.2
  rcases (show c = 28 ∨ c = 29 ∨ c = 30 ∨ c = 31 by omega) with rfl | rfl | rfl | rfl <;> rfl
theorem PK_A : ∀ c i, PK c i = true → cl lA c = true := by
  intro c i hc
  unfold PK at hc
  rw [Bool.or_eq_true, Bool.and_eq_true] at hc
  rcases hc with q | ⟨q, -⟩
  · rw [eq_of_beq q]; rfl
  · rw [eq_of_beq q]; rfl
theorem P62_A : ∀ c i, P62 c i = true → cl lA c = true := by
  intro c i hc
  unfold P62 at hc
  rw [eq_of_beq hc]; rfl
theorem keep2 (C : CS h) (A : AC E h pl) (s1 : hI h 23 1 = nI st) (s2 : hI h 23 2 = nI tu) (s3 : hI h 23 3 = nI pl) (t7 : hI h 62 7 = nI tu) (t8 : hI h 62 8 = nI st) (t9 : hI h 62 9 = nI pl) (t10 : hI h 62 10 = nI (min pl 40)) (ht : tu ≤ 1) (ra : hR h 23 0 = some a) (hE : E a = some D) (hst : st < 2 ^ aN (dA D)) : ∃ hk, c_Ac_keep d (some 28) (some 23) h = some hk ∧ Iq PA h hk ∧ ∀ h1, MS 52 h1 → (∀ c, 28 ≤ c → c ≤ 31 → hI h1 c = hI hk c) → hI h1 64 = hI h 64 → hI h1 62 = hI h 62 → hI h1 52 25 = hI h 52 25 → ∃ hm, c_M_keepsAct d (some 52) h1 = some hm ∧ Iq PK h1 hm ∧ ∀ h2 pl', pl ≤ pl' → hR h2 23 0 = hR h 23 0 → (∀ c, 28 ≤ c → c ≤ 31 → hI h2 c = hI hm c) → hI h2 64 = hI hm 64 → hI h2 52 25 = hI hm 52 25 → AC E h2 pl' := by
  obtain ⟨nx, kp, f, hnx, hkp, c3, c4, m25, cn, fa, fm⟩ := A
  have ek := Ac_keep_ok (d := d) C c3 hnx c4 hkp
  rw [s1, s2, s3] at ek
  refine ⟨_, ek, ((((Iq.w _ _ rfl).trans (Iq.w _ _ rfl)).trans (Iq.w _ _ rfl)).trans (Iq.w _ _ rfl)).trans (Iq.w _ _ rfl), fun h1 M1 b1 b2 b3 b4 => ?_⟩
  obtain ⟨s, kp', hm, hs, e1, e2, e3, e4, e5⟩ := M_keepsAct_ok (d := d) M1 (b4.trans m25) hkp
  refine ⟨hm, e1, e2, fun h2 pl' hpl r0 g1 g2 g3 => ?_⟩
  have gI : ∀ c i, 28 ≤ c → c ≤ 31 → hI h2 c i = hI (wI (wI (wI (wI (wI h 29 nx (nI st)) 30 nx (nI tu)) 31 nx (nI pl)) 28 3 (nI ((nx + 1) % 20))) 28 4 (nI (min (kp + 1) 20))) c i := by
    intro c i hc1 hc2
    rw [g1 c hc1 hc2, e2.I (by
      have n1 : (c == 64) = false := by rw [beq_eq_false_iff_ne]; omega
      have n2 : (c == 52) = false := by rw [beq_eq_false_iff_ne]; omega
      unfold PK
      rw [n1, n2]
      rfl), b1 c hc1 hc2]
  have ekp : min (kp + 1) 20 = kp' := by omega
  refine AC_keep hnx hkp fa fm hs r0 ra hE hst ht hpl ?_ ?_ (fun i => ?_) (fun i => ?_) (fun i => ?_) (g3.trans e3) (fun i k hi hk => ?_) ?_ ?_ ?_ ?_
  · rw [gI 28 3 (by omega) (by omega)]; simp only [hI_wI, ↓reduceIte, ↓Option.bind_some, if_true, if_false, true_and, and_true, and_self, true_or, or_true, false_or, or_false, not_true_eq_false, not_false_eq_true, Option.bind_some, somene, false_and, and_false, reduceCtorEq, Nat.reduceEqDiff]
  · rw [gI 28 4 (by omega) (by omega)]; simp only [hI_wI, ↓reduceIte, ↓Option.bind_some, if_true, if_false, true_and, and_true, and_self, true_or, or_true, false_or, or_false, not_true_eq_false, not_false_eq_true, Option.bind_some, somene, false_and, and_false, reduceCtorEq, Nat.reduceEqDiff, ekp]
  · rw [gI 29 i (by omega) (by omega)]; simp only [hI_wI, ↓reduceIte, ↓Option.bind_some, if_true, if_false, true_and, and_true, and_self, true_or, or_true, false_or, or_false, not_true_eq_false, not_false_eq_true, Option.bind_some, somene, false_and, and_false, reduceCtorEq, Nat.reduceEqDiff]
  · rw [gI 30 i (by omega) (by omega)]; simp only [hI_wI, ↓reduceIte, ↓Option.bind_some, if_true, if_false, true_and, and_true, and_self, true_or, or_true, false_or, or_false, not_true_eq_false, not_false_eq_true, Option.bind_some, somene, false_and, and_false, reduceCtorEq, Nat.reduceEqDiff]
  · rw [gI 31 i (by omega) (by omega)]; simp only [hI_wI, ↓reduceIte, ↓Option.bind_some, if_true, if_false, true_and, and_true, and_self, true_or, or_true, false_or, or_false, not_true_eq_false, not_false_eq_true, Option.bind_some, somene, false_and, and_false, reduceCtorEq, Nat.reduceEqDiff]
  · rw [g2, e4 i k hi hk, b2]
  · rw [g2, e5 0 (by omega), b3]; exact t7
  · rw [g2, e5 1 (by omega), b3]; exact t8
  · rw [g2, e5 2 (by omega), b3]; exact t9
  · rw [g2, e5 3 (by omega), b3]; exact t10
theorem PA_n {c i : Nat} (hc : c < 28 ∨ 31 < c) : PA c i = false := by
  unfold PA
  cases h1 : Nat.ble 28 c
  · rfl
  · cases h2 : Nat.ble c 31
    · rfl
    · have := Nat.le_of_ble_eq_true h1
      have := Nat.le_of_ble_eq_true h2
      omega
theorem PK_n {c i : Nat} (h1 : c ≠ 64) (h2 : c ≠ 52) : PK c i = false := by
  unfold PK
  rw [beq_false_of_ne h1, beq_false_of_ne h2]
  rfl
theorem Iq.A (Q : Iq PA h h1) {c : Nat} (hc : c < 28 ∨ 31 < c) : hI h1 c = hI h c := funext fun _ => Q.I (PA_n hc)
theorem Iq.K (Q : Iq PK h h1) {c : Nat} (hc : c ≠ 64) (hc2 : c ≠ 52) : hI h1 c = hI h c := funext fun _ => Q.I (PK_n hc hc2)
theorem q_pass : sk_Ag (JJ L xs) L xs 52 (fun h => c_SR_pass 40 (some 20) h) (fun h => c_M_pass 40 (some 52) h) := by
  refine Ag_chg lA okA (fun j h F E st tu pl hj J => ?_)
  have C := J.2.1
  have M := J.2.2.1
  have hpl := J.2.2.2.2.2.2.2.2.1
  have S := J.2.2.2.2.2.2.2.2.2.1
  obtain ⟨s0, s1, s2, s3, s4, s5, s6, s7, s8, s9⟩ := id S
  rcases s9 with ⟨q1, q2, q3⟩ | ⟨a, D, q1, q2, qw, q3, q4, q5⟩
  · refine Or.inl ⟨nM, ?_, ?_⟩
    · show c_SR_pass 40 (some 20) h = _
      rw [e_SR_pass]
      simp only [C.k20, C.k21, C.k22, C.k23, C.k24, C.k25, C.k26, C.k27, C.k28, C.k29, C.k30, C.k31, C.k32, C.k43, C.k44, C.k45, C.k46, C.k47, C.k48, C.k49, C.k50, C.k51, C.n21, C.n22, C.n24, C.n25, C.n26, C.n27, C.n29, C.n30, C.n31, C.n43, C.n44, C.n45, C.n46, C.n47, C.n48, C.n51, C.r20_0, C.r20_2, C.r20_4, C.r20_5, C.r20_6, C.r20_7, C.r20_8, C.r23_5, C.r23_6, C.r23_7, C.r28_0, C.r28_1, C.r28_2, C.r32_3, C.r32_4, C.r32_5, C.r32_6, C.r32_7, C.r32_8, C.r49_0, C.r50_0, ↓bnd C.r20_0, ↓bnd C.r20_2, ↓bnd C.r20_4, ↓bnd C.r20_5, ↓bnd C.r20_6, ↓bnd C.r20_7, ↓bnd C.r20_8, ↓bnd C.r23_5, ↓bnd C.r23_6, ↓bnd C.r23_7, ↓bnd C.r28_0, ↓bnd C.r28_1, ↓bnd C.r28_2, ↓bnd C.r32_3, ↓bnd C.r32_4, ↓bnd C.r32_5, ↓bnd C.r32_6, ↓bnd C.r32_7, ↓bnd C.r32_8, ↓bnd C.r49_0, ↓bnd C.r50_0, ↓reduceIte, ↓Option.bind_some, if_true, if_false, true_and, and_true, and_self, true_or, or_true, false_or, or_false, not_true_eq_false, not_false_eq_true, Option.bind_some, somene, false_and, and_false, reduceCtorEq, Nat.reduceEqDiff, q1, lm1, l1]
    · show c_M_pass 40 (some 52) h = _
      rw [e_M_pass]
      simp only [M.K52, ↓reduceIte, ↓Option.bind_some, if_true, if_false, true_and, and_true, and_self, true_or, or_true, false_or, or_false, not_true_eq_false, not_false_eq_true, Option.bind_some, somene, false_and, and_false, reduceCtorEq, Nat.reduceEqDiff, M_isAlley_0 M (q2 0 (by omega)), lm1, l1, l0]
  · obtain ⟨hk, k1, k2, k3⟩ := keep2 (d := 40) C J.2.2.2.2.2.2.2.2.2.2.2.1 s1 s2 s3 s4 s5 s6 s7 s8 q1 q2 q4
    have Ck1 := C.ir k2
    have Mk := M.ir k2
    have u2 : hI hk 23 2 = nI tu := by rw [k2.A (by omega)]; exact s2
    obtain ⟨hm, m1, m2, m3⟩ := k3 (wI hk 23 2 (nI (1 - tu))) Mk (fun c h1 h2 => hI_wI_n _ _ _ (by omega)) (by rw [hI_wI_n _ _ _ (by decide), k2.A (by omega)]) (by rw [hI_wI_n _ _ _ (by decide), k2.A (by omega)]) (by rw [hI_wI_n _ _ _ (by decide), k2.A (by omega)])
    have Mm := MS.ir (h := wI hk 23 2 (nI (1 - tu))) Mk m2
    have v62 : hI hm 62 = hI h 62 := by rw [m2.K (by decide) (by decide), hI_wI_n _ _ _ (by decide), k2.A (by omega)]
    have v7 : hI hm 62 7 = nI tu := by rw [v62]; exact s4
    have eR : hR (wI hm 62 7 (nI (1 - tu))) = hR h := by rw [hR_wI, m2.eR, hR_wI, k2.eR]
    have A1 : Ck (cl lA) h (wI hk 23 2 (nI (1 - tu))) := (k2.ck (clA PA_A)).trans (Ck.vI _ _ _ (by decide))
    have A2 : Ck (cl lA) (wI hk 23 2 (nI (1 - tu))) (wI hm 62 7 (nI (1 - tu))) := (m2.ck (clA PK_A)).trans (Ck.vI _ _ _ (by decide))
    have hF : ∀ c, F c → Same h (wI hm 62 7 (nI (1 - tu))) c := fun c hc => (A1.trans A2).same (okA.2.1 c (J.2.2.2.1.1 c hc))
    have z : ∀ c, c ≠ 62 → c ≠ 64 → c ≠ 52 → c ≠ 23 → (c < 28 ∨ 31 < c) → hI (wI hm 62 7 (nI (1 - tu))) c = hI h c := fun c h1 h2 h3 h4 h5 => by
      rw [hI_wI_n _ _ _ h1, m2.K h2 h3, hI_wI_n _ _ _ h4, k2.A h5]
    have z52 : ∀ i, i ≠ 25 → hI (wI hm 62 7 (nI (1 - tu))) 52 i = hI h 52 i := fun i hi => by
      rw [hI_wI_n _ _ _ (by decide), m2.I (by unfold PK; rw [beq_false_of_ne hi]; rfl), hI_wI_n _ _ _ (by decide), k2.A (by omega)]
    have z23 : ∀ i, i ≠ 2 → hI (wI hm 62 7 (nI (1 - tu))) 23 i = hI h 23 i := fun i hi => by
      rw [hI_wI_n _ _ _ (by decide), m2.K (by decide) (by decide), hI_wI, if_neg (fun q => hi q.2), k2.A (by omega)]
    have z62 : ∀ i, i ≠ 7 → hI (wI hm 62 7 (nI (1 - tu))) 62 i = hI h 62 i := fun i hi => by
      rw [hI_wI, if_neg (fun q => hi q.2), v62]
    refine Or.inr ⟨wI hk 23 2 (nI (1 - tu)), wI hm 62 7 (nI (1 - tu)), nI (1 - tu), st, 1 - tu, pl, ?_, A1, ?_, A2, ?_, ?_, ?_, ?_, ?_, ?_, ?_, ?_, ?_, ?_, ?_⟩
    · show c_SR_pass 40 (some 20) h = _
      rw [e_SR_pass]
      simp (disch := omega) only [C.k20, C.k23, C.k28, ↓bnd C.r20_4, ↓bnd C.r20_6, C.r20_4, C.r20_6, ↓reduceIte, ↓Option.bind_some, if_true, if_false, true_and, and_true, and_self, true_or, or_true, false_or, or_false, not_true_eq_false, not_false_eq_true, Option.bind_some, somene, false_and, and_false, reduceCtorEq, Nat.reduceEqDiff, q1, k1, Ck1.k20, Ck1.k23, ↓bnd Ck1.r20_4, hK_wI, hN_wI, hn_wI, hs_wI, hJ_wI, hR_wI, hK_wJ, hN_wJ, hn_wJ, hs_wJ, hI_wJ, hR_wJ, hK_wR, hN_wR, hn_wR, hs_wR, hI_wR, hJ_wR, hI_wI, u2, l1, q_sub]
    · show c_M_pass 40 (some 52) _ = _
      rw [e_M_pass]
      have ia : c_M_isAlley 40 (some 52) (wI hk 23 2 (nI (1 - tu))) = some (wI hk 23 2 (nI (1 - tu)), nI 1) := M_isAlley_1 (h := wI hk 23 2 (nI (1 - tu))) Mk (by rw [hI_wI_n _ _ _ (by decide), k2.A (by omega)]; exact q3.2.1)
      have K1 : hK (wI hk 23 2 (nI (1 - tu))) 52 = 13 := Mk.K52
      simp (disch := omega) only [K1, ia, ↓reduceIte, ↓Option.bind_some, if_true, if_false, true_and, and_true, and_self, true_or, or_true, false_or, or_false, not_true_eq_false, not_false_eq_true, Option.bind_some, somene, false_and, and_false, reduceCtorEq, Nat.reduceEqDiff, m1, l0, l1, q_eq_f, Mm.K52, ↓bnd Mm.R20, Mm.K62, Mm.N62, l7, q_in, q_cl, v7, q_sub, hK_wI, hN_wI, hn_wI, hs_wI, hJ_wI, hR_wI, hK_wJ, hN_wJ, hn_wJ, hs_wJ, hI_wJ, hR_wJ, hK_wR, hN_wR, hn_wR, hs_wR, hI_wR, hJ_wR, hI_wI]
    · show CS hm
      exact CS.ir (h := wI hk 23 2 (nI (1 - tu))) Ck1 m2
    · exact Mm
    · exact J.2.2.2.2.2.1.kp (by rw [z 20 (by decide) (by decide) (by decide) (by decide) (by decide)]) (z52 1 (by decide)) (z 21 (by decide) (by decide) (by decide) (by decide) (by decide)) (z 53 (by decide) (by decide) (by decide) (by decide) (by decide))
    · rw [z 20 (by decide) (by decide) (by decide) (by decide) (by decide)]
    · exact z52 2 (by decide)
    · omega
    · refine S.upd q1 q2 (by rw [eR]) (S.r3 hF (by rw [eR])) (by rw [z23 1 (by decide)]; exact s1) ?_ (by rw [z23 3 (by decide)]; exact s3) ?_ (by rw [z62 8 (by decide)]; exact s5) (by rw [z62 9 (by decide)]; exact s6) (by rw [z62 10 (by decide)]; exact s7) (by omega) q4 (fun k _ hk => z62 k (by omega)) (S.no q1 q2 hF (z 24 (by decide) (by decide) (by decide) (by decide) (by decide)) (z 25 (by decide) (by decide) (by decide) (by decide) (by decide)) (by rw [eR]) (fun k hk _ => z62 k (by omega)) (Nat.le_refl _))
      · rw [hI_wI_n _ _ _ (by decide), m2.K (by decide) (by decide), hI_wI, if_pos ⟨rfl, rfl⟩]
      · rw [hI_wI, if_pos ⟨rfl, rfl⟩]
    · rw [z23 4 (by decide), z52 21 (by decide)]
      exact J.2.2.2.2.2.2.2.2.2.2.1
    · exact m3 _ pl (Nat.le_refl _) (by rw [eR]) (fun c h1 h2 => hI_wI_n _ _ _ (by omega)) (hI_wI_n _ _ _ (by decide)) (by rw [hI_wI_n _ _ _ (by decide)])
    · rw [eR]
    · exact z52 23 (by decide)
theorem q_bit {m k : Nat} (hm : m < 2 ^ 31) (hk : k < 31) : (nI m >>> (nI k &&& nI 31)) &&& nI 1 = nI (if m.testBit k then 1 else 0) := nI_bit hm hk
theorem q_shl {k : Nat} (hk : k < 31) : nI 1 <<< (nI k &&& nI 31) = nI (1 <<< k) := nI_shl hk
theorem up_lt {n : Nat} (hs : st < 2 ^ n) (hp : p < n) : st ||| 1 <<< p < 2 ^ n := by
  refine Nat.or_lt_two_pow hs ?_
  rw [Nat.one_shiftLeft]
  exact Nat.pow_lt_pow_right (by omega) hp
theorem q_up (a0 : Int32) : sk_Ag (JJ L xs) L xs 52 (fun h => c_SR_up 40 (some 20) a0 h) (fun h => c_M_up 40 (some 52) a0 h) := by
  refine Ag_chg lA okA (fun j h F E st tu pl hj J => ?_)
  have C := J.2.1
  have M := J.2.2.1
  have hpl := J.2.2.2.2.2.2.2.2.1
  have S := J.2.2.2.2.2.2.2.2.2.1
  obtain ⟨s0, s1, s2, s3, s4, s5, s6, s7, s8, s9⟩ := id S
  rcases s9 with ⟨q1, q2, q3⟩ | ⟨a, D, q1, q2, qw, q3, q4, q5⟩
  · refine Or.inl ⟨nM, ?_, ?_⟩
    · show c_SR_up 40 (some 20) a0 h = _
      rw [e_SR_up]
      simp only [C.k20, C.k21, C.k22, C.k23, C.k24, C.k25, C.k26, C.k27, C.k28, C.k29, C.k30, C.k31, C.k32, C.k43, C.k44, C.k45, C.k46, C.k47, C.k48, C.k49, C.k50, C.k51, C.n21, C.n22, C.n24, C.n25, C.n26, C.n27, C.n29, C.n30, C.n31, C.n43, C.n44, C.n45, C.n46, C.n47, C.n48, C.n51, C.r20_0, C.r20_2, C.r20_4, C.r20_5, C.r20_6, C.r20_7, C.r20_8, C.r23_5, C.r23_6, C.r23_7, C.r28_0, C.r28_1, C.r28_2, C.r32_3, C.r32_4, C.r32_5, C.r32_6, C.r32_7, C.r32_8, C.r49_0, C.r50_0, ↓bnd C.r20_0, ↓bnd C.r20_2, ↓bnd C.r20_4, ↓bnd C.r20_5, ↓bnd C.r20_6, ↓bnd C.r20_7, ↓bnd C.r20_8, ↓bnd C.r23_5, ↓bnd C.r23_6, ↓bnd C.r23_7, ↓bnd C.r28_0, ↓bnd C.r28_1, ↓bnd C.r28_2, ↓bnd C.r32_3, ↓bnd C.r32_4, ↓bnd C.r32_5, ↓bnd C.r32_6, ↓bnd C.r32_7, ↓bnd C.r32_8, ↓bnd C.r49_0, ↓bnd C.r50_0, ↓reduceIte, ↓Option.bind_some, if_true, if_false, true_and, and_true, and_self, true_or, or_true, false_or, or_false, not_true_eq_false, not_false_eq_true, Option.bind_some, somene, false_and, and_false, reduceCtorEq, Nat.reduceEqDiff, q1, lm1, l1]
    · show c_M_up 40 (some 52) a0 h = _
      rw [e_M_up]
      simp only [M.K52, ↓reduceIte, ↓Option.bind_some, if_true, if_false, true_and, and_true, and_self, true_or, or_true, false_or, or_false, not_true_eq_false, not_false_eq_true, Option.bind_some, somene, false_and, and_false, reduceCtorEq, Nat.reduceEqDiff, M_isPlace_0 M (q2 1 (by omega)), lm1, l1, l0]
  · have w1 := qw.1.1
    obtain ⟨-, O⟩ := J.2.2.2.2.2.2.2.1 a D q2
    obtain ⟨cc, O⟩ := O
    obtain ⟨o1, o2, o3, -⟩ := id O
    have hst4 := p12 qw.1 q4
    obtain ⟨b1, f1, f2, f3⟩ := M_isPlace_ok (d := 40) M q3 qw a0
    cases b1
    · refine Or.inl ⟨nM, ?_, ?_⟩
      · show c_SR_up 40 (some 20) a0 h = _
        rw [e_SR_up]
        rcases i_cases a0 with hx | ⟨p, hp, hx⟩
        · simp only [C.k20, C.k21, C.k22, C.k23, C.k24, C.k25, C.k26, C.k27, C.k28, C.k29, C.k30, C.k31, C.k32, C.k43, C.k44, C.k45, C.k46, C.k47, C.k48, C.k49, C.k50, C.k51, C.n21, C.n22, C.n24, C.n25, C.n26, C.n27, C.n29, C.n30, C.n31, C.n43, C.n44, C.n45, C.n46, C.n47, C.n48, C.n51, C.r20_0, C.r20_2, C.r20_4, C.r20_5, C.r20_6, C.r20_7, C.r20_8, C.r23_5, C.r23_6, C.r23_7, C.r28_0, C.r28_1, C.r28_2, C.r32_3, C.r32_4, C.r32_5, C.r32_6, C.r32_7, C.r32_8, C.r49_0, C.r50_0, ↓bnd C.r20_0, ↓bnd C.r20_2, ↓bnd C.r20_4, ↓bnd C.r20_5, ↓bnd C.r20_6, ↓bnd C.r20_7, ↓bnd C.r20_8, ↓bnd C.r23_5, ↓bnd C.r23_6, ↓bnd C.r23_7, ↓bnd C.r28_0, ↓bnd C.r28_1, ↓bnd C.r28_2, ↓bnd C.r32_3, ↓bnd C.r32_4, ↓bnd C.r32_5, ↓bnd C.r32_6, ↓bnd C.r32_7, ↓bnd C.r32_8, ↓bnd C.r49_0, ↓bnd C.r50_0, ↓reduceIte, ↓Option.bind_some, if_true, if_false, true_and, and_true, and_self, true_or, or_true, false_or, or_false, not_true_eq_false, not_false_eq_true, Option.bind_some, somene, false_and, and_false, reduceCtorEq, Nat.reduceEqDiff, q1, l0, l1, lm1, hx]
        · subst hx
          have hpn : ¬ p < aN (dA D) := fun q => f3 rfl p q rfl
          simp (disch := omega) only [C.k20, C.k21, C.k22, C.k23, C.k24, C.k25, C.k26, C.k27, C.k28, C.k29, C.k30, C.k31, C.k32, C.k43, C.k44, C.k45, C.k46, C.k47, C.k48, C.k49, C.k50, C.k51, C.n21, C.n22, C.n24, C.n25, C.n26, C.n27, C.n29, C.n30, C.n31, C.n43, C.n44, C.n45, C.n46, C.n47, C.n48, C.n51, C.r20_0, C.r20_2, C.r20_4, C.r20_5, C.r20_6, C.r20_7, C.r20_8, C.r23_5, C.r23_6, C.r23_7, C.r28_0, C.r28_1, C.r28_2, C.r32_3, C.r32_4, C.r32_5, C.r32_6, C.r32_7, C.r32_8, C.r49_0, C.r50_0, ↓bnd C.r20_0, ↓bnd C.r20_2, ↓bnd C.r20_4, ↓bnd C.r20_5, ↓bnd C.r20_6, ↓bnd C.r20_7, ↓bnd C.r20_8, ↓bnd C.r23_5, ↓bnd C.r23_6, ↓bnd C.r23_7, ↓bnd C.r28_0, ↓bnd C.r28_1, ↓bnd C.r28_2, ↓bnd C.r32_3, ↓bnd C.r32_4, ↓bnd C.r32_5, ↓bnd C.r32_6, ↓bnd C.r32_7, ↓bnd C.r32_8, ↓bnd C.r49_0, ↓bnd C.r50_0, ↓reduceIte, ↓Option.bind_some, if_true, if_false, true_and, and_true, and_self, true_or, or_true, false_or, or_false, not_true_eq_false, not_false_eq_true, Option.bind_some, somene, false_and, and_false, reduceCtorEq, Nat.reduceEqDiff, q1, l0, l1, lm1, q_lt_f, q_le_t, o2, o3.1]
      · show c_M_up 40 (some 52) a0 h = _
        rw [e_M_up]
        simp only [M.K52, ↓reduceIte, ↓Option.bind_some, if_true, if_false, true_and, and_true, and_self, true_or, or_true, false_or, or_false, not_true_eq_false, not_false_eq_true, Option.bind_some, somene, false_and, and_false, reduceCtorEq, Nat.reduceEqDiff, f1, l0, l1, lm1, q_bi0]
    · obtain ⟨p, hp, rfl⟩ := f2 rfl
      have ib := M_isOf_ok 40 (m := st) (k := p) (by omega) (by omega) h
      cases hb : st.testBit p
      · rw [hb] at ib
        obtain ⟨hk, k1, k2, k3⟩ := keep2 (d := 40) C J.2.2.2.2.2.2.2.2.2.2.2.1 s1 s2 s3 s4 s5 s6 s7 s8 q1 q2 q4
        have hu := up_lt (p := p) q4 hp
        have hu4 := p12 qw.1 hu
        have Ck1 := C.ir k2
        have Mk := M.ir k2
        have u1 : hI hk 23 1 = nI st := by rw [k2.A (by omega)]; exact s1
        generalize hv : nI (st ||| 1 <<< p) = v at *
        obtain ⟨hm, m1, m2, m3⟩ := k3 (wI hk 23 1 v) Mk (fun c h1 h2 => hI_wI_n _ _ _ (by omega)) (by rw [hI_wI_n _ _ _ (by decide), k2.A (by omega)]) (by rw [hI_wI_n _ _ _ (by decide), k2.A (by omega)]) (by rw [hI_wI_n _ _ _ (by decide), k2.A (by omega)])
        have Mm := MS.ir (h := wI hk 23 1 v) Mk m2
        have v62 : hI hm 62 = hI h 62 := by rw [m2.K (by decide) (by decide), hI_wI_n _ _ _ (by decide), k2.A (by omega)]
        have v8 : hI hm 62 8 = nI st := by rw [v62]; exact s5
        have eR : hR (wI hm 62 8 v) = hR h := by rw [hR_wI, m2.eR, hR_wI, k2.eR]
        have A1 : Ck (cl lA) h (wI hk 23 1 v) := (k2.ck (clA PA_A)).trans (Ck.vI _ _ _ (by decide))
        have A2 : Ck (cl lA) (wI hk 23 1 v) (wI hm 62 8 v) := (m2.ck (clA PK_A)).trans (Ck.vI _ _ _ (by decide))
        have hF : ∀ c, F c → Same h (wI hm 62 8 v) c := fun c hc => (A1.trans A2).same (okA.2.1 c (J.2.2.2.1.1 c hc))
        have z : ∀ c, c ≠ 62 → c ≠ 64 → c ≠ 52 → c ≠ 23 → (c < 28 ∨ 31 < c) → hI (wI hm 62 8 v) c = hI h c := fun c h1 h2 h3 h4 h5 => by
          rw [hI_wI_n _ _ _ h1, m2.K h2 h3, hI_wI_n _ _ _ h4, k2.A h5]
        have z52 : ∀ i, i ≠ 25 → hI (wI hm 62 8 v) 52 i = hI h 52 i := fun i hi => by
          rw [hI_wI_n _ _ _ (by decide), m2.I (by unfold PK; rw [beq_false_of_ne hi]; rfl), hI_wI_n _ _ _ (by decide), k2.A (by omega)]
        have z23 : ∀ i, i ≠ 1 → hI (wI hm 62 8 v) 23 i = hI h 23 i := fun i hi => by
          rw [hI_wI_n _ _ _ (by decide), m2.K (by decide) (by decide), hI_wI, if_neg (fun q => hi q.2), k2.A (by omega)]
        have z62 : ∀ i, i ≠ 8 → hI (wI hm 62 8 v) 62 i = hI h 62 i := fun i hi => by
          rw [hI_wI, if_neg (fun q => hi q.2), v62]
        have hsh : nI 1 <<< (nI p &&& nI 31) = nI (1 <<< p) := q_shl (by omega)
        have hbit : (nI st >>> (nI p &&& nI 31)) &&& nI 1 = nI 0 := by rw [q_bit (by omega) (by omega), hb]; rfl
        have hor : nI st ||| nI (1 <<< p) = v := by rw [nI_or]; exact hv
        have bc1 := JI_bc_ok (d := 40) (h := wI hk 23 1 v) hu4
        have bc2 := M_bits_ok (d := 40) (h := wI hm 62 8 v) hu4
        rw [hv] at bc1 bc2
        refine Or.inr ⟨wI hk 23 1 v, wI hm 62 8 v, nI (pc (st ||| 1 <<< p)), st ||| 1 <<< p, tu, pl, ?_, A1, ?_, A2, ?_, ?_, ?_, ?_, ?_, ?_, ?_, ?_, ?_, ?_, ?_⟩
        · show c_SR_up 40 (some 20) (nI p) h = _
          rw [e_SR_up]
          simp (disch := omega) only [C.k20, C.k23, C.k28, ↓bnd C.r20_4, ↓bnd C.r20_6, ↓bnd q1, C.r20_4, C.r20_6, ↓reduceIte, ↓Option.bind_some, if_true, if_false, true_and, and_true, and_self, true_or, or_true, false_or, or_false, not_true_eq_false, not_false_eq_true, Option.bind_some, somene, false_and, and_false, reduceCtorEq, Nat.reduceEqDiff, q1, o2, o3.1, s1, q_lt_f, q_le_f, ↓bnd k1, Ck1.k20, Ck1.k23, ↓bnd Ck1.r20_4, hK_wI, hN_wI, hn_wI, hs_wI, hJ_wI, hR_wI, hK_wJ, hN_wJ, hn_wJ, hs_wJ, hI_wJ, hR_wJ, hK_wR, hN_wR, hn_wR, hs_wR, hI_wR, hJ_wR, hI_wI, u1, l0, l1, l31, hbit, q_eq_f, hsh, hor, ↓bnd bc1]
        · show c_M_up 40 (some 52) (nI p) _ = _
          rw [e_M_up]
          have ip : c_M_isPlace 40 (some 52) (nI p) (wI hk 23 1 v) = some (wI hk 23 1 v, nI 1) := by
            obtain ⟨b2, g1, g2, g3⟩ := M_isPlace_ok (d := 40) (h := wI hk 23 1 v) Mk (D := D) (by rw [hI_wI_n _ _ _ (by decide), k2.A (by omega)]; exact q3) qw (nI p)
            cases b2
            · exact absurd rfl (g3 rfl p hp)
            · exact g1
          have io : c_M_isOf 40 (nI st) (nI p) (wI hk 23 1 v) = some (wI hk 23 1 v, nI 0) := by
            have := M_isOf_ok 40 (m := st) (k := p) (by omega) (by omega) (wI hk 23 1 v)
            rw [hb] at this; exact this
          have w8 : hI hk 62 8 = nI st := by rw [k2.A (by omega)]; exact s5
          simp (disch := omega) only [Mk.K52, ↓bnd ip, ↓bnd Mk.R20, Mk.K62, Mk.N62, l8, q_in, q_cl, w8, ↓bnd io, ↓reduceIte, ↓Option.bind_some, if_true, if_false, true_and, and_true, and_self, true_or, or_true, false_or, or_false, not_true_eq_false, not_false_eq_true, Option.bind_some, somene, false_and, and_false, reduceCtorEq, Nat.reduceEqDiff, ↓bnd m1, l0, l1, q_eq_f, Mm.K52, ↓bnd Mm.R20, Mm.K62, Mm.N62, v8, l31, hsh, hor, hK_wI, hN_wI, hR_wI, hI_wI, ↓bnd bc2]
        · show CS hm
          exact CS.ir (h := wI hk 23 1 v) Ck1 m2
        · exact Mm
        · exact J.2.2.2.2.2.1.kp (by rw [z 20 (by decide) (by decide) (by decide) (by decide) (by decide)]) (z52 1 (by decide)) (z 21 (by decide) (by decide) (by decide) (by decide) (by decide)) (z 53 (by decide) (by decide) (by decide) (by decide) (by decide))
        · rw [z 20 (by decide) (by decide) (by decide) (by decide) (by decide)]
        · exact z52 2 (by decide)
        · omega
        · refine S.upd q1 q2 (by rw [eR]) (S.r3 hF (by rw [eR])) ?_ (by rw [z23 2 (by decide)]; exact s2) (by rw [z23 3 (by decide)]; exact s3) (by rw [z62 7 (by decide)]; exact s4) ?_ (by rw [z62 9 (by decide)]; exact s6) (by rw [z62 10 (by decide)]; exact s7) s8 hu (fun k _ hk => z62 k (by omega)) (S.no q1 q2 hF (z 24 (by decide) (by decide) (by decide) (by decide) (by decide)) (z 25 (by decide) (by decide) (by decide) (by decide) (by decide)) (by rw [eR]) (fun k hk _ => z62 k (by omega)) (Nat.le_refl _))
          · rw [hI_wI_n _ _ _ (by decide), m2.K (by decide) (by decide), hI_wI, if_pos ⟨rfl, rfl⟩, hv]
          · rw [hI_wI, if_pos ⟨rfl, rfl⟩, hv]
        · rw [z23 4 (by decide), z52 21 (by decide)]
          exact J.2.2.2.2.2.2.2.2.2.2.1
        · exact m3 _ pl (Nat.le_refl _) (by rw [eR]) (fun c h1 h2 => hI_wI_n _ _ _ (by omega)) (hI_wI_n _ _ _ (by decide)) (by rw [hI_wI_n _ _ _ (by decide)])
        · rw [eR]
        · exact z52 23 (by decide)
      · rw [hb] at ib
        have hbit : (nI st >>> (nI p &&& nI 31)) &&& nI 1 = nI 1 := by rw [q_bit (by omega) (by omega), hb]; rfl
        refine Or.inl ⟨nM, ?_, ?_⟩
        · show c_SR_up 40 (some 20) (nI p) h = _
          rw [e_SR_up]
          simp (disch := omega) only [C.k20, C.k21, C.k22, C.k23, C.k24, C.k25, C.k26, C.k27, C.k28, C.k29, C.k30, C.k31, C.k32, C.k43, C.k44, C.k45, C.k46, C.k47, C.k48, C.k49, C.k50, C.k51, C.n21, C.n22, C.n24, C.n25, C.n26, C.n27, C.n29, C.n30, C.n31, C.n43, C.n44, C.n45, C.n46, C.n47, C.n48, C.n51, C.r20_0, C.r20_2, C.r20_4, C.r20_5, C.r20_6, C.r20_7, C.r20_8, C.r23_5, C.r23_6, C.r23_7, C.r28_0, C.r28_1, C.r28_2, C.r32_3, C.r32_4, C.r32_5, C.r32_6, C.r32_7, C.r32_8, C.r49_0, C.r50_0, ↓bnd C.r20_0, ↓bnd C.r20_2, ↓bnd C.r20_4, ↓bnd C.r20_5, ↓bnd C.r20_6, ↓bnd C.r20_7, ↓bnd C.r20_8, ↓bnd C.r23_5, ↓bnd C.r23_6, ↓bnd C.r23_7, ↓bnd C.r28_0, ↓bnd C.r28_1, ↓bnd C.r28_2, ↓bnd C.r32_3, ↓bnd C.r32_4, ↓bnd C.r32_5, ↓bnd C.r32_6, ↓bnd C.r32_7, ↓bnd C.r32_8, ↓bnd C.r49_0, ↓bnd C.r50_0, ↓reduceIte, ↓Option.bind_some, if_true, if_false, true_and, and_true, and_self, true_or, or_true, false_or, or_false, not_true_eq_false, not_false_eq_true, Option.bind_some, somene, false_and, and_false, reduceCtorEq, Nat.reduceEqDiff, q1, l0, l1, l31, lm1, q_lt_f, q_le_f, o2, o3.1, s1, hbit]
        · show c_M_up 40 (some 52) (nI p) h = _
          rw [e_M_up]
          simp (disch := omega) only [M.K52, ↓bnd M.R20, M.K62, M.N62, ↓reduceIte, ↓Option.bind_some, if_true, if_false, true_and, and_true, and_self, true_or, or_true, false_or, or_false, not_true_eq_false, not_false_eq_true, Option.bind_some, somene, false_and, and_false, reduceCtorEq, Nat.reduceEqDiff, ↓bnd f1, l0, l1, l8, lm1, q_bi0, q_in, q_cl, s5, ↓bnd ib, Bool.true_eq_false]
theorem M_un_s {u : Nat} (M : MS 52 h) (i25 : hI h 52 25 = nI u) (hu : u < 20) (hk : k < 4) : k_M_undo_21 d (some 52) (nI k) h = k_M_undo_21 d (some 52) (nI (k + 1)) (wI h 62 (7 + k) (hI h 64 (4 * u + k))) := by
  rw [e_M_undo_21]
  simp (disch := omega) only [M.K52, M.R0, M.R3, M.R4, M.R5, M.R6, M.R7, M.R15, M.R17, M.R19, M.R20, M.R22, M.R24, M.R26, M.R27, M.R28, M.R29, M.R30, M.R37, M.R38, M.R39, ↓bnd M.R0, ↓bnd M.R3, ↓bnd M.R4, ↓bnd M.R5, ↓bnd M.R6, ↓bnd M.R7, ↓bnd M.R15, ↓bnd M.R17, ↓bnd M.R19, ↓bnd M.R20, ↓bnd M.R22, ↓bnd M.R24, ↓bnd M.R26, ↓bnd M.R27, ↓bnd M.R28, ↓bnd M.R29, ↓bnd M.R30, ↓bnd M.R37, ↓bnd M.R38, ↓bnd M.R39, M.K53, M.K54, M.K55, M.K56, M.K57, M.K58, M.K59, M.K60, M.K61, M.K62, M.K63, M.K64, M.K65, M.K66, M.K67, M.K68, M.K69, M.K70, M.K71, M.K72, M.N53, M.N54, M.N55, M.N56, M.N57, M.N58, M.N59, M.N60, M.N61, M.N62, M.N63, M.N64, M.N65, M.N66, M.N67, M.N68, M.N69, M.N70, M.N71, M.N72, ↓reduceIte, ↓Option.bind_some, if_true, if_false, true_and, and_true, and_self, true_or, or_true, false_or, or_false, not_true_eq_false, not_false_eq_true, Option.bind_some, somene, false_and, and_false, reduceCtorEq, Nat.reduceEqDiff, i25, l4, l7, l1, pk_mul, nI_add, q_le_f, q_in, q_cl]
theorem M_un {u : Nat} (M : MS 52 h) (i25 : hI h 52 25 = nI u) (hu : u < 20) : ∃ h', k_M_undo_21 d (some 52) (nI 0) h = some (h', nI u) ∧ Iq P62 h h' ∧ (∀ k, k < 4 → hI h' 62 (7 + k) = hI h 64 (4 * u + k)) ∧ ∀ i, (i < 7 ∨ 10 < i) → hI h' 62 i = hI h 62 i := by
  refine ⟨wI (wI (wI (wI h 62 (7 + 0) (hI h 64 (4 * u + 0))) 62 (7 + 1) (hI h 64 (4 * u + 1))) 62 (7 + 2) (hI h 64 (4 * u + 2))) 62 (7 + 3) (hI h 64 (4 * u + 3)), ?_, ?_, fun k hk => ?_, fun i hi => ?_⟩
  · rw [M_un_s M i25 hu (k := 0) (by omega)]
    have i1 : hI (wI h 62 (7 + 0) (hI h 64 (4 * u + 0))) 52 25 = nI u := by rw [hI_wI_n _ _ _ (by decide)]; exact i25
    rw [M_un_s (h := wI h 62 (7 + 0) (hI h 64 (4 * u + 0))) M i1 hu (k := 1) (by omega), hI_wI_n _ _ _ (show (64 : Nat) ≠ 62 by decide)]
    have i2 : hI (wI (wI h 62 (7 + 0) (hI h 64 (4 * u + 0))) 62 (7 + 1) (hI h 64 (4 * u + 1))) 52 25 = nI u := by rw [hI_wI_n _ _ _ (by decide)]; exact i1
    rw [M_un_s (h := wI (wI h 62 (7 + 0) (hI h 64 (4 * u + 0))) 62 (7 + 1) (hI h 64 (4 * u + 1))) M i2 hu (k := 2) (by omega), hI_wI_n _ _ _ (show (64 : Nat) ≠ 62 by decide), hI_wI_n _ _ _ (show (64 : Nat) ≠ 62 by decide)]
    have i3 : hI (wI (wI (wI h 62 (7 + 0) (hI h 64 (4 * u + 0))) 62 (7 + 1) (hI h 64 (4 * u + 1))) 62 (7 + 2) (hI h 64 (4 * u + 2))) 52 25 = nI u := by rw [hI_wI_n _ _ _ (by decide)]; exact i2
    rw [M_un_s (h := wI (wI (wI h 62 (7 + 0) (hI h 64 (4 * u + 0))) 62 (7 + 1) (hI h 64 (4 * u + 1))) 62 (7 + 2) (hI h 64 (4 * u + 2))) M i3 hu (k := 3) (by omega), hI_wI_n _ _ _ (show (64 : Nat) ≠ 62 by decide), hI_wI_n _ _ _ (show (64 : Nat) ≠ 62 by decide), hI_wI_n _ _ _ (show (64 : Nat) ≠ 62 by decide)]
    have i4 : hI (wI (wI (wI (wI h 62 (7 + 0) (hI h 64 (4 * u + 0))) 62 (7 + 1) (hI h 64 (4 * u + 1))) 62 (7 + 2) (hI h 64 (4 * u + 2))) 62 (7 + 3) (hI h 64 (4 * u + 3))) 52 25 = nI u := by rw [hI_wI_n _ _ _ (by decide)]; exact i3
    rw [e_M_undo_21, i4]
    simp (disch := omega) only [↓reduceIte, ↓Option.bind_some, if_true, if_false, true_and, and_true, and_self, true_or, or_true, false_or, or_false, not_true_eq_false, not_false_eq_true, Option.bind_some, somene, false_and, and_false, reduceCtorEq, Nat.reduceEqDiff, hK_wI, M.K52, l4, q_le_t]
  · exact (((Iq.w _ _ rfl).trans (Iq.w _ _ rfl)).trans (Iq.w _ _ rfl)).trans (Iq.w _ _ rfl)
  · rcases (show k = 0 ∨ k = 1 ∨ k = 2 ∨ k = 3 by omega) with rfl | rfl | rfl | rfl
    all_goals
      simp only [hI_wI, ↓reduceIte, ↓Option.bind_some, if_true, if_false, true_and, and_true, and_self, true_or, or_true, false_or, or_false, not_true_eq_false, not_false_eq_true, Option.bind_some, somene, false_and, and_false, reduceCtorEq, Nat.reduceEqDiff, Nat.reduceAdd]
  · have n0 : ¬ i = 7 + 0 := by omega
    have n1 : ¬ i = 7 + 1 := by omega
    have n2 : ¬ i = 7 + 2 := by omega
    have n3 : ¬ i = 7 + 3 := by omega
    simp only [hI_wI, ↓reduceIte, ↓Option.bind_some, if_true, if_false, true_and, and_true, and_self, true_or, or_true, false_or, or_false, not_true_eq_false, not_false_eq_true, Option.bind_some, somene, false_and, and_false, reduceCtorEq, Nat.reduceEqDiff, n0, n1, n2, n3]
theorem Iq.n62 (Q : Iq P62 h h1) {c : Nat} (hc : c ≠ 62) : hI h1 c = hI h c := funext fun _ => Q.I (by unfold P62; exact beq_false_of_ne hc)
theorem q_undo : sk_Ag (JJ L xs) L xs 52 (fun h => c_SR_undo 40 (some 20) h) (fun h => c_M_undo 40 (some 52) h) := by
  refine Ag_chg lA okA (fun j h F E st tu pl hj J => ?_)
  have C := J.2.1
  have M := J.2.2.1
  have hpl := J.2.2.2.2.2.2.2.2.1
  have S := J.2.2.2.2.2.2.2.2.2.1
  obtain ⟨nx, kp, f, hnx, hkp, c3, c4, m25, cn, fa, fm⟩ := J.2.2.2.2.2.2.2.2.2.2.2.1
  rcases Nat.eq_zero_or_pos kp with h0 | h0
  · subst h0
    refine Or.inl ⟨nM, ?_, ?_⟩
    · show c_SR_undo 40 (some 20) h = _
      rw [e_SR_undo]
      have e : c_Ac_takeBack 40 (some 28) (some 23) h = some (h, nM) := by
        rw [e_Ac_takeBack]
        simp only [C.k20, C.k21, C.k22, C.k23, C.k24, C.k25, C.k26, C.k27, C.k28, C.k29, C.k30, C.k31, C.k32, C.k43, C.k44, C.k45, C.k46, C.k47, C.k48, C.k49, C.k50, C.k51, C.n21, C.n22, C.n24, C.n25, C.n26, C.n27, C.n29, C.n30, C.n31, C.n43, C.n44, C.n45, C.n46, C.n47, C.n48, C.n51, C.r20_0, C.r20_2, C.r20_4, C.r20_5, C.r20_6, C.r20_7, C.r20_8, C.r23_5, C.r23_6, C.r23_7, C.r28_0, C.r28_1, C.r28_2, C.r32_3, C.r32_4, C.r32_5, C.r32_6, C.r32_7, C.r32_8, C.r49_0, C.r50_0, ↓bnd C.r20_0, ↓bnd C.r20_2, ↓bnd C.r20_4, ↓bnd C.r20_5, ↓bnd C.r20_6, ↓bnd C.r20_7, ↓bnd C.r20_8, ↓bnd C.r23_5, ↓bnd C.r23_6, ↓bnd C.r23_7, ↓bnd C.r28_0, ↓bnd C.r28_1, ↓bnd C.r28_2, ↓bnd C.r32_3, ↓bnd C.r32_4, ↓bnd C.r32_5, ↓bnd C.r32_6, ↓bnd C.r32_7, ↓bnd C.r32_8, ↓bnd C.r49_0, ↓bnd C.r50_0, ↓reduceIte, ↓Option.bind_some, if_true, if_false, true_and, and_true, and_self, true_or, or_true, false_or, or_false, not_true_eq_false, not_false_eq_true, Option.bind_some, somene, false_and, and_false, reduceCtorEq, Nat.reduceEqDiff, c4, l0, l1, lm1]
      simp only [C.k20, C.k28, C.r20_6, C.r20_4, ↓reduceIte, ↓Option.bind_some, if_true, if_false, true_and, and_true, and_self, true_or, or_true, false_or, or_false, not_true_eq_false, not_false_eq_true, Option.bind_some, somene, false_and, and_false, reduceCtorEq, Nat.reduceEqDiff, e]
    · show c_M_undo 40 (some 52) h = _
      rw [e_M_undo]
      simp only [M.K52, ↓reduceIte, ↓Option.bind_some, if_true, if_false, true_and, and_true, and_self, true_or, or_true, false_or, or_false, not_true_eq_false, not_false_eq_true, Option.bind_some, somene, false_and, and_false, reduceCtorEq, Nat.reduceEqDiff, m25, l0, l1, lm1]
  · obtain ⟨s0, s1, s2, s3, s4, s5, s6, s7, s8, s9⟩ := id S
    rcases s9 with ⟨q1, q2, q3⟩ | ⟨a, D, q1, q2, qw, q3, q4, q5⟩
    · have := cn q1; omega
    · obtain ⟨g1, g2, g3, g4, g5, g6, g7, g8, g9, g10⟩ := fa (kp - 1) (by omega)
      have ei : (nx + 20 - kp + (kp - 1)) % 20 = (nx + 19) % 20 := by omega
      rw [ei] at g4 g5 g6
      have hst' := g3 a D q1 q2
      obtain ⟨w, hw, hwl⟩ : ∃ w, (nx + 19) % 20 = w ∧ w < 20 := ⟨_, rfl, by omega⟩
      rw [hw] at g4 g5 g6
      generalize hfs : (f (kp - 1)).1 = st' at *
      generalize hft : (f (kp - 1)).2.1 = tu' at *
      generalize hfp : (f (kp - 1)).2.2 = pl' at *
      obtain ⟨h1, hh1⟩ : ∃ h1, h1 = wI (wI (wI (wI (wI h 28 3 (nI w)) 28 4 (nI (kp - 1))) 23 1 (nI st')) 23 2 (nI tu')) 23 3 (nI pl') := ⟨_, rfl⟩
      have e1 : c_Ac_takeBack 40 (some 28) (some 23) h = some (h1, nI (kp - 1)) := by
        rw [e_Ac_takeBack, hh1]
        have hrem : nI (nx + 19) - nI (nx + 19) / nI 20 * nI 20 = nI w := by rw [q_rem (by omega) (by omega) (by omega), hw]
        have hsub : nI (nx + 20) - nI 1 = nI (nx + 19) := by rw [q_sub (by omega)]; rfl
        simp (disch := omega) only [C.k20, C.k21, C.k22, C.k23, C.k24, C.k25, C.k26, C.k27, C.k28, C.k29, C.k30, C.k31, C.k32, C.k43, C.k44, C.k45, C.k46, C.k47, C.k48, C.k49, C.k50, C.k51, C.n21, C.n22, C.n24, C.n25, C.n26, C.n27, C.n29, C.n30, C.n31, C.n43, C.n44, C.n45, C.n46, C.n47, C.n48, C.n51, C.r20_0, C.r20_2, C.r20_4, C.r20_5, C.r20_6, C.r20_7, C.r20_8, C.r23_5, C.r23_6, C.r23_7, C.r28_0, C.r28_1, C.r28_2, C.r32_3, C.r32_4, C.r32_5, C.r32_6, C.r32_7, C.r32_8, C.r49_0, C.r50_0, ↓bnd C.r20_0, ↓bnd C.r20_2, ↓bnd C.r20_4, ↓bnd C.r20_5, ↓bnd C.r20_6, ↓bnd C.r20_7, ↓bnd C.r20_8, ↓bnd C.r23_5, ↓bnd C.r23_6, ↓bnd C.r23_7, ↓bnd C.r28_0, ↓bnd C.r28_1, ↓bnd C.r28_2, ↓bnd C.r32_3, ↓bnd C.r32_4, ↓bnd C.r32_5, ↓bnd C.r32_6, ↓bnd C.r32_7, ↓bnd C.r32_8, ↓bnd C.r49_0, ↓bnd C.r50_0, ↓reduceIte, ↓Option.bind_some, if_true, if_false, true_and, and_true, and_self, true_or, or_true, false_or, or_false, not_true_eq_false, not_false_eq_true, Option.bind_some, somene, false_and, and_false, reduceCtorEq, Nat.reduceEqDiff, hK_wI, hN_wI, hn_wI, hs_wI, hJ_wI, hR_wI, hK_wJ, hN_wJ, hn_wJ, hs_wJ, hI_wJ, hR_wJ, hK_wR, hN_wR, hn_wR, hs_wR, hI_wR, hJ_wR, hI_wI, c3, c4, l20, l1, l0, q_in, q_cl, nI_add, q_eq_f, hsub, hrem, q_sub, g4, g5, g6]
      have A1 : Ck (cl lA) h h1 := by
        rw [hh1]
        exact ((((Ck.vI _ _ _ (by decide)).trans (Ck.vI _ _ _ (by decide))).trans (Ck.vI _ _ _ (by decide))).trans (Ck.vI _ _ _ (by decide))).trans (Ck.vI _ _ _ (by decide))
      have C1 : CS h1 := by rw [hh1]; exact C
      have M1 : MS 52 h1 := by rw [hh1]; exact M
      have R1 : hR h1 = hR h := by rw [hh1]; rfl
      have y : ∀ c, c ≠ 23 → c ≠ 28 → hI h1 c = hI h c := fun c n1 n2 => by
        rw [hh1, hI_wI_n _ _ _ n1, hI_wI_n _ _ _ n1, hI_wI_n _ _ _ n1, hI_wI_n _ _ _ n2, hI_wI_n _ _ _ n2]
      have M1' : MS 52 (wI h1 52 25 (nI (kp - 1))) := M1
      obtain ⟨h2, m1, m2, m3, m4⟩ := M_un (d := 40) (u := kp - 1) M1' (by rw [hI_wI, if_pos ⟨rfl, rfl⟩]) (by omega)
      have R2 : hR h2 = hR h := by rw [m2.eR, hR_wI, R1]
      have A2 : Ck (cl lA) h1 h2 := (Ck.vI _ _ _ (by decide)).trans (m2.ck (clA P62_A))
      have hF : ∀ c, F c → Same h h2 c := fun c hc => (A1.trans A2).same (okA.2.1 c (J.2.2.2.1.1 c hc))
      have z : ∀ c, c ≠ 62 → c ≠ 52 → hI h2 c = hI h1 c := fun c n1 n2 => by rw [m2.n62 n1, hI_wI_n _ _ _ n2]
      have z52 : ∀ i, i ≠ 25 → hI h2 52 i = hI h 52 i := fun i hi => by rw [m2.n62 (by decide), hI_wI, if_neg (fun q => hi q.2), y 52 (by decide) (by decide)]
      have z62 : ∀ i, (i < 7 ∨ 10 < i) → hI h2 62 i = hI h 62 i := fun i hi => by rw [m4 i hi, hI_wI_n _ _ _ (by decide), y 62 (by decide) (by decide)]
      have z64 : ∀ k, k < 4 → hI h2 62 (7 + k) = hI h 64 (4 * (kp - 1) + k) := fun k hk => by rw [m3 k hk, hI_wI_n _ _ _ (by decide), y 64 (by decide) (by decide)]
      refine Or.inr ⟨h1, h2, nI (kp - 1), st', tu', pl', ?_, A1, ?_, A2, C1.cg (fun a _ => by rw [A2.eK, A2.eN]; exact ⟨rfl, rfl⟩) (fun q _ => by rw [R2, R1]), M1.ck A2 (by rw [R2, R1]), ?_, ?_, ?_, ?_, ?_, ?_, ?_, ?_, ?_⟩
      · show c_SR_undo 40 (some 20) h = _
        rw [e_SR_undo]
        simp only [C.k20, C.k28, C.r20_6, C.r20_4, ↓reduceIte, ↓Option.bind_some, if_true, if_false, true_and, and_true, and_self, true_or, or_true, false_or, or_false, not_true_eq_false, not_false_eq_true, Option.bind_some, somene, false_and, and_false, reduceCtorEq, Nat.reduceEqDiff, e1]
      · show c_M_undo 40 (some 52) h1 = _
        rw [e_M_undo]
        have i25 : hI h1 52 25 = nI kp := by rw [y 52 (by decide) (by decide)]; exact m25
        simp (disch := omega) only [M1.K52, ↓reduceIte, ↓Option.bind_some, if_true, if_false, true_and, and_true, and_self, true_or, or_true, false_or, or_false, not_true_eq_false, not_false_eq_true, Option.bind_some, somene, false_and, and_false, reduceCtorEq, Nat.reduceEqDiff, i25, l0, l1, q_eq_f, q_sub, m1]
      · exact J.2.2.2.2.2.1.kp (by rw [z 20 (by decide) (by decide), y 20 (by decide) (by decide)]) (z52 1 (by decide)) (by rw [z 21 (by decide) (by decide), y 21 (by decide) (by decide)]) (by rw [z 53 (by decide) (by decide), y 53 (by decide) (by decide)])
      · rw [z 20 (by decide) (by decide), y 20 (by decide) (by decide)]
      · exact z52 2 (by decide)
      · omega
      · refine S.upd q1 q2 (by rw [R2]) (S.r3 hF (by rw [R2])) ?_ ?_ ?_ ((z64 0 (by omega)).trans g7) ((z64 1 (by omega)).trans g8) ((z64 2 (by omega)).trans g9) ((z64 3 (by omega)).trans g10) g1 hst' (fun k _ hk => z62 k hk) (S.no q1 q2 hF (by rw [z 24 (by decide) (by decide), y 24 (by decide) (by decide)]) (by rw [z 25 (by decide) (by decide), y 25 (by decide) (by decide)]) (by rw [R2]) (fun k hk _ => z62 k (by omega)) g2)
        · rw [z 23 (by decide) (by decide), hh1]; simp only [hI_wI, ↓reduceIte, ↓Option.bind_some, if_true, if_false, true_and, and_true, and_self, true_or, or_true, false_or, or_false, not_true_eq_false, not_false_eq_true, Option.bind_some, somene, false_and, and_false, reduceCtorEq, Nat.reduceEqDiff]
        · rw [z 23 (by decide) (by decide), hh1]; simp only [hI_wI, ↓reduceIte, ↓Option.bind_some, if_true, if_false, true_and, and_true, and_self, true_or, or_true, false_or, or_false, not_true_eq_false, not_false_eq_true, Option.bind_some, somene, false_and, and_false, reduceCtorEq, Nat.reduceEqDiff]
        · rw [z 23 (by decide) (by decide), hh1]; simp only [hI_wI, ↓reduceIte, ↓Option.bind_some, if_true, if_false, true_and, and_true, and_self, true_or, or_true, false_or, or_false, not_true_eq_false, not_false_eq_true, Option.bind_some, somene, false_and, and_false, reduceCtorEq, Nat.reduceEqDiff]
      · rw [z52 21 (by decide), z 23 (by decide) (by decide), hh1]
        simp only [hI_wI, ↓reduceIte, ↓Option.bind_some, if_true, if_false, true_and, and_true, and_self, true_or, or_true, false_or, or_false, not_true_eq_false, not_false_eq_true, Option.bind_some, somene, false_and, and_false, reduceCtorEq, Nat.reduceEqDiff]
        exact J.2.2.2.2.2.2.2.2.2.2.1
      · refine ⟨w, kp - 1, f, hwl, by omega, ?_, ?_, ?_, fun q => ?_, fun i hi => ?_, fun i k hik hk => fm i k hik (by omega)⟩
        · rw [z 28 (by decide) (by decide), hh1]; simp only [hI_wI, ↓reduceIte, ↓Option.bind_some, if_true, if_false, true_and, and_true, and_self, true_or, or_true, false_or, or_false, not_true_eq_false, not_false_eq_true, Option.bind_some, somene, false_and, and_false, reduceCtorEq, Nat.reduceEqDiff]
        · rw [z 28 (by decide) (by decide), hh1]; simp only [hI_wI, ↓reduceIte, ↓Option.bind_some, if_true, if_false, true_and, and_true, and_self, true_or, or_true, false_or, or_false, not_true_eq_false, not_false_eq_true, Option.bind_some, somene, false_and, and_false, reduceCtorEq, Nat.reduceEqDiff]
        · rw [m2.n62 (by decide), hI_wI, if_pos ⟨rfl, rfl⟩]
        · rw [R2, q1] at q; cases q
        · obtain ⟨p1, p2, p3, p4, p5, p6, p7, p8, p9, p10⟩ := fa i (by omega)
          have ej : (w + 20 - (kp - 1) + i) % 20 = (nx + 20 - kp + i) % 20 := by omega
          have em := fm i (kp - 1) (by omega) (by omega)
          rw [hfp] at em
          rw [ej, z 29 (by decide) (by decide), z 30 (by decide) (by decide), z 31 (by decide) (by decide), z 64 (by decide) (by decide), y 29 (by decide) (by decide), y 30 (by decide) (by decide), y 31 (by decide) (by decide), y 64 (by decide) (by decide), R2]
          exact ⟨p1, em, p3, p4, p5, p6, p7, p8, p9, p10⟩
      · rw [R2]
      · exact z52 23 (by decide)
end SkPlay
