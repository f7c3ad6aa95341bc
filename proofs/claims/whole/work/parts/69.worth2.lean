/-! ===== worth: the reference; the call ===== -/
def wS (A : AD) (r H : Nat) (E : Bool) (m p k v : Nat) : Prop := ∃ p' k', aSt A r ≤ p' ∧ p' < aSt A r + aSz A r ∧ 1 ≤ k' ∧ k' ≤ 4 ∧ cB A m p' k' H E = true ∧ (p' < p ∨ (p' = p ∧ k' < k)) ∧ v = Vr A r H E (an m (sB A p' k'))
def P65 (a _i : Nat) : Bool := a == 65 || a == 66
section SkWorth2
variable {L : Nat} {xs' : Nat → Int32} {F G : Nat → Prop} {E : Nat → Option DD} {h h' h1 h2 : sk_H} {j st tu pl a m p k n i w l r : Nat} {D : DD} {c : Nat → Nat} {d : Nat}
theorem Vr_cg {A : AD} {m m' : Nat} (W : aW A) (hr : r < aK A) (e : ∀ t, t < aSz A r → m.testBit (aSt A r + t) = m'.testBit (aSt A r + t)) (H : Nat) (E : Bool) : Vr A r H E m = Vr A r H E m' := by
  have w3 := W.2.2.1 r hr
  have ew : whole A r m = whole A r m' := by
    cases h1 : whole A r m <;> cases h2 : whole A r m'
    · rfl
    · obtain ⟨q1, q2⟩ := whole_iff.mp h2
      rw [whole_iff.mpr ⟨q1, fun j hj => by rw [e j hj]; exact q2 j hj⟩] at h1; cases h1
    · obtain ⟨q1, q2⟩ := whole_iff.mp h1
      rw [whole_iff.mpr ⟨q1, fun j hj => by rw [← e j hj]; exact q2 j hj⟩] at h2; cases h2
    · rfl
  cases h1 : whole A r m
  · obtain ⟨o, gp⟩ := no_whole W hr h1
    have ep : ∀ i, m.testBit (po A r o i) = m'.testBit (po A r o i) := fun i => e _ (Nat.mod_lt _ (by omega))
    have gp' : gap A r o m' := ⟨gp.1, fun q => by rw [← ep]; exact gp.2 q⟩
    rw [Vr_lv W hr gp, Vr_lv W hr gp']
    unfold lst
    rw [rg_cg (fun i _ => ep i)]
  · unfold Vr
    rw [← ew, h1]
    rfl
/-- what the reference's table holds -/
def WI (D : DD) (r st n : Nat) (h : sk_H) : Prop := MS 52 h ∧ mSaid D (hI h 62) ∧ hI h 62 8 = nI st ∧ ∀ j, j < n → hI h 65 j = nI (Vr (dA D) r (dH D) (dE D) (j <<< aSt (dA D) r))
theorem WI.iq (I : WI D r st n h) (Q : Iq P66 h h1) : WI D r st n h1 := by
  have q62 : hI h1 62 = hI h 62 := funext fun i => Q.I rfl
  have q65 : hI h1 65 = hI h 65 := funext fun i => Q.I rfl
  exact ⟨I.1.ir Q, by rw [q62]; exact I.2.1, by rw [q62]; exact I.2.2.1, by rw [q65]; exact I.2.2.2⟩
theorem shl_lt {S Z n : Nat} (hn : n < 2 ^ Z) (h : S + Z ≤ 12) : n <<< S < 4096 := by
  rw [Nat.shiftLeft_eq]
  have h1 : n * 2 ^ S < 2 ^ Z * 2 ^ S := Nat.mul_lt_mul_of_pos_right hn (Nat.pow_pos (by decide))
  rw [← Nat.pow_add] at h1
  have h2 : 2 ^ (Z + S) ≤ 2 ^ 12 := Nat.pow_le_pow_right (by decide) (by omega)
  omega
theorem M_w81 (w : dW D) (hr : r < aK (dA D)) (hn : n < 2 ^ aSz (dA D) r) (hp1 : aSt (dA D) r ≤ p) (hp2 : p < aSt (dA D) r + aSz (dA D) r) {x3 : Int32} : ∀ (c k : Nat) (h : sk_H), k + c = 5 → 1 ≤ k → WI D r st n h → SnP h (wS (dA D) r (dH D) (dE D) (n <<< aSt (dA D) r) p k) → ∃ h', k_M_worth_81 d (some 52) (nI r) (nI (aSt (dA D) r)) x3 (nI n) (nI (n <<< aSt (dA D) r)) (nI p) (nI k) h = k_M_worth_62 d (some 52) (nI r) (nI (aSt (dA D) r)) x3 (nI n) (nI (n <<< aSt (dA D) r)) (nI (p + 1)) h' ∧ Iq P66 h h' ∧ SnP h' (wS (dA D) r (dH D) (dE D) (n <<< aSt (dA D) r) (p + 1) 1)
  | 0, k, h, hk, h1, I, s => by
    have e : k = 5 := by omega
    subst e
    refine ⟨h, ?_, Iq.refl h, SnP_cg s (fun v _ => ?_)⟩
    · rw [e_M_worth_81]
      simp (disch := omega) only [l4, l1, q_lt_t, if_true, nI_add]
    · constructor
      · rintro ⟨p', k', a1, a2, a3, a4, a5, a6, a7⟩
        exact ⟨p', k', a1, a2, a3, a4, a5, Or.inl (by omega), a7⟩
      · rintro ⟨p', k', a1, a2, a3, a4, a5, a6, a7⟩
        exact ⟨p', k', a1, a2, a3, a4, a5, by omega, a7⟩
  | c + 1, k, h, hk, h1, I, s => by
    obtain ⟨M, S, s8, tb⟩ := id I
    have w1 := w.1.1
    have w3 := w.1.2.2.1 r hr
    have hm4 := shl_lt (S := aSt (dA D) r) hn (by omega)
    have hpn : p < aN (dA D) := by omega
    have cb := M_canBeNow_ok d M w S hm4 hpn h1 (show k ≤ 4 by omega)
    cases hc : cB (dA D) (n <<< aSt (dA D) r) p k (dH D) (dE D)
    · rw [hc] at cb
      obtain ⟨h', e1, e2, e3⟩ := M_w81 w hr hn hp1 hp2 (x3 := x3) c (k + 1) h (by omega) (by omega) I (SnP_cg s (fun v _ => by
        constructor
        · rintro ⟨p', k', a1, a2, a3, a4, a5, a6, a7⟩
          exact ⟨p', k', a1, a2, a3, a4, a5, by omega, a7⟩
        · rintro ⟨p', k', a1, a2, a3, a4, a5, a6, a7⟩
          refine ⟨p', k', a1, a2, a3, a4, a5, ?_, a7⟩
          by_cases q : p' = p ∧ k' = k
          · rw [q.1, q.2, hc] at a5; cases a5
          · omega))
      refine ⟨h', ?_, e2, e3⟩
      rw [← e1, e_M_worth_81]
      simp (disch := omega) only [M.K52, ↓reduceIte, ↓Option.bind_some, if_true, if_false, true_and, and_true, and_self, true_or, or_true, false_or, or_false, not_true_eq_false, not_false_eq_true, Option.bind_some, somene, false_and, and_false, reduceCtorEq, Nat.reduceEqDiff, l4, l0, l1, q_lt_f, ↓bnd cb, q_bi0, nI_add]
    · rw [hc] at cb
      obtain ⟨-, y1, y2⟩ := cB_sub hc
      have sb := M_strokeBits_ok (b := 52) d M w.1 S.1 hpn (show k ≤ 4 by omega)
      have hx := an_sub hm4 y1 y2
      have hx4 := an_lt (sB (dA D) p k) hm4
      have back : (an (n <<< aSt (dA D) r) (sB (dA D) p k) >>> aSt (dA D) r) <<< aSt (dA D) r = an (n <<< aSt (dA D) r) (sB (dA D) p k) := Nat.eq_of_testBit_eq fun c => by
        rw [Nat.testBit_shiftLeft, Nat.testBit_shiftRight]
        by_cases q : c ≥ aSt (dA D) r
        · rw [decide_eq_true q, Bool.true_and, show aSt (dA D) r + (c - aSt (dA D) r) = c by omega]
        · rw [decide_eq_false q, Bool.false_and, an_bit _ _ hm4, Nat.testBit_shiftLeft, decide_eq_false q, Bool.false_and, Bool.false_and]
      have xl : an (n <<< aSt (dA D) r) (sB (dA D) p k) >>> aSt (dA D) r < n := by
        rw [← back, Nat.shiftLeft_eq (an (n <<< aSt (dA D) r) (sB (dA D) p k) >>> aSt (dA D) r)] at hx
        have hx2 : an (n <<< aSt (dA D) r) (sB (dA D) p k) >>> aSt (dA D) r * 2 ^ aSt (dA D) r < n * 2 ^ aSt (dA D) r := by
          rw [← Nat.shiftLeft_eq n]; exact hx
        exact Nat.lt_of_mul_lt_mul_right hx2
      have p12 : 2 ^ aSz (dA D) r ≤ 4096 := pow12 (by omega)
      have t1 := tb _ xl
      rw [back] at t1
      have vl := Vr_lt (r := r) (m := an (n <<< aSt (dA D) r) (sB (dA D) p k)) w.1 (dH D) (dE D)
      obtain ⟨h', e1, e2, e3⟩ := M_w81 w hr hn hp1 hp2 (x3 := x3) c (k + 1) (wI h 66 (Vr (dA D) r (dH D) (dE D) (an (n <<< aSt (dA D) r) (sB (dA D) p k))) (nI 1)) (by omega) (by omega) (I.iq (Iq.w _ _ rfl)) (SnP_cg (SnP_w s) (fun v _ => by
        constructor
        · rintro (⟨p', k', a1, a2, a3, a4, a5, a6, a7⟩ | q)
          · exact ⟨p', k', a1, a2, a3, a4, a5, by omega, a7⟩
          · exact ⟨p, k, hp1, hp2, h1, by omega, hc, Or.inr ⟨rfl, by omega⟩, q⟩
        · rintro ⟨p', k', a1, a2, a3, a4, a5, a6, a7⟩
          by_cases q : p' = p ∧ k' = k
          · rw [q.1, q.2] at a7; exact Or.inr a7
          · exact Or.inl ⟨p', k', a1, a2, a3, a4, a5, by omega, a7⟩))
      refine ⟨h', ?_, (Iq.w _ _ rfl).trans e2, e3⟩
      rw [← e1, e_M_worth_81]
      simp (disch := omega) only [M.K52, ↓bnd M.R26, ↓bnd M.R27, M.K65, M.N65, M.K66, M.N66, ↓reduceIte, ↓Option.bind_some, if_true, if_false, true_and, and_true, and_self, true_or, or_true, false_or, or_false, not_true_eq_false, not_false_eq_true, Option.bind_some, somene, false_and, and_false, reduceCtorEq, Nat.reduceEqDiff, l4, l0, l1, l31, lm1, q_lt_f, ↓bnd cb, ↓bnd sb, q_bi0, Bool.true_eq_false, q_nan, q_shr2, q_in, q_cl, t1, i8_1, nI_add]
theorem M_w62 (w : dW D) (hr : r < aK (dA D)) (hn : n < 2 ^ aSz (dA D) r) {x3 : Int32} : ∀ (c p : Nat) (h : sk_H), p + c = aSt (dA D) r + aSz (dA D) r → aSt (dA D) r ≤ p → WI D r st n h → SnP h (wS (dA D) r (dH D) (dE D) (n <<< aSt (dA D) r) p 1) → ∃ h', k_M_worth_62 d (some 52) (nI r) (nI (aSt (dA D) r)) x3 (nI n) (nI (n <<< aSt (dA D) r)) (nI p) h = k_M_worth_43 d (some 52) (nI r) (nI (aSt (dA D) r)) x3 (nI (n + 1)) (wI h' 65 n (nI (Vr (dA D) r (dH D) (dE D) (n <<< aSt (dA D) r)))) ∧ Iq P66 h h'
  | 0, p, h, hp, h1, I, s => by
    obtain ⟨M, S, s8, tb⟩ := id I
    have w1 := w.1.1
    have w2 := w.1.2.1
    have w3 := w.1.2.2.1 r hr
    have p12 : 2 ^ aSz (dA D) r ≤ 4096 := pow12 (by omega)
    have hm4 := shl_lt (S := aSt (dA D) r) hn (by omega)
    have sz := (S.1.2.2 r hr).2.1
    have lu := M_least_ok (d := d) M s (IsM_cg (Vr_is w.1 hr hm4 (dH D) (dE D)) (fun v _ => by
      constructor
      · rintro ⟨p', k', a1, a2, a3, a4, a5, a7⟩
        exact ⟨p', k', a1, a2, a3, a4, a5, Or.inl (by omega), a7⟩
      · rintro ⟨p', k', a1, a2, a3, a4, a5, a6, a7⟩
        exact ⟨p', k', a1, a2, a3, a4, a5, a7⟩)) (by have := Vr_lt (r := r) (m := n <<< aSt (dA D) r) w.1 (dH D) (dE D); omega)
    refine ⟨h, ?_, Iq.refl h⟩
    rw [e_M_worth_62]
    simp (disch := omega) only [M.K52, ↓bnd M.R20, ↓bnd M.R26, M.K62, M.N62, M.K65, M.N65, ↓reduceIte, ↓Option.bind_some, if_true, if_false, true_and, and_true, and_self, true_or, or_true, false_or, or_false, not_true_eq_false, not_false_eq_true, Option.bind_some, somene, false_and, and_false, reduceCtorEq, Nat.reduceEqDiff, l16, l1, nI_add, q_in, q_cl, sz, q_le_t, ↓bnd lu]
  | c + 1, p, h, hp, h1, I, s => by
    obtain ⟨M, S, s8, tb⟩ := id I
    have w1 := w.1.1
    have w2 := w.1.2.1
    have w3 := w.1.2.2.1 r hr
    have sz := (S.1.2.2 r hr).2.1
    obtain ⟨h1', f1, f2, f3⟩ := M_w81 (d := d) w hr hn h1 (show p < aSt (dA D) r + aSz (dA D) r by omega) (x3 := x3) 4 1 h (by omega) (by omega) I s
    obtain ⟨h', e1, e2⟩ := M_w62 w hr hn (x3 := x3) c (p + 1) h1' (by omega) (by omega) (I.iq f2) f3
    refine ⟨h', ?_, f2.trans e2⟩
    rw [← e1, ← f1, e_M_worth_62]
    simp (disch := omega) only [M.K52, ↓bnd M.R20, M.K62, M.N62, ↓reduceIte, ↓Option.bind_some, if_true, if_false, true_and, and_true, and_self, true_or, or_true, false_or, or_false, not_true_eq_false, not_false_eq_true, Option.bind_some, somene, false_and, and_false, reduceCtorEq, Nat.reduceEqDiff, l16, l1, nI_add, q_in, q_cl, sz, q_le_f]
theorem P66_65 {a i : Nat} (h : P65 a i = false) : P66 a i = false := by
  unfold P65 at h
  rw [Bool.or_eq_false_iff] at h
  exact h.2
theorem M_w43 (w : dW D) (hr : r < aK (dA D)) (hst : st < 4096) : ∀ (c n : Nat) (h : sk_H), n + c = 2 ^ aSz (dA D) r → WI D r st n h → ∃ h', k_M_worth_43 d (some 52) (nI r) (nI (aSt (dA D) r)) (nI (2 ^ aSz (dA D) r - 1)) (nI n) h = some (h', nI (Vr (dA D) r (dH D) (dE D) st)) ∧ Iq P65 h h'
  | 0, n, h, hn, I => by
    obtain ⟨M, S, s8, tb⟩ := id I
    have w1 := w.1.1
    have w3 := w.1.2.2.1 r hr
    have p12 : 2 ^ aSz (dA D) r ≤ 4096 := pow12 (by omega)
    have hp := Nat.pow_pos (n := aSz (dA D) r) (show 0 < 2 by decide)
    have hle : (st >>> aSt (dA D) r) &&& (2 ^ aSz (dA D) r - 1) ≤ 2 ^ aSz (dA D) r - 1 := Nat.and_le_right
    have t1 := tb ((st >>> aSt (dA D) r) &&& (2 ^ aSz (dA D) r - 1)) (by omega)
    have ev : Vr (dA D) r (dH D) (dE D) (((st >>> aSt (dA D) r) &&& (2 ^ aSz (dA D) r - 1)) <<< aSt (dA D) r) = Vr (dA D) r (dH D) (dE D) st := Vr_cg w.1 hr (fun t ht => by
      rw [Nat.testBit_shiftLeft, decide_eq_true (by omega), Bool.true_and, show aSt (dA D) r + t - aSt (dA D) r = t by omega, Nat.testBit_and, Nat.testBit_shiftRight, Nat.testBit_two_pow_sub_one, decide_eq_true ht, Bool.and_true]) (dH D) (dE D)
    rw [ev] at t1
    have an1 : nI (st >>> aSt (dA D) r) &&& nI (2 ^ aSz (dA D) r - 1) = nI ((st >>> aSt (dA D) r) &&& (2 ^ aSz (dA D) r - 1)) := q_an
    have sh := q_shr2 (x := st) (k := aSt (dA D) r) (by omega) (by omega)
    refine ⟨h, ?_, Iq.refl h⟩
    rw [e_M_worth_43]
    simp (disch := omega) only [M.K52, ↓bnd M.R20, ↓bnd M.R26, M.K62, M.N62, M.K65, M.N65, ↓reduceIte, ↓Option.bind_some, if_true, if_false, true_and, and_true, and_self, true_or, or_true, false_or, or_false, not_true_eq_false, not_false_eq_true, Option.bind_some, somene, false_and, and_false, reduceCtorEq, Nat.reduceEqDiff, l8, l31, q_lt_t, q_in, q_cl, s8, sh, an1, t1]
  | c + 1, n, h, hn, I => by
    obtain ⟨M, S, s8, tb⟩ := id I
    have w1 := w.1.1
    have w3 := w.1.2.2.1 r hr
    have p12 : 2 ^ aSz (dA D) r ≤ 4096 := pow12 (by omega)
    obtain ⟨h1, c1, c2, c3⟩ := M_clear_ok (d := d) M
    obtain ⟨h2, f1, f2⟩ := M_w62 (d := d) w hr (show n < 2 ^ aSz (dA D) r by omega) (x3 := nI (2 ^ aSz (dA D) r - 1)) (aSz (dA D) r) (aSt (dA D) r) h1 (by omega) (by omega) (I.iq c2) (SnP_cg c3 (fun v _ => ⟨fun q => q.elim, fun ⟨p', k', a1, a2, a3, a4, a5, a6, a7⟩ => by omega⟩))
    have I2 := (I.iq c2).iq f2
    obtain ⟨h', e1, e2⟩ := M_w43 w hr hst c (n + 1) (wI h2 65 n (nI (Vr (dA D) r (dH D) (dE D) (n <<< aSt (dA D) r)))) (by omega) ⟨I2.1, by rw [hI_wI_n _ _ _ (by decide)]; exact I2.2.1, by rw [hI_wI_n _ _ _ (by decide)]; exact I2.2.2.1, fun j hj => by
      rw [hI_wI]
      by_cases q : j = n
      · rw [if_pos ⟨rfl, q⟩, q]
      · rw [if_neg (fun r => q r.2)]; exact I2.2.2.2 j (by omega)⟩
    have cf := c2.trans f2
    have cf' : Iq P65 h h2 := ⟨cf.1, cf.2.1, fun a i ha => cf.I (P66_65 ha)⟩
    refine ⟨h', ?_, (cf'.trans (Iq.w _ _ rfl)).trans e2⟩
    have sh := q_shl2 n (k := aSt (dA D) r) (by omega)
    rw [← e1, ← f1, e_M_worth_43]
    simp (disch := omega) only [M.K52, ↓reduceIte, ↓Option.bind_some, if_true, if_false, true_and, and_true, and_self, true_or, or_true, false_or, or_false, not_true_eq_false, not_false_eq_true, Option.bind_some, somene, false_and, and_false, reduceCtorEq, Nat.reduceEqDiff, l31, q_lt_f, ↓bnd c1, sh]
theorem P65_M : ∀ a i, pM a i = false → P65 a i = false := by
  intro a i ha
  unfold P65
  cases h1 : a == 65
  · cases h2 : a == 66
    · rfl
    · rw [eq_of_beq h2] at ha; cases ha
  · rw [eq_of_beq h1] at ha; cases ha
theorem q_worth (a0 : Int32) : sk_Ag (JJ L xs') L xs' 52 (fun h => c_SR_worth 40 (some 20) a0 h) (fun h => c_M_worth 40 (some 52) a0 h) := by
  refine Ag_of (fun j h F E J r s => ?_) (fun j h F E st tu pl a D c hj J hE Q => ?_)
  · have C := J.2.1
    have M := J.2.2.1
    refine ⟨nM, ?_, ?_⟩
    · show c_SR_worth 40 (some 20) a0 h = _
      rw [e_SR_worth]
      simp only [C.k20, C.k21, C.k22, C.k23, C.k24, C.k25, C.k26, C.k27, C.k28, C.k29, C.k30, C.k31, C.k32, C.k43, C.k44, C.k45, C.k46, C.k47, C.k48, C.k49, C.k50, C.k51, C.n21, C.n22, C.n24, C.n25, C.n26, C.n27, C.n29, C.n30, C.n31, C.n43, C.n44, C.n45, C.n46, C.n47, C.n48, C.n51, C.r20_0, C.r20_2, C.r20_4, C.r20_5, C.r20_6, C.r20_7, C.r20_8, C.r23_5, C.r23_6, C.r23_7, C.r28_0, C.r28_1, C.r28_2, C.r32_3, C.r32_4, C.r32_5, C.r32_6, C.r32_7, C.r32_8, C.r49_0, C.r50_0, ↓bnd C.r20_0, ↓bnd C.r20_2, ↓bnd C.r20_4, ↓bnd C.r20_5, ↓bnd C.r20_6, ↓bnd C.r20_7, ↓bnd C.r20_8, ↓bnd C.r23_5, ↓bnd C.r23_6, ↓bnd C.r23_7, ↓bnd C.r28_0, ↓bnd C.r28_1, ↓bnd C.r28_2, ↓bnd C.r32_3, ↓bnd C.r32_4, ↓bnd C.r32_5, ↓bnd C.r32_6, ↓bnd C.r32_7, ↓bnd C.r32_8, ↓bnd C.r49_0, ↓bnd C.r50_0, ↓reduceIte, ↓Option.bind_some, if_true, if_false, true_and, and_true, and_self, true_or, or_true, false_or, or_false, not_true_eq_false, not_false_eq_true, Option.bind_some, somene, false_and, and_false, reduceCtorEq, Nat.reduceEqDiff, r, lm1, l1]
    · show c_M_worth 40 (some 52) a0 h = _
      rw [e_M_worth]
      have s2 := s 2 (by omega)
      rcases i_cases a0 with hx | ⟨p, hp, hx⟩
      · simp only [↓reduceIte, ↓Option.bind_some, if_true, if_false, true_and, and_true, and_self, true_or, or_true, false_or, or_false, not_true_eq_false, not_false_eq_true, Option.bind_some, somene, false_and, and_false, reduceCtorEq, Nat.reduceEqDiff, l0, l1, lm1, hx]
      · subst hx
        simp (disch := omega) only [M.K52, ↓bnd M.R20, M.K62, M.N62, ↓reduceIte, ↓Option.bind_some, if_true, if_false, true_and, and_true, and_self, true_or, or_true, false_or, or_false, not_true_eq_false, not_false_eq_true, Option.bind_some, somene, false_and, and_false, reduceCtorEq, Nat.reduceEqDiff, l0, l1, l2, lm1, q_lt_f, q_in, q_cl, s2]
  · obtain ⟨C, M, hF, w, O, r, i, hst, T, S, s8, X⟩ := id Q
    have hst4 := p12 w.1 hst
    have w1 := w.1.1
    have w2 := w.1.2.1
    obtain ⟨o1, o2, o3, -⟩ := id O
    have o32 := o3.2.1
    have sk := S.1.2.1
    have fin : c_SR_worth 40 (some 20) a0 h = some (h, nM) → c_M_worth 40 (some 52) a0 h = some (h, nM) → QR (fun h => c_SR_worth 40 (some 20) a0 h) (fun h => c_M_worth 40 (some 52) a0 h) h a D := fun h1 h2 => ⟨h, h, nM, h1, Cq.refl h, T, h2, Mq.refl h, X⟩
    rcases i_cases a0 with hx | ⟨p, hp, hx⟩
    · refine fin ?_ ?_
      · rw [e_SR_worth]
        simp only [C.k20, C.k21, C.k22, C.k23, C.k24, C.k25, C.k26, C.k27, C.k28, C.k29, C.k30, C.k31, C.k32, C.k43, C.k44, C.k45, C.k46, C.k47, C.k48, C.k49, C.k50, C.k51, C.n21, C.n22, C.n24, C.n25, C.n26, C.n27, C.n29, C.n30, C.n31, C.n43, C.n44, C.n45, C.n46, C.n47, C.n48, C.n51, C.r20_0, C.r20_2, C.r20_4, C.r20_5, C.r20_6, C.r20_7, C.r20_8, C.r23_5, C.r23_6, C.r23_7, C.r28_0, C.r28_1, C.r28_2, C.r32_3, C.r32_4, C.r32_5, C.r32_6, C.r32_7, C.r32_8, C.r49_0, C.r50_0, ↓bnd C.r20_0, ↓bnd C.r20_2, ↓bnd C.r20_4, ↓bnd C.r20_5, ↓bnd C.r20_6, ↓bnd C.r20_7, ↓bnd C.r20_8, ↓bnd C.r23_5, ↓bnd C.r23_6, ↓bnd C.r23_7, ↓bnd C.r28_0, ↓bnd C.r28_1, ↓bnd C.r28_2, ↓bnd C.r32_3, ↓bnd C.r32_4, ↓bnd C.r32_5, ↓bnd C.r32_6, ↓bnd C.r32_7, ↓bnd C.r32_8, ↓bnd C.r49_0, ↓bnd C.r50_0, ↓reduceIte, ↓Option.bind_some, if_true, if_false, true_and, and_true, and_self, true_or, or_true, false_or, or_false, not_true_eq_false, not_false_eq_true, Option.bind_some, somene, false_and, and_false, reduceCtorEq, Nat.reduceEqDiff, r, l0, l1, lm1, hx]
      · rw [e_M_worth]
        simp only [↓reduceIte, ↓Option.bind_some, if_true, if_false, true_and, and_true, and_self, true_or, or_true, false_or, or_false, not_true_eq_false, not_false_eq_true, Option.bind_some, somene, false_and, and_false, reduceCtorEq, Nat.reduceEqDiff, l0, l1, lm1, hx]
    · subst hx
      by_cases hr : p < aK (dA D)
      · have w3 := w.1.2.2.1 p hr
        have rw1 := Al_rowWorth_ok (d := 40) O w hr hst4
        obtain ⟨h2, e1, e2⟩ := M_w43 (d := 40) w hr hst4 (2 ^ aSz (dA D) p) 0 h (by omega) ⟨M, S, s8, fun j hj => absurd hj (by omega)⟩
        obtain ⟨t1, t2, -⟩ := S.1.2.2 p hr
        have tw := two_shl (n := aSz (dA D) p) (by omega)
        have hpp := Nat.pow_pos (n := aSz (dA D) p) (show 0 < 2 by decide)
        refine ⟨h, h2, nI (Vr (dA D) p (dH D) (dE D) st), ?_, Cq.refl h, T, ?_, e2.mq P65_M, ?_⟩
        · show c_SR_worth 40 (some 20) (nI p) h = _
          rw [e_SR_worth]
          simp (disch := omega) only [C.k20, C.k21, C.k22, C.k23, C.k24, C.k25, C.k26, C.k27, C.k28, C.k29, C.k30, C.k31, C.k32, C.k43, C.k44, C.k45, C.k46, C.k47, C.k48, C.k49, C.k50, C.k51, C.n21, C.n22, C.n24, C.n25, C.n26, C.n27, C.n29, C.n30, C.n31, C.n43, C.n44, C.n45, C.n46, C.n47, C.n48, C.n51, C.r20_0, C.r20_2, C.r20_4, C.r20_5, C.r20_6, C.r20_7, C.r20_8, C.r23_5, C.r23_6, C.r23_7, C.r28_0, C.r28_1, C.r28_2, C.r32_3, C.r32_4, C.r32_5, C.r32_6, C.r32_7, C.r32_8, C.r49_0, C.r50_0, ↓bnd C.r20_0, ↓bnd C.r20_2, ↓bnd C.r20_4, ↓bnd C.r20_5, ↓bnd C.r20_6, ↓bnd C.r20_7, ↓bnd C.r20_8, ↓bnd C.r23_5, ↓bnd C.r23_6, ↓bnd C.r23_7, ↓bnd C.r28_0, ↓bnd C.r28_1, ↓bnd C.r28_2, ↓bnd C.r32_3, ↓bnd C.r32_4, ↓bnd C.r32_5, ↓bnd C.r32_6, ↓bnd C.r32_7, ↓bnd C.r32_8, ↓bnd C.r49_0, ↓bnd C.r50_0, ↓reduceIte, ↓Option.bind_some, if_true, if_false, true_and, and_true, and_self, true_or, or_true, false_or, or_false, not_true_eq_false, not_false_eq_true, Option.bind_some, somene, false_and, and_false, reduceCtorEq, Nat.reduceEqDiff, r, l0, q_lt_f, q_lt_t, o2, o32, i, rw1]
        · show c_M_worth 40 (some 52) (nI p) h = _
          rw [← e1, e_M_worth]
          simp (disch := omega) only [M.K52, ↓bnd M.R20, M.K62, M.N62, ↓reduceIte, ↓Option.bind_some, if_true, if_false, true_and, and_true, and_self, true_or, or_true, false_or, or_false, not_true_eq_false, not_false_eq_true, Option.bind_some, somene, false_and, and_false, reduceCtorEq, Nat.reduceEqDiff, l0, l1, l2, l12, l16, l31, q_lt_f, q_lt_t, q_in, q_cl, sk, nI_add, t1, t2, tw, q_sub]
        · unfold MWon
          rw [e2.I rfl]
          rcases X with q | ⟨H, E, L, x1, x2, x3⟩
          · exact Or.inl q
          · exact Or.inr ⟨H, E, L, x1, x2, fun m hm => by rw [e2.I rfl]; exact x3 m hm⟩
      · refine fin ?_ ?_
        · rw [e_SR_worth]
          simp (disch := omega) only [C.k20, C.k21, C.k22, C.k23, C.k24, C.k25, C.k26, C.k27, C.k28, C.k29, C.k30, C.k31, C.k32, C.k43, C.k44, C.k45, C.k46, C.k47, C.k48, C.k49, C.k50, C.k51, C.n21, C.n22, C.n24, C.n25, C.n26, C.n27, C.n29, C.n30, C.n31, C.n43, C.n44, C.n45, C.n46, C.n47, C.n48, C.n51, C.r20_0, C.r20_2, C.r20_4, C.r20_5, C.r20_6, C.r20_7, C.r20_8, C.r23_5, C.r23_6, C.r23_7, C.r28_0, C.r28_1, C.r28_2, C.r32_3, C.r32_4, C.r32_5, C.r32_6, C.r32_7, C.r32_8, C.r49_0, C.r50_0, ↓bnd C.r20_0, ↓bnd C.r20_2, ↓bnd C.r20_4, ↓bnd C.r20_5, ↓bnd C.r20_6, ↓bnd C.r20_7, ↓bnd C.r20_8, ↓bnd C.r23_5, ↓bnd C.r23_6, ↓bnd C.r23_7, ↓bnd C.r28_0, ↓bnd C.r28_1, ↓bnd C.r28_2, ↓bnd C.r32_3, ↓bnd C.r32_4, ↓bnd C.r32_5, ↓bnd C.r32_6, ↓bnd C.r32_7, ↓bnd C.r32_8, ↓bnd C.r49_0, ↓bnd C.r50_0, ↓reduceIte, ↓Option.bind_some, if_true, if_false, true_and, and_true, and_self, true_or, or_true, false_or, or_false, not_true_eq_false, not_false_eq_true, Option.bind_some, somene, false_and, and_false, reduceCtorEq, Nat.reduceEqDiff, r, l0, l1, lm1, q_lt_f, o2, o32]
        · rw [e_M_worth]
          simp (disch := omega) only [M.K52, ↓bnd M.R20, M.K62, M.N62, ↓reduceIte, ↓Option.bind_some, if_true, if_false, true_and, and_true, and_self, true_or, or_true, false_or, or_false, not_true_eq_false, not_false_eq_true, Option.bind_some, somene, false_and, and_false, reduceCtorEq, Nat.reduceEqDiff, l0, l1, l2, lm1, q_lt_f, q_in, q_cl, sk]
end SkWorth2
