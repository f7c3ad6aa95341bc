/-! ===== worth ===== -/
theorem q_shl2 (x : Nat) {k : Nat} (hk : k < 32) : nI x <<< (nI k &&& nI 31) = nI (x <<< k) := b_ext fun i hi => by
  have e : nI x <<< (nI k &&& nI 31) = nI x <<< (nI k &&& 31) := rfl
  rw [e, b_shl k hk _ hi, bt_nI _ hi, Nat.testBit_shiftLeft]
  by_cases q : k ≤ i
  · rw [bt_nI _ (by omega)]
  · simp [q]
theorem q_shr2 {x k : Nat} (hx : x < 2 ^ 31) (hk : k < 32) : nI x >>> (nI k &&& nI 31) = nI (x >>> k) := b_ext fun i hi => by
  have e : nI x >>> (nI k &&& nI 31) = nI x >>> (nI k &&& 31) := rfl
  rw [e, b_sshr k hk _ hi, bt_nI _ hi, Nat.testBit_shiftRight]
  by_cases q : k + i < 32
  · rw [if_pos q, bt_nI _ q]
  · rw [if_neg q, bt_nI _ (by omega), tb_hi (n := 31) hx (by omega), tb_hi (n := 31) hx (by omega)]
theorem own_bit (S Z c : Nat) : ((2 ^ Z - 1) <<< S).testBit c = (decide (S ≤ c) && decide (c - S < Z)) := by
  rw [Nat.testBit_shiftLeft, Nat.testBit_two_pow_sub_one]
section SkWorth
variable {L : Nat} {xs' : Nat → Int32} {F G : Nat → Prop} {E : Nat → Option DD} {h h' h1 h2 : sk_H} {j st tu pl a m p k n i w l r : Nat} {D : DD} {c : Nat → Nat} {d : Nat}
theorem own_lt {S Z : Nat} (h : S + Z ≤ 12) : (2 ^ Z - 1) <<< S < 4096 := by
  rw [Nat.shiftLeft_eq]
  have h1 : (2 ^ Z - 1) * 2 ^ S < 2 ^ Z * 2 ^ S := Nat.mul_lt_mul_of_pos_right (by have := Nat.pow_pos (n := Z) (show 0 < 2 by decide); omega) (Nat.pow_pos (by decide))
  rw [← Nat.pow_add] at h1
  have h2 : 2 ^ (Z + S) ≤ 2 ^ 12 := Nat.pow_le_pow_right (by decide) (by omega)
  omega
theorem Al_whole_ok (O : AOc F h a D c) (w : dW D) (hr : r < aK (dA D)) (hm : m < 4096) : c_Al_isWholeRing d (some a) (nI m) (nI r) h = some (h, bi (whole (dA D) r m)) := by
  obtain ⟨o1, o2, o3, o4, o8, o9, o10, o11, -⟩ := id O
  have w1 := w.1.1
  have w2 := w.1.2.1
  have w3 := w.1.2.2.1 r hr
  have r9 := O.r (j := 9) (by omega) (by omega)
  have r10 := O.r (j := 10) (by omega) (by omega)
  have r11 := O.r (j := 11) (by omega) (by omega)
  have e9 := o9.2.2 r hr
  have e10 := o10.2.2 r hr
  have e11 := o11.2.2 r hr
  have tw := two_shl (n := aSz (dA D) r) (by omega)
  have hp := Nat.pow_pos (n := aSz (dA D) r) (show 0 < 2 by decide)
  have ol := own_lt (S := aSt (dA D) r) (Z := aSz (dA D) r) (by omega)
  have p12 : 2 ^ aSz (dA D) r ≤ 4096 := pow12 (by omega)
  have al := and_lt (s := (2 ^ aSz (dA D) r - 1) <<< aSt (dA D) r) hm
  have sh2 := q_shl2 (2 ^ aSz (dA D) r - 1) (k := aSt (dA D) r) (by omega)
  have an1 : nI m &&& nI ((2 ^ aSz (dA D) r - 1) <<< aSt (dA D) r) = nI (m &&& (2 ^ aSz (dA D) r - 1) <<< aSt (dA D) r) := q_an
  rw [e_Al_isWholeRing]
  have iff : m &&& (2 ^ aSz (dA D) r - 1) <<< aSt (dA D) r = (2 ^ aSz (dA D) r - 1) <<< aSt (dA D) r ↔ ∀ j, j < aSz (dA D) r → m.testBit (aSt (dA D) r + j) = true := by
    rw [and_sub]
    constructor
    · intro h j hj
      exact h _ (by rw [own_bit, decide_eq_true (by omega), decide_eq_true (by omega)]; rfl)
    · intro h x hx
      rw [own_bit, Bool.and_eq_true, decide_eq_true_eq, decide_eq_true_eq] at hx
      have := h (x - aSt (dA D) r) hx.2
      rw [show aSt (dA D) r + (x - aSt (dA D) r) = x by omega] at this
      exact this
  cases hg : aRg (dA D) r
  · have hw : whole (dA D) r m = false := by unfold whole; rw [hg]; rfl
    rw [hg] at e11
    rw [hw]
    simp (disch := omega) only [o2, ↓bnd r9, ↓bnd r10, ↓bnd r11, o9.1, o9.2.1, o10.1, o10.2.1, o11.1, o11.2.1, ↓reduceIte, ↓Option.bind_some, if_true, if_false, true_and, and_true, and_self, true_or, or_true, false_or, or_false, not_true_eq_false, not_false_eq_true, Option.bind_some, somene, false_and, and_false, reduceCtorEq, Nat.reduceEqDiff, q_in, q_cl, e11, l0, q_bi0]
    rfl
  · rw [hg] at e11
    by_cases q : m &&& (2 ^ aSz (dA D) r - 1) <<< aSt (dA D) r = (2 ^ aSz (dA D) r - 1) <<< aSt (dA D) r
    · have hw : whole (dA D) r m = true := whole_iff.mpr ⟨hg, iff.mp q⟩
      rw [hw]
      simp (disch := omega) only [o2, ↓bnd r9, ↓bnd r10, ↓bnd r11, o9.1, o9.2.1, o10.1, o10.2.1, o11.1, o11.2.1, ↓reduceIte, ↓Option.bind_some, if_true, if_false, true_and, and_true, and_self, true_or, or_true, false_or, or_false, not_true_eq_false, not_false_eq_true, Option.bind_some, somene, false_and, and_false, reduceCtorEq, Nat.reduceEqDiff, q_in, q_cl, e9, e10, e11, l0, l1, l31, q_bi0, Bool.true_eq_false, tw, q_sub, sh2, an1, q]
      rfl
    · have hw : whole (dA D) r m = false := by
        cases hq : whole (dA D) r m
        · rfl
        · exact absurd (iff.mpr (whole_iff.mp hq).2) q
      rw [hw]
      simp (disch := omega) only [o2, ↓bnd r9, ↓bnd r10, ↓bnd r11, o9.1, o9.2.1, o10.1, o10.2.1, o11.1, o11.2.1, ↓reduceIte, ↓Option.bind_some, if_true, if_false, true_and, and_true, and_self, true_or, or_true, false_or, or_false, not_true_eq_false, not_false_eq_true, Option.bind_some, somene, false_and, and_false, reduceCtorEq, Nat.reduceEqDiff, q_in, q_cl, e9, e10, e11, l0, l1, l31, q_bi0, Bool.true_eq_false, tw, q_sub, sh2, an1, q_eq_f, q]
      rfl
theorem Al_run_in (O : AOc F h a D c) (w : dW D) (hm : m < 4096) : ∀ (n len : Nat) (o : Option Nat), len + n = aN (dA D) → (∀ x, o = some x → x < aN (dA D)) → k_Al_runFrom_69 d (some a) (nI m) (nI len) (oI o) h = some (h, nI (len + wl (dA D) m n o))
  | 0, len, o, hl, ho => by
    obtain ⟨o1, o2, o3, -⟩ := id O
    have w1 := w.1.1
    rw [e_Al_runFrom_69]
    have o31 := o3.1
    simp (disch := omega) only [o2, o31, ↓reduceIte, ↓Option.bind_some, if_true, if_false, true_and, and_true, and_self, true_or, or_true, false_or, or_false, not_true_eq_false, not_false_eq_true, Option.bind_some, somene, false_and, and_false, reduceCtorEq, Nat.reduceEqDiff, q_le_t]
    rfl
  | n + 1, len, o, hl, ho => by
    obtain ⟨o1, o2, o3, o4, o8, o9, o10, o11, o12, o13, -⟩ := id O
    have o31 := o3.1
    have w1 := w.1.1
    have r13 := O.r (j := 13) (by omega) (by omega)
    cases o with
    | none =>
      have e1 : oI none = nM := rfl
      rw [e_Al_runFrom_69, e1]
      simp (disch := omega) only [o2, o31, ↓reduceIte, ↓Option.bind_some, if_true, if_false, true_and, and_true, and_self, true_or, or_true, false_or, or_false, not_true_eq_false, not_false_eq_true, Option.bind_some, somene, false_and, and_false, reduceCtorEq, Nat.reduceEqDiff, q_le_f, l1, lm1]
      rfl
    | some q =>
      have hq := ho q rfl
      have e1 : oI (some q) = nI q := rfl
      have e13 := o13.2.2 q hq
      have ih := Al_run_in O w hm n (len + 1) (aNx (dA D) q) (by omega) (fun x hx => aNx_lt w.1 hq hx)
      have bt := q_bit (m := m) (k := q) (by omega) (by omega)
      rw [e_Al_runFrom_69, e1]
      unfold wl
      cases hb : m.testBit q
      · rw [hb] at bt
        have bt : (nI m >>> (nI q &&& nI 31)) &&& nI 1 = nI 0 := bt
        simp (disch := omega) only [o2, o31, ↓reduceIte, ↓Option.bind_some, if_true, if_false, true_and, and_true, and_self, true_or, or_true, false_or, or_false, not_true_eq_false, not_false_eq_true, Option.bind_some, somene, false_and, and_false, reduceCtorEq, Nat.reduceEqDiff, q_le_f, l1, lm1, l31, q_m1, bt, Bool.false_eq_true, q_eq_f]
        rfl
      · rw [hb] at bt
        have bt : (nI m >>> (nI q &&& nI 31)) &&& nI 1 = nI 1 := bt
        rw [if_pos rfl, show len + (wl (dA D) m n (aNx (dA D) q) + 1) = len + 1 + wl (dA D) m n (aNx (dA D) q) by omega, ← ih]
        simp (disch := omega) only [o2, o31, ↓reduceIte, ↓Option.bind_some, if_true, if_false, true_and, and_true, and_self, true_or, or_true, false_or, or_false, not_true_eq_false, not_false_eq_true, Option.bind_some, somene, false_and, and_false, reduceCtorEq, Nat.reduceEqDiff, q_le_f, l1, lm1, l31, q_m1, bt, ↓bnd r13, o13.1, o13.2.1, q_in, q_cl, e13, nI_add]
theorem Al_runFrom_ok (O : AOc F h a D c) (w : dW D) (hm : m < 4096) (hp : p < aN (dA D)) (hw : whole (dA D) (aRow (dA D) p) m = false) : c_Al_runFrom d (some a) (nI m) (nI p) h = some (h, nI (ru (dA D) m p)) := by
  obtain ⟨o1, o2, o3, o4, o8, o9, o10, o11, o12, o13, -⟩ := id O
  have w1 := w.1.1
  have r8 := O.r (j := 8) (by omega) (by omega)
  have r12 := O.r (j := 12) (by omega) (by omega)
  have e8 := o8.2.2 p hp
  have e12 := o12.2.2 p hp
  have hr := (aRow_in w.1 hp).1
  have wr : c_Al_isWholeRing d (some a) (nI m) (hI h (c 8) (nI p).toNatClampNeg) h = some (h, bi false) := by
    rw [q_cl (by omega), e8, Al_whole_ok O w hr hm, hw]
  have run := Al_run_in (d := d) O w hm (aN (dA D)) 0 (some p) (by omega) (fun x hx => by cases hx; exact hp)
  rw [Nat.zero_add] at run
  have e1 : oI (some p) = nI p := rfl
  rw [e1] at run
  rw [e_Al_runFrom]
  cases hv : aPv (dA D) p with
  | none =>
    rw [hv] at e12
    have e2 : oI none = nM := rfl
    have e0 : ru (dA D) m p = wl (dA D) m (aN (dA D)) (some p) := by unfold ru pvb; rw [hv]; rfl
    rw [e0, ← run]
    simp (disch := omega) only [o2, ↓bnd r8, ↓bnd r12, o8.1, o8.2.1, o12.1, o12.2.1, ↓reduceIte, ↓Option.bind_some, if_true, if_false, true_and, and_true, and_self, true_or, or_true, false_or, or_false, not_true_eq_false, not_false_eq_true, Option.bind_some, somene, false_and, and_false, reduceCtorEq, Nat.reduceEqDiff, q_in, q_cl, ↓bnd wr, l0, l1, lm1, q_bi0, e12, e2]
  | some q =>
    rw [hv] at e12
    have hq := aPv_lt w.1 hp hv
    have e2 : oI (some q) = nI q := rfl
    have bt := q_bit (m := m) (k := q) (by omega) (by omega)
    cases hb : m.testBit q
    · rw [hb] at bt
      have bt : (nI m >>> (nI q &&& nI 31)) &&& nI 1 = nI 0 := bt
      have e0 : ru (dA D) m p = wl (dA D) m (aN (dA D)) (some p) := by
        unfold ru pvb; rw [hv]
        show (if m.testBit q = true then _ else _) = _
        rw [hb]; rfl
      rw [e0, ← run]
      simp (disch := omega) only [o2, ↓bnd r8, ↓bnd r12, o8.1, o8.2.1, o12.1, o12.2.1, ↓reduceIte, ↓Option.bind_some, if_true, if_false, true_and, and_true, and_self, true_or, or_true, false_or, or_false, not_true_eq_false, not_false_eq_true, Option.bind_some, somene, false_and, and_false, reduceCtorEq, Nat.reduceEqDiff, q_in, q_cl, ↓bnd wr, l0, l1, l31, lm1, q_bi0, e12, e2, q_m1, bt, q_eq_f]
    · rw [hb] at bt
      have bt : (nI m >>> (nI q &&& nI 31)) &&& nI 1 = nI 1 := bt
      have e0 : ru (dA D) m p = 0 := by
        unfold ru pvb; rw [hv]
        show (if m.testBit q = true then _ else _) = _
        rw [hb]; rfl
      rw [e0]
      simp (disch := omega) only [o2, ↓bnd r8, ↓bnd r12, o8.1, o8.2.1, o12.1, o12.2.1, ↓reduceIte, ↓Option.bind_some, if_true, if_false, true_and, and_true, and_self, true_or, or_true, false_or, or_false, not_true_eq_false, not_false_eq_true, Option.bind_some, somene, false_and, and_false, reduceCtorEq, Nat.reduceEqDiff, q_in, q_cl, ↓bnd wr, l0, l1, l31, lm1, q_bi0, e12, e2, q_m1, bt]
theorem Al_rw_in (O : AOc F h a D c) (w : dW D) (hr : r < aK (dA D)) (hm : m < 4096) (hw : whole (dA D) r m = false) : ∀ (n i : Nat), i + n = aSz (dA D) r → k_Al_rowWorth_28 d (some a) (nI m) (nI r) (nI (xs (fun j => pW (dH D) (dE D) (ru (dA D) m (aSt (dA D) r + j))) i)) (nI i) h = some (h, nI (rsum (dA D) r m (pW (dH D) (dE D))))
  | 0, i, hi => by
    obtain ⟨o1, o2, o3, o4, o8, o9, o10, -⟩ := id O
    have w1 := w.1.1
    have w2 := w.1.2.1
    have w3 := w.1.2.2.1 r hr
    have r10 := O.r (j := 10) (by omega) (by omega)
    have e10 := o10.2.2 r hr
    rw [e_Al_rowWorth_28]
    simp (disch := omega) only [o2, ↓bnd r10, o10.1, o10.2.1, ↓reduceIte, ↓Option.bind_some, if_true, if_false, true_and, and_true, and_self, true_or, or_true, false_or, or_false, not_true_eq_false, not_false_eq_true, Option.bind_some, somene, false_and, and_false, reduceCtorEq, Nat.reduceEqDiff, q_in, q_cl, e10, q_le_t]
    rw [show i = aSz (dA D) r by omega]
    rfl
  | n + 1, i, hi => by
    obtain ⟨o1, o2, o3, o4, o8, o9, o10, o11, o12, o13, o14, o15, o16⟩ := id O
    have w1 := w.1.1
    have w2 := w.1.2.1
    have w3 := w.1.2.2.1 r hr
    have r9 := O.r (j := 9) (by omega) (by omega)
    have r10 := O.r (j := 10) (by omega) (by omega)
    have r16 := O.r (j := 16) (by omega) (by omega)
    have e9 := o9.2.2 r hr
    have e10 := o10.2.2 r hr
    have hpn : aSt (dA D) r + i < aN (dA D) := by omega
    have hrow : aRow (dA D) (aSt (dA D) r + i) = r := aRow_of w.1 hr (by omega) (by omega)
    have rl := ru_le (dA D) m (aSt (dA D) r + i)
    have e16 := o16.2.2 (ru (dA D) m (aSt (dA D) r + i)) (by omega)
    have rf : c_Al_runFrom d (some a) (nI m) (hI h (c 9) (nI r).toNatClampNeg + nI i) h = some (h, nI (ru (dA D) m (aSt (dA D) r + i))) := by
      rw [q_cl (by omega), e9, nI_add]
      exact Al_runFrom_ok O w hm hpn (by rw [hrow]; exact hw)
    rw [← Al_rw_in O w hr hm hw n (i + 1) (by omega), e_Al_rowWorth_28]
    show _ = k_Al_rowWorth_28 d (some a) (nI m) (nI r) (nI (xs (fun j => pW (dH D) (dE D) (ru (dA D) m (aSt (dA D) r + j))) i ^^^ pW (dH D) (dE D) (ru (dA D) m (aSt (dA D) r + i)))) (nI (i + 1)) h
    simp (disch := omega) only [o2, ↓bnd r9, ↓bnd r10, ↓bnd r16, o9.1, o9.2.1, o10.1, o10.2.1, o16.1, o16.2.1, ↓reduceIte, ↓Option.bind_some, if_true, if_false, true_and, and_true, and_self, true_or, or_true, false_or, or_false, not_true_eq_false, not_false_eq_true, Option.bind_some, somene, false_and, and_false, reduceCtorEq, Nat.reduceEqDiff, q_in, q_cl, e10, q_le_f, ↓bnd rf, e16, nI_xor, l1, nI_add]
theorem hasHit_ok {H : Nat} (hH : H < 16) (h1 : 1 ≤ k) (h4 : k ≤ 4) : c_Al_hasHit d (nI H) (nI k) h = some (h, bi (H.testBit (k - 1))) := by
  have bt := q_bit (m := H) (k := k - 1) (by omega) (by omega)
  rw [e_Al_hasHit]
  cases hb : H.testBit (k - 1)
  · rw [hb] at bt
    simp (disch := omega) only [↓reduceIte, ↓Option.bind_some, if_true, if_false, true_and, and_true, and_self, true_or, or_true, false_or, or_false, not_true_eq_false, not_false_eq_true, Option.bind_some, somene, false_and, and_false, reduceCtorEq, Nat.reduceEqDiff, l0, l1, l31, q_sub, bt, Bool.false_eq_true, q_eq_f]
    rfl
  · rw [hb] at bt
    simp (disch := omega) only [↓reduceIte, ↓Option.bind_some, if_true, if_false, true_and, and_true, and_self, true_or, or_true, false_or, or_false, not_true_eq_false, not_false_eq_true, Option.bind_some, somene, false_and, and_false, reduceCtorEq, Nat.reduceEqDiff, l0, l1, l31, q_sub, bt]
    rfl
theorem b64_shl {n : Nat} (hn : n < 64) {i : Nat} (hi : i < 64) : b64 ((1 : Int64) <<< ((nI n).toInt64 &&& 63)) i = decide (n = i) := by
  unfold b64
  rw [Int64.toBitVec_shiftLeft]
  show ((1 : Int64).toBitVec <<< (((nI n).toInt64 &&& 63).toBitVec.smod 64).toNat).getLsbD i = _
  rw [bs_64 n hn, BitVec.getLsbD_shiftLeft]
  have e1 := b64_1 (i - n) (by omega)
  unfold b64 at e1
  rcases Nat.lt_or_ge i n with q | q
  · simp [q]
    omega
  · rw [e1]
    simp [hi, Nat.not_lt.mpr q]
    by_cases r : n = i
    · simp [r]
    · simp [r]; omega
/-- a set of numbers below 64, as bits -/
def B64 (v : Int64) (S : Nat → Prop) : Prop := ∀ i, i < 64 → (b64 v i = true ↔ S i)
theorem B64_or {v : Int64} {S : Nat → Prop} (b : B64 v S) {n : Nat} (hn : n < 64) : B64 (v ||| ((1 : Int64) <<< ((nI n).toInt64 &&& 63))) (fun x => S x ∨ x = n) := fun i hi => by
  rw [b64_or, Bool.or_eq_true, b64_shl hn hi, b i hi, decide_eq_true_eq]
  exact or_congr Iff.rfl eq_comm
theorem least_ok {v : Int64} {S : Nat → Prop} (b : B64 v S) (hm : IsM S m) (hl : m < 64) : c_Al_leastLeftOut d v h = some (h, nI m) := by
  rw [e_Al_leastLeftOut, JL_ntz_ok d _ m hl (by
    rw [b64_not v hl]
    cases hq : b64 v m
    · rfl
    · exact absurd ((b m hl).mp hq) hm.1) (fun i hi => by
    rw [b64_not v (by omega), (b i (by omega)).mpr (hm.2 i hi)]
    rfl)]
  rfl
def rgS (H : Nat) (E : Bool) (Z : Nat) (U : Nat → Nat) (k v : Nat) : Prop := ∃ k', 1 ≤ k' ∧ k' ≤ 4 ∧ k' ≤ Z ∧ H.testBit (k' - 1) = true ∧ (E = true → k' = Z) ∧ k' < k ∧ v = U (Z - k')
theorem Al_ring_in (O : AOc F h a D c) (w : dW D) {Z : Nat} (hZ : Z ≤ 12) : ∀ (n k : Nat) (v : Int64), k + n = 5 → 1 ≤ k → B64 v (rgS (dH D) (dE D) Z (pW (dH D) (dE D)) k) → ∃ v', k_Al_ringLeavings_5 d (some a) (nI Z) v (nI k) h = some (h, v') ∧ B64 v' (rgS (dH D) (dE D) Z (pW (dH D) (dE D)) 5)
  | 0, k, v, hk, h1, b => by
    have e : k = 5 := by omega
    subst e
    refine ⟨v, ?_, b⟩
    rw [e_Al_ringLeavings_5]
    simp (disch := omega) only [l4, q_lt_t, if_true]
  | n + 1, k, v, hk, h1, b => by
    obtain ⟨o1, o2, ⟨-, -, o34, o35, -⟩, o4, -, -, -, -, -, -, -, -, o16⟩ := id O
    have w3 := w.2.2.1
    have r16 := O.r (j := 16) (by omega) (by omega)
    by_cases hkZ : Z < k
    · refine ⟨v, ?_, fun i hi => (b i hi).trans ?_⟩
      · rw [e_Al_ringLeavings_5]
        simp (disch := omega) only [l4, q_lt_f, q_lt_t, if_false, if_true]
      · constructor
        · rintro ⟨k', a1, a2, a3, a4, a5, a6, a7⟩; exact ⟨k', a1, a2, a3, a4, a5, by omega, a7⟩
        · rintro ⟨k', a1, a2, a3, a4, a5, a6, a7⟩; exact ⟨k', a1, a2, a3, a4, a5, by omega, a7⟩
    · have e16 := o16.2.2 (Z - k) (by omega)
      have u64 := pW_64 (dH D) (dE D) (n := Z - k) (by omega)
      have hh : c_Al_hasHit d (hI h a 4) (nI k) h = some (h, bi ((dH D).testBit (k - 1))) := by rw [o34]; exact hasHit_ok w3 h1 (by omega)
      by_cases ok : (dH D).testBit (k - 1) = true ∧ (dE D = true → k = Z)
      · obtain ⟨v', e1, e2⟩ := Al_ring_in O w hZ n (k + 1) (v ||| ((1 : Int64) <<< ((nI (pW (dH D) (dE D) (Z - k))).toInt64 &&& 63))) (by omega) (by omega) (fun i hi => (B64_or b u64 i hi).trans (by
          constructor
          · rintro (⟨k', a1, a2, a3, a4, a5, a6, a7⟩ | q)
            · exact ⟨k', a1, a2, a3, a4, a5, by omega, a7⟩
            · exact ⟨k, h1, by omega, by omega, ok.1, ok.2, by omega, q⟩
          · rintro ⟨k', a1, a2, a3, a4, a5, a6, a7⟩
            rcases (show k' < k ∨ k' = k by omega) with q | q
            · exact Or.inl ⟨k', a1, a2, a3, a4, a5, q, a7⟩
            · rw [q] at a7; exact Or.inr a7))
        refine ⟨v', ?_, e2⟩
        rw [← e1, e_Al_ringLeavings_5]
        rw [ok.1] at hh
        cases hE : dE D
        · rw [hE] at o35 e16
          simp (disch := omega) only [o2, ↓bnd r16, o16.1, o16.2.1, ↓reduceIte, ↓Option.bind_some, if_true, if_false, true_and, and_true, and_self, true_or, or_true, false_or, or_false, not_true_eq_false, not_false_eq_true, Option.bind_some, somene, false_and, and_false, reduceCtorEq, Nat.reduceEqDiff, l4, l0, l1, q_lt_f, ↓bnd hh, q_bi0, Bool.true_eq_false, o35, q_sub, q_in, q_cl, e16, nI_add]
        · have ez := ok.2 hE
          rw [hE] at o35 e16
          simp (disch := omega) only [o2, ↓bnd r16, o16.1, o16.2.1, ↓reduceIte, ↓Option.bind_some, if_true, if_false, true_and, and_true, and_self, true_or, or_true, false_or, or_false, not_true_eq_false, not_false_eq_true, Option.bind_some, somene, false_and, and_false, reduceCtorEq, Nat.reduceEqDiff, l4, l0, l1, q_lt_f, ↓bnd hh, q_bi0, Bool.true_eq_false, o35, q_sub, q_in, q_cl, e16, nI_add, q_eq_t]
      · obtain ⟨v', e1, e2⟩ := Al_ring_in O w hZ n (k + 1) v (by omega) (by omega) (fun i hi => (b i hi).trans (by
          constructor
          · rintro ⟨k', a1, a2, a3, a4, a5, a6, a7⟩
            exact ⟨k', a1, a2, a3, a4, a5, by omega, a7⟩
          · rintro ⟨k', a1, a2, a3, a4, a5, a6, a7⟩
            rcases (show k' < k ∨ k' = k by omega) with q | q
            · exact ⟨k', a1, a2, a3, a4, a5, q, a7⟩
            · subst q; exact absurd ⟨a4, a5⟩ ok))
        refine ⟨v', ?_, e2⟩
        rw [← e1, e_Al_ringLeavings_5]
        cases hb : (dH D).testBit (k - 1)
        · rw [hb] at hh
          simp (disch := omega) only [o2, ↓reduceIte, ↓Option.bind_some, if_true, if_false, true_and, and_true, and_self, true_or, or_true, false_or, or_false, not_true_eq_false, not_false_eq_true, Option.bind_some, somene, false_and, and_false, reduceCtorEq, Nat.reduceEqDiff, l4, l0, l1, q_lt_f, ↓bnd hh, q_bi0, nI_add]
        · rw [hb] at hh
          cases hE : dE D
          · exact absurd ⟨hb, fun q => by rw [hE] at q; cases q⟩ ok
          · have ne : k ≠ Z := fun q => ok ⟨hb, fun _ => q⟩
            rw [hE] at o35
            simp (disch := omega) only [o2, ↓reduceIte, ↓Option.bind_some, if_true, if_false, true_and, and_true, and_self, true_or, or_true, false_or, or_false, not_true_eq_false, not_false_eq_true, Option.bind_some, somene, false_and, and_false, reduceCtorEq, Nat.reduceEqDiff, l4, l0, l1, q_lt_f, ↓bnd hh, q_bi0, Bool.true_eq_false, o35, q_eq_f, nI_add]
theorem Al_rowWorth_ok (O : AOc F h a D c) (w : dW D) (hr : r < aK (dA D)) (hm : m < 4096) : c_Al_rowWorth d (some a) (nI m) (nI r) h = some (h, nI (Vr (dA D) r (dH D) (dE D) m)) := by
  obtain ⟨o1, o2, o3, o4, o8, o9, o10, -⟩ := id O
  have w1 := w.1.1
  have w2 := w.1.2.1
  have w3 := w.1.2.2.1 r hr
  have r10 := O.r (j := 10) (by omega) (by omega)
  have e10 := o10.2.2 r hr
  have wr := Al_whole_ok (d := d) O w hr hm
  rw [e_Al_rowWorth]
  cases hw : whole (dA D) r m
  · rw [hw] at wr
    have e := Al_rw_in (d := d) O w hr hm hw (aSz (dA D) r) 0 (by omega)
    have e0 : Vr (dA D) r (dH D) (dE D) m = rsum (dA D) r m (pW (dH D) (dE D)) := by unfold Vr; rw [hw]; rfl
    rw [e0, ← e]
    simp (disch := omega) only [o2, ↓reduceIte, ↓Option.bind_some, if_true, if_false, true_and, and_true, and_self, true_or, or_true, false_or, or_false, not_true_eq_false, not_false_eq_true, Option.bind_some, somene, false_and, and_false, reduceCtorEq, Nat.reduceEqDiff, ↓bnd wr, l0, q_bi0]
    rfl
  · rw [hw] at wr
    obtain ⟨v', e1, e2⟩ := Al_ring_in (d := d) O w (Z := aSz (dA D) r) (by omega) 4 1 0 (by omega) (by omega) (fun i hi => by
      rw [b64_0]
      exact ⟨fun q => (by cases q), fun ⟨k', a1, a2, a3, a4, a5, a6, a7⟩ => by omega⟩)
    have rl : c_Al_ringLeavings d (some a) (hI h (c 10) (nI r).toNatClampNeg) h = some (h, v') := by
      rw [q_cl (by omega), e10, e_Al_ringLeavings]; exact e1
    have hmx := mex_ok (rgL (dH D) (dE D) (aSz (dA D) r) (pW (dH D) (dE D)))
    have hl : (rgL (dH D) (dE D) (aSz (dA D) r) (pW (dH D) (dE D))).length ≤ 4 := by
      unfold rgL
      rw [List.length_map]
      exact List.length_filter_le _ [1, 2, 3, 4]
    have lo := least_ok (d := d) (h := h) (m := mex (rgL (dH D) (dE D) (aSz (dA D) r) (pW (dH D) (dE D)))) e2 (IsM_cg hmx.1 (fun v _ => by
      rw [rgL_mem]
      constructor
      · rintro ⟨k', a1, a2, a3, a4, a5, a7⟩; exact ⟨k', a1, a2, a3, a4, a5, by omega, a7⟩
      · rintro ⟨k', a1, a2, a3, a4, a5, a6, a7⟩; exact ⟨k', a1, a2, a3, a4, a5, a7⟩)) (by omega)
    have e0 : Vr (dA D) r (dH D) (dE D) m = mex (rgL (dH D) (dE D) (aSz (dA D) r) (pW (dH D) (dE D))) := by unfold Vr; rw [hw]; rfl
    rw [e0]
    simp (disch := omega) only [o2, ↓bnd r10, o10.1, o10.2.1, ↓reduceIte, ↓Option.bind_some, if_true, if_false, true_and, and_true, and_self, true_or, or_true, false_or, or_false, not_true_eq_false, not_false_eq_true, Option.bind_some, somene, false_and, and_false, reduceCtorEq, Nat.reduceEqDiff, ↓bnd wr, l0, q_bi0, Bool.true_eq_false, q_in, ↓bnd rl, ↓bnd lo]
end SkWorth
