/-! ===== law ===== -/
def ffi (f : Nat → Bool) : Nat → Option Nat
  | 0 => none
  | n + 1 => match ffi f n with
    | some k => some k
    | none => if f n = true then some n else none
theorem ffi_none {f : Nat → Bool} : ∀ {n : Nat}, ffi f n = none → cb f n = 0 ∧ ∀ i, i < n → f i = false
  | 0, _ => ⟨rfl, fun i hi => absurd hi (by omega)⟩
  | n + 1, h => by
    unfold ffi at h
    cases hq : ffi f n with
    | some k => rw [hq] at h; cases h
    | none =>
      rw [hq] at h
      obtain ⟨h1, h2⟩ := ffi_none hq
      have h : (if f n = true then some n else none) = none := h
      cases hf : f n
      · refine ⟨?_, fun i hi => ?_⟩
        · show cb f n + (f n).toNat = 0
          rw [h1, hf]; rfl
        · rcases (show i < n ∨ i = n by omega) with q | q
          · exact h2 i q
          · rw [q]; exact hf
      · rw [if_pos hf] at h; cases h
theorem ffi_some {f : Nat → Bool} : ∀ {n k : Nat}, ffi f n = some k → 0 < cb f n ∧ k < n ∧ f k = true ∧ ∀ i, i < k → f i = false
  | 0, k, h => by cases h
  | n + 1, k, h => by
    unfold ffi at h
    have hc : cb f (n + 1) = cb f n + (f n).toNat := rfl
    cases hq : ffi f n with
    | some k' =>
      rw [hq] at h
      have h : some k' = some k := h
      cases h
      obtain ⟨h1, h2, h3⟩ := ffi_some hq
      exact ⟨by omega, by omega, h3⟩
    | none =>
      rw [hq] at h
      have h : (if f n = true then some n else none) = some k := h
      obtain ⟨h1, h2⟩ := ffi_none hq
      cases hf : f n
      · rw [if_neg (by rw [hf]; decide)] at h; cases h
      · rw [if_pos hf] at h
        cases h
        exact ⟨by rw [hc, hf]; exact Nat.succ_pos _, by omega, hf, h2⟩
def fitN (D : DD) (p : Nat) (y : NT) (l : Nat) : Bool := if y.1 = p then (cB (dA D) y.2.1 y.2.2.2.1 y.2.2.2.2 (lgH l) (lgE l) && !(wL (dA D) l y.2.1 && wL (dA D) l (aT (dA D) y.2.1 y.2.2.2))) else true
def faL (D : DD) (p : Nat) (f : Nat → NT) (l : Nat) : Nat → Nat → Bool
  | 0, _ => true
  | n + 1, i => fitN D p (f i) l && faL D p f l n (i + 1)
theorem faL_s (D : DD) (p : Nat) (f : Nat → NT) (l n i : Nat) : faL D p f l (n + 1) i = (fitN D p (f i) l && faL D p f l n (i + 1)) := rfl
def lawV (w c : Nat) (o : Option Nat) : Int32 := if w = 0 then nI c else match o with
  | none => nM2
  | some k => if w = 1 then nI (k / 4 + 1) else if w = 2 then nI (k / 2 % 2) else nI (k % 2)
theorem rem2 {k : Nat} (hk : k < 60) : nI (k / 2) - nI (k / 2 / 2) * nI 2 = nI (k / 2 % 2) := by
  rw [← q_div (a := k / 2) (d := 2) (by omega) (by omega) (by omega), q_rem (by omega) (by omega) (by omega)]
theorem cmp_0 (x : Int64) : (lg_cmp x 0 = 0) = (x = 0) := by
  unfold lg_cmp
  by_cases q : x > 0
  · rw [if_pos q]
    refine propext ⟨fun r => absurd r (by decide), fun r => ?_⟩
    subst r
    exact absurd q (by decide)
  · rw [if_neg q]
    by_cases q2 : x = 0
    · rw [if_pos q2]; exact propext ⟨fun _ => q2, fun _ => rfl⟩
    · rw [if_neg q2]; exact propext ⟨fun r => absurd r (by decide), fun r => absurd r q2⟩
theorem laws60 : ∀ q, q < 64 → b64 1152921504606846975 q = decide (q < 60) := by decide +kernel
section SkLaw
variable {L : Nat} {xs : Nat → Int32} {F G : Nat → Prop} {E : Nat → Option DD} {h h' h1 h2 : sk_H} {j st tu pl a m p k n i w l : Nat} {D : DD} {c : Nat → Nat} {d : Nat} {f : Nat → NT}
theorem SR_law_in (hp : p ≤ 1) (hpl : pl < 2000) {x2 : Int32} : ∀ (n i : Nat) (v : Int64) (h : sk_H), i + n = min pl 40 → QC F h a D c st → NF F D h (min pl 40) f → hI h 23 3 = nI pl → ∃ h' v', k_SR_law_37 d (some 20) (nI p) x2 v (nI i) h = k_SR_law_37 d (some 20) (nI p) x2 v' (nI (min pl 40)) h' ∧ Wq h h' ∧ QC F h' a D c st ∧ hI h' 23 3 = nI pl ∧ (∀ q, q < 60 → b64 v' q = (b64 v q && faL D p f q n i)) ∧ ∀ q, b64 v q = false → b64 v' q = false
  | 0, i, v, h, hi, Q, N, s3 => by
    refine ⟨h, v, ?_, Wq.refl h, Q, s3, fun q _ => by unfold faL; rw [Bool.and_true], fun q hq => hq⟩
    rw [show i = min pl 40 by omega]
  | n + 1, i, v, h, hi, Q, N, s3 => by
    obtain ⟨C, M, hF, ww, O, rr, i1, hst, T, S8, s8, X⟩ := id Q
    obtain ⟨n1, n2, n3, n4, n5, n6, n7, n8, n9, n10, n11, n12⟩ := N i (by omega)
    have sn : c_St_noted d (hR h 20 4) h = some (h, nI (min pl 40)) := by rw [C.r20_4]; exact St_noted_ok C s3 hpl
    have sN : c_St_strokeNoted d (hR h 20 4) (nI i) (nI p) h = some (h, if (f i).1 = p then some (f i).2.2.1 else none) := by rw [C.r20_4]; exact St_sN_ok C s3 hpl N (by omega) hp
    have e25 : (nI i).toNatClampNeg = i := q_cl (by omega)
    by_cases q : (f i).1 = p
    · rw [if_pos q] at sN
      obtain ⟨x1, x2', x3, x4⟩ := aL_mem n12
      obtain ⟨y1, y2, y3⟩ := cB_sub x1
      obtain ⟨h1, v1, f1, f2, f3, f4, f5⟩ := Ta_lawsBehind_ok (d := d) C ww hF O T.1 n4 n9 n8 x4 x2' x3 y3
      have Q1 := Q.wq f3 f4
      have N1 := N.cq hF (f3.cq C)
      have s31 : hI h1 23 3 = nI pl := by rw [f3.I (by decide)]; exact s3
      have g1 : c_Ta_lawsBehind d (hR h 20 7) (hI h 25 (nI i).toNatClampNeg) (some (f i).2.2.1) h = some (h1, v1) := by rw [C.r20_7, e25, n5]; exact f1
      obtain ⟨h', v', e1, e2, e3, e4, e5, e6⟩ := SR_law_in hp hpl (x2 := x2) n (i + 1) (v &&& v1) h1 (by omega) Q1 N1 s31
      refine ⟨h', v', ?_, f3.trans e2, e3, e4, fun l hl => ?_, fun l hl => e6 l (by rw [b64_and, hl, Bool.false_and])⟩
      · rw [← e1, e_SR_law_37]
        simp (disch := omega) only [C.k20, C.k23, C.k25, C.n25, C.k32, ↓bnd C.r20_4, ↓bnd C.r20_7, ↓bnd C.r23_6, ↓bnd sn, ↓bnd sN, ↓bnd g1, ↓reduceIte, ↓Option.bind_some, if_true, if_false, true_and, and_true, and_self, true_or, or_true, false_or, or_false, not_true_eq_false, not_false_eq_true, Option.bind_some, somene, false_and, and_false, reduceCtorEq, Nat.reduceEqDiff, q_le_f, q_in, l1, nI_add]
      · rw [e5 l hl, b64_and, f2 l hl]
        rw [faL_s]
        have ft : fitN D p (f i) l = (lb (dA D) (f i).2.1 l (f i).2.2.2 && !(wL (dA D) l (f i).2.1 && wL (dA D) l (aT (dA D) (f i).2.1 (f i).2.2.2))) := by
          unfold fitN lb
          rw [if_pos q, cB_cO, decide_eq_true y2, Bool.and_true]
        rw [ft, Bool.and_assoc]
    · rw [if_neg q] at sN
      obtain ⟨h', v', e1, e2, e3, e4, e5, e6⟩ := SR_law_in hp hpl (x2 := x2) n (i + 1) v h (by omega) Q N s3
      refine ⟨h', v', ?_, e2, e3, e4, fun l hl => ?_, e6⟩
      · rw [← e1, e_SR_law_37]
        simp (disch := omega) only [C.k20, C.k23, ↓bnd C.r20_4, ↓bnd sn, ↓bnd sN, ↓reduceIte, ↓Option.bind_some, if_true, if_false, true_and, and_true, and_self, true_or, or_true, false_or, or_false, not_true_eq_false, not_false_eq_true, Option.bind_some, somene, false_and, and_false, reduceCtorEq, Nat.reduceEqDiff, q_le_f, l1, nI_add]
      · rw [e5 l hl]
        rw [faL_s]
        have ft : fitN D p (f i) l = true := by unfold fitN; rw [if_neg q]
        rw [ft, Bool.true_and]
theorem SR_law_end (C : CS h) (hw : w ≤ 3) (s3 : hI h 23 3 = nI pl) (hpl : pl < 2000) {fit : Nat → Bool} {v : Int64} (h1 : ∀ q, q < 60 → b64 v q = fit q) (h2 : ∀ q, 60 ≤ q → q < 64 → b64 v q = false) {x1 : Int32} : k_SR_law_37 d (some 20) x1 (nI w) v (nI (min pl 40)) h = some (h, lawV w (cb fit 60) (ffi fit 60)) := by
  have sn : c_St_noted d (hR h 20 4) h = some (h, nI (min pl 40)) := by rw [C.r20_4]; exact St_noted_ok C s3 hpl
  have hc : cb (b64 v) 64 = cb fit 60 := by
    rw [show 64 = 60 + 4 from rfl, cb_add, cb_cg h1]
    have : cb (fun i => b64 v (60 + i)) 4 = cb (fun _ => false) 4 := cb_cg (fun i hi => h2 _ (by omega) (by omega))
    rw [this]
    rfl
  have bc := JL_bc_ok d v h
  rw [hc] at bc
  rw [e_SR_law_37]
  unfold lawV
  by_cases w0 : w = 0
  · subst w0
    simp (disch := omega) only [C.k20, C.k23, ↓bnd C.r20_4, ↓bnd sn, ↓reduceIte, ↓Option.bind_some, if_true, if_false, true_and, and_true, and_self, true_or, or_true, false_or, or_false, not_true_eq_false, not_false_eq_true, Option.bind_some, somene, false_and, and_false, reduceCtorEq, Nat.reduceEqDiff, q_le_t, l0, bc]
  · rw [if_neg w0]
    cases hf : ffi fit 60 with
    | none =>
      have hz : v = 0 := b64_ext fun i hi => by
        rw [b64_0]
        rcases Nat.lt_or_ge i 60 with q | q
        · rw [h1 i q]; exact (ffi_none hf).2 i q
        · exact h2 i q hi
      have c0 : (lg_cmp v 0 = nI 0) = True := eq_true (by rw [hz]; decide)
      simp (disch := omega) only [C.k20, C.k23, ↓bnd C.r20_4, ↓bnd sn, ↓reduceIte, ↓Option.bind_some, if_true, if_false, true_and, and_true, and_self, true_or, or_true, false_or, or_false, not_true_eq_false, not_false_eq_true, Option.bind_some, somene, false_and, and_false, reduceCtorEq, Nat.reduceEqDiff, q_le_t, l0, l2, lm2, q_eq_f, c0]
    | some k =>
      obtain ⟨-, k1, k2, k3⟩ := ffi_some hf
      have nz := JL_ntz_ok d v k (by omega) (by rw [h1 k k1]; exact k2) (fun i hi => by rw [h1 i (by omega)]; exact k3 i hi) h
      have c0 : (lg_cmp v 0 = nI 0) = False := eq_false (fun q => by
        have q2 : v = 0 := by rw [← cmp_0]; exact q
        have := h1 k k1
        rw [q2, b64_0, k2] at this
        cases this)
      rcases (show w = 1 ∨ w = 2 ∨ w = 3 by omega) with rfl | rfl | rfl
      · simp (disch := omega) only [C.k20, C.k23, ↓bnd C.r20_4, ↓bnd sn, ↓reduceIte, ↓Option.bind_some, if_true, if_false, true_and, and_true, and_self, true_or, or_true, false_or, or_false, not_true_eq_false, not_false_eq_true, Option.bind_some, somene, false_and, and_false, reduceCtorEq, Nat.reduceEqDiff, q_le_t, l0, l1, l4, q_eq_f, c0, ↓bnd nz, q_div, nI_add]
      · simp (disch := omega) only [C.k20, C.k23, ↓bnd C.r20_4, ↓bnd sn, ↓reduceIte, ↓Option.bind_some, if_true, if_false, true_and, and_true, and_self, true_or, or_true, false_or, or_false, not_true_eq_false, not_false_eq_true, Option.bind_some, somene, false_and, and_false, reduceCtorEq, Nat.reduceEqDiff, q_le_t, l0, l1, l2, q_eq_f, c0, ↓bnd nz, q_div, rem2]
      · simp (disch := omega) only [C.k20, C.k23, ↓bnd C.r20_4, ↓bnd sn, ↓reduceIte, ↓Option.bind_some, if_true, if_false, true_and, and_true, and_self, true_or, or_true, false_or, or_false, not_true_eq_false, not_false_eq_true, Option.bind_some, somene, false_and, and_false, reduceCtorEq, Nat.reduceEqDiff, q_le_t, l0, l1, l2, q_eq_f, c0, ↓bnd nz, q_rem]
/-! the reference -/
theorem M_f70 {W : Nat → Bool} {H : Nat} {e : Bool} {x1 : Int32} (M : MS 52 h) (w : dW D) (S : aSaid (dA D) (hI h 62)) (N : NF F D h n f) (hn : n ≤ 40) (hi : i < n) (X : ∀ j, j < 2 ^ aN (dA D) → hI h 63 j = bi (W j)) (hH : H < 16) : k_M_fitsLaw_70 d (some 52) x1 (nI H) (bi e) (nI i) (bi e) (nI H) (nI (f i).2.2.2.2) (nI (f i).2.2.2.1) (nI (f i).2.1) (some 52) h = if (cB (dA D) (f i).2.1 (f i).2.2.2.1 (f i).2.2.2.2 H e && !(W (f i).2.1 && W (aT (dA D) (f i).2.1 (f i).2.2.2))) = true then k_M_fitsLaw_11 d (some 52) x1 (nI H) (bi e) (nI (i + 1)) h else some (h, nI 0) := by
  obtain ⟨n1, n2, n3, n4, n5, n6, n7, n8, n9, n10, n11, n12⟩ := N i hi
  obtain ⟨y1, y2, y3, y4⟩ := aL_mem n12
  have hm4 := p12 w.1 n4
  have cbe := M_canBe_ok (b := 52) d M w.1 S (ends := e) hm4 y4 y2 y3 hH
  have m1 : c_M_noted d (some 52) (nI i) (1 : Int32) h = some (h, nI (f i).2.1) := by
    rw [M_noted_ok M (by omega) (k := 1) (x := (1 : Int32)) (by omega) rfl, show 24 + 4 * i + 1 = 25 + 4 * i by omega, n6]
  have xw := X _ n4
  have wn := M_winsNoted_ok (d := d) M w S N hn hi X
  rw [e_M_fitsLaw_70]
  cases hc : cB (dA D) (f i).2.1 (f i).2.2.2.1 (f i).2.2.2.2 H e
  · rw [hc] at cbe
    simp (disch := omega) only [M.K52, ↓reduceIte, ↓Option.bind_some, if_true, if_false, true_and, and_true, and_self, true_or, or_true, false_or, or_false, not_true_eq_false, not_false_eq_true, Option.bind_some, somene, false_and, and_false, reduceCtorEq, Nat.reduceEqDiff, ↓bnd cbe, l0, q_bi0, Bool.false_and, Bool.false_eq_true]
  · rw [hc] at cbe
    cases hw : W (f i).2.1
    · rw [hw] at xw
      simp (disch := omega) only [M.K52, ↓reduceIte, ↓Option.bind_some, if_true, if_false, true_and, and_true, and_self, true_or, or_true, false_or, or_false, not_true_eq_false, not_false_eq_true, Option.bind_some, somene, false_and, and_false, reduceCtorEq, Nat.reduceEqDiff, ↓bnd cbe, ↓bnd m1, ↓bnd M.R22, M.K63, M.N63, l0, l1, q_bi0, q_in, q_cl, xw, nI_add, Bool.false_and, Bool.true_and, Bool.not_false, Bool.true_eq_false]
    · rw [hw] at xw
      cases ht : W (aT (dA D) (f i).2.1 (f i).2.2.2)
      · rw [ht] at wn
        simp (disch := omega) only [M.K52, ↓reduceIte, ↓Option.bind_some, if_true, if_false, true_and, and_true, and_self, true_or, or_true, false_or, or_false, not_true_eq_false, not_false_eq_true, Option.bind_some, somene, false_and, and_false, reduceCtorEq, Nat.reduceEqDiff, ↓bnd cbe, ↓bnd m1, ↓bnd M.R22, M.K63, M.N63, l0, l1, q_bi0, q_in, q_cl, xw, ↓bnd wn, nI_add, Bool.and_false, Bool.true_and, Bool.not_false, Bool.true_eq_false]
      · rw [ht] at wn
        simp (disch := omega) only [M.K52, ↓reduceIte, ↓Option.bind_some, if_true, if_false, true_and, and_true, and_self, true_or, or_true, false_or, or_false, not_true_eq_false, not_false_eq_true, Option.bind_some, somene, false_and, and_false, reduceCtorEq, Nat.reduceEqDiff, ↓bnd cbe, ↓bnd m1, ↓bnd M.R22, M.K63, M.N63, l0, l1, q_bi0, q_in, q_cl, xw, ↓bnd wn, nI_add, Bool.and_true, Bool.true_and, Bool.not_true, Bool.true_eq_false, Bool.false_eq_true]
theorem M_f11 (hp : p ≤ 1) (M : MS 52 h) (w : dW D) (S : aSaid (dA D) (hI h 62)) (N : NF F D h (min pl 40) f) (s10 : hI h 62 10 = nI (min pl 40)) (hl : l < 60) (X : ∀ j, j < 2 ^ aN (dA D) → hI h 63 j = bi (wL (dA D) l j)) : ∀ (n i : Nat), i + n = min pl 40 → k_M_fitsLaw_11 d (some 52) (nI p) (nI (lgH l)) (bi (lgE l)) (nI i) h = some (h, bi (faL D p f l n i))
  | 0, i, hi => by
    rw [e_M_fitsLaw_11]
    simp (disch := omega) only [M.K52, ↓bnd M.R20, M.K62, M.N62, ↓reduceIte, ↓Option.bind_some, if_true, if_false, true_and, and_true, and_self, true_or, or_true, false_or, or_false, not_true_eq_false, not_false_eq_true, Option.bind_some, somene, false_and, and_false, reduceCtorEq, Nat.reduceEqDiff, l10, l1, q_in, q_cl, s10, q_le_t]
    rfl
  | n + 1, i, hi => by
    have ih := M_f11 hp M w S N s10 hl X n (i + 1) (by omega)
    obtain ⟨n1, n2, n3, n4, n5, n6, n7, n8, n9, n10, n11, n12⟩ := N i (by omega)
    have m0 : c_M_noted d (some 52) (nI i) (0 : Int32) h = some (h, nI (f i).1) := by
      rw [M_noted_ok M (by omega) (k := 0) (x := (0 : Int32)) (by omega) rfl, show 24 + 4 * i + 0 = 24 + 4 * i by omega, n3]
    have m1 : c_M_noted d (some 52) (nI i) (1 : Int32) h = some (h, nI (f i).2.1) := by
      rw [M_noted_ok M (by omega) (k := 1) (x := (1 : Int32)) (by omega) rfl, show 24 + 4 * i + 1 = 25 + 4 * i by omega, n6]
    have m2 : c_M_noted d (some 52) (nI i) (2 : Int32) h = some (h, nI (f i).2.2.2.1) := by
      rw [M_noted_ok M (by omega) (k := 2) (x := (2 : Int32)) (by omega) rfl, show 24 + 4 * i + 2 = 26 + 4 * i by omega, n10]
    have m3 : c_M_noted d (some 52) (nI i) (3 : Int32) h = some (h, nI (f i).2.2.2.2) := by
      rw [M_noted_ok M (by omega) (k := 3) (x := (3 : Int32)) (by omega) rfl, show 24 + 4 * i + 3 = 27 + 4 * i by omega, n11]
    have hH : lgH l < 16 := by unfold lgH; omega
    have f70 := M_f70 (d := d) (x1 := nI p) (e := lgE l) M w S N (by omega) (show i < min pl 40 by omega) X hH
    rw [e_M_fitsLaw_11]
    by_cases q : (f i).1 = p
    · have ft : fitN D p (f i) l = (cB (dA D) (f i).2.1 (f i).2.2.2.1 (f i).2.2.2.2 (lgH l) (lgE l) && !(wL (dA D) l (f i).2.1 && wL (dA D) l (aT (dA D) (f i).2.1 (f i).2.2.2))) := by
        unfold fitN; rw [if_pos q]
      rw [← ft, ih] at f70
      have goal : ∀ o : Option (sk_H × Int32), o = (if fitN D p (f i) l = true then some (h, bi (faL D p f l n (i + 1))) else some (h, nI 0)) → o = some (h, bi (faL D p f l (n + 1) i)) := by
        intro o ho
        rw [ho, faL_s]
        cases fitN D p (f i) l <;> rfl
      refine goal _ ?_
      rw [← f70]
      cases he : lgE l
      · simp (disch := omega) only [M.K52, ↓bnd M.R20, M.K62, M.N62, ↓reduceIte, ↓Option.bind_some, if_true, if_false, true_and, and_true, and_self, true_or, or_true, false_or, or_false, not_true_eq_false, not_false_eq_true, Option.bind_some, somene, false_and, and_false, reduceCtorEq, Nat.reduceEqDiff, l10, l0, l1, q_in, q_cl, s10, q_le_f, ↓bnd m0, ↓bnd m1, ↓bnd m2, ↓bnd m3, q, q_bi1, Bool.false_eq_true, bi_f, q_eq_f]
      · simp (disch := omega) only [M.K52, ↓bnd M.R20, M.K62, M.N62, ↓reduceIte, ↓Option.bind_some, if_true, if_false, true_and, and_true, and_self, true_or, or_true, false_or, or_false, not_true_eq_false, not_false_eq_true, Option.bind_some, somene, false_and, and_false, reduceCtorEq, Nat.reduceEqDiff, l10, l0, l1, q_in, q_cl, s10, q_le_f, ↓bnd m0, ↓bnd m1, ↓bnd m2, ↓bnd m3, q, q_bi1, bi_t]
    · have ft : fitN D p (f i) l = true := by unfold fitN; rw [if_neg q]
      rw [faL_s, ft, Bool.true_and, ← ih]
      simp (disch := omega) only [M.K52, ↓bnd M.R20, M.K62, M.N62, ↓reduceIte, ↓Option.bind_some, if_true, if_false, true_and, and_true, and_self, true_or, or_true, false_or, or_false, not_true_eq_false, not_false_eq_true, Option.bind_some, somene, false_and, and_false, reduceCtorEq, Nat.reduceEqDiff, l10, l0, l1, q_in, q_cl, s10, q_le_f, ↓bnd m0, q_eq_f, q, nI_add]
theorem bi_mod (x : Nat) : nI (x % 2) = bi (decide (x % 2 = 1)) := by
  rcases (show x % 2 = 0 ∨ x % 2 = 1 by omega) with q | q <;> rw [q] <;> rfl
/-- what stays while the laws are tried -/
def LI (F : Nat → Prop) (D : DD) (pl : Nat) (f : Nat → NT) (h : sk_H) : Prop := MS 52 h ∧ mSaid D (hI h 62) ∧ NF F D h (min pl 40) f ∧ hI h 62 10 = nI (min pl 40) ∧ MWon (dA D) h
theorem M_law_in (hp : p ≤ 1) (hw : w ≤ 3) (ww : dW D) (hF : Far F) : ∀ (n l : Nat) (h : sk_H), l + n = 60 → LI F D pl f h → ∃ h', k_M_law_39 d (some 52) (nI p) (nI w) (nI (cb (fun l => faL D p f l (min pl 40) 0) l)) (oI (ffi (fun l => faL D p f l (min pl 40) 0) l)) (nI l) h = some (h', lawV w (cb (fun l => faL D p f l (min pl 40) 0) 60) (ffi (fun l => faL D p f l (min pl 40) 0) 60)) ∧ Mq h h' ∧ MWon (dA D) h'
  | 0, l, h, hl, I => by
    obtain ⟨M, S, N, s10, X⟩ := I
    have hl : l = 60 := by omega
    subst hl
    refine ⟨h, ?_, Mq.refl h, X⟩
    generalize (fun l => faL D p f l (min pl 40) 0) = fit
    have hc := cb_le fit 60
    rw [e_M_law_39]
    unfold lawV
    by_cases w0 : w = 0
    · subst w0
      simp (disch := omega) only [↓reduceIte, ↓Option.bind_some, if_true, if_false, true_and, and_true, and_self, true_or, or_true, false_or, or_false, not_true_eq_false, not_false_eq_true, Option.bind_some, somene, false_and, and_false, reduceCtorEq, Nat.reduceEqDiff, l60, l0, q_le_t]
    · rw [if_neg w0]
      cases hf : ffi fit 60 with
      | none =>
        have e1 : oI none = nM := rfl
        simp (disch := omega) only [↓reduceIte, ↓Option.bind_some, if_true, if_false, true_and, and_true, and_self, true_or, or_true, false_or, or_false, not_true_eq_false, not_false_eq_true, Option.bind_some, somene, false_and, and_false, reduceCtorEq, Nat.reduceEqDiff, l60, l0, l2, lm2, q_le_t, q_eq_f, e1, q_mle0]
      | some k =>
        obtain ⟨-, k1, -⟩ := ffi_some hf
        have e1 : oI (some k) = nI k := rfl
        rcases (show w = 1 ∨ w = 2 ∨ w = 3 by omega) with rfl | rfl | rfl
        · simp (disch := omega) only [↓reduceIte, ↓Option.bind_some, if_true, if_false, true_and, and_true, and_self, true_or, or_true, false_or, or_false, not_true_eq_false, not_false_eq_true, Option.bind_some, somene, false_and, and_false, reduceCtorEq, Nat.reduceEqDiff, l60, l0, l1, l2, l4, q_le_t, q_eq_f, e1, q_div, nI_add]
        · simp (disch := omega) only [↓reduceIte, ↓Option.bind_some, if_true, if_false, true_and, and_true, and_self, true_or, or_true, false_or, or_false, not_true_eq_false, not_false_eq_true, Option.bind_some, somene, false_and, and_false, reduceCtorEq, Nat.reduceEqDiff, l60, l0, l1, l2, q_le_t, q_eq_f, e1, q_div, rem2]
        · simp (disch := omega) only [↓reduceIte, ↓Option.bind_some, if_true, if_false, true_and, and_true, and_self, true_or, or_true, false_or, or_false, not_true_eq_false, not_false_eq_true, Option.bind_some, somene, false_and, and_false, reduceCtorEq, Nat.reduceEqDiff, l60, l0, l1, l2, q_le_t, q_eq_f, e1, q_rem]
  | n + 1, l, h, hl, I => by
    obtain ⟨M, S, N, s10, X⟩ := I
    have hH : lgH l < 16 := by unfold lgH; omega
    obtain ⟨h1, e1, Q1, e2, e3⟩ := M_fillsWon_ok d M ww.1 S.1 X hH (lgE l) (lgL l)
    have M1 := M.mq Q1
    have S1 : mSaid D (hI h1 62) := by rw [Q1.Iw (by decide) (by decide)]; exact S
    have N1 := N.mq hF Q1
    have t10 : hI h1 62 10 = nI (min pl 40) := by rw [Q1.Iw (by decide) (by decide)]; exact s10
    have X1 : MWon (dA D) h1 := MWon_of hH e2 e3
    have f11 := M_f11 (d := d) hp M1 ww S1.1 N1 t10 (show l < 60 by omega) e3 (min pl 40) 0 (by omega)
    obtain ⟨h', g1, g2, g3⟩ := M_law_in hp hw ww hF n (l + 1) h1 (by omega) ⟨M1, S1, N1, t10, X1⟩
    refine ⟨h', ?_, Q1.trans g2, g3⟩
    rw [← g1, e_M_law_39]
    have fl : c_M_fitsLaw d (some 52) (nI p) ((nI l / (4 : Int32)) + (1 : Int32)) ((nI l / (2 : Int32)) - (nI l / (2 : Int32)) / (2 : Int32) * (2 : Int32)) (nI l - nI l / (2 : Int32) * (2 : Int32)) h = some (h1, bi (faL D p f l (min pl 40) 0)) := by
      have a1 : (nI l / (4 : Int32)) + (1 : Int32) = nI (lgH l) := by
        rw [l4, q_div (by omega) (by omega) (by omega), l1, nI_add]; rfl
      have a2 : (nI l / (2 : Int32)) - (nI l / (2 : Int32)) / (2 : Int32) * (2 : Int32) = bi (lgE l) := by
        rw [l2, q_div (by omega) (by omega) (by omega), q_rem (by omega) (by omega) (by omega), bi_mod]; rfl
      have a3 : nI l - nI l / (2 : Int32) * (2 : Int32) = bi (lgL l) := by
        rw [l2, q_rem (by omega) (by omega) (by omega), bi_mod]; rfl
      rw [a1, a2, a3, e_M_fitsLaw, if_pos M.K52, e1]
      exact f11
    show _ = k_M_law_39 d (some 52) (nI p) (nI w) (nI (cb (fun l => faL D p f l (min pl 40) 0) l + (faL D p f l (min pl 40) 0).toNat)) (oI (match ffi (fun l => faL D p f l (min pl 40) 0) l with
      | some k => some k
      | none => if faL D p f l (min pl 40) 0 = true then some l else none)) (nI (l + 1)) h1
    have hc := cb_le (fun l => faL D p f l (min pl 40) 0) l
    cases hft : faL D p f l (min pl 40) 0
    · rw [hft] at fl
      have eo : (match ffi (fun l => faL D p f l (min pl 40) 0) l with
      | some k => some k
      | none => if false = true then some l else none) = ffi (fun l => faL D p f l (min pl 40) 0) l := by
        cases ffi (fun l => faL D p f l (min pl 40) 0) l <;> rfl
      rw [eo]
      simp (disch := omega) only [↓reduceIte, ↓Option.bind_some, if_true, if_false, true_and, and_true, and_self, true_or, or_true, false_or, or_false, not_true_eq_false, not_false_eq_true, Option.bind_some, somene, false_and, and_false, reduceCtorEq, Nat.reduceEqDiff, l60, q_le_f, M.K52, ↓bnd fl, l0, l1, l2, l4, q_eq_f, q_bi0, nI_add, Bool.toNat_false, Nat.add_zero]
    · rw [hft] at fl
      cases hf : ffi (fun l => faL D p f l (min pl 40) 0) l with
      | none =>
        obtain ⟨c1, -⟩ := ffi_none hf
        have e5 : oI (some l) = nI l := rfl
        simp (disch := omega) only [↓reduceIte, ↓Option.bind_some, if_true, if_false, true_and, and_true, and_self, true_or, or_true, false_or, or_false, not_true_eq_false, not_false_eq_true, Option.bind_some, somene, false_and, and_false, reduceCtorEq, Nat.reduceEqDiff, l60, q_le_f, M.K52, ↓bnd fl, l0, l1, l2, l4, q_eq_f, q_bi0, nI_add, Bool.toNat_true, Bool.true_eq_false, c1, e5]
      | some k =>
        obtain ⟨c1, -⟩ := ffi_some hf
        simp (disch := omega) only [↓reduceIte, ↓Option.bind_some, if_true, if_false, true_and, and_true, and_self, true_or, or_true, false_or, or_false, not_true_eq_false, not_false_eq_true, Option.bind_some, somene, false_and, and_false, reduceCtorEq, Nat.reduceEqDiff, l60, q_le_f, M.K52, ↓bnd fl, l0, l1, l2, l4, q_eq_f, q_bi0, nI_add, Bool.toNat_true, Bool.true_eq_false]
theorem q_law (a0 a1 : Int32) : sk_Ag (JJ L xs) L xs 52 (fun h => c_SR_law 40 (some 20) a0 a1 h) (fun h => c_M_law 40 (some 52) a0 a1 h) := by
  refine Ag_of (fun j h F E J r s => ?_) (fun j h F E st tu pl a D c hj J hE Q => ?_)
  · have C := J.2.1
    have M := J.2.2.1
    refine ⟨nM, ?_, ?_⟩
    · show c_SR_law 40 (some 20) a0 a1 h = _
      rw [e_SR_law]
      simp only [C.k20, C.k21, C.k22, C.k23, C.k24, C.k25, C.k26, C.k27, C.k28, C.k29, C.k30, C.k31, C.k32, C.k43, C.k44, C.k45, C.k46, C.k47, C.k48, C.k49, C.k50, C.k51, C.n21, C.n22, C.n24, C.n25, C.n26, C.n27, C.n29, C.n30, C.n31, C.n43, C.n44, C.n45, C.n46, C.n47, C.n48, C.n51, C.r20_0, C.r20_2, C.r20_4, C.r20_5, C.r20_6, C.r20_7, C.r20_8, C.r23_5, C.r23_6, C.r23_7, C.r28_0, C.r28_1, C.r28_2, C.r32_3, C.r32_4, C.r32_5, C.r32_6, C.r32_7, C.r32_8, C.r49_0, C.r50_0, ↓bnd C.r20_0, ↓bnd C.r20_2, ↓bnd C.r20_4, ↓bnd C.r20_5, ↓bnd C.r20_6, ↓bnd C.r20_7, ↓bnd C.r20_8, ↓bnd C.r23_5, ↓bnd C.r23_6, ↓bnd C.r23_7, ↓bnd C.r28_0, ↓bnd C.r28_1, ↓bnd C.r28_2, ↓bnd C.r32_3, ↓bnd C.r32_4, ↓bnd C.r32_5, ↓bnd C.r32_6, ↓bnd C.r32_7, ↓bnd C.r32_8, ↓bnd C.r49_0, ↓bnd C.r50_0, ↓reduceIte, ↓Option.bind_some, if_true, if_false, true_and, and_true, and_self, true_or, or_true, false_or, or_false, not_true_eq_false, not_false_eq_true, Option.bind_some, somene, false_and, and_false, reduceCtorEq, Nat.reduceEqDiff, r, lm1, l1]
    · show c_M_law 40 (some 52) a0 a1 h = _
      rw [e_M_law]
      simp only [M.K52, ↓reduceIte, ↓Option.bind_some, if_true, if_false, true_and, and_true, and_self, true_or, or_true, false_or, or_false, not_true_eq_false, not_false_eq_true, Option.bind_some, somene, false_and, and_false, reduceCtorEq, Nat.reduceEqDiff, M_isAlley_0 M (s 0 (by omega)), lm1, l1, l0]
  · obtain ⟨C, M, hF, w, O, r, i, hst, T, S, s8, X⟩ := id Q
    have e10 : (nI 1 = nI 0) = False := eq_false (by decide)
    obtain ⟨b1, f1, f2, f3⟩ := M_in_n (d := 40) (h := h) 0 1 (by decide) (by decide) (l2 := 0) (h2 := 1) (by decide) (by decide) a0
    obtain ⟨b2, g1, g2, g3⟩ := M_in_n (d := 40) (h := h) 0 3 (by decide) (by decide) (l2 := 0) (h2 := 3) (by decide) (by decide) a1
    have fin : c_SR_law 40 (some 20) a0 a1 h = some (h, nM) → c_M_law 40 (some 52) a0 a1 h = some (h, nM) → QR (fun h => c_SR_law 40 (some 20) a0 a1 h) (fun h => c_M_law 40 (some 52) a0 a1 h) h a D := fun h1 h2 => ⟨h, h, nM, h1, Cq.refl h, T, h2, Mq.refl h, X⟩
    cases b1
    · refine fin ?_ ?_
      · rw [e_SR_law]
        rcases i_cases a0 with hx | ⟨p, hp, hx⟩
        · simp only [C.k20, C.k21, C.k22, C.k23, C.k24, C.k25, C.k26, C.k27, C.k28, C.k29, C.k30, C.k31, C.k32, C.k43, C.k44, C.k45, C.k46, C.k47, C.k48, C.k49, C.k50, C.k51, C.n21, C.n22, C.n24, C.n25, C.n26, C.n27, C.n29, C.n30, C.n31, C.n43, C.n44, C.n45, C.n46, C.n47, C.n48, C.n51, C.r20_0, C.r20_2, C.r20_4, C.r20_5, C.r20_6, C.r20_7, C.r20_8, C.r23_5, C.r23_6, C.r23_7, C.r28_0, C.r28_1, C.r28_2, C.r32_3, C.r32_4, C.r32_5, C.r32_6, C.r32_7, C.r32_8, C.r49_0, C.r50_0, ↓bnd C.r20_0, ↓bnd C.r20_2, ↓bnd C.r20_4, ↓bnd C.r20_5, ↓bnd C.r20_6, ↓bnd C.r20_7, ↓bnd C.r20_8, ↓bnd C.r23_5, ↓bnd C.r23_6, ↓bnd C.r23_7, ↓bnd C.r28_0, ↓bnd C.r28_1, ↓bnd C.r28_2, ↓bnd C.r32_3, ↓bnd C.r32_4, ↓bnd C.r32_5, ↓bnd C.r32_6, ↓bnd C.r32_7, ↓bnd C.r32_8, ↓bnd C.r49_0, ↓bnd C.r50_0, ↓reduceIte, ↓Option.bind_some, if_true, if_false, true_and, and_true, and_self, true_or, or_true, false_or, or_false, not_true_eq_false, not_false_eq_true, Option.bind_some, somene, false_and, and_false, reduceCtorEq, Nat.reduceEqDiff, r, l0, l1, lm1, hx]
        · subst hx
          have hp1 : ¬ p ≤ 1 := fun q => f3 rfl p (by omega) q rfl
          simp (disch := omega) only [C.k20, C.k21, C.k22, C.k23, C.k24, C.k25, C.k26, C.k27, C.k28, C.k29, C.k30, C.k31, C.k32, C.k43, C.k44, C.k45, C.k46, C.k47, C.k48, C.k49, C.k50, C.k51, C.n21, C.n22, C.n24, C.n25, C.n26, C.n27, C.n29, C.n30, C.n31, C.n43, C.n44, C.n45, C.n46, C.n47, C.n48, C.n51, C.r20_0, C.r20_2, C.r20_4, C.r20_5, C.r20_6, C.r20_7, C.r20_8, C.r23_5, C.r23_6, C.r23_7, C.r28_0, C.r28_1, C.r28_2, C.r32_3, C.r32_4, C.r32_5, C.r32_6, C.r32_7, C.r32_8, C.r49_0, C.r50_0, ↓bnd C.r20_0, ↓bnd C.r20_2, ↓bnd C.r20_4, ↓bnd C.r20_5, ↓bnd C.r20_6, ↓bnd C.r20_7, ↓bnd C.r20_8, ↓bnd C.r23_5, ↓bnd C.r23_6, ↓bnd C.r23_7, ↓bnd C.r28_0, ↓bnd C.r28_1, ↓bnd C.r28_2, ↓bnd C.r32_3, ↓bnd C.r32_4, ↓bnd C.r32_5, ↓bnd C.r32_6, ↓bnd C.r32_7, ↓bnd C.r32_8, ↓bnd C.r49_0, ↓bnd C.r50_0, ↓reduceIte, ↓Option.bind_some, if_true, if_false, true_and, and_true, and_self, true_or, or_true, false_or, or_false, not_true_eq_false, not_false_eq_true, Option.bind_some, somene, false_and, and_false, reduceCtorEq, Nat.reduceEqDiff, r, l0, l1, lm1, q_lt_f, q_lt_t]
      · rw [e_M_law]
        simp only [M.K52, ↓reduceIte, ↓Option.bind_some, if_true, if_false, true_and, and_true, and_self, true_or, or_true, false_or, or_false, not_true_eq_false, not_false_eq_true, Option.bind_some, somene, false_and, and_false, reduceCtorEq, Nat.reduceEqDiff, ↓bnd (M_isAlley_1 M S.2.1), l0, l1, lm1, e10, ↓bnd f1, q_bi0]
    · obtain ⟨p, -, hp, rfl⟩ := f2 rfl
      cases b2
      · refine fin ?_ ?_
        · rw [e_SR_law]
          rcases i_cases a1 with hx | ⟨q, hq, hx⟩
          · simp (disch := omega) only [C.k20, C.k21, C.k22, C.k23, C.k24, C.k25, C.k26, C.k27, C.k28, C.k29, C.k30, C.k31, C.k32, C.k43, C.k44, C.k45, C.k46, C.k47, C.k48, C.k49, C.k50, C.k51, C.n21, C.n22, C.n24, C.n25, C.n26, C.n27, C.n29, C.n30, C.n31, C.n43, C.n44, C.n45, C.n46, C.n47, C.n48, C.n51, C.r20_0, C.r20_2, C.r20_4, C.r20_5, C.r20_6, C.r20_7, C.r20_8, C.r23_5, C.r23_6, C.r23_7, C.r28_0, C.r28_1, C.r28_2, C.r32_3, C.r32_4, C.r32_5, C.r32_6, C.r32_7, C.r32_8, C.r49_0, C.r50_0, ↓bnd C.r20_0, ↓bnd C.r20_2, ↓bnd C.r20_4, ↓bnd C.r20_5, ↓bnd C.r20_6, ↓bnd C.r20_7, ↓bnd C.r20_8, ↓bnd C.r23_5, ↓bnd C.r23_6, ↓bnd C.r23_7, ↓bnd C.r28_0, ↓bnd C.r28_1, ↓bnd C.r28_2, ↓bnd C.r32_3, ↓bnd C.r32_4, ↓bnd C.r32_5, ↓bnd C.r32_6, ↓bnd C.r32_7, ↓bnd C.r32_8, ↓bnd C.r49_0, ↓bnd C.r50_0, ↓reduceIte, ↓Option.bind_some, if_true, if_false, true_and, and_true, and_self, true_or, or_true, false_or, or_false, not_true_eq_false, not_false_eq_true, Option.bind_some, somene, false_and, and_false, reduceCtorEq, Nat.reduceEqDiff, r, l0, l1, lm1, hx, q_lt_f]
          · subst hx
            have hp1 : ¬ q ≤ 3 := fun r => g3 rfl q (by omega) r rfl
            simp (disch := omega) only [C.k20, C.k21, C.k22, C.k23, C.k24, C.k25, C.k26, C.k27, C.k28, C.k29, C.k30, C.k31, C.k32, C.k43, C.k44, C.k45, C.k46, C.k47, C.k48, C.k49, C.k50, C.k51, C.n21, C.n22, C.n24, C.n25, C.n26, C.n27, C.n29, C.n30, C.n31, C.n43, C.n44, C.n45, C.n46, C.n47, C.n48, C.n51, C.r20_0, C.r20_2, C.r20_4, C.r20_5, C.r20_6, C.r20_7, C.r20_8, C.r23_5, C.r23_6, C.r23_7, C.r28_0, C.r28_1, C.r28_2, C.r32_3, C.r32_4, C.r32_5, C.r32_6, C.r32_7, C.r32_8, C.r49_0, C.r50_0, ↓bnd C.r20_0, ↓bnd C.r20_2, ↓bnd C.r20_4, ↓bnd C.r20_5, ↓bnd C.r20_6, ↓bnd C.r20_7, ↓bnd C.r20_8, ↓bnd C.r23_5, ↓bnd C.r23_6, ↓bnd C.r23_7, ↓bnd C.r28_0, ↓bnd C.r28_1, ↓bnd C.r28_2, ↓bnd C.r32_3, ↓bnd C.r32_4, ↓bnd C.r32_5, ↓bnd C.r32_6, ↓bnd C.r32_7, ↓bnd C.r32_8, ↓bnd C.r49_0, ↓bnd C.r50_0, ↓reduceIte, ↓Option.bind_some, if_true, if_false, true_and, and_true, and_self, true_or, or_true, false_or, or_false, not_true_eq_false, not_false_eq_true, Option.bind_some, somene, false_and, and_false, reduceCtorEq, Nat.reduceEqDiff, r, l0, l1, l3, lm1, q_lt_f, q_le_f]
        · rw [e_M_law]
          simp only [M.K52, ↓reduceIte, ↓Option.bind_some, if_true, if_false, true_and, and_true, and_self, true_or, or_true, false_or, or_false, not_true_eq_false, not_false_eq_true, Option.bind_some, somene, false_and, and_false, reduceCtorEq, Nat.reduceEqDiff, ↓bnd (M_isAlley_1 M S.2.1), l0, l1, lm1, e10, ↓bnd f1, ↓bnd g1, q_bi0, Bool.true_eq_false]
      · obtain ⟨q, -, hq, rfl⟩ := g2 rfl
        obtain ⟨f, N⟩ := J.no r hE
        have hpl := J.2.2.2.2.2.2.2.2.1
        obtain ⟨-, -, -, s3, -, -, -, s10, -⟩ := J.2.2.2.2.2.2.2.2.2.1
        obtain ⟨h1, v', e1, e2, e3, e4, e5, e6⟩ := SR_law_in (d := 40) (x2 := nI q) hp (show pl < 2000 by omega) (min pl 40) 0 1152921504606846975 h (by omega) Q N s3
        have q' := e2.cq C
        have en := SR_law_end (d := 40) (C.cq q') hq e4 (by omega) (fit := fun l => faL D p f l (min pl 40) 0) (v := v') (x1 := nI p) (fun l hl => by rw [e5 l hl, laws60 l (by omega), decide_eq_true hl, Bool.true_and]) (fun l h1 h2 => e6 l (by rw [laws60 l h2, decide_eq_false (by omega)]))
        obtain ⟨⟨M1, S1, s81⟩, X1⟩ := Q.m q'
        have N1 := N.cq hF q'
        obtain ⟨h2, m1, Q2, X2⟩ := M_law_in (d := 40) hp hq w hF 60 0 h1 (by omega) ⟨M1, S1, N1, by rw [q'.I52 (by decide)]; exact s10, X1⟩
        refine ⟨h1, h2, lawV q (cb (fun l => faL D p f l (min pl 40) 0) 60) (ffi (fun l => faL D p f l (min pl 40) 0) 60), ?_, q', e3.2.2.2.2.2.2.2.2.1, ?_, Q2, X2⟩
        · show c_SR_law 40 (some 20) (nI p) (nI q) h = _
          rw [e_SR_law, ← en, ← e1]
          simp (disch := omega) only [C.k20, C.k21, C.k22, C.k23, C.k24, C.k25, C.k26, C.k27, C.k28, C.k29, C.k30, C.k31, C.k32, C.k43, C.k44, C.k45, C.k46, C.k47, C.k48, C.k49, C.k50, C.k51, C.n21, C.n22, C.n24, C.n25, C.n26, C.n27, C.n29, C.n30, C.n31, C.n43, C.n44, C.n45, C.n46, C.n47, C.n48, C.n51, C.r20_0, C.r20_2, C.r20_4, C.r20_5, C.r20_6, C.r20_7, C.r20_8, C.r23_5, C.r23_6, C.r23_7, C.r28_0, C.r28_1, C.r28_2, C.r32_3, C.r32_4, C.r32_5, C.r32_6, C.r32_7, C.r32_8, C.r49_0, C.r50_0, ↓bnd C.r20_0, ↓bnd C.r20_2, ↓bnd C.r20_4, ↓bnd C.r20_5, ↓bnd C.r20_6, ↓bnd C.r20_7, ↓bnd C.r20_8, ↓bnd C.r23_5, ↓bnd C.r23_6, ↓bnd C.r23_7, ↓bnd C.r28_0, ↓bnd C.r28_1, ↓bnd C.r28_2, ↓bnd C.r32_3, ↓bnd C.r32_4, ↓bnd C.r32_5, ↓bnd C.r32_6, ↓bnd C.r32_7, ↓bnd C.r32_8, ↓bnd C.r49_0, ↓bnd C.r50_0, ↓reduceIte, ↓Option.bind_some, if_true, if_false, true_and, and_true, and_self, true_or, or_true, false_or, or_false, not_true_eq_false, not_false_eq_true, Option.bind_some, somene, false_and, and_false, reduceCtorEq, Nat.reduceEqDiff, r, l0, l1, l3, lm1, q_lt_f, q_le_t]
        · show c_M_law 40 (some 52) (nI p) (nI q) h1 = _
          obtain ⟨b1, f1, f2, f3⟩ := M_in_n (d := 40) (h := h1) 0 1 (by decide) (by decide) (l2 := 0) (h2 := 1) (by decide) (by decide) (nI p)
          obtain ⟨b2, g1, g2, g3⟩ := M_in_n (d := 40) (h := h1) 0 3 (by decide) (by decide) (l2 := 0) (h2 := 3) (by decide) (by decide) (nI q)
          have hb1 : b1 = true := by
            cases b1
            · exact absurd rfl (f3 rfl p (by omega) hp)
            · rfl
          have hb2 : b2 = true := by
            cases b2
            · exact absurd rfl (g3 rfl q (by omega) hq)
            · rfl
          subst hb1; subst hb2
          rw [e_M_law, ← m1]
          simp only [M1.K52, ↓reduceIte, ↓Option.bind_some, if_true, if_false, true_and, and_true, and_self, true_or, or_true, false_or, or_false, not_true_eq_false, not_false_eq_true, Option.bind_some, somene, false_and, and_false, reduceCtorEq, Nat.reduceEqDiff, ↓bnd (M_isAlley_1 M1 S1.2.1), l0, l1, lm1, e10, ↓bnd f1, ↓bnd g1, q_bi0, Bool.true_eq_false]
          rfl
end SkLaw
