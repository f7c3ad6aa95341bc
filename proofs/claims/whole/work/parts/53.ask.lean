/-! ===== counts of bits; can, place, count ===== -/
def chk (f : Nat → Bool) : Nat → Bool
  | 0 => true
  | n + 1 => f n && chk f n
theorem chk_ok {f : Nat → Bool} : ∀ {n : Nat}, chk f n = true → ∀ m, m < n → f m = true
  | 0, _, m, hm => absurd hm (by omega)
  | n + 1, h, m, hm => by
    have h : (f n && chk f n) = true := h
    rw [Bool.and_eq_true] at h
    rcases (show m = n ∨ m < n by omega) with q | q
    · rw [q]; exact h.1
    · exact chk_ok h.2 m q
def pcF : Nat → Nat → Nat
  | 0, _ => 0
  | f + 1, m => if m = 0 then 0 else pcF f (m &&& (m - 1)) + 1
/-- how many bits are set -/
def pc (m : Nat) : Nat := pcF 12 m
def pcE : Nat → Nat → Bool
  | 0, m => m == 0
  | f + 1, m => m == 0 || pcE f (m &&& (m - 1))
theorem pcE_all : chk (pcE 12) 4096 = true := by decide +kernel
def bcI (x : Int32) : Int32 :=
  let i1 := x - (((x.toUInt32 >>> ((1 : Int32).toUInt32 &&& Int32.toUInt32 31)).toInt32) &&& (1431655765 : Int32))
  let i2 := (i1 &&& (858993459 : Int32)) + (((i1.toUInt32 >>> ((2 : Int32).toUInt32 &&& Int32.toUInt32 31)).toInt32) &&& (858993459 : Int32))
  let i3 := (i2 + ((i2.toUInt32 >>> ((4 : Int32).toUInt32 &&& Int32.toUInt32 31)).toInt32)) &&& (252645135 : Int32)
  let i4 := i3 + ((i3.toUInt32 >>> ((8 : Int32).toUInt32 &&& Int32.toUInt32 31)).toInt32)
  let i5 := i4 + ((i4.toUInt32 >>> ((16 : Int32).toUInt32 &&& Int32.toUInt32 31)).toInt32)
  i5 &&& (63 : Int32)
theorem bc_all : chk (fun m => decide (bcI (nI m) = nI (pc m))) 4096 = true := by decide +kernel
section SkBc
variable {h : sk_H} {d m : Nat}
theorem JI_bc_ok (hm : m < 4096) : c_JI_bitCount d (nI m) h = some (h, nI (pc m)) := by
  have e := of_decide_eq_true (chk_ok bc_all m hm)
  rw [← e, e_JI_bitCount]
  rfl
theorem M_bits_4_ok : ∀ (f n m : Nat), m < 4096 → pcE f m = true → k_M_bits_4 d (nI n) (nI m) h = some (h, nI (n + pcF f m))
  | 0, n, m, hm, e => by
    have e : m = 0 := by
      have : (m == 0) = true := e
      simpa using this
    subst e
    rw [e_M_bits_4, if_pos nI_0]
    rfl
  | f + 1, n, m, hm, e => by
    rw [e_M_bits_4]
    by_cases h0 : m = 0
    · subst h0
      rw [if_pos nI_0]
      rfl
    · rw [if_neg (nI_ne0 (by omega) (by omega)), nI_1, l1, q_sub (by omega), nI_and]
      have e2 : pcE f (m &&& (m - 1)) = true := by
        have e : (m == 0 || pcE f (m &&& (m - 1))) = true := e
        rw [beq_false_of_ne h0, Bool.false_or] at e
        exact e
      rw [M_bits_4_ok f (n + 1) (m &&& (m - 1)) (Nat.lt_of_le_of_lt Nat.and_le_left hm) e2]
      show _ = some (h, nI (n + (if m = 0 then 0 else pcF f (m &&& (m - 1)) + 1)))
      rw [if_neg h0]
      congr 3
      omega
theorem M_bits_ok (hm : m < 4096) : c_M_bits d (nI m) h = some (h, nI (pc m)) := by
  rw [e_M_bits, l0, M_bits_4_ok 12 0 m hm (chk_ok pcE_all m hm), Nat.zero_add]
  rfl
theorem pcF_le : ∀ f m, pcF f m ≤ f
  | 0, m => Nat.le_refl 0
  | f + 1, m => by
    unfold pcF
    split
    · omega
    · have := pcF_le f (m &&& (m - 1)); omega
theorem pc_le (m : Nat) : pc m ≤ 12 := pcF_le 12 m
end SkBc
/-- an int is less than 0, or a number -/
theorem i_cases (x : Int32) : x < nI 0 ∨ ∃ p, p < 2 ^ 31 ∧ x = nI p := by
  by_cases q : x < 0
  · exact Or.inl q
  · exact Or.inr (nI_of q)
theorem rA_mem' {f : Nat → Nat → Bool} {n p k : Nat} (hp : p < n) (h1 : 1 ≤ k) (h4 : k ≤ 4) (hf : f p k = true) : (p, k) ∈ rA f n 0 1 := by
  refine dloop n (fun p0 => p0 ≤ p → (p, k) ∈ rA f n p0 1) (fun p0 k0 => (p0 < p ∨ (p0 = p ∧ k0 ≤ k)) → (p, k) ∈ rA f n p0 k0) ?_ ?_ ?_ ?_ n 0 (by omega) (Nat.zero_le _)
  · intro q; omega
  · intro p0 hp0 ih q
    exact ih (by omega)
  · intro p0 hp0 ih q
    rw [rA_5]
    exact ih (by omega)
  · intro p0 k0 hp0 h10 h40 ih q
    rw [rA_s f hp0 h10 h40]
    by_cases e : p0 = p ∧ k0 = k
    · rw [e.1, e.2, if_pos hf]
      exact List.mem_cons_self ..
    · have := ih (by omega)
      split
      · exact List.mem_cons_of_mem _ this
      · exact this
theorem mem_aL {A : AD} {H : Nat} {E : Bool} {m p k : Nat} (hp : p < aN A) (h1 : 1 ≤ k) (h4 : k ≤ 4) (hf : cB A m p k H E = true) : (p, k) ∈ aL A H E m := rA_mem' hp h1 h4 hf
section SkAsk
variable {L : Nat} {xs : Nat → Int32} {F G : Nat → Prop} {E : Nat → Option DD} {h h1 h2 : sk_H} {j st tu pl a m p k : Nat} {D : DD} {c : Nat → Nat} {d : Nat}
theorem Al_so_in (O : AOc F h a D c) (w : dW D) (hm : m < 4096) {arr N : Nat} (hk : hK h arr = 108) (hN : hN h arr = N) (hN2 : N < 2 ^ 31) (x1 x2 : Int32) : ∀ (l : List (Nat × Nat)) (i : Nat), AS F h (dA D) arr i l → (∀ x ∈ l, x.1 < aN (dA D) ∧ x.2 ≤ 4) → ∃ r, k_Al_strokeOf_14 d (some a) (nI m) x1 x2 (some arr) (nI N) (nI i) h = some (h, r) ∧ ((r = none ∧ ∀ x ∈ l, nI x.1 = x1 → nI x.2 = x2 → cO (dA D) m (dE D) x = false) ∨ (∃ s x, r = some s ∧ F s ∧ SO h (dA D) s x ∧ x ∈ l ∧ nI x.1 = x1 ∧ nI x.2 = x2 ∧ cO (dA D) m (dE D) x = true))
  | [], i, S, _ => by
    have S : Jvm.Pilot.CSkittleRowLaw_law_r7134_573cdd.hN h arr = i := S
    have e : N = i := hN.symm.trans S
    subst e
    refine ⟨none, ?_, Or.inl ⟨rfl, fun x hx => by cases hx⟩⟩
    rw [e_Al_strokeOf_14]
    simp (disch := omega) only [q_le_t, if_true]
  | x :: l, i, ⟨⟨s, r, f, o⟩, S⟩, hl => by
    have hlen := AS_len l (i + 1) S
    have w1 := w.1.1
    obtain ⟨x4, x5⟩ := hl x (List.mem_cons_self ..)
    obtain ⟨r', e1, e2⟩ := Al_so_in O w hm hk hN hN2 x1 x2 l (i + 1) S (fun y hy => hl y (List.mem_cons_of_mem _ hy))
    obtain ⟨o1, oa, ob, _⟩ := id o
    have al := Al_allows_ok d O w o x4 hm
    have ka := O.k
    have skip : ¬ (nI x.1 = x1 ∧ nI x.2 = x2) → ∃ r, some (h, r') = some (h, r) ∧ ((r = none ∧ ∀ y ∈ x :: l, nI y.1 = x1 → nI y.2 = x2 → cO (dA D) m (dE D) y = false) ∨ (∃ s y, r = some s ∧ F s ∧ SO h (dA D) s y ∧ y ∈ x :: l ∧ nI y.1 = x1 ∧ nI y.2 = x2 ∧ cO (dA D) m (dE D) y = true)) := by
      intro hno
      refine ⟨r', rfl, ?_⟩
      rcases e2 with ⟨q1, q2⟩ | ⟨s', y, q1, q2, q3, q4, q5⟩
      · refine Or.inl ⟨q1, fun y hy h1 h2 => ?_⟩
        rcases List.mem_cons.mp hy with q | q
        · subst q; exact absurd ⟨h1, h2⟩ hno
        · exact q2 y q h1 h2
      · exact Or.inr ⟨s', y, q1, q2, q3, List.mem_cons_of_mem _ q4, q5⟩
    rw [e_Al_strokeOf_14]
    by_cases c1 : nI x.1 = x1
    · by_cases c2 : nI x.2 = x2
      · cases hc : cO (dA D) m (dE D) x
        · refine ⟨none, ?_, Or.inl ⟨rfl, fun y hy h1 h2 => ?_⟩⟩
          · simp (disch := omega) only [↓reduceIte, ↓Option.bind_some, if_true, if_false, true_and, and_true, and_self, true_or, or_true, false_or, or_false, not_true_eq_false, not_false_eq_true, Option.bind_some, somene, false_and, and_false, reduceCtorEq, Nat.reduceEqDiff, hk, hN, ar108, q_le_f, q_in, q_cl, r, o1, oa, ob, c1, c2, ka, al, hc, l0, q_bi0]
          · have b1 := (hl y hy).1
            have b2 := (hl y hy).2
            have e3 : y.1 = x.1 := (nI_eq (by omega) (by omega)).mp (h1.trans c1.symm)
            have e4 : y.2 = x.2 := (nI_eq (by omega) (by omega)).mp (h2.trans c2.symm)
            rw [show y = x from Prod.ext e3 e4]
            exact hc
        · refine ⟨some s, ?_, Or.inr ⟨s, x, rfl, f, o, List.mem_cons_self .., c1, c2, hc⟩⟩
          simp (disch := omega) only [↓reduceIte, ↓Option.bind_some, if_true, if_false, true_and, and_true, and_self, true_or, or_true, false_or, or_false, not_true_eq_false, not_false_eq_true, Option.bind_some, somene, false_and, and_false, reduceCtorEq, Nat.reduceEqDiff, hk, hN, ar108, q_le_f, q_in, q_cl, r, o1, oa, ob, c1, c2, ka, al, hc, l0, q_bi0, Bool.true_eq_false]
      · obtain ⟨r2, e3, e4⟩ := skip (fun q => c2 q.2)
        refine ⟨r2, ?_, e4⟩
        rw [← e3, ← e1]
        simp (disch := omega) only [↓reduceIte, ↓Option.bind_some, if_true, if_false, true_and, and_true, and_self, true_or, or_true, false_or, or_false, not_true_eq_false, not_false_eq_true, Option.bind_some, somene, false_and, and_false, reduceCtorEq, Nat.reduceEqDiff, hk, hN, ar108, q_le_f, q_in, q_cl, r, o1, oa, ob, c1, c2, l1, nI_add]
    · obtain ⟨r2, e3, e4⟩ := skip (fun q => c1 q.1)
      refine ⟨r2, ?_, e4⟩
      rw [← e3, ← e1]
      simp (disch := omega) only [↓reduceIte, ↓Option.bind_some, if_true, if_false, true_and, and_true, and_self, true_or, or_true, false_or, or_false, not_true_eq_false, not_false_eq_true, Option.bind_some, somene, false_and, and_false, reduceCtorEq, Nat.reduceEqDiff, hk, hN, ar108, q_le_f, q_in, q_cl, r, o1, oa, ob, c1, l1, nI_add]
/-- the stroke asked for, where the reference would have it too -/
theorem Al_strokeOf_ok (O : AOc F h a D c) (w : dW D) (hm : m < 4096) (x1 x2 : Int32) : ∃ r, c_Al_strokeOf d (some a) (nI m) x1 x2 h = some (h, r) ∧ ((r = none ∧ ∀ p k, p < aN (dA D) → 1 ≤ k → k ≤ 4 → nI p = x1 → nI k = x2 → cB (dA D) m p k (dH D) (dE D) = false) ∨ (∃ s p k, r = some s ∧ F s ∧ SO h (dA D) s (p, k) ∧ p < aN (dA D) ∧ 1 ≤ k ∧ k ≤ 4 ∧ nI p = x1 ∧ nI k = x2 ∧ cB (dA D) m p k (dH D) (dE D) = true)) := by
  have hlen := AS_len _ _ O.S
  rw [Nat.zero_add] at hlen
  have hll := sH_len w.1 (dH D)
  obtain ⟨r, e1, e2⟩ := Al_so_in (d := d) O w hm O.kS hlen (by omega) x1 x2 _ 0 O.S (fun x hx => ⟨(sH_mem hx).2.2.2.2, (sH_mem hx).2.2.2.1⟩)
  refine ⟨r, ?_, ?_⟩
  · rw [e_Al_strokeOf]
    have ra := O.r (j := 14) (by omega) (by omega)
    simp (disch := omega) only [↓reduceIte, ↓Option.bind_some, if_true, if_false, true_and, and_true, and_self, true_or, or_true, false_or, or_false, not_true_eq_false, not_false_eq_true, Option.bind_some, somene, false_and, and_false, reduceCtorEq, Nat.reduceEqDiff, aa101, aa102, aa103, aa104, aa105, aa106, aa107, aa108, aa201, aa202, aa204, ar106, ar107, ar108, ofn, O.k, ra, O.kS, hlen, l0, e1]
  · rcases e2 with ⟨q1, q2⟩ | ⟨s, ⟨p, k⟩, q1, q2, q3, q4, q5, q6, q7⟩
    · refine Or.inl ⟨q1, fun p k hp h1 h4 c1 c2 => ?_⟩
      rw [cB_cO]
      cases hb : ((dH D).testBit (k - 1) && decide (sB (dA D) p k ≠ 0))
      · rfl
      · rw [Bool.true_and]
        exact q2 (p, k) (rA_mem' (f := fun p k => (dH D).testBit (k - 1) && decide (sB (dA D) p k ≠ 0)) hp h1 h4 hb) c1 c2
    · obtain ⟨y0, y1, y2, y3, y4⟩ := sH_mem q4
      refine Or.inr ⟨s, p, k, q1, q2, q3, y4, y2, y3, q5, q6, ?_⟩
      rw [cB_cO]
      have y0 : (dH D).testBit (k - 1) = true := y0
      have y1 : sB (dA D) p k ≠ 0 := y1
      rw [y0, decide_eq_true y1, q7]
      rfl
theorem M_isPlace_ok (M : MS 52 h) (S : mSaid D (hI h 62)) (w : dW D) (x : Int32) : ∃ q : Bool, c_M_isPlace d (some 52) x h = some (h, bi q) ∧ (q = true → ∃ p, p < aN (dA D) ∧ x = nI p) ∧ (q = false → ∀ p, p < aN (dA D) → x ≠ nI p) := by
  have w1 := w.1.1
  rw [e_M_isPlace]
  rcases i_cases x with hx | ⟨p, hp, hx⟩
  · refine ⟨false, ?_, fun q => (by cases q), fun _ p hp q => ?_⟩
    · rw [if_pos (show x < 0 from hx)]; rfl
    · subst q; rw [q_lt_f (by omega) (by omega)] at hx; exact hx
  · subst hx
    by_cases hpn : p < aN (dA D)
    · refine ⟨true, ?_, fun _ => ⟨p, hpn, rfl⟩, fun q => by cases q⟩
      simp (disch := omega) only [M.K52, M.R0, M.R3, M.R4, M.R5, M.R6, M.R7, M.R15, M.R17, M.R19, M.R20, M.R22, M.R24, M.R26, M.R27, M.R28, M.R29, M.R30, M.R37, M.R38, M.R39, ↓bnd M.R0, ↓bnd M.R3, ↓bnd M.R4, ↓bnd M.R5, ↓bnd M.R6, ↓bnd M.R7, ↓bnd M.R15, ↓bnd M.R17, ↓bnd M.R19, ↓bnd M.R20, ↓bnd M.R22, ↓bnd M.R24, ↓bnd M.R26, ↓bnd M.R27, ↓bnd M.R28, ↓bnd M.R29, ↓bnd M.R30, ↓bnd M.R37, ↓bnd M.R38, ↓bnd M.R39, M.K53, M.K54, M.K55, M.K56, M.K57, M.K58, M.K59, M.K60, M.K61, M.K62, M.K63, M.K64, M.K65, M.K66, M.K67, M.K68, M.K69, M.K70, M.K71, M.K72, M.N53, M.N54, M.N55, M.N56, M.N57, M.N58, M.N59, M.N60, M.N61, M.N62, M.N63, M.N64, M.N65, M.N66, M.N67, M.N68, M.N69, M.N70, M.N71, M.N72, ↓reduceIte, ↓Option.bind_some, if_true, if_false, true_and, and_true, and_self, true_or, or_true, false_or, or_false, not_true_eq_false, not_false_eq_true, Option.bind_some, somene, false_and, and_false, reduceCtorEq, Nat.reduceEqDiff, l0, l1, q_lt_f, q_le_f, q_in, q_cl, S.1.1]
      rfl
    · refine ⟨false, ?_, fun q => (by cases q), fun _ r hr q => ?_⟩
      · simp (disch := omega) only [M.K52, M.R0, M.R3, M.R4, M.R5, M.R6, M.R7, M.R15, M.R17, M.R19, M.R20, M.R22, M.R24, M.R26, M.R27, M.R28, M.R29, M.R30, M.R37, M.R38, M.R39, ↓bnd M.R0, ↓bnd M.R3, ↓bnd M.R4, ↓bnd M.R5, ↓bnd M.R6, ↓bnd M.R7, ↓bnd M.R15, ↓bnd M.R17, ↓bnd M.R19, ↓bnd M.R20, ↓bnd M.R22, ↓bnd M.R24, ↓bnd M.R26, ↓bnd M.R27, ↓bnd M.R28, ↓bnd M.R29, ↓bnd M.R30, ↓bnd M.R37, ↓bnd M.R38, ↓bnd M.R39, M.K53, M.K54, M.K55, M.K56, M.K57, M.K58, M.K59, M.K60, M.K61, M.K62, M.K63, M.K64, M.K65, M.K66, M.K67, M.K68, M.K69, M.K70, M.K71, M.K72, M.N53, M.N54, M.N55, M.N56, M.N57, M.N58, M.N59, M.N60, M.N61, M.N62, M.N63, M.N64, M.N65, M.N66, M.N67, M.N68, M.N69, M.N70, M.N71, M.N72, ↓reduceIte, ↓Option.bind_some, if_true, if_false, true_and, and_true, and_self, true_or, or_true, false_or, or_false, not_true_eq_false, not_false_eq_true, Option.bind_some, somene, false_and, and_false, reduceCtorEq, Nat.reduceEqDiff, l0, l1, q_lt_f, q_le_t, q_in, q_cl, S.1.1]
        rfl
      · have := (nI_eq hp (by omega)).mp q; omega
theorem M_isPlace_0 (M : MS 52 h) (s1 : hI h 62 1 = nI 0) (x : Int32) : c_M_isPlace d (some 52) x h = some (h, nI 0) := by
  rw [e_M_isPlace]
  rcases i_cases x with hx | ⟨p, hp, hx⟩
  · rw [if_pos (show x < 0 from hx)]
    rfl
  · subst hx
    simp (disch := omega) only [M.K52, M.R0, M.R3, M.R4, M.R5, M.R6, M.R7, M.R15, M.R17, M.R19, M.R20, M.R22, M.R24, M.R26, M.R27, M.R28, M.R29, M.R30, M.R37, M.R38, M.R39, ↓bnd M.R0, ↓bnd M.R3, ↓bnd M.R4, ↓bnd M.R5, ↓bnd M.R6, ↓bnd M.R7, ↓bnd M.R15, ↓bnd M.R17, ↓bnd M.R19, ↓bnd M.R20, ↓bnd M.R22, ↓bnd M.R24, ↓bnd M.R26, ↓bnd M.R27, ↓bnd M.R28, ↓bnd M.R29, ↓bnd M.R30, ↓bnd M.R37, ↓bnd M.R38, ↓bnd M.R39, M.K53, M.K54, M.K55, M.K56, M.K57, M.K58, M.K59, M.K60, M.K61, M.K62, M.K63, M.K64, M.K65, M.K66, M.K67, M.K68, M.K69, M.K70, M.K71, M.K72, M.N53, M.N54, M.N55, M.N56, M.N57, M.N58, M.N59, M.N60, M.N61, M.N62, M.N63, M.N64, M.N65, M.N66, M.N67, M.N68, M.N69, M.N70, M.N71, M.N72, ↓reduceIte, ↓Option.bind_some, if_true, if_false, true_and, and_true, and_self, true_or, or_true, false_or, or_false, not_true_eq_false, not_false_eq_true, Option.bind_some, somene, false_and, and_false, reduceCtorEq, Nat.reduceEqDiff, l0, l1, q_lt_f, q_le_t, q_in, q_cl, s1]
theorem M_in_n (lo hi : Nat) (hlo : lo < 2 ^ 31) (hhi : hi < 2 ^ 31) {l2 h2 : Int64} (e1 : l2 = (nI lo).toInt64) (e2 : h2 = (nI hi).toInt64) (x : Int32) : ∃ q : Bool, c_M_in d x.toInt64 l2 h2 h = some (h, bi q) ∧ (q = true → ∃ p, lo ≤ p ∧ p ≤ hi ∧ x = nI p) ∧ (q = false → ∀ p, lo ≤ p → p ≤ hi → x ≠ nI p) := by
  subst e1; subst e2
  refine ⟨decide (nI lo ≤ x ∧ x ≤ nI hi), M_in2_ok d, fun q => ?_, fun q p h1 h2 e => ?_⟩
  · rw [decide_eq_true_eq] at q
    rcases i_cases x with hx | ⟨p, hp, hx⟩
    · have h3 := q.1
      rw [Int32.lt_iff_toInt_lt, nI_toInt (by omega)] at hx
      rw [Int32.le_iff_toInt_le, nI_toInt hlo] at h3
      omega
    · subst hx
      rw [q_le hlo hp, q_le hp hhi] at q
      exact ⟨p, q.1, q.2, rfl⟩
  · rw [decide_eq_false_iff_not] at q
    subst e
    rw [q_le hlo (by omega), q_le (by omega) hhi] at q
    exact q ⟨h1, h2⟩
theorem M_winsBy_ok (I : MI D st h) (w : dW D) (X : MWon (dA D) h) (hm : m < 2 ^ aN (dA D)) (hp : p < aN (dA D)) (h1 : 1 ≤ k) (h4 : k ≤ 4) : ∃ h', c_M_winsBy d (some 52) (nI m) (nI p) (nI k) h = some (h', bi (cB (dA D) m p k (dH D) (dE D) && !wD D (aT (dA D) m (p, k)))) ∧ Mq h h' ∧ MWon (dA D) h' := by
  obtain ⟨M, S, s8⟩ := I
  have hm4 := p12 w.1 hm
  have hlt := Nat.lt_of_le_of_lt (an_le m (sB (dA D) p k)) hm
  obtain ⟨h', e, Q, X', -⟩ := M_isWonAt_ok d M w S X hlt
  cases hc : cB (dA D) m p k (dH D) (dE D)
  · refine ⟨h, ?_, Mq.refl h, X⟩
    rw [e_M_winsBy]
    simp only [M.K52, ↓reduceIte, ↓Option.bind_some, if_true, if_false, true_and, and_true, and_self, true_or, or_true, false_or, or_false, not_true_eq_false, not_false_eq_true, Option.bind_some, somene, false_and, and_false, reduceCtorEq, Nat.reduceEqDiff, M_canBeNow_ok d M w S hm4 hp h1 h4, hc, l0, q_bi0]
    rfl
  · refine ⟨h', ?_, Q, X'⟩
    rw [e_M_winsBy]
    simp (disch := omega) only [M.K52, ↓reduceIte, ↓Option.bind_some, if_true, if_false, true_and, and_true, and_self, true_or, or_true, false_or, or_false, not_true_eq_false, not_false_eq_true, Option.bind_some, somene, false_and, and_false, reduceCtorEq, Nat.reduceEqDiff, M_canBeNow_ok d M w S hm4 hp h1 h4, hc, l0, l1, lm1, q_bi0, Bool.true_eq_false, M_strokeBits_ok (b := 52) d M w.1 S.1 hp h4, q_nan, e, Bool.true_and]
    unfold aT
    cases wD D (an m (sB (dA D) p k)) <;> rfl
theorem q_can (a0 a1 : Int32) : sk_Ag (JJ L xs) L xs 52 (fun h => c_SR_can 40 (some 20) a0 a1 h) (fun h => c_M_can 40 (some 52) a0 a1 h) := by
  refine Ag_of (fun j h F E J r s => ?_) (fun j h F E st tu pl a D c hj J hE Q => ?_)
  · have C := J.2.1
    have M := J.2.2.1
    refine ⟨nM, ?_, ?_⟩
    · show c_SR_can 40 (some 20) a0 a1 h = _
      rw [e_SR_can]
      simp only [C.k20, C.k21, C.k22, C.k23, C.k24, C.k25, C.k26, C.k27, C.k28, C.k29, C.k30, C.k31, C.k32, C.k43, C.k44, C.k45, C.k46, C.k47, C.k48, C.k49, C.k50, C.k51, C.n21, C.n22, C.n24, C.n25, C.n26, C.n27, C.n29, C.n30, C.n31, C.n43, C.n44, C.n45, C.n46, C.n47, C.n48, C.n51, C.r20_0, C.r20_2, C.r20_4, C.r20_5, C.r20_6, C.r20_7, C.r20_8, C.r23_5, C.r23_6, C.r23_7, C.r28_0, C.r28_1, C.r28_2, C.r32_3, C.r32_4, C.r32_5, C.r32_6, C.r32_7, C.r32_8, C.r49_0, C.r50_0, ↓bnd C.r20_0, ↓bnd C.r20_2, ↓bnd C.r20_4, ↓bnd C.r20_5, ↓bnd C.r20_6, ↓bnd C.r20_7, ↓bnd C.r20_8, ↓bnd C.r23_5, ↓bnd C.r23_6, ↓bnd C.r23_7, ↓bnd C.r28_0, ↓bnd C.r28_1, ↓bnd C.r28_2, ↓bnd C.r32_3, ↓bnd C.r32_4, ↓bnd C.r32_5, ↓bnd C.r32_6, ↓bnd C.r32_7, ↓bnd C.r32_8, ↓bnd C.r49_0, ↓bnd C.r50_0, ↓reduceIte, ↓Option.bind_some, if_true, if_false, true_and, and_true, and_self, true_or, or_true, false_or, or_false, not_true_eq_false, not_false_eq_true, Option.bind_some, somene, false_and, and_false, reduceCtorEq, Nat.reduceEqDiff, r, lm1, l1]
    · show c_M_can 40 (some 52) a0 a1 h = _
      rw [e_M_can]
      simp only [M.K52, ↓reduceIte, ↓Option.bind_some, if_true, if_false, true_and, and_true, and_self, true_or, or_true, false_or, or_false, not_true_eq_false, not_false_eq_true, Option.bind_some, somene, false_and, and_false, reduceCtorEq, Nat.reduceEqDiff, M_isAlley_0 M (s 0 (by omega)), lm1, l1, l0]
  · obtain ⟨C, M, hF, w, O, r, i, hst, T, S, s8, X⟩ := id Q
    have hst4 := p12 w.1 hst
    have e10 : (nI 1 = nI 0) = False := eq_false (by decide)
    obtain ⟨rr, e1, e2⟩ := Al_strokeOf_ok (d := 40) O w hst4 a0 a1
    rcases e2 with ⟨q1, q2⟩ | ⟨s, p, k, q1, q2, q3, q4, q5, q6, q7, q8, q9⟩
    · subst q1
      refine ⟨h, h, nI 0, ?_, Cq.refl h, T, ?_, Mq.refl h, X⟩
      · show c_SR_can 40 (some 20) a0 a1 h = _
        rw [e_SR_can]
        simp only [C.k20, C.k21, C.k22, C.k23, C.k24, C.k25, C.k26, C.k27, C.k28, C.k29, C.k30, C.k31, C.k32, C.k43, C.k44, C.k45, C.k46, C.k47, C.k48, C.k49, C.k50, C.k51, C.n21, C.n22, C.n24, C.n25, C.n26, C.n27, C.n29, C.n30, C.n31, C.n43, C.n44, C.n45, C.n46, C.n47, C.n48, C.n51, C.r20_0, C.r20_2, C.r20_4, C.r20_5, C.r20_6, C.r20_7, C.r20_8, C.r23_5, C.r23_6, C.r23_7, C.r28_0, C.r28_1, C.r28_2, C.r32_3, C.r32_4, C.r32_5, C.r32_6, C.r32_7, C.r32_8, C.r49_0, C.r50_0, ↓bnd C.r20_0, ↓bnd C.r20_2, ↓bnd C.r20_4, ↓bnd C.r20_5, ↓bnd C.r20_6, ↓bnd C.r20_7, ↓bnd C.r20_8, ↓bnd C.r23_5, ↓bnd C.r23_6, ↓bnd C.r23_7, ↓bnd C.r28_0, ↓bnd C.r28_1, ↓bnd C.r28_2, ↓bnd C.r32_3, ↓bnd C.r32_4, ↓bnd C.r32_5, ↓bnd C.r32_6, ↓bnd C.r32_7, ↓bnd C.r32_8, ↓bnd C.r49_0, ↓bnd C.r50_0, ↓reduceIte, ↓Option.bind_some, if_true, if_false, true_and, and_true, and_self, true_or, or_true, false_or, or_false, not_true_eq_false, not_false_eq_true, Option.bind_some, somene, false_and, and_false, reduceCtorEq, Nat.reduceEqDiff, r, i, O.k, e1, l0]
      · show c_M_can 40 (some 52) a0 a1 h = _
        rw [e_M_can]
        obtain ⟨b1, f1, f2, f3⟩ := M_isPlace_ok (d := 40) M S w a0
        obtain ⟨b2, g1, g2, g3⟩ := M_in_n (d := 40) (h := h) 1 4 (by decide) (by decide) (l2 := 1) (h2 := 4) (by decide) (by decide) a1
        simp only [M.K52, ↓reduceIte, ↓Option.bind_some, if_true, if_false, true_and, and_true, and_self, true_or, or_true, false_or, or_false, not_true_eq_false, not_false_eq_true, Option.bind_some, somene, false_and, and_false, reduceCtorEq, Nat.reduceEqDiff, M_isAlley_1 M S.2.1, l0, l1, e10, f1, q_bi0]
        cases b1
        · simp only [↓reduceIte, ↓Option.bind_some, if_true, if_false, true_and, and_true, and_self, true_or, or_true, false_or, or_false, not_true_eq_false, not_false_eq_true, Option.bind_some, somene, false_and, and_false, reduceCtorEq, Nat.reduceEqDiff]
        · simp only [↓reduceIte, ↓Option.bind_some, if_true, if_false, true_and, and_true, and_self, true_or, or_true, false_or, or_false, not_true_eq_false, not_false_eq_true, Option.bind_some, somene, false_and, and_false, reduceCtorEq, Nat.reduceEqDiff, Bool.true_eq_false, g1, q_bi0]
          cases b2
          · simp only [↓reduceIte, ↓Option.bind_some, if_true, if_false, true_and, and_true, and_self, true_or, or_true, false_or, or_false, not_true_eq_false, not_false_eq_true, Option.bind_some, somene, false_and, and_false, reduceCtorEq, Nat.reduceEqDiff]
          · obtain ⟨p, hp, rfl⟩ := f2 rfl
            obtain ⟨k, h1, h4, rfl⟩ := g2 rfl
            have hc := q2 p k hp h1 h4 rfl rfl
            simp (disch := omega) only [M.K52, M.R0, M.R3, M.R4, M.R5, M.R6, M.R7, M.R15, M.R17, M.R19, M.R20, M.R22, M.R24, M.R26, M.R27, M.R28, M.R29, M.R30, M.R37, M.R38, M.R39, ↓bnd M.R0, ↓bnd M.R3, ↓bnd M.R4, ↓bnd M.R5, ↓bnd M.R6, ↓bnd M.R7, ↓bnd M.R15, ↓bnd M.R17, ↓bnd M.R19, ↓bnd M.R20, ↓bnd M.R22, ↓bnd M.R24, ↓bnd M.R26, ↓bnd M.R27, ↓bnd M.R28, ↓bnd M.R29, ↓bnd M.R30, ↓bnd M.R37, ↓bnd M.R38, ↓bnd M.R39, M.K53, M.K54, M.K55, M.K56, M.K57, M.K58, M.K59, M.K60, M.K61, M.K62, M.K63, M.K64, M.K65, M.K66, M.K67, M.K68, M.K69, M.K70, M.K71, M.K72, M.N53, M.N54, M.N55, M.N56, M.N57, M.N58, M.N59, M.N60, M.N61, M.N62, M.N63, M.N64, M.N65, M.N66, M.N67, M.N68, M.N69, M.N70, M.N71, M.N72, ↓reduceIte, ↓Option.bind_some, if_true, if_false, true_and, and_true, and_self, true_or, or_true, false_or, or_false, not_true_eq_false, not_false_eq_true, Option.bind_some, somene, false_and, and_false, reduceCtorEq, Nat.reduceEqDiff, Bool.true_eq_false, l8, q_in, q_cl, s8, M_canBeNow_ok 40 M w S hst4 hp h1 h4, hc, q_bi0]
    · subst q1; subst q7; subst q8
      obtain ⟨h1, f1, f2, f3, f4⟩ := Ta_winsBy_ok (d := 40) C w hF O T.1 hst q3 q2
      have q' := f2.cq C
      obtain ⟨I1, X1⟩ := Q.m q'
      obtain ⟨M1, S1, s81⟩ := id I1
      obtain ⟨h2, g1, g2, g3⟩ := M_winsBy_ok (d := 40) I1 w X1 hst q4 q5 q6
      refine ⟨h1, h2, if wD D (aT (dA D) st (p, k)) = true then nI 1 else nI 2, ?_, q', T.wq f2 f3, ?_, g2, g3⟩
      · show c_SR_can 40 (some 20) _ _ h = _
        rw [e_SR_can]
        simp only [C.k20, C.k21, C.k22, C.k23, C.k24, C.k25, C.k26, C.k27, C.k28, C.k29, C.k30, C.k31, C.k32, C.k43, C.k44, C.k45, C.k46, C.k47, C.k48, C.k49, C.k50, C.k51, C.n21, C.n22, C.n24, C.n25, C.n26, C.n27, C.n29, C.n30, C.n31, C.n43, C.n44, C.n45, C.n46, C.n47, C.n48, C.n51, C.r20_0, C.r20_2, C.r20_4, C.r20_5, C.r20_6, C.r20_7, C.r20_8, C.r23_5, C.r23_6, C.r23_7, C.r28_0, C.r28_1, C.r28_2, C.r32_3, C.r32_4, C.r32_5, C.r32_6, C.r32_7, C.r32_8, C.r49_0, C.r50_0, ↓bnd C.r20_0, ↓bnd C.r20_2, ↓bnd C.r20_4, ↓bnd C.r20_5, ↓bnd C.r20_6, ↓bnd C.r20_7, ↓bnd C.r20_8, ↓bnd C.r23_5, ↓bnd C.r23_6, ↓bnd C.r23_7, ↓bnd C.r28_0, ↓bnd C.r28_1, ↓bnd C.r28_2, ↓bnd C.r32_3, ↓bnd C.r32_4, ↓bnd C.r32_5, ↓bnd C.r32_6, ↓bnd C.r32_7, ↓bnd C.r32_8, ↓bnd C.r49_0, ↓bnd C.r50_0, ↓reduceIte, ↓Option.bind_some, if_true, if_false, true_and, and_true, and_self, true_or, or_true, false_or, or_false, not_true_eq_false, not_false_eq_true, Option.bind_some, somene, false_and, and_false, reduceCtorEq, Nat.reduceEqDiff, r, i, O.k, e1, f1, l0, l1, l2, q_bi0]
        cases wD D (aT (dA D) st (p, k)) <;> rfl
      · show c_M_can 40 (some 52) _ _ h1 = _
        rw [e_M_can]
        obtain ⟨b1, k1, k2, k3⟩ := M_isPlace_ok (d := 40) M1 S1 w (nI p)
        obtain ⟨b2, n1, n2, n3⟩ := M_in_n (d := 40) (h := h1) 1 4 (by decide) (by decide) (l2 := 1) (h2 := 4) (by decide) (by decide) (nI k)
        have hb1 : b1 = true := by
          cases b1
          · exact absurd rfl (k3 rfl p q4)
          · rfl
        have hb2 : b2 = true := by
          cases b2
          · exact absurd rfl (n3 rfl k q5 q6)
          · rfl
        subst hb1; subst hb2
        have e8 : (8 : Int32).toNatClampNeg = 8 := nI_clamp (n := 8) (by omega)
        have cb : c_M_canBeNow 40 (some 52) (hI h1 62 (8 : Int32).toNatClampNeg) (nI p) (nI k) h1 = some (h1, bi (cB (dA D) st p k (dH D) (dE D))) := by
          rw [e8, s81]; exact M_canBeNow_ok 40 M1 w S1 hst4 q4 q5 q6
        have wb : c_M_winsBy 40 (some 52) (hI h1 62 (8 : Int32).toNatClampNeg) (nI p) (nI k) h1 = some (h2, bi (cB (dA D) st p k (dH D) (dE D) && !wD D (aT (dA D) st (p, k)))) := by
          rw [e8, s81]; exact g1
        simp (disch := omega) only [M1.K52, ↓bnd M1.R20, M1.K62, M1.N62, ↓reduceIte, ↓Option.bind_some, if_true, if_false, true_and, and_true, and_self, true_or, or_true, false_or, or_false, not_true_eq_false, not_false_eq_true, Option.bind_some, somene, false_and, and_false, reduceCtorEq, Nat.reduceEqDiff, ↓bnd (M_isAlley_1 M1 S1.2.1), ↓bnd k1, ↓bnd n1, ↓bnd cb, ↓bnd wb, l0, l1, l2, l8, e10, q_bi0, Bool.true_eq_false, q_in, q9, Bool.true_and]
        cases wD D (aT (dA D) st (p, k)) <;> rfl
theorem q_place (a0 a1 : Int32) : sk_Ag (JJ L xs) L xs 52 (fun h => c_SR_place 40 (some 20) a0 a1 h) (fun h => c_M_place 40 (some 52) a0 a1 h) := by
  refine Ag_of (fun j h F E J r s => ?_) (fun j h F E st tu pl a D c hj J hE Q => ?_)
  · have C := J.2.1
    have M := J.2.2.1
    refine ⟨nM, ?_, ?_⟩
    · show c_SR_place 40 (some 20) a0 a1 h = _
      rw [e_SR_place]
      simp only [C.k20, C.k21, C.k22, C.k23, C.k24, C.k25, C.k26, C.k27, C.k28, C.k29, C.k30, C.k31, C.k32, C.k43, C.k44, C.k45, C.k46, C.k47, C.k48, C.k49, C.k50, C.k51, C.n21, C.n22, C.n24, C.n25, C.n26, C.n27, C.n29, C.n30, C.n31, C.n43, C.n44, C.n45, C.n46, C.n47, C.n48, C.n51, C.r20_0, C.r20_2, C.r20_4, C.r20_5, C.r20_6, C.r20_7, C.r20_8, C.r23_5, C.r23_6, C.r23_7, C.r28_0, C.r28_1, C.r28_2, C.r32_3, C.r32_4, C.r32_5, C.r32_6, C.r32_7, C.r32_8, C.r49_0, C.r50_0, ↓bnd C.r20_0, ↓bnd C.r20_2, ↓bnd C.r20_4, ↓bnd C.r20_5, ↓bnd C.r20_6, ↓bnd C.r20_7, ↓bnd C.r20_8, ↓bnd C.r23_5, ↓bnd C.r23_6, ↓bnd C.r23_7, ↓bnd C.r28_0, ↓bnd C.r28_1, ↓bnd C.r28_2, ↓bnd C.r32_3, ↓bnd C.r32_4, ↓bnd C.r32_5, ↓bnd C.r32_6, ↓bnd C.r32_7, ↓bnd C.r32_8, ↓bnd C.r49_0, ↓bnd C.r50_0, ↓reduceIte, ↓Option.bind_some, if_true, if_false, true_and, and_true, and_self, true_or, or_true, false_or, or_false, not_true_eq_false, not_false_eq_true, Option.bind_some, somene, false_and, and_false, reduceCtorEq, Nat.reduceEqDiff, r, lm1, l1]
    · show c_M_place 40 (some 52) a0 a1 h = _
      rw [e_M_place]
      simp only [M.K52, ↓reduceIte, ↓Option.bind_some, if_true, if_false, true_and, and_true, and_self, true_or, or_true, false_or, or_false, not_true_eq_false, not_false_eq_true, Option.bind_some, somene, false_and, and_false, reduceCtorEq, Nat.reduceEqDiff, M_isPlace_0 M (s 1 (by omega)), lm1, l1, l0]
  · obtain ⟨C, M, hF, w, O, r, i, hst, T, S, s8, X⟩ := id Q
    have hst4 := p12 w.1 hst
    have w1 := w.1.1
    obtain ⟨b1, f1, f2, f3⟩ := M_isPlace_ok (d := 40) M S w a0
    obtain ⟨b2, g1, g2, g3⟩ := M_in_n (d := 40) (h := h) 0 3 (by decide) (by decide) (l2 := 0) (h2 := 3) (by decide) (by decide) a1
    obtain ⟨o1, o2, o3, o4, o8, o9, o10, o11, o12, o13, -⟩ := id O
    have fin : ∀ v, c_SR_place 40 (some 20) a0 a1 h = some (h, v) → c_M_place 40 (some 52) a0 a1 h = some (h, v) → QR (fun h => c_SR_place 40 (some 20) a0 a1 h) (fun h => c_M_place 40 (some 52) a0 a1 h) h a D := fun v h1 h2 => ⟨h, h, v, h1, Cq.refl h, T, h2, Mq.refl h, X⟩
    have rr := fun j h1 h2 => O.r (j := j) h1 h2
    have r8 := rr 8 (by omega) (by omega)
    have r12 := rr 12 (by omega) (by omega)
    have r13 := rr 13 (by omega) (by omega)
    cases b1
    · refine fin nM ?_ ?_
      · rw [e_SR_place]
        rcases i_cases a0 with hx | ⟨p, hp, hx⟩
        · simp only [C.k20, C.k21, C.k22, C.k23, C.k24, C.k25, C.k26, C.k27, C.k28, C.k29, C.k30, C.k31, C.k32, C.k43, C.k44, C.k45, C.k46, C.k47, C.k48, C.k49, C.k50, C.k51, C.n21, C.n22, C.n24, C.n25, C.n26, C.n27, C.n29, C.n30, C.n31, C.n43, C.n44, C.n45, C.n46, C.n47, C.n48, C.n51, C.r20_0, C.r20_2, C.r20_4, C.r20_5, C.r20_6, C.r20_7, C.r20_8, C.r23_5, C.r23_6, C.r23_7, C.r28_0, C.r28_1, C.r28_2, C.r32_3, C.r32_4, C.r32_5, C.r32_6, C.r32_7, C.r32_8, C.r49_0, C.r50_0, ↓bnd C.r20_0, ↓bnd C.r20_2, ↓bnd C.r20_4, ↓bnd C.r20_5, ↓bnd C.r20_6, ↓bnd C.r20_7, ↓bnd C.r20_8, ↓bnd C.r23_5, ↓bnd C.r23_6, ↓bnd C.r23_7, ↓bnd C.r28_0, ↓bnd C.r28_1, ↓bnd C.r28_2, ↓bnd C.r32_3, ↓bnd C.r32_4, ↓bnd C.r32_5, ↓bnd C.r32_6, ↓bnd C.r32_7, ↓bnd C.r32_8, ↓bnd C.r49_0, ↓bnd C.r50_0, ↓reduceIte, ↓Option.bind_some, if_true, if_false, true_and, and_true, and_self, true_or, or_true, false_or, or_false, not_true_eq_false, not_false_eq_true, Option.bind_some, somene, false_and, and_false, reduceCtorEq, Nat.reduceEqDiff, r, l0, l1, lm1, hx]
        · subst hx
          have hpn : ¬ p < aN (dA D) := fun q => f3 rfl p q rfl
          simp (disch := omega) only [C.k20, C.k21, C.k22, C.k23, C.k24, C.k25, C.k26, C.k27, C.k28, C.k29, C.k30, C.k31, C.k32, C.k43, C.k44, C.k45, C.k46, C.k47, C.k48, C.k49, C.k50, C.k51, C.n21, C.n22, C.n24, C.n25, C.n26, C.n27, C.n29, C.n30, C.n31, C.n43, C.n44, C.n45, C.n46, C.n47, C.n48, C.n51, C.r20_0, C.r20_2, C.r20_4, C.r20_5, C.r20_6, C.r20_7, C.r20_8, C.r23_5, C.r23_6, C.r23_7, C.r28_0, C.r28_1, C.r28_2, C.r32_3, C.r32_4, C.r32_5, C.r32_6, C.r32_7, C.r32_8, C.r49_0, C.r50_0, ↓bnd C.r20_0, ↓bnd C.r20_2, ↓bnd C.r20_4, ↓bnd C.r20_5, ↓bnd C.r20_6, ↓bnd C.r20_7, ↓bnd C.r20_8, ↓bnd C.r23_5, ↓bnd C.r23_6, ↓bnd C.r23_7, ↓bnd C.r28_0, ↓bnd C.r28_1, ↓bnd C.r28_2, ↓bnd C.r32_3, ↓bnd C.r32_4, ↓bnd C.r32_5, ↓bnd C.r32_6, ↓bnd C.r32_7, ↓bnd C.r32_8, ↓bnd C.r49_0, ↓bnd C.r50_0, ↓reduceIte, ↓Option.bind_some, if_true, if_false, true_and, and_true, and_self, true_or, or_true, false_or, or_false, not_true_eq_false, not_false_eq_true, Option.bind_some, somene, false_and, and_false, reduceCtorEq, Nat.reduceEqDiff, r, l0, l1, lm1, q_lt_f, o2, o3.1]
      · rw [e_M_place]
        simp only [M.K52, ↓reduceIte, ↓Option.bind_some, if_true, if_false, true_and, and_true, and_self, true_or, or_true, false_or, or_false, not_true_eq_false, not_false_eq_true, Option.bind_some, somene, false_and, and_false, reduceCtorEq, Nat.reduceEqDiff, f1, l0, l1, lm1, q_bi0]
    · obtain ⟨p, hp, rfl⟩ := f2 rfl
      cases b2
      · refine fin nM ?_ ?_
        · rw [e_SR_place]
          have n0 : (a1 = nI 0) = False := eq_false (g3 rfl 0 (by omega) (by omega))
          have n1 : (a1 = nI 1) = False := eq_false (g3 rfl 1 (by omega) (by omega))
          have n2 : (a1 = nI 2) = False := eq_false (g3 rfl 2 (by omega) (by omega))
          have n3 : (a1 = nI 3) = False := eq_false (g3 rfl 3 (by omega) (by omega))
          simp (disch := omega) only [C.k20, C.k21, C.k22, C.k23, C.k24, C.k25, C.k26, C.k27, C.k28, C.k29, C.k30, C.k31, C.k32, C.k43, C.k44, C.k45, C.k46, C.k47, C.k48, C.k49, C.k50, C.k51, C.n21, C.n22, C.n24, C.n25, C.n26, C.n27, C.n29, C.n30, C.n31, C.n43, C.n44, C.n45, C.n46, C.n47, C.n48, C.n51, C.r20_0, C.r20_2, C.r20_4, C.r20_5, C.r20_6, C.r20_7, C.r20_8, C.r23_5, C.r23_6, C.r23_7, C.r28_0, C.r28_1, C.r28_2, C.r32_3, C.r32_4, C.r32_5, C.r32_6, C.r32_7, C.r32_8, C.r49_0, C.r50_0, ↓bnd C.r20_0, ↓bnd C.r20_2, ↓bnd C.r20_4, ↓bnd C.r20_5, ↓bnd C.r20_6, ↓bnd C.r20_7, ↓bnd C.r20_8, ↓bnd C.r23_5, ↓bnd C.r23_6, ↓bnd C.r23_7, ↓bnd C.r28_0, ↓bnd C.r28_1, ↓bnd C.r28_2, ↓bnd C.r32_3, ↓bnd C.r32_4, ↓bnd C.r32_5, ↓bnd C.r32_6, ↓bnd C.r32_7, ↓bnd C.r32_8, ↓bnd C.r49_0, ↓bnd C.r50_0, ↓reduceIte, ↓Option.bind_some, if_true, if_false, true_and, and_true, and_self, true_or, or_true, false_or, or_false, not_true_eq_false, not_false_eq_true, Option.bind_some, somene, false_and, and_false, reduceCtorEq, Nat.reduceEqDiff, r, l0, l1, l2, l3, lm1, q_lt_f, q_lt_t, o2, o3.1, n0, n1, n2, n3]
        · rw [e_M_place]
          simp only [M.K52, ↓reduceIte, ↓Option.bind_some, if_true, if_false, true_and, and_true, and_self, true_or, or_true, false_or, or_false, not_true_eq_false, not_false_eq_true, Option.bind_some, somene, false_and, and_false, reduceCtorEq, Nat.reduceEqDiff, f1, l0, l1, lm1, q_bi0, Bool.true_eq_false, g1]
      · obtain ⟨k, h1, h4, rfl⟩ := g2 rfl
        have e8 := o8.2.2 p hp
        have e12 := o12.2.2 p hp
        have e13 := o13.2.2 p hp
        rcases (show k = 0 ∨ k = 1 ∨ k = 2 ∨ k = 3 by omega) with rfl | rfl | rfl | rfl
        · refine fin ((nI st >>> (nI p &&& nI 31)) &&& nI 1) ?_ ?_
          · rw [e_SR_place]
            simp (disch := omega) only [C.k20, C.k21, C.k22, C.k23, C.k24, C.k25, C.k26, C.k27, C.k28, C.k29, C.k30, C.k31, C.k32, C.k43, C.k44, C.k45, C.k46, C.k47, C.k48, C.k49, C.k50, C.k51, C.n21, C.n22, C.n24, C.n25, C.n26, C.n27, C.n29, C.n30, C.n31, C.n43, C.n44, C.n45, C.n46, C.n47, C.n48, C.n51, C.r20_0, C.r20_2, C.r20_4, C.r20_5, C.r20_6, C.r20_7, C.r20_8, C.r23_5, C.r23_6, C.r23_7, C.r28_0, C.r28_1, C.r28_2, C.r32_3, C.r32_4, C.r32_5, C.r32_6, C.r32_7, C.r32_8, C.r49_0, C.r50_0, ↓bnd C.r20_0, ↓bnd C.r20_2, ↓bnd C.r20_4, ↓bnd C.r20_5, ↓bnd C.r20_6, ↓bnd C.r20_7, ↓bnd C.r20_8, ↓bnd C.r23_5, ↓bnd C.r23_6, ↓bnd C.r23_7, ↓bnd C.r28_0, ↓bnd C.r28_1, ↓bnd C.r28_2, ↓bnd C.r32_3, ↓bnd C.r32_4, ↓bnd C.r32_5, ↓bnd C.r32_6, ↓bnd C.r32_7, ↓bnd C.r32_8, ↓bnd C.r49_0, ↓bnd C.r50_0, ↓reduceIte, ↓Option.bind_some, if_true, if_false, true_and, and_true, and_self, true_or, or_true, false_or, or_false, not_true_eq_false, not_false_eq_true, Option.bind_some, somene, false_and, and_false, reduceCtorEq, Nat.reduceEqDiff, r, i, l0, l1, l31, q_lt_f, q_lt_t, o2, o3.1]
          · rw [e_M_place]
            simp (disch := omega) only [M.K52, M.R0, M.R3, M.R4, M.R5, M.R6, M.R7, M.R15, M.R17, M.R19, M.R20, M.R22, M.R24, M.R26, M.R27, M.R28, M.R29, M.R30, M.R37, M.R38, M.R39, ↓bnd M.R0, ↓bnd M.R3, ↓bnd M.R4, ↓bnd M.R5, ↓bnd M.R6, ↓bnd M.R7, ↓bnd M.R15, ↓bnd M.R17, ↓bnd M.R19, ↓bnd M.R20, ↓bnd M.R22, ↓bnd M.R24, ↓bnd M.R26, ↓bnd M.R27, ↓bnd M.R28, ↓bnd M.R29, ↓bnd M.R30, ↓bnd M.R37, ↓bnd M.R38, ↓bnd M.R39, M.K53, M.K54, M.K55, M.K56, M.K57, M.K58, M.K59, M.K60, M.K61, M.K62, M.K63, M.K64, M.K65, M.K66, M.K67, M.K68, M.K69, M.K70, M.K71, M.K72, M.N53, M.N54, M.N55, M.N56, M.N57, M.N58, M.N59, M.N60, M.N61, M.N62, M.N63, M.N64, M.N65, M.N66, M.N67, M.N68, M.N69, M.N70, M.N71, M.N72, ↓reduceIte, ↓Option.bind_some, if_true, if_false, true_and, and_true, and_self, true_or, or_true, false_or, or_false, not_true_eq_false, not_false_eq_true, Option.bind_some, somene, false_and, and_false, reduceCtorEq, Nat.reduceEqDiff, f1, g1, l0, l1, l8, l31, q_bi0, Bool.true_eq_false, s8, q_in, q_cl]
        · refine fin (nI (aRow (dA D) p)) ?_ ?_
          · rw [e_SR_place]
            simp (disch := omega) only [C.k20, C.k21, C.k22, C.k23, C.k24, C.k25, C.k26, C.k27, C.k28, C.k29, C.k30, C.k31, C.k32, C.k43, C.k44, C.k45, C.k46, C.k47, C.k48, C.k49, C.k50, C.k51, C.n21, C.n22, C.n24, C.n25, C.n26, C.n27, C.n29, C.n30, C.n31, C.n43, C.n44, C.n45, C.n46, C.n47, C.n48, C.n51, C.r20_0, C.r20_2, C.r20_4, C.r20_5, C.r20_6, C.r20_7, C.r20_8, C.r23_5, C.r23_6, C.r23_7, C.r28_0, C.r28_1, C.r28_2, C.r32_3, C.r32_4, C.r32_5, C.r32_6, C.r32_7, C.r32_8, C.r49_0, C.r50_0, ↓bnd C.r20_0, ↓bnd C.r20_2, ↓bnd C.r20_4, ↓bnd C.r20_5, ↓bnd C.r20_6, ↓bnd C.r20_7, ↓bnd C.r20_8, ↓bnd C.r23_5, ↓bnd C.r23_6, ↓bnd C.r23_7, ↓bnd C.r28_0, ↓bnd C.r28_1, ↓bnd C.r28_2, ↓bnd C.r32_3, ↓bnd C.r32_4, ↓bnd C.r32_5, ↓bnd C.r32_6, ↓bnd C.r32_7, ↓bnd C.r32_8, ↓bnd C.r49_0, ↓bnd C.r50_0, ↓reduceIte, ↓Option.bind_some, if_true, if_false, true_and, and_true, and_self, true_or, or_true, false_or, or_false, not_true_eq_false, not_false_eq_true, Option.bind_some, somene, false_and, and_false, reduceCtorEq, Nat.reduceEqDiff, r, l0, l1, q_lt_f, q_lt_t, q_eq_f, q_in, q_cl, o2, o3.1, r8, o8.1, o8.2.1, e8]
          · rw [e_M_place]
            simp (disch := omega) only [M.K52, ↓reduceIte, ↓Option.bind_some, if_true, if_false, true_and, and_true, and_self, true_or, or_true, false_or, or_false, not_true_eq_false, not_false_eq_true, Option.bind_some, somene, false_and, and_false, reduceCtorEq, Nat.reduceEqDiff, f1, g1, l0, l1, q_eq_f, q_bi0, Bool.true_eq_false, M_rowOf_ok (b := 52) 40 M w.1 S.1 hp]
        · refine fin (oI (aPv (dA D) p)) ?_ ?_
          · rw [e_SR_place]
            simp (disch := omega) only [C.k20, C.k21, C.k22, C.k23, C.k24, C.k25, C.k26, C.k27, C.k28, C.k29, C.k30, C.k31, C.k32, C.k43, C.k44, C.k45, C.k46, C.k47, C.k48, C.k49, C.k50, C.k51, C.n21, C.n22, C.n24, C.n25, C.n26, C.n27, C.n29, C.n30, C.n31, C.n43, C.n44, C.n45, C.n46, C.n47, C.n48, C.n51, C.r20_0, C.r20_2, C.r20_4, C.r20_5, C.r20_6, C.r20_7, C.r20_8, C.r23_5, C.r23_6, C.r23_7, C.r28_0, C.r28_1, C.r28_2, C.r32_3, C.r32_4, C.r32_5, C.r32_6, C.r32_7, C.r32_8, C.r49_0, C.r50_0, ↓bnd C.r20_0, ↓bnd C.r20_2, ↓bnd C.r20_4, ↓bnd C.r20_5, ↓bnd C.r20_6, ↓bnd C.r20_7, ↓bnd C.r20_8, ↓bnd C.r23_5, ↓bnd C.r23_6, ↓bnd C.r23_7, ↓bnd C.r28_0, ↓bnd C.r28_1, ↓bnd C.r28_2, ↓bnd C.r32_3, ↓bnd C.r32_4, ↓bnd C.r32_5, ↓bnd C.r32_6, ↓bnd C.r32_7, ↓bnd C.r32_8, ↓bnd C.r49_0, ↓bnd C.r50_0, ↓reduceIte, ↓Option.bind_some, if_true, if_false, true_and, and_true, and_self, true_or, or_true, false_or, or_false, not_true_eq_false, not_false_eq_true, Option.bind_some, somene, false_and, and_false, reduceCtorEq, Nat.reduceEqDiff, r, l0, l1, l2, q_lt_f, q_lt_t, q_eq_f, q_in, q_cl, o2, o3.1, r12, o12.1, o12.2.1, e12]
          · rw [e_M_place]
            have bp := M_besideP_ok (b := 52) 40 M w.1 S.1 hp
            simp (disch := omega) only [M.K52, ↓reduceIte, ↓Option.bind_some, if_true, if_false, true_and, and_true, and_self, true_or, or_true, false_or, or_false, not_true_eq_false, not_false_eq_true, Option.bind_some, somene, false_and, and_false, reduceCtorEq, Nat.reduceEqDiff, f1, g1, l0, l1, l2, q_eq_f, q_bi0, Bool.true_eq_false]
            rw [l1] at bp
            simp only [bp, Option.bind_some]
        · refine fin (oI (aNx (dA D) p)) ?_ ?_
          · rw [e_SR_place]
            simp (disch := omega) only [C.k20, C.k21, C.k22, C.k23, C.k24, C.k25, C.k26, C.k27, C.k28, C.k29, C.k30, C.k31, C.k32, C.k43, C.k44, C.k45, C.k46, C.k47, C.k48, C.k49, C.k50, C.k51, C.n21, C.n22, C.n24, C.n25, C.n26, C.n27, C.n29, C.n30, C.n31, C.n43, C.n44, C.n45, C.n46, C.n47, C.n48, C.n51, C.r20_0, C.r20_2, C.r20_4, C.r20_5, C.r20_6, C.r20_7, C.r20_8, C.r23_5, C.r23_6, C.r23_7, C.r28_0, C.r28_1, C.r28_2, C.r32_3, C.r32_4, C.r32_5, C.r32_6, C.r32_7, C.r32_8, C.r49_0, C.r50_0, ↓bnd C.r20_0, ↓bnd C.r20_2, ↓bnd C.r20_4, ↓bnd C.r20_5, ↓bnd C.r20_6, ↓bnd C.r20_7, ↓bnd C.r20_8, ↓bnd C.r23_5, ↓bnd C.r23_6, ↓bnd C.r23_7, ↓bnd C.r28_0, ↓bnd C.r28_1, ↓bnd C.r28_2, ↓bnd C.r32_3, ↓bnd C.r32_4, ↓bnd C.r32_5, ↓bnd C.r32_6, ↓bnd C.r32_7, ↓bnd C.r32_8, ↓bnd C.r49_0, ↓bnd C.r50_0, ↓reduceIte, ↓Option.bind_some, if_true, if_false, true_and, and_true, and_self, true_or, or_true, false_or, or_false, not_true_eq_false, not_false_eq_true, Option.bind_some, somene, false_and, and_false, reduceCtorEq, Nat.reduceEqDiff, r, l0, l1, l2, l3, q_lt_f, q_lt_t, q_eq_f, q_in, q_cl, o2, o3.1, r13, o13.1, o13.2.1, e13]
          · rw [e_M_place]
            have bp := M_besideN_ok (b := 52) 40 M w.1 S.1 hp
            rw [l1] at bp
            simp (disch := omega) only [M.K52, ↓reduceIte, ↓Option.bind_some, if_true, if_false, true_and, and_true, and_self, true_or, or_true, false_or, or_false, not_true_eq_false, not_false_eq_true, Option.bind_some, somene, false_and, and_false, reduceCtorEq, Nat.reduceEqDiff, f1, g1, l0, l1, l2, q_eq_f, q_bi0, Bool.true_eq_false, bp]
theorem b_ite1 (c : Bool) : (if bi c = nI 0 then some (h, nI 0) else some (h, nI 1)) = some (h, bi c) := by
  cases c
  · rw [if_pos (show bi false = nI 0 from rfl)]; rfl
  · rw [if_neg (show ¬ bi true = nI 0 by decide)]; rfl
theorem q_count (a0 : Int32) : sk_Ag (JJ L xs) L xs 52 (fun h => c_SR_count 40 (some 20) a0 h) (fun h => c_M_count 40 (some 52) a0 h) := by
  have key : ∀ j h F E st tu pl, JB L xs F E j h st tu pl → (∀ k, k ≤ 5 → ∃ v, c_SR_count 40 (some 20) (nI k) h = some (h, v) ∧ hI h 62 (if k < 1 then 1 else k + 1) = v) → Q0 (fun h => c_SR_count 40 (some 20) a0 h) (fun h => c_M_count 40 (some 52) a0 h) h := by
    intro j h F E st tu pl J h5
    have C := J.2.1
    have M := J.2.2.1
    obtain ⟨s0, s1, s2, s3, s4, s5, s6, s7, s8, s9⟩ := J.2.2.2.2.2.2.2.2.2.1
    obtain ⟨x1, x2⟩ := J.2.2.2.2.2.2.2.2.2.2.1
    obtain ⟨nR, R, -, rs1, rs2, -⟩ := J.2.2.2.2.2.2.1
    obtain ⟨nT, tt, -, ts1, ts2, -⟩ := J.2.2.2.2.2.1
    obtain ⟨nx, kp, f, -, -, -, ac1, ac2, -⟩ := J.2.2.2.2.2.2.2.2.2.2.2.1
    show ∃ v, c_SR_count 40 (some 20) a0 h = some (h, v) ∧ c_M_count 40 (some 52) a0 h = some (h, v)
    have big : (∀ k, k ≤ 12 → a0 ≠ nI k) → a0 < nI 0 ∨ (∃ p, 12 < p ∧ p < 2 ^ 31 ∧ a0 = nI p) := by
      intro hk
      rcases i_cases a0 with hx | ⟨p, hp, hx⟩
      · exact Or.inl hx
      · refine Or.inr ⟨p, ?_, hp, hx⟩
        rcases Nat.lt_or_ge 12 p with q | q
        · exact q
        · exact absurd hx (hk p q)
    by_cases hk : ∃ k, k ≤ 12 ∧ a0 = nI k
    · obtain ⟨k, hk, rfl⟩ := hk
      by_cases h6 : k ≤ 5
      · obtain ⟨v, e1, e2⟩ := h5 k h6
        refine ⟨v, e1, ?_⟩
        rw [e_M_count]
        subst e2
        rcases (show k = 0 ∨ k = 1 ∨ k = 2 ∨ k = 3 ∨ k = 4 ∨ k = 5 by omega) with rfl | rfl | rfl | rfl | rfl | rfl <;> simp (disch := omega) only [M.K52, M.R0, M.R3, M.R4, M.R5, M.R6, M.R7, M.R15, M.R17, M.R19, M.R20, M.R22, M.R24, M.R26, M.R27, M.R28, M.R29, M.R30, M.R37, M.R38, M.R39, ↓bnd M.R0, ↓bnd M.R3, ↓bnd M.R4, ↓bnd M.R5, ↓bnd M.R6, ↓bnd M.R7, ↓bnd M.R15, ↓bnd M.R17, ↓bnd M.R19, ↓bnd M.R20, ↓bnd M.R22, ↓bnd M.R24, ↓bnd M.R26, ↓bnd M.R27, ↓bnd M.R28, ↓bnd M.R29, ↓bnd M.R30, ↓bnd M.R37, ↓bnd M.R38, ↓bnd M.R39, M.K53, M.K54, M.K55, M.K56, M.K57, M.K58, M.K59, M.K60, M.K61, M.K62, M.K63, M.K64, M.K65, M.K66, M.K67, M.K68, M.K69, M.K70, M.K71, M.K72, M.N53, M.N54, M.N55, M.N56, M.N57, M.N58, M.N59, M.N60, M.N61, M.N62, M.N63, M.N64, M.N65, M.N66, M.N67, M.N68, M.N69, M.N70, M.N71, M.N72, ↓reduceIte, ↓Option.bind_some, if_true, if_false, true_and, and_true, and_self, true_or, or_true, false_or, or_false, not_true_eq_false, not_false_eq_true, Option.bind_some, somene, false_and, and_false, reduceCtorEq, Nat.reduceEqDiff, l0, l1, l2, l3, l4, l5, q_eq_f, q_le_t, q_le_f, nI_add, q_in, q_cl] <;> rfl
      · rcases (show k = 6 ∨ k = 7 ∨ k = 8 ∨ k = 9 ∨ k = 10 ∨ k = 11 ∨ k = 12 by omega) with rfl | rfl | rfl | rfl | rfl | rfl | rfl
        · refine ⟨nI nR, ?_, ?_⟩
          · rw [e_SR_count, e_SR_count_35]
            simp (disch := omega) only [C.k20, C.k21, C.k22, C.k23, C.k24, C.k25, C.k26, C.k27, C.k28, C.k29, C.k30, C.k31, C.k32, C.k43, C.k44, C.k45, C.k46, C.k47, C.k48, C.k49, C.k50, C.k51, C.n21, C.n22, C.n24, C.n25, C.n26, C.n27, C.n29, C.n30, C.n31, C.n43, C.n44, C.n45, C.n46, C.n47, C.n48, C.n51, C.r20_0, C.r20_2, C.r20_4, C.r20_5, C.r20_6, C.r20_7, C.r20_8, C.r23_5, C.r23_6, C.r23_7, C.r28_0, C.r28_1, C.r28_2, C.r32_3, C.r32_4, C.r32_5, C.r32_6, C.r32_7, C.r32_8, C.r49_0, C.r50_0, ↓bnd C.r20_0, ↓bnd C.r20_2, ↓bnd C.r20_4, ↓bnd C.r20_5, ↓bnd C.r20_6, ↓bnd C.r20_7, ↓bnd C.r20_8, ↓bnd C.r23_5, ↓bnd C.r23_6, ↓bnd C.r23_7, ↓bnd C.r28_0, ↓bnd C.r28_1, ↓bnd C.r28_2, ↓bnd C.r32_3, ↓bnd C.r32_4, ↓bnd C.r32_5, ↓bnd C.r32_6, ↓bnd C.r32_7, ↓bnd C.r32_8, ↓bnd C.r49_0, ↓bnd C.r50_0, ↓reduceIte, ↓Option.bind_some, if_true, if_false, true_and, and_true, and_self, true_or, or_true, false_or, or_false, not_true_eq_false, not_false_eq_true, Option.bind_some, somene, false_and, and_false, reduceCtorEq, Nat.reduceEqDiff, l0, l5, l6, q_lt_f, q_lt_t, rs1]
          · rw [e_M_count]
            simp (disch := omega) only [M.K52, M.R0, M.R3, M.R4, M.R5, M.R6, M.R7, M.R15, M.R17, M.R19, M.R20, M.R22, M.R24, M.R26, M.R27, M.R28, M.R29, M.R30, M.R37, M.R38, M.R39, ↓bnd M.R0, ↓bnd M.R3, ↓bnd M.R4, ↓bnd M.R5, ↓bnd M.R6, ↓bnd M.R7, ↓bnd M.R15, ↓bnd M.R17, ↓bnd M.R19, ↓bnd M.R20, ↓bnd M.R22, ↓bnd M.R24, ↓bnd M.R26, ↓bnd M.R27, ↓bnd M.R28, ↓bnd M.R29, ↓bnd M.R30, ↓bnd M.R37, ↓bnd M.R38, ↓bnd M.R39, M.K53, M.K54, M.K55, M.K56, M.K57, M.K58, M.K59, M.K60, M.K61, M.K62, M.K63, M.K64, M.K65, M.K66, M.K67, M.K68, M.K69, M.K70, M.K71, M.K72, M.N53, M.N54, M.N55, M.N56, M.N57, M.N58, M.N59, M.N60, M.N61, M.N62, M.N63, M.N64, M.N65, M.N66, M.N67, M.N68, M.N69, M.N70, M.N71, M.N72, ↓reduceIte, ↓Option.bind_some, if_true, if_false, true_and, and_true, and_self, true_or, or_true, false_or, or_false, not_true_eq_false, not_false_eq_true, Option.bind_some, somene, false_and, and_false, reduceCtorEq, Nat.reduceEqDiff, l0, l1, l2, l3, l4, l5, l6, q_eq_f, rs2]
        · refine ⟨nI tu, ?_, ?_⟩
          · rw [e_SR_count, e_SR_count_35]
            simp (disch := omega) only [C.k20, C.k21, C.k22, C.k23, C.k24, C.k25, C.k26, C.k27, C.k28, C.k29, C.k30, C.k31, C.k32, C.k43, C.k44, C.k45, C.k46, C.k47, C.k48, C.k49, C.k50, C.k51, C.n21, C.n22, C.n24, C.n25, C.n26, C.n27, C.n29, C.n30, C.n31, C.n43, C.n44, C.n45, C.n46, C.n47, C.n48, C.n51, C.r20_0, C.r20_2, C.r20_4, C.r20_5, C.r20_6, C.r20_7, C.r20_8, C.r23_5, C.r23_6, C.r23_7, C.r28_0, C.r28_1, C.r28_2, C.r32_3, C.r32_4, C.r32_5, C.r32_6, C.r32_7, C.r32_8, C.r49_0, C.r50_0, ↓bnd C.r20_0, ↓bnd C.r20_2, ↓bnd C.r20_4, ↓bnd C.r20_5, ↓bnd C.r20_6, ↓bnd C.r20_7, ↓bnd C.r20_8, ↓bnd C.r23_5, ↓bnd C.r23_6, ↓bnd C.r23_7, ↓bnd C.r28_0, ↓bnd C.r28_1, ↓bnd C.r28_2, ↓bnd C.r32_3, ↓bnd C.r32_4, ↓bnd C.r32_5, ↓bnd C.r32_6, ↓bnd C.r32_7, ↓bnd C.r32_8, ↓bnd C.r49_0, ↓bnd C.r50_0, ↓reduceIte, ↓Option.bind_some, if_true, if_false, true_and, and_true, and_self, true_or, or_true, false_or, or_false, not_true_eq_false, not_false_eq_true, Option.bind_some, somene, false_and, and_false, reduceCtorEq, Nat.reduceEqDiff, l0, l5, l6, l7, q_lt_f, q_lt_t, q_eq_f, s2]
          · rw [e_M_count]
            simp (disch := omega) only [M.K52, M.R0, M.R3, M.R4, M.R5, M.R6, M.R7, M.R15, M.R17, M.R19, M.R20, M.R22, M.R24, M.R26, M.R27, M.R28, M.R29, M.R30, M.R37, M.R38, M.R39, ↓bnd M.R0, ↓bnd M.R3, ↓bnd M.R4, ↓bnd M.R5, ↓bnd M.R6, ↓bnd M.R7, ↓bnd M.R15, ↓bnd M.R17, ↓bnd M.R19, ↓bnd M.R20, ↓bnd M.R22, ↓bnd M.R24, ↓bnd M.R26, ↓bnd M.R27, ↓bnd M.R28, ↓bnd M.R29, ↓bnd M.R30, ↓bnd M.R37, ↓bnd M.R38, ↓bnd M.R39, M.K53, M.K54, M.K55, M.K56, M.K57, M.K58, M.K59, M.K60, M.K61, M.K62, M.K63, M.K64, M.K65, M.K66, M.K67, M.K68, M.K69, M.K70, M.K71, M.K72, M.N53, M.N54, M.N55, M.N56, M.N57, M.N58, M.N59, M.N60, M.N61, M.N62, M.N63, M.N64, M.N65, M.N66, M.N67, M.N68, M.N69, M.N70, M.N71, M.N72, ↓reduceIte, ↓Option.bind_some, if_true, if_false, true_and, and_true, and_self, true_or, or_true, false_or, or_false, not_true_eq_false, not_false_eq_true, Option.bind_some, somene, false_and, and_false, reduceCtorEq, Nat.reduceEqDiff, l0, l1, l2, l3, l4, l5, l6, l7, q_eq_f, q_in, q_cl, s4]
        · refine ⟨nI st, ?_, ?_⟩
          · rw [e_SR_count, e_SR_count_35]
            simp (disch := omega) only [C.k20, C.k21, C.k22, C.k23, C.k24, C.k25, C.k26, C.k27, C.k28, C.k29, C.k30, C.k31, C.k32, C.k43, C.k44, C.k45, C.k46, C.k47, C.k48, C.k49, C.k50, C.k51, C.n21, C.n22, C.n24, C.n25, C.n26, C.n27, C.n29, C.n30, C.n31, C.n43, C.n44, C.n45, C.n46, C.n47, C.n48, C.n51, C.r20_0, C.r20_2, C.r20_4, C.r20_5, C.r20_6, C.r20_7, C.r20_8, C.r23_5, C.r23_6, C.r23_7, C.r28_0, C.r28_1, C.r28_2, C.r32_3, C.r32_4, C.r32_5, C.r32_6, C.r32_7, C.r32_8, C.r49_0, C.r50_0, ↓bnd C.r20_0, ↓bnd C.r20_2, ↓bnd C.r20_4, ↓bnd C.r20_5, ↓bnd C.r20_6, ↓bnd C.r20_7, ↓bnd C.r20_8, ↓bnd C.r23_5, ↓bnd C.r23_6, ↓bnd C.r23_7, ↓bnd C.r28_0, ↓bnd C.r28_1, ↓bnd C.r28_2, ↓bnd C.r32_3, ↓bnd C.r32_4, ↓bnd C.r32_5, ↓bnd C.r32_6, ↓bnd C.r32_7, ↓bnd C.r32_8, ↓bnd C.r49_0, ↓bnd C.r50_0, ↓reduceIte, ↓Option.bind_some, if_true, if_false, true_and, and_true, and_self, true_or, or_true, false_or, or_false, not_true_eq_false, not_false_eq_true, Option.bind_some, somene, false_and, and_false, reduceCtorEq, Nat.reduceEqDiff, l0, l5, l6, l7, l8, q_lt_f, q_lt_t, q_eq_f, s1]
          · rw [e_M_count]
            simp (disch := omega) only [M.K52, M.R0, M.R3, M.R4, M.R5, M.R6, M.R7, M.R15, M.R17, M.R19, M.R20, M.R22, M.R24, M.R26, M.R27, M.R28, M.R29, M.R30, M.R37, M.R38, M.R39, ↓bnd M.R0, ↓bnd M.R3, ↓bnd M.R4, ↓bnd M.R5, ↓bnd M.R6, ↓bnd M.R7, ↓bnd M.R15, ↓bnd M.R17, ↓bnd M.R19, ↓bnd M.R20, ↓bnd M.R22, ↓bnd M.R24, ↓bnd M.R26, ↓bnd M.R27, ↓bnd M.R28, ↓bnd M.R29, ↓bnd M.R30, ↓bnd M.R37, ↓bnd M.R38, ↓bnd M.R39, M.K53, M.K54, M.K55, M.K56, M.K57, M.K58, M.K59, M.K60, M.K61, M.K62, M.K63, M.K64, M.K65, M.K66, M.K67, M.K68, M.K69, M.K70, M.K71, M.K72, M.N53, M.N54, M.N55, M.N56, M.N57, M.N58, M.N59, M.N60, M.N61, M.N62, M.N63, M.N64, M.N65, M.N66, M.N67, M.N68, M.N69, M.N70, M.N71, M.N72, ↓reduceIte, ↓Option.bind_some, if_true, if_false, true_and, and_true, and_self, true_or, or_true, false_or, or_false, not_true_eq_false, not_false_eq_true, Option.bind_some, somene, false_and, and_false, reduceCtorEq, Nat.reduceEqDiff, l0, l1, l2, l3, l4, l5, l6, l7, l8, q_eq_f, q_in, q_cl, s5]
        · refine ⟨nI pl, ?_, ?_⟩
          · rw [e_SR_count, e_SR_count_35]
            simp (disch := omega) only [C.k20, C.k21, C.k22, C.k23, C.k24, C.k25, C.k26, C.k27, C.k28, C.k29, C.k30, C.k31, C.k32, C.k43, C.k44, C.k45, C.k46, C.k47, C.k48, C.k49, C.k50, C.k51, C.n21, C.n22, C.n24, C.n25, C.n26, C.n27, C.n29, C.n30, C.n31, C.n43, C.n44, C.n45, C.n46, C.n47, C.n48, C.n51, C.r20_0, C.r20_2, C.r20_4, C.r20_5, C.r20_6, C.r20_7, C.r20_8, C.r23_5, C.r23_6, C.r23_7, C.r28_0, C.r28_1, C.r28_2, C.r32_3, C.r32_4, C.r32_5, C.r32_6, C.r32_7, C.r32_8, C.r49_0, C.r50_0, ↓bnd C.r20_0, ↓bnd C.r20_2, ↓bnd C.r20_4, ↓bnd C.r20_5, ↓bnd C.r20_6, ↓bnd C.r20_7, ↓bnd C.r20_8, ↓bnd C.r23_5, ↓bnd C.r23_6, ↓bnd C.r23_7, ↓bnd C.r28_0, ↓bnd C.r28_1, ↓bnd C.r28_2, ↓bnd C.r32_3, ↓bnd C.r32_4, ↓bnd C.r32_5, ↓bnd C.r32_6, ↓bnd C.r32_7, ↓bnd C.r32_8, ↓bnd C.r49_0, ↓bnd C.r50_0, ↓reduceIte, ↓Option.bind_some, if_true, if_false, true_and, and_true, and_self, true_or, or_true, false_or, or_false, not_true_eq_false, not_false_eq_true, Option.bind_some, somene, false_and, and_false, reduceCtorEq, Nat.reduceEqDiff, l0, l5, l6, l7, l8, l9, q_lt_f, q_lt_t, q_eq_f, s3]
          · rw [e_M_count]
            simp (disch := omega) only [M.K52, M.R0, M.R3, M.R4, M.R5, M.R6, M.R7, M.R15, M.R17, M.R19, M.R20, M.R22, M.R24, M.R26, M.R27, M.R28, M.R29, M.R30, M.R37, M.R38, M.R39, ↓bnd M.R0, ↓bnd M.R3, ↓bnd M.R4, ↓bnd M.R5, ↓bnd M.R6, ↓bnd M.R7, ↓bnd M.R15, ↓bnd M.R17, ↓bnd M.R19, ↓bnd M.R20, ↓bnd M.R22, ↓bnd M.R24, ↓bnd M.R26, ↓bnd M.R27, ↓bnd M.R28, ↓bnd M.R29, ↓bnd M.R30, ↓bnd M.R37, ↓bnd M.R38, ↓bnd M.R39, M.K53, M.K54, M.K55, M.K56, M.K57, M.K58, M.K59, M.K60, M.K61, M.K62, M.K63, M.K64, M.K65, M.K66, M.K67, M.K68, M.K69, M.K70, M.K71, M.K72, M.N53, M.N54, M.N55, M.N56, M.N57, M.N58, M.N59, M.N60, M.N61, M.N62, M.N63, M.N64, M.N65, M.N66, M.N67, M.N68, M.N69, M.N70, M.N71, M.N72, ↓reduceIte, ↓Option.bind_some, if_true, if_false, true_and, and_true, and_self, true_or, or_true, false_or, or_false, not_true_eq_false, not_false_eq_true, Option.bind_some, somene, false_and, and_false, reduceCtorEq, Nat.reduceEqDiff, l0, l1, l2, l3, l4, l5, l6, l7, l8, l9, q_eq_f, q_in, q_cl, s6]
        · refine ⟨nI kp, ?_, ?_⟩
          · rw [e_SR_count, e_SR_count_35]
            simp (disch := omega) only [C.k20, C.k21, C.k22, C.k23, C.k24, C.k25, C.k26, C.k27, C.k28, C.k29, C.k30, C.k31, C.k32, C.k43, C.k44, C.k45, C.k46, C.k47, C.k48, C.k49, C.k50, C.k51, C.n21, C.n22, C.n24, C.n25, C.n26, C.n27, C.n29, C.n30, C.n31, C.n43, C.n44, C.n45, C.n46, C.n47, C.n48, C.n51, C.r20_0, C.r20_2, C.r20_4, C.r20_5, C.r20_6, C.r20_7, C.r20_8, C.r23_5, C.r23_6, C.r23_7, C.r28_0, C.r28_1, C.r28_2, C.r32_3, C.r32_4, C.r32_5, C.r32_6, C.r32_7, C.r32_8, C.r49_0, C.r50_0, ↓bnd C.r20_0, ↓bnd C.r20_2, ↓bnd C.r20_4, ↓bnd C.r20_5, ↓bnd C.r20_6, ↓bnd C.r20_7, ↓bnd C.r20_8, ↓bnd C.r23_5, ↓bnd C.r23_6, ↓bnd C.r23_7, ↓bnd C.r28_0, ↓bnd C.r28_1, ↓bnd C.r28_2, ↓bnd C.r32_3, ↓bnd C.r32_4, ↓bnd C.r32_5, ↓bnd C.r32_6, ↓bnd C.r32_7, ↓bnd C.r32_8, ↓bnd C.r49_0, ↓bnd C.r50_0, ↓reduceIte, ↓Option.bind_some, if_true, if_false, true_and, and_true, and_self, true_or, or_true, false_or, or_false, not_true_eq_false, not_false_eq_true, Option.bind_some, somene, false_and, and_false, reduceCtorEq, Nat.reduceEqDiff, l0, l5, l6, l7, l8, l9, l10, q_lt_f, q_lt_t, q_eq_f, ac1]
          · rw [e_M_count]
            simp (disch := omega) only [M.K52, M.R0, M.R3, M.R4, M.R5, M.R6, M.R7, M.R15, M.R17, M.R19, M.R20, M.R22, M.R24, M.R26, M.R27, M.R28, M.R29, M.R30, M.R37, M.R38, M.R39, ↓bnd M.R0, ↓bnd M.R3, ↓bnd M.R4, ↓bnd M.R5, ↓bnd M.R6, ↓bnd M.R7, ↓bnd M.R15, ↓bnd M.R17, ↓bnd M.R19, ↓bnd M.R20, ↓bnd M.R22, ↓bnd M.R24, ↓bnd M.R26, ↓bnd M.R27, ↓bnd M.R28, ↓bnd M.R29, ↓bnd M.R30, ↓bnd M.R37, ↓bnd M.R38, ↓bnd M.R39, M.K53, M.K54, M.K55, M.K56, M.K57, M.K58, M.K59, M.K60, M.K61, M.K62, M.K63, M.K64, M.K65, M.K66, M.K67, M.K68, M.K69, M.K70, M.K71, M.K72, M.N53, M.N54, M.N55, M.N56, M.N57, M.N58, M.N59, M.N60, M.N61, M.N62, M.N63, M.N64, M.N65, M.N66, M.N67, M.N68, M.N69, M.N70, M.N71, M.N72, ↓reduceIte, ↓Option.bind_some, if_true, if_false, true_and, and_true, and_self, true_or, or_true, false_or, or_false, not_true_eq_false, not_false_eq_true, Option.bind_some, somene, false_and, and_false, reduceCtorEq, Nat.reduceEqDiff, l0, l1, l2, l3, l4, l5, l6, l7, l8, l9, l10, q_eq_f, ac2]
        · refine ⟨hI h 52 21, ?_, ?_⟩
          · rw [e_SR_count, e_SR_count_35]
            simp (disch := omega) only [C.k20, C.k21, C.k22, C.k23, C.k24, C.k25, C.k26, C.k27, C.k28, C.k29, C.k30, C.k31, C.k32, C.k43, C.k44, C.k45, C.k46, C.k47, C.k48, C.k49, C.k50, C.k51, C.n21, C.n22, C.n24, C.n25, C.n26, C.n27, C.n29, C.n30, C.n31, C.n43, C.n44, C.n45, C.n46, C.n47, C.n48, C.n51, C.r20_0, C.r20_2, C.r20_4, C.r20_5, C.r20_6, C.r20_7, C.r20_8, C.r23_5, C.r23_6, C.r23_7, C.r28_0, C.r28_1, C.r28_2, C.r32_3, C.r32_4, C.r32_5, C.r32_6, C.r32_7, C.r32_8, C.r49_0, C.r50_0, ↓bnd C.r20_0, ↓bnd C.r20_2, ↓bnd C.r20_4, ↓bnd C.r20_5, ↓bnd C.r20_6, ↓bnd C.r20_7, ↓bnd C.r20_8, ↓bnd C.r23_5, ↓bnd C.r23_6, ↓bnd C.r23_7, ↓bnd C.r28_0, ↓bnd C.r28_1, ↓bnd C.r28_2, ↓bnd C.r32_3, ↓bnd C.r32_4, ↓bnd C.r32_5, ↓bnd C.r32_6, ↓bnd C.r32_7, ↓bnd C.r32_8, ↓bnd C.r49_0, ↓bnd C.r50_0, ↓reduceIte, ↓Option.bind_some, if_true, if_false, true_and, and_true, and_self, true_or, or_true, false_or, or_false, not_true_eq_false, not_false_eq_true, Option.bind_some, somene, false_and, and_false, reduceCtorEq, Nat.reduceEqDiff, l0, l5, l6, l7, l8, l9, l10, l11, q_lt_f, q_lt_t, q_eq_f, x1]
          · rw [e_M_count]
            simp (disch := omega) only [M.K52, M.R0, M.R3, M.R4, M.R5, M.R6, M.R7, M.R15, M.R17, M.R19, M.R20, M.R22, M.R24, M.R26, M.R27, M.R28, M.R29, M.R30, M.R37, M.R38, M.R39, ↓bnd M.R0, ↓bnd M.R3, ↓bnd M.R4, ↓bnd M.R5, ↓bnd M.R6, ↓bnd M.R7, ↓bnd M.R15, ↓bnd M.R17, ↓bnd M.R19, ↓bnd M.R20, ↓bnd M.R22, ↓bnd M.R24, ↓bnd M.R26, ↓bnd M.R27, ↓bnd M.R28, ↓bnd M.R29, ↓bnd M.R30, ↓bnd M.R37, ↓bnd M.R38, ↓bnd M.R39, M.K53, M.K54, M.K55, M.K56, M.K57, M.K58, M.K59, M.K60, M.K61, M.K62, M.K63, M.K64, M.K65, M.K66, M.K67, M.K68, M.K69, M.K70, M.K71, M.K72, M.N53, M.N54, M.N55, M.N56, M.N57, M.N58, M.N59, M.N60, M.N61, M.N62, M.N63, M.N64, M.N65, M.N66, M.N67, M.N68, M.N69, M.N70, M.N71, M.N72, ↓reduceIte, ↓Option.bind_some, if_true, if_false, true_and, and_true, and_self, true_or, or_true, false_or, or_false, not_true_eq_false, not_false_eq_true, Option.bind_some, somene, false_and, and_false, reduceCtorEq, Nat.reduceEqDiff, l0, l1, l2, l3, l4, l5, l6, l7, l8, l9, l10, l11, q_eq_f]
        · refine ⟨nI nT, ?_, ?_⟩
          · rw [e_SR_count, e_SR_count_35]
            simp (disch := omega) only [C.k20, C.k21, C.k22, C.k23, C.k24, C.k25, C.k26, C.k27, C.k28, C.k29, C.k30, C.k31, C.k32, C.k43, C.k44, C.k45, C.k46, C.k47, C.k48, C.k49, C.k50, C.k51, C.n21, C.n22, C.n24, C.n25, C.n26, C.n27, C.n29, C.n30, C.n31, C.n43, C.n44, C.n45, C.n46, C.n47, C.n48, C.n51, C.r20_0, C.r20_2, C.r20_4, C.r20_5, C.r20_6, C.r20_7, C.r20_8, C.r23_5, C.r23_6, C.r23_7, C.r28_0, C.r28_1, C.r28_2, C.r32_3, C.r32_4, C.r32_5, C.r32_6, C.r32_7, C.r32_8, C.r49_0, C.r50_0, ↓bnd C.r20_0, ↓bnd C.r20_2, ↓bnd C.r20_4, ↓bnd C.r20_5, ↓bnd C.r20_6, ↓bnd C.r20_7, ↓bnd C.r20_8, ↓bnd C.r23_5, ↓bnd C.r23_6, ↓bnd C.r23_7, ↓bnd C.r28_0, ↓bnd C.r28_1, ↓bnd C.r28_2, ↓bnd C.r32_3, ↓bnd C.r32_4, ↓bnd C.r32_5, ↓bnd C.r32_6, ↓bnd C.r32_7, ↓bnd C.r32_8, ↓bnd C.r49_0, ↓bnd C.r50_0, ↓reduceIte, ↓Option.bind_some, if_true, if_false, true_and, and_true, and_self, true_or, or_true, false_or, or_false, not_true_eq_false, not_false_eq_true, Option.bind_some, somene, false_and, and_false, reduceCtorEq, Nat.reduceEqDiff, l0, l5, l6, l7, l8, l9, l10, l11, l12, q_lt_f, q_lt_t, q_eq_f, ts1]
          · rw [e_M_count]
            simp (disch := omega) only [M.K52, M.R0, M.R3, M.R4, M.R5, M.R6, M.R7, M.R15, M.R17, M.R19, M.R20, M.R22, M.R24, M.R26, M.R27, M.R28, M.R29, M.R30, M.R37, M.R38, M.R39, ↓bnd M.R0, ↓bnd M.R3, ↓bnd M.R4, ↓bnd M.R5, ↓bnd M.R6, ↓bnd M.R7, ↓bnd M.R15, ↓bnd M.R17, ↓bnd M.R19, ↓bnd M.R20, ↓bnd M.R22, ↓bnd M.R24, ↓bnd M.R26, ↓bnd M.R27, ↓bnd M.R28, ↓bnd M.R29, ↓bnd M.R30, ↓bnd M.R37, ↓bnd M.R38, ↓bnd M.R39, M.K53, M.K54, M.K55, M.K56, M.K57, M.K58, M.K59, M.K60, M.K61, M.K62, M.K63, M.K64, M.K65, M.K66, M.K67, M.K68, M.K69, M.K70, M.K71, M.K72, M.N53, M.N54, M.N55, M.N56, M.N57, M.N58, M.N59, M.N60, M.N61, M.N62, M.N63, M.N64, M.N65, M.N66, M.N67, M.N68, M.N69, M.N70, M.N71, M.N72, ↓reduceIte, ↓Option.bind_some, if_true, if_false, true_and, and_true, and_self, true_or, or_true, false_or, or_false, not_true_eq_false, not_false_eq_true, Option.bind_some, somene, false_and, and_false, reduceCtorEq, Nat.reduceEqDiff, l0, l1, l2, l3, l4, l5, l6, l7, l8, l9, l10, l11, l12, q_eq_f, ts2]
    · have hn : ∀ k, k ≤ 12 → (a0 = nI k) = False := fun k hk2 => eq_false (fun q => hk ⟨k, hk2, q⟩)
      have n0 := hn 0 (by omega)
      have n1 := hn 1 (by omega)
      have n2 := hn 2 (by omega)
      have n3 := hn 3 (by omega)
      have n4 := hn 4 (by omega)
      have n5 := hn 5 (by omega)
      have n6 := hn 6 (by omega)
      have n7 := hn 7 (by omega)
      have n8 := hn 8 (by omega)
      have n9 := hn 9 (by omega)
      have n10 := hn 10 (by omega)
      have n11 := hn 11 (by omega)
      have n12 := hn 12 (by omega)
      refine ⟨nM, ?_, ?_⟩
      · rw [e_SR_count, e_SR_count_35]
        rcases big (fun k hk2 q => hk ⟨k, hk2, q⟩) with q | ⟨p, p1, p2, p3⟩
        · simp only [↓reduceIte, ↓Option.bind_some, if_true, if_false, true_and, and_true, and_self, true_or, or_true, false_or, or_false, not_true_eq_false, not_false_eq_true, Option.bind_some, somene, false_and, and_false, reduceCtorEq, Nat.reduceEqDiff, l0, l1, l5, l6, l7, l8, l9, l10, l11, l12, lm1, q, n6, n7, n8, n9, n10, n11, n12]
        · subst p3
          simp (disch := omega) only [↓reduceIte, ↓Option.bind_some, if_true, if_false, true_and, and_true, and_self, true_or, or_true, false_or, or_false, not_true_eq_false, not_false_eq_true, Option.bind_some, somene, false_and, and_false, reduceCtorEq, Nat.reduceEqDiff, l0, l1, l5, l6, l7, l8, l9, l10, l11, l12, lm1, q_lt_f, q_lt_t, q_eq_f]
      · rw [e_M_count]
        simp only [↓reduceIte, ↓Option.bind_some, if_true, if_false, true_and, and_true, and_self, true_or, or_true, false_or, or_false, not_true_eq_false, not_false_eq_true, Option.bind_some, somene, false_and, and_false, reduceCtorEq, Nat.reduceEqDiff, l0, l1, l2, l3, l4, l5, l6, l7, l8, l9, l10, l11, l12, lm1, n0, n1, n2, n3, n4, n5, n6, n7, n8, n9, n10, n11, n12]
  refine Ag_of (fun j h F E J r s => key j h F E 0 0 0 J (fun k hk => ⟨nI 0, ?_, s _ (by split <;> omega)⟩)) (fun j h F E st tu pl a D c hj J hE Q => ?_)
  · have C := J.2.1
    rw [e_SR_count]
    simp (disch := omega) only [C.k20, C.k21, C.k22, C.k23, C.k24, C.k25, C.k26, C.k27, C.k28, C.k29, C.k30, C.k31, C.k32, C.k43, C.k44, C.k45, C.k46, C.k47, C.k48, C.k49, C.k50, C.k51, C.n21, C.n22, C.n24, C.n25, C.n26, C.n27, C.n29, C.n30, C.n31, C.n43, C.n44, C.n45, C.n46, C.n47, C.n48, C.n51, C.r20_0, C.r20_2, C.r20_4, C.r20_5, C.r20_6, C.r20_7, C.r20_8, C.r23_5, C.r23_6, C.r23_7, C.r28_0, C.r28_1, C.r28_2, C.r32_3, C.r32_4, C.r32_5, C.r32_6, C.r32_7, C.r32_8, C.r49_0, C.r50_0, ↓bnd C.r20_0, ↓bnd C.r20_2, ↓bnd C.r20_4, ↓bnd C.r20_5, ↓bnd C.r20_6, ↓bnd C.r20_7, ↓bnd C.r20_8, ↓bnd C.r23_5, ↓bnd C.r23_6, ↓bnd C.r23_7, ↓bnd C.r28_0, ↓bnd C.r28_1, ↓bnd C.r28_2, ↓bnd C.r32_3, ↓bnd C.r32_4, ↓bnd C.r32_5, ↓bnd C.r32_6, ↓bnd C.r32_7, ↓bnd C.r32_8, ↓bnd C.r49_0, ↓bnd C.r50_0, ↓reduceIte, ↓Option.bind_some, if_true, if_false, true_and, and_true, and_self, true_or, or_true, false_or, or_false, not_true_eq_false, not_false_eq_true, Option.bind_some, somene, false_and, and_false, reduceCtorEq, Nat.reduceEqDiff, r, l0, l5, q_lt_f]
  · obtain ⟨C, M, hF, w, O, r, i, hst, T, S, s8, X⟩ := id Q
    obtain ⟨o1, o2, o3, -⟩ := id O
    have w1 := w.1.1
    obtain ⟨v, e1, e2⟩ := key j h F E st tu pl J (fun k hk => by
      obtain ⟨⟨m1, m2, -⟩, m0, m3, m4, m5, m6⟩ := S
      rw [e_SR_count]
      simp (disch := omega) only [C.k20, C.k21, C.k22, C.k23, C.k24, C.k25, C.k26, C.k27, C.k28, C.k29, C.k30, C.k31, C.k32, C.k43, C.k44, C.k45, C.k46, C.k47, C.k48, C.k49, C.k50, C.k51, C.n21, C.n22, C.n24, C.n25, C.n26, C.n27, C.n29, C.n30, C.n31, C.n43, C.n44, C.n45, C.n46, C.n47, C.n48, C.n51, C.r20_0, C.r20_2, C.r20_4, C.r20_5, C.r20_6, C.r20_7, C.r20_8, C.r23_5, C.r23_6, C.r23_7, C.r28_0, C.r28_1, C.r28_2, C.r32_3, C.r32_4, C.r32_5, C.r32_6, C.r32_7, C.r32_8, C.r49_0, C.r50_0, ↓bnd C.r20_0, ↓bnd C.r20_2, ↓bnd C.r20_4, ↓bnd C.r20_5, ↓bnd C.r20_6, ↓bnd C.r20_7, ↓bnd C.r20_8, ↓bnd C.r23_5, ↓bnd C.r23_6, ↓bnd C.r23_7, ↓bnd C.r28_0, ↓bnd C.r28_1, ↓bnd C.r28_2, ↓bnd C.r32_3, ↓bnd C.r32_4, ↓bnd C.r32_5, ↓bnd C.r32_6, ↓bnd C.r32_7, ↓bnd C.r32_8, ↓bnd C.r49_0, ↓bnd C.r50_0, ↓reduceIte, ↓Option.bind_some, if_true, if_false, true_and, and_true, and_self, true_or, or_true, false_or, or_false, not_true_eq_false, not_false_eq_true, Option.bind_some, somene, false_and, and_false, reduceCtorEq, Nat.reduceEqDiff, r, l0, l5, q_lt_f, o2]
      rcases (show k = 0 ∨ k = 1 ∨ k = 2 ∨ k = 3 ∨ k = 4 ∨ k = 5 by omega) with rfl | rfl | rfl | rfl | rfl | rfl
      · refine ⟨_, ?_, m1⟩
        rw [e_Al_number]
        simp (disch := omega) only [↓reduceIte, ↓Option.bind_some, if_true, if_false, true_and, and_true, and_self, true_or, or_true, false_or, or_false, not_true_eq_false, not_false_eq_true, Option.bind_some, somene, false_and, and_false, reduceCtorEq, Nat.reduceEqDiff, l0, o2, o3.1]
      · refine ⟨_, ?_, m2⟩
        rw [e_Al_number]
        simp (disch := omega) only [↓reduceIte, ↓Option.bind_some, if_true, if_false, true_and, and_true, and_self, true_or, or_true, false_or, or_false, not_true_eq_false, not_false_eq_true, Option.bind_some, somene, false_and, and_false, reduceCtorEq, Nat.reduceEqDiff, l0, l1, o2, o3.2.1, q_eq_f]
      · refine ⟨_, ?_, m3⟩
        rw [e_Al_number]
        simp (disch := omega) only [↓reduceIte, ↓Option.bind_some, if_true, if_false, true_and, and_true, and_self, true_or, or_true, false_or, or_false, not_true_eq_false, not_false_eq_true, Option.bind_some, somene, false_and, and_false, reduceCtorEq, Nat.reduceEqDiff, l0, l1, l2, o2, o3.2.2.1, q_eq_f]
      · refine ⟨_, ?_, m4⟩
        rw [e_Al_number]
        simp (disch := omega) only [↓reduceIte, ↓Option.bind_some, if_true, if_false, true_and, and_true, and_self, true_or, or_true, false_or, or_false, not_true_eq_false, not_false_eq_true, Option.bind_some, somene, false_and, and_false, reduceCtorEq, Nat.reduceEqDiff, l0, l1, l2, l3, o2, o3.2.2.2.1, q_eq_f, b_ite1]
      · refine ⟨_, ?_, m5⟩
        rw [e_Al_number]
        simp (disch := omega) only [↓reduceIte, ↓Option.bind_some, if_true, if_false, true_and, and_true, and_self, true_or, or_true, false_or, or_false, not_true_eq_false, not_false_eq_true, Option.bind_some, somene, false_and, and_false, reduceCtorEq, Nat.reduceEqDiff, l0, l1, l2, l3, l4, o2, o3.2.2.2.2.1, q_eq_f, b_ite1]
      · refine ⟨_, ?_, m6⟩
        rw [e_Al_number]
        simp (disch := omega) only [↓reduceIte, ↓Option.bind_some, if_true, if_false, true_and, and_true, and_self, true_or, or_true, false_or, or_false, not_true_eq_false, not_false_eq_true, Option.bind_some, somene, false_and, and_false, reduceCtorEq, Nat.reduceEqDiff, l0, l1, l2, l3, l4, o2, o3.2.2.2.2.2, q_eq_f])
    exact ⟨h, h, v, e1, Cq.refl h, T, e2, Mq.refl h, X⟩
end SkAsk
