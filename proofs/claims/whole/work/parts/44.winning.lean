/-! ===== the class's table of what is won, a bit a law ===== -/
def b64 (x : Int64) (i : Nat) : Bool := x.toBitVec.getLsbD i
theorem b64_ext {x y : Int64} (h : ∀ i, i < 64 → b64 x i = b64 y i) : x = y := Int64.toBitVec_inj.mp (BitVec.eq_of_getLsbD_eq (fun i hi => h i hi))
theorem b64_or (x y : Int64) (i : Nat) : b64 (x ||| y) i = (b64 x i || b64 y i) := by unfold b64; rw [Int64.toBitVec_or, BitVec.getLsbD_or]
theorem b64_and (x y : Int64) (i : Nat) : b64 (x &&& y) i = (b64 x i && b64 y i) := by unfold b64; rw [Int64.toBitVec_and, BitVec.getLsbD_and]
theorem b64_xor (x y : Int64) (i : Nat) : b64 (x ^^^ y) i = (b64 x i ^^ b64 y i) := by unfold b64; rw [Int64.toBitVec_xor, BitVec.getLsbD_xor]
theorem b64_m1 : ∀ i, i < 64 → b64 (-1) i = true := by decide +kernel
theorem b64_not (x : Int64) {i : Nat} (hi : i < 64) : b64 (x ^^^ (-1)) i = !b64 x i := by rw [b64_xor, b64_m1 i hi, Bool.xor_true]
theorem b64_0 (i : Nat) : b64 0 i = false := by unfold b64; show (BitVec.ofNat 64 0).getLsbD i = false; simp
theorem b64_1 : ∀ i, i < 64 → b64 1 i = decide (i = 0) := by decide +kernel
theorem bs_64 : ∀ n, n < 64 → (((nI n).toInt64 &&& 63).toBitVec.smod 64).toNat = n := by decide +kernel
theorem b64_sshr (n : Nat) (hn : n < 64) (x : Int64) {i : Nat} (hi : i < 64) : b64 (x >>> ((nI n).toInt64 &&& 63)) i = if n + i < 64 then b64 x (n + i) else b64 x 63 := by
  unfold b64
  rw [Int64.toBitVec_shiftRight]
  show (x.toBitVec.sshiftRight (((nI n).toInt64 &&& 63).toBitVec.smod 64).toNat).getLsbD i = _
  rw [bs_64 n hn, BitVec.getLsbD_sshiftRight, BitVec.msb_eq_getLsbD_last]
  simp [hi]
theorem b64_bit {k : Nat} (hk : k < 64) (x : Int64) : ((x >>> ((nI k).toInt64 &&& 63)) &&& 1) = if b64 x k = true then 1 else 0 := b64_ext fun i hi => by
  rw [b64_and, b64_sshr k hk _ hi, b64_1 i hi]
  by_cases h0 : i = 0
  · subst h0
    rw [if_pos (by omega), Nat.add_zero]
    cases b64 x k <;> decide
  · rw [decide_eq_false h0, Bool.and_false]
    cases b64 x k
    · rw [if_neg (by decide), b64_0]
    · rw [if_pos rfl, b64_1 i hi, decide_eq_false h0]
theorem cmp_bit {k : Nat} (hk : k < 64) (x : Int64) : (lg_cmp ((x >>> ((nI k).toInt64 &&& 63)) &&& 1) 1 = nI 0) = (b64 x k = true) := by
  rw [b64_bit hk]
  cases b64 x k
  · exact propext ⟨fun q => absurd q (by decide), fun q => by cases q⟩
  · exact propext ⟨fun _ => rfl, fun _ => by decide⟩
/-- the laws by their numbers -/
def lgH (l : Nat) : Nat := l / 4 + 1
def lgE (l : Nat) : Bool := decide (l / 2 % 2 = 1)
def lgL (l : Nat) : Bool := decide (l % 2 = 1)
def wL (A : AD) (l : Nat) : Nat → Bool := wA A (lgH l) (lgE l) (lgL l)
theorem lw_last : ∀ l, l < 60 → b64 768614336404564650 l = lgL l := by decide +kernel
theorem lw_noends : ∀ l, l < 60 → b64 230584300921369395 l = !lgE l := by decide +kernel
theorem lw_hits : ∀ k, k < 5 → 1 ≤ k → ∀ l, l < 60 → b64 (lwH k) l = (lgH l).testBit (k - 1) := by decide +kernel
/-- a law has the stroke -/
def lb (A : AD) (m l : Nat) (x : Nat × Nat) : Bool := (lgH l).testBit (x.2 - 1) && cO A m (lgE l) x
theorem aL_lb (A : AD) (m l : Nat) : aL A (lgH l) (lgE l) m = (sL A).filter (lb A m l) := rA_filter _ _ (fun p k => by
  rw [cB_cO]
  show _ = (decide (sB A p k ≠ 0) && ((lgH l).testBit (k - 1) && cO A m (lgE l) (p, k)))
  cases decide (sB A p k ≠ 0) <;> cases (lgH l).testBit (k - 1) <;> simp) _ _ _
theorem any_filter {α : Type} (l : List α) (f g : α → Bool) : (l.filter f).any g = l.any (fun x => f x && g x) := by
  induction l with
  | nil => rfl
  | cons a l ih => rw [List.filter_cons, List.any_cons, ← ih]; cases f a <;> simp
theorem filter_nil {α : Type} (l : List α) (f : α → Bool) : (l.filter f = []) = (l.any f = false) := by
  induction l with
  | nil => simp
  | cons a l ih => rw [List.filter_cons, List.any_cons]; cases hf : f a <;> simp [ih]
theorem sL_mem {A : AD} {x : Nat × Nat} (h : x ∈ sL A) : sB A x.1 x.2 ≠ 0 ∧ 1 ≤ x.2 ∧ x.2 ≤ 4 ∧ x.1 < aN A := by
  obtain ⟨a, b, c, _, e⟩ := rA_mem (Nat.zero_le _) h
  exact ⟨of_decide_eq_true a, b, c, e⟩
theorem sH_mem {A : AD} {H : Nat} {x : Nat × Nat} (h : x ∈ sH A H) : H.testBit (x.2 - 1) = true ∧ sB A x.1 x.2 ≠ 0 ∧ 1 ≤ x.2 ∧ x.2 ≤ 4 ∧ x.1 < aN A := by
  obtain ⟨a, b, c, _, e⟩ := rA_mem (Nat.zero_le _) h
  rw [Bool.and_eq_true, decide_eq_true_eq] at a
  exact ⟨a.1, a.2, b, c, e⟩
def owN (D : DD) : Nat := 4 * (dH D - 1) + 2 * (dE D).toNat + (dL D).toNat
theorem ow_lt {D : DD} (w : dW D) : owN D < 60 := by
  obtain ⟨_, h1, h2, _⟩ := w
  have := toN_le (dE D)
  have := toN_le (dL D)
  unfold owN; omega
theorem wL_ow {D : DD} (w : dW D) : wL (dA D) (owN D) = wD D := by
  obtain ⟨_, h1, h2, _⟩ := w
  have a1 := toN_le (dE D)
  have a2 := toN_le (dL D)
  have e1 : lgH (owN D) = dH D := by unfold lgH owN; omega
  have e2 : lgE (owN D) = dE D := by
    unfold lgE owN
    cases dE D
    · simp only [Bool.toNat_false]; exact decide_eq_false (by omega)
    · simp only [Bool.toNat_true]; exact decide_eq_true (by omega)
  have e3 : lgL (owN D) = dL D := by
    unfold lgL owN
    cases dL D
    · simp only [Bool.toNat_false]; exact decide_eq_false (by omega)
    · simp only [Bool.toNat_true]; exact decide_eq_true (by omega)
  unfold wL wD
  rw [e1, e2, e3]
theorem AS_len {F : Nat → Prop} {h : sk_H} {A : AD} {arr : Nat} : ∀ (l : List (Nat × Nat)) (i : Nat), AS F h A arr i l → hN h arr = i + l.length
  | [], i, o => o
  | x :: l, i, ⟨_, q⟩ => by rw [AS_len l (i + 1) q, List.length_cons]; omega
section SkWin
variable {F : Nat → Prop} {h : sk_H} {A : AD} {a m : Nat} {D : DD} {c : Nat → Nat} {d : Nat}
theorem AOc.r (O : AOc F h a D c) {j : Nat} (h1 : 8 ≤ j) (h2 : j ≤ 16) : hR h a j = some (c j) := (O.2.2.2.1 j h1 h2).1
theorem AOc.k (O : AOc F h a D c) : hK h a = 2 := O.2.1
theorem AOc.kS (O : AOc F h a D c) : hK h (c 14) = 108 := O.2.2.2.2.2.2.2.2.2.2.1.1
theorem AOc.S (O : AOc F h a D c) : AS F h (dA D) (c 14) 0 (sH (dA D) (dH D)) := O.2.2.2.2.2.2.2.2.2.2.1.2
theorem AOc.kA (O : AOc F h a D c) : hK h (c 15) = 108 := O.2.2.2.2.2.2.2.2.2.2.2.1.1
theorem AOc.SA (O : AOc F h a D c) : AS F h (dA D) (c 15) 0 (sL (dA D)) := O.2.2.2.2.2.2.2.2.2.2.2.1.2
theorem Ta_fw_in (C : CS h) (w : aW A) {arr N : Nat} (hk : hK h arr = 108) (hN : hN h arr = N) (hN2 : N < 2 ^ 31) (hm : m < 4096) (T : ∀ j, j < m → ∀ l, l < 60 → b64 (hJ h 43 j) l = wL A l j) : ∀ (l : List (Nat × Nat)) (i : Nat) (can wins : Int64), AS F h A arr i l → (∀ x ∈ l, sB A x.1 x.2 ≠ 0 ∧ 1 ≤ x.2 ∧ x.2 ≤ 4 ∧ x.1 < aN A) → ∃ v, k_Ta_fillWinning_32 d (some 32) (nI m) can wins (some arr) (nI N) (nI i) h = k_Ta_fillWinning_2 d (some 32) (nI (m + 1)) (wJ h 43 m v) ∧ ∀ q, q < 60 → b64 v q = ((b64 wins q || l.any (fun x => lb A m q x && !wL A q (aT A m x))) || (lgL q && !(b64 can q || l.any (lb A m q))))
  | [], i, can, wins, S, hl => by
    have S : _root_.Jvm.Pilot.CSkittleRowLaw_law_r7134_573cdd.hN h arr = i := S
    have e : N = i := hN.symm.trans S
    subst e
    refine ⟨wins ||| ((768614336404564650 : Int64) &&& (can ^^^ ((-1) : Int64))), ?_, ?_⟩
    · rw [e_Ta_fillWinning_32]
      simp (disch := omega) only [C.k20, C.k21, C.k22, C.k23, C.k24, C.k25, C.k26, C.k27, C.k28, C.k29, C.k30, C.k31, C.k32, C.k43, C.k44, C.k45, C.k46, C.k47, C.k48, C.k49, C.k50, C.k51, C.n21, C.n22, C.n24, C.n25, C.n26, C.n27, C.n29, C.n30, C.n31, C.n43, C.n44, C.n45, C.n46, C.n47, C.n48, C.n51, C.r20_0, C.r20_2, C.r20_4, C.r20_5, C.r20_6, C.r20_7, C.r20_8, C.r23_5, C.r23_6, C.r23_7, C.r28_0, C.r28_1, C.r28_2, C.r32_3, C.r32_4, C.r32_5, C.r32_6, C.r32_7, C.r32_8, C.r49_0, C.r50_0, if_true, if_false, true_and, and_true, and_self, true_or, or_true, false_or, or_false, not_true_eq_false, not_false_eq_true, Option.bind_some, somene, false_and, and_false, reduceCtorEq, Nat.reduceEqDiff, q_le_t, q_in, q_cl, nI_1]
    · intro q hq
      rw [b64_or, b64_and, b64_not _ (by omega), lw_last q hq]
      simp
  | x :: l, i, can, wins, ⟨⟨s, r, f, o⟩, S⟩, hl => by
    have hlen := AS_len l (i + 1) S
    obtain ⟨x1, x2, x3, x4⟩ := hl x (List.mem_cons_self ..)
    have hl' := fun y hy => hl y (List.mem_cons_of_mem _ hy)
    have b1 := sB_lt w x4 x.2
    have b2 := and_lt (s := sB A x.1 x.2) hm
    have ih := fun c2 w2 => Ta_fw_in C w hk hN hN2 hm T l (i + 1) c2 w2 S hl'
    have hE := Sk_hasEndIn_ok d w o x4 hm
    obtain ⟨o1, _, _, _, o3, _, _, o6⟩ := id o
    rw [e_Ta_fillWinning_32]
    simp (disch := omega) only [if_true, if_false, true_and, and_true, and_self, true_or, or_true, false_or, or_false, not_true_eq_false, not_false_eq_true, Option.bind_some, somene, false_and, and_false, reduceCtorEq, Nat.reduceEqDiff, hk, hN, ar108, q_le_f, q_in, q_cl, r, o1, o3, q_an, q_eq, hE, l0, q_bi0, o6]
    by_cases hs : m &&& sB A x.1 x.2 = sB A x.1 x.2
    · simp only [hs, if_true, if_false, true_and, and_true, and_self, true_or, or_true, false_or, or_false, not_true_eq_false, not_false_eq_true, Option.bind_some, somene, false_and, and_false, reduceCtorEq, Nat.reduceEqDiff]
      have hlt := an_sub hm x1 hs
      have h87 : ∀ s0 : Int64, (∀ q, q < 60 → b64 s0 q = lb A m q x) → ∃ v, k_Ta_fillWinning_87 d (some 32) (nI m) can wins (some arr) (nI N) (nI i) (some s) s0 h = k_Ta_fillWinning_2 d (some 32) (nI (m + 1)) (wJ h 43 m v) ∧ ∀ q, q < 60 → b64 v q = ((b64 wins q || (x :: l).any (fun x => lb A m q x && !wL A q (aT A m x))) || (lgL q && !(b64 can q || (x :: l).any (lb A m q)))) := by
        intro s0 hs0
        obtain ⟨v, e1, e2⟩ := ih (can ||| s0) (wins ||| (s0 &&& (hJ h 43 (an m (sB A x.1 x.2)) ^^^ (-1))))
        refine ⟨v, ?_, ?_⟩
        · rw [← e1, e_Ta_fillWinning_87]
          have e5 : (-1 : Int32) = nM := rfl
          simp (disch := omega) only [C.k20, C.k21, C.k22, C.k23, C.k24, C.k25, C.k26, C.k27, C.k28, C.k29, C.k30, C.k31, C.k32, C.k43, C.k44, C.k45, C.k46, C.k47, C.k48, C.k49, C.k50, C.k51, C.n21, C.n22, C.n24, C.n25, C.n26, C.n27, C.n29, C.n30, C.n31, C.n43, C.n44, C.n45, C.n46, C.n47, C.n48, C.n51, C.r20_0, C.r20_2, C.r20_4, C.r20_5, C.r20_6, C.r20_7, C.r20_8, C.r23_5, C.r23_6, C.r23_7, C.r28_0, C.r28_1, C.r28_2, C.r32_3, C.r32_4, C.r32_5, C.r32_6, C.r32_7, C.r32_8, C.r49_0, C.r50_0, if_true, if_false, true_and, and_true, and_self, true_or, or_true, false_or, or_false, not_true_eq_false, not_false_eq_true, Option.bind_some, somene, false_and, and_false, reduceCtorEq, Nat.reduceEqDiff, o1, o3, e5, q_nan, q_in, q_cl, nI_1]
        · intro q hq
          rw [e2 q hq, b64_or, b64_or, b64_and, b64_not _ (by omega), hs0 q hq, T _ hlt q hq, List.any_cons, List.any_cons]
          unfold aT
          cases b64 wins q <;> cases b64 can q <;> simp
      have hb : ∀ q, q < 60 → lb A m q x = ((lgH q).testBit (x.2 - 1) && (!lgE q || Jvm.Pilot.CSkittleRowLaw_law_r7134_573cdd.hE A m x)) := by
        intro q hq
        unfold lb cO
        rw [hs, decide_eq_true rfl, Bool.true_and]
      cases he : Jvm.Pilot.CSkittleRowLaw_law_r7134_573cdd.hE A m x
      · simp only [if_true, if_false, true_and, and_true, and_self, true_or, or_true, false_or, or_false, not_true_eq_false, not_false_eq_true, Option.bind_some, somene, false_and, and_false, reduceCtorEq, Nat.reduceEqDiff]
        refine h87 _ (fun q hq => ?_)
        rw [b64_and, lw_hits x.2 (by omega) x2 q hq, lw_noends q hq, hb q hq, he, Bool.or_false]
      · simp only [if_true, if_false, true_and, and_true, and_self, true_or, or_true, false_or, or_false, not_true_eq_false, not_false_eq_true, Option.bind_some, somene, false_and, and_false, reduceCtorEq, Nat.reduceEqDiff, Bool.true_eq_false]
        refine h87 _ (fun q hq => ?_)
        rw [lw_hits x.2 (by omega) x2 q hq, hb q hq, he, Bool.or_true, Bool.and_true]
    · simp only [hs, if_true, if_false, true_and, and_true, and_self, true_or, or_true, false_or, or_false, not_true_eq_false, not_false_eq_true, Option.bind_some, somene, false_and, and_false, reduceCtorEq, Nat.reduceEqDiff, nI_1]
      obtain ⟨v, e1, e2⟩ := ih can wins
      refine ⟨v, e1, fun q hq => ?_⟩
      have hb : lb A m q x = false := by
        unfold lb cO
        rw [decide_eq_false hs]
        simp
      rw [e2 q hq, List.any_cons, List.any_cons, hb]
      simp
end SkWin
