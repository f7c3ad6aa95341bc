/-! ===== the least number left out; plain, again ===== -/
def IsM (S : Nat → Prop) (n : Nat) : Prop := ¬ S n ∧ ∀ j, j < n → S j
theorem IsM_one {S : Nat → Prop} {a b : Nat} (ha : IsM S a) (hb : IsM S b) : a = b := by
  rcases Nat.lt_trichotomy a b with q | q | q
  · exact absurd (hb.2 a q) ha.1
  · exact q
  · exact absurd (ha.2 b q) hb.1
theorem IsM_cg {S T : Nat → Prop} {a : Nat} (ha : IsM S a) (h : ∀ j, j ≤ a → (S j ↔ T j)) : IsM T a := ⟨fun q => ha.1 ((h a (Nat.le_refl _)).mpr q), fun j hj => (h j (by omega)).mp (ha.2 j hj)⟩
theorem pig : ∀ (n : Nat) (l : List Nat), (∀ k, k < n → k ∈ l) → n ≤ l.length
  | 0, l, _ => Nat.zero_le _
  | n + 1, l, h => by
    have hn := h n (by omega)
    have h1 := pig n (l.erase n) (fun k hk => (List.mem_erase_of_ne (by omega)).mpr (h k (by omega)))
    rw [List.length_erase_of_mem hn] at h1
    have h2 := List.length_pos_of_mem hn
    omega
theorem mexF_ok (l : List Nat) : ∀ (f k : Nat), (∀ j, j < k → j ∈ l) → f + k = l.length → IsM (fun v => v ∈ l) (mexF l f k) ∧ mexF l f k ≤ l.length
  | 0, k, hk, hf => by
    have e : mexF l 0 k = k := rfl
    rw [e]
    refine ⟨⟨fun q => ?_, hk⟩, by omega⟩
    have := pig (k + 1) l (fun j hj => by
      rcases (show j < k ∨ j = k by omega) with r | r
      · exact hk j r
      · rw [r]; exact q)
    omega
  | f + 1, k, hk, hf => by
    have e : mexF l (f + 1) k = if l.contains k then mexF l f (k + 1) else k := rfl
    rw [e]
    by_cases q : k ∈ l
    · rw [if_pos (by simpa using q)]
      exact mexF_ok l f (k + 1) (fun j hj => by
        rcases (show j < k ∨ j = k by omega) with r | r
        · exact hk j r
        · rw [r]; exact q) (by omega)
    · rw [if_neg (by simpa using q)]
      exact ⟨⟨q, hk⟩, by omega⟩
theorem mex_ok (l : List Nat) : IsM (fun v => v ∈ l) (mex l) ∧ mex l ≤ l.length := mexF_ok l l.length 0 (fun j hj => absurd hj (by omega)) (by omega)
/-- what strokes leave of a plain row: those of fewer than k, or of k at less than b -/
def pS (H : Nat) (E : Bool) (n : Nat) (u : Nat → Nat) (k b v : Nat) : Prop := ∃ k' b', 1 ≤ k' ∧ k' ≤ 4 ∧ k' ≤ n ∧ H.testBit (k' - 1) = true ∧ b' ≤ n - k' ∧ (E = true → b' = 0 ∨ b' = n - k') ∧ (k' < k ∨ (k' = k ∧ b' < b)) ∧ v = u b' ^^^ u (n - k' - b')
theorem pV_mem (H : Nat) (E : Bool) (n : Nat) (u : Nat → Nat) (v : Nat) : v ∈ pV H E n u ↔ pS H E n u 5 0 v := by
  unfold pV pS
  rw [List.mem_flatMap]
  constructor
  · rintro ⟨k, hk, hv⟩
    have hk4 : 1 ≤ k ∧ k ≤ 4 := by
      have : ∀ k, k ∈ [1, 2, 3, 4] → 1 ≤ k ∧ k ≤ 4 := by decide
      exact this k hk
    by_cases q : k ≤ n ∧ H.testBit (k - 1) = true
    · rw [if_pos q, List.mem_map] at hv
      obtain ⟨b, hb, hv⟩ := hv
      rw [List.mem_filter, List.mem_range] at hb
      refine ⟨k, b, hk4.1, hk4.2, q.1, q.2, by omega, fun hE => ?_, Or.inl (by omega), hv.symm⟩
      have := hb.2
      rw [hE] at this
      simpa using this
    · rw [if_neg q] at hv; cases hv
  · rintro ⟨k, b, h1, h4, hn, hH, hb, hE, -, hv⟩
    refine ⟨k, ?_, ?_⟩
    · rcases (show k = 1 ∨ k = 2 ∨ k = 3 ∨ k = 4 by omega) with rfl | rfl | rfl | rfl <;> simp
    · rw [if_pos ⟨hn, hH⟩, List.mem_map]
      refine ⟨b, ?_, hv.symm⟩
      rw [List.mem_filter, List.mem_range]
      refine ⟨by omega, ?_⟩
      cases hE2 : E
      · rfl
      · rcases hE hE2 with q | q <;> simp [q]
theorem pV_len (H : Nat) (E : Bool) (n : Nat) (u : Nat → Nat) : (pV H E n u).length ≤ 4 * (n + 1) := by
  have key : ∀ k, (if k ≤ n ∧ H.testBit (k - 1) = true then ((List.range (n - k + 1)).filter (fun b => !E || b == 0 || b == n - k)).map (fun b => u b ^^^ u (n - k - b)) else []).length ≤ n + 1 := by
    intro k
    split
    · rw [List.length_map]
      refine Nat.le_trans (List.length_filter_le _ _) ?_
      rw [List.length_range]
      omega
    · exact Nat.zero_le _
  unfold pV
  simp only [List.flatMap_cons, List.flatMap_nil, List.length_append, List.length_nil]
  have h1 := key 1
  have h2 := key 2
  have h3 := key 3
  have h4 := key 4
  omega
theorem pS_cg {H : Nat} {E : Bool} {n : Nat} {u v : Nat → Nat} (h : ∀ j, j < n → u j = v j) (k b w : Nat) : pS H E n u k b w ↔ pS H E n v k b w := by
  unfold pS
  constructor
  · rintro ⟨k', b', a1, a2, a3, a4, a5, a6, a7, a8⟩
    exact ⟨k', b', a1, a2, a3, a4, a5, a6, a7, by rw [a8, h b' (by omega), h _ (by omega)]⟩
  · rintro ⟨k', b', a1, a2, a3, a4, a5, a6, a7, a8⟩
    exact ⟨k', b', a1, a2, a3, a4, a5, a6, a7, by rw [a8, h b' (by omega), h _ (by omega)]⟩
theorem pW_eq (H : Nat) (E : Bool) (n : Nat) : pW H E n = mex (pV H E n (pW H E)) := by
  refine fv_eq (B := fun n u => mex (pV H E n u)) (z := 0) (N := n + 1) (fun m hm u v h => ?_) (by omega)
  refine IsM_one (mex_ok _).1 (IsM_cg (mex_ok _).1 (fun j _ => ?_))
  show j ∈ pV H E m v ↔ j ∈ pV H E m u
  rw [pV_mem, pV_mem, pS_cg (fun j hj => h j hj)]
theorem pW_is (H : Nat) (E : Bool) (n : Nat) : IsM (pS H E n (pW H E) 5 0) (pW H E n) := by
  rw [pW_eq]
  exact IsM_cg (mex_ok _).1 (fun j _ => pV_mem H E n _ j)
theorem pW_le (H : Nat) (E : Bool) {n : Nat} (hn : n ≤ 40) : pW H E n < 256 := by
  rw [pW_eq]
  have h1 := (mex_ok (pV H E n (pW H E))).2
  have h2 := pV_len H E n (pW H E)
  omega
theorem xor_256 {a b : Nat} (ha : a < 256) (hb : b < 256) : a ^^^ b < 256 := Nat.xor_lt_two_pow (n := 8) ha hb
/-- the row of what was seen -/
def SnP (h : sk_H) (S : Nat → Prop) : Prop := ∀ v, v < 256 → (hI h 66 v = nI 1 ∧ S v) ∨ (hI h 66 v = nI 0 ∧ ¬ S v)
theorem SnP_cg {h : sk_H} {S T : Nat → Prop} (s : SnP h S) (e : ∀ v, v < 256 → (S v ↔ T v)) : SnP h T := fun v hv => (s v hv).imp (fun q => ⟨q.1, (e v hv).mp q.2⟩) (fun q => ⟨q.1, fun r => q.2 ((e v hv).mpr r)⟩)
def P66 (a _i : Nat) : Bool := a == 66
def PKL (a _i : Nat) : Bool := a == 66 || a == 67
section SkPlain
variable {L : Nat} {xs : Nat → Int32} {F G : Nat → Prop} {E : Nat → Option DD} {h h' h1 h2 : sk_H} {j st tu pl a m p k n i w l : Nat} {D : DD} {c : Nat → Nat} {d : Nat}
theorem M_clear_in : ∀ (n i : Nat) (h : sk_H), i + n = 256 → MS 52 h → (∀ v, v < i → hI h 66 v = nI 0) → ∃ h', k_M_clearsSeen_2 d (some 52) (nI i) h = some h' ∧ Iq P66 h h' ∧ ∀ v, v < 256 → hI h' 66 v = nI 0
  | 0, i, h, hi, M, hz => by
    refine ⟨h, ?_, Iq.refl h, fun v hv => hz v (by omega)⟩
    rw [e_M_clearsSeen_2]
    simp (disch := omega) only [l256, q_le_t, if_true]
  | n + 1, i, h, hi, M, hz => by
    obtain ⟨h', e1, e2, e3⟩ := M_clear_in n (i + 1) (wI h 66 i (nI 0)) (by omega) M (fun v hv => by
      rw [hI_wI]
      by_cases q : v = i
      · rw [if_pos ⟨rfl, q⟩]
      · rw [if_neg (fun r => q r.2)]; exact hz v (by omega))
    refine ⟨h', ?_, (Iq.w _ _ rfl).trans e2, e3⟩
    rw [← e1, e_M_clearsSeen_2]
    simp (disch := omega) only [M.K52, ↓bnd M.R27, M.K66, M.N66, ↓reduceIte, ↓Option.bind_some, if_true, if_false, true_and, and_true, and_self, true_or, or_true, false_or, or_false, not_true_eq_false, not_false_eq_true, Option.bind_some, somene, false_and, and_false, reduceCtorEq, Nat.reduceEqDiff, l256, l0, l1, q_le_f, q_in, q_cl, nI_add, i8_0]
theorem M_clear_ok (M : MS 52 h) : ∃ h', c_M_clearsSeen d (some 52) h = some h' ∧ Iq P66 h h' ∧ SnP h' (fun _ => False) := by
  obtain ⟨h', e1, e2, e3⟩ := M_clear_in (d := d) 256 0 h (by omega) M (fun v hv => absurd hv (by omega))
  exact ⟨h', by rw [e_M_clearsSeen]; exact e1, e2, fun v hv => Or.inr ⟨e3 v hv, fun q => q⟩⟩
theorem M_least_in (M : MS 52 h) {S : Nat → Prop} (s : SnP h S) (hm : IsM S m) (hm2 : m < 256) : ∀ (n i : Nat), i + n = m → k_M_leastUnseen_2 d (some 52) (nI i) h = some (h, nI m)
  | 0, i, hi => by
    have e : i = m := by omega
    subst e
    rcases s i hm2 with ⟨-, q⟩ | ⟨q, -⟩
    · exact absurd q hm.1
    · rw [e_M_leastUnseen_2]
      simp (disch := omega) only [M.K52, ↓bnd M.R27, M.K66, M.N66, ↓reduceIte, ↓Option.bind_some, if_true, if_false, true_and, and_true, and_self, true_or, or_true, false_or, or_false, not_true_eq_false, not_false_eq_true, Option.bind_some, somene, false_and, and_false, reduceCtorEq, Nat.reduceEqDiff, l0, q_in, q_cl, q]
  | n + 1, i, hi => by
    rcases s i (by omega) with ⟨q, -⟩ | ⟨-, q⟩
    · rw [← M_least_in M s hm hm2 n (i + 1) (by omega), e_M_leastUnseen_2]
      simp (disch := omega) only [M.K52, ↓bnd M.R27, M.K66, M.N66, ↓reduceIte, ↓Option.bind_some, if_true, if_false, true_and, and_true, and_self, true_or, or_true, false_or, or_false, not_true_eq_false, not_false_eq_true, Option.bind_some, somene, false_and, and_false, reduceCtorEq, Nat.reduceEqDiff, l0, l1, q_in, q_cl, q, q_eq_f, nI_add]
    · exact absurd (hm.2 i (by omega)) q
theorem M_least_ok (M : MS 52 h) {S : Nat → Prop} (s : SnP h S) (hm : IsM S m) (hm2 : m < 256) : c_M_leastUnseen d (some 52) h = some (h, nI m) := by
  rw [e_M_leastUnseen]
  exact M_least_in M s hm hm2 m 0 (by omega)
theorem SnP_w {S : Nat → Prop} (s : SnP h S) {v : Nat} : SnP (wI h 66 v (nI 1)) (fun x => S x ∨ x = v) := fun x hx => by
  rw [hI_wI]
  by_cases q : x = v
  · rw [if_pos ⟨rfl, q⟩]; exact Or.inl ⟨rfl, Or.inr q⟩
  · rw [if_neg (fun r => q r.2)]
    exact (s x hx).imp (fun r => ⟨r.1, Or.inl r.2⟩) (fun r => ⟨r.1, fun t => t.elim r.2 q⟩)
/-- what the walk over a plain row needs -/
def FI (D : DD) (n : Nat) (h : sk_H) : Prop := MS 52 h ∧ hI h 62 3 = nI (dH D) ∧ hI h 62 4 = bi (dE D) ∧ ∀ i, i < n → hI h 67 i = nI (pW (dH D) (dE D) i)
theorem FI.iq (I : FI D n h) (Q : Iq P66 h h1) : FI D n h1 := ⟨I.1.ir Q, by rw [Q.I rfl]; exact I.2.1, by rw [Q.I rfl]; exact I.2.2.1, fun i hi => by rw [Q.I rfl]; exact I.2.2.2 i hi⟩
theorem M_fp_b (hn : n ≤ 40) (h1k : 1 ≤ k) (h4 : k ≤ 4) (hk : k ≤ n) (hH : (dH D).testBit (k - 1) = true) : ∀ (c b : Nat) (h : sk_H), b + c = n - k + 1 → FI D n h → SnP h (pS (dH D) (dE D) n (pW (dH D) (dE D)) k b) → ∃ h', k_M_fillsPlains_44 d (some 52) (nI n) (nI k) (nI b) h = k_M_fillsPlains_14 d (some 52) (nI n) (nI (k + 1)) h' ∧ Iq P66 h h' ∧ SnP h' (pS (dH D) (dE D) n (pW (dH D) (dE D)) (k + 1) 0)
  | 0, b, h, hb, I, s => by
    refine ⟨h, ?_, Iq.refl h, SnP_cg s (fun v _ => ?_)⟩
    · rw [e_M_fillsPlains_44]
      simp (disch := omega) only [q_sub, q_lt_t, if_true, l1, nI_add]
    · constructor
      · rintro ⟨k', b', a1, a2, a3, a4, a5, a6, a7, a8⟩
        exact ⟨k', b', a1, a2, a3, a4, a5, a6, Or.inl (by omega), a8⟩
      · rintro ⟨k', b', a1, a2, a3, a4, a5, a6, a7, a8⟩
        refine ⟨k', b', a1, a2, a3, a4, a5, a6, ?_, a8⟩
        by_cases q : k' = k
        · subst q; exact Or.inr ⟨rfl, by omega⟩
        · exact Or.inl (by omega)
  | c + 1, b, h, hb, I, s => by
    obtain ⟨M, i3, i4, tb⟩ := id I
    have u1 := pW_le (dH D) (dE D) (n := b) (by omega)
    have u2 := pW_le (dH D) (dE D) (n := n - k - b) (by omega)
    have ux := xor_256 u1 u2
    have t1 := tb b (by omega)
    have t2 := tb (n - k - b) (by omega)
    have mark : ∃ h', k_M_fillsPlains_83 d (some 52) (nI n) (nI k) (nI b) h = k_M_fillsPlains_44 d (some 52) (nI n) (nI k) (nI (b + 1)) h' ∧ Iq P66 h h' ∧ ((dE D = true → b = 0 ∨ b = n - k) → SnP h' (pS (dH D) (dE D) n (pW (dH D) (dE D)) k (b + 1))) := by
      refine ⟨wI h 66 (pW (dH D) (dE D) b ^^^ pW (dH D) (dE D) (n - k - b)) (nI 1), ?_, Iq.w _ _ rfl, fun hE => SnP_cg (SnP_w s) (fun v _ => ?_)⟩
      · rw [e_M_fillsPlains_83]
        simp (disch := omega) only [M.K52, ↓bnd M.R28, ↓bnd M.R27, M.K66, M.N66, M.K67, M.N67, ↓reduceIte, ↓Option.bind_some, if_true, if_false, true_and, and_true, and_self, true_or, or_true, false_or, or_false, not_true_eq_false, not_false_eq_true, Option.bind_some, somene, false_and, and_false, reduceCtorEq, Nat.reduceEqDiff, l1, l0, q_sub, q_in, q_cl, t1, t2, nI_xor, nI_add, i8_1]
      · constructor
        · rintro (⟨k', b', a1, a2, a3, a4, a5, a6, a7, a8⟩ | q)
          · exact ⟨k', b', a1, a2, a3, a4, a5, a6, by omega, a8⟩
          · exact ⟨k, b, h1k, h4, hk, hH, by omega, hE, Or.inr ⟨rfl, by omega⟩, q⟩
        · rintro ⟨k', b', a1, a2, a3, a4, a5, a6, a7, a8⟩
          by_cases q : k' = k ∧ b' = b
          · rw [q.1, q.2] at a8; exact Or.inr a8
          · exact Or.inl ⟨k', b', a1, a2, a3, a4, a5, a6, by omega, a8⟩
    have skip : (dE D = true ∧ b ≠ 0 ∧ b ≠ n - k) → SnP h (pS (dH D) (dE D) n (pW (dH D) (dE D)) k (b + 1)) := fun ⟨e1, e2, e3⟩ => SnP_cg s (fun v _ => by
      constructor
      · rintro ⟨k', b', a1, a2, a3, a4, a5, a6, a7, a8⟩
        exact ⟨k', b', a1, a2, a3, a4, a5, a6, by omega, a8⟩
      · rintro ⟨k', b', a1, a2, a3, a4, a5, a6, a7, a8⟩
        refine ⟨k', b', a1, a2, a3, a4, a5, a6, ?_, a8⟩
        have := a6 e1
        by_cases q : k' = k
        · subst q; refine Or.inr ⟨rfl, ?_⟩; omega
        · omega)
    obtain ⟨hm, m1, m2, m3⟩ := mark
    have go : (dE D = true → b = 0 ∨ b = n - k) → ∃ h', k_M_fillsPlains_83 d (some 52) (nI n) (nI k) (nI b) h = k_M_fillsPlains_14 d (some 52) (nI n) (nI (k + 1)) h' ∧ Iq P66 h h' ∧ SnP h' (pS (dH D) (dE D) n (pW (dH D) (dE D)) (k + 1) 0) := fun hE => by
      obtain ⟨h', e1, e2, e3⟩ := M_fp_b hn h1k h4 hk hH c (b + 1) hm (by omega) (I.iq m2) (m3 hE)
      exact ⟨h', m1.trans e1, m2.trans e2, e3⟩
    by_cases b0 : b = 0
    · obtain ⟨h', e1, e2, e3⟩ := go (fun _ => Or.inl b0)
      refine ⟨h', ?_, e2, e3⟩
      rw [← e1, e_M_fillsPlains_44]
      subst b0
      cases hE : dE D <;> simp (disch := omega) only [M.K52, ↓bnd M.R20, M.K62, M.N62, ↓reduceIte, ↓Option.bind_some, if_true, if_false, true_and, and_true, and_self, true_or, or_true, false_or, or_false, not_true_eq_false, not_false_eq_true, Option.bind_some, somene, false_and, and_false, reduceCtorEq, Nat.reduceEqDiff, l0, l1, l4, q_sub, q_lt_f, q_in, q_cl, i4, hE, q_bi0, q_eq_f, Bool.true_eq_false]
    · by_cases b1 : b = n - k
      · obtain ⟨h', e1, e2, e3⟩ := go (fun _ => Or.inr b1)
        refine ⟨h', ?_, e2, e3⟩
        rw [← e1, e_M_fillsPlains_44]
        subst b1
        cases hE : dE D <;> simp (disch := omega) only [M.K52, ↓bnd M.R20, M.K62, M.N62, ↓reduceIte, ↓Option.bind_some, if_true, if_false, true_and, and_true, and_self, true_or, or_true, false_or, or_false, not_true_eq_false, not_false_eq_true, Option.bind_some, somene, false_and, and_false, reduceCtorEq, Nat.reduceEqDiff, l0, l1, l4, q_sub, q_lt_f, q_in, q_cl, i4, hE, q_bi0, q_eq_f, Bool.true_eq_false]
      · cases hE : dE D
        · obtain ⟨h', e1, e2, e3⟩ := go (fun q => by rw [hE] at q; cases q)
          rw [hE] at e3
          refine ⟨h', ?_, e2, e3⟩
          rw [← e1, e_M_fillsPlains_44]
          simp (disch := omega) only [M.K52, ↓bnd M.R20, M.K62, M.N62, ↓reduceIte, ↓Option.bind_some, if_true, if_false, true_and, and_true, and_self, true_or, or_true, false_or, or_false, not_true_eq_false, not_false_eq_true, Option.bind_some, somene, false_and, and_false, reduceCtorEq, Nat.reduceEqDiff, l0, l1, l4, q_sub, q_lt_f, q_in, q_cl, i4, hE, q_bi0, q_eq_f]
        · obtain ⟨h', e1, e2, e3⟩ := M_fp_b hn h1k h4 hk hH c (b + 1) h (by omega) I (skip ⟨hE, b0, b1⟩)
          rw [hE] at e3
          refine ⟨h', ?_, e2, e3⟩
          rw [← e1, e_M_fillsPlains_44]
          simp (disch := omega) only [M.K52, ↓bnd M.R20, M.K62, M.N62, ↓reduceIte, ↓Option.bind_some, if_true, if_false, true_and, and_true, and_self, true_or, or_true, false_or, or_false, not_true_eq_false, not_false_eq_true, Option.bind_some, somene, false_and, and_false, reduceCtorEq, Nat.reduceEqDiff, l0, l1, l4, q_sub, q_lt_f, q_in, q_cl, i4, hE, q_bi0, q_eq_f, Bool.true_eq_false, nI_add]
theorem M_fp_k (w : dW D) (hn : n ≤ 40) : ∀ (c k : Nat) (h : sk_H), k + c = 5 → 1 ≤ k → FI D n h → SnP h (pS (dH D) (dE D) n (pW (dH D) (dE D)) k 0) → ∃ h', k_M_fillsPlains_14 d (some 52) (nI n) (nI k) h = k_M_fillsPlains_2 d (some 52) (nI (n + 1)) (wI h' 67 n (nI (pW (dH D) (dE D) n))) ∧ Iq P66 h h'
  | 0, k, h, hk, h1, I, s => by
    obtain ⟨M, i3, i4, tb⟩ := id I
    have e : k = 5 := by omega
    subst e
    have lu := M_least_ok (d := d) M s (pW_is (dH D) (dE D) n) (pW_le (dH D) (dE D) hn)
    refine ⟨h, ?_, Iq.refl h⟩
    rw [e_M_fillsPlains_14]
    simp (disch := omega) only [M.K52, ↓bnd M.R28, M.K67, M.N67, ↓reduceIte, ↓Option.bind_some, if_true, if_false, true_and, and_true, and_self, true_or, or_true, false_or, or_false, not_true_eq_false, not_false_eq_true, Option.bind_some, somene, false_and, and_false, reduceCtorEq, Nat.reduceEqDiff, l4, q_lt_t, ↓bnd lu, q_in, q_cl, l1, nI_add]
  | c + 1, k, h, hk, h1, I, s => by
    obtain ⟨M, i3, i4, tb⟩ := id I
    by_cases hkn : n < k
    · have s2 : SnP h (pS (dH D) (dE D) n (pW (dH D) (dE D)) 5 0) := SnP_cg s (fun v _ => by
        constructor
        · rintro ⟨k', b', a1, a2, a3, a4, a5, a6, a7, a8⟩
          exact ⟨k', b', a1, a2, a3, a4, a5, a6, Or.inl (by omega), a8⟩
        · rintro ⟨k', b', a1, a2, a3, a4, a5, a6, a7, a8⟩
          exact ⟨k', b', a1, a2, a3, a4, a5, a6, Or.inl (by omega), a8⟩)
      have lu := M_least_ok (d := d) M s2 (pW_is (dH D) (dE D) n) (pW_le (dH D) (dE D) hn)
      refine ⟨h, ?_, Iq.refl h⟩
      rw [e_M_fillsPlains_14]
      simp (disch := omega) only [M.K52, ↓bnd M.R28, M.K67, M.N67, ↓reduceIte, ↓Option.bind_some, if_true, if_false, true_and, and_true, and_self, true_or, or_true, false_or, or_false, not_true_eq_false, not_false_eq_true, Option.bind_some, somene, false_and, and_false, reduceCtorEq, Nat.reduceEqDiff, l4, q_lt_t, q_lt_f, ↓bnd lu, q_in, q_cl, l1, nI_add]
    · have w3 := w.2.2.1
      have io : c_M_isOf d (hI h 62 (3 : Int32).toNatClampNeg) (nI k - (1 : Int32)) h = some (h, bi ((dH D).testBit (k - 1))) := by
        rw [show (3 : Int32).toNatClampNeg = 3 from nI_clamp (n := 3) (by omega), i3, l1, q_sub h1]
        exact M_isOf_ok d (by omega) (by omega) h
      cases hH : (dH D).testBit (k - 1)
      · rw [hH] at io
        obtain ⟨h', e1, e2⟩ := M_fp_k w hn c (k + 1) h (by omega) (by omega) I (SnP_cg s (fun v _ => by
          constructor
          · rintro ⟨k', b', a1, a2, a3, a4, a5, a6, a7, a8⟩
            exact ⟨k', b', a1, a2, a3, a4, a5, a6, Or.inl (by omega), a8⟩
          · rintro ⟨k', b', a1, a2, a3, a4, a5, a6, a7, a8⟩
            refine ⟨k', b', a1, a2, a3, a4, a5, a6, Or.inl ?_, a8⟩
            have : k' ≠ k := fun q => by rw [q, hH] at a4; cases a4
            omega))
        refine ⟨h', ?_, e2⟩
        rw [← e1, e_M_fillsPlains_14]
        simp (disch := omega) only [M.K52, ↓bnd M.R20, M.K62, M.N62, ↓reduceIte, ↓Option.bind_some, if_true, if_false, true_and, and_true, and_self, true_or, or_true, false_or, or_false, not_true_eq_false, not_false_eq_true, Option.bind_some, somene, false_and, and_false, reduceCtorEq, Nat.reduceEqDiff, l4, l3, q_lt_f, ↓bnd io, q_in, l0, l1, q_bi0, nI_add]
      · rw [hH] at io
        obtain ⟨hb, f1, f2, f3⟩ := M_fp_b (d := d) hn h1 (by omega) (by omega) hH (n - k + 1) 0 h (by omega) I s
        obtain ⟨h', e1, e2⟩ := M_fp_k w hn c (k + 1) hb (by omega) (by omega) (I.iq f2) f3
        refine ⟨h', ?_, f2.trans e2⟩
        rw [← e1, ← f1, e_M_fillsPlains_14]
        simp (disch := omega) only [M.K52, ↓bnd M.R20, M.K62, M.N62, ↓reduceIte, ↓Option.bind_some, if_true, if_false, true_and, and_true, and_self, true_or, or_true, false_or, or_false, not_true_eq_false, not_false_eq_true, Option.bind_some, somene, false_and, and_false, reduceCtorEq, Nat.reduceEqDiff, l4, l3, q_lt_f, ↓bnd io, q_in, l0, l1, q_bi0, Bool.true_eq_false]
theorem P66_KL {a i : Nat} (h : PKL a i = false) : P66 a i = false := by
  unfold PKL at h
  rw [Bool.or_eq_false_iff] at h
  exact h.1
theorem Iq.KL (Q : Iq P66 h h1) : Iq PKL h h1 := ⟨Q.1, Q.2.1, fun a i ha => Q.I (P66_KL ha)⟩
theorem M_fp_all (w : dW D) : ∀ (c n : Nat) (h : sk_H), n + c = 41 → FI D n h → ∃ h', k_M_fillsPlains_2 d (some 52) (nI n) h = some h' ∧ Iq PKL h h' ∧ ∀ i, i ≤ 40 → hI h' 67 i = nI (pW (dH D) (dE D) i)
  | 0, n, h, hn, I => by
    refine ⟨h, ?_, Iq.refl h, fun i hi => I.2.2.2 i (by omega)⟩
    rw [e_M_fillsPlains_2]
    simp (disch := omega) only [l40, q_lt_t, if_true]
  | c + 1, n, h, hn, I => by
    obtain ⟨h1, c1, c2, c3⟩ := M_clear_ok (d := d) I.1
    have I1 := I.iq c2
    obtain ⟨h2, f1, f2⟩ := M_fp_k (d := d) w (show n ≤ 40 by omega) 4 1 h1 (by omega) (by omega) I1 (SnP_cg c3 (fun v _ => ⟨fun q => q.elim, fun ⟨k', b', a1, a2, a3, a4, a5, a6, a7, a8⟩ => by omega⟩))
    have I2 := I1.iq f2
    obtain ⟨h', e1, e2, e3⟩ := M_fp_all w c (n + 1) (wI h2 67 n (nI (pW (dH D) (dE D) n))) (by omega) ⟨I2.1, by rw [hI_wI_n _ _ _ (by decide)]; exact I2.2.1, by rw [hI_wI_n _ _ _ (by decide)]; exact I2.2.2.1, fun i hi => by
      rw [hI_wI]
      by_cases q : i = n
      · rw [if_pos ⟨rfl, q⟩, q]
      · rw [if_neg (fun r => q r.2)]; exact I2.2.2.2 i (by omega)⟩
    refine ⟨h', ?_, ((c2.trans f2).KL.trans (Iq.w _ _ rfl)).trans e2, e3⟩
    rw [← e1, ← f1, e_M_fillsPlains_2]
    simp (disch := omega) only [l40, l1, q_lt_f, I.1.K52, ↓reduceIte, ↓Option.bind_some, if_true, if_false, true_and, and_true, and_self, true_or, or_true, false_or, or_false, not_true_eq_false, not_false_eq_true, Option.bind_some, somene, false_and, and_false, reduceCtorEq, Nat.reduceEqDiff, ↓bnd c1]
theorem PKL_M : ∀ a i, pM a i = false → PKL a i = false := by
  intro a i ha
  unfold PKL
  cases h1 : a == 66
  · cases h2 : a == 67
    · rfl
    · rw [eq_of_beq h2] at ha; cases ha
  · rw [eq_of_beq h1] at ha; cases ha
theorem M_fillsPlains_ok (I : MI D st h) (w : dW D) (X : MWon (dA D) h) : ∃ h', c_M_fillsPlains d (some 52) h = some h' ∧ Mq h h' ∧ MWon (dA D) h' ∧ MS 52 h' ∧ ∀ i, i ≤ 40 → hI h' 67 i = nI (pW (dH D) (dE D) i) := by
  obtain ⟨M, S, s8⟩ := I
  obtain ⟨h', e1, e2, e3⟩ := M_fp_all (d := d) w 41 0 h (by omega) ⟨M, S.2.2.1, S.2.2.2.1, fun i hi => absurd hi (by omega)⟩
  refine ⟨h', by rw [e_M_fillsPlains]; exact e1, e2.mq PKL_M, ?_, M.ir e2, e3⟩
  unfold MWon
  rw [e2.I rfl]
  rcases X with q | ⟨H, E, L, x1, x2, x3⟩
  · exact Or.inl q
  · exact Or.inr ⟨H, E, L, x1, x2, fun m hm => by rw [e2.I rfl]; exact x3 m hm⟩
theorem q_plain (a0 : Int32) : sk_Ag (JJ L xs) L xs 52 (fun h => c_SR_plain 40 (some 20) a0 h) (fun h => c_M_plain 40 (some 52) a0 h) := by
  refine Ag_of (fun j h F E J r s => ?_) (fun j h F E st tu pl a D c hj J hE Q => ?_)
  · have C := J.2.1
    have M := J.2.2.1
    refine ⟨nM, ?_, ?_⟩
    · show c_SR_plain 40 (some 20) a0 h = _
      rw [e_SR_plain]
      simp only [C.k20, C.k21, C.k22, C.k23, C.k24, C.k25, C.k26, C.k27, C.k28, C.k29, C.k30, C.k31, C.k32, C.k43, C.k44, C.k45, C.k46, C.k47, C.k48, C.k49, C.k50, C.k51, C.n21, C.n22, C.n24, C.n25, C.n26, C.n27, C.n29, C.n30, C.n31, C.n43, C.n44, C.n45, C.n46, C.n47, C.n48, C.n51, C.r20_0, C.r20_2, C.r20_4, C.r20_5, C.r20_6, C.r20_7, C.r20_8, C.r23_5, C.r23_6, C.r23_7, C.r28_0, C.r28_1, C.r28_2, C.r32_3, C.r32_4, C.r32_5, C.r32_6, C.r32_7, C.r32_8, C.r49_0, C.r50_0, ↓bnd C.r20_0, ↓bnd C.r20_2, ↓bnd C.r20_4, ↓bnd C.r20_5, ↓bnd C.r20_6, ↓bnd C.r20_7, ↓bnd C.r20_8, ↓bnd C.r23_5, ↓bnd C.r23_6, ↓bnd C.r23_7, ↓bnd C.r28_0, ↓bnd C.r28_1, ↓bnd C.r28_2, ↓bnd C.r32_3, ↓bnd C.r32_4, ↓bnd C.r32_5, ↓bnd C.r32_6, ↓bnd C.r32_7, ↓bnd C.r32_8, ↓bnd C.r49_0, ↓bnd C.r50_0, ↓reduceIte, ↓Option.bind_some, if_true, if_false, true_and, and_true, and_self, true_or, or_true, false_or, or_false, not_true_eq_false, not_false_eq_true, Option.bind_some, somene, false_and, and_false, reduceCtorEq, Nat.reduceEqDiff, r, lm1, l1]
    · show c_M_plain 40 (some 52) a0 h = _
      rw [e_M_plain]
      simp only [M.K52, ↓reduceIte, ↓Option.bind_some, if_true, if_false, true_and, and_true, and_self, true_or, or_true, false_or, or_false, not_true_eq_false, not_false_eq_true, Option.bind_some, somene, false_and, and_false, reduceCtorEq, Nat.reduceEqDiff, M_isAlley_0 M (s 0 (by omega)), lm1, l1, l0]
  · obtain ⟨C, M, hF, w, O, r, i, hst, T, S, s8, X⟩ := id Q
    have e10 : (nI 1 = nI 0) = False := eq_false (by decide)
    obtain ⟨b2, g1, g2, g3⟩ := M_in_n (d := 40) (h := h) 0 40 (by decide) (by decide) (l2 := 0) (h2 := 40) (by decide) (by decide) a0
    cases b2
    · refine ⟨h, h, nM, ?_, Cq.refl h, T, ?_, Mq.refl h, X⟩
      · show c_SR_plain 40 (some 20) a0 h = _
        rw [e_SR_plain]
        rcases i_cases a0 with hx | ⟨p, hp, hx⟩
        · simp only [C.k20, C.k21, C.k22, C.k23, C.k24, C.k25, C.k26, C.k27, C.k28, C.k29, C.k30, C.k31, C.k32, C.k43, C.k44, C.k45, C.k46, C.k47, C.k48, C.k49, C.k50, C.k51, C.n21, C.n22, C.n24, C.n25, C.n26, C.n27, C.n29, C.n30, C.n31, C.n43, C.n44, C.n45, C.n46, C.n47, C.n48, C.n51, C.r20_0, C.r20_2, C.r20_4, C.r20_5, C.r20_6, C.r20_7, C.r20_8, C.r23_5, C.r23_6, C.r23_7, C.r28_0, C.r28_1, C.r28_2, C.r32_3, C.r32_4, C.r32_5, C.r32_6, C.r32_7, C.r32_8, C.r49_0, C.r50_0, ↓bnd C.r20_0, ↓bnd C.r20_2, ↓bnd C.r20_4, ↓bnd C.r20_5, ↓bnd C.r20_6, ↓bnd C.r20_7, ↓bnd C.r20_8, ↓bnd C.r23_5, ↓bnd C.r23_6, ↓bnd C.r23_7, ↓bnd C.r28_0, ↓bnd C.r28_1, ↓bnd C.r28_2, ↓bnd C.r32_3, ↓bnd C.r32_4, ↓bnd C.r32_5, ↓bnd C.r32_6, ↓bnd C.r32_7, ↓bnd C.r32_8, ↓bnd C.r49_0, ↓bnd C.r50_0, ↓reduceIte, ↓Option.bind_some, if_true, if_false, true_and, and_true, and_self, true_or, or_true, false_or, or_false, not_true_eq_false, not_false_eq_true, Option.bind_some, somene, false_and, and_false, reduceCtorEq, Nat.reduceEqDiff, r, l0, l1, lm1, hx]
        · subst hx
          have hp1 : ¬ p ≤ 40 := fun q => g3 rfl p (by omega) q rfl
          simp (disch := omega) only [C.k20, C.k21, C.k22, C.k23, C.k24, C.k25, C.k26, C.k27, C.k28, C.k29, C.k30, C.k31, C.k32, C.k43, C.k44, C.k45, C.k46, C.k47, C.k48, C.k49, C.k50, C.k51, C.n21, C.n22, C.n24, C.n25, C.n26, C.n27, C.n29, C.n30, C.n31, C.n43, C.n44, C.n45, C.n46, C.n47, C.n48, C.n51, C.r20_0, C.r20_2, C.r20_4, C.r20_5, C.r20_6, C.r20_7, C.r20_8, C.r23_5, C.r23_6, C.r23_7, C.r28_0, C.r28_1, C.r28_2, C.r32_3, C.r32_4, C.r32_5, C.r32_6, C.r32_7, C.r32_8, C.r49_0, C.r50_0, ↓bnd C.r20_0, ↓bnd C.r20_2, ↓bnd C.r20_4, ↓bnd C.r20_5, ↓bnd C.r20_6, ↓bnd C.r20_7, ↓bnd C.r20_8, ↓bnd C.r23_5, ↓bnd C.r23_6, ↓bnd C.r23_7, ↓bnd C.r28_0, ↓bnd C.r28_1, ↓bnd C.r28_2, ↓bnd C.r32_3, ↓bnd C.r32_4, ↓bnd C.r32_5, ↓bnd C.r32_6, ↓bnd C.r32_7, ↓bnd C.r32_8, ↓bnd C.r49_0, ↓bnd C.r50_0, ↓reduceIte, ↓Option.bind_some, if_true, if_false, true_and, and_true, and_self, true_or, or_true, false_or, or_false, not_true_eq_false, not_false_eq_true, Option.bind_some, somene, false_and, and_false, reduceCtorEq, Nat.reduceEqDiff, r, l0, l1, l40, lm1, q_lt_f, q_le_f]
      · show c_M_plain 40 (some 52) a0 h = _
        rw [e_M_plain]
        simp only [M.K52, ↓reduceIte, ↓Option.bind_some, if_true, if_false, true_and, and_true, and_self, true_or, or_true, false_or, or_false, not_true_eq_false, not_false_eq_true, Option.bind_some, somene, false_and, and_false, reduceCtorEq, Nat.reduceEqDiff, ↓bnd (M_isAlley_1 M S.2.1), l0, l1, lm1, e10, ↓bnd g1, q_bi0]
    · obtain ⟨k, -, hk, rfl⟩ := g2 rfl
      obtain ⟨h2, e1, e2, e3, e4, e5⟩ := M_fillsPlains_ok (d := 40) ⟨M, S, s8⟩ w X
      have ev := e5 k hk
      obtain ⟨o1, o2, o3, o4, -, -, -, -, -, -, -, -, o16⟩ := id O
      have r16 := O.r (j := 16) (by omega) (by omega)
      have ew := o16.2.2 k hk
      refine ⟨h, h2, nI (pW (dH D) (dE D) k), ?_, Cq.refl h, T, ?_, e2, e3⟩
      · show c_SR_plain 40 (some 20) (nI k) h = _
        rw [e_SR_plain]
        simp (disch := omega) only [C.k20, C.k21, C.k22, C.k23, C.k24, C.k25, C.k26, C.k27, C.k28, C.k29, C.k30, C.k31, C.k32, C.k43, C.k44, C.k45, C.k46, C.k47, C.k48, C.k49, C.k50, C.k51, C.n21, C.n22, C.n24, C.n25, C.n26, C.n27, C.n29, C.n30, C.n31, C.n43, C.n44, C.n45, C.n46, C.n47, C.n48, C.n51, C.r20_0, C.r20_2, C.r20_4, C.r20_5, C.r20_6, C.r20_7, C.r20_8, C.r23_5, C.r23_6, C.r23_7, C.r28_0, C.r28_1, C.r28_2, C.r32_3, C.r32_4, C.r32_5, C.r32_6, C.r32_7, C.r32_8, C.r49_0, C.r50_0, ↓bnd C.r20_0, ↓bnd C.r20_2, ↓bnd C.r20_4, ↓bnd C.r20_5, ↓bnd C.r20_6, ↓bnd C.r20_7, ↓bnd C.r20_8, ↓bnd C.r23_5, ↓bnd C.r23_6, ↓bnd C.r23_7, ↓bnd C.r28_0, ↓bnd C.r28_1, ↓bnd C.r28_2, ↓bnd C.r32_3, ↓bnd C.r32_4, ↓bnd C.r32_5, ↓bnd C.r32_6, ↓bnd C.r32_7, ↓bnd C.r32_8, ↓bnd C.r49_0, ↓bnd C.r50_0, ↓reduceIte, ↓Option.bind_some, if_true, if_false, true_and, and_true, and_self, true_or, or_true, false_or, or_false, not_true_eq_false, not_false_eq_true, Option.bind_some, somene, false_and, and_false, reduceCtorEq, Nat.reduceEqDiff, r, l0, l40, q_lt_f, q_le_t, o2, r16, o16.1, o16.2.1, q_in, q_cl, ew]
      · show c_M_plain 40 (some 52) (nI k) h = _
        rw [e_M_plain]
        simp (disch := omega) only [M.K52, ↓reduceIte, ↓Option.bind_some, if_true, if_false, true_and, and_true, and_self, true_or, or_true, false_or, or_false, not_true_eq_false, not_false_eq_true, Option.bind_some, somene, false_and, and_false, reduceCtorEq, Nat.reduceEqDiff, ↓bnd (M_isAlley_1 M S.2.1), l0, l1, lm1, e10, ↓bnd g1, q_bi0, Bool.true_eq_false, ↓bnd e1, e4.K52, ↓bnd e4.R28, e4.K67, e4.N67, q_in, q_cl, ev]
/-! again -/
def mfG (W : Nat → Nat) (s : Nat) : Nat → Nat
  | 0 => 0
  | f + 1 => if W f = W (f + s) then mfG W s f else f + 1
def cAg (W : Nat → Nat) (s n : Nat) : Prop := ∀ i, n ≤ i → i + s ≤ 40 → W i = W (i + s)
theorem mfG_le (W : Nat → Nat) (s : Nat) : ∀ f, mfG W s f ≤ f
  | 0 => Nat.le_refl 0
  | f + 1 => by
    unfold mfG
    split
    · have := mfG_le W s f; omega
    · exact Nat.le_refl _
theorem mfG_ok (W : Nat → Nat) (s : Nat) : ∀ f, f + s ≤ 41 → cAg W s f → cAg W s (mfG W s f) ∧ ∀ n, n < mfG W s f → ¬ cAg W s n
  | 0, _, h => ⟨h, fun n hn => absurd hn (Nat.not_lt_zero n)⟩
  | f + 1, hf, h => by
    unfold mfG
    by_cases q : W f = W (f + s)
    · rw [if_pos q]
      refine mfG_ok W s f (by omega) (fun i hi hs => ?_)
      rcases (show i = f ∨ f + 1 ≤ i by omega) with r | r
      · rw [r]; exact q
      · exact h i r hs
    · rw [if_neg q]
      exact ⟨h, fun n hn hc => q (hc f (by omega) (by omega))⟩
def mF (W : Nat → Nat) (s : Nat) : Nat := mfG W s (41 - s)
theorem mF_ok (W : Nat → Nat) {s : Nat} (h : s ≤ 20) : cAg W s (mF W s) ∧ ∀ n, n < mF W s → ¬ cAg W s n := mfG_ok W s (41 - s) (by omega) (fun i h1 h2 => by omega)
def agV (W : Nat → Nat) (x : Nat) : Nat → Nat → Int32
  | 0, _ => nM2
  | c + 1, s => if mF W s + 2 * s ≤ 40 then (if x = 0 then nI s else nI (mF W s)) else agV W x c (s + 1)
theorem Al_sF (O : AOc F h a D c) {s : Nat} (h1 : 1 ≤ s) (hs : s ≤ 20) : ∀ f, f + s ≤ 41 → k_Al_sameFrom_5 d (some a) (nI s) (nI f) h = some (h, if mfG (pW (dH D) (dE D)) s f + 2 * s ≤ 40 then nI (mfG (pW (dH D) (dE D)) s f) else nM) := by
  obtain ⟨o1, o2, o3, o4, -, -, -, -, -, -, -, -, o16⟩ := id O
  have r16 := O.r (j := 16) (by omega) (by omega)
  intro f
  induction f with
  | zero =>
    intro hf
    rw [e_Al_sameFrom_5]
    have e : mfG (pW (dH D) (dE D)) s 0 = 0 := rfl
    rw [e]
    by_cases q : 0 + 2 * s ≤ 40
    · simp (disch := omega) only [↓reduceIte, ↓Option.bind_some, if_true, if_false, true_and, and_true, and_self, true_or, or_true, false_or, or_false, not_true_eq_false, not_false_eq_true, Option.bind_some, somene, false_and, and_false, reduceCtorEq, Nat.reduceEqDiff, l0, l2, l40, q_le_t, pk_mul, nI_add, q_lt_f, q]
    · simp (disch := omega) only [↓reduceIte, ↓Option.bind_some, if_true, if_false, true_and, and_true, and_self, true_or, or_true, false_or, or_false, not_true_eq_false, not_false_eq_true, Option.bind_some, somene, false_and, and_false, reduceCtorEq, Nat.reduceEqDiff, l0, l1, l2, l40, lm1, q_le_t, pk_mul, nI_add, q_lt_t, q]
  | succ f ih =>
    intro hf
    have w1 := o16.2.2 f (by omega)
    have w2 := o16.2.2 (f + s) (by omega)
    have b1 := pW_le (dH D) (dE D) (n := f) (by omega)
    have b2 := pW_le (dH D) (dE D) (n := f + s) (by omega)
    rw [e_Al_sameFrom_5]
    have e5 : nI (f + 1) + (-1) = nI f := pk_m1 f
    have e6 : nI (f + 1) - nI 1 = nI f := by rw [q_sub (by omega)]; rfl
    unfold mfG
    by_cases q : pW (dH D) (dE D) f = pW (dH D) (dE D) (f + s)
    · rw [if_pos q, ← ih (by omega), e5]
      rw [← q] at w2
      simp (disch := omega) only [↓reduceIte, ↓Option.bind_some, if_true, if_false, true_and, and_true, and_self, true_or, or_true, false_or, or_false, not_true_eq_false, not_false_eq_true, Option.bind_some, somene, false_and, and_false, reduceCtorEq, Nat.reduceEqDiff, l0, l1, q_le_f, e6, nI_add, o2, ↓bnd r16, o16.1, o16.2.1, q_in, q_cl, w1, w2]
    · rw [if_neg q]
      by_cases q2 : f + 1 + 2 * s ≤ 40
      · simp (disch := omega) only [↓reduceIte, ↓Option.bind_some, if_true, if_false, true_and, and_true, and_self, true_or, or_true, false_or, or_false, not_true_eq_false, not_false_eq_true, Option.bind_some, somene, false_and, and_false, reduceCtorEq, Nat.reduceEqDiff, l0, l1, l2, l40, lm1, q_le_f, e6, nI_add, pk_mul, o2, ↓bnd r16, o16.1, o16.2.1, q_in, q_cl, w1, w2, q_eq_f, q_lt_f, q2]
      · simp (disch := omega) only [↓reduceIte, ↓Option.bind_some, if_true, if_false, true_and, and_true, and_self, true_or, or_true, false_or, or_false, not_true_eq_false, not_false_eq_true, Option.bind_some, somene, false_and, and_false, reduceCtorEq, Nat.reduceEqDiff, l0, l1, l2, l40, lm1, q_le_f, e6, nI_add, pk_mul, o2, ↓bnd r16, o16.1, o16.2.1, q_in, q_cl, w1, w2, q_eq_f, q_lt_t, q2]
theorem SR_ag (C : CS h) (O : AOc F h a D c) (r : hR h 23 0 = some a) {x : Nat} (hx : x ≤ 1) : ∀ (c s : Nat), s + c = 21 → 1 ≤ s → k_SR_again_23 d (some 20) (nI x) (nI s) h = some (h, agV (pW (dH D) (dE D)) x c s)
  | 0, s, hs, h1 => by
    rw [e_SR_again_23]
    simp (disch := omega) only [↓reduceIte, ↓Option.bind_some, if_true, if_false, true_and, and_true, and_self, true_or, or_true, false_or, or_false, not_true_eq_false, not_false_eq_true, Option.bind_some, somene, false_and, and_false, reduceCtorEq, Nat.reduceEqDiff, l20, l2, lm2, q_lt_t]
    rfl
  | c + 1, s, hs, h1 => by
    have ih := SR_ag C O r hx c (s + 1) (by omega) (by omega)
    have sf : c_Al_sameFrom d (hR h 23 0) (nI s) h = some (h, if mF (pW (dH D) (dE D)) s + 2 * s ≤ 40 then nI (mF (pW (dH D) (dE D)) s) else nM) := by
      have l41' : (41 : Int32) = nI 41 := rfl
      rw [r, e_Al_sameFrom, l41', q_sub (by omega)]
      exact Al_sF O h1 (by omega) (41 - s) (by omega)
    have hm := mfG_le (pW (dH D) (dE D)) s (41 - s)
    have hm2 : mF (pW (dH D) (dE D)) s ≤ 41 - s := hm
    rw [e_SR_again_23]
    unfold agV
    by_cases q : mF (pW (dH D) (dE D)) s + 2 * s ≤ 40
    · rw [if_pos q] at sf
      rw [if_pos q]
      by_cases x0 : x = 0
      · subst x0
        simp (disch := omega) only [C.k20, C.k23, ↓bnd C.r20_4, ↓bnd r, O.k, ↓bnd sf, ↓reduceIte, ↓Option.bind_some, if_true, if_false, true_and, and_true, and_self, true_or, or_true, false_or, or_false, not_true_eq_false, not_false_eq_true, Option.bind_some, somene, false_and, and_false, reduceCtorEq, Nat.reduceEqDiff, l20, l0, l1, lm1, q_lt_f, q_m1]
      · rw [if_neg x0]
        simp (disch := omega) only [C.k20, C.k23, ↓bnd C.r20_4, ↓bnd r, O.k, ↓bnd sf, ↓reduceIte, ↓Option.bind_some, if_true, if_false, true_and, and_true, and_self, true_or, or_true, false_or, or_false, not_true_eq_false, not_false_eq_true, Option.bind_some, somene, false_and, and_false, reduceCtorEq, Nat.reduceEqDiff, l20, l0, l1, lm1, q_lt_f, q_m1, q_eq_f]
    · rw [if_neg q] at sf
      rw [if_neg q, ← ih]
      simp (disch := omega) only [C.k20, C.k23, ↓bnd C.r20_4, ↓bnd r, O.k, ↓bnd sf, ↓reduceIte, ↓Option.bind_some, if_true, if_false, true_and, and_true, and_self, true_or, or_true, false_or, or_false, not_true_eq_false, not_false_eq_true, Option.bind_some, somene, false_and, and_false, reduceCtorEq, Nat.reduceEqDiff, l20, l1, lm1, q_lt_f, nI_add]
theorem M_ca (M : MS 52 h) {W : Nat → Nat} (hW : ∀ i, i ≤ 40 → hI h 67 i = nI (W i) ∧ W i < 256) {s : Nat} (hs : s ≤ 20) : ∀ (c n : Nat), n + c = 41 - s → ∃ b : Bool, k_M_comesAgain_2 d (some 52) (nI s) (nI n) h = some (h, bi b) ∧ (b = true ↔ cAg W s n)
  | 0, n, hn => by
    refine ⟨true, ?_, ⟨fun _ i h1 h2 => by omega, fun _ => rfl⟩⟩
    rw [e_M_comesAgain_2]
    simp (disch := omega) only [l40, l1, nI_add, q_lt_t, if_true]
    rfl
  | c + 1, n, hn => by
    obtain ⟨b, e1, e2⟩ := M_ca M hW hs c (n + 1) (by omega)
    obtain ⟨w1, w1b⟩ := hW n (by omega)
    obtain ⟨w2, w2b⟩ := hW (n + s) (by omega)
    by_cases q : W n = W (n + s)
    · refine ⟨b, ?_, ?_⟩
      · rw [← e1, e_M_comesAgain_2]
        rw [← q] at w2
        simp (disch := omega) only [M.K52, ↓bnd M.R28, M.K67, M.N67, ↓reduceIte, ↓Option.bind_some, if_true, if_false, true_and, and_true, and_self, true_or, or_true, false_or, or_false, not_true_eq_false, not_false_eq_true, Option.bind_some, somene, false_and, and_false, reduceCtorEq, Nat.reduceEqDiff, l40, l1, nI_add, q_lt_f, q_in, q_cl, w1, w2]
      · rw [e2]
        constructor
        · intro h3 i h1 h2
          rcases (show i = n ∨ n + 1 ≤ i by omega) with r | r
          · rw [r]; exact q
          · exact h3 i r h2
        · intro h3 i h1 h2
          exact h3 i (by omega) h2
    · refine ⟨false, ?_, ⟨fun h3 => (by cases h3), fun h3 => absurd (h3 n (by omega) (by omega)) q⟩⟩
      rw [e_M_comesAgain_2]
      simp (disch := omega) only [M.K52, ↓bnd M.R28, M.K67, M.N67, ↓reduceIte, ↓Option.bind_some, if_true, if_false, true_and, and_true, and_self, true_or, or_true, false_or, or_false, not_true_eq_false, not_false_eq_true, Option.bind_some, somene, false_and, and_false, reduceCtorEq, Nat.reduceEqDiff, l40, l1, l0, nI_add, q_lt_f, q_in, q_cl, w1, w2, q_eq_f]
      rfl
theorem M_ag_n (M : MS 52 h) {W : Nat → Nat} (hW : ∀ i, i ≤ 40 → hI h 67 i = nI (W i) ∧ W i < 256) {s x : Nat} (hx : x ≤ 1) (h1 : 1 ≤ s) (hs : s ≤ 20) {v : Int32} (ih : k_M_again_25 d (some 52) (nI x) (nI (s + 1)) h = some (h, v)) : ∀ (c n : Nat), n + c = 41 - 2 * s → n ≤ mF W s → k_M_again_33 d (some 52) (nI x) (nI s) (nI n) h = some (h, if mF W s + 2 * s ≤ 40 then (if x = 0 then nI s else nI (mF W s)) else v)
  | 0, n, hn, hm => by
    rw [if_neg (by omega), ← ih, e_M_again_33]
    simp (disch := omega) only [l40, l1, l2, pk_mul, nI_add, q_lt_t, if_true]
  | c + 1, n, hn, hm => by
    obtain ⟨b, e1, e2⟩ := M_ca (d := d) M hW hs (41 - s - n) n (by omega)
    have ca : c_M_comesAgain d (some 52) (nI s) (nI n) h = some (h, bi b) := by rw [e_M_comesAgain]; exact e1
    obtain ⟨m1, m2⟩ := mF_ok W hs
    cases b
    · have hne : n ≠ mF W s := fun q => by rw [← q] at m1; exact absurd (e2.mpr m1) (by decide)
      rw [← M_ag_n M hW hx h1 hs ih c (n + 1) (by omega) (by omega), e_M_again_33]
      simp (disch := omega) only [M.K52, ↓bnd ca, ↓reduceIte, ↓Option.bind_some, if_true, if_false, true_and, and_true, and_self, true_or, or_true, false_or, or_false, not_true_eq_false, not_false_eq_true, Option.bind_some, somene, false_and, and_false, reduceCtorEq, Nat.reduceEqDiff, l40, l0, l1, l2, pk_mul, nI_add, q_lt_f, q_bi0]
    · have he : n = mF W s := by
        rcases Nat.lt_or_ge n (mF W s) with q | q
        · exact absurd (e2.mp rfl) (m2 n q)
        · omega
      rw [if_pos (by omega), ← he, e_M_again_33]
      by_cases x0 : x = 0
      · subst x0
        simp (disch := omega) only [M.K52, ↓bnd ca, ↓reduceIte, ↓Option.bind_some, if_true, if_false, true_and, and_true, and_self, true_or, or_true, false_or, or_false, not_true_eq_false, not_false_eq_true, Option.bind_some, somene, false_and, and_false, reduceCtorEq, Nat.reduceEqDiff, l40, l0, l1, l2, pk_mul, nI_add, q_lt_f, q_bi0, Bool.true_eq_false]
      · rw [if_neg x0]
        simp (disch := omega) only [M.K52, ↓bnd ca, ↓reduceIte, ↓Option.bind_some, if_true, if_false, true_and, and_true, and_self, true_or, or_true, false_or, or_false, not_true_eq_false, not_false_eq_true, Option.bind_some, somene, false_and, and_false, reduceCtorEq, Nat.reduceEqDiff, l40, l0, l1, l2, pk_mul, nI_add, q_lt_f, q_bi0, Bool.true_eq_false, q_eq_f]
theorem M_ag (M : MS 52 h) {W : Nat → Nat} (hW : ∀ i, i ≤ 40 → hI h 67 i = nI (W i) ∧ W i < 256) {x : Nat} (hx : x ≤ 1) : ∀ (c s : Nat), s + c = 21 → 1 ≤ s → k_M_again_25 d (some 52) (nI x) (nI s) h = some (h, agV W x c s)
  | 0, s, hs, h1 => by
    rw [e_M_again_25]
    simp (disch := omega) only [↓reduceIte, ↓Option.bind_some, if_true, if_false, true_and, and_true, and_self, true_or, or_true, false_or, or_false, not_true_eq_false, not_false_eq_true, Option.bind_some, somene, false_and, and_false, reduceCtorEq, Nat.reduceEqDiff, l20, l2, lm2, q_lt_t]
    rfl
  | c + 1, s, hs, h1 => by
    have ih := M_ag M hW hx c (s + 1) (by omega) (by omega)
    have e := M_ag_n M hW hx h1 (by omega) ih (41 - 2 * s) 0 (by omega) (by omega)
    rw [e_M_again_25]
    simp (disch := omega) only [l20, q_lt_f, if_false, l0]
    rw [e]
    rfl
theorem q_again (a0 : Int32) : sk_Ag (JJ L xs) L xs 52 (fun h => c_SR_again 40 (some 20) a0 h) (fun h => c_M_again 40 (some 52) a0 h) := by
  refine Ag_of (fun j h F E J r s => ?_) (fun j h F E st tu pl a D c hj J hE Q => ?_)
  · have C := J.2.1
    have M := J.2.2.1
    refine ⟨nM, ?_, ?_⟩
    · show c_SR_again 40 (some 20) a0 h = _
      rw [e_SR_again]
      simp only [C.k20, C.k21, C.k22, C.k23, C.k24, C.k25, C.k26, C.k27, C.k28, C.k29, C.k30, C.k31, C.k32, C.k43, C.k44, C.k45, C.k46, C.k47, C.k48, C.k49, C.k50, C.k51, C.n21, C.n22, C.n24, C.n25, C.n26, C.n27, C.n29, C.n30, C.n31, C.n43, C.n44, C.n45, C.n46, C.n47, C.n48, C.n51, C.r20_0, C.r20_2, C.r20_4, C.r20_5, C.r20_6, C.r20_7, C.r20_8, C.r23_5, C.r23_6, C.r23_7, C.r28_0, C.r28_1, C.r28_2, C.r32_3, C.r32_4, C.r32_5, C.r32_6, C.r32_7, C.r32_8, C.r49_0, C.r50_0, ↓bnd C.r20_0, ↓bnd C.r20_2, ↓bnd C.r20_4, ↓bnd C.r20_5, ↓bnd C.r20_6, ↓bnd C.r20_7, ↓bnd C.r20_8, ↓bnd C.r23_5, ↓bnd C.r23_6, ↓bnd C.r23_7, ↓bnd C.r28_0, ↓bnd C.r28_1, ↓bnd C.r28_2, ↓bnd C.r32_3, ↓bnd C.r32_4, ↓bnd C.r32_5, ↓bnd C.r32_6, ↓bnd C.r32_7, ↓bnd C.r32_8, ↓bnd C.r49_0, ↓bnd C.r50_0, ↓reduceIte, ↓Option.bind_some, if_true, if_false, true_and, and_true, and_self, true_or, or_true, false_or, or_false, not_true_eq_false, not_false_eq_true, Option.bind_some, somene, false_and, and_false, reduceCtorEq, Nat.reduceEqDiff, r, lm1, l1]
    · show c_M_again 40 (some 52) a0 h = _
      rw [e_M_again]
      simp only [M.K52, ↓reduceIte, ↓Option.bind_some, if_true, if_false, true_and, and_true, and_self, true_or, or_true, false_or, or_false, not_true_eq_false, not_false_eq_true, Option.bind_some, somene, false_and, and_false, reduceCtorEq, Nat.reduceEqDiff, M_isAlley_0 M (s 0 (by omega)), lm1, l1, l0]
  · obtain ⟨C, M, hF, w, O, r, i, hst, T, S, s8, X⟩ := id Q
    have e10 : (nI 1 = nI 0) = False := eq_false (by decide)
    obtain ⟨b2, g1, g2, g3⟩ := M_in_n (d := 40) (h := h) 0 1 (by decide) (by decide) (l2 := 0) (h2 := 1) (by decide) (by decide) a0
    cases b2
    · refine ⟨h, h, nM, ?_, Cq.refl h, T, ?_, Mq.refl h, X⟩
      · show c_SR_again 40 (some 20) a0 h = _
        rw [e_SR_again]
        rcases i_cases a0 with hx | ⟨p, hp, hx⟩
        · simp only [C.k20, C.k21, C.k22, C.k23, C.k24, C.k25, C.k26, C.k27, C.k28, C.k29, C.k30, C.k31, C.k32, C.k43, C.k44, C.k45, C.k46, C.k47, C.k48, C.k49, C.k50, C.k51, C.n21, C.n22, C.n24, C.n25, C.n26, C.n27, C.n29, C.n30, C.n31, C.n43, C.n44, C.n45, C.n46, C.n47, C.n48, C.n51, C.r20_0, C.r20_2, C.r20_4, C.r20_5, C.r20_6, C.r20_7, C.r20_8, C.r23_5, C.r23_6, C.r23_7, C.r28_0, C.r28_1, C.r28_2, C.r32_3, C.r32_4, C.r32_5, C.r32_6, C.r32_7, C.r32_8, C.r49_0, C.r50_0, ↓bnd C.r20_0, ↓bnd C.r20_2, ↓bnd C.r20_4, ↓bnd C.r20_5, ↓bnd C.r20_6, ↓bnd C.r20_7, ↓bnd C.r20_8, ↓bnd C.r23_5, ↓bnd C.r23_6, ↓bnd C.r23_7, ↓bnd C.r28_0, ↓bnd C.r28_1, ↓bnd C.r28_2, ↓bnd C.r32_3, ↓bnd C.r32_4, ↓bnd C.r32_5, ↓bnd C.r32_6, ↓bnd C.r32_7, ↓bnd C.r32_8, ↓bnd C.r49_0, ↓bnd C.r50_0, ↓reduceIte, ↓Option.bind_some, if_true, if_false, true_and, and_true, and_self, true_or, or_true, false_or, or_false, not_true_eq_false, not_false_eq_true, Option.bind_some, somene, false_and, and_false, reduceCtorEq, Nat.reduceEqDiff, r, l0, l1, lm1, hx]
        · subst hx
          have hp1 : ¬ p ≤ 1 := fun q => g3 rfl p (by omega) q rfl
          simp (disch := omega) only [C.k20, C.k21, C.k22, C.k23, C.k24, C.k25, C.k26, C.k27, C.k28, C.k29, C.k30, C.k31, C.k32, C.k43, C.k44, C.k45, C.k46, C.k47, C.k48, C.k49, C.k50, C.k51, C.n21, C.n22, C.n24, C.n25, C.n26, C.n27, C.n29, C.n30, C.n31, C.n43, C.n44, C.n45, C.n46, C.n47, C.n48, C.n51, C.r20_0, C.r20_2, C.r20_4, C.r20_5, C.r20_6, C.r20_7, C.r20_8, C.r23_5, C.r23_6, C.r23_7, C.r28_0, C.r28_1, C.r28_2, C.r32_3, C.r32_4, C.r32_5, C.r32_6, C.r32_7, C.r32_8, C.r49_0, C.r50_0, ↓bnd C.r20_0, ↓bnd C.r20_2, ↓bnd C.r20_4, ↓bnd C.r20_5, ↓bnd C.r20_6, ↓bnd C.r20_7, ↓bnd C.r20_8, ↓bnd C.r23_5, ↓bnd C.r23_6, ↓bnd C.r23_7, ↓bnd C.r28_0, ↓bnd C.r28_1, ↓bnd C.r28_2, ↓bnd C.r32_3, ↓bnd C.r32_4, ↓bnd C.r32_5, ↓bnd C.r32_6, ↓bnd C.r32_7, ↓bnd C.r32_8, ↓bnd C.r49_0, ↓bnd C.r50_0, ↓reduceIte, ↓Option.bind_some, if_true, if_false, true_and, and_true, and_self, true_or, or_true, false_or, or_false, not_true_eq_false, not_false_eq_true, Option.bind_some, somene, false_and, and_false, reduceCtorEq, Nat.reduceEqDiff, r, l0, l1, lm1, q_lt_f, q_le_f]
      · show c_M_again 40 (some 52) a0 h = _
        rw [e_M_again]
        simp only [M.K52, ↓reduceIte, ↓Option.bind_some, if_true, if_false, true_and, and_true, and_self, true_or, or_true, false_or, or_false, not_true_eq_false, not_false_eq_true, Option.bind_some, somene, false_and, and_false, reduceCtorEq, Nat.reduceEqDiff, ↓bnd (M_isAlley_1 M S.2.1), l0, l1, lm1, e10, ↓bnd g1, q_bi0]
    · obtain ⟨k, -, hk, rfl⟩ := g2 rfl
      obtain ⟨h2, e1, e2, e3, e4, e5⟩ := M_fillsPlains_ok (d := 40) ⟨M, S, s8⟩ w X
      have cs := SR_ag (d := 40) C O r hk 20 1 (by omega) (by omega)
      have ms := M_ag (d := 40) e4 (W := pW (dH D) (dE D)) (fun i hi => ⟨e5 i hi, pW_le _ _ hi⟩) hk 20 1 (by omega) (by omega)
      refine ⟨h, h2, agV (pW (dH D) (dE D)) k 20 1, ?_, Cq.refl h, T, ?_, e2, e3⟩
      · show c_SR_again 40 (some 20) (nI k) h = _
        rw [e_SR_again, ← cs]
        simp (disch := omega) only [C.k20, C.k21, C.k22, C.k23, C.k24, C.k25, C.k26, C.k27, C.k28, C.k29, C.k30, C.k31, C.k32, C.k43, C.k44, C.k45, C.k46, C.k47, C.k48, C.k49, C.k50, C.k51, C.n21, C.n22, C.n24, C.n25, C.n26, C.n27, C.n29, C.n30, C.n31, C.n43, C.n44, C.n45, C.n46, C.n47, C.n48, C.n51, C.r20_0, C.r20_2, C.r20_4, C.r20_5, C.r20_6, C.r20_7, C.r20_8, C.r23_5, C.r23_6, C.r23_7, C.r28_0, C.r28_1, C.r28_2, C.r32_3, C.r32_4, C.r32_5, C.r32_6, C.r32_7, C.r32_8, C.r49_0, C.r50_0, ↓bnd C.r20_0, ↓bnd C.r20_2, ↓bnd C.r20_4, ↓bnd C.r20_5, ↓bnd C.r20_6, ↓bnd C.r20_7, ↓bnd C.r20_8, ↓bnd C.r23_5, ↓bnd C.r23_6, ↓bnd C.r23_7, ↓bnd C.r28_0, ↓bnd C.r28_1, ↓bnd C.r28_2, ↓bnd C.r32_3, ↓bnd C.r32_4, ↓bnd C.r32_5, ↓bnd C.r32_6, ↓bnd C.r32_7, ↓bnd C.r32_8, ↓bnd C.r49_0, ↓bnd C.r50_0, ↓reduceIte, ↓Option.bind_some, if_true, if_false, true_and, and_true, and_self, true_or, or_true, false_or, or_false, not_true_eq_false, not_false_eq_true, Option.bind_some, somene, false_and, and_false, reduceCtorEq, Nat.reduceEqDiff, r, l0, l1, q_lt_f, q_le_t]
      · show c_M_again 40 (some 52) (nI k) h = _
        rw [e_M_again, ← ms]
        simp (disch := omega) only [M.K52, ↓reduceIte, ↓Option.bind_some, if_true, if_false, true_and, and_true, and_self, true_or, or_true, false_or, or_false, not_true_eq_false, not_false_eq_true, Option.bind_some, somene, false_and, and_false, reduceCtorEq, Nat.reduceEqDiff, ↓bnd (M_isAlley_1 M S.2.1), l0, l1, lm1, e10, ↓bnd g1, q_bi0, Bool.true_eq_false, ↓bnd e1]
end SkPlain
