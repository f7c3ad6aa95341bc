/-! ===== what a row is worth: runs side by side (lists) ===== -/
theorem lt_bit {a b j : Nat} (ha : a.testBit j = true) (hb : b.testBit j = false) (he : ∀ i, j < i → a.testBit i = b.testBit i) : b < a := by
  have e : a / 2 ^ (j + 1) = b / 2 ^ (j + 1) := Nat.eq_of_testBit_eq fun i => by
    rw [Nat.testBit_div_two_pow, Nat.testBit_div_two_pow]
    exact he _ (by omega)
  rw [Nat.testBit_eq_decide_div_mod_eq] at ha hb
  have ha := of_decide_eq_true ha
  have hb : ¬ b / 2 ^ j % 2 = 1 := of_decide_eq_false hb
  rw [Nat.pow_succ, ← Nat.div_div_eq_div_mul, ← Nat.div_div_eq_div_mul] at e
  have h2 : b / 2 ^ j < a / 2 ^ j := by omega
  rcases Nat.lt_or_ge b a with q | q
  · exact q
  · exact absurd (Nat.div_le_div_right (c := 2 ^ j) q) (by omega)
theorem top_bit : ∀ (N a b : Nat), a < 2 ^ N → b < a → ∃ j, a.testBit j = true ∧ b.testBit j = false ∧ ∀ i, j < i → a.testBit i = b.testBit i
  | 0, a, b, ha, hb => by
    have : a = 0 := by omega
    omega
  | N + 1, a, b, ha, hb => by
    have hi : ∀ x, x < 2 ^ (N + 1) → ∀ i, N < i → x.testBit i = false := fun x hx i hi => Nat.testBit_lt_two_pow (Nat.lt_of_lt_of_le hx (Nat.pow_le_pow_right (by omega) hi))
    have hp := Nat.pow_succ (n := 2) (m := N)
    by_cases q : 2 ^ N ≤ b
    · have h1 : a - 2 ^ N < 2 ^ N := by omega
      obtain ⟨j, j1, j2, j3⟩ := top_bit N (a - 2 ^ N) (b - 2 ^ N) h1 (by omega)
      have ea : a = 2 ^ N + (a - 2 ^ N) := by omega
      have eb : b = 2 ^ N + (b - 2 ^ N) := by omega
      have jl : j < N := by
        rcases Nat.lt_or_ge j N with r | r
        · exact r
        · rw [Nat.testBit_lt_two_pow (Nat.lt_of_lt_of_le h1 (Nat.pow_le_pow_right (by omega) r))] at j1
          cases j1
      have key : ∀ x, x < 2 ^ N → ∀ i, (2 ^ N + x).testBit i = if i < N then x.testBit i else decide (i = N) := fun x hx i => by
        have := Nat.testBit_two_pow_mul_add (a := 1) hx i
        rw [Nat.mul_one] at this
        rw [this]
        by_cases r : i < N
        · rw [if_pos r, if_pos r]
        · rw [if_neg r, if_neg r]
          by_cases r2 : i = N
          · subst r2; simp
          · rw [decide_eq_false r2, show (1 : Nat) = 2 ^ 1 - 1 from rfl, Nat.testBit_two_pow_sub_one]
            exact decide_eq_false (by omega)
      refine ⟨j, ?_, ?_, fun i hi => ?_⟩
      · rw [ea, key _ h1, if_pos jl]; exact j1
      · rw [eb, key _ (by omega), if_pos jl]; exact j2
      · rw [ea, eb, key _ h1, key _ (by omega)]
        by_cases r : i < N
        · rw [if_pos r, if_pos r]; exact j3 i hi
        · rw [if_neg r, if_neg r]
    · by_cases q2 : 2 ^ N ≤ a
      · refine ⟨N, ?_, Nat.testBit_lt_two_pow (by omega), fun i hi2 => by rw [hi a ha i hi2, hi b (by omega) i hi2]⟩
        rw [Nat.testBit_eq_decide_div_mod_eq]
        refine decide_eq_true ?_
        have : a / 2 ^ N = 1 := by
          refine Nat.div_eq_of_lt_le ?_ ?_ <;> omega
        rw [this]
      · exact top_bit N a b (by omega) hb
def lead : List Bool → Nat
  | true :: l => lead l + 1
  | _ => 0
def lvW (W : Nat → Nat) : List Bool → Nat → Nat
  | [], r => W r
  | true :: l, r => lvW W l (r + 1)
  | false :: l, r => W r ^^^ lvW W l 0
def post (W : Nat → Nat) : List Bool → Nat
  | [] => 0
  | true :: l => post W l
  | false :: l => W (lead l) ^^^ post W l
def sf : List Bool → Nat → Nat
  | [], r => r
  | true :: l, r => sf l (r + 1)
  | false :: l, _ => sf l 0
def pr (W : Nat → Nat) : List Bool → Nat → Nat
  | [], _ => 0
  | true :: l, r => pr W l (r + 1)
  | false :: l, r => W r ^^^ pr W l 0
def tr (k : Nat) : List Bool := List.replicate k true
def fl (k : Nat) : List Bool := List.replicate k false
section SkSum
variable {W : Nat → Nat}
theorem lv_lp : ∀ (l : List Bool) (r : Nat), lvW W l r = W (r + lead l) ^^^ post W l
  | [], r => by
    show W r = W (r + 0) ^^^ 0
    rw [Nat.xor_zero, Nat.add_zero]
  | true :: l, r => by
    show lvW W l (r + 1) = W (r + (lead l + 1)) ^^^ post W l
    rw [lv_lp l (r + 1), show r + 1 + lead l = r + (lead l + 1) by omega]
  | false :: l, r => by
    show W r ^^^ lvW W l 0 = W (r + 0) ^^^ (W (lead l) ^^^ post W l)
    rw [lv_lp l 0, Nat.zero_add, Nat.add_zero]
theorem lv_app : ∀ (A l : List Bool) (r : Nat), lvW W (A ++ l) r = pr W A r ^^^ lvW W l (sf A r)
  | [], l, r => by
    show lvW W l r = 0 ^^^ lvW W l r
    rw [Nat.zero_xor]
  | true :: A, l, r => lv_app A l (r + 1)
  | false :: A, l, r => by
    show W r ^^^ lvW W (A ++ l) 0 = (W r ^^^ pr W A 0) ^^^ lvW W l (sf A 0)
    rw [lv_app A l 0, Nat.xor_assoc]
theorem lv_tr : ∀ (k : Nat) (B : List Bool) (r : Nat), lvW W (tr k ++ B) r = lvW W B (r + k)
  | 0, B, r => rfl
  | k + 1, B, r => by
    show lvW W (tr k ++ B) (r + 1) = _
    rw [lv_tr k B (r + 1), show r + 1 + k = r + (k + 1) by omega]
theorem lv_fl0 (h0 : W 0 = 0) : ∀ (k : Nat) (B : List Bool), lvW W (fl k ++ B) 0 = lvW W B 0
  | 0, B => rfl
  | k + 1, B => by
    show W 0 ^^^ lvW W (fl k ++ B) 0 = _
    rw [h0, Nat.zero_xor, lv_fl0 h0 k B]
theorem lv_fl (h0 : W 0 = 0) (k : Nat) (B : List Bool) (r : Nat) : lvW W (fl (k + 1) ++ B) r = W r ^^^ lvW W B 0 := by
  show W r ^^^ lvW W (fl k ++ B) 0 = _
  rw [lv_fl0 h0]
theorem mv_a (A : List Bool) (k : Nat) (B : List Bool) : lvW W (A ++ (tr k ++ B)) 0 = pr W A 0 ^^^ (W (sf A 0 + k + lead B) ^^^ post W B) := by
  rw [lv_app, lv_tr, lv_lp]
theorem mv_b (h0 : W 0 = 0) (A : List Bool) {k : Nat} (hk : 1 ≤ k) (B : List Bool) : lvW W (A ++ (fl k ++ B)) 0 = pr W A 0 ^^^ (W (sf A 0) ^^^ (W (lead B) ^^^ post W B)) := by
  obtain ⟨k, rfl⟩ : ∃ j, k = j + 1 := ⟨k - 1, by omega⟩
  rw [lv_app, lv_fl h0, lv_lp, Nat.zero_add]
theorem run_bit {j : Nat} : ∀ (l : List Bool) (r : Nat), (lvW W l r).testBit j = true → (∃ m B, l = tr m ++ B ∧ lead B = 0 ∧ (W (r + m)).testBit j = true) ∨ ∃ A m B, l = A ++ (tr m ++ B) ∧ (∀ q, sf A q = 0) ∧ lead B = 0 ∧ (W m).testBit j = true
  | [], r, h => Or.inl ⟨0, [], rfl, rfl, h⟩
  | true :: l, r, h => by
    rcases run_bit l (r + 1) h with ⟨m, B, e1, e2, e3⟩ | ⟨A, m, B, e1, e2, e3, e4⟩
    · exact Or.inl ⟨m + 1, B, by rw [e1]; rfl, e2, by rw [show r + (m + 1) = r + 1 + m by omega]; exact e3⟩
    · exact Or.inr ⟨true :: A, m, B, by rw [e1]; rfl, fun q => e2 _, e3, e4⟩
  | false :: l, r, h => by
    have h : (W r ^^^ lvW W l 0).testBit j = true := h
    rw [Nat.testBit_xor] at h
    cases hq : (W r).testBit j
    · rw [hq, Bool.false_xor] at h
      rcases run_bit l 0 h with ⟨m, B, e1, e2, e3⟩ | ⟨A, m, B, e1, e2, e3, e4⟩
      · rw [Nat.zero_add] at e3
        exact Or.inr ⟨[false], m, B, by rw [e1]; rfl, fun q => rfl, e2, e3⟩
      · exact Or.inr ⟨false :: A, m, B, by rw [e1]; rfl, fun q => e2 _, e3, e4⟩
    · exact Or.inl ⟨0, false :: l, rfl, rfl, hq⟩
theorem sf_app : ∀ (A B : List Bool) (r : Nat), sf (A ++ B) r = sf B (sf A r)
  | [], B, r => rfl
  | true :: A, B, r => sf_app A B (r + 1)
  | false :: A, B, r => sf_app A B 0
theorem sf_tr : ∀ (k r : Nat), sf (tr k) r = r + k
  | 0, r => rfl
  | k + 1, r => by
    show sf (tr k) (r + 1) = _
    rw [sf_tr k (r + 1)]; omega
theorem pr_app : ∀ (A B : List Bool) (r : Nat), pr W (A ++ B) r = pr W A r ^^^ pr W B (sf A r)
  | [], B, r => by
    show pr W B r = 0 ^^^ pr W B r
    rw [Nat.zero_xor]
  | true :: A, B, r => pr_app A B (r + 1)
  | false :: A, B, r => by
    show W r ^^^ pr W (A ++ B) 0 = (W r ^^^ pr W A 0) ^^^ pr W B (sf A 0)
    rw [pr_app A B 0, Nat.xor_assoc]
theorem pr_tr : ∀ (k r : Nat), pr W (tr k) r = 0
  | 0, r => rfl
  | k + 1, r => pr_tr k (r + 1)
theorem lead_tr : ∀ (k : Nat) (B : List Bool), lead (tr k ++ B) = k + lead B
  | 0, B => by
    show lead B = 0 + lead B
    omega
  | k + 1, B => by
    show lead (tr k ++ B) + 1 = _
    rw [lead_tr k B]; omega
theorem post_tr : ∀ (k : Nat) (B : List Bool), post W (tr k ++ B) = post W B
  | 0, B => rfl
  | k + 1, B => post_tr k B
theorem tr_add (a b : Nat) : tr (a + b) = tr a ++ tr b := (List.replicate_append_replicate ..).symm
end SkSum
theorem xor_cl {a x y : Nat} (h : a ^^^ x = a ^^^ y) : x = y := by
  have h2 : a ^^^ (a ^^^ x) = a ^^^ (a ^^^ y) := by rw [h]
  rw [← Nat.xor_assoc, ← Nat.xor_assoc, Nat.xor_self, Nat.zero_xor, Nat.zero_xor] at h2
  exact h2
theorem xor_cr {a x y : Nat} (h : x ^^^ a = y ^^^ a) : x = y := by
  rw [Nat.xor_comm x, Nat.xor_comm y] at h
  exact xor_cl h
/-- what a stroke leaves of a row told as a list -/
def LM (H : Nat) (E : Bool) (l : List Bool) (v : Nat) : Prop := ∃ A k B, 1 ≤ k ∧ k ≤ 4 ∧ H.testBit (k - 1) = true ∧ l = A ++ (tr k ++ B) ∧ (E = true → sf A 0 = 0 ∨ lead B = 0) ∧ v = lvW (pW H E) (A ++ (fl k ++ B)) 0
theorem pW_0 (H : Nat) (E : Bool) : pW H E 0 = 0 := by
  refine IsM_one (pW_is H E 0) ⟨?_, fun j hj => absurd hj (by omega)⟩
  rintro ⟨k', b', a1, a2, a3, -⟩
  omega
theorem LM_is (H : Nat) (E : Bool) (l : List Bool) : IsM (LM H E l) (lvW (pW H E) l 0) := by
  have W0 := pW_0 H E
  refine ⟨?_, fun t ht => ?_⟩
  · rintro ⟨A, k, B, k1, k4, hH, e, hE, hv⟩
    rw [e, mv_a, mv_b W0 A k1] at hv
    have hv := xor_cl hv
    rw [← Nat.xor_assoc] at hv
    have hv : pW H E (sf A 0 + k + lead B) = pW H E (sf A 0) ^^^ pW H E (lead B) := xor_cr hv
    refine (pW_is H E (sf A 0 + k + lead B)).1 ⟨k, sf A 0, k1, k4, by omega, hH, by omega, fun hE2 => ?_, Or.inl (by omega), ?_⟩
    · rcases hE hE2 with q | q
      · exact Or.inl q
      · exact Or.inr (by omega)
    · rw [hv, show sf A 0 + k + lead B - k - sf A 0 = lead B by omega]
  · obtain ⟨N, hN⟩ : ∃ N, lvW (pW H E) l 0 < 2 ^ N := ⟨_, Nat.lt_two_pow_self⟩
    obtain ⟨j, j1, j2, j3⟩ := top_bit N _ t hN ht
    have run : ∃ A m B, l = A ++ (tr m ++ B) ∧ sf A 0 = 0 ∧ lead B = 0 ∧ (pW H E m).testBit j = true := by
      rcases run_bit l 0 j1 with ⟨m, B, e1, e2, e3⟩ | ⟨A, m, B, e1, e2, e3, e4⟩
      · rw [Nat.zero_add] at e3
        exact ⟨[], m, B, e1, rfl, e2, e3⟩
      · exact ⟨A, m, B, e1, e2 0, e3, e4⟩
    obtain ⟨A, m, B, e1, e2, e3, e4⟩ := run
    have hV : lvW (pW H E) l 0 = pr (pW H E) A 0 ^^^ (pW H E m ^^^ post (pW H E) B) := by
      rw [e1, mv_a, e2, e3, Nat.zero_add, Nat.add_zero]
    obtain ⟨o, ho⟩ : ∃ o, o = pW H E m ^^^ (t ^^^ lvW (pW H E) l 0) := ⟨_, rfl⟩
    have ol : o < pW H E m := by
      refine lt_bit e4 ?_ (fun i hi => ?_)
      · rw [ho, Nat.testBit_xor, Nat.testBit_xor, e4, j1, j2]; rfl
      · rw [ho, Nat.testBit_xor, Nat.testBit_xor, j3 i hi, Bool.xor_self, Bool.xor_false]
    obtain ⟨k, b, a1, a2, a3, a4, a5, a6, -, a8⟩ := (pW_is H E m).2 o ol
    refine ⟨A ++ tr b, k, tr (m - k - b) ++ B, a1, a2, a4, ?_, fun hE => ?_, ?_⟩
    · rw [e1]
      have : tr m = tr b ++ (tr k ++ tr (m - k - b)) := by
        rw [← tr_add, ← tr_add]
        congr 1
        omega
      rw [this]
      simp only [List.append_assoc]
    · rw [sf_app, e2, sf_tr, Nat.zero_add, lead_tr, e3]
      rcases a6 hE with q | q
      · exact Or.inl q
      · exact Or.inr (by omega)
    · rw [mv_b W0 _ a1, pr_app, pr_tr, Nat.xor_zero, sf_app, e2, sf_tr, Nat.zero_add, lead_tr, e3, Nat.add_zero, post_tr, ← Nat.xor_assoc (pW H E b), ← a8, ho]
      have x1 : pr (pW H E) A 0 ^^^ (pW H E m ^^^ (t ^^^ lvW (pW H E) l 0) ^^^ post (pW H E) B) = (pr (pW H E) A 0 ^^^ (pW H E m ^^^ post (pW H E) B)) ^^^ (t ^^^ lvW (pW H E) l 0) := by
        refine Nat.eq_of_testBit_eq fun i => ?_
        simp only [Nat.testBit_xor]
        cases (pr (pW H E) A 0).testBit i <;> cases (pW H E m).testBit i <;> cases t.testBit i <;> cases (lvW (pW H E) l 0).testBit i <;> cases (post (pW H E) B).testBit i <;> rfl
      rw [x1, ← hV]
      refine Nat.eq_of_testBit_eq fun i => ?_
      simp only [Nat.testBit_xor]
      cases t.testBit i <;> cases (lvW (pW H E) l 0).testBit i <;> rfl
/-- the same, run by run -/
def rsW (W : Nat → Nat) : List Bool → Bool → Nat
  | [], _ => 0
  | a :: l, prev => (if prev = true then 0 else W (lead (a :: l))) ^^^ rsW W l a
theorem rs_ok {W : Nat → Nat} (h0 : W 0 = 0) : ∀ l : List Bool, rsW W l true = post W l ∧ rsW W l false = W (lead l) ^^^ post W l
  | [] => ⟨rfl, by show 0 = W 0 ^^^ 0; rw [h0]; rfl⟩
  | true :: l => by
    obtain ⟨i1, i2⟩ := rs_ok h0 l
    refine ⟨?_, ?_⟩
    · show 0 ^^^ rsW W l true = post W l
      rw [Nat.zero_xor, i1]
    · show W (lead (true :: l)) ^^^ rsW W l true = W (lead (true :: l)) ^^^ post W l
      rw [i1]
  | false :: l => by
    obtain ⟨i1, i2⟩ := rs_ok h0 l
    refine ⟨?_, ?_⟩
    · show 0 ^^^ rsW W l false = W (lead l) ^^^ post W l
      rw [Nat.zero_xor, i2]
    · show W 0 ^^^ rsW W l false = W 0 ^^^ (W (lead l) ^^^ post W l)
      rw [i2]
theorem rs_lv {W : Nat → Nat} (h0 : W 0 = 0) (l : List Bool) : rsW W l false = lvW W l 0 := by
  rw [(rs_ok h0 l).2, lv_lp, Nat.zero_add]
