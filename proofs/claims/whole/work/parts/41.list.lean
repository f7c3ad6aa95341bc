/-! ===== the strokes that can be, as a list; two loops, one in the other ===== -/
def rl (f : Nat → Nat → Bool) : Nat → Nat → Nat → List (Nat × Nat)
  | 0, _, _ => []
  | c + 1, p, k => if f p k then (p, k) :: (if k < 4 then rl f c p (k + 1) else rl f c (p + 1) 1) else (if k < 4 then rl f c p (k + 1) else rl f c (p + 1) 1)
/-- from place p and k on, those that f has -/
def rA (f : Nat → Nat → Bool) (n p k : Nat) : List (Nat × Nat) := if k ≤ 4 then rl f (4 * (n - p) + 1 - k) p k else rl f (4 * (n - (p + 1))) (p + 1) 1
section SkList
variable {f g : Nat → Nat → Bool} {n p k : Nat}
theorem rA_5 (f : Nat → Nat → Bool) (n p : Nat) : rA f n p 5 = rA f n (p + 1) 1 := by
  unfold rA
  rw [if_neg (by omega), if_pos (by omega)]
  congr 1
theorem rA_n (f : Nat → Nat → Bool) (n : Nat) : rA f n n 1 = [] := by
  unfold rA
  rw [if_pos (by omega), show 4 * (n - n) + 1 - 1 = 0 by omega]
  rfl
theorem rA_s (f : Nat → Nat → Bool) (hp : p < n) (h1 : 1 ≤ k) (h4 : k ≤ 4) : rA f n p k = if f p k then (p, k) :: rA f n p (k + 1) else rA f n p (k + 1) := by
  have e : (if k < 4 then rl f (4 * (n - p) - k) p (k + 1) else rl f (4 * (n - p) - k) (p + 1) 1) = rA f n p (k + 1) := by
    unfold rA
    by_cases hk : k < 4
    · rw [if_pos hk, if_pos (by omega)]
      congr 1
      omega
    · rw [if_neg hk, if_neg (by omega)]
      congr 1
      omega
  rw [← e]
  unfold rA
  rw [if_pos h4, show 4 * (n - p) + 1 - k = (4 * (n - p) - k) + 1 by omega]
  rfl
/-- two loops, one in the other: what holds at their heads -/
theorem dloop (n : Nat) (Co : Nat → Prop) (Cl : Nat → Nat → Prop) (h0 : Co n) (ho : ∀ p, p < n → Cl p 1 → Co p) (h5 : ∀ p, p < n → Co (p + 1) → Cl p 5) (hi : ∀ p k, p < n → 1 ≤ k → k ≤ 4 → Cl p (k + 1) → Cl p k) : ∀ j p, p + j = n → Co p
  | 0, p, h => by rw [show p = n by omega]; exact h0
  | j + 1, p, h => by
    have h1 := dloop n Co Cl h0 ho h5 hi j (p + 1) (by omega)
    have hp : p < n := by omega
    exact ho p hp (hi p 1 hp (by omega) (by omega) (hi p 2 hp (by omega) (by omega) (hi p 3 hp (by omega) (by omega) (hi p 4 hp (by omega) (by omega) (h5 p hp h1)))))
theorem rl_mem : ∀ (c p k : Nat) (x : Nat × Nat), 1 ≤ k → k ≤ 4 → x ∈ rl f c p k → f x.1 x.2 = true ∧ 1 ≤ x.2 ∧ x.2 ≤ 4 ∧ p ≤ x.1 ∧ 4 * x.1 + x.2 < 4 * p + k + c
  | 0, _, _, _, _, _, h => by cases h
  | c + 1, p, k, x, h1, h4, h => by
    have key : x ∈ (if k < 4 then rl f c p (k + 1) else rl f c (p + 1) 1) → f x.1 x.2 = true ∧ 1 ≤ x.2 ∧ x.2 ≤ 4 ∧ p ≤ x.1 ∧ 4 * x.1 + x.2 < 4 * p + k + (c + 1) := by
      intro hx
      by_cases hk : k < 4
      · rw [if_pos hk] at hx
        obtain ⟨a, b, c, d, e⟩ := rl_mem c p (k + 1) x (by omega) (by omega) hx
        exact ⟨a, b, c, d, by omega⟩
      · rw [if_neg hk] at hx
        obtain ⟨a, b, c, d, e⟩ := rl_mem c (p + 1) 1 x (by omega) (by omega) hx
        exact ⟨a, b, c, by omega, by omega⟩
    unfold rl at h
    by_cases hf : f p k = true
    · rw [if_pos hf] at h
      rcases List.mem_cons.mp h with q | q
      · rw [q]; exact ⟨hf, h1, h4, Nat.le_refl _, by show 4 * p + k < _; omega⟩
      · exact key q
    · rw [if_neg hf] at h
      exact key h
theorem rA_mem {x : Nat × Nat} (hp : p ≤ n) (h : x ∈ rA f n p 1) : f x.1 x.2 = true ∧ 1 ≤ x.2 ∧ x.2 ≤ 4 ∧ p ≤ x.1 ∧ x.1 < n := by
  unfold rA at h
  rw [if_pos (by omega)] at h
  obtain ⟨a, b, c, d, e⟩ := rl_mem _ p 1 x (by omega) (by omega) h
  exact ⟨a, b, c, d, by omega⟩
theorem rl_filter (g : Nat → Nat → Bool) (w : Nat × Nat → Bool) (hfg : ∀ p k, f p k = (g p k && w (p, k))) : ∀ c p k, rl f c p k = (rl g c p k).filter w
  | 0, _, _ => rfl
  | c + 1, p, k => by
    have e : (if k < 4 then rl f c p (k + 1) else rl f c (p + 1) 1) = (if k < 4 then rl g c p (k + 1) else rl g c (p + 1) 1).filter w := by
      by_cases hk : k < 4
      · rw [if_pos hk, if_pos hk]; exact rl_filter g w hfg c p (k + 1)
      · rw [if_neg hk, if_neg hk]; exact rl_filter g w hfg c (p + 1) 1
    unfold rl
    rw [e, hfg p k]
    cases hg : g p k
    · simp
    · cases hw : w (p, k) <;> simp [hw]
theorem rA_filter (g : Nat → Nat → Bool) (w : Nat × Nat → Bool) (hfg : ∀ p k, f p k = (g p k && w (p, k))) (n p k : Nat) : rA f n p k = (rA g n p k).filter w := by
  unfold rA
  split <;> exact rl_filter g w hfg _ _ _
theorem rl_cg (h : ∀ x k, 1 ≤ k → k ≤ 4 → p ≤ x → x < n → f x k = g x k) : ∀ c p' k, p ≤ p' → 1 ≤ k → k ≤ 4 → 4 * p' + k + c ≤ 4 * n + 1 → rl f c p' k = rl g c p' k
  | 0, _, _, _, _, _, _ => rfl
  | c + 1, p', k, hp, h1, h4, hc => by
    unfold rl
    rw [h p' k h1 h4 hp (by omega)]
    have e : (if k < 4 then rl f c p' (k + 1) else rl f c (p' + 1) 1) = (if k < 4 then rl g c p' (k + 1) else rl g c (p' + 1) 1) := by
      by_cases hk : k < 4
      · rw [if_pos hk, if_pos hk]; exact rl_cg h c p' (k + 1) hp (by omega) (by omega) (by omega)
      · rw [if_neg hk, if_neg hk]; exact rl_cg h c (p' + 1) 1 (by omega) (by omega) (by omega) (by omega)
    rw [e]
theorem rA_cg (hp : p ≤ n) (h : ∀ x k, 1 ≤ k → k ≤ 4 → p ≤ x → x < n → f x k = g x k) : rA f n p 1 = rA g n p 1 := by
  unfold rA
  rw [if_pos (by omega), if_pos (by omega)]
  exact rl_cg h _ p 1 (Nat.le_refl _) (by omega) (by omega) (by omega)
end SkList
/-- what can be struck at a state -/
def aL (A : AD) (H : Nat) (E : Bool) (m : Nat) : List (Nat × Nat) := rA (fun p k => cB A m p k H E) (aN A) 0 1
/-- the state that a stroke leaves -/
def aT (A : AD) (m : Nat) (x : Nat × Nat) : Nat := an m (sB A x.1 x.2)
theorem an_le (m s : Nat) : an m s ≤ m := Nat.and_le_left
theorem an_sub {m s : Nat} (h4 : m < 4096) (hs : s ≠ 0) (hm : m &&& s = s) : an m s < m := by
  refine Nat.lt_of_le_of_ne (an_le m s) (fun q => hs ?_)
  refine Nat.eq_of_testBit_eq (fun i => ?_)
  have h1 := congrArg (fun x => Nat.testBit x i) hm
  have h2 := congrArg (fun x => Nat.testBit x i) q
  simp only [an, Nat.testBit_and, Nat.testBit_xor] at h1 h2
  rw [Nat.zero_testBit]
  have h3 : Nat.testBit 4095 i = true ∨ Nat.testBit 4095 i = false := by cases Nat.testBit 4095 i <;> simp
  cases hs : s.testBit i
  · rfl
  · rw [hs] at h1 h2
    rw [Bool.and_true] at h1
    rw [h1, Bool.true_and] at h2
    rcases h3 with h3 | h3
    · rw [h3] at h2; cases h2
    · rw [tb_4095, decide_eq_false_iff_not] at h3
      rw [tb_hi (n := 12) h4 (by omega)] at h1
      cases h1
theorem aL_mem {A : AD} {H : Nat} {E : Bool} {m : Nat} {x : Nat × Nat} (h : x ∈ aL A H E m) : cB A m x.1 x.2 H E = true ∧ 1 ≤ x.2 ∧ x.2 ≤ 4 ∧ x.1 < aN A := by
  obtain ⟨a, b, c, _, e⟩ := rA_mem (Nat.zero_le _) h
  exact ⟨a, b, c, e⟩
theorem cB_sub {A : AD} {H : Nat} {E : Bool} {m p k : Nat} (h : cB A m p k H E = true) : H.testBit (k - 1) = true ∧ sB A p k ≠ 0 ∧ m &&& sB A p k = sB A p k := by
  unfold cB at h
  rw [Bool.and_eq_true, Bool.and_eq_true, Bool.and_eq_true, decide_eq_true_eq, decide_eq_true_eq] at h
  exact ⟨h.1, h.2.1, h.2.2.1⟩
theorem aT_lt {A : AD} {H : Nat} {E : Bool} {m : Nat} {x : Nat × Nat} (h4 : m < 4096) (h : x ∈ aL A H E m) : aT A m x < m := by
  obtain ⟨h1, h2, h3⟩ := cB_sub (aL_mem h).1
  exact an_sub h4 h2 h3
/-- who is to play can win: the table's own equation -/
def IsW (A : AD) (H : Nat) (E L : Bool) (W : Nat → Bool) : Prop := ∀ m, m < 2 ^ aN A → W m = (if aL A H E m = [] then L else (aL A H E m).any (fun x => !W (aT A m x)))
theorem any_cg {α : Type} {l : List α} {f g : α → Bool} (h : ∀ x ∈ l, f x = g x) : l.any f = l.any g := by
  induction l with
  | nil => rfl
  | cons a l ih => rw [List.any_cons, List.any_cons, h a (List.mem_cons_self ..), ih (fun x hx => h x (List.mem_cons_of_mem _ hx))]
theorem p12 {A : AD} (w : aW A) {m : Nat} (h : m < 2 ^ aN A) : m < 4096 := Nat.lt_of_lt_of_le h (show 2 ^ aN A ≤ 2 ^ 12 from Nat.pow_le_pow_right (by omega) w.1)
theorem IsW_one {A : AD} (w : aW A) {H : Nat} {E L : Bool} {W V : Nat → Bool} (hW : IsW A H E L W) (hV : IsW A H E L V) : ∀ m, m < 2 ^ aN A → W m = V m := by
  intro m
  induction m using Nat.strongRecOn with
  | _ m ih =>
    intro hm
    rw [hW m hm, hV m hm, any_cg (fun x hx => by rw [ih _ (aT_lt (p12 w hm) hx) (Nat.lt_trans (aT_lt (p12 w hm) hx) hm)])]
/-- a table by its own equation, from small states to large -/
def fx {α : Type} (B : Nat → (Nat → α) → α) (z : α) : Nat → Nat → α
  | 0, _ => z
  | f + 1, m => B m (fx B z f)
def fv {α : Type} (B : Nat → (Nat → α) → α) (z : α) (m : Nat) : α := fx B z (m + 1) m
theorem fx_cg {α : Type} {B : Nat → (Nat → α) → α} {z : α} {N : Nat} (loc : ∀ m, m < N → ∀ u v : Nat → α, (∀ j, j < m → u j = v j) → B m u = B m v) : ∀ f g m, m < N → m < f → m < g → fx B z f m = fx B z g m
  | 0, _, m, _, h, _ => absurd h (by omega)
  | _, 0, m, _, _, h => absurd h (by omega)
  | f + 1, g + 1, m, hN, h1, h2 => loc m hN _ _ (fun j hj => fx_cg loc f g j (by omega) (by omega) (by omega))
theorem fv_eq {α : Type} {B : Nat → (Nat → α) → α} {z : α} {N : Nat} (loc : ∀ m, m < N → ∀ u v : Nat → α, (∀ j, j < m → u j = v j) → B m u = B m v) {m : Nat} (hm : m < N) : fv B z m = B m (fv B z) := loc m hm _ _ (fun j hj => fx_cg loc m (j + 1) j (by omega) hj (by omega))
def wB (A : AD) (H : Nat) (E L : Bool) (m : Nat) (u : Nat → Bool) : Bool := if aL A H E m = [] then L else (aL A H E m).any (fun x => !u (aT A m x))
/-- who is to play can win -/
def wA (A : AD) (H : Nat) (E L : Bool) : Nat → Bool := fv (wB A H E L) false
theorem wA_eq {A : AD} {H : Nat} {E L : Bool} {m : Nat} (hm : m < 4096) : wA A H E L m = wB A H E L m (wA A H E L) := fv_eq (N := 4096) (fun m hm u v h => by
  unfold wB
  rw [any_cg (fun x hx => by rw [h _ (aT_lt hm hx)])]) hm
