/-! ===== a row's places and what strokes leave of it ===== -/
theorem md {o i Z : Nat} (ho : o < Z) (hi : i ≤ Z) : (o + i < Z ∧ (o + i) % Z = o + i) ∨ (Z ≤ o + i ∧ (o + i) % Z = o + i - Z) := by
  rcases Nat.lt_or_ge (o + i) Z with q | q
  · exact Or.inl ⟨q, Nat.mod_eq_of_lt q⟩
  · refine Or.inr ⟨q, ?_⟩
    rw [Nat.mod_eq_sub_mod q, Nat.mod_eq_of_lt (by omega)]
theorem an_bit {m : Nat} (s c : Nat) (hm : m < 4096) : (an m s).testBit c = (m.testBit c && !s.testBit c) := by
  unfold an
  rw [Nat.testBit_and, Nat.testBit_xor, tb_4095]
  by_cases h : c < 12
  · simp [h]
  · rw [tb_hi (n := 12) hm (by omega)]
    rfl
theorem and_sub {m s : Nat} : m &&& s = s ↔ ∀ c, s.testBit c = true → m.testBit c = true := by
  constructor
  · intro h c hc
    rw [← h, Nat.testBit_and, Bool.and_eq_true] at hc
    exact hc.1
  · intro h
    refine Nat.eq_of_testBit_eq fun c => ?_
    rw [Nat.testBit_and]
    cases hc : s.testBit c
    · rw [Bool.and_false]
    · rw [h c hc]; rfl
theorem bit_1 (q c : Nat) : (1 <<< q).testBit c = decide (q = c) := by
  rw [Nat.one_shiftLeft, Nat.testBit_two_pow]
def po (A : AD) (r o i : Nat) : Nat := aSt A r + (o + i) % aSz A r
section SkRow
variable {A : AD} {r p m o i k : Nat}
theorem st_mono (W : aW A) : ∀ n r, r + 1 + n < aK A → aSt A r + aSz A r ≤ aSt A (r + 1 + n)
  | 0, r, h => by
    have := W.2.2.2.2.1 r h
    show aSt A r + aSz A r ≤ aSt A (r + 1)
    omega
  | n + 1, r, h => by
    have h1 := st_mono W n r (by omega)
    have h2 := W.2.2.2.2.1 (r + 1 + n) h
    have : r + 1 + (n + 1) = r + 1 + n + 1 := by omega
    rw [this]
    omega
theorem aRow_of (W : aW A) (hr : r < aK A) (h1 : aSt A r ≤ p) (h2 : p < aSt A r + aSz A r) : aRow A p = r := by
  have w3 := (W.2.2.1 r hr).1
  obtain ⟨q1, q2, q3⟩ := aRow_in W (show p < aN A by omega)
  rcases Nat.lt_trichotomy (aRow A p) r with q | q | q
  · have := st_mono W (r - aRow A p - 1) (aRow A p) (by omega)
    rw [show aRow A p + 1 + (r - aRow A p - 1) = r by omega] at this
    omega
  · exact q
  · have := st_mono W (aRow A p - r - 1) r (by omega)
    rw [show r + 1 + (aRow A p - r - 1) = aRow A p by omega] at this
    omega
theorem nx_j (W : aW A) (hr : r < aK A) {j : Nat} (hj : j < aSz A r) : aNx A (aSt A r + j) = if j + 1 < aSz A r then some (aSt A r + j + 1) else if aRg A r = true then some (aSt A r) else none := by
  unfold aNx
  rw [aRow_of W hr (by omega) (by omega)]
  by_cases q : j + 1 < aSz A r
  · rw [if_pos q, if_pos (by omega)]
  · rw [if_neg q, if_neg (by omega)]
theorem pv_j (W : aW A) (hr : r < aK A) {j : Nat} (hj : j < aSz A r) : aPv A (aSt A r + j) = if 0 < j then some (aSt A r + j - 1) else if aRg A r = true then some (aSt A r + aSz A r - 1) else none := by
  unfold aPv
  rw [aRow_of W hr (by omega) (by omega)]
  by_cases q : 0 < j
  · rw [if_pos q, if_pos (by omega)]
  · rw [if_neg q, if_neg (by omega)]
/-- from where a row may be told: a plain one from its first place, a ring from anywhere -/
def oG (A : AD) (r o : Nat) : Prop := o < aSz A r ∧ (aRg A r = true ∨ o = 0)
theorem po_lt (W : aW A) (hr : r < aK A) (o i : Nat) : aSt A r ≤ po A r o i ∧ po A r o i < aSt A r + aSz A r ∧ po A r o i < aN A := by
  have w3 := W.2.2.1 r hr
  have := Nat.mod_lt (o + i) (show 0 < aSz A r by omega)
  unfold po
  omega
theorem po_row (W : aW A) (hr : r < aK A) (o i : Nat) : aRow A (po A r o i) = r := aRow_of W hr (po_lt W hr o i).1 (po_lt W hr o i).2.1
theorem nx_po (W : aW A) (hr : r < aK A) (g : oG A r o) (hi : i + 1 < aSz A r ∨ (aRg A r = true ∧ i < aSz A r)) : aNx A (po A r o i) = some (po A r o (i + 1)) := by
  have ho := g.1
  unfold po
  have hm := Nat.mod_lt (o + i) (show 0 < aSz A r by omega)
  rw [nx_j W hr hm]
  rcases md g.1 (show i ≤ aSz A r by omega) with ⟨a1, a2⟩ | ⟨a1, a2⟩ <;> rcases md g.1 (show i + 1 ≤ aSz A r by omega) with ⟨b1, b2⟩ | ⟨b1, b2⟩ <;> rw [a2, b2]
  · rw [if_pos (by omega)]; congr 1
  · rcases g.2 with q | q
    · rw [if_neg (by omega), if_pos q]
      congr 1
      omega
    · rcases hi with hi | hi
      · omega
      · rw [if_neg (by omega), if_pos hi.1]
        congr 1
        omega
  · omega
  · rw [if_pos (by omega)]
    congr 1
    omega
theorem pv_po (W : aW A) (hr : r < aK A) (g : oG A r o) (hi : i + 1 < aSz A r) : aPv A (po A r o (i + 1)) = some (po A r o i) := by
  have ho := g.1
  unfold po
  have hm := Nat.mod_lt (o + (i + 1)) (show 0 < aSz A r by omega)
  rw [pv_j W hr hm]
  by_cases q1 : o + (i + 1) < aSz A r
  · rw [Nat.mod_eq_of_lt q1, Nat.mod_eq_of_lt (show o + i < aSz A r by omega), if_pos (by omega)]
    congr 1
  · by_cases q2 : o + i < aSz A r
    · have e : o + (i + 1) = aSz A r := by omega
      rw [e, Nat.mod_self, Nat.mod_eq_of_lt q2, if_neg (Nat.lt_irrefl 0)]
      rcases g.2 with q | q
      · rw [if_pos q]
        congr 1
        omega
      · omega
    · rw [Nat.mod_eq_sub_mod (show aSz A r ≤ o + (i + 1) by omega), Nat.mod_eq_sub_mod (show aSz A r ≤ o + i by omega), Nat.mod_eq_of_lt (show o + (i + 1) - aSz A r < aSz A r by omega), Nat.mod_eq_of_lt (show o + i - aSz A r < aSz A r by omega), if_pos (by omega)]
      congr 1
      omega
theorem pv_po0 (W : aW A) (hr : r < aK A) (g : oG A r o) : aPv A (po A r o 0) = if aRg A r = true then some (po A r o (aSz A r - 1)) else none := by
  have w3 := W.2.2.1 r hr
  have ho := g.1
  unfold po
  have hm := Nat.mod_lt (o + 0) (show 0 < aSz A r by omega)
  rw [pv_j W hr hm, Nat.add_zero, Nat.mod_eq_of_lt g.1]
  by_cases h0 : 0 < o
  · rcases g.2 with q | q
    · rw [if_pos h0, if_pos q, Nat.mod_eq_sub_mod (show aSz A r ≤ o + (aSz A r - 1) by omega), Nat.mod_eq_of_lt (show o + (aSz A r - 1) - aSz A r < aSz A r by omega)]
      congr 1
      omega
    · omega
  · have o0 : o = 0 := by omega
    subst o0
    rw [if_neg h0, Nat.zero_add, Nat.mod_eq_of_lt (show aSz A r - 1 < aSz A r by omega), Nat.add_sub_assoc (by omega)]
theorem nx_poZ (W : aW A) (hr : r < aK A) (hG : aRg A r = false) : aNx A (po A r 0 (aSz A r - 1)) = none := by
  have w3 := W.2.2.1 r hr
  unfold po
  rw [Nat.zero_add, Nat.mod_eq_of_lt (by omega), nx_j W hr (by omega), if_neg (by omega), hG]
  rfl
theorem po_inj (W : aW A) (hr : r < aK A) (g : oG A r o) {i i' : Nat} (hi : i < aSz A r) (hi' : i' < aSz A r) (h : po A r o i = po A r o i') : i = i' := by
  unfold po at h
  rcases md g.1 (show i ≤ aSz A r by omega) with ⟨a1, a2⟩ | ⟨a1, a2⟩ <;> rcases md g.1 (show i' ≤ aSz A r by omega) with ⟨b1, b2⟩ | ⟨b1, b2⟩ <;> rw [a2, b2] at h <;> omega
theorem po_sur (g : oG A r o) (h1 : aSt A r ≤ p) (h2 : p < aSt A r + aSz A r) : ∃ i, i < aSz A r ∧ p = po A r o i := by
  by_cases q : o ≤ p - aSt A r
  · refine ⟨p - aSt A r - o, by omega, ?_⟩
    unfold po
    rw [show o + (p - aSt A r - o) = p - aSt A r by omega, Nat.mod_eq_of_lt (by omega)]
    omega
  · refine ⟨p - aSt A r + aSz A r - o, by have := g.1; omega, ?_⟩
    have := g.1
    unfold po
    rw [show o + (p - aSt A r + aSz A r - o) = p - aSt A r + aSz A r by omega, Nat.add_mod_right, Nat.mod_eq_of_lt (by omega)]
    omega
theorem lO_s (A : AD) : ∀ (t : Nat) (x : Option Nat), lO A (t + 1) x = (lO A t x).bind (aNx A)
  | 0, x => rfl
  | t + 1, x => lO_s A t (x.bind (aNx A))
theorem lO_po (W : aW A) (hr : r < aK A) (g : oG A r o) : ∀ t, i + t < aSz A r → lO A t (some (po A r o i)) = some (po A r o (i + t))
  | 0, _ => rfl
  | t + 1, h => by
    rw [lO_s, lO_po W hr g t (by omega)]
    show aNx A _ = _
    rw [nx_po W hr g (Or.inl (by omega))]
    rfl
theorem sbA_bit (A : AD) : ∀ (n : Nat) (x : Option Nat) (set : Nat), sbA A n x set ≠ 0 → ∀ c, (sbA A n x set).testBit c = true ↔ (set.testBit c = true ∨ ∃ t, t < n ∧ lO A t x = some c)
  | 0, x, set, _, c => ⟨fun h => Or.inl h, fun h => h.elim id (fun ⟨t, ht, _⟩ => absurd ht (by omega))⟩
  | n + 1, none, set, h, c => absurd rfl h
  | n + 1, some q, set, h, c => by
    have e : sbA A (n + 1) (some q) set = if set.testBit q then 0 else sbA A n (aNx A q) (set ||| 1 <<< q) := rfl
    rw [e] at h ⊢
    by_cases hq : set.testBit q = true
    · rw [if_pos hq] at h; exact absurd rfl h
    · rw [if_neg hq] at h ⊢
      rw [sbA_bit A n _ _ h c, Nat.testBit_or, Bool.or_eq_true, bit_1, decide_eq_true_eq]
      constructor
      · rintro ((h1 | h1) | ⟨t, h1, h2⟩)
        · exact Or.inl h1
        · exact Or.inr ⟨0, by omega, by rw [h1]; rfl⟩
        · exact Or.inr ⟨t + 1, by omega, h2⟩
      · rintro (h1 | ⟨t, h1, h2⟩)
        · exact Or.inl (Or.inl h1)
        · cases t with
          | zero =>
            have h2 : some q = some c := h2
            cases h2
            exact Or.inl (Or.inr rfl)
          | succ t => exact Or.inr ⟨t, by omega, h2⟩
theorem or_ne (x q : Nat) : x ||| 1 <<< q ≠ 0 := fun h => by
  have := congrArg (fun y => y.testBit q) h
  simp only [Nat.testBit_or, bit_1, Nat.zero_testBit, decide_true, Bool.or_true] at this
  cases this
theorem sb_ne (W : aW A) (hr : r < aK A) (g : oG A r o) : ∀ (n i set : Nat), i + n ≤ aSz A r → 0 < n → (∀ t, t < n → set.testBit (po A r o (i + t)) = false) → sbA A n (some (po A r o i)) set ≠ 0
  | 0, i, set, _, h, _ => absurd h (by omega)
  | n + 1, i, set, h, _, hs => by
    have e : sbA A (n + 1) (some (po A r o i)) set = if set.testBit (po A r o i) then 0 else sbA A n (aNx A (po A r o i)) (set ||| 1 <<< po A r o i) := rfl
    rw [e, if_neg (by rw [show po A r o i = po A r o (i + 0) from rfl, hs 0 (by omega)]; decide)]
    cases n with
    | zero => exact or_ne _ _
    | succ n =>
      rw [nx_po W hr g (Or.inl (by omega))]
      refine sb_ne W hr g (n + 1) (i + 1) _ (by omega) (by omega) (fun t ht => ?_)
      rw [Nat.testBit_or, bit_1, show i + 1 + t = i + (t + 1) by omega, hs (t + 1) (by omega), Bool.false_or]
      refine decide_eq_false (fun q => ?_)
      have := po_inj W hr g (show i < aSz A r by omega) (show i + (t + 1) < aSz A r by omega) q
      omega
theorem sB_bit (W : aW A) (hr : r < aK A) (g : oG A r o) (hk : 0 < k) (hi : i + k ≤ aSz A r) (c : Nat) : (sB A (po A r o i) k).testBit c = true ↔ ∃ t, t < k ∧ po A r o (i + t) = c := by
  unfold sB
  have hne := sb_ne W hr g k i 0 hi hk (fun t _ => Nat.zero_testBit _)
  rw [sbA_bit A k _ 0 hne c, Nat.zero_testBit]
  constructor
  · rintro (h | ⟨t, ht, h⟩)
    · cases h
    · rw [lO_po W hr g t (by omega)] at h
      cases h
      exact ⟨t, ht, rfl⟩
  · rintro ⟨t, ht, h⟩
    exact Or.inr ⟨t, ht, by rw [lO_po W hr g t (by omega), h]⟩
theorem sB_po_f (W : aW A) (hr : r < aK A) (g : oG A r o) (hk : 0 < k) (hi : i + k ≤ aSz A r) {x : Nat} (hx : x < aSz A r) (hn : x < i ∨ i + k ≤ x) : (sB A (po A r o i) k).testBit (po A r o x) = false := by
  cases hq : (sB A (po A r o i) k).testBit (po A r o x)
  · rfl
  · obtain ⟨t, ht, he⟩ := (sB_bit W hr g hk hi _).mp hq
    have := po_inj W hr g (show i + t < aSz A r by omega) hx he
    omega
theorem sB_po_t (W : aW A) (hr : r < aK A) (g : oG A r o) (hk : 0 < k) (hi : i + k ≤ aSz A r) {t : Nat} (ht : t < k) : (sB A (po A r o i) k).testBit (po A r o (i + t)) = true := (sB_bit W hr g hk hi _).mpr ⟨t, ht, rfl⟩
/-- a row that isn't a whole ring, told from behind a gap -/
def gap (A : AD) (r o m : Nat) : Prop := oG A r o ∧ (aRg A r = true → m.testBit (po A r o (aSz A r - 1)) = false)
/-- a stroke that can be, in the row's own numbers -/
def stk (A : AD) (r o m H : Nat) (E : Bool) (i k : Nat) : Prop := H.testBit (k - 1) = true ∧ i + k ≤ aSz A r ∧ (∀ t, t < k → m.testBit (po A r o (i + t)) = true) ∧ (E = true → (i = 0 ∨ m.testBit (po A r o (i - 1)) = false) ∨ (i + k = aSz A r ∨ m.testBit (po A r o (i + k)) = false))
theorem cB_stk (W : aW A) (hr : r < aK A) (gp : gap A r o m) (hm : m < 4096) (hi : i < aSz A r) (h1 : 1 ≤ k) {H : Nat} {E : Bool} : cB A m (po A r o i) k H E = true ↔ stk A r o m H E i k := by
  obtain ⟨g, gg⟩ := gp
  have w3 := W.2.2.1 r hr
  have ends : i + k ≤ aSz A r → (∀ t, t < k → m.testBit (po A r o (i + t)) = true) → ((eO (an m (sB A (po A r o i) k)) (aPv A (po A r o i)) || eO (an m (sB A (po A r o i) k)) ((lO A (k - 1) (some (po A r o i))).bind (aNx A))) = true ↔ ((i = 0 ∨ m.testBit (po A r o (i - 1)) = false) ∨ (i + k = aSz A r ∨ m.testBit (po A r o (i + k)) = false))) := by
    intro hik hb
    have e1 : eO (an m (sB A (po A r o i) k)) (aPv A (po A r o i)) = true ↔ (i = 0 ∨ m.testBit (po A r o (i - 1)) = false) := by
      cases i with
      | zero =>
        rw [pv_po0 W hr g]
        refine ⟨fun _ => Or.inl rfl, fun _ => ?_⟩
        by_cases q : aRg A r = true
        · rw [if_pos q]
          show (!(an m _).testBit _) = true
          rw [an_bit _ _ hm, gg q]; rfl
        · rw [if_neg q]; rfl
      | succ i =>
        rw [pv_po W hr g hi]
        show (!(an m _).testBit _) = true ↔ _
        rw [an_bit _ _ hm, sB_po_f W hr g (by omega) hik (show i < aSz A r by omega) (Or.inl (by omega)), Bool.not_false, Bool.and_true, Nat.add_sub_cancel]
        cases m.testBit (po A r o i) <;> simp
    have e2 : eO (an m (sB A (po A r o i) k)) ((lO A (k - 1) (some (po A r o i))).bind (aNx A)) = true ↔ (i + k = aSz A r ∨ m.testBit (po A r o (i + k)) = false) := by
      rw [lO_po W hr g (k - 1) (by omega)]
      show eO _ (aNx A (po A r o (i + (k - 1)))) = true ↔ _
      by_cases q : i + k = aSz A r
      · refine ⟨fun _ => Or.inl q, fun _ => ?_⟩
        by_cases qg : aRg A r = true
        · have := hb (k - 1) (by omega)
          rw [show i + (k - 1) = aSz A r - 1 by omega, gg qg] at this
          cases this
        · have o0 : o = 0 := g.2.resolve_left qg
          subst o0
          rw [show i + (k - 1) = aSz A r - 1 by omega, nx_poZ W hr (by simpa using qg)]
          rfl
      · rw [nx_po W hr g (Or.inl (by omega)), show i + (k - 1) + 1 = i + k by omega]
        show (!(an m _).testBit _) = true ↔ _
        rw [an_bit _ _ hm, sB_po_f W hr g (by omega) hik (show i + k < aSz A r by omega) (Or.inr (by omega)), Bool.not_false, Bool.and_true]
        cases m.testBit (po A r o (i + k)) <;> simp [q]
    rw [Bool.or_eq_true, e1, e2]
  unfold cB stk
  rw [Bool.and_eq_true, Bool.and_eq_true, Bool.and_eq_true, decide_eq_true_eq, decide_eq_true_eq]
  constructor
  · rintro ⟨c1, c2, c3, c4⟩
    have hp := sbA_lO A k (some (po A r o i)) 0 c2
    have hs := and_sub.mp c3
    have hset : ∀ t q, t < k → lO A t (some (po A r o i)) = some q → m.testBit q = true := fun t q ht hq => hs q ((sbA_bit A k (some (po A r o i)) 0 c2 q).mpr (Or.inr ⟨t, ht, hq⟩))
    have bd : ∀ t, t < k → i + t < aSz A r := by
      intro t
      induction t with
      | zero => intro _; exact hi
      | succ t ih =>
        intro ht
        have h0 := ih (by omega)
        rcases Nat.lt_or_ge (i + (t + 1)) (aSz A r) with q | q
        · exact q
        · have e : i + t = aSz A r - 1 := by omega
          by_cases qg : aRg A r = true
          · have := hset t _ (by omega) (lO_po W hr g t h0)
            rw [e, gg qg] at this
            cases this
          · have o0 : o = 0 := g.2.resolve_left qg
            subst o0
            obtain ⟨x, hx⟩ := hp (t + 1) ht
            rw [lO_s, lO_po W hr g t h0, e] at hx
            have hx : aNx A (po A r 0 (aSz A r - 1)) = some x := hx
            rw [nx_poZ W hr (by simpa using qg)] at hx
            cases hx
    have hik : i + k ≤ aSz A r := by have := bd (k - 1) (by omega); omega
    have hb : ∀ t, t < k → m.testBit (po A r o (i + t)) = true := fun t ht => hset t _ ht (lO_po W hr g t (bd t ht))
    refine ⟨c1, hik, hb, fun hE => ?_⟩
    rw [hE] at c4
    exact (ends hik hb).mp c4
  · rintro ⟨c1, c2, c3, c4⟩
    refine ⟨c1, sb_ne W hr g k i 0 c2 (by omega) (fun t _ => Nat.zero_testBit _), and_sub.mpr (fun c hc => ?_), ?_⟩
    · obtain ⟨t, ht, he⟩ := (sB_bit W hr g (by omega) c2 c).mp hc
      rw [← he]; exact c3 t ht
    · cases hE : E
      · rfl
      · show (_ || _) = true
        exact (ends c2 c3).mpr (c4 hE)
/-- the row as a list -/
def lst (A : AD) (r o m : Nat) : List Bool := (List.range (aSz A r)).map (fun i => m.testBit (po A r o i))
theorem rg_add {α : Type} (f : Nat → α) (a b : Nat) : (List.range (a + b)).map f = (List.range a).map f ++ (List.range b).map (fun i => f (a + i)) := by
  rw [List.range_add, List.map_append, List.map_map]
  rfl
theorem rg_const {α : Type} {f : Nat → α} {v : α} {n : Nat} (h : ∀ i, i < n → f i = v) : (List.range n).map f = List.replicate n v := by
  rw [List.eq_replicate_iff]
  refine ⟨by simp, fun x hx => ?_⟩
  obtain ⟨i, hi, he⟩ := List.mem_map.mp hx
  rw [← he, h i (List.mem_range.mp hi)]
theorem rg_cg {α : Type} {f g : Nat → α} {n : Nat} (h : ∀ i, i < n → f i = g i) : (List.range n).map f = (List.range n).map g := List.map_congr_left (fun i hi => h i (List.mem_range.mp hi))
def lsA (A : AD) (r o m i : Nat) : List Bool := (List.range i).map (fun j => m.testBit (po A r o j))
def lsB (A : AD) (r o m i : Nat) : List Bool := (List.range (aSz A r - i)).map (fun j => m.testBit (po A r o (i + j)))
theorem lst_sp (hik : i + k ≤ aSz A r) : lst A r o m = lsA A r o m i ++ ((List.range k).map (fun t => m.testBit (po A r o (i + t))) ++ lsB A r o m (i + k)) := by
  unfold lst lsA lsB
  have e : aSz A r = i + (k + (aSz A r - (i + k))) := by omega
  have h1 := rg_add (fun i => m.testBit (po A r o i)) i (k + (aSz A r - (i + k)))
  rw [← e, rg_add (fun t => m.testBit (po A r o (i + t))) k] at h1
  rw [h1]
  simp only [Nat.add_assoc]
theorem sf_A : sf (lsA A r o m i) 0 = 0 ↔ (i = 0 ∨ m.testBit (po A r o (i - 1)) = false) := by
  cases i with
  | zero => exact ⟨fun _ => Or.inl rfl, fun _ => rfl⟩
  | succ i =>
    have e : lsA A r o m (i + 1) = lsA A r o m i ++ [m.testBit (po A r o i)] := by
      unfold lsA
      rw [rg_add]
      rfl
    rw [e, sf_app, Nat.add_sub_cancel]
    cases m.testBit (po A r o i)
    · exact ⟨fun _ => Or.inr rfl, fun _ => rfl⟩
    · refine ⟨fun h => ?_, fun h => ?_⟩
      · have h : sf (lsA A r o m i) 0 + 1 = 0 := h
        omega
      · rcases h with h | h
        · omega
        · cases h
theorem lead_B (hi : i ≤ aSz A r) : lead (lsB A r o m i) = 0 ↔ (i = aSz A r ∨ m.testBit (po A r o i) = false) := by
  by_cases q : i = aSz A r
  · have e : lsB A r o m i = [] := by
      unfold lsB
      rw [q, Nat.sub_self]
      rfl
    rw [e]
    exact ⟨fun _ => Or.inl q, fun _ => rfl⟩
  · obtain ⟨n, hn⟩ : ∃ n, aSz A r - i = 1 + n := ⟨aSz A r - i - 1, by omega⟩
    have e : lsB A r o m i = m.testBit (po A r o i) :: (List.range n).map (fun j => m.testBit (po A r o (i + (1 + j)))) := by
      unfold lsB
      rw [hn, rg_add]
      rfl
    rw [e]
    cases m.testBit (po A r o i)
    · exact ⟨fun _ => Or.inr rfl, fun _ => rfl⟩
    · refine ⟨fun h => ?_, fun h => ?_⟩
      · have h : lead _ + 1 = 0 := h
        omega
      · rcases h with h | h
        · exact absurd h q
        · cases h
theorem LM_stk (W : aW A) (hr : r < aK A) (gp : gap A r o m) (hm : m < 4096) (H : Nat) (E : Bool) (v : Nat) : LM H E (lst A r o m) v ↔ ∃ i k, i < aSz A r ∧ 1 ≤ k ∧ k ≤ 4 ∧ cB A m (po A r o i) k H E = true ∧ v = lvW (pW H E) (lst A r o (an m (sB A (po A r o i) k))) 0 := by
  obtain ⟨g, gg⟩ := id gp
  have after : ∀ i k, 1 ≤ k → stk A r o m H E i k → lst A r o (an m (sB A (po A r o i) k)) = lsA A r o m i ++ (fl k ++ lsB A r o m (i + k)) := by
    rintro i k h1 ⟨c1, c2, c3, c4⟩
    rw [lst_sp c2]
    congr 1
    · exact rg_cg (fun j hj => by rw [an_bit _ _ hm, sB_po_f W hr g (by omega) c2 (show j < aSz A r by omega) (Or.inl hj), Bool.not_false, Bool.and_true])
    · congr 1
      · exact rg_const (fun t ht => by rw [an_bit _ _ hm, sB_po_t W hr g (by omega) c2 ht, Bool.not_true, Bool.and_false])
      · exact rg_cg (fun j hj => by rw [an_bit _ _ hm, sB_po_f W hr g (by omega) c2 (show i + k + j < aSz A r by omega) (Or.inr (by omega)), Bool.not_false, Bool.and_true])
  constructor
  · rintro ⟨P, k, B, k1, k4, hH, e, hE, hv⟩
    have hl : aSz A r = P.length + (k + B.length) := by
      have := congrArg List.length e
      unfold lst tr at this
      simpa using this
    have hik : P.length + k ≤ aSz A r := by omega
    have sp := lst_sp (o := o) (m := m) hik
    rw [e] at sp
    have lA : P.length = (lsA A r o m P.length).length := by unfold lsA; simp
    obtain ⟨s1, s2⟩ := List.append_inj sp lA
    have lK : (tr k).length = ((List.range k).map (fun t => m.testBit (po A r o (P.length + t)))).length := by unfold tr; simp
    obtain ⟨s3, s4⟩ := List.append_inj s2 lK
    have hb : ∀ t, t < k → m.testBit (po A r o (P.length + t)) = true := by
      intro t ht
      have : m.testBit (po A r o (P.length + t)) ∈ (List.range k).map (fun t => m.testBit (po A r o (P.length + t))) := List.mem_map.mpr ⟨t, List.mem_range.mpr ht, rfl⟩
      rw [← s3] at this
      exact (List.mem_replicate.mp this).2
    have st : stk A r o m H E P.length k := ⟨hH, hik, hb, fun hE2 => by
      have := hE hE2
      rw [s1, s4] at this
      rw [sf_A, lead_B hik] at this
      exact this⟩
    refine ⟨P.length, k, by omega, k1, k4, (cB_stk W hr gp hm (by omega) k1).mpr st, ?_⟩
    rw [hv, after _ _ k1 st, ← s1, ← s4]
  · rintro ⟨i, k, hi, k1, k4, hc, hv⟩
    have st := (cB_stk W hr gp hm hi k1).mp hc
    obtain ⟨c1, c2, c3, c4⟩ := id st
    refine ⟨lsA A r o m i, k, lsB A r o m (i + k), k1, k4, c1, ?_, fun hE => ?_, by rw [hv, after i k k1 st]⟩
    · rw [lst_sp c2]
      congr 2
      exact rg_const c3
    · rw [sf_A, lead_B c2]
      exact c4 hE
end SkRow
