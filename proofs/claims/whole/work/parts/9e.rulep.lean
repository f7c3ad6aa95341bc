/-! ===== what a rule's text says: recursive descent, and a machine with a stack of signs ===== -/
/-- place, code so far, values and facts made -/
abbrev RZ : Type := Nat × List (Nat × Nat) × Nat
def zAt (z : RZ) (p : Nat) : RZ := (p, z.2)
def zE (z : RZ) (o : Nat) : RZ := (z.1, z.2.1 ++ [(o, 0)], z.2.2)
def wNot : List Nat := [110, 111, 116]
def wAnd : List Nat := [97, 110, 100]
def wOr : List Nat := [111, 114]
def wIf : List Nat := [105, 102]
def wStk : List Nat := [115, 116, 114, 111, 107, 101]
def rWs : List (List Nat) := [[112, 108, 97, 99, 101], [109, 97, 110, 121], [114, 111, 119], [115, 116, 97, 110, 100, 105, 110, 103], [108, 101, 102, 116], [114, 117, 110, 115], [108, 111, 110, 103, 101, 115, 116], [97, 108, 111, 110, 101], [119, 111, 110], [116, 117, 114, 110], [115, 116, 114, 111, 107, 101, 115]]
def oB (r : Option (Nat ⊕ RZ)) (f : RZ → Option (Nat ⊕ RZ)) : Option (Nat ⊕ RZ) := match r with
  | none => none
  | some (.inl g) => some (.inl g)
  | some (.inr z) => f z
/-- one value or fact more -/
def zMk (p q : Nat) (l : List (Nat × Nat)) (m : Nat) : Nat ⊕ RZ := if m = 60 then .inl (1 + 8 * q + 3) else .inr (p, l, m + 1)
def valP (t : Nat → Nat) (T : Nat) (z : RZ) : Nat ⊕ RZ :=
  if dgt t T (nxt t T z.1) = true then
    match nmR t T z.1 0 100000 with
    | .inl g => .inl g
    | .inr (e, v) => zMk e (nxt t T z.1) (z.2.1 ++ [(0, v)]) z.2.2
  else match wxN (wdl t T (nxt t T z.1)) rWs 0 with
    | none => .inl (1 + 8 * nxt t T z.1 + 0)
    | some k => zMk (wE t T (nxt t T z.1)) (nxt t T z.1) (z.2.1 ++ [(1, k)]) z.2.2
def tS (c : Nat) : Option Nat := if c = 42 then some 4 else if c = 47 then some 5 else if c = 37 then some 14 else none
def adS (c : Nat) : Option Nat := if c = 43 then some 2 else if c = 45 then some 3 else none
def sgA (f : Nat → Option Nat) (t : Nat → Nat) (T q : Nat) : Option Nat := if q < T then f (t q) else none
def tLo (t : Nat → Nat) (T : Nat) : Nat → RZ → Option (Nat ⊕ RZ)
  | 0, _ => none
  | n + 1, z => match sgA tS t T (nxt t T z.1) with
    | none => some (.inr (zAt z (nxt t T z.1)))
    | some o => oB (some (valP t T (zAt z (nxt t T z.1 + 1)))) fun z1 => tLo t T n (zE z1 o)
def sLo (t : Nat → Nat) (T : Nat) : Nat → RZ → Option (Nat ⊕ RZ)
  | 0, _ => none
  | n + 1, z => match sgA adS t T (nxt t T z.1) with
    | none => some (.inr (zAt z (nxt t T z.1)))
    | some o => oB (some (valP t T (zAt z (nxt t T z.1 + 1)))) fun z1 => oB (tLo t T n z1) fun z2 => sLo t T n (zE z2 o)
def sumP (t : Nat → Nat) (T n : Nat) (z : RZ) : Option (Nat ⊕ RZ) := oB (some (valP t T z)) fun z1 => oB (tLo t T n z1) fun z2 => sLo t T n z2
/-- the sign of a fact, and the place behind it -/
def sgC (t : Nat → Nat) (T q : Nat) : Option (Nat × Nat) :=
  if q < T then
    if t q = 60 then (if q + 1 < T ∧ t (q + 1) = 61 then some (7, q + 2) else some (6, q + 1))
    else if t q = 61 then some (8, q + 1)
    else if t q = 62 then (if q + 1 < T ∧ t (q + 1) = 61 then some (9, q + 2) else some (10, q + 1))
    else none
  else none
def cmpP (t : Nat → Nat) (T n : Nat) (z : RZ) : Option (Nat ⊕ RZ) := oB (sumP t T n z) fun z1 => match sgC t T (nxt t T z1.1) with
  | none => some (.inl (1 + 8 * nxt t T z1.1 + 0))
  | some (o, e) => oB (some (zMk e (nxt t T z1.1) z1.2.1 z1.2.2)) fun z2 => oB (sumP t T n z2) fun z3 => some (.inr (zE z3 o))
def parL (t : Nat → Nat) (T : Nat) (f : RZ → Option (Nat ⊕ RZ)) : Nat → RZ → Option (Nat ⊕ RZ)
  | 0, _ => none
  | n + 1, z => if wdl t T (nxt t T z.1) = wAnd then oB (f (zAt z (wE t T (nxt t T z.1)))) fun z1 => parL t T f n (zE z1 12) else some (.inr (zAt z (nxt t T z.1)))
def parP (t : Nat → Nat) (T : Nat) (f : RZ → Option (Nat ⊕ RZ)) (n : Nat) (z : RZ) : Option (Nat ⊕ RZ) := oB (f z) fun z1 => parL t T f n z1
def tesL (t : Nat → Nat) (T : Nat) (f : RZ → Option (Nat ⊕ RZ)) : Nat → RZ → Option (Nat ⊕ RZ)
  | 0, _ => none
  | n + 1, z => if wdl t T (nxt t T z.1) = wOr then oB (parP t T f n (zAt z (wE t T (nxt t T z.1)))) fun z1 => tesL t T f n (zE z1 13) else some (.inr (zAt z (nxt t T z.1)))
def tesP (t : Nat → Nat) (T : Nat) (f : RZ → Option (Nat ⊕ RZ)) (n : Nat) (z : RZ) : Option (Nat ⊕ RZ) := oB (parP t T f n z) fun z1 => tesL t T f n z1
/-- a bracket closes -/
def clsP (t : Nat → Nat) (T : Nat) (z : RZ) : Nat ⊕ RZ := if nxt t T z.1 < T ∧ t (nxt t T z.1) = 93 then .inr (zAt z (nxt t T z.1 + 1)) else .inl (1 + 8 * nxt t T z.1 + 0)
def facP (t : Nat → Nat) (T : Nat) : Nat → Nat → RZ → Option (Nat ⊕ RZ)
  | 0, _, _ => none
  | n + 1, dp, z =>
    if wdl t T (nxt t T z.1) = wNot then (if 10 ≤ dp then some (.inl (1 + 8 * nxt t T z.1 + 2)) else oB (facP t T n (dp + 1) (zAt z (wE t T (nxt t T z.1)))) fun z1 => some (.inr (zE z1 11)))
    else if nxt t T z.1 < T ∧ t (nxt t T z.1) = 91 then (if 10 ≤ dp then some (.inl (1 + 8 * nxt t T z.1 + 2)) else oB (tesP t T (facP t T n (dp + 1)) n (zAt z (nxt t T z.1 + 1))) fun z1 => some (clsP t T z1))
    else cmpP t T n (zAt z (nxt t T z.1))
/-- how deep a stack of signs is; whether a bracket is open; how strong a sign is -/
def dpS : List Nat → Nat
  | [] => 0
  | s :: r => (if s = 11 ∨ s = 91 then 1 else 0) + dpS r
def insS (s : List Nat) : Bool := s.contains 91
def strS (s : Nat) : Nat := if s = 13 then 1 else if s = 12 then 2 else if s = 11 then 3 else 0
def stl (k : Nat) : List Nat → RZ → List Nat × RZ
  | [], z => ([], z)
  | s :: r, z => if k ≤ strS s then stl k r (zE z s) else (s :: r, z)
/-- the machine: before a fact (true), behind one (false) -/
def mch (t : Nat → Nat) (T : Nat) : Nat → Bool → List Nat → RZ → Option (Nat ⊕ RZ)
  | 0, _, _, _ => none
  | n + 1, true, s, z =>
    if wdl t T (nxt t T z.1) = wNot then (if dpS s = 10 then some (.inl (1 + 8 * nxt t T z.1 + 2)) else mch t T n true (11 :: s) (zAt z (wE t T (nxt t T z.1))))
    else if nxt t T z.1 < T ∧ t (nxt t T z.1) = 91 then (if dpS s = 10 then some (.inl (1 + 8 * nxt t T z.1 + 2)) else mch t T n true (91 :: s) (zAt z (nxt t T z.1 + 1)))
    else oB (cmpP t T n (zAt z (nxt t T z.1))) fun z1 => mch t T n false s z1
  | n + 1, false, s, z =>
    if (nxt t T z.1 < T ∧ t (nxt t T z.1) = 93) ∧ insS (stl 3 s z).1 = true then mch t T n false (stl 1 (stl 3 s z).1 (stl 3 s z).2).1.tail (zAt (stl 1 (stl 3 s z).1 (stl 3 s z).2).2 (nxt t T z.1 + 1))
    else if wdl t T (nxt t T z.1) = wAnd then mch t T n true (12 :: (stl 2 (stl 3 s z).1 (stl 3 s z).2).1) (zAt (stl 2 (stl 3 s z).1 (stl 3 s z).2).2 (wE t T (nxt t T z.1)))
    else if wdl t T (nxt t T z.1) = wOr then mch t T n true (13 :: (stl 1 (stl 3 s z).1 (stl 3 s z).2).1) (zAt (stl 1 (stl 3 s z).1 (stl 3 s z).2).2 (wE t T (nxt t T z.1)))
    else if insS (stl 3 s z).1 = true then some (.inl (1 + 8 * nxt t T z.1 + 0))
    else some (.inr (zAt (stl 1 (stl 3 s z).1 (stl 3 s z).2).2 (nxt t T z.1)))
section SkRulep
variable {t : Nat → Nat} {T p q n m dp : Nat} {z z1 z2 : RZ} {r : Nat ⊕ RZ} {f f' : RZ → Option (Nat ⊕ RZ)}
/-- more fuel, the same answer -/
def Mn (f f' : RZ → Option (Nat ⊕ RZ)) : Prop := ∀ z r, f z = some r → f' z = some r
theorem oB_mn {a a' : Option (Nat ⊕ RZ)} (h1 : ∀ r, a = some r → a' = some r) (h2 : Mn f f') (e : oB a f = some r) : oB a' f' = some r := by
  cases ha : a with
  | none => rw [ha] at e; cases e
  | some x =>
    rw [h1 x ha]
    rw [ha] at e
    cases x with
    | inl g => exact e
    | inr y => exact h2 y r e
theorem tLo_mn : ∀ (n : Nat), Mn (tLo t T n) (tLo t T (n + 1))
  | 0, z, r, e => by cases e
  | n + 1, z, r, e => by
    unfold tLo at e ⊢
    cases hs : sgA tS t T (nxt t T z.1) with
    | none => rw [hs] at e; exact e
    | some o =>
      rw [hs] at e
      exact oB_mn (fun r h => h) (fun z1 r h => tLo_mn n _ r h) e
theorem sLo_mn : ∀ (n : Nat), Mn (sLo t T n) (sLo t T (n + 1))
  | 0, z, r, e => by cases e
  | n + 1, z, r, e => by
    unfold sLo at e ⊢
    cases hs : sgA adS t T (nxt t T z.1) with
    | none => rw [hs] at e; exact e
    | some o =>
      rw [hs] at e
      exact oB_mn (fun r h => h) (fun z1 r h => oB_mn (fun r h => tLo_mn n _ r h) (fun z2 r h => sLo_mn n _ r h) h) e
theorem Mn.le {F : Nat → RZ → Option (Nat ⊕ RZ)} (h : ∀ n, Mn (F n) (F (n + 1))) {n m : Nat} (hm : n ≤ m) : Mn (F n) (F m) := by
  induction hm with
  | refl => exact fun z r e => e
  | step _ ih => exact fun z r e => h _ z r (ih z r e)
theorem sumP_mn (h : n ≤ m) : Mn (sumP t T n) (sumP t T m) := fun z r e => oB_mn (fun r h => h) (fun z1 r h1 => oB_mn (fun r h2 => Mn.le tLo_mn h _ r h2) (fun z2 r h2 => Mn.le sLo_mn h _ r h2) h1) e
theorem cmpP_mn (h : n ≤ m) : Mn (cmpP t T n) (cmpP t T m) := fun z r e => oB_mn (fun r h1 => sumP_mn h _ r h1) (fun z1 r h1 => by
  cases hs : sgC t T (nxt t T z1.1) with
  | none => rw [hs] at h1; exact h1
  | some x =>
    rw [hs] at h1
    exact oB_mn (fun r h => h) (fun z2 r h2 => oB_mn (fun r h3 => sumP_mn h _ r h3) (fun z3 r h3 => h3) h2) h1) e
theorem parL_mn (hf : Mn f f') : ∀ (n m : Nat), n ≤ m → Mn (parL t T f n) (parL t T f' m)
  | 0, m, hm, z, r, e => by cases e
  | n + 1, 0, hm, z, r, e => absurd hm (by omega)
  | n + 1, m + 1, hm, z, r, e => by
    unfold parL at e ⊢
    by_cases h : wdl t T (nxt t T z.1) = wAnd
    · rw [if_pos h] at e ⊢
      exact oB_mn (fun r h => hf _ r h) (fun z1 r h => parL_mn hf n m (by omega) _ r h) e
    · rw [if_neg h] at e ⊢
      exact e
theorem parP_mn (hf : Mn f f') (h : n ≤ m) : Mn (parP t T f n) (parP t T f' m) := fun z r e => oB_mn (fun r h => hf _ r h) (fun z1 r h1 => parL_mn hf n m h _ r h1) e
theorem tesL_mn (hf : Mn f f') : ∀ (n m : Nat), n ≤ m → Mn (tesL t T f n) (tesL t T f' m)
  | 0, m, hm, z, r, e => by cases e
  | n + 1, 0, hm, z, r, e => absurd hm (by omega)
  | n + 1, m + 1, hm, z, r, e => by
    unfold tesL at e ⊢
    by_cases h : wdl t T (nxt t T z.1) = wOr
    · rw [if_pos h] at e ⊢
      exact oB_mn (fun r h1 => parP_mn hf (show n ≤ m by omega) _ r h1) (fun z1 r h1 => tesL_mn hf n m (by omega) _ r h1) e
    · rw [if_neg h] at e ⊢
      exact e
theorem tesP_mn (hf : Mn f f') (h : n ≤ m) : Mn (tesP t T f n) (tesP t T f' m) := fun z r e => oB_mn (fun r h1 => parP_mn hf h _ r h1) (fun z1 r h1 => tesL_mn hf n m h _ r h1) e
theorem facP_mn : ∀ (n m : Nat), n ≤ m → ∀ dp, Mn (facP t T n dp) (facP t T m dp)
  | 0, m, hm, dp, z, r, e => by cases e
  | n + 1, 0, hm, dp, z, r, e => absurd hm (by omega)
  | n + 1, m + 1, hm, dp, z, r, e => by
    unfold facP at e ⊢
    by_cases h : wdl t T (nxt t T z.1) = wNot
    · rw [if_pos h] at e ⊢
      by_cases h2 : 10 ≤ dp
      · rw [if_pos h2] at e ⊢; exact e
      · rw [if_neg h2] at e ⊢
        exact oB_mn (fun r h1 => facP_mn n m (by omega) _ _ r h1) (fun z1 r h1 => h1) e
    · rw [if_neg h] at e ⊢
      by_cases h3 : nxt t T z.1 < T ∧ t (nxt t T z.1) = 91
      · rw [if_pos h3] at e ⊢
        by_cases h2 : 10 ≤ dp
        · rw [if_pos h2] at e ⊢; exact e
        · rw [if_neg h2] at e ⊢
          exact oB_mn (fun r h1 => tesP_mn (facP_mn n m (by omega) _) (show n ≤ m by omega) _ r h1) (fun z1 r h1 => h1) e
      · rw [if_neg h3] at e ⊢
        exact cmpP_mn (show n ≤ m by omega) _ r e
theorem mch_mn : ∀ (n m : Nat), n ≤ m → ∀ (b : Bool) (s : List Nat) (z : RZ) (r : Nat ⊕ RZ), mch t T n b s z = some r → mch t T m b s z = some r
  | 0, m, hm, b, s, z, r, e => by cases e
  | n + 1, 0, hm, b, s, z, r, e => absurd hm (by omega)
  | n + 1, m + 1, hm, true, s, z, r, e => by
    unfold mch at e ⊢
    by_cases h : wdl t T (nxt t T z.1) = wNot
    · rw [if_pos h] at e ⊢
      by_cases h2 : dpS s = 10
      · rw [if_pos h2] at e ⊢; exact e
      · rw [if_neg h2] at e ⊢
        exact mch_mn n m (by omega) _ _ _ r e
    · rw [if_neg h] at e ⊢
      by_cases h3 : nxt t T z.1 < T ∧ t (nxt t T z.1) = 91
      · rw [if_pos h3] at e ⊢
        by_cases h2 : dpS s = 10
        · rw [if_pos h2] at e ⊢; exact e
        · rw [if_neg h2] at e ⊢
          exact mch_mn n m (by omega) _ _ _ r e
      · rw [if_neg h3] at e ⊢
        exact oB_mn (fun r h1 => cmpP_mn (show n ≤ m by omega) _ r h1) (fun z1 r h1 => mch_mn n m (by omega) _ _ _ r h1) e
  | n + 1, m + 1, hm, false, s, z, r, e => by
    unfold mch at e ⊢
    by_cases h : (nxt t T z.1 < T ∧ t (nxt t T z.1) = 93) ∧ insS (stl 3 s z).1 = true
    · rw [if_pos h] at e ⊢
      exact mch_mn n m (by omega) _ _ _ r e
    · rw [if_neg h] at e ⊢
      by_cases h2 : wdl t T (nxt t T z.1) = wAnd
      · rw [if_pos h2] at e ⊢
        exact mch_mn n m (by omega) _ _ _ r e
      · rw [if_neg h2] at e ⊢
        by_cases h3 : wdl t T (nxt t T z.1) = wOr
        · rw [if_pos h3] at e ⊢
          exact mch_mn n m (by omega) _ _ _ r e
        · rw [if_neg h3] at e ⊢
          exact e
theorem stl_at (k : Nat) : ∀ (s : List Nat) (z : RZ) (p : Nat), stl k s (zAt z p) = ((stl k s z).1, zAt (stl k s z).2 p)
  | [], z, p => rfl
  | x :: s, z, p => by
    unfold stl
    by_cases h : k ≤ strS x
    · rw [if_pos h, if_pos h]
      exact stl_at k s (zE z x) p
    · rw [if_neg h, if_neg h]
/-- blanks do not matter to it -/
theorem mch_at (hp : z.1 ≤ T) (b : Bool) (s : List Nat) : mch t T n b s (zAt z (nxt t T z.1)) = mch t T n b s z := by
  have e : nxt t T (zAt z (nxt t T z.1)).1 = nxt t T z.1 := nxt_nxt hp
  cases n with
  | zero => rfl
  | succ n =>
    cases b with
    | true =>
      unfold mch
      rw [e]
      rfl
    | false =>
      unfold mch
      rw [e]
      simp only [stl_at]
      rfl
/-- the top is an 'or', a bracket, or nothing -/
def hd3 (s : List Nat) : Prop := ∀ x r, s = x :: r → strS x ≤ 1
theorem stl_hd {k : Nat} (hk : 2 ≤ k) {s : List Nat} (h : hd3 s) (z : RZ) : stl k s z = (s, z) := by
  cases s with
  | nil => rfl
  | cons x r =>
    have := h x r rfl
    unfold stl
    rw [if_neg (by omega)]
theorem ltr_93 {c : Nat} (h : wdl t T q ≠ []) (hc : t q = c) : 97 ≤ c ∧ c ≤ 122 ∧ q < T := by
  cases hl : ltr t T q with
  | false => exact absurd (wdl_n hl) h
  | true =>
    have := of_decide_eq_true hl
    omega
theorem mch_11 (s : List Nat) (z : RZ) : mch t T n false (11 :: s) z = mch t T n false s (zE z 11) := by
  cases n with
  | zero => rfl
  | succ n => rfl
theorem mch_12 {s : List Nat} (h : hd3 s) (z : RZ) : mch t T n false (12 :: s) z = mch t T n false s (zE z 12) := by
  cases n with
  | zero => rfl
  | succ n =>
    have e1 : stl 3 (12 :: s) z = (12 :: s, z) := rfl
    have e2 : stl 3 s (zE z 12) = (s, zE z 12) := stl_hd (by omega) h _
    have e3 : insS (12 :: s) = insS s := rfl
    unfold mch
    rw [e1, e2]
    rfl
theorem mch_13 {s : List Nat} (h : hd3 s) (h13 : ∀ r, s ≠ 13 :: r) (z : RZ) (hA : wdl t T (nxt t T z.1) ≠ wAnd) : mch t T n false (13 :: s) z = mch t T n false s (zE z 13) := by
  cases n with
  | zero => rfl
  | succ n =>
    have e1 : stl 3 (13 :: s) z = (13 :: s, z) := rfl
    have e2 : stl 3 s (zE z 13) = (s, zE z 13) := stl_hd (by omega) h _
    have e3 : insS (13 :: s) = insS s := rfl
    have hA' : wdl t T (nxt t T (zE z 13).1) ≠ wAnd := hA
    unfold mch
    rw [e1, e2, if_neg hA, if_neg hA']
    rfl
def zOk (T : Nat) (z : RZ) : Prop := z.1 ≤ T ∧ z.2.2 ≤ 60
/-- what a parser of facts says, the machine says, whatever lies below -/
def Fm (t : Nat → Nat) (T : Nat) (f : RZ → Option (Nat ⊕ RZ)) (dp : Nat) : Prop := ∀ z r, zOk T z → f z = some r → ∀ s, dpS s = dp → (∀ g, r = .inl g → ∃ m, mch t T m true s z = some (.inl g)) ∧ ∀ z1, r = .inr z1 → zOk T z1 ∧ ∀ m x, mch t T m false s z1 = some x → ∃ m', mch t T m' true s z = some x
theorem parL_m (F : Fm t T f dp) : ∀ (k : Nat) (z : RZ) (r : Nat ⊕ RZ), zOk T z → parL t T f k z = some r → ∀ s, dpS s = dp → hd3 s → (∀ g, r = .inl g → ∃ m, mch t T m false s z = some (.inl g)) ∧ ∀ z1, r = .inr z1 → zOk T z1 ∧ wdl t T (nxt t T z1.1) ≠ wAnd ∧ ∀ m x, mch t T m false s z1 = some x → ∃ m', mch t T m' false s z = some x
  | 0, z, r, hz, e, s, hs, h3 => by cases e
  | k + 1, z, r, hz, e, s, hs, h3 => by
    unfold parL at e
    have hq := nxt_le (t := t) hz.1
    by_cases h : wdl t T (nxt t T z.1) = wAnd
    · rw [if_pos h] at e
      have hE := (wE_le (t := t) hq.2).2
      have hl := ltr_93 (t := t) (T := T) (q := nxt t T z.1) (by rw [h]; decide) rfl
      have d12 : dpS (12 :: s) = dp := by show (if 12 = 11 ∨ 12 = 91 then 1 else 0) + dpS s = dp; rw [if_neg (by decide), hs]; omega
      have back : ∀ m x, mch t T m true (12 :: s) (zAt z (wE t T (nxt t T z.1))) = some x → mch t T (m + 1) false s z = some x := by
        intro m x hx
        unfold mch
        simp only [stl_hd (k := 3) (by omega) h3, stl_hd (k := 2) (by omega) h3]
        rw [if_neg (fun y => by have := y.1.2; omega), if_pos h]
        exact hx
      cases hf : f (zAt z (wE t T (nxt t T z.1))) with
      | none => rw [hf] at e; cases e
      | some x =>
        obtain ⟨F1, F2⟩ := F (zAt z (wE t T (nxt t T z.1))) x ⟨hE, hz.2⟩ hf (12 :: s) d12
        rw [hf] at e
        cases x with
        | inl g0 =>
          have e : some (.inl g0) = some r := e
          have e := Option.some.inj e
          refine ⟨fun g hg => ?_, fun z1 hz1 => by rw [← e] at hz1; cases hz1⟩
          obtain ⟨m, hm⟩ := F1 g (e.trans hg)
          exact ⟨m + 1, back m _ hm⟩
        | inr z2 =>
          obtain ⟨z2T, F2⟩ := F2 z2 rfl
          have e : parL t T f k (zE z2 12) = some r := e
          obtain ⟨I1, I2⟩ := parL_m F k (zE z2 12) r z2T e s hs h3
          refine ⟨fun g hg => ?_, fun z1 hz1 => ?_⟩
          · obtain ⟨m, hm⟩ := I1 g hg
            rw [← mch_12 h3] at hm
            obtain ⟨m', hm'⟩ := F2 m _ hm
            exact ⟨m' + 1, back m' _ hm'⟩
          · obtain ⟨i1, i2, i3⟩ := I2 z1 hz1
            refine ⟨i1, i2, fun m x hx => ?_⟩
            obtain ⟨m', hm'⟩ := i3 m x hx
            rw [← mch_12 h3] at hm'
            obtain ⟨m2, hm2⟩ := F2 m' _ hm'
            exact ⟨m2 + 1, back m2 _ hm2⟩
    · rw [if_neg h] at e
      have e := Option.some.inj e
      refine ⟨fun g hg => (by rw [← e] at hg; cases hg), fun z1 hz1 => ?_⟩
      have e1 : z1 = zAt z (nxt t T z.1) := Sum.inr.inj (hz1.symm.trans e.symm)
      subst e1
      refine ⟨⟨hq.2, hz.2⟩, by show wdl t T (nxt t T (nxt t T z.1)) ≠ wAnd; rw [nxt_nxt hz.1]; exact h, fun m x hx => ⟨m, ?_⟩⟩
      rw [mch_at hz.1] at hx
      exact hx
theorem parP_m (F : Fm t T f dp) {k : Nat} (hz : zOk T z) (e : parP t T f k z = some r) {s : List Nat} (hs : dpS s = dp) (h3 : hd3 s) : (∀ g, r = .inl g → ∃ m, mch t T m true s z = some (.inl g)) ∧ ∀ z1, r = .inr z1 → zOk T z1 ∧ wdl t T (nxt t T z1.1) ≠ wAnd ∧ ∀ m x, mch t T m false s z1 = some x → ∃ m', mch t T m' true s z = some x := by
  unfold parP at e
  cases hf : f z with
  | none => rw [hf] at e; cases e
  | some x =>
    obtain ⟨F1, F2⟩ := F z x hz hf s hs
    rw [hf] at e
    cases x with
    | inl g0 =>
      have e := Option.some.inj e
      exact ⟨fun g hg => F1 g (e.trans hg), fun z1 hz1 => by rw [← e] at hz1; cases hz1⟩
    | inr z2 =>
      obtain ⟨z2T, F2⟩ := F2 z2 rfl
      obtain ⟨I1, I2⟩ := parL_m F k z2 r z2T e s hs h3
      refine ⟨fun g hg => ?_, fun z1 hz1 => ?_⟩
      · obtain ⟨m, hm⟩ := I1 g hg
        exact F2 m _ hm
      · obtain ⟨i1, i2, i3⟩ := I2 z1 hz1
        refine ⟨i1, i2, fun m x hx => ?_⟩
        obtain ⟨m', hm'⟩ := i3 m x hx
        exact F2 m' _ hm'
theorem tesL_m (F : Fm t T f dp) : ∀ (k : Nat) (z : RZ) (r : Nat ⊕ RZ), zOk T z → wdl t T (nxt t T z.1) ≠ wAnd → tesL t T f k z = some r → ∀ s, dpS s = dp → hd3 s → (∀ r, s ≠ 13 :: r) → (∀ g, r = .inl g → ∃ m, mch t T m false s z = some (.inl g)) ∧ ∀ z1, r = .inr z1 → zOk T z1 ∧ nxt t T z1.1 = z1.1 ∧ wdl t T (nxt t T z1.1) ≠ wAnd ∧ wdl t T (nxt t T z1.1) ≠ wOr ∧ ∀ m x, mch t T m false s z1 = some x → ∃ m', mch t T m' false s z = some x
  | 0, z, r, hz, hA, e, s, hs, h3, h13 => by cases e
  | k + 1, z, r, hz, hA, e, s, hs, h3, h13 => by
    unfold tesL at e
    have hq := nxt_le (t := t) hz.1
    by_cases h : wdl t T (nxt t T z.1) = wOr
    · rw [if_pos h] at e
      have hE := (wE_le (t := t) hq.2).2
      have hl := ltr_93 (t := t) (T := T) (q := nxt t T z.1) (by rw [h]; decide) rfl
      have d13 : dpS (13 :: s) = dp := by show (if 13 = 11 ∨ 13 = 91 then 1 else 0) + dpS s = dp; rw [if_neg (by decide), hs]; omega
      have s1 : stl 1 s z = (s, z) := by
        cases s with
        | nil => rfl
        | cons x r =>
          have y := h3 x r rfl
          have : strS x = 0 := by
            unfold strS at y ⊢
            by_cases q13 : x = 13
            · exact absurd (by rw [q13]) (h13 r)
            · rw [if_neg q13] at y ⊢
              by_cases q12 : x = 12
              · rw [if_pos q12] at y; omega
              · rw [if_neg q12] at y ⊢
                by_cases q11 : x = 11
                · rw [if_pos q11] at y; omega
                · rw [if_neg q11]
          unfold stl
          rw [if_neg (by omega)]
      have back : ∀ m x, mch t T m true (13 :: s) (zAt z (wE t T (nxt t T z.1))) = some x → mch t T (m + 1) false s z = some x := by
        intro m x hx
        unfold mch
        simp only [stl_hd (k := 3) (by omega) h3, s1]
        rw [if_neg (fun y => by have := y.1.2; omega), if_neg hA, if_pos h]
        exact hx
      have h3' : hd3 (13 :: s) := fun x r e => by
        have := (List.cons.inj e).1
        rw [← this]; decide
      cases hf : parP t T f k (zAt z (wE t T (nxt t T z.1))) with
      | none => rw [hf] at e; cases e
      | some x =>
        obtain ⟨F1, F2⟩ := parP_m (z := zAt z (wE t T (nxt t T z.1))) F ⟨hE, hz.2⟩ hf d13 h3'
        rw [hf] at e
        cases x with
        | inl g0 =>
          have e := Option.some.inj e
          refine ⟨fun g hg => ?_, fun z1 hz1 => by rw [← e] at hz1; cases hz1⟩
          obtain ⟨m, hm⟩ := F1 g (e.trans hg)
          exact ⟨m + 1, back m _ hm⟩
        | inr z2 =>
          obtain ⟨z2T, z2A, F2⟩ := F2 z2 rfl
          have e : tesL t T f k (zE z2 13) = some r := e
          obtain ⟨I1, I2⟩ := tesL_m F k (zE z2 13) r z2T z2A e s hs h3 h13
          refine ⟨fun g hg => ?_, fun z1 hz1 => ?_⟩
          · obtain ⟨m, hm⟩ := I1 g hg
            rw [← mch_13 h3 h13 z2 z2A] at hm
            obtain ⟨m', hm'⟩ := F2 m _ hm
            exact ⟨m' + 1, back m' _ hm'⟩
          · obtain ⟨i1, i0, i2, i3, i4⟩ := I2 z1 hz1
            refine ⟨i1, i0, i2, i3, fun m x hx => ?_⟩
            obtain ⟨m', hm'⟩ := i4 m x hx
            rw [← mch_13 h3 h13 z2 z2A] at hm'
            obtain ⟨m2, hm2⟩ := F2 m' _ hm'
            exact ⟨m2 + 1, back m2 _ hm2⟩
    · rw [if_neg h] at e
      have e := Option.some.inj e
      refine ⟨fun g hg => (by rw [← e] at hg; cases hg), fun z1 hz1 => ?_⟩
      have e1 : z1 = zAt z (nxt t T z.1) := Sum.inr.inj (hz1.symm.trans e.symm)
      subst e1
      have en : nxt t T (zAt z (nxt t T z.1)).1 = nxt t T z.1 := nxt_nxt hz.1
      refine ⟨⟨hq.2, hz.2⟩, en, by rw [en]; exact hA, by rw [en]; exact h, fun m x hx => ⟨m, ?_⟩⟩
      rw [mch_at hz.1] at hx
      exact hx
theorem tesP_m (F : Fm t T f dp) {k : Nat} (hz : zOk T z) (e : tesP t T f k z = some r) {s : List Nat} (hs : dpS s = dp) (h3 : hd3 s) (h13 : ∀ r, s ≠ 13 :: r) : (∀ g, r = .inl g → ∃ m, mch t T m true s z = some (.inl g)) ∧ ∀ z1, r = .inr z1 → zOk T z1 ∧ nxt t T z1.1 = z1.1 ∧ wdl t T (nxt t T z1.1) ≠ wAnd ∧ wdl t T (nxt t T z1.1) ≠ wOr ∧ ∀ m x, mch t T m false s z1 = some x → ∃ m', mch t T m' true s z = some x := by
  unfold tesP at e
  cases hf : parP t T f k z with
  | none => rw [hf] at e; cases e
  | some x =>
    obtain ⟨F1, F2⟩ := parP_m F hz hf hs h3
    rw [hf] at e
    cases x with
    | inl g0 =>
      have e := Option.some.inj e
      exact ⟨fun g hg => F1 g (e.trans hg), fun z1 hz1 => by rw [← e] at hz1; cases hz1⟩
    | inr z2 =>
      obtain ⟨z2T, z2A, F2⟩ := F2 z2 rfl
      obtain ⟨I1, I2⟩ := tesL_m F k z2 r z2T z2A e s hs h3 h13
      refine ⟨fun g hg => ?_, fun z1 hz1 => ?_⟩
      · obtain ⟨m, hm⟩ := I1 g hg
        exact F2 m _ hm
      · obtain ⟨i1, i0, i2, i3, i4⟩ := I2 z1 hz1
        refine ⟨i1, i0, i2, i3, fun m x hx => ?_⟩
        obtain ⟨m', hm'⟩ := i4 m x hx
        exact F2 m' _ hm'
end SkRulep
