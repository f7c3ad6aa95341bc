/-! ===== the class's strokes and alleys in the memory ===== -/
def bO (o : Option Nat) : Nat := match o with
  | none => 0
  | some q => 1 <<< q
/-- the place ahead of a stroke's last one -/
def aAh (A : AD) (p k : Nat) : Option Nat := (lO A (k - 1) (some p)).bind (aNx A)
def lwH (k : Nat) : Int64 := sk_laws.getD k 0
def SO (h : sk_H) (A : AD) (s : Nat) (x : Nat × Nat) : Prop := hK h s = 10 ∧ hI h s 0 = nI x.1 ∧ hI h s 1 = nI x.2 ∧ hI h s 2 = nI (aRow A x.1) ∧ hI h s 3 = nI (sB A x.1 x.2) ∧ hI h s 4 = nI (an (bO (aPv A x.1)) (sB A x.1 x.2)) ∧ hI h s 5 = nI (an (bO (aAh A x.1 x.2)) (sB A x.1 x.2)) ∧ hJ h s 6 = lwH x.2
/-- a row of strokes from place i on -/
def AS (F : Nat → Prop) (h : sk_H) (A : AD) (arr : Nat) : Nat → List (Nat × Nat) → Prop
  | i, [] => hN h arr = i
  | i, x :: l => (∃ s, hR h arr i = some s ∧ F s ∧ SO h A s x) ∧ AS F h A arr (i + 1) l
/-- the least number that is not there -/
def mexF (l : List Nat) : Nat → Nat → Nat
  | 0, k => k
  | f + 1, k => if l.contains k then mexF l f (k + 1) else k
def mex (l : List Nat) : Nat := mexF l l.length 0
/-- what strokes leave of a plain row of n -/
def pV (H : Nat) (E : Bool) (n : Nat) (u : Nat → Nat) : List Nat := [1, 2, 3, 4].flatMap (fun k => if k ≤ n ∧ H.testBit (k - 1) = true then ((List.range (n - k + 1)).filter (fun b => !E || b == 0 || b == n - k)).map (fun b => u b ^^^ u (n - k - b)) else [])
/-- what a plain row of n is worth -/
def pW (H : Nat) (E : Bool) : Nat → Nat := fv (fun n u => mex (pV H E n u)) 0
/-- strokes that any law has; that this one has -/
def sL (A : AD) : List (Nat × Nat) := rA (fun p k => decide (sB A p k ≠ 0)) (aN A) 0 1
def sH (A : AD) (H : Nat) : List (Nat × Nat) := rA (fun p k => H.testBit (k - 1) && decide (sB A p k ≠ 0)) (aN A) 0 1
/-- an alley at a, its rows at c 8 .. c 16 -/
def AOc (F : Nat → Prop) (h : sk_H) (a : Nat) (D : DD) (c : Nat → Nat) : Prop :=
  F a ∧ hK h a = 2 ∧ (hI h a 2 = nI (aN (dA D)) ∧ hI h a 3 = nI (aK (dA D)) ∧ hI h a 4 = nI (dH D) ∧ hI h a 5 = bi (dE D) ∧ hI h a 6 = bi (dL D) ∧ hI h a 7 = nI (dS D)) ∧
  (∀ j, 8 ≤ j → j ≤ 16 → hR h a j = some (c j) ∧ F (c j)) ∧
  (hK h (c 8) = 101 ∧ hN h (c 8) = 12 ∧ ∀ p, p < aN (dA D) → hI h (c 8) p = nI (aRow (dA D) p)) ∧
  (hK h (c 9) = 101 ∧ hN h (c 9) = 4 ∧ ∀ r, r < aK (dA D) → hI h (c 9) r = nI (aSt (dA D) r)) ∧
  (hK h (c 10) = 101 ∧ hN h (c 10) = 4 ∧ ∀ r, r < aK (dA D) → hI h (c 10) r = nI (aSz (dA D) r)) ∧
  (hK h (c 11) = 103 ∧ hN h (c 11) = 4 ∧ ∀ r, r < aK (dA D) → hI h (c 11) r = bi (aRg (dA D) r)) ∧
  (hK h (c 12) = 101 ∧ hN h (c 12) = 12 ∧ ∀ p, p < aN (dA D) → hI h (c 12) p = oI (aPv (dA D) p)) ∧
  (hK h (c 13) = 101 ∧ hN h (c 13) = 12 ∧ ∀ p, p < aN (dA D) → hI h (c 13) p = oI (aNx (dA D) p)) ∧
  (hK h (c 14) = 108 ∧ AS F h (dA D) (c 14) 0 (sH (dA D) (dH D))) ∧
  (hK h (c 15) = 108 ∧ AS F h (dA D) (c 15) 0 (sL (dA D))) ∧
  (hK h (c 16) = 101 ∧ hN h (c 16) = 41 ∧ ∀ n, n ≤ 40 → hI h (c 16) n = nI (pW (dH D) (dE D) n))
def AO (F : Nat → Prop) (h : sk_H) (a : Nat) (D : DD) : Prop := ∃ c, AOc F h a D c
/-- a cell is as it was -/
def Same (h h' : sk_H) (c : Nat) : Prop := hK h' c = hK h c ∧ hN h' c = hN h c ∧ hI h' c = hI h c ∧ hR h' c = hR h c ∧ (hK h c ≠ 102 → hJ h' c = hJ h c)
section SkObj
variable {F G : Nat → Prop} {h h' : sk_H} {A : AD} {a : Nat} {D : DD} {c : Nat → Nat}
theorem SO.same {s : Nat} {x : Nat × Nat} (O : SO h A s x) (S : Same h h' s) : SO h' A s x := by
  obtain ⟨k, o⟩ := O
  obtain ⟨s1, s2, s3, s4, s5⟩ := S
  refine ⟨by rw [s1]; exact k, ?_⟩
  rw [s3, s5 (by rw [k]; decide)]
  exact o
theorem AS.same {arr : Nat} (hF : ∀ c, F c → G c ∧ Same h h' c) (h1 : hN h' arr = hN h arr) (h2 : hR h' arr = hR h arr) : ∀ (l : List (Nat × Nat)) (i : Nat), AS F h A arr i l → AS G h' A arr i l
  | [], i, o => h1.trans o
  | x :: l, i, ⟨⟨s, r, f, o⟩, q⟩ => ⟨⟨s, by rw [h2]; exact r, (hF s f).1, o.same (hF s f).2⟩, AS.same hF h1 h2 l (i + 1) q⟩
theorem AOc.same (O : AOc F h a D c) (hF : ∀ c, F c → G c ∧ Same h h' c) : AOc G h' a D c := by
  obtain ⟨f, k, i, r, o8, o9, o10, o11, o12, o13, o14, o15, o16⟩ := O
  have R := fun j h1 h2 => r j h1 h2
  have S := fun j (h1 : 8 ≤ j) (h2 : j ≤ 16) => (hF _ (r j h1 h2).2).2
  have sa := (hF a f).2
  refine ⟨(hF a f).1, by rw [sa.1]; exact k, by rw [sa.2.2.1]; exact i, fun j h1 h2 => ⟨by rw [sa.2.2.2.1]; exact (r j h1 h2).1, (hF _ (r j h1 h2).2).1⟩, ?_, ?_, ?_, ?_, ?_, ?_, ?_, ?_, ?_⟩
  · have s := S 8 (by omega) (by omega); rw [s.1, s.2.1, s.2.2.1]; exact o8
  · have s := S 9 (by omega) (by omega); rw [s.1, s.2.1, s.2.2.1]; exact o9
  · have s := S 10 (by omega) (by omega); rw [s.1, s.2.1, s.2.2.1]; exact o10
  · have s := S 11 (by omega) (by omega); rw [s.1, s.2.1, s.2.2.1]; exact o11
  · have s := S 12 (by omega) (by omega); rw [s.1, s.2.1, s.2.2.1]; exact o12
  · have s := S 13 (by omega) (by omega); rw [s.1, s.2.1, s.2.2.1]; exact o13
  · have s := S 14 (by omega) (by omega); exact ⟨by rw [s.1]; exact o14.1, AS.same hF s.2.1 s.2.2.2.1 _ _ o14.2⟩
  · have s := S 15 (by omega) (by omega); exact ⟨by rw [s.1]; exact o15.1, AS.same hF s.2.1 s.2.2.2.1 _ _ o15.2⟩
  · have s := S 16 (by omega) (by omega); rw [s.1, s.2.1, s.2.2.1]; exact o16
theorem AO.same (O : AO F h a D) (hF : ∀ c, F c → G c ∧ Same h h' c) : AO G h' a D := by
  obtain ⟨c, o⟩ := O
  exact ⟨c, o.same hF⟩
/-- cells that no query writes -/
def Far (F : Nat → Prop) : Prop := ∀ c, F c → 73 ≤ c
theorem Same.refl (h : sk_H) (c : Nat) : Same h h c := ⟨rfl, rfl, rfl, rfl, fun _ => rfl⟩
theorem Same.trans {h1 h2 h3 : sk_H} {c : Nat} (p : Same h1 h2 c) (q : Same h2 h3 c) : Same h1 h3 c := ⟨q.1.trans p.1, q.2.1.trans p.2.1, q.2.2.1.trans p.2.2.1, q.2.2.2.1.trans p.2.2.2.1, fun k => (q.2.2.2.2 (by rw [p.1]; exact k)).trans (p.2.2.2.2 k)⟩
theorem Cq.same (Q : Cq h h') {c : Nat} (hc : 73 ≤ c) : Same h h' c := ⟨by rw [Q.eK], by rw [Q.eN], Q.I52 (by omega), Q.2.1 c (by omega), Q.2.2.2.2 c (by omega)⟩
theorem Mq.same (Q : Mq h h') {c : Nat} (hc : 73 ≤ c) : Same h h' c := ⟨by rw [Q.eK], by rw [Q.eN], Q.I73 (by omega), by rw [Q.eR], fun _ => Q.2.2.2 c (by omega) (by omega) (by omega)⟩
theorem AO.cq (O : AO F h a D) (hF : Far F) (Q : Cq h h') : AO F h' a D := O.same (fun c hc => ⟨hc, Q.same (hF c hc)⟩)
theorem AO.mq (O : AO F h a D) (hF : Far F) (Q : Mq h h') : AO F h' a D := O.same (fun c hc => ⟨hc, Q.same (hF c hc)⟩)
theorem AOc.cq (O : AOc F h a D c) (hF : Far F) (Q : Cq h h') : AOc F h' a D c := O.same (fun c hc => ⟨hc, Q.same (hF c hc)⟩)
/-- the ends of a stroke, as the class asks for them -/
theorem bO_lt {o : Option Nat} (ho : ∀ x, o = some x → x < 12) : bO o < 4096 := by
  cases o with
  | none => decide
  | some q =>
    have := ho q rfl
    show 1 <<< q < 4096
    rw [Nat.one_shiftLeft]
    exact Nat.lt_of_lt_of_le (Nat.pow_lt_pow_right (by omega) this) (by decide)
theorem eO_bO {m s : Nat} (hm : m < 4096) {o : Option Nat} (ho : ∀ x, o = some x → x < 12) : (m &&& an (bO o) s = 0) = (eO (an m s) o = true) := by
  cases o with
  | none => simp [bO, an, eO]
  | some q =>
    have hq := ho q rfl
    have h1 : ∀ i, (m &&& an (bO (some q)) s).testBit i = (decide (i = q) && (an m s).testBit q) := by
      intro i
      simp only [bO, an, Nat.testBit_and, Nat.testBit_xor, Nat.one_shiftLeft, Nat.testBit_two_pow, tb_4095]
      by_cases hi : i = q
      · subst hi; simp [hq]
      · have : ¬ q = i := fun h => hi h.symm
        simp [hi, this]
    refine propext ⟨fun h0 => ?_, fun h0 => ?_⟩
    · have h2 := h1 q
      rw [h0, Nat.zero_testBit] at h2
      simp at h2
      show (!(an m s).testBit q) = true
      rw [h2]
      rfl
    · refine Nat.eq_of_testBit_eq (fun i => ?_)
      rw [h1 i, Nat.zero_testBit]
      have : (an m s).testBit q = false := by
        have h3 : (!(an m s).testBit q) = true := h0
        simpa using h3
      rw [this, Bool.and_false]
theorem and_lt {m s : Nat} (hm : m < 4096) : m &&& s < 4096 := Nat.lt_of_le_of_lt Nat.and_le_left hm
/-- whether a stroke of the alley's list can be -/
def hE (A : AD) (m : Nat) (x : Nat × Nat) : Bool := eO (an m (sB A x.1 x.2)) (aPv A x.1) || eO (an m (sB A x.1 x.2)) (aAh A x.1 x.2)
theorem aAh_lt (w : aW A) {p k : Nat} (hp : p < aN A) : ∀ x, aAh A p k = some x → x < 12 := by
  intro x hx
  unfold aAh at hx
  have w1 := w.1
  cases hl : lO A (k - 1) (some p) with
  | none => rw [hl] at hx; cases hx
  | some q =>
    rw [hl] at hx
    exact Nat.lt_of_lt_of_le (aNx_lt w (lO_lt w _ _ q (fun x hx => by cases hx; exact hp) hl) hx) w1
theorem aPv_12 (w : aW A) {p : Nat} (hp : p < aN A) : ∀ x, aPv A p = some x → x < 12 := fun x hx => Nat.lt_of_lt_of_le (aPv_lt w hp hx) w.1
theorem Sk_hasEndIn_ok (d : Nat) (w : aW A) {s m : Nat} {x : Nat × Nat} (O : SO h A s x) (hp : x.1 < aN A) (hm : m < 4096) : c_Sk_hasEndIn d (some s) (nI m) h = some (h, bi (hE A m x)) := by
  obtain ⟨k, o0, o1, o2, o3, o4, o5, o6⟩ := O
  have b1 := bO_lt (aPv_12 w hp)
  have b2 := bO_lt (aAh_lt w (k := x.2) hp)
  have b3 := and_lt (s := an (bO (aPv A x.1)) (sB A x.1 x.2)) hm
  have b4 := and_lt (s := an (bO (aAh A x.1 x.2)) (sB A x.1 x.2)) hm
  rw [e_Sk_hasEndIn]
  simp (disch := omega) only [k, o4, o5, q_an, l0, l1, q_eq, if_true, if_false, true_and, and_true, and_self, true_or, or_true, false_or, or_false, not_true_eq_false, not_false_eq_true, Option.bind_some, somene, false_and, and_false, reduceCtorEq, Nat.reduceEqDiff, eO_bO hm (aPv_12 w hp), eO_bO hm (aAh_lt w (k := x.2) hp)]
  unfold hE
  cases eO (an m (sB A x.1 x.2)) (aPv A x.1)
  · cases eO (an m (sB A x.1 x.2)) (aAh A x.1 x.2) <;> rfl
  · rfl
/-- what the class asks of a listed stroke -/
def cO (A : AD) (m : Nat) (E : Bool) (x : Nat × Nat) : Bool := decide (m &&& sB A x.1 x.2 = sB A x.1 x.2) && (!E || hE A m x)
theorem cB_cO (m p k H : Nat) (E : Bool) : cB A m p k H E = ((H.testBit (k - 1) && decide (sB A p k ≠ 0)) && cO A m E (p, k)) := by
  unfold cB cO hE aAh
  rw [Bool.and_assoc]
theorem aL_sH (H : Nat) (E : Bool) (m : Nat) : aL A H E m = (sH A H).filter (cO A m E) := rA_filter _ _ (fun p k => cB_cO m p k H E) _ _ _
theorem Al_allows_ok (d : Nat) (O : AOc F h a D c) (w : dW D) {s m : Nat} {x : Nat × Nat} (o : SO h (dA D) s x) (hp : x.1 < aN (dA D)) (hm : m < 4096) : c_Al_allows d (some a) (nI m) (some s) h = some (h, bi (cO (dA D) m (dE D) x)) := by
  obtain ⟨_, k2, i, _⟩ := O
  obtain ⟨k, o0, o1, o2, o3, o4⟩ := id o
  have b1 := sB_lt w.1 hp x.2
  have b2 := and_lt (s := sB (dA D) x.1 x.2) hm
  rw [e_Al_allows]
  simp (disch := omega) only [k, k2, o3, q_an, l0, l1, q_eq, if_true, if_false, true_and, and_true, and_self, true_or, or_true, false_or, or_false, not_true_eq_false, not_false_eq_true, Option.bind_some, somene, false_and, and_false, reduceCtorEq, Nat.reduceEqDiff, i.2.2.2.1, q_bi0, Sk_hasEndIn_ok d w.1 o hp hm]
  unfold cO
  by_cases hs : m &&& sB (dA D) x.1 x.2 = sB (dA D) x.1 x.2
  · simp only [hs, decide_true, Bool.true_and, if_true, if_false, true_and, and_true, and_self, true_or, or_true, false_or, or_false, not_true_eq_false, not_false_eq_true, Option.bind_some, somene, false_and, and_false, reduceCtorEq, Nat.reduceEqDiff]
    cases dE D
    · rfl
    · cases hE (dA D) m x <;> rfl
  · simp only [hs, decide_false, Bool.false_and, if_true, if_false, true_and, and_true, and_self, true_or, or_true, false_or, or_false, not_true_eq_false, not_false_eq_true, Option.bind_some, somene, false_and, and_false, reduceCtorEq, Nat.reduceEqDiff]
    rfl
end SkObj
