/-! ===== what holds between two calls ===== -/
/-- a rule: how many signs, the signs (what, number), how many clauses, each from, mid, to, whether it has a test -/
abbrev RT : Type := Nat × (Nat → Nat × Nat) × Nat × (Nat → Nat × Nat × Nat × Bool)
def rN (R : RT) : Nat := R.1
def rO (R : RT) : Nat → Nat × Nat := R.2.1
def rC (R : RT) : Nat := R.2.2.1
def rL (R : RT) : Nat → Nat × Nat × Nat × Bool := R.2.2.2
def oC (o : Nat × Nat) : Int32 := match o.1 with
  | 0 => nI o.2
  | 1 => nI (100000 + o.2)
  | 2 => -1
  | 3 => -2
  | 4 => -3
  | 5 => -4
  | 6 => -6
  | 7 => -7
  | 8 => -8
  | 9 => -9
  | 10 => -10
  | 11 => -11
  | 12 => -12
  | 14 => -5
  | _ => -13
def oW (o : Nat × Nat) : Prop := (o.1 = 0 ∧ o.2 ≤ 99999) ∨ (o.1 = 1 ∧ o.2 ≤ 10) ∨ (2 ≤ o.1 ∧ o.1 ≤ 14 ∧ o.2 = 0)
/-- the kinds of what lies on the stack: a number, a truth -/
def tc1 (o : Nat × Nat) (s : List Bool) : Option (List Bool) :=
  if o.1 ≤ 1 then some (false :: s)
  else if o.1 = 11 then (match s with
    | true :: r => some (true :: r)
    | _ => none)
  else if o.1 = 12 ∨ o.1 = 13 then (match s with
    | true :: true :: r => some (true :: r)
    | _ => none)
  else (match s with
    | false :: false :: r => some (decide (6 ≤ o.1 ∧ o.1 ≤ 10) :: r)
    | _ => none)
def tc : List (Nat × Nat) → List Bool → Option (List Bool)
  | [], s => some s
  | o :: l, s => (tc1 o s).bind (tc l)
def pu (l : List (Nat × Nat)) : Nat := l.countP (fun o => decide (o.1 ≤ 1))
def sli (f : Nat → Nat × Nat) : Nat → Nat → List (Nat × Nat)
  | _, 0 => []
  | i, n + 1 => f i :: sli f (i + 1) n
def rF (R : RT) (c : Nat) : List (Nat × Nat) := sli (rO R) (rL R c).1 ((rL R c).2.1 - (rL R c).1)
def rT (R : RT) (c : Nat) : List (Nat × Nat) := sli (rO R) (rL R c).2.1 ((rL R c).2.2.1 - (rL R c).2.1)
def RW (R : RT) : Prop := rN R ≤ 400 ∧ rC R ≤ 12 ∧ (∀ i, i < rN R → oW (rO R i)) ∧ ∀ c, c < rC R → (rL R c).1 ≤ (rL R c).2.1 ∧ (rL R c).2.1 ≤ (rL R c).2.2.1 ∧ (rL R c).2.2.1 ≤ rN R ∧ tc (rF R c) [] = some [false] ∧ pu (rF R c) ≤ 60 ∧ pu (rT R c) ≤ 60 ∧ ((rL R c).2.2.2 = true → (rL R c).2.1 < (rL R c).2.2.1 ∧ tc (rT R c) [] = some [true]) ∧ ((rL R c).2.2.2 = false → (rL R c).2.1 = (rL R c).2.2.1)
/-- the class's rule at a -/
def RO (F : Nat → Prop) (h : sk_H) (a : Nat) (R : RT) : Prop := ∃ (g : Nat → Nat) (wd : Nat), F a ∧ hK h a = 7 ∧ hI h a 1 = nI (rC R) ∧ hI h a 6 = nI wd ∧ wd < 2048 ∧ (∀ i, i < rN R → (rO R i).1 = 1 → wd.testBit (rO R i).2 = true) ∧
  (hR h a 0 = some (g 0) ∧ F (g 0) ∧ hK h (g 0) = 101 ∧ hN h (g 0) = rN R ∧ ∀ i, i < rN R → hI h (g 0) i = oC (rO R i)) ∧
  (hR h a 2 = some (g 2) ∧ F (g 2) ∧ hK h (g 2) = 101 ∧ hN h (g 2) = 12 ∧ ∀ c, c < rC R → hI h (g 2) c = nI (rL R c).1) ∧
  (hR h a 3 = some (g 3) ∧ F (g 3) ∧ hK h (g 3) = 101 ∧ hN h (g 3) = 12 ∧ ∀ c, c < rC R → hI h (g 3) c = nI (rL R c).2.1) ∧
  (hR h a 4 = some (g 4) ∧ F (g 4) ∧ hK h (g 4) = 101 ∧ hN h (g 4) = 12 ∧ ∀ c, c < rC R → hI h (g 4) c = nI (rL R c).2.2.1) ∧
  (hR h a 5 = some (g 5) ∧ F (g 5) ∧ hK h (g 5) = 102 ∧ hN h (g 5) = 64)
/-- the reference's rule i -/
def MR (h : sk_H) (i : Nat) (R : RT) : Prop := hI h 57 i = nI (rC R) ∧ (∀ k, k < rN R → hI h 54 (400 * i + k) = nI ((rO R k).1 + 16 * (rO R k).2)) ∧ ∀ c, c < rC R → hI h 56 (48 * i + 4 * c) = nI (rL R c).1 ∧ hI h 56 (48 * i + 4 * c + 1) = nI (rL R c).2.1 ∧ hI h 56 (48 * i + 4 * c + 2) = (if (rL R c).2.2.2 = true then nI (rL R c).2.1 else nM) ∧ hI h 56 (48 * i + 4 * c + 3) = nI (rL R c).2.2.1
/-- a note: who, where, which stroke -/
def NO (F : Nat → Prop) (D : DD) (h : sk_H) (b : Nat) (sd : Nat → Int32) (i : Nat) : Prop := ∃ (who ns q : Nat) (x : Nat × Nat), who ≤ 1 ∧ hI h (b + 1) i = nI who ∧ sd (24 + 4 * i) = nI who ∧ ns < 2 ^ aN (dA D) ∧ hI h (b + 2) i = nI ns ∧ sd (25 + 4 * i) = nI ns ∧ hR h (b + 3) i = some q ∧ F q ∧ SO h (dA D) q x ∧ sd (26 + 4 * i) = nI x.1 ∧ sd (27 + 4 * i) = nI x.2 ∧ x ∈ aL (dA D) (dH D) (dE D) ns
/-- the shape of a state at b -/
def SS (h : sk_H) (b : Nat) : Prop := hK h b = 9 ∧ hR h b 5 = some (b + 1) ∧ hR h b 6 = some (b + 2) ∧ hR h b 7 = some (b + 3) ∧ hK h (b + 1) = 101 ∧ hN h (b + 1) = 40 ∧ hK h (b + 2) = 101 ∧ hN h (b + 2) = 40 ∧ hK h (b + 3) = 108 ∧ hN h (b + 3) = 40
/-- what a state holds and what the reference has said: standing st, turn tu, played pl -/
def SV (F : Nat → Prop) (E : Nat → Option DD) (h : sk_H) (b : Nat) (sd : Nat → Int32) (st tu pl : Nat) : Prop :=
  (∀ i, i < 40 → ∀ q, hR h (b + 3) i = some q → F q ∧ hK h q = 10) ∧ hI h b 1 = nI st ∧ hI h b 2 = nI tu ∧ hI h b 3 = nI pl ∧ sd 7 = nI tu ∧ sd 8 = nI st ∧ sd 9 = nI pl ∧ sd 10 = nI (min pl 40) ∧ tu ≤ 1 ∧
  ((hR h b 0 = none ∧ (∀ i, i ≤ 6 → sd i = nI 0) ∧ st = 0 ∧ tu = 0 ∧ pl = 0) ∨ ∃ a D, hR h b 0 = some a ∧ E a = some D ∧ dW D ∧ mSaid D sd ∧ st < 2 ^ aN (dA D) ∧ ∀ i, i < min pl 40 → NO F D h b sd i)
/-- the acts that can be undone; the oldest is number 0 -/
def AC (E : Nat → Option DD) (h : sk_H) (pl : Nat) : Prop := ∃ (nx kp : Nat) (f : Nat → Nat × Nat × Nat), nx < 20 ∧ kp ≤ 20 ∧ hI h 28 3 = nI nx ∧ hI h 28 4 = nI kp ∧ hI h 52 25 = nI kp ∧ (hR h 23 0 = none → kp = 0) ∧
  (∀ i, i < kp → (f i).2.1 ≤ 1 ∧ (f i).2.2 ≤ pl ∧ (∀ a D, hR h 23 0 = some a → E a = some D → (f i).1 < 2 ^ aN (dA D)) ∧ hI h 29 ((nx + 20 - kp + i) % 20) = nI (f i).1 ∧ hI h 30 ((nx + 20 - kp + i) % 20) = nI (f i).2.1 ∧ hI h 31 ((nx + 20 - kp + i) % 20) = nI (f i).2.2 ∧ hI h 64 (4 * i) = nI (f i).2.1 ∧ hI h 64 (4 * i + 1) = nI (f i).1 ∧ hI h 64 (4 * i + 2) = nI (f i).2.2 ∧ hI h 64 (4 * i + 3) = nI (min (f i).2.2 40)) ∧ ∀ i k, i ≤ k → k < kp → (f i).2.2 ≤ (f k).2.2
/-- the tape -/
def sx (b : Nat) : Int32 := (nI b).toInt8.toInt32
def TP (h : sk_H) : Prop := ∃ (T : Nat) (t : Nat → Nat), T ≤ 400 ∧ hI h 20 1 = nI T ∧ hI h 52 1 = nI T ∧ ∀ i, i < T → t i < 256 ∧ hI h 21 i = nI (t i) ∧ hI h 53 i = sx (t i)
/-- the rules -/
def RS (F : Nat → Prop) (h : sk_H) : Prop := ∃ (n : Nat) (R : Nat → RT), n ≤ 6 ∧ hI h 20 3 = nI n ∧ hI h 52 2 = nI n ∧ ∀ i, i < n → RW (R i) ∧ (∃ a, hR h 22 i = some a ∧ RO F h a (R i)) ∧ MR h i (R i)
/-- the images: at g k lies number k -/
def IM (F : Nat → Prop) (E : Nat → Option DD) (j : Nat) (h : sk_H) : Prop := ∃ g : Nat → Nat, (∀ k, k < 4 → (hR h 27 k = none ∧ hI h 72 k = nI 0 ∧ g k = 0) ∨ (hR h 27 k = some (g k) ∧ hI h 72 k = nI 1 ∧ 73 ≤ g k ∧ g k + 4 ≤ hn h ∧ (∀ i, i < 4 → ¬ F (g k + i)) ∧ SS h (g k) ∧ hI h (g k) 4 = hI h 71 k ∧ nI 0 ≤ hI h 71 k ∧ ∃ st tu pl, pl ≤ j ∧ SV F E h (g k) (fun i => hI h 70 (184 * k + i)) st tu pl)) ∧ ∀ k l, k < 4 → l < 4 → k ≠ l → g k ≠ 0 → g l ≠ 0 → g k + 4 ≤ g l ∨ g l + 4 ≤ g k
/-- what lies outside -/
def OU (L : Nat) (xs : Nat → Int32) (h : sk_H) : Prop := ∃ r, ∀ a, a < 20 → sk_same (sk_h0 L xs r) h a
/-- all but the tables -/
def JB (L : Nat) (xs : Nat → Int32) (F : Nat → Prop) (E : Nat → Option DD) (j : Nat) (h : sk_H) (st tu pl : Nat) : Prop :=
  OU L xs h ∧ CS h ∧ MS 52 h ∧ (Far F ∧ ∀ c, F c → c < hn h) ∧ (73 ≤ hn h ∧ hn h ≤ 73 + 70 * j ∧ hs h ≤ 60000 + 1000 * j) ∧ TP h ∧ RS F h ∧ (∀ a D, E a = some D → dW D ∧ AO F h a D) ∧ pl ≤ j ∧ SV F E h 23 (hI h 62) st tu pl ∧ (hI h 23 4 = hI h 52 21 ∧ nI 0 ≤ hI h 52 21) ∧ AC E h pl ∧ IM F E j h
/-- a table of the class, if its flag says so -/
def TI (h : sk_H) (fl arr : Nat) (T : Nat → Int32) (N : Nat) : Prop := hI h 32 fl = nI 0 ∨ (hI h 32 fl = nI 1 ∧ TB arr T N h)
def TD (h : sk_H) (D : DD) (a : Nat) : Prop := TC h D a ∧ TI h 10 44 (fun j => nI (lnT D j)) (2 ^ aN (dA D)) ∧ TI h 11 45 (plT D) (2 ^ aN (dA D)) ∧ TI h 12 46 (chT D) (2 ^ aN (dA D)) ∧ (hI h 32 13 = nI 0 ∨ (hI h 32 13 = nI 1 ∧ clK D (2 ^ aN (dA D)) h))
def JT (E : Nat → Option DD) (h : sk_H) : Prop := ∃ ta, hR h 32 0 = some ta ∧ (20 ≤ ta ∧ (ta < 73 ∨ ∃ D, E ta = some D)) ∧ (∀ D, E ta = some D → TD h D ta) ∧ ∀ a, hR h 23 0 = some a → a = ta
def JM (E : Nat → Option DD) (h : sk_H) : Prop := ∀ a D, hR h 23 0 = some a → E a = some D → MWon (dA D) h
def JJ (L : Nat) (xs : Nat → Int32) (j : Nat) (h : sk_H) : Prop := ∃ F E st tu pl, JB L xs F E j h st tu pl ∧ JT E h ∧ JM E h
section SkJ
variable {L : Nat} {xs : Nat → Int32} {F G : Nat → Prop} {E : Nat → Option DD} {h h' : sk_H} {j st tu pl b : Nat} {sd : Nat → Int32} {D : DD}
theorem sk_same.trans {h1 h2 h3 : sk_H} {a : Nat} (p : sk_same h1 h2 a) (q : sk_same h2 h3 a) : sk_same h1 h3 a := ⟨q.1.trans p.1, q.2.1.trans p.2.1, q.2.2.1.trans p.2.2.1, q.2.2.2.1.trans p.2.2.2.1, q.2.2.2.2.trans p.2.2.2.2⟩
theorem OU.k16 (o : OU L xs h) : hK h 16 = 201 ∧ hN h 16 = L ∧ hI h 16 = xs := by
  obtain ⟨r, o⟩ := o
  obtain ⟨e1, e2, e3, -⟩ := o 16 (by decide)
  exact ⟨e1, e2, e3⟩
theorem JB.ex (J : JB L xs F E j h st tu pl) : sk_Ex L xs 52 h := ⟨J.1.k16.1, J.1.k16.2.1, J.1.k16.2.2, J.2.1.k20, J.2.2.1.K52⟩
/-- a cell whose ints and references stay -/
def Kp (h h' : sk_H) (c : Nat) : Prop := hK h' c = hK h c ∧ hN h' c = hN h c ∧ hI h' c = hI h c ∧ hR h' c = hR h c
theorem Same.kp {c : Nat} (s : Same h h' c) : Kp h h' c := ⟨s.1, s.2.1, s.2.2.1, s.2.2.2.1⟩
theorem NO.kp {i : Nat} {sd' : Nat → Int32} (N : NO F D h b sd i) (k1 : hI h' (b + 1) i = hI h (b + 1) i) (k2 : hI h' (b + 2) i = hI h (b + 2) i) (k3 : hR h' (b + 3) i = hR h (b + 3) i) (hF : ∀ c, F c → G c ∧ Same h h' c) (hs : ∀ k, 24 + 4 * i ≤ k → k ≤ 27 + 4 * i → sd' k = sd k) : NO G D h' b sd' i := by
  obtain ⟨who, ns, q, x, n1, n2, n3, n4, n5, n6, n7, n8, n9, n10, n11, n12⟩ := N
  exact ⟨who, ns, q, x, n1, by rw [k1]; exact n2, by rw [hs _ (by omega) (by omega)]; exact n3, n4, by rw [k2]; exact n5, by rw [hs _ (by omega) (by omega)]; exact n6, by rw [k3]; exact n7, (hF q n8).1, n9.same (hF q n8).2, by rw [hs _ (by omega) (by omega)]; exact n10, by rw [hs _ (by omega) (by omega)]; exact n11, n12⟩
theorem SV.kp (S : SV F E h b sd st tu pl) (k0 : Kp h h' b) (k1 : Kp h h' (b + 1)) (k2 : Kp h h' (b + 2)) (k3 : Kp h h' (b + 3)) (hF : ∀ c, F c → G c ∧ Same h h' c) {sd' : Nat → Int32} (hs : ∀ k, k < 184 → sd' k = sd k) : SV G E h' b sd' st tu pl := by
  obtain ⟨s0, s1, s2, s3, s4, s5, s6, s7, s8, s9⟩ := S
  refine ⟨fun i hi q hq => ?_, by rw [k0.2.2.1]; exact s1, by rw [k0.2.2.1]; exact s2, by rw [k0.2.2.1]; exact s3, by rw [hs _ (by omega)]; exact s4, by rw [hs _ (by omega)]; exact s5, by rw [hs _ (by omega)]; exact s6, by rw [hs _ (by omega)]; exact s7, s8, ?_⟩
  · rw [k3.2.2.2] at hq
    obtain ⟨f, k⟩ := s0 i hi q hq
    exact ⟨(hF q f).1, by rw [(hF q f).2.1]; exact k⟩
  · rcases s9 with ⟨q1, q2, q3⟩ | ⟨a, D, q1, q2, qw, q3, q4, q5⟩
    · exact Or.inl ⟨by rw [k0.2.2.2]; exact q1, fun i hi => by rw [hs _ (by omega)]; exact q2 i hi, q3⟩
    · refine Or.inr ⟨a, D, by rw [k0.2.2.2]; exact q1, q2, qw, ?_, q4, fun i hi => (q5 i hi).kp (by rw [k1.2.2.1]) (by rw [k2.2.2.1]) (by rw [k3.2.2.2]) hF (fun k h1 h2 => hs k (by omega))⟩
      obtain ⟨⟨m1, m2, m3⟩, m4, m5, m6, m7, m8⟩ := q3
      refine ⟨⟨by rw [hs _ (by omega)]; exact m1, by rw [hs _ (by omega)]; exact m2, fun r hr => ?_⟩, by rw [hs _ (by omega)]; exact m4, by rw [hs _ (by omega)]; exact m5, by rw [hs _ (by omega)]; exact m6, by rw [hs _ (by omega)]; exact m7, by rw [hs _ (by omega)]; exact m8⟩
      have hr4 := qw.1.2.1
      rw [hs _ (by omega), hs _ (by omega), hs _ (by omega)]
      exact m3 r hr
theorem SS.kp (S : SS h b) (k0 : Kp h h' b) (k1 : Kp h h' (b + 1)) (k2 : Kp h h' (b + 2)) (k3 : Kp h h' (b + 3)) : SS h' b := by
  obtain ⟨s1, s2, s3, s4, s5, s6, s7, s8, s9, s10⟩ := S
  exact ⟨by rw [k0.1]; exact s1, by rw [k0.2.2.2]; exact s2, by rw [k0.2.2.2]; exact s3, by rw [k0.2.2.2]; exact s4, by rw [k1.1]; exact s5, by rw [k1.2.1]; exact s6, by rw [k2.1]; exact s7, by rw [k2.2.1]; exact s8, by rw [k3.1]; exact s9, by rw [k3.2.1]; exact s10⟩
theorem RO.same {a : Nat} {R : RT} (O : RO F h a R) (hF : ∀ c, F c → G c ∧ Same h h' c) : RO G h' a R := by
  obtain ⟨g, wd, f, k, i1, i6, w, ww, ⟨a0, f0, b0, n0, c0⟩, ⟨a2, f2, b2, n2, c2⟩, ⟨a3, f3, b3, n3, c3⟩, ⟨a4, f4, b4, n4, c4⟩, a5, f5, b5, n5⟩ := O
  have s := (hF a f).2
  have t0 := (hF _ f0).2
  have t2 := (hF _ f2).2
  have t3 := (hF _ f3).2
  have t4 := (hF _ f4).2
  have t5 := (hF _ f5).2
  exact ⟨g, wd, (hF a f).1, by rw [s.1]; exact k, by rw [s.2.2.1]; exact i1, by rw [s.2.2.1]; exact i6, w, ww,
    ⟨by rw [s.2.2.2.1]; exact a0, (hF _ f0).1, by rw [t0.1]; exact b0, by rw [t0.2.1]; exact n0, by rw [t0.2.2.1]; exact c0⟩,
    ⟨by rw [s.2.2.2.1]; exact a2, (hF _ f2).1, by rw [t2.1]; exact b2, by rw [t2.2.1]; exact n2, by rw [t2.2.2.1]; exact c2⟩,
    ⟨by rw [s.2.2.2.1]; exact a3, (hF _ f3).1, by rw [t3.1]; exact b3, by rw [t3.2.1]; exact n3, by rw [t3.2.2.1]; exact c3⟩,
    ⟨by rw [s.2.2.2.1]; exact a4, (hF _ f4).1, by rw [t4.1]; exact b4, by rw [t4.2.1]; exact n4, by rw [t4.2.2.1]; exact c4⟩,
    by rw [s.2.2.2.1]; exact a5, (hF _ f5).1, by rw [t5.1]; exact b5, by rw [t5.2.1]; exact n5⟩
theorem TP.kp (T : TP h) (k1 : hI h' 20 1 = hI h 20 1) (k2 : hI h' 52 1 = hI h 52 1) (k3 : hI h' 21 = hI h 21) (k4 : hI h' 53 = hI h 53) : TP h' := by
  obtain ⟨T, t, a, b, c, e⟩ := T
  exact ⟨T, t, a, by rw [k1]; exact b, by rw [k2]; exact c, by rw [k3, k4]; exact e⟩
theorem RS.kp (S : RS F h) (k1 : hI h' 20 3 = hI h 20 3) (k2 : hI h' 52 2 = hI h 52 2) (k3 : hR h' 22 = hR h 22) (k4 : hI h' 54 = hI h 54) (k5 : hI h' 56 = hI h 56) (k6 : hI h' 57 = hI h 57) (hF : ∀ c, F c → G c ∧ Same h h' c) : RS G h' := by
  obtain ⟨n, R, a, b, c, e⟩ := S
  refine ⟨n, R, a, by rw [k1]; exact b, by rw [k2]; exact c, fun i hi => ?_⟩
  obtain ⟨e1, ⟨q, e2, e3⟩, e4⟩ := e i hi
  refine ⟨e1, ⟨q, by rw [k3]; exact e2, e3.same hF⟩, ?_⟩
  unfold MR
  rw [k4, k5, k6]
  exact e4
theorem AC.kp (A : AC E h pl) (k0 : hR h' 23 0 = hR h 23 0) (k1 : hI h' 28 = hI h 28) (k2 : hI h' 29 = hI h 29) (k3 : hI h' 30 = hI h 30) (k4 : hI h' 31 = hI h 31) (k5 : hI h' 64 = hI h 64) (k6 : hI h' 52 25 = hI h 52 25) : AC E h' pl := by
  unfold AC
  rw [k0, k1, k2, k3, k4, k5, k6]
  exact A
theorem IM.kp {j' : Nat} (I : IM F E j h) (hj : j ≤ j') (hn' : hn h ≤ hn h') (k1 : hR h' 27 = hR h 27) (k2 : hI h' 72 = hI h 72) (k3 : hI h' 71 = hI h 71) (k4 : hI h' 70 = hI h 70) (hF : ∀ c, F c → G c ∧ Same h h' c) (hG : ∀ c, 73 ≤ c → c < hn h → ¬ F c → ¬ G c ∧ Kp h h' c) : IM G E j' h' := by
  obtain ⟨g, i1, i2⟩ := I
  refine ⟨g, fun k hk => ?_, i2⟩
  rcases i1 k hk with ⟨q1, q2⟩ | ⟨q1, q2, q3, q4, q5, q6, q7, q8, st, tu, pl, q9, q10⟩
  · exact Or.inl ⟨by rw [k1]; exact q1, by rw [k2]; exact q2⟩
  · have K := fun i (hi : i < 4) => hG (g k + i) (by omega) (by omega) (q5 i hi)
    have K0 : Kp h h' (g k) := (K 0 (by omega)).2
    refine Or.inr ⟨by rw [k1]; exact q1, by rw [k2]; exact q2, q3, by omega, fun i hi => (K i hi).1, q6.kp K0 (K 1 (by omega)).2 (K 2 (by omega)).2 (K 3 (by omega)).2, by rw [K0.2.2.1, k3]; exact q7, by rw [k3]; exact q8, st, tu, pl, by omega, ?_⟩
    exact q10.kp K0 (K 1 (by omega)).2 (K 2 (by omega)).2 (K 3 (by omega)).2 hF (fun k _ => by rw [k4])
/-- a query's frame, the class's or the reference's -/
def kC (c : Nat) : Bool := !(c == 32 || (Nat.ble 43 c && Nat.ble c 49) || c == 52 || c == 63 || (Nat.ble 65 c && Nat.ble c 69))
def Qf (h h' : sk_H) : Prop := h'.1 = h.1 ∧ (∀ c, kC c = true → hI h' c = hI h c ∧ hR h' c = hR h c) ∧ (∀ i, pM 52 i = false → hI h' 52 i = hI h 52 i) ∧ (∀ c, 73 ≤ c → Same h h' c) ∧ ∀ c, c < 20 → sk_same h h' c
theorem kC_C {c i : Nat} (h : kC c = true) : pC c i = false ∧ pM c i = false ∧ c ≠ 49 := by
  unfold kC at h
  rw [Bool.not_eq_true', Bool.or_eq_false_iff, Bool.or_eq_false_iff, Bool.or_eq_false_iff, Bool.or_eq_false_iff] at h
  obtain ⟨⟨⟨⟨h1, h2⟩, h3⟩, h4⟩, h5⟩ := h
  refine ⟨?_, ?_, fun q => ?_⟩
  · unfold pC; rw [h1, h2]; rfl
  · unfold pM; rw [h3, h4, h5]; rfl
  · rw [q] at h2; exact absurd h2 (by decide)
theorem pC_low {c i : Nat} (hc : c < 20) : pC c i = false := (kC_C (by
  have : ∀ c, c < 20 → kC c = true := by decide
  exact this c hc)).1
theorem pM_low {c i : Nat} (hc : c < 20) : pM c i = false := (kC_C (i := i) (by
  have : ∀ c, c < 20 → kC c = true := by decide
  exact this c hc)).2.1
theorem OU.low (o : OU L xs h) {a : Nat} (ha : a < 20) : hK h a ≠ 102 := by
  obtain ⟨r, o⟩ := o
  rw [(o a ha).1]
  show sk_ek a ≠ 102
  revert a
  decide
theorem Cq.qf (Q : Cq h h') (o : OU L xs h) : Qf h h' := by
  refine ⟨Q.1, fun c hc => ⟨?_, Q.2.1 c (kC_C (i := 0) hc).2.2⟩, fun i _ => by rw [Q.I52 (by decide)], fun c hc => Q.same hc, fun c hc => ⟨by rw [Q.eK], by rw [Q.eN], ?_, Q.2.2.2.2 c (by omega) (o.low hc), Q.2.1 c (by omega)⟩⟩
  · funext i; exact Q.I (kC_C hc).1
  · funext i; exact Q.I (pC_low hc)
theorem Mq.qf (Q : Mq h h') : Qf h h' := by
  refine ⟨Q.1, fun c hc => ⟨?_, by rw [Q.eR]⟩, fun i hi => Q.I hi, fun c hc => Q.same hc, fun c hc => ⟨by rw [Q.eK], by rw [Q.eN], ?_, Q.2.2.2 c (by omega) (by omega) (by omega), by rw [Q.eR]⟩⟩
  · funext i; exact Q.I (kC_C hc).2.1
  · funext i; exact Q.I (pM_low hc)
theorem Qf.k (Q : Qf h h') {c : Nat} (hc : kC c = true) : Kp h h' c := ⟨congrFun (congrArg (fun x => x.1) Q.1) c, congrFun (congrArg (fun x => x.2.1) Q.1) c, (Q.2.1 c hc).1, (Q.2.1 c hc).2⟩
theorem OU.qf (o : OU L xs h) (hq : ∀ c, c < 20 → sk_same h h' c) : OU L xs h' := by
  obtain ⟨r, o⟩ := o
  exact ⟨r, fun a ha => (o a ha).trans (hq a ha)⟩
theorem JB.qf (J : JB L xs F E j h st tu pl) (Q : Qf h h') (C' : CS h') (M' : MS 52 h') : JB L xs F E j h' st tu pl := by
  obtain ⟨j1, j2, j3, j4, j5, j6, j7, j8, j9, j10, j11, j12, j13⟩ := J
  have hF : ∀ c, F c → F c ∧ Same h h' c := fun c hc => ⟨hc, Q.2.2.2.1 c (j4.1 c hc)⟩
  have en : hn h' = hn h := congrArg (fun x => x.2.2.1) Q.1
  have es : hs h' = hs h := congrArg (fun x => x.2.2.2) Q.1
  have K : ∀ c, kC c = true → Kp h h' c := fun c hc => Q.k hc
  refine ⟨j1.qf Q.2.2.2.2, C', M', ⟨j4.1, fun c hc => by rw [en]; exact j4.2 c hc⟩, by rw [en, es]; exact j5, ?_, ?_, fun a D hD => ⟨(j8 a D hD).1, (j8 a D hD).2.same hF⟩, j9, ?_, ?_, ?_, ?_⟩
  · exact j6.kp (by rw [(K 20 rfl).2.2.1]) (Q.2.2.1 1 rfl) (K 21 rfl).2.2.1 (K 53 rfl).2.2.1
  · exact j7.kp (by rw [(K 20 rfl).2.2.1]) (Q.2.2.1 2 rfl) (K 22 rfl).2.2.2 (K 54 rfl).2.2.1 (K 56 rfl).2.2.1 (K 57 rfl).2.2.1 hF
  · exact j10.kp (K 23 rfl) (K 24 rfl) (K 25 rfl) (K 26 rfl) hF (fun k _ => by rw [(K 62 rfl).2.2.1])
  · rw [(K 23 rfl).2.2.1, Q.2.2.1 21 rfl]; exact j11
  · exact j12.kp (by rw [(K 23 rfl).2.2.2]) (K 28 rfl).2.2.1 (K 29 rfl).2.2.1 (K 30 rfl).2.2.1 (K 31 rfl).2.2.1 (K 64 rfl).2.2.1 (Q.2.2.1 25 rfl)
  · exact j13.kp (Nat.le_refl _) (by omega) (K 27 rfl).2.2.2 (K 72 rfl).2.2.1 (K 71 rfl).2.2.1 (K 70 rfl).2.2.1 hF (fun c h1 _ hc => ⟨hc, (Q.2.2.2.1 c h1).kp⟩)
/-- one call more -/
theorem JB.s (J : JB L xs F E j h st tu pl) : JB L xs F E (j + 1) h st tu pl := by
  obtain ⟨j1, j2, j3, j4, j5, j6, j7, j8, j9, j10, j11, j12, j13⟩ := J
  exact ⟨j1, j2, j3, j4, by omega, j6, j7, j8, by omega, j10, j11, j12, j13.kp (by omega) (Nat.le_refl _) rfl rfl rfl rfl (fun c hc => ⟨hc, Same.refl h c⟩) (fun c _ _ hc => ⟨hc, rfl, rfl, rfl, rfl⟩)⟩
theorem TI.mq {fl arr N : Nat} {T : Nat → Int32} (t : TI h fl arr T N) (Q : Mq h h') (ha : arr ≤ 51) : TI h' fl arr T N := by
  rcases t with q | ⟨q1, q2⟩
  · exact Or.inl (by rw [Q.I51 (by decide)]; exact q)
  · exact Or.inr ⟨by rw [Q.I51 (by decide)]; exact q1, fun j hj => by rw [Q.I51 ha]; exact q2 j hj⟩
theorem TFl.mq (t : TFl h D) (Q : Mq h h') : TFl h' D := ⟨by rw [Q.I51 (by decide)]; exact t.1, by rw [Q.2.2.2 43 (by decide) (by decide) (by decide)]; exact t.2⟩
theorem TC.mq {a : Nat} (t : TC h D a) (Q : Mq h h') : TC h' D a := ⟨by rw [Q.eR]; exact t.1, by rw [Q.I51 (by decide)]; exact t.2.1, by rw [Q.I51 (by decide)]; exact t.2.2.1, t.2.2.2.imp (fun q => by rw [Q.I51 (by decide)]; exact q) (fun q => q.mq Q)⟩
theorem TD.mq {a : Nat} (t : TD h D a) (Q : Mq h h') : TD h' D a := by
  obtain ⟨t1, t2, t3, t4, t5⟩ := t
  refine ⟨t1.mq Q, t2.mq Q (by decide), t3.mq Q (by decide), t4.mq Q (by decide), t5.imp (fun q => by rw [Q.I51 (by decide)]; exact q) (fun q => ⟨by rw [Q.I51 (by decide)]; exact q.1, fun j hj => by rw [Q.I51 (by decide)]; exact q.2.1 j hj, fun j hj => by rw [Q.I51 (by decide)]; exact q.2.2 j hj⟩)⟩
theorem MWon.cq {A : AD} (X : MWon A h) (Q : Cq h h') : MWon A h' := by
  unfold MWon
  rw [Q.I52 (by decide), Q.I52 (by decide)]
  exact X
/-- a query asked of an alley: what it may rest on -/
def QC (F : Nat → Prop) (h : sk_H) (a : Nat) (D : DD) (c : Nat → Nat) (st : Nat) : Prop := CS h ∧ MS 52 h ∧ Far F ∧ dW D ∧ AOc F h a D c ∧ hR h 23 0 = some a ∧ hI h 23 1 = nI st ∧ st < 2 ^ aN (dA D) ∧ TD h D a ∧ mSaid D (hI h 62) ∧ hI h 62 8 = nI st ∧ MWon (dA D) h
def QR (f g : sk_H → Option (sk_H × Int32)) (h : sk_H) (a : Nat) (D : DD) : Prop := ∃ h1 h2 v, f h = some (h1, v) ∧ Cq h h1 ∧ TD h1 D a ∧ g h1 = some (h2, v) ∧ Mq h1 h2 ∧ MWon (dA D) h2
/-- a query with no alley -/
def Q0 (f g : sk_H → Option (sk_H × Int32)) (h : sk_H) : Prop := ∃ v, f h = some (h, v) ∧ g h = some (h, v)
theorem Ag_of {f g : sk_H → Option (sk_H × Int32)} (h0 : ∀ j h F E, JB L xs F E j h 0 0 0 → hR h 23 0 = none → (∀ i, i ≤ 10 → hI h 62 i = nI 0) → Q0 f g h) (h1 : ∀ j h F E st tu pl a D c, j < 512 → JB L xs F E j h st tu pl → E a = some D → QC F h a D c st → QR f g h a D) : sk_Ag (JJ L xs) L xs 52 f g := by
  intro j h hj ⟨F, E, st, tu, pl, J, T, M⟩
  obtain ⟨s0, s1, s2, s3, s4, s5, s6, s7, s8, s9⟩ := id J.2.2.2.2.2.2.2.2.2.1
  rcases s9 with ⟨q1, q2, q3, q4, q5⟩ | ⟨a, D, q1, q2, qw, q3, q4, q5⟩
  · subst q3; subst q4; subst q5
    obtain ⟨v, e1, e2⟩ := h0 j h F E J q1 (fun i hi => by
      by_cases hi6 : i ≤ 6
      · exact q2 i hi6
      · rcases (show i = 7 ∨ i = 8 ∨ i = 9 ∨ i = 10 by omega) with rfl | rfl | rfl | rfl
        · exact s4
        · exact s5
        · exact s6
        · exact s7)
    exact ⟨h, h, v, e1, J.ex, e2, F, E, 0, 0, 0, J.s, T, M⟩
  · obtain ⟨w, c, O⟩ := J.2.2.2.2.2.2.2.1 a D q2
    obtain ⟨ta, t1, t2, t3, t4⟩ := id T
    have hta := t4 a q1
    subst hta
    have hTD := t3 D q2
    obtain ⟨h1', h2', v, e1, Q, t', e2, Q', m'⟩ := h1 j h F E st tu pl a D c hj J q2 ⟨J.2.1, J.2.2.1, J.2.2.2.1.1, w, O, q1, s1, q4, hTD, q3, s5, M a D q1 q2⟩
    have C1 := J.2.1.cq Q
    have M1 := J.2.2.1.cq Q
    have J1 := J.qf (Q.qf J.1) C1 M1
    have J2 := J1.qf Q'.qf (C1.mq Q') (M1.mq Q')
    have r2 : hR h2' 23 0 = some a := by rw [Q'.eR, Q.2.1 23 (by decide)]; exact q1
    refine ⟨h1', h2', v, e1, J1.ex, e2, F, E, st, tu, pl, J2.s, ⟨a, (t'.mq Q').1.1, t2, fun D' hD' => ?_, fun b hb => ?_⟩, fun b D' hb hD' => ?_⟩
    · rw [q2] at hD'; cases hD'; exact t'.mq Q'
    · rw [r2] at hb; cases hb; rfl
    · rw [r2] at hb; cases hb
      rw [q2] at hD'; cases hD'; exact m'
end SkJ
