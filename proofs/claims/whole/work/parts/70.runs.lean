/-! ===== runs, counted: how many, the longest, those of one ===== -/
/-- joins of numbers: any order, 0 changes nothing -/
def Jo (op : Nat → Nat → Nat) : Prop := (∀ a b c, op (op a b) c = op a (op b c)) ∧ (∀ a b, op a b = op b a) ∧ ∀ a, op 0 a = a
theorem Jo_add : Jo (fun a b => a + b) := ⟨fun a b c => Nat.add_assoc a b c, fun a b => Nat.add_comm a b, fun a => Nat.zero_add a⟩
theorem Jo_max : Jo (fun a b => max a b) := ⟨fun a b c => Nat.max_assoc a b c, fun a b => Nat.max_comm a b, fun a => Nat.zero_max a⟩
def fo (op : Nat → Nat → Nat) (f : Nat → Nat) : Nat → Nat
  | 0 => 0
  | n + 1 => op (fo op f n) (f n)
def lvO (op : Nat → Nat → Nat) (W : Nat → Nat) : List Bool → Nat → Nat
  | [], r => W r
  | true :: l, r => lvO op W l (r + 1)
  | false :: l, r => op (W r) (lvO op W l 0)
def psO (op : Nat → Nat → Nat) (W : Nat → Nat) : List Bool → Nat
  | [] => 0
  | true :: l => psO op W l
  | false :: l => op (W (lead l)) (psO op W l)
def rsO (op : Nat → Nat → Nat) (W : Nat → Nat) : List Bool → Bool → Nat
  | [], _ => 0
  | a :: l, prev => op (if prev = true then 0 else W (lead (a :: l))) (rsO op W l a)
section SkRuns
variable {op : Nat → Nat → Nat} {W : Nat → Nat}
theorem fo_cg {f g : Nat → Nat} : ∀ {n : Nat}, (∀ i, i < n → f i = g i) → fo op f n = fo op g n
  | 0, _ => rfl
  | n + 1, h => by
    show op (fo op f n) (f n) = op (fo op g n) (g n)
    rw [fo_cg (fun i hi => h i (by omega)), h n (by omega)]
theorem fo_add (J : Jo op) (f : Nat → Nat) (a : Nat) : ∀ b, fo op f (a + b) = op (fo op f a) (fo op (fun i => f (a + i)) b)
  | 0 => by
    show fo op f a = op (fo op f a) 0
    rw [J.2.1, J.2.2]
  | b + 1 => by
    show op (fo op f (a + b)) (f (a + b)) = op (fo op f a) (op (fo op (fun i => f (a + i)) b) (f (a + b)))
    rw [fo_add J f a b, J.1]
theorem fo_rot (J : Jo op) (f : Nat → Nat) {o Z : Nat} (ho : o < Z) : fo op (fun i => f ((o + i) % Z)) Z = fo op f Z := by
  have e1 : Z = (Z - o) + o := by omega
  have e2 : Z = o + (Z - o) := by omega
  have h1 := fo_add J (fun i => f ((o + i) % Z)) (Z - o) o
  have h2 := fo_add J f o (Z - o)
  rw [← e1] at h1
  rw [← e2] at h2
  rw [h1, h2, J.2.1]
  congr 1
  · refine fo_cg (fun i hi => ?_)
    show f ((o + (Z - o + i)) % Z) = f i
    rw [show o + (Z - o + i) = i + Z by omega, Nat.add_mod_right, Nat.mod_eq_of_lt (by omega)]
  · refine fo_cg (fun i hi => ?_)
    show f ((o + i) % Z) = f (o + i)
    rw [Nat.mod_eq_of_lt (by omega)]
theorem fo_sh (J : Jo op) (f : Nat → Nat) (n : Nat) : fo op f (n + 1) = op (f 0) (fo op (fun i => f (i + 1)) n) := by
  rw [show n + 1 = 1 + n by omega, fo_add J]
  congr 1
  · show op 0 (f 0) = f 0
    rw [J.2.2]
  · exact fo_cg (fun i _ => by rw [Nat.add_comm])
theorem lo_lp (J : Jo op) : ∀ (l : List Bool) (r : Nat), lvO op W l r = op (W (r + lead l)) (psO op W l)
  | [], r => by
    show W r = op (W (r + 0)) 0
    rw [J.2.1, J.2.2, Nat.add_zero]
  | true :: l, r => by
    show lvO op W l (r + 1) = op (W (r + (lead l + 1))) (psO op W l)
    rw [lo_lp J l (r + 1), show r + 1 + lead l = r + (lead l + 1) by omega]
  | false :: l, r => by
    show op (W r) (lvO op W l 0) = op (W (r + 0)) (op (W (lead l)) (psO op W l))
    rw [lo_lp J l 0, Nat.zero_add, Nat.add_zero]
theorem ro_ok (J : Jo op) (h0 : W 0 = 0) : ∀ l : List Bool, rsO op W l true = psO op W l ∧ rsO op W l false = op (W (lead l)) (psO op W l)
  | [] => ⟨rfl, by show 0 = op (W 0) 0; rw [h0, J.2.2]⟩
  | true :: l => by
    obtain ⟨i1, i2⟩ := ro_ok J h0 l
    refine ⟨?_, ?_⟩
    · show op 0 (rsO op W l true) = psO op W l
      rw [J.2.2, i1]
    · show op (W (lead (true :: l))) (rsO op W l true) = op (W (lead (true :: l))) (psO op W l)
      rw [i1]
  | false :: l => by
    obtain ⟨i1, i2⟩ := ro_ok J h0 l
    refine ⟨?_, ?_⟩
    · show op 0 (rsO op W l false) = op (W (lead l)) (psO op W l)
      rw [J.2.2, i2]
    · show op (W 0) (rsO op W l false) = op (W 0) (op (W (lead l)) (psO op W l))
      rw [i2]
theorem ro_lv (J : Jo op) (h0 : W 0 = 0) (l : List Bool) : rsO op W l false = lvO op W l 0 := by
  rw [(ro_ok J h0 l).2, lo_lp J, Nat.zero_add]
theorem ro_xs (J : Jo op) (W : Nat → Nat) : ∀ (n : Nat) (f : Nat → Bool) (prev : Bool), rsO op W ((List.range n).map f) prev = fo op (fun i => if (if i = 0 then prev else f (i - 1)) = true then 0 else W (lead ((List.range (n - i)).map (fun t => f (i + t))))) n
  | 0, f, prev => rfl
  | n + 1, f, prev => by
    have e : (List.range (n + 1)).map f = f 0 :: (List.range n).map (fun i => f (i + 1)) := by
      rw [show n + 1 = 1 + n by omega, rg_add]
      show f 0 :: _ = _
      congr 1
      exact rg_cg (fun i _ => by rw [Nat.add_comm])
    rw [fo_sh J, e]
    show op (if prev = true then 0 else W (lead (f 0 :: (List.range n).map (fun i => f (i + 1))))) (rsO op W ((List.range n).map (fun i => f (i + 1))) (f 0)) = _
    rw [ro_xs J W n (fun i => f (i + 1)) (f 0)]
    congr 1
    · rw [if_pos rfl]
      by_cases q : prev = true
      · rw [if_pos q, if_pos q]
      · rw [if_neg q, if_neg q, ← e]
        congr 2
        exact rg_cg (fun i _ => by rw [Nat.zero_add])
    · refine fo_cg (fun i hi => ?_)
      show (if (if i = 0 then f 0 else f (i - 1 + 1)) = true then 0 else W (lead ((List.range (n - i)).map (fun t => f (i + t + 1))))) = (if (if i + 1 = 0 then prev else f (i + 1 - 1)) = true then 0 else W (lead ((List.range (n + 1 - (i + 1))).map (fun t => f (i + 1 + t)))))
      rw [if_neg (show ¬ i + 1 = 0 by omega), Nat.add_sub_cancel, show n + 1 - (i + 1) = n - i by omega]
      have e2 : (if i = 0 then f 0 else f (i - 1 + 1)) = f i := by
        by_cases q : i = 0
        · rw [if_pos q, q]
        · rw [if_neg q, show i - 1 + 1 = i by omega]
      rw [e2]
      congr 3
      exact rg_cg (fun t _ => by rw [show i + t + 1 = i + 1 + t by omega])
variable {A : AD} {r p m o i k : Nat}
/-- the run that begins at a place; that of a whole ring at its first -/
def rL' (A : AD) (m p : Nat) : Nat := if whole A (aRow A p) m = true then (if p = aSt A (aRow A p) then aSz A (aRow A p) else 0) else ru A m p
theorem row_fo (J : Jo op) (h0 : W 0 = 0) (w : aW A) (hr : r < aK A) (gp : gap A r o m) : fo op (fun j => W (rL' A m (aSt A r + j))) (aSz A r) = lvO op W (lst A r o m) 0 := by
  rw [← ro_lv J h0]
  unfold lst
  rw [ro_xs J]
  rw [← fo_rot J (fun j => W (rL' A m (aSt A r + j))) gp.1.1]
  refine fo_cg (fun i hi => ?_)
  show W (rL' A m (po A r o i)) = _
  have e : rL' A m (po A r o i) = ru A m (po A r o i) := by
    unfold rL'
    rw [po_row w hr, gap_no w hr gp]
    rfl
  rw [e, ru_po w hr gp hi]
  by_cases q : (if i = 0 then false else m.testBit (po A r o (i - 1))) = true
  · rw [if_pos q, if_pos q, h0]
  · rw [if_neg q, if_neg q]
    rfl
theorem row_whole (J : Jo op) (h0 : W 0 = 0) (w : aW A) (hr : r < aK A) (hw : whole A r m = true) : fo op (fun j => W (rL' A m (aSt A r + j))) (aSz A r) = W (aSz A r) := by
  have w3 := w.2.2.1 r hr
  obtain ⟨Z, hZ⟩ : ∃ Z, aSz A r = Z + 1 := ⟨aSz A r - 1, by omega⟩
  rw [hZ, fo_sh J]
  have e0 : rL' A m (aSt A r + 0) = Z + 1 := by
    unfold rL'
    rw [aRow_of w hr (by omega) (by omega), hw, if_pos rfl, if_pos (by omega), hZ]
  have e1 : fo op (fun i => W (rL' A m (aSt A r + (i + 1)))) Z = fo op (fun _ => 0) Z := fo_cg (fun i hi => by
    have : rL' A m (aSt A r + (i + 1)) = 0 := by
      unfold rL'
      rw [aRow_of w hr (by omega) (by omega), hw, if_pos rfl, if_neg (by omega)]
    rw [this, h0])
  have e2 : ∀ n, fo op (fun _ => 0) n = 0 := by
    intro n
    induction n with
    | zero => rfl
    | succ n ih =>
      show op (fo op (fun _ => 0) n) 0 = 0
      rw [ih, J.2.2]
  rw [e0, e1, e2, J.2.1, J.2.2]
/-- what the reference finds in a row, told from where it begins -/
def sc (op : Nat → Nat → Nat) (W : Nat → Nat) (A : AD) (r m b : Nat) : Nat := lvO op W ((List.range (aSz A r)).map (fun i => m.testBit (po A r b i))) 0
theorem row_sc (J : Jo op) (h0 : W 0 = 0) (w : aW A) (hr : r < aK A) {b : Nat} (hb : (aRg A r = false ∧ b = 0) ∨ (aRg A r = true ∧ b < aSz A r ∧ (m.testBit (aSt A r + b) = false ∨ (b = 0 ∧ whole A r m = true)))) : fo op (fun j => W (rL' A m (aSt A r + j))) (aSz A r) = sc op W A r m b := by
  have w3 := w.2.2.1 r hr
  rcases hb with ⟨g, b0⟩ | ⟨g, bl, hb⟩
  · subst b0
    have gp : gap A r 0 m := ⟨⟨by omega, Or.inr rfl⟩, fun q => by rw [g] at q; cases q⟩
    rw [row_fo J h0 w hr gp]
    rfl
  · rcases hb with hb | ⟨b0, hw⟩
    · -- the list from the gap on, and from behind it
      have key : ∀ X : List Bool, lvO op W (false :: X) 0 = lvO op W (X ++ [false]) 0 := by
        have gen : ∀ (X : List Bool) (r : Nat), lvO op W (X ++ [false]) r = lvO op W X r := by
          intro X
          induction X with
          | nil =>
            intro r
            show op (W r) (W 0) = W r
            rw [h0, J.2.1, J.2.2]
          | cons x X ih =>
            intro r
            cases x
            · show op (W r) (lvO op W (X ++ [false]) 0) = op (W r) (lvO op W X 0)
              rw [ih]
            · exact ih (r + 1)
        intro X
        rw [gen]
        show op (W 0) (lvO op W X 0) = _
        rw [h0, J.2.2]
      obtain ⟨o, ho⟩ : ∃ o, o = (b + 1) % aSz A r := ⟨_, rfl⟩
      have hol : o < aSz A r := by rw [ho]; exact Nat.mod_lt _ (by omega)
      have e : ∀ i, po A r o i = po A r b (1 + i) := fun i => by
        unfold po
        rw [ho, Nat.mod_add_mod, Nat.add_assoc]
      have e0 : po A r b 0 = aSt A r + b := by
        unfold po
        rw [Nat.add_zero, Nat.mod_eq_of_lt bl]
      have eZ : po A r o (aSz A r - 1) = aSt A r + b := by
        rw [e, show 1 + (aSz A r - 1) = aSz A r by omega]
        unfold po
        rw [Nat.add_mod_right, Nat.mod_eq_of_lt bl]
      have gp : gap A r o m := ⟨⟨hol, Or.inl g⟩, fun _ => by rw [eZ]; exact hb⟩
      rw [row_fo J h0 w hr gp]
      unfold sc lst
      have l1 : (List.range (aSz A r)).map (fun i => m.testBit (po A r b i)) = false :: (List.range (aSz A r - 1)).map (fun i => m.testBit (po A r b (1 + i))) := by
        have h1 := rg_add (fun i => m.testBit (po A r b i)) 1 (aSz A r - 1)
        rw [show 1 + (aSz A r - 1) = aSz A r by omega] at h1
        rw [h1]
        show m.testBit (po A r b 0) :: _ = _
        rw [e0, hb]
        rfl
      have l2 : (List.range (aSz A r)).map (fun i => m.testBit (po A r o i)) = (List.range (aSz A r - 1)).map (fun i => m.testBit (po A r b (1 + i))) ++ [false] := by
        have h1 := rg_add (fun i => m.testBit (po A r o i)) (aSz A r - 1) 1
        rw [show aSz A r - 1 + 1 = aSz A r by omega] at h1
        rw [h1]
        congr 1
        · exact rg_cg (fun i _ => by rw [e])
        · show [m.testBit (po A r o (aSz A r - 1 + 0))] = [false]
          rw [Nat.add_zero, eZ, hb]
      rw [l1, l2, key]
    · subst b0
      rw [row_whole J h0 w hr hw]
      unfold sc
      have e : (List.range (aSz A r)).map (fun i => m.testBit (po A r 0 i)) = tr (aSz A r) := rg_const (fun i hi => whole_po hw (by omega) 0 i)
      rw [e]
      have : ∀ k r, lvO op W (tr k) r = W (r + k) := by
        intro k
        induction k with
        | zero => intro r; rfl
        | succ k ih =>
          intro r
          show lvO op W (tr k) (r + 1) = _
          rw [ih, show r + 1 + k = r + (k + 1) by omega]
      rw [this, Nat.zero_add]
/-- over all places -/
def allF (op : Nat → Nat → Nat) (W : Nat → Nat) (A : AD) (m : Nat) : Nat := fo op (fun p => W (rL' A m p)) (aN A)
theorem all_rows (J : Jo op) (w : aW A) (m : Nat) : ∀ n, n ≤ aK A → fo op (fun r => fo op (fun j => W (rL' A m (aSt A r + j))) (aSz A r)) n = fo op (fun p => W (rL' A m p)) (if n = 0 then 0 else aSt A (n - 1) + aSz A (n - 1))
  | 0, _ => rfl
  | n + 1, h => by
    show op (fo op (fun r => fo op (fun j => W (rL' A m (aSt A r + j))) (aSz A r)) n) (fo op (fun j => W (rL' A m (aSt A n + j))) (aSz A n)) = _
    rw [all_rows J w m n (by omega), if_neg (show ¬ n + 1 = 0 by omega), Nat.add_sub_cancel, fo_add J]
    congr 2
    by_cases q : n = 0
    · rw [if_pos q, q]; exact w.2.2.2.1.symm
    · rw [if_neg q]
      have := w.2.2.2.2.1 (n - 1) (by omega)
      rw [show n - 1 + 1 = n by omega] at this
      exact this.symm
theorem all_ok (J : Jo op) (w : aW A) (m : Nat) : fo op (fun r => fo op (fun j => W (rL' A m (aSt A r + j))) (aSz A r)) (aK A) = allF op W A m := by
  rw [all_rows J w m (aK A) (Nat.le_refl _)]
  unfold allF
  congr 1
  by_cases q : aK A = 0
  · rw [if_pos q]; exact (w.2.2.2.2.2.2 q).symm
  · rw [if_neg q]; exact w.2.2.2.2.2.1 (aK A - 1) (by omega)
end SkRuns
