/-! ===== the claim out of the evaluator's run of the law ===== -/
/-- the memory at the law's start: what lies outside; the script, of L ints xs; a static that nobody asks -/
def sk_h0 (L : Nat) (xs : Nat → Int32) (r : Option Nat) : sk_H :=
  ((sk_ek, (fun a => if a = 1 then 5 else if a = 16 then L else if 9 ≤ a ∧ a ≤ 15 then (sk_str.map (fun q => q.2.2.2.1)).getD (a - 9) 0 else 0), 20, 0),
   (fun a => if a = 16 then xs else if 9 ≤ a ∧ a ≤ 15 then (fun j => ((sk_str.map (fun q => q.2.2.2.2)).getD (a - 9) []).getD j 0) else fun _ => 0),
   (fun a => if a = 1 then (fun j => sk_laws.getD j 0) else fun _ => 0),
   (fun a => if a = 0 then (fun j => if j = 2 then r else none) else if 2 ≤ a ∧ a ≤ 8 then (fun j => if j = 0 then some (a + 7) else none) else fun _ => none))
def sk_tm (i : Nat) : Term := Term.string (sk_str.getD i ("", 0, "", 0, [])).1 (sk_str.getD i ("", 0, "", 0, [])).2.1
section SkStart
variable {args : Array Value} {s : State}
theorem sk_arrs (hts : ∀ w ∈ lw_tbl, w.before args s = true) : ∃ cy : Nat → ClassId, ∀ (k : Nat) (q : ClassId × FieldType), ([(cy 101, .int), (cy 102, .long), (cy 103, .boolean), (cy 104, .byte), (cy 105, .char), (cy 106, .object "SkittleRow$Rule"), (cy 107, .object "SkittleRow$State"), (cy 108, .object "SkittleRow$Stroke")] : List (ClassId × FieldType))[k]? = some q → ArrOfT s q.1 q.2 ∧ va_RA s q.1 q.2 := by
  have prim : ∀ ty : FieldType, Cond.arrayClass ty ∈ lw_tbl → (∀ C, ty ≠ .object C) → ∃ c, ArrOfT s c ty ∧ va_RA s c ty := by
    intro ty h hno
    obtain ⟨cA, kA, comp, hfind, hk, hkind⟩ := Cond.arrayClass_spec (hts _ h)
    refine ⟨cA, fun n z => ⟨fun k h => (by cases h), kA, hk, comp, hkind⟩, ?_⟩
    cases ty <;> first | exact hfind | exact absurd rfl (hno _)
  have objs : ∀ C : String, Cond.arrayOver (.object C) ∈ lw_tbl → ∃ c, ArrOfT s c (.object C) ∧ va_RA s c (.object C) := by
    intro C h
    obtain ⟨comp, cA, kA, hcomp, hidx, hk, hkind, hname⟩ := Cond.arrayOver_spec (hts _ h)
    exact ⟨cA, fun n z => ⟨fun k h => (by cases h), kA, hk, comp, hkind⟩, kA, comp, hk, hkind, hcomp, hname⟩
  obtain ⟨c1, a1⟩ := prim .int (by decide +kernel) (fun _ h => by cases h)
  obtain ⟨c2, a2⟩ := prim .long (by decide +kernel) (fun _ h => by cases h)
  obtain ⟨c3, a3⟩ := prim .boolean (by decide +kernel) (fun _ h => by cases h)
  obtain ⟨c4, a4⟩ := prim .byte (by decide +kernel) (fun _ h => by cases h)
  obtain ⟨c5, a5⟩ := prim .char (by decide +kernel) (fun _ h => by cases h)
  obtain ⟨c6, a6⟩ := objs "SkittleRow$Rule" (by decide +kernel)
  obtain ⟨c7, a7⟩ := objs "SkittleRow$State" (by decide +kernel)
  obtain ⟨c8, a8⟩ := objs "SkittleRow$Stroke" (by decide +kernel)
  refine ⟨fun k => if k = 101 then c1 else if k = 102 then c2 else if k = 103 then c3 else if k = 104 then c4 else if k = 105 then c5 else if k = 106 then c6 else if k = 107 then c7 else c8, fun k q hq => ?_⟩
  match k, hq with
  | 0, hq => cases hq; exact a1
  | 1, hq => cases hq; exact a2
  | 2, hq => cases hq; exact a3
  | 3, hq => cases hq; exact a4
  | 4, hq => cases hq; exact a5
  | 5, hq => cases hq; exact a6
  | 6, hq => cases hq; exact a7
  | 7, hq => cases hq; exact a8
  | k + 8, hq => simp at hq
theorem sk_cls (hts : ∀ w ∈ sk_wds, w.before args s = true) : ∃ (dC : Nat → ClassId) (dI : Nat → Nat → Nat), ∀ (k : Nat) (q : vw_C), vwCl[k]? = some q → u_Kn s q.1 q.2.1 q.2.2 (dC k) (dI k) := by
  have h : ∀ k : Nat, ∃ d : ClassId × (Nat → Nat), ∀ q : vw_C, vwCl[k]? = some q → u_Kn s q.1 q.2.1 q.2.2 d.1 d.2 := by
    intro k
    cases hq : vwCl[k]? with
    | none => exact ⟨(0, fun _ => 0), fun q h => by cases h⟩
    | some q =>
      obtain ⟨c0, i0, h0⟩ := u_known (C := q.1) (T := q.2.1) (N := q.2.2) (n := q.2.2) hts (sk_cl_ok k q hq).1 (hts _ (sk_cl_mk k q hq).1)
      exact ⟨(c0, i0), fun q' h' => by cases h'; exact h0⟩
  obtain ⟨d, hd⟩ := Classical.axiomOfChoice h
  exact ⟨fun k => (d k).1, fun k => (d k).2, fun k q hq => hd k q hq⟩
set_option maxRecDepth 100000 in
set_option maxHeartbeats 4000000 in
/-- the outside, out of what the Statement gives -/
theorem sk_outside {b L : Nat} {xs : Nat → Int32} (hts : ∀ w ∈ lw_tbl, w.before args s = true) (hX : va_X b L xs s s.heap) (hbl : b < s.heap.size) (hgv : (Jvm.Cond.and given_1 narrow_1).before args s = true) (D : va_G) (cy : Nat → ClassId) :
    ∃ (ext : Nat → Nat) (r : Option Nat), ext 16 = b ∧ sk_XF (s.heap.size, ext, D, cy, sk_h0 L xs r) s s.heap ∧ sk_EP (s.heap.size, ext, D, cy, sk_h0 L xs r) := by
  have hs := flat_of_before _ hgv
  have hA : ∀ a : Nat, a < s.heap.size → ¬ (fun q : Nat => s.heap.size ≤ q) a := fun a h => Nat.not_le.mpr h
  obtain ⟨t1, e1, T1⟩ := va_Tof (A := fun q : Nat => s.heap.size ≤ q) (tm := .static "SkittleRow" "LAWS_THAT_HIT" "[J") (ty := .long) (N := 5) (f := fun j => .long (sk_laws.getD j 0)) (by decide) (hs _ (by decide +kernel)) (va_eqt (hs _ (by decide +kernel))) (fun j hj => va_eqtl (hs _ (by
    revert j
    decide +kernel))) hA
  obtain ⟨adK, adV, S1, ev⟩ := vk_Sof (A := fun q : Nat => s.heap.size ≤ q) (N := 7) (tm := sk_tm) (len := sk_str.map (fun q => q.2.2.2.1)) (byt := sk_str.map (fun q => q.2.2.2.2)) (by decide +kernel) (fun i hi => hs _ (by revert i; decide +kernel)) (fun i hi => hs _ (by revert i; decide +kernel)) (fun i hi => hs _ (by revert i; decide +kernel)) (fun i hi => hs _ (by revert i; decide +kernel)) (fun i hi j hj => hs _ (by revert j; revert i; decide +kernel)) (fun i j hi hj hij => by
    have : ∀ i, i < 7 → ∀ j, j < 7 → i ≠ j → (Cond.not (Cond.eq (sk_tm i) (sk_tm j))) ∈ flatC (Jvm.Cond.and given_1 narrow_1) ∨ (Cond.not (Cond.eq (sk_tm j) (sk_tm i))) ∈ flatC (Jvm.Cond.and given_1 narrow_1) := by decide +kernel
    rcases this i hi j hj hij with h | h
    · exact Or.inl (hs _ h)
    · exact Or.inr (hs _ h)) hA
  have hq := va_Zqof (A := fun q : Nat => s.heap.size ≤ q) (C := "jdk/internal/util/Preconditions") (n := "SIOOBE_FORMATTER") (d := "Ljava/util/function/BiFunction;") (hts _ (by decide +kernel)) (hts _ (by decide +kernel)) (hs _ (by decide +kernel)) hA
  obtain ⟨r0, t17, hr0, hZ⟩ : ∃ (r : Option Nat) (t : Nat), (r = none ∨ r = some 17) ∧ va_Z "jdk/internal/util/Preconditions" "SIOOBE_FORMATTER" "Ljava/util/function/BiFunction;" (va_rf (r.map (fun _ => t))) (fun q : Nat => s.heap.size ≤ q) s s.heap := by
    rcases hq with h | ⟨t, h⟩
    · exact ⟨none, 0, Or.inl rfl, h⟩
    · exact ⟨some 17, t, Or.inr rfl, h⟩
  refine ⟨fun a => if a = 1 then t1 else if 2 ≤ a ∧ a ≤ 8 then adK (a - 2) else if 9 ≤ a ∧ a ≤ 15 then adV (a - 9) else if a = 16 then b else t17, r0, rfl, ⟨T1, va_Zof (hts _ (by decide +kernel)) (hts _ (by decide +kernel)) e1 hA, ?_, ?_, va_Zof (hts _ (by decide +kernel)) (hts _ (by decide +kernel)) (va_eqi (hs _ (by decide +kernel))) hA, va_Zof (hts _ (by decide +kernel)) (hts _ (by decide +kernel)) (va_eqi (hs _ (by decide +kernel))) hA, va_Zof (hts _ (by decide +kernel)) (hts _ (by decide +kernel)) (va_eqi (hs _ (by decide +kernel))) hA, va_Zof (hts _ (by decide +kernel)) (hts _ (by decide +kernel)) (va_eqi (hs _ (by decide +kernel))) hA, ?_, ?_, hbl, va_AO.of (hts _ (by decide +kernel)), va_AO.of (hts _ (by decide +kernel)), va_AO.of (hts _ (by decide +kernel)), va_Nw.of rfl (hts _ (by decide +kernel))⟩, ?_⟩
  · have k1 : ∀ i, i < 7 → (if 2 + i = 1 then t1 else if 2 ≤ 2 + i ∧ 2 + i ≤ 8 then adK (2 + i - 2) else if 9 ≤ 2 + i ∧ 2 + i ≤ 15 then adV (2 + i - 9) else if 2 + i = 16 then b else t17) = adK i := by
      intro i hi
      rw [if_neg (by omega), if_pos (by omega), Nat.add_sub_cancel_left]
    have k2 : ∀ i, i < 7 → (if 9 + i = 1 then t1 else if 2 ≤ 9 + i ∧ 9 + i ≤ 8 then adK (9 + i - 2) else if 9 ≤ 9 + i ∧ 9 + i ≤ 15 then adV (9 + i - 9) else if 9 + i = 16 then b else t17) = adV i := by
      intro i hi
      rw [if_neg (by omega), if_neg (by omega), if_pos (by omega), Nat.add_sub_cancel_left]
    refine ⟨fun i hi => ?_, fun i j hi hj h => ?_⟩
    · have := S1.1 i hi
      dsimp only
      rw [k1 i hi, k2 i hi]
      exact this
    · dsimp only at h
      rw [k1 i hi, k1 j hj] at h
      exact S1.2 i j hi hj h
  · intro i q hq
    have hi : i < 7 := (List.getElem?_eq_some_iff.mp hq).1
    have hw : ∀ i, i < 7 → Cond.stringRef (sk_str.getD i ("", 0, "", 0, [])).1 (sk_str.getD i ("", 0, "", 0, [])).2.1 (sk_str.getD i ("", 0, "", 0, [])).2.2.1 ∈ lw_tbl := by decide +kernel
    have hg : sk_str.getD i ("", 0, "", 0, []) = q := by rw [List.getD_eq_getElem?_getD, hq]; rfl
    have h1 := hts _ (hw i hi)
    have h2 := ev i hi
    unfold sk_tm at h2
    rw [hg] at h1 h2
    dsimp only
    rw [if_neg (by omega), if_pos (by omega), Nat.add_sub_cancel_left]
    exact vk_R.of (A := #[]) (by first | exact va_tabs rfl rfl h1 | exact h1) (by rw [← h2]; rfl)
  · show va_Z _ _ _ (va_rf (((sk_h0 L xs r0).2.2.2 0 2).map _)) _ _ _
    have hr2 : (sk_h0 L xs r0).2.2.2 0 2 = r0 := rfl
    rw [hr2]
    rcases hr0 with rfl | rfl
    · exact hZ
    · exact hZ
  · exact hX
  · refine ⟨rfl, rfl, fun i hi => ?_⟩
    rcases (show i = 0 ∨ i = 1 ∨ i = 2 ∨ i = 3 ∨ i = 4 ∨ i = 5 ∨ i = 6 by omega) with rfl | rfl | rfl | rfl | rfl | rfl | rfl <;> exact ⟨rfl, rfl, rfl, rfl⟩
end SkStart
