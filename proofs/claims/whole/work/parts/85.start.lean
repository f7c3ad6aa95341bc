/-! ===== both made anew: all is well at the start ===== -/
section SkInit2
variable {L : Nat} {xs : Nat → Int32} {r : Option Nat} {d : Nat} {h : sk_H}
theorem zop_sm (h : sk_H) (o : Nat × Nat × Nat × Nat) (h20 : 20 ≤ hn h) (ho : o.1 = 1 → 20 ≤ o.2.1) : 20 ≤ hn (zop h o) ∧ ∀ c, c < 20 → sk_same h (zop h o) c := by
  obtain ⟨o1, o2, o3, o4⟩ := o
  unfold zop
  match o1, ho with
  | 0, _ => exact ⟨by show 20 ≤ hn h + 1; omega, fun c hc => new_sm h o2 o3 (by omega)⟩
  | 1, ho =>
    have := ho rfl
    have h2 : 20 ≤ o2 := this
    exact ⟨h20, fun c hc => wR_sm h o3 (some o4) (by omega)⟩
  | n + 2, _ => exact ⟨h20, fun c hc => ⟨rfl, rfl, funext fun i => by show hI (wI h 52 23 (-1)) c i = hI h c i; rw [hI_wI, if_neg (fun q => by omega)], rfl, rfl⟩⟩
theorem zr_sm : ∀ (l : List (Nat × Nat × Nat × Nat)) (h : sk_H), 20 ≤ hn h → (∀ o ∈ l, o.1 = 1 → 20 ≤ o.2.1) → ∀ c, c < 20 → sk_same h (zr l h) c
  | [], h, h20, hl, c, hc => sk_same.rf h c
  | o :: l, h, h20, hl, c, hc => by
    obtain ⟨e1, e2⟩ := zop_sm h o h20 (hl o (List.mem_cons_self ..))
    exact (e2 c hc).trans (zr_sm l (zop h o) e1 (fun x hx => hl x (List.mem_cons_of_mem _ hx)) c hc)
theorem z_OU : OU L xs (zF L xs r) := ⟨r, fun a ha => zr_sm zO (sk_h0 L xs r) (Nat.le_refl 20) (by decide) a ha⟩
theorem z_R : ∀ q ∈ cR, hR (zF L xs r) q.1 q.2.1 = some q.2.2 := of_decide_eq_true (rfl : decide (∀ q ∈ cR, hR (zF L xs r) q.1 q.2.1 = some q.2.2) = true)
theorem z_MR0 : ∀ k ∈ List.range 40, hR (zF L xs r) 52 k = mR 52 k := of_decide_eq_true (rfl : decide (∀ k ∈ List.range 40, hR (zF L xs r) 52 k = mR 52 k) = true)
theorem z_MR (k : Nat) (hk : k < 40) : hR (zF L xs r) 52 k = mR 52 k := z_MR0 k (List.mem_range.mpr hk)
theorem z_MK0 : ∀ j ∈ List.range 20, hK (zF L xs r) (53 + j) = mK (1 + j) ∧ hN (zF L xs r) (53 + j) = mN (1 + j) := of_decide_eq_true (rfl : decide (∀ j ∈ List.range 20, hK (zF L xs r) (53 + j) = mK (1 + j) ∧ hN (zF L xs r) (53 + j) = mN (1 + j)) = true)
theorem z_MK (j : Nat) (hj : j < 21) (h1 : 1 ≤ j) : hK (zF L xs r) (52 + j) = mK j ∧ hN (zF L xs r) (52 + j) = mN j := by
  have e := z_MK0 (L := L) (xs := xs) (r := r) (j - 1) (List.mem_range.mpr (by omega))
  rw [show 53 + (j - 1) = 52 + j by omega, show 1 + (j - 1) = j by omega] at e
  exact e
def zs (l : List (Nat × Nat × Nat × Nat)) : Nat := l.foldl (fun s o => if o.1 = 0 then s + o.2.2.1 else s) 0
theorem zr_s : ∀ (l : List (Nat × Nat × Nat × Nat)) (h : sk_H), hs (zr l h) = l.foldl (fun s o => if o.1 = 0 then s + o.2.2.1 else s) (hs h)
  | [], h => rfl
  | o :: l, h => by
    have e : hs (zop h o) = if o.1 = 0 then hs h + o.2.2.1 else hs h := by
      obtain ⟨o1, o2, o3, o4⟩ := o
      unfold zop
      match o1 with
      | 0 => rfl
      | 1 => rfl
      | n + 2 => rfl
    show hs (zr l (zop h o)) = _
    rw [zr_s l (zop h o), List.foldl_cons, e]
theorem zr_Rn {c i : Nat} : ∀ (l : List (Nat × Nat × Nat × Nat)) (h : sk_H), (∀ o ∈ l, o.1 = 1 → ¬ (o.2.1 = c ∧ o.2.2.1 = i)) → hR h c i = none → hR (zr l h) c i = none
  | [], h, hl, e => e
  | o :: l, h, hl, e => by
    refine zr_Rn l (zop h o) (fun x hx => hl x (List.mem_cons_of_mem _ hx)) ?_
    have ho := hl o (List.mem_cons_self ..)
    obtain ⟨o1, o2, o3, o4⟩ := o
    unfold zop
    match o1, ho with
    | 0, _ =>
      show hR (hnew h o2 o3) c i = none
      rw [hR_new]
      by_cases q : c = hn h
      · rw [if_pos q]
      · rw [if_neg q]; exact e
    | 1, ho =>
      show hR (wR h o2 o3 (some o4)) c i = none
      rw [hR_wR, if_neg (fun q => ho rfl ⟨q.1.symm, q.2.symm⟩)]; exact e
    | n + 2, _ => exact e
theorem z_n : hn (zF L xs r) = 73 := rfl
theorem z_s : hs (zF L xs r) = 46658 := (zr_s zO (sk_h0 L xs r)).trans (show zs zO = 46658 by decide +kernel)
theorem z_k52 : hK (zF L xs r) 52 = 13 := rfl
theorem z_I20 : hI (zF L xs r) 20 = fun _ => 0 := rfl
theorem z_I23 : hI (zF L xs r) 23 = fun _ => 0 := rfl
theorem z_I28 : hI (zF L xs r) 28 = fun _ => 0 := rfl
theorem z_I62 : hI (zF L xs r) 62 = fun _ => 0 := rfl
theorem z_I72 : hI (zF L xs r) 72 = fun _ => 0 := rfl
theorem z_R26 : hR (zF L xs r) 26 = fun _ => none := funext fun i => zr_Rn zO (sk_h0 L xs r) (fun o ho h1 q => absurd q.1 ((show ∀ o ∈ zO, o.1 = 1 → ¬ o.2.1 = 26 by decide) o ho h1)) rfl
theorem z_R27 : hR (zF L xs r) 27 = fun _ => none := funext fun i => zr_Rn zO (sk_h0 L xs r) (fun o ho h1 q => absurd q.1 ((show ∀ o ∈ zO, o.1 = 1 → ¬ o.2.1 = 27 by decide) o ho h1)) rfl
theorem z_r23 : hR (zF L xs r) 23 0 = none := zr_Rn zO (sk_h0 L xs r) (by decide) rfl
theorem z_r32 : hR (zF L xs r) 32 0 = some 33 := rfl
theorem z_52 : hI (zF L xs r) 52 1 = 0 ∧ hI (zF L xs r) 52 2 = 0 ∧ hI (zF L xs r) 52 21 = 0 ∧ hI (zF L xs r) 52 25 = 0 := ⟨rfl, rfl, rfl, rfl⟩
theorem z_JJ : JJ L xs 0 (zF L xs r) := by
  refine ⟨fun _ => False, fun _ => none, 0, 0, 0, ⟨z_OU, ⟨z_K, z_R⟩, ⟨z_k52, z_MR, fun j h1 h2 => z_MK j (by omega) h1⟩, ⟨fun c hc => hc.elim, fun c hc => hc.elim⟩, ⟨?_, ?_, ?_⟩, ?_, ?_, fun a D e => (by cases e), Nat.le_refl 0, ?_, ?_, ?_, ?_⟩, ?_, fun a D e _ => ?_⟩
  · rw [z_n]; exact Nat.le_refl _
  · rw [z_n]; exact Nat.le_refl _
  · rw [z_s]; decide
  · refine ⟨0, fun _ => 0, by decide, ?_, z_52.1, fun i hi => absurd hi (by omega)⟩
    rw [z_I20]; rfl
  · refine ⟨0, fun _ => (default : RT), by decide, ?_, z_52.2.1, fun i hi => absurd hi (by omega)⟩
    rw [z_I20]; rfl
  · unfold SV
    rw [z_I62, z_I23, z_R26, z_r23]
    exact ⟨fun i hi q e => (by cases e), rfl, rfl, rfl, rfl, rfl, rfl, rfl, by decide, Or.inl ⟨rfl, fun i hi => rfl, rfl, rfl, rfl⟩⟩
  · rw [z_I23, z_52.2.2.1]
    exact ⟨rfl, by decide⟩
  · refine ⟨0, 0, fun _ => (0, 0, 0), by decide, by decide, ?_, ?_, z_52.2.2.2, fun _ => rfl, fun i hi => absurd hi (by omega), fun i k _ hk => absurd hk (by omega)⟩
    · rw [z_I28]; rfl
    · rw [z_I28]; rfl
  · refine ⟨fun _ => 0, fun k hk => Or.inl ⟨?_, ?_, rfl⟩, fun k l _ _ _ h0 => absurd rfl h0⟩
    · rw [z_R27]
    · rw [z_I72]; rfl
  · refine ⟨33, z_r32, ⟨by decide, Or.inl (by decide)⟩, fun D e => (by cases e), fun a e => ?_⟩
    rw [z_r23] at e
    cases e
  · rw [z_r23] at e
    cases e
end SkInit2
