/-! ===== what the evaluator's memory says of the machine's heap ===== -/
/-- where it begins; the cells outside; the tables' numbers; the kinds of rows; the memory of the outside -/
abbrev sk_En : Type := Nat × (Nat → Nat) × va_G × (Nat → ClassId) × sk_H
def sk_ad (E : sk_En) (a : Nat) : Nat := if a < 20 then E.2.1 a else E.1 + (a - 20)
def sv (E : sk_En) (v : sk_V) : Value := match v with
  | .inl x => .int x
  | .inr (.inl y) => .long y
  | .inr (.inr r) => va_rf (r.map (sk_ad E))
def sk_arr (E : sk_En) (h : sk_H) (a : Nat) : vp_A := (hN h a, if hK h a = 102 then .inr (.inl (hJ h a)) else if 106 ≤ hK h a then .inr (.inr (.inr (.inr fun j => (hR h a j).map (sk_ad E)))) else .inl (hI h a))
def sk_tag (k j : Nat) : Nat := (sk_ft (k - 1)).getD j 0
def sk_at (E : sk_En) (h : sk_H) (a : Nat) (H : Heap) : Prop :=
  (101 ≤ hK h a → H[sk_ad E a]? = some (vp_cell (E.2.2.2.1 (hK h a)) (sk_arr E h a))) ∧
  (hK h a ≤ 13 → ∃ r : vw_C, vwCl[hK h a - 1]? = some r ∧ t_OB (sk_ad E a) (E.2.2.1.1 (hK h a - 1)) r.2.2 (E.2.2.1.2 (hK h a - 1)) H (fun j => sv E (f_get h a j (sk_tag (hK h a) j))))
def sk_kd (k : Nat) : Prop := (1 ≤ k ∧ k ≤ 13) ∨ (101 ≤ k ∧ k ≤ 108)
/-- the kinds outside -/
def sk_ek (a : Nat) : Nat := if a = 1 then 202 else if 2 ≤ a ∧ a ≤ 8 then 51 else if 9 ≤ a ∧ a ≤ 15 then 204 else if a = 16 then 201 else 0
def sk_Rep (E : sk_En) (h : sk_H) (H : Heap) : Prop :=
  20 ≤ hn h ∧ H.size = E.1 + (hn h - 20) ∧ (∀ a, 20 ≤ a → a < hn h → sk_kd (hK h a) ∧ sk_at E h a H) ∧ (∀ a, hn h ≤ a → hK h a = 0) ∧
  ∀ a, a < 20 → hK h a = sk_ek a ∧ hN h a = hN E.2.2.2.2 a ∧ hI h a = hI E.2.2.2.2 a ∧ hJ h a = hJ E.2.2.2.2 a ∧ hR h a = hR E.2.2.2.2 a
abbrev sk_A0 (E : sk_En) : Nat → Prop := fun q => E.1 ≤ q
theorem sk_ek_no (a : Nat) : ¬ sk_kd (sk_ek a) := by
  unfold sk_ek sk_kd
  split
  · omega
  · split
    · omega
    · split
      · omega
      · split <;> omega
/-- a cell of a kind of ours is one of ours -/
theorem sk_Rep.own {E : sk_En} {h : sk_H} {H : Heap} (R : sk_Rep E h H) {a : Nat} (hk : sk_kd (hK h a)) : 20 ≤ a ∧ a < hn h := by
  obtain ⟨r1, r2, r3, r4, r5⟩ := R
  refine ⟨?_, ?_⟩
  · rcases Nat.lt_or_ge a 20 with q | q
    · rw [(r5 a q).1] at hk; exact absurd hk (sk_ek_no a)
    · exact q
  · rcases Nat.lt_or_ge a (hn h) with q | q
    · exact q
    · rw [r4 a q] at hk; unfold sk_kd at hk; omega
theorem sk_Rep.ext {E : sk_En} {h : sk_H} {H : Heap} (R : sk_Rep E h H) {a : Nat} (hk : ¬ sk_kd (hK h a)) (h0 : ¬ hK h a = 0) : a < 20 ∧ hK h a = sk_ek a := by
  obtain ⟨r1, r2, r3, r4, r5⟩ := R
  rcases Nat.lt_or_ge a 20 with q | q
  · exact ⟨q, (r5 a q).1⟩
  · rcases Nat.lt_or_ge a (hn h) with q2 | q2
    · exact absurd (r3 a q q2).1 hk
    · exact absurd (r4 a q2) h0
theorem sk_ad_own {E : sk_En} {a : Nat} (h : 20 ≤ a) : sk_ad E a = E.1 + (a - 20) := by
  unfold sk_ad; rw [if_neg (by omega)]
theorem sk_ad_ext {E : sk_En} {a : Nat} (h : a < 20) : sk_ad E a = E.2.1 a := by
  unfold sk_ad; rw [if_pos h]
/-! rows of the memory -/
theorem up2_s {α : Type} (f : Nat → Nat → α) (a i : Nat) (v : α) : up2 f a i v a = va_up (f a) i v := by simp [up2, va_up]
theorem up2_n {α : Type} (f : Nat → Nat → α) {a b : Nat} (i : Nat) (v : α) (h : b ≠ a) : up2 f a i v b = f b := by simp [up2, va_up, h]
theorem hI_wI_s (h : sk_H) (a i : Nat) (v : Int32) : hI (wI h a i v) a = va_up (hI h a) i v := up2_s _ _ _ _
theorem hI_wI_n (h : sk_H) {a b : Nat} (i : Nat) (v : Int32) (hb : b ≠ a) : hI (wI h a i v) b = hI h b := up2_n _ _ _ hb
theorem hJ_wJ_s (h : sk_H) (a i : Nat) (v : Int64) : hJ (wJ h a i v) a = va_up (hJ h a) i v := up2_s _ _ _ _
theorem hJ_wJ_n (h : sk_H) {a b : Nat} (i : Nat) (v : Int64) (hb : b ≠ a) : hJ (wJ h a i v) b = hJ h b := up2_n _ _ _ hb
theorem hR_wR_s (h : sk_H) (a i : Nat) (v : Option Nat) : hR (wR h a i v) a = va_up (hR h a) i v := up2_s _ _ _ _
theorem hR_wR_n (h : sk_H) {a b : Nat} (i : Nat) (v : Option Nat) (hb : b ≠ a) : hR (wR h a i v) b = hR h b := up2_n _ _ _ hb
/-- two memories that are one at an address -/
def sk_same (h h' : sk_H) (a : Nat) : Prop := hK h' a = hK h a ∧ hN h' a = hN h a ∧ hI h' a = hI h a ∧ hJ h' a = hJ h a ∧ hR h' a = hR h a
theorem sk_at.kept {E : sk_En} {h h' : sk_H} {a : Nat} {H H' : Heap} (hs : sk_same h h' a) (hq : H'[sk_ad E a]? = H[sk_ad E a]?) (h0 : sk_at E h a H) : sk_at E h' a H' := by
  obtain ⟨e1, e2, e3, e4, e5⟩ := hs
  have hg : ∀ j t, f_get h' a j t = f_get h a j t := by
    intro j t
    unfold f_get
    rw [e3, e4, e5]
  refine ⟨fun hk => ?_, fun hk => ?_⟩
  · rw [e1] at hk
    have := h0.1 hk
    unfold sk_arr at this ⊢
    rw [hq, e1, e2, e3, e4, e5]
    exact this
  · rw [e1] at hk ⊢
    obtain ⟨r, h1, h2⟩ := h0.2 hk
    refine ⟨r, h1, ?_⟩
    have h3 := h2.kept (H1 := H') hq
    exact h3.to (fun k _ => by rw [hg])
/-- one cell of ours changed -/
theorem sk_Rep.put {E : sk_En} {h h' : sk_H} {H H' : Heap} {a : Nat} (R : sk_Rep E h H) (ha : 20 ≤ a) (ha2 : a < hn h) (hn' : hn h' = hn h) (hK' : hK h' a = hK h a) (hs : ∀ b, b ≠ a → sk_same h h' b) (hz : H'.size = H.size) (hq : ∀ q, q ≠ sk_ad E a → H'[q]? = H[q]?) (hc : sk_at E h' a H') : sk_Rep E h' H' := by
  obtain ⟨r1, r2, r3, r4, r5⟩ := R
  refine ⟨by omega, by rw [hz, hn']; exact r2, fun b h1 h2 => ?_, fun b hb => ?_, fun b hb => ?_⟩
  · by_cases hba : b = a
    · subst hba
      rw [hK']
      exact ⟨(r3 b h1 ha2).1, hc⟩
    · rw [(hs b hba).1]
      refine ⟨(r3 b h1 (by omega)).1, sk_at.kept (hs b hba) (hq _ ?_) (r3 b h1 (by omega)).2⟩
      rw [sk_ad_own h1, sk_ad_own ha]
      omega
  · rw [(hs b (by omega)).1]; exact r4 b (by omega)
  · obtain ⟨e1, e2, e3, e4, e5⟩ := hs b (by omega)
    rw [e1, e2, e3, e4, e5]
    exact r5 b hb
/-- a new one -/
theorem sk_Rep.push {E : sk_En} {h : sk_H} {H H' : Heap} {k n : Nat} (R : sk_Rep E h H) (hk : sk_kd k) (hz : H'.size = H.size + 1) (hq : ∀ q, q < H.size → H'[q]? = H[q]?) (hc : sk_at E (hnew h k n) (hn h) H') : sk_Rep E (hnew h k n) H' := by
  obtain ⟨r1, r2, r3, r4, r5⟩ := R
  have hn' : hn (hnew h k n) = hn h + 1 := rfl
  have hs : ∀ b, b ≠ hn h → sk_same h (hnew h k n) b := by
    intro b hb
    have hb' : b ≠ h.1.2.2.1 := hb
    refine ⟨?_, ?_, ?_, ?_, ?_⟩ <;> simp [hK, hN, hI, hJ, hR, hnew, va_up, hb']
  refine ⟨by omega, by rw [hz, hn', r2]; omega, fun b h1 h2 => ?_, fun b hb => ?_, fun b hb => ?_⟩
  · by_cases hba : b = hn h
    · subst hba
      refine ⟨?_, hc⟩
      have : hK (hnew h k n) (hn h) = k := by simp [hK, hnew, va_up, hn]
      rw [this]; exact hk
    · rw [(hs b hba).1]
      refine ⟨(r3 b h1 (by omega)).1, sk_at.kept (hs b hba) (hq _ ?_) (r3 b h1 (by omega)).2⟩
      rw [sk_ad_own h1, r2]
      omega
  · rw [(hs b (by omega)).1]; exact r4 b (by omega)
  · obtain ⟨e1, e2, e3, e4, e5⟩ := hs b (by omega)
    rw [e1, e2, e3, e4, e5]
    exact r5 b hb
/-! slots of a frame -/
def sk_lvA (E : sk_En) : Nat → sk_Ls → List (Nat × Value)
  | _, [] => []
  | i, none :: r => sk_lvA E (i + 1) r
  | i, some v :: r => (i, sv E v) :: sk_lvA E (i + 1) r
theorem sk_lv_mem (E : sk_En) : ∀ (ls : sk_Ls) (i : Nat) (q : Nat × Value), q ∈ sk_lvA E i ls ↔ ∃ k v, l_at ls k = some v ∧ q = (i + k, sv E v)
  | [], i, q => by simp [sk_lvA, l_at]
  | none :: r, i, q => by
    simp only [sk_lvA]
    rw [sk_lv_mem E r (i + 1) q]
    constructor
    · rintro ⟨k, v, h1, h2⟩; exact ⟨k + 1, v, h1, by rw [h2]; congr 1; omega⟩
    · rintro ⟨k, v, h1, h2⟩
      cases k with
      | zero => simp [l_at] at h1
      | succ k => exact ⟨k, v, h1, by rw [h2]; congr 1; omega⟩
  | some w :: r, i, q => by
    simp only [sk_lvA, List.mem_cons]
    rw [sk_lv_mem E r (i + 1) q]
    constructor
    · rintro (h | ⟨k, v, h1, h2⟩)
      · exact ⟨0, w, rfl, by rw [h]; rfl⟩
      · exact ⟨k + 1, v, h1, by rw [h2]; congr 1; omega⟩
    · rintro ⟨k, v, h1, h2⟩
      cases k with
      | zero => left; simp [l_at] at h1; subst h1; exact h2
      | succ k => right; exact ⟨k, v, h1, by rw [h2]; congr 1; omega⟩
def sk_has (E : sk_En) (als : Array Slot) (nL : Nat) (ls : sk_Ls) : Prop := lv_has als nL (sk_lvA E 0 ls)
theorem sk_has.at {E : sk_En} {als : Array Slot} {nL : Nat} {ls : sk_Ls} (h : sk_has E als nL ls) {k : Nat} {v : sk_V} (hk : l_at ls k = some v) : als[k]? = some (.val (sv E v)) := by
  have := h.2.2 (k, sv E v) ((sk_lv_mem E ls 0 _).mpr ⟨k, v, hk, by simp⟩)
  exact this
theorem sv_cat (E : sk_En) (v : sk_V) : (sv E v).category = if v_one v = true then 1 else 2 := by
  match v with
  | .inl x => rfl
  | .inr (.inl y) => rfl
  | .inr (.inr none) => rfl
  | .inr (.inr (some a)) => rfl
theorem l_s1_at : ∀ (ls : sk_Ls) (i : Nat) (v : sk_V) (j : Nat) (w : sk_V), l_at (l_s1 ls i v) j = some w → (j = i ∧ w = v) ∨ (j ≠ i ∧ l_at ls j = some w ∧ (j + 1 = i → v_one w = true))
  | [], i, v, j, w, h => by simp [l_s1, l_at] at h
  | x :: r, 0, v, 0, w, h => by simp [l_s1, l_at] at h; exact Or.inl ⟨rfl, h.symm⟩
  | x :: r, 0, v, j + 1, w, h => by
    simp only [l_s1, l_at] at h
    exact Or.inr ⟨by omega, h, by omega⟩
  | [x], 1, v, 0, w, h => by
    simp only [l_s1, l_at] at h
    refine Or.inr ⟨by omega, ?_, fun _ => ?_⟩
    · unfold v_keep at h
      split at h
      · cases h
      · exact h
    · unfold v_keep at h
      split at h
      · cases h
      · rename_i hx
        match w, h with
        | .inl _, _ => rfl
        | .inr (.inl y), h => exact absurd h (by intro q; exact hx y q)
        | .inr (.inr _), _ => rfl
  | [x], 1, v, j + 1, w, h => by simp [l_s1, l_at] at h
  | x :: y :: r, 1, v, 0, w, h => by
    simp only [l_s1, l_at] at h
    refine Or.inr ⟨by omega, ?_, fun _ => ?_⟩
    · unfold v_keep at h
      split at h
      · cases h
      · exact h
    · unfold v_keep at h
      split at h
      · cases h
      · rename_i hx
        match w, h with
        | .inl _, _ => rfl
        | .inr (.inl y), h => exact absurd h (by intro q; exact hx y q)
        | .inr (.inr _), _ => rfl
  | x :: y :: r, 1, v, 1, w, h => by simp [l_s1, l_at] at h; exact Or.inl ⟨rfl, h.symm⟩
  | x :: y :: r, 1, v, j + 2, w, h => by
    simp only [l_s1, l_at] at h
    exact Or.inr ⟨by omega, h, by omega⟩
  | x :: r, i + 2, v, 0, w, h => by
    simp only [l_s1, l_at] at h
    exact Or.inr ⟨by omega, h, by omega⟩
  | x :: r, i + 2, v, j + 1, w, h => by
    simp only [l_s1, l_at] at h
    rcases l_s1_at r (i + 1) v j w h with ⟨h1, h2⟩ | ⟨h1, h2, h3⟩
    · exact Or.inl ⟨by omega, h2⟩
    · exact Or.inr ⟨by omega, h2, fun q => h3 (by omega)⟩
theorem l_s2_at : ∀ (ls : sk_Ls) (i : Nat) (v : sk_V) (j : Nat) (w : sk_V), l_at (l_s2 ls i v) j = some w → (j = i ∧ w = v) ∨ (j ≠ i ∧ j ≠ i + 1 ∧ l_at ls j = some w ∧ (j + 1 = i → v_one w = true))
  | [], i, v, j, w, h => by simp [l_s2, l_at] at h
  | [x], 0, v, 0, w, h => by simp [l_s2, l_at] at h
  | [x], 0, v, j + 1, w, h => by simp [l_s2, l_at] at h
  | x :: y :: r, 0, v, 0, w, h => by simp [l_s2, l_at] at h; exact Or.inl ⟨rfl, h.symm⟩
  | x :: y :: r, 0, v, 1, w, h => by simp [l_s2, l_at] at h
  | x :: y :: r, 0, v, j + 2, w, h => by
    simp only [l_s2, l_at] at h
    exact Or.inr ⟨by omega, by omega, h, by omega⟩
  | [x], 1, v, 0, w, h => by
    simp only [l_s2, l_at] at h
    refine Or.inr ⟨by omega, by omega, ?_, fun _ => ?_⟩
    · unfold v_keep at h
      split at h
      · cases h
      · exact h
    · unfold v_keep at h
      split at h
      · cases h
      · rename_i hx
        match w, h with
        | .inl _, _ => rfl
        | .inr (.inl y), h => exact absurd h (by intro q; exact hx y q)
        | .inr (.inr _), _ => rfl
  | [x], 1, v, j + 1, w, h => by simp [l_s2, l_at] at h
  | [x, y], 1, v, 0, w, h => by
    simp only [l_s2, l_at] at h
    refine Or.inr ⟨by omega, by omega, ?_, fun _ => ?_⟩
    · unfold v_keep at h
      split at h
      · cases h
      · exact h
    · unfold v_keep at h
      split at h
      · cases h
      · rename_i hx
        match w, h with
        | .inl _, _ => rfl
        | .inr (.inl y2), h => exact absurd h (by intro q; exact hx y2 q)
        | .inr (.inr _), _ => rfl
  | [x, y], 1, v, 1, w, h => by simp [l_s2, l_at] at h
  | [x, y], 1, v, j + 2, w, h => by simp [l_s2, l_at] at h
  | x :: y :: z :: r, 1, v, 0, w, h => by
    simp only [l_s2, l_at] at h
    refine Or.inr ⟨by omega, by omega, ?_, fun _ => ?_⟩
    · unfold v_keep at h
      split at h
      · cases h
      · exact h
    · unfold v_keep at h
      split at h
      · cases h
      · rename_i hx
        match w, h with
        | .inl _, _ => rfl
        | .inr (.inl y2), h => exact absurd h (by intro q; exact hx y2 q)
        | .inr (.inr _), _ => rfl
  | x :: y :: z :: r, 1, v, 1, w, h => by simp [l_s2, l_at] at h; exact Or.inl ⟨rfl, h.symm⟩
  | x :: y :: z :: r, 1, v, 2, w, h => by simp [l_s2, l_at] at h
  | x :: y :: z :: r, 1, v, j + 3, w, h => by
    simp only [l_s2, l_at] at h
    exact Or.inr ⟨by omega, by omega, h, by omega⟩
  | x :: r, i + 2, v, 0, w, h => by
    simp only [l_s2, l_at] at h
    exact Or.inr ⟨by omega, by omega, h, by omega⟩
  | x :: r, i + 2, v, j + 1, w, h => by
    simp only [l_s2, l_at] at h
    rcases l_s2_at r (i + 1) v j w h with ⟨h1, h2⟩ | ⟨h1, h2, h3, h4⟩
    · exact Or.inl ⟨by omega, h2⟩
    · exact Or.inr ⟨by omega, by omega, h3, fun q => h4 (by omega)⟩
theorem sk_has.s1 {E : sk_En} {als : Array Slot} {nL : Nat} {ls : sk_Ls} {i : Nat} {v : sk_V} (h : lv_has als nL ((i, sv E v) :: (sk_lvA E 0 ls).filter (fun q => !(q.1 == i) && !(q.1 + 1 == i && q.2.category == 2)))) : sk_has E als nL (l_s1 ls i v) := by
  refine ⟨h.1, h.2.1, fun q hq => ?_⟩
  obtain ⟨k, w, h1, rfl⟩ := (sk_lv_mem E _ 0 q).mp hq
  refine h.2.2 _ ?_
  rcases l_s1_at ls i v k w h1 with ⟨rfl, rfl⟩ | ⟨g1, g2, g3⟩
  · simp
  · refine List.mem_cons_of_mem _ (List.mem_filter.mpr ⟨(sk_lv_mem E ls 0 _).mpr ⟨k, w, g2, rfl⟩, ?_⟩)
    simp only [Nat.zero_add, Bool.and_eq_true, Bool.not_eq_true', beq_eq_false_iff_ne, ne_eq, Bool.and_eq_false_iff]
    refine ⟨g1, ?_⟩
    by_cases hk : k + 1 = i
    · right
      rw [sv_cat, g3 hk]
      simp
    · exact Or.inl hk
theorem sk_has.s2 {E : sk_En} {als : Array Slot} {nL : Nat} {ls : sk_Ls} {i : Nat} {v : sk_V} (h : lv_has als nL ((i, sv E v) :: (sk_lvA E 0 ls).filter (fun q => !(q.1 == i) && (!(q.1 == i + 1) && !(q.1 + 1 == i && q.2.category == 2))))) : sk_has E als nL (l_s2 ls i v) := by
  refine ⟨h.1, h.2.1, fun q hq => ?_⟩
  obtain ⟨k, w, h1, rfl⟩ := (sk_lv_mem E _ 0 q).mp hq
  refine h.2.2 _ ?_
  rcases l_s2_at ls i v k w h1 with ⟨rfl, rfl⟩ | ⟨g1, g0, g2, g3⟩
  · simp
  · refine List.mem_cons_of_mem _ (List.mem_filter.mpr ⟨(sk_lv_mem E ls 0 _).mpr ⟨k, w, g2, rfl⟩, ?_⟩)
    simp only [Nat.zero_add, Bool.and_eq_true, Bool.not_eq_true', beq_eq_false_iff_ne, ne_eq, Bool.and_eq_false_iff]
    refine ⟨g1, g0, ?_⟩
    by_cases hk : k + 1 = i
    · right
      rw [sv_cat, g3 hk]
      simp
    · exact Or.inl hk
theorem l_at_kill : ∀ (ks : List Bool) (ls : sk_Ls) (k : Nat) (v : sk_V), l_at (sk_kill ks ls) k = some v → l_at ls k = some v
  | [], ls, k, v, h => by simpa [sk_kill] using h
  | _ :: _, [], k, v, h => by simpa [sk_kill] using h
  | b :: bs, w :: r, 0, v, h => by
    simp only [sk_kill, l_at] at h ⊢
    cases b with
    | true => exact h
    | false => cases h
  | b :: bs, w :: r, k + 1, v, h => by
    simp only [sk_kill, l_at] at h ⊢
    exact l_at_kill bs r k v h
theorem sk_has.live {E : sk_En} {als : Array Slot} {nL : Nat} {ls : sk_Ls} (e : sk_E) (h : sk_has E als nL ls) : sk_has E als nL (sk_live e ls) := by
  obtain ⟨i, x, v, cs, ks⟩ := e
  cases ks with
  | none => exact h
  | some ks =>
    refine ⟨h.1, h.2.1, fun q hq => ?_⟩
    obtain ⟨k, w, h1, rfl⟩ := (sk_lv_mem E _ 0 q).mp hq
    exact h.2.2 _ ((sk_lv_mem E ls 0 _).mpr ⟨k, w, l_at_kill _ _ _ _ h1, rfl⟩)
