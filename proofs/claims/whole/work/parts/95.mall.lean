/-! ===== the reference reads an alley's text (printed by gen95.py) ===== -/
def PMB (a i : Nat) : Bool := PMA a i || (a == 52 && i == 1)
def P62a (a _i : Nat) : Bool := a == 62
def P58a (a _i : Nat) : Bool := a == 58
section SkMall
variable {h h' h1 h2 : sk_H} {t : Nat → Nat} {T p q n d fl ln kk num k : Nat} {S : PS}
theorem MRs.v01 {r : Nat ⊕ (Nat × PS)} {v : Int32} (x : MRs h h' t T ln r v) : v = 0 ∨ v = 1 := by
  rcases x.2 with ⟨p, S, -, e, -⟩ | ⟨e, -⟩
  · exact Or.inr e
  · exact Or.inl e
theorem wd_ltr : ∀ w ∈ aWs, (∀ x ∈ w, 97 ≤ x ∧ x ≤ 122) ∧ 0 < w.length ∧ w.length < 9 := by decide
theorem M_w0 (R : Mr h t T q) (hq : nxt t T q = q) : c_M_isWord d (some 52) (418430870905 : Int64) h = some (h, bi (decide (wdl t T q = wd0))) := M_isWord_same R hq (wd_ltr wd0 (by decide)).1 (by decide) (by decide) (by decide)
theorem M_w1 (R : Mr h t T q) (hq : nxt t T q = q) : c_M_isWord d (some 52) (7499639 : Int64) h = some (h, bi (decide (wdl t T q = wd1))) := M_isWord_same R hq (wd_ltr wd1 (by decide)).1 (by decide) (by decide) (by decide)
theorem M_w2 (R : Mr h t T q) (hq : nxt t T q = q) : c_M_isWord d (some 52) (1919512167 : Int64) h = some (h, bi (decide (wdl t T q = wd2))) := M_isWord_same R hq (wd_ltr wd2 (by decide)).1 (by decide) (by decide) (by decide)
theorem M_w3 (R : Mr h t T q) (hq : nxt t T q = q) : c_M_isWord d (some 52) (6842740 : Int64) h = some (h, bi (decide (wdl t T q = wd3))) := M_isWord_same R hq (wd_ltr wd3 (by decide)).1 (by decide) (by decide) (by decide)
theorem M_w4 (R : Mr h t T q) (hq : nxt t T q = q) : c_M_isWord d (some 52) (1701733491 : Int64) h = some (h, bi (decide (wdl t T q = wd4))) := M_isWord_same R hq (wd_ltr wd4 (by decide)).1 (by decide) (by decide) (by decide)
theorem M_w5 (R : Mr h t T q) (hq : nxt t T q = q) : c_M_isWord d (some 52) (1818325876 : Int64) h = some (h, bi (decide (wdl t T q = wd5))) := M_isWord_same R hq (wd_ltr wd5 (by decide)).1 (by decide) (by decide) (by decide)
theorem M_w6 (R : Mr h t T q) (hq : nxt t T q = q) : c_M_isWord d (some 52) (495874892153 : Int64) h = some (h, bi (decide (wdl t T q = wd6))) := M_isWord_same R hq (wd_ltr wd6 (by decide)).1 (by decide) (by decide) (by decide)
theorem M_isAlleyWord_ok (R : Mr h t T q) (hq : nxt t T q = q) : c_M_isAlleyWord d (some 52) h = some (h, bi (wxN (wdl t T q) aWs 0).isSome) := by
  have M := R.1
  show _ = some (h, bi (if wdl t T q = wd0 then some 0 else if wdl t T q = wd1 then some 1 else if wdl t T q = wd2 then some 2 else if wdl t T q = wd3 then some 3 else if wdl t T q = wd4 then some 4 else if wdl t T q = wd5 then some 5 else if wdl t T q = wd6 then some 6 else none).isSome)
  have f45 : k_M_isAlleyWord_45 d (some 52) 1 h = some (h, 1) := (e_M_isAlleyWord_45 _ _ _ _).trans (if_pos (by decide))
  by_cases e0 : wdl t T q = wd0
  · rw [if_pos e0]
    refine (e_M_isAlleyWord _ _ _).trans ?_
    refine (if_pos M.K52).trans ?_
    refine (bnd (M_w0 R hq) _).trans ?_
    refine (if_pos (show ¬ bi (decide (wdl t T q = wd0)) = 0 by rw [decide_eq_true e0]; decide)).trans ?_
    exact f45
  by_cases e1 : wdl t T q = wd1
  · rw [if_neg e0, if_pos e1]
    refine (e_M_isAlleyWord _ _ _).trans ?_
    refine (if_pos M.K52).trans ?_
    refine (bnd (M_w0 R hq) _).trans ?_
    refine (if_neg (fun z => z (show bi (decide (wdl t T q = wd0)) = 0 by rw [decide_eq_false e0]; rfl))).trans ?_
    refine (if_pos M.K52).trans ?_
    refine (bnd (M_w1 R hq) _).trans ?_
    refine (if_pos (show ¬ bi (decide (wdl t T q = wd1)) = 0 by rw [decide_eq_true e1]; decide)).trans ?_
    exact f45
  by_cases e2 : wdl t T q = wd2
  · rw [if_neg e0, if_neg e1, if_pos e2]
    refine (e_M_isAlleyWord _ _ _).trans ?_
    refine (if_pos M.K52).trans ?_
    refine (bnd (M_w0 R hq) _).trans ?_
    refine (if_neg (fun z => z (show bi (decide (wdl t T q = wd0)) = 0 by rw [decide_eq_false e0]; rfl))).trans ?_
    refine (if_pos M.K52).trans ?_
    refine (bnd (M_w1 R hq) _).trans ?_
    refine (if_neg (fun z => z (show bi (decide (wdl t T q = wd1)) = 0 by rw [decide_eq_false e1]; rfl))).trans ?_
    refine (if_pos M.K52).trans ?_
    refine (bnd (M_w2 R hq) _).trans ?_
    refine (if_pos (show ¬ bi (decide (wdl t T q = wd2)) = 0 by rw [decide_eq_true e2]; decide)).trans ?_
    exact f45
  by_cases e3 : wdl t T q = wd3
  · rw [if_neg e0, if_neg e1, if_neg e2, if_pos e3]
    refine (e_M_isAlleyWord _ _ _).trans ?_
    refine (if_pos M.K52).trans ?_
    refine (bnd (M_w0 R hq) _).trans ?_
    refine (if_neg (fun z => z (show bi (decide (wdl t T q = wd0)) = 0 by rw [decide_eq_false e0]; rfl))).trans ?_
    refine (if_pos M.K52).trans ?_
    refine (bnd (M_w1 R hq) _).trans ?_
    refine (if_neg (fun z => z (show bi (decide (wdl t T q = wd1)) = 0 by rw [decide_eq_false e1]; rfl))).trans ?_
    refine (if_pos M.K52).trans ?_
    refine (bnd (M_w2 R hq) _).trans ?_
    refine (if_neg (fun z => z (show bi (decide (wdl t T q = wd2)) = 0 by rw [decide_eq_false e2]; rfl))).trans ?_
    refine (if_pos M.K52).trans ?_
    refine (bnd (M_w3 R hq) _).trans ?_
    refine (if_neg (show ¬ bi (decide (wdl t T q = wd3)) = 0 by rw [decide_eq_true e3]; decide)).trans ?_
    exact f45
  by_cases e4 : wdl t T q = wd4
  · rw [if_neg e0, if_neg e1, if_neg e2, if_neg e3, if_pos e4]
    refine (e_M_isAlleyWord _ _ _).trans ?_
    refine (if_pos M.K52).trans ?_
    refine (bnd (M_w0 R hq) _).trans ?_
    refine (if_neg (fun z => z (show bi (decide (wdl t T q = wd0)) = 0 by rw [decide_eq_false e0]; rfl))).trans ?_
    refine (if_pos M.K52).trans ?_
    refine (bnd (M_w1 R hq) _).trans ?_
    refine (if_neg (fun z => z (show bi (decide (wdl t T q = wd1)) = 0 by rw [decide_eq_false e1]; rfl))).trans ?_
    refine (if_pos M.K52).trans ?_
    refine (bnd (M_w2 R hq) _).trans ?_
    refine (if_neg (fun z => z (show bi (decide (wdl t T q = wd2)) = 0 by rw [decide_eq_false e2]; rfl))).trans ?_
    refine (if_pos M.K52).trans ?_
    refine (bnd (M_w3 R hq) _).trans ?_
    refine (if_pos (show bi (decide (wdl t T q = wd3)) = 0 by rw [decide_eq_false e3]; rfl)).trans ?_
    refine (e_M_isAlleyWord_45 _ _ _ _).trans ?_
    refine (if_neg (fun z => z rfl)).trans ?_
    refine (if_pos M.K52).trans ?_
    refine (bnd (M_w4 R hq) _).trans ?_
    exact if_pos (show ¬ bi (decide (wdl t T q = wd4)) = 0 by rw [decide_eq_true e4]; decide)
  by_cases e5 : wdl t T q = wd5
  · rw [if_neg e0, if_neg e1, if_neg e2, if_neg e3, if_neg e4, if_pos e5]
    refine (e_M_isAlleyWord _ _ _).trans ?_
    refine (if_pos M.K52).trans ?_
    refine (bnd (M_w0 R hq) _).trans ?_
    refine (if_neg (fun z => z (show bi (decide (wdl t T q = wd0)) = 0 by rw [decide_eq_false e0]; rfl))).trans ?_
    refine (if_pos M.K52).trans ?_
    refine (bnd (M_w1 R hq) _).trans ?_
    refine (if_neg (fun z => z (show bi (decide (wdl t T q = wd1)) = 0 by rw [decide_eq_false e1]; rfl))).trans ?_
    refine (if_pos M.K52).trans ?_
    refine (bnd (M_w2 R hq) _).trans ?_
    refine (if_neg (fun z => z (show bi (decide (wdl t T q = wd2)) = 0 by rw [decide_eq_false e2]; rfl))).trans ?_
    refine (if_pos M.K52).trans ?_
    refine (bnd (M_w3 R hq) _).trans ?_
    refine (if_pos (show bi (decide (wdl t T q = wd3)) = 0 by rw [decide_eq_false e3]; rfl)).trans ?_
    refine (e_M_isAlleyWord_45 _ _ _ _).trans ?_
    refine (if_neg (fun z => z rfl)).trans ?_
    refine (if_pos M.K52).trans ?_
    refine (bnd (M_w4 R hq) _).trans ?_
    refine (if_neg (fun z => z (show bi (decide (wdl t T q = wd4)) = 0 by rw [decide_eq_false e4]; rfl))).trans ?_
    refine (if_pos M.K52).trans ?_
    refine (bnd (M_w5 R hq) _).trans ?_
    exact if_pos (show ¬ bi (decide (wdl t T q = wd5)) = 0 by rw [decide_eq_true e5]; decide)
  by_cases e6 : wdl t T q = wd6
  · rw [if_neg e0, if_neg e1, if_neg e2, if_neg e3, if_neg e4, if_neg e5, if_pos e6]
    refine (e_M_isAlleyWord _ _ _).trans ?_
    refine (if_pos M.K52).trans ?_
    refine (bnd (M_w0 R hq) _).trans ?_
    refine (if_neg (fun z => z (show bi (decide (wdl t T q = wd0)) = 0 by rw [decide_eq_false e0]; rfl))).trans ?_
    refine (if_pos M.K52).trans ?_
    refine (bnd (M_w1 R hq) _).trans ?_
    refine (if_neg (fun z => z (show bi (decide (wdl t T q = wd1)) = 0 by rw [decide_eq_false e1]; rfl))).trans ?_
    refine (if_pos M.K52).trans ?_
    refine (bnd (M_w2 R hq) _).trans ?_
    refine (if_neg (fun z => z (show bi (decide (wdl t T q = wd2)) = 0 by rw [decide_eq_false e2]; rfl))).trans ?_
    refine (if_pos M.K52).trans ?_
    refine (bnd (M_w3 R hq) _).trans ?_
    refine (if_pos (show bi (decide (wdl t T q = wd3)) = 0 by rw [decide_eq_false e3]; rfl)).trans ?_
    refine (e_M_isAlleyWord_45 _ _ _ _).trans ?_
    refine (if_neg (fun z => z rfl)).trans ?_
    refine (if_pos M.K52).trans ?_
    refine (bnd (M_w4 R hq) _).trans ?_
    refine (if_neg (fun z => z (show bi (decide (wdl t T q = wd4)) = 0 by rw [decide_eq_false e4]; rfl))).trans ?_
    refine (if_pos M.K52).trans ?_
    refine (bnd (M_w5 R hq) _).trans ?_
    refine (if_neg (fun z => z (show bi (decide (wdl t T q = wd5)) = 0 by rw [decide_eq_false e5]; rfl))).trans ?_
    refine (if_pos M.K52).trans ?_
    refine (bnd (M_w6 R hq) _).trans ?_
    exact if_neg (show ¬ bi (decide (wdl t T q = wd6)) = 0 by rw [decide_eq_true e6]; decide)
  rw [if_neg e0, if_neg e1, if_neg e2, if_neg e3, if_neg e4, if_neg e5, if_neg e6]
  refine (e_M_isAlleyWord _ _ _).trans ?_
  refine (if_pos M.K52).trans ?_
  refine (bnd (M_w0 R hq) _).trans ?_
  refine (if_neg (fun z => z (show bi (decide (wdl t T q = wd0)) = 0 by rw [decide_eq_false e0]; rfl))).trans ?_
  refine (if_pos M.K52).trans ?_
  refine (bnd (M_w1 R hq) _).trans ?_
  refine (if_neg (fun z => z (show bi (decide (wdl t T q = wd1)) = 0 by rw [decide_eq_false e1]; rfl))).trans ?_
  refine (if_pos M.K52).trans ?_
  refine (bnd (M_w2 R hq) _).trans ?_
  refine (if_neg (fun z => z (show bi (decide (wdl t T q = wd2)) = 0 by rw [decide_eq_false e2]; rfl))).trans ?_
  refine (if_pos M.K52).trans ?_
  refine (bnd (M_w3 R hq) _).trans ?_
  refine (if_pos (show bi (decide (wdl t T q = wd3)) = 0 by rw [decide_eq_false e3]; rfl)).trans ?_
  refine (e_M_isAlleyWord_45 _ _ _ _).trans ?_
  refine (if_neg (fun z => z rfl)).trans ?_
  refine (if_pos M.K52).trans ?_
  refine (bnd (M_w4 R hq) _).trans ?_
  refine (if_neg (fun z => z (show bi (decide (wdl t T q = wd4)) = 0 by rw [decide_eq_false e4]; rfl))).trans ?_
  refine (if_pos M.K52).trans ?_
  refine (bnd (M_w5 R hq) _).trans ?_
  refine (if_neg (fun z => z (show bi (decide (wdl t T q = wd5)) = 0 by rw [decide_eq_false e5]; rfl))).trans ?_
  refine (if_pos M.K52).trans ?_
  refine (bnd (M_w6 R hq) _).trans ?_
  exact if_pos (show bi (decide (wdl t T q = wd6)) = 0 by rw [decide_eq_false e6]; rfl)
theorem M_line_ok (w : PWr S) (R : Mr h t T q) (hq : nxt t T q = q) (A : MAI h (if num = 0 then 0 else 1) ln (yK S) S) (hx : wxN (wdl t T q) aWs 0 = some k) : ∃ h' v, c_M_alleyLineHere d (some 52) (nI q) h = some (h', v) ∧ MRs h h' t T ln (if tmA k num S = true then .inl (1 + 8 * q + 4) else claB t T (wE t T q) k S) v := by
  have M := R.1
  have x3 := R.2.1
  have hT := R.2.2.2.2.2.2
  have hq4 : q ≤ 400 := by omega
  have hx : (if wdl t T q = wd0 then some 0 else if wdl t T q = wd1 then some 1 else if wdl t T q = wd2 then some 2 else if wdl t T q = wd3 then some 3 else if wdl t T q = wd4 then some 4 else if wdl t T q = wd5 then some 5 else if wdl t T q = wd6 then some 6 else none) = some k := hx
  by_cases e0 : wdl t T q = wd0
  · rw [if_pos e0] at hx
    cases hx
    show ∃ h' v, _ ∧ MRs h h' t T ln (if decide (0 < num) = true then .inl (1 + 8 * q + 4) else claB t T (wE t T q) 0 S) v
    have walk : ∀ h' v, c_M_isAlleyHere d (some 52) (nI q) h = some (h', v) → (v = 0 ∨ v = 1) → c_M_alleyLineHere d (some 52) (nI q) h = some (h', v) := by
      intro h' v f hv
      refine (e_M_alleyLineHere _ _ _ _).trans ?_
      refine (if_pos M.K52).trans ?_
      refine (bnd (M_w0 R hq) _).trans ?_
      refine (if_neg (show ¬ bi (decide (wdl t T q = wd0)) = 0 by rw [decide_eq_true e0]; decide)).trans ?_
      refine (if_pos M.K52).trans ?_
      refine (bnd f _).trans ?_
      exact if_pos hv
    by_cases z : num = 0
    · rw [if_pos z] at A
      obtain ⟨h', v, f1, f2⟩ := M_alleyw_ok (d := d) (p := q) R A
      refine ⟨h', v, walk _ _ f1 f2.v01, ?_⟩
      rw [if_neg (by rw [decide_eq_false (by omega)]; decide)]
      exact f2
    · rw [if_neg z] at A
      obtain ⟨h', v, f1, f2⟩ := M_alleyw_no (d := d) (p := q) R A hq4 (r := if decide (0 < num) = true then .inl (1 + 8 * q + 4) else claB t T (wE t T q) 0 S) (if_pos (by rw [decide_eq_true (by omega)]))
      exact ⟨h', v, walk _ _ f1 f2.v01, f2⟩
  rw [if_neg e0] at hx
  by_cases z : num = 0
  · have tm : tmA k num S = true := by
      have hk0 : k ≠ 0 := by
        intro e
        subst e
        by_cases e1 : wdl t T q = wd1
        · rw [if_pos e1] at hx; cases hx
        rw [if_neg e1] at hx
        by_cases e2 : wdl t T q = wd2
        · rw [if_pos e2] at hx; cases hx
        rw [if_neg e2] at hx
        by_cases e3 : wdl t T q = wd3
        · rw [if_pos e3] at hx; cases hx
        rw [if_neg e3] at hx
        by_cases e4 : wdl t T q = wd4
        · rw [if_pos e4] at hx; cases hx
        rw [if_neg e4] at hx
        by_cases e5 : wdl t T q = wd5
        · rw [if_pos e5] at hx; cases hx
        rw [if_neg e5] at hx
        by_cases e6 : wdl t T q = wd6
        · rw [if_pos e6] at hx; cases hx
        rw [if_neg e6] at hx
        cases hx
      unfold tmA
      rw [if_neg hk0, z]
      by_cases k1 : k = 1
      · rw [if_pos k1]; exact decide_eq_true (Or.inl rfl)
      rw [if_neg k1]
      by_cases k4 : k = 4
      · rw [if_pos k4]; exact decide_eq_true (Or.inl rfl)
      rw [if_neg k4]
      by_cases k5 : k = 5
      · rw [if_pos k5]; exact decide_eq_true (Or.inl rfl)
      rw [if_neg k5]
      exact decide_eq_true rfl
    rw [if_pos z] at A
    rw [if_pos tm]
    obtain ⟨f1, f2⟩ := M_fail_rs (d := d) (ln := ln) R (k := 4) (by omega) hq4 (r := .inl (1 + 8 * q + 4)) (Or.inl rfl) rfl
    refine ⟨_, _, ?_, f2⟩
    refine (e_M_alleyLineHere _ _ _ _).trans ?_
    refine (if_pos M.K52).trans ?_
    refine (bnd (M_w0 R hq) _).trans ?_
    refine (if_pos (show bi (decide (wdl t T q = wd0)) = 0 by rw [decide_eq_false e0]; rfl)).trans ?_
    refine (if_pos M.K52).trans ?_
    refine (bnd M.R7 _).trans ?_
    refine (if_pos ⟨Or.inl M.K58, by rw [M.N58]; exact vp_in_nI (n := 0) (by omega) (by omega)⟩).trans ?_
    refine (if_neg (fun y => y (show hI h 58 (0 : Int32).toNatClampNeg = 0 by rw [cl0, A.2.1.1]; rfl))).trans ?_
    refine (if_pos M.K52).trans ?_
    refine (bnd f1 _).trans ?_
    exact if_pos (Or.inl rfl)
  rw [if_neg z] at A
  have i0 : ¬ hI h 58 (0 : Int32).toNatClampNeg = 0 := by rw [cl0, A.2.1.1]; decide
  by_cases e1 : wdl t T q = wd1
  · rw [if_pos e1] at hx
    cases hx
    obtain ⟨h', v, f1, f2⟩ := M_rowh_ok (d := d) (p := q) w R A hq4 rfl
    refine ⟨h', v, ?_, ?_⟩
    · refine (e_M_alleyLineHere _ _ _ _).trans ?_
      refine (if_pos M.K52).trans ?_
      refine (bnd (M_w0 R hq) _).trans ?_
      refine (if_pos (show bi (decide (wdl t T q = wd0)) = 0 by rw [decide_eq_false e0]; rfl)).trans ?_
      refine (if_pos M.K52).trans ?_
      refine (bnd M.R7 _).trans ?_
      refine (if_pos ⟨Or.inl M.K58, by rw [M.N58]; exact vp_in_nI (n := 0) (by omega) (by omega)⟩).trans ?_
      refine (if_pos i0).trans ?_
      refine (if_pos M.K52).trans ?_
      refine (bnd (M_w1 R hq) _).trans ?_
      refine (if_neg (show ¬ bi (decide (wdl t T q = wd1)) = 0 by rw [decide_eq_true e1]; decide)).trans ?_
      refine (if_pos M.K52).trans ?_
      refine (bnd f1 _).trans ?_
      exact if_pos f2.v01
    · have et : (if tmA 1 num S = true then (.inl (1 + 8 * q + 4) : Nat ⊕ (Nat × PS)) else claB t T (wE t T q) 1 S) = if 4 ≤ yK S then .inl (1 + 8 * q + 4) else claB t T (wE t T q) 1 S := by
        show (if decide (num = 0 ∨ 4 ≤ yK S) = true then _ else _) = _
        by_cases y : 4 ≤ yK S
        · rw [if_pos y, if_pos (decide_eq_true (Or.inr y))]
        · rw [if_neg y, if_neg (by rw [decide_eq_false (by omega)]; decide)]
      rw [et]
      exact f2
  rw [if_neg e1] at hx
  by_cases e2 : wdl t T q = wd2
  · rw [if_pos e2] at hx
    cases hx
    obtain ⟨h', v, f1, f2⟩ := M_ring_ok (d := d) w R A
    refine ⟨h', v, ?_, ?_⟩
    · refine (e_M_alleyLineHere _ _ _ _).trans ?_
      refine (if_pos M.K52).trans ?_
      refine (bnd (M_w0 R hq) _).trans ?_
      refine (if_pos (show bi (decide (wdl t T q = wd0)) = 0 by rw [decide_eq_false e0]; rfl)).trans ?_
      refine (if_pos M.K52).trans ?_
      refine (bnd M.R7 _).trans ?_
      refine (if_pos ⟨Or.inl M.K58, by rw [M.N58]; exact vp_in_nI (n := 0) (by omega) (by omega)⟩).trans ?_
      refine (if_pos i0).trans ?_
      refine (if_pos M.K52).trans ?_
      refine (bnd (M_w1 R hq) _).trans ?_
      refine (if_pos (show bi (decide (wdl t T q = wd1)) = 0 by rw [decide_eq_false e1]; rfl)).trans ?_
      refine (if_pos M.K52).trans ?_
      refine (bnd (M_w2 R hq) _).trans ?_
      refine (if_neg (show ¬ bi (decide (wdl t T q = wd2)) = 0 by rw [decide_eq_true e2]; decide)).trans ?_
      refine (if_pos M.K52).trans ?_
      refine (bnd f1 _).trans ?_
      exact if_pos f2.v01
    · have et : tmA 2 num S = false := by
        show decide (num = 0) = false
        exact decide_eq_false z
      rw [et, if_neg (by decide)]
      exact f2
  rw [if_neg e2] at hx
  by_cases e3 : wdl t T q = wd3
  · rw [if_pos e3] at hx
    cases hx
    obtain ⟨h', v, f1, f2⟩ := M_hit_ok (d := d) R A
    refine ⟨h', v, ?_, ?_⟩
    · refine (e_M_alleyLineHere _ _ _ _).trans ?_
      refine (if_pos M.K52).trans ?_
      refine (bnd (M_w0 R hq) _).trans ?_
      refine (if_pos (show bi (decide (wdl t T q = wd0)) = 0 by rw [decide_eq_false e0]; rfl)).trans ?_
      refine (if_pos M.K52).trans ?_
      refine (bnd M.R7 _).trans ?_
      refine (if_pos ⟨Or.inl M.K58, by rw [M.N58]; exact vp_in_nI (n := 0) (by omega) (by omega)⟩).trans ?_
      refine (if_pos i0).trans ?_
      refine (if_pos M.K52).trans ?_
      refine (bnd (M_w1 R hq) _).trans ?_
      refine (if_pos (show bi (decide (wdl t T q = wd1)) = 0 by rw [decide_eq_false e1]; rfl)).trans ?_
      refine (if_pos M.K52).trans ?_
      refine (bnd (M_w2 R hq) _).trans ?_
      refine (if_pos (show bi (decide (wdl t T q = wd2)) = 0 by rw [decide_eq_false e2]; rfl)).trans ?_
      refine (if_pos M.K52).trans ?_
      refine (bnd (M_w3 R hq) _).trans ?_
      refine (if_neg (show ¬ bi (decide (wdl t T q = wd3)) = 0 by rw [decide_eq_true e3]; decide)).trans ?_
      refine (if_pos M.K52).trans ?_
      refine (bnd f1 _).trans ?_
      exact if_pos f2.v01
    · have et : tmA 3 num S = false := by
        show decide (num = 0) = false
        exact decide_eq_false z
      rw [et, if_neg (by decide)]
      exact f2
  rw [if_neg e3] at hx
  by_cases e4 : wdl t T q = wd4
  · rw [if_pos e4] at hx
    cases hx
    obtain ⟨h', v, f1, f2⟩ := M_ends_ok (d := d) (p := q) R A hq4 rfl
    refine ⟨h', v, ?_, ?_⟩
    · refine (e_M_alleyLineHere _ _ _ _).trans ?_
      refine (if_pos M.K52).trans ?_
      refine (bnd (M_w0 R hq) _).trans ?_
      refine (if_pos (show bi (decide (wdl t T q = wd0)) = 0 by rw [decide_eq_false e0]; rfl)).trans ?_
      refine (if_pos M.K52).trans ?_
      refine (bnd M.R7 _).trans ?_
      refine (if_pos ⟨Or.inl M.K58, by rw [M.N58]; exact vp_in_nI (n := 0) (by omega) (by omega)⟩).trans ?_
      refine (if_pos i0).trans ?_
      refine (if_pos M.K52).trans ?_
      refine (bnd (M_w1 R hq) _).trans ?_
      refine (if_pos (show bi (decide (wdl t T q = wd1)) = 0 by rw [decide_eq_false e1]; rfl)).trans ?_
      refine (if_pos M.K52).trans ?_
      refine (bnd (M_w2 R hq) _).trans ?_
      refine (if_pos (show bi (decide (wdl t T q = wd2)) = 0 by rw [decide_eq_false e2]; rfl)).trans ?_
      refine (if_pos M.K52).trans ?_
      refine (bnd (M_w3 R hq) _).trans ?_
      refine (if_pos (show bi (decide (wdl t T q = wd3)) = 0 by rw [decide_eq_false e3]; rfl)).trans ?_
      refine (if_pos M.K52).trans ?_
      refine (bnd (M_w4 R hq) _).trans ?_
      refine (if_neg (show ¬ bi (decide (wdl t T q = wd4)) = 0 by rw [decide_eq_true e4]; decide)).trans ?_
      refine (if_pos M.K52).trans ?_
      refine (bnd f1 _).trans ?_
      exact if_pos f2.v01
    · have et : (if tmA 4 num S = true then (.inl (1 + 8 * q + 4) : Nat ⊕ (Nat × PS)) else claB t T (wE t T q) 4 S) = if yE S = true then .inl (1 + 8 * q + 4) else claB t T (wE t T q) 4 S := by
        show (if decide (num = 0 ∨ yE S = true) = true then _ else _) = _
        by_cases y : yE S = true
        · rw [if_pos y, if_pos (decide_eq_true (Or.inr y))]
        · rw [if_neg y, if_neg (by rw [decide_eq_false (fun x => x.elim z y)]; decide)]
      rw [et]
      exact f2
  rw [if_neg e4] at hx
  by_cases e5 : wdl t T q = wd5
  · rw [if_pos e5] at hx
    cases hx
    obtain ⟨h', v, f1, f2⟩ := M_last_ok (d := d) (p := q) R A hq4 rfl
    refine ⟨h', v, ?_, ?_⟩
    · refine (e_M_alleyLineHere _ _ _ _).trans ?_
      refine (if_pos M.K52).trans ?_
      refine (bnd (M_w0 R hq) _).trans ?_
      refine (if_pos (show bi (decide (wdl t T q = wd0)) = 0 by rw [decide_eq_false e0]; rfl)).trans ?_
      refine (if_pos M.K52).trans ?_
      refine (bnd M.R7 _).trans ?_
      refine (if_pos ⟨Or.inl M.K58, by rw [M.N58]; exact vp_in_nI (n := 0) (by omega) (by omega)⟩).trans ?_
      refine (if_pos i0).trans ?_
      refine (if_pos M.K52).trans ?_
      refine (bnd (M_w1 R hq) _).trans ?_
      refine (if_pos (show bi (decide (wdl t T q = wd1)) = 0 by rw [decide_eq_false e1]; rfl)).trans ?_
      refine (if_pos M.K52).trans ?_
      refine (bnd (M_w2 R hq) _).trans ?_
      refine (if_pos (show bi (decide (wdl t T q = wd2)) = 0 by rw [decide_eq_false e2]; rfl)).trans ?_
      refine (if_pos M.K52).trans ?_
      refine (bnd (M_w3 R hq) _).trans ?_
      refine (if_pos (show bi (decide (wdl t T q = wd3)) = 0 by rw [decide_eq_false e3]; rfl)).trans ?_
      refine (if_pos M.K52).trans ?_
      refine (bnd (M_w4 R hq) _).trans ?_
      refine (if_pos (show bi (decide (wdl t T q = wd4)) = 0 by rw [decide_eq_false e4]; rfl)).trans ?_
      refine (if_pos M.K52).trans ?_
      refine (bnd (M_w5 R hq) _).trans ?_
      refine (if_neg (show ¬ bi (decide (wdl t T q = wd5)) = 0 by rw [decide_eq_true e5]; decide)).trans ?_
      refine (if_pos M.K52).trans ?_
      refine (bnd f1 _).trans ?_
      exact if_pos f2.v01
    · have et : (if tmA 5 num S = true then (.inl (1 + 8 * q + 4) : Nat ⊕ (Nat × PS)) else claB t T (wE t T q) 5 S) = if yL S = true then .inl (1 + 8 * q + 4) else claB t T (wE t T q) 5 S := by
        show (if decide (num = 0 ∨ yL S = true) = true then _ else _) = _
        by_cases y : yL S = true
        · rw [if_pos y, if_pos (decide_eq_true (Or.inr y))]
        · rw [if_neg y, if_neg (by rw [decide_eq_false (fun x => x.elim z y)]; decide)]
      rw [et]
      exact f2
  rw [if_neg e5] at hx
  by_cases e6 : wdl t T q = wd6
  · rw [if_pos e6] at hx
    cases hx
    obtain ⟨h', v, f1, f2⟩ := M_stray_ok (d := d) R A
    refine ⟨h', v, ?_, ?_⟩
    · refine (e_M_alleyLineHere _ _ _ _).trans ?_
      refine (if_pos M.K52).trans ?_
      refine (bnd (M_w0 R hq) _).trans ?_
      refine (if_pos (show bi (decide (wdl t T q = wd0)) = 0 by rw [decide_eq_false e0]; rfl)).trans ?_
      refine (if_pos M.K52).trans ?_
      refine (bnd M.R7 _).trans ?_
      refine (if_pos ⟨Or.inl M.K58, by rw [M.N58]; exact vp_in_nI (n := 0) (by omega) (by omega)⟩).trans ?_
      refine (if_pos i0).trans ?_
      refine (if_pos M.K52).trans ?_
      refine (bnd (M_w1 R hq) _).trans ?_
      refine (if_pos (show bi (decide (wdl t T q = wd1)) = 0 by rw [decide_eq_false e1]; rfl)).trans ?_
      refine (if_pos M.K52).trans ?_
      refine (bnd (M_w2 R hq) _).trans ?_
      refine (if_pos (show bi (decide (wdl t T q = wd2)) = 0 by rw [decide_eq_false e2]; rfl)).trans ?_
      refine (if_pos M.K52).trans ?_
      refine (bnd (M_w3 R hq) _).trans ?_
      refine (if_pos (show bi (decide (wdl t T q = wd3)) = 0 by rw [decide_eq_false e3]; rfl)).trans ?_
      refine (if_pos M.K52).trans ?_
      refine (bnd (M_w4 R hq) _).trans ?_
      refine (if_pos (show bi (decide (wdl t T q = wd4)) = 0 by rw [decide_eq_false e4]; rfl)).trans ?_
      refine (if_pos M.K52).trans ?_
      refine (bnd (M_w5 R hq) _).trans ?_
      refine (if_pos (show bi (decide (wdl t T q = wd5)) = 0 by rw [decide_eq_false e5]; rfl)).trans ?_
      refine (if_pos M.K52).trans ?_
      refine (bnd f1 _).trans ?_
      exact if_pos f2.v01
    · have et : tmA 6 num S = false := by
        show decide (num = 0) = false
        exact decide_eq_false z
      rw [et, if_neg (by decide)]
      exact f2
  rw [if_neg e6] at hx
  cases hx
theorem M_clause_ok (w : PWr S) (R : Mr h t T p) (hn : num ≤ 40) (A : MAI h (if num = 0 then 0 else 1) num (yK S) S) : ∃ h' v, c_M_clauseHere d (some 52) h = some (h', v) ∧ MRs h h' t T (num + 1) (claA t T num p S) v := by
  have M := R.1
  have x3 := R.2.1
  have hp := R.2.2.2.2.2.2
  have hq := nxt_le (t := t) hp
  have hqq := nxt_nxt (t := t) hp
  obtain ⟨h1, e1, e2, e3⟩ := M_see_ok (d := d) R
  have A1 := A.pf e3.p8F
  have i11 := A1.1.1
  have i14 := A1.1.2
  have j8 := e2.2.2.2.2.1
  have aw := M_isAlleyWord_ok (d := d) e2 hqq
  have M1 := e2.1
  have pre : ∀ o, (Option.bind (some (h1, bi (wxN (wdl t T (nxt t T p)) aWs 0).isSome)) fun (q3 : sk_H × Int32) => if ¬ q3.2 = 0 then if hK q3.1 52 = 13 then if (1 : Int32) = 0 then k_M_clauseHere_71 d (some 52) (nI (nxt t T p)) 1 (12 : Int32) (hI q3.1 52 14) q3.1 else k_M_clauseHere_71 d (some 52) (nI (nxt t T p)) 1 (40 : Int32) (hI q3.1 52 14) q3.1 else none else if hK q3.1 52 = 13 then Option.bind (c_M_fails d (some 52) (0 : Int32) (nI (nxt t T p)) q3.1) fun (q4 : sk_H × Int32) => if q4.2 = 0 ∨ q4.2 = 1 then some (q4.1, q4.2) else none else none) = o → c_M_clauseHere d (some 52) h = o := by
    intro o ho
    rw [← ho]
    refine (e_M_clauseHere _ _ _).trans ?_
    refine (if_pos M.K52).trans ?_
    refine (bnd e1 _).trans ?_
    refine (if_pos M1.K52).trans ?_
    refine (if_pos M1.K52).trans ?_
    refine (if_neg (fun z => z i11)).trans ?_
    show k_M_clauseHere_24 d (some 52) (hI h1 52 8) 1 h1 = _
    rw [j8]
    refine (e_M_clauseHere_24 _ _ _ _ _).trans ?_
    refine (if_neg (by decide)).trans ?_
    refine (if_pos M1.K52).trans ?_
    exact (bnd aw _).trans rfl
  unfold claA
  cases hx : wxN (wdl t T (nxt t T p)) aWs 0 with
  | none =>
    rw [hx] at pre
    obtain ⟨f1, f2⟩ := M_fail_rs (d := d) (ln := num + 1) e2 (k := 0) (by omega) (show nxt t T p ≤ 400 by omega) (r := .inl (1 + 8 * nxt t T p + 0)) (Or.inl rfl) rfl
    refine ⟨_, _, pre _ ?_, MRs.pre e3.p8F.pma f2⟩
    refine (bnd rfl _).trans ?_
    refine (if_neg (fun z => z rfl)).trans ?_
    refine (if_pos M1.K52).trans ?_
    refine (bnd f1 _).trans ?_
    exact if_pos (Or.inl rfl)
  | some k =>
    rw [hx] at pre
    show ∃ h' v, _ ∧ MRs h h' t T (num + 1) (if 40 ≤ num ∨ tmA k num S = true then .inl (1 + 8 * nxt t T p + 4) else claB t T (wE t T (nxt t T p)) k S) v
    have pre2 : ∀ o, k_M_clauseHere_71 d (some 52) (nI (nxt t T p)) 1 (40 : Int32) (nI num) h1 = o → c_M_clauseHere d (some 52) h = o := by
      intro o ho
      rw [← ho]
      refine pre _ ?_
      refine (bnd rfl _).trans ?_
      refine (if_pos nb1).trans ?_
      refine (if_pos M1.K52).trans ?_
      refine (if_neg (by decide)).trans ?_
      show k_M_clauseHere_71 d (some 52) (nI (nxt t T p)) 1 (40 : Int32) (hI h1 52 14) h1 = _
      rw [i14]
    by_cases z : 40 ≤ num
    · rw [if_pos (Or.inl z)]
      obtain ⟨f1, f2⟩ := M_fail_rs (d := d) (ln := num + 1) e2 (k := 4) (by omega) (show nxt t T p ≤ 400 by omega) (r := .inl (1 + 8 * nxt t T p + 4)) (Or.inl rfl) rfl
      refine ⟨_, _, pre2 _ ?_, MRs.pre e3.p8F.pma f2⟩
      refine (e_M_clauseHere_71 _ _ _ _ _ _ _).trans ?_
      refine (if_neg (fun y => y (show nI num = nI 40 by rw [show num = 40 by omega]))).trans ?_
      refine (if_pos M1.K52).trans ?_
      refine (bnd f1 _).trans ?_
      exact if_pos (Or.inl rfl)
    · have A2 : MAI (wI h1 52 14 (nI (num + 1))) (if num = 0 then 0 else 1) (num + 1) (yK S) S := by
        obtain ⟨⟨b1, b2⟩, r⟩ := A1
        refine ⟨⟨by rw [hI_ni (by omega)]; exact b1, hI_se⟩, ?_⟩
        have e : hI (wI h1 52 14 (nI (num + 1))) 58 = hI h1 58 := funext fun i => hI_na (by omega)
        rw [e]
        exact r
      have R2 : Mr (wI h1 52 14 (nI (num + 1))) t T (nxt t T p) := by
        obtain ⟨m, r1, r2, r3, r4, r5, r6⟩ := e2
        exact ⟨m, r1, fun i hi => ⟨(r2 i hi).1, by rw [hI_na (by omega)]; exact (r2 i hi).2⟩, by rw [hI_ni (by omega)]; exact r3, by rw [hI_ni (by omega)]; exact r4, by rw [hI_ni (by omega)]; exact r5, r6⟩
      obtain ⟨h', v, f1, f2⟩ := M_line_ok (d := d) w R2 hqq A2 hx
      refine ⟨h', v, pre2 _ ?_, ?_⟩
      · refine (e_M_clauseHere_71 _ _ _ _ _ _ _).trans ?_
        refine (if_pos (show ¬ nI num = nI 40 by rw [q_eq_f (by omega) (by omega) (by omega)]; exact not_false)).trans ?_
        refine (if_pos M1.K52).trans ?_
        refine (if_pos M1.K52).trans ?_
        rw [i14, nI_1]
        refine (if_neg (by decide)).trans ?_
        refine (if_pos M1.K52).trans ?_
        refine (bnd f1 _).trans ?_
        exact if_pos f2.v01
      · have et : (if 40 ≤ num ∨ tmA k num S = true then (.inl (1 + 8 * nxt t T p + 4) : Nat ⊕ (Nat × PS)) else claB t T (wE t T (nxt t T p)) k S) = if tmA k num S = true then .inl (1 + 8 * nxt t T p + 4) else claB t T (wE t T (nxt t T p)) k S := by
          by_cases y : tmA k num S = true
          · rw [if_pos y, if_pos (Or.inr y)]
          · rw [if_neg y, if_neg (fun x => x.elim z y)]
        rw [et]
        exact MRs.pre (e3.p8F.pma.trans (PMA_52 (by omega) (by omega))) f2
theorem PMA_B {a i : Nat} (hP : PMB a i = false) : PMA a i = false := by
  unfold PMB at hP
  exact (Bool.or_eq_false_iff.mp hP).1
theorem Iq.pmb (Q : Iq PMA h h1) : Iq PMB h h1 := Q.mono fun _ _ => PMA_B
theorem PMB_w1 {v : Int32} : Iq PMB h (wI h 52 1 v) := Iq.w h v rfl
theorem MAI.w1 (A : MAI h fl ln kk S) {v : Int32} : MAI (wI h 52 1 v) fl ln kk S := by
  obtain ⟨⟨b1, b2⟩, r⟩ := A
  refine ⟨⟨by rw [hI_ni (by omega)]; exact b1, by rw [hI_ni (by omega)]; exact b2⟩, ?_⟩
  have e : hI (wI h 52 1 v) 58 = hI h 58 := funext fun i => hI_na (by omega)
  rw [e]
  exact r
theorem M_88 (M : MS 52 h) {g : Nat} (hg : g < 10000) (e9 : hI h 52 9 = nI g) : k_M_readsAll_88 d (some 52) h = some (wI h 52 1 0, bi (decide (g = 0))) := by
  refine (e_M_readsAll_88 _ _ _).trans ?_
  refine (if_pos M.K52).trans ?_
  refine (if_pos M.K52).trans ?_
  have e9' : hI (wI h 52 1 0) 52 9 = nI g := by rw [hI_ni (by omega)]; exact e9
  by_cases z : g = 0
  · rw [decide_eq_true z]
    exact if_neg (fun y => y (by rw [e9', z]; rfl))
  · rw [decide_eq_false z]
    exact if_pos (show ¬ hI (wI h 52 1 0) 52 9 = nI 0 by rw [e9', q_eq_f z (by omega) (by omega)]; exact not_false)
theorem M_reads_in : ∀ (x num p : Nat) (S : PS) (h : sk_H), num + x = 41 → num ≤ 40 → PWr S → aW (yA S) → Mr h t T p → MAI h (if num = 0 then 0 else 1) num (yK S) S → ∃ h' v, (Option.bind (c_M_clauseHere d (some 52) h) fun (q : sk_H × Int32) => k_M_readsAll_35 d (some 52) q.2 q.1) = some (h', v) ∧ Iq PMB h h' ∧ hI h' 52 1 = nI 0 ∧ ((∃ g, alP t T x num p S = .inl g ∧ v = 0 ∧ hI h' 52 9 = nI g) ∨ ∃ S' ln, alP t T x num p S = .inr S' ∧ v = 1 ∧ MAI h' 1 ln (yK S') S' ∧ PWr S' ∧ aW (yA S'))
  | 0, num, p, S, h, hx, hn, w, a, R, A => absurd hx (by omega)
  | x + 1, num, p, S, h, hx, hn, w, a, R, A => by
    have x3 := R.2.1
    have hp := R.2.2.2.2.2.2
    obtain ⟨h1, v1, e1, e2, e3⟩ := M_clause_ok (d := d) w R hn A
    have M := R.1
    have M1 : MS 52 h1 := by obtain ⟨I, rfl⟩ := e2.hw; exact M
    rcases e3 with ⟨q, S1, g0, g1, R1, A1⟩ | ⟨g1, g, g2, g3, g4, g5⟩
    · subst g1
      obtain ⟨w1, aw1, h40⟩ := claA_pw hp w a g0
      have hq := R1.2.2.2.2.2.2
      have hqn := nxt_le (t := t) hq
      obtain ⟨h2, f1, f2, f3⟩ := M_see_ok (d := d) R1
      have A2 := A1.pf f3.p8F
      have M2 := f2.1
      have j8 := f2.2.2.2.2.1
      have ea : alP t T (x + 1) num p S = match gO t T q with
          | .inl g => (.inl g : Nat ⊕ PS)
          | .inr none => .inr S1
          | .inr (some q') => alP t T x (num + 1) q' S1 := by
        show (match claA t T num p S with
          | .inl g => (.inl g : Nat ⊕ PS)
          | .inr (q, S') => match gO t T q with
            | .inl g => .inl g
            | .inr none => .inr S'
            | .inr (some q') => alP t T x (num + 1) q' S') = _
        rw [g0]
      have Q2 := (e2.trans f3.p8F.pma).pmb
      by_cases z : nxt t T q < T
      · have tl := (R1.2.2.1 _ z).1
        by_cases z2 : t (nxt t T q) = 59
        · have gg : gO t T q = .inr (some (nxt t T q + 1)) := by unfold gO; rw [if_pos z, if_pos z2]
          rw [gg] at ea
          have ea : alP t T (x + 1) num p S = alP t T x (num + 1) (nxt t T q + 1) S1 := ea
          have R3 := f2.w8 (show nxt t T q + 1 ≤ T by omega)
          obtain ⟨h', v, k1, k2, k3, k4⟩ := M_reads_in x (num + 1) (nxt t T q + 1) S1 (wI h2 52 8 (nI (nxt t T q + 1))) (by omega) (by omega) w1 aw1 R3 (by rw [if_neg (by omega)]; exact A2.w8)
          refine ⟨h', v, ?_, (Q2.trans (PMA_52 (by omega) (by omega)).pmb).trans k2, k3, by rw [ea]; exact k4⟩
          refine Eq.trans ?_ k1
          refine (bnd e1 _).trans ?_
          refine (e_M_readsAll_35 _ _ _ _).trans ?_
          refine (if_neg n10).trans ?_
          refine (if_pos M1.K52).trans ?_
          refine (bnd f1 _).trans ?_
          refine (if_neg (fun y => y (show lk t T (nxt t T q) = nI 59 by rw [lk_lt z, z2]))).trans ?_
          refine (if_pos M2.K52).trans ?_
          refine (if_pos M2.K52).trans ?_
          rw [j8, nI_1]
          refine (if_pos M2.K52).trans ?_
          rfl
        · have gg : gO t T q = .inl (1 + 8 * nxt t T q + 0) := by unfold gO; rw [if_pos z, if_neg z2]
          rw [gg] at ea
          have f9 := M_fails_ok (d := d) M2 f2.2.2.2.2.2.1 (k := 0) (q := nxt t T q)
          rw [← j8] at f9
          have f88 := M_88 (d := d) (h := wI h2 52 9 (nI (1 + 8 * nxt t T q + 0))) M2 (g := 1 + 8 * nxt t T q + 0) (by omega) hI_se
          rw [decide_eq_false (by omega)] at f88
          refine ⟨_, _, ?_, (Q2.trans (PMA_52 (i := 9) (by omega) (by omega)).pmb).trans PMB_w1, hI_se, Or.inl ⟨_, ea, rfl, by rw [hI_ni (by omega), hI_se]⟩⟩
          refine (bnd e1 _).trans ?_
          refine (e_M_readsAll_35 _ _ _ _).trans ?_
          refine (if_neg n10).trans ?_
          refine (if_pos M1.K52).trans ?_
          refine (bnd f1 _).trans ?_
          refine (if_pos (show ¬ lk t T (nxt t T q) = nI 59 by rw [lk_lt z, q_eq_f z2 (by omega) (by omega)]; exact not_false)).trans ?_
          refine (e_M_readsAll_66 _ _ _ _).trans ?_
          refine (if_neg n10).trans ?_
          refine (if_pos M2.K52).trans ?_
          refine (bnd (M_see_same f2 (nxt_nxt hq)) _).trans ?_
          refine (if_neg (show ¬ lk t T (nxt t T q) = nM by rw [lk_lt z, q_m1 (by omega)]; exact not_false)).trans ?_
          refine (if_pos M2.K52).trans ?_
          refine (if_pos M2.K52).trans ?_
          refine (bnd f9 _).trans ?_
          exact f88
      · have gg : gO t T q = .inr none := by unfold gO; rw [if_neg z]
        rw [gg] at ea
        have f88 := M_88 (d := d) M2 (g := 0) (by omega) f2.2.2.2.2.2.1
        have lm : lk t T (nxt t T q) = nM := by unfold lk; rw [if_neg z]
        refine ⟨_, _, ?_, Q2.trans PMB_w1, hI_se, Or.inr ⟨S1, _, ea, rfl, A2.w1, w1, aw1⟩⟩
        refine (bnd e1 _).trans ?_
        refine (e_M_readsAll_35 _ _ _ _).trans ?_
        refine (if_neg n10).trans ?_
        refine (if_pos M1.K52).trans ?_
        refine (bnd f1 _).trans ?_
        refine (if_pos (show ¬ lk t T (nxt t T q) = nI 59 by rw [lm]; decide)).trans ?_
        refine (e_M_readsAll_66 _ _ _ _).trans ?_
        refine (if_neg n10).trans ?_
        refine (if_pos M2.K52).trans ?_
        refine (bnd (M_see_same f2 (nxt_nxt hq)) _).trans ?_
        refine (if_pos lm).trans ?_
        exact f88
    · subst g1
      have f88 := M_88 (d := d) M1 g4 g2
      rw [decide_eq_false (by omega)] at f88
      have ea : alP t T (x + 1) num p S = .inl g := by
        rcases g5 with g5 | ⟨q, S1, g5, g6⟩
        · show (match claA t T num p S with
            | .inl g => (.inl g : Nat ⊕ PS)
            | .inr (q, S') => match gO t T q with
              | .inl g => .inl g
              | .inr none => .inr S'
              | .inr (some q') => alP t T x (num + 1) q' S') = _
          rw [g5]
        · show (match claA t T num p S with
            | .inl g => (.inl g : Nat ⊕ PS)
            | .inr (q, S') => match gO t T q with
              | .inl g => .inl g
              | .inr none => .inr S'
              | .inr (some q') => alP t T x (num + 1) q' S') = _
          rw [g5]
          show (match gO t T q with
              | .inl g => (.inl g : Nat ⊕ PS)
              | .inr none => .inr S1
              | .inr (some q') => alP t T x (num + 1) q' S1) = _
          rw [g6]
      refine ⟨_, _, ?_, e2.pmb.trans PMB_w1, hI_se, Or.inl ⟨g, ea, rfl, by rw [hI_ni (by omega)]; exact g2⟩⟩
      refine (bnd e1 _).trans ?_
      refine (e_M_readsAll_35 _ _ _ _).trans ?_
      refine (if_pos rfl).trans ?_
      refine (e_M_readsAll_66 _ _ _ _).trans ?_
      refine (if_pos rfl).trans ?_
      exact f88
end SkMall
