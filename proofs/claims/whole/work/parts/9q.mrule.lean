/-! ===== the reference reads a value of a rule (printed by gen9q.py) ===== -/
def PVz (i a j : Nat) : Bool := decide ((a = 52 ∧ (j = 8 ∨ j = 9 ∨ j = 10 ∨ j = 12)) ∨ (a = 54 ∧ 400 * i ≤ j ∧ j < 400 * i + 400) ∨ (a = 55 ∧ j = i))
/-- the reference reads rule i, and stands at z -/
def Mz (h : sk_H) (i : Nat) (t : Nat → Nat) (T : Nat) (z : RZ) : Prop := Mr h t T z.1 ∧ hI h 52 11 = nI i ∧ i < 6 ∧ hI h 55 i = nI z.2.1.length ∧ hI h 52 12 = nI z.2.2 ∧ (∀ k o, z.2.1[k]? = some o → hI h 54 (400 * i + k) = nI (o.1 + 16 * o.2)) ∧ z.2.2 ≤ 60 ∧ z.2.1.length ≤ z.1
def Mzr (h h' : sk_H) (i : Nat) (t : Nat → Nat) (T : Nat) (r : Nat ⊕ RZ) (v : Int32) : Prop := Iq (PVz i) h h' ∧ ((∃ z, r = .inr z ∧ v = 1 ∧ Mz h' i t T z) ∨ ∃ g, r = .inl g ∧ v = 0 ∧ hI h' 52 9 = nI g ∧ 0 < g ∧ g < 10000)
def rw0 : List Nat := [112, 108, 97, 99, 101]
def rw1 : List Nat := [109, 97, 110, 121]
def rw2 : List Nat := [114, 111, 119]
def rw3 : List Nat := [115, 116, 97, 110, 100, 105, 110, 103]
def rw4 : List Nat := [108, 101, 102, 116]
def rw5 : List Nat := [114, 117, 110, 115]
def rw6 : List Nat := [108, 111, 110, 103, 101, 115, 116]
def rw7 : List Nat := [97, 108, 111, 110, 101]
def rw8 : List Nat := [119, 111, 110]
def rw9 : List Nat := [116, 117, 114, 110]
def rw10 : List Nat := [115, 116, 114, 111, 107, 101, 115]
section SkMrule
variable {h h' h1 h2 : sk_H} {t : Nat → Nat} {T i d p q n g : Nat} {z z1 : RZ} {v : Int32}
theorem rw_ltr : ∀ w ∈ rWs, (∀ x ∈ w, 97 ≤ x ∧ x ≤ 122) ∧ 0 < w.length ∧ w.length < 9 := by decide
theorem M_rw0 (R : Mr h t T q) (hq : nxt t T q = q) : c_M_isWord d (some 52) (482854658917 : Int64) h = some (h, bi (decide (wdl t T q = rw0))) := M_isWord_same R hq (rw_ltr rw0 (by decide)).1 (by decide) (by decide) (by decide)
theorem M_rw1 (R : Mr h t T q) (hq : nxt t T q = q) : c_M_isWord d (some 52) (1835101817 : Int64) h = some (h, bi (decide (wdl t T q = rw1))) := M_isWord_same R hq (rw_ltr rw1 (by decide)).1 (by decide) (by decide) (by decide)
theorem M_rw2 (R : Mr h t T q) (hq : nxt t T q = q) : c_M_isWord d (some 52) (7499639 : Int64) h = some (h, bi (decide (wdl t T q = rw2))) := M_isWord_same R hq (rw_ltr rw2 (by decide)).1 (by decide) (by decide) (by decide)
theorem M_rw3 (R : Mr h t T q) (hq : nxt t T q = q) : c_M_isWord d (some 52) (8319381538419076711 : Int64) h = some (h, bi (decide (wdl t T q = rw3))) := M_isWord_same R hq (rw_ltr rw3 (by decide)).1 (by decide) (by decide) (by decide)
theorem M_rw4 (R : Mr h t T q) (hq : nxt t T q = q) : c_M_isWord d (some 52) (1818584692 : Int64) h = some (h, bi (decide (wdl t T q = rw4))) := M_isWord_same R hq (rw_ltr rw4 (by decide)).1 (by decide) (by decide) (by decide)
theorem M_rw5 (R : Mr h t T q) (hq : nxt t T q = q) : c_M_isWord d (some 52) (1920298611 : Int64) h = some (h, bi (decide (wdl t T q = rw5))) := M_isWord_same R hq (rw_ltr rw5 (by decide)).1 (by decide) (by decide) (by decide)
theorem M_rw6 (R : Mr h t T q) (hq : nxt t T q = q) : c_M_isWord d (some 52) (30521817456538484 : Int64) h = some (h, bi (decide (wdl t T q = rw6))) := M_isWord_same R hq (rw_ltr rw6 (by decide)).1 (by decide) (by decide) (by decide)
theorem M_rw7 (R : Mr h t T q) (hq : nxt t T q = q) : c_M_isWord d (some 52) (418431069797 : Int64) h = some (h, bi (decide (wdl t T q = rw7))) := M_isWord_same R hq (rw_ltr rw7 (by decide)).1 (by decide) (by decide) (by decide)
theorem M_rw8 (R : Mr h t T q) (hq : nxt t T q = q) : c_M_isWord d (some 52) (7827310 : Int64) h = some (h, bi (decide (wdl t T q = rw8))) := M_isWord_same R hq (rw_ltr rw8 (by decide)).1 (by decide) (by decide) (by decide)
theorem M_rw9 (R : Mr h t T q) (hq : nxt t T q = q) : c_M_isWord d (some 52) (1953854062 : Int64) h = some (h, bi (decide (wdl t T q = rw9))) := M_isWord_same R hq (rw_ltr rw9 (by decide)).1 (by decide) (by decide) (by decide)
theorem M_rw10 (R : Mr h t T q) (hq : nxt t T q = q) : c_M_isWord d (some 52) (32497657166128499 : Int64) h = some (h, bi (decide (wdl t T q = rw10))) := M_isWord_same R hq (rw_ltr rw10 (by decide)).1 (by decide) (by decide) (by decide)
theorem M_wordHere_ok (R : Mr h t T q) (hq : nxt t T q = q) : c_M_wordHere d (some 52) h = some (h, wxI (wxN (wdl t T q) rWs 0)) := by
  have M := R.1
  show _ = some (h, wxI (if wdl t T q = rw0 then some 0 else if wdl t T q = rw1 then some 1 else if wdl t T q = rw2 then some 2 else if wdl t T q = rw3 then some 3 else if wdl t T q = rw4 then some 4 else if wdl t T q = rw5 then some 5 else if wdl t T q = rw6 then some 6 else if wdl t T q = rw7 then some 7 else if wdl t T q = rw8 then some 8 else if wdl t T q = rw9 then some 9 else if wdl t T q = rw10 then some 10 else none))
  by_cases e0 : wdl t T q = rw0
  · rw [if_pos e0]
    refine (e_M_wordHere _ _ _).trans ?_
    refine (if_pos M.K52).trans ?_
    refine (bnd (M_rw0 R hq) _).trans ?_
    refine (if_neg (show ¬ bi (decide (wdl t T q = rw0)) = 0 by rw [decide_eq_true e0]; decide)).trans ?_
    rfl
  by_cases e1 : wdl t T q = rw1
  · rw [if_neg e0, if_pos e1]
    refine (e_M_wordHere _ _ _).trans ?_
    refine (if_pos M.K52).trans ?_
    refine (bnd (M_rw0 R hq) _).trans ?_
    refine (if_pos (show bi (decide (wdl t T q = rw0)) = 0 by rw [decide_eq_false e0]; rfl)).trans ?_
    refine (if_pos M.K52).trans ?_
    refine (bnd (M_rw1 R hq) _).trans ?_
    refine (if_neg (show ¬ bi (decide (wdl t T q = rw1)) = 0 by rw [decide_eq_true e1]; decide)).trans ?_
    rfl
  by_cases e2 : wdl t T q = rw2
  · rw [if_neg e0, if_neg e1, if_pos e2]
    refine (e_M_wordHere _ _ _).trans ?_
    refine (if_pos M.K52).trans ?_
    refine (bnd (M_rw0 R hq) _).trans ?_
    refine (if_pos (show bi (decide (wdl t T q = rw0)) = 0 by rw [decide_eq_false e0]; rfl)).trans ?_
    refine (if_pos M.K52).trans ?_
    refine (bnd (M_rw1 R hq) _).trans ?_
    refine (if_pos (show bi (decide (wdl t T q = rw1)) = 0 by rw [decide_eq_false e1]; rfl)).trans ?_
    refine (if_pos M.K52).trans ?_
    refine (bnd (M_rw2 R hq) _).trans ?_
    refine (if_neg (show ¬ bi (decide (wdl t T q = rw2)) = 0 by rw [decide_eq_true e2]; decide)).trans ?_
    rfl
  by_cases e3 : wdl t T q = rw3
  · rw [if_neg e0, if_neg e1, if_neg e2, if_pos e3]
    refine (e_M_wordHere _ _ _).trans ?_
    refine (if_pos M.K52).trans ?_
    refine (bnd (M_rw0 R hq) _).trans ?_
    refine (if_pos (show bi (decide (wdl t T q = rw0)) = 0 by rw [decide_eq_false e0]; rfl)).trans ?_
    refine (if_pos M.K52).trans ?_
    refine (bnd (M_rw1 R hq) _).trans ?_
    refine (if_pos (show bi (decide (wdl t T q = rw1)) = 0 by rw [decide_eq_false e1]; rfl)).trans ?_
    refine (if_pos M.K52).trans ?_
    refine (bnd (M_rw2 R hq) _).trans ?_
    refine (if_pos (show bi (decide (wdl t T q = rw2)) = 0 by rw [decide_eq_false e2]; rfl)).trans ?_
    refine (if_pos M.K52).trans ?_
    refine (bnd (M_rw3 R hq) _).trans ?_
    refine (if_neg (show ¬ bi (decide (wdl t T q = rw3)) = 0 by rw [decide_eq_true e3]; decide)).trans ?_
    rfl
  by_cases e4 : wdl t T q = rw4
  · rw [if_neg e0, if_neg e1, if_neg e2, if_neg e3, if_pos e4]
    refine (e_M_wordHere _ _ _).trans ?_
    refine (if_pos M.K52).trans ?_
    refine (bnd (M_rw0 R hq) _).trans ?_
    refine (if_pos (show bi (decide (wdl t T q = rw0)) = 0 by rw [decide_eq_false e0]; rfl)).trans ?_
    refine (if_pos M.K52).trans ?_
    refine (bnd (M_rw1 R hq) _).trans ?_
    refine (if_pos (show bi (decide (wdl t T q = rw1)) = 0 by rw [decide_eq_false e1]; rfl)).trans ?_
    refine (if_pos M.K52).trans ?_
    refine (bnd (M_rw2 R hq) _).trans ?_
    refine (if_pos (show bi (decide (wdl t T q = rw2)) = 0 by rw [decide_eq_false e2]; rfl)).trans ?_
    refine (if_pos M.K52).trans ?_
    refine (bnd (M_rw3 R hq) _).trans ?_
    refine (if_pos (show bi (decide (wdl t T q = rw3)) = 0 by rw [decide_eq_false e3]; rfl)).trans ?_
    refine (if_pos M.K52).trans ?_
    refine (bnd (M_rw4 R hq) _).trans ?_
    refine (if_neg (show ¬ bi (decide (wdl t T q = rw4)) = 0 by rw [decide_eq_true e4]; decide)).trans ?_
    rfl
  by_cases e5 : wdl t T q = rw5
  · rw [if_neg e0, if_neg e1, if_neg e2, if_neg e3, if_neg e4, if_pos e5]
    refine (e_M_wordHere _ _ _).trans ?_
    refine (if_pos M.K52).trans ?_
    refine (bnd (M_rw0 R hq) _).trans ?_
    refine (if_pos (show bi (decide (wdl t T q = rw0)) = 0 by rw [decide_eq_false e0]; rfl)).trans ?_
    refine (if_pos M.K52).trans ?_
    refine (bnd (M_rw1 R hq) _).trans ?_
    refine (if_pos (show bi (decide (wdl t T q = rw1)) = 0 by rw [decide_eq_false e1]; rfl)).trans ?_
    refine (if_pos M.K52).trans ?_
    refine (bnd (M_rw2 R hq) _).trans ?_
    refine (if_pos (show bi (decide (wdl t T q = rw2)) = 0 by rw [decide_eq_false e2]; rfl)).trans ?_
    refine (if_pos M.K52).trans ?_
    refine (bnd (M_rw3 R hq) _).trans ?_
    refine (if_pos (show bi (decide (wdl t T q = rw3)) = 0 by rw [decide_eq_false e3]; rfl)).trans ?_
    refine (if_pos M.K52).trans ?_
    refine (bnd (M_rw4 R hq) _).trans ?_
    refine (if_pos (show bi (decide (wdl t T q = rw4)) = 0 by rw [decide_eq_false e4]; rfl)).trans ?_
    refine (if_pos M.K52).trans ?_
    refine (bnd (M_rw5 R hq) _).trans ?_
    refine (if_neg (show ¬ bi (decide (wdl t T q = rw5)) = 0 by rw [decide_eq_true e5]; decide)).trans ?_
    rfl
  by_cases e6 : wdl t T q = rw6
  · rw [if_neg e0, if_neg e1, if_neg e2, if_neg e3, if_neg e4, if_neg e5, if_pos e6]
    refine (e_M_wordHere _ _ _).trans ?_
    refine (if_pos M.K52).trans ?_
    refine (bnd (M_rw0 R hq) _).trans ?_
    refine (if_pos (show bi (decide (wdl t T q = rw0)) = 0 by rw [decide_eq_false e0]; rfl)).trans ?_
    refine (if_pos M.K52).trans ?_
    refine (bnd (M_rw1 R hq) _).trans ?_
    refine (if_pos (show bi (decide (wdl t T q = rw1)) = 0 by rw [decide_eq_false e1]; rfl)).trans ?_
    refine (if_pos M.K52).trans ?_
    refine (bnd (M_rw2 R hq) _).trans ?_
    refine (if_pos (show bi (decide (wdl t T q = rw2)) = 0 by rw [decide_eq_false e2]; rfl)).trans ?_
    refine (if_pos M.K52).trans ?_
    refine (bnd (M_rw3 R hq) _).trans ?_
    refine (if_pos (show bi (decide (wdl t T q = rw3)) = 0 by rw [decide_eq_false e3]; rfl)).trans ?_
    refine (if_pos M.K52).trans ?_
    refine (bnd (M_rw4 R hq) _).trans ?_
    refine (if_pos (show bi (decide (wdl t T q = rw4)) = 0 by rw [decide_eq_false e4]; rfl)).trans ?_
    refine (if_pos M.K52).trans ?_
    refine (bnd (M_rw5 R hq) _).trans ?_
    refine (if_pos (show bi (decide (wdl t T q = rw5)) = 0 by rw [decide_eq_false e5]; rfl)).trans ?_
    refine (if_pos M.K52).trans ?_
    refine (bnd (M_rw6 R hq) _).trans ?_
    refine (if_neg (show ¬ bi (decide (wdl t T q = rw6)) = 0 by rw [decide_eq_true e6]; decide)).trans ?_
    rfl
  by_cases e7 : wdl t T q = rw7
  · rw [if_neg e0, if_neg e1, if_neg e2, if_neg e3, if_neg e4, if_neg e5, if_neg e6, if_pos e7]
    refine (e_M_wordHere _ _ _).trans ?_
    refine (if_pos M.K52).trans ?_
    refine (bnd (M_rw0 R hq) _).trans ?_
    refine (if_pos (show bi (decide (wdl t T q = rw0)) = 0 by rw [decide_eq_false e0]; rfl)).trans ?_
    refine (if_pos M.K52).trans ?_
    refine (bnd (M_rw1 R hq) _).trans ?_
    refine (if_pos (show bi (decide (wdl t T q = rw1)) = 0 by rw [decide_eq_false e1]; rfl)).trans ?_
    refine (if_pos M.K52).trans ?_
    refine (bnd (M_rw2 R hq) _).trans ?_
    refine (if_pos (show bi (decide (wdl t T q = rw2)) = 0 by rw [decide_eq_false e2]; rfl)).trans ?_
    refine (if_pos M.K52).trans ?_
    refine (bnd (M_rw3 R hq) _).trans ?_
    refine (if_pos (show bi (decide (wdl t T q = rw3)) = 0 by rw [decide_eq_false e3]; rfl)).trans ?_
    refine (if_pos M.K52).trans ?_
    refine (bnd (M_rw4 R hq) _).trans ?_
    refine (if_pos (show bi (decide (wdl t T q = rw4)) = 0 by rw [decide_eq_false e4]; rfl)).trans ?_
    refine (if_pos M.K52).trans ?_
    refine (bnd (M_rw5 R hq) _).trans ?_
    refine (if_pos (show bi (decide (wdl t T q = rw5)) = 0 by rw [decide_eq_false e5]; rfl)).trans ?_
    refine (if_pos M.K52).trans ?_
    refine (bnd (M_rw6 R hq) _).trans ?_
    refine (if_pos (show bi (decide (wdl t T q = rw6)) = 0 by rw [decide_eq_false e6]; rfl)).trans ?_
    refine (if_pos M.K52).trans ?_
    refine (bnd (M_rw7 R hq) _).trans ?_
    refine (if_neg (show ¬ bi (decide (wdl t T q = rw7)) = 0 by rw [decide_eq_true e7]; decide)).trans ?_
    rfl
  by_cases e8 : wdl t T q = rw8
  · rw [if_neg e0, if_neg e1, if_neg e2, if_neg e3, if_neg e4, if_neg e5, if_neg e6, if_neg e7, if_pos e8]
    refine (e_M_wordHere _ _ _).trans ?_
    refine (if_pos M.K52).trans ?_
    refine (bnd (M_rw0 R hq) _).trans ?_
    refine (if_pos (show bi (decide (wdl t T q = rw0)) = 0 by rw [decide_eq_false e0]; rfl)).trans ?_
    refine (if_pos M.K52).trans ?_
    refine (bnd (M_rw1 R hq) _).trans ?_
    refine (if_pos (show bi (decide (wdl t T q = rw1)) = 0 by rw [decide_eq_false e1]; rfl)).trans ?_
    refine (if_pos M.K52).trans ?_
    refine (bnd (M_rw2 R hq) _).trans ?_
    refine (if_pos (show bi (decide (wdl t T q = rw2)) = 0 by rw [decide_eq_false e2]; rfl)).trans ?_
    refine (if_pos M.K52).trans ?_
    refine (bnd (M_rw3 R hq) _).trans ?_
    refine (if_pos (show bi (decide (wdl t T q = rw3)) = 0 by rw [decide_eq_false e3]; rfl)).trans ?_
    refine (if_pos M.K52).trans ?_
    refine (bnd (M_rw4 R hq) _).trans ?_
    refine (if_pos (show bi (decide (wdl t T q = rw4)) = 0 by rw [decide_eq_false e4]; rfl)).trans ?_
    refine (if_pos M.K52).trans ?_
    refine (bnd (M_rw5 R hq) _).trans ?_
    refine (if_pos (show bi (decide (wdl t T q = rw5)) = 0 by rw [decide_eq_false e5]; rfl)).trans ?_
    refine (if_pos M.K52).trans ?_
    refine (bnd (M_rw6 R hq) _).trans ?_
    refine (if_pos (show bi (decide (wdl t T q = rw6)) = 0 by rw [decide_eq_false e6]; rfl)).trans ?_
    refine (if_pos M.K52).trans ?_
    refine (bnd (M_rw7 R hq) _).trans ?_
    refine (if_pos (show bi (decide (wdl t T q = rw7)) = 0 by rw [decide_eq_false e7]; rfl)).trans ?_
    refine (if_pos M.K52).trans ?_
    refine (bnd (M_rw8 R hq) _).trans ?_
    refine (if_neg (show ¬ bi (decide (wdl t T q = rw8)) = 0 by rw [decide_eq_true e8]; decide)).trans ?_
    rfl
  by_cases e9 : wdl t T q = rw9
  · rw [if_neg e0, if_neg e1, if_neg e2, if_neg e3, if_neg e4, if_neg e5, if_neg e6, if_neg e7, if_neg e8, if_pos e9]
    refine (e_M_wordHere _ _ _).trans ?_
    refine (if_pos M.K52).trans ?_
    refine (bnd (M_rw0 R hq) _).trans ?_
    refine (if_pos (show bi (decide (wdl t T q = rw0)) = 0 by rw [decide_eq_false e0]; rfl)).trans ?_
    refine (if_pos M.K52).trans ?_
    refine (bnd (M_rw1 R hq) _).trans ?_
    refine (if_pos (show bi (decide (wdl t T q = rw1)) = 0 by rw [decide_eq_false e1]; rfl)).trans ?_
    refine (if_pos M.K52).trans ?_
    refine (bnd (M_rw2 R hq) _).trans ?_
    refine (if_pos (show bi (decide (wdl t T q = rw2)) = 0 by rw [decide_eq_false e2]; rfl)).trans ?_
    refine (if_pos M.K52).trans ?_
    refine (bnd (M_rw3 R hq) _).trans ?_
    refine (if_pos (show bi (decide (wdl t T q = rw3)) = 0 by rw [decide_eq_false e3]; rfl)).trans ?_
    refine (if_pos M.K52).trans ?_
    refine (bnd (M_rw4 R hq) _).trans ?_
    refine (if_pos (show bi (decide (wdl t T q = rw4)) = 0 by rw [decide_eq_false e4]; rfl)).trans ?_
    refine (if_pos M.K52).trans ?_
    refine (bnd (M_rw5 R hq) _).trans ?_
    refine (if_pos (show bi (decide (wdl t T q = rw5)) = 0 by rw [decide_eq_false e5]; rfl)).trans ?_
    refine (if_pos M.K52).trans ?_
    refine (bnd (M_rw6 R hq) _).trans ?_
    refine (if_pos (show bi (decide (wdl t T q = rw6)) = 0 by rw [decide_eq_false e6]; rfl)).trans ?_
    refine (if_pos M.K52).trans ?_
    refine (bnd (M_rw7 R hq) _).trans ?_
    refine (if_pos (show bi (decide (wdl t T q = rw7)) = 0 by rw [decide_eq_false e7]; rfl)).trans ?_
    refine (if_pos M.K52).trans ?_
    refine (bnd (M_rw8 R hq) _).trans ?_
    refine (if_pos (show bi (decide (wdl t T q = rw8)) = 0 by rw [decide_eq_false e8]; rfl)).trans ?_
    refine (if_pos M.K52).trans ?_
    refine (bnd (M_rw9 R hq) _).trans ?_
    refine (if_neg (show ¬ bi (decide (wdl t T q = rw9)) = 0 by rw [decide_eq_true e9]; decide)).trans ?_
    rfl
  by_cases e10 : wdl t T q = rw10
  · rw [if_neg e0, if_neg e1, if_neg e2, if_neg e3, if_neg e4, if_neg e5, if_neg e6, if_neg e7, if_neg e8, if_neg e9, if_pos e10]
    refine (e_M_wordHere _ _ _).trans ?_
    refine (if_pos M.K52).trans ?_
    refine (bnd (M_rw0 R hq) _).trans ?_
    refine (if_pos (show bi (decide (wdl t T q = rw0)) = 0 by rw [decide_eq_false e0]; rfl)).trans ?_
    refine (if_pos M.K52).trans ?_
    refine (bnd (M_rw1 R hq) _).trans ?_
    refine (if_pos (show bi (decide (wdl t T q = rw1)) = 0 by rw [decide_eq_false e1]; rfl)).trans ?_
    refine (if_pos M.K52).trans ?_
    refine (bnd (M_rw2 R hq) _).trans ?_
    refine (if_pos (show bi (decide (wdl t T q = rw2)) = 0 by rw [decide_eq_false e2]; rfl)).trans ?_
    refine (if_pos M.K52).trans ?_
    refine (bnd (M_rw3 R hq) _).trans ?_
    refine (if_pos (show bi (decide (wdl t T q = rw3)) = 0 by rw [decide_eq_false e3]; rfl)).trans ?_
    refine (if_pos M.K52).trans ?_
    refine (bnd (M_rw4 R hq) _).trans ?_
    refine (if_pos (show bi (decide (wdl t T q = rw4)) = 0 by rw [decide_eq_false e4]; rfl)).trans ?_
    refine (if_pos M.K52).trans ?_
    refine (bnd (M_rw5 R hq) _).trans ?_
    refine (if_pos (show bi (decide (wdl t T q = rw5)) = 0 by rw [decide_eq_false e5]; rfl)).trans ?_
    refine (if_pos M.K52).trans ?_
    refine (bnd (M_rw6 R hq) _).trans ?_
    refine (if_pos (show bi (decide (wdl t T q = rw6)) = 0 by rw [decide_eq_false e6]; rfl)).trans ?_
    refine (if_pos M.K52).trans ?_
    refine (bnd (M_rw7 R hq) _).trans ?_
    refine (if_pos (show bi (decide (wdl t T q = rw7)) = 0 by rw [decide_eq_false e7]; rfl)).trans ?_
    refine (if_pos M.K52).trans ?_
    refine (bnd (M_rw8 R hq) _).trans ?_
    refine (if_pos (show bi (decide (wdl t T q = rw8)) = 0 by rw [decide_eq_false e8]; rfl)).trans ?_
    refine (if_pos M.K52).trans ?_
    refine (bnd (M_rw9 R hq) _).trans ?_
    refine (if_pos (show bi (decide (wdl t T q = rw9)) = 0 by rw [decide_eq_false e9]; rfl)).trans ?_
    refine (if_pos M.K52).trans ?_
    refine (bnd (M_rw10 R hq) _).trans ?_
    refine (if_neg (show ¬ bi (decide (wdl t T q = rw10)) = 0 by rw [decide_eq_true e10]; decide)).trans ?_
    rfl
  rw [if_neg e0, if_neg e1, if_neg e2, if_neg e3, if_neg e4, if_neg e5, if_neg e6, if_neg e7, if_neg e8, if_neg e9, if_neg e10]
  refine (e_M_wordHere _ _ _).trans ?_
  refine (if_pos M.K52).trans ?_
  refine (bnd (M_rw0 R hq) _).trans ?_
  refine (if_pos (show bi (decide (wdl t T q = rw0)) = 0 by rw [decide_eq_false e0]; rfl)).trans ?_
  refine (if_pos M.K52).trans ?_
  refine (bnd (M_rw1 R hq) _).trans ?_
  refine (if_pos (show bi (decide (wdl t T q = rw1)) = 0 by rw [decide_eq_false e1]; rfl)).trans ?_
  refine (if_pos M.K52).trans ?_
  refine (bnd (M_rw2 R hq) _).trans ?_
  refine (if_pos (show bi (decide (wdl t T q = rw2)) = 0 by rw [decide_eq_false e2]; rfl)).trans ?_
  refine (if_pos M.K52).trans ?_
  refine (bnd (M_rw3 R hq) _).trans ?_
  refine (if_pos (show bi (decide (wdl t T q = rw3)) = 0 by rw [decide_eq_false e3]; rfl)).trans ?_
  refine (if_pos M.K52).trans ?_
  refine (bnd (M_rw4 R hq) _).trans ?_
  refine (if_pos (show bi (decide (wdl t T q = rw4)) = 0 by rw [decide_eq_false e4]; rfl)).trans ?_
  refine (if_pos M.K52).trans ?_
  refine (bnd (M_rw5 R hq) _).trans ?_
  refine (if_pos (show bi (decide (wdl t T q = rw5)) = 0 by rw [decide_eq_false e5]; rfl)).trans ?_
  refine (if_pos M.K52).trans ?_
  refine (bnd (M_rw6 R hq) _).trans ?_
  refine (if_pos (show bi (decide (wdl t T q = rw6)) = 0 by rw [decide_eq_false e6]; rfl)).trans ?_
  refine (if_pos M.K52).trans ?_
  refine (bnd (M_rw7 R hq) _).trans ?_
  refine (if_pos (show bi (decide (wdl t T q = rw7)) = 0 by rw [decide_eq_false e7]; rfl)).trans ?_
  refine (if_pos M.K52).trans ?_
  refine (bnd (M_rw8 R hq) _).trans ?_
  refine (if_pos (show bi (decide (wdl t T q = rw8)) = 0 by rw [decide_eq_false e8]; rfl)).trans ?_
  refine (if_pos M.K52).trans ?_
  refine (bnd (M_rw9 R hq) _).trans ?_
  refine (if_pos (show bi (decide (wdl t T q = rw9)) = 0 by rw [decide_eq_false e9]; rfl)).trans ?_
  refine (if_pos M.K52).trans ?_
  refine (bnd (M_rw10 R hq) _).trans ?_
  refine (if_pos (show bi (decide (wdl t T q = rw10)) = 0 by rw [decide_eq_false e10]; rfl)).trans ?_
  rfl
theorem PVz_F {a j : Nat} (hP : PVz i a j = false) : PF a j = false := by
  have := of_decide_eq_false hP
  cases e : PF a j
  · rfl
  · unfold PF at e
    simp only [Bool.and_eq_true, Bool.or_eq_true, beq_iff_eq] at e
    exact absurd (Or.inl ⟨e.1, by omega⟩) this
theorem Iq.pv (Q : Iq PF h h1) : Iq (PVz i) h h1 := Q.mono fun _ _ => PVz_F
theorem PVz_w {a j : Nat} (ha : (a = 52 ∧ (j = 8 ∨ j = 9 ∨ j = 10 ∨ j = 12)) ∨ (a = 54 ∧ 400 * i ≤ j ∧ j < 400 * i + 400) ∨ (a = 55 ∧ j = i)) : Iq (PVz i) h (wI h a j v) := Iq.w h v (by unfold PVz; exact decide_eq_true ha)
theorem PF_i {a j : Nat} (Q : Iq PF h h1) (ha : a ≠ 52 ∨ (j ≠ 8 ∧ j ≠ 9 ∧ j ≠ 10)) : hI h1 a j = hI h a j := Q.I (by
  cases e : PF a j
  · rfl
  · unfold PF at e
    simp only [Bool.and_eq_true, Bool.or_eq_true, beq_iff_eq] at e
    omega)
theorem Mz.mv (Z : Mz h i t T z) (Q : Iq PF h h1) (R : Mr h1 t T q) (hq : z.1 ≤ q) : Mz h1 i t T (zAt z q) := by
  obtain ⟨-, z2, z3, z4, z5, z6, z7, z8⟩ := Z
  exact ⟨R, by rw [PF_i Q (by omega)]; exact z2, z3, by rw [PF_i Q (by omega)]; exact z4, by rw [PF_i Q (by omega)]; exact z5, fun k o hk => by rw [PF_i Q (by omega)]; exact z6 k o hk, z7, Nat.le_trans z8 hq⟩
theorem M_puts_ok (Z : Mz h i t T z) (hl : z.2.1.length + 1 ≤ z.1) (o : Nat × Nat) : ∃ h', c_M_puts d (some 52) (nI o.1) (nI o.2) h = some h' ∧ Mz h' i t T (z.1, z.2.1 ++ [o], z.2.2) ∧ Iq (PVz i) h h' := by
  obtain ⟨R, z2, z3, z4, z5, z6, z7, z8⟩ := Z
  obtain ⟨M, r1, r2, r3, r4, r5, r6⟩ := id R
  have hL : z.2.1.length < 400 := by omega
  have Q : Iq (PVz i) h (wI (wI h 54 (400 * i + z.2.1.length) (nI (o.1 + 16 * o.2))) 55 i (nI (z.2.1.length + 1))) := (PVz_w (by omega)).trans (PVz_w (by omega))
  refine ⟨_, ?_, ⟨R.mv Q (fun j => by unfold PVz; exact decide_eq_false (by omega)) (by unfold PVz; exact decide_eq_false (by omega)) ?_ r6 ?_, ?_, z3, ?_, ?_, fun k o' hk => ?_, z7, ?_⟩, Q⟩
  · have ec : (hI h 52 11).toNatClampNeg = i := by rw [z2, q_cl (by omega)]
    have i4 : sk_in (hI h 52 11) (hN h 55) := by rw [z2, M.N55]; exact vp_in_nI (by omega) (by omega)
    have ea : (400 : Int32) * hI h 52 11 + hI h 55 (hI h 52 11).toNatClampNeg = nI (400 * i + z.2.1.length) := by rw [ec, z2, z4, show (400 : Int32) = nI 400 from rfl, pk_mul, nI_add]
    have eo : nI o.1 + (16 : Int32) * nI o.2 = nI (o.1 + 16 * o.2) := by rw [show (16 : Int32) = nI 16 from rfl, pk_mul, nI_add]
    refine (e_M_puts _ _ _ _ _).trans ?_
    refine (if_pos M.K52).trans ?_
    refine (if_pos M.K52).trans ?_
    refine (if_pos M.K52).trans ?_
    refine (if_pos M.K52).trans ?_
    refine (bnd M.r4 _).trans ?_
    refine (if_pos ⟨Or.inl M.K55, i4⟩).trans ?_
    refine (bnd M.r3 _).trans ?_
    refine (if_pos ⟨M.K54, show sk_in ((400 : Int32) * hI h 52 11 + hI h 55 (hI h 52 11).toNatClampNeg) (hN h 54) by rw [ea, M.N54]; exact vp_in_nI (by omega) (by omega)⟩).trans ?_
    refine (if_pos M.K52).trans ?_
    refine (if_pos M.K52).trans ?_
    refine (bnd M.r4 _).trans ?_
    refine (if_pos ⟨Or.inl M.K55, show sk_in (hI (wI h 54 _ _) 52 11) (hN h 55) by rw [hI_na (by omega)]; exact i4⟩).trans ?_
    refine (bnd M.r4 _).trans ?_
    refine (if_pos ⟨M.K55, show sk_in (hI (wI h 54 _ _) 52 11) (hN h 55) by rw [hI_na (by omega)]; exact i4⟩).trans ?_
    show some (wI (wI h 54 ((400 : Int32) * hI h 52 11 + hI h 55 (hI h 52 11).toNatClampNeg).toNatClampNeg (nI o.1 + (16 : Int32) * nI o.2)) 55 (hI (wI h 54 ((400 : Int32) * hI h 52 11 + hI h 55 (hI h 52 11).toNatClampNeg).toNatClampNeg (nI o.1 + (16 : Int32) * nI o.2)) 52 11).toNatClampNeg (hI (wI h 54 ((400 : Int32) * hI h 52 11 + hI h 55 (hI h 52 11).toNatClampNeg).toNatClampNeg (nI o.1 + (16 : Int32) * nI o.2)) 55 (hI (wI h 54 ((400 : Int32) * hI h 52 11 + hI h 55 (hI h 52 11).toNatClampNeg).toNatClampNeg (nI o.1 + (16 : Int32) * nI o.2)) 52 11).toNatClampNeg + 1)) = _
    rw [ea, eo, q_cl (show 400 * i + z.2.1.length < 2 ^ 31 by omega), hI_na (show 52 ≠ 54 by omega), ec, hI_na (show 55 ≠ 54 by omega), z4, nI_1]
  · rw [hI_na (by omega), hI_na (by omega)]; exact r5
  · rw [hI_na (by omega), hI_na (by omega)]; exact r4
  · rw [hI_na (by omega), hI_na (by omega)]; exact z2
  · rw [hI_se]
    show _ = nI (z.2.1 ++ [o]).length
    rw [List.length_append]
    rfl
  · rw [hI_na (by omega), hI_na (by omega)]; exact z5
  · have hk : (z.2.1 ++ [o])[k]? = some o' := hk
    rw [hI_na (by omega)]
    by_cases y : k < z.2.1.length
    · rw [List.getElem?_append_left y] at hk
      rw [hI_ni (by omega)]; exact z6 k o' hk
    · rw [List.getElem?_append_right (by omega)] at hk
      by_cases y2 : k = z.2.1.length
      · rw [y2, Nat.sub_self] at hk
        have : o = o' := by simpa using hk
        rw [y2, hI_se, this]
      · rw [List.getElem?_eq_none (by show [o].length ≤ _; simp; omega)] at hk
        cases hk
  · show (z.2.1 ++ [o]).length ≤ z.1
    rw [List.length_append]
    exact hl
theorem M_makes_ok (Z : Mz h i t T z) : ∃ h' v, c_M_makes d (some 52) (nI q) h = some (h', v) ∧ Iq (PVz i) h h' ∧ ((z.2.2 ≠ 60 ∧ v = 1 ∧ Mz h' i t T (z.1, z.2.1, z.2.2 + 1)) ∨ (z.2.2 = 60 ∧ v = 0 ∧ hI h' 52 9 = nI (1 + 8 * q + 3))) := by
  obtain ⟨R, z2, z3, z4, z5, z6, z7, z8⟩ := Z
  obtain ⟨M, r1, r2, r3, r4, r5, r6⟩ := id R
  by_cases y : z.2.2 = 60
  · refine ⟨_, 0, ?_, PVz_w (v := nI (1 + 8 * q + 3)) (a := 52) (j := 9) (by omega), Or.inr ⟨y, rfl, hI_se⟩⟩
    refine (e_M_makes _ _ _ _).trans ?_
    refine (if_pos M.K52).trans ?_
    refine (if_neg (fun w => w (show hI h 52 12 = (60 : Int32) by rw [z5, y]; rfl))).trans ?_
    refine (if_pos M.K52).trans ?_
    refine (bnd (M_fails_ok (k := 3) M r5) _).trans ?_
    exact (if_pos (Or.inl rfl)).trans rfl
  · have Q : Iq (PVz i) h (wI h 52 12 (nI (z.2.2 + 1))) := PVz_w (by omega)
    refine ⟨_, 1, ?_, Q, Or.inl ⟨y, rfl, R.mv Q (fun j => by unfold PVz; exact decide_eq_false (by omega)) (by unfold PVz; exact decide_eq_false (by omega)) (by rw [hI_ni (by omega)]; exact r5) r6 (by rw [hI_ni (by omega)]; exact r4), by rw [hI_ni (by omega)]; exact z2, z3, by rw [hI_na (by omega)]; exact z4, hI_se, fun k o hk => by rw [hI_na (by omega)]; exact z6 k o hk, by show z.2.2 + 1 ≤ 60; omega, z8⟩⟩
    refine (e_M_makes _ _ _ _).trans ?_
    refine (if_pos M.K52).trans ?_
    refine (if_pos (show ¬ hI h 52 12 = nI 60 by rw [z5]; exact fun w => y ((nI_eq (by omega) (by omega)).mp w))).trans ?_
    refine (if_pos M.K52).trans ?_
    refine (if_pos M.K52).trans ?_
    show some (wI h 52 12 (hI h 52 12 + 1), (1 : Int32)) = _
    rw [z5, nI_1]
end SkMrule
