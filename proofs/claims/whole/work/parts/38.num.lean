/-! ===== numbers: rules for a simplifier that asks omega ===== -/
/-- none; no such thing -/
def nM : Int32 := -1
def nM2 : Int32 := -2
theorem lm1 : -nI 1 = nM := rfl
theorem lm2 : -nI 2 = nM2 := rfl
section SkNum
variable {a b i n N : Nat}
theorem q_le_t (h : a ≤ b) (hb : b < 2 ^ 31) : (nI a ≤ nI b) = True := eq_true (nI_le h hb)
theorem q_le_f (h : b < a) (ha : a < 2 ^ 31) : (nI a ≤ nI b) = False := eq_false (nI_ge h ha)
theorem q_le (ha : a < 2 ^ 31) (hb : b < 2 ^ 31) : (nI a ≤ nI b) = (a ≤ b) := propext (nI_leI ha hb)
theorem q_lt_t (h : a < b) (hb : b < 2 ^ 31) : (nI a < nI b) = True := eq_true (nI_lt h hb)
theorem q_lt_f (h : b ≤ a) (ha : a < 2 ^ 31) : (nI a < nI b) = False := eq_false (nI_nlt h ha)
theorem q_lt (ha : a < 2 ^ 31) (hb : b < 2 ^ 31) : (nI a < nI b) = (a < b) := propext (nI_ltI ha hb)
theorem q_eq_t (h : a = b) : (nI a = nI b) = True := eq_true (congrArg nI h)
theorem q_eq_f (h : a ≠ b) (ha : a < 2 ^ 31) (hb : b < 2 ^ 31) : (nI a = nI b) = False := eq_false (fun q => h ((nI_eq ha hb).mp q))
theorem q_eq (ha : a < 2 ^ 31) (hb : b < 2 ^ 31) : (nI a = nI b) = (a = b) := propext (nI_eq ha hb)
theorem q_sub (h : b ≤ a) : nI a - nI b = nI (a - b) := pk_sub h
theorem q_in (h : i < N) (hN : N < 2 ^ 31) : sk_in (nI i) N = True := eq_true (vp_in_nI h hN)
theorem q_cl (h : n < 2 ^ 31) : (nI n).toNatClampNeg = n := nI_clamp h
theorem q_m1 (h : n < 2 ^ 31) : (nI n = nM) = False := eq_false (fun q => by
  have q2 := congrArg Int32.toInt q
  rw [nI_toInt h] at q2
  have : nM.toInt = -1 := rfl
  omega)
theorem q_1m (h : n < 2 ^ 31) : (nM = nI n) = False := (propext ⟨Eq.symm, Eq.symm⟩).trans (q_m1 h)
theorem q_ltm (h : n < 2 ^ 31) : (nI n < nM) = False := eq_false (fun q => by
  rw [Int32.lt_iff_toInt_lt, nI_toInt h] at q
  have : nM.toInt = -1 := rfl
  omega)
theorem q_mlt (h : n < 2 ^ 31) : (nM < nI n) = True := eq_true (by
  rw [Int32.lt_iff_toInt_lt, nI_toInt h]
  have : nM.toInt = -1 := rfl
  omega)
theorem q_lem (h : n < 2 ^ 31) : (nI n ≤ nM) = False := eq_false (fun q => by
  rw [Int32.le_iff_toInt_le, nI_toInt h] at q
  have : nM.toInt = -1 := rfl
  omega)
theorem q_mle (h : n < 2 ^ 31) : (nM ≤ nI n) = True := eq_true (by
  rw [Int32.le_iff_toInt_le, nI_toInt h]
  have : nM.toInt = -1 := rfl
  omega)
theorem q_nan {m : Nat} (s : Nat) (hm : m < 4096) : nI m &&& (nI s ^^^ nM) = nI (an m s) := nI_an s hm
theorem q_mlt0 : (nM < nI 0) = True := eq_true (by decide)
theorem q_mle0 : (nI 0 ≤ nM) = False := eq_false (by decide)
theorem q_12 : (nM = nM2) = False := eq_false (by decide)
theorem q_an {m s : Nat} : nI m &&& nI s = nI (m &&& s) := nI_and m s
theorem q_bi0 (c : Bool) : (bi c = nI 0) = (c = false) := by cases c <;> simp [bi, nI_0]
theorem q_bi1 (c : Bool) : (bi c = nI 1) = (c = true) := by cases c <;> simp [bi] <;> decide
theorem q_div {d : Nat} (ha : a < 2 ^ 31) (h0 : 0 < d) (hd : d < 2 ^ 31) : nI a / nI d = nI (a / d) := pk_div ha h0 hd
theorem q_rem {d : Nat} (ha : a < 2 ^ 31) (h0 : 0 < d) (hd : d < 2 ^ 31) : nI a - nI a / nI d * nI d = nI (a % d) := pk_rem ha h0 hd
theorem aa101 : (a_any 101 = true) = True := eq_true rfl
theorem aa102 : (a_any 102 = true) = True := eq_true rfl
theorem aa103 : (a_any 103 = true) = True := eq_true rfl
theorem aa104 : (a_any 104 = true) = True := eq_true rfl
theorem aa105 : (a_any 105 = true) = True := eq_true rfl
theorem aa106 : (a_any 106 = true) = True := eq_true rfl
theorem aa107 : (a_any 107 = true) = True := eq_true rfl
theorem aa108 : (a_any 108 = true) = True := eq_true rfl
theorem aa201 : (a_any 201 = true) = True := eq_true rfl
theorem aa202 : (a_any 202 = true) = True := eq_true rfl
theorem aa204 : (a_any 204 = true) = True := eq_true rfl
theorem ar106 : (a_ref 106 = true) = True := eq_true rfl
theorem ar107 : (a_ref 107 = true) = True := eq_true rfl
theorem ar108 : (a_ref 108 = true) = True := eq_true rfl
theorem ofn (k : Nat) : Int32.ofNat k = nI k := rfl
theorem b_ite {α : Type} {c : Prop} [Decidable c] (x y : α) (hc : c) : (if c then x else y) = x := if_pos hc
theorem somene {α : Type} (x : α) : (some x = none) = False := eq_false (fun q => by cases q)
end SkNum
theorem l0 : (0 : Int32) = nI 0 := rfl
theorem l1 : (1 : Int32) = nI 1 := rfl
theorem l2 : (2 : Int32) = nI 2 := rfl
theorem l3 : (3 : Int32) = nI 3 := rfl
theorem l4 : (4 : Int32) = nI 4 := rfl
theorem l5 : (5 : Int32) = nI 5 := rfl
theorem l6 : (6 : Int32) = nI 6 := rfl
theorem l7 : (7 : Int32) = nI 7 := rfl
theorem l8 : (8 : Int32) = nI 8 := rfl
theorem l9 : (9 : Int32) = nI 9 := rfl
theorem l10 : (10 : Int32) = nI 10 := rfl
theorem l11 : (11 : Int32) = nI 11 := rfl
theorem l12 : (12 : Int32) = nI 12 := rfl
theorem l13 : (13 : Int32) = nI 13 := rfl
theorem l14 : (14 : Int32) = nI 14 := rfl
theorem l15 : (15 : Int32) = nI 15 := rfl
theorem l16 : (16 : Int32) = nI 16 := rfl
theorem l17 : (17 : Int32) = nI 17 := rfl
theorem l18 : (18 : Int32) = nI 18 := rfl
theorem l19 : (19 : Int32) = nI 19 := rfl
theorem l20 : (20 : Int32) = nI 20 := rfl
theorem l22 : (22 : Int32) = nI 22 := rfl
theorem l23 : (23 : Int32) = nI 23 := rfl
theorem l24 : (24 : Int32) = nI 24 := rfl
theorem l26 : (26 : Int32) = nI 26 := rfl
theorem l28 : (28 : Int32) = nI 28 := rfl
theorem l30 : (30 : Int32) = nI 30 := rfl
theorem l31 : (31 : Int32) = nI 31 := rfl
theorem l32 : (32 : Int32) = nI 32 := rfl
theorem l40 : (40 : Int32) = nI 40 := rfl
theorem l41 : (41 : Int32) = nI 41 := rfl
theorem l48 : (48 : Int32) = nI 48 := rfl
theorem l50 : (50 : Int32) = nI 50 := rfl
theorem l59 : (59 : Int32) = nI 59 := rfl
theorem l60 : (60 : Int32) = nI 60 := rfl
theorem l64 : (64 : Int32) = nI 64 := rfl
theorem l70 : (70 : Int32) = nI 70 := rfl
theorem l100 : (100 : Int32) = nI 100 := rfl
theorem l103 : (103 : Int32) = nI 103 := rfl
theorem l184 : (184 : Int32) = nI 184 := rfl
theorem l255 : (255 : Int32) = nI 255 := rfl
theorem l256 : (256 : Int32) = nI 256 := rfl
theorem l400 : (400 : Int32) = nI 400 := rfl
theorem l10000 : (10000 : Int32) = nI 10000 := rfl
theorem l65536 : (65536 : Int32) = nI 65536 := rfl
theorem l100000 : (100000 : Int32) = nI 100000 := rfl
theorem l99999 : (99999 : Int32) = nI 99999 := rfl
theorem l736 : (736 : Int32) = nI 736 := rfl
