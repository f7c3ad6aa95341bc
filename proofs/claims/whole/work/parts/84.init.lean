/-! ===== both made anew ===== -/
def zop (h : sk_H) (o : Nat × Nat × Nat × Nat) : sk_H := match o.1 with
  | 0 => hnew h o.2.1 o.2.2.1
  | 1 => wR h o.2.1 o.2.2.1 (some o.2.2.2)
  | _ => wI h 52 23 (-1)
def zr (l : List (Nat × Nat × Nat × Nat)) (h : sk_H) : sk_H := l.foldl zop h
def zO : List (Nat × Nat × Nat × Nat) := [(0, 12, 9, 0), (0, 105, 400, 0), (1, 20, 0, 21), (0, 106, 6, 0), (1, 20, 2, 22), (0, 9, 8, 0), (0, 101, 40, 0), (1, 23, 5, 24), (0, 101, 40, 0), (1, 23, 6, 25), (0, 108, 40, 0), (1, 23, 7, 26), (1, 20, 4, 23), (0, 107, 4, 0), (1, 20, 5, 27), (0, 1, 5, 0), (0, 101, 20, 0), (1, 28, 0, 29), (0, 101, 20, 0), (1, 28, 1, 30), (0, 101, 20, 0), (1, 28, 2, 31), (1, 20, 6, 28), (0, 11, 14, 0), (0, 2, 17, 0), (0, 101, 12, 0), (1, 33, 8, 34), (0, 101, 4, 0), (1, 33, 9, 35), (0, 101, 4, 0), (1, 33, 10, 36), (0, 103, 4, 0), (1, 33, 11, 37), (0, 101, 12, 0), (1, 33, 12, 38), (0, 101, 12, 0), (1, 33, 13, 39), (0, 108, 0, 0), (1, 33, 14, 40), (0, 108, 0, 0), (1, 33, 15, 41), (0, 101, 41, 0), (1, 33, 16, 42), (1, 32, 0, 33), (0, 102, 4096, 0), (1, 32, 3, 43), (0, 101, 4096, 0), (1, 32, 4, 44), (0, 101, 4096, 0), (1, 32, 5, 45), (0, 101, 4096, 0), (1, 32, 6, 46), (0, 101, 4096, 0), (1, 32, 7, 47), (0, 101, 4096, 0), (1, 32, 8, 48), (1, 20, 7, 32), (0, 4, 9, 0), (0, 5, 1, 0), (0, 102, 11, 0), (1, 50, 0, 51), (1, 49, 0, 50), (1, 20, 8, 49), (0, 13, 40, 0), (0, 104, 400, 0), (1, 52, 0, 53), (0, 101, 2400, 0), (1, 52, 3, 54), (0, 101, 7, 0), (1, 52, 4, 55), (0, 101, 288, 0), (1, 52, 5, 56), (0, 101, 6, 0), (1, 52, 6, 57), (0, 101, 24, 0), (1, 52, 7, 58), (0, 101, 400, 0), (1, 52, 15, 59), (0, 102, 64, 0), (1, 52, 17, 60), (0, 102, 11, 0), (1, 52, 19, 61), (0, 101, 184, 0), (1, 52, 20, 62), (0, 103, 4096, 0), (1, 52, 22, 63), (2, 0, 0, 0), (0, 101, 80, 0), (1, 52, 24, 64), (0, 101, 4096, 0), (1, 52, 26, 65), (0, 103, 256, 0), (1, 52, 27, 66), (0, 101, 41, 0), (1, 52, 28, 67), (0, 101, 4096, 0), (1, 52, 29, 68), (0, 101, 4096, 0), (1, 52, 30, 69), (0, 101, 736, 0), (1, 52, 37, 70), (0, 101, 4, 0), (1, 52, 38, 71), (0, 103, 4, 0), (1, 52, 39, 72)]
def zF (L : Nat) (xs : Nat → Int32) (r : Option Nat) : sk_H := zr zO (sk_h0 L xs r)
section SkInit
variable {L : Nat} {xs : Nat → Int32} {r : Option Nat} {d : Nat}
theorem z_St : c_St_init d (some 23) (zr (zO.take 6) (sk_h0 L xs r)) = some (zr (zO.take 12) (sk_h0 L xs r)) := by
  refine (e_St_init _ _ _).trans ?_
  refine (if_pos (show _ = _ from rfl)).trans ?_
  refine (if_pos (show _ = _ from rfl)).trans ?_
  refine (if_pos (show _ = _ from rfl)).trans ?_
  rfl
theorem z_Ac : c_Ac_init d (some 28) (zr (zO.take 16) (sk_h0 L xs r)) = some (zr (zO.take 22) (sk_h0 L xs r)) := by
  refine (e_Ac_init _ _ _).trans ?_
  refine (if_pos (show _ = _ from rfl)).trans ?_
  refine (if_pos (show _ = _ from rfl)).trans ?_
  refine (if_pos (show _ = _ from rfl)).trans ?_
  rfl
theorem z_Al : c_Al_init d (some 33) (zr (zO.take 25) (sk_h0 L xs r)) = some (zr (zO.take 43) (sk_h0 L xs r)) := by
  refine (e_Al_init _ _ _).trans ?_
  refine (if_pos (show _ = _ from rfl)).trans ?_
  refine (if_pos (show _ = _ from rfl)).trans ?_
  refine (if_pos (show _ = _ from rfl)).trans ?_
  refine (if_pos (show _ = _ from rfl)).trans ?_
  refine (if_pos (show _ = _ from rfl)).trans ?_
  refine (if_pos (show _ = _ from rfl)).trans ?_
  refine (if_pos (show _ = _ from rfl)).trans ?_
  refine (if_pos (show _ = _ from rfl)).trans ?_
  refine (if_pos (show _ = _ from rfl)).trans ?_
  rfl
theorem z_Lo : c_Lo_init d (some 50) (zr (zO.take 59) (sk_h0 L xs r)) = some (zr (zO.take 61) (sk_h0 L xs r)) := by
  refine (e_Lo_init _ _ _).trans ?_
  refine (if_pos (show _ = _ from rfl)).trans ?_
  rfl
theorem z_Ta : c_Ta_init d (some 32) (zr (zO.take 24) (sk_h0 L xs r)) = some (zr (zO.take 56) (sk_h0 L xs r)) := by
  refine (e_Ta_init _ _ _).trans ?_
  refine (if_pos (show _ = _ from rfl)).trans ?_
  refine (bnd z_Al _).trans ?_
  refine (if_pos (show _ = _ from rfl)).trans ?_
  refine (if_pos (show _ = _ from rfl)).trans ?_
  refine (if_pos (show _ = _ from rfl)).trans ?_
  refine (if_pos (show _ = _ from rfl)).trans ?_
  refine (if_pos (show _ = _ from rfl)).trans ?_
  refine (if_pos (show _ = _ from rfl)).trans ?_
  refine (if_pos (show _ = _ from rfl)).trans ?_
  rfl
theorem z_Bo : c_Bo_init d (some 49) (zr (zO.take 58) (sk_h0 L xs r)) = some (zr (zO.take 62) (sk_h0 L xs r)) := by
  refine (e_Bo_init _ _ _).trans ?_
  refine (if_pos (show _ = _ from rfl)).trans ?_
  refine (bnd z_Lo _).trans ?_
  refine (if_pos (show _ = _ from rfl)).trans ?_
  rfl
theorem z_SR : c_SR_init d (some 20) (zr (zO.take 1) (sk_h0 L xs r)) = some (zr (zO.take 63) (sk_h0 L xs r)) := by
  refine (e_SR_init _ _ _).trans ?_
  refine (if_pos (show _ = _ from rfl)).trans ?_
  refine (if_pos (show _ = _ from rfl)).trans ?_
  refine (if_pos (show _ = _ from rfl)).trans ?_
  refine (bnd z_St _).trans ?_
  refine (if_pos (show _ = _ from rfl)).trans ?_
  refine (if_pos (show _ = _ from rfl)).trans ?_
  refine (if_pos (show _ = _ from rfl)).trans ?_
  refine (bnd z_Ac _).trans ?_
  refine (if_pos (show _ = _ from rfl)).trans ?_
  refine (if_pos (show _ = _ from rfl)).trans ?_
  refine (bnd z_Ta _).trans ?_
  refine (if_pos (show _ = _ from rfl)).trans ?_
  refine (if_pos (show _ = _ from rfl)).trans ?_
  refine (bnd z_Bo _).trans ?_
  refine (if_pos (show _ = _ from rfl)).trans ?_
  rfl
theorem z_M : c_M_init d (some 52) (zr (zO.take 64) (sk_h0 L xs r)) = some (zr (zO.take 105) (sk_h0 L xs r)) := by
  refine (e_M_init _ _ _).trans ?_
  refine (if_pos (show _ = _ from rfl)).trans ?_
  refine (if_pos (show _ = _ from rfl)).trans ?_
  refine (if_pos (show _ = _ from rfl)).trans ?_
  refine (if_pos (show _ = _ from rfl)).trans ?_
  refine (if_pos (show _ = _ from rfl)).trans ?_
  refine (if_pos (show _ = _ from rfl)).trans ?_
  refine (if_pos (show _ = _ from rfl)).trans ?_
  refine (if_pos (show _ = _ from rfl)).trans ?_
  refine (if_pos (show _ = _ from rfl)).trans ?_
  refine (if_pos (show _ = _ from rfl)).trans ?_
  refine (if_pos (show _ = _ from rfl)).trans ?_
  refine (if_pos (show _ = _ from rfl)).trans ?_
  refine (if_pos (show _ = _ from rfl)).trans ?_
  refine (if_pos (show _ = _ from rfl)).trans ?_
  refine (if_pos (show _ = _ from rfl)).trans ?_
  refine (if_pos (show _ = _ from rfl)).trans ?_
  refine (if_pos (show _ = _ from rfl)).trans ?_
  refine (if_pos (show _ = _ from rfl)).trans ?_
  refine (if_pos (show _ = _ from rfl)).trans ?_
  refine (if_pos (show _ = _ from rfl)).trans ?_
  refine (if_pos (show _ = _ from rfl)).trans ?_
  rfl
theorem z_law : c_L_law d (some 16) (sk_h0 L xs r) = k_L_law_18 d (some 16) (some 20) (some 52) (0 : Int32) (zF L xs r) := by
  refine (e_L_law _ _ _).trans ?_
  refine (if_pos (show _ = _ from rfl)).trans ?_
  refine (bnd z_SR _).trans ?_
  refine (if_pos (show _ = _ from rfl)).trans ?_
  refine (bnd z_M _).trans ?_
  rfl
theorem z_K : ∀ q ∈ cK, hK (zF L xs r) q.1 = q.2.1 ∧ hN (zF L xs r) q.1 = q.2.2 := of_decide_eq_true (rfl : decide (∀ q ∈ cK, hK (zF L xs r) q.1 = q.2.1 ∧ hN (zF L xs r) q.1 = q.2.2) = true)
end SkInit
