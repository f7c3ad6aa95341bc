/-! ===== the shape of the reference's memory, at b (printed by ms.py) ===== -/
def mR (b : Nat) : Nat → Option Nat
  | 0 => some (b + 1)
  | 3 => some (b + 2)
  | 4 => some (b + 3)
  | 5 => some (b + 4)
  | 6 => some (b + 5)
  | 7 => some (b + 6)
  | 15 => some (b + 7)
  | 17 => some (b + 8)
  | 19 => some (b + 9)
  | 20 => some (b + 10)
  | 22 => some (b + 11)
  | 24 => some (b + 12)
  | 26 => some (b + 13)
  | 27 => some (b + 14)
  | 28 => some (b + 15)
  | 29 => some (b + 16)
  | 30 => some (b + 17)
  | 37 => some (b + 18)
  | 38 => some (b + 19)
  | 39 => some (b + 20)
  | _ => none
def mK : Nat → Nat
  | 1 => 104
  | 2 => 101
  | 3 => 101
  | 4 => 101
  | 5 => 101
  | 6 => 101
  | 7 => 101
  | 8 => 102
  | 9 => 102
  | 10 => 101
  | 11 => 103
  | 12 => 101
  | 13 => 101
  | 14 => 103
  | 15 => 101
  | 16 => 101
  | 17 => 101
  | 18 => 101
  | 19 => 101
  | 20 => 103
  | _ => 0
def mN : Nat → Nat
  | 1 => 400
  | 2 => 2400
  | 3 => 7
  | 4 => 288
  | 5 => 6
  | 6 => 24
  | 7 => 400
  | 8 => 64
  | 9 => 11
  | 10 => 184
  | 11 => 4096
  | 12 => 80
  | 13 => 4096
  | 14 => 256
  | 15 => 41
  | 16 => 4096
  | 17 => 4096
  | 18 => 736
  | 19 => 4
  | 20 => 4
  | _ => 0
def MS (b : Nat) (h : sk_H) : Prop := hK h b = 13 ∧ (∀ k, k < 40 → hR h b k = mR b k) ∧ ∀ j, 1 ≤ j → j ≤ 20 → hK h (b + j) = mK j ∧ hN h (b + j) = mN j
section SkMS
variable {b : Nat} {h : sk_H}
theorem MS.k (M : MS b h) : (hK h b = 13) = True := eq_true M.1
theorem MS.r0 (M : MS b h) : hR h b 0 = some (b + 1) := M.2.1 0 (by decide)
theorem MS.n1 (M : MS b h) : hN h (b + 1) = 400 := (M.2.2 1 (by decide) (by decide)).2
theorem MS.t1 (M : MS b h) : (hK h (b + 1) = 104) = True := eq_true (M.2.2 1 (by decide) (by decide)).1
theorem MS.f1 (M : MS b h) : (hK h (b + 1) = 103) = False := eq_false (by rw [(M.2.2 1 (by decide) (by decide)).1]; decide)
theorem MS.r3 (M : MS b h) : hR h b 3 = some (b + 2) := M.2.1 3 (by decide)
theorem MS.n2 (M : MS b h) : hN h (b + 2) = 2400 := (M.2.2 2 (by decide) (by decide)).2
theorem MS.t2 (M : MS b h) : (hK h (b + 2) = 101) = True := eq_true (M.2.2 2 (by decide) (by decide)).1
theorem MS.r4 (M : MS b h) : hR h b 4 = some (b + 3) := M.2.1 4 (by decide)
theorem MS.n3 (M : MS b h) : hN h (b + 3) = 7 := (M.2.2 3 (by decide) (by decide)).2
theorem MS.t3 (M : MS b h) : (hK h (b + 3) = 101) = True := eq_true (M.2.2 3 (by decide) (by decide)).1
theorem MS.r5 (M : MS b h) : hR h b 5 = some (b + 4) := M.2.1 5 (by decide)
theorem MS.n4 (M : MS b h) : hN h (b + 4) = 288 := (M.2.2 4 (by decide) (by decide)).2
theorem MS.t4 (M : MS b h) : (hK h (b + 4) = 101) = True := eq_true (M.2.2 4 (by decide) (by decide)).1
theorem MS.r6 (M : MS b h) : hR h b 6 = some (b + 5) := M.2.1 6 (by decide)
theorem MS.n5 (M : MS b h) : hN h (b + 5) = 6 := (M.2.2 5 (by decide) (by decide)).2
theorem MS.t5 (M : MS b h) : (hK h (b + 5) = 101) = True := eq_true (M.2.2 5 (by decide) (by decide)).1
theorem MS.r7 (M : MS b h) : hR h b 7 = some (b + 6) := M.2.1 7 (by decide)
theorem MS.n6 (M : MS b h) : hN h (b + 6) = 24 := (M.2.2 6 (by decide) (by decide)).2
theorem MS.t6 (M : MS b h) : (hK h (b + 6) = 101) = True := eq_true (M.2.2 6 (by decide) (by decide)).1
theorem MS.r15 (M : MS b h) : hR h b 15 = some (b + 7) := M.2.1 15 (by decide)
theorem MS.n7 (M : MS b h) : hN h (b + 7) = 400 := (M.2.2 7 (by decide) (by decide)).2
theorem MS.t7 (M : MS b h) : (hK h (b + 7) = 101) = True := eq_true (M.2.2 7 (by decide) (by decide)).1
theorem MS.r17 (M : MS b h) : hR h b 17 = some (b + 8) := M.2.1 17 (by decide)
theorem MS.n8 (M : MS b h) : hN h (b + 8) = 64 := (M.2.2 8 (by decide) (by decide)).2
theorem MS.t8 (M : MS b h) : (hK h (b + 8) = 102) = True := eq_true (M.2.2 8 (by decide) (by decide)).1
theorem MS.r19 (M : MS b h) : hR h b 19 = some (b + 9) := M.2.1 19 (by decide)
theorem MS.n9 (M : MS b h) : hN h (b + 9) = 11 := (M.2.2 9 (by decide) (by decide)).2
theorem MS.t9 (M : MS b h) : (hK h (b + 9) = 102) = True := eq_true (M.2.2 9 (by decide) (by decide)).1
theorem MS.r20 (M : MS b h) : hR h b 20 = some (b + 10) := M.2.1 20 (by decide)
theorem MS.n10 (M : MS b h) : hN h (b + 10) = 184 := (M.2.2 10 (by decide) (by decide)).2
theorem MS.t10 (M : MS b h) : (hK h (b + 10) = 101) = True := eq_true (M.2.2 10 (by decide) (by decide)).1
theorem MS.r22 (M : MS b h) : hR h b 22 = some (b + 11) := M.2.1 22 (by decide)
theorem MS.n11 (M : MS b h) : hN h (b + 11) = 4096 := (M.2.2 11 (by decide) (by decide)).2
theorem MS.t11 (M : MS b h) : (hK h (b + 11) = 103) = True := eq_true (M.2.2 11 (by decide) (by decide)).1
theorem MS.f11 (M : MS b h) : (hK h (b + 11) = 104) = False := eq_false (by rw [(M.2.2 11 (by decide) (by decide)).1]; decide)
theorem MS.r24 (M : MS b h) : hR h b 24 = some (b + 12) := M.2.1 24 (by decide)
theorem MS.n12 (M : MS b h) : hN h (b + 12) = 80 := (M.2.2 12 (by decide) (by decide)).2
theorem MS.t12 (M : MS b h) : (hK h (b + 12) = 101) = True := eq_true (M.2.2 12 (by decide) (by decide)).1
theorem MS.r26 (M : MS b h) : hR h b 26 = some (b + 13) := M.2.1 26 (by decide)
theorem MS.n13 (M : MS b h) : hN h (b + 13) = 4096 := (M.2.2 13 (by decide) (by decide)).2
theorem MS.t13 (M : MS b h) : (hK h (b + 13) = 101) = True := eq_true (M.2.2 13 (by decide) (by decide)).1
theorem MS.r27 (M : MS b h) : hR h b 27 = some (b + 14) := M.2.1 27 (by decide)
theorem MS.n14 (M : MS b h) : hN h (b + 14) = 256 := (M.2.2 14 (by decide) (by decide)).2
theorem MS.t14 (M : MS b h) : (hK h (b + 14) = 103) = True := eq_true (M.2.2 14 (by decide) (by decide)).1
theorem MS.f14 (M : MS b h) : (hK h (b + 14) = 104) = False := eq_false (by rw [(M.2.2 14 (by decide) (by decide)).1]; decide)
theorem MS.r28 (M : MS b h) : hR h b 28 = some (b + 15) := M.2.1 28 (by decide)
theorem MS.n15 (M : MS b h) : hN h (b + 15) = 41 := (M.2.2 15 (by decide) (by decide)).2
theorem MS.t15 (M : MS b h) : (hK h (b + 15) = 101) = True := eq_true (M.2.2 15 (by decide) (by decide)).1
theorem MS.r29 (M : MS b h) : hR h b 29 = some (b + 16) := M.2.1 29 (by decide)
theorem MS.n16 (M : MS b h) : hN h (b + 16) = 4096 := (M.2.2 16 (by decide) (by decide)).2
theorem MS.t16 (M : MS b h) : (hK h (b + 16) = 101) = True := eq_true (M.2.2 16 (by decide) (by decide)).1
theorem MS.r30 (M : MS b h) : hR h b 30 = some (b + 17) := M.2.1 30 (by decide)
theorem MS.n17 (M : MS b h) : hN h (b + 17) = 4096 := (M.2.2 17 (by decide) (by decide)).2
theorem MS.t17 (M : MS b h) : (hK h (b + 17) = 101) = True := eq_true (M.2.2 17 (by decide) (by decide)).1
theorem MS.r37 (M : MS b h) : hR h b 37 = some (b + 18) := M.2.1 37 (by decide)
theorem MS.n18 (M : MS b h) : hN h (b + 18) = 736 := (M.2.2 18 (by decide) (by decide)).2
theorem MS.t18 (M : MS b h) : (hK h (b + 18) = 101) = True := eq_true (M.2.2 18 (by decide) (by decide)).1
theorem MS.r38 (M : MS b h) : hR h b 38 = some (b + 19) := M.2.1 38 (by decide)
theorem MS.n19 (M : MS b h) : hN h (b + 19) = 4 := (M.2.2 19 (by decide) (by decide)).2
theorem MS.t19 (M : MS b h) : (hK h (b + 19) = 101) = True := eq_true (M.2.2 19 (by decide) (by decide)).1
theorem MS.r39 (M : MS b h) : hR h b 39 = some (b + 20) := M.2.1 39 (by decide)
theorem MS.n20 (M : MS b h) : hN h (b + 20) = 4 := (M.2.2 20 (by decide) (by decide)).2
theorem MS.t20 (M : MS b h) : (hK h (b + 20) = 103) = True := eq_true (M.2.2 20 (by decide) (by decide)).1
theorem MS.f20 (M : MS b h) : (hK h (b + 20) = 104) = False := eq_false (by rw [(M.2.2 20 (by decide) (by decide)).1]; decide)
theorem MS.wI (M : MS b h) (a i : Nat) (v : Int32) : MS b (wI h a i v) := M
theorem MS.wJ (M : MS b h) (a i : Nat) (v : Int64) : MS b (wJ h a i v) := M
end SkMS
def bi (c : Bool) : Int32 := if c then 1 else 0
theorem M_isOf_ok (d : Nat) {m k : Nat} (hm : m < 2 ^ 31) (hk : k < 31) (h : sk_H) : c_M_isOf d (nI m) (nI k) h = some (h, bi (m.testBit k)) := by
  rw [e_M_isOf, nI_bit hm hk]
  cases m.testBit k <;> rfl
theorem M_in_ok (d : Nat) (v lo hi : Int64) (h : sk_H) : c_M_in d v lo hi h = some (h, bi (decide (lo ≤ v ∧ v ≤ hi))) := by
  rw [e_M_in]
  have c1 : (lg_cmp v lo < 0) = (v < lo) := by
    rw [← Int32.not_le, lg_cmp_ge, Int64.not_le]
  have c2 : (0 < lg_cmp v hi) = (hi < v) := by
    unfold lg_cmp
    by_cases q : v > hi
    · simp [q]
    · by_cases q2 : v = hi
      · simp [q2]
      · have q3 : ¬ hi < v := q
        simp [q2, q3]
  simp only [c1, c2]
  by_cases h1 : v < lo
  · rw [if_pos h1, decide_eq_false (fun q => by have := q.1; exact absurd h1 (Int64.not_lt.mpr this))]
    rfl
  · rw [if_neg h1]
    by_cases h2 : hi < v
    · rw [if_pos h2, decide_eq_false (fun q => absurd h2 (Int64.not_lt.mpr q.2))]
      rfl
    · rw [if_neg h2, decide_eq_true ⟨Int64.not_lt.mp h1, Int64.not_lt.mp h2⟩]
      rfl
