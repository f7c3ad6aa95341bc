/-! ===== the law over the evaluator: what is still owed ===== -/
theorem sk_law_ok (L : Nat) (xs : Nat → Int32) (r : Option Nat) (hL : L ≤ 3072) : ∃ h', c_L_law 40 (some 16) (sk_h0 L xs r) = some (h', 1) ∧ hn h' ≤ 600020 ∧ hs h' ≤ 7302250 := sorry
