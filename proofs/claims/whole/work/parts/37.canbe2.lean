/-! ===== which strokes can be ===== -/
/-- an end: no place there, or none that stands -/
def eO (left : Nat) (o : Option Nat) : Bool := match o with
  | none => true
  | some q => !left.testBit q
def cB (A : AD) (mask p many hits : Nat) (ends : Bool) : Bool :=
  hits.testBit (many - 1) && (decide (sB A p many ≠ 0) && (decide (mask &&& sB A p many = sB A p many) && (!ends || (eO (an mask (sB A p many)) (aPv A p) || eO (an mask (sB A p many)) ((lO A (many - 1) (some p)).bind (aNx A))))))
theorem oI_neg (o : Option Nat) (ho : ∀ x, o = some x → x < 12) : (oI o < 0) = (o = none) := by
  cases o with
  | none => exact (eq_true (by decide)).trans (eq_true rfl).symm
  | some q => exact (eq_false (nI_pos (by have := ho q rfl; omega))).trans (eq_false (by intro q; cases q)).symm
section SkCan2
variable {b : Nat} {h : sk_H} {A : AD}
theorem M_canBe_ok (d : Nat) (M : MS b h) (W : aW A) (S : aSaid A (hI h (b + 10))) {mask p many hits : Nat} {ends : Bool} (hmask : mask < 4096) (hp : p < aN A) (h1 : 1 ≤ many) (h4 : many ≤ 4) (hh : hits < 16) : c_M_canBe d (some b) (nI mask) (nI p) (nI many) (nI hits) (bi ends) h = some (h, bi (cB A mask p many hits ends)) := by
  have w1 := W.1
  have hs := sB_lt W hp many
  have a1 : nI many - 1 = nI (many - 1) := pk_sub (a := many) (b := 1) h1
  rw [e_M_canBe, a1, M_isOf_ok d (by omega) (by omega)]
  simp only [Option.bind_some, bi_0]
  unfold cB
  cases t1 : hits.testBit (many - 1)
  · simp [bi]
  · simp only [Bool.true_eq_false, not_false_eq_true, if_true, M.k, M_strokeBits_ok d M W S hp h4, Option.bind_some, Bool.true_and]
    by_cases hz : sB A p many = 0
    · rw [if_pos (by rw [hz]; rfl), decide_eq_false (by simp [hz])]
      rfl
    · rw [if_neg (nI_ne0 (by omega) (by omega)), decide_eq_true hz, Bool.true_and, nI_and]
      by_cases hc : mask &&& sB A p many = sB A p many
      · rw [if_pos (by rw [hc]), decide_eq_true hc, Bool.true_and]
        cases ends
        · simp [bi]
        · have e1 : ¬ (true = false) := by simp
          simp only [e1, not_false_eq_true, if_true, M_besideP_ok d M W S hp, Option.bind_some, M.k, M_lastOf_ok d M W S hp h4 h1 hz, Bool.not_true, Bool.false_or]
          obtain ⟨q, hq⟩ := sbA_lO A many (some p) 0 hz (many - 1) (by omega)
          have hq2 := lO_lt W (many - 1) (some p) q (fun x hx => by cases hx; exact hp) hq
          rw [hq]
          have hb := M_besideN_ok d M W S hq2
          show (Option.bind (c_M_beside d (some b) (nI q) 1 h) _) = _
          rw [hb]
          simp only [Option.bind_some]
          have pv := fun x hx => Nat.lt_of_lt_of_le (aPv_lt W hp (q := x) hx) w1
          have nx := fun x hx => Nat.lt_of_lt_of_le (aNx_lt W hq2 (q := x) hx) w1
          have hl := an_lt (sB A p many) hmask
          simp only [oI_neg _ pv, oI_neg _ nx, nI_an _ hmask]
          cases hv : aPv A p with
          | none => simp [eO, bi]
          | some y =>
            have hy := pv y hv
            rw [if_neg (by simp)]
            show (Option.bind (c_M_isOf d (nI (an mask (sB A p many))) (nI y) h) _) = _
            rw [M_isOf_ok d (by omega) (by omega)]
            simp only [Option.bind_some, bi_0]
            cases ty : (an mask (sB A p many)).testBit y
            · simp [eO, ty, bi]
            · rw [if_neg (by simp)]
              cases hw : aNx A q with
              | none => simp [eO, bi]
              | some z =>
                have hz2 := nx z hw
                rw [if_neg (by simp)]
                show (Option.bind (c_M_isOf d (nI (an mask (sB A p many))) (nI z) h) _) = _
                rw [M_isOf_ok d (by omega) (by omega)]
                simp only [Option.bind_some, bi_0]
                cases tz : (an mask (sB A p many)).testBit z <;> simp [eO, ty, tz, bi]
      · rw [if_neg (fun q => hc ((nI_eq (by have := Nat.and_le_left (n := mask) (m := sB A p many); omega) (by omega)).mp q)), decide_eq_false hc]
        rfl
end SkCan2
