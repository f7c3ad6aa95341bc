/-! ===== bits: Int32 beside Nat (the first rows out of kit/laws/BITS.to-paste) ===== -/
def bt (x : Int32) (i : Nat) : Bool := x.toBitVec.getLsbD i
theorem b_ext {x y : Int32} (h : ∀ i, i < 32 → bt x i = bt y i) : x = y := Int32.toBitVec_inj.mp (BitVec.eq_of_getLsbD_eq (fun i hi => h i hi))
theorem b_or (x y : Int32) (i : Nat) : bt (x ||| y) i = (bt x i || bt y i) := by unfold bt; rw [Int32.toBitVec_or, BitVec.getLsbD_or]
theorem b_and (x y : Int32) (i : Nat) : bt (x &&& y) i = (bt x i && bt y i) := by unfold bt; rw [Int32.toBitVec_and, BitVec.getLsbD_and]
theorem b_xor (x y : Int32) (i : Nat) : bt (x ^^^ y) i = (bt x i ^^ bt y i) := by unfold bt; rw [Int32.toBitVec_xor, BitVec.getLsbD_xor]
theorem b_m1 : ∀ i, i < 32 → bt (-1) i = true := by decide +kernel
theorem bs_l : ∀ n, n < 32 → ((nI n &&& 31).toBitVec.smod 32).toNat = n := by decide +kernel
theorem b_shl (n : Nat) (hn : n < 32) (x : Int32) {i : Nat} (hi : i < 32) : bt (x <<< (nI n &&& 31)) i = (decide (n ≤ i) && bt x (i - n)) := by
  unfold bt
  rw [Int32.toBitVec_shiftLeft]
  show (x.toBitVec <<< ((nI n &&& 31).toBitVec.smod 32).toNat).getLsbD i = _
  rw [bs_l n hn, BitVec.getLsbD_shiftLeft]
  rcases Nat.lt_or_ge i n with h | h
  · simp [h, Nat.not_le.mpr h]
  · simp [hi, h, Nat.not_lt.mpr h]
theorem b_sshr (n : Nat) (hn : n < 32) (x : Int32) {i : Nat} (hi : i < 32) : bt (x >>> (nI n &&& 31)) i = if n + i < 32 then bt x (n + i) else bt x 31 := by
  unfold bt
  rw [Int32.toBitVec_shiftRight]
  show (x.toBitVec.sshiftRight ((nI n &&& 31).toBitVec.smod 32).toNat).getLsbD i = _
  rw [bs_l n hn, BitVec.getLsbD_sshiftRight, BitVec.msb_eq_getLsbD_last]
  simp [hi]
theorem bt_nI (a : Nat) {i : Nat} (hi : i < 32) : bt (nI a) i = a.testBit i := by
  unfold bt
  show (BitVec.ofNat 32 a).getLsbD i = _
  rw [BitVec.getLsbD_ofNat, decide_eq_true hi, Bool.true_and]
theorem nI_and (a b : Nat) : nI a &&& nI b = nI (a &&& b) := b_ext fun i hi => by rw [b_and, bt_nI _ hi, bt_nI _ hi, bt_nI _ hi, Nat.testBit_and]
theorem nI_or (a b : Nat) : nI a ||| nI b = nI (a ||| b) := b_ext fun i hi => by rw [b_or, bt_nI _ hi, bt_nI _ hi, bt_nI _ hi, Nat.testBit_or]
theorem nI_xor (a b : Nat) : nI a ^^^ nI b = nI (a ^^^ b) := b_ext fun i hi => by rw [b_xor, bt_nI _ hi, bt_nI _ hi, bt_nI _ hi, Nat.testBit_xor]
theorem tb_4095 (i : Nat) : Nat.testBit 4095 i = decide (i < 12) := by
  rw [show (4095 : Nat) = 2 ^ 12 - 1 from rfl, Nat.testBit_two_pow_sub_one]
theorem tb_hi {m n i : Nat} (hm : m < 2 ^ n) (hi : n ≤ i) : m.testBit i = false := Nat.testBit_lt_two_pow (Nat.lt_of_lt_of_le hm (Nat.pow_le_pow_right (by omega) hi))
/-- a set of places without those of another -/
def an (m s : Nat) : Nat := m &&& (4095 ^^^ s)
theorem nI_an {m : Nat} (s : Nat) (hm : m < 4096) : nI m &&& (nI s ^^^ (-1)) = nI (an m s) := b_ext fun i hi => by
  unfold an
  rw [b_and, b_xor, b_m1 i hi, bt_nI _ hi, bt_nI _ hi, bt_nI _ hi, Nat.testBit_and, Nat.testBit_xor, tb_4095]
  by_cases h : i < 12
  · simp [h]
  · rw [tb_hi (n := 12) hm (by omega)]
    simp
theorem nI_shl {k : Nat} (hk : k < 31) : (1 : Int32) <<< (nI k &&& 31) = nI (1 <<< k) := b_ext fun i hi => by
  rw [b_shl k (by omega) _ hi, bt_nI _ hi, show (1 : Int32) = nI 1 from rfl, bt_nI _ (by omega), Nat.testBit_shiftLeft]
theorem nI_bit {m k : Nat} (hm : m < 2 ^ 31) (hk : k < 31) : (nI m >>> (nI k &&& 31)) &&& 1 = nI (if m.testBit k then 1 else 0) := b_ext fun i hi => by
  rw [b_and, b_sshr k (by omega) _ hi, show (1 : Int32) = nI 1 from rfl, bt_nI 1 hi, bt_nI _ hi]
  by_cases h0 : i = 0
  · subst h0
    rw [if_pos (by omega), bt_nI _ (by omega), Nat.add_zero]
    cases m.testBit k <;> decide
  · have h1 : Nat.testBit 1 i = false := by
      rw [show (1 : Nat) = 2 ^ 1 - 1 from rfl, Nat.testBit_two_pow_sub_one]
      simp; omega
    rw [h1, Bool.and_false]
    cases m.testBit k
    · simp
    · simp [h1]
