/-! ===== counts of bits and trailing zeros of 64 bits ===== -/
def cb (f : Nat → Bool) : Nat → Nat
  | 0 => 0
  | n + 1 => cb f n + (f n).toNat
theorem cb_cg {f g : Nat → Bool} : ∀ {n : Nat}, (∀ i, i < n → f i = g i) → cb f n = cb g n
  | 0, _ => rfl
  | n + 1, h => by
    show cb f n + (f n).toNat = cb g n + (g n).toNat
    rw [cb_cg (fun i hi => h i (by omega)), h n (by omega)]
theorem cb_add (f : Nat → Bool) (a : Nat) : ∀ m, cb f (a + m) = cb f a + cb (fun i => f (a + i)) m
  | 0 => rfl
  | m + 1 => by
    show cb f (a + m) + (f (a + m)).toNat = _
    rw [cb_add f a m]
    show _ = cb f a + (cb (fun i => f (a + i)) m + (f (a + m)).toNat)
    omega
theorem cb_le (f : Nat → Bool) : ∀ n, cb f n ≤ n
  | 0 => Nat.le_refl 0
  | n + 1 => by
    show cb f n + (f n).toNat ≤ n + 1
    have h1 := cb_le f n
    have h2 : (f n).toNat ≤ 1 := by cases f n <;> decide
    omega
theorem and_sp {a a' x y : Nat} (ha : a < 256) (ha' : a' < 256) : (a + 256 * x) &&& (a' + 256 * y) = (a &&& a') + 256 * (x &&& y) := by
  have h1 : ((a + 256 * x) &&& (a' + 256 * y)) % 2 ^ 8 = a &&& a' := by
    rw [Nat.and_mod_two_pow]
    congr 1 <;> omega
  have h2 : ((a + 256 * x) &&& (a' + 256 * y)) / 2 ^ 8 = x &&& y := by
    rw [Nat.and_div_two_pow]
    congr 1 <;> omega
  omega
def mk8 (u : Nat) : Nat → Nat
  | 0 => 0
  | k + 1 => u + 256 * mk8 u k
def g1 (k n : Nat) : Nat := n - (n / 2 &&& mk8 85 k)
def g2 (k n : Nat) : Nat := (n &&& mk8 51 k) + (n / 4 &&& mk8 51 k)
def g3 (k n : Nat) : Nat := (n + n / 16) &&& mk8 15 k
def o1 (a : Nat) : Nat := a - (a / 2 &&& 85)
def o2 (a : Nat) : Nat := (a &&& 51) + (a / 4 &&& 51)
def o3 (a : Nat) : Nat := (a + a / 16) &&& 15
theorem k_a1 : chk (fun a => decide ((a / 2 + 128 * 0) &&& 85 = a / 2 &&& 85 ∧ (a / 2 + 128 * 1) &&& 85 = a / 2 &&& 85 ∧ o1 a < 256)) 256 = true := by decide +kernel
theorem k_a2 : chk (fun a => decide ((a / 4 + 64 * 0) &&& 51 = a / 4 &&& 51 ∧ (a / 4 + 64 * 1) &&& 51 = a / 4 &&& 51 ∧ (a / 4 + 64 * 2) &&& 51 = a / 4 &&& 51 ∧ (a / 4 + 64 * 3) &&& 51 = a / 4 &&& 51)) 256 = true := by decide +kernel
theorem k_a3 : chk (fun a => decide (o2 (o1 a) % 16 ≤ 4 ∧ o2 (o1 a) / 16 ≤ 4 ∧ o2 (o1 a) < 256 ∧ o3 (o2 (o1 a)) = cb (a.testBit) 8 ∧ cb (a.testBit) 8 ≤ 8)) 256 = true := by decide +kernel
theorem k_a4 : chk (fun a => decide (a % 16 ≤ 4 ∧ a / 16 ≤ 4 → (a + a / 16 + 16 * 0) &&& 15 = (a + a / 16) &&& 15 ∧ (a + a / 16 + 16 * 1) &&& 15 = (a + a / 16) &&& 15 ∧ (a + a / 16 + 16 * 2) &&& 15 = (a + a / 16) &&& 15 ∧ (a + a / 16 + 16 * 3) &&& 15 = (a + a / 16) &&& 15 ∧ (a + a / 16 + 16 * 4) &&& 15 = (a + a / 16) &&& 15)) 256 = true := by decide +kernel
theorem g1_s {a : Nat} (k b : Nat) (ha : a < 256) : g1 (k + 1) (a + 256 * b) = o1 a + 256 * g1 k b := by
  have h0 := of_decide_eq_true (chk_ok k_a1 a ha)
  have e : (a + 256 * b) / 2 = (a / 2 + 128 * (b % 2)) + 256 * (b / 2) := by omega
  unfold g1 o1
  show (a + 256 * b) - ((a + 256 * b) / 2 &&& (85 + 256 * mk8 85 k)) = _
  rw [e, and_sp (by omega) (by omega)]
  have e2 : (a / 2 + 128 * (b % 2)) &&& 85 = a / 2 &&& 85 := by
    rcases (show b % 2 = 0 ∨ b % 2 = 1 by omega) with q | q <;> rw [q]
    · exact h0.1
    · exact h0.2.1
  rw [e2]
  have l1 : (a / 2 &&& 85) ≤ a / 2 := Nat.and_le_left
  have l2 : (b / 2 &&& mk8 85 k) ≤ b / 2 := Nat.and_le_left
  omega
theorem g2_s {a : Nat} (k b : Nat) (ha : a < 256) : g2 (k + 1) (a + 256 * b) = o2 a + 256 * g2 k b := by
  have h0 := of_decide_eq_true (chk_ok k_a2 a ha)
  have e : (a + 256 * b) / 4 = (a / 4 + 64 * (b % 4)) + 256 * (b / 4) := by omega
  unfold g2 o2
  show ((a + 256 * b) &&& (51 + 256 * mk8 51 k)) + ((a + 256 * b) / 4 &&& (51 + 256 * mk8 51 k)) = _
  rw [e, and_sp ha (by omega), and_sp (by omega) (by omega)]
  have e2 : (a / 4 + 64 * (b % 4)) &&& 51 = a / 4 &&& 51 := by
    rcases (show b % 4 = 0 ∨ b % 4 = 1 ∨ b % 4 = 2 ∨ b % 4 = 3 by omega) with q | q | q | q <;> rw [q]
    · exact h0.1
    · exact h0.2.1
    · exact h0.2.2.1
    · exact h0.2.2.2
  rw [e2]
  omega
theorem g3_s {a : Nat} (k b : Nat) (ha : a < 256) (h1 : a % 16 ≤ 4) (h2 : a / 16 ≤ 4) (hb : b % 16 ≤ 4) : g3 (k + 1) (a + 256 * b) = o3 a + 256 * g3 k b := by
  have h0 := of_decide_eq_true (chk_ok k_a4 a ha) ⟨h1, h2⟩
  have e : (a + 256 * b) + (a + 256 * b) / 16 = (a + a / 16 + 16 * (b % 16)) + 256 * (b + b / 16) := by omega
  unfold g3 o3
  show ((a + 256 * b) + (a + 256 * b) / 16) &&& (15 + 256 * mk8 15 k) = _
  rw [e, and_sp (by omega) (by omega)]
  have e2 : (a + a / 16 + 16 * (b % 16)) &&& 15 = (a + a / 16) &&& 15 := by
    rcases (show b % 16 = 0 ∨ b % 16 = 1 ∨ b % 16 = 2 ∨ b % 16 = 3 ∨ b % 16 = 4 by omega) with q | q | q | q | q <;> rw [q]
    · exact h0.1
    · exact h0.2.1
    · exact h0.2.2.1
    · exact h0.2.2.2.1
    · exact h0.2.2.2.2
  rw [e2]
def bsum : Nat → Nat → Nat
  | 0, _ => 0
  | k + 1, t => t % 256 + bsum k (t / 256)
def byt : Nat → Nat → Prop
  | 0, t => t = 0
  | k + 1, t => t % 256 ≤ 8 ∧ byt k (t / 256)
theorem g_all : ∀ (k n : Nat), n < 256 ^ k → g2 k (g1 k n) % 16 ≤ 4 ∧ byt k (g3 k (g2 k (g1 k n))) ∧ bsum k (g3 k (g2 k (g1 k n))) = cb n.testBit (8 * k)
  | 0, n, hn => by
    have : n = 0 := by omega
    subst this
    refine ⟨by decide, ?_, ?_⟩
    · show g3 0 (g2 0 (g1 0 0)) = 0
      decide
    · rfl
  | k + 1, n, hn => by
    obtain ⟨a, b, ha, hn2⟩ : ∃ a b, a < 256 ∧ n = a + 256 * b := ⟨n % 256, n / 256, by omega, by omega⟩
    subst hn2
    have hb : b < 256 ^ k := by
      rw [Nat.pow_succ] at hn
      omega
    obtain ⟨i1, i2, i3⟩ := g_all k b hb
    obtain ⟨c1, c2, c3, c4, c5⟩ := of_decide_eq_true (chk_ok k_a3 a ha)
    have l1 := (of_decide_eq_true (chk_ok k_a1 a ha)).2.2
    rw [g1_s k b ha, g2_s k _ l1, g3_s k _ c3 c1 c2 i1, c4]
    have m1 : (cb a.testBit 8 + 256 * g3 k (g2 k (g1 k b))) % 256 = cb a.testBit 8 := by omega
    have m2 : (cb a.testBit 8 + 256 * g3 k (g2 k (g1 k b))) / 256 = g3 k (g2 k (g1 k b)) := by omega
    refine ⟨by omega, ?_, ?_⟩
    · show _ ≤ 8 ∧ byt k _
      rw [m1, m2]
      exact ⟨c5, i2⟩
    · show _ + bsum k _ = _
      rw [m1, m2, i3, show 8 * (k + 1) = 8 + 8 * k by omega, cb_add]
      have t1 : cb a.testBit 8 = cb (a + 256 * b).testBit 8 := cb_cg (fun i hi => by
        have := Nat.testBit_mod_two_pow (a + 256 * b) 8 i
        rw [decide_eq_true hi, Bool.true_and] at this
        rw [← this]
        congr 1
        omega)
      have t2 : cb b.testBit (8 * k) = cb (fun i => (a + 256 * b).testBit (8 + i)) (8 * k) := cb_cg (fun i hi => by
        have := Nat.testBit_div_two_pow (n := 8) (x := a + 256 * b) (i := i)
        rw [Nat.add_comm 8 i, ← this]
        congr 1
        omega)
      rw [t1, t2]
/-- the sums of the last three steps -/
theorem dv32 {r W : Nat} (hr : r < 4294967296) : (r + 4294967296 * W) / 4294967296 = W := by omega
theorem dv16 {r W : Nat} (hr : r < 65536) : (r + 65536 * W) / 65536 = W := by omega
theorem sum8' {t t1 t2 t3 t4 t5 t6 t7 p0 p1 p2 p3 p4 p5 p6 p7 : Nat} (b0 : p0 ≤ 8) (b1 : p1 ≤ 8) (b2 : p2 ≤ 8) (b3 : p3 ≤ 8) (b4 : p4 ≤ 8) (b5 : p5 ≤ 8) (b6 : p6 ≤ 8) (b7 : p7 ≤ 8) (e0 : p0 + 256 * t1 = t) (e1 : p1 + 256 * t2 = t1) (e2 : p2 + 256 * t3 = t2) (e3 : p3 + 256 * t4 = t3) (e4 : p4 + 256 * t5 = t4) (e5 : p5 + 256 * t6 = t5) (e6 : p6 + 256 * t7 = t6) (e7 : p7 = t7) : ((t + t1) + (t + t1) / 65536 + ((t + t1) + (t + t1) / 65536) / 4294967296) % 128 = p0 + (p1 + (p2 + (p3 + (p4 + (p5 + (p6 + (p7 + 0))))))) ∧ t < 2 ^ 60 := by
  have f6 : t6 ≤ 2056 := by clear e0 e1 e2 e3 e4 e5; omega
  have f5 : t5 ≤ 526344 := by clear e0 e1 e2 e3 e4 e6 e7; omega
  have f4 : t4 ≤ 134744072 := by clear e0 e1 e2 e3 e5 e6 e7; omega
  have f3 : t3 ≤ 34494482440 := by clear e0 e1 e2 e4 e5 e6 e7; omega
  have f2 : t2 ≤ 8830587504648 := by clear e0 e1 e3 e4 e5 e6 e7; omega
  have f1 : t1 ≤ 2260630401189896 := by clear e0 e2 e3 e4 e5 e6 e7; omega
  have f0 : t ≤ 578721382704613384 := by clear e1 e2 e3 e4 e5 e6 e7; omega
  have a4 : t + t1 = ((p0 + p1) + 256 * (p1 + p2)) + 65536 * (t2 + t3) := by
    rw [← e0, ← e1, ← e2]
    clear e0 e1 e2 e3 e4 e5 e6 e7 f0 f1 f2 f3 f4 f5 f6 b0 b1 b2 b3 b4 b5 b6 b7
    omega
  have c4 : (t + t1) / 65536 = t2 + t3 := by
    rw [a4]
    exact dv16 (by clear a4 e0 e1 e2 e3 e4 e5 e6 e7 f0 f1 f2 f3 f4 f5 f6; omega)
  have a5 : t + t1 + (t2 + t3) = ((p0 + p1 + p2 + p3) + 256 * (p1 + p2 + p3 + p4) + 65536 * (p2 + p3 + p4 + p5) + 16777216 * (p3 + p4 + p5 + p6)) + 4294967296 * (t4 + t5 + t6 + t7) := by
    rw [a4, ← e2, ← e3, ← e4, ← e5, ← e6]
    clear a4 c4 e0 e1 e2 e3 e4 e5 e6 e7 f0 f1 f2 f3 f4 f5 f6 b0 b1 b2 b3 b4 b5 b6 b7
    omega
  have c5 : (t + t1 + (t2 + t3)) / 4294967296 = t4 + t5 + t6 + t7 := by
    rw [a5]
    refine dv32 ?_
    have s0 : p0 + p1 + p2 + p3 ≤ 32 := by clear a4 c4 a5 e0 e1 e2 e3 e4 e5 e6 e7 f0 f1 f2 f3 f4 f5 f6; omega
    have s1 : p1 + p2 + p3 + p4 ≤ 32 := by clear a4 c4 a5 e0 e1 e2 e3 e4 e5 e6 e7 f0 f1 f2 f3 f4 f5 f6 s0; omega
    have s2 : p2 + p3 + p4 + p5 ≤ 32 := by clear a4 c4 a5 e0 e1 e2 e3 e4 e5 e6 e7 f0 f1 f2 f3 f4 f5 f6 s0 s1; omega
    have s3 : p3 + p4 + p5 + p6 ≤ 32 := by clear a4 c4 a5 e0 e1 e2 e3 e4 e5 e6 e7 f0 f1 f2 f3 f4 f5 f6 s0 s1 s2; omega
    generalize p0 + p1 + p2 + p3 = S0 at *
    generalize p1 + p2 + p3 + p4 = S1 at *
    generalize p2 + p3 + p4 + p5 = S2 at *
    generalize p3 + p4 + p5 + p6 = S3 at *
    clear a4 c4 a5 e0 e1 e2 e3 e4 e5 e6 e7 f0 f1 f2 f3 f4 f5 f6 b0 b1 b2 b3 b4 b5 b6 b7
    omega
  have a6 : t4 + t5 + t6 + t7 = (p4 + p5 + p6 + p7) + 256 * (t5 + t6 + t7) := by
    rw [← e4, ← e5, ← e6, ← e7]
    clear a4 c4 a5 c5 e0 e1 e2 e3 e4 e5 e6 e7 f0 f1 f2 f3 f4 f5 f6 b0 b1 b2 b3 b4 b5 b6 b7
    omega
  refine ⟨?_, by clear a4 c4 a5 c5 a6 e0 e1 e2 e3 e4 e5 e6 e7; omega⟩
  rw [c4, c5, a5, a6]
  have a7 : ((p0 + p1 + p2 + p3) + 256 * (p1 + p2 + p3 + p4) + 65536 * (p2 + p3 + p4 + p5) + 16777216 * (p3 + p4 + p5 + p6)) + 4294967296 * ((p4 + p5 + p6 + p7) + 256 * (t5 + t6 + t7)) + ((p4 + p5 + p6 + p7) + 256 * (t5 + t6 + t7)) = (p0 + (p1 + (p2 + (p3 + (p4 + (p5 + (p6 + (p7 + 0)))))))) + 128 * (2 * (p1 + p2 + p3 + p4) + 512 * (p2 + p3 + p4 + p5) + 131072 * (p3 + p4 + p5 + p6) + 33554432 * ((p4 + p5 + p6 + p7) + 256 * (t5 + t6 + t7)) + 2 * (t5 + t6 + t7)) := by
    clear a4 c4 a5 c5 a6 e0 e1 e2 e3 e4 e5 e6 e7 f0 f1 f2 f3 f4 f5 f6 b0 b1 b2 b3 b4 b5 b6 b7
    omega
  rw [a7, Nat.add_mul_mod_self_left]
  exact Nat.mod_eq_of_lt (by clear a7 a4 c4 a5 c5 a6 e0 e1 e2 e3 e4 e5 e6 e7 f0 f1 f2 f3 f4 f5 f6; omega)
theorem sum8 (t : Nat) (hb : byt 8 t) : ((t + t / 256) + (t + t / 256) / 65536 + ((t + t / 256) + (t + t / 256) / 65536) / 4294967296) % 128 = bsum 8 t ∧ t < 2 ^ 60 := by
  obtain ⟨b0, b1, b2, b3, b4, b5, b6, b7, b8⟩ := hb
  have b8 : t / 256 / 256 / 256 / 256 / 256 / 256 / 256 / 256 = 0 := b8
  show _ = t % 256 + (t / 256 % 256 + (t / 256 / 256 % 256 + (t / 256 / 256 / 256 % 256 + (t / 256 / 256 / 256 / 256 % 256 + (t / 256 / 256 / 256 / 256 / 256 % 256 + (t / 256 / 256 / 256 / 256 / 256 / 256 % 256 + (t / 256 / 256 / 256 / 256 / 256 / 256 / 256 % 256 + 0))))))) ∧ _
  have e0 := Nat.mod_add_div t 256
  generalize t / 256 = t1 at *
  generalize t % 256 = p0 at *
  have e1 := Nat.mod_add_div t1 256
  generalize t1 / 256 = t2 at *
  generalize t1 % 256 = p1 at *
  have e2 := Nat.mod_add_div t2 256
  generalize t2 / 256 = t3 at *
  generalize t2 % 256 = p2 at *
  have e3 := Nat.mod_add_div t3 256
  generalize t3 / 256 = t4 at *
  generalize t3 % 256 = p3 at *
  have e4 := Nat.mod_add_div t4 256
  generalize t4 / 256 = t5 at *
  generalize t4 % 256 = p4 at *
  have e5 := Nat.mod_add_div t5 256
  generalize t5 / 256 = t6 at *
  generalize t5 % 256 = p5 at *
  have e6 := Nat.mod_add_div t6 256
  generalize t6 / 256 = t7 at *
  generalize t6 % 256 = p6 at *
  have e7 := Nat.mod_add_div t7 256
  rw [b8] at e7
  generalize t7 % 256 = p7 at *
  have e7 : p7 = t7 := e7
  exact sum8' b0 b1 b2 b3 b4 b5 b6 b7 e0 e1 e2 e3 e4 e5 e6 e7
def bj1 (x : Int64) : Int64 := x - (((x.toUInt64 >>> ((1 : Int32).toInt64.toUInt64 &&& Int64.toUInt64 63)).toInt64) &&& (6148914691236517205 : Int64))
def bj2 (x : Int64) : Int64 := (x &&& (3689348814741910323 : Int64)) + (((x.toUInt64 >>> ((2 : Int32).toInt64.toUInt64 &&& Int64.toUInt64 63)).toInt64) &&& (3689348814741910323 : Int64))
def bj3 (x : Int64) : Int64 := (x + ((x.toUInt64 >>> ((4 : Int32).toInt64.toUInt64 &&& Int64.toUInt64 63)).toInt64)) &&& (1085102592571150095 : Int64)
def bj4 (x : Int64) : Int64 := x + ((x.toUInt64 >>> ((8 : Int32).toInt64.toUInt64 &&& Int64.toUInt64 63)).toInt64)
def bj5 (x : Int64) : Int64 := x + ((x.toUInt64 >>> ((16 : Int32).toInt64.toUInt64 &&& Int64.toUInt64 63)).toInt64)
def bj6 (x : Int64) : Int64 := x + ((x.toUInt64 >>> ((32 : Int32).toInt64.toUInt64 &&& Int64.toUInt64 63)).toInt64)
def bcJ (x : Int64) : Int32 := (bj6 (bj5 (bj4 (bj3 (bj2 (bj1 x)))))).toInt32 &&& (127 : Int32)
theorem JL_bc_e (d : Nat) (x : Int64) (h : sk_H) : c_JL_bitCount d x h = some (h, bcJ x) := by
  rw [e_JL_bitCount]
  rfl
def tN (x : Int64) : Nat := x.toBitVec.toNat
theorem tN_lt (x : Int64) : tN x < 2 ^ 64 := x.toBitVec.isLt
theorem tN_shr (x : Int64) (s : UInt64) (n : Nat) (hs : s.toNat = n) (hn : n < 64) : tN ((x.toUInt64 >>> s).toInt64) = tN x / 2 ^ n := by
  have h1 : (x.toUInt64 >>> s).toNat = x.toUInt64.toNat >>> (s.toNat % 64) := UInt64.toNat_shiftRight ..
  rw [hs, Nat.mod_eq_of_lt hn, Nat.shiftRight_eq_div_pow] at h1
  exact h1
theorem tN_and (x y : Int64) : tN (x &&& y) = tN x &&& tN y := by
  unfold tN
  rw [Int64.toBitVec_and, BitVec.toNat_and]
theorem tN_add {x y : Int64} (h : tN x + tN y < 2 ^ 64) : tN (x + y) = tN x + tN y := by
  unfold tN at *
  rw [Int64.toBitVec_add, BitVec.toNat_add, Nat.mod_eq_of_lt h]
theorem tN_sub {x y : Int64} (h : tN y ≤ tN x) : tN (x - y) = tN x - tN y := by
  unfold tN at *
  rw [Int64.toBitVec_sub, BitVec.toNat_sub_of_le (BitVec.le_def.mpr h)]
theorem bj1_ok (x : Int64) : tN (bj1 x) = g1 8 (tN x) := by
  have m85 : tN (6148914691236517205 : Int64) = mk8 85 8 := by decide
  have a1 : tN (((x.toUInt64 >>> ((1 : Int32).toInt64.toUInt64 &&& Int64.toUInt64 63)).toInt64) &&& (6148914691236517205 : Int64)) = tN x / 2 &&& mk8 85 8 := by
    rw [tN_and, tN_shr x _ 1 (by decide) (by decide), m85]
  have a1l : (tN x / 2 &&& mk8 85 8) ≤ tN x / 2 := Nat.and_le_left
  unfold bj1
  rw [tN_sub (by rw [a1]; omega), a1]
  rfl
theorem bj2_ok (x : Int64) : tN (bj2 x) = g2 8 (tN x) ∧ g2 8 (tN x) ≤ 7378697629483820646 := by
  have m51 : tN (3689348814741910323 : Int64) = mk8 51 8 := by decide
  have v51 : mk8 51 8 = 3689348814741910323 := by decide
  have b1 : tN (x &&& (3689348814741910323 : Int64)) = tN x &&& mk8 51 8 := by rw [tN_and, m51]
  have b2 : tN (((x.toUInt64 >>> ((2 : Int32).toInt64.toUInt64 &&& Int64.toUInt64 63)).toInt64) &&& (3689348814741910323 : Int64)) = tN x / 4 &&& mk8 51 8 := by
    rw [tN_and, tN_shr x _ 2 (by decide) (by decide), m51]
  have b1l : (tN x &&& mk8 51 8) ≤ mk8 51 8 := Nat.and_le_right
  have b2l : (tN x / 4 &&& mk8 51 8) ≤ mk8 51 8 := Nat.and_le_right
  unfold bj2
  rw [tN_add (by rw [b1, b2]; omega), b1, b2]
  refine ⟨rfl, ?_⟩
  show (tN x &&& mk8 51 8) + (tN x / 4 &&& mk8 51 8) ≤ _
  omega
theorem bj3_ok (x : Int64) (hx : tN x ≤ 7378697629483820646) : tN (bj3 x) = g3 8 (tN x) := by
  have m15 : tN (1085102592571150095 : Int64) = mk8 15 8 := by decide
  have c1 := tN_shr x ((4 : Int32).toInt64.toUInt64 &&& Int64.toUInt64 63) 4 (by decide) (by decide)
  unfold bj3
  rw [tN_and, tN_add (by rw [c1]; omega), c1, m15]
  rfl
theorem bj4_ok (x : Int64) (hx : tN x < 2 ^ 60) : tN (bj4 x) = tN x + tN x / 256 := by
  have c1 := tN_shr x ((8 : Int32).toInt64.toUInt64 &&& Int64.toUInt64 63) 8 (by decide) (by decide)
  unfold bj4
  rw [tN_add (by rw [c1]; omega), c1]
theorem bj5_ok (x : Int64) (hx : tN x < 2 ^ 61) : tN (bj5 x) = tN x + tN x / 65536 := by
  have c1 := tN_shr x ((16 : Int32).toInt64.toUInt64 &&& Int64.toUInt64 63) 16 (by decide) (by decide)
  unfold bj5
  rw [tN_add (by rw [c1]; omega), c1]
theorem bj6_ok (x : Int64) (hx : tN x < 2 ^ 62) : tN (bj6 x) = tN x + tN x / 4294967296 := by
  have c1 := tN_shr x ((32 : Int32).toInt64.toUInt64 &&& Int64.toUInt64 63) 32 (by decide) (by decide)
  unfold bj6
  rw [tN_add (by rw [c1]; omega), c1]
theorem bcJ_ok (x : Int64) : bcJ x = nI (cb (tN x).testBit 64) := by
  have hlt := tN_lt x
  obtain ⟨ga, gb, gc⟩ := g_all 8 (tN x) (by omega)
  obtain ⟨s1, s2⟩ := sum8 _ gb
  have e2 := bj2_ok (bj1 x)
  rw [bj1_ok] at e2
  have e3 := bj3_ok (bj2 (bj1 x)) (by rw [e2.1]; exact e2.2)
  rw [e2.1] at e3
  have e4 := bj4_ok (bj3 (bj2 (bj1 x))) (by rw [e3]; exact s2)
  rw [e3] at e4
  have e5 := bj5_ok (bj4 (bj3 (bj2 (bj1 x)))) (by rw [e4]; omega)
  rw [e4] at e5
  have e6 := bj6_ok (bj5 (bj4 (bj3 (bj2 (bj1 x))))) (by rw [e5]; omega)
  rw [e5] at e6
  unfold bcJ
  generalize bj6 (bj5 (bj4 (bj3 (bj2 (bj1 x))))) = i6 at *
  rw [pk_and _ 7 (by decide), ← gc, ← s1, ← e6]
  congr 1
  show (i6.toInt32).toBitVec.toNat % 2 ^ 7 = i6.toBitVec.toNat % 128
  have e7 : (i6.toInt32).toBitVec.toNat = i6.toBitVec.toNat % 2 ^ 32 := by
    show (i6.toBitVec.signExtend 32).toNat = _
    rw [BitVec.signExtend_eq_setWidth_of_le _ (by decide), BitVec.toNat_setWidth]
  rw [e7]
  omega
theorem JL_bc_ok (d : Nat) (x : Int64) (h : sk_H) : c_JL_bitCount d x h = some (h, nI (cb (b64 x) 64)) := by
  rw [JL_bc_e, bcJ_ok]
  rfl
/-! trailing zeros -/
def nz2 (x0 x1 : Int32) : Int32 := if x0 ≤ (4 : Int32) then x1 + ((x0.toUInt32 >>> ((1 : Int32).toUInt32 &&& Int32.toUInt32 31)).toInt32) else (x1 + 2) + ((((x0.toUInt32 >>> ((2 : Int32).toUInt32 &&& Int32.toUInt32 31)).toInt32).toUInt32 >>> ((1 : Int32).toUInt32 &&& Int32.toUInt32 31)).toInt32)
def nz1 (x0 x1 : Int32) : Int32 := if x0 ≤ (256 : Int32) then (if x0 ≤ (16 : Int32) then nz2 x0 x1 else nz2 ((x0.toUInt32 >>> ((4 : Int32).toUInt32 &&& Int32.toUInt32 31)).toInt32) (x1 + 4)) else (if ((x0.toUInt32 >>> ((8 : Int32).toUInt32 &&& Int32.toUInt32 31)).toInt32) ≤ (16 : Int32) then nz2 ((x0.toUInt32 >>> ((8 : Int32).toUInt32 &&& Int32.toUInt32 31)).toInt32) (x1 + 8) else nz2 ((((x0.toUInt32 >>> ((8 : Int32).toUInt32 &&& Int32.toUInt32 31)).toInt32).toUInt32 >>> ((4 : Int32).toUInt32 &&& Int32.toUInt32 31)).toInt32) ((x1 + 8) + 4))
def nz0 (y : Int32) : Int32 := if 0 < y then (if y ≤ (65536 : Int32) then nz1 y (1 : Int32) else nz1 ((y.toUInt32 >>> ((16 : Int32).toUInt32 &&& Int32.toUInt32 31)).toInt32) ((1 : Int32) + 16)) else y &&& (32 : Int32)
theorem nz2_e (d : Nat) (x0 x1 : Int32) (h : sk_H) : k_JI_numberOfTrailingZeros_62 d x0 x1 h = some (h, nz2 x0 x1) := by
  rw [e_JI_numberOfTrailingZeros_62]
  unfold nz2
  split <;> rfl
theorem nz1_e (d : Nat) (x0 x1 : Int32) (h : sk_H) : k_JI_numberOfTrailingZeros_34 d x0 x1 h = some (h, nz1 x0 x1) := by
  rw [e_JI_numberOfTrailingZeros_34]
  unfold nz1
  split <;> split <;> rw [nz2_e]
theorem nz0_e (d : Nat) (x : Int32) (h : sk_H) : c_JI_numberOfTrailingZeros d x h = some (h, nz0 ((x ^^^ (-1)) &&& (x - 1))) := by
  rw [e_JI_numberOfTrailingZeros]
  generalize (x ^^^ (-1)) &&& (x - 1) = y
  unfold nz0
  by_cases q1 : 0 < y
  · rw [if_pos q1, if_pos q1]
    by_cases q2 : y ≤ 65536
    · rw [if_pos q2, if_pos q2, nz1_e]
    · rw [if_neg q2, if_neg q2, nz1_e]
  · rw [if_neg q1, if_neg q1]
theorem nz_tab : ∀ k, k < 32 → nz0 (nI (2 ^ k - 1)) = nI k := by decide +kernel
/-- the lowest bit that is set -/
theorem low_bits (x : Int32) (k : Nat) (hk : k < 32) (h1 : bt x k = true) (h0 : ∀ i, i < k → bt x i = false) : (x ^^^ (-1)) &&& (x - 1) = nI (2 ^ k - 1) := by
  obtain ⟨n, hn⟩ : ∃ n, n = x.toBitVec.toNat := ⟨_, rfl⟩
  have hlt : n < 2 ^ 32 := by rw [hn]; exact x.toBitVec.isLt
  have t1 : n.testBit k = true := by rw [hn]; exact h1
  have t0 : ∀ i, i < k → n.testBit i = false := fun i hi => by rw [hn]; exact h0 i hi
  have m0 : n % 2 ^ k = 0 := Nat.eq_of_testBit_eq fun i => by
    rw [Nat.testBit_mod_two_pow, Nat.zero_testBit]
    by_cases q : i < k
    · rw [t0 i q, Bool.and_false]
    · rw [decide_eq_false q, Bool.false_and]
  have m1 : n / 2 ^ k % 2 = 1 := by
    have := Nat.testBit_eq_decide_div_mod_eq (x := n) (i := k)
    rw [t1] at this
    exact of_decide_eq_true this.symm
  obtain ⟨m, hm⟩ : ∃ m, n = 2 ^ (k + 1) * m + 2 ^ k := by
    refine ⟨n / 2 ^ k / 2, ?_⟩
    have a1 := Nat.div_add_mod n (2 ^ k)
    have a2 := Nat.div_add_mod (n / 2 ^ k) 2
    rw [m0] at a1
    rw [m1] at a2
    rw [Nat.pow_succ]
    calc n = 2 ^ k * (n / 2 ^ k) := by omega
      _ = 2 ^ k * (2 * (n / 2 ^ k / 2) + 1) := by rw [a2]
      _ = 2 ^ k * 2 * (n / 2 ^ k / 2) + 2 ^ k := by rw [Nat.mul_add, Nat.mul_one, Nat.mul_assoc]
  have hp : 0 < 2 ^ k := Nat.pow_pos (by decide)
  have e1 : n - 1 = 2 ^ (k + 1) * m + (2 ^ k - 1) := by omega
  have hx1 : (x - 1).toBitVec.toNat = n - 1 := by
    rw [Int32.toBitVec_sub, BitVec.toNat_sub_of_le (BitVec.le_def.mpr (by
      show 1 ≤ x.toBitVec.toNat
      rw [← hn]; omega)), hn]
    rfl
  have hp2 : 2 ^ k < 2 ^ (k + 1) := Nat.pow_lt_pow_right (by decide) (by omega)
  refine b_ext fun i hi => ?_
  have hb : bt (x - 1) i = (n - 1).testBit i := by
    show (x - 1).toBitVec.toNat.testBit i = _
    rw [hx1]
  have hbx : bt x i = n.testBit i := by rw [hn]; rfl
  rw [b_and, b_xor, b_m1 i hi, Bool.xor_true, hb, hbx, bt_nI _ hi, e1, hm, Nat.testBit_two_pow_mul_add _ hp2, Nat.testBit_two_pow_mul_add _ (by omega), Nat.testBit_two_pow_sub_one]
  by_cases q : i < k + 1
  · rw [if_pos q, if_pos q, Nat.testBit_two_pow]
    by_cases q2 : i < k
    · simp [q2, Nat.ne_of_gt q2]
    · have : i = k := by omega
      subst this
      simp
  · rw [if_neg q, if_neg q]
    have q2 : ¬ i < k := by omega
    simp [q2]
theorem JI_ntz_ok (d : Nat) (x : Int32) (k : Nat) (hk : k < 32) (h1 : bt x k = true) (h0 : ∀ i, i < k → bt x i = false) (h : sk_H) : c_JI_numberOfTrailingZeros d x h = some (h, nI k) := by
  rw [nz0_e, low_bits x k hk h1 h0, nz_tab k hk]
theorem bt_lo (v : Int64) {i : Nat} (hi : i < 32) : bt v.toInt32 i = b64 v i := by
  show (v.toBitVec.signExtend 32).getLsbD i = _
  rw [BitVec.getLsbD_signExtend, decide_eq_true hi, Bool.true_and, if_pos (by omega)]
  rfl
theorem bt_hi (v : Int64) {i : Nat} (hi : i < 32) : bt ((v.toUInt64 >>> ((32 : Int32).toInt64.toUInt64 &&& Int64.toUInt64 63)).toInt64).toInt32 i = b64 v (32 + i) := by
  rw [bt_lo _ hi]
  have e := tN_shr v ((32 : Int32).toInt64.toUInt64 &&& Int64.toUInt64 63) 32 (by decide) (by decide)
  show (tN ((v.toUInt64 >>> ((32 : Int32).toInt64.toUInt64 &&& Int64.toUInt64 63)).toInt64)).testBit i = (tN v).testBit (32 + i)
  rw [e, Nat.testBit_div_two_pow, Nat.add_comm]
theorem JL_ntz_ok (d : Nat) (v : Int64) (k : Nat) (hk : k < 64) (h1 : b64 v k = true) (h0 : ∀ i, i < k → b64 v i = false) (h : sk_H) : c_JL_numberOfTrailingZeros d v h = some (h, nI k) := by
  rw [e_JL_numberOfTrailingZeros]
  have z32 : ∀ i, bt (0 : Int32) i = false := fun i => by
    show (BitVec.ofNat 32 0).getLsbD i = false
    simp
  rcases Nat.lt_or_ge k 32 with q | q
  · have ne : ¬ v.toInt32 = 0 := fun e => by
      have := bt_lo v q
      rw [e, z32, h1] at this
      cases this
    rw [if_pos ne, JI_ntz_ok d _ k q (by rw [bt_lo v q]; exact h1) (fun i hi => by rw [bt_lo v (by omega)]; exact h0 i hi)]
    rfl
  · have eq : v.toInt32 = 0 := b_ext fun i hi => by rw [bt_lo v hi, z32, h0 i (by omega)]
    rw [if_neg (fun n => n eq), JI_ntz_ok d _ (k - 32) (by omega) (by rw [bt_hi v (by omega), show 32 + (k - 32) = k by omega]; exact h1) (fun i hi => by rw [bt_hi v (by omega)]; exact h0 _ (by omega))]
    show some (h, nI 32 + nI (k - 32)) = _
    rw [nI_add, show 32 + (k - 32) = k by omega]
