/-! ===== a stroke that is drawn ===== -/
def nL (n : Nat) : Int64 := Int64.ofNat n
theorem nL_mul (a b : Nat) : nL a * nL b = nL (a * b) := (Int64.ofNat_mul a b).symm
theorem nL_add (a b : Nat) : nL a + nL b = nL (a + b) := (Int64.ofNat_add a b).symm
theorem nL_sub {a b : Nat} (h : b ≤ a) : nL a - nL b = nL (a - b) := by
  have e : nL (a - b) + nL b = nL a := by rw [nL_add, Nat.sub_add_cancel h]
  rw [← e, Int64.add_sub_cancel]
theorem nL_toInt {a : Nat} (h : a < 2 ^ 63) : (nL a).toInt = a := Int64.toInt_ofNat_of_lt h
theorem nL_div {a b : Nat} (ha : a < 2 ^ 63) (hb : b < 2 ^ 63) : nL a / nL b = nL (a / b) := by
  have hd := Nat.div_le_self a b
  apply Int64.toInt_inj.mp
  rw [Int64.toInt_div, nL_toInt ha, nL_toInt hb, nL_toInt (by omega), ← Int.ofNat_tdiv]
  generalize a / b = q at *
  exact Int.bmod_eq_of_le (by omega) (by omega)
theorem nL_mod {a b : Nat} (ha : a < 2 ^ 63) (hb : b < 2 ^ 63) : nL a - nL a / nL b * nL b = nL (a % b) := by
  rw [nL_div ha hb, nL_mul, nL_sub (Nat.div_mul_le_self a b)]
  have := Nat.div_add_mod a b
  rw [Nat.mul_comm] at this
  congr 1
  omega
theorem nL_and (a b : Nat) : nL a &&& nL b = nL (a &&& b) := by
  apply Int64.toBitVec_inj.mp
  rw [Int64.toBitVec_and]
  show BitVec.ofNat 64 a &&& BitVec.ofNat 64 b = BitVec.ofNat 64 (a &&& b)
  rw [BitVec.ofNat_and]
theorem nL_i {n : Nat} (h : n < 2 ^ 31) : (nI n).toInt64 = nL n := by
  apply Int64.toInt_inj.mp
  rw [Int32.toInt_toInt64, nL_toInt (by omega)]
  exact Int32.toInt_ofNat_of_lt h
theorem nL_t (n : Nat) : (nL n).toInt32 = nI n := Int64.toInt32_ofNat
theorem nL_0 {n : Nat} (h : n < 2 ^ 63) : (nL n = 0) = (n = 0) := by
  refine propext ⟨fun e => ?_, fun e => by rw [e]; rfl⟩
  have e2 := congrArg Int64.toInt e
  rw [nL_toInt h] at e2
  have e3 : (n : Int) = 0 := e2
  omega
def lcg (X : Nat) : Nat := (X * 1103515245 + 12345) % 2147483648
theorem lcg_lt (X : Nat) : lcg X < 2 ^ 31 := Nat.mod_lt _ (by decide)
theorem lcg_c (X : Nat) : (nL X * (1103515245 : Int64) + (12345 : Int64)) &&& (2147483647 : Int64) = nL (lcg X) := by
  have e := nL_and (X * 1103515245 + 12345) 2147483647
  rw [show (1103515245 : Int64) = nL 1103515245 from rfl, show (12345 : Int64) = nL 12345 from rfl, show (2147483647 : Int64) = nL 2147483647 from rfl, nL_mul, nL_add, e, Nat.and_two_pow_sub_one_eq_mod (n := 31)]
  rfl
theorem lcg_m {X : Nat} (h : X < 2 ^ 31) : (nL X * (1103515245 : Int64) + (12345 : Int64)) - (nL X * (1103515245 : Int64) + (12345 : Int64)) / (2147483648 : Int64) * (2147483648 : Int64) = nL (lcg X) := by
  rw [show (1103515245 : Int64) = nL 1103515245 from rfl, show (12345 : Int64) = nL 12345 from rfl, show (2147483648 : Int64) = nL 2147483648 from rfl, nL_mul, nL_add, nL_mod (by omega) (by omega)]
  rfl
theorem lcg_d {X n : Nat} (h : X < 2 ^ 31) (hn : n < 2 ^ 31) : (nL X / (65536 : Int64)) - (nL X / (65536 : Int64)) / (nI n).toInt64 * (nI n).toInt64 = nL (X / 65536 % n) := by
  rw [show (65536 : Int64) = nL 65536 from rfl, nL_i hn, nL_div (by omega) (by omega), nL_mod (by omega) (by omega)]
def drw (l : List (Nat × Nat)) (X : Nat) : Option (Nat × Nat) := l[lcg X / 65536 % l.length]?
section SkDraw
variable {F G : Nat → Prop} {h h' h1 h2 : sk_H} {a m n i s k x st tu pl ra : Nat} {d : Nat} {R : RT} {D : DD} {c : Nat → Nat}
/-! the class -/
theorem Bo_dr_in (w : dW D) (hst : st < 2 ^ aN (dA D)) (I : BI F h a D c st tu pl) {arr N : Nat} (hN2 : N < 2 ^ 31) (hk : hK h arr = 108) (hN : hN h arr = N) : ∀ (l : List (Nat × Nat)) (i n : Nat), AS F h (dA D) arr i l → (∀ y ∈ l, y ∈ sH (dA D) (dH D)) → k_Bo_drawn_16 d (some 49) (nI n) (some arr) (nI N) (nI i) h = k_Bo_drawn_16 d (some 49) (nI (n + (l.filter (cO (dA D) st (dE D))).length)) (some arr) (nI N) (nI N) h
  | [], i, n, S, hl => by
    have S : Jvm.Pilot.CSkittleRowLaw_law_r7134_573cdd.hN h arr = i := S
    have e : N = i := hN.symm.trans S
    subst e
    rfl
  | x :: l, i, n, ⟨⟨s, rs, fs, os⟩, S⟩, hl => by
    obtain ⟨C, O, T, b1, b2, i3, i4, i5⟩ := id I
    have hst4 := p12 w.1 hst
    have hlen := AS_len l (i + 1) S
    obtain ⟨y0, y1, y2, y3, y4⟩ := sH_mem (hl x (List.mem_cons_self ..))
    have hl' := fun y hy => hl y (List.mem_cons_of_mem _ hy)
    have al : c_Al_allows d (hR h 49 2) (hI h 49 3) (hR h arr (nI i).toNatClampNeg) h = some (h, bi (cO (dA D) st (dE D) x)) := by
      rw [b2, i3, q_cl (by omega), rs]; exact Al_allows_ok d O w os y4 hst4
    cases hc : cO (dA D) st (dE D) x
    · rw [hc] at al
      rw [List.filter_cons_of_neg (by simp [hc]), ← Bo_dr_in w hst I hN2 hk hN l (i + 1) n S hl']
      refine (e_Bo_drawn_16 _ _ _ _ _ _ _).trans ?_
      refine (if_neg (nI_ge (show i < N by omega) (by omega))).trans ?_
      refine (bnd (rfl : some arr = some arr) _).trans ?_
      refine (if_pos ⟨by rw [hk]; rfl, by rw [hN]; exact vp_in_nI (by omega) (by omega)⟩).trans ?_
      refine (if_pos C.k49).trans ?_
      refine (if_pos C.k49).trans ?_
      refine (bnd b2 _).trans ?_
      refine (if_pos O.k).trans ?_
      refine (bnd al _).trans ?_
      refine (if_pos (show bi false = 0 by decide)).trans ?_
      rw [nI_1, l0, nI_add, Nat.add_zero]
    · rw [hc] at al
      rw [List.filter_cons_of_pos (by simp [hc]), List.length_cons, show n + ((l.filter (cO (dA D) st (dE D))).length + 1) = n + 1 + (l.filter (cO (dA D) st (dE D))).length by omega, ← Bo_dr_in w hst I hN2 hk hN l (i + 1) (n + 1) S hl']
      refine (e_Bo_drawn_16 _ _ _ _ _ _ _).trans ?_
      refine (if_neg (nI_ge (show i < N by omega) (by omega))).trans ?_
      refine (bnd (rfl : some arr = some arr) _).trans ?_
      refine (if_pos ⟨by rw [hk]; rfl, by rw [hN]; exact vp_in_nI (by omega) (by omega)⟩).trans ?_
      refine (if_pos C.k49).trans ?_
      refine (if_pos C.k49).trans ?_
      refine (bnd b2 _).trans ?_
      refine (if_pos O.k).trans ?_
      refine (bnd al _).trans ?_
      refine (if_neg (show ¬ bi true = 0 by decide)).trans ?_
      rw [nI_1, nI_1]
theorem Bo_dr_at (w : dW D) (hst : st < 2 ^ aN (dA D)) (I : BI F h a D c st tu pl) {arr N : Nat} (hN2 : N < 2 ^ 31) (hk : hK h arr = 108) (hN : hN h arr = N) : ∀ (l : List (Nat × Nat)) (i n : Nat) (y : Nat × Nat), n < 2 ^ 31 → AS F h (dA D) arr i l → (∀ y ∈ l, y ∈ sH (dA D) (dH D)) → (l.filter (cO (dA D) st (dE D)))[n]? = some y → ∃ s, k_Bo_drawn_113 d (some 49) (nL n) (some arr) (nI N) (nI i) h = some (h, some s) ∧ F s ∧ SO h (dA D) s y
  | [], i, n, y, hn, S, hl, hy => by cases hy
  | x :: l, i, n, y, hn, ⟨⟨s, rs, fs, os⟩, S⟩, hl, hy => by
    obtain ⟨C, O, T, b1, b2, i3, i4, i5⟩ := id I
    have hst4 := p12 w.1 hst
    have hlen := AS_len l (i + 1) S
    obtain ⟨y0, y1, y2, y3, y4⟩ := sH_mem (hl x (List.mem_cons_self ..))
    have hl' := fun y hy => hl y (List.mem_cons_of_mem _ hy)
    have al : c_Al_allows d (hR h 49 2) (hI h 49 3) (hR h arr (nI i).toNatClampNeg) h = some (h, bi (cO (dA D) st (dE D) x)) := by
      rw [b2, i3, q_cl (by omega), rs]; exact Al_allows_ok d O w os y4 hst4
    cases hc : cO (dA D) st (dE D) x
    · rw [hc] at al
      rw [List.filter_cons_of_neg (by simp [hc])] at hy
      obtain ⟨s', e1, e2⟩ := Bo_dr_at w hst I hN2 hk hN l (i + 1) n y hn S hl' hy
      refine ⟨s', ?_, e2⟩
      rw [← e1]
      refine (e_Bo_drawn_113 _ _ _ _ _ _ _).trans ?_
      refine (if_neg (nI_ge (show i < N by omega) (by omega))).trans ?_
      refine (bnd (rfl : some arr = some arr) _).trans ?_
      refine (if_pos ⟨by rw [hk]; rfl, by rw [hN]; exact vp_in_nI (by omega) (by omega)⟩).trans ?_
      refine (if_pos C.k49).trans ?_
      refine (if_pos C.k49).trans ?_
      refine (bnd b2 _).trans ?_
      refine (if_pos O.k).trans ?_
      refine (bnd al _).trans ?_
      refine (if_pos (show bi false = 0 by decide)).trans ?_
      rw [nI_1]
    · rw [hc] at al
      rw [List.filter_cons_of_pos (by simp [hc])] at hy
      have head : ∀ (Gv : Option (sk_H × Option Nat)), ((if ¬ lg_cmp (nL n) (0 : Int64) = 0 then k_Bo_drawn_113 d (some 49) (nL n - (1 : Int64)) (some arr) (nI N) (nI (i + 1)) h else some (h, some s)) = Gv) → k_Bo_drawn_113 d (some 49) (nL n) (some arr) (nI N) (nI i) h = Gv := by
        intro Gv hG
        rw [← hG]
        refine (e_Bo_drawn_113 _ _ _ _ _ _ _).trans ?_
        refine (if_neg (nI_ge (show i < N by omega) (by omega))).trans ?_
        refine (bnd (rfl : some arr = some arr) _).trans ?_
        refine (if_pos ⟨by rw [hk]; rfl, by rw [hN]; exact vp_in_nI (by omega) (by omega)⟩).trans ?_
        refine (if_pos C.k49).trans ?_
        refine (if_pos C.k49).trans ?_
        refine (bnd b2 _).trans ?_
        refine (if_pos O.k).trans ?_
        refine (bnd al _).trans ?_
        refine (if_neg (show ¬ bi true = 0 by decide)).trans ?_
        rw [q_cl (by omega), rs, nI_1]
      cases n with
      | zero =>
        have hy : some x = some y := hy
        cases hy
        refine ⟨s, head _ (if_neg (fun q => q ?_)), fs, os⟩
        rw [cmp_0, nL_0 (by omega)]
      | succ n =>
        have hy : (l.filter (cO (dA D) st (dE D)))[n]? = some y := hy
        obtain ⟨s', e1, e2⟩ := Bo_dr_at w hst I hN2 hk hN l (i + 1) n y (by omega) S hl' hy
        refine ⟨s', head _ ((if_pos ?_).trans ?_), e2⟩
        · rw [cmp_0, nL_0 (by omega)]; omega
        · rw [← e1, show (1 : Int64) = nL 1 from rfl, nL_sub (by omega)]
          rfl
theorem BI.wX (I : BI F h a D c st tu pl) (hF : Far F) (v : Int64) : BI F (wJ h 49 6 v) a D c st tu pl := by
  obtain ⟨C, O, T, b1, b2, i3, i4, i5⟩ := I
  exact ⟨C, O.cq hF (Cq.vJ h 6 v (Or.inl rfl)), T.vJ 6 v (by decide), b1, b2, i3, i4, i5⟩
theorem Bo_drawn_ok (w : dW D) (hF : Far F) (hst : st < 2 ^ aN (dA D)) (I : BI F h a D c st tu pl) {X : Nat} (hX : hJ h 49 6 = nL X) : (drw (aL (dA D) (dH D) (dE D) st) X = none ∧ c_Bo_drawn d (some 49) h = some (h, none)) ∨ ∃ y s, drw (aL (dA D) (dH D) (dE D) st) X = some y ∧ c_Bo_drawn d (some 49) h = some (wJ h 49 6 (nL (lcg X)), some s) ∧ F s ∧ SO (wJ h 49 6 (nL (lcg X))) (dA D) s y := by
  obtain ⟨C, O, T, b1, b2, -⟩ := id I
  have hlen := AS_len _ _ O.S
  rw [Nat.zero_add] at hlen
  have hll := sH_len w.1 (dH D)
  have r14 := O.r (j := 14) (by omega) (by omega)
  have fl := List.length_filter_le (cO (dA D) st (dE D)) (sH (dA D) (dH D))
  have e1 := Bo_dr_in (d := d) w hst I (N := (sH (dA D) (dH D)).length) (by omega) O.kS hlen (sH (dA D) (dH D)) 0 0 O.S (fun y hy => hy)
  have e2 : c_Bo_drawn d (some 49) h = k_Bo_drawn_16 d (some 49) (nI 0) (hR h a 14) (Int32.ofNat (hN h (c 14))) (nI 0) h := by
    refine (e_Bo_drawn _ _ _).trans ?_
    refine (if_pos C.k49).trans ?_
    refine (bnd b2 _).trans ?_
    refine (if_pos O.k).trans ?_
    refine (bnd r14 _).trans ?_
    refine (if_pos (by rw [O.kS]; rfl)).trans ?_
    rfl
  rw [r14, hlen] at e2
  rw [← aL_sH, Nat.zero_add] at e1
  rw [← aL_sH] at fl
  have e3 := e2.trans e1
  cases hl : aL (dA D) (dH D) (dE D) st with
  | nil =>
    left
    refine ⟨rfl, ?_⟩
    rw [hl] at e3
    rw [e3]
    refine (e_Bo_drawn_16 _ _ _ _ _ _ _).trans ?_
    refine (if_pos (nI_le (Nat.le_refl _) (by omega))).trans ?_
    exact if_neg (show ¬ ¬ nI 0 = 0 by decide)
  | cons z l =>
    right
    rw [hl] at e3 fl
    have hne : 0 < (z :: l).length := by rw [List.length_cons]; omega
    have hlt := Nat.mod_lt (lcg X / 65536) hne
    obtain ⟨y, hy⟩ : ∃ y, (z :: l)[lcg X / 65536 % (z :: l).length]? = some y := ⟨_, List.getElem?_eq_getElem hlt⟩
    have hll2 : (z :: l).length < 2 ^ 31 := by omega
    have I' := I.wX hF (nL (lcg X))
    have O' := I'.2.1
    have hy2 : ((sH (dA D) (dH D)).filter (cO (dA D) st (dE D)))[lcg X / 65536 % (z :: l).length]? = some y := by rw [← aL_sH, hl]; exact hy
    obtain ⟨s, g1, g2, g3⟩ := Bo_dr_at (d := d) w hst I' (N := (sH (dA D) (dH D)).length) (by omega) O.kS hlen (sH (dA D) (dH D)) 0 (lcg X / 65536 % (z :: l).length) y (by omega) O'.S (fun y hy => hy) hy2
    refine ⟨y, s, hy, ?_, g2, g3⟩
    rw [e3]
    have ex : (hJ h 49 6 * (1103515245 : Int64) + (12345 : Int64)) &&& (2147483647 : Int64) = nL (lcg X) := by rw [hX]; exact lcg_c X
    refine (e_Bo_drawn_16 _ _ _ _ _ _ _).trans ?_
    refine (if_pos (nI_le (Nat.le_refl _) (by omega))).trans ?_
    refine (if_pos (show ¬ nI (z :: l).length = 0 from ?_)).trans ?_
    · rw [l0, q_eq_f (by omega) (by omega) (by omega)]; exact not_false
    refine (if_pos C.k49).trans ?_
    refine (if_pos C.k49).trans ?_
    rw [ex]
    refine (if_pos C.k49).trans ?_
    refine (if_pos (by decide)).trans ?_
    refine (if_pos (show ¬ (nI (z :: l).length).toInt64 = 0 from ?_)).trans ?_
    · rw [nL_i hll2, nL_0 (by omega)]; omega
    refine (if_pos C.k49).trans ?_
    refine (bnd b2 _).trans ?_
    refine (if_pos O.k).trans ?_
    refine (bnd r14 _).trans ?_
    refine (if_pos (show a_any (hK h (c 14)) = true by rw [O.kS]; rfl)).trans ?_
    have ed : ((hJ (wJ h 49 6 (nL (lcg X))) 49 6) / (65536 : Int64)) - ((hJ (wJ h 49 6 (nL (lcg X))) 49 6) / (65536 : Int64)) / (nI (z :: l).length).toInt64 * (nI (z :: l).length).toInt64 = nL (lcg X / 65536 % (z :: l).length) := by
      rw [hJ_wJ, if_pos ⟨rfl, rfl⟩]; exact lcg_d (lcg_lt X) hll2
    rw [ed, ← g1]
    show k_Bo_drawn_113 d (some 49) _ (hR h a 14) (Int32.ofNat (hN h (c 14))) (0 : Int32) _ = _
    rw [r14, hlen]
    rfl
/-! the reference -/
theorem M_draw_ok (M : MS 52 h) {X : Nat} (hX : hJ h 52 34 = nL X) (hx : X < 2 ^ 31) (hn : n < 2 ^ 31) (h0 : 0 < n) : c_M_draw d (some 52) (nI n) h = some (wJ h 52 34 (nL (lcg X)), nI (lcg X / 65536 % n)) := by
  have ex : (hJ h 52 34 * (1103515245 : Int64) + (12345 : Int64)) - (hJ h 52 34 * (1103515245 : Int64) + (12345 : Int64)) / (2147483648 : Int64) * (2147483648 : Int64) = nL (lcg X) := by rw [hX]; exact lcg_m hx
  have ed : ((hJ (wJ h 52 34 (nL (lcg X))) 52 34) / (65536 : Int64)) - ((hJ (wJ h 52 34 (nL (lcg X))) 52 34) / (65536 : Int64)) / (nI n).toInt64 * (nI n).toInt64 = nL (lcg X / 65536 % n) := by
    rw [hJ_wJ, if_pos ⟨rfl, rfl⟩]; exact lcg_d (lcg_lt X) hn
  refine (e_M_draw _ _ _ _).trans ?_
  rw [ex]
  refine (if_pos M.K52).trans ?_
  refine (if_pos (by decide)).trans ?_
  refine (if_pos M.K52).trans ?_
  refine (if_pos M.K52).trans ?_
  refine (if_pos (by decide)).trans ?_
  refine (if_pos (show ¬ (nI n).toInt64 = 0 from ?_)).trans ?_
  · rw [nL_i hn, nL_0 (by omega)]; omega
  rw [ed, nL_t]
theorem M_dr_in (w : dW D) (hst : st < 2 ^ aN (dA D)) (B : MB h D) {n : Nat} : k_M_strokeDrawn_4 d (some 52) (nI st) (nI n) (nI 0) h = k_M_strokeDrawn_4 d (some 52) (nI st) (nI (n + (aL (dA D) (dH D) (dE D) st).length)) (nI (aN (dA D))) h := by
  have w1 := w.1.1
  have hst4 := p12 w.1 hst
  obtain ⟨M, S, X⟩ := id B
  unfold aL
  refine dloop (aN (dA D)) (fun p => ∀ n, k_M_strokeDrawn_4 d (some 52) (nI st) (nI n) (nI p) h = k_M_strokeDrawn_4 d (some 52) (nI st) (nI (n + (rA (fun p k => cB (dA D) st p k (dH D) (dE D)) (aN (dA D)) p 1).length)) (nI (aN (dA D))) h) (fun p k => ∀ n, k_M_strokeDrawn_17 d (some 52) (nI st) (nI n) (nI p) (nI k) h = k_M_strokeDrawn_4 d (some 52) (nI st) (nI (n + (rA (fun p k => cB (dA D) st p k (dH D) (dE D)) (aN (dA D)) p k).length)) (nI (aN (dA D))) h) ?_ ?_ ?_ ?_ (aN (dA D)) 0 (by omega) n
  · intro n
    rw [rA_n]
    rfl
  · intro p hp ih n
    rw [← ih n]
    refine (e_M_strokeDrawn_4 _ _ _ _ _ _).trans ?_
    refine (if_pos M.K52).trans ?_
    refine (bnd M.R20 _).trans ?_
    refine (if_pos ⟨Or.inl M.K62, by rw [M.N62]; exact vp_in_nI (n := 1) (by omega) (by omega)⟩).trans ?_
    refine (if_neg (show ¬ hI h 62 (1 : Int32).toNatClampNeg ≤ nI p from ?_)).trans rfl
    rw [show (1 : Int32).toNatClampNeg = 1 from rfl, S.1.1]
    exact nI_ge (by omega) (by omega)
  · intro p hp ih n
    rw [rA_5, ← ih n]
    refine (e_M_strokeDrawn_17 _ _ _ _ _ _ _).trans ?_
    refine (if_pos (show (4 : Int32) < nI 5 by decide)).trans ?_
    rw [nI_1]
  · intro p k hp h1 h4 ih n
    have cb := M_canBeNow_ok d M w S hst4 hp h1 h4
    have n4 : ¬ (4 : Int32) < nI k := by
      rcases (show k = 1 ∨ k = 2 ∨ k = 3 ∨ k = 4 by omega) with rfl | rfl | rfl | rfl <;> decide
    rw [rA_s _ hp h1 h4]
    cases hc : cB (dA D) st p k (dH D) (dE D)
    · rw [hc] at cb
      rw [if_neg (by decide), ← ih n]
      refine (e_M_strokeDrawn_17 _ _ _ _ _ _ _).trans ?_
      refine (if_neg n4).trans ?_
      refine (if_pos M.K52).trans ?_
      refine (bnd cb _).trans ?_
      refine (if_pos (show bi false = 0 by decide)).trans ?_
      rw [nI_1, l0, nI_add, Nat.add_zero]
    · rw [hc] at cb
      rw [if_pos rfl, List.length_cons, show ∀ y, n + (y + 1) = n + 1 + y from fun y => by omega, ← ih (n + 1)]
      refine (e_M_strokeDrawn_17 _ _ _ _ _ _ _).trans ?_
      refine (if_neg n4).trans ?_
      refine (if_pos M.K52).trans ?_
      refine (bnd cb _).trans ?_
      refine (if_neg (show ¬ bi true = 0 by decide)).trans ?_
      rw [nI_1, nI_1]
theorem M_dr_at (w : dW D) (hst : st < 2 ^ aN (dA D)) (B : MB h D) {n : Nat} {y : Nat × Nat} (hn : n < 2 ^ 31) (hy : (aL (dA D) (dH D) (dE D) st)[n]? = some y) : k_M_strokeDrawn_69 d (some 52) (nI st) (nI n) (nI 0) h = some (h, nI (aT (dA D) st y)) := by
  have w1 := w.1.1
  have hst4 := p12 w.1 hst
  obtain ⟨M, S, X⟩ := id B
  unfold aL at hy
  refine dloop (aN (dA D)) (fun p => ∀ n, n < 2 ^ 31 → (rA (fun p k => cB (dA D) st p k (dH D) (dE D)) (aN (dA D)) p 1)[n]? = some y → k_M_strokeDrawn_69 d (some 52) (nI st) (nI n) (nI p) h = some (h, nI (aT (dA D) st y))) (fun p k => ∀ n, n < 2 ^ 31 → (rA (fun p k => cB (dA D) st p k (dH D) (dE D)) (aN (dA D)) p k)[n]? = some y → k_M_strokeDrawn_83 d (some 52) (nI st) (nI n) (nI p) (nI k) h = some (h, nI (aT (dA D) st y))) ?_ ?_ ?_ ?_ (aN (dA D)) 0 (by omega) n hn hy
  · intro n hn hy
    rw [rA_n] at hy
    cases hy
  · intro p hp ih n hn hy
    rw [← ih n hn hy]
    refine (e_M_strokeDrawn_69 _ _ _ _ _ _).trans ?_
    refine (if_pos M.K52).trans ?_
    refine (bnd M.R20 _).trans ?_
    refine (if_pos ⟨Or.inl M.K62, by rw [M.N62]; exact vp_in_nI (n := 1) (by omega) (by omega)⟩).trans ?_
    refine (if_neg (show ¬ hI h 62 (1 : Int32).toNatClampNeg ≤ nI p from ?_)).trans rfl
    rw [show (1 : Int32).toNatClampNeg = 1 from rfl, S.1.1]
    exact nI_ge (by omega) (by omega)
  · intro p hp ih n hn hy
    rw [rA_5] at hy
    rw [← ih n hn hy]
    refine (e_M_strokeDrawn_83 _ _ _ _ _ _ _).trans ?_
    refine (if_pos (show (4 : Int32) < nI 5 by decide)).trans ?_
    rw [nI_1]
  · intro p k hp h1 h4 ih n hn hy
    have cb := M_canBeNow_ok d M w S hst4 hp h1 h4
    have n4 : ¬ (4 : Int32) < nI k := by
      rcases (show k = 1 ∨ k = 2 ∨ k = 3 ∨ k = 4 by omega) with rfl | rfl | rfl | rfl <;> decide
    rw [rA_s _ hp h1 h4] at hy
    cases hc : cB (dA D) st p k (dH D) (dE D)
    · rw [hc] at cb hy
      rw [if_neg (by decide)] at hy
      rw [← ih n hn hy]
      refine (e_M_strokeDrawn_83 _ _ _ _ _ _ _).trans ?_
      refine (if_neg n4).trans ?_
      refine (if_pos M.K52).trans ?_
      refine (bnd cb _).trans ?_
      refine (if_neg (show ¬ ¬ bi false = 0 by decide)).trans ?_
      rw [nI_1]
    · rw [hc] at cb hy
      rw [if_pos rfl] at hy
      refine (e_M_strokeDrawn_83 _ _ _ _ _ _ _).trans ?_
      refine (if_neg n4).trans ?_
      refine (if_pos M.K52).trans ?_
      refine (bnd cb _).trans ?_
      refine (if_pos (show ¬ bi true = 0 by decide)).trans ?_
      cases n with
      | zero =>
        have hy : some (p, k) = some y := hy
        cases hy
        have sb := M_strokeBits_ok (b := 52) d M w.1 S.1 hp h4
        refine (if_neg (show ¬ ¬ nI 0 = 0 by decide)).trans ?_
        refine (if_pos M.K52).trans ?_
        refine (bnd sb _).trans ?_
        have ea : nI st &&& (nI (sB (dA D) p k) ^^^ ((-1) : Int32)) = nI (aT (dA D) st (p, k)) := nI_an _ hst4
        show some (h, nI st &&& (nI (sB (dA D) p k) ^^^ ((-1) : Int32))) = _
        rw [ea]
      | succ n =>
        rw [List.getElem?_cons_succ] at hy
        rw [← ih n (by omega) hy]
        refine (if_pos (show ¬ nI (n + 1) = 0 from ?_)).trans ?_
        · rw [l0, q_eq_f (by omega) (by omega) (by omega)]; exact not_false
        rw [nI_1, show nI (n + 1) + (-1) = nI n by rw [← nI_1, Int32.add_assoc, show (1 : Int32) + (-1) = 0 from rfl, Int32.add_zero]]
theorem M_strokeDrawn_ok (w : dW D) (hst : st < 2 ^ aN (dA D)) (B : MB h D) {X : Nat} (hX : hJ h 52 34 = nL X) (hx : X < 2 ^ 31) : (drw (aL (dA D) (dH D) (dE D) st) X = none ∧ c_M_strokeDrawn d (some 52) (nI st) h = some (h, nM)) ∨ ∃ y, drw (aL (dA D) (dH D) (dE D) st) X = some y ∧ c_M_strokeDrawn d (some 52) (nI st) h = some (wJ h 52 34 (nL (lcg X)), nI (aT (dA D) st y)) := by
  have w1 := w.1.1
  obtain ⟨M, S, X'⟩ := id B
  have fl : (aL (dA D) (dH D) (dE D) st).length ≤ 48 := rA_len _ w1
  have e3 : c_M_strokeDrawn d (some 52) (nI st) h = k_M_strokeDrawn_4 d (some 52) (nI st) (nI (aL (dA D) (dH D) (dE D) st).length) (nI (aN (dA D))) h := by
    rw [e_M_strokeDrawn]
    have := M_dr_in (d := d) w hst B (n := 0)
    rw [Nat.zero_add] at this
    exact this
  have head : ∀ n (Gv : Option (sk_H × Int32)), ((if ¬ nI n = 0 then (if hK h 52 = 13 then Option.bind (c_M_draw d (some 52) (nI n) h) fun q2 => k_M_strokeDrawn_69 d (some 52) (nI st) q2.2 (0 : Int32) q2.1 else none) else some (h, ((-1) : Int32))) = Gv) → k_M_strokeDrawn_4 d (some 52) (nI st) (nI n) (nI (aN (dA D))) h = Gv := by
    intro n Gv hG
    rw [← hG]
    refine (e_M_strokeDrawn_4 _ _ _ _ _ _).trans ?_
    refine (if_pos M.K52).trans ?_
    refine (bnd M.R20 _).trans ?_
    refine (if_pos ⟨Or.inl M.K62, by rw [M.N62]; exact vp_in_nI (n := 1) (by omega) (by omega)⟩).trans ?_
    refine (if_pos (show hI h 62 (1 : Int32).toNatClampNeg ≤ nI (aN (dA D)) from ?_)).trans rfl
    rw [show (1 : Int32).toNatClampNeg = 1 from rfl, S.1.1]
    exact nI_le (Nat.le_refl _) (by omega)
  cases hl : aL (dA D) (dH D) (dE D) st with
  | nil =>
    left
    refine ⟨rfl, ?_⟩
    rw [hl] at e3
    rw [e3]
    exact head _ _ (if_neg (show ¬ ¬ nI 0 = 0 by decide))
  | cons z l =>
    right
    rw [hl] at e3 fl
    have hne : 0 < (z :: l).length := by rw [List.length_cons]; omega
    have hlt := Nat.mod_lt (lcg X / 65536) hne
    obtain ⟨y, hy⟩ : ∃ y, (z :: l)[lcg X / 65536 % (z :: l).length]? = some y := ⟨_, List.getElem?_eq_getElem hlt⟩
    have hll2 : (z :: l).length < 2 ^ 31 := by omega
    have hy2 : (aL (dA D) (dH D) (dE D) st)[lcg X / 65536 % (z :: l).length]? = some y := by rw [hl]; exact hy
    have B' : MB (wJ h 52 34 (nL (lcg X))) D := B
    have g1 := M_dr_at (d := d) w hst B' (n := lcg X / 65536 % (z :: l).length) (by omega) hy2
    refine ⟨y, hy, ?_⟩
    rw [e3]
    refine head _ _ ?_
    refine (if_pos (show ¬ nI (z :: l).length = 0 from ?_)).trans ?_
    · rw [l0, q_eq_f (by omega) (by omega) (by omega)]; exact not_false
    refine (if_pos M.K52).trans ?_
    refine (bnd (M_draw_ok M hX hx hll2 hne) _).trans ?_
    exact g1
end SkDraw
