/-! ===== chance: a hand that strays ===== -/
theorem an_0 {m : Nat} (hm : m < 4096) : an m 0 = m := by
  unfold an
  refine Nat.eq_of_testBit_eq (fun i => ?_)
  rw [Nat.testBit_and, Nat.testBit_xor, tb_4095, Nat.zero_testBit]
  by_cases hi : i < 12
  · simp [hi]
  · rw [tb_hi (n := 12) hm (by omega)]; rfl
theorem an_an {m s b : Nat} : an (an m s) (an b s) = an (an m s) b := by
  unfold an
  refine Nat.eq_of_testBit_eq (fun i => ?_)
  simp only [Nat.testBit_and, Nat.testBit_xor, tb_4095]
  cases m.testBit i <;> cases s.testBit i <;> cases b.testBit i <;> cases decide (i < 12) <;> rfl
/-- what stands when the stroke strays -/
def aS (A : AD) (m : Nat) (x : Nat × Nat) : Nat := an (aT A m x) (bO (aAh A x.1 x.2))
def chV (D : DD) (m : Nat) (u : Nat → Int32) (x : Nat × Nat) : Int32 := (((nI 100 - nI (dS D)) * (nI 10000 - u (aT (dA D) m x))) + (nI (dS D) * (nI 10000 - u (aS (dA D) m x)))) / nI 100
def chG (D : DD) (m : Nat) (u : Nat → Int32) (r : Int32) (x : Nat × Nat) : Int32 := if r < chV D m u x then chV D m u x else r
def ovI (D : DD) : Int32 := if dL D = true then nI 10000 else nI 0
def chF (D : DD) (r : Int32) : Int32 := if r < nI 0 then ovI D else r
def chB (D : DD) (m : Nat) (u : Nat → Int32) : Int32 := chF D ((aL (dA D) (dH D) (dE D) m).foldl (chG D m u) nM)
def chT (D : DD) : Nat → Int32 := fv (chB D) 0
theorem aS_le (A : AD) (m : Nat) (x : Nat × Nat) : aS A m x ≤ aT A m x := an_le _ _
theorem chT_eq (D : DD) {m : Nat} (hm : m < 4096) : chT D m = chB D m (chT D) := fv_eq (N := 4096) (fun m hm u v h => by
  unfold chB
  rw [foldl_cg (k := chG D m v) (fun r x hx => by unfold chG chV; rw [h _ (aT_lt hm hx), h _ (Nat.lt_of_le_of_lt (aS_le _ _ _) (aT_lt hm hx))])]) hm
theorem ge_m1 {r : Int32} (h : nM ≤ r) : (r = nM) = (r < nI 0) := by
  rw [Int32.le_iff_toInt_le] at h
  have e1 : nM.toInt = -1 := rfl
  have e0 : (nI 0).toInt = 0 := rfl
  refine propext ⟨fun q => by rw [q]; decide, fun q => ?_⟩
  rw [Int32.lt_iff_toInt_lt] at q
  exact Int32.toInt_inj.mp (by omega)
theorem chG_ge (D : DD) (m : Nat) (u : Nat → Int32) (l : List (Nat × Nat)) : nM ≤ l.foldl (chG D m u) nM := foldl_inv (P := fun r => nM ≤ r) (fun r x _ hr => by
  unfold chG
  by_cases q : r < chV D m u x
  · rw [if_pos q]
    rw [Int32.le_iff_toInt_le] at hr ⊢
    rw [Int32.lt_iff_toInt_lt] at q
    omega
  · rw [if_neg q]; exact hr) nM (Int32.le_refl _)
def P46 (a i : Nat) : Bool := a == 46 || (a == 32 && i == 12)
theorem P46_C : ∀ a i, pC a i = false → P46 a i = false := fun a i h => pC_of (by decide) (by decide) (by decide) (by decide) h
section SkChance
variable {F : Nat → Prop} {h : sk_H} {a m st : Nat} {D : DD} {c : Nat → Nat} {d : Nat}
theorem Ta_ch_m (hF : Far F) (w : dW D) (I : CI F D a c h) (hm : m < 2 ^ aN (dA D)) (T : TB 46 (chT D) m h) : k_Ta_fillChances_20 d (some 32) (ovI D) (nI m) h = k_Ta_fillChances_20 d (some 32) (ovI D) (nI (m + 1)) (wI h 46 m (chT D m)) := by
  obtain ⟨C, O, r, e, _⟩ := I
  have hp := pow12 w.1.1
  have hm4 := p12 w.1 hm
  have hS := O.S
  have hlen := AS_len _ _ hS
  rw [Nat.zero_add] at hlen
  have hll := sH_len w.1 (dH D)
  have hk := O.kS
  have ra := O.r (j := 14) (by omega) (by omega)
  have ka := O.k
  have is := O.2.2.1.2.2.2.2.2
  have key := cfold (cnd := cO (dA D) m (dE D)) (g := chG D m (chT D)) (fun i (r : Int32) => k_Ta_fillChances_47 d (some 32) (ovI D) (nI m) r (some (c 14)) (nI (sH (dA D) (dH D)).length) (nI i) h) (fun r => k_Ta_fillChances_20 d (some 32) (ovI D) (nI (m + 1)) (wI h 46 m (if r = nM then ovI D else r))) hlen ?_ ?_ (sH (dA D) (dH D)) 0 nM hS (fun x hx => sH_mem hx)
  · rw [e_Ta_fillChances_20]
    simp (disch := omega) only [C.k20, C.k21, C.k22, C.k23, C.k24, C.k25, C.k26, C.k27, C.k28, C.k29, C.k30, C.k31, C.k32, C.k43, C.k44, C.k45, C.k46, C.k47, C.k48, C.k49, C.k50, C.k51, C.n21, C.n22, C.n24, C.n25, C.n26, C.n27, C.n29, C.n30, C.n31, C.n43, C.n44, C.n45, C.n46, C.n47, C.n48, C.n51, C.r20_0, C.r20_2, C.r20_4, C.r20_5, C.r20_6, C.r20_7, C.r20_8, C.r23_5, C.r23_6, C.r23_7, C.r28_0, C.r28_1, C.r28_2, C.r32_3, C.r32_4, C.r32_5, C.r32_6, C.r32_7, C.r32_8, C.r49_0, C.r50_0, ↓bnd C.r20_0, ↓bnd C.r20_2, ↓bnd C.r20_4, ↓bnd C.r20_5, ↓bnd C.r20_6, ↓bnd C.r20_7, ↓bnd C.r20_8, ↓bnd C.r23_5, ↓bnd C.r23_6, ↓bnd C.r23_7, ↓bnd C.r28_0, ↓bnd C.r28_1, ↓bnd C.r28_2, ↓bnd C.r32_3, ↓bnd C.r32_4, ↓bnd C.r32_5, ↓bnd C.r32_6, ↓bnd C.r32_7, ↓bnd C.r32_8, ↓bnd C.r49_0, ↓bnd C.r50_0, ↓reduceIte, ↓Option.bind_some, if_true, if_false, true_and, and_true, and_self, true_or, or_true, false_or, or_false, not_true_eq_false, not_false_eq_true, Option.bind_some, somene, false_and, and_false, reduceCtorEq, Nat.reduceEqDiff, aa101, aa102, aa103, aa104, aa105, aa106, aa107, aa108, aa201, aa202, aa204, ar106, ar107, ar108, ofn, e, r, q_le_f, l0, l1, lm1, ra, ka, hk, hlen]
    rw [key, ← aL_sH, chT_eq D hm4]
    unfold chB chF
    have e7 := ge_m1 (chG_ge D m (chT D) (aL (dA D) (dH D) (dE D) m))
    simp only [e7]
  · intro q
    show k_Ta_fillChances_47 d (some 32) (ovI D) (nI m) q (some (c 14)) _ _ h = _
    rw [e_Ta_fillChances_47]
    by_cases hq : q = nM
    · simp (disch := omega) only [C.k20, C.k21, C.k22, C.k23, C.k24, C.k25, C.k26, C.k27, C.k28, C.k29, C.k30, C.k31, C.k32, C.k43, C.k44, C.k45, C.k46, C.k47, C.k48, C.k49, C.k50, C.k51, C.n21, C.n22, C.n24, C.n25, C.n26, C.n27, C.n29, C.n30, C.n31, C.n43, C.n44, C.n45, C.n46, C.n47, C.n48, C.n51, C.r20_0, C.r20_2, C.r20_4, C.r20_5, C.r20_6, C.r20_7, C.r20_8, C.r23_5, C.r23_6, C.r23_7, C.r28_0, C.r28_1, C.r28_2, C.r32_3, C.r32_4, C.r32_5, C.r32_6, C.r32_7, C.r32_8, C.r49_0, C.r50_0, ↓bnd C.r20_0, ↓bnd C.r20_2, ↓bnd C.r20_4, ↓bnd C.r20_5, ↓bnd C.r20_6, ↓bnd C.r20_7, ↓bnd C.r20_8, ↓bnd C.r23_5, ↓bnd C.r23_6, ↓bnd C.r23_7, ↓bnd C.r28_0, ↓bnd C.r28_1, ↓bnd C.r28_2, ↓bnd C.r32_3, ↓bnd C.r32_4, ↓bnd C.r32_5, ↓bnd C.r32_6, ↓bnd C.r32_7, ↓bnd C.r32_8, ↓bnd C.r49_0, ↓bnd C.r50_0, ↓reduceIte, ↓Option.bind_some, if_true, if_false, true_and, and_true, and_self, true_or, or_true, false_or, or_false, not_true_eq_false, not_false_eq_true, Option.bind_some, somene, false_and, and_false, reduceCtorEq, Nat.reduceEqDiff, q_le_t, l1, lm1, q_in, q_cl, nI_add, hq]
    · simp (disch := omega) only [C.k20, C.k21, C.k22, C.k23, C.k24, C.k25, C.k26, C.k27, C.k28, C.k29, C.k30, C.k31, C.k32, C.k43, C.k44, C.k45, C.k46, C.k47, C.k48, C.k49, C.k50, C.k51, C.n21, C.n22, C.n24, C.n25, C.n26, C.n27, C.n29, C.n30, C.n31, C.n43, C.n44, C.n45, C.n46, C.n47, C.n48, C.n51, C.r20_0, C.r20_2, C.r20_4, C.r20_5, C.r20_6, C.r20_7, C.r20_8, C.r23_5, C.r23_6, C.r23_7, C.r28_0, C.r28_1, C.r28_2, C.r32_3, C.r32_4, C.r32_5, C.r32_6, C.r32_7, C.r32_8, C.r49_0, C.r50_0, ↓bnd C.r20_0, ↓bnd C.r20_2, ↓bnd C.r20_4, ↓bnd C.r20_5, ↓bnd C.r20_6, ↓bnd C.r20_7, ↓bnd C.r20_8, ↓bnd C.r23_5, ↓bnd C.r23_6, ↓bnd C.r23_7, ↓bnd C.r28_0, ↓bnd C.r28_1, ↓bnd C.r28_2, ↓bnd C.r32_3, ↓bnd C.r32_4, ↓bnd C.r32_5, ↓bnd C.r32_6, ↓bnd C.r32_7, ↓bnd C.r32_8, ↓bnd C.r49_0, ↓bnd C.r50_0, ↓reduceIte, ↓Option.bind_some, if_true, if_false, true_and, and_true, and_self, true_or, or_true, false_or, or_false, not_true_eq_false, not_false_eq_true, Option.bind_some, somene, false_and, and_false, reduceCtorEq, Nat.reduceEqDiff, q_le_t, l1, lm1, q_in, q_cl, nI_add, hq]
  · intro i x s q hi rs fs o hx
    show k_Ta_fillChances_47 d (some 32) (ovI D) (nI m) q (some (c 14)) _ _ h = _
    obtain ⟨x0, x1, x2, x3, x4⟩ := hx
    have hlt := an_le m (sB (dA D) x.1 x.2)
    have hlt2 := an_le (an m (sB (dA D) x.1 x.2)) (an (bO (aAh (dA D) x.1 x.2)) (sB (dA D) x.1 x.2))
    obtain ⟨o1, _, _, _, o3, _, o5, _⟩ := id o
    have al := Al_allows_ok d O w o x4 hm4
    have e100 : (nI 100 = nI 0) = False := eq_false (by decide)
    have rs' : hR h (c 14) (nI i).toNatClampNeg = some s := by rw [nI_clamp (by omega)]; exact rs
    have al' : c_Al_allows d (hR h 32 0) (nI m) (hR h (c 14) (nI i).toNatClampNeg) h = some (h, bi (cO (dA D) m (dE D) x)) := by rw [r, rs']; exact al
    rw [e_Ta_fillChances_47]
    simp (disch := omega) only [C.k20, C.k21, C.k22, C.k23, C.k24, C.k25, C.k26, C.k27, C.k28, C.k29, C.k30, C.k31, C.k32, C.k43, C.k44, C.k45, C.k46, C.k47, C.k48, C.k49, C.k50, C.k51, C.n21, C.n22, C.n24, C.n25, C.n26, C.n27, C.n29, C.n30, C.n31, C.n43, C.n44, C.n45, C.n46, C.n47, C.n48, C.n51, C.r20_0, C.r20_2, C.r20_4, C.r20_5, C.r20_6, C.r20_7, C.r20_8, C.r23_5, C.r23_6, C.r23_7, C.r28_0, C.r28_1, C.r28_2, C.r32_3, C.r32_4, C.r32_5, C.r32_6, C.r32_7, C.r32_8, C.r49_0, C.r50_0, ↓bnd C.r20_0, ↓bnd C.r20_2, ↓bnd C.r20_4, ↓bnd C.r20_5, ↓bnd C.r20_6, ↓bnd C.r20_7, ↓bnd C.r20_8, ↓bnd C.r23_5, ↓bnd C.r23_6, ↓bnd C.r23_7, ↓bnd C.r28_0, ↓bnd C.r28_1, ↓bnd C.r28_2, ↓bnd C.r32_3, ↓bnd C.r32_4, ↓bnd C.r32_5, ↓bnd C.r32_6, ↓bnd C.r32_7, ↓bnd C.r32_8, ↓bnd C.r49_0, ↓bnd C.r50_0, ↓reduceIte, ↓Option.bind_some, if_true, if_false, true_and, and_true, and_self, true_or, or_true, false_or, or_false, not_true_eq_false, not_false_eq_true, Option.bind_some, somene, false_and, and_false, reduceCtorEq, Nat.reduceEqDiff, aa101, aa102, aa103, aa104, aa105, aa106, aa107, aa108, aa201, aa202, aa204, ar106, ar107, ar108, ofn, r, q_le_f, l0, l1, lm1, l100, l10000, e100, ka, hk, hlen, rs', ↓bnd rs', ↓bnd r, o1, o3, o5, is, ↓bnd al', q_in, q_cl, q_bi0, q_nan, nI_add]
    cases hc : cO (dA D) m (dE D) x
    · rw [if_pos rfl, if_neg (by decide)]
    · rw [if_neg (by decide), if_pos rfl]
      have hc2 : m &&& sB (dA D) x.1 x.2 = sB (dA D) x.1 x.2 := by
        unfold cO at hc
        rw [Bool.and_eq_true, decide_eq_true_eq] at hc
        exact hc.1
      have hl := an_sub hm4 x1 hc2
      have ht := T _ hl
      have ht2 := T _ (Nat.lt_of_le_of_lt hlt2 hl)
      rw [ht, ht2, an_an]
      rfl
theorem Ta_ch_all (hF : Far F) (w : dW D) (I : CI F D a c h) : ∃ h', c_Ta_fillChances d (some 32) h = some h' ∧ Iq P46 h h' ∧ hI h' 32 12 = nI 1 ∧ TB 46 (chT D) (2 ^ aN (dA D)) h' := by
  obtain ⟨h', e1, e2, e3, e4⟩ := gfill (P := P46) (K := fun m h => k_Ta_fillChances_20 d (some 32) (ovI D) (nI m) h) (N := 2 ^ aN (dA D)) (fun m h => wI h 46 m (chT D m)) (TB 46 (chT D)) (CI F D a c) (fun h h' Q I => I.iq hF P46_C Q) (fun m h hm I T => ⟨Ta_ch_m hF w I hm T, Iq.w h _ rfl, T.s rfl⟩) (2 ^ aN (dA D)) 0 h (by omega) I (fun j hj => absurd hj (by omega))
  obtain ⟨C0, O0, r0, _⟩ := I
  obtain ⟨C, O, r, e, _⟩ := e3
  have hp := pow12 w.1.1
  have ka := O0.k
  have il := O0.2.2.1.2.2.2.2.1
  refine ⟨wI h' 32 12 (nI 1), ?_, e2.trans (Iq.w h' _ rfl), ?_, fun j hj => ?_⟩
  · have e6 : k_Ta_fillChances_20 d (some 32) (ovI D) (nI 0) h = some (wI h' 32 12 (nI 1)) := by
      refine e1.trans ?_
      rw [e_Ta_fillChances_20]
      simp (disch := omega) only [C.k20, C.k21, C.k22, C.k23, C.k24, C.k25, C.k26, C.k27, C.k28, C.k29, C.k30, C.k31, C.k32, C.k43, C.k44, C.k45, C.k46, C.k47, C.k48, C.k49, C.k50, C.k51, C.n21, C.n22, C.n24, C.n25, C.n26, C.n27, C.n29, C.n30, C.n31, C.n43, C.n44, C.n45, C.n46, C.n47, C.n48, C.n51, C.r20_0, C.r20_2, C.r20_4, C.r20_5, C.r20_6, C.r20_7, C.r20_8, C.r23_5, C.r23_6, C.r23_7, C.r28_0, C.r28_1, C.r28_2, C.r32_3, C.r32_4, C.r32_5, C.r32_6, C.r32_7, C.r32_8, C.r49_0, C.r50_0, ↓bnd C.r20_0, ↓bnd C.r20_2, ↓bnd C.r20_4, ↓bnd C.r20_5, ↓bnd C.r20_6, ↓bnd C.r20_7, ↓bnd C.r20_8, ↓bnd C.r23_5, ↓bnd C.r23_6, ↓bnd C.r23_7, ↓bnd C.r28_0, ↓bnd C.r28_1, ↓bnd C.r28_2, ↓bnd C.r32_3, ↓bnd C.r32_4, ↓bnd C.r32_5, ↓bnd C.r32_6, ↓bnd C.r32_7, ↓bnd C.r32_8, ↓bnd C.r49_0, ↓bnd C.r50_0, ↓reduceIte, ↓Option.bind_some, if_true, if_false, true_and, and_true, and_self, true_or, or_true, false_or, or_false, not_true_eq_false, not_false_eq_true, Option.bind_some, somene, false_and, and_false, reduceCtorEq, Nat.reduceEqDiff, e, q_le_t, l0, l1]
    rw [← e6, e_Ta_fillChances]
    simp (disch := omega) only [C0.k32, ↓reduceIte, ↓Option.bind_some, if_true, if_false, true_and, and_true, and_self, true_or, or_true, false_or, or_false, not_true_eq_false, not_false_eq_true, Option.bind_some, somene, false_and, and_false, reduceCtorEq, Nat.reduceEqDiff, r0, ka, il, l0, l10000, q_bi0]
    unfold ovI
    cases dL D
    · simp only [↓reduceIte, ↓Option.bind_some, if_true, if_false, true_and, and_true, and_self, true_or, or_true, false_or, or_false, not_true_eq_false, not_false_eq_true, Option.bind_some, somene, false_and, and_false, reduceCtorEq, Nat.reduceEqDiff, Bool.false_eq_true]
    · simp only [↓reduceIte, ↓Option.bind_some, if_true, if_false, true_and, and_true, and_self, true_or, or_true, false_or, or_false, not_true_eq_false, not_false_eq_true, Option.bind_some, somene, false_and, and_false, reduceCtorEq, Nat.reduceEqDiff, Bool.true_eq_false]
  · rw [hI_wI, if_pos ⟨rfl, rfl⟩]
  · rw [hI_wI, if_neg (fun q => by have := q.1; omega)]; exact e4 j hj
theorem M_strayed_ok (w : dW D) (M : MS 52 h) (S : mSaid D (hI h 62)) (hm : m < 4096) {p k : Nat} (hp : p < aN (dA D)) (h1 : 1 ≤ k) (h4 : k ≤ 4) (hs : sB (dA D) p k ≠ 0) : c_M_strayed d (some 52) (nI (aT (dA D) m (p, k))) (nI p) (nI k) h = some (h, nI (aS (dA D) m (p, k))) := by
  obtain ⟨q, hq⟩ := sbA_lO (dA D) k (some p) 0 hs (k - 1) (by omega)
  have hq2 := lO_lt w.1 (k - 1) (some p) q (fun x hx => by cases hx; exact hp) hq
  have w1 := w.1.1
  have hlt := an_lt (sB (dA D) p k) hm
  rw [e_M_strayed]
  have b1 := M_lastOf_ok (b := 52) d M w.1 S.1 hp h4 h1 hs
  rw [hq] at b1
  have b1 : c_M_lastOf d (some 52) (nI p) (nI k) h = some (h, nI q) := b1
  have b2 := M_besideN_ok (b := 52) d M w.1 S.1 hq2
  have ea : aAh (dA D) p k = aNx (dA D) q := by unfold aAh; rw [hq]; rfl
  simp only [M.K52, ↓reduceIte, ↓Option.bind_some, if_true, if_false, true_and, and_true, and_self, true_or, or_true, false_or, or_false, not_true_eq_false, not_false_eq_true, Option.bind_some, somene, false_and, and_false, reduceCtorEq, Nat.reduceEqDiff, b1, b2]
  unfold aS
  show _ = some (h, nI (an (aT (dA D) m (p, k)) (bO (aAh (dA D) p k))))
  rw [ea]
  cases hw : aNx (dA D) q with
  | none =>
    rw [if_neg (by decide)]
    show some (h, nI (an m (sB (dA D) p k))) = some (h, nI (an (an m (sB (dA D) p k)) 0))
    rw [an_0 hlt]
  | some y =>
    have hy := aNx_lt w.1 hq2 hw
    have e1 : (0 : Int32) ≤ oI (some y) := by
      show nI 0 ≤ nI y
      exact nI_le (by omega) (by omega)
    rw [if_pos e1]
    show some (h, nI (an m (sB (dA D) p k)) &&& (((1 : Int32) <<< (nI y &&& 31)) ^^^ (-1))) = _
    rw [nI_shl (by omega), nI_an _ hlt]
    rfl
theorem M_chanceAt_ok (w : dW D) (I : MI D st h) (hm : m < 2 ^ aN (dA D)) (T : TB 68 (chT D) m h) : c_M_chanceAt d (some 52) (nI m) h = some (h, chT D m) := by
  obtain ⟨M, S, _⟩ := I
  have hm4 := p12 w.1 hm
  have hp := pow12 w.1.1
  have w1 := w.1.1
  obtain ⟨⟨s1, -⟩, s0, s3, s4, s5, s6⟩ := id S
  have key := dfold (n := aN (dA D)) (f := fun p k => cB (dA D) m p k (dH D) (dE D)) (g := chG D m (chT D)) (fun p (r : Int32) => k_M_chanceAt_4 d (some 52) (nI m) r (nI p) h) (fun p k r => k_M_chanceAt_17 d (some 52) (nI m) r (nI p) (nI k) h) (fun r => some (h, chF D r)) ?_ ?_ ?_ ?_ nM
  · rw [e_M_chanceAt, l1, l0, lm1]
    rw [key, chT_eq D hm4]
    rfl
  · intro q
    show k_M_chanceAt_4 d (some 52) (nI m) q _ h = _
    rw [e_M_chanceAt_4]
    unfold chF ovI
    by_cases hq : q < nI 0
    · simp (disch := omega) only [M.K52, M.R0, M.R3, M.R4, M.R5, M.R6, M.R7, M.R15, M.R17, M.R19, M.R20, M.R22, M.R24, M.R26, M.R27, M.R28, M.R29, M.R30, M.R37, M.R38, M.R39, ↓bnd M.R0, ↓bnd M.R3, ↓bnd M.R4, ↓bnd M.R5, ↓bnd M.R6, ↓bnd M.R7, ↓bnd M.R15, ↓bnd M.R17, ↓bnd M.R19, ↓bnd M.R20, ↓bnd M.R22, ↓bnd M.R24, ↓bnd M.R26, ↓bnd M.R27, ↓bnd M.R28, ↓bnd M.R29, ↓bnd M.R30, ↓bnd M.R37, ↓bnd M.R38, ↓bnd M.R39, M.K53, M.K54, M.K55, M.K56, M.K57, M.K58, M.K59, M.K60, M.K61, M.K62, M.K63, M.K64, M.K65, M.K66, M.K67, M.K68, M.K69, M.K70, M.K71, M.K72, M.N53, M.N54, M.N55, M.N56, M.N57, M.N58, M.N59, M.N60, M.N61, M.N62, M.N63, M.N64, M.N65, M.N66, M.N67, M.N68, M.N69, M.N70, M.N71, M.N72, ↓reduceIte, ↓Option.bind_some, if_true, if_false, true_and, and_true, and_self, true_or, or_true, false_or, or_false, not_true_eq_false, not_false_eq_true, Option.bind_some, somene, false_and, and_false, reduceCtorEq, Nat.reduceEqDiff, q_le_t, l0, l1, l5, l10000, q_in, q_cl, s1, s5, hq, q_bi1]
      cases dL D
      · simp only [↓reduceIte, ↓Option.bind_some, if_true, if_false, true_and, and_true, and_self, true_or, or_true, false_or, or_false, not_true_eq_false, not_false_eq_true, Option.bind_some, somene, false_and, and_false, reduceCtorEq, Nat.reduceEqDiff, Bool.false_eq_true]
      · simp only [↓reduceIte, ↓Option.bind_some, if_true, if_false, true_and, and_true, and_self, true_or, or_true, false_or, or_false, not_true_eq_false, not_false_eq_true, Option.bind_some, somene, false_and, and_false, reduceCtorEq, Nat.reduceEqDiff]
    · simp (disch := omega) only [M.K52, M.R0, M.R3, M.R4, M.R5, M.R6, M.R7, M.R15, M.R17, M.R19, M.R20, M.R22, M.R24, M.R26, M.R27, M.R28, M.R29, M.R30, M.R37, M.R38, M.R39, ↓bnd M.R0, ↓bnd M.R3, ↓bnd M.R4, ↓bnd M.R5, ↓bnd M.R6, ↓bnd M.R7, ↓bnd M.R15, ↓bnd M.R17, ↓bnd M.R19, ↓bnd M.R20, ↓bnd M.R22, ↓bnd M.R24, ↓bnd M.R26, ↓bnd M.R27, ↓bnd M.R28, ↓bnd M.R29, ↓bnd M.R30, ↓bnd M.R37, ↓bnd M.R38, ↓bnd M.R39, M.K53, M.K54, M.K55, M.K56, M.K57, M.K58, M.K59, M.K60, M.K61, M.K62, M.K63, M.K64, M.K65, M.K66, M.K67, M.K68, M.K69, M.K70, M.K71, M.K72, M.N53, M.N54, M.N55, M.N56, M.N57, M.N58, M.N59, M.N60, M.N61, M.N62, M.N63, M.N64, M.N65, M.N66, M.N67, M.N68, M.N69, M.N70, M.N71, M.N72, ↓reduceIte, ↓Option.bind_some, if_true, if_false, true_and, and_true, and_self, true_or, or_true, false_or, or_false, not_true_eq_false, not_false_eq_true, Option.bind_some, somene, false_and, and_false, reduceCtorEq, Nat.reduceEqDiff, q_le_t, l0, l1, q_in, q_cl, s1, hq]
  · intro p q hpn
    show k_M_chanceAt_4 d (some 52) (nI m) q _ h = _
    rw [e_M_chanceAt_4]
    simp (disch := omega) only [M.K52, M.R0, M.R3, M.R4, M.R5, M.R6, M.R7, M.R15, M.R17, M.R19, M.R20, M.R22, M.R24, M.R26, M.R27, M.R28, M.R29, M.R30, M.R37, M.R38, M.R39, ↓bnd M.R0, ↓bnd M.R3, ↓bnd M.R4, ↓bnd M.R5, ↓bnd M.R6, ↓bnd M.R7, ↓bnd M.R15, ↓bnd M.R17, ↓bnd M.R19, ↓bnd M.R20, ↓bnd M.R22, ↓bnd M.R24, ↓bnd M.R26, ↓bnd M.R27, ↓bnd M.R28, ↓bnd M.R29, ↓bnd M.R30, ↓bnd M.R37, ↓bnd M.R38, ↓bnd M.R39, M.K53, M.K54, M.K55, M.K56, M.K57, M.K58, M.K59, M.K60, M.K61, M.K62, M.K63, M.K64, M.K65, M.K66, M.K67, M.K68, M.K69, M.K70, M.K71, M.K72, M.N53, M.N54, M.N55, M.N56, M.N57, M.N58, M.N59, M.N60, M.N61, M.N62, M.N63, M.N64, M.N65, M.N66, M.N67, M.N68, M.N69, M.N70, M.N71, M.N72, ↓reduceIte, ↓Option.bind_some, if_true, if_false, true_and, and_true, and_self, true_or, or_true, false_or, or_false, not_true_eq_false, not_false_eq_true, Option.bind_some, somene, false_and, and_false, reduceCtorEq, Nat.reduceEqDiff, q_le_f, l0, l1, q_in, q_cl, s1]
  · intro p q hpn
    show k_M_chanceAt_17 d (some 52) (nI m) q _ _ h = _
    rw [e_M_chanceAt_17]
    simp (disch := omega) only [↓reduceIte, ↓Option.bind_some, if_true, if_false, true_and, and_true, and_self, true_or, or_true, false_or, or_false, not_true_eq_false, not_false_eq_true, Option.bind_some, somene, false_and, and_false, reduceCtorEq, Nat.reduceEqDiff, q_lt_t, l4, l1, nI_add]
  · intro p k q hpn h1 h4
    show k_M_chanceAt_17 d (some 52) (nI m) q _ _ h = _
    have hs := sB_lt w.1 hpn k
    have hlt := an_le m (sB (dA D) p k)
    have hlt2 : aS (dA D) m (p, k) ≤ an m (sB (dA D) p k) := aS_le (dA D) m (p, k)
    have e100 : (nI 100 = nI 0) = False := eq_false (by decide)
    rw [e_M_chanceAt_17]
    cases hc : cB (dA D) m p k (dH D) (dE D)
    · simp (disch := omega) only [M.K52, M.R0, M.R3, M.R4, M.R5, M.R6, M.R7, M.R15, M.R17, M.R19, M.R20, M.R22, M.R24, M.R26, M.R27, M.R28, M.R29, M.R30, M.R37, M.R38, M.R39, ↓bnd M.R0, ↓bnd M.R3, ↓bnd M.R4, ↓bnd M.R5, ↓bnd M.R6, ↓bnd M.R7, ↓bnd M.R15, ↓bnd M.R17, ↓bnd M.R19, ↓bnd M.R20, ↓bnd M.R22, ↓bnd M.R24, ↓bnd M.R26, ↓bnd M.R27, ↓bnd M.R28, ↓bnd M.R29, ↓bnd M.R30, ↓bnd M.R37, ↓bnd M.R38, ↓bnd M.R39, M.K53, M.K54, M.K55, M.K56, M.K57, M.K58, M.K59, M.K60, M.K61, M.K62, M.K63, M.K64, M.K65, M.K66, M.K67, M.K68, M.K69, M.K70, M.K71, M.K72, M.N53, M.N54, M.N55, M.N56, M.N57, M.N58, M.N59, M.N60, M.N61, M.N62, M.N63, M.N64, M.N65, M.N66, M.N67, M.N68, M.N69, M.N70, M.N71, M.N72, ↓reduceIte, ↓Option.bind_some, if_true, if_false, true_and, and_true, and_self, true_or, or_true, false_or, or_false, not_true_eq_false, not_false_eq_true, Option.bind_some, somene, false_and, and_false, reduceCtorEq, Nat.reduceEqDiff, q_lt_f, l4, l1, l0, lm1, nI_add, ↓bnd (M_canBeNow_ok d M w S hm4 hpn h1 h4), hc, q_bi0, Bool.false_eq_true]
    · obtain ⟨_, c2, c3⟩ := cB_sub hc
      have hl := an_sub hm4 c2 c3
      have ht := T _ hl
      have ht2 := T _ (Nat.lt_of_le_of_lt hlt2 hl)
      have st := M_strayed_ok (d := d) w M S hm4 hpn h1 h4 c2
      have st : c_M_strayed d (some 52) (nI (an m (sB (dA D) p k))) (nI p) (nI k) h = some (h, nI (aS (dA D) m (p, k))) := st
      simp (disch := omega) only [M.K52, M.R0, M.R3, M.R4, M.R5, M.R6, M.R7, M.R15, M.R17, M.R19, M.R20, M.R22, M.R24, M.R26, M.R27, M.R28, M.R29, M.R30, M.R37, M.R38, M.R39, ↓bnd M.R0, ↓bnd M.R3, ↓bnd M.R4, ↓bnd M.R5, ↓bnd M.R6, ↓bnd M.R7, ↓bnd M.R15, ↓bnd M.R17, ↓bnd M.R19, ↓bnd M.R20, ↓bnd M.R22, ↓bnd M.R24, ↓bnd M.R26, ↓bnd M.R27, ↓bnd M.R28, ↓bnd M.R29, ↓bnd M.R30, ↓bnd M.R37, ↓bnd M.R38, ↓bnd M.R39, M.K53, M.K54, M.K55, M.K56, M.K57, M.K58, M.K59, M.K60, M.K61, M.K62, M.K63, M.K64, M.K65, M.K66, M.K67, M.K68, M.K69, M.K70, M.K71, M.K72, M.N53, M.N54, M.N55, M.N56, M.N57, M.N58, M.N59, M.N60, M.N61, M.N62, M.N63, M.N64, M.N65, M.N66, M.N67, M.N68, M.N69, M.N70, M.N71, M.N72, ↓reduceIte, ↓Option.bind_some, if_true, if_false, true_and, and_true, and_self, true_or, or_true, false_or, or_false, not_true_eq_false, not_false_eq_true, Option.bind_some, somene, false_and, and_false, reduceCtorEq, Nat.reduceEqDiff, q_lt_f, l4, l1, l0, l6, l100, l10000, e100, lm1, nI_add, ↓bnd (M_canBeNow_ok d M w S hm4 hpn h1 h4), ↓bnd (M_strokeBits_ok (b := 52) d M w.1 S.1 hpn h4), hc, q_bi0, q_nan, q_in, q_cl, Bool.true_eq_false, s6, st, ht, ht2]
      unfold chG
      show (if chV D m (chT D) (p, k) ≤ q then k_M_chanceAt_17 d (some 52) (nI m) q (nI p) (nI (k + 1)) h else k_M_chanceAt_17 d (some 52) (nI m) (chV D m (chT D) (p, k)) (nI p) (nI (k + 1)) h) = _
      by_cases hq : q < chV D m (chT D) (p, k)
      · rw [if_pos hq, if_neg (Int32.not_le.mpr hq)]
      · rw [if_neg hq, if_pos (Int32.not_lt.mp hq)]
theorem M_chance_all (w : dW D) (I : MI D st h) (hst : st < 2 ^ aN (dA D)) : ∃ h', k_M_chance_11 d (some 52) (nI 0) h = some (h', chT D st) ∧ Iq P68 h h' := by
  have hp := pow12 w.1.1
  obtain ⟨h', e1, e2, e3, e4⟩ := gfill (P := P68) (K := fun m h => k_M_chance_11 d (some 52) (nI m) h) (N := st + 1) (fun m h => wI h 68 m (chT D m)) (TB 68 (chT D)) (MI D st) (fun h h' Q I => I.iq P68_M Q) (fun m h hm I T => ⟨by
    obtain ⟨M, S, s8⟩ := id I
    show k_M_chance_11 d (some 52) (nI m) h = _
    rw [e_M_chance_11]
    simp (disch := omega) only [M.K52, M.R0, M.R3, M.R4, M.R5, M.R6, M.R7, M.R15, M.R17, M.R19, M.R20, M.R22, M.R24, M.R26, M.R27, M.R28, M.R29, M.R30, M.R37, M.R38, M.R39, ↓bnd M.R0, ↓bnd M.R3, ↓bnd M.R4, ↓bnd M.R5, ↓bnd M.R6, ↓bnd M.R7, ↓bnd M.R15, ↓bnd M.R17, ↓bnd M.R19, ↓bnd M.R20, ↓bnd M.R22, ↓bnd M.R24, ↓bnd M.R26, ↓bnd M.R27, ↓bnd M.R28, ↓bnd M.R29, ↓bnd M.R30, ↓bnd M.R37, ↓bnd M.R38, ↓bnd M.R39, M.K53, M.K54, M.K55, M.K56, M.K57, M.K58, M.K59, M.K60, M.K61, M.K62, M.K63, M.K64, M.K65, M.K66, M.K67, M.K68, M.K69, M.K70, M.K71, M.K72, M.N53, M.N54, M.N55, M.N56, M.N57, M.N58, M.N59, M.N60, M.N61, M.N62, M.N63, M.N64, M.N65, M.N66, M.N67, M.N68, M.N69, M.N70, M.N71, M.N72, ↓reduceIte, ↓Option.bind_some, if_true, if_false, true_and, and_true, and_self, true_or, or_true, false_or, or_false, not_true_eq_false, not_false_eq_true, Option.bind_some, somene, false_and, and_false, reduceCtorEq, Nat.reduceEqDiff, q_lt_f, l8, l1, s8, q_in, q_cl, nI_add, M_chanceAt_ok w I (show m < 2 ^ aN (dA D) by omega) T], Iq.w h _ rfl, T.s rfl⟩) (st + 1) 0 h (by omega) I (fun j hj => absurd hj (by omega))
  obtain ⟨M, S, s8⟩ := e3
  refine ⟨h', e1.trans ?_, e2⟩
  rw [e_M_chance_11]
  have e5 := e4 st (by omega)
  simp (disch := omega) only [M.K52, M.R0, M.R3, M.R4, M.R5, M.R6, M.R7, M.R15, M.R17, M.R19, M.R20, M.R22, M.R24, M.R26, M.R27, M.R28, M.R29, M.R30, M.R37, M.R38, M.R39, ↓bnd M.R0, ↓bnd M.R3, ↓bnd M.R4, ↓bnd M.R5, ↓bnd M.R6, ↓bnd M.R7, ↓bnd M.R15, ↓bnd M.R17, ↓bnd M.R19, ↓bnd M.R20, ↓bnd M.R22, ↓bnd M.R24, ↓bnd M.R26, ↓bnd M.R27, ↓bnd M.R28, ↓bnd M.R29, ↓bnd M.R30, ↓bnd M.R37, ↓bnd M.R38, ↓bnd M.R39, M.K53, M.K54, M.K55, M.K56, M.K57, M.K58, M.K59, M.K60, M.K61, M.K62, M.K63, M.K64, M.K65, M.K66, M.K67, M.K68, M.K69, M.K70, M.K71, M.K72, M.N53, M.N54, M.N55, M.N56, M.N57, M.N58, M.N59, M.N60, M.N61, M.N62, M.N63, M.N64, M.N65, M.N66, M.N67, M.N68, M.N69, M.N70, M.N71, M.N72, ↓reduceIte, ↓Option.bind_some, if_true, if_false, true_and, and_true, and_self, true_or, or_true, false_or, or_false, not_true_eq_false, not_false_eq_true, Option.bind_some, somene, false_and, and_false, reduceCtorEq, Nat.reduceEqDiff, q_lt_t, l8, s8, q_in, q_cl, e5]
end SkChance
