/-! ===== how long it lasts: the class's table, the reference's ===== -/
def P44 (a i : Nat) : Bool := a == 44 || (a == 32 && i == 10)
theorem P44_C : ∀ a i, pC a i = false → P44 a i = false := fun a i h => pC_of (by decide) (by decide) (by decide) (by decide) h
/-- one step of the class -/
def lnG (D : DD) (m : Nat) (u : Nat → Nat) (o : Option Nat) (x : Nat × Nat) : Option Nat := if wD D m = true then (if wD D (aT (dA D) m x) = true then o else omn o (u (aT (dA D) m x) + 1)) else omx o (u (aT (dA D) m x) + 1)
theorem lnG_all (D : DD) (m : Nat) (u : Nat → Nat) : (aL (dA D) (dH D) (dE D) m).foldl (lnG D m u) none = if wD D m = true then lnW D m u else lnA D m u := by
  unfold lnW lnA
  by_cases hw : wD D m = true
  · rw [if_pos hw, foldl_filter']
    refine foldl_cg (fun o x _ => ?_) none
    unfold lnG
    rw [if_pos hw]
    cases wD D (aT (dA D) m x) <;> rfl
  · rw [if_neg hw]
    refine foldl_cg (fun o x _ => ?_) none
    unfold lnG
    rw [if_neg hw]
theorem oI_m1 {o : Option Nat} (ho : ∀ b, o = some b → b ≤ 4096) : (oI o = nM) = (o = none) := by
  cases o with
  | none => exact (eq_true rfl).trans (eq_true rfl).symm
  | some b =>
    have := ho b rfl
    exact (q_m1 (by omega)).trans (eq_false (by intro q; cases q)).symm
def lnR (D : DD) (m : Nat) (u : Nat → Nat) (r : Option Nat × Nat) (x : Nat × Nat) : Option Nat × Nat := (if wD D (aT (dA D) m x) = true then r.1 else omn r.1 (u (aT (dA D) m x) + 1), if r.2 < u (aT (dA D) m x) + 1 then u (aT (dA D) m x) + 1 else r.2)
theorem lnR_all (D : DD) (m : Nat) (u : Nat → Nat) : (aL (dA D) (dH D) (dE D) m).foldl (lnR D m u) (none, 0) = (lnW D m u, (lnA D m u).getD 0) := by
  have h1 := fold2 (l := aL (dA D) (dH D) (dE D) m) (fun o x => if wD D (aT (dA D) m x) = true then o else omn o (u (aT (dA D) m x) + 1)) (fun b x => if b < u (aT (dA D) m x) + 1 then u (aT (dA D) m x) + 1 else b) none 0
  have h2 := mx_omx (aL (dA D) (dH D) (dE D) m) (fun x => u (aT (dA D) m x) + 1)
  refine h1.trans ?_
  rw [h2]
  unfold lnW lnA
  rw [foldl_filter', foldl_cg (g := fun o x => if wD D (aT (dA D) m x) = true then o else omn o (u (aT (dA D) m x) + 1)) (k := fun o x => if (!wD D (aT (dA D) m x)) = true then omn o (u (aT (dA D) m x) + 1) else o) (fun o x _ => by cases wD D (aT (dA D) m x) <;> rfl)]
section SkLasts
variable {F : Nat → Prop} {h : sk_H} {a m st : Nat} {D : DD} {c : Nat → Nat} {d : Nat}
theorem Ta_ln_m (hF : Far F) (w : dW D) (I : CI F D a c h) (X : TFl h D) (hm : m < 2 ^ aN (dA D)) (T : TB 44 (fun j => nI (lnT D j)) m h) : k_Ta_fillLengths_2 d (some 32) (nI m) h = k_Ta_fillLengths_2 d (some 32) (nI (m + 1)) (wI h 44 m (nI (lnT D m))) := by
  obtain ⟨C, O, r, e, ow⟩ := I
  have hp := pow12 w.1.1
  have hm4 := p12 w.1 hm
  have hS := O.S
  have hlen := AS_len _ _ hS
  rw [Nat.zero_add] at hlen
  have hll := sH_len w.1 (dH D)
  have hk := O.kS
  have ra := O.r (j := 14) (by omega) (by omega)
  have ka := O.k
  have hcw := Ta_cw_f (d := d) C w ow X hm
  have key := cfoldI (cnd := cO (dA D) m (dE D)) (g := lnG D m (lnT D)) (fun o => ∀ b, o = some b → b ≤ 4096) (fun i (o : Option Nat) => k_Ta_fillLengths_35 d (some 32) (nI m) (bi (wD D m)) (oI o) (some (c 14)) (nI (sH (dA D) (dH D)).length) (nI i) h) (fun o => k_Ta_fillLengths_2 d (some 32) (nI (m + 1)) (wI h 44 m (nI (o.getD 0)))) hlen ?_ ?_ ?_ (sH (dA D) (dH D)) 0 none hS (fun x hx => sH_mem hx) (fun b hb => by cases hb)
  · rw [e_Ta_fillLengths_2]
    have e1 : oI none = nM := rfl
    rw [e1] at key
    simp (disch := omega) only [C.k20, C.k21, C.k22, C.k23, C.k24, C.k25, C.k26, C.k27, C.k28, C.k29, C.k30, C.k31, C.k32, C.k43, C.k44, C.k45, C.k46, C.k47, C.k48, C.k49, C.k50, C.k51, C.n21, C.n22, C.n24, C.n25, C.n26, C.n27, C.n29, C.n30, C.n31, C.n43, C.n44, C.n45, C.n46, C.n47, C.n48, C.n51, C.r20_0, C.r20_2, C.r20_4, C.r20_5, C.r20_6, C.r20_7, C.r20_8, C.r23_5, C.r23_6, C.r23_7, C.r28_0, C.r28_1, C.r28_2, C.r32_3, C.r32_4, C.r32_5, C.r32_6, C.r32_7, C.r32_8, C.r49_0, C.r50_0, ↓bnd C.r20_0, ↓bnd C.r20_2, ↓bnd C.r20_4, ↓bnd C.r20_5, ↓bnd C.r20_6, ↓bnd C.r20_7, ↓bnd C.r20_8, ↓bnd C.r23_5, ↓bnd C.r23_6, ↓bnd C.r23_7, ↓bnd C.r28_0, ↓bnd C.r28_1, ↓bnd C.r28_2, ↓bnd C.r32_3, ↓bnd C.r32_4, ↓bnd C.r32_5, ↓bnd C.r32_6, ↓bnd C.r32_7, ↓bnd C.r32_8, ↓bnd C.r49_0, ↓bnd C.r50_0, ↓reduceIte, ↓Option.bind_some, if_true, if_false, true_and, and_true, and_self, true_or, or_true, false_or, or_false, not_true_eq_false, not_false_eq_true, Option.bind_some, somene, false_and, and_false, reduceCtorEq, Nat.reduceEqDiff, aa101, aa102, aa103, aa104, aa105, aa106, aa107, aa108, aa201, aa202, aa204, ar106, ar107, ar108, ofn, e, r, q_le_f, l0, l1, lm1, ra, ka, hk, hlen, hcw]
    refine key.trans ?_
    rw [← aL_sH, lnG_all, lnT_eq D hm4]
    rfl
  · intro x o hx _ ho
    have hl := lnT_le D (aT (dA D) m x) (Nat.lt_of_le_of_lt (an_le _ _) hm4)
    have hl2 : aT (dA D) m x ≤ m := an_le _ _
    unfold lnG
    split
    · split
      · exact ho
      · exact omn_le ho (by omega)
    · exact omx_le ho (by omega)
  · intro o ho
    show k_Ta_fillLengths_35 d (some 32) (nI m) (bi (wD D m)) (oI o) (some (c 14)) _ _ h = _
    rw [e_Ta_fillLengths_35]
    cases o with
    | none =>
      have e1 : oI none = nM := rfl
      simp (disch := omega) only [C.k20, C.k21, C.k22, C.k23, C.k24, C.k25, C.k26, C.k27, C.k28, C.k29, C.k30, C.k31, C.k32, C.k43, C.k44, C.k45, C.k46, C.k47, C.k48, C.k49, C.k50, C.k51, C.n21, C.n22, C.n24, C.n25, C.n26, C.n27, C.n29, C.n30, C.n31, C.n43, C.n44, C.n45, C.n46, C.n47, C.n48, C.n51, C.r20_0, C.r20_2, C.r20_4, C.r20_5, C.r20_6, C.r20_7, C.r20_8, C.r23_5, C.r23_6, C.r23_7, C.r28_0, C.r28_1, C.r28_2, C.r32_3, C.r32_4, C.r32_5, C.r32_6, C.r32_7, C.r32_8, C.r49_0, C.r50_0, ↓bnd C.r20_0, ↓bnd C.r20_2, ↓bnd C.r20_4, ↓bnd C.r20_5, ↓bnd C.r20_6, ↓bnd C.r20_7, ↓bnd C.r20_8, ↓bnd C.r23_5, ↓bnd C.r23_6, ↓bnd C.r23_7, ↓bnd C.r28_0, ↓bnd C.r28_1, ↓bnd C.r28_2, ↓bnd C.r32_3, ↓bnd C.r32_4, ↓bnd C.r32_5, ↓bnd C.r32_6, ↓bnd C.r32_7, ↓bnd C.r32_8, ↓bnd C.r49_0, ↓bnd C.r50_0, ↓reduceIte, ↓Option.bind_some, if_true, if_false, true_and, and_true, and_self, true_or, or_true, false_or, or_false, not_true_eq_false, not_false_eq_true, Option.bind_some, somene, false_and, and_false, reduceCtorEq, Nat.reduceEqDiff, e1, q_mlt0, q_le_t, l0, l1, q_in, q_cl, nI_add, Option.getD_none]
    | some b =>
      have hb := ho b rfl
      have e1 : oI (some b) = nI b := rfl
      simp (disch := omega) only [C.k20, C.k21, C.k22, C.k23, C.k24, C.k25, C.k26, C.k27, C.k28, C.k29, C.k30, C.k31, C.k32, C.k43, C.k44, C.k45, C.k46, C.k47, C.k48, C.k49, C.k50, C.k51, C.n21, C.n22, C.n24, C.n25, C.n26, C.n27, C.n29, C.n30, C.n31, C.n43, C.n44, C.n45, C.n46, C.n47, C.n48, C.n51, C.r20_0, C.r20_2, C.r20_4, C.r20_5, C.r20_6, C.r20_7, C.r20_8, C.r23_5, C.r23_6, C.r23_7, C.r28_0, C.r28_1, C.r28_2, C.r32_3, C.r32_4, C.r32_5, C.r32_6, C.r32_7, C.r32_8, C.r49_0, C.r50_0, ↓bnd C.r20_0, ↓bnd C.r20_2, ↓bnd C.r20_4, ↓bnd C.r20_5, ↓bnd C.r20_6, ↓bnd C.r20_7, ↓bnd C.r20_8, ↓bnd C.r23_5, ↓bnd C.r23_6, ↓bnd C.r23_7, ↓bnd C.r28_0, ↓bnd C.r28_1, ↓bnd C.r28_2, ↓bnd C.r32_3, ↓bnd C.r32_4, ↓bnd C.r32_5, ↓bnd C.r32_6, ↓bnd C.r32_7, ↓bnd C.r32_8, ↓bnd C.r49_0, ↓bnd C.r50_0, ↓reduceIte, ↓Option.bind_some, if_true, if_false, true_and, and_true, and_self, true_or, or_true, false_or, or_false, not_true_eq_false, not_false_eq_true, Option.bind_some, somene, false_and, and_false, reduceCtorEq, Nat.reduceEqDiff, e1, q_lt_f, q_le_t, l0, l1, q_in, q_cl, nI_add, Option.getD_some]
  · intro i x s o hi rs fs os hx ho
    show k_Ta_fillLengths_35 d (some 32) (nI m) (bi (wD D m)) (oI o) (some (c 14)) _ _ h = _
    obtain ⟨x0, x1, x2, x3, x4⟩ := hx
    have hlt := an_le m (sB (dA D) x.1 x.2)
    obtain ⟨o1, _, _, _, o3, _⟩ := id os
    have al := Al_allows_ok d O w os x4 hm4
    have rs' : hR h (c 14) (nI i).toNatClampNeg = some s := by rw [nI_clamp (by omega)]; exact rs
    have al' : c_Al_allows d (hR h 32 0) (nI m) (hR h (c 14) (nI i).toNatClampNeg) h = some (h, bi (cO (dA D) m (dE D) x)) := by rw [r, rs']; exact al
    have wb := Ta_wb_f (d := d) C w ow X hm os
    have hle := lnT_le D (an m (sB (dA D) x.1 x.2)) (by omega)
    rw [e_Ta_fillLengths_35]
    cases hc : cO (dA D) m (dE D) x
    · simp (disch := omega) only [C.k20, C.k21, C.k22, C.k23, C.k24, C.k25, C.k26, C.k27, C.k28, C.k29, C.k30, C.k31, C.k32, C.k43, C.k44, C.k45, C.k46, C.k47, C.k48, C.k49, C.k50, C.k51, C.n21, C.n22, C.n24, C.n25, C.n26, C.n27, C.n29, C.n30, C.n31, C.n43, C.n44, C.n45, C.n46, C.n47, C.n48, C.n51, C.r20_0, C.r20_2, C.r20_4, C.r20_5, C.r20_6, C.r20_7, C.r20_8, C.r23_5, C.r23_6, C.r23_7, C.r28_0, C.r28_1, C.r28_2, C.r32_3, C.r32_4, C.r32_5, C.r32_6, C.r32_7, C.r32_8, C.r49_0, C.r50_0, ↓bnd C.r20_0, ↓bnd C.r20_2, ↓bnd C.r20_4, ↓bnd C.r20_5, ↓bnd C.r20_6, ↓bnd C.r20_7, ↓bnd C.r20_8, ↓bnd C.r23_5, ↓bnd C.r23_6, ↓bnd C.r23_7, ↓bnd C.r28_0, ↓bnd C.r28_1, ↓bnd C.r28_2, ↓bnd C.r32_3, ↓bnd C.r32_4, ↓bnd C.r32_5, ↓bnd C.r32_6, ↓bnd C.r32_7, ↓bnd C.r32_8, ↓bnd C.r49_0, ↓bnd C.r50_0, ↓reduceIte, ↓Option.bind_some, if_true, if_false, true_and, and_true, and_self, true_or, or_true, false_or, or_false, not_true_eq_false, not_false_eq_true, Option.bind_some, somene, false_and, and_false, reduceCtorEq, Nat.reduceEqDiff, aa101, aa102, aa103, aa104, aa105, aa106, aa107, aa108, aa201, aa202, aa204, ar106, ar107, ar108, ofn, r, q_le_f, l0, l1, lm1, ka, hk, hlen, rs, rs', ↓bnd rs', ↓bnd r, ↓bnd al', q_in, q_cl, q_bi0, nI_add, hc, Bool.false_eq_true]
    · have hc2 : m &&& sB (dA D) x.1 x.2 = sB (dA D) x.1 x.2 := by
        unfold cO at hc
        rw [Bool.and_eq_true, decide_eq_true_eq] at hc
        exact hc.1
      have hl := an_sub hm4 x1 hc2
      have ht := T _ hl
      have h123 : ∀ o2 (e : Bool), o2 = some (match o with | none => lnT D (an m (sB (dA D) x.1 x.2)) + 1 | some b => if e = true then lnT D (an m (sB (dA D) x.1 x.2)) + 1 else b) → k_Ta_fillLengths_123 d (some 32) (nI m) (bi (wD D m)) (oI o) (some (c 14)) (nI (sH (dA D) (dH D)).length) (nI i) (nI (lnT D (an m (sB (dA D) x.1 x.2)) + 1)) (bi e) h = k_Ta_fillLengths_35 d (some 32) (nI m) (bi (wD D m)) (oI o2) (some (c 14)) (nI (sH (dA D) (dH D)).length) (nI (i + 1)) h := by
        intro o2 e ho2
        rw [e_Ta_fillLengths_123]
        subst ho2
        cases o with
        | none =>
          have e1 : oI none = nM := rfl
          simp (disch := omega) only [e1, lm1, l1, nI_add, if_true]
          rfl
        | some b =>
          have hb := ho b rfl
          have e1 : oI (some b) = nI b := rfl
          simp (disch := omega) only [e1, lm1, l1, l0, nI_add, q_m1, if_false, q_bi0]
          cases e
          · rw [if_pos rfl]; rfl
          · rw [if_neg (by decide)]; rfl
      have h76 : k_Ta_fillLengths_76 d (some 32) (nI m) (bi (wD D m)) (oI o) (some (c 14)) (nI (sH (dA D) (dH D)).length) (nI i) (some s) h = k_Ta_fillLengths_35 d (some 32) (nI m) (bi (wD D m)) (oI (if wD D m = true then omn o (lnT D (an m (sB (dA D) x.1 x.2)) + 1) else omx o (lnT D (an m (sB (dA D) x.1 x.2)) + 1))) (some (c 14)) (nI (sH (dA D) (dH D)).length) (nI (i + 1)) h := by
        have t0 := fun o2 => h123 o2 false
        have t1 := fun o2 => h123 o2 true
        rw [bi_f] at t0
        rw [bi_t] at t1
        rw [e_Ta_fillLengths_76]
        simp (disch := omega) only [C.k20, C.k21, C.k22, C.k23, C.k24, C.k25, C.k26, C.k27, C.k28, C.k29, C.k30, C.k31, C.k32, C.k43, C.k44, C.k45, C.k46, C.k47, C.k48, C.k49, C.k50, C.k51, C.n21, C.n22, C.n24, C.n25, C.n26, C.n27, C.n29, C.n30, C.n31, C.n43, C.n44, C.n45, C.n46, C.n47, C.n48, C.n51, C.r20_0, C.r20_2, C.r20_4, C.r20_5, C.r20_6, C.r20_7, C.r20_8, C.r23_5, C.r23_6, C.r23_7, C.r28_0, C.r28_1, C.r28_2, C.r32_3, C.r32_4, C.r32_5, C.r32_6, C.r32_7, C.r32_8, C.r49_0, C.r50_0, ↓bnd C.r20_0, ↓bnd C.r20_2, ↓bnd C.r20_4, ↓bnd C.r20_5, ↓bnd C.r20_6, ↓bnd C.r20_7, ↓bnd C.r20_8, ↓bnd C.r23_5, ↓bnd C.r23_6, ↓bnd C.r23_7, ↓bnd C.r28_0, ↓bnd C.r28_1, ↓bnd C.r28_2, ↓bnd C.r32_3, ↓bnd C.r32_4, ↓bnd C.r32_5, ↓bnd C.r32_6, ↓bnd C.r32_7, ↓bnd C.r32_8, ↓bnd C.r49_0, ↓bnd C.r50_0, ↓reduceIte, ↓Option.bind_some, if_true, if_false, true_and, and_true, and_self, true_or, or_true, false_or, or_false, not_true_eq_false, not_false_eq_true, Option.bind_some, somene, false_and, and_false, reduceCtorEq, Nat.reduceEqDiff, l0, l1, lm1, o1, o3, q_in, q_cl, q_nan, q_bi0, ht, nI_add]
        cases o with
        | none =>
          have e1 : oI none = nM := rfl
          simp (disch := omega) only [e1] at t0 t1
          cases hw : wD D m
          · simp (disch := omega) only [e1, q_lem, ↓reduceIte, ↓Option.bind_some, if_true, if_false, true_and, and_true, and_self, true_or, or_true, false_or, or_false, not_true_eq_false, not_false_eq_true, Option.bind_some, somene, false_and, and_false, reduceCtorEq, Nat.reduceEqDiff, Bool.false_eq_true]
            rw [hw] at t1
            exact t1 _ rfl
          · simp (disch := omega) only [e1, q_mle, ↓reduceIte, ↓Option.bind_some, if_true, if_false, true_and, and_true, and_self, true_or, or_true, false_or, or_false, not_true_eq_false, not_false_eq_true, Option.bind_some, somene, false_and, and_false, reduceCtorEq, Nat.reduceEqDiff, Bool.true_eq_false]
            rw [hw] at t0
            exact t0 _ rfl
        | some b =>
          have hb := ho b rfl
          have e1 : oI (some b) = nI b := rfl
          simp (disch := omega) only [e1] at t0 t1
          cases hw : wD D m
          · rw [hw] at t0 t1
            by_cases hq : lnT D (an m (sB (dA D) x.1 x.2)) + 1 ≤ b
            · simp (disch := omega) only [e1, q_le_t, ↓reduceIte, ↓Option.bind_some, if_true, if_false, true_and, and_true, and_self, true_or, or_true, false_or, or_false, not_true_eq_false, not_false_eq_true, Option.bind_some, somene, false_and, and_false, reduceCtorEq, Nat.reduceEqDiff, Bool.false_eq_true]
              refine t0 _ ?_
              unfold omx
              show some (if b < _ then _ else b) = some (if false = true then _ else b)
              rw [if_neg (by omega), if_neg (by decide)]
            · simp (disch := omega) only [e1, q_le_f, ↓reduceIte, ↓Option.bind_some, if_true, if_false, true_and, and_true, and_self, true_or, or_true, false_or, or_false, not_true_eq_false, not_false_eq_true, Option.bind_some, somene, false_and, and_false, reduceCtorEq, Nat.reduceEqDiff, Bool.false_eq_true]
              refine t1 _ ?_
              unfold omx
              show some (if b < _ then _ else b) = some (if true = true then _ else b)
              rw [if_pos (by omega), if_pos rfl]
          · rw [hw] at t0 t1
            by_cases hq : b ≤ lnT D (an m (sB (dA D) x.1 x.2)) + 1
            · simp (disch := omega) only [e1, q_le_t, ↓reduceIte, ↓Option.bind_some, if_true, if_false, true_and, and_true, and_self, true_or, or_true, false_or, or_false, not_true_eq_false, not_false_eq_true, Option.bind_some, somene, false_and, and_false, reduceCtorEq, Nat.reduceEqDiff, Bool.true_eq_false]
              refine t0 _ ?_
              unfold omn
              show some (if _ < b then _ else b) = some (if false = true then _ else b)
              rw [if_neg (by omega), if_neg (by decide)]
            · simp (disch := omega) only [e1, q_le_f, ↓reduceIte, ↓Option.bind_some, if_true, if_false, true_and, and_true, and_self, true_or, or_true, false_or, or_false, not_true_eq_false, not_false_eq_true, Option.bind_some, somene, false_and, and_false, reduceCtorEq, Nat.reduceEqDiff, Bool.true_eq_false]
              refine t1 _ ?_
              unfold omn
              show some (if _ < b then _ else b) = some (if true = true then _ else b)
              rw [if_pos (by omega), if_pos rfl]
      simp (disch := omega) only [C.k20, C.k21, C.k22, C.k23, C.k24, C.k25, C.k26, C.k27, C.k28, C.k29, C.k30, C.k31, C.k32, C.k43, C.k44, C.k45, C.k46, C.k47, C.k48, C.k49, C.k50, C.k51, C.n21, C.n22, C.n24, C.n25, C.n26, C.n27, C.n29, C.n30, C.n31, C.n43, C.n44, C.n45, C.n46, C.n47, C.n48, C.n51, C.r20_0, C.r20_2, C.r20_4, C.r20_5, C.r20_6, C.r20_7, C.r20_8, C.r23_5, C.r23_6, C.r23_7, C.r28_0, C.r28_1, C.r28_2, C.r32_3, C.r32_4, C.r32_5, C.r32_6, C.r32_7, C.r32_8, C.r49_0, C.r50_0, ↓bnd C.r20_0, ↓bnd C.r20_2, ↓bnd C.r20_4, ↓bnd C.r20_5, ↓bnd C.r20_6, ↓bnd C.r20_7, ↓bnd C.r20_8, ↓bnd C.r23_5, ↓bnd C.r23_6, ↓bnd C.r23_7, ↓bnd C.r28_0, ↓bnd C.r28_1, ↓bnd C.r28_2, ↓bnd C.r32_3, ↓bnd C.r32_4, ↓bnd C.r32_5, ↓bnd C.r32_6, ↓bnd C.r32_7, ↓bnd C.r32_8, ↓bnd C.r49_0, ↓bnd C.r50_0, ↓reduceIte, ↓Option.bind_some, if_true, if_false, true_and, and_true, and_self, true_or, or_true, false_or, or_false, not_true_eq_false, not_false_eq_true, Option.bind_some, somene, false_and, and_false, reduceCtorEq, Nat.reduceEqDiff, aa101, aa102, aa103, aa104, aa105, aa106, aa107, aa108, aa201, aa202, aa204, ar106, ar107, ar108, ofn, r, q_le_f, l0, l1, lm1, ka, hk, hlen, rs, rs', ↓bnd rs', ↓bnd r, ↓bnd al', ↓bnd wb, wb, h76, q_in, q_cl, q_bi0, nI_add, hc, Bool.true_eq_false]
      unfold lnG aT
      cases hw : wD D m
      · simp only [↓reduceIte, ↓Option.bind_some, if_true, if_false, true_and, and_true, and_self, true_or, or_true, false_or, or_false, not_true_eq_false, not_false_eq_true, Option.bind_some, somene, false_and, and_false, reduceCtorEq, Nat.reduceEqDiff, Bool.false_eq_true]
      · cases hw2 : wD D (an m (sB (dA D) x.1 x.2))
        · simp only [↓reduceIte, ↓Option.bind_some, if_true, if_false, true_and, and_true, and_self, true_or, or_true, false_or, or_false, not_true_eq_false, not_false_eq_true, Option.bind_some, somene, false_and, and_false, reduceCtorEq, Nat.reduceEqDiff, Bool.true_eq_false, Bool.false_eq_true, Bool.not_false]
        · simp only [↓reduceIte, ↓Option.bind_some, if_true, if_false, true_and, and_true, and_self, true_or, or_true, false_or, or_false, not_true_eq_false, not_false_eq_true, Option.bind_some, somene, false_and, and_false, reduceCtorEq, Nat.reduceEqDiff, Bool.true_eq_false, Bool.not_true]
theorem TFl.iq {h1 : sk_H} (X : TFl h D) (Q : Iq P44 h h1) : TFl h1 D := ⟨by rw [Q.I (by decide)]; exact X.1, by rw [Q.eJ]; exact X.2⟩
theorem Ta_ln_f (hF : Far F) (w : dW D) (I : CI F D a c h) (X : TFl h D) : ∃ h', c_Ta_fillLengths d (some 32) h = some h' ∧ Iq P44 h h' ∧ hI h' 32 10 = nI 1 ∧ TB 44 (fun j => nI (lnT D j)) (2 ^ aN (dA D)) h' := by
  obtain ⟨h', e1, e2, e3, e4⟩ := gfill (P := P44) (K := fun m h => k_Ta_fillLengths_2 d (some 32) (nI m) h) (N := 2 ^ aN (dA D)) (fun m h => wI h 44 m (nI (lnT D m))) (TB 44 (fun j => nI (lnT D j))) (fun h => CI F D a c h ∧ TFl h D) (fun h h' Q I => ⟨I.1.iq hF P44_C Q, I.2.iq Q⟩) (fun m h hm I T => ⟨Ta_ln_m hF w I.1 I.2 hm T, Iq.w h _ rfl, T.s rfl⟩) (2 ^ aN (dA D)) 0 h (by omega) ⟨I, X⟩ (fun j hj => absurd hj (by omega))
  obtain ⟨⟨C, O, r, e, _⟩, _⟩ := e3
  have hp := pow12 w.1.1
  refine ⟨wI h' 32 10 (nI 1), ?_, e2.trans (Iq.w h' _ rfl), ?_, fun j hj => ?_⟩
  · rw [e_Ta_fillLengths]
    refine e1.trans ?_
    rw [e_Ta_fillLengths_2]
    simp (disch := omega) only [C.k20, C.k21, C.k22, C.k23, C.k24, C.k25, C.k26, C.k27, C.k28, C.k29, C.k30, C.k31, C.k32, C.k43, C.k44, C.k45, C.k46, C.k47, C.k48, C.k49, C.k50, C.k51, C.n21, C.n22, C.n24, C.n25, C.n26, C.n27, C.n29, C.n30, C.n31, C.n43, C.n44, C.n45, C.n46, C.n47, C.n48, C.n51, C.r20_0, C.r20_2, C.r20_4, C.r20_5, C.r20_6, C.r20_7, C.r20_8, C.r23_5, C.r23_6, C.r23_7, C.r28_0, C.r28_1, C.r28_2, C.r32_3, C.r32_4, C.r32_5, C.r32_6, C.r32_7, C.r32_8, C.r49_0, C.r50_0, ↓bnd C.r20_0, ↓bnd C.r20_2, ↓bnd C.r20_4, ↓bnd C.r20_5, ↓bnd C.r20_6, ↓bnd C.r20_7, ↓bnd C.r20_8, ↓bnd C.r23_5, ↓bnd C.r23_6, ↓bnd C.r23_7, ↓bnd C.r28_0, ↓bnd C.r28_1, ↓bnd C.r28_2, ↓bnd C.r32_3, ↓bnd C.r32_4, ↓bnd C.r32_5, ↓bnd C.r32_6, ↓bnd C.r32_7, ↓bnd C.r32_8, ↓bnd C.r49_0, ↓bnd C.r50_0, ↓reduceIte, ↓Option.bind_some, if_true, if_false, true_and, and_true, and_self, true_or, or_true, false_or, or_false, not_true_eq_false, not_false_eq_true, Option.bind_some, somene, false_and, and_false, reduceCtorEq, Nat.reduceEqDiff, e, q_le_t, l0, l1]
  · rw [hI_wI, if_pos ⟨rfl, rfl⟩]
  · rw [hI_wI, if_neg (fun q => by have := q.1; omega)]; exact e4 j hj
/-- whether the table of what is won stood or not -/
theorem Ta_ln_all (hF : Far F) (w : dW D) (I : CI F D a c h) (T : TC h D a) : ∃ h1 h', c_Ta_fillLengths d (some 32) h = some h' ∧ Wq h h1 ∧ TC h1 D a ∧ TFl h1 D ∧ Iq P44 h1 h' ∧ hI h' 32 10 = nI 1 ∧ TB 44 (fun j => nI (lnT D j)) (2 ^ aN (dA D)) h' := by
  obtain ⟨C, O, r, e, ow⟩ := id I
  have hp := pow12 w.1.1
  have hpos : 0 < 2 ^ aN (dA D) := Nat.two_pow_pos _
  obtain ⟨h1, q, t, f, ecw⟩ := Ta_cw_one (d := d) C w hF O T
  have Q := q.cq C
  have C1 := C.cq Q
  have O1 := O.cq hF Q
  have I1 : CI F D a c h1 := ⟨C1, O1, t.1, t.2.2.1, t.2.1⟩
  obtain ⟨h', e1, e2, e3, e4⟩ := Ta_ln_f (d := d) hF w I1 f
  refine ⟨h1, h', ?_, q, t, f, e2, e3, e4⟩
  rw [← e1, e_Ta_fillLengths, e_Ta_fillLengths, e_Ta_fillLengths_2, e_Ta_fillLengths_2]
  have c0 := ecw 0 hpos
  have c1 := Ta_cw_f (d := d) C1 w t.2.1 f hpos
  have e' := t.2.2.1
  simp (disch := omega) only [C.k32, C1.k32, ↓reduceIte, ↓Option.bind_some, if_true, if_false, true_and, and_true, and_self, true_or, or_true, false_or, or_false, not_true_eq_false, not_false_eq_true, Option.bind_some, somene, false_and, and_false, reduceCtorEq, Nat.reduceEqDiff, e, e', q_le_f, l0, c0, c1]
theorem M_lastsAt_ok (w : dW D) (I : MI D st h) (X : ∀ j, j < 2 ^ aN (dA D) → hI h 63 j = bi (wD D j)) (hm : m < 2 ^ aN (dA D)) (T : TB 68 (fun j => nI (lnT D j)) m h) : c_M_lastsAt d (some 52) (nI m) h = some (h, nI (lnT D m)) := by
  obtain ⟨M, S, _⟩ := I
  have hm4 := p12 w.1 hm
  have hp := pow12 w.1.1
  have w1 := w.1.1
  obtain ⟨⟨s1, -⟩, s0, s3, s4, s5, s6⟩ := id S
  have key := dfoldI (n := aN (dA D)) (f := fun p k => cB (dA D) m p k (dH D) (dE D)) (g := lnR D m (lnT D)) (fun r => (∀ b, r.1 = some b → b ≤ 4096) ∧ r.2 ≤ 4096) (fun p (r : Option Nat × Nat) => k_M_lastsAt_7 d (some 52) (nI m) (oI r.1) (nI r.2) (nI p) h) (fun p k r => k_M_lastsAt_21 d (some 52) (nI m) (oI r.1) (nI r.2) (nI p) (nI k) h) (fun r => if oI r.1 ≤ nI 0 then some (h, nI r.2) else some (h, oI r.1)) ?_ ?_ ?_ ?_ ?_ (none, 0) ⟨fun b hb => (by cases hb), by omega⟩
  · rw [e_M_lastsAt, l0, l1, lm1]
    refine key.trans ?_
    rw [show rA (fun p k => cB (dA D) m p k (dH D) (dE D)) (aN (dA D)) 0 1 = aL (dA D) (dH D) (dE D) m from rfl, lnR_all, lnT_eq D hm4]
    obtain ⟨p1, p2⟩ := ln_pure D hm4 (lnT D)
    have hle := lnT_le D m hm4
    rw [lnT_eq D hm4] at hle
    rw [← p1] at hle ⊢
    cases hq : lnW D m (lnT D) with
    | none =>
      have e1 : (oI none ≤ nI 0) = True := eq_true (by decide)
      simp only [e1, if_true]
    | some b =>
      have hb := p2 b hq
      rw [hq] at hle
      have hle : b ≤ m := hle
      show (if nI b ≤ nI 0 then _ else some (h, nI b)) = _
      rw [if_neg (nI_ge (by omega) (by omega))]
  · intro p k r hp1 _ _ _ hr
    have hl := lnT_le D (aT (dA D) m (p, k)) (Nat.lt_of_le_of_lt (an_le _ _) hm4)
    have hl2 : aT (dA D) m (p, k) ≤ m := an_le _ _
    unfold lnR
    refine ⟨?_, ?_⟩
    · dsimp only
      split
      · exact hr.1
      · exact omn_le hr.1 (by omega)
    · dsimp only
      have := hr.2
      split <;> omega
  · intro q hq
    show k_M_lastsAt_7 d (some 52) (nI m) (oI q.1) (nI q.2) _ h = _
    rw [e_M_lastsAt_7]
    simp (disch := omega) only [M.K52, M.R0, M.R3, M.R4, M.R5, M.R6, M.R7, M.R15, M.R17, M.R19, M.R20, M.R22, M.R24, M.R26, M.R27, M.R28, M.R29, M.R30, M.R37, M.R38, M.R39, ↓bnd M.R0, ↓bnd M.R3, ↓bnd M.R4, ↓bnd M.R5, ↓bnd M.R6, ↓bnd M.R7, ↓bnd M.R15, ↓bnd M.R17, ↓bnd M.R19, ↓bnd M.R20, ↓bnd M.R22, ↓bnd M.R24, ↓bnd M.R26, ↓bnd M.R27, ↓bnd M.R28, ↓bnd M.R29, ↓bnd M.R30, ↓bnd M.R37, ↓bnd M.R38, ↓bnd M.R39, M.K53, M.K54, M.K55, M.K56, M.K57, M.K58, M.K59, M.K60, M.K61, M.K62, M.K63, M.K64, M.K65, M.K66, M.K67, M.K68, M.K69, M.K70, M.K71, M.K72, M.N53, M.N54, M.N55, M.N56, M.N57, M.N58, M.N59, M.N60, M.N61, M.N62, M.N63, M.N64, M.N65, M.N66, M.N67, M.N68, M.N69, M.N70, M.N71, M.N72, ↓reduceIte, ↓Option.bind_some, if_true, if_false, true_and, and_true, and_self, true_or, or_true, false_or, or_false, not_true_eq_false, not_false_eq_true, Option.bind_some, somene, false_and, and_false, reduceCtorEq, Nat.reduceEqDiff, q_le_t, l0, l1, q_in, q_cl, s1]
    rfl
  · intro p q hpn _
    show k_M_lastsAt_7 d (some 52) (nI m) (oI q.1) (nI q.2) _ h = _
    rw [e_M_lastsAt_7]
    simp (disch := omega) only [M.K52, M.R0, M.R3, M.R4, M.R5, M.R6, M.R7, M.R15, M.R17, M.R19, M.R20, M.R22, M.R24, M.R26, M.R27, M.R28, M.R29, M.R30, M.R37, M.R38, M.R39, ↓bnd M.R0, ↓bnd M.R3, ↓bnd M.R4, ↓bnd M.R5, ↓bnd M.R6, ↓bnd M.R7, ↓bnd M.R15, ↓bnd M.R17, ↓bnd M.R19, ↓bnd M.R20, ↓bnd M.R22, ↓bnd M.R24, ↓bnd M.R26, ↓bnd M.R27, ↓bnd M.R28, ↓bnd M.R29, ↓bnd M.R30, ↓bnd M.R37, ↓bnd M.R38, ↓bnd M.R39, M.K53, M.K54, M.K55, M.K56, M.K57, M.K58, M.K59, M.K60, M.K61, M.K62, M.K63, M.K64, M.K65, M.K66, M.K67, M.K68, M.K69, M.K70, M.K71, M.K72, M.N53, M.N54, M.N55, M.N56, M.N57, M.N58, M.N59, M.N60, M.N61, M.N62, M.N63, M.N64, M.N65, M.N66, M.N67, M.N68, M.N69, M.N70, M.N71, M.N72, ↓reduceIte, ↓Option.bind_some, if_true, if_false, true_and, and_true, and_self, true_or, or_true, false_or, or_false, not_true_eq_false, not_false_eq_true, Option.bind_some, somene, false_and, and_false, reduceCtorEq, Nat.reduceEqDiff, q_le_f, l0, l1, q_in, q_cl, s1]
  · intro p q hpn _
    show k_M_lastsAt_21 d (some 52) (nI m) (oI q.1) (nI q.2) _ _ h = _
    rw [e_M_lastsAt_21]
    simp (disch := omega) only [↓reduceIte, ↓Option.bind_some, if_true, if_false, true_and, and_true, and_self, true_or, or_true, false_or, or_false, not_true_eq_false, not_false_eq_true, Option.bind_some, somene, false_and, and_false, reduceCtorEq, Nat.reduceEqDiff, q_lt_t, l4, l1, nI_add]
  · intro p k q hpn h1 h4 hq
    show k_M_lastsAt_21 d (some 52) (nI m) (oI q.1) (nI q.2) _ _ h = _
    obtain ⟨hq1, hq2⟩ := hq
    have hs := sB_lt w.1 hpn k
    have hlt := an_le m (sB (dA D) p k)
    rw [e_M_lastsAt_21]
    cases hc : cB (dA D) m p k (dH D) (dE D)
    · simp (disch := omega) only [M.K52, M.R0, M.R3, M.R4, M.R5, M.R6, M.R7, M.R15, M.R17, M.R19, M.R20, M.R22, M.R24, M.R26, M.R27, M.R28, M.R29, M.R30, M.R37, M.R38, M.R39, ↓bnd M.R0, ↓bnd M.R3, ↓bnd M.R4, ↓bnd M.R5, ↓bnd M.R6, ↓bnd M.R7, ↓bnd M.R15, ↓bnd M.R17, ↓bnd M.R19, ↓bnd M.R20, ↓bnd M.R22, ↓bnd M.R24, ↓bnd M.R26, ↓bnd M.R27, ↓bnd M.R28, ↓bnd M.R29, ↓bnd M.R30, ↓bnd M.R37, ↓bnd M.R38, ↓bnd M.R39, M.K53, M.K54, M.K55, M.K56, M.K57, M.K58, M.K59, M.K60, M.K61, M.K62, M.K63, M.K64, M.K65, M.K66, M.K67, M.K68, M.K69, M.K70, M.K71, M.K72, M.N53, M.N54, M.N55, M.N56, M.N57, M.N58, M.N59, M.N60, M.N61, M.N62, M.N63, M.N64, M.N65, M.N66, M.N67, M.N68, M.N69, M.N70, M.N71, M.N72, ↓reduceIte, ↓Option.bind_some, if_true, if_false, true_and, and_true, and_self, true_or, or_true, false_or, or_false, not_true_eq_false, not_false_eq_true, Option.bind_some, somene, false_and, and_false, reduceCtorEq, Nat.reduceEqDiff, q_lt_f, l4, l1, l0, lm1, nI_add, ↓bnd (M_canBeNow_ok d M w S hm4 hpn h1 h4), hc, q_bi0, Bool.false_eq_true]
    · obtain ⟨_, c2, c3⟩ := cB_sub hc
      have hl := an_sub hm4 c2 c3
      have ht := T _ hl
      have hx := X _ (Nat.lt_trans hl hm)
      have hle := lnT_le D (an m (sB (dA D) p k)) (by omega)
      have ea : aT (dA D) m (p, k) = an m (sB (dA D) p k) := rfl
      have h79 : ∀ mo, k_M_lastsAt_79 d (some 52) (nI m) (oI q.1) (nI p) (nI k) (nI (an m (sB (dA D) p k))) (nI (lnT D (an m (sB (dA D) p k)) + 1)) (nI mo) h = k_M_lastsAt_21 d (some 52) (nI m) (oI (lnR D m (lnT D) q (p, k)).1) (nI mo) (nI p) (nI (k + 1)) h := by
        intro mo
        rw [e_M_lastsAt_79]
        simp (disch := omega) only [M.K52, M.R0, M.R3, M.R4, M.R5, M.R6, M.R7, M.R15, M.R17, M.R19, M.R20, M.R22, M.R24, M.R26, M.R27, M.R28, M.R29, M.R30, M.R37, M.R38, M.R39, ↓bnd M.R0, ↓bnd M.R3, ↓bnd M.R4, ↓bnd M.R5, ↓bnd M.R6, ↓bnd M.R7, ↓bnd M.R15, ↓bnd M.R17, ↓bnd M.R19, ↓bnd M.R20, ↓bnd M.R22, ↓bnd M.R24, ↓bnd M.R26, ↓bnd M.R27, ↓bnd M.R28, ↓bnd M.R29, ↓bnd M.R30, ↓bnd M.R37, ↓bnd M.R38, ↓bnd M.R39, M.K53, M.K54, M.K55, M.K56, M.K57, M.K58, M.K59, M.K60, M.K61, M.K62, M.K63, M.K64, M.K65, M.K66, M.K67, M.K68, M.K69, M.K70, M.K71, M.K72, M.N53, M.N54, M.N55, M.N56, M.N57, M.N58, M.N59, M.N60, M.N61, M.N62, M.N63, M.N64, M.N65, M.N66, M.N67, M.N68, M.N69, M.N70, M.N71, M.N72, ↓reduceIte, ↓Option.bind_some, if_true, if_false, true_and, and_true, and_self, true_or, or_true, false_or, or_false, not_true_eq_false, not_false_eq_true, Option.bind_some, somene, false_and, and_false, reduceCtorEq, Nat.reduceEqDiff, l0, l1, q_in, q_cl, hx, q_bi0, nI_add]
        unfold lnR
        rw [ea]
        cases hw : wD D (an m (sB (dA D) p k))
        · simp only [↓reduceIte, ↓Option.bind_some, if_true, if_false, true_and, and_true, and_self, true_or, or_true, false_or, or_false, not_true_eq_false, not_false_eq_true, Option.bind_some, somene, false_and, and_false, reduceCtorEq, Nat.reduceEqDiff, Bool.false_eq_true]
          cases hq3 : q.1 with
          | none =>
            have e1 : oI none = nM := rfl
            simp (disch := omega) only [e1, q_mlt0, if_true]
            rfl
          | some b =>
            have hb := hq1 b hq3
            have e1 : oI (some b) = nI b := rfl
            simp (disch := omega) only [e1, q_lt_f, if_false]
            unfold omn
            show _ = k_M_lastsAt_21 d (some 52) (nI m) (nI (if lnT D (an m (sB (dA D) p k)) + 1 < b then lnT D (an m (sB (dA D) p k)) + 1 else b)) _ _ _ h
            by_cases hbb : b ≤ lnT D (an m (sB (dA D) p k)) + 1
            · rw [if_pos (nI_le hbb (by omega)), if_neg (by omega)]
            · rw [if_neg (nI_ge (by omega) (by omega)), if_pos (by omega)]
        · simp only [↓reduceIte, ↓Option.bind_some, if_true, if_false, true_and, and_true, and_self, true_or, or_true, false_or, or_false, not_true_eq_false, not_false_eq_true, Option.bind_some, somene, false_and, and_false, reduceCtorEq, Nat.reduceEqDiff, Bool.true_eq_false]
      simp (disch := omega) only [M.K52, M.R0, M.R3, M.R4, M.R5, M.R6, M.R7, M.R15, M.R17, M.R19, M.R20, M.R22, M.R24, M.R26, M.R27, M.R28, M.R29, M.R30, M.R37, M.R38, M.R39, ↓bnd M.R0, ↓bnd M.R3, ↓bnd M.R4, ↓bnd M.R5, ↓bnd M.R6, ↓bnd M.R7, ↓bnd M.R15, ↓bnd M.R17, ↓bnd M.R19, ↓bnd M.R20, ↓bnd M.R22, ↓bnd M.R24, ↓bnd M.R26, ↓bnd M.R27, ↓bnd M.R28, ↓bnd M.R29, ↓bnd M.R30, ↓bnd M.R37, ↓bnd M.R38, ↓bnd M.R39, M.K53, M.K54, M.K55, M.K56, M.K57, M.K58, M.K59, M.K60, M.K61, M.K62, M.K63, M.K64, M.K65, M.K66, M.K67, M.K68, M.K69, M.K70, M.K71, M.K72, M.N53, M.N54, M.N55, M.N56, M.N57, M.N58, M.N59, M.N60, M.N61, M.N62, M.N63, M.N64, M.N65, M.N66, M.N67, M.N68, M.N69, M.N70, M.N71, M.N72, ↓reduceIte, ↓Option.bind_some, if_true, if_false, true_and, and_true, and_self, true_or, or_true, false_or, or_false, not_true_eq_false, not_false_eq_true, Option.bind_some, somene, false_and, and_false, reduceCtorEq, Nat.reduceEqDiff, q_lt_f, l4, l1, l0, lm1, nI_add, ↓bnd (M_canBeNow_ok d M w S hm4 hpn h1 h4), ↓bnd (M_strokeBits_ok (b := 52) d M w.1 S.1 hpn h4), hc, q_bi0, q_nan, q_in, q_cl, Bool.true_eq_false, ht, h79, q_le]
      have e2 : (lnR D m (lnT D) q (p, k)).2 = if q.2 < lnT D (an m (sB (dA D) p k)) + 1 then lnT D (an m (sB (dA D) p k)) + 1 else q.2 := rfl
      rw [e2]
      by_cases hbb : q.2 < lnT D (an m (sB (dA D) p k)) + 1
      · rw [if_neg (by omega), if_pos hbb]
      · rw [if_pos (by omega), if_neg hbb]
theorem M_lasts_all (w : dW D) (I : MI D st h) (X : ∀ j, j < 2 ^ aN (dA D) → hI h 63 j = bi (wD D j)) (hst : st < 2 ^ aN (dA D)) : ∃ h', k_M_lasts_15 d (some 52) (nI 0) h = some (h', nI (lnT D st)) ∧ Iq P68 h h' := by
  have hp := pow12 w.1.1
  obtain ⟨h', e1, e2, e3, e4⟩ := gfill (P := P68) (K := fun m h => k_M_lasts_15 d (some 52) (nI m) h) (N := st + 1) (fun m h => wI h 68 m (nI (lnT D m))) (TB 68 (fun j => nI (lnT D j))) (fun h => MI D st h ∧ ∀ j, j < 2 ^ aN (dA D) → hI h 63 j = bi (wD D j)) (fun h h' Q I => ⟨I.1.iq P68_M Q, fun j hj => by rw [Q.I rfl]; exact I.2 j hj⟩) (fun m h hm I T => ⟨by
    obtain ⟨M, S, s8⟩ := id I.1
    show k_M_lasts_15 d (some 52) (nI m) h = _
    rw [e_M_lasts_15]
    simp (disch := omega) only [M.K52, M.R0, M.R3, M.R4, M.R5, M.R6, M.R7, M.R15, M.R17, M.R19, M.R20, M.R22, M.R24, M.R26, M.R27, M.R28, M.R29, M.R30, M.R37, M.R38, M.R39, ↓bnd M.R0, ↓bnd M.R3, ↓bnd M.R4, ↓bnd M.R5, ↓bnd M.R6, ↓bnd M.R7, ↓bnd M.R15, ↓bnd M.R17, ↓bnd M.R19, ↓bnd M.R20, ↓bnd M.R22, ↓bnd M.R24, ↓bnd M.R26, ↓bnd M.R27, ↓bnd M.R28, ↓bnd M.R29, ↓bnd M.R30, ↓bnd M.R37, ↓bnd M.R38, ↓bnd M.R39, M.K53, M.K54, M.K55, M.K56, M.K57, M.K58, M.K59, M.K60, M.K61, M.K62, M.K63, M.K64, M.K65, M.K66, M.K67, M.K68, M.K69, M.K70, M.K71, M.K72, M.N53, M.N54, M.N55, M.N56, M.N57, M.N58, M.N59, M.N60, M.N61, M.N62, M.N63, M.N64, M.N65, M.N66, M.N67, M.N68, M.N69, M.N70, M.N71, M.N72, ↓reduceIte, ↓Option.bind_some, if_true, if_false, true_and, and_true, and_self, true_or, or_true, false_or, or_false, not_true_eq_false, not_false_eq_true, Option.bind_some, somene, false_and, and_false, reduceCtorEq, Nat.reduceEqDiff, q_lt_f, l8, l1, s8, q_in, q_cl, nI_add, M_lastsAt_ok w I.1 I.2 (show m < 2 ^ aN (dA D) by omega) T], Iq.w h _ rfl, T.s rfl⟩) (st + 1) 0 h (by omega) ⟨I, X⟩ (fun j hj => absurd hj (by omega))
  obtain ⟨⟨M, S, s8⟩, _⟩ := e3
  refine ⟨h', e1.trans ?_, e2⟩
  rw [e_M_lasts_15]
  have e5 := e4 st (by omega)
  simp (disch := omega) only [M.K52, M.R0, M.R3, M.R4, M.R5, M.R6, M.R7, M.R15, M.R17, M.R19, M.R20, M.R22, M.R24, M.R26, M.R27, M.R28, M.R29, M.R30, M.R37, M.R38, M.R39, ↓bnd M.R0, ↓bnd M.R3, ↓bnd M.R4, ↓bnd M.R5, ↓bnd M.R6, ↓bnd M.R7, ↓bnd M.R15, ↓bnd M.R17, ↓bnd M.R19, ↓bnd M.R20, ↓bnd M.R22, ↓bnd M.R24, ↓bnd M.R26, ↓bnd M.R27, ↓bnd M.R28, ↓bnd M.R29, ↓bnd M.R30, ↓bnd M.R37, ↓bnd M.R38, ↓bnd M.R39, M.K53, M.K54, M.K55, M.K56, M.K57, M.K58, M.K59, M.K60, M.K61, M.K62, M.K63, M.K64, M.K65, M.K66, M.K67, M.K68, M.K69, M.K70, M.K71, M.K72, M.N53, M.N54, M.N55, M.N56, M.N57, M.N58, M.N59, M.N60, M.N61, M.N62, M.N63, M.N64, M.N65, M.N66, M.N67, M.N68, M.N69, M.N70, M.N71, M.N72, ↓reduceIte, ↓Option.bind_some, if_true, if_false, true_and, and_true, and_self, true_or, or_true, false_or, or_false, not_true_eq_false, not_false_eq_true, Option.bind_some, somene, false_and, and_false, reduceCtorEq, Nat.reduceEqDiff, q_lt_t, l8, s8, q_in, q_cl, e5]
end SkLasts
