/-! ===== the class's tables: what is won ===== -/
/-- only the table of what is won is written, and its flag -/
def Wq (h h' : sk_H) : Prop := h'.1 = h.1 ∧ hR h' = hR h ∧ (∀ a i, ¬ (a = 32 ∧ i = 9) → hI h' a i = hI h a i) ∧ ∀ a, a ≠ 43 → hJ h' a = hJ h a
/-- the table stands -/
def TFl (h : sk_H) (D : DD) : Prop := hI h 32 9 = nI 1 ∧ ∀ m, m < 2 ^ aN (dA D) → ∀ l, l < 60 → b64 (hJ h 43 m) l = wL (dA D) l m
def TC (h : sk_H) (D : DD) (a : Nat) : Prop := hR h 32 0 = some a ∧ hI h 32 1 = nI (owN D) ∧ hI h 32 2 = nI (2 ^ aN (dA D)) ∧ (hI h 32 9 = nI 0 ∨ TFl h D)
section SkTab
variable {F : Nat → Prop} {h h1 h2 h3 : sk_H} {A : AD} {a m s : Nat} {D : DD} {c : Nat → Nat} {d : Nat} {x : Nat × Nat}
theorem Wq.refl (h : sk_H) : Wq h h := ⟨rfl, rfl, fun _ _ _ => rfl, fun _ _ => rfl⟩
theorem Wq.trans (Q : Wq h1 h2) (P : Wq h2 h3) : Wq h1 h3 := ⟨P.1.trans Q.1, P.2.1.trans Q.2.1, fun a i ha => (P.2.2.1 a i ha).trans (Q.2.2.1 a i ha), fun a ha => (P.2.2.2 a ha).trans (Q.2.2.2 a ha)⟩
theorem Wq.cq (Q : Wq h h1) (C : CS h) : Cq h h1 := ⟨Q.1, fun a _ => by rw [Q.2.1], by rw [Q.2.1], fun a i ha => Q.2.2.1 a i (fun q => by rw [q.1, q.2] at ha; exact absurd ha (by decide)), fun a _ hk => Q.2.2.2 a (fun q => by rw [q, C.k43] at hk; exact hk rfl)⟩
theorem Wq.I (Q : Wq h h1) {a i : Nat} (ha : a ≠ 32) : hI h1 a i = hI h a i := Q.2.2.1 a i (fun q => ha q.1)
theorem Wq.I2 (Q : Wq h h1) {i : Nat} (ha : i ≠ 9) : hI h1 32 i = hI h 32 i := Q.2.2.1 32 i (fun q => ha q.2)
theorem wL_bits (A : AD) {m q : Nat} (hm : m < 4096) : ((sL A).any (fun x => lb A m q x && !wL A q (aT A m x)) || (lgL q && !((sL A).any (lb A m q)))) = wL A q m := by
  have e : wL A q m = wB A (lgH q) (lgE q) (lgL q) m (wL A q) := wA_eq hm
  rw [e]
  unfold wB
  rw [aL_lb, any_filter]
  by_cases hn : (sL A).any (lb A m q) = false
  · have e2 : (sL A).filter (lb A m q) = [] := by rw [filter_nil]; exact hn
    rw [if_pos e2, ← any_filter, e2, hn]
    simp
  · have e2 : ¬ (sL A).filter (lb A m q) = [] := by rw [filter_nil]; exact hn
    rw [if_neg e2, Bool.of_not_eq_false hn]
    simp
theorem rl_len (f : Nat → Nat → Bool) : ∀ c p k, (rl f c p k).length ≤ c
  | 0, _, _ => Nat.le_refl 0
  | c + 1, p, k => by
    have e : (if k < 4 then rl f c p (k + 1) else rl f c (p + 1) 1).length ≤ c := by
      by_cases hk : k < 4
      · rw [if_pos hk]; exact rl_len f c p (k + 1)
      · rw [if_neg hk]; exact rl_len f c (p + 1) 1
    unfold rl
    by_cases hf : f p k = true
    · rw [if_pos hf, List.length_cons]; omega
    · rw [if_neg hf]; omega
theorem rA_len (f : Nat → Nat → Bool) {n : Nat} (hn : n ≤ 12) : (rA f n 0 1).length ≤ 48 := by
  unfold rA
  rw [if_pos (by omega)]
  have := rl_len f (4 * (n - 0) + 1 - 1) 0 1
  omega
theorem sL_len (w : aW A) : (sL A).length ≤ 48 := rA_len _ w.1
theorem sH_len (w : aW A) (H : Nat) : (sH A H).length ≤ 48 := rA_len _ w.1
theorem aL_len (w : aW A) (H : Nat) (E : Bool) (m : Nat) : (aL A H E m).length ≤ 48 := rA_len _ w.1
theorem Ta_fw_all (hF : Far F) (w : dW D) : ∀ (n m : Nat) (h : sk_H), m + n = 2 ^ aN (dA D) → CS h → AOc F h a D c → hR h 32 0 = some a → hI h 32 2 = nI (2 ^ aN (dA D)) → (∀ j, j < m → ∀ l, l < 60 → b64 (hJ h 43 j) l = wL (dA D) l j) → ∃ h', k_Ta_fillWinning_2 d (some 32) (nI m) h = some h' ∧ Wq h h' ∧ TFl h' D
  | 0, m, h, hm, C, O, r, e, T => by
    have hp := pow12 w.1.1
    refine ⟨wI h 32 9 (nI 1), ?_, ⟨rfl, rfl, fun b i hb => by rw [hI_wI, if_neg hb], fun _ _ => rfl⟩, ?_, fun j hj l hl => T j (by omega) l hl⟩
    · rw [e_Ta_fillWinning_2]
      simp (disch := omega) only [C.k20, C.k21, C.k22, C.k23, C.k24, C.k25, C.k26, C.k27, C.k28, C.k29, C.k30, C.k31, C.k32, C.k43, C.k44, C.k45, C.k46, C.k47, C.k48, C.k49, C.k50, C.k51, C.n21, C.n22, C.n24, C.n25, C.n26, C.n27, C.n29, C.n30, C.n31, C.n43, C.n44, C.n45, C.n46, C.n47, C.n48, C.n51, C.r20_0, C.r20_2, C.r20_4, C.r20_5, C.r20_6, C.r20_7, C.r20_8, C.r23_5, C.r23_6, C.r23_7, C.r28_0, C.r28_1, C.r28_2, C.r32_3, C.r32_4, C.r32_5, C.r32_6, C.r32_7, C.r32_8, C.r49_0, C.r50_0, if_true, if_false, true_and, and_true, and_self, true_or, or_true, false_or, or_false, not_true_eq_false, not_false_eq_true, Option.bind_some, somene, false_and, and_false, reduceCtorEq, Nat.reduceEqDiff, e, q_le_t, l0, l1]
    · rw [hI_wI, if_pos ⟨rfl, rfl⟩]
  | n + 1, m, h, hm, C, O, r, e, T => by
    have hp := pow12 w.1.1
    have hm4 : m < 4096 := by omega
    have hk := O.kA
    have hS := O.SA
    have hlen := AS_len _ _ hS
    rw [Nat.zero_add] at hlen
    have hl2 : (sL (dA D)).length < 2 ^ 31 := by
      have := sL_len w.1
      omega
    obtain ⟨v, e1, e2⟩ := Ta_fw_in (d := d) C w.1 hk hlen (by omega) hm4 T (sL (dA D)) 0 0 0 hS (fun x hx => sL_mem hx)
    have Q : Wq h (wJ h 43 m v) := ⟨rfl, rfl, fun _ _ _ => rfl, fun b hb => by funext j; rw [hJ_wJ, if_neg (fun q => hb q.1)]⟩
    obtain ⟨h', f1, f2, f3⟩ := Ta_fw_all hF w n (m + 1) (wJ h 43 m v) (by omega) (C.wJ 43 m v) (O.cq hF (Q.cq C)) r e (fun j hj l hl => by
      rw [hJ_wJ]
      by_cases hq : j = m
      · rw [if_pos ⟨rfl, hq⟩, e2 l hl, b64_0, Bool.false_or, Bool.false_or, hq]
        exact wL_bits (dA D) hm4
      · rw [if_neg (fun q => hq q.2)]
        exact T j (by omega) l hl)
    refine ⟨h', ?_, Q.trans f2, f3⟩
    rw [e_Ta_fillWinning_2]
    have ra := O.r (j := 15) (by omega) (by omega)
    have ka := O.k
    simp (disch := omega) only [C.k20, C.k21, C.k22, C.k23, C.k24, C.k25, C.k26, C.k27, C.k28, C.k29, C.k30, C.k31, C.k32, C.k43, C.k44, C.k45, C.k46, C.k47, C.k48, C.k49, C.k50, C.k51, C.n21, C.n22, C.n24, C.n25, C.n26, C.n27, C.n29, C.n30, C.n31, C.n43, C.n44, C.n45, C.n46, C.n47, C.n48, C.n51, C.r20_0, C.r20_2, C.r20_4, C.r20_5, C.r20_6, C.r20_7, C.r20_8, C.r23_5, C.r23_6, C.r23_7, C.r28_0, C.r28_1, C.r28_2, C.r32_3, C.r32_4, C.r32_5, C.r32_6, C.r32_7, C.r32_8, C.r49_0, C.r50_0, if_true, if_false, true_and, and_true, and_self, true_or, or_true, false_or, or_false, not_true_eq_false, not_false_eq_true, Option.bind_some, somene, false_and, and_false, reduceCtorEq, Nat.reduceEqDiff, aa101, aa102, aa103, aa104, aa105, aa106, aa107, aa108, aa201, aa202, aa204, ar106, ar107, ar108, ofn, e, r, q_le_f, l0, ra, ka, hk, hlen, e1, f1]
theorem TC.wq (T : TC h D a) (Q : Wq h h1) (hT : TFl h1 D) : TC h1 D a := ⟨by rw [Q.2.1]; exact T.1, by rw [Q.I2 (by decide)]; exact T.2.1, by rw [Q.I2 (by decide)]; exact T.2.2.1, Or.inr hT⟩
theorem Ta_cw_f (C : CS h) (w : dW D) (ho : hI h 32 1 = nI (owN D)) (T : TFl h D) (hm : m < 2 ^ aN (dA D)) : c_Ta_canWin d (some 32) (nI m) h = some (h, bi (wD D m)) := by
  have hp := pow12 w.1.1
  have hw := ow_lt w
  rw [e_Ta_canWin, e_Ta_canWin_11]
  have e5 := T.2 m hm (owN D) hw
  rw [wL_ow w] at e5
  simp (disch := omega) only [C.k20, C.k21, C.k22, C.k23, C.k24, C.k25, C.k26, C.k27, C.k28, C.k29, C.k30, C.k31, C.k32, C.k43, C.k44, C.k45, C.k46, C.k47, C.k48, C.k49, C.k50, C.k51, C.n21, C.n22, C.n24, C.n25, C.n26, C.n27, C.n29, C.n30, C.n31, C.n43, C.n44, C.n45, C.n46, C.n47, C.n48, C.n51, C.r20_0, C.r20_2, C.r20_4, C.r20_5, C.r20_6, C.r20_7, C.r20_8, C.r23_5, C.r23_6, C.r23_7, C.r28_0, C.r28_1, C.r28_2, C.r32_3, C.r32_4, C.r32_5, C.r32_6, C.r32_7, C.r32_8, C.r49_0, C.r50_0, if_true, if_false, true_and, and_true, and_self, true_or, or_true, false_or, or_false, not_true_eq_false, not_false_eq_true, Option.bind_some, somene, false_and, and_false, reduceCtorEq, Nat.reduceEqDiff, T.1, l0, l1, q_eq_f, q_in, q_cl, ho, cmp_bit, e5]
  cases wD D m <;> rfl
theorem Ta_fill_ok (C : CS h) (w : dW D) (hF : Far F) (O : AOc F h a D c) (T : TC h D a) : ∃ h', c_Ta_fillWinning d (some 32) h = some h' ∧ Wq h h' ∧ TFl h' D := by
  rw [e_Ta_fillWinning]
  exact Ta_fw_all hF w (2 ^ aN (dA D)) 0 h (by omega) C O T.1 T.2.2.1 (fun j hj => absurd hj (by omega))
/-- one call, whether the table stands or not: as over a memory where it stands -/
theorem Ta_cw_one (C : CS h) (w : dW D) (hF : Far F) (O : AOc F h a D c) (T : TC h D a) : ∃ h', Wq h h' ∧ TC h' D a ∧ TFl h' D ∧ ∀ m, m < 2 ^ aN (dA D) → c_Ta_canWin d (some 32) (nI m) h = some (h', bi (wD D m)) := by
  rcases id T.2.2.2 with T0 | T1
  · obtain ⟨h', f1, f2, f3⟩ := Ta_fill_ok (d := d) C w hF O T
    have T' := T.wq f2 f3
    refine ⟨h', f2, T', f3, fun m hm => ?_⟩
    have C' := C.cq (f2.cq C)
    have e1 := Ta_cw_f (d := d) C' w T'.2.1 f3 hm
    rw [e_Ta_canWin] at e1 ⊢
    have f9 := f3.1
    simp (disch := omega) only [C'.k32, if_true, if_false, true_and, and_true, and_self, true_or, or_true, false_or, or_false, not_true_eq_false, not_false_eq_true, Option.bind_some, somene, false_and, and_false, reduceCtorEq, Nat.reduceEqDiff, f9, l0, q_eq_f] at e1
    simp (disch := omega) only [C.k32, if_true, if_false, true_and, and_true, and_self, true_or, or_true, false_or, or_false, not_true_eq_false, not_false_eq_true, Option.bind_some, somene, false_and, and_false, reduceCtorEq, Nat.reduceEqDiff, T0, l0, f1, e1]
  · exact ⟨h, Wq.refl h, T, T1, fun m hm => Ta_cw_f C w T.2.1 T1 hm⟩
theorem Ta_canWin_ok (C : CS h) (w : dW D) (hF : Far F) (O : AOc F h a D c) (T : TC h D a) (hm : m < 2 ^ aN (dA D)) : ∃ h', c_Ta_canWin d (some 32) (nI m) h = some (h', bi (wD D m)) ∧ Wq h h' ∧ TC h' D a ∧ TFl h' D := by
  obtain ⟨h', q, t, f, e⟩ := Ta_cw_one (d := d) C w hF O T
  exact ⟨h', e m hm, q, t, f⟩
theorem Ta_wb_f (C : CS h) (w : dW D) (ho : hI h 32 1 = nI (owN D)) (T : TFl h D) (hm : m < 2 ^ aN (dA D)) (o : SO h (dA D) s x) : c_Ta_winsBy d (some 32) (nI m) (some s) h = some (h, bi (!wD D (aT (dA D) m x))) := by
  have hm4 := p12 w.1 hm
  have hlt := Nat.lt_of_le_of_lt (an_le m (sB (dA D) x.1 x.2)) hm
  obtain ⟨o1, _, _, _, o3, _⟩ := id o
  rw [e_Ta_winsBy]
  simp (disch := omega) only [if_true, if_false, true_and, and_true, and_self, true_or, or_true, false_or, or_false, not_true_eq_false, not_false_eq_true, Option.bind_some, somene, false_and, and_false, reduceCtorEq, Nat.reduceEqDiff, C.k32, o1, o3, l0, l1, lm1, q_nan, Ta_cw_f C w ho T hlt, q_bi0]
  unfold aT
  cases wD D (an m (sB (dA D) x.1 x.2)) <;> rfl
theorem Ta_winsBy_ok (C : CS h) (w : dW D) (hF : Far F) (O : AOc F h a D c) (T : TC h D a) (hm : m < 2 ^ aN (dA D)) (o : SO h (dA D) s x) (fs : F s) : ∃ h', c_Ta_winsBy d (some 32) (nI m) (some s) h = some (h', bi (!wD D (aT (dA D) m x))) ∧ Wq h h' ∧ TC h' D a ∧ TFl h' D := by
  have hm4 := p12 w.1 hm
  have hlt := Nat.lt_of_le_of_lt (an_le m (sB (dA D) x.1 x.2)) hm
  obtain ⟨o1, _, _, _, o3, _⟩ := id o
  obtain ⟨h', e, q, t, f⟩ := Ta_canWin_ok (d := d) C w hF O T hlt
  refine ⟨h', ?_, q, t, f⟩
  rw [e_Ta_winsBy]
  simp (disch := omega) only [if_true, if_false, true_and, and_true, and_self, true_or, or_true, false_or, or_false, not_true_eq_false, not_false_eq_true, Option.bind_some, somene, false_and, and_false, reduceCtorEq, Nat.reduceEqDiff, C.k32, o1, o3, l0, l1, lm1, q_nan, e, q_bi0]
  unfold aT
  cases wD D (an m (sB (dA D) x.1 x.2)) <;> rfl
theorem Ta_lb_f (C : CS h) (w : dW D) (T : TFl h D) (hm : m < 2 ^ aN (dA D)) (o : SO h (dA D) s x) (hx : x.1 < aN (dA D)) (x2 : 1 ≤ x.2) (x3 : x.2 ≤ 4) (hs : m &&& sB (dA D) x.1 x.2 = sB (dA D) x.1 x.2) : ∃ v, c_Ta_lawsBehind d (some 32) (nI m) (some s) h = some (h, v) ∧ ∀ q, q < 60 → b64 v q = (lb (dA D) m q x && !(wL (dA D) q m && wL (dA D) q (aT (dA D) m x))) := by
  have hm4 := p12 w.1 hm
  have hlt := Nat.lt_of_le_of_lt (an_le m (sB (dA D) x.1 x.2)) hm
  have hp := pow12 w.1.1
  have hE := Sk_hasEndIn_ok d w.1 o hx hm4
  obtain ⟨o1, _, _, _, o3, _, _, o6⟩ := id o
  have h34 : ∀ s0 : Int64, (∀ q, q < 60 → b64 s0 q = lb (dA D) m q x) → ∃ v, k_Ta_lawsBehind_34 d (some 32) (nI m) (some s) s0 h = some (h, v) ∧ ∀ q, q < 60 → b64 v q = (lb (dA D) m q x && !(wL (dA D) q m && wL (dA D) q (aT (dA D) m x))) := by
    intro s0 hs0
    refine ⟨s0 &&& ((hJ h 43 m &&& hJ h 43 (an m (sB (dA D) x.1 x.2))) ^^^ (-1)), ?_, ?_⟩
    · rw [e_Ta_lawsBehind_34]
      have e5 : (-1 : Int32) = nM := rfl
      simp (disch := omega) only [C.k20, C.k21, C.k22, C.k23, C.k24, C.k25, C.k26, C.k27, C.k28, C.k29, C.k30, C.k31, C.k32, C.k43, C.k44, C.k45, C.k46, C.k47, C.k48, C.k49, C.k50, C.k51, C.n21, C.n22, C.n24, C.n25, C.n26, C.n27, C.n29, C.n30, C.n31, C.n43, C.n44, C.n45, C.n46, C.n47, C.n48, C.n51, C.r20_0, C.r20_2, C.r20_4, C.r20_5, C.r20_6, C.r20_7, C.r20_8, C.r23_5, C.r23_6, C.r23_7, C.r28_0, C.r28_1, C.r28_2, C.r32_3, C.r32_4, C.r32_5, C.r32_6, C.r32_7, C.r32_8, C.r49_0, C.r50_0, if_true, if_false, true_and, and_true, and_self, true_or, or_true, false_or, or_false, not_true_eq_false, not_false_eq_true, Option.bind_some, somene, false_and, and_false, reduceCtorEq, Nat.reduceEqDiff, o1, o3, e5, q_nan, q_in, q_cl]
    · intro q hq
      rw [b64_and, b64_not _ (by omega), b64_and, hs0 q hq, T.2 m hm q hq, T.2 _ hlt q hq]
      rfl
  have hb : ∀ q, q < 60 → lb (dA D) m q x = ((lgH q).testBit (x.2 - 1) && (!lgE q || Jvm.Pilot.CSkittleRowLaw_law_r7134_573cdd.hE (dA D) m x)) := by
    intro q hq
    unfold lb cO
    rw [hs, decide_eq_true rfl, Bool.true_and]
  rw [e_Ta_lawsBehind]
  simp (disch := omega) only [if_true, if_false, true_and, and_true, and_self, true_or, or_true, false_or, or_false, not_true_eq_false, not_false_eq_true, Option.bind_some, somene, false_and, and_false, reduceCtorEq, Nat.reduceEqDiff, C.k32, T.1, l0, q_eq_f, o1, hE, q_bi0, o6]
  cases he : Jvm.Pilot.CSkittleRowLaw_law_r7134_573cdd.hE (dA D) m x
  · simp only [if_true, if_false, true_and, and_true, and_self, true_or, or_true, false_or, or_false, not_true_eq_false, not_false_eq_true, Option.bind_some, somene, false_and, and_false, reduceCtorEq, Nat.reduceEqDiff]
    refine h34 _ (fun q hq => ?_)
    rw [b64_and, lw_hits x.2 (by omega) x2 q hq, lw_noends q hq, hb q hq, he, Bool.or_false]
  · simp only [if_true, if_false, true_and, and_true, and_self, true_or, or_true, false_or, or_false, not_true_eq_false, not_false_eq_true, Option.bind_some, somene, false_and, and_false, reduceCtorEq, Nat.reduceEqDiff, Bool.true_eq_false]
    refine h34 _ (fun q hq => ?_)
    rw [lw_hits x.2 (by omega) x2 q hq, hb q hq, he, Bool.or_true, Bool.and_true]
theorem Ta_lawsBehind_ok (C : CS h) (w : dW D) (hF : Far F) (O : AOc F h a D c) (T : TC h D a) (hm : m < 2 ^ aN (dA D)) (o : SO h (dA D) s x) (fs : F s) (hx : x.1 < aN (dA D)) (x2 : 1 ≤ x.2) (x3 : x.2 ≤ 4) (hs : m &&& sB (dA D) x.1 x.2 = sB (dA D) x.1 x.2) : ∃ h' v, c_Ta_lawsBehind d (some 32) (nI m) (some s) h = some (h', v) ∧ (∀ q, q < 60 → b64 v q = (lb (dA D) m q x && !(wL (dA D) q m && wL (dA D) q (aT (dA D) m x)))) ∧ Wq h h' ∧ TC h' D a ∧ TFl h' D := by
  rcases id T.2.2.2 with T0 | T1
  · obtain ⟨h', f1, f2, f3⟩ := Ta_fill_ok (d := d) C w hF O T
    have Q := f2.cq C
    have C' := C.cq Q
    have o' := o.same (Q.same (hF s fs))
    obtain ⟨v, e1, e2⟩ := Ta_lb_f (d := d) C' w f3 hm o' hx x2 x3 hs
    refine ⟨h', v, ?_, e2, f2, T.wq f2 f3, f3⟩
    rw [e_Ta_lawsBehind] at e1 ⊢
    have f9 := f3.1
    simp (disch := omega) only [C'.k32, if_true, if_false, true_and, and_true, and_self, true_or, or_true, false_or, or_false, not_true_eq_false, not_false_eq_true, Option.bind_some, somene, false_and, and_false, reduceCtorEq, Nat.reduceEqDiff, f9, l0, q_eq_f] at e1
    simp (disch := omega) only [C.k32, if_true, if_false, true_and, and_true, and_self, true_or, or_true, false_or, or_false, not_true_eq_false, not_false_eq_true, Option.bind_some, somene, false_and, and_false, reduceCtorEq, Nat.reduceEqDiff, T0, l0, f1, e1]
  · obtain ⟨v, e1, e2⟩ := Ta_lb_f (d := d) C w T1 hm o hx x2 x3 hs
    exact ⟨h, v, e1, e2, Wq.refl h, T, T1⟩
end SkTab
