/-! ===== loops as folds; tables filled state by state ===== -/
theorem bnd {α β : Type} {o : Option α} {a : α} (e : o = some a) (f : α → Option β) : Option.bind o f = f a := by rw [e]; rfl
theorem dfold {α β : Type} {n : Nat} {f : Nat → Nat → Bool} {g : α → Nat × Nat → α} (Ko : Nat → α → β) (Ki : Nat → Nat → α → β) (en : α → β) (h0 : ∀ a, Ko n a = en a) (ho : ∀ p a, p < n → Ko p a = Ki p 1 a) (h5 : ∀ p a, p < n → Ki p 5 a = Ko (p + 1) a) (hi : ∀ p k a, p < n → 1 ≤ k → k ≤ 4 → Ki p k a = if f p k = true then Ki p (k + 1) (g a (p, k)) else Ki p (k + 1) a) (a : α) : Ko 0 a = en ((rA f n 0 1).foldl g a) := by
  refine dloop n (fun p => ∀ a, Ko p a = en ((rA f n p 1).foldl g a)) (fun p k => ∀ a, Ki p k a = en ((rA f n p k).foldl g a)) ?_ ?_ ?_ ?_ n 0 (by omega) a
  · intro a
    rw [rA_n]
    exact h0 a
  · intro p hp ih a
    rw [ho p a hp]
    exact ih a
  · intro p hp ih a
    rw [h5 p a hp, rA_5]
    exact ih a
  · intro p k hp h1 h4 ih a
    rw [hi p k a hp h1 h4, rA_s f hp h1 h4]
    cases f p k
    · rw [if_neg (by decide), if_neg (by decide)]; exact ih a
    · rw [if_pos rfl, if_pos rfl, List.foldl_cons]; exact ih _
theorem cfold {α β : Type} {F : Nat → Prop} {h : sk_H} {A : AD} {arr N : Nat} {P : Nat × Nat → Prop} {cnd : Nat × Nat → Bool} {g : α → Nat × Nat → α} (K : Nat → α → β) (en : α → β) (hN2 : hN h arr = N) (hend : ∀ a, K N a = en a) (hstep : ∀ i x s a, i < N → hR h arr i = some s → F s → SO h A s x → P x → K i a = if cnd x = true then K (i + 1) (g a x) else K (i + 1) a) : ∀ (l : List (Nat × Nat)) (i : Nat) (a : α), AS F h A arr i l → (∀ x ∈ l, P x) → K i a = en ((l.filter cnd).foldl g a)
  | [], i, a, S, _ => by
    have S : hN h arr = i := S
    rw [← S, hN2]
    exact hend a
  | x :: l, i, a, ⟨⟨s, r, f, o⟩, S⟩, hl => by
    have hlen := AS_len l (i + 1) S
    rw [hstep i x s a (by omega) r f o (hl x (List.mem_cons_self ..)), List.filter_cons]
    have ih := fun a => cfold K en hN2 hend hstep l (i + 1) a S (fun y hy => hl y (List.mem_cons_of_mem _ hy))
    cases cnd x
    · rw [if_neg (by decide), if_neg (by decide)]; exact ih a
    · rw [if_pos rfl, if_pos rfl, List.foldl_cons]; exact ih _
theorem foldl_cg {α β : Type} {g k : α → β → α} {l : List β} (h : ∀ a, ∀ x ∈ l, g a x = k a x) : ∀ a, l.foldl g a = l.foldl k a := by
  induction l with
  | nil => intro a; rfl
  | cons y l ih => intro a; rw [List.foldl_cons, List.foldl_cons, h a y (List.mem_cons_self ..), ih (fun a x hx => h a x (List.mem_cons_of_mem _ hx))]
theorem foldl_inv {α β : Type} {g : α → β → α} {P : α → Prop} {l : List β} (h : ∀ a, ∀ x ∈ l, P a → P (g a x)) : ∀ a, P a → P (l.foldl g a) := by
  induction l with
  | nil => intro a ha; exact ha
  | cons y l ih => intro a ha; rw [List.foldl_cons]; exact ih (fun a x hx => h a x (List.mem_cons_of_mem _ hx)) _ (h a y (List.mem_cons_self ..) ha)
/-- two folds side by side -/
theorem foldl_two {α γ β : Type} {g : α → β → α} {k : γ → β → γ} {R : α → γ → Prop} {l : List β} (h : ∀ a c, ∀ x ∈ l, R a c → R (g a x) (k c x)) : ∀ a c, R a c → R (l.foldl g a) (l.foldl k c) := by
  induction l with
  | nil => intro a c ha; exact ha
  | cons y l ih => intro a c ha; rw [List.foldl_cons, List.foldl_cons]; exact ih (fun a c x hx => h a c x (List.mem_cons_of_mem _ hx)) _ _ (h a c y (List.mem_cons_self ..) ha)
theorem foldl_filter' {α β : Type} (g : α → β → α) (f : β → Bool) : ∀ (l : List β) (a : α), (l.filter f).foldl g a = l.foldl (fun a x => if f x = true then g a x else a) a
  | [], _ => rfl
  | y :: l, a => by
    rw [List.filter_cons, List.foldl_cons, ← foldl_filter' g f l]
    cases hf : f y
    · rw [if_neg (by decide), if_neg (by decide)]
    · rw [if_pos rfl, if_pos rfl, List.foldl_cons]
/-- only ints are written, at places of P -/
def Iq (P : Nat → Nat → Bool) (h h' : sk_H) : Prop := h'.1 = h.1 ∧ h'.2.2 = h.2.2 ∧ ∀ a i, P a i = false → hI h' a i = hI h a i
section SkIq
variable {P P' : Nat → Nat → Bool} {h h1 h2 h3 : sk_H}
theorem Iq.refl (h : sk_H) : Iq P h h := ⟨rfl, rfl, fun _ _ _ => rfl⟩
theorem Iq.trans (Q : Iq P h1 h2) (R : Iq P h2 h3) : Iq P h1 h3 := ⟨R.1.trans Q.1, R.2.1.trans Q.2.1, fun a i ha => (R.2.2 a i ha).trans (Q.2.2 a i ha)⟩
theorem Iq.w (h : sk_H) {a i : Nat} (v : Int32) (ha : P a i = true) : Iq P h (wI h a i v) := ⟨rfl, rfl, fun b j hb => by
  rw [hI_wI, if_neg (fun q => by rw [q.1, q.2, ha] at hb; cases hb)]⟩
theorem Iq.eK (Q : Iq P h h1) : hK h1 = hK h := congrArg (fun x => x.1) Q.1
theorem Iq.eN (Q : Iq P h h1) : hN h1 = hN h := congrArg (fun x => x.2.1) Q.1
theorem Iq.eR (Q : Iq P h h1) : hR h1 = hR h := congrArg (fun x => x.2) Q.2.1
theorem Iq.eJ (Q : Iq P h h1) : hJ h1 = hJ h := congrArg (fun x => x.1) Q.2.1
theorem Iq.I (Q : Iq P h h1) {a i : Nat} (ha : P a i = false) : hI h1 a i = hI h a i := Q.2.2 a i ha
theorem Iq.cq (Q : Iq P h h1) (hP : ∀ a i, pC a i = false → P a i = false) : Cq h h1 := ⟨Q.1, fun a _ => by rw [Q.eR], by rw [Q.eR], fun a i ha => Q.2.2 a i (hP a i ha), fun a _ _ => by rw [Q.eJ]⟩
theorem Iq.mq (Q : Iq P h h1) (hP : ∀ a i, pM a i = false → P a i = false) : Mq h h1 := ⟨Q.1, Q.eR, fun a i ha => Q.2.2 a i (hP a i ha), fun a _ _ _ => by rw [Q.eJ]⟩
end SkIq
theorem gfill {α : Type} {P : Nat → Nat → Bool} {K : Nat → sk_H → Option α} {N : Nat} (U : Nat → sk_H → sk_H) (G : Nat → sk_H → Prop) (Inv : sk_H → Prop) (hInv : ∀ h h', Iq P h h' → Inv h → Inv h') (hU : ∀ m h, m < N → Inv h → G m h → K m h = K (m + 1) (U m h) ∧ Iq P h (U m h) ∧ G (m + 1) (U m h)) : ∀ (c m : Nat) (h : sk_H), m + c = N → Inv h → G m h → ∃ h', K m h = K N h' ∧ Iq P h h' ∧ Inv h' ∧ G N h'
  | 0, m, h, hm, I, g => by
    have e : m = N := hm
    subst e
    exact ⟨h, rfl, Iq.refl h, I, g⟩
  | c + 1, m, h, hm, I, g => by
    obtain ⟨u1, u2, u3⟩ := hU m h (by omega) I g
    obtain ⟨h', e1, e2, e3, e4⟩ := gfill U G Inv hInv hU c (m + 1) (U m h) (by omega) (hInv _ _ u2 I) u3
    exact ⟨h', u1.trans e1, u2.trans e2, e3, e4⟩
/-- a table correct below m -/
def TB (arr : Nat) (T : Nat → Int32) (m : Nat) (h : sk_H) : Prop := ∀ j, j < m → hI h arr j = T j
theorem TB.s {arr : Nat} {T : Nat → Int32} {m : Nat} {h : sk_H} (t : TB arr T m h) {v : Int32} (hv : v = T m) : TB arr T (m + 1) (wI h arr m v) := fun j hj => by
  rw [hI_wI]
  by_cases hq : j = m
  · rw [if_pos ⟨rfl, hq⟩, hq]; exact hv
  · rw [if_neg (fun q => hq q.2)]; exact t j (by omega)
/-- what the class's tables need -/
def CI (F : Nat → Prop) (D : DD) (a : Nat) (c : Nat → Nat) (h : sk_H) : Prop := CS h ∧ AOc F h a D c ∧ hR h 32 0 = some a ∧ hI h 32 2 = nI (2 ^ aN (dA D)) ∧ hI h 32 1 = nI (owN D)
theorem CI.iq {P : Nat → Nat → Bool} {F : Nat → Prop} {D : DD} {a : Nat} {c : Nat → Nat} (hF : Far F) (hP : ∀ a i, pC a i = false → P a i = false) {h h1 : sk_H} (Q : Iq P h h1) (I : CI F D a c h) : CI F D a c h1 := by
  have q := Q.cq hP
  obtain ⟨i1, i2, i3, i4, i5⟩ := I
  exact ⟨i1.cq q, i2.cq hF q, by rw [Q.eR]; exact i3, by rw [q.I (by decide)]; exact i4, by rw [q.I (by decide)]; exact i5⟩
/-- what the reference's tables need -/
def MI (D : DD) (st : Nat) (h : sk_H) : Prop := MS 52 h ∧ mSaid D (hI h 62) ∧ hI h 62 8 = nI st
theorem MI.iq {P : Nat → Nat → Bool} {D : DD} {st : Nat} (hP : ∀ a i, pM a i = false → P a i = false) {h h1 : sk_H} (Q : Iq P h h1) (I : MI D st h) : MI D st h1 := by
  have q := Q.mq hP
  obtain ⟨i1, i2, i3⟩ := I
  refine ⟨i1.mq q, ?_, ?_⟩
  · rw [q.Iw (by decide) (by decide)]; exact i2
  · rw [q.Iw (by decide) (by decide)]; exact i3
def P45 (a i : Nat) : Bool := a == 45 || (a == 32 && i == 11)
def P68 (a _i : Nat) : Bool := a == 68 || a == 69
theorem pC_of {a i k fl : Nat} (hk : 43 ≤ k) (hk2 : k ≤ 49) (hf : 9 ≤ fl) (hf2 : fl ≤ 13) (h : pC a i = false) : (a == k || (a == 32 && i == fl)) = false := by
  unfold pC at h
  rw [Bool.or_eq_false_iff] at h ⊢
  refine ⟨?_, ?_⟩
  · rw [beq_eq_false_iff_ne]
    intro q
    subst q
    have h1 := h.1
    rw [Nat.ble_eq_true_of_le hk, Nat.ble_eq_true_of_le hk2] at h1
    cases h1
  · have h2 := h.2
    cases hq : (a == 32 && i == fl)
    · rfl
    · rw [Bool.and_eq_true, beq_iff_eq, beq_iff_eq] at hq
      rw [hq.1, hq.2, Nat.ble_eq_true_of_le hf, Nat.ble_eq_true_of_le hf2] at h2
      cases h2
theorem P45_C : ∀ a i, pC a i = false → P45 a i = false := fun a i h => pC_of (by decide) (by decide) (by decide) (by decide) h
theorem P68_M : ∀ a i, pM a i = false → P68 a i = false := fun a i h => by
  unfold pM at h
  unfold P68
  rw [Bool.or_eq_false_iff, Bool.or_eq_false_iff] at h
  rw [Bool.or_eq_false_iff, beq_eq_false_iff_ne, beq_eq_false_iff_ne]
  refine ⟨fun q => ?_, fun q => ?_⟩ <;> (rw [q] at h; exact absurd h.1.2 (by decide))
/-! plays -/
def plG (A : AD) (m : Nat) (u : Nat → Int32) (r : Bool × Int64) (x : Nat × Nat) : Bool × Int64 := (false, r.2 + (u (aT A m x)).toInt64)
def plF (r : Bool × Int64) : Int32 := if r.1 = true then nI 1 else (r.2 - r.2 / (1000000007 : Int64) * (1000000007 : Int64)).toInt32
def plB (D : DD) (m : Nat) (u : Nat → Int32) : Int32 := plF ((aL (dA D) (dH D) (dE D) m).foldl (plG (dA D) m u) (true, 0))
def plT (D : DD) : Nat → Int32 := fv (plB D) 0
theorem plT_eq (D : DD) {m : Nat} (hm : m < 4096) : plT D m = plB D m (plT D) := fv_eq (N := 4096) (fun m hm u v h => by
  unfold plB
  rw [foldl_cg (k := plG (dA D) m v) (fun r x hx => by unfold plG; rw [h _ (aT_lt hm hx)])]) hm
section SkPlays
variable {F : Nat → Prop} {h : sk_H} {a m st : Nat} {D : DD} {c : Nat → Nat} {d : Nat}
theorem Ta_pl_m (hF : Far F) (w : dW D) (I : CI F D a c h) (hm : m < 2 ^ aN (dA D)) (T : TB 45 (plT D) m h) : k_Ta_fillPlayCounts_2 d (some 32) (nI m) h = k_Ta_fillPlayCounts_2 d (some 32) (nI (m + 1)) (wI h 45 m (plT D m)) := by
  obtain ⟨C, O, r, e, _⟩ := I
  have hp := pow12 w.1.1
  have hm4 := p12 w.1 hm
  have hS := O.S
  have hlen := AS_len _ _ hS
  rw [Nat.zero_add] at hlen
  have hll := sH_len w.1 (dH D)
  have hk := O.kS
  have ra := O.r (j := 14) (by omega) (by omega)
  have ka := O.k
  have key := cfold (cnd := cO (dA D) m (dE D)) (g := plG (dA D) m (plT D)) (fun i (r : Bool × Int64) => k_Ta_fillPlayCounts_31 d (some 32) (nI m) (bi r.1) r.2 (some (c 14)) (nI (sH (dA D) (dH D)).length) (nI i) h) (fun r => k_Ta_fillPlayCounts_2 d (some 32) (nI (m + 1)) (wI h 45 m (plF r))) hlen ?_ ?_ (sH (dA D) (dH D)) 0 (true, 0) hS (fun x hx => sH_mem hx)
  · rw [e_Ta_fillPlayCounts_2]
    simp (disch := omega) only [C.k20, C.k21, C.k22, C.k23, C.k24, C.k25, C.k26, C.k27, C.k28, C.k29, C.k30, C.k31, C.k32, C.k43, C.k44, C.k45, C.k46, C.k47, C.k48, C.k49, C.k50, C.k51, C.n21, C.n22, C.n24, C.n25, C.n26, C.n27, C.n29, C.n30, C.n31, C.n43, C.n44, C.n45, C.n46, C.n47, C.n48, C.n51, C.r20_0, C.r20_2, C.r20_4, C.r20_5, C.r20_6, C.r20_7, C.r20_8, C.r23_5, C.r23_6, C.r23_7, C.r28_0, C.r28_1, C.r28_2, C.r32_3, C.r32_4, C.r32_5, C.r32_6, C.r32_7, C.r32_8, C.r49_0, C.r50_0, ↓bnd C.r20_0, ↓bnd C.r20_2, ↓bnd C.r20_4, ↓bnd C.r20_5, ↓bnd C.r20_6, ↓bnd C.r20_7, ↓bnd C.r20_8, ↓bnd C.r23_5, ↓bnd C.r23_6, ↓bnd C.r23_7, ↓bnd C.r28_0, ↓bnd C.r28_1, ↓bnd C.r28_2, ↓bnd C.r32_3, ↓bnd C.r32_4, ↓bnd C.r32_5, ↓bnd C.r32_6, ↓bnd C.r32_7, ↓bnd C.r32_8, ↓bnd C.r49_0, ↓bnd C.r50_0, ↓reduceIte, ↓Option.bind_some, if_true, if_false, true_and, and_true, and_self, true_or, or_true, false_or, or_false, not_true_eq_false, not_false_eq_true, Option.bind_some, somene, false_and, and_false, reduceCtorEq, Nat.reduceEqDiff, aa101, aa102, aa103, aa104, aa105, aa106, aa107, aa108, aa201, aa202, aa204, ar106, ar107, ar108, ofn, e, r, q_le_f, l0, l1, ra, ka, hk, hlen]
    rw [bi_t] at key
    rw [key, ← aL_sH, plT_eq D hm4]
    rfl
  · intro q
    show k_Ta_fillPlayCounts_31 d (some 32) (nI m) (bi q.1) q.2 (some (c 14)) _ _ h = _
    rw [e_Ta_fillPlayCounts_31]
    have e0 : ((1000000007 : Int64) = 0) = False := eq_false (by decide)
    unfold plF
    cases q.1
    · simp (disch := omega) only [C.k20, C.k21, C.k22, C.k23, C.k24, C.k25, C.k26, C.k27, C.k28, C.k29, C.k30, C.k31, C.k32, C.k43, C.k44, C.k45, C.k46, C.k47, C.k48, C.k49, C.k50, C.k51, C.n21, C.n22, C.n24, C.n25, C.n26, C.n27, C.n29, C.n30, C.n31, C.n43, C.n44, C.n45, C.n46, C.n47, C.n48, C.n51, C.r20_0, C.r20_2, C.r20_4, C.r20_5, C.r20_6, C.r20_7, C.r20_8, C.r23_5, C.r23_6, C.r23_7, C.r28_0, C.r28_1, C.r28_2, C.r32_3, C.r32_4, C.r32_5, C.r32_6, C.r32_7, C.r32_8, C.r49_0, C.r50_0, ↓bnd C.r20_0, ↓bnd C.r20_2, ↓bnd C.r20_4, ↓bnd C.r20_5, ↓bnd C.r20_6, ↓bnd C.r20_7, ↓bnd C.r20_8, ↓bnd C.r23_5, ↓bnd C.r23_6, ↓bnd C.r23_7, ↓bnd C.r28_0, ↓bnd C.r28_1, ↓bnd C.r28_2, ↓bnd C.r32_3, ↓bnd C.r32_4, ↓bnd C.r32_5, ↓bnd C.r32_6, ↓bnd C.r32_7, ↓bnd C.r32_8, ↓bnd C.r49_0, ↓bnd C.r50_0, ↓reduceIte, ↓Option.bind_some, if_true, if_false, true_and, and_true, and_self, true_or, or_true, false_or, or_false, not_true_eq_false, not_false_eq_true, Option.bind_some, somene, false_and, and_false, reduceCtorEq, Nat.reduceEqDiff, q_le_t, l0, l1, bi_f, q_in, q_cl, nI_add, e0, Bool.false_eq_true]
    · simp (disch := omega) only [C.k20, C.k21, C.k22, C.k23, C.k24, C.k25, C.k26, C.k27, C.k28, C.k29, C.k30, C.k31, C.k32, C.k43, C.k44, C.k45, C.k46, C.k47, C.k48, C.k49, C.k50, C.k51, C.n21, C.n22, C.n24, C.n25, C.n26, C.n27, C.n29, C.n30, C.n31, C.n43, C.n44, C.n45, C.n46, C.n47, C.n48, C.n51, C.r20_0, C.r20_2, C.r20_4, C.r20_5, C.r20_6, C.r20_7, C.r20_8, C.r23_5, C.r23_6, C.r23_7, C.r28_0, C.r28_1, C.r28_2, C.r32_3, C.r32_4, C.r32_5, C.r32_6, C.r32_7, C.r32_8, C.r49_0, C.r50_0, ↓bnd C.r20_0, ↓bnd C.r20_2, ↓bnd C.r20_4, ↓bnd C.r20_5, ↓bnd C.r20_6, ↓bnd C.r20_7, ↓bnd C.r20_8, ↓bnd C.r23_5, ↓bnd C.r23_6, ↓bnd C.r23_7, ↓bnd C.r28_0, ↓bnd C.r28_1, ↓bnd C.r28_2, ↓bnd C.r32_3, ↓bnd C.r32_4, ↓bnd C.r32_5, ↓bnd C.r32_6, ↓bnd C.r32_7, ↓bnd C.r32_8, ↓bnd C.r49_0, ↓bnd C.r50_0, ↓reduceIte, ↓Option.bind_some, if_true, if_false, true_and, and_true, and_self, true_or, or_true, false_or, or_false, not_true_eq_false, not_false_eq_true, Option.bind_some, somene, false_and, and_false, reduceCtorEq, Nat.reduceEqDiff, q_le_t, l0, l1, bi_t, q_eq_f, q_in, q_cl, nI_add]
  · intro i x s q hi rs fs o hx
    show k_Ta_fillPlayCounts_31 d (some 32) (nI m) (bi q.1) q.2 (some (c 14)) _ _ h = _
    obtain ⟨x0, x1, x2, x3, x4⟩ := hx
    have hlt := an_le m (sB (dA D) x.1 x.2)
    obtain ⟨o1, _, _, _, o3, _⟩ := id o
    have al := Al_allows_ok d O w o x4 hm4
    rw [e_Ta_fillPlayCounts_31]
    simp (disch := omega) only [C.k20, C.k21, C.k22, C.k23, C.k24, C.k25, C.k26, C.k27, C.k28, C.k29, C.k30, C.k31, C.k32, C.k43, C.k44, C.k45, C.k46, C.k47, C.k48, C.k49, C.k50, C.k51, C.n21, C.n22, C.n24, C.n25, C.n26, C.n27, C.n29, C.n30, C.n31, C.n43, C.n44, C.n45, C.n46, C.n47, C.n48, C.n51, C.r20_0, C.r20_2, C.r20_4, C.r20_5, C.r20_6, C.r20_7, C.r20_8, C.r23_5, C.r23_6, C.r23_7, C.r28_0, C.r28_1, C.r28_2, C.r32_3, C.r32_4, C.r32_5, C.r32_6, C.r32_7, C.r32_8, C.r49_0, C.r50_0, ↓bnd C.r20_0, ↓bnd C.r20_2, ↓bnd C.r20_4, ↓bnd C.r20_5, ↓bnd C.r20_6, ↓bnd C.r20_7, ↓bnd C.r20_8, ↓bnd C.r23_5, ↓bnd C.r23_6, ↓bnd C.r23_7, ↓bnd C.r28_0, ↓bnd C.r28_1, ↓bnd C.r28_2, ↓bnd C.r32_3, ↓bnd C.r32_4, ↓bnd C.r32_5, ↓bnd C.r32_6, ↓bnd C.r32_7, ↓bnd C.r32_8, ↓bnd C.r49_0, ↓bnd C.r50_0, ↓reduceIte, ↓Option.bind_some, if_true, if_false, true_and, and_true, and_self, true_or, or_true, false_or, or_false, not_true_eq_false, not_false_eq_true, Option.bind_some, somene, false_and, and_false, reduceCtorEq, Nat.reduceEqDiff, aa101, aa102, aa103, aa104, aa105, aa106, aa107, aa108, aa201, aa202, aa204, ar106, ar107, ar108, ofn, r, q_le_f, l0, l1, lm1, ka, hk, hlen, rs, o1, o3, al, q_in, q_cl, q_bi0, q_nan, nI_add]
    cases hc : cO (dA D) m (dE D) x
    · rw [if_pos rfl, if_neg (by decide)]
    · rw [if_neg (by decide), if_pos rfl]
      have hc2 : m &&& sB (dA D) x.1 x.2 = sB (dA D) x.1 x.2 := by
        unfold cO at hc
        rw [Bool.and_eq_true, decide_eq_true_eq] at hc
        exact hc.1
      have ht := T _ (an_sub hm4 x1 hc2)
      rw [ht]
      rfl
theorem Ta_pl_all (hF : Far F) (w : dW D) (I : CI F D a c h) : ∃ h', c_Ta_fillPlayCounts d (some 32) h = some h' ∧ Iq P45 h h' ∧ hI h' 32 11 = nI 1 ∧ TB 45 (plT D) (2 ^ aN (dA D)) h' := by
  obtain ⟨h', e1, e2, e3, e4⟩ := gfill (P := P45) (K := fun m h => k_Ta_fillPlayCounts_2 d (some 32) (nI m) h) (N := 2 ^ aN (dA D)) (fun m h => wI h 45 m (plT D m)) (TB 45 (plT D)) (CI F D a c) (fun h h' Q I => I.iq hF P45_C Q) (fun m h hm I T => ⟨Ta_pl_m hF w I hm T, Iq.w h _ rfl, T.s rfl⟩) (2 ^ aN (dA D)) 0 h (by omega) I (fun j hj => absurd hj (by omega))
  obtain ⟨C, O, r, e, _⟩ := e3
  have hp := pow12 w.1.1
  refine ⟨wI h' 32 11 (nI 1), ?_, e2.trans (Iq.w h' _ rfl), ?_, fun j hj => ?_⟩
  · rw [e_Ta_fillPlayCounts]
    refine e1.trans ?_
    rw [e_Ta_fillPlayCounts_2]
    simp (disch := omega) only [C.k20, C.k21, C.k22, C.k23, C.k24, C.k25, C.k26, C.k27, C.k28, C.k29, C.k30, C.k31, C.k32, C.k43, C.k44, C.k45, C.k46, C.k47, C.k48, C.k49, C.k50, C.k51, C.n21, C.n22, C.n24, C.n25, C.n26, C.n27, C.n29, C.n30, C.n31, C.n43, C.n44, C.n45, C.n46, C.n47, C.n48, C.n51, C.r20_0, C.r20_2, C.r20_4, C.r20_5, C.r20_6, C.r20_7, C.r20_8, C.r23_5, C.r23_6, C.r23_7, C.r28_0, C.r28_1, C.r28_2, C.r32_3, C.r32_4, C.r32_5, C.r32_6, C.r32_7, C.r32_8, C.r49_0, C.r50_0, ↓bnd C.r20_0, ↓bnd C.r20_2, ↓bnd C.r20_4, ↓bnd C.r20_5, ↓bnd C.r20_6, ↓bnd C.r20_7, ↓bnd C.r20_8, ↓bnd C.r23_5, ↓bnd C.r23_6, ↓bnd C.r23_7, ↓bnd C.r28_0, ↓bnd C.r28_1, ↓bnd C.r28_2, ↓bnd C.r32_3, ↓bnd C.r32_4, ↓bnd C.r32_5, ↓bnd C.r32_6, ↓bnd C.r32_7, ↓bnd C.r32_8, ↓bnd C.r49_0, ↓bnd C.r50_0, ↓reduceIte, ↓Option.bind_some, if_true, if_false, true_and, and_true, and_self, true_or, or_true, false_or, or_false, not_true_eq_false, not_false_eq_true, Option.bind_some, somene, false_and, and_false, reduceCtorEq, Nat.reduceEqDiff, e, q_le_t, l0, l1]
  · rw [hI_wI, if_pos ⟨rfl, rfl⟩]
  · rw [hI_wI, if_neg (fun q => by have := q.1; omega)]; exact e4 j hj
theorem M_playsAt_ok (w : dW D) (I : MI D st h) (hm : m < 2 ^ aN (dA D)) (T : TB 68 (plT D) m h) : c_M_playsAt d (some 52) (nI m) h = some (h, plT D m) := by
  obtain ⟨M, S, _⟩ := I
  have hm4 := p12 w.1 hm
  have hp := pow12 w.1.1
  have w1 := w.1.1
  obtain ⟨⟨s1, -⟩, -⟩ := id S
  have key := dfold (n := aN (dA D)) (f := fun p k => cB (dA D) m p k (dH D) (dE D)) (g := plG (dA D) m (plT D)) (fun p (r : Bool × Int64) => k_M_playsAt_8 d (some 52) (nI m) r.2 (bi r.1) (nI p) h) (fun p k r => k_M_playsAt_22 d (some 52) (nI m) r.2 (bi r.1) (nI p) (nI k) h) (fun r => some (h, plF r)) ?_ ?_ ?_ ?_ (true, 0)
  · rw [e_M_playsAt, l1, l0, ← bi_t]
    rw [key, plT_eq D hm4]
    rfl
  · intro q
    show k_M_playsAt_8 d (some 52) (nI m) q.2 (bi q.1) _ h = _
    rw [e_M_playsAt_8]
    have e0 : ((1000000007 : Int64) = 0) = False := eq_false (by decide)
    unfold plF
    cases q.1
    · simp (disch := omega) only [M.K52, M.R0, M.R3, M.R4, M.R5, M.R6, M.R7, M.R15, M.R17, M.R19, M.R20, M.R22, M.R24, M.R26, M.R27, M.R28, M.R29, M.R30, M.R37, M.R38, M.R39, ↓bnd M.R0, ↓bnd M.R3, ↓bnd M.R4, ↓bnd M.R5, ↓bnd M.R6, ↓bnd M.R7, ↓bnd M.R15, ↓bnd M.R17, ↓bnd M.R19, ↓bnd M.R20, ↓bnd M.R22, ↓bnd M.R24, ↓bnd M.R26, ↓bnd M.R27, ↓bnd M.R28, ↓bnd M.R29, ↓bnd M.R30, ↓bnd M.R37, ↓bnd M.R38, ↓bnd M.R39, M.K53, M.K54, M.K55, M.K56, M.K57, M.K58, M.K59, M.K60, M.K61, M.K62, M.K63, M.K64, M.K65, M.K66, M.K67, M.K68, M.K69, M.K70, M.K71, M.K72, M.N53, M.N54, M.N55, M.N56, M.N57, M.N58, M.N59, M.N60, M.N61, M.N62, M.N63, M.N64, M.N65, M.N66, M.N67, M.N68, M.N69, M.N70, M.N71, M.N72, ↓reduceIte, ↓Option.bind_some, if_true, if_false, true_and, and_true, and_self, true_or, or_true, false_or, or_false, not_true_eq_false, not_false_eq_true, Option.bind_some, somene, false_and, and_false, reduceCtorEq, Nat.reduceEqDiff, q_le_t, l0, l1, bi_f, q_in, q_cl, s1, e0, Bool.false_eq_true]
    · simp (disch := omega) only [M.K52, M.R0, M.R3, M.R4, M.R5, M.R6, M.R7, M.R15, M.R17, M.R19, M.R20, M.R22, M.R24, M.R26, M.R27, M.R28, M.R29, M.R30, M.R37, M.R38, M.R39, ↓bnd M.R0, ↓bnd M.R3, ↓bnd M.R4, ↓bnd M.R5, ↓bnd M.R6, ↓bnd M.R7, ↓bnd M.R15, ↓bnd M.R17, ↓bnd M.R19, ↓bnd M.R20, ↓bnd M.R22, ↓bnd M.R24, ↓bnd M.R26, ↓bnd M.R27, ↓bnd M.R28, ↓bnd M.R29, ↓bnd M.R30, ↓bnd M.R37, ↓bnd M.R38, ↓bnd M.R39, M.K53, M.K54, M.K55, M.K56, M.K57, M.K58, M.K59, M.K60, M.K61, M.K62, M.K63, M.K64, M.K65, M.K66, M.K67, M.K68, M.K69, M.K70, M.K71, M.K72, M.N53, M.N54, M.N55, M.N56, M.N57, M.N58, M.N59, M.N60, M.N61, M.N62, M.N63, M.N64, M.N65, M.N66, M.N67, M.N68, M.N69, M.N70, M.N71, M.N72, ↓reduceIte, ↓Option.bind_some, if_true, if_false, true_and, and_true, and_self, true_or, or_true, false_or, or_false, not_true_eq_false, not_false_eq_true, Option.bind_some, somene, false_and, and_false, reduceCtorEq, Nat.reduceEqDiff, q_le_t, l0, l1, bi_t, q_eq_f, q_in, q_cl, s1]
  · intro p q hpn
    show k_M_playsAt_8 d (some 52) (nI m) q.2 (bi q.1) _ h = _
    rw [e_M_playsAt_8]
    simp (disch := omega) only [M.K52, M.R0, M.R3, M.R4, M.R5, M.R6, M.R7, M.R15, M.R17, M.R19, M.R20, M.R22, M.R24, M.R26, M.R27, M.R28, M.R29, M.R30, M.R37, M.R38, M.R39, ↓bnd M.R0, ↓bnd M.R3, ↓bnd M.R4, ↓bnd M.R5, ↓bnd M.R6, ↓bnd M.R7, ↓bnd M.R15, ↓bnd M.R17, ↓bnd M.R19, ↓bnd M.R20, ↓bnd M.R22, ↓bnd M.R24, ↓bnd M.R26, ↓bnd M.R27, ↓bnd M.R28, ↓bnd M.R29, ↓bnd M.R30, ↓bnd M.R37, ↓bnd M.R38, ↓bnd M.R39, M.K53, M.K54, M.K55, M.K56, M.K57, M.K58, M.K59, M.K60, M.K61, M.K62, M.K63, M.K64, M.K65, M.K66, M.K67, M.K68, M.K69, M.K70, M.K71, M.K72, M.N53, M.N54, M.N55, M.N56, M.N57, M.N58, M.N59, M.N60, M.N61, M.N62, M.N63, M.N64, M.N65, M.N66, M.N67, M.N68, M.N69, M.N70, M.N71, M.N72, ↓reduceIte, ↓Option.bind_some, if_true, if_false, true_and, and_true, and_self, true_or, or_true, false_or, or_false, not_true_eq_false, not_false_eq_true, Option.bind_some, somene, false_and, and_false, reduceCtorEq, Nat.reduceEqDiff, q_le_f, l0, l1, q_in, q_cl, s1]
  · intro p q hpn
    show k_M_playsAt_22 d (some 52) (nI m) q.2 (bi q.1) _ _ h = _
    rw [e_M_playsAt_22]
    simp (disch := omega) only [↓reduceIte, ↓Option.bind_some, if_true, if_false, true_and, and_true, and_self, true_or, or_true, false_or, or_false, not_true_eq_false, not_false_eq_true, Option.bind_some, somene, false_and, and_false, reduceCtorEq, Nat.reduceEqDiff, q_lt_t, l4, l1, nI_add]
  · intro p k q hpn h1 h4
    show k_M_playsAt_22 d (some 52) (nI m) q.2 (bi q.1) _ _ h = _
    have hs := sB_lt w.1 hpn k
    have hlt := an_le m (sB (dA D) p k)
    rw [e_M_playsAt_22]
    simp (disch := omega) only [M.K52, M.R0, M.R3, M.R4, M.R5, M.R6, M.R7, M.R15, M.R17, M.R19, M.R20, M.R22, M.R24, M.R26, M.R27, M.R28, M.R29, M.R30, M.R37, M.R38, M.R39, ↓bnd M.R0, ↓bnd M.R3, ↓bnd M.R4, ↓bnd M.R5, ↓bnd M.R6, ↓bnd M.R7, ↓bnd M.R15, ↓bnd M.R17, ↓bnd M.R19, ↓bnd M.R20, ↓bnd M.R22, ↓bnd M.R24, ↓bnd M.R26, ↓bnd M.R27, ↓bnd M.R28, ↓bnd M.R29, ↓bnd M.R30, ↓bnd M.R37, ↓bnd M.R38, ↓bnd M.R39, M.K53, M.K54, M.K55, M.K56, M.K57, M.K58, M.K59, M.K60, M.K61, M.K62, M.K63, M.K64, M.K65, M.K66, M.K67, M.K68, M.K69, M.K70, M.K71, M.K72, M.N53, M.N54, M.N55, M.N56, M.N57, M.N58, M.N59, M.N60, M.N61, M.N62, M.N63, M.N64, M.N65, M.N66, M.N67, M.N68, M.N69, M.N70, M.N71, M.N72, ↓reduceIte, ↓Option.bind_some, if_true, if_false, true_and, and_true, and_self, true_or, or_true, false_or, or_false, not_true_eq_false, not_false_eq_true, Option.bind_some, somene, false_and, and_false, reduceCtorEq, Nat.reduceEqDiff, q_lt_f, l4, l1, l0, lm1, nI_add, M_canBeNow_ok d M w S hm4 hpn h1 h4, M_strokeBits_ok (b := 52) d M w.1 S.1 hpn h4, q_bi0, q_nan, q_in, q_cl]
    cases hc : cB (dA D) m p k (dH D) (dE D)
    · simp only [↓reduceIte, ↓Option.bind_some, if_true, if_false, true_and, and_true, and_self, true_or, or_true, false_or, or_false, not_true_eq_false, not_false_eq_true, Option.bind_some, somene, false_and, and_false, reduceCtorEq, Nat.reduceEqDiff, Bool.false_eq_true]
    · obtain ⟨_, c2, c3⟩ := cB_sub hc
      have ht := T _ (an_sub hm4 c2 c3)
      simp only [↓reduceIte, ↓Option.bind_some, if_true, if_false, true_and, and_true, and_self, true_or, or_true, false_or, or_false, not_true_eq_false, not_false_eq_true, Option.bind_some, somene, false_and, and_false, reduceCtorEq, Nat.reduceEqDiff, Bool.true_eq_false, ht]
      rfl
theorem M_plays_all (w : dW D) (I : MI D st h) (hst : st < 2 ^ aN (dA D)) : ∃ h', k_M_plays_11 d (some 52) (nI 0) h = some (h', plT D st) ∧ Iq P68 h h' := by
  have hp := pow12 w.1.1
  obtain ⟨h', e1, e2, e3, e4⟩ := gfill (P := P68) (K := fun m h => k_M_plays_11 d (some 52) (nI m) h) (N := st + 1) (fun m h => wI h 68 m (plT D m)) (TB 68 (plT D)) (MI D st) (fun h h' Q I => I.iq P68_M Q) (fun m h hm I T => ⟨by
    obtain ⟨M, S, s8⟩ := id I
    show k_M_plays_11 d (some 52) (nI m) h = _
    rw [e_M_plays_11]
    simp (disch := omega) only [M.K52, M.R0, M.R3, M.R4, M.R5, M.R6, M.R7, M.R15, M.R17, M.R19, M.R20, M.R22, M.R24, M.R26, M.R27, M.R28, M.R29, M.R30, M.R37, M.R38, M.R39, ↓bnd M.R0, ↓bnd M.R3, ↓bnd M.R4, ↓bnd M.R5, ↓bnd M.R6, ↓bnd M.R7, ↓bnd M.R15, ↓bnd M.R17, ↓bnd M.R19, ↓bnd M.R20, ↓bnd M.R22, ↓bnd M.R24, ↓bnd M.R26, ↓bnd M.R27, ↓bnd M.R28, ↓bnd M.R29, ↓bnd M.R30, ↓bnd M.R37, ↓bnd M.R38, ↓bnd M.R39, M.K53, M.K54, M.K55, M.K56, M.K57, M.K58, M.K59, M.K60, M.K61, M.K62, M.K63, M.K64, M.K65, M.K66, M.K67, M.K68, M.K69, M.K70, M.K71, M.K72, M.N53, M.N54, M.N55, M.N56, M.N57, M.N58, M.N59, M.N60, M.N61, M.N62, M.N63, M.N64, M.N65, M.N66, M.N67, M.N68, M.N69, M.N70, M.N71, M.N72, ↓reduceIte, ↓Option.bind_some, if_true, if_false, true_and, and_true, and_self, true_or, or_true, false_or, or_false, not_true_eq_false, not_false_eq_true, Option.bind_some, somene, false_and, and_false, reduceCtorEq, Nat.reduceEqDiff, q_lt_f, l8, l1, s8, q_in, q_cl, nI_add, M_playsAt_ok w I (show m < 2 ^ aN (dA D) by omega) T], Iq.w h _ rfl, T.s rfl⟩) (st + 1) 0 h (by omega) I (fun j hj => absurd hj (by omega))
  obtain ⟨M, S, s8⟩ := e3
  refine ⟨h', e1.trans ?_, e2⟩
  rw [e_M_plays_11]
  have e5 := e4 st (by omega)
  simp (disch := omega) only [M.K52, M.R0, M.R3, M.R4, M.R5, M.R6, M.R7, M.R15, M.R17, M.R19, M.R20, M.R22, M.R24, M.R26, M.R27, M.R28, M.R29, M.R30, M.R37, M.R38, M.R39, ↓bnd M.R0, ↓bnd M.R3, ↓bnd M.R4, ↓bnd M.R5, ↓bnd M.R6, ↓bnd M.R7, ↓bnd M.R15, ↓bnd M.R17, ↓bnd M.R19, ↓bnd M.R20, ↓bnd M.R22, ↓bnd M.R24, ↓bnd M.R26, ↓bnd M.R27, ↓bnd M.R28, ↓bnd M.R29, ↓bnd M.R30, ↓bnd M.R37, ↓bnd M.R38, ↓bnd M.R39, M.K53, M.K54, M.K55, M.K56, M.K57, M.K58, M.K59, M.K60, M.K61, M.K62, M.K63, M.K64, M.K65, M.K66, M.K67, M.K68, M.K69, M.K70, M.K71, M.K72, M.N53, M.N54, M.N55, M.N56, M.N57, M.N58, M.N59, M.N60, M.N61, M.N62, M.N63, M.N64, M.N65, M.N66, M.N67, M.N68, M.N69, M.N70, M.N71, M.N72, ↓reduceIte, ↓Option.bind_some, if_true, if_false, true_and, and_true, and_self, true_or, or_true, false_or, or_false, not_true_eq_false, not_false_eq_true, Option.bind_some, somene, false_and, and_false, reduceCtorEq, Nat.reduceEqDiff, q_lt_t, l8, s8, q_in, q_cl, e5]
end SkPlays
