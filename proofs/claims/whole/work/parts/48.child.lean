/-! ===== against a child; how long it lasts ===== -/
theorem dfoldI {α β : Type} {n : Nat} {f : Nat → Nat → Bool} {g : α → Nat × Nat → α} (I : α → Prop) (Ko : Nat → α → β) (Ki : Nat → Nat → α → β) (en : α → β) (hI : ∀ p k a, p < n → 1 ≤ k → k ≤ 4 → f p k = true → I a → I (g a (p, k))) (h0 : ∀ a, I a → Ko n a = en a) (ho : ∀ p a, p < n → I a → Ko p a = Ki p 1 a) (h5 : ∀ p a, p < n → I a → Ki p 5 a = Ko (p + 1) a) (hi : ∀ p k a, p < n → 1 ≤ k → k ≤ 4 → I a → Ki p k a = if f p k = true then Ki p (k + 1) (g a (p, k)) else Ki p (k + 1) a) (a : α) (ha : I a) : Ko 0 a = en ((rA f n 0 1).foldl g a) := by
  refine dloop n (fun p => ∀ a, I a → Ko p a = en ((rA f n p 1).foldl g a)) (fun p k => ∀ a, I a → Ki p k a = en ((rA f n p k).foldl g a)) ?_ ?_ ?_ ?_ n 0 (by omega) a ha
  · intro a ha
    rw [rA_n]
    exact h0 a ha
  · intro p hp ih a ha
    rw [ho p a hp ha]
    exact ih a ha
  · intro p hp ih a ha
    rw [h5 p a hp ha, rA_5]
    exact ih a ha
  · intro p k hp h1 h4 ih a ha
    rw [hi p k a hp h1 h4 ha, rA_s f hp h1 h4]
    cases hf : f p k
    · rw [if_neg (by decide), if_neg (by decide)]; exact ih a ha
    · rw [if_pos rfl, if_pos rfl, List.foldl_cons]; exact ih _ (hI p k a hp h1 h4 hf ha)
theorem cfoldI {α β : Type} {F : Nat → Prop} {h : sk_H} {A : AD} {arr N : Nat} {P : Nat × Nat → Prop} {cnd : Nat × Nat → Bool} {g : α → Nat × Nat → α} (I : α → Prop) (K : Nat → α → β) (en : α → β) (hN2 : hN h arr = N) (hI : ∀ x a, P x → cnd x = true → I a → I (g a x)) (hend : ∀ a, I a → K N a = en a) (hstep : ∀ i x s a, i < N → hR h arr i = some s → F s → SO h A s x → P x → I a → K i a = if cnd x = true then K (i + 1) (g a x) else K (i + 1) a) : ∀ (l : List (Nat × Nat)) (i : Nat) (a : α), AS F h A arr i l → (∀ x ∈ l, P x) → I a → K i a = en ((l.filter cnd).foldl g a)
  | [], i, a, S, _, ha => by
    have S : hN h arr = i := S
    rw [← S, hN2]
    exact hend a ha
  | x :: l, i, a, ⟨⟨s, r, f, o⟩, S⟩, hl, ha => by
    have hlen := AS_len l (i + 1) S
    have hx := hl x (List.mem_cons_self ..)
    rw [hstep i x s a (by omega) r f o hx ha, List.filter_cons]
    have ih := fun a ha => cfoldI I K en hN2 hI hend hstep l (i + 1) a S (fun y hy => hl y (List.mem_cons_of_mem _ hy)) ha
    cases hc : cnd x
    · rw [if_neg (by decide), if_neg (by decide)]; exact ih a ha
    · rw [if_pos rfl, if_pos rfl, List.foldl_cons]; exact ih _ (hI x a hx hc ha)
def omx (o : Option Nat) (n : Nat) : Option Nat := some (match o with
  | none => n
  | some b => if b < n then n else b)
def omn (o : Option Nat) (n : Nat) : Option Nat := some (match o with
  | none => n
  | some b => if n < b then n else b)
def ovN (D : DD) : Nat := if dL D = true then 10000 else 0
theorem ovI_N (D : DD) : ovI D = nI (ovN D) := by
  unfold ovI ovN
  cases dL D <;> rfl
theorem ovN_le (D : DD) : ovN D ≤ 10000 := by
  unfold ovN
  cases dL D <;> decide
def clB (D : DD) (m : Nat) (u : Nat → Nat × Nat) : Nat × Nat := (((aL (dA D) (dH D) (dE D) m).foldl (fun o x => omx o (u (aT (dA D) m x)).2) none).getD (ovN D), if aL (dA D) (dH D) (dE D) m = [] then 10000 - ovN D else ((aL (dA D) (dH D) (dE D) m).foldl (fun s x => s + (u (aT (dA D) m x)).1) 0) / (aL (dA D) (dH D) (dE D) m).length)
def clT (D : DD) : Nat → Nat × Nat := fv (clB D) (0, 0)
theorem clT_eq (D : DD) {m : Nat} (hm : m < 4096) : clT D m = clB D m (clT D) := fv_eq (N := 4096) (fun m hm u v h => by
  unfold clB
  rw [foldl_cg (k := fun o x => omx o (v (aT (dA D) m x)).2) (fun r x hx => by rw [h _ (aT_lt hm hx)]), foldl_cg (k := fun s x => s + (v (aT (dA D) m x)).1) (fun r x hx => by rw [h _ (aT_lt hm hx)])]) hm
theorem omx_le {o : Option Nat} {n B : Nat} (ho : ∀ b, o = some b → b ≤ B) (hn : n ≤ B) : ∀ b, omx o n = some b → b ≤ B := by
  intro b hb
  unfold omx at hb
  cases o with
  | none => cases hb; exact hn
  | some c =>
    have := ho c rfl
    by_cases q : c < n
    · rw [show (match some c with | none => n | some b => if b < n then n else b) = n from if_pos q] at hb
      cases hb; exact hn
    · rw [show (match some c with | none => n | some b => if b < n then n else b) = c from if_neg q] at hb
      cases hb; exact this
theorem omn_le {o : Option Nat} {n B : Nat} (ho : ∀ b, o = some b → b ≤ B) (hn : n ≤ B) : ∀ b, omn o n = some b → b ≤ B := by
  intro b hb
  unfold omn at hb
  cases o with
  | none => cases hb; exact hn
  | some c =>
    have := ho c rfl
    by_cases q : n < c
    · rw [show (match some c with | none => n | some b => if n < b then n else b) = n from if_pos q] at hb
      cases hb; exact hn
    · rw [show (match some c with | none => n | some b => if n < b then n else b) = c from if_neg q] at hb
      cases hb; exact this
theorem sum_le {l : List (Nat × Nat)} {f : Nat × Nat → Nat} {B : Nat} (h : ∀ x ∈ l, f x ≤ B) : ∀ s, l.foldl (fun s x => s + f x) s ≤ s + B * l.length := by
  induction l with
  | nil => intro s; simp
  | cons y l ih =>
    intro s
    have h1 := ih (fun x hx => h x (List.mem_cons_of_mem _ hx)) (s + f y)
    have h2 := h y (List.mem_cons_self ..)
    rw [List.foldl_cons, List.length_cons, Nat.mul_add]
    omega
theorem clT_le (D : DD) : ∀ m, m < 4096 → (clT D m).1 ≤ 10000 ∧ (clT D m).2 ≤ 10000 := by
  intro m
  induction m using Nat.strongRecOn with
  | _ m ih =>
    intro hm
    have hv := ovN_le D
    rw [clT_eq D hm]
    unfold clB
    have hi := fun x (hx : x ∈ aL (dA D) (dH D) (dE D) m) => ih _ (aT_lt hm hx) (Nat.lt_trans (aT_lt hm hx) hm)
    refine ⟨?_, ?_⟩
    · have := foldl_inv (P := fun o : Option Nat => ∀ b, o = some b → b ≤ 10000) (l := aL (dA D) (dH D) (dE D) m) (g := fun o x => omx o (clT D (aT (dA D) m x)).2) (fun o x hx ho => omx_le ho (hi x hx).2) none (fun b hb => by cases hb)
      show Option.getD _ _ ≤ 10000
      cases hq : (aL (dA D) (dH D) (dE D) m).foldl (fun o x => omx o (clT D (aT (dA D) m x)).2) none with
      | none => exact hv
      | some b => exact this b hq
    · show (if _ then _ else _) ≤ 10000
      by_cases hq : aL (dA D) (dH D) (dE D) m = []
      · rw [if_pos hq]; omega
      · rw [if_neg hq]
        have h1 := sum_le (l := aL (dA D) (dH D) (dE D) m) (f := fun x => (clT D (aT (dA D) m x)).1) (fun x hx => (hi x hx).1) 0
        have h2 : 0 < (aL (dA D) (dH D) (dE D) m).length := List.length_pos_iff.mpr hq
        rw [Nat.zero_add] at h1
        exact Nat.div_le_of_le_mul (by rw [Nat.mul_comm]; exact h1)
theorem fold3 {l : List (Nat × Nat)} (f1 : Nat → Nat × Nat → Nat) (f2 : Nat → Nat × Nat → Nat) : ∀ b s n, l.foldl (fun (r : Nat × Nat × Nat) x => (f1 r.1 x, f2 r.2.1 x, r.2.2 + 1)) (b, s, n) = (l.foldl f1 b, l.foldl f2 s, n + l.length) := by
  induction l with
  | nil => intro b s n; rfl
  | cons y l ih => intro b s n; rw [List.foldl_cons, List.foldl_cons, List.foldl_cons, ih, List.length_cons, show n + 1 + l.length = n + (l.length + 1) by omega]
theorem fold2 {α β : Type} {l : List (Nat × Nat)} (f1 : α → Nat × Nat → α) (f2 : β → Nat × Nat → β) : ∀ b s, l.foldl (fun (r : α × β) x => (f1 r.1 x, f2 r.2 x)) (b, s) = (l.foldl f1 b, l.foldl f2 s) := by
  induction l with
  | nil => intro b s; rfl
  | cons y l ih => intro b s; rw [List.foldl_cons, List.foldl_cons, List.foldl_cons, ih]
theorem mx_omx (l : List (Nat × Nat)) (f : Nat × Nat → Nat) : l.foldl (fun b x => if b < f x then f x else b) 0 = (l.foldl (fun o x => omx o (f x)) none).getD 0 := foldl_two (R := fun b (o : Option Nat) => b = o.getD 0) (fun b o x _ hr => by
  subst hr
  cases o with
  | none =>
    show (if 0 < f x then f x else 0) = f x
    by_cases q : 0 < f x
    · rw [if_pos q]
    · rw [if_neg q]; omega
  | some c => rfl) 0 none rfl
theorem omx_some {l : List (Nat × Nat)} (f : Nat × Nat → Nat) : ∀ o : Option Nat, (l ≠ [] ∨ o ≠ none) → ∃ b, l.foldl (fun o x => omx o (f x)) o = some b := by
  induction l with
  | nil => intro o h; cases o with
    | none => rcases h with h | h <;> exact absurd rfl h
    | some b => exact ⟨b, rfl⟩
  | cons y l ih => intro o _; rw [List.foldl_cons]; exact ih _ (Or.inr (by unfold omx; intro q; cases q))
theorem omn_some {l : List (Nat × Nat)} (f : Nat × Nat → Nat) : ∀ o : Option Nat, (l ≠ [] ∨ o ≠ none) → ∃ b, l.foldl (fun o x => omn o (f x)) o = some b := by
  induction l with
  | nil => intro o h; cases o with
    | none => rcases h with h | h <;> exact absurd rfl h
    | some b => exact ⟨b, rfl⟩
  | cons y l ih => intro o _; rw [List.foldl_cons]; exact ih _ (Or.inr (by unfold omn; intro q; cases q))
def P47 (a i : Nat) : Bool := (a == 47 || (a == 32 && i == 13)) || a == 48
theorem P47_C : ∀ a i, pC a i = false → P47 a i = false := fun a i h => by
  unfold P47
  rw [Bool.or_eq_false_iff]
  refine ⟨pC_of (by decide) (by decide) (by decide) (by decide) h, ?_⟩
  have := pC_of (k := 48) (fl := 13) (by decide) (by decide) (by decide) (by decide) h
  rw [Bool.or_eq_false_iff] at this
  exact this.1
def clG (A : AD) (m : Nat) (u : Nat → Nat × Nat) (r : Nat × Nat × Nat) (x : Nat × Nat) : Nat × Nat × Nat := (if r.1 < (u (aT A m x)).2 then (u (aT A m x)).2 else r.1, r.2.1 + (u (aT A m x)).1, r.2.2 + 1)
def clK (D : DD) (m : Nat) (h : sk_H) : Prop := TB 47 (fun j => nI (clT D j).1) m h ∧ TB 48 (fun j => nI (clT D j).2) m h
section SkChild
variable {F : Nat → Prop} {h : sk_H} {a m st : Nat} {D : DD} {c : Nat → Nat} {d : Nat}
theorem Ta_cl_m (hF : Far F) (w : dW D) (I : CI F D a c h) (hm : m < 2 ^ aN (dA D)) (T : clK D m h) : k_Ta_fillClever_20 d (some 32) (nI (ovN D)) (nI m) h = k_Ta_fillClever_20 d (some 32) (nI (ovN D)) (nI (m + 1)) (wI (wI h 47 m (nI (clT D m).1)) 48 m (nI (clT D m).2)) := by
  obtain ⟨C, O, r, e, _⟩ := I
  obtain ⟨T1, T2⟩ := T
  have hp := pow12 w.1.1
  have hm4 := p12 w.1 hm
  have hv := ovN_le D
  have hS := O.S
  have hlen := AS_len _ _ hS
  rw [Nat.zero_add] at hlen
  have hll := sH_len w.1 (dH D)
  have hl2 := aL_len w.1 (dH D) (dE D) m
  have hk := O.kS
  have ra := O.r (j := 14) (by omega) (by omega)
  have ka := O.k
  have key := cfoldI (cnd := cO (dA D) m (dE D)) (g := clG (dA D) m (clT D)) (fun r => r.1 ≤ 10000) (fun i (r : Nat × Nat × Nat) => k_Ta_fillClever_53 d (some 32) (nI (ovN D)) (nI m) (nI r.1) (nI r.2.1) (nI r.2.2) (some (c 14)) (nI (sH (dA D) (dH D)).length) (nI i) h) (fun r => if ¬ nI r.2.2 = nI 0 then k_Ta_fillClever_142 d (some 32) (nI (ovN D)) (nI m) (nI r.2.1) (nI r.2.2) (nI r.1) (nI m) (some 47) h else k_Ta_fillClever_142 d (some 32) (nI (ovN D)) (nI m) (nI r.2.1) (nI r.2.2) (nI (ovN D)) (nI m) (some 47) h) hlen ?_ ?_ ?_ (sH (dA D) (dH D)) 0 (0, 0, 0) hS (fun x hx => sH_mem hx) (Nat.zero_le _)
  · rw [e_Ta_fillClever_20]
    simp (disch := omega) only [C.k20, C.k21, C.k22, C.k23, C.k24, C.k25, C.k26, C.k27, C.k28, C.k29, C.k30, C.k31, C.k32, C.k43, C.k44, C.k45, C.k46, C.k47, C.k48, C.k49, C.k50, C.k51, C.n21, C.n22, C.n24, C.n25, C.n26, C.n27, C.n29, C.n30, C.n31, C.n43, C.n44, C.n45, C.n46, C.n47, C.n48, C.n51, C.r20_0, C.r20_2, C.r20_4, C.r20_5, C.r20_6, C.r20_7, C.r20_8, C.r23_5, C.r23_6, C.r23_7, C.r28_0, C.r28_1, C.r28_2, C.r32_3, C.r32_4, C.r32_5, C.r32_6, C.r32_7, C.r32_8, C.r49_0, C.r50_0, ↓bnd C.r20_0, ↓bnd C.r20_2, ↓bnd C.r20_4, ↓bnd C.r20_5, ↓bnd C.r20_6, ↓bnd C.r20_7, ↓bnd C.r20_8, ↓bnd C.r23_5, ↓bnd C.r23_6, ↓bnd C.r23_7, ↓bnd C.r28_0, ↓bnd C.r28_1, ↓bnd C.r28_2, ↓bnd C.r32_3, ↓bnd C.r32_4, ↓bnd C.r32_5, ↓bnd C.r32_6, ↓bnd C.r32_7, ↓bnd C.r32_8, ↓bnd C.r49_0, ↓bnd C.r50_0, ↓reduceIte, ↓Option.bind_some, if_true, if_false, true_and, and_true, and_self, true_or, or_true, false_or, or_false, not_true_eq_false, not_false_eq_true, Option.bind_some, somene, false_and, and_false, reduceCtorEq, Nat.reduceEqDiff, aa101, aa102, aa103, aa104, aa105, aa106, aa107, aa108, aa201, aa202, aa204, ar106, ar107, ar108, ofn, e, r, q_le_f, l0, l1, lm1, ra, ka, hk, hlen]
    refine key.trans ?_
    rw [← aL_sH]
    have e3 : (aL (dA D) (dH D) (dE D) m).foldl (clG (dA D) m (clT D)) (0, 0, 0) = (((aL (dA D) (dH D) (dE D) m).foldl (fun o x => omx o (clT D (aT (dA D) m x)).2) none).getD 0, (aL (dA D) (dH D) (dE D) m).foldl (fun s x => s + (clT D (aT (dA D) m x)).1) 0, (aL (dA D) (dH D) (dE D) m).length) := by
      rw [← mx_omx]
      have := fold3 (l := aL (dA D) (dH D) (dE D) m) (fun b x => if b < (clT D (aT (dA D) m x)).2 then (clT D (aT (dA D) m x)).2 else b) (fun s x => s + (clT D (aT (dA D) m x)).1) 0 0 0
      rw [Nat.zero_add] at this
      exact this
    rw [e3]
    have hc := clT_le D m hm4
    rw [clT_eq D hm4] at hc ⊢
    have hs := sum_le (l := aL (dA D) (dH D) (dE D) m) (f := fun x => (clT D (aT (dA D) m x)).1) (B := 10000) (fun x hx => (clT_le D _ (Nat.lt_trans (aT_lt hm4 hx) hm4)).1) 0
    unfold clB at hc ⊢
    by_cases hq : aL (dA D) (dH D) (dE D) m = []
    · rw [hq]
      simp only [List.foldl_nil, List.length_nil, ↓reduceIte, ↓Option.bind_some, if_true, if_false, true_and, and_true, and_self, true_or, or_true, false_or, or_false, not_true_eq_false, not_false_eq_true, Option.bind_some, somene, false_and, and_false, reduceCtorEq, Nat.reduceEqDiff, Option.getD_none]
      rw [e_Ta_fillClever_142]
      simp (disch := omega) only [C.k20, C.k21, C.k22, C.k23, C.k24, C.k25, C.k26, C.k27, C.k28, C.k29, C.k30, C.k31, C.k32, C.k43, C.k44, C.k45, C.k46, C.k47, C.k48, C.k49, C.k50, C.k51, C.n21, C.n22, C.n24, C.n25, C.n26, C.n27, C.n29, C.n30, C.n31, C.n43, C.n44, C.n45, C.n46, C.n47, C.n48, C.n51, C.r20_0, C.r20_2, C.r20_4, C.r20_5, C.r20_6, C.r20_7, C.r20_8, C.r23_5, C.r23_6, C.r23_7, C.r28_0, C.r28_1, C.r28_2, C.r32_3, C.r32_4, C.r32_5, C.r32_6, C.r32_7, C.r32_8, C.r49_0, C.r50_0, ↓bnd C.r20_0, ↓bnd C.r20_2, ↓bnd C.r20_4, ↓bnd C.r20_5, ↓bnd C.r20_6, ↓bnd C.r20_7, ↓bnd C.r20_8, ↓bnd C.r23_5, ↓bnd C.r23_6, ↓bnd C.r23_7, ↓bnd C.r28_0, ↓bnd C.r28_1, ↓bnd C.r28_2, ↓bnd C.r32_3, ↓bnd C.r32_4, ↓bnd C.r32_5, ↓bnd C.r32_6, ↓bnd C.r32_7, ↓bnd C.r32_8, ↓bnd C.r49_0, ↓bnd C.r50_0, ↓reduceIte, ↓Option.bind_some, if_true, if_false, true_and, and_true, and_self, true_or, or_true, false_or, or_false, not_true_eq_false, not_false_eq_true, Option.bind_some, somene, false_and, and_false, reduceCtorEq, Nat.reduceEqDiff, hK_wI, hN_wI, hn_wI, hs_wI, hJ_wI, hR_wI, hK_wJ, hN_wJ, hn_wJ, hs_wJ, hI_wJ, hR_wJ, hK_wR, hN_wR, hn_wR, hs_wR, hI_wR, hJ_wR, q_in, q_cl, l0, l1, l10000, nI_add, q_sub]
    · have h2 : 0 < (aL (dA D) (dH D) (dE D) m).length := List.length_pos_iff.mpr hq
      obtain ⟨b, hb⟩ := omx_some (l := aL (dA D) (dH D) (dE D) m) (fun x => (clT D (aT (dA D) m x)).2) none (Or.inl hq)
      simp only [hb, hq, Option.getD_some, if_false]
      rw [if_pos (show ¬ nI (aL (dA D) (dH D) (dE D) m).length = nI 0 from nI_ne0 (by omega) (by omega)), e_Ta_fillClever_142]
      simp (disch := omega) only [C.k20, C.k21, C.k22, C.k23, C.k24, C.k25, C.k26, C.k27, C.k28, C.k29, C.k30, C.k31, C.k32, C.k43, C.k44, C.k45, C.k46, C.k47, C.k48, C.k49, C.k50, C.k51, C.n21, C.n22, C.n24, C.n25, C.n26, C.n27, C.n29, C.n30, C.n31, C.n43, C.n44, C.n45, C.n46, C.n47, C.n48, C.n51, C.r20_0, C.r20_2, C.r20_4, C.r20_5, C.r20_6, C.r20_7, C.r20_8, C.r23_5, C.r23_6, C.r23_7, C.r28_0, C.r28_1, C.r28_2, C.r32_3, C.r32_4, C.r32_5, C.r32_6, C.r32_7, C.r32_8, C.r49_0, C.r50_0, ↓bnd C.r20_0, ↓bnd C.r20_2, ↓bnd C.r20_4, ↓bnd C.r20_5, ↓bnd C.r20_6, ↓bnd C.r20_7, ↓bnd C.r20_8, ↓bnd C.r23_5, ↓bnd C.r23_6, ↓bnd C.r23_7, ↓bnd C.r28_0, ↓bnd C.r28_1, ↓bnd C.r28_2, ↓bnd C.r32_3, ↓bnd C.r32_4, ↓bnd C.r32_5, ↓bnd C.r32_6, ↓bnd C.r32_7, ↓bnd C.r32_8, ↓bnd C.r49_0, ↓bnd C.r50_0, ↓reduceIte, ↓Option.bind_some, if_true, if_false, true_and, and_true, and_self, true_or, or_true, false_or, or_false, not_true_eq_false, not_false_eq_true, Option.bind_some, somene, false_and, and_false, reduceCtorEq, Nat.reduceEqDiff, hK_wI, hN_wI, hn_wI, hs_wI, hJ_wI, hR_wI, hK_wJ, hN_wJ, hn_wJ, hs_wJ, hI_wJ, hR_wJ, hK_wR, hN_wR, hn_wR, hs_wR, hI_wR, hJ_wR, q_in, q_cl, l0, l1, q_eq_f, nI_add, q_div]
  · intro x r hx _ hr
    have := (clT_le D (aT (dA D) m x) (Nat.lt_of_le_of_lt (an_le _ _) hm4)).2
    show (if _ then _ else _) ≤ 10000
    split
    · exact this
    · exact hr
  · intro q hq
    show k_Ta_fillClever_53 d (some 32) (nI (ovN D)) (nI m) (nI q.1) (nI q.2.1) (nI q.2.2) (some (c 14)) _ _ h = _
    rw [e_Ta_fillClever_53]
    simp (disch := omega) only [C.k20, C.k21, C.k22, C.k23, C.k24, C.k25, C.k26, C.k27, C.k28, C.k29, C.k30, C.k31, C.k32, C.k43, C.k44, C.k45, C.k46, C.k47, C.k48, C.k49, C.k50, C.k51, C.n21, C.n22, C.n24, C.n25, C.n26, C.n27, C.n29, C.n30, C.n31, C.n43, C.n44, C.n45, C.n46, C.n47, C.n48, C.n51, C.r20_0, C.r20_2, C.r20_4, C.r20_5, C.r20_6, C.r20_7, C.r20_8, C.r23_5, C.r23_6, C.r23_7, C.r28_0, C.r28_1, C.r28_2, C.r32_3, C.r32_4, C.r32_5, C.r32_6, C.r32_7, C.r32_8, C.r49_0, C.r50_0, ↓bnd C.r20_0, ↓bnd C.r20_2, ↓bnd C.r20_4, ↓bnd C.r20_5, ↓bnd C.r20_6, ↓bnd C.r20_7, ↓bnd C.r20_8, ↓bnd C.r23_5, ↓bnd C.r23_6, ↓bnd C.r23_7, ↓bnd C.r28_0, ↓bnd C.r28_1, ↓bnd C.r28_2, ↓bnd C.r32_3, ↓bnd C.r32_4, ↓bnd C.r32_5, ↓bnd C.r32_6, ↓bnd C.r32_7, ↓bnd C.r32_8, ↓bnd C.r49_0, ↓bnd C.r50_0, ↓reduceIte, ↓Option.bind_some, if_true, if_false, true_and, and_true, and_self, true_or, or_true, false_or, or_false, not_true_eq_false, not_false_eq_true, Option.bind_some, somene, false_and, and_false, reduceCtorEq, Nat.reduceEqDiff, q_le_t, l0]
  · intro i x s q hi rs fs o hx hq
    show k_Ta_fillClever_53 d (some 32) (nI (ovN D)) (nI m) (nI q.1) (nI q.2.1) (nI q.2.2) (some (c 14)) _ _ h = _
    obtain ⟨x0, x1, x2, x3, x4⟩ := hx
    have hlt := an_le m (sB (dA D) x.1 x.2)
    obtain ⟨o1, _, _, _, o3, _⟩ := id o
    have al := Al_allows_ok d O w o x4 hm4
    have rs' : hR h (c 14) (nI i).toNatClampNeg = some s := by rw [nI_clamp (by omega)]; exact rs
    have al' : c_Al_allows d (hR h 32 0) (nI m) (hR h (c 14) (nI i).toNatClampNeg) h = some (h, bi (cO (dA D) m (dE D) x)) := by rw [r, rs']; exact al
    have hq : q.1 ≤ 10000 := hq
    rw [e_Ta_fillClever_53]
    cases hc : cO (dA D) m (dE D) x
    · simp (disch := omega) only [C.k20, C.k21, C.k22, C.k23, C.k24, C.k25, C.k26, C.k27, C.k28, C.k29, C.k30, C.k31, C.k32, C.k43, C.k44, C.k45, C.k46, C.k47, C.k48, C.k49, C.k50, C.k51, C.n21, C.n22, C.n24, C.n25, C.n26, C.n27, C.n29, C.n30, C.n31, C.n43, C.n44, C.n45, C.n46, C.n47, C.n48, C.n51, C.r20_0, C.r20_2, C.r20_4, C.r20_5, C.r20_6, C.r20_7, C.r20_8, C.r23_5, C.r23_6, C.r23_7, C.r28_0, C.r28_1, C.r28_2, C.r32_3, C.r32_4, C.r32_5, C.r32_6, C.r32_7, C.r32_8, C.r49_0, C.r50_0, ↓bnd C.r20_0, ↓bnd C.r20_2, ↓bnd C.r20_4, ↓bnd C.r20_5, ↓bnd C.r20_6, ↓bnd C.r20_7, ↓bnd C.r20_8, ↓bnd C.r23_5, ↓bnd C.r23_6, ↓bnd C.r23_7, ↓bnd C.r28_0, ↓bnd C.r28_1, ↓bnd C.r28_2, ↓bnd C.r32_3, ↓bnd C.r32_4, ↓bnd C.r32_5, ↓bnd C.r32_6, ↓bnd C.r32_7, ↓bnd C.r32_8, ↓bnd C.r49_0, ↓bnd C.r50_0, ↓reduceIte, ↓Option.bind_some, if_true, if_false, true_and, and_true, and_self, true_or, or_true, false_or, or_false, not_true_eq_false, not_false_eq_true, Option.bind_some, somene, false_and, and_false, reduceCtorEq, Nat.reduceEqDiff, aa101, aa102, aa103, aa104, aa105, aa106, aa107, aa108, aa201, aa202, aa204, ar106, ar107, ar108, ofn, r, q_le_f, l0, l1, lm1, ka, hk, hlen, rs', ↓bnd rs', ↓bnd r, o1, o3, ↓bnd al', q_in, q_cl, q_bi0, q_nan, nI_add, hc, Bool.false_eq_true]
    · have hc2 : m &&& sB (dA D) x.1 x.2 = sB (dA D) x.1 x.2 := by
        unfold cO at hc
        rw [Bool.and_eq_true, decide_eq_true_eq] at hc
        exact hc.1
      have hl := an_sub hm4 x1 hc2
      have t1 := T1 _ hl
      have t2 := T2 _ hl
      have hle := clT_le D (an m (sB (dA D) x.1 x.2)) (by omega)
      simp (disch := omega) only [C.k20, C.k21, C.k22, C.k23, C.k24, C.k25, C.k26, C.k27, C.k28, C.k29, C.k30, C.k31, C.k32, C.k43, C.k44, C.k45, C.k46, C.k47, C.k48, C.k49, C.k50, C.k51, C.n21, C.n22, C.n24, C.n25, C.n26, C.n27, C.n29, C.n30, C.n31, C.n43, C.n44, C.n45, C.n46, C.n47, C.n48, C.n51, C.r20_0, C.r20_2, C.r20_4, C.r20_5, C.r20_6, C.r20_7, C.r20_8, C.r23_5, C.r23_6, C.r23_7, C.r28_0, C.r28_1, C.r28_2, C.r32_3, C.r32_4, C.r32_5, C.r32_6, C.r32_7, C.r32_8, C.r49_0, C.r50_0, ↓bnd C.r20_0, ↓bnd C.r20_2, ↓bnd C.r20_4, ↓bnd C.r20_5, ↓bnd C.r20_6, ↓bnd C.r20_7, ↓bnd C.r20_8, ↓bnd C.r23_5, ↓bnd C.r23_6, ↓bnd C.r23_7, ↓bnd C.r28_0, ↓bnd C.r28_1, ↓bnd C.r28_2, ↓bnd C.r32_3, ↓bnd C.r32_4, ↓bnd C.r32_5, ↓bnd C.r32_6, ↓bnd C.r32_7, ↓bnd C.r32_8, ↓bnd C.r49_0, ↓bnd C.r50_0, ↓reduceIte, ↓Option.bind_some, if_true, if_false, true_and, and_true, and_self, true_or, or_true, false_or, or_false, not_true_eq_false, not_false_eq_true, Option.bind_some, somene, false_and, and_false, reduceCtorEq, Nat.reduceEqDiff, aa101, aa102, aa103, aa104, aa105, aa106, aa107, aa108, aa201, aa202, aa204, ar106, ar107, ar108, ofn, r, q_le_f, l0, l1, lm1, ka, hk, hlen, rs', ↓bnd rs', ↓bnd r, o1, o3, ↓bnd al', q_in, q_cl, q_bi0, q_nan, nI_add, hc, Bool.true_eq_false, t1, t2, q_lt]
      unfold clG aT
      by_cases hb : q.1 < (clT D (an m (sB (dA D) x.1 x.2))).2
      · simp only [hb, if_true]
      · simp only [hb, if_false]
theorem Ta_cl_all (hF : Far F) (w : dW D) (I : CI F D a c h) : ∃ h', c_Ta_fillClever d (some 32) h = some h' ∧ Iq P47 h h' ∧ hI h' 32 13 = nI 1 ∧ clK D (2 ^ aN (dA D)) h' := by
  obtain ⟨h', e1, e2, e3, e4⟩ := gfill (P := P47) (K := fun m h => k_Ta_fillClever_20 d (some 32) (nI (ovN D)) (nI m) h) (N := 2 ^ aN (dA D)) (fun m h => wI (wI h 47 m (nI (clT D m).1)) 48 m (nI (clT D m).2)) (clK D) (CI F D a c) (fun h h' Q I => I.iq hF P47_C Q) (fun m h hm I T => ⟨Ta_cl_m hF w I hm T, (Iq.w h _ rfl).trans (Iq.w _ _ rfl), fun j hj => by rw [hI_wI, if_neg (fun q => by have := q.1; omega)]; exact T.1.s rfl j hj, fun j hj => by
    have := (T.2.s (v := nI (clT D m).2) rfl) j hj
    rw [hI_wI] at this ⊢
    by_cases hq : j = m
    · rw [if_pos ⟨rfl, hq⟩] at this ⊢; exact this
    · rw [if_neg (fun q => hq q.2)] at this ⊢
      rw [hI_wI, if_neg (fun q => by have := q.1; omega)]; exact this⟩) (2 ^ aN (dA D)) 0 h (by omega) I ⟨fun j hj => absurd hj (by omega), fun j hj => absurd hj (by omega)⟩
  obtain ⟨C0, O0, r0, _⟩ := I
  obtain ⟨C, O, r, e, _⟩ := e3
  have hp := pow12 w.1.1
  have ka := O0.k
  have il := O0.2.2.1.2.2.2.2.1
  refine ⟨wI h' 32 13 (nI 1), ?_, e2.trans (Iq.w h' _ rfl), ?_, fun j hj => ?_, fun j hj => ?_⟩
  · have e6 : k_Ta_fillClever_20 d (some 32) (nI (ovN D)) (nI 0) h = some (wI h' 32 13 (nI 1)) := by
      refine e1.trans ?_
      rw [e_Ta_fillClever_20]
      simp (disch := omega) only [C.k20, C.k21, C.k22, C.k23, C.k24, C.k25, C.k26, C.k27, C.k28, C.k29, C.k30, C.k31, C.k32, C.k43, C.k44, C.k45, C.k46, C.k47, C.k48, C.k49, C.k50, C.k51, C.n21, C.n22, C.n24, C.n25, C.n26, C.n27, C.n29, C.n30, C.n31, C.n43, C.n44, C.n45, C.n46, C.n47, C.n48, C.n51, C.r20_0, C.r20_2, C.r20_4, C.r20_5, C.r20_6, C.r20_7, C.r20_8, C.r23_5, C.r23_6, C.r23_7, C.r28_0, C.r28_1, C.r28_2, C.r32_3, C.r32_4, C.r32_5, C.r32_6, C.r32_7, C.r32_8, C.r49_0, C.r50_0, ↓bnd C.r20_0, ↓bnd C.r20_2, ↓bnd C.r20_4, ↓bnd C.r20_5, ↓bnd C.r20_6, ↓bnd C.r20_7, ↓bnd C.r20_8, ↓bnd C.r23_5, ↓bnd C.r23_6, ↓bnd C.r23_7, ↓bnd C.r28_0, ↓bnd C.r28_1, ↓bnd C.r28_2, ↓bnd C.r32_3, ↓bnd C.r32_4, ↓bnd C.r32_5, ↓bnd C.r32_6, ↓bnd C.r32_7, ↓bnd C.r32_8, ↓bnd C.r49_0, ↓bnd C.r50_0, ↓reduceIte, ↓Option.bind_some, if_true, if_false, true_and, and_true, and_self, true_or, or_true, false_or, or_false, not_true_eq_false, not_false_eq_true, Option.bind_some, somene, false_and, and_false, reduceCtorEq, Nat.reduceEqDiff, e, q_le_t, l0, l1]
    rw [← e6, e_Ta_fillClever]
    simp (disch := omega) only [C0.k32, ↓reduceIte, ↓Option.bind_some, if_true, if_false, true_and, and_true, and_self, true_or, or_true, false_or, or_false, not_true_eq_false, not_false_eq_true, Option.bind_some, somene, false_and, and_false, reduceCtorEq, Nat.reduceEqDiff, r0, ka, il, l0, l10000, q_bi0]
    unfold ovN
    cases dL D
    · simp only [↓reduceIte, ↓Option.bind_some, if_true, if_false, true_and, and_true, and_self, true_or, or_true, false_or, or_false, not_true_eq_false, not_false_eq_true, Option.bind_some, somene, false_and, and_false, reduceCtorEq, Nat.reduceEqDiff, Bool.false_eq_true]
    · simp only [↓reduceIte, ↓Option.bind_some, if_true, if_false, true_and, and_true, and_self, true_or, or_true, false_or, or_false, not_true_eq_false, not_false_eq_true, Option.bind_some, somene, false_and, and_false, reduceCtorEq, Nat.reduceEqDiff, Bool.true_eq_false]
  · rw [hI_wI, if_pos ⟨rfl, rfl⟩]
  · rw [hI_wI, if_neg (fun q => by have := q.1; omega)]; exact e4.1 j hj
  · rw [hI_wI, if_neg (fun q => by have := q.1; omega)]; exact e4.2 j hj
end SkChild
