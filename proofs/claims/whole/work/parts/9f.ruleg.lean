/-! ===== a rule's code: how it grows; descent and machine agree ===== -/
/-- from z to y the code grew by what turns a stack a into b; k bytes more were read than signs made -/
def Gx (T k : Nat) (a b : List Bool) (z y : RZ) : Prop := ∃ l : List (Nat × Nat), y.2.1 = z.2.1 ++ l ∧ (∀ st, tc l (a ++ st) = some (b ++ st)) ∧ (∀ o ∈ l, oW o) ∧ z.2.2 + pu l ≤ y.2.2 ∧ z.1 + l.length + k ≤ y.1 ∧ y.1 ≤ T ∧ y.2.2 ≤ 60
section SkRuleg
variable {t : Nat → Nat} {T p q n m dp k k' : Nat} {z z1 z2 y : RZ} {r : Nat ⊕ RZ} {a b c : List Bool} {f : RZ → Option (Nat ⊕ RZ)}
theorem tc_app : ∀ (l l' : List (Nat × Nat)) (s : List Bool), tc (l ++ l') s = (tc l s).bind (tc l')
  | [], l', s => rfl
  | o :: l, l', s => by
    show (tc1 o s).bind (tc (l ++ l')) = ((tc1 o s).bind (tc l)).bind (tc l')
    cases tc1 o s with
    | none => rfl
    | some s' => exact tc_app l l' s'
theorem pu_app (l l' : List (Nat × Nat)) : pu (l ++ l') = pu l + pu l' := List.countP_append ..
theorem Gx.tr (x : Gx T k a b z z1) (w : Gx T k' b c z1 z2) : Gx T (k + k') a c z z2 := by
  obtain ⟨l, e1, e2, e3, e4, e5, e6, e7⟩ := x
  obtain ⟨l', f1, f2, f3, f4, f5, f6, f7⟩ := w
  refine ⟨l ++ l', by rw [f1, e1, List.append_assoc], fun st => by rw [tc_app, e2]; exact f2 st, fun o ho => ?_, by rw [pu_app]; omega, by rw [List.length_append]; omega, f6, f7⟩
  rcases List.mem_append.mp ho with h | h
  · exact e3 o h
  · exact f3 o h
theorem Gx.at (hp : z.1 + k ≤ p) (hT : p ≤ T) (hm : z.2.2 ≤ 60) : Gx T k a a z (zAt z p) := ⟨[], by show z.2.1 = _; rw [List.append_nil], fun st => rfl, fun o ho => (by cases ho), by show z.2.2 + 0 ≤ z.2.2; omega, by show z.1 + 0 + k ≤ p; omega, hT, hm⟩
theorem Gx.em (x : Gx T (k + 1) a b z z1) {o : Nat} (ho : 2 ≤ o ∧ o ≤ 14) (hc : ∀ st, tc1 (o, 0) (b ++ st) = some (c ++ st)) : Gx T k a c z (zE z1 o) := by
  obtain ⟨l, e1, e2, e3, e4, e5, e6, e7⟩ := x
  refine ⟨l ++ [(o, 0)], by show z1.2.1 ++ _ = _; rw [e1, List.append_assoc], fun st => ?_, fun x hx => ?_, ?_, ?_, e6, e7⟩
  · rw [tc_app, e2]
    show (tc1 (o, 0) (b ++ st)).bind (tc []) = _
    rw [hc]
    rfl
  · rcases List.mem_append.mp hx with h | h
    · exact e3 x h
    · rw [List.mem_singleton.mp h]
      exact Or.inr (Or.inr ⟨ho.1, ho.2, rfl⟩)
  · rw [pu_app]
    show z.2.2 + (pu l + pu [(o, 0)]) ≤ z1.2.2
    have : pu [(o, 0)] = 0 := by unfold pu; rw [List.countP_cons_of_neg (by show ¬ decide (o ≤ 1) = true; simp; omega)]; rfl
    omega
  · rw [List.length_append]
    show z.1 + (l.length + 1) + k ≤ z1.1
    omega
theorem Gx.le (x : Gx T k a b z z1) (h : k' ≤ k) : Gx T k' a b z z1 := by
  obtain ⟨l, e1, e2, e3, e4, e5, e6, e7⟩ := x
  exact ⟨l, e1, e2, e3, e4, by omega, e6, e7⟩
theorem wxN_mem (l : List Nat) : ∀ (ws : List (List Nat)) (n k : Nat), wxN l ws n = some k → l ∈ ws
  | [], n, k, e => by cases e
  | w :: r, n, k, e => by
    unfold wxN at e
    by_cases h : l = w
    · rw [h]; exact List.mem_cons_self ..
    · rw [if_neg h] at e
      exact List.mem_cons_of_mem _ (wxN_mem l r (n + 1) k e)
theorem zMk_in {l : List (Nat × Nat)} (e : zMk p q l m = .inr y) : m ≠ 60 ∧ y = (p, l, m + 1) := by
  unfold zMk at e
  by_cases h : m = 60
  · rw [if_pos h] at e; cases e
  · rw [if_neg h] at e
    exact ⟨h, (Sum.inr.inj e).symm⟩
theorem valP_g (hz : z.1 ≤ T) (hm : z.2.2 ≤ 60) (e : valP t T z = .inr y) : Gx T 0 a (false :: a) z y := by
  have hq := nxt_le (t := t) hz
  unfold valP at e
  by_cases h : dgt t T (nxt t T z.1) = true
  · rw [if_pos h] at e
    cases hn : nmR t T z.1 0 100000 with
    | inl g => rw [hn] at e; cases e
    | inr x =>
      obtain ⟨e0, v⟩ := x
      rw [hn] at e
      obtain ⟨h60, e⟩ := zMk_in e
      have hv := nmR_in hn
      have he : nxt t T z.1 < e0 ∧ e0 ≤ T := by
        unfold nmR at hn
        rw [if_pos h] at hn
        by_cases h2 : dgE t T (nxt t T z.1) ≤ nxt t T z.1 + 5 ∧ 0 ≤ nv 0 0 (dl t T (nxt t T z.1)) ∧ nv 0 0 (dl t T (nxt t T z.1)) < 100000
        · rw [if_pos h2] at hn
          have := (Prod.mk.inj (Sum.inr.inj hn)).1
          have hd := dgE_le (t := t) hq.2
          have : dgE t T (nxt t T z.1) = dgE t T (nxt t T z.1 + 1) := dgE_c h
          have hd2 := dgE_le (t := t) (T := T) (p := nxt t T z.1 + 1) (by have := (of_decide_eq_true h).1; omega)
          omega
        · rw [if_neg h2] at hn; cases hn
      subst e
      exact ⟨[(0, v)], rfl, fun st => rfl, fun o ho => by rw [List.mem_singleton.mp ho]; exact Or.inl ⟨rfl, by show v ≤ 99999; omega⟩, by show z.2.2 + 1 ≤ z.2.2 + 1; omega, by show z.1 + 1 + 0 ≤ e0; omega, he.2, by show z.2.2 + 1 ≤ 60; omega⟩
  · rw [if_neg h] at e
    cases hw : wxN (wdl t T (nxt t T z.1)) rWs 0 with
    | none => rw [hw] at e; cases e
    | some k =>
      rw [hw] at e
      obtain ⟨h60, e⟩ := zMk_in e
      have hk : k < 11 := wxN_lt _ rWs 0 k hw
      have hl : 0 < (wdl t T (nxt t T z.1)).length := by
        have y : ∀ w ∈ rWs, 0 < w.length := by decide
        exact y _ (wxN_mem _ rWs 0 k hw)
      have hE := wE_le (t := t) hq.2
      subst e
      refine ⟨[(1, k)], rfl, fun st => rfl, fun o ho => by rw [List.mem_singleton.mp ho]; exact Or.inr (Or.inl ⟨rfl, by show k ≤ 10; omega⟩), by show z.2.2 + 1 ≤ z.2.2 + 1; omega, ?_, hE.2, by show z.2.2 + 1 ≤ 60; omega⟩
      show z.1 + 1 + 0 ≤ wE t T (nxt t T z.1)
      unfold wE
      omega
theorem oB_in {x : Option (Nat ⊕ RZ)} (e : oB x f = some (.inr y)) : ∃ z1, x = some (.inr z1) ∧ f z1 = some (.inr y) := by
  cases x with
  | none => cases e
  | some w =>
    cases w with
    | inl g => cases e
    | inr z1 => exact ⟨z1, rfl, e⟩
theorem tS_in {c o : Nat} (e : tS c = some o) : o = 4 ∨ o = 5 ∨ o = 14 := by
  unfold tS at e
  by_cases h1 : c = 42
  · rw [if_pos h1] at e; exact Or.inl (Option.some.inj e).symm
  · rw [if_neg h1] at e
    by_cases h2 : c = 47
    · rw [if_pos h2] at e; exact Or.inr (Or.inl (Option.some.inj e).symm)
    · rw [if_neg h2] at e
      by_cases h3 : c = 37
      · rw [if_pos h3] at e; exact Or.inr (Or.inr (Option.some.inj e).symm)
      · rw [if_neg h3] at e; cases e
theorem adS_in {c o : Nat} (e : adS c = some o) : o = 2 ∨ o = 3 := by
  unfold adS at e
  by_cases h1 : c = 43
  · rw [if_pos h1] at e; exact Or.inl (Option.some.inj e).symm
  · rw [if_neg h1] at e
    by_cases h2 : c = 45
    · rw [if_pos h2] at e; exact Or.inr (Option.some.inj e).symm
    · rw [if_neg h2] at e; cases e
theorem sgA_in {F : Nat → Option Nat} {o : Nat} (e : sgA F t T q = some o) : q < T ∧ F (t q) = some o := by
  unfold sgA at e
  by_cases h : q < T
  · rw [if_pos h] at e; exact ⟨h, e⟩
  · rw [if_neg h] at e; cases e
theorem Gx.mm (x : Gx T k a b z z1) : z1.2.2 ≤ 60 ∧ z1.1 ≤ T ∧ z.1 + k ≤ z1.1 := by
  obtain ⟨l, e1, e2, e3, e4, e5, e6, e7⟩ := x
  exact ⟨e7, e6, by omega⟩
theorem tLo_g : ∀ (n : Nat) (z y : RZ), z.1 ≤ T → z.2.2 ≤ 60 → tLo t T n z = some (.inr y) → Gx T 0 (false :: a) (false :: a) z y
  | 0, z, y, hz, hm, e => by cases e
  | n + 1, z, y, hz, hm, e => by
    have hq := nxt_le (t := t) hz
    unfold tLo at e
    cases hs : sgA tS t T (nxt t T z.1) with
    | none =>
      rw [hs] at e
      have := Sum.inr.inj (Option.some.inj e)
      subst this
      exact Gx.at (by omega) hq.2 hm
    | some o =>
      rw [hs] at e
      obtain ⟨h1, h2⟩ := sgA_in hs
      have ho := tS_in h2
      obtain ⟨z1, e1, e2⟩ := oB_in e
      have g0 : Gx T 1 (false :: a) (false :: a) z (zAt z (nxt t T z.1 + 1)) := Gx.at (by omega) (by omega) hm
      have g1 := valP_g (a := false :: a) (show (zAt z (nxt t T z.1 + 1)).1 ≤ T by show nxt t T z.1 + 1 ≤ T; omega) hm (Option.some.inj e1)
      have g2 : Gx T 0 (false :: a) (false :: a) z (zE z1 o) := (g0.tr g1).em (by omega) (fun st => by rcases ho with rfl | rfl | rfl <;> rfl)
      exact (g2.tr (tLo_g n _ y g2.mm.2.1 g2.mm.1 e2)).le (by omega)
theorem sLo_g : ∀ (n : Nat) (z y : RZ), z.1 ≤ T → z.2.2 ≤ 60 → sLo t T n z = some (.inr y) → Gx T 0 (false :: a) (false :: a) z y
  | 0, z, y, hz, hm, e => by cases e
  | n + 1, z, y, hz, hm, e => by
    have hq := nxt_le (t := t) hz
    unfold sLo at e
    cases hs : sgA adS t T (nxt t T z.1) with
    | none =>
      rw [hs] at e
      have := Sum.inr.inj (Option.some.inj e)
      subst this
      exact Gx.at (by omega) hq.2 hm
    | some o =>
      rw [hs] at e
      obtain ⟨h1, h2⟩ := sgA_in hs
      have ho := adS_in h2
      obtain ⟨z1, e1, e2⟩ := oB_in e
      obtain ⟨z2, e3, e4⟩ := oB_in e2
      have g0 : Gx T 1 (false :: a) (false :: a) z (zAt z (nxt t T z.1 + 1)) := Gx.at (by omega) (by omega) hm
      have g1 := valP_g (a := false :: a) (show (zAt z (nxt t T z.1 + 1)).1 ≤ T by show nxt t T z.1 + 1 ≤ T; omega) hm (Option.some.inj e1)
      have g2 := tLo_g (a := false :: a) n z1 z2 g1.mm.2.1 g1.mm.1 e3
      have g3 : Gx T 0 (false :: a) (false :: a) z (zE z2 o) := (((g0.tr g1).tr g2).le (show 1 ≤ 1 + 0 + 0 by omega)).em (by omega) (fun st => by rcases ho with rfl | rfl <;> rfl)
      exact (g3.tr (sLo_g n _ y g3.mm.2.1 g3.mm.1 e4)).le (by omega)
theorem sumP_g (hz : z.1 ≤ T) (hm : z.2.2 ≤ 60) (e : sumP t T n z = some (.inr y)) : Gx T 0 a (false :: a) z y := by
  obtain ⟨z1, e1, e2⟩ := oB_in e
  obtain ⟨z2, e3, e4⟩ := oB_in e2
  have g1 := valP_g (a := a) hz hm (Option.some.inj e1)
  have g2 := tLo_g (a := a) n z1 z2 g1.mm.2.1 g1.mm.1 e3
  have g3 := sLo_g (a := a) n z2 y g2.mm.2.1 g2.mm.1 e4
  exact ((g1.tr g2).tr g3).le (by omega)
theorem sgC_in {o e0 : Nat} (e : sgC t T q = some (o, e0)) : q < e0 ∧ e0 ≤ T ∧ 6 ≤ o ∧ o ≤ 10 := by
  unfold sgC at e
  by_cases h : q < T
  · rw [if_pos h] at e
    by_cases h1 : t q = 60
    · rw [if_pos h1] at e
      by_cases h2 : q + 1 < T ∧ t (q + 1) = 61
      · rw [if_pos h2] at e
        have := Prod.mk.inj (Option.some.inj e)
        omega
      · rw [if_neg h2] at e
        have := Prod.mk.inj (Option.some.inj e)
        omega
    · rw [if_neg h1] at e
      by_cases h3 : t q = 61
      · rw [if_pos h3] at e
        have := Prod.mk.inj (Option.some.inj e)
        omega
      · rw [if_neg h3] at e
        by_cases h4 : t q = 62
        · rw [if_pos h4] at e
          by_cases h2 : q + 1 < T ∧ t (q + 1) = 61
          · rw [if_pos h2] at e
            have := Prod.mk.inj (Option.some.inj e)
            omega
          · rw [if_neg h2] at e
            have := Prod.mk.inj (Option.some.inj e)
            omega
        · rw [if_neg h4] at e; cases e
  · rw [if_neg h] at e; cases e
theorem zMk_g {z : RZ} (hp : z.1 + k ≤ p) (hT : p ≤ T) (hm : z.2.2 ≤ 60) (e : zMk p q z.2.1 z.2.2 = .inr y) : Gx T k a a z y := by
  obtain ⟨h60, e⟩ := zMk_in e
  subst e
  exact ⟨[], by show z.2.1 = _; rw [List.append_nil], fun st => rfl, fun o ho => (by cases ho), by show z.2.2 + 0 ≤ z.2.2 + 1; omega, by show z.1 + 0 + k ≤ p; omega, hT, by show z.2.2 + 1 ≤ 60; omega⟩
theorem cmpP_g (hz : z.1 ≤ T) (hm : z.2.2 ≤ 60) (e : cmpP t T n z = some (.inr y)) : Gx T 0 a (true :: a) z y := by
  obtain ⟨z1, e1, e2⟩ := oB_in e
  have g1 := sumP_g (a := a) hz hm e1
  have hq := nxt_le (t := t) g1.mm.2.1
  cases hs : sgC t T (nxt t T z1.1) with
  | none => rw [hs] at e2; cases e2
  | some x =>
    obtain ⟨o, e0⟩ := x
    rw [hs] at e2
    have hc := sgC_in hs
    obtain ⟨z2, e3, e4⟩ := oB_in e2
    obtain ⟨z3, e5, e6⟩ := oB_in e4
    have := Sum.inr.inj (Option.some.inj e6)
    subst this
    have g2 : Gx T 1 (false :: a) (false :: a) z1 z2 := zMk_g (by omega) hc.2.1 g1.mm.1 (Option.some.inj e3)
    have g3 := sumP_g (a := false :: a) g2.mm.2.1 g2.mm.1 e5
    refine (((g1.tr g2).tr g3).le (show 1 ≤ 0 + 1 + 0 by omega)).em (by omega) (fun st => ?_)
    rcases (show o = 6 ∨ o = 7 ∨ o = 8 ∨ o = 9 ∨ o = 10 by omega) with rfl | rfl | rfl | rfl | rfl <;> rfl
/-- a parser of facts grows code so -/
def Fg (T : Nat) (f : RZ → Option (Nat ⊕ RZ)) : Prop := ∀ z y a, z.1 ≤ T → z.2.2 ≤ 60 → f z = some (.inr y) → Gx T 0 a (true :: a) z y
theorem wE_gt {w : List Nat} (h : wdl t T q = w) (hw : 0 < w.length) : q + 1 ≤ wE t T q := by
  unfold wE
  rw [h]
  omega
theorem parL_g (F : Fg T f) : ∀ (n : Nat) (z y : RZ), z.1 ≤ T → z.2.2 ≤ 60 → parL t T f n z = some (.inr y) → Gx T 0 (true :: a) (true :: a) z y
  | 0, z, y, hz, hm, e => by cases e
  | n + 1, z, y, hz, hm, e => by
    have hq := nxt_le (t := t) hz
    unfold parL at e
    by_cases h : wdl t T (nxt t T z.1) = wAnd
    · rw [if_pos h] at e
      have hE := (wE_le (t := t) hq.2).2
      have hE1 := wE_gt h (by decide)
      obtain ⟨z1, e1, e2⟩ := oB_in e
      have g0 : Gx T 1 (true :: a) (true :: a) z (zAt z (wE t T (nxt t T z.1))) := Gx.at (by omega) hE hm
      have g1 := F (zAt z (wE t T (nxt t T z.1))) z1 (true :: a) hE hm e1
      have g2 : Gx T 0 (true :: a) (true :: a) z (zE z1 12) := (g0.tr g1).em (by omega) (fun st => rfl)
      exact (g2.tr (parL_g F n _ y g2.mm.2.1 g2.mm.1 e2)).le (by omega)
    · rw [if_neg h] at e
      have := Sum.inr.inj (Option.some.inj e)
      subst this
      exact Gx.at (by omega) hq.2 hm
theorem parP_g (F : Fg T f) (hz : z.1 ≤ T) (hm : z.2.2 ≤ 60) (e : parP t T f n z = some (.inr y)) : Gx T 0 a (true :: a) z y := by
  obtain ⟨z1, e1, e2⟩ := oB_in e
  have g1 := F _ z1 a hz hm e1
  exact (g1.tr (parL_g F n _ y g1.mm.2.1 g1.mm.1 e2)).le (by omega)
theorem tesL_g (F : Fg T f) : ∀ (n : Nat) (z y : RZ), z.1 ≤ T → z.2.2 ≤ 60 → tesL t T f n z = some (.inr y) → Gx T 0 (true :: a) (true :: a) z y
  | 0, z, y, hz, hm, e => by cases e
  | n + 1, z, y, hz, hm, e => by
    have hq := nxt_le (t := t) hz
    unfold tesL at e
    by_cases h : wdl t T (nxt t T z.1) = wOr
    · rw [if_pos h] at e
      have hE := (wE_le (t := t) hq.2).2
      have hE1 := wE_gt h (by decide)
      obtain ⟨z1, e1, e2⟩ := oB_in e
      have g0 : Gx T 1 (true :: a) (true :: a) z (zAt z (wE t T (nxt t T z.1))) := Gx.at (by omega) hE hm
      have g1 := parP_g (a := true :: a) F (show (zAt z (wE t T (nxt t T z.1))).1 ≤ T from hE) hm e1
      have g2 : Gx T 0 (true :: a) (true :: a) z (zE z1 13) := (g0.tr g1).em (by omega) (fun st => rfl)
      exact (g2.tr (tesL_g F n _ y g2.mm.2.1 g2.mm.1 e2)).le (by omega)
    · rw [if_neg h] at e
      have := Sum.inr.inj (Option.some.inj e)
      subst this
      exact Gx.at (by omega) hq.2 hm
theorem tesP_g (F : Fg T f) (hz : z.1 ≤ T) (hm : z.2.2 ≤ 60) (e : tesP t T f n z = some (.inr y)) : Gx T 0 a (true :: a) z y := by
  obtain ⟨z1, e1, e2⟩ := oB_in e
  have g1 := parP_g (a := a) F hz hm e1
  exact (g1.tr (tesL_g F n _ y g1.mm.2.1 g1.mm.1 e2)).le (by omega)
theorem facP_g : ∀ (n dp : Nat), Fg T (facP t T n dp)
  | 0, dp, z, y, a, hz, hm, e => by cases e
  | n + 1, dp, z, y, a, hz, hm, e => by
    have hq := nxt_le (t := t) hz
    unfold facP at e
    by_cases h : wdl t T (nxt t T z.1) = wNot
    · rw [if_pos h] at e
      by_cases h2 : 10 ≤ dp
      · rw [if_pos h2] at e; cases e
      · rw [if_neg h2] at e
        have hE := (wE_le (t := t) hq.2).2
        have hE1 := wE_gt h (by decide)
        obtain ⟨z1, e1, e2⟩ := oB_in e
        have := Sum.inr.inj (Option.some.inj e2)
        subst this
        have g0 : Gx T 1 a a z (zAt z (wE t T (nxt t T z.1))) := Gx.at (by omega) hE hm
        have g1 := facP_g n (dp + 1) (zAt z (wE t T (nxt t T z.1))) z1 a hE hm e1
        exact (g0.tr g1).em (by omega) (fun st => rfl)
    · rw [if_neg h] at e
      by_cases h3 : nxt t T z.1 < T ∧ t (nxt t T z.1) = 91
      · rw [if_pos h3] at e
        by_cases h2 : 10 ≤ dp
        · rw [if_pos h2] at e; cases e
        · rw [if_neg h2] at e
          obtain ⟨z1, e1, e2⟩ := oB_in e
          have g0 : Gx T 0 a a z (zAt z (nxt t T z.1 + 1)) := Gx.at (by omega) (by omega) hm
          have g1 := tesP_g (a := a) (facP_g n (dp + 1)) (show (zAt z (nxt t T z.1 + 1)).1 ≤ T by show nxt t T z.1 + 1 ≤ T; omega) hm e1
          have e2 := Option.some.inj e2
          have hq1 := nxt_le (t := t) g1.mm.2.1
          unfold clsP at e2
          by_cases h4 : nxt t T z1.1 < T ∧ t (nxt t T z1.1) = 93
          · rw [if_pos h4] at e2
            have := Sum.inr.inj e2
            subst this
            have g2 : Gx T 0 (true :: a) (true :: a) z1 (zAt z1 (nxt t T z1.1 + 1)) := Gx.at (by omega) (by omega) g1.mm.1
            exact ((g0.tr g1).tr g2).le (by omega)
          · rw [if_neg h4] at e2; cases e2
      · rw [if_neg h3] at e
        have g0 : Gx T 0 a a z (zAt z (nxt t T z.1)) := Gx.at (by omega) hq.2 hm
        have g1 := cmpP_g (a := a) (show (zAt z (nxt t T z.1)).1 ≤ T from hq.2) hm e
        exact (g0.tr g1).le (by omega)
/-- descent and machine agree on a fact -/
theorem facP_m : ∀ (n dp : Nat), dp ≤ 10 → Fm t T (facP t T n dp) dp
  | 0, dp, hd, z, r, hz, e, s, hs => by cases e
  | n + 1, dp, hd, z, r, hz, e, s, hs => by
    have hq := nxt_le (t := t) hz.1
    unfold facP at e
    by_cases h : wdl t T (nxt t T z.1) = wNot
    · rw [if_pos h] at e
      by_cases h2 : 10 ≤ dp
      · rw [if_pos h2] at e
        have e := Option.some.inj e
        refine ⟨fun g hg => ⟨1, ?_⟩, fun z1 hz1 => by rw [← e] at hz1; cases hz1⟩
        unfold mch
        rw [if_pos h, if_pos (by omega), ← hg, ← e]
      · rw [if_neg h2] at e
        have hE := (wE_le (t := t) hq.2).2
        have d11 : dpS (11 :: s) = dp + 1 := by show (if 11 = 11 ∨ 11 = 91 then 1 else 0) + dpS s = dp + 1; rw [if_pos (by decide), hs]; omega
        have back : ∀ m x, mch t T m true (11 :: s) (zAt z (wE t T (nxt t T z.1))) = some x → mch t T (m + 1) true s z = some x := by
          intro m x hx
          unfold mch
          rw [if_pos h, if_neg (by omega)]
          exact hx
        cases hf : facP t T n (dp + 1) (zAt z (wE t T (nxt t T z.1))) with
        | none => rw [hf] at e; cases e
        | some x =>
          obtain ⟨F1, F2⟩ := facP_m n (dp + 1) (by omega) (zAt z (wE t T (nxt t T z.1))) x ⟨hE, hz.2⟩ hf (11 :: s) d11
          rw [hf] at e
          cases x with
          | inl g0 =>
            have e := Option.some.inj e
            refine ⟨fun g hg => ?_, fun z1 hz1 => by rw [← e] at hz1; cases hz1⟩
            obtain ⟨m, hm⟩ := F1 g (e.trans hg)
            exact ⟨m + 1, back m _ hm⟩
          | inr z2 =>
            obtain ⟨z2T, F2⟩ := F2 z2 rfl
            have e : some (.inr (zE z2 11)) = some r := e
            have e := Option.some.inj e
            refine ⟨fun g hg => (by rw [← e] at hg; cases hg), fun z1 hz1 => ?_⟩
            have e1 : z1 = zE z2 11 := Sum.inr.inj (hz1.symm.trans e.symm)
            subst e1
            refine ⟨z2T, fun m x hx => ?_⟩
            rw [← mch_11] at hx
            obtain ⟨m', hm'⟩ := F2 m x hx
            exact ⟨m' + 1, back m' _ hm'⟩
    · rw [if_neg h] at e
      by_cases h3 : nxt t T z.1 < T ∧ t (nxt t T z.1) = 91
      · rw [if_pos h3] at e
        by_cases h2 : 10 ≤ dp
        · rw [if_pos h2] at e
          have e := Option.some.inj e
          refine ⟨fun g hg => ⟨1, ?_⟩, fun z1 hz1 => by rw [← e] at hz1; cases hz1⟩
          unfold mch
          rw [if_neg h, if_pos h3, if_pos (by omega), ← hg, ← e]
        · rw [if_neg h2] at e
          have d91 : dpS (91 :: s) = dp + 1 := by show (if 91 = 11 ∨ 91 = 91 then 1 else 0) + dpS s = dp + 1; rw [if_pos (by decide), hs]; omega
          have h391 : hd3 (91 :: s) := fun x r e => by
            have := (List.cons.inj e).1
            rw [← this]; decide
          have back : ∀ m x, mch t T m true (91 :: s) (zAt z (nxt t T z.1 + 1)) = some x → mch t T (m + 1) true s z = some x := by
            intro m x hx
            unfold mch
            rw [if_neg h, if_pos h3, if_neg (by omega)]
            exact hx
          cases hf : tesP t T (facP t T n (dp + 1)) n (zAt z (nxt t T z.1 + 1)) with
          | none => rw [hf] at e; cases e
          | some x =>
            obtain ⟨F1, F2⟩ := tesP_m (facP_m n (dp + 1) (by omega)) (z := zAt z (nxt t T z.1 + 1)) ⟨by show nxt t T z.1 + 1 ≤ T; omega, hz.2⟩ hf d91 h391 (fun r e => by have := (List.cons.inj e).1; omega)
            rw [hf] at e
            cases x with
            | inl g0 =>
              have e := Option.some.inj e
              refine ⟨fun g hg => ?_, fun z1 hz1 => by rw [← e] at hz1; cases hz1⟩
              obtain ⟨m, hm⟩ := F1 g (e.trans hg)
              exact ⟨m + 1, back m _ hm⟩
            | inr z2 =>
              obtain ⟨z2T, z2N, z2A, z2O, F2⟩ := F2 z2 rfl
              have e : some (clsP t T z2) = some r := e
              have e := Option.some.inj e
              unfold clsP at e
              have s3 : stl 3 (91 :: s) z2 = (91 :: s, z2) := rfl
              have s1 : stl 1 (91 :: s) z2 = (91 :: s, z2) := rfl
              have is : insS (91 :: s) = true := by unfold insS; simp
              by_cases h4 : nxt t T z2.1 < T ∧ t (nxt t T z2.1) = 93
              · rw [if_pos h4] at e
                refine ⟨fun g hg => (by rw [← e] at hg; cases hg), fun z1 hz1 => ?_⟩
                have e1 : z1 = zAt z2 (nxt t T z2.1 + 1) := Sum.inr.inj (hz1.symm.trans e.symm)
                subst e1
                refine ⟨⟨by show nxt t T z2.1 + 1 ≤ T; omega, z2T.2⟩, fun m x hx => ?_⟩
                obtain ⟨m', hm'⟩ := F2 (m + 1) x (by
                  unfold mch
                  simp only [s3, s1]
                  rw [if_pos ⟨h4, is⟩]
                  exact hx)
                exact ⟨m' + 1, back m' _ hm'⟩
              · rw [if_neg h4] at e
                refine ⟨fun g hg => ?_, fun z1 hz1 => by rw [← e] at hz1; cases hz1⟩
                obtain ⟨m', hm'⟩ := F2 1 (.inl (1 + 8 * nxt t T z2.1 + 0)) (by
                  unfold mch
                  simp only [s3, s1]
                  rw [if_neg (fun y => h4 y.1), if_neg z2A, if_neg z2O, if_pos is])
                refine ⟨m' + 1, back m' _ ?_⟩
                rw [hm', ← hg, ← e]
      · rw [if_neg h3] at e
        cases r with
        | inl g0 =>
          refine ⟨fun g hg => ⟨n + 1, ?_⟩, fun z1 hz1 => by cases hz1⟩
          unfold mch
          rw [if_neg h, if_neg h3, e, hg]
          rfl
        | inr z2 =>
          have g1 := cmpP_g (a := []) (show (zAt z (nxt t T z.1)).1 ≤ T from hq.2) hz.2 e
          refine ⟨fun g hg => (by cases hg), fun z1 hz1 => ?_⟩
          have := Sum.inr.inj hz1
          subst this
          refine ⟨⟨g1.mm.2.1, g1.mm.1⟩, fun m x hx => ⟨max n m + 1, ?_⟩⟩
          unfold mch
          rw [if_neg h, if_neg h3, cmpP_mn (Nat.le_max_left n m) _ _ e]
          exact mch_mn m (max n m) (Nat.le_max_right n m) _ _ _ _ hx
/-- a whole test -/
theorem tesP_top (hz : zOk T z) (e : tesP t T (facP t T n 0) n z = some r) : ∃ m, mch t T m true [] z = some r := by
  obtain ⟨F1, F2⟩ := tesP_m (facP_m n 0 (by omega)) hz e (s := []) rfl (fun x r e => by cases e) (fun r e => by cases e)
  cases r with
  | inl g => exact F1 g rfl
  | inr z1 =>
    obtain ⟨z1T, z1N, z1A, z1O, F2⟩ := F2 z1 rfl
    refine F2 1 _ ?_
    unfold mch
    show (if (nxt t T z1.1 < T ∧ t (nxt t T z1.1) = 93) ∧ insS [] = true then _ else _) = _
    rw [if_neg (fun y => by have := y.2; cases this), if_neg z1A, if_neg z1O]
    show some (Sum.inr (zAt z1 (nxt t T z1.1)) : Nat ⊕ RZ) = some (Sum.inr z1)
    rw [z1N]
    rfl
end SkRuleg
