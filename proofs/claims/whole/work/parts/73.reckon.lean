/-! ===== a rule is reckoned: the class, the reference ===== -/
def jn (s : Nat) (x y : Int64) : Int64 := match s with
  | 2 => x + y
  | 3 => x - y
  | 4 => x * y
  | 5 => if lg_cmp y 0 = 0 then 0 else x / y
  | 6 => if 0 ≤ lg_cmp x y then 0 else 1
  | 7 => if 0 < lg_cmp x y then 0 else 1
  | 8 => if ¬ lg_cmp x y = 0 then 0 else 1
  | 9 => if lg_cmp x y < 0 then 0 else 1
  | 10 => if lg_cmp x y ≤ 0 then 0 else 1
  | 12 => x &&& y
  | 14 => if lg_cmp y 0 = 0 then 0 else x - x / y * y
  | _ => x ||| y
theorem st_div {h : sk_H} {y v : Int64} : (if ¬ lg_cmp y 0 = 0 then (if ¬ y = 0 then some (h, v) else none) else some (h, (0 : Int64))) = some (h, if lg_cmp y 0 = 0 then 0 else v) := by
  by_cases q : lg_cmp y 0 = 0
  · rw [if_neg (fun r => r q), if_pos q]
  · rw [if_pos q, if_neg q, if_pos (fun r => q (by rw [r]; decide))]
theorem st_ite {h : sk_H} {c : Prop} [Decidable c] {a b : Int64} : (if c then some (h, a) else some (h, b)) = some (h, if c then a else b) := by
  by_cases q : c
  · rw [if_pos q, if_pos q]
  · rw [if_neg q, if_neg q]
theorem st_nite {h : sk_H} {c : Prop} [Decidable c] {a b : Int64} : (if ¬ c then some (h, a) else some (h, b)) = some (h, if c then b else a) := by
  by_cases q : c
  · rw [if_neg (fun r => r q), if_pos q]
  · rw [if_pos q, if_neg q]
section SkReck
variable {F G : Nat → Prop} {h h' h1 h2 : sk_H} {a m n i s k : Nat} {d : Nat} {R : RT} {x y : Int64}
theorem M_one_ok (h2s : 2 ≤ s) (hs : s ≤ 14) : c_M_one d (nI s) x y h = some (h, jn s x y) := by
  rw [e_M_one]
  rcases (show s = 2 ∨ s = 3 ∨ s = 4 ∨ s = 5 ∨ s = 6 ∨ s = 7 ∨ s = 8 ∨ s = 9 ∨ s = 10 ∨ s = 11 ∨ s = 12 ∨ s = 13 ∨ s = 14 by omega) with rfl | rfl | rfl | rfl | rfl | rfl | rfl | rfl | rfl | rfl | rfl | rfl | rfl <;> simp (decide := true) only [↓reduceIte, st_div, st_ite, st_nite] <;> rfl
theorem Ru_join_ok (h2s : 2 ≤ s) (hs : s ≤ 14) (h11 : s ≠ 11) : c_Ru_join d (oC (s, 0)) x y h = some (h, jn s x y) := by
  rw [e_Ru_join]
  rcases (show s = 2 ∨ s = 3 ∨ s = 4 ∨ s = 5 ∨ s = 6 ∨ s = 7 ∨ s = 8 ∨ s = 9 ∨ s = 10 ∨ s = 12 ∨ s = 13 ∨ s = 14 by omega) with rfl | rfl | rfl | rfl | rfl | rfl | rfl | rfl | rfl | rfl | rfl | rfl <;> simp (decide := true) only [oC, ↓reduceIte, st_div, st_ite, st_nite] <;> rfl
/-- one sign of a rule's code -/
def ev1 (wv : Nat → Int64) (o : Nat × Nat) (s : List Int64) : List Int64 :=
  if o.1 = 0 then tL o.2 :: s else if o.1 = 1 then wv o.2 :: s else match s with
  | [] => []
  | a :: r => if o.1 = 11 then (1 - a) :: r else match r with
    | [] => []
    | b :: t => jn o.1 b a :: t
def evl (wv : Nat → Int64) : List (Nat × Nat) → List Int64 → List Int64
  | [], s => s
  | o :: l, s => evl wv l (ev1 wv o s)
/-- what lies on the stack fits its kinds: a truth is 0 or 1 -/
def kOk : List Bool → List Int64 → Prop
  | [], [] => True
  | b :: ks, v :: s => (b = true → v = 0 ∨ v = 1) ∧ kOk ks s
  | _, _ => False
theorem kOk_len : ∀ {ks : List Bool} {s : List Int64}, kOk ks s → ks.length = s.length
  | [], [], _ => rfl
  | b :: ks, v :: s, h => by
    rw [List.length_cons, List.length_cons, kOk_len h.2]
  | [], _ :: _, h => h.elim
  | _ :: _, [], h => h.elim
theorem jn_01 (hs : 6 ≤ s ∧ s ≤ 10) : jn s x y = 0 ∨ jn s x y = 1 := by
  rcases (show s = 6 ∨ s = 7 ∨ s = 8 ∨ s = 9 ∨ s = 10 by omega) with rfl | rfl | rfl | rfl | rfl <;> unfold jn <;> simp only [] <;> split <;> simp
theorem ev1_ok {wv : Nat → Int64} {o : Nat × Nat} {ks ks' : List Bool} {s : List Int64} (hk : kOk ks s) (ht : tc1 o ks = some ks') : kOk ks' (ev1 wv o s) := by
  unfold tc1 at ht
  unfold ev1
  by_cases q1 : o.1 ≤ 1
  · rw [if_pos q1] at ht
    cases ht
    by_cases q0 : o.1 = 0
    · rw [if_pos q0]; exact ⟨fun q => (by cases q), hk⟩
    · rw [if_neg q0, if_pos (by omega)]; exact ⟨fun q => (by cases q), hk⟩
  · rw [if_neg q1] at ht
    rw [if_neg (by omega), if_neg (by omega)]
    by_cases q11 : o.1 = 11
    · rw [if_pos q11] at ht
      cases ks with
      | nil => cases ht
      | cons b ks =>
        cases b
        · cases ht
        · cases s with
          | nil => exact hk.elim
          | cons v s =>
            have ht : some (true :: ks) = some ks' := ht
            cases ht
            show kOk (true :: ks) (if o.1 = 11 then (1 - v) :: s else _)
            rw [if_pos q11]
            refine ⟨fun _ => ?_, hk.2⟩
            rcases hk.1 rfl with e | e <;> rw [e]
            · exact Or.inr (by decide)
            · exact Or.inl (by decide)
    · rw [if_neg q11] at ht
      cases s with
      | nil =>
        cases ks with
        | nil =>
          by_cases q12 : o.1 = 12 ∨ o.1 = 13
          · rw [if_pos q12] at ht; cases ht
          · rw [if_neg q12] at ht; cases ht
        | cons b ks => exact hk.elim
      | cons v s =>
        cases ks with
        | nil => exact hk.elim
        | cons b ks =>
          show kOk ks' (if o.1 = 11 then (1 - v) :: s else _)
          rw [if_neg q11]
          cases s with
          | nil =>
            cases ks with
            | nil =>
              by_cases q12 : o.1 = 12 ∨ o.1 = 13
              · rw [if_pos q12] at ht; cases b <;> cases ht
              · rw [if_neg q12] at ht; cases b <;> cases ht
            | cons b' ks => exact hk.2.elim
          | cons u s =>
            cases ks with
            | nil => exact hk.2.elim
            | cons b' ks =>
              show kOk ks' (jn o.1 u v :: s)
              by_cases q12 : o.1 = 12 ∨ o.1 = 13
              · rw [if_pos q12] at ht
                cases b
                · cases ht
                · cases b'
                  · cases ht
                  · have ht : some (true :: ks) = some ks' := ht
                    cases ht
                    refine ⟨fun _ => ?_, hk.2.2⟩
                    have e1 := hk.1 rfl
                    have e2 := hk.2.1 rfl
                    rcases q12 with q | q <;> rw [q] <;> unfold jn <;> simp only [] <;> rcases e1 with e1 | e1 <;> rcases e2 with e2 | e2 <;> rw [e1, e2] <;> decide
              · rw [if_neg q12] at ht
                cases b
                · cases b'
                  · have ht : some (decide (6 ≤ o.1 ∧ o.1 ≤ 10) :: ks) = some ks' := ht
                    cases ht
                    exact ⟨fun q => jn_01 (of_decide_eq_true q), hk.2.2⟩
                  · cases ht
                · cases ht
/-- a stack in a row of longs -/
def SkM (g : Nat → Int64) : List Int64 → Prop
  | [] => True
  | v :: s => g s.length = v ∧ SkM g s
theorem SkM_cg {g g' : Nat → Int64} : ∀ {s : List Int64}, SkM g s → (∀ i, i < s.length → g' i = g i) → SkM g' s
  | [], _, _ => trivial
  | v :: s, h, e => ⟨by rw [e _ (by rw [List.length_cons]; omega)]; exact h.1, SkM_cg h.2 (fun i hi => e i (by rw [List.length_cons]; omega))⟩
theorem oC_neg (h2s : 2 ≤ s) (hs : s ≤ 14) : (oC (s, 0) < nI 0) = True := by
  rcases (show s = 2 ∨ s = 3 ∨ s = 4 ∨ s = 5 ∨ s = 6 ∨ s = 7 ∨ s = 8 ∨ s = 9 ∨ s = 10 ∨ s = 11 ∨ s = 12 ∨ s = 13 ∨ s = 14 by omega) with rfl | rfl | rfl | rfl | rfl | rfl | rfl | rfl | rfl | rfl | rfl | rfl | rfl <;> exact eq_true (by decide)
theorem oC_11 (h2s : 2 ≤ s) (hs : s ≤ 14) : (oC (s, 0) = ((-11) : Int32)) = (s = 11) := by
  rcases (show s = 2 ∨ s = 3 ∨ s = 4 ∨ s = 5 ∨ s = 6 ∨ s = 7 ∨ s = 8 ∨ s = 9 ∨ s = 10 ∨ s = 11 ∨ s = 12 ∨ s = 13 ∨ s = 14 by omega) with rfl | rfl | rfl | rfl | rfl | rfl | rfl | rfl | rfl | rfl | rfl | rfl | rfl <;> simp (decide := true)
/-- what the class's reckoning needs, with the words it may ask for -/
def RI (F : Nat → Prop) (h : sk_H) (a : Nat) (R : RT) (g0 g5 : Nat) (wv : Nat → Int64) : Prop := CS h ∧ hK h a = 7 ∧ hR h a 0 = some g0 ∧ hK h g0 = 101 ∧ hN h g0 = rN R ∧ (∀ i, i < rN R → hI h g0 i = oC (rO R i)) ∧ hR h a 5 = some g5 ∧ hK h g5 = 102 ∧ hN h g5 = 64 ∧ 73 ≤ g5 ∧ ∀ i, i < rN R → (rO R i).1 = 1 → hJ h 51 (rO R i).2 = wv (rO R i).2
theorem RI.vJ {g0 g5 : Nat} {wv : Nat → Int64} (I : RI F h a R g0 g5 wv) (i : Nat) (v : Int64) : RI F (wJ h g5 i v) a R g0 g5 wv := by
  obtain ⟨c, i1, i2, i3, i4, i5, i6, i7, i8, i9, i10⟩ := I
  refine ⟨c, i1, i2, i3, i4, i5, i6, i7, i8, i9, fun k hk hw => ?_⟩
  rw [hJ_wJ, if_neg (fun q => by have := q.1; omega)]
  exact i10 k hk hw
theorem Lo_word_ok (C : CS h) (hn : n < 11) : c_Lo_word d (some 50) (nI n) h = some (h, hJ h 51 n) := by
  rw [e_Lo_word]
  simp (disch := omega) only [C.k50, ↓bnd C.r50_0, C.k51, C.n51, aa102, ofn, ↓reduceIte, ↓Option.bind_some, if_true, if_false, true_and, and_true, and_self, true_or, or_true, false_or, or_false, not_true_eq_false, not_false_eq_true, Option.bind_some, somene, false_and, and_false, reduceCtorEq, Nat.reduceEqDiff, l0, q_lt_f, q_le_f, q_in, q_cl]
theorem sli_n (f : Nat → Nat × Nat) : ∀ n i, (sli f i n).length = n
  | 0, i => rfl
  | n + 1, i => by
    show (sli f (i + 1) n).length + 1 = n + 1
    rw [sli_n f n (i + 1)]
/-- the class's frame while it reckons: the stack's row alone -/
def Gq (g5 : Nat) (h h' : sk_H) : Prop := h'.1 = h.1 ∧ hR h' = hR h ∧ hI h' = hI h ∧ ∀ b, b ≠ g5 → hJ h' b = hJ h b
theorem Gq.refl (g5 : Nat) (h : sk_H) : Gq g5 h h := ⟨rfl, rfl, rfl, fun _ _ => rfl⟩
theorem Gq.trans {g5 : Nat} (P : Gq g5 h h1) (Q : Gq g5 h1 h2) : Gq g5 h h2 := ⟨Q.1.trans P.1, Q.2.1.trans P.2.1, Q.2.2.1.trans P.2.2.1, fun b hb => (Q.2.2.2 b hb).trans (P.2.2.2 b hb)⟩
theorem Gq.vJ (h : sk_H) (g5 i : Nat) (v : Int64) : Gq g5 h (wJ h g5 i v) := ⟨rfl, rfl, rfl, fun b hb => by funext k; rw [hJ_wJ, if_neg (fun q => hb q.1)]⟩
theorem Ru_in {g0 g5 to : Nat} {wv : Nat → Int64} (hW : RW R) (hto : to ≤ rN R) : ∀ (n i : Nat) (ks ks' : List Bool) (s : List Int64) (h : sk_H), i + n = to → RI F h a R g0 g5 wv → kOk ks s → tc (sli (rO R) i n) ks = some ks' → s.length + pu (sli (rO R) i n) ≤ 60 → SkM (hJ h g5) s → ∃ h', k_Ru_reckon_6 d (some a) (nI to) (some 50) (nI s.length) (nI i) h = some (h', hJ h' g5 0) ∧ Gq g5 h h' ∧ RI F h' a R g0 g5 wv ∧ SkM (hJ h' g5) (evl wv (sli (rO R) i n) s) ∧ kOk ks' (evl wv (sli (rO R) i n) s)
  | 0, i, ks, ks', s, h, hi, I, hk, ht, hp, sk => by
    obtain ⟨c, i1, i2, i3, i4, i5, i6, i7, i8, i9, i10⟩ := id I
    have hN := hW.1
    have ht : some ks = some ks' := ht
    cases ht
    refine ⟨h, ?_, Gq.refl g5 h, I, sk, hk⟩
    rw [e_Ru_reckon_6]
    simp (disch := omega) only [↓reduceIte, ↓Option.bind_some, if_true, if_false, true_and, and_true, and_self, true_or, or_true, false_or, or_false, not_true_eq_false, not_false_eq_true, Option.bind_some, somene, false_and, and_false, reduceCtorEq, Nat.reduceEqDiff, q_le_t, i1, ↓bnd i6, i7, i8, l0, q_in, q_cl]
  | n + 1, i, ks, ks', s, h, hi, I, hk, ht, hp, sk => by
    obtain ⟨c, i1, i2, i3, i4, i5, i6, i7, i8, i9, i10⟩ := id I
    have hN := hW.1
    have hiN : i < rN R := by omega
    have ei := i5 i hiN
    have ow := hW.2.2.1 i hiN
    have esl : sli (rO R) i (n + 1) = rO R i :: sli (rO R) (i + 1) n := rfl
    rw [esl] at ht hp ⊢
    have ht : (tc1 (rO R i) ks).bind (tc (sli (rO R) (i + 1) n)) = some ks' := ht
    cases h1 : tc1 (rO R i) ks with
    | none => rw [h1] at ht; cases ht
    | some k1 =>
      rw [h1] at ht
      have ht : tc (sli (rO R) (i + 1) n) k1 = some ks' := ht
      have hk1 := ev1_ok (wv := wv) hk h1
      have hpu : pu (rO R i :: sli (rO R) (i + 1) n) = pu (sli (rO R) (i + 1) n) + (if decide ((rO R i).1 ≤ 1) = true then 1 else 0) := List.countP_cons ..
      have e100 : (100000 : Int32) = nI 100000 := rfl
      rw [hpu] at hp
      show ∃ h', _ ∧ _ ∧ _ ∧ SkM (hJ h' g5) (evl wv (sli (rO R) (i + 1) n) (ev1 wv (rO R i) s)) ∧ kOk ks' (evl wv (sli (rO R) (i + 1) n) (ev1 wv (rO R i) s))
      rcases ow with ⟨o1, o2⟩ | ⟨o1, o2⟩ | ⟨o1, o2, o3⟩
      · rw [if_pos (by simp [o1])] at hp
        have ev : ev1 wv (rO R i) s = tL (rO R i).2 :: s := by unfold ev1; rw [if_pos o1]
        have eC : oC (rO R i) = nI (rO R i).2 := by unfold oC; rw [o1]; rfl
        rw [ev] at hk1 ⊢
        rw [eC] at ei
        obtain ⟨h', e1, e2, e3, e4, e5⟩ := Ru_in hW hto n (i + 1) k1 ks' (tL (rO R i).2 :: s) (wJ h g5 s.length (tL (rO R i).2)) (by omega) (I.vJ _ _) hk1 ht (by rw [List.length_cons]; omega) ⟨by rw [hJ_wJ, if_pos ⟨rfl, rfl⟩], SkM_cg sk (fun j hj => by rw [hJ_wJ, if_neg (fun q => by have := q.2; omega)])⟩
        refine ⟨h', ?_, (Gq.vJ _ _ _ _).trans e2, e3, e4, e5⟩
        rw [← e1, e_Ru_reckon_6, List.length_cons]
        simp (disch := omega) only [↓reduceIte, ↓Option.bind_some, if_true, if_false, true_and, and_true, and_self, true_or, or_true, false_or, or_false, not_true_eq_false, not_false_eq_true, Option.bind_some, somene, false_and, and_false, reduceCtorEq, Nat.reduceEqDiff, q_le_f, q_lt_f, i1, ↓bnd i2, i3, i4, ↓bnd i6, i7, i8, l0, l1, e100, q_in, q_cl, ei, aa101, aa102, ofn, nI_add]
        rfl
      · rw [if_pos (by simp [o1])] at hp
        have ev : ev1 wv (rO R i) s = wv (rO R i).2 :: s := by unfold ev1; rw [if_neg (by omega), if_pos o1]
        have eC : oC (rO R i) = nI (100000 + (rO R i).2) := by unfold oC; rw [o1]; rfl
        rw [ev] at hk1 ⊢
        rw [eC] at ei
        have lw := Lo_word_ok (d := d) (h := h) c (n := (rO R i).2) (by omega)
        rw [i10 i hiN o1] at lw
        have lw' : c_Lo_word d (some 50) (hI h g0 (nI i).toNatClampNeg - (100000 : Int32)) h = some (h, wv (rO R i).2) := by
          rw [q_cl (by omega), ei, e100, q_sub (by omega), Nat.add_sub_cancel_left]; exact lw
        obtain ⟨h', e1, e2, e3, e4, e5⟩ := Ru_in hW hto n (i + 1) k1 ks' (wv (rO R i).2 :: s) (wJ h g5 s.length (wv (rO R i).2)) (by omega) (I.vJ _ _) hk1 ht (by rw [List.length_cons]; omega) ⟨by rw [hJ_wJ, if_pos ⟨rfl, rfl⟩], SkM_cg sk (fun j hj => by rw [hJ_wJ, if_neg (fun q => by have := q.2; omega)])⟩
        refine ⟨h', ?_, (Gq.vJ _ _ _ _).trans e2, e3, e4, e5⟩
        rw [← e1, e_Ru_reckon_6, List.length_cons]
        simp (disch := omega) only [↓reduceIte, ↓Option.bind_some, if_true, if_false, true_and, and_true, and_self, true_or, or_true, false_or, or_false, not_true_eq_false, not_false_eq_true, Option.bind_some, somene, false_and, and_false, reduceCtorEq, Nat.reduceEqDiff, q_le_f, q_le_t, q_lt_f, i1, ↓bnd i2, i3, i4, ↓bnd i6, i7, i8, l0, l1, ↓bnd lw', c.k50, q_in, q_cl, ei, aa101, aa102, ofn, nI_add, e100]
      · rw [if_neg (by simp; omega)] at hp
        have eo : rO R i = ((rO R i).1, 0) := by rw [← o3]
        obtain ⟨sg, hsg⟩ : ∃ sg, sg = (rO R i).1 := ⟨_, rfl⟩
        rw [← hsg] at eo o1 o2
        rw [eo] at ei h1 hk1 ⊢
        have neg := oC_neg o1 o2
        have is11 := oC_11 o1 o2
        by_cases q11 : sg = 11
        · have is11 : (oC (sg, 0) = ((-11) : Int32)) = True := by rw [is11]; exact eq_true q11
          cases s with
          | nil =>
            have := kOk_len hk
            cases ks with
            | nil => subst q11; cases h1
            | cons b ks => cases this
          | cons v s =>
            have ev : ev1 wv (sg, 0) (v :: s) = (1 - v) :: s := by
              unfold ev1; rw [if_neg (by show ¬ sg = 0; omega), if_neg (by show ¬ sg = 1; omega)]
              show (if sg = 11 then _ else _) = _
              rw [if_pos q11]
            rw [ev] at hk1 ⊢
            rw [List.length_cons] at hp
            obtain ⟨h', e1, e2, e3, e4, e5⟩ := Ru_in hW hto n (i + 1) k1 ks' ((1 - v) :: s) (wJ h g5 s.length (1 - v)) (by omega) (I.vJ _ _) hk1 ht (by rw [List.length_cons]; omega) ⟨by rw [hJ_wJ, if_pos ⟨rfl, rfl⟩], SkM_cg sk.2 (fun j hj => by rw [hJ_wJ, if_neg (fun q => by have := q.2; omega)])⟩
            refine ⟨h', ?_, (Gq.vJ _ _ _ _).trans e2, e3, e4, e5⟩
            have tp := sk.1
            have e6 : nI (s.length + 1) - nI 1 = nI s.length := by rw [q_sub (by omega)]; rfl
            rw [← e1, e_Ru_reckon_6, List.length_cons, List.length_cons]
            simp (disch := omega) only [↓reduceIte, ↓Option.bind_some, if_true, if_false, true_and, and_true, and_self, true_or, or_true, false_or, or_false, not_true_eq_false, not_false_eq_true, Option.bind_some, somene, false_and, and_false, reduceCtorEq, Nat.reduceEqDiff, q_le_f, i1, ↓bnd i2, i3, i4, l0, l1, q_in, q_cl, ei, aa101, ofn, neg]
            rw [e_Ru_reckon_81]
            simp (disch := omega) only [is11, ↓reduceIte, ↓Option.bind_some, if_true, if_false, true_and, and_true, and_self, true_or, or_true, false_or, or_false, not_true_eq_false, not_false_eq_true, Option.bind_some, somene, false_and, and_false, reduceCtorEq, Nat.reduceEqDiff, l1, q_lt_f, i1, ↓bnd i6, i7, i8, e6, q_in, q_cl, tp, nI_add]
        · have is11 : (oC (sg, 0) = ((-11) : Int32)) = False := by rw [is11]; exact eq_false q11
          have h1' := h1
          unfold tc1 at h1'
          rw [if_neg (show ¬ sg ≤ 1 by omega), if_neg (show ¬ sg = 11 from q11)] at h1'
          have two : ∃ u v s', s = v :: u :: s' := by
            have hl := kOk_len hk
            cases s with
            | nil =>
              cases ks with
              | nil =>
                by_cases q12 : sg = 12 ∨ sg = 13
                · rw [if_pos q12] at h1'; cases h1'
                · rw [if_neg q12] at h1'; cases h1'
              | cons b ks => cases hl
            | cons v s =>
              cases s with
              | nil =>
                cases ks with
                | nil => cases hl
                | cons b ks =>
                  cases ks with
                  | nil =>
                    by_cases q12 : sg = 12 ∨ sg = 13
                    · rw [if_pos q12] at h1'; cases b <;> cases h1'
                    · rw [if_neg q12] at h1'; cases b <;> cases h1'
                  | cons b' ks =>
                    have : ks.length + 1 + 1 = 1 := hl
                    omega
              | cons u s => exact ⟨u, v, s, rfl⟩
          obtain ⟨u, v, s', rfl⟩ := two
          have ev : ev1 wv (sg, 0) (v :: u :: s') = jn sg u v :: s' := by
            unfold ev1; rw [if_neg (by show ¬ sg = 0; omega), if_neg (by show ¬ sg = 1; omega)]
            show (if sg = 11 then _ else _) = _
            rw [if_neg q11]
          rw [ev] at hk1 ⊢
          rw [List.length_cons, List.length_cons] at hp
          obtain ⟨h', e1, e2, e3, e4, e5⟩ := Ru_in hW hto n (i + 1) k1 ks' (jn sg u v :: s') (wJ h g5 s'.length (jn sg u v)) (by omega) (I.vJ _ _) hk1 ht (by rw [List.length_cons]; omega) ⟨by rw [hJ_wJ, if_pos ⟨rfl, rfl⟩], SkM_cg sk.2.2 (fun j hj => by rw [hJ_wJ, if_neg (fun q => by have := q.2; omega)])⟩
          refine ⟨h', ?_, (Gq.vJ _ _ _ _).trans e2, e3, e4, e5⟩
          have tp := sk.1
          have tp2 := sk.2.1
          rw [List.length_cons] at tp
          have e6 : nI (s'.length + 1 + 1) + (-1) = nI (s'.length + 1) := pk_m1 _
          have e7 : nI (s'.length + 1) - nI 1 = nI s'.length := by rw [q_sub (by omega)]; rfl
          have jo := Ru_join_ok (d := d) (h := h) (x := u) (y := v) o1 o2 q11
          rw [← e1, e_Ru_reckon_6, List.length_cons, List.length_cons, List.length_cons]
          simp (disch := omega) only [↓reduceIte, ↓Option.bind_some, if_true, if_false, true_and, and_true, and_self, true_or, or_true, false_or, or_false, not_true_eq_false, not_false_eq_true, Option.bind_some, somene, false_and, and_false, reduceCtorEq, Nat.reduceEqDiff, q_le_f, i1, ↓bnd i2, i3, i4, l0, l1, q_in, q_cl, ei, aa101, ofn, neg]
          rw [e_Ru_reckon_81]
          simp only [is11, ↓reduceIte, ↓Option.bind_some, if_true, if_false, true_and, and_true, and_self, true_or, or_true, false_or, or_false, not_true_eq_false, not_false_eq_true, Option.bind_some, somene, false_and, and_false, reduceCtorEq, Nat.reduceEqDiff]
          rw [e_Ru_reckon_117, e6]
          simp (disch := omega) only [↓reduceIte, ↓Option.bind_some, if_true, if_false, true_and, and_true, and_self, true_or, or_true, false_or, or_false, not_true_eq_false, not_false_eq_true, Option.bind_some, somene, false_and, and_false, reduceCtorEq, Nat.reduceEqDiff, l1, l2, q_lt_f, i1, ↓bnd i6, i7, i8, e7, q_in, q_cl, tp, tp2, jo, nI_add]
end SkReck
