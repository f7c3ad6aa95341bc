/-! ===== the reference's reader: signs, words, numbers ===== -/
def P8 (a i : Nat) : Bool := a == 52 && i == 8
def PF (a i : Nat) : Bool := a == 52 && (i == 8 || i == 9 || i == 10)
/-- the reference reads at p, without a fault so far -/
def Mr (h : sk_H) (t : Nat → Nat) (T p : Nat) : Prop := MS 52 h ∧ T ≤ 400 ∧ (∀ i, i < T → t i < 256 ∧ hI h 53 i = sx (t i)) ∧ hI h 52 1 = nI T ∧ hI h 52 8 = nI p ∧ hI h 52 9 = nI 0 ∧ p ≤ T
def pkA : Nat → List Nat → Nat
  | v, [] => v
  | v, x :: l => pkA (v * 256 + x) l
def pkl : Nat → Int64 → List Nat → Int64
  | _, v, [] => v
  | n, v, x :: l => pkl (n + 1) (if n < 8 then (v <<< ((8 : Int32).toInt64 &&& 63)) ||| (sx x).toInt64 else v) l
theorem sx_all : ∀ x, x < 256 → (x < 128 → sx x = nI x) ∧ (128 ≤ x → sx x < 0) ∧ sx x &&& 255 = nI x := by decide +kernel
theorem sx_lo {x : Nat} (hx : x < 128) : sx x = nI x := (sx_all x (by omega)).1 hx
theorem sx_eq {x c : Nat} (hx : x < 256) (hc : c < 128) : (sx x = nI c) = (x = c) := by
  by_cases q : x < 128
  · rw [sx_lo q, q_eq (by omega) (by omega)]
  · have hn := (sx_all x hx).2.1 (by omega)
    refine propext ⟨fun e => ?_, fun e => by omega⟩
    rw [e] at hn
    exact absurd hn (nI_pos (by omega))
theorem sx_lt {x c : Nat} (hx : x < 256) (hc : c < 128) : (sx x < nI c) = (x < c ∨ 128 ≤ x) := by
  by_cases q : x < 128
  · rw [sx_lo q, q_lt (by omega) (by omega)]
    exact propext ⟨fun e => Or.inl e, fun e => by omega⟩
  · have hn := (sx_all x hx).2.1 (by omega)
    refine propext ⟨fun _ => Or.inr (by omega), fun _ => ?_⟩
    rw [Int32.lt_iff_toInt_lt] at hn ⊢
    rw [nI_toInt (by omega)]
    have : (0 : Int32).toInt = 0 := rfl
    omega
theorem sx_gt {x c : Nat} (hx : x < 256) (hc : c < 128) : (nI c < sx x) = (c < x ∧ x < 128) := by
  by_cases q : x < 128
  · rw [sx_lo q, q_lt (by omega) (by omega)]
    exact propext ⟨fun e => ⟨e, q⟩, fun e => e.1⟩
  · have hn := (sx_all x hx).2.1 (by omega)
    refine propext ⟨fun e => ?_, fun e => by omega⟩
    rw [Int32.lt_iff_toInt_lt] at hn e
    rw [nI_toInt (by omega)] at e
    have : (0 : Int32).toInt = 0 := rfl
    omega
theorem pk_st {v x : Nat} (hv : v < 2 ^ 56) (hx : x < 128) : (nL v <<< ((8 : Int32).toInt64 &&& 63)) ||| (sx x).toInt64 = nL (v * 256 + x) := by
  rw [sx_lo hx, nL_i (by omega)]
  apply Int64.toBitVec_inj.mp
  rw [Int64.toBitVec_or, Int64.toBitVec_shiftLeft]
  show (BitVec.ofNat 64 v <<< (((8 : Int32).toInt64 &&& 63).toBitVec.smod 64)) ||| BitVec.ofNat 64 x = BitVec.ofNat 64 (v * 256 + x)
  rw [show ((8 : Int32).toInt64 &&& 63).toBitVec.smod 64 = 8#64 from by decide, BitVec.shiftLeft_eq']
  apply BitVec.eq_of_toNat_eq
  rw [BitVec.toNat_or, BitVec.toNat_shiftLeft]
  simp only [BitVec.toNat_ofNat]
  rw [show 8 % 2 ^ 64 = 8 from rfl, Nat.mod_eq_of_lt (a := v) (by omega), Nat.mod_eq_of_lt (a := x) (by omega), Nat.shiftLeft_eq, Nat.mod_eq_of_lt (a := v * 2 ^ 8) (by omega), Nat.mod_eq_of_lt (a := v * 256 + x) (by omega), ← Nat.shiftLeft_eq, ← Nat.shiftLeft_add_eq_or_of_lt (by omega), Nat.shiftLeft_eq]
theorem pkl_A : ∀ (l : List Nat) (n v : Nat), n + l.length ≤ 8 → v < 256 ^ n → (∀ x ∈ l, x < 128) → pkl n (nL v) l = nL (pkA v l) ∧ pkA v l < 2 ^ 64
  | [], n, v, hn, hv, hl => ⟨rfl, by
      have : 256 ^ n ≤ 256 ^ 8 := Nat.pow_le_pow_right (by omega) (by simpa using hn)
      have e : (256 : Nat) ^ 8 = 2 ^ 64 := by decide
      show v < 2 ^ 64
      omega⟩
  | x :: l, n, v, hn, hv, hl => by
    rw [List.length_cons] at hn
    have hx := hl x (List.mem_cons_self ..)
    have h7 : 256 ^ n ≤ 256 ^ 7 := Nat.pow_le_pow_right (by omega) (by omega)
    have e7 : (256 : Nat) ^ 7 = 2 ^ 56 := by decide
    have ih := pkl_A l (n + 1) (v * 256 + x) (by omega) (by rw [Nat.pow_succ]; omega) (fun y hy => hl y (List.mem_cons_of_mem _ hy))
    refine ⟨?_, ih.2⟩
    show pkl (n + 1) (if n < 8 then (nL v <<< ((8 : Int32).toInt64 &&& 63)) ||| (sx x).toInt64 else nL v) l = nL (pkA (v * 256 + x) l)
    rw [if_pos (by omega), pk_st (by omega) hx]
    exact ih.1
theorem pkA_inj : ∀ (l w : List Nat) (v u : Nat), l.length = w.length → (∀ x ∈ l, x < 256) → (∀ x ∈ w, x < 256) → pkA v l = pkA u w → v = u ∧ l = w
  | [], [], v, u, _, _, _, e => ⟨e, rfl⟩
  | [], y :: w, v, u, hl, _, _, _ => by simp at hl
  | x :: l, [], v, u, hl, _, _, _ => by simp at hl
  | x :: l, y :: w, v, u, hl, h1, h2, e => by
    have hx := h1 x (List.mem_cons_self ..)
    have hy := h2 y (List.mem_cons_self ..)
    obtain ⟨e1, e2⟩ := pkA_inj l w (v * 256 + x) (u * 256 + y) (by simpa using hl) (fun z hz => h1 z (List.mem_cons_of_mem _ hz)) (fun z hz => h2 z (List.mem_cons_of_mem _ hz)) e
    exact ⟨by omega, by rw [e2, show x = y by omega]⟩
theorem pkA_0 : ∀ (k : Nat) (l : List Nat), pkA 0 (List.replicate k 0 ++ l) = pkA 0 l
  | 0, l => rfl
  | k + 1, l => by
    rw [List.replicate_succ]
    exact pkA_0 k l
theorem pkA_eq {l w : List Nat} (hl : ∀ x ∈ l, 97 ≤ x ∧ x ≤ 122) (hw : ∀ x ∈ w, 97 ≤ x ∧ x ≤ 122) (e : pkA 0 l = pkA 0 w) : l = w := by
  have aux : ∀ l w : List Nat, (∀ x ∈ l, 97 ≤ x ∧ x ≤ 122) → (∀ x ∈ w, 97 ≤ x ∧ x ≤ 122) → pkA 0 l = pkA 0 w → l.length ≤ w.length → l = w := by
    intro l w hl hw e hle
    have := (pkA_inj (List.replicate (w.length - l.length) 0 ++ l) w 0 0 (by simp; omega) (fun x hx => by
      rcases List.mem_append.mp hx with q | q
      · rw [(List.mem_replicate.mp q).2]; omega
      · have := hl x q; omega) (fun x hx => by have := hw x hx; omega) (by rw [pkA_0]; exact e)).2
    cases hk : w.length - l.length with
    | zero => rw [hk] at this; exact this
    | succ k =>
      rw [hk, List.replicate_succ] at this
      have h0 := hw 0 (by rw [← this]; exact List.mem_cons_self ..)
      omega
  rcases Nat.le_total l.length w.length with q | q
  · exact aux l w hl hw e q
  · exact (aux w l hw hl e.symm q).symm
theorem cmp_eq (x y : Int64) : (lg_cmp x y = 0) = (x = y) := by
  unfold lg_cmp
  by_cases q : x > y
  · rw [if_pos q]
    refine propext ⟨fun r => absurd r (by decide), fun r => ?_⟩
    subst r
    exact absurd q (Int64.lt_irrefl)
  · rw [if_neg q]
    by_cases q2 : x = y
    · rw [if_pos q2]; exact propext ⟨fun _ => q2, fun _ => rfl⟩
    · rw [if_neg q2]; exact propext ⟨fun r => absurd r (by decide), fun r => absurd r q2⟩
theorem wdF_ltr {t : Nat → Nat} {T : Nat} : ∀ (n p : Nat), ∀ x ∈ wdF t T n p, 97 ≤ x ∧ x ≤ 122
  | 0, p, x, hx => by cases hx
  | n + 1, p, x, hx => by
    unfold wdF at hx
    by_cases q : ltr t T p = true
    · rw [if_pos q] at hx
      rcases List.mem_cons.mp hx with e | e
      · rw [e]; exact (of_decide_eq_true q).2
      · exact wdF_ltr n (p + 1) x e
    · rw [if_neg q] at hx
      cases hx
/-- a word as one number -/
theorem pk_word {l w : List Nat} (hl : ∀ x ∈ l, 97 ≤ x ∧ x ≤ 122) (hw : ∀ x ∈ w, 97 ≤ x ∧ x ≤ 122) (h0 : 0 < w.length) (h9 : w.length < 9) : (0 < l.length ∧ l.length < 9 ∧ pkl 0 0 l = nL (pkA 0 w)) = (l = w) := by
  refine propext ⟨fun ⟨a, b, e⟩ => ?_, fun e => ?_⟩
  · have e1 := pkl_A l 0 0 (by omega) (by decide) (fun x hx => by have := hl x hx; omega)
    have e2 := pkl_A w 0 0 (by omega) (by decide) (fun x hx => by have := hw x hx; omega)
    have e3 : nL (pkA 0 l) = nL (pkA 0 w) := e1.1.symm.trans e
    refine pkA_eq hl hw ?_
    have e4 := congrArg (fun x => x.toBitVec.toNat) e3
    have e5 : ∀ k, (nL k).toBitVec.toNat = k % 2 ^ 64 := fun k => BitVec.toNat_ofNat ..
    simp only [e5] at e4
    rw [Nat.mod_eq_of_lt e1.2, Nat.mod_eq_of_lt e2.2] at e4
    exact e4
  · subst e
    exact ⟨h0, h9, (pkl_A l 0 0 (by omega) (by decide) (fun x hx => by have := hl x hx; omega)).1⟩
section SkMread
variable {h h' h1 h2 : sk_H} {t : Nat → Nat} {T p q n d s i : Nat} {lo hi : Int32}
theorem Mr.mv (R : Mr h t T p) {P : Nat → Nat → Bool} (Q : Iq P h h1) (h53 : ∀ i, P 53 i = false) (h1' : P 52 1 = false) (e9 : hI h1 52 9 = nI 0) (hq : q ≤ T) (e8 : hI h1 52 8 = nI q) : Mr h1 t T q := by
  obtain ⟨M, r1, r2, r3, r4, r5, r6⟩ := R
  obtain ⟨I, rfl⟩ := Q.hw
  exact ⟨M, r1, fun i hi => ⟨(r2 i hi).1, (Q.I (h53 i)).trans (r2 i hi).2⟩, (Q.I h1').trans r3, e8, e9, hq⟩
theorem P8_53 (i : Nat) : P8 53 i = false := rfl
theorem PF_53 (i : Nat) : PF 53 i = false := rfl
theorem P8_PF {a i : Nat} (hP : PF a i = false) : P8 a i = false := by
  unfold PF at hP
  unfold P8
  cases ha : a == 52
  · rfl
  · rw [ha] at hP
    simp only [Bool.true_and, Bool.or_eq_false_iff] at hP
    simp [hP.1.1]
theorem Iq.mono {P P' : Nat → Nat → Bool} (Q : Iq P h h1) (hP : ∀ a i, P' a i = false → P a i = false) : Iq P' h h1 := ⟨Q.1, Q.2.1, fun a i ha => Q.2.2 a i (hP a i ha)⟩
theorem Iq.p8F (Q : Iq P8 h h1) : Iq PF h h1 := Q.mono fun _ _ => P8_PF
theorem Mr.w8 (R : Mr h t T p) (hq : q ≤ T) : Mr (wI h 52 8 (nI q)) t T q := R.mv (Iq.w h (nI q) (P := P8) rfl) P8_53 rfl (by rw [hI_wI, if_neg (by omega)]; exact R.2.2.2.2.2.1) hq (by rw [hI_wI, if_pos ⟨rfl, rfl⟩])
theorem M_see38_ok (R : Mr h t T p) : k_M_see_38 d (some 52) h = some (h, lk t T p) := by
  obtain ⟨M, r1, r2, r3, r4, r5, r6⟩ := R
  refine (e_M_see_38 _ _ _).trans ?_
  refine (if_pos M.K52).trans ?_
  refine (if_pos M.K52).trans ?_
  rw [r3, r4]
  unfold lk
  by_cases q : p < T
  · rw [if_pos q]
    refine (if_neg (nI_ge q (by omega))).trans ?_
    refine (if_pos M.K52).trans ?_
    refine (if_pos M.K52).trans ?_
    refine (bnd M.R0 _).trans ?_
    refine (if_pos ⟨Or.inr (Or.inl M.K53), by rw [M.N53]; exact vp_in_nI (by omega) (by omega)⟩).trans ?_
    rw [q_cl (by omega), (r2 p q).2, (sx_all _ (r2 p q).1).2.2]
  · rw [if_neg q]
    exact if_pos (nI_le (by omega) (by omega))
theorem M_see_in : ∀ (n p : Nat) (h : sk_H), p + n = T → Mr h t T p → ∃ h', k_M_see_0 d (some 52) h = some (h', lk t T (nxF t n p)) ∧ Mr h' t T (nxF t n p) ∧ Iq P8 h h'
  | 0, p, h, hp, R => by
    obtain ⟨M, r1, r2, r3, r4, r5, r6⟩ := id R
    refine ⟨h, ?_, R, Iq.refl h⟩
    refine (e_M_see_0 _ _ _).trans ?_
    refine (if_pos M.K52).trans ?_
    refine (if_pos M.K52).trans ?_
    refine (if_pos (by rw [r3, r4]; exact nI_le (by omega) (by omega))).trans ?_
    exact M_see38_ok R
  | n + 1, p, h, hp, R => by
    obtain ⟨M, r1, r2, r3, r4, r5, r6⟩ := id R
    have xp := r2 p (by omega)
    have inn : sk_in (hI h 52 8) (hN h 53) := by rw [r4, M.N53]; exact vp_in_nI (by omega) (by omega)
    have ev : hI h 53 (hI h 52 8).toNatClampNeg = sx (t p) := by rw [r4, q_cl (by omega)]; exact xp.2
    have z : ¬ hI h 52 1 ≤ hI h 52 8 := by rw [r3, r4]; exact nI_ge (by omega) (by omega)
    unfold nxF
    by_cases q : t p = 32
    · rw [if_pos q]
      obtain ⟨h', e1, e2, e3⟩ := M_see_in n (p + 1) (wI h 52 8 (nI (p + 1))) (by omega) (R.w8 (by omega))
      refine ⟨h', ?_, e2, (Iq.w h (nI (p + 1)) (P := P8) rfl).trans e3⟩
      rw [← e1]
      refine (e_M_see_0 _ _ _).trans ?_
      refine (if_pos M.K52).trans ?_
      refine (if_pos M.K52).trans ?_
      refine (if_neg z).trans ?_
      refine (if_pos M.K52).trans ?_
      refine (if_pos M.K52).trans ?_
      refine (bnd M.R0 _).trans ?_
      refine (if_pos ⟨Or.inr (Or.inl M.K53), inn⟩).trans ?_
      refine (if_neg (fun y => y (by rw [ev, q]; decide))).trans ?_
      refine (if_pos M.K52).trans ?_
      refine (if_pos M.K52).trans ?_
      rw [r4, nI_1]
    · rw [if_neg q]
      refine ⟨h, ?_, R, Iq.refl h⟩
      refine (e_M_see_0 _ _ _).trans ?_
      refine (if_pos M.K52).trans ?_
      refine (if_pos M.K52).trans ?_
      refine (if_neg z).trans ?_
      refine (if_pos M.K52).trans ?_
      refine (if_pos M.K52).trans ?_
      refine (bnd M.R0 _).trans ?_
      refine (if_pos ⟨Or.inr (Or.inl M.K53), inn⟩).trans ?_
      refine (if_pos (show ¬ hI h 53 (hI h 52 8).toNatClampNeg = nI 32 from ?_)).trans (M_see38_ok R)
      rw [ev, sx_eq xp.1 (by omega)]
      exact q
theorem M_see_ok (R : Mr h t T p) : ∃ h', c_M_see d (some 52) h = some (h', lk t T (nxt t T p)) ∧ Mr h' t T (nxt t T p) ∧ Iq P8 h h' := by
  rw [show c_M_see d (some 52) h = k_M_see_0 d (some 52) h from (e_M_see _ _ _).trans (e_M_see_0 _ _ _).symm]
  have := R.2.2.2.2.2.2
  exact M_see_in (T - p) p h (by omega) R
theorem M_isLetter_ok (R : Mr h t T p) {k : Nat} (hk : k ≤ 800) : c_M_isLetter d (some 52) (nI k) h = some (h, bi (ltr t T k)) := by
  obtain ⟨M, r1, r2, r3, r4, r5, r6⟩ := R
  refine (e_M_isLetter _ _ _ _).trans ?_
  refine (if_pos M.K52).trans ?_
  rw [r3]
  unfold ltr
  by_cases q : k < T
  · have xp := r2 k q
    refine (if_neg (nI_ge q (by omega))).trans ?_
    refine (if_pos M.K52).trans ?_
    refine (bnd M.R0 _).trans ?_
    refine (if_pos ⟨Or.inr (Or.inl M.K53), by rw [M.N53]; exact vp_in_nI (by omega) (by omega)⟩).trans ?_
    have ev : hI h 53 (nI k).toNatClampNeg = sx (t k) := by rw [q_cl (by omega)]; exact xp.2
    by_cases q1 : t k < 97 ∨ 128 ≤ t k
    · refine (if_pos (show hI h 53 (nI k).toNatClampNeg < nI 97 by rw [ev, sx_lt xp.1 (by omega)]; exact q1)).trans ?_
      rw [decide_eq_false (by omega)]
      rfl
    · refine (if_neg (show ¬ hI h 53 (nI k).toNatClampNeg < nI 97 by rw [ev, sx_lt xp.1 (by omega)]; exact q1)).trans ?_
      refine (if_pos M.K52).trans ?_
      refine (bnd M.R0 _).trans ?_
      refine (if_pos ⟨Or.inr (Or.inl M.K53), by rw [M.N53]; exact vp_in_nI (by omega) (by omega)⟩).trans ?_
      by_cases q2 : 122 < t k
      · refine (if_pos (show nI 122 < hI h 53 (nI k).toNatClampNeg by rw [ev, sx_gt xp.1 (by omega)]; omega)).trans ?_
        rw [decide_eq_false (by omega)]
        rfl
      · refine (if_neg (show ¬ nI 122 < hI h 53 (nI k).toNatClampNeg by rw [ev, sx_gt xp.1 (by omega)]; omega)).trans ?_
        rw [decide_eq_true (by omega)]
        rfl
  · refine (if_pos (nI_le (by omega) (by omega))).trans ?_
    rw [decide_eq_false (by omega)]
    rfl
theorem M_isDigit_ok (R : Mr h t T p) {k : Nat} (hk : k ≤ 800) : c_M_isDigit d (some 52) (nI k) h = some (h, bi (dgt t T k)) := by
  obtain ⟨M, r1, r2, r3, r4, r5, r6⟩ := R
  refine (e_M_isDigit _ _ _ _).trans ?_
  refine (if_pos M.K52).trans ?_
  rw [r3]
  unfold dgt
  by_cases q : k < T
  · have xp := r2 k q
    refine (if_neg (nI_ge q (by omega))).trans ?_
    refine (if_pos M.K52).trans ?_
    refine (bnd M.R0 _).trans ?_
    refine (if_pos ⟨Or.inr (Or.inl M.K53), by rw [M.N53]; exact vp_in_nI (by omega) (by omega)⟩).trans ?_
    have ev : hI h 53 (nI k).toNatClampNeg = sx (t k) := by rw [q_cl (by omega)]; exact xp.2
    by_cases q1 : t k < 48 ∨ 128 ≤ t k
    · refine (if_pos (show hI h 53 (nI k).toNatClampNeg < nI 48 by rw [ev, sx_lt xp.1 (by omega)]; exact q1)).trans ?_
      rw [decide_eq_false (by omega)]
      rfl
    · refine (if_neg (show ¬ hI h 53 (nI k).toNatClampNeg < nI 48 by rw [ev, sx_lt xp.1 (by omega)]; exact q1)).trans ?_
      refine (if_pos M.K52).trans ?_
      refine (bnd M.R0 _).trans ?_
      refine (if_pos ⟨Or.inr (Or.inl M.K53), by rw [M.N53]; exact vp_in_nI (by omega) (by omega)⟩).trans ?_
      by_cases q2 : 57 < t k
      · refine (if_pos (show nI 57 < hI h 53 (nI k).toNatClampNeg by rw [ev, sx_gt xp.1 (by omega)]; omega)).trans ?_
        rw [decide_eq_false (by omega)]
        rfl
      · refine (if_neg (show ¬ nI 57 < hI h 53 (nI k).toNatClampNeg by rw [ev, sx_gt xp.1 (by omega)]; omega)).trans ?_
        rw [decide_eq_true (by omega)]
        rfl
  · refine (if_pos (nI_le (by omega) (by omega))).trans ?_
    rw [decide_eq_false (by omega)]
    rfl
theorem M_isWord_in {x1 : Int64} (R : Mr h t T p) : ∀ (l : List Nat) (n : Nat) (v : Int64), wdl t T (p + n) = l → p + n + l.length ≤ T → k_M_isWord_10 d (some 52) x1 v (nI n) h = some (h, bi (decide (0 < n + l.length ∧ n + l.length < 9 ∧ pkl n v l = x1)))
  | [], n, v, hl, hn => by
    obtain ⟨M, r1, r2, r3, r4, r5, r6⟩ := id R
    have hn : p + n ≤ T := hn
    have q : ltr t T (p + n) = false := by
      cases hq : ltr t T (p + n)
      · rfl
      · rw [wdl_c hq] at hl; cases hl
    refine (e_M_isWord_10 _ _ _ _ _ _).trans ?_
    refine (if_pos M.K52).trans ?_
    refine (if_pos M.K52).trans ?_
    rw [r4, nI_add]
    refine (bnd (M_isLetter_ok R (by omega)) _).trans ?_
    refine (if_pos (show bi (ltr t T (p + n)) = 0 by rw [q]; rfl)).trans ?_
    show (if nI n ≤ nI 0 then some (h, (0 : Int32)) else if nI 9 ≤ nI n then some (h, (0 : Int32)) else if ¬ lg_cmp v x1 = 0 then some (h, (0 : Int32)) else some (h, (1 : Int32))) = some (h, bi (decide (0 < n ∧ n < 9 ∧ v = x1)))
    by_cases q0 : n ≤ 0
    · refine (if_pos (nI_le q0 (by omega))).trans ?_
      rw [decide_eq_false (by omega)]; rfl
    · refine (if_neg (nI_ge (by omega) (by omega))).trans ?_
      by_cases q9 : 9 ≤ n
      · refine (if_pos (nI_le q9 (by omega))).trans ?_
        rw [decide_eq_false (by omega)]; rfl
      · refine (if_neg (nI_ge (by omega) (by omega))).trans ?_
        by_cases qv : v = x1
        · refine (if_neg (fun z => z (by rw [cmp_eq]; exact qv))).trans ?_
          rw [decide_eq_true ⟨by omega, by omega, qv⟩]; rfl
        · refine (if_pos (by rw [cmp_eq]; exact qv)).trans ?_
          rw [decide_eq_false (fun z => qv z.2.2)]; rfl
  | y :: l, n, v, hl, hn => by
    obtain ⟨M, r1, r2, r3, r4, r5, r6⟩ := id R
    rw [List.length_cons] at hn
    have q : ltr t T (p + n) = true := by
      cases hq : ltr t T (p + n)
      · rw [wdl_n hq] at hl; cases hl
      · rfl
    rw [wdl_c q] at hl
    obtain ⟨e1, e2⟩ := List.cons.inj hl
    have ih := M_isWord_in (x1 := x1) R l (n + 1) (if n < 8 then (v <<< ((8 : Int32).toInt64 &&& 63)) ||| (sx y).toInt64 else v) (by rw [← e2]; rfl) (by omega)
    rw [List.length_cons, show n + (l.length + 1) = n + 1 + l.length by omega]
    refine Eq.trans ?_ ih
    refine (e_M_isWord_10 _ _ _ _ _ _).trans ?_
    refine (if_pos M.K52).trans ?_
    refine (if_pos M.K52).trans ?_
    rw [r4, nI_add]
    refine (bnd (M_isLetter_ok R (by omega)) _).trans ?_
    refine (if_neg (show ¬ bi (ltr t T (p + n)) = 0 by rw [q]; decide)).trans ?_
    by_cases q8 : n < 8
    · refine (if_neg (show ¬ nI 8 ≤ nI n from nI_ge q8 (by omega))).trans ?_
      refine (if_pos M.K52).trans ?_
      refine (if_pos M.K52).trans ?_
      refine (bnd M.R0 _).trans ?_
      have xp := r2 (p + n) (by omega)
      refine (if_pos ⟨Or.inr (Or.inl M.K53), show sk_in (hI h 52 8 + nI n) (hN h 53) by rw [r4, nI_add, M.N53]; exact vp_in_nI (by omega) (by omega)⟩).trans ?_
      show k_M_isWord_10 d (some 52) x1 ((v <<< ((8 : Int32).toInt64 &&& 63)) ||| (hI h 53 (hI h 52 8 + nI n).toNatClampNeg).toInt64) (nI n + 1) h = _
      rw [r4, nI_add, nI_1, q_cl (by omega), xp.2, if_pos q8, e1]
    · refine (if_pos (show nI 8 ≤ nI n from nI_le (by omega) (by omega))).trans ?_
      show k_M_isWord_10 d (some 52) x1 v (nI n + 1) h = _
      rw [nI_1, if_neg q8]
theorem M_isWord_ok {x1 : Int64} {w : List Nat} (R : Mr h t T p) (hw : ∀ x ∈ w, 97 ≤ x ∧ x ≤ 122) (h0 : 0 < w.length) (h9 : w.length < 9) (hx : x1 = nL (pkA 0 w)) : ∃ h', c_M_isWord d (some 52) x1 h = some (h', bi (decide (wdl t T (nxt t T p) = w))) ∧ Mr h' t T (nxt t T p) ∧ Iq P8 h h' := by
  obtain ⟨h1, e1, e2, e3⟩ := M_see_ok (d := d) R
  refine ⟨h1, ?_, e2, e3⟩
  have hq := (nxt_le (t := t) R.2.2.2.2.2.2).2
  have hwE := (wE_le (t := t) hq).2
  refine (e_M_isWord _ _ _ _).trans ?_
  refine (if_pos R.1.K52).trans ?_
  refine (bnd e1 _).trans ?_
  refine (M_isWord_in e2 (wdl t T (nxt t T p)) 0 0 rfl hwE).trans ?_
  have := pk_word (l := wdl t T (nxt t T p)) (wdF_ltr _ _) hw h0 h9
  simp only [Nat.zero_add, hx, this]
theorem M_passWord_in : ∀ (n p : Nat) (h : sk_H), p + n = T → Mr h t T p → ∃ h', k_M_passWord_0 d (some 52) h = some h' ∧ Mr h' t T (wE t T p) ∧ Iq P8 h h'
  | n, p, h, hp, R => by
    obtain ⟨M, r1, r2, r3, r4, r5, r6⟩ := id R
    have il := M_isLetter_ok (d := d) R (k := p) (by omega)
    rw [← r4] at il
    by_cases q : ltr t T p = true
    · cases n with
      | zero => exact absurd (of_decide_eq_true q).1 (by omega)
      | succ n =>
        obtain ⟨h', e1, e2, e3⟩ := M_passWord_in n (p + 1) (wI h 52 8 (nI (p + 1))) (by omega) (R.w8 (by omega))
        refine ⟨h', ?_, by rw [wE_c q]; exact e2, (Iq.w h (nI (p + 1)) (P := P8) rfl).trans e3⟩
        rw [← e1]
        refine (e_M_passWord_0 _ _ _).trans ?_
        refine (if_pos M.K52).trans ?_
        refine (if_pos M.K52).trans ?_
        refine (bnd il _).trans ?_
        refine (if_neg (show ¬ bi (ltr t T p) = 0 by rw [q]; decide)).trans ?_
        refine (if_pos M.K52).trans ?_
        refine (if_pos M.K52).trans ?_
        show k_M_passWord_0 d (some 52) (wI h 52 8 (hI h 52 8 + 1)) = _
        rw [r4, nI_1]
    · have q : ltr t T p = false := by simpa using q
      refine ⟨h, ?_, by rw [wE_n q]; exact R, Iq.refl h⟩
      refine (e_M_passWord_0 _ _ _).trans ?_
      refine (if_pos M.K52).trans ?_
      refine (if_pos M.K52).trans ?_
      refine (bnd il _).trans ?_
      exact if_pos (show bi (ltr t T p) = 0 by rw [q]; rfl)
theorem M_passWord_ok (R : Mr h t T p) : ∃ h', c_M_passWord d (some 52) h = some h' ∧ Mr h' t T (wE t T p) ∧ Iq P8 h h' := by
  rw [show c_M_passWord d (some 52) h = k_M_passWord_0 d (some 52) h from (e_M_passWord _ _ _).trans (e_M_passWord_0 _ _ _).symm]
  have := R.2.2.2.2.2.2
  exact M_passWord_in (T - p) p h (by omega) R
theorem M_fails_ok (M : MS 52 h) (e9 : hI h 52 9 = nI 0) {k q : Nat} : c_M_fails d (some 52) (nI k) (nI q) h = some (wI h 52 9 (nI (1 + 8 * q + k)), 0) := by
  refine (e_M_fails _ _ _ _ _).trans ?_
  refine (if_pos M.K52).trans ?_
  refine (if_neg (fun z => z e9)).trans ?_
  refine (if_pos M.K52).trans ?_
  rw [show (8 : Int32) = nI 8 from rfl, pk_mul, l1, nI_add, nI_add]
theorem M_number_in (hs : s ≤ T) : ∀ (n p k v : Nat) (h : sk_H), p + n = T → s + k = p → nvB k v → Mr h t T p → ∃ h', Mr h' t T (dgE t T p) ∧ Iq P8 h h' ∧ k_M_numberHere_34 d (some 52) lo hi (nI s) (nI v) h = (if (5 : Int32) < nI (dgE t T p) - nI s then some (wI (wI h' 52 10 (nI (nv k v (dl t T p)))) 52 9 (nI (1 + 8 * s + 1)), (0 : Int32)) else if ¬ (lo ≤ nI (nv k v (dl t T p)) ∧ nI (nv k v (dl t T p)) ≤ hi) then some (wI (wI h' 52 10 (nI (nv k v (dl t T p)))) 52 9 (nI (1 + 8 * s + 1)), (0 : Int32)) else some (wI h' 52 10 (nI (nv k v (dl t T p))), (1 : Int32)))
  | n, p, k, v, h, hp, hk, B, R => by
    obtain ⟨M, r1, r2, r3, r4, r5, r6⟩ := id R
    have il := M_isDigit_ok (d := d) R (k := p) (by omega)
    rw [← r4] at il
    by_cases q : dgt t T p = true
    · have q' := of_decide_eq_true q
      cases n with
      | zero => exact absurd q'.1 (by omega)
      | succ n =>
        obtain ⟨h', e1, e2, e3⟩ := M_number_in hs n (p + 1) (k + 1) (if k < 5 then v * 10 + (t p - 48) else v) (wI h 52 8 (nI (p + 1))) (by omega) (by omega) (B.st (by omega)) (R.w8 (by omega))
        rw [dgE_c q, dl_c q]
        refine ⟨h', e1, (Iq.w h (nI (p + 1)) (P := P8) rfl).trans e2, Eq.trans ?_ e3⟩
        have xp := r2 p (by omega)
        refine (e_M_numberHere_34 _ _ _ _ _ _ _).trans ?_
        refine (if_pos M.K52).trans ?_
        refine (if_pos M.K52).trans ?_
        refine (bnd il _).trans ?_
        refine (if_neg (show ¬ bi (dgt t T p) = 0 by rw [q]; decide)).trans ?_
        refine (if_pos M.K52).trans ?_
        have e5 : hI h 52 8 - nI s = nI k := by rw [r4, q_sub (by omega), show p - s = k by omega]
        by_cases q5 : k < 5
        · refine (if_neg (show ¬ nI 5 ≤ hI h 52 8 - nI s by rw [e5]; exact nI_ge q5 (by omega))).trans ?_
          refine (if_pos M.K52).trans ?_
          refine (if_pos M.K52).trans ?_
          refine (bnd M.R0 _).trans ?_
          refine (if_pos ⟨Or.inr (Or.inl M.K53), by rw [r4, M.N53]; exact vp_in_nI (by omega) (by omega)⟩).trans ?_
          refine (if_pos M.K52).trans ?_
          refine (if_pos M.K52).trans ?_
          show k_M_numberHere_34 d (some 52) lo hi (nI s) ((10 : Int32) * nI v + hI h 53 (hI h 52 8).toNatClampNeg - (48 : Int32)) (wI h 52 8 (hI h 52 8 + (1 : Int32))) = _
          rw [r4, nI_1, q_cl (by omega), xp.2, sx_lo (by omega), if_pos q5, show (10 : Int32) = nI 10 from rfl, show (48 : Int32) = nI 48 from rfl, pk_mul, nI_add, q_sub (by omega), show 10 * v + t p - 48 = v * 10 + (t p - 48) by omega]
        · refine (if_pos (show nI 5 ≤ hI h 52 8 - nI s by rw [e5]; exact nI_le (by omega) (by omega))).trans ?_
          refine (if_pos M.K52).trans ?_
          refine (if_pos M.K52).trans ?_
          show k_M_numberHere_34 d (some 52) lo hi (nI s) (nI v) (wI h 52 8 (hI h 52 8 + (1 : Int32))) = _
          rw [r4, nI_1, if_neg q5]
    · have q : dgt t T p = false := by simpa using q
      rw [dgE_n q, dl_n q]
      refine ⟨h, R, Iq.refl h, ?_⟩
      show k_M_numberHere_34 d (some 52) lo hi (nI s) (nI v) h = (if (5 : Int32) < nI p - nI s then some (wI (wI h 52 10 (nI v)) 52 9 (nI (1 + 8 * s + 1)), (0 : Int32)) else if ¬ (lo ≤ nI v ∧ nI v ≤ hi) then some (wI (wI h 52 10 (nI v)) 52 9 (nI (1 + 8 * s + 1)), (0 : Int32)) else some (wI h 52 10 (nI v), (1 : Int32)))
      have e9 : hI (wI h 52 10 (nI v)) 52 9 = nI 0 := by rw [hI_wI, if_neg (by omega)]; exact r5
      have e8 : hI (wI h 52 10 (nI v)) 52 8 = nI p := by rw [hI_wI, if_neg (by omega)]; exact r4
      have fa := M_fails_ok (d := d) (h := wI h 52 10 (nI v)) M e9 (k := 1) (q := s)
      refine (e_M_numberHere_34 _ _ _ _ _ _ _).trans ?_
      refine (if_pos M.K52).trans ?_
      refine (if_pos M.K52).trans ?_
      refine (bnd il _).trans ?_
      refine (if_pos (show bi (dgt t T p) = 0 by rw [q]; rfl)).trans ?_
      refine (if_pos M.K52).trans ?_
      refine (if_pos M.K52).trans ?_
      rw [e8]
      by_cases q5 : (5 : Int32) < nI p - nI s
      · rw [if_pos q5, if_pos q5]
        refine (if_pos M.K52).trans ?_
        refine (bnd fa _).trans ?_
        exact if_pos rfl
      · rw [if_neg q5, if_neg q5]
        refine (bnd (M_in2_ok d) _).trans ?_
        by_cases q6 : lo ≤ nI v ∧ nI v ≤ hi
        · refine Eq.trans ?_ (if_neg (fun z => z q6)).symm
          exact if_pos (show ¬ bi (decide (lo ≤ nI v ∧ nI v ≤ hi)) = 0 by rw [decide_eq_true q6]; decide)
        · refine Eq.trans ?_ (if_pos q6).symm
          refine (if_neg (fun z => z (show bi (decide (lo ≤ nI v ∧ nI v ≤ hi)) = 0 by rw [decide_eq_false q6]; rfl))).trans ?_
          refine (if_pos M.K52).trans ?_
          refine (bnd fa _).trans ?_
          exact if_pos rfl
theorem nle_lt {x y : Int32} : x ≤ y ↔ ¬ y < x := by rw [Int32.le_iff_toInt_le, Int32.lt_iff_toInt_lt]; omega
theorem M_number_ok {l u : Nat} (B : Bds lo hi l u) (R : Mr h t T p) : (∃ e v h', nmR t T p l u = .inr (e, v) ∧ c_M_numberHere d (some 52) lo hi h = some (h', 1) ∧ Mr h' t T e ∧ hI h' 52 10 = nI v ∧ Iq PF h h' ∧ v < 100000) ∨ ∃ g h', nmR t T p l u = .inl g ∧ c_M_numberHere d (some 52) lo hi h = some (h', 0) ∧ hI h' 52 9 = nI g ∧ Iq PF h h' := by
  obtain ⟨h1, e1, e2, e3⟩ := M_see_ok (d := d) R
  have hp := R.2.2.2.2.2.2
  have hq := nxt_le (t := t) hp
  have x3 := R.2.1
  obtain ⟨M, r1, r2, r3, r4, r5, r6⟩ := id e2
  have di := M_isDigit_ok (d := d) e2 (k := nxt t T p) (by omega)
  rw [← r4] at di
  by_cases q : dgt t T (nxt t T p) = true
  · obtain ⟨h2, g1, g2, g3⟩ := M_number_in (d := d) (lo := lo) (hi := hi) hq.2 (T - nxt t T p) (nxt t T p) 0 0 h1 (by omega) rfl ⟨by omega, fun _ => rfl, by omega, by omega, by omega, by omega⟩ e2
    have hv := nv_le (t := t) (T := T) (p := nxt t T p)
    have hd := dgE_le (t := t) hq.2
    have Bv := B _ hv
    have pre : c_M_numberHere d (some 52) lo hi h = k_M_numberHere_34 d (some 52) lo hi (nI (nxt t T p)) (nI 0) h1 := by
      refine (e_M_numberHere _ _ _ _ _).trans ?_
      refine (if_pos R.1.K52).trans ?_
      refine (bnd e1 _).trans ?_
      refine (if_pos M.K52).trans ?_
      refine (if_pos M.K52).trans ?_
      refine (bnd di _).trans ?_
      refine (if_pos (show ¬ bi (dgt t T (nxt t T p)) = 0 by rw [q]; decide)).trans ?_
      refine (if_pos M.K52).trans ?_
      show k_M_numberHere_34 d (some 52) lo hi (hI h1 52 8) (nI 0) h1 = _
      rw [r4]
    have Q2 : Iq PF h (wI h2 52 10 (nI (nv 0 0 (dl t T (nxt t T p))))) := (e3.p8F.trans g2.p8F).trans (Iq.w h2 _ (P := PF) rfl)
    have fal : ∀ x, k_M_numberHere_34 d (some 52) lo hi (nI (nxt t T p)) (nI 0) h1 = some (x, 0) → x = wI (wI h2 52 10 (nI (nv 0 0 (dl t T (nxt t T p))))) 52 9 (nI (1 + 8 * nxt t T p + 1)) → ∃ g h', (Sum.inl (1 + 8 * nxt t T p + 1) : Nat ⊕ (Nat × Nat)) = .inl g ∧ c_M_numberHere d (some 52) lo hi h = some (h', 0) ∧ hI h' 52 9 = nI g ∧ Iq PF h h' := by
      intro x hx ex
      refine ⟨_, x, rfl, pre.trans hx, ?_, ?_⟩
      · rw [ex, hI_wI, if_pos ⟨rfl, rfl⟩]
      · rw [ex]
        exact Q2.trans (Iq.w _ _ (P := PF) rfl)
    by_cases q2 : dgE t T (nxt t T p) ≤ nxt t T p + 5 ∧ l ≤ nv 0 0 (dl t T (nxt t T p)) ∧ nv 0 0 (dl t T (nxt t T p)) < u
    · refine Or.inl ⟨dgE t T (nxt t T p), nv 0 0 (dl t T (nxt t T p)), _, ?_, pre.trans (g3.trans ((if_neg ?_).trans (if_neg (fun z => z ⟨?_, Bv.2.mpr q2.2.2⟩)))), ?_, ?_, Q2, hv⟩
      · unfold nmR
        rw [if_pos q, if_pos q2]
      · rw [q_sub (by omega)]
        exact show ¬ nI 5 < _ from nI_nlt (by omega) (by omega)
      · exact g1.mv (Iq.w h2 _ (P := PF) rfl) PF_53 rfl (by rw [hI_wI, if_neg (by omega)]; exact g1.2.2.2.2.2.1) hd.2 (by rw [hI_wI, if_neg (by omega)]; exact g1.2.2.2.2.1)
      · rw [hI_wI, if_pos ⟨rfl, rfl⟩]
      · exact nle_lt.mpr (fun z => by have := Bv.1.mp z; omega)
    · refine Or.inr ?_
      have en : nmR t T p l u = .inl (1 + 8 * nxt t T p + 1) := by
        unfold nmR
        rw [if_pos q, if_neg q2]
      rw [en]
      by_cases q5 : (5 : Int32) < nI (dgE t T (nxt t T p)) - nI (nxt t T p)
      · exact fal _ (g3.trans (if_pos q5)) rfl
      · refine fal _ (g3.trans ((if_neg q5).trans (if_pos (fun z => q2 ⟨?_, ?_, Bv.2.mp z.2⟩)))) rfl
        · rw [q_sub (by omega)] at q5
          refine Decidable.byContradiction fun z => q5 (show nI 5 < _ from nI_lt (by omega) (by omega))
        · refine Decidable.byContradiction fun y => nle_lt.mp z.1 (Bv.1.mpr (by omega))
  · have q : dgt t T (nxt t T p) = false := by simpa using q
    refine Or.inr ⟨1 + 8 * nxt t T p + 0, wI h1 52 9 (nI (1 + 8 * nxt t T p + 0)), ?_, ?_, by rw [hI_wI, if_pos ⟨rfl, rfl⟩], e3.p8F.trans (Iq.w _ _ (P := PF) rfl)⟩
    · unfold nmR
      rw [if_neg (by rw [q]; decide)]
    · have fa := M_fails_ok (d := d) (h := h1) M r5 (k := 0) (q := nxt t T p)
      rw [← r4] at fa
      refine (e_M_numberHere _ _ _ _ _).trans ?_
      refine (if_pos R.1.K52).trans ?_
      refine (bnd e1 _).trans ?_
      refine (if_pos M.K52).trans ?_
      refine (if_pos M.K52).trans ?_
      refine (bnd di _).trans ?_
      refine (if_neg (fun z => z (show bi (dgt t T (nxt t T p)) = 0 by rw [q]; rfl))).trans ?_
      refine (if_pos M.K52).trans ?_
      refine (if_pos M.K52).trans ?_
      refine (bnd fa _).trans ?_
      exact if_pos (Or.inl rfl)
end SkMread
