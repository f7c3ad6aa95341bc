/-! ===== the class's reader: words ===== -/
def hw (h : sk_H) (I : Nat → Nat → Int32) : sk_H := (h.1, I, h.2.2)
theorem Iq.hw {P : Nat → Nat → Bool} {h h1 : sk_H} (Q : Iq P h h1) : ∃ I, h1 = hw h I := by
  obtain ⟨a, i, c⟩ := h1
  obtain ⟨q1, q2, -⟩ := Q
  refine ⟨i, ?_⟩
  show (a, i, c) = (h.1, i, h.2.2)
  rw [← q1, ← q2]
/-- a letter stands at p -/
def ltr (t : Nat → Nat) (T p : Nat) : Bool := decide (p < T ∧ 97 ≤ t p ∧ t p ≤ 122)
def wdF (t : Nat → Nat) (T : Nat) : Nat → Nat → List Nat
  | 0, _ => []
  | n + 1, p => if ltr t T p = true then t p :: wdF t T n (p + 1) else []
/-- the letters from p on -/
def wdl (t : Nat → Nat) (T p : Nat) : List Nat := wdF t T (T - p) p
/-- where they end -/
def wE (t : Nat → Nat) (T p : Nat) : Nat := p + (wdl t T p).length
/-- which of some words -/
def wix (l : List Nat) : List (List Nat) → Nat → Int32
  | [], _ => nM
  | w :: r, n => if l = w then nI n else wix l r (n + 1)
/-- the text c of n signs spells these words from s on -/
def Sp (c : Nat → Nat) (n : Nat) : Nat → List (List Nat) → Bool
  | s, [] => s == n + 1
  | s, w :: r => (List.range w.length).all (fun i => c (s + i) == w.getD i 0) && decide (s + w.length ≤ n) && (s + w.length == n || c (s + w.length) == 32) && w.all (fun x => decide (97 ≤ x ∧ x ≤ 122)) && Sp c n (s + w.length + 1) r
/-- a string at s -/
def Stg (h : sk_H) (s : Nat) (c : Nat → Nat) (n : Nat) : Prop := hK h s = 51 ∧ hR h s 0 = some (s + 7) ∧ hI h s 1 = 0 ∧ hK h (s + 7) = 204 ∧ hN h (s + 7) = n ∧ n ≤ 64 ∧ ∀ i, i < n → c i < 128 ∧ hI h (s + 7) i = nI (c i)
theorem ch_ok : ∀ x, x < 128 → ((((nI x &&& 255).toUInt32 % 65536).toInt32).toUInt32.toUInt16.toUInt32.toInt32 = (((nI x &&& 255).toUInt32 % 65536).toInt32)) ∧ ((nI x &&& 255).toUInt32 % 65536).toInt32 = nI x ∧ (nI x).toUInt32.toUInt16.toUInt32.toInt32 = nI x := by decide +kernel
theorem sh0 (n : Nat) : nI n >>> ((0 : Int32) &&& 31) = nI n := b_ext fun i hi => by
  rw [show (0 : Int32) = nI 0 from rfl, b_sshr 0 (by omega) _ hi, if_pos (by omega), Nat.zero_add]
section SkWords
variable {h h' h1 h2 : sk_H} {t : Nat → Nat} {T p b n d s i : Nat} {f : Int32} {c : Nat → Nat}
theorem wdF_le : ∀ (n p : Nat), (wdF t T n p).length ≤ n
  | 0, p => Nat.le_refl _
  | n + 1, p => by
    unfold wdF
    by_cases q : ltr t T p = true
    · rw [if_pos q]
      have := wdF_le n (p + 1)
      simp only [List.length_cons]
      omega
    · rw [if_neg q]
      exact Nat.zero_le _
theorem wE_le (hp : p ≤ T) : p ≤ wE t T p ∧ wE t T p ≤ T := by
  have := wdF_le (t := t) (T := T) (T - p) p
  unfold wE wdl
  omega
theorem wdl_c (hl : ltr t T p = true) : wdl t T p = t p :: wdl t T (p + 1) := by
  have hp : p < T := (of_decide_eq_true hl).1
  unfold wdl
  rw [show T - p = (T - (p + 1)) + 1 by omega]
  show (if ltr t T p = true then t p :: wdF t T (T - (p + 1)) (p + 1) else []) = _
  rw [if_pos hl]
theorem wdl_n (hl : ltr t T p = false) : wdl t T p = [] := by
  unfold wdl
  cases hT : T - p with
  | zero => rfl
  | succ m =>
    show (if ltr t T p = true then t p :: wdF t T m (p + 1) else []) = _
    rw [if_neg (by rw [hl]; decide)]
theorem wE_c (hl : ltr t T p = true) : wE t T p = wE t T (p + 1) := by
  unfold wE
  rw [wdl_c hl, List.length_cons]
  omega
theorem wE_n (hl : ltr t T p = false) : wE t T p = p := by
  unfold wE
  rw [wdl_n hl]
  rfl
theorem JS_charAt_ok (S : Stg h s c n) (hi : i < n) : c_JS_charAt d (some s) (nI i) h = some (h, nI (c i)) := by
  obtain ⟨k, r, i1, k2, n2, n3, x⟩ := S
  obtain ⟨x1, x2⟩ := x i hi
  obtain ⟨c1, c2, c3⟩ := ch_ok (c i) x1
  have la : c_JS_isLatin1 d (some s) h = some (h, 1) := by
    refine (e_JS_isLatin1 _ _ _).trans ?_
    refine (if_neg (by decide)).trans ?_
    refine (if_pos k).trans ?_
    exact if_neg (fun q => q i1)
  have ci : c_JS_checkIndex d (nI i) (Int32.ofNat (hN h (s + 7))) h = some h := by
    refine (e_JS_checkIndex _ _ _ _).trans ?_
    refine (bnd (a := (h, nI i)) ?_ _).trans rfl
    refine (e_JP_checkIndex _ _ _ _ _).trans ?_
    refine (if_neg (nI_pos (by omega))).trans ?_
    refine if_pos ?_
    rw [n2]
    exact nI_lt hi (by omega)
  have ct : c_JT_charAt d (some (s + 7)) (nI i) h = some (h, nI (c i)) := by
    refine (e_JT_charAt _ _ _ _).trans ?_
    refine (bnd rfl _).trans ?_
    refine (if_pos (by rw [k2]; rfl)).trans ?_
    refine (bnd ci _).trans ?_
    refine (bnd rfl _).trans ?_
    refine (if_pos ⟨Or.inr (Or.inr k2), by rw [n2]; exact vp_in_nI hi (by omega)⟩).trans ?_
    rw [q_cl (by omega), x2]
    refine (if_pos c1).trans ?_
    rw [c2]
  refine (e_JS_charAt _ _ _ _).trans ?_
  refine (if_pos k).trans ?_
  refine (bnd la _).trans ?_
  refine (if_neg (show ¬ (1 : Int32) = 0 by decide)).trans ?_
  refine (if_pos k).trans ?_
  rw [r]
  refine (bnd ct _).trans ?_
  exact if_pos c3
theorem JS_length_ok (S : Stg h s c n) : c_JS_length d (some s) h = some (h, nI n) := by
  obtain ⟨k, r, i1, k2, n2, n3, x⟩ := S
  have co : c_JS_coder d (some s) h = some (h, 0) := by
    refine (e_JS_coder _ _ _).trans ?_
    refine (if_neg (by decide)).trans ?_
    refine (if_pos k).trans ?_
    rw [i1]
    exact if_pos (by decide)
  refine (e_JS_length _ _ _).trans ?_
  refine (if_pos k).trans ?_
  refine (bnd r _).trans ?_
  refine (if_pos (by rw [k2]; rfl)).trans ?_
  refine (if_pos k).trans ?_
  refine (bnd co _).trans ?_
  show some (h, Int32.ofNat (hN h (s + 7)) >>> ((0 : Int32) &&& 31)) = _
  rw [n2]
  exact congrArg (fun x => some (h, x)) (sh0 n)
theorem Re_isWord_in (S : Stg h i c n) (X : Tx h t T) (R : Rd h b T p f) {m : Nat} (hm : p + m ≤ T) (hsn : s + m ≤ n) : ∀ (v : List Nat) (j : Nat), j + v.length = m → (∀ k, k < v.length → c (s + j + k) = v.getD k 0) → (∀ x ∈ v, 97 ≤ x ∧ x ≤ 122) → k_Re_isWord_24 d (some b) (some i) (nI s) (nI m) (nI j) h = some (h, bi (decide (wdl t T (p + j) = v)))
  | [], j, hj, hc, hv => by
    obtain ⟨k, r, i1, i2, i3, -⟩ := id R
    obtain ⟨x1, x2, x3, x4⟩ := id X
    have hj : j = m := by simpa using hj
    subst hj
    refine (e_Re_isWord_24 _ _ _ _ _ _ _).trans ?_
    refine (if_pos (nI_le (Nat.le_refl _) (by omega))).trans ?_
    refine (if_pos k).trans ?_
    refine (if_pos k).trans ?_
    rw [i1, i2, nI_add]
    by_cases q : p + j = T
    · rw [q]
      refine (if_pos rfl).trans ?_
      rw [wdl_n (by unfold ltr; exact decide_eq_false (by omega)), decide_eq_true rfl]
      rfl
    · refine (if_neg (by rw [q_eq_f q (by omega) (by omega)]; exact not_false)).trans ?_
      refine (if_pos k).trans ?_
      refine (if_pos k).trans ?_
      refine (bnd r _).trans ?_
      refine (if_pos ⟨x1, by rw [x2]; exact vp_in_nI (by omega) (by omega)⟩).trans ?_
      have xp := x4 (p + j) (by omega)
      have ev : hI h 21 (nI (p + j)).toNatClampNeg = nI (t (p + j)) := by rw [q_cl (by omega)]; exact xp.2
      by_cases q2 : t (p + j) < 97
      · refine (if_pos (show hI h 21 (nI (p + j)).toNatClampNeg < nI 97 by rw [ev]; exact nI_lt q2 (by omega))).trans ?_
        rw [wdl_n (by unfold ltr; exact decide_eq_false (by omega)), decide_eq_true rfl]
        rfl
      · refine (if_neg (show ¬ hI h 21 (nI (p + j)).toNatClampNeg < nI 97 by rw [ev]; exact nI_nlt (by omega) (by omega))).trans ?_
        refine (if_pos k).trans ?_
        refine (if_pos k).trans ?_
        refine (bnd r _).trans ?_
        refine (if_pos ⟨x1, by rw [x2]; exact vp_in_nI (by omega) (by omega)⟩).trans ?_
        by_cases q3 : t (p + j) ≤ 122
        · refine (if_pos (show hI h 21 (nI (p + j)).toNatClampNeg ≤ nI 122 by rw [ev]; exact nI_le q3 (by omega))).trans ?_
          rw [wdl_c (by unfold ltr; exact decide_eq_true (by omega)), decide_eq_false (fun z => by cases z)]
          rfl
        · refine (if_neg (show ¬ hI h 21 (nI (p + j)).toNatClampNeg ≤ nI 122 by rw [ev]; exact nI_ge (by omega) (by omega))).trans ?_
          rw [wdl_n (by unfold ltr; exact decide_eq_false (by omega)), decide_eq_true rfl]
          rfl
  | x :: v, j, hj, hc, hv => by
    obtain ⟨k, r, i1, i2, i3, -⟩ := id R
    obtain ⟨x1, x2, x3, x4⟩ := id X
    have n3 := S.2.2.2.2.2.1
    rw [List.length_cons] at hj
    have hx := hv x (List.mem_cons_self ..)
    have cx : c (s + j) = x := hc 0 (by simp)
    have ca := JS_charAt_ok (d := d) (i := s + j) S (by omega)
    have xp := x4 (p + j) (by omega)
    refine (e_Re_isWord_24 _ _ _ _ _ _ _).trans ?_
    refine (if_neg (nI_ge (by omega) (by omega))).trans ?_
    refine (if_pos k).trans ?_
    refine (if_pos k).trans ?_
    rw [i2, nI_add, nI_add]
    refine (bnd r _).trans ?_
    refine (if_pos ⟨x1, by rw [x2]; exact vp_in_nI (by omega) (by omega)⟩).trans ?_
    refine (bnd rfl _).trans ?_
    refine (if_pos S.1).trans ?_
    refine (bnd ca _).trans ?_
    rw [q_cl (by omega), xp.2]
    by_cases q : t (p + j) = x
    · refine (if_pos (show nI _ = nI _ by rw [q, cx])).trans ?_
      rw [nI_1]
      refine (Re_isWord_in S X R hm hsn v (j + 1) (by omega) (fun k hk => ?_) (fun y hy => hv y (List.mem_cons_of_mem _ hy))).trans ?_
      · have := hc (k + 1) (by simp; omega)
        rw [show s + (j + 1) + k = s + j + (k + 1) by omega]
        exact this
      · rw [wdl_c (t := t) (p := p + j) (by unfold ltr; exact decide_eq_true (by omega)), q]
        have : (x :: wdl t T (p + j + 1) = x :: v) = (wdl t T (p + (j + 1)) = v) := by
          rw [show p + (j + 1) = p + j + 1 by omega]
          simp
        simp only [this]
    · refine (if_neg (show ¬ nI _ = nI _ by rw [q_eq_f (by omega) (by omega) (by omega)]; exact not_false)).trans ?_
      rw [decide_eq_false]
      · rfl
      · intro z
        by_cases ql : ltr t T (p + j) = true
        · rw [wdl_c ql] at z
          exact q (List.cons.inj z).1
        · rw [wdl_n (by simpa using ql)] at z
          cases z
theorem Re_isWord_ok (S : Stg h i c n) (X : Tx h t T) (R : Rd h b T p f) (hp : p ≤ T) {w : List Nat} (hsn : s + w.length ≤ n) (hc : ∀ k, k < w.length → c (s + k) = w.getD k 0) (hv : ∀ x ∈ w, 97 ≤ x ∧ x ≤ 122) : c_Re_isWord d (some b) (some i) (nI s) (nI (s + w.length)) h = some (h, bi (decide (wdl t T p = w))) := by
  obtain ⟨k, r, i1, i2, i3, -⟩ := id R
  have n3 := S.2.2.2.2.2.1
  have x3 := X.2.2.1
  refine (e_Re_isWord _ _ _ _ _ _).trans ?_
  refine (if_pos k).trans ?_
  refine (if_pos k).trans ?_
  rw [i1, i2, q_sub (by omega), show s + w.length - s = w.length by omega, nI_add]
  by_cases q : p + w.length ≤ T
  · refine (if_pos (nI_le q (by omega))).trans ?_
    exact Re_isWord_in S X R q hsn w 0 (by omega) hc hv
  · refine (if_neg (nI_ge (by omega) (by omega))).trans ?_
    rw [decide_eq_false]
    · rfl
    · intro z
      have := wE_le (t := t) hp
      unfold wE at this
      rw [z] at this
      omega
theorem Re_wordOf_skip (S : Stg h i c n) {m : Nat} (hm : m ≤ n) {x y : Int32} : ∀ (k j : Nat), j + k = m → (∀ a, j ≤ a → a < m → c a ≠ 32) → k_Re_wordOf_12 d (some b) (some i) x y (nI j) h = k_Re_wordOf_12 d (some b) (some i) x y (nI m) h
  | 0, j, hj, hc => by rw [show j = m from hj]
  | k + 1, j, hj, hc => by
    have n3 := S.2.2.2.2.2.1
    have xj := (S.2.2.2.2.2.2 j (by omega)).1
    refine Eq.trans ?_ (Re_wordOf_skip S hm k (j + 1) (by omega) (fun a h1 h2 => hc a (by omega) h2))
    refine (e_Re_wordOf_12 _ _ _ _ _ _ _).trans ?_
    refine (bnd rfl _).trans ?_
    refine (if_pos S.1).trans ?_
    refine (bnd (JS_length_ok S) _).trans ?_
    refine (if_neg (nI_nlt (by omega) (by omega))).trans ?_
    refine (bnd rfl _).trans ?_
    refine (if_pos S.1).trans ?_
    refine (bnd (JS_length_ok S) _).trans ?_
    refine (if_neg (show ¬ nI j = nI n by rw [q_eq_f (by omega) (by omega) (by omega)]; exact not_false)).trans ?_
    refine (bnd rfl _).trans ?_
    refine (if_pos S.1).trans ?_
    refine (bnd (JS_charAt_ok S (by omega)) _).trans ?_
    refine (if_pos (show ¬ nI (c j) = nI 32 by rw [q_eq_f (hc j (by omega) (by omega)) (by omega) (by omega)]; exact not_false)).trans ?_
    rw [nI_1]
theorem Re_wordOf_in (S : Stg h i c n) (X : Tx h t T) (R : Rd h b T p f) (hp : p ≤ T) : ∀ (ws : List (List Nat)) (m s : Nat), Sp c n s ws = true → k_Re_wordOf_12 d (some b) (some i) (nI m) (nI s) (nI s) h = some (h, wix (wdl t T p) ws m)
  | [], m, s, sp => by
    have n3 := S.2.2.2.2.2.1
    have e : s = n + 1 := by simpa [Sp] using sp
    subst e
    refine (e_Re_wordOf_12 _ _ _ _ _ _ _).trans ?_
    refine (bnd rfl _).trans ?_
    refine (if_pos S.1).trans ?_
    refine (bnd (JS_length_ok S) _).trans ?_
    exact if_pos (nI_lt (by omega) (by omega))
  | w :: ws, m, s, sp => by
    have n3 := S.2.2.2.2.2.1
    unfold Sp at sp
    simp only [Bool.and_eq_true, List.all_eq_true, List.mem_range, decide_eq_true_eq, Bool.or_eq_true, beq_iff_eq] at sp
    obtain ⟨⟨⟨⟨s1, s2⟩, s3⟩, s4⟩, s5⟩ := sp
    have iw := Re_isWord_ok (d := d) S X R hp s2 s1 s4
    have ce : ∀ a, s ≤ a → a < s + w.length → c a ≠ 32 := by
      intro a h1 h2
      have e := s1 (a - s) (by omega)
      rw [show s + (a - s) = a by omega] at e
      have hm : w.getD (a - s) 0 ∈ w := by
        rw [List.getD_eq_getElem?_getD, List.getElem?_eq_getElem (by omega : a - s < w.length)]
        exact List.getElem_mem _
      have := s4 _ hm
      omega
    rw [Re_wordOf_skip S s2 w.length s rfl ce]
    have fin : k_Re_wordOf_41 d (some b) (some i) (nI m) (nI s) (nI (s + w.length)) h = some (h, wix (wdl t T p) (w :: ws) m) := by
      refine (e_Re_wordOf_41 _ _ _ _ _ _ _).trans ?_
      refine (if_pos R.1).trans ?_
      refine (bnd iw _).trans ?_
      unfold wix
      by_cases q : wdl t T p = w
      · rw [if_pos q]
        refine (if_neg (show ¬ bi (decide (wdl t T p = w)) = 0 by rw [decide_eq_true q]; decide)).trans rfl
      · rw [if_neg q]
        refine (if_pos (show bi (decide (wdl t T p = w)) = 0 by rw [decide_eq_false q]; rfl)).trans ?_
        show k_Re_wordOf_12 d (some b) (some i) (nI m + 1) (nI (s + w.length) + 1) (nI (s + w.length) + 1) h = _
        rw [nI_1, nI_1]
        exact Re_wordOf_in S X R hp ws (m + 1) (s + w.length + 1) s5
    refine (e_Re_wordOf_12 _ _ _ _ _ _ _).trans ?_
    refine (bnd rfl _).trans ?_
    refine (if_pos S.1).trans ?_
    refine (bnd (JS_length_ok S) _).trans ?_
    refine (if_neg (nI_nlt s2 (by omega))).trans ?_
    refine (bnd rfl _).trans ?_
    refine (if_pos S.1).trans ?_
    refine (bnd (JS_length_ok S) _).trans ?_
    by_cases q : s + w.length = n
    · refine (if_pos (show nI _ = nI _ by rw [q])).trans ?_
      exact fin
    · refine (if_neg (show ¬ nI _ = nI _ by rw [q_eq_f q (by omega) (by omega)]; exact not_false)).trans ?_
      refine (bnd rfl _).trans ?_
      refine (if_pos S.1).trans ?_
      refine (bnd (JS_charAt_ok S (by omega)) _).trans ?_
      refine (if_neg (fun z => z ?_)).trans fin
      show nI (c (s + w.length)) = nI 32
      rw [s3.resolve_left q]
theorem Stg.iq (S : Stg h i c n) (hi : i ≤ 8) (Q : Iq (PRd b) h h1) (hb : 73 ≤ b) : Stg h1 i c n := by
  obtain ⟨k, r, i1, k2, n2, n3, x⟩ := S
  have e : ∀ a, a < 73 → hI h1 a = hI h a := fun a ha => funext fun j => Q.2.2 a j (by unfold PRd; rw [show (a == b) = false from beq_eq_false_iff_ne.mpr (by omega)]; rfl)
  refine ⟨by rw [Q.eK]; exact k, by rw [Q.eR]; exact r, by rw [e _ (by omega)]; exact i1, by rw [Q.eK]; exact k2, by rw [Q.eN]; exact n2, n3, ?_⟩
  rw [e _ (by omega)]
  exact x
/-- which word comes next -/
theorem Re_wordOf_ok (S : Stg h i c n) (hi : i ≤ 8) (X : Tx h t T) (R : Rd h b T p f) (hp : p ≤ T) {ws : List (List Nat)} (sp : Sp c n 0 ws = true) : ∃ h', c_Re_wordOf d (some b) (some i) h = some (h', wix (wdl t T (nxt t T p)) ws 0) ∧ Rd h' b T (nxt t T p) f ∧ Iq (PRd b) h h' := by
  obtain ⟨h1, e1, e2, e3⟩ := Re_next_ok (d := d) X R hp
  have hb := R.2.2.2.2.2
  refine ⟨h1, ?_, e2, e3⟩
  refine (e_Re_wordOf _ _ _ _).trans ?_
  refine (if_pos R.1).trans ?_
  refine (bnd e1 _).trans ?_
  exact Re_wordOf_in (S.iq hi e3 hb) (X.iq e3 hb) e2 (nxt_le hp).2 ws 0 0 sp
theorem Re_skipWord_in : ∀ (n p : Nat) (h : sk_H), p + n = T → Tx h t T → Rd h b T p f → ∃ h', k_Re_skipWord_0 d (some b) h = some h' ∧ Rd h' b T (wE t T p) f ∧ Iq (PRd b) h h'
  | 0, p, h, hp, X, R => by
    obtain ⟨k, r, i1, i2, i3, hb⟩ := id R
    have x3 := X.2.2.1
    rw [wE_n (by unfold ltr; exact decide_eq_false (by omega))]
    refine ⟨h, ?_, R, Iq.refl h⟩
    refine (e_Re_skipWord_0 _ _ _).trans ?_
    refine (if_pos k).trans ?_
    refine (if_pos k).trans ?_
    exact if_pos (by rw [i1, i2]; exact nI_le (by omega) (by omega))
  | n + 1, p, h, hp, X, R => by
    obtain ⟨k, r, i1, i2, i3, hb⟩ := id R
    obtain ⟨x1, x2, x3, x4⟩ := id X
    have xp := x4 p (by omega)
    have ev : hI h 21 (hI h b 2).toNatClampNeg = nI (t p) := by rw [i2, q_cl (by omega)]; exact xp.2
    have inn : sk_in (hI h b 2) (hN h 21) := by rw [i2, x2]; exact vp_in_nI (by omega) (by omega)
    have pre : ∀ o, (if hI h 21 (hI h b 2).toNatClampNeg < (97 : Int32) then some h else if (122 : Int32) < hI h 21 (hI h b 2).toNatClampNeg then some h else k_Re_skipWord_0 d (some b) (wI h b 2 (hI h b 2 + (1 : Int32)))) = o → k_Re_skipWord_0 d (some b) h = o := by
      intro o ho
      rw [← ho]
      refine (e_Re_skipWord_0 _ _ _).trans ?_
      refine (if_pos k).trans ?_
      refine (if_pos k).trans ?_
      refine (if_neg (by rw [i1, i2]; exact nI_ge (by omega) (by omega))).trans ?_
      refine (if_pos k).trans ?_
      refine (if_pos k).trans ?_
      refine (bnd r _).trans ?_
      refine (if_pos ⟨x1, inn⟩).trans ?_
      by_cases q : hI h 21 (hI h b 2).toNatClampNeg < (97 : Int32)
      · rw [if_pos q, if_pos q]
      · rw [if_neg q, if_neg q]
        refine (if_pos k).trans ?_
        refine (if_pos k).trans ?_
        refine (bnd r _).trans ?_
        refine (if_pos ⟨x1, inn⟩).trans ?_
        by_cases q2 : (122 : Int32) < hI h 21 (hI h b 2).toNatClampNeg
        · rw [if_pos q2, if_pos q2]
        · rw [if_neg q2, if_neg q2]
          refine (if_pos k).trans ?_
          refine (if_pos k).trans ?_
          rfl
    rw [ev, i2, nI_1] at pre
    by_cases q : ltr t T p = true
    · have q' := of_decide_eq_true q
      obtain ⟨h', e1, e2, e3⟩ := Re_skipWord_in n (p + 1) (wI h b 2 (nI (p + 1))) (by omega) ⟨x1, x2, x3, fun i hi => ⟨(x4 i hi).1, by rw [hI_wI, if_neg (fun q => by omega)]; exact (x4 i hi).2⟩⟩ ⟨k, r, by rw [hI_wI, if_neg (fun q => by omega)]; exact i1, by rw [hI_wI, if_pos ⟨rfl, rfl⟩], by rw [hI_wI, if_neg (fun q => by omega)]; exact i3, hb⟩
      refine ⟨h', pre _ ?_, by rw [wE_c q]; exact e2, (Iq.w h (nI (p + 1)) (by unfold PRd; simp)).trans e3⟩
      refine (if_neg (show ¬ nI (t p) < nI 97 from nI_nlt (by omega) (by omega))).trans ?_
      refine (if_neg (show ¬ nI 122 < nI (t p) from nI_nlt (by omega) (by omega))).trans ?_
      exact e1
    · have q' := of_decide_eq_false (by simpa using q : ltr t T p = false)
      rw [wE_n (by simpa using q)]
      refine ⟨h, pre _ ?_, R, Iq.refl h⟩
      by_cases q2 : t p < 97
      · exact if_pos (show nI (t p) < nI 97 from nI_lt q2 (by omega))
      · refine (if_neg (show ¬ nI (t p) < nI 97 from nI_nlt (by omega) (by omega))).trans ?_
        exact if_pos (show nI 122 < nI (t p) from nI_lt (by omega) (by omega))
theorem Re_skipWord_ok (X : Tx h t T) (R : Rd h b T p f) (hp : p ≤ T) : ∃ h', c_Re_skipWord d (some b) h = some h' ∧ Rd h' b T (wE t T p) f ∧ Iq (PRd b) h h' := by
  rw [show c_Re_skipWord d (some b) h = k_Re_skipWord_0 d (some b) h from (e_Re_skipWord _ _ _).trans (e_Re_skipWord_0 _ _ _).symm]
  exact Re_skipWord_in (T - p) p h (by omega) X R
/-- the place behind a word that comes next, else the place of what comes next -/
def tkE (t : Nat → Nat) (T p : Nat) (w : List Nat) : Nat := if wdl t T (nxt t T p) = w then wE t T (nxt t T p) else nxt t T p
theorem Re_takesWord_no (R : Rd h b T p f) (hf : f ≠ nM) : c_Re_takesWord d (some b) (some i) h = some (h, bi false) := by
  have so := Re_sound_ok (d := d) R
  rw [decide_eq_false hf] at so
  refine (e_Re_takesWord _ _ _ _).trans ?_
  refine (if_pos R.1).trans ?_
  refine (bnd so _).trans ?_
  exact if_pos (show bi false = 0 by decide)
theorem Re_takesWord_ok (S : Stg h i c n) (hi : i ≤ 8) (X : Tx h t T) (R : Rd h b T p nM) (hp : p ≤ T) {w : List Nat} (sp : Sp c n 0 [w] = true) : ∃ h', c_Re_takesWord d (some b) (some i) h = some (h', bi (decide (wdl t T (nxt t T p) = w))) ∧ Rd h' b T (tkE t T p w) nM ∧ Iq (PRd b) h h' := by
  have so := Re_sound_ok (d := d) R
  rw [decide_eq_true rfl] at so
  obtain ⟨h1, e1, e2, e3⟩ := Re_wordOf_ok (d := d) S hi X R hp sp
  have hb := R.2.2.2.2.2
  have hq := nxt_le (t := t) hp
  unfold tkE
  by_cases q : wdl t T (nxt t T p) = w
  · obtain ⟨h2, g1, g2, g3⟩ := Re_skipWord_ok (d := d) (X.iq e3 hb) e2 hq.2
    rw [if_pos q, decide_eq_true q]
    refine ⟨h2, ?_, g2, e3.trans g3⟩
    refine (e_Re_takesWord _ _ _ _).trans ?_
    refine (if_pos R.1).trans ?_
    refine (bnd so _).trans ?_
    refine (if_neg (show ¬ bi true = 0 by decide)).trans ?_
    refine (if_pos R.1).trans ?_
    refine (bnd e1 _).trans ?_
    refine (if_pos (show ¬ wix (wdl t T (nxt t T p)) [w] 0 = nM by unfold wix; rw [if_pos q]; decide)).trans ?_
    refine (if_pos e2.1).trans ?_
    exact (bnd g1 _).trans rfl
  · rw [if_neg q, decide_eq_false q]
    refine ⟨h1, ?_, e2, e3⟩
    refine (e_Re_takesWord _ _ _ _).trans ?_
    refine (if_pos R.1).trans ?_
    refine (bnd so _).trans ?_
    refine (if_neg (show ¬ bi true = 0 by decide)).trans ?_
    refine (if_pos R.1).trans ?_
    refine (bnd e1 _).trans ?_
    exact if_neg (fun z => z (show wix (wdl t T (nxt t T p)) [w] 0 = nM by unfold wix; rw [if_neg q]; rfl))
end SkWords
