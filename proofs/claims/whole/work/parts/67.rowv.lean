/-! ===== what a row is worth, and that it is the least number left out ===== -/
def wl (A : AD) (m : Nat) : Nat → Option Nat → Nat
  | 0, _ => 0
  | _ + 1, none => 0
  | n + 1, some q => if m.testBit q = true then wl A m n (aNx A q) + 1 else 0
def pvb (A : AD) (m p : Nat) : Bool := match aPv A p with
  | none => false
  | some q => m.testBit q
def ru (A : AD) (m p : Nat) : Nat := if pvb A m p = true then 0 else wl A m (aN A) (some p)
def xs (f : Nat → Nat) : Nat → Nat
  | 0 => 0
  | n + 1 => xs f n ^^^ f n
theorem xs_cg {f g : Nat → Nat} : ∀ {n : Nat}, (∀ i, i < n → f i = g i) → xs f n = xs g n
  | 0, _ => rfl
  | n + 1, h => by
    show xs f n ^^^ f n = xs g n ^^^ g n
    rw [xs_cg (fun i hi => h i (by omega)), h n (by omega)]
theorem xs_add (f : Nat → Nat) (a : Nat) : ∀ b, xs f (a + b) = xs f a ^^^ xs (fun i => f (a + i)) b
  | 0 => by
    show xs f a = xs f a ^^^ 0
    rw [Nat.xor_zero]
  | b + 1 => by
    show xs f (a + b) ^^^ f (a + b) = xs f a ^^^ (xs (fun i => f (a + i)) b ^^^ f (a + b))
    rw [xs_add f a b, Nat.xor_assoc]
theorem xs_rot (f : Nat → Nat) {o Z : Nat} (ho : o < Z) : xs (fun i => f ((o + i) % Z)) Z = xs f Z := by
  have e1 : Z = (Z - o) + o := by omega
  have e2 : Z = o + (Z - o) := by omega
  have h1 := xs_add (fun i => f ((o + i) % Z)) (Z - o) o
  have h2 := xs_add f o (Z - o)
  rw [← e1] at h1
  rw [← e2] at h2
  rw [h1, h2, Nat.xor_comm]
  congr 1
  · refine xs_cg (fun i hi => ?_)
    show f ((o + (Z - o + i)) % Z) = f i
    rw [show o + (Z - o + i) = i + Z by omega, Nat.add_mod_right, Nat.mod_eq_of_lt (by omega)]
  · refine xs_cg (fun i hi => ?_)
    show f ((o + i) % Z) = f (o + i)
    rw [Nat.mod_eq_of_lt (by omega)]
theorem xs_sh (f : Nat → Nat) (n : Nat) : xs f (n + 1) = f 0 ^^^ xs (fun i => f (i + 1)) n := by
  rw [show n + 1 = 1 + n by omega, xs_add]
  congr 1
  · show 0 ^^^ f 0 = f 0
    rw [Nat.zero_xor]
  · exact xs_cg (fun i _ => by rw [Nat.add_comm])
theorem rs_xs (W : Nat → Nat) : ∀ (n : Nat) (f : Nat → Bool) (prev : Bool), rsW W ((List.range n).map f) prev = xs (fun i => if (if i = 0 then prev else f (i - 1)) = true then 0 else W (lead ((List.range (n - i)).map (fun t => f (i + t))))) n
  | 0, f, prev => rfl
  | n + 1, f, prev => by
    have e : (List.range (n + 1)).map f = f 0 :: (List.range n).map (fun i => f (i + 1)) := by
      rw [show n + 1 = 1 + n by omega, rg_add]
      show f 0 :: _ = _
      congr 1
      exact rg_cg (fun i _ => by rw [Nat.add_comm])
    rw [xs_sh, e]
    show (if prev = true then 0 else W (lead (f 0 :: (List.range n).map (fun i => f (i + 1))))) ^^^ rsW W ((List.range n).map (fun i => f (i + 1))) (f 0) = _
    rw [rs_xs W n (fun i => f (i + 1)) (f 0)]
    congr 1
    · rw [if_pos rfl]
      by_cases q : prev = true
      · rw [if_pos q, if_pos q]
      · rw [if_neg q, if_neg q, ← e]
        congr 2
        exact rg_cg (fun i _ => by rw [Nat.zero_add])
    · refine xs_cg (fun i hi => ?_)
      show (if (if i = 0 then f 0 else f (i - 1 + 1)) = true then 0 else W (lead ((List.range (n - i)).map (fun t => f (i + t + 1))))) = (if (if i + 1 = 0 then prev else f (i + 1 - 1)) = true then 0 else W (lead ((List.range (n + 1 - (i + 1))).map (fun t => f (i + 1 + t)))))
      rw [if_neg (show ¬ i + 1 = 0 by omega), Nat.add_sub_cancel, show n + 1 - (i + 1) = n - i by omega]
      have e2 : (if i = 0 then f 0 else f (i - 1 + 1)) = f i := by
        by_cases q : i = 0
        · rw [if_pos q, q]
        · rw [if_neg q, show i - 1 + 1 = i by omega]
      rw [e2]
      congr 3
      exact rg_cg (fun t _ => by rw [show i + t + 1 = i + 1 + t by omega])
theorem wl_le (A : AD) (m : Nat) : ∀ n x, wl A m n x ≤ n
  | 0, _ => Nat.le_refl 0
  | n + 1, none => Nat.zero_le _
  | n + 1, some q => by
    unfold wl
    split
    · have := wl_le A m n (aNx A q); omega
    · exact Nat.zero_le _
theorem ru_le (A : AD) (m p : Nat) : ru A m p ≤ aN A := by
  unfold ru
  split
  · exact Nat.zero_le _
  · exact wl_le A m _ _
section SkRowV
variable {A : AD} {r p m o i k : Nat}
theorem lsB_c (hi : i < aSz A r) : lsB A r o m i = m.testBit (po A r o i) :: lsB A r o m (i + 1) := by
  unfold lsB
  rw [show aSz A r - i = 1 + (aSz A r - (i + 1)) by omega, rg_add]
  show _ :: _ = _
  congr 1
  exact rg_cg (fun j _ => by rw [show i + (1 + j) = i + 1 + j by omega])
theorem lsB_n : lsB A r o m (aSz A r) = [] := by
  unfold lsB
  rw [Nat.sub_self]
  rfl
theorem wl_po (W : aW A) (hr : r < aK A) (gp : gap A r o m) : ∀ (n i : Nat), i < aSz A r → aSz A r - i ≤ n → wl A m n (some (po A r o i)) = lead (lsB A r o m i)
  | 0, i, hi, hn => by omega
  | n + 1, i, hi, hn => by
    obtain ⟨g, gg⟩ := id gp
    rw [lsB_c hi]
    unfold wl
    cases hb : m.testBit (po A r o i)
    · rfl
    · rw [if_pos rfl]
      show _ = lead (lsB A r o m (i + 1)) + 1
      by_cases q : i + 1 < aSz A r
      · rw [nx_po W hr g (Or.inl q), wl_po W hr gp n (i + 1) q (by omega)]
      · have e : i = aSz A r - 1 := by omega
        by_cases qg : aRg A r = true
        · rw [e, gg qg] at hb; cases hb
        · have o0 : o = 0 := g.2.resolve_left qg
          subst o0
          rw [show i + 1 = aSz A r by omega, lsB_n, e, nx_poZ W hr (by simpa using qg)]
          cases n <;> rfl
theorem ru_po (W : aW A) (hr : r < aK A) (gp : gap A r o m) (hi : i < aSz A r) : ru A m (po A r o i) = if (if i = 0 then false else m.testBit (po A r o (i - 1))) = true then 0 else lead (lsB A r o m i) := by
  obtain ⟨g, gg⟩ := id gp
  have w3 := W.2.2.1 r hr
  unfold ru
  rw [wl_po W hr gp (aN A) i hi (by omega)]
  have e : pvb A m (po A r o i) = (if i = 0 then false else m.testBit (po A r o (i - 1))) := by
    unfold pvb
    cases i with
    | zero =>
      rw [pv_po0 W hr g]
      by_cases q : aRg A r = true
      · rw [if_pos q]; exact gg q
      · rw [if_neg q]; rfl
    | succ i =>
      rw [pv_po W hr g hi]
      rfl
  rw [e]
def rsum (A : AD) (r m : Nat) (W : Nat → Nat) : Nat := xs (fun j => W (ru A m (aSt A r + j))) (aSz A r)
theorem rsum_lv {U : Nat → Nat} (h0 : U 0 = 0) (W : aW A) (hr : r < aK A) (gp : gap A r o m) : rsum A r m U = lvW U (lst A r o m) 0 := by
  rw [← rs_lv h0]
  unfold lst
  rw [rs_xs]
  unfold rsum
  rw [← xs_rot (fun j => U (ru A m (aSt A r + j))) gp.1.1]
  refine xs_cg (fun i hi => ?_)
  show U (ru A m (po A r o i)) = _
  rw [ru_po W hr gp hi]
  by_cases q : (if i = 0 then false else m.testBit (po A r o (i - 1))) = true
  · rw [if_pos q, if_pos q, h0]
  · rw [if_neg q, if_neg q]
    rfl
def whole (A : AD) (r m : Nat) : Bool := aRg A r && (List.range (aSz A r)).all (fun j => m.testBit (aSt A r + j))
theorem whole_iff : whole A r m = true ↔ (aRg A r = true ∧ ∀ j, j < aSz A r → m.testBit (aSt A r + j) = true) := by
  unfold whole
  rw [Bool.and_eq_true, List.all_eq_true]
  exact and_congr Iff.rfl ⟨fun h j hj => h j (List.mem_range.mpr hj), fun h j hj => h j (List.mem_range.mp hj)⟩
def rgL (H : Nat) (E : Bool) (Z : Nat) (U : Nat → Nat) : List Nat := ([1, 2, 3, 4].filter (fun k => decide (k ≤ Z) && (H.testBit (k - 1) && (!E || k == Z)))).map (fun k => U (Z - k))
theorem rgL_mem {H : Nat} {E : Bool} {Z : Nat} {U : Nat → Nat} {v : Nat} : v ∈ rgL H E Z U ↔ ∃ k, 1 ≤ k ∧ k ≤ 4 ∧ k ≤ Z ∧ H.testBit (k - 1) = true ∧ (E = true → k = Z) ∧ v = U (Z - k) := by
  unfold rgL
  rw [List.mem_map]
  have m4 : ∀ k, k ∈ [1, 2, 3, 4] ↔ (1 ≤ k ∧ k ≤ 4) := by
    intro k
    constructor
    · revert k; decide
    · intro h
      rcases (show k = 1 ∨ k = 2 ∨ k = 3 ∨ k = 4 by omega) with rfl | rfl | rfl | rfl <;> simp
  constructor
  · rintro ⟨k, hk, hv⟩
    rw [List.mem_filter, m4, Bool.and_eq_true, Bool.and_eq_true, decide_eq_true_eq] at hk
    refine ⟨k, hk.1.1, hk.1.2, hk.2.1, hk.2.2.1, fun hE => ?_, hv.symm⟩
    have := hk.2.2.2
    rw [hE] at this
    simpa using this
  · rintro ⟨k, h1, h4, hZ, hH, hE, hv⟩
    refine ⟨k, ?_, hv.symm⟩
    rw [List.mem_filter, m4, Bool.and_eq_true, Bool.and_eq_true, decide_eq_true_eq]
    refine ⟨⟨h1, h4⟩, hZ, hH, ?_⟩
    cases hE2 : E
    · rfl
    · have := hE hE2
      simp [this]
def Vr (A : AD) (r H : Nat) (E : Bool) (m : Nat) : Nat := if whole A r m = true then mex (rgL H E (aSz A r) (pW H E)) else rsum A r m (pW H E)
theorem no_whole (W : aW A) (hr : r < aK A) (h : whole A r m = false) : ∃ o, gap A r o m := by
  have w3 := W.2.2.1 r hr
  by_cases q : aRg A r = true
  · have : ∃ j, j < aSz A r ∧ m.testBit (aSt A r + j) = false := by
      refine Classical.byContradiction fun hn => ?_
      have : whole A r m = true := whole_iff.mpr ⟨q, fun j hj => by
        cases hb : m.testBit (aSt A r + j)
        · exact absurd ⟨j, hj, hb⟩ hn
        · rfl⟩
      rw [h] at this; cases this
    obtain ⟨j, hj, hb⟩ := this
    by_cases q2 : j + 1 < aSz A r
    · refine ⟨j + 1, ⟨q2, Or.inl q⟩, fun _ => ?_⟩
      unfold po
      rw [show j + 1 + (aSz A r - 1) = j + aSz A r by omega, Nat.add_mod_right, Nat.mod_eq_of_lt hj]
      exact hb
    · refine ⟨0, ⟨by omega, Or.inl q⟩, fun _ => ?_⟩
      unfold po
      rw [Nat.zero_add, Nat.mod_eq_of_lt (by omega), show aSz A r - 1 = j by omega]
      exact hb
  · exact ⟨0, ⟨by omega, Or.inr rfl⟩, fun q2 => absurd q2 q⟩
theorem gap_no (W : aW A) (hr : r < aK A) (gp : gap A r o m) : whole A r m = false := by
  have w3 := W.2.2.1 r hr
  cases hq : whole A r m
  · rfl
  · obtain ⟨q1, q2⟩ := whole_iff.mp hq
    have h1 := gp.2 q1
    have h2 := q2 ((o + (aSz A r - 1)) % aSz A r) (Nat.mod_lt _ (by omega))
    unfold po at h1
    rw [h1] at h2; cases h2
theorem Vr_lv (W : aW A) (hr : r < aK A) (gp : gap A r o m) (H : Nat) (E : Bool) : Vr A r H E m = lvW (pW H E) (lst A r o m) 0 := by
  unfold Vr
  rw [gap_no W hr gp, if_neg (by decide), rsum_lv (pW_0 H E) W hr gp]
theorem gap_an (hm : m < 4096) (s : Nat) (gp : gap A r o m) : gap A r o (an m s) := ⟨gp.1, fun q => by rw [an_bit _ _ hm, gp.2 q]; rfl⟩
theorem sb_wrap (W : aW A) (hr : r < aK A) (hG : aRg A r = true) (ho : o < aSz A r) : ∀ (n i set : Nat), i ≤ aSz A r → aSz A r < i + n → (∀ t, t < i → set.testBit (po A r o t) = true) → sbA A n (some (po A r o i)) set = 0
  | 0, i, set, hi, hn, _ => by omega
  | n + 1, i, set, hi, hn, hs => by
    have w3 := W.2.2.1 r hr
    have e : sbA A (n + 1) (some (po A r o i)) set = if set.testBit (po A r o i) then 0 else sbA A n (aNx A (po A r o i)) (set ||| 1 <<< po A r o i) := rfl
    rw [e]
    by_cases q : set.testBit (po A r o i) = true
    · rw [if_pos q]
    · rw [if_neg q]
      have hi2 : i < aSz A r := by
        rcases Nat.lt_or_ge i (aSz A r) with h | h
        · exact h
        · have e2 : i = aSz A r := by omega
          have e3 : po A r o i = po A r o 0 := by
            unfold po
            rw [e2, Nat.add_mod_right, Nat.add_zero]
          rw [e3] at q
          exact absurd (hs 0 (by omega)) q
      rw [nx_po W hr ⟨ho, Or.inl hG⟩ (Or.inr ⟨hG, hi2⟩)]
      refine sb_wrap W hr hG ho n (i + 1) _ (by omega) (by omega) (fun t ht => ?_)
      rw [Nat.testBit_or, bit_1]
      rcases (show t < i ∨ t = i by omega) with h | h
      · rw [hs t h]; rfl
      · rw [h, decide_eq_true rfl, Bool.or_true]
theorem whole_po (hw : whole A r m = true) (hZ : 0 < aSz A r) (o i : Nat) : m.testBit (po A r o i) = true := (whole_iff.mp hw).2 _ (Nat.mod_lt _ hZ)
theorem cB_whole (W : aW A) (hr : r < aK A) (hw : whole A r m = true) (hm : m < 4096) {j : Nat} (hj : j < aSz A r) (h1 : 1 ≤ k) {H : Nat} {E : Bool} : cB A m (po A r j 0) k H E = true ↔ (H.testBit (k - 1) = true ∧ k ≤ aSz A r ∧ (E = true → k = aSz A r)) := by
  have w3 := W.2.2.1 r hr
  have hG := (whole_iff.mp hw).1
  have g : oG A r j := ⟨hj, Or.inl hG⟩
  have ends : k ≤ aSz A r → ((eO (an m (sB A (po A r j 0) k)) (aPv A (po A r j 0)) || eO (an m (sB A (po A r j 0) k)) ((lO A (k - 1) (some (po A r j 0))).bind (aNx A))) = true ↔ k = aSz A r) := by
    intro hk
    rw [pv_po0 W hr g, if_pos hG, lO_po W hr g (k - 1) (by omega)]
    show (!(an m _).testBit _ || eO _ (aNx A (po A r j (0 + (k - 1))))) = true ↔ _
    rw [nx_po W hr g (Or.inr ⟨hG, by omega⟩), show 0 + (k - 1) + 1 = k by omega]
    show (!(an m _).testBit _ || !(an m _).testBit _) = true ↔ _
    rw [an_bit _ _ hm, an_bit _ _ hm, whole_po hw (by omega), whole_po hw (by omega), Bool.true_and, Bool.true_and, Bool.not_not, Bool.not_not]
    constructor
    · intro h
      refine Classical.byContradiction fun hn => ?_
      rw [sB_po_f W hr g (by omega) (by omega) (show aSz A r - 1 < aSz A r by omega) (Or.inr (by omega)), sB_po_f W hr g (by omega) (by omega) (show k < aSz A r by omega) (Or.inr (by omega))] at h
      cases h
    · intro h
      have := sB_po_t W hr g (i := 0) (k := k) (by omega) (by omega) (t := aSz A r - 1) (by omega)
      rw [Nat.zero_add] at this
      rw [this]; rfl
  unfold cB
  rw [Bool.and_eq_true, Bool.and_eq_true, Bool.and_eq_true, decide_eq_true_eq, decide_eq_true_eq]
  constructor
  · rintro ⟨c1, c2, c3, c4⟩
    have hk : k ≤ aSz A r := by
      rcases Nat.lt_or_ge (aSz A r) k with q | q
      · exact absurd (sb_wrap W hr hG hj k 0 0 (by omega) (by omega) (fun t ht => absurd ht (by omega))) c2
      · exact q
    refine ⟨c1, hk, fun hE => ?_⟩
    rw [hE] at c4
    exact (ends hk).mp c4
  · rintro ⟨c1, c2, c3⟩
    refine ⟨c1, sb_ne W hr g k 0 0 (by omega) (by omega) (fun t _ => Nat.zero_testBit _), and_sub.mpr (fun c hc => ?_), ?_⟩
    · obtain ⟨t, ht, he⟩ := (sB_bit W hr g (by omega) (by omega) c).mp hc
      rw [← he]; exact whole_po hw (by omega) _ _
    · cases hE : E
      · rfl
      · exact (ends c2).mpr (c3 hE)
theorem Vr_whole (W : aW A) (hr : r < aK A) (hw : whole A r m = true) (hm : m < 4096) {j : Nat} (hj : j < aSz A r) (h1 : 1 ≤ k) (hk : k ≤ aSz A r) (H : Nat) (E : Bool) : Vr A r H E (an m (sB A (po A r j 0) k)) = pW H E (aSz A r - k) := by
  have w3 := W.2.2.1 r hr
  have hG := (whole_iff.mp hw).1
  have g : oG A r j := ⟨hj, Or.inl hG⟩
  have hZ : 0 < aSz A r := by omega
  obtain ⟨o, ho⟩ : ∃ o, o = (j + k) % aSz A r := ⟨_, rfl⟩
  have hol : o < aSz A r := by rw [ho]; exact Nat.mod_lt _ hZ
  have e : ∀ i, po A r o i = po A r j (k + i) := fun i => by
    unfold po
    rw [ho, Nat.mod_add_mod, Nat.add_assoc]
  have e2 : ∀ t, po A r j (aSz A r + t) = po A r j t := fun t => by
    unfold po
    rw [show j + (aSz A r + t) = j + t + aSz A r by omega, Nat.add_mod_right]
  have bit : ∀ x, (an m (sB A (po A r j 0) k)).testBit (po A r j x) = !(sB A (po A r j 0) k).testBit (po A r j x) := fun x => by
    rw [an_bit _ _ hm, whole_po hw hZ, Bool.true_and]
  have gp : gap A r o (an m (sB A (po A r j 0) k)) := by
    refine ⟨⟨hol, Or.inl hG⟩, fun _ => ?_⟩
    have := sB_po_t W hr g (i := 0) (k := k) (by omega) (by omega) (t := k - 1) (by omega)
    rw [e, show k + (aSz A r - 1) = aSz A r + (k - 1) by omega, e2, bit]
    rw [Nat.zero_add] at this
    rw [this]; rfl
  have el : lst A r o (an m (sB A (po A r j 0) k)) = tr (aSz A r - k) ++ (fl k ++ []) := by
    unfold lst
    have hs : aSz A r = (aSz A r - k) + k := by omega
    have h1 := rg_add (fun i => (an m (sB A (po A r j 0) k)).testBit (po A r o i)) (aSz A r - k) k
    rw [← hs] at h1
    rw [h1, List.append_nil]
    congr 1
    · refine rg_const (fun i hi => ?_)
      rw [e, bit, sB_po_f W hr g (by omega) (by omega) (show k + i < aSz A r by omega) (Or.inr (by omega))]
      rfl
    · refine rg_const (fun t ht => ?_)
      have := sB_po_t W hr g (i := 0) (k := k) (by omega) (by omega) ht
      rw [Nat.zero_add] at this
      rw [e, show k + (aSz A r - k + t) = aSz A r + t by omega, e2, bit, this]
      rfl
  rw [Vr_lv W hr gp, el, lv_tr, Nat.zero_add]
  obtain ⟨k', rfl⟩ : ∃ k', k = k' + 1 := ⟨k - 1, by omega⟩
  rw [lv_fl (pW_0 H E)]
  show pW H E _ ^^^ pW H E 0 = _
  rw [pW_0, Nat.xor_zero]
/-- what strokes in a row leave behind -/
def vS (A : AD) (r H : Nat) (E : Bool) (m v : Nat) : Prop := ∃ p k, aSt A r ≤ p ∧ p < aSt A r + aSz A r ∧ 1 ≤ k ∧ k ≤ 4 ∧ cB A m p k H E = true ∧ v = Vr A r H E (an m (sB A p k))
theorem Vr_is (W : aW A) (hr : r < aK A) (hm : m < 4096) (H : Nat) (E : Bool) : IsM (vS A r H E m) (Vr A r H E m) := by
  have w3 := W.2.2.1 r hr
  cases hw : whole A r m
  · obtain ⟨o, gp⟩ := no_whole W hr hw
    rw [Vr_lv W hr gp]
    refine IsM_cg (LM_is H E (lst A r o m)) (fun v _ => ?_)
    rw [LM_stk W hr gp hm]
    constructor
    · rintro ⟨i, k, hi, k1, k4, hc, hv⟩
      refine ⟨po A r o i, k, (po_lt W hr o i).1, (po_lt W hr o i).2.1, k1, k4, hc, ?_⟩
      rw [hv, Vr_lv W hr (gap_an hm _ gp)]
    · rintro ⟨p, k, p1, p2, k1, k4, hc, hv⟩
      obtain ⟨i, hi, he⟩ := po_sur gp.1 p1 p2
      subst he
      refine ⟨i, k, hi, k1, k4, hc, ?_⟩
      rw [hv, Vr_lv W hr (gap_an hm _ gp)]
  · have e : Vr A r H E m = mex (rgL H E (aSz A r) (pW H E)) := by unfold Vr; rw [if_pos hw]
    have e0 : ∀ j, j < aSz A r → po A r j 0 = aSt A r + j := fun j hj => by
      unfold po
      rw [Nat.add_zero, Nat.mod_eq_of_lt hj]
    rw [e]
    refine IsM_cg (mex_ok _).1 (fun v _ => ?_)
    show v ∈ rgL H E (aSz A r) (pW H E) ↔ _
    rw [rgL_mem]
    constructor
    · rintro ⟨k, k1, k4, kZ, kH, kE, hv⟩
      refine ⟨po A r 0 0, k, (po_lt W hr 0 0).1, (po_lt W hr 0 0).2.1, k1, k4, (cB_whole W hr hw hm (by omega) k1).mpr ⟨kH, kZ, kE⟩, ?_⟩
      rw [hv, Vr_whole W hr hw hm (by omega) k1 kZ]
    · rintro ⟨p, k, p1, p2, k1, k4, hc, hv⟩
      have he : p = po A r (p - aSt A r) 0 := by rw [e0 _ (by omega)]; omega
      rw [he] at hc hv
      obtain ⟨kH, kZ, kE⟩ := (cB_whole W hr hw hm (by omega) k1).mp hc
      exact ⟨k, k1, k4, kZ, kH, kE, by rw [hv, Vr_whole W hr hw hm (by omega) k1 kZ]⟩
theorem xs_lt {f : Nat → Nat} : ∀ {n : Nat}, (∀ i, i < n → f i < 64) → xs f n < 64
  | 0, _ => show 0 < 64 by decide
  | n + 1, h => Nat.xor_lt_two_pow (n := 6) (xs_lt (fun i hi => h i (by omega))) (h n (by omega))
theorem pW_64 (H : Nat) (E : Bool) {n : Nat} (hn : n ≤ 12) : pW H E n < 64 := by
  rw [pW_eq]
  have h1 := (mex_ok (pV H E n (pW H E))).2
  have h2 := pV_len H E n (pW H E)
  omega
theorem Vr_lt (W : aW A) (H : Nat) (E : Bool) : Vr A r H E m < 64 := by
  unfold Vr
  split
  · have h1 := (mex_ok (rgL H E (aSz A r) (pW H E))).2
    have h2 : (rgL H E (aSz A r) (pW H E)).length ≤ 4 := by
      unfold rgL
      rw [List.length_map]
      exact List.length_filter_le _ [1, 2, 3, 4]
    omega
  · exact xs_lt (fun i _ => pW_64 H E (Nat.le_trans (ru_le A m _) W.1))
end SkRowV
