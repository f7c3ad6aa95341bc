/-! ===== strokes ===== -/
def sbA (A : AD) : Nat → Option Nat → Nat → Nat
  | 0, _, set => set
  | _ + 1, none, _ => 0
  | m + 1, some q, set => if set.testBit q then 0 else sbA A m (aNx A q) (set ||| 1 <<< q)
/-- the places of a stroke, as bits; 0 if there is none -/
def sB (A : AD) (p many : Nat) : Nat := sbA A many (some p) 0
def lO (A : AD) : Nat → Option Nat → Option Nat
  | 0, o => o
  | m + 1, o => lO A m (o.bind (aNx A))
theorem aNx_lt {A : AD} (W : aW A) {p q : Nat} (hp : p < aN A) (h : aNx A p = some q) : q < aN A := by
  obtain ⟨r1, r2, r3⟩ := aRow_in W hp
  have w3 := W.2.2.1 _ r1
  unfold aNx at h
  split at h
  · cases h; omega
  · split at h
    · cases h; omega
    · cases h
theorem aPv_lt {A : AD} (W : aW A) {p q : Nat} (hp : p < aN A) (h : aPv A p = some q) : q < aN A := by
  obtain ⟨r1, r2, r3⟩ := aRow_in W hp
  have w3 := W.2.2.1 _ r1
  unfold aPv at h
  split at h
  · cases h; omega
  · split at h
    · cases h; omega
    · cases h
theorem sbA_lO (A : AD) : ∀ (m : Nat) (o : Option Nat) (set : Nat), sbA A m o set ≠ 0 → ∀ j, j < m → ∃ q, lO A j o = some q
  | 0, _, _, _, j, hj => absurd hj (by omega)
  | m + 1, none, set, h, _, _ => absurd rfl h
  | m + 1, some q, set, h, 0, _ => ⟨q, rfl⟩
  | m + 1, some q, set, h, j + 1, hj => by
    unfold sbA at h
    split at h
    · exact absurd rfl h
    · exact sbA_lO A m _ _ h j (by omega)
theorem lO_lt {A : AD} (W : aW A) : ∀ (m : Nat) (o : Option Nat) (q : Nat), (∀ x, o = some x → x < aN A) → lO A m o = some q → q < aN A
  | 0, o, q, ho, h => ho q h
  | m + 1, o, q, ho, h => lO_lt W m (o.bind (aNx A)) q (fun x hx => by
    cases o with
    | none => cases hx
    | some y => exact aNx_lt W (ho y rfl) hx) h
theorem or_lt {a b : Nat} (ha : a < 4096) (hb : b < 12) : a ||| 1 <<< b < 4096 := by
  have h1 : 1 <<< b < 2 ^ 12 := by
    rw [Nat.one_shiftLeft]
    exact Nat.pow_lt_pow_right (by omega) (by omega)
  exact Nat.or_lt_two_pow (n := 12) ha h1
theorem an_lt {m : Nat} (s : Nat) (hm : m < 4096) : an m s < 4096 := Nat.lt_of_le_of_lt Nat.and_le_left hm
theorem sbA_lt {A : AD} (W : aW A) : ∀ (m : Nat) (o : Option Nat) (set : Nat), (∀ x, o = some x → x < aN A) → set < 4096 → sbA A m o set < 4096
  | 0, _, set, _, hs => hs
  | m + 1, none, set, _, hs => by unfold sbA; omega
  | m + 1, some q, set, ho, hs => by
    have hq := ho q rfl
    have w1 := W.1
    unfold sbA
    split
    · omega
    · exact sbA_lt W m _ _ (fun x hx => aNx_lt W hq hx) (or_lt hs (by omega))
theorem sB_lt {A : AD} (W : aW A) {p : Nat} (hp : p < aN A) (many : Nat) : sB A p many < 4096 := sbA_lt W many (some p) 0 (fun x hx => by cases hx; exact hp) (by omega)
theorem bi_0 {c : Bool} : (bi c = 0) = (c = false) := by cases c <;> simp [bi]
section SkCan
variable {b : Nat} {h : sk_H} {A : AD}
theorem M_sb_ok (d : Nat) (M : MS b h) (W : aW A) (S : aSaid A (hI h (b + 10))) {many : Nat} (hm : many ≤ 4) : ∀ (n k set : Nat) (o : Option Nat), k + n = many → set < 4096 → (∀ x, o = some x → x < aN A) → k_M_strokeBits_8 d (some b) (nI many) (nI set) (oI o) (nI k) h = some (h, nI (sbA A n o set))
  | 0, k, set, o, hk, hs, ho => by
    rw [e_M_strokeBits_8, if_pos (nI_le (by omega) (by omega))]
    rfl
  | n + 1, k, set, none, hk, hs, ho => by
    rw [e_M_strokeBits_8, if_neg (nI_ge (by omega) (by omega)), if_pos (by decide)]
    rfl
  | n + 1, k, set, some q, hk, hs, ho => by
    have hq := ho q rfl
    have w1 := W.1
    show k_M_strokeBits_8 d (some b) (nI many) (nI set) (nI q) (nI k) h = _
    rw [e_M_strokeBits_8, if_neg (nI_ge (by omega) (by omega)), if_neg (nI_pos (by omega)), M_isOf_ok d (by omega) (by omega)]
    simp only [Option.bind_some, bi_0]
    unfold sbA
    cases ht : set.testBit q
    · simp only [if_true, M.k, M_besideN_ok d M W S hq, Option.bind_some, nI_shl (k := q) (by omega), nI_or, nI_1]
      exact M_sb_ok d M W S hm n (k + 1) _ _ (by omega) (or_lt hs (by omega)) (fun x hx => aNx_lt W hq hx)
    · simp
      rfl
theorem M_strokeBits_ok (d : Nat) (M : MS b h) (W : aW A) (S : aSaid A (hI h (b + 10))) {p many : Nat} (hp : p < aN A) (hm : many ≤ 4) : c_M_strokeBits d (some b) (nI p) (nI many) h = some (h, nI (sB A p many)) := by
  rw [e_M_strokeBits]
  exact M_sb_ok d M W S hm many 0 0 (some p) (by omega) (by omega) (fun x hx => by cases hx; exact hp)
theorem M_lo_ok (d : Nat) (M : MS b h) (W : aW A) (S : aSaid A (hI h (b + 10))) {many : Nat} (hm : many ≤ 4) : ∀ (n k q : Nat), k + n = many → q < aN A → (∀ j, j ≤ n → ∃ x, lO A j (some q) = some x) → k_M_lastOf_5 d (some b) (nI many) (nI q) (nI k) h = some (h, oI (lO A n (some q)))
  | 0, k, q, hk, hq, _ => by
    rw [e_M_lastOf_5, if_pos (nI_le (by omega) (by omega))]
    rfl
  | n + 1, k, q, hk, hq, ho => by
    obtain ⟨x, hx⟩ := ho 1 (by omega)
    have hx : aNx A q = some x := hx
    rw [e_M_lastOf_5, if_neg (nI_ge (by omega) (by omega))]
    simp only [M.k, if_true, M_besideN_ok d M W S hq, hx, Option.bind_some, oI, nI_1]
    rw [M_lo_ok d M W S hm n (k + 1) x (by omega) (aNx_lt W hq hx) (fun j hj => by
      obtain ⟨y, hy⟩ := ho (j + 1) (by omega)
      have hy : lO A j (aNx A q) = some y := hy
      rw [hx] at hy
      exact ⟨y, hy⟩)]
    show _ = some (h, oI (lO A n (aNx A q)))
    rw [hx]
theorem M_lastOf_ok (d : Nat) (M : MS b h) (W : aW A) (S : aSaid A (hI h (b + 10))) {p many : Nat} (hp : p < aN A) (hm : many ≤ 4) (h1 : 1 ≤ many) (hs : sB A p many ≠ 0) : c_M_lastOf d (some b) (nI p) (nI many) h = some (h, oI (lO A (many - 1) (some p))) := by
  rw [e_M_lastOf]
  exact M_lo_ok d M W S hm (many - 1) 1 p (by omega) hp (fun j hj => sbA_lO A many (some p) 0 hs j (by omega))
end SkCan
