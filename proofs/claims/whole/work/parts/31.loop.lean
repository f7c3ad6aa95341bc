/-! ===== the law's loop, out of what each call does ===== -/
/-- what the law itself needs of the memory -/
def sk_Ex (L : Nat) (xs : Nat → Int32) (mb : Nat) (h : sk_H) : Prop := hK h 16 = 201 ∧ hN h 16 = L ∧ hI h 16 = xs ∧ hK h 20 = 12 ∧ hK h mb = 13
/-- two calls that answer alike, and go from one good memory to the next -/
def sk_Ag (J : Nat → sk_H → Prop) (L : Nat) (xs : Nat → Int32) (mb : Nat) (f g : sk_H → Option (sk_H × Int32)) : Prop :=
  ∀ j h, j < 512 → J j h → ∃ h1 h2 v, f h = some (h1, v) ∧ sk_Ex L xs mb h1 ∧ g h1 = some (h2, v) ∧ J (j + 1) h2
theorem sk_inT {i L : Nat} (h : i < L) (hL : L ≤ 3072) : sk_in (nI i) L = True := eq_true (vp_in_nI h (by omega))
theorem sk_clT {i : Nat} (h : i ≤ 3072) : (nI i).toNatClampNeg = i := nI_clamp (by omega)
def sk_All (J : Nat → sk_H → Prop) (L : Nat) (xs : Nat → Int32) (mb : Nat) : Prop :=
  (∀ a0 a1 a2 a3 a4 : Int32, sk_Ag J L xs mb (fun h => c_SR_feed 40 (some 20) a0 a1 a2 a3 a4 h) (fun h => c_M_feed 40 (some mb) a0 a1 a2 a3 a4 h)) ∧
  (∀ a0 : Int32, sk_Ag J L xs mb (fun h => c_SR_end 40 (some 20) a0 h) (fun h => c_M_end 40 (some mb) a0 h)) ∧
  (sk_Ag J L xs mb (fun h => c_SR_alley 40 (some 20)  h) (fun h => c_M_alley 40 (some mb)  h)) ∧
  (sk_Ag J L xs mb (fun h => c_SR_rule 40 (some 20)  h) (fun h => c_M_rule 40 (some mb)  h)) ∧
  (∀ a0 a1 : Int32, sk_Ag J L xs mb (fun h => c_SR_place 40 (some 20) a0 a1 h) (fun h => c_M_place 40 (some mb) a0 a1 h)) ∧
  (∀ a0 a1 : Int32, sk_Ag J L xs mb (fun h => c_SR_can 40 (some 20) a0 a1 h) (fun h => c_M_can 40 (some mb) a0 a1 h)) ∧
  (∀ a0 a1 : Int32, sk_Ag J L xs mb (fun h => c_SR_stroke 40 (some 20) a0 a1 h) (fun h => c_M_stroke 40 (some mb) a0 a1 h)) ∧
  (∀ a0 : Int32, sk_Ag J L xs mb (fun h => c_SR_up 40 (some 20) a0 h) (fun h => c_M_up 40 (some mb) a0 h)) ∧
  (sk_Ag J L xs mb (fun h => c_SR_pass 40 (some 20)  h) (fun h => c_M_pass 40 (some mb)  h)) ∧
  (sk_Ag J L xs mb (fun h => c_SR_undo 40 (some 20)  h) (fun h => c_M_undo 40 (some mb)  h)) ∧
  (sk_Ag J L xs mb (fun h => c_SR_won 40 (some 20)  h) (fun h => c_M_won 40 (some mb)  h)) ∧
  (∀ a0 : Int32, sk_Ag J L xs mb (fun h => c_SR_wins 40 (some 20) a0 h) (fun h => c_M_wins 40 (some mb) a0 h)) ∧
  (∀ a0 : Int32, sk_Ag J L xs mb (fun h => c_SR_worth 40 (some 20) a0 h) (fun h => c_M_worth 40 (some mb) a0 h)) ∧
  (∀ a0 : Int32, sk_Ag J L xs mb (fun h => c_SR_plain 40 (some 20) a0 h) (fun h => c_M_plain 40 (some mb) a0 h)) ∧
  (∀ a0 : Int32, sk_Ag J L xs mb (fun h => c_SR_again 40 (some 20) a0 h) (fun h => c_M_again 40 (some mb) a0 h)) ∧
  (sk_Ag J L xs mb (fun h => c_SR_lasts 40 (some 20)  h) (fun h => c_M_lasts 40 (some mb)  h)) ∧
  (sk_Ag J L xs mb (fun h => c_SR_plays 40 (some 20)  h) (fun h => c_M_plays 40 (some mb)  h)) ∧
  (∀ a0 : Int32, sk_Ag J L xs mb (fun h => c_SR_fair 40 (some 20) a0 h) (fun h => c_M_fair 40 (some mb) a0 h)) ∧
  (sk_Ag J L xs mb (fun h => c_SR_chance 40 (some 20)  h) (fun h => c_M_chance 40 (some mb)  h)) ∧
  (sk_Ag J L xs mb (fun h => c_SR_child 40 (some 20)  h) (fun h => c_M_child 40 (some mb)  h)) ∧
  (∀ a0 a1 a2 : Int32, sk_Ag J L xs mb (fun h => c_SR_match 40 (some 20) a0 a1 a2 h) (fun h => c_M_match 40 (some mb) a0 a1 a2 h)) ∧
  (∀ a0 a1 : Int32, sk_Ag J L xs mb (fun h => c_SR_knew 40 (some 20) a0 a1 h) (fun h => c_M_knew 40 (some mb) a0 a1 h)) ∧
  (∀ a0 a1 : Int32, sk_Ag J L xs mb (fun h => c_SR_law 40 (some 20) a0 a1 h) (fun h => c_M_law 40 (some mb) a0 a1 h)) ∧
  (∀ a0 : Int32, sk_Ag J L xs mb (fun h => c_SR_seed 40 (some 20) a0 h) (fun h => c_M_seed 40 (some mb) a0 h)) ∧
  (∀ a0 a1 : Int32, sk_Ag J L xs mb (fun h => c_SR_games 40 (some 20) a0 a1 h) (fun h => c_M_games 40 (some mb) a0 a1 h)) ∧
  (∀ a0 a1 a2 : Int32, sk_Ag J L xs mb (fun h => c_SR_against 40 (some 20) a0 a1 a2 h) (fun h => c_M_against 40 (some mb) a0 a1 a2 h)) ∧
  (∀ a0 : Int32, sk_Ag J L xs mb (fun h => c_SR_count 40 (some 20) a0 h) (fun h => c_M_count 40 (some mb) a0 h)) ∧
  (∀ a0 : Int32, sk_Ag J L xs mb (fun h => c_SR_image 40 (some 20) a0 h) (fun h => c_M_image 40 (some mb) a0 h)) ∧
  (∀ a0 : Int32, sk_Ag J L xs mb (fun h => c_SR_back 40 (some 20) a0 h) (fun h => c_M_back 40 (some mb) a0 h))
set_option maxHeartbeats 8000000 in
set_option maxRecDepth 100000 in
theorem sk_loop {J : Nat → sk_H → Prop} {L : Nat} {xs : Nat → Int32} {mb : Nat} (hL : L ≤ 3072) (hJ : ∀ j h, J j h → sk_Ex L xs mb h) (hS : ∀ j h, j < 512 → J j h → J (j + 1) h) (A : sk_All J L xs mb) : ∀ (n j : Nat) (h : sk_H), L < 6 * j + n → 6 * j ≤ L → J j h → ∃ j' h', k_L_law_18 40 (some 16) (some 20) (some mb) (nI (6 * j)) h = some (h', 1) ∧ j' ≤ 512 ∧ J j' h'
  | 0, j, h, hn, hj, _ => absurd hn (by omega)
  | n + 1, j, h, hn, hj, hJh => by
    obtain ⟨A0, A1, A2, A3, A4, A5, A6, A7, A8, A9, A10, A11, A12, A13, A14, A15, A16, A17, A18, A19, A20, A21, A22, A23, A24, A25, A26, A27, A28⟩ := id A
    obtain ⟨E1, E2, E3, E4, E5⟩ := hJ j h hJh
    rw [e_L_law_18]
    have AA16 : (a_any (hK h 16) = true) = True := by rw [E1]; exact eq_true rfl
    simp only [Option.bind_some, AA16, if_true, E2]
    by_cases hx : 6 * j + 6 ≤ L
    · have hx1 : ¬ (Int32.ofNat L - 6 < nI (6 * j)) := by
        rw [Int32.lt_iff_toInt_lt, nI_toInt (by omega), show (Int32.ofNat L - 6 : Int32) = nI (L - 6) by
          have : nI L - nI 6 = nI (L - 6) := pk_sub (by omega)
          exact this, nI_toInt (by omega)]
        omega
      rw [if_neg hx1]
      have a1 : nI (6 * j) + 1 = nI (6 * j + 1) := nI_add _ 1
      have a2 : nI (6 * j) + 2 = nI (6 * j + 2) := nI_add _ 2
      have a3 : nI (6 * j) + 3 = nI (6 * j + 3) := nI_add _ 3
      have a4 : nI (6 * j) + 4 = nI (6 * j + 4) := nI_add _ 4
      have a5 : nI (6 * j) + 5 = nI (6 * j + 5) := nI_add _ 5
      have a6 : nI (6 * j) + 6 = nI (6 * (j + 1)) := nI_add _ 6
      have S0 := sk_inT (i := 6 * j) (L := L) (by omega) hL
      have S1 := sk_inT (i := 6 * j + 1) (L := L) (by omega) hL
      have S2 := sk_inT (i := 6 * j + 2) (L := L) (by omega) hL
      have S3 := sk_inT (i := 6 * j + 3) (L := L) (by omega) hL
      have S4 := sk_inT (i := 6 * j + 4) (L := L) (by omega) hL
      have S5 := sk_inT (i := 6 * j + 5) (L := L) (by omega) hL
      have T0 := sk_clT (i := 6 * j) (by omega)
      have T1 := sk_clT (i := 6 * j + 1) (by omega)
      have T2 := sk_clT (i := 6 * j + 2) (by omega)
      have T3 := sk_clT (i := 6 * j + 3) (by omega)
      have T4 := sk_clT (i := 6 * j + 4) (by omega)
      have T5 := sk_clT (i := 6 * j + 5) (by omega)
      have K16 : (hK h 16 = 101 ∨ hK h 16 = 201) = True := eq_true (Or.inr E1)
      have K20 : (hK h 20 = 12) = True := eq_true E4
      have ih := fun h2 (q : J (j + 1) h2) => sk_loop hL hJ hS A n (j + 1) h2 (by omega) (by omega) q
      simp only [K16, S0, T0, E3, and_self, if_true, a1, a2, a3, a4, a5]
      generalize xs (6 * j) &&& 31 = op
      by_cases c0 : op = 0
      · rw [if_pos c0]
        obtain ⟨h1, h2, v, f1, ⟨D1, D2, D3, D4, D5⟩, f2, g⟩ := A0 (xs (6 * j + 1)) (xs (6 * j + 2)) (xs (6 * j + 3)) (xs (6 * j + 4)) (xs (6 * j + 5)) j h (by omega) hJh
        have M16 : (hK h1 16 = 101 ∨ hK h1 16 = 201) = True := eq_true (Or.inr D1)
        have M13 : (hK h1 mb = 13) = True := eq_true D5
        simp only [K16, K20, S1, S2, S3, S4, S5, T1, T2, T3, T4, T5, E2, E3, and_self, if_true, Option.bind_some, f1, M16, M13, D2, D3, f2, e_L_law_881, a6]
        exact ih h2 g
      rw [if_neg c0]
      by_cases c1 : op = 1
      · rw [if_pos c1]
        obtain ⟨h1, h2, v, f1, ⟨D1, D2, D3, D4, D5⟩, f2, g⟩ := A1 (xs (6 * j + 1)) j h (by omega) hJh
        have M16 : (hK h1 16 = 101 ∨ hK h1 16 = 201) = True := eq_true (Or.inr D1)
        have M13 : (hK h1 mb = 13) = True := eq_true D5
        simp only [K16, K20, S1, S2, S3, S4, S5, T1, T2, T3, T4, T5, E2, E3, and_self, if_true, Option.bind_some, f1, M16, M13, D2, D3, f2, e_L_law_881, a6]
        exact ih h2 g
      rw [if_neg c1]
      by_cases c2 : op = 2
      · rw [if_pos c2]
        obtain ⟨h1, h2, v, f1, ⟨D1, D2, D3, D4, D5⟩, f2, g⟩ := A2  j h (by omega) hJh
        have M16 : (hK h1 16 = 101 ∨ hK h1 16 = 201) = True := eq_true (Or.inr D1)
        have M13 : (hK h1 mb = 13) = True := eq_true D5
        simp only [K16, K20, S1, S2, S3, S4, S5, T1, T2, T3, T4, T5, E2, E3, and_self, if_true, Option.bind_some, f1, M16, M13, D2, D3, f2, e_L_law_881, a6]
        exact ih h2 g
      rw [if_neg c2]
      by_cases c3 : op = 3
      · rw [if_pos c3]
        obtain ⟨h1, h2, v, f1, ⟨D1, D2, D3, D4, D5⟩, f2, g⟩ := A3  j h (by omega) hJh
        have M16 : (hK h1 16 = 101 ∨ hK h1 16 = 201) = True := eq_true (Or.inr D1)
        have M13 : (hK h1 mb = 13) = True := eq_true D5
        simp only [K16, K20, S1, S2, S3, S4, S5, T1, T2, T3, T4, T5, E2, E3, and_self, if_true, Option.bind_some, f1, M16, M13, D2, D3, f2, e_L_law_881, a6]
        exact ih h2 g
      rw [if_neg c3]
      by_cases c4 : op = 4
      · rw [if_pos c4]
        obtain ⟨h1, h2, v, f1, ⟨D1, D2, D3, D4, D5⟩, f2, g⟩ := A4 (xs (6 * j + 1)) (xs (6 * j + 2)) j h (by omega) hJh
        have M16 : (hK h1 16 = 101 ∨ hK h1 16 = 201) = True := eq_true (Or.inr D1)
        have M13 : (hK h1 mb = 13) = True := eq_true D5
        simp only [K16, K20, S1, S2, S3, S4, S5, T1, T2, T3, T4, T5, E2, E3, and_self, if_true, Option.bind_some, f1, M16, M13, D2, D3, f2, e_L_law_881, a6]
        exact ih h2 g
      rw [if_neg c4]
      by_cases c5 : op = 5
      · rw [if_pos c5]
        obtain ⟨h1, h2, v, f1, ⟨D1, D2, D3, D4, D5⟩, f2, g⟩ := A5 (xs (6 * j + 1)) (xs (6 * j + 2)) j h (by omega) hJh
        have M16 : (hK h1 16 = 101 ∨ hK h1 16 = 201) = True := eq_true (Or.inr D1)
        have M13 : (hK h1 mb = 13) = True := eq_true D5
        simp only [K16, K20, S1, S2, S3, S4, S5, T1, T2, T3, T4, T5, E2, E3, and_self, if_true, Option.bind_some, f1, M16, M13, D2, D3, f2, e_L_law_881, a6]
        exact ih h2 g
      rw [if_neg c5]
      by_cases c6 : op = 6
      · rw [if_pos c6]
        obtain ⟨h1, h2, v, f1, ⟨D1, D2, D3, D4, D5⟩, f2, g⟩ := A6 (xs (6 * j + 1)) (xs (6 * j + 2)) j h (by omega) hJh
        have M16 : (hK h1 16 = 101 ∨ hK h1 16 = 201) = True := eq_true (Or.inr D1)
        have M13 : (hK h1 mb = 13) = True := eq_true D5
        simp only [K16, K20, S1, S2, S3, S4, S5, T1, T2, T3, T4, T5, E2, E3, and_self, if_true, Option.bind_some, f1, M16, M13, D2, D3, f2, e_L_law_881, a6]
        exact ih h2 g
      rw [if_neg c6]
      by_cases c7 : op = 7
      · rw [if_pos c7]
        obtain ⟨h1, h2, v, f1, ⟨D1, D2, D3, D4, D5⟩, f2, g⟩ := A7 (xs (6 * j + 1)) j h (by omega) hJh
        have M16 : (hK h1 16 = 101 ∨ hK h1 16 = 201) = True := eq_true (Or.inr D1)
        have M13 : (hK h1 mb = 13) = True := eq_true D5
        simp only [K16, K20, S1, S2, S3, S4, S5, T1, T2, T3, T4, T5, E2, E3, and_self, if_true, Option.bind_some, f1, M16, M13, D2, D3, f2, e_L_law_881, a6]
        exact ih h2 g
      rw [if_neg c7]
      by_cases c8 : op = 8
      · rw [if_pos c8]
        obtain ⟨h1, h2, v, f1, ⟨D1, D2, D3, D4, D5⟩, f2, g⟩ := A8  j h (by omega) hJh
        have M16 : (hK h1 16 = 101 ∨ hK h1 16 = 201) = True := eq_true (Or.inr D1)
        have M13 : (hK h1 mb = 13) = True := eq_true D5
        simp only [K16, K20, S1, S2, S3, S4, S5, T1, T2, T3, T4, T5, E2, E3, and_self, if_true, Option.bind_some, f1, M16, M13, D2, D3, f2, e_L_law_881, a6]
        exact ih h2 g
      rw [if_neg c8]
      by_cases c9 : op = 9
      · rw [if_pos c9]
        obtain ⟨h1, h2, v, f1, ⟨D1, D2, D3, D4, D5⟩, f2, g⟩ := A9  j h (by omega) hJh
        have M16 : (hK h1 16 = 101 ∨ hK h1 16 = 201) = True := eq_true (Or.inr D1)
        have M13 : (hK h1 mb = 13) = True := eq_true D5
        simp only [K16, K20, S1, S2, S3, S4, S5, T1, T2, T3, T4, T5, E2, E3, and_self, if_true, Option.bind_some, f1, M16, M13, D2, D3, f2, e_L_law_881, a6]
        exact ih h2 g
      rw [if_neg c9]
      by_cases c10 : op = 10
      · rw [if_pos c10]
        obtain ⟨h1, h2, v, f1, ⟨D1, D2, D3, D4, D5⟩, f2, g⟩ := A10  j h (by omega) hJh
        have M16 : (hK h1 16 = 101 ∨ hK h1 16 = 201) = True := eq_true (Or.inr D1)
        have M13 : (hK h1 mb = 13) = True := eq_true D5
        simp only [K16, K20, S1, S2, S3, S4, S5, T1, T2, T3, T4, T5, E2, E3, and_self, if_true, Option.bind_some, f1, M16, M13, D2, D3, f2, e_L_law_881, a6]
        exact ih h2 g
      rw [if_neg c10]
      by_cases c11 : op = 11
      · rw [if_pos c11]
        obtain ⟨h1, h2, v, f1, ⟨D1, D2, D3, D4, D5⟩, f2, g⟩ := A11 (xs (6 * j + 1)) j h (by omega) hJh
        have M16 : (hK h1 16 = 101 ∨ hK h1 16 = 201) = True := eq_true (Or.inr D1)
        have M13 : (hK h1 mb = 13) = True := eq_true D5
        simp only [K16, K20, S1, S2, S3, S4, S5, T1, T2, T3, T4, T5, E2, E3, and_self, if_true, Option.bind_some, f1, M16, M13, D2, D3, f2, e_L_law_881, a6]
        exact ih h2 g
      rw [if_neg c11]
      by_cases c12 : op = 12
      · rw [if_pos c12]
        obtain ⟨h1, h2, v, f1, ⟨D1, D2, D3, D4, D5⟩, f2, g⟩ := A12 (xs (6 * j + 1)) j h (by omega) hJh
        have M16 : (hK h1 16 = 101 ∨ hK h1 16 = 201) = True := eq_true (Or.inr D1)
        have M13 : (hK h1 mb = 13) = True := eq_true D5
        simp only [K16, K20, S1, S2, S3, S4, S5, T1, T2, T3, T4, T5, E2, E3, and_self, if_true, Option.bind_some, f1, M16, M13, D2, D3, f2, e_L_law_881, a6]
        exact ih h2 g
      rw [if_neg c12]
      by_cases c13 : op = 13
      · rw [if_pos c13]
        obtain ⟨h1, h2, v, f1, ⟨D1, D2, D3, D4, D5⟩, f2, g⟩ := A13 (xs (6 * j + 1)) j h (by omega) hJh
        have M16 : (hK h1 16 = 101 ∨ hK h1 16 = 201) = True := eq_true (Or.inr D1)
        have M13 : (hK h1 mb = 13) = True := eq_true D5
        simp only [K16, K20, S1, S2, S3, S4, S5, T1, T2, T3, T4, T5, E2, E3, and_self, if_true, Option.bind_some, f1, M16, M13, D2, D3, f2, e_L_law_881, a6]
        exact ih h2 g
      rw [if_neg c13]
      by_cases c14 : op = 14
      · rw [if_pos c14]
        obtain ⟨h1, h2, v, f1, ⟨D1, D2, D3, D4, D5⟩, f2, g⟩ := A14 (xs (6 * j + 1)) j h (by omega) hJh
        have M16 : (hK h1 16 = 101 ∨ hK h1 16 = 201) = True := eq_true (Or.inr D1)
        have M13 : (hK h1 mb = 13) = True := eq_true D5
        simp only [K16, K20, S1, S2, S3, S4, S5, T1, T2, T3, T4, T5, E2, E3, and_self, if_true, Option.bind_some, f1, M16, M13, D2, D3, f2, e_L_law_881, a6]
        exact ih h2 g
      rw [if_neg c14]
      by_cases c15 : op = 15
      · rw [if_pos c15]
        obtain ⟨h1, h2, v, f1, ⟨D1, D2, D3, D4, D5⟩, f2, g⟩ := A15  j h (by omega) hJh
        have M16 : (hK h1 16 = 101 ∨ hK h1 16 = 201) = True := eq_true (Or.inr D1)
        have M13 : (hK h1 mb = 13) = True := eq_true D5
        simp only [K16, K20, S1, S2, S3, S4, S5, T1, T2, T3, T4, T5, E2, E3, and_self, if_true, Option.bind_some, f1, M16, M13, D2, D3, f2, e_L_law_881, a6]
        exact ih h2 g
      rw [if_neg c15]
      by_cases c16 : op = 16
      · rw [if_pos c16]
        obtain ⟨h1, h2, v, f1, ⟨D1, D2, D3, D4, D5⟩, f2, g⟩ := A16  j h (by omega) hJh
        have M16 : (hK h1 16 = 101 ∨ hK h1 16 = 201) = True := eq_true (Or.inr D1)
        have M13 : (hK h1 mb = 13) = True := eq_true D5
        simp only [K16, K20, S1, S2, S3, S4, S5, T1, T2, T3, T4, T5, E2, E3, and_self, if_true, Option.bind_some, f1, M16, M13, D2, D3, f2, e_L_law_881, a6]
        exact ih h2 g
      rw [if_neg c16]
      by_cases c17 : op = 17
      · rw [if_pos c17]
        obtain ⟨h1, h2, v, f1, ⟨D1, D2, D3, D4, D5⟩, f2, g⟩ := A17 (xs (6 * j + 1)) j h (by omega) hJh
        have M16 : (hK h1 16 = 101 ∨ hK h1 16 = 201) = True := eq_true (Or.inr D1)
        have M13 : (hK h1 mb = 13) = True := eq_true D5
        simp only [K16, K20, S1, S2, S3, S4, S5, T1, T2, T3, T4, T5, E2, E3, and_self, if_true, Option.bind_some, f1, M16, M13, D2, D3, f2, e_L_law_881, a6]
        exact ih h2 g
      rw [if_neg c17]
      by_cases c18 : op = 18
      · rw [if_pos c18]
        obtain ⟨h1, h2, v, f1, ⟨D1, D2, D3, D4, D5⟩, f2, g⟩ := A18  j h (by omega) hJh
        have M16 : (hK h1 16 = 101 ∨ hK h1 16 = 201) = True := eq_true (Or.inr D1)
        have M13 : (hK h1 mb = 13) = True := eq_true D5
        simp only [K16, K20, S1, S2, S3, S4, S5, T1, T2, T3, T4, T5, E2, E3, and_self, if_true, Option.bind_some, f1, M16, M13, D2, D3, f2, e_L_law_881, a6]
        exact ih h2 g
      rw [if_neg c18]
      by_cases c19 : op = 19
      · rw [if_pos c19]
        obtain ⟨h1, h2, v, f1, ⟨D1, D2, D3, D4, D5⟩, f2, g⟩ := A19  j h (by omega) hJh
        have M16 : (hK h1 16 = 101 ∨ hK h1 16 = 201) = True := eq_true (Or.inr D1)
        have M13 : (hK h1 mb = 13) = True := eq_true D5
        simp only [K16, K20, S1, S2, S3, S4, S5, T1, T2, T3, T4, T5, E2, E3, and_self, if_true, Option.bind_some, f1, M16, M13, D2, D3, f2, e_L_law_881, a6]
        exact ih h2 g
      rw [if_neg c19]
      by_cases c20 : op = 20
      · rw [if_pos c20]
        obtain ⟨h1, h2, v, f1, ⟨D1, D2, D3, D4, D5⟩, f2, g⟩ := A20 (xs (6 * j + 1)) (xs (6 * j + 2)) (xs (6 * j + 3)) j h (by omega) hJh
        have M16 : (hK h1 16 = 101 ∨ hK h1 16 = 201) = True := eq_true (Or.inr D1)
        have M13 : (hK h1 mb = 13) = True := eq_true D5
        simp only [K16, K20, S1, S2, S3, S4, S5, T1, T2, T3, T4, T5, E2, E3, and_self, if_true, Option.bind_some, f1, M16, M13, D2, D3, f2, e_L_law_881, a6]
        exact ih h2 g
      rw [if_neg c20]
      by_cases c21 : op = 21
      · rw [if_pos c21]
        obtain ⟨h1, h2, v, f1, ⟨D1, D2, D3, D4, D5⟩, f2, g⟩ := A21 (xs (6 * j + 1)) (xs (6 * j + 2)) j h (by omega) hJh
        have M16 : (hK h1 16 = 101 ∨ hK h1 16 = 201) = True := eq_true (Or.inr D1)
        have M13 : (hK h1 mb = 13) = True := eq_true D5
        simp only [K16, K20, S1, S2, S3, S4, S5, T1, T2, T3, T4, T5, E2, E3, and_self, if_true, Option.bind_some, f1, M16, M13, D2, D3, f2, e_L_law_881, a6]
        exact ih h2 g
      rw [if_neg c21]
      by_cases c22 : op = 22
      · rw [if_pos c22]
        obtain ⟨h1, h2, v, f1, ⟨D1, D2, D3, D4, D5⟩, f2, g⟩ := A22 (xs (6 * j + 1)) (xs (6 * j + 2)) j h (by omega) hJh
        have M16 : (hK h1 16 = 101 ∨ hK h1 16 = 201) = True := eq_true (Or.inr D1)
        have M13 : (hK h1 mb = 13) = True := eq_true D5
        simp only [K16, K20, S1, S2, S3, S4, S5, T1, T2, T3, T4, T5, E2, E3, and_self, if_true, Option.bind_some, f1, M16, M13, D2, D3, f2, e_L_law_881, a6]
        exact ih h2 g
      rw [if_neg c22]
      by_cases c23 : op = 23
      · rw [if_pos c23]
        obtain ⟨h1, h2, v, f1, ⟨D1, D2, D3, D4, D5⟩, f2, g⟩ := A23 (xs (6 * j + 1)) j h (by omega) hJh
        have M16 : (hK h1 16 = 101 ∨ hK h1 16 = 201) = True := eq_true (Or.inr D1)
        have M13 : (hK h1 mb = 13) = True := eq_true D5
        simp only [K16, K20, S1, S2, S3, S4, S5, T1, T2, T3, T4, T5, E2, E3, and_self, if_true, Option.bind_some, f1, M16, M13, D2, D3, f2, e_L_law_881, a6]
        exact ih h2 g
      rw [if_neg c23]
      by_cases c24 : op = 24
      · rw [if_pos c24]
        obtain ⟨h1, h2, v, f1, ⟨D1, D2, D3, D4, D5⟩, f2, g⟩ := A24 (xs (6 * j + 1)) (xs (6 * j + 2)) j h (by omega) hJh
        have M16 : (hK h1 16 = 101 ∨ hK h1 16 = 201) = True := eq_true (Or.inr D1)
        have M13 : (hK h1 mb = 13) = True := eq_true D5
        simp only [K16, K20, S1, S2, S3, S4, S5, T1, T2, T3, T4, T5, E2, E3, and_self, if_true, Option.bind_some, f1, M16, M13, D2, D3, f2, e_L_law_881, a6]
        exact ih h2 g
      rw [if_neg c24]
      by_cases c25 : op = 25
      · rw [if_pos c25]
        obtain ⟨h1, h2, v, f1, ⟨D1, D2, D3, D4, D5⟩, f2, g⟩ := A25 (xs (6 * j + 1)) (xs (6 * j + 2)) (xs (6 * j + 3)) j h (by omega) hJh
        have M16 : (hK h1 16 = 101 ∨ hK h1 16 = 201) = True := eq_true (Or.inr D1)
        have M13 : (hK h1 mb = 13) = True := eq_true D5
        simp only [K16, K20, S1, S2, S3, S4, S5, T1, T2, T3, T4, T5, E2, E3, and_self, if_true, Option.bind_some, f1, M16, M13, D2, D3, f2, e_L_law_881, a6]
        exact ih h2 g
      rw [if_neg c25]
      by_cases c26 : op = 26
      · rw [if_pos c26]
        obtain ⟨h1, h2, v, f1, ⟨D1, D2, D3, D4, D5⟩, f2, g⟩ := A26 (xs (6 * j + 1)) j h (by omega) hJh
        have M16 : (hK h1 16 = 101 ∨ hK h1 16 = 201) = True := eq_true (Or.inr D1)
        have M13 : (hK h1 mb = 13) = True := eq_true D5
        simp only [K16, K20, S1, S2, S3, S4, S5, T1, T2, T3, T4, T5, E2, E3, and_self, if_true, Option.bind_some, f1, M16, M13, D2, D3, f2, e_L_law_881, a6]
        exact ih h2 g
      rw [if_neg c26]
      by_cases c27 : op = 27
      · rw [if_pos c27]
        obtain ⟨h1, h2, v, f1, ⟨D1, D2, D3, D4, D5⟩, f2, g⟩ := A27 (xs (6 * j + 1)) j h (by omega) hJh
        have M16 : (hK h1 16 = 101 ∨ hK h1 16 = 201) = True := eq_true (Or.inr D1)
        have M13 : (hK h1 mb = 13) = True := eq_true D5
        simp only [K16, K20, S1, S2, S3, S4, S5, T1, T2, T3, T4, T5, E2, E3, and_self, if_true, Option.bind_some, f1, M16, M13, D2, D3, f2, e_L_law_881, a6]
        exact ih h2 g
      rw [if_neg c27]
      by_cases c28 : op = 28
      · rw [if_pos c28]
        obtain ⟨h1, h2, v, f1, ⟨D1, D2, D3, D4, D5⟩, f2, g⟩ := A28 (xs (6 * j + 1)) j h (by omega) hJh
        have M16 : (hK h1 16 = 101 ∨ hK h1 16 = 201) = True := eq_true (Or.inr D1)
        have M13 : (hK h1 mb = 13) = True := eq_true D5
        simp only [K16, K20, S1, S2, S3, S4, S5, T1, T2, T3, T4, T5, E2, E3, and_self, if_true, Option.bind_some, f1, M16, M13, D2, D3, f2, e_L_law_881, a6]
        exact ih h2 g
      rw [if_neg c28]
      rw [e_L_law_881, a6]
      exact ih h (hS j h (by omega) hJh)
    · have hx1 : Int32.ofNat L - 6 < nI (6 * j) := by
        rw [Int32.lt_iff_toInt_lt, nI_toInt (by omega)]
        have h1 : (Int32.ofNat L - 6 : Int32).toInt = (L : Int) - 6 := pk_sub_toInt (a := L) (b := 6) (by omega) (by omega)
        rw [h1]
        omega
      rw [if_pos hx1]
      exact ⟨j, h, rfl, by omega, hJh⟩
