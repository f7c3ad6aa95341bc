/-! ===== the law, out of its calls; alley and rule still owed ===== -/
section SkLaw
variable {L : Nat} {xs : Nat → Int32}
theorem JJ.ex {j : Nat} {h : sk_H} (J : JJ L xs j h) : sk_Ex L xs 52 h := by
  obtain ⟨F, E, st, tu, pl, B, -⟩ := J
  exact B.ex
theorem JJ.s {j : Nat} {h : sk_H} (J : JJ L xs j h) : JJ L xs (j + 1) h := by
  obtain ⟨F, E, st, tu, pl, B, T, M⟩ := J
  exact ⟨F, E, st, tu, pl, B.s, T, M⟩
theorem sk_law_of (qa : sk_Ag (JJ L xs) L xs 52 (fun h => c_SR_alley 40 (some 20) h) (fun h => c_M_alley 40 (some 52) h)) (qr : sk_Ag (JJ L xs) L xs 52 (fun h => c_SR_rule 40 (some 20) h) (fun h => c_M_rule 40 (some 52) h)) (r : Option Nat) (hL : L ≤ 3072) : ∃ h', c_L_law 40 (some 16) (sk_h0 L xs r) = some (h', 1) ∧ hn h' ≤ 600020 ∧ hs h' ≤ 7302250 := by
  have A : sk_All (JJ L xs) L xs 52 := ⟨q_feed, q_end, qa, qr, q_place, q_can, q_stroke, q_up, q_pass, q_undo, q_won, q_wins, q_worth, q_plain, q_again, q_lasts, q_plays, q_fair, q_chance, q_child, q_match, q_knew, q_law, q_seed, q_games, q_against, q_count, q_image, q_back⟩
  obtain ⟨j', h', e1, e2, J⟩ := sk_loop (J := JJ L xs) (xs := xs) (mb := 52) hL (fun j h J => JJ.ex J) (fun j h _ J => JJ.s J) A (L + 1) 0 (zF L xs r) (by omega) (by omega) z_JJ
  refine ⟨h', z_law.trans e1, ?_, ?_⟩
  · obtain ⟨F, E, st, tu, pl, B, -⟩ := J
    obtain ⟨b1, b2, b3⟩ := B.2.2.2.2.1
    omega
  · obtain ⟨F, E, st, tu, pl, B, -⟩ := J
    obtain ⟨b1, b2, b3⟩ := B.2.2.2.2.1
    omega
end SkLaw
