/-! ===== the memory only grows ===== -/
section SkMono
variable {fc : Nat → sk_Ls → sk_H → sk_R} {f : sk_C → sk_R} {nx : Nat} {ls : sk_Ls} {h : sk_H} {R : sk_H × Option sk_V} {st : List sk_V}
def sk_le (h h' : sk_H) : Prop := hn h ≤ hn h' ∧ hs h ≤ hs h'
theorem v_cont {rk : Nat} {r : sk_R} {k : sk_H → List sk_V → sk_R} (hr : sk_cont rk r k = some R) : ∃ R', r = some R' ∧ k R'.1 R'.2.toList = some R ∧ (rk = 0 → R'.2 = none) ∧ (rk = 1 → ∃ x, R'.2 = some (.inl x)) ∧ (rk = 2 → ∃ x, R'.2 = some (.inr (.inl x))) ∧ (3 ≤ rk → ∃ x, R'.2 = some (.inr (.inr x))) := by
  cases r with
  | none => unfold sk_cont at hr; split at hr <;> simp [sk_ty] at hr
  | some R' =>
    refine ⟨R', rfl, ?_⟩
    obtain ⟨h', v⟩ := R'
    unfold sk_cont at hr
    split at hr
    · simp only [sk_ty, Option.bind_some, t_V] at hr
      split at hr
      · exact ⟨hr, fun _ => rfl, by omega, by omega, by omega⟩
      · cases hr
    · simp only [sk_ty, Option.bind_some, t_I] at hr
      split at hr
      · exact ⟨hr, by omega, fun _ => ⟨_, rfl⟩, by omega, by omega⟩
      · cases hr
    · simp only [sk_ty, Option.bind_some, t_L] at hr
      split at hr
      · exact ⟨hr, by omega, by omega, fun _ => ⟨_, rfl⟩, by omega⟩
      · cases hr
    · rename_i n0 n1 n2
      simp only [sk_ty, Option.bind_some, t_R] at hr
      split at hr
      · exact ⟨hr, fun q => absurd q n0, fun q => absurd q n1, fun q => absurd q n2, fun _ => ⟨_, rfl⟩⟩
      · cases hr
theorem v_cl {m rk ml k : Nat} {as rest : List sk_V} (hr : sk_fin t_O fc f nx ls h (b_cl m rk ml k as rest) = some R) : (k = 0 ∨ ∃ a, sk_rcv as = some a ∧ hK h a = k) ∧ sk_cont rk (fc m (sk_ent ml as) h) (fun h1 vs => f (nx, ls, vs ++ rest, h1)) = some R := by
  cases k with
  | zero => exact ⟨Or.inl rfl, hr⟩
  | succ k =>
    have hr : ((sk_rcv as).bind fun a => if hK h a = k + 1 then sk_cont rk (fc m (sk_ent ml as) h) (fun h1 vs => f (nx, ls, vs ++ rest, h1)) else none) = some R := hr
    rw [Option.bind_eq_some_iff] at hr
    obtain ⟨a, h1, h2⟩ := hr
    by_cases hp : hK h a = k + 1
    · rw [if_pos hp] at h2
      exact ⟨Or.inr ⟨a, h1, hp⟩, h2⟩
    · rw [if_neg hp] at h2; cases h2
theorem v_inv {m n rk ml k : Nat} (hr : sk_fin t_O fc f nx ls h (b_inv m n rk ml k st) = some R) : ∃ as r, sk_take n [] st = some (as, r) ∧ sk_cat r ≤ 16 ∧ sk_cat as ≤ ml ∧ (k = 0 ∨ ∃ a, sk_rcv as = some a ∧ hK h a = k) ∧ sk_cont rk (fc m (sk_ent ml as) h) (fun h1 vs => f (nx, ls, vs ++ r, h1)) = some R := by
  unfold b_inv at hr
  split at hr
  · rename_i as r ht
    split at hr
    · rename_i h1 h2
      obtain ⟨g1, g2⟩ := v_cl hr
      exact ⟨as, r, ht, Nat.le_of_ble_eq_true h1, Nat.le_of_ble_eq_true h2, g1, g2⟩
    · exact (v_no hr).elim
  · exact (v_no hr).elim
theorem v_brg {g q : sk_P} {c1 c2 : sk_C} (hr : sk_fin t_O fc f nx ls h (b_brg g q c1 c2) = some R) : g.1 ∧ ((q.1 ∧ f c1 = some R) ∨ (¬ q.1 ∧ f c2 = some R)) := by
  obtain ⟨gp, gd⟩ := g
  obtain ⟨p, dp⟩ := q
  have hr : (@ite _ gp gd (some 0) none).bind (fun _ => @ite _ p dp (f c1) (f c2)) = some R := hr
  by_cases hg : gp
  · rw [if_pos hg] at hr
    exact ⟨hg, v_br (nx := 0) (ls := []) (h := h) (fc := fc) hr⟩
  · rw [if_neg hg] at hr; cases hr
set_option maxHeartbeats 4000000 in
theorem sk_mono1 {i : Instr} {e1 e2 e3 e4 e5 : Nat} {ev : sk_V} {ec : List (Int32 × Nat)} (IC : ∀ m ls h R', fc m ls h = some R' → sk_le h R'.1) (IH : ∀ c, f c = some R → sk_le c.2.2.2 R.1) (hr : sk_fin t_O fc f nx ls h (sk_ac0 i nx e1 e2 e3 e4 e5 ev ec ls st h) = some R) : sk_le h R.1 := by
  have HC : ∀ {m n rk ml k : Nat}, sk_fin t_O fc f nx ls h (b_inv m n rk ml k st) = some R → sk_le h R.1 := by
    intro m n rk ml k hr
    obtain ⟨as, r, -, -, -, -, h2⟩ := v_inv hr
    obtain ⟨R', h3, h4, -⟩ := v_cont h2
    have a1 := IC _ _ _ _ h3
    have a2 := IH _ h4
    exact ⟨Nat.le_trans a1.1 a2.1, Nat.le_trans a1.2 a2.2⟩
  cases i
  all_goals first
    | exact (v_no hr).elim
    | exact IH _ (v_go hr)
    | exact HC hr
    | (obtain ⟨x, h1, h2⟩ := vl_i hr; first | exact IH _ (v_go h2) | (rw [l_s1k_eq] at h2; exact IH _ (v_go h2)))
    | (obtain ⟨x, h1, h2⟩ := vl_l hr; exact IH _ (v_go h2))
    | (obtain ⟨x, h1, h2⟩ := vl_r hr; exact IH _ (v_go h2))
    | (obtain ⟨x, r, rfl, h2⟩ := v_i hr; first | exact IH _ (v_go h2) | (rw [l_s1k_eq] at h2; exact IH _ (v_go h2)) | (rcases v_br h2 with ⟨-, h3⟩ | ⟨-, h3⟩ <;> exact IH _ h3) | (rcases v_sw h2 with ⟨t, -, h3⟩ | ⟨-, h3⟩ <;> exact IH _ h3) | (obtain ⟨-, h3⟩ := v_ck h2; have := IH _ h3; exact ⟨Nat.le_trans (Nat.le_succ _) this.1, Nat.le_trans (Nat.le_add_right _ _) this.2⟩))
    | (obtain ⟨x, r, rfl, h2⟩ := v_l hr; first | exact IH _ (v_go h2) | (rw [l_s2k_eq] at h2; exact IH _ (v_go h2)))
    | (obtain ⟨x, r, rfl, h2⟩ := v_r hr; first | exact IH _ (v_go h2) | (rw [l_s1k_eq] at h2; exact IH _ (v_go h2)) | (rcases v_br h2 with ⟨-, h3⟩ | ⟨-, h3⟩ <;> exact IH _ h3) | (obtain ⟨a, -, -, h3⟩ := v_at h2; exact IH _ h3))
    | (obtain ⟨x, y, r, rfl, h2⟩ := v_ii hr; first | exact IH _ (v_go h2) | (rcases v_br h2 with ⟨-, h3⟩ | ⟨-, h3⟩ <;> exact IH _ h3) | (obtain ⟨-, h3⟩ := v_ck h2; exact IH _ h3))
    | (obtain ⟨x, y, r, rfl, h2⟩ := v_ll hr; first | exact IH _ (v_go h2) | (obtain ⟨-, h3⟩ := v_ck h2; exact IH _ h3))
    | (obtain ⟨x, y, r, rfl, h2⟩ := v_li hr; exact IH _ (v_go h2))
    | (obtain ⟨x, i, r, rfl, h2⟩ := v_ri hr; obtain ⟨a, -, -, h3⟩ := v_at h2; exact IH _ h3)
    | (obtain ⟨x, i, v, r, rfl, h2⟩ := v_rii hr; obtain ⟨a, -, -, h3⟩ := v_at h2; exact IH _ h3)
    | (obtain ⟨x, i, v, r, rfl, h2⟩ := v_ril hr; obtain ⟨a, -, -, h3⟩ := v_at h2; exact IH _ h3)
    | (obtain ⟨x, i, v, r, rfl, h2⟩ := v_rir hr; obtain ⟨a, -, -, h3⟩ := v_at h2; exact IH _ h3)
    | (obtain ⟨v, r, rfl, -, h2⟩ := v_1 hr; exact IH _ (v_go h2))
    | (obtain ⟨v, w, r, rfl, -, -, h2⟩ := v_11 hr; exact IH _ (v_go h2))
    | skip
  case if_acmp c o =>
    cases c <;> (obtain ⟨x, y, r, rfl, h2⟩ := v_rr hr; obtain ⟨-, h3⟩ := v_brg h2; rcases h3 with ⟨-, h3⟩ | ⟨-, h3⟩ <;> exact IH _ h3)
  case ireturn =>
    simp only [sk_ac0, ac_ireturn] at hr
    split at hr
    · obtain ⟨-, rfl⟩ := v_rt hr; exact ⟨Nat.le_refl _, Nat.le_refl _⟩
    · exact (v_no hr).elim
  case lreturn =>
    simp only [sk_ac0, ac_lreturn] at hr
    split at hr
    · obtain ⟨-, rfl⟩ := v_rt hr; exact ⟨Nat.le_refl _, Nat.le_refl _⟩
    · exact (v_no hr).elim
  case areturn =>
    simp only [sk_ac0, ac_areturn] at hr
    split at hr
    · obtain ⟨-, rfl⟩ := v_rt hr; exact ⟨Nat.le_refl _, Nat.le_refl _⟩
    · exact (v_no hr).elim
  case return_ =>
    simp only [sk_ac0, ac_return_] at hr
    split at hr
    · obtain ⟨-, rfl⟩ := v_rt hr; exact ⟨Nat.le_refl _, Nat.le_refl _⟩
    · exact (v_no hr).elim
  case putfield k =>
    simp only [sk_ac0, ac_putfield] at hr
    split at hr
    · obtain ⟨x, i, r, rfl, h2⟩ := v_ri hr; obtain ⟨a, -, -, h3⟩ := v_at h2; exact IH _ h3
    · split at hr
      · obtain ⟨a, -, -, h3⟩ := v_at hr; exact IH _ h3
      · exact (v_no hr).elim
    · split at hr
      · obtain ⟨a, -, -, h3⟩ := v_at hr; exact IH _ h3
      · exact (v_no hr).elim
    · obtain ⟨x, i, r, rfl, h2⟩ := v_ri hr; obtain ⟨a, -, -, h3⟩ := v_at h2; exact IH _ h3
  case getstatic k =>
    simp only [sk_ac0, ac_getstatic] at hr
    split at hr <;> exact IH _ (v_go hr)
  case new k =>
    have := IH _ (v_go hr)
    exact ⟨Nat.le_trans (Nat.le_succ _) this.1, Nat.le_trans (Nat.le_add_right _ _) this.2⟩
  case invokestatic k =>
    simp only [sk_ac0, ac_invokestatic] at hr
    split at hr
    · obtain ⟨x, y, r, rfl, h2⟩ := v_ii hr
      split at h2
      · split at h2 <;> exact IH _ (v_go h2)
      · exact (v_no h2).elim
    · exact HC hr
  case invokespecial k =>
    simp only [sk_ac0, ac_invokespecial] at hr
    split at hr
    · split at hr
      · rename_i x
        cases x with
        | none => cases hr
        | some a => exact IH _ hr
      · exact (v_no hr).elim
    · exact HC hr
end SkMono
theorem sk_run_mono (T : sk_T) (rec? : Nat → Bool) : ∀ n d m c R, sk_run T rec? n d m c = some R → sk_le c.2.2.2 R.1
  | 0, _, _, _, _, h => by cases h
  | n + 1, d, m, (pc, ls, st, h), R, hr => by
    unfold sk_run at hr
    rw [Option.bind_eq_some_iff] at hr
    obtain ⟨⟨i, ⟨nx, e1, e2, e3, e4, e5⟩, ev, ec, cut⟩, h1, h2⟩ := hr
    refine sk_mono1 (fc := sk_call rec? (sk_run T rec? n) d) (f := sk_run T rec? n d m) (nx := nx) (i := i) (fun m' ls' h' R' hc => ?_) (fun c hc => sk_run_mono T rec? n d m c R hc) h2
    unfold sk_call at hc
    cases hm : rec? m' with
    | false => rw [hm] at hc; exact sk_run_mono T rec? n d m' (0, ls', [], h') R' hc
    | true =>
      rw [hm] at hc
      cases d with
      | zero => cases hc
      | succ k => exact sk_run_mono T rec? n k m' (0, ls', [], h') R' hc
