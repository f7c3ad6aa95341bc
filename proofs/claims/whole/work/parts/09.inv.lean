/-! ===== what a run's first step was ===== -/
section SkInv
variable {fc : Nat → sk_Ls → sk_H → sk_R} {f : sk_C → sk_R} {nx : Nat} {ls : sk_Ls} {h : sk_H} {R : sk_H × Option sk_V} {st : List sk_V}
theorem v_no (hr : sk_fin t_O fc f nx ls h b_no = some R) : False := by cases hr
theorem v_go {c : sk_C} (hr : sk_fin t_O fc f nx ls h (b_go c) = some R) : f c = some R := hr
theorem v_br {p : Prop} {dp : Decidable p} {c1 c2 : sk_C} (hr : sk_fin t_O fc f nx ls h (b_br ⟨p, dp⟩ c1 c2) = some R) : (p ∧ f c1 = some R) ∨ (¬ p ∧ f c2 = some R) := by
  have hr : @ite _ p dp (f c1) (f c2) = some R := hr
  by_cases hp : p
  · rw [if_pos hp] at hr; exact Or.inl ⟨hp, hr⟩
  · rw [if_neg hp] at hr; exact Or.inr ⟨hp, hr⟩
theorem v_ck {p : Prop} {dp : Decidable p} {c : sk_C} (hr : sk_fin t_O fc f nx ls h (b_ck ⟨p, dp⟩ c) = some R) : p ∧ f c = some R := by
  have hr : @ite _ p dp (f c) none = some R := hr
  by_cases hp : p
  · rw [if_pos hp] at hr; exact ⟨hp, hr⟩
  · rw [if_neg hp] at hr; cases hr
theorem v_at {r : Option Nat} {k : Nat → sk_P × sk_C} (hr : sk_fin t_O fc f nx ls h (b_at r k) = some R) : ∃ a, r = some a ∧ (k a).1.1 ∧ f (k a).2 = some R := by
  cases r with
  | none => cases hr
  | some a =>
    refine ⟨a, rfl, ?_⟩
    have hr : @ite _ (k a).1.1 (k a).1.2 (f (k a).2) none = some R := hr
    by_cases hp : (k a).1.1
    · rw [if_pos hp] at hr; exact ⟨hp, hr⟩
    · rw [if_neg hp] at hr; cases hr
theorem v_rt {q : sk_P} {v : Option sk_V} (hr : sk_fin t_O fc f nx ls h (b_rt q v) = some R) : q.1 ∧ R = (h, v) := by
  have hr : @ite _ q.1 q.2 (t_O h v) none = some R := hr
  by_cases hp : q.1
  · rw [if_pos hp] at hr
    exact ⟨hp, (Option.some.inj hr).symm⟩
  · rw [if_neg hp] at hr; cases hr
theorem v_sw0 {x : Int32} {c : sk_Ls × List sk_V × sk_H} {t0 : Nat} : ∀ (cs : List (Int32 × Nat)), sk_sw x (fun t => f (t, c)) t0 cs = some R → (∃ t, (x, t) ∈ cs ∧ f (t, c) = some R) ∨ ((∀ q ∈ cs, ¬ x = q.1) ∧ f (t0, c) = some R)
  | [], hr => Or.inr ⟨fun q hq => absurd hq List.not_mem_nil, hr⟩
  | q :: r, hr => by
    unfold sk_sw at hr
    by_cases hx : x = q.1
    · rw [if_pos hx] at hr
      exact Or.inl ⟨q.2, by rw [hx]; exact List.mem_cons_self, hr⟩
    · rw [if_neg hx] at hr
      rcases v_sw0 r hr with ⟨t, h1, h2⟩ | ⟨h1, h2⟩
      · exact Or.inl ⟨t, List.mem_cons_of_mem _ h1, h2⟩
      · refine Or.inr ⟨fun q' hq' => ?_, h2⟩
        rcases List.mem_cons.mp hq' with rfl | hq'
        · exact hx
        · exact h1 q' hq'
theorem v_sw {x : Int32} {cs : List (Int32 × Nat)} {c : sk_Ls × List sk_V × sk_H} {t0 : Nat} (hr : sk_fin t_O fc f nx ls h (b_sw x cs (t0, c)) = some R) : (∃ t, (x, t) ∈ cs ∧ f (t, c) = some R) ∨ ((∀ q ∈ cs, ¬ x = q.1) ∧ f (t0, c) = some R) := v_sw0 cs hr
theorem v_i {k : Int32 → List sk_V → sk_B} (hr : sk_fin t_O fc f nx ls h (s_i st k) = some R) : ∃ x r, st = .inl x :: r ∧ sk_fin t_O fc f nx ls h (k x r) = some R := by
  unfold s_i at hr
  split at hr
  · exact ⟨_, _, rfl, hr⟩
  · exact (v_no hr).elim
theorem v_ii {k : Int32 → Int32 → List sk_V → sk_B} (hr : sk_fin t_O fc f nx ls h (s_ii st k) = some R) : ∃ x y r, st = .inl y :: .inl x :: r ∧ sk_fin t_O fc f nx ls h (k x y r) = some R := by
  unfold s_ii at hr
  split at hr
  · exact ⟨_, _, _, rfl, hr⟩
  · exact (v_no hr).elim
theorem v_l {k : Int64 → List sk_V → sk_B} (hr : sk_fin t_O fc f nx ls h (s_l st k) = some R) : ∃ x r, st = .inr (.inl x) :: r ∧ sk_fin t_O fc f nx ls h (k x r) = some R := by
  unfold s_l at hr
  split at hr
  · exact ⟨_, _, rfl, hr⟩
  · exact (v_no hr).elim
theorem v_ll {k : Int64 → Int64 → List sk_V → sk_B} (hr : sk_fin t_O fc f nx ls h (s_ll st k) = some R) : ∃ x y r, st = .inr (.inl y) :: .inr (.inl x) :: r ∧ sk_fin t_O fc f nx ls h (k x y r) = some R := by
  unfold s_ll at hr
  split at hr
  · exact ⟨_, _, _, rfl, hr⟩
  · exact (v_no hr).elim
theorem v_li {k : Int64 → Int32 → List sk_V → sk_B} (hr : sk_fin t_O fc f nx ls h (s_li st k) = some R) : ∃ x y r, st = .inl y :: .inr (.inl x) :: r ∧ sk_fin t_O fc f nx ls h (k x y r) = some R := by
  unfold s_li at hr
  split at hr
  · exact ⟨_, _, _, rfl, hr⟩
  · exact (v_no hr).elim
theorem v_r {k : Option Nat → List sk_V → sk_B} (hr : sk_fin t_O fc f nx ls h (s_r st k) = some R) : ∃ x r, st = .inr (.inr x) :: r ∧ sk_fin t_O fc f nx ls h (k x r) = some R := by
  unfold s_r at hr
  split at hr
  · exact ⟨_, _, rfl, hr⟩
  · exact (v_no hr).elim
theorem v_rr {k : Option Nat → Option Nat → List sk_V → sk_B} (hr : sk_fin t_O fc f nx ls h (s_rr st k) = some R) : ∃ x y r, st = .inr (.inr y) :: .inr (.inr x) :: r ∧ sk_fin t_O fc f nx ls h (k x y r) = some R := by
  unfold s_rr at hr
  split at hr
  · exact ⟨_, _, _, rfl, hr⟩
  · exact (v_no hr).elim
theorem v_ri {k : Option Nat → Int32 → List sk_V → sk_B} (hr : sk_fin t_O fc f nx ls h (s_ri st k) = some R) : ∃ x i r, st = .inl i :: .inr (.inr x) :: r ∧ sk_fin t_O fc f nx ls h (k x i r) = some R := by
  unfold s_ri at hr
  split at hr
  · exact ⟨_, _, _, rfl, hr⟩
  · exact (v_no hr).elim
theorem v_rii {k : Option Nat → Int32 → Int32 → List sk_V → sk_B} (hr : sk_fin t_O fc f nx ls h (s_rii st k) = some R) : ∃ x i v r, st = .inl v :: .inl i :: .inr (.inr x) :: r ∧ sk_fin t_O fc f nx ls h (k x i v r) = some R := by
  unfold s_rii at hr
  split at hr
  · exact ⟨_, _, _, _, rfl, hr⟩
  · exact (v_no hr).elim
theorem v_ril {k : Option Nat → Int32 → Int64 → List sk_V → sk_B} (hr : sk_fin t_O fc f nx ls h (s_ril st k) = some R) : ∃ x i v r, st = .inr (.inl v) :: .inl i :: .inr (.inr x) :: r ∧ sk_fin t_O fc f nx ls h (k x i v r) = some R := by
  unfold s_ril at hr
  split at hr
  · exact ⟨_, _, _, _, rfl, hr⟩
  · exact (v_no hr).elim
theorem v_rir {k : Option Nat → Int32 → Option Nat → List sk_V → sk_B} (hr : sk_fin t_O fc f nx ls h (s_rir st k) = some R) : ∃ x i v r, st = .inr (.inr v) :: .inl i :: .inr (.inr x) :: r ∧ sk_fin t_O fc f nx ls h (k x i v r) = some R := by
  unfold s_rir at hr
  split at hr
  · exact ⟨_, _, _, _, rfl, hr⟩
  · exact (v_no hr).elim
theorem v_1 {k : sk_V → List sk_V → sk_B} (hr : sk_fin t_O fc f nx ls h (s_1 st k) = some R) : ∃ v r, st = v :: r ∧ v_one v = true ∧ sk_fin t_O fc f nx ls h (k v r) = some R := by
  unfold s_1 at hr
  split at hr
  · split at hr
    · rename_i hv; exact ⟨_, _, rfl, hv, hr⟩
    · exact (v_no hr).elim
  · exact (v_no hr).elim
theorem v_11 {k : sk_V → sk_V → List sk_V → sk_B} (hr : sk_fin t_O fc f nx ls h (s_11 st k) = some R) : ∃ v w r, st = v :: w :: r ∧ v_one v = true ∧ v_one w = true ∧ sk_fin t_O fc f nx ls h (k v w r) = some R := by
  unfold s_11 at hr
  split at hr
  · split at hr
    · rename_i hv hw; exact ⟨_, _, _, rfl, hv, hw, hr⟩
    · exact (v_no hr).elim
  · exact (v_no hr).elim
theorem vl_i {k : Nat} {g : Int32 → sk_B} {l2 : sk_Ls} (hr : sk_fin t_O fc f nx ls h (l_i l2 k g) = some R) : ∃ x, l_at l2 k = some (.inl x) ∧ sk_fin t_O fc f nx ls h (g x) = some R := by
  unfold l_i at hr
  split at hr
  · rename_i hl; exact ⟨_, hl, hr⟩
  · exact (v_no hr).elim
theorem vl_l {k : Nat} {g : Int64 → sk_B} {l2 : sk_Ls} (hr : sk_fin t_O fc f nx ls h (l_l l2 k g) = some R) : ∃ x, l_at l2 k = some (.inr (.inl x)) ∧ sk_fin t_O fc f nx ls h (g x) = some R := by
  unfold l_l at hr
  split at hr
  · rename_i hl; exact ⟨_, hl, hr⟩
  · exact (v_no hr).elim
theorem vl_r {k : Nat} {g : Option Nat → sk_B} {l2 : sk_Ls} (hr : sk_fin t_O fc f nx ls h (l_r l2 k g) = some R) : ∃ x, l_at l2 k = some (.inr (.inr x)) ∧ sk_fin t_O fc f nx ls h (g x) = some R := by
  unfold l_r at hr
  split at hr
  · rename_i hl; exact ⟨_, hl, hr⟩
  · exact (v_no hr).elim
end SkInv
