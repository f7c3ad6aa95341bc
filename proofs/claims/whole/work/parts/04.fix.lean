/-! ===== the evaluator without a count of steps ===== -/
theorem sk_cont_mono {τ : Type} {rk : Nat} {r r' : sk_R} {k k' : sk_H → List sk_V → Option τ} {o : τ} (hr : ∀ q, r = some q → r' = some q) (hk : ∀ h vs o, k h vs = some o → k' h vs = some o) (h : sk_cont rk r k = some o) : sk_cont rk r' k' = some o := by
  cases hq : r with
  | none => rw [hq] at h; unfold sk_cont at h; split at h <;> simp [sk_ty] at h
  | some q =>
    rw [hr q hq]
    rw [hq] at h
    unfold sk_cont at h ⊢
    split at h <;> (simp only [sk_ty, Option.bind_some] at h ⊢; rw [Option.bind_eq_some_iff] at h ⊢; obtain ⟨x, h1, h2⟩ := h; exact ⟨x, h1, hk _ _ _ h2⟩)
theorem sk_sw_mono {τ : Type} {x : Int32} {f f' : Nat → Option τ} {d : Nat} {o : τ} (hf : ∀ t o, f t = some o → f' t = some o) : ∀ cs : List (Int32 × Nat), sk_sw x f d cs = some o → sk_sw x f' d cs = some o
  | [], h => hf _ _ h
  | c :: r, h => by
    unfold sk_sw at h ⊢
    split at h
    · rename_i hc; rw [if_pos hc]; exact hf _ _ h
    · rename_i hc; rw [if_neg hc]; exact sk_sw_mono hf r h
theorem sk_step_mono {τ : Type} {ret : sk_H → Option sk_V → Option τ} {fc fc' : Nat → sk_Ls → sk_H → sk_R} {f f' : sk_C → Option τ} {nx : Nat} {ls : sk_Ls} {h : sk_H} {o : τ} (hc : ∀ m ls h r, fc m ls h = some r → fc' m ls h = some r) (hf : ∀ c o, f c = some o → f' c = some o) (A : sk_A) (hA : sk_step ret fc f nx ls h A = some o) : sk_step ret fc' f' nx ls h A = some o := by
  match A, hA with
  | .inl c, hA => exact hf _ _ hA
  | .inr (.inl ⟨⟨p, dp⟩, c1, c2⟩), hA =>
    simp only [sk_step] at hA ⊢
    by_cases hp : p
    · rw [if_pos hp] at hA ⊢; exact hf _ _ hA
    · rw [if_neg hp] at hA ⊢; exact hf _ _ hA
  | .inr (.inr (.inl ⟨⟨p, dp⟩, c1⟩)), hA =>
    simp only [sk_step] at hA ⊢
    by_cases hp : p
    · rw [if_pos hp] at hA ⊢; exact hf _ _ hA
    · rw [if_neg hp] at hA; cases hA
  | .inr (.inr (.inr (.inl ⟨x, cs, t0, c⟩))), hA =>
    simp only [sk_step] at hA ⊢
    exact sk_sw_mono (fun t o => hf _ o) _ hA
  | .inr (.inr (.inr (.inr (.inl ⟨⟨p, dp⟩, v⟩)))), hA =>
    simp only [sk_step] at hA ⊢
    by_cases hp : p
    · rw [if_pos hp] at hA ⊢; exact hA
    · rw [if_neg hp] at hA; cases hA
  | .inr (.inr (.inr (.inr (.inr ⟨⟨m1, rk1, ml1, 0⟩, as1, rest1⟩)))), hA =>
    simp only [sk_step] at hA ⊢
    exact sk_cont_mono (hc _ _ _) (fun h vs o => hf _ o) hA
  | .inr (.inr (.inr (.inr (.inr ⟨⟨m1, rk1, ml1, k1 + 1⟩, as1, rest1⟩)))), hA =>
    simp only [sk_step] at hA ⊢
    rw [Option.bind_eq_some_iff] at hA ⊢
    obtain ⟨a, h1, h2⟩ := hA
    refine ⟨a, h1, ?_⟩
    by_cases hp : hK h a = k1 + 1
    · rw [if_pos hp] at h2 ⊢; exact sk_cont_mono (hc _ _ _) (fun h vs o => hf _ o) h2
    · rw [if_neg hp] at h2; cases h2
theorem sk_one_mono {τ : Type} {ret : sk_H → Option sk_V → Option τ} {fc fc' : Nat → sk_Ls → sk_H → sk_R} {f f' : sk_C → Option τ} {e : sk_E} {c : sk_C} {o : τ} (hc : ∀ m ls h r, fc m ls h = some r → fc' m ls h = some r) (hf : ∀ c o, f c = some o → f' c = some o) (h : sk_one ret fc f e c = some o) : sk_one ret fc' f' e c = some o := by
  obtain ⟨pc, ls, st, hp⟩ := c
  unfold sk_one at h ⊢
  simp only at h ⊢
  revert h
  generalize sk_act e (sk_live e ls) st hp = b
  obtain ⟨r, k⟩ := b
  intro h
  simp only [sk_fin] at h ⊢
  rw [Option.bind_eq_some_iff] at h ⊢
  obtain ⟨a, h1, h2⟩ := h
  rw [Option.bind_eq_some_iff] at h2
  obtain ⟨A, h3, h4⟩ := h2
  exact ⟨a, h1, by rw [h3]; exact sk_step_mono hc hf A h4⟩
theorem sk_call_mono {rec? : Nat → Bool} {g g' : Nat → Nat → sk_C → sk_R} (hg : ∀ d m c r, g d m c = some r → g' d m c = some r) (d m : Nat) (ls : sk_Ls) (h : sk_H) (r : sk_H × Option sk_V) (hr : sk_call rec? g d m ls h = some r) : sk_call rec? g' d m ls h = some r := by
  unfold sk_call at hr ⊢
  cases hm : rec? m with
  | false => rw [hm] at hr; exact hg _ _ _ _ hr
  | true =>
    rw [hm] at hr
    cases d with
    | zero => cases hr
    | succ k => exact hg _ _ _ _ hr
theorem sk_run_succ (T : sk_T) (rec? : Nat → Bool) : ∀ n d m c r, sk_run T rec? n d m c = some r → sk_run T rec? (n + 1) d m c = some r
  | 0, _, _, _, _, h => by cases h
  | n + 1, d, m, c, r, h => by
    unfold sk_run at h ⊢
    rw [Option.bind_eq_some_iff] at h ⊢
    obtain ⟨e, h1, h2⟩ := h
    exact ⟨e, h1, sk_one_mono (fun m ls h r => sk_call_mono (sk_run_succ T rec? n) d m ls h r) (fun c o => sk_run_succ T rec? n d m c o) h2⟩
theorem sk_run_le (T : sk_T) (rec? : Nat → Bool) {n k : Nat} (h : n ≤ k) : ∀ d m c r, sk_run T rec? n d m c = some r → sk_run T rec? k d m c = some r := by
  induction h with
  | refl => exact fun _ _ _ _ h => h
  | step _ ih => exact fun d m c r h => sk_run_succ T rec? _ d m c r (ih d m c r h)
noncomputable def sk_X (T : sk_T) (rec? : Nat → Bool) (d m : Nat) (c : sk_C) : sk_R :=
  @dite _ (∃ n r, sk_run T rec? n d m c = some r) (Classical.propDecidable _) (fun h => sk_run T rec? h.choose d m c) (fun _ => none)
theorem sk_X_iff {T : sk_T} {rec? : Nat → Bool} {d m : Nat} {c : sk_C} {r : sk_H × Option sk_V} : sk_X T rec? d m c = some r ↔ ∃ n, sk_run T rec? n d m c = some r := by
  unfold sk_X
  constructor
  · intro h
    split at h
    · exact ⟨_, h⟩
    · cases h
  · intro ⟨n, h⟩
    have hx : ∃ n r, sk_run T rec? n d m c = some r := ⟨n, r, h⟩
    rw [dif_pos hx]
    obtain ⟨r', h'⟩ := hx.choose_spec
    rw [h']
    have h1 := sk_run_le T rec? (Nat.le_max_left n hx.choose) d m c r h
    have h2 := sk_run_le T rec? (Nat.le_max_right n hx.choose) d m c r' h'
    exact h2.symm.trans h1
/-- what holds of the whole holds of enough steps -/
theorem sk_cont_lim {τ : Type} {rk : Nat} {r : sk_R} {rn : Nat → sk_R} {k : sk_H → List sk_V → Option τ} {kn : Nat → sk_H → List sk_V → Option τ} {o : τ} (hr : ∀ q, r = some q → ∃ n, rn n = some q) (hrm : ∀ n j q, n ≤ j → rn n = some q → rn j = some q) (hk : ∀ h vs o, k h vs = some o → ∃ n, kn n h vs = some o) (hkm : ∀ n j h vs o, n ≤ j → kn n h vs = some o → kn j h vs = some o) (h : sk_cont rk r k = some o) : ∃ n, sk_cont rk (rn n) (kn n) = some o := by
  cases hq : r with
  | none => rw [hq] at h; unfold sk_cont at h; split at h <;> simp [sk_ty] at h
  | some q =>
    obtain ⟨n1, h1⟩ := hr q hq
    rw [hq] at h
    have key : ∃ n2, sk_cont rk (some q) (kn n2) = some o := by
      unfold sk_cont at h ⊢
      split at h <;> (simp only [sk_ty, Option.bind_some] at h ⊢; rw [Option.bind_eq_some_iff] at h; obtain ⟨x, h1, h2⟩ := h; obtain ⟨n, hn⟩ := hk _ _ _ h2; exact ⟨n, by rw [h1]; exact hn⟩)
    obtain ⟨n2, h2⟩ := key
    refine ⟨max n1 n2, ?_⟩
    rw [hrm n1 _ q (Nat.le_max_left _ _) h1]
    exact sk_cont_mono (fun _ h => h) (fun h vs o => hkm _ _ h vs o (Nat.le_max_right _ _)) h2
theorem sk_sw_lim {τ : Type} {x : Int32} {f : Nat → Option τ} {fn : Nat → Nat → Option τ} {d : Nat} {o : τ} (hf : ∀ t o, f t = some o → ∃ n, fn n t = some o) : ∀ cs : List (Int32 × Nat), sk_sw x f d cs = some o → ∃ n, sk_sw x (fn n) d cs = some o
  | [], h => hf _ _ h
  | c :: r, h => by
    unfold sk_sw at h ⊢
    split at h
    · rename_i hc; simp only [if_pos hc]; exact hf _ _ h
    · rename_i hc; simp only [if_neg hc]; exact sk_sw_lim hf r h
theorem sk_one_lim {τ : Type} {ret : sk_H → Option sk_V → Option τ} {fc : Nat → sk_Ls → sk_H → sk_R} {fcn : Nat → Nat → sk_Ls → sk_H → sk_R} {f : sk_C → Option τ} {fn : Nat → sk_C → Option τ} {e : sk_E} {c : sk_C} {o : τ} (hc : ∀ m ls h r, fc m ls h = some r → ∃ n, fcn n m ls h = some r) (hcm : ∀ n j m ls h r, n ≤ j → fcn n m ls h = some r → fcn j m ls h = some r) (hf : ∀ c o, f c = some o → ∃ n, fn n c = some o) (hfm : ∀ n j c o, n ≤ j → fn n c = some o → fn j c = some o) (h : sk_one ret fc f e c = some o) : ∃ n, sk_one ret (fcn n) (fn n) e c = some o := by
  obtain ⟨pc, ls, st, h⟩ := c
  rename _ = some o => hh
  unfold sk_one at hh ⊢
  simp only at hh ⊢
  revert hh
  generalize sk_act e (sk_live e ls) st h = b
  obtain ⟨r, k⟩ := b
  intro hh
  simp only [sk_fin] at hh ⊢
  rw [Option.bind_eq_some_iff] at hh
  obtain ⟨a, h1, h2⟩ := hh
  rw [Option.bind_eq_some_iff] at h2
  obtain ⟨A, h3, h4⟩ := h2
  simp only [h1, h3, Option.bind_some]
  match A, h4 with
  | .inl c, hA => exact hf _ _ hA
  | .inr (.inl ⟨⟨p, dp⟩, c1, c2⟩), hA =>
    simp only [sk_step] at hA ⊢
    by_cases hp : p
    · simp only [if_pos hp] at hA ⊢; exact hf _ _ hA
    · simp only [if_neg hp] at hA ⊢; exact hf _ _ hA
  | .inr (.inr (.inl ⟨⟨p, dp⟩, c1⟩)), hA =>
    simp only [sk_step] at hA ⊢
    by_cases hp : p
    · simp only [if_pos hp] at hA ⊢; exact hf _ _ hA
    · rw [if_neg hp] at hA; cases hA
  | .inr (.inr (.inr (.inl ⟨x, cs, t0, c⟩))), hA =>
    simp only [sk_step] at hA ⊢
    exact sk_sw_lim (fun t o => hf _ o) _ hA
  | .inr (.inr (.inr (.inr (.inl ⟨⟨p, dp⟩, v⟩)))), hA =>
    simp only [sk_step] at hA ⊢
    by_cases hp : p
    · simp only [if_pos hp] at hA ⊢; exact ⟨0, hA⟩
    · rw [if_neg hp] at hA; cases hA
  | .inr (.inr (.inr (.inr (.inr ⟨⟨m1, rk1, ml1, 0⟩, as1, rest1⟩)))), hA =>
    simp only [sk_step] at hA ⊢
    exact sk_cont_lim (hc _ _ _) (fun n j q => hcm n j _ _ _ q) (fun h vs o => hf _ o) (fun n j h vs o => hfm n j _ o) hA
  | .inr (.inr (.inr (.inr (.inr ⟨⟨m1, rk1, ml1, k1 + 1⟩, as1, rest1⟩)))), hA =>
    simp only [sk_step] at hA ⊢
    rw [Option.bind_eq_some_iff] at hA
    obtain ⟨a, h1, h2⟩ := hA
    simp only [h1, Option.bind_some]
    by_cases hp : hK h a = k1 + 1
    · simp only [if_pos hp] at h2 ⊢; exact sk_cont_lim (hc _ _ _) (fun n j q => hcm n j _ _ _ q) (fun h vs o => hf _ o) (fun n j h vs o => hfm n j _ o) h2
    · rw [if_neg hp] at h2; cases h2
theorem sk_X_eq (T : sk_T) (rec? : Nat → Bool) (d m : Nat) (c : sk_C) : sk_X T rec? d m c = (T m c.1).bind fun e => sk_one t_O (sk_call rec? (sk_X T rec?) d) (sk_X T rec? d m) e c := by
  have hrX : ∀ n d m c r, sk_run T rec? n d m c = some r → sk_X T rec? d m c = some r := fun n d m c r h => sk_X_iff.mpr ⟨n, h⟩
  apply Option.ext
  intro r
  constructor
  · intro h
    obtain ⟨n, h⟩ := sk_X_iff.mp h
    cases n with
    | zero => cases h
    | succ n =>
      unfold sk_run at h
      rw [Option.bind_eq_some_iff] at h ⊢
      obtain ⟨e, h1, h2⟩ := h
      exact ⟨e, h1, sk_one_mono (fun m ls h r => sk_call_mono (hrX n) d m ls h r) (fun c o => hrX n d m c o) h2⟩
  · intro h
    rw [Option.bind_eq_some_iff] at h
    obtain ⟨e, h1, h2⟩ := h
    obtain ⟨n, h3⟩ := sk_one_lim (fcn := fun n => sk_call rec? (sk_run T rec? n) d) (fn := fun n => sk_run T rec? n d m) (fun m ls h r hr => by
      unfold sk_call at hr ⊢
      cases hm : rec? m with
      | false => rw [hm] at hr; exact sk_X_iff.mp hr
      | true =>
        rw [hm] at hr
        cases d with
        | zero => cases hr
        | succ k => exact sk_X_iff.mp hr) (fun n j m ls h r hj hr => sk_call_mono (sk_run_le T rec? hj) d m ls h r hr) (fun c o h => sk_X_iff.mp h) (fun n j c o hj h => sk_run_le T rec? hj d m c o h) h2
    refine sk_X_iff.mpr ⟨n + 1, ?_⟩
    unfold sk_run
    rw [h1]
    exact h3
/-- by the kind of answer -/
noncomputable def sk_XT {τ : Type} (T : sk_T) (rec? : Nat → Bool) (ret : sk_H → Option sk_V → Option τ) (d m : Nat) (c : sk_C) : Option τ := sk_ty ret (sk_X T rec? d m c)
theorem sk_cont_ty {τ : Type} {ret : sk_H → Option sk_V → Option τ} (rk : Nat) (r : sk_R) (k : sk_H → List sk_V → sk_R) : sk_ty ret (sk_cont rk r k) = sk_cont rk r (fun h vs => sk_ty ret (k h vs)) := by
  unfold sk_cont sk_ty
  split <;> (rw [Option.bind_assoc])
theorem sk_sw_ty {τ : Type} {ret : sk_H → Option sk_V → Option τ} (x : Int32) (f : Nat → sk_R) (d : Nat) : ∀ cs : List (Int32 × Nat), sk_ty ret (sk_sw x f d cs) = sk_sw x (fun t => sk_ty ret (f t)) d cs
  | [] => rfl
  | c :: r => by
    unfold sk_sw
    split
    · rfl
    · exact sk_sw_ty x f d r
theorem sk_one_ty {τ : Type} {ret : sk_H → Option sk_V → Option τ} (fc : Nat → sk_Ls → sk_H → sk_R) (f : sk_C → sk_R) (e : sk_E) (c : sk_C) : sk_ty ret (sk_one t_O fc f e c) = sk_one ret fc (fun c => sk_ty ret (f c)) e c := by
  obtain ⟨pc, ls, st, h⟩ := c
  unfold sk_one
  simp only
  generalize sk_act e (sk_live e ls) st h = b
  obtain ⟨r, k⟩ := b
  simp only [sk_fin]
  cases r with
  | none => rfl
  | some a =>
    simp only [Option.bind_some]
    cases h2 : k a with
    | none => rfl
    | some A =>
      simp only [Option.bind_some]
      match A with
      | .inl c => rfl
      | .inr (.inl ⟨⟨p, dp⟩, c1, c2⟩) => simp only [sk_step]; split <;> rfl
      | .inr (.inr (.inl ⟨⟨p, dp⟩, c1⟩)) => simp only [sk_step]; split <;> rfl
      | .inr (.inr (.inr (.inl ⟨x, cs, t0, c⟩))) =>
        simp only [sk_step]
        exact sk_sw_ty _ _ _ _
      | .inr (.inr (.inr (.inr (.inl ⟨⟨p, dp⟩, v⟩)))) => simp only [sk_step]; split <;> rfl
      | .inr (.inr (.inr (.inr (.inr ⟨⟨m1, rk1, ml1, 0⟩, as1, rest1⟩)))) =>
        simp only [sk_step]
        exact sk_cont_ty _ _ _
      | .inr (.inr (.inr (.inr (.inr ⟨⟨m1, rk1, ml1, k1 + 1⟩, as1, rest1⟩)))) =>
        simp only [sk_step]
        cases sk_rcv as1 with
        | none => rfl
        | some a =>
          simp only [Option.bind_some]
          split
          · exact sk_cont_ty _ _ _
          · rfl
theorem sk_XT_eq {τ : Type} (T : sk_T) (rec? : Nat → Bool) (ret : sk_H → Option sk_V → Option τ) (d m : Nat) (c : sk_C) : sk_XT T rec? ret d m c = (T m c.1).bind fun e => sk_one ret (sk_call rec? (sk_X T rec?) d) (sk_XT T rec? ret d m) e c := by
  unfold sk_XT
  rw [sk_X_eq]
  cases T m c.1 with
  | none => rfl
  | some e => exact sk_one_ty _ _ _ _
theorem sk_kill_kill : ∀ (ks : List Bool) (ls : sk_Ls), sk_kill ks (sk_kill ks ls) = sk_kill ks ls
  | [], ls => by simp [sk_kill]
  | _ :: _, [] => by simp [sk_kill]
  | b :: bs, v :: r => by
    simp only [sk_kill, sk_kill_kill bs r]
    cases b <;> rfl
theorem sk_live_live (e : sk_E) (ls : sk_Ls) : sk_live e (sk_live e ls) = sk_live e ls := by
  obtain ⟨i, x, v, cs, ks⟩ := e
  cases ks with
  | none => rfl
  | some ks => exact sk_kill_kill _ _
theorem sk_XT_live {τ : Type} (T : sk_T) (rec? : Nat → Bool) (ret : sk_H → Option sk_V → Option τ) (d m : Nat) (c : sk_C) {e : sk_E} (he : T m c.1 = some e) : sk_XT T rec? ret d m c = sk_XT T rec? ret d m (c.1, sk_live e c.2.1, c.2.2) := by
  rw [sk_XT_eq, sk_XT_eq T rec? ret d m (c.1, sk_live e c.2.1, c.2.2)]
  simp only [he, Option.bind_some, sk_one, sk_live_live]
/-- many steps, to the next cuts -/
def sk_hop {τ : Type} (T : sk_T) (m : Nat) (f g : sk_C → Option τ) (c : sk_C) : Option τ := match T m c.1 with
  | none => none
  | some e => match e.2.2.2.2 with
    | some ks => f (c.1, sk_kill ks c.2.1, c.2.2)
    | none => g c
def sk_ev {τ : Type} (T : sk_T) (ret : sk_H → Option sk_V → Option τ) (fc : Nat → sk_Ls → sk_H → sk_R) (m : Nat) (f : sk_C → Option τ) : Nat → sk_C → Option τ
  | 0, c => f c
  | n + 1, c => (T m c.1).bind fun e => sk_one ret fc (sk_hop T m f (sk_ev T ret fc m f n)) e c
theorem sk_XT_ev {τ : Type} (T : sk_T) (rec? : Nat → Bool) (ret : sk_H → Option sk_V → Option τ) (d m : Nat) : ∀ (n : Nat) (c : sk_C), sk_XT T rec? ret d m c = sk_ev T ret (sk_call rec? (sk_X T rec?) d) m (sk_XT T rec? ret d m) n c
  | 0, _ => rfl
  | n + 1, c => by
    rw [sk_XT_eq]
    unfold sk_ev
    have : sk_XT T rec? ret d m = sk_hop T m (sk_XT T rec? ret d m) (sk_ev T ret (sk_call rec? (sk_X T rec?) d) m (sk_XT T rec? ret d m) n) := by
      funext c
      unfold sk_hop
      split
      · rename_i hn
        rw [sk_XT_eq, hn]
        rfl
      · rename_i e he
        split
        · rename_i ks hk
          rw [sk_XT_live T rec? ret d m c he]
          obtain ⟨i, x, v, cs, kk⟩ := e
          cases hk
          rfl
        · exact sk_XT_ev T rec? ret d m n c
    exact congrArg (fun f => (T m c.1).bind fun e => sk_one ret (sk_call rec? (sk_X T rec?) d) f e c) this
