/-! ===== the machine does what the evaluator does ===== -/
theorem lv_args_mem (E : sk_En) : ∀ (as : List sk_V) (n i k : Nat) (v : sk_V), l_at (sk_pad n (sk_ex as)) k = some v → (i + k, sv E v) ∈ lv_args i (as.map (sv E))
  | [], n, i, k, v, h => by
    exfalso
    revert h
    induction n generalizing k with
    | zero => intro h; simp [sk_ex, sk_pad, l_at] at h
    | succ n ih =>
      intro h
      cases k with
      | zero => simp [sk_ex, sk_pad, l_at] at h
      | succ k => exact ih k (by simpa [sk_ex, sk_pad, l_at] using h)
  | .inl x :: as, 0, i, k, v, h => by simp [sk_ex, sk_pad, l_at] at h
  | .inl x :: as, n + 1, i, 0, v, h => by
    simp only [sk_ex, sk_pad, l_at] at h
    cases h
    simp only [List.map_cons, lv_args, Nat.add_zero]
    exact List.mem_cons_self
  | .inl x :: as, n + 1, i, k + 1, v, h => by
    simp only [sk_ex, sk_pad, l_at] at h
    simp only [List.map_cons, lv_args]
    refine List.mem_cons_of_mem _ ?_
    have := lv_args_mem E as n (i + 1) k v h
    rw [show i + (k + 1) = i + 1 + k by omega]
    exact this
  | .inr (.inr x) :: as, 0, i, k, v, h => by simp [sk_ex, sk_pad, l_at] at h
  | .inr (.inr x) :: as, n + 1, i, 0, v, h => by
    simp only [sk_ex, sk_pad, l_at] at h
    cases h
    simp only [List.map_cons, lv_args, Nat.add_zero]
    exact List.mem_cons_self
  | .inr (.inr x) :: as, n + 1, i, k + 1, v, h => by
    simp only [sk_ex, sk_pad, l_at] at h
    have hc : (sv E (.inr (.inr x))).category = 1 := by rw [sv_cat]; rfl
    simp only [List.map_cons, lv_args, hc]
    refine List.mem_cons_of_mem _ ?_
    have := lv_args_mem E as n (i + 1) k v h
    rw [show i + (k + 1) = i + 1 + k by omega]
    exact this
  | .inr (.inl x) :: as, 0, i, k, v, h => by simp [sk_ex, sk_pad, l_at] at h
  | .inr (.inl x) :: as, n + 1, i, 0, v, h => by
    simp only [sk_ex, sk_pad, l_at] at h
    cases h
    simp only [List.map_cons, lv_args, Nat.add_zero]
    exact List.mem_cons_self
  | .inr (.inl x) :: as, 1, i, k + 1, v, h => by simp [sk_ex, sk_pad, l_at] at h
  | .inr (.inl x) :: as, n + 2, i, 1, v, h => by simp [sk_ex, sk_pad, l_at] at h
  | .inr (.inl x) :: as, n + 2, i, k + 2, v, h => by
    simp only [sk_ex, sk_pad, l_at] at h
    have hc : (sv E (.inr (.inl x))).category = 2 := rfl
    simp only [List.map_cons, lv_args, hc]
    refine List.mem_cons_of_mem _ ?_
    have := lv_args_mem E as n (i + 2) k v h
    rw [show i + (k + 2) = i + 2 + k by omega]
    exact this
theorem lg_sl_len (E : sk_En) : ∀ as : List sk_V, (lg_sl (as.map (sv E))).length = sk_cat as
  | [] => rfl
  | v :: r => by
    have ih := lg_sl_len E r
    simp only [lg_sl] at ih ⊢
    simp only [List.map_cons, List.flatMap_cons, List.length_append, ih, sk_cat]
    rw [sv_cat]
    cases v_one v <;> rfl
/-- the evaluator's run is the machine's, at every place of every method -/
def sk_Pn (T : sk_T) (rec? : Nat → Bool) (n : Nat) : Prop :=
  ∀ (d m : Nat) (c : sk_C) (R : sk_H × Option sk_V), m < 253 → sk_run T rec? n d m c = some R →
  ∀ (p : Program) (l : Launch) (e : Env) (Rm : Room) (s : State) (mm : MethodId) (args : Array Value) (below : List Frame) (meth : Method) (cd : Code) (Q : State → Prop) (E : sk_En) (n0 s0 : Nat),
  sk_Cx E m p s mm args meth cd → ((sk_rk m + 32 * d ≤ Rm.frames ∧ 48 * (sk_rk m + 32 * d) ≤ Rm.locals) ∧ hn R.1 ≤ n0 + Rm.cells ∧ hs R.1 ≤ s0 + Rm.slots) →
  sk_Rt E m n0 s0 p l e Rm s mm args below meth cd Q R → sk_G E m n0 s0 p l e Rm s mm args below meth cd Q c
theorem sk_Mt_of {T : sk_T} {rec? : Nat → Bool} {n : Nat} (P : sk_Pn T rec? n) {d m : Nat} {as : List sk_V} {h : sk_H} {R : sk_H × Option sk_V} (hm : m < 253) (hpl : plainName (sk_y m).cls = true) (hcat : sk_cat as ≤ sk_ml m) (hr : sk_run T rec? n d m (0, sk_ent (sk_ml m) as, [], h) = some R) (l : Launch) (E : sk_En) : sk_Mt l E d m as h R := by
  have hmono := sk_run_mono T rec? n d m _ R hr
  have mo1 : hn h ≤ hn R.1 := hmono.1
  have mo2 : hs h ≤ hs R.1 := hmono.2
  refine Met.ofW (cc := sk_b m) (maxL := sk_ml m) (ret := sk_rt m) hpl rfl ?_
  intro p e s mm args below meth cd s₁ B hml hv
  obtain ⟨rfl, hRep, hK, hXF, hz, hEP⟩ := hv
  have hts := atoms_spec (ws := sk_wd m) B.pre
  have hown : s.vm.findClass (sk_y m).cls = some mm.cls := findClass_of_methodNamed B.named
  have hlocks := B.notSynchronized
  have hC : sk_Cx E m p s mm (as.map (sv E)).toArray meth cd := ⟨B.exec, B.bytes, hml, hown, fun w hw => hts w (List.mem_cons_of_mem _ hw), fun h => (name_of_methodNamed B.named B.method).1.trans h, hK, hXF, hz, hEP⟩
  rw [lg_entry_eq]
  have hl := lv_entry (as.map (sv E)) (n := sk_ml m) (by rw [lg_sl_len]; exact hcat)
  refine P d m _ R hm hr p l e (headSpec (sk_wd m) (sk_rm d m (hn R.1 - hn h) (hs R.1 - hs h))).room s mm _ below meth cd _ E (hn h) (hs h) hC ⟨⟨Nat.le_refl _, Nat.le_refl _⟩, by show _ ≤ _ + (hn R.1 - hn h); omega, by show _ ≤ _ + (hs R.1 - hs h); omega⟩ ?_ s.heap [] 0 0 _ ⟨hRep, va_S.rf, rfl, rfl, hl.1, hl.2.1, fun q hq => ?_⟩
  · intro pc H locs cells slots als r1 r2 r3 r4 r5
    have hc : cells = hn R.1 - hn h := by omega
    have hs' : slots = hs R.1 - hs h := by omega
    subst hc; subst hs'
    obtain ⟨R1, v⟩ := R
    dsimp only at r5
    rcases r5 with ⟨x, rfl, hd, q⟩ | ⟨x, rfl, hd, q⟩ | ⟨x, rfl, hd, q⟩ | ⟨rfl, hd, q⟩
    · have hqq : ∀ t : State, t.heap = H → s.WarmedH t.vm → sk_Q E (R1, some (.inl x)) (as.map (sv E)).toArray s (.returned (some (.int x))) t := fun t ht hW => ⟨rfl, by rw [ht]; exact r1, r2.F ht⟩
      rcases q with q | ⟨q, q2⟩ | ⟨q, q2⟩ | ⟨q, q2⟩
      · exact W.iret (Qc := sk_Q E (R1, some (.inl x))) B.exec B.bytes (B.returns.trans q) hqq r2.2.2 hd
      · exact W.zret (Qc := sk_Q E (R1, some (.inl x))) B.exec B.bytes (B.returns.trans q) (by rcases q2 with rfl | rfl <;> decide) hqq r2.2.2 hd
      · exact W.zret (Qc := sk_Q E (R1, some (.inl x))) B.exec B.bytes (B.returns.trans q) (by rw [narrow_byte, q2]) hqq r2.2.2 hd
      · exact W.zret (Qc := sk_Q E (R1, some (.inl x))) B.exec B.bytes (B.returns.trans q) (by show Value.int _ = _; exact congrArg Value.int q2) hqq r2.2.2 hd
    · exact W.lret (Qc := sk_Q E (R1, some (.inr (.inl x)))) B.exec B.bytes (B.returns.trans q) (fun t ht hW => ⟨rfl, by rw [ht]; exact r1, r2.F ht⟩) r2.2.2 hd
    · have hv : va_rf (x.map (sk_ad E)) = .null ∨ ∃ a, va_rf (x.map (sk_ad E)) = .ref a := by
        cases x with
        | none => exact Or.inl rfl
        | some a => exact Or.inr ⟨_, rfl⟩
      rcases q with ⟨nm, q⟩ | ⟨tt, q⟩
      · exact W.aret (Qc := sk_Q E (R1, some (.inr (.inr x)))) B.exec B.bytes (B.returns.trans q) (Or.inl ⟨_, rfl⟩) hv (fun t ht hW => ⟨rfl, by rw [ht]; exact r1, r2.F ht⟩) r2.2.2 hd
      · exact W.aret (Qc := sk_Q E (R1, some (.inr (.inr x)))) B.exec B.bytes (B.returns.trans q) (Or.inr ⟨_, rfl⟩) hv (fun t ht hW => ⟨rfl, by rw [ht]; exact r1, r2.F ht⟩) r2.2.2 hd
    · exact W.vret (Qc := sk_Q E (R1, none)) B.exec B.bytes (B.returns.trans q) (fun t ht hW => ⟨rfl, by rw [ht]; exact r1, r2.F ht⟩) r2.2.2 hd
  · obtain ⟨k, w, h1, rfl⟩ := (sk_lv_mem E _ 0 q).mp hq
    exact hl.2.2 _ (lv_args_mem E as (sk_ml m) 0 k w h1)
theorem sk_sim {T : sk_T} {rec? : Nat → Bool} (hT : ∀ m pc e, m < 253 → T m pc = some e → sk_ok rec? m pc e = true) (hMk : ∀ cm, sk_cal cm → sk_mok cm = true) : ∀ n, sk_Pn T rec? n
  | 0 => fun d m c R hm hr => by cases hr
  | n + 1 => by
    have P := sk_sim hT hMk n
    intro d m c R hm hr p l e Rm s mm args below meth cd Q E n0 s0 C hRm HR
    obtain ⟨pc, ls, st, h⟩ := c
    unfold sk_run at hr
    rw [Option.bind_eq_some_iff] at hr
    obtain ⟨⟨i, ⟨nx, e1, e2, e3, e4, e5⟩, ev, ec, cut⟩, h1, h2⟩ := hr
    have h3 := sk_sim1 (rec? := rec?) (d := d) (fc := sk_call rec? (sk_run T rec? n) d) (f := sk_run T rec? n d m) (st := st) (h := h) (ls := sk_live (i, (nx, e1, e2, e3, e4, e5), ev, ec, cut) ls) hMk C (hT m pc _ hm h1) hRm
      (fun c hc => P d m c R hm hc p l e Rm s mm args below meth cd Q E n0 s0 C hRm HR) (fun c hc => sk_run_mono T rec? n d m c R hc)
      (fun cm as h' R' hcm hcat hc => by
        unfold sk_call at hc
        cases hq : rec? cm with
        | false =>
          rw [hq] at hc
          exact ⟨d, Or.inl ⟨rfl, rfl⟩, sk_Mt_of P (by have := hcm.1; omega) (sk_mok_spec (hMk cm hcm)).2.2.1 hcat hc l E, sk_run_mono T rec? n d cm _ R' hc⟩
        | true =>
          rw [hq] at hc
          cases d with
          | zero => cases hc
          | succ k => exact ⟨k, Or.inr ⟨rfl, rfl⟩, sk_Mt_of P (by have := hcm.1; omega) (sk_mok_spec (hMk cm hcm)).2.2.1 hcat hc l E, sk_run_mono T rec? n k cm _ R' hc⟩) HR h2
    intro H locs cells slots als I
    exact h3 H locs cells slots als ⟨I.1, I.2.1, I.2.2.1, I.2.2.2.1, I.2.2.2.2.live _⟩
