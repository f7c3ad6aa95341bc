/-! ===== contracts and calls ===== -/
def sk_wd (m : Nat) : List Cond := Cond.code (sk_y m) (sk_b m) (sk_ml m) (sk_rt m) :: sk_wds
def sk_rm (d m mc ms : Nat) : Room := { frames := sk_rk m + 32 * d, cells := mc, slots := ms, locals := 48 * (sk_rk m + 32 * d) }
def sk_Pc (E : sk_En) (as : List sk_V) (h : sk_H) : Array Value → State → Prop := va_Pc (as.map (sv E)) (fun U => sk_Rep E h U.heap ∧ va_K E.2.2.1 vwCl (sk_tys E) U ∧ sk_XF E U U.heap ∧ E.1 ≤ U.heap.size ∧ sk_EP E)
def sk_Q (E : sk_En) (R : sk_H × Option sk_V) : Array Value → State → Outcome → State → Prop := fun _ st o t => o = .returned (R.2.map (sv E)) ∧ sk_Rep E R.1 t.heap ∧ va_F (sk_A0 E) st t
def sk_Mt (l : Launch) (E : sk_En) (d m : Nat) (as : List sk_V) (h : sk_H) (R : sk_H × Option sk_V) : Prop :=
  Met l (sk_y m) (sk_wd m) (sk_rm d m (hn R.1 - hn h) (hs R.1 - hs h)) (sk_Pc E as h) (sk_Q E R) (hn R.1 - hn h) (hs R.1 - hs h) (sk_A0 E)
theorem sk_Pc.blind (E : sk_En) (as : List sk_V) (h : sk_H) : FrameBlind (sk_Pc E as h) := by
  intro a U g mk q
  obtain ⟨q0, q1, q2, q3, q4, q5⟩ := q
  exact ⟨q0, q1, va_K.moved (u := U) (U := U.calling g mk a) (Vm.Alike.refl U.vm) q2, sk_XF.blind (U := U) rfl q3, q4, q5⟩
theorem sk_take_spec : ∀ (n : Nat) (acc st as r : List sk_V), sk_take n acc st = some (as, r) → ∃ t, t.length = n ∧ st = t ++ r ∧ as = t.reverse ++ acc
  | 0, acc, st, as, r, h => by
    simp [sk_take] at h
    exact ⟨[], rfl, h.2, h.1.symm⟩
  | n + 1, acc, [], as, r, h => by simp [sk_take] at h
  | n + 1, acc, v :: st, as, r, h => by
    obtain ⟨t, h1, h2, h3⟩ := sk_take_spec n (v :: acc) st as r h
    exact ⟨v :: t, by simp [h1], by simp [h2], by simp [h3]⟩
theorem sk_cat_sum (E : sk_En) : ∀ st : List sk_V, ((st.map (sv E)).map fun v => v.category).sum = sk_cat st
  | [] => rfl
  | v :: r => by
    simp only [List.map_cons, List.sum_cons, sk_cat_sum E r, sk_cat]
    rw [sv_cat]
    cases v_one v <;> rfl
section SkCall
variable {p : Program} {l : Launch} {e : Env} {Rm : Room} {s : State} {mm : MethodId} {args : Array Value} {below : List Frame} {meth : Method} {cd : Code} {Q : State → Prop} {E : sk_En} {m n0 s0 : Nat}
variable {ls : sk_Ls} {h : sk_H} {H : Heap} {locs : List Loc} {cells slots : Nat} {als : Array Slot} {pc : Nat} {rest : List Value}
theorem sm_ret {T : State} (hT : T.heap = H) (hS : va_S (sk_A0 E) s.heap H locs) {R' : sk_H × Option sk_V} {mc ms : Nat} {a : Array Value} {v : Option Value} {vm₁ : Vm} {B : Pt}
    (X' : Stand p l e Rm s mm args below meth cd B.U B.locs B.cells B.slots) (hp : PostOf (sk_Q E R') mc ms (sk_A0 E) ⟨T.setVm vm₁, locs, cells, slots⟩ a v B)
    {st0 : List Value} (st : ∀ target, Steps p.tables e below (B.U.setTop (F0 mm (pc + 3) als (v.toList ++ rest))) target → Steps p.tables e below (T.setTop (F0 mm pc als st0)) target)
    (kk : ∀ H1 locs1, sk_Rep E R'.1 H1 → va_S (sk_A0 E) s.heap H1 locs1 → W p l e Rm s mm args below meth cd H1 locs1 (cells + mc) (slots + ms) Q (F0 mm (pc + 3) als (R'.2.toList.map (sv E) ++ rest))) : ∃ t, Steps p.tables e below (T.setTop (F0 mm pc als st0)) t ∧ Q t := by
  obtain ⟨U', l2, c2, s2⟩ := B
  obtain ⟨g', mk, t, L, e1, e2, ⟨hv, hR, hz, hk⟩, h1, hL, h2, h3⟩ := hp
  dsimp only [Pt.U, Pt.locs, Pt.cells, Pt.slots] at X' e1 e2 h1 h2 h3 st
  subst h1; subst h2; subst h3
  have hv' : v = R'.2.map (sv E) := Outcome.returned.inj hv
  have hH : ((T.setVm vm₁).calling g' mk a).heap = H := hT
  rw [hH] at hz hk
  have hS' : va_S (sk_A0 E) s.heap U'.heap (locs ++ L) := by
    refine ⟨Nat.le_trans hS.1 (by rw [e1]; exact hz), fun q h1 h2 => ?_, fun q hq => ?_⟩
    · rw [e1, hk q (Nat.lt_of_lt_of_le h1 hS.1) h2]; exact hS.2.1 q h1 h2
    · rcases List.mem_append.mp hq with h | h
      · exact hS.2.2 q h
      · exact hL q h
  obtain ⟨t2, a1, b1⟩ := kk U'.heap (locs ++ L) (by rw [e1]; exact hR) hS' U' rfl X'
  refine ⟨t2, st t2 ?_, b1⟩
  have : v.toList = R'.2.toList.map (sv E) := by rw [hv']; cases R'.2 <;> rfl
  rw [this]
  exact a1
/-- the callee's start -/
theorem sm_pre (C : sk_Cx E m p s mm args meth cd) (I : sk_Rep E h H) (hS : va_S (sk_A0 E) s.heap H locs) (as : List sk_V) {T : State} (hT : T.heap = H) {vm₁ : Vm} (hW : s.WarmedH vm₁) : sk_Pc E as h (as.map (sv E)).toArray (T.setVm vm₁) := by
  obtain ⟨hx, hb, hml, hown, hts, hnm, hKs, hX, hz, hEP⟩ := C
  have hh : (T.setVm vm₁).heap = H := hT
  refine ⟨rfl, by rw [hh]; exact I, va_K.moved hW.alike hKs, ?_, by rw [hh]; exact Nat.le_trans hz hS.1, hEP⟩
  rw [hh]
  exact sk_XF.moved (U := T.setVm vm₁) hW hS.2.1 hz hX
theorem sk_mok_spec {cm : Nat} (h : sk_mok cm = true) : (∀ w ∈ sk_mw cm, w ∈ sk_wds) ∧ ((sk_y cm).cls ≠ "java/lang/invoke/MethodHandle" ∧ (sk_y cm).cls ≠ "java/lang/invoke/VarHandle") ∧ plainName (sk_y cm).cls = true ∧ (parseMethodDescriptor (sk_y cm).desc).map (fun d => d.parameters.length) = some (sk_pn cm) ∧ (sk_mk cm = 2 → (sk_y cm).name = "<init>") := by
  unfold sk_mok at h
  simp only [Bool.and_eq_true, decide_eq_true_eq] at h
  obtain ⟨⟨⟨⟨h1, h2⟩, h3⟩, h4⟩, h5⟩ := h
  exact ⟨sk_all2_mem _ _ h1, h2, h3, h4, h5⟩
theorem ok_call_spec {rec? : Nat → Bool} {idx cm n rk ml : Nat} (hMk : ∀ cm, sk_cal cm → sk_mok cm = true) (h : ok_call rec? m idx cm n rk ml = true) : sk_cal cm ∧ Cond.methodLink (sk_y m).cls idx (sk_y cm) ∈ sk_wds ∧ Cond.initialized (sk_y cm).cls ∈ sk_wds ∧ Cond.code (sk_y cm) (sk_b cm) (sk_ml cm) (sk_rt cm) ∈ sk_wds ∧ ((sk_y cm).cls ≠ "java/lang/invoke/MethodHandle" ∧ (sk_y cm).cls ≠ "java/lang/invoke/VarHandle") ∧ plainName (sk_y cm).cls = true ∧ (parseMethodDescriptor (sk_y cm).desc).map (fun d => d.parameters.length) = some n ∧ (ml = sk_ml cm ∧ 27 + ml ≤ 48) ∧ ok_rec rec? m cm = true ∧ ok_rk (sk_rt cm) rk = true := by
  unfold ok_call at h
  simp only [Bool.and_eq_true, decide_eq_true_eq] at h
  obtain ⟨⟨⟨⟨⟨h1, h2⟩, h7⟩, h8⟩, h9⟩, h10⟩ := h
  obtain ⟨g1, g2, g3, g4, g5⟩ := sk_mok_spec (hMk cm h1)
  exact ⟨h1, ok_w_mem h2, g1 _ (List.mem_cons_of_mem _ List.mem_cons_self), g1 _ List.mem_cons_self, g2, g3, by rw [g4, h7], h8, h9, h10⟩
theorem sk_back (C : sk_Cx E m p s mm args meth cd) {cm d' mc ms : Nat} {as : List sk_V} {R' : sk_H × Option sk_V} (hM : Met l (sk_y cm) (sk_wd cm) (sk_rm d' cm mc ms) (sk_Pc E as h) (sk_Q E R') mc ms (sk_A0 E)) (hc : Cond.code (sk_y cm) (sk_b cm) (sk_ml cm) (sk_rt cm) ∈ sk_wds) (hi : Cond.initialized (sk_y cm).cls ∈ sk_wds) (hfr : sk_rk cm + 32 * d' + 1 ≤ Rm.frames) (hlo : 16 + (sk_ml cm + 11) + 48 * (sk_rk cm + 32 * d') ≤ Rm.locals) :
    Back l Rm p e below s args (sk_y cm) 3 16 (PreOf Rm mc ms (sk_Pc E as h)) (PostOf (sk_Q E R') mc ms (sk_A0 E)) := by
  obtain ⟨hx, hb, hml, hown, hts, hnm, hKs, hX, hz, hEP⟩ := C
  have hg : ∀ w ∈ sk_wds, ∀ (a' : Array Value) (U : State), s.WarmedH U.vm → w.before a' U = true := fun w hw a' U hW => word_at hW (good_of_word (List.mem_filter.mp hw).2) (hts w hw)
  refine back_of (bytes := sk_b cm) (maxL := sk_ml cm) (ret := sk_rt cm) hM (sk_Pc.blind E as h) rfl rfl hfr hlo (fun w hw a' U hW => ?_) List.mem_cons_self (fun a' U hW => hg _ hi a' U hW)
  rcases List.mem_cons.mp hw with rfl | hw
  · exact hg _ hc a' U hW
  · exact hg w hw a' U hW
theorem sm_parm {y : MethodName} {n : Nat} (h : (parseMethodDescriptor y.desc).map (fun d => d.parameters.length) = some n) : ∀ sig, parseMethodDescriptor y.desc = some sig → n = sig.parameters.length := by
  intro sig hs
  rw [hs] at h
  exact (Option.some.inj h).symm
theorem sm_callS (C : sk_Cx E m p s mm args meth cd) (I : sk_Rep E h H) (hS : va_S (sk_A0 E) s.heap H locs) (hL : als.size = sk_ml m) {rec? : Nat → Bool} {idx cm n rk ml d' : Nat} {as r : List sk_V} {R' : sk_H × Option sk_V} (hMk : ∀ cm, sk_cal cm → sk_mok cm = true) (hok : ok_call rec? m idx cm n rk ml = true) (hst : Cond.static (sk_y cm) ∈ sk_wds) (hM : sk_Mt l E d' cm as h R') (hln : as.length = n) (hr : sk_cat r ≤ 16)
    (hfr : sk_rk cm + 32 * d' + 1 ≤ Rm.frames) (hlo : 16 + (sk_ml cm + 11) + 48 * (sk_rk cm + 32 * d') ≤ Rm.locals) (hc : cells + (hn R'.1 - hn h) ≤ Rm.cells) (hs' : slots + (hs R'.1 - hs h) ≤ Rm.slots) (hd : decode (sk_b m) pc = .ok (.invokestatic idx, 3))
    (kk : ∀ H1 locs1, sk_Rep E R'.1 H1 → va_S (sk_A0 E) s.heap H1 locs1 → W p l e Rm s mm args below meth cd H1 locs1 (cells + (hn R'.1 - hn h)) (slots + (hs R'.1 - hs h)) Q (F0 mm (pc + 3) als (R'.2.toList.map (sv E) ++ r.map (sv E)))) : W p l e Rm s mm args below meth cd H locs cells slots Q (F0 mm pc als ((as.map (sv E)).reverse ++ r.map (sv E))) := by
  obtain ⟨h1, h2, h3, h4, h5, h6, h7, h8, h9, h10⟩ := ok_call_spec hMk hok
  have hB := sk_back (p := p) (e := e) (below := below) C hM h4 h3 hfr hlo
  intro T hT X
  obtain ⟨hx, hb, hml, hown, hts, -⟩ := id C
  obtain ⟨v, vm₁, B, hW₁, X', hp, st⟩ := callS X hx (bytes := sk_b cm) (maxL := sk_ml cm) (ret := sk_rt cm) hown (hts _ h2) (hts _ hst) (hts _ h3) (hts _ h4) h5 hB (g := F0 mm pc als ((as.map (sv E)).reverse ++ r.map (sv E))) rfl (hL.trans hml.symm) (argsL := as.map (sv E)) (rest := r.map (sv E)) (fun sig hs => by rw [List.length_map, hln]; exact sm_parm h7 sig hs) rfl (by
      have : (F0 mm pc als ((as.map (sv E)).reverse ++ r.map (sv E))).monitorRoom = 0 := rfl
      rw [this, sk_cat_sum]; omega) (by rw [hb]; exact hd) (fun vm₁ hW₁ => ⟨hc, hs', sm_pre C I hS as hT hW₁⟩)
  exact sm_ret hT hS X' hp st kk
end SkCall
