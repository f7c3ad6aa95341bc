/-! ===== the other calls ===== -/
section SkCall2
variable {p : Program} {l : Launch} {e : Env} {Rm : Room} {s : State} {mm : MethodId} {args : Array Value} {below : List Frame} {meth : Method} {cd : Code} {Q : State → Prop} {E : sk_En} {m n0 s0 : Nat}
variable {ls : sk_Ls} {h : sk_H} {H : Heap} {locs : List Loc} {cells slots : Nat} {als : Array Slot} {pc : Nat} {rest : List Value}
theorem sm_callI (C : sk_Cx E m p s mm args meth cd) (I : sk_Rep E h H) (hS : va_S (sk_A0 E) s.heap H locs) (hL : als.size = sk_ml m) {rec? : Nat → Bool} {idx cm n rk ml d' a : Nat} {as r : List sk_V} {R' : sk_H × Option sk_V} (hMk : ∀ cm, sk_cal cm → sk_mok cm = true) (hok : ok_call rec? m idx cm n rk ml = true) (hnm : (sk_y cm).name = "<init>" ∧ sk_rt cm = none) (hin : Cond.instanceMethod (sk_y cm) ∈ sk_wds) (hM : sk_Mt l E d' cm (.inr (.inr (some a)) :: as) h R') (hln : as.length = n) (hr : sk_cat r ≤ 16)
    (hfr : sk_rk cm + 32 * d' + 1 ≤ Rm.frames) (hlo : 16 + (sk_ml cm + 11) + 48 * (sk_rk cm + 32 * d') ≤ Rm.locals) (hc : cells + (hn R'.1 - hn h) ≤ Rm.cells) (hs' : slots + (hs R'.1 - hs h) ≤ Rm.slots) (hd : decode (sk_b m) pc = .ok (.invokespecial idx, 3))
    (kk : ∀ H1 locs1, sk_Rep E R'.1 H1 → va_S (sk_A0 E) s.heap H1 locs1 → W p l e Rm s mm args below meth cd H1 locs1 (cells + (hn R'.1 - hn h)) (slots + (hs R'.1 - hs h)) Q (F0 mm (pc + 3) als (R'.2.toList.map (sv E) ++ r.map (sv E)))) : W p l e Rm s mm args below meth cd H locs cells slots Q (F0 mm pc als ((as.map (sv E)).reverse ++ .ref (sk_ad E a) :: r.map (sv E))) := by
  obtain ⟨h1, h2, h3, h4, h5, h6, h7, h8, h9, h10⟩ := ok_call_spec hMk hok
  have hB := sk_back (p := p) (e := e) (below := below) C hM h4 h3 hfr hlo
  intro T hT X
  obtain ⟨hx, hb, hml, hown, hts, -⟩ := id C
  have h4' : (Cond.code (sk_y cm) (sk_b cm) (sk_ml cm) none).before args s = true := by
    have := hts _ h4
    rw [hnm.2] at this
    exact this
  obtain ⟨v, vm₁, B, hW₁, X', hp, st⟩ := callI X hx (bytes := sk_b cm) (maxL := sk_ml cm) hown hnm.1 (hts _ h2) (hts _ hin) h4' h5 hB (g := F0 mm pc als ((as.map (sv E)).reverse ++ .ref (sk_ad E a) :: r.map (sv E))) rfl (hL.trans hml.symm) (a := sk_ad E a) (argsL := as.map (sv E)) (rest := r.map (sv E)) (fun sig hs => by rw [List.length_map, hln]; exact sm_parm h7 sig hs) rfl (by
      have : (F0 mm pc als ((as.map (sv E)).reverse ++ .ref (sk_ad E a) :: r.map (sv E))).monitorRoom = 0 := rfl
      rw [this, sk_cat_sum]; omega) (by rw [hb]; exact hd) (fun vm₁ hW₁ => ⟨hc, hs', sm_pre C I hS (.inr (.inr (some a)) :: as) hT hW₁⟩)
  exact sm_ret hT hS X' hp st kk
theorem sm_callV (C : sk_Cx E m p s mm args meth cd) (I : sk_Rep E h H) (hS : va_S (sk_A0 E) s.heap H locs) (hL : als.size = sk_ml m) {rec? : Nat → Bool} {idx cm n rk ml d' a k : Nat} {as r : List sk_V} {R' : sk_H × Option sk_V} (hMk : ∀ cm, sk_cal cm → sk_mok cm = true) (hok : ok_call rec? m idx cm n rk ml = true) (hin : Cond.instanceMethod (sk_y cm) ∈ sk_wds) (hse : Cond.selects (sk_y cm).cls (sk_y cm) (sk_y cm) ∈ sk_wds)
    (hk : hK h a = k) (hkk : ok_rv cm k = true) (hM : sk_Mt l E d' cm (.inr (.inr (some a)) :: as) h R') (hln : as.length = n) (hr : sk_cat r ≤ 16)
    (hfr : sk_rk cm + 32 * d' + 1 ≤ Rm.frames) (hlo : 16 + (sk_ml cm + 11) + 48 * (sk_rk cm + 32 * d') ≤ Rm.locals) (hc : cells + (hn R'.1 - hn h) ≤ Rm.cells) (hs' : slots + (hs R'.1 - hs h) ≤ Rm.slots) (hd : decode (sk_b m) pc = .ok (.invokevirtual idx, 3))
    (kk : ∀ H1 locs1, sk_Rep E R'.1 H1 → va_S (sk_A0 E) s.heap H1 locs1 → W p l e Rm s mm args below meth cd H1 locs1 (cells + (hn R'.1 - hn h)) (slots + (hs R'.1 - hs h)) Q (F0 mm (pc + 3) als (R'.2.toList.map (sv E) ++ r.map (sv E)))) : W p l e Rm s mm args below meth cd H locs cells slots Q (F0 mm pc als ((as.map (sv E)).reverse ++ .ref (sk_ad E a) :: r.map (sv E))) := by
  obtain ⟨h1, h2, h3, h4, h5, h6, h7, h8, h9, h10⟩ := ok_call_spec hMk hok
  have hB := sk_back (p := p) (e := e) (below := below) C hM h4 h3 hfr hlo
  obtain ⟨hx, hb, hml, hown, hts, hnm, hKs, hX, hz, hEP⟩ := id C
  have hrv : ∃ cell : Cell, H[sk_ad E a]? = some cell ∧ cell.vm.isStatics = false ∧ s.vm.findClass (sk_y cm).cls = some cell.cls := by
    by_cases h51 : k = 51
    · subst h51
      have hkk : (sk_y cm).cls = "java/lang/String" := of_decide_eq_true hkk
      obtain ⟨q1, q2⟩ := I.ext (a := a) (by unfold sk_kd; omega) (by omega)
      obtain ⟨j, hj, rfl⟩ := sk_ek_of.2.2.2 (q2.symm.trans hk)
      rw [sk_ad_ext q1, hkk]
      exact vk_recv (i := j) (adK := fun i => E.2.1 (2 + i)) hX.2.2.1 hj hS
    · unfold ok_rv at hkk
      split at hkk
      · exact absurd rfl h51
      · split at hkk
        · rename_i hcl
          simp only [decide_eq_true_eq] at hkk
          obtain ⟨k1, k2, rfl⟩ := hkk
          obtain ⟨r', hr', cell, q1, q2, q3, -⟩ := I.obj (a := a) (by omega)
          rw [hk] at hr' q2
          cases hr'.symm.trans hcl
          exact ⟨cell, q1, by rw [q3]; rfl, by rw [q2]; exact (hKs.1 _ _ hcl).2.1⟩
        · cases hkk
  obtain ⟨cellB, hcB, hoB, hclB⟩ := hrv
  intro T hT X
  obtain ⟨v, vm₁, B, hW₁, X', hp, st⟩ := callV X hx (C := (sk_y cm).cls) (bytes := sk_b cm) (maxL := sk_ml cm) (ret := sk_rt cm) hown (hts _ h2) (hts _ hin) (hts _ hse) (hts _ h4) h5 hB (by rw [hT]; exact hcB) hoB hclB (g := F0 mm pc als ((as.map (sv E)).reverse ++ .ref (sk_ad E a) :: r.map (sv E))) rfl (hL.trans hml.symm) (argsL := as.map (sv E)) (rest := r.map (sv E)) (fun sig hs => by rw [List.length_map, hln]; exact sm_parm h7 sig hs) rfl (by
      have : (F0 mm pc als ((as.map (sv E)).reverse ++ .ref (sk_ad E a) :: r.map (sv E))).monitorRoom = 0 := rfl
      rw [this, sk_cat_sum]; omega) (by rw [hb]; exact hd) (fun vm₁ hW₁ => ⟨hc, hs', sm_pre C I hS (.inr (.inr (some a)) :: as) hT hW₁⟩)
  exact sm_ret hT hS X' hp st kk
end SkCall2
