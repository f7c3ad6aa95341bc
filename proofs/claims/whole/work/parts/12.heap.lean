/-! ===== reads and writes ===== -/
section SkRead
variable {p : Program} {l : Launch} {e : Env} {Rm : Room} {s : State} {mm : MethodId} {args : Array Value} {below : List Frame} {meth : Method} {cd : Code} {Q : State → Prop} {E : sk_En} {m n0 s0 : Nat}
variable {ls : sk_Ls} {h : sk_H} {H : Heap} {locs : List Loc} {cells slots : Nat} {als : Array Slot} {pc : Nat} {rest : List Value}
theorem sk_1w {D : va_G} {cl : List vw_C} {q : Nat × va_E} {H : Heap} (h : va_at D cl q H) : va_P D cl [q] H := by
  intro k x hx
  cases k with
  | zero => cases hx; exact h
  | succ k => simp at hx
theorem sk_ek_of {a : Nat} : (sk_ek a = 201 → a = 16) ∧ (sk_ek a = 202 → a = 1) ∧ (sk_ek a = 204 → ∃ i, i < 7 ∧ a = 9 + i) ∧ (sk_ek a = 51 → ∃ i, i < 7 ∧ a = 2 + i) := by
  unfold sk_ek
  refine ⟨fun hk => ?_, fun hk => ?_, fun hk => ?_, fun hk => ?_⟩
  · split at hk
    · omega
    · split at hk
      · omega
      · split at hk
        · omega
        · split at hk <;> omega
  · split at hk
    · omega
    · split at hk
      · omega
      · split at hk
        · omega
        · split at hk <;> omega
  · split at hk
    · omega
    · split at hk
      · omega
      · split at hk
        · exact ⟨a - 9, by omega, by omega⟩
        · split at hk <;> omega
  · split at hk
    · omega
    · split at hk
      · exact ⟨a - 2, by omega, by omega⟩
      · split at hk
        · omega
        · split at hk <;> omega
theorem sm_iald (C : sk_Cx E m p s mm args meth cd) (I : sk_Rep E h H) {a : Nat} {i : Int32} (hk : (hK h a = 101 ∨ hK h a = 201) ∧ sk_in i (hN h a)) (hS : va_S (sk_A0 E) s.heap H locs) (hd : decode (sk_b m) pc = .ok (.iaload, 1))
    (kk : W p l e Rm s mm args below meth cd H locs cells slots Q (F0 mm (pc + 1) als (.int (hI h a i.toNatClampNeg) :: rest))) : W p l e Rm s mm args below meth cd H locs cells slots Q (F0 mm pc als (.int i :: .ref (sk_ad E a) :: rest)) := by
  obtain ⟨hx, hb, -, -, -, -, hKs, hX, hz, hEP⟩ := C
  obtain ⟨hk, hin⟩ := hk
  rcases hk with hk | hk
  · exact va_iald (D := E.2.2.1) (cl := vwCl) hx hb hKs (sk_1w (q := (sk_ad E a, .inl (E.2.2.2.1 101, hN h a, .inl (hI h a)))) (I.arrI hk (by omega))) 0 0 rfl rfl hin hd kk
  · obtain ⟨q1, q2⟩ := I.ext (a := a) (by unfold sk_kd; omega) (by omega)
    obtain rfl := sk_ek_of.1 (q2.symm.trans hk)
    obtain ⟨-, e2, e3, -⟩ := I.2.2.2.2 16 q1
    obtain ⟨-, -, -, -, -, -, -, -, -, hX10, hX11, -⟩ := hX
    rw [sk_ad_ext q1]
    rw [e2] at hin
    rw [e3] at kk
    exact va_sld hx hb hX10 (Nat.lt_of_lt_of_le hX11 hz) (Nat.not_le.mpr hX11) hS hin hd kk
theorem sm_bald (C : sk_Cx E m p s mm args meth cd) (I : sk_Rep E h H) {a : Nat} {i : Int32} (hk : (hK h a = 103 ∨ hK h a = 104 ∨ hK h a = 204) ∧ sk_in i (hN h a)) (hS : va_S (sk_A0 E) s.heap H locs) (hd : decode (sk_b m) pc = .ok (.baload, 1))
    (kk : W p l e Rm s mm args below meth cd H locs cells slots Q (F0 mm (pc + 1) als (.int (hI h a i.toNatClampNeg) :: rest))) : W p l e Rm s mm args below meth cd H locs cells slots Q (F0 mm pc als (.int i :: .ref (sk_ad E a) :: rest)) := by
  obtain ⟨hx, hb, -, -, -, -, hKs, hX, hz, hEP⟩ := C
  obtain ⟨hk, hin⟩ := hk
  rcases hk with hk | hk | hk
  · exact va_zald (D := E.2.2.1) (cl := vwCl) hx hb hKs (sk_1w (q := (sk_ad E a, .inl (E.2.2.2.1 103, hN h a, .inl (hI h a)))) (I.arrI hk (by omega))) 0 2 rfl rfl hin hd kk
  · exact va_bald (D := E.2.2.1) (cl := vwCl) hx hb hKs (sk_1w (q := (sk_ad E a, .inl (E.2.2.2.1 104, hN h a, .inl (hI h a)))) (I.arrI hk (by omega))) 0 3 rfl rfl hin hd kk
  · obtain ⟨q1, q2⟩ := I.ext (a := a) (by unfold sk_kd; omega) (by omega)
    obtain ⟨j, hj, rfl⟩ := sk_ek_of.2.2.1 (q2.symm.trans hk)
    obtain ⟨-, e2, e3, -⟩ := I.2.2.2.2 (9 + j) q1
    obtain ⟨-, -, hX3, -⟩ := hX
    obtain ⟨-, -, p1, p2⟩ := hEP.2.2 j hj
    rw [sk_ad_ext q1]
    rw [e2, p1] at hin
    rw [e3, p2] at kk
    exact va_tb hx hb (hX3.1 j hj).2.2.2 hS hin rfl hd kk
theorem sm_cald (C : sk_Cx E m p s mm args meth cd) (I : sk_Rep E h H) {a : Nat} {i : Int32} (hk : hK h a = 105 ∧ sk_in i (hN h a)) (hd : decode (sk_b m) pc = .ok (.caload, 1))
    (kk : W p l e Rm s mm args below meth cd H locs cells slots Q (F0 mm (pc + 1) als (.int (hI h a i.toNatClampNeg) :: rest))) : W p l e Rm s mm args below meth cd H locs cells slots Q (F0 mm pc als (.int i :: .ref (sk_ad E a) :: rest)) := by
  obtain ⟨hx, hb, -, -, -, -, hKs, hX, hz, hEP⟩ := C
  exact va_cald (D := E.2.2.1) (cl := vwCl) hx hb hKs (sk_1w (q := (sk_ad E a, .inl (E.2.2.2.1 105, hN h a, .inl (hI h a)))) (I.arrI hk.1 (by omega))) 0 4 rfl rfl hk.2 hd kk
theorem sm_lald (C : sk_Cx E m p s mm args meth cd) (I : sk_Rep E h H) {a : Nat} {i : Int32} (hk : (hK h a = 102 ∨ hK h a = 202) ∧ sk_in i (hN h a)) (hS : va_S (sk_A0 E) s.heap H locs) (hd : decode (sk_b m) pc = .ok (.laload, 1))
    (kk : W p l e Rm s mm args below meth cd H locs cells slots Q (F0 mm (pc + 1) als (.long (hJ h a i.toNatClampNeg) :: rest))) : W p l e Rm s mm args below meth cd H locs cells slots Q (F0 mm pc als (.int i :: .ref (sk_ad E a) :: rest)) := by
  obtain ⟨hx, hb, -, -, -, -, hKs, hX, hz, hEP⟩ := C
  obtain ⟨hk, hin⟩ := hk
  rcases hk with hk | hk
  · exact va_lald (D := E.2.2.1) (cl := vwCl) hx hb hKs (sk_1w (q := (sk_ad E a, .inl (E.2.2.2.1 102, hN h a, .inr (.inl (hJ h a))))) (I.arrJ hk)) 0 1 rfl rfl hin hd kk
  · obtain ⟨q1, q2⟩ := I.ext (a := a) (by unfold sk_kd; omega) (by omega)
    obtain rfl := sk_ek_of.2.1 (q2.symm.trans hk)
    obtain ⟨-, e2, -, e4, -⟩ := I.2.2.2.2 1 q1
    rw [sk_ad_ext q1]
    rw [e2, hEP.1] at hin
    rw [e4, hEP.2.1] at kk
    exact va_tl hx hb hX.1 hS hin rfl hd kk
theorem a_ref_of {k : Nat} (h : a_ref k = true) : 106 ≤ k ∧ k ≤ 108 := by
  unfold a_ref at h
  simp only [Bool.and_eq_true, Nat.ble_eq] at h
  exact h
theorem sk_tyR (E : sk_En) {k : Nat} (hk : 106 ≤ k ∧ k ≤ 108) : ∃ (t0 ci : Nat) (r : vw_C), (sk_tys E)[t0]? = some (E.2.2.2.1 k, .object r.1) ∧ vwCl[ci]? = some r ∧ ci + 1 = a_of k := by
  rcases (show k = 106 ∨ k = 107 ∨ k = 108 by omega) with rfl | rfl | rfl
  · exact ⟨5, 6, _, rfl, rfl, rfl⟩
  · exact ⟨6, 8, _, rfl, rfl, rfl⟩
  · exact ⟨7, 9, _, rfl, rfl, rfl⟩
theorem sm_aald (C : sk_Cx E m p s mm args meth cd) (I : sk_Rep E h H) {a : Nat} {i : Int32} (hk : a_ref (hK h a) = true ∧ sk_in i (hN h a)) (hd : decode (sk_b m) pc = .ok (.aaload, 1))
    (kk : W p l e Rm s mm args below meth cd H locs cells slots Q (F0 mm (pc + 1) als (va_rf ((hR h a i.toNatClampNeg).map (sk_ad E)) :: rest))) : W p l e Rm s mm args below meth cd H locs cells slots Q (F0 mm pc als (.int i :: .ref (sk_ad E a) :: rest)) := by
  obtain ⟨hx, hb, -, -, -, -, hKs, hX, hz, hEP⟩ := C
  obtain ⟨t0, ci, r, h1, -, -⟩ := sk_tyR E (a_ref_of hk.1)
  exact va_aldq (D := E.2.2.1) (cl := vwCl) hx hb hKs (sk_1w (q := (sk_ad E a, .inl (E.2.2.2.1 (hK h a), hN h a, .inr (.inr (.inr (.inr fun j => (hR h a j).map (sk_ad E))))))) (I.arrR (a_ref_of hk.1))) 0 t0 rfl h1 hk.2 hd kk
theorem sm_getf (C : sk_Cx E m p s mm args meth cd) (I : sk_Rep E h H) {a idx k fi tag : Nat} (hok : ok_fld m idx k fi tag = true) (hk : hK h a = k) (hd : decode (sk_b m) pc = .ok (.getfield idx, 3))
    (kk : W p l e Rm s mm args below meth cd H locs cells slots Q (F0 mm (pc + 3) als (sv E (f_get h a fi tag) :: rest))) : W p l e Rm s mm args below meth cd H locs cells slots Q (F0 mm pc als (.ref (sk_ad E a) :: rest)) := by
  obtain ⟨hx, hb, -, hown, hts, -, hKs, hX, hz, hEP⟩ := C
  subst hk
  unfold ok_fld at hok
  split at hok
  · rename_i Cn T N hcl
    simp only [Bool.and_eq_true, decide_eq_true_eq] at hok
    obtain ⟨⟨⟨hk1, hk2, hfi⟩, htag⟩, hw⟩ := hok
    obtain ⟨r, hr, cell, q1, q2, q3, q4⟩ := I.obj ⟨hk1, hk2⟩
    cases hr.symm.trans hcl
    obtain ⟨hin, -, -, -⟩ := sk_cl_ok _ _ hcl
    obtain ⟨hS, hfc, kC, hkC, hkind⟩ := hKs.1 _ _ hcl
    obtain ⟨cf, kf, fi', f, hi, hsl⟩ := hS fi hfi
    refine W.getf hx hb hown (hts _ (ok_w_mem hw)) hi (u_facts hfc hkC (u_lays hts hin hfi) hi).1 q1 (by rw [q3]; exact fun h => by cases h) (v := sv E (f_get h a fi tag)) ?_ rfl rfl hd kk
    rw [hsl, q4 fi hfi]
    have : sk_tag (hK h a) fi = tag := by
      unfold sk_tag
      rw [List.getD_eq_getElem?_getD, htag]
      rfl
    show some (sv E (f_get h a fi (sk_tag (hK h a) fi))) = _
    rw [this]
  · cases hok
/-- the fields of a text -/
theorem sm_gets (C : sk_Cx E m p s mm args meth cd) (I : sk_Rep E h H) {a idx fi tag : Nat} (hok : ((decide (fi = 0 ∧ tag = 2) && ok_w m (.fieldLink (sk_y m).cls idx "java/lang/String" "value" "[B")) || (decide (fi = 1 ∧ tag = 0) && ok_w m (.fieldLink (sk_y m).cls idx "java/lang/String" "coder" "B"))) = true) (hk : hK h a = 51) (hS : va_S (sk_A0 E) s.heap H locs) (hd : decode (sk_b m) pc = .ok (.getfield idx, 3))
    (kk : W p l e Rm s mm args below meth cd H locs cells slots Q (F0 mm (pc + 3) als (sv E (f_get h a fi tag) :: rest))) : W p l e Rm s mm args below meth cd H locs cells slots Q (F0 mm pc als (.ref (sk_ad E a) :: rest)) := by
  obtain ⟨hx, hb, -, hown, hts, -, hKs, hX, hz, hEP⟩ := C
  obtain ⟨q1, q2⟩ := I.ext (a := a) (by unfold sk_kd; omega) (by omega)
  obtain ⟨j, hj, rfl⟩ := sk_ek_of.2.2.2 (q2.symm.trans hk)
  obtain ⟨-, e2, e3, -, e5⟩ := I.2.2.2.2 (2 + j) q1
  obtain ⟨-, -, hX3, -⟩ := hX
  obtain ⟨p1, p2, -, -⟩ := hEP.2.2 j hj
  rw [sk_ad_ext q1]
  simp only [Bool.or_eq_true, Bool.and_eq_true, decide_eq_true_eq] at hok
  rcases hok with ⟨⟨rfl, rfl⟩, hw⟩ | ⟨⟨rfl, rfl⟩, hw⟩
  · refine vk_getf hx hb (hX3.1 j hj).2.2.1 hS hown (hts _ (ok_w_mem hw)) (fun _ h => h) hd ?_
    have : sv E (f_get h (2 + j) 0 2) = .ref (E.2.1 (9 + j)) := by
      show va_rf ((hR h (2 + j) 0).map (sk_ad E)) = _
      rw [e5, p2]
      show Value.ref (sk_ad E (9 + j)) = _
      rw [sk_ad_ext (by omega)]
    rw [this] at kk
    exact kk
  · refine vk_getf hx hb (hX3.1 j hj).2.1 hS hown (hts _ (ok_w_mem hw)) (fun _ h => h) hd ?_
    have : sv E (f_get h (2 + j) 1 0) = .int 0 := by
      show Value.int (hI h (2 + j) 1) = _
      rw [e3, p1]
    rw [this] at kk
    exact kk
end SkRead
section SkWrite
variable {p : Program} {l : Launch} {e : Env} {Rm : Room} {s : State} {mm : MethodId} {args : Array Value} {below : List Frame} {meth : Method} {cd : Code} {Q : State → Prop} {E : sk_En} {m n0 s0 : Nat}
variable {ls : sk_Ls} {h : sk_H} {H : Heap} {locs : List Loc} {cells slots : Nat} {als : Array Slot} {pc : Nat} {rest : List Value}
theorem same_wI (h : sk_H) (a i : Nat) (v : Int32) (b : Nat) (hb : b ≠ a) : sk_same h (wI h a i v) b := ⟨rfl, rfl, hI_wI_n h i v hb, rfl, rfl⟩
theorem same_wJ (h : sk_H) (a i : Nat) (v : Int64) (b : Nat) (hb : b ≠ a) : sk_same h (wJ h a i v) b := ⟨rfl, rfl, rfl, hJ_wJ_n h i v hb, rfl⟩
theorem same_wR (h : sk_H) (a i : Nat) (v : Option Nat) (b : Nat) (hb : b ≠ a) : sk_same h (wR h a i v) b := ⟨rfl, rfl, rfl, rfl, hR_wR_n h i v hb⟩
/-- an int into a row of ints -/
theorem sk_Rep.stI (I : sk_Rep E h H) {H' : Heap} {a k i : Nat} {v : Int32} (hk : hK h a = k) (h1 : k = 101 ∨ k = 103 ∨ k = 104 ∨ k = 105) (hc : H'[sk_ad E a]? = some ((arrV (E.2.2.2.1 k) (hN h a) (fun j => .int (hI h a j))).setSlot i (.int v))) (hz : H'.size = H.size) (hq : ∀ q, q ≠ sk_ad E a → H'[q]? = H[q]?) : sk_Rep E (wI h a i v) H' := by
  obtain ⟨g1, g2⟩ := I.own (a := a) (by unfold sk_kd; omega)
  refine I.put (h' := wI h a i v) g1 g2 rfl rfl (same_wI h a i v) hz hq ⟨fun hk2 => ?_, fun hk2 => ?_⟩
  · rw [hc, arrV_store]
    have hk' : hK (wI h a i v) a = k := hk
    unfold sk_arr
    rw [if_neg (by omega), if_neg (by omega), vp_cell_i, hI_wI_s]
    rw [hk']
    congr 2
    funext j
    by_cases hj : j = i
    · simp [updV, va_up, hj]
    · simp [updV, va_up, hj]
  · have hk' : hK (wI h a i v) a = k := hk
    omega
theorem sk_Rep.stJ (I : sk_Rep E h H) {H' : Heap} {a i : Nat} {v : Int64} (hk : hK h a = 102) (hc : H'[sk_ad E a]? = some ((arrV (E.2.2.2.1 102) (hN h a) (fun j => .long (hJ h a j))).setSlot i (.long v))) (hz : H'.size = H.size) (hq : ∀ q, q ≠ sk_ad E a → H'[q]? = H[q]?) : sk_Rep E (wJ h a i v) H' := by
  obtain ⟨g1, g2⟩ := I.own (a := a) (by unfold sk_kd; omega)
  have hk' : hK (wJ h a i v) a = 102 := hk
  refine I.put (h' := wJ h a i v) g1 g2 rfl rfl (same_wJ h a i v) hz hq ⟨fun hk2 => ?_, fun hk2 => by omega⟩
  rw [hc, arrV_store]
  unfold sk_arr
  rw [if_pos hk', vp_cell_l, hJ_wJ_s, hk']
  congr 2
  funext j
  by_cases hj : j = i
  · simp [updV, va_up, hj]
  · simp [updV, va_up, hj]
theorem sk_Rep.stR (I : sk_Rep E h H) {H' : Heap} {a i : Nat} {v : Option Nat} (hk : 106 ≤ hK h a ∧ hK h a ≤ 108) (hc : H'[sk_ad E a]? = some ((arrV (E.2.2.2.1 (hK h a)) (hN h a) (fun j => va_rf ((hR h a j).map (sk_ad E)))).setSlot i (va_rf (v.map (sk_ad E))))) (hz : H'.size = H.size) (hq : ∀ q, q ≠ sk_ad E a → H'[q]? = H[q]?) : sk_Rep E (wR h a i v) H' := by
  obtain ⟨g1, g2⟩ := I.own (a := a) (by unfold sk_kd; omega)
  have hk' : hK (wR h a i v) a = hK h a := rfl
  refine I.put (h' := wR h a i v) g1 g2 rfl rfl (same_wR h a i v) hz hq ⟨fun hk2 => ?_, fun hk2 => by omega⟩
  rw [hc, arrV_store]
  unfold sk_arr
  rw [if_neg (by omega), if_pos (by omega), vp_cell_q, hR_wR_s, hk']
  congr 2
  funext j
  by_cases hj : j = i
  · simp [updV, va_up, hj]
  · simp [updV, va_up, hj]
theorem sm_iast (C : sk_Cx E m p s mm args meth cd) (I : sk_Rep E h H) {a : Nat} {i v : Int32} (hk : hK h a = 101 ∧ sk_in i (hN h a)) (hS : va_S (sk_A0 E) s.heap H locs) (hd : decode (sk_b m) pc = .ok (.iastore, 1))
    (kk : ∀ H1 locs1, sk_Rep E (wI h a i.toNatClampNeg v) H1 → va_S (sk_A0 E) s.heap H1 locs1 → W p l e Rm s mm args below meth cd H1 locs1 cells slots Q (F0 mm (pc + 1) als rest)) : W p l e Rm s mm args below meth cd H locs cells slots Q (F0 mm pc als (.int v :: .int i :: .ref (sk_ad E a) :: rest)) := by
  obtain ⟨hx, hb, -, -, -, -, hKs, hX, hz, hEP⟩ := C
  have hc := I.arrI hk.1 (Or.inl rfl)
  obtain ⟨g1, -⟩ := I.own (a := a) (by unfold sk_kd; omega)
  refine W.iast hx hb hc ((hKs.2 0 _ rfl).1 _ _) (fun q => by cases q) (by show ¬ (i < 0 ∨ (arrV _ _ _).slots.size ≤ _); rw [arrV_size]; exact hk.2) rfl rfl hd fun H1 e z oq => ?_
  exact kk H1 _ (I.stI hk.1 (Or.inl rfl) e z oq) (hS.put z oq (by rw [sk_ad_own g1]; exact Nat.le_add_right _ _))
theorem sm_cast (C : sk_Cx E m p s mm args meth cd) (I : sk_Rep E h H) {a : Nat} {i v : Int32} (hk : hK h a = 105 ∧ sk_in i (hN h a)) (hS : va_S (sk_A0 E) s.heap H locs) (hd : decode (sk_b m) pc = .ok (.castore, 1))
    (kk : ∀ H1 locs1, sk_Rep E (wI h a i.toNatClampNeg v.toUInt32.toUInt16.toUInt32.toInt32) H1 → va_S (sk_A0 E) s.heap H1 locs1 → W p l e Rm s mm args below meth cd H1 locs1 cells slots Q (F0 mm (pc + 1) als rest)) : W p l e Rm s mm args below meth cd H locs cells slots Q (F0 mm pc als (.int v :: .int i :: .ref (sk_ad E a) :: rest)) := by
  obtain ⟨hx, hb, -, -, -, -, hKs, hX, hz, hEP⟩ := C
  have hc := I.arrI hk.1 (by omega)
  obtain ⟨g1, -⟩ := I.own (a := a) (by unfold sk_kd; omega)
  refine W.cast hx hb hc ((hKs.2 4 _ rfl).1 _ _) (fun q => by cases q) (by show ¬ (i < 0 ∨ (arrV _ _ _).slots.size ≤ _); rw [arrV_size]; exact hk.2) rfl rfl hd fun H1 e z oq => ?_
  exact kk H1 _ (I.stI hk.1 (by omega) e z oq) (hS.put z oq (by rw [sk_ad_own g1]; exact Nat.le_add_right _ _))
theorem sm_bast (C : sk_Cx E m p s mm args meth cd) (I : sk_Rep E h H) {a : Nat} {i v : Int32} (hk : (hK h a = 104 ∨ (hK h a = 103 ∧ (v = 0 ∨ v = 1))) ∧ sk_in i (hN h a)) (hS : va_S (sk_A0 E) s.heap H locs) (hd : decode (sk_b m) pc = .ok (.bastore, 1))
    (kk : ∀ H1 locs1, sk_Rep E (wI h a i.toNatClampNeg v.toInt8.toInt32) H1 → va_S (sk_A0 E) s.heap H1 locs1 → W p l e Rm s mm args below meth cd H1 locs1 cells slots Q (F0 mm (pc + 1) als rest)) : W p l e Rm s mm args below meth cd H locs cells slots Q (F0 mm pc als (.int v :: .int i :: .ref (sk_ad E a) :: rest)) := by
  obtain ⟨hx, hb, -, -, -, -, hKs, hX, hz, hEP⟩ := C
  obtain ⟨hk, hin⟩ := hk
  rcases hk with hk | ⟨hk, hv⟩
  · have hc := I.arrI hk (by omega)
    obtain ⟨g1, -⟩ := I.own (a := a) (by unfold sk_kd; omega)
    refine W.bast hx hb hc ((hKs.2 3 _ rfl).1 _ _) (fun q => by cases q) (by show ¬ (i < 0 ∨ (arrV _ _ _).slots.size ≤ _); rw [arrV_size]; exact hin) rfl rfl hd fun H1 e z oq => ?_
    exact kk H1 _ (I.stI hk (by omega) e z oq) (hS.put z oq (by rw [sk_ad_own g1]; exact Nat.le_add_right _ _))
  · have hc := I.arrI hk (by omega)
    obtain ⟨g1, -⟩ := I.own (a := a) (by unfold sk_kd; omega)
    refine W.zast hx hb hc ((hKs.2 2 _ rfl).1 _ _) (fun q => by cases q) (by show ¬ (i < 0 ∨ (arrV _ _ _).slots.size ≤ _); rw [arrV_size]; exact hin) rfl rfl hd fun H1 e z oq => ?_
    have hn : narrow .boolean (.int v) = .int v.toInt8.toInt32 := by rcases hv with rfl | rfl <;> decide
    rw [hn] at e
    exact kk H1 _ (I.stI hk (by omega) e z oq) (hS.put z oq (by rw [sk_ad_own g1]; exact Nat.le_add_right _ _))
theorem sm_last (C : sk_Cx E m p s mm args meth cd) (I : sk_Rep E h H) {a : Nat} {i : Int32} {v : Int64} (hk : hK h a = 102 ∧ sk_in i (hN h a)) (hS : va_S (sk_A0 E) s.heap H locs) (hd : decode (sk_b m) pc = .ok (.lastore, 1))
    (kk : ∀ H1 locs1, sk_Rep E (wJ h a i.toNatClampNeg v) H1 → va_S (sk_A0 E) s.heap H1 locs1 → W p l e Rm s mm args below meth cd H1 locs1 cells slots Q (F0 mm (pc + 1) als rest)) : W p l e Rm s mm args below meth cd H locs cells slots Q (F0 mm pc als (.long v :: .int i :: .ref (sk_ad E a) :: rest)) := by
  obtain ⟨hx, hb, -, -, -, -, hKs, hX, hz, hEP⟩ := C
  have hc := I.arrJ hk.1
  obtain ⟨g1, -⟩ := I.own (a := a) (by unfold sk_kd; omega)
  refine W.last hx hb hc ((hKs.2 1 _ rfl).1 _ _) (fun q => by cases q) (by show ¬ (i < 0 ∨ (arrV _ _ _).slots.size ≤ _); rw [arrV_size]; exact hk.2) rfl rfl hd fun H1 e z oq => ?_
  exact kk H1 _ (I.stJ hk.1 e z oq) (hS.put z oq (by rw [sk_ad_own g1]; exact Nat.le_add_right _ _))
theorem sm_aast (C : sk_Cx E m p s mm args meth cd) (I : sk_Rep E h H) {a b : Nat} {i : Int32} (hk : a_ref (hK h a) = true ∧ sk_in i (hN h a) ∧ hK h b = a_of (hK h a)) (hS : va_S (sk_A0 E) s.heap H locs) (hd : decode (sk_b m) pc = .ok (.aastore, 1))
    (kk : ∀ H1 locs1, sk_Rep E (wR h a i.toNatClampNeg (some b)) H1 → va_S (sk_A0 E) s.heap H1 locs1 → W p l e Rm s mm args below meth cd H1 locs1 cells slots Q (F0 mm (pc + 1) als rest)) : W p l e Rm s mm args below meth cd H locs cells slots Q (F0 mm pc als (.ref (sk_ad E b) :: .int i :: .ref (sk_ad E a) :: rest)) := by
  obtain ⟨hx, hb, -, -, -, -, hKs, hX, hz, hEP⟩ := C
  have ha := a_ref_of hk.1
  have hc := I.arrR ha
  obtain ⟨g1, -⟩ := I.own (a := a) (by unfold sk_kd; omega)
  obtain ⟨t0, ci, r, h1, h2, h3⟩ := sk_tyR E ha
  have hb2 : 1 ≤ hK h b ∧ hK h b ≤ 13 := by
    have h4 : ci < 13 := by
      have := (List.getElem?_eq_some_iff.mp h2).1
      exact this
    omega
  obtain ⟨r', hr', cellV, q1, q2, q3, -⟩ := I.obj hb2
  have hci : hK h b - 1 = ci := by omega
  rw [hci] at hr' q2
  cases hr'.symm.trans h2
  have hcls := (hKs.1 ci r h2).2
  obtain ⟨kA, comp, k1, k2, k3, -⟩ := (hKs.2 t0 _ h1).2
  have hcomp : comp = E.2.2.1.1 ci := Option.some.inj (k3.symm.trans hcls.1)
  subst hcomp
  obtain ⟨kC, hkC, -⟩ := hcls.2
  have hlt : i.toNatClampNeg < hN h a := Nat.not_le.mp fun q => hk.2.1 (Or.inr q)
  have h0 : ¬ i < 0 := fun q => hk.2.1 (Or.inl q)
  refine W.aast hx hb hc (fun q h => by cases h) (fun h => by cases h) k1 k2 rfl hkC ⟨h0, by show _ < (arrV _ _ _).slots.size; rw [arrV_size]; exact hlt⟩ q1 (fun q h => by rw [q3] at h; cases h) (by rw [q2]; exact hkC) (by rw [q2]; exact va_assign hcls) rfl rfl hd fun H1 e z oq => ?_
  exact kk H1 _ (I.stR (v := some b) ha e z oq) (hS.put z oq (by rw [sk_ad_own g1]; exact Nat.le_add_right _ _))
theorem sm_aastN (C : sk_Cx E m p s mm args meth cd) (I : sk_Rep E h H) {a : Nat} {i : Int32} (hk : a_ref (hK h a) = true ∧ sk_in i (hN h a)) (hS : va_S (sk_A0 E) s.heap H locs) (hd : decode (sk_b m) pc = .ok (.aastore, 1))
    (kk : ∀ H1 locs1, sk_Rep E (wR h a i.toNatClampNeg none) H1 → va_S (sk_A0 E) s.heap H1 locs1 → W p l e Rm s mm args below meth cd H1 locs1 cells slots Q (F0 mm (pc + 1) als rest)) : W p l e Rm s mm args below meth cd H locs cells slots Q (F0 mm pc als (.null :: .int i :: .ref (sk_ad E a) :: rest)) := by
  obtain ⟨hx, hb, -, -, -, -, hKs, hX, hz, hEP⟩ := C
  have ha := a_ref_of hk.1
  have hc := I.arrR ha
  obtain ⟨g1, -⟩ := I.own (a := a) (by unfold sk_kd; omega)
  obtain ⟨t0, ci, r, h1, h2, h3⟩ := sk_tyR E ha
  refine va_WaastN (C := r.1) hx hb hc ((hKs.2 t0 _ h1).1 _ _) (fun h => by cases h) (by show ¬ (i < 0 ∨ (arrV _ _ _).slots.size ≤ _); rw [arrV_size]; exact hk.2) rfl rfl hd fun H1 e z oq => ?_
  exact kk H1 _ (I.stR (v := none) ha e z oq) (hS.put z oq (by rw [sk_ad_own g1]; exact Nat.le_add_right _ _))
end SkWrite
