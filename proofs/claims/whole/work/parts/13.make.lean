/-! ===== fields written, cells made ===== -/
section SkMake
variable {p : Program} {l : Launch} {e : Env} {Rm : Room} {s : State} {mm : MethodId} {args : Array Value} {below : List Frame} {meth : Method} {cd : Code} {Q : State → Prop} {E : sk_En} {m n0 s0 : Nat}
variable {ls : sk_Ls} {h : sk_H} {H : Heap} {locs : List Loc} {cells slots : Nat} {als : Array Slot} {pc : Nat} {rest : List Value}
/-- a field of ours takes a value that fits -/
theorem sm_put (C : sk_Cx E m p s mm args meth cd) (I : sk_Rep E h H) {a idx k fi tag : Nat} {v : Value} (hok : ok_fld m idx k fi tag = true) (hfin : ok_fin m k fi = true) (hk : hK h a = k) (hv : ∀ ty, tg_ok tag ty = true → narrow ty v = v ∧ fits ty v = true) (hS : va_S (sk_A0 E) s.heap H locs) (hd : decode (sk_b m) pc = .ok (.putfield idx, 3))
    (h' : sk_H) (hn' : hn h' = hn h) (hK' : hK h' a = hK h a) (hs : ∀ b, b ≠ a → sk_same h h' b) (hg : ∀ j, sv E (f_get h' a j (sk_tag k j)) = if j = fi then v else sv E (f_get h a j (sk_tag k j)))
    (kk : ∀ H1 locs1, sk_Rep E h' H1 → va_S (sk_A0 E) s.heap H1 locs1 → W p l e Rm s mm args below meth cd H1 locs1 cells slots Q (F0 mm (pc + 3) als rest)) : W p l e Rm s mm args below meth cd H locs cells slots Q (F0 mm pc als (v :: .ref (sk_ad E a) :: rest)) := by
  obtain ⟨hx, hb, -, hown, hts, hnm, hKs, hX, hz, hEP⟩ := C
  subst hk
  unfold ok_fld at hok
  split at hok
  · rename_i Cn T N hcl
    simp only [Bool.and_eq_true, decide_eq_true_eq] at hok
    obtain ⟨⟨⟨hk1, hk2, hfi⟩, htag⟩, hw⟩ := hok
    obtain ⟨r, hr, cell, q1, q2, q3, q4⟩ := I.obj ⟨hk1, hk2⟩
    cases hr.symm.trans hcl
    obtain ⟨hin, hty, hnms, htg⟩ := sk_cl_ok _ _ hcl
    have hap := va_apart (own := (sk_y m).cls) (D := E.2.2.1) (cl := vwCl) hts hin _ hty hnms hKs hcl
    obtain ⟨hSl, hfc, kC, hkC, hkind⟩ := hKs.1 _ _ hcl
    obtain ⟨cf, kf, fi', f, hi, hsl⟩ := hSl fi hfi
    have htag' : sk_tag (hK h a) fi = tag := by
      unfold sk_tag
      rw [List.getD_eq_getElem?_getD, htag]
      rfl
    have htg' : tg_ok tag (vwTy (hK h a - 1) fi) = true := by
      have := htg fi hfi
      rw [List.getD_eq_getElem?_getD, htag] at this
      exact this
    obtain ⟨hnar, hfit⟩ := hv _ htg'
    obtain ⟨g1, g2⟩ := I.own (a := a) (Or.inl ⟨hk1, hk2⟩)
    have hst := (u_facts hfc hkC (u_lays hts hin hfi) hi).1
    have fin : ∀ H1, H1[sk_ad E a]? = some (cell.setSlot (E.2.2.1.2 (hK h a - 1) fi) v) → H1.size = H.size → (∀ q, q ≠ sk_ad E a → H1[q]? = H[q]?) → sk_Rep E h' H1 := by
      intro H1 e1 e2 e3
      refine I.put g1 g2 hn' hK' hs e2 e3 ⟨fun hk3 => by rw [hK'] at hk3; omega, fun hk3 => ?_⟩
      rw [hK']
      refine ⟨_, hcl, t_OB.to (V := updV (fun j => sv E (f_get h a j (sk_tag (hK h a) j))) fi v) ⟨_, e1, q2, q3, t_set q4 hap hfi v⟩ (fun j _ => ?_)⟩
      rw [hg j]
      rfl
    by_cases hf : (T fi).2.2.2 = true
    · unfold ok_fin at hfin
      rw [hcl] at hfin
      simp only [hf, Bool.not_true, Bool.false_or, Bool.and_eq_true, decide_eq_true_eq] at hfin
      obtain ⟨hnm1, hdecl⟩ := hfin
      have hlay := hts _ (hin _ (u_in_lay hfi))
      unfold u_lay at hlay
      rw [if_pos hf] at hlay
      have hcf : mm.cls = cf := by
        obtain ⟨_, _, c', _, _, _, -, -, hf', -, -, -, hown2, -⟩ := Cond.laysFinal_spec hlay
        have e1 : c' = cf := by have := hi.symm.trans hf'; simp at this; exact this.1.symm
        have hdecl' : (T fi).1 = (sk_y m).cls := hdecl
        rw [hdecl'] at hown2
        rw [← e1]; exact Option.some.inj (hown.symm.trans hown2)
      have h6 := u_fits hfc hkC hkind (Or.inr hlay) hi (hty fi hfi) hnar hfit
      refine W.putFinK hx hb hown (hts _ (ok_w_mem hw)) hi hst hcf (hnm hnm1) (by rw [q2]; exact h6) q1 q3 (by rw [hsl]; exact k2_hasslot (q4 fi hfi)) rfl rfl hd fun H1 e1 e2 e3 => ?_
      rw [hsl] at e1 ⊢
      exact kk H1 _ (fin H1 e1 e2 e3) (hS.put e2 e3 (by rw [sk_ad_own g1]; exact Nat.le_add_right _ _))
    · have hlay := hts _ (hin _ (u_in_lay hfi))
      unfold u_lay at hlay
      rw [if_neg hf] at hlay
      have h6 := u_store hfc hkC hkind hlay hi (hty fi hfi) hnar hfit
      refine W.putK hx hb (f := f) ⟨hown, hts _ (ok_w_mem hw), ⟨_, _, _, hi⟩, hst⟩ (by rw [q2]; exact h6) q1 q3 (by rw [hsl]; exact k2_hasslot (q4 fi hfi)) rfl rfl hd fun H1 e1 e2 e3 => ?_
      rw [hsl] at e1 ⊢
      exact kk H1 _ (fin H1 e1 e2 e3) (hS.put e2 e3 (by rw [sk_ad_own g1]; exact Nat.le_add_right _ _))
  · cases hok
theorem ok_fld_tag {idx k fi tag : Nat} (hok : ok_fld m idx k fi tag = true) : sk_tag k fi = tag := by
  unfold ok_fld at hok
  split at hok
  · simp only [Bool.and_eq_true, decide_eq_true_eq] at hok
    unfold sk_tag
    rw [List.getD_eq_getElem?_getD, hok.1.2]
    rfl
  · cases hok
theorem fg_wI (h : sk_H) (a fi : Nat) (x : Int32) (j t : Nat) (ht : t ≠ 1 ∧ t ≠ 2) : f_get (wI h a fi x) a j t = if j = fi then .inl x else f_get h a j t := by
  match t, ht with
  | 0, _ =>
    show (Sum.inl (hI (wI h a fi x) a j) : sk_V) = _
    rw [hI_wI_s]
    by_cases hj : j = fi
    · simp [va_up, hj]
    · simp [va_up, hj, f_get]
  | 1, q => exact absurd rfl q.1
  | 2, q => exact absurd rfl q.2
  | t + 3, _ =>
    show (Sum.inl (hI (wI h a fi x) a j) : sk_V) = _
    rw [hI_wI_s]
    by_cases hj : j = fi
    · simp [va_up, hj]
    · simp [va_up, hj, f_get]
theorem fg_wI' (h : sk_H) (a fi : Nat) (x : Int32) (j t : Nat) (ht : t = 1 ∨ t = 2) : f_get (wI h a fi x) a j t = f_get h a j t := by
  rcases ht with rfl | rfl <;> rfl
theorem fg_wJ (h : sk_H) (a fi : Nat) (x : Int64) (j : Nat) : f_get (wJ h a fi x) a j 1 = if j = fi then .inr (.inl x) else f_get h a j 1 := by
  show (Sum.inr (Sum.inl (hJ (wJ h a fi x) a j)) : sk_V) = _
  rw [hJ_wJ_s]
  by_cases hj : j = fi
  · simp [va_up, hj]
  · simp [va_up, hj, f_get]
theorem fg_wJ' (h : sk_H) (a fi : Nat) (x : Int64) (j t : Nat) (ht : t ≠ 1) : f_get (wJ h a fi x) a j t = f_get h a j t := by
  match t, ht with
  | 0, _ => rfl
  | 1, q => exact absurd rfl q
  | 2, _ => rfl
  | t + 3, _ => rfl
theorem fg_wR (h : sk_H) (a fi : Nat) (x : Option Nat) (j : Nat) : f_get (wR h a fi x) a j 2 = if j = fi then .inr (.inr x) else f_get h a j 2 := by
  show (Sum.inr (Sum.inr (hR (wR h a fi x) a j)) : sk_V) = _
  rw [hR_wR_s]
  by_cases hj : j = fi
  · simp [va_up, hj]
  · simp [va_up, hj, f_get]
theorem fg_wR' (h : sk_H) (a fi : Nat) (x : Option Nat) (j t : Nat) (ht : t ≠ 2) : f_get (wR h a fi x) a j t = f_get h a j t := by
  match t, ht with
  | 0, _ => rfl
  | 1, _ => rfl
  | 2, q => exact absurd rfl q
  | t + 3, _ => rfl
theorem sm_putI (C : sk_Cx E m p s mm args meth cd) (I : sk_Rep E h H) {a idx k fi tag : Nat} {v : Int32} (hok : ok_fld m idx k fi tag = true) (hfin : ok_fin m k fi = true) (hk : hK h a = k) (ht : tag = 0 ∨ (tag ≠ 1 ∧ tag ≠ 2 ∧ (v = 0 ∨ v = 1))) (hS : va_S (sk_A0 E) s.heap H locs) (hd : decode (sk_b m) pc = .ok (.putfield idx, 3))
    (kk : ∀ H1 locs1, sk_Rep E (wI h a fi v) H1 → va_S (sk_A0 E) s.heap H1 locs1 → W p l e Rm s mm args below meth cd H1 locs1 cells slots Q (F0 mm (pc + 3) als rest)) : W p l e Rm s mm args below meth cd H locs cells slots Q (F0 mm pc als (.int v :: .ref (sk_ad E a) :: rest)) := by
  have htag := ok_fld_tag hok
  refine sm_put C I hok hfin hk (fun ty hty => ?_) hS hd (wI h a fi v) rfl rfl (same_wI h a fi v) (fun j => ?_) kk
  · rcases ht with rfl | ⟨t1, t2, hv⟩
    · cases ty <;> simp [tg_ok] at hty
      exact ⟨rfl, rfl⟩
    · match tag, ty, hty with
      | 0, .int, _ => exact ⟨rfl, rfl⟩
      | 3, .boolean, _ => rcases hv with rfl | rfl <;> exact ⟨by decide, by decide⟩
      | 1, .long, _ => exact absurd rfl t1
      | 2, .object _, _ => exact absurd rfl t2
      | 2, .array _, _ => exact absurd rfl t2
  · by_cases hj : j = fi
    · subst hj
      rw [htag, fg_wI _ _ _ _ _ _ (by rcases ht with rfl | ⟨t1, t2, -⟩ <;> omega), if_pos rfl, if_pos rfl]
      rfl
    · rw [if_neg hj]
      by_cases htj : sk_tag k j = 1 ∨ sk_tag k j = 2
      · rw [fg_wI' _ _ _ _ _ _ htj]
      · rw [fg_wI _ _ _ _ _ _ (by omega), if_neg hj]
theorem sm_putJ (C : sk_Cx E m p s mm args meth cd) (I : sk_Rep E h H) {a idx k fi : Nat} {v : Int64} (hok : ok_fld m idx k fi 1 = true) (hfin : ok_fin m k fi = true) (hk : hK h a = k) (hS : va_S (sk_A0 E) s.heap H locs) (hd : decode (sk_b m) pc = .ok (.putfield idx, 3))
    (kk : ∀ H1 locs1, sk_Rep E (wJ h a fi v) H1 → va_S (sk_A0 E) s.heap H1 locs1 → W p l e Rm s mm args below meth cd H1 locs1 cells slots Q (F0 mm (pc + 3) als rest)) : W p l e Rm s mm args below meth cd H locs cells slots Q (F0 mm pc als (.long v :: .ref (sk_ad E a) :: rest)) := by
  have htag := ok_fld_tag hok
  refine sm_put C I hok hfin hk (fun ty hty => ?_) hS hd (wJ h a fi v) rfl rfl (same_wJ h a fi v) (fun j => ?_) kk
  · cases ty <;> simp [tg_ok] at hty
    exact ⟨rfl, rfl⟩
  · by_cases hj : j = fi
    · subst hj
      rw [htag, fg_wJ, if_pos rfl, if_pos rfl]
      rfl
    · rw [if_neg hj]
      by_cases htj : sk_tag k j = 1
      · rw [htj, fg_wJ, if_neg hj]
      · rw [fg_wJ' _ _ _ _ _ _ htj]
theorem sm_putR (C : sk_Cx E m p s mm args meth cd) (I : sk_Rep E h H) {a idx k fi : Nat} {v : Option Nat} (hok : ok_fld m idx k fi 2 = true) (hfin : ok_fin m k fi = true) (hk : hK h a = k) (hS : va_S (sk_A0 E) s.heap H locs) (hd : decode (sk_b m) pc = .ok (.putfield idx, 3))
    (kk : ∀ H1 locs1, sk_Rep E (wR h a fi v) H1 → va_S (sk_A0 E) s.heap H1 locs1 → W p l e Rm s mm args below meth cd H1 locs1 cells slots Q (F0 mm (pc + 3) als rest)) : W p l e Rm s mm args below meth cd H locs cells slots Q (F0 mm pc als (va_rf (v.map (sk_ad E)) :: .ref (sk_ad E a) :: rest)) := by
  have htag := ok_fld_tag hok
  refine sm_put C I hok hfin hk (fun ty hty => ?_) hS hd (wR h a fi v) rfl rfl (same_wR h a fi v) (fun j => ?_) kk
  · cases ty <;> simp [tg_ok] at hty
    · cases v <;> exact ⟨rfl, rfl⟩
    · cases v <;> exact ⟨rfl, rfl⟩
  · by_cases hj : j = fi
    · subst hj
      rw [htag, fg_wR, if_pos rfl, if_pos rfl]
      rfl
    · rw [if_neg hj]
      by_cases htj : sk_tag k j = 2
      · rw [htj, fg_wR, if_neg hj]
      · rw [fg_wR' _ _ _ _ _ _ htj]
theorem sm_new (C : sk_Cx E m p s mm args meth cd) (I : sk_Rep E h H) {idx k n : Nat} (hok : ok_new m idx k n = true) (hS : va_S (sk_A0 E) s.heap H locs) (hc : cells + 1 ≤ Rm.cells) (hs : slots + n ≤ Rm.slots) (hd : decode (sk_b m) pc = .ok (.new idx, 3))
    (kk : ∀ H1, sk_Rep E (hnew h k n) H1 → va_S (sk_A0 E) s.heap H1 locs → W p l e Rm s mm args below meth cd H1 locs (cells + 1) (slots + n) Q (F0 mm (pc + 3) als (.ref (sk_ad E (hn h)) :: rest))) : W p l e Rm s mm args below meth cd H locs cells slots Q (F0 mm pc als rest) := by
  obtain ⟨hx, hb, -, hown, hts, hnm, hKs, hX, hz, hEP⟩ := C
  unfold ok_new at hok
  split at hok
  · rename_i Cn T N hcl
    simp only [Bool.and_eq_true, decide_eq_true_eq] at hok
    obtain ⟨⟨hk1, hk2, rfl⟩, w1⟩ := hok
    obtain ⟨w2, w3⟩ := sk_cl_mk _ _ hcl
    obtain ⟨hin, hty, hnms, htg⟩ := sk_cl_ok _ _ hcl
    have hKn := hKs.1 _ _ hcl
    have hsz : H.size = sk_ad E (hn h) := by rw [sk_ad_own I.1, I.2.1]
    refine W.newcK hx hb hown (hts _ (ok_w_mem w1)) (hts _ w2) (hts _ w3) rfl hd hc hs hKn.2.1 hsz fun H1 kC hkC e1 z1 o1 => ?_
    refine kk H1 (I.push (Or.inl ⟨hk1, hk2⟩) (by omega) (fun q hq => o1 q (by omega)) ?_) ⟨Nat.le_trans hS.1 (by omega), fun x h1 h2 => (o1 x (by have := hS.1; omega)).trans (hS.2.1 x h1 h2), hS.2.2⟩
    have hkn : hK (hnew h k n) (hn h) = k := by simp [hK, hnew, va_up, hn]
    refine ⟨fun hk3 => by omega, fun _ => ?_⟩
    rw [hkn]
    refine ⟨_, hcl, (u_born _ hts hin hKn hkC e1 hty).to (fun j hj => ?_)⟩
    have ht := htg j hj
    have hi0 : hI (hnew h k n) (hn h) j = 0 := by simp [hI, hnew, va_up, hn]
    have hj0 : hJ (hnew h k n) (hn h) j = 0 := by simp [hJ, hnew, va_up, hn]
    have hr0 : hR (hnew h k n) (hn h) j = none := by simp [hR, hnew, va_up, hn]
    unfold sk_tag
    revert ht
    generalize (sk_ft (k - 1)).getD j 0 = tag
    generalize vwTy (k - 1) j = ty
    intro ht
    match tag, ty, ht with
    | 0, .int, _ => show Value.int 0 = Value.int (hI _ _ _); rw [hi0]
    | 3, .boolean, _ => show Value.int 0 = Value.int (hI _ _ _); rw [hi0]
    | 1, .long, _ => show Value.long 0 = Value.long (hJ _ _ _); rw [hj0]
    | 2, .object _, _ => show Value.null = va_rf ((hR _ _ _).map _); rw [hr0]; rfl
    | 2, .array _, _ => show Value.null = va_rf ((hR _ _ _).map _); rw [hr0]; rfl
  · cases hok
theorem n_kind_of {t : ArrayType} (h : n_kind t ≠ 0) : ∃ i : Nat, (sk_tys E)[i]? = some (E.2.2.2.1 (n_kind t), newarray.typeOf t) ∧ (Cond.arrayClass (newarray.typeOf t)) ∈ sk_wds ∧ 101 ≤ n_kind t ∧ n_kind t ≤ 105 ∧ componentBytes (newarray.typeOf t) ≤ 8 := by
  cases t <;> first | exact absurd rfl h | exact ⟨0, rfl, by decide +kernel, by decide, by decide, by decide⟩ | exact ⟨1, rfl, by decide +kernel, by decide, by decide, by decide⟩ | exact ⟨2, rfl, by decide +kernel, by decide, by decide, by decide⟩ | exact ⟨3, rfl, by decide +kernel, by decide, by decide, by decide⟩ | exact ⟨4, rfl, by decide +kernel, by decide, by decide, by decide⟩
theorem sm_newa (C : sk_Cx E m p s mm args meth cd) (I : sk_Rep E h H) {t : ArrayType} {n : Int32} (hok : n_kind t ≠ 0) (hn0 : ¬ n < 0 ∧ n.toNatClampNeg ≤ 60000) (hS : va_S (sk_A0 E) s.heap H locs) (hc : cells + 1 ≤ Rm.cells) (hs : slots + n.toNatClampNeg ≤ Rm.slots) (hd : decode (sk_b m) pc = .ok (.newarray t, 2))
    (kk : ∀ H1, sk_Rep E (hnew h (n_kind t) n.toNatClampNeg) H1 → va_S (sk_A0 E) s.heap H1 locs → W p l e Rm s mm args below meth cd H1 locs (cells + 1) (slots + n.toNatClampNeg) Q (F0 mm (pc + 2) als (.ref (sk_ad E (hn h)) :: rest))) : W p l e Rm s mm args below meth cd H locs cells slots Q (F0 mm pc als (.int n :: rest)) := by
  obtain ⟨hx, hb, -, hown, hts, hnm, hKs, hX, hz, hEP⟩ := C
  obtain ⟨i0, ht, hw, k1, k2, hcb⟩ := n_kind_of (E := E) hok
  have hsz : H.size = sk_ad E (hn h) := by rw [sk_ad_own I.1, I.2.1]
  refine va_newaK hx hb (hts _ hw) rfl hd rfl hn0.1 rfl (by have := Nat.mul_le_mul hn0.2 hcb; omega) hc hs hsz fun H1 cA e1 z1 o1 hAr hNm => ?_
  refine kk H1 (I.push (Or.inr ⟨by omega, by omega⟩) (by omega) (fun q hq => o1 q (by omega)) ?_) ⟨Nat.le_trans hS.1 (by omega), fun x h1 h2 => (o1 x (by have := hS.1; omega)).trans (hS.2.1 x h1 h2), hS.2.2⟩
  have hcA : cA = E.2.2.2.1 (n_kind t) := by
    have h1 := (hKs.2 i0 _ ht).2
    have h2 : s.vm.findClass ("[" ++ (newarray.typeOf t).toString) = some (E.2.2.2.1 (n_kind t)) := by
      cases t <;> exact h1
    exact Option.some.inj (hNm.symm.trans h2)
  have hkn : hK (hnew h (n_kind t) n.toNatClampNeg) (hn h) = n_kind t := by simp [hK, hnew, va_up, hn]
  have hNn : hN (hnew h (n_kind t) n.toNatClampNeg) (hn h) = n.toNatClampNeg := by simp [hN, hnew, va_up, hn]
  have hi0 : hI (hnew h (n_kind t) n.toNatClampNeg) (hn h) = fun _ => 0 := by simp [hI, hnew, va_up, hn]
  have hj0 : hJ (hnew h (n_kind t) n.toNatClampNeg) (hn h) = fun _ => 0 := by simp [hJ, hnew, va_up, hn]
  refine ⟨fun _ => ?_, fun hk3 => by omega⟩
  rw [e1, hkn, hcA]
  unfold sk_arr
  rw [hkn, hNn, hi0, hj0]
  cases t <;> first | exact absurd rfl hok | rfl
theorem sm_newq (C : sk_Cx E m p s mm args meth cd) (I : sk_Rep E h H) {k idx : Nat} {n : Int32} (hok : ((decide (k = 106) && ok_w m (.classLink (sk_y m).cls idx "SkittleRow$Rule")) || (decide (k = 107) && ok_w m (.classLink (sk_y m).cls idx "SkittleRow$State")) || (decide (k = 108) && ok_w m (.classLink (sk_y m).cls idx "SkittleRow$Stroke"))) = true) (hn0 : ¬ n < 0 ∧ n.toNatClampNeg ≤ 60000) (hS : va_S (sk_A0 E) s.heap H locs) (hc : cells + 1 ≤ Rm.cells) (hs : slots + n.toNatClampNeg ≤ Rm.slots) (hd : decode (sk_b m) pc = .ok (.anewarray idx, 3))
    (kk : ∀ H1, sk_Rep E (hnew h k n.toNatClampNeg) H1 → va_S (sk_A0 E) s.heap H1 locs → W p l e Rm s mm args below meth cd H1 locs (cells + 1) (slots + n.toNatClampNeg) Q (F0 mm (pc + 3) als (.ref (sk_ad E (hn h)) :: rest))) : W p l e Rm s mm args below meth cd H locs cells slots Q (F0 mm pc als (.int n :: rest)) := by
  obtain ⟨hx, hb, -, hown, hts, hnm, hKs, hX, hz, hEP⟩ := C
  have key : ∃ (Cn : String) (i0 : Nat), (Cond.classLink (sk_y m).cls idx Cn) ∈ sk_wds ∧ va_AO Cn s ∧ (sk_tys E)[i0]? = some (E.2.2.2.1 k, .object Cn) ∧ 106 ≤ k ∧ k ≤ 108 := by
    simp only [Bool.or_eq_true, Bool.and_eq_true, decide_eq_true_eq] at hok
    rcases hok with (⟨rfl, hw⟩ | ⟨rfl, hw⟩) | ⟨rfl, hw⟩
    · exact ⟨_, 5, ok_w_mem hw, hX.2.2.2.2.2.2.2.2.2.2.2.1, rfl, by decide, by decide⟩
    · exact ⟨_, 6, ok_w_mem hw, hX.2.2.2.2.2.2.2.2.2.2.2.2.1, rfl, by decide, by decide⟩
    · exact ⟨_, 7, ok_w_mem hw, hX.2.2.2.2.2.2.2.2.2.2.2.2.2.1, rfl, by decide, by decide⟩
  obtain ⟨Cn, i0, w1, w2, ht, k1, k2⟩ := key
  have hsz : H.size = sk_ad E (hn h) := by rw [sk_ad_own I.1, I.2.1]
  refine W.anew hx hb hown (hts _ w1) (va_AO.use w2) rfl hd rfl hn0.1 (by omega) hc hs fun cA kA comp f1 f2 f3 f4 => ?_
  rw [hsz]
  have hcA : cA = E.2.2.2.1 k := by
    obtain ⟨_, _, _, _, _, h4⟩ := (hKs.2 i0 _ ht).2
    exact Option.some.inj (f1.symm.trans h4)
  have z1 : (H.push ({ cls := cA, slots := Array.replicate n.toNatClampNeg .null, vm := .none } : Cell)).size = H.size + 1 := Array.size_push _
  have o1 : ∀ q : Nat, q < H.size → (H.push ({ cls := cA, slots := Array.replicate n.toNatClampNeg .null, vm := .none } : Cell))[q]? = H[q]? := fun q hq => by rw [Array.getElem?_push, if_neg (Nat.ne_of_lt hq)]
  refine kk _ (I.push (Or.inr ⟨by omega, by omega⟩) z1 o1 ?_) ⟨Nat.le_trans hS.1 (by omega), fun x h1 h2 => (o1 x (by have := hS.1; omega)).trans (hS.2.1 x h1 h2), hS.2.2⟩
  have hkn : hK (hnew h k n.toNatClampNeg) (hn h) = k := by simp [hK, hnew, va_up, hn]
  have hNn : hN (hnew h k n.toNatClampNeg) (hn h) = n.toNatClampNeg := by simp [hN, hnew, va_up, hn]
  have hr0 : hR (hnew h k n.toNatClampNeg) (hn h) = fun _ => none := by simp [hR, hnew, va_up, hn]
  refine ⟨fun _ => ?_, fun hk3 => by omega⟩
  unfold sk_arr
  rw [hkn, hNn, hr0, if_neg (by omega), if_pos k1, vp_cell_q, ← hsz, Array.getElem?_push_size, arrV_new, hcA]
  rfl
end SkMake
