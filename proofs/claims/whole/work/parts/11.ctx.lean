/-! ===== a method's walk, tied to the evaluator: what holds at its entry, what holds all along ===== -/
def sk_tys (E : sk_En) : List (ClassId × FieldType) := [(E.2.2.2.1 101, .int), (E.2.2.2.1 102, .long), (E.2.2.2.1 103, .boolean), (E.2.2.2.1 104, .byte), (E.2.2.2.1 105, .char), (E.2.2.2.1 106, .object "SkittleRow$Rule"), (E.2.2.2.1 107, .object "SkittleRow$State"), (E.2.2.2.1 108, .object "SkittleRow$Stroke")]
/-- the outside, in a state -/
def sk_XF (E : sk_En) (U : State) (H : Heap) : Prop :=
  va_T .long (E.2.1 1) 5 (fun j => .long (sk_laws.getD j 0)) (sk_A0 E) U H ∧
  va_Z "SkittleRow" "LAWS_THAT_HIT" "[J" (.ref (E.2.1 1)) (sk_A0 E) U H ∧
  vk_S 7 (sk_str.map (fun q => q.2.2.2.1)) (sk_str.map (fun q => q.2.2.2.2)) (fun i => E.2.1 (2 + i)) (fun i => E.2.1 (9 + i)) (sk_A0 E) U H ∧
  (∀ i q, sk_str[i]? = some q → vk_R q.1 q.2.1 q.2.2.1 (E.2.1 (2 + i)) U) ∧
  va_Z "java/lang/String" "COMPACT_STRINGS" "Z" (.int 1) (sk_A0 E) U H ∧
  va_Z "java/lang/StringUTF16" "$assertionsDisabled" "Z" (.int 1) (sk_A0 E) U H ∧
  va_Z "java/lang/StringUTF16" "HI_BYTE_SHIFT" "I" (.int 0) (sk_A0 E) U H ∧
  va_Z "java/lang/StringUTF16" "LO_BYTE_SHIFT" "I" (.int 8) (sk_A0 E) U H ∧
  va_Z "jdk/internal/util/Preconditions" "SIOOBE_FORMATTER" "Ljava/util/function/BiFunction;" (va_rf ((hR E.2.2.2.2 0 2).map (sk_ad E))) (sk_A0 E) U H ∧
  va_X (E.2.1 16) (hN E.2.2.2.2 16) (hI E.2.2.2.2 16) U H ∧ E.2.1 16 < E.1 ∧
  va_AO "SkittleRow$Rule" U ∧ va_AO "SkittleRow$State" U ∧ va_AO "SkittleRow$Stroke" U ∧ va_Nw (.fieldLinkNest sk_nst.1 sk_nst.2 "SkittleRow" "LAWS_THAT_HIT" "[J" "SkittleRow") U
/-- the memory of the outside -/
def sk_EP (E : sk_En) : Prop :=
  hN E.2.2.2.2 1 = 5 ∧ (hJ E.2.2.2.2 1 = fun j => sk_laws.getD j 0) ∧
  ∀ i, i < 7 → hI E.2.2.2.2 (2 + i) 1 = 0 ∧ hR E.2.2.2.2 (2 + i) 0 = some (9 + i) ∧ hN E.2.2.2.2 (9 + i) = (sk_str.map (fun q => q.2.2.2.1)).getD i 0 ∧ hI E.2.2.2.2 (9 + i) = fun j => ((sk_str.map (fun q => q.2.2.2.2)).getD i []).getD j 0
theorem sk_XF.moved {E : sk_En} {s U : State} {H H1 : Heap} (hW : s.WarmedH U.vm) (hq : ∀ a : Nat, a < H.size → ¬ sk_A0 E a → H1[a]? = H[a]?) (hz : E.1 ≤ H.size) (h : sk_XF E s H) : sk_XF E U H1 := by
  obtain ⟨h1, h2, h3, h4, h5, h6, h7, h8, h9, h10, h11, h12, h13, h14, h15⟩ := h
  have hA := hW.alike
  refine ⟨(h1.kept hq).moved hA, (h2.kept hq).moved hA, (h3.kept hq).moved hA, fun i q hi => (h4 i q hi).warm hW, (h5.kept hq).moved hA, (h6.kept hq).moved hA, (h7.kept hq).moved hA, (h8.kept hq).moved hA, (h9.kept hq).moved hA, (h10.kept (hq _ (by omega) (by unfold sk_A0; omega))).moved hA, h11, h12.moved hA, h13.moved hA, h14.moved hA, h15.warmF hW⟩
theorem sk_XF.blind {E : sk_En} {U V : State} {H : Heap} (hv : V.vm = U.vm) (h : sk_XF E U H) : sk_XF E V H := by
  obtain ⟨h1, h2, h3, h4, h5, h6, h7, h8, h9, h10, h11, h12, h13, h14, h15⟩ := h
  have hA : U.vm.Alike V.vm := by rw [hv]; exact Vm.Alike.refl U.vm
  exact ⟨h1.moved hA, h2.moved hA, h3.moved hA, fun i q hi => (h4 i q hi).same hv, h5.moved hA, h6.moved hA, h7.moved hA, h8.moved hA, h9.moved hA, h10.moved hA, h11, h12.moved hA, h13.moved hA, h14.moved hA, h15.same rfl hv.symm⟩
def sk_Cx (E : sk_En) (m : Nat) (p : Program) (s : State) (mm : MethodId) (args : Array Value) (meth : Method) (cd : Code) : Prop :=
  p.tables.exec = Jvm.exec ∧ cd.code = sk_b m ∧ cd.maxLocals = sk_ml m ∧ s.vm.findClass (sk_y m).cls = some mm.cls ∧ (∀ w ∈ sk_wds, w.before args s = true) ∧ ((sk_y m).name = "<init>" → meth.name = "<init>") ∧ va_K E.2.2.1 vwCl (sk_tys E) s ∧ sk_XF E s s.heap ∧ E.1 ≤ s.heap.size ∧ sk_EP E
def sk_Iv (E : sk_En) (m n0 s0 : Nat) (s : State) (ls : sk_Ls) (h : sk_H) (H : Heap) (locs : List Loc) (cells slots : Nat) (als : Array Slot) : Prop :=
  sk_Rep E h H ∧ va_S (sk_A0 E) s.heap H locs ∧ hn h = n0 + cells ∧ hs h = s0 + slots ∧ sk_has E als (sk_ml m) ls
/-! the tables' words -/
def tg_ok (t : Nat) (ty : FieldType) : Bool := match t, ty with
  | 0, .int => true
  | 3, .boolean => true
  | 1, .long => true
  | 2, .object _ => true
  | 2, .array _ => true
  | _, _ => false
theorem sk_cl_ok : ∀ (ci : Nat) (r : vw_C), vwCl[ci]? = some r → (∀ w ∈ u_ws r.1 r.2.1 r.2.2, w ∈ sk_wds) ∧ (∀ k, k < r.2.2 → parseFieldDescriptor (r.2.1 k).2.2.1 = some (vwTy ci k)) ∧ (∀ a, a < r.2.2 → ∀ b, b < r.2.2 → a ≠ b → (r.2.1 a).2.1 ≠ (r.2.1 b).2.1) ∧ ∀ k, k < r.2.2 → tg_ok ((sk_ft ci).getD k 0) (vwTy ci k) = true
  | 0, r, h => by cases h; exact ⟨inX0, tyX0_ok, nmX0, by decide +kernel⟩
  | 1, r, h => by cases h; exact ⟨inX1, tyX1_ok, nmX1, by decide +kernel⟩
  | 2, r, h => by cases h; exact ⟨inX2, tyX2_ok, nmX2, by decide +kernel⟩
  | 3, r, h => by cases h; exact ⟨inX3, tyX3_ok, nmX3, by decide +kernel⟩
  | 4, r, h => by cases h; exact ⟨inX4, tyX4_ok, nmX4, by decide +kernel⟩
  | 5, r, h => by cases h; exact ⟨inX5, tyX5_ok, nmX5, by decide +kernel⟩
  | 6, r, h => by cases h; exact ⟨inX6, tyX6_ok, nmX6, by decide +kernel⟩
  | 7, r, h => by cases h; exact ⟨inX7, tyX7_ok, nmX7, by decide +kernel⟩
  | 8, r, h => by cases h; exact ⟨inX8, tyX8_ok, nmX8, by decide +kernel⟩
  | 9, r, h => by cases h; exact ⟨inX9, tyX9_ok, nmX9, by decide +kernel⟩
  | 10, r, h => by cases h; exact ⟨inX10, tyX10_ok, nmX10, by decide +kernel⟩
  | 11, r, h => by cases h; exact ⟨inX11, tyX11_ok, nmX11, by decide +kernel⟩
  | 12, r, h => by cases h; exact ⟨inX12, tyX12_ok, nmX12, by decide +kernel⟩
  | k + 13, r, h => by simp [vwCl] at h
theorem ok_w_mem {m : Nat} {w : Cond} (h : ok_w m w = true) : w ∈ sk_wds := sk_wl_in _ _ (of_decide_eq_true h)
theorem sk_cl_mk : ∀ (ci : Nat) (r : vw_C), vwCl[ci]? = some r → Cond.instantiable r.1 r.2.2 ∈ sk_wds ∧ Cond.initialized r.1 ∈ sk_wds
  | 0, r, h => by cases h; exact ⟨mkX0 _ List.mem_cons_self, mkX0 _ (List.mem_cons_of_mem _ List.mem_cons_self)⟩
  | 1, r, h => by cases h; exact ⟨mkX1 _ List.mem_cons_self, mkX1 _ (List.mem_cons_of_mem _ List.mem_cons_self)⟩
  | 2, r, h => by cases h; exact ⟨mkX2 _ List.mem_cons_self, mkX2 _ (List.mem_cons_of_mem _ List.mem_cons_self)⟩
  | 3, r, h => by cases h; exact ⟨mkX3 _ List.mem_cons_self, mkX3 _ (List.mem_cons_of_mem _ List.mem_cons_self)⟩
  | 4, r, h => by cases h; exact ⟨mkX4 _ List.mem_cons_self, mkX4 _ (List.mem_cons_of_mem _ List.mem_cons_self)⟩
  | 5, r, h => by cases h; exact ⟨mkX5 _ List.mem_cons_self, mkX5 _ (List.mem_cons_of_mem _ List.mem_cons_self)⟩
  | 6, r, h => by cases h; exact ⟨mkX6 _ List.mem_cons_self, mkX6 _ (List.mem_cons_of_mem _ List.mem_cons_self)⟩
  | 7, r, h => by cases h; exact ⟨mkX7 _ List.mem_cons_self, mkX7 _ (List.mem_cons_of_mem _ List.mem_cons_self)⟩
  | 8, r, h => by cases h; exact ⟨mkX8 _ List.mem_cons_self, mkX8 _ (List.mem_cons_of_mem _ List.mem_cons_self)⟩
  | 9, r, h => by cases h; exact ⟨mkX9 _ List.mem_cons_self, mkX9 _ (List.mem_cons_of_mem _ List.mem_cons_self)⟩
  | 10, r, h => by cases h; exact ⟨mkX10 _ List.mem_cons_self, mkX10 _ (List.mem_cons_of_mem _ List.mem_cons_self)⟩
  | 11, r, h => by cases h; exact ⟨mkX11 _ List.mem_cons_self, mkX11 _ (List.mem_cons_of_mem _ List.mem_cons_self)⟩
  | 12, r, h => by cases h; exact ⟨mkX12 _ List.mem_cons_self, mkX12 _ (List.mem_cons_of_mem _ List.mem_cons_self)⟩
  | k + 13, r, h => by simp [vwCl] at h
section SkHeap
variable {p : Program} {l : Launch} {e : Env} {Rm : Room} {s : State} {mm : MethodId} {args : Array Value} {below : List Frame} {meth : Method} {cd : Code} {Q : State → Prop} {E : sk_En} {m n0 s0 : Nat}
variable {ls : sk_Ls} {h : sk_H} {H : Heap} {locs : List Loc} {cells slots : Nat} {als : Array Slot} {pc : Nat} {rest : List Value}
theorem sk_Rep.arr (I : sk_Rep E h H) {a : Nat} (hk : 101 ≤ hK h a ∧ hK h a ≤ 108) : H[sk_ad E a]? = some (vp_cell (E.2.2.2.1 (hK h a)) (sk_arr E h a)) := by
  obtain ⟨h1, h2⟩ := I.own (a := a) (Or.inr hk)
  exact (I.2.2.1 a h1 h2).2.1 hk.1
theorem sk_Rep.arrI (I : sk_Rep E h H) {a k : Nat} (hk : hK h a = k) (h1 : k = 101 ∨ k = 103 ∨ k = 104 ∨ k = 105) : H[sk_ad E a]? = some (arrV (E.2.2.2.1 k) (hN h a) (fun j => .int (hI h a j))) := by
  have := I.arr (a := a) (by omega)
  unfold sk_arr at this
  rw [if_neg (by omega), if_neg (by omega), hk, vp_cell_i] at this
  exact this
theorem sk_Rep.arrJ (I : sk_Rep E h H) {a : Nat} (hk : hK h a = 102) : H[sk_ad E a]? = some (arrV (E.2.2.2.1 102) (hN h a) (fun j => .long (hJ h a j))) := by
  have := I.arr (a := a) (by omega)
  unfold sk_arr at this
  rw [if_pos hk, hk, vp_cell_l] at this
  exact this
theorem sk_Rep.arrR (I : sk_Rep E h H) {a : Nat} (hk : 106 ≤ hK h a ∧ hK h a ≤ 108) : H[sk_ad E a]? = some (arrV (E.2.2.2.1 (hK h a)) (hN h a) (fun j => va_rf ((hR h a j).map (sk_ad E)))) := by
  have := I.arr (a := a) (by omega)
  unfold sk_arr at this
  rw [if_neg (by omega), if_pos hk.1, vp_cell_q] at this
  exact this
/-- a row's length -/
theorem sk_Rep.obj (I : sk_Rep E h H) {a : Nat} (hk : 1 ≤ hK h a ∧ hK h a ≤ 13) : ∃ r : vw_C, vwCl[hK h a - 1]? = some r ∧ t_OB (sk_ad E a) (E.2.2.1.1 (hK h a - 1)) r.2.2 (E.2.2.1.2 (hK h a - 1)) H (fun j => sv E (f_get h a j (sk_tag (hK h a) j))) := by
  obtain ⟨h1, h2⟩ := I.own (a := a) (Or.inl hk)
  exact (I.2.2.1 a h1 h2).2.2 hk.2
theorem sm_len (C : sk_Cx E m p s mm args meth cd) (I : sk_Rep E h H) {a : Nat} (hk : a_any (hK h a) = true) (hS : va_S (sk_A0 E) s.heap H locs) (hd : decode (sk_b m) pc = .ok (.arraylength, 1))
    (kk : W p l e Rm s mm args below meth cd H locs cells slots Q (F0 mm (pc + 1) als (.int (Int32.ofNat (hN h a)) :: rest))) : W p l e Rm s mm args below meth cd H locs cells slots Q (F0 mm pc als (.ref (sk_ad E a) :: rest)) := by
  obtain ⟨hx, hb, -, -, -, -, hKs, hX, hz, hEP⟩ := C
  have hk2 : (101 ≤ hK h a ∧ hK h a ≤ 108) ∨ hK h a = 201 ∨ hK h a = 202 ∨ hK h a = 204 := by
    unfold a_any at hk
    simp only [Bool.or_eq_true, Bool.and_eq_true, Nat.ble_eq, beq_iff_eq] at hk
    omega
  rcases hk2 with hk2 | hk2
  · have hc := I.arr hk2
    have ht : ∃ (t0 : Nat) (ty : FieldType), (sk_tys E)[t0]? = some (E.2.2.2.1 (hK h a), ty) := by
      rcases (show hK h a = 101 ∨ hK h a = 102 ∨ hK h a = 103 ∨ hK h a = 104 ∨ hK h a = 105 ∨ hK h a = 106 ∨ hK h a = 107 ∨ hK h a = 108 by omega) with q | q | q | q | q | q | q | q <;> rw [q]
      · exact ⟨0, _, rfl⟩
      · exact ⟨1, _, rfl⟩
      · exact ⟨2, _, rfl⟩
      · exact ⟨3, _, rfl⟩
      · exact ⟨4, _, rfl⟩
      · exact ⟨5, _, rfl⟩
      · exact ⟨6, _, rfl⟩
      · exact ⟨7, _, rfl⟩
    obtain ⟨t0, ty, ht⟩ := ht
    refine va_alen (D := E.2.2.1) (cl := vwCl) (ws := [(sk_ad E a, .inl (E.2.2.2.1 (hK h a), sk_arr E h a))]) hx hb hKs (fun k q hq => ?_) 0 t0 rfl ht rfl hd kk
    cases k with
    | zero => cases hq; exact hc
    | succ k => simp at hq
  · obtain ⟨hX1, -, hX3, -, -, -, -, -, -, hX10, hX11, -⟩ := hX
    obtain ⟨q1, q2⟩ := I.ext (a := a) (by unfold sk_kd; omega) (by omega)
    rw [sk_ad_ext q1]
    obtain ⟨-, e2, -⟩ := I.2.2.2.2 a q1
    rw [q2] at hk2
    have hcase : a = 1 ∨ a = 16 ∨ ∃ i, i < 7 ∧ a = 9 + i := by
      unfold sk_ek at hk2
      by_cases c1 : a = 1
      · exact Or.inl c1
      · rw [if_neg c1] at hk2
        by_cases c2 : 2 ≤ a ∧ a ≤ 8
        · rw [if_pos c2] at hk2; omega
        · rw [if_neg c2] at hk2
          by_cases c3 : 9 ≤ a ∧ a ≤ 15
          · exact Or.inr (Or.inr ⟨a - 9, by omega, by omega⟩)
          · rw [if_neg c3] at hk2
            by_cases c4 : a = 16
            · exact Or.inr (Or.inl c4)
            · rw [if_neg c4] at hk2; omega
    rcases hcase with rfl | rfl | ⟨i, hi, rfl⟩
    · exact va_tlen hx hb hX1 hS (by rw [e2, hEP.1]) hd kk
    · rw [e2] at kk
      exact va_slen hx hb hX10 (Nat.lt_of_lt_of_le hX11 hz) (Nat.not_le.mpr hX11) hS hd kk
    · exact va_tlen hx hb (hX3.1 i hi).2.2.2 hS (by rw [e2, (hEP.2.2 i hi).2.2.1]) hd kk
end SkHeap
