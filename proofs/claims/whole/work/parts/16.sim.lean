/-! ===== one step of the machine for one step of the evaluator ===== -/
def sk_G (E : sk_En) (m n0 s0 : Nat) (p : Program) (l : Launch) (e : Env) (Rm : Room) (s : State) (mm : MethodId) (args : Array Value) (below : List Frame) (meth : Method) (cd : Code) (Q : State → Prop) (c : sk_C) : Prop :=
  ∀ H locs cells slots als, sk_Iv E m n0 s0 s c.2.1 c.2.2.2 H locs cells slots als → W p l e Rm s mm args below meth cd H locs cells slots Q (F0 mm c.1 als (c.2.2.1.map (sv E)))
def sk_Re (m pc : Nat) (v : Option sk_V) : Prop :=
  (∃ x, v = some (.inl x) ∧ decode (sk_b m) pc = .ok (.ireturn, 1) ∧ ((sk_rt m = some .int) ∨ (sk_rt m = some .boolean ∧ (x = 0 ∨ x = 1)) ∨ (sk_rt m = some .byte ∧ x.toInt8.toInt32 = x) ∨ (sk_rt m = some .char ∧ x.toUInt32.toUInt16.toUInt32.toInt32 = x))) ∨
  (∃ x, v = some (.inr (.inl x)) ∧ decode (sk_b m) pc = .ok (.lreturn, 1) ∧ sk_rt m = some .long) ∨
  (∃ r, v = some (.inr (.inr r)) ∧ decode (sk_b m) pc = .ok (.areturn, 1) ∧ ((∃ n, sk_rt m = some (.object n)) ∨ ∃ t, sk_rt m = some (.array t))) ∨
  (v = none ∧ decode (sk_b m) pc = .ok (.return_, 1) ∧ sk_rt m = none)
/-- what the end of the method asks -/
def sk_Rt (E : sk_En) (m n0 s0 : Nat) (p : Program) (l : Launch) (e : Env) (Rm : Room) (s : State) (mm : MethodId) (args : Array Value) (below : List Frame) (meth : Method) (cd : Code) (Q : State → Prop) (R : sk_H × Option sk_V) : Prop :=
  ∀ pc H locs cells slots als, sk_Rep E R.1 H → va_S (sk_A0 E) s.heap H locs → hn R.1 = n0 + cells → hs R.1 = s0 + slots → sk_Re m pc R.2 → W p l e Rm s mm args below meth cd H locs cells slots Q (F0 mm pc als (R.2.toList.map (sv E)))
def ok_plain (i : Instr) : Bool := match i with
  | .tableswitch _ _ _ _ => false
  | .lookupswitch _ _ => false
  | _ => true
theorem ok_sp {rec? : Nat → Bool} {m pc : Nat} {i : Instr} {nx e1 e2 e3 e4 e5 : Nat} {ev : sk_V} {ec : List (Int32 × Nat)} {cut : Option (List Bool)} (h : sk_ok rec? m pc (i, (nx, e1, e2, e3, e4, e5), ev, ec, cut) = true) (hp : ok_plain i = true) : decode (sk_b m) pc = .ok (i, ok_len i) ∧ nx = pc + ok_len i ∧ ok_x rec? m pc e1 e2 e3 e4 e5 ev ec i = true := by
  have h : (ok_dec m pc nx i && ok_x rec? m pc e1 e2 e3 e4 e5 ev ec i) = true := h
  rw [Bool.and_eq_true] at h
  obtain ⟨h1, h2⟩ := h
  refine ⟨?_, ?_, h2⟩ <;> (unfold ok_dec at h1; split at h1 <;> first | cases hp | (simp only [Bool.and_eq_true, decide_eq_true_eq] at h1; first | exact h1.1 | exact h1.2))
theorem sk_rcv_take {st as r : List sk_V} {n a : Nat} (ht : sk_take (n + 1) [] st = some (as, r)) (ha : sk_rcv as = some a) : ∃ bs, as = .inr (.inr (some a)) :: bs ∧ bs.length = n ∧ st = bs.reverse ++ .inr (.inr (some a)) :: r := by
  obtain ⟨t, h1, h2, h3⟩ := sk_take_spec _ _ _ _ _ ht
  rw [List.append_nil] at h3
  match as, ha with
  | .inr (.inr x) :: bs, ha =>
    have ha : x = some a := ha
    subst ha
    refine ⟨bs, rfl, ?_, ?_⟩
    · have := congrArg List.length h3
      simp at this
      omega
    · have h4 : t = (Sum.inr (Sum.inr (some a)) :: bs : List sk_V).reverse := by rw [h3, List.reverse_reverse]
      rw [h2, h4]
      simp
theorem sk_obj1 : Cond.instanceMethod Lib.objectInit ∈ sk_wds := by decide +kernel
theorem sk_obj2 : Cond.code Lib.objectInit ⟨#[0xb1]⟩ 1 none ∈ sk_wds := by decide +kernel
theorem sk_mx0 : Cond.initialized "java/lang/Math" ∈ sk_wds := by decide +kernel
theorem sk_mx1 : Cond.static Lib.Math.max.name ∈ sk_wds := by decide +kernel
theorem sk_mx2 : Cond.code Lib.Math.max.name Lib.Math.max.code 2 (some .int) ∈ sk_wds := by decide +kernel
theorem sk_mn1 : Cond.static Lib.Math.min.name ∈ sk_wds := by decide +kernel
theorem sk_mn2 : Cond.code Lib.Math.min.name Lib.Math.min.code 2 (some .int) ∈ sk_wds := by decide +kernel
section SkSim
variable {p : Program} {l : Launch} {e : Env} {Rm : Room} {s : State} {mm : MethodId} {args : Array Value} {below : List Frame} {meth : Method} {cd : Code} {Q : State → Prop} {E : sk_En} {m n0 s0 : Nat}
variable {fc : Nat → sk_Ls → sk_H → sk_R} {f : sk_C → sk_R} {nx : Nat} {ls : sk_Ls} {h : sk_H} {R : sk_H × Option sk_V} {st : List sk_V} {rec? : Nat → Bool} {d pc : Nat}
theorem sk_room {cm m d d' ml : Nat} {Rm : Room} (hR : sk_rk m + 32 * d ≤ Rm.frames ∧ 48 * (sk_rk m + 32 * d) ≤ Rm.locals) (h1 : ok_rec rec? m cm = true) (h2 : (rec? cm = false ∧ d' = d) ∨ (rec? cm = true ∧ d = d' + 1)) (h3 : 27 + ml ≤ 48) : sk_rk cm + 32 * d' + 1 ≤ Rm.frames ∧ 16 + (ml + 11) + 48 * (sk_rk cm + 32 * d') ≤ Rm.locals := by
  unfold ok_rec at h1
  rcases h2 with ⟨h2, rfl⟩ | ⟨h2, rfl⟩
  · rw [h2] at h1
    simp only [decide_eq_true_eq] at h1
    omega
  · rw [h2] at h1
    simp only [decide_eq_true_eq] at h1
    omega
theorem v_swl {x : Int32} {c : sk_Ls × List sk_V × sk_H} {t0 : Nat} {df : Int} (ht : (pc : Int) + df = t0) : ∀ (cs : List (Int32 × Nat)), sk_sw x (fun t => f (t, c)) t0 cs = some R → ∃ t : Nat, Op.lookupswitch.offset (cs.map (fun c => (c.1.toInt, (c.2 : Int) - pc))) df x.toInt = (t : Int) - pc ∧ f (t, c) = some R
  | [], hr => ⟨t0, by simp only [List.map_nil, Op.lookupswitch.offset]; omega, hr⟩
  | q :: r, hr => by
    unfold sk_sw at hr
    by_cases hx : x = q.1
    · rw [if_pos hx] at hr
      refine ⟨q.2, ?_, hr⟩
      simp [Op.lookupswitch.offset, hx]
    · rw [if_neg hx] at hr
      obtain ⟨t, h1, h2⟩ := v_swl ht r hr
      refine ⟨t, ?_, h2⟩
      rw [List.map_cons, lv_osw hx rfl]
      exact h1
set_option maxHeartbeats 8000000 in
theorem sk_sim1 {i : Instr} {e1 e2 e3 e4 e5 : Nat} {ev : sk_V} {ec : List (Int32 × Nat)} {cut : Option (List Bool)} (hMk : ∀ cm, sk_cal cm → sk_mok cm = true) (C : sk_Cx E m p s mm args meth cd) (hok : sk_ok rec? m pc (i, (nx, e1, e2, e3, e4, e5), ev, ec, cut) = true)
    (hRm : (sk_rk m + 32 * d ≤ Rm.frames ∧ 48 * (sk_rk m + 32 * d) ≤ Rm.locals) ∧ hn R.1 ≤ n0 + Rm.cells ∧ hs R.1 ≤ s0 + Rm.slots)
    (IH : ∀ c, f c = some R → sk_G E m n0 s0 p l e Rm s mm args below meth cd Q c) (IM : ∀ c, f c = some R → sk_le c.2.2.2 R.1)
    (IC : ∀ cm as h R', sk_cal cm → sk_cat as ≤ sk_ml cm → fc cm (sk_ent (sk_ml cm) as) h = some R' → ∃ d', ((rec? cm = false ∧ d' = d) ∨ (rec? cm = true ∧ d = d' + 1)) ∧ sk_Mt l E d' cm as h R' ∧ sk_le h R'.1)
    (HR : sk_Rt E m n0 s0 p l e Rm s mm args below meth cd Q R)
    (hr : sk_fin t_O fc f nx ls h (sk_ac0 i nx e1 e2 e3 e4 e5 ev ec ls st h) = some R) : sk_G E m n0 s0 p l e Rm s mm args below meth cd Q (pc, ls, st, h) := by
  obtain ⟨hx, hb, hml, hown, hts, hnm, hKs, hX, hz, hEP⟩ := id C
  cases i
  all_goals first
    | exact (v_no hr).elim
    | skip
  case aconst_null => obtain ⟨hd, rfl, -⟩ := ok_sp hok rfl; exact fun H locs cells slots als I => lv_null hx hb hd (IH _ (v_go hr) H locs cells slots als I)
  case iconst n => obtain ⟨hd, rfl, -⟩ := ok_sp hok rfl; exact fun H locs cells slots als I => lv_iconst hx hb hd rfl (IH _ (v_go hr) H locs cells slots als I)
  case bipush n => obtain ⟨hd, rfl, -⟩ := ok_sp hok rfl; exact fun H locs cells slots als I => lv_bipush hx hb hd rfl (IH _ (v_go hr) H locs cells slots als I)
  case sipush n => obtain ⟨hd, rfl, -⟩ := ok_sp hok rfl; exact fun H locs cells slots als I => lv_sipush hx hb hd rfl (IH _ (v_go hr) H locs cells slots als I)
  case lconst n => obtain ⟨hd, rfl, -⟩ := ok_sp hok rfl; exact fun H locs cells slots als I => lv_lconst hx hb hd rfl (IH _ (v_go hr) H locs cells slots als I)
  case ldc k =>
    obtain ⟨hd, rfl, hx1⟩ := ok_sp hok rfl
    have h1 := v_go hr
    rcases ev with v | v | v
    · exact fun H locs cells slots als I => lv_ldc hx hb hown (hts _ (ok_w_mem hx1)) hd (IH _ h1 H locs cells slots als I)
    · cases hx1
    · cases v with
      | none => cases hx1
      | some a =>
        have hx1 : (decide (2 ≤ a) && (match sk_str[a - 2]? with
          | some q => decide (q.1 = (sk_y m).cls ∧ q.2.1 = k)
          | none => false)) = true := hx1
        rw [Bool.and_eq_true, decide_eq_true_eq] at hx1
        obtain ⟨ha, hx1⟩ := hx1
        cases hq : sk_str[a - 2]? with
        | none => rw [hq] at hx1; cases hx1
        | some q =>
          rw [hq] at hx1
          have hx1 := of_decide_eq_true hx1
          obtain ⟨q1, rfl⟩ := hx1
          have hlt : a - 2 < 7 := (List.getElem?_eq_some_iff.mp hq).1
          have hR := hX.2.2.2.1 _ _ hq
          rw [q1] at hR
          intro H locs cells slots als I
          refine va_ldcS hx hb hown hR hd ?_
          have := IH _ h1 H locs cells slots als I
          have e1 : sv E (.inr (.inr (some a))) = .ref (E.2.1 (2 + (a - 2))) := by
            show Value.ref (sk_ad E a) = _
            rw [sk_ad_ext (by omega), show 2 + (a - 2) = a by omega]
          show W p l e Rm s mm args below meth cd H locs cells slots Q (F0 mm (pc + 2) als (.ref (E.2.1 (2 + (a - 2))) :: st.map (sv E)))
          rw [← e1]
          exact this
  case ldc_w k =>
    obtain ⟨hd, rfl, hx1⟩ := ok_sp hok rfl
    have h1 := v_go hr
    rcases ev with v | v | v
    · exact fun H locs cells slots als I => lv_ldcw hx hb hown (hts _ (ok_w_mem hx1)) hd (IH _ h1 H locs cells slots als I)
    · cases hx1
    · cases hx1
  case ldc2_w k =>
    obtain ⟨hd, rfl, hx1⟩ := ok_sp hok rfl
    have h1 := v_go hr
    rcases ev with v | v | v
    · cases hx1
    · exact fun H locs cells slots als I => lv_ldc2 hx hb hown (hts _ (ok_w_mem hx1)) hd (IH _ h1 H locs cells slots als I)
    · cases hx1
  case iload_n k => obtain ⟨hd, rfl, -⟩ := ok_sp hok rfl; obtain ⟨x, h1, h2⟩ := vl_i hr; exact fun H locs cells slots als I => lv_iload_n hx hb hd rfl (I.2.2.2.2.at h1) (IH _ (v_go h2) H locs cells slots als I)
  case iload k => obtain ⟨hd, rfl, -⟩ := ok_sp hok rfl; obtain ⟨x, h1, h2⟩ := vl_i hr; exact fun H locs cells slots als I => lv_iload hx hb hd (I.2.2.2.2.at h1) (IH _ (v_go h2) H locs cells slots als I)
  case lload_n k => obtain ⟨hd, rfl, -⟩ := ok_sp hok rfl; obtain ⟨x, h1, h2⟩ := vl_l hr; exact fun H locs cells slots als I => lv_lload_n hx hb hd rfl (I.2.2.2.2.at h1) (IH _ (v_go h2) H locs cells slots als I)
  case lload k => obtain ⟨hd, rfl, -⟩ := ok_sp hok rfl; obtain ⟨x, h1, h2⟩ := vl_l hr; exact fun H locs cells slots als I => lv_lload hx hb hd (I.2.2.2.2.at h1) (IH _ (v_go h2) H locs cells slots als I)
  case aload_n k =>
    obtain ⟨hd, rfl, -⟩ := ok_sp hok rfl; obtain ⟨x, h1, h2⟩ := vl_r hr
    cases x with
    | none => exact fun H locs cells slots als I => lv_aload_nN hx hb hd rfl (I.2.2.2.2.at h1) (IH _ (v_go h2) H locs cells slots als I)
    | some a => exact fun H locs cells slots als I => lv_aload_n hx hb hd rfl (I.2.2.2.2.at h1) (IH _ (v_go h2) H locs cells slots als I)
  case aload k =>
    obtain ⟨hd, rfl, -⟩ := ok_sp hok rfl; obtain ⟨x, h1, h2⟩ := vl_r hr
    cases x with
    | none => exact fun H locs cells slots als I => lv_aloadN hx hb hd (I.2.2.2.2.at h1) (IH _ (v_go h2) H locs cells slots als I)
    | some a => exact fun H locs cells slots als I => lv_aload hx hb hd (I.2.2.2.2.at h1) (IH _ (v_go h2) H locs cells slots als I)
  case istore_n k => obtain ⟨hd, rfl, hx1⟩ := ok_sp hok rfl; obtain ⟨x, r, rfl, h2⟩ := v_i hr; rw [l_s1k_eq] at h2; exact fun H locs cells slots als I => lv_istore_n hx hb hd rfl I.2.2.2.2 (of_decide_eq_true hx1) rfl (fun als' hl => IH _ (v_go h2) H locs cells slots als' ⟨I.1, I.2.1, I.2.2.1, I.2.2.2.1, sk_has.s1 (v := .inl x) hl⟩)
  case istore k => obtain ⟨hd, rfl, hx1⟩ := ok_sp hok rfl; obtain ⟨x, r, rfl, h2⟩ := v_i hr; rw [l_s1k_eq] at h2; exact fun H locs cells slots als I => lv_istore hx hb hd I.2.2.2.2 (of_decide_eq_true hx1) rfl (fun als' hl => IH _ (v_go h2) H locs cells slots als' ⟨I.1, I.2.1, I.2.2.1, I.2.2.2.1, sk_has.s1 (v := .inl x) hl⟩)
  case lstore_n k => obtain ⟨hd, rfl, hx1⟩ := ok_sp hok rfl; obtain ⟨x, r, rfl, h2⟩ := v_l hr; rw [l_s2k_eq] at h2; exact fun H locs cells slots als I => lv_lstore_n hx hb hd rfl I.2.2.2.2 (of_decide_eq_true hx1) rfl (fun als' hl => IH _ (v_go h2) H locs cells slots als' ⟨I.1, I.2.1, I.2.2.1, I.2.2.2.1, sk_has.s2 (v := .inr (.inl x)) hl⟩)
  case lstore k => obtain ⟨hd, rfl, hx1⟩ := ok_sp hok rfl; obtain ⟨x, r, rfl, h2⟩ := v_l hr; rw [l_s2k_eq] at h2; exact fun H locs cells slots als I => lv_lstore hx hb hd I.2.2.2.2 (of_decide_eq_true hx1) rfl (fun als' hl => IH _ (v_go h2) H locs cells slots als' ⟨I.1, I.2.1, I.2.2.1, I.2.2.2.1, sk_has.s2 (v := .inr (.inl x)) hl⟩)
  case astore_n k =>
    obtain ⟨hd, rfl, hx1⟩ := ok_sp hok rfl; obtain ⟨x, r, rfl, h2⟩ := v_r hr; rw [l_s1k_eq] at h2
    cases x with
    | none => exact fun H locs cells slots als I => lv_astore_nN hx hb hd rfl I.2.2.2.2 (of_decide_eq_true hx1) rfl (fun als' hl => IH _ (v_go h2) H locs cells slots als' ⟨I.1, I.2.1, I.2.2.1, I.2.2.2.1, sk_has.s1 (v := .inr (.inr none)) hl⟩)
    | some a => exact fun H locs cells slots als I => lv_astore_n hx hb hd rfl I.2.2.2.2 (of_decide_eq_true hx1) rfl (fun als' hl => IH _ (v_go h2) H locs cells slots als' ⟨I.1, I.2.1, I.2.2.1, I.2.2.2.1, sk_has.s1 (v := .inr (.inr (some a))) hl⟩)
  case astore k =>
    obtain ⟨hd, rfl, hx1⟩ := ok_sp hok rfl; obtain ⟨x, r, rfl, h2⟩ := v_r hr; rw [l_s1k_eq] at h2
    cases x with
    | none => exact fun H locs cells slots als I => lv_astoreN hx hb hd I.2.2.2.2 (of_decide_eq_true hx1) rfl (fun als' hl => IH _ (v_go h2) H locs cells slots als' ⟨I.1, I.2.1, I.2.2.1, I.2.2.2.1, sk_has.s1 (v := .inr (.inr none)) hl⟩)
    | some a => exact fun H locs cells slots als I => lv_astore hx hb hd I.2.2.2.2 (of_decide_eq_true hx1) rfl (fun als' hl => IH _ (v_go h2) H locs cells slots als' ⟨I.1, I.2.1, I.2.2.1, I.2.2.2.1, sk_has.s1 (v := .inr (.inr (some a))) hl⟩)
  case iinc k n =>
    obtain ⟨hd, rfl, hx1⟩ := ok_sp hok rfl; obtain ⟨x, h1, h2⟩ := vl_i hr; rw [l_s1k_eq] at h2
    intro H locs cells slots als I
    have hm : (k, Value.int x) ∈ sk_lvA E 0 ls := (sk_lv_mem E ls 0 _).mpr ⟨k, .inl x, h1, by rw [Nat.zero_add]; rfl⟩
    obtain ⟨j, hj⟩ := List.getElem?_of_mem hm
    exact lv_iinc hx hb hd I.2.2.2.2 hj rfl (of_decide_eq_true hx1) rfl (fun als' hl => IH _ (v_go h2) H locs cells slots als' ⟨I.1, I.2.1, I.2.2.1, I.2.2.2.1, sk_has.s1 (v := .inl (x + Int32.ofInt n)) hl⟩)
  case dup => obtain ⟨hd, rfl, -⟩ := ok_sp hok rfl; obtain ⟨v, r, rfl, hv, h2⟩ := v_1 hr; exact fun H locs cells slots als I => lv_dup hx hb hd (by rw [sv_cat, hv]; rfl) (IH _ (v_go h2) H locs cells slots als I)
  case dup_x1 => obtain ⟨hd, rfl, -⟩ := ok_sp hok rfl; obtain ⟨v, w, r, rfl, hv, hw, h2⟩ := v_11 hr; exact fun H locs cells slots als I => lv_dup_x1 hx hb hd (by rw [sv_cat, hv]; rfl) (by rw [sv_cat, hw]; rfl) (IH _ (v_go h2) H locs cells slots als I)
  case dup2 => obtain ⟨hd, rfl, -⟩ := ok_sp hok rfl; obtain ⟨v, w, r, rfl, hv, hw, h2⟩ := v_11 hr; exact fun H locs cells slots als I => lv_dup2_11 hx hb hd (by rw [sv_cat, hv]; rfl) (by rw [sv_cat, hw]; rfl) (IH _ (v_go h2) H locs cells slots als I)
  case pop => obtain ⟨hd, rfl, -⟩ := ok_sp hok rfl; obtain ⟨v, r, rfl, hv, h2⟩ := v_1 hr; exact fun H locs cells slots als I => lv_pop hx hb hd (by rw [sv_cat, hv]; rfl) (IH _ (v_go h2) H locs cells slots als I)
  case iadd => obtain ⟨hd, rfl, -⟩ := ok_sp hok rfl; obtain ⟨x, y, r, rfl, h2⟩ := v_ii hr; exact fun H locs cells slots als I => lv_iadd hx hb hd (IH _ (v_go h2) H locs cells slots als I)
  case isub => obtain ⟨hd, rfl, -⟩ := ok_sp hok rfl; obtain ⟨x, y, r, rfl, h2⟩ := v_ii hr; exact fun H locs cells slots als I => lv_isub hx hb hd (IH _ (v_go h2) H locs cells slots als I)
  case imul => obtain ⟨hd, rfl, -⟩ := ok_sp hok rfl; obtain ⟨x, y, r, rfl, h2⟩ := v_ii hr; exact fun H locs cells slots als I => lv_imul hx hb hd (IH _ (v_go h2) H locs cells slots als I)
  case iand => obtain ⟨hd, rfl, -⟩ := ok_sp hok rfl; obtain ⟨x, y, r, rfl, h2⟩ := v_ii hr; exact fun H locs cells slots als I => lv_iand hx hb hd (IH _ (v_go h2) H locs cells slots als I)
  case ior => obtain ⟨hd, rfl, -⟩ := ok_sp hok rfl; obtain ⟨x, y, r, rfl, h2⟩ := v_ii hr; exact fun H locs cells slots als I => lv_ior hx hb hd (IH _ (v_go h2) H locs cells slots als I)
  case ixor => obtain ⟨hd, rfl, -⟩ := ok_sp hok rfl; obtain ⟨x, y, r, rfl, h2⟩ := v_ii hr; exact fun H locs cells slots als I => lv_ixor hx hb hd (IH _ (v_go h2) H locs cells slots als I)
  case idiv => obtain ⟨hd, rfl, -⟩ := ok_sp hok rfl; obtain ⟨x, y, r, rfl, h2⟩ := v_ii hr; obtain ⟨h3, h4⟩ := v_ck h2; exact fun H locs cells slots als I => lv_idiv hx hb hd h3 (IH _ h4 H locs cells slots als I)
  case irem => obtain ⟨hd, rfl, -⟩ := ok_sp hok rfl; obtain ⟨x, y, r, rfl, h2⟩ := v_ii hr; obtain ⟨h3, h4⟩ := v_ck h2; exact fun H locs cells slots als I => lv_irem hx hb hd h3 (IH _ h4 H locs cells slots als I)
  case ineg => obtain ⟨hd, rfl, -⟩ := ok_sp hok rfl; obtain ⟨x, r, rfl, h2⟩ := v_i hr; exact fun H locs cells slots als I => lv_ineg hx hb hd (IH _ (v_go h2) H locs cells slots als I)
  case ishl => obtain ⟨hd, rfl, -⟩ := ok_sp hok rfl; obtain ⟨x, y, r, rfl, h2⟩ := v_ii hr; exact fun H locs cells slots als I => lv_ishl hx hb hd (IH _ (v_go h2) H locs cells slots als I)
  case ishr => obtain ⟨hd, rfl, -⟩ := ok_sp hok rfl; obtain ⟨x, y, r, rfl, h2⟩ := v_ii hr; exact fun H locs cells slots als I => lv_ishr hx hb hd (IH _ (v_go h2) H locs cells slots als I)
  case iushr => obtain ⟨hd, rfl, -⟩ := ok_sp hok rfl; obtain ⟨x, y, r, rfl, h2⟩ := v_ii hr; exact fun H locs cells slots als I => lv_iushr hx hb hd rfl (IH _ (v_go h2) H locs cells slots als I)
  case ladd => obtain ⟨hd, rfl, -⟩ := ok_sp hok rfl; obtain ⟨x, y, r, rfl, h2⟩ := v_ll hr; exact fun H locs cells slots als I => lv_ladd hx hb hd (IH _ (v_go h2) H locs cells slots als I)
  case lsub => obtain ⟨hd, rfl, -⟩ := ok_sp hok rfl; obtain ⟨x, y, r, rfl, h2⟩ := v_ll hr; exact fun H locs cells slots als I => lv_lsub hx hb hd (IH _ (v_go h2) H locs cells slots als I)
  case lmul => obtain ⟨hd, rfl, -⟩ := ok_sp hok rfl; obtain ⟨x, y, r, rfl, h2⟩ := v_ll hr; exact fun H locs cells slots als I => lv_lmul hx hb hd (IH _ (v_go h2) H locs cells slots als I)
  case land => obtain ⟨hd, rfl, -⟩ := ok_sp hok rfl; obtain ⟨x, y, r, rfl, h2⟩ := v_ll hr; exact fun H locs cells slots als I => lv_land hx hb hd (IH _ (v_go h2) H locs cells slots als I)
  case lor => obtain ⟨hd, rfl, -⟩ := ok_sp hok rfl; obtain ⟨x, y, r, rfl, h2⟩ := v_ll hr; exact fun H locs cells slots als I => lv_lor hx hb hd (IH _ (v_go h2) H locs cells slots als I)
  case lxor => obtain ⟨hd, rfl, -⟩ := ok_sp hok rfl; obtain ⟨x, y, r, rfl, h2⟩ := v_ll hr; exact fun H locs cells slots als I => lv_lxor hx hb hd (IH _ (v_go h2) H locs cells slots als I)
  case ldiv => obtain ⟨hd, rfl, -⟩ := ok_sp hok rfl; obtain ⟨x, y, r, rfl, h2⟩ := v_ll hr; obtain ⟨h3, h4⟩ := v_ck h2; exact fun H locs cells slots als I => lv_ldiv hx hb hd h3 (IH _ h4 H locs cells slots als I)
  case lrem => obtain ⟨hd, rfl, -⟩ := ok_sp hok rfl; obtain ⟨x, y, r, rfl, h2⟩ := v_ll hr; obtain ⟨h3, h4⟩ := v_ck h2; exact fun H locs cells slots als I => lv_lrem hx hb hd h3 (IH _ h4 H locs cells slots als I)
  case lshl => obtain ⟨hd, rfl, -⟩ := ok_sp hok rfl; obtain ⟨x, y, r, rfl, h2⟩ := v_li hr; exact fun H locs cells slots als I => lv_lshl hx hb hd rfl (IH _ (v_go h2) H locs cells slots als I)
  case lshr => obtain ⟨hd, rfl, -⟩ := ok_sp hok rfl; obtain ⟨x, y, r, rfl, h2⟩ := v_li hr; exact fun H locs cells slots als I => lv_lshr hx hb hd rfl (IH _ (v_go h2) H locs cells slots als I)
  case lushr => obtain ⟨hd, rfl, -⟩ := ok_sp hok rfl; obtain ⟨x, y, r, rfl, h2⟩ := v_li hr; exact fun H locs cells slots als I => lv_lushr hx hb hd rfl (IH _ (v_go h2) H locs cells slots als I)
  case lcmp => obtain ⟨hd, rfl, -⟩ := ok_sp hok rfl; obtain ⟨x, y, r, rfl, h2⟩ := v_ll hr; exact fun H locs cells slots als I => W.lcmp hx hb hd (IH _ (v_go h2) H locs cells slots als I)
  case i2l => obtain ⟨hd, rfl, -⟩ := ok_sp hok rfl; obtain ⟨x, r, rfl, h2⟩ := v_i hr; exact fun H locs cells slots als I => lv_i2l hx hb hd rfl (IH _ (v_go h2) H locs cells slots als I)
  case l2i => obtain ⟨hd, rfl, -⟩ := ok_sp hok rfl; obtain ⟨x, r, rfl, h2⟩ := v_l hr; exact fun H locs cells slots als I => lv_l2i hx hb hd rfl (IH _ (v_go h2) H locs cells slots als I)
  case i2b => obtain ⟨hd, rfl, -⟩ := ok_sp hok rfl; obtain ⟨x, r, rfl, h2⟩ := v_i hr; exact fun H locs cells slots als I => lv_i2b hx hb hd rfl (IH _ (v_go h2) H locs cells slots als I)
  case i2c => obtain ⟨hd, rfl, -⟩ := ok_sp hok rfl; obtain ⟨x, r, rfl, h2⟩ := v_i hr; exact fun H locs cells slots als I => lv_i2c hx hb hd rfl (IH _ (v_go h2) H locs cells slots als I)
  case goto o => obtain ⟨hd, rfl, hx1⟩ := ok_sp hok rfl; exact fun H locs cells slots als I => lv_goto hx hb hd (of_decide_eq_true hx1) (IH _ (v_go hr) H locs cells slots als I)
  case ifCond c o =>
    obtain ⟨hd, rfl, hx1⟩ := ok_sp hok rfl; obtain ⟨x, r, rfl, h2⟩ := v_i hr
    have ht := of_decide_eq_true hx1
    intro H locs cells slots als I
    cases c
    · rcases v_br h2 with ⟨h3, h4⟩ | ⟨h3, h4⟩
      · exact lv_if_eq hx hb hd ht (fun _ => IH _ h4 H locs cells slots als I) (fun q => absurd h3 q)
      · exact lv_if_eq hx hb hd ht (fun q => absurd q h3) (fun _ => IH _ h4 H locs cells slots als I)
    · rcases v_br h2 with ⟨h3, h4⟩ | ⟨h3, h4⟩
      · exact lv_if_ne hx hb hd ht (fun _ => IH _ h4 H locs cells slots als I) (fun q => absurd q h3)
      · exact lv_if_ne hx hb hd ht (fun q => absurd q h3) (fun _ => IH _ h4 H locs cells slots als I)
    · rcases v_br h2 with ⟨h3, h4⟩ | ⟨h3, h4⟩
      · exact lv_if_lt hx hb hd ht (fun _ => IH _ h4 H locs cells slots als I) (fun q => absurd h3 q)
      · exact lv_if_lt hx hb hd ht (fun q => absurd q h3) (fun _ => IH _ h4 H locs cells slots als I)
    · rcases v_br h2 with ⟨h3, h4⟩ | ⟨h3, h4⟩
      · exact lv_if_ge hx hb hd ht (fun _ => IH _ h4 H locs cells slots als I) (fun q => absurd h3 q)
      · exact lv_if_ge hx hb hd ht (fun q => absurd q h3) (fun _ => IH _ h4 H locs cells slots als I)
    · rcases v_br h2 with ⟨h3, h4⟩ | ⟨h3, h4⟩
      · exact lv_if_gt hx hb hd ht (fun _ => IH _ h4 H locs cells slots als I) (fun q => absurd h3 q)
      · exact lv_if_gt hx hb hd ht (fun q => absurd q h3) (fun _ => IH _ h4 H locs cells slots als I)
    · rcases v_br h2 with ⟨h3, h4⟩ | ⟨h3, h4⟩
      · exact lv_if_le hx hb hd ht (fun _ => IH _ h4 H locs cells slots als I) (fun q => absurd h3 q)
      · exact lv_if_le hx hb hd ht (fun q => absurd q h3) (fun _ => IH _ h4 H locs cells slots als I)
  case if_icmp c o =>
    obtain ⟨hd, rfl, hx1⟩ := ok_sp hok rfl; obtain ⟨x, y, r, rfl, h2⟩ := v_ii hr
    have ht := of_decide_eq_true hx1
    intro H locs cells slots als I
    cases c
    · rcases v_br h2 with ⟨h3, h4⟩ | ⟨h3, h4⟩
      · exact lv_icmp_eq hx hb hd ht (fun _ => IH _ h4 H locs cells slots als I) (fun q => absurd h3 q)
      · exact lv_icmp_eq hx hb hd ht (fun q => absurd q h3) (fun _ => IH _ h4 H locs cells slots als I)
    · rcases v_br h2 with ⟨h3, h4⟩ | ⟨h3, h4⟩
      · exact lv_icmp_ne hx hb hd ht (fun _ => IH _ h4 H locs cells slots als I) (fun q => absurd q h3)
      · exact lv_icmp_ne hx hb hd ht (fun q => absurd q h3) (fun _ => IH _ h4 H locs cells slots als I)
    · rcases v_br h2 with ⟨h3, h4⟩ | ⟨h3, h4⟩
      · exact lv_icmp_lt hx hb hd ht (fun _ => IH _ h4 H locs cells slots als I) (fun q => absurd h3 q)
      · exact lv_icmp_lt hx hb hd ht (fun q => absurd q h3) (fun _ => IH _ h4 H locs cells slots als I)
    · rcases v_br h2 with ⟨h3, h4⟩ | ⟨h3, h4⟩
      · exact lv_icmp_ge hx hb hd ht (fun _ => IH _ h4 H locs cells slots als I) (fun q => absurd h3 q)
      · exact lv_icmp_ge hx hb hd ht (fun q => absurd q h3) (fun _ => IH _ h4 H locs cells slots als I)
    · rcases v_br h2 with ⟨h3, h4⟩ | ⟨h3, h4⟩
      · exact lv_icmp_gt hx hb hd ht (fun _ => IH _ h4 H locs cells slots als I) (fun q => absurd h3 q)
      · exact lv_icmp_gt hx hb hd ht (fun q => absurd q h3) (fun _ => IH _ h4 H locs cells slots als I)
    · rcases v_br h2 with ⟨h3, h4⟩ | ⟨h3, h4⟩
      · exact lv_icmp_le hx hb hd ht (fun _ => IH _ h4 H locs cells slots als I) (fun q => absurd h3 q)
      · exact lv_icmp_le hx hb hd ht (fun q => absurd q h3) (fun _ => IH _ h4 H locs cells slots als I)
  case if_acmp c o =>
    obtain ⟨hd, rfl, hx1⟩ := ok_sp hok rfl
    have ht := of_decide_eq_true hx1
    have inj : ∀ x y : Option Nat, 20 ≤ x.getD 20 ∧ 20 ≤ y.getD 20 → (x.map (sk_ad E) = y.map (sk_ad E) ↔ x = y) := by
      intro x y hg
      refine ⟨fun q => ?_, fun q => by rw [q]⟩
      cases x with
      | none => cases y with
        | none => rfl
        | some b => cases q
      | some a => cases y with
        | none => cases q
        | some b =>
          have q1 : sk_ad E a = sk_ad E b := Option.some.inj q
          have g1 : 20 ≤ a := hg.1
          have g2 : 20 ≤ b := hg.2
          rw [sk_ad_own g1, sk_ad_own g2] at q1
          congr 1
          omega
    intro H locs cells slots als I
    cases c
    · obtain ⟨x, y, r, rfl, h2⟩ := v_rr hr
      obtain ⟨hg, h3⟩ := v_brg h2
      refine lv_acmp_eq (rx := x.map (sk_ad E)) (ry := y.map (sk_ad E)) hx hb hd ht (fun q => ?_) (fun q => ?_)
      · rcases h3 with ⟨-, h4⟩ | ⟨h3, -⟩
        · exact IH _ h4 H locs cells slots als I
        · exact absurd ((inj x y hg).mp q) h3
      · rcases h3 with ⟨h3, -⟩ | ⟨-, h4⟩
        · exact absurd ((inj x y hg).mpr h3) q
        · exact IH _ h4 H locs cells slots als I
    · obtain ⟨x, y, r, rfl, h2⟩ := v_rr hr
      obtain ⟨hg, h3⟩ := v_brg h2
      refine lv_acmp_ne (rx := x.map (sk_ad E)) (ry := y.map (sk_ad E)) hx hb hd ht (fun q => ?_) (fun q => ?_)
      · rcases h3 with ⟨-, h4⟩ | ⟨h3, -⟩
        · exact IH _ h4 H locs cells slots als I
        · exact absurd (fun w => q ((inj x y hg).mpr w)) h3
      · rcases h3 with ⟨h3, -⟩ | ⟨-, h4⟩
        · exact absurd ((inj x y hg).mp q) h3
        · exact IH _ h4 H locs cells slots als I
  case ifnull o =>
    obtain ⟨hd, rfl, hx1⟩ := ok_sp hok rfl
    have ht := of_decide_eq_true hx1
    obtain ⟨x, r, rfl, h2⟩ := v_r hr
    intro H locs cells slots als I
    cases x with
    | none =>
      rcases v_br h2 with ⟨-, h4⟩ | ⟨h3, -⟩
      · exact lv_ifnullN hx hb hd ht (IH _ h4 H locs cells slots als I)
      · exact absurd rfl h3
    | some a =>
      rcases v_br h2 with ⟨h3, -⟩ | ⟨-, h4⟩
      · cases h3
      · exact lv_ifnull hx hb hd (IH _ h4 H locs cells slots als I)
  case ifnonnull o =>
    obtain ⟨hd, rfl, hx1⟩ := ok_sp hok rfl
    have ht := of_decide_eq_true hx1
    obtain ⟨x, r, rfl, h2⟩ := v_r hr
    intro H locs cells slots als I
    cases x with
    | none =>
      rcases v_br h2 with ⟨h3, -⟩ | ⟨-, h4⟩
      · exact absurd rfl h3
      · exact lv_ifnonnullN hx hb hd (IH _ h4 H locs cells slots als I)
    | some a =>
      rcases v_br h2 with ⟨-, h4⟩ | ⟨h3, -⟩
      · exact lv_ifnonnull hx hb hd ht (IH _ h4 H locs cells slots als I)
      · exact absurd (fun q => by cases q) h3
  case tableswitch df lo hi offs =>
    have hok : (ok_dec m pc nx (.tableswitch df lo hi offs) && ok_x rec? m pc e1 e2 e3 e4 e5 ev ec (.tableswitch df lo hi offs)) = true := hok
    rw [Bool.and_eq_true] at hok
    obtain ⟨hd, hx1⟩ := hok
    have hd : decode (sk_b m) pc = .ok (.tableswitch df lo hi offs, nx - pc) := of_decide_eq_true hd
    simp only [ok_x, Bool.and_eq_true, decide_eq_true_eq] at hx1
    obtain ⟨⟨⟨ht, hsw⟩, hcs⟩, hhi⟩ := hx1
    obtain ⟨x, r, rfl, h2⟩ := v_i hr
    intro H locs cells slots als I
    rcases v_sw h2 with ⟨t, h3, h4⟩ | ⟨h3, h4⟩
    · have h5 := List.all_eq_true.mp hsw _ h3
      simp only [Bool.and_eq_true, decide_eq_true_eq] at h5
      obtain ⟨h5, h6⟩ := h5
      cases ho : offs[(x.toInt - lo).toNat]? with
      | none => rw [ho] at h6; cases h6
      | some o =>
        rw [ho] at h6
        have h6 := of_decide_eq_true h6
        have hlt : (x.toInt - lo).toNat < offs.size := (Array.getElem?_eq_some_iff.mp ho).1
        exact lv_tableIn hx hb hd (by omega) (by omega) ho h6 (IH _ h4 H locs cells slots als I)
    · refine lv_tableOut hx hb hd ?_ ht (IH _ h4 H locs cells slots als I)
      by_cases q1 : x.toInt < lo
      · exact Or.inl q1
      · by_cases q2 : hi < x.toInt
        · exact Or.inr q2
        · exfalso
          have hm : x.toInt ∈ ec.map (fun c => c.1.toInt) := by
            rw [hcs]
            exact List.mem_map.mpr ⟨(x.toInt - lo).toNat, List.mem_range.mpr (by omega), by omega⟩
          obtain ⟨q, hq1, hq2⟩ := List.mem_map.mp hm
          exact h3 q hq1 (Int32.toInt_inj.mp hq2.symm)
  case lookupswitch df ps =>
    have hok : (ok_dec m pc nx (.lookupswitch df ps) && ok_x rec? m pc e1 e2 e3 e4 e5 ev ec (.lookupswitch df ps)) = true := hok
    rw [Bool.and_eq_true] at hok
    obtain ⟨hd, hx1⟩ := hok
    have hd : decode (sk_b m) pc = .ok (.lookupswitch df ps, nx - pc) := of_decide_eq_true hd
    simp only [ok_x, Bool.and_eq_true, decide_eq_true_eq] at hx1
    obtain ⟨⟨ht, hsrt⟩, hps⟩ := hx1
    obtain ⟨x, r, rfl, h2⟩ := v_i hr
    intro H locs cells slots als I
    obtain ⟨t, h3, h4⟩ := v_swl (pc := pc) (df := df) ht ec h2
    refine lv_lookup (off := (t : Int) - pc) hx hb hd hsrt (by rw [hps]; exact h3) (by omega) (IH _ h4 H locs cells slots als I)
  case ireturn =>
    obtain ⟨hd, rfl, hx1⟩ := ok_sp hok rfl
    have hx1 := of_decide_eq_true hx1
    simp only [sk_ac0, ac_ireturn] at hr
    split at hr
    · rename_i x
      obtain ⟨h1, rfl⟩ := v_rt hr
      intro H locs cells slots als I
      refine HR pc H locs cells slots als I.1 I.2.1 I.2.2.1 I.2.2.2.1 (Or.inl ⟨x, rfl, hd, ?_⟩)
      rcases hx1 with ⟨q1, rfl⟩ | ⟨q1, rfl⟩ | ⟨q1, rfl⟩ | ⟨q1, rfl⟩
      · exact Or.inl q1
      · exact Or.inr (Or.inl ⟨q1, h1⟩)
      · exact Or.inr (Or.inr (Or.inl ⟨q1, h1⟩))
      · exact Or.inr (Or.inr (Or.inr ⟨q1, h1⟩))
    · exact (v_no hr).elim
  case lreturn =>
    obtain ⟨hd, rfl, hx1⟩ := ok_sp hok rfl
    have hx1 := of_decide_eq_true hx1
    simp only [sk_ac0, ac_lreturn] at hr
    split at hr
    · rename_i x
      obtain ⟨h1, rfl⟩ := v_rt hr
      intro H locs cells slots als I
      exact HR pc H locs cells slots als I.1 I.2.1 I.2.2.1 I.2.2.2.1 (Or.inr (Or.inl ⟨x, rfl, hd, hx1⟩))
    · exact (v_no hr).elim
  case areturn =>
    obtain ⟨hd, rfl, hx1⟩ := ok_sp hok rfl
    have hx2 : (∃ n, sk_rt m = some (.object n)) ∨ ∃ t, sk_rt m = some (.array t) := by
      have hx1 : (match sk_rt m with
        | some (.object _) => true
        | some (.array _) => true
        | _ => false) = true := hx1
      split at hx1
      · rename_i n hq; exact Or.inl ⟨n, hq⟩
      · rename_i n hq; exact Or.inr ⟨n, hq⟩
      · cases hx1
    simp only [sk_ac0, ac_areturn] at hr
    split at hr
    · rename_i x
      obtain ⟨h1, rfl⟩ := v_rt hr
      intro H locs cells slots als I
      exact HR pc H locs cells slots als I.1 I.2.1 I.2.2.1 I.2.2.2.1 (Or.inr (Or.inr (Or.inl ⟨x, rfl, hd, hx2⟩)))
    · exact (v_no hr).elim
  case return_ =>
    obtain ⟨hd, rfl, hx1⟩ := ok_sp hok rfl
    have hx1 := of_decide_eq_true hx1
    simp only [sk_ac0, ac_return_] at hr
    split at hr
    · obtain ⟨h1, rfl⟩ := v_rt hr
      intro H locs cells slots als I
      exact HR pc H locs cells slots als I.1 I.2.1 I.2.2.1 I.2.2.2.1 (Or.inr (Or.inr (Or.inr ⟨rfl, hd, hx1⟩)))
    · exact (v_no hr).elim
  case getfield k =>
    obtain ⟨hd, rfl, hx1⟩ := ok_sp hok rfl
    obtain ⟨x, r, rfl, h2⟩ := v_r hr
    obtain ⟨a, rfl, h3, h4⟩ := v_at h2
    intro H locs cells slots als I
    by_cases h51 : e1 = 51
    · subst h51
      exact sm_gets C I.1 hx1 h3 I.2.1 hd (IH _ h4 H locs cells slots als I)
    · have hx2 : ok_fld m k e1 e2 e3 = true := by
        simp only [ok_x] at hx1
        first
          | exact hx1
          | (split at hx1
             · exact absurd rfl h51
             · exact hx1)
      exact sm_getf C I.1 hx2 h3 hd (IH _ h4 H locs cells slots als I)
  case putfield k =>
    obtain ⟨hd, rfl, hx1⟩ := ok_sp hok rfl
    have hx1 : (ok_fld m k e1 e2 e3 && ok_fin m e1 e2) = true := hx1
    rw [Bool.and_eq_true] at hx1
    obtain ⟨ho, hf⟩ := hx1
    simp only [sk_ac0, ac_putfield] at hr
    split at hr
    · obtain ⟨x, v, r, rfl, h2⟩ := v_ri hr
      obtain ⟨a, rfl, h3, h4⟩ := v_at h2
      intro H locs cells slots als I
      exact sm_putI C I.1 ho hf h3 (Or.inl rfl) I.2.1 hd (fun H1 locs1 q1 q2 => IH _ h4 H1 locs1 cells slots als ⟨q1, q2, I.2.2.1, I.2.2.2.1, I.2.2.2.2⟩)
    · split at hr
      · obtain ⟨a, rfl, h3, h4⟩ := v_at hr
        intro H locs cells slots als I
        exact sm_putJ C I.1 ho hf h3 I.2.1 hd (fun H1 locs1 q1 q2 => IH _ h4 H1 locs1 cells slots als ⟨q1, q2, I.2.2.1, I.2.2.2.1, I.2.2.2.2⟩)
      · exact (v_no hr).elim
    · split at hr
      · obtain ⟨a, rfl, h3, h4⟩ := v_at hr
        intro H locs cells slots als I
        exact sm_putR C I.1 ho hf h3 I.2.1 hd (fun H1 locs1 q1 q2 => IH _ h4 H1 locs1 cells slots als ⟨q1, q2, I.2.2.1, I.2.2.2.1, I.2.2.2.2⟩)
      · exact (v_no hr).elim
    · rename_i t1 t2 t3
      obtain ⟨x, v, r, rfl, h2⟩ := v_ri hr
      obtain ⟨a, rfl, h3, h4⟩ := v_at h2
      intro H locs cells slots als I
      exact sm_putI C I.1 ho hf h3.1 (Or.inr ⟨t2, t3, h3.2⟩) I.2.1 hd (fun H1 locs1 q1 q2 => IH _ h4 H1 locs1 cells slots als ⟨q1, q2, I.2.2.1, I.2.2.2.1, I.2.2.2.2⟩)
  case getstatic k =>
    obtain ⟨hd, rfl, hx1⟩ := ok_sp hok rfl
    obtain ⟨-, z2, -, -, z5, z6, z7, z8, z9, -, -, -, -, -, z15⟩ := hX
    simp only [sk_ac0, ac_getstatic] at hr
    split at hr
    · have h1 := v_go hr
      intro H locs cells slots als I
      have K := IH _ h1 H locs cells slots als I
      rcases ev with v | v | v
      · simp only [ok_x, Bool.or_eq_true, Bool.and_eq_true, decide_eq_true_eq] at hx1
        rcases hx1 with (⟨rfl, hw | hw⟩ | ⟨rfl, hw⟩) | ⟨rfl, hw⟩
        · exact va_gets hx hb z5 I.2.1 hown (hts _ (ok_w_mem hw)) (fun _ h => h) hd K
        · exact va_gets hx hb z6 I.2.1 hown (hts _ (ok_w_mem hw)) (fun _ h => h) hd K
        · exact va_gets hx hb z7 I.2.1 hown (hts _ (ok_w_mem hw)) (fun _ h => h) hd K
        · exact va_gets hx hb z8 I.2.1 hown (hts _ (ok_w_mem hw)) (fun _ h => h) hd K
      · cases hx1
      · cases v with
        | none => cases hx1
        | some a =>
          by_cases ha : a = 1
          · subst ha
            have hx1 := of_decide_eq_true hx1
            obtain ⟨q1, rfl⟩ := hx1
            have hw : (Cond.fieldLinkNest (sk_y m).cls sk_nst.2 "SkittleRow" "LAWS_THAT_HIT" "[J" "SkittleRow").before args s = true := by
              rw [q1]
              exact va_Nw.use rfl z15
            have e1 : sv E (.inr (.inr (some 1))) = .ref (E.2.1 1) := by
              show Value.ref (sk_ad E 1) = _
              rw [sk_ad_ext (by omega)]
            have K : W p l e Rm s mm args below meth cd H locs cells slots Q (F0 mm (pc + 3) als (sv E (.inr (.inr (some 1))) :: st.map (sv E))) := K
            rw [e1] at K
            exact va_getsN hx hb z2 I.2.1 hown hw (fun _ h => h) hd K
          · simp only [ok_x] at hx1
            split at hx1
            · rename_i hq; cases hq
            · rename_i hq
              exact absurd (by injection hq with hq; injection hq with hq; injection hq with hq) ha
            · cases hx1
    · rename_i hne
      have h1 := v_go hr
      intro H locs cells slots als I
      have hw : ok_w m (.fieldLink (sk_y m).cls k "jdk/internal/util/Preconditions" "SIOOBE_FORMATTER" "Ljava/util/function/BiFunction;") = true := by
        simp only [ok_x] at hx1
        exact hx1
      have K := IH _ h1 H locs cells slots als I
      have e5' : hR h 0 2 = hR E.2.2.2.2 0 2 := by rw [(I.1.2.2.2.2 0 (by omega)).2.2.2.2]
      have K : W p l e Rm s mm args below meth cd H locs cells slots Q (F0 mm (pc + 3) als (va_rf ((hR h 0 2).map (sk_ad E)) :: st.map (sv E))) := K
      rw [e5'] at K
      exact va_gets hx hb z9 I.2.1 hown (hts _ (ok_w_mem hw)) (fun _ h => h) hd K
  case new k =>
    obtain ⟨hd, rfl, hx1⟩ := ok_sp hok rfl
    have h1 := v_go hr
    have hM := IM _ h1
    intro H locs cells slots als I
    have m1 : hn h + 1 ≤ hn R.1 := hM.1
    have m2 : hs h + e2 ≤ hs R.1 := hM.2
    refine sm_new C I.1 hx1 I.2.1 (by have := I.2.2.1; have := hRm.2.1; dsimp only at *; omega) (by have := I.2.2.2.1; have := hRm.2.2; dsimp only at *; omega) hd (fun H1 q1 q2 => ?_)
    exact IH _ h1 H1 locs (cells + 1) (slots + e2) als ⟨q1, q2, by have := I.2.2.1; dsimp only at *; show hn h + 1 = _; omega, by have := I.2.2.2.1; dsimp only at *; show hs h + e2 = _; omega, I.2.2.2.2⟩
  case newarray t =>
    obtain ⟨hd, rfl, hx1⟩ := ok_sp hok rfl
    obtain ⟨n, r, rfl, h2⟩ := v_i hr
    obtain ⟨h3, h1⟩ := v_ck h2
    have hM := IM _ h1
    intro H locs cells slots als I
    have m1 : hn h + 1 ≤ hn R.1 := hM.1
    have m2 : hs h + n.toNatClampNeg ≤ hs R.1 := hM.2
    refine sm_newa C I.1 (of_decide_eq_true hx1) h3 I.2.1 (by have := I.2.2.1; have := hRm.2.1; dsimp only at *; omega) (by have := I.2.2.2.1; have := hRm.2.2; dsimp only at *; omega) hd (fun H1 q1 q2 => ?_)
    exact IH _ h1 H1 locs (cells + 1) (slots + n.toNatClampNeg) als ⟨q1, q2, by have := I.2.2.1; dsimp only at *; show hn h + 1 = _; omega, by have := I.2.2.2.1; dsimp only at *; show hs h + n.toNatClampNeg = _; omega, I.2.2.2.2⟩
  case anewarray k =>
    obtain ⟨hd, rfl, hx1⟩ := ok_sp hok rfl
    obtain ⟨n, r, rfl, h2⟩ := v_i hr
    obtain ⟨h3, h1⟩ := v_ck h2
    have hM := IM _ h1
    intro H locs cells slots als I
    have m1 : hn h + 1 ≤ hn R.1 := hM.1
    have m2 : hs h + n.toNatClampNeg ≤ hs R.1 := hM.2
    refine sm_newq C I.1 hx1 h3 I.2.1 (by have := I.2.2.1; have := hRm.2.1; dsimp only at *; omega) (by have := I.2.2.2.1; have := hRm.2.2; dsimp only at *; omega) hd (fun H1 q1 q2 => ?_)
    exact IH _ h1 H1 locs (cells + 1) (slots + n.toNatClampNeg) als ⟨q1, q2, by have := I.2.2.1; dsimp only at *; show hn h + 1 = _; omega, by have := I.2.2.2.1; dsimp only at *; show hs h + n.toNatClampNeg = _; omega, I.2.2.2.2⟩
  case arraylength =>
    obtain ⟨hd, rfl, hx1⟩ := ok_sp hok rfl
    obtain ⟨x, r, rfl, h2⟩ := v_r hr
    obtain ⟨a, rfl, h3, h4⟩ := v_at h2
    exact fun H locs cells slots als I => sm_len C I.1 h3 I.2.1 hd (IH _ h4 H locs cells slots als I)
  case iaload =>
    obtain ⟨hd, rfl, hx1⟩ := ok_sp hok rfl
    obtain ⟨x, i, r, rfl, h2⟩ := v_ri hr
    obtain ⟨a, rfl, h3, h4⟩ := v_at h2
    exact fun H locs cells slots als I => sm_iald C I.1 h3 I.2.1 hd (IH _ h4 H locs cells slots als I)
  case baload =>
    obtain ⟨hd, rfl, hx1⟩ := ok_sp hok rfl
    obtain ⟨x, i, r, rfl, h2⟩ := v_ri hr
    obtain ⟨a, rfl, h3, h4⟩ := v_at h2
    exact fun H locs cells slots als I => sm_bald C I.1 h3 I.2.1 hd (IH _ h4 H locs cells slots als I)
  case caload =>
    obtain ⟨hd, rfl, hx1⟩ := ok_sp hok rfl
    obtain ⟨x, i, r, rfl, h2⟩ := v_ri hr
    obtain ⟨a, rfl, h3, h4⟩ := v_at h2
    exact fun H locs cells slots als I => sm_cald C I.1 h3 hd (IH _ h4 H locs cells slots als I)
  case laload =>
    obtain ⟨hd, rfl, hx1⟩ := ok_sp hok rfl
    obtain ⟨x, i, r, rfl, h2⟩ := v_ri hr
    obtain ⟨a, rfl, h3, h4⟩ := v_at h2
    exact fun H locs cells slots als I => sm_lald C I.1 h3 I.2.1 hd (IH _ h4 H locs cells slots als I)
  case aaload =>
    obtain ⟨hd, rfl, hx1⟩ := ok_sp hok rfl
    obtain ⟨x, i, r, rfl, h2⟩ := v_ri hr
    obtain ⟨a, rfl, h3, h4⟩ := v_at h2
    exact fun H locs cells slots als I => sm_aald C I.1 h3 hd (IH _ h4 H locs cells slots als I)
  case iastore =>
    obtain ⟨hd, rfl, hx1⟩ := ok_sp hok rfl
    obtain ⟨x, i, v, r, rfl, h2⟩ := v_rii hr
    obtain ⟨a, rfl, h3, h4⟩ := v_at h2
    exact fun H locs cells slots als I => sm_iast C I.1 h3 I.2.1 hd (fun H1 locs1 q1 q2 => IH _ h4 H1 locs1 cells slots als ⟨q1, q2, I.2.2.1, I.2.2.2.1, I.2.2.2.2⟩)
  case bastore =>
    obtain ⟨hd, rfl, hx1⟩ := ok_sp hok rfl
    obtain ⟨x, i, v, r, rfl, h2⟩ := v_rii hr
    obtain ⟨a, rfl, h3, h4⟩ := v_at h2
    exact fun H locs cells slots als I => sm_bast C I.1 h3 I.2.1 hd (fun H1 locs1 q1 q2 => IH _ h4 H1 locs1 cells slots als ⟨q1, q2, I.2.2.1, I.2.2.2.1, I.2.2.2.2⟩)
  case castore =>
    obtain ⟨hd, rfl, hx1⟩ := ok_sp hok rfl
    obtain ⟨x, i, v, r, rfl, h2⟩ := v_rii hr
    obtain ⟨a, rfl, h3, h4⟩ := v_at h2
    exact fun H locs cells slots als I => sm_cast C I.1 h3 I.2.1 hd (fun H1 locs1 q1 q2 => IH _ h4 H1 locs1 cells slots als ⟨q1, q2, I.2.2.1, I.2.2.2.1, I.2.2.2.2⟩)
  case lastore =>
    obtain ⟨hd, rfl, hx1⟩ := ok_sp hok rfl
    obtain ⟨x, i, v, r, rfl, h2⟩ := v_ril hr
    obtain ⟨a, rfl, h3, h4⟩ := v_at h2
    exact fun H locs cells slots als I => sm_last C I.1 h3 I.2.1 hd (fun H1 locs1 q1 q2 => IH _ h4 H1 locs1 cells slots als ⟨q1, q2, I.2.2.1, I.2.2.2.1, I.2.2.2.2⟩)
  case aastore =>
    obtain ⟨hd, rfl, hx1⟩ := ok_sp hok rfl
    obtain ⟨x, i, v, r, rfl, h2⟩ := v_rir hr
    obtain ⟨a, rfl, h3, h4⟩ := v_at h2
    cases v with
    | none => exact fun H locs cells slots als I => sm_aastN C I.1 ⟨h3.1, h3.2.1⟩ I.2.1 hd (fun H1 locs1 q1 q2 => IH _ h4 H1 locs1 cells slots als ⟨q1, q2, I.2.2.1, I.2.2.2.1, I.2.2.2.2⟩)
    | some b => exact fun H locs cells slots als I => sm_aast C I.1 ⟨h3.1, h3.2.1, h3.2.2.resolve_left (fun q => by cases q)⟩ I.2.1 hd (fun H1 locs1 q1 q2 => IH _ h4 H1 locs1 cells slots als ⟨q1, q2, I.2.2.1, I.2.2.2.1, I.2.2.2.2⟩)
  case invokespecial k =>
    obtain ⟨hd, rfl, hx1⟩ := ok_sp hok rfl
    simp only [sk_ac0, ac_invokespecial] at hr
    split at hr
    · have hx1 : (ok_w m (.methodLink (sk_y m).cls k objectInit) && decide (1 ≤ sk_rk m)) = true := hx1
      rw [Bool.and_eq_true, decide_eq_true_eq] at hx1
      split at hr
      · rename_i x
        cases x with
        | none => cases hr
        | some a =>
          intro H locs cells slots als I
          refine W.objInit hx hb hown (hts _ (ok_w_mem hx1.1)) (hts _ sk_obj1) (hts _ sk_obj2) rfl (I.2.2.2.2.1.trans hml.symm) rfl hd (by have := hRm.1.1; omega) (by
            have : (F0 mm pc als [Value.ref (sk_ad E a)]).monitorRoom = 0 := rfl
            show 2 * (F0 mm pc als [Value.ref (sk_ad E a)]).monitorRoom + 0 + 12 ≤ Rm.locals
            rw [this]
            have := hRm.1.2; omega) (IH _ hr H locs cells slots als I)
      · exact (v_no hr).elim
    · rename_i cm
      cases e2 with
      | zero => cases hx1
      | succ n =>
        have hx1 : (ok_call rec? m k cm n e3 e4 && decide (sk_mk cm = 2 ∧ sk_rt cm = none ∧ e5 ≠ 0)) = true := hx1
        rw [Bool.and_eq_true, decide_eq_true_eq] at hx1
        obtain ⟨ho, hnm2⟩ := hx1
        obtain ⟨o1, -, -, -, -, -, -, ⟨o8, o8'⟩, o9, -⟩ := ok_call_spec hMk ho
        obtain ⟨as, r, h1, h2, h3, h4, h5⟩ := v_inv hr
        obtain ⟨R', h6, h7, -⟩ := v_cont h5
        have h4' : ∃ a, sk_rcv as = some a ∧ hK h a = e5 := by
          rcases h4 with h4 | h4
          · exact absurd h4 hnm2.2.2
          · exact h4
        obtain ⟨a, h8, h9⟩ := h4'
        obtain ⟨bs, rfl, h10, rfl⟩ := sk_rcv_take h1 h8
        subst o8
        obtain ⟨d', g1, g2, g3⟩ := IC cm _ h R' o1 h3 h6
        have hM := IM _ h7
        obtain ⟨r1, r2⟩ := sk_room hRm.1 o9 g1 o8'
        intro H locs cells slots als I
        have i3 := I.2.2.1
        have i4 := I.2.2.2.1
        have g31 := g3.1
        have g32 := g3.2
        have m1 : hn R'.1 ≤ hn R.1 := hM.1
        have m2 : hs R'.1 ≤ hs R.1 := hM.2
        have c1 := hRm.2.1
        have c2 := hRm.2.2
        dsimp only at i3 i4
        show W p l e Rm s mm args below meth cd H locs cells slots Q (F0 mm pc als ((bs.reverse ++ .inr (.inr (some a)) :: r).map (sv E)))
        rw [List.map_append, List.map_reverse, List.map_cons]
        obtain ⟨k1, -, -, -, k5⟩ := sk_mok_spec (hMk cm o1)
        have hin : Cond.instanceMethod (sk_y cm) ∈ sk_wds := k1 _ (by unfold sk_mw; rw [hnm2.1]; simp)
        refine sm_callI (h := h) C I.1 I.2.1 I.2.2.2.2.1 hMk ho ⟨k5 hnm2.1, hnm2.2.1⟩ hin g2 h10 h2 r1 r2 (by omega) (by omega) hd (fun H1 locs1 q1 q2 => ?_)
        have K := IH _ h7 H1 locs1 (cells + (hn R'.1 - hn h)) (slots + (hs R'.1 - hs h)) als ⟨q1, q2, by show hn R'.1 = _; omega, by show hs R'.1 = _; omega, I.2.2.2.2⟩
        have K : W p l e Rm s mm args below meth cd H1 locs1 (cells + (hn R'.1 - hn h)) (slots + (hs R'.1 - hs h)) Q (F0 mm (pc + 3) als ((R'.2.toList ++ r).map (sv E))) := K
        rw [List.map_append] at K
        exact K
  case invokevirtual k =>
    obtain ⟨hd, rfl, hx1⟩ := ok_sp hok rfl
    cases e1 with
    | zero => cases hx1
    | succ cm => cases e2 with
      | zero => cases hx1
      | succ n =>
        have hx1 : (ok_call rec? m k cm n e3 e4 && decide (sk_mk cm = 1) && ok_rv cm e5) = true := hx1
        rw [Bool.and_eq_true, Bool.and_eq_true, decide_eq_true_eq] at hx1
        obtain ⟨⟨ho, hmk⟩, hrv⟩ := hx1
        obtain ⟨o1, -, -, -, -, -, -, ⟨o8, o8'⟩, o9, -⟩ := ok_call_spec hMk ho
        have hr : sk_fin t_O fc f (pc + 3) ls h (b_inv cm (n + 1) e3 e4 e5 st) = some R := hr
        obtain ⟨as, r, h1, h2, h3, h4, h5⟩ := v_inv hr
        obtain ⟨R', h6, h7, -⟩ := v_cont h5
        have h4' : ∃ a, sk_rcv as = some a ∧ hK h a = e5 := by
          rcases h4 with h4 | h4
          · rw [h4] at hrv; cases hrv
          · exact h4
        obtain ⟨a, h8, h9⟩ := h4'
        obtain ⟨bs, rfl, h10, rfl⟩ := sk_rcv_take h1 h8
        subst o8
        obtain ⟨d', g1, g2, g3⟩ := IC cm _ h R' o1 h3 h6
        have hM := IM _ h7
        obtain ⟨r1, r2⟩ := sk_room hRm.1 o9 g1 o8'
        intro H locs cells slots als I
        have i3 := I.2.2.1
        have i4 := I.2.2.2.1
        have g31 := g3.1
        have g32 := g3.2
        have m1 : hn R'.1 ≤ hn R.1 := hM.1
        have m2 : hs R'.1 ≤ hs R.1 := hM.2
        have c1 := hRm.2.1
        have c2 := hRm.2.2
        dsimp only at i3 i4
        show W p l e Rm s mm args below meth cd H locs cells slots Q (F0 mm pc als ((bs.reverse ++ .inr (.inr (some a)) :: r).map (sv E)))
        rw [List.map_append, List.map_reverse, List.map_cons]
        obtain ⟨k1, -⟩ := sk_mok_spec (hMk cm o1)
        have hin : Cond.instanceMethod (sk_y cm) ∈ sk_wds := k1 _ (by unfold sk_mw; rw [hmk]; simp)
        have hse : Cond.selects (sk_y cm).cls (sk_y cm) (sk_y cm) ∈ sk_wds := k1 _ (by unfold sk_mw; rw [hmk]; simp)
        refine sm_callV (h := h) C I.1 I.2.1 I.2.2.2.2.1 hMk ho hin hse h9 hrv g2 h10 h2 r1 r2 (by omega) (by omega) hd (fun H1 locs1 q1 q2 => ?_)
        have K := IH _ h7 H1 locs1 (cells + (hn R'.1 - hn h)) (slots + (hs R'.1 - hs h)) als ⟨q1, q2, by show hn R'.1 = _; omega, by show hs R'.1 = _; omega, I.2.2.2.2⟩
        have K : W p l e Rm s mm args below meth cd H1 locs1 (cells + (hn R'.1 - hn h)) (slots + (hs R'.1 - hs h)) Q (F0 mm (pc + 3) als ((R'.2.toList ++ r).map (sv E))) := K
        rw [List.map_append] at K
        exact K
  case invokestatic k =>
    obtain ⟨hd, rfl, hx1⟩ := ok_sp hok rfl
    cases e1 with
    | zero =>
      have hx1 : (decide (1 ≤ sk_rk m) && ok_mm m k e2) = true := hx1
      rw [Bool.and_eq_true, decide_eq_true_eq] at hx1
      obtain ⟨hk1, hw⟩ := hx1
      have hr : sk_fin t_O fc f (pc + 3) ls h (b_mm (pc + 3) e2 ls st h) = some R := hr
      obtain ⟨x, y, r, rfl, h2⟩ := v_ii hr
      have c1 := hRm.1.1
      have c2 := hRm.1.2
      have m1 := hRm.2.1
      have m2 := hRm.2.2
      split at h2
      · rename_i hcat
        have hcat := Nat.le_of_ble_eq_true hcat
        intro H locs cells slots als I
        have i3 := I.2.2.1
        have i4 := I.2.2.2.1
        dsimp only at i3 i4
        split at h2
        · have hM := IM _ (v_go h2)
          have m3 : hn h ≤ hn R.1 := hM.1
          have m4 : hs h ≤ hs R.1 := hM.2
          exact va_mmax hx hb (hml.trans I.2.2.2.2.1.symm) hown (hts _ (ok_w_mem hw)) (hts _ sk_mx1) (hts _ sk_mx0) (hts _ sk_mx2) (by omega) (by rw [sk_cat_sum]; omega) (by omega) (by omega) hd (IH _ (v_go h2) H locs cells slots als I)
        · rename_i hne
          have hM := IM _ (v_go h2)
          have m3 : hn h ≤ hn R.1 := hM.1
          have m4 : hs h ≤ hs R.1 := hM.2
          have hw : ok_w m (.methodLink (sk_y m).cls k Lib.Math.min.name) = true := by
            unfold ok_mm at hw
            split at hw
            · exact absurd rfl hne
            · exact hw
          exact va_mmin hx hb (hml.trans I.2.2.2.2.1.symm) hown (hts _ (ok_w_mem hw)) (hts _ sk_mn1) (hts _ sk_mx0) (hts _ sk_mn2) (by omega) (by rw [sk_cat_sum]; omega) (by omega) (by omega) hd (IH _ (v_go h2) H locs cells slots als I)
      · exact (v_no h2).elim
    | succ cm =>
      have hx1 : (ok_call rec? m k cm e2 e3 e4 && decide (sk_mk cm = 0)) = true := hx1
      rw [Bool.and_eq_true, decide_eq_true_eq] at hx1
      obtain ⟨ho, hmk⟩ := hx1
      obtain ⟨o1, -, -, -, -, -, -, ⟨o8, o8'⟩, o9, -⟩ := ok_call_spec hMk ho
      have hr : sk_fin t_O fc f (pc + 3) ls h (b_inv cm e2 e3 e4 0 st) = some R := hr
      obtain ⟨as, r, h1, h2, h3, h4, h5⟩ := v_inv hr
      obtain ⟨R', h6, h7, -⟩ := v_cont h5
      obtain ⟨t, t1, rfl, t3⟩ := sk_take_spec _ _ _ _ _ h1
      rw [List.append_nil] at t3
      subst o8
      obtain ⟨d', g1, g2, g3⟩ := IC cm _ h R' o1 h3 h6
      have hM := IM _ h7
      obtain ⟨r1, r2⟩ := sk_room hRm.1 o9 g1 o8'
      intro H locs cells slots als I
      have i3 := I.2.2.1
      have i4 := I.2.2.2.1
      have g31 := g3.1
      have g32 := g3.2
      have m1 : hn R'.1 ≤ hn R.1 := hM.1
      have m2 : hs R'.1 ≤ hs R.1 := hM.2
      have c1 := hRm.2.1
      have c2 := hRm.2.2
      dsimp only at i3 i4
      show W p l e Rm s mm args below meth cd H locs cells slots Q (F0 mm pc als ((t ++ r).map (sv E)))
      have t4 : t.map (sv E) = (as.map (sv E)).reverse := by rw [t3, List.map_reverse, List.reverse_reverse]
      rw [List.map_append, t4]
      obtain ⟨k1, -⟩ := sk_mok_spec (hMk cm o1)
      have hst : Cond.static (sk_y cm) ∈ sk_wds := k1 _ (by unfold sk_mw; rw [hmk]; simp)
      refine sm_callS (h := h) C I.1 I.2.1 I.2.2.2.2.1 hMk ho hst g2 (by rw [t3, List.length_reverse]; exact t1) h2 r1 r2 (by omega) (by omega) hd (fun H1 locs1 q1 q2 => ?_)
      have K := IH _ h7 H1 locs1 (cells + (hn R'.1 - hn h)) (slots + (hs R'.1 - hs h)) als ⟨q1, q2, by show hn R'.1 = _; omega, by show hs R'.1 = _; omega, I.2.2.2.2⟩
      have K : W p l e Rm s mm args below meth cd H1 locs1 (cells + (hn R'.1 - hn h)) (slots + (hs R'.1 - hs h)) Q (F0 mm (pc + 3) als ((R'.2.toList ++ r).map (sv E))) := K
      rw [List.map_append] at K
      exact K
end SkSim
