/-! ===== the entries' own check against the claim's tables ===== -/
def sk_y (m : Nat) : MethodName := (sk_nfo m).1
def sk_b (m : Nat) : ByteArray := (sk_nfo m).2.1
def sk_ml (m : Nat) : Nat := (sk_nfo m).2.2.1
def sk_rt (m : Nat) : Option FieldType := (sk_nfo m).2.2.2.1
def sk_rk (m : Nat) : Nat := (sk_nfo m).2.2.2.2.1
def sk_pn (m : Nat) : Nat := (sk_nfo m).2.2.2.2.2.1
def sk_mk (m : Nat) : Nat := (sk_nfo m).2.2.2.2.2.2.1
def sk_ci (m : Nat) : Nat := (sk_nfo m).2.2.2.2.2.2.2
def ok_w (m : Nat) (w : Cond) : Bool := decide (w ∈ sk_wl (sk_ci m))
/-- what is said of each method that is called -/
def sk_mw (m : Nat) : List Cond := Cond.code (sk_y m) (sk_b m) (sk_ml m) (sk_rt m) :: Cond.initialized (sk_y m).cls :: (match sk_mk m with
  | 0 => [Cond.static (sk_y m)]
  | 1 => [Cond.instanceMethod (sk_y m), Cond.selects (sk_y m).cls (sk_y m) (sk_y m)]
  | _ => [Cond.instanceMethod (sk_y m)])
/-- what may be called: no method of Math's -/
abbrev sk_cal (cm : Nat) : Prop := cm < 252 ∧ sk_mk cm ≠ 3
def sk_mok (m : Nat) : Bool := sk_all2 (sk_mw m) (sk_mix.getD m []) && decide ((sk_y m).cls ≠ "java/lang/invoke/MethodHandle" ∧ (sk_y m).cls ≠ "java/lang/invoke/VarHandle") && decide (plainName (sk_y m).cls = true) &&
  decide ((parseMethodDescriptor (sk_y m).desc).map (fun d => d.parameters.length) = some (sk_pn m)) && decide (sk_mk m = 2 → (sk_y m).name = "<init>")
def ok_len : Instr → Nat
  | .bipush _ => 2
  | .iload _ => 2
  | .lload _ => 2
  | .aload _ => 2
  | .istore _ => 2
  | .lstore _ => 2
  | .astore _ => 2
  | .ldc _ => 2
  | .newarray _ => 2
  | .sipush _ => 3
  | .ldc_w _ => 3
  | .ldc2_w _ => 3
  | .iinc _ _ => 3
  | .goto _ => 3
  | .ifCond _ _ => 3
  | .if_icmp _ _ => 3
  | .if_acmp _ _ => 3
  | .ifnull _ => 3
  | .ifnonnull _ => 3
  | .getfield _ => 3
  | .putfield _ => 3
  | .getstatic _ => 3
  | .new _ => 3
  | .anewarray _ => 3
  | .invokespecial _ => 3
  | .invokevirtual _ => 3
  | .invokestatic _ => 3
  | _ => 1
def ok_fld (m idx k fi tag : Nat) : Bool := match vwCl[k - 1]? with
  | some (_, T, N) => decide (1 ≤ k ∧ k ≤ 13 ∧ fi < N) && decide ((sk_ft (k - 1))[fi]? = some tag) && ok_w m (.fieldLink (sk_y m).cls idx (T fi).1 (T fi).2.1 (T fi).2.2.1)
  | none => false
def ok_fin (m k fi : Nat) : Bool := match vwCl[k - 1]? with
  | some (_, T, _) => !(T fi).2.2.2 || (decide ((sk_y m).name = "<init>") && decide ((T fi).1 = (sk_y m).cls))
  | none => false
def ok_rk (t : Option FieldType) (rk : Nat) : Bool := match t with
  | none => rk == 0
  | some .long => rk == 2
  | some (.object _) => rk == 3
  | some (.array _) => rk == 3
  | some .int => rk == 1
  | some .boolean => rk == 1
  | some .byte => rk == 1
  | some .char => rk == 1
  | _ => false
def ok_rec (rec? : Nat → Bool) (m cm : Nat) : Bool := match rec? cm with
  | true => decide (sk_rk cm + 1 ≤ sk_rk m + 32)
  | false => decide (sk_rk cm + 1 ≤ sk_rk m)
/-- a call of method cm with n things (the receiver counted where there is one) -/
def ok_call (rec? : Nat → Bool) (m idx cm n rk ml : Nat) : Bool :=
  decide (sk_cal cm) && ok_w m (.methodLink (sk_y m).cls idx (sk_y cm)) && decide (sk_pn cm = n) && decide (ml = sk_ml cm ∧ 27 + ml ≤ 48) && ok_rec rec? m cm && ok_rk (sk_rt cm) rk
def ok_mm (m k e2 : Nat) : Bool := match e2 with
  | 0 => ok_w m (.methodLink (sk_y m).cls k Lib.Math.max.name)
  | _ => ok_w m (.methodLink (sk_y m).cls k Lib.Math.min.name)
def ok_new (m idx k n : Nat) : Bool := match vwCl[k - 1]? with
  | some (C, _, N) => decide (1 ≤ k ∧ k ≤ 13 ∧ n = N) && ok_w m (.classLink (sk_y m).cls idx C) 
  | none => false
/-- the kind of a receiver -/
def ok_rv (cm k : Nat) : Bool := match k with
  | 51 => decide ((sk_y cm).cls = "java/lang/String")
  | k => match vwCl[k - 1]? with
    | some (C, _, _) => decide (1 ≤ k ∧ k ≤ 13 ∧ C = (sk_y cm).cls)
    | none => false
def ok_sw (pc : Nat) (lo : Int) (offs : Array Int) (cs : List (Int32 × Nat)) : Bool :=
  cs.all (fun c => decide (lo ≤ c.1.toInt) && (match offs[(c.1.toInt - lo).toNat]? with
    | some o => decide ((pc : Int) + o = c.2)
    | none => false))
def ok_x (rec? : Nat → Bool) (m pc e1 e2 e3 e4 e5 : Nat) (ev : sk_V) (ec : List (Int32 × Nat)) : Instr → Bool
  | .istore_n k => decide (k < sk_ml m)
  | .istore k => decide (k < sk_ml m)
  | .astore_n k => decide (k < sk_ml m)
  | .astore k => decide (k < sk_ml m)
  | .lstore_n k => decide (k + 1 < sk_ml m)
  | .lstore k => decide (k + 1 < sk_ml m)
  | .iinc k _ => decide (k < sk_ml m)
  | .goto o => decide ((pc : Int) + o = e1)
  | .ifCond _ o => decide ((pc : Int) + o = e1)
  | .if_icmp _ o => decide ((pc : Int) + o = e1)
  | .if_acmp _ o => decide ((pc : Int) + o = e1)
  | .ifnull o => decide ((pc : Int) + o = e1)
  | .ifnonnull o => decide ((pc : Int) + o = e1)
  | .ldc k => match ev with
    | .inl v => ok_w m (.constant (sk_y m).cls k v)
    | .inr (.inr (some a)) => decide (2 ≤ a) && (match sk_str[a - 2]? with
      | some q => decide (q.1 = (sk_y m).cls ∧ q.2.1 = k)
      | none => false)
    | _ => false
  | .ldc_w k => match ev with
    | .inl v => ok_w m (.constant (sk_y m).cls k v)
    | _ => false
  | .ldc2_w k => match ev with
    | .inr (.inl v) => ok_w m (.constantLong (sk_y m).cls k v)
    | _ => false
  | .tableswitch d lo hi offs => decide ((pc : Int) + d = e1) && ok_sw pc lo offs ec && decide (ec.map (fun c => c.1.toInt) = (List.range offs.size).map (fun (i : Nat) => lo + (i : Int))) && decide (hi = lo + offs.size - 1)
  | .lookupswitch d ps => decide ((pc : Int) + d = e1) && decide ((ps.toList.zip (ps.toList.drop 1)).all (fun (a, next) => a.1 < next.1) = true) && decide (ps.toList = ec.map (fun c => (c.1.toInt, (c.2 : Int) - pc)))
  | .ireturn => decide ((sk_rt m = some .int ∧ e1 = 0) ∨ (sk_rt m = some .boolean ∧ e1 = 3) ∨ (sk_rt m = some .byte ∧ e1 = 4) ∨ (sk_rt m = some .char ∧ e1 = 5))
  | .lreturn => decide (sk_rt m = some .long)
  | .areturn => match sk_rt m with
    | some (.object _) => true
    | some (.array _) => true
    | _ => false
  | .return_ => decide (sk_rt m = none)
  | .getfield k => match e1 with
    | 51 => (decide (e2 = 0 ∧ e3 = 2) && ok_w m (.fieldLink (sk_y m).cls k "java/lang/String" "value" "[B")) || (decide (e2 = 1 ∧ e3 = 0) && ok_w m (.fieldLink (sk_y m).cls k "java/lang/String" "coder" "B"))
    | _ => ok_fld m k e1 e2 e3
  | .putfield k => ok_fld m k e1 e2 e3 && ok_fin m e1 e2
  | .getstatic k => match e1 with
    | 0 => match ev with
      | .inl v => (decide (v = 1) && (ok_w m (.fieldLink (sk_y m).cls k "java/lang/String" "COMPACT_STRINGS" "Z") || ok_w m (.fieldLink (sk_y m).cls k "java/lang/StringUTF16" "$assertionsDisabled" "Z"))) || (decide (v = 0) && ok_w m (.fieldLink (sk_y m).cls k "java/lang/StringUTF16" "HI_BYTE_SHIFT" "I")) || (decide (v = 8) && ok_w m (.fieldLink (sk_y m).cls k "java/lang/StringUTF16" "LO_BYTE_SHIFT" "I"))
      | .inr (.inr (some 1)) => decide ((sk_y m).cls = sk_nst.1 ∧ k = sk_nst.2)
      | _ => false
    | _ => ok_w m (.fieldLink (sk_y m).cls k "jdk/internal/util/Preconditions" "SIOOBE_FORMATTER" "Ljava/util/function/BiFunction;")
  | .new k => ok_new m k e1 e2
  | .newarray t => decide (n_kind t ≠ 0)
  | .anewarray k => (decide (e1 = 106) && ok_w m (.classLink (sk_y m).cls k "SkittleRow$Rule")) || (decide (e1 = 107) && ok_w m (.classLink (sk_y m).cls k "SkittleRow$State")) || (decide (e1 = 108) && ok_w m (.classLink (sk_y m).cls k "SkittleRow$Stroke"))
  | .invokespecial k => match e1 with
    | 0 => ok_w m (.methodLink (sk_y m).cls k objectInit) && decide (1 ≤ sk_rk m)
    | cm + 1 => match e2 with
      | 0 => false
      | n + 1 => ok_call rec? m k cm n e3 e4 && decide (sk_mk cm = 2 ∧ sk_rt cm = none ∧ e5 ≠ 0)
  | .invokevirtual k => match e1, e2 with
    | cm + 1, n + 1 => ok_call rec? m k cm n e3 e4 && decide (sk_mk cm = 1) && ok_rv cm e5
    | _, _ => false
  | .invokestatic k => match e1 with
    | cm + 1 => ok_call rec? m k cm e2 e3 e4 && decide (sk_mk cm = 0)
    | 0 => decide (1 ≤ sk_rk m) && ok_mm m k e2
  | _ => true
def ok_dec (m pc nx : Nat) (i : Instr) : Bool := match i with
  | .tableswitch _ _ _ _ => decide (decode (sk_b m) pc = .ok (i, nx - pc))
  | .lookupswitch _ _ => decide (decode (sk_b m) pc = .ok (i, nx - pc))
  | _ => decide (decode (sk_b m) pc = .ok (i, ok_len i)) && decide (nx = pc + ok_len i)
def sk_ok (rec? : Nat → Bool) (m pc : Nat) (e : sk_E) : Bool := match e with
  | (i, (nx, e1, e2, e3, e4, e5), ev, ec, _) => ok_dec m pc nx i && ok_x rec? m pc e1 e2 e3 e4 e5 ev ec i
