/-! ===== an evaluator of the code over a memory of words; the machine is tied to it in the parts behind ===== -/
abbrev sk_V : Type := Int32 ⊕ (Int64 ⊕ Option Nat)
abbrev sk_Ls : Type := List (Option sk_V)
/-- the memory: kinds, lengths, the next address, the slots made; ints, longs, references by address and place -/
abbrev sk_H : Type := ((Nat → Nat) × (Nat → Nat) × Nat × Nat) × (Nat → Nat → Int32) × (Nat → Nat → Int64) × (Nat → Nat → Option Nat)
def hK (h : sk_H) : Nat → Nat := h.1.1
def hN (h : sk_H) : Nat → Nat := h.1.2.1
def hn (h : sk_H) : Nat := h.1.2.2.1
def hs (h : sk_H) : Nat := h.1.2.2.2
def hI (h : sk_H) : Nat → Nat → Int32 := h.2.1
def hJ (h : sk_H) : Nat → Nat → Int64 := h.2.2.1
def hR (h : sk_H) : Nat → Nat → Option Nat := h.2.2.2
def up2 {α : Type} (f : Nat → Nat → α) (a i : Nat) (v : α) : Nat → Nat → α := va_up f a (va_up (f a) i v)
def wI (h : sk_H) (a i : Nat) (v : Int32) : sk_H := (h.1, up2 h.2.1 a i v, h.2.2)
def wJ (h : sk_H) (a i : Nat) (v : Int64) : sk_H := (h.1, h.2.1, up2 h.2.2.1 a i v, h.2.2.2)
def wR (h : sk_H) (a i : Nat) (v : Option Nat) : sk_H := (h.1, h.2.1, h.2.2.1, up2 h.2.2.2 a i v)
/-- a new cell of kind k and n places, all 0 -/
def hnew (h : sk_H) (k n : Nat) : sk_H :=
  ((va_up h.1.1 h.1.2.2.1 k, va_up h.1.2.1 h.1.2.2.1 n, h.1.2.2.1 + 1, h.1.2.2.2 + n), va_up h.2.1 h.1.2.2.1 (fun _ => 0), va_up h.2.2.1 h.1.2.2.1 (fun _ => 0), va_up h.2.2.2 h.1.2.2.1 (fun _ => none))
/-- place, slots, stack, memory -/
abbrev sk_C : Type := Nat × sk_Ls × List sk_V × sk_H
abbrev sk_P : Type := (p : Prop) ×' Decidable p
abbrev sk_A : Type := sk_C ⊕ (sk_P × sk_C × sk_C) ⊕ (sk_P × sk_C) ⊕ (Int32 × List (Int32 × Nat) × sk_C) ⊕ (Option sk_V) ⊕ ((Nat × Nat × Nat) × List sk_V × List sk_V)
/-- an instruction; four numbers (a field: kind, place, tag; a call: method, how many, kind of answer, room); a constant; a switch; at a cut what lives -/
abbrev sk_E : Type := Instr × (Nat × Nat × Nat × Nat) × sk_V × List (Int32 × Nat) × Option (List Bool)
abbrev sk_T : Type := Nat → Nat → Option sk_E
abbrev sk_B : Type := Option Nat × (Nat → Option sk_A)
def b_go (c : sk_C) : sk_B := (some 0, fun _ => some (.inl c))
def b_no : sk_B := (none, fun _ => none)
def b_br (q : sk_P) (c1 c2 : sk_C) : sk_B := (some 0, fun _ => some (.inr (.inl (q, c1, c2))))
def b_ck (q : sk_P) (c : sk_C) : sk_B := (some 0, fun _ => some (.inr (.inr (.inl (q, c)))))
def b_at (r : Option Nat) (k : Nat → sk_P × sk_C) : sk_B := (r, fun a => some (.inr (.inr (.inl (k a)))))
def b_sw (x : Int32) (cs : List (Int32 × Nat)) (c : sk_C) : sk_B := (some 0, fun _ => some (.inr (.inr (.inr (.inl (x, cs, c))))))
def b_rt (v : Option sk_V) : sk_B := (some 0, fun _ => some (.inr (.inr (.inr (.inr (.inl v))))))
def b_cl (m rk ml : Nat) (args rest : List sk_V) : sk_B := (some 0, fun _ => some (.inr (.inr (.inr (.inr (.inr ((m, rk, ml), args, rest)))))))
/-- patterns of the stack -/
def s_i (st : List sk_V) (k : Int32 → List sk_V → sk_B) : sk_B := match st with
  | .inl x :: r => k x r
  | _ => b_no
def s_ii (st : List sk_V) (k : Int32 → Int32 → List sk_V → sk_B) : sk_B := match st with
  | .inl y :: .inl x :: r => k x y r
  | _ => b_no
def s_l (st : List sk_V) (k : Int64 → List sk_V → sk_B) : sk_B := match st with
  | .inr (.inl x) :: r => k x r
  | _ => b_no
def s_ll (st : List sk_V) (k : Int64 → Int64 → List sk_V → sk_B) : sk_B := match st with
  | .inr (.inl y) :: .inr (.inl x) :: r => k x y r
  | _ => b_no
def s_li (st : List sk_V) (k : Int64 → Int32 → List sk_V → sk_B) : sk_B := match st with
  | .inl y :: .inr (.inl x) :: r => k x y r
  | _ => b_no
def s_r (st : List sk_V) (k : Option Nat → List sk_V → sk_B) : sk_B := match st with
  | .inr (.inr x) :: r => k x r
  | _ => b_no
def s_rr (st : List sk_V) (k : Option Nat → Option Nat → List sk_V → sk_B) : sk_B := match st with
  | .inr (.inr y) :: .inr (.inr x) :: r => k x y r
  | _ => b_no
/-- an array and a place; with a value on top -/
def s_ri (st : List sk_V) (k : Option Nat → Int32 → List sk_V → sk_B) : sk_B := match st with
  | .inl i :: .inr (.inr x) :: r => k x i r
  | _ => b_no
def s_rii (st : List sk_V) (k : Option Nat → Int32 → Int32 → List sk_V → sk_B) : sk_B := match st with
  | .inl v :: .inl i :: .inr (.inr x) :: r => k x i v r
  | _ => b_no
def s_ril (st : List sk_V) (k : Option Nat → Int32 → Int64 → List sk_V → sk_B) : sk_B := match st with
  | .inr (.inl v) :: .inl i :: .inr (.inr x) :: r => k x i v r
  | _ => b_no
def s_rir (st : List sk_V) (k : Option Nat → Int32 → Option Nat → List sk_V → sk_B) : sk_B := match st with
  | .inr (.inr v) :: .inl i :: .inr (.inr x) :: r => k x i v r
  | _ => b_no
/-- is it of one slot -/
def v_one (v : sk_V) : Bool := match v with
  | .inr (.inl _) => false
  | _ => true
def s_1 (st : List sk_V) (k : sk_V → List sk_V → sk_B) : sk_B := match st with
  | v :: r => match v_one v with
    | true => k v r
    | false => b_no
  | _ => b_no
def s_11 (st : List sk_V) (k : sk_V → sk_V → List sk_V → sk_B) : sk_B := match st with
  | v :: w :: r => match v_one v, v_one w with
    | true, true => k v w r
    | _, _ => b_no
  | _ => b_no
/-- slots -/
def l_at : sk_Ls → Nat → Option sk_V
  | [], _ => none
  | v :: _, 0 => v
  | _ :: r, k + 1 => l_at r k
def l_i (ls : sk_Ls) (k : Nat) (f : Int32 → sk_B) : sk_B := match l_at ls k with
  | some (.inl x) => f x
  | _ => b_no
def l_l (ls : sk_Ls) (k : Nat) (f : Int64 → sk_B) : sk_B := match l_at ls k with
  | some (.inr (.inl x)) => f x
  | _ => b_no
def l_r (ls : sk_Ls) (k : Nat) (f : Option Nat → sk_B) : sk_B := match l_at ls k with
  | some (.inr (.inr x)) => f x
  | _ => b_no
/-- not a long: what stands below a stored slot -/
def v_keep (v : Option sk_V) : Option sk_V := match v with
  | some (.inr (.inl _)) => none
  | w => w
def l_s1 : sk_Ls → Nat → sk_V → sk_Ls
  | [], _, _ => []
  | _ :: r, 0, v => some v :: r
  | w :: x :: r, 1, v => v_keep w :: some v :: r
  | w :: r, k + 1, v => w :: l_s1 r k v
def l_s2 : sk_Ls → Nat → sk_V → sk_Ls
  | [], _, _ => []
  | [_], 0, _ => [none]
  | _ :: _ :: r, 0, v => some v :: none :: r
  | [w, _], 1, _ => [v_keep w, none]
  | w :: _ :: _ :: r, 1, v => v_keep w :: some v :: none :: r
  | w :: r, k + 1, v => w :: l_s2 r k v
def sk_ex : List sk_V → sk_Ls
  | [] => []
  | .inr (.inl y) :: r => some (.inr (.inl y)) :: none :: sk_ex r
  | .inl x :: r => some (.inl x) :: sk_ex r
  | .inr (.inr x) :: r => some (.inr (.inr x)) :: sk_ex r
def sk_rp : Nat → sk_Ls
  | 0 => []
  | n + 1 => none :: sk_rp n
def sk_pad : Nat → sk_Ls → sk_Ls
  | 0, _ => []
  | n + 1, [] => none :: sk_pad n []
  | n + 1, v :: r => v :: sk_pad n r
def sk_ent (ml : Nat) (args : List sk_V) : sk_Ls := sk_pad ml (sk_ex args)
def sk_kill : List Bool → sk_Ls → sk_Ls
  | b :: bs, v :: r => (match b with
    | true => v
    | false => none) :: sk_kill bs r
  | _, r => r
/-- what an index is within -/
abbrev sk_out (i : Int32) (n : Nat) : Prop := i < 0 ∨ n ≤ i.toNatClampNeg
abbrev sk_in (i : Int32) (n : Nat) : Prop := ¬ (i < 0 ∨ n ≤ i.toNatClampNeg)
/-- n things off the stack, the first below -/
def sk_take : Nat → List sk_V → List sk_V → Option (List sk_V × List sk_V)
  | 0, acc, st => some (acc, st)
  | _ + 1, _, [] => none
  | n + 1, acc, v :: r => sk_take n (v :: acc) r
def j_cond (cd : ClassFile.Cond) (x y : Int32) : sk_P := match cd with
  | .eq => ⟨x = y, inferInstance⟩
  | .ne => ⟨¬ x = y, inferInstance⟩
  | .lt => ⟨x < y, inferInstance⟩
  | .ge => ⟨y ≤ x, inferInstance⟩
  | .gt => ⟨y < x, inferInstance⟩
  | .le => ⟨x ≤ y, inferInstance⟩
/-- what a place of a field holds, by its tag: 0 a whole number, 3 a truth, 1 a long, 2 a reference -/
def f_get (h : sk_H) (a fi tag : Nat) : sk_V := match tag with
  | 1 => .inr (.inl (hJ h a fi))
  | 2 => .inr (.inr (hR h a fi))
  | _ => .inl (hI h a fi)
def a_ref (k : Nat) : Bool := Nat.ble 106 k && Nat.ble k 108
def a_any (k : Nat) : Bool := (Nat.ble 101 k && Nat.ble k 108) || (k == 201 || k == 202 || k == 204)
/-- of which kind are the things in a row of references -/
def a_of (k : Nat) : Nat := match k with
  | 106 => 7
  | 107 => 9
  | 108 => 10
  | _ => 0
def n_kind (t : ArrayType) : Nat := match t with
  | .int => 101
  | .long => 102
  | .boolean => 103
  | .byte => 104
  | .char => 105
  | _ => 0
def sk_act (e : sk_E) (pc : Nat) (ls : sk_Ls) (st : List sk_V) (h : sk_H) : sk_B := match e.1 with
  | .aconst_null => b_go (pc + 1, ls, .inr (.inr none) :: st, h)
  | .iconst n => b_go (pc + 1, ls, .inl (Int32.ofInt n) :: st, h)
  | .bipush n => b_go (pc + 2, ls, .inl (Int8.ofInt n).toInt32 :: st, h)
  | .sipush n => b_go (pc + 3, ls, .inl (Int16.ofInt n).toInt32 :: st, h)
  | .lconst n => b_go (pc + 1, ls, .inr (.inl (Int64.ofNat n)) :: st, h)
  | .ldc _ => b_go (pc + 2, ls, e.2.2.1 :: st, h)
  | .ldc_w _ => b_go (pc + 3, ls, e.2.2.1 :: st, h)
  | .ldc2_w _ => b_go (pc + 3, ls, e.2.2.1 :: st, h)
  | .iload_n k => l_i ls k fun x => b_go (pc + 1, ls, .inl x :: st, h)
  | .iload k => l_i ls k fun x => b_go (pc + 2, ls, .inl x :: st, h)
  | .lload_n k => l_l ls k fun x => b_go (pc + 1, ls, .inr (.inl x) :: st, h)
  | .lload k => l_l ls k fun x => b_go (pc + 2, ls, .inr (.inl x) :: st, h)
  | .aload_n k => l_r ls k fun x => b_go (pc + 1, ls, .inr (.inr x) :: st, h)
  | .aload k => l_r ls k fun x => b_go (pc + 2, ls, .inr (.inr x) :: st, h)
  | .istore_n k => s_i st fun x r => b_go (pc + 1, l_s1 ls k (.inl x), r, h)
  | .istore k => s_i st fun x r => b_go (pc + 2, l_s1 ls k (.inl x), r, h)
  | .lstore_n k => s_l st fun x r => b_go (pc + 1, l_s2 ls k (.inr (.inl x)), r, h)
  | .lstore k => s_l st fun x r => b_go (pc + 2, l_s2 ls k (.inr (.inl x)), r, h)
  | .astore_n k => s_r st fun x r => b_go (pc + 1, l_s1 ls k (.inr (.inr x)), r, h)
  | .astore k => s_r st fun x r => b_go (pc + 2, l_s1 ls k (.inr (.inr x)), r, h)
  | .iinc k n => l_i ls k fun x => b_go (pc + 3, l_s1 ls k (.inl (x + Int32.ofInt n)), st, h)
  | .dup => s_1 st fun v r => b_go (pc + 1, ls, v :: v :: r, h)
  | .dup_x1 => s_11 st fun v w r => b_go (pc + 1, ls, v :: w :: v :: r, h)
  | .dup2 => s_11 st fun v w r => b_go (pc + 1, ls, v :: w :: v :: w :: r, h)
  | .pop => s_1 st fun _ r => b_go (pc + 1, ls, r, h)
  | .iadd => s_ii st fun x y r => b_go (pc + 1, ls, .inl (x + y) :: r, h)
  | .isub => s_ii st fun x y r => b_go (pc + 1, ls, .inl (x - y) :: r, h)
  | .imul => s_ii st fun x y r => b_go (pc + 1, ls, .inl (x * y) :: r, h)
  | .iand => s_ii st fun x y r => b_go (pc + 1, ls, .inl (x &&& y) :: r, h)
  | .ior => s_ii st fun x y r => b_go (pc + 1, ls, .inl (x ||| y) :: r, h)
  | .ixor => s_ii st fun x y r => b_go (pc + 1, ls, .inl (x ^^^ y) :: r, h)
  | .idiv => s_ii st fun x y r => b_ck ⟨¬ y = 0, inferInstance⟩ (pc + 1, ls, .inl (x / y) :: r, h)
  | .irem => s_ii st fun x y r => b_ck ⟨¬ y = 0, inferInstance⟩ (pc + 1, ls, .inl (x - x / y * y) :: r, h)
  | .ineg => s_i st fun x r => b_go (pc + 1, ls, .inl (-x) :: r, h)
  | .ishl => s_ii st fun x y r => b_go (pc + 1, ls, .inl (x <<< (y &&& 31)) :: r, h)
  | .ishr => s_ii st fun x y r => b_go (pc + 1, ls, .inl (x >>> (y &&& 31)) :: r, h)
  | .iushr => s_ii st fun x y r => b_go (pc + 1, ls, .inl (x.toUInt32 >>> (y.toUInt32 &&& Int32.toUInt32 31)).toInt32 :: r, h)
  | .ladd => s_ll st fun x y r => b_go (pc + 1, ls, .inr (.inl (x + y)) :: r, h)
  | .lsub => s_ll st fun x y r => b_go (pc + 1, ls, .inr (.inl (x - y)) :: r, h)
  | .lmul => s_ll st fun x y r => b_go (pc + 1, ls, .inr (.inl (x * y)) :: r, h)
  | .land => s_ll st fun x y r => b_go (pc + 1, ls, .inr (.inl (x &&& y)) :: r, h)
  | .lor => s_ll st fun x y r => b_go (pc + 1, ls, .inr (.inl (x ||| y)) :: r, h)
  | .lxor => s_ll st fun x y r => b_go (pc + 1, ls, .inr (.inl (x ^^^ y)) :: r, h)
  | .ldiv => s_ll st fun x y r => b_ck ⟨¬ y = 0, inferInstance⟩ (pc + 1, ls, .inr (.inl (x / y)) :: r, h)
  | .lrem => s_ll st fun x y r => b_ck ⟨¬ y = 0, inferInstance⟩ (pc + 1, ls, .inr (.inl (x - x / y * y)) :: r, h)
  | .lshl => s_li st fun x y r => b_go (pc + 1, ls, .inr (.inl (x <<< (y.toInt64 &&& 63))) :: r, h)
  | .lshr => s_li st fun x y r => b_go (pc + 1, ls, .inr (.inl (x >>> (y.toInt64 &&& 63))) :: r, h)
  | .lushr => s_li st fun x y r => b_go (pc + 1, ls, .inr (.inl (x.toUInt64 >>> (y.toInt64.toUInt64 &&& Int64.toUInt64 63)).toInt64) :: r, h)
  | .lcmp => s_ll st fun x y r => b_go (pc + 1, ls, .inl (lg_cmp x y) :: r, h)
  | .i2l => s_i st fun x r => b_go (pc + 1, ls, .inr (.inl x.toInt64) :: r, h)
  | .l2i => s_l st fun x r => b_go (pc + 1, ls, .inl x.toInt32 :: r, h)
  | .i2b => s_i st fun x r => b_go (pc + 1, ls, .inl x.toInt8.toInt32 :: r, h)
  | .i2c => s_i st fun x r => b_go (pc + 1, ls, .inl (x.toUInt32 % 65536).toInt32 :: r, h)
  | .goto _ => b_go (e.2.1.1, ls, st, h)
  | .ifCond cd _ => s_i st fun x r => b_br (j_cond cd x 0) (e.2.1.1, ls, r, h) (pc + 3, ls, r, h)
  | .if_icmp cd _ => s_ii st fun x y r => b_br (j_cond cd x y) (e.2.1.1, ls, r, h) (pc + 3, ls, r, h)
  | .if_acmp .eq _ => s_rr st fun x y r => b_br ⟨x = y, inferInstance⟩ (e.2.1.1, ls, r, h) (pc + 3, ls, r, h)
  | .if_acmp .ne _ => s_rr st fun x y r => b_br ⟨¬ x = y, inferInstance⟩ (e.2.1.1, ls, r, h) (pc + 3, ls, r, h)
  | .ifnull _ => s_r st fun x r => b_br ⟨x = none, inferInstance⟩ (e.2.1.1, ls, r, h) (pc + 3, ls, r, h)
  | .ifnonnull _ => s_r st fun x r => b_br ⟨¬ x = none, inferInstance⟩ (e.2.1.1, ls, r, h) (pc + 3, ls, r, h)
  | .tableswitch _ _ _ _ => s_i st fun x r => b_sw x e.2.2.2.1 (e.2.1.1, ls, r, h)
  | .lookupswitch _ _ => s_i st fun x r => b_sw x e.2.2.2.1 (e.2.1.1, ls, r, h)
  | .ireturn => s_i st fun x _ => b_rt (some (.inl x))
  | .lreturn => s_l st fun x _ => b_rt (some (.inr (.inl x)))
  | .areturn => s_r st fun x _ => b_rt (some (.inr (.inr x)))
  | .return_ => b_rt none
  | .getfield _ => s_r st fun x r => b_at x fun a => (⟨hK h a = e.2.1.1, inferInstance⟩, (pc + 3, ls, f_get h a e.2.1.2.1 e.2.1.2.2.1 :: r, h))
  | .putfield _ => match e.2.1.2.2.1 with
    | 0 => s_ri st fun x v r => b_at x fun a => (⟨hK h a = e.2.1.1, inferInstance⟩, (pc + 3, ls, r, wI h a e.2.1.2.1 v))
    | 1 => match st with
      | .inr (.inl v) :: .inr (.inr x) :: r => b_at x fun a => (⟨hK h a = e.2.1.1, inferInstance⟩, (pc + 3, ls, r, wJ h a e.2.1.2.1 v))
      | _ => b_no
    | 2 => match st with
      | .inr (.inr v) :: .inr (.inr x) :: r => b_at x fun a => (⟨hK h a = e.2.1.1, inferInstance⟩, (pc + 3, ls, r, wR h a e.2.1.2.1 v))
      | _ => b_no
    | _ => s_ri st fun x v r => b_at x fun a => (⟨hK h a = e.2.1.1 ∧ (v = 0 ∨ v = 1), inferInstance⟩, (pc + 3, ls, r, wI h a e.2.1.2.1 v))
  | .getstatic _ => match e.2.1.1 with
    | 0 => b_go (pc + 3, ls, e.2.2.1 :: st, h)
    | _ => b_go (pc + 3, ls, .inr (.inr (hR h 0 2)) :: st, h)
  | .new _ => b_go (pc + 3, ls, .inr (.inr (some (hn h))) :: st, hnew h e.2.1.1 e.2.1.2.1)
  | .newarray t => s_i st fun n r => b_ck ⟨¬ n < 0 ∧ n.toNatClampNeg ≤ 60000, inferInstance⟩ (pc + 2, ls, .inr (.inr (some (hn h))) :: r, hnew h (n_kind t) n.toNatClampNeg)
  | .anewarray _ => s_i st fun n r => b_ck ⟨¬ n < 0 ∧ n.toNatClampNeg ≤ 60000, inferInstance⟩ (pc + 3, ls, .inr (.inr (some (hn h))) :: r, hnew h e.2.1.1 n.toNatClampNeg)
  | .arraylength => s_r st fun x r => b_at x fun a => (⟨a_any (hK h a) = true, inferInstance⟩, (pc + 1, ls, .inl (Int32.ofNat (hN h a)) :: r, h))
  | .iaload => s_ri st fun x i r => b_at x fun a => (⟨(hK h a = 101 ∨ hK h a = 201) ∧ sk_in i (hN h a), inferInstance⟩, (pc + 1, ls, .inl (hI h a i.toNatClampNeg) :: r, h))
  | .baload => s_ri st fun x i r => b_at x fun a => (⟨(hK h a = 103 ∨ hK h a = 104 ∨ hK h a = 204) ∧ sk_in i (hN h a), inferInstance⟩, (pc + 1, ls, .inl (hI h a i.toNatClampNeg) :: r, h))
  | .caload => s_ri st fun x i r => b_at x fun a => (⟨hK h a = 105 ∧ sk_in i (hN h a), inferInstance⟩, (pc + 1, ls, .inl (hI h a i.toNatClampNeg) :: r, h))
  | .laload => s_ri st fun x i r => b_at x fun a => (⟨(hK h a = 102 ∨ hK h a = 202) ∧ sk_in i (hN h a), inferInstance⟩, (pc + 1, ls, .inr (.inl (hJ h a i.toNatClampNeg)) :: r, h))
  | .aaload => s_ri st fun x i r => b_at x fun a => (⟨a_ref (hK h a) = true ∧ sk_in i (hN h a), inferInstance⟩, (pc + 1, ls, .inr (.inr (hR h a i.toNatClampNeg)) :: r, h))
  | .iastore => s_rii st fun x i v r => b_at x fun a => (⟨hK h a = 101 ∧ sk_in i (hN h a), inferInstance⟩, (pc + 1, ls, r, wI h a i.toNatClampNeg v))
  | .bastore => s_rii st fun x i v r => b_at x fun a => (⟨(hK h a = 104 ∨ (hK h a = 103 ∧ (v = 0 ∨ v = 1))) ∧ sk_in i (hN h a), inferInstance⟩, (pc + 1, ls, r, wI h a i.toNatClampNeg v.toInt8.toInt32))
  | .castore => s_rii st fun x i v r => b_at x fun a => (⟨hK h a = 105 ∧ sk_in i (hN h a), inferInstance⟩, (pc + 1, ls, r, wI h a i.toNatClampNeg v.toUInt32.toUInt16.toUInt32.toInt32))
  | .lastore => s_ril st fun x i v r => b_at x fun a => (⟨hK h a = 102 ∧ sk_in i (hN h a), inferInstance⟩, (pc + 1, ls, r, wJ h a i.toNatClampNeg v))
  | .aastore => s_rir st fun x i v r => b_at x fun a => (⟨a_ref (hK h a) = true ∧ sk_in i (hN h a) ∧ hK h (v.getD 0) = a_of (hK h a) ∧ ¬ v = none, inferInstance⟩, (pc + 1, ls, r, wR h a i.toNatClampNeg v))
  | .invokespecial _ => match e.2.1.1 with
    | 0 => s_r st fun _ r => b_go (pc + 3, ls, r, h)
    | m + 1 => match sk_take e.2.1.2.1 [] st with
      | some (as, r) => b_cl m e.2.1.2.2.1 e.2.1.2.2.2 as r
      | none => b_no
  | .invokevirtual _ => match sk_take e.2.1.2.1 [] st with
    | some (as, r) => b_cl (e.2.1.1 - 1) e.2.1.2.2.1 e.2.1.2.2.2 as r
    | none => b_no
  | .invokestatic _ => match sk_take e.2.1.2.1 [] st with
    | some (as, r) => b_cl (e.2.1.1 - 1) e.2.1.2.2.1 e.2.1.2.2.2 as r
    | none => b_no
  | _ => b_no
/-! answers by their kinds -/
abbrev sk_R : Type := Option (sk_H × Option sk_V)
def t_V (h : sk_H) (v : Option sk_V) : Option sk_H := match v with
  | none => some h
  | _ => none
def t_I (h : sk_H) (v : Option sk_V) : Option (sk_H × Int32) := match v with
  | some (.inl x) => some (h, x)
  | _ => none
def t_L (h : sk_H) (v : Option sk_V) : Option (sk_H × Int64) := match v with
  | some (.inr (.inl x)) => some (h, x)
  | _ => none
def t_R (h : sk_H) (v : Option sk_V) : Option (sk_H × Option Nat) := match v with
  | some (.inr (.inr x)) => some (h, x)
  | _ => none
def t_O (h : sk_H) (v : Option sk_V) : sk_R := some (h, v)
def sk_ty {τ : Type} (ret : sk_H → Option sk_V → Option τ) (r : sk_R) : Option τ := r.bind fun q => ret q.1 q.2
def sk_cont {τ : Type} (rk : Nat) (r : sk_R) (k : sk_H → List sk_V → Option τ) : Option τ := match rk with
  | 0 => (sk_ty t_V r).bind fun q => k q []
  | 1 => (sk_ty t_I r).bind fun q => k q.1 [.inl q.2]
  | 2 => (sk_ty t_L r).bind fun q => k q.1 [.inr (.inl q.2)]
  | _ => (sk_ty t_R r).bind fun q => k q.1 [.inr (.inr q.2)]
def sk_sw {τ : Type} (x : Int32) (f : Nat → Option τ) (d : Nat) : List (Int32 × Nat) → Option τ
  | [] => f d
  | c :: r => if x = c.1 then f c.2 else sk_sw x f d r
def sk_step {τ : Type} (ret : sk_H → Option sk_V → Option τ) (fc : Nat → sk_Ls → sk_H → sk_R) (f : sk_C → Option τ) (pc : Nat) (ls : sk_Ls) (h : sk_H) (A : sk_A) : Option τ := match A with
  | .inl c => f c
  | .inr (.inl q) => @ite _ q.1.1 q.1.2 (f q.2.1) (f q.2.2)
  | .inr (.inr (.inl q)) => @ite _ q.1.1 q.1.2 (f q.2) none
  | .inr (.inr (.inr (.inl q))) => sk_sw q.1 (fun t => f (t, q.2.2.2)) q.2.2.1 q.2.1
  | .inr (.inr (.inr (.inr (.inl v)))) => ret h v
  | .inr (.inr (.inr (.inr (.inr q)))) => sk_cont q.1.2.1 (fc q.1.1 (sk_ent q.1.2.2 q.2.1) h) (fun h1 vs => f (pc + 3, ls, vs ++ q.2.2, h1))
def sk_live (e : sk_E) (ls : sk_Ls) : sk_Ls := match e.2.2.2.2 with
  | some ks => sk_kill ks ls
  | none => ls
def sk_fin {τ : Type} (ret : sk_H → Option sk_V → Option τ) (fc : Nat → sk_Ls → sk_H → sk_R) (f : sk_C → Option τ) (pc : Nat) (ls : sk_Ls) (h : sk_H) (b : sk_B) : Option τ := b.1.bind fun a => (b.2 a).bind fun A => sk_step ret fc f pc ls h A
def sk_one {τ : Type} (ret : sk_H → Option sk_V → Option τ) (fc : Nat → sk_Ls → sk_H → sk_R) (f : sk_C → Option τ) (e : sk_E) (c : sk_C) : Option τ :=
  sk_fin ret fc f c.1 (sk_live e c.2.1) c.2.2.2 (sk_act e c.1 (sk_live e c.2.1) c.2.2.1 c.2.2.2)
/-- a call: the methods that call themselves spend one of d -/
def sk_call (rec? : Nat → Bool) (g : Nat → Nat → sk_C → sk_R) (d m : Nat) (ls : sk_Ls) (h : sk_H) : sk_R := match rec? m with
  | false => g d m (0, ls, [], h)
  | true => match d with
    | 0 => none
    | k + 1 => g k m (0, ls, [], h)
def sk_run (T : sk_T) (rec? : Nat → Bool) : Nat → Nat → Nat → sk_C → sk_R
  | 0, _, _, _ => none
  | n + 1, d, m, c => (T m c.1).bind fun e => sk_one t_O (sk_call rec? (sk_run T rec? n) d) (sk_run T rec? n d m) e c
