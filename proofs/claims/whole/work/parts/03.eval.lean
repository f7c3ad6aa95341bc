/-! ===== an evaluator of the code over a memory of words; the machine is tied to it in the parts behind ===== -/
abbrev sk_V : Type := Int32 ⊕ (Int64 ⊕ Option Nat)
abbrev sk_Ls : Type := List (Option sk_V)
/-- the memory: kinds, lengths, the next address, the slots made; ints, longs, references by address and place -/
abbrev sk_H : Type := ((Nat → Nat) × (Nat → Nat) × Nat × Nat) × (Nat → Nat → Int32) × (Nat → Nat → Int64) × (Nat → Nat → Option Nat)
def hK (h : sk_H) : Nat → Nat := h.1.1
def hN (h : sk_H) : Nat → Nat := h.1.2.1
def hn (h : sk_H) : Nat := h.1.2.2.1
def hs (h : sk_H) : Nat := h.1.2.2.2
def hI (h : sk_H) : Nat → Nat → Int32 := h.2.1
def hJ (h : sk_H) : Nat → Nat → Int64 := h.2.2.1
def hR (h : sk_H) : Nat → Nat → Option Nat := h.2.2.2
def up2 {α : Type} (f : Nat → Nat → α) (a i : Nat) (v : α) : Nat → Nat → α := va_up f a (va_up (f a) i v)
def wI (h : sk_H) (a i : Nat) (v : Int32) : sk_H := (h.1, up2 h.2.1 a i v, h.2.2)
def wJ (h : sk_H) (a i : Nat) (v : Int64) : sk_H := (h.1, h.2.1, up2 h.2.2.1 a i v, h.2.2.2)
def wR (h : sk_H) (a i : Nat) (v : Option Nat) : sk_H := (h.1, h.2.1, h.2.2.1, up2 h.2.2.2 a i v)
/-- a new cell of kind k and n places, all 0 -/
def hnew (h : sk_H) (k n : Nat) : sk_H :=
  ((va_up h.1.1 h.1.2.2.1 k, va_up h.1.2.1 h.1.2.2.1 n, h.1.2.2.1 + 1, h.1.2.2.2 + n), va_up h.2.1 h.1.2.2.1 (fun _ => 0), va_up h.2.2.1 h.1.2.2.1 (fun _ => 0), va_up h.2.2.2 h.1.2.2.1 (fun _ => none))
/-- place, slots, stack, memory -/
abbrev sk_C : Type := Nat × sk_Ls × List sk_V × sk_H
abbrev sk_P : Type := (p : Prop) ×' Decidable p
abbrev sk_A : Type := sk_C ⊕ (sk_P × sk_C × sk_C) ⊕ (sk_P × sk_C) ⊕ (Int32 × List (Int32 × Nat) × sk_C) ⊕ (sk_P × Option sk_V) ⊕ ((Nat × Nat × Nat × Nat) × List sk_V × List sk_V)
/-- an instruction; four numbers (a field: kind, place, tag; a call: method, how many, kind of answer, room); a constant; a switch; at a cut what lives -/
abbrev sk_E : Type := Instr × (Nat × Nat × Nat × Nat × Nat × Nat) × sk_V × List (Int32 × Nat) × Option (List Bool)
abbrev sk_T : Type := Nat → Nat → Option sk_E
abbrev sk_B : Type := Option Nat × (Nat → Option sk_A)
def b_go (c : sk_C) : sk_B := (some 0, fun _ => some (.inl c))
def b_no : sk_B := (none, fun _ => none)
def b_br (q : sk_P) (c1 c2 : sk_C) : sk_B := (some 0, fun _ => some (.inr (.inl (q, c1, c2))))
def b_ck (q : sk_P) (c : sk_C) : sk_B := (some 0, fun _ => some (.inr (.inr (.inl (q, c)))))
def b_at (r : Option Nat) (k : Nat → sk_P × sk_C) : sk_B := (r, fun a => some (.inr (.inr (.inl (k a)))))
def b_sw (x : Int32) (cs : List (Int32 × Nat)) (c : sk_C) : sk_B := (some 0, fun _ => some (.inr (.inr (.inr (.inl (x, cs, c))))))
def b_rt (q : sk_P) (v : Option sk_V) : sk_B := (some 0, fun _ => some (.inr (.inr (.inr (.inr (.inl (q, v)))))))
def b_cl (m rk ml k : Nat) (args rest : List sk_V) : sk_B := (some 0, fun _ => some (.inr (.inr (.inr (.inr (.inr ((m, rk, ml, k), args, rest)))))))
/-- patterns of the stack -/
def s_i (st : List sk_V) (k : Int32 → List sk_V → sk_B) : sk_B := match st with
  | .inl x :: r => k x r
  | _ => b_no
def s_ii (st : List sk_V) (k : Int32 → Int32 → List sk_V → sk_B) : sk_B := match st with
  | .inl y :: .inl x :: r => k x y r
  | _ => b_no
def s_l (st : List sk_V) (k : Int64 → List sk_V → sk_B) : sk_B := match st with
  | .inr (.inl x) :: r => k x r
  | _ => b_no
def s_ll (st : List sk_V) (k : Int64 → Int64 → List sk_V → sk_B) : sk_B := match st with
  | .inr (.inl y) :: .inr (.inl x) :: r => k x y r
  | _ => b_no
def s_li (st : List sk_V) (k : Int64 → Int32 → List sk_V → sk_B) : sk_B := match st with
  | .inl y :: .inr (.inl x) :: r => k x y r
  | _ => b_no
def s_r (st : List sk_V) (k : Option Nat → List sk_V → sk_B) : sk_B := match st with
  | .inr (.inr x) :: r => k x r
  | _ => b_no
def s_rr (st : List sk_V) (k : Option Nat → Option Nat → List sk_V → sk_B) : sk_B := match st with
  | .inr (.inr y) :: .inr (.inr x) :: r => k x y r
  | _ => b_no
/-- an array and a place; with a value on top -/
def s_ri (st : List sk_V) (k : Option Nat → Int32 → List sk_V → sk_B) : sk_B := match st with
  | .inl i :: .inr (.inr x) :: r => k x i r
  | _ => b_no
def s_rii (st : List sk_V) (k : Option Nat → Int32 → Int32 → List sk_V → sk_B) : sk_B := match st with
  | .inl v :: .inl i :: .inr (.inr x) :: r => k x i v r
  | _ => b_no
def s_ril (st : List sk_V) (k : Option Nat → Int32 → Int64 → List sk_V → sk_B) : sk_B := match st with
  | .inr (.inl v) :: .inl i :: .inr (.inr x) :: r => k x i v r
  | _ => b_no
def s_rir (st : List sk_V) (k : Option Nat → Int32 → Option Nat → List sk_V → sk_B) : sk_B := match st with
  | .inr (.inr v) :: .inl i :: .inr (.inr x) :: r => k x i v r
  | _ => b_no
/-- is it of one slot -/
def v_one (v : sk_V) : Bool := match v with
  | .inr (.inl _) => false
  | _ => true
def s_1 (st : List sk_V) (k : sk_V → List sk_V → sk_B) : sk_B := match st with
  | v :: r => match v_one v with
    | true => k v r
    | false => b_no
  | _ => b_no
def s_11 (st : List sk_V) (k : sk_V → sk_V → List sk_V → sk_B) : sk_B := match st with
  | v :: w :: r => match v_one v, v_one w with
    | true, true => k v w r
    | _, _ => b_no
  | _ => b_no
/-- slots -/
def l_at : sk_Ls → Nat → Option sk_V
  | [], _ => none
  | v :: _, 0 => v
  | _ :: r, k + 1 => l_at r k
def l_i (ls : sk_Ls) (k : Nat) (f : Int32 → sk_B) : sk_B := match l_at ls k with
  | some (.inl x) => f x
  | _ => b_no
def l_l (ls : sk_Ls) (k : Nat) (f : Int64 → sk_B) : sk_B := match l_at ls k with
  | some (.inr (.inl x)) => f x
  | _ => b_no
def l_r (ls : sk_Ls) (k : Nat) (f : Option Nat → sk_B) : sk_B := match l_at ls k with
  | some (.inr (.inr x)) => f x
  | _ => b_no
/-- not a long: what stands below a stored slot -/
def v_keep (v : Option sk_V) : Option sk_V := match v with
  | some (.inr (.inl _)) => none
  | w => w
def l_s1 : sk_Ls → Nat → sk_V → sk_Ls
  | [], _, _ => []
  | _ :: r, 0, v => some v :: r
  | [w], 1, _ => [v_keep w]
  | w :: _ :: r, 1, v => v_keep w :: some v :: r
  | w :: r, k + 1, v => w :: l_s1 r k v
def l_s2 : sk_Ls → Nat → sk_V → sk_Ls
  | [], _, _ => []
  | [_], 0, _ => [none]
  | _ :: _ :: r, 0, v => some v :: none :: r
  | [w], 1, _ => [v_keep w]
  | [w, _], 1, _ => [v_keep w, none]
  | w :: _ :: _ :: r, 1, v => v_keep w :: some v :: none :: r
  | w :: r, k + 1, v => w :: l_s2 r k v
def l_s1k : sk_Ls → Nat → sk_V → (sk_Ls → sk_B) → sk_B
  | [], _, _, K => K []
  | _ :: r, 0, v, K => K (some v :: r)
  | [w], 1, _, K => K [v_keep w]
  | w :: _ :: r, 1, v, K => K (v_keep w :: some v :: r)
  | w :: r, k + 1, v, K => l_s1k r k v fun r' => K (w :: r')
theorem l_s1k_eq : ∀ (ls : sk_Ls) (k : Nat) (v : sk_V) (K : sk_Ls → sk_B), l_s1k ls k v K = K (l_s1 ls k v)
  | [], _, _, K => by simp [l_s1k, l_s1]
  | _ :: r, 0, v, K => by simp [l_s1k, l_s1]
  | w :: _ :: r, 1, v, K => by simp [l_s1k, l_s1]
  | [w], 1, v, K => by simp [l_s1k, l_s1]
  | w :: r, k + 2, v, K => by
    simp only [l_s1k, l_s1]
    exact l_s1k_eq r (k + 1) v _
def l_s2k : sk_Ls → Nat → sk_V → (sk_Ls → sk_B) → sk_B
  | [], _, _, K => K []
  | [_], 0, _, K => K [none]
  | _ :: _ :: r, 0, v, K => K (some v :: none :: r)
  | [w], 1, _, K => K [v_keep w]
  | [w, _], 1, _, K => K [v_keep w, none]
  | w :: _ :: _ :: r, 1, v, K => K (v_keep w :: some v :: none :: r)
  | w :: r, k + 1, v, K => l_s2k r k v fun r' => K (w :: r')
theorem l_s2k_eq : ∀ (ls : sk_Ls) (k : Nat) (v : sk_V) (K : sk_Ls → sk_B), l_s2k ls k v K = K (l_s2 ls k v)
  | [], _, _, K => by simp [l_s2k, l_s2]
  | [_], 0, _, K => by simp [l_s2k, l_s2]
  | _ :: _ :: r, 0, v, K => by simp [l_s2k, l_s2]
  | [w, _], 1, _, K => by simp [l_s2k, l_s2]
  | w :: _ :: _ :: r, 1, v, K => by simp [l_s2k, l_s2]
  | [w], 1, v, K => by simp [l_s2k, l_s2]
  | w :: r, k + 2, v, K => by
    simp only [l_s2k, l_s2]
    exact l_s2k_eq r (k + 1) v _
def sk_ex : List sk_V → sk_Ls
  | [] => []
  | .inr (.inl y) :: r => some (.inr (.inl y)) :: none :: sk_ex r
  | .inl x :: r => some (.inl x) :: sk_ex r
  | .inr (.inr x) :: r => some (.inr (.inr x)) :: sk_ex r
def sk_rp : Nat → sk_Ls
  | 0 => []
  | n + 1 => none :: sk_rp n
def sk_pad : Nat → sk_Ls → sk_Ls
  | 0, _ => []
  | n + 1, [] => none :: sk_pad n []
  | n + 1, v :: r => v :: sk_pad n r
def sk_ent (ml : Nat) (args : List sk_V) : sk_Ls := sk_pad ml (sk_ex args)
def sk_kill : List Bool → sk_Ls → sk_Ls
  | b :: bs, v :: r => (match b with
    | true => v
    | false => none) :: sk_kill bs r
  | _, r => r
/-- what an index is within -/
abbrev sk_out (i : Int32) (n : Nat) : Prop := i < 0 ∨ n ≤ i.toNatClampNeg
abbrev sk_in (i : Int32) (n : Nat) : Prop := ¬ (i < 0 ∨ n ≤ i.toNatClampNeg)
/-- n things off the stack, the first below -/
def sk_take : Nat → List sk_V → List sk_V → Option (List sk_V × List sk_V)
  | 0, acc, st => some (acc, st)
  | _ + 1, _, [] => none
  | n + 1, acc, v :: r => sk_take n (v :: acc) r
def j_cond (cd : ClassFile.Cond) (x y : Int32) : sk_P := match cd with
  | .eq => ⟨x = y, inferInstance⟩
  | .ne => ⟨¬ x = y, inferInstance⟩
  | .lt => ⟨x < y, inferInstance⟩
  | .ge => ⟨y ≤ x, inferInstance⟩
  | .gt => ⟨y < x, inferInstance⟩
  | .le => ⟨x ≤ y, inferInstance⟩
/-- what a place of a field holds, by its tag: 0 a whole number, 3 a truth, 1 a long, 2 a reference -/
def f_get (h : sk_H) (a fi tag : Nat) : sk_V := match tag with
  | 1 => .inr (.inl (hJ h a fi))
  | 2 => .inr (.inr (hR h a fi))
  | _ => .inl (hI h a fi)
def a_ref (k : Nat) : Bool := Nat.ble 106 k && Nat.ble k 108
def a_any (k : Nat) : Bool := (Nat.ble 101 k && Nat.ble k 108) || (k == 201 || k == 202 || k == 204)
/-- of which kind are the things in a row of references -/
def a_of (k : Nat) : Nat := match k with
  | 106 => 7
  | 107 => 9
  | 108 => 10
  | _ => 0
def n_kind (t : ArrayType) : Nat := match t with
  | .int => 101
  | .long => 102
  | .boolean => 103
  | .byte => 104
  | .char => 105
  | _ => 0
/-- what an answer of a small kind may be: 0 an int, 3 a truth, 4 a byte, 5 a char -/
def r_ok (t : Nat) (x : Int32) : sk_P := match t with
  | 0 => ⟨True, inferInstance⟩
  | 3 => ⟨x = 0 ∨ x = 1, inferInstance⟩
  | 4 => ⟨x.toInt8.toInt32 = x, inferInstance⟩
  | _ => ⟨x.toUInt32.toUInt16.toUInt32.toInt32 = x, inferInstance⟩
def sk_cat : List sk_V → Nat
  | [] => 0
  | v :: r => (match v_one v with
    | true => 1
    | false => 2) + sk_cat r
def sk_rcv (as : List sk_V) : Option Nat := match as with
  | .inr (.inr r) :: _ => r
  | _ => none
def b_inv (m n rk ml k : Nat) (st : List sk_V) : sk_B := match sk_take n [] st with
  | some (as, r) => match Nat.ble (sk_cat r) 16, Nat.ble (sk_cat as) ml with
    | true, true => b_cl m rk ml k as r
    | _, _ => b_no
  | none => b_no
def ac_aconst_null (nx e1 e2 e3 e4 e5 : Nat) (ev : sk_V) (ec : List (Int32 × Nat)) (ls : sk_Ls) (st : List sk_V) (h : sk_H)  : sk_B := b_go (nx, ls, .inr (.inr none) :: st, h)
def ac_iconst (nx e1 e2 e3 e4 e5 : Nat) (ev : sk_V) (ec : List (Int32 × Nat)) (ls : sk_Ls) (st : List sk_V) (h : sk_H) (n : Int) : sk_B := b_go (nx, ls, .inl (Int32.ofInt n) :: st, h)
def ac_bipush (nx e1 e2 e3 e4 e5 : Nat) (ev : sk_V) (ec : List (Int32 × Nat)) (ls : sk_Ls) (st : List sk_V) (h : sk_H) (n : Int) : sk_B := b_go (nx, ls, .inl (Int8.ofInt n).toInt32 :: st, h)
def ac_sipush (nx e1 e2 e3 e4 e5 : Nat) (ev : sk_V) (ec : List (Int32 × Nat)) (ls : sk_Ls) (st : List sk_V) (h : sk_H) (n : Int) : sk_B := b_go (nx, ls, .inl (Int16.ofInt n).toInt32 :: st, h)
def ac_lconst (nx e1 e2 e3 e4 e5 : Nat) (ev : sk_V) (ec : List (Int32 × Nat)) (ls : sk_Ls) (st : List sk_V) (h : sk_H) (n : Fin 2) : sk_B := b_go (nx, ls, .inr (.inl (Int64.ofNat n)) :: st, h)
def ac_ldc (nx e1 e2 e3 e4 e5 : Nat) (ev : sk_V) (ec : List (Int32 × Nat)) (ls : sk_Ls) (st : List sk_V) (h : sk_H)  : sk_B := b_go (nx, ls, ev :: st, h)
def ac_ldc_w (nx e1 e2 e3 e4 e5 : Nat) (ev : sk_V) (ec : List (Int32 × Nat)) (ls : sk_Ls) (st : List sk_V) (h : sk_H)  : sk_B := b_go (nx, ls, ev :: st, h)
def ac_ldc2_w (nx e1 e2 e3 e4 e5 : Nat) (ev : sk_V) (ec : List (Int32 × Nat)) (ls : sk_Ls) (st : List sk_V) (h : sk_H)  : sk_B := b_go (nx, ls, ev :: st, h)
def ac_iload_n (nx e1 e2 e3 e4 e5 : Nat) (ev : sk_V) (ec : List (Int32 × Nat)) (ls : sk_Ls) (st : List sk_V) (h : sk_H) (k : Fin 4) : sk_B := l_i ls k fun x => b_go (nx, ls, .inl x :: st, h)
def ac_iload (nx e1 e2 e3 e4 e5 : Nat) (ev : sk_V) (ec : List (Int32 × Nat)) (ls : sk_Ls) (st : List sk_V) (h : sk_H) (k : Nat) : sk_B := l_i ls k fun x => b_go (nx, ls, .inl x :: st, h)
def ac_lload_n (nx e1 e2 e3 e4 e5 : Nat) (ev : sk_V) (ec : List (Int32 × Nat)) (ls : sk_Ls) (st : List sk_V) (h : sk_H) (k : Fin 4) : sk_B := l_l ls k fun x => b_go (nx, ls, .inr (.inl x) :: st, h)
def ac_lload (nx e1 e2 e3 e4 e5 : Nat) (ev : sk_V) (ec : List (Int32 × Nat)) (ls : sk_Ls) (st : List sk_V) (h : sk_H) (k : Nat) : sk_B := l_l ls k fun x => b_go (nx, ls, .inr (.inl x) :: st, h)
def ac_aload_n (nx e1 e2 e3 e4 e5 : Nat) (ev : sk_V) (ec : List (Int32 × Nat)) (ls : sk_Ls) (st : List sk_V) (h : sk_H) (k : Fin 4) : sk_B := l_r ls k fun x => b_go (nx, ls, .inr (.inr x) :: st, h)
def ac_aload (nx e1 e2 e3 e4 e5 : Nat) (ev : sk_V) (ec : List (Int32 × Nat)) (ls : sk_Ls) (st : List sk_V) (h : sk_H) (k : Nat) : sk_B := l_r ls k fun x => b_go (nx, ls, .inr (.inr x) :: st, h)
def ac_istore_n (nx e1 e2 e3 e4 e5 : Nat) (ev : sk_V) (ec : List (Int32 × Nat)) (ls : sk_Ls) (st : List sk_V) (h : sk_H) (k : Fin 4) : sk_B := s_i st fun x r => l_s1k ls k (.inl x) fun ls => b_go (nx, ls, r, h)
def ac_istore (nx e1 e2 e3 e4 e5 : Nat) (ev : sk_V) (ec : List (Int32 × Nat)) (ls : sk_Ls) (st : List sk_V) (h : sk_H) (k : Nat) : sk_B := s_i st fun x r => l_s1k ls k (.inl x) fun ls => b_go (nx, ls, r, h)
def ac_lstore_n (nx e1 e2 e3 e4 e5 : Nat) (ev : sk_V) (ec : List (Int32 × Nat)) (ls : sk_Ls) (st : List sk_V) (h : sk_H) (k : Fin 4) : sk_B := s_l st fun x r => l_s2k ls k (.inr (.inl x)) fun ls => b_go (nx, ls, r, h)
def ac_lstore (nx e1 e2 e3 e4 e5 : Nat) (ev : sk_V) (ec : List (Int32 × Nat)) (ls : sk_Ls) (st : List sk_V) (h : sk_H) (k : Nat) : sk_B := s_l st fun x r => l_s2k ls k (.inr (.inl x)) fun ls => b_go (nx, ls, r, h)
def ac_astore_n (nx e1 e2 e3 e4 e5 : Nat) (ev : sk_V) (ec : List (Int32 × Nat)) (ls : sk_Ls) (st : List sk_V) (h : sk_H) (k : Fin 4) : sk_B := s_r st fun x r => l_s1k ls k (.inr (.inr x)) fun ls => b_go (nx, ls, r, h)
def ac_astore (nx e1 e2 e3 e4 e5 : Nat) (ev : sk_V) (ec : List (Int32 × Nat)) (ls : sk_Ls) (st : List sk_V) (h : sk_H) (k : Nat) : sk_B := s_r st fun x r => l_s1k ls k (.inr (.inr x)) fun ls => b_go (nx, ls, r, h)
def ac_iinc (nx e1 e2 e3 e4 e5 : Nat) (ev : sk_V) (ec : List (Int32 × Nat)) (ls : sk_Ls) (st : List sk_V) (h : sk_H) (k : Nat) (n : Int) : sk_B := l_i ls k fun x => l_s1k ls k (.inl (x + Int32.ofInt n)) fun ls => b_go (nx, ls, st, h)
def ac_dup (nx e1 e2 e3 e4 e5 : Nat) (ev : sk_V) (ec : List (Int32 × Nat)) (ls : sk_Ls) (st : List sk_V) (h : sk_H)  : sk_B := s_1 st fun v r => b_go (nx, ls, v :: v :: r, h)
def ac_dup_x1 (nx e1 e2 e3 e4 e5 : Nat) (ev : sk_V) (ec : List (Int32 × Nat)) (ls : sk_Ls) (st : List sk_V) (h : sk_H)  : sk_B := s_11 st fun v w r => b_go (nx, ls, v :: w :: v :: r, h)
def ac_dup2 (nx e1 e2 e3 e4 e5 : Nat) (ev : sk_V) (ec : List (Int32 × Nat)) (ls : sk_Ls) (st : List sk_V) (h : sk_H)  : sk_B := s_11 st fun v w r => b_go (nx, ls, v :: w :: v :: w :: r, h)
def ac_pop (nx e1 e2 e3 e4 e5 : Nat) (ev : sk_V) (ec : List (Int32 × Nat)) (ls : sk_Ls) (st : List sk_V) (h : sk_H)  : sk_B := s_1 st fun _ r => b_go (nx, ls, r, h)
def ac_iadd (nx e1 e2 e3 e4 e5 : Nat) (ev : sk_V) (ec : List (Int32 × Nat)) (ls : sk_Ls) (st : List sk_V) (h : sk_H)  : sk_B := s_ii st fun x y r => b_go (nx, ls, .inl (x + y) :: r, h)
def ac_isub (nx e1 e2 e3 e4 e5 : Nat) (ev : sk_V) (ec : List (Int32 × Nat)) (ls : sk_Ls) (st : List sk_V) (h : sk_H)  : sk_B := s_ii st fun x y r => b_go (nx, ls, .inl (x - y) :: r, h)
def ac_imul (nx e1 e2 e3 e4 e5 : Nat) (ev : sk_V) (ec : List (Int32 × Nat)) (ls : sk_Ls) (st : List sk_V) (h : sk_H)  : sk_B := s_ii st fun x y r => b_go (nx, ls, .inl (x * y) :: r, h)
def ac_iand (nx e1 e2 e3 e4 e5 : Nat) (ev : sk_V) (ec : List (Int32 × Nat)) (ls : sk_Ls) (st : List sk_V) (h : sk_H)  : sk_B := s_ii st fun x y r => b_go (nx, ls, .inl (x &&& y) :: r, h)
def ac_ior (nx e1 e2 e3 e4 e5 : Nat) (ev : sk_V) (ec : List (Int32 × Nat)) (ls : sk_Ls) (st : List sk_V) (h : sk_H)  : sk_B := s_ii st fun x y r => b_go (nx, ls, .inl (x ||| y) :: r, h)
def ac_ixor (nx e1 e2 e3 e4 e5 : Nat) (ev : sk_V) (ec : List (Int32 × Nat)) (ls : sk_Ls) (st : List sk_V) (h : sk_H)  : sk_B := s_ii st fun x y r => b_go (nx, ls, .inl (x ^^^ y) :: r, h)
def ac_idiv (nx e1 e2 e3 e4 e5 : Nat) (ev : sk_V) (ec : List (Int32 × Nat)) (ls : sk_Ls) (st : List sk_V) (h : sk_H)  : sk_B := s_ii st fun x y r => b_ck ⟨¬ y = 0, inferInstance⟩ (nx, ls, .inl (x / y) :: r, h)
def ac_irem (nx e1 e2 e3 e4 e5 : Nat) (ev : sk_V) (ec : List (Int32 × Nat)) (ls : sk_Ls) (st : List sk_V) (h : sk_H)  : sk_B := s_ii st fun x y r => b_ck ⟨¬ y = 0, inferInstance⟩ (nx, ls, .inl (x - x / y * y) :: r, h)
def ac_ineg (nx e1 e2 e3 e4 e5 : Nat) (ev : sk_V) (ec : List (Int32 × Nat)) (ls : sk_Ls) (st : List sk_V) (h : sk_H)  : sk_B := s_i st fun x r => b_go (nx, ls, .inl (-x) :: r, h)
def ac_ishl (nx e1 e2 e3 e4 e5 : Nat) (ev : sk_V) (ec : List (Int32 × Nat)) (ls : sk_Ls) (st : List sk_V) (h : sk_H)  : sk_B := s_ii st fun x y r => b_go (nx, ls, .inl (x <<< (y &&& 31)) :: r, h)
def ac_ishr (nx e1 e2 e3 e4 e5 : Nat) (ev : sk_V) (ec : List (Int32 × Nat)) (ls : sk_Ls) (st : List sk_V) (h : sk_H)  : sk_B := s_ii st fun x y r => b_go (nx, ls, .inl (x >>> (y &&& 31)) :: r, h)
def ac_iushr (nx e1 e2 e3 e4 e5 : Nat) (ev : sk_V) (ec : List (Int32 × Nat)) (ls : sk_Ls) (st : List sk_V) (h : sk_H)  : sk_B := s_ii st fun x y r => b_go (nx, ls, .inl (x.toUInt32 >>> (y.toUInt32 &&& Int32.toUInt32 31)).toInt32 :: r, h)
def ac_ladd (nx e1 e2 e3 e4 e5 : Nat) (ev : sk_V) (ec : List (Int32 × Nat)) (ls : sk_Ls) (st : List sk_V) (h : sk_H)  : sk_B := s_ll st fun x y r => b_go (nx, ls, .inr (.inl (x + y)) :: r, h)
def ac_lsub (nx e1 e2 e3 e4 e5 : Nat) (ev : sk_V) (ec : List (Int32 × Nat)) (ls : sk_Ls) (st : List sk_V) (h : sk_H)  : sk_B := s_ll st fun x y r => b_go (nx, ls, .inr (.inl (x - y)) :: r, h)
def ac_lmul (nx e1 e2 e3 e4 e5 : Nat) (ev : sk_V) (ec : List (Int32 × Nat)) (ls : sk_Ls) (st : List sk_V) (h : sk_H)  : sk_B := s_ll st fun x y r => b_go (nx, ls, .inr (.inl (x * y)) :: r, h)
def ac_land (nx e1 e2 e3 e4 e5 : Nat) (ev : sk_V) (ec : List (Int32 × Nat)) (ls : sk_Ls) (st : List sk_V) (h : sk_H)  : sk_B := s_ll st fun x y r => b_go (nx, ls, .inr (.inl (x &&& y)) :: r, h)
def ac_lor (nx e1 e2 e3 e4 e5 : Nat) (ev : sk_V) (ec : List (Int32 × Nat)) (ls : sk_Ls) (st : List sk_V) (h : sk_H)  : sk_B := s_ll st fun x y r => b_go (nx, ls, .inr (.inl (x ||| y)) :: r, h)
def ac_lxor (nx e1 e2 e3 e4 e5 : Nat) (ev : sk_V) (ec : List (Int32 × Nat)) (ls : sk_Ls) (st : List sk_V) (h : sk_H)  : sk_B := s_ll st fun x y r => b_go (nx, ls, .inr (.inl (x ^^^ y)) :: r, h)
def ac_ldiv (nx e1 e2 e3 e4 e5 : Nat) (ev : sk_V) (ec : List (Int32 × Nat)) (ls : sk_Ls) (st : List sk_V) (h : sk_H)  : sk_B := s_ll st fun x y r => b_ck ⟨¬ y = 0, inferInstance⟩ (nx, ls, .inr (.inl (x / y)) :: r, h)
def ac_lrem (nx e1 e2 e3 e4 e5 : Nat) (ev : sk_V) (ec : List (Int32 × Nat)) (ls : sk_Ls) (st : List sk_V) (h : sk_H)  : sk_B := s_ll st fun x y r => b_ck ⟨¬ y = 0, inferInstance⟩ (nx, ls, .inr (.inl (x - x / y * y)) :: r, h)
def ac_lshl (nx e1 e2 e3 e4 e5 : Nat) (ev : sk_V) (ec : List (Int32 × Nat)) (ls : sk_Ls) (st : List sk_V) (h : sk_H)  : sk_B := s_li st fun x y r => b_go (nx, ls, .inr (.inl (x <<< (y.toInt64 &&& 63))) :: r, h)
def ac_lshr (nx e1 e2 e3 e4 e5 : Nat) (ev : sk_V) (ec : List (Int32 × Nat)) (ls : sk_Ls) (st : List sk_V) (h : sk_H)  : sk_B := s_li st fun x y r => b_go (nx, ls, .inr (.inl (x >>> (y.toInt64 &&& 63))) :: r, h)
def ac_lushr (nx e1 e2 e3 e4 e5 : Nat) (ev : sk_V) (ec : List (Int32 × Nat)) (ls : sk_Ls) (st : List sk_V) (h : sk_H)  : sk_B := s_li st fun x y r => b_go (nx, ls, .inr (.inl (x.toUInt64 >>> (y.toInt64.toUInt64 &&& Int64.toUInt64 63)).toInt64) :: r, h)
def ac_lcmp (nx e1 e2 e3 e4 e5 : Nat) (ev : sk_V) (ec : List (Int32 × Nat)) (ls : sk_Ls) (st : List sk_V) (h : sk_H)  : sk_B := s_ll st fun x y r => b_go (nx, ls, .inl (lg_cmp x y) :: r, h)
def ac_i2l (nx e1 e2 e3 e4 e5 : Nat) (ev : sk_V) (ec : List (Int32 × Nat)) (ls : sk_Ls) (st : List sk_V) (h : sk_H)  : sk_B := s_i st fun x r => b_go (nx, ls, .inr (.inl x.toInt64) :: r, h)
def ac_l2i (nx e1 e2 e3 e4 e5 : Nat) (ev : sk_V) (ec : List (Int32 × Nat)) (ls : sk_Ls) (st : List sk_V) (h : sk_H)  : sk_B := s_l st fun x r => b_go (nx, ls, .inl x.toInt32 :: r, h)
def ac_i2b (nx e1 e2 e3 e4 e5 : Nat) (ev : sk_V) (ec : List (Int32 × Nat)) (ls : sk_Ls) (st : List sk_V) (h : sk_H)  : sk_B := s_i st fun x r => b_go (nx, ls, .inl x.toInt8.toInt32 :: r, h)
def ac_i2c (nx e1 e2 e3 e4 e5 : Nat) (ev : sk_V) (ec : List (Int32 × Nat)) (ls : sk_Ls) (st : List sk_V) (h : sk_H)  : sk_B := s_i st fun x r => b_go (nx, ls, .inl (x.toUInt32 % 65536).toInt32 :: r, h)
def ac_goto (nx e1 e2 e3 e4 e5 : Nat) (ev : sk_V) (ec : List (Int32 × Nat)) (ls : sk_Ls) (st : List sk_V) (h : sk_H)  : sk_B := b_go (e1, ls, st, h)
def ac_ifCond (nx e1 e2 e3 e4 e5 : Nat) (ev : sk_V) (ec : List (Int32 × Nat)) (ls : sk_Ls) (st : List sk_V) (h : sk_H) (cd : ClassFile.Cond) : sk_B := s_i st fun x r => b_br (j_cond cd x 0) (e1, ls, r, h) (nx, ls, r, h)
def ac_if_icmp (nx e1 e2 e3 e4 e5 : Nat) (ev : sk_V) (ec : List (Int32 × Nat)) (ls : sk_Ls) (st : List sk_V) (h : sk_H) (cd : ClassFile.Cond) : sk_B := s_ii st fun x y r => b_br (j_cond cd x y) (e1, ls, r, h) (nx, ls, r, h)
def b_brg (g : sk_P) (q : sk_P) (c1 c2 : sk_C) : sk_B := (@ite _ g.1 g.2 (some 0) none, fun _ => some (.inr (.inl (q, c1, c2))))
def ac_if_acmp_eq (nx e1 e2 e3 e4 e5 : Nat) (ev : sk_V) (ec : List (Int32 × Nat)) (ls : sk_Ls) (st : List sk_V) (h : sk_H)  : sk_B := s_rr st fun x y r => b_brg ⟨20 ≤ x.getD 20 ∧ 20 ≤ y.getD 20, inferInstance⟩ ⟨x = y, inferInstance⟩ (e1, ls, r, h) (nx, ls, r, h)
def ac_if_acmp_ne (nx e1 e2 e3 e4 e5 : Nat) (ev : sk_V) (ec : List (Int32 × Nat)) (ls : sk_Ls) (st : List sk_V) (h : sk_H)  : sk_B := s_rr st fun x y r => b_brg ⟨20 ≤ x.getD 20 ∧ 20 ≤ y.getD 20, inferInstance⟩ ⟨¬ x = y, inferInstance⟩ (e1, ls, r, h) (nx, ls, r, h)
def ac_ifnull (nx e1 e2 e3 e4 e5 : Nat) (ev : sk_V) (ec : List (Int32 × Nat)) (ls : sk_Ls) (st : List sk_V) (h : sk_H)  : sk_B := s_r st fun x r => b_br ⟨x = none, inferInstance⟩ (e1, ls, r, h) (nx, ls, r, h)
def ac_ifnonnull (nx e1 e2 e3 e4 e5 : Nat) (ev : sk_V) (ec : List (Int32 × Nat)) (ls : sk_Ls) (st : List sk_V) (h : sk_H)  : sk_B := s_r st fun x r => b_br ⟨¬ x = none, inferInstance⟩ (e1, ls, r, h) (nx, ls, r, h)
def ac_tableswitch (nx e1 e2 e3 e4 e5 : Nat) (ev : sk_V) (ec : List (Int32 × Nat)) (ls : sk_Ls) (st : List sk_V) (h : sk_H)  : sk_B := s_i st fun x r => b_sw x ec (e1, ls, r, h)
def ac_lookupswitch (nx e1 e2 e3 e4 e5 : Nat) (ev : sk_V) (ec : List (Int32 × Nat)) (ls : sk_Ls) (st : List sk_V) (h : sk_H)  : sk_B := s_i st fun x r => b_sw x ec (e1, ls, r, h)
def ac_ireturn (nx e1 e2 e3 e4 e5 : Nat) (ev : sk_V) (ec : List (Int32 × Nat)) (ls : sk_Ls) (st : List sk_V) (h : sk_H)  : sk_B := match st with
    | [.inl x] => b_rt (r_ok e1 x) (some (.inl x))
    | _ => b_no
def ac_lreturn (nx e1 e2 e3 e4 e5 : Nat) (ev : sk_V) (ec : List (Int32 × Nat)) (ls : sk_Ls) (st : List sk_V) (h : sk_H)  : sk_B := match st with
    | [.inr (.inl x)] => b_rt ⟨True, inferInstance⟩ (some (.inr (.inl x)))
    | _ => b_no
def ac_areturn (nx e1 e2 e3 e4 e5 : Nat) (ev : sk_V) (ec : List (Int32 × Nat)) (ls : sk_Ls) (st : List sk_V) (h : sk_H)  : sk_B := match st with
    | [.inr (.inr x)] => b_rt ⟨True, inferInstance⟩ (some (.inr (.inr x)))
    | _ => b_no
def ac_return_ (nx e1 e2 e3 e4 e5 : Nat) (ev : sk_V) (ec : List (Int32 × Nat)) (ls : sk_Ls) (st : List sk_V) (h : sk_H)  : sk_B := match st with
    | [] => b_rt ⟨True, inferInstance⟩ none
    | _ => b_no
def ac_getfield (nx e1 e2 e3 e4 e5 : Nat) (ev : sk_V) (ec : List (Int32 × Nat)) (ls : sk_Ls) (st : List sk_V) (h : sk_H)  : sk_B := s_r st fun x r => b_at x fun a => (⟨hK h a = e1, inferInstance⟩, (nx, ls, f_get h a e2 e3 :: r, h))
def ac_putfield (nx e1 e2 e3 e4 e5 : Nat) (ev : sk_V) (ec : List (Int32 × Nat)) (ls : sk_Ls) (st : List sk_V) (h : sk_H)  : sk_B := match e3 with
    | 0 => s_ri st fun x v r => b_at x fun a => (⟨hK h a = e1, inferInstance⟩, (nx, ls, r, wI h a e2 v))
    | 1 => match st with
      | .inr (.inl v) :: .inr (.inr x) :: r => b_at x fun a => (⟨hK h a = e1, inferInstance⟩, (nx, ls, r, wJ h a e2 v))
      | _ => b_no
    | 2 => match st with
      | .inr (.inr v) :: .inr (.inr x) :: r => b_at x fun a => (⟨hK h a = e1, inferInstance⟩, (nx, ls, r, wR h a e2 v))
      | _ => b_no
    | _ => s_ri st fun x v r => b_at x fun a => (⟨hK h a = e1 ∧ (v = 0 ∨ v = 1), inferInstance⟩, (nx, ls, r, wI h a e2 v))
def ac_getstatic (nx e1 e2 e3 e4 e5 : Nat) (ev : sk_V) (ec : List (Int32 × Nat)) (ls : sk_Ls) (st : List sk_V) (h : sk_H)  : sk_B := match e1 with
    | 0 => b_go (nx, ls, ev :: st, h)
    | _ => b_go (nx, ls, .inr (.inr (hR h 0 2)) :: st, h)
def ac_new (nx e1 e2 e3 e4 e5 : Nat) (ev : sk_V) (ec : List (Int32 × Nat)) (ls : sk_Ls) (st : List sk_V) (h : sk_H)  : sk_B := b_go (nx, ls, .inr (.inr (some (hn h))) :: st, hnew h e1 e2)
def ac_newarray (nx e1 e2 e3 e4 e5 : Nat) (ev : sk_V) (ec : List (Int32 × Nat)) (ls : sk_Ls) (st : List sk_V) (h : sk_H) (t : ArrayType) : sk_B := s_i st fun n r => b_ck ⟨¬ n < 0 ∧ n.toNatClampNeg ≤ 60000, inferInstance⟩ (nx, ls, .inr (.inr (some (hn h))) :: r, hnew h (n_kind t) n.toNatClampNeg)
def ac_anewarray (nx e1 e2 e3 e4 e5 : Nat) (ev : sk_V) (ec : List (Int32 × Nat)) (ls : sk_Ls) (st : List sk_V) (h : sk_H)  : sk_B := s_i st fun n r => b_ck ⟨¬ n < 0 ∧ n.toNatClampNeg ≤ 60000, inferInstance⟩ (nx, ls, .inr (.inr (some (hn h))) :: r, hnew h e1 n.toNatClampNeg)
def ac_arraylength (nx e1 e2 e3 e4 e5 : Nat) (ev : sk_V) (ec : List (Int32 × Nat)) (ls : sk_Ls) (st : List sk_V) (h : sk_H)  : sk_B := s_r st fun x r => b_at x fun a => (⟨a_any (hK h a) = true, inferInstance⟩, (nx, ls, .inl (Int32.ofNat (hN h a)) :: r, h))
def ac_iaload (nx e1 e2 e3 e4 e5 : Nat) (ev : sk_V) (ec : List (Int32 × Nat)) (ls : sk_Ls) (st : List sk_V) (h : sk_H)  : sk_B := s_ri st fun x i r => b_at x fun a => (⟨(hK h a = 101 ∨ hK h a = 201) ∧ sk_in i (hN h a), inferInstance⟩, (nx, ls, .inl (hI h a i.toNatClampNeg) :: r, h))
def ac_baload (nx e1 e2 e3 e4 e5 : Nat) (ev : sk_V) (ec : List (Int32 × Nat)) (ls : sk_Ls) (st : List sk_V) (h : sk_H)  : sk_B := s_ri st fun x i r => b_at x fun a => (⟨(hK h a = 103 ∨ hK h a = 104 ∨ hK h a = 204) ∧ sk_in i (hN h a), inferInstance⟩, (nx, ls, .inl (hI h a i.toNatClampNeg) :: r, h))
def ac_caload (nx e1 e2 e3 e4 e5 : Nat) (ev : sk_V) (ec : List (Int32 × Nat)) (ls : sk_Ls) (st : List sk_V) (h : sk_H)  : sk_B := s_ri st fun x i r => b_at x fun a => (⟨hK h a = 105 ∧ sk_in i (hN h a), inferInstance⟩, (nx, ls, .inl (hI h a i.toNatClampNeg) :: r, h))
def ac_laload (nx e1 e2 e3 e4 e5 : Nat) (ev : sk_V) (ec : List (Int32 × Nat)) (ls : sk_Ls) (st : List sk_V) (h : sk_H)  : sk_B := s_ri st fun x i r => b_at x fun a => (⟨(hK h a = 102 ∨ hK h a = 202) ∧ sk_in i (hN h a), inferInstance⟩, (nx, ls, .inr (.inl (hJ h a i.toNatClampNeg)) :: r, h))
def ac_aaload (nx e1 e2 e3 e4 e5 : Nat) (ev : sk_V) (ec : List (Int32 × Nat)) (ls : sk_Ls) (st : List sk_V) (h : sk_H)  : sk_B := s_ri st fun x i r => b_at x fun a => (⟨a_ref (hK h a) = true ∧ sk_in i (hN h a), inferInstance⟩, (nx, ls, .inr (.inr (hR h a i.toNatClampNeg)) :: r, h))
def ac_iastore (nx e1 e2 e3 e4 e5 : Nat) (ev : sk_V) (ec : List (Int32 × Nat)) (ls : sk_Ls) (st : List sk_V) (h : sk_H)  : sk_B := s_rii st fun x i v r => b_at x fun a => (⟨hK h a = 101 ∧ sk_in i (hN h a), inferInstance⟩, (nx, ls, r, wI h a i.toNatClampNeg v))
def ac_bastore (nx e1 e2 e3 e4 e5 : Nat) (ev : sk_V) (ec : List (Int32 × Nat)) (ls : sk_Ls) (st : List sk_V) (h : sk_H)  : sk_B := s_rii st fun x i v r => b_at x fun a => (⟨(hK h a = 104 ∨ (hK h a = 103 ∧ (v = 0 ∨ v = 1))) ∧ sk_in i (hN h a), inferInstance⟩, (nx, ls, r, wI h a i.toNatClampNeg v.toInt8.toInt32))
def ac_castore (nx e1 e2 e3 e4 e5 : Nat) (ev : sk_V) (ec : List (Int32 × Nat)) (ls : sk_Ls) (st : List sk_V) (h : sk_H)  : sk_B := s_rii st fun x i v r => b_at x fun a => (⟨hK h a = 105 ∧ sk_in i (hN h a), inferInstance⟩, (nx, ls, r, wI h a i.toNatClampNeg v.toUInt32.toUInt16.toUInt32.toInt32))
def ac_lastore (nx e1 e2 e3 e4 e5 : Nat) (ev : sk_V) (ec : List (Int32 × Nat)) (ls : sk_Ls) (st : List sk_V) (h : sk_H)  : sk_B := s_ril st fun x i v r => b_at x fun a => (⟨hK h a = 102 ∧ sk_in i (hN h a), inferInstance⟩, (nx, ls, r, wJ h a i.toNatClampNeg v))
def ac_aastore (nx e1 e2 e3 e4 e5 : Nat) (ev : sk_V) (ec : List (Int32 × Nat)) (ls : sk_Ls) (st : List sk_V) (h : sk_H)  : sk_B := s_rir st fun x i v r => b_at x fun a => (⟨a_ref (hK h a) = true ∧ sk_in i (hN h a) ∧ (v = none ∨ hK h (v.getD 0) = a_of (hK h a)), inferInstance⟩, (nx, ls, r, wR h a i.toNatClampNeg v))
def ac_invokespecial (nx e1 e2 e3 e4 e5 : Nat) (ev : sk_V) (ec : List (Int32 × Nat)) (ls : sk_Ls) (st : List sk_V) (h : sk_H)  : sk_B := match e1 with
    | 0 => match st with
      | [.inr (.inr x)] => (x, fun _ => some (.inl (nx, ls, [], h)))
      | _ => b_no
    | m + 1 => b_inv m e2 e3 e4 e5 st
def ac_invokevirtual (nx e1 e2 e3 e4 e5 : Nat) (ev : sk_V) (ec : List (Int32 × Nat)) (ls : sk_Ls) (st : List sk_V) (h : sk_H)  : sk_B := b_inv (e1 - 1) e2 e3 e4 e5 st
/-- the greater, the less of two -/
def b_mm (nx e2 : Nat) (ls : sk_Ls) (st : List sk_V) (h : sk_H) : sk_B := s_ii st fun x y r => match Nat.ble (sk_cat r) 16 with
  | true => match e2 with
    | 0 => b_go (nx, ls, .inl (if x < y then y else x) :: r, h)
    | _ => b_go (nx, ls, .inl (if y < x then y else x) :: r, h)
  | false => b_no
def ac_invokestatic (nx e1 e2 e3 e4 e5 : Nat) (ev : sk_V) (ec : List (Int32 × Nat)) (ls : sk_Ls) (st : List sk_V) (h : sk_H)  : sk_B := match e1 with
    | 0 => b_mm nx e2 ls st h
    | m + 1 => b_inv m e2 e3 e4 0 st
def sk_ac0 (i : Instr) (nx e1 e2 e3 e4 e5 : Nat) (ev : sk_V) (ec : List (Int32 × Nat)) (ls : sk_Ls) (st : List sk_V) (h : sk_H) : sk_B := match i with
  | .aconst_null => ac_aconst_null nx e1 e2 e3 e4 e5 ev ec ls st h
  | .iconst n => ac_iconst nx e1 e2 e3 e4 e5 ev ec ls st h n
  | .bipush n => ac_bipush nx e1 e2 e3 e4 e5 ev ec ls st h n
  | .sipush n => ac_sipush nx e1 e2 e3 e4 e5 ev ec ls st h n
  | .lconst n => ac_lconst nx e1 e2 e3 e4 e5 ev ec ls st h n
  | .ldc _ => ac_ldc nx e1 e2 e3 e4 e5 ev ec ls st h
  | .ldc_w _ => ac_ldc_w nx e1 e2 e3 e4 e5 ev ec ls st h
  | .ldc2_w _ => ac_ldc2_w nx e1 e2 e3 e4 e5 ev ec ls st h
  | .iload_n k => ac_iload_n nx e1 e2 e3 e4 e5 ev ec ls st h k
  | .iload k => ac_iload nx e1 e2 e3 e4 e5 ev ec ls st h k
  | .lload_n k => ac_lload_n nx e1 e2 e3 e4 e5 ev ec ls st h k
  | .lload k => ac_lload nx e1 e2 e3 e4 e5 ev ec ls st h k
  | .aload_n k => ac_aload_n nx e1 e2 e3 e4 e5 ev ec ls st h k
  | .aload k => ac_aload nx e1 e2 e3 e4 e5 ev ec ls st h k
  | .istore_n k => ac_istore_n nx e1 e2 e3 e4 e5 ev ec ls st h k
  | .istore k => ac_istore nx e1 e2 e3 e4 e5 ev ec ls st h k
  | .lstore_n k => ac_lstore_n nx e1 e2 e3 e4 e5 ev ec ls st h k
  | .lstore k => ac_lstore nx e1 e2 e3 e4 e5 ev ec ls st h k
  | .astore_n k => ac_astore_n nx e1 e2 e3 e4 e5 ev ec ls st h k
  | .astore k => ac_astore nx e1 e2 e3 e4 e5 ev ec ls st h k
  | .iinc k n => ac_iinc nx e1 e2 e3 e4 e5 ev ec ls st h k n
  | .dup => ac_dup nx e1 e2 e3 e4 e5 ev ec ls st h
  | .dup_x1 => ac_dup_x1 nx e1 e2 e3 e4 e5 ev ec ls st h
  | .dup2 => ac_dup2 nx e1 e2 e3 e4 e5 ev ec ls st h
  | .pop => ac_pop nx e1 e2 e3 e4 e5 ev ec ls st h
  | .iadd => ac_iadd nx e1 e2 e3 e4 e5 ev ec ls st h
  | .isub => ac_isub nx e1 e2 e3 e4 e5 ev ec ls st h
  | .imul => ac_imul nx e1 e2 e3 e4 e5 ev ec ls st h
  | .iand => ac_iand nx e1 e2 e3 e4 e5 ev ec ls st h
  | .ior => ac_ior nx e1 e2 e3 e4 e5 ev ec ls st h
  | .ixor => ac_ixor nx e1 e2 e3 e4 e5 ev ec ls st h
  | .idiv => ac_idiv nx e1 e2 e3 e4 e5 ev ec ls st h
  | .irem => ac_irem nx e1 e2 e3 e4 e5 ev ec ls st h
  | .ineg => ac_ineg nx e1 e2 e3 e4 e5 ev ec ls st h
  | .ishl => ac_ishl nx e1 e2 e3 e4 e5 ev ec ls st h
  | .ishr => ac_ishr nx e1 e2 e3 e4 e5 ev ec ls st h
  | .iushr => ac_iushr nx e1 e2 e3 e4 e5 ev ec ls st h
  | .ladd => ac_ladd nx e1 e2 e3 e4 e5 ev ec ls st h
  | .lsub => ac_lsub nx e1 e2 e3 e4 e5 ev ec ls st h
  | .lmul => ac_lmul nx e1 e2 e3 e4 e5 ev ec ls st h
  | .land => ac_land nx e1 e2 e3 e4 e5 ev ec ls st h
  | .lor => ac_lor nx e1 e2 e3 e4 e5 ev ec ls st h
  | .lxor => ac_lxor nx e1 e2 e3 e4 e5 ev ec ls st h
  | .ldiv => ac_ldiv nx e1 e2 e3 e4 e5 ev ec ls st h
  | .lrem => ac_lrem nx e1 e2 e3 e4 e5 ev ec ls st h
  | .lshl => ac_lshl nx e1 e2 e3 e4 e5 ev ec ls st h
  | .lshr => ac_lshr nx e1 e2 e3 e4 e5 ev ec ls st h
  | .lushr => ac_lushr nx e1 e2 e3 e4 e5 ev ec ls st h
  | .lcmp => ac_lcmp nx e1 e2 e3 e4 e5 ev ec ls st h
  | .i2l => ac_i2l nx e1 e2 e3 e4 e5 ev ec ls st h
  | .l2i => ac_l2i nx e1 e2 e3 e4 e5 ev ec ls st h
  | .i2b => ac_i2b nx e1 e2 e3 e4 e5 ev ec ls st h
  | .i2c => ac_i2c nx e1 e2 e3 e4 e5 ev ec ls st h
  | .goto _ => ac_goto nx e1 e2 e3 e4 e5 ev ec ls st h
  | .ifCond cd _ => ac_ifCond nx e1 e2 e3 e4 e5 ev ec ls st h cd
  | .if_icmp cd _ => ac_if_icmp nx e1 e2 e3 e4 e5 ev ec ls st h cd
  | .if_acmp .eq _ => ac_if_acmp_eq nx e1 e2 e3 e4 e5 ev ec ls st h
  | .if_acmp .ne _ => ac_if_acmp_ne nx e1 e2 e3 e4 e5 ev ec ls st h
  | .ifnull _ => ac_ifnull nx e1 e2 e3 e4 e5 ev ec ls st h
  | .ifnonnull _ => ac_ifnonnull nx e1 e2 e3 e4 e5 ev ec ls st h
  | .tableswitch _ _ _ _ => ac_tableswitch nx e1 e2 e3 e4 e5 ev ec ls st h
  | .lookupswitch _ _ => ac_lookupswitch nx e1 e2 e3 e4 e5 ev ec ls st h
  | .ireturn => ac_ireturn nx e1 e2 e3 e4 e5 ev ec ls st h
  | .lreturn => ac_lreturn nx e1 e2 e3 e4 e5 ev ec ls st h
  | .areturn => ac_areturn nx e1 e2 e3 e4 e5 ev ec ls st h
  | .return_ => ac_return_ nx e1 e2 e3 e4 e5 ev ec ls st h
  | .getfield _ => ac_getfield nx e1 e2 e3 e4 e5 ev ec ls st h
  | .putfield _ => ac_putfield nx e1 e2 e3 e4 e5 ev ec ls st h
  | .getstatic _ => ac_getstatic nx e1 e2 e3 e4 e5 ev ec ls st h
  | .new _ => ac_new nx e1 e2 e3 e4 e5 ev ec ls st h
  | .newarray t => ac_newarray nx e1 e2 e3 e4 e5 ev ec ls st h t
  | .anewarray _ => ac_anewarray nx e1 e2 e3 e4 e5 ev ec ls st h
  | .arraylength => ac_arraylength nx e1 e2 e3 e4 e5 ev ec ls st h
  | .iaload => ac_iaload nx e1 e2 e3 e4 e5 ev ec ls st h
  | .baload => ac_baload nx e1 e2 e3 e4 e5 ev ec ls st h
  | .caload => ac_caload nx e1 e2 e3 e4 e5 ev ec ls st h
  | .laload => ac_laload nx e1 e2 e3 e4 e5 ev ec ls st h
  | .aaload => ac_aaload nx e1 e2 e3 e4 e5 ev ec ls st h
  | .iastore => ac_iastore nx e1 e2 e3 e4 e5 ev ec ls st h
  | .bastore => ac_bastore nx e1 e2 e3 e4 e5 ev ec ls st h
  | .castore => ac_castore nx e1 e2 e3 e4 e5 ev ec ls st h
  | .lastore => ac_lastore nx e1 e2 e3 e4 e5 ev ec ls st h
  | .aastore => ac_aastore nx e1 e2 e3 e4 e5 ev ec ls st h
  | .invokespecial _ => ac_invokespecial nx e1 e2 e3 e4 e5 ev ec ls st h
  | .invokevirtual _ => ac_invokevirtual nx e1 e2 e3 e4 e5 ev ec ls st h
  | .invokestatic _ => ac_invokestatic nx e1 e2 e3 e4 e5 ev ec ls st h
  | _ => b_no
def sk_act (e : sk_E) (ls : sk_Ls) (st : List sk_V) (h : sk_H) : sk_B := match e with
  | (i, (nx, e1, e2, e3, e4, e5), ev, ec, _) => sk_ac0 i nx e1 e2 e3 e4 e5 ev ec ls st h
/-! answers by their kinds -/
abbrev sk_R : Type := Option (sk_H × Option sk_V)
def t_V (h : sk_H) (v : Option sk_V) : Option sk_H := match v with
  | none => some h
  | _ => none
def t_I (h : sk_H) (v : Option sk_V) : Option (sk_H × Int32) := match v with
  | some (.inl x) => some (h, x)
  | _ => none
def t_L (h : sk_H) (v : Option sk_V) : Option (sk_H × Int64) := match v with
  | some (.inr (.inl x)) => some (h, x)
  | _ => none
def t_R (h : sk_H) (v : Option sk_V) : Option (sk_H × Option Nat) := match v with
  | some (.inr (.inr x)) => some (h, x)
  | _ => none
def t_O (h : sk_H) (v : Option sk_V) : sk_R := some (h, v)
def sk_ty {τ : Type} (ret : sk_H → Option sk_V → Option τ) (r : sk_R) : Option τ := r.bind fun q => ret q.1 q.2
def sk_cont {τ : Type} (rk : Nat) (r : sk_R) (k : sk_H → List sk_V → Option τ) : Option τ := match rk with
  | 0 => (sk_ty t_V r).bind fun q => k q []
  | 1 => (sk_ty t_I r).bind fun q => k q.1 [.inl q.2]
  | 2 => (sk_ty t_L r).bind fun q => k q.1 [.inr (.inl q.2)]
  | _ => (sk_ty t_R r).bind fun q => k q.1 [.inr (.inr q.2)]
def sk_sw {τ : Type} (x : Int32) (f : Nat → Option τ) (d : Nat) : List (Int32 × Nat) → Option τ
  | [] => f d
  | c :: r => if x = c.1 then f c.2 else sk_sw x f d r
def sk_step {τ : Type} (ret : sk_H → Option sk_V → Option τ) (fc : Nat → sk_Ls → sk_H → sk_R) (f : sk_C → Option τ) (nx : Nat) (ls : sk_Ls) (h : sk_H) (A : sk_A) : Option τ := match A with
  | .inl c => f c
  | .inr (.inl (⟨p, dp⟩, c1, c2)) => @ite _ p dp (f c1) (f c2)
  | .inr (.inr (.inl (⟨p, dp⟩, c))) => @ite _ p dp (f c) none
  | .inr (.inr (.inr (.inl (x, cs, c)))) => match c with
    | (t0, c) => sk_sw x (fun t => f (t, c)) t0 cs
  | .inr (.inr (.inr (.inr (.inl (⟨p, dp⟩, v))))) => @ite _ p dp (ret h v) none
  | .inr (.inr (.inr (.inr (.inr ((m, rk, ml, k), as, st))))) => match k with
    | 0 => sk_cont rk (fc m (sk_ent ml as) h) (fun h1 vs => f (nx, ls, vs ++ st, h1))
    | k + 1 => (sk_rcv as).bind fun a => if hK h a = k + 1 then sk_cont rk (fc m (sk_ent ml as) h) (fun h1 vs => f (nx, ls, vs ++ st, h1)) else none
def sk_live (e : sk_E) (ls : sk_Ls) : sk_Ls := match e with
  | (_, _, _, _, some ks) => sk_kill ks ls
  | (_, _, _, _, none) => ls
def sk_fin {τ : Type} (ret : sk_H → Option sk_V → Option τ) (fc : Nat → sk_Ls → sk_H → sk_R) (f : sk_C → Option τ) (nx : Nat) (ls : sk_Ls) (h : sk_H) (b : sk_B) : Option τ := match b with
  | (r, k) => r.bind fun a => (k a).bind fun A => sk_step ret fc f nx ls h A
def sk_one {τ : Type} (ret : sk_H → Option sk_V → Option τ) (fc : Nat → sk_Ls → sk_H → sk_R) (f : sk_C → Option τ) (e : sk_E) (c : sk_C) : Option τ := match c with
  | (_, ls, st, h) => sk_fin ret fc f e.2.1.1 (sk_live e ls) h (sk_act e (sk_live e ls) st h)
/-- a call: the methods that call themselves spend one of d -/
def sk_call (rec? : Nat → Bool) (g : Nat → Nat → sk_C → sk_R) (d m : Nat) (ls : sk_Ls) (h : sk_H) : sk_R := match rec? m with
  | false => g d m (0, ls, [], h)
  | true => match d with
    | 0 => none
    | k + 1 => g k m (0, ls, [], h)
def sk_run (T : sk_T) (rec? : Nat → Bool) : Nat → Nat → Nat → sk_C → sk_R
  | 0, _, _, _ => none
  | n + 1, d, m, c => (T m c.1).bind fun e => sk_one t_O (sk_call rec? (sk_run T rec? n) d) (sk_run T rec? n d m) e c
