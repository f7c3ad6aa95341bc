noncomputable def c_M_isOf (d : Nat) (x0 : Int32) (x1 : Int32) (h : sk_H) : Option (sk_H × Int32) := sk_XT sk_tab sk_rec t_I d 127 (0, [some (.inl x0), some (.inl x1)], [], h)
noncomputable def c_M_bits (d : Nat) (x0 : Int32) (h : sk_H) : Option (sk_H × Int32) := sk_XT sk_tab sk_rec t_I d 128 (0, [some (.inl x0), none, none], [], h)
noncomputable def k_M_bits_4 (d : Nat) (x1 : Int32) (x2 : Int32) (h : sk_H) : Option (sk_H × Int32) := sk_XT sk_tab sk_rec t_I d 128 (4, [none, some (.inl x1), some (.inl x2)], [], h)
noncomputable def c_M_four (d : Nat) (x0 : Option Nat) (x1 : Int32) (h : sk_H) : Option (sk_H) := sk_XT sk_tab sk_rec t_V d 129 (0, [some (.inr (.inr x0)), some (.inl x1), none], [], h)
noncomputable def k_M_four_3 (d : Nat) (x0 : Option Nat) (x1 : Int32) (x2 : Int32) (h : sk_H) : Option (sk_H) := sk_XT sk_tab sk_rec t_V d 129 (3, [some (.inr (.inr x0)), some (.inl x1), some (.inl x2)], [], h)
noncomputable def c_M_see (d : Nat) (x0 : Option Nat) (h : sk_H) : Option (sk_H × Int32) := sk_XT sk_tab sk_rec t_I d 133 (0, [some (.inr (.inr x0))], [], h)
noncomputable def k_M_see_0 (d : Nat) (x0 : Option Nat) (h : sk_H) : Option (sk_H × Int32) := sk_XT sk_tab sk_rec t_I d 133 (0, [some (.inr (.inr x0))], [], h)
noncomputable def k_M_see_38 (d : Nat) (x0 : Option Nat) (h : sk_H) : Option (sk_H × Int32) := sk_XT sk_tab sk_rec t_I d 133 (38, [some (.inr (.inr x0))], [], h)
noncomputable def c_M_isLetter (d : Nat) (x0 : Option Nat) (x1 : Int32) (h : sk_H) : Option (sk_H × Int32) := sk_XT sk_tab sk_rec t_I d 135 (0, [some (.inr (.inr x0)), some (.inl x1)], [], h)
noncomputable def c_M_isWord (d : Nat) (x0 : Option Nat) (x1 : Int64) (h : sk_H) : Option (sk_H × Int32) := sk_XT sk_tab sk_rec t_I d 136 (0, [some (.inr (.inr x0)), some (.inr (.inl x1)), none, none, none, none], [], h)
noncomputable def k_M_isWord_10 (d : Nat) (x0 : Option Nat) (x1 : Int64) (x3 : Int64) (x5 : Int32) (h : sk_H) : Option (sk_H × Int32) := sk_XT sk_tab sk_rec t_I d 136 (10, [some (.inr (.inr x0)), some (.inr (.inl x1)), none, some (.inr (.inl x3)), none, some (.inl x5)], [], h)
noncomputable def c_M_rowOf (d : Nat) (x0 : Option Nat) (x1 : Int32) (h : sk_H) : Option (sk_H × Int32) := sk_XT sk_tab sk_rec t_I d 175 (0, [some (.inr (.inr x0)), some (.inl x1), none], [], h)
noncomputable def k_M_rowOf_9 (d : Nat) (x0 : Option Nat) (x1 : Int32) (x2 : Int32) (h : sk_H) : Option (sk_H × Int32) := sk_XT sk_tab sk_rec t_I d 175 (9, [some (.inr (.inr x0)), some (.inl x1), some (.inl x2)], [], h)
noncomputable def c_M_beside (d : Nat) (x0 : Option Nat) (x1 : Int32) (x2 : Int32) (h : sk_H) : Option (sk_H × Int32) := sk_XT sk_tab sk_rec t_I d 176 (0, [some (.inr (.inr x0)), some (.inl x1), some (.inl x2), none, none], [], h)
noncomputable def k_M_beside_40 (d : Nat) (x0 : Option Nat) (x3 : Int32) (x4 : Int32) (h : sk_H) : Option (sk_H × Int32) := sk_XT sk_tab sk_rec t_I d 176 (40, [some (.inr (.inr x0)), none, none, some (.inl x3), some (.inl x4)], [], h)
set_option maxRecDepth 100000 in
theorem e_M_isOf (d : Nat) (x0 : Int32) (x1 : Int32) (h : sk_H) : c_M_isOf d x0 x1 h =
  if ¬ ((x0 >>> (x1 &&& 31)) &&& (1 : Int32)) = (1 : Int32) then
    some (h, (0 : Int32))
  else
    some (h, (1 : Int32)) := (sk_XT_ev sk_tab sk_rec t_I d 127 13 _).trans rfl
set_option maxRecDepth 100000 in
theorem e_M_bits (d : Nat) (x0 : Int32) (h : sk_H) : c_M_bits d x0 h =
  k_M_bits_4 d (0 : Int32) x0 h := (sk_XT_ev sk_tab sk_rec t_I d 128 18 _).trans rfl
set_option maxRecDepth 100000 in
theorem e_M_bits_4 (d : Nat) (x1 : Int32) (x2 : Int32) (h : sk_H) : k_M_bits_4 d x1 x2 h =
  if x2 = 0 then
    some (h, x1)
  else
    k_M_bits_4 d (x1 + 1) (x2 &&& (x2 - (1 : Int32))) h := (sk_XT_ev sk_tab sk_rec t_I d 128 18 _).trans rfl
set_option maxRecDepth 100000 in
theorem e_M_four (d : Nat) (x0 : Option Nat) (x1 : Int32) (h : sk_H) : c_M_four d x0 x1 h =
  k_M_four_3 d x0 x1 (24 : Int32) h := (sk_XT_ev sk_tab sk_rec t_V d 129 24 _).trans rfl
set_option maxRecDepth 100000 in
theorem e_M_four_3 (d : Nat) (x0 : Option Nat) (x1 : Int32) (x2 : Int32) (h : sk_H) : k_M_four_3 d x0 x1 x2 h =
  if x2 < 0 then
    some h
  else
    Option.bind x0 fun a1 => if hK h a1 = 13 then
    Option.bind x0 fun a2 => if hK h a2 = 13 then
    Option.bind (hR h a1 0) fun a3 => if (hK h a3 = 104 ∨ (hK h a3 = 103 ∧ (((x1 >>> (x2 &&& 31)).toInt8.toInt32) = 0 ∨ ((x1 >>> (x2 &&& 31)).toInt8.toInt32) = 1))) ∧ sk_in (hI h a2 1) (hN h a3) then
    let h4 := wI h a3 (hI h a2 1).toNatClampNeg (((x1 >>> (x2 &&& 31)).toInt8.toInt32).toInt8.toInt32)
    Option.bind x0 fun a5 => if hK h4 a5 = 13 then
    Option.bind x0 fun a6 => if hK h4 a6 = 13 then
    let h7 := wI h4 a6 1 ((hI h4 a5 1) + (1 : Int32))
    k_M_four_3 d x0 x1 (x2 + (-8)) h7
    else none
    else none
    else none
    else none
    else none := (sk_XT_ev sk_tab sk_rec t_V d 129 24 _).trans rfl
set_option maxRecDepth 100000 in
theorem e_M_see (d : Nat) (x0 : Option Nat) (h : sk_H) : c_M_see d x0 h =
  Option.bind x0 fun a1 => if hK h a1 = 13 then
  Option.bind x0 fun a2 => if hK h a2 = 13 then
  if (hI h a2 1) ≤ (hI h a1 8) then
    k_M_see_38 d x0 h
  else
    Option.bind x0 fun a3 => if hK h a3 = 13 then
    Option.bind x0 fun a4 => if hK h a4 = 13 then
    Option.bind (hR h a3 0) fun a5 => if (hK h a5 = 103 ∨ hK h a5 = 104 ∨ hK h a5 = 204) ∧ sk_in (hI h a4 8) (hN h a5) then
    if ¬ (hI h a5 (hI h a4 8).toNatClampNeg) = (32 : Int32) then
      k_M_see_38 d x0 h
    else
      Option.bind x0 fun a6 => if hK h a6 = 13 then
      Option.bind x0 fun a7 => if hK h a7 = 13 then
      let h8 := wI h a7 8 ((hI h a6 8) + (1 : Int32))
      k_M_see_0 d x0 h8
      else none
      else none
    else none
    else none
    else none
  else none
  else none := (sk_XT_ev sk_tab sk_rec t_I d 133 36 _).trans rfl
set_option maxRecDepth 100000 in
theorem e_M_see_0 (d : Nat) (x0 : Option Nat) (h : sk_H) : k_M_see_0 d x0 h =
  Option.bind x0 fun a1 => if hK h a1 = 13 then
  Option.bind x0 fun a2 => if hK h a2 = 13 then
  if (hI h a2 1) ≤ (hI h a1 8) then
    k_M_see_38 d x0 h
  else
    Option.bind x0 fun a3 => if hK h a3 = 13 then
    Option.bind x0 fun a4 => if hK h a4 = 13 then
    Option.bind (hR h a3 0) fun a5 => if (hK h a5 = 103 ∨ hK h a5 = 104 ∨ hK h a5 = 204) ∧ sk_in (hI h a4 8) (hN h a5) then
    if ¬ (hI h a5 (hI h a4 8).toNatClampNeg) = (32 : Int32) then
      k_M_see_38 d x0 h
    else
      Option.bind x0 fun a6 => if hK h a6 = 13 then
      Option.bind x0 fun a7 => if hK h a7 = 13 then
      let h8 := wI h a7 8 ((hI h a6 8) + (1 : Int32))
      k_M_see_0 d x0 h8
      else none
      else none
    else none
    else none
    else none
  else none
  else none := (sk_XT_ev sk_tab sk_rec t_I d 133 36 _).trans rfl
set_option maxRecDepth 100000 in
theorem e_M_see_38 (d : Nat) (x0 : Option Nat) (h : sk_H) : k_M_see_38 d x0 h =
  Option.bind x0 fun a1 => if hK h a1 = 13 then
  Option.bind x0 fun a2 => if hK h a2 = 13 then
  if (hI h a2 1) ≤ (hI h a1 8) then
    some (h, ((-1) : Int32))
  else
    Option.bind x0 fun a3 => if hK h a3 = 13 then
    Option.bind x0 fun a4 => if hK h a4 = 13 then
    Option.bind (hR h a3 0) fun a5 => if (hK h a5 = 103 ∨ hK h a5 = 104 ∨ hK h a5 = 204) ∧ sk_in (hI h a4 8) (hN h a5) then
    some (h, (hI h a5 (hI h a4 8).toNatClampNeg) &&& (255 : Int32))
    else none
    else none
    else none
  else none
  else none := (sk_XT_ev sk_tab sk_rec t_I d 133 36 _).trans rfl
set_option maxRecDepth 100000 in
theorem e_M_isLetter (d : Nat) (x0 : Option Nat) (x1 : Int32) (h : sk_H) : c_M_isLetter d x0 x1 h =
  Option.bind x0 fun a1 => if hK h a1 = 13 then
  if (hI h a1 1) ≤ x1 then
    some (h, (0 : Int32))
  else
    Option.bind x0 fun a2 => if hK h a2 = 13 then
    Option.bind (hR h a2 0) fun a3 => if (hK h a3 = 103 ∨ hK h a3 = 104 ∨ hK h a3 = 204) ∧ sk_in x1 (hN h a3) then
    if (hI h a3 x1.toNatClampNeg) < (97 : Int32) then
      some (h, (0 : Int32))
    else
      Option.bind x0 fun a4 => if hK h a4 = 13 then
      Option.bind (hR h a4 0) fun a5 => if (hK h a5 = 103 ∨ hK h a5 = 104 ∨ hK h a5 = 204) ∧ sk_in x1 (hN h a5) then
      if (122 : Int32) < (hI h a5 x1.toNatClampNeg) then
        some (h, (0 : Int32))
      else
        some (h, (1 : Int32))
      else none
      else none
    else none
    else none
  else none := (sk_XT_ev sk_tab sk_rec t_I d 135 22 _).trans rfl
set_option maxRecDepth 100000 in
theorem e_M_isWord (d : Nat) (x0 : Option Nat) (x1 : Int64) (h : sk_H) : c_M_isWord d x0 x1 h =
  Option.bind (c_M_see d x0 h) fun q1 =>
  k_M_isWord_10 d x0 x1 (0 : Int64) (0 : Int32) q1.1 := (sk_XT_ev sk_tab sk_rec t_I d 136 47 _).trans rfl
set_option maxRecDepth 100000 in
theorem e_M_isWord_10 (d : Nat) (x0 : Option Nat) (x1 : Int64) (x3 : Int64) (x5 : Int32) (h : sk_H) : k_M_isWord_10 d x0 x1 x3 x5 h =
  Option.bind x0 fun a1 => if hK h a1 = 13 then
  Option.bind (c_M_isLetter d x0 ((hI h a1 8) + x5) h) fun q2 =>
  if q2.2 = 0 then
    if x5 ≤ 0 then
      some (q2.1, (0 : Int32))
    else
      if (9 : Int32) ≤ x5 then
        some (q2.1, (0 : Int32))
      else
        if ¬ (lg_cmp x3 x1) = 0 then
          some (q2.1, (0 : Int32))
        else
          some (q2.1, (1 : Int32))
  else
    if (8 : Int32) ≤ x5 then
      k_M_isWord_10 d x0 x1 x3 (x5 + 1) q2.1
    else
      Option.bind x0 fun a3 => if hK q2.1 a3 = 13 then
      Option.bind x0 fun a4 => if hK q2.1 a4 = 13 then
      Option.bind (hR q2.1 a3 0) fun a5 => if (hK q2.1 a5 = 103 ∨ hK q2.1 a5 = 104 ∨ hK q2.1 a5 = 204) ∧ sk_in ((hI q2.1 a4 8) + x5) (hN q2.1 a5) then
      k_M_isWord_10 d x0 x1 ((x3 <<< ((8 : Int32).toInt64 &&& 63)) ||| ((hI q2.1 a5 ((hI q2.1 a4 8) + x5).toNatClampNeg).toInt64)) (x5 + 1) q2.1
      else none
      else none
      else none
  else none := (sk_XT_ev sk_tab sk_rec t_I d 136 47 _).trans rfl
set_option maxRecDepth 100000 in
theorem e_M_rowOf (d : Nat) (x0 : Option Nat) (x1 : Int32) (h : sk_H) : c_M_rowOf d x0 x1 h =
  Option.bind x0 fun a1 => if hK h a1 = 13 then
  Option.bind (hR h a1 20) fun a2 => if (hK h a2 = 101 ∨ hK h a2 = 201) ∧ sk_in (2 : Int32) (hN h a2) then
  k_M_rowOf_9 d x0 x1 ((hI h a2 (2 : Int32).toNatClampNeg) - (1 : Int32)) h
  else none
  else none := (sk_XT_ev sk_tab sk_rec t_I d 175 21 _).trans rfl
set_option maxRecDepth 100000 in
theorem e_M_rowOf_9 (d : Nat) (x0 : Option Nat) (x1 : Int32) (x2 : Int32) (h : sk_H) : k_M_rowOf_9 d x0 x1 x2 h =
  Option.bind x0 fun a1 => if hK h a1 = 13 then
  Option.bind (hR h a1 20) fun a2 => if (hK h a2 = 101 ∨ hK h a2 = 201) ∧ sk_in ((12 : Int32) + x2) (hN h a2) then
  if (hI h a2 ((12 : Int32) + x2).toNatClampNeg) ≤ x1 then
    some (h, x2)
  else
    k_M_rowOf_9 d x0 x1 (x2 + (-1)) h
  else none
  else none := (sk_XT_ev sk_tab sk_rec t_I d 175 21 _).trans rfl
set_option maxRecDepth 100000 in
theorem e_M_beside (d : Nat) (x0 : Option Nat) (x1 : Int32) (x2 : Int32) (h : sk_H) : c_M_beside d x0 x1 x2 h =
  Option.bind (c_M_rowOf d x0 x1 h) fun q1 =>
  Option.bind x0 fun a2 => if hK q1.1 a2 = 13 then
  Option.bind (hR q1.1 a2 20) fun a3 => if (hK q1.1 a3 = 101 ∨ hK q1.1 a3 = 201) ∧ sk_in ((12 : Int32) + q1.2) (hN q1.1 a3) then
  if ((x1 - (hI q1.1 a3 ((12 : Int32) + q1.2).toNatClampNeg)) + x2) < 0 then
    k_M_beside_40 d x0 q1.2 ((x1 - (hI q1.1 a3 ((12 : Int32) + q1.2).toNatClampNeg)) + x2) q1.1
  else
    Option.bind x0 fun a4 => if hK q1.1 a4 = 13 then
    Option.bind (hR q1.1 a4 20) fun a5 => if (hK q1.1 a5 = 101 ∨ hK q1.1 a5 = 201) ∧ sk_in ((16 : Int32) + q1.2) (hN q1.1 a5) then
    if ((x1 - (hI q1.1 a3 ((12 : Int32) + q1.2).toNatClampNeg)) + x2) < (hI q1.1 a5 ((16 : Int32) + q1.2).toNatClampNeg) then
      Option.bind x0 fun a6 => if hK q1.1 a6 = 13 then
      Option.bind (hR q1.1 a6 20) fun a7 => if (hK q1.1 a7 = 101 ∨ hK q1.1 a7 = 201) ∧ sk_in ((12 : Int32) + q1.2) (hN q1.1 a7) then
      some (q1.1, (hI q1.1 a7 ((12 : Int32) + q1.2).toNatClampNeg) + ((x1 - (hI q1.1 a3 ((12 : Int32) + q1.2).toNatClampNeg)) + x2))
      else none
      else none
    else
      k_M_beside_40 d x0 q1.2 ((x1 - (hI q1.1 a3 ((12 : Int32) + q1.2).toNatClampNeg)) + x2) q1.1
    else none
    else none
  else none
  else none := (sk_XT_ev sk_tab sk_rec t_I d 176 58 _).trans rfl
set_option maxRecDepth 100000 in
theorem e_M_beside_40 (d : Nat) (x0 : Option Nat) (x3 : Int32) (x4 : Int32) (h : sk_H) : k_M_beside_40 d x0 x3 x4 h =
  Option.bind x0 fun a1 => if hK h a1 = 13 then
  Option.bind (hR h a1 20) fun a2 => if (hK h a2 = 101 ∨ hK h a2 = 201) ∧ sk_in ((20 : Int32) + x3) (hN h a2) then
  if ¬ (hI h a2 ((20 : Int32) + x3).toNatClampNeg) = 0 then
    if 0 ≤ x4 then
      Option.bind x0 fun a3 => if hK h a3 = 13 then
      Option.bind (hR h a3 20) fun a4 => if (hK h a4 = 101 ∨ hK h a4 = 201) ∧ sk_in ((12 : Int32) + x3) (hN h a4) then
      some (h, (hI h a4 ((12 : Int32) + x3).toNatClampNeg) + (0 : Int32))
      else none
      else none
    else
      Option.bind x0 fun a5 => if hK h a5 = 13 then
      Option.bind (hR h a5 20) fun a6 => if (hK h a6 = 101 ∨ hK h a6 = 201) ∧ sk_in ((16 : Int32) + x3) (hN h a6) then
      Option.bind x0 fun a7 => if hK h a7 = 13 then
      Option.bind (hR h a7 20) fun a8 => if (hK h a8 = 101 ∨ hK h a8 = 201) ∧ sk_in ((12 : Int32) + x3) (hN h a8) then
      some (h, (hI h a8 ((12 : Int32) + x3).toNatClampNeg) + ((hI h a6 ((16 : Int32) + x3).toNatClampNeg) - (1 : Int32)))
      else none
      else none
      else none
      else none
  else
    some (h, ((-1) : Int32))
  else none
  else none := (sk_XT_ev sk_tab sk_rec t_I d 176 58 _).trans rfl
