set_option maxRecDepth 100000 in
theorem e_Ac_init (d : Nat) (x0 : Nat) (h : sk_H) : c_Ac_init d (some x0) h =
  let n1 := hn h
  let h2 := hnew h 101 20
  if hK h2 x0 = 1 then
  let h3 := wR h2 x0 0 (some n1)
  let n4 := hn h3
  let h5 := hnew h3 101 20
  if hK h5 x0 = 1 then
  let h6 := wR h5 x0 1 (some n4)
  let n7 := hn h6
  let h8 := hnew h6 101 20
  if hK h8 x0 = 1 then
  let h9 := wR h8 x0 2 (some n7)
  some h9
  else none
  else none
  else none := (sk_XT_evL sk_rec t_V d 0 17 _ (fun _ => rfl)).trans rfl
set_option maxRecDepth 100000 in
theorem e_Ac_forget (d : Nat) (x0 : Nat) (h : sk_H) : c_Ac_forget d (some x0) h =
  if hK h x0 = 1 then
  let h1 := wI h x0 4 (0 : Int32)
  some h1
  else none := (sk_XT_evL sk_rec t_V d 1 6 _ (fun _ => rfl)).trans rfl
set_option maxRecDepth 100000 in
theorem e_Ac_keep (d : Nat) (x0 : Nat) (x1 : Option Nat) (h : sk_H) : c_Ac_keep d (some x0) x1 h =
  if hK h x0 = 1 then
  if hK h x0 = 1 then
  Option.bind x1 fun a1 => if hK h a1 = 9 then
  Option.bind (hR h x0 0) fun a2 => if hK h a2 = 101 ∧ sk_in (hI h x0 3) (hN h a2) then
  let h3 := wI h a2 (hI h x0 3).toNatClampNeg (hI h a1 1)
  if hK h3 x0 = 1 then
  if hK h3 x0 = 1 then
  Option.bind x1 fun a4 => if hK h3 a4 = 9 then
  Option.bind (hR h3 x0 1) fun a5 => if hK h3 a5 = 101 ∧ sk_in (hI h3 x0 3) (hN h3 a5) then
  let h6 := wI h3 a5 (hI h3 x0 3).toNatClampNeg (hI h3 a4 2)
  if hK h6 x0 = 1 then
  if hK h6 x0 = 1 then
  Option.bind x1 fun a7 => if hK h6 a7 = 9 then
  Option.bind (hR h6 x0 2) fun a8 => if hK h6 a8 = 101 ∧ sk_in (hI h6 x0 3) (hN h6 a8) then
  let h9 := wI h6 a8 (hI h6 x0 3).toNatClampNeg (hI h6 a7 3)
  if hK h9 x0 = 1 then
  if ¬ (20 : Int32) = 0 then
  if hK h9 x0 = 1 then
  let h10 := wI h9 x0 3 (((hI h9 x0 3) + (1 : Int32)) - ((hI h9 x0 3) + (1 : Int32)) / (20 : Int32) * (20 : Int32))
  if hK h10 x0 = 1 then
  if hK h10 x0 = 1 then
  let h11 := wI h10 x0 4 (if (20 : Int32) < ((hI h10 x0 4) + (1 : Int32)) then (20 : Int32) else ((hI h10 x0 4) + (1 : Int32)))
  some h11
  else none
  else none
  else none
  else none
  else none
  else none
  else none
  else none
  else none
  else none
  else none
  else none
  else none
  else none
  else none
  else none
  else none := (sk_XT_evL sk_rec t_V d 2 40 _ (fun _ => rfl)).trans rfl
set_option maxRecDepth 100000 in
theorem e_Ac_takeBack (d : Nat) (x0 : Nat) (x1 : Option Nat) (h : sk_H) : c_Ac_takeBack d (some x0) x1 h =
  if hK h x0 = 1 then
  if ¬ (hI h x0 4) = 0 then
    if hK h x0 = 1 then
    if ¬ (20 : Int32) = 0 then
    if hK h x0 = 1 then
    let h1 := wI h x0 3 ((((hI h x0 3) + (20 : Int32)) - (1 : Int32)) - (((hI h x0 3) + (20 : Int32)) - (1 : Int32)) / (20 : Int32) * (20 : Int32))
    if hK h1 x0 = 1 then
    if hK h1 x0 = 1 then
    let h2 := wI h1 x0 4 ((hI h1 x0 4) - (1 : Int32))
    if hK h2 x0 = 1 then
    if hK h2 x0 = 1 then
    Option.bind (hR h2 x0 0) fun a3 => if (hK h2 a3 = 101 ∨ hK h2 a3 = 201) ∧ sk_in (hI h2 x0 3) (hN h2 a3) then
    Option.bind x1 fun a4 => if hK h2 a4 = 9 then
    let h5 := wI h2 a4 1 (hI h2 a3 (hI h2 x0 3).toNatClampNeg)
    if hK h5 x0 = 1 then
    if hK h5 x0 = 1 then
    Option.bind (hR h5 x0 1) fun a6 => if (hK h5 a6 = 101 ∨ hK h5 a6 = 201) ∧ sk_in (hI h5 x0 3) (hN h5 a6) then
    Option.bind x1 fun a7 => if hK h5 a7 = 9 then
    let h8 := wI h5 a7 2 (hI h5 a6 (hI h5 x0 3).toNatClampNeg)
    if hK h8 x0 = 1 then
    if hK h8 x0 = 1 then
    Option.bind (hR h8 x0 2) fun a9 => if (hK h8 a9 = 101 ∨ hK h8 a9 = 201) ∧ sk_in (hI h8 x0 3) (hN h8 a9) then
    Option.bind x1 fun a10 => if hK h8 a10 = 9 then
    let h11 := wI h8 a10 3 (hI h8 a9 (hI h8 x0 3).toNatClampNeg)
    if hK h11 x0 = 1 then
    some (h11, hI h11 x0 4)
    else none
    else none
    else none
    else none
    else none
    else none
    else none
    else none
    else none
    else none
    else none
    else none
    else none
    else none
    else none
    else none
    else none
    else none
  else
    some (h, ((-1) : Int32))
  else none := (sk_XT_evL sk_rec t_I d 3 47 _ (fun _ => rfl)).trans rfl
set_option maxRecDepth 100000 in
theorem e_Al_init (d : Nat) (x0 : Nat) (h : sk_H) : c_Al_init d (some x0) h =
  let n1 := hn h
  let h2 := hnew h 101 12
  if hK h2 x0 = 2 then
  let h3 := wR h2 x0 8 (some n1)
  let n4 := hn h3
  let h5 := hnew h3 101 4
  if hK h5 x0 = 2 then
  let h6 := wR h5 x0 9 (some n4)
  let n7 := hn h6
  let h8 := hnew h6 101 4
  if hK h8 x0 = 2 then
  let h9 := wR h8 x0 10 (some n7)
  let n10 := hn h9
  let h11 := hnew h9 103 4
  if hK h11 x0 = 2 then
  let h12 := wR h11 x0 11 (some n10)
  let n13 := hn h12
  let h14 := hnew h12 101 12
  if hK h14 x0 = 2 then
  let h15 := wR h14 x0 12 (some n13)
  let n16 := hn h15
  let h17 := hnew h15 101 12
  if hK h17 x0 = 2 then
  let h18 := wR h17 x0 13 (some n16)
  let n19 := hn h18
  let h20 := hnew h18 108 0
  if hK h20 x0 = 2 then
  let h21 := wR h20 x0 14 (some n19)
  let n22 := hn h21
  let h23 := hnew h21 108 0
  if hK h23 x0 = 2 then
  let h24 := wR h23 x0 15 (some n22)
  let n25 := hn h24
  let h26 := hnew h24 101 41
  if hK h26 x0 = 2 then
  let h27 := wR h26 x0 16 (some n25)
  some h27
  else none
  else none
  else none
  else none
  else none
  else none
  else none
  else none
  else none := (sk_XT_evL sk_rec t_V d 4 41 _ (fun _ => rfl)).trans rfl
set_option maxRecDepth 100000 in
theorem e_Al_addPlace (d : Nat) (x0 : Nat) (x1 : Int32) (h : sk_H) : c_Al_addPlace d (some x0) x1 h =
  if hK h x0 = 2 then
  if hK h x0 = 2 then
  if (12 : Int32) ≤ (hI h x0 2) then
    some h
  else
    if ((hI h x0 3) - (1 : Int32)) < 0 then
      some h
    else
      if ((hI h x0 3) - (1 : Int32)) < (4 : Int32) then
        if hK h x0 = 2 then
        if hK h x0 = 2 then
        Option.bind (hR h x0 8) fun a1 => if hK h a1 = 101 ∧ sk_in (hI h x0 2) (hN h a1) then
        let h2 := wI h a1 (hI h x0 2).toNatClampNeg ((hI h x0 3) - (1 : Int32))
        if hK h2 x0 = 2 then
        Option.bind (hR h2 x0 10) fun a3 => if (hK h2 a3 = 101 ∨ hK h2 a3 = 201) ∧ sk_in ((hI h x0 3) - (1 : Int32)) (hN h2 a3) then
        Option.bind (hR h2 x0 10) fun a4 => if hK h2 a4 = 101 ∧ sk_in ((hI h x0 3) - (1 : Int32)) (hN h2 a4) then
        let h5 := wI h2 a4 ((hI h x0 3) - (1 : Int32)).toNatClampNeg ((hI h2 a3 ((hI h x0 3) - (1 : Int32)).toNatClampNeg) + (1 : Int32))
        if hK h5 x0 = 2 then
        if x1 = 0 then
          if hK h5 x0 = 2 then
          let h6 := wI h5 x0 1 ((hI h5 x0 1) ||| (0 : Int32))
          if hK h6 x0 = 2 then
          if hK h6 x0 = 2 then
          let h7 := wI h6 x0 2 ((hI h6 x0 2) + (1 : Int32))
          some h7
          else none
          else none
          else none
        else
          if hK h5 x0 = 2 then
          if hK h5 x0 = 2 then
          let h8 := wI h5 x0 1 ((hI h5 x0 1) ||| ((1 : Int32) <<< ((hI h5 x0 2) &&& 31)))
          if hK h8 x0 = 2 then
          if hK h8 x0 = 2 then
          let h9 := wI h8 x0 2 ((hI h8 x0 2) + (1 : Int32))
          some h9
          else none
          else none
          else none
          else none
        else none
        else none
        else none
        else none
        else none
        else none
        else none
      else
        some h
  else none
  else none := (sk_XT_evL sk_rec t_V d 5 51 _ (fun _ => rfl)).trans rfl
set_option maxRecDepth 100000 in
theorem e_Al_settle (d : Nat) (x0 : Nat) (h : sk_H) : c_Al_settle d (some x0) h =
  if hK h x0 = 2 then
  if ¬ (hI h x0 4) = 0 then
    k_Al_settle_14 d (some x0) (0 : Int32) h
  else
    if hK h x0 = 2 then
    let h1 := wI h x0 4 (3 : Int32)
    k_Al_settle_14 d (some x0) (0 : Int32) h1
    else none
  else none := (sk_XT_evL sk_rec t_V d 6 95 _ (fun _ => rfl)).trans rfl
set_option maxRecDepth 100000 in
theorem e_Al_settle_14 (d : Nat) (x0 : Nat) (x1 : Int32) (h : sk_H) : k_Al_settle_14 d (some x0) x1 h =
  if hK h x0 = 2 then
  if (hI h x0 2) ≤ x1 then
    if hK h x0 = 2 then
    Option.bind (c_Al_listStrokes d (some x0) h) fun q1 =>
    k_Al_settle_129 d (some x0) (0 : Int32) q1
    else none
  else
    if hK h x0 = 2 then
    Option.bind (hR h x0 8) fun a2 => if (hK h a2 = 101 ∨ hK h a2 = 201) ∧ sk_in x1 (hN h a2) then
    if hK h x0 = 2 then
    Option.bind (hR h x0 9) fun a3 => if (hK h a3 = 101 ∨ hK h a3 = 201) ∧ sk_in (hI h a2 x1.toNatClampNeg) (hN h a3) then
    if hK h x0 = 2 then
    Option.bind (hR h x0 10) fun a4 => if (hK h a4 = 101 ∨ hK h a4 = 201) ∧ sk_in (hI h a2 x1.toNatClampNeg) (hN h a4) then
    if hK h x0 = 2 then
    if hK h x0 = 2 then
    Option.bind (hR h x0 9) fun a5 => if (hK h a5 = 101 ∨ hK h a5 = 201) ∧ sk_in (hI h a2 x1.toNatClampNeg) (hN h a5) then
    if x1 ≤ (hI h a5 (hI h a2 x1.toNatClampNeg).toNatClampNeg) then
      if hK h x0 = 2 then
      Option.bind (hR h x0 11) fun a6 => if (hK h a6 = 103 ∨ hK h a6 = 104 ∨ hK h a6 = 204) ∧ sk_in (hI h a2 x1.toNatClampNeg) (hN h a6) then
      if (hI h a6 (hI h a2 x1.toNatClampNeg).toNatClampNeg) = 0 then
        k_Al_settle_80 d (some x0) x1 (hI h a2 x1.toNatClampNeg) (((hI h a3 (hI h a2 x1.toNatClampNeg).toNatClampNeg) + (hI h a4 (hI h a2 x1.toNatClampNeg).toNatClampNeg)) - (1 : Int32)) ((-1) : Int32) x1 (hR h x0 12) h
      else
        k_Al_settle_80 d (some x0) x1 (hI h a2 x1.toNatClampNeg) (((hI h a3 (hI h a2 x1.toNatClampNeg).toNatClampNeg) + (hI h a4 (hI h a2 x1.toNatClampNeg).toNatClampNeg)) - (1 : Int32)) (((hI h a3 (hI h a2 x1.toNatClampNeg).toNatClampNeg) + (hI h a4 (hI h a2 x1.toNatClampNeg).toNatClampNeg)) - (1 : Int32)) x1 (hR h x0 12) h
      else none
      else none
    else
      k_Al_settle_80 d (some x0) x1 (hI h a2 x1.toNatClampNeg) (((hI h a3 (hI h a2 x1.toNatClampNeg).toNatClampNeg) + (hI h a4 (hI h a2 x1.toNatClampNeg).toNatClampNeg)) - (1 : Int32)) (x1 - (1 : Int32)) x1 (hR h x0 12) h
    else none
    else none
    else none
    else none
    else none
    else none
    else none
    else none
    else none
  else none := (sk_XT_evL sk_rec t_V d 6 95 _ (fun _ => rfl)).trans rfl
set_option maxRecDepth 100000 in
theorem e_Al_settle_80 (d : Nat) (x0 : Nat) (x1 : Int32) (x2 : Int32) (x3 : Int32) (s0 : Int32) (s1 : Int32) (s2 : Option Nat) (h : sk_H) : k_Al_settle_80 d (some x0) x1 x2 x3 s0 s1 s2 h =
  Option.bind s2 fun a1 => if hK h a1 = 101 ∧ sk_in s1 (hN h a1) then
  let h2 := wI h a1 s1.toNatClampNeg s0
  if hK h2 x0 = 2 then
  if x3 ≤ x1 then
    if hK h2 x0 = 2 then
    Option.bind (hR h2 x0 11) fun a3 => if (hK h2 a3 = 103 ∨ hK h2 a3 = 104 ∨ hK h2 a3 = 204) ∧ sk_in x2 (hN h2 a3) then
    if (hI h2 a3 x2.toNatClampNeg) = 0 then
      Option.bind (hR h2 x0 13) fun a4 => if hK h2 a4 = 101 ∧ sk_in x1 (hN h2 a4) then
      let h5 := wI h2 a4 x1.toNatClampNeg ((-1) : Int32)
      k_Al_settle_14 d (some x0) (x1 + 1) h5
      else none
    else
      if hK h2 x0 = 2 then
      Option.bind (hR h2 x0 9) fun a6 => if (hK h2 a6 = 101 ∨ hK h2 a6 = 201) ∧ sk_in x2 (hN h2 a6) then
      Option.bind (hR h2 x0 13) fun a7 => if hK h2 a7 = 101 ∧ sk_in x1 (hN h2 a7) then
      let h8 := wI h2 a7 x1.toNatClampNeg (hI h2 a6 x2.toNatClampNeg)
      k_Al_settle_14 d (some x0) (x1 + 1) h8
      else none
      else none
      else none
    else none
    else none
  else
    Option.bind (hR h2 x0 13) fun a9 => if hK h2 a9 = 101 ∧ sk_in x1 (hN h2 a9) then
    let h10 := wI h2 a9 x1.toNatClampNeg (x1 + (1 : Int32))
    k_Al_settle_14 d (some x0) (x1 + 1) h10
    else none
  else none
  else none := (sk_XT_evL sk_rec t_V d 6 95 _ (fun _ => rfl)).trans rfl
set_option maxRecDepth 100000 in
theorem e_Al_settle_129 (d : Nat) (x0 : Nat) (x1 : Int32) (h : sk_H) : k_Al_settle_129 d (some x0) x1 h =
  if (40 : Int32) < x1 then
    some h
  else
    if hK h x0 = 2 then
    if hK h x0 = 2 then
    Option.bind (c_Al_plainLeavings d (some x0) x1 h) fun q1 =>
    Option.bind (c_Al_leastLeftOut d q1.2 q1.1) fun q2 =>
    Option.bind (hR h x0 16) fun a3 => if hK q2.1 a3 = 101 ∧ sk_in x1 (hN q2.1 a3) then
    let h4 := wI q2.1 a3 x1.toNatClampNeg q2.2
    k_Al_settle_129 d (some x0) (x1 + 1) h4
    else none
    else none
    else none := (sk_XT_evL sk_rec t_V d 6 95 _ (fun _ => rfl)).trans rfl
set_option maxRecDepth 100000 in
theorem e_Al_listStrokes (d : Nat) (x0 : Nat) (h : sk_H) : c_Al_listStrokes d (some x0) h =
  if hK h x0 = 2 then
  if ¬ ((hI h x0 2) * (4 : Int32)) < 0 ∧ ((hI h x0 2) * (4 : Int32)).toNatClampNeg ≤ 60000 then
  let n1 := hn h
  let h2 := hnew h 108 ((hI h x0 2) * (4 : Int32)).toNatClampNeg
  k_Al_listStrokes_14 d (some x0) (some n1) (0 : Int32) (0 : Int32) h2
  else none
  else none := (sk_XT_evL sk_rec t_V d 7 87 _ (fun _ => rfl)).trans rfl
set_option maxRecDepth 100000 in
theorem e_Al_listStrokes_14 (d : Nat) (x0 : Nat) (x1 : Option Nat) (x2 : Int32) (x3 : Int32) (h : sk_H) : k_Al_listStrokes_14 d (some x0) x1 x2 x3 h =
  if hK h x0 = 2 then
  if (hI h x0 2) ≤ x3 then
    Option.bind (c_Al_chosen d x1 x2 (15 : Int32) h) fun q1 =>
    if hK q1.1 x0 = 2 then
    let h2 := wR q1.1 x0 15 q1.2
    if hK h2 x0 = 2 then
    Option.bind (c_Al_chosen d x1 x2 (hI h2 x0 4) h2) fun q3 =>
    if hK q3.1 x0 = 2 then
    let h4 := wR q3.1 x0 14 q3.2
    some h4
    else none
    else none
    else none
  else
    k_Al_listStrokes_31 d (some x0) x1 x2 x3 (0 : Int32) x3 (1 : Int32) h
  else none := (sk_XT_evL sk_rec t_V d 7 87 _ (fun _ => rfl)).trans rfl
set_option maxRecDepth 100000 in
theorem e_Al_listStrokes_31 (d : Nat) (x0 : Nat) (x1 : Option Nat) (x2 : Int32) (x3 : Int32) (x4 : Int32) (x5 : Int32) (x6 : Int32) (h : sk_H) : k_Al_listStrokes_31 d (some x0) x1 x2 x3 x4 x5 x6 h =
  if (4 : Int32) < x6 then
    k_Al_listStrokes_14 d (some x0) x1 x2 (x3 + 1) h
  else
    if x5 = ((-1) : Int32) then
      k_Al_listStrokes_14 d (some x0) x1 x2 (x3 + 1) h
    else
      if ¬ ((x4 >>> (x5 &&& 31)) &&& (1 : Int32)) = 0 then
        k_Al_listStrokes_14 d (some x0) x1 x2 (x3 + 1) h
      else
        let n1 := hn h
        let h2 := hnew h 10 7
        if hK h2 x0 = 2 then
        Option.bind (hR h2 x0 8) fun a3 => if (hK h2 a3 = 101 ∨ hK h2 a3 = 201) ∧ sk_in x3 (hN h2 a3) then
        if hK h2 x0 = 2 then
        Option.bind (hR h2 x0 12) fun a4 => if (hK h2 a4 = 101 ∨ hK h2 a4 = 201) ∧ sk_in x3 (hN h2 a4) then
        Option.bind (c_Al_bitOf d (hI h2 a4 x3.toNatClampNeg) h2) fun q5 =>
        if hK q5.1 x0 = 2 then
        Option.bind (hR q5.1 x0 13) fun a6 => if (hK q5.1 a6 = 101 ∨ hK q5.1 a6 = 201) ∧ sk_in x5 (hN q5.1 a6) then
        Option.bind (c_Al_bitOf d (hI q5.1 a6 x5.toNatClampNeg) q5.1) fun q7 =>
        if hK q7.1 n1 = 10 then
        Option.bind (c_Sk_init d (some n1) x3 x6 (hI h2 a3 x3.toNatClampNeg) (x4 ||| ((1 : Int32) <<< (x5 &&& 31))) q5.2 q7.2 q7.1) fun q8 =>
        Option.bind x1 fun a9 => if a_ref (hK q8 a9) = true ∧ sk_in x2 (hN q8 a9) ∧ ((some n1) = none ∨ hK q8 ((some n1).getD 0) = a_of (hK q8 a9)) then
        let h10 := wR q8 a9 x2.toNatClampNeg (some n1)
        if hK h10 x0 = 2 then
        Option.bind (hR h10 x0 13) fun a11 => if (hK h10 a11 = 101 ∨ hK h10 a11 = 201) ∧ sk_in x5 (hN h10 a11) then
        k_Al_listStrokes_31 d (some x0) x1 (x2 + 1) x3 (x4 ||| ((1 : Int32) <<< (x5 &&& 31))) (hI h10 a11 x5.toNatClampNeg) (x6 + 1) h10
        else none
        else none
        else none
        else none
        else none
        else none
        else none
        else none
        else none
        else none := (sk_XT_evL sk_rec t_V d 7 87 _ (fun _ => rfl)).trans rfl
set_option maxRecDepth 100000 in
theorem e_Al_chosen (d : Nat) (x0 : Option Nat) (x1 : Int32) (x2 : Int32) (h : sk_H) : c_Al_chosen d x0 x1 x2 h =
  k_Al_chosen_5 d x0 x1 x2 (0 : Int32) (0 : Int32) h := (sk_XT_evL sk_rec t_R d 8 52 _ (fun _ => rfl)).trans rfl
set_option maxRecDepth 100000 in
theorem e_Al_chosen_5 (d : Nat) (x0 : Option Nat) (x1 : Int32) (x2 : Int32) (x3 : Int32) (x4 : Int32) (h : sk_H) : k_Al_chosen_5 d x0 x1 x2 x3 x4 h =
  if x1 ≤ x4 then
    if ¬ x3 < 0 ∧ x3.toNatClampNeg ≤ 60000 then
    let n1 := hn h
    let h2 := hnew h 108 x3.toNatClampNeg
    k_Al_chosen_51 d x0 x1 x2 (some n1) (0 : Int32) (0 : Int32) h2
    else none
  else
    Option.bind x0 fun a3 => if a_ref (hK h a3) = true ∧ sk_in x4 (hN h a3) then
    Option.bind (hR h a3 x4.toNatClampNeg) fun a4 => if hK h a4 = 10 then
    Option.bind (c_Al_hasHit d x2 (hI h a4 1) h) fun q5 =>
    if q5.2 = 0 then
      k_Al_chosen_5 d x0 x1 x2 (x3 + (0 : Int32)) (x4 + 1) q5.1
    else
      k_Al_chosen_5 d x0 x1 x2 (x3 + (1 : Int32)) (x4 + 1) q5.1
    else none
    else none := (sk_XT_evL sk_rec t_R d 8 52 _ (fun _ => rfl)).trans rfl
set_option maxRecDepth 100000 in
theorem e_Al_chosen_51 (d : Nat) (x0 : Option Nat) (x1 : Int32) (x2 : Int32) (x4 : Option Nat) (x5 : Int32) (x6 : Int32) (h : sk_H) : k_Al_chosen_51 d x0 x1 x2 x4 x5 x6 h =
  if x1 ≤ x6 then
    some (h, x4)
  else
    Option.bind x0 fun a1 => if a_ref (hK h a1) = true ∧ sk_in x6 (hN h a1) then
    Option.bind (hR h a1 x6.toNatClampNeg) fun a2 => if hK h a2 = 10 then
    Option.bind (c_Al_hasHit d x2 (hI h a2 1) h) fun q3 =>
    if q3.2 = 0 then
      k_Al_chosen_51 d x0 x1 x2 x4 x5 (x6 + 1) q3.1
    else
      Option.bind x0 fun a4 => if a_ref (hK q3.1 a4) = true ∧ sk_in x6 (hN q3.1 a4) then
      Option.bind x4 fun a5 => if a_ref (hK q3.1 a5) = true ∧ sk_in x5 (hN q3.1 a5) ∧ ((hR q3.1 a4 x6.toNatClampNeg) = none ∨ hK q3.1 ((hR q3.1 a4 x6.toNatClampNeg).getD 0) = a_of (hK q3.1 a5)) then
      let h6 := wR q3.1 a5 x5.toNatClampNeg (hR q3.1 a4 x6.toNatClampNeg)
      k_Al_chosen_51 d x0 x1 x2 x4 (x5 + 1) (x6 + 1) h6
      else none
      else none
    else none
    else none := (sk_XT_evL sk_rec t_R d 8 52 _ (fun _ => rfl)).trans rfl
set_option maxRecDepth 100000 in
theorem e_Al_hasHit (d : Nat) (x0 : Int32) (x1 : Int32) (h : sk_H) : c_Al_hasHit d x0 x1 h =
  if ¬ ((x0 >>> ((x1 - (1 : Int32)) &&& 31)) &&& (1 : Int32)) = (1 : Int32) then
    some (h, (0 : Int32))
  else
    some (h, (1 : Int32)) := (sk_XT_evL sk_rec t_I d 9 15 _ (fun _ => rfl)).trans rfl
set_option maxRecDepth 100000 in
theorem e_Al_bitOf (d : Nat) (x0 : Int32) (h : sk_H) : c_Al_bitOf d x0 h =
  if ¬ x0 = ((-1) : Int32) then
    some (h, (1 : Int32) <<< (x0 &&& 31))
  else
    some (h, (0 : Int32)) := (sk_XT_evL sk_rec t_I d 10 11 _ (fun _ => rfl)).trans rfl
set_option maxRecDepth 100000 in
theorem e_Al_allows (d : Nat) (x0 : Nat) (x1 : Int32) (x2 : Option Nat) (h : sk_H) : c_Al_allows d (some x0) x1 x2 h =
  Option.bind x2 fun a1 => if hK h a1 = 10 then
  Option.bind x2 fun a2 => if hK h a2 = 10 then
  if ¬ (x1 &&& (hI h a1 3)) = (hI h a2 3) then
    some (h, (0 : Int32))
  else
    if hK h x0 = 2 then
    if (hI h x0 5) = 0 then
      some (h, (1 : Int32))
    else
      Option.bind x2 fun a4 => if hK h a4 = 10 then
      Option.bind (c_Sk_hasEndIn d x2 x1 h) fun q3 =>
      if q3.2 = 0 then
        some (q3.1, (0 : Int32))
      else
        some (q3.1, (1 : Int32))
      else none
    else none
  else none
  else none := (sk_XT_evL sk_rec t_I d 11 20 _ (fun _ => rfl)).trans rfl
set_option maxRecDepth 100000 in
theorem e_Al_strokeOf (d : Nat) (x0 : Nat) (x1 : Int32) (x2 : Int32) (x3 : Int32) (h : sk_H) : c_Al_strokeOf d (some x0) x1 x2 x3 h =
  if hK h x0 = 2 then
  Option.bind (hR h x0 14) fun a1 => if a_any (hK h a1) = true then
  k_Al_strokeOf_14 d (some x0) x1 x2 x3 (hR h x0 14) (Int32.ofNat (hN h a1)) (0 : Int32) h
  else none
  else none := (sk_XT_evL sk_rec t_R d 12 38 _ (fun _ => rfl)).trans rfl
set_option maxRecDepth 100000 in
theorem e_Al_strokeOf_14 (d : Nat) (x0 : Nat) (x1 : Int32) (x2 : Int32) (x3 : Int32) (x4 : Option Nat) (x5 : Int32) (x6 : Int32) (h : sk_H) : k_Al_strokeOf_14 d (some x0) x1 x2 x3 x4 x5 x6 h =
  if x5 ≤ x6 then
    some (h, none)
  else
    Option.bind x4 fun a1 => if a_ref (hK h a1) = true ∧ sk_in x6 (hN h a1) then
    Option.bind (hR h a1 x6.toNatClampNeg) fun a2 => if hK h a2 = 10 then
    if ¬ (hI h a2 0) = x2 then
      k_Al_strokeOf_14 d (some x0) x1 x2 x3 x4 x5 (x6 + 1) h
    else
      Option.bind (hR h a1 x6.toNatClampNeg) fun a3 => if hK h a3 = 10 then
      if ¬ (hI h a3 1) = x3 then
        k_Al_strokeOf_14 d (some x0) x1 x2 x3 x4 x5 (x6 + 1) h
      else
        if hK h x0 = 2 then
        Option.bind (c_Al_allows d (some x0) x1 (hR h a1 x6.toNatClampNeg) h) fun q4 =>
        if q4.2 = 0 then
          some (q4.1, none)
        else
          some (q4.1, hR h a1 x6.toNatClampNeg)
        else none
      else none
    else none
    else none := (sk_XT_evL sk_rec t_R d 12 38 _ (fun _ => rfl)).trans rfl
set_option maxRecDepth 100000 in
theorem e_Al_plainLeavings (d : Nat) (x0 : Nat) (x1 : Int32) (h : sk_H) : c_Al_plainLeavings d (some x0) x1 h =
  k_Al_plainLeavings_5 d (some x0) x1 (0 : Int64) (1 : Int32) h := (sk_XT_evL sk_rec t_L d 13 56 _ (fun _ => rfl)).trans rfl
set_option maxRecDepth 100000 in
theorem e_Al_plainLeavings_5 (d : Nat) (x0 : Nat) (x1 : Int32) (x2 : Int64) (x4 : Int32) (h : sk_H) : k_Al_plainLeavings_5 d (some x0) x1 x2 x4 h =
  if (4 : Int32) < x4 then
    some (h, x2)
  else
    if x1 < x4 then
      some (h, x2)
    else
      k_Al_plainLeavings_26 d (some x0) x1 x2 x4 (x1 - x4) (0 : Int32) h := (sk_XT_evL sk_rec t_L d 13 56 _ (fun _ => rfl)).trans rfl
set_option maxRecDepth 100000 in
theorem e_Al_plainLeavings_26 (d : Nat) (x0 : Nat) (x1 : Int32) (x2 : Int64) (x4 : Int32) (x5 : Int32) (x6 : Int32) (h : sk_H) : k_Al_plainLeavings_26 d (some x0) x1 x2 x4 x5 x6 h =
  if x5 < x6 then
    k_Al_plainLeavings_5 d (some x0) x1 x2 (x4 + 1) h
  else
    if hK h x0 = 2 then
    Option.bind (c_Al_hasHit d (hI h x0 4) x4 h) fun q1 =>
    if q1.2 = 0 then
      k_Al_plainLeavings_5 d (some x0) x1 x2 (x4 + 1) q1.1
    else
      if hK q1.1 x0 = 2 then
      if (hI q1.1 x0 5) = 0 then
        k_Al_plainLeavings_64 d (some x0) x1 x2 x4 x5 x6 q1.1
      else
        if x6 = 0 then
          k_Al_plainLeavings_64 d (some x0) x1 x2 x4 x5 x6 q1.1
        else
          if ¬ x6 = x5 then
            k_Al_plainLeavings_26 d (some x0) x1 x2 x4 x5 (x6 + 1) q1.1
          else
            k_Al_plainLeavings_64 d (some x0) x1 x2 x4 x5 x6 q1.1
      else none
    else none := (sk_XT_evL sk_rec t_L d 13 56 _ (fun _ => rfl)).trans rfl
set_option maxRecDepth 100000 in
theorem e_Al_plainLeavings_64 (d : Nat) (x0 : Nat) (x1 : Int32) (x2 : Int64) (x4 : Int32) (x5 : Int32) (x6 : Int32) (h : sk_H) : k_Al_plainLeavings_64 d (some x0) x1 x2 x4 x5 x6 h =
  if hK h x0 = 2 then
  Option.bind (hR h x0 16) fun a1 => if (hK h a1 = 101 ∨ hK h a1 = 201) ∧ sk_in x6 (hN h a1) then
  if hK h x0 = 2 then
  Option.bind (hR h x0 16) fun a2 => if (hK h a2 = 101 ∨ hK h a2 = 201) ∧ sk_in (x5 - x6) (hN h a2) then
  k_Al_plainLeavings_26 d (some x0) x1 (x2 ||| ((1 : Int64) <<< (((hI h a1 x6.toNatClampNeg) ^^^ (hI h a2 (x5 - x6).toNatClampNeg)).toInt64 &&& 63))) x4 x5 (x6 + 1) h
  else none
  else none
  else none
  else none := (sk_XT_evL sk_rec t_L d 13 56 _ (fun _ => rfl)).trans rfl
set_option maxRecDepth 100000 in
theorem e_Al_leastLeftOut (d : Nat) (x0 : Int64) (h : sk_H) : c_Al_leastLeftOut d x0 h =
  Option.bind (c_JL_numberOfTrailingZeros d (x0 ^^^ ((-1) : Int64)) h) fun q1 =>
  some (q1.1, q1.2) := (sk_XT_evL sk_rec t_I d 14 7 _ (fun _ => rfl)).trans rfl
set_option maxRecDepth 100000 in
theorem e_Al_isWholeRing (d : Nat) (x0 : Nat) (x1 : Int32) (x2 : Int32) (h : sk_H) : c_Al_isWholeRing d (some x0) x1 x2 h =
  if hK h x0 = 2 then
  Option.bind (hR h x0 10) fun a1 => if (hK h a1 = 101 ∨ hK h a1 = 201) ∧ sk_in x2 (hN h a1) then
  if hK h x0 = 2 then
  Option.bind (hR h x0 9) fun a2 => if (hK h a2 = 101 ∨ hK h a2 = 201) ∧ sk_in x2 (hN h a2) then
  if hK h x0 = 2 then
  Option.bind (hR h x0 11) fun a3 => if (hK h a3 = 103 ∨ hK h a3 = 104 ∨ hK h a3 = 204) ∧ sk_in x2 (hN h a3) then
  if (hI h a3 x2.toNatClampNeg) = 0 then
    some (h, (0 : Int32))
  else
    if ¬ (x1 &&& ((((1 : Int32) <<< ((hI h a1 x2.toNatClampNeg) &&& 31)) - (1 : Int32)) <<< ((hI h a2 x2.toNatClampNeg) &&& 31))) = ((((1 : Int32) <<< ((hI h a1 x2.toNatClampNeg) &&& 31)) - (1 : Int32)) <<< ((hI h a2 x2.toNatClampNeg) &&& 31)) then
      some (h, (0 : Int32))
    else
      some (h, (1 : Int32))
  else none
  else none
  else none
  else none
  else none
  else none := (sk_XT_evL sk_rec t_I d 15 30 _ (fun _ => rfl)).trans rfl
set_option maxRecDepth 100000 in
theorem e_Al_runFrom (d : Nat) (x0 : Nat) (x1 : Int32) (x2 : Int32) (h : sk_H) : c_Al_runFrom d (some x0) x1 x2 h =
  if hK h x0 = 2 then
  Option.bind (hR h x0 8) fun a1 => if (hK h a1 = 101 ∨ hK h a1 = 201) ∧ sk_in x2 (hN h a1) then
  if hK h x0 = 2 then
  Option.bind (c_Al_isWholeRing d (some x0) x1 (hI h a1 x2.toNatClampNeg) h) fun q2 =>
  if q2.2 = 0 then
    if hK q2.1 x0 = 2 then
    Option.bind (hR q2.1 x0 12) fun a3 => if (hK q2.1 a3 = 101 ∨ hK q2.1 a3 = 201) ∧ sk_in x2 (hN q2.1 a3) then
    if (hI q2.1 a3 x2.toNatClampNeg) = ((-1) : Int32) then
      k_Al_runFrom_69 d (some x0) x1 (0 : Int32) x2 q2.1
    else
      if hK q2.1 x0 = 2 then
      Option.bind (hR q2.1 x0 12) fun a4 => if (hK q2.1 a4 = 101 ∨ hK q2.1 a4 = 201) ∧ sk_in x2 (hN q2.1 a4) then
      if ¬ ((x1 >>> ((hI q2.1 a4 x2.toNatClampNeg) &&& 31)) &&& (1 : Int32)) = (1 : Int32) then
        k_Al_runFrom_69 d (some x0) x1 (0 : Int32) x2 q2.1
      else
        some (q2.1, (0 : Int32))
      else none
      else none
    else none
    else none
  else
    if hK q2.1 x0 = 2 then
    Option.bind (hR q2.1 x0 9) fun a5 => if (hK q2.1 a5 = 101 ∨ hK q2.1 a5 = 201) ∧ sk_in (hI h a1 x2.toNatClampNeg) (hN q2.1 a5) then
    if ¬ x2 = (hI q2.1 a5 (hI h a1 x2.toNatClampNeg).toNatClampNeg) then
      some (q2.1, (0 : Int32))
    else
      if hK q2.1 x0 = 2 then
      Option.bind (hR q2.1 x0 10) fun a6 => if (hK q2.1 a6 = 101 ∨ hK q2.1 a6 = 201) ∧ sk_in (hI h a1 x2.toNatClampNeg) (hN q2.1 a6) then
      some (q2.1, hI q2.1 a6 (hI h a1 x2.toNatClampNeg).toNatClampNeg)
      else none
      else none
    else none
    else none
  else none
  else none
  else none := (sk_XT_evL sk_rec t_I d 16 70 _ (fun _ => rfl)).trans rfl
set_option maxRecDepth 100000 in
theorem e_Al_runFrom_69 (d : Nat) (x0 : Nat) (x1 : Int32) (x4 : Int32) (x5 : Int32) (h : sk_H) : k_Al_runFrom_69 d (some x0) x1 x4 x5 h =
  if hK h x0 = 2 then
  if (hI h x0 2) ≤ x4 then
    some (h, x4)
  else
    if x5 = ((-1) : Int32) then
      some (h, x4)
    else
      if ¬ ((x1 >>> (x5 &&& 31)) &&& (1 : Int32)) = (1 : Int32) then
        some (h, x4)
      else
        if hK h x0 = 2 then
        Option.bind (hR h x0 13) fun a1 => if (hK h a1 = 101 ∨ hK h a1 = 201) ∧ sk_in x5 (hN h a1) then
        k_Al_runFrom_69 d (some x0) x1 (x4 + 1) (hI h a1 x5.toNatClampNeg) h
        else none
        else none
  else none := (sk_XT_evL sk_rec t_I d 16 70 _ (fun _ => rfl)).trans rfl
set_option maxRecDepth 100000 in
theorem e_Al_rowWorth (d : Nat) (x0 : Nat) (x1 : Int32) (x2 : Int32) (h : sk_H) : c_Al_rowWorth d (some x0) x1 x2 h =
  if hK h x0 = 2 then
  Option.bind (c_Al_isWholeRing d (some x0) x1 x2 h) fun q1 =>
  if q1.2 = 0 then
    k_Al_rowWorth_28 d (some x0) x1 x2 (0 : Int32) (0 : Int32) q1.1
  else
    if hK q1.1 x0 = 2 then
    Option.bind (hR q1.1 x0 10) fun a2 => if (hK q1.1 a2 = 101 ∨ hK q1.1 a2 = 201) ∧ sk_in x2 (hN q1.1 a2) then
    if hK q1.1 x0 = 2 then
    Option.bind (c_Al_ringLeavings d (some x0) (hI q1.1 a2 x2.toNatClampNeg) q1.1) fun q3 =>
    Option.bind (c_Al_leastLeftOut d q3.2 q3.1) fun q4 =>
    some (q4.1, q4.2)
    else none
    else none
    else none
  else none := (sk_XT_evL sk_rec t_I d 17 44 _ (fun _ => rfl)).trans rfl
set_option maxRecDepth 100000 in
theorem e_Al_rowWorth_28 (d : Nat) (x0 : Nat) (x1 : Int32) (x2 : Int32) (x3 : Int32) (x4 : Int32) (h : sk_H) : k_Al_rowWorth_28 d (some x0) x1 x2 x3 x4 h =
  if hK h x0 = 2 then
  Option.bind (hR h x0 10) fun a1 => if (hK h a1 = 101 ∨ hK h a1 = 201) ∧ sk_in x2 (hN h a1) then
  if (hI h a1 x2.toNatClampNeg) ≤ x4 then
    some (h, x3)
  else
    if hK h x0 = 2 then
    if hK h x0 = 2 then
    Option.bind (hR h x0 9) fun a2 => if (hK h a2 = 101 ∨ hK h a2 = 201) ∧ sk_in x2 (hN h a2) then
    if hK h x0 = 2 then
    Option.bind (c_Al_runFrom d (some x0) x1 ((hI h a2 x2.toNatClampNeg) + x4) h) fun q3 =>
    Option.bind (hR h x0 16) fun a4 => if (hK q3.1 a4 = 101 ∨ hK q3.1 a4 = 201) ∧ sk_in q3.2 (hN q3.1 a4) then
    k_Al_rowWorth_28 d (some x0) x1 x2 (x3 ^^^ (hI q3.1 a4 q3.2.toNatClampNeg)) (x4 + 1) q3.1
    else none
    else none
    else none
    else none
    else none
  else none
  else none := (sk_XT_evL sk_rec t_I d 17 44 _ (fun _ => rfl)).trans rfl
set_option maxRecDepth 100000 in
theorem e_Al_ringLeavings (d : Nat) (x0 : Nat) (x1 : Int32) (h : sk_H) : c_Al_ringLeavings d (some x0) x1 h =
  k_Al_ringLeavings_5 d (some x0) x1 (0 : Int64) (1 : Int32) h := (sk_XT_evL sk_rec t_L d 18 38 _ (fun _ => rfl)).trans rfl
set_option maxRecDepth 100000 in
theorem e_Al_ringLeavings_5 (d : Nat) (x0 : Nat) (x1 : Int32) (x2 : Int64) (x4 : Int32) (h : sk_H) : k_Al_ringLeavings_5 d (some x0) x1 x2 x4 h =
  if (4 : Int32) < x4 then
    some (h, x2)
  else
    if x1 < x4 then
      some (h, x2)
    else
      if hK h x0 = 2 then
      Option.bind (c_Al_hasHit d (hI h x0 4) x4 h) fun q1 =>
      if q1.2 = 0 then
        k_Al_ringLeavings_5 d (some x0) x1 x2 (x4 + 1) q1.1
      else
        if hK q1.1 x0 = 2 then
        if (hI q1.1 x0 5) = 0 then
          if hK q1.1 x0 = 2 then
          Option.bind (hR q1.1 x0 16) fun a2 => if (hK q1.1 a2 = 101 ∨ hK q1.1 a2 = 201) ∧ sk_in (x1 - x4) (hN q1.1 a2) then
          k_Al_ringLeavings_5 d (some x0) x1 (x2 ||| ((1 : Int64) <<< ((hI q1.1 a2 (x1 - x4).toNatClampNeg).toInt64 &&& 63))) (x4 + 1) q1.1
          else none
          else none
        else
          if ¬ x4 = x1 then
            k_Al_ringLeavings_5 d (some x0) x1 x2 (x4 + 1) q1.1
          else
            if hK q1.1 x0 = 2 then
            Option.bind (hR q1.1 x0 16) fun a3 => if (hK q1.1 a3 = 101 ∨ hK q1.1 a3 = 201) ∧ sk_in (x1 - x4) (hN q1.1 a3) then
            k_Al_ringLeavings_5 d (some x0) x1 (x2 ||| ((1 : Int64) <<< ((hI q1.1 a3 (x1 - x4).toNatClampNeg).toInt64 &&& 63))) (x4 + 1) q1.1
            else none
            else none
        else none
      else none := (sk_XT_evL sk_rec t_L d 18 38 _ (fun _ => rfl)).trans rfl
set_option maxRecDepth 100000 in
theorem e_Al_sameFrom (d : Nat) (x0 : Nat) (x1 : Int32) (h : sk_H) : c_Al_sameFrom d (some x0) x1 h =
  k_Al_sameFrom_5 d (some x0) x1 ((41 : Int32) - x1) h := (sk_XT_evL sk_rec t_I d 19 36 _ (fun _ => rfl)).trans rfl
set_option maxRecDepth 100000 in
theorem e_Al_sameFrom_5 (d : Nat) (x0 : Nat) (x1 : Int32) (x2 : Int32) (h : sk_H) : k_Al_sameFrom_5 d (some x0) x1 x2 h =
  if x2 ≤ 0 then
    if (40 : Int32) < (x2 + ((2 : Int32) * x1)) then
      some (h, ((-1) : Int32))
    else
      some (h, x2)
  else
    if hK h x0 = 2 then
    Option.bind (hR h x0 16) fun a1 => if (hK h a1 = 101 ∨ hK h a1 = 201) ∧ sk_in (x2 - (1 : Int32)) (hN h a1) then
    if hK h x0 = 2 then
    Option.bind (hR h x0 16) fun a2 => if (hK h a2 = 101 ∨ hK h a2 = 201) ∧ sk_in ((x2 - (1 : Int32)) + x1) (hN h a2) then
    if ¬ (hI h a1 (x2 - (1 : Int32)).toNatClampNeg) = (hI h a2 ((x2 - (1 : Int32)) + x1).toNatClampNeg) then
      if (40 : Int32) < (x2 + ((2 : Int32) * x1)) then
        some (h, ((-1) : Int32))
      else
        some (h, x2)
    else
      k_Al_sameFrom_5 d (some x0) x1 (x2 + (-1)) h
    else none
    else none
    else none
    else none := (sk_XT_evL sk_rec t_I d 19 36 _ (fun _ => rfl)).trans rfl
set_option maxRecDepth 100000 in
theorem e_Al_number (d : Nat) (x0 : Nat) (x1 : Int32) (h : sk_H) : c_Al_number d (some x0) x1 h =
  if x1 = 0 then
    if hK h x0 = 2 then
    some (h, hI h x0 2)
    else none
  else if x1 = 1 then
    if hK h x0 = 2 then
    some (h, hI h x0 3)
    else none
  else if x1 = 2 then
    if hK h x0 = 2 then
    some (h, hI h x0 4)
    else none
  else if x1 = 3 then
    if hK h x0 = 2 then
    if (hI h x0 5) = 0 then
      some (h, (0 : Int32))
    else
      some (h, (1 : Int32))
    else none
  else if x1 = 4 then
    if hK h x0 = 2 then
    if (hI h x0 6) = 0 then
      some (h, (0 : Int32))
    else
      some (h, (1 : Int32))
    else none
  else if hK h x0 = 2 then
  some (h, hI h x0 7)
  else none := (sk_XT_evL sk_rec t_I d 20 30 _ (fun _ => rfl)).trans rfl
set_option maxRecDepth 100000 in
theorem e_AR_init (d : Nat) (x0 : Nat) (x1 : Option Nat) (h : sk_H) : c_AR_init d (some x0) x1 h =
  let n1 := hn h
  let h2 := hnew h 2 17
  if hK h2 n1 = 2 then
  Option.bind (c_Al_init d (some n1) h2) fun q3 =>
  if hK q3 x0 = 3 then
  let h4 := wR q3 x0 1 (some n1)
  if hK h4 x0 = 3 then
  let h5 := wR h4 x0 0 x1
  some h5
  else none
  else none
  else none := (sk_XT_evL sk_rec t_V d 21 13 _ (fun _ => rfl)).trans rfl
set_option maxRecDepth 100000 in
theorem e_AR_read (d : Nat) (x0 : Nat) (h : sk_H) : c_AR_read d (some x0) h =
  k_AR_read_2 d (some x0) (0 : Int32) h := (sk_XT_evL sk_rec t_R d 22 25 _ (fun _ => rfl)).trans rfl
set_option maxRecDepth 100000 in
theorem e_AR_read_2 (d : Nat) (x0 : Nat) (x1 : Int32) (h : sk_H) : k_AR_read_2 d (some x0) x1 h =
  if hK h x0 = 3 then
  Option.bind (c_AR_readClause d (some x0) x1 h) fun q1 =>
  if (40 : Int32) < (x1 + 1) then
    k_AR_read_26 d (some x0) q1
  else
    if hK q1 x0 = 3 then
    Option.bind (hR q1 x0 0) fun a3 => if hK q1 a3 = 6 then
    Option.bind (c_Re_goesOn d (hR q1 x0 0) q1) fun q2 =>
    if ¬ q2.2 = 0 then
      k_AR_read_2 d (some x0) (x1 + 1) q2.1
    else
      k_AR_read_26 d (some x0) q2.1
    else none
    else none
  else none := (sk_XT_evL sk_rec t_R d 22 25 _ (fun _ => rfl)).trans rfl
set_option maxRecDepth 100000 in
theorem e_AR_read_26 (d : Nat) (x0 : Nat) (h : sk_H) : k_AR_read_26 d (some x0) h =
  if hK h x0 = 3 then
  Option.bind (hR h x0 0) fun a4 => if hK h a4 = 6 then
  Option.bind (c_Re_sound d (hR h x0 0) h) fun q1 =>
  if q1.2 = 0 then
    if hK q1.1 x0 = 3 then
    some (q1.1, hR q1.1 x0 1)
    else none
  else
    if hK q1.1 x0 = 3 then
    Option.bind (hR q1.1 x0 1) fun a3 => if hK q1.1 a3 = 2 then
    Option.bind (c_Al_settle d (hR q1.1 x0 1) q1.1) fun q2 =>
    if hK q2 x0 = 3 then
    some (q2, hR q2 x0 1)
    else none
    else none
    else none
  else none
  else none := (sk_XT_evL sk_rec t_R d 22 25 _ (fun _ => rfl)).trans rfl
set_option maxRecDepth 100000 in
theorem e_AR_readClause (d : Nat) (x0 : Nat) (x1 : Int32) (h : sk_H) : c_AR_readClause d (some x0) x1 h =
  if hK h x0 = 3 then
  Option.bind (hR h x0 0) fun a29 => if hK h a29 = 6 then
  Option.bind (c_Re_wordOf d (hR h x0 0) (some 2) h) fun q1 =>
  if ¬ q1.2 = ((-1) : Int32) then
    if (40 : Int32) ≤ x1 then
      if hK q1.1 x0 = 3 then
      if hK q1.1 x0 = 3 then
      Option.bind (hR q1.1 x0 0) fun a2 => if hK q1.1 a2 = 6 then
      Option.bind (hR q1.1 x0 0) fun a4 => if hK q1.1 a4 = 6 then
      Option.bind (c_Re_refuse d (hR q1.1 x0 0) (hI q1.1 a2 2) (4 : Int32) q1.1) fun q3 =>
      some q3
      else none
      else none
      else none
      else none
    else
      if hK q1.1 x0 = 3 then
      Option.bind (c_AR_isTooMany d (some x0) q1.2 x1 q1.1) fun q5 =>
      if q5.2 = 0 then
        if hK q5.1 x0 = 3 then
        Option.bind (hR q5.1 x0 0) fun a22 => if hK q5.1 a22 = 6 then
        Option.bind (c_Re_skipWord d (hR q5.1 x0 0) q5.1) fun q6 =>
        if q1.2 = 0 then
          if hK q6 x0 = 3 then
          if hK q6 x0 = 3 then
          Option.bind (hR q6 x0 0) fun a10 => if hK q6 a10 = 6 then
          Option.bind (c_Re_number d (hR q6 x0 0) (0 : Int32) (1 : Int32) q6) fun q7 =>
          Option.bind (hR q6 x0 1) fun a8 => if hK q7.1 a8 = 2 then
          let h9 := wI q7.1 a8 0 q7.2
          some h9
          else none
          else none
          else none
          else none
        else if q1.2 = 1 then
          if hK q6 x0 = 3 then
          Option.bind (c_AR_readRow d (some x0) q6) fun q11 =>
          some q11
          else none
        else if q1.2 = 2 then
          if hK q6 x0 = 3 then
          Option.bind (c_AR_readRing d (some x0) q6) fun q12 =>
          some q12
          else none
        else if q1.2 = 3 then
          if hK q6 x0 = 3 then
          Option.bind (c_AR_readHit d (some x0) q6) fun q13 =>
          some q13
          else none
        else if q1.2 = 4 then
          if hK q6 x0 = 3 then
          Option.bind (hR q6 x0 1) fun a14 => if hK q6 a14 = 2 ∧ ((1 : Int32) = 0 ∨ (1 : Int32) = 1) then
          let h15 := wI q6 a14 5 (1 : Int32)
          some h15
          else none
          else none
        else if q1.2 = 5 then
          if hK q6 x0 = 3 then
          Option.bind (hR q6 x0 1) fun a16 => if hK q6 a16 = 2 ∧ ((1 : Int32) = 0 ∨ (1 : Int32) = 1) then
          let h17 := wI q6 a16 6 (1 : Int32)
          some h17
          else none
          else none
        else if hK q6 x0 = 3 then
        if hK q6 x0 = 3 then
        Option.bind (hR q6 x0 0) fun a21 => if hK q6 a21 = 6 then
        Option.bind (c_Re_number d (hR q6 x0 0) (0 : Int32) (100 : Int32) q6) fun q18 =>
        Option.bind (hR q6 x0 1) fun a19 => if hK q18.1 a19 = 2 then
        let h20 := wI q18.1 a19 7 q18.2
        some h20
        else none
        else none
        else none
        else none
        else none
        else none
      else
        if hK q5.1 x0 = 3 then
        if hK q5.1 x0 = 3 then
        Option.bind (hR q5.1 x0 0) fun a23 => if hK q5.1 a23 = 6 then
        Option.bind (hR q5.1 x0 0) fun a25 => if hK q5.1 a25 = 6 then
        Option.bind (c_Re_refuse d (hR q5.1 x0 0) (hI q5.1 a23 2) (4 : Int32) q5.1) fun q24 =>
        some q24
        else none
        else none
        else none
        else none
      else none
  else
    if hK q1.1 x0 = 3 then
    if hK q1.1 x0 = 3 then
    Option.bind (hR q1.1 x0 0) fun a26 => if hK q1.1 a26 = 6 then
    Option.bind (hR q1.1 x0 0) fun a28 => if hK q1.1 a28 = 6 then
    Option.bind (c_Re_refuse d (hR q1.1 x0 0) (hI q1.1 a26 2) (0 : Int32) q1.1) fun q27 =>
    some q27
    else none
    else none
    else none
    else none
  else none
  else none := (sk_XT_evL sk_rec t_V d 23 76 _ (fun _ => rfl)).trans rfl
set_option maxRecDepth 100000 in
theorem e_AR_isTooMany (d : Nat) (x0 : Nat) (x1 : Int32) (x2 : Int32) (h : sk_H) : c_AR_isTooMany d (some x0) x1 x2 h =
  if x1 = 0 then
    if x2 ≤ 0 then
      some (h, (0 : Int32))
    else
      some (h, (1 : Int32))
  else if x1 = 1 then
    if x2 = 0 then
      some (h, (1 : Int32))
    else
      if hK h x0 = 3 then
      Option.bind (hR h x0 1) fun a1 => if hK h a1 = 2 then
      if (hI h a1 3) < (4 : Int32) then
        some (h, (0 : Int32))
      else
        some (h, (1 : Int32))
      else none
      else none
  else if x1 = 2 then
    if ¬ x2 = 0 then
      some (h, (0 : Int32))
    else
      some (h, (1 : Int32))
  else if x1 = 3 then
    if ¬ x2 = 0 then
      some (h, (0 : Int32))
    else
      some (h, (1 : Int32))
  else if x1 = 4 then
    if x2 = 0 then
      some (h, (1 : Int32))
    else
      if hK h x0 = 3 then
      Option.bind (hR h x0 1) fun a2 => if hK h a2 = 2 then
      if (hI h a2 5) = 0 then
        some (h, (0 : Int32))
      else
        some (h, (1 : Int32))
      else none
      else none
  else if x1 = 5 then
    if x2 = 0 then
      some (h, (1 : Int32))
    else
      if hK h x0 = 3 then
      Option.bind (hR h x0 1) fun a3 => if hK h a3 = 2 then
      if (hI h a3 6) = 0 then
        some (h, (0 : Int32))
      else
        some (h, (1 : Int32))
      else none
      else none
  else if ¬ x2 = 0 then
    some (h, (0 : Int32))
  else
    some (h, (1 : Int32)) := (sk_XT_evL sk_rec t_I d 24 47 _ (fun _ => rfl)).trans rfl
set_option maxRecDepth 100000 in
theorem e_AR_readRow (d : Nat) (x0 : Nat) (h : sk_H) : c_AR_readRow d (some x0) h =
  if hK h x0 = 3 then
  Option.bind (hR h x0 0) fun a15 => if hK h a15 = 6 then
  Option.bind (c_Re_next d (hR h x0 0) h) fun q1 =>
  Option.bind (c_AR_isPlace d q1.2 q1.1) fun q2 =>
  if ¬ q2.2 = 0 then
    if hK q2.1 x0 = 3 then
    Option.bind (hR q2.1 x0 1) fun a3 => if hK q2.1 a3 = 2 then
    if (4 : Int32) ≤ (hI q2.1 a3 3) then
      k_AR_readRow_77 d (some x0) (0 : Int32) q2.1
    else
      if hK q2.1 x0 = 3 then
      Option.bind (hR q2.1 x0 1) fun a4 => if hK q2.1 a4 = 2 then
      if hK q2.1 x0 = 3 then
      Option.bind (hR q2.1 x0 1) fun a5 => if hK q2.1 a5 = 2 then
      if hK q2.1 x0 = 3 then
      Option.bind (hR q2.1 x0 1) fun a6 => if hK q2.1 a6 = 2 then
      Option.bind (hR q2.1 a4 9) fun a7 => if hK q2.1 a7 = 101 ∧ sk_in (hI q2.1 a5 3) (hN q2.1 a7) then
      let h8 := wI q2.1 a7 (hI q2.1 a5 3).toNatClampNeg (hI q2.1 a6 2)
      if hK h8 x0 = 3 then
      Option.bind (hR h8 x0 1) fun a9 => if hK h8 a9 = 2 then
      Option.bind (hR h8 x0 1) fun a10 => if hK h8 a10 = 2 then
      let h11 := wI h8 a10 3 ((hI h8 a9 3) + (1 : Int32))
      k_AR_readRow_77 d (some x0) (0 : Int32) h11
      else none
      else none
      else none
      else none
      else none
      else none
      else none
      else none
      else none
      else none
    else none
    else none
  else
    if hK q2.1 x0 = 3 then
    if hK q2.1 x0 = 3 then
    Option.bind (hR q2.1 x0 0) fun a12 => if hK q2.1 a12 = 6 then
    Option.bind (hR q2.1 x0 0) fun a14 => if hK q2.1 a14 = 6 then
    Option.bind (c_Re_refuse d (hR q2.1 x0 0) (hI q2.1 a12 2) (0 : Int32) q2.1) fun q13 =>
    some q13
    else none
    else none
    else none
    else none
  else none
  else none := (sk_XT_evL sk_rec t_V d 25 84 _ (fun _ => rfl)).trans rfl
set_option maxRecDepth 100000 in
theorem e_AR_readRow_77 (d : Nat) (x0 : Nat) (x1 : Int32) (h : sk_H) : k_AR_readRow_77 d (some x0) x1 h =
  if (400 : Int32) ≤ x1 then
    some h
  else
    if hK h x0 = 3 then
    Option.bind (hR h x0 0) fun a9 => if hK h a9 = 6 then
    Option.bind (c_Re_sound d (hR h x0 0) h) fun q1 =>
    if q1.2 = 0 then
      some q1.1
    else
      if hK q1.1 x0 = 3 then
      Option.bind (hR q1.1 x0 0) fun a8 => if hK q1.1 a8 = 6 then
      Option.bind (c_Re_look d (hR q1.1 x0 0) q1.1) fun q2 =>
      Option.bind (c_AR_isPlace d q2.2 q2.1) fun q3 =>
      if q3.2 = 0 then
        some q3.1
      else
        if hK q3.1 x0 = 3 then
        Option.bind (hR q3.1 x0 1) fun a4 => if hK q3.1 a4 = 2 then
        if (hI q3.1 a4 2) < (12 : Int32) then
          k_AR_readRow_134 d (some x0) x1 q3.1
        else
          if hK q3.1 x0 = 3 then
          if hK q3.1 x0 = 3 then
          Option.bind (hR q3.1 x0 0) fun a5 => if hK q3.1 a5 = 6 then
          Option.bind (hR q3.1 x0 0) fun a7 => if hK q3.1 a7 = 6 then
          Option.bind (c_Re_refuse d (hR q3.1 x0 0) (hI q3.1 a5 2) (3 : Int32) q3.1) fun q6 =>
          k_AR_readRow_134 d (some x0) x1 q6
          else none
          else none
          else none
          else none
        else none
        else none
      else none
      else none
    else none
    else none := (sk_XT_evL sk_rec t_V d 25 84 _ (fun _ => rfl)).trans rfl
set_option maxRecDepth 100000 in
theorem e_AR_readRow_134 (d : Nat) (x0 : Nat) (x1 : Int32) (h : sk_H) : k_AR_readRow_134 d (some x0) x1 h =
  if hK h x0 = 3 then
  if hK h x0 = 3 then
  Option.bind (hR h x0 0) fun a12 => if hK h a12 = 6 then
  Option.bind (c_Re_look d (hR h x0 0) h) fun q1 =>
  if ¬ q1.2 = (49 : Int32) then
    Option.bind (hR h x0 1) fun a6 => if hK q1.1 a6 = 2 then
    Option.bind (c_Al_addPlace d (hR h x0 1) (0 : Int32) q1.1) fun q2 =>
    if hK q2 x0 = 3 then
    Option.bind (hR q2 x0 0) fun a3 => if hK q2 a3 = 6 then
    Option.bind (hR q2 x0 0) fun a4 => if hK q2 a4 = 6 then
    let h5 := wI q2 a4 2 ((hI q2 a3 2) + (1 : Int32))
    k_AR_readRow_77 d (some x0) (x1 + 1) h5
    else none
    else none
    else none
    else none
  else
    Option.bind (hR h x0 1) fun a11 => if hK q1.1 a11 = 2 then
    Option.bind (c_Al_addPlace d (hR h x0 1) (1 : Int32) q1.1) fun q7 =>
    if hK q7 x0 = 3 then
    Option.bind (hR q7 x0 0) fun a8 => if hK q7 a8 = 6 then
    Option.bind (hR q7 x0 0) fun a9 => if hK q7 a9 = 6 then
    let h10 := wI q7 a9 2 ((hI q7 a8 2) + (1 : Int32))
    k_AR_readRow_77 d (some x0) (x1 + 1) h10
    else none
    else none
    else none
    else none
  else none
  else none
  else none := (sk_XT_evL sk_rec t_V d 25 84 _ (fun _ => rfl)).trans rfl
set_option maxRecDepth 100000 in
theorem e_AR_isPlace (d : Nat) (x0 : Int32) (h : sk_H) : c_AR_isPlace d x0 h =
  if x0 = (48 : Int32) then
    some (h, (1 : Int32))
  else
    if ¬ x0 = (49 : Int32) then
      some (h, (0 : Int32))
    else
      some (h, (1 : Int32)) := (sk_XT_evL sk_rec t_I d 26 12 _ (fun _ => rfl)).trans rfl
set_option maxRecDepth 100000 in
theorem e_AR_readRing (d : Nat) (x0 : Nat) (h : sk_H) : c_AR_readRing d (some x0) h =
  if hK h x0 = 3 then
  Option.bind (hR h x0 0) fun a17 => if hK h a17 = 6 then
  Option.bind (c_Re_next d (hR h x0 0) h) fun q1 =>
  if hK q1.1 x0 = 3 then
  Option.bind (hR q1.1 x0 0) fun a2 => if hK q1.1 a2 = 6 then
  if hK q1.1 x0 = 3 then
  if hK q1.1 x0 = 3 then
  Option.bind (hR q1.1 x0 1) fun a3 => if hK q1.1 a3 = 2 then
  Option.bind (hR q1.1 x0 0) fun a16 => if hK q1.1 a16 = 6 then
  Option.bind (c_Re_number d (hR q1.1 x0 0) (0 : Int32) ((hI q1.1 a3 3) - (1 : Int32)) q1.1) fun q4 =>
  if hK q4.1 x0 = 3 then
  Option.bind (hR q4.1 x0 0) fun a15 => if hK q4.1 a15 = 6 then
  Option.bind (c_Re_sound d (hR q4.1 x0 0) q4.1) fun q5 =>
  if ¬ q5.2 = 0 then
    if (4 : Int32) ≤ q4.2 then
      if hK q5.1 x0 = 3 then
      Option.bind (hR q5.1 x0 0) fun a7 => if hK q5.1 a7 = 6 then
      Option.bind (c_Re_refuse d (hR q5.1 x0 0) (hI q1.1 a2 2) (1 : Int32) q5.1) fun q6 =>
      some q6
      else none
      else none
    else
      if hK q5.1 x0 = 3 then
      Option.bind (hR q5.1 x0 1) fun a8 => if hK q5.1 a8 = 2 then
      Option.bind (hR q5.1 a8 10) fun a9 => if (hK q5.1 a9 = 101 ∨ hK q5.1 a9 = 201) ∧ sk_in q4.2 (hN q5.1 a9) then
      if (hI q5.1 a9 q4.2.toNatClampNeg) < (3 : Int32) then
        if hK q5.1 x0 = 3 then
        Option.bind (hR q5.1 x0 0) fun a11 => if hK q5.1 a11 = 6 then
        Option.bind (c_Re_refuse d (hR q5.1 x0 0) (hI q1.1 a2 2) (1 : Int32) q5.1) fun q10 =>
        some q10
        else none
        else none
      else
        if hK q5.1 x0 = 3 then
        Option.bind (hR q5.1 x0 1) fun a12 => if hK q5.1 a12 = 2 then
        Option.bind (hR q5.1 a12 11) fun a13 => if (hK q5.1 a13 = 104 ∨ (hK q5.1 a13 = 103 ∧ ((1 : Int32) = 0 ∨ (1 : Int32) = 1))) ∧ sk_in q4.2 (hN q5.1 a13) then
        let h14 := wI q5.1 a13 q4.2.toNatClampNeg ((1 : Int32).toInt8.toInt32)
        some h14
        else none
        else none
        else none
      else none
      else none
      else none
  else
    some q5.1
  else none
  else none
  else none
  else none
  else none
  else none
  else none
  else none
  else none
  else none := (sk_XT_evL sk_rec t_V d 27 48 _ (fun _ => rfl)).trans rfl
set_option maxRecDepth 100000 in
theorem e_AR_readHit (d : Nat) (x0 : Nat) (h : sk_H) : c_AR_readHit d (some x0) h =
  if hK h x0 = 3 then
  Option.bind (hR h x0 0) fun a7 => if hK h a7 = 6 then
  Option.bind (c_Re_number d (hR h x0 0) (1 : Int32) (4 : Int32) h) fun q1 =>
  if hK q1.1 x0 = 3 then
  Option.bind (hR q1.1 x0 0) fun a6 => if hK q1.1 a6 = 6 then
  Option.bind (c_Re_sound d (hR q1.1 x0 0) q1.1) fun q2 =>
  if q2.2 = 0 then
    some q2.1
  else
    if hK q2.1 x0 = 3 then
    Option.bind (hR q2.1 x0 1) fun a3 => if hK q2.1 a3 = 2 then
    Option.bind (hR q2.1 x0 1) fun a4 => if hK q2.1 a4 = 2 then
    let h5 := wI q2.1 a4 4 ((hI q2.1 a3 4) ||| ((1 : Int32) <<< ((q1.2 - (1 : Int32)) &&& 31)))
    some h5
    else none
    else none
    else none
  else none
  else none
  else none
  else none := (sk_XT_evL sk_rec t_V d 28 24 _ (fun _ => rfl)).trans rfl
set_option maxRecDepth 100000 in
theorem e_Bo_init (d : Nat) (x0 : Nat) (h : sk_H) : c_Bo_init d (some x0) h =
  let n1 := hn h
  let h2 := hnew h 5 1
  if hK h2 n1 = 5 then
  Option.bind (c_Lo_init d (some n1) h2) fun q3 =>
  if hK q3 x0 = 4 then
  let h4 := wR q3 x0 0 (some n1)
  some h4
  else none
  else none := (sk_XT_evL sk_rec t_V d 29 10 _ (fun _ => rfl)).trans rfl
set_option maxRecDepth 100000 in
theorem e_Bo_playTimes (d : Nat) (x0 : Nat) (x1 : Option Nat) (x2 : Option Nat) (x3 : Option Nat) (x4 : Option Nat) (x5 : Int32) (h : sk_H) : c_Bo_playTimes d (some x0) x1 x2 x3 x4 x5 h =
  if hK h x0 = 4 then
  let h1 := wI h x0 7 (0 : Int32)
  if hK h1 x0 = 4 then
  let h2 := wI h1 x0 8 (0 : Int32)
  if hK h2 x0 = 4 then
  let h3 := wR h2 x0 1 x2
  Option.bind x1 fun a4 => if hK h3 a4 = 9 then
  if hK h3 x0 = 4 then
  let h5 := wR h3 x0 2 (hR h3 a4 0)
  Option.bind x1 fun a6 => if hK h5 a6 = 9 then
  if hK h5 x0 = 4 then
  let h7 := wJ h5 x0 6 ((hI h5 a6 4).toInt64)
  k_Bo_playTimes_35 d (some x0) x1 x3 x4 x5 (0 : Int32) h7
  else none
  else none
  else none
  else none
  else none
  else none
  else none := (sk_XT_evL sk_rec t_V d 30 65 _ (fun _ => rfl)).trans rfl
set_option maxRecDepth 100000 in
theorem e_Bo_playTimes_35 (d : Nat) (x0 : Nat) (x1 : Option Nat) (x3 : Option Nat) (x4 : Option Nat) (x5 : Int32) (x6 : Int32) (h : sk_H) : k_Bo_playTimes_35 d (some x0) x1 x3 x4 x5 x6 h =
  if x5 ≤ x6 then
    some h
  else
    if hK h x0 = 4 then
    if (hR h x0 2) = none then
      some h
    else
      Option.bind x1 fun a1 => if hK h a1 = 9 then
      if hK h x0 = 4 then
      let h2 := wI h x0 3 (hI h a1 1)
      Option.bind x1 fun a3 => if hK h2 a3 = 9 then
      if hK h2 x0 = 4 then
      let h4 := wI h2 x0 4 (hI h2 a3 2)
      Option.bind x1 fun a5 => if hK h4 a5 = 9 then
      if hK h4 x0 = 4 then
      let h6 := wI h4 x0 5 (hI h4 a5 3)
      if hK h6 x0 = 4 then
      Option.bind (c_Bo_playOut d (some x0) x3 x4 h6) fun q7 =>
      if hK q7 x0 = 4 then
      if hK q7 x0 = 4 then
      Option.bind (hR q7 x0 2) fun a8 => if hK q7 a8 = 2 then
      if hK q7 x0 = 4 then
      if ¬ (hI q7 x0 4) = 0 then
        if ¬ (hI q7 a8 6) = (0 : Int32) then
          if hK q7 x0 = 4 then
          let h9 := wI q7 x0 7 ((hI q7 x0 7) + (0 : Int32))
          k_Bo_playTimes_35 d (some x0) x1 x3 x4 x5 (x6 + 1) h9
          else none
        else
          if hK q7 x0 = 4 then
          let h10 := wI q7 x0 7 ((hI q7 x0 7) + (1 : Int32))
          k_Bo_playTimes_35 d (some x0) x1 x3 x4 x5 (x6 + 1) h10
          else none
      else
        if ¬ (hI q7 a8 6) = (1 : Int32) then
          if hK q7 x0 = 4 then
          let h11 := wI q7 x0 7 ((hI q7 x0 7) + (0 : Int32))
          k_Bo_playTimes_35 d (some x0) x1 x3 x4 x5 (x6 + 1) h11
          else none
        else
          if hK q7 x0 = 4 then
          let h12 := wI q7 x0 7 ((hI q7 x0 7) + (1 : Int32))
          k_Bo_playTimes_35 d (some x0) x1 x3 x4 x5 (x6 + 1) h12
          else none
      else none
      else none
      else none
      else none
      else none
      else none
      else none
      else none
      else none
      else none
      else none
    else none := (sk_XT_evL sk_rec t_V d 30 65 _ (fun _ => rfl)).trans rfl
set_option maxRecDepth 100000 in
theorem e_Bo_playOut (d : Nat) (x0 : Nat) (x1 : Option Nat) (x2 : Option Nat) (h : sk_H) : c_Bo_playOut d (some x0) x1 x2 h =
  k_Bo_playOut_2 d (some x0) x1 x2 (0 : Int32) h := (sk_XT_evL sk_rec t_V d 31 56 _ (fun _ => rfl)).trans rfl
set_option maxRecDepth 100000 in
theorem e_Bo_playOut_2 (d : Nat) (x0 : Nat) (x1 : Option Nat) (x2 : Option Nat) (x3 : Int32) (h : sk_H) : k_Bo_playOut_2 d (some x0) x1 x2 x3 h =
  if (12 : Int32) ≤ x3 then
    some h
  else
    if hK h x0 = 4 then
    if ¬ (hI h x0 4) = 0 then
      if ¬ x2 = none then
        if hK h x0 = 4 then
        Option.bind (c_Bo_bestBy d (some x0) x2 h) fun q1 =>
        k_Bo_playOut_40 d (some x0) x1 x2 x3 q1.2 q1.1
        else none
      else
        if hK h x0 = 4 then
        Option.bind (c_Bo_drawn d (some x0) h) fun q2 =>
        k_Bo_playOut_40 d (some x0) x1 x2 x3 q2.2 q2.1
        else none
    else
      if ¬ x1 = none then
        if hK h x0 = 4 then
        Option.bind (c_Bo_bestBy d (some x0) x1 h) fun q3 =>
        k_Bo_playOut_40 d (some x0) x1 x2 x3 q3.2 q3.1
        else none
      else
        if hK h x0 = 4 then
        Option.bind (c_Bo_drawn d (some x0) h) fun q4 =>
        k_Bo_playOut_40 d (some x0) x1 x2 x3 q4.2 q4.1
        else none
    else none := (sk_XT_evL sk_rec t_V d 31 56 _ (fun _ => rfl)).trans rfl
set_option maxRecDepth 100000 in
theorem e_Bo_playOut_40 (d : Nat) (x0 : Nat) (x1 : Option Nat) (x2 : Option Nat) (x3 : Int32) (s0 : Option Nat) (h : sk_H) : k_Bo_playOut_40 d (some x0) x1 x2 x3 s0 h =
  if ¬ s0 = none then
    if hK h x0 = 4 then
    Option.bind s0 fun a1 => if hK h a1 = 10 then
    if hK h x0 = 4 then
    let h2 := wI h x0 3 ((hI h x0 3) &&& ((hI h a1 3) ^^^ ((-1) : Int32)))
    if hK h2 x0 = 4 then
    if hK h2 x0 = 4 then
    let h3 := wI h2 x0 4 ((1 : Int32) - (hI h2 x0 4))
    if hK h3 x0 = 4 then
    if hK h3 x0 = 4 then
    let h4 := wI h3 x0 5 ((hI h3 x0 5) + (1 : Int32))
    if hK h4 x0 = 4 then
    if hK h4 x0 = 4 then
    let h5 := wI h4 x0 8 ((hI h4 x0 8) + (1 : Int32))
    k_Bo_playOut_2 d (some x0) x1 x2 (x3 + 1) h5
    else none
    else none
    else none
    else none
    else none
    else none
    else none
    else none
    else none
  else
    some h := (sk_XT_evL sk_rec t_V d 31 56 _ (fun _ => rfl)).trans rfl
set_option maxRecDepth 100000 in
theorem e_Bo_bestBy (d : Nat) (x0 : Nat) (x1 : Option Nat) (h : sk_H) : c_Bo_bestBy d (some x0) x1 h =
  if hK h x0 = 4 then
  Option.bind (hR h x0 2) fun a1 => if hK h a1 = 2 then
  Option.bind (hR h a1 14) fun a2 => if a_any (hK h a2) = true then
  k_Bo_bestBy_21 d (some x0) x1 none (0 : Int64) (hR h a1 14) (Int32.ofNat (hN h a2)) (0 : Int32) h
  else none
  else none
  else none := (sk_XT_evL sk_rec t_R d 32 55 _ (fun _ => rfl)).trans rfl
set_option maxRecDepth 100000 in
theorem e_Bo_bestBy_21 (d : Nat) (x0 : Nat) (x1 : Option Nat) (x2 : Option Nat) (x3 : Int64) (x5 : Option Nat) (x6 : Int32) (x7 : Int32) (h : sk_H) : k_Bo_bestBy_21 d (some x0) x1 x2 x3 x5 x6 x7 h =
  if x6 ≤ x7 then
    some (h, x2)
  else
    Option.bind x5 fun a1 => if a_ref (hK h a1) = true ∧ sk_in x7 (hN h a1) then
    if hK h x0 = 4 then
    if hK h x0 = 4 then
    Option.bind (hR h x0 2) fun a8 => if hK h a8 = 2 then
    Option.bind (c_Al_allows d (hR h x0 2) (hI h x0 3) (hR h a1 x7.toNatClampNeg) h) fun q2 =>
    if q2.2 = 0 then
      k_Bo_bestBy_21 d (some x0) x1 x2 x3 x5 x6 (x7 + 1) q2.1
    else
      if hK q2.1 x0 = 4 then
      Option.bind x1 fun a3 => if hK q2.1 a3 = 7 then
      Option.bind (hR q2.1 x0 0) fun a7 => if hK q2.1 a7 = 5 then
      Option.bind (c_Lo_lookAt d (hR q2.1 x0 0) (some x0) (hR h a1 x7.toNatClampNeg) (hI q2.1 a3 6) q2.1) fun q4 =>
      if hK q4 x0 = 4 then
      Option.bind x1 fun a6 => if hK q4 a6 = 7 then
      Option.bind (c_Ru_valueOf d x1 (hR q4 x0 0) q4) fun q5 =>
      if x2 = none then
        k_Bo_bestBy_21 d (some x0) x1 (hR h a1 x7.toNatClampNeg) q5.2 x5 x6 (x7 + 1) q5.1
      else
        if (lg_cmp q5.2 x3) ≤ 0 then
          k_Bo_bestBy_21 d (some x0) x1 x2 x3 x5 x6 (x7 + 1) q5.1
        else
          k_Bo_bestBy_21 d (some x0) x1 (hR h a1 x7.toNatClampNeg) q5.2 x5 x6 (x7 + 1) q5.1
      else none
      else none
      else none
      else none
      else none
    else none
    else none
    else none
    else none := (sk_XT_evL sk_rec t_R d 32 55 _ (fun _ => rfl)).trans rfl
set_option maxRecDepth 100000 in
theorem e_Bo_drawn (d : Nat) (x0 : Nat) (h : sk_H) : c_Bo_drawn d (some x0) h =
  if hK h x0 = 4 then
  Option.bind (hR h x0 2) fun a1 => if hK h a1 = 2 then
  Option.bind (hR h a1 14) fun a2 => if a_any (hK h a2) = true then
  k_Bo_drawn_16 d (some x0) (0 : Int32) (hR h a1 14) (Int32.ofNat (hN h a2)) (0 : Int32) h
  else none
  else none
  else none := (sk_XT_evL sk_rec t_R d 33 94 _ (fun _ => rfl)).trans rfl
set_option maxRecDepth 100000 in
theorem e_Bo_drawn_16 (d : Nat) (x0 : Nat) (x1 : Int32) (x2 : Option Nat) (x3 : Int32) (x4 : Int32) (h : sk_H) : k_Bo_drawn_16 d (some x0) x1 x2 x3 x4 h =
  if x3 ≤ x4 then
    if ¬ x1 = 0 then
      if hK h x0 = 4 then
      if hK h x0 = 4 then
      let h1 := wJ h x0 6 ((((hJ h x0 6) * (1103515245 : Int64)) + (12345 : Int64)) &&& (2147483647 : Int64))
      if hK h1 x0 = 4 then
      if ¬ (65536 : Int64) = 0 then
      if ¬ x1.toInt64 = 0 then
      if hK h1 x0 = 4 then
      Option.bind (hR h1 x0 2) fun a2 => if hK h1 a2 = 2 then
      Option.bind (hR h1 a2 14) fun a3 => if a_any (hK h1 a3) = true then
      k_Bo_drawn_113 d (some x0) (((hJ h1 x0 6) / (65536 : Int64)) - ((hJ h1 x0 6) / (65536 : Int64)) / x1.toInt64 * x1.toInt64) (hR h1 a2 14) (Int32.ofNat (hN h1 a3)) (0 : Int32) h1
      else none
      else none
      else none
      else none
      else none
      else none
      else none
      else none
    else
      some (h, none)
  else
    Option.bind x2 fun a4 => if a_ref (hK h a4) = true ∧ sk_in x4 (hN h a4) then
    if hK h x0 = 4 then
    if hK h x0 = 4 then
    Option.bind (hR h x0 2) fun a6 => if hK h a6 = 2 then
    Option.bind (c_Al_allows d (hR h x0 2) (hI h x0 3) (hR h a4 x4.toNatClampNeg) h) fun q5 =>
    if q5.2 = 0 then
      k_Bo_drawn_16 d (some x0) (x1 + (0 : Int32)) x2 x3 (x4 + 1) q5.1
    else
      k_Bo_drawn_16 d (some x0) (x1 + (1 : Int32)) x2 x3 (x4 + 1) q5.1
    else none
    else none
    else none
    else none := (sk_XT_evL sk_rec t_R d 33 94 _ (fun _ => rfl)).trans rfl
set_option maxRecDepth 100000 in
theorem e_Bo_drawn_113 (d : Nat) (x0 : Nat) (x2 : Int64) (x4 : Option Nat) (x5 : Int32) (x6 : Int32) (h : sk_H) : k_Bo_drawn_113 d (some x0) x2 x4 x5 x6 h =
  if x5 ≤ x6 then
    some (h, none)
  else
    Option.bind x4 fun a1 => if a_ref (hK h a1) = true ∧ sk_in x6 (hN h a1) then
    if hK h x0 = 4 then
    if hK h x0 = 4 then
    Option.bind (hR h x0 2) fun a3 => if hK h a3 = 2 then
    Option.bind (c_Al_allows d (hR h x0 2) (hI h x0 3) (hR h a1 x6.toNatClampNeg) h) fun q2 =>
    if q2.2 = 0 then
      k_Bo_drawn_113 d (some x0) x2 x4 x5 (x6 + 1) q2.1
    else
      if ¬ (lg_cmp x2 (0 : Int64)) = 0 then
        k_Bo_drawn_113 d (some x0) (x2 - (1 : Int64)) x4 x5 (x6 + 1) q2.1
      else
        some (q2.1, hR h a1 x6.toNatClampNeg)
    else none
    else none
    else none
    else none := (sk_XT_evL sk_rec t_R d 33 94 _ (fun _ => rfl)).trans rfl
set_option maxRecDepth 100000 in
theorem e_Lo_init (d : Nat) (x0 : Nat) (h : sk_H) : c_Lo_init d (some x0) h =
  let n1 := hn h
  let h2 := hnew h 102 11
  if hK h2 x0 = 5 then
  let h3 := wR h2 x0 0 (some n1)
  some h3
  else none := (sk_XT_evL sk_rec t_V d 34 9 _ (fun _ => rfl)).trans rfl
set_option maxRecDepth 100000 in
theorem e_Lo_word (d : Nat) (x0 : Nat) (x1 : Int32) (h : sk_H) : c_Lo_word d (some x0) x1 h =
  if x1 < 0 then
    some (h, (0 : Int64))
  else
    if hK h x0 = 5 then
    Option.bind (hR h x0 0) fun a1 => if a_any (hK h a1) = true then
    if (Int32.ofNat (hN h a1)) ≤ x1 then
      some (h, (0 : Int64))
    else
      if hK h x0 = 5 then
      Option.bind (hR h x0 0) fun a2 => if (hK h a2 = 102 ∨ hK h a2 = 202) ∧ sk_in x1 (hN h a2) then
      some (h, hJ h a2 x1.toNatClampNeg)
      else none
      else none
    else none
    else none := (sk_XT_evL sk_rec t_L d 35 16 _ (fun _ => rfl)).trans rfl
set_option maxRecDepth 100000 in
theorem e_Lo_lookAt (d : Nat) (x0 : Nat) (x1 : Option Nat) (x2 : Option Nat) (x3 : Int32) (h : sk_H) : c_Lo_lookAt d (some x0) x1 x2 x3 h =
  Option.bind x1 fun a1 => if hK h a1 = 4 then
  Option.bind x2 fun a2 => if hK h a2 = 10 then
  if hK h x0 = 5 then
  Option.bind x2 fun a3 => if hK h a3 = 10 then
  Option.bind (hR h x0 0) fun a4 => if hK h a4 = 102 ∧ sk_in (0 : Int32) (hN h a4) then
  let h5 := wJ h a4 (0 : Int32).toNatClampNeg ((hI h a3 0).toInt64)
  if hK h5 x0 = 5 then
  Option.bind x2 fun a6 => if hK h5 a6 = 10 then
  Option.bind (hR h5 x0 0) fun a7 => if hK h5 a7 = 102 ∧ sk_in (1 : Int32) (hN h5 a7) then
  let h8 := wJ h5 a7 (1 : Int32).toNatClampNeg ((hI h5 a6 1).toInt64)
  if hK h8 x0 = 5 then
  Option.bind x2 fun a9 => if hK h8 a9 = 10 then
  Option.bind (hR h8 x0 0) fun a10 => if hK h8 a10 = 102 ∧ sk_in (2 : Int32) (hN h8 a10) then
  let h11 := wJ h8 a10 (2 : Int32).toNatClampNeg ((hI h8 a9 2).toInt64)
  if hK h11 x0 = 5 then
  Option.bind x1 fun a12 => if hK h11 a12 = 4 then
  Option.bind (c_JI_bitCount d (hI h11 a12 3) h11) fun q13 =>
  Option.bind (hR h11 x0 0) fun a14 => if hK q13.1 a14 = 102 ∧ sk_in (3 : Int32) (hN q13.1 a14) then
  let h15 := wJ q13.1 a14 (3 : Int32).toNatClampNeg q13.2.toInt64
  if hK h15 x0 = 5 then
  Option.bind (c_JI_bitCount d ((hI h a1 3) &&& ((hI h a2 3) ^^^ ((-1) : Int32))) h15) fun q16 =>
  Option.bind (hR h15 x0 0) fun a17 => if hK q16.1 a17 = 102 ∧ sk_in (4 : Int32) (hN q16.1 a17) then
  let h18 := wJ q16.1 a17 (4 : Int32).toNatClampNeg q16.2.toInt64
  if hK h18 x0 = 5 then
  Option.bind x1 fun a19 => if hK h18 a19 = 4 then
  Option.bind (hR h18 x0 0) fun a20 => if hK h18 a20 = 102 ∧ sk_in (9 : Int32) (hN h18 a20) then
  let h21 := wJ h18 a20 (9 : Int32).toNatClampNeg ((hI h18 a19 4).toInt64)
  if hK h21 x0 = 5 then
  Option.bind x1 fun a22 => if hK h21 a22 = 4 then
  Option.bind (hR h21 x0 0) fun a23 => if hK h21 a23 = 102 ∧ sk_in (10 : Int32) (hN h21 a23) then
  let h24 := wJ h21 a23 (10 : Int32).toNatClampNeg ((hI h21 a22 5).toInt64)
  if ¬ ((x3 >>> ((8 : Int32) &&& 31)) &&& (1 : Int32)) = (1 : Int32) then
    if (x3 &&& (224 : Int32)) = 0 then
      some h24
    else
      Option.bind x1 fun a25 => if hK h24 a25 = 4 then
      if hK h24 x0 = 5 then
      Option.bind (c_Lo_countRuns d (some x0) (hR h24 a25 2) ((hI h a1 3) &&& ((hI h a2 3) ^^^ ((-1) : Int32))) h24) fun q26 =>
      some q26
      else none
      else none
  else
    if hK h24 x0 = 5 then
    Option.bind x1 fun a27 => if hK h24 a27 = 4 then
    Option.bind (hR h24 a27 1) fun a37 => if hK h24 a37 = 11 then
    Option.bind (c_Ta_canWin d (hR h24 a27 1) ((hI h a1 3) &&& ((hI h a2 3) ^^^ ((-1) : Int32))) h24) fun q28 =>
    if q28.2 = 0 then
      Option.bind (hR h24 x0 0) fun a29 => if hK q28.1 a29 = 102 ∧ sk_in (8 : Int32) (hN q28.1 a29) then
      let h30 := wJ q28.1 a29 (8 : Int32).toNatClampNeg (1 : Int64)
      if (x3 &&& (224 : Int32)) = 0 then
        some h30
      else
        Option.bind x1 fun a31 => if hK h30 a31 = 4 then
        if hK h30 x0 = 5 then
        Option.bind (c_Lo_countRuns d (some x0) (hR h30 a31 2) ((hI h a1 3) &&& ((hI h a2 3) ^^^ ((-1) : Int32))) h30) fun q32 =>
        some q32
        else none
        else none
      else none
    else
      Option.bind (hR h24 x0 0) fun a33 => if hK q28.1 a33 = 102 ∧ sk_in (8 : Int32) (hN q28.1 a33) then
      let h34 := wJ q28.1 a33 (8 : Int32).toNatClampNeg (0 : Int64)
      if (x3 &&& (224 : Int32)) = 0 then
        some h34
      else
        Option.bind x1 fun a35 => if hK h34 a35 = 4 then
        if hK h34 x0 = 5 then
        Option.bind (c_Lo_countRuns d (some x0) (hR h34 a35 2) ((hI h a1 3) &&& ((hI h a2 3) ^^^ ((-1) : Int32))) h34) fun q36 =>
        some q36
        else none
        else none
      else none
    else none
    else none
    else none
  else none
  else none
  else none
  else none
  else none
  else none
  else none
  else none
  else none
  else none
  else none
  else none
  else none
  else none
  else none
  else none
  else none
  else none
  else none
  else none
  else none
  else none := (sk_XT_evL sk_rec t_V d 36 89 _ (fun _ => rfl)).trans rfl
set_option maxRecDepth 100000 in
theorem e_Lo_countRuns (d : Nat) (x0 : Nat) (x1 : Option Nat) (x2 : Int32) (h : sk_H) : c_Lo_countRuns d (some x0) x1 x2 h =
  k_Lo_countRuns_11 d (some x0) x1 x2 (0 : Int32) (0 : Int32) (0 : Int32) (0 : Int32) h := (sk_XT_evL sk_rec t_V d 37 61 _ (fun _ => rfl)).trans rfl
set_option maxRecDepth 100000 in
theorem e_Lo_countRuns_11 (d : Nat) (x0 : Nat) (x1 : Option Nat) (x2 : Int32) (x3 : Int32) (x4 : Int32) (x5 : Int32) (x6 : Int32) (h : sk_H) : k_Lo_countRuns_11 d (some x0) x1 x2 x3 x4 x5 x6 h =
  Option.bind x1 fun a1 => if hK h a1 = 2 then
  if (hI h a1 2) ≤ x6 then
    if hK h x0 = 5 then
    Option.bind (hR h x0 0) fun a2 => if hK h a2 = 102 ∧ sk_in (5 : Int32) (hN h a2) then
    let h3 := wJ h a2 (5 : Int32).toNatClampNeg x3.toInt64
    if hK h3 x0 = 5 then
    Option.bind (hR h3 x0 0) fun a4 => if hK h3 a4 = 102 ∧ sk_in (6 : Int32) (hN h3 a4) then
    let h5 := wJ h3 a4 (6 : Int32).toNatClampNeg x4.toInt64
    if hK h5 x0 = 5 then
    Option.bind (hR h5 x0 0) fun a6 => if hK h5 a6 = 102 ∧ sk_in (7 : Int32) (hN h5 a6) then
    let h7 := wJ h5 a6 (7 : Int32).toNatClampNeg x5.toInt64
    some h7
    else none
    else none
    else none
    else none
    else none
    else none
  else
    Option.bind x1 fun a9 => if hK h a9 = 2 then
    Option.bind (c_Al_runFrom d x1 x2 x6 h) fun q8 =>
    if q8.2 ≤ 0 then
      k_Lo_countRuns_40 d (some x0) x1 x2 x4 x5 x6 q8.2 (0 : Int32) x3 q8.1
    else
      k_Lo_countRuns_40 d (some x0) x1 x2 x4 x5 x6 q8.2 (1 : Int32) x3 q8.1
    else none
  else none := (sk_XT_evL sk_rec t_V d 37 61 _ (fun _ => rfl)).trans rfl
set_option maxRecDepth 100000 in
theorem e_Lo_countRuns_40 (d : Nat) (x0 : Nat) (x1 : Option Nat) (x2 : Int32) (x4 : Int32) (x5 : Int32) (x6 : Int32) (x7 : Int32) (s0 : Int32) (s1 : Int32) (h : sk_H) : k_Lo_countRuns_40 d (some x0) x1 x2 x4 x5 x6 x7 s0 s1 h =
  if ¬ x7 = (1 : Int32) then
    k_Lo_countRuns_11 d (some x0) x1 x2 (s1 + s0) (if x4 < x7 then x7 else x4) (x5 + (0 : Int32)) (x6 + 1) h
  else
    k_Lo_countRuns_11 d (some x0) x1 x2 (s1 + s0) (if x4 < x7 then x7 else x4) (x5 + (1 : Int32)) (x6 + 1) h := (sk_XT_evL sk_rec t_V d 37 61 _ (fun _ => rfl)).trans rfl
set_option maxRecDepth 100000 in
theorem e_JI_numberOfTrailingZeros (d : Nat) (x0 : Int32) (h : sk_H) : c_JI_numberOfTrailingZeros d x0 h =
  if 0 < ((x0 ^^^ ((-1) : Int32)) &&& (x0 - (1 : Int32))) then
    if ((x0 ^^^ ((-1) : Int32)) &&& (x0 - (1 : Int32))) ≤ (65536 : Int32) then
      k_JI_numberOfTrailingZeros_34 d ((x0 ^^^ ((-1) : Int32)) &&& (x0 - (1 : Int32))) (1 : Int32) h
    else
      k_JI_numberOfTrailingZeros_34 d ((((x0 ^^^ ((-1) : Int32)) &&& (x0 - (1 : Int32))).toUInt32 >>> ((16 : Int32).toUInt32 &&& Int32.toUInt32 31)).toInt32) ((1 : Int32) + 16) h
  else
    some (h, ((x0 ^^^ ((-1) : Int32)) &&& (x0 - (1 : Int32))) &&& (32 : Int32)) := (sk_XT_evL sk_rec t_I d 235 56 _ (fun _ => rfl)).trans rfl
set_option maxRecDepth 100000 in
theorem e_JI_numberOfTrailingZeros_34 (d : Nat) (x0 : Int32) (x1 : Int32) (h : sk_H) : k_JI_numberOfTrailingZeros_34 d x0 x1 h =
  if x0 ≤ (256 : Int32) then
    if x0 ≤ (16 : Int32) then
      k_JI_numberOfTrailingZeros_62 d x0 x1 h
    else
      k_JI_numberOfTrailingZeros_62 d ((x0.toUInt32 >>> ((4 : Int32).toUInt32 &&& Int32.toUInt32 31)).toInt32) (x1 + 4) h
  else
    if ((x0.toUInt32 >>> ((8 : Int32).toUInt32 &&& Int32.toUInt32 31)).toInt32) ≤ (16 : Int32) then
      k_JI_numberOfTrailingZeros_62 d ((x0.toUInt32 >>> ((8 : Int32).toUInt32 &&& Int32.toUInt32 31)).toInt32) (x1 + 8) h
    else
      k_JI_numberOfTrailingZeros_62 d ((((x0.toUInt32 >>> ((8 : Int32).toUInt32 &&& Int32.toUInt32 31)).toInt32).toUInt32 >>> ((4 : Int32).toUInt32 &&& Int32.toUInt32 31)).toInt32) ((x1 + 8) + 4) h := (sk_XT_evL sk_rec t_I d 235 56 _ (fun _ => rfl)).trans rfl
set_option maxRecDepth 100000 in
theorem e_JI_numberOfTrailingZeros_62 (d : Nat) (x0 : Int32) (x1 : Int32) (h : sk_H) : k_JI_numberOfTrailingZeros_62 d x0 x1 h =
  if x0 ≤ (4 : Int32) then
    some (h, x1 + ((x0.toUInt32 >>> ((1 : Int32).toUInt32 &&& Int32.toUInt32 31)).toInt32))
  else
    some (h, (x1 + 2) + ((((x0.toUInt32 >>> ((2 : Int32).toUInt32 &&& Int32.toUInt32 31)).toInt32).toUInt32 >>> ((1 : Int32).toUInt32 &&& Int32.toUInt32 31)).toInt32)) := (sk_XT_evL sk_rec t_I d 235 56 _ (fun _ => rfl)).trans rfl
set_option maxRecDepth 100000 in
theorem e_JI_bitCount (d : Nat) (x0 : Int32) (h : sk_H) : c_JI_bitCount d x0 h =
  some (h, (((((((x0 - (((x0.toUInt32 >>> ((1 : Int32).toUInt32 &&& Int32.toUInt32 31)).toInt32) &&& (1431655765 : Int32))) &&& (858993459 : Int32)) + ((((x0 - (((x0.toUInt32 >>> ((1 : Int32).toUInt32 &&& Int32.toUInt32 31)).toInt32) &&& (1431655765 : Int32))).toUInt32 >>> ((2 : Int32).toUInt32 &&& Int32.toUInt32 31)).toInt32) &&& (858993459 : Int32))) + (((((x0 - (((x0.toUInt32 >>> ((1 : Int32).toUInt32 &&& Int32.toUInt32 31)).toInt32) &&& (1431655765 : Int32))) &&& (858993459 : Int32)) + ((((x0 - (((x0.toUInt32 >>> ((1 : Int32).toUInt32 &&& Int32.toUInt32 31)).toInt32) &&& (1431655765 : Int32))).toUInt32 >>> ((2 : Int32).toUInt32 &&& Int32.toUInt32 31)).toInt32) &&& (858993459 : Int32))).toUInt32 >>> ((4 : Int32).toUInt32 &&& Int32.toUInt32 31)).toInt32)) &&& (252645135 : Int32)) + (((((((x0 - (((x0.toUInt32 >>> ((1 : Int32).toUInt32 &&& Int32.toUInt32 31)).toInt32) &&& (1431655765 : Int32))) &&& (858993459 : Int32)) + ((((x0 - (((x0.toUInt32 >>> ((1 : Int32).toUInt32 &&& Int32.toUInt32 31)).toInt32) &&& (1431655765 : Int32))).toUInt32 >>> ((2 : Int32).toUInt32 &&& Int32.toUInt32 31)).toInt32) &&& (858993459 : Int32))) + (((((x0 - (((x0.toUInt32 >>> ((1 : Int32).toUInt32 &&& Int32.toUInt32 31)).toInt32) &&& (1431655765 : Int32))) &&& (858993459 : Int32)) + ((((x0 - (((x0.toUInt32 >>> ((1 : Int32).toUInt32 &&& Int32.toUInt32 31)).toInt32) &&& (1431655765 : Int32))).toUInt32 >>> ((2 : Int32).toUInt32 &&& Int32.toUInt32 31)).toInt32) &&& (858993459 : Int32))).toUInt32 >>> ((4 : Int32).toUInt32 &&& Int32.toUInt32 31)).toInt32)) &&& (252645135 : Int32)).toUInt32 >>> ((8 : Int32).toUInt32 &&& Int32.toUInt32 31)).toInt32)) + ((((((((x0 - (((x0.toUInt32 >>> ((1 : Int32).toUInt32 &&& Int32.toUInt32 31)).toInt32) &&& (1431655765 : Int32))) &&& (858993459 : Int32)) + ((((x0 - (((x0.toUInt32 >>> ((1 : Int32).toUInt32 &&& Int32.toUInt32 31)).toInt32) &&& (1431655765 : Int32))).toUInt32 >>> ((2 : Int32).toUInt32 &&& Int32.toUInt32 31)).toInt32) &&& (858993459 : Int32))) + (((((x0 - (((x0.toUInt32 >>> ((1 : Int32).toUInt32 &&& Int32.toUInt32 31)).toInt32) &&& (1431655765 : Int32))) &&& (858993459 : Int32)) + ((((x0 - (((x0.toUInt32 >>> ((1 : Int32).toUInt32 &&& Int32.toUInt32 31)).toInt32) &&& (1431655765 : Int32))).toUInt32 >>> ((2 : Int32).toUInt32 &&& Int32.toUInt32 31)).toInt32) &&& (858993459 : Int32))).toUInt32 >>> ((4 : Int32).toUInt32 &&& Int32.toUInt32 31)).toInt32)) &&& (252645135 : Int32)) + (((((((x0 - (((x0.toUInt32 >>> ((1 : Int32).toUInt32 &&& Int32.toUInt32 31)).toInt32) &&& (1431655765 : Int32))) &&& (858993459 : Int32)) + ((((x0 - (((x0.toUInt32 >>> ((1 : Int32).toUInt32 &&& Int32.toUInt32 31)).toInt32) &&& (1431655765 : Int32))).toUInt32 >>> ((2 : Int32).toUInt32 &&& Int32.toUInt32 31)).toInt32) &&& (858993459 : Int32))) + (((((x0 - (((x0.toUInt32 >>> ((1 : Int32).toUInt32 &&& Int32.toUInt32 31)).toInt32) &&& (1431655765 : Int32))) &&& (858993459 : Int32)) + ((((x0 - (((x0.toUInt32 >>> ((1 : Int32).toUInt32 &&& Int32.toUInt32 31)).toInt32) &&& (1431655765 : Int32))).toUInt32 >>> ((2 : Int32).toUInt32 &&& Int32.toUInt32 31)).toInt32) &&& (858993459 : Int32))).toUInt32 >>> ((4 : Int32).toUInt32 &&& Int32.toUInt32 31)).toInt32)) &&& (252645135 : Int32)).toUInt32 >>> ((8 : Int32).toUInt32 &&& Int32.toUInt32 31)).toInt32)).toUInt32 >>> ((16 : Int32).toUInt32 &&& Int32.toUInt32 31)).toInt32)) &&& (63 : Int32)) := (sk_XT_evL sk_rec t_I d 236 44 _ (fun _ => rfl)).trans rfl
set_option maxRecDepth 100000 in
theorem e_JL_numberOfTrailingZeros (d : Nat) (x0 : Int64) (h : sk_H) : c_JL_numberOfTrailingZeros d x0 h =
  if ¬ x0.toInt32 = 0 then
    Option.bind (c_JI_numberOfTrailingZeros d x0.toInt32 h) fun q1 =>
    some (q1.1, q1.2)
  else
    Option.bind (c_JI_numberOfTrailingZeros d (((x0.toUInt64 >>> ((32 : Int32).toInt64.toUInt64 &&& Int64.toUInt64 63)).toInt64).toInt32) h) fun q2 =>
    some (q2.1, (32 : Int32) + q2.2) := (sk_XT_evL sk_rec t_I d 237 18 _ (fun _ => rfl)).trans rfl
set_option maxRecDepth 100000 in
theorem e_JL_bitCount (d : Nat) (x0 : Int64) (h : sk_H) : c_JL_bitCount d x0 h =
  some (h, (((((((((x0 - (((x0.toUInt64 >>> ((1 : Int32).toInt64.toUInt64 &&& Int64.toUInt64 63)).toInt64) &&& (6148914691236517205 : Int64))) &&& (3689348814741910323 : Int64)) + ((((x0 - (((x0.toUInt64 >>> ((1 : Int32).toInt64.toUInt64 &&& Int64.toUInt64 63)).toInt64) &&& (6148914691236517205 : Int64))).toUInt64 >>> ((2 : Int32).toInt64.toUInt64 &&& Int64.toUInt64 63)).toInt64) &&& (3689348814741910323 : Int64))) + (((((x0 - (((x0.toUInt64 >>> ((1 : Int32).toInt64.toUInt64 &&& Int64.toUInt64 63)).toInt64) &&& (6148914691236517205 : Int64))) &&& (3689348814741910323 : Int64)) + ((((x0 - (((x0.toUInt64 >>> ((1 : Int32).toInt64.toUInt64 &&& Int64.toUInt64 63)).toInt64) &&& (6148914691236517205 : Int64))).toUInt64 >>> ((2 : Int32).toInt64.toUInt64 &&& Int64.toUInt64 63)).toInt64) &&& (3689348814741910323 : Int64))).toUInt64 >>> ((4 : Int32).toInt64.toUInt64 &&& Int64.toUInt64 63)).toInt64)) &&& (1085102592571150095 : Int64)) + (((((((x0 - (((x0.toUInt64 >>> ((1 : Int32).toInt64.toUInt64 &&& Int64.toUInt64 63)).toInt64) &&& (6148914691236517205 : Int64))) &&& (3689348814741910323 : Int64)) + ((((x0 - (((x0.toUInt64 >>> ((1 : Int32).toInt64.toUInt64 &&& Int64.toUInt64 63)).toInt64) &&& (6148914691236517205 : Int64))).toUInt64 >>> ((2 : Int32).toInt64.toUInt64 &&& Int64.toUInt64 63)).toInt64) &&& (3689348814741910323 : Int64))) + (((((x0 - (((x0.toUInt64 >>> ((1 : Int32).toInt64.toUInt64 &&& Int64.toUInt64 63)).toInt64) &&& (6148914691236517205 : Int64))) &&& (3689348814741910323 : Int64)) + ((((x0 - (((x0.toUInt64 >>> ((1 : Int32).toInt64.toUInt64 &&& Int64.toUInt64 63)).toInt64) &&& (6148914691236517205 : Int64))).toUInt64 >>> ((2 : Int32).toInt64.toUInt64 &&& Int64.toUInt64 63)).toInt64) &&& (3689348814741910323 : Int64))).toUInt64 >>> ((4 : Int32).toInt64.toUInt64 &&& Int64.toUInt64 63)).toInt64)) &&& (1085102592571150095 : Int64)).toUInt64 >>> ((8 : Int32).toInt64.toUInt64 &&& Int64.toUInt64 63)).toInt64)) + ((((((((x0 - (((x0.toUInt64 >>> ((1 : Int32).toInt64.toUInt64 &&& Int64.toUInt64 63)).toInt64) &&& (6148914691236517205 : Int64))) &&& (3689348814741910323 : Int64)) + ((((x0 - (((x0.toUInt64 >>> ((1 : Int32).toInt64.toUInt64 &&& Int64.toUInt64 63)).toInt64) &&& (6148914691236517205 : Int64))).toUInt64 >>> ((2 : Int32).toInt64.toUInt64 &&& Int64.toUInt64 63)).toInt64) &&& (3689348814741910323 : Int64))) + (((((x0 - (((x0.toUInt64 >>> ((1 : Int32).toInt64.toUInt64 &&& Int64.toUInt64 63)).toInt64) &&& (6148914691236517205 : Int64))) &&& (3689348814741910323 : Int64)) + ((((x0 - (((x0.toUInt64 >>> ((1 : Int32).toInt64.toUInt64 &&& Int64.toUInt64 63)).toInt64) &&& (6148914691236517205 : Int64))).toUInt64 >>> ((2 : Int32).toInt64.toUInt64 &&& Int64.toUInt64 63)).toInt64) &&& (3689348814741910323 : Int64))).toUInt64 >>> ((4 : Int32).toInt64.toUInt64 &&& Int64.toUInt64 63)).toInt64)) &&& (1085102592571150095 : Int64)) + (((((((x0 - (((x0.toUInt64 >>> ((1 : Int32).toInt64.toUInt64 &&& Int64.toUInt64 63)).toInt64) &&& (6148914691236517205 : Int64))) &&& (3689348814741910323 : Int64)) + ((((x0 - (((x0.toUInt64 >>> ((1 : Int32).toInt64.toUInt64 &&& Int64.toUInt64 63)).toInt64) &&& (6148914691236517205 : Int64))).toUInt64 >>> ((2 : Int32).toInt64.toUInt64 &&& Int64.toUInt64 63)).toInt64) &&& (3689348814741910323 : Int64))) + (((((x0 - (((x0.toUInt64 >>> ((1 : Int32).toInt64.toUInt64 &&& Int64.toUInt64 63)).toInt64) &&& (6148914691236517205 : Int64))) &&& (3689348814741910323 : Int64)) + ((((x0 - (((x0.toUInt64 >>> ((1 : Int32).toInt64.toUInt64 &&& Int64.toUInt64 63)).toInt64) &&& (6148914691236517205 : Int64))).toUInt64 >>> ((2 : Int32).toInt64.toUInt64 &&& Int64.toUInt64 63)).toInt64) &&& (3689348814741910323 : Int64))).toUInt64 >>> ((4 : Int32).toInt64.toUInt64 &&& Int64.toUInt64 63)).toInt64)) &&& (1085102592571150095 : Int64)).toUInt64 >>> ((8 : Int32).toInt64.toUInt64 &&& Int64.toUInt64 63)).toInt64)).toUInt64 >>> ((16 : Int32).toInt64.toUInt64 &&& Int64.toUInt64 63)).toInt64)) + (((((((((x0 - (((x0.toUInt64 >>> ((1 : Int32).toInt64.toUInt64 &&& Int64.toUInt64 63)).toInt64) &&& (6148914691236517205 : Int64))) &&& (3689348814741910323 : Int64)) + ((((x0 - (((x0.toUInt64 >>> ((1 : Int32).toInt64.toUInt64 &&& Int64.toUInt64 63)).toInt64) &&& (6148914691236517205 : Int64))).toUInt64 >>> ((2 : Int32).toInt64.toUInt64 &&& Int64.toUInt64 63)).toInt64) &&& (3689348814741910323 : Int64))) + (((((x0 - (((x0.toUInt64 >>> ((1 : Int32).toInt64.toUInt64 &&& Int64.toUInt64 63)).toInt64) &&& (6148914691236517205 : Int64))) &&& (3689348814741910323 : Int64)) + ((((x0 - (((x0.toUInt64 >>> ((1 : Int32).toInt64.toUInt64 &&& Int64.toUInt64 63)).toInt64) &&& (6148914691236517205 : Int64))).toUInt64 >>> ((2 : Int32).toInt64.toUInt64 &&& Int64.toUInt64 63)).toInt64) &&& (3689348814741910323 : Int64))).toUInt64 >>> ((4 : Int32).toInt64.toUInt64 &&& Int64.toUInt64 63)).toInt64)) &&& (1085102592571150095 : Int64)) + (((((((x0 - (((x0.toUInt64 >>> ((1 : Int32).toInt64.toUInt64 &&& Int64.toUInt64 63)).toInt64) &&& (6148914691236517205 : Int64))) &&& (3689348814741910323 : Int64)) + ((((x0 - (((x0.toUInt64 >>> ((1 : Int32).toInt64.toUInt64 &&& Int64.toUInt64 63)).toInt64) &&& (6148914691236517205 : Int64))).toUInt64 >>> ((2 : Int32).toInt64.toUInt64 &&& Int64.toUInt64 63)).toInt64) &&& (3689348814741910323 : Int64))) + (((((x0 - (((x0.toUInt64 >>> ((1 : Int32).toInt64.toUInt64 &&& Int64.toUInt64 63)).toInt64) &&& (6148914691236517205 : Int64))) &&& (3689348814741910323 : Int64)) + ((((x0 - (((x0.toUInt64 >>> ((1 : Int32).toInt64.toUInt64 &&& Int64.toUInt64 63)).toInt64) &&& (6148914691236517205 : Int64))).toUInt64 >>> ((2 : Int32).toInt64.toUInt64 &&& Int64.toUInt64 63)).toInt64) &&& (3689348814741910323 : Int64))).toUInt64 >>> ((4 : Int32).toInt64.toUInt64 &&& Int64.toUInt64 63)).toInt64)) &&& (1085102592571150095 : Int64)).toUInt64 >>> ((8 : Int32).toInt64.toUInt64 &&& Int64.toUInt64 63)).toInt64)) + ((((((((x0 - (((x0.toUInt64 >>> ((1 : Int32).toInt64.toUInt64 &&& Int64.toUInt64 63)).toInt64) &&& (6148914691236517205 : Int64))) &&& (3689348814741910323 : Int64)) + ((((x0 - (((x0.toUInt64 >>> ((1 : Int32).toInt64.toUInt64 &&& Int64.toUInt64 63)).toInt64) &&& (6148914691236517205 : Int64))).toUInt64 >>> ((2 : Int32).toInt64.toUInt64 &&& Int64.toUInt64 63)).toInt64) &&& (3689348814741910323 : Int64))) + (((((x0 - (((x0.toUInt64 >>> ((1 : Int32).toInt64.toUInt64 &&& Int64.toUInt64 63)).toInt64) &&& (6148914691236517205 : Int64))) &&& (3689348814741910323 : Int64)) + ((((x0 - (((x0.toUInt64 >>> ((1 : Int32).toInt64.toUInt64 &&& Int64.toUInt64 63)).toInt64) &&& (6148914691236517205 : Int64))).toUInt64 >>> ((2 : Int32).toInt64.toUInt64 &&& Int64.toUInt64 63)).toInt64) &&& (3689348814741910323 : Int64))).toUInt64 >>> ((4 : Int32).toInt64.toUInt64 &&& Int64.toUInt64 63)).toInt64)) &&& (1085102592571150095 : Int64)) + (((((((x0 - (((x0.toUInt64 >>> ((1 : Int32).toInt64.toUInt64 &&& Int64.toUInt64 63)).toInt64) &&& (6148914691236517205 : Int64))) &&& (3689348814741910323 : Int64)) + ((((x0 - (((x0.toUInt64 >>> ((1 : Int32).toInt64.toUInt64 &&& Int64.toUInt64 63)).toInt64) &&& (6148914691236517205 : Int64))).toUInt64 >>> ((2 : Int32).toInt64.toUInt64 &&& Int64.toUInt64 63)).toInt64) &&& (3689348814741910323 : Int64))) + (((((x0 - (((x0.toUInt64 >>> ((1 : Int32).toInt64.toUInt64 &&& Int64.toUInt64 63)).toInt64) &&& (6148914691236517205 : Int64))) &&& (3689348814741910323 : Int64)) + ((((x0 - (((x0.toUInt64 >>> ((1 : Int32).toInt64.toUInt64 &&& Int64.toUInt64 63)).toInt64) &&& (6148914691236517205 : Int64))).toUInt64 >>> ((2 : Int32).toInt64.toUInt64 &&& Int64.toUInt64 63)).toInt64) &&& (3689348814741910323 : Int64))).toUInt64 >>> ((4 : Int32).toInt64.toUInt64 &&& Int64.toUInt64 63)).toInt64)) &&& (1085102592571150095 : Int64)).toUInt64 >>> ((8 : Int32).toInt64.toUInt64 &&& Int64.toUInt64 63)).toInt64)).toUInt64 >>> ((16 : Int32).toInt64.toUInt64 &&& Int64.toUInt64 63)).toInt64)).toUInt64 >>> ((32 : Int32).toInt64.toUInt64 &&& Int64.toUInt64 63)).toInt64)).toInt32) &&& (127 : Int32)) := (sk_XT_evL sk_rec t_I d 238 51 _ (fun _ => rfl)).trans rfl
set_option maxRecDepth 100000 in
theorem e_JM_max (d : Nat) (x0 : Int32) (x1 : Int32) (h : sk_H) : c_JM_max d x0 x1 h =
  if x0 < x1 then
    some (h, x1)
  else
    some (h, x0) := (sk_XT_evL sk_rec t_I d 239 9 _ (fun _ => rfl)).trans rfl
set_option maxRecDepth 100000 in
theorem e_JM_min (d : Nat) (x0 : Int32) (x1 : Int32) (h : sk_H) : c_JM_min d x0 x1 h =
  if x1 < x0 then
    some (h, x1)
  else
    some (h, x0) := (sk_XT_evL sk_rec t_I d 240 9 _ (fun _ => rfl)).trans rfl
set_option maxRecDepth 100000 in
theorem e_JS_length (d : Nat) (x0 : Nat) (h : sk_H) : c_JS_length d (some x0) h =
  if hK h x0 = 51 then
  Option.bind (hR h x0 0) fun a1 => if a_any (hK h a1) = true then
  if hK h x0 = 51 then
  Option.bind (c_JS_coder d (some x0) h) fun q2 =>
  some (q2.1, (Int32.ofNat (hN h a1)) >>> (q2.2 &&& 31))
  else none
  else none
  else none := (sk_XT_evL sk_rec t_I d 241 9 _ (fun _ => rfl)).trans rfl
set_option maxRecDepth 100000 in
theorem e_JS_charAt (d : Nat) (x0 : Nat) (x1 : Int32) (h : sk_H) : c_JS_charAt d (some x0) x1 h =
  if hK h x0 = 51 then
  Option.bind (c_JS_isLatin1 d (some x0) h) fun q1 =>
  if q1.2 = 0 then
    if hK q1.1 x0 = 51 then
    Option.bind (c_JU_charAt d (hR q1.1 x0 0) x1 q1.1) fun q2 =>
    if q2.2.toUInt32.toUInt16.toUInt32.toInt32 = q2.2 then some (q2.1, q2.2) else none
    else none
  else
    if hK q1.1 x0 = 51 then
    Option.bind (c_JT_charAt d (hR q1.1 x0 0) x1 q1.1) fun q3 =>
    if q3.2.toUInt32.toUInt16.toUInt32.toInt32 = q3.2 then some (q3.1, q3.2) else none
    else none
  else none := (sk_XT_evL sk_rec t_I d 242 15 _ (fun _ => rfl)).trans rfl
set_option maxRecDepth 100000 in
theorem e_JS_coder (d : Nat) (x0 : Nat) (h : sk_H) : c_JS_coder d (some x0) h =
  if (1 : Int32) = 0 then
    some (h, (1 : Int32))
  else
    if hK h x0 = 51 then
    if (hI h x0 1).toInt8.toInt32 = (hI h x0 1) then some (h, hI h x0 1) else none
    else none := (sk_XT_evL sk_rec t_I d 243 9 _ (fun _ => rfl)).trans rfl
set_option maxRecDepth 100000 in
theorem e_JS_isLatin1 (d : Nat) (x0 : Nat) (h : sk_H) : c_JS_isLatin1 d (some x0) h =
  if (1 : Int32) = 0 then
    some (h, (0 : Int32))
  else
    if hK h x0 = 51 then
    if ¬ (hI h x0 1) = 0 then
      some (h, (0 : Int32))
    else
      some (h, (1 : Int32))
    else none := (sk_XT_evL sk_rec t_I d 244 11 _ (fun _ => rfl)).trans rfl
set_option maxRecDepth 100000 in
theorem e_JS_checkIndex (d : Nat) (x0 : Int32) (x1 : Int32) (h : sk_H) : c_JS_checkIndex d x0 x1 h =
  Option.bind (c_JP_checkIndex d x0 x1 (hR h 0 2) h) fun q1 =>
  some q1.1 := (sk_XT_evL sk_rec t_V d 245 8 _ (fun _ => rfl)).trans rfl
set_option maxRecDepth 100000 in
theorem e_JT_charAt (d : Nat) (x0 : Option Nat) (x1 : Int32) (h : sk_H) : c_JT_charAt d x0 x1 h =
  Option.bind x0 fun a1 => if a_any (hK h a1) = true then
  Option.bind (c_JS_checkIndex d x1 (Int32.ofNat (hN h a1)) h) fun q2 =>
  Option.bind x0 fun a3 => if (hK q2 a3 = 103 ∨ hK q2 a3 = 104 ∨ hK q2 a3 = 204) ∧ sk_in x1 (hN q2 a3) then
  if ((((hI q2 a3 x1.toNatClampNeg) &&& (255 : Int32)).toUInt32 % 65536).toInt32).toUInt32.toUInt16.toUInt32.toInt32 = ((((hI q2 a3 x1.toNatClampNeg) &&& (255 : Int32)).toUInt32 % 65536).toInt32) then some (q2, (((hI q2 a3 x1.toNatClampNeg) &&& (255 : Int32)).toUInt32 % 65536).toInt32) else none
  else none
  else none := (sk_XT_evL sk_rec t_I d 246 13 _ (fun _ => rfl)).trans rfl
set_option maxRecDepth 100000 in
theorem e_JU_getChar (d : Nat) (x0 : Option Nat) (x1 : Int32) (h : sk_H) : c_JU_getChar d x0 x1 h =
  if ¬ (1 : Int32) = 0 then
    k_JU_getChar_28 d x0 x1 h
  else
    if x1 < 0 then
      none
    else
      Option.bind (c_JU_length d x0 h) fun q1 =>
      if x1 < q1.2 then
        k_JU_getChar_28 d x0 x1 q1.1
      else
        none := (sk_XT_evL sk_rec t_I d 247 33 _ (fun _ => rfl)).trans rfl
set_option maxRecDepth 100000 in
theorem e_JU_getChar_28 (d : Nat) (x0 : Option Nat) (x1 : Int32) (h : sk_H) : k_JU_getChar_28 d x0 x1 h =
  Option.bind x0 fun a1 => if (hK h a1 = 103 ∨ hK h a1 = 104 ∨ hK h a1 = 204) ∧ sk_in (x1 <<< ((1 : Int32) &&& 31)) (hN h a1) then
  Option.bind x0 fun a2 => if (hK h a2 = 103 ∨ hK h a2 = 104 ∨ hK h a2 = 204) ∧ sk_in ((x1 <<< ((1 : Int32) &&& 31)) + 1) (hN h a2) then
  if ((((((hI h a1 (x1 <<< ((1 : Int32) &&& 31)).toNatClampNeg) &&& (255 : Int32)) <<< ((0 : Int32) &&& 31)) ||| (((hI h a2 ((x1 <<< ((1 : Int32) &&& 31)) + 1).toNatClampNeg) &&& (255 : Int32)) <<< ((8 : Int32) &&& 31))).toUInt32 % 65536).toInt32).toUInt32.toUInt16.toUInt32.toInt32 = ((((((hI h a1 (x1 <<< ((1 : Int32) &&& 31)).toNatClampNeg) &&& (255 : Int32)) <<< ((0 : Int32) &&& 31)) ||| (((hI h a2 ((x1 <<< ((1 : Int32) &&& 31)) + 1).toNatClampNeg) &&& (255 : Int32)) <<< ((8 : Int32) &&& 31))).toUInt32 % 65536).toInt32) then some (h, (((((hI h a1 (x1 <<< ((1 : Int32) &&& 31)).toNatClampNeg) &&& (255 : Int32)) <<< ((0 : Int32) &&& 31)) ||| (((hI h a2 ((x1 <<< ((1 : Int32) &&& 31)) + 1).toNatClampNeg) &&& (255 : Int32)) <<< ((8 : Int32) &&& 31))).toUInt32 % 65536).toInt32) else none
  else none
  else none := (sk_XT_evL sk_rec t_I d 247 33 _ (fun _ => rfl)).trans rfl
set_option maxRecDepth 100000 in
theorem e_JU_length (d : Nat) (x0 : Option Nat) (h : sk_H) : c_JU_length d x0 h =
  Option.bind x0 fun a1 => if a_any (hK h a1) = true then
  some (h, (Int32.ofNat (hN h a1)) >>> ((1 : Int32) &&& 31))
  else none := (sk_XT_evL sk_rec t_I d 248 7 _ (fun _ => rfl)).trans rfl
set_option maxRecDepth 100000 in
theorem e_JU_charAt (d : Nat) (x0 : Option Nat) (x1 : Int32) (h : sk_H) : c_JU_charAt d x0 x1 h =
  Option.bind (c_JU_checkIndex d x1 x0 h) fun q1 =>
  Option.bind (c_JU_getChar d x0 x1 q1) fun q2 =>
  if q2.2.toUInt32.toUInt16.toUInt32.toInt32 = q2.2 then some (q2.1, q2.2) else none := (sk_XT_evL sk_rec t_I d 249 9 _ (fun _ => rfl)).trans rfl
set_option maxRecDepth 100000 in
theorem e_JU_checkIndex (d : Nat) (x0 : Int32) (x1 : Option Nat) (h : sk_H) : c_JU_checkIndex d x0 x1 h =
  Option.bind (c_JU_length d x1 h) fun q1 =>
  Option.bind (c_JS_checkIndex d x0 q1.2 q1.1) fun q2 =>
  some q2 := (sk_XT_evL sk_rec t_V d 250 7 _ (fun _ => rfl)).trans rfl
set_option maxRecDepth 100000 in
theorem e_JP_checkIndex (d : Nat) (x0 : Int32) (x1 : Int32) (x2 : Option Nat) (h : sk_H) : c_JP_checkIndex d x0 x1 x2 h =
  if x0 < 0 then
    none
  else
    if x0 < x1 then
      some (h, x0)
    else
      none := (sk_XT_evL sk_rec t_I d 251 13 _ (fun _ => rfl)).trans rfl
