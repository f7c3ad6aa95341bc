set_option maxRecDepth 100000 in
theorem e_M_init (d : Nat) (x0 : Nat) (h : sk_H) : c_M_init d (some x0) h =
  let n1 := hn h
  let h2 := hnew h 104 400
  if hK h2 x0 = 13 then
  let h3 := wR h2 x0 0 (some n1)
  let n4 := hn h3
  let h5 := hnew h3 101 2400
  if hK h5 x0 = 13 then
  let h6 := wR h5 x0 3 (some n4)
  let n7 := hn h6
  let h8 := hnew h6 101 7
  if hK h8 x0 = 13 then
  let h9 := wR h8 x0 4 (some n7)
  let n10 := hn h9
  let h11 := hnew h9 101 288
  if hK h11 x0 = 13 then
  let h12 := wR h11 x0 5 (some n10)
  let n13 := hn h12
  let h14 := hnew h12 101 6
  if hK h14 x0 = 13 then
  let h15 := wR h14 x0 6 (some n13)
  let n16 := hn h15
  let h17 := hnew h15 101 24
  if hK h17 x0 = 13 then
  let h18 := wR h17 x0 7 (some n16)
  let n19 := hn h18
  let h20 := hnew h18 101 400
  if hK h20 x0 = 13 then
  let h21 := wR h20 x0 15 (some n19)
  let n22 := hn h21
  let h23 := hnew h21 102 64
  if hK h23 x0 = 13 then
  let h24 := wR h23 x0 17 (some n22)
  let n25 := hn h24
  let h26 := hnew h24 102 11
  if hK h26 x0 = 13 then
  let h27 := wR h26 x0 19 (some n25)
  let n28 := hn h27
  let h29 := hnew h27 101 184
  if hK h29 x0 = 13 then
  let h30 := wR h29 x0 20 (some n28)
  let n31 := hn h30
  let h32 := hnew h30 103 4096
  if hK h32 x0 = 13 then
  let h33 := wR h32 x0 22 (some n31)
  if hK h33 x0 = 13 then
  let h34 := wI h33 x0 23 ((-1) : Int32)
  let n35 := hn h34
  let h36 := hnew h34 101 80
  if hK h36 x0 = 13 then
  let h37 := wR h36 x0 24 (some n35)
  let n38 := hn h37
  let h39 := hnew h37 101 4096
  if hK h39 x0 = 13 then
  let h40 := wR h39 x0 26 (some n38)
  let n41 := hn h40
  let h42 := hnew h40 103 256
  if hK h42 x0 = 13 then
  let h43 := wR h42 x0 27 (some n41)
  let n44 := hn h43
  let h45 := hnew h43 101 41
  if hK h45 x0 = 13 then
  let h46 := wR h45 x0 28 (some n44)
  let n47 := hn h46
  let h48 := hnew h46 101 4096
  if hK h48 x0 = 13 then
  let h49 := wR h48 x0 29 (some n47)
  let n50 := hn h49
  let h51 := hnew h49 101 4096
  if hK h51 x0 = 13 then
  let h52 := wR h51 x0 30 (some n50)
  let n53 := hn h52
  let h54 := hnew h52 101 736
  if hK h54 x0 = 13 then
  let h55 := wR h54 x0 37 (some n53)
  let n56 := hn h55
  let h57 := hnew h55 101 4
  if hK h57 x0 = 13 then
  let h58 := wR h57 x0 38 (some n56)
  let n59 := hn h58
  let h60 := hnew h58 103 4
  if hK h60 x0 = 13 then
  let h61 := wR h60 x0 39 (some n59)
  some h61
  else none
  else none
  else none
  else none
  else none
  else none
  else none
  else none
  else none
  else none
  else none
  else none
  else none
  else none
  else none
  else none
  else none
  else none
  else none
  else none
  else none := (sk_XT_evL sk_rec t_V d 124 88 _ (fun _ => rfl)).trans rfl
set_option maxRecDepth 100000 in
theorem e_M_in (d : Nat) (x0 : Int64) (x1 : Int64) (x2 : Int64) (h : sk_H) : c_M_in d x0 x1 x2 h =
  if (lg_cmp x0 x1) < 0 then
    some (h, (0 : Int32))
  else
    if 0 < (lg_cmp x0 x2) then
      some (h, (0 : Int32))
    else
      some (h, (1 : Int32)) := (sk_XT_evL sk_rec t_I d 125 14 _ (fun _ => rfl)).trans rfl
set_option maxRecDepth 100000 in
theorem e_M_isOf (d : Nat) (x0 : Int32) (x1 : Int32) (h : sk_H) : c_M_isOf d x0 x1 h =
  if ¬ ((x0 >>> (x1 &&& 31)) &&& (1 : Int32)) = (1 : Int32) then
    some (h, (0 : Int32))
  else
    some (h, (1 : Int32)) := (sk_XT_evL sk_rec t_I d 126 13 _ (fun _ => rfl)).trans rfl
set_option maxRecDepth 100000 in
theorem e_M_bits (d : Nat) (x0 : Int32) (h : sk_H) : c_M_bits d x0 h =
  k_M_bits_4 d (0 : Int32) x0 h := (sk_XT_evL sk_rec t_I d 127 18 _ (fun _ => rfl)).trans rfl
set_option maxRecDepth 100000 in
theorem e_M_bits_4 (d : Nat) (x1 : Int32) (x2 : Int32) (h : sk_H) : k_M_bits_4 d x1 x2 h =
  if x2 = 0 then
    some (h, x1)
  else
    k_M_bits_4 d (x1 + 1) (x2 &&& (x2 - (1 : Int32))) h := (sk_XT_evL sk_rec t_I d 127 18 _ (fun _ => rfl)).trans rfl
set_option maxRecDepth 100000 in
theorem e_M_four (d : Nat) (x0 : Nat) (x1 : Int32) (h : sk_H) : c_M_four d (some x0) x1 h =
  k_M_four_3 d (some x0) x1 (24 : Int32) h := (sk_XT_evL sk_rec t_V d 128 24 _ (fun _ => rfl)).trans rfl
set_option maxRecDepth 100000 in
theorem e_M_four_3 (d : Nat) (x0 : Nat) (x1 : Int32) (x2 : Int32) (h : sk_H) : k_M_four_3 d (some x0) x1 x2 h =
  if x2 < 0 then
    some h
  else
    if hK h x0 = 13 then
    if hK h x0 = 13 then
    Option.bind (hR h x0 0) fun a1 => if (hK h a1 = 104 ∨ (hK h a1 = 103 ∧ (((x1 >>> (x2 &&& 31)).toInt8.toInt32) = 0 ∨ ((x1 >>> (x2 &&& 31)).toInt8.toInt32) = 1))) ∧ sk_in (hI h x0 1) (hN h a1) then
    let h2 := wI h a1 (hI h x0 1).toNatClampNeg (((x1 >>> (x2 &&& 31)).toInt8.toInt32).toInt8.toInt32)
    if hK h2 x0 = 13 then
    if hK h2 x0 = 13 then
    let h3 := wI h2 x0 1 ((hI h2 x0 1) + (1 : Int32))
    k_M_four_3 d (some x0) x1 (x2 + (-8)) h3
    else none
    else none
    else none
    else none
    else none := (sk_XT_evL sk_rec t_V d 128 24 _ (fun _ => rfl)).trans rfl
set_option maxRecDepth 100000 in
theorem e_M_feed (d : Nat) (x0 : Nat) (x1 : Int32) (x2 : Int32) (x3 : Int32) (x4 : Int32) (x5 : Int32) (h : sk_H) : c_M_feed d (some x0) x1 x2 x3 x4 x5 h =
  if hK h x0 = 13 then
  if ((hI h x0 1) + (20 : Int32)) ≤ (400 : Int32) then
    if hK h x0 = 13 then
    Option.bind (c_M_four d (some x0) x1 h) fun q1 =>
    if hK q1 x0 = 13 then
    Option.bind (c_M_four d (some x0) x2 q1) fun q2 =>
    if hK q2 x0 = 13 then
    Option.bind (c_M_four d (some x0) x3 q2) fun q3 =>
    if hK q3 x0 = 13 then
    Option.bind (c_M_four d (some x0) x4 q3) fun q4 =>
    if hK q4 x0 = 13 then
    Option.bind (c_M_four d (some x0) x5 q4) fun q5 =>
    if hK q5 x0 = 13 then
    some (q5, hI q5 x0 1)
    else none
    else none
    else none
    else none
    else none
    else none
  else
    some (h, ((-1) : Int32))
  else none := (sk_XT_evL sk_rec t_I d 129 28 _ (fun _ => rfl)).trans rfl
set_option maxRecDepth 100000 in
theorem e_M_end (d : Nat) (x0 : Nat) (x1 : Int32) (h : sk_H) : c_M_end d (some x0) x1 h =
  if x1 < 0 then
    some (h, ((-1) : Int32))
  else
    if hK h x0 = 13 then
    if x1 ≤ (hI h x0 1) then
      if hK h x0 = 13 then
      let h1 := wI h x0 1 x1
      some (h1, x1)
      else none
    else
      some (h, ((-1) : Int32))
    else none := (sk_XT_evL sk_rec t_I d 130 15 _ (fun _ => rfl)).trans rfl
set_option maxRecDepth 100000 in
theorem e_M_fails (d : Nat) (x0 : Nat) (x1 : Int32) (x2 : Int32) (h : sk_H) : c_M_fails d (some x0) x1 x2 h =
  if hK h x0 = 13 then
  if ¬ (hI h x0 9) = 0 then
    some (h, (0 : Int32))
  else
    if hK h x0 = 13 then
    let h1 := wI h x0 9 (((1 : Int32) + ((8 : Int32) * x2)) + x1)
    some (h1, (0 : Int32))
    else none
  else none := (sk_XT_evL sk_rec t_I d 131 16 _ (fun _ => rfl)).trans rfl
set_option maxRecDepth 100000 in
theorem e_M_see (d : Nat) (x0 : Nat) (h : sk_H) : c_M_see d (some x0) h =
  if hK h x0 = 13 then
  if hK h x0 = 13 then
  if (hI h x0 1) ≤ (hI h x0 8) then
    k_M_see_38 d (some x0) h
  else
    if hK h x0 = 13 then
    if hK h x0 = 13 then
    Option.bind (hR h x0 0) fun a1 => if (hK h a1 = 103 ∨ hK h a1 = 104 ∨ hK h a1 = 204) ∧ sk_in (hI h x0 8) (hN h a1) then
    if ¬ (hI h a1 (hI h x0 8).toNatClampNeg) = (32 : Int32) then
      k_M_see_38 d (some x0) h
    else
      if hK h x0 = 13 then
      if hK h x0 = 13 then
      let h2 := wI h x0 8 ((hI h x0 8) + (1 : Int32))
      k_M_see_0 d (some x0) h2
      else none
      else none
    else none
    else none
    else none
  else none
  else none := (sk_XT_evL sk_rec t_I d 132 36 _ (fun _ => rfl)).trans rfl
set_option maxRecDepth 100000 in
theorem e_M_see_0 (d : Nat) (x0 : Nat) (h : sk_H) : k_M_see_0 d (some x0) h =
  if hK h x0 = 13 then
  if hK h x0 = 13 then
  if (hI h x0 1) ≤ (hI h x0 8) then
    k_M_see_38 d (some x0) h
  else
    if hK h x0 = 13 then
    if hK h x0 = 13 then
    Option.bind (hR h x0 0) fun a1 => if (hK h a1 = 103 ∨ hK h a1 = 104 ∨ hK h a1 = 204) ∧ sk_in (hI h x0 8) (hN h a1) then
    if ¬ (hI h a1 (hI h x0 8).toNatClampNeg) = (32 : Int32) then
      k_M_see_38 d (some x0) h
    else
      if hK h x0 = 13 then
      if hK h x0 = 13 then
      let h2 := wI h x0 8 ((hI h x0 8) + (1 : Int32))
      k_M_see_0 d (some x0) h2
      else none
      else none
    else none
    else none
    else none
  else none
  else none := (sk_XT_evL sk_rec t_I d 132 36 _ (fun _ => rfl)).trans rfl
set_option maxRecDepth 100000 in
theorem e_M_see_38 (d : Nat) (x0 : Nat) (h : sk_H) : k_M_see_38 d (some x0) h =
  if hK h x0 = 13 then
  if hK h x0 = 13 then
  if (hI h x0 1) ≤ (hI h x0 8) then
    some (h, ((-1) : Int32))
  else
    if hK h x0 = 13 then
    if hK h x0 = 13 then
    Option.bind (hR h x0 0) fun a1 => if (hK h a1 = 103 ∨ hK h a1 = 104 ∨ hK h a1 = 204) ∧ sk_in (hI h x0 8) (hN h a1) then
    some (h, (hI h a1 (hI h x0 8).toNatClampNeg) &&& (255 : Int32))
    else none
    else none
    else none
  else none
  else none := (sk_XT_evL sk_rec t_I d 132 36 _ (fun _ => rfl)).trans rfl
set_option maxRecDepth 100000 in
theorem e_M_isDigit (d : Nat) (x0 : Nat) (x1 : Int32) (h : sk_H) : c_M_isDigit d (some x0) x1 h =
  if hK h x0 = 13 then
  if (hI h x0 1) ≤ x1 then
    some (h, (0 : Int32))
  else
    if hK h x0 = 13 then
    Option.bind (hR h x0 0) fun a1 => if (hK h a1 = 103 ∨ hK h a1 = 104 ∨ hK h a1 = 204) ∧ sk_in x1 (hN h a1) then
    if (hI h a1 x1.toNatClampNeg) < (48 : Int32) then
      some (h, (0 : Int32))
    else
      if hK h x0 = 13 then
      Option.bind (hR h x0 0) fun a2 => if (hK h a2 = 103 ∨ hK h a2 = 104 ∨ hK h a2 = 204) ∧ sk_in x1 (hN h a2) then
      if (57 : Int32) < (hI h a2 x1.toNatClampNeg) then
        some (h, (0 : Int32))
      else
        some (h, (1 : Int32))
      else none
      else none
    else none
    else none
  else none := (sk_XT_evL sk_rec t_I d 133 22 _ (fun _ => rfl)).trans rfl
set_option maxRecDepth 100000 in
theorem e_M_isLetter (d : Nat) (x0 : Nat) (x1 : Int32) (h : sk_H) : c_M_isLetter d (some x0) x1 h =
  if hK h x0 = 13 then
  if (hI h x0 1) ≤ x1 then
    some (h, (0 : Int32))
  else
    if hK h x0 = 13 then
    Option.bind (hR h x0 0) fun a1 => if (hK h a1 = 103 ∨ hK h a1 = 104 ∨ hK h a1 = 204) ∧ sk_in x1 (hN h a1) then
    if (hI h a1 x1.toNatClampNeg) < (97 : Int32) then
      some (h, (0 : Int32))
    else
      if hK h x0 = 13 then
      Option.bind (hR h x0 0) fun a2 => if (hK h a2 = 103 ∨ hK h a2 = 104 ∨ hK h a2 = 204) ∧ sk_in x1 (hN h a2) then
      if (122 : Int32) < (hI h a2 x1.toNatClampNeg) then
        some (h, (0 : Int32))
      else
        some (h, (1 : Int32))
      else none
      else none
    else none
    else none
  else none := (sk_XT_evL sk_rec t_I d 134 22 _ (fun _ => rfl)).trans rfl
set_option maxRecDepth 100000 in
theorem e_M_isWord (d : Nat) (x0 : Nat) (x1 : Int64) (h : sk_H) : c_M_isWord d (some x0) x1 h =
  if hK h x0 = 13 then
  Option.bind (c_M_see d (some x0) h) fun q1 =>
  k_M_isWord_10 d (some x0) x1 (0 : Int64) (0 : Int32) q1.1
  else none := (sk_XT_evL sk_rec t_I d 135 47 _ (fun _ => rfl)).trans rfl
set_option maxRecDepth 100000 in
theorem e_M_isWord_10 (d : Nat) (x0 : Nat) (x1 : Int64) (x3 : Int64) (x5 : Int32) (h : sk_H) : k_M_isWord_10 d (some x0) x1 x3 x5 h =
  if hK h x0 = 13 then
  if hK h x0 = 13 then
  Option.bind (c_M_isLetter d (some x0) ((hI h x0 8) + x5) h) fun q1 =>
  if q1.2 = 0 then
    if x5 ≤ 0 then
      some (q1.1, (0 : Int32))
    else
      if (9 : Int32) ≤ x5 then
        some (q1.1, (0 : Int32))
      else
        if ¬ (lg_cmp x3 x1) = 0 then
          some (q1.1, (0 : Int32))
        else
          some (q1.1, (1 : Int32))
  else
    if (8 : Int32) ≤ x5 then
      k_M_isWord_10 d (some x0) x1 x3 (x5 + 1) q1.1
    else
      if hK q1.1 x0 = 13 then
      if hK q1.1 x0 = 13 then
      Option.bind (hR q1.1 x0 0) fun a2 => if (hK q1.1 a2 = 103 ∨ hK q1.1 a2 = 104 ∨ hK q1.1 a2 = 204) ∧ sk_in ((hI q1.1 x0 8) + x5) (hN q1.1 a2) then
      k_M_isWord_10 d (some x0) x1 ((x3 <<< ((8 : Int32).toInt64 &&& 63)) ||| ((hI q1.1 a2 ((hI q1.1 x0 8) + x5).toNatClampNeg).toInt64)) (x5 + 1) q1.1
      else none
      else none
      else none
  else none
  else none := (sk_XT_evL sk_rec t_I d 135 47 _ (fun _ => rfl)).trans rfl
set_option maxRecDepth 100000 in
theorem e_M_passWord (d : Nat) (x0 : Nat) (h : sk_H) : c_M_passWord d (some x0) h =
  if hK h x0 = 13 then
  if hK h x0 = 13 then
  Option.bind (c_M_isLetter d (some x0) (hI h x0 8) h) fun q1 =>
  if q1.2 = 0 then
    some q1.1
  else
    if hK q1.1 x0 = 13 then
    if hK q1.1 x0 = 13 then
    let h2 := wI q1.1 x0 8 ((hI q1.1 x0 8) + (1 : Int32))
    k_M_passWord_0 d (some x0) h2
    else none
    else none
  else none
  else none := (sk_XT_evL sk_rec t_V d 136 15 _ (fun _ => rfl)).trans rfl
set_option maxRecDepth 100000 in
theorem e_M_passWord_0 (d : Nat) (x0 : Nat) (h : sk_H) : k_M_passWord_0 d (some x0) h =
  if hK h x0 = 13 then
  if hK h x0 = 13 then
  Option.bind (c_M_isLetter d (some x0) (hI h x0 8) h) fun q1 =>
  if q1.2 = 0 then
    some q1.1
  else
    if hK q1.1 x0 = 13 then
    if hK q1.1 x0 = 13 then
    let h2 := wI q1.1 x0 8 ((hI q1.1 x0 8) + (1 : Int32))
    k_M_passWord_0 d (some x0) h2
    else none
    else none
  else none
  else none := (sk_XT_evL sk_rec t_V d 136 15 _ (fun _ => rfl)).trans rfl
set_option maxRecDepth 100000 in
theorem e_M_takesWord (d : Nat) (x0 : Nat) (x1 : Int64) (h : sk_H) : c_M_takesWord d (some x0) x1 h =
  if hK h x0 = 13 then
  Option.bind (c_M_isWord d (some x0) x1 h) fun q1 =>
  if ¬ q1.2 = 0 then
    if hK q1.1 x0 = 13 then
    Option.bind (c_M_passWord d (some x0) q1.1) fun q2 =>
    some (q2, (1 : Int32))
    else none
  else
    some (q1.1, (0 : Int32))
  else none := (sk_XT_evL sk_rec t_I d 137 12 _ (fun _ => rfl)).trans rfl
set_option maxRecDepth 100000 in
theorem e_M_numberHere (d : Nat) (x0 : Nat) (x1 : Int32) (x2 : Int32) (h : sk_H) : c_M_numberHere d (some x0) x1 x2 h =
  if hK h x0 = 13 then
  Option.bind (c_M_see d (some x0) h) fun q1 =>
  if hK q1.1 x0 = 13 then
  if hK q1.1 x0 = 13 then
  Option.bind (c_M_isDigit d (some x0) (hI q1.1 x0 8) q1.1) fun q2 =>
  if ¬ q2.2 = 0 then
    if hK q2.1 x0 = 13 then
    k_M_numberHere_34 d (some x0) x1 x2 (hI q2.1 x0 8) (0 : Int32) q2.1
    else none
  else
    if hK q2.1 x0 = 13 then
    if hK q2.1 x0 = 13 then
    Option.bind (c_M_fails d (some x0) (0 : Int32) (hI q2.1 x0 8) q2.1) fun q3 =>
    if q3.2 = 0 ∨ q3.2 = 1 then some (q3.1, q3.2) else none
    else none
    else none
  else none
  else none
  else none := (sk_XT_evL sk_rec t_I d 138 77 _ (fun _ => rfl)).trans rfl
set_option maxRecDepth 100000 in
theorem e_M_numberHere_34 (d : Nat) (x0 : Nat) (x1 : Int32) (x2 : Int32) (x3 : Int32) (x4 : Int32) (h : sk_H) : k_M_numberHere_34 d (some x0) x1 x2 x3 x4 h =
  if hK h x0 = 13 then
  if hK h x0 = 13 then
  Option.bind (c_M_isDigit d (some x0) (hI h x0 8) h) fun q1 =>
  if q1.2 = 0 then
    if hK q1.1 x0 = 13 then
    let h2 := wI q1.1 x0 10 x4
    if hK h2 x0 = 13 then
    if (5 : Int32) < ((hI h2 x0 8) - x3) then
      if hK h2 x0 = 13 then
      Option.bind (c_M_fails d (some x0) (1 : Int32) x3 h2) fun q3 =>
      if q3.2 = 0 then
        some (q3.1, (0 : Int32))
      else
        some (q3.1, (1 : Int32))
      else none
    else
      Option.bind (c_M_in d x4.toInt64 x1.toInt64 x2.toInt64 h2) fun q4 =>
      if ¬ q4.2 = 0 then
        some (q4.1, (1 : Int32))
      else
        if hK q4.1 x0 = 13 then
        Option.bind (c_M_fails d (some x0) (1 : Int32) x3 q4.1) fun q5 =>
        if q5.2 = 0 then
          some (q5.1, (0 : Int32))
        else
          some (q5.1, (1 : Int32))
        else none
    else none
    else none
  else
    if hK q1.1 x0 = 13 then
    if (5 : Int32) ≤ ((hI q1.1 x0 8) - x3) then
      if hK q1.1 x0 = 13 then
      if hK q1.1 x0 = 13 then
      let h6 := wI q1.1 x0 8 ((hI q1.1 x0 8) + (1 : Int32))
      k_M_numberHere_34 d (some x0) x1 x2 x3 x4 h6
      else none
      else none
    else
      if hK q1.1 x0 = 13 then
      if hK q1.1 x0 = 13 then
      Option.bind (hR q1.1 x0 0) fun a7 => if (hK q1.1 a7 = 103 ∨ hK q1.1 a7 = 104 ∨ hK q1.1 a7 = 204) ∧ sk_in (hI q1.1 x0 8) (hN q1.1 a7) then
      if hK q1.1 x0 = 13 then
      if hK q1.1 x0 = 13 then
      let h8 := wI q1.1 x0 8 ((hI q1.1 x0 8) + (1 : Int32))
      k_M_numberHere_34 d (some x0) x1 x2 x3 ((((10 : Int32) * x4) + (hI q1.1 a7 (hI q1.1 x0 8).toNatClampNeg)) - (48 : Int32)) h8
      else none
      else none
      else none
      else none
      else none
    else none
  else none
  else none := (sk_XT_evL sk_rec t_I d 138 77 _ (fun _ => rfl)).trans rfl
set_option maxRecDepth 100000 in
theorem e_M_wordHere (d : Nat) (x0 : Nat) (h : sk_H) : c_M_wordHere d (some x0) h =
  if hK h x0 = 13 then
  Option.bind (c_M_isWord d (some x0) (482854658917 : Int64) h) fun q1 =>
  if q1.2 = 0 then
    if hK q1.1 x0 = 13 then
    Option.bind (c_M_isWord d (some x0) (1835101817 : Int64) q1.1) fun q2 =>
    if q2.2 = 0 then
      if hK q2.1 x0 = 13 then
      Option.bind (c_M_isWord d (some x0) (7499639 : Int64) q2.1) fun q3 =>
      if q3.2 = 0 then
        if hK q3.1 x0 = 13 then
        Option.bind (c_M_isWord d (some x0) (8319381538419076711 : Int64) q3.1) fun q4 =>
        if q4.2 = 0 then
          if hK q4.1 x0 = 13 then
          Option.bind (c_M_isWord d (some x0) (1818584692 : Int64) q4.1) fun q5 =>
          if q5.2 = 0 then
            if hK q5.1 x0 = 13 then
            Option.bind (c_M_isWord d (some x0) (1920298611 : Int64) q5.1) fun q6 =>
            if q6.2 = 0 then
              if hK q6.1 x0 = 13 then
              Option.bind (c_M_isWord d (some x0) (30521817456538484 : Int64) q6.1) fun q7 =>
              if q7.2 = 0 then
                if hK q7.1 x0 = 13 then
                Option.bind (c_M_isWord d (some x0) (418431069797 : Int64) q7.1) fun q8 =>
                if q8.2 = 0 then
                  if hK q8.1 x0 = 13 then
                  Option.bind (c_M_isWord d (some x0) (7827310 : Int64) q8.1) fun q9 =>
                  if q9.2 = 0 then
                    if hK q9.1 x0 = 13 then
                    Option.bind (c_M_isWord d (some x0) (1953854062 : Int64) q9.1) fun q10 =>
                    if q10.2 = 0 then
                      if hK q10.1 x0 = 13 then
                      Option.bind (c_M_isWord d (some x0) (32497657166128499 : Int64) q10.1) fun q11 =>
                      if q11.2 = 0 then
                        some (q11.1, ((-1) : Int32))
                      else
                        some (q11.1, (10 : Int32))
                      else none
                    else
                      some (q10.1, (9 : Int32))
                    else none
                  else
                    some (q9.1, (8 : Int32))
                  else none
                else
                  some (q8.1, (7 : Int32))
                else none
              else
                some (q7.1, (6 : Int32))
              else none
            else
              some (q6.1, (5 : Int32))
            else none
          else
            some (q5.1, (4 : Int32))
          else none
        else
          some (q4.1, (3 : Int32))
        else none
      else
        some (q3.1, (2 : Int32))
      else none
    else
      some (q2.1, (1 : Int32))
    else none
  else
    some (q1.1, (0 : Int32))
  else none := (sk_XT_evL sk_rec t_I d 139 70 _ (fun _ => rfl)).trans rfl
set_option maxRecDepth 100000 in
theorem e_M_puts (d : Nat) (x0 : Nat) (x1 : Int32) (x2 : Int32) (h : sk_H) : c_M_puts d (some x0) x1 x2 h =
  if hK h x0 = 13 then
  if hK h x0 = 13 then
  if hK h x0 = 13 then
  if hK h x0 = 13 then
  Option.bind (hR h x0 4) fun a1 => if (hK h a1 = 101 ∨ hK h a1 = 201) ∧ sk_in (hI h x0 11) (hN h a1) then
  Option.bind (hR h x0 3) fun a2 => if hK h a2 = 101 ∧ sk_in (((400 : Int32) * (hI h x0 11)) + (hI h a1 (hI h x0 11).toNatClampNeg)) (hN h a2) then
  let h3 := wI h a2 (((400 : Int32) * (hI h x0 11)) + (hI h a1 (hI h x0 11).toNatClampNeg)).toNatClampNeg (x1 + ((16 : Int32) * x2))
  if hK h3 x0 = 13 then
  if hK h3 x0 = 13 then
  Option.bind (hR h3 x0 4) fun a4 => if (hK h3 a4 = 101 ∨ hK h3 a4 = 201) ∧ sk_in (hI h3 x0 11) (hN h3 a4) then
  Option.bind (hR h3 x0 4) fun a5 => if hK h3 a5 = 101 ∧ sk_in (hI h3 x0 11) (hN h3 a5) then
  let h6 := wI h3 a5 (hI h3 x0 11).toNatClampNeg ((hI h3 a4 (hI h3 x0 11).toNatClampNeg) + (1 : Int32))
  some h6
  else none
  else none
  else none
  else none
  else none
  else none
  else none
  else none
  else none
  else none := (sk_XT_evL sk_rec t_V d 140 30 _ (fun _ => rfl)).trans rfl
set_option maxRecDepth 100000 in
theorem e_M_makes (d : Nat) (x0 : Nat) (x1 : Int32) (h : sk_H) : c_M_makes d (some x0) x1 h =
  if hK h x0 = 13 then
  if ¬ (hI h x0 12) = (60 : Int32) then
    if hK h x0 = 13 then
    if hK h x0 = 13 then
    let h1 := wI h x0 12 ((hI h x0 12) + (1 : Int32))
    some (h1, (1 : Int32))
    else none
    else none
  else
    if hK h x0 = 13 then
    Option.bind (c_M_fails d (some x0) (3 : Int32) x1 h) fun q2 =>
    if q2.2 = 0 ∨ q2.2 = 1 then some (q2.1, q2.2) else none
    else none
  else none := (sk_XT_evL sk_rec t_I d 141 19 _ (fun _ => rfl)).trans rfl
set_option maxRecDepth 100000 in
theorem e_M_opens (d : Nat) (x0 : Nat) (x1 : Int32) (h : sk_H) : c_M_opens d (some x0) x1 h =
  if hK h x0 = 13 then
  if ¬ (hI h x0 13) = (10 : Int32) then
    if hK h x0 = 13 then
    if hK h x0 = 13 then
    let h1 := wI h x0 13 ((hI h x0 13) + (1 : Int32))
    if hK h1 x0 = 13 then
    if hK h1 x0 = 13 then
    Option.bind (hR h1 x0 15) fun a2 => if hK h1 a2 = 101 ∧ sk_in (hI h1 x0 16) (hN h1 a2) then
    let h3 := wI h1 a2 (hI h1 x0 16).toNatClampNeg x1
    if hK h3 x0 = 13 then
    if hK h3 x0 = 13 then
    let h4 := wI h3 x0 16 ((hI h3 x0 16) + (1 : Int32))
    some (h4, (1 : Int32))
    else none
    else none
    else none
    else none
    else none
    else none
    else none
  else
    if hK h x0 = 13 then
    if hK h x0 = 13 then
    Option.bind (c_M_fails d (some x0) (2 : Int32) (hI h x0 8) h) fun q5 =>
    if q5.2 = 0 ∨ q5.2 = 1 then some (q5.1, q5.2) else none
    else none
    else none
  else none := (sk_XT_evL sk_rec t_I d 142 32 _ (fun _ => rfl)).trans rfl
set_option maxRecDepth 100000 in
theorem e_M_strength (d : Nat) (x0 : Int32) (h : sk_H) : c_M_strength d x0 h =
  if ¬ x0 = (13 : Int32) then
    if ¬ x0 = (12 : Int32) then
      if ¬ x0 = (11 : Int32) then
        some (h, (0 : Int32))
      else
        some (h, (3 : Int32))
    else
      some (h, (2 : Int32))
  else
    some (h, (1 : Int32)) := (sk_XT_evL sk_rec t_I d 143 19 _ (fun _ => rfl)).trans rfl
set_option maxRecDepth 100000 in
theorem e_M_settles (d : Nat) (x0 : Nat) (x1 : Int32) (h : sk_H) : c_M_settles d (some x0) x1 h =
  if hK h x0 = 13 then
  if (hI h x0 16) ≤ 0 then
    some h
  else
    if hK h x0 = 13 then
    if hK h x0 = 13 then
    Option.bind (hR h x0 15) fun a1 => if (hK h a1 = 101 ∨ hK h a1 = 201) ∧ sk_in ((hI h x0 16) - (1 : Int32)) (hN h a1) then
    Option.bind (c_M_strength d (hI h a1 ((hI h x0 16) - (1 : Int32)).toNatClampNeg) h) fun q2 =>
    if q2.2 < x1 then
      some q2.1
    else
      if hK q2.1 x0 = 13 then
      if hK q2.1 x0 = 13 then
      let h3 := wI q2.1 x0 16 ((hI q2.1 x0 16) - (1 : Int32))
      if hK h3 x0 = 13 then
      if hK h3 x0 = 13 then
      Option.bind (hR h3 x0 15) fun a4 => if (hK h3 a4 = 101 ∨ hK h3 a4 = 201) ∧ sk_in (hI h3 x0 16) (hN h3 a4) then
      if hK h3 x0 = 13 then
      Option.bind (c_M_puts d (some x0) (hI h3 a4 (hI h3 x0 16).toNatClampNeg) (0 : Int32) h3) fun q5 =>
      if hK q5 x0 = 13 then
      if hK q5 x0 = 13 then
      Option.bind (hR q5 x0 15) fun a6 => if (hK q5 a6 = 101 ∨ hK q5 a6 = 201) ∧ sk_in (hI q5 x0 16) (hN q5 a6) then
      if ¬ (hI q5 a6 (hI q5 x0 16).toNatClampNeg) = (11 : Int32) then
        k_M_settles_0 d (some x0) x1 q5
      else
        if hK q5 x0 = 13 then
        if hK q5 x0 = 13 then
        let h7 := wI q5 x0 13 ((hI q5 x0 13) - (1 : Int32))
        k_M_settles_0 d (some x0) x1 h7
        else none
        else none
      else none
      else none
      else none
      else none
      else none
      else none
      else none
      else none
      else none
    else none
    else none
    else none
  else none := (sk_XT_evL sk_rec t_V d 144 44 _ (fun _ => rfl)).trans rfl
set_option maxRecDepth 100000 in
theorem e_M_settles_0 (d : Nat) (x0 : Nat) (x1 : Int32) (h : sk_H) : k_M_settles_0 d (some x0) x1 h =
  if hK h x0 = 13 then
  if (hI h x0 16) ≤ 0 then
    some h
  else
    if hK h x0 = 13 then
    if hK h x0 = 13 then
    Option.bind (hR h x0 15) fun a1 => if (hK h a1 = 101 ∨ hK h a1 = 201) ∧ sk_in ((hI h x0 16) - (1 : Int32)) (hN h a1) then
    Option.bind (c_M_strength d (hI h a1 ((hI h x0 16) - (1 : Int32)).toNatClampNeg) h) fun q2 =>
    if q2.2 < x1 then
      some q2.1
    else
      if hK q2.1 x0 = 13 then
      if hK q2.1 x0 = 13 then
      let h3 := wI q2.1 x0 16 ((hI q2.1 x0 16) - (1 : Int32))
      if hK h3 x0 = 13 then
      if hK h3 x0 = 13 then
      Option.bind (hR h3 x0 15) fun a4 => if (hK h3 a4 = 101 ∨ hK h3 a4 = 201) ∧ sk_in (hI h3 x0 16) (hN h3 a4) then
      if hK h3 x0 = 13 then
      Option.bind (c_M_puts d (some x0) (hI h3 a4 (hI h3 x0 16).toNatClampNeg) (0 : Int32) h3) fun q5 =>
      if hK q5 x0 = 13 then
      if hK q5 x0 = 13 then
      Option.bind (hR q5 x0 15) fun a6 => if (hK q5 a6 = 101 ∨ hK q5 a6 = 201) ∧ sk_in (hI q5 x0 16) (hN q5 a6) then
      if ¬ (hI q5 a6 (hI q5 x0 16).toNatClampNeg) = (11 : Int32) then
        k_M_settles_0 d (some x0) x1 q5
      else
        if hK q5 x0 = 13 then
        if hK q5 x0 = 13 then
        let h7 := wI q5 x0 13 ((hI q5 x0 13) - (1 : Int32))
        k_M_settles_0 d (some x0) x1 h7
        else none
        else none
      else none
      else none
      else none
      else none
      else none
      else none
      else none
      else none
      else none
    else none
    else none
    else none
  else none := (sk_XT_evL sk_rec t_V d 144 44 _ (fun _ => rfl)).trans rfl
set_option maxRecDepth 100000 in
theorem e_M_value (d : Nat) (x0 : Nat) (h : sk_H) : c_M_value d (some x0) h =
  if hK h x0 = 13 then
  Option.bind (c_M_see d (some x0) h) fun q1 =>
  if hK q1.1 x0 = 13 then
  if hK q1.1 x0 = 13 then
  if hK q1.1 x0 = 13 then
  Option.bind (c_M_isDigit d (some x0) (hI q1.1 x0 8) q1.1) fun q2 =>
  if q2.2 = 0 then
    if hK q2.1 x0 = 13 then
    Option.bind (c_M_wordHere d (some x0) q2.1) fun q3 =>
    if 0 ≤ q3.2 then
      if hK q3.1 x0 = 13 then
      Option.bind (c_M_makes d (some x0) (hI q1.1 x0 8) q3.1) fun q4 =>
      if ¬ q4.2 = 0 then
        if hK q4.1 x0 = 13 then
        Option.bind (c_M_passWord d (some x0) q4.1) fun q5 =>
        if hK q5 x0 = 13 then
        Option.bind (c_M_puts d (some x0) (1 : Int32) q3.2 q5) fun q6 =>
        some (q6, (1 : Int32))
        else none
        else none
      else
        some (q4.1, (0 : Int32))
      else none
    else
      if hK q3.1 x0 = 13 then
      Option.bind (c_M_fails d (some x0) (0 : Int32) (hI q1.1 x0 8) q3.1) fun q7 =>
      if q7.2 = 0 ∨ q7.2 = 1 then some (q7.1, q7.2) else none
      else none
    else none
  else
    if hK q2.1 x0 = 13 then
    Option.bind (c_M_numberHere d (some x0) (0 : Int32) (99999 : Int32) q2.1) fun q8 =>
    if q8.2 = 0 then
      some (q8.1, (0 : Int32))
    else
      if hK q8.1 x0 = 13 then
      Option.bind (c_M_makes d (some x0) (hI q1.1 x0 8) q8.1) fun q9 =>
      if ¬ q9.2 = 0 then
        if hK q9.1 x0 = 13 then
        if hK q9.1 x0 = 13 then
        Option.bind (c_M_puts d (some x0) (0 : Int32) (hI q9.1 x0 10) q9.1) fun q10 =>
        some (q10, (1 : Int32))
        else none
        else none
      else
        some (q9.1, (0 : Int32))
      else none
    else none
  else none
  else none
  else none
  else none := (sk_XT_evL sk_rec t_I d 145 55 _ (fun _ => rfl)).trans rfl
set_option maxRecDepth 100000 in
theorem e_M_term (d : Nat) (x0 : Nat) (h : sk_H) : c_M_term d (some x0) h =
  if hK h x0 = 13 then
  Option.bind (c_M_value d (some x0) h) fun q1 =>
  if ¬ q1.2 = 0 then
    k_M_term_9 d (some x0) q1.1
  else
    some (q1.1, (0 : Int32))
  else none := (sk_XT_evL sk_rec t_I d 146 57 _ (fun _ => rfl)).trans rfl
set_option maxRecDepth 100000 in
theorem e_M_term_9 (d : Nat) (x0 : Nat) (h : sk_H) : k_M_term_9 d (some x0) h =
  if hK h x0 = 13 then
  Option.bind (c_M_see d (some x0) h) fun q1 =>
  if q1.2 = (42 : Int32) then
    k_M_term_36 d (some x0) q1.1
  else
    if hK q1.1 x0 = 13 then
    Option.bind (c_M_see d (some x0) q1.1) fun q2 =>
    if q2.2 = (47 : Int32) then
      k_M_term_36 d (some x0) q2.1
    else
      if hK q2.1 x0 = 13 then
      Option.bind (c_M_see d (some x0) q2.1) fun q3 =>
      if ¬ q3.2 = (37 : Int32) then
        some (q3.1, (1 : Int32))
      else
        k_M_term_36 d (some x0) q3.1
      else none
    else none
  else none := (sk_XT_evL sk_rec t_I d 146 57 _ (fun _ => rfl)).trans rfl
set_option maxRecDepth 100000 in
theorem e_M_term_36 (d : Nat) (x0 : Nat) (h : sk_H) : k_M_term_36 d (some x0) h =
  if hK h x0 = 13 then
  if hK h x0 = 13 then
  Option.bind (hR h x0 0) fun a1 => if (hK h a1 = 103 ∨ hK h a1 = 104 ∨ hK h a1 = 204) ∧ sk_in (hI h x0 8) (hN h a1) then
  if ¬ (hI h a1 (hI h x0 8).toNatClampNeg) = (42 : Int32) then
    if hK h x0 = 13 then
    if hK h x0 = 13 then
    Option.bind (hR h x0 0) fun a2 => if (hK h a2 = 103 ∨ hK h a2 = 104 ∨ hK h a2 = 204) ∧ sk_in (hI h x0 8) (hN h a2) then
    if ¬ (hI h a2 (hI h x0 8).toNatClampNeg) = (47 : Int32) then
      k_M_term_74 d (some x0) (14 : Int32) h
    else
      k_M_term_74 d (some x0) (5 : Int32) h
    else none
    else none
    else none
  else
    k_M_term_74 d (some x0) (4 : Int32) h
  else none
  else none
  else none := (sk_XT_evL sk_rec t_I d 146 57 _ (fun _ => rfl)).trans rfl
set_option maxRecDepth 100000 in
theorem e_M_term_74 (d : Nat) (x0 : Nat) (s0 : Int32) (h : sk_H) : k_M_term_74 d (some x0) s0 h =
  if hK h x0 = 13 then
  if hK h x0 = 13 then
  let h1 := wI h x0 8 ((hI h x0 8) + (1 : Int32))
  if hK h1 x0 = 13 then
  Option.bind (c_M_value d (some x0) h1) fun q2 =>
  if ¬ q2.2 = 0 then
    if hK q2.1 x0 = 13 then
    Option.bind (c_M_puts d (some x0) s0 (0 : Int32) q2.1) fun q3 =>
    k_M_term_9 d (some x0) q3
    else none
  else
    some (q2.1, (0 : Int32))
  else none
  else none
  else none := (sk_XT_evL sk_rec t_I d 146 57 _ (fun _ => rfl)).trans rfl
set_option maxRecDepth 100000 in
theorem e_M_sum (d : Nat) (x0 : Nat) (h : sk_H) : c_M_sum d (some x0) h =
  if hK h x0 = 13 then
  Option.bind (c_M_term d (some x0) h) fun q1 =>
  if ¬ q1.2 = 0 then
    k_M_sum_9 d (some x0) q1.1
  else
    some (q1.1, (0 : Int32))
  else none := (sk_XT_evL sk_rec t_I d 147 44 _ (fun _ => rfl)).trans rfl
set_option maxRecDepth 100000 in
theorem e_M_sum_9 (d : Nat) (x0 : Nat) (h : sk_H) : k_M_sum_9 d (some x0) h =
  if hK h x0 = 13 then
  Option.bind (c_M_see d (some x0) h) fun q1 =>
  if q1.2 = (43 : Int32) then
    if hK q1.1 x0 = 13 then
    if hK q1.1 x0 = 13 then
    Option.bind (hR q1.1 x0 0) fun a2 => if (hK q1.1 a2 = 103 ∨ hK q1.1 a2 = 104 ∨ hK q1.1 a2 = 204) ∧ sk_in (hI q1.1 x0 8) (hN q1.1 a2) then
    if ¬ (hI q1.1 a2 (hI q1.1 x0 8).toNatClampNeg) = (43 : Int32) then
      k_M_sum_46 d (some x0) (3 : Int32) q1.1
    else
      k_M_sum_46 d (some x0) (2 : Int32) q1.1
    else none
    else none
    else none
  else
    if hK q1.1 x0 = 13 then
    Option.bind (c_M_see d (some x0) q1.1) fun q3 =>
    if ¬ q3.2 = (45 : Int32) then
      some (q3.1, (1 : Int32))
    else
      if hK q3.1 x0 = 13 then
      if hK q3.1 x0 = 13 then
      Option.bind (hR q3.1 x0 0) fun a4 => if (hK q3.1 a4 = 103 ∨ hK q3.1 a4 = 104 ∨ hK q3.1 a4 = 204) ∧ sk_in (hI q3.1 x0 8) (hN q3.1 a4) then
      if ¬ (hI q3.1 a4 (hI q3.1 x0 8).toNatClampNeg) = (43 : Int32) then
        k_M_sum_46 d (some x0) (3 : Int32) q3.1
      else
        k_M_sum_46 d (some x0) (2 : Int32) q3.1
      else none
      else none
      else none
    else none
  else none := (sk_XT_evL sk_rec t_I d 147 44 _ (fun _ => rfl)).trans rfl
set_option maxRecDepth 100000 in
theorem e_M_sum_46 (d : Nat) (x0 : Nat) (s0 : Int32) (h : sk_H) : k_M_sum_46 d (some x0) s0 h =
  if hK h x0 = 13 then
  if hK h x0 = 13 then
  let h1 := wI h x0 8 ((hI h x0 8) + (1 : Int32))
  if hK h1 x0 = 13 then
  Option.bind (c_M_term d (some x0) h1) fun q2 =>
  if ¬ q2.2 = 0 then
    if hK q2.1 x0 = 13 then
    Option.bind (c_M_puts d (some x0) s0 (0 : Int32) q2.1) fun q3 =>
    k_M_sum_9 d (some x0) q3
    else none
  else
    some (q2.1, (0 : Int32))
  else none
  else none
  else none := (sk_XT_evL sk_rec t_I d 147 44 _ (fun _ => rfl)).trans rfl
set_option maxRecDepth 100000 in
theorem e_M_compare (d : Nat) (x0 : Nat) (h : sk_H) : c_M_compare d (some x0) h =
  if hK h x0 = 13 then
  Option.bind (c_M_sum d (some x0) h) fun q1 =>
  if ¬ q1.2 = 0 then
    if hK q1.1 x0 = 13 then
    Option.bind (c_M_see d (some x0) q1.1) fun q2 =>
    if hK q2.1 x0 = 13 then
    if q2.2 = (60 : Int32) then
      k_M_compare_44 d (some x0) q2.2 (hI q2.1 x0 8) q2.1
    else
      if q2.2 = (61 : Int32) then
        k_M_compare_44 d (some x0) q2.2 (hI q2.1 x0 8) q2.1
      else
        if q2.2 = (62 : Int32) then
          k_M_compare_44 d (some x0) q2.2 (hI q2.1 x0 8) q2.1
        else
          if hK q2.1 x0 = 13 then
          Option.bind (c_M_fails d (some x0) (0 : Int32) (hI q2.1 x0 8) q2.1) fun q3 =>
          if q3.2 = 0 ∨ q3.2 = 1 then some (q3.1, q3.2) else none
          else none
    else none
    else none
  else
    some (q1.1, (0 : Int32))
  else none := (sk_XT_evL sk_rec t_I d 148 99 _ (fun _ => rfl)).trans rfl
set_option maxRecDepth 100000 in
theorem e_M_compare_44 (d : Nat) (x0 : Nat) (x1 : Int32) (x2 : Int32) (h : sk_H) : k_M_compare_44 d (some x0) x1 x2 h =
  if hK h x0 = 13 then
  if hK h x0 = 13 then
  let h1 := wI h x0 8 ((hI h x0 8) + (1 : Int32))
  if x1 = (61 : Int32) then
    k_M_compare_89 d (some x0) x1 x2 h1
  else
    if hK h1 x0 = 13 then
    if hK h1 x0 = 13 then
    if (hI h1 x0 1) ≤ (hI h1 x0 8) then
      k_M_compare_89 d (some x0) x1 x2 h1
    else
      if hK h1 x0 = 13 then
      if hK h1 x0 = 13 then
      Option.bind (hR h1 x0 0) fun a2 => if (hK h1 a2 = 103 ∨ hK h1 a2 = 104 ∨ hK h1 a2 = 204) ∧ sk_in (hI h1 x0 8) (hN h1 a2) then
      if ¬ (hI h1 a2 (hI h1 x0 8).toNatClampNeg) = (61 : Int32) then
        k_M_compare_89 d (some x0) x1 x2 h1
      else
        if (1 : Int32) = 0 then
          k_M_compare_105 d (some x0) x1 x2 (1 : Int32) h1
        else
          if hK h1 x0 = 13 then
          if hK h1 x0 = 13 then
          let h3 := wI h1 x0 8 ((hI h1 x0 8) + (1 : Int32))
          k_M_compare_105 d (some x0) x1 x2 (1 : Int32) h3
          else none
          else none
      else none
      else none
      else none
    else none
    else none
  else none
  else none := (sk_XT_evL sk_rec t_I d 148 99 _ (fun _ => rfl)).trans rfl
set_option maxRecDepth 100000 in
theorem e_M_compare_89 (d : Nat) (x0 : Nat) (x1 : Int32) (x2 : Int32) (h : sk_H) : k_M_compare_89 d (some x0) x1 x2 h =
  if (0 : Int32) = 0 then
    k_M_compare_105 d (some x0) x1 x2 (0 : Int32) h
  else
    if hK h x0 = 13 then
    if hK h x0 = 13 then
    let h1 := wI h x0 8 ((hI h x0 8) + (1 : Int32))
    k_M_compare_105 d (some x0) x1 x2 (0 : Int32) h1
    else none
    else none := (sk_XT_evL sk_rec t_I d 148 99 _ (fun _ => rfl)).trans rfl
set_option maxRecDepth 100000 in
theorem e_M_compare_105 (d : Nat) (x0 : Nat) (x1 : Int32) (x2 : Int32) (x3 : Int32) (h : sk_H) : k_M_compare_105 d (some x0) x1 x2 x3 h =
  if hK h x0 = 13 then
  Option.bind (c_M_makes d (some x0) x2 h) fun q1 =>
  if ¬ q1.2 = 0 then
    if ¬ x1 = (60 : Int32) then
      if ¬ x1 = (61 : Int32) then
        if x3 = 0 then
          k_M_compare_152 d (some x0) (4 : Int32) q1.1
        else
          k_M_compare_152 d (some x0) (3 : Int32) q1.1
      else
        k_M_compare_152 d (some x0) (2 : Int32) q1.1
    else
      if x3 = 0 then
        k_M_compare_152 d (some x0) (0 : Int32) q1.1
      else
        k_M_compare_152 d (some x0) (1 : Int32) q1.1
  else
    some (q1.1, (0 : Int32))
  else none := (sk_XT_evL sk_rec t_I d 148 99 _ (fun _ => rfl)).trans rfl
set_option maxRecDepth 100000 in
theorem e_M_compare_152 (d : Nat) (x0 : Nat) (s0 : Int32) (h : sk_H) : k_M_compare_152 d (some x0) s0 h =
  if hK h x0 = 13 then
  Option.bind (c_M_sum d (some x0) h) fun q1 =>
  if ¬ q1.2 = 0 then
    if hK q1.1 x0 = 13 then
    Option.bind (c_M_puts d (some x0) ((6 : Int32) + s0) (0 : Int32) q1.1) fun q2 =>
    some (q2, (1 : Int32))
    else none
  else
    some (q1.1, (0 : Int32))
  else none := (sk_XT_evL sk_rec t_I d 148 99 _ (fun _ => rfl)).trans rfl
set_option maxRecDepth 100000 in
theorem e_M_fact (d : Nat) (x0 : Nat) (h : sk_H) : c_M_fact d (some x0) h =
  k_M_fact_2 d (some x0) (1 : Int32) h := (sk_XT_evL sk_rec t_I d 149 47 _ (fun _ => rfl)).trans rfl
set_option maxRecDepth 100000 in
theorem e_M_fact_2 (d : Nat) (x0 : Nat) (x1 : Int32) (h : sk_H) : k_M_fact_2 d (some x0) x1 h =
  if x1 = 0 then
    if hK h x0 = 13 then
    Option.bind (c_M_compare d (some x0) h) fun q1 =>
    if q1.2 = 0 ∨ q1.2 = 1 then some (q1.1, q1.2) else none
    else none
  else
    if hK h x0 = 13 then
    Option.bind (c_M_see d (some x0) h) fun q2 =>
    if hK q2.1 x0 = 13 then
    Option.bind (c_M_isWord d (some x0) (7237492 : Int64) q2.1) fun q3 =>
    if q3.2 = 0 then
      if ¬ q2.2 = (91 : Int32) then
        k_M_fact_2 d (some x0) (0 : Int32) q3.1
      else
        if hK q3.1 x0 = 13 then
        Option.bind (c_M_opens d (some x0) (91 : Int32) q3.1) fun q4 =>
        if ¬ q4.2 = 0 then
          if hK q4.1 x0 = 13 then
          if hK q4.1 x0 = 13 then
          let h5 := wI q4.1 x0 8 ((hI q4.1 x0 8) + (1 : Int32))
          k_M_fact_2 d (some x0) (1 : Int32) h5
          else none
          else none
        else
          some (q4.1, (0 : Int32))
        else none
    else
      if hK q3.1 x0 = 13 then
      Option.bind (c_M_opens d (some x0) (11 : Int32) q3.1) fun q6 =>
      if ¬ q6.2 = 0 then
        if hK q6.1 x0 = 13 then
        Option.bind (c_M_passWord d (some x0) q6.1) fun q7 =>
        k_M_fact_2 d (some x0) (1 : Int32) q7
        else none
      else
        some (q6.1, (0 : Int32))
      else none
    else none
    else none := (sk_XT_evL sk_rec t_I d 149 47 _ (fun _ => rfl)).trans rfl
set_option maxRecDepth 100000 in
theorem e_M_isInside (d : Nat) (x0 : Nat) (h : sk_H) : c_M_isInside d (some x0) h =
  k_M_isInside_2 d (some x0) (0 : Int32) h := (sk_XT_evL sk_rec t_I d 150 20 _ (fun _ => rfl)).trans rfl
set_option maxRecDepth 100000 in
theorem e_M_isInside_2 (d : Nat) (x0 : Nat) (x1 : Int32) (h : sk_H) : k_M_isInside_2 d (some x0) x1 h =
  if hK h x0 = 13 then
  if (hI h x0 16) ≤ x1 then
    some (h, (0 : Int32))
  else
    if hK h x0 = 13 then
    Option.bind (hR h x0 15) fun a1 => if (hK h a1 = 101 ∨ hK h a1 = 201) ∧ sk_in x1 (hN h a1) then
    if ¬ (hI h a1 x1.toNatClampNeg) = (91 : Int32) then
      k_M_isInside_2 d (some x0) (x1 + 1) h
    else
      some (h, (1 : Int32))
    else none
    else none
  else none := (sk_XT_evL sk_rec t_I d 150 20 _ (fun _ => rfl)).trans rfl
set_option maxRecDepth 100000 in
theorem e_M_closes (d : Nat) (x0 : Nat) (h : sk_H) : c_M_closes d (some x0) h =
  if hK h x0 = 13 then
  Option.bind (c_M_settles d (some x0) (3 : Int32) h) fun q1 =>
  k_M_closes_5 d (some x0) q1
  else none := (sk_XT_evL sk_rec t_V d 151 38 _ (fun _ => rfl)).trans rfl
set_option maxRecDepth 100000 in
theorem e_M_closes_5 (d : Nat) (x0 : Nat) (h : sk_H) : k_M_closes_5 d (some x0) h =
  if hK h x0 = 13 then
  Option.bind (c_M_see d (some x0) h) fun q1 =>
  if ¬ q1.2 = (93 : Int32) then
    some q1.1
  else
    if hK q1.1 x0 = 13 then
    Option.bind (c_M_isInside d (some x0) q1.1) fun q2 =>
    if q2.2 = 0 then
      some q2.1
    else
      if hK q2.1 x0 = 13 then
      Option.bind (c_M_settles d (some x0) (1 : Int32) q2.1) fun q3 =>
      if hK q3 x0 = 13 then
      if hK q3 x0 = 13 then
      let h4 := wI q3 x0 16 ((hI q3 x0 16) - (1 : Int32))
      if hK h4 x0 = 13 then
      if hK h4 x0 = 13 then
      let h5 := wI h4 x0 13 ((hI h4 x0 13) - (1 : Int32))
      if hK h5 x0 = 13 then
      if hK h5 x0 = 13 then
      let h6 := wI h5 x0 8 ((hI h5 x0 8) + (1 : Int32))
      if hK h6 x0 = 13 then
      Option.bind (c_M_settles d (some x0) (3 : Int32) h6) fun q7 =>
      k_M_closes_5 d (some x0) q7
      else none
      else none
      else none
      else none
      else none
      else none
      else none
      else none
    else none
  else none := (sk_XT_evL sk_rec t_V d 151 38 _ (fun _ => rfl)).trans rfl
set_option maxRecDepth 100000 in
theorem e_M_tested (d : Nat) (x0 : Nat) (h : sk_H) : c_M_tested d (some x0) h =
  if hK h x0 = 13 then
  let h1 := wI h x0 16 (0 : Int32)
  if hK h1 x0 = 13 then
  let h2 := wI h1 x0 13 (0 : Int32)
  k_M_tested_12 d (some x0) (1 : Int32) h2
  else none
  else none := (sk_XT_evL sk_rec t_I d 152 77 _ (fun _ => rfl)).trans rfl
set_option maxRecDepth 100000 in
theorem e_M_tested_12 (d : Nat) (x0 : Nat) (x1 : Int32) (h : sk_H) : k_M_tested_12 d (some x0) x1 h =
  if x1 = 0 then
    if hK h x0 = 13 then
    Option.bind (c_M_isInside d (some x0) h) fun q1 =>
    if q1.2 = 0 then
      if hK q1.1 x0 = 13 then
      Option.bind (c_M_settles d (some x0) (1 : Int32) q1.1) fun q2 =>
      some (q2, (1 : Int32))
      else none
    else
      if hK q1.1 x0 = 13 then
      Option.bind (c_M_see d (some x0) q1.1) fun q3 =>
      if hK q3.1 x0 = 13 then
      if hK q3.1 x0 = 13 then
      Option.bind (c_M_fails d (some x0) (0 : Int32) (hI q3.1 x0 8) q3.1) fun q4 =>
      if q4.2 = 0 ∨ q4.2 = 1 then some (q4.1, q4.2) else none
      else none
      else none
      else none
    else none
  else
    if hK h x0 = 13 then
    Option.bind (c_M_fact d (some x0) h) fun q5 =>
    if ¬ q5.2 = 0 then
      if hK q5.1 x0 = 13 then
      Option.bind (c_M_closes d (some x0) q5.1) fun q6 =>
      if hK q6 x0 = 13 then
      Option.bind (c_M_isWord d (some x0) (6385252 : Int64) q6) fun q7 =>
      if ¬ q7.2 = 0 then
        if (1 : Int32) = 0 then
          k_M_tested_12 d (some x0) (1 : Int32) q7.1
        else
          if hK q7.1 x0 = 13 then
          Option.bind (c_M_isWord d (some x0) (6385252 : Int64) q7.1) fun q8 =>
          if q8.2 = 0 then
            k_M_tested_76 d (some x0) (1 : Int32) (13 : Int32) q8.1
          else
            k_M_tested_76 d (some x0) (1 : Int32) (12 : Int32) q8.1
          else none
      else
        if hK q7.1 x0 = 13 then
        Option.bind (c_M_isWord d (some x0) (28530 : Int64) q7.1) fun q9 =>
        if q9.2 = 0 then
          if (0 : Int32) = 0 then
            k_M_tested_12 d (some x0) (0 : Int32) q9.1
          else
            if hK q9.1 x0 = 13 then
            Option.bind (c_M_isWord d (some x0) (6385252 : Int64) q9.1) fun q10 =>
            if q10.2 = 0 then
              k_M_tested_76 d (some x0) (0 : Int32) (13 : Int32) q10.1
            else
              k_M_tested_76 d (some x0) (0 : Int32) (12 : Int32) q10.1
            else none
        else
          if (1 : Int32) = 0 then
            k_M_tested_12 d (some x0) (1 : Int32) q9.1
          else
            if hK q9.1 x0 = 13 then
            Option.bind (c_M_isWord d (some x0) (6385252 : Int64) q9.1) fun q11 =>
            if q11.2 = 0 then
              k_M_tested_76 d (some x0) (1 : Int32) (13 : Int32) q11.1
            else
              k_M_tested_76 d (some x0) (1 : Int32) (12 : Int32) q11.1
            else none
        else none
      else none
      else none
    else
      some (q5.1, (0 : Int32))
    else none := (sk_XT_evL sk_rec t_I d 152 77 _ (fun _ => rfl)).trans rfl
set_option maxRecDepth 100000 in
theorem e_M_tested_76 (d : Nat) (x0 : Nat) (x1 : Int32) (s0 : Int32) (h : sk_H) : k_M_tested_76 d (some x0) x1 s0 h =
  if hK h x0 = 13 then
  Option.bind (c_M_passWord d (some x0) h) fun q1 =>
  Option.bind (c_M_strength d s0 q1) fun q2 =>
  if hK q2.1 x0 = 13 then
  Option.bind (c_M_settles d (some x0) q2.2 q2.1) fun q3 =>
  if hK q3 x0 = 13 then
  if hK q3 x0 = 13 then
  Option.bind (hR q3 x0 15) fun a4 => if hK q3 a4 = 101 ∧ sk_in (hI q3 x0 16) (hN q3 a4) then
  let h5 := wI q3 a4 (hI q3 x0 16).toNatClampNeg s0
  if hK h5 x0 = 13 then
  if hK h5 x0 = 13 then
  let h6 := wI h5 x0 16 ((hI h5 x0 16) + (1 : Int32))
  k_M_tested_12 d (some x0) x1 h6
  else none
  else none
  else none
  else none
  else none
  else none
  else none := (sk_XT_evL sk_rec t_I d 152 77 _ (fun _ => rfl)).trans rfl
set_option maxRecDepth 100000 in
theorem e_M_isStrokeHere (d : Nat) (x0 : Nat) (h : sk_H) : c_M_isStrokeHere d (some x0) h =
  if hK h x0 = 13 then
  Option.bind (c_M_passWord d (some x0) h) fun q1 =>
  if hK q1 x0 = 13 then
  if hK q1 x0 = 13 then
  if hK q1 x0 = 13 then
  Option.bind (hR q1 x0 6) fun a2 => if (hK q1 a2 = 101 ∨ hK q1 a2 = 201) ∧ sk_in (hI q1 x0 11) (hN q1 a2) then
  if hK q1 x0 = 13 then
  if hK q1 x0 = 13 then
  if hK q1 x0 = 13 then
  Option.bind (hR q1 x0 4) fun a3 => if (hK q1 a3 = 101 ∨ hK q1 a3 = 201) ∧ sk_in (hI q1 x0 11) (hN q1 a3) then
  Option.bind (hR q1 x0 5) fun a4 => if hK q1 a4 = 101 ∧ sk_in (((48 : Int32) * (hI q1 x0 11)) + ((4 : Int32) * (hI q1 a2 (hI q1 x0 11).toNatClampNeg))) (hN q1 a4) then
  let h5 := wI q1 a4 (((48 : Int32) * (hI q1 x0 11)) + ((4 : Int32) * (hI q1 a2 (hI q1 x0 11).toNatClampNeg))).toNatClampNeg (hI q1 a3 (hI q1 x0 11).toNatClampNeg)
  if hK h5 x0 = 13 then
  Option.bind (c_M_sum d (some x0) h5) fun q6 =>
  if ¬ q6.2 = 0 then
    if hK q6.1 x0 = 13 then
    if hK q6.1 x0 = 13 then
    if hK q6.1 x0 = 13 then
    Option.bind (hR q6.1 x0 4) fun a7 => if (hK q6.1 a7 = 101 ∨ hK q6.1 a7 = 201) ∧ sk_in (hI q6.1 x0 11) (hN q6.1 a7) then
    Option.bind (hR q6.1 x0 5) fun a8 => if hK q6.1 a8 = 101 ∧ sk_in ((((48 : Int32) * (hI q1 x0 11)) + ((4 : Int32) * (hI q1 a2 (hI q1 x0 11).toNatClampNeg))) + (1 : Int32)) (hN q6.1 a8) then
    let h9 := wI q6.1 a8 ((((48 : Int32) * (hI q1 x0 11)) + ((4 : Int32) * (hI q1 a2 (hI q1 x0 11).toNatClampNeg))) + (1 : Int32)).toNatClampNeg (hI q6.1 a7 (hI q6.1 x0 11).toNatClampNeg)
    if hK h9 x0 = 13 then
    Option.bind (hR h9 x0 5) fun a10 => if hK h9 a10 = 101 ∧ sk_in ((((48 : Int32) * (hI q1 x0 11)) + ((4 : Int32) * (hI q1 a2 (hI q1 x0 11).toNatClampNeg))) + (2 : Int32)) (hN h9 a10) then
    let h11 := wI h9 a10 ((((48 : Int32) * (hI q1 x0 11)) + ((4 : Int32) * (hI q1 a2 (hI q1 x0 11).toNatClampNeg))) + (2 : Int32)).toNatClampNeg ((-1) : Int32)
    if hK h11 x0 = 13 then
    Option.bind (c_M_takesWord d (some x0) (26982 : Int64) h11) fun q12 =>
    if q12.2 = 0 then
      k_M_isStrokeHere_110 d (some x0) (((48 : Int32) * (hI q1 x0 11)) + ((4 : Int32) * (hI q1 a2 (hI q1 x0 11).toNatClampNeg))) q12.1
    else
      if hK q12.1 x0 = 13 then
      if hK q12.1 x0 = 13 then
      if hK q12.1 x0 = 13 then
      Option.bind (hR q12.1 x0 4) fun a13 => if (hK q12.1 a13 = 101 ∨ hK q12.1 a13 = 201) ∧ sk_in (hI q12.1 x0 11) (hN q12.1 a13) then
      Option.bind (hR q12.1 x0 5) fun a14 => if hK q12.1 a14 = 101 ∧ sk_in ((((48 : Int32) * (hI q1 x0 11)) + ((4 : Int32) * (hI q1 a2 (hI q1 x0 11).toNatClampNeg))) + (2 : Int32)) (hN q12.1 a14) then
      let h15 := wI q12.1 a14 ((((48 : Int32) * (hI q1 x0 11)) + ((4 : Int32) * (hI q1 a2 (hI q1 x0 11).toNatClampNeg))) + (2 : Int32)).toNatClampNeg (hI q12.1 a13 (hI q12.1 x0 11).toNatClampNeg)
      if hK h15 x0 = 13 then
      Option.bind (c_M_tested d (some x0) h15) fun q16 =>
      if ¬ q16.2 = 0 then
        k_M_isStrokeHere_110 d (some x0) (((48 : Int32) * (hI q1 x0 11)) + ((4 : Int32) * (hI q1 a2 (hI q1 x0 11).toNatClampNeg))) q16.1
      else
        some (q16.1, (0 : Int32))
      else none
      else none
      else none
      else none
      else none
      else none
    else none
    else none
    else none
    else none
    else none
    else none
    else none
    else none
  else
    some (q6.1, (0 : Int32))
  else none
  else none
  else none
  else none
  else none
  else none
  else none
  else none
  else none
  else none
  else none := (sk_XT_evL sk_rec t_I d 153 91 _ (fun _ => rfl)).trans rfl
set_option maxRecDepth 100000 in
theorem e_M_isStrokeHere_110 (d : Nat) (x0 : Nat) (x1 : Int32) (h : sk_H) : k_M_isStrokeHere_110 d (some x0) x1 h =
  if hK h x0 = 13 then
  if hK h x0 = 13 then
  if hK h x0 = 13 then
  Option.bind (hR h x0 4) fun a1 => if (hK h a1 = 101 ∨ hK h a1 = 201) ∧ sk_in (hI h x0 11) (hN h a1) then
  Option.bind (hR h x0 5) fun a2 => if hK h a2 = 101 ∧ sk_in (x1 + (3 : Int32)) (hN h a2) then
  let h3 := wI h a2 (x1 + (3 : Int32)).toNatClampNeg (hI h a1 (hI h x0 11).toNatClampNeg)
  if hK h3 x0 = 13 then
  if hK h3 x0 = 13 then
  Option.bind (hR h3 x0 6) fun a4 => if (hK h3 a4 = 101 ∨ hK h3 a4 = 201) ∧ sk_in (hI h3 x0 11) (hN h3 a4) then
  Option.bind (hR h3 x0 6) fun a5 => if hK h3 a5 = 101 ∧ sk_in (hI h3 x0 11) (hN h3 a5) then
  let h6 := wI h3 a5 (hI h3 x0 11).toNatClampNeg ((hI h3 a4 (hI h3 x0 11).toNatClampNeg) + (1 : Int32))
  some (h6, (1 : Int32))
  else none
  else none
  else none
  else none
  else none
  else none
  else none
  else none
  else none := (sk_XT_evL sk_rec t_I d 153 91 _ (fun _ => rfl)).trans rfl
set_option maxRecDepth 100000 in
theorem e_M_isAlleyHere (d : Nat) (x0 : Nat) (x1 : Int32) (h : sk_H) : c_M_isAlleyHere d (some x0) x1 h =
  if hK h x0 = 13 then
  Option.bind (hR h x0 7) fun a1 => if (hK h a1 = 101 ∨ hK h a1 = 201) ∧ sk_in (0 : Int32) (hN h a1) then
  if (hI h a1 (0 : Int32).toNatClampNeg) ≤ 0 then
    if hK h x0 = 13 then
    Option.bind (c_M_passWord d (some x0) h) fun q2 =>
    if hK q2 x0 = 13 then
    Option.bind (c_M_numberHere d (some x0) (0 : Int32) (1 : Int32) q2) fun q3 =>
    if ¬ q3.2 = 0 then
      if hK q3.1 x0 = 13 then
      if hK q3.1 x0 = 13 then
      Option.bind (hR q3.1 x0 7) fun a4 => if hK q3.1 a4 = 101 ∧ sk_in (7 : Int32) (hN q3.1 a4) then
      let h5 := wI q3.1 a4 (7 : Int32).toNatClampNeg (hI q3.1 x0 10)
      if hK h5 x0 = 13 then
      Option.bind (hR h5 x0 7) fun a6 => if hK h5 a6 = 101 ∧ sk_in (0 : Int32) (hN h5 a6) then
      let h7 := wI h5 a6 (0 : Int32).toNatClampNeg (1 : Int32)
      some (h7, (1 : Int32))
      else none
      else none
      else none
      else none
      else none
    else
      some (q3.1, (0 : Int32))
    else none
    else none
  else
    if hK h x0 = 13 then
    Option.bind (c_M_fails d (some x0) (4 : Int32) x1 h) fun q8 =>
    if q8.2 = 0 ∨ q8.2 = 1 then some (q8.1, q8.2) else none
    else none
  else none
  else none := (sk_XT_evL sk_rec t_I d 154 34 _ (fun _ => rfl)).trans rfl
set_option maxRecDepth 100000 in
theorem e_M_isPlaceHere (d : Nat) (x0 : Nat) (h : sk_H) : c_M_isPlaceHere d (some x0) h =
  if hK h x0 = 13 then
  if hK h x0 = 13 then
  if (hI h x0 1) ≤ (hI h x0 8) then
    some (h, (0 : Int32))
  else
    if hK h x0 = 13 then
    if hK h x0 = 13 then
    Option.bind (hR h x0 0) fun a1 => if (hK h a1 = 103 ∨ hK h a1 = 104 ∨ hK h a1 = 204) ∧ sk_in (hI h x0 8) (hN h a1) then
    if (hI h a1 (hI h x0 8).toNatClampNeg) = (48 : Int32) then
      some (h, (1 : Int32))
    else
      if hK h x0 = 13 then
      if hK h x0 = 13 then
      Option.bind (hR h x0 0) fun a2 => if (hK h a2 = 103 ∨ hK h a2 = 104 ∨ hK h a2 = 204) ∧ sk_in (hI h x0 8) (hN h a2) then
      if ¬ (hI h a2 (hI h x0 8).toNatClampNeg) = (49 : Int32) then
        some (h, (0 : Int32))
      else
        some (h, (1 : Int32))
      else none
      else none
      else none
    else none
    else none
    else none
  else none
  else none := (sk_XT_evL sk_rec t_I d 155 25 _ (fun _ => rfl)).trans rfl
set_option maxRecDepth 100000 in
theorem e_M_isRowHere (d : Nat) (x0 : Nat) (x1 : Int32) (h : sk_H) : c_M_isRowHere d (some x0) x1 h =
  if hK h x0 = 13 then
  Option.bind (hR h x0 7) fun a1 => if (hK h a1 = 101 ∨ hK h a1 = 201) ∧ sk_in (2 : Int32) (hN h a1) then
  if ¬ (hI h a1 (2 : Int32).toNatClampNeg) = (4 : Int32) then
    if hK h x0 = 13 then
    Option.bind (c_M_passWord d (some x0) h) fun q2 =>
    if hK q2 x0 = 13 then
    Option.bind (c_M_see d (some x0) q2) fun q3 =>
    if hK q3.1 x0 = 13 then
    Option.bind (c_M_isPlaceHere d (some x0) q3.1) fun q4 =>
    if ¬ q4.2 = 0 then
      if hK q4.1 x0 = 13 then
      Option.bind (hR q4.1 x0 7) fun a5 => if (hK q4.1 a5 = 101 ∨ hK q4.1 a5 = 201) ∧ sk_in (2 : Int32) (hN q4.1 a5) then
      if hK q4.1 x0 = 13 then
      if hK q4.1 x0 = 13 then
      Option.bind (hR q4.1 x0 7) fun a6 => if (hK q4.1 a6 = 101 ∨ hK q4.1 a6 = 201) ∧ sk_in (1 : Int32) (hN q4.1 a6) then
      Option.bind (hR q4.1 x0 7) fun a7 => if hK q4.1 a7 = 101 ∧ sk_in ((12 : Int32) + (hI q4.1 a5 (2 : Int32).toNatClampNeg)) (hN q4.1 a7) then
      let h8 := wI q4.1 a7 ((12 : Int32) + (hI q4.1 a5 (2 : Int32).toNatClampNeg)).toNatClampNeg (hI q4.1 a6 (1 : Int32).toNatClampNeg)
      if hK h8 x0 = 13 then
      Option.bind (hR h8 x0 7) fun a9 => if hK h8 a9 = 101 ∧ sk_in ((16 : Int32) + (hI q4.1 a5 (2 : Int32).toNatClampNeg)) (hN h8 a9) then
      let h10 := wI h8 a9 ((16 : Int32) + (hI q4.1 a5 (2 : Int32).toNatClampNeg)).toNatClampNeg (0 : Int32)
      if hK h10 x0 = 13 then
      Option.bind (hR h10 x0 7) fun a11 => if hK h10 a11 = 101 ∧ sk_in ((20 : Int32) + (hI q4.1 a5 (2 : Int32).toNatClampNeg)) (hN h10 a11) then
      let h12 := wI h10 a11 ((20 : Int32) + (hI q4.1 a5 (2 : Int32).toNatClampNeg)).toNatClampNeg (0 : Int32)
      k_M_isRowHere_85 d (some x0) (hI q4.1 a5 (2 : Int32).toNatClampNeg) h12
      else none
      else none
      else none
      else none
      else none
      else none
      else none
      else none
      else none
      else none
    else
      if hK q4.1 x0 = 13 then
      if hK q4.1 x0 = 13 then
      Option.bind (c_M_fails d (some x0) (0 : Int32) (hI q4.1 x0 8) q4.1) fun q13 =>
      if q13.2 = 0 ∨ q13.2 = 1 then some (q13.1, q13.2) else none
      else none
      else none
    else none
    else none
    else none
  else
    if hK h x0 = 13 then
    Option.bind (c_M_fails d (some x0) (4 : Int32) x1 h) fun q14 =>
    if q14.2 = 0 ∨ q14.2 = 1 then some (q14.1, q14.2) else none
    else none
  else none
  else none := (sk_XT_evL sk_rec t_I d 156 139 _ (fun _ => rfl)).trans rfl
set_option maxRecDepth 100000 in
theorem e_M_isRowHere_85 (d : Nat) (x0 : Nat) (x2 : Int32) (h : sk_H) : k_M_isRowHere_85 d (some x0) x2 h =
  if hK h x0 = 13 then
  Option.bind (c_M_isPlaceHere d (some x0) h) fun q1 =>
  if q1.2 = 0 then
    if hK q1.1 x0 = 13 then
    Option.bind (hR q1.1 x0 7) fun a2 => if (hK q1.1 a2 = 101 ∨ hK q1.1 a2 = 201) ∧ sk_in (2 : Int32) (hN q1.1 a2) then
    Option.bind (hR q1.1 x0 7) fun a3 => if hK q1.1 a3 = 101 ∧ sk_in (2 : Int32) (hN q1.1 a3) then
    let h4 := wI q1.1 a3 (2 : Int32).toNatClampNeg ((hI q1.1 a2 (2 : Int32).toNatClampNeg) + (1 : Int32))
    if hK h4 x0 = 13 then
    if hK h4 x0 = 13 then
    Option.bind (c_M_isDigit d (some x0) (hI h4 x0 8) h4) fun q5 =>
    if q5.2 = 0 then
      some (q5.1, (1 : Int32))
    else
      if hK q5.1 x0 = 13 then
      if hK q5.1 x0 = 13 then
      Option.bind (c_M_fails d (some x0) (0 : Int32) (hI q5.1 x0 8) q5.1) fun q6 =>
      if q6.2 = 0 then
        some (q6.1, (0 : Int32))
      else
        some (q6.1, (1 : Int32))
      else none
      else none
    else none
    else none
    else none
    else none
    else none
  else
    if hK q1.1 x0 = 13 then
    Option.bind (hR q1.1 x0 7) fun a7 => if (hK q1.1 a7 = 101 ∨ hK q1.1 a7 = 201) ∧ sk_in (1 : Int32) (hN q1.1 a7) then
    if ¬ (hI q1.1 a7 (1 : Int32).toNatClampNeg) = (12 : Int32) then
      if hK q1.1 x0 = 13 then
      if hK q1.1 x0 = 13 then
      Option.bind (hR q1.1 x0 0) fun a8 => if (hK q1.1 a8 = 103 ∨ hK q1.1 a8 = 104 ∨ hK q1.1 a8 = 204) ∧ sk_in (hI q1.1 x0 8) (hN q1.1 a8) then
      if ¬ (hI q1.1 a8 (hI q1.1 x0 8).toNatClampNeg) = (49 : Int32) then
        k_M_isRowHere_145 d (some x0) x2 q1.1
      else
        if hK q1.1 x0 = 13 then
        Option.bind (hR q1.1 x0 7) fun a9 => if (hK q1.1 a9 = 101 ∨ hK q1.1 a9 = 201) ∧ sk_in (8 : Int32) (hN q1.1 a9) then
        if hK q1.1 x0 = 13 then
        Option.bind (hR q1.1 x0 7) fun a10 => if (hK q1.1 a10 = 101 ∨ hK q1.1 a10 = 201) ∧ sk_in (1 : Int32) (hN q1.1 a10) then
        Option.bind (hR q1.1 x0 7) fun a11 => if hK q1.1 a11 = 101 ∧ sk_in (8 : Int32) (hN q1.1 a11) then
        let h12 := wI q1.1 a11 (8 : Int32).toNatClampNeg ((hI q1.1 a9 (8 : Int32).toNatClampNeg) ||| ((1 : Int32) <<< ((hI q1.1 a10 (1 : Int32).toNatClampNeg) &&& 31)))
        k_M_isRowHere_145 d (some x0) x2 h12
        else none
        else none
        else none
        else none
        else none
      else none
      else none
      else none
    else
      if hK q1.1 x0 = 13 then
      if hK q1.1 x0 = 13 then
      Option.bind (c_M_fails d (some x0) (3 : Int32) (hI q1.1 x0 8) q1.1) fun q13 =>
      if q13.2 = 0 ∨ q13.2 = 1 then some (q13.1, q13.2) else none
      else none
      else none
    else none
    else none
  else none := (sk_XT_evL sk_rec t_I d 156 139 _ (fun _ => rfl)).trans rfl
set_option maxRecDepth 100000 in
theorem e_M_isRowHere_145 (d : Nat) (x0 : Nat) (x2 : Int32) (h : sk_H) : k_M_isRowHere_145 d (some x0) x2 h =
  if hK h x0 = 13 then
  Option.bind (hR h x0 7) fun a1 => if (hK h a1 = 101 ∨ hK h a1 = 201) ∧ sk_in (1 : Int32) (hN h a1) then
  Option.bind (hR h x0 7) fun a2 => if hK h a2 = 101 ∧ sk_in (1 : Int32) (hN h a2) then
  let h3 := wI h a2 (1 : Int32).toNatClampNeg ((hI h a1 (1 : Int32).toNatClampNeg) + (1 : Int32))
  if hK h3 x0 = 13 then
  Option.bind (hR h3 x0 7) fun a4 => if (hK h3 a4 = 101 ∨ hK h3 a4 = 201) ∧ sk_in ((16 : Int32) + x2) (hN h3 a4) then
  Option.bind (hR h3 x0 7) fun a5 => if hK h3 a5 = 101 ∧ sk_in ((16 : Int32) + x2) (hN h3 a5) then
  let h6 := wI h3 a5 ((16 : Int32) + x2).toNatClampNeg ((hI h3 a4 ((16 : Int32) + x2).toNatClampNeg) + (1 : Int32))
  if hK h6 x0 = 13 then
  if hK h6 x0 = 13 then
  let h7 := wI h6 x0 8 ((hI h6 x0 8) + (1 : Int32))
  k_M_isRowHere_85 d (some x0) x2 h7
  else none
  else none
  else none
  else none
  else none
  else none
  else none
  else none := (sk_XT_evL sk_rec t_I d 156 139 _ (fun _ => rfl)).trans rfl
set_option maxRecDepth 100000 in
theorem e_M_isRingHere (d : Nat) (x0 : Nat) (h : sk_H) : c_M_isRingHere d (some x0) h =
  if hK h x0 = 13 then
  Option.bind (c_M_passWord d (some x0) h) fun q1 =>
  if hK q1 x0 = 13 then
  Option.bind (c_M_see d (some x0) q1) fun q2 =>
  if hK q2.1 x0 = 13 then
  if hK q2.1 x0 = 13 then
  Option.bind (hR q2.1 x0 7) fun a3 => if (hK q2.1 a3 = 101 ∨ hK q2.1 a3 = 201) ∧ sk_in (2 : Int32) (hN q2.1 a3) then
  if hK q2.1 x0 = 13 then
  Option.bind (c_M_numberHere d (some x0) (0 : Int32) ((hI q2.1 a3 (2 : Int32).toNatClampNeg) - (1 : Int32)) q2.1) fun q4 =>
  if ¬ q4.2 = 0 then
    if hK q4.1 x0 = 13 then
    if hK q4.1 x0 = 13 then
    Option.bind (hR q4.1 x0 7) fun a5 => if (hK q4.1 a5 = 101 ∨ hK q4.1 a5 = 201) ∧ sk_in ((16 : Int32) + (hI q4.1 x0 10)) (hN q4.1 a5) then
    if (3 : Int32) ≤ (hI q4.1 a5 ((16 : Int32) + (hI q4.1 x0 10)).toNatClampNeg) then
      if hK q4.1 x0 = 13 then
      if hK q4.1 x0 = 13 then
      Option.bind (hR q4.1 x0 7) fun a6 => if hK q4.1 a6 = 101 ∧ sk_in ((20 : Int32) + (hI q4.1 x0 10)) (hN q4.1 a6) then
      let h7 := wI q4.1 a6 ((20 : Int32) + (hI q4.1 x0 10)).toNatClampNeg (1 : Int32)
      some (h7, (1 : Int32))
      else none
      else none
      else none
    else
      if hK q4.1 x0 = 13 then
      Option.bind (c_M_fails d (some x0) (1 : Int32) (hI q2.1 x0 8) q4.1) fun q8 =>
      if q8.2 = 0 ∨ q8.2 = 1 then some (q8.1, q8.2) else none
      else none
    else none
    else none
    else none
  else
    some (q4.1, (0 : Int32))
  else none
  else none
  else none
  else none
  else none
  else none := (sk_XT_evL sk_rec t_I d 157 46 _ (fun _ => rfl)).trans rfl
set_option maxRecDepth 100000 in
theorem e_M_isHitHere (d : Nat) (x0 : Nat) (h : sk_H) : c_M_isHitHere d (some x0) h =
  if hK h x0 = 13 then
  Option.bind (c_M_passWord d (some x0) h) fun q1 =>
  if hK q1 x0 = 13 then
  Option.bind (c_M_numberHere d (some x0) (1 : Int32) (4 : Int32) q1) fun q2 =>
  if ¬ q2.2 = 0 then
    if hK q2.1 x0 = 13 then
    Option.bind (hR q2.1 x0 7) fun a3 => if (hK q2.1 a3 = 101 ∨ hK q2.1 a3 = 201) ∧ sk_in (3 : Int32) (hN q2.1 a3) then
    if hK q2.1 x0 = 13 then
    Option.bind (hR q2.1 x0 7) fun a4 => if hK q2.1 a4 = 101 ∧ sk_in (3 : Int32) (hN q2.1 a4) then
    let h5 := wI q2.1 a4 (3 : Int32).toNatClampNeg ((hI q2.1 a3 (3 : Int32).toNatClampNeg) ||| ((1 : Int32) <<< (((hI q2.1 x0 10) - (1 : Int32)) &&& 31)))
    some (h5, (1 : Int32))
    else none
    else none
    else none
    else none
  else
    some (q2.1, (0 : Int32))
  else none
  else none := (sk_XT_evL sk_rec t_I d 158 26 _ (fun _ => rfl)).trans rfl
set_option maxRecDepth 100000 in
theorem e_M_isOnceHere (d : Nat) (x0 : Nat) (x1 : Int32) (x2 : Int32) (h : sk_H) : c_M_isOnceHere d (some x0) x1 x2 h =
  if hK h x0 = 13 then
  Option.bind (hR h x0 7) fun a1 => if (hK h a1 = 101 ∨ hK h a1 = 201) ∧ sk_in x1 (hN h a1) then
  if (hI h a1 x1.toNatClampNeg) ≤ 0 then
    if hK h x0 = 13 then
    Option.bind (c_M_passWord d (some x0) h) fun q2 =>
    if hK q2 x0 = 13 then
    Option.bind (hR q2 x0 7) fun a3 => if hK q2 a3 = 101 ∧ sk_in x1 (hN q2 a3) then
    let h4 := wI q2 a3 x1.toNatClampNeg (1 : Int32)
    some (h4, (1 : Int32))
    else none
    else none
    else none
  else
    if hK h x0 = 13 then
    Option.bind (c_M_fails d (some x0) (4 : Int32) x2 h) fun q5 =>
    if q5.2 = 0 ∨ q5.2 = 1 then some (q5.1, q5.2) else none
    else none
  else none
  else none := (sk_XT_evL sk_rec t_I d 159 21 _ (fun _ => rfl)).trans rfl
set_option maxRecDepth 100000 in
theorem e_M_isStrayHere (d : Nat) (x0 : Nat) (h : sk_H) : c_M_isStrayHere d (some x0) h =
  if hK h x0 = 13 then
  Option.bind (c_M_passWord d (some x0) h) fun q1 =>
  if hK q1 x0 = 13 then
  Option.bind (c_M_numberHere d (some x0) (0 : Int32) (100 : Int32) q1) fun q2 =>
  if ¬ q2.2 = 0 then
    if hK q2.1 x0 = 13 then
    if hK q2.1 x0 = 13 then
    Option.bind (hR q2.1 x0 7) fun a3 => if hK q2.1 a3 = 101 ∧ sk_in (6 : Int32) (hN q2.1 a3) then
    let h4 := wI q2.1 a3 (6 : Int32).toNatClampNeg (hI q2.1 x0 10)
    some (h4, (1 : Int32))
    else none
    else none
    else none
  else
    some (q2.1, (0 : Int32))
  else none
  else none := (sk_XT_evL sk_rec t_I d 160 19 _ (fun _ => rfl)).trans rfl
set_option maxRecDepth 100000 in
theorem e_M_alleyLineHere (d : Nat) (x0 : Nat) (x1 : Int32) (h : sk_H) : c_M_alleyLineHere d (some x0) x1 h =
  if hK h x0 = 13 then
  Option.bind (c_M_isWord d (some x0) (418430870905 : Int64) h) fun q1 =>
  if q1.2 = 0 then
    if hK q1.1 x0 = 13 then
    Option.bind (hR q1.1 x0 7) fun a2 => if (hK q1.1 a2 = 101 ∨ hK q1.1 a2 = 201) ∧ sk_in (0 : Int32) (hN q1.1 a2) then
    if ¬ (hI q1.1 a2 (0 : Int32).toNatClampNeg) = 0 then
      if hK q1.1 x0 = 13 then
      Option.bind (c_M_isWord d (some x0) (7499639 : Int64) q1.1) fun q3 =>
      if q3.2 = 0 then
        if hK q3.1 x0 = 13 then
        Option.bind (c_M_isWord d (some x0) (1919512167 : Int64) q3.1) fun q4 =>
        if q4.2 = 0 then
          if hK q4.1 x0 = 13 then
          Option.bind (c_M_isWord d (some x0) (6842740 : Int64) q4.1) fun q5 =>
          if q5.2 = 0 then
            if hK q5.1 x0 = 13 then
            Option.bind (c_M_isWord d (some x0) (1701733491 : Int64) q5.1) fun q6 =>
            if q6.2 = 0 then
              if hK q6.1 x0 = 13 then
              Option.bind (c_M_isWord d (some x0) (1818325876 : Int64) q6.1) fun q7 =>
              if q7.2 = 0 then
                if hK q7.1 x0 = 13 then
                Option.bind (c_M_isStrayHere d (some x0) q7.1) fun q8 =>
                if q8.2 = 0 ∨ q8.2 = 1 then some (q8.1, q8.2) else none
                else none
              else
                if hK q7.1 x0 = 13 then
                Option.bind (c_M_isOnceHere d (some x0) (5 : Int32) x1 q7.1) fun q9 =>
                if q9.2 = 0 ∨ q9.2 = 1 then some (q9.1, q9.2) else none
                else none
              else none
            else
              if hK q6.1 x0 = 13 then
              Option.bind (c_M_isOnceHere d (some x0) (4 : Int32) x1 q6.1) fun q10 =>
              if q10.2 = 0 ∨ q10.2 = 1 then some (q10.1, q10.2) else none
              else none
            else none
          else
            if hK q5.1 x0 = 13 then
            Option.bind (c_M_isHitHere d (some x0) q5.1) fun q11 =>
            if q11.2 = 0 ∨ q11.2 = 1 then some (q11.1, q11.2) else none
            else none
          else none
        else
          if hK q4.1 x0 = 13 then
          Option.bind (c_M_isRingHere d (some x0) q4.1) fun q12 =>
          if q12.2 = 0 ∨ q12.2 = 1 then some (q12.1, q12.2) else none
          else none
        else none
      else
        if hK q3.1 x0 = 13 then
        Option.bind (c_M_isRowHere d (some x0) x1 q3.1) fun q13 =>
        if q13.2 = 0 ∨ q13.2 = 1 then some (q13.1, q13.2) else none
        else none
      else none
    else
      if hK q1.1 x0 = 13 then
      Option.bind (c_M_fails d (some x0) (4 : Int32) x1 q1.1) fun q14 =>
      if q14.2 = 0 ∨ q14.2 = 1 then some (q14.1, q14.2) else none
      else none
    else none
    else none
  else
    if hK q1.1 x0 = 13 then
    Option.bind (c_M_isAlleyHere d (some x0) x1 q1.1) fun q15 =>
    if q15.2 = 0 ∨ q15.2 = 1 then some (q15.1, q15.2) else none
    else none
  else none := (sk_XT_evL sk_rec t_I d 161 63 _ (fun _ => rfl)).trans rfl
set_option maxRecDepth 100000 in
theorem e_M_isAlleyWord (d : Nat) (x0 : Nat) (h : sk_H) : c_M_isAlleyWord d (some x0) h =
  if hK h x0 = 13 then
  Option.bind (c_M_isWord d (some x0) (418430870905 : Int64) h) fun q1 =>
  if ¬ q1.2 = 0 then
    k_M_isAlleyWord_45 d (some x0) (1 : Int32) q1.1
  else
    if hK q1.1 x0 = 13 then
    Option.bind (c_M_isWord d (some x0) (7499639 : Int64) q1.1) fun q2 =>
    if ¬ q2.2 = 0 then
      k_M_isAlleyWord_45 d (some x0) (1 : Int32) q2.1
    else
      if hK q2.1 x0 = 13 then
      Option.bind (c_M_isWord d (some x0) (1919512167 : Int64) q2.1) fun q3 =>
      if ¬ q3.2 = 0 then
        k_M_isAlleyWord_45 d (some x0) (1 : Int32) q3.1
      else
        if hK q3.1 x0 = 13 then
        Option.bind (c_M_isWord d (some x0) (6842740 : Int64) q3.1) fun q4 =>
        if q4.2 = 0 then
          k_M_isAlleyWord_45 d (some x0) (0 : Int32) q4.1
        else
          k_M_isAlleyWord_45 d (some x0) (1 : Int32) q4.1
        else none
      else none
    else none
  else none := (sk_XT_evL sk_rec t_I d 162 40 _ (fun _ => rfl)).trans rfl
set_option maxRecDepth 100000 in
theorem e_M_isAlleyWord_45 (d : Nat) (x0 : Nat) (s0 : Int32) (h : sk_H) : k_M_isAlleyWord_45 d (some x0) s0 h =
  if ¬ s0 = 0 then
    some (h, (1 : Int32))
  else
    if hK h x0 = 13 then
    Option.bind (c_M_isWord d (some x0) (1701733491 : Int64) h) fun q1 =>
    if ¬ q1.2 = 0 then
      some (q1.1, (1 : Int32))
    else
      if hK q1.1 x0 = 13 then
      Option.bind (c_M_isWord d (some x0) (1818325876 : Int64) q1.1) fun q2 =>
      if ¬ q2.2 = 0 then
        some (q2.1, (1 : Int32))
      else
        if hK q2.1 x0 = 13 then
        Option.bind (c_M_isWord d (some x0) (495874892153 : Int64) q2.1) fun q3 =>
        if q3.2 = 0 then
          some (q3.1, (0 : Int32))
        else
          some (q3.1, (1 : Int32))
        else none
      else none
    else none := (sk_XT_evL sk_rec t_I d 162 40 _ (fun _ => rfl)).trans rfl
set_option maxRecDepth 100000 in
theorem e_M_clauseHere (d : Nat) (x0 : Nat) (h : sk_H) : c_M_clauseHere d (some x0) h =
  if hK h x0 = 13 then
  Option.bind (c_M_see d (some x0) h) fun q1 =>
  if hK q1.1 x0 = 13 then
  if hK q1.1 x0 = 13 then
  if ¬ (hI q1.1 x0 11) = (6 : Int32) then
    k_M_clauseHere_24 d (some x0) (hI q1.1 x0 8) (0 : Int32) q1.1
  else
    k_M_clauseHere_24 d (some x0) (hI q1.1 x0 8) (1 : Int32) q1.1
  else none
  else none
  else none := (sk_XT_evL sk_rec t_I d 163 59 _ (fun _ => rfl)).trans rfl
set_option maxRecDepth 100000 in
theorem e_M_clauseHere_24 (d : Nat) (x0 : Nat) (x1 : Int32) (s0 : Int32) (h : sk_H) : k_M_clauseHere_24 d (some x0) x1 s0 h =
  if s0 = 0 then
    if hK h x0 = 13 then
    Option.bind (c_M_isWord d (some x0) (126943973305189 : Int64) h) fun q1 =>
    if ¬ q1.2 = 0 then
      if hK q1.1 x0 = 13 then
      if s0 = 0 then
        k_M_clauseHere_71 d (some x0) x1 s0 (12 : Int32) (hI q1.1 x0 14) q1.1
      else
        k_M_clauseHere_71 d (some x0) x1 s0 (40 : Int32) (hI q1.1 x0 14) q1.1
      else none
    else
      if hK q1.1 x0 = 13 then
      Option.bind (c_M_fails d (some x0) (0 : Int32) x1 q1.1) fun q2 =>
      if q2.2 = 0 ∨ q2.2 = 1 then some (q2.1, q2.2) else none
      else none
    else none
  else
    if hK h x0 = 13 then
    Option.bind (c_M_isAlleyWord d (some x0) h) fun q3 =>
    if ¬ q3.2 = 0 then
      if hK q3.1 x0 = 13 then
      if s0 = 0 then
        k_M_clauseHere_71 d (some x0) x1 s0 (12 : Int32) (hI q3.1 x0 14) q3.1
      else
        k_M_clauseHere_71 d (some x0) x1 s0 (40 : Int32) (hI q3.1 x0 14) q3.1
      else none
    else
      if hK q3.1 x0 = 13 then
      Option.bind (c_M_fails d (some x0) (0 : Int32) x1 q3.1) fun q4 =>
      if q4.2 = 0 ∨ q4.2 = 1 then some (q4.1, q4.2) else none
      else none
    else none := (sk_XT_evL sk_rec t_I d 163 59 _ (fun _ => rfl)).trans rfl
set_option maxRecDepth 100000 in
theorem e_M_clauseHere_71 (d : Nat) (x0 : Nat) (x1 : Int32) (x2 : Int32) (s0 : Int32) (s1 : Int32) (h : sk_H) : k_M_clauseHere_71 d (some x0) x1 x2 s0 s1 h =
  if ¬ s1 = s0 then
    if hK h x0 = 13 then
    if hK h x0 = 13 then
    let h1 := wI h x0 14 ((hI h x0 14) + (1 : Int32))
    if x2 = 0 then
      if hK h1 x0 = 13 then
      Option.bind (c_M_isStrokeHere d (some x0) h1) fun q2 =>
      if q2.2 = 0 ∨ q2.2 = 1 then some (q2.1, q2.2) else none
      else none
    else
      if hK h1 x0 = 13 then
      Option.bind (c_M_alleyLineHere d (some x0) x1 h1) fun q3 =>
      if q3.2 = 0 ∨ q3.2 = 1 then some (q3.1, q3.2) else none
      else none
    else none
    else none
  else
    if hK h x0 = 13 then
    Option.bind (c_M_fails d (some x0) (4 : Int32) x1 h) fun q4 =>
    if q4.2 = 0 ∨ q4.2 = 1 then some (q4.1, q4.2) else none
    else none := (sk_XT_evL sk_rec t_I d 163 59 _ (fun _ => rfl)).trans rfl
set_option maxRecDepth 100000 in
theorem e_M_readsAll (d : Nat) (x0 : Nat) (h : sk_H) : c_M_readsAll d (some x0) h =
  if hK h x0 = 13 then
  if hK h x0 = 13 then
  Option.bind (hR h x0 4) fun a1 => if hK h a1 = 101 ∧ sk_in (hI h x0 11) (hN h a1) then
  let h2 := wI h a1 (hI h x0 11).toNatClampNeg (0 : Int32)
  if hK h2 x0 = 13 then
  let h3 := wI h2 x0 14 (0 : Int32)
  if hK h3 x0 = 13 then
  let h4 := wI h3 x0 8 (0 : Int32)
  if hK h4 x0 = 13 then
  let h5 := wI h4 x0 9 (0 : Int32)
  if hK h5 x0 = 13 then
  let h6 := wI h5 x0 12 (0 : Int32)
  if hK h6 x0 = 13 then
  Option.bind (c_M_clauseHere d (some x0) h6) fun q7 =>
  k_M_readsAll_35 d (some x0) q7.2 q7.1
  else none
  else none
  else none
  else none
  else none
  else none
  else none
  else none := (sk_XT_evL sk_rec t_I d 164 61 _ (fun _ => rfl)).trans rfl
set_option maxRecDepth 100000 in
theorem e_M_readsAll_35 (d : Nat) (x0 : Nat) (x1 : Int32) (h : sk_H) : k_M_readsAll_35 d (some x0) x1 h =
  if x1 = 0 then
    k_M_readsAll_66 d (some x0) x1 h
  else
    if hK h x0 = 13 then
    Option.bind (c_M_see d (some x0) h) fun q1 =>
    if ¬ q1.2 = (59 : Int32) then
      k_M_readsAll_66 d (some x0) x1 q1.1
    else
      if hK q1.1 x0 = 13 then
      if hK q1.1 x0 = 13 then
      let h2 := wI q1.1 x0 8 ((hI q1.1 x0 8) + (1 : Int32))
      if hK h2 x0 = 13 then
      Option.bind (c_M_clauseHere d (some x0) h2) fun q3 =>
      k_M_readsAll_35 d (some x0) q3.2 q3.1
      else none
      else none
      else none
    else none := (sk_XT_evL sk_rec t_I d 164 61 _ (fun _ => rfl)).trans rfl
set_option maxRecDepth 100000 in
theorem e_M_readsAll_66 (d : Nat) (x0 : Nat) (x1 : Int32) (h : sk_H) : k_M_readsAll_66 d (some x0) x1 h =
  if x1 = 0 then
    k_M_readsAll_88 d (some x0) h
  else
    if hK h x0 = 13 then
    Option.bind (c_M_see d (some x0) h) fun q1 =>
    if q1.2 = ((-1) : Int32) then
      k_M_readsAll_88 d (some x0) q1.1
    else
      if hK q1.1 x0 = 13 then
      if hK q1.1 x0 = 13 then
      Option.bind (c_M_fails d (some x0) (0 : Int32) (hI q1.1 x0 8) q1.1) fun q2 =>
      k_M_readsAll_88 d (some x0) q2.1
      else none
      else none
    else none := (sk_XT_evL sk_rec t_I d 164 61 _ (fun _ => rfl)).trans rfl
set_option maxRecDepth 100000 in
theorem e_M_readsAll_88 (d : Nat) (x0 : Nat) (h : sk_H) : k_M_readsAll_88 d (some x0) h =
  if hK h x0 = 13 then
  let h1 := wI h x0 1 (0 : Int32)
  if hK h1 x0 = 13 then
  if ¬ (hI h1 x0 9) = 0 then
    some (h1, (0 : Int32))
  else
    some (h1, (1 : Int32))
  else none
  else none := (sk_XT_evL sk_rec t_I d 164 61 _ (fun _ => rfl)).trans rfl
set_option maxRecDepth 100000 in
theorem e_M_rule (d : Nat) (x0 : Nat) (h : sk_H) : c_M_rule d (some x0) h =
  if hK h x0 = 13 then
  if ¬ (hI h x0 2) = (6 : Int32) then
    if hK h x0 = 13 then
    if hK h x0 = 13 then
    let h1 := wI h x0 11 (hI h x0 2)
    if hK h1 x0 = 13 then
    if hK h1 x0 = 13 then
    Option.bind (hR h1 x0 6) fun a2 => if hK h1 a2 = 101 ∧ sk_in (hI h1 x0 11) (hN h1 a2) then
    let h3 := wI h1 a2 (hI h1 x0 11).toNatClampNeg (0 : Int32)
    if hK h3 x0 = 13 then
    Option.bind (c_M_readsAll d (some x0) h3) fun q4 =>
    if ¬ q4.2 = 0 then
      if hK q4.1 x0 = 13 then
      if hK q4.1 x0 = 13 then
      let h5 := wI q4.1 x0 2 ((hI q4.1 x0 2) + (1 : Int32))
      if hK h5 x0 = 13 then
      some (h5, (hI h5 x0 2) - (1 : Int32))
      else none
      else none
      else none
    else
      if hK q4.1 x0 = 13 then
      some (q4.1, ((-2) : Int32) - (hI q4.1 x0 9))
      else none
    else none
    else none
    else none
    else none
    else none
    else none
  else
    some (h, ((-1) : Int32))
  else none := (sk_XT_evL sk_rec t_I d 165 37 _ (fun _ => rfl)).trans rfl
set_option maxRecDepth 100000 in
theorem e_M_alley (d : Nat) (x0 : Nat) (h : sk_H) : c_M_alley d (some x0) h =
  if hK h x0 = 13 then
  let h1 := wI h x0 11 (6 : Int32)
  k_M_alley_8 d (some x0) (0 : Int32) h1
  else none := (sk_XT_evL sk_rec t_I d 166 66 _ (fun _ => rfl)).trans rfl
set_option maxRecDepth 100000 in
theorem e_M_alley_8 (d : Nat) (x0 : Nat) (x1 : Int32) (h : sk_H) : k_M_alley_8 d (some x0) x1 h =
  if (24 : Int32) ≤ x1 then
    if hK h x0 = 13 then
    Option.bind (c_M_readsAll d (some x0) h) fun q1 =>
    if ¬ q1.2 = 0 then
      k_M_alley_44 d (some x0) (0 : Int32) q1.1
    else
      if hK q1.1 x0 = 13 then
      some (q1.1, ((-2) : Int32) - (hI q1.1 x0 9))
      else none
    else none
  else
    if hK h x0 = 13 then
    Option.bind (hR h x0 7) fun a2 => if hK h a2 = 101 ∧ sk_in x1 (hN h a2) then
    let h3 := wI h a2 x1.toNatClampNeg (0 : Int32)
    k_M_alley_8 d (some x0) (x1 + 1) h3
    else none
    else none := (sk_XT_evL sk_rec t_I d 166 66 _ (fun _ => rfl)).trans rfl
set_option maxRecDepth 100000 in
theorem e_M_alley_44 (d : Nat) (x0 : Nat) (x1 : Int32) (h : sk_H) : k_M_alley_44 d (some x0) x1 h =
  if (184 : Int32) ≤ x1 then
    if hK h x0 = 13 then
    Option.bind (hR h x0 20) fun a1 => if (hK h a1 = 101 ∨ hK h a1 = 201) ∧ sk_in (3 : Int32) (hN h a1) then
    if ¬ (hI h a1 (3 : Int32).toNatClampNeg) = 0 then
      if hK h x0 = 13 then
      let h2 := wI h x0 25 (0 : Int32)
      if hK h2 x0 = 13 then
      let h3 := wI h2 x0 23 ((-1) : Int32)
      if hK h3 x0 = 13 then
      Option.bind (hR h3 x0 20) fun a4 => if (hK h3 a4 = 101 ∨ hK h3 a4 = 201) ∧ sk_in (1 : Int32) (hN h3 a4) then
      some (h3, hI h3 a4 (1 : Int32).toNatClampNeg)
      else none
      else none
      else none
      else none
    else
      if hK h x0 = 13 then
      Option.bind (hR h x0 20) fun a5 => if hK h a5 = 101 ∧ sk_in (3 : Int32) (hN h a5) then
      let h6 := wI h a5 (3 : Int32).toNatClampNeg (3 : Int32)
      if hK h6 x0 = 13 then
      let h7 := wI h6 x0 25 (0 : Int32)
      if hK h7 x0 = 13 then
      let h8 := wI h7 x0 23 ((-1) : Int32)
      if hK h8 x0 = 13 then
      Option.bind (hR h8 x0 20) fun a9 => if (hK h8 a9 = 101 ∨ hK h8 a9 = 201) ∧ sk_in (1 : Int32) (hN h8 a9) then
      some (h8, hI h8 a9 (1 : Int32).toNatClampNeg)
      else none
      else none
      else none
      else none
      else none
      else none
    else none
    else none
  else
    if hK h x0 = 13 then
    if (24 : Int32) ≤ x1 then
      Option.bind (hR h x0 20) fun a10 => if hK h a10 = 101 ∧ sk_in x1 (hN h a10) then
      let h11 := wI h a10 x1.toNatClampNeg (0 : Int32)
      k_M_alley_44 d (some x0) (x1 + 1) h11
      else none
    else
      if hK h x0 = 13 then
      Option.bind (hR h x0 7) fun a12 => if (hK h a12 = 101 ∨ hK h a12 = 201) ∧ sk_in x1 (hN h a12) then
      Option.bind (hR h x0 20) fun a13 => if hK h a13 = 101 ∧ sk_in x1 (hN h a13) then
      let h14 := wI h a13 x1.toNatClampNeg (hI h a12 x1.toNatClampNeg)
      k_M_alley_44 d (some x0) (x1 + 1) h14
      else none
      else none
      else none
    else none := (sk_XT_evL sk_rec t_I d 166 66 _ (fun _ => rfl)).trans rfl
set_option maxRecDepth 100000 in
theorem e_M_isRule (d : Nat) (x0 : Nat) (x1 : Int32) (h : sk_H) : c_M_isRule d (some x0) x1 h =
  if x1 < 0 then
    some (h, (0 : Int32))
  else
    if hK h x0 = 13 then
    if (hI h x0 2) ≤ x1 then
      some (h, (0 : Int32))
    else
      some (h, (1 : Int32))
    else none := (sk_XT_evL sk_rec t_I d 167 12 _ (fun _ => rfl)).trans rfl
set_option maxRecDepth 100000 in
theorem e_M_push (d : Nat) (x0 : Nat) (x1 : Int64) (h : sk_H) : c_M_push d (some x0) x1 h =
  if hK h x0 = 13 then
  if hK h x0 = 13 then
  Option.bind (hR h x0 17) fun a1 => if hK h a1 = 102 ∧ sk_in (hI h x0 18) (hN h a1) then
  let h2 := wJ h a1 (hI h x0 18).toNatClampNeg x1
  if hK h2 x0 = 13 then
  if hK h2 x0 = 13 then
  let h3 := wI h2 x0 18 ((hI h2 x0 18) + (1 : Int32))
  some h3
  else none
  else none
  else none
  else none
  else none := (sk_XT_evL sk_rec t_V d 168 15 _ (fun _ => rfl)).trans rfl
set_option maxRecDepth 100000 in
theorem e_M_pop (d : Nat) (x0 : Nat) (h : sk_H) : c_M_pop d (some x0) h =
  if hK h x0 = 13 then
  if hK h x0 = 13 then
  let h1 := wI h x0 18 ((hI h x0 18) - (1 : Int32))
  if hK h1 x0 = 13 then
  if hK h1 x0 = 13 then
  Option.bind (hR h1 x0 17) fun a2 => if (hK h1 a2 = 102 ∨ hK h1 a2 = 202) ∧ sk_in (hI h1 x0 18) (hN h1 a2) then
  some (h1, hJ h1 a2 (hI h1 x0 18).toNatClampNeg)
  else none
  else none
  else none
  else none
  else none := (sk_XT_evL sk_rec t_L d 169 14 _ (fun _ => rfl)).trans rfl
set_option maxRecDepth 100000 in
theorem e_M_one (d : Nat) (x0 : Int32) (x1 : Int64) (x2 : Int64) (h : sk_H) : c_M_one d x0 x1 x2 h =
  if x0 = 2 then
    some (h, x1 + x2)
  else if x0 = 3 then
    some (h, x1 - x2)
  else if x0 = 4 then
    some (h, x1 * x2)
  else if x0 = 5 then
    if ¬ (lg_cmp x2 (0 : Int64)) = 0 then
      if ¬ x2 = 0 then
      some (h, x1 / x2)
      else none
    else
      some (h, (0 : Int64))
  else if x0 = 6 then
    if 0 ≤ (lg_cmp x1 x2) then
      some (h, (0 : Int64))
    else
      some (h, (1 : Int64))
  else if x0 = 7 then
    if 0 < (lg_cmp x1 x2) then
      some (h, (0 : Int64))
    else
      some (h, (1 : Int64))
  else if x0 = 8 then
    if ¬ (lg_cmp x1 x2) = 0 then
      some (h, (0 : Int64))
    else
      some (h, (1 : Int64))
  else if x0 = 9 then
    if (lg_cmp x1 x2) < 0 then
      some (h, (0 : Int64))
    else
      some (h, (1 : Int64))
  else if x0 = 10 then
    if (lg_cmp x1 x2) ≤ 0 then
      some (h, (0 : Int64))
    else
      some (h, (1 : Int64))
  else if x0 = 11 then
    some (h, x1 ||| x2)
  else if x0 = 12 then
    some (h, x1 &&& x2)
  else if x0 = 13 then
    some (h, x1 ||| x2)
  else if x0 = 14 then
    if ¬ (lg_cmp x2 (0 : Int64)) = 0 then
      if ¬ x2 = 0 then
      some (h, x1 - x1 / x2 * x2)
      else none
    else
      some (h, (0 : Int64))
  else some (h, x1 ||| x2) := (sk_XT_evL sk_rec t_L d 170 84 _ (fun _ => rfl)).trans rfl
set_option maxRecDepth 100000 in
theorem e_M_reckons (d : Nat) (x0 : Nat) (x1 : Int32) (x2 : Int32) (x3 : Int32) (h : sk_H) : c_M_reckons d (some x0) x1 x2 x3 h =
  if hK h x0 = 13 then
  let h1 := wI h x0 18 (0 : Int32)
  k_M_reckons_8 d (some x0) x1 x3 x2 h1
  else none := (sk_XT_evL sk_rec t_L d 171 76 _ (fun _ => rfl)).trans rfl
set_option maxRecDepth 100000 in
theorem e_M_reckons_8 (d : Nat) (x0 : Nat) (x1 : Int32) (x3 : Int32) (x4 : Int32) (h : sk_H) : k_M_reckons_8 d (some x0) x1 x3 x4 h =
  if x3 ≤ x4 then
    if hK h x0 = 13 then
    Option.bind (c_M_pop d (some x0) h) fun q1 =>
    some (q1.1, q1.2)
    else none
  else
    if hK h x0 = 13 then
    Option.bind (hR h x0 3) fun a2 => if (hK h a2 = 101 ∨ hK h a2 = 201) ∧ sk_in (((400 : Int32) * x1) + x4) (hN h a2) then
    if hK h x0 = 13 then
    Option.bind (hR h x0 3) fun a3 => if (hK h a3 = 101 ∨ hK h a3 = 201) ∧ sk_in (((400 : Int32) * x1) + x4) (hN h a3) then
    if ¬ ((hI h a2 (((400 : Int32) * x1) + x4).toNatClampNeg) &&& (15 : Int32)) = 0 then
      if ¬ ((hI h a2 (((400 : Int32) * x1) + x4).toNatClampNeg) &&& (15 : Int32)) = (1 : Int32) then
        if ¬ ((hI h a2 (((400 : Int32) * x1) + x4).toNatClampNeg) &&& (15 : Int32)) = (11 : Int32) then
          if hK h x0 = 13 then
          Option.bind (c_M_pop d (some x0) h) fun q4 =>
          if hK q4.1 x0 = 13 then
          Option.bind (c_M_pop d (some x0) q4.1) fun q5 =>
          Option.bind (c_M_one d ((hI h a2 (((400 : Int32) * x1) + x4).toNatClampNeg) &&& (15 : Int32)) q5.2 q4.2 q5.1) fun q6 =>
          if hK q6.1 x0 = 13 then
          Option.bind (c_M_push d (some x0) q6.2 q6.1) fun q7 =>
          k_M_reckons_8 d (some x0) x1 x3 (x4 + 1) q7
          else none
          else none
          else none
        else
          if hK h x0 = 13 then
          Option.bind (c_M_pop d (some x0) h) fun q8 =>
          if hK q8.1 x0 = 13 then
          Option.bind (c_M_push d (some x0) ((1 : Int64) - q8.2) q8.1) fun q9 =>
          k_M_reckons_8 d (some x0) x1 x3 (x4 + 1) q9
          else none
          else none
      else
        if hK h x0 = 13 then
        Option.bind (hR h x0 19) fun a10 => if (hK h a10 = 102 ∨ hK h a10 = 202) ∧ sk_in ((hI h a3 (((400 : Int32) * x1) + x4).toNatClampNeg) >>> ((4 : Int32) &&& 31)) (hN h a10) then
        if hK h x0 = 13 then
        Option.bind (c_M_push d (some x0) (hJ h a10 ((hI h a3 (((400 : Int32) * x1) + x4).toNatClampNeg) >>> ((4 : Int32) &&& 31)).toNatClampNeg) h) fun q11 =>
        k_M_reckons_8 d (some x0) x1 x3 (x4 + 1) q11
        else none
        else none
        else none
    else
      if hK h x0 = 13 then
      Option.bind (c_M_push d (some x0) (((hI h a3 (((400 : Int32) * x1) + x4).toNatClampNeg) >>> ((4 : Int32) &&& 31)).toInt64) h) fun q12 =>
      k_M_reckons_8 d (some x0) x1 x3 (x4 + 1) q12
      else none
    else none
    else none
    else none
    else none := (sk_XT_evL sk_rec t_L d 171 76 _ (fun _ => rfl)).trans rfl
set_option maxRecDepth 100000 in
theorem e_M_isAlley (d : Nat) (x0 : Nat) (h : sk_H) : c_M_isAlley d (some x0) h =
  if hK h x0 = 13 then
  Option.bind (hR h x0 20) fun a1 => if (hK h a1 = 101 ∨ hK h a1 = 201) ∧ sk_in (0 : Int32) (hN h a1) then
  if ¬ (hI h a1 (0 : Int32).toNatClampNeg) = (1 : Int32) then
    some (h, (0 : Int32))
  else
    some (h, (1 : Int32))
  else none
  else none := (sk_XT_evL sk_rec t_I d 172 12 _ (fun _ => rfl)).trans rfl
set_option maxRecDepth 100000 in
theorem e_M_isPlace (d : Nat) (x0 : Nat) (x1 : Int32) (h : sk_H) : c_M_isPlace d (some x0) x1 h =
  if x1 < 0 then
    some (h, (0 : Int32))
  else
    if hK h x0 = 13 then
    Option.bind (hR h x0 20) fun a1 => if (hK h a1 = 101 ∨ hK h a1 = 201) ∧ sk_in (1 : Int32) (hN h a1) then
    if (hI h a1 (1 : Int32).toNatClampNeg) ≤ x1 then
      some (h, (0 : Int32))
    else
      some (h, (1 : Int32))
    else none
    else none := (sk_XT_evL sk_rec t_I d 173 14 _ (fun _ => rfl)).trans rfl
set_option maxRecDepth 100000 in
theorem e_M_rowOf (d : Nat) (x0 : Nat) (x1 : Int32) (h : sk_H) : c_M_rowOf d (some x0) x1 h =
  if hK h x0 = 13 then
  Option.bind (hR h x0 20) fun a1 => if (hK h a1 = 101 ∨ hK h a1 = 201) ∧ sk_in (2 : Int32) (hN h a1) then
  k_M_rowOf_9 d (some x0) x1 ((hI h a1 (2 : Int32).toNatClampNeg) - (1 : Int32)) h
  else none
  else none := (sk_XT_evL sk_rec t_I d 174 21 _ (fun _ => rfl)).trans rfl
set_option maxRecDepth 100000 in
theorem e_M_rowOf_9 (d : Nat) (x0 : Nat) (x1 : Int32) (x2 : Int32) (h : sk_H) : k_M_rowOf_9 d (some x0) x1 x2 h =
  if hK h x0 = 13 then
  Option.bind (hR h x0 20) fun a1 => if (hK h a1 = 101 ∨ hK h a1 = 201) ∧ sk_in ((12 : Int32) + x2) (hN h a1) then
  if (hI h a1 ((12 : Int32) + x2).toNatClampNeg) ≤ x1 then
    some (h, x2)
  else
    k_M_rowOf_9 d (some x0) x1 (x2 + (-1)) h
  else none
  else none := (sk_XT_evL sk_rec t_I d 174 21 _ (fun _ => rfl)).trans rfl
set_option maxRecDepth 100000 in
theorem e_M_beside (d : Nat) (x0 : Nat) (x1 : Int32) (x2 : Int32) (h : sk_H) : c_M_beside d (some x0) x1 x2 h =
  if hK h x0 = 13 then
  Option.bind (c_M_rowOf d (some x0) x1 h) fun q1 =>
  if hK q1.1 x0 = 13 then
  Option.bind (hR q1.1 x0 20) fun a2 => if (hK q1.1 a2 = 101 ∨ hK q1.1 a2 = 201) ∧ sk_in ((12 : Int32) + q1.2) (hN q1.1 a2) then
  if ((x1 - (hI q1.1 a2 ((12 : Int32) + q1.2).toNatClampNeg)) + x2) < 0 then
    k_M_beside_40 d (some x0) q1.2 ((x1 - (hI q1.1 a2 ((12 : Int32) + q1.2).toNatClampNeg)) + x2) q1.1
  else
    if hK q1.1 x0 = 13 then
    Option.bind (hR q1.1 x0 20) fun a3 => if (hK q1.1 a3 = 101 ∨ hK q1.1 a3 = 201) ∧ sk_in ((16 : Int32) + q1.2) (hN q1.1 a3) then
    if ((x1 - (hI q1.1 a2 ((12 : Int32) + q1.2).toNatClampNeg)) + x2) < (hI q1.1 a3 ((16 : Int32) + q1.2).toNatClampNeg) then
      if hK q1.1 x0 = 13 then
      Option.bind (hR q1.1 x0 20) fun a4 => if (hK q1.1 a4 = 101 ∨ hK q1.1 a4 = 201) ∧ sk_in ((12 : Int32) + q1.2) (hN q1.1 a4) then
      some (q1.1, (hI q1.1 a4 ((12 : Int32) + q1.2).toNatClampNeg) + ((x1 - (hI q1.1 a2 ((12 : Int32) + q1.2).toNatClampNeg)) + x2))
      else none
      else none
    else
      k_M_beside_40 d (some x0) q1.2 ((x1 - (hI q1.1 a2 ((12 : Int32) + q1.2).toNatClampNeg)) + x2) q1.1
    else none
    else none
  else none
  else none
  else none := (sk_XT_evL sk_rec t_I d 175 58 _ (fun _ => rfl)).trans rfl
set_option maxRecDepth 100000 in
theorem e_M_beside_40 (d : Nat) (x0 : Nat) (x3 : Int32) (x4 : Int32) (h : sk_H) : k_M_beside_40 d (some x0) x3 x4 h =
  if hK h x0 = 13 then
  Option.bind (hR h x0 20) fun a1 => if (hK h a1 = 101 ∨ hK h a1 = 201) ∧ sk_in ((20 : Int32) + x3) (hN h a1) then
  if ¬ (hI h a1 ((20 : Int32) + x3).toNatClampNeg) = 0 then
    if 0 ≤ x4 then
      if hK h x0 = 13 then
      Option.bind (hR h x0 20) fun a2 => if (hK h a2 = 101 ∨ hK h a2 = 201) ∧ sk_in ((12 : Int32) + x3) (hN h a2) then
      some (h, (hI h a2 ((12 : Int32) + x3).toNatClampNeg) + (0 : Int32))
      else none
      else none
    else
      if hK h x0 = 13 then
      Option.bind (hR h x0 20) fun a3 => if (hK h a3 = 101 ∨ hK h a3 = 201) ∧ sk_in ((16 : Int32) + x3) (hN h a3) then
      if hK h x0 = 13 then
      Option.bind (hR h x0 20) fun a4 => if (hK h a4 = 101 ∨ hK h a4 = 201) ∧ sk_in ((12 : Int32) + x3) (hN h a4) then
      some (h, (hI h a4 ((12 : Int32) + x3).toNatClampNeg) + ((hI h a3 ((16 : Int32) + x3).toNatClampNeg) - (1 : Int32)))
      else none
      else none
      else none
      else none
  else
    some (h, ((-1) : Int32))
  else none
  else none := (sk_XT_evL sk_rec t_I d 175 58 _ (fun _ => rfl)).trans rfl
set_option maxRecDepth 100000 in
theorem e_M_strokeBits (d : Nat) (x0 : Nat) (x1 : Int32) (x2 : Int32) (h : sk_H) : c_M_strokeBits d (some x0) x1 x2 h =
  k_M_strokeBits_8 d (some x0) x2 (0 : Int32) x1 (0 : Int32) h := (sk_XT_evL sk_rec t_I d 176 34 _ (fun _ => rfl)).trans rfl
set_option maxRecDepth 100000 in
theorem e_M_strokeBits_8 (d : Nat) (x0 : Nat) (x2 : Int32) (x3 : Int32) (x4 : Int32) (x5 : Int32) (h : sk_H) : k_M_strokeBits_8 d (some x0) x2 x3 x4 x5 h =
  if x2 ≤ x5 then
    some (h, x3)
  else
    if x4 < 0 then
      some (h, (0 : Int32))
    else
      Option.bind (c_M_isOf d x3 x4 h) fun q1 =>
      if q1.2 = 0 then
        if hK q1.1 x0 = 13 then
        Option.bind (c_M_beside d (some x0) x4 (1 : Int32) q1.1) fun q2 =>
        k_M_strokeBits_8 d (some x0) x2 (x3 ||| ((1 : Int32) <<< (x4 &&& 31))) q2.2 (x5 + 1) q2.1
        else none
      else
        some (q1.1, (0 : Int32)) := (sk_XT_evL sk_rec t_I d 176 34 _ (fun _ => rfl)).trans rfl
set_option maxRecDepth 100000 in
theorem e_M_lastOf (d : Nat) (x0 : Nat) (x1 : Int32) (x2 : Int32) (h : sk_H) : c_M_lastOf d (some x0) x1 x2 h =
  k_M_lastOf_5 d (some x0) x2 x1 (1 : Int32) h := (sk_XT_evL sk_rec t_I d 177 18 _ (fun _ => rfl)).trans rfl
set_option maxRecDepth 100000 in
theorem e_M_lastOf_5 (d : Nat) (x0 : Nat) (x2 : Int32) (x3 : Int32) (x4 : Int32) (h : sk_H) : k_M_lastOf_5 d (some x0) x2 x3 x4 h =
  if x2 ≤ x4 then
    some (h, x3)
  else
    if hK h x0 = 13 then
    Option.bind (c_M_beside d (some x0) x3 (1 : Int32) h) fun q1 =>
    k_M_lastOf_5 d (some x0) x2 q1.2 (x4 + 1) q1.1
    else none := (sk_XT_evL sk_rec t_I d 177 18 _ (fun _ => rfl)).trans rfl
set_option maxRecDepth 100000 in
theorem e_M_canBe (d : Nat) (x0 : Nat) (x1 : Int32) (x2 : Int32) (x3 : Int32) (x4 : Int32) (x5 : Int32) (h : sk_H) : c_M_canBe d (some x0) x1 x2 x3 x4 x5 h =
  Option.bind (c_M_isOf d x4 (x3 - (1 : Int32)) h) fun q1 =>
  if ¬ q1.2 = 0 then
    if hK q1.1 x0 = 13 then
    Option.bind (c_M_strokeBits d (some x0) x2 x3 q1.1) fun q2 =>
    if q2.2 = 0 then
      some (q2.1, (0 : Int32))
    else
      if (x1 &&& q2.2) = q2.2 then
        if ¬ x5 = 0 then
          if hK q2.1 x0 = 13 then
          Option.bind (c_M_beside d (some x0) x2 ((-1) : Int32) q2.1) fun q3 =>
          if hK q3.1 x0 = 13 then
          Option.bind (c_M_lastOf d (some x0) x2 x3 q3.1) fun q4 =>
          if hK q4.1 x0 = 13 then
          Option.bind (c_M_beside d (some x0) q4.2 (1 : Int32) q4.1) fun q5 =>
          if q3.2 < 0 then
            some (q5.1, (1 : Int32))
          else
            Option.bind (c_M_isOf d (x1 &&& (q2.2 ^^^ ((-1) : Int32))) q3.2 q5.1) fun q6 =>
            if q6.2 = 0 then
              some (q6.1, (1 : Int32))
            else
              if q5.2 < 0 then
                some (q6.1, (1 : Int32))
              else
                Option.bind (c_M_isOf d (x1 &&& (q2.2 ^^^ ((-1) : Int32))) q5.2 q6.1) fun q7 =>
                if ¬ q7.2 = 0 then
                  some (q7.1, (0 : Int32))
                else
                  some (q7.1, (1 : Int32))
          else none
          else none
          else none
        else
          some (q2.1, (1 : Int32))
      else
        some (q2.1, (0 : Int32))
    else none
  else
    some (q1.1, (0 : Int32)) := (sk_XT_evL sk_rec t_I d 178 63 _ (fun _ => rfl)).trans rfl
set_option maxRecDepth 100000 in
theorem e_M_canBeNow (d : Nat) (x0 : Nat) (x1 : Int32) (x2 : Int32) (x3 : Int32) (h : sk_H) : c_M_canBeNow d (some x0) x1 x2 x3 h =
  if hK h x0 = 13 then
  Option.bind (hR h x0 20) fun a1 => if (hK h a1 = 101 ∨ hK h a1 = 201) ∧ sk_in (3 : Int32) (hN h a1) then
  if hK h x0 = 13 then
  Option.bind (hR h x0 20) fun a2 => if (hK h a2 = 101 ∨ hK h a2 = 201) ∧ sk_in (4 : Int32) (hN h a2) then
  if ¬ (hI h a2 (4 : Int32).toNatClampNeg) = (1 : Int32) then
    if hK h x0 = 13 then
    Option.bind (c_M_canBe d (some x0) x1 x2 x3 (hI h a1 (3 : Int32).toNatClampNeg) (0 : Int32) h) fun q3 =>
    if q3.2 = 0 ∨ q3.2 = 1 then some (q3.1, q3.2) else none
    else none
  else
    if hK h x0 = 13 then
    Option.bind (c_M_canBe d (some x0) x1 x2 x3 (hI h a1 (3 : Int32).toNatClampNeg) (1 : Int32) h) fun q4 =>
    if q4.2 = 0 ∨ q4.2 = 1 then some (q4.1, q4.2) else none
    else none
  else none
  else none
  else none
  else none := (sk_XT_evL sk_rec t_I d 179 21 _ (fun _ => rfl)).trans rfl
set_option maxRecDepth 100000 in
theorem e_M_fillsWon (d : Nat) (x0 : Nat) (x1 : Int32) (x2 : Int32) (x3 : Int32) (h : sk_H) : c_M_fillsWon d (some x0) x1 x2 x3 h =
  if hK h x0 = 13 then
  if ¬ (hI h x0 23) = ((x1 + ((16 : Int32) * x2)) + ((32 : Int32) * x3)) then
    if hK h x0 = 13 then
    let h1 := wI h x0 23 ((x1 + ((16 : Int32) * x2)) + ((32 : Int32) * x3))
    k_M_fillsWon_32 d (some x0) x1 x2 x3 (0 : Int32) h1
    else none
  else
    some h
  else none := (sk_XT_evL sk_rec t_V d 180 104 _ (fun _ => rfl)).trans rfl
set_option maxRecDepth 100000 in
theorem e_M_fillsWon_32 (d : Nat) (x0 : Nat) (x1 : Int32) (x2 : Int32) (x3 : Int32) (x5 : Int32) (h : sk_H) : k_M_fillsWon_32 d (some x0) x1 x2 x3 x5 h =
  if hK h x0 = 13 then
  Option.bind (hR h x0 20) fun a1 => if (hK h a1 = 101 ∨ hK h a1 = 201) ∧ sk_in (1 : Int32) (hN h a1) then
  if ((1 : Int32) <<< ((hI h a1 (1 : Int32).toNatClampNeg) &&& 31)) ≤ x5 then
    some h
  else
    k_M_fillsWon_54 d (some x0) x1 x2 x3 x5 (0 : Int32) (1 : Int32) (0 : Int32) h
  else none
  else none := (sk_XT_evL sk_rec t_V d 180 104 _ (fun _ => rfl)).trans rfl
set_option maxRecDepth 100000 in
theorem e_M_fillsWon_54 (d : Nat) (x0 : Nat) (x1 : Int32) (x2 : Int32) (x3 : Int32) (x5 : Int32) (x6 : Int32) (x7 : Int32) (x8 : Int32) (h : sk_H) : k_M_fillsWon_54 d (some x0) x1 x2 x3 x5 x6 x7 x8 h =
  if hK h x0 = 13 then
  Option.bind (hR h x0 20) fun a1 => if (hK h a1 = 101 ∨ hK h a1 = 201) ∧ sk_in (1 : Int32) (hN h a1) then
  if (hI h a1 (1 : Int32).toNatClampNeg) ≤ x8 then
    k_M_fillsWon_154 d (some x0) x1 x2 x3 x5 x6 x7 h
  else
    if ¬ x6 = 0 then
      k_M_fillsWon_154 d (some x0) x1 x2 x3 x5 x6 x7 h
    else
      k_M_fillsWon_73 d (some x0) x1 x2 x3 x5 x6 x7 x8 (1 : Int32) h
  else none
  else none := (sk_XT_evL sk_rec t_V d 180 104 _ (fun _ => rfl)).trans rfl
set_option maxRecDepth 100000 in
theorem e_M_fillsWon_73 (d : Nat) (x0 : Nat) (x1 : Int32) (x2 : Int32) (x3 : Int32) (x5 : Int32) (x6 : Int32) (x7 : Int32) (x8 : Int32) (x9 : Int32) (h : sk_H) : k_M_fillsWon_73 d (some x0) x1 x2 x3 x5 x6 x7 x8 x9 h =
  if (4 : Int32) < x9 then
    k_M_fillsWon_54 d (some x0) x1 x2 x3 x5 x6 x7 (x8 + 1) h
  else
    if ¬ x2 = (1 : Int32) then
      k_M_fillsWon_97 d (some x0) x1 x2 x3 x5 x6 x7 x8 x9 (0 : Int32) x1 x9 x8 x5 (some x0) h
    else
      k_M_fillsWon_97 d (some x0) x1 x2 x3 x5 x6 x7 x8 x9 (1 : Int32) x1 x9 x8 x5 (some x0) h := (sk_XT_evL sk_rec t_V d 180 104 _ (fun _ => rfl)).trans rfl
set_option maxRecDepth 100000 in
theorem e_M_fillsWon_154 (d : Nat) (x0 : Nat) (x1 : Int32) (x2 : Int32) (x3 : Int32) (x5 : Int32) (x6 : Int32) (x7 : Int32) (h : sk_H) : k_M_fillsWon_154 d (some x0) x1 x2 x3 x5 x6 x7 h =
  if hK h x0 = 13 then
  if x7 = 0 then
    Option.bind (hR h x0 22) fun a1 => if (hK h a1 = 104 ∨ (hK h a1 = 103 ∧ (x6 = 0 ∨ x6 = 1))) ∧ sk_in x5 (hN h a1) then
    let h2 := wI h a1 x5.toNatClampNeg x6.toInt8.toInt32
    k_M_fillsWon_32 d (some x0) x1 x2 x3 (x5 + 1) h2
    else none
  else
    if ¬ x3 = (1 : Int32) then
      Option.bind (hR h x0 22) fun a3 => if (hK h a3 = 104 ∨ (hK h a3 = 103 ∧ ((0 : Int32) = 0 ∨ (0 : Int32) = 1))) ∧ sk_in x5 (hN h a3) then
      let h4 := wI h a3 x5.toNatClampNeg ((0 : Int32).toInt8.toInt32)
      k_M_fillsWon_32 d (some x0) x1 x2 x3 (x5 + 1) h4
      else none
    else
      Option.bind (hR h x0 22) fun a5 => if (hK h a5 = 104 ∨ (hK h a5 = 103 ∧ ((1 : Int32) = 0 ∨ (1 : Int32) = 1))) ∧ sk_in x5 (hN h a5) then
      let h6 := wI h a5 x5.toNatClampNeg ((1 : Int32).toInt8.toInt32)
      k_M_fillsWon_32 d (some x0) x1 x2 x3 (x5 + 1) h6
      else none
  else none := (sk_XT_evL sk_rec t_V d 180 104 _ (fun _ => rfl)).trans rfl
set_option maxRecDepth 100000 in
theorem e_M_fillsWon_97 (d : Nat) (x0 : Nat) (x1 : Int32) (x2 : Int32) (x3 : Int32) (x5 : Int32) (x6 : Int32) (x7 : Int32) (x8 : Int32) (x9 : Int32) (s0 : Int32) (s1 : Int32) (s2 : Int32) (s3 : Int32) (s4 : Int32) (s5 : Option Nat) (h : sk_H) : k_M_fillsWon_97 d (some x0) x1 x2 x3 x5 x6 x7 x8 x9 s0 s1 s2 s3 s4 s5 h =
  Option.bind s5 fun a4 => if hK h a4 = 13 then
  Option.bind (c_M_canBe d s5 s4 s3 s2 s1 s0 h) fun q1 =>
  if ¬ q1.2 = 0 then
    if ¬ x6 = 0 then
      k_M_fillsWon_73 d (some x0) x1 x2 x3 x5 (1 : Int32) (0 : Int32) x8 (x9 + 1) q1.1
    else
      if hK q1.1 x0 = 13 then
      if hK q1.1 x0 = 13 then
      Option.bind (c_M_strokeBits d (some x0) x8 x9 q1.1) fun q2 =>
      Option.bind (hR q1.1 x0 22) fun a3 => if (hK q2.1 a3 = 103 ∨ hK q2.1 a3 = 104 ∨ hK q2.1 a3 = 204) ∧ sk_in (x5 &&& (q2.2 ^^^ ((-1) : Int32))) (hN q2.1 a3) then
      if ¬ (hI q2.1 a3 (x5 &&& (q2.2 ^^^ ((-1) : Int32))).toNatClampNeg) = 0 then
        k_M_fillsWon_73 d (some x0) x1 x2 x3 x5 (0 : Int32) (0 : Int32) x8 (x9 + 1) q2.1
      else
        k_M_fillsWon_73 d (some x0) x1 x2 x3 x5 (1 : Int32) (0 : Int32) x8 (x9 + 1) q2.1
      else none
      else none
      else none
  else
    k_M_fillsWon_73 d (some x0) x1 x2 x3 x5 x6 x7 x8 (x9 + 1) q1.1
  else none := (sk_XT_evL sk_rec t_V d 180 104 _ (fun _ => rfl)).trans rfl
set_option maxRecDepth 100000 in
theorem e_M_fillsNow (d : Nat) (x0 : Nat) (h : sk_H) : c_M_fillsNow d (some x0) h =
  if hK h x0 = 13 then
  Option.bind (hR h x0 20) fun a1 => if (hK h a1 = 101 ∨ hK h a1 = 201) ∧ sk_in (3 : Int32) (hN h a1) then
  if hK h x0 = 13 then
  Option.bind (hR h x0 20) fun a2 => if (hK h a2 = 101 ∨ hK h a2 = 201) ∧ sk_in (4 : Int32) (hN h a2) then
  if hK h x0 = 13 then
  Option.bind (hR h x0 20) fun a3 => if (hK h a3 = 101 ∨ hK h a3 = 201) ∧ sk_in (5 : Int32) (hN h a3) then
  if hK h x0 = 13 then
  Option.bind (c_M_fillsWon d (some x0) (hI h a1 (3 : Int32).toNatClampNeg) (hI h a2 (4 : Int32).toNatClampNeg) (hI h a3 (5 : Int32).toNatClampNeg) h) fun q4 =>
  some q4
  else none
  else none
  else none
  else none
  else none
  else none
  else none := (sk_XT_evL sk_rec t_V d 181 17 _ (fun _ => rfl)).trans rfl
set_option maxRecDepth 100000 in
theorem e_M_isWonAt (d : Nat) (x0 : Nat) (x1 : Int32) (h : sk_H) : c_M_isWonAt d (some x0) x1 h =
  if hK h x0 = 13 then
  Option.bind (c_M_fillsNow d (some x0) h) fun q1 =>
  if hK q1 x0 = 13 then
  Option.bind (hR q1 x0 22) fun a2 => if (hK q1 a2 = 103 ∨ hK q1 a2 = 104 ∨ hK q1 a2 = 204) ∧ sk_in x1 (hN q1 a2) then
  if (hI q1 a2 x1.toNatClampNeg) = 0 ∨ (hI q1 a2 x1.toNatClampNeg) = 1 then some (q1, hI q1 a2 x1.toNatClampNeg) else none
  else none
  else none
  else none := (sk_XT_evL sk_rec t_I d 182 9 _ (fun _ => rfl)).trans rfl
set_option maxRecDepth 100000 in
theorem e_M_winsBy (d : Nat) (x0 : Nat) (x1 : Int32) (x2 : Int32) (x3 : Int32) (h : sk_H) : c_M_winsBy d (some x0) x1 x2 x3 h =
  if hK h x0 = 13 then
  Option.bind (c_M_canBeNow d (some x0) x1 x2 x3 h) fun q1 =>
  if q1.2 = 0 then
    some (q1.1, (0 : Int32))
  else
    if hK q1.1 x0 = 13 then
    Option.bind (c_M_strokeBits d (some x0) x2 x3 q1.1) fun q2 =>
    if hK q2.1 x0 = 13 then
    Option.bind (c_M_isWonAt d (some x0) (x1 &&& (q2.2 ^^^ ((-1) : Int32))) q2.1) fun q3 =>
    if ¬ q3.2 = 0 then
      some (q3.1, (0 : Int32))
    else
      some (q3.1, (1 : Int32))
    else none
    else none
  else none := (sk_XT_evL sk_rec t_I d 183 23 _ (fun _ => rfl)).trans rfl
set_option maxRecDepth 100000 in
theorem e_M_isOverAt (d : Nat) (x0 : Nat) (x1 : Int32) (h : sk_H) : c_M_isOverAt d (some x0) x1 h =
  k_M_isOverAt_2 d (some x0) x1 (0 : Int32) h := (sk_XT_evL sk_rec t_I d 184 29 _ (fun _ => rfl)).trans rfl
set_option maxRecDepth 100000 in
theorem e_M_isOverAt_2 (d : Nat) (x0 : Nat) (x1 : Int32) (x2 : Int32) (h : sk_H) : k_M_isOverAt_2 d (some x0) x1 x2 h =
  if hK h x0 = 13 then
  Option.bind (hR h x0 20) fun a1 => if (hK h a1 = 101 ∨ hK h a1 = 201) ∧ sk_in (1 : Int32) (hN h a1) then
  if (hI h a1 (1 : Int32).toNatClampNeg) ≤ x2 then
    some (h, (1 : Int32))
  else
    k_M_isOverAt_14 d (some x0) x1 x2 (1 : Int32) h
  else none
  else none := (sk_XT_evL sk_rec t_I d 184 29 _ (fun _ => rfl)).trans rfl
set_option maxRecDepth 100000 in
theorem e_M_isOverAt_14 (d : Nat) (x0 : Nat) (x1 : Int32) (x2 : Int32) (x3 : Int32) (h : sk_H) : k_M_isOverAt_14 d (some x0) x1 x2 x3 h =
  if (4 : Int32) < x3 then
    k_M_isOverAt_2 d (some x0) x1 (x2 + 1) h
  else
    if hK h x0 = 13 then
    Option.bind (c_M_canBeNow d (some x0) x1 x2 x3 h) fun q1 =>
    if q1.2 = 0 then
      k_M_isOverAt_14 d (some x0) x1 x2 (x3 + 1) q1.1
    else
      some (q1.1, (0 : Int32))
    else none := (sk_XT_evL sk_rec t_I d 184 29 _ (fun _ => rfl)).trans rfl
set_option maxRecDepth 100000 in
theorem e_M_place (d : Nat) (x0 : Nat) (x1 : Int32) (x2 : Int32) (h : sk_H) : c_M_place d (some x0) x1 x2 h =
  if hK h x0 = 13 then
  Option.bind (c_M_isPlace d (some x0) x1 h) fun q1 =>
  if q1.2 = 0 then
    some (q1.1, ((-1) : Int32))
  else
    Option.bind (c_M_in d x2.toInt64 (0 : Int64) (3 : Int64) q1.1) fun q2 =>
    if ¬ q2.2 = 0 then
      if ¬ x2 = 0 then
        if ¬ x2 = (1 : Int32) then
          if ¬ x2 = (2 : Int32) then
            if hK q2.1 x0 = 13 then
            Option.bind (c_M_beside d (some x0) x1 (1 : Int32) q2.1) fun q3 =>
            some (q3.1, q3.2)
            else none
          else
            if hK q2.1 x0 = 13 then
            Option.bind (c_M_beside d (some x0) x1 ((-1) : Int32) q2.1) fun q4 =>
            some (q4.1, q4.2)
            else none
        else
          if hK q2.1 x0 = 13 then
          Option.bind (c_M_rowOf d (some x0) x1 q2.1) fun q5 =>
          some (q5.1, q5.2)
          else none
      else
        if hK q2.1 x0 = 13 then
        Option.bind (hR q2.1 x0 20) fun a6 => if (hK q2.1 a6 = 101 ∨ hK q2.1 a6 = 201) ∧ sk_in (8 : Int32) (hN q2.1 a6) then
        some (q2.1, ((hI q2.1 a6 (8 : Int32).toNatClampNeg) >>> (x1 &&& 31)) &&& (1 : Int32))
        else none
        else none
    else
      some (q2.1, ((-1) : Int32))
  else none := (sk_XT_evL sk_rec t_I d 185 42 _ (fun _ => rfl)).trans rfl
set_option maxRecDepth 100000 in
theorem e_M_can (d : Nat) (x0 : Nat) (x1 : Int32) (x2 : Int32) (h : sk_H) : c_M_can d (some x0) x1 x2 h =
  if hK h x0 = 13 then
  Option.bind (c_M_isAlley d (some x0) h) fun q1 =>
  if ¬ q1.2 = 0 then
    if hK q1.1 x0 = 13 then
    Option.bind (c_M_isPlace d (some x0) x1 q1.1) fun q2 =>
    if q2.2 = 0 then
      some (q2.1, (0 : Int32))
    else
      Option.bind (c_M_in d x2.toInt64 (1 : Int64) (4 : Int64) q2.1) fun q3 =>
      if q3.2 = 0 then
        some (q3.1, (0 : Int32))
      else
        if hK q3.1 x0 = 13 then
        Option.bind (hR q3.1 x0 20) fun a4 => if (hK q3.1 a4 = 101 ∨ hK q3.1 a4 = 201) ∧ sk_in (8 : Int32) (hN q3.1 a4) then
        if hK q3.1 x0 = 13 then
        Option.bind (c_M_canBeNow d (some x0) (hI q3.1 a4 (8 : Int32).toNatClampNeg) x1 x2 q3.1) fun q5 =>
        if ¬ q5.2 = 0 then
          if hK q5.1 x0 = 13 then
          Option.bind (hR q5.1 x0 20) fun a6 => if (hK q5.1 a6 = 101 ∨ hK q5.1 a6 = 201) ∧ sk_in (8 : Int32) (hN q5.1 a6) then
          if hK q5.1 x0 = 13 then
          Option.bind (c_M_winsBy d (some x0) (hI q5.1 a6 (8 : Int32).toNatClampNeg) x1 x2 q5.1) fun q7 =>
          if q7.2 = 0 then
            some (q7.1, (1 : Int32))
          else
            some (q7.1, (2 : Int32))
          else none
          else none
          else none
        else
          some (q5.1, (0 : Int32))
        else none
        else none
        else none
    else none
  else
    some (q1.1, ((-1) : Int32))
  else none := (sk_XT_evL sk_rec t_I d 186 41 _ (fun _ => rfl)).trans rfl
set_option maxRecDepth 100000 in
theorem e_M_keepsAct (d : Nat) (x0 : Nat) (h : sk_H) : c_M_keepsAct d (some x0) h =
  if hK h x0 = 13 then
  if ¬ (hI h x0 25) = (20 : Int32) then
    k_M_keepsAct_49 d (some x0) (0 : Int32) h
  else
    k_M_keepsAct_11 d (some x0) (4 : Int32) h
  else none := (sk_XT_evL sk_rec t_V d 187 58 _ (fun _ => rfl)).trans rfl
set_option maxRecDepth 100000 in
theorem e_M_keepsAct_11 (d : Nat) (x0 : Nat) (x1 : Int32) (h : sk_H) : k_M_keepsAct_11 d (some x0) x1 h =
  if (80 : Int32) ≤ x1 then
    if hK h x0 = 13 then
    if hK h x0 = 13 then
    let h1 := wI h x0 25 ((hI h x0 25) - (1 : Int32))
    k_M_keepsAct_49 d (some x0) (0 : Int32) h1
    else none
    else none
  else
    if hK h x0 = 13 then
    if hK h x0 = 13 then
    Option.bind (hR h x0 24) fun a2 => if (hK h a2 = 101 ∨ hK h a2 = 201) ∧ sk_in x1 (hN h a2) then
    Option.bind (hR h x0 24) fun a3 => if hK h a3 = 101 ∧ sk_in (x1 - (4 : Int32)) (hN h a3) then
    let h4 := wI h a3 (x1 - (4 : Int32)).toNatClampNeg (hI h a2 x1.toNatClampNeg)
    k_M_keepsAct_11 d (some x0) (x1 + 1) h4
    else none
    else none
    else none
    else none := (sk_XT_evL sk_rec t_V d 187 58 _ (fun _ => rfl)).trans rfl
set_option maxRecDepth 100000 in
theorem e_M_keepsAct_49 (d : Nat) (x0 : Nat) (x1 : Int32) (h : sk_H) : k_M_keepsAct_49 d (some x0) x1 h =
  if (4 : Int32) ≤ x1 then
    if hK h x0 = 13 then
    if hK h x0 = 13 then
    let h1 := wI h x0 25 ((hI h x0 25) + (1 : Int32))
    some h1
    else none
    else none
  else
    if hK h x0 = 13 then
    if hK h x0 = 13 then
    if hK h x0 = 13 then
    Option.bind (hR h x0 20) fun a2 => if (hK h a2 = 101 ∨ hK h a2 = 201) ∧ sk_in ((7 : Int32) + x1) (hN h a2) then
    Option.bind (hR h x0 24) fun a3 => if hK h a3 = 101 ∧ sk_in (((4 : Int32) * (hI h x0 25)) + x1) (hN h a3) then
    let h4 := wI h a3 (((4 : Int32) * (hI h x0 25)) + x1).toNatClampNeg (hI h a2 ((7 : Int32) + x1).toNatClampNeg)
    k_M_keepsAct_49 d (some x0) (x1 + 1) h4
    else none
    else none
    else none
    else none
    else none := (sk_XT_evL sk_rec t_V d 187 58 _ (fun _ => rfl)).trans rfl
set_option maxRecDepth 100000 in
theorem e_M_undo (d : Nat) (x0 : Nat) (h : sk_H) : c_M_undo d (some x0) h =
  if hK h x0 = 13 then
  if ¬ (hI h x0 25) = 0 then
    if hK h x0 = 13 then
    if hK h x0 = 13 then
    let h1 := wI h x0 25 ((hI h x0 25) - (1 : Int32))
    k_M_undo_21 d (some x0) (0 : Int32) h1
    else none
    else none
  else
    some (h, ((-1) : Int32))
  else none := (sk_XT_evL sk_rec t_I d 188 38 _ (fun _ => rfl)).trans rfl
set_option maxRecDepth 100000 in
theorem e_M_undo_21 (d : Nat) (x0 : Nat) (x1 : Int32) (h : sk_H) : k_M_undo_21 d (some x0) x1 h =
  if (4 : Int32) ≤ x1 then
    if hK h x0 = 13 then
    some (h, hI h x0 25)
    else none
  else
    if hK h x0 = 13 then
    if hK h x0 = 13 then
    if hK h x0 = 13 then
    Option.bind (hR h x0 24) fun a1 => if (hK h a1 = 101 ∨ hK h a1 = 201) ∧ sk_in (((4 : Int32) * (hI h x0 25)) + x1) (hN h a1) then
    Option.bind (hR h x0 20) fun a2 => if hK h a2 = 101 ∧ sk_in ((7 : Int32) + x1) (hN h a2) then
    let h3 := wI h a2 ((7 : Int32) + x1).toNatClampNeg (hI h a1 (((4 : Int32) * (hI h x0 25)) + x1).toNatClampNeg)
    k_M_undo_21 d (some x0) (x1 + 1) h3
    else none
    else none
    else none
    else none
    else none := (sk_XT_evL sk_rec t_I d 188 38 _ (fun _ => rfl)).trans rfl
set_option maxRecDepth 100000 in
theorem e_M_notes (d : Nat) (x0 : Nat) (x1 : Int32) (x2 : Int32) (h : sk_H) : c_M_notes d (some x0) x1 x2 h =
  if hK h x0 = 13 then
  Option.bind (hR h x0 20) fun a1 => if (hK h a1 = 101 ∨ hK h a1 = 201) ∧ sk_in (10 : Int32) (hN h a1) then
  if ¬ (hI h a1 (10 : Int32).toNatClampNeg) = (40 : Int32) then
    if hK h x0 = 13 then
    Option.bind (hR h x0 20) fun a2 => if (hK h a2 = 101 ∨ hK h a2 = 201) ∧ sk_in (10 : Int32) (hN h a2) then
    if hK h x0 = 13 then
    if hK h x0 = 13 then
    Option.bind (hR h x0 20) fun a3 => if (hK h a3 = 101 ∨ hK h a3 = 201) ∧ sk_in (7 : Int32) (hN h a3) then
    Option.bind (hR h x0 20) fun a4 => if hK h a4 = 101 ∧ sk_in ((24 : Int32) + ((4 : Int32) * (hI h a2 (10 : Int32).toNatClampNeg))) (hN h a4) then
    let h5 := wI h a4 ((24 : Int32) + ((4 : Int32) * (hI h a2 (10 : Int32).toNatClampNeg))).toNatClampNeg (hI h a3 (7 : Int32).toNatClampNeg)
    if hK h5 x0 = 13 then
    if hK h5 x0 = 13 then
    Option.bind (hR h5 x0 20) fun a6 => if (hK h5 a6 = 101 ∨ hK h5 a6 = 201) ∧ sk_in (8 : Int32) (hN h5 a6) then
    Option.bind (hR h5 x0 20) fun a7 => if hK h5 a7 = 101 ∧ sk_in (((24 : Int32) + ((4 : Int32) * (hI h a2 (10 : Int32).toNatClampNeg))) + (1 : Int32)) (hN h5 a7) then
    let h8 := wI h5 a7 (((24 : Int32) + ((4 : Int32) * (hI h a2 (10 : Int32).toNatClampNeg))) + (1 : Int32)).toNatClampNeg (hI h5 a6 (8 : Int32).toNatClampNeg)
    if hK h8 x0 = 13 then
    Option.bind (hR h8 x0 20) fun a9 => if hK h8 a9 = 101 ∧ sk_in (((24 : Int32) + ((4 : Int32) * (hI h a2 (10 : Int32).toNatClampNeg))) + (2 : Int32)) (hN h8 a9) then
    let h10 := wI h8 a9 (((24 : Int32) + ((4 : Int32) * (hI h a2 (10 : Int32).toNatClampNeg))) + (2 : Int32)).toNatClampNeg x1
    if hK h10 x0 = 13 then
    Option.bind (hR h10 x0 20) fun a11 => if hK h10 a11 = 101 ∧ sk_in (((24 : Int32) + ((4 : Int32) * (hI h a2 (10 : Int32).toNatClampNeg))) + (3 : Int32)) (hN h10 a11) then
    let h12 := wI h10 a11 (((24 : Int32) + ((4 : Int32) * (hI h a2 (10 : Int32).toNatClampNeg))) + (3 : Int32)).toNatClampNeg x2
    if hK h12 x0 = 13 then
    Option.bind (hR h12 x0 20) fun a13 => if (hK h12 a13 = 101 ∨ hK h12 a13 = 201) ∧ sk_in (10 : Int32) (hN h12 a13) then
    Option.bind (hR h12 x0 20) fun a14 => if hK h12 a14 = 101 ∧ sk_in (10 : Int32) (hN h12 a14) then
    let h15 := wI h12 a14 (10 : Int32).toNatClampNeg ((hI h12 a13 (10 : Int32).toNatClampNeg) + (1 : Int32))
    some h15
    else none
    else none
    else none
    else none
    else none
    else none
    else none
    else none
    else none
    else none
    else none
    else none
    else none
    else none
    else none
    else none
    else none
  else
    some h
  else none
  else none := (sk_XT_evL sk_rec t_V d 189 59 _ (fun _ => rfl)).trans rfl
set_option maxRecDepth 100000 in
theorem e_M_stroke (d : Nat) (x0 : Nat) (x1 : Int32) (x2 : Int32) (h : sk_H) : c_M_stroke d (some x0) x1 x2 h =
  if hK h x0 = 13 then
  Option.bind (c_M_isPlace d (some x0) x1 h) fun q1 =>
  if q1.2 = 0 then
    some (q1.1, ((-1) : Int32))
  else
    Option.bind (c_M_in d x2.toInt64 (1 : Int64) (4 : Int64) q1.1) fun q2 =>
    if q2.2 = 0 then
      some (q2.1, ((-1) : Int32))
    else
      if hK q2.1 x0 = 13 then
      Option.bind (hR q2.1 x0 20) fun a3 => if (hK q2.1 a3 = 101 ∨ hK q2.1 a3 = 201) ∧ sk_in (8 : Int32) (hN q2.1 a3) then
      if hK q2.1 x0 = 13 then
      Option.bind (c_M_canBeNow d (some x0) (hI q2.1 a3 (8 : Int32).toNatClampNeg) x1 x2 q2.1) fun q4 =>
      if ¬ q4.2 = 0 then
        if hK q4.1 x0 = 13 then
        Option.bind (c_M_keepsAct d (some x0) q4.1) fun q5 =>
        if hK q5 x0 = 13 then
        Option.bind (c_M_notes d (some x0) x1 x2 q5) fun q6 =>
        if hK q6 x0 = 13 then
        Option.bind (hR q6 x0 20) fun a7 => if (hK q6 a7 = 101 ∨ hK q6 a7 = 201) ∧ sk_in (8 : Int32) (hN q6 a7) then
        if hK q6 x0 = 13 then
        Option.bind (c_M_strokeBits d (some x0) x1 x2 q6) fun q8 =>
        Option.bind (hR q6 x0 20) fun a9 => if hK q8.1 a9 = 101 ∧ sk_in (8 : Int32) (hN q8.1 a9) then
        let h10 := wI q8.1 a9 (8 : Int32).toNatClampNeg ((hI q6 a7 (8 : Int32).toNatClampNeg) &&& (q8.2 ^^^ ((-1) : Int32)))
        if hK h10 x0 = 13 then
        if hK h10 x0 = 13 then
        Option.bind (hR h10 x0 20) fun a11 => if (hK h10 a11 = 101 ∨ hK h10 a11 = 201) ∧ sk_in (7 : Int32) (hN h10 a11) then
        Option.bind (hR h10 x0 20) fun a12 => if hK h10 a12 = 101 ∧ sk_in (7 : Int32) (hN h10 a12) then
        let h13 := wI h10 a12 (7 : Int32).toNatClampNeg ((1 : Int32) - (hI h10 a11 (7 : Int32).toNatClampNeg))
        if hK h13 x0 = 13 then
        Option.bind (hR h13 x0 20) fun a14 => if (hK h13 a14 = 101 ∨ hK h13 a14 = 201) ∧ sk_in (9 : Int32) (hN h13 a14) then
        Option.bind (hR h13 x0 20) fun a15 => if hK h13 a15 = 101 ∧ sk_in (9 : Int32) (hN h13 a15) then
        let h16 := wI h13 a15 (9 : Int32).toNatClampNeg ((hI h13 a14 (9 : Int32).toNatClampNeg) + (1 : Int32))
        if hK h16 x0 = 13 then
        Option.bind (hR h16 x0 20) fun a17 => if (hK h16 a17 = 101 ∨ hK h16 a17 = 201) ∧ sk_in (8 : Int32) (hN h16 a17) then
        Option.bind (c_M_bits d (hI h16 a17 (8 : Int32).toNatClampNeg) h16) fun q18 =>
        some (q18.1, q18.2)
        else none
        else none
        else none
        else none
        else none
        else none
        else none
        else none
        else none
        else none
        else none
        else none
        else none
        else none
        else none
      else
        some (q4.1, ((-1) : Int32))
      else none
      else none
      else none
  else none := (sk_XT_evL sk_rec t_I d 190 66 _ (fun _ => rfl)).trans rfl
set_option maxRecDepth 100000 in
theorem e_M_up (d : Nat) (x0 : Nat) (x1 : Int32) (h : sk_H) : c_M_up d (some x0) x1 h =
  if hK h x0 = 13 then
  Option.bind (c_M_isPlace d (some x0) x1 h) fun q1 =>
  if q1.2 = 0 then
    some (q1.1, ((-1) : Int32))
  else
    if hK q1.1 x0 = 13 then
    Option.bind (hR q1.1 x0 20) fun a2 => if (hK q1.1 a2 = 101 ∨ hK q1.1 a2 = 201) ∧ sk_in (8 : Int32) (hN q1.1 a2) then
    Option.bind (c_M_isOf d (hI q1.1 a2 (8 : Int32).toNatClampNeg) x1 q1.1) fun q3 =>
    if q3.2 = 0 then
      if hK q3.1 x0 = 13 then
      Option.bind (c_M_keepsAct d (some x0) q3.1) fun q4 =>
      if hK q4 x0 = 13 then
      Option.bind (hR q4 x0 20) fun a5 => if (hK q4 a5 = 101 ∨ hK q4 a5 = 201) ∧ sk_in (8 : Int32) (hN q4 a5) then
      Option.bind (hR q4 x0 20) fun a6 => if hK q4 a6 = 101 ∧ sk_in (8 : Int32) (hN q4 a6) then
      let h7 := wI q4 a6 (8 : Int32).toNatClampNeg ((hI q4 a5 (8 : Int32).toNatClampNeg) ||| ((1 : Int32) <<< (x1 &&& 31)))
      if hK h7 x0 = 13 then
      Option.bind (hR h7 x0 20) fun a8 => if (hK h7 a8 = 101 ∨ hK h7 a8 = 201) ∧ sk_in (8 : Int32) (hN h7 a8) then
      Option.bind (c_M_bits d (hI h7 a8 (8 : Int32).toNatClampNeg) h7) fun q9 =>
      some (q9.1, q9.2)
      else none
      else none
      else none
      else none
      else none
      else none
    else
      some (q3.1, ((-1) : Int32))
    else none
    else none
  else none := (sk_XT_evL sk_rec t_I d 191 33 _ (fun _ => rfl)).trans rfl
set_option maxRecDepth 100000 in
theorem e_M_pass (d : Nat) (x0 : Nat) (h : sk_H) : c_M_pass d (some x0) h =
  if hK h x0 = 13 then
  Option.bind (c_M_isAlley d (some x0) h) fun q1 =>
  if ¬ q1.2 = 0 then
    if hK q1.1 x0 = 13 then
    Option.bind (c_M_keepsAct d (some x0) q1.1) fun q2 =>
    if hK q2 x0 = 13 then
    if hK q2 x0 = 13 then
    Option.bind (hR q2 x0 20) fun a3 => if (hK q2 a3 = 101 ∨ hK q2 a3 = 201) ∧ sk_in (7 : Int32) (hN q2 a3) then
    Option.bind (hR q2 x0 20) fun a4 => if hK q2 a4 = 101 ∧ sk_in (7 : Int32) (hN q2 a4) then
    let h5 := wI q2 a4 (7 : Int32).toNatClampNeg ((1 : Int32) - (hI q2 a3 (7 : Int32).toNatClampNeg))
    if hK h5 x0 = 13 then
    Option.bind (hR h5 x0 20) fun a6 => if (hK h5 a6 = 101 ∨ hK h5 a6 = 201) ∧ sk_in (7 : Int32) (hN h5 a6) then
    some (h5, hI h5 a6 (7 : Int32).toNatClampNeg)
    else none
    else none
    else none
    else none
    else none
    else none
    else none
  else
    some (q1.1, ((-1) : Int32))
  else none := (sk_XT_evL sk_rec t_I d 192 24 _ (fun _ => rfl)).trans rfl
set_option maxRecDepth 100000 in
theorem e_M_won (d : Nat) (x0 : Nat) (h : sk_H) : c_M_won d (some x0) h =
  if hK h x0 = 13 then
  Option.bind (c_M_isAlley d (some x0) h) fun q1 =>
  if ¬ q1.2 = 0 then
    if hK q1.1 x0 = 13 then
    Option.bind (hR q1.1 x0 20) fun a2 => if (hK q1.1 a2 = 101 ∨ hK q1.1 a2 = 201) ∧ sk_in (8 : Int32) (hN q1.1 a2) then
    if hK q1.1 x0 = 13 then
    Option.bind (c_M_isWonAt d (some x0) (hI q1.1 a2 (8 : Int32).toNatClampNeg) q1.1) fun q3 =>
    if q3.2 = 0 then
      some (q3.1, (0 : Int32))
    else
      some (q3.1, (1 : Int32))
    else none
    else none
    else none
  else
    some (q1.1, ((-1) : Int32))
  else none := (sk_XT_evL sk_rec t_I d 193 18 _ (fun _ => rfl)).trans rfl
set_option maxRecDepth 100000 in
theorem e_M_wins (d : Nat) (x0 : Nat) (x1 : Int32) (h : sk_H) : c_M_wins d (some x0) x1 h =
  if hK h x0 = 13 then
  Option.bind (c_M_isAlley d (some x0) h) fun q1 =>
  if q1.2 = 0 then
    some (q1.1, ((-1) : Int32))
  else
    Option.bind (c_M_in d x1.toInt64 (0 : Int64) (2 : Int64) q1.1) fun q2 =>
    if ¬ q2.2 = 0 then
      if hK q2.1 x0 = 13 then
      Option.bind (hR q2.1 x0 20) fun a3 => if (hK q2.1 a3 = 101 ∨ hK q2.1 a3 = 201) ∧ sk_in (1 : Int32) (hN q2.1 a3) then
      k_M_wins_40 d (some x0) x1 (0 : Int32) ((-2) : Int32) ((-2) : Int32) ((hI q2.1 a3 (1 : Int32).toNatClampNeg) - (1 : Int32)) q2.1
      else none
      else none
    else
      some (q2.1, ((-1) : Int32))
  else none := (sk_XT_evL sk_rec t_I d 194 62 _ (fun _ => rfl)).trans rfl
set_option maxRecDepth 100000 in
theorem e_M_wins_40 (d : Nat) (x0 : Nat) (x1 : Int32) (x2 : Int32) (x3 : Int32) (x4 : Int32) (x5 : Int32) (h : sk_H) : k_M_wins_40 d (some x0) x1 x2 x3 x4 x5 h =
  if x5 < 0 then
    if ¬ x1 = 0 then
      if ¬ x1 = (1 : Int32) then
        some (h, x4)
      else
        some (h, x3)
    else
      some (h, x2)
  else
    k_M_wins_48 d (some x0) x1 x2 x3 x4 x5 (4 : Int32) h := (sk_XT_evL sk_rec t_I d 194 62 _ (fun _ => rfl)).trans rfl
set_option maxRecDepth 100000 in
theorem e_M_wins_48 (d : Nat) (x0 : Nat) (x1 : Int32) (x2 : Int32) (x3 : Int32) (x4 : Int32) (x5 : Int32) (x6 : Int32) (h : sk_H) : k_M_wins_48 d (some x0) x1 x2 x3 x4 x5 x6 h =
  if x6 ≤ 0 then
    k_M_wins_40 d (some x0) x1 x2 x3 x4 (x5 + (-1)) h
  else
    if hK h x0 = 13 then
    Option.bind (hR h x0 20) fun a1 => if (hK h a1 = 101 ∨ hK h a1 = 201) ∧ sk_in (8 : Int32) (hN h a1) then
    if hK h x0 = 13 then
    Option.bind (c_M_winsBy d (some x0) (hI h a1 (8 : Int32).toNatClampNeg) x5 x6 h) fun q2 =>
    if ¬ q2.2 = 0 then
      k_M_wins_48 d (some x0) x1 (x2 + 1) x5 x6 x5 (x6 + (-1)) q2.1
    else
      k_M_wins_48 d (some x0) x1 x2 x3 x4 x5 (x6 + (-1)) q2.1
    else none
    else none
    else none := (sk_XT_evL sk_rec t_I d 194 62 _ (fun _ => rfl)).trans rfl
set_option maxRecDepth 100000 in
theorem e_M_leastUnseen (d : Nat) (x0 : Nat) (h : sk_H) : c_M_leastUnseen d (some x0) h =
  k_M_leastUnseen_2 d (some x0) (0 : Int32) h := (sk_XT_evL sk_rec t_I d 195 13 _ (fun _ => rfl)).trans rfl
set_option maxRecDepth 100000 in
theorem e_M_leastUnseen_2 (d : Nat) (x0 : Nat) (x1 : Int32) (h : sk_H) : k_M_leastUnseen_2 d (some x0) x1 h =
  if hK h x0 = 13 then
  Option.bind (hR h x0 27) fun a1 => if (hK h a1 = 103 ∨ hK h a1 = 104 ∨ hK h a1 = 204) ∧ sk_in x1 (hN h a1) then
  if (hI h a1 x1.toNatClampNeg) = 0 then
    some (h, x1)
  else
    k_M_leastUnseen_2 d (some x0) (x1 + 1) h
  else none
  else none := (sk_XT_evL sk_rec t_I d 195 13 _ (fun _ => rfl)).trans rfl
set_option maxRecDepth 100000 in
theorem e_M_clearsSeen (d : Nat) (x0 : Nat) (h : sk_H) : c_M_clearsSeen d (some x0) h =
  k_M_clearsSeen_2 d (some x0) (0 : Int32) h := (sk_XT_evL sk_rec t_V d 196 15 _ (fun _ => rfl)).trans rfl
set_option maxRecDepth 100000 in
theorem e_M_clearsSeen_2 (d : Nat) (x0 : Nat) (x1 : Int32) (h : sk_H) : k_M_clearsSeen_2 d (some x0) x1 h =
  if (256 : Int32) ≤ x1 then
    some h
  else
    if hK h x0 = 13 then
    Option.bind (hR h x0 27) fun a1 => if (hK h a1 = 104 ∨ (hK h a1 = 103 ∧ ((0 : Int32) = 0 ∨ (0 : Int32) = 1))) ∧ sk_in x1 (hN h a1) then
    let h2 := wI h a1 x1.toNatClampNeg ((0 : Int32).toInt8.toInt32)
    k_M_clearsSeen_2 d (some x0) (x1 + 1) h2
    else none
    else none := (sk_XT_evL sk_rec t_V d 196 15 _ (fun _ => rfl)).trans rfl
set_option maxRecDepth 100000 in
theorem e_M_worth (d : Nat) (x0 : Nat) (x1 : Int32) (h : sk_H) : c_M_worth d (some x0) x1 h =
  if x1 < 0 then
    some (h, ((-1) : Int32))
  else
    if hK h x0 = 13 then
    Option.bind (hR h x0 20) fun a1 => if (hK h a1 = 101 ∨ hK h a1 = 201) ∧ sk_in (2 : Int32) (hN h a1) then
    if x1 < (hI h a1 (2 : Int32).toNatClampNeg) then
      if hK h x0 = 13 then
      Option.bind (hR h x0 20) fun a2 => if (hK h a2 = 101 ∨ hK h a2 = 201) ∧ sk_in ((12 : Int32) + x1) (hN h a2) then
      if hK h x0 = 13 then
      Option.bind (hR h x0 20) fun a3 => if (hK h a3 = 101 ∨ hK h a3 = 201) ∧ sk_in ((16 : Int32) + x1) (hN h a3) then
      k_M_worth_43 d (some x0) x1 (hI h a2 ((12 : Int32) + x1).toNatClampNeg) (((1 : Int32) <<< ((hI h a3 ((16 : Int32) + x1).toNatClampNeg) &&& 31)) - (1 : Int32)) (0 : Int32) h
      else none
      else none
      else none
      else none
    else
      some (h, ((-1) : Int32))
    else none
    else none := (sk_XT_evL sk_rec t_I d 197 105 _ (fun _ => rfl)).trans rfl
set_option maxRecDepth 100000 in
theorem e_M_worth_43 (d : Nat) (x0 : Nat) (x1 : Int32) (x2 : Int32) (x3 : Int32) (x4 : Int32) (h : sk_H) : k_M_worth_43 d (some x0) x1 x2 x3 x4 h =
  if x3 < x4 then
    if hK h x0 = 13 then
    if hK h x0 = 13 then
    Option.bind (hR h x0 20) fun a1 => if (hK h a1 = 101 ∨ hK h a1 = 201) ∧ sk_in (8 : Int32) (hN h a1) then
    Option.bind (hR h x0 26) fun a2 => if (hK h a2 = 101 ∨ hK h a2 = 201) ∧ sk_in (((hI h a1 (8 : Int32).toNatClampNeg) >>> (x2 &&& 31)) &&& x3) (hN h a2) then
    some (h, hI h a2 (((hI h a1 (8 : Int32).toNatClampNeg) >>> (x2 &&& 31)) &&& x3).toNatClampNeg)
    else none
    else none
    else none
    else none
  else
    if hK h x0 = 13 then
    Option.bind (c_M_clearsSeen d (some x0) h) fun q3 =>
    k_M_worth_62 d (some x0) x1 x2 x3 x4 (x4 <<< (x2 &&& 31)) x2 q3
    else none := (sk_XT_evL sk_rec t_I d 197 105 _ (fun _ => rfl)).trans rfl
set_option maxRecDepth 100000 in
theorem e_M_worth_62 (d : Nat) (x0 : Nat) (x1 : Int32) (x2 : Int32) (x3 : Int32) (x4 : Int32) (x5 : Int32) (x6 : Int32) (h : sk_H) : k_M_worth_62 d (some x0) x1 x2 x3 x4 x5 x6 h =
  if hK h x0 = 13 then
  Option.bind (hR h x0 20) fun a1 => if (hK h a1 = 101 ∨ hK h a1 = 201) ∧ sk_in ((16 : Int32) + x1) (hN h a1) then
  if (x2 + (hI h a1 ((16 : Int32) + x1).toNatClampNeg)) ≤ x6 then
    if hK h x0 = 13 then
    if hK h x0 = 13 then
    Option.bind (c_M_leastUnseen d (some x0) h) fun q2 =>
    Option.bind (hR h x0 26) fun a3 => if hK q2.1 a3 = 101 ∧ sk_in x4 (hN q2.1 a3) then
    let h4 := wI q2.1 a3 x4.toNatClampNeg q2.2
    k_M_worth_43 d (some x0) x1 x2 x3 (x4 + 1) h4
    else none
    else none
    else none
  else
    k_M_worth_81 d (some x0) x1 x2 x3 x4 x5 x6 (1 : Int32) h
  else none
  else none := (sk_XT_evL sk_rec t_I d 197 105 _ (fun _ => rfl)).trans rfl
set_option maxRecDepth 100000 in
theorem e_M_worth_81 (d : Nat) (x0 : Nat) (x1 : Int32) (x2 : Int32) (x3 : Int32) (x4 : Int32) (x5 : Int32) (x6 : Int32) (x7 : Int32) (h : sk_H) : k_M_worth_81 d (some x0) x1 x2 x3 x4 x5 x6 x7 h =
  if (4 : Int32) < x7 then
    k_M_worth_62 d (some x0) x1 x2 x3 x4 x5 (x6 + 1) h
  else
    if hK h x0 = 13 then
    Option.bind (c_M_canBeNow d (some x0) x5 x6 x7 h) fun q1 =>
    if q1.2 = 0 then
      k_M_worth_81 d (some x0) x1 x2 x3 x4 x5 x6 (x7 + 1) q1.1
    else
      if hK q1.1 x0 = 13 then
      if hK q1.1 x0 = 13 then
      if hK q1.1 x0 = 13 then
      Option.bind (c_M_strokeBits d (some x0) x6 x7 q1.1) fun q2 =>
      Option.bind (hR q1.1 x0 26) fun a3 => if (hK q2.1 a3 = 101 ∨ hK q2.1 a3 = 201) ∧ sk_in ((x5 &&& (q2.2 ^^^ ((-1) : Int32))) >>> (x2 &&& 31)) (hN q2.1 a3) then
      Option.bind (hR q1.1 x0 27) fun a4 => if (hK q2.1 a4 = 104 ∨ (hK q2.1 a4 = 103 ∧ ((1 : Int32) = 0 ∨ (1 : Int32) = 1))) ∧ sk_in (hI q2.1 a3 ((x5 &&& (q2.2 ^^^ ((-1) : Int32))) >>> (x2 &&& 31)).toNatClampNeg) (hN q2.1 a4) then
      let h5 := wI q2.1 a4 (hI q2.1 a3 ((x5 &&& (q2.2 ^^^ ((-1) : Int32))) >>> (x2 &&& 31)).toNatClampNeg).toNatClampNeg ((1 : Int32).toInt8.toInt32)
      k_M_worth_81 d (some x0) x1 x2 x3 x4 x5 x6 (x7 + 1) h5
      else none
      else none
      else none
      else none
      else none
    else none := (sk_XT_evL sk_rec t_I d 197 105 _ (fun _ => rfl)).trans rfl
set_option maxRecDepth 100000 in
theorem e_M_fillsPlains (d : Nat) (x0 : Nat) (h : sk_H) : c_M_fillsPlains d (some x0) h =
  k_M_fillsPlains_2 d (some x0) (0 : Int32) h := (sk_XT_evL sk_rec t_V d 198 82 _ (fun _ => rfl)).trans rfl
set_option maxRecDepth 100000 in
theorem e_M_fillsPlains_2 (d : Nat) (x0 : Nat) (x1 : Int32) (h : sk_H) : k_M_fillsPlains_2 d (some x0) x1 h =
  if (40 : Int32) < x1 then
    some h
  else
    if hK h x0 = 13 then
    Option.bind (c_M_clearsSeen d (some x0) h) fun q1 =>
    k_M_fillsPlains_14 d (some x0) x1 (1 : Int32) q1
    else none := (sk_XT_evL sk_rec t_V d 198 82 _ (fun _ => rfl)).trans rfl
set_option maxRecDepth 100000 in
theorem e_M_fillsPlains_14 (d : Nat) (x0 : Nat) (x1 : Int32) (x2 : Int32) (h : sk_H) : k_M_fillsPlains_14 d (some x0) x1 x2 h =
  if (4 : Int32) < x2 then
    if hK h x0 = 13 then
    if hK h x0 = 13 then
    Option.bind (c_M_leastUnseen d (some x0) h) fun q1 =>
    Option.bind (hR h x0 28) fun a2 => if hK q1.1 a2 = 101 ∧ sk_in x1 (hN q1.1 a2) then
    let h3 := wI q1.1 a2 x1.toNatClampNeg q1.2
    k_M_fillsPlains_2 d (some x0) (x1 + 1) h3
    else none
    else none
    else none
  else
    if x1 < x2 then
      if hK h x0 = 13 then
      if hK h x0 = 13 then
      Option.bind (c_M_leastUnseen d (some x0) h) fun q4 =>
      Option.bind (hR h x0 28) fun a5 => if hK q4.1 a5 = 101 ∧ sk_in x1 (hN q4.1 a5) then
      let h6 := wI q4.1 a5 x1.toNatClampNeg q4.2
      k_M_fillsPlains_2 d (some x0) (x1 + 1) h6
      else none
      else none
      else none
    else
      if hK h x0 = 13 then
      Option.bind (hR h x0 20) fun a7 => if (hK h a7 = 101 ∨ hK h a7 = 201) ∧ sk_in (3 : Int32) (hN h a7) then
      Option.bind (c_M_isOf d (hI h a7 (3 : Int32).toNatClampNeg) (x2 - (1 : Int32)) h) fun q8 =>
      if ¬ q8.2 = 0 then
        k_M_fillsPlains_44 d (some x0) x1 x2 (0 : Int32) q8.1
      else
        k_M_fillsPlains_14 d (some x0) x1 (x2 + 1) q8.1
      else none
      else none := (sk_XT_evL sk_rec t_V d 198 82 _ (fun _ => rfl)).trans rfl
set_option maxRecDepth 100000 in
theorem e_M_fillsPlains_44 (d : Nat) (x0 : Nat) (x1 : Int32) (x2 : Int32) (x3 : Int32) (h : sk_H) : k_M_fillsPlains_44 d (some x0) x1 x2 x3 h =
  if (x1 - x2) < x3 then
    k_M_fillsPlains_14 d (some x0) x1 (x2 + 1) h
  else
    if x3 = 0 then
      if hK h x0 = 13 then
      Option.bind (hR h x0 20) fun a1 => if (hK h a1 = 101 ∨ hK h a1 = 201) ∧ sk_in (4 : Int32) (hN h a1) then
      if (hI h a1 (4 : Int32).toNatClampNeg) = 0 then
        k_M_fillsPlains_83 d (some x0) x1 x2 x3 h
      else
        if (1 : Int32) = 0 then
          k_M_fillsPlains_44 d (some x0) x1 x2 (x3 + 1) h
        else
          k_M_fillsPlains_83 d (some x0) x1 x2 x3 h
      else none
      else none
    else
      if ¬ x3 = (x1 - x2) then
        if hK h x0 = 13 then
        Option.bind (hR h x0 20) fun a2 => if (hK h a2 = 101 ∨ hK h a2 = 201) ∧ sk_in (4 : Int32) (hN h a2) then
        if (hI h a2 (4 : Int32).toNatClampNeg) = 0 then
          k_M_fillsPlains_83 d (some x0) x1 x2 x3 h
        else
          if (0 : Int32) = 0 then
            k_M_fillsPlains_44 d (some x0) x1 x2 (x3 + 1) h
          else
            k_M_fillsPlains_83 d (some x0) x1 x2 x3 h
        else none
        else none
      else
        if hK h x0 = 13 then
        Option.bind (hR h x0 20) fun a3 => if (hK h a3 = 101 ∨ hK h a3 = 201) ∧ sk_in (4 : Int32) (hN h a3) then
        if (hI h a3 (4 : Int32).toNatClampNeg) = 0 then
          k_M_fillsPlains_83 d (some x0) x1 x2 x3 h
        else
          if (1 : Int32) = 0 then
            k_M_fillsPlains_44 d (some x0) x1 x2 (x3 + 1) h
          else
            k_M_fillsPlains_83 d (some x0) x1 x2 x3 h
        else none
        else none := (sk_XT_evL sk_rec t_V d 198 82 _ (fun _ => rfl)).trans rfl
set_option maxRecDepth 100000 in
theorem e_M_fillsPlains_83 (d : Nat) (x0 : Nat) (x1 : Int32) (x2 : Int32) (x3 : Int32) (h : sk_H) : k_M_fillsPlains_83 d (some x0) x1 x2 x3 h =
  if hK h x0 = 13 then
  if hK h x0 = 13 then
  Option.bind (hR h x0 28) fun a1 => if (hK h a1 = 101 ∨ hK h a1 = 201) ∧ sk_in x3 (hN h a1) then
  if hK h x0 = 13 then
  Option.bind (hR h x0 28) fun a2 => if (hK h a2 = 101 ∨ hK h a2 = 201) ∧ sk_in ((x1 - x2) - x3) (hN h a2) then
  Option.bind (hR h x0 27) fun a3 => if (hK h a3 = 104 ∨ (hK h a3 = 103 ∧ ((1 : Int32) = 0 ∨ (1 : Int32) = 1))) ∧ sk_in ((hI h a1 x3.toNatClampNeg) ^^^ (hI h a2 ((x1 - x2) - x3).toNatClampNeg)) (hN h a3) then
  let h4 := wI h a3 ((hI h a1 x3.toNatClampNeg) ^^^ (hI h a2 ((x1 - x2) - x3).toNatClampNeg)).toNatClampNeg ((1 : Int32).toInt8.toInt32)
  k_M_fillsPlains_44 d (some x0) x1 x2 (x3 + 1) h4
  else none
  else none
  else none
  else none
  else none
  else none := (sk_XT_evL sk_rec t_V d 198 82 _ (fun _ => rfl)).trans rfl
set_option maxRecDepth 100000 in
theorem e_M_plain (d : Nat) (x0 : Nat) (x1 : Int32) (h : sk_H) : c_M_plain d (some x0) x1 h =
  if hK h x0 = 13 then
  Option.bind (c_M_isAlley d (some x0) h) fun q1 =>
  if q1.2 = 0 then
    some (q1.1, ((-1) : Int32))
  else
    Option.bind (c_M_in d x1.toInt64 (0 : Int64) (40 : Int64) q1.1) fun q2 =>
    if ¬ q2.2 = 0 then
      if hK q2.1 x0 = 13 then
      Option.bind (c_M_fillsPlains d (some x0) q2.1) fun q3 =>
      if hK q3 x0 = 13 then
      Option.bind (hR q3 x0 28) fun a4 => if (hK q3 a4 = 101 ∨ hK q3 a4 = 201) ∧ sk_in x1 (hN q3 a4) then
      some (q3, hI q3 a4 x1.toNatClampNeg)
      else none
      else none
      else none
    else
      some (q2.1, ((-1) : Int32))
  else none := (sk_XT_evL sk_rec t_I d 199 20 _ (fun _ => rfl)).trans rfl
set_option maxRecDepth 100000 in
theorem e_M_comesAgain (d : Nat) (x0 : Nat) (x1 : Int32) (x2 : Int32) (h : sk_H) : c_M_comesAgain d (some x0) x1 x2 h =
  k_M_comesAgain_2 d (some x0) x1 x2 h := (sk_XT_evL sk_rec t_I d 200 26 _ (fun _ => rfl)).trans rfl
set_option maxRecDepth 100000 in
theorem e_M_comesAgain_2 (d : Nat) (x0 : Nat) (x1 : Int32) (x3 : Int32) (h : sk_H) : k_M_comesAgain_2 d (some x0) x1 x3 h =
  if (40 : Int32) < (x3 + x1) then
    some (h, (1 : Int32))
  else
    if hK h x0 = 13 then
    Option.bind (hR h x0 28) fun a1 => if (hK h a1 = 101 ∨ hK h a1 = 201) ∧ sk_in x3 (hN h a1) then
    if hK h x0 = 13 then
    Option.bind (hR h x0 28) fun a2 => if (hK h a2 = 101 ∨ hK h a2 = 201) ∧ sk_in (x3 + x1) (hN h a2) then
    if (hI h a1 x3.toNatClampNeg) = (hI h a2 (x3 + x1).toNatClampNeg) then
      k_M_comesAgain_2 d (some x0) x1 (x3 + 1) h
    else
      some (h, (0 : Int32))
    else none
    else none
    else none
    else none := (sk_XT_evL sk_rec t_I d 200 26 _ (fun _ => rfl)).trans rfl
set_option maxRecDepth 100000 in
theorem e_M_again (d : Nat) (x0 : Nat) (x1 : Int32) (h : sk_H) : c_M_again d (some x0) x1 h =
  if hK h x0 = 13 then
  Option.bind (c_M_isAlley d (some x0) h) fun q1 =>
  if q1.2 = 0 then
    some (q1.1, ((-1) : Int32))
  else
    Option.bind (c_M_in d x1.toInt64 (0 : Int64) (1 : Int64) q1.1) fun q2 =>
    if ¬ q2.2 = 0 then
      if hK q2.1 x0 = 13 then
      Option.bind (c_M_fillsPlains d (some x0) q2.1) fun q3 =>
      k_M_again_25 d (some x0) x1 (1 : Int32) q3
      else none
    else
      some (q2.1, ((-1) : Int32))
  else none := (sk_XT_evL sk_rec t_I d 201 46 _ (fun _ => rfl)).trans rfl
set_option maxRecDepth 100000 in
theorem e_M_again_25 (d : Nat) (x0 : Nat) (x1 : Int32) (x2 : Int32) (h : sk_H) : k_M_again_25 d (some x0) x1 x2 h =
  if (20 : Int32) < x2 then
    some (h, ((-2) : Int32))
  else
    k_M_again_33 d (some x0) x1 x2 (0 : Int32) h := (sk_XT_evL sk_rec t_I d 201 46 _ (fun _ => rfl)).trans rfl
set_option maxRecDepth 100000 in
theorem e_M_again_33 (d : Nat) (x0 : Nat) (x1 : Int32) (x2 : Int32) (x3 : Int32) (h : sk_H) : k_M_again_33 d (some x0) x1 x2 x3 h =
  if (40 : Int32) < (x3 + ((2 : Int32) * x2)) then
    k_M_again_25 d (some x0) x1 (x2 + 1) h
  else
    if hK h x0 = 13 then
    Option.bind (c_M_comesAgain d (some x0) x2 x3 h) fun q1 =>
    if q1.2 = 0 then
      k_M_again_33 d (some x0) x1 x2 (x3 + 1) q1.1
    else
      if ¬ x1 = 0 then
        some (q1.1, x3)
      else
        some (q1.1, x2)
    else none := (sk_XT_evL sk_rec t_I d 201 46 _ (fun _ => rfl)).trans rfl
set_option maxRecDepth 100000 in
theorem e_M_lastsAt (d : Nat) (x0 : Nat) (x1 : Int32) (h : sk_H) : c_M_lastsAt d (some x0) x1 h =
  k_M_lastsAt_7 d (some x0) x1 ((-1) : Int32) (0 : Int32) (0 : Int32) h := (sk_XT_evL sk_rec t_I d 202 71 _ (fun _ => rfl)).trans rfl
set_option maxRecDepth 100000 in
theorem e_M_lastsAt_7 (d : Nat) (x0 : Nat) (x1 : Int32) (x2 : Int32) (x3 : Int32) (x4 : Int32) (h : sk_H) : k_M_lastsAt_7 d (some x0) x1 x2 x3 x4 h =
  if hK h x0 = 13 then
  Option.bind (hR h x0 20) fun a1 => if (hK h a1 = 101 ∨ hK h a1 = 201) ∧ sk_in (1 : Int32) (hN h a1) then
  if (hI h a1 (1 : Int32).toNatClampNeg) ≤ x4 then
    if x2 ≤ 0 then
      some (h, x3)
    else
      some (h, x2)
  else
    k_M_lastsAt_21 d (some x0) x1 x2 x3 x4 (1 : Int32) h
  else none
  else none := (sk_XT_evL sk_rec t_I d 202 71 _ (fun _ => rfl)).trans rfl
set_option maxRecDepth 100000 in
theorem e_M_lastsAt_21 (d : Nat) (x0 : Nat) (x1 : Int32) (x2 : Int32) (x3 : Int32) (x4 : Int32) (x5 : Int32) (h : sk_H) : k_M_lastsAt_21 d (some x0) x1 x2 x3 x4 x5 h =
  if (4 : Int32) < x5 then
    k_M_lastsAt_7 d (some x0) x1 x2 x3 (x4 + 1) h
  else
    if hK h x0 = 13 then
    Option.bind (c_M_canBeNow d (some x0) x1 x4 x5 h) fun q1 =>
    if ¬ q1.2 = 0 then
      if hK q1.1 x0 = 13 then
      Option.bind (c_M_strokeBits d (some x0) x4 x5 q1.1) fun q2 =>
      if hK q2.1 x0 = 13 then
      Option.bind (hR q2.1 x0 29) fun a3 => if (hK q2.1 a3 = 101 ∨ hK q2.1 a3 = 201) ∧ sk_in (x1 &&& (q2.2 ^^^ ((-1) : Int32))) (hN q2.1 a3) then
      if ((hI q2.1 a3 (x1 &&& (q2.2 ^^^ ((-1) : Int32))).toNatClampNeg) + (1 : Int32)) ≤ x3 then
        k_M_lastsAt_79 d (some x0) x1 x2 x4 x5 (x1 &&& (q2.2 ^^^ ((-1) : Int32))) ((hI q2.1 a3 (x1 &&& (q2.2 ^^^ ((-1) : Int32))).toNatClampNeg) + (1 : Int32)) x3 q2.1
      else
        k_M_lastsAt_79 d (some x0) x1 x2 x4 x5 (x1 &&& (q2.2 ^^^ ((-1) : Int32))) ((hI q2.1 a3 (x1 &&& (q2.2 ^^^ ((-1) : Int32))).toNatClampNeg) + (1 : Int32)) ((hI q2.1 a3 (x1 &&& (q2.2 ^^^ ((-1) : Int32))).toNatClampNeg) + (1 : Int32)) q2.1
      else none
      else none
      else none
    else
      k_M_lastsAt_21 d (some x0) x1 x2 x3 x4 (x5 + 1) q1.1
    else none := (sk_XT_evL sk_rec t_I d 202 71 _ (fun _ => rfl)).trans rfl
set_option maxRecDepth 100000 in
theorem e_M_lastsAt_79 (d : Nat) (x0 : Nat) (x1 : Int32) (x2 : Int32) (x4 : Int32) (x5 : Int32) (x6 : Int32) (x7 : Int32) (s0 : Int32) (h : sk_H) : k_M_lastsAt_79 d (some x0) x1 x2 x4 x5 x6 x7 s0 h =
  if hK h x0 = 13 then
  Option.bind (hR h x0 22) fun a1 => if (hK h a1 = 103 ∨ hK h a1 = 104 ∨ hK h a1 = 204) ∧ sk_in x6 (hN h a1) then
  if ¬ (hI h a1 x6.toNatClampNeg) = 0 then
    k_M_lastsAt_21 d (some x0) x1 x2 s0 x4 (x5 + 1) h
  else
    if x2 < 0 then
      k_M_lastsAt_21 d (some x0) x1 x7 s0 x4 (x5 + 1) h
    else
      if x2 ≤ x7 then
        k_M_lastsAt_21 d (some x0) x1 x2 s0 x4 (x5 + 1) h
      else
        k_M_lastsAt_21 d (some x0) x1 x7 s0 x4 (x5 + 1) h
  else none
  else none := (sk_XT_evL sk_rec t_I d 202 71 _ (fun _ => rfl)).trans rfl
set_option maxRecDepth 100000 in
theorem e_M_lasts (d : Nat) (x0 : Nat) (h : sk_H) : c_M_lasts d (some x0) h =
  if hK h x0 = 13 then
  Option.bind (c_M_isAlley d (some x0) h) fun q1 =>
  if ¬ q1.2 = 0 then
    if hK q1.1 x0 = 13 then
    Option.bind (c_M_fillsNow d (some x0) q1.1) fun q2 =>
    k_M_lasts_15 d (some x0) (0 : Int32) q2
    else none
  else
    some (q1.1, ((-1) : Int32))
  else none := (sk_XT_evL sk_rec t_I d 203 34 _ (fun _ => rfl)).trans rfl
set_option maxRecDepth 100000 in
theorem e_M_lasts_15 (d : Nat) (x0 : Nat) (x1 : Int32) (h : sk_H) : k_M_lasts_15 d (some x0) x1 h =
  if hK h x0 = 13 then
  Option.bind (hR h x0 20) fun a1 => if (hK h a1 = 101 ∨ hK h a1 = 201) ∧ sk_in (8 : Int32) (hN h a1) then
  if (hI h a1 (8 : Int32).toNatClampNeg) < x1 then
    if hK h x0 = 13 then
    if hK h x0 = 13 then
    Option.bind (hR h x0 20) fun a2 => if (hK h a2 = 101 ∨ hK h a2 = 201) ∧ sk_in (8 : Int32) (hN h a2) then
    Option.bind (hR h x0 29) fun a3 => if (hK h a3 = 101 ∨ hK h a3 = 201) ∧ sk_in (hI h a2 (8 : Int32).toNatClampNeg) (hN h a3) then
    some (h, hI h a3 (hI h a2 (8 : Int32).toNatClampNeg).toNatClampNeg)
    else none
    else none
    else none
    else none
  else
    if hK h x0 = 13 then
    if hK h x0 = 13 then
    Option.bind (c_M_lastsAt d (some x0) x1 h) fun q4 =>
    Option.bind (hR h x0 29) fun a5 => if hK q4.1 a5 = 101 ∧ sk_in x1 (hN q4.1 a5) then
    let h6 := wI q4.1 a5 x1.toNatClampNeg q4.2
    k_M_lasts_15 d (some x0) (x1 + 1) h6
    else none
    else none
    else none
  else none
  else none := (sk_XT_evL sk_rec t_I d 203 34 _ (fun _ => rfl)).trans rfl
set_option maxRecDepth 100000 in
theorem e_M_playsAt (d : Nat) (x0 : Nat) (x1 : Int32) (h : sk_H) : c_M_playsAt d (some x0) x1 h =
  k_M_playsAt_8 d (some x0) x1 (0 : Int64) (1 : Int32) (0 : Int32) h := (sk_XT_evL sk_rec t_I d 204 56 _ (fun _ => rfl)).trans rfl
set_option maxRecDepth 100000 in
theorem e_M_playsAt_8 (d : Nat) (x0 : Nat) (x1 : Int32) (x2 : Int64) (x4 : Int32) (x5 : Int32) (h : sk_H) : k_M_playsAt_8 d (some x0) x1 x2 x4 x5 h =
  if hK h x0 = 13 then
  Option.bind (hR h x0 20) fun a1 => if (hK h a1 = 101 ∨ hK h a1 = 201) ∧ sk_in (1 : Int32) (hN h a1) then
  if (hI h a1 (1 : Int32).toNatClampNeg) ≤ x5 then
    if x4 = 0 then
      if ¬ (1000000007 : Int64) = 0 then
      some (h, (x2 - x2 / (1000000007 : Int64) * (1000000007 : Int64)).toInt32)
      else none
    else
      some (h, (1 : Int32))
  else
    k_M_playsAt_22 d (some x0) x1 x2 x4 x5 (1 : Int32) h
  else none
  else none := (sk_XT_evL sk_rec t_I d 204 56 _ (fun _ => rfl)).trans rfl
set_option maxRecDepth 100000 in
theorem e_M_playsAt_22 (d : Nat) (x0 : Nat) (x1 : Int32) (x2 : Int64) (x4 : Int32) (x5 : Int32) (x6 : Int32) (h : sk_H) : k_M_playsAt_22 d (some x0) x1 x2 x4 x5 x6 h =
  if (4 : Int32) < x6 then
    k_M_playsAt_8 d (some x0) x1 x2 x4 (x5 + 1) h
  else
    if hK h x0 = 13 then
    Option.bind (c_M_canBeNow d (some x0) x1 x5 x6 h) fun q1 =>
    if ¬ q1.2 = 0 then
      if hK q1.1 x0 = 13 then
      if hK q1.1 x0 = 13 then
      Option.bind (c_M_strokeBits d (some x0) x5 x6 q1.1) fun q2 =>
      Option.bind (hR q1.1 x0 29) fun a3 => if (hK q2.1 a3 = 101 ∨ hK q2.1 a3 = 201) ∧ sk_in (x1 &&& (q2.2 ^^^ ((-1) : Int32))) (hN q2.1 a3) then
      k_M_playsAt_22 d (some x0) x1 (x2 + ((hI q2.1 a3 (x1 &&& (q2.2 ^^^ ((-1) : Int32))).toNatClampNeg).toInt64)) (0 : Int32) x5 (x6 + 1) q2.1
      else none
      else none
      else none
    else
      k_M_playsAt_22 d (some x0) x1 x2 x4 x5 (x6 + 1) q1.1
    else none := (sk_XT_evL sk_rec t_I d 204 56 _ (fun _ => rfl)).trans rfl
set_option maxRecDepth 100000 in
theorem e_M_plays (d : Nat) (x0 : Nat) (h : sk_H) : c_M_plays d (some x0) h =
  if hK h x0 = 13 then
  Option.bind (c_M_isAlley d (some x0) h) fun q1 =>
  if ¬ q1.2 = 0 then
    k_M_plays_11 d (some x0) (0 : Int32) q1.1
  else
    some (q1.1, ((-1) : Int32))
  else none := (sk_XT_evL sk_rec t_I d 205 32 _ (fun _ => rfl)).trans rfl
set_option maxRecDepth 100000 in
theorem e_M_plays_11 (d : Nat) (x0 : Nat) (x1 : Int32) (h : sk_H) : k_M_plays_11 d (some x0) x1 h =
  if hK h x0 = 13 then
  Option.bind (hR h x0 20) fun a1 => if (hK h a1 = 101 ∨ hK h a1 = 201) ∧ sk_in (8 : Int32) (hN h a1) then
  if (hI h a1 (8 : Int32).toNatClampNeg) < x1 then
    if hK h x0 = 13 then
    if hK h x0 = 13 then
    Option.bind (hR h x0 20) fun a2 => if (hK h a2 = 101 ∨ hK h a2 = 201) ∧ sk_in (8 : Int32) (hN h a2) then
    Option.bind (hR h x0 29) fun a3 => if (hK h a3 = 101 ∨ hK h a3 = 201) ∧ sk_in (hI h a2 (8 : Int32).toNatClampNeg) (hN h a3) then
    some (h, hI h a3 (hI h a2 (8 : Int32).toNatClampNeg).toNatClampNeg)
    else none
    else none
    else none
    else none
  else
    if hK h x0 = 13 then
    if hK h x0 = 13 then
    Option.bind (c_M_playsAt d (some x0) x1 h) fun q4 =>
    Option.bind (hR h x0 29) fun a5 => if hK q4.1 a5 = 101 ∧ sk_in x1 (hN q4.1 a5) then
    let h6 := wI q4.1 a5 x1.toNatClampNeg q4.2
    k_M_plays_11 d (some x0) (x1 + 1) h6
    else none
    else none
    else none
  else none
  else none := (sk_XT_evL sk_rec t_I d 205 32 _ (fun _ => rfl)).trans rfl
set_option maxRecDepth 100000 in
theorem e_M_fair (d : Nat) (x0 : Nat) (x1 : Int32) (h : sk_H) : c_M_fair d (some x0) x1 h =
  if hK h x0 = 13 then
  Option.bind (c_M_isAlley d (some x0) h) fun q1 =>
  if q1.2 = 0 then
    some (q1.1, ((-1) : Int32))
  else
    Option.bind (c_M_in d x1.toInt64 (0 : Int64) (1 : Int64) q1.1) fun q2 =>
    if ¬ q2.2 = 0 then
      if hK q2.1 x0 = 13 then
      Option.bind (hR q2.1 x0 20) fun a3 => if (hK q2.1 a3 = 101 ∨ hK q2.1 a3 = 201) ∧ sk_in (8 : Int32) (hN q2.1 a3) then
      if hK q2.1 x0 = 13 then
      Option.bind (c_M_isWonAt d (some x0) (hI q2.1 a3 (8 : Int32).toNatClampNeg) q2.1) fun q4 =>
      k_M_fair_36 d (some x0) x1 q4.2 ((-1) : Int32) (1 : Int32) q4.1
      else none
      else none
      else none
    else
      some (q2.1, ((-1) : Int32))
  else none := (sk_XT_evL sk_rec t_I d 206 75 _ (fun _ => rfl)).trans rfl
set_option maxRecDepth 100000 in
theorem e_M_fair_36 (d : Nat) (x0 : Nat) (x1 : Int32) (x2 : Int32) (x3 : Int32) (x4 : Int32) (h : sk_H) : k_M_fair_36 d (some x0) x1 x2 x3 x4 h =
  if hK h x0 = 13 then
  Option.bind (hR h x0 20) fun a1 => if (hK h a1 = 101 ∨ hK h a1 = 201) ∧ sk_in (8 : Int32) (hN h a1) then
  if (hI h a1 (8 : Int32).toNatClampNeg) < x4 then
    if 0 ≤ x3 then
      if ¬ x1 = 0 then
        some (h, x3)
      else
        Option.bind (c_M_bits d x3 h) fun q2 =>
        some (q2.1, q2.2)
    else
      some (h, ((-2) : Int32))
  else
    if hK h x0 = 13 then
    Option.bind (hR h x0 20) fun a3 => if (hK h a3 = 101 ∨ hK h a3 = 201) ∧ sk_in (8 : Int32) (hN h a3) then
    if ¬ (x4 &&& ((hI h a3 (8 : Int32).toNatClampNeg) ^^^ ((-1) : Int32))) = 0 then
      k_M_fair_36 d (some x0) x1 x2 x3 (x4 + 1) h
    else
      if x3 < 0 then
        k_M_fair_82 d (some x0) x1 x2 x3 x4 h
      else
        Option.bind (c_M_bits d x4 h) fun q4 =>
        Option.bind (c_M_bits d x3 q4.1) fun q5 =>
        if q4.2 < q5.2 then
          k_M_fair_82 d (some x0) x1 x2 x3 x4 q5.1
        else
          k_M_fair_36 d (some x0) x1 x2 x3 (x4 + 1) q5.1
    else none
    else none
  else none
  else none := (sk_XT_evL sk_rec t_I d 206 75 _ (fun _ => rfl)).trans rfl
set_option maxRecDepth 100000 in
theorem e_M_fair_82 (d : Nat) (x0 : Nat) (x1 : Int32) (x2 : Int32) (x3 : Int32) (x4 : Int32) (h : sk_H) : k_M_fair_82 d (some x0) x1 x2 x3 x4 h =
  if hK h x0 = 13 then
  if hK h x0 = 13 then
  Option.bind (hR h x0 20) fun a1 => if (hK h a1 = 101 ∨ hK h a1 = 201) ∧ sk_in (8 : Int32) (hN h a1) then
  Option.bind (hR h x0 22) fun a2 => if (hK h a2 = 103 ∨ hK h a2 = 104 ∨ hK h a2 = 204) ∧ sk_in ((hI h a1 (8 : Int32).toNatClampNeg) &&& (x4 ^^^ ((-1) : Int32))) (hN h a2) then
  if (hI h a2 ((hI h a1 (8 : Int32).toNatClampNeg) &&& (x4 ^^^ ((-1) : Int32))).toNatClampNeg) = x2 then
    k_M_fair_36 d (some x0) x1 x2 x3 (x4 + 1) h
  else
    k_M_fair_36 d (some x0) x1 x2 x4 (x4 + 1) h
  else none
  else none
  else none
  else none := (sk_XT_evL sk_rec t_I d 206 75 _ (fun _ => rfl)).trans rfl
set_option maxRecDepth 100000 in
theorem e_M_strayed (d : Nat) (x0 : Nat) (x1 : Int32) (x2 : Int32) (x3 : Int32) (h : sk_H) : c_M_strayed d (some x0) x1 x2 x3 h =
  if hK h x0 = 13 then
  Option.bind (c_M_lastOf d (some x0) x2 x3 h) fun q1 =>
  if hK q1.1 x0 = 13 then
  Option.bind (c_M_beside d (some x0) q1.2 (1 : Int32) q1.1) fun q2 =>
  if 0 ≤ q2.2 then
    some (q2.1, x1 &&& (((1 : Int32) <<< (q2.2 &&& 31)) ^^^ ((-1) : Int32)))
  else
    some (q2.1, x1)
  else none
  else none := (sk_XT_evL sk_rec t_I d 207 22 _ (fun _ => rfl)).trans rfl
set_option maxRecDepth 100000 in
theorem e_M_chanceAt (d : Nat) (x0 : Nat) (x1 : Int32) (h : sk_H) : c_M_chanceAt d (some x0) x1 h =
  k_M_chanceAt_4 d (some x0) x1 ((-1) : Int32) (0 : Int32) h := (sk_XT_evL sk_rec t_I d 208 90 _ (fun _ => rfl)).trans rfl
set_option maxRecDepth 100000 in
theorem e_M_chanceAt_4 (d : Nat) (x0 : Nat) (x1 : Int32) (x2 : Int32) (x3 : Int32) (h : sk_H) : k_M_chanceAt_4 d (some x0) x1 x2 x3 h =
  if hK h x0 = 13 then
  Option.bind (hR h x0 20) fun a1 => if (hK h a1 = 101 ∨ hK h a1 = 201) ∧ sk_in (1 : Int32) (hN h a1) then
  if (hI h a1 (1 : Int32).toNatClampNeg) ≤ x3 then
    if x2 < 0 then
      if hK h x0 = 13 then
      Option.bind (hR h x0 20) fun a2 => if (hK h a2 = 101 ∨ hK h a2 = 201) ∧ sk_in (5 : Int32) (hN h a2) then
      if ¬ (hI h a2 (5 : Int32).toNatClampNeg) = (1 : Int32) then
        some (h, (0 : Int32))
      else
        some (h, (10000 : Int32))
      else none
      else none
    else
      some (h, x2)
  else
    k_M_chanceAt_17 d (some x0) x1 x2 x3 (1 : Int32) h
  else none
  else none := (sk_XT_evL sk_rec t_I d 208 90 _ (fun _ => rfl)).trans rfl
set_option maxRecDepth 100000 in
theorem e_M_chanceAt_17 (d : Nat) (x0 : Nat) (x1 : Int32) (x2 : Int32) (x3 : Int32) (x4 : Int32) (h : sk_H) : k_M_chanceAt_17 d (some x0) x1 x2 x3 x4 h =
  if (4 : Int32) < x4 then
    k_M_chanceAt_4 d (some x0) x1 x2 (x3 + 1) h
  else
    if hK h x0 = 13 then
    Option.bind (c_M_canBeNow d (some x0) x1 x3 x4 h) fun q1 =>
    if ¬ q1.2 = 0 then
      if hK q1.1 x0 = 13 then
      Option.bind (c_M_strokeBits d (some x0) x3 x4 q1.1) fun q2 =>
      if hK q2.1 x0 = 13 then
      Option.bind (hR q2.1 x0 20) fun a3 => if (hK q2.1 a3 = 101 ∨ hK q2.1 a3 = 201) ∧ sk_in (6 : Int32) (hN q2.1 a3) then
      if hK q2.1 x0 = 13 then
      Option.bind (hR q2.1 x0 29) fun a4 => if (hK q2.1 a4 = 101 ∨ hK q2.1 a4 = 201) ∧ sk_in (x1 &&& (q2.2 ^^^ ((-1) : Int32))) (hN q2.1 a4) then
      if hK q2.1 x0 = 13 then
      Option.bind (hR q2.1 x0 20) fun a5 => if (hK q2.1 a5 = 101 ∨ hK q2.1 a5 = 201) ∧ sk_in (6 : Int32) (hN q2.1 a5) then
      if hK q2.1 x0 = 13 then
      if hK q2.1 x0 = 13 then
      Option.bind (c_M_strayed d (some x0) (x1 &&& (q2.2 ^^^ ((-1) : Int32))) x3 x4 q2.1) fun q6 =>
      Option.bind (hR q2.1 x0 29) fun a7 => if (hK q6.1 a7 = 101 ∨ hK q6.1 a7 = 201) ∧ sk_in q6.2 (hN q6.1 a7) then
      if ¬ (100 : Int32) = 0 then
      if (((((100 : Int32) - (hI q2.1 a3 (6 : Int32).toNatClampNeg)) * ((10000 : Int32) - (hI q2.1 a4 (x1 &&& (q2.2 ^^^ ((-1) : Int32))).toNatClampNeg))) + ((hI q2.1 a5 (6 : Int32).toNatClampNeg) * ((10000 : Int32) - (hI q6.1 a7 q6.2.toNatClampNeg)))) / (100 : Int32)) ≤ x2 then
        k_M_chanceAt_17 d (some x0) x1 x2 x3 (x4 + 1) q6.1
      else
        k_M_chanceAt_17 d (some x0) x1 (((((100 : Int32) - (hI q2.1 a3 (6 : Int32).toNatClampNeg)) * ((10000 : Int32) - (hI q2.1 a4 (x1 &&& (q2.2 ^^^ ((-1) : Int32))).toNatClampNeg))) + ((hI q2.1 a5 (6 : Int32).toNatClampNeg) * ((10000 : Int32) - (hI q6.1 a7 q6.2.toNatClampNeg)))) / (100 : Int32)) x3 (x4 + 1) q6.1
      else none
      else none
      else none
      else none
      else none
      else none
      else none
      else none
      else none
      else none
      else none
    else
      k_M_chanceAt_17 d (some x0) x1 x2 x3 (x4 + 1) q1.1
    else none := (sk_XT_evL sk_rec t_I d 208 90 _ (fun _ => rfl)).trans rfl
set_option maxRecDepth 100000 in
theorem e_M_chance (d : Nat) (x0 : Nat) (h : sk_H) : c_M_chance d (some x0) h =
  if hK h x0 = 13 then
  Option.bind (c_M_isAlley d (some x0) h) fun q1 =>
  if ¬ q1.2 = 0 then
    k_M_chance_11 d (some x0) (0 : Int32) q1.1
  else
    some (q1.1, ((-1) : Int32))
  else none := (sk_XT_evL sk_rec t_I d 209 32 _ (fun _ => rfl)).trans rfl
set_option maxRecDepth 100000 in
theorem e_M_chance_11 (d : Nat) (x0 : Nat) (x1 : Int32) (h : sk_H) : k_M_chance_11 d (some x0) x1 h =
  if hK h x0 = 13 then
  Option.bind (hR h x0 20) fun a1 => if (hK h a1 = 101 ∨ hK h a1 = 201) ∧ sk_in (8 : Int32) (hN h a1) then
  if (hI h a1 (8 : Int32).toNatClampNeg) < x1 then
    if hK h x0 = 13 then
    if hK h x0 = 13 then
    Option.bind (hR h x0 20) fun a2 => if (hK h a2 = 101 ∨ hK h a2 = 201) ∧ sk_in (8 : Int32) (hN h a2) then
    Option.bind (hR h x0 29) fun a3 => if (hK h a3 = 101 ∨ hK h a3 = 201) ∧ sk_in (hI h a2 (8 : Int32).toNatClampNeg) (hN h a3) then
    some (h, hI h a3 (hI h a2 (8 : Int32).toNatClampNeg).toNatClampNeg)
    else none
    else none
    else none
    else none
  else
    if hK h x0 = 13 then
    if hK h x0 = 13 then
    Option.bind (c_M_chanceAt d (some x0) x1 h) fun q4 =>
    Option.bind (hR h x0 29) fun a5 => if hK q4.1 a5 = 101 ∧ sk_in x1 (hN q4.1 a5) then
    let h6 := wI q4.1 a5 x1.toNatClampNeg q4.2
    k_M_chance_11 d (some x0) (x1 + 1) h6
    else none
    else none
    else none
  else none
  else none := (sk_XT_evL sk_rec t_I d 209 32 _ (fun _ => rfl)).trans rfl
set_option maxRecDepth 100000 in
theorem e_M_bestAt (d : Nat) (x0 : Nat) (x1 : Int32) (h : sk_H) : c_M_bestAt d (some x0) x1 h =
  k_M_bestAt_4 d (some x0) x1 ((-1) : Int32) (0 : Int32) h := (sk_XT_evL sk_rec t_I d 210 61 _ (fun _ => rfl)).trans rfl
set_option maxRecDepth 100000 in
theorem e_M_bestAt_4 (d : Nat) (x0 : Nat) (x1 : Int32) (x2 : Int32) (x3 : Int32) (h : sk_H) : k_M_bestAt_4 d (some x0) x1 x2 x3 h =
  if hK h x0 = 13 then
  Option.bind (hR h x0 20) fun a1 => if (hK h a1 = 101 ∨ hK h a1 = 201) ∧ sk_in (1 : Int32) (hN h a1) then
  if (hI h a1 (1 : Int32).toNatClampNeg) ≤ x3 then
    if x2 < 0 then
      if hK h x0 = 13 then
      Option.bind (hR h x0 20) fun a2 => if (hK h a2 = 101 ∨ hK h a2 = 201) ∧ sk_in (5 : Int32) (hN h a2) then
      if ¬ (hI h a2 (5 : Int32).toNatClampNeg) = (1 : Int32) then
        some (h, (0 : Int32))
      else
        some (h, (10000 : Int32))
      else none
      else none
    else
      some (h, x2)
  else
    k_M_bestAt_17 d (some x0) x1 x2 x3 (1 : Int32) h
  else none
  else none := (sk_XT_evL sk_rec t_I d 210 61 _ (fun _ => rfl)).trans rfl
set_option maxRecDepth 100000 in
theorem e_M_bestAt_17 (d : Nat) (x0 : Nat) (x1 : Int32) (x2 : Int32) (x3 : Int32) (x4 : Int32) (h : sk_H) : k_M_bestAt_17 d (some x0) x1 x2 x3 x4 h =
  if (4 : Int32) < x4 then
    k_M_bestAt_4 d (some x0) x1 x2 (x3 + 1) h
  else
    if hK h x0 = 13 then
    Option.bind (c_M_canBeNow d (some x0) x1 x3 x4 h) fun q1 =>
    if ¬ q1.2 = 0 then
      if hK q1.1 x0 = 13 then
      if hK q1.1 x0 = 13 then
      Option.bind (c_M_strokeBits d (some x0) x3 x4 q1.1) fun q2 =>
      Option.bind (hR q1.1 x0 30) fun a3 => if (hK q2.1 a3 = 101 ∨ hK q2.1 a3 = 201) ∧ sk_in (x1 &&& (q2.2 ^^^ ((-1) : Int32))) (hN q2.1 a3) then
      if (hI q2.1 a3 (x1 &&& (q2.2 ^^^ ((-1) : Int32))).toNatClampNeg) ≤ x2 then
        k_M_bestAt_17 d (some x0) x1 x2 x3 (x4 + 1) q2.1
      else
        k_M_bestAt_17 d (some x0) x1 (hI q2.1 a3 (x1 &&& (q2.2 ^^^ ((-1) : Int32))).toNatClampNeg) x3 (x4 + 1) q2.1
      else none
      else none
      else none
    else
      k_M_bestAt_17 d (some x0) x1 x2 x3 (x4 + 1) q1.1
    else none := (sk_XT_evL sk_rec t_I d 210 61 _ (fun _ => rfl)).trans rfl
set_option maxRecDepth 100000 in
theorem e_M_childAt (d : Nat) (x0 : Nat) (x1 : Int32) (h : sk_H) : c_M_childAt d (some x0) x1 h =
  k_M_childAt_7 d (some x0) x1 (0 : Int32) (0 : Int32) (0 : Int32) h := (sk_XT_evL sk_rec t_I d 211 61 _ (fun _ => rfl)).trans rfl
set_option maxRecDepth 100000 in
theorem e_M_childAt_7 (d : Nat) (x0 : Nat) (x1 : Int32) (x2 : Int32) (x3 : Int32) (x4 : Int32) (h : sk_H) : k_M_childAt_7 d (some x0) x1 x2 x3 x4 h =
  if hK h x0 = 13 then
  Option.bind (hR h x0 20) fun a1 => if (hK h a1 = 101 ∨ hK h a1 = 201) ∧ sk_in (1 : Int32) (hN h a1) then
  if (hI h a1 (1 : Int32).toNatClampNeg) ≤ x4 then
    if x3 ≤ 0 then
      if hK h x0 = 13 then
      Option.bind (hR h x0 20) fun a2 => if (hK h a2 = 101 ∨ hK h a2 = 201) ∧ sk_in (5 : Int32) (hN h a2) then
      if ¬ (hI h a2 (5 : Int32).toNatClampNeg) = (1 : Int32) then
        some (h, (10000 : Int32))
      else
        some (h, (0 : Int32))
      else none
      else none
    else
      if ¬ x3 = 0 then
      some (h, x2 / x3)
      else none
  else
    k_M_childAt_21 d (some x0) x1 x2 x3 x4 (1 : Int32) h
  else none
  else none := (sk_XT_evL sk_rec t_I d 211 61 _ (fun _ => rfl)).trans rfl
set_option maxRecDepth 100000 in
theorem e_M_childAt_21 (d : Nat) (x0 : Nat) (x1 : Int32) (x2 : Int32) (x3 : Int32) (x4 : Int32) (x5 : Int32) (h : sk_H) : k_M_childAt_21 d (some x0) x1 x2 x3 x4 x5 h =
  if (4 : Int32) < x5 then
    k_M_childAt_7 d (some x0) x1 x2 x3 (x4 + 1) h
  else
    if hK h x0 = 13 then
    Option.bind (c_M_canBeNow d (some x0) x1 x4 x5 h) fun q1 =>
    if ¬ q1.2 = 0 then
      if hK q1.1 x0 = 13 then
      if hK q1.1 x0 = 13 then
      Option.bind (c_M_strokeBits d (some x0) x4 x5 q1.1) fun q2 =>
      Option.bind (hR q1.1 x0 29) fun a3 => if (hK q2.1 a3 = 101 ∨ hK q2.1 a3 = 201) ∧ sk_in (x1 &&& (q2.2 ^^^ ((-1) : Int32))) (hN q2.1 a3) then
      k_M_childAt_21 d (some x0) x1 (x2 + (hI q2.1 a3 (x1 &&& (q2.2 ^^^ ((-1) : Int32))).toNatClampNeg)) (x3 + 1) x4 (x5 + 1) q2.1
      else none
      else none
      else none
    else
      k_M_childAt_21 d (some x0) x1 x2 x3 x4 (x5 + 1) q1.1
    else none := (sk_XT_evL sk_rec t_I d 211 61 _ (fun _ => rfl)).trans rfl
set_option maxRecDepth 100000 in
theorem e_M_child (d : Nat) (x0 : Nat) (h : sk_H) : c_M_child d (some x0) h =
  if hK h x0 = 13 then
  Option.bind (c_M_isAlley d (some x0) h) fun q1 =>
  if ¬ q1.2 = 0 then
    k_M_child_11 d (some x0) (0 : Int32) q1.1
  else
    some (q1.1, ((-1) : Int32))
  else none := (sk_XT_evL sk_rec t_I d 212 39 _ (fun _ => rfl)).trans rfl
set_option maxRecDepth 100000 in
theorem e_M_child_11 (d : Nat) (x0 : Nat) (x1 : Int32) (h : sk_H) : k_M_child_11 d (some x0) x1 h =
  if hK h x0 = 13 then
  Option.bind (hR h x0 20) fun a1 => if (hK h a1 = 101 ∨ hK h a1 = 201) ∧ sk_in (8 : Int32) (hN h a1) then
  if (hI h a1 (8 : Int32).toNatClampNeg) < x1 then
    if hK h x0 = 13 then
    if hK h x0 = 13 then
    Option.bind (hR h x0 20) fun a2 => if (hK h a2 = 101 ∨ hK h a2 = 201) ∧ sk_in (8 : Int32) (hN h a2) then
    Option.bind (hR h x0 29) fun a3 => if (hK h a3 = 101 ∨ hK h a3 = 201) ∧ sk_in (hI h a2 (8 : Int32).toNatClampNeg) (hN h a3) then
    some (h, hI h a3 (hI h a2 (8 : Int32).toNatClampNeg).toNatClampNeg)
    else none
    else none
    else none
    else none
  else
    if hK h x0 = 13 then
    if hK h x0 = 13 then
    Option.bind (c_M_bestAt d (some x0) x1 h) fun q4 =>
    Option.bind (hR h x0 29) fun a5 => if hK q4.1 a5 = 101 ∧ sk_in x1 (hN q4.1 a5) then
    let h6 := wI q4.1 a5 x1.toNatClampNeg q4.2
    if hK h6 x0 = 13 then
    if hK h6 x0 = 13 then
    Option.bind (c_M_childAt d (some x0) x1 h6) fun q7 =>
    Option.bind (hR h6 x0 30) fun a8 => if hK q7.1 a8 = 101 ∧ sk_in x1 (hN q7.1 a8) then
    let h9 := wI q7.1 a8 x1.toNatClampNeg q7.2
    k_M_child_11 d (some x0) (x1 + 1) h9
    else none
    else none
    else none
    else none
    else none
    else none
  else none
  else none := (sk_XT_evL sk_rec t_I d 212 39 _ (fun _ => rfl)).trans rfl
set_option maxRecDepth 100000 in
theorem e_M_countsRun (d : Nat) (x0 : Nat) (x1 : Int32) (h : sk_H) : c_M_countsRun d (some x0) x1 h =
  if ¬ x1 = 0 then
    if hK h x0 = 13 then
    if hK h x0 = 13 then
    let h1 := wI h x0 31 ((hI h x0 31) + (1 : Int32))
    if hK h1 x0 = 13 then
    if x1 ≤ (hI h1 x0 32) then
      if hK h1 x0 = 13 then
      k_M_countsRun_32 d (some x0) x1 (hI h1 x0 32) (some x0) h1
      else none
    else
      k_M_countsRun_32 d (some x0) x1 x1 (some x0) h1
    else none
    else none
    else none
  else
    some h := (sk_XT_evL sk_rec t_V d 213 33 _ (fun _ => rfl)).trans rfl
set_option maxRecDepth 100000 in
theorem e_M_countsRun_32 (d : Nat) (x0 : Nat) (x1 : Int32) (s0 : Int32) (s1 : Option Nat) (h : sk_H) : k_M_countsRun_32 d (some x0) x1 s0 s1 h =
  Option.bind s1 fun a1 => if hK h a1 = 13 then
  let h2 := wI h a1 32 s0
  if hK h2 x0 = 13 then
  if ¬ x1 = (1 : Int32) then
    if hK h2 x0 = 13 then
    let h3 := wI h2 x0 33 ((hI h2 x0 33) + (0 : Int32))
    some h3
    else none
  else
    if hK h2 x0 = 13 then
    let h4 := wI h2 x0 33 ((hI h2 x0 33) + (1 : Int32))
    some h4
    else none
  else none
  else none := (sk_XT_evL sk_rec t_V d 213 33 _ (fun _ => rfl)).trans rfl
set_option maxRecDepth 100000 in
theorem e_M_countsRow (d : Nat) (x0 : Nat) (x1 : Int32) (x2 : Int32) (h : sk_H) : c_M_countsRow d (some x0) x1 x2 h =
  if hK h x0 = 13 then
  Option.bind (hR h x0 20) fun a1 => if (hK h a1 = 101 ∨ hK h a1 = 201) ∧ sk_in ((12 : Int32) + x2) (hN h a1) then
  if hK h x0 = 13 then
  Option.bind (hR h x0 20) fun a2 => if (hK h a2 = 101 ∨ hK h a2 = 201) ∧ sk_in ((16 : Int32) + x2) (hN h a2) then
  if hK h x0 = 13 then
  Option.bind (hR h x0 20) fun a3 => if (hK h a3 = 101 ∨ hK h a3 = 201) ∧ sk_in ((20 : Int32) + x2) (hN h a3) then
  if ¬ (hI h a3 ((20 : Int32) + x2).toNatClampNeg) = (1 : Int32) then
    k_M_countsRow_77 d (some x0) x1 (hI h a1 ((12 : Int32) + x2).toNatClampNeg) (hI h a2 ((16 : Int32) + x2).toNatClampNeg) (0 : Int32) (0 : Int32) (0 : Int32) h
  else
    k_M_countsRow_37 d (some x0) x1 (hI h a1 ((12 : Int32) + x2).toNatClampNeg) (hI h a2 ((16 : Int32) + x2).toNatClampNeg) (0 : Int32) h
  else none
  else none
  else none
  else none
  else none
  else none := (sk_XT_evL sk_rec t_V d 214 72 _ (fun _ => rfl)).trans rfl
set_option maxRecDepth 100000 in
theorem e_M_countsRow_37 (d : Nat) (x0 : Nat) (x1 : Int32) (x3 : Int32) (x4 : Int32) (x5 : Int32) (h : sk_H) : k_M_countsRow_37 d (some x0) x1 x3 x4 x5 h =
  if x4 ≤ x5 then
    if ¬ x5 = x4 then
      k_M_countsRow_77 d (some x0) x1 x3 x4 x5 (0 : Int32) (0 : Int32) h
    else
      k_M_countsRow_77 d (some x0) x1 x3 x4 (0 : Int32) (0 : Int32) (0 : Int32) h
  else
    Option.bind (c_M_isOf d x1 (x3 + x5) h) fun q1 =>
    if q1.2 = 0 then
      if ¬ x5 = x4 then
        k_M_countsRow_77 d (some x0) x1 x3 x4 x5 (0 : Int32) (0 : Int32) q1.1
      else
        k_M_countsRow_77 d (some x0) x1 x3 x4 (0 : Int32) (0 : Int32) (0 : Int32) q1.1
    else
      k_M_countsRow_37 d (some x0) x1 x3 x4 (x5 + 1) q1.1 := (sk_XT_evL sk_rec t_V d 214 72 _ (fun _ => rfl)).trans rfl
set_option maxRecDepth 100000 in
theorem e_M_countsRow_77 (d : Nat) (x0 : Nat) (x1 : Int32) (x3 : Int32) (x4 : Int32) (x5 : Int32) (x6 : Int32) (x7 : Int32) (h : sk_H) : k_M_countsRow_77 d (some x0) x1 x3 x4 x5 x6 x7 h =
  if x4 ≤ x7 then
    if hK h x0 = 13 then
    Option.bind (c_M_countsRun d (some x0) x6 h) fun q1 =>
    some q1
    else none
  else
    if ¬ x4 = 0 then
    Option.bind (c_M_isOf d x1 (x3 + ((x5 + x7) - (x5 + x7) / x4 * x4)) h) fun q2 =>
    if q2.2 = 0 then
      if hK q2.1 x0 = 13 then
      Option.bind (c_M_countsRun d (some x0) x6 q2.1) fun q3 =>
      k_M_countsRow_77 d (some x0) x1 x3 x4 x5 (0 : Int32) (x7 + 1) q3
      else none
    else
      k_M_countsRow_77 d (some x0) x1 x3 x4 x5 (x6 + 1) (x7 + 1) q2.1
    else none := (sk_XT_evL sk_rec t_V d 214 72 _ (fun _ => rfl)).trans rfl
set_option maxRecDepth 100000 in
theorem e_M_countsRuns (d : Nat) (x0 : Nat) (x1 : Int32) (h : sk_H) : c_M_countsRuns d (some x0) x1 h =
  if hK h x0 = 13 then
  let h1 := wI h x0 31 (0 : Int32)
  if hK h1 x0 = 13 then
  let h2 := wI h1 x0 32 (0 : Int32)
  if hK h2 x0 = 13 then
  let h3 := wI h2 x0 33 (0 : Int32)
  k_M_countsRuns_17 d (some x0) x1 (0 : Int32) h3
  else none
  else none
  else none := (sk_XT_evL sk_rec t_V d 215 26 _ (fun _ => rfl)).trans rfl
set_option maxRecDepth 100000 in
theorem e_M_countsRuns_17 (d : Nat) (x0 : Nat) (x1 : Int32) (x2 : Int32) (h : sk_H) : k_M_countsRuns_17 d (some x0) x1 x2 h =
  if hK h x0 = 13 then
  Option.bind (hR h x0 20) fun a1 => if (hK h a1 = 101 ∨ hK h a1 = 201) ∧ sk_in (2 : Int32) (hN h a1) then
  if (hI h a1 (2 : Int32).toNatClampNeg) ≤ x2 then
    some h
  else
    if hK h x0 = 13 then
    Option.bind (c_M_countsRow d (some x0) x1 x2 h) fun q2 =>
    k_M_countsRuns_17 d (some x0) x1 (x2 + 1) q2
    else none
  else none
  else none := (sk_XT_evL sk_rec t_V d 215 26 _ (fun _ => rfl)).trans rfl
set_option maxRecDepth 100000 in
theorem e_M_words (d : Nat) (x0 : Nat) (x1 : Int32) (x2 : Int32) (x3 : Int32) (x4 : Int32) (x5 : Int32) (h : sk_H) : c_M_words d (some x0) x1 x2 x3 x4 x5 h =
  if hK h x0 = 13 then
  Option.bind (c_M_strokeBits d (some x0) x4 x5 h) fun q1 =>
  if hK q1.1 x0 = 13 then
  Option.bind (c_M_countsRuns d (some x0) (x1 &&& (q1.2 ^^^ ((-1) : Int32))) q1.1) fun q2 =>
  if hK q2 x0 = 13 then
  Option.bind (hR q2 x0 19) fun a3 => if hK q2 a3 = 102 ∧ sk_in (0 : Int32) (hN q2 a3) then
  let h4 := wJ q2 a3 (0 : Int32).toNatClampNeg x4.toInt64
  if hK h4 x0 = 13 then
  Option.bind (hR h4 x0 19) fun a5 => if hK h4 a5 = 102 ∧ sk_in (1 : Int32) (hN h4 a5) then
  let h6 := wJ h4 a5 (1 : Int32).toNatClampNeg x5.toInt64
  if hK h6 x0 = 13 then
  if hK h6 x0 = 13 then
  Option.bind (c_M_rowOf d (some x0) x4 h6) fun q7 =>
  Option.bind (hR h6 x0 19) fun a8 => if hK q7.1 a8 = 102 ∧ sk_in (2 : Int32) (hN q7.1 a8) then
  let h9 := wJ q7.1 a8 (2 : Int32).toNatClampNeg q7.2.toInt64
  if hK h9 x0 = 13 then
  Option.bind (c_M_bits d x1 h9) fun q10 =>
  Option.bind (hR h9 x0 19) fun a11 => if hK q10.1 a11 = 102 ∧ sk_in (3 : Int32) (hN q10.1 a11) then
  let h12 := wJ q10.1 a11 (3 : Int32).toNatClampNeg q10.2.toInt64
  if hK h12 x0 = 13 then
  Option.bind (c_M_bits d (x1 &&& (q1.2 ^^^ ((-1) : Int32))) h12) fun q13 =>
  Option.bind (hR h12 x0 19) fun a14 => if hK q13.1 a14 = 102 ∧ sk_in (4 : Int32) (hN q13.1 a14) then
  let h15 := wJ q13.1 a14 (4 : Int32).toNatClampNeg q13.2.toInt64
  if hK h15 x0 = 13 then
  if hK h15 x0 = 13 then
  Option.bind (hR h15 x0 19) fun a16 => if hK h15 a16 = 102 ∧ sk_in (5 : Int32) (hN h15 a16) then
  let h17 := wJ h15 a16 (5 : Int32).toNatClampNeg ((hI h15 x0 31).toInt64)
  if hK h17 x0 = 13 then
  if hK h17 x0 = 13 then
  Option.bind (hR h17 x0 19) fun a18 => if hK h17 a18 = 102 ∧ sk_in (6 : Int32) (hN h17 a18) then
  let h19 := wJ h17 a18 (6 : Int32).toNatClampNeg ((hI h17 x0 32).toInt64)
  if hK h19 x0 = 13 then
  if hK h19 x0 = 13 then
  Option.bind (hR h19 x0 19) fun a20 => if hK h19 a20 = 102 ∧ sk_in (7 : Int32) (hN h19 a20) then
  let h21 := wJ h19 a20 (7 : Int32).toNatClampNeg ((hI h19 x0 33).toInt64)
  if hK h21 x0 = 13 then
  if hK h21 x0 = 13 then
  Option.bind (c_M_isWonAt d (some x0) (x1 &&& (q1.2 ^^^ ((-1) : Int32))) h21) fun q22 =>
  if q22.2 = 0 then
    Option.bind (hR h21 x0 19) fun a23 => if hK q22.1 a23 = 102 ∧ sk_in (8 : Int32) (hN q22.1 a23) then
    let h24 := wJ q22.1 a23 (8 : Int32).toNatClampNeg (1 : Int64)
    if hK h24 x0 = 13 then
    Option.bind (hR h24 x0 19) fun a25 => if hK h24 a25 = 102 ∧ sk_in (9 : Int32) (hN h24 a25) then
    let h26 := wJ h24 a25 (9 : Int32).toNatClampNeg x2.toInt64
    if hK h26 x0 = 13 then
    Option.bind (hR h26 x0 19) fun a27 => if hK h26 a27 = 102 ∧ sk_in (10 : Int32) (hN h26 a27) then
    let h28 := wJ h26 a27 (10 : Int32).toNatClampNeg x3.toInt64
    some h28
    else none
    else none
    else none
    else none
    else none
  else
    Option.bind (hR h21 x0 19) fun a29 => if hK q22.1 a29 = 102 ∧ sk_in (8 : Int32) (hN q22.1 a29) then
    let h30 := wJ q22.1 a29 (8 : Int32).toNatClampNeg (0 : Int64)
    if hK h30 x0 = 13 then
    Option.bind (hR h30 x0 19) fun a31 => if hK h30 a31 = 102 ∧ sk_in (9 : Int32) (hN h30 a31) then
    let h32 := wJ h30 a31 (9 : Int32).toNatClampNeg x2.toInt64
    if hK h32 x0 = 13 then
    Option.bind (hR h32 x0 19) fun a33 => if hK h32 a33 = 102 ∧ sk_in (10 : Int32) (hN h32 a33) then
    let h34 := wJ h32 a33 (10 : Int32).toNatClampNeg x3.toInt64
    some h34
    else none
    else none
    else none
    else none
    else none
  else none
  else none
  else none
  else none
  else none
  else none
  else none
  else none
  else none
  else none
  else none
  else none
  else none
  else none
  else none
  else none
  else none
  else none
  else none
  else none
  else none
  else none
  else none
  else none := (sk_XT_evL sk_rec t_V d 216 93 _ (fun _ => rfl)).trans rfl
set_option maxRecDepth 100000 in
theorem e_M_summedBy (d : Nat) (x0 : Nat) (x1 : Int32) (h : sk_H) : c_M_summedBy d (some x0) x1 h =
  k_M_summedBy_2 d (some x0) x1 (0 : Int32) h := (sk_XT_evL sk_rec t_L d 217 61 _ (fun _ => rfl)).trans rfl
set_option maxRecDepth 100000 in
theorem e_M_summedBy_2 (d : Nat) (x0 : Nat) (x1 : Int32) (x2 : Int32) (h : sk_H) : k_M_summedBy_2 d (some x0) x1 x2 h =
  if hK h x0 = 13 then
  Option.bind (hR h x0 6) fun a1 => if (hK h a1 = 101 ∨ hK h a1 = 201) ∧ sk_in x1 (hN h a1) then
  if (hI h a1 x1.toNatClampNeg) ≤ x2 then
    some (h, (0 : Int64))
  else
    if hK h x0 = 13 then
    Option.bind (hR h x0 5) fun a2 => if (hK h a2 = 101 ∨ hK h a2 = 201) ∧ sk_in ((((48 : Int32) * x1) + ((4 : Int32) * x2)) + (2 : Int32)) (hN h a2) then
    if (hI h a2 ((((48 : Int32) * x1) + ((4 : Int32) * x2)) + (2 : Int32)).toNatClampNeg) < 0 then
      k_M_summedBy_58 d (some x0) x1 (((48 : Int32) * x1) + ((4 : Int32) * x2)) h
    else
      if hK h x0 = 13 then
      Option.bind (hR h x0 5) fun a3 => if (hK h a3 = 101 ∨ hK h a3 = 201) ∧ sk_in ((((48 : Int32) * x1) + ((4 : Int32) * x2)) + (2 : Int32)) (hN h a3) then
      if hK h x0 = 13 then
      Option.bind (hR h x0 5) fun a4 => if (hK h a4 = 101 ∨ hK h a4 = 201) ∧ sk_in ((((48 : Int32) * x1) + ((4 : Int32) * x2)) + (3 : Int32)) (hN h a4) then
      if hK h x0 = 13 then
      Option.bind (c_M_reckons d (some x0) x1 (hI h a3 ((((48 : Int32) * x1) + ((4 : Int32) * x2)) + (2 : Int32)).toNatClampNeg) (hI h a4 ((((48 : Int32) * x1) + ((4 : Int32) * x2)) + (3 : Int32)).toNatClampNeg) h) fun q5 =>
      if ¬ (lg_cmp q5.2 (1 : Int64)) = 0 then
        k_M_summedBy_2 d (some x0) x1 (x2 + 1) q5.1
      else
        k_M_summedBy_58 d (some x0) x1 (((48 : Int32) * x1) + ((4 : Int32) * x2)) q5.1
      else none
      else none
      else none
      else none
      else none
    else none
    else none
  else none
  else none := (sk_XT_evL sk_rec t_L d 217 61 _ (fun _ => rfl)).trans rfl
set_option maxRecDepth 100000 in
theorem e_M_summedBy_58 (d : Nat) (x0 : Nat) (x1 : Int32) (x3 : Int32) (h : sk_H) : k_M_summedBy_58 d (some x0) x1 x3 h =
  if hK h x0 = 13 then
  Option.bind (hR h x0 5) fun a1 => if (hK h a1 = 101 ∨ hK h a1 = 201) ∧ sk_in x3 (hN h a1) then
  if hK h x0 = 13 then
  Option.bind (hR h x0 5) fun a2 => if (hK h a2 = 101 ∨ hK h a2 = 201) ∧ sk_in (x3 + (1 : Int32)) (hN h a2) then
  if hK h x0 = 13 then
  Option.bind (c_M_reckons d (some x0) x1 (hI h a1 x3.toNatClampNeg) (hI h a2 (x3 + (1 : Int32)).toNatClampNeg) h) fun q3 =>
  some (q3.1, q3.2)
  else none
  else none
  else none
  else none
  else none := (sk_XT_evL sk_rec t_L d 217 61 _ (fun _ => rfl)).trans rfl
set_option maxRecDepth 100000 in
theorem e_M_strokeBy (d : Nat) (x0 : Nat) (x1 : Int32) (x2 : Int32) (x3 : Int32) (x4 : Int32) (h : sk_H) : c_M_strokeBy d (some x0) x1 x2 x3 x4 h =
  k_M_strokeBy_9 d (some x0) x1 x2 x3 x4 ((-1) : Int32) (0 : Int64) (0 : Int32) h := (sk_XT_evL sk_rec t_I d 218 61 _ (fun _ => rfl)).trans rfl
set_option maxRecDepth 100000 in
theorem e_M_strokeBy_9 (d : Nat) (x0 : Nat) (x1 : Int32) (x2 : Int32) (x3 : Int32) (x4 : Int32) (x5 : Int32) (x6 : Int64) (x8 : Int32) (h : sk_H) : k_M_strokeBy_9 d (some x0) x1 x2 x3 x4 x5 x6 x8 h =
  if hK h x0 = 13 then
  Option.bind (hR h x0 20) fun a1 => if (hK h a1 = 101 ∨ hK h a1 = 201) ∧ sk_in (1 : Int32) (hN h a1) then
  if (hI h a1 (1 : Int32).toNatClampNeg) ≤ x8 then
    some (h, x5)
  else
    k_M_strokeBy_23 d (some x0) x1 x2 x3 x4 x5 x6 x8 (1 : Int32) h
  else none
  else none := (sk_XT_evL sk_rec t_I d 218 61 _ (fun _ => rfl)).trans rfl
set_option maxRecDepth 100000 in
theorem e_M_strokeBy_23 (d : Nat) (x0 : Nat) (x1 : Int32) (x2 : Int32) (x3 : Int32) (x4 : Int32) (x5 : Int32) (x6 : Int64) (x8 : Int32) (x9 : Int32) (h : sk_H) : k_M_strokeBy_23 d (some x0) x1 x2 x3 x4 x5 x6 x8 x9 h =
  if (4 : Int32) < x9 then
    k_M_strokeBy_9 d (some x0) x1 x2 x3 x4 x5 x6 (x8 + 1) h
  else
    if hK h x0 = 13 then
    Option.bind (c_M_canBeNow d (some x0) x2 x8 x9 h) fun q1 =>
    if ¬ q1.2 = 0 then
      if hK q1.1 x0 = 13 then
      Option.bind (c_M_words d (some x0) x2 x3 x4 x8 x9 q1.1) fun q2 =>
      if hK q2 x0 = 13 then
      Option.bind (c_M_summedBy d (some x0) x1 q2) fun q3 =>
      if x5 < 0 then
        k_M_strokeBy_79 d (some x0) x1 x2 x3 x4 x8 x9 q3.2 q3.1
      else
        if 0 < (lg_cmp q3.2 x6) then
          k_M_strokeBy_79 d (some x0) x1 x2 x3 x4 x8 x9 q3.2 q3.1
        else
          k_M_strokeBy_23 d (some x0) x1 x2 x3 x4 x5 x6 x8 (x9 + 1) q3.1
      else none
      else none
    else
      k_M_strokeBy_23 d (some x0) x1 x2 x3 x4 x5 x6 x8 (x9 + 1) q1.1
    else none := (sk_XT_evL sk_rec t_I d 218 61 _ (fun _ => rfl)).trans rfl
set_option maxRecDepth 100000 in
theorem e_M_strokeBy_79 (d : Nat) (x0 : Nat) (x1 : Int32) (x2 : Int32) (x3 : Int32) (x4 : Int32) (x8 : Int32) (x9 : Int32) (x10 : Int64) (h : sk_H) : k_M_strokeBy_79 d (some x0) x1 x2 x3 x4 x8 x9 x10 h =
  if hK h x0 = 13 then
  Option.bind (c_M_strokeBits d (some x0) x8 x9 h) fun q1 =>
  k_M_strokeBy_23 d (some x0) x1 x2 x3 x4 (x2 &&& (q1.2 ^^^ ((-1) : Int32))) x10 x8 (x9 + 1) q1.1
  else none := (sk_XT_evL sk_rec t_I d 218 61 _ (fun _ => rfl)).trans rfl
set_option maxRecDepth 100000 in
theorem e_M_winner (d : Nat) (x0 : Nat) (x1 : Int32) (h : sk_H) : c_M_winner d (some x0) x1 h =
  if hK h x0 = 13 then
  Option.bind (hR h x0 20) fun a1 => if (hK h a1 = 101 ∨ hK h a1 = 201) ∧ sk_in (5 : Int32) (hN h a1) then
  if ¬ (hI h a1 (5 : Int32).toNatClampNeg) = (1 : Int32) then
    some (h, (1 : Int32) - x1)
  else
    some (h, x1)
  else none
  else none := (sk_XT_evL sk_rec t_I d 219 14 _ (fun _ => rfl)).trans rfl
set_option maxRecDepth 100000 in
theorem e_M_match (d : Nat) (x0 : Nat) (x1 : Int32) (x2 : Int32) (x3 : Int32) (h : sk_H) : c_M_match d (some x0) x1 x2 x3 h =
  if hK h x0 = 13 then
  Option.bind (c_M_isAlley d (some x0) h) fun q1 =>
  if q1.2 = 0 then
    some (q1.1, ((-1) : Int32))
  else
    if hK q1.1 x0 = 13 then
    Option.bind (c_M_isRule d (some x0) x1 q1.1) fun q2 =>
    if q2.2 = 0 then
      some (q2.1, ((-1) : Int32))
    else
      if hK q2.1 x0 = 13 then
      Option.bind (c_M_isRule d (some x0) x2 q2.1) fun q3 =>
      if q3.2 = 0 then
        some (q3.1, ((-1) : Int32))
      else
        Option.bind (c_M_in d x3.toInt64 (0 : Int64) (1 : Int64) q3.1) fun q4 =>
        if ¬ q4.2 = 0 then
          if hK q4.1 x0 = 13 then
          Option.bind (hR q4.1 x0 20) fun a5 => if (hK q4.1 a5 = 101 ∨ hK q4.1 a5 = 201) ∧ sk_in (8 : Int32) (hN q4.1 a5) then
          if hK q4.1 x0 = 13 then
          Option.bind (hR q4.1 x0 20) fun a6 => if (hK q4.1 a6 = 101 ∨ hK q4.1 a6 = 201) ∧ sk_in (7 : Int32) (hN q4.1 a6) then
          if ¬ (hI q4.1 a6 (7 : Int32).toNatClampNeg) = 0 then
            if hK q4.1 x0 = 13 then
            Option.bind (hR q4.1 x0 20) fun a7 => if (hK q4.1 a7 = 101 ∨ hK q4.1 a7 = 201) ∧ sk_in (9 : Int32) (hN q4.1 a7) then
            if hK q4.1 x0 = 13 then
            Option.bind (c_M_strokeBy d (some x0) x2 (hI q4.1 a5 (8 : Int32).toNatClampNeg) (hI q4.1 a6 (7 : Int32).toNatClampNeg) (hI q4.1 a7 (9 : Int32).toNatClampNeg) q4.1) fun q8 =>
            k_M_match_83 d (some x0) x1 x2 x3 (hI q4.1 a6 (7 : Int32).toNatClampNeg) (0 : Int32) q8.2 q8.1
            else none
            else none
            else none
          else
            if hK q4.1 x0 = 13 then
            Option.bind (hR q4.1 x0 20) fun a9 => if (hK q4.1 a9 = 101 ∨ hK q4.1 a9 = 201) ∧ sk_in (9 : Int32) (hN q4.1 a9) then
            if hK q4.1 x0 = 13 then
            Option.bind (c_M_strokeBy d (some x0) x1 (hI q4.1 a5 (8 : Int32).toNatClampNeg) (hI q4.1 a6 (7 : Int32).toNatClampNeg) (hI q4.1 a9 (9 : Int32).toNatClampNeg) q4.1) fun q10 =>
            k_M_match_83 d (some x0) x1 x2 x3 (hI q4.1 a6 (7 : Int32).toNatClampNeg) (0 : Int32) q10.2 q10.1
            else none
            else none
            else none
          else none
          else none
          else none
          else none
        else
          some (q4.1, ((-1) : Int32))
      else none
    else none
  else none := (sk_XT_evL sk_rec t_I d 220 81 _ (fun _ => rfl)).trans rfl
set_option maxRecDepth 100000 in
theorem e_M_match_83 (d : Nat) (x0 : Nat) (x1 : Int32) (x2 : Int32) (x3 : Int32) (x5 : Int32) (x6 : Int32) (x7 : Int32) (h : sk_H) : k_M_match_83 d (some x0) x1 x2 x3 x5 x6 x7 h =
  if x7 < 0 then
    if ¬ x3 = 0 then
      some (h, x6)
    else
      if hK h x0 = 13 then
      Option.bind (c_M_winner d (some x0) x5 h) fun q1 =>
      some (q1.1, q1.2)
      else none
  else
    if ¬ ((1 : Int32) - x5) = 0 then
      if hK h x0 = 13 then
      Option.bind (hR h x0 20) fun a2 => if (hK h a2 = 101 ∨ hK h a2 = 201) ∧ sk_in (9 : Int32) (hN h a2) then
      if hK h x0 = 13 then
      Option.bind (c_M_strokeBy d (some x0) x2 x7 ((1 : Int32) - x5) ((hI h a2 (9 : Int32).toNatClampNeg) + (x6 + 1)) h) fun q3 =>
      k_M_match_83 d (some x0) x1 x2 x3 ((1 : Int32) - x5) (x6 + 1) q3.2 q3.1
      else none
      else none
      else none
    else
      if hK h x0 = 13 then
      Option.bind (hR h x0 20) fun a4 => if (hK h a4 = 101 ∨ hK h a4 = 201) ∧ sk_in (9 : Int32) (hN h a4) then
      if hK h x0 = 13 then
      Option.bind (c_M_strokeBy d (some x0) x1 x7 ((1 : Int32) - x5) ((hI h a4 (9 : Int32).toNatClampNeg) + (x6 + 1)) h) fun q5 =>
      k_M_match_83 d (some x0) x1 x2 x3 ((1 : Int32) - x5) (x6 + 1) q5.2 q5.1
      else none
      else none
      else none := (sk_XT_evL sk_rec t_I d 220 81 _ (fun _ => rfl)).trans rfl
set_option maxRecDepth 100000 in
theorem e_M_noted (d : Nat) (x0 : Nat) (x1 : Int32) (x2 : Int32) (h : sk_H) : c_M_noted d (some x0) x1 x2 h =
  if hK h x0 = 13 then
  Option.bind (hR h x0 20) fun a1 => if (hK h a1 = 101 ∨ hK h a1 = 201) ∧ sk_in (((24 : Int32) + ((4 : Int32) * x1)) + x2) (hN h a1) then
  some (h, hI h a1 (((24 : Int32) + ((4 : Int32) * x1)) + x2).toNatClampNeg)
  else none
  else none := (sk_XT_evL sk_rec t_I d 221 13 _ (fun _ => rfl)).trans rfl
set_option maxRecDepth 100000 in
theorem e_M_winsNoted (d : Nat) (x0 : Nat) (x1 : Int32) (h : sk_H) : c_M_winsNoted d (some x0) x1 h =
  if hK h x0 = 13 then
  if hK h x0 = 13 then
  Option.bind (c_M_noted d (some x0) x1 (1 : Int32) h) fun q1 =>
  if hK q1.1 x0 = 13 then
  Option.bind (c_M_noted d (some x0) x1 (2 : Int32) q1.1) fun q2 =>
  if hK q2.1 x0 = 13 then
  Option.bind (c_M_noted d (some x0) x1 (3 : Int32) q2.1) fun q3 =>
  if hK q3.1 x0 = 13 then
  Option.bind (c_M_strokeBits d (some x0) q2.2 q3.2 q3.1) fun q4 =>
  Option.bind (hR h x0 22) fun a5 => if (hK q4.1 a5 = 103 ∨ hK q4.1 a5 = 104 ∨ hK q4.1 a5 = 204) ∧ sk_in (q1.2 &&& (q4.2 ^^^ ((-1) : Int32))) (hN q4.1 a5) then
  if ¬ (hI q4.1 a5 (q1.2 &&& (q4.2 ^^^ ((-1) : Int32))).toNatClampNeg) = 0 then
    some (q4.1, (0 : Int32))
  else
    some (q4.1, (1 : Int32))
  else none
  else none
  else none
  else none
  else none
  else none := (sk_XT_evL sk_rec t_I d 222 27 _ (fun _ => rfl)).trans rfl
set_option maxRecDepth 100000 in
theorem e_M_knew (d : Nat) (x0 : Nat) (x1 : Int32) (x2 : Int32) (h : sk_H) : c_M_knew d (some x0) x1 x2 h =
  if hK h x0 = 13 then
  Option.bind (c_M_isAlley d (some x0) h) fun q1 =>
  if q1.2 = 0 then
    some (q1.1, ((-1) : Int32))
  else
    Option.bind (c_M_in d x1.toInt64 (0 : Int64) (1 : Int64) q1.1) fun q2 =>
    if q2.2 = 0 then
      some (q2.1, ((-1) : Int32))
    else
      Option.bind (c_M_in d x2.toInt64 (0 : Int64) (3 : Int64) q2.1) fun q3 =>
      if ¬ q3.2 = 0 then
        if hK q3.1 x0 = 13 then
        Option.bind (c_M_fillsNow d (some x0) q3.1) fun q4 =>
        k_M_knew_49 d (some x0) x1 x2 (0 : Int32) (0 : Int32) (0 : Int32) (0 : Int32) (0 : Int32) q4
        else none
      else
        some (q3.1, ((-1) : Int32))
  else none := (sk_XT_evL sk_rec t_I d 223 88 _ (fun _ => rfl)).trans rfl
set_option maxRecDepth 100000 in
theorem e_M_knew_49 (d : Nat) (x0 : Nat) (x1 : Int32) (x2 : Int32) (x3 : Int32) (x4 : Int32) (x5 : Int32) (x6 : Int32) (x7 : Int32) (h : sk_H) : k_M_knew_49 d (some x0) x1 x2 x3 x4 x5 x6 x7 h =
  if hK h x0 = 13 then
  Option.bind (hR h x0 20) fun a1 => if (hK h a1 = 101 ∨ hK h a1 = 201) ∧ sk_in (10 : Int32) (hN h a1) then
  if (hI h a1 (10 : Int32).toNatClampNeg) ≤ x7 then
    if ¬ x2 = 0 then
      if ¬ x2 = (1 : Int32) then
        if ¬ x2 = (2 : Int32) then
          some (h, x6)
        else
          some (h, x5)
      else
        some (h, x4)
    else
      some (h, x3)
  else
    if hK h x0 = 13 then
    Option.bind (c_M_noted d (some x0) x7 (0 : Int32) h) fun q2 =>
    if q2.2 = x1 then
      if hK q2.1 x0 = 13 then
      if hK q2.1 x0 = 13 then
      Option.bind (c_M_noted d (some x0) x7 (1 : Int32) q2.1) fun q3 =>
      Option.bind (hR q2.1 x0 22) fun a4 => if (hK q3.1 a4 = 103 ∨ hK q3.1 a4 = 104 ∨ hK q3.1 a4 = 204) ∧ sk_in q3.2 (hN q3.1 a4) then
      if (hI q3.1 a4 q3.2.toNatClampNeg) = 0 then
        k_M_knew_49 d (some x0) x1 x2 (x3 + 1) x4 x5 x6 (x7 + 1) q3.1
      else
        if hK q3.1 x0 = 13 then
        Option.bind (c_M_noted d (some x0) x7 (1 : Int32) q3.1) fun q5 =>
        if hK q5.1 x0 = 13 then
        Option.bind (c_M_isOverAt d (some x0) q5.2 q5.1) fun q6 =>
        if q6.2 = 0 then
          if hK q6.1 x0 = 13 then
          Option.bind (c_M_winsNoted d (some x0) x7 q6.1) fun q7 =>
          if q7.2 = 0 then
            k_M_knew_49 d (some x0) x1 x2 (x3 + 1) (x4 + 1) x5 (x3 + 1) (x7 + 1) q7.1
          else
            k_M_knew_49 d (some x0) x1 x2 (x3 + 1) (x4 + 1) (x5 + 1) x6 (x7 + 1) q7.1
          else none
        else
          k_M_knew_49 d (some x0) x1 x2 (x3 + 1) x4 x5 x6 (x7 + 1) q6.1
        else none
        else none
      else none
      else none
      else none
    else
      k_M_knew_49 d (some x0) x1 x2 x3 x4 x5 x6 (x7 + 1) q2.1
    else none
  else none
  else none := (sk_XT_evL sk_rec t_I d 223 88 _ (fun _ => rfl)).trans rfl
set_option maxRecDepth 100000 in
theorem e_M_fitsLaw (d : Nat) (x0 : Nat) (x1 : Int32) (x2 : Int32) (x3 : Int32) (x4 : Int32) (h : sk_H) : c_M_fitsLaw d (some x0) x1 x2 x3 x4 h =
  if hK h x0 = 13 then
  Option.bind (c_M_fillsWon d (some x0) x2 x3 x4 h) fun q1 =>
  k_M_fitsLaw_11 d (some x0) x1 x2 x3 (0 : Int32) q1
  else none := (sk_XT_evL sk_rec t_I d 224 64 _ (fun _ => rfl)).trans rfl
set_option maxRecDepth 100000 in
theorem e_M_fitsLaw_11 (d : Nat) (x0 : Nat) (x1 : Int32) (x2 : Int32) (x3 : Int32) (x5 : Int32) (h : sk_H) : k_M_fitsLaw_11 d (some x0) x1 x2 x3 x5 h =
  if hK h x0 = 13 then
  Option.bind (hR h x0 20) fun a1 => if (hK h a1 = 101 ∨ hK h a1 = 201) ∧ sk_in (10 : Int32) (hN h a1) then
  if (hI h a1 (10 : Int32).toNatClampNeg) ≤ x5 then
    some (h, (1 : Int32))
  else
    if hK h x0 = 13 then
    Option.bind (c_M_noted d (some x0) x5 (0 : Int32) h) fun q2 =>
    if q2.2 = x1 then
      if hK q2.1 x0 = 13 then
      Option.bind (c_M_noted d (some x0) x5 (1 : Int32) q2.1) fun q3 =>
      if hK q3.1 x0 = 13 then
      Option.bind (c_M_noted d (some x0) x5 (2 : Int32) q3.1) fun q4 =>
      if hK q4.1 x0 = 13 then
      Option.bind (c_M_noted d (some x0) x5 (3 : Int32) q4.1) fun q5 =>
      if ¬ x3 = (1 : Int32) then
        k_M_fitsLaw_70 d (some x0) x1 x2 x3 x5 (0 : Int32) x2 q5.2 q4.2 q3.2 (some x0) q5.1
      else
        k_M_fitsLaw_70 d (some x0) x1 x2 x3 x5 (1 : Int32) x2 q5.2 q4.2 q3.2 (some x0) q5.1
      else none
      else none
      else none
    else
      k_M_fitsLaw_11 d (some x0) x1 x2 x3 (x5 + 1) q2.1
    else none
  else none
  else none := (sk_XT_evL sk_rec t_I d 224 64 _ (fun _ => rfl)).trans rfl
set_option maxRecDepth 100000 in
theorem e_M_fitsLaw_70 (d : Nat) (x0 : Nat) (x1 : Int32) (x2 : Int32) (x3 : Int32) (x5 : Int32) (s0 : Int32) (s1 : Int32) (s2 : Int32) (s3 : Int32) (s4 : Int32) (s5 : Option Nat) (h : sk_H) : k_M_fitsLaw_70 d (some x0) x1 x2 x3 x5 s0 s1 s2 s3 s4 s5 h =
  Option.bind s5 fun a5 => if hK h a5 = 13 then
  Option.bind (c_M_canBe d s5 s4 s3 s2 s1 s0 h) fun q1 =>
  if ¬ q1.2 = 0 then
    if hK q1.1 x0 = 13 then
    if hK q1.1 x0 = 13 then
    Option.bind (c_M_noted d (some x0) x5 (1 : Int32) q1.1) fun q2 =>
    Option.bind (hR q1.1 x0 22) fun a3 => if (hK q2.1 a3 = 103 ∨ hK q2.1 a3 = 104 ∨ hK q2.1 a3 = 204) ∧ sk_in q2.2 (hN q2.1 a3) then
    if (hI q2.1 a3 q2.2.toNatClampNeg) = 0 then
      k_M_fitsLaw_11 d (some x0) x1 x2 x3 (x5 + 1) q2.1
    else
      if hK q2.1 x0 = 13 then
      Option.bind (c_M_winsNoted d (some x0) x5 q2.1) fun q4 =>
      if ¬ q4.2 = 0 then
        k_M_fitsLaw_11 d (some x0) x1 x2 x3 (x5 + 1) q4.1
      else
        some (q4.1, (0 : Int32))
      else none
    else none
    else none
    else none
  else
    some (q1.1, (0 : Int32))
  else none := (sk_XT_evL sk_rec t_I d 224 64 _ (fun _ => rfl)).trans rfl
set_option maxRecDepth 100000 in
theorem e_M_law (d : Nat) (x0 : Nat) (x1 : Int32) (x2 : Int32) (h : sk_H) : c_M_law d (some x0) x1 x2 h =
  if hK h x0 = 13 then
  Option.bind (c_M_isAlley d (some x0) h) fun q1 =>
  if q1.2 = 0 then
    some (q1.1, ((-1) : Int32))
  else
    Option.bind (c_M_in d x1.toInt64 (0 : Int64) (1 : Int64) q1.1) fun q2 =>
    if q2.2 = 0 then
      some (q2.1, ((-1) : Int32))
    else
      Option.bind (c_M_in d x2.toInt64 (0 : Int64) (3 : Int64) q2.1) fun q3 =>
      if ¬ q3.2 = 0 then
        k_M_law_39 d (some x0) x1 x2 (0 : Int32) ((-1) : Int32) (0 : Int32) q3.1
      else
        some (q3.1, ((-1) : Int32))
  else none := (sk_XT_evL sk_rec t_I d 225 83 _ (fun _ => rfl)).trans rfl
set_option maxRecDepth 100000 in
theorem e_M_law_39 (d : Nat) (x0 : Nat) (x1 : Int32) (x2 : Int32) (x3 : Int32) (x4 : Int32) (x5 : Int32) (h : sk_H) : k_M_law_39 d (some x0) x1 x2 x3 x4 x5 h =
  if (60 : Int32) ≤ x5 then
    if ¬ x2 = 0 then
      if 0 ≤ x4 then
        if ¬ x2 = (1 : Int32) then
          if ¬ x2 = (2 : Int32) then
            if ¬ (2 : Int32) = 0 then
            some (h, x4 - x4 / (2 : Int32) * (2 : Int32))
            else none
          else
            if ¬ (2 : Int32) = 0 then
            if ¬ (2 : Int32) = 0 then
            some (h, (x4 / (2 : Int32)) - (x4 / (2 : Int32)) / (2 : Int32) * (2 : Int32))
            else none
            else none
        else
          if ¬ (4 : Int32) = 0 then
          some (h, (x4 / (4 : Int32)) + (1 : Int32))
          else none
      else
        some (h, ((-2) : Int32))
    else
      some (h, x3)
  else
    if ¬ (4 : Int32) = 0 then
    if ¬ (2 : Int32) = 0 then
    if ¬ (2 : Int32) = 0 then
    if ¬ (2 : Int32) = 0 then
    if hK h x0 = 13 then
    Option.bind (c_M_fitsLaw d (some x0) x1 ((x5 / (4 : Int32)) + (1 : Int32)) ((x5 / (2 : Int32)) - (x5 / (2 : Int32)) / (2 : Int32) * (2 : Int32)) (x5 - x5 / (2 : Int32) * (2 : Int32)) h) fun q1 =>
    if ¬ q1.2 = 0 then
      if ¬ x3 = 0 then
        k_M_law_39 d (some x0) x1 x2 (x3 + 1) x4 (x5 + 1) q1.1
      else
        k_M_law_39 d (some x0) x1 x2 (x3 + 1) x5 (x5 + 1) q1.1
    else
      k_M_law_39 d (some x0) x1 x2 x3 x4 (x5 + 1) q1.1
    else none
    else none
    else none
    else none
    else none := (sk_XT_evL sk_rec t_I d 225 83 _ (fun _ => rfl)).trans rfl
set_option maxRecDepth 100000 in
theorem e_M_seed (d : Nat) (x0 : Nat) (x1 : Int32) (h : sk_H) : c_M_seed d (some x0) x1 h =
  if 0 ≤ x1 then
    if hK h x0 = 13 then
    if hK h x0 = 13 then
    let h1 := wI h x0 21 x1
    some (h1, hI h x0 21)
    else none
    else none
  else
    some (h, ((-1) : Int32)) := (sk_XT_evL sk_rec t_I d 226 14 _ (fun _ => rfl)).trans rfl
set_option maxRecDepth 100000 in
theorem e_M_draw (d : Nat) (x0 : Nat) (x1 : Int32) (h : sk_H) : c_M_draw d (some x0) x1 h =
  if hK h x0 = 13 then
  if ¬ (2147483648 : Int64) = 0 then
  if hK h x0 = 13 then
  let h1 := wJ h x0 34 ((((hJ h x0 34) * (1103515245 : Int64)) + (12345 : Int64)) - (((hJ h x0 34) * (1103515245 : Int64)) + (12345 : Int64)) / (2147483648 : Int64) * (2147483648 : Int64))
  if hK h1 x0 = 13 then
  if ¬ (65536 : Int64) = 0 then
  if ¬ x1.toInt64 = 0 then
  some (h1, (((hJ h1 x0 34) / (65536 : Int64)) - ((hJ h1 x0 34) / (65536 : Int64)) / x1.toInt64 * x1.toInt64).toInt32)
  else none
  else none
  else none
  else none
  else none
  else none := (sk_XT_evL sk_rec t_I d 227 21 _ (fun _ => rfl)).trans rfl
set_option maxRecDepth 100000 in
theorem e_M_strokeDrawn (d : Nat) (x0 : Nat) (x1 : Int32) (h : sk_H) : c_M_strokeDrawn d (some x0) x1 h =
  k_M_strokeDrawn_4 d (some x0) x1 (0 : Int32) (0 : Int32) h := (sk_XT_evL sk_rec t_I d 228 79 _ (fun _ => rfl)).trans rfl
set_option maxRecDepth 100000 in
theorem e_M_strokeDrawn_4 (d : Nat) (x0 : Nat) (x1 : Int32) (x2 : Int32) (x3 : Int32) (h : sk_H) : k_M_strokeDrawn_4 d (some x0) x1 x2 x3 h =
  if hK h x0 = 13 then
  Option.bind (hR h x0 20) fun a1 => if (hK h a1 = 101 ∨ hK h a1 = 201) ∧ sk_in (1 : Int32) (hN h a1) then
  if (hI h a1 (1 : Int32).toNatClampNeg) ≤ x3 then
    if ¬ x2 = 0 then
      if hK h x0 = 13 then
      Option.bind (c_M_draw d (some x0) x2 h) fun q2 =>
      k_M_strokeDrawn_69 d (some x0) x1 q2.2 (0 : Int32) q2.1
      else none
    else
      some (h, ((-1) : Int32))
  else
    k_M_strokeDrawn_17 d (some x0) x1 x2 x3 (1 : Int32) h
  else none
  else none := (sk_XT_evL sk_rec t_I d 228 79 _ (fun _ => rfl)).trans rfl
set_option maxRecDepth 100000 in
theorem e_M_strokeDrawn_17 (d : Nat) (x0 : Nat) (x1 : Int32) (x2 : Int32) (x3 : Int32) (x4 : Int32) (h : sk_H) : k_M_strokeDrawn_17 d (some x0) x1 x2 x3 x4 h =
  if (4 : Int32) < x4 then
    k_M_strokeDrawn_4 d (some x0) x1 x2 (x3 + 1) h
  else
    if hK h x0 = 13 then
    Option.bind (c_M_canBeNow d (some x0) x1 x3 x4 h) fun q1 =>
    if q1.2 = 0 then
      k_M_strokeDrawn_17 d (some x0) x1 (x2 + (0 : Int32)) x3 (x4 + 1) q1.1
    else
      k_M_strokeDrawn_17 d (some x0) x1 (x2 + (1 : Int32)) x3 (x4 + 1) q1.1
    else none := (sk_XT_evL sk_rec t_I d 228 79 _ (fun _ => rfl)).trans rfl
set_option maxRecDepth 100000 in
theorem e_M_strokeDrawn_69 (d : Nat) (x0 : Nat) (x1 : Int32) (x3 : Int32) (x4 : Int32) (h : sk_H) : k_M_strokeDrawn_69 d (some x0) x1 x3 x4 h =
  if hK h x0 = 13 then
  Option.bind (hR h x0 20) fun a1 => if (hK h a1 = 101 ∨ hK h a1 = 201) ∧ sk_in (1 : Int32) (hN h a1) then
  if (hI h a1 (1 : Int32).toNatClampNeg) ≤ x4 then
    some (h, ((-1) : Int32))
  else
    k_M_strokeDrawn_83 d (some x0) x1 x3 x4 (1 : Int32) h
  else none
  else none := (sk_XT_evL sk_rec t_I d 228 79 _ (fun _ => rfl)).trans rfl
set_option maxRecDepth 100000 in
theorem e_M_strokeDrawn_83 (d : Nat) (x0 : Nat) (x1 : Int32) (x3 : Int32) (x4 : Int32) (x5 : Int32) (h : sk_H) : k_M_strokeDrawn_83 d (some x0) x1 x3 x4 x5 h =
  if (4 : Int32) < x5 then
    k_M_strokeDrawn_69 d (some x0) x1 x3 (x4 + 1) h
  else
    if hK h x0 = 13 then
    Option.bind (c_M_canBeNow d (some x0) x1 x4 x5 h) fun q1 =>
    if ¬ q1.2 = 0 then
      if ¬ x3 = 0 then
        k_M_strokeDrawn_83 d (some x0) x1 (x3 + (-1)) x4 (x5 + 1) q1.1
      else
        if hK q1.1 x0 = 13 then
        Option.bind (c_M_strokeBits d (some x0) x4 x5 q1.1) fun q2 =>
        some (q2.1, x1 &&& (q2.2 ^^^ ((-1) : Int32)))
        else none
    else
      k_M_strokeDrawn_83 d (some x0) x1 x3 x4 (x5 + 1) q1.1
    else none := (sk_XT_evL sk_rec t_I d 228 79 _ (fun _ => rfl)).trans rfl
set_option maxRecDepth 100000 in
theorem e_M_playsDrawn (d : Nat) (x0 : Nat) (x1 : Int32) (x2 : Int32) (h : sk_H) : c_M_playsDrawn d (some x0) x1 x2 h =
  if hK h x0 = 13 then
  if hK h x0 = 13 then
  let h1 := wJ h x0 34 ((hI h x0 21).toInt64)
  if hK h1 x0 = 13 then
  let h2 := wI h1 x0 35 (0 : Int32)
  if hK h2 x0 = 13 then
  let h3 := wI h2 x0 36 (0 : Int32)
  k_M_playsDrawn_21 d (some x0) x1 x2 (0 : Int32) h3
  else none
  else none
  else none
  else none := (sk_XT_evL sk_rec t_V d 229 92 _ (fun _ => rfl)).trans rfl
set_option maxRecDepth 100000 in
theorem e_M_playsDrawn_21 (d : Nat) (x0 : Nat) (x1 : Int32) (x2 : Int32) (x3 : Int32) (h : sk_H) : k_M_playsDrawn_21 d (some x0) x1 x2 x3 h =
  if x2 ≤ x3 then
    some h
  else
    if hK h x0 = 13 then
    Option.bind (hR h x0 20) fun a1 => if (hK h a1 = 101 ∨ hK h a1 = 201) ∧ sk_in (8 : Int32) (hN h a1) then
    if hK h x0 = 13 then
    Option.bind (hR h x0 20) fun a2 => if (hK h a2 = 101 ∨ hK h a2 = 201) ∧ sk_in (7 : Int32) (hN h a2) then
    k_M_playsDrawn_50 d (some x0) x1 x2 x3 (hI h a1 (8 : Int32).toNatClampNeg) (hI h a2 (7 : Int32).toNatClampNeg) (0 : Int32) (1 : Int32) h
    else none
    else none
    else none
    else none := (sk_XT_evL sk_rec t_V d 229 92 _ (fun _ => rfl)).trans rfl
set_option maxRecDepth 100000 in
theorem e_M_playsDrawn_50 (d : Nat) (x0 : Nat) (x1 : Int32) (x2 : Int32) (x3 : Int32) (x4 : Int32) (x5 : Int32) (x6 : Int32) (x7 : Int32) (h : sk_H) : k_M_playsDrawn_50 d (some x0) x1 x2 x3 x4 x5 x6 x7 h =
  if x7 = 0 then
    if hK h x0 = 13 then
    if hK h x0 = 13 then
    let h1 := wI h x0 36 ((hI h x0 36) + x6)
    if hK h1 x0 = 13 then
    if hK h1 x0 = 13 then
    Option.bind (c_M_winner d (some x0) x5 h1) fun q2 =>
    if ¬ q2.2 = 0 then
      if hK q2.1 x0 = 13 then
      let h3 := wI q2.1 x0 35 ((hI h1 x0 35) + (0 : Int32))
      k_M_playsDrawn_21 d (some x0) x1 x2 (x3 + 1) h3
      else none
    else
      if hK q2.1 x0 = 13 then
      let h4 := wI q2.1 x0 35 ((hI h1 x0 35) + (1 : Int32))
      k_M_playsDrawn_21 d (some x0) x1 x2 (x3 + 1) h4
      else none
    else none
    else none
    else none
    else none
  else
    if ¬ x5 = 0 then
      if hK h x0 = 13 then
      Option.bind (c_M_strokeDrawn d (some x0) x4 h) fun q5 =>
      k_M_playsDrawn_92 d (some x0) x1 x2 x3 x4 x5 x6 q5.2 q5.1
      else none
    else
      if x1 < 0 then
        if hK h x0 = 13 then
        Option.bind (c_M_strokeDrawn d (some x0) x4 h) fun q6 =>
        k_M_playsDrawn_92 d (some x0) x1 x2 x3 x4 x5 x6 q6.2 q6.1
        else none
      else
        if hK h x0 = 13 then
        Option.bind (hR h x0 20) fun a7 => if (hK h a7 = 101 ∨ hK h a7 = 201) ∧ sk_in (9 : Int32) (hN h a7) then
        if hK h x0 = 13 then
        Option.bind (c_M_strokeBy d (some x0) x1 x4 x5 ((hI h a7 (9 : Int32).toNatClampNeg) + x6) h) fun q8 =>
        k_M_playsDrawn_92 d (some x0) x1 x2 x3 x4 x5 x6 q8.2 q8.1
        else none
        else none
        else none := (sk_XT_evL sk_rec t_V d 229 92 _ (fun _ => rfl)).trans rfl
set_option maxRecDepth 100000 in
theorem e_M_playsDrawn_92 (d : Nat) (x0 : Nat) (x1 : Int32) (x2 : Int32) (x3 : Int32) (x4 : Int32) (x5 : Int32) (x6 : Int32) (s0 : Int32) (h : sk_H) : k_M_playsDrawn_92 d (some x0) x1 x2 x3 x4 x5 x6 s0 h =
  if s0 < 0 then
    if ¬ (0 : Int32) = 0 then
      k_M_playsDrawn_50 d (some x0) x1 x2 x3 s0 ((1 : Int32) - x5) (x6 + 1) (0 : Int32) h
    else
      k_M_playsDrawn_50 d (some x0) x1 x2 x3 x4 x5 x6 (0 : Int32) h
  else
    if ¬ (1 : Int32) = 0 then
      k_M_playsDrawn_50 d (some x0) x1 x2 x3 s0 ((1 : Int32) - x5) (x6 + 1) (1 : Int32) h
    else
      k_M_playsDrawn_50 d (some x0) x1 x2 x3 x4 x5 x6 (1 : Int32) h := (sk_XT_evL sk_rec t_V d 229 92 _ (fun _ => rfl)).trans rfl
set_option maxRecDepth 100000 in
theorem e_M_games (d : Nat) (x0 : Nat) (x1 : Int32) (x2 : Int32) (h : sk_H) : c_M_games d (some x0) x1 x2 h =
  if hK h x0 = 13 then
  Option.bind (c_M_isAlley d (some x0) h) fun q1 =>
  if q1.2 = 0 then
    some (q1.1, ((-1) : Int32))
  else
    Option.bind (c_M_in d x1.toInt64 (1 : Int64) (50 : Int64) q1.1) fun q2 =>
    if q2.2 = 0 then
      some (q2.1, ((-1) : Int32))
    else
      Option.bind (c_M_in d x2.toInt64 (0 : Int64) (1 : Int64) q2.1) fun q3 =>
      if ¬ q3.2 = 0 then
        if hK q3.1 x0 = 13 then
        Option.bind (c_M_playsDrawn d (some x0) ((-1) : Int32) x1 q3.1) fun q4 =>
        if ¬ x2 = 0 then
          if hK q4 x0 = 13 then
          some (q4, hI q4 x0 36)
          else none
        else
          if hK q4 x0 = 13 then
          some (q4, hI q4 x0 35)
          else none
        else none
      else
        some (q3.1, ((-1) : Int32))
  else none := (sk_XT_evL sk_rec t_I d 230 31 _ (fun _ => rfl)).trans rfl
set_option maxRecDepth 100000 in
theorem e_M_against (d : Nat) (x0 : Nat) (x1 : Int32) (x2 : Int32) (x3 : Int32) (h : sk_H) : c_M_against d (some x0) x1 x2 x3 h =
  if hK h x0 = 13 then
  Option.bind (c_M_isAlley d (some x0) h) fun q1 =>
  if q1.2 = 0 then
    some (q1.1, ((-1) : Int32))
  else
    if hK q1.1 x0 = 13 then
    Option.bind (c_M_isRule d (some x0) x1 q1.1) fun q2 =>
    if q2.2 = 0 then
      some (q2.1, ((-1) : Int32))
    else
      Option.bind (c_M_in d x2.toInt64 (1 : Int64) (50 : Int64) q2.1) fun q3 =>
      if q3.2 = 0 then
        some (q3.1, ((-1) : Int32))
      else
        Option.bind (c_M_in d x3.toInt64 (0 : Int64) (1 : Int64) q3.1) fun q4 =>
        if ¬ q4.2 = 0 then
          if hK q4.1 x0 = 13 then
          Option.bind (c_M_playsDrawn d (some x0) x1 x2 q4.1) fun q5 =>
          if ¬ x3 = 0 then
            if hK q5 x0 = 13 then
            some (q5, hI q5 x0 36)
            else none
          else
            if hK q5 x0 = 13 then
            some (q5, hI q5 x0 35)
            else none
          else none
        else
          some (q4.1, ((-1) : Int32))
    else none
  else none := (sk_XT_evL sk_rec t_I d 231 35 _ (fun _ => rfl)).trans rfl
set_option maxRecDepth 100000 in
theorem e_M_count (d : Nat) (x0 : Nat) (x1 : Int32) (h : sk_H) : c_M_count d (some x0) x1 h =
  if x1 = 0 then
    if (1 : Int32) ≤ x1 then
      if hK h x0 = 13 then
      Option.bind (hR h x0 20) fun a1 => if (hK h a1 = 101 ∨ hK h a1 = 201) ∧ sk_in (x1 + (1 : Int32)) (hN h a1) then
      some (h, hI h a1 (x1 + (1 : Int32)).toNatClampNeg)
      else none
      else none
    else
      if hK h x0 = 13 then
      Option.bind (hR h x0 20) fun a2 => if (hK h a2 = 101 ∨ hK h a2 = 201) ∧ sk_in (1 : Int32) (hN h a2) then
      some (h, hI h a2 (1 : Int32).toNatClampNeg)
      else none
      else none
  else if x1 = 1 then
    if (1 : Int32) ≤ x1 then
      if hK h x0 = 13 then
      Option.bind (hR h x0 20) fun a3 => if (hK h a3 = 101 ∨ hK h a3 = 201) ∧ sk_in (x1 + (1 : Int32)) (hN h a3) then
      some (h, hI h a3 (x1 + (1 : Int32)).toNatClampNeg)
      else none
      else none
    else
      if hK h x0 = 13 then
      Option.bind (hR h x0 20) fun a4 => if (hK h a4 = 101 ∨ hK h a4 = 201) ∧ sk_in (1 : Int32) (hN h a4) then
      some (h, hI h a4 (1 : Int32).toNatClampNeg)
      else none
      else none
  else if x1 = 2 then
    if (1 : Int32) ≤ x1 then
      if hK h x0 = 13 then
      Option.bind (hR h x0 20) fun a5 => if (hK h a5 = 101 ∨ hK h a5 = 201) ∧ sk_in (x1 + (1 : Int32)) (hN h a5) then
      some (h, hI h a5 (x1 + (1 : Int32)).toNatClampNeg)
      else none
      else none
    else
      if hK h x0 = 13 then
      Option.bind (hR h x0 20) fun a6 => if (hK h a6 = 101 ∨ hK h a6 = 201) ∧ sk_in (1 : Int32) (hN h a6) then
      some (h, hI h a6 (1 : Int32).toNatClampNeg)
      else none
      else none
  else if x1 = 3 then
    if (1 : Int32) ≤ x1 then
      if hK h x0 = 13 then
      Option.bind (hR h x0 20) fun a7 => if (hK h a7 = 101 ∨ hK h a7 = 201) ∧ sk_in (x1 + (1 : Int32)) (hN h a7) then
      some (h, hI h a7 (x1 + (1 : Int32)).toNatClampNeg)
      else none
      else none
    else
      if hK h x0 = 13 then
      Option.bind (hR h x0 20) fun a8 => if (hK h a8 = 101 ∨ hK h a8 = 201) ∧ sk_in (1 : Int32) (hN h a8) then
      some (h, hI h a8 (1 : Int32).toNatClampNeg)
      else none
      else none
  else if x1 = 4 then
    if (1 : Int32) ≤ x1 then
      if hK h x0 = 13 then
      Option.bind (hR h x0 20) fun a9 => if (hK h a9 = 101 ∨ hK h a9 = 201) ∧ sk_in (x1 + (1 : Int32)) (hN h a9) then
      some (h, hI h a9 (x1 + (1 : Int32)).toNatClampNeg)
      else none
      else none
    else
      if hK h x0 = 13 then
      Option.bind (hR h x0 20) fun a10 => if (hK h a10 = 101 ∨ hK h a10 = 201) ∧ sk_in (1 : Int32) (hN h a10) then
      some (h, hI h a10 (1 : Int32).toNatClampNeg)
      else none
      else none
  else if x1 = 5 then
    if (1 : Int32) ≤ x1 then
      if hK h x0 = 13 then
      Option.bind (hR h x0 20) fun a11 => if (hK h a11 = 101 ∨ hK h a11 = 201) ∧ sk_in (x1 + (1 : Int32)) (hN h a11) then
      some (h, hI h a11 (x1 + (1 : Int32)).toNatClampNeg)
      else none
      else none
    else
      if hK h x0 = 13 then
      Option.bind (hR h x0 20) fun a12 => if (hK h a12 = 101 ∨ hK h a12 = 201) ∧ sk_in (1 : Int32) (hN h a12) then
      some (h, hI h a12 (1 : Int32).toNatClampNeg)
      else none
      else none
  else if x1 = 6 then
    if hK h x0 = 13 then
    some (h, hI h x0 2)
    else none
  else if x1 = 7 then
    if hK h x0 = 13 then
    Option.bind (hR h x0 20) fun a13 => if (hK h a13 = 101 ∨ hK h a13 = 201) ∧ sk_in (7 : Int32) (hN h a13) then
    some (h, hI h a13 (7 : Int32).toNatClampNeg)
    else none
    else none
  else if x1 = 8 then
    if hK h x0 = 13 then
    Option.bind (hR h x0 20) fun a14 => if (hK h a14 = 101 ∨ hK h a14 = 201) ∧ sk_in (8 : Int32) (hN h a14) then
    some (h, hI h a14 (8 : Int32).toNatClampNeg)
    else none
    else none
  else if x1 = 9 then
    if hK h x0 = 13 then
    Option.bind (hR h x0 20) fun a15 => if (hK h a15 = 101 ∨ hK h a15 = 201) ∧ sk_in (9 : Int32) (hN h a15) then
    some (h, hI h a15 (9 : Int32).toNatClampNeg)
    else none
    else none
  else if x1 = 10 then
    if hK h x0 = 13 then
    some (h, hI h x0 25)
    else none
  else if x1 = 11 then
    if hK h x0 = 13 then
    some (h, hI h x0 21)
    else none
  else if x1 = 12 then
    if hK h x0 = 13 then
    some (h, hI h x0 1)
    else none
  else some (h, ((-1) : Int32)) := (sk_XT_evL sk_rec t_I d 232 48 _ (fun _ => rfl)).trans rfl
set_option maxRecDepth 100000 in
theorem e_M_image (d : Nat) (x0 : Nat) (x1 : Int32) (h : sk_H) : c_M_image d (some x0) x1 h =
  Option.bind (c_M_in d x1.toInt64 (0 : Int64) (3 : Int64) h) fun q1 =>
  if ¬ q1.2 = 0 then
    if hK q1.1 x0 = 13 then
    Option.bind (hR q1.1 x0 39) fun a2 => if (hK q1.1 a2 = 104 ∨ (hK q1.1 a2 = 103 ∧ ((1 : Int32) = 0 ∨ (1 : Int32) = 1))) ∧ sk_in x1 (hN q1.1 a2) then
    let h3 := wI q1.1 a2 x1.toNatClampNeg ((1 : Int32).toInt8.toInt32)
    if hK h3 x0 = 13 then
    if hK h3 x0 = 13 then
    Option.bind (hR h3 x0 38) fun a4 => if hK h3 a4 = 101 ∧ sk_in x1 (hN h3 a4) then
    let h5 := wI h3 a4 x1.toNatClampNeg (hI h3 x0 21)
    k_M_image_33 d (some x0) x1 (0 : Int32) h5
    else none
    else none
    else none
    else none
    else none
  else
    some (q1.1, ((-1) : Int32)) := (sk_XT_evL sk_rec t_I d 233 45 _ (fun _ => rfl)).trans rfl
set_option maxRecDepth 100000 in
theorem e_M_image_33 (d : Nat) (x0 : Nat) (x1 : Int32) (x2 : Int32) (h : sk_H) : k_M_image_33 d (some x0) x1 x2 h =
  if (184 : Int32) ≤ x2 then
    if hK h x0 = 13 then
    Option.bind (hR h x0 20) fun a1 => if (hK h a1 = 101 ∨ hK h a1 = 201) ∧ sk_in (9 : Int32) (hN h a1) then
    some (h, hI h a1 (9 : Int32).toNatClampNeg)
    else none
    else none
  else
    if hK h x0 = 13 then
    if hK h x0 = 13 then
    Option.bind (hR h x0 20) fun a2 => if (hK h a2 = 101 ∨ hK h a2 = 201) ∧ sk_in x2 (hN h a2) then
    Option.bind (hR h x0 37) fun a3 => if hK h a3 = 101 ∧ sk_in (((184 : Int32) * x1) + x2) (hN h a3) then
    let h4 := wI h a3 (((184 : Int32) * x1) + x2).toNatClampNeg (hI h a2 x2.toNatClampNeg)
    k_M_image_33 d (some x0) x1 (x2 + 1) h4
    else none
    else none
    else none
    else none := (sk_XT_evL sk_rec t_I d 233 45 _ (fun _ => rfl)).trans rfl
set_option maxRecDepth 100000 in
theorem e_M_back (d : Nat) (x0 : Nat) (x1 : Int32) (h : sk_H) : c_M_back d (some x0) x1 h =
  Option.bind (c_M_in d x1.toInt64 (0 : Int64) (3 : Int64) h) fun q1 =>
  if q1.2 = 0 then
    some (q1.1, ((-1) : Int32))
  else
    if hK q1.1 x0 = 13 then
    Option.bind (hR q1.1 x0 39) fun a2 => if (hK q1.1 a2 = 103 ∨ hK q1.1 a2 = 104 ∨ hK q1.1 a2 = 204) ∧ sk_in x1 (hN q1.1 a2) then
    if ¬ (hI q1.1 a2 x1.toNatClampNeg) = 0 then
      if hK q1.1 x0 = 13 then
      Option.bind (hR q1.1 x0 38) fun a3 => if (hK q1.1 a3 = 101 ∨ hK q1.1 a3 = 201) ∧ sk_in x1 (hN q1.1 a3) then
      if hK q1.1 x0 = 13 then
      let h4 := wI q1.1 x0 21 (hI q1.1 a3 x1.toNatClampNeg)
      if hK h4 x0 = 13 then
      let h5 := wI h4 x0 25 (0 : Int32)
      if hK h5 x0 = 13 then
      let h6 := wI h5 x0 23 ((-1) : Int32)
      k_M_back_45 d (some x0) x1 (0 : Int32) h6
      else none
      else none
      else none
      else none
      else none
    else
      some (q1.1, ((-1) : Int32))
    else none
    else none := (sk_XT_evL sk_rec t_I d 234 51 _ (fun _ => rfl)).trans rfl
set_option maxRecDepth 100000 in
theorem e_M_back_45 (d : Nat) (x0 : Nat) (x1 : Int32) (x2 : Int32) (h : sk_H) : k_M_back_45 d (some x0) x1 x2 h =
  if (184 : Int32) ≤ x2 then
    if hK h x0 = 13 then
    Option.bind (hR h x0 20) fun a1 => if (hK h a1 = 101 ∨ hK h a1 = 201) ∧ sk_in (9 : Int32) (hN h a1) then
    some (h, hI h a1 (9 : Int32).toNatClampNeg)
    else none
    else none
  else
    if hK h x0 = 13 then
    if hK h x0 = 13 then
    Option.bind (hR h x0 37) fun a2 => if (hK h a2 = 101 ∨ hK h a2 = 201) ∧ sk_in (((184 : Int32) * x1) + x2) (hN h a2) then
    Option.bind (hR h x0 20) fun a3 => if hK h a3 = 101 ∧ sk_in x2 (hN h a3) then
    let h4 := wI h a3 x2.toNatClampNeg (hI h a2 (((184 : Int32) * x1) + x2).toNatClampNeg)
    k_M_back_45 d (some x0) x1 (x2 + 1) h4
    else none
    else none
    else none
    else none := (sk_XT_evL sk_rec t_I d 234 51 _ (fun _ => rfl)).trans rfl
