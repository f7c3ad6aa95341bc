set_option maxRecDepth 100000 in
theorem e_SR_init (d : Nat) (x0 : Nat) (h : sk_H) : c_SR_init d (some x0) h =
  let n1 := hn h
  let h2 := hnew h 105 400
  if hK h2 x0 = 12 then
  let h3 := wR h2 x0 0 (some n1)
  let n4 := hn h3
  let h5 := hnew h3 106 6
  if hK h5 x0 = 12 then
  let h6 := wR h5 x0 2 (some n4)
  let n7 := hn h6
  let h8 := hnew h6 9 8
  if hK h8 n7 = 9 then
  Option.bind (c_St_init d (some n7) h8) fun q9 =>
  if hK q9 x0 = 12 then
  let h10 := wR q9 x0 4 (some n7)
  let n11 := hn h10
  let h12 := hnew h10 107 4
  if hK h12 x0 = 12 then
  let h13 := wR h12 x0 5 (some n11)
  let n14 := hn h13
  let h15 := hnew h13 1 5
  if hK h15 n14 = 1 then
  Option.bind (c_Ac_init d (some n14) h15) fun q16 =>
  if hK q16 x0 = 12 then
  let h17 := wR q16 x0 6 (some n14)
  let n18 := hn h17
  let h19 := hnew h17 11 14
  if hK h19 n18 = 11 then
  Option.bind (c_Ta_init d (some n18) h19) fun q20 =>
  if hK q20 x0 = 12 then
  let h21 := wR q20 x0 7 (some n18)
  let n22 := hn h21
  let h23 := hnew h21 4 9
  if hK h23 n22 = 4 then
  Option.bind (c_Bo_init d (some n22) h23) fun q24 =>
  if hK q24 x0 = 12 then
  let h25 := wR q24 x0 8 (some n22)
  some h25
  else none
  else none
  else none
  else none
  else none
  else none
  else none
  else none
  else none
  else none
  else none := (sk_XT_evL sk_rec t_V d 91 37 _ (fun _ => rfl)).trans rfl
set_option maxRecDepth 100000 in
theorem e_SR_feed (d : Nat) (x0 : Nat) (x1 : Int32) (x2 : Int32) (x3 : Int32) (x4 : Int32) (x5 : Int32) (h : sk_H) : c_SR_feed d (some x0) x1 x2 x3 x4 x5 h =
  if hK h x0 = 12 then
  if ((hI h x0 1) + (20 : Int32)) ≤ (400 : Int32) then
    if hK h x0 = 12 then
    Option.bind (c_SR_putBytes d (some x0) x1 h) fun q1 =>
    if hK q1 x0 = 12 then
    Option.bind (c_SR_putBytes d (some x0) x2 q1) fun q2 =>
    if hK q2 x0 = 12 then
    Option.bind (c_SR_putBytes d (some x0) x3 q2) fun q3 =>
    if hK q3 x0 = 12 then
    Option.bind (c_SR_putBytes d (some x0) x4 q3) fun q4 =>
    if hK q4 x0 = 12 then
    Option.bind (c_SR_putBytes d (some x0) x5 q4) fun q5 =>
    if hK q5 x0 = 12 then
    some (q5, hI q5 x0 1)
    else none
    else none
    else none
    else none
    else none
    else none
  else
    some (h, ((-1) : Int32))
  else none := (sk_XT_evL sk_rec t_I d 92 28 _ (fun _ => rfl)).trans rfl
set_option maxRecDepth 100000 in
theorem e_SR_putBytes (d : Nat) (x0 : Nat) (x1 : Int32) (h : sk_H) : c_SR_putBytes d (some x0) x1 h =
  k_SR_putBytes_3 d (some x0) x1 (24 : Int32) h := (sk_XT_evL sk_rec t_V d 93 30 _ (fun _ => rfl)).trans rfl
set_option maxRecDepth 100000 in
theorem e_SR_putBytes_3 (d : Nat) (x0 : Nat) (x1 : Int32) (x2 : Int32) (h : sk_H) : k_SR_putBytes_3 d (some x0) x1 x2 h =
  if x2 < 0 then
    some h
  else
    if hK h x0 = 12 then
    if (400 : Int32) ≤ (hI h x0 1) then
      some h
    else
      if hK h x0 = 12 then
      if hK h x0 = 12 then
      Option.bind (hR h x0 0) fun a1 => if hK h a1 = 105 ∧ sk_in (hI h x0 1) (hN h a1) then
      let h2 := wI h a1 (hI h x0 1).toNatClampNeg ((((((x1.toUInt32 >>> (x2.toUInt32 &&& Int32.toUInt32 31)).toInt32) &&& (255 : Int32)).toUInt32 % 65536).toInt32).toUInt32.toUInt16.toUInt32.toInt32)
      if hK h2 x0 = 12 then
      if hK h2 x0 = 12 then
      let h3 := wI h2 x0 1 ((hI h2 x0 1) + (1 : Int32))
      k_SR_putBytes_3 d (some x0) x1 (x2 + (-8)) h3
      else none
      else none
      else none
      else none
      else none
    else none := (sk_XT_evL sk_rec t_V d 93 30 _ (fun _ => rfl)).trans rfl
set_option maxRecDepth 100000 in
theorem e_SR_end (d : Nat) (x0 : Nat) (x1 : Int32) (h : sk_H) : c_SR_end d (some x0) x1 h =
  if x1 < 0 then
    some (h, ((-1) : Int32))
  else
    if hK h x0 = 12 then
    if x1 ≤ (hI h x0 1) then
      if hK h x0 = 12 then
      let h1 := wI h x0 1 x1
      some (h1, x1)
      else none
    else
      some (h, ((-1) : Int32))
    else none := (sk_XT_evL sk_rec t_I d 94 15 _ (fun _ => rfl)).trans rfl
set_option maxRecDepth 100000 in
theorem e_SR_alley (d : Nat) (x0 : Nat) (h : sk_H) : c_SR_alley d (some x0) h =
  let n1 := hn h
  let h2 := hnew h 6 4
  if hK h2 x0 = 12 then
  if hK h2 x0 = 12 then
  if hK h2 n1 = 6 then
  Option.bind (c_Re_init d (some n1) (hR h2 x0 0) (hI h2 x0 1) h2) fun q3 =>
  let n4 := hn q3
  let h5 := hnew q3 3 2
  if hK h5 n4 = 3 then
  Option.bind (c_AR_init d (some n4) (some n1) h5) fun q6 =>
  if hK q6 n4 = 3 then
  Option.bind (c_AR_read d (some n4) q6) fun q7 =>
  if hK q7.1 x0 = 12 then
  let h8 := wI q7.1 x0 1 (0 : Int32)
  if hK h8 n1 = 6 then
  Option.bind (c_Re_sound d (some n1) h8) fun q9 =>
  if ¬ q9.2 = 0 then
    if hK q9.1 x0 = 12 then
    Option.bind (hR q9.1 x0 4) fun a16 => if hK q9.1 a16 = 9 then
    Option.bind (c_St_begin d (hR q9.1 x0 4) q7.2 q9.1) fun q10 =>
    if hK q10 x0 = 12 then
    Option.bind (hR q10 x0 6) fun a15 => if hK q10 a15 = 1 then
    Option.bind (c_Ac_forget d (hR q10 x0 6) q10) fun q11 =>
    if hK q11 x0 = 12 then
    Option.bind (hR q11 x0 7) fun a14 => if hK q11 a14 = 11 then
    Option.bind (c_Ta_use d (hR q11 x0 7) q7.2 q11) fun q12 =>
    Option.bind q7.2 fun a13 => if hK q12 a13 = 2 then
    some (q12, hI q12 a13 2)
    else none
    else none
    else none
    else none
    else none
    else none
    else none
  else
    if hK q9.1 n1 = 6 then
    some (q9.1, ((-2) : Int32) - (hI q9.1 n1 3))
    else none
  else none
  else none
  else none
  else none
  else none
  else none
  else none := (sk_XT_evL sk_rec t_I d 95 41 _ (fun _ => rfl)).trans rfl
set_option maxRecDepth 100000 in
theorem e_SR_rule (d : Nat) (x0 : Nat) (h : sk_H) : c_SR_rule d (some x0) h =
  if hK h x0 = 12 then
  if (hI h x0 3) < (6 : Int32) then
    let n1 := hn h
    let h2 := hnew h 6 4
    if hK h2 x0 = 12 then
    if hK h2 x0 = 12 then
    if hK h2 n1 = 6 then
    Option.bind (c_Re_init d (some n1) (hR h2 x0 0) (hI h2 x0 1) h2) fun q3 =>
    let n4 := hn q3
    let h5 := hnew q3 8 4
    if hK h5 n4 = 8 then
    Option.bind (c_RR_init d (some n4) (some n1) h5) fun q6 =>
    if hK q6 n4 = 8 then
    Option.bind (c_RR_read d (some n4) q6) fun q7 =>
    if hK q7.1 x0 = 12 then
    let h8 := wI q7.1 x0 1 (0 : Int32)
    if hK h8 n1 = 6 then
    Option.bind (c_Re_sound d (some n1) h8) fun q9 =>
    if ¬ q9.2 = 0 then
      if hK q9.1 x0 = 12 then
      if hK q9.1 x0 = 12 then
      Option.bind (hR q9.1 x0 2) fun a10 => if a_ref (hK q9.1 a10) = true ∧ sk_in (hI q9.1 x0 3) (hN q9.1 a10) ∧ (q7.2 = none ∨ hK q9.1 (q7.2.getD 0) = a_of (hK q9.1 a10)) then
      let h11 := wR q9.1 a10 (hI q9.1 x0 3).toNatClampNeg q7.2
      if hK h11 x0 = 12 then
      if hK h11 x0 = 12 then
      let h12 := wI h11 x0 3 ((hI h11 x0 3) + (1 : Int32))
      if hK h12 x0 = 12 then
      some (h12, (hI h12 x0 3) - (1 : Int32))
      else none
      else none
      else none
      else none
      else none
      else none
    else
      if hK q9.1 n1 = 6 then
      some (q9.1, ((-2) : Int32) - (hI q9.1 n1 3))
      else none
    else none
    else none
    else none
    else none
    else none
    else none
    else none
  else
    some (h, ((-1) : Int32))
  else none := (sk_XT_evL sk_rec t_I d 96 50 _ (fun _ => rfl)).trans rfl
set_option maxRecDepth 100000 in
theorem e_SR_place (d : Nat) (x0 : Nat) (x1 : Int32) (x2 : Int32) (h : sk_H) : c_SR_place d (some x0) x1 x2 h =
  if hK h x0 = 12 then
  Option.bind (hR h x0 4) fun a1 => if hK h a1 = 9 then
  if (hR h a1 0) = none then
    some (h, ((-1) : Int32))
  else
    if x1 < 0 then
      some (h, ((-1) : Int32))
    else
      Option.bind (hR h a1 0) fun a2 => if hK h a2 = 2 then
      if x1 < (hI h a2 2) then
        if x2 = 0 then
          if hK h x0 = 12 then
          Option.bind (hR h x0 4) fun a3 => if hK h a3 = 9 then
          some (h, ((hI h a3 1) >>> (x1 &&& 31)) &&& (1 : Int32))
          else none
          else none
        else if x2 = 1 then
          Option.bind (hR h a1 0) fun a4 => if hK h a4 = 2 then
          Option.bind (hR h a4 8) fun a5 => if (hK h a5 = 101 ∨ hK h a5 = 201) ∧ sk_in x1 (hN h a5) then
          some (h, hI h a5 x1.toNatClampNeg)
          else none
          else none
        else if x2 = 2 then
          Option.bind (hR h a1 0) fun a6 => if hK h a6 = 2 then
          Option.bind (hR h a6 12) fun a7 => if (hK h a7 = 101 ∨ hK h a7 = 201) ∧ sk_in x1 (hN h a7) then
          some (h, hI h a7 x1.toNatClampNeg)
          else none
          else none
        else if x2 = 3 then
          Option.bind (hR h a1 0) fun a8 => if hK h a8 = 2 then
          Option.bind (hR h a8 13) fun a9 => if (hK h a9 = 101 ∨ hK h a9 = 201) ∧ sk_in x1 (hN h a9) then
          some (h, hI h a9 x1.toNatClampNeg)
          else none
          else none
        else some (h, ((-1) : Int32))
      else
        some (h, ((-1) : Int32))
      else none
  else none
  else none := (sk_XT_evL sk_rec t_I d 97 43 _ (fun _ => rfl)).trans rfl
set_option maxRecDepth 100000 in
theorem e_SR_can (d : Nat) (x0 : Nat) (x1 : Int32) (x2 : Int32) (h : sk_H) : c_SR_can d (some x0) x1 x2 h =
  if hK h x0 = 12 then
  Option.bind (hR h x0 4) fun a1 => if hK h a1 = 9 then
  if ¬ (hR h a1 0) = none then
    if hK h x0 = 12 then
    Option.bind (hR h x0 4) fun a2 => if hK h a2 = 9 then
    if hK h x0 = 12 then
    Option.bind (hR h x0 4) fun a3 => if hK h a3 = 9 then
    Option.bind (hR h a2 0) fun a8 => if hK h a8 = 2 then
    Option.bind (c_Al_strokeOf d (hR h a2 0) (hI h a3 1) x1 x2 h) fun q4 =>
    if ¬ q4.2 = none then
      if hK q4.1 x0 = 12 then
      if hK q4.1 x0 = 12 then
      Option.bind (hR q4.1 x0 4) fun a5 => if hK q4.1 a5 = 9 then
      Option.bind (hR q4.1 x0 7) fun a7 => if hK q4.1 a7 = 11 then
      Option.bind (c_Ta_winsBy d (hR q4.1 x0 7) (hI q4.1 a5 1) q4.2 q4.1) fun q6 =>
      if q6.2 = 0 then
        some (q6.1, (1 : Int32))
      else
        some (q6.1, (2 : Int32))
      else none
      else none
      else none
      else none
    else
      some (q4.1, (0 : Int32))
    else none
    else none
    else none
    else none
    else none
  else
    some (h, ((-1) : Int32))
  else none
  else none := (sk_XT_evL sk_rec t_I d 98 34 _ (fun _ => rfl)).trans rfl
set_option maxRecDepth 100000 in
theorem e_SR_stroke (d : Nat) (x0 : Nat) (x1 : Int32) (x2 : Int32) (h : sk_H) : c_SR_stroke d (some x0) x1 x2 h =
  if hK h x0 = 12 then
  Option.bind (hR h x0 4) fun a1 => if hK h a1 = 9 then
  if ¬ (hR h a1 0) = none then
    if hK h x0 = 12 then
    Option.bind (hR h x0 4) fun a2 => if hK h a2 = 9 then
    if hK h x0 = 12 then
    Option.bind (hR h x0 4) fun a3 => if hK h a3 = 9 then
    Option.bind (hR h a2 0) fun a11 => if hK h a11 = 2 then
    Option.bind (c_Al_strokeOf d (hR h a2 0) (hI h a3 1) x1 x2 h) fun q4 =>
    if ¬ q4.2 = none then
      if hK q4.1 x0 = 12 then
      if hK q4.1 x0 = 12 then
      Option.bind (hR q4.1 x0 6) fun a10 => if hK q4.1 a10 = 1 then
      Option.bind (c_Ac_keep d (hR q4.1 x0 6) (hR q4.1 x0 4) q4.1) fun q5 =>
      if hK q5 x0 = 12 then
      Option.bind (hR q5 x0 4) fun a9 => if hK q5 a9 = 9 then
      Option.bind (c_St_play d (hR q5 x0 4) q4.2 q5) fun q6 =>
      if hK q6 x0 = 12 then
      Option.bind (hR q6 x0 4) fun a7 => if hK q6 a7 = 9 then
      Option.bind (c_JI_bitCount d (hI q6 a7 1) q6) fun q8 =>
      some (q8.1, q8.2)
      else none
      else none
      else none
      else none
      else none
      else none
      else none
    else
      some (q4.1, ((-1) : Int32))
    else none
    else none
    else none
    else none
    else none
  else
    some (h, ((-1) : Int32))
  else none
  else none := (sk_XT_evL sk_rec t_I d 99 36 _ (fun _ => rfl)).trans rfl
set_option maxRecDepth 100000 in
theorem e_SR_up (d : Nat) (x0 : Nat) (x1 : Int32) (h : sk_H) : c_SR_up d (some x0) x1 h =
  if hK h x0 = 12 then
  Option.bind (hR h x0 4) fun a1 => if hK h a1 = 9 then
  if (hR h a1 0) = none then
    some (h, ((-1) : Int32))
  else
    if x1 < 0 then
      some (h, ((-1) : Int32))
    else
      if hK h x0 = 12 then
      Option.bind (hR h x0 4) fun a2 => if hK h a2 = 9 then
      Option.bind (hR h a2 0) fun a3 => if hK h a3 = 2 then
      if (hI h a3 2) ≤ x1 then
        some (h, ((-1) : Int32))
      else
        if hK h x0 = 12 then
        Option.bind (hR h x0 4) fun a4 => if hK h a4 = 9 then
        if ¬ (((hI h a4 1) >>> (x1 &&& 31)) &&& (1 : Int32)) = (1 : Int32) then
          if hK h x0 = 12 then
          if hK h x0 = 12 then
          Option.bind (hR h x0 6) fun a11 => if hK h a11 = 1 then
          Option.bind (c_Ac_keep d (hR h x0 6) (hR h x0 4) h) fun q5 =>
          if hK q5 x0 = 12 then
          Option.bind (hR q5 x0 4) fun a6 => if hK q5 a6 = 9 then
          Option.bind (hR q5 x0 4) fun a7 => if hK q5 a7 = 9 then
          let h8 := wI q5 a7 1 ((hI q5 a6 1) ||| ((1 : Int32) <<< (x1 &&& 31)))
          if hK h8 x0 = 12 then
          Option.bind (hR h8 x0 4) fun a9 => if hK h8 a9 = 9 then
          Option.bind (c_JI_bitCount d (hI h8 a9 1) h8) fun q10 =>
          some (q10.1, q10.2)
          else none
          else none
          else none
          else none
          else none
          else none
          else none
          else none
        else
          some (h, ((-1) : Int32))
        else none
        else none
      else none
      else none
      else none
  else none
  else none := (sk_XT_evL sk_rec t_I d 100 44 _ (fun _ => rfl)).trans rfl
set_option maxRecDepth 100000 in
theorem e_SR_pass (d : Nat) (x0 : Nat) (h : sk_H) : c_SR_pass d (some x0) h =
  if hK h x0 = 12 then
  Option.bind (hR h x0 4) fun a1 => if hK h a1 = 9 then
  if ¬ (hR h a1 0) = none then
    if hK h x0 = 12 then
    if hK h x0 = 12 then
    Option.bind (hR h x0 6) fun a7 => if hK h a7 = 1 then
    Option.bind (c_Ac_keep d (hR h x0 6) (hR h x0 4) h) fun q2 =>
    if hK q2 x0 = 12 then
    if hK q2 x0 = 12 then
    Option.bind (hR q2 x0 4) fun a3 => if hK q2 a3 = 9 then
    Option.bind (hR q2 x0 4) fun a4 => if hK q2 a4 = 9 then
    let h5 := wI q2 a4 2 ((1 : Int32) - (hI q2 a3 2))
    if hK h5 x0 = 12 then
    Option.bind (hR h5 x0 4) fun a6 => if hK h5 a6 = 9 then
    some (h5, hI h5 a6 2)
    else none
    else none
    else none
    else none
    else none
    else none
    else none
    else none
    else none
  else
    some (h, ((-1) : Int32))
  else none
  else none := (sk_XT_evL sk_rec t_I d 101 25 _ (fun _ => rfl)).trans rfl
set_option maxRecDepth 100000 in
theorem e_SR_undo (d : Nat) (x0 : Nat) (h : sk_H) : c_SR_undo d (some x0) h =
  if hK h x0 = 12 then
  if hK h x0 = 12 then
  Option.bind (hR h x0 6) fun a2 => if hK h a2 = 1 then
  Option.bind (c_Ac_takeBack d (hR h x0 6) (hR h x0 4) h) fun q1 =>
  some (q1.1, q1.2)
  else none
  else none
  else none := (sk_XT_evL sk_rec t_I d 102 8 _ (fun _ => rfl)).trans rfl
set_option maxRecDepth 100000 in
theorem e_SR_won (d : Nat) (x0 : Nat) (h : sk_H) : c_SR_won d (some x0) h =
  if hK h x0 = 12 then
  Option.bind (hR h x0 4) fun a1 => if hK h a1 = 9 then
  if ¬ (hR h a1 0) = none then
    if hK h x0 = 12 then
    if hK h x0 = 12 then
    Option.bind (hR h x0 4) fun a2 => if hK h a2 = 9 then
    Option.bind (hR h x0 7) fun a4 => if hK h a4 = 11 then
    Option.bind (c_Ta_canWin d (hR h x0 7) (hI h a2 1) h) fun q3 =>
    if q3.2 = 0 then
      some (q3.1, (0 : Int32))
    else
      some (q3.1, (1 : Int32))
    else none
    else none
    else none
    else none
  else
    some (h, ((-1) : Int32))
  else none
  else none := (sk_XT_evL sk_rec t_I d 103 19 _ (fun _ => rfl)).trans rfl
set_option maxRecDepth 100000 in
theorem e_SR_wins (d : Nat) (x0 : Nat) (x1 : Int32) (h : sk_H) : c_SR_wins d (some x0) x1 h =
  if hK h x0 = 12 then
  Option.bind (hR h x0 4) fun a1 => if hK h a1 = 9 then
  if (hR h a1 0) = none then
    some (h, ((-1) : Int32))
  else
    if x1 < 0 then
      some (h, ((-1) : Int32))
    else
      if x1 ≤ (2 : Int32) then
        if hK h x0 = 12 then
        Option.bind (hR h x0 4) fun a2 => if hK h a2 = 9 then
        Option.bind (hR h a2 0) fun a3 => if hK h a3 = 2 then
        Option.bind (hR h a3 14) fun a4 => if a_any (hK h a4) = true then
        k_SR_wins_45 d (some x0) x1 (0 : Int32) none (hR h a3 14) (Int32.ofNat (hN h a4)) (0 : Int32) h
        else none
        else none
        else none
        else none
      else
        some (h, ((-1) : Int32))
  else none
  else none := (sk_XT_evL sk_rec t_I d 104 77 _ (fun _ => rfl)).trans rfl
set_option maxRecDepth 100000 in
theorem e_SR_wins_45 (d : Nat) (x0 : Nat) (x1 : Int32) (x2 : Int32) (x3 : Option Nat) (x4 : Option Nat) (x5 : Int32) (x6 : Int32) (h : sk_H) : k_SR_wins_45 d (some x0) x1 x2 x3 x4 x5 x6 h =
  if x5 ≤ x6 then
    if ¬ x1 = 0 then
      if ¬ x3 = none then
        if ¬ x1 = (1 : Int32) then
          Option.bind x3 fun a1 => if hK h a1 = 10 then
          some (h, hI h a1 1)
          else none
        else
          Option.bind x3 fun a2 => if hK h a2 = 10 then
          some (h, hI h a2 0)
          else none
      else
        some (h, ((-2) : Int32))
    else
      some (h, x2)
  else
    Option.bind x4 fun a3 => if a_ref (hK h a3) = true ∧ sk_in x6 (hN h a3) then
    if hK h x0 = 12 then
    Option.bind (hR h x0 4) fun a4 => if hK h a4 = 9 then
    if hK h x0 = 12 then
    Option.bind (hR h x0 4) fun a5 => if hK h a5 = 9 then
    Option.bind (hR h a4 0) fun a10 => if hK h a10 = 2 then
    Option.bind (c_Al_allows d (hR h a4 0) (hI h a5 1) (hR h a3 x6.toNatClampNeg) h) fun q6 =>
    if q6.2 = 0 then
      k_SR_wins_45 d (some x0) x1 x2 x3 x4 x5 (x6 + 1) q6.1
    else
      if hK q6.1 x0 = 12 then
      if hK q6.1 x0 = 12 then
      Option.bind (hR q6.1 x0 4) fun a7 => if hK q6.1 a7 = 9 then
      Option.bind (hR q6.1 x0 7) fun a9 => if hK q6.1 a9 = 11 then
      Option.bind (c_Ta_winsBy d (hR q6.1 x0 7) (hI q6.1 a7 1) (hR h a3 x6.toNatClampNeg) q6.1) fun q8 =>
      if q8.2 = 0 then
        k_SR_wins_45 d (some x0) x1 x2 x3 x4 x5 (x6 + 1) q8.1
      else
        if ¬ x3 = none then
          k_SR_wins_45 d (some x0) x1 (x2 + 1) x3 x4 x5 (x6 + 1) q8.1
        else
          k_SR_wins_45 d (some x0) x1 (x2 + 1) (hR h a3 x6.toNatClampNeg) x4 x5 (x6 + 1) q8.1
      else none
      else none
      else none
      else none
    else none
    else none
    else none
    else none
    else none
    else none := (sk_XT_evL sk_rec t_I d 104 77 _ (fun _ => rfl)).trans rfl
set_option maxRecDepth 100000 in
theorem e_SR_worth (d : Nat) (x0 : Nat) (x1 : Int32) (h : sk_H) : c_SR_worth d (some x0) x1 h =
  if hK h x0 = 12 then
  Option.bind (hR h x0 4) fun a1 => if hK h a1 = 9 then
  if (hR h a1 0) = none then
    some (h, ((-1) : Int32))
  else
    if x1 < 0 then
      some (h, ((-1) : Int32))
    else
      if hK h x0 = 12 then
      Option.bind (hR h x0 4) fun a2 => if hK h a2 = 9 then
      Option.bind (hR h a2 0) fun a3 => if hK h a3 = 2 then
      if x1 < (hI h a3 3) then
        if hK h x0 = 12 then
        Option.bind (hR h x0 4) fun a4 => if hK h a4 = 9 then
        if hK h x0 = 12 then
        Option.bind (hR h x0 4) fun a5 => if hK h a5 = 9 then
        Option.bind (hR h a4 0) fun a7 => if hK h a7 = 2 then
        Option.bind (c_Al_rowWorth d (hR h a4 0) (hI h a5 1) x1 h) fun q6 =>
        some (q6.1, q6.2)
        else none
        else none
        else none
        else none
        else none
      else
        some (h, ((-1) : Int32))
      else none
      else none
      else none
  else none
  else none := (sk_XT_evL sk_rec t_I d 105 25 _ (fun _ => rfl)).trans rfl
set_option maxRecDepth 100000 in
theorem e_SR_plain (d : Nat) (x0 : Nat) (x1 : Int32) (h : sk_H) : c_SR_plain d (some x0) x1 h =
  if hK h x0 = 12 then
  Option.bind (hR h x0 4) fun a1 => if hK h a1 = 9 then
  if (hR h a1 0) = none then
    some (h, ((-1) : Int32))
  else
    if x1 < 0 then
      some (h, ((-1) : Int32))
    else
      if x1 ≤ (40 : Int32) then
        if hK h x0 = 12 then
        Option.bind (hR h x0 4) fun a2 => if hK h a2 = 9 then
        Option.bind (hR h a2 0) fun a3 => if hK h a3 = 2 then
        Option.bind (hR h a3 16) fun a4 => if (hK h a4 = 101 ∨ hK h a4 = 201) ∧ sk_in x1 (hN h a4) then
        some (h, hI h a4 x1.toNatClampNeg)
        else none
        else none
        else none
        else none
      else
        some (h, ((-1) : Int32))
  else none
  else none := (sk_XT_evL sk_rec t_I d 106 20 _ (fun _ => rfl)).trans rfl
set_option maxRecDepth 100000 in
theorem e_SR_again (d : Nat) (x0 : Nat) (x1 : Int32) (h : sk_H) : c_SR_again d (some x0) x1 h =
  if hK h x0 = 12 then
  Option.bind (hR h x0 4) fun a1 => if hK h a1 = 9 then
  if (hR h a1 0) = none then
    some (h, ((-1) : Int32))
  else
    if x1 < 0 then
      some (h, ((-1) : Int32))
    else
      if x1 ≤ (1 : Int32) then
        k_SR_again_23 d (some x0) x1 (1 : Int32) h
      else
        some (h, ((-1) : Int32))
  else none
  else none := (sk_XT_evL sk_rec t_I d 107 37 _ (fun _ => rfl)).trans rfl
set_option maxRecDepth 100000 in
theorem e_SR_again_23 (d : Nat) (x0 : Nat) (x1 : Int32) (x2 : Int32) (h : sk_H) : k_SR_again_23 d (some x0) x1 x2 h =
  if (20 : Int32) < x2 then
    some (h, ((-2) : Int32))
  else
    if hK h x0 = 12 then
    Option.bind (hR h x0 4) fun a1 => if hK h a1 = 9 then
    Option.bind (hR h a1 0) fun a3 => if hK h a3 = 2 then
    Option.bind (c_Al_sameFrom d (hR h a1 0) x2 h) fun q2 =>
    if q2.2 = ((-1) : Int32) then
      k_SR_again_23 d (some x0) x1 (x2 + 1) q2.1
    else
      if ¬ x1 = 0 then
        some (q2.1, q2.2)
      else
        some (q2.1, x2)
    else none
    else none
    else none := (sk_XT_evL sk_rec t_I d 107 37 _ (fun _ => rfl)).trans rfl
set_option maxRecDepth 100000 in
theorem e_SR_lasts (d : Nat) (x0 : Nat) (h : sk_H) : c_SR_lasts d (some x0) h =
  if hK h x0 = 12 then
  Option.bind (hR h x0 4) fun a1 => if hK h a1 = 9 then
  if ¬ (hR h a1 0) = none then
    if hK h x0 = 12 then
    if hK h x0 = 12 then
    Option.bind (hR h x0 4) fun a2 => if hK h a2 = 9 then
    Option.bind (hR h x0 7) fun a4 => if hK h a4 = 11 then
    Option.bind (c_Ta_lengthAt d (hR h x0 7) (hI h a2 1) h) fun q3 =>
    some (q3.1, q3.2)
    else none
    else none
    else none
    else none
  else
    some (h, ((-1) : Int32))
  else none
  else none := (sk_XT_evL sk_rec t_I d 108 15 _ (fun _ => rfl)).trans rfl
set_option maxRecDepth 100000 in
theorem e_SR_plays (d : Nat) (x0 : Nat) (h : sk_H) : c_SR_plays d (some x0) h =
  if hK h x0 = 12 then
  Option.bind (hR h x0 4) fun a1 => if hK h a1 = 9 then
  if ¬ (hR h a1 0) = none then
    if hK h x0 = 12 then
    if hK h x0 = 12 then
    Option.bind (hR h x0 4) fun a2 => if hK h a2 = 9 then
    Option.bind (hR h x0 7) fun a4 => if hK h a4 = 11 then
    Option.bind (c_Ta_playsAt d (hR h x0 7) (hI h a2 1) h) fun q3 =>
    some (q3.1, q3.2)
    else none
    else none
    else none
    else none
  else
    some (h, ((-1) : Int32))
  else none
  else none := (sk_XT_evL sk_rec t_I d 109 15 _ (fun _ => rfl)).trans rfl
set_option maxRecDepth 100000 in
theorem e_SR_fair (d : Nat) (x0 : Nat) (x1 : Int32) (h : sk_H) : c_SR_fair d (some x0) x1 h =
  if hK h x0 = 12 then
  Option.bind (hR h x0 4) fun a1 => if hK h a1 = 9 then
  if (hR h a1 0) = none then
    some (h, ((-1) : Int32))
  else
    if x1 < 0 then
      some (h, ((-1) : Int32))
    else
      if x1 ≤ (1 : Int32) then
        if hK h x0 = 12 then
        Option.bind (c_SR_fairSet d (some x0) h) fun q2 =>
        if ¬ q2.2 = ((-1) : Int32) then
          if ¬ x1 = 0 then
            some (q2.1, q2.2)
          else
            Option.bind (c_JI_bitCount d q2.2 q2.1) fun q3 =>
            some (q3.1, q3.2)
        else
          some (q2.1, ((-2) : Int32))
        else none
      else
        some (h, ((-1) : Int32))
  else none
  else none := (sk_XT_evL sk_rec t_I d 110 28 _ (fun _ => rfl)).trans rfl
set_option maxRecDepth 100000 in
theorem e_SR_fairSet (d : Nat) (x0 : Nat) (h : sk_H) : c_SR_fairSet d (some x0) h =
  if hK h x0 = 12 then
  if hK h x0 = 12 then
  Option.bind (hR h x0 4) fun a1 => if hK h a1 = 9 then
  Option.bind (hR h x0 7) fun a3 => if hK h a3 = 11 then
  Option.bind (c_Ta_canWin d (hR h x0 7) (hI h a1 1) h) fun q2 =>
  k_SR_fairSet_19 d (some x0) q2.2 ((-1) : Int32) (1 : Int32) q2.1
  else none
  else none
  else none
  else none := (sk_XT_evL sk_rec t_I d 111 58 _ (fun _ => rfl)).trans rfl
set_option maxRecDepth 100000 in
theorem e_SR_fairSet_19 (d : Nat) (x0 : Nat) (x1 : Int32) (x2 : Int32) (x3 : Int32) (h : sk_H) : k_SR_fairSet_19 d (some x0) x1 x2 x3 h =
  if hK h x0 = 12 then
  Option.bind (hR h x0 4) fun a1 => if hK h a1 = 9 then
  if (hI h a1 1) < x3 then
    some (h, x2)
  else
    if hK h x0 = 12 then
    Option.bind (hR h x0 4) fun a2 => if hK h a2 = 9 then
    if ¬ (x3 &&& ((hI h a2 1) ^^^ ((-1) : Int32))) = 0 then
      k_SR_fairSet_49 d (some x0) x1 x2 x3 (0 : Int32) h
    else
      k_SR_fairSet_49 d (some x0) x1 x2 x3 (1 : Int32) h
    else none
    else none
  else none
  else none := (sk_XT_evL sk_rec t_I d 111 58 _ (fun _ => rfl)).trans rfl
set_option maxRecDepth 100000 in
theorem e_SR_fairSet_49 (d : Nat) (x0 : Nat) (x1 : Int32) (x2 : Int32) (x3 : Int32) (s0 : Int32) (h : sk_H) : k_SR_fairSet_49 d (some x0) x1 x2 x3 s0 h =
  if s0 = 0 then
    k_SR_fairSet_19 d (some x0) x1 x2 (x3 + 1) h
  else
    if hK h x0 = 12 then
    if hK h x0 = 12 then
    Option.bind (hR h x0 4) fun a1 => if hK h a1 = 9 then
    Option.bind (hR h x0 7) fun a5 => if hK h a5 = 11 then
    Option.bind (c_Ta_canWin d (hR h x0 7) ((hI h a1 1) &&& (x3 ^^^ ((-1) : Int32))) h) fun q2 =>
    if q2.2 = x1 then
      k_SR_fairSet_19 d (some x0) x1 x2 (x3 + 1) q2.1
    else
      if x2 = ((-1) : Int32) then
        k_SR_fairSet_19 d (some x0) x1 x3 (x3 + 1) q2.1
      else
        Option.bind (c_JI_bitCount d x3 q2.1) fun q3 =>
        Option.bind (c_JI_bitCount d x2 q3.1) fun q4 =>
        if q4.2 ≤ q3.2 then
          k_SR_fairSet_19 d (some x0) x1 x2 (x3 + 1) q4.1
        else
          k_SR_fairSet_19 d (some x0) x1 x3 (x3 + 1) q4.1
    else none
    else none
    else none
    else none := (sk_XT_evL sk_rec t_I d 111 58 _ (fun _ => rfl)).trans rfl
set_option maxRecDepth 100000 in
theorem e_SR_chance (d : Nat) (x0 : Nat) (h : sk_H) : c_SR_chance d (some x0) h =
  if hK h x0 = 12 then
  Option.bind (hR h x0 4) fun a1 => if hK h a1 = 9 then
  if ¬ (hR h a1 0) = none then
    if hK h x0 = 12 then
    if hK h x0 = 12 then
    Option.bind (hR h x0 4) fun a2 => if hK h a2 = 9 then
    Option.bind (hR h x0 7) fun a4 => if hK h a4 = 11 then
    Option.bind (c_Ta_chanceAt d (hR h x0 7) (hI h a2 1) h) fun q3 =>
    some (q3.1, q3.2)
    else none
    else none
    else none
    else none
  else
    some (h, ((-1) : Int32))
  else none
  else none := (sk_XT_evL sk_rec t_I d 112 15 _ (fun _ => rfl)).trans rfl
set_option maxRecDepth 100000 in
theorem e_SR_child (d : Nat) (x0 : Nat) (h : sk_H) : c_SR_child d (some x0) h =
  if hK h x0 = 12 then
  Option.bind (hR h x0 4) fun a1 => if hK h a1 = 9 then
  if ¬ (hR h a1 0) = none then
    if hK h x0 = 12 then
    if hK h x0 = 12 then
    Option.bind (hR h x0 4) fun a2 => if hK h a2 = 9 then
    Option.bind (hR h x0 7) fun a4 => if hK h a4 = 11 then
    Option.bind (c_Ta_childAt d (hR h x0 7) (hI h a2 1) h) fun q3 =>
    some (q3.1, q3.2)
    else none
    else none
    else none
    else none
  else
    some (h, ((-1) : Int32))
  else none
  else none := (sk_XT_evL sk_rec t_I d 113 15 _ (fun _ => rfl)).trans rfl
set_option maxRecDepth 100000 in
theorem e_SR_match (d : Nat) (x0 : Nat) (x1 : Int32) (x2 : Int32) (x3 : Int32) (h : sk_H) : c_SR_match d (some x0) x1 x2 x3 h =
  if hK h x0 = 12 then
  Option.bind (hR h x0 4) fun a1 => if hK h a1 = 9 then
  if (hR h a1 0) = none then
    some (h, ((-1) : Int32))
  else
    if hK h x0 = 12 then
    Option.bind (c_SR_isRule d (some x0) x1 h) fun q2 =>
    if q2.2 = 0 then
      some (q2.1, ((-1) : Int32))
    else
      if hK q2.1 x0 = 12 then
      Option.bind (c_SR_isRule d (some x0) x2 q2.1) fun q3 =>
      if q3.2 = 0 then
        some (q3.1, ((-1) : Int32))
      else
        if x3 < 0 then
          some (q3.1, ((-1) : Int32))
        else
          if x3 ≤ (1 : Int32) then
            if hK q3.1 x0 = 12 then
            if hK q3.1 x0 = 12 then
            if hK q3.1 x0 = 12 then
            if hK q3.1 x0 = 12 then
            Option.bind (hR q3.1 x0 2) fun a4 => if a_ref (hK q3.1 a4) = true ∧ sk_in x1 (hN q3.1 a4) then
            if hK q3.1 x0 = 12 then
            Option.bind (hR q3.1 x0 2) fun a5 => if a_ref (hK q3.1 a5) = true ∧ sk_in x2 (hN q3.1 a5) then
            Option.bind (hR q3.1 x0 8) fun a9 => if hK q3.1 a9 = 4 then
            Option.bind (c_Bo_playTimes d (hR q3.1 x0 8) (hR q3.1 x0 4) (hR q3.1 x0 7) (hR q3.1 a4 x1.toNatClampNeg) (hR q3.1 a5 x2.toNatClampNeg) (1 : Int32) q3.1) fun q6 =>
            if ¬ x3 = (1 : Int32) then
              if hK q6 x0 = 12 then
              Option.bind (hR q6 x0 8) fun a7 => if hK q6 a7 = 4 then
              if ¬ (hI q6 a7 7) = (1 : Int32) then
                some (q6, (1 : Int32))
              else
                some (q6, (0 : Int32))
              else none
              else none
            else
              if hK q6 x0 = 12 then
              Option.bind (hR q6 x0 8) fun a8 => if hK q6 a8 = 4 then
              some (q6, hI q6 a8 8)
              else none
              else none
            else none
            else none
            else none
            else none
            else none
            else none
            else none
            else none
          else
            some (q3.1, ((-1) : Int32))
      else none
    else none
  else none
  else none := (sk_XT_evL sk_rec t_I d 114 53 _ (fun _ => rfl)).trans rfl
set_option maxRecDepth 100000 in
theorem e_SR_isRule (d : Nat) (x0 : Nat) (x1 : Int32) (h : sk_H) : c_SR_isRule d (some x0) x1 h =
  if x1 < 0 then
    some (h, (0 : Int32))
  else
    if hK h x0 = 12 then
    if (hI h x0 3) ≤ x1 then
      some (h, (0 : Int32))
    else
      some (h, (1 : Int32))
    else none := (sk_XT_evL sk_rec t_I d 115 12 _ (fun _ => rfl)).trans rfl
set_option maxRecDepth 100000 in
theorem e_SR_knew (d : Nat) (x0 : Nat) (x1 : Int32) (x2 : Int32) (h : sk_H) : c_SR_knew d (some x0) x1 x2 h =
  if hK h x0 = 12 then
  Option.bind (hR h x0 4) fun a1 => if hK h a1 = 9 then
  if (hR h a1 0) = none then
    some (h, ((-1) : Int32))
  else
    if x1 < 0 then
      some (h, ((-1) : Int32))
    else
      if (1 : Int32) < x1 then
        some (h, ((-1) : Int32))
      else
        if x2 < 0 then
          some (h, ((-1) : Int32))
        else
          if x2 ≤ (3 : Int32) then
            k_SR_knew_44 d (some x0) x1 x2 (0 : Int32) (0 : Int32) (0 : Int32) (0 : Int32) (0 : Int32) h
          else
            some (h, ((-1) : Int32))
  else none
  else none := (sk_XT_evL sk_rec t_I d 116 89 _ (fun _ => rfl)).trans rfl
set_option maxRecDepth 100000 in
theorem e_SR_knew_44 (d : Nat) (x0 : Nat) (x1 : Int32) (x2 : Int32) (x3 : Int32) (x4 : Int32) (x5 : Int32) (x6 : Int32) (x7 : Int32) (h : sk_H) : k_SR_knew_44 d (some x0) x1 x2 x3 x4 x5 x6 x7 h =
  if hK h x0 = 12 then
  Option.bind (hR h x0 4) fun a12 => if hK h a12 = 9 then
  Option.bind (c_St_noted d (hR h x0 4) h) fun q1 =>
  if q1.2 ≤ x7 then
    if x2 = 0 then
      some (q1.1, x3)
    else if x2 = 1 then
      some (q1.1, x4)
    else if x2 = 2 then
      some (q1.1, x5)
    else some (q1.1, x6)
  else
    if hK q1.1 x0 = 12 then
    Option.bind (hR q1.1 x0 4) fun a11 => if hK q1.1 a11 = 9 then
    Option.bind (c_St_strokeNoted d (hR q1.1 x0 4) x7 x1 q1.1) fun q2 =>
    if ¬ q2.2 = none then
      if hK q2.1 x0 = 12 then
      if hK q2.1 x0 = 12 then
      Option.bind (hR q2.1 x0 4) fun a3 => if hK q2.1 a3 = 9 then
      Option.bind (hR q2.1 a3 6) fun a4 => if (hK q2.1 a4 = 101 ∨ hK q2.1 a4 = 201) ∧ sk_in x7 (hN q2.1 a4) then
      Option.bind (hR q2.1 x0 7) fun a10 => if hK q2.1 a10 = 11 then
      Option.bind (c_Ta_canWin d (hR q2.1 x0 7) (hI q2.1 a4 x7.toNatClampNeg) q2.1) fun q5 =>
      if q5.2 = 0 then
        k_SR_knew_44 d (some x0) x1 x2 (x3 + 1) x4 x5 x6 (x7 + 1) q5.1
      else
        if hK q5.1 x0 = 12 then
        if hK q5.1 x0 = 12 then
        Option.bind (hR q5.1 x0 4) fun a6 => if hK q5.1 a6 = 9 then
        Option.bind (hR q5.1 a6 6) fun a7 => if (hK q5.1 a7 = 101 ∨ hK q5.1 a7 = 201) ∧ sk_in x7 (hN q5.1 a7) then
        Option.bind (hR q5.1 x0 7) fun a9 => if hK q5.1 a9 = 11 then
        Option.bind (c_Ta_winsBy d (hR q5.1 x0 7) (hI q5.1 a7 x7.toNatClampNeg) q2.2 q5.1) fun q8 =>
        if q8.2 = 0 then
          if q8.2 = 0 then
            k_SR_knew_44 d (some x0) x1 x2 (x3 + 1) (x4 + 1) (x5 + (0 : Int32)) (x3 + 1) (x7 + 1) q8.1
          else
            k_SR_knew_44 d (some x0) x1 x2 (x3 + 1) (x4 + 1) (x5 + (0 : Int32)) x6 (x7 + 1) q8.1
        else
          if q8.2 = 0 then
            k_SR_knew_44 d (some x0) x1 x2 (x3 + 1) (x4 + 1) (x5 + (1 : Int32)) (x3 + 1) (x7 + 1) q8.1
          else
            k_SR_knew_44 d (some x0) x1 x2 (x3 + 1) (x4 + 1) (x5 + (1 : Int32)) x6 (x7 + 1) q8.1
        else none
        else none
        else none
        else none
        else none
      else none
      else none
      else none
      else none
      else none
    else
      k_SR_knew_44 d (some x0) x1 x2 x3 x4 x5 x6 (x7 + 1) q2.1
    else none
    else none
  else none
  else none := (sk_XT_evL sk_rec t_I d 116 89 _ (fun _ => rfl)).trans rfl
set_option maxRecDepth 100000 in
theorem e_SR_law (d : Nat) (x0 : Nat) (x1 : Int32) (x2 : Int32) (h : sk_H) : c_SR_law d (some x0) x1 x2 h =
  if hK h x0 = 12 then
  Option.bind (hR h x0 4) fun a1 => if hK h a1 = 9 then
  if (hR h a1 0) = none then
    some (h, ((-1) : Int32))
  else
    if x1 < 0 then
      some (h, ((-1) : Int32))
    else
      if (1 : Int32) < x1 then
        some (h, ((-1) : Int32))
      else
        if x2 < 0 then
          some (h, ((-1) : Int32))
        else
          if x2 ≤ (3 : Int32) then
            k_SR_law_37 d (some x0) x1 x2 (1152921504606846975 : Int64) (0 : Int32) h
          else
            some (h, ((-1) : Int32))
  else none
  else none := (sk_XT_evL sk_rec t_I d 117 81 _ (fun _ => rfl)).trans rfl
set_option maxRecDepth 100000 in
theorem e_SR_law_37 (d : Nat) (x0 : Nat) (x1 : Int32) (x2 : Int32) (x3 : Int64) (x5 : Int32) (h : sk_H) : k_SR_law_37 d (some x0) x1 x2 x3 x5 h =
  if hK h x0 = 12 then
  Option.bind (hR h x0 4) fun a10 => if hK h a10 = 9 then
  Option.bind (c_St_noted d (hR h x0 4) h) fun q1 =>
  if q1.2 ≤ x5 then
    if ¬ x2 = 0 then
      if ¬ (lg_cmp x3 (0 : Int64)) = 0 then
        Option.bind (c_JL_numberOfTrailingZeros d x3 q1.1) fun q2 =>
        if x2 = 1 then
          if ¬ (4 : Int32) = 0 then
          some (q2.1, (q2.2 / (4 : Int32)) + (1 : Int32))
          else none
        else if x2 = 2 then
          if ¬ (2 : Int32) = 0 then
          if ¬ (2 : Int32) = 0 then
          some (q2.1, (q2.2 / (2 : Int32)) - (q2.2 / (2 : Int32)) / (2 : Int32) * (2 : Int32))
          else none
          else none
        else if ¬ (2 : Int32) = 0 then
        some (q2.1, q2.2 - q2.2 / (2 : Int32) * (2 : Int32))
        else none
      else
        some (q1.1, ((-2) : Int32))
    else
      Option.bind (c_JL_bitCount d x3 q1.1) fun q3 =>
      some (q3.1, q3.2)
  else
    if hK q1.1 x0 = 12 then
    Option.bind (hR q1.1 x0 4) fun a9 => if hK q1.1 a9 = 9 then
    Option.bind (c_St_strokeNoted d (hR q1.1 x0 4) x5 x1 q1.1) fun q4 =>
    if q4.2 = none then
      k_SR_law_37 d (some x0) x1 x2 x3 (x5 + 1) q4.1
    else
      if hK q4.1 x0 = 12 then
      if hK q4.1 x0 = 12 then
      Option.bind (hR q4.1 x0 4) fun a5 => if hK q4.1 a5 = 9 then
      Option.bind (hR q4.1 a5 6) fun a6 => if (hK q4.1 a6 = 101 ∨ hK q4.1 a6 = 201) ∧ sk_in x5 (hN q4.1 a6) then
      Option.bind (hR q4.1 x0 7) fun a8 => if hK q4.1 a8 = 11 then
      Option.bind (c_Ta_lawsBehind d (hR q4.1 x0 7) (hI q4.1 a6 x5.toNatClampNeg) q4.2 q4.1) fun q7 =>
      k_SR_law_37 d (some x0) x1 x2 (x3 &&& q7.2) (x5 + 1) q7.1
      else none
      else none
      else none
      else none
      else none
    else none
    else none
  else none
  else none := (sk_XT_evL sk_rec t_I d 117 81 _ (fun _ => rfl)).trans rfl
set_option maxRecDepth 100000 in
theorem e_SR_seed (d : Nat) (x0 : Nat) (x1 : Int32) (h : sk_H) : c_SR_seed d (some x0) x1 h =
  if 0 ≤ x1 then
    if hK h x0 = 12 then
    Option.bind (hR h x0 4) fun a1 => if hK h a1 = 9 then
    if hK h x0 = 12 then
    Option.bind (hR h x0 4) fun a2 => if hK h a2 = 9 then
    let h3 := wI h a2 4 x1
    some (h3, hI h a1 4)
    else none
    else none
    else none
    else none
  else
    some (h, ((-1) : Int32)) := (sk_XT_evL sk_rec t_I d 118 16 _ (fun _ => rfl)).trans rfl
set_option maxRecDepth 100000 in
theorem e_SR_games (d : Nat) (x0 : Nat) (x1 : Int32) (x2 : Int32) (h : sk_H) : c_SR_games d (some x0) x1 x2 h =
  if hK h x0 = 12 then
  Option.bind (hR h x0 4) fun a1 => if hK h a1 = 9 then
  if (hR h a1 0) = none then
    some (h, ((-1) : Int32))
  else
    if x1 < (1 : Int32) then
      some (h, ((-1) : Int32))
    else
      if (50 : Int32) < x1 then
        some (h, ((-1) : Int32))
      else
        if x2 < 0 then
          some (h, ((-1) : Int32))
        else
          if x2 ≤ (1 : Int32) then
            if hK h x0 = 12 then
            if hK h x0 = 12 then
            if hK h x0 = 12 then
            Option.bind (hR h x0 8) fun a5 => if hK h a5 = 4 then
            Option.bind (c_Bo_playTimes d (hR h x0 8) (hR h x0 4) (hR h x0 7) none none x1 h) fun q2 =>
            if ¬ x2 = 0 then
              if hK q2 x0 = 12 then
              Option.bind (hR q2 x0 8) fun a3 => if hK q2 a3 = 4 then
              some (q2, hI q2 a3 8)
              else none
              else none
            else
              if hK q2 x0 = 12 then
              Option.bind (hR q2 x0 8) fun a4 => if hK q2 a4 = 4 then
              some (q2, hI q2 a4 7)
              else none
              else none
            else none
            else none
            else none
            else none
          else
            some (h, ((-1) : Int32))
  else none
  else none := (sk_XT_evL sk_rec t_I d 119 39 _ (fun _ => rfl)).trans rfl
set_option maxRecDepth 100000 in
theorem e_SR_against (d : Nat) (x0 : Nat) (x1 : Int32) (x2 : Int32) (x3 : Int32) (h : sk_H) : c_SR_against d (some x0) x1 x2 x3 h =
  if hK h x0 = 12 then
  Option.bind (hR h x0 4) fun a1 => if hK h a1 = 9 then
  if (hR h a1 0) = none then
    some (h, ((-1) : Int32))
  else
    if hK h x0 = 12 then
    Option.bind (c_SR_isRule d (some x0) x1 h) fun q2 =>
    if q2.2 = 0 then
      some (q2.1, ((-1) : Int32))
    else
      if x2 < (1 : Int32) then
        some (q2.1, ((-1) : Int32))
      else
        if (50 : Int32) < x2 then
          some (q2.1, ((-1) : Int32))
        else
          if x3 < 0 then
            some (q2.1, ((-1) : Int32))
          else
            if x3 ≤ (1 : Int32) then
              if hK q2.1 x0 = 12 then
              if hK q2.1 x0 = 12 then
              if hK q2.1 x0 = 12 then
              if hK q2.1 x0 = 12 then
              Option.bind (hR q2.1 x0 2) fun a3 => if a_ref (hK q2.1 a3) = true ∧ sk_in x1 (hN q2.1 a3) then
              Option.bind (hR q2.1 x0 8) fun a7 => if hK q2.1 a7 = 4 then
              Option.bind (c_Bo_playTimes d (hR q2.1 x0 8) (hR q2.1 x0 4) (hR q2.1 x0 7) (hR q2.1 a3 x1.toNatClampNeg) none x2 q2.1) fun q4 =>
              if ¬ x3 = 0 then
                if hK q4 x0 = 12 then
                Option.bind (hR q4 x0 8) fun a5 => if hK q4 a5 = 4 then
                some (q4, hI q4 a5 8)
                else none
                else none
              else
                if hK q4 x0 = 12 then
                Option.bind (hR q4 x0 8) fun a6 => if hK q4 a6 = 4 then
                some (q4, hI q4 a6 7)
                else none
                else none
              else none
              else none
              else none
              else none
              else none
              else none
            else
              some (q2.1, ((-1) : Int32))
    else none
  else none
  else none := (sk_XT_evL sk_rec t_I d 120 46 _ (fun _ => rfl)).trans rfl
set_option maxRecDepth 100000 in
theorem e_SR_count (d : Nat) (x0 : Nat) (x1 : Int32) (h : sk_H) : c_SR_count d (some x0) x1 h =
  if x1 < 0 then
    k_SR_count_35 d (some x0) x1 h
  else
    if (5 : Int32) < x1 then
      k_SR_count_35 d (some x0) x1 h
    else
      if hK h x0 = 12 then
      Option.bind (hR h x0 4) fun a1 => if hK h a1 = 9 then
      if ¬ (hR h a1 0) = none then
        if hK h x0 = 12 then
        Option.bind (hR h x0 4) fun a2 => if hK h a2 = 9 then
        Option.bind (hR h a2 0) fun a4 => if hK h a4 = 2 then
        Option.bind (c_Al_number d (hR h a2 0) x1 h) fun q3 =>
        some (q3.1, q3.2)
        else none
        else none
        else none
      else
        some (h, (0 : Int32))
      else none
      else none := (sk_XT_evL sk_rec t_I d 121 49 _ (fun _ => rfl)).trans rfl
set_option maxRecDepth 100000 in
theorem e_SR_count_35 (d : Nat) (x0 : Nat) (x1 : Int32) (h : sk_H) : k_SR_count_35 d (some x0) x1 h =
  if x1 = 6 then
    if hK h x0 = 12 then
    some (h, hI h x0 3)
    else none
  else if x1 = 7 then
    if hK h x0 = 12 then
    Option.bind (hR h x0 4) fun a1 => if hK h a1 = 9 then
    some (h, hI h a1 2)
    else none
    else none
  else if x1 = 8 then
    if hK h x0 = 12 then
    Option.bind (hR h x0 4) fun a2 => if hK h a2 = 9 then
    some (h, hI h a2 1)
    else none
    else none
  else if x1 = 9 then
    if hK h x0 = 12 then
    Option.bind (hR h x0 4) fun a3 => if hK h a3 = 9 then
    some (h, hI h a3 3)
    else none
    else none
  else if x1 = 10 then
    if hK h x0 = 12 then
    Option.bind (hR h x0 6) fun a4 => if hK h a4 = 1 then
    some (h, hI h a4 4)
    else none
    else none
  else if x1 = 11 then
    if hK h x0 = 12 then
    Option.bind (hR h x0 4) fun a5 => if hK h a5 = 9 then
    some (h, hI h a5 4)
    else none
    else none
  else if x1 = 12 then
    if hK h x0 = 12 then
    some (h, hI h x0 1)
    else none
  else some (h, ((-1) : Int32)) := (sk_XT_evL sk_rec t_I d 121 49 _ (fun _ => rfl)).trans rfl
set_option maxRecDepth 100000 in
theorem e_SR_image (d : Nat) (x0 : Nat) (x1 : Int32) (h : sk_H) : c_SR_image d (some x0) x1 h =
  if x1 < 0 then
    some (h, ((-1) : Int32))
  else
    if x1 < (4 : Int32) then
      if hK h x0 = 12 then
      Option.bind (hR h x0 5) fun a1 => if a_ref (hK h a1) = true ∧ sk_in x1 (hN h a1) then
      if ¬ (hR h a1 x1.toNatClampNeg) = none then
        if hK h x0 = 12 then
        Option.bind (hR h x0 5) fun a2 => if a_ref (hK h a2) = true ∧ sk_in x1 (hN h a2) then
        if hK h x0 = 12 then
        Option.bind (hR h a2 x1.toNatClampNeg) fun a5 => if hK h a5 = 9 then
        Option.bind (c_St_copyOf d (hR h a2 x1.toNatClampNeg) (hR h x0 4) h) fun q3 =>
        if hK q3 x0 = 12 then
        Option.bind (hR q3 x0 4) fun a4 => if hK q3 a4 = 9 then
        some (q3, hI q3 a4 3)
        else none
        else none
        else none
        else none
        else none
        else none
      else
        if hK h x0 = 12 then
        let n6 := hn h
        let h7 := hnew h 9 8
        if hK h7 n6 = 9 then
        Option.bind (c_St_init d (some n6) h7) fun q8 =>
        Option.bind (hR h x0 5) fun a9 => if a_ref (hK q8 a9) = true ∧ sk_in x1 (hN q8 a9) ∧ ((some n6) = none ∨ hK q8 ((some n6).getD 0) = a_of (hK q8 a9)) then
        let h10 := wR q8 a9 x1.toNatClampNeg (some n6)
        if hK h10 x0 = 12 then
        Option.bind (hR h10 x0 5) fun a11 => if a_ref (hK h10 a11) = true ∧ sk_in x1 (hN h10 a11) then
        if hK h10 x0 = 12 then
        Option.bind (hR h10 a11 x1.toNatClampNeg) fun a14 => if hK h10 a14 = 9 then
        Option.bind (c_St_copyOf d (hR h10 a11 x1.toNatClampNeg) (hR h10 x0 4) h10) fun q12 =>
        if hK q12 x0 = 12 then
        Option.bind (hR q12 x0 4) fun a13 => if hK q12 a13 = 9 then
        some (q12, hI q12 a13 3)
        else none
        else none
        else none
        else none
        else none
        else none
        else none
        else none
        else none
      else none
      else none
    else
      some (h, ((-1) : Int32)) := (sk_XT_evL sk_rec t_I d 122 32 _ (fun _ => rfl)).trans rfl
set_option maxRecDepth 100000 in
theorem e_SR_back (d : Nat) (x0 : Nat) (x1 : Int32) (h : sk_H) : c_SR_back d (some x0) x1 h =
  if x1 < 0 then
    some (h, ((-1) : Int32))
  else
    if (4 : Int32) ≤ x1 then
      some (h, ((-1) : Int32))
    else
      if hK h x0 = 12 then
      Option.bind (hR h x0 5) fun a1 => if a_ref (hK h a1) = true ∧ sk_in x1 (hN h a1) then
      if ¬ (hR h a1 x1.toNatClampNeg) = none then
        if hK h x0 = 12 then
        if hK h x0 = 12 then
        Option.bind (hR h x0 5) fun a2 => if a_ref (hK h a2) = true ∧ sk_in x1 (hN h a2) then
        Option.bind (hR h x0 4) fun a10 => if hK h a10 = 9 then
        Option.bind (c_St_copyOf d (hR h x0 4) (hR h a2 x1.toNatClampNeg) h) fun q3 =>
        if hK q3 x0 = 12 then
        Option.bind (hR q3 x0 6) fun a9 => if hK q3 a9 = 1 then
        Option.bind (c_Ac_forget d (hR q3 x0 6) q3) fun q4 =>
        if hK q4 x0 = 12 then
        if hK q4 x0 = 12 then
        Option.bind (hR q4 x0 4) fun a5 => if hK q4 a5 = 9 then
        Option.bind (hR q4 x0 7) fun a8 => if hK q4 a8 = 11 then
        Option.bind (c_Ta_use d (hR q4 x0 7) (hR q4 a5 0) q4) fun q6 =>
        if hK q6 x0 = 12 then
        Option.bind (hR q6 x0 4) fun a7 => if hK q6 a7 = 9 then
        some (q6, hI q6 a7 3)
        else none
        else none
        else none
        else none
        else none
        else none
        else none
        else none
        else none
        else none
        else none
        else none
      else
        some (h, ((-1) : Int32))
      else none
      else none := (sk_XT_evL sk_rec t_I d 123 34 _ (fun _ => rfl)).trans rfl
