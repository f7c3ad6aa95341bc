set_option maxRecDepth 100000 in
theorem e_Re_init (d : Nat) (x0 : Nat) (x1 : Option Nat) (x2 : Int32) (h : sk_H) : c_Re_init d (some x0) x1 x2 h =
  if hK h x0 = 6 then
  let h1 := wI h x0 3 ((-1) : Int32)
  if hK h1 x0 = 6 then
  let h2 := wR h1 x0 0 x1
  Option.bind x1 fun a3 => if a_any (hK h2 a3) = true then
  if hK h2 x0 = 6 then
  let h4 := wI h2 x0 1 (if (Int32.ofNat (hN h2 a3)) < x2 then (Int32.ofNat (hN h2 a3)) else x2)
  some h4
  else none
  else none
  else none
  else none := (sk_XT_evL sk_rec t_V d 38 17 _ (fun _ => rfl)).trans rfl
set_option maxRecDepth 100000 in
theorem e_Re_sound (d : Nat) (x0 : Nat) (h : sk_H) : c_Re_sound d (some x0) h =
  if hK h x0 = 6 then
  if ¬ (hI h x0 3) = ((-1) : Int32) then
    some (h, (0 : Int32))
  else
    some (h, (1 : Int32))
  else none := (sk_XT_evL sk_rec t_I d 39 10 _ (fun _ => rfl)).trans rfl
set_option maxRecDepth 100000 in
theorem e_Re_refuse (d : Nat) (x0 : Nat) (x1 : Int32) (x2 : Int32) (h : sk_H) : c_Re_refuse d (some x0) x1 x2 h =
  if hK h x0 = 6 then
  if ¬ (hI h x0 3) = ((-1) : Int32) then
    some h
  else
    if hK h x0 = 6 then
    let h1 := wI h x0 3 (((1 : Int32) + ((8 : Int32) * x1)) + x2)
    some h1
    else none
  else none := (sk_XT_evL sk_rec t_V d 40 16 _ (fun _ => rfl)).trans rfl
set_option maxRecDepth 100000 in
theorem e_Re_look (d : Nat) (x0 : Nat) (h : sk_H) : c_Re_look d (some x0) h =
  if hK h x0 = 6 then
  if hK h x0 = 6 then
  if (hI h x0 1) ≤ (hI h x0 2) then
    some (h, ((-1) : Int32))
  else
    if hK h x0 = 6 then
    if hK h x0 = 6 then
    Option.bind (hR h x0 0) fun a1 => if hK h a1 = 105 ∧ sk_in (hI h x0 2) (hN h a1) then
    some (h, hI h a1 (hI h x0 2).toNatClampNeg)
    else none
    else none
    else none
  else none
  else none := (sk_XT_evL sk_rec t_I d 41 15 _ (fun _ => rfl)).trans rfl
set_option maxRecDepth 100000 in
theorem e_Re_next (d : Nat) (x0 : Nat) (h : sk_H) : c_Re_next d (some x0) h =
  if hK h x0 = 6 then
  if hK h x0 = 6 then
  if (hI h x0 1) ≤ (hI h x0 2) then
    if hK h x0 = 6 then
    if hK h x0 = 6 then
    if (hI h x0 1) ≤ (hI h x0 2) then
      some (h, ((-1) : Int32))
    else
      if hK h x0 = 6 then
      if hK h x0 = 6 then
      Option.bind (hR h x0 0) fun a1 => if hK h a1 = 105 ∧ sk_in (hI h x0 2) (hN h a1) then
      some (h, hI h a1 (hI h x0 2).toNatClampNeg)
      else none
      else none
      else none
    else none
    else none
  else
    if hK h x0 = 6 then
    if hK h x0 = 6 then
    Option.bind (hR h x0 0) fun a2 => if hK h a2 = 105 ∧ sk_in (hI h x0 2) (hN h a2) then
    if ¬ (hI h a2 (hI h x0 2).toNatClampNeg) = (32 : Int32) then
      if hK h x0 = 6 then
      if hK h x0 = 6 then
      if (hI h x0 1) ≤ (hI h x0 2) then
        some (h, ((-1) : Int32))
      else
        if hK h x0 = 6 then
        if hK h x0 = 6 then
        Option.bind (hR h x0 0) fun a3 => if hK h a3 = 105 ∧ sk_in (hI h x0 2) (hN h a3) then
        some (h, hI h a3 (hI h x0 2).toNatClampNeg)
        else none
        else none
        else none
      else none
      else none
    else
      if hK h x0 = 6 then
      if hK h x0 = 6 then
      let h4 := wI h x0 2 ((hI h x0 2) + (1 : Int32))
      k_Re_next_0 d (some x0) h4
      else none
      else none
    else none
    else none
    else none
  else none
  else none := (sk_XT_evL sk_rec t_I d 42 34 _ (fun _ => rfl)).trans rfl
set_option maxRecDepth 100000 in
theorem e_Re_next_0 (d : Nat) (x0 : Nat) (h : sk_H) : k_Re_next_0 d (some x0) h =
  if hK h x0 = 6 then
  if hK h x0 = 6 then
  if (hI h x0 1) ≤ (hI h x0 2) then
    if hK h x0 = 6 then
    if hK h x0 = 6 then
    if (hI h x0 1) ≤ (hI h x0 2) then
      some (h, ((-1) : Int32))
    else
      if hK h x0 = 6 then
      if hK h x0 = 6 then
      Option.bind (hR h x0 0) fun a1 => if hK h a1 = 105 ∧ sk_in (hI h x0 2) (hN h a1) then
      some (h, hI h a1 (hI h x0 2).toNatClampNeg)
      else none
      else none
      else none
    else none
    else none
  else
    if hK h x0 = 6 then
    if hK h x0 = 6 then
    Option.bind (hR h x0 0) fun a2 => if hK h a2 = 105 ∧ sk_in (hI h x0 2) (hN h a2) then
    if ¬ (hI h a2 (hI h x0 2).toNatClampNeg) = (32 : Int32) then
      if hK h x0 = 6 then
      if hK h x0 = 6 then
      if (hI h x0 1) ≤ (hI h x0 2) then
        some (h, ((-1) : Int32))
      else
        if hK h x0 = 6 then
        if hK h x0 = 6 then
        Option.bind (hR h x0 0) fun a3 => if hK h a3 = 105 ∧ sk_in (hI h x0 2) (hN h a3) then
        some (h, hI h a3 (hI h x0 2).toNatClampNeg)
        else none
        else none
        else none
      else none
      else none
    else
      if hK h x0 = 6 then
      if hK h x0 = 6 then
      let h4 := wI h x0 2 ((hI h x0 2) + (1 : Int32))
      k_Re_next_0 d (some x0) h4
      else none
      else none
    else none
    else none
    else none
  else none
  else none := (sk_XT_evL sk_rec t_I d 42 34 _ (fun _ => rfl)).trans rfl
set_option maxRecDepth 100000 in
theorem e_Re_takes (d : Nat) (x0 : Nat) (x1 : Int32) (h : sk_H) : c_Re_takes d (some x0) x1 h =
  if hK h x0 = 6 then
  Option.bind (c_Re_sound d (some x0) h) fun q1 =>
  if q1.2 = 0 then
    some (q1.1, (0 : Int32))
  else
    if hK q1.1 x0 = 6 then
    Option.bind (c_Re_next d (some x0) q1.1) fun q2 =>
    if q2.2 = x1 then
      if hK q2.1 x0 = 6 then
      if hK q2.1 x0 = 6 then
      let h3 := wI q2.1 x0 2 ((hI q2.1 x0 2) + (1 : Int32))
      some (h3, (1 : Int32))
      else none
      else none
    else
      some (q2.1, (0 : Int32))
    else none
  else none := (sk_XT_evL sk_rec t_I d 43 19 _ (fun _ => rfl)).trans rfl
set_option maxRecDepth 100000 in
theorem e_Re_wordOf (d : Nat) (x0 : Nat) (x1 : Option Nat) (h : sk_H) : c_Re_wordOf d (some x0) x1 h =
  if hK h x0 = 6 then
  Option.bind (c_Re_next d (some x0) h) fun q1 =>
  k_Re_wordOf_12 d (some x0) x1 (0 : Int32) (0 : Int32) (0 : Int32) q1.1
  else none := (sk_XT_evL sk_rec t_I d 44 41 _ (fun _ => rfl)).trans rfl
set_option maxRecDepth 100000 in
theorem e_Re_wordOf_12 (d : Nat) (x0 : Nat) (x1 : Option Nat) (x2 : Int32) (x3 : Int32) (x4 : Int32) (h : sk_H) : k_Re_wordOf_12 d (some x0) x1 x2 x3 x4 h =
  Option.bind x1 fun a6 => if hK h a6 = 51 then
  Option.bind (c_JS_length d x1 h) fun q1 =>
  if q1.2 < x4 then
    some (q1.1, ((-1) : Int32))
  else
    Option.bind x1 fun a5 => if hK q1.1 a5 = 51 then
    Option.bind (c_JS_length d x1 q1.1) fun q2 =>
    if x4 = q2.2 then
      k_Re_wordOf_41 d (some x0) x1 x2 x3 x4 q2.1
    else
      Option.bind x1 fun a4 => if hK q2.1 a4 = 51 then
      Option.bind (c_JS_charAt d x1 x4 q2.1) fun q3 =>
      if ¬ q3.2 = (32 : Int32) then
        k_Re_wordOf_12 d (some x0) x1 x2 x3 (x4 + 1) q3.1
      else
        k_Re_wordOf_41 d (some x0) x1 x2 x3 x4 q3.1
      else none
    else none
  else none := (sk_XT_evL sk_rec t_I d 44 41 _ (fun _ => rfl)).trans rfl
set_option maxRecDepth 100000 in
theorem e_Re_wordOf_41 (d : Nat) (x0 : Nat) (x1 : Option Nat) (x2 : Int32) (x3 : Int32) (x4 : Int32) (h : sk_H) : k_Re_wordOf_41 d (some x0) x1 x2 x3 x4 h =
  if hK h x0 = 6 then
  Option.bind (c_Re_isWord d (some x0) x1 x3 x4 h) fun q1 =>
  if q1.2 = 0 then
    k_Re_wordOf_12 d (some x0) x1 (x2 + 1) (x4 + (1 : Int32)) (x4 + 1) q1.1
  else
    some (q1.1, x2)
  else none := (sk_XT_evL sk_rec t_I d 44 41 _ (fun _ => rfl)).trans rfl
set_option maxRecDepth 100000 in
theorem e_Re_isWord (d : Nat) (x0 : Nat) (x1 : Option Nat) (x2 : Int32) (x3 : Int32) (h : sk_H) : c_Re_isWord d (some x0) x1 x2 x3 h =
  if hK h x0 = 6 then
  if hK h x0 = 6 then
  if ((hI h x0 2) + (x3 - x2)) ≤ (hI h x0 1) then
    k_Re_isWord_24 d (some x0) x1 x2 (x3 - x2) (0 : Int32) h
  else
    some (h, (0 : Int32))
  else none
  else none := (sk_XT_evL sk_rec t_I d 45 66 _ (fun _ => rfl)).trans rfl
set_option maxRecDepth 100000 in
theorem e_Re_isWord_24 (d : Nat) (x0 : Nat) (x1 : Option Nat) (x2 : Int32) (x4 : Int32) (x5 : Int32) (h : sk_H) : k_Re_isWord_24 d (some x0) x1 x2 x4 x5 h =
  if x4 ≤ x5 then
    if hK h x0 = 6 then
    if hK h x0 = 6 then
    if ((hI h x0 2) + x4) = (hI h x0 1) then
      some (h, (1 : Int32))
    else
      if hK h x0 = 6 then
      if hK h x0 = 6 then
      Option.bind (hR h x0 0) fun a1 => if hK h a1 = 105 ∧ sk_in ((hI h x0 2) + x4) (hN h a1) then
      if (hI h a1 ((hI h x0 2) + x4).toNatClampNeg) < (97 : Int32) then
        some (h, (1 : Int32))
      else
        if hK h x0 = 6 then
        if hK h x0 = 6 then
        Option.bind (hR h x0 0) fun a2 => if hK h a2 = 105 ∧ sk_in ((hI h x0 2) + x4) (hN h a2) then
        if (hI h a2 ((hI h x0 2) + x4).toNatClampNeg) ≤ (122 : Int32) then
          some (h, (0 : Int32))
        else
          some (h, (1 : Int32))
        else none
        else none
        else none
      else none
      else none
      else none
    else none
    else none
  else
    if hK h x0 = 6 then
    if hK h x0 = 6 then
    Option.bind (hR h x0 0) fun a3 => if hK h a3 = 105 ∧ sk_in ((hI h x0 2) + x5) (hN h a3) then
    Option.bind x1 fun a5 => if hK h a5 = 51 then
    Option.bind (c_JS_charAt d x1 (x2 + x5) h) fun q4 =>
    if (hI h a3 ((hI h x0 2) + x5).toNatClampNeg) = q4.2 then
      k_Re_isWord_24 d (some x0) x1 x2 x4 (x5 + 1) q4.1
    else
      some (q4.1, (0 : Int32))
    else none
    else none
    else none
    else none := (sk_XT_evL sk_rec t_I d 45 66 _ (fun _ => rfl)).trans rfl
set_option maxRecDepth 100000 in
theorem e_Re_skipWord (d : Nat) (x0 : Nat) (h : sk_H) : c_Re_skipWord d (some x0) h =
  if hK h x0 = 6 then
  if hK h x0 = 6 then
  if (hI h x0 1) ≤ (hI h x0 2) then
    some h
  else
    if hK h x0 = 6 then
    if hK h x0 = 6 then
    Option.bind (hR h x0 0) fun a1 => if hK h a1 = 105 ∧ sk_in (hI h x0 2) (hN h a1) then
    if (hI h a1 (hI h x0 2).toNatClampNeg) < (97 : Int32) then
      some h
    else
      if hK h x0 = 6 then
      if hK h x0 = 6 then
      Option.bind (hR h x0 0) fun a2 => if hK h a2 = 105 ∧ sk_in (hI h x0 2) (hN h a2) then
      if (122 : Int32) < (hI h a2 (hI h x0 2).toNatClampNeg) then
        some h
      else
        if hK h x0 = 6 then
        if hK h x0 = 6 then
        let h3 := wI h x0 2 ((hI h x0 2) + (1 : Int32))
        k_Re_skipWord_0 d (some x0) h3
        else none
        else none
      else none
      else none
      else none
    else none
    else none
    else none
  else none
  else none := (sk_XT_evL sk_rec t_V d 46 29 _ (fun _ => rfl)).trans rfl
set_option maxRecDepth 100000 in
theorem e_Re_skipWord_0 (d : Nat) (x0 : Nat) (h : sk_H) : k_Re_skipWord_0 d (some x0) h =
  if hK h x0 = 6 then
  if hK h x0 = 6 then
  if (hI h x0 1) ≤ (hI h x0 2) then
    some h
  else
    if hK h x0 = 6 then
    if hK h x0 = 6 then
    Option.bind (hR h x0 0) fun a1 => if hK h a1 = 105 ∧ sk_in (hI h x0 2) (hN h a1) then
    if (hI h a1 (hI h x0 2).toNatClampNeg) < (97 : Int32) then
      some h
    else
      if hK h x0 = 6 then
      if hK h x0 = 6 then
      Option.bind (hR h x0 0) fun a2 => if hK h a2 = 105 ∧ sk_in (hI h x0 2) (hN h a2) then
      if (122 : Int32) < (hI h a2 (hI h x0 2).toNatClampNeg) then
        some h
      else
        if hK h x0 = 6 then
        if hK h x0 = 6 then
        let h3 := wI h x0 2 ((hI h x0 2) + (1 : Int32))
        k_Re_skipWord_0 d (some x0) h3
        else none
        else none
      else none
      else none
      else none
    else none
    else none
    else none
  else none
  else none := (sk_XT_evL sk_rec t_V d 46 29 _ (fun _ => rfl)).trans rfl
set_option maxRecDepth 100000 in
theorem e_Re_takesWord (d : Nat) (x0 : Nat) (x1 : Option Nat) (h : sk_H) : c_Re_takesWord d (some x0) x1 h =
  if hK h x0 = 6 then
  Option.bind (c_Re_sound d (some x0) h) fun q1 =>
  if q1.2 = 0 then
    some (q1.1, (0 : Int32))
  else
    if hK q1.1 x0 = 6 then
    Option.bind (c_Re_wordOf d (some x0) x1 q1.1) fun q2 =>
    if ¬ q2.2 = ((-1) : Int32) then
      if hK q2.1 x0 = 6 then
      Option.bind (c_Re_skipWord d (some x0) q2.1) fun q3 =>
      some (q3, (1 : Int32))
      else none
    else
      some (q2.1, (0 : Int32))
    else none
  else none := (sk_XT_evL sk_rec t_I d 47 16 _ (fun _ => rfl)).trans rfl
set_option maxRecDepth 100000 in
theorem e_Re_isDigit (d : Nat) (x0 : Int32) (h : sk_H) : c_Re_isDigit d x0 h =
  if x0 < (48 : Int32) then
    some (h, (0 : Int32))
  else
    if (57 : Int32) < x0 then
      some (h, (0 : Int32))
    else
      some (h, (1 : Int32)) := (sk_XT_evL sk_rec t_I d 48 12 _ (fun _ => rfl)).trans rfl
set_option maxRecDepth 100000 in
theorem e_Re_number (d : Nat) (x0 : Nat) (x1 : Int32) (x2 : Int32) (h : sk_H) : c_Re_number d (some x0) x1 x2 h =
  if hK h x0 = 6 then
  Option.bind (c_Re_next d (some x0) h) fun q1 =>
  Option.bind (c_Re_isDigit d q1.2 q1.1) fun q2 =>
  if ¬ q2.2 = 0 then
    if hK q2.1 x0 = 6 then
    k_Re_number_29 d (some x0) x1 x2 (hI q2.1 x0 2) (0 : Int32) q2.1
    else none
  else
    if hK q2.1 x0 = 6 then
    if hK q2.1 x0 = 6 then
    Option.bind (c_Re_refuse d (some x0) (hI q2.1 x0 2) (0 : Int32) q2.1) fun q3 =>
    some (q3, (0 : Int32))
    else none
    else none
  else none := (sk_XT_evL sk_rec t_I d 49 75 _ (fun _ => rfl)).trans rfl
set_option maxRecDepth 100000 in
theorem e_Re_number_29 (d : Nat) (x0 : Nat) (x1 : Int32) (x2 : Int32) (x3 : Int32) (x4 : Int32) (h : sk_H) : k_Re_number_29 d (some x0) x1 x2 x3 x4 h =
  if hK h x0 = 6 then
  if hK h x0 = 6 then
  if (hI h x0 1) ≤ (hI h x0 2) then
    if hK h x0 = 6 then
    if (5 : Int32) < ((hI h x0 2) - x3) then
      k_Re_number_125 d (some x0) x3 x4 h
    else
      if x4 < x1 then
        k_Re_number_125 d (some x0) x3 x4 h
      else
        if x4 ≤ x2 then
          some (h, x4)
        else
          k_Re_number_125 d (some x0) x3 x4 h
    else none
  else
    if hK h x0 = 6 then
    if hK h x0 = 6 then
    Option.bind (hR h x0 0) fun a1 => if hK h a1 = 105 ∧ sk_in (hI h x0 2) (hN h a1) then
    Option.bind (c_Re_isDigit d (hI h a1 (hI h x0 2).toNatClampNeg) h) fun q2 =>
    if q2.2 = 0 then
      if hK q2.1 x0 = 6 then
      if (5 : Int32) < ((hI q2.1 x0 2) - x3) then
        k_Re_number_125 d (some x0) x3 x4 q2.1
      else
        if x4 < x1 then
          k_Re_number_125 d (some x0) x3 x4 q2.1
        else
          if x4 ≤ x2 then
            some (q2.1, x4)
          else
            k_Re_number_125 d (some x0) x3 x4 q2.1
      else none
    else
      if hK q2.1 x0 = 6 then
      if (5 : Int32) ≤ ((hI q2.1 x0 2) - x3) then
        if hK q2.1 x0 = 6 then
        if hK q2.1 x0 = 6 then
        let h3 := wI q2.1 x0 2 ((hI q2.1 x0 2) + (1 : Int32))
        k_Re_number_29 d (some x0) x1 x2 x3 x4 h3
        else none
        else none
      else
        if hK q2.1 x0 = 6 then
        if hK q2.1 x0 = 6 then
        Option.bind (hR q2.1 x0 0) fun a4 => if hK q2.1 a4 = 105 ∧ sk_in (hI q2.1 x0 2) (hN q2.1 a4) then
        if hK q2.1 x0 = 6 then
        if hK q2.1 x0 = 6 then
        let h5 := wI q2.1 x0 2 ((hI q2.1 x0 2) + (1 : Int32))
        k_Re_number_29 d (some x0) x1 x2 x3 (((x4 * (10 : Int32)) + (hI q2.1 a4 (hI q2.1 x0 2).toNatClampNeg)) - (48 : Int32)) h5
        else none
        else none
        else none
        else none
        else none
      else none
    else none
    else none
    else none
  else none
  else none := (sk_XT_evL sk_rec t_I d 49 75 _ (fun _ => rfl)).trans rfl
set_option maxRecDepth 100000 in
theorem e_Re_number_125 (d : Nat) (x0 : Nat) (x3 : Int32) (x4 : Int32) (h : sk_H) : k_Re_number_125 d (some x0) x3 x4 h =
  if hK h x0 = 6 then
  Option.bind (c_Re_refuse d (some x0) x3 (1 : Int32) h) fun q1 =>
  some (q1, x4)
  else none := (sk_XT_evL sk_rec t_I d 49 75 _ (fun _ => rfl)).trans rfl
set_option maxRecDepth 100000 in
theorem e_Re_goesOn (d : Nat) (x0 : Nat) (h : sk_H) : c_Re_goesOn d (some x0) h =
  if hK h x0 = 6 then
  Option.bind (c_Re_sound d (some x0) h) fun q1 =>
  if q1.2 = 0 then
    some (q1.1, (0 : Int32))
  else
    if hK q1.1 x0 = 6 then
    Option.bind (c_Re_next d (some x0) q1.1) fun q2 =>
    if ¬ q2.2 = ((-1) : Int32) then
      if hK q2.1 x0 = 6 then
      Option.bind (c_Re_takes d (some x0) (59 : Int32) q2.1) fun q3 =>
      if q3.2 = 0 then
        if hK q3.1 x0 = 6 then
        if hK q3.1 x0 = 6 then
        Option.bind (c_Re_refuse d (some x0) (hI q3.1 x0 2) (0 : Int32) q3.1) fun q4 =>
        some (q4, (0 : Int32))
        else none
        else none
      else
        some (q3.1, (1 : Int32))
      else none
    else
      some (q2.1, (0 : Int32))
    else none
  else none := (sk_XT_evL sk_rec t_I d 50 24 _ (fun _ => rfl)).trans rfl
set_option maxRecDepth 100000 in
theorem e_Ru_init (d : Nat) (x0 : Nat) (h : sk_H) : c_Ru_init d (some x0) h =
  let n1 := hn h
  let h2 := hnew h 101 0
  if hK h2 x0 = 7 then
  let h3 := wR h2 x0 0 (some n1)
  let n4 := hn h3
  let h5 := hnew h3 101 12
  if hK h5 x0 = 7 then
  let h6 := wR h5 x0 2 (some n4)
  let n7 := hn h6
  let h8 := hnew h6 101 12
  if hK h8 x0 = 7 then
  let h9 := wR h8 x0 3 (some n7)
  let n10 := hn h9
  let h11 := hnew h9 101 12
  if hK h11 x0 = 7 then
  let h12 := wR h11 x0 4 (some n10)
  let n13 := hn h12
  let h14 := hnew h12 102 64
  if hK h14 x0 = 7 then
  let h15 := wR h14 x0 5 (some n13)
  some h15
  else none
  else none
  else none
  else none
  else none := (sk_XT_evL sk_rec t_V d 51 25 _ (fun _ => rfl)).trans rfl
set_option maxRecDepth 100000 in
theorem e_Ru_addClause (d : Nat) (x0 : Nat) (x1 : Int32) (x2 : Int32) (x3 : Int32) (h : sk_H) : c_Ru_addClause d (some x0) x1 x2 x3 h =
  if hK h x0 = 7 then
  if (12 : Int32) ≤ (hI h x0 1) then
    some h
  else
    if hK h x0 = 7 then
    if hK h x0 = 7 then
    Option.bind (hR h x0 2) fun a1 => if hK h a1 = 101 ∧ sk_in (hI h x0 1) (hN h a1) then
    let h2 := wI h a1 (hI h x0 1).toNatClampNeg x1
    if hK h2 x0 = 7 then
    if hK h2 x0 = 7 then
    Option.bind (hR h2 x0 3) fun a3 => if hK h2 a3 = 101 ∧ sk_in (hI h2 x0 1) (hN h2 a3) then
    let h4 := wI h2 a3 (hI h2 x0 1).toNatClampNeg x2
    if hK h4 x0 = 7 then
    if hK h4 x0 = 7 then
    Option.bind (hR h4 x0 4) fun a5 => if hK h4 a5 = 101 ∧ sk_in (hI h4 x0 1) (hN h4 a5) then
    let h6 := wI h4 a5 (hI h4 x0 1).toNatClampNeg x3
    if hK h6 x0 = 7 then
    if hK h6 x0 = 7 then
    let h7 := wI h6 x0 1 ((hI h6 x0 1) + (1 : Int32))
    some h7
    else none
    else none
    else none
    else none
    else none
    else none
    else none
    else none
    else none
    else none
    else none
  else none := (sk_XT_evL sk_rec t_V d 52 31 _ (fun _ => rfl)).trans rfl
set_option maxRecDepth 100000 in
theorem e_Ru_settle (d : Nat) (x0 : Nat) (x1 : Option Nat) (x2 : Int32) (h : sk_H) : c_Ru_settle d (some x0) x1 x2 h =
  Option.bind x1 fun a1 => if a_any (hK h a1) = true then
  if ¬ (if (0 : Int32) < (if (Int32.ofNat (hN h a1)) < x2 then (Int32.ofNat (hN h a1)) else x2) then (if (Int32.ofNat (hN h a1)) < x2 then (Int32.ofNat (hN h a1)) else x2) else (0 : Int32)) < 0 ∧ (if (0 : Int32) < (if (Int32.ofNat (hN h a1)) < x2 then (Int32.ofNat (hN h a1)) else x2) then (if (Int32.ofNat (hN h a1)) < x2 then (Int32.ofNat (hN h a1)) else x2) else (0 : Int32)).toNatClampNeg ≤ 60000 then
  let n2 := hn h
  let h3 := hnew h 101 (if (0 : Int32) < (if (Int32.ofNat (hN h a1)) < x2 then (Int32.ofNat (hN h a1)) else x2) then (if (Int32.ofNat (hN h a1)) < x2 then (Int32.ofNat (hN h a1)) else x2) else (0 : Int32)).toNatClampNeg
  if hK h3 x0 = 7 then
  let h4 := wR h3 x0 0 (some n2)
  k_Ru_settle_21 d (some x0) x1 (if (0 : Int32) < (if (Int32.ofNat (hN h a1)) < x2 then (Int32.ofNat (hN h a1)) else x2) then (if (Int32.ofNat (hN h a1)) < x2 then (Int32.ofNat (hN h a1)) else x2) else (0 : Int32)) (0 : Int32) h4
  else none
  else none
  else none := (sk_XT_evL sk_rec t_V d 53 47 _ (fun _ => rfl)).trans rfl
set_option maxRecDepth 100000 in
theorem e_Ru_settle_21 (d : Nat) (x0 : Nat) (x1 : Option Nat) (x3 : Int32) (x4 : Int32) (h : sk_H) : k_Ru_settle_21 d (some x0) x1 x3 x4 h =
  if x3 ≤ x4 then
    some h
  else
    if hK h x0 = 7 then
    Option.bind x1 fun a1 => if (hK h a1 = 101 ∨ hK h a1 = 201) ∧ sk_in x4 (hN h a1) then
    Option.bind (hR h x0 0) fun a2 => if hK h a2 = 101 ∧ sk_in x4 (hN h a2) then
    let h3 := wI h a2 x4.toNatClampNeg (hI h a1 x4.toNatClampNeg)
    if hK h3 x0 = 7 then
    Option.bind x1 fun a4 => if (hK h3 a4 = 101 ∨ hK h3 a4 = 201) ∧ sk_in x4 (hN h3 a4) then
    if (hI h3 a4 x4.toNatClampNeg) < (100000 : Int32) then
      if hK h3 x0 = 7 then
      let h5 := wI h3 x0 6 ((hI h3 x0 6) ||| (0 : Int32))
      k_Ru_settle_21 d (some x0) x1 x3 (x4 + 1) h5
      else none
    else
      Option.bind x1 fun a6 => if (hK h3 a6 = 101 ∨ hK h3 a6 = 201) ∧ sk_in x4 (hN h3 a6) then
      if hK h3 x0 = 7 then
      let h7 := wI h3 x0 6 ((hI h3 x0 6) ||| ((1 : Int32) <<< (((hI h3 a6 x4.toNatClampNeg) - (100000 : Int32)) &&& 31)))
      k_Ru_settle_21 d (some x0) x1 x3 (x4 + 1) h7
      else none
      else none
    else none
    else none
    else none
    else none
    else none := (sk_XT_evL sk_rec t_V d 53 47 _ (fun _ => rfl)).trans rfl
set_option maxRecDepth 100000 in
theorem e_Ru_valueOf (d : Nat) (x0 : Nat) (x1 : Option Nat) (h : sk_H) : c_Ru_valueOf d (some x0) x1 h =
  k_Ru_valueOf_2 d (some x0) x1 (0 : Int32) h := (sk_XT_evL sk_rec t_L d 54 53 _ (fun _ => rfl)).trans rfl
set_option maxRecDepth 100000 in
theorem e_Ru_valueOf_2 (d : Nat) (x0 : Nat) (x1 : Option Nat) (x2 : Int32) (h : sk_H) : k_Ru_valueOf_2 d (some x0) x1 x2 h =
  if hK h x0 = 7 then
  if (hI h x0 1) ≤ x2 then
    some (h, (0 : Int64))
  else
    if hK h x0 = 7 then
    Option.bind (hR h x0 3) fun a1 => if (hK h a1 = 101 ∨ hK h a1 = 201) ∧ sk_in x2 (hN h a1) then
    if hK h x0 = 7 then
    Option.bind (hR h x0 4) fun a2 => if (hK h a2 = 101 ∨ hK h a2 = 201) ∧ sk_in x2 (hN h a2) then
    if (hI h a1 x2.toNatClampNeg) = (hI h a2 x2.toNatClampNeg) then
      k_Ru_valueOf_52 d (some x0) x1 x2 (1 : Int32) h
    else
      if hK h x0 = 7 then
      Option.bind (hR h x0 3) fun a3 => if (hK h a3 = 101 ∨ hK h a3 = 201) ∧ sk_in x2 (hN h a3) then
      if hK h x0 = 7 then
      Option.bind (hR h x0 4) fun a4 => if (hK h a4 = 101 ∨ hK h a4 = 201) ∧ sk_in x2 (hN h a4) then
      if hK h x0 = 7 then
      Option.bind (c_Ru_reckon d (some x0) (hI h a3 x2.toNatClampNeg) (hI h a4 x2.toNatClampNeg) x1 h) fun q5 =>
      if (lg_cmp q5.2 (0 : Int64)) = 0 then
        k_Ru_valueOf_52 d (some x0) x1 x2 (0 : Int32) q5.1
      else
        k_Ru_valueOf_52 d (some x0) x1 x2 (1 : Int32) q5.1
      else none
      else none
      else none
      else none
      else none
    else none
    else none
    else none
    else none
  else none := (sk_XT_evL sk_rec t_L d 54 53 _ (fun _ => rfl)).trans rfl
set_option maxRecDepth 100000 in
theorem e_Ru_valueOf_52 (d : Nat) (x0 : Nat) (x1 : Option Nat) (x2 : Int32) (s0 : Int32) (h : sk_H) : k_Ru_valueOf_52 d (some x0) x1 x2 s0 h =
  if s0 = 0 then
    k_Ru_valueOf_2 d (some x0) x1 (x2 + 1) h
  else
    if hK h x0 = 7 then
    Option.bind (hR h x0 2) fun a1 => if (hK h a1 = 101 ∨ hK h a1 = 201) ∧ sk_in x2 (hN h a1) then
    if hK h x0 = 7 then
    Option.bind (hR h x0 3) fun a2 => if (hK h a2 = 101 ∨ hK h a2 = 201) ∧ sk_in x2 (hN h a2) then
    if hK h x0 = 7 then
    Option.bind (c_Ru_reckon d (some x0) (hI h a1 x2.toNatClampNeg) (hI h a2 x2.toNatClampNeg) x1 h) fun q3 =>
    some (q3.1, q3.2)
    else none
    else none
    else none
    else none
    else none := (sk_XT_evL sk_rec t_L d 54 53 _ (fun _ => rfl)).trans rfl
set_option maxRecDepth 100000 in
theorem e_Ru_reckon (d : Nat) (x0 : Nat) (x1 : Int32) (x2 : Int32) (x3 : Option Nat) (h : sk_H) : c_Ru_reckon d (some x0) x1 x2 x3 h =
  k_Ru_reckon_6 d (some x0) x2 x3 (0 : Int32) x1 h := (sk_XT_evL sk_rec t_L d 55 93 _ (fun _ => rfl)).trans rfl
set_option maxRecDepth 100000 in
theorem e_Ru_reckon_6 (d : Nat) (x0 : Nat) (x2 : Int32) (x3 : Option Nat) (x4 : Int32) (x5 : Int32) (h : sk_H) : k_Ru_reckon_6 d (some x0) x2 x3 x4 x5 h =
  if x2 ≤ x5 then
    if hK h x0 = 7 then
    Option.bind (hR h x0 5) fun a1 => if (hK h a1 = 102 ∨ hK h a1 = 202) ∧ sk_in (0 : Int32) (hN h a1) then
    some (h, hJ h a1 (0 : Int32).toNatClampNeg)
    else none
    else none
  else
    if hK h x0 = 7 then
    Option.bind (hR h x0 0) fun a2 => if a_any (hK h a2) = true then
    if (Int32.ofNat (hN h a2)) ≤ x5 then
      if hK h x0 = 7 then
      Option.bind (hR h x0 5) fun a3 => if (hK h a3 = 102 ∨ hK h a3 = 202) ∧ sk_in (0 : Int32) (hN h a3) then
      some (h, hJ h a3 (0 : Int32).toNatClampNeg)
      else none
      else none
    else
      if hK h x0 = 7 then
      Option.bind (hR h x0 0) fun a4 => if (hK h a4 = 101 ∨ hK h a4 = 201) ∧ sk_in x5 (hN h a4) then
      if (hI h a4 x5.toNatClampNeg) < 0 then
        k_Ru_reckon_81 d (some x0) x2 x3 x4 x5 (hI h a4 x5.toNatClampNeg) h
      else
        if hK h x0 = 7 then
        Option.bind (hR h x0 5) fun a5 => if a_any (hK h a5) = true then
        if (Int32.ofNat (hN h a5)) ≤ x4 then
          k_Ru_reckon_81 d (some x0) x2 x3 x4 x5 (hI h a4 x5.toNatClampNeg) h
        else
          if hK h x0 = 7 then
          if (100000 : Int32) ≤ (hI h a4 x5.toNatClampNeg) then
            Option.bind x3 fun a9 => if hK h a9 = 5 then
            Option.bind (c_Lo_word d x3 ((hI h a4 x5.toNatClampNeg) - (100000 : Int32)) h) fun q6 =>
            Option.bind (hR h x0 5) fun a7 => if hK q6.1 a7 = 102 ∧ sk_in x4 (hN q6.1 a7) then
            let h8 := wJ q6.1 a7 x4.toNatClampNeg q6.2
            k_Ru_reckon_6 d (some x0) x2 x3 (x4 + 1) (x5 + 1) h8
            else none
            else none
          else
            Option.bind (hR h x0 5) fun a10 => if hK h a10 = 102 ∧ sk_in x4 (hN h a10) then
            let h11 := wJ h a10 x4.toNatClampNeg ((hI h a4 x5.toNatClampNeg).toInt64)
            k_Ru_reckon_6 d (some x0) x2 x3 (x4 + 1) (x5 + 1) h11
            else none
          else none
        else none
        else none
      else none
      else none
    else none
    else none := (sk_XT_evL sk_rec t_L d 55 93 _ (fun _ => rfl)).trans rfl
set_option maxRecDepth 100000 in
theorem e_Ru_reckon_81 (d : Nat) (x0 : Nat) (x2 : Int32) (x3 : Option Nat) (x4 : Int32) (x5 : Int32) (x6 : Int32) (h : sk_H) : k_Ru_reckon_81 d (some x0) x2 x3 x4 x5 x6 h =
  if ¬ x6 = ((-11) : Int32) then
    k_Ru_reckon_117 d (some x0) x2 x3 x4 x5 x6 h
  else
    if x4 < (1 : Int32) then
      k_Ru_reckon_117 d (some x0) x2 x3 x4 x5 x6 h
    else
      if hK h x0 = 7 then
      if hK h x0 = 7 then
      Option.bind (hR h x0 5) fun a1 => if (hK h a1 = 102 ∨ hK h a1 = 202) ∧ sk_in (x4 - (1 : Int32)) (hN h a1) then
      Option.bind (hR h x0 5) fun a2 => if hK h a2 = 102 ∧ sk_in (x4 - (1 : Int32)) (hN h a2) then
      let h3 := wJ h a2 (x4 - (1 : Int32)).toNatClampNeg ((1 : Int64) - (hJ h a1 (x4 - (1 : Int32)).toNatClampNeg))
      k_Ru_reckon_6 d (some x0) x2 x3 x4 (x5 + 1) h3
      else none
      else none
      else none
      else none := (sk_XT_evL sk_rec t_L d 55 93 _ (fun _ => rfl)).trans rfl
set_option maxRecDepth 100000 in
theorem e_Ru_reckon_117 (d : Nat) (x0 : Nat) (x2 : Int32) (x3 : Option Nat) (x4 : Int32) (x5 : Int32) (x6 : Int32) (h : sk_H) : k_Ru_reckon_117 d (some x0) x2 x3 x4 x5 x6 h =
  if x4 < (2 : Int32) then
    k_Ru_reckon_6 d (some x0) x2 x3 x4 (x5 + 1) h
  else
    if hK h x0 = 7 then
    if hK h x0 = 7 then
    Option.bind (hR h x0 5) fun a1 => if (hK h a1 = 102 ∨ hK h a1 = 202) ∧ sk_in ((x4 + (-1)) - (1 : Int32)) (hN h a1) then
    if hK h x0 = 7 then
    Option.bind (hR h x0 5) fun a2 => if (hK h a2 = 102 ∨ hK h a2 = 202) ∧ sk_in (x4 + (-1)) (hN h a2) then
    Option.bind (c_Ru_join d x6 (hJ h a1 ((x4 + (-1)) - (1 : Int32)).toNatClampNeg) (hJ h a2 (x4 + (-1)).toNatClampNeg) h) fun q3 =>
    Option.bind (hR h x0 5) fun a4 => if hK q3.1 a4 = 102 ∧ sk_in ((x4 + (-1)) - (1 : Int32)) (hN q3.1 a4) then
    let h5 := wJ q3.1 a4 ((x4 + (-1)) - (1 : Int32)).toNatClampNeg q3.2
    k_Ru_reckon_6 d (some x0) x2 x3 (x4 + (-1)) (x5 + 1) h5
    else none
    else none
    else none
    else none
    else none
    else none := (sk_XT_evL sk_rec t_L d 55 93 _ (fun _ => rfl)).trans rfl
set_option maxRecDepth 100000 in
theorem e_Ru_join (d : Nat) (x0 : Int32) (x1 : Int64) (x2 : Int64) (h : sk_H) : c_Ru_join d x0 x1 x2 h =
  if x0 = (-12) then
    some (h, x1 &&& x2)
  else if x0 = (-11) then
    some (h, x1 ||| x2)
  else if x0 = (-10) then
    if (lg_cmp x1 x2) ≤ 0 then
      some (h, (0 : Int64))
    else
      some (h, (1 : Int64))
  else if x0 = (-9) then
    if (lg_cmp x1 x2) < 0 then
      some (h, (0 : Int64))
    else
      some (h, (1 : Int64))
  else if x0 = (-8) then
    if ¬ (lg_cmp x1 x2) = 0 then
      some (h, (0 : Int64))
    else
      some (h, (1 : Int64))
  else if x0 = (-7) then
    if 0 < (lg_cmp x1 x2) then
      some (h, (0 : Int64))
    else
      some (h, (1 : Int64))
  else if x0 = (-6) then
    if 0 ≤ (lg_cmp x1 x2) then
      some (h, (0 : Int64))
    else
      some (h, (1 : Int64))
  else if x0 = (-5) then
    if ¬ (lg_cmp x2 (0 : Int64)) = 0 then
      if ¬ x2 = 0 then
      some (h, x1 - x1 / x2 * x2)
      else none
    else
      some (h, (0 : Int64))
  else if x0 = (-4) then
    if ¬ (lg_cmp x2 (0 : Int64)) = 0 then
      if ¬ x2 = 0 then
      some (h, x1 / x2)
      else none
    else
      some (h, (0 : Int64))
  else if x0 = (-3) then
    some (h, x1 * x2)
  else if x0 = (-2) then
    some (h, x1 - x2)
  else if x0 = (-1) then
    some (h, x1 + x2)
  else some (h, x1 ||| x2) := (sk_XT_evL sk_rec t_L d 56 84 _ (fun _ => rfl)).trans rfl
set_option maxRecDepth 100000 in
theorem e_RR_init (d : Nat) (x0 : Nat) (x1 : Option Nat) (h : sk_H) : c_RR_init d (some x0) x1 h =
  let n1 := hn h
  let h2 := hnew h 101 400
  if hK h2 x0 = 8 then
  let h3 := wR h2 x0 1 (some n1)
  if hK h3 x0 = 8 then
  let h4 := wR h3 x0 0 x1
  some h4
  else none
  else none := (sk_XT_evL sk_rec t_V d 57 12 _ (fun _ => rfl)).trans rfl
set_option maxRecDepth 100000 in
theorem e_RR_read (d : Nat) (x0 : Nat) (h : sk_H) : c_RR_read d (some x0) h =
  let n1 := hn h
  let h2 := hnew h 7 7
  if hK h2 n1 = 7 then
  Option.bind (c_Ru_init d (some n1) h2) fun q3 =>
  k_RR_read_10 d (some x0) (some n1) (0 : Int32) q3
  else none := (sk_XT_evL sk_rec t_R d 58 32 _ (fun _ => rfl)).trans rfl
set_option maxRecDepth 100000 in
theorem e_RR_read_10 (d : Nat) (x0 : Nat) (x1 : Option Nat) (x2 : Int32) (h : sk_H) : k_RR_read_10 d (some x0) x1 x2 h =
  if hK h x0 = 8 then
  Option.bind (c_RR_readClause d (some x0) x2 x1 h) fun q1 =>
  if (12 : Int32) < (x2 + 1) then
    k_RR_read_35 d (some x0) x1 q1
  else
    if hK q1 x0 = 8 then
    Option.bind (hR q1 x0 0) fun a3 => if hK q1 a3 = 6 then
    Option.bind (c_Re_goesOn d (hR q1 x0 0) q1) fun q2 =>
    if ¬ q2.2 = 0 then
      k_RR_read_10 d (some x0) x1 (x2 + 1) q2.1
    else
      k_RR_read_35 d (some x0) x1 q2.1
    else none
    else none
  else none := (sk_XT_evL sk_rec t_R d 58 32 _ (fun _ => rfl)).trans rfl
set_option maxRecDepth 100000 in
theorem e_RR_read_35 (d : Nat) (x0 : Nat) (x1 : Option Nat) (h : sk_H) : k_RR_read_35 d (some x0) x1 h =
  if hK h x0 = 8 then
  Option.bind (hR h x0 0) fun a4 => if hK h a4 = 6 then
  Option.bind (c_Re_sound d (hR h x0 0) h) fun q1 =>
  if q1.2 = 0 then
    some (q1.1, x1)
  else
    if hK q1.1 x0 = 8 then
    if hK q1.1 x0 = 8 then
    Option.bind x1 fun a3 => if hK q1.1 a3 = 7 then
    Option.bind (c_Ru_settle d x1 (hR q1.1 x0 1) (hI q1.1 x0 2) q1.1) fun q2 =>
    some (q2, x1)
    else none
    else none
    else none
  else none
  else none := (sk_XT_evL sk_rec t_R d 58 32 _ (fun _ => rfl)).trans rfl
set_option maxRecDepth 100000 in
theorem e_RR_readClause (d : Nat) (x0 : Nat) (x1 : Int32) (x2 : Option Nat) (h : sk_H) : c_RR_readClause d (some x0) x1 x2 h =
  if hK h x0 = 8 then
  Option.bind (hR h x0 0) fun a18 => if hK h a18 = 6 then
  Option.bind (c_Re_wordOf d (hR h x0 0) (some 3) h) fun q1 =>
  if ¬ q1.2 = ((-1) : Int32) then
    if x1 < (12 : Int32) then
      if hK q1.1 x0 = 8 then
      Option.bind (hR q1.1 x0 0) fun a11 => if hK q1.1 a11 = 6 then
      Option.bind (c_Re_skipWord d (hR q1.1 x0 0) q1.1) fun q2 =>
      if hK q2 x0 = 8 then
      if hK q2 x0 = 8 then
      Option.bind (c_RR_readSum d (some x0) q2) fun q3 =>
      if hK q3 x0 = 8 then
      if hK q3 x0 = 8 then
      Option.bind (hR q3 x0 0) fun a10 => if hK q3 a10 = 6 then
      Option.bind (c_Re_takesWord d (hR q3 x0 0) (some 5) q3) fun q4 =>
      if q4.2 = 0 then
        if hK q4.1 x0 = 8 then
        Option.bind x2 fun a6 => if hK q4.1 a6 = 7 then
        Option.bind (c_Ru_addClause d x2 (hI q2 x0 2) (hI q3 x0 2) (hI q4.1 x0 2) q4.1) fun q5 =>
        some q5
        else none
        else none
      else
        if hK q4.1 x0 = 8 then
        Option.bind (rc_RR_readTest d (some x0) (0 : Int32) q4.1) fun q7 =>
        if hK q7 x0 = 8 then
        Option.bind x2 fun a9 => if hK q7 a9 = 7 then
        Option.bind (c_Ru_addClause d x2 (hI q2 x0 2) (hI q3 x0 2) (hI q7 x0 2) q7) fun q8 =>
        some q8
        else none
        else none
        else none
      else none
      else none
      else none
      else none
      else none
      else none
      else none
    else
      if hK q1.1 x0 = 8 then
      if hK q1.1 x0 = 8 then
      Option.bind (hR q1.1 x0 0) fun a12 => if hK q1.1 a12 = 6 then
      Option.bind (hR q1.1 x0 0) fun a14 => if hK q1.1 a14 = 6 then
      Option.bind (c_Re_refuse d (hR q1.1 x0 0) (hI q1.1 a12 2) (4 : Int32) q1.1) fun q13 =>
      some q13
      else none
      else none
      else none
      else none
  else
    if hK q1.1 x0 = 8 then
    if hK q1.1 x0 = 8 then
    Option.bind (hR q1.1 x0 0) fun a15 => if hK q1.1 a15 = 6 then
    Option.bind (hR q1.1 x0 0) fun a17 => if hK q1.1 a17 = 6 then
    Option.bind (c_Re_refuse d (hR q1.1 x0 0) (hI q1.1 a15 2) (0 : Int32) q1.1) fun q16 =>
    some q16
    else none
    else none
    else none
    else none
  else none
  else none := (sk_XT_evL sk_rec t_V d 59 53 _ (fun _ => rfl)).trans rfl
set_option maxRecDepth 100000 in
theorem e_RR_readTest (d : Nat) (x0 : Nat) (x1 : Int32) (h : sk_H) : c_RR_readTest d (some x0) x1 h =
  if hK h x0 = 8 then
  Option.bind (rc_RR_readPart d (some x0) x1 h) fun q1 =>
  k_RR_readTest_7 d (some x0) x1 (0 : Int32) q1
  else none := (sk_XT_evL sk_rec t_V d 60 24 _ (fun _ => rfl)).trans rfl
set_option maxRecDepth 100000 in
theorem e_RR_readTest_7 (d : Nat) (x0 : Nat) (x1 : Int32) (x2 : Int32) (h : sk_H) : k_RR_readTest_7 d (some x0) x1 x2 h =
  if (400 : Int32) ≤ x2 then
    some h
  else
    if hK h x0 = 8 then
    Option.bind (hR h x0 0) fun a4 => if hK h a4 = 6 then
    Option.bind (c_Re_takesWord d (hR h x0 0) (some 8) h) fun q1 =>
    if q1.2 = 0 then
      some q1.1
    else
      if hK q1.1 x0 = 8 then
      Option.bind (rc_RR_readPart d (some x0) x1 q1.1) fun q2 =>
      if hK q2 x0 = 8 then
      Option.bind (c_RR_put d (some x0) ((-13) : Int32) q2) fun q3 =>
      k_RR_readTest_7 d (some x0) x1 (x2 + 1) q3
      else none
      else none
    else none
    else none := (sk_XT_evL sk_rec t_V d 60 24 _ (fun _ => rfl)).trans rfl
set_option maxRecDepth 100000 in
theorem e_RR_readPart (d : Nat) (x0 : Nat) (x1 : Int32) (h : sk_H) : c_RR_readPart d (some x0) x1 h =
  if hK h x0 = 8 then
  Option.bind (rc_RR_readFact d (some x0) x1 h) fun q1 =>
  k_RR_readPart_7 d (some x0) x1 (0 : Int32) q1
  else none := (sk_XT_evL sk_rec t_V d 61 24 _ (fun _ => rfl)).trans rfl
set_option maxRecDepth 100000 in
theorem e_RR_readPart_7 (d : Nat) (x0 : Nat) (x1 : Int32) (x2 : Int32) (h : sk_H) : k_RR_readPart_7 d (some x0) x1 x2 h =
  if (400 : Int32) ≤ x2 then
    some h
  else
    if hK h x0 = 8 then
    Option.bind (hR h x0 0) fun a4 => if hK h a4 = 6 then
    Option.bind (c_Re_takesWord d (hR h x0 0) (some 7) h) fun q1 =>
    if q1.2 = 0 then
      some q1.1
    else
      if hK q1.1 x0 = 8 then
      Option.bind (rc_RR_readFact d (some x0) x1 q1.1) fun q2 =>
      if hK q2 x0 = 8 then
      Option.bind (c_RR_put d (some x0) ((-12) : Int32) q2) fun q3 =>
      k_RR_readPart_7 d (some x0) x1 (x2 + 1) q3
      else none
      else none
    else none
    else none := (sk_XT_evL sk_rec t_V d 61 24 _ (fun _ => rfl)).trans rfl
set_option maxRecDepth 100000 in
theorem e_RR_readFact (d : Nat) (x0 : Nat) (x1 : Int32) (h : sk_H) : c_RR_readFact d (some x0) x1 h =
  if hK h x0 = 8 then
  Option.bind (hR h x0 0) fun a6 => if hK h a6 = 6 then
  Option.bind (c_Re_next d (hR h x0 0) h) fun q1 =>
  if ¬ q1.2 = (91 : Int32) then
    if hK q1.1 x0 = 8 then
    Option.bind (hR q1.1 x0 0) fun a3 => if hK q1.1 a3 = 6 then
    Option.bind (c_Re_wordOf d (hR q1.1 x0 0) (some 6) q1.1) fun q2 =>
    if q2.2 = ((-1) : Int32) then
      k_RR_readFact_36 d (some x0) x1 (0 : Int32) (0 : Int32) q2.1
    else
      k_RR_readFact_36 d (some x0) x1 (0 : Int32) (1 : Int32) q2.1
    else none
    else none
  else
    if hK q1.1 x0 = 8 then
    Option.bind (hR q1.1 x0 0) fun a5 => if hK q1.1 a5 = 6 then
    Option.bind (c_Re_wordOf d (hR q1.1 x0 0) (some 6) q1.1) fun q4 =>
    if q4.2 = ((-1) : Int32) then
      k_RR_readFact_36 d (some x0) x1 (1 : Int32) (0 : Int32) q4.1
    else
      k_RR_readFact_36 d (some x0) x1 (1 : Int32) (1 : Int32) q4.1
    else none
    else none
  else none
  else none := (sk_XT_evL sk_rec t_V d 62 91 _ (fun _ => rfl)).trans rfl
set_option maxRecDepth 100000 in
theorem e_RR_readFact_36 (d : Nat) (x0 : Nat) (x1 : Int32) (x2 : Int32) (s0 : Int32) (h : sk_H) : k_RR_readFact_36 d (some x0) x1 x2 s0 h =
  if hK h x0 = 8 then
  Option.bind (hR h x0 0) fun a6 => if hK h a6 = 6 then
  Option.bind (c_Re_sound d (hR h x0 0) h) fun q1 =>
  if ¬ q1.2 = 0 then
    if ¬ x2 = 0 then
      k_RR_readFact_79 d (some x0) x1 s0 q1.1
    else
      if ¬ s0 = 0 then
        k_RR_readFact_79 d (some x0) x1 s0 q1.1
      else
        if hK q1.1 x0 = 8 then
        Option.bind (c_RR_readSum d (some x0) q1.1) fun q2 =>
        if hK q2 x0 = 8 then
        Option.bind (c_RR_readSign d (some x0) q2) fun q3 =>
        if hK q3.1 x0 = 8 then
        Option.bind (c_RR_readSum d (some x0) q3.1) fun q4 =>
        if hK q4 x0 = 8 then
        Option.bind (c_RR_put d (some x0) q3.2 q4) fun q5 =>
        some q5
        else none
        else none
        else none
        else none
  else
    some q1.1
  else none
  else none := (sk_XT_evL sk_rec t_V d 62 91 _ (fun _ => rfl)).trans rfl
set_option maxRecDepth 100000 in
theorem e_RR_readFact_79 (d : Nat) (x0 : Nat) (x1 : Int32) (x3 : Int32) (h : sk_H) : k_RR_readFact_79 d (some x0) x1 x3 h =
  if x1 < (10 : Int32) then
    if x3 = 0 then
      if hK h x0 = 8 then
      Option.bind (hR h x0 0) fun a1 => if hK h a1 = 6 then
      Option.bind (hR h x0 0) fun a2 => if hK h a2 = 6 then
      let h3 := wI h a2 2 ((hI h a1 2) + (1 : Int32))
      if hK h3 x0 = 8 then
      Option.bind (rc_RR_readTest d (some x0) (x1 + (1 : Int32)) h3) fun q4 =>
      if hK q4 x0 = 8 then
      Option.bind (hR q4 x0 0) fun a9 => if hK q4 a9 = 6 then
      Option.bind (c_Re_takes d (hR q4 x0 0) (93 : Int32) q4) fun q5 =>
      if ¬ q5.2 = 0 then
        some q5.1
      else
        if hK q5.1 x0 = 8 then
        if hK q5.1 x0 = 8 then
        Option.bind (hR q5.1 x0 0) fun a6 => if hK q5.1 a6 = 6 then
        Option.bind (hR q5.1 x0 0) fun a8 => if hK q5.1 a8 = 6 then
        Option.bind (c_Re_refuse d (hR q5.1 x0 0) (hI q5.1 a6 2) (0 : Int32) q5.1) fun q7 =>
        some q7
        else none
        else none
        else none
        else none
      else none
      else none
      else none
      else none
      else none
      else none
    else
      if hK h x0 = 8 then
      Option.bind (hR h x0 0) fun a13 => if hK h a13 = 6 then
      Option.bind (c_Re_skipWord d (hR h x0 0) h) fun q10 =>
      if hK q10 x0 = 8 then
      Option.bind (rc_RR_readFact d (some x0) (x1 + (1 : Int32)) q10) fun q11 =>
      if hK q11 x0 = 8 then
      Option.bind (c_RR_put d (some x0) ((-11) : Int32) q11) fun q12 =>
      some q12
      else none
      else none
      else none
      else none
  else
    if hK h x0 = 8 then
    if hK h x0 = 8 then
    Option.bind (hR h x0 0) fun a14 => if hK h a14 = 6 then
    Option.bind (hR h x0 0) fun a16 => if hK h a16 = 6 then
    Option.bind (c_Re_refuse d (hR h x0 0) (hI h a14 2) (2 : Int32) h) fun q15 =>
    some q15
    else none
    else none
    else none
    else none := (sk_XT_evL sk_rec t_V d 62 91 _ (fun _ => rfl)).trans rfl
set_option maxRecDepth 100000 in
theorem e_RR_readSign (d : Nat) (x0 : Nat) (h : sk_H) : c_RR_readSign d (some x0) h =
  if hK h x0 = 8 then
  Option.bind (hR h x0 0) fun a5 => if hK h a5 = 6 then
  Option.bind (c_Re_next d (hR h x0 0) h) fun q1 =>
  if hK q1.1 x0 = 8 then
  Option.bind (hR q1.1 x0 0) fun a2 => if hK q1.1 a2 = 6 then
  if q1.2 = (60 : Int32) then
    k_RR_readSign_45 d (some x0) q1.2 (hI q1.1 a2 2) q1.1
  else
    if q1.2 = (61 : Int32) then
      k_RR_readSign_45 d (some x0) q1.2 (hI q1.1 a2 2) q1.1
    else
      if q1.2 = (62 : Int32) then
        k_RR_readSign_45 d (some x0) q1.2 (hI q1.1 a2 2) q1.1
      else
        if hK q1.1 x0 = 8 then
        Option.bind (hR q1.1 x0 0) fun a4 => if hK q1.1 a4 = 6 then
        Option.bind (c_Re_refuse d (hR q1.1 x0 0) (hI q1.1 a2 2) (0 : Int32) q1.1) fun q3 =>
        some (q3, (0 : Int32))
        else none
        else none
  else none
  else none
  else none
  else none := (sk_XT_evL sk_rec t_I d 63 76 _ (fun _ => rfl)).trans rfl
set_option maxRecDepth 100000 in
theorem e_RR_readSign_45 (d : Nat) (x0 : Nat) (x1 : Int32) (x2 : Int32) (h : sk_H) : k_RR_readSign_45 d (some x0) x1 x2 h =
  if hK h x0 = 8 then
  Option.bind (c_RR_countPart d (some x0) x2 h) fun q1 =>
  if hK q1 x0 = 8 then
  Option.bind (hR q1 x0 0) fun a2 => if hK q1 a2 = 6 then
  Option.bind (hR q1 x0 0) fun a3 => if hK q1 a3 = 6 then
  let h4 := wI q1 a3 2 ((hI q1 a2 2) + (1 : Int32))
  if ¬ x1 = (61 : Int32) then
    if hK h4 x0 = 8 then
    Option.bind (hR h4 x0 0) fun a8 => if hK h4 a8 = 6 then
    Option.bind (c_Re_look d (hR h4 x0 0) h4) fun q5 =>
    if ¬ q5.2 = (61 : Int32) then
      if hK q5.1 x0 = 8 then
      Option.bind (hR q5.1 x0 0) fun a6 => if hK q5.1 a6 = 6 then
      if (0 : Int32) = 0 then
        k_RR_readSign_107 d x1 (0 : Int32) (0 : Int32) (hI q5.1 a6 2) (hR q5.1 x0 0) q5.1
      else
        k_RR_readSign_107 d x1 (0 : Int32) (1 : Int32) (hI q5.1 a6 2) (hR q5.1 x0 0) q5.1
      else none
      else none
    else
      if hK q5.1 x0 = 8 then
      Option.bind (hR q5.1 x0 0) fun a7 => if hK q5.1 a7 = 6 then
      if (1 : Int32) = 0 then
        k_RR_readSign_107 d x1 (1 : Int32) (0 : Int32) (hI q5.1 a7 2) (hR q5.1 x0 0) q5.1
      else
        k_RR_readSign_107 d x1 (1 : Int32) (1 : Int32) (hI q5.1 a7 2) (hR q5.1 x0 0) q5.1
      else none
      else none
    else none
    else none
  else
    some (h4, ((-8) : Int32))
  else none
  else none
  else none
  else none := (sk_XT_evL sk_rec t_I d 63 76 _ (fun _ => rfl)).trans rfl
set_option maxRecDepth 100000 in
theorem e_RR_readSign_107 (d : Nat) (x1 : Int32) (x3 : Int32) (s0 : Int32) (s1 : Int32) (s2 : Option Nat) (h : sk_H) : k_RR_readSign_107 d x1 x3 s0 s1 s2 h =
  Option.bind s2 fun a1 => if hK h a1 = 6 then
  let h2 := wI h a1 2 (s1 + s0)
  if ¬ x1 = (60 : Int32) then
    if x3 = 0 then
      some (h2, ((-10) : Int32))
    else
      some (h2, ((-9) : Int32))
  else
    if x3 = 0 then
      some (h2, ((-6) : Int32))
    else
      some (h2, ((-7) : Int32))
  else none := (sk_XT_evL sk_rec t_I d 63 76 _ (fun _ => rfl)).trans rfl
set_option maxRecDepth 100000 in
theorem e_RR_readSum (d : Nat) (x0 : Nat) (h : sk_H) : c_RR_readSum d (some x0) h =
  if hK h x0 = 8 then
  Option.bind (c_RR_readValue d (some x0) h) fun q1 =>
  k_RR_readSum_8 d (some x0) (0 : Int32) (0 : Int32) q1
  else none := (sk_XT_evL sk_rec t_V d 64 59 _ (fun _ => rfl)).trans rfl
set_option maxRecDepth 100000 in
theorem e_RR_readSum_8 (d : Nat) (x0 : Nat) (x1 : Int32) (x2 : Int32) (h : sk_H) : k_RR_readSum_8 d (some x0) x1 x2 h =
  if (400 : Int32) ≤ x2 then
    k_RR_readSum_100 d (some x0) x1 h
  else
    if hK h x0 = 8 then
    Option.bind (hR h x0 0) fun a10 => if hK h a10 = 6 then
    Option.bind (c_Re_sound d (hR h x0 0) h) fun q1 =>
    if q1.2 = 0 then
      k_RR_readSum_100 d (some x0) x1 q1.1
    else
      if hK q1.1 x0 = 8 then
      Option.bind (hR q1.1 x0 0) fun a9 => if hK q1.1 a9 = 6 then
      Option.bind (c_Re_next d (hR q1.1 x0 0) q1.1) fun q2 =>
      Option.bind (c_RR_codeOf d q2.2 q2.1) fun q3 =>
      if ¬ q3.2 = 0 then
        if hK q3.1 x0 = 8 then
        Option.bind (hR q3.1 x0 0) fun a4 => if hK q3.1 a4 = 6 then
        Option.bind (hR q3.1 x0 0) fun a5 => if hK q3.1 a5 = 6 then
        let h6 := wI q3.1 a5 2 ((hI q3.1 a4 2) + (1 : Int32))
        if q3.2 = ((-1) : Int32) then
          k_RR_readSum_79 d (some x0) x1 x2 q3.2 h6
        else
          if q3.2 = ((-2) : Int32) then
            k_RR_readSum_79 d (some x0) x1 x2 q3.2 h6
          else
            if hK h6 x0 = 8 then
            Option.bind (c_RR_readValue d (some x0) h6) fun q7 =>
            if hK q7 x0 = 8 then
            Option.bind (c_RR_put d (some x0) q3.2 q7) fun q8 =>
            k_RR_readSum_8 d (some x0) x1 (x2 + 1) q8
            else none
            else none
        else none
        else none
        else none
      else
        k_RR_readSum_100 d (some x0) x1 q3.1
      else none
      else none
    else none
    else none := (sk_XT_evL sk_rec t_V d 64 59 _ (fun _ => rfl)).trans rfl
set_option maxRecDepth 100000 in
theorem e_RR_readSum_79 (d : Nat) (x0 : Nat) (x1 : Int32) (x2 : Int32) (x3 : Int32) (h : sk_H) : k_RR_readSum_79 d (some x0) x1 x2 x3 h =
  if x1 = 0 then
    if hK h x0 = 8 then
    Option.bind (c_RR_readValue d (some x0) h) fun q1 =>
    k_RR_readSum_8 d (some x0) x3 (x2 + 1) q1
    else none
  else
    if hK h x0 = 8 then
    Option.bind (c_RR_put d (some x0) x1 h) fun q2 =>
    if hK q2 x0 = 8 then
    Option.bind (c_RR_readValue d (some x0) q2) fun q3 =>
    k_RR_readSum_8 d (some x0) x3 (x2 + 1) q3
    else none
    else none := (sk_XT_evL sk_rec t_V d 64 59 _ (fun _ => rfl)).trans rfl
set_option maxRecDepth 100000 in
theorem e_RR_readSum_100 (d : Nat) (x0 : Nat) (x1 : Int32) (h : sk_H) : k_RR_readSum_100 d (some x0) x1 h =
  if x1 = 0 then
    some h
  else
    if hK h x0 = 8 then
    Option.bind (c_RR_put d (some x0) x1 h) fun q1 =>
    some q1
    else none := (sk_XT_evL sk_rec t_V d 64 59 _ (fun _ => rfl)).trans rfl
set_option maxRecDepth 100000 in
theorem e_RR_codeOf (d : Nat) (x0 : Int32) (h : sk_H) : c_RR_codeOf d x0 h =
  if x0 = 37 then
    some (h, ((-5) : Int32))
  else if x0 = 38 then
    some (h, (0 : Int32))
  else if x0 = 39 then
    some (h, (0 : Int32))
  else if x0 = 40 then
    some (h, (0 : Int32))
  else if x0 = 41 then
    some (h, (0 : Int32))
  else if x0 = 42 then
    some (h, ((-3) : Int32))
  else if x0 = 43 then
    some (h, ((-1) : Int32))
  else if x0 = 44 then
    some (h, (0 : Int32))
  else if x0 = 45 then
    some (h, ((-2) : Int32))
  else if x0 = 46 then
    some (h, (0 : Int32))
  else if x0 = 47 then
    some (h, ((-4) : Int32))
  else some (h, (0 : Int32)) := (sk_XT_evL sk_rec t_I d 65 16 _ (fun _ => rfl)).trans rfl
set_option maxRecDepth 100000 in
theorem e_RR_readValue (d : Nat) (x0 : Nat) (h : sk_H) : c_RR_readValue d (some x0) h =
  if hK h x0 = 8 then
  Option.bind (hR h x0 0) fun a18 => if hK h a18 = 6 then
  Option.bind (c_Re_next d (hR h x0 0) h) fun q1 =>
  if hK q1.1 x0 = 8 then
  Option.bind (hR q1.1 x0 0) fun a2 => if hK q1.1 a2 = 6 then
  if hK q1.1 x0 = 8 then
  Option.bind (hR q1.1 x0 0) fun a17 => if hK q1.1 a17 = 6 then
  Option.bind (c_Re_sound d (hR q1.1 x0 0) q1.1) fun q3 =>
  if ¬ q3.2 = 0 then
    Option.bind (c_Re_isDigit d q1.2 q3.1) fun q4 =>
    if q4.2 = 0 then
      if hK q4.1 x0 = 8 then
      Option.bind (hR q4.1 x0 0) fun a12 => if hK q4.1 a12 = 6 then
      Option.bind (c_Re_wordOf d (hR q4.1 x0 0) (some 4) q4.1) fun q5 =>
      if ¬ q5.2 = ((-1) : Int32) then
        if hK q5.1 x0 = 8 then
        Option.bind (hR q5.1 x0 0) fun a9 => if hK q5.1 a9 = 6 then
        Option.bind (c_Re_skipWord d (hR q5.1 x0 0) q5.1) fun q6 =>
        if hK q6 x0 = 8 then
        Option.bind (c_RR_countPart d (some x0) (hI q1.1 a2 2) q6) fun q7 =>
        if hK q7 x0 = 8 then
        Option.bind (c_RR_put d (some x0) ((100000 : Int32) + q5.2) q7) fun q8 =>
        some q8
        else none
        else none
        else none
        else none
      else
        if hK q5.1 x0 = 8 then
        Option.bind (hR q5.1 x0 0) fun a11 => if hK q5.1 a11 = 6 then
        Option.bind (c_Re_refuse d (hR q5.1 x0 0) (hI q1.1 a2 2) (0 : Int32) q5.1) fun q10 =>
        some q10
        else none
        else none
      else none
      else none
    else
      if hK q4.1 x0 = 8 then
      Option.bind (hR q4.1 x0 0) fun a16 => if hK q4.1 a16 = 6 then
      Option.bind (c_Re_number d (hR q4.1 x0 0) (0 : Int32) (99999 : Int32) q4.1) fun q13 =>
      if hK q13.1 x0 = 8 then
      Option.bind (c_RR_countPart d (some x0) (hI q1.1 a2 2) q13.1) fun q14 =>
      if hK q14 x0 = 8 then
      Option.bind (c_RR_put d (some x0) q13.2 q14) fun q15 =>
      some q15
      else none
      else none
      else none
      else none
  else
    some q3.1
  else none
  else none
  else none
  else none
  else none
  else none := (sk_XT_evL sk_rec t_V d 66 53 _ (fun _ => rfl)).trans rfl
set_option maxRecDepth 100000 in
theorem e_RR_countPart (d : Nat) (x0 : Nat) (x1 : Int32) (h : sk_H) : c_RR_countPart d (some x0) x1 h =
  if hK h x0 = 8 then
  if hK h x0 = 8 then
  let h1 := wI h x0 3 ((hI h x0 3) + (1 : Int32))
  if hK h1 x0 = 8 then
  if (hI h1 x0 3) ≤ (60 : Int32) then
    some h1
  else
    if hK h1 x0 = 8 then
    Option.bind (hR h1 x0 0) fun a3 => if hK h1 a3 = 6 then
    Option.bind (c_Re_refuse d (hR h1 x0 0) x1 (3 : Int32) h1) fun q2 =>
    some q2
    else none
    else none
  else none
  else none
  else none := (sk_XT_evL sk_rec t_V d 67 18 _ (fun _ => rfl)).trans rfl
set_option maxRecDepth 100000 in
theorem e_RR_put (d : Nat) (x0 : Nat) (x1 : Int32) (h : sk_H) : c_RR_put d (some x0) x1 h =
  if hK h x0 = 8 then
  Option.bind (hR h x0 0) fun a6 => if hK h a6 = 6 then
  Option.bind (c_Re_sound d (hR h x0 0) h) fun q1 =>
  if q1.2 = 0 then
    some q1.1
  else
    if hK q1.1 x0 = 8 then
    if hK q1.1 x0 = 8 then
    Option.bind (hR q1.1 x0 1) fun a2 => if a_any (hK q1.1 a2) = true then
    if (Int32.ofNat (hN q1.1 a2)) ≤ (hI q1.1 x0 2) then
      some q1.1
    else
      if hK q1.1 x0 = 8 then
      if hK q1.1 x0 = 8 then
      Option.bind (hR q1.1 x0 1) fun a3 => if hK q1.1 a3 = 101 ∧ sk_in (hI q1.1 x0 2) (hN q1.1 a3) then
      let h4 := wI q1.1 a3 (hI q1.1 x0 2).toNatClampNeg x1
      if hK h4 x0 = 8 then
      if hK h4 x0 = 8 then
      let h5 := wI h4 x0 2 ((hI h4 x0 2) + (1 : Int32))
      some h5
      else none
      else none
      else none
      else none
      else none
    else none
    else none
    else none
  else none
  else none := (sk_XT_evL sk_rec t_V d 68 25 _ (fun _ => rfl)).trans rfl
set_option maxRecDepth 100000 in
theorem e_St_init (d : Nat) (x0 : Nat) (h : sk_H) : c_St_init d (some x0) h =
  let n1 := hn h
  let h2 := hnew h 101 40
  if hK h2 x0 = 9 then
  let h3 := wR h2 x0 5 (some n1)
  let n4 := hn h3
  let h5 := hnew h3 101 40
  if hK h5 x0 = 9 then
  let h6 := wR h5 x0 6 (some n4)
  let n7 := hn h6
  let h8 := hnew h6 108 40
  if hK h8 x0 = 9 then
  let h9 := wR h8 x0 7 (some n7)
  some h9
  else none
  else none
  else none := (sk_XT_evL sk_rec t_V d 69 17 _ (fun _ => rfl)).trans rfl
set_option maxRecDepth 100000 in
theorem e_St_begin (d : Nat) (x0 : Nat) (x1 : Option Nat) (h : sk_H) : c_St_begin d (some x0) x1 h =
  if hK h x0 = 9 then
  let h1 := wR h x0 0 x1
  Option.bind x1 fun a2 => if hK h1 a2 = 2 then
  if hK h1 x0 = 9 then
  let h3 := wI h1 x0 1 (hI h1 a2 1)
  Option.bind x1 fun a4 => if hK h3 a4 = 2 then
  if hK h3 x0 = 9 then
  let h5 := wI h3 x0 2 (hI h3 a4 0)
  if hK h5 x0 = 9 then
  let h6 := wI h5 x0 3 (0 : Int32)
  some h6
  else none
  else none
  else none
  else none
  else none
  else none := (sk_XT_evL sk_rec t_V d 70 17 _ (fun _ => rfl)).trans rfl
set_option maxRecDepth 100000 in
theorem e_St_noted (d : Nat) (x0 : Nat) (h : sk_H) : c_St_noted d (some x0) h =
  if hK h x0 = 9 then
  some (h, (if (40 : Int32) < (hI h x0 3) then (40 : Int32) else (hI h x0 3)))
  else none := (sk_XT_evL sk_rec t_I d 71 7 _ (fun _ => rfl)).trans rfl
set_option maxRecDepth 100000 in
theorem e_St_strokeNoted (d : Nat) (x0 : Nat) (x1 : Int32) (x2 : Int32) (h : sk_H) : c_St_strokeNoted d (some x0) x1 x2 h =
  if x1 < 0 then
    some (h, none)
  else
    if hK h x0 = 9 then
    Option.bind (c_St_noted d (some x0) h) fun q1 =>
    if q1.2 ≤ x1 then
      some (q1.1, none)
    else
      if hK q1.1 x0 = 9 then
      Option.bind (hR q1.1 x0 5) fun a2 => if (hK q1.1 a2 = 101 ∨ hK q1.1 a2 = 201) ∧ sk_in x1 (hN q1.1 a2) then
      if (hI q1.1 a2 x1.toNatClampNeg) = x2 then
        if hK q1.1 x0 = 9 then
        Option.bind (hR q1.1 x0 7) fun a3 => if a_ref (hK q1.1 a3) = true ∧ sk_in x1 (hN q1.1 a3) then
        some (q1.1, hR q1.1 a3 x1.toNatClampNeg)
        else none
        else none
      else
        some (q1.1, none)
      else none
      else none
    else none := (sk_XT_evL sk_rec t_R d 72 21 _ (fun _ => rfl)).trans rfl
set_option maxRecDepth 100000 in
theorem e_St_play (d : Nat) (x0 : Nat) (x1 : Option Nat) (h : sk_H) : c_St_play d (some x0) x1 h =
  if hK h x0 = 9 then
  if (40 : Int32) ≤ (hI h x0 3) then
    k_St_play_45 d (some x0) x1 h
  else
    if hK h x0 = 9 then
    if hK h x0 = 9 then
    if hK h x0 = 9 then
    Option.bind (hR h x0 5) fun a1 => if hK h a1 = 101 ∧ sk_in (hI h x0 3) (hN h a1) then
    let h2 := wI h a1 (hI h x0 3).toNatClampNeg (hI h x0 2)
    if hK h2 x0 = 9 then
    if hK h2 x0 = 9 then
    if hK h2 x0 = 9 then
    Option.bind (hR h2 x0 6) fun a3 => if hK h2 a3 = 101 ∧ sk_in (hI h2 x0 3) (hN h2 a3) then
    let h4 := wI h2 a3 (hI h2 x0 3).toNatClampNeg (hI h2 x0 1)
    if hK h4 x0 = 9 then
    if hK h4 x0 = 9 then
    Option.bind (hR h4 x0 7) fun a5 => if a_ref (hK h4 a5) = true ∧ sk_in (hI h4 x0 3) (hN h4 a5) ∧ (x1 = none ∨ hK h4 (x1.getD 0) = a_of (hK h4 a5)) then
    let h6 := wR h4 a5 (hI h4 x0 3).toNatClampNeg x1
    k_St_play_45 d (some x0) x1 h6
    else none
    else none
    else none
    else none
    else none
    else none
    else none
    else none
    else none
    else none
    else none
  else none := (sk_XT_evL sk_rec t_V d 73 48 _ (fun _ => rfl)).trans rfl
set_option maxRecDepth 100000 in
theorem e_St_play_45 (d : Nat) (x0 : Nat) (x1 : Option Nat) (h : sk_H) : k_St_play_45 d (some x0) x1 h =
  if hK h x0 = 9 then
  Option.bind x1 fun a1 => if hK h a1 = 10 then
  if hK h x0 = 9 then
  let h2 := wI h x0 1 ((hI h x0 1) &&& ((hI h a1 3) ^^^ ((-1) : Int32)))
  if hK h2 x0 = 9 then
  if hK h2 x0 = 9 then
  let h3 := wI h2 x0 2 ((1 : Int32) - (hI h2 x0 2))
  if hK h3 x0 = 9 then
  if hK h3 x0 = 9 then
  let h4 := wI h3 x0 3 ((hI h3 x0 3) + (1 : Int32))
  some h4
  else none
  else none
  else none
  else none
  else none
  else none
  else none := (sk_XT_evL sk_rec t_V d 73 48 _ (fun _ => rfl)).trans rfl
set_option maxRecDepth 100000 in
theorem e_St_copyOf (d : Nat) (x0 : Nat) (x1 : Option Nat) (h : sk_H) : c_St_copyOf d (some x0) x1 h =
  Option.bind x1 fun a1 => if hK h a1 = 9 then
  if hK h x0 = 9 then
  let h2 := wR h x0 0 (hR h a1 0)
  Option.bind x1 fun a3 => if hK h2 a3 = 9 then
  if hK h2 x0 = 9 then
  let h4 := wI h2 x0 1 (hI h2 a3 1)
  Option.bind x1 fun a5 => if hK h4 a5 = 9 then
  if hK h4 x0 = 9 then
  let h6 := wI h4 x0 2 (hI h4 a5 2)
  Option.bind x1 fun a7 => if hK h6 a7 = 9 then
  if hK h6 x0 = 9 then
  let h8 := wI h6 x0 3 (hI h6 a7 3)
  Option.bind x1 fun a9 => if hK h8 a9 = 9 then
  if hK h8 x0 = 9 then
  let h10 := wI h8 x0 4 (hI h8 a9 4)
  k_St_copyOf_42 d (some x0) x1 (0 : Int32) h10
  else none
  else none
  else none
  else none
  else none
  else none
  else none
  else none
  else none
  else none := (sk_XT_evL sk_rec t_V d 74 54 _ (fun _ => rfl)).trans rfl
set_option maxRecDepth 100000 in
theorem e_St_copyOf_42 (d : Nat) (x0 : Nat) (x1 : Option Nat) (x2 : Int32) (h : sk_H) : k_St_copyOf_42 d (some x0) x1 x2 h =
  if (40 : Int32) ≤ x2 then
    some h
  else
    if hK h x0 = 9 then
    Option.bind x1 fun a1 => if hK h a1 = 9 then
    Option.bind (hR h a1 5) fun a2 => if (hK h a2 = 101 ∨ hK h a2 = 201) ∧ sk_in x2 (hN h a2) then
    Option.bind (hR h x0 5) fun a3 => if hK h a3 = 101 ∧ sk_in x2 (hN h a3) then
    let h4 := wI h a3 x2.toNatClampNeg (hI h a2 x2.toNatClampNeg)
    if hK h4 x0 = 9 then
    Option.bind x1 fun a5 => if hK h4 a5 = 9 then
    Option.bind (hR h4 a5 6) fun a6 => if (hK h4 a6 = 101 ∨ hK h4 a6 = 201) ∧ sk_in x2 (hN h4 a6) then
    Option.bind (hR h4 x0 6) fun a7 => if hK h4 a7 = 101 ∧ sk_in x2 (hN h4 a7) then
    let h8 := wI h4 a7 x2.toNatClampNeg (hI h4 a6 x2.toNatClampNeg)
    if hK h8 x0 = 9 then
    Option.bind x1 fun a9 => if hK h8 a9 = 9 then
    Option.bind (hR h8 a9 7) fun a10 => if a_ref (hK h8 a10) = true ∧ sk_in x2 (hN h8 a10) then
    Option.bind (hR h8 x0 7) fun a11 => if a_ref (hK h8 a11) = true ∧ sk_in x2 (hN h8 a11) ∧ ((hR h8 a10 x2.toNatClampNeg) = none ∨ hK h8 ((hR h8 a10 x2.toNatClampNeg).getD 0) = a_of (hK h8 a11)) then
    let h12 := wR h8 a11 x2.toNatClampNeg (hR h8 a10 x2.toNatClampNeg)
    k_St_copyOf_42 d (some x0) x1 (x2 + 1) h12
    else none
    else none
    else none
    else none
    else none
    else none
    else none
    else none
    else none
    else none
    else none
    else none := (sk_XT_evL sk_rec t_V d 74 54 _ (fun _ => rfl)).trans rfl
set_option maxRecDepth 100000 in
theorem e_Sk_init (d : Nat) (x0 : Nat) (x1 : Int32) (x2 : Int32) (x3 : Int32) (x4 : Int32) (x5 : Int32) (x6 : Int32) (h : sk_H) : c_Sk_init d (some x0) x1 x2 x3 x4 x5 x6 h =
  if hK h x0 = 10 then
  let h1 := wI h x0 0 x1
  if hK h1 x0 = 10 then
  let h2 := wI h1 x0 1 x2
  if hK h2 x0 = 10 then
  let h3 := wI h2 x0 2 x3
  if hK h3 x0 = 10 then
  let h4 := wI h3 x0 3 x4
  if hK h4 x0 = 10 then
  let h5 := wI h4 x0 4 (x5 &&& (x4 ^^^ ((-1) : Int32)))
  if hK h5 x0 = 10 then
  let h6 := wI h5 x0 5 (x6 &&& (x4 ^^^ ((-1) : Int32)))
  if x2 ≤ 0 then
    if hK h6 x0 = 10 then
    let h7 := wJ h6 x0 6 (0 : Int64)
    some h7
    else none
  else
    if a_any (hK h6 1) = true then
    if (Int32.ofNat (hN h6 1)) ≤ x2 then
      if hK h6 x0 = 10 then
      let h8 := wJ h6 x0 6 (0 : Int64)
      some h8
      else none
    else
      if (hK h6 1 = 102 ∨ hK h6 1 = 202) ∧ sk_in x2 (hN h6 1) then
      if hK h6 x0 = 10 then
      let h9 := wJ h6 x0 6 (hJ h6 1 x2.toNatClampNeg)
      some h9
      else none
      else none
    else none
  else none
  else none
  else none
  else none
  else none
  else none := (sk_XT_evL sk_rec t_V d 75 44 _ (fun _ => rfl)).trans rfl
set_option maxRecDepth 100000 in
theorem e_Sk_hasEndIn (d : Nat) (x0 : Nat) (x1 : Int32) (h : sk_H) : c_Sk_hasEndIn d (some x0) x1 h =
  if hK h x0 = 10 then
  if (x1 &&& (hI h x0 4)) = 0 then
    some (h, (1 : Int32))
  else
    if hK h x0 = 10 then
    if ¬ (x1 &&& (hI h x0 5)) = 0 then
      some (h, (0 : Int32))
    else
      some (h, (1 : Int32))
    else none
  else none := (sk_XT_evL sk_rec t_I d 76 16 _ (fun _ => rfl)).trans rfl
set_option maxRecDepth 100000 in
theorem e_Ta_init (d : Nat) (x0 : Nat) (h : sk_H) : c_Ta_init d (some x0) h =
  let n1 := hn h
  let h2 := hnew h 2 17
  if hK h2 n1 = 2 then
  Option.bind (c_Al_init d (some n1) h2) fun q3 =>
  if hK q3 x0 = 11 then
  let h4 := wR q3 x0 0 (some n1)
  let n5 := hn h4
  let h6 := hnew h4 102 4096
  if hK h6 x0 = 11 then
  let h7 := wR h6 x0 3 (some n5)
  let n8 := hn h7
  let h9 := hnew h7 101 4096
  if hK h9 x0 = 11 then
  let h10 := wR h9 x0 4 (some n8)
  let n11 := hn h10
  let h12 := hnew h10 101 4096
  if hK h12 x0 = 11 then
  let h13 := wR h12 x0 5 (some n11)
  let n14 := hn h13
  let h15 := hnew h13 101 4096
  if hK h15 x0 = 11 then
  let h16 := wR h15 x0 6 (some n14)
  let n17 := hn h16
  let h18 := hnew h16 101 4096
  if hK h18 x0 = 11 then
  let h19 := wR h18 x0 7 (some n17)
  let n20 := hn h19
  let h21 := hnew h19 101 4096
  if hK h21 x0 = 11 then
  let h22 := wR h21 x0 8 (some n20)
  some h22
  else none
  else none
  else none
  else none
  else none
  else none
  else none
  else none := (sk_XT_evL sk_rec t_V d 77 34 _ (fun _ => rfl)).trans rfl
set_option maxRecDepth 100000 in
theorem e_Ta_use (d : Nat) (x0 : Nat) (x1 : Option Nat) (h : sk_H) : c_Ta_use d (some x0) x1 h =
  if x1 = none then
    some h
  else
    if hK h x0 = 11 then
    Option.bind (if 20 ≤ x1.getD 20 ∧ 20 ≤ (hR h x0 0).getD 20 then some 0 else none) fun _ =>
    if ¬ x1 = (hR h x0 0) then
      if hK h x0 = 11 then
      let h1 := wR h x0 0 x1
      Option.bind x1 fun a2 => if hK h1 a2 = 2 then
      if hK h1 x0 = 11 then
      let h3 := wI h1 x0 2 ((1 : Int32) <<< ((hI h1 a2 2) &&& 31))
      Option.bind x1 fun a4 => if hK h3 a4 = 2 then
      Option.bind x1 fun a5 => if hK h3 a5 = 2 then
      if (hI h3 a5 5) = 0 then
        Option.bind x1 fun a6 => if hK h3 a6 = 2 then
        if (hI h3 a6 6) = 0 then
          k_Ta_use_62 d (some x0) (0 : Int32) (((4 : Int32) * ((hI h3 a4 4) - (1 : Int32))) + (0 : Int32)) (some x0) h3
        else
          k_Ta_use_62 d (some x0) (1 : Int32) (((4 : Int32) * ((hI h3 a4 4) - (1 : Int32))) + (0 : Int32)) (some x0) h3
        else none
      else
        Option.bind x1 fun a7 => if hK h3 a7 = 2 then
        if (hI h3 a7 6) = 0 then
          k_Ta_use_62 d (some x0) (0 : Int32) (((4 : Int32) * ((hI h3 a4 4) - (1 : Int32))) + (2 : Int32)) (some x0) h3
        else
          k_Ta_use_62 d (some x0) (1 : Int32) (((4 : Int32) * ((hI h3 a4 4) - (1 : Int32))) + (2 : Int32)) (some x0) h3
        else none
      else none
      else none
      else none
      else none
      else none
    else
      some h
    else none := (sk_XT_evL sk_rec t_V d 78 56 _ (fun _ => rfl)).trans rfl
set_option maxRecDepth 100000 in
theorem e_Ta_use_62 (d : Nat) (x0 : Nat) (s0 : Int32) (s1 : Int32) (s2 : Option Nat) (h : sk_H) : k_Ta_use_62 d (some x0) s0 s1 s2 h =
  Option.bind s2 fun a1 => if hK h a1 = 11 then
  let h2 := wI h a1 1 (s1 + s0)
  if hK h2 x0 = 11 ∧ ((0 : Int32) = 0 ∨ (0 : Int32) = 1) then
  let h3 := wI h2 x0 9 (0 : Int32)
  if hK h3 x0 = 11 ∧ ((0 : Int32) = 0 ∨ (0 : Int32) = 1) then
  let h4 := wI h3 x0 10 (0 : Int32)
  if hK h4 x0 = 11 ∧ ((0 : Int32) = 0 ∨ (0 : Int32) = 1) then
  let h5 := wI h4 x0 11 (0 : Int32)
  if hK h5 x0 = 11 ∧ ((0 : Int32) = 0 ∨ (0 : Int32) = 1) then
  let h6 := wI h5 x0 12 (0 : Int32)
  if hK h6 x0 = 11 ∧ ((0 : Int32) = 0 ∨ (0 : Int32) = 1) then
  let h7 := wI h6 x0 13 (0 : Int32)
  some h7
  else none
  else none
  else none
  else none
  else none
  else none := (sk_XT_evL sk_rec t_V d 78 56 _ (fun _ => rfl)).trans rfl
set_option maxRecDepth 100000 in
theorem e_Ta_fillWinning (d : Nat) (x0 : Nat) (h : sk_H) : c_Ta_fillWinning d (some x0) h =
  k_Ta_fillWinning_2 d (some x0) (0 : Int32) h := (sk_XT_evL sk_rec t_V d 79 86 _ (fun _ => rfl)).trans rfl
set_option maxRecDepth 100000 in
theorem e_Ta_fillWinning_2 (d : Nat) (x0 : Nat) (x1 : Int32) (h : sk_H) : k_Ta_fillWinning_2 d (some x0) x1 h =
  if hK h x0 = 11 then
  if (hI h x0 2) ≤ x1 then
    if hK h x0 = 11 ∧ ((1 : Int32) = 0 ∨ (1 : Int32) = 1) then
    let h1 := wI h x0 9 (1 : Int32)
    some h1
    else none
  else
    if hK h x0 = 11 then
    Option.bind (hR h x0 0) fun a2 => if hK h a2 = 2 then
    Option.bind (hR h a2 15) fun a3 => if a_any (hK h a3) = true then
    k_Ta_fillWinning_32 d (some x0) x1 (0 : Int64) (0 : Int64) (hR h a2 15) (Int32.ofNat (hN h a3)) (0 : Int32) h
    else none
    else none
    else none
  else none := (sk_XT_evL sk_rec t_V d 79 86 _ (fun _ => rfl)).trans rfl
set_option maxRecDepth 100000 in
theorem e_Ta_fillWinning_32 (d : Nat) (x0 : Nat) (x1 : Int32) (x2 : Int64) (x4 : Int64) (x6 : Option Nat) (x7 : Int32) (x8 : Int32) (h : sk_H) : k_Ta_fillWinning_32 d (some x0) x1 x2 x4 x6 x7 x8 h =
  if x7 ≤ x8 then
    if hK h x0 = 11 then
    Option.bind (hR h x0 3) fun a1 => if hK h a1 = 102 ∧ sk_in x1 (hN h a1) then
    let h2 := wJ h a1 x1.toNatClampNeg (x4 ||| ((768614336404564650 : Int64) &&& (x2 ^^^ ((-1) : Int64))))
    k_Ta_fillWinning_2 d (some x0) (x1 + 1) h2
    else none
    else none
  else
    Option.bind x6 fun a3 => if a_ref (hK h a3) = true ∧ sk_in x8 (hN h a3) then
    Option.bind (hR h a3 x8.toNatClampNeg) fun a4 => if hK h a4 = 10 then
    Option.bind (hR h a3 x8.toNatClampNeg) fun a5 => if hK h a5 = 10 then
    if ¬ (x1 &&& (hI h a4 3)) = (hI h a5 3) then
      k_Ta_fillWinning_32 d (some x0) x1 x2 x4 x6 x7 (x8 + 1) h
    else
      Option.bind (hR h a3 x8.toNatClampNeg) fun a9 => if hK h a9 = 10 then
      Option.bind (c_Sk_hasEndIn d (hR h a3 x8.toNatClampNeg) x1 h) fun q6 =>
      if q6.2 = 0 then
        Option.bind (hR h a3 x8.toNatClampNeg) fun a7 => if hK q6.1 a7 = 10 then
        k_Ta_fillWinning_87 d (some x0) x1 x2 x4 x6 x7 x8 (hR h a3 x8.toNatClampNeg) ((hJ q6.1 a7 6) &&& (230584300921369395 : Int64)) q6.1
        else none
      else
        Option.bind (hR h a3 x8.toNatClampNeg) fun a8 => if hK q6.1 a8 = 10 then
        k_Ta_fillWinning_87 d (some x0) x1 x2 x4 x6 x7 x8 (hR h a3 x8.toNatClampNeg) (hJ q6.1 a8 6) q6.1
        else none
      else none
    else none
    else none
    else none := (sk_XT_evL sk_rec t_V d 79 86 _ (fun _ => rfl)).trans rfl
set_option maxRecDepth 100000 in
theorem e_Ta_fillWinning_87 (d : Nat) (x0 : Nat) (x1 : Int32) (x2 : Int64) (x4 : Int64) (x6 : Option Nat) (x7 : Int32) (x8 : Int32) (x9 : Option Nat) (s0 : Int64) (h : sk_H) : k_Ta_fillWinning_87 d (some x0) x1 x2 x4 x6 x7 x8 x9 s0 h =
  if hK h x0 = 11 then
  Option.bind x9 fun a1 => if hK h a1 = 10 then
  Option.bind (hR h x0 3) fun a2 => if (hK h a2 = 102 ∨ hK h a2 = 202) ∧ sk_in (x1 &&& ((hI h a1 3) ^^^ ((-1) : Int32))) (hN h a2) then
  k_Ta_fillWinning_32 d (some x0) x1 (x2 ||| s0) (x4 ||| (s0 &&& ((hJ h a2 (x1 &&& ((hI h a1 3) ^^^ ((-1) : Int32))).toNatClampNeg) ^^^ ((-1) : Int64)))) x6 x7 (x8 + 1) h
  else none
  else none
  else none := (sk_XT_evL sk_rec t_V d 79 86 _ (fun _ => rfl)).trans rfl
set_option maxRecDepth 100000 in
theorem e_Ta_canWin (d : Nat) (x0 : Nat) (x1 : Int32) (h : sk_H) : c_Ta_canWin d (some x0) x1 h =
  if hK h x0 = 11 then
  if ¬ (hI h x0 9) = 0 then
    k_Ta_canWin_11 d (some x0) x1 h
  else
    if hK h x0 = 11 then
    Option.bind (c_Ta_fillWinning d (some x0) h) fun q1 =>
    k_Ta_canWin_11 d (some x0) x1 q1
    else none
  else none := (sk_XT_evL sk_rec t_I d 80 23 _ (fun _ => rfl)).trans rfl
set_option maxRecDepth 100000 in
theorem e_Ta_canWin_11 (d : Nat) (x0 : Nat) (x1 : Int32) (h : sk_H) : k_Ta_canWin_11 d (some x0) x1 h =
  if hK h x0 = 11 then
  Option.bind (hR h x0 3) fun a1 => if (hK h a1 = 102 ∨ hK h a1 = 202) ∧ sk_in x1 (hN h a1) then
  if hK h x0 = 11 then
  if ¬ (lg_cmp (((hJ h a1 x1.toNatClampNeg) >>> ((hI h x0 1).toInt64 &&& 63)) &&& (1 : Int64)) (1 : Int64)) = 0 then
    some (h, (0 : Int32))
  else
    some (h, (1 : Int32))
  else none
  else none
  else none := (sk_XT_evL sk_rec t_I d 80 23 _ (fun _ => rfl)).trans rfl
set_option maxRecDepth 100000 in
theorem e_Ta_winsBy (d : Nat) (x0 : Nat) (x1 : Int32) (x2 : Option Nat) (h : sk_H) : c_Ta_winsBy d (some x0) x1 x2 h =
  Option.bind x2 fun a1 => if hK h a1 = 10 then
  if hK h x0 = 11 then
  Option.bind (c_Ta_canWin d (some x0) (x1 &&& ((hI h a1 3) ^^^ ((-1) : Int32))) h) fun q2 =>
  if ¬ q2.2 = 0 then
    some (q2.1, (0 : Int32))
  else
    some (q2.1, (1 : Int32))
  else none
  else none := (sk_XT_evL sk_rec t_I d 81 15 _ (fun _ => rfl)).trans rfl
set_option maxRecDepth 100000 in
theorem e_Ta_lawsBehind (d : Nat) (x0 : Nat) (x1 : Int32) (x2 : Option Nat) (h : sk_H) : c_Ta_lawsBehind d (some x0) x1 x2 h =
  if hK h x0 = 11 then
  if ¬ (hI h x0 9) = 0 then
    Option.bind x2 fun a4 => if hK h a4 = 10 then
    Option.bind (c_Sk_hasEndIn d x2 x1 h) fun q1 =>
    if q1.2 = 0 then
      Option.bind x2 fun a2 => if hK q1.1 a2 = 10 then
      k_Ta_lawsBehind_34 d (some x0) x1 x2 ((hJ q1.1 a2 6) &&& (230584300921369395 : Int64)) q1.1
      else none
    else
      Option.bind x2 fun a3 => if hK q1.1 a3 = 10 then
      k_Ta_lawsBehind_34 d (some x0) x1 x2 (hJ q1.1 a3 6) q1.1
      else none
    else none
  else
    if hK h x0 = 11 then
    Option.bind (c_Ta_fillWinning d (some x0) h) fun q5 =>
    Option.bind x2 fun a9 => if hK q5 a9 = 10 then
    Option.bind (c_Sk_hasEndIn d x2 x1 q5) fun q6 =>
    if q6.2 = 0 then
      Option.bind x2 fun a7 => if hK q6.1 a7 = 10 then
      k_Ta_lawsBehind_34 d (some x0) x1 x2 ((hJ q6.1 a7 6) &&& (230584300921369395 : Int64)) q6.1
      else none
    else
      Option.bind x2 fun a8 => if hK q6.1 a8 = 10 then
      k_Ta_lawsBehind_34 d (some x0) x1 x2 (hJ q6.1 a8 6) q6.1
      else none
    else none
    else none
  else none := (sk_XT_evL sk_rec t_L d 82 38 _ (fun _ => rfl)).trans rfl
set_option maxRecDepth 100000 in
theorem e_Ta_lawsBehind_34 (d : Nat) (x0 : Nat) (x1 : Int32) (x2 : Option Nat) (s0 : Int64) (h : sk_H) : k_Ta_lawsBehind_34 d (some x0) x1 x2 s0 h =
  if hK h x0 = 11 then
  Option.bind (hR h x0 3) fun a1 => if (hK h a1 = 102 ∨ hK h a1 = 202) ∧ sk_in x1 (hN h a1) then
  if hK h x0 = 11 then
  Option.bind x2 fun a2 => if hK h a2 = 10 then
  Option.bind (hR h x0 3) fun a3 => if (hK h a3 = 102 ∨ hK h a3 = 202) ∧ sk_in (x1 &&& ((hI h a2 3) ^^^ ((-1) : Int32))) (hN h a3) then
  some (h, s0 &&& (((hJ h a1 x1.toNatClampNeg) &&& (hJ h a3 (x1 &&& ((hI h a2 3) ^^^ ((-1) : Int32))).toNatClampNeg)) ^^^ ((-1) : Int64)))
  else none
  else none
  else none
  else none
  else none := (sk_XT_evL sk_rec t_L d 82 38 _ (fun _ => rfl)).trans rfl
set_option maxRecDepth 100000 in
theorem e_Ta_fillLengths (d : Nat) (x0 : Nat) (h : sk_H) : c_Ta_fillLengths d (some x0) h =
  k_Ta_fillLengths_2 d (some x0) (0 : Int32) h := (sk_XT_evL sk_rec t_V d 83 95 _ (fun _ => rfl)).trans rfl
set_option maxRecDepth 100000 in
theorem e_Ta_fillLengths_2 (d : Nat) (x0 : Nat) (x1 : Int32) (h : sk_H) : k_Ta_fillLengths_2 d (some x0) x1 h =
  if hK h x0 = 11 then
  if (hI h x0 2) ≤ x1 then
    if hK h x0 = 11 ∧ ((1 : Int32) = 0 ∨ (1 : Int32) = 1) then
    let h1 := wI h x0 10 (1 : Int32)
    some h1
    else none
  else
    if hK h x0 = 11 then
    Option.bind (c_Ta_canWin d (some x0) x1 h) fun q2 =>
    if hK q2.1 x0 = 11 then
    Option.bind (hR q2.1 x0 0) fun a3 => if hK q2.1 a3 = 2 then
    Option.bind (hR q2.1 a3 14) fun a4 => if a_any (hK q2.1 a4) = true then
    k_Ta_fillLengths_35 d (some x0) x1 q2.2 ((-1) : Int32) (hR q2.1 a3 14) (Int32.ofNat (hN q2.1 a4)) (0 : Int32) q2.1
    else none
    else none
    else none
    else none
  else none := (sk_XT_evL sk_rec t_V d 83 95 _ (fun _ => rfl)).trans rfl
set_option maxRecDepth 100000 in
theorem e_Ta_fillLengths_35 (d : Nat) (x0 : Nat) (x1 : Int32) (x2 : Int32) (x3 : Int32) (x4 : Option Nat) (x5 : Int32) (x6 : Int32) (h : sk_H) : k_Ta_fillLengths_35 d (some x0) x1 x2 x3 x4 x5 x6 h =
  if x5 ≤ x6 then
    if hK h x0 = 11 then
    Option.bind (hR h x0 4) fun a1 => if hK h a1 = 101 ∧ sk_in x1 (hN h a1) then
    let h2 := wI h a1 x1.toNatClampNeg (if x3 < (0 : Int32) then (0 : Int32) else x3)
    k_Ta_fillLengths_2 d (some x0) (x1 + 1) h2
    else none
    else none
  else
    Option.bind x4 fun a3 => if a_ref (hK h a3) = true ∧ sk_in x6 (hN h a3) then
    if hK h x0 = 11 then
    Option.bind (hR h x0 0) fun a6 => if hK h a6 = 2 then
    Option.bind (c_Al_allows d (hR h x0 0) x1 (hR h a3 x6.toNatClampNeg) h) fun q4 =>
    if q4.2 = 0 then
      k_Ta_fillLengths_35 d (some x0) x1 x2 x3 x4 x5 (x6 + 1) q4.1
    else
      if x2 = 0 then
        k_Ta_fillLengths_76 d (some x0) x1 x2 x3 x4 x5 x6 (hR h a3 x6.toNatClampNeg) q4.1
      else
        if hK q4.1 x0 = 11 then
        Option.bind (c_Ta_winsBy d (some x0) x1 (hR h a3 x6.toNatClampNeg) q4.1) fun q5 =>
        if q5.2 = 0 then
          k_Ta_fillLengths_35 d (some x0) x1 x2 x3 x4 x5 (x6 + 1) q5.1
        else
          k_Ta_fillLengths_76 d (some x0) x1 x2 x3 x4 x5 x6 (hR h a3 x6.toNatClampNeg) q5.1
        else none
    else none
    else none
    else none := (sk_XT_evL sk_rec t_V d 83 95 _ (fun _ => rfl)).trans rfl
set_option maxRecDepth 100000 in
theorem e_Ta_fillLengths_76 (d : Nat) (x0 : Nat) (x1 : Int32) (x2 : Int32) (x3 : Int32) (x4 : Option Nat) (x5 : Int32) (x6 : Int32) (x7 : Option Nat) (h : sk_H) : k_Ta_fillLengths_76 d (some x0) x1 x2 x3 x4 x5 x6 x7 h =
  if hK h x0 = 11 then
  Option.bind x7 fun a1 => if hK h a1 = 10 then
  Option.bind (hR h x0 4) fun a2 => if (hK h a2 = 101 ∨ hK h a2 = 201) ∧ sk_in (x1 &&& ((hI h a1 3) ^^^ ((-1) : Int32))) (hN h a2) then
  if x2 = 0 then
    if ((hI h a2 (x1 &&& ((hI h a1 3) ^^^ ((-1) : Int32))).toNatClampNeg) + (1 : Int32)) ≤ x3 then
      k_Ta_fillLengths_123 d (some x0) x1 x2 x3 x4 x5 x6 ((hI h a2 (x1 &&& ((hI h a1 3) ^^^ ((-1) : Int32))).toNatClampNeg) + (1 : Int32)) (0 : Int32) h
    else
      k_Ta_fillLengths_123 d (some x0) x1 x2 x3 x4 x5 x6 ((hI h a2 (x1 &&& ((hI h a1 3) ^^^ ((-1) : Int32))).toNatClampNeg) + (1 : Int32)) (1 : Int32) h
  else
    if x3 ≤ ((hI h a2 (x1 &&& ((hI h a1 3) ^^^ ((-1) : Int32))).toNatClampNeg) + (1 : Int32)) then
      k_Ta_fillLengths_123 d (some x0) x1 x2 x3 x4 x5 x6 ((hI h a2 (x1 &&& ((hI h a1 3) ^^^ ((-1) : Int32))).toNatClampNeg) + (1 : Int32)) (0 : Int32) h
    else
      k_Ta_fillLengths_123 d (some x0) x1 x2 x3 x4 x5 x6 ((hI h a2 (x1 &&& ((hI h a1 3) ^^^ ((-1) : Int32))).toNatClampNeg) + (1 : Int32)) (1 : Int32) h
  else none
  else none
  else none := (sk_XT_evL sk_rec t_V d 83 95 _ (fun _ => rfl)).trans rfl
set_option maxRecDepth 100000 in
theorem e_Ta_fillLengths_123 (d : Nat) (x0 : Nat) (x1 : Int32) (x2 : Int32) (x3 : Int32) (x4 : Option Nat) (x5 : Int32) (x6 : Int32) (x8 : Int32) (s0 : Int32) (h : sk_H) : k_Ta_fillLengths_123 d (some x0) x1 x2 x3 x4 x5 x6 x8 s0 h =
  if x3 = ((-1) : Int32) then
    k_Ta_fillLengths_35 d (some x0) x1 x2 x8 x4 x5 (x6 + 1) h
  else
    if s0 = 0 then
      k_Ta_fillLengths_35 d (some x0) x1 x2 x3 x4 x5 (x6 + 1) h
    else
      k_Ta_fillLengths_35 d (some x0) x1 x2 x8 x4 x5 (x6 + 1) h := (sk_XT_evL sk_rec t_V d 83 95 _ (fun _ => rfl)).trans rfl
set_option maxRecDepth 100000 in
theorem e_Ta_lengthAt (d : Nat) (x0 : Nat) (x1 : Int32) (h : sk_H) : c_Ta_lengthAt d (some x0) x1 h =
  if hK h x0 = 11 then
  if ¬ (hI h x0 10) = 0 then
    if hK h x0 = 11 then
    Option.bind (hR h x0 4) fun a1 => if (hK h a1 = 101 ∨ hK h a1 = 201) ∧ sk_in x1 (hN h a1) then
    some (h, hI h a1 x1.toNatClampNeg)
    else none
    else none
  else
    if hK h x0 = 11 then
    Option.bind (c_Ta_fillLengths d (some x0) h) fun q2 =>
    if hK q2 x0 = 11 then
    Option.bind (hR q2 x0 4) fun a3 => if (hK q2 a3 = 101 ∨ hK q2 a3 = 201) ∧ sk_in x1 (hN q2 a3) then
    some (q2, hI q2 a3 x1.toNatClampNeg)
    else none
    else none
    else none
  else none := (sk_XT_evL sk_rec t_I d 84 12 _ (fun _ => rfl)).trans rfl
set_option maxRecDepth 100000 in
theorem e_Ta_fillPlayCounts (d : Nat) (x0 : Nat) (h : sk_H) : c_Ta_fillPlayCounts d (some x0) h =
  k_Ta_fillPlayCounts_2 d (some x0) (0 : Int32) h := (sk_XT_evL sk_rec t_V d 85 69 _ (fun _ => rfl)).trans rfl
set_option maxRecDepth 100000 in
theorem e_Ta_fillPlayCounts_2 (d : Nat) (x0 : Nat) (x1 : Int32) (h : sk_H) : k_Ta_fillPlayCounts_2 d (some x0) x1 h =
  if hK h x0 = 11 then
  if (hI h x0 2) ≤ x1 then
    if hK h x0 = 11 ∧ ((1 : Int32) = 0 ∨ (1 : Int32) = 1) then
    let h1 := wI h x0 11 (1 : Int32)
    some h1
    else none
  else
    if hK h x0 = 11 then
    Option.bind (hR h x0 0) fun a2 => if hK h a2 = 2 then
    Option.bind (hR h a2 14) fun a3 => if a_any (hK h a3) = true then
    k_Ta_fillPlayCounts_31 d (some x0) x1 (1 : Int32) (0 : Int64) (hR h a2 14) (Int32.ofNat (hN h a3)) (0 : Int32) h
    else none
    else none
    else none
  else none := (sk_XT_evL sk_rec t_V d 85 69 _ (fun _ => rfl)).trans rfl
set_option maxRecDepth 100000 in
theorem e_Ta_fillPlayCounts_31 (d : Nat) (x0 : Nat) (x1 : Int32) (x2 : Int32) (x3 : Int64) (x5 : Option Nat) (x6 : Int32) (x7 : Int32) (h : sk_H) : k_Ta_fillPlayCounts_31 d (some x0) x1 x2 x3 x5 x6 x7 h =
  if x6 ≤ x7 then
    if hK h x0 = 11 then
    if x2 = 0 then
      if ¬ (1000000007 : Int64) = 0 then
      Option.bind (hR h x0 5) fun a1 => if hK h a1 = 101 ∧ sk_in x1 (hN h a1) then
      let h2 := wI h a1 x1.toNatClampNeg ((x3 - x3 / (1000000007 : Int64) * (1000000007 : Int64)).toInt32)
      k_Ta_fillPlayCounts_2 d (some x0) (x1 + 1) h2
      else none
      else none
    else
      Option.bind (hR h x0 5) fun a3 => if hK h a3 = 101 ∧ sk_in x1 (hN h a3) then
      let h4 := wI h a3 x1.toNatClampNeg (1 : Int32)
      k_Ta_fillPlayCounts_2 d (some x0) (x1 + 1) h4
      else none
    else none
  else
    Option.bind x5 fun a5 => if a_ref (hK h a5) = true ∧ sk_in x7 (hN h a5) then
    if hK h x0 = 11 then
    Option.bind (hR h x0 0) fun a9 => if hK h a9 = 2 then
    Option.bind (c_Al_allows d (hR h x0 0) x1 (hR h a5 x7.toNatClampNeg) h) fun q6 =>
    if q6.2 = 0 then
      k_Ta_fillPlayCounts_31 d (some x0) x1 x2 x3 x5 x6 (x7 + 1) q6.1
    else
      if hK q6.1 x0 = 11 then
      Option.bind (hR h a5 x7.toNatClampNeg) fun a7 => if hK q6.1 a7 = 10 then
      Option.bind (hR q6.1 x0 5) fun a8 => if (hK q6.1 a8 = 101 ∨ hK q6.1 a8 = 201) ∧ sk_in (x1 &&& ((hI q6.1 a7 3) ^^^ ((-1) : Int32))) (hN q6.1 a8) then
      k_Ta_fillPlayCounts_31 d (some x0) x1 (0 : Int32) (x3 + ((hI q6.1 a8 (x1 &&& ((hI q6.1 a7 3) ^^^ ((-1) : Int32))).toNatClampNeg).toInt64)) x5 x6 (x7 + 1) q6.1
      else none
      else none
      else none
    else none
    else none
    else none := (sk_XT_evL sk_rec t_V d 85 69 _ (fun _ => rfl)).trans rfl
set_option maxRecDepth 100000 in
theorem e_Ta_playsAt (d : Nat) (x0 : Nat) (x1 : Int32) (h : sk_H) : c_Ta_playsAt d (some x0) x1 h =
  if hK h x0 = 11 then
  if ¬ (hI h x0 11) = 0 then
    if hK h x0 = 11 then
    Option.bind (hR h x0 5) fun a1 => if (hK h a1 = 101 ∨ hK h a1 = 201) ∧ sk_in x1 (hN h a1) then
    some (h, hI h a1 x1.toNatClampNeg)
    else none
    else none
  else
    if hK h x0 = 11 then
    Option.bind (c_Ta_fillPlayCounts d (some x0) h) fun q2 =>
    if hK q2 x0 = 11 then
    Option.bind (hR q2 x0 5) fun a3 => if (hK q2 a3 = 101 ∨ hK q2 a3 = 201) ∧ sk_in x1 (hN q2 a3) then
    some (q2, hI q2 a3 x1.toNatClampNeg)
    else none
    else none
    else none
  else none := (sk_XT_evL sk_rec t_I d 86 12 _ (fun _ => rfl)).trans rfl
set_option maxRecDepth 100000 in
theorem e_Ta_fillChances (d : Nat) (x0 : Nat) (h : sk_H) : c_Ta_fillChances d (some x0) h =
  if hK h x0 = 11 then
  Option.bind (hR h x0 0) fun a1 => if hK h a1 = 2 then
  if (hI h a1 6) = 0 then
    k_Ta_fillChances_20 d (some x0) (0 : Int32) (0 : Int32) h
  else
    k_Ta_fillChances_20 d (some x0) (10000 : Int32) (0 : Int32) h
  else none
  else none := (sk_XT_evL sk_rec t_V d 87 102 _ (fun _ => rfl)).trans rfl
set_option maxRecDepth 100000 in
theorem e_Ta_fillChances_20 (d : Nat) (x0 : Nat) (x1 : Int32) (x2 : Int32) (h : sk_H) : k_Ta_fillChances_20 d (some x0) x1 x2 h =
  if hK h x0 = 11 then
  if (hI h x0 2) ≤ x2 then
    if hK h x0 = 11 ∧ ((1 : Int32) = 0 ∨ (1 : Int32) = 1) then
    let h1 := wI h x0 12 (1 : Int32)
    some h1
    else none
  else
    if hK h x0 = 11 then
    Option.bind (hR h x0 0) fun a2 => if hK h a2 = 2 then
    Option.bind (hR h a2 14) fun a3 => if a_any (hK h a3) = true then
    k_Ta_fillChances_47 d (some x0) x1 x2 ((-1) : Int32) (hR h a2 14) (Int32.ofNat (hN h a3)) (0 : Int32) h
    else none
    else none
    else none
  else none := (sk_XT_evL sk_rec t_V d 87 102 _ (fun _ => rfl)).trans rfl
set_option maxRecDepth 100000 in
theorem e_Ta_fillChances_47 (d : Nat) (x0 : Nat) (x1 : Int32) (x2 : Int32) (x3 : Int32) (x4 : Option Nat) (x5 : Int32) (x6 : Int32) (h : sk_H) : k_Ta_fillChances_47 d (some x0) x1 x2 x3 x4 x5 x6 h =
  if x5 ≤ x6 then
    if hK h x0 = 11 then
    if ¬ x3 = ((-1) : Int32) then
      Option.bind (hR h x0 6) fun a1 => if hK h a1 = 101 ∧ sk_in x2 (hN h a1) then
      let h2 := wI h a1 x2.toNatClampNeg x3
      k_Ta_fillChances_20 d (some x0) x1 (x2 + 1) h2
      else none
    else
      Option.bind (hR h x0 6) fun a3 => if hK h a3 = 101 ∧ sk_in x2 (hN h a3) then
      let h4 := wI h a3 x2.toNatClampNeg x1
      k_Ta_fillChances_20 d (some x0) x1 (x2 + 1) h4
      else none
    else none
  else
    Option.bind x4 fun a5 => if a_ref (hK h a5) = true ∧ sk_in x6 (hN h a5) then
    if hK h x0 = 11 then
    Option.bind (hR h x0 0) fun a13 => if hK h a13 = 2 then
    Option.bind (c_Al_allows d (hR h x0 0) x2 (hR h a5 x6.toNatClampNeg) h) fun q6 =>
    if q6.2 = 0 then
      k_Ta_fillChances_47 d (some x0) x1 x2 x3 x4 x5 (x6 + 1) q6.1
    else
      Option.bind (hR h a5 x6.toNatClampNeg) fun a7 => if hK q6.1 a7 = 10 then
      Option.bind (hR h a5 x6.toNatClampNeg) fun a8 => if hK q6.1 a8 = 10 then
      if hK q6.1 x0 = 11 then
      Option.bind (hR q6.1 x0 0) fun a9 => if hK q6.1 a9 = 2 then
      if hK q6.1 x0 = 11 then
      Option.bind (hR q6.1 x0 6) fun a10 => if (hK q6.1 a10 = 101 ∨ hK q6.1 a10 = 201) ∧ sk_in (x2 &&& ((hI q6.1 a7 3) ^^^ ((-1) : Int32))) (hN q6.1 a10) then
      if hK q6.1 x0 = 11 then
      Option.bind (hR q6.1 x0 0) fun a11 => if hK q6.1 a11 = 2 then
      if hK q6.1 x0 = 11 then
      Option.bind (hR q6.1 x0 6) fun a12 => if (hK q6.1 a12 = 101 ∨ hK q6.1 a12 = 201) ∧ sk_in ((x2 &&& ((hI q6.1 a7 3) ^^^ ((-1) : Int32))) &&& ((hI q6.1 a8 5) ^^^ ((-1) : Int32))) (hN q6.1 a12) then
      if ¬ (100 : Int32) = 0 then
      k_Ta_fillChances_47 d (some x0) x1 x2 (if x3 < (((((100 : Int32) - (hI q6.1 a9 7)) * ((10000 : Int32) - (hI q6.1 a10 (x2 &&& ((hI q6.1 a7 3) ^^^ ((-1) : Int32))).toNatClampNeg))) + ((hI q6.1 a11 7) * ((10000 : Int32) - (hI q6.1 a12 ((x2 &&& ((hI q6.1 a7 3) ^^^ ((-1) : Int32))) &&& ((hI q6.1 a8 5) ^^^ ((-1) : Int32))).toNatClampNeg)))) / (100 : Int32)) then (((((100 : Int32) - (hI q6.1 a9 7)) * ((10000 : Int32) - (hI q6.1 a10 (x2 &&& ((hI q6.1 a7 3) ^^^ ((-1) : Int32))).toNatClampNeg))) + ((hI q6.1 a11 7) * ((10000 : Int32) - (hI q6.1 a12 ((x2 &&& ((hI q6.1 a7 3) ^^^ ((-1) : Int32))) &&& ((hI q6.1 a8 5) ^^^ ((-1) : Int32))).toNatClampNeg)))) / (100 : Int32)) else x3) x4 x5 (x6 + 1) q6.1
      else none
      else none
      else none
      else none
      else none
      else none
      else none
      else none
      else none
      else none
      else none
    else none
    else none
    else none := (sk_XT_evL sk_rec t_V d 87 102 _ (fun _ => rfl)).trans rfl
set_option maxRecDepth 100000 in
theorem e_Ta_chanceAt (d : Nat) (x0 : Nat) (x1 : Int32) (h : sk_H) : c_Ta_chanceAt d (some x0) x1 h =
  if hK h x0 = 11 then
  if ¬ (hI h x0 12) = 0 then
    if hK h x0 = 11 then
    Option.bind (hR h x0 6) fun a1 => if (hK h a1 = 101 ∨ hK h a1 = 201) ∧ sk_in x1 (hN h a1) then
    some (h, hI h a1 x1.toNatClampNeg)
    else none
    else none
  else
    if hK h x0 = 11 then
    Option.bind (c_Ta_fillChances d (some x0) h) fun q2 =>
    if hK q2 x0 = 11 then
    Option.bind (hR q2 x0 6) fun a3 => if (hK q2 a3 = 101 ∨ hK q2 a3 = 201) ∧ sk_in x1 (hN q2 a3) then
    some (q2, hI q2 a3 x1.toNatClampNeg)
    else none
    else none
    else none
  else none := (sk_XT_evL sk_rec t_I d 88 12 _ (fun _ => rfl)).trans rfl
set_option maxRecDepth 100000 in
theorem e_Ta_fillClever (d : Nat) (x0 : Nat) (h : sk_H) : c_Ta_fillClever d (some x0) h =
  if hK h x0 = 11 then
  Option.bind (hR h x0 0) fun a1 => if hK h a1 = 2 then
  if (hI h a1 6) = 0 then
    k_Ta_fillClever_20 d (some x0) (0 : Int32) (0 : Int32) h
  else
    k_Ta_fillClever_20 d (some x0) (10000 : Int32) (0 : Int32) h
  else none
  else none := (sk_XT_evL sk_rec t_V d 89 99 _ (fun _ => rfl)).trans rfl
set_option maxRecDepth 100000 in
theorem e_Ta_fillClever_20 (d : Nat) (x0 : Nat) (x1 : Int32) (x2 : Int32) (h : sk_H) : k_Ta_fillClever_20 d (some x0) x1 x2 h =
  if hK h x0 = 11 then
  if (hI h x0 2) ≤ x2 then
    if hK h x0 = 11 ∧ ((1 : Int32) = 0 ∨ (1 : Int32) = 1) then
    let h1 := wI h x0 13 (1 : Int32)
    some h1
    else none
  else
    if hK h x0 = 11 then
    Option.bind (hR h x0 0) fun a2 => if hK h a2 = 2 then
    Option.bind (hR h a2 14) fun a3 => if a_any (hK h a3) = true then
    k_Ta_fillClever_53 d (some x0) x1 x2 (0 : Int32) (0 : Int32) (0 : Int32) (hR h a2 14) (Int32.ofNat (hN h a3)) (0 : Int32) h
    else none
    else none
    else none
  else none := (sk_XT_evL sk_rec t_V d 89 99 _ (fun _ => rfl)).trans rfl
set_option maxRecDepth 100000 in
theorem e_Ta_fillClever_53 (d : Nat) (x0 : Nat) (x1 : Int32) (x2 : Int32) (x3 : Int32) (x4 : Int32) (x5 : Int32) (x6 : Option Nat) (x7 : Int32) (x8 : Int32) (h : sk_H) : k_Ta_fillClever_53 d (some x0) x1 x2 x3 x4 x5 x6 x7 x8 h =
  if x7 ≤ x8 then
    if hK h x0 = 11 then
    if ¬ x5 = 0 then
      k_Ta_fillClever_142 d (some x0) x1 x2 x4 x5 x3 x2 (hR h x0 7) h
    else
      k_Ta_fillClever_142 d (some x0) x1 x2 x4 x5 x1 x2 (hR h x0 7) h
    else none
  else
    Option.bind x6 fun a1 => if a_ref (hK h a1) = true ∧ sk_in x8 (hN h a1) then
    if hK h x0 = 11 then
    Option.bind (hR h x0 0) fun a7 => if hK h a7 = 2 then
    Option.bind (c_Al_allows d (hR h x0 0) x2 (hR h a1 x8.toNatClampNeg) h) fun q2 =>
    if q2.2 = 0 then
      k_Ta_fillClever_53 d (some x0) x1 x2 x3 x4 x5 x6 x7 (x8 + 1) q2.1
    else
      if hK q2.1 x0 = 11 then
      Option.bind (hR h a1 x8.toNatClampNeg) fun a3 => if hK q2.1 a3 = 10 then
      Option.bind (hR q2.1 x0 8) fun a4 => if (hK q2.1 a4 = 101 ∨ hK q2.1 a4 = 201) ∧ sk_in (x2 &&& ((hI q2.1 a3 3) ^^^ ((-1) : Int32))) (hN q2.1 a4) then
      if hK q2.1 x0 = 11 then
      Option.bind (hR h a1 x8.toNatClampNeg) fun a5 => if hK q2.1 a5 = 10 then
      Option.bind (hR q2.1 x0 7) fun a6 => if (hK q2.1 a6 = 101 ∨ hK q2.1 a6 = 201) ∧ sk_in (x2 &&& ((hI q2.1 a5 3) ^^^ ((-1) : Int32))) (hN q2.1 a6) then
      k_Ta_fillClever_53 d (some x0) x1 x2 (if x3 < (hI q2.1 a4 (x2 &&& ((hI q2.1 a3 3) ^^^ ((-1) : Int32))).toNatClampNeg) then (hI q2.1 a4 (x2 &&& ((hI q2.1 a3 3) ^^^ ((-1) : Int32))).toNatClampNeg) else x3) (x4 + (hI q2.1 a6 (x2 &&& ((hI q2.1 a5 3) ^^^ ((-1) : Int32))).toNatClampNeg)) (x5 + 1) x6 x7 (x8 + 1) q2.1
      else none
      else none
      else none
      else none
      else none
      else none
    else none
    else none
    else none := (sk_XT_evL sk_rec t_V d 89 99 _ (fun _ => rfl)).trans rfl
set_option maxRecDepth 100000 in
theorem e_Ta_fillClever_142 (d : Nat) (x0 : Nat) (x1 : Int32) (x2 : Int32) (x4 : Int32) (x5 : Int32) (s0 : Int32) (s1 : Int32) (s2 : Option Nat) (h : sk_H) : k_Ta_fillClever_142 d (some x0) x1 x2 x4 x5 s0 s1 s2 h =
  Option.bind s2 fun a1 => if hK h a1 = 101 ∧ sk_in s1 (hN h a1) then
  let h2 := wI h a1 s1.toNatClampNeg s0
  if hK h2 x0 = 11 then
  if ¬ x5 = 0 then
    if ¬ x5 = 0 then
    Option.bind (hR h2 x0 8) fun a3 => if hK h2 a3 = 101 ∧ sk_in x2 (hN h2 a3) then
    let h4 := wI h2 a3 x2.toNatClampNeg (x4 / x5)
    k_Ta_fillClever_20 d (some x0) x1 (x2 + 1) h4
    else none
    else none
  else
    Option.bind (hR h2 x0 8) fun a5 => if hK h2 a5 = 101 ∧ sk_in x2 (hN h2 a5) then
    let h6 := wI h2 a5 x2.toNatClampNeg ((10000 : Int32) - x1)
    k_Ta_fillClever_20 d (some x0) x1 (x2 + 1) h6
    else none
  else none
  else none := (sk_XT_evL sk_rec t_V d 89 99 _ (fun _ => rfl)).trans rfl
set_option maxRecDepth 100000 in
theorem e_Ta_childAt (d : Nat) (x0 : Nat) (x1 : Int32) (h : sk_H) : c_Ta_childAt d (some x0) x1 h =
  if hK h x0 = 11 then
  if ¬ (hI h x0 13) = 0 then
    if hK h x0 = 11 then
    Option.bind (hR h x0 7) fun a1 => if (hK h a1 = 101 ∨ hK h a1 = 201) ∧ sk_in x1 (hN h a1) then
    some (h, hI h a1 x1.toNatClampNeg)
    else none
    else none
  else
    if hK h x0 = 11 then
    Option.bind (c_Ta_fillClever d (some x0) h) fun q2 =>
    if hK q2 x0 = 11 then
    Option.bind (hR q2 x0 7) fun a3 => if (hK q2 a3 = 101 ∨ hK q2 a3 = 201) ∧ sk_in x1 (hN q2 a3) then
    some (q2, hI q2 a3 x1.toNatClampNeg)
    else none
    else none
    else none
  else none := (sk_XT_evL sk_rec t_I d 90 12 _ (fun _ => rfl)).trans rfl
