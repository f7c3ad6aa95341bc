set_option maxRecDepth 100000 in
theorem e_L_law (d : Nat) (x0 : Option Nat) (h : sk_H) : c_L_law d x0 h =
  let n1 := hn h
  let h2 := hnew h 12 9
  if hK h2 n1 = 12 then
  Option.bind (c_SR_init d (some n1) h2) fun q3 =>
  let n4 := hn q3
  let h5 := hnew q3 13 40
  if hK h5 n4 = 13 then
  Option.bind (c_M_init d (some n4) h5) fun q6 =>
  k_L_law_18 d x0 (some n1) (some n4) (0 : Int32) q6
  else none
  else none := (sk_XT_evL sk_rec t_I d 252 571 _ (fun _ => rfl)).trans rfl
set_option maxRecDepth 100000 in
theorem e_L_law_18 (d : Nat) (x0 : Option Nat) (x1 : Option Nat) (x2 : Option Nat) (x3 : Int32) (h : sk_H) : k_L_law_18 d x0 x1 x2 x3 h =
  Option.bind x0 fun a1 => if a_any (hK h a1) = true then
  if ((Int32.ofNat (hN h a1)) - (6 : Int32)) < x3 then
    some (h, (1 : Int32))
  else
    Option.bind x0 fun a2 => if (hK h a2 = 101 ∨ hK h a2 = 201) ∧ sk_in x3 (hN h a2) then
    if ((hI h a2 x3.toNatClampNeg) &&& (31 : Int32)) = 0 then
      Option.bind x0 fun a3 => if (hK h a3 = 101 ∨ hK h a3 = 201) ∧ sk_in (x3 + (1 : Int32)) (hN h a3) then
      Option.bind x0 fun a4 => if (hK h a4 = 101 ∨ hK h a4 = 201) ∧ sk_in (x3 + (2 : Int32)) (hN h a4) then
      Option.bind x0 fun a5 => if (hK h a5 = 101 ∨ hK h a5 = 201) ∧ sk_in (x3 + (3 : Int32)) (hN h a5) then
      Option.bind x0 fun a6 => if (hK h a6 = 101 ∨ hK h a6 = 201) ∧ sk_in (x3 + (4 : Int32)) (hN h a6) then
      Option.bind x0 fun a7 => if (hK h a7 = 101 ∨ hK h a7 = 201) ∧ sk_in (x3 + (5 : Int32)) (hN h a7) then
      Option.bind x1 fun a16 => if hK h a16 = 12 then
      Option.bind (c_SR_feed d x1 (hI h a3 (x3 + (1 : Int32)).toNatClampNeg) (hI h a4 (x3 + (2 : Int32)).toNatClampNeg) (hI h a5 (x3 + (3 : Int32)).toNatClampNeg) (hI h a6 (x3 + (4 : Int32)).toNatClampNeg) (hI h a7 (x3 + (5 : Int32)).toNatClampNeg) h) fun q8 =>
      Option.bind x0 fun a9 => if (hK q8.1 a9 = 101 ∨ hK q8.1 a9 = 201) ∧ sk_in (x3 + (1 : Int32)) (hN q8.1 a9) then
      Option.bind x0 fun a10 => if (hK q8.1 a10 = 101 ∨ hK q8.1 a10 = 201) ∧ sk_in (x3 + (2 : Int32)) (hN q8.1 a10) then
      Option.bind x0 fun a11 => if (hK q8.1 a11 = 101 ∨ hK q8.1 a11 = 201) ∧ sk_in (x3 + (3 : Int32)) (hN q8.1 a11) then
      Option.bind x0 fun a12 => if (hK q8.1 a12 = 101 ∨ hK q8.1 a12 = 201) ∧ sk_in (x3 + (4 : Int32)) (hN q8.1 a12) then
      Option.bind x0 fun a13 => if (hK q8.1 a13 = 101 ∨ hK q8.1 a13 = 201) ∧ sk_in (x3 + (5 : Int32)) (hN q8.1 a13) then
      Option.bind x2 fun a15 => if hK q8.1 a15 = 13 then
      Option.bind (c_M_feed d x2 (hI q8.1 a9 (x3 + (1 : Int32)).toNatClampNeg) (hI q8.1 a10 (x3 + (2 : Int32)).toNatClampNeg) (hI q8.1 a11 (x3 + (3 : Int32)).toNatClampNeg) (hI q8.1 a12 (x3 + (4 : Int32)).toNatClampNeg) (hI q8.1 a13 (x3 + (5 : Int32)).toNatClampNeg) q8.1) fun q14 =>
      if q8.2 = q14.2 then
        k_L_law_881 d x0 x1 x2 x3 q14.1
      else
        some (q14.1, (0 : Int32))
      else none
      else none
      else none
      else none
      else none
      else none
      else none
      else none
      else none
      else none
      else none
      else none
    else if ((hI h a2 x3.toNatClampNeg) &&& (31 : Int32)) = 1 then
      Option.bind x0 fun a17 => if (hK h a17 = 101 ∨ hK h a17 = 201) ∧ sk_in (x3 + (1 : Int32)) (hN h a17) then
      Option.bind x1 fun a22 => if hK h a22 = 12 then
      Option.bind (c_SR_end d x1 (hI h a17 (x3 + (1 : Int32)).toNatClampNeg) h) fun q18 =>
      Option.bind x0 fun a19 => if (hK q18.1 a19 = 101 ∨ hK q18.1 a19 = 201) ∧ sk_in (x3 + (1 : Int32)) (hN q18.1 a19) then
      Option.bind x2 fun a21 => if hK q18.1 a21 = 13 then
      Option.bind (c_M_end d x2 (hI q18.1 a19 (x3 + (1 : Int32)).toNatClampNeg) q18.1) fun q20 =>
      if q18.2 = q20.2 then
        k_L_law_881 d x0 x1 x2 x3 q20.1
      else
        some (q20.1, (0 : Int32))
      else none
      else none
      else none
      else none
    else if ((hI h a2 x3.toNatClampNeg) &&& (31 : Int32)) = 2 then
      Option.bind x1 fun a26 => if hK h a26 = 12 then
      Option.bind (c_SR_alley d x1 h) fun q23 =>
      Option.bind x2 fun a25 => if hK q23.1 a25 = 13 then
      Option.bind (c_M_alley d x2 q23.1) fun q24 =>
      if q23.2 = q24.2 then
        k_L_law_881 d x0 x1 x2 x3 q24.1
      else
        some (q24.1, (0 : Int32))
      else none
      else none
    else if ((hI h a2 x3.toNatClampNeg) &&& (31 : Int32)) = 3 then
      Option.bind x1 fun a30 => if hK h a30 = 12 then
      Option.bind (c_SR_rule d x1 h) fun q27 =>
      Option.bind x2 fun a29 => if hK q27.1 a29 = 13 then
      Option.bind (c_M_rule d x2 q27.1) fun q28 =>
      if q27.2 = q28.2 then
        k_L_law_881 d x0 x1 x2 x3 q28.1
      else
        some (q28.1, (0 : Int32))
      else none
      else none
    else if ((hI h a2 x3.toNatClampNeg) &&& (31 : Int32)) = 4 then
      Option.bind x0 fun a31 => if (hK h a31 = 101 ∨ hK h a31 = 201) ∧ sk_in (x3 + (1 : Int32)) (hN h a31) then
      Option.bind x0 fun a32 => if (hK h a32 = 101 ∨ hK h a32 = 201) ∧ sk_in (x3 + (2 : Int32)) (hN h a32) then
      Option.bind x1 fun a38 => if hK h a38 = 12 then
      Option.bind (c_SR_place d x1 (hI h a31 (x3 + (1 : Int32)).toNatClampNeg) (hI h a32 (x3 + (2 : Int32)).toNatClampNeg) h) fun q33 =>
      Option.bind x0 fun a34 => if (hK q33.1 a34 = 101 ∨ hK q33.1 a34 = 201) ∧ sk_in (x3 + (1 : Int32)) (hN q33.1 a34) then
      Option.bind x0 fun a35 => if (hK q33.1 a35 = 101 ∨ hK q33.1 a35 = 201) ∧ sk_in (x3 + (2 : Int32)) (hN q33.1 a35) then
      Option.bind x2 fun a37 => if hK q33.1 a37 = 13 then
      Option.bind (c_M_place d x2 (hI q33.1 a34 (x3 + (1 : Int32)).toNatClampNeg) (hI q33.1 a35 (x3 + (2 : Int32)).toNatClampNeg) q33.1) fun q36 =>
      if q33.2 = q36.2 then
        k_L_law_881 d x0 x1 x2 x3 q36.1
      else
        some (q36.1, (0 : Int32))
      else none
      else none
      else none
      else none
      else none
      else none
    else if ((hI h a2 x3.toNatClampNeg) &&& (31 : Int32)) = 5 then
      Option.bind x0 fun a39 => if (hK h a39 = 101 ∨ hK h a39 = 201) ∧ sk_in (x3 + (1 : Int32)) (hN h a39) then
      Option.bind x0 fun a40 => if (hK h a40 = 101 ∨ hK h a40 = 201) ∧ sk_in (x3 + (2 : Int32)) (hN h a40) then
      Option.bind x1 fun a46 => if hK h a46 = 12 then
      Option.bind (c_SR_can d x1 (hI h a39 (x3 + (1 : Int32)).toNatClampNeg) (hI h a40 (x3 + (2 : Int32)).toNatClampNeg) h) fun q41 =>
      Option.bind x0 fun a42 => if (hK q41.1 a42 = 101 ∨ hK q41.1 a42 = 201) ∧ sk_in (x3 + (1 : Int32)) (hN q41.1 a42) then
      Option.bind x0 fun a43 => if (hK q41.1 a43 = 101 ∨ hK q41.1 a43 = 201) ∧ sk_in (x3 + (2 : Int32)) (hN q41.1 a43) then
      Option.bind x2 fun a45 => if hK q41.1 a45 = 13 then
      Option.bind (c_M_can d x2 (hI q41.1 a42 (x3 + (1 : Int32)).toNatClampNeg) (hI q41.1 a43 (x3 + (2 : Int32)).toNatClampNeg) q41.1) fun q44 =>
      if q41.2 = q44.2 then
        k_L_law_881 d x0 x1 x2 x3 q44.1
      else
        some (q44.1, (0 : Int32))
      else none
      else none
      else none
      else none
      else none
      else none
    else if ((hI h a2 x3.toNatClampNeg) &&& (31 : Int32)) = 6 then
      Option.bind x0 fun a47 => if (hK h a47 = 101 ∨ hK h a47 = 201) ∧ sk_in (x3 + (1 : Int32)) (hN h a47) then
      Option.bind x0 fun a48 => if (hK h a48 = 101 ∨ hK h a48 = 201) ∧ sk_in (x3 + (2 : Int32)) (hN h a48) then
      Option.bind x1 fun a54 => if hK h a54 = 12 then
      Option.bind (c_SR_stroke d x1 (hI h a47 (x3 + (1 : Int32)).toNatClampNeg) (hI h a48 (x3 + (2 : Int32)).toNatClampNeg) h) fun q49 =>
      Option.bind x0 fun a50 => if (hK q49.1 a50 = 101 ∨ hK q49.1 a50 = 201) ∧ sk_in (x3 + (1 : Int32)) (hN q49.1 a50) then
      Option.bind x0 fun a51 => if (hK q49.1 a51 = 101 ∨ hK q49.1 a51 = 201) ∧ sk_in (x3 + (2 : Int32)) (hN q49.1 a51) then
      Option.bind x2 fun a53 => if hK q49.1 a53 = 13 then
      Option.bind (c_M_stroke d x2 (hI q49.1 a50 (x3 + (1 : Int32)).toNatClampNeg) (hI q49.1 a51 (x3 + (2 : Int32)).toNatClampNeg) q49.1) fun q52 =>
      if q49.2 = q52.2 then
        k_L_law_881 d x0 x1 x2 x3 q52.1
      else
        some (q52.1, (0 : Int32))
      else none
      else none
      else none
      else none
      else none
      else none
    else if ((hI h a2 x3.toNatClampNeg) &&& (31 : Int32)) = 7 then
      Option.bind x0 fun a55 => if (hK h a55 = 101 ∨ hK h a55 = 201) ∧ sk_in (x3 + (1 : Int32)) (hN h a55) then
      Option.bind x1 fun a60 => if hK h a60 = 12 then
      Option.bind (c_SR_up d x1 (hI h a55 (x3 + (1 : Int32)).toNatClampNeg) h) fun q56 =>
      Option.bind x0 fun a57 => if (hK q56.1 a57 = 101 ∨ hK q56.1 a57 = 201) ∧ sk_in (x3 + (1 : Int32)) (hN q56.1 a57) then
      Option.bind x2 fun a59 => if hK q56.1 a59 = 13 then
      Option.bind (c_M_up d x2 (hI q56.1 a57 (x3 + (1 : Int32)).toNatClampNeg) q56.1) fun q58 =>
      if q56.2 = q58.2 then
        k_L_law_881 d x0 x1 x2 x3 q58.1
      else
        some (q58.1, (0 : Int32))
      else none
      else none
      else none
      else none
    else if ((hI h a2 x3.toNatClampNeg) &&& (31 : Int32)) = 8 then
      Option.bind x1 fun a64 => if hK h a64 = 12 then
      Option.bind (c_SR_pass d x1 h) fun q61 =>
      Option.bind x2 fun a63 => if hK q61.1 a63 = 13 then
      Option.bind (c_M_pass d x2 q61.1) fun q62 =>
      if q61.2 = q62.2 then
        k_L_law_881 d x0 x1 x2 x3 q62.1
      else
        some (q62.1, (0 : Int32))
      else none
      else none
    else if ((hI h a2 x3.toNatClampNeg) &&& (31 : Int32)) = 9 then
      Option.bind x1 fun a68 => if hK h a68 = 12 then
      Option.bind (c_SR_undo d x1 h) fun q65 =>
      Option.bind x2 fun a67 => if hK q65.1 a67 = 13 then
      Option.bind (c_M_undo d x2 q65.1) fun q66 =>
      if q65.2 = q66.2 then
        k_L_law_881 d x0 x1 x2 x3 q66.1
      else
        some (q66.1, (0 : Int32))
      else none
      else none
    else if ((hI h a2 x3.toNatClampNeg) &&& (31 : Int32)) = 10 then
      Option.bind x1 fun a72 => if hK h a72 = 12 then
      Option.bind (c_SR_won d x1 h) fun q69 =>
      Option.bind x2 fun a71 => if hK q69.1 a71 = 13 then
      Option.bind (c_M_won d x2 q69.1) fun q70 =>
      if q69.2 = q70.2 then
        k_L_law_881 d x0 x1 x2 x3 q70.1
      else
        some (q70.1, (0 : Int32))
      else none
      else none
    else if ((hI h a2 x3.toNatClampNeg) &&& (31 : Int32)) = 11 then
      Option.bind x0 fun a73 => if (hK h a73 = 101 ∨ hK h a73 = 201) ∧ sk_in (x3 + (1 : Int32)) (hN h a73) then
      Option.bind x1 fun a78 => if hK h a78 = 12 then
      Option.bind (c_SR_wins d x1 (hI h a73 (x3 + (1 : Int32)).toNatClampNeg) h) fun q74 =>
      Option.bind x0 fun a75 => if (hK q74.1 a75 = 101 ∨ hK q74.1 a75 = 201) ∧ sk_in (x3 + (1 : Int32)) (hN q74.1 a75) then
      Option.bind x2 fun a77 => if hK q74.1 a77 = 13 then
      Option.bind (c_M_wins d x2 (hI q74.1 a75 (x3 + (1 : Int32)).toNatClampNeg) q74.1) fun q76 =>
      if q74.2 = q76.2 then
        k_L_law_881 d x0 x1 x2 x3 q76.1
      else
        some (q76.1, (0 : Int32))
      else none
      else none
      else none
      else none
    else if ((hI h a2 x3.toNatClampNeg) &&& (31 : Int32)) = 12 then
      Option.bind x0 fun a79 => if (hK h a79 = 101 ∨ hK h a79 = 201) ∧ sk_in (x3 + (1 : Int32)) (hN h a79) then
      Option.bind x1 fun a84 => if hK h a84 = 12 then
      Option.bind (c_SR_worth d x1 (hI h a79 (x3 + (1 : Int32)).toNatClampNeg) h) fun q80 =>
      Option.bind x0 fun a81 => if (hK q80.1 a81 = 101 ∨ hK q80.1 a81 = 201) ∧ sk_in (x3 + (1 : Int32)) (hN q80.1 a81) then
      Option.bind x2 fun a83 => if hK q80.1 a83 = 13 then
      Option.bind (c_M_worth d x2 (hI q80.1 a81 (x3 + (1 : Int32)).toNatClampNeg) q80.1) fun q82 =>
      if q80.2 = q82.2 then
        k_L_law_881 d x0 x1 x2 x3 q82.1
      else
        some (q82.1, (0 : Int32))
      else none
      else none
      else none
      else none
    else if ((hI h a2 x3.toNatClampNeg) &&& (31 : Int32)) = 13 then
      Option.bind x0 fun a85 => if (hK h a85 = 101 ∨ hK h a85 = 201) ∧ sk_in (x3 + (1 : Int32)) (hN h a85) then
      Option.bind x1 fun a90 => if hK h a90 = 12 then
      Option.bind (c_SR_plain d x1 (hI h a85 (x3 + (1 : Int32)).toNatClampNeg) h) fun q86 =>
      Option.bind x0 fun a87 => if (hK q86.1 a87 = 101 ∨ hK q86.1 a87 = 201) ∧ sk_in (x3 + (1 : Int32)) (hN q86.1 a87) then
      Option.bind x2 fun a89 => if hK q86.1 a89 = 13 then
      Option.bind (c_M_plain d x2 (hI q86.1 a87 (x3 + (1 : Int32)).toNatClampNeg) q86.1) fun q88 =>
      if q86.2 = q88.2 then
        k_L_law_881 d x0 x1 x2 x3 q88.1
      else
        some (q88.1, (0 : Int32))
      else none
      else none
      else none
      else none
    else if ((hI h a2 x3.toNatClampNeg) &&& (31 : Int32)) = 14 then
      Option.bind x0 fun a91 => if (hK h a91 = 101 ∨ hK h a91 = 201) ∧ sk_in (x3 + (1 : Int32)) (hN h a91) then
      Option.bind x1 fun a96 => if hK h a96 = 12 then
      Option.bind (c_SR_again d x1 (hI h a91 (x3 + (1 : Int32)).toNatClampNeg) h) fun q92 =>
      Option.bind x0 fun a93 => if (hK q92.1 a93 = 101 ∨ hK q92.1 a93 = 201) ∧ sk_in (x3 + (1 : Int32)) (hN q92.1 a93) then
      Option.bind x2 fun a95 => if hK q92.1 a95 = 13 then
      Option.bind (c_M_again d x2 (hI q92.1 a93 (x3 + (1 : Int32)).toNatClampNeg) q92.1) fun q94 =>
      if q92.2 = q94.2 then
        k_L_law_881 d x0 x1 x2 x3 q94.1
      else
        some (q94.1, (0 : Int32))
      else none
      else none
      else none
      else none
    else if ((hI h a2 x3.toNatClampNeg) &&& (31 : Int32)) = 15 then
      Option.bind x1 fun a100 => if hK h a100 = 12 then
      Option.bind (c_SR_lasts d x1 h) fun q97 =>
      Option.bind x2 fun a99 => if hK q97.1 a99 = 13 then
      Option.bind (c_M_lasts d x2 q97.1) fun q98 =>
      if q97.2 = q98.2 then
        k_L_law_881 d x0 x1 x2 x3 q98.1
      else
        some (q98.1, (0 : Int32))
      else none
      else none
    else if ((hI h a2 x3.toNatClampNeg) &&& (31 : Int32)) = 16 then
      Option.bind x1 fun a104 => if hK h a104 = 12 then
      Option.bind (c_SR_plays d x1 h) fun q101 =>
      Option.bind x2 fun a103 => if hK q101.1 a103 = 13 then
      Option.bind (c_M_plays d x2 q101.1) fun q102 =>
      if q101.2 = q102.2 then
        k_L_law_881 d x0 x1 x2 x3 q102.1
      else
        some (q102.1, (0 : Int32))
      else none
      else none
    else if ((hI h a2 x3.toNatClampNeg) &&& (31 : Int32)) = 17 then
      Option.bind x0 fun a105 => if (hK h a105 = 101 ∨ hK h a105 = 201) ∧ sk_in (x3 + (1 : Int32)) (hN h a105) then
      Option.bind x1 fun a110 => if hK h a110 = 12 then
      Option.bind (c_SR_fair d x1 (hI h a105 (x3 + (1 : Int32)).toNatClampNeg) h) fun q106 =>
      Option.bind x0 fun a107 => if (hK q106.1 a107 = 101 ∨ hK q106.1 a107 = 201) ∧ sk_in (x3 + (1 : Int32)) (hN q106.1 a107) then
      Option.bind x2 fun a109 => if hK q106.1 a109 = 13 then
      Option.bind (c_M_fair d x2 (hI q106.1 a107 (x3 + (1 : Int32)).toNatClampNeg) q106.1) fun q108 =>
      if q106.2 = q108.2 then
        k_L_law_881 d x0 x1 x2 x3 q108.1
      else
        some (q108.1, (0 : Int32))
      else none
      else none
      else none
      else none
    else if ((hI h a2 x3.toNatClampNeg) &&& (31 : Int32)) = 18 then
      Option.bind x1 fun a114 => if hK h a114 = 12 then
      Option.bind (c_SR_chance d x1 h) fun q111 =>
      Option.bind x2 fun a113 => if hK q111.1 a113 = 13 then
      Option.bind (c_M_chance d x2 q111.1) fun q112 =>
      if q111.2 = q112.2 then
        k_L_law_881 d x0 x1 x2 x3 q112.1
      else
        some (q112.1, (0 : Int32))
      else none
      else none
    else if ((hI h a2 x3.toNatClampNeg) &&& (31 : Int32)) = 19 then
      Option.bind x1 fun a118 => if hK h a118 = 12 then
      Option.bind (c_SR_child d x1 h) fun q115 =>
      Option.bind x2 fun a117 => if hK q115.1 a117 = 13 then
      Option.bind (c_M_child d x2 q115.1) fun q116 =>
      if q115.2 = q116.2 then
        k_L_law_881 d x0 x1 x2 x3 q116.1
      else
        some (q116.1, (0 : Int32))
      else none
      else none
    else if ((hI h a2 x3.toNatClampNeg) &&& (31 : Int32)) = 20 then
      Option.bind x0 fun a119 => if (hK h a119 = 101 ∨ hK h a119 = 201) ∧ sk_in (x3 + (1 : Int32)) (hN h a119) then
      Option.bind x0 fun a120 => if (hK h a120 = 101 ∨ hK h a120 = 201) ∧ sk_in (x3 + (2 : Int32)) (hN h a120) then
      Option.bind x0 fun a121 => if (hK h a121 = 101 ∨ hK h a121 = 201) ∧ sk_in (x3 + (3 : Int32)) (hN h a121) then
      Option.bind x1 fun a128 => if hK h a128 = 12 then
      Option.bind (c_SR_match d x1 (hI h a119 (x3 + (1 : Int32)).toNatClampNeg) (hI h a120 (x3 + (2 : Int32)).toNatClampNeg) (hI h a121 (x3 + (3 : Int32)).toNatClampNeg) h) fun q122 =>
      Option.bind x0 fun a123 => if (hK q122.1 a123 = 101 ∨ hK q122.1 a123 = 201) ∧ sk_in (x3 + (1 : Int32)) (hN q122.1 a123) then
      Option.bind x0 fun a124 => if (hK q122.1 a124 = 101 ∨ hK q122.1 a124 = 201) ∧ sk_in (x3 + (2 : Int32)) (hN q122.1 a124) then
      Option.bind x0 fun a125 => if (hK q122.1 a125 = 101 ∨ hK q122.1 a125 = 201) ∧ sk_in (x3 + (3 : Int32)) (hN q122.1 a125) then
      Option.bind x2 fun a127 => if hK q122.1 a127 = 13 then
      Option.bind (c_M_match d x2 (hI q122.1 a123 (x3 + (1 : Int32)).toNatClampNeg) (hI q122.1 a124 (x3 + (2 : Int32)).toNatClampNeg) (hI q122.1 a125 (x3 + (3 : Int32)).toNatClampNeg) q122.1) fun q126 =>
      if q122.2 = q126.2 then
        k_L_law_881 d x0 x1 x2 x3 q126.1
      else
        some (q126.1, (0 : Int32))
      else none
      else none
      else none
      else none
      else none
      else none
      else none
      else none
    else if ((hI h a2 x3.toNatClampNeg) &&& (31 : Int32)) = 21 then
      Option.bind x0 fun a129 => if (hK h a129 = 101 ∨ hK h a129 = 201) ∧ sk_in (x3 + (1 : Int32)) (hN h a129) then
      Option.bind x0 fun a130 => if (hK h a130 = 101 ∨ hK h a130 = 201) ∧ sk_in (x3 + (2 : Int32)) (hN h a130) then
      Option.bind x1 fun a136 => if hK h a136 = 12 then
      Option.bind (c_SR_knew d x1 (hI h a129 (x3 + (1 : Int32)).toNatClampNeg) (hI h a130 (x3 + (2 : Int32)).toNatClampNeg) h) fun q131 =>
      Option.bind x0 fun a132 => if (hK q131.1 a132 = 101 ∨ hK q131.1 a132 = 201) ∧ sk_in (x3 + (1 : Int32)) (hN q131.1 a132) then
      Option.bind x0 fun a133 => if (hK q131.1 a133 = 101 ∨ hK q131.1 a133 = 201) ∧ sk_in (x3 + (2 : Int32)) (hN q131.1 a133) then
      Option.bind x2 fun a135 => if hK q131.1 a135 = 13 then
      Option.bind (c_M_knew d x2 (hI q131.1 a132 (x3 + (1 : Int32)).toNatClampNeg) (hI q131.1 a133 (x3 + (2 : Int32)).toNatClampNeg) q131.1) fun q134 =>
      if q131.2 = q134.2 then
        k_L_law_881 d x0 x1 x2 x3 q134.1
      else
        some (q134.1, (0 : Int32))
      else none
      else none
      else none
      else none
      else none
      else none
    else if ((hI h a2 x3.toNatClampNeg) &&& (31 : Int32)) = 22 then
      Option.bind x0 fun a137 => if (hK h a137 = 101 ∨ hK h a137 = 201) ∧ sk_in (x3 + (1 : Int32)) (hN h a137) then
      Option.bind x0 fun a138 => if (hK h a138 = 101 ∨ hK h a138 = 201) ∧ sk_in (x3 + (2 : Int32)) (hN h a138) then
      Option.bind x1 fun a144 => if hK h a144 = 12 then
      Option.bind (c_SR_law d x1 (hI h a137 (x3 + (1 : Int32)).toNatClampNeg) (hI h a138 (x3 + (2 : Int32)).toNatClampNeg) h) fun q139 =>
      Option.bind x0 fun a140 => if (hK q139.1 a140 = 101 ∨ hK q139.1 a140 = 201) ∧ sk_in (x3 + (1 : Int32)) (hN q139.1 a140) then
      Option.bind x0 fun a141 => if (hK q139.1 a141 = 101 ∨ hK q139.1 a141 = 201) ∧ sk_in (x3 + (2 : Int32)) (hN q139.1 a141) then
      Option.bind x2 fun a143 => if hK q139.1 a143 = 13 then
      Option.bind (c_M_law d x2 (hI q139.1 a140 (x3 + (1 : Int32)).toNatClampNeg) (hI q139.1 a141 (x3 + (2 : Int32)).toNatClampNeg) q139.1) fun q142 =>
      if q139.2 = q142.2 then
        k_L_law_881 d x0 x1 x2 x3 q142.1
      else
        some (q142.1, (0 : Int32))
      else none
      else none
      else none
      else none
      else none
      else none
    else if ((hI h a2 x3.toNatClampNeg) &&& (31 : Int32)) = 23 then
      Option.bind x0 fun a145 => if (hK h a145 = 101 ∨ hK h a145 = 201) ∧ sk_in (x3 + (1 : Int32)) (hN h a145) then
      Option.bind x1 fun a150 => if hK h a150 = 12 then
      Option.bind (c_SR_seed d x1 (hI h a145 (x3 + (1 : Int32)).toNatClampNeg) h) fun q146 =>
      Option.bind x0 fun a147 => if (hK q146.1 a147 = 101 ∨ hK q146.1 a147 = 201) ∧ sk_in (x3 + (1 : Int32)) (hN q146.1 a147) then
      Option.bind x2 fun a149 => if hK q146.1 a149 = 13 then
      Option.bind (c_M_seed d x2 (hI q146.1 a147 (x3 + (1 : Int32)).toNatClampNeg) q146.1) fun q148 =>
      if q146.2 = q148.2 then
        k_L_law_881 d x0 x1 x2 x3 q148.1
      else
        some (q148.1, (0 : Int32))
      else none
      else none
      else none
      else none
    else if ((hI h a2 x3.toNatClampNeg) &&& (31 : Int32)) = 24 then
      Option.bind x0 fun a151 => if (hK h a151 = 101 ∨ hK h a151 = 201) ∧ sk_in (x3 + (1 : Int32)) (hN h a151) then
      Option.bind x0 fun a152 => if (hK h a152 = 101 ∨ hK h a152 = 201) ∧ sk_in (x3 + (2 : Int32)) (hN h a152) then
      Option.bind x1 fun a158 => if hK h a158 = 12 then
      Option.bind (c_SR_games d x1 (hI h a151 (x3 + (1 : Int32)).toNatClampNeg) (hI h a152 (x3 + (2 : Int32)).toNatClampNeg) h) fun q153 =>
      Option.bind x0 fun a154 => if (hK q153.1 a154 = 101 ∨ hK q153.1 a154 = 201) ∧ sk_in (x3 + (1 : Int32)) (hN q153.1 a154) then
      Option.bind x0 fun a155 => if (hK q153.1 a155 = 101 ∨ hK q153.1 a155 = 201) ∧ sk_in (x3 + (2 : Int32)) (hN q153.1 a155) then
      Option.bind x2 fun a157 => if hK q153.1 a157 = 13 then
      Option.bind (c_M_games d x2 (hI q153.1 a154 (x3 + (1 : Int32)).toNatClampNeg) (hI q153.1 a155 (x3 + (2 : Int32)).toNatClampNeg) q153.1) fun q156 =>
      if q153.2 = q156.2 then
        k_L_law_881 d x0 x1 x2 x3 q156.1
      else
        some (q156.1, (0 : Int32))
      else none
      else none
      else none
      else none
      else none
      else none
    else if ((hI h a2 x3.toNatClampNeg) &&& (31 : Int32)) = 25 then
      Option.bind x0 fun a159 => if (hK h a159 = 101 ∨ hK h a159 = 201) ∧ sk_in (x3 + (1 : Int32)) (hN h a159) then
      Option.bind x0 fun a160 => if (hK h a160 = 101 ∨ hK h a160 = 201) ∧ sk_in (x3 + (2 : Int32)) (hN h a160) then
      Option.bind x0 fun a161 => if (hK h a161 = 101 ∨ hK h a161 = 201) ∧ sk_in (x3 + (3 : Int32)) (hN h a161) then
      Option.bind x1 fun a168 => if hK h a168 = 12 then
      Option.bind (c_SR_against d x1 (hI h a159 (x3 + (1 : Int32)).toNatClampNeg) (hI h a160 (x3 + (2 : Int32)).toNatClampNeg) (hI h a161 (x3 + (3 : Int32)).toNatClampNeg) h) fun q162 =>
      Option.bind x0 fun a163 => if (hK q162.1 a163 = 101 ∨ hK q162.1 a163 = 201) ∧ sk_in (x3 + (1 : Int32)) (hN q162.1 a163) then
      Option.bind x0 fun a164 => if (hK q162.1 a164 = 101 ∨ hK q162.1 a164 = 201) ∧ sk_in (x3 + (2 : Int32)) (hN q162.1 a164) then
      Option.bind x0 fun a165 => if (hK q162.1 a165 = 101 ∨ hK q162.1 a165 = 201) ∧ sk_in (x3 + (3 : Int32)) (hN q162.1 a165) then
      Option.bind x2 fun a167 => if hK q162.1 a167 = 13 then
      Option.bind (c_M_against d x2 (hI q162.1 a163 (x3 + (1 : Int32)).toNatClampNeg) (hI q162.1 a164 (x3 + (2 : Int32)).toNatClampNeg) (hI q162.1 a165 (x3 + (3 : Int32)).toNatClampNeg) q162.1) fun q166 =>
      if q162.2 = q166.2 then
        k_L_law_881 d x0 x1 x2 x3 q166.1
      else
        some (q166.1, (0 : Int32))
      else none
      else none
      else none
      else none
      else none
      else none
      else none
      else none
    else if ((hI h a2 x3.toNatClampNeg) &&& (31 : Int32)) = 26 then
      Option.bind x0 fun a169 => if (hK h a169 = 101 ∨ hK h a169 = 201) ∧ sk_in (x3 + (1 : Int32)) (hN h a169) then
      Option.bind x1 fun a174 => if hK h a174 = 12 then
      Option.bind (c_SR_count d x1 (hI h a169 (x3 + (1 : Int32)).toNatClampNeg) h) fun q170 =>
      Option.bind x0 fun a171 => if (hK q170.1 a171 = 101 ∨ hK q170.1 a171 = 201) ∧ sk_in (x3 + (1 : Int32)) (hN q170.1 a171) then
      Option.bind x2 fun a173 => if hK q170.1 a173 = 13 then
      Option.bind (c_M_count d x2 (hI q170.1 a171 (x3 + (1 : Int32)).toNatClampNeg) q170.1) fun q172 =>
      if q170.2 = q172.2 then
        k_L_law_881 d x0 x1 x2 x3 q172.1
      else
        some (q172.1, (0 : Int32))
      else none
      else none
      else none
      else none
    else if ((hI h a2 x3.toNatClampNeg) &&& (31 : Int32)) = 27 then
      Option.bind x0 fun a175 => if (hK h a175 = 101 ∨ hK h a175 = 201) ∧ sk_in (x3 + (1 : Int32)) (hN h a175) then
      Option.bind x1 fun a180 => if hK h a180 = 12 then
      Option.bind (c_SR_image d x1 (hI h a175 (x3 + (1 : Int32)).toNatClampNeg) h) fun q176 =>
      Option.bind x0 fun a177 => if (hK q176.1 a177 = 101 ∨ hK q176.1 a177 = 201) ∧ sk_in (x3 + (1 : Int32)) (hN q176.1 a177) then
      Option.bind x2 fun a179 => if hK q176.1 a179 = 13 then
      Option.bind (c_M_image d x2 (hI q176.1 a177 (x3 + (1 : Int32)).toNatClampNeg) q176.1) fun q178 =>
      if q176.2 = q178.2 then
        k_L_law_881 d x0 x1 x2 x3 q178.1
      else
        some (q178.1, (0 : Int32))
      else none
      else none
      else none
      else none
    else if ((hI h a2 x3.toNatClampNeg) &&& (31 : Int32)) = 28 then
      Option.bind x0 fun a181 => if (hK h a181 = 101 ∨ hK h a181 = 201) ∧ sk_in (x3 + (1 : Int32)) (hN h a181) then
      Option.bind x1 fun a186 => if hK h a186 = 12 then
      Option.bind (c_SR_back d x1 (hI h a181 (x3 + (1 : Int32)).toNatClampNeg) h) fun q182 =>
      Option.bind x0 fun a183 => if (hK q182.1 a183 = 101 ∨ hK q182.1 a183 = 201) ∧ sk_in (x3 + (1 : Int32)) (hN q182.1 a183) then
      Option.bind x2 fun a185 => if hK q182.1 a185 = 13 then
      Option.bind (c_M_back d x2 (hI q182.1 a183 (x3 + (1 : Int32)).toNatClampNeg) q182.1) fun q184 =>
      if q182.2 = q184.2 then
        k_L_law_881 d x0 x1 x2 x3 q184.1
      else
        some (q184.1, (0 : Int32))
      else none
      else none
      else none
      else none
    else k_L_law_881 d x0 x1 x2 x3 h
    else none
  else none := (sk_XT_evL sk_rec t_I d 252 571 _ (fun _ => rfl)).trans rfl
set_option maxRecDepth 100000 in
theorem e_L_law_881 (d : Nat) (x0 : Option Nat) (x1 : Option Nat) (x2 : Option Nat) (x3 : Int32) (h : sk_H) : k_L_law_881 d x0 x1 x2 x3 h =
  k_L_law_18 d x0 x1 x2 (x3 + 6) h := (sk_XT_evL sk_rec t_I d 252 571 _ (fun _ => rfl)).trans rfl
