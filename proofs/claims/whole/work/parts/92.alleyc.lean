/-! ===== the class reads an alley ===== -/
def wd0 : List Nat := [97, 108, 108, 101, 121]
def wd1 : List Nat := [114, 111, 119]
def wd2 : List Nat := [114, 105, 110, 103]
def wd3 : List Nat := [104, 105, 116]
def wd4 : List Nat := [101, 110, 100, 115]
def wd5 : List Nat := [108, 97, 115, 116]
def wd6 : List Nat := [115, 116, 114, 97, 121]
def aWs : List (List Nat) := [wd0, wd1, wd2, wd3, wd4, wd5, wd6]
def wxN (l : List Nat) : List (List Nat) → Nat → Option Nat
  | [], _ => none
  | w :: r, n => if l = w then some n else wxN l r (n + 1)
def nmB (r : Nat ⊕ (Nat × Nat)) (f : Nat → Nat → Nat ⊕ (Nat × PS)) : Nat ⊕ (Nat × PS) := match r with
  | .inl g => .inl g
  | .inr (e, v) => f e v
/-- a clause that may not stand there -/
def tmA (k num : Nat) (S : PS) : Bool := if k = 0 then decide (0 < num) else if k = 1 then decide (num = 0 ∨ 4 ≤ yK S) else if k = 4 then decide (num = 0 ∨ yE S = true) else if k = 5 then decide (num = 0 ∨ yL S = true) else decide (num = 0)
/-- what stands behind the word -/
def claB (t : Nat → Nat) (T e k : Nat) (S : PS) : Nat ⊕ (Nat × PS) :=
  if k = 0 then nmB (nmR t T e 0 2) fun e v => .inr (e, yFst S v)
  else if k = 1 then (if plc t T (nxt t T e) = true then yRL t T (T - nxt t T e) (nxt t T e) (yRow S) else .inl (1 + 8 * nxt t T e + 0))
  else if k = 2 then nmB (nmR t T e 0 (yK S)) fun e' v => if yZ S v < 3 then .inl (1 + 8 * nxt t T e + 1) else .inr (e', yRing S v)
  else if k = 3 then nmB (nmR t T e 1 5) fun e v => .inr (e, yHit S v)
  else if k = 4 then .inr (e, yEnds S)
  else if k = 5 then .inr (e, yLast S)
  else nmB (nmR t T e 0 101) fun e v => .inr (e, yStr S v)
/-- a clause -/
def claA (t : Nat → Nat) (T num p : Nat) (S : PS) : Nat ⊕ (Nat × PS) := match wxN (wdl t T (nxt t T p)) aWs 0 with
  | none => .inl (1 + 8 * nxt t T p + 0)
  | some k => if 40 ≤ num ∨ tmA k num S = true then .inl (1 + 8 * nxt t T p + 4) else claB t T (wE t T (nxt t T p)) k S
/-- all clauses from p on -/
def alP (t : Nat → Nat) (T : Nat) : Nat → Nat → Nat → PS → Nat ⊕ PS
  | 0, _, _, _ => .inl 0
  | n + 1, num, p, S => match claA t T num p S with
    | .inl g => .inl g
    | .inr (q, S') => match gO t T q with
      | .inl g => .inl g
      | .inr none => .inr S'
      | .inr (some q') => alP t T n (num + 1) q' S'
def wxI (o : Option Nat) : Int32 := match o with
  | none => nM
  | some k => nI k
theorem wix_N (l : List Nat) : ∀ (ws : List (List Nat)) (n : Nat), wix l ws n = wxI (wxN l ws n)
  | [], n => rfl
  | w :: r, n => by
    unfold wix wxN
    by_cases q : l = w
    · rw [if_pos q, if_pos q]; rfl
    · rw [if_neg q, if_neg q]
      exact wix_N l r (n + 1)
theorem wxN_lt (l : List Nat) : ∀ (ws : List (List Nat)) (n k : Nat), wxN l ws n = some k → k < n + ws.length
  | [], n, k, e => by cases e
  | w :: r, n, k, e => by
    unfold wxN at e
    rw [List.length_cons]
    by_cases q : l = w
    · rw [if_pos q] at e
      have := Option.some.inj e
      omega
    · rw [if_neg q] at e
      have := wxN_lt l r (n + 1) k e
      omega
/-- what the class does behind the word -/
noncomputable def bdA (d n : Nat) (x : Int32) (q6 : sk_H) : Option sk_H :=
        if x = 0 then
          if hK q6 (n + 1) = 3 then
          if hK q6 (n + 1) = 3 then
          Option.bind (hR q6 (n + 1) 0) fun a10 => if hK q6 a10 = 6 then
          Option.bind (c_Re_number d (hR q6 (n + 1) 0) (0 : Int32) (1 : Int32) q6) fun q7 =>
          Option.bind (hR q6 (n + 1) 1) fun a8 => if hK q7.1 a8 = 2 then
          let h9 := wI q7.1 a8 0 q7.2
          some h9
          else none
          else none
          else none
          else none
        else if x = 1 then
          if hK q6 (n + 1) = 3 then
          Option.bind (c_AR_readRow d (some (n + 1)) q6) fun q11 =>
          some q11
          else none
        else if x = 2 then
          if hK q6 (n + 1) = 3 then
          Option.bind (c_AR_readRing d (some (n + 1)) q6) fun q12 =>
          some q12
          else none
        else if x = 3 then
          if hK q6 (n + 1) = 3 then
          Option.bind (c_AR_readHit d (some (n + 1)) q6) fun q13 =>
          some q13
          else none
        else if x = 4 then
          if hK q6 (n + 1) = 3 then
          Option.bind (hR q6 (n + 1) 1) fun a14 => if hK q6 a14 = 2 ∧ ((1 : Int32) = 0 ∨ (1 : Int32) = 1) then
          let h15 := wI q6 a14 5 (1 : Int32)
          some h15
          else none
          else none
        else if x = 5 then
          if hK q6 (n + 1) = 3 then
          Option.bind (hR q6 (n + 1) 1) fun a16 => if hK q6 a16 = 2 ∧ ((1 : Int32) = 0 ∨ (1 : Int32) = 1) then
          let h17 := wI q6 a16 6 (1 : Int32)
          some h17
          else none
          else none
        else if hK q6 (n + 1) = 3 then
        if hK q6 (n + 1) = 3 then
        Option.bind (hR q6 (n + 1) 0) fun a21 => if hK q6 a21 = 6 then
        Option.bind (c_Re_number d (hR q6 (n + 1) 0) (0 : Int32) (100 : Int32) q6) fun q18 =>
        Option.bind (hR q6 (n + 1) 1) fun a19 => if hK q18.1 a19 = 2 then
        let h20 := wI q18.1 a19 7 q18.2
        some h20
        else none
        else none
        else none
        else none
section SkAlleyc
variable {h h' h1 h2 : sk_H} {t : Nat → Nat} {T p n d : Nat} {S : PS} {f : Int32}
theorem ARI.f0 (D : ARI h n S) (v : Nat) : ARI (wI h (n + 2) 0 (nI v)) n (yFst S v) := by
  obtain ⟨⟨d0, d1, d2, d3, d4, d5, d6, d7⟩, d8, d9⟩ := D
  exact ⟨⟨by rw [hI_se]; rfl, by rw [hI_ni (by omega)]; exact d1, by rw [hI_ni (by omega)]; exact d2, by rw [hI_ni (by omega)]; exact d3, by rw [hI_ni (by omega)]; exact d4, by rw [hI_ni (by omega)]; exact d5, by rw [hI_ni (by omega)]; exact d6, by rw [hI_ni (by omega)]; exact d7⟩, fun p hp => by rw [hI_na (by omega)]; exact d8 p hp, fun r hr => ⟨by rw [hI_na (by omega)]; exact (d9 r hr).1, by rw [hI_na (by omega)]; exact (d9 r hr).2.1, by rw [hI_na (by omega)]; exact (d9 r hr).2.2⟩⟩
theorem ARI.f4 (D : ARI h n S) (v : Nat) : ARI (wI h (n + 2) 4 (nI (yH S ||| 1 <<< (v - 1)))) n (yHit S v) := by
  obtain ⟨⟨d0, d1, d2, d3, d4, d5, d6, d7⟩, d8, d9⟩ := D
  exact ⟨⟨by rw [hI_ni (by omega)]; exact d0, by rw [hI_ni (by omega)]; exact d1, by rw [hI_ni (by omega)]; exact d2, by rw [hI_ni (by omega)]; exact d3, by rw [hI_se]; rfl, by rw [hI_ni (by omega)]; exact d5, by rw [hI_ni (by omega)]; exact d6, by rw [hI_ni (by omega)]; exact d7⟩, fun p hp => by rw [hI_na (by omega)]; exact d8 p hp, fun r hr => ⟨by rw [hI_na (by omega)]; exact (d9 r hr).1, by rw [hI_na (by omega)]; exact (d9 r hr).2.1, by rw [hI_na (by omega)]; exact (d9 r hr).2.2⟩⟩
theorem ARI.f5 (D : ARI h n S) : ARI (wI h (n + 2) 5 (1 : Int32)) n (yEnds S) := by
  obtain ⟨⟨d0, d1, d2, d3, d4, d5, d6, d7⟩, d8, d9⟩ := D
  exact ⟨⟨by rw [hI_ni (by omega)]; exact d0, by rw [hI_ni (by omega)]; exact d1, by rw [hI_ni (by omega)]; exact d2, by rw [hI_ni (by omega)]; exact d3, by rw [hI_ni (by omega)]; exact d4, by rw [hI_se]; rfl, by rw [hI_ni (by omega)]; exact d6, by rw [hI_ni (by omega)]; exact d7⟩, fun p hp => by rw [hI_na (by omega)]; exact d8 p hp, fun r hr => ⟨by rw [hI_na (by omega)]; exact (d9 r hr).1, by rw [hI_na (by omega)]; exact (d9 r hr).2.1, by rw [hI_na (by omega)]; exact (d9 r hr).2.2⟩⟩
theorem ARI.f6 (D : ARI h n S) : ARI (wI h (n + 2) 6 (1 : Int32)) n (yLast S) := by
  obtain ⟨⟨d0, d1, d2, d3, d4, d5, d6, d7⟩, d8, d9⟩ := D
  exact ⟨⟨by rw [hI_ni (by omega)]; exact d0, by rw [hI_ni (by omega)]; exact d1, by rw [hI_ni (by omega)]; exact d2, by rw [hI_ni (by omega)]; exact d3, by rw [hI_ni (by omega)]; exact d4, by rw [hI_ni (by omega)]; exact d5, by rw [hI_se]; rfl, by rw [hI_ni (by omega)]; exact d7⟩, fun p hp => by rw [hI_na (by omega)]; exact d8 p hp, fun r hr => ⟨by rw [hI_na (by omega)]; exact (d9 r hr).1, by rw [hI_na (by omega)]; exact (d9 r hr).2.1, by rw [hI_na (by omega)]; exact (d9 r hr).2.2⟩⟩
theorem ARI.f7 (D : ARI h n S) (v : Nat) : ARI (wI h (n + 2) 7 (nI v)) n (yStr S v) := by
  obtain ⟨⟨d0, d1, d2, d3, d4, d5, d6, d7⟩, d8, d9⟩ := D
  exact ⟨⟨by rw [hI_ni (by omega)]; exact d0, by rw [hI_ni (by omega)]; exact d1, by rw [hI_ni (by omega)]; exact d2, by rw [hI_ni (by omega)]; exact d3, by rw [hI_ni (by omega)]; exact d4, by rw [hI_ni (by omega)]; exact d5, by rw [hI_ni (by omega)]; exact d6, by rw [hI_se]; rfl⟩, fun p hp => by rw [hI_na (by omega)]; exact d8 p hp, fun r hr => ⟨by rw [hI_na (by omega)]; exact (d9 r hr).1, by rw [hI_na (by omega)]; exact (d9 r hr).2.1, by rw [hI_na (by omega)]; exact (d9 r hr).2.2⟩⟩
theorem PN_w {a i : Nat} {v : Int32} (ha : n ≤ a) : Iq (PN n) h (wI h a i v) := Iq.w h v (by unfold PN; exact decide_eq_true ha)
theorem Rd.wa (R : Rd h n T p f) {a i : Nat} {v : Int32} (ha : n < a) : Rd (wI h a i v) n T p f := by
  obtain ⟨k, r, i1, i2, i3, hb⟩ := R
  exact ⟨k, r, by rw [hI_na (by omega)]; exact i1, by rw [hI_na (by omega)]; exact i2, by rw [hI_na (by omega)]; exact i3, hb⟩
theorem nmR_nxt {l u : Nat} (hp : p ≤ T) : nmR t T (nxt t T p) l u = nmR t T p l u := by
  unfold nmR
  rw [nxt_nxt hp]
theorem Bds.sub {k : Nat} (hk : k ≤ 4) : Bds (nI 0) (nI k - 1) 0 k := fun v hv => by
  refine ⟨nI_ltI (by omega) (by omega), ?_⟩
  by_cases q : k = 0
  · subst q
    rw [show nI 0 - 1 = nM from rfl, q_lem (by omega)]
    exact ⟨False.elim, fun z => absurd z (by omega)⟩
  · rw [l1, q_sub (by omega), nI_leI (by omega) (by omega)]
    omega
/-- a number read into the alley -/
theorem AR_num {lo hi : Int32} {l u j : Nat} (hj : j ≤ 7) (B : Bds lo hi l u) (A : AIr h n t T p S) {new : Nat → PS} (hD : ∀ h1 v, ARI h1 n S → ARI (wI h1 (n + 2) j (nI v)) n (new v)) : ∃ h1 v, c_Re_number d (some n) lo hi h = some (h1, nI v) ∧ h1.1 = h.1 ∧ CRs h (wI h1 (n + 2) j (nI v)) n t T (nmB (nmR t T p l u) fun e v => .inr (e, new v)) := by
  obtain ⟨X, C, R, D, hp⟩ := id A
  have x3 := X.2.2.1
  rcases Re_number_ok (d := d) B X R hp with ⟨e, v, h1, g0, g1, g2, g3, g4, g5⟩ | ⟨g, v, q, h1, g0, g1, g2, g3, g4, g5⟩
  · refine ⟨h1, v, g1, g3.1, (PN_of g3).trans (PN_w (by omega)), Or.inl ⟨e, new v, by rw [g0]; rfl, ?_⟩⟩
    exact (A.rd g3 g2 g4).al (PN_w (Nat.le_refl _)) (hD h1 v (D.rd g3))
  · exact ⟨h1, v, g1, g3.1, (PN_of g3).trans (PN_w (by omega)), Or.inr ⟨g, q, by rw [g0]; rfl, g2.wa (by omega), nmR_lt hp x3 g0⟩⟩
theorem PWr.row (w : PWr S) (hk : yK S < 4) : PWr (yRow S) := by
  obtain ⟨w1, w2, w3, w4, w5, w6, w7, w8, w9⟩ := w
  refine ⟨w1, show yK S + 1 ≤ 4 by omega, fun r hr => ?_, fun r hr => ?_, w5, w6, w7, w8, fun q => absurd (show yK S + 1 = 0 from q) (by omega)⟩
  · have hr : r < yK S + 1 := hr
    show va_up (yT S) (yK S) (yN S) r + yZ S r ≤ yN S
    by_cases q : r = yK S
    · rw [q, va_up_self, (w4 _ (Nat.le_refl _)).1]
      omega
    · rw [va_up_ne _ _ q]
      exact w3 r (by omega)
  · have hr : yK S + 1 ≤ r := hr
    exact w4 r (by omega)
theorem AR_readRow_ok (w : PWr S) (hk : yK S < 4) (A : AIr h n t T p S) : ∃ h', c_AR_readRow d (some (n + 1)) h = some h' ∧ CRs h h' n t T (claB t T p 1 S) := by
  obtain ⟨X, B, R, D, hp⟩ := id A
  obtain ⟨⟨a1, a2, a3, a4⟩, ⟨r8, r9, r10, r11, r12, r13, r16⟩, ⟨k3, k4, k5, k6, k7, k8, k11⟩, ⟨n3, n4, n5, n6, n7, n8, n11⟩⟩ := id B
  have x3 := X.2.2.1
  have hq := nxt_le (t := t) hp
  obtain ⟨h1, e1, e2, e3⟩ := Re_next_ok (d := d) X R hp
  have A1 := A.rd e3 e2 hq.2
  have D1 := A1.2.2.2.1
  have X1 := A1.1
  have ip := AR_isPlace_ok (d := d) (h := h1) (p := nxt t T p) X1
  have c1 := R.1
  have pre : ∀ o, (Option.bind (some (h1, bi (plc t T (nxt t T p)))) fun (q2 : sk_H × Int32) => if ¬ q2.2 = 0 then
    if hK q2.1 (n + 1) = 3 then
    Option.bind (hR q2.1 (n + 1) 1) fun a3 => if hK q2.1 a3 = 2 then
    if (4 : Int32) ≤ (hI q2.1 a3 3) then
      k_AR_readRow_77 d (some (n + 1)) (0 : Int32) q2.1
    else
      if hK q2.1 (n + 1) = 3 then
      Option.bind (hR q2.1 (n + 1) 1) fun a4 => if hK q2.1 a4 = 2 then
      if hK q2.1 (n + 1) = 3 then
      Option.bind (hR q2.1 (n + 1) 1) fun a5 => if hK q2.1 a5 = 2 then
      if hK q2.1 (n + 1) = 3 then
      Option.bind (hR q2.1 (n + 1) 1) fun a6 => if hK q2.1 a6 = 2 then
      Option.bind (hR q2.1 a4 9) fun a7 => if hK q2.1 a7 = 101 ∧ sk_in (hI q2.1 a5 3) (hN q2.1 a7) then
      let h8 := wI q2.1 a7 (hI q2.1 a5 3).toNatClampNeg (hI q2.1 a6 2)
      if hK h8 (n + 1) = 3 then
      Option.bind (hR h8 (n + 1) 1) fun a9 => if hK h8 a9 = 2 then
      Option.bind (hR h8 (n + 1) 1) fun a10 => if hK h8 a10 = 2 then
      let h11 := wI h8 a10 3 ((hI h8 a9 3) + (1 : Int32))
      k_AR_readRow_77 d (some (n + 1)) (0 : Int32) h11
      else none
      else none
      else none
      else none
      else none
      else none
      else none
      else none
      else none
      else none
    else none
    else none
  else
    if hK q2.1 (n + 1) = 3 then
    if hK q2.1 (n + 1) = 3 then
    Option.bind (hR q2.1 (n + 1) 0) fun a12 => if hK q2.1 a12 = 6 then
    Option.bind (hR q2.1 (n + 1) 0) fun a14 => if hK q2.1 a14 = 6 then
    Option.bind (c_Re_refuse d (hR q2.1 (n + 1) 0) (hI q2.1 a12 2) (0 : Int32) q2.1) fun q13 =>
    some q13
    else none
    else none
    else none
    else none) = o → c_AR_readRow d (some (n + 1)) h = o := by
    intro o ho
    rw [← ho]
    refine (e_AR_readRow _ _ _).trans ?_
    refine (if_pos a1).trans ?_
    refine (bnd a2 _).trans ?_
    refine (if_pos c1).trans ?_
    refine (bnd (show c_Re_next d (hR h (n + 1) 0) h = _ by rw [a2]; exact e1) _).trans ?_
    exact (bnd ip _).trans rfl
  unfold claB
  rw [if_neg (by decide), if_pos rfl]
  have i3 := D1.1.2.2.2.1
  have i2 := D1.1.2.2.1
  have j2 := e2.2.2.2.1
  by_cases q : plc t T (nxt t T p) = true
  · rw [if_pos q]
    rw [q] at pre
    have ew : AIr (wI (wI h1 (n + 4) (yK S) (nI (yN S))) (n + 2) 3 (nI (yK S + 1))) n t T (nxt t T p) (yRow S) := by
      refine A1.al ((PN_w (by omega)).trans (PN_w (by omega))) ?_
      obtain ⟨⟨d0, d1, d2, d3, d4, d5, d6, d7⟩, d8, d9⟩ := D1
      refine ⟨⟨by rw [hI_ni (by omega), hI_na (by omega)]; exact d0, by rw [hI_ni (by omega), hI_na (by omega)]; exact d1, by rw [hI_ni (by omega), hI_na (by omega)]; exact d2, by rw [hI_se]; rfl, by rw [hI_ni (by omega), hI_na (by omega)]; exact d4, by rw [hI_ni (by omega), hI_na (by omega)]; exact d5, by rw [hI_ni (by omega), hI_na (by omega)]; exact d6, by rw [hI_ni (by omega), hI_na (by omega)]; exact d7⟩, fun p hp => ?_, fun r hr => ⟨?_, by rw [hI_na (by omega), hI_na (by omega)]; exact (d9 r hr).2.1, by rw [hI_na (by omega), hI_na (by omega)]; exact (d9 r hr).2.2⟩⟩
      · have hp : p < yN S := hp
        rw [hI_na (by omega), hI_na (by omega), aRow_row w hp (by
          rcases Nat.eq_zero_or_pos (yK S) with z | z
          · have := w.2.2.2.2.2.2.2.2 z; omega
          · exact z)]
        exact d8 p hp
      · rw [hI_na (by omega)]
        show _ = nI (va_up (yT S) (yK S) (yN S) r)
        by_cases z : r = yK S
        · rw [z, hI_se, va_up_self]
        · rw [hI_ni z, va_up_ne _ _ z]
          exact (d9 r hr).1
    obtain ⟨h', g1, g2, g3⟩ := AR_row_77_ok (d := d) (T - nxt t T p) (nxt t T p) 0 (yRow S) _ (by omega) (Nat.zero_le _) (w.row hk) (Nat.succ_pos _) ew
    refine ⟨h', pre _ ?_, ((PN_of e3).trans ((PN_w (by omega)).trans (PN_w (by omega)))).trans g2, g3⟩
    rw [← g1]
    obtain ⟨I, rfl⟩ := e3.hw
    refine (bnd rfl _).trans ?_
    refine (if_pos nb1).trans ?_
    refine (if_pos a1).trans ?_
    refine (bnd a3 _).trans ?_
    refine (if_pos a4).trans ?_
    refine (if_neg (show ¬ nI 4 ≤ hI (hw h I) (n + 2) 3 by rw [i3]; exact nI_ge hk (by omega))).trans ?_
    refine (if_pos a1).trans ?_
    refine (bnd a3 _).trans ?_
    refine (if_pos a4).trans ?_
    refine (if_pos a1).trans ?_
    refine (bnd a3 _).trans ?_
    refine (if_pos a4).trans ?_
    refine (if_pos a1).trans ?_
    refine (bnd a3 _).trans ?_
    refine (if_pos a4).trans ?_
    refine (bnd r9 _).trans ?_
    refine (if_pos ⟨k4, show sk_in (hI (hw h I) (n + 2) 3) (hN h (n + 4)) by rw [i3, n4]; exact vp_in_nI (by omega) (by omega)⟩).trans ?_
    refine (if_pos a1).trans ?_
    refine (bnd a3 _).trans ?_
    refine (if_pos a4).trans ?_
    refine (bnd a3 _).trans ?_
    refine (if_pos a4).trans ?_
    show k_AR_readRow_77 d (some (n + 1)) (nI 0) (wI (wI (hw h I) (n + 4) (hI (hw h I) (n + 2) 3).toNatClampNeg (hI (hw h I) (n + 2) 2)) (n + 2) 3 (hI (wI (hw h I) (n + 4) (hI (hw h I) (n + 2) 3).toNatClampNeg (hI (hw h I) (n + 2) 2)) (n + 2) 3 + 1)) = _
    rw [hI_na (by omega), i3, i2, q_cl (by omega), nI_1]
  · have q : plc t T (nxt t T p) = false := by simpa using q
    rw [if_neg (by rw [q]; decide)]
    rw [q] at pre
    obtain ⟨h2, g1, g2, g3⟩ := Re_refuse_ok (d := d) e2 (q := nxt t T p) (k := 0)
    rw [if_pos rfl] at g2
    refine ⟨h2, pre _ ?_, PN_of (e3.trans g3), Or.inr ⟨_, _, rfl, g2, by omega⟩⟩
    obtain ⟨I, rfl⟩ := e3.hw
    refine (bnd rfl _).trans ?_
    refine (if_neg (fun z => z rfl)).trans ?_
    refine (if_pos a1).trans ?_
    refine (if_pos a1).trans ?_
    refine (bnd a2 _).trans ?_
    refine (if_pos c1).trans ?_
    refine (bnd a2 _).trans ?_
    refine (if_pos c1).trans ?_
    exact (bnd (show c_Re_refuse d (hR h (n + 1) 0) (hI (hw h I) n 2) (0 : Int32) (hw h I) = some h2 by rw [a2, j2]; exact g1) _).trans rfl
theorem AR_readRing_ok (w : PWr S) (A : AIr h n t T p S) : ∃ h', c_AR_readRing d (some (n + 1)) h = some h' ∧ CRs h h' n t T (claB t T p 2 S) := by
  obtain ⟨X, B, R, D, hp⟩ := id A
  obtain ⟨⟨a1, a2, a3, a4⟩, ⟨r8, r9, r10, r11, r12, r13, r16⟩, ⟨k3, k4, k5, k6, k7, k8, k11⟩, ⟨n3, n4, n5, n6, n7, n8, n11⟩⟩ := id B
  have x3 := X.2.2.1
  have w2 := w.2.1
  have hq := nxt_le (t := t) hp
  obtain ⟨h1, e1, e2, e3⟩ := Re_next_ok (d := d) X R hp
  have A1 := A.rd e3 e2 hq.2
  have c1 := R.1
  have i3 : hI h1 (n + 2) 3 = nI (yK S) := A1.2.2.2.1.1.2.2.2.1
  have j2 := e2.2.2.2.1
  unfold claB
  rw [if_neg (by decide), if_neg (by decide), if_pos rfl, ← nmR_nxt hp]
  have pre : ∀ (h2 h3 : sk_H) (v : Nat) (b : Bool) (o : Option sk_H), h2.1 = h.1 → h2.2.2 = h.2.2 → c_Re_number d (some n) (nI 0) (nI (yK S) - 1) h1 = some (h2, nI v) → c_Re_sound d (some n) h2 = some (h2, bi b) → (if ¬ bi b = 0 then
    if (4 : Int32) ≤ nI v then
      if hK h2 (n + 1) = 3 then
      Option.bind (hR h2 (n + 1) 0) fun a7 => if hK h2 a7 = 6 then
      Option.bind (c_Re_refuse d (hR h2 (n + 1) 0) (nI (nxt t T p)) (1 : Int32) h2) fun q6 =>
      some q6
      else none
      else none
    else
      if hK h2 (n + 1) = 3 then
      Option.bind (hR h2 (n + 1) 1) fun a8 => if hK h2 a8 = 2 then
      Option.bind (hR h2 a8 10) fun a9 => if (hK h2 a9 = 101 ∨ hK h2 a9 = 201) ∧ sk_in (nI v) (hN h2 a9) then
      if (hI h2 a9 (nI v).toNatClampNeg) < (3 : Int32) then
        if hK h2 (n + 1) = 3 then
        Option.bind (hR h2 (n + 1) 0) fun a11 => if hK h2 a11 = 6 then
        Option.bind (c_Re_refuse d (hR h2 (n + 1) 0) (nI (nxt t T p)) (1 : Int32) h2) fun q10 =>
        some q10
        else none
        else none
      else
        if hK h2 (n + 1) = 3 then
        Option.bind (hR h2 (n + 1) 1) fun a12 => if hK h2 a12 = 2 then
        Option.bind (hR h2 a12 11) fun a13 => if (hK h2 a13 = 104 ∨ (hK h2 a13 = 103 ∧ ((1 : Int32) = 0 ∨ (1 : Int32) = 1))) ∧ sk_in (nI v) (hN h2 a13) then
        let h14 := wI h2 a13 (nI v).toNatClampNeg ((1 : Int32).toInt8.toInt32)
        some h14
        else none
        else none
        else none
      else none
      else none
      else none
  else
    some h2) = o → c_AR_readRing d (some (n + 1)) h = o := by
    intro h2 h3 v b o hx hy hn hso ho
    rw [← ho]
    have a1' : hK h2 (n + 1) = 3 := by rw [show hK h2 = hK h from congrArg (fun x => x.1) hx]; exact a1
    have c1' : hK h2 n = 6 := by rw [show hK h2 = hK h from congrArg (fun x => x.1) hx]; exact c1
    have a2' : hR h2 (n + 1) 0 = some n := by rw [show hR h2 = hR h from congrArg (fun x => x.2) hy]; exact a2
    obtain ⟨I, rfl⟩ := e3.hw
    refine (e_AR_readRing _ _ _).trans ?_
    refine (if_pos a1).trans ?_
    refine (bnd a2 _).trans ?_
    refine (if_pos c1).trans ?_
    refine (bnd (show c_Re_next d (hR h (n + 1) 0) h = _ by rw [a2]; exact e1) _).trans ?_
    refine (if_pos a1).trans ?_
    refine (bnd a2 _).trans ?_
    refine (if_pos c1).trans ?_
    refine (if_pos a1).trans ?_
    refine (if_pos a1).trans ?_
    refine (bnd a3 _).trans ?_
    refine (if_pos a4).trans ?_
    refine (bnd a2 _).trans ?_
    refine (if_pos c1).trans ?_
    refine (bnd (show c_Re_number d (hR h (n + 1) 0) (0 : Int32) (hI (hw h I) (n + 2) 3 - 1) (hw h I) = some (h2, nI v) by rw [a2, i3]; exact hn) _).trans ?_
    refine (if_pos a1').trans ?_
    refine (bnd a2' _).trans ?_
    refine (if_pos c1').trans ?_
    refine (bnd (show c_Re_sound d (hR h2 (n + 1) 0) h2 = _ by rw [a2']; exact hso) _).trans ?_
    show (if ¬ bi b = 0 then if (4 : Int32) ≤ nI v then if hK h2 (n + 1) = 3 then Option.bind (hR h2 (n + 1) 0) fun a7 => if hK h2 a7 = 6 then Option.bind (c_Re_refuse d (hR h2 (n + 1) 0) (hI (hw h I) n 2) (1 : Int32) h2) fun q6 => some q6 else none else none else _ else _) = _
    rw [j2]
  rcases Re_number_ok (d := d) (Bds.sub w2) A1.1 e2 hq.2 with ⟨e, v, h2, g0, g1, g2, g3, g4, g5⟩ | ⟨g, v, q, h2, g0, g1, g2, g3, g4, g5⟩
  · rw [g0]
    show ∃ h', _ ∧ CRs h h' n t T (if yZ S v < 3 then .inl (1 + 8 * nxt t T p + 1) else .inr (e, yRing S v))
    have hv : v < yK S := by
      unfold nmR at g0
      by_cases z : dgt t T (nxt t T (nxt t T p)) = true
      · rw [if_pos z] at g0
        by_cases z2 : dgE t T (nxt t T (nxt t T p)) ≤ nxt t T (nxt t T p) + 5 ∧ 0 ≤ nv 0 0 (dl t T (nxt t T (nxt t T p))) ∧ nv 0 0 (dl t T (nxt t T (nxt t T p))) < yK S
        · rw [if_pos z2] at g0
          have := (Prod.mk.inj (Sum.inr.inj g0)).2
          omega
        · rw [if_neg z2] at g0; cases g0
      · rw [if_neg z] at g0; cases g0
    have so := Re_sound_ok (d := d) g2
    rw [decide_eq_true rfl] at so
    have A2 := A1.rd g3 g2 g4
    have zv := (A2.2.2.2.1.2.2 v (by omega)).2.1
    have hz := w.2.2.1 v hv
    have w1 := w.1
    have hx : h2.1 = h.1 := g3.1.trans e3.1
    have hy : h2.2.2 = h.2.2 := g3.2.1.trans e3.2.1
    obtain ⟨I, rfl⟩ : ∃ I, h2 = hw h I := (e3.trans g3).hw
    by_cases z : yZ S v < 3
    · rw [if_pos z]
      obtain ⟨h3, f1, f2, f3⟩ := Re_refuse_ok (d := d) g2 (q := nxt t T p) (k := 1)
      rw [if_pos rfl] at f2
      refine ⟨h3, pre _ h v true _ hx hy g1 so ?_, PN_of ((e3.trans g3).trans f3), Or.inr ⟨_, _, rfl, f2, by omega⟩⟩
      refine (if_pos (by decide)).trans ?_
      refine (if_neg (show ¬ nI 4 ≤ nI v from nI_ge (by omega) (by omega))).trans ?_
      refine (if_pos a1).trans ?_
      refine (bnd a3 _).trans ?_
      refine (if_pos a4).trans ?_
      refine (bnd r10 _).trans ?_
      refine (if_pos ⟨Or.inl k5, show sk_in (nI v) (hN h (n + 5)) by rw [n5]; exact vp_in_nI (by omega) (by omega)⟩).trans ?_
      refine (if_pos (show hI (hw h I) (n + 5) (nI v).toNatClampNeg < nI 3 by rw [q_cl (by omega), zv]; exact nI_lt z (by omega))).trans ?_
      refine (if_pos a1).trans ?_
      refine (bnd a2 _).trans ?_
      refine (if_pos c1).trans ?_
      exact (bnd (show c_Re_refuse d (hR h (n + 1) 0) (nI (nxt t T p)) (1 : Int32) (hw h I) = some h3 by rw [a2]; exact f1) _).trans rfl
    · rw [if_neg z]
      refine ⟨wI (hw h I) (n + 6) v 1, pre _ h v true _ hx hy g1 so ?_, (PN_of (e3.trans g3)).trans (PN_w (by omega)), Or.inl ⟨e, yRing S v, rfl, A2.al (PN_w (by omega)) ?_⟩⟩
      · refine (if_pos (by decide)).trans ?_
        refine (if_neg (show ¬ nI 4 ≤ nI v from nI_ge (by omega) (by omega))).trans ?_
        refine (if_pos a1).trans ?_
        refine (bnd a3 _).trans ?_
        refine (if_pos a4).trans ?_
        refine (bnd r10 _).trans ?_
        refine (if_pos ⟨Or.inl k5, show sk_in (nI v) (hN h (n + 5)) by rw [n5]; exact vp_in_nI (by omega) (by omega)⟩).trans ?_
        refine (if_neg (show ¬ hI (hw h I) (n + 5) (nI v).toNatClampNeg < nI 3 by rw [q_cl (by omega), zv]; exact nI_nlt (by omega) (by omega))).trans ?_
        refine (if_pos a1).trans ?_
        refine (bnd a3 _).trans ?_
        refine (if_pos a4).trans ?_
        refine (bnd r11 _).trans ?_
        refine (if_pos ⟨Or.inr ⟨k6, Or.inr rfl⟩, show sk_in (nI v) (hN h (n + 6)) by rw [n6]; exact vp_in_nI (by omega) (by omega)⟩).trans ?_
        show some (wI (hw h I) (n + 6) (nI v).toNatClampNeg ((1 : Int32).toInt8.toInt32)) = _
        rw [q_cl (by omega)]
        rfl
      · obtain ⟨⟨d0, d1, d2, d3, d4, d5, d6, d7⟩, d8, d9⟩ := A2.2.2.2.1
        refine ⟨⟨by rw [hI_na (by omega)]; exact d0, by rw [hI_na (by omega)]; exact d1, by rw [hI_na (by omega)]; exact d2, by rw [hI_na (by omega)]; exact d3, by rw [hI_na (by omega)]; exact d4, by rw [hI_na (by omega)]; exact d5, by rw [hI_na (by omega)]; exact d6, by rw [hI_na (by omega)]; exact d7⟩, fun p hp => by rw [hI_na (by omega)]; exact d8 p hp, fun r hr => ⟨by rw [hI_na (by omega)]; exact (d9 r hr).1, by rw [hI_na (by omega)]; exact (d9 r hr).2.1, ?_⟩⟩
        show _ = bi (va_up (yR S) v true r)
        by_cases y : r = v
        · rw [y, hI_se, va_up_self]; rfl
        · rw [hI_ni y, va_up_ne _ _ y]; exact (d9 r hr).2.2
  · rw [g0]
    have so := Re_sound_ok (d := d) g2
    have hg := nmR_lt hq.2 x3 g0
    rw [decide_eq_false (fne hg)] at so
    refine ⟨h2, pre _ h v false _ (g3.1.trans e3.1) (g3.2.1.trans e3.2.1) g1 so ?_, PN_of (e3.trans g3), Or.inr ⟨g, q, rfl, g2, hg⟩⟩
    exact if_neg (by decide)
theorem AR_readHit_ok (A : AIr h n t T p S) : ∃ h', c_AR_readHit d (some (n + 1)) h = some h' ∧ CRs h h' n t T (claB t T p 3 S) := by
  obtain ⟨X, B, R, D, hp⟩ := id A
  obtain ⟨⟨a1, a2, a3, a4⟩, -⟩ := id B
  have x3 := X.2.2.1
  have c1 := R.1
  unfold claB
  rw [if_neg (by decide), if_neg (by decide), if_neg (by decide), if_pos rfl]
  rcases Re_number_ok (d := d) (Bds.of (l := 1) (u := 4) (by omega) (by omega)) X R hp with ⟨e, v, h2, g0, g1, g2, g3, g4, g5⟩ | ⟨g, v, q, h2, g0, g1, g2, g3, g4, g5⟩
  · rw [g0]
    have hv : 1 ≤ v ∧ v < 5 := by
      unfold nmR at g0
      by_cases z : dgt t T (nxt t T p) = true
      · rw [if_pos z] at g0
        by_cases z2 : dgE t T (nxt t T p) ≤ nxt t T p + 5 ∧ 1 ≤ nv 0 0 (dl t T (nxt t T p)) ∧ nv 0 0 (dl t T (nxt t T p)) < 4 + 1
        · rw [if_pos z2] at g0
          have := (Prod.mk.inj (Sum.inr.inj g0)).2
          omega
        · rw [if_neg z2] at g0; cases g0
      · rw [if_neg z] at g0; cases g0
    have so := Re_sound_ok (d := d) g2
    rw [decide_eq_true rfl] at so
    have A2 := A.rd g3 g2 g4
    have D2 := A2.2.2.2.1
    have i4 := D2.1.2.2.2.2.1
    refine ⟨wI h2 (n + 2) 4 (nI (yH S ||| 1 <<< (v - 1))), ?_, (PN_of g3).trans (PN_w (by omega)), Or.inl ⟨e, yHit S v, rfl, A2.al (PN_w (by omega)) (D2.f4 v)⟩⟩
    obtain ⟨I, rfl⟩ := g3.hw
    refine (e_AR_readHit _ _ _).trans ?_
    refine (if_pos a1).trans ?_
    refine (bnd a2 _).trans ?_
    refine (if_pos c1).trans ?_
    refine (bnd (show c_Re_number d (hR h (n + 1) 0) (1 : Int32) (4 : Int32) h = _ by rw [a2]; exact g1) _).trans ?_
    refine (if_pos a1).trans ?_
    refine (bnd a2 _).trans ?_
    refine (if_pos c1).trans ?_
    refine (bnd (show c_Re_sound d (hR h (n + 1) 0) (hw h I) = _ by rw [a2]; exact so) _).trans ?_
    refine (if_neg nb1).trans ?_
    refine (if_pos a1).trans ?_
    refine (bnd a3 _).trans ?_
    refine (if_pos a4).trans ?_
    refine (bnd a3 _).trans ?_
    refine (if_pos a4).trans ?_
    show some (wI (hw h I) (n + 2) 4 (hI (hw h I) (n + 2) 4 ||| ((1 : Int32) <<< ((nI v - 1) &&& 31)))) = _
    rw [i4, l1, q_sub (by omega), ← l1, nI_shl (by omega), nI_or]
  · rw [g0]
    have so := Re_sound_ok (d := d) g2
    have hg := nmR_lt hp x3 g0
    rw [decide_eq_false (fne hg)] at so
    refine ⟨h2, ?_, PN_of g3, Or.inr ⟨g, q, rfl, g2, hg⟩⟩
    obtain ⟨I, rfl⟩ := g3.hw
    refine (e_AR_readHit _ _ _).trans ?_
    refine (if_pos a1).trans ?_
    refine (bnd a2 _).trans ?_
    refine (if_pos c1).trans ?_
    refine (bnd (show c_Re_number d (hR h (n + 1) 0) (1 : Int32) (4 : Int32) h = _ by rw [a2]; exact g1) _).trans ?_
    refine (if_pos a1).trans ?_
    refine (bnd a2 _).trans ?_
    refine (if_pos c1).trans ?_
    refine (bnd (show c_Re_sound d (hR h (n + 1) 0) (hw h I) = _ by rw [a2]; exact so) _).trans ?_
    exact if_pos rfl
theorem AR_body_ok (w : PWr S) {k : Nat} (hk : k < 7) (h4 : k = 1 → yK S < 4) (A : AIr h n t T p S) : ∃ h', bdA d n (nI k) h = some h' ∧ CRs h h' n t T (claB t T p k S) := by
  obtain ⟨X, B, R, D, hp⟩ := id A
  obtain ⟨⟨a1, a2, a3, a4⟩, -⟩ := id B
  have c1 := R.1
  unfold bdA
  rcases (show k = 0 ∨ k = 1 ∨ k = 2 ∨ k = 3 ∨ k = 4 ∨ k = 5 ∨ k = 6 by omega) with rfl | rfl | rfl | rfl | rfl | rfl | rfl
  · obtain ⟨h1, v, e1, e2, e3⟩ := AR_num (d := d) (j := 0) (by omega) (Bds.of (l := 0) (u := 1) (by omega) (by omega)) A (new := yFst S) (fun h1 v D => D.f0 v)
    refine ⟨_, ?_, e3⟩
    refine (if_pos (by decide)).trans ?_
    refine (if_pos a1).trans ?_
    refine (if_pos a1).trans ?_
    refine (bnd a2 _).trans ?_
    refine (if_pos c1).trans ?_
    refine (bnd (show c_Re_number d (hR h (n + 1) 0) (0 : Int32) (1 : Int32) h = _ by rw [a2]; exact e1) _).trans ?_
    refine (bnd a3 _).trans ?_
    exact (if_pos (show hK h1 (n + 2) = 2 by rw [show hK h1 = hK h from congrArg (fun x => x.1) e2]; exact a4)).trans rfl
  · obtain ⟨h', e1, e2⟩ := AR_readRow_ok (d := d) w (h4 rfl) A
    refine ⟨h', ?_, e2⟩
    refine (if_neg (by decide)).trans ?_
    refine (if_pos (by decide)).trans ?_
    refine (if_pos a1).trans ?_
    exact (bnd e1 _).trans rfl
  · obtain ⟨h', e1, e2⟩ := AR_readRing_ok (d := d) w A
    refine ⟨h', ?_, e2⟩
    refine (if_neg (by decide)).trans ?_
    refine (if_neg (by decide)).trans ?_
    refine (if_pos (by decide)).trans ?_
    refine (if_pos a1).trans ?_
    exact (bnd e1 _).trans rfl
  · obtain ⟨h', e1, e2⟩ := AR_readHit_ok (d := d) A
    refine ⟨h', ?_, e2⟩
    refine (if_neg (by decide)).trans ?_
    refine (if_neg (by decide)).trans ?_
    refine (if_neg (by decide)).trans ?_
    refine (if_pos (by decide)).trans ?_
    refine (if_pos a1).trans ?_
    exact (bnd e1 _).trans rfl
  · refine ⟨wI h (n + 2) 5 1, ?_, PN_w (by omega), Or.inl ⟨p, yEnds S, rfl, A.al (PN_w (by omega)) D.f5⟩⟩
    refine (if_neg (by decide)).trans ?_
    refine (if_neg (by decide)).trans ?_
    refine (if_neg (by decide)).trans ?_
    refine (if_neg (by decide)).trans ?_
    refine (if_pos (by decide)).trans ?_
    refine (if_pos a1).trans ?_
    refine (bnd a3 _).trans ?_
    exact (if_pos ⟨a4, Or.inr rfl⟩).trans rfl
  · refine ⟨wI h (n + 2) 6 1, ?_, PN_w (by omega), Or.inl ⟨p, yLast S, rfl, A.al (PN_w (by omega)) D.f6⟩⟩
    refine (if_neg (by decide)).trans ?_
    refine (if_neg (by decide)).trans ?_
    refine (if_neg (by decide)).trans ?_
    refine (if_neg (by decide)).trans ?_
    refine (if_neg (by decide)).trans ?_
    refine (if_pos (by decide)).trans ?_
    refine (if_pos a1).trans ?_
    refine (bnd a3 _).trans ?_
    exact (if_pos ⟨a4, Or.inr rfl⟩).trans rfl
  · obtain ⟨h1, v, e1, e2, e3⟩ := AR_num (d := d) (j := 7) (by omega) (Bds.of (l := 0) (u := 100) (by omega) (by omega)) A (new := yStr S) (fun h1 v D => D.f7 v)
    refine ⟨_, ?_, e3⟩
    refine (if_neg (by decide)).trans ?_
    refine (if_neg (by decide)).trans ?_
    refine (if_neg (by decide)).trans ?_
    refine (if_neg (by decide)).trans ?_
    refine (if_neg (by decide)).trans ?_
    refine (if_neg (by decide)).trans ?_
    refine (if_pos a1).trans ?_
    refine (if_pos a1).trans ?_
    refine (bnd a2 _).trans ?_
    refine (if_pos c1).trans ?_
    refine (bnd (show c_Re_number d (hR h (n + 1) 0) (0 : Int32) (100 : Int32) h = _ by rw [a2]; exact e1) _).trans ?_
    refine (bnd a3 _).trans ?_
    exact (if_pos (show hK h1 (n + 2) = 2 by rw [show hK h1 = hK h from congrArg (fun x => x.1) e2]; exact a4)).trans rfl
theorem AR_tooMany_ok (w : PWr S) {k num : Nat} (hk : k < 7) (hn : num ≤ 40) (B : ARS h n) (D : ARI h n S) : c_AR_isTooMany d (some (n + 1)) (nI k) (nI num) h = some (h, bi (tmA k num S)) := by
  obtain ⟨⟨a1, a2, a3, a4⟩, -⟩ := id B
  obtain ⟨⟨d0, d1, d2, d3, d4, d5, d6, d7⟩, -⟩ := id D
  have w2 := w.2.1
  have z0 : (nI num = 0) = (num = 0) := q_eq (b := 0) (by omega) (by omega)
  have zn : (if ¬ nI num = 0 then some (h, (0 : Int32)) else some (h, (1 : Int32))) = some (h, bi (decide (num = 0))) := by
    by_cases q : num = 0
    · refine (if_neg (fun z => z (z0.mpr q))).trans ?_
      rw [decide_eq_true q]; rfl
    · refine (if_pos (fun z => q (z0.mp z))).trans ?_
      rw [decide_eq_false q]; rfl
  refine (e_AR_isTooMany _ _ _ _ _).trans ?_
  rcases (show k = 0 ∨ k = 1 ∨ k = 2 ∨ k = 3 ∨ k = 4 ∨ k = 5 ∨ k = 6 by omega) with rfl | rfl | rfl | rfl | rfl | rfl | rfl
  · refine (if_pos (show nI 0 = 0 by decide)).trans ?_
    show _ = some (h, bi (decide (0 < num)))
    by_cases q : num ≤ 0
    · refine (if_pos (show nI num ≤ nI 0 from nI_le q (by omega))).trans ?_
      rw [decide_eq_false (by omega)]; rfl
    · refine (if_neg (show ¬ nI num ≤ nI 0 from nI_ge (by omega) (by omega))).trans ?_
      rw [decide_eq_true (by omega)]; rfl
  · refine (if_neg (show ¬ nI 1 = 0 by decide)).trans ?_
    refine (if_pos (show nI 1 = 1 by decide)).trans ?_
    show _ = some (h, bi (decide (num = 0 ∨ 4 ≤ yK S)))
    by_cases q : num = 0
    · refine (if_pos (z0.mpr q)).trans ?_
      rw [decide_eq_true (Or.inl q)]; rfl
    · refine (if_neg (fun z => q (z0.mp z))).trans ?_
      refine (if_pos a1).trans ?_
      refine (bnd a3 _).trans ?_
      refine (if_pos a4).trans ?_
      by_cases q2 : yK S < 4
      · rw [decide_eq_false (by omega)]
        exact if_pos (show hI h (n + 2) 3 < nI 4 by rw [d3]; exact nI_lt q2 (by omega))
      · rw [decide_eq_true (by omega)]
        exact if_neg (show ¬ hI h (n + 2) 3 < nI 4 by rw [d3]; exact nI_nlt (by omega) (by omega))
  · refine (if_neg (show ¬ nI 2 = 0 by decide)).trans ?_
    refine (if_neg (show ¬ nI 2 = 1 by decide)).trans ?_
    refine (if_pos (show nI 2 = 2 by decide)).trans ?_
    exact zn
  · refine (if_neg (show ¬ nI 3 = 0 by decide)).trans ?_
    refine (if_neg (show ¬ nI 3 = 1 by decide)).trans ?_
    refine (if_neg (show ¬ nI 3 = 2 by decide)).trans ?_
    refine (if_pos (show nI 3 = 3 by decide)).trans ?_
    exact zn
  · refine (if_neg (show ¬ nI 4 = 0 by decide)).trans ?_
    refine (if_neg (show ¬ nI 4 = 1 by decide)).trans ?_
    refine (if_neg (show ¬ nI 4 = 2 by decide)).trans ?_
    refine (if_neg (show ¬ nI 4 = 3 by decide)).trans ?_
    refine (if_pos (show nI 4 = 4 by decide)).trans ?_
    show _ = some (h, bi (decide (num = 0 ∨ yE S = true)))
    by_cases q : num = 0
    · refine (if_pos (z0.mpr q)).trans ?_
      rw [decide_eq_true (Or.inl q)]; rfl
    · refine (if_neg (fun z => q (z0.mp z))).trans ?_
      refine (if_pos a1).trans ?_
      refine (bnd a3 _).trans ?_
      refine (if_pos a4).trans ?_
      by_cases q2 : yE S = true
      · rw [decide_eq_true (Or.inr q2)]
        exact if_neg (show ¬ hI h (n + 2) 5 = 0 by rw [d5, q2]; decide)
      · rw [decide_eq_false (fun z => z.elim q q2)]
        exact if_pos (show hI h (n + 2) 5 = 0 by rw [d5, show yE S = false by simpa using q2]; rfl)
  · refine (if_neg (show ¬ nI 5 = 0 by decide)).trans ?_
    refine (if_neg (show ¬ nI 5 = 1 by decide)).trans ?_
    refine (if_neg (show ¬ nI 5 = 2 by decide)).trans ?_
    refine (if_neg (show ¬ nI 5 = 3 by decide)).trans ?_
    refine (if_neg (show ¬ nI 5 = 4 by decide)).trans ?_
    refine (if_pos (show nI 5 = 5 by decide)).trans ?_
    show _ = some (h, bi (decide (num = 0 ∨ yL S = true)))
    by_cases q : num = 0
    · refine (if_pos (z0.mpr q)).trans ?_
      rw [decide_eq_true (Or.inl q)]; rfl
    · refine (if_neg (fun z => q (z0.mp z))).trans ?_
      refine (if_pos a1).trans ?_
      refine (bnd a3 _).trans ?_
      refine (if_pos a4).trans ?_
      by_cases q2 : yL S = true
      · rw [decide_eq_true (Or.inr q2)]
        exact if_neg (show ¬ hI h (n + 2) 6 = 0 by rw [d6, q2]; decide)
      · rw [decide_eq_false (fun z => z.elim q q2)]
        exact if_pos (show hI h (n + 2) 6 = 0 by rw [d6, show yL S = false by simpa using q2]; rfl)
  · refine (if_neg (show ¬ nI 6 = 0 by decide)).trans ?_
    refine (if_neg (show ¬ nI 6 = 1 by decide)).trans ?_
    refine (if_neg (show ¬ nI 6 = 2 by decide)).trans ?_
    refine (if_neg (show ¬ nI 6 = 3 by decide)).trans ?_
    refine (if_neg (show ¬ nI 6 = 4 by decide)).trans ?_
    refine (if_neg (show ¬ nI 6 = 5 by decide)).trans ?_
    exact zn
theorem AR_clause_ok {c : Nat → Nat} {m : Nat} (G : Stg h 2 c m) (sp : Sp c m 0 aWs = true) (w : PWr S) {num : Nat} (hn : num ≤ 40) (A : AIr h n t T p S) : ∃ h', c_AR_readClause d (some (n + 1)) (nI num) h = some h' ∧ CRs h h' n t T (claA t T num p S) := by
  obtain ⟨X, B, R, D, hp⟩ := id A
  obtain ⟨⟨a1, a2, a3, a4⟩, -⟩ := id B
  have x3 := X.2.2.1
  have c1 := R.1
  have hq := nxt_le (t := t) hp
  obtain ⟨h1, e1, e2, e3⟩ := Re_wordOf_ok (d := d) G (by omega) X R hp sp
  have A1 := A.rd e3 e2 hq.2
  have j2 := e2.2.2.2.1
  have D1 := A1.2.2.2.1
  rw [wix_N] at e1
  have e0 : c_Re_wordOf d (hR h (n + 1) 0) (some 2) h = c_Re_wordOf d (some n) (some 2) h := by rw [a2]
  -- a fault at the word
  have rf : ∀ kd : Nat, kd ≤ 4 → ∃ h2, c_Re_refuse d (some n) (nI (nxt t T p)) (nI kd) h1 = some h2 ∧ CRs h h2 n t T (.inl (1 + 8 * nxt t T p + kd)) := by
    intro kd hkd
    obtain ⟨h2, g1, g2, g3⟩ := Re_refuse_ok (d := d) e2 (q := nxt t T p) (k := kd)
    rw [if_pos rfl] at g2
    exact ⟨h2, g1, PN_of (e3.trans g3), Or.inr ⟨_, _, rfl, g2, by omega⟩⟩
  unfold claA
  cases hx : wxN (wdl t T (nxt t T p)) aWs 0 with
  | none =>
    rw [hx] at e1
    obtain ⟨h2, g1, g2⟩ := rf 0 (by omega)
    refine ⟨h2, ?_, g2⟩
    obtain ⟨I, rfl⟩ := e3.hw
    refine (e_AR_readClause _ _ _ _).trans ?_
    refine (if_pos a1).trans ?_
    refine (bnd a2 _).trans ?_
    refine (if_pos c1).trans ?_
    refine (bnd (e0.trans e1) _).trans ?_
    refine (if_neg (fun z => z rfl)).trans ?_
    refine (if_pos a1).trans ?_
    refine (if_pos a1).trans ?_
    refine (bnd a2 _).trans ?_
    refine (if_pos c1).trans ?_
    refine (bnd a2 _).trans ?_
    refine (if_pos c1).trans ?_
    exact (bnd (show c_Re_refuse d (hR h (n + 1) 0) (hI (hw h I) n 2) (0 : Int32) (hw h I) = some h2 by rw [a2, j2]; exact g1) _).trans rfl
  | some k =>
    rw [hx] at e1
    have hk : k < 7 := wxN_lt _ aWs 0 k hx
    have km : ¬ nI k = (-1 : Int32) := by
      have := q_m1 (n := k) (by omega)
      intro z
      rw [show nM = (-1 : Int32) from rfl] at this
      exact this.mp z
    have tm := AR_tooMany_ok (d := d) w (k := k) hk hn A1.2.1 D1
    by_cases q : 40 ≤ num ∨ tmA k num S = true
    · show ∃ h', _ ∧ CRs h h' n t T (if 40 ≤ num ∨ tmA k num S = true then .inl (1 + 8 * nxt t T p + 4) else _)
      rw [if_pos q]
      obtain ⟨h2, g1, g2⟩ := rf 4 (by omega)
      refine ⟨h2, ?_, g2⟩
      obtain ⟨I, rfl⟩ := e3.hw
      have gg : c_Re_refuse d (hR h (n + 1) 0) (hI (hw h I) n 2) (4 : Int32) (hw h I) = some h2 := by rw [a2, j2]; exact g1
      refine (e_AR_readClause _ _ _ _).trans ?_
      refine (if_pos a1).trans ?_
      refine (bnd a2 _).trans ?_
      refine (if_pos c1).trans ?_
      refine (bnd (e0.trans e1) _).trans ?_
      refine (if_pos km).trans ?_
      by_cases q40 : 40 ≤ num
      · refine (if_pos (show nI 40 ≤ nI num from nI_le q40 (by omega))).trans ?_
        refine (if_pos a1).trans ?_
        refine (if_pos a1).trans ?_
        refine (bnd a2 _).trans ?_
        refine (if_pos c1).trans ?_
        refine (bnd a2 _).trans ?_
        refine (if_pos c1).trans ?_
        exact (bnd gg _).trans rfl
      · refine (if_neg (show ¬ nI 40 ≤ nI num from nI_ge (by omega) (by omega))).trans ?_
        refine (if_pos a1).trans ?_
        refine (bnd tm _).trans ?_
        refine (if_neg (show ¬ bi (tmA k num S) = 0 by rw [q.resolve_left q40]; decide)).trans ?_
        refine (if_pos a1).trans ?_
        refine (if_pos a1).trans ?_
        refine (bnd a2 _).trans ?_
        refine (if_pos c1).trans ?_
        refine (bnd a2 _).trans ?_
        refine (if_pos c1).trans ?_
        exact (bnd gg _).trans rfl
    · show ∃ h', _ ∧ CRs h h' n t T (if 40 ≤ num ∨ tmA k num S = true then .inl (1 + 8 * nxt t T p + 4) else _)
      rw [if_neg q]
      have qt : tmA k num S = false := by
        cases hz : tmA k num S
        · rfl
        · exact absurd (Or.inr hz) q
      obtain ⟨h2, g1, g2, g3⟩ := Re_skipWord_ok (d := d) A1.1 e2 hq.2
      have A2 := A1.rd g3 g2 (wE_le hq.2).2
      have h4 : k = 1 → yK S < 4 := by
        intro z
        subst z
        have : decide (num = 0 ∨ 4 ≤ yK S) = false := qt
        have := of_decide_eq_false this
        omega
      obtain ⟨h', f1, f2, f3⟩ := AR_body_ok (d := d) w hk h4 A2
      refine ⟨h', ?_, ((PN_of e3).trans (PN_of g3)).trans f2, f3⟩
      rw [← f1]
      obtain ⟨I, rfl⟩ := e3.hw
      refine (e_AR_readClause _ _ _ _).trans ?_
      refine (if_pos a1).trans ?_
      refine (bnd a2 _).trans ?_
      refine (if_pos c1).trans ?_
      refine (bnd (e0.trans e1) _).trans ?_
      refine (if_pos km).trans ?_
      refine (if_neg (show ¬ nI 40 ≤ nI num from nI_ge (by omega) (by omega))).trans ?_
      refine (if_pos a1).trans ?_
      refine (bnd tm _).trans ?_
      refine (if_pos (show bi (tmA k num S) = 0 by rw [qt]; rfl)).trans ?_
      refine (if_pos a1).trans ?_
      refine (bnd a2 _).trans ?_
      refine (if_pos c1).trans ?_
      refine (bnd (show c_Re_skipWord d (hR h (n + 1) 0) (hw h I) = _ by rw [a2]; exact g1) _).trans ?_
      rfl
end SkAlleyc
