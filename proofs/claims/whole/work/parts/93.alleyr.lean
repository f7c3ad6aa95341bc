/-! ===== the class reads all of an alley's text ===== -/
/-- a row is being read -/
def RWk (S : PS) : Prop := 0 < yK S ∧ (∀ r, r + 1 < yK S → 1 ≤ yZ S r ∧ yT S (r + 1) = yT S r + yZ S r) ∧ (∀ r, r < yK S → yR S r = true → 3 ≤ yZ S r) ∧ yT S 0 = 0 ∧ yT S (yK S - 1) + yZ S (yK S - 1) = yN S
section SkAlleyr
variable {h h' h1 h2 : sk_H} {t : Nat → Nat} {T p n d : Nat} {S S' : PS} {f : Int32}
theorem nmR_in {l u e v : Nat} (g : nmR t T p l u = .inr (e, v)) : l ≤ v ∧ v < u := by
  unfold nmR at g
  by_cases z : dgt t T (nxt t T p) = true
  · rw [if_pos z] at g
    by_cases z2 : dgE t T (nxt t T p) ≤ nxt t T p + 5 ∧ l ≤ nv 0 0 (dl t T (nxt t T p)) ∧ nv 0 0 (dl t T (nxt t T p)) < u
    · rw [if_pos z2] at g
      have := (Prod.mk.inj (Sum.inr.inj g)).2
      omega
    · rw [if_neg z2] at g; cases g
  · rw [if_neg z] at g; cases g
theorem nmB_in {r : Nat ⊕ (Nat × Nat)} {F : Nat → Nat → Nat ⊕ (Nat × PS)} {x : Nat × PS} (g : nmB r F = .inr x) : ∃ e v, r = .inr (e, v) ∧ F e v = .inr x := by
  cases r with
  | inl y => cases g
  | inr y => exact ⟨y.1, y.2, rfl, g⟩
theorem RWk.aw (w : PWr S) (r : RWk S) (hz : 1 ≤ yZ S (yK S - 1)) : aW (yA S) := by
  obtain ⟨r1, r2, r3, r4, r5⟩ := r
  obtain ⟨w1, w2, w3, -⟩ := w
  refine ⟨w1, w2, fun r (hr : r < yK S) => ⟨w3 r hr, ?_, r3 r hr⟩, r4, fun r hr => (r2 r hr).2, fun r (hr : r + 1 = yK S) => ?_, fun z => absurd (show yK S = 0 from z) (by omega)⟩
  · by_cases q : r + 1 < yK S
    · exact (r2 r q).1
    · rw [show r = yK S - 1 by omega]; exact hz
  · show yT S r + yZ S r = yN S
    rw [show r = yK S - 1 by omega]; exact r5
theorem RWk.row (a : aW (yA S)) (w : PWr S) : RWk (yRow S) := by
  obtain ⟨w1, w2, w3, w4, w5, w6, w7, w8, w9⟩ := w
  obtain ⟨a1, a2, a3, a4, a5, a6, a7⟩ := a
  refine ⟨Nat.succ_pos _, fun r (hr : r + 1 < yK S + 1) => ?_, fun r (hr : r < yK S + 1) (hR : yR S r = true) => ?_, ?_, ?_⟩
  · show 1 ≤ yZ S r ∧ va_up (yT S) (yK S) (yN S) (r + 1) = va_up (yT S) (yK S) (yN S) r + yZ S r
    rw [va_up_ne _ _ (show r ≠ yK S by omega)]
    refine ⟨(a3 r (show r < yK S by omega)).2.1, ?_⟩
    by_cases q : r + 1 = yK S
    · rw [q, va_up_self]; exact (a6 r q).symm
    · rw [va_up_ne _ _ q]; exact a5 r (show r + 1 < yK S by omega)
  · by_cases q : r = yK S
    · rw [q] at hR
      rw [(w4 _ (Nat.le_refl _)).2] at hR
      cases hR
    · exact (a3 r (show r < yK S by omega)).2.2 hR
  · show va_up (yT S) (yK S) (yN S) 0 = 0
    by_cases q : yK S = 0
    · rw [q, va_up_self]; exact w9 q
    · rw [va_up_ne _ _ (by omega)]; exact a4
  · show va_up (yT S) (yK S) (yN S) (yK S + 1 - 1) + yZ S (yK S + 1 - 1) = yN S
    rw [Nat.add_sub_cancel, va_up_self, (w4 _ (Nat.le_refl _)).1]
    omega
theorem RWk.add (r : RWk S) (o : Bool) : RWk (yAdd S o) ∧ 1 ≤ yZ (yAdd S o) (yK (yAdd S o) - 1) := by
  obtain ⟨r1, r2, r3, r4, r5⟩ := r
  have key : ∀ r, yZ S r ≤ va_up (yZ S) (yK S - 1) (yZ S (yK S - 1) + 1) r := by
    intro r
    by_cases q : r = yK S - 1
    · rw [q, va_up_self]; omega
    · rw [va_up_ne _ _ q]; omega
  refine ⟨⟨r1, fun r (hr : r + 1 < yK S) => ?_, fun r (hr : r < yK S) hR => Nat.le_trans (r3 r hr hR) (key r), r4, ?_⟩, ?_⟩
  · show 1 ≤ va_up (yZ S) (yK S - 1) (yZ S (yK S - 1) + 1) r ∧ yT S (r + 1) = yT S r + va_up (yZ S) (yK S - 1) (yZ S (yK S - 1) + 1) r
    rw [va_up_ne _ _ (show r ≠ yK S - 1 by omega)]
    exact r2 r hr
  · show yT S (yK S - 1) + va_up (yZ S) (yK S - 1) (yZ S (yK S - 1) + 1) (yK S - 1) = yN S + 1
    rw [va_up_self]; omega
  · show 1 ≤ va_up (yZ S) (yK S - 1) (yZ S (yK S - 1) + 1) (yK S - 1)
    rw [va_up_self]; omega
theorem yRL_pw : ∀ (m p : Nat) (S : PS), PWr S → RWk S → 1 ≤ yZ S (yK S - 1) → ∀ q S', yRL t T m p S = .inr (q, S') → PWr S' ∧ aW (yA S')
  | 0, p, S, w, r, z, q, S', e => by
    have := (Prod.mk.inj (Sum.inr.inj e)).2
    subst this
    exact ⟨w, r.aw w z⟩
  | m + 1, p, S, w, r, z, q, S', e => by
    unfold yRL at e
    by_cases q1 : plc t T p = true
    · rw [if_pos q1] at e
      by_cases q2 : yN S = 12
      · rw [if_pos q2] at e; cases e
      · rw [if_neg q2] at e
        have w1 := w.1
        obtain ⟨r', z'⟩ := r.add (decide (t p = 49))
        exact yRL_pw m (p + 1) _ (w.add r.1 (by omega) _) r' z' q S' e
    · rw [if_neg q1] at e
      have := (Prod.mk.inj (Sum.inr.inj e)).2
      subst this
      exact ⟨w, r.aw w z⟩
theorem claB_pw {e k q : Nat} (hk : k < 7) (he : e ≤ T) (h4 : k = 1 → yK S < 4) (w : PWr S) (a : aW (yA S)) (g : claB t T e k S = .inr (q, S')) : PWr S' ∧ aW (yA S') := by
  unfold claB at g
  obtain ⟨w1, w2, w3, w4, w5, w6, w7, w8, w9⟩ := id w
  rcases (show k = 0 ∨ k = 1 ∨ k = 2 ∨ k = 3 ∨ k = 4 ∨ k = 5 ∨ k = 6 by omega) with rfl | rfl | rfl | rfl | rfl | rfl | rfl
  · rw [if_pos rfl] at g
    obtain ⟨e', v, g1, g2⟩ := nmB_in g
    have := (Prod.mk.inj (Sum.inr.inj g2)).2
    subst this
    have := nmR_in g1
    exact ⟨⟨w1, w2, w3, w4, w5, w6, w7, show v ≤ 1 by omega, w9⟩, a⟩
  · rw [if_neg (by decide), if_pos rfl] at g
    by_cases q1 : plc t T (nxt t T e) = true
    · rw [if_pos q1] at g
      have hp := (of_decide_eq_true q1).1
      obtain ⟨m, hm⟩ : ∃ m, T - nxt t T e = m + 1 := ⟨T - nxt t T e - 1, by omega⟩
      rw [hm] at g
      unfold yRL at g
      rw [if_pos q1] at g
      by_cases q2 : yN (yRow S) = 12
      · rw [if_pos q2] at g; cases g
      · rw [if_neg q2] at g
        have w' := w.row (h4 rfl)
        have r' := RWk.row a w
        obtain ⟨r2, z2⟩ := r'.add (decide (t (nxt t T e) = 49))
        have : yN (yRow S) ≤ 12 := w'.1
        exact yRL_pw m _ _ (w'.add r'.1 (by omega) _) r2 z2 q S' g
    · rw [if_neg q1] at g; cases g
  · rw [if_neg (by decide), if_neg (by decide), if_pos rfl] at g
    obtain ⟨e', v, g1, g2⟩ := nmB_in g
    have hv := nmR_in g1
    by_cases q1 : yZ S v < 3
    · rw [if_pos q1] at g2; cases g2
    · rw [if_neg q1] at g2
      have := (Prod.mk.inj (Sum.inr.inj g2)).2
      subst this
      obtain ⟨a1, a2, a3, a4, a5, a6, a7⟩ := a
      refine ⟨⟨w1, w2, w3, fun r (hr : yK S ≤ r) => ⟨(w4 r hr).1, ?_⟩, w5, w6, w7, w8, w9⟩, a1, a2, fun r hr => ⟨(a3 r hr).1, (a3 r hr).2.1, fun z => ?_⟩, a4, a5, a6, a7⟩
      · show va_up (yR S) v true r = false
        rw [va_up_ne _ _ (by omega)]; exact (w4 r hr).2
      · have z : va_up (yR S) v true r = true := z
        show 3 ≤ yZ S r
        by_cases y : r = v
        · rw [y]; omega
        · rw [va_up_ne _ _ y] at z; exact (a3 r hr).2.2 z
  · rw [if_neg (by decide), if_neg (by decide), if_neg (by decide), if_pos rfl] at g
    obtain ⟨e', v, g1, g2⟩ := nmB_in g
    have := (Prod.mk.inj (Sum.inr.inj g2)).2
    subst this
    have hv := nmR_in g1
    refine ⟨⟨w1, w2, w3, w4, w5, ?_, w7, w8, w9⟩, a⟩
    show yH S ||| 1 <<< (v - 1) < 2 ^ 4
    refine Nat.or_lt_two_pow w6 ?_
    rw [Nat.one_shiftLeft]
    exact Nat.pow_lt_pow_right (by omega) (by omega)
  · rw [if_neg (by decide), if_neg (by decide), if_neg (by decide), if_neg (by decide), if_pos rfl] at g
    have := (Prod.mk.inj (Sum.inr.inj g)).2
    subst this
    exact ⟨w, a⟩
  · rw [if_neg (by decide), if_neg (by decide), if_neg (by decide), if_neg (by decide), if_neg (by decide), if_pos rfl] at g
    have := (Prod.mk.inj (Sum.inr.inj g)).2
    subst this
    exact ⟨w, a⟩
  · rw [if_neg (by decide), if_neg (by decide), if_neg (by decide), if_neg (by decide), if_neg (by decide), if_neg (by decide)] at g
    obtain ⟨e', v, g1, g2⟩ := nmB_in g
    have := (Prod.mk.inj (Sum.inr.inj g2)).2
    subst this
    have := nmR_in g1
    exact ⟨⟨w1, w2, w3, w4, w5, w6, show v ≤ 100 by omega, w8, w9⟩, a⟩
theorem tm1 {num : Nat} (qt : ¬ (40 ≤ num ∨ tmA 1 num S = true)) : yK S < 4 := by
  have : decide (num = 0 ∨ 4 ≤ yK S) = false := by
    cases hz : decide (num = 0 ∨ 4 ≤ yK S)
    · rfl
    · exact absurd (Or.inr hz) qt
  have := of_decide_eq_false this
  omega
theorem claA_pw {num q : Nat} (hp : p ≤ T) (w : PWr S) (a : aW (yA S)) (g : claA t T num p S = .inr (q, S')) : PWr S' ∧ aW (yA S') ∧ num < 40 := by
  unfold claA at g
  cases hx : wxN (wdl t T (nxt t T p)) aWs 0 with
  | none => rw [hx] at g; cases g
  | some k =>
    rw [hx] at g
    have hk : k < 7 := wxN_lt _ aWs 0 k hx
    have g : (if 40 ≤ num ∨ tmA k num S = true then (.inl (1 + 8 * nxt t T p + 4) : Nat ⊕ (Nat × PS)) else claB t T (wE t T (nxt t T p)) k S) = .inr (q, S') := g
    by_cases z : 40 ≤ num ∨ tmA k num S = true
    · rw [if_pos z] at g; cases g
    · rw [if_neg z] at g
      obtain ⟨b1, b2⟩ := claB_pw hk (wE_le (nxt_le hp).2).2 (fun e => by subst e; exact tm1 z) w a g
      exact ⟨b1, b2, by omega⟩
theorem AR_26_f (B : ARS h n) (R : Rd h n T p f) (hf : f ≠ nM) : k_AR_read_26 d (some (n + 1)) h = some (h, some (n + 2)) := by
  obtain ⟨⟨a1, a2, a3, a4⟩, -⟩ := id B
  have so := Re_sound_ok (d := d) R
  rw [decide_eq_false hf] at so
  refine (e_AR_read_26 _ _ _).trans ?_
  refine (if_pos a1).trans ?_
  refine (bnd a2 _).trans ?_
  refine (if_pos R.1).trans ?_
  refine (bnd (show c_Re_sound d (hR h (n + 1) 0) h = _ by rw [a2]; exact so) _).trans ?_
  refine (if_pos rfl).trans ?_
  refine (if_pos a1).trans ?_
  show some (h, hR h (n + 1) 1) = _
  rw [a3]
theorem AR_26_s (B : ARS h n) (R : Rd h n T p nM) : k_AR_read_26 d (some (n + 1)) h = Option.bind (c_Al_settle d (some (n + 2)) h) fun q2 => if hK q2 (n + 1) = 3 then some (q2, hR q2 (n + 1) 1) else none := by
  obtain ⟨⟨a1, a2, a3, a4⟩, -⟩ := id B
  have so := Re_sound_ok (d := d) R
  rw [decide_eq_true rfl] at so
  refine (e_AR_read_26 _ _ _).trans ?_
  refine (if_pos a1).trans ?_
  refine (bnd a2 _).trans ?_
  refine (if_pos R.1).trans ?_
  refine (bnd (show c_Re_sound d (hR h (n + 1) 0) h = _ by rw [a2]; exact so) _).trans ?_
  refine (if_neg nb1).trans ?_
  refine (if_pos a1).trans ?_
  refine (bnd a3 _).trans ?_
  refine (if_pos a4).trans ?_
  show Option.bind (c_Al_settle d (hR h (n + 1) 1) h) _ = _
  rw [a3]
theorem Stg.pn {i m : Nat} {c : Nat → Nat} (G : Stg h i c m) (hi : i ≤ 8) (Q : Iq (PN n) h h1) (hn : 73 ≤ n) : Stg h1 i c m := by
  obtain ⟨k, r, i1, k2, n2, n3, x⟩ := G
  have e : ∀ a, a < 73 → hI h1 a = hI h a := fun a ha => funext fun j => Q.I (by unfold PN; exact decide_eq_false (by omega))
  refine ⟨by rw [Q.eK]; exact k, by rw [Q.eR]; exact r, by rw [e _ (by omega)]; exact i1, by rw [Q.eK]; exact k2, by rw [Q.eN]; exact n2, n3, ?_⟩
  rw [e _ (by omega)]
  exact x
theorem ARS.pn (B : ARS h n) {m : Nat} (Q : Iq (PN m) h h1) : ARS h1 n := by
  obtain ⟨I, rfl⟩ := Q.hw
  exact B
theorem AR_read_in {c : Nat → Nat} {m : Nat} (sp : Sp c m 0 aWs = true) (hn : 73 ≤ n) : ∀ (x num p : Nat) (S : PS) (h : sk_H), num + x = 41 → num ≤ 40 → PWr S → aW (yA S) → Stg h 2 c m → AIr h n t T p S → ∃ h', Iq (PN n) h h' ∧ ((∃ g q, alP t T x num p S = .inl g ∧ k_AR_read_2 d (some (n + 1)) (nI num) h = some (h', some (n + 2)) ∧ Rd h' n T q (nI g) ∧ g < 10000) ∨ ∃ S' q, alP t T x num p S = .inr S' ∧ AIr h' n t T q S' ∧ PWr S' ∧ aW (yA S') ∧ k_AR_read_2 d (some (n + 1)) (nI num) h = Option.bind (c_Al_settle d (some (n + 2)) h') fun q2 => if hK q2 (n + 1) = 3 then some (q2, hR q2 (n + 1) 1) else none)
  | 0, num, p, S, h, hx, hnum, w, a, G, A => absurd hx (by omega)
  | x + 1, num, p, S, h, hx, hnum, w, a, G, A => by
    obtain ⟨⟨a1, a2, a3, a4⟩, -⟩ := id A.2.1
    have hp := A.2.2.2.2
    have x3 := A.1.2.2.1
    obtain ⟨h1, e1, e2, e3⟩ := AR_clause_ok (d := d) G sp w hnum A
    have B1 := A.2.1.pn e2
    obtain ⟨⟨b1, b2, b3, b4⟩, -⟩ := id B1
    unfold alP
    rcases e3 with ⟨q, S1, g0, A1⟩ | ⟨g, q, g0, R1, hg⟩
    · rw [g0]
      obtain ⟨w1, aw1, hn40⟩ := claA_pw hp w a g0
      have c1 := A1.2.2.1.1
      have hq := A1.2.2.2.2
      have pre : ∀ o, (Option.bind (c_Re_goesOn d (some n) h1) fun (q2 : sk_H × Int32) => if ¬ q2.2 = 0 then k_AR_read_2 d (some (n + 1)) (nI (num + 1)) q2.1 else k_AR_read_26 d (some (n + 1)) q2.1) = o → k_AR_read_2 d (some (n + 1)) (nI num) h = o := by
        intro o ho
        rw [← ho]
        refine (e_AR_read_2 _ _ _ _).trans ?_
        refine (if_pos a1).trans ?_
        refine (bnd e1 _).trans ?_
        rw [nI_1]
        refine (if_neg (show ¬ nI 40 < nI (num + 1) from nI_nlt (by omega) (by omega))).trans ?_
        refine (if_pos b1).trans ?_
        refine (bnd b2 _).trans ?_
        refine (if_pos c1).trans ?_
        rw [b2]
      rcases Re_goesOn_ok (d := d) A1.1 A1.2.2.1 hq with ⟨h2, f0, f1, f2, f3⟩ | ⟨q', h2, f0, f1, f2, f3, f4⟩ | ⟨g, q', h2, f0, f1, f2, f3, f4⟩
      · refine ⟨h2, e2.trans (PN_of f3), Or.inr ⟨S1, _, ?_, A1.rd f3 f2 (nxt_le hq).2, w1, aw1, pre _ ?_⟩⟩
        · show (match gO t T q with
            | .inl g => (.inl g : Nat ⊕ PS)
            | .inr none => .inr S1
            | .inr (some q') => alP t T x (num + 1) q' S1) = _
          rw [f0]
        · refine (bnd f1 _).trans ?_
          refine (if_neg (fun z => z rfl)).trans ?_
          exact AR_26_s (B1.pn (PN_of f3)) f2
      · have Q2 := e2.trans (PN_of f3)
        obtain ⟨h', k1, k2⟩ := AR_read_in sp hn x (num + 1) q' S1 h2 (by omega) (by omega) w1 aw1 (G.pn (by omega) Q2 hn) (A1.rd f3 f2 f4)
        have ea : (match gO t T q with
            | .inl g => (.inl g : Nat ⊕ PS)
            | .inr none => .inr S1
            | .inr (some q') => alP t T x (num + 1) q' S1) = alP t T x (num + 1) q' S1 := by rw [f0]
        have ek : k_AR_read_2 d (some (n + 1)) (nI num) h = k_AR_read_2 d (some (n + 1)) (nI (num + 1)) h2 := by
          refine pre _ ?_
          refine (bnd f1 _).trans ?_
          exact if_pos nb1
        refine ⟨h', Q2.trans k1, ?_⟩
        show (∃ g q0, (match gO t T q with
            | .inl g => (.inl g : Nat ⊕ PS)
            | .inr none => .inr S1
            | .inr (some q') => alP t T x (num + 1) q' S1) = .inl g ∧ _) ∨ ∃ S' q0, (match gO t T q with
            | .inl g => (.inl g : Nat ⊕ PS)
            | .inr none => .inr S1
            | .inr (some q') => alP t T x (num + 1) q' S1) = .inr S' ∧ _
        rw [ea, ek]
        exact k2
      · refine ⟨h2, e2.trans (PN_of f3), Or.inl ⟨g, q', ?_, pre _ ?_, f2, gO_lt hq x3 f0⟩⟩
        · show (match gO t T q with
            | .inl g => (.inl g : Nat ⊕ PS)
            | .inr none => .inr S1
            | .inr (some q') => alP t T x (num + 1) q' S1) = _
          rw [f0]
        · refine (bnd f1 _).trans ?_
          refine (if_neg (fun z => z rfl)).trans ?_
          exact AR_26_f (B1.pn (PN_of f3)) f2 (fne (gO_lt hq x3 f0))
    · rw [g0]
      refine ⟨h1, e2, Or.inl ⟨g, q, rfl, ?_, R1, hg⟩⟩
      have en := AR_26_f (d := d) B1 R1 (fne hg)
      refine (e_AR_read_2 _ _ _ _).trans ?_
      refine (if_pos a1).trans ?_
      refine (bnd e1 _).trans ?_
      rw [nI_1]
      by_cases q40 : 40 < num + 1
      · refine (if_pos (show nI 40 < nI (num + 1) from nI_lt q40 (by omega))).trans ?_
        exact en
      · refine (if_neg (show ¬ nI 40 < nI (num + 1) from nI_nlt (by omega) (by omega))).trans ?_
        refine (if_pos b1).trans ?_
        refine (bnd b2 _).trans ?_
        refine (if_pos R1.1).trans ?_
        rw [b2]
        refine (bnd (Re_goesOn_no R1 (fne hg)) _).trans ?_
        refine (if_neg (fun z => z rfl)).trans ?_
        exact en
end SkAlleyr
