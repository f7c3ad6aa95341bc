/-! ===== what is read is a rule ===== -/
def nRT (z : RZ) (cs : List (Nat × Nat × Nat × Bool)) : RT := (z.2.1.length, fun j => z.2.1.getD j (0, 0), cs.length, fun c => cs.getD c (0, 0, 0, false))
section SkNrt
variable {h h1 : sk_H} {F : Nat → Prop} {n i k wd : Nat} {z : RZ} {cs : List (Nat × Nat × Nat × Bool)} {R : RT}
theorem getD_some {α : Type} {l : List α} {j : Nat} {d : α} (hj : j < l.length) : l[j]? = some (l.getD j d) := by
  rw [List.getD_eq_getElem?_getD, List.getElem?_eq_getElem hj]
  rfl
theorem sli_app : ∀ (a l0 r : List (Nat × Nat)), sli (fun j => (l0 ++ (a ++ r)).getD j (0, 0)) l0.length a.length = a
  | [], l0, r => rfl
  | x :: a, l0, r => by
    have e : (l0 ++ [x]) ++ (a ++ r) = l0 ++ (x :: a ++ r) := by simp
    have e2 := sli_app a (l0 ++ [x]) r
    rw [e, List.length_append] at e2
    have e3 : (l0 ++ (x :: a ++ r)).getD l0.length (0, 0) = x := by simp [List.getD_eq_getElem?_getD]
    show (l0 ++ (x :: a ++ r)).getD l0.length (0, 0) :: sli (fun j => (l0 ++ (x :: a ++ r)).getD j (0, 0)) (l0.length + 1) a.length = x :: a
    rw [e3]
    exact congrArg (fun y => x :: y) e2
theorem RW_new (w : ruW z cs) (hl : z.2.1.length ≤ 400) : RW (nRT z cs) := by
  obtain ⟨w1, w2, w3⟩ := w
  refine ⟨hl, w1, fun i hi => ?_, fun c hc => ?_⟩
  · have hi : i < z.2.1.length := hi
    exact w2 _ (List.mem_of_getElem? (getD_some (d := (0, 0)) hi))
  · have hc : c < cs.length := hc
    obtain ⟨l0, a, b, l1, e, f1, f2, f3, f4, f5, f6, f7, f8⟩ := w3 _ (List.mem_of_getElem? (getD_some (d := (0, 0, 0, false)) hc))
    have el : rL (nRT z cs) c = cs.getD c (0, 0, 0, false) := rfl
    generalize cs.getD c (0, 0, 0, false) = y at el f1 f2 f3 f7 f8
    have eF : rF (nRT z cs) c = a := by
      show sli (fun j => z.2.1.getD j (0, 0)) (rL (nRT z cs) c).1 ((rL (nRT z cs) c).2.1 - (rL (nRT z cs) c).1) = a
      rw [el, f1, f2, e, Nat.add_sub_cancel_left]
      exact sli_app a l0 (b ++ l1)
    have eT : rT (nRT z cs) c = b := by
      show sli (fun j => z.2.1.getD j (0, 0)) (rL (nRT z cs) c).2.1 ((rL (nRT z cs) c).2.2.1 - (rL (nRT z cs) c).2.1) = b
      rw [el, f2, f3, e, Nat.add_sub_cancel_left]
      have := sli_app b (l0 ++ a) l1
      rw [List.length_append, List.append_assoc] at this
      exact this
    rw [el, eF, eT]
    refine ⟨by omega, by omega, ?_, f4, f5, f6, fun q => ?_, fun q => ?_⟩
    · show y.2.2.1 ≤ z.2.1.length
      rw [f3, e]
      simp only [List.length_append]
      omega
    · have h1 := f7 q
      refine ⟨?_, h1⟩
      cases b with
      | nil =>
        have h1 : (some [] : Option (List Bool)) = some [true] := h1
        cases h1
      | cons x b => rw [f3, f2, List.length_cons]; omega
    · rw [f3, f2, f8 q]
      rfl
theorem RO_new (X : ruX h n wd z cs) (hF : ∀ c, n ≤ c → c < n + 10 → F c) : RO F h (n + 3) (nRT z cs) := by
  obtain ⟨⟨s1, s2, s3, s4, s5, s6, s7, s8, s9, s10⟩, ⟨u0, u1, u2, u3⟩, ⟨v1, v2, v3⟩, x1, x2⟩ := X
  refine ⟨fun k => ([n + 9, n, n + 5, n + 6, n + 7, n + 8] : List Nat).getD k 0, wd, hF _ (by omega) (by omega), s1, x1, s8, s9, fun i hi h1 => ?_, ⟨s2, hF (n + 9) (by omega) (by omega), s3, s4, fun i hi => ?_⟩, ⟨u1.1, hF (n + 5) (by omega) (by omega), u1.2.1, u1.2.2, fun c hc => ?_⟩, ⟨u2.1, hF (n + 6) (by omega) (by omega), u2.2.1, u2.2.2, fun c hc => ?_⟩, ⟨u3.1, hF (n + 7) (by omega) (by omega), u3.2.1, u3.2.2, fun c hc => ?_⟩, v1, hF (n + 8) (by omega) (by omega), v2, v3⟩
  · have hi : i < z.2.1.length := hi
    exact (s10 i _ hi (getD_some (d := (0, 0)) hi)).2 h1
  · have hi : i < z.2.1.length := hi
    exact (s10 i _ hi (getD_some (d := (0, 0)) hi)).1
  · have hc : c < cs.length := hc
    exact (x2 c _ (getD_some (d := (0, 0, 0, false)) hc)).1
  · have hc : c < cs.length := hc
    exact (x2 c _ (getD_some (d := (0, 0, 0, false)) hc)).2.1
  · have hc : c < cs.length := hc
    exact (x2 c _ (getD_some (d := (0, 0, 0, false)) hc)).2.2
theorem MR_new (D : Mrd h i z cs) : MR h i (nRT z cs) := by
  obtain ⟨⟨i1, i2⟩, d⟩ := D
  refine ⟨i1, fun k hk => ?_, fun c hc => ?_⟩
  · have hk : k < z.2.1.length := hk
    exact d k _ (getD_some (d := (0, 0)) hk)
  · have hc : c < cs.length := hc
    exact i2 c _ (getD_some (d := (0, 0, 0, false)) hc)
theorem PDz_no {a j : Nat} (Q : Iq (PDz k) h h1) (q1 : a ≠ 52) (q2 : a ≠ 59) (q3 : ¬ (a = 54 ∧ 400 * k ≤ j ∧ j < 400 * k + 400)) (q4 : ¬ (a = 55 ∧ j = k)) (q5 : ¬ (a = 56 ∧ 48 * k ≤ j ∧ j < 48 * k + 48)) (q6 : ¬ (a = 57 ∧ j = k)) : hI h1 a j = hI h a j := Q.I (by
  unfold PDz PCz PTz PVz
  rw [decide_eq_false (by omega), decide_eq_false (by omega), decide_eq_false (by omega), decide_eq_false (by omega)]
  rfl)
theorem PDz_c {c j : Nat} (q1 : c ≠ 52) (q2 : c < 54 ∨ 59 < c) : PDz k c j = false := by
  unfold PDz PCz PTz PVz
  rw [decide_eq_false (by omega), decide_eq_false (by omega), decide_eq_false (by omega), decide_eq_false (by omega)]
  rfl
theorem PDz_52 {j : Nat} (q : j = 21 ∨ j = 23 ∨ j = 25) : PDz k 52 j = false := by
  unfold PDz PCz PTz PVz
  rw [decide_eq_false (by omega), decide_eq_false (by omega), decide_eq_false (by omega), decide_eq_false (by omega)]
  rfl
theorem MR.eq (m : MR h i R) (e1 : hI h1 54 = hI h 54) (e2 : hI h1 56 = hI h 56) (e3 : hI h1 57 = hI h 57) : MR h1 i R := by
  unfold MR
  rw [e1, e2, e3]
  exact m
theorem MR.pd (m : MR h i R) (Q : Iq (PDz k) h h1) (hik : i < k) (w : RW R) : MR h1 i R := by
  obtain ⟨m1, m2, m3⟩ := m
  obtain ⟨w1, w2, -⟩ := w
  refine ⟨by rw [PDz_no Q (by omega) (by omega) (by omega) (by omega) (by omega) (by omega)]; exact m1, fun x hx => by rw [PDz_no Q (by omega) (by omega) (by omega) (by omega) (by omega) (by omega)]; exact m2 x hx, fun c hc => ?_⟩
  obtain ⟨c1, c2, c3, c4⟩ := m3 c hc
  exact ⟨by rw [PDz_no Q (by omega) (by omega) (by omega) (by omega) (by omega) (by omega)]; exact c1, by rw [PDz_no Q (by omega) (by omega) (by omega) (by omega) (by omega) (by omega)]; exact c2, by rw [PDz_no Q (by omega) (by omega) (by omega) (by omega) (by omega) (by omega)]; exact c3, by rw [PDz_no Q (by omega) (by omega) (by omega) (by omega) (by omega) (by omega)]; exact c4⟩
end SkNrt
