section SkMtakes
variable {h : sk_H} {t : Nat → Nat} {T i d m : Nat} {z : RZ} {r : Nat ⊕ RZ}
theorem M_if_ok (Z : Mz h i t T z) : ∃ h', c_M_takesWord d (some 52) (26982 : Int64) h = some (h', bi (decide (wdl t T (nxt t T z.1) = wIf))) ∧ Mz h' i t T (zAt z (tkE t T z.1 wIf)) ∧ Iq P8 h h' := by
  have hz := Z.1.2.2.2.2.2.2
  have hq := nxt_le (t := t) hz
  obtain ⟨h1, e1, e2, e3⟩ := M_isWord_ok (d := d) (w := wIf) (x1 := 26982) Z.1 (by decide) (by decide) (by decide) (by decide)
  have Z1 := Z.mv e3.p8F e2 hq.1
  unfold tkE
  by_cases y : wdl t T (nxt t T z.1) = wIf
  · rw [decide_eq_true y] at e1 ⊢
    rw [if_pos y]
    have hE := wE_le (t := t) hq.2
    obtain ⟨h2, p1, p2, p3⟩ := M_passWord_ok (d := d) e2
    refine ⟨h2, ?_, Z1.mv p3.p8F p2 hE.1, e3.trans p3⟩
    refine (e_M_takesWord _ _ _ _).trans ?_
    refine (if_pos Z.1.1.K52).trans ?_
    refine (bnd e1 _).trans ?_
    refine (if_pos nb1).trans ?_
    refine (if_pos e2.1.K52).trans ?_
    exact (bnd p1 _).trans rfl
  · rw [decide_eq_false y] at e1 ⊢
    rw [if_neg y]
    refine ⟨h1, ?_, Z1, e3⟩
    refine (e_M_takesWord _ _ _ _).trans ?_
    refine (if_pos Z.1.1.K52).trans ?_
    refine (bnd e1 _).trans ?_
    exact (if_neg (fun w => w rfl)).trans rfl
end SkMtakes
