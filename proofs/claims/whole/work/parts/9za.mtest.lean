/-! ===== what the reference does behind a fact ===== -/
noncomputable def tsK (d : Nat) (q6 : sk_H) : Option (sk_H × Int32) :=
      if hK q6 52 = 13 then
      Option.bind (c_M_isWord d (some 52) (6385252 : Int64) q6) fun q7 =>
      if ¬ q7.2 = 0 then
        if (1 : Int32) = 0 then
          k_M_tested_12 d (some 52) (1 : Int32) q7.1
        else
          if hK q7.1 52 = 13 then
          Option.bind (c_M_isWord d (some 52) (6385252 : Int64) q7.1) fun q8 =>
          if q8.2 = 0 then
            k_M_tested_76 d (some 52) (1 : Int32) (13 : Int32) q8.1
          else
            k_M_tested_76 d (some 52) (1 : Int32) (12 : Int32) q8.1
          else none
      else
        if hK q7.1 52 = 13 then
        Option.bind (c_M_isWord d (some 52) (28530 : Int64) q7.1) fun q9 =>
        if q9.2 = 0 then
          if (0 : Int32) = 0 then
            k_M_tested_12 d (some 52) (0 : Int32) q9.1
          else
            if hK q9.1 52 = 13 then
            Option.bind (c_M_isWord d (some 52) (6385252 : Int64) q9.1) fun q10 =>
            if q10.2 = 0 then
              k_M_tested_76 d (some 52) (0 : Int32) (13 : Int32) q10.1
            else
              k_M_tested_76 d (some 52) (0 : Int32) (12 : Int32) q10.1
            else none
        else
          if (1 : Int32) = 0 then
            k_M_tested_12 d (some 52) (1 : Int32) q9.1
          else
            if hK q9.1 52 = 13 then
            Option.bind (c_M_isWord d (some 52) (6385252 : Int64) q9.1) fun q11 =>
            if q11.2 = 0 then
              k_M_tested_76 d (some 52) (1 : Int32) (13 : Int32) q11.1
            else
              k_M_tested_76 d (some 52) (1 : Int32) (12 : Int32) q11.1
            else none
        else none
      else none
section SkMtest
variable {h h' h1 h2 : sk_H} {t : Nat → Nat} {T i d p q n g o m k : Nat} {z z1 : RZ} {v : Int32} {r : Nat ⊕ RZ} {s : List Nat}
theorem M_t12 (M : MS 52 h) : k_M_tested_12 d (some 52) 1 h = Option.bind (k_M_fact_2 d (some 52) 1 h) fun (q5 : sk_H × Int32) => if ¬ q5.2 = 0 then (if hK q5.1 52 = 13 then Option.bind (c_M_closes d (some 52) q5.1) (tsK d) else none) else some (q5.1, (0 : Int32)) := by
  refine (e_M_tested_12 _ _ _ _).trans ?_
  refine (if_neg (show ¬ (1 : Int32) = 0 by decide)).trans ?_
  refine (if_pos M.K52).trans ?_
  rw [e_M_fact]
  rfl
theorem tsK_and (R : Mr h t T q) (hq : nxt t T q = q) (hw : wdl t T q = wAnd) : tsK d h = k_M_tested_76 d (some 52) 1 (nI 12) h := by
  have a := M_wAnd (d := d) R hq
  rw [decide_eq_true hw] at a
  unfold tsK
  refine (if_pos R.1.K52).trans ?_
  refine (bnd a _).trans ?_
  refine (if_pos nb1).trans ?_
  refine (if_neg (show ¬ (1 : Int32) = 0 by decide)).trans ?_
  refine (if_pos R.1.K52).trans ?_
  refine (bnd a _).trans ?_
  exact (if_neg nb1).trans rfl
theorem tsK_or (R : Mr h t T q) (hq : nxt t T q = q) (hw : wdl t T q = wOr) : tsK d h = k_M_tested_76 d (some 52) 1 (nI 13) h := by
  have a := M_wAnd (d := d) R hq
  rw [decide_eq_false (show ¬ wdl t T q = wAnd by rw [hw]; decide)] at a
  have b := M_wOr (d := d) R hq
  rw [decide_eq_true hw] at b
  unfold tsK
  refine (if_pos R.1.K52).trans ?_
  refine (bnd a _).trans ?_
  refine (if_neg (fun w => w rfl)).trans ?_
  refine (if_pos R.1.K52).trans ?_
  refine (bnd b _).trans ?_
  refine (if_neg nb1).trans ?_
  refine (if_neg (show ¬ (1 : Int32) = 0 by decide)).trans ?_
  refine (if_pos R.1.K52).trans ?_
  refine (bnd a _).trans ?_
  exact (if_pos rfl).trans rfl
theorem tsK_no (R : Mr h t T q) (hq : nxt t T q = q) (hw : wdl t T q ≠ wAnd) (hw2 : wdl t T q ≠ wOr) : tsK d h = k_M_tested_12 d (some 52) 0 h := by
  have a := M_wAnd (d := d) R hq
  rw [decide_eq_false hw] at a
  have b := M_wOr (d := d) R hq
  rw [decide_eq_false hw2] at b
  unfold tsK
  refine (if_pos R.1.K52).trans ?_
  refine (bnd a _).trans ?_
  refine (if_neg (fun w => w rfl)).trans ?_
  refine (if_pos R.1.K52).trans ?_
  refine (bnd b _).trans ?_
  refine (if_pos rfl).trans ?_
  exact (if_pos rfl).trans rfl
end SkMtest
