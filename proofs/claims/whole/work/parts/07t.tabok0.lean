/-! ===== the code table is the claim's ===== -/
theorem sk_take_drop (z : List (Nat × sk_E)) (f : Nat × sk_E → Bool) (k c : Nat) (h1 : ((z.drop k).take c).all f = true) (h2 : (z.drop (k + c)).all f = true) : (z.drop k).all f = true := by
  have h3 : z.drop k = (z.drop k).take c ++ z.drop (k + c) := by
    rw [← List.drop_drop]
    exact (List.take_append_drop c (z.drop k)).symm
  rw [h3, List.all_append, h1, h2]
  rfl
theorem sk_drop_nil (z : List (Nat × sk_E)) (f : Nat × sk_E → Bool) (k : Nat) (h : z.drop k = []) : (z.drop k).all f = true := by
  rw [h]
  rfl

set_option maxRecDepth 1000000 in
theorem tk_Ac_init : z_Ac_init.all (fun e => sk_ok sk_rec 0 e.1 e.2) = true := by decide +kernel
set_option maxRecDepth 1000000 in
theorem tk_Ac_forget : z_Ac_forget.all (fun e => sk_ok sk_rec 1 e.1 e.2) = true := by decide +kernel
set_option maxRecDepth 1000000 in
theorem tk_Ac_keep_0 : ((z_Ac_keep.drop 0).take 25).all (fun e => sk_ok sk_rec 2 e.1 e.2) = true := by decide +kernel
set_option maxRecDepth 1000000 in
theorem tk_Ac_keep_25 : ((z_Ac_keep.drop 25).take 25).all (fun e => sk_ok sk_rec 2 e.1 e.2) = true := by decide +kernel
set_option maxRecDepth 1000000 in
theorem tk_Ac_keep : z_Ac_keep.all (fun e => sk_ok sk_rec 2 e.1 e.2) = true := sk_take_drop z_Ac_keep (fun e => sk_ok sk_rec 2 e.1 e.2) 0 25 tk_Ac_keep_0 (sk_take_drop z_Ac_keep (fun e => sk_ok sk_rec 2 e.1 e.2) 25 25 tk_Ac_keep_25 (sk_drop_nil z_Ac_keep (fun e => sk_ok sk_rec 2 e.1 e.2) 50 rfl))
set_option maxRecDepth 1000000 in
theorem tk_Ac_takeBack_0 : ((z_Ac_takeBack.drop 0).take 25).all (fun e => sk_ok sk_rec 3 e.1 e.2) = true := by decide +kernel
set_option maxRecDepth 1000000 in
theorem tk_Ac_takeBack_25 : ((z_Ac_takeBack.drop 25).take 25).all (fun e => sk_ok sk_rec 3 e.1 e.2) = true := by decide +kernel
set_option maxRecDepth 1000000 in
theorem tk_Ac_takeBack : z_Ac_takeBack.all (fun e => sk_ok sk_rec 3 e.1 e.2) = true := sk_take_drop z_Ac_takeBack (fun e => sk_ok sk_rec 3 e.1 e.2) 0 25 tk_Ac_takeBack_0 (sk_take_drop z_Ac_takeBack (fun e => sk_ok sk_rec 3 e.1 e.2) 25 25 tk_Ac_takeBack_25 (sk_drop_nil z_Ac_takeBack (fun e => sk_ok sk_rec 3 e.1 e.2) 50 rfl))
set_option maxRecDepth 1000000 in
theorem tk_Al_init_0 : ((z_Al_init.drop 0).take 25).all (fun e => sk_ok sk_rec 4 e.1 e.2) = true := by decide +kernel
set_option maxRecDepth 1000000 in
theorem tk_Al_init_25 : ((z_Al_init.drop 25).take 25).all (fun e => sk_ok sk_rec 4 e.1 e.2) = true := by decide +kernel
set_option maxRecDepth 1000000 in
theorem tk_Al_init : z_Al_init.all (fun e => sk_ok sk_rec 4 e.1 e.2) = true := sk_take_drop z_Al_init (fun e => sk_ok sk_rec 4 e.1 e.2) 0 25 tk_Al_init_0 (sk_take_drop z_Al_init (fun e => sk_ok sk_rec 4 e.1 e.2) 25 25 tk_Al_init_25 (sk_drop_nil z_Al_init (fun e => sk_ok sk_rec 4 e.1 e.2) 50 rfl))
set_option maxRecDepth 1000000 in
theorem tk_Al_addPlace_0 : ((z_Al_addPlace.drop 0).take 25).all (fun e => sk_ok sk_rec 5 e.1 e.2) = true := by decide +kernel
set_option maxRecDepth 1000000 in
theorem tk_Al_addPlace_25 : ((z_Al_addPlace.drop 25).take 25).all (fun e => sk_ok sk_rec 5 e.1 e.2) = true := by decide +kernel
set_option maxRecDepth 1000000 in
theorem tk_Al_addPlace : z_Al_addPlace.all (fun e => sk_ok sk_rec 5 e.1 e.2) = true := sk_take_drop z_Al_addPlace (fun e => sk_ok sk_rec 5 e.1 e.2) 0 25 tk_Al_addPlace_0 (sk_take_drop z_Al_addPlace (fun e => sk_ok sk_rec 5 e.1 e.2) 25 25 tk_Al_addPlace_25 (sk_drop_nil z_Al_addPlace (fun e => sk_ok sk_rec 5 e.1 e.2) 50 rfl))
set_option maxRecDepth 1000000 in
theorem tk_Al_settle_0 : ((z_Al_settle.drop 0).take 25).all (fun e => sk_ok sk_rec 6 e.1 e.2) = true := by decide +kernel
set_option maxRecDepth 1000000 in
theorem tk_Al_settle_25 : ((z_Al_settle.drop 25).take 25).all (fun e => sk_ok sk_rec 6 e.1 e.2) = true := by decide +kernel
set_option maxRecDepth 1000000 in
theorem tk_Al_settle_50 : ((z_Al_settle.drop 50).take 25).all (fun e => sk_ok sk_rec 6 e.1 e.2) = true := by decide +kernel
set_option maxRecDepth 1000000 in
theorem tk_Al_settle_75 : ((z_Al_settle.drop 75).take 25).all (fun e => sk_ok sk_rec 6 e.1 e.2) = true := by decide +kernel
set_option maxRecDepth 1000000 in
theorem tk_Al_settle : z_Al_settle.all (fun e => sk_ok sk_rec 6 e.1 e.2) = true := sk_take_drop z_Al_settle (fun e => sk_ok sk_rec 6 e.1 e.2) 0 25 tk_Al_settle_0 (sk_take_drop z_Al_settle (fun e => sk_ok sk_rec 6 e.1 e.2) 25 25 tk_Al_settle_25 (sk_take_drop z_Al_settle (fun e => sk_ok sk_rec 6 e.1 e.2) 50 25 tk_Al_settle_50 (sk_take_drop z_Al_settle (fun e => sk_ok sk_rec 6 e.1 e.2) 75 25 tk_Al_settle_75 (sk_drop_nil z_Al_settle (fun e => sk_ok sk_rec 6 e.1 e.2) 100 rfl))))
set_option maxRecDepth 1000000 in
theorem tk_Al_listStrokes_0 : ((z_Al_listStrokes.drop 0).take 25).all (fun e => sk_ok sk_rec 7 e.1 e.2) = true := by decide +kernel
set_option maxRecDepth 1000000 in
theorem tk_Al_listStrokes_25 : ((z_Al_listStrokes.drop 25).take 25).all (fun e => sk_ok sk_rec 7 e.1 e.2) = true := by decide +kernel
set_option maxRecDepth 1000000 in
theorem tk_Al_listStrokes_50 : ((z_Al_listStrokes.drop 50).take 25).all (fun e => sk_ok sk_rec 7 e.1 e.2) = true := by decide +kernel
set_option maxRecDepth 1000000 in
theorem tk_Al_listStrokes_75 : ((z_Al_listStrokes.drop 75).take 25).all (fun e => sk_ok sk_rec 7 e.1 e.2) = true := by decide +kernel
set_option maxRecDepth 1000000 in
theorem tk_Al_listStrokes : z_Al_listStrokes.all (fun e => sk_ok sk_rec 7 e.1 e.2) = true := sk_take_drop z_Al_listStrokes (fun e => sk_ok sk_rec 7 e.1 e.2) 0 25 tk_Al_listStrokes_0 (sk_take_drop z_Al_listStrokes (fun e => sk_ok sk_rec 7 e.1 e.2) 25 25 tk_Al_listStrokes_25 (sk_take_drop z_Al_listStrokes (fun e => sk_ok sk_rec 7 e.1 e.2) 50 25 tk_Al_listStrokes_50 (sk_take_drop z_Al_listStrokes (fun e => sk_ok sk_rec 7 e.1 e.2) 75 25 tk_Al_listStrokes_75 (sk_drop_nil z_Al_listStrokes (fun e => sk_ok sk_rec 7 e.1 e.2) 100 rfl))))
set_option maxRecDepth 1000000 in
theorem tk_Al_chosen_0 : ((z_Al_chosen.drop 0).take 25).all (fun e => sk_ok sk_rec 8 e.1 e.2) = true := by decide +kernel
set_option maxRecDepth 1000000 in
theorem tk_Al_chosen_25 : ((z_Al_chosen.drop 25).take 25).all (fun e => sk_ok sk_rec 8 e.1 e.2) = true := by decide +kernel
set_option maxRecDepth 1000000 in
theorem tk_Al_chosen : z_Al_chosen.all (fun e => sk_ok sk_rec 8 e.1 e.2) = true := sk_take_drop z_Al_chosen (fun e => sk_ok sk_rec 8 e.1 e.2) 0 25 tk_Al_chosen_0 (sk_take_drop z_Al_chosen (fun e => sk_ok sk_rec 8 e.1 e.2) 25 25 tk_Al_chosen_25 (sk_drop_nil z_Al_chosen (fun e => sk_ok sk_rec 8 e.1 e.2) 50 rfl))
set_option maxRecDepth 1000000 in
theorem tk_Al_hasHit : z_Al_hasHit.all (fun e => sk_ok sk_rec 9 e.1 e.2) = true := by decide +kernel
set_option maxRecDepth 1000000 in
theorem tk_Al_bitOf : z_Al_bitOf.all (fun e => sk_ok sk_rec 10 e.1 e.2) = true := by decide +kernel
set_option maxRecDepth 1000000 in
theorem tk_Al_allows : z_Al_allows.all (fun e => sk_ok sk_rec 11 e.1 e.2) = true := by decide +kernel
set_option maxRecDepth 1000000 in
theorem tk_Al_strokeOf_0 : ((z_Al_strokeOf.drop 0).take 25).all (fun e => sk_ok sk_rec 12 e.1 e.2) = true := by decide +kernel
set_option maxRecDepth 1000000 in
theorem tk_Al_strokeOf_25 : ((z_Al_strokeOf.drop 25).take 25).all (fun e => sk_ok sk_rec 12 e.1 e.2) = true := by decide +kernel
set_option maxRecDepth 1000000 in
theorem tk_Al_strokeOf : z_Al_strokeOf.all (fun e => sk_ok sk_rec 12 e.1 e.2) = true := sk_take_drop z_Al_strokeOf (fun e => sk_ok sk_rec 12 e.1 e.2) 0 25 tk_Al_strokeOf_0 (sk_take_drop z_Al_strokeOf (fun e => sk_ok sk_rec 12 e.1 e.2) 25 25 tk_Al_strokeOf_25 (sk_drop_nil z_Al_strokeOf (fun e => sk_ok sk_rec 12 e.1 e.2) 50 rfl))
set_option maxRecDepth 1000000 in
theorem tk_Al_plainLeavings_0 : ((z_Al_plainLeavings.drop 0).take 25).all (fun e => sk_ok sk_rec 13 e.1 e.2) = true := by decide +kernel
set_option maxRecDepth 1000000 in
theorem tk_Al_plainLeavings_25 : ((z_Al_plainLeavings.drop 25).take 25).all (fun e => sk_ok sk_rec 13 e.1 e.2) = true := by decide +kernel
set_option maxRecDepth 1000000 in
theorem tk_Al_plainLeavings_50 : ((z_Al_plainLeavings.drop 50).take 25).all (fun e => sk_ok sk_rec 13 e.1 e.2) = true := by decide +kernel
set_option maxRecDepth 1000000 in
theorem tk_Al_plainLeavings : z_Al_plainLeavings.all (fun e => sk_ok sk_rec 13 e.1 e.2) = true := sk_take_drop z_Al_plainLeavings (fun e => sk_ok sk_rec 13 e.1 e.2) 0 25 tk_Al_plainLeavings_0 (sk_take_drop z_Al_plainLeavings (fun e => sk_ok sk_rec 13 e.1 e.2) 25 25 tk_Al_plainLeavings_25 (sk_take_drop z_Al_plainLeavings (fun e => sk_ok sk_rec 13 e.1 e.2) 50 25 tk_Al_plainLeavings_50 (sk_drop_nil z_Al_plainLeavings (fun e => sk_ok sk_rec 13 e.1 e.2) 75 rfl)))
set_option maxRecDepth 1000000 in
theorem tk_Al_leastLeftOut : z_Al_leastLeftOut.all (fun e => sk_ok sk_rec 14 e.1 e.2) = true := by decide +kernel
set_option maxRecDepth 1000000 in
theorem tk_Al_isWholeRing_0 : ((z_Al_isWholeRing.drop 0).take 25).all (fun e => sk_ok sk_rec 15 e.1 e.2) = true := by decide +kernel
set_option maxRecDepth 1000000 in
theorem tk_Al_isWholeRing_25 : ((z_Al_isWholeRing.drop 25).take 25).all (fun e => sk_ok sk_rec 15 e.1 e.2) = true := by decide +kernel
set_option maxRecDepth 1000000 in
theorem tk_Al_isWholeRing : z_Al_isWholeRing.all (fun e => sk_ok sk_rec 15 e.1 e.2) = true := sk_take_drop z_Al_isWholeRing (fun e => sk_ok sk_rec 15 e.1 e.2) 0 25 tk_Al_isWholeRing_0 (sk_take_drop z_Al_isWholeRing (fun e => sk_ok sk_rec 15 e.1 e.2) 25 25 tk_Al_isWholeRing_25 (sk_drop_nil z_Al_isWholeRing (fun e => sk_ok sk_rec 15 e.1 e.2) 50 rfl))
set_option maxRecDepth 1000000 in
theorem tk_Al_runFrom_0 : ((z_Al_runFrom.drop 0).take 25).all (fun e => sk_ok sk_rec 16 e.1 e.2) = true := by decide +kernel
set_option maxRecDepth 1000000 in
theorem tk_Al_runFrom_25 : ((z_Al_runFrom.drop 25).take 25).all (fun e => sk_ok sk_rec 16 e.1 e.2) = true := by decide +kernel
set_option maxRecDepth 1000000 in
theorem tk_Al_runFrom_50 : ((z_Al_runFrom.drop 50).take 25).all (fun e => sk_ok sk_rec 16 e.1 e.2) = true := by decide +kernel
set_option maxRecDepth 1000000 in
theorem tk_Al_runFrom : z_Al_runFrom.all (fun e => sk_ok sk_rec 16 e.1 e.2) = true := sk_take_drop z_Al_runFrom (fun e => sk_ok sk_rec 16 e.1 e.2) 0 25 tk_Al_runFrom_0 (sk_take_drop z_Al_runFrom (fun e => sk_ok sk_rec 16 e.1 e.2) 25 25 tk_Al_runFrom_25 (sk_take_drop z_Al_runFrom (fun e => sk_ok sk_rec 16 e.1 e.2) 50 25 tk_Al_runFrom_50 (sk_drop_nil z_Al_runFrom (fun e => sk_ok sk_rec 16 e.1 e.2) 75 rfl)))
set_option maxRecDepth 1000000 in
theorem tk_Al_rowWorth_0 : ((z_Al_rowWorth.drop 0).take 25).all (fun e => sk_ok sk_rec 17 e.1 e.2) = true := by decide +kernel
set_option maxRecDepth 1000000 in
theorem tk_Al_rowWorth_25 : ((z_Al_rowWorth.drop 25).take 25).all (fun e => sk_ok sk_rec 17 e.1 e.2) = true := by decide +kernel
set_option maxRecDepth 1000000 in
theorem tk_Al_rowWorth : z_Al_rowWorth.all (fun e => sk_ok sk_rec 17 e.1 e.2) = true := sk_take_drop z_Al_rowWorth (fun e => sk_ok sk_rec 17 e.1 e.2) 0 25 tk_Al_rowWorth_0 (sk_take_drop z_Al_rowWorth (fun e => sk_ok sk_rec 17 e.1 e.2) 25 25 tk_Al_rowWorth_25 (sk_drop_nil z_Al_rowWorth (fun e => sk_ok sk_rec 17 e.1 e.2) 50 rfl))
set_option maxRecDepth 1000000 in
theorem tk_Al_ringLeavings_0 : ((z_Al_ringLeavings.drop 0).take 25).all (fun e => sk_ok sk_rec 18 e.1 e.2) = true := by decide +kernel
set_option maxRecDepth 1000000 in
theorem tk_Al_ringLeavings_25 : ((z_Al_ringLeavings.drop 25).take 25).all (fun e => sk_ok sk_rec 18 e.1 e.2) = true := by decide +kernel
set_option maxRecDepth 1000000 in
theorem tk_Al_ringLeavings : z_Al_ringLeavings.all (fun e => sk_ok sk_rec 18 e.1 e.2) = true := sk_take_drop z_Al_ringLeavings (fun e => sk_ok sk_rec 18 e.1 e.2) 0 25 tk_Al_ringLeavings_0 (sk_take_drop z_Al_ringLeavings (fun e => sk_ok sk_rec 18 e.1 e.2) 25 25 tk_Al_ringLeavings_25 (sk_drop_nil z_Al_ringLeavings (fun e => sk_ok sk_rec 18 e.1 e.2) 50 rfl))
set_option maxRecDepth 1000000 in
theorem tk_Al_sameFrom_0 : ((z_Al_sameFrom.drop 0).take 25).all (fun e => sk_ok sk_rec 19 e.1 e.2) = true := by decide +kernel
set_option maxRecDepth 1000000 in
theorem tk_Al_sameFrom_25 : ((z_Al_sameFrom.drop 25).take 25).all (fun e => sk_ok sk_rec 19 e.1 e.2) = true := by decide +kernel
set_option maxRecDepth 1000000 in
theorem tk_Al_sameFrom : z_Al_sameFrom.all (fun e => sk_ok sk_rec 19 e.1 e.2) = true := sk_take_drop z_Al_sameFrom (fun e => sk_ok sk_rec 19 e.1 e.2) 0 25 tk_Al_sameFrom_0 (sk_take_drop z_Al_sameFrom (fun e => sk_ok sk_rec 19 e.1 e.2) 25 25 tk_Al_sameFrom_25 (sk_drop_nil z_Al_sameFrom (fun e => sk_ok sk_rec 19 e.1 e.2) 50 rfl))
set_option maxRecDepth 1000000 in
theorem tk_Al_number_0 : ((z_Al_number.drop 0).take 25).all (fun e => sk_ok sk_rec 20 e.1 e.2) = true := by decide +kernel
set_option maxRecDepth 1000000 in
theorem tk_Al_number_25 : ((z_Al_number.drop 25).take 25).all (fun e => sk_ok sk_rec 20 e.1 e.2) = true := by decide +kernel
set_option maxRecDepth 1000000 in
theorem tk_Al_number : z_Al_number.all (fun e => sk_ok sk_rec 20 e.1 e.2) = true := sk_take_drop z_Al_number (fun e => sk_ok sk_rec 20 e.1 e.2) 0 25 tk_Al_number_0 (sk_take_drop z_Al_number (fun e => sk_ok sk_rec 20 e.1 e.2) 25 25 tk_Al_number_25 (sk_drop_nil z_Al_number (fun e => sk_ok sk_rec 20 e.1 e.2) 50 rfl))
set_option maxRecDepth 1000000 in
theorem tk_AR_init : z_AR_init.all (fun e => sk_ok sk_rec 21 e.1 e.2) = true := by decide +kernel
set_option maxRecDepth 1000000 in
theorem tk_AR_read : z_AR_read.all (fun e => sk_ok sk_rec 22 e.1 e.2) = true := by decide +kernel
set_option maxRecDepth 1000000 in
theorem tk_AR_readClause_0 : ((z_AR_readClause.drop 0).take 25).all (fun e => sk_ok sk_rec 23 e.1 e.2) = true := by decide +kernel
set_option maxRecDepth 1000000 in
theorem tk_AR_readClause_25 : ((z_AR_readClause.drop 25).take 25).all (fun e => sk_ok sk_rec 23 e.1 e.2) = true := by decide +kernel
set_option maxRecDepth 1000000 in
theorem tk_AR_readClause_50 : ((z_AR_readClause.drop 50).take 25).all (fun e => sk_ok sk_rec 23 e.1 e.2) = true := by decide +kernel
set_option maxRecDepth 1000000 in
theorem tk_AR_readClause : z_AR_readClause.all (fun e => sk_ok sk_rec 23 e.1 e.2) = true := sk_take_drop z_AR_readClause (fun e => sk_ok sk_rec 23 e.1 e.2) 0 25 tk_AR_readClause_0 (sk_take_drop z_AR_readClause (fun e => sk_ok sk_rec 23 e.1 e.2) 25 25 tk_AR_readClause_25 (sk_take_drop z_AR_readClause (fun e => sk_ok sk_rec 23 e.1 e.2) 50 25 tk_AR_readClause_50 (sk_drop_nil z_AR_readClause (fun e => sk_ok sk_rec 23 e.1 e.2) 75 rfl)))
set_option maxRecDepth 1000000 in
theorem tk_AR_isTooMany_0 : ((z_AR_isTooMany.drop 0).take 25).all (fun e => sk_ok sk_rec 24 e.1 e.2) = true := by decide +kernel
set_option maxRecDepth 1000000 in
theorem tk_AR_isTooMany_25 : ((z_AR_isTooMany.drop 25).take 25).all (fun e => sk_ok sk_rec 24 e.1 e.2) = true := by decide +kernel
set_option maxRecDepth 1000000 in
theorem tk_AR_isTooMany : z_AR_isTooMany.all (fun e => sk_ok sk_rec 24 e.1 e.2) = true := sk_take_drop z_AR_isTooMany (fun e => sk_ok sk_rec 24 e.1 e.2) 0 25 tk_AR_isTooMany_0 (sk_take_drop z_AR_isTooMany (fun e => sk_ok sk_rec 24 e.1 e.2) 25 25 tk_AR_isTooMany_25 (sk_drop_nil z_AR_isTooMany (fun e => sk_ok sk_rec 24 e.1 e.2) 50 rfl))
set_option maxRecDepth 1000000 in
theorem tk_AR_readRow_0 : ((z_AR_readRow.drop 0).take 25).all (fun e => sk_ok sk_rec 25 e.1 e.2) = true := by decide +kernel
set_option maxRecDepth 1000000 in
theorem tk_AR_readRow_25 : ((z_AR_readRow.drop 25).take 25).all (fun e => sk_ok sk_rec 25 e.1 e.2) = true := by decide +kernel
set_option maxRecDepth 1000000 in
theorem tk_AR_readRow_50 : ((z_AR_readRow.drop 50).take 25).all (fun e => sk_ok sk_rec 25 e.1 e.2) = true := by decide +kernel
set_option maxRecDepth 1000000 in
theorem tk_AR_readRow_75 : ((z_AR_readRow.drop 75).take 25).all (fun e => sk_ok sk_rec 25 e.1 e.2) = true := by decide +kernel
set_option maxRecDepth 1000000 in
theorem tk_AR_readRow : z_AR_readRow.all (fun e => sk_ok sk_rec 25 e.1 e.2) = true := sk_take_drop z_AR_readRow (fun e => sk_ok sk_rec 25 e.1 e.2) 0 25 tk_AR_readRow_0 (sk_take_drop z_AR_readRow (fun e => sk_ok sk_rec 25 e.1 e.2) 25 25 tk_AR_readRow_25 (sk_take_drop z_AR_readRow (fun e => sk_ok sk_rec 25 e.1 e.2) 50 25 tk_AR_readRow_50 (sk_take_drop z_AR_readRow (fun e => sk_ok sk_rec 25 e.1 e.2) 75 25 tk_AR_readRow_75 (sk_drop_nil z_AR_readRow (fun e => sk_ok sk_rec 25 e.1 e.2) 100 rfl))))
set_option maxRecDepth 1000000 in
theorem tk_AR_isPlace : z_AR_isPlace.all (fun e => sk_ok sk_rec 26 e.1 e.2) = true := by decide +kernel
set_option maxRecDepth 1000000 in
theorem tk_AR_readRing_0 : ((z_AR_readRing.drop 0).take 25).all (fun e => sk_ok sk_rec 27 e.1 e.2) = true := by decide +kernel
set_option maxRecDepth 1000000 in
theorem tk_AR_readRing_25 : ((z_AR_readRing.drop 25).take 25).all (fun e => sk_ok sk_rec 27 e.1 e.2) = true := by decide +kernel
set_option maxRecDepth 1000000 in
theorem tk_AR_readRing : z_AR_readRing.all (fun e => sk_ok sk_rec 27 e.1 e.2) = true := sk_take_drop z_AR_readRing (fun e => sk_ok sk_rec 27 e.1 e.2) 0 25 tk_AR_readRing_0 (sk_take_drop z_AR_readRing (fun e => sk_ok sk_rec 27 e.1 e.2) 25 25 tk_AR_readRing_25 (sk_drop_nil z_AR_readRing (fun e => sk_ok sk_rec 27 e.1 e.2) 50 rfl))
set_option maxRecDepth 1000000 in
theorem tk_AR_readHit : z_AR_readHit.all (fun e => sk_ok sk_rec 28 e.1 e.2) = true := by decide +kernel
set_option maxRecDepth 1000000 in
theorem tk_Bo_init : z_Bo_init.all (fun e => sk_ok sk_rec 29 e.1 e.2) = true := by decide +kernel
set_option maxRecDepth 1000000 in
theorem tk_Bo_playTimes_0 : ((z_Bo_playTimes.drop 0).take 25).all (fun e => sk_ok sk_rec 30 e.1 e.2) = true := by decide +kernel
set_option maxRecDepth 1000000 in
theorem tk_Bo_playTimes_25 : ((z_Bo_playTimes.drop 25).take 25).all (fun e => sk_ok sk_rec 30 e.1 e.2) = true := by decide +kernel
set_option maxRecDepth 1000000 in
theorem tk_Bo_playTimes_50 : ((z_Bo_playTimes.drop 50).take 25).all (fun e => sk_ok sk_rec 30 e.1 e.2) = true := by decide +kernel
set_option maxRecDepth 1000000 in
theorem tk_Bo_playTimes : z_Bo_playTimes.all (fun e => sk_ok sk_rec 30 e.1 e.2) = true := sk_take_drop z_Bo_playTimes (fun e => sk_ok sk_rec 30 e.1 e.2) 0 25 tk_Bo_playTimes_0 (sk_take_drop z_Bo_playTimes (fun e => sk_ok sk_rec 30 e.1 e.2) 25 25 tk_Bo_playTimes_25 (sk_take_drop z_Bo_playTimes (fun e => sk_ok sk_rec 30 e.1 e.2) 50 25 tk_Bo_playTimes_50 (sk_drop_nil z_Bo_playTimes (fun e => sk_ok sk_rec 30 e.1 e.2) 75 rfl)))
set_option maxRecDepth 1000000 in
theorem tk_Bo_playOut_0 : ((z_Bo_playOut.drop 0).take 25).all (fun e => sk_ok sk_rec 31 e.1 e.2) = true := by decide +kernel
set_option maxRecDepth 1000000 in
theorem tk_Bo_playOut_25 : ((z_Bo_playOut.drop 25).take 25).all (fun e => sk_ok sk_rec 31 e.1 e.2) = true := by decide +kernel
set_option maxRecDepth 1000000 in
theorem tk_Bo_playOut_50 : ((z_Bo_playOut.drop 50).take 25).all (fun e => sk_ok sk_rec 31 e.1 e.2) = true := by decide +kernel
set_option maxRecDepth 1000000 in
theorem tk_Bo_playOut : z_Bo_playOut.all (fun e => sk_ok sk_rec 31 e.1 e.2) = true := sk_take_drop z_Bo_playOut (fun e => sk_ok sk_rec 31 e.1 e.2) 0 25 tk_Bo_playOut_0 (sk_take_drop z_Bo_playOut (fun e => sk_ok sk_rec 31 e.1 e.2) 25 25 tk_Bo_playOut_25 (sk_take_drop z_Bo_playOut (fun e => sk_ok sk_rec 31 e.1 e.2) 50 25 tk_Bo_playOut_50 (sk_drop_nil z_Bo_playOut (fun e => sk_ok sk_rec 31 e.1 e.2) 75 rfl)))
set_option maxRecDepth 1000000 in
theorem tk_Bo_bestBy_0 : ((z_Bo_bestBy.drop 0).take 25).all (fun e => sk_ok sk_rec 32 e.1 e.2) = true := by decide +kernel
set_option maxRecDepth 1000000 in
theorem tk_Bo_bestBy_25 : ((z_Bo_bestBy.drop 25).take 25).all (fun e => sk_ok sk_rec 32 e.1 e.2) = true := by decide +kernel
set_option maxRecDepth 1000000 in
theorem tk_Bo_bestBy_50 : ((z_Bo_bestBy.drop 50).take 25).all (fun e => sk_ok sk_rec 32 e.1 e.2) = true := by decide +kernel
set_option maxRecDepth 1000000 in
theorem tk_Bo_bestBy : z_Bo_bestBy.all (fun e => sk_ok sk_rec 32 e.1 e.2) = true := sk_take_drop z_Bo_bestBy (fun e => sk_ok sk_rec 32 e.1 e.2) 0 25 tk_Bo_bestBy_0 (sk_take_drop z_Bo_bestBy (fun e => sk_ok sk_rec 32 e.1 e.2) 25 25 tk_Bo_bestBy_25 (sk_take_drop z_Bo_bestBy (fun e => sk_ok sk_rec 32 e.1 e.2) 50 25 tk_Bo_bestBy_50 (sk_drop_nil z_Bo_bestBy (fun e => sk_ok sk_rec 32 e.1 e.2) 75 rfl)))
set_option maxRecDepth 1000000 in
theorem tk_Bo_drawn_0 : ((z_Bo_drawn.drop 0).take 25).all (fun e => sk_ok sk_rec 33 e.1 e.2) = true := by decide +kernel
set_option maxRecDepth 1000000 in
theorem tk_Bo_drawn_25 : ((z_Bo_drawn.drop 25).take 25).all (fun e => sk_ok sk_rec 33 e.1 e.2) = true := by decide +kernel
set_option maxRecDepth 1000000 in
theorem tk_Bo_drawn_50 : ((z_Bo_drawn.drop 50).take 25).all (fun e => sk_ok sk_rec 33 e.1 e.2) = true := by decide +kernel
set_option maxRecDepth 1000000 in
theorem tk_Bo_drawn_75 : ((z_Bo_drawn.drop 75).take 25).all (fun e => sk_ok sk_rec 33 e.1 e.2) = true := by decide +kernel
set_option maxRecDepth 1000000 in
theorem tk_Bo_drawn : z_Bo_drawn.all (fun e => sk_ok sk_rec 33 e.1 e.2) = true := sk_take_drop z_Bo_drawn (fun e => sk_ok sk_rec 33 e.1 e.2) 0 25 tk_Bo_drawn_0 (sk_take_drop z_Bo_drawn (fun e => sk_ok sk_rec 33 e.1 e.2) 25 25 tk_Bo_drawn_25 (sk_take_drop z_Bo_drawn (fun e => sk_ok sk_rec 33 e.1 e.2) 50 25 tk_Bo_drawn_50 (sk_take_drop z_Bo_drawn (fun e => sk_ok sk_rec 33 e.1 e.2) 75 25 tk_Bo_drawn_75 (sk_drop_nil z_Bo_drawn (fun e => sk_ok sk_rec 33 e.1 e.2) 100 rfl))))
set_option maxRecDepth 1000000 in
theorem tk_Lo_init : z_Lo_init.all (fun e => sk_ok sk_rec 34 e.1 e.2) = true := by decide +kernel
set_option maxRecDepth 1000000 in
theorem tk_Lo_word : z_Lo_word.all (fun e => sk_ok sk_rec 35 e.1 e.2) = true := by decide +kernel
set_option maxRecDepth 1000000 in
theorem tk_Lo_lookAt_0 : ((z_Lo_lookAt.drop 0).take 25).all (fun e => sk_ok sk_rec 36 e.1 e.2) = true := by decide +kernel
set_option maxRecDepth 1000000 in
theorem tk_Lo_lookAt_25 : ((z_Lo_lookAt.drop 25).take 25).all (fun e => sk_ok sk_rec 36 e.1 e.2) = true := by decide +kernel
set_option maxRecDepth 1000000 in
theorem tk_Lo_lookAt_50 : ((z_Lo_lookAt.drop 50).take 25).all (fun e => sk_ok sk_rec 36 e.1 e.2) = true := by decide +kernel
set_option maxRecDepth 1000000 in
theorem tk_Lo_lookAt_75 : ((z_Lo_lookAt.drop 75).take 25).all (fun e => sk_ok sk_rec 36 e.1 e.2) = true := by decide +kernel
set_option maxRecDepth 1000000 in
theorem tk_Lo_lookAt : z_Lo_lookAt.all (fun e => sk_ok sk_rec 36 e.1 e.2) = true := sk_take_drop z_Lo_lookAt (fun e => sk_ok sk_rec 36 e.1 e.2) 0 25 tk_Lo_lookAt_0 (sk_take_drop z_Lo_lookAt (fun e => sk_ok sk_rec 36 e.1 e.2) 25 25 tk_Lo_lookAt_25 (sk_take_drop z_Lo_lookAt (fun e => sk_ok sk_rec 36 e.1 e.2) 50 25 tk_Lo_lookAt_50 (sk_take_drop z_Lo_lookAt (fun e => sk_ok sk_rec 36 e.1 e.2) 75 25 tk_Lo_lookAt_75 (sk_drop_nil z_Lo_lookAt (fun e => sk_ok sk_rec 36 e.1 e.2) 100 rfl))))
set_option maxRecDepth 1000000 in
theorem tk_Lo_countRuns_0 : ((z_Lo_countRuns.drop 0).take 25).all (fun e => sk_ok sk_rec 37 e.1 e.2) = true := by decide +kernel
set_option maxRecDepth 1000000 in
theorem tk_Lo_countRuns_25 : ((z_Lo_countRuns.drop 25).take 25).all (fun e => sk_ok sk_rec 37 e.1 e.2) = true := by decide +kernel
set_option maxRecDepth 1000000 in
theorem tk_Lo_countRuns_50 : ((z_Lo_countRuns.drop 50).take 25).all (fun e => sk_ok sk_rec 37 e.1 e.2) = true := by decide +kernel
set_option maxRecDepth 1000000 in
theorem tk_Lo_countRuns : z_Lo_countRuns.all (fun e => sk_ok sk_rec 37 e.1 e.2) = true := sk_take_drop z_Lo_countRuns (fun e => sk_ok sk_rec 37 e.1 e.2) 0 25 tk_Lo_countRuns_0 (sk_take_drop z_Lo_countRuns (fun e => sk_ok sk_rec 37 e.1 e.2) 25 25 tk_Lo_countRuns_25 (sk_take_drop z_Lo_countRuns (fun e => sk_ok sk_rec 37 e.1 e.2) 50 25 tk_Lo_countRuns_50 (sk_drop_nil z_Lo_countRuns (fun e => sk_ok sk_rec 37 e.1 e.2) 75 rfl)))
set_option maxRecDepth 1000000 in
theorem tk_Re_init : z_Re_init.all (fun e => sk_ok sk_rec 38 e.1 e.2) = true := by decide +kernel
set_option maxRecDepth 1000000 in
theorem tk_Re_sound : z_Re_sound.all (fun e => sk_ok sk_rec 39 e.1 e.2) = true := by decide +kernel
set_option maxRecDepth 1000000 in
theorem tk_Re_refuse : z_Re_refuse.all (fun e => sk_ok sk_rec 40 e.1 e.2) = true := by decide +kernel
set_option maxRecDepth 1000000 in
theorem tk_Re_look : z_Re_look.all (fun e => sk_ok sk_rec 41 e.1 e.2) = true := by decide +kernel
set_option maxRecDepth 1000000 in
theorem tk_Re_next_0 : ((z_Re_next.drop 0).take 25).all (fun e => sk_ok sk_rec 42 e.1 e.2) = true := by decide +kernel
set_option maxRecDepth 1000000 in
theorem tk_Re_next_25 : ((z_Re_next.drop 25).take 25).all (fun e => sk_ok sk_rec 42 e.1 e.2) = true := by decide +kernel
set_option maxRecDepth 1000000 in
theorem tk_Re_next : z_Re_next.all (fun e => sk_ok sk_rec 42 e.1 e.2) = true := sk_take_drop z_Re_next (fun e => sk_ok sk_rec 42 e.1 e.2) 0 25 tk_Re_next_0 (sk_take_drop z_Re_next (fun e => sk_ok sk_rec 42 e.1 e.2) 25 25 tk_Re_next_25 (sk_drop_nil z_Re_next (fun e => sk_ok sk_rec 42 e.1 e.2) 50 rfl))
set_option maxRecDepth 1000000 in
theorem tk_Re_takes : z_Re_takes.all (fun e => sk_ok sk_rec 43 e.1 e.2) = true := by decide +kernel
set_option maxRecDepth 1000000 in
theorem tk_Re_wordOf_0 : ((z_Re_wordOf.drop 0).take 25).all (fun e => sk_ok sk_rec 44 e.1 e.2) = true := by decide +kernel
set_option maxRecDepth 1000000 in
theorem tk_Re_wordOf_25 : ((z_Re_wordOf.drop 25).take 25).all (fun e => sk_ok sk_rec 44 e.1 e.2) = true := by decide +kernel
set_option maxRecDepth 1000000 in
theorem tk_Re_wordOf : z_Re_wordOf.all (fun e => sk_ok sk_rec 44 e.1 e.2) = true := sk_take_drop z_Re_wordOf (fun e => sk_ok sk_rec 44 e.1 e.2) 0 25 tk_Re_wordOf_0 (sk_take_drop z_Re_wordOf (fun e => sk_ok sk_rec 44 e.1 e.2) 25 25 tk_Re_wordOf_25 (sk_drop_nil z_Re_wordOf (fun e => sk_ok sk_rec 44 e.1 e.2) 50 rfl))
set_option maxRecDepth 1000000 in
theorem tk_Re_isWord_0 : ((z_Re_isWord.drop 0).take 25).all (fun e => sk_ok sk_rec 45 e.1 e.2) = true := by decide +kernel
set_option maxRecDepth 1000000 in
theorem tk_Re_isWord_25 : ((z_Re_isWord.drop 25).take 25).all (fun e => sk_ok sk_rec 45 e.1 e.2) = true := by decide +kernel
set_option maxRecDepth 1000000 in
theorem tk_Re_isWord_50 : ((z_Re_isWord.drop 50).take 25).all (fun e => sk_ok sk_rec 45 e.1 e.2) = true := by decide +kernel
set_option maxRecDepth 1000000 in
theorem tk_Re_isWord : z_Re_isWord.all (fun e => sk_ok sk_rec 45 e.1 e.2) = true := sk_take_drop z_Re_isWord (fun e => sk_ok sk_rec 45 e.1 e.2) 0 25 tk_Re_isWord_0 (sk_take_drop z_Re_isWord (fun e => sk_ok sk_rec 45 e.1 e.2) 25 25 tk_Re_isWord_25 (sk_take_drop z_Re_isWord (fun e => sk_ok sk_rec 45 e.1 e.2) 50 25 tk_Re_isWord_50 (sk_drop_nil z_Re_isWord (fun e => sk_ok sk_rec 45 e.1 e.2) 75 rfl)))
set_option maxRecDepth 1000000 in
theorem tk_Re_skipWord_0 : ((z_Re_skipWord.drop 0).take 25).all (fun e => sk_ok sk_rec 46 e.1 e.2) = true := by decide +kernel
set_option maxRecDepth 1000000 in
theorem tk_Re_skipWord_25 : ((z_Re_skipWord.drop 25).take 25).all (fun e => sk_ok sk_rec 46 e.1 e.2) = true := by decide +kernel
set_option maxRecDepth 1000000 in
theorem tk_Re_skipWord : z_Re_skipWord.all (fun e => sk_ok sk_rec 46 e.1 e.2) = true := sk_take_drop z_Re_skipWord (fun e => sk_ok sk_rec 46 e.1 e.2) 0 25 tk_Re_skipWord_0 (sk_take_drop z_Re_skipWord (fun e => sk_ok sk_rec 46 e.1 e.2) 25 25 tk_Re_skipWord_25 (sk_drop_nil z_Re_skipWord (fun e => sk_ok sk_rec 46 e.1 e.2) 50 rfl))
set_option maxRecDepth 1000000 in
theorem tk_Re_takesWord : z_Re_takesWord.all (fun e => sk_ok sk_rec 47 e.1 e.2) = true := by decide +kernel
set_option maxRecDepth 1000000 in
theorem tk_Re_isDigit : z_Re_isDigit.all (fun e => sk_ok sk_rec 48 e.1 e.2) = true := by decide +kernel
set_option maxRecDepth 1000000 in
theorem tk_Re_number_0 : ((z_Re_number.drop 0).take 25).all (fun e => sk_ok sk_rec 49 e.1 e.2) = true := by decide +kernel
set_option maxRecDepth 1000000 in
theorem tk_Re_number_25 : ((z_Re_number.drop 25).take 25).all (fun e => sk_ok sk_rec 49 e.1 e.2) = true := by decide +kernel
set_option maxRecDepth 1000000 in
theorem tk_Re_number_50 : ((z_Re_number.drop 50).take 25).all (fun e => sk_ok sk_rec 49 e.1 e.2) = true := by decide +kernel
set_option maxRecDepth 1000000 in
theorem tk_Re_number : z_Re_number.all (fun e => sk_ok sk_rec 49 e.1 e.2) = true := sk_take_drop z_Re_number (fun e => sk_ok sk_rec 49 e.1 e.2) 0 25 tk_Re_number_0 (sk_take_drop z_Re_number (fun e => sk_ok sk_rec 49 e.1 e.2) 25 25 tk_Re_number_25 (sk_take_drop z_Re_number (fun e => sk_ok sk_rec 49 e.1 e.2) 50 25 tk_Re_number_50 (sk_drop_nil z_Re_number (fun e => sk_ok sk_rec 49 e.1 e.2) 75 rfl)))
set_option maxRecDepth 1000000 in
theorem tk_Re_goesOn : z_Re_goesOn.all (fun e => sk_ok sk_rec 50 e.1 e.2) = true := by decide +kernel
set_option maxRecDepth 1000000 in
theorem tk_Ru_init : z_Ru_init.all (fun e => sk_ok sk_rec 51 e.1 e.2) = true := by decide +kernel
set_option maxRecDepth 1000000 in
theorem tk_Ru_addClause_0 : ((z_Ru_addClause.drop 0).take 25).all (fun e => sk_ok sk_rec 52 e.1 e.2) = true := by decide +kernel
set_option maxRecDepth 1000000 in
theorem tk_Ru_addClause_25 : ((z_Ru_addClause.drop 25).take 25).all (fun e => sk_ok sk_rec 52 e.1 e.2) = true := by decide +kernel
set_option maxRecDepth 1000000 in
theorem tk_Ru_addClause : z_Ru_addClause.all (fun e => sk_ok sk_rec 52 e.1 e.2) = true := sk_take_drop z_Ru_addClause (fun e => sk_ok sk_rec 52 e.1 e.2) 0 25 tk_Ru_addClause_0 (sk_take_drop z_Ru_addClause (fun e => sk_ok sk_rec 52 e.1 e.2) 25 25 tk_Ru_addClause_25 (sk_drop_nil z_Ru_addClause (fun e => sk_ok sk_rec 52 e.1 e.2) 50 rfl))
set_option maxRecDepth 1000000 in
theorem tk_Ru_settle_0 : ((z_Ru_settle.drop 0).take 25).all (fun e => sk_ok sk_rec 53 e.1 e.2) = true := by decide +kernel
set_option maxRecDepth 1000000 in
theorem tk_Ru_settle_25 : ((z_Ru_settle.drop 25).take 25).all (fun e => sk_ok sk_rec 53 e.1 e.2) = true := by decide +kernel
set_option maxRecDepth 1000000 in
theorem tk_Ru_settle : z_Ru_settle.all (fun e => sk_ok sk_rec 53 e.1 e.2) = true := sk_take_drop z_Ru_settle (fun e => sk_ok sk_rec 53 e.1 e.2) 0 25 tk_Ru_settle_0 (sk_take_drop z_Ru_settle (fun e => sk_ok sk_rec 53 e.1 e.2) 25 25 tk_Ru_settle_25 (sk_drop_nil z_Ru_settle (fun e => sk_ok sk_rec 53 e.1 e.2) 50 rfl))
set_option maxRecDepth 1000000 in
theorem tk_Ru_valueOf_0 : ((z_Ru_valueOf.drop 0).take 25).all (fun e => sk_ok sk_rec 54 e.1 e.2) = true := by decide +kernel
set_option maxRecDepth 1000000 in
theorem tk_Ru_valueOf_25 : ((z_Ru_valueOf.drop 25).take 25).all (fun e => sk_ok sk_rec 54 e.1 e.2) = true := by decide +kernel
set_option maxRecDepth 1000000 in
theorem tk_Ru_valueOf_50 : ((z_Ru_valueOf.drop 50).take 25).all (fun e => sk_ok sk_rec 54 e.1 e.2) = true := by decide +kernel
set_option maxRecDepth 1000000 in
theorem tk_Ru_valueOf : z_Ru_valueOf.all (fun e => sk_ok sk_rec 54 e.1 e.2) = true := sk_take_drop z_Ru_valueOf (fun e => sk_ok sk_rec 54 e.1 e.2) 0 25 tk_Ru_valueOf_0 (sk_take_drop z_Ru_valueOf (fun e => sk_ok sk_rec 54 e.1 e.2) 25 25 tk_Ru_valueOf_25 (sk_take_drop z_Ru_valueOf (fun e => sk_ok sk_rec 54 e.1 e.2) 50 25 tk_Ru_valueOf_50 (sk_drop_nil z_Ru_valueOf (fun e => sk_ok sk_rec 54 e.1 e.2) 75 rfl)))
set_option maxRecDepth 1000000 in
theorem tk_Ru_reckon_0 : ((z_Ru_reckon.drop 0).take 25).all (fun e => sk_ok sk_rec 55 e.1 e.2) = true := by decide +kernel
set_option maxRecDepth 1000000 in
theorem tk_Ru_reckon_25 : ((z_Ru_reckon.drop 25).take 25).all (fun e => sk_ok sk_rec 55 e.1 e.2) = true := by decide +kernel
set_option maxRecDepth 1000000 in
theorem tk_Ru_reckon_50 : ((z_Ru_reckon.drop 50).take 25).all (fun e => sk_ok sk_rec 55 e.1 e.2) = true := by decide +kernel
set_option maxRecDepth 1000000 in
theorem tk_Ru_reckon_75 : ((z_Ru_reckon.drop 75).take 25).all (fun e => sk_ok sk_rec 55 e.1 e.2) = true := by decide +kernel
set_option maxRecDepth 1000000 in
theorem tk_Ru_reckon : z_Ru_reckon.all (fun e => sk_ok sk_rec 55 e.1 e.2) = true := sk_take_drop z_Ru_reckon (fun e => sk_ok sk_rec 55 e.1 e.2) 0 25 tk_Ru_reckon_0 (sk_take_drop z_Ru_reckon (fun e => sk_ok sk_rec 55 e.1 e.2) 25 25 tk_Ru_reckon_25 (sk_take_drop z_Ru_reckon (fun e => sk_ok sk_rec 55 e.1 e.2) 50 25 tk_Ru_reckon_50 (sk_take_drop z_Ru_reckon (fun e => sk_ok sk_rec 55 e.1 e.2) 75 25 tk_Ru_reckon_75 (sk_drop_nil z_Ru_reckon (fun e => sk_ok sk_rec 55 e.1 e.2) 100 rfl))))
set_option maxRecDepth 1000000 in
theorem tk_Ru_join_0 : ((z_Ru_join.drop 0).take 25).all (fun e => sk_ok sk_rec 56 e.1 e.2) = true := by decide +kernel
set_option maxRecDepth 1000000 in
theorem tk_Ru_join_25 : ((z_Ru_join.drop 25).take 25).all (fun e => sk_ok sk_rec 56 e.1 e.2) = true := by decide +kernel
set_option maxRecDepth 1000000 in
theorem tk_Ru_join_50 : ((z_Ru_join.drop 50).take 25).all (fun e => sk_ok sk_rec 56 e.1 e.2) = true := by decide +kernel
set_option maxRecDepth 1000000 in
theorem tk_Ru_join_75 : ((z_Ru_join.drop 75).take 25).all (fun e => sk_ok sk_rec 56 e.1 e.2) = true := by decide +kernel
set_option maxRecDepth 1000000 in
theorem tk_Ru_join : z_Ru_join.all (fun e => sk_ok sk_rec 56 e.1 e.2) = true := sk_take_drop z_Ru_join (fun e => sk_ok sk_rec 56 e.1 e.2) 0 25 tk_Ru_join_0 (sk_take_drop z_Ru_join (fun e => sk_ok sk_rec 56 e.1 e.2) 25 25 tk_Ru_join_25 (sk_take_drop z_Ru_join (fun e => sk_ok sk_rec 56 e.1 e.2) 50 25 tk_Ru_join_50 (sk_take_drop z_Ru_join (fun e => sk_ok sk_rec 56 e.1 e.2) 75 25 tk_Ru_join_75 (sk_drop_nil z_Ru_join (fun e => sk_ok sk_rec 56 e.1 e.2) 100 rfl))))
set_option maxRecDepth 1000000 in
theorem tk_RR_init : z_RR_init.all (fun e => sk_ok sk_rec 57 e.1 e.2) = true := by decide +kernel
set_option maxRecDepth 1000000 in
theorem tk_RR_read_0 : ((z_RR_read.drop 0).take 25).all (fun e => sk_ok sk_rec 58 e.1 e.2) = true := by decide +kernel
set_option maxRecDepth 1000000 in
theorem tk_RR_read_25 : ((z_RR_read.drop 25).take 25).all (fun e => sk_ok sk_rec 58 e.1 e.2) = true := by decide +kernel
set_option maxRecDepth 1000000 in
theorem tk_RR_read : z_RR_read.all (fun e => sk_ok sk_rec 58 e.1 e.2) = true := sk_take_drop z_RR_read (fun e => sk_ok sk_rec 58 e.1 e.2) 0 25 tk_RR_read_0 (sk_take_drop z_RR_read (fun e => sk_ok sk_rec 58 e.1 e.2) 25 25 tk_RR_read_25 (sk_drop_nil z_RR_read (fun e => sk_ok sk_rec 58 e.1 e.2) 50 rfl))
set_option maxRecDepth 1000000 in
theorem tk_RR_readClause_0 : ((z_RR_readClause.drop 0).take 25).all (fun e => sk_ok sk_rec 59 e.1 e.2) = true := by decide +kernel
set_option maxRecDepth 1000000 in
theorem tk_RR_readClause_25 : ((z_RR_readClause.drop 25).take 25).all (fun e => sk_ok sk_rec 59 e.1 e.2) = true := by decide +kernel
set_option maxRecDepth 1000000 in
theorem tk_RR_readClause_50 : ((z_RR_readClause.drop 50).take 25).all (fun e => sk_ok sk_rec 59 e.1 e.2) = true := by decide +kernel
set_option maxRecDepth 1000000 in
theorem tk_RR_readClause : z_RR_readClause.all (fun e => sk_ok sk_rec 59 e.1 e.2) = true := sk_take_drop z_RR_readClause (fun e => sk_ok sk_rec 59 e.1 e.2) 0 25 tk_RR_readClause_0 (sk_take_drop z_RR_readClause (fun e => sk_ok sk_rec 59 e.1 e.2) 25 25 tk_RR_readClause_25 (sk_take_drop z_RR_readClause (fun e => sk_ok sk_rec 59 e.1 e.2) 50 25 tk_RR_readClause_50 (sk_drop_nil z_RR_readClause (fun e => sk_ok sk_rec 59 e.1 e.2) 75 rfl)))
set_option maxRecDepth 1000000 in
theorem tk_RR_readTest : z_RR_readTest.all (fun e => sk_ok sk_rec 60 e.1 e.2) = true := by decide +kernel
set_option maxRecDepth 1000000 in
theorem tk_RR_readPart : z_RR_readPart.all (fun e => sk_ok sk_rec 61 e.1 e.2) = true := by decide +kernel
set_option maxRecDepth 1000000 in
theorem tk_RR_readFact_0 : ((z_RR_readFact.drop 0).take 25).all (fun e => sk_ok sk_rec 62 e.1 e.2) = true := by decide +kernel
set_option maxRecDepth 1000000 in
theorem tk_RR_readFact_25 : ((z_RR_readFact.drop 25).take 25).all (fun e => sk_ok sk_rec 62 e.1 e.2) = true := by decide +kernel
set_option maxRecDepth 1000000 in
theorem tk_RR_readFact_50 : ((z_RR_readFact.drop 50).take 25).all (fun e => sk_ok sk_rec 62 e.1 e.2) = true := by decide +kernel
set_option maxRecDepth 1000000 in
theorem tk_RR_readFact_75 : ((z_RR_readFact.drop 75).take 25).all (fun e => sk_ok sk_rec 62 e.1 e.2) = true := by decide +kernel
set_option maxRecDepth 1000000 in
theorem tk_RR_readFact : z_RR_readFact.all (fun e => sk_ok sk_rec 62 e.1 e.2) = true := sk_take_drop z_RR_readFact (fun e => sk_ok sk_rec 62 e.1 e.2) 0 25 tk_RR_readFact_0 (sk_take_drop z_RR_readFact (fun e => sk_ok sk_rec 62 e.1 e.2) 25 25 tk_RR_readFact_25 (sk_take_drop z_RR_readFact (fun e => sk_ok sk_rec 62 e.1 e.2) 50 25 tk_RR_readFact_50 (sk_take_drop z_RR_readFact (fun e => sk_ok sk_rec 62 e.1 e.2) 75 25 tk_RR_readFact_75 (sk_drop_nil z_RR_readFact (fun e => sk_ok sk_rec 62 e.1 e.2) 100 rfl))))
set_option maxRecDepth 1000000 in
theorem tk_RR_readSign_0 : ((z_RR_readSign.drop 0).take 25).all (fun e => sk_ok sk_rec 63 e.1 e.2) = true := by decide +kernel
set_option maxRecDepth 1000000 in
theorem tk_RR_readSign_25 : ((z_RR_readSign.drop 25).take 25).all (fun e => sk_ok sk_rec 63 e.1 e.2) = true := by decide +kernel
set_option maxRecDepth 1000000 in
theorem tk_RR_readSign_50 : ((z_RR_readSign.drop 50).take 25).all (fun e => sk_ok sk_rec 63 e.1 e.2) = true := by decide +kernel
set_option maxRecDepth 1000000 in
theorem tk_RR_readSign : z_RR_readSign.all (fun e => sk_ok sk_rec 63 e.1 e.2) = true := sk_take_drop z_RR_readSign (fun e => sk_ok sk_rec 63 e.1 e.2) 0 25 tk_RR_readSign_0 (sk_take_drop z_RR_readSign (fun e => sk_ok sk_rec 63 e.1 e.2) 25 25 tk_RR_readSign_25 (sk_take_drop z_RR_readSign (fun e => sk_ok sk_rec 63 e.1 e.2) 50 25 tk_RR_readSign_50 (sk_drop_nil z_RR_readSign (fun e => sk_ok sk_rec 63 e.1 e.2) 75 rfl)))
