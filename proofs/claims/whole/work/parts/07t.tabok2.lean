set_option maxRecDepth 1000000 in
theorem tk_M_passWord : z_M_passWord.all (fun e => sk_ok sk_rec 136 e.1 e.2) = true := by decide +kernel
set_option maxRecDepth 1000000 in
theorem tk_M_takesWord : z_M_takesWord.all (fun e => sk_ok sk_rec 137 e.1 e.2) = true := by decide +kernel
set_option maxRecDepth 1000000 in
theorem tk_M_numberHere_0 : ((z_M_numberHere.drop 0).take 25).all (fun e => sk_ok sk_rec 138 e.1 e.2) = true := by decide +kernel
set_option maxRecDepth 1000000 in
theorem tk_M_numberHere_25 : ((z_M_numberHere.drop 25).take 25).all (fun e => sk_ok sk_rec 138 e.1 e.2) = true := by decide +kernel
set_option maxRecDepth 1000000 in
theorem tk_M_numberHere_50 : ((z_M_numberHere.drop 50).take 25).all (fun e => sk_ok sk_rec 138 e.1 e.2) = true := by decide +kernel
set_option maxRecDepth 1000000 in
theorem tk_M_numberHere : z_M_numberHere.all (fun e => sk_ok sk_rec 138 e.1 e.2) = true := sk_take_drop z_M_numberHere (fun e => sk_ok sk_rec 138 e.1 e.2) 0 25 tk_M_numberHere_0 (sk_take_drop z_M_numberHere (fun e => sk_ok sk_rec 138 e.1 e.2) 25 25 tk_M_numberHere_25 (sk_take_drop z_M_numberHere (fun e => sk_ok sk_rec 138 e.1 e.2) 50 25 tk_M_numberHere_50 (sk_drop_nil z_M_numberHere (fun e => sk_ok sk_rec 138 e.1 e.2) 75 rfl)))
set_option maxRecDepth 1000000 in
theorem tk_M_wordHere_0 : ((z_M_wordHere.drop 0).take 25).all (fun e => sk_ok sk_rec 139 e.1 e.2) = true := by decide +kernel
set_option maxRecDepth 1000000 in
theorem tk_M_wordHere_25 : ((z_M_wordHere.drop 25).take 25).all (fun e => sk_ok sk_rec 139 e.1 e.2) = true := by decide +kernel
set_option maxRecDepth 1000000 in
theorem tk_M_wordHere_50 : ((z_M_wordHere.drop 50).take 25).all (fun e => sk_ok sk_rec 139 e.1 e.2) = true := by decide +kernel
set_option maxRecDepth 1000000 in
theorem tk_M_wordHere : z_M_wordHere.all (fun e => sk_ok sk_rec 139 e.1 e.2) = true := sk_take_drop z_M_wordHere (fun e => sk_ok sk_rec 139 e.1 e.2) 0 25 tk_M_wordHere_0 (sk_take_drop z_M_wordHere (fun e => sk_ok sk_rec 139 e.1 e.2) 25 25 tk_M_wordHere_25 (sk_take_drop z_M_wordHere (fun e => sk_ok sk_rec 139 e.1 e.2) 50 25 tk_M_wordHere_50 (sk_drop_nil z_M_wordHere (fun e => sk_ok sk_rec 139 e.1 e.2) 75 rfl)))
set_option maxRecDepth 1000000 in
theorem tk_M_puts_0 : ((z_M_puts.drop 0).take 25).all (fun e => sk_ok sk_rec 140 e.1 e.2) = true := by decide +kernel
set_option maxRecDepth 1000000 in
theorem tk_M_puts_25 : ((z_M_puts.drop 25).take 25).all (fun e => sk_ok sk_rec 140 e.1 e.2) = true := by decide +kernel
set_option maxRecDepth 1000000 in
theorem tk_M_puts : z_M_puts.all (fun e => sk_ok sk_rec 140 e.1 e.2) = true := sk_take_drop z_M_puts (fun e => sk_ok sk_rec 140 e.1 e.2) 0 25 tk_M_puts_0 (sk_take_drop z_M_puts (fun e => sk_ok sk_rec 140 e.1 e.2) 25 25 tk_M_puts_25 (sk_drop_nil z_M_puts (fun e => sk_ok sk_rec 140 e.1 e.2) 50 rfl))
set_option maxRecDepth 1000000 in
theorem tk_M_makes : z_M_makes.all (fun e => sk_ok sk_rec 141 e.1 e.2) = true := by decide +kernel
set_option maxRecDepth 1000000 in
theorem tk_M_opens_0 : ((z_M_opens.drop 0).take 25).all (fun e => sk_ok sk_rec 142 e.1 e.2) = true := by decide +kernel
set_option maxRecDepth 1000000 in
theorem tk_M_opens_25 : ((z_M_opens.drop 25).take 25).all (fun e => sk_ok sk_rec 142 e.1 e.2) = true := by decide +kernel
set_option maxRecDepth 1000000 in
theorem tk_M_opens : z_M_opens.all (fun e => sk_ok sk_rec 142 e.1 e.2) = true := sk_take_drop z_M_opens (fun e => sk_ok sk_rec 142 e.1 e.2) 0 25 tk_M_opens_0 (sk_take_drop z_M_opens (fun e => sk_ok sk_rec 142 e.1 e.2) 25 25 tk_M_opens_25 (sk_drop_nil z_M_opens (fun e => sk_ok sk_rec 142 e.1 e.2) 50 rfl))
set_option maxRecDepth 1000000 in
theorem tk_M_strength : z_M_strength.all (fun e => sk_ok sk_rec 143 e.1 e.2) = true := by decide +kernel
set_option maxRecDepth 1000000 in
theorem tk_M_settles_0 : ((z_M_settles.drop 0).take 25).all (fun e => sk_ok sk_rec 144 e.1 e.2) = true := by decide +kernel
set_option maxRecDepth 1000000 in
theorem tk_M_settles_25 : ((z_M_settles.drop 25).take 25).all (fun e => sk_ok sk_rec 144 e.1 e.2) = true := by decide +kernel
set_option maxRecDepth 1000000 in
theorem tk_M_settles : z_M_settles.all (fun e => sk_ok sk_rec 144 e.1 e.2) = true := sk_take_drop z_M_settles (fun e => sk_ok sk_rec 144 e.1 e.2) 0 25 tk_M_settles_0 (sk_take_drop z_M_settles (fun e => sk_ok sk_rec 144 e.1 e.2) 25 25 tk_M_settles_25 (sk_drop_nil z_M_settles (fun e => sk_ok sk_rec 144 e.1 e.2) 50 rfl))
set_option maxRecDepth 1000000 in
theorem tk_M_value_0 : ((z_M_value.drop 0).take 25).all (fun e => sk_ok sk_rec 145 e.1 e.2) = true := by decide +kernel
set_option maxRecDepth 1000000 in
theorem tk_M_value_25 : ((z_M_value.drop 25).take 25).all (fun e => sk_ok sk_rec 145 e.1 e.2) = true := by decide +kernel
set_option maxRecDepth 1000000 in
theorem tk_M_value_50 : ((z_M_value.drop 50).take 25).all (fun e => sk_ok sk_rec 145 e.1 e.2) = true := by decide +kernel
set_option maxRecDepth 1000000 in
theorem tk_M_value : z_M_value.all (fun e => sk_ok sk_rec 145 e.1 e.2) = true := sk_take_drop z_M_value (fun e => sk_ok sk_rec 145 e.1 e.2) 0 25 tk_M_value_0 (sk_take_drop z_M_value (fun e => sk_ok sk_rec 145 e.1 e.2) 25 25 tk_M_value_25 (sk_take_drop z_M_value (fun e => sk_ok sk_rec 145 e.1 e.2) 50 25 tk_M_value_50 (sk_drop_nil z_M_value (fun e => sk_ok sk_rec 145 e.1 e.2) 75 rfl)))
set_option maxRecDepth 1000000 in
theorem tk_M_term_0 : ((z_M_term.drop 0).take 25).all (fun e => sk_ok sk_rec 146 e.1 e.2) = true := by decide +kernel
set_option maxRecDepth 1000000 in
theorem tk_M_term_25 : ((z_M_term.drop 25).take 25).all (fun e => sk_ok sk_rec 146 e.1 e.2) = true := by decide +kernel
set_option maxRecDepth 1000000 in
theorem tk_M_term_50 : ((z_M_term.drop 50).take 25).all (fun e => sk_ok sk_rec 146 e.1 e.2) = true := by decide +kernel
set_option maxRecDepth 1000000 in
theorem tk_M_term : z_M_term.all (fun e => sk_ok sk_rec 146 e.1 e.2) = true := sk_take_drop z_M_term (fun e => sk_ok sk_rec 146 e.1 e.2) 0 25 tk_M_term_0 (sk_take_drop z_M_term (fun e => sk_ok sk_rec 146 e.1 e.2) 25 25 tk_M_term_25 (sk_take_drop z_M_term (fun e => sk_ok sk_rec 146 e.1 e.2) 50 25 tk_M_term_50 (sk_drop_nil z_M_term (fun e => sk_ok sk_rec 146 e.1 e.2) 75 rfl)))
set_option maxRecDepth 1000000 in
theorem tk_M_sum_0 : ((z_M_sum.drop 0).take 25).all (fun e => sk_ok sk_rec 147 e.1 e.2) = true := by decide +kernel
set_option maxRecDepth 1000000 in
theorem tk_M_sum_25 : ((z_M_sum.drop 25).take 25).all (fun e => sk_ok sk_rec 147 e.1 e.2) = true := by decide +kernel
set_option maxRecDepth 1000000 in
theorem tk_M_sum : z_M_sum.all (fun e => sk_ok sk_rec 147 e.1 e.2) = true := sk_take_drop z_M_sum (fun e => sk_ok sk_rec 147 e.1 e.2) 0 25 tk_M_sum_0 (sk_take_drop z_M_sum (fun e => sk_ok sk_rec 147 e.1 e.2) 25 25 tk_M_sum_25 (sk_drop_nil z_M_sum (fun e => sk_ok sk_rec 147 e.1 e.2) 50 rfl))
set_option maxRecDepth 1000000 in
theorem tk_M_compare_0 : ((z_M_compare.drop 0).take 25).all (fun e => sk_ok sk_rec 148 e.1 e.2) = true := by decide +kernel
set_option maxRecDepth 1000000 in
theorem tk_M_compare_25 : ((z_M_compare.drop 25).take 25).all (fun e => sk_ok sk_rec 148 e.1 e.2) = true := by decide +kernel
set_option maxRecDepth 1000000 in
theorem tk_M_compare_50 : ((z_M_compare.drop 50).take 25).all (fun e => sk_ok sk_rec 148 e.1 e.2) = true := by decide +kernel
set_option maxRecDepth 1000000 in
theorem tk_M_compare_75 : ((z_M_compare.drop 75).take 25).all (fun e => sk_ok sk_rec 148 e.1 e.2) = true := by decide +kernel
set_option maxRecDepth 1000000 in
theorem tk_M_compare : z_M_compare.all (fun e => sk_ok sk_rec 148 e.1 e.2) = true := sk_take_drop z_M_compare (fun e => sk_ok sk_rec 148 e.1 e.2) 0 25 tk_M_compare_0 (sk_take_drop z_M_compare (fun e => sk_ok sk_rec 148 e.1 e.2) 25 25 tk_M_compare_25 (sk_take_drop z_M_compare (fun e => sk_ok sk_rec 148 e.1 e.2) 50 25 tk_M_compare_50 (sk_take_drop z_M_compare (fun e => sk_ok sk_rec 148 e.1 e.2) 75 25 tk_M_compare_75 (sk_drop_nil z_M_compare (fun e => sk_ok sk_rec 148 e.1 e.2) 100 rfl))))
set_option maxRecDepth 1000000 in
theorem tk_M_fact_0 : ((z_M_fact.drop 0).take 25).all (fun e => sk_ok sk_rec 149 e.1 e.2) = true := by decide +kernel
set_option maxRecDepth 1000000 in
theorem tk_M_fact_25 : ((z_M_fact.drop 25).take 25).all (fun e => sk_ok sk_rec 149 e.1 e.2) = true := by decide +kernel
set_option maxRecDepth 1000000 in
theorem tk_M_fact : z_M_fact.all (fun e => sk_ok sk_rec 149 e.1 e.2) = true := sk_take_drop z_M_fact (fun e => sk_ok sk_rec 149 e.1 e.2) 0 25 tk_M_fact_0 (sk_take_drop z_M_fact (fun e => sk_ok sk_rec 149 e.1 e.2) 25 25 tk_M_fact_25 (sk_drop_nil z_M_fact (fun e => sk_ok sk_rec 149 e.1 e.2) 50 rfl))
set_option maxRecDepth 1000000 in
theorem tk_M_isInside : z_M_isInside.all (fun e => sk_ok sk_rec 150 e.1 e.2) = true := by decide +kernel
set_option maxRecDepth 1000000 in
theorem tk_M_closes_0 : ((z_M_closes.drop 0).take 25).all (fun e => sk_ok sk_rec 151 e.1 e.2) = true := by decide +kernel
set_option maxRecDepth 1000000 in
theorem tk_M_closes_25 : ((z_M_closes.drop 25).take 25).all (fun e => sk_ok sk_rec 151 e.1 e.2) = true := by decide +kernel
set_option maxRecDepth 1000000 in
theorem tk_M_closes : z_M_closes.all (fun e => sk_ok sk_rec 151 e.1 e.2) = true := sk_take_drop z_M_closes (fun e => sk_ok sk_rec 151 e.1 e.2) 0 25 tk_M_closes_0 (sk_take_drop z_M_closes (fun e => sk_ok sk_rec 151 e.1 e.2) 25 25 tk_M_closes_25 (sk_drop_nil z_M_closes (fun e => sk_ok sk_rec 151 e.1 e.2) 50 rfl))
set_option maxRecDepth 1000000 in
theorem tk_M_tested_0 : ((z_M_tested.drop 0).take 25).all (fun e => sk_ok sk_rec 152 e.1 e.2) = true := by decide +kernel
set_option maxRecDepth 1000000 in
theorem tk_M_tested_25 : ((z_M_tested.drop 25).take 25).all (fun e => sk_ok sk_rec 152 e.1 e.2) = true := by decide +kernel
set_option maxRecDepth 1000000 in
theorem tk_M_tested_50 : ((z_M_tested.drop 50).take 25).all (fun e => sk_ok sk_rec 152 e.1 e.2) = true := by decide +kernel
set_option maxRecDepth 1000000 in
theorem tk_M_tested : z_M_tested.all (fun e => sk_ok sk_rec 152 e.1 e.2) = true := sk_take_drop z_M_tested (fun e => sk_ok sk_rec 152 e.1 e.2) 0 25 tk_M_tested_0 (sk_take_drop z_M_tested (fun e => sk_ok sk_rec 152 e.1 e.2) 25 25 tk_M_tested_25 (sk_take_drop z_M_tested (fun e => sk_ok sk_rec 152 e.1 e.2) 50 25 tk_M_tested_50 (sk_drop_nil z_M_tested (fun e => sk_ok sk_rec 152 e.1 e.2) 75 rfl)))
set_option maxRecDepth 1000000 in
theorem tk_M_isStrokeHere_0 : ((z_M_isStrokeHere.drop 0).take 25).all (fun e => sk_ok sk_rec 153 e.1 e.2) = true := by decide +kernel
set_option maxRecDepth 1000000 in
theorem tk_M_isStrokeHere_25 : ((z_M_isStrokeHere.drop 25).take 25).all (fun e => sk_ok sk_rec 153 e.1 e.2) = true := by decide +kernel
set_option maxRecDepth 1000000 in
theorem tk_M_isStrokeHere_50 : ((z_M_isStrokeHere.drop 50).take 25).all (fun e => sk_ok sk_rec 153 e.1 e.2) = true := by decide +kernel
set_option maxRecDepth 1000000 in
theorem tk_M_isStrokeHere_75 : ((z_M_isStrokeHere.drop 75).take 25).all (fun e => sk_ok sk_rec 153 e.1 e.2) = true := by decide +kernel
set_option maxRecDepth 1000000 in
theorem tk_M_isStrokeHere : z_M_isStrokeHere.all (fun e => sk_ok sk_rec 153 e.1 e.2) = true := sk_take_drop z_M_isStrokeHere (fun e => sk_ok sk_rec 153 e.1 e.2) 0 25 tk_M_isStrokeHere_0 (sk_take_drop z_M_isStrokeHere (fun e => sk_ok sk_rec 153 e.1 e.2) 25 25 tk_M_isStrokeHere_25 (sk_take_drop z_M_isStrokeHere (fun e => sk_ok sk_rec 153 e.1 e.2) 50 25 tk_M_isStrokeHere_50 (sk_take_drop z_M_isStrokeHere (fun e => sk_ok sk_rec 153 e.1 e.2) 75 25 tk_M_isStrokeHere_75 (sk_drop_nil z_M_isStrokeHere (fun e => sk_ok sk_rec 153 e.1 e.2) 100 rfl))))
set_option maxRecDepth 1000000 in
theorem tk_M_isAlleyHere_0 : ((z_M_isAlleyHere.drop 0).take 25).all (fun e => sk_ok sk_rec 154 e.1 e.2) = true := by decide +kernel
set_option maxRecDepth 1000000 in
theorem tk_M_isAlleyHere_25 : ((z_M_isAlleyHere.drop 25).take 25).all (fun e => sk_ok sk_rec 154 e.1 e.2) = true := by decide +kernel
set_option maxRecDepth 1000000 in
theorem tk_M_isAlleyHere : z_M_isAlleyHere.all (fun e => sk_ok sk_rec 154 e.1 e.2) = true := sk_take_drop z_M_isAlleyHere (fun e => sk_ok sk_rec 154 e.1 e.2) 0 25 tk_M_isAlleyHere_0 (sk_take_drop z_M_isAlleyHere (fun e => sk_ok sk_rec 154 e.1 e.2) 25 25 tk_M_isAlleyHere_25 (sk_drop_nil z_M_isAlleyHere (fun e => sk_ok sk_rec 154 e.1 e.2) 50 rfl))
set_option maxRecDepth 1000000 in
theorem tk_M_isPlaceHere : z_M_isPlaceHere.all (fun e => sk_ok sk_rec 155 e.1 e.2) = true := by decide +kernel
set_option maxRecDepth 1000000 in
theorem tk_M_isRowHere_0 : ((z_M_isRowHere.drop 0).take 25).all (fun e => sk_ok sk_rec 156 e.1 e.2) = true := by decide +kernel
set_option maxRecDepth 1000000 in
theorem tk_M_isRowHere_25 : ((z_M_isRowHere.drop 25).take 25).all (fun e => sk_ok sk_rec 156 e.1 e.2) = true := by decide +kernel
set_option maxRecDepth 1000000 in
theorem tk_M_isRowHere_50 : ((z_M_isRowHere.drop 50).take 25).all (fun e => sk_ok sk_rec 156 e.1 e.2) = true := by decide +kernel
set_option maxRecDepth 1000000 in
theorem tk_M_isRowHere_75 : ((z_M_isRowHere.drop 75).take 25).all (fun e => sk_ok sk_rec 156 e.1 e.2) = true := by decide +kernel
set_option maxRecDepth 1000000 in
theorem tk_M_isRowHere_100 : ((z_M_isRowHere.drop 100).take 25).all (fun e => sk_ok sk_rec 156 e.1 e.2) = true := by decide +kernel
set_option maxRecDepth 1000000 in
theorem tk_M_isRowHere_125 : ((z_M_isRowHere.drop 125).take 25).all (fun e => sk_ok sk_rec 156 e.1 e.2) = true := by decide +kernel
set_option maxRecDepth 1000000 in
theorem tk_M_isRowHere : z_M_isRowHere.all (fun e => sk_ok sk_rec 156 e.1 e.2) = true := sk_take_drop z_M_isRowHere (fun e => sk_ok sk_rec 156 e.1 e.2) 0 25 tk_M_isRowHere_0 (sk_take_drop z_M_isRowHere (fun e => sk_ok sk_rec 156 e.1 e.2) 25 25 tk_M_isRowHere_25 (sk_take_drop z_M_isRowHere (fun e => sk_ok sk_rec 156 e.1 e.2) 50 25 tk_M_isRowHere_50 (sk_take_drop z_M_isRowHere (fun e => sk_ok sk_rec 156 e.1 e.2) 75 25 tk_M_isRowHere_75 (sk_take_drop z_M_isRowHere (fun e => sk_ok sk_rec 156 e.1 e.2) 100 25 tk_M_isRowHere_100 (sk_take_drop z_M_isRowHere (fun e => sk_ok sk_rec 156 e.1 e.2) 125 25 tk_M_isRowHere_125 (sk_drop_nil z_M_isRowHere (fun e => sk_ok sk_rec 156 e.1 e.2) 150 rfl))))))
set_option maxRecDepth 1000000 in
theorem tk_M_isRingHere_0 : ((z_M_isRingHere.drop 0).take 25).all (fun e => sk_ok sk_rec 157 e.1 e.2) = true := by decide +kernel
set_option maxRecDepth 1000000 in
theorem tk_M_isRingHere_25 : ((z_M_isRingHere.drop 25).take 25).all (fun e => sk_ok sk_rec 157 e.1 e.2) = true := by decide +kernel
set_option maxRecDepth 1000000 in
theorem tk_M_isRingHere : z_M_isRingHere.all (fun e => sk_ok sk_rec 157 e.1 e.2) = true := sk_take_drop z_M_isRingHere (fun e => sk_ok sk_rec 157 e.1 e.2) 0 25 tk_M_isRingHere_0 (sk_take_drop z_M_isRingHere (fun e => sk_ok sk_rec 157 e.1 e.2) 25 25 tk_M_isRingHere_25 (sk_drop_nil z_M_isRingHere (fun e => sk_ok sk_rec 157 e.1 e.2) 50 rfl))
set_option maxRecDepth 1000000 in
theorem tk_M_isHitHere : z_M_isHitHere.all (fun e => sk_ok sk_rec 158 e.1 e.2) = true := by decide +kernel
set_option maxRecDepth 1000000 in
theorem tk_M_isOnceHere : z_M_isOnceHere.all (fun e => sk_ok sk_rec 159 e.1 e.2) = true := by decide +kernel
set_option maxRecDepth 1000000 in
theorem tk_M_isStrayHere : z_M_isStrayHere.all (fun e => sk_ok sk_rec 160 e.1 e.2) = true := by decide +kernel
set_option maxRecDepth 1000000 in
theorem tk_M_alleyLineHere_0 : ((z_M_alleyLineHere.drop 0).take 25).all (fun e => sk_ok sk_rec 161 e.1 e.2) = true := by decide +kernel
set_option maxRecDepth 1000000 in
theorem tk_M_alleyLineHere_25 : ((z_M_alleyLineHere.drop 25).take 25).all (fun e => sk_ok sk_rec 161 e.1 e.2) = true := by decide +kernel
set_option maxRecDepth 1000000 in
theorem tk_M_alleyLineHere_50 : ((z_M_alleyLineHere.drop 50).take 25).all (fun e => sk_ok sk_rec 161 e.1 e.2) = true := by decide +kernel
set_option maxRecDepth 1000000 in
theorem tk_M_alleyLineHere : z_M_alleyLineHere.all (fun e => sk_ok sk_rec 161 e.1 e.2) = true := sk_take_drop z_M_alleyLineHere (fun e => sk_ok sk_rec 161 e.1 e.2) 0 25 tk_M_alleyLineHere_0 (sk_take_drop z_M_alleyLineHere (fun e => sk_ok sk_rec 161 e.1 e.2) 25 25 tk_M_alleyLineHere_25 (sk_take_drop z_M_alleyLineHere (fun e => sk_ok sk_rec 161 e.1 e.2) 50 25 tk_M_alleyLineHere_50 (sk_drop_nil z_M_alleyLineHere (fun e => sk_ok sk_rec 161 e.1 e.2) 75 rfl)))
set_option maxRecDepth 1000000 in
theorem tk_M_isAlleyWord_0 : ((z_M_isAlleyWord.drop 0).take 25).all (fun e => sk_ok sk_rec 162 e.1 e.2) = true := by decide +kernel
set_option maxRecDepth 1000000 in
theorem tk_M_isAlleyWord_25 : ((z_M_isAlleyWord.drop 25).take 25).all (fun e => sk_ok sk_rec 162 e.1 e.2) = true := by decide +kernel
set_option maxRecDepth 1000000 in
theorem tk_M_isAlleyWord : z_M_isAlleyWord.all (fun e => sk_ok sk_rec 162 e.1 e.2) = true := sk_take_drop z_M_isAlleyWord (fun e => sk_ok sk_rec 162 e.1 e.2) 0 25 tk_M_isAlleyWord_0 (sk_take_drop z_M_isAlleyWord (fun e => sk_ok sk_rec 162 e.1 e.2) 25 25 tk_M_isAlleyWord_25 (sk_drop_nil z_M_isAlleyWord (fun e => sk_ok sk_rec 162 e.1 e.2) 50 rfl))
set_option maxRecDepth 1000000 in
theorem tk_M_clauseHere_0 : ((z_M_clauseHere.drop 0).take 25).all (fun e => sk_ok sk_rec 163 e.1 e.2) = true := by decide +kernel
set_option maxRecDepth 1000000 in
theorem tk_M_clauseHere_25 : ((z_M_clauseHere.drop 25).take 25).all (fun e => sk_ok sk_rec 163 e.1 e.2) = true := by decide +kernel
set_option maxRecDepth 1000000 in
theorem tk_M_clauseHere_50 : ((z_M_clauseHere.drop 50).take 25).all (fun e => sk_ok sk_rec 163 e.1 e.2) = true := by decide +kernel
set_option maxRecDepth 1000000 in
theorem tk_M_clauseHere : z_M_clauseHere.all (fun e => sk_ok sk_rec 163 e.1 e.2) = true := sk_take_drop z_M_clauseHere (fun e => sk_ok sk_rec 163 e.1 e.2) 0 25 tk_M_clauseHere_0 (sk_take_drop z_M_clauseHere (fun e => sk_ok sk_rec 163 e.1 e.2) 25 25 tk_M_clauseHere_25 (sk_take_drop z_M_clauseHere (fun e => sk_ok sk_rec 163 e.1 e.2) 50 25 tk_M_clauseHere_50 (sk_drop_nil z_M_clauseHere (fun e => sk_ok sk_rec 163 e.1 e.2) 75 rfl)))
set_option maxRecDepth 1000000 in
theorem tk_M_readsAll_0 : ((z_M_readsAll.drop 0).take 25).all (fun e => sk_ok sk_rec 164 e.1 e.2) = true := by decide +kernel
set_option maxRecDepth 1000000 in
theorem tk_M_readsAll_25 : ((z_M_readsAll.drop 25).take 25).all (fun e => sk_ok sk_rec 164 e.1 e.2) = true := by decide +kernel
set_option maxRecDepth 1000000 in
theorem tk_M_readsAll_50 : ((z_M_readsAll.drop 50).take 25).all (fun e => sk_ok sk_rec 164 e.1 e.2) = true := by decide +kernel
set_option maxRecDepth 1000000 in
theorem tk_M_readsAll : z_M_readsAll.all (fun e => sk_ok sk_rec 164 e.1 e.2) = true := sk_take_drop z_M_readsAll (fun e => sk_ok sk_rec 164 e.1 e.2) 0 25 tk_M_readsAll_0 (sk_take_drop z_M_readsAll (fun e => sk_ok sk_rec 164 e.1 e.2) 25 25 tk_M_readsAll_25 (sk_take_drop z_M_readsAll (fun e => sk_ok sk_rec 164 e.1 e.2) 50 25 tk_M_readsAll_50 (sk_drop_nil z_M_readsAll (fun e => sk_ok sk_rec 164 e.1 e.2) 75 rfl)))
set_option maxRecDepth 1000000 in
theorem tk_M_rule_0 : ((z_M_rule.drop 0).take 25).all (fun e => sk_ok sk_rec 165 e.1 e.2) = true := by decide +kernel
set_option maxRecDepth 1000000 in
theorem tk_M_rule_25 : ((z_M_rule.drop 25).take 25).all (fun e => sk_ok sk_rec 165 e.1 e.2) = true := by decide +kernel
set_option maxRecDepth 1000000 in
theorem tk_M_rule : z_M_rule.all (fun e => sk_ok sk_rec 165 e.1 e.2) = true := sk_take_drop z_M_rule (fun e => sk_ok sk_rec 165 e.1 e.2) 0 25 tk_M_rule_0 (sk_take_drop z_M_rule (fun e => sk_ok sk_rec 165 e.1 e.2) 25 25 tk_M_rule_25 (sk_drop_nil z_M_rule (fun e => sk_ok sk_rec 165 e.1 e.2) 50 rfl))
set_option maxRecDepth 1000000 in
theorem tk_M_alley_0 : ((z_M_alley.drop 0).take 25).all (fun e => sk_ok sk_rec 166 e.1 e.2) = true := by decide +kernel
set_option maxRecDepth 1000000 in
theorem tk_M_alley_25 : ((z_M_alley.drop 25).take 25).all (fun e => sk_ok sk_rec 166 e.1 e.2) = true := by decide +kernel
set_option maxRecDepth 1000000 in
theorem tk_M_alley_50 : ((z_M_alley.drop 50).take 25).all (fun e => sk_ok sk_rec 166 e.1 e.2) = true := by decide +kernel
set_option maxRecDepth 1000000 in
theorem tk_M_alley : z_M_alley.all (fun e => sk_ok sk_rec 166 e.1 e.2) = true := sk_take_drop z_M_alley (fun e => sk_ok sk_rec 166 e.1 e.2) 0 25 tk_M_alley_0 (sk_take_drop z_M_alley (fun e => sk_ok sk_rec 166 e.1 e.2) 25 25 tk_M_alley_25 (sk_take_drop z_M_alley (fun e => sk_ok sk_rec 166 e.1 e.2) 50 25 tk_M_alley_50 (sk_drop_nil z_M_alley (fun e => sk_ok sk_rec 166 e.1 e.2) 75 rfl)))
set_option maxRecDepth 1000000 in
theorem tk_M_isRule : z_M_isRule.all (fun e => sk_ok sk_rec 167 e.1 e.2) = true := by decide +kernel
set_option maxRecDepth 1000000 in
theorem tk_M_push : z_M_push.all (fun e => sk_ok sk_rec 168 e.1 e.2) = true := by decide +kernel
set_option maxRecDepth 1000000 in
theorem tk_M_pop : z_M_pop.all (fun e => sk_ok sk_rec 169 e.1 e.2) = true := by decide +kernel
set_option maxRecDepth 1000000 in
theorem tk_M_one_0 : ((z_M_one.drop 0).take 25).all (fun e => sk_ok sk_rec 170 e.1 e.2) = true := by decide +kernel
set_option maxRecDepth 1000000 in
theorem tk_M_one_25 : ((z_M_one.drop 25).take 25).all (fun e => sk_ok sk_rec 170 e.1 e.2) = true := by decide +kernel
set_option maxRecDepth 1000000 in
theorem tk_M_one_50 : ((z_M_one.drop 50).take 25).all (fun e => sk_ok sk_rec 170 e.1 e.2) = true := by decide +kernel
set_option maxRecDepth 1000000 in
theorem tk_M_one_75 : ((z_M_one.drop 75).take 25).all (fun e => sk_ok sk_rec 170 e.1 e.2) = true := by decide +kernel
set_option maxRecDepth 1000000 in
theorem tk_M_one : z_M_one.all (fun e => sk_ok sk_rec 170 e.1 e.2) = true := sk_take_drop z_M_one (fun e => sk_ok sk_rec 170 e.1 e.2) 0 25 tk_M_one_0 (sk_take_drop z_M_one (fun e => sk_ok sk_rec 170 e.1 e.2) 25 25 tk_M_one_25 (sk_take_drop z_M_one (fun e => sk_ok sk_rec 170 e.1 e.2) 50 25 tk_M_one_50 (sk_take_drop z_M_one (fun e => sk_ok sk_rec 170 e.1 e.2) 75 25 tk_M_one_75 (sk_drop_nil z_M_one (fun e => sk_ok sk_rec 170 e.1 e.2) 100 rfl))))
set_option maxRecDepth 1000000 in
theorem tk_M_reckons_0 : ((z_M_reckons.drop 0).take 25).all (fun e => sk_ok sk_rec 171 e.1 e.2) = true := by decide +kernel
set_option maxRecDepth 1000000 in
theorem tk_M_reckons_25 : ((z_M_reckons.drop 25).take 25).all (fun e => sk_ok sk_rec 171 e.1 e.2) = true := by decide +kernel
set_option maxRecDepth 1000000 in
theorem tk_M_reckons_50 : ((z_M_reckons.drop 50).take 25).all (fun e => sk_ok sk_rec 171 e.1 e.2) = true := by decide +kernel
set_option maxRecDepth 1000000 in
theorem tk_M_reckons : z_M_reckons.all (fun e => sk_ok sk_rec 171 e.1 e.2) = true := sk_take_drop z_M_reckons (fun e => sk_ok sk_rec 171 e.1 e.2) 0 25 tk_M_reckons_0 (sk_take_drop z_M_reckons (fun e => sk_ok sk_rec 171 e.1 e.2) 25 25 tk_M_reckons_25 (sk_take_drop z_M_reckons (fun e => sk_ok sk_rec 171 e.1 e.2) 50 25 tk_M_reckons_50 (sk_drop_nil z_M_reckons (fun e => sk_ok sk_rec 171 e.1 e.2) 75 rfl)))
set_option maxRecDepth 1000000 in
theorem tk_M_isAlley : z_M_isAlley.all (fun e => sk_ok sk_rec 172 e.1 e.2) = true := by decide +kernel
set_option maxRecDepth 1000000 in
theorem tk_M_isPlace : z_M_isPlace.all (fun e => sk_ok sk_rec 173 e.1 e.2) = true := by decide +kernel
set_option maxRecDepth 1000000 in
theorem tk_M_rowOf : z_M_rowOf.all (fun e => sk_ok sk_rec 174 e.1 e.2) = true := by decide +kernel
set_option maxRecDepth 1000000 in
theorem tk_M_beside_0 : ((z_M_beside.drop 0).take 25).all (fun e => sk_ok sk_rec 175 e.1 e.2) = true := by decide +kernel
set_option maxRecDepth 1000000 in
theorem tk_M_beside_25 : ((z_M_beside.drop 25).take 25).all (fun e => sk_ok sk_rec 175 e.1 e.2) = true := by decide +kernel
set_option maxRecDepth 1000000 in
theorem tk_M_beside_50 : ((z_M_beside.drop 50).take 25).all (fun e => sk_ok sk_rec 175 e.1 e.2) = true := by decide +kernel
set_option maxRecDepth 1000000 in
theorem tk_M_beside : z_M_beside.all (fun e => sk_ok sk_rec 175 e.1 e.2) = true := sk_take_drop z_M_beside (fun e => sk_ok sk_rec 175 e.1 e.2) 0 25 tk_M_beside_0 (sk_take_drop z_M_beside (fun e => sk_ok sk_rec 175 e.1 e.2) 25 25 tk_M_beside_25 (sk_take_drop z_M_beside (fun e => sk_ok sk_rec 175 e.1 e.2) 50 25 tk_M_beside_50 (sk_drop_nil z_M_beside (fun e => sk_ok sk_rec 175 e.1 e.2) 75 rfl)))
set_option maxRecDepth 1000000 in
theorem tk_M_strokeBits_0 : ((z_M_strokeBits.drop 0).take 25).all (fun e => sk_ok sk_rec 176 e.1 e.2) = true := by decide +kernel
set_option maxRecDepth 1000000 in
theorem tk_M_strokeBits_25 : ((z_M_strokeBits.drop 25).take 25).all (fun e => sk_ok sk_rec 176 e.1 e.2) = true := by decide +kernel
set_option maxRecDepth 1000000 in
theorem tk_M_strokeBits : z_M_strokeBits.all (fun e => sk_ok sk_rec 176 e.1 e.2) = true := sk_take_drop z_M_strokeBits (fun e => sk_ok sk_rec 176 e.1 e.2) 0 25 tk_M_strokeBits_0 (sk_take_drop z_M_strokeBits (fun e => sk_ok sk_rec 176 e.1 e.2) 25 25 tk_M_strokeBits_25 (sk_drop_nil z_M_strokeBits (fun e => sk_ok sk_rec 176 e.1 e.2) 50 rfl))
set_option maxRecDepth 1000000 in
theorem tk_M_lastOf : z_M_lastOf.all (fun e => sk_ok sk_rec 177 e.1 e.2) = true := by decide +kernel
set_option maxRecDepth 1000000 in
theorem tk_M_canBe_0 : ((z_M_canBe.drop 0).take 25).all (fun e => sk_ok sk_rec 178 e.1 e.2) = true := by decide +kernel
set_option maxRecDepth 1000000 in
theorem tk_M_canBe_25 : ((z_M_canBe.drop 25).take 25).all (fun e => sk_ok sk_rec 178 e.1 e.2) = true := by decide +kernel
set_option maxRecDepth 1000000 in
theorem tk_M_canBe_50 : ((z_M_canBe.drop 50).take 25).all (fun e => sk_ok sk_rec 178 e.1 e.2) = true := by decide +kernel
set_option maxRecDepth 1000000 in
theorem tk_M_canBe : z_M_canBe.all (fun e => sk_ok sk_rec 178 e.1 e.2) = true := sk_take_drop z_M_canBe (fun e => sk_ok sk_rec 178 e.1 e.2) 0 25 tk_M_canBe_0 (sk_take_drop z_M_canBe (fun e => sk_ok sk_rec 178 e.1 e.2) 25 25 tk_M_canBe_25 (sk_take_drop z_M_canBe (fun e => sk_ok sk_rec 178 e.1 e.2) 50 25 tk_M_canBe_50 (sk_drop_nil z_M_canBe (fun e => sk_ok sk_rec 178 e.1 e.2) 75 rfl)))
set_option maxRecDepth 1000000 in
theorem tk_M_canBeNow : z_M_canBeNow.all (fun e => sk_ok sk_rec 179 e.1 e.2) = true := by decide +kernel
set_option maxRecDepth 1000000 in
theorem tk_M_fillsWon_0 : ((z_M_fillsWon.drop 0).take 25).all (fun e => sk_ok sk_rec 180 e.1 e.2) = true := by decide +kernel
set_option maxRecDepth 1000000 in
theorem tk_M_fillsWon_25 : ((z_M_fillsWon.drop 25).take 25).all (fun e => sk_ok sk_rec 180 e.1 e.2) = true := by decide +kernel
set_option maxRecDepth 1000000 in
theorem tk_M_fillsWon_50 : ((z_M_fillsWon.drop 50).take 25).all (fun e => sk_ok sk_rec 180 e.1 e.2) = true := by decide +kernel
set_option maxRecDepth 1000000 in
theorem tk_M_fillsWon_75 : ((z_M_fillsWon.drop 75).take 25).all (fun e => sk_ok sk_rec 180 e.1 e.2) = true := by decide +kernel
set_option maxRecDepth 1000000 in
theorem tk_M_fillsWon_100 : ((z_M_fillsWon.drop 100).take 25).all (fun e => sk_ok sk_rec 180 e.1 e.2) = true := by decide +kernel
set_option maxRecDepth 1000000 in
theorem tk_M_fillsWon : z_M_fillsWon.all (fun e => sk_ok sk_rec 180 e.1 e.2) = true := sk_take_drop z_M_fillsWon (fun e => sk_ok sk_rec 180 e.1 e.2) 0 25 tk_M_fillsWon_0 (sk_take_drop z_M_fillsWon (fun e => sk_ok sk_rec 180 e.1 e.2) 25 25 tk_M_fillsWon_25 (sk_take_drop z_M_fillsWon (fun e => sk_ok sk_rec 180 e.1 e.2) 50 25 tk_M_fillsWon_50 (sk_take_drop z_M_fillsWon (fun e => sk_ok sk_rec 180 e.1 e.2) 75 25 tk_M_fillsWon_75 (sk_take_drop z_M_fillsWon (fun e => sk_ok sk_rec 180 e.1 e.2) 100 25 tk_M_fillsWon_100 (sk_drop_nil z_M_fillsWon (fun e => sk_ok sk_rec 180 e.1 e.2) 125 rfl)))))
set_option maxRecDepth 1000000 in
theorem tk_M_fillsNow : z_M_fillsNow.all (fun e => sk_ok sk_rec 181 e.1 e.2) = true := by decide +kernel
set_option maxRecDepth 1000000 in
theorem tk_M_isWonAt : z_M_isWonAt.all (fun e => sk_ok sk_rec 182 e.1 e.2) = true := by decide +kernel
set_option maxRecDepth 1000000 in
theorem tk_M_winsBy : z_M_winsBy.all (fun e => sk_ok sk_rec 183 e.1 e.2) = true := by decide +kernel
set_option maxRecDepth 1000000 in
theorem tk_M_isOverAt_0 : ((z_M_isOverAt.drop 0).take 25).all (fun e => sk_ok sk_rec 184 e.1 e.2) = true := by decide +kernel
set_option maxRecDepth 1000000 in
theorem tk_M_isOverAt_25 : ((z_M_isOverAt.drop 25).take 25).all (fun e => sk_ok sk_rec 184 e.1 e.2) = true := by decide +kernel
set_option maxRecDepth 1000000 in
theorem tk_M_isOverAt : z_M_isOverAt.all (fun e => sk_ok sk_rec 184 e.1 e.2) = true := sk_take_drop z_M_isOverAt (fun e => sk_ok sk_rec 184 e.1 e.2) 0 25 tk_M_isOverAt_0 (sk_take_drop z_M_isOverAt (fun e => sk_ok sk_rec 184 e.1 e.2) 25 25 tk_M_isOverAt_25 (sk_drop_nil z_M_isOverAt (fun e => sk_ok sk_rec 184 e.1 e.2) 50 rfl))
set_option maxRecDepth 1000000 in
theorem tk_M_place_0 : ((z_M_place.drop 0).take 25).all (fun e => sk_ok sk_rec 185 e.1 e.2) = true := by decide +kernel
set_option maxRecDepth 1000000 in
theorem tk_M_place_25 : ((z_M_place.drop 25).take 25).all (fun e => sk_ok sk_rec 185 e.1 e.2) = true := by decide +kernel
set_option maxRecDepth 1000000 in
theorem tk_M_place : z_M_place.all (fun e => sk_ok sk_rec 185 e.1 e.2) = true := sk_take_drop z_M_place (fun e => sk_ok sk_rec 185 e.1 e.2) 0 25 tk_M_place_0 (sk_take_drop z_M_place (fun e => sk_ok sk_rec 185 e.1 e.2) 25 25 tk_M_place_25 (sk_drop_nil z_M_place (fun e => sk_ok sk_rec 185 e.1 e.2) 50 rfl))
set_option maxRecDepth 1000000 in
theorem tk_M_can_0 : ((z_M_can.drop 0).take 25).all (fun e => sk_ok sk_rec 186 e.1 e.2) = true := by decide +kernel
set_option maxRecDepth 1000000 in
theorem tk_M_can_25 : ((z_M_can.drop 25).take 25).all (fun e => sk_ok sk_rec 186 e.1 e.2) = true := by decide +kernel
set_option maxRecDepth 1000000 in
theorem tk_M_can : z_M_can.all (fun e => sk_ok sk_rec 186 e.1 e.2) = true := sk_take_drop z_M_can (fun e => sk_ok sk_rec 186 e.1 e.2) 0 25 tk_M_can_0 (sk_take_drop z_M_can (fun e => sk_ok sk_rec 186 e.1 e.2) 25 25 tk_M_can_25 (sk_drop_nil z_M_can (fun e => sk_ok sk_rec 186 e.1 e.2) 50 rfl))
set_option maxRecDepth 1000000 in
theorem tk_M_keepsAct_0 : ((z_M_keepsAct.drop 0).take 25).all (fun e => sk_ok sk_rec 187 e.1 e.2) = true := by decide +kernel
set_option maxRecDepth 1000000 in
theorem tk_M_keepsAct_25 : ((z_M_keepsAct.drop 25).take 25).all (fun e => sk_ok sk_rec 187 e.1 e.2) = true := by decide +kernel
set_option maxRecDepth 1000000 in
theorem tk_M_keepsAct_50 : ((z_M_keepsAct.drop 50).take 25).all (fun e => sk_ok sk_rec 187 e.1 e.2) = true := by decide +kernel
set_option maxRecDepth 1000000 in
theorem tk_M_keepsAct : z_M_keepsAct.all (fun e => sk_ok sk_rec 187 e.1 e.2) = true := sk_take_drop z_M_keepsAct (fun e => sk_ok sk_rec 187 e.1 e.2) 0 25 tk_M_keepsAct_0 (sk_take_drop z_M_keepsAct (fun e => sk_ok sk_rec 187 e.1 e.2) 25 25 tk_M_keepsAct_25 (sk_take_drop z_M_keepsAct (fun e => sk_ok sk_rec 187 e.1 e.2) 50 25 tk_M_keepsAct_50 (sk_drop_nil z_M_keepsAct (fun e => sk_ok sk_rec 187 e.1 e.2) 75 rfl)))
set_option maxRecDepth 1000000 in
theorem tk_M_undo_0 : ((z_M_undo.drop 0).take 25).all (fun e => sk_ok sk_rec 188 e.1 e.2) = true := by decide +kernel
set_option maxRecDepth 1000000 in
theorem tk_M_undo_25 : ((z_M_undo.drop 25).take 25).all (fun e => sk_ok sk_rec 188 e.1 e.2) = true := by decide +kernel
set_option maxRecDepth 1000000 in
theorem tk_M_undo : z_M_undo.all (fun e => sk_ok sk_rec 188 e.1 e.2) = true := sk_take_drop z_M_undo (fun e => sk_ok sk_rec 188 e.1 e.2) 0 25 tk_M_undo_0 (sk_take_drop z_M_undo (fun e => sk_ok sk_rec 188 e.1 e.2) 25 25 tk_M_undo_25 (sk_drop_nil z_M_undo (fun e => sk_ok sk_rec 188 e.1 e.2) 50 rfl))
set_option maxRecDepth 1000000 in
theorem tk_M_notes_0 : ((z_M_notes.drop 0).take 25).all (fun e => sk_ok sk_rec 189 e.1 e.2) = true := by decide +kernel
set_option maxRecDepth 1000000 in
theorem tk_M_notes_25 : ((z_M_notes.drop 25).take 25).all (fun e => sk_ok sk_rec 189 e.1 e.2) = true := by decide +kernel
set_option maxRecDepth 1000000 in
theorem tk_M_notes_50 : ((z_M_notes.drop 50).take 25).all (fun e => sk_ok sk_rec 189 e.1 e.2) = true := by decide +kernel
set_option maxRecDepth 1000000 in
theorem tk_M_notes : z_M_notes.all (fun e => sk_ok sk_rec 189 e.1 e.2) = true := sk_take_drop z_M_notes (fun e => sk_ok sk_rec 189 e.1 e.2) 0 25 tk_M_notes_0 (sk_take_drop z_M_notes (fun e => sk_ok sk_rec 189 e.1 e.2) 25 25 tk_M_notes_25 (sk_take_drop z_M_notes (fun e => sk_ok sk_rec 189 e.1 e.2) 50 25 tk_M_notes_50 (sk_drop_nil z_M_notes (fun e => sk_ok sk_rec 189 e.1 e.2) 75 rfl)))
set_option maxRecDepth 1000000 in
theorem tk_M_stroke_0 : ((z_M_stroke.drop 0).take 25).all (fun e => sk_ok sk_rec 190 e.1 e.2) = true := by decide +kernel
set_option maxRecDepth 1000000 in
theorem tk_M_stroke_25 : ((z_M_stroke.drop 25).take 25).all (fun e => sk_ok sk_rec 190 e.1 e.2) = true := by decide +kernel
set_option maxRecDepth 1000000 in
theorem tk_M_stroke_50 : ((z_M_stroke.drop 50).take 25).all (fun e => sk_ok sk_rec 190 e.1 e.2) = true := by decide +kernel
set_option maxRecDepth 1000000 in
theorem tk_M_stroke : z_M_stroke.all (fun e => sk_ok sk_rec 190 e.1 e.2) = true := sk_take_drop z_M_stroke (fun e => sk_ok sk_rec 190 e.1 e.2) 0 25 tk_M_stroke_0 (sk_take_drop z_M_stroke (fun e => sk_ok sk_rec 190 e.1 e.2) 25 25 tk_M_stroke_25 (sk_take_drop z_M_stroke (fun e => sk_ok sk_rec 190 e.1 e.2) 50 25 tk_M_stroke_50 (sk_drop_nil z_M_stroke (fun e => sk_ok sk_rec 190 e.1 e.2) 75 rfl)))
set_option maxRecDepth 1000000 in
theorem tk_M_up_0 : ((z_M_up.drop 0).take 25).all (fun e => sk_ok sk_rec 191 e.1 e.2) = true := by decide +kernel
set_option maxRecDepth 1000000 in
theorem tk_M_up_25 : ((z_M_up.drop 25).take 25).all (fun e => sk_ok sk_rec 191 e.1 e.2) = true := by decide +kernel
set_option maxRecDepth 1000000 in
theorem tk_M_up : z_M_up.all (fun e => sk_ok sk_rec 191 e.1 e.2) = true := sk_take_drop z_M_up (fun e => sk_ok sk_rec 191 e.1 e.2) 0 25 tk_M_up_0 (sk_take_drop z_M_up (fun e => sk_ok sk_rec 191 e.1 e.2) 25 25 tk_M_up_25 (sk_drop_nil z_M_up (fun e => sk_ok sk_rec 191 e.1 e.2) 50 rfl))
set_option maxRecDepth 1000000 in
theorem tk_M_pass : z_M_pass.all (fun e => sk_ok sk_rec 192 e.1 e.2) = true := by decide +kernel
set_option maxRecDepth 1000000 in
theorem tk_M_won : z_M_won.all (fun e => sk_ok sk_rec 193 e.1 e.2) = true := by decide +kernel
set_option maxRecDepth 1000000 in
theorem tk_M_wins_0 : ((z_M_wins.drop 0).take 25).all (fun e => sk_ok sk_rec 194 e.1 e.2) = true := by decide +kernel
set_option maxRecDepth 1000000 in
theorem tk_M_wins_25 : ((z_M_wins.drop 25).take 25).all (fun e => sk_ok sk_rec 194 e.1 e.2) = true := by decide +kernel
set_option maxRecDepth 1000000 in
theorem tk_M_wins_50 : ((z_M_wins.drop 50).take 25).all (fun e => sk_ok sk_rec 194 e.1 e.2) = true := by decide +kernel
set_option maxRecDepth 1000000 in
theorem tk_M_wins : z_M_wins.all (fun e => sk_ok sk_rec 194 e.1 e.2) = true := sk_take_drop z_M_wins (fun e => sk_ok sk_rec 194 e.1 e.2) 0 25 tk_M_wins_0 (sk_take_drop z_M_wins (fun e => sk_ok sk_rec 194 e.1 e.2) 25 25 tk_M_wins_25 (sk_take_drop z_M_wins (fun e => sk_ok sk_rec 194 e.1 e.2) 50 25 tk_M_wins_50 (sk_drop_nil z_M_wins (fun e => sk_ok sk_rec 194 e.1 e.2) 75 rfl)))
set_option maxRecDepth 1000000 in
theorem tk_M_leastUnseen : z_M_leastUnseen.all (fun e => sk_ok sk_rec 195 e.1 e.2) = true := by decide +kernel
set_option maxRecDepth 1000000 in
theorem tk_M_clearsSeen : z_M_clearsSeen.all (fun e => sk_ok sk_rec 196 e.1 e.2) = true := by decide +kernel
set_option maxRecDepth 1000000 in
theorem tk_M_worth_0 : ((z_M_worth.drop 0).take 25).all (fun e => sk_ok sk_rec 197 e.1 e.2) = true := by decide +kernel
set_option maxRecDepth 1000000 in
theorem tk_M_worth_25 : ((z_M_worth.drop 25).take 25).all (fun e => sk_ok sk_rec 197 e.1 e.2) = true := by decide +kernel
set_option maxRecDepth 1000000 in
theorem tk_M_worth_50 : ((z_M_worth.drop 50).take 25).all (fun e => sk_ok sk_rec 197 e.1 e.2) = true := by decide +kernel
set_option maxRecDepth 1000000 in
theorem tk_M_worth_75 : ((z_M_worth.drop 75).take 25).all (fun e => sk_ok sk_rec 197 e.1 e.2) = true := by decide +kernel
set_option maxRecDepth 1000000 in
theorem tk_M_worth_100 : ((z_M_worth.drop 100).take 25).all (fun e => sk_ok sk_rec 197 e.1 e.2) = true := by decide +kernel
set_option maxRecDepth 1000000 in
theorem tk_M_worth : z_M_worth.all (fun e => sk_ok sk_rec 197 e.1 e.2) = true := sk_take_drop z_M_worth (fun e => sk_ok sk_rec 197 e.1 e.2) 0 25 tk_M_worth_0 (sk_take_drop z_M_worth (fun e => sk_ok sk_rec 197 e.1 e.2) 25 25 tk_M_worth_25 (sk_take_drop z_M_worth (fun e => sk_ok sk_rec 197 e.1 e.2) 50 25 tk_M_worth_50 (sk_take_drop z_M_worth (fun e => sk_ok sk_rec 197 e.1 e.2) 75 25 tk_M_worth_75 (sk_take_drop z_M_worth (fun e => sk_ok sk_rec 197 e.1 e.2) 100 25 tk_M_worth_100 (sk_drop_nil z_M_worth (fun e => sk_ok sk_rec 197 e.1 e.2) 125 rfl)))))
