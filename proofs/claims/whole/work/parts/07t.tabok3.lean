set_option maxRecDepth 1000000 in
theorem tk_M_fillsPlains_0 : ((z_M_fillsPlains.drop 0).take 25).all (fun e => sk_ok sk_rec 198 e.1 e.2) = true := by decide +kernel
set_option maxRecDepth 1000000 in
theorem tk_M_fillsPlains_25 : ((z_M_fillsPlains.drop 25).take 25).all (fun e => sk_ok sk_rec 198 e.1 e.2) = true := by decide +kernel
set_option maxRecDepth 1000000 in
theorem tk_M_fillsPlains_50 : ((z_M_fillsPlains.drop 50).take 25).all (fun e => sk_ok sk_rec 198 e.1 e.2) = true := by decide +kernel
set_option maxRecDepth 1000000 in
theorem tk_M_fillsPlains_75 : ((z_M_fillsPlains.drop 75).take 25).all (fun e => sk_ok sk_rec 198 e.1 e.2) = true := by decide +kernel
set_option maxRecDepth 1000000 in
theorem tk_M_fillsPlains : z_M_fillsPlains.all (fun e => sk_ok sk_rec 198 e.1 e.2) = true := sk_take_drop z_M_fillsPlains (fun e => sk_ok sk_rec 198 e.1 e.2) 0 25 tk_M_fillsPlains_0 (sk_take_drop z_M_fillsPlains (fun e => sk_ok sk_rec 198 e.1 e.2) 25 25 tk_M_fillsPlains_25 (sk_take_drop z_M_fillsPlains (fun e => sk_ok sk_rec 198 e.1 e.2) 50 25 tk_M_fillsPlains_50 (sk_take_drop z_M_fillsPlains (fun e => sk_ok sk_rec 198 e.1 e.2) 75 25 tk_M_fillsPlains_75 (sk_drop_nil z_M_fillsPlains (fun e => sk_ok sk_rec 198 e.1 e.2) 100 rfl))))
set_option maxRecDepth 1000000 in
theorem tk_M_plain : z_M_plain.all (fun e => sk_ok sk_rec 199 e.1 e.2) = true := by decide +kernel
set_option maxRecDepth 1000000 in
theorem tk_M_comesAgain : z_M_comesAgain.all (fun e => sk_ok sk_rec 200 e.1 e.2) = true := by decide +kernel
set_option maxRecDepth 1000000 in
theorem tk_M_again_0 : ((z_M_again.drop 0).take 25).all (fun e => sk_ok sk_rec 201 e.1 e.2) = true := by decide +kernel
set_option maxRecDepth 1000000 in
theorem tk_M_again_25 : ((z_M_again.drop 25).take 25).all (fun e => sk_ok sk_rec 201 e.1 e.2) = true := by decide +kernel
set_option maxRecDepth 1000000 in
theorem tk_M_again : z_M_again.all (fun e => sk_ok sk_rec 201 e.1 e.2) = true := sk_take_drop z_M_again (fun e => sk_ok sk_rec 201 e.1 e.2) 0 25 tk_M_again_0 (sk_take_drop z_M_again (fun e => sk_ok sk_rec 201 e.1 e.2) 25 25 tk_M_again_25 (sk_drop_nil z_M_again (fun e => sk_ok sk_rec 201 e.1 e.2) 50 rfl))
set_option maxRecDepth 1000000 in
theorem tk_M_lastsAt_0 : ((z_M_lastsAt.drop 0).take 25).all (fun e => sk_ok sk_rec 202 e.1 e.2) = true := by decide +kernel
set_option maxRecDepth 1000000 in
theorem tk_M_lastsAt_25 : ((z_M_lastsAt.drop 25).take 25).all (fun e => sk_ok sk_rec 202 e.1 e.2) = true := by decide +kernel
set_option maxRecDepth 1000000 in
theorem tk_M_lastsAt_50 : ((z_M_lastsAt.drop 50).take 25).all (fun e => sk_ok sk_rec 202 e.1 e.2) = true := by decide +kernel
set_option maxRecDepth 1000000 in
theorem tk_M_lastsAt : z_M_lastsAt.all (fun e => sk_ok sk_rec 202 e.1 e.2) = true := sk_take_drop z_M_lastsAt (fun e => sk_ok sk_rec 202 e.1 e.2) 0 25 tk_M_lastsAt_0 (sk_take_drop z_M_lastsAt (fun e => sk_ok sk_rec 202 e.1 e.2) 25 25 tk_M_lastsAt_25 (sk_take_drop z_M_lastsAt (fun e => sk_ok sk_rec 202 e.1 e.2) 50 25 tk_M_lastsAt_50 (sk_drop_nil z_M_lastsAt (fun e => sk_ok sk_rec 202 e.1 e.2) 75 rfl)))
set_option maxRecDepth 1000000 in
theorem tk_M_lasts_0 : ((z_M_lasts.drop 0).take 25).all (fun e => sk_ok sk_rec 203 e.1 e.2) = true := by decide +kernel
set_option maxRecDepth 1000000 in
theorem tk_M_lasts_25 : ((z_M_lasts.drop 25).take 25).all (fun e => sk_ok sk_rec 203 e.1 e.2) = true := by decide +kernel
set_option maxRecDepth 1000000 in
theorem tk_M_lasts : z_M_lasts.all (fun e => sk_ok sk_rec 203 e.1 e.2) = true := sk_take_drop z_M_lasts (fun e => sk_ok sk_rec 203 e.1 e.2) 0 25 tk_M_lasts_0 (sk_take_drop z_M_lasts (fun e => sk_ok sk_rec 203 e.1 e.2) 25 25 tk_M_lasts_25 (sk_drop_nil z_M_lasts (fun e => sk_ok sk_rec 203 e.1 e.2) 50 rfl))
set_option maxRecDepth 1000000 in
theorem tk_M_playsAt_0 : ((z_M_playsAt.drop 0).take 25).all (fun e => sk_ok sk_rec 204 e.1 e.2) = true := by decide +kernel
set_option maxRecDepth 1000000 in
theorem tk_M_playsAt_25 : ((z_M_playsAt.drop 25).take 25).all (fun e => sk_ok sk_rec 204 e.1 e.2) = true := by decide +kernel
set_option maxRecDepth 1000000 in
theorem tk_M_playsAt_50 : ((z_M_playsAt.drop 50).take 25).all (fun e => sk_ok sk_rec 204 e.1 e.2) = true := by decide +kernel
set_option maxRecDepth 1000000 in
theorem tk_M_playsAt : z_M_playsAt.all (fun e => sk_ok sk_rec 204 e.1 e.2) = true := sk_take_drop z_M_playsAt (fun e => sk_ok sk_rec 204 e.1 e.2) 0 25 tk_M_playsAt_0 (sk_take_drop z_M_playsAt (fun e => sk_ok sk_rec 204 e.1 e.2) 25 25 tk_M_playsAt_25 (sk_take_drop z_M_playsAt (fun e => sk_ok sk_rec 204 e.1 e.2) 50 25 tk_M_playsAt_50 (sk_drop_nil z_M_playsAt (fun e => sk_ok sk_rec 204 e.1 e.2) 75 rfl)))
set_option maxRecDepth 1000000 in
theorem tk_M_plays_0 : ((z_M_plays.drop 0).take 25).all (fun e => sk_ok sk_rec 205 e.1 e.2) = true := by decide +kernel
set_option maxRecDepth 1000000 in
theorem tk_M_plays_25 : ((z_M_plays.drop 25).take 25).all (fun e => sk_ok sk_rec 205 e.1 e.2) = true := by decide +kernel
set_option maxRecDepth 1000000 in
theorem tk_M_plays : z_M_plays.all (fun e => sk_ok sk_rec 205 e.1 e.2) = true := sk_take_drop z_M_plays (fun e => sk_ok sk_rec 205 e.1 e.2) 0 25 tk_M_plays_0 (sk_take_drop z_M_plays (fun e => sk_ok sk_rec 205 e.1 e.2) 25 25 tk_M_plays_25 (sk_drop_nil z_M_plays (fun e => sk_ok sk_rec 205 e.1 e.2) 50 rfl))
set_option maxRecDepth 1000000 in
theorem tk_M_fair_0 : ((z_M_fair.drop 0).take 25).all (fun e => sk_ok sk_rec 206 e.1 e.2) = true := by decide +kernel
set_option maxRecDepth 1000000 in
theorem tk_M_fair_25 : ((z_M_fair.drop 25).take 25).all (fun e => sk_ok sk_rec 206 e.1 e.2) = true := by decide +kernel
set_option maxRecDepth 1000000 in
theorem tk_M_fair_50 : ((z_M_fair.drop 50).take 25).all (fun e => sk_ok sk_rec 206 e.1 e.2) = true := by decide +kernel
set_option maxRecDepth 1000000 in
theorem tk_M_fair : z_M_fair.all (fun e => sk_ok sk_rec 206 e.1 e.2) = true := sk_take_drop z_M_fair (fun e => sk_ok sk_rec 206 e.1 e.2) 0 25 tk_M_fair_0 (sk_take_drop z_M_fair (fun e => sk_ok sk_rec 206 e.1 e.2) 25 25 tk_M_fair_25 (sk_take_drop z_M_fair (fun e => sk_ok sk_rec 206 e.1 e.2) 50 25 tk_M_fair_50 (sk_drop_nil z_M_fair (fun e => sk_ok sk_rec 206 e.1 e.2) 75 rfl)))
set_option maxRecDepth 1000000 in
theorem tk_M_strayed : z_M_strayed.all (fun e => sk_ok sk_rec 207 e.1 e.2) = true := by decide +kernel
set_option maxRecDepth 1000000 in
theorem tk_M_chanceAt_0 : ((z_M_chanceAt.drop 0).take 25).all (fun e => sk_ok sk_rec 208 e.1 e.2) = true := by decide +kernel
set_option maxRecDepth 1000000 in
theorem tk_M_chanceAt_25 : ((z_M_chanceAt.drop 25).take 25).all (fun e => sk_ok sk_rec 208 e.1 e.2) = true := by decide +kernel
set_option maxRecDepth 1000000 in
theorem tk_M_chanceAt_50 : ((z_M_chanceAt.drop 50).take 25).all (fun e => sk_ok sk_rec 208 e.1 e.2) = true := by decide +kernel
set_option maxRecDepth 1000000 in
theorem tk_M_chanceAt_75 : ((z_M_chanceAt.drop 75).take 25).all (fun e => sk_ok sk_rec 208 e.1 e.2) = true := by decide +kernel
set_option maxRecDepth 1000000 in
theorem tk_M_chanceAt : z_M_chanceAt.all (fun e => sk_ok sk_rec 208 e.1 e.2) = true := sk_take_drop z_M_chanceAt (fun e => sk_ok sk_rec 208 e.1 e.2) 0 25 tk_M_chanceAt_0 (sk_take_drop z_M_chanceAt (fun e => sk_ok sk_rec 208 e.1 e.2) 25 25 tk_M_chanceAt_25 (sk_take_drop z_M_chanceAt (fun e => sk_ok sk_rec 208 e.1 e.2) 50 25 tk_M_chanceAt_50 (sk_take_drop z_M_chanceAt (fun e => sk_ok sk_rec 208 e.1 e.2) 75 25 tk_M_chanceAt_75 (sk_drop_nil z_M_chanceAt (fun e => sk_ok sk_rec 208 e.1 e.2) 100 rfl))))
set_option maxRecDepth 1000000 in
theorem tk_M_chance_0 : ((z_M_chance.drop 0).take 25).all (fun e => sk_ok sk_rec 209 e.1 e.2) = true := by decide +kernel
set_option maxRecDepth 1000000 in
theorem tk_M_chance_25 : ((z_M_chance.drop 25).take 25).all (fun e => sk_ok sk_rec 209 e.1 e.2) = true := by decide +kernel
set_option maxRecDepth 1000000 in
theorem tk_M_chance : z_M_chance.all (fun e => sk_ok sk_rec 209 e.1 e.2) = true := sk_take_drop z_M_chance (fun e => sk_ok sk_rec 209 e.1 e.2) 0 25 tk_M_chance_0 (sk_take_drop z_M_chance (fun e => sk_ok sk_rec 209 e.1 e.2) 25 25 tk_M_chance_25 (sk_drop_nil z_M_chance (fun e => sk_ok sk_rec 209 e.1 e.2) 50 rfl))
set_option maxRecDepth 1000000 in
theorem tk_M_bestAt_0 : ((z_M_bestAt.drop 0).take 25).all (fun e => sk_ok sk_rec 210 e.1 e.2) = true := by decide +kernel
set_option maxRecDepth 1000000 in
theorem tk_M_bestAt_25 : ((z_M_bestAt.drop 25).take 25).all (fun e => sk_ok sk_rec 210 e.1 e.2) = true := by decide +kernel
set_option maxRecDepth 1000000 in
theorem tk_M_bestAt_50 : ((z_M_bestAt.drop 50).take 25).all (fun e => sk_ok sk_rec 210 e.1 e.2) = true := by decide +kernel
set_option maxRecDepth 1000000 in
theorem tk_M_bestAt : z_M_bestAt.all (fun e => sk_ok sk_rec 210 e.1 e.2) = true := sk_take_drop z_M_bestAt (fun e => sk_ok sk_rec 210 e.1 e.2) 0 25 tk_M_bestAt_0 (sk_take_drop z_M_bestAt (fun e => sk_ok sk_rec 210 e.1 e.2) 25 25 tk_M_bestAt_25 (sk_take_drop z_M_bestAt (fun e => sk_ok sk_rec 210 e.1 e.2) 50 25 tk_M_bestAt_50 (sk_drop_nil z_M_bestAt (fun e => sk_ok sk_rec 210 e.1 e.2) 75 rfl)))
set_option maxRecDepth 1000000 in
theorem tk_M_childAt_0 : ((z_M_childAt.drop 0).take 25).all (fun e => sk_ok sk_rec 211 e.1 e.2) = true := by decide +kernel
set_option maxRecDepth 1000000 in
theorem tk_M_childAt_25 : ((z_M_childAt.drop 25).take 25).all (fun e => sk_ok sk_rec 211 e.1 e.2) = true := by decide +kernel
set_option maxRecDepth 1000000 in
theorem tk_M_childAt_50 : ((z_M_childAt.drop 50).take 25).all (fun e => sk_ok sk_rec 211 e.1 e.2) = true := by decide +kernel
set_option maxRecDepth 1000000 in
theorem tk_M_childAt : z_M_childAt.all (fun e => sk_ok sk_rec 211 e.1 e.2) = true := sk_take_drop z_M_childAt (fun e => sk_ok sk_rec 211 e.1 e.2) 0 25 tk_M_childAt_0 (sk_take_drop z_M_childAt (fun e => sk_ok sk_rec 211 e.1 e.2) 25 25 tk_M_childAt_25 (sk_take_drop z_M_childAt (fun e => sk_ok sk_rec 211 e.1 e.2) 50 25 tk_M_childAt_50 (sk_drop_nil z_M_childAt (fun e => sk_ok sk_rec 211 e.1 e.2) 75 rfl)))
set_option maxRecDepth 1000000 in
theorem tk_M_child_0 : ((z_M_child.drop 0).take 25).all (fun e => sk_ok sk_rec 212 e.1 e.2) = true := by decide +kernel
set_option maxRecDepth 1000000 in
theorem tk_M_child_25 : ((z_M_child.drop 25).take 25).all (fun e => sk_ok sk_rec 212 e.1 e.2) = true := by decide +kernel
set_option maxRecDepth 1000000 in
theorem tk_M_child : z_M_child.all (fun e => sk_ok sk_rec 212 e.1 e.2) = true := sk_take_drop z_M_child (fun e => sk_ok sk_rec 212 e.1 e.2) 0 25 tk_M_child_0 (sk_take_drop z_M_child (fun e => sk_ok sk_rec 212 e.1 e.2) 25 25 tk_M_child_25 (sk_drop_nil z_M_child (fun e => sk_ok sk_rec 212 e.1 e.2) 50 rfl))
set_option maxRecDepth 1000000 in
theorem tk_M_countsRun_0 : ((z_M_countsRun.drop 0).take 25).all (fun e => sk_ok sk_rec 213 e.1 e.2) = true := by decide +kernel
set_option maxRecDepth 1000000 in
theorem tk_M_countsRun_25 : ((z_M_countsRun.drop 25).take 25).all (fun e => sk_ok sk_rec 213 e.1 e.2) = true := by decide +kernel
set_option maxRecDepth 1000000 in
theorem tk_M_countsRun : z_M_countsRun.all (fun e => sk_ok sk_rec 213 e.1 e.2) = true := sk_take_drop z_M_countsRun (fun e => sk_ok sk_rec 213 e.1 e.2) 0 25 tk_M_countsRun_0 (sk_take_drop z_M_countsRun (fun e => sk_ok sk_rec 213 e.1 e.2) 25 25 tk_M_countsRun_25 (sk_drop_nil z_M_countsRun (fun e => sk_ok sk_rec 213 e.1 e.2) 50 rfl))
set_option maxRecDepth 1000000 in
theorem tk_M_countsRow_0 : ((z_M_countsRow.drop 0).take 25).all (fun e => sk_ok sk_rec 214 e.1 e.2) = true := by decide +kernel
set_option maxRecDepth 1000000 in
theorem tk_M_countsRow_25 : ((z_M_countsRow.drop 25).take 25).all (fun e => sk_ok sk_rec 214 e.1 e.2) = true := by decide +kernel
set_option maxRecDepth 1000000 in
theorem tk_M_countsRow_50 : ((z_M_countsRow.drop 50).take 25).all (fun e => sk_ok sk_rec 214 e.1 e.2) = true := by decide +kernel
set_option maxRecDepth 1000000 in
theorem tk_M_countsRow : z_M_countsRow.all (fun e => sk_ok sk_rec 214 e.1 e.2) = true := sk_take_drop z_M_countsRow (fun e => sk_ok sk_rec 214 e.1 e.2) 0 25 tk_M_countsRow_0 (sk_take_drop z_M_countsRow (fun e => sk_ok sk_rec 214 e.1 e.2) 25 25 tk_M_countsRow_25 (sk_take_drop z_M_countsRow (fun e => sk_ok sk_rec 214 e.1 e.2) 50 25 tk_M_countsRow_50 (sk_drop_nil z_M_countsRow (fun e => sk_ok sk_rec 214 e.1 e.2) 75 rfl)))
set_option maxRecDepth 1000000 in
theorem tk_M_countsRuns : z_M_countsRuns.all (fun e => sk_ok sk_rec 215 e.1 e.2) = true := by decide +kernel
set_option maxRecDepth 1000000 in
theorem tk_M_words_0 : ((z_M_words.drop 0).take 25).all (fun e => sk_ok sk_rec 216 e.1 e.2) = true := by decide +kernel
set_option maxRecDepth 1000000 in
theorem tk_M_words_25 : ((z_M_words.drop 25).take 25).all (fun e => sk_ok sk_rec 216 e.1 e.2) = true := by decide +kernel
set_option maxRecDepth 1000000 in
theorem tk_M_words_50 : ((z_M_words.drop 50).take 25).all (fun e => sk_ok sk_rec 216 e.1 e.2) = true := by decide +kernel
set_option maxRecDepth 1000000 in
theorem tk_M_words_75 : ((z_M_words.drop 75).take 25).all (fun e => sk_ok sk_rec 216 e.1 e.2) = true := by decide +kernel
set_option maxRecDepth 1000000 in
theorem tk_M_words : z_M_words.all (fun e => sk_ok sk_rec 216 e.1 e.2) = true := sk_take_drop z_M_words (fun e => sk_ok sk_rec 216 e.1 e.2) 0 25 tk_M_words_0 (sk_take_drop z_M_words (fun e => sk_ok sk_rec 216 e.1 e.2) 25 25 tk_M_words_25 (sk_take_drop z_M_words (fun e => sk_ok sk_rec 216 e.1 e.2) 50 25 tk_M_words_50 (sk_take_drop z_M_words (fun e => sk_ok sk_rec 216 e.1 e.2) 75 25 tk_M_words_75 (sk_drop_nil z_M_words (fun e => sk_ok sk_rec 216 e.1 e.2) 100 rfl))))
set_option maxRecDepth 1000000 in
theorem tk_M_summedBy_0 : ((z_M_summedBy.drop 0).take 25).all (fun e => sk_ok sk_rec 217 e.1 e.2) = true := by decide +kernel
set_option maxRecDepth 1000000 in
theorem tk_M_summedBy_25 : ((z_M_summedBy.drop 25).take 25).all (fun e => sk_ok sk_rec 217 e.1 e.2) = true := by decide +kernel
set_option maxRecDepth 1000000 in
theorem tk_M_summedBy_50 : ((z_M_summedBy.drop 50).take 25).all (fun e => sk_ok sk_rec 217 e.1 e.2) = true := by decide +kernel
set_option maxRecDepth 1000000 in
theorem tk_M_summedBy : z_M_summedBy.all (fun e => sk_ok sk_rec 217 e.1 e.2) = true := sk_take_drop z_M_summedBy (fun e => sk_ok sk_rec 217 e.1 e.2) 0 25 tk_M_summedBy_0 (sk_take_drop z_M_summedBy (fun e => sk_ok sk_rec 217 e.1 e.2) 25 25 tk_M_summedBy_25 (sk_take_drop z_M_summedBy (fun e => sk_ok sk_rec 217 e.1 e.2) 50 25 tk_M_summedBy_50 (sk_drop_nil z_M_summedBy (fun e => sk_ok sk_rec 217 e.1 e.2) 75 rfl)))
set_option maxRecDepth 1000000 in
theorem tk_M_strokeBy_0 : ((z_M_strokeBy.drop 0).take 25).all (fun e => sk_ok sk_rec 218 e.1 e.2) = true := by decide +kernel
set_option maxRecDepth 1000000 in
theorem tk_M_strokeBy_25 : ((z_M_strokeBy.drop 25).take 25).all (fun e => sk_ok sk_rec 218 e.1 e.2) = true := by decide +kernel
set_option maxRecDepth 1000000 in
theorem tk_M_strokeBy_50 : ((z_M_strokeBy.drop 50).take 25).all (fun e => sk_ok sk_rec 218 e.1 e.2) = true := by decide +kernel
set_option maxRecDepth 1000000 in
theorem tk_M_strokeBy : z_M_strokeBy.all (fun e => sk_ok sk_rec 218 e.1 e.2) = true := sk_take_drop z_M_strokeBy (fun e => sk_ok sk_rec 218 e.1 e.2) 0 25 tk_M_strokeBy_0 (sk_take_drop z_M_strokeBy (fun e => sk_ok sk_rec 218 e.1 e.2) 25 25 tk_M_strokeBy_25 (sk_take_drop z_M_strokeBy (fun e => sk_ok sk_rec 218 e.1 e.2) 50 25 tk_M_strokeBy_50 (sk_drop_nil z_M_strokeBy (fun e => sk_ok sk_rec 218 e.1 e.2) 75 rfl)))
set_option maxRecDepth 1000000 in
theorem tk_M_winner : z_M_winner.all (fun e => sk_ok sk_rec 219 e.1 e.2) = true := by decide +kernel
set_option maxRecDepth 1000000 in
theorem tk_M_match_0 : ((z_M_match.drop 0).take 25).all (fun e => sk_ok sk_rec 220 e.1 e.2) = true := by decide +kernel
set_option maxRecDepth 1000000 in
theorem tk_M_match_25 : ((z_M_match.drop 25).take 25).all (fun e => sk_ok sk_rec 220 e.1 e.2) = true := by decide +kernel
set_option maxRecDepth 1000000 in
theorem tk_M_match_50 : ((z_M_match.drop 50).take 25).all (fun e => sk_ok sk_rec 220 e.1 e.2) = true := by decide +kernel
set_option maxRecDepth 1000000 in
theorem tk_M_match_75 : ((z_M_match.drop 75).take 25).all (fun e => sk_ok sk_rec 220 e.1 e.2) = true := by decide +kernel
set_option maxRecDepth 1000000 in
theorem tk_M_match : z_M_match.all (fun e => sk_ok sk_rec 220 e.1 e.2) = true := sk_take_drop z_M_match (fun e => sk_ok sk_rec 220 e.1 e.2) 0 25 tk_M_match_0 (sk_take_drop z_M_match (fun e => sk_ok sk_rec 220 e.1 e.2) 25 25 tk_M_match_25 (sk_take_drop z_M_match (fun e => sk_ok sk_rec 220 e.1 e.2) 50 25 tk_M_match_50 (sk_take_drop z_M_match (fun e => sk_ok sk_rec 220 e.1 e.2) 75 25 tk_M_match_75 (sk_drop_nil z_M_match (fun e => sk_ok sk_rec 220 e.1 e.2) 100 rfl))))
set_option maxRecDepth 1000000 in
theorem tk_M_noted : z_M_noted.all (fun e => sk_ok sk_rec 221 e.1 e.2) = true := by decide +kernel
set_option maxRecDepth 1000000 in
theorem tk_M_winsNoted : z_M_winsNoted.all (fun e => sk_ok sk_rec 222 e.1 e.2) = true := by decide +kernel
set_option maxRecDepth 1000000 in
theorem tk_M_knew_0 : ((z_M_knew.drop 0).take 25).all (fun e => sk_ok sk_rec 223 e.1 e.2) = true := by decide +kernel
set_option maxRecDepth 1000000 in
theorem tk_M_knew_25 : ((z_M_knew.drop 25).take 25).all (fun e => sk_ok sk_rec 223 e.1 e.2) = true := by decide +kernel
set_option maxRecDepth 1000000 in
theorem tk_M_knew_50 : ((z_M_knew.drop 50).take 25).all (fun e => sk_ok sk_rec 223 e.1 e.2) = true := by decide +kernel
set_option maxRecDepth 1000000 in
theorem tk_M_knew_75 : ((z_M_knew.drop 75).take 25).all (fun e => sk_ok sk_rec 223 e.1 e.2) = true := by decide +kernel
set_option maxRecDepth 1000000 in
theorem tk_M_knew : z_M_knew.all (fun e => sk_ok sk_rec 223 e.1 e.2) = true := sk_take_drop z_M_knew (fun e => sk_ok sk_rec 223 e.1 e.2) 0 25 tk_M_knew_0 (sk_take_drop z_M_knew (fun e => sk_ok sk_rec 223 e.1 e.2) 25 25 tk_M_knew_25 (sk_take_drop z_M_knew (fun e => sk_ok sk_rec 223 e.1 e.2) 50 25 tk_M_knew_50 (sk_take_drop z_M_knew (fun e => sk_ok sk_rec 223 e.1 e.2) 75 25 tk_M_knew_75 (sk_drop_nil z_M_knew (fun e => sk_ok sk_rec 223 e.1 e.2) 100 rfl))))
set_option maxRecDepth 1000000 in
theorem tk_M_fitsLaw_0 : ((z_M_fitsLaw.drop 0).take 25).all (fun e => sk_ok sk_rec 224 e.1 e.2) = true := by decide +kernel
set_option maxRecDepth 1000000 in
theorem tk_M_fitsLaw_25 : ((z_M_fitsLaw.drop 25).take 25).all (fun e => sk_ok sk_rec 224 e.1 e.2) = true := by decide +kernel
set_option maxRecDepth 1000000 in
theorem tk_M_fitsLaw_50 : ((z_M_fitsLaw.drop 50).take 25).all (fun e => sk_ok sk_rec 224 e.1 e.2) = true := by decide +kernel
set_option maxRecDepth 1000000 in
theorem tk_M_fitsLaw : z_M_fitsLaw.all (fun e => sk_ok sk_rec 224 e.1 e.2) = true := sk_take_drop z_M_fitsLaw (fun e => sk_ok sk_rec 224 e.1 e.2) 0 25 tk_M_fitsLaw_0 (sk_take_drop z_M_fitsLaw (fun e => sk_ok sk_rec 224 e.1 e.2) 25 25 tk_M_fitsLaw_25 (sk_take_drop z_M_fitsLaw (fun e => sk_ok sk_rec 224 e.1 e.2) 50 25 tk_M_fitsLaw_50 (sk_drop_nil z_M_fitsLaw (fun e => sk_ok sk_rec 224 e.1 e.2) 75 rfl)))
set_option maxRecDepth 1000000 in
theorem tk_M_law_0 : ((z_M_law.drop 0).take 25).all (fun e => sk_ok sk_rec 225 e.1 e.2) = true := by decide +kernel
set_option maxRecDepth 1000000 in
theorem tk_M_law_25 : ((z_M_law.drop 25).take 25).all (fun e => sk_ok sk_rec 225 e.1 e.2) = true := by decide +kernel
set_option maxRecDepth 1000000 in
theorem tk_M_law_50 : ((z_M_law.drop 50).take 25).all (fun e => sk_ok sk_rec 225 e.1 e.2) = true := by decide +kernel
set_option maxRecDepth 1000000 in
theorem tk_M_law_75 : ((z_M_law.drop 75).take 25).all (fun e => sk_ok sk_rec 225 e.1 e.2) = true := by decide +kernel
set_option maxRecDepth 1000000 in
theorem tk_M_law : z_M_law.all (fun e => sk_ok sk_rec 225 e.1 e.2) = true := sk_take_drop z_M_law (fun e => sk_ok sk_rec 225 e.1 e.2) 0 25 tk_M_law_0 (sk_take_drop z_M_law (fun e => sk_ok sk_rec 225 e.1 e.2) 25 25 tk_M_law_25 (sk_take_drop z_M_law (fun e => sk_ok sk_rec 225 e.1 e.2) 50 25 tk_M_law_50 (sk_take_drop z_M_law (fun e => sk_ok sk_rec 225 e.1 e.2) 75 25 tk_M_law_75 (sk_drop_nil z_M_law (fun e => sk_ok sk_rec 225 e.1 e.2) 100 rfl))))
set_option maxRecDepth 1000000 in
theorem tk_M_seed : z_M_seed.all (fun e => sk_ok sk_rec 226 e.1 e.2) = true := by decide +kernel
set_option maxRecDepth 1000000 in
theorem tk_M_draw : z_M_draw.all (fun e => sk_ok sk_rec 227 e.1 e.2) = true := by decide +kernel
set_option maxRecDepth 1000000 in
theorem tk_M_strokeDrawn_0 : ((z_M_strokeDrawn.drop 0).take 25).all (fun e => sk_ok sk_rec 228 e.1 e.2) = true := by decide +kernel
set_option maxRecDepth 1000000 in
theorem tk_M_strokeDrawn_25 : ((z_M_strokeDrawn.drop 25).take 25).all (fun e => sk_ok sk_rec 228 e.1 e.2) = true := by decide +kernel
set_option maxRecDepth 1000000 in
theorem tk_M_strokeDrawn_50 : ((z_M_strokeDrawn.drop 50).take 25).all (fun e => sk_ok sk_rec 228 e.1 e.2) = true := by decide +kernel
set_option maxRecDepth 1000000 in
theorem tk_M_strokeDrawn_75 : ((z_M_strokeDrawn.drop 75).take 25).all (fun e => sk_ok sk_rec 228 e.1 e.2) = true := by decide +kernel
set_option maxRecDepth 1000000 in
theorem tk_M_strokeDrawn : z_M_strokeDrawn.all (fun e => sk_ok sk_rec 228 e.1 e.2) = true := sk_take_drop z_M_strokeDrawn (fun e => sk_ok sk_rec 228 e.1 e.2) 0 25 tk_M_strokeDrawn_0 (sk_take_drop z_M_strokeDrawn (fun e => sk_ok sk_rec 228 e.1 e.2) 25 25 tk_M_strokeDrawn_25 (sk_take_drop z_M_strokeDrawn (fun e => sk_ok sk_rec 228 e.1 e.2) 50 25 tk_M_strokeDrawn_50 (sk_take_drop z_M_strokeDrawn (fun e => sk_ok sk_rec 228 e.1 e.2) 75 25 tk_M_strokeDrawn_75 (sk_drop_nil z_M_strokeDrawn (fun e => sk_ok sk_rec 228 e.1 e.2) 100 rfl))))
set_option maxRecDepth 1000000 in
theorem tk_M_playsDrawn_0 : ((z_M_playsDrawn.drop 0).take 25).all (fun e => sk_ok sk_rec 229 e.1 e.2) = true := by decide +kernel
set_option maxRecDepth 1000000 in
theorem tk_M_playsDrawn_25 : ((z_M_playsDrawn.drop 25).take 25).all (fun e => sk_ok sk_rec 229 e.1 e.2) = true := by decide +kernel
set_option maxRecDepth 1000000 in
theorem tk_M_playsDrawn_50 : ((z_M_playsDrawn.drop 50).take 25).all (fun e => sk_ok sk_rec 229 e.1 e.2) = true := by decide +kernel
set_option maxRecDepth 1000000 in
theorem tk_M_playsDrawn_75 : ((z_M_playsDrawn.drop 75).take 25).all (fun e => sk_ok sk_rec 229 e.1 e.2) = true := by decide +kernel
set_option maxRecDepth 1000000 in
theorem tk_M_playsDrawn : z_M_playsDrawn.all (fun e => sk_ok sk_rec 229 e.1 e.2) = true := sk_take_drop z_M_playsDrawn (fun e => sk_ok sk_rec 229 e.1 e.2) 0 25 tk_M_playsDrawn_0 (sk_take_drop z_M_playsDrawn (fun e => sk_ok sk_rec 229 e.1 e.2) 25 25 tk_M_playsDrawn_25 (sk_take_drop z_M_playsDrawn (fun e => sk_ok sk_rec 229 e.1 e.2) 50 25 tk_M_playsDrawn_50 (sk_take_drop z_M_playsDrawn (fun e => sk_ok sk_rec 229 e.1 e.2) 75 25 tk_M_playsDrawn_75 (sk_drop_nil z_M_playsDrawn (fun e => sk_ok sk_rec 229 e.1 e.2) 100 rfl))))
set_option maxRecDepth 1000000 in
theorem tk_M_games_0 : ((z_M_games.drop 0).take 25).all (fun e => sk_ok sk_rec 230 e.1 e.2) = true := by decide +kernel
set_option maxRecDepth 1000000 in
theorem tk_M_games_25 : ((z_M_games.drop 25).take 25).all (fun e => sk_ok sk_rec 230 e.1 e.2) = true := by decide +kernel
set_option maxRecDepth 1000000 in
theorem tk_M_games : z_M_games.all (fun e => sk_ok sk_rec 230 e.1 e.2) = true := sk_take_drop z_M_games (fun e => sk_ok sk_rec 230 e.1 e.2) 0 25 tk_M_games_0 (sk_take_drop z_M_games (fun e => sk_ok sk_rec 230 e.1 e.2) 25 25 tk_M_games_25 (sk_drop_nil z_M_games (fun e => sk_ok sk_rec 230 e.1 e.2) 50 rfl))
set_option maxRecDepth 1000000 in
theorem tk_M_against_0 : ((z_M_against.drop 0).take 25).all (fun e => sk_ok sk_rec 231 e.1 e.2) = true := by decide +kernel
set_option maxRecDepth 1000000 in
theorem tk_M_against_25 : ((z_M_against.drop 25).take 25).all (fun e => sk_ok sk_rec 231 e.1 e.2) = true := by decide +kernel
set_option maxRecDepth 1000000 in
theorem tk_M_against : z_M_against.all (fun e => sk_ok sk_rec 231 e.1 e.2) = true := sk_take_drop z_M_against (fun e => sk_ok sk_rec 231 e.1 e.2) 0 25 tk_M_against_0 (sk_take_drop z_M_against (fun e => sk_ok sk_rec 231 e.1 e.2) 25 25 tk_M_against_25 (sk_drop_nil z_M_against (fun e => sk_ok sk_rec 231 e.1 e.2) 50 rfl))
set_option maxRecDepth 1000000 in
theorem tk_M_count_0 : ((z_M_count.drop 0).take 25).all (fun e => sk_ok sk_rec 232 e.1 e.2) = true := by decide +kernel
set_option maxRecDepth 1000000 in
theorem tk_M_count_25 : ((z_M_count.drop 25).take 25).all (fun e => sk_ok sk_rec 232 e.1 e.2) = true := by decide +kernel
set_option maxRecDepth 1000000 in
theorem tk_M_count : z_M_count.all (fun e => sk_ok sk_rec 232 e.1 e.2) = true := sk_take_drop z_M_count (fun e => sk_ok sk_rec 232 e.1 e.2) 0 25 tk_M_count_0 (sk_take_drop z_M_count (fun e => sk_ok sk_rec 232 e.1 e.2) 25 25 tk_M_count_25 (sk_drop_nil z_M_count (fun e => sk_ok sk_rec 232 e.1 e.2) 50 rfl))
set_option maxRecDepth 1000000 in
theorem tk_M_image_0 : ((z_M_image.drop 0).take 25).all (fun e => sk_ok sk_rec 233 e.1 e.2) = true := by decide +kernel
set_option maxRecDepth 1000000 in
theorem tk_M_image_25 : ((z_M_image.drop 25).take 25).all (fun e => sk_ok sk_rec 233 e.1 e.2) = true := by decide +kernel
set_option maxRecDepth 1000000 in
theorem tk_M_image : z_M_image.all (fun e => sk_ok sk_rec 233 e.1 e.2) = true := sk_take_drop z_M_image (fun e => sk_ok sk_rec 233 e.1 e.2) 0 25 tk_M_image_0 (sk_take_drop z_M_image (fun e => sk_ok sk_rec 233 e.1 e.2) 25 25 tk_M_image_25 (sk_drop_nil z_M_image (fun e => sk_ok sk_rec 233 e.1 e.2) 50 rfl))
set_option maxRecDepth 1000000 in
theorem tk_M_back_0 : ((z_M_back.drop 0).take 25).all (fun e => sk_ok sk_rec 234 e.1 e.2) = true := by decide +kernel
set_option maxRecDepth 1000000 in
theorem tk_M_back_25 : ((z_M_back.drop 25).take 25).all (fun e => sk_ok sk_rec 234 e.1 e.2) = true := by decide +kernel
set_option maxRecDepth 1000000 in
theorem tk_M_back : z_M_back.all (fun e => sk_ok sk_rec 234 e.1 e.2) = true := sk_take_drop z_M_back (fun e => sk_ok sk_rec 234 e.1 e.2) 0 25 tk_M_back_0 (sk_take_drop z_M_back (fun e => sk_ok sk_rec 234 e.1 e.2) 25 25 tk_M_back_25 (sk_drop_nil z_M_back (fun e => sk_ok sk_rec 234 e.1 e.2) 50 rfl))
set_option maxRecDepth 1000000 in
theorem tk_JI_numberOfTrailingZeros_0 : ((z_JI_numberOfTrailingZeros.drop 0).take 25).all (fun e => sk_ok sk_rec 235 e.1 e.2) = true := by decide +kernel
set_option maxRecDepth 1000000 in
theorem tk_JI_numberOfTrailingZeros_25 : ((z_JI_numberOfTrailingZeros.drop 25).take 25).all (fun e => sk_ok sk_rec 235 e.1 e.2) = true := by decide +kernel
set_option maxRecDepth 1000000 in
theorem tk_JI_numberOfTrailingZeros_50 : ((z_JI_numberOfTrailingZeros.drop 50).take 25).all (fun e => sk_ok sk_rec 235 e.1 e.2) = true := by decide +kernel
set_option maxRecDepth 1000000 in
theorem tk_JI_numberOfTrailingZeros : z_JI_numberOfTrailingZeros.all (fun e => sk_ok sk_rec 235 e.1 e.2) = true := sk_take_drop z_JI_numberOfTrailingZeros (fun e => sk_ok sk_rec 235 e.1 e.2) 0 25 tk_JI_numberOfTrailingZeros_0 (sk_take_drop z_JI_numberOfTrailingZeros (fun e => sk_ok sk_rec 235 e.1 e.2) 25 25 tk_JI_numberOfTrailingZeros_25 (sk_take_drop z_JI_numberOfTrailingZeros (fun e => sk_ok sk_rec 235 e.1 e.2) 50 25 tk_JI_numberOfTrailingZeros_50 (sk_drop_nil z_JI_numberOfTrailingZeros (fun e => sk_ok sk_rec 235 e.1 e.2) 75 rfl)))
set_option maxRecDepth 1000000 in
theorem tk_JI_bitCount_0 : ((z_JI_bitCount.drop 0).take 25).all (fun e => sk_ok sk_rec 236 e.1 e.2) = true := by decide +kernel
set_option maxRecDepth 1000000 in
theorem tk_JI_bitCount_25 : ((z_JI_bitCount.drop 25).take 25).all (fun e => sk_ok sk_rec 236 e.1 e.2) = true := by decide +kernel
set_option maxRecDepth 1000000 in
theorem tk_JI_bitCount : z_JI_bitCount.all (fun e => sk_ok sk_rec 236 e.1 e.2) = true := sk_take_drop z_JI_bitCount (fun e => sk_ok sk_rec 236 e.1 e.2) 0 25 tk_JI_bitCount_0 (sk_take_drop z_JI_bitCount (fun e => sk_ok sk_rec 236 e.1 e.2) 25 25 tk_JI_bitCount_25 (sk_drop_nil z_JI_bitCount (fun e => sk_ok sk_rec 236 e.1 e.2) 50 rfl))
set_option maxRecDepth 1000000 in
theorem tk_JL_numberOfTrailingZeros : z_JL_numberOfTrailingZeros.all (fun e => sk_ok sk_rec 237 e.1 e.2) = true := by decide +kernel
set_option maxRecDepth 1000000 in
theorem tk_JL_bitCount_0 : ((z_JL_bitCount.drop 0).take 25).all (fun e => sk_ok sk_rec 238 e.1 e.2) = true := by decide +kernel
set_option maxRecDepth 1000000 in
theorem tk_JL_bitCount_25 : ((z_JL_bitCount.drop 25).take 25).all (fun e => sk_ok sk_rec 238 e.1 e.2) = true := by decide +kernel
set_option maxRecDepth 1000000 in
theorem tk_JL_bitCount : z_JL_bitCount.all (fun e => sk_ok sk_rec 238 e.1 e.2) = true := sk_take_drop z_JL_bitCount (fun e => sk_ok sk_rec 238 e.1 e.2) 0 25 tk_JL_bitCount_0 (sk_take_drop z_JL_bitCount (fun e => sk_ok sk_rec 238 e.1 e.2) 25 25 tk_JL_bitCount_25 (sk_drop_nil z_JL_bitCount (fun e => sk_ok sk_rec 238 e.1 e.2) 50 rfl))
set_option maxRecDepth 1000000 in
theorem tk_JM_max : z_JM_max.all (fun e => sk_ok sk_rec 239 e.1 e.2) = true := by decide +kernel
set_option maxRecDepth 1000000 in
theorem tk_JM_min : z_JM_min.all (fun e => sk_ok sk_rec 240 e.1 e.2) = true := by decide +kernel
set_option maxRecDepth 1000000 in
theorem tk_JS_length : z_JS_length.all (fun e => sk_ok sk_rec 241 e.1 e.2) = true := by decide +kernel
set_option maxRecDepth 1000000 in
theorem tk_JS_charAt : z_JS_charAt.all (fun e => sk_ok sk_rec 242 e.1 e.2) = true := by decide +kernel
set_option maxRecDepth 1000000 in
theorem tk_JS_coder : z_JS_coder.all (fun e => sk_ok sk_rec 243 e.1 e.2) = true := by decide +kernel
set_option maxRecDepth 1000000 in
theorem tk_JS_isLatin1 : z_JS_isLatin1.all (fun e => sk_ok sk_rec 244 e.1 e.2) = true := by decide +kernel
set_option maxRecDepth 1000000 in
theorem tk_JS_checkIndex : z_JS_checkIndex.all (fun e => sk_ok sk_rec 245 e.1 e.2) = true := by decide +kernel
set_option maxRecDepth 1000000 in
theorem tk_JT_charAt : z_JT_charAt.all (fun e => sk_ok sk_rec 246 e.1 e.2) = true := by decide +kernel
set_option maxRecDepth 1000000 in
theorem tk_JU_getChar_0 : ((z_JU_getChar.drop 0).take 25).all (fun e => sk_ok sk_rec 247 e.1 e.2) = true := by decide +kernel
set_option maxRecDepth 1000000 in
theorem tk_JU_getChar_25 : ((z_JU_getChar.drop 25).take 25).all (fun e => sk_ok sk_rec 247 e.1 e.2) = true := by decide +kernel
set_option maxRecDepth 1000000 in
theorem tk_JU_getChar : z_JU_getChar.all (fun e => sk_ok sk_rec 247 e.1 e.2) = true := sk_take_drop z_JU_getChar (fun e => sk_ok sk_rec 247 e.1 e.2) 0 25 tk_JU_getChar_0 (sk_take_drop z_JU_getChar (fun e => sk_ok sk_rec 247 e.1 e.2) 25 25 tk_JU_getChar_25 (sk_drop_nil z_JU_getChar (fun e => sk_ok sk_rec 247 e.1 e.2) 50 rfl))
set_option maxRecDepth 1000000 in
theorem tk_JU_length : z_JU_length.all (fun e => sk_ok sk_rec 248 e.1 e.2) = true := by decide +kernel
set_option maxRecDepth 1000000 in
theorem tk_JU_charAt : z_JU_charAt.all (fun e => sk_ok sk_rec 249 e.1 e.2) = true := by decide +kernel
set_option maxRecDepth 1000000 in
theorem tk_JU_checkIndex : z_JU_checkIndex.all (fun e => sk_ok sk_rec 250 e.1 e.2) = true := by decide +kernel
set_option maxRecDepth 1000000 in
theorem tk_JP_checkIndex : z_JP_checkIndex.all (fun e => sk_ok sk_rec 251 e.1 e.2) = true := by decide +kernel
set_option maxRecDepth 1000000 in
theorem tk_L_law_0 : ((z_L_law.drop 0).take 25).all (fun e => sk_ok sk_rec 252 e.1 e.2) = true := by decide +kernel
set_option maxRecDepth 1000000 in
theorem tk_L_law_25 : ((z_L_law.drop 25).take 25).all (fun e => sk_ok sk_rec 252 e.1 e.2) = true := by decide +kernel
set_option maxRecDepth 1000000 in
theorem tk_L_law_50 : ((z_L_law.drop 50).take 25).all (fun e => sk_ok sk_rec 252 e.1 e.2) = true := by decide +kernel
set_option maxRecDepth 1000000 in
theorem tk_L_law_75 : ((z_L_law.drop 75).take 25).all (fun e => sk_ok sk_rec 252 e.1 e.2) = true := by decide +kernel
set_option maxRecDepth 1000000 in
theorem tk_L_law_100 : ((z_L_law.drop 100).take 25).all (fun e => sk_ok sk_rec 252 e.1 e.2) = true := by decide +kernel
set_option maxRecDepth 1000000 in
theorem tk_L_law_125 : ((z_L_law.drop 125).take 25).all (fun e => sk_ok sk_rec 252 e.1 e.2) = true := by decide +kernel
set_option maxRecDepth 1000000 in
theorem tk_L_law_150 : ((z_L_law.drop 150).take 25).all (fun e => sk_ok sk_rec 252 e.1 e.2) = true := by decide +kernel
set_option maxRecDepth 1000000 in
theorem tk_L_law_175 : ((z_L_law.drop 175).take 25).all (fun e => sk_ok sk_rec 252 e.1 e.2) = true := by decide +kernel
set_option maxRecDepth 1000000 in
theorem tk_L_law_200 : ((z_L_law.drop 200).take 25).all (fun e => sk_ok sk_rec 252 e.1 e.2) = true := by decide +kernel
set_option maxRecDepth 1000000 in
theorem tk_L_law_225 : ((z_L_law.drop 225).take 25).all (fun e => sk_ok sk_rec 252 e.1 e.2) = true := by decide +kernel
set_option maxRecDepth 1000000 in
theorem tk_L_law_250 : ((z_L_law.drop 250).take 25).all (fun e => sk_ok sk_rec 252 e.1 e.2) = true := by decide +kernel
set_option maxRecDepth 1000000 in
theorem tk_L_law_275 : ((z_L_law.drop 275).take 25).all (fun e => sk_ok sk_rec 252 e.1 e.2) = true := by decide +kernel
set_option maxRecDepth 1000000 in
theorem tk_L_law_300 : ((z_L_law.drop 300).take 25).all (fun e => sk_ok sk_rec 252 e.1 e.2) = true := by decide +kernel
set_option maxRecDepth 1000000 in
theorem tk_L_law_325 : ((z_L_law.drop 325).take 25).all (fun e => sk_ok sk_rec 252 e.1 e.2) = true := by decide +kernel
set_option maxRecDepth 1000000 in
theorem tk_L_law_350 : ((z_L_law.drop 350).take 25).all (fun e => sk_ok sk_rec 252 e.1 e.2) = true := by decide +kernel
set_option maxRecDepth 1000000 in
theorem tk_L_law_375 : ((z_L_law.drop 375).take 25).all (fun e => sk_ok sk_rec 252 e.1 e.2) = true := by decide +kernel
set_option maxRecDepth 1000000 in
theorem tk_L_law_400 : ((z_L_law.drop 400).take 25).all (fun e => sk_ok sk_rec 252 e.1 e.2) = true := by decide +kernel
set_option maxRecDepth 1000000 in
theorem tk_L_law_425 : ((z_L_law.drop 425).take 25).all (fun e => sk_ok sk_rec 252 e.1 e.2) = true := by decide +kernel
set_option maxRecDepth 1000000 in
theorem tk_L_law_450 : ((z_L_law.drop 450).take 25).all (fun e => sk_ok sk_rec 252 e.1 e.2) = true := by decide +kernel
set_option maxRecDepth 1000000 in
theorem tk_L_law_475 : ((z_L_law.drop 475).take 25).all (fun e => sk_ok sk_rec 252 e.1 e.2) = true := by decide +kernel
set_option maxRecDepth 1000000 in
theorem tk_L_law_500 : ((z_L_law.drop 500).take 25).all (fun e => sk_ok sk_rec 252 e.1 e.2) = true := by decide +kernel
set_option maxRecDepth 1000000 in
theorem tk_L_law_525 : ((z_L_law.drop 525).take 25).all (fun e => sk_ok sk_rec 252 e.1 e.2) = true := by decide +kernel
set_option maxRecDepth 1000000 in
theorem tk_L_law_550 : ((z_L_law.drop 550).take 25).all (fun e => sk_ok sk_rec 252 e.1 e.2) = true := by decide +kernel
set_option maxRecDepth 1000000 in
theorem tk_L_law : z_L_law.all (fun e => sk_ok sk_rec 252 e.1 e.2) = true := sk_take_drop z_L_law (fun e => sk_ok sk_rec 252 e.1 e.2) 0 25 tk_L_law_0 (sk_take_drop z_L_law (fun e => sk_ok sk_rec 252 e.1 e.2) 25 25 tk_L_law_25 (sk_take_drop z_L_law (fun e => sk_ok sk_rec 252 e.1 e.2) 50 25 tk_L_law_50 (sk_take_drop z_L_law (fun e => sk_ok sk_rec 252 e.1 e.2) 75 25 tk_L_law_75 (sk_take_drop z_L_law (fun e => sk_ok sk_rec 252 e.1 e.2) 100 25 tk_L_law_100 (sk_take_drop z_L_law (fun e => sk_ok sk_rec 252 e.1 e.2) 125 25 tk_L_law_125 (sk_take_drop z_L_law (fun e => sk_ok sk_rec 252 e.1 e.2) 150 25 tk_L_law_150 (sk_take_drop z_L_law (fun e => sk_ok sk_rec 252 e.1 e.2) 175 25 tk_L_law_175 (sk_take_drop z_L_law (fun e => sk_ok sk_rec 252 e.1 e.2) 200 25 tk_L_law_200 (sk_take_drop z_L_law (fun e => sk_ok sk_rec 252 e.1 e.2) 225 25 tk_L_law_225 (sk_take_drop z_L_law (fun e => sk_ok sk_rec 252 e.1 e.2) 250 25 tk_L_law_250 (sk_take_drop z_L_law (fun e => sk_ok sk_rec 252 e.1 e.2) 275 25 tk_L_law_275 (sk_take_drop z_L_law (fun e => sk_ok sk_rec 252 e.1 e.2) 300 25 tk_L_law_300 (sk_take_drop z_L_law (fun e => sk_ok sk_rec 252 e.1 e.2) 325 25 tk_L_law_325 (sk_take_drop z_L_law (fun e => sk_ok sk_rec 252 e.1 e.2) 350 25 tk_L_law_350 (sk_take_drop z_L_law (fun e => sk_ok sk_rec 252 e.1 e.2) 375 25 tk_L_law_375 (sk_take_drop z_L_law (fun e => sk_ok sk_rec 252 e.1 e.2) 400 25 tk_L_law_400 (sk_take_drop z_L_law (fun e => sk_ok sk_rec 252 e.1 e.2) 425 25 tk_L_law_425 (sk_take_drop z_L_law (fun e => sk_ok sk_rec 252 e.1 e.2) 450 25 tk_L_law_450 (sk_take_drop z_L_law (fun e => sk_ok sk_rec 252 e.1 e.2) 475 25 tk_L_law_475 (sk_take_drop z_L_law (fun e => sk_ok sk_rec 252 e.1 e.2) 500 25 tk_L_law_500 (sk_take_drop z_L_law (fun e => sk_ok sk_rec 252 e.1 e.2) 525 25 tk_L_law_525 (sk_take_drop z_L_law (fun e => sk_ok sk_rec 252 e.1 e.2) 550 25 tk_L_law_550 (sk_drop_nil z_L_law (fun e => sk_ok sk_rec 252 e.1 e.2) 575 rfl)))))))))))))))))))))))
theorem tg_0 : ∀ j, j < 16 → (sk_g0 j).all (fun e => sk_ok sk_rec (16 * 0 + j) e.1 e.2) = true
  | 0, _ => tk_Ac_init
  | 1, _ => tk_Ac_forget
  | 2, _ => tk_Ac_keep
  | 3, _ => tk_Ac_takeBack
  | 4, _ => tk_Al_init
  | 5, _ => tk_Al_addPlace
  | 6, _ => tk_Al_settle
  | 7, _ => tk_Al_listStrokes
  | 8, _ => tk_Al_chosen
  | 9, _ => tk_Al_hasHit
  | 10, _ => tk_Al_bitOf
  | 11, _ => tk_Al_allows
  | 12, _ => tk_Al_strokeOf
  | 13, _ => tk_Al_plainLeavings
  | 14, _ => tk_Al_leastLeftOut
  | 15, _ => tk_Al_isWholeRing
  | j + 16, h => absurd h (by omega)
theorem tg_1 : ∀ j, j < 16 → (sk_g1 j).all (fun e => sk_ok sk_rec (16 * 1 + j) e.1 e.2) = true
  | 0, _ => tk_Al_runFrom
  | 1, _ => tk_Al_rowWorth
  | 2, _ => tk_Al_ringLeavings
  | 3, _ => tk_Al_sameFrom
  | 4, _ => tk_Al_number
  | 5, _ => tk_AR_init
  | 6, _ => tk_AR_read
  | 7, _ => tk_AR_readClause
  | 8, _ => tk_AR_isTooMany
  | 9, _ => tk_AR_readRow
  | 10, _ => tk_AR_isPlace
  | 11, _ => tk_AR_readRing
  | 12, _ => tk_AR_readHit
  | 13, _ => tk_Bo_init
  | 14, _ => tk_Bo_playTimes
  | 15, _ => tk_Bo_playOut
  | j + 16, h => absurd h (by omega)
theorem tg_2 : ∀ j, j < 16 → (sk_g2 j).all (fun e => sk_ok sk_rec (16 * 2 + j) e.1 e.2) = true
  | 0, _ => tk_Bo_bestBy
  | 1, _ => tk_Bo_drawn
  | 2, _ => tk_Lo_init
  | 3, _ => tk_Lo_word
  | 4, _ => tk_Lo_lookAt
  | 5, _ => tk_Lo_countRuns
  | 6, _ => tk_Re_init
  | 7, _ => tk_Re_sound
  | 8, _ => tk_Re_refuse
  | 9, _ => tk_Re_look
  | 10, _ => tk_Re_next
  | 11, _ => tk_Re_takes
  | 12, _ => tk_Re_wordOf
  | 13, _ => tk_Re_isWord
  | 14, _ => tk_Re_skipWord
  | 15, _ => tk_Re_takesWord
  | j + 16, h => absurd h (by omega)
theorem tg_3 : ∀ j, j < 16 → (sk_g3 j).all (fun e => sk_ok sk_rec (16 * 3 + j) e.1 e.2) = true
  | 0, _ => tk_Re_isDigit
  | 1, _ => tk_Re_number
  | 2, _ => tk_Re_goesOn
  | 3, _ => tk_Ru_init
  | 4, _ => tk_Ru_addClause
  | 5, _ => tk_Ru_settle
  | 6, _ => tk_Ru_valueOf
  | 7, _ => tk_Ru_reckon
  | 8, _ => tk_Ru_join
  | 9, _ => tk_RR_init
  | 10, _ => tk_RR_read
  | 11, _ => tk_RR_readClause
  | 12, _ => tk_RR_readTest
  | 13, _ => tk_RR_readPart
  | 14, _ => tk_RR_readFact
  | 15, _ => tk_RR_readSign
  | j + 16, h => absurd h (by omega)
theorem tg_4 : ∀ j, j < 16 → (sk_g4 j).all (fun e => sk_ok sk_rec (16 * 4 + j) e.1 e.2) = true
  | 0, _ => tk_RR_readSum
  | 1, _ => tk_RR_codeOf
  | 2, _ => tk_RR_readValue
  | 3, _ => tk_RR_countPart
  | 4, _ => tk_RR_put
  | 5, _ => tk_St_init
  | 6, _ => tk_St_begin
  | 7, _ => tk_St_noted
  | 8, _ => tk_St_strokeNoted
  | 9, _ => tk_St_play
  | 10, _ => tk_St_copyOf
  | 11, _ => tk_Sk_init
  | 12, _ => tk_Sk_hasEndIn
  | 13, _ => tk_Ta_init
  | 14, _ => tk_Ta_use
  | 15, _ => tk_Ta_fillWinning
  | j + 16, h => absurd h (by omega)
theorem tg_5 : ∀ j, j < 16 → (sk_g5 j).all (fun e => sk_ok sk_rec (16 * 5 + j) e.1 e.2) = true
  | 0, _ => tk_Ta_canWin
  | 1, _ => tk_Ta_winsBy
  | 2, _ => tk_Ta_lawsBehind
  | 3, _ => tk_Ta_fillLengths
  | 4, _ => tk_Ta_lengthAt
  | 5, _ => tk_Ta_fillPlayCounts
  | 6, _ => tk_Ta_playsAt
  | 7, _ => tk_Ta_fillChances
  | 8, _ => tk_Ta_chanceAt
  | 9, _ => tk_Ta_fillClever
  | 10, _ => tk_Ta_childAt
  | 11, _ => tk_SR_init
  | 12, _ => tk_SR_feed
  | 13, _ => tk_SR_putBytes
  | 14, _ => tk_SR_end
  | 15, _ => tk_SR_alley
  | j + 16, h => absurd h (by omega)
theorem tg_6 : ∀ j, j < 16 → (sk_g6 j).all (fun e => sk_ok sk_rec (16 * 6 + j) e.1 e.2) = true
  | 0, _ => tk_SR_rule
  | 1, _ => tk_SR_place
  | 2, _ => tk_SR_can
  | 3, _ => tk_SR_stroke
  | 4, _ => tk_SR_up
  | 5, _ => tk_SR_pass
  | 6, _ => tk_SR_undo
  | 7, _ => tk_SR_won
  | 8, _ => tk_SR_wins
  | 9, _ => tk_SR_worth
  | 10, _ => tk_SR_plain
  | 11, _ => tk_SR_again
  | 12, _ => tk_SR_lasts
  | 13, _ => tk_SR_plays
  | 14, _ => tk_SR_fair
  | 15, _ => tk_SR_fairSet
  | j + 16, h => absurd h (by omega)
theorem tg_7 : ∀ j, j < 16 → (sk_g7 j).all (fun e => sk_ok sk_rec (16 * 7 + j) e.1 e.2) = true
  | 0, _ => tk_SR_chance
  | 1, _ => tk_SR_child
  | 2, _ => tk_SR_match
  | 3, _ => tk_SR_isRule
  | 4, _ => tk_SR_knew
  | 5, _ => tk_SR_law
  | 6, _ => tk_SR_seed
  | 7, _ => tk_SR_games
  | 8, _ => tk_SR_against
  | 9, _ => tk_SR_count
  | 10, _ => tk_SR_image
  | 11, _ => tk_SR_back
  | 12, _ => tk_M_init
  | 13, _ => tk_M_in
  | 14, _ => tk_M_isOf
  | 15, _ => tk_M_bits
  | j + 16, h => absurd h (by omega)
theorem tg_8 : ∀ j, j < 16 → (sk_g8 j).all (fun e => sk_ok sk_rec (16 * 8 + j) e.1 e.2) = true
  | 0, _ => tk_M_four
  | 1, _ => tk_M_feed
  | 2, _ => tk_M_end
  | 3, _ => tk_M_fails
  | 4, _ => tk_M_see
  | 5, _ => tk_M_isDigit
  | 6, _ => tk_M_isLetter
  | 7, _ => tk_M_isWord
  | 8, _ => tk_M_passWord
  | 9, _ => tk_M_takesWord
  | 10, _ => tk_M_numberHere
  | 11, _ => tk_M_wordHere
  | 12, _ => tk_M_puts
  | 13, _ => tk_M_makes
  | 14, _ => tk_M_opens
  | 15, _ => tk_M_strength
  | j + 16, h => absurd h (by omega)
theorem tg_9 : ∀ j, j < 16 → (sk_g9 j).all (fun e => sk_ok sk_rec (16 * 9 + j) e.1 e.2) = true
  | 0, _ => tk_M_settles
  | 1, _ => tk_M_value
  | 2, _ => tk_M_term
  | 3, _ => tk_M_sum
  | 4, _ => tk_M_compare
  | 5, _ => tk_M_fact
  | 6, _ => tk_M_isInside
  | 7, _ => tk_M_closes
  | 8, _ => tk_M_tested
  | 9, _ => tk_M_isStrokeHere
  | 10, _ => tk_M_isAlleyHere
  | 11, _ => tk_M_isPlaceHere
  | 12, _ => tk_M_isRowHere
  | 13, _ => tk_M_isRingHere
  | 14, _ => tk_M_isHitHere
  | 15, _ => tk_M_isOnceHere
  | j + 16, h => absurd h (by omega)
theorem tg_10 : ∀ j, j < 16 → (sk_g10 j).all (fun e => sk_ok sk_rec (16 * 10 + j) e.1 e.2) = true
  | 0, _ => tk_M_isStrayHere
  | 1, _ => tk_M_alleyLineHere
  | 2, _ => tk_M_isAlleyWord
  | 3, _ => tk_M_clauseHere
  | 4, _ => tk_M_readsAll
  | 5, _ => tk_M_rule
  | 6, _ => tk_M_alley
  | 7, _ => tk_M_isRule
  | 8, _ => tk_M_push
  | 9, _ => tk_M_pop
  | 10, _ => tk_M_one
  | 11, _ => tk_M_reckons
  | 12, _ => tk_M_isAlley
  | 13, _ => tk_M_isPlace
  | 14, _ => tk_M_rowOf
  | 15, _ => tk_M_beside
  | j + 16, h => absurd h (by omega)
theorem tg_11 : ∀ j, j < 16 → (sk_g11 j).all (fun e => sk_ok sk_rec (16 * 11 + j) e.1 e.2) = true
  | 0, _ => tk_M_strokeBits
  | 1, _ => tk_M_lastOf
  | 2, _ => tk_M_canBe
  | 3, _ => tk_M_canBeNow
  | 4, _ => tk_M_fillsWon
  | 5, _ => tk_M_fillsNow
  | 6, _ => tk_M_isWonAt
  | 7, _ => tk_M_winsBy
  | 8, _ => tk_M_isOverAt
  | 9, _ => tk_M_place
  | 10, _ => tk_M_can
  | 11, _ => tk_M_keepsAct
  | 12, _ => tk_M_undo
  | 13, _ => tk_M_notes
  | 14, _ => tk_M_stroke
  | 15, _ => tk_M_up
  | j + 16, h => absurd h (by omega)
theorem tg_12 : ∀ j, j < 16 → (sk_g12 j).all (fun e => sk_ok sk_rec (16 * 12 + j) e.1 e.2) = true
  | 0, _ => tk_M_pass
  | 1, _ => tk_M_won
  | 2, _ => tk_M_wins
  | 3, _ => tk_M_leastUnseen
  | 4, _ => tk_M_clearsSeen
  | 5, _ => tk_M_worth
  | 6, _ => tk_M_fillsPlains
  | 7, _ => tk_M_plain
  | 8, _ => tk_M_comesAgain
  | 9, _ => tk_M_again
  | 10, _ => tk_M_lastsAt
  | 11, _ => tk_M_lasts
  | 12, _ => tk_M_playsAt
  | 13, _ => tk_M_plays
  | 14, _ => tk_M_fair
  | 15, _ => tk_M_strayed
  | j + 16, h => absurd h (by omega)
theorem tg_13 : ∀ j, j < 16 → (sk_g13 j).all (fun e => sk_ok sk_rec (16 * 13 + j) e.1 e.2) = true
  | 0, _ => tk_M_chanceAt
  | 1, _ => tk_M_chance
  | 2, _ => tk_M_bestAt
  | 3, _ => tk_M_childAt
  | 4, _ => tk_M_child
  | 5, _ => tk_M_countsRun
  | 6, _ => tk_M_countsRow
  | 7, _ => tk_M_countsRuns
  | 8, _ => tk_M_words
  | 9, _ => tk_M_summedBy
  | 10, _ => tk_M_strokeBy
  | 11, _ => tk_M_winner
  | 12, _ => tk_M_match
  | 13, _ => tk_M_noted
  | 14, _ => tk_M_winsNoted
  | 15, _ => tk_M_knew
  | j + 16, h => absurd h (by omega)
theorem tg_14 : ∀ j, j < 16 → (sk_g14 j).all (fun e => sk_ok sk_rec (16 * 14 + j) e.1 e.2) = true
  | 0, _ => tk_M_fitsLaw
  | 1, _ => tk_M_law
  | 2, _ => tk_M_seed
  | 3, _ => tk_M_draw
  | 4, _ => tk_M_strokeDrawn
  | 5, _ => tk_M_playsDrawn
  | 6, _ => tk_M_games
  | 7, _ => tk_M_against
  | 8, _ => tk_M_count
  | 9, _ => tk_M_image
  | 10, _ => tk_M_back
  | 11, _ => tk_JI_numberOfTrailingZeros
  | 12, _ => tk_JI_bitCount
  | 13, _ => tk_JL_numberOfTrailingZeros
  | 14, _ => tk_JL_bitCount
  | 15, _ => tk_JM_max
  | j + 16, h => absurd h (by omega)
theorem tg_15 : ∀ j, j < 13 → (sk_g15 j).all (fun e => sk_ok sk_rec (16 * 15 + j) e.1 e.2) = true
  | 0, _ => tk_JM_min
  | 1, _ => tk_JS_length
  | 2, _ => tk_JS_charAt
  | 3, _ => tk_JS_coder
  | 4, _ => tk_JS_isLatin1
  | 5, _ => tk_JS_checkIndex
  | 6, _ => tk_JT_charAt
  | 7, _ => tk_JU_getChar
  | 8, _ => tk_JU_length
  | 9, _ => tk_JU_charAt
  | 10, _ => tk_JU_checkIndex
  | 11, _ => tk_JP_checkIndex
  | 12, _ => tk_L_law
  | j + 13, h => absurd h (by omega)
theorem sk_chk_all (m : Nat) (hm : m < 253) : (sk_grp (m % 16) (m / 16)).all (fun e => sk_ok sk_rec m e.1 e.2) = true := by
  have h1 : m = 16 * (m / 16) + m % 16 := by omega
  have h2 : m / 16 < 16 := by omega
  have h3 : m % 16 < 16 := by omega
  have h4 : m / 16 = 15 → m % 16 < 13 := by omega
  revert h1 h2 h3 h4
  generalize m / 16 = g
  generalize m % 16 = j
  intro h1 h2 h3 h4
  subst h1
  match g, h2, h4 with
  | 0, _, h4 => exact tg_0 j h3
  | 1, _, h4 => exact tg_1 j h3
  | 2, _, h4 => exact tg_2 j h3
  | 3, _, h4 => exact tg_3 j h3
  | 4, _, h4 => exact tg_4 j h3
  | 5, _, h4 => exact tg_5 j h3
  | 6, _, h4 => exact tg_6 j h3
  | 7, _, h4 => exact tg_7 j h3
  | 8, _, h4 => exact tg_8 j h3
  | 9, _, h4 => exact tg_9 j h3
  | 10, _, h4 => exact tg_10 j h3
  | 11, _, h4 => exact tg_11 j h3
  | 12, _, h4 => exact tg_12 j h3
  | 13, _, h4 => exact tg_13 j h3
  | 14, _, h4 => exact tg_14 j h3
  | 15, _, h4 => exact tg_15 j (h4 rfl)
  | g + 16, h, _ => exact absurd h (by omega)
theorem sk_look_mem : ∀ (L : List (Nat × sk_E)) (pc : Nat) (e : sk_E), sk_look L pc = some e → (pc, e) ∈ L
  | [], pc, e, h => by cases h
  | q :: r, pc, e, h => by
    unfold sk_look at h
    cases hb : Nat.beq q.1 pc with
    | true =>
      rw [hb] at h
      have h1 : q.1 = pc := Nat.eq_of_beq_eq_true hb
      cases h
      rw [← h1]
      exact List.mem_cons_self
    | false =>
      rw [hb] at h
      exact List.mem_cons_of_mem _ (sk_look_mem r pc e h)
theorem sk_tab_ok (m pc : Nat) (e : sk_E) (hm : m < 253) (h : sk_tab m pc = some e) : sk_ok sk_rec m pc e = true := List.all_eq_true.mp (sk_chk_all m hm) _ (sk_look_mem _ _ _ h)
theorem mo_0 : ∀ m, m < 6 → sk_mk (0 + m) ≠ 3 → sk_mok (0 + m) = true := by decide +kernel
theorem mo_6 : ∀ m, m < 6 → sk_mk (6 + m) ≠ 3 → sk_mok (6 + m) = true := by decide +kernel
theorem mo_12 : ∀ m, m < 6 → sk_mk (12 + m) ≠ 3 → sk_mok (12 + m) = true := by decide +kernel
theorem mo_18 : ∀ m, m < 6 → sk_mk (18 + m) ≠ 3 → sk_mok (18 + m) = true := by decide +kernel
theorem mo_24 : ∀ m, m < 6 → sk_mk (24 + m) ≠ 3 → sk_mok (24 + m) = true := by decide +kernel
theorem mo_30 : ∀ m, m < 6 → sk_mk (30 + m) ≠ 3 → sk_mok (30 + m) = true := by decide +kernel
theorem mo_36 : ∀ m, m < 6 → sk_mk (36 + m) ≠ 3 → sk_mok (36 + m) = true := by decide +kernel
theorem mo_42 : ∀ m, m < 6 → sk_mk (42 + m) ≠ 3 → sk_mok (42 + m) = true := by decide +kernel
theorem mo_48 : ∀ m, m < 6 → sk_mk (48 + m) ≠ 3 → sk_mok (48 + m) = true := by decide +kernel
theorem mo_54 : ∀ m, m < 6 → sk_mk (54 + m) ≠ 3 → sk_mok (54 + m) = true := by decide +kernel
theorem mo_60 : ∀ m, m < 6 → sk_mk (60 + m) ≠ 3 → sk_mok (60 + m) = true := by decide +kernel
theorem mo_66 : ∀ m, m < 6 → sk_mk (66 + m) ≠ 3 → sk_mok (66 + m) = true := by decide +kernel
theorem mo_72 : ∀ m, m < 6 → sk_mk (72 + m) ≠ 3 → sk_mok (72 + m) = true := by decide +kernel
theorem mo_78 : ∀ m, m < 6 → sk_mk (78 + m) ≠ 3 → sk_mok (78 + m) = true := by decide +kernel
theorem mo_84 : ∀ m, m < 6 → sk_mk (84 + m) ≠ 3 → sk_mok (84 + m) = true := by decide +kernel
theorem mo_90 : ∀ m, m < 6 → sk_mk (90 + m) ≠ 3 → sk_mok (90 + m) = true := by decide +kernel
theorem mo_96 : ∀ m, m < 6 → sk_mk (96 + m) ≠ 3 → sk_mok (96 + m) = true := by decide +kernel
theorem mo_102 : ∀ m, m < 6 → sk_mk (102 + m) ≠ 3 → sk_mok (102 + m) = true := by decide +kernel
theorem mo_108 : ∀ m, m < 6 → sk_mk (108 + m) ≠ 3 → sk_mok (108 + m) = true := by decide +kernel
theorem mo_114 : ∀ m, m < 6 → sk_mk (114 + m) ≠ 3 → sk_mok (114 + m) = true := by decide +kernel
theorem mo_120 : ∀ m, m < 6 → sk_mk (120 + m) ≠ 3 → sk_mok (120 + m) = true := by decide +kernel
theorem mo_126 : ∀ m, m < 6 → sk_mk (126 + m) ≠ 3 → sk_mok (126 + m) = true := by decide +kernel
theorem mo_132 : ∀ m, m < 6 → sk_mk (132 + m) ≠ 3 → sk_mok (132 + m) = true := by decide +kernel
theorem mo_138 : ∀ m, m < 6 → sk_mk (138 + m) ≠ 3 → sk_mok (138 + m) = true := by decide +kernel
theorem mo_144 : ∀ m, m < 6 → sk_mk (144 + m) ≠ 3 → sk_mok (144 + m) = true := by decide +kernel
theorem mo_150 : ∀ m, m < 6 → sk_mk (150 + m) ≠ 3 → sk_mok (150 + m) = true := by decide +kernel
theorem mo_156 : ∀ m, m < 6 → sk_mk (156 + m) ≠ 3 → sk_mok (156 + m) = true := by decide +kernel
theorem mo_162 : ∀ m, m < 6 → sk_mk (162 + m) ≠ 3 → sk_mok (162 + m) = true := by decide +kernel
theorem mo_168 : ∀ m, m < 6 → sk_mk (168 + m) ≠ 3 → sk_mok (168 + m) = true := by decide +kernel
theorem mo_174 : ∀ m, m < 6 → sk_mk (174 + m) ≠ 3 → sk_mok (174 + m) = true := by decide +kernel
theorem mo_180 : ∀ m, m < 6 → sk_mk (180 + m) ≠ 3 → sk_mok (180 + m) = true := by decide +kernel
theorem mo_186 : ∀ m, m < 6 → sk_mk (186 + m) ≠ 3 → sk_mok (186 + m) = true := by decide +kernel
theorem mo_192 : ∀ m, m < 6 → sk_mk (192 + m) ≠ 3 → sk_mok (192 + m) = true := by decide +kernel
theorem mo_198 : ∀ m, m < 6 → sk_mk (198 + m) ≠ 3 → sk_mok (198 + m) = true := by decide +kernel
theorem mo_204 : ∀ m, m < 6 → sk_mk (204 + m) ≠ 3 → sk_mok (204 + m) = true := by decide +kernel
theorem mo_210 : ∀ m, m < 6 → sk_mk (210 + m) ≠ 3 → sk_mok (210 + m) = true := by decide +kernel
theorem mo_216 : ∀ m, m < 6 → sk_mk (216 + m) ≠ 3 → sk_mok (216 + m) = true := by decide +kernel
theorem mo_222 : ∀ m, m < 6 → sk_mk (222 + m) ≠ 3 → sk_mok (222 + m) = true := by decide +kernel
theorem mo_228 : ∀ m, m < 6 → sk_mk (228 + m) ≠ 3 → sk_mok (228 + m) = true := by decide +kernel
theorem mo_234 : ∀ m, m < 6 → sk_mk (234 + m) ≠ 3 → sk_mok (234 + m) = true := by decide +kernel
theorem mo_240 : ∀ m, m < 6 → sk_mk (240 + m) ≠ 3 → sk_mok (240 + m) = true := by decide +kernel
theorem mo_246 : ∀ m, m < 6 → sk_mk (246 + m) ≠ 3 → sk_mok (246 + m) = true := by decide +kernel
theorem sk_mok_all (cm : Nat) (hc : sk_cal cm) : sk_mok cm = true := by
  obtain ⟨hc, h3⟩ := hc
  by_cases h0 : cm < 6
  · have := mo_0 (cm - 0) (by omega)
    rw [show 0 + (cm - 0) = cm by omega] at this
    exact this h3
  by_cases h6 : cm < 12
  · have := mo_6 (cm - 6) (by omega)
    rw [show 6 + (cm - 6) = cm by omega] at this
    exact this h3
  by_cases h12 : cm < 18
  · have := mo_12 (cm - 12) (by omega)
    rw [show 12 + (cm - 12) = cm by omega] at this
    exact this h3
  by_cases h18 : cm < 24
  · have := mo_18 (cm - 18) (by omega)
    rw [show 18 + (cm - 18) = cm by omega] at this
    exact this h3
  by_cases h24 : cm < 30
  · have := mo_24 (cm - 24) (by omega)
    rw [show 24 + (cm - 24) = cm by omega] at this
    exact this h3
  by_cases h30 : cm < 36
  · have := mo_30 (cm - 30) (by omega)
    rw [show 30 + (cm - 30) = cm by omega] at this
    exact this h3
  by_cases h36 : cm < 42
  · have := mo_36 (cm - 36) (by omega)
    rw [show 36 + (cm - 36) = cm by omega] at this
    exact this h3
  by_cases h42 : cm < 48
  · have := mo_42 (cm - 42) (by omega)
    rw [show 42 + (cm - 42) = cm by omega] at this
    exact this h3
  by_cases h48 : cm < 54
  · have := mo_48 (cm - 48) (by omega)
    rw [show 48 + (cm - 48) = cm by omega] at this
    exact this h3
  by_cases h54 : cm < 60
  · have := mo_54 (cm - 54) (by omega)
    rw [show 54 + (cm - 54) = cm by omega] at this
    exact this h3
  by_cases h60 : cm < 66
  · have := mo_60 (cm - 60) (by omega)
    rw [show 60 + (cm - 60) = cm by omega] at this
    exact this h3
  by_cases h66 : cm < 72
  · have := mo_66 (cm - 66) (by omega)
    rw [show 66 + (cm - 66) = cm by omega] at this
    exact this h3
  by_cases h72 : cm < 78
  · have := mo_72 (cm - 72) (by omega)
    rw [show 72 + (cm - 72) = cm by omega] at this
    exact this h3
  by_cases h78 : cm < 84
  · have := mo_78 (cm - 78) (by omega)
    rw [show 78 + (cm - 78) = cm by omega] at this
    exact this h3
  by_cases h84 : cm < 90
  · have := mo_84 (cm - 84) (by omega)
    rw [show 84 + (cm - 84) = cm by omega] at this
    exact this h3
  by_cases h90 : cm < 96
  · have := mo_90 (cm - 90) (by omega)
    rw [show 90 + (cm - 90) = cm by omega] at this
    exact this h3
  by_cases h96 : cm < 102
  · have := mo_96 (cm - 96) (by omega)
    rw [show 96 + (cm - 96) = cm by omega] at this
    exact this h3
  by_cases h102 : cm < 108
  · have := mo_102 (cm - 102) (by omega)
    rw [show 102 + (cm - 102) = cm by omega] at this
    exact this h3
  by_cases h108 : cm < 114
  · have := mo_108 (cm - 108) (by omega)
    rw [show 108 + (cm - 108) = cm by omega] at this
    exact this h3
  by_cases h114 : cm < 120
  · have := mo_114 (cm - 114) (by omega)
    rw [show 114 + (cm - 114) = cm by omega] at this
    exact this h3
  by_cases h120 : cm < 126
  · have := mo_120 (cm - 120) (by omega)
    rw [show 120 + (cm - 120) = cm by omega] at this
    exact this h3
  by_cases h126 : cm < 132
  · have := mo_126 (cm - 126) (by omega)
    rw [show 126 + (cm - 126) = cm by omega] at this
    exact this h3
  by_cases h132 : cm < 138
  · have := mo_132 (cm - 132) (by omega)
    rw [show 132 + (cm - 132) = cm by omega] at this
    exact this h3
  by_cases h138 : cm < 144
  · have := mo_138 (cm - 138) (by omega)
    rw [show 138 + (cm - 138) = cm by omega] at this
    exact this h3
  by_cases h144 : cm < 150
  · have := mo_144 (cm - 144) (by omega)
    rw [show 144 + (cm - 144) = cm by omega] at this
    exact this h3
  by_cases h150 : cm < 156
  · have := mo_150 (cm - 150) (by omega)
    rw [show 150 + (cm - 150) = cm by omega] at this
    exact this h3
  by_cases h156 : cm < 162
  · have := mo_156 (cm - 156) (by omega)
    rw [show 156 + (cm - 156) = cm by omega] at this
    exact this h3
  by_cases h162 : cm < 168
  · have := mo_162 (cm - 162) (by omega)
    rw [show 162 + (cm - 162) = cm by omega] at this
    exact this h3
  by_cases h168 : cm < 174
  · have := mo_168 (cm - 168) (by omega)
    rw [show 168 + (cm - 168) = cm by omega] at this
    exact this h3
  by_cases h174 : cm < 180
  · have := mo_174 (cm - 174) (by omega)
    rw [show 174 + (cm - 174) = cm by omega] at this
    exact this h3
  by_cases h180 : cm < 186
  · have := mo_180 (cm - 180) (by omega)
    rw [show 180 + (cm - 180) = cm by omega] at this
    exact this h3
  by_cases h186 : cm < 192
  · have := mo_186 (cm - 186) (by omega)
    rw [show 186 + (cm - 186) = cm by omega] at this
    exact this h3
  by_cases h192 : cm < 198
  · have := mo_192 (cm - 192) (by omega)
    rw [show 192 + (cm - 192) = cm by omega] at this
    exact this h3
  by_cases h198 : cm < 204
  · have := mo_198 (cm - 198) (by omega)
    rw [show 198 + (cm - 198) = cm by omega] at this
    exact this h3
  by_cases h204 : cm < 210
  · have := mo_204 (cm - 204) (by omega)
    rw [show 204 + (cm - 204) = cm by omega] at this
    exact this h3
  by_cases h210 : cm < 216
  · have := mo_210 (cm - 210) (by omega)
    rw [show 210 + (cm - 210) = cm by omega] at this
    exact this h3
  by_cases h216 : cm < 222
  · have := mo_216 (cm - 216) (by omega)
    rw [show 216 + (cm - 216) = cm by omega] at this
    exact this h3
  by_cases h222 : cm < 228
  · have := mo_222 (cm - 222) (by omega)
    rw [show 222 + (cm - 222) = cm by omega] at this
    exact this h3
  by_cases h228 : cm < 234
  · have := mo_228 (cm - 228) (by omega)
    rw [show 228 + (cm - 228) = cm by omega] at this
    exact this h3
  by_cases h234 : cm < 240
  · have := mo_234 (cm - 234) (by omega)
    rw [show 234 + (cm - 234) = cm by omega] at this
    exact this h3
  by_cases h240 : cm < 246
  · have := mo_240 (cm - 240) (by omega)
    rw [show 240 + (cm - 240) = cm by omega] at this
    exact this h3
  by_cases h246 : cm < 252
  · have := mo_246 (cm - 246) (by omega)
    rw [show 246 + (cm - 246) = cm by omega] at this
    exact this h3
  exact absurd hc (by omega)
