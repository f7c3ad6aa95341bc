set_option maxRecDepth 1000000 in
theorem tk_RR_readSum_0 : ((z_RR_readSum.drop 0).take 25).all (fun e => sk_ok sk_rec 64 e.1 e.2) = true := by decide +kernel
set_option maxRecDepth 1000000 in
theorem tk_RR_readSum_25 : ((z_RR_readSum.drop 25).take 25).all (fun e => sk_ok sk_rec 64 e.1 e.2) = true := by decide +kernel
set_option maxRecDepth 1000000 in
theorem tk_RR_readSum_50 : ((z_RR_readSum.drop 50).take 25).all (fun e => sk_ok sk_rec 64 e.1 e.2) = true := by decide +kernel
set_option maxRecDepth 1000000 in
theorem tk_RR_readSum : z_RR_readSum.all (fun e => sk_ok sk_rec 64 e.1 e.2) = true := sk_take_drop z_RR_readSum (fun e => sk_ok sk_rec 64 e.1 e.2) 0 25 tk_RR_readSum_0 (sk_take_drop z_RR_readSum (fun e => sk_ok sk_rec 64 e.1 e.2) 25 25 tk_RR_readSum_25 (sk_take_drop z_RR_readSum (fun e => sk_ok sk_rec 64 e.1 e.2) 50 25 tk_RR_readSum_50 (sk_drop_nil z_RR_readSum (fun e => sk_ok sk_rec 64 e.1 e.2) 75 rfl)))
set_option maxRecDepth 1000000 in
theorem tk_RR_codeOf : z_RR_codeOf.all (fun e => sk_ok sk_rec 65 e.1 e.2) = true := by decide +kernel
set_option maxRecDepth 1000000 in
theorem tk_RR_readValue_0 : ((z_RR_readValue.drop 0).take 25).all (fun e => sk_ok sk_rec 66 e.1 e.2) = true := by decide +kernel
set_option maxRecDepth 1000000 in
theorem tk_RR_readValue_25 : ((z_RR_readValue.drop 25).take 25).all (fun e => sk_ok sk_rec 66 e.1 e.2) = true := by decide +kernel
set_option maxRecDepth 1000000 in
theorem tk_RR_readValue_50 : ((z_RR_readValue.drop 50).take 25).all (fun e => sk_ok sk_rec 66 e.1 e.2) = true := by decide +kernel
set_option maxRecDepth 1000000 in
theorem tk_RR_readValue : z_RR_readValue.all (fun e => sk_ok sk_rec 66 e.1 e.2) = true := sk_take_drop z_RR_readValue (fun e => sk_ok sk_rec 66 e.1 e.2) 0 25 tk_RR_readValue_0 (sk_take_drop z_RR_readValue (fun e => sk_ok sk_rec 66 e.1 e.2) 25 25 tk_RR_readValue_25 (sk_take_drop z_RR_readValue (fun e => sk_ok sk_rec 66 e.1 e.2) 50 25 tk_RR_readValue_50 (sk_drop_nil z_RR_readValue (fun e => sk_ok sk_rec 66 e.1 e.2) 75 rfl)))
set_option maxRecDepth 1000000 in
theorem tk_RR_countPart : z_RR_countPart.all (fun e => sk_ok sk_rec 67 e.1 e.2) = true := by decide +kernel
set_option maxRecDepth 1000000 in
theorem tk_RR_put : z_RR_put.all (fun e => sk_ok sk_rec 68 e.1 e.2) = true := by decide +kernel
set_option maxRecDepth 1000000 in
theorem tk_St_init : z_St_init.all (fun e => sk_ok sk_rec 69 e.1 e.2) = true := by decide +kernel
set_option maxRecDepth 1000000 in
theorem tk_St_begin : z_St_begin.all (fun e => sk_ok sk_rec 70 e.1 e.2) = true := by decide +kernel
set_option maxRecDepth 1000000 in
theorem tk_St_noted : z_St_noted.all (fun e => sk_ok sk_rec 71 e.1 e.2) = true := by decide +kernel
set_option maxRecDepth 1000000 in
theorem tk_St_strokeNoted : z_St_strokeNoted.all (fun e => sk_ok sk_rec 72 e.1 e.2) = true := by decide +kernel
set_option maxRecDepth 1000000 in
theorem tk_St_play_0 : ((z_St_play.drop 0).take 25).all (fun e => sk_ok sk_rec 73 e.1 e.2) = true := by decide +kernel
set_option maxRecDepth 1000000 in
theorem tk_St_play_25 : ((z_St_play.drop 25).take 25).all (fun e => sk_ok sk_rec 73 e.1 e.2) = true := by decide +kernel
set_option maxRecDepth 1000000 in
theorem tk_St_play : z_St_play.all (fun e => sk_ok sk_rec 73 e.1 e.2) = true := sk_take_drop z_St_play (fun e => sk_ok sk_rec 73 e.1 e.2) 0 25 tk_St_play_0 (sk_take_drop z_St_play (fun e => sk_ok sk_rec 73 e.1 e.2) 25 25 tk_St_play_25 (sk_drop_nil z_St_play (fun e => sk_ok sk_rec 73 e.1 e.2) 50 rfl))
set_option maxRecDepth 1000000 in
theorem tk_St_copyOf_0 : ((z_St_copyOf.drop 0).take 25).all (fun e => sk_ok sk_rec 74 e.1 e.2) = true := by decide +kernel
set_option maxRecDepth 1000000 in
theorem tk_St_copyOf_25 : ((z_St_copyOf.drop 25).take 25).all (fun e => sk_ok sk_rec 74 e.1 e.2) = true := by decide +kernel
set_option maxRecDepth 1000000 in
theorem tk_St_copyOf_50 : ((z_St_copyOf.drop 50).take 25).all (fun e => sk_ok sk_rec 74 e.1 e.2) = true := by decide +kernel
set_option maxRecDepth 1000000 in
theorem tk_St_copyOf : z_St_copyOf.all (fun e => sk_ok sk_rec 74 e.1 e.2) = true := sk_take_drop z_St_copyOf (fun e => sk_ok sk_rec 74 e.1 e.2) 0 25 tk_St_copyOf_0 (sk_take_drop z_St_copyOf (fun e => sk_ok sk_rec 74 e.1 e.2) 25 25 tk_St_copyOf_25 (sk_take_drop z_St_copyOf (fun e => sk_ok sk_rec 74 e.1 e.2) 50 25 tk_St_copyOf_50 (sk_drop_nil z_St_copyOf (fun e => sk_ok sk_rec 74 e.1 e.2) 75 rfl)))
set_option maxRecDepth 1000000 in
theorem tk_Sk_init_0 : ((z_Sk_init.drop 0).take 25).all (fun e => sk_ok sk_rec 75 e.1 e.2) = true := by decide +kernel
set_option maxRecDepth 1000000 in
theorem tk_Sk_init_25 : ((z_Sk_init.drop 25).take 25).all (fun e => sk_ok sk_rec 75 e.1 e.2) = true := by decide +kernel
set_option maxRecDepth 1000000 in
theorem tk_Sk_init : z_Sk_init.all (fun e => sk_ok sk_rec 75 e.1 e.2) = true := sk_take_drop z_Sk_init (fun e => sk_ok sk_rec 75 e.1 e.2) 0 25 tk_Sk_init_0 (sk_take_drop z_Sk_init (fun e => sk_ok sk_rec 75 e.1 e.2) 25 25 tk_Sk_init_25 (sk_drop_nil z_Sk_init (fun e => sk_ok sk_rec 75 e.1 e.2) 50 rfl))
set_option maxRecDepth 1000000 in
theorem tk_Sk_hasEndIn : z_Sk_hasEndIn.all (fun e => sk_ok sk_rec 76 e.1 e.2) = true := by decide +kernel
set_option maxRecDepth 1000000 in
theorem tk_Ta_init_0 : ((z_Ta_init.drop 0).take 25).all (fun e => sk_ok sk_rec 77 e.1 e.2) = true := by decide +kernel
set_option maxRecDepth 1000000 in
theorem tk_Ta_init_25 : ((z_Ta_init.drop 25).take 25).all (fun e => sk_ok sk_rec 77 e.1 e.2) = true := by decide +kernel
set_option maxRecDepth 1000000 in
theorem tk_Ta_init : z_Ta_init.all (fun e => sk_ok sk_rec 77 e.1 e.2) = true := sk_take_drop z_Ta_init (fun e => sk_ok sk_rec 77 e.1 e.2) 0 25 tk_Ta_init_0 (sk_take_drop z_Ta_init (fun e => sk_ok sk_rec 77 e.1 e.2) 25 25 tk_Ta_init_25 (sk_drop_nil z_Ta_init (fun e => sk_ok sk_rec 77 e.1 e.2) 50 rfl))
set_option maxRecDepth 1000000 in
theorem tk_Ta_use_0 : ((z_Ta_use.drop 0).take 25).all (fun e => sk_ok sk_rec 78 e.1 e.2) = true := by decide +kernel
set_option maxRecDepth 1000000 in
theorem tk_Ta_use_25 : ((z_Ta_use.drop 25).take 25).all (fun e => sk_ok sk_rec 78 e.1 e.2) = true := by decide +kernel
set_option maxRecDepth 1000000 in
theorem tk_Ta_use_50 : ((z_Ta_use.drop 50).take 25).all (fun e => sk_ok sk_rec 78 e.1 e.2) = true := by decide +kernel
set_option maxRecDepth 1000000 in
theorem tk_Ta_use : z_Ta_use.all (fun e => sk_ok sk_rec 78 e.1 e.2) = true := sk_take_drop z_Ta_use (fun e => sk_ok sk_rec 78 e.1 e.2) 0 25 tk_Ta_use_0 (sk_take_drop z_Ta_use (fun e => sk_ok sk_rec 78 e.1 e.2) 25 25 tk_Ta_use_25 (sk_take_drop z_Ta_use (fun e => sk_ok sk_rec 78 e.1 e.2) 50 25 tk_Ta_use_50 (sk_drop_nil z_Ta_use (fun e => sk_ok sk_rec 78 e.1 e.2) 75 rfl)))
set_option maxRecDepth 1000000 in
theorem tk_Ta_fillWinning_0 : ((z_Ta_fillWinning.drop 0).take 25).all (fun e => sk_ok sk_rec 79 e.1 e.2) = true := by decide +kernel
set_option maxRecDepth 1000000 in
theorem tk_Ta_fillWinning_25 : ((z_Ta_fillWinning.drop 25).take 25).all (fun e => sk_ok sk_rec 79 e.1 e.2) = true := by decide +kernel
set_option maxRecDepth 1000000 in
theorem tk_Ta_fillWinning_50 : ((z_Ta_fillWinning.drop 50).take 25).all (fun e => sk_ok sk_rec 79 e.1 e.2) = true := by decide +kernel
set_option maxRecDepth 1000000 in
theorem tk_Ta_fillWinning_75 : ((z_Ta_fillWinning.drop 75).take 25).all (fun e => sk_ok sk_rec 79 e.1 e.2) = true := by decide +kernel
set_option maxRecDepth 1000000 in
theorem tk_Ta_fillWinning : z_Ta_fillWinning.all (fun e => sk_ok sk_rec 79 e.1 e.2) = true := sk_take_drop z_Ta_fillWinning (fun e => sk_ok sk_rec 79 e.1 e.2) 0 25 tk_Ta_fillWinning_0 (sk_take_drop z_Ta_fillWinning (fun e => sk_ok sk_rec 79 e.1 e.2) 25 25 tk_Ta_fillWinning_25 (sk_take_drop z_Ta_fillWinning (fun e => sk_ok sk_rec 79 e.1 e.2) 50 25 tk_Ta_fillWinning_50 (sk_take_drop z_Ta_fillWinning (fun e => sk_ok sk_rec 79 e.1 e.2) 75 25 tk_Ta_fillWinning_75 (sk_drop_nil z_Ta_fillWinning (fun e => sk_ok sk_rec 79 e.1 e.2) 100 rfl))))
set_option maxRecDepth 1000000 in
theorem tk_Ta_canWin : z_Ta_canWin.all (fun e => sk_ok sk_rec 80 e.1 e.2) = true := by decide +kernel
set_option maxRecDepth 1000000 in
theorem tk_Ta_winsBy : z_Ta_winsBy.all (fun e => sk_ok sk_rec 81 e.1 e.2) = true := by decide +kernel
set_option maxRecDepth 1000000 in
theorem tk_Ta_lawsBehind_0 : ((z_Ta_lawsBehind.drop 0).take 25).all (fun e => sk_ok sk_rec 82 e.1 e.2) = true := by decide +kernel
set_option maxRecDepth 1000000 in
theorem tk_Ta_lawsBehind_25 : ((z_Ta_lawsBehind.drop 25).take 25).all (fun e => sk_ok sk_rec 82 e.1 e.2) = true := by decide +kernel
set_option maxRecDepth 1000000 in
theorem tk_Ta_lawsBehind : z_Ta_lawsBehind.all (fun e => sk_ok sk_rec 82 e.1 e.2) = true := sk_take_drop z_Ta_lawsBehind (fun e => sk_ok sk_rec 82 e.1 e.2) 0 25 tk_Ta_lawsBehind_0 (sk_take_drop z_Ta_lawsBehind (fun e => sk_ok sk_rec 82 e.1 e.2) 25 25 tk_Ta_lawsBehind_25 (sk_drop_nil z_Ta_lawsBehind (fun e => sk_ok sk_rec 82 e.1 e.2) 50 rfl))
set_option maxRecDepth 1000000 in
theorem tk_Ta_fillLengths_0 : ((z_Ta_fillLengths.drop 0).take 25).all (fun e => sk_ok sk_rec 83 e.1 e.2) = true := by decide +kernel
set_option maxRecDepth 1000000 in
theorem tk_Ta_fillLengths_25 : ((z_Ta_fillLengths.drop 25).take 25).all (fun e => sk_ok sk_rec 83 e.1 e.2) = true := by decide +kernel
set_option maxRecDepth 1000000 in
theorem tk_Ta_fillLengths_50 : ((z_Ta_fillLengths.drop 50).take 25).all (fun e => sk_ok sk_rec 83 e.1 e.2) = true := by decide +kernel
set_option maxRecDepth 1000000 in
theorem tk_Ta_fillLengths_75 : ((z_Ta_fillLengths.drop 75).take 25).all (fun e => sk_ok sk_rec 83 e.1 e.2) = true := by decide +kernel
set_option maxRecDepth 1000000 in
theorem tk_Ta_fillLengths : z_Ta_fillLengths.all (fun e => sk_ok sk_rec 83 e.1 e.2) = true := sk_take_drop z_Ta_fillLengths (fun e => sk_ok sk_rec 83 e.1 e.2) 0 25 tk_Ta_fillLengths_0 (sk_take_drop z_Ta_fillLengths (fun e => sk_ok sk_rec 83 e.1 e.2) 25 25 tk_Ta_fillLengths_25 (sk_take_drop z_Ta_fillLengths (fun e => sk_ok sk_rec 83 e.1 e.2) 50 25 tk_Ta_fillLengths_50 (sk_take_drop z_Ta_fillLengths (fun e => sk_ok sk_rec 83 e.1 e.2) 75 25 tk_Ta_fillLengths_75 (sk_drop_nil z_Ta_fillLengths (fun e => sk_ok sk_rec 83 e.1 e.2) 100 rfl))))
set_option maxRecDepth 1000000 in
theorem tk_Ta_lengthAt : z_Ta_lengthAt.all (fun e => sk_ok sk_rec 84 e.1 e.2) = true := by decide +kernel
set_option maxRecDepth 1000000 in
theorem tk_Ta_fillPlayCounts_0 : ((z_Ta_fillPlayCounts.drop 0).take 25).all (fun e => sk_ok sk_rec 85 e.1 e.2) = true := by decide +kernel
set_option maxRecDepth 1000000 in
theorem tk_Ta_fillPlayCounts_25 : ((z_Ta_fillPlayCounts.drop 25).take 25).all (fun e => sk_ok sk_rec 85 e.1 e.2) = true := by decide +kernel
set_option maxRecDepth 1000000 in
theorem tk_Ta_fillPlayCounts_50 : ((z_Ta_fillPlayCounts.drop 50).take 25).all (fun e => sk_ok sk_rec 85 e.1 e.2) = true := by decide +kernel
set_option maxRecDepth 1000000 in
theorem tk_Ta_fillPlayCounts : z_Ta_fillPlayCounts.all (fun e => sk_ok sk_rec 85 e.1 e.2) = true := sk_take_drop z_Ta_fillPlayCounts (fun e => sk_ok sk_rec 85 e.1 e.2) 0 25 tk_Ta_fillPlayCounts_0 (sk_take_drop z_Ta_fillPlayCounts (fun e => sk_ok sk_rec 85 e.1 e.2) 25 25 tk_Ta_fillPlayCounts_25 (sk_take_drop z_Ta_fillPlayCounts (fun e => sk_ok sk_rec 85 e.1 e.2) 50 25 tk_Ta_fillPlayCounts_50 (sk_drop_nil z_Ta_fillPlayCounts (fun e => sk_ok sk_rec 85 e.1 e.2) 75 rfl)))
set_option maxRecDepth 1000000 in
theorem tk_Ta_playsAt : z_Ta_playsAt.all (fun e => sk_ok sk_rec 86 e.1 e.2) = true := by decide +kernel
set_option maxRecDepth 1000000 in
theorem tk_Ta_fillChances_0 : ((z_Ta_fillChances.drop 0).take 25).all (fun e => sk_ok sk_rec 87 e.1 e.2) = true := by decide +kernel
set_option maxRecDepth 1000000 in
theorem tk_Ta_fillChances_25 : ((z_Ta_fillChances.drop 25).take 25).all (fun e => sk_ok sk_rec 87 e.1 e.2) = true := by decide +kernel
set_option maxRecDepth 1000000 in
theorem tk_Ta_fillChances_50 : ((z_Ta_fillChances.drop 50).take 25).all (fun e => sk_ok sk_rec 87 e.1 e.2) = true := by decide +kernel
set_option maxRecDepth 1000000 in
theorem tk_Ta_fillChances_75 : ((z_Ta_fillChances.drop 75).take 25).all (fun e => sk_ok sk_rec 87 e.1 e.2) = true := by decide +kernel
set_option maxRecDepth 1000000 in
theorem tk_Ta_fillChances : z_Ta_fillChances.all (fun e => sk_ok sk_rec 87 e.1 e.2) = true := sk_take_drop z_Ta_fillChances (fun e => sk_ok sk_rec 87 e.1 e.2) 0 25 tk_Ta_fillChances_0 (sk_take_drop z_Ta_fillChances (fun e => sk_ok sk_rec 87 e.1 e.2) 25 25 tk_Ta_fillChances_25 (sk_take_drop z_Ta_fillChances (fun e => sk_ok sk_rec 87 e.1 e.2) 50 25 tk_Ta_fillChances_50 (sk_take_drop z_Ta_fillChances (fun e => sk_ok sk_rec 87 e.1 e.2) 75 25 tk_Ta_fillChances_75 (sk_drop_nil z_Ta_fillChances (fun e => sk_ok sk_rec 87 e.1 e.2) 100 rfl))))
set_option maxRecDepth 1000000 in
theorem tk_Ta_chanceAt : z_Ta_chanceAt.all (fun e => sk_ok sk_rec 88 e.1 e.2) = true := by decide +kernel
set_option maxRecDepth 1000000 in
theorem tk_Ta_fillClever_0 : ((z_Ta_fillClever.drop 0).take 25).all (fun e => sk_ok sk_rec 89 e.1 e.2) = true := by decide +kernel
set_option maxRecDepth 1000000 in
theorem tk_Ta_fillClever_25 : ((z_Ta_fillClever.drop 25).take 25).all (fun e => sk_ok sk_rec 89 e.1 e.2) = true := by decide +kernel
set_option maxRecDepth 1000000 in
theorem tk_Ta_fillClever_50 : ((z_Ta_fillClever.drop 50).take 25).all (fun e => sk_ok sk_rec 89 e.1 e.2) = true := by decide +kernel
set_option maxRecDepth 1000000 in
theorem tk_Ta_fillClever_75 : ((z_Ta_fillClever.drop 75).take 25).all (fun e => sk_ok sk_rec 89 e.1 e.2) = true := by decide +kernel
set_option maxRecDepth 1000000 in
theorem tk_Ta_fillClever : z_Ta_fillClever.all (fun e => sk_ok sk_rec 89 e.1 e.2) = true := sk_take_drop z_Ta_fillClever (fun e => sk_ok sk_rec 89 e.1 e.2) 0 25 tk_Ta_fillClever_0 (sk_take_drop z_Ta_fillClever (fun e => sk_ok sk_rec 89 e.1 e.2) 25 25 tk_Ta_fillClever_25 (sk_take_drop z_Ta_fillClever (fun e => sk_ok sk_rec 89 e.1 e.2) 50 25 tk_Ta_fillClever_50 (sk_take_drop z_Ta_fillClever (fun e => sk_ok sk_rec 89 e.1 e.2) 75 25 tk_Ta_fillClever_75 (sk_drop_nil z_Ta_fillClever (fun e => sk_ok sk_rec 89 e.1 e.2) 100 rfl))))
set_option maxRecDepth 1000000 in
theorem tk_Ta_childAt : z_Ta_childAt.all (fun e => sk_ok sk_rec 90 e.1 e.2) = true := by decide +kernel
set_option maxRecDepth 1000000 in
theorem tk_SR_init_0 : ((z_SR_init.drop 0).take 25).all (fun e => sk_ok sk_rec 91 e.1 e.2) = true := by decide +kernel
set_option maxRecDepth 1000000 in
theorem tk_SR_init_25 : ((z_SR_init.drop 25).take 25).all (fun e => sk_ok sk_rec 91 e.1 e.2) = true := by decide +kernel
set_option maxRecDepth 1000000 in
theorem tk_SR_init : z_SR_init.all (fun e => sk_ok sk_rec 91 e.1 e.2) = true := sk_take_drop z_SR_init (fun e => sk_ok sk_rec 91 e.1 e.2) 0 25 tk_SR_init_0 (sk_take_drop z_SR_init (fun e => sk_ok sk_rec 91 e.1 e.2) 25 25 tk_SR_init_25 (sk_drop_nil z_SR_init (fun e => sk_ok sk_rec 91 e.1 e.2) 50 rfl))
set_option maxRecDepth 1000000 in
theorem tk_SR_feed_0 : ((z_SR_feed.drop 0).take 25).all (fun e => sk_ok sk_rec 92 e.1 e.2) = true := by decide +kernel
set_option maxRecDepth 1000000 in
theorem tk_SR_feed_25 : ((z_SR_feed.drop 25).take 25).all (fun e => sk_ok sk_rec 92 e.1 e.2) = true := by decide +kernel
set_option maxRecDepth 1000000 in
theorem tk_SR_feed : z_SR_feed.all (fun e => sk_ok sk_rec 92 e.1 e.2) = true := sk_take_drop z_SR_feed (fun e => sk_ok sk_rec 92 e.1 e.2) 0 25 tk_SR_feed_0 (sk_take_drop z_SR_feed (fun e => sk_ok sk_rec 92 e.1 e.2) 25 25 tk_SR_feed_25 (sk_drop_nil z_SR_feed (fun e => sk_ok sk_rec 92 e.1 e.2) 50 rfl))
set_option maxRecDepth 1000000 in
theorem tk_SR_putBytes_0 : ((z_SR_putBytes.drop 0).take 25).all (fun e => sk_ok sk_rec 93 e.1 e.2) = true := by decide +kernel
set_option maxRecDepth 1000000 in
theorem tk_SR_putBytes_25 : ((z_SR_putBytes.drop 25).take 25).all (fun e => sk_ok sk_rec 93 e.1 e.2) = true := by decide +kernel
set_option maxRecDepth 1000000 in
theorem tk_SR_putBytes : z_SR_putBytes.all (fun e => sk_ok sk_rec 93 e.1 e.2) = true := sk_take_drop z_SR_putBytes (fun e => sk_ok sk_rec 93 e.1 e.2) 0 25 tk_SR_putBytes_0 (sk_take_drop z_SR_putBytes (fun e => sk_ok sk_rec 93 e.1 e.2) 25 25 tk_SR_putBytes_25 (sk_drop_nil z_SR_putBytes (fun e => sk_ok sk_rec 93 e.1 e.2) 50 rfl))
set_option maxRecDepth 1000000 in
theorem tk_SR_end : z_SR_end.all (fun e => sk_ok sk_rec 94 e.1 e.2) = true := by decide +kernel
set_option maxRecDepth 1000000 in
theorem tk_SR_alley_0 : ((z_SR_alley.drop 0).take 25).all (fun e => sk_ok sk_rec 95 e.1 e.2) = true := by decide +kernel
set_option maxRecDepth 1000000 in
theorem tk_SR_alley_25 : ((z_SR_alley.drop 25).take 25).all (fun e => sk_ok sk_rec 95 e.1 e.2) = true := by decide +kernel
set_option maxRecDepth 1000000 in
theorem tk_SR_alley : z_SR_alley.all (fun e => sk_ok sk_rec 95 e.1 e.2) = true := sk_take_drop z_SR_alley (fun e => sk_ok sk_rec 95 e.1 e.2) 0 25 tk_SR_alley_0 (sk_take_drop z_SR_alley (fun e => sk_ok sk_rec 95 e.1 e.2) 25 25 tk_SR_alley_25 (sk_drop_nil z_SR_alley (fun e => sk_ok sk_rec 95 e.1 e.2) 50 rfl))
set_option maxRecDepth 1000000 in
theorem tk_SR_rule_0 : ((z_SR_rule.drop 0).take 25).all (fun e => sk_ok sk_rec 96 e.1 e.2) = true := by decide +kernel
set_option maxRecDepth 1000000 in
theorem tk_SR_rule_25 : ((z_SR_rule.drop 25).take 25).all (fun e => sk_ok sk_rec 96 e.1 e.2) = true := by decide +kernel
set_option maxRecDepth 1000000 in
theorem tk_SR_rule : z_SR_rule.all (fun e => sk_ok sk_rec 96 e.1 e.2) = true := sk_take_drop z_SR_rule (fun e => sk_ok sk_rec 96 e.1 e.2) 0 25 tk_SR_rule_0 (sk_take_drop z_SR_rule (fun e => sk_ok sk_rec 96 e.1 e.2) 25 25 tk_SR_rule_25 (sk_drop_nil z_SR_rule (fun e => sk_ok sk_rec 96 e.1 e.2) 50 rfl))
set_option maxRecDepth 1000000 in
theorem tk_SR_place_0 : ((z_SR_place.drop 0).take 25).all (fun e => sk_ok sk_rec 97 e.1 e.2) = true := by decide +kernel
set_option maxRecDepth 1000000 in
theorem tk_SR_place_25 : ((z_SR_place.drop 25).take 25).all (fun e => sk_ok sk_rec 97 e.1 e.2) = true := by decide +kernel
set_option maxRecDepth 1000000 in
theorem tk_SR_place : z_SR_place.all (fun e => sk_ok sk_rec 97 e.1 e.2) = true := sk_take_drop z_SR_place (fun e => sk_ok sk_rec 97 e.1 e.2) 0 25 tk_SR_place_0 (sk_take_drop z_SR_place (fun e => sk_ok sk_rec 97 e.1 e.2) 25 25 tk_SR_place_25 (sk_drop_nil z_SR_place (fun e => sk_ok sk_rec 97 e.1 e.2) 50 rfl))
set_option maxRecDepth 1000000 in
theorem tk_SR_can_0 : ((z_SR_can.drop 0).take 25).all (fun e => sk_ok sk_rec 98 e.1 e.2) = true := by decide +kernel
set_option maxRecDepth 1000000 in
theorem tk_SR_can_25 : ((z_SR_can.drop 25).take 25).all (fun e => sk_ok sk_rec 98 e.1 e.2) = true := by decide +kernel
set_option maxRecDepth 1000000 in
theorem tk_SR_can : z_SR_can.all (fun e => sk_ok sk_rec 98 e.1 e.2) = true := sk_take_drop z_SR_can (fun e => sk_ok sk_rec 98 e.1 e.2) 0 25 tk_SR_can_0 (sk_take_drop z_SR_can (fun e => sk_ok sk_rec 98 e.1 e.2) 25 25 tk_SR_can_25 (sk_drop_nil z_SR_can (fun e => sk_ok sk_rec 98 e.1 e.2) 50 rfl))
set_option maxRecDepth 1000000 in
theorem tk_SR_stroke_0 : ((z_SR_stroke.drop 0).take 25).all (fun e => sk_ok sk_rec 99 e.1 e.2) = true := by decide +kernel
set_option maxRecDepth 1000000 in
theorem tk_SR_stroke_25 : ((z_SR_stroke.drop 25).take 25).all (fun e => sk_ok sk_rec 99 e.1 e.2) = true := by decide +kernel
set_option maxRecDepth 1000000 in
theorem tk_SR_stroke : z_SR_stroke.all (fun e => sk_ok sk_rec 99 e.1 e.2) = true := sk_take_drop z_SR_stroke (fun e => sk_ok sk_rec 99 e.1 e.2) 0 25 tk_SR_stroke_0 (sk_take_drop z_SR_stroke (fun e => sk_ok sk_rec 99 e.1 e.2) 25 25 tk_SR_stroke_25 (sk_drop_nil z_SR_stroke (fun e => sk_ok sk_rec 99 e.1 e.2) 50 rfl))
set_option maxRecDepth 1000000 in
theorem tk_SR_up_0 : ((z_SR_up.drop 0).take 25).all (fun e => sk_ok sk_rec 100 e.1 e.2) = true := by decide +kernel
set_option maxRecDepth 1000000 in
theorem tk_SR_up_25 : ((z_SR_up.drop 25).take 25).all (fun e => sk_ok sk_rec 100 e.1 e.2) = true := by decide +kernel
set_option maxRecDepth 1000000 in
theorem tk_SR_up : z_SR_up.all (fun e => sk_ok sk_rec 100 e.1 e.2) = true := sk_take_drop z_SR_up (fun e => sk_ok sk_rec 100 e.1 e.2) 0 25 tk_SR_up_0 (sk_take_drop z_SR_up (fun e => sk_ok sk_rec 100 e.1 e.2) 25 25 tk_SR_up_25 (sk_drop_nil z_SR_up (fun e => sk_ok sk_rec 100 e.1 e.2) 50 rfl))
set_option maxRecDepth 1000000 in
theorem tk_SR_pass : z_SR_pass.all (fun e => sk_ok sk_rec 101 e.1 e.2) = true := by decide +kernel
set_option maxRecDepth 1000000 in
theorem tk_SR_undo : z_SR_undo.all (fun e => sk_ok sk_rec 102 e.1 e.2) = true := by decide +kernel
set_option maxRecDepth 1000000 in
theorem tk_SR_won : z_SR_won.all (fun e => sk_ok sk_rec 103 e.1 e.2) = true := by decide +kernel
set_option maxRecDepth 1000000 in
theorem tk_SR_wins_0 : ((z_SR_wins.drop 0).take 25).all (fun e => sk_ok sk_rec 104 e.1 e.2) = true := by decide +kernel
set_option maxRecDepth 1000000 in
theorem tk_SR_wins_25 : ((z_SR_wins.drop 25).take 25).all (fun e => sk_ok sk_rec 104 e.1 e.2) = true := by decide +kernel
set_option maxRecDepth 1000000 in
theorem tk_SR_wins_50 : ((z_SR_wins.drop 50).take 25).all (fun e => sk_ok sk_rec 104 e.1 e.2) = true := by decide +kernel
set_option maxRecDepth 1000000 in
theorem tk_SR_wins : z_SR_wins.all (fun e => sk_ok sk_rec 104 e.1 e.2) = true := sk_take_drop z_SR_wins (fun e => sk_ok sk_rec 104 e.1 e.2) 0 25 tk_SR_wins_0 (sk_take_drop z_SR_wins (fun e => sk_ok sk_rec 104 e.1 e.2) 25 25 tk_SR_wins_25 (sk_take_drop z_SR_wins (fun e => sk_ok sk_rec 104 e.1 e.2) 50 25 tk_SR_wins_50 (sk_drop_nil z_SR_wins (fun e => sk_ok sk_rec 104 e.1 e.2) 75 rfl)))
set_option maxRecDepth 1000000 in
theorem tk_SR_worth : z_SR_worth.all (fun e => sk_ok sk_rec 105 e.1 e.2) = true := by decide +kernel
set_option maxRecDepth 1000000 in
theorem tk_SR_plain : z_SR_plain.all (fun e => sk_ok sk_rec 106 e.1 e.2) = true := by decide +kernel
set_option maxRecDepth 1000000 in
theorem tk_SR_again_0 : ((z_SR_again.drop 0).take 25).all (fun e => sk_ok sk_rec 107 e.1 e.2) = true := by decide +kernel
set_option maxRecDepth 1000000 in
theorem tk_SR_again_25 : ((z_SR_again.drop 25).take 25).all (fun e => sk_ok sk_rec 107 e.1 e.2) = true := by decide +kernel
set_option maxRecDepth 1000000 in
theorem tk_SR_again : z_SR_again.all (fun e => sk_ok sk_rec 107 e.1 e.2) = true := sk_take_drop z_SR_again (fun e => sk_ok sk_rec 107 e.1 e.2) 0 25 tk_SR_again_0 (sk_take_drop z_SR_again (fun e => sk_ok sk_rec 107 e.1 e.2) 25 25 tk_SR_again_25 (sk_drop_nil z_SR_again (fun e => sk_ok sk_rec 107 e.1 e.2) 50 rfl))
set_option maxRecDepth 1000000 in
theorem tk_SR_lasts : z_SR_lasts.all (fun e => sk_ok sk_rec 108 e.1 e.2) = true := by decide +kernel
set_option maxRecDepth 1000000 in
theorem tk_SR_plays : z_SR_plays.all (fun e => sk_ok sk_rec 109 e.1 e.2) = true := by decide +kernel
set_option maxRecDepth 1000000 in
theorem tk_SR_fair_0 : ((z_SR_fair.drop 0).take 25).all (fun e => sk_ok sk_rec 110 e.1 e.2) = true := by decide +kernel
set_option maxRecDepth 1000000 in
theorem tk_SR_fair_25 : ((z_SR_fair.drop 25).take 25).all (fun e => sk_ok sk_rec 110 e.1 e.2) = true := by decide +kernel
set_option maxRecDepth 1000000 in
theorem tk_SR_fair : z_SR_fair.all (fun e => sk_ok sk_rec 110 e.1 e.2) = true := sk_take_drop z_SR_fair (fun e => sk_ok sk_rec 110 e.1 e.2) 0 25 tk_SR_fair_0 (sk_take_drop z_SR_fair (fun e => sk_ok sk_rec 110 e.1 e.2) 25 25 tk_SR_fair_25 (sk_drop_nil z_SR_fair (fun e => sk_ok sk_rec 110 e.1 e.2) 50 rfl))
set_option maxRecDepth 1000000 in
theorem tk_SR_fairSet_0 : ((z_SR_fairSet.drop 0).take 25).all (fun e => sk_ok sk_rec 111 e.1 e.2) = true := by decide +kernel
set_option maxRecDepth 1000000 in
theorem tk_SR_fairSet_25 : ((z_SR_fairSet.drop 25).take 25).all (fun e => sk_ok sk_rec 111 e.1 e.2) = true := by decide +kernel
set_option maxRecDepth 1000000 in
theorem tk_SR_fairSet_50 : ((z_SR_fairSet.drop 50).take 25).all (fun e => sk_ok sk_rec 111 e.1 e.2) = true := by decide +kernel
set_option maxRecDepth 1000000 in
theorem tk_SR_fairSet : z_SR_fairSet.all (fun e => sk_ok sk_rec 111 e.1 e.2) = true := sk_take_drop z_SR_fairSet (fun e => sk_ok sk_rec 111 e.1 e.2) 0 25 tk_SR_fairSet_0 (sk_take_drop z_SR_fairSet (fun e => sk_ok sk_rec 111 e.1 e.2) 25 25 tk_SR_fairSet_25 (sk_take_drop z_SR_fairSet (fun e => sk_ok sk_rec 111 e.1 e.2) 50 25 tk_SR_fairSet_50 (sk_drop_nil z_SR_fairSet (fun e => sk_ok sk_rec 111 e.1 e.2) 75 rfl)))
set_option maxRecDepth 1000000 in
theorem tk_SR_chance : z_SR_chance.all (fun e => sk_ok sk_rec 112 e.1 e.2) = true := by decide +kernel
set_option maxRecDepth 1000000 in
theorem tk_SR_child : z_SR_child.all (fun e => sk_ok sk_rec 113 e.1 e.2) = true := by decide +kernel
set_option maxRecDepth 1000000 in
theorem tk_SR_match_0 : ((z_SR_match.drop 0).take 25).all (fun e => sk_ok sk_rec 114 e.1 e.2) = true := by decide +kernel
set_option maxRecDepth 1000000 in
theorem tk_SR_match_25 : ((z_SR_match.drop 25).take 25).all (fun e => sk_ok sk_rec 114 e.1 e.2) = true := by decide +kernel
set_option maxRecDepth 1000000 in
theorem tk_SR_match_50 : ((z_SR_match.drop 50).take 25).all (fun e => sk_ok sk_rec 114 e.1 e.2) = true := by decide +kernel
set_option maxRecDepth 1000000 in
theorem tk_SR_match : z_SR_match.all (fun e => sk_ok sk_rec 114 e.1 e.2) = true := sk_take_drop z_SR_match (fun e => sk_ok sk_rec 114 e.1 e.2) 0 25 tk_SR_match_0 (sk_take_drop z_SR_match (fun e => sk_ok sk_rec 114 e.1 e.2) 25 25 tk_SR_match_25 (sk_take_drop z_SR_match (fun e => sk_ok sk_rec 114 e.1 e.2) 50 25 tk_SR_match_50 (sk_drop_nil z_SR_match (fun e => sk_ok sk_rec 114 e.1 e.2) 75 rfl)))
set_option maxRecDepth 1000000 in
theorem tk_SR_isRule : z_SR_isRule.all (fun e => sk_ok sk_rec 115 e.1 e.2) = true := by decide +kernel
set_option maxRecDepth 1000000 in
theorem tk_SR_knew_0 : ((z_SR_knew.drop 0).take 25).all (fun e => sk_ok sk_rec 116 e.1 e.2) = true := by decide +kernel
set_option maxRecDepth 1000000 in
theorem tk_SR_knew_25 : ((z_SR_knew.drop 25).take 25).all (fun e => sk_ok sk_rec 116 e.1 e.2) = true := by decide +kernel
set_option maxRecDepth 1000000 in
theorem tk_SR_knew_50 : ((z_SR_knew.drop 50).take 25).all (fun e => sk_ok sk_rec 116 e.1 e.2) = true := by decide +kernel
set_option maxRecDepth 1000000 in
theorem tk_SR_knew_75 : ((z_SR_knew.drop 75).take 25).all (fun e => sk_ok sk_rec 116 e.1 e.2) = true := by decide +kernel
set_option maxRecDepth 1000000 in
theorem tk_SR_knew : z_SR_knew.all (fun e => sk_ok sk_rec 116 e.1 e.2) = true := sk_take_drop z_SR_knew (fun e => sk_ok sk_rec 116 e.1 e.2) 0 25 tk_SR_knew_0 (sk_take_drop z_SR_knew (fun e => sk_ok sk_rec 116 e.1 e.2) 25 25 tk_SR_knew_25 (sk_take_drop z_SR_knew (fun e => sk_ok sk_rec 116 e.1 e.2) 50 25 tk_SR_knew_50 (sk_take_drop z_SR_knew (fun e => sk_ok sk_rec 116 e.1 e.2) 75 25 tk_SR_knew_75 (sk_drop_nil z_SR_knew (fun e => sk_ok sk_rec 116 e.1 e.2) 100 rfl))))
set_option maxRecDepth 1000000 in
theorem tk_SR_law_0 : ((z_SR_law.drop 0).take 25).all (fun e => sk_ok sk_rec 117 e.1 e.2) = true := by decide +kernel
set_option maxRecDepth 1000000 in
theorem tk_SR_law_25 : ((z_SR_law.drop 25).take 25).all (fun e => sk_ok sk_rec 117 e.1 e.2) = true := by decide +kernel
set_option maxRecDepth 1000000 in
theorem tk_SR_law_50 : ((z_SR_law.drop 50).take 25).all (fun e => sk_ok sk_rec 117 e.1 e.2) = true := by decide +kernel
set_option maxRecDepth 1000000 in
theorem tk_SR_law_75 : ((z_SR_law.drop 75).take 25).all (fun e => sk_ok sk_rec 117 e.1 e.2) = true := by decide +kernel
set_option maxRecDepth 1000000 in
theorem tk_SR_law : z_SR_law.all (fun e => sk_ok sk_rec 117 e.1 e.2) = true := sk_take_drop z_SR_law (fun e => sk_ok sk_rec 117 e.1 e.2) 0 25 tk_SR_law_0 (sk_take_drop z_SR_law (fun e => sk_ok sk_rec 117 e.1 e.2) 25 25 tk_SR_law_25 (sk_take_drop z_SR_law (fun e => sk_ok sk_rec 117 e.1 e.2) 50 25 tk_SR_law_50 (sk_take_drop z_SR_law (fun e => sk_ok sk_rec 117 e.1 e.2) 75 25 tk_SR_law_75 (sk_drop_nil z_SR_law (fun e => sk_ok sk_rec 117 e.1 e.2) 100 rfl))))
set_option maxRecDepth 1000000 in
theorem tk_SR_seed : z_SR_seed.all (fun e => sk_ok sk_rec 118 e.1 e.2) = true := by decide +kernel
set_option maxRecDepth 1000000 in
theorem tk_SR_games_0 : ((z_SR_games.drop 0).take 25).all (fun e => sk_ok sk_rec 119 e.1 e.2) = true := by decide +kernel
set_option maxRecDepth 1000000 in
theorem tk_SR_games_25 : ((z_SR_games.drop 25).take 25).all (fun e => sk_ok sk_rec 119 e.1 e.2) = true := by decide +kernel
set_option maxRecDepth 1000000 in
theorem tk_SR_games : z_SR_games.all (fun e => sk_ok sk_rec 119 e.1 e.2) = true := sk_take_drop z_SR_games (fun e => sk_ok sk_rec 119 e.1 e.2) 0 25 tk_SR_games_0 (sk_take_drop z_SR_games (fun e => sk_ok sk_rec 119 e.1 e.2) 25 25 tk_SR_games_25 (sk_drop_nil z_SR_games (fun e => sk_ok sk_rec 119 e.1 e.2) 50 rfl))
set_option maxRecDepth 1000000 in
theorem tk_SR_against_0 : ((z_SR_against.drop 0).take 25).all (fun e => sk_ok sk_rec 120 e.1 e.2) = true := by decide +kernel
set_option maxRecDepth 1000000 in
theorem tk_SR_against_25 : ((z_SR_against.drop 25).take 25).all (fun e => sk_ok sk_rec 120 e.1 e.2) = true := by decide +kernel
set_option maxRecDepth 1000000 in
theorem tk_SR_against : z_SR_against.all (fun e => sk_ok sk_rec 120 e.1 e.2) = true := sk_take_drop z_SR_against (fun e => sk_ok sk_rec 120 e.1 e.2) 0 25 tk_SR_against_0 (sk_take_drop z_SR_against (fun e => sk_ok sk_rec 120 e.1 e.2) 25 25 tk_SR_against_25 (sk_drop_nil z_SR_against (fun e => sk_ok sk_rec 120 e.1 e.2) 50 rfl))
set_option maxRecDepth 1000000 in
theorem tk_SR_count_0 : ((z_SR_count.drop 0).take 25).all (fun e => sk_ok sk_rec 121 e.1 e.2) = true := by decide +kernel
set_option maxRecDepth 1000000 in
theorem tk_SR_count_25 : ((z_SR_count.drop 25).take 25).all (fun e => sk_ok sk_rec 121 e.1 e.2) = true := by decide +kernel
set_option maxRecDepth 1000000 in
theorem tk_SR_count : z_SR_count.all (fun e => sk_ok sk_rec 121 e.1 e.2) = true := sk_take_drop z_SR_count (fun e => sk_ok sk_rec 121 e.1 e.2) 0 25 tk_SR_count_0 (sk_take_drop z_SR_count (fun e => sk_ok sk_rec 121 e.1 e.2) 25 25 tk_SR_count_25 (sk_drop_nil z_SR_count (fun e => sk_ok sk_rec 121 e.1 e.2) 50 rfl))
set_option maxRecDepth 1000000 in
theorem tk_SR_image_0 : ((z_SR_image.drop 0).take 25).all (fun e => sk_ok sk_rec 122 e.1 e.2) = true := by decide +kernel
set_option maxRecDepth 1000000 in
theorem tk_SR_image_25 : ((z_SR_image.drop 25).take 25).all (fun e => sk_ok sk_rec 122 e.1 e.2) = true := by decide +kernel
set_option maxRecDepth 1000000 in
theorem tk_SR_image : z_SR_image.all (fun e => sk_ok sk_rec 122 e.1 e.2) = true := sk_take_drop z_SR_image (fun e => sk_ok sk_rec 122 e.1 e.2) 0 25 tk_SR_image_0 (sk_take_drop z_SR_image (fun e => sk_ok sk_rec 122 e.1 e.2) 25 25 tk_SR_image_25 (sk_drop_nil z_SR_image (fun e => sk_ok sk_rec 122 e.1 e.2) 50 rfl))
set_option maxRecDepth 1000000 in
theorem tk_SR_back_0 : ((z_SR_back.drop 0).take 25).all (fun e => sk_ok sk_rec 123 e.1 e.2) = true := by decide +kernel
set_option maxRecDepth 1000000 in
theorem tk_SR_back_25 : ((z_SR_back.drop 25).take 25).all (fun e => sk_ok sk_rec 123 e.1 e.2) = true := by decide +kernel
set_option maxRecDepth 1000000 in
theorem tk_SR_back : z_SR_back.all (fun e => sk_ok sk_rec 123 e.1 e.2) = true := sk_take_drop z_SR_back (fun e => sk_ok sk_rec 123 e.1 e.2) 0 25 tk_SR_back_0 (sk_take_drop z_SR_back (fun e => sk_ok sk_rec 123 e.1 e.2) 25 25 tk_SR_back_25 (sk_drop_nil z_SR_back (fun e => sk_ok sk_rec 123 e.1 e.2) 50 rfl))
set_option maxRecDepth 1000000 in
theorem tk_M_init_0 : ((z_M_init.drop 0).take 25).all (fun e => sk_ok sk_rec 124 e.1 e.2) = true := by decide +kernel
set_option maxRecDepth 1000000 in
theorem tk_M_init_25 : ((z_M_init.drop 25).take 25).all (fun e => sk_ok sk_rec 124 e.1 e.2) = true := by decide +kernel
set_option maxRecDepth 1000000 in
theorem tk_M_init_50 : ((z_M_init.drop 50).take 25).all (fun e => sk_ok sk_rec 124 e.1 e.2) = true := by decide +kernel
set_option maxRecDepth 1000000 in
theorem tk_M_init_75 : ((z_M_init.drop 75).take 25).all (fun e => sk_ok sk_rec 124 e.1 e.2) = true := by decide +kernel
set_option maxRecDepth 1000000 in
theorem tk_M_init : z_M_init.all (fun e => sk_ok sk_rec 124 e.1 e.2) = true := sk_take_drop z_M_init (fun e => sk_ok sk_rec 124 e.1 e.2) 0 25 tk_M_init_0 (sk_take_drop z_M_init (fun e => sk_ok sk_rec 124 e.1 e.2) 25 25 tk_M_init_25 (sk_take_drop z_M_init (fun e => sk_ok sk_rec 124 e.1 e.2) 50 25 tk_M_init_50 (sk_take_drop z_M_init (fun e => sk_ok sk_rec 124 e.1 e.2) 75 25 tk_M_init_75 (sk_drop_nil z_M_init (fun e => sk_ok sk_rec 124 e.1 e.2) 100 rfl))))
set_option maxRecDepth 1000000 in
theorem tk_M_in : z_M_in.all (fun e => sk_ok sk_rec 125 e.1 e.2) = true := by decide +kernel
set_option maxRecDepth 1000000 in
theorem tk_M_isOf : z_M_isOf.all (fun e => sk_ok sk_rec 126 e.1 e.2) = true := by decide +kernel
set_option maxRecDepth 1000000 in
theorem tk_M_bits : z_M_bits.all (fun e => sk_ok sk_rec 127 e.1 e.2) = true := by decide +kernel
set_option maxRecDepth 1000000 in
theorem tk_M_four : z_M_four.all (fun e => sk_ok sk_rec 128 e.1 e.2) = true := by decide +kernel
set_option maxRecDepth 1000000 in
theorem tk_M_feed_0 : ((z_M_feed.drop 0).take 25).all (fun e => sk_ok sk_rec 129 e.1 e.2) = true := by decide +kernel
set_option maxRecDepth 1000000 in
theorem tk_M_feed_25 : ((z_M_feed.drop 25).take 25).all (fun e => sk_ok sk_rec 129 e.1 e.2) = true := by decide +kernel
set_option maxRecDepth 1000000 in
theorem tk_M_feed : z_M_feed.all (fun e => sk_ok sk_rec 129 e.1 e.2) = true := sk_take_drop z_M_feed (fun e => sk_ok sk_rec 129 e.1 e.2) 0 25 tk_M_feed_0 (sk_take_drop z_M_feed (fun e => sk_ok sk_rec 129 e.1 e.2) 25 25 tk_M_feed_25 (sk_drop_nil z_M_feed (fun e => sk_ok sk_rec 129 e.1 e.2) 50 rfl))
set_option maxRecDepth 1000000 in
theorem tk_M_end : z_M_end.all (fun e => sk_ok sk_rec 130 e.1 e.2) = true := by decide +kernel
set_option maxRecDepth 1000000 in
theorem tk_M_fails : z_M_fails.all (fun e => sk_ok sk_rec 131 e.1 e.2) = true := by decide +kernel
set_option maxRecDepth 1000000 in
theorem tk_M_see_0 : ((z_M_see.drop 0).take 25).all (fun e => sk_ok sk_rec 132 e.1 e.2) = true := by decide +kernel
set_option maxRecDepth 1000000 in
theorem tk_M_see_25 : ((z_M_see.drop 25).take 25).all (fun e => sk_ok sk_rec 132 e.1 e.2) = true := by decide +kernel
set_option maxRecDepth 1000000 in
theorem tk_M_see : z_M_see.all (fun e => sk_ok sk_rec 132 e.1 e.2) = true := sk_take_drop z_M_see (fun e => sk_ok sk_rec 132 e.1 e.2) 0 25 tk_M_see_0 (sk_take_drop z_M_see (fun e => sk_ok sk_rec 132 e.1 e.2) 25 25 tk_M_see_25 (sk_drop_nil z_M_see (fun e => sk_ok sk_rec 132 e.1 e.2) 50 rfl))
set_option maxRecDepth 1000000 in
theorem tk_M_isDigit : z_M_isDigit.all (fun e => sk_ok sk_rec 133 e.1 e.2) = true := by decide +kernel
set_option maxRecDepth 1000000 in
theorem tk_M_isLetter : z_M_isLetter.all (fun e => sk_ok sk_rec 134 e.1 e.2) = true := by decide +kernel
set_option maxRecDepth 1000000 in
theorem tk_M_isWord_0 : ((z_M_isWord.drop 0).take 25).all (fun e => sk_ok sk_rec 135 e.1 e.2) = true := by decide +kernel
set_option maxRecDepth 1000000 in
theorem tk_M_isWord_25 : ((z_M_isWord.drop 25).take 25).all (fun e => sk_ok sk_rec 135 e.1 e.2) = true := by decide +kernel
set_option maxRecDepth 1000000 in
theorem tk_M_isWord : z_M_isWord.all (fun e => sk_ok sk_rec 135 e.1 e.2) = true := sk_take_drop z_M_isWord (fun e => sk_ok sk_rec 135 e.1 e.2) 0 25 tk_M_isWord_0 (sk_take_drop z_M_isWord (fun e => sk_ok sk_rec 135 e.1 e.2) 25 25 tk_M_isWord_25 (sk_drop_nil z_M_isWord (fun e => sk_ok sk_rec 135 e.1 e.2) 50 rfl))
