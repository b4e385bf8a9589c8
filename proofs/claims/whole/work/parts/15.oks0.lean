/-! each method looked up: by wip/gen/gen3.py -/
set_option maxRecDepth 100000 in
theorem mx_o_X0_init : mx_okM mx_k_X0_init = true := by decide +kernel
set_option maxRecDepth 100000 in
theorem mx_v_X0_init : mx_okW mx_k_X0_init = true := by decide +kernel
set_option maxRecDepth 100000 in
theorem mx_o_X0_clear : mx_okM mx_k_X0_clear = true := by decide +kernel
set_option maxRecDepth 100000 in
theorem mx_v_X0_clear : mx_okW mx_k_X0_clear = true := by decide +kernel
set_option maxRecDepth 100000 in
theorem mx_o_X0_takePair : mx_okM mx_k_X0_takePair = true := by decide +kernel
set_option maxRecDepth 100000 in
theorem mx_v_X0_takePair : mx_okW mx_k_X0_takePair = true := by decide +kernel
set_option maxRecDepth 100000 in
theorem mx_o_X0_takeSingle : mx_okM mx_k_X0_takeSingle = true := by decide +kernel
set_option maxRecDepth 100000 in
theorem mx_v_X0_takeSingle : mx_okW mx_k_X0_takeSingle = true := by decide +kernel
set_option maxRecDepth 100000 in
theorem mx_o_X0_addWord : mx_okM mx_k_X0_addWord = true := by decide +kernel
set_option maxRecDepth 100000 in
theorem mx_v_X0_addWord : mx_okW mx_k_X0_addWord = true := by decide +kernel
set_option maxRecDepth 100000 in
theorem mx_o_X0_addBehind : mx_okM mx_k_X0_addBehind = true := by decide +kernel
set_option maxRecDepth 100000 in
theorem mx_v_X0_addBehind : mx_okW mx_k_X0_addBehind = true := by decide +kernel
set_option maxRecDepth 100000 in
theorem mx_o_X0_addKnown : mx_okM mx_k_X0_addKnown = true := by decide +kernel
set_option maxRecDepth 100000 in
theorem mx_v_X0_addKnown : mx_okW mx_k_X0_addKnown = true := by decide +kernel
set_option maxRecDepth 100000 in
theorem mx_o_X0_setLongest : mx_okM mx_k_X0_setLongest = true := by decide +kernel
set_option maxRecDepth 100000 in
theorem mx_v_X0_setLongest : mx_okW mx_k_X0_setLongest = true := by decide +kernel
set_option maxRecDepth 100000 in
theorem mx_o_X0_setChain : mx_okM mx_k_X0_setChain = true := by decide +kernel
set_option maxRecDepth 100000 in
theorem mx_v_X0_setChain : mx_okW mx_k_X0_setChain = true := by decide +kernel
set_option maxRecDepth 100000 in
theorem mx_o_X0_has : mx_okM mx_k_X0_has = true := by decide +kernel
set_option maxRecDepth 100000 in
theorem mx_v_X0_has : mx_okW mx_k_X0_has = true := by decide +kernel
set_option maxRecDepth 100000 in
theorem mx_o_X0_kindOf : mx_okM mx_k_X0_kindOf = true := by decide +kernel
set_option maxRecDepth 100000 in
theorem mx_v_X0_kindOf : mx_okW mx_k_X0_kindOf = true := by decide +kernel
set_option maxRecDepth 100000 in
theorem mx_o_X0_worthOf : mx_okM mx_k_X0_worthOf = true := by decide +kernel
set_option maxRecDepth 100000 in
theorem mx_v_X0_worthOf : mx_okW mx_k_X0_worthOf = true := by decide +kernel
set_option maxRecDepth 100000 in
theorem mx_o_X0_behindOf : mx_okM mx_k_X0_behindOf = true := by decide +kernel
set_option maxRecDepth 100000 in
theorem mx_v_X0_behindOf : mx_okW mx_k_X0_behindOf = true := by decide +kernel
set_option maxRecDepth 100000 in
theorem mx_o_X0_allWords : mx_okM mx_k_X0_allWords = true := by decide +kernel
set_option maxRecDepth 100000 in
theorem mx_v_X0_allWords : mx_okW mx_k_X0_allWords = true := by decide +kernel
set_option maxRecDepth 100000 in
theorem mx_o_X0_aheadOf : mx_okM mx_k_X0_aheadOf = true := by decide +kernel
set_option maxRecDepth 100000 in
theorem mx_v_X0_aheadOf : mx_okW mx_k_X0_aheadOf = true := by decide +kernel
set_option maxRecDepth 100000 in
theorem mx_o_X0_firstOf : mx_okM mx_k_X0_firstOf = true := by decide +kernel
set_option maxRecDepth 100000 in
theorem mx_v_X0_firstOf : mx_okW mx_k_X0_firstOf = true := by decide +kernel
set_option maxRecDepth 100000 in
theorem mx_o_X1_init : mx_okM mx_k_X1_init = true := by decide +kernel
set_option maxRecDepth 100000 in
theorem mx_v_X1_init : mx_okW mx_k_X1_init = true := by decide +kernel
set_option maxRecDepth 100000 in
theorem mx_o_X1_outcome : mx_okM mx_k_X1_outcome = true := by decide +kernel
set_option maxRecDepth 100000 in
theorem mx_v_X1_outcome : mx_okW mx_k_X1_outcome = true := by decide +kernel
set_option maxRecDepth 100000 in
theorem mx_o_X1_drawOf : mx_okM mx_k_X1_drawOf = true := by decide +kernel
set_option maxRecDepth 100000 in
theorem mx_v_X1_drawOf : mx_okW mx_k_X1_drawOf = true := by decide +kernel
set_option maxRecDepth 100000 in
theorem mx_o_X1_step : mx_okM mx_k_X1_step = true := by decide +kernel
set_option maxRecDepth 100000 in
theorem mx_v_X1_step : mx_okW mx_k_X1_step = true := by decide +kernel
set_option maxRecDepth 100000 in
theorem mx_o_X1_finishes : mx_okM mx_k_X1_finishes = true := by decide +kernel
set_option maxRecDepth 100000 in
theorem mx_v_X1_finishes : mx_okW mx_k_X1_finishes = true := by decide +kernel
set_option maxRecDepth 100000 in
theorem mx_o_X2_init : mx_okM mx_k_X2_init = true := by decide +kernel
set_option maxRecDepth 100000 in
theorem mx_v_X2_init : mx_okW mx_k_X2_init = true := by decide +kernel
set_option maxRecDepth 100000 in
theorem mx_o_X2_fillStarts : mx_okM mx_k_X2_fillStarts = true := by decide +kernel
set_option maxRecDepth 100000 in
theorem mx_v_X2_fillStarts : mx_okW mx_k_X2_fillStarts = true := by decide +kernel
set_option maxRecDepth 100000 in
theorem mx_o_X2_couldBehind : mx_okM mx_k_X2_couldBehind = true := by decide +kernel
set_option maxRecDepth 100000 in
theorem mx_v_X2_couldBehind : mx_okW mx_k_X2_couldBehind = true := by decide +kernel
set_option maxRecDepth 100000 in
theorem mx_o_X2_find : mx_okM mx_k_X2_find = true := by decide +kernel
set_option maxRecDepth 100000 in
theorem mx_v_X2_find : mx_okW mx_k_X2_find = true := by decide +kernel
set_option maxRecDepth 100000 in
theorem mx_o_X2_fewestMore : mx_okM mx_k_X2_fewestMore = true := by decide +kernel
set_option maxRecDepth 100000 in
theorem mx_v_X2_fewestMore : mx_okW mx_k_X2_fewestMore = true := by decide +kernel
set_option maxRecDepth 100000 in
theorem mx_o_X3_init : mx_okM mx_k_X3_init = true := by decide +kernel
set_option maxRecDepth 100000 in
theorem mx_v_X3_init : mx_okW mx_k_X3_init = true := by decide +kernel
set_option maxRecDepth 100000 in
theorem mx_o_X3_startAnew : mx_okM mx_k_X3_startAnew = true := by decide +kernel
set_option maxRecDepth 100000 in
theorem mx_v_X3_startAnew : mx_okW mx_k_X3_startAnew = true := by decide +kernel
set_option maxRecDepth 100000 in
theorem mx_o_X3_clear : mx_okM mx_k_X3_clear = true := by decide +kernel
set_option maxRecDepth 100000 in
theorem mx_v_X3_clear : mx_okW mx_k_X3_clear = true := by decide +kernel
set_option maxRecDepth 100000 in
theorem mx_o_X3_note : mx_okM mx_k_X3_note = true := by decide +kernel
set_option maxRecDepth 100000 in
theorem mx_v_X3_note : mx_okW mx_k_X3_note = true := by decide +kernel
set_option maxRecDepth 100000 in
theorem mx_o_X3_weigh : mx_okM mx_k_X3_weigh = true := by decide +kernel
set_option maxRecDepth 100000 in
theorem mx_v_X3_weigh : mx_okW mx_k_X3_weigh = true := by decide +kernel
set_option maxRecDepth 100000 in
theorem mx_o_X3_tableOnce : mx_okM mx_k_X3_tableOnce = true := by decide +kernel
set_option maxRecDepth 100000 in
theorem mx_v_X3_tableOnce : mx_okW mx_k_X3_tableOnce = true := by decide +kernel
set_option maxRecDepth 100000 in
theorem mx_o_X4_init : mx_okM mx_k_X4_init = true := by decide +kernel
set_option maxRecDepth 100000 in
theorem mx_v_X4_init : mx_okW mx_k_X4_init = true := by decide +kernel
set_option maxRecDepth 100000 in
theorem mx_o_X4_startWith : mx_okM mx_k_X4_startWith = true := by decide +kernel
set_option maxRecDepth 100000 in
theorem mx_v_X4_startWith : mx_okW mx_k_X4_startWith = true := by decide +kernel
set_option maxRecDepth 100000 in
theorem mx_o_X4_copyFrom : mx_okM mx_k_X4_copyFrom = true := by decide +kernel
set_option maxRecDepth 100000 in
theorem mx_v_X4_copyFrom : mx_okW mx_k_X4_copyFrom = true := by decide +kernel
set_option maxRecDepth 100000 in
theorem mx_o_X5_init : mx_okM mx_k_X5_init = true := by decide +kernel
set_option maxRecDepth 100000 in
theorem mx_v_X5_init : mx_okW mx_k_X5_init = true := by decide +kernel
set_option maxRecDepth 100000 in
theorem mx_o_X5_prepare : mx_okM mx_k_X5_prepare = true := by decide +kernel
set_option maxRecDepth 100000 in
theorem mx_v_X5_prepare : mx_okW mx_k_X5_prepare = true := by decide +kernel
set_option maxRecDepth 100000 in
theorem mx_o_X5_firstsWith : mx_okM mx_k_X5_firstsWith = true := by decide +kernel
set_option maxRecDepth 100000 in
theorem mx_v_X5_firstsWith : mx_okW mx_k_X5_firstsWith = true := by decide +kernel
set_option maxRecDepth 100000 in
theorem mx_o_X5_leadingWith : mx_okM mx_k_X5_leadingWith = true := by decide +kernel
set_option maxRecDepth 100000 in
theorem mx_v_X5_leadingWith : mx_okW mx_k_X5_leadingWith = true := by decide +kernel
set_option maxRecDepth 100000 in
theorem mx_o_X5_tableAt : mx_okM mx_k_X5_tableAt = true := by decide +kernel
set_option maxRecDepth 100000 in
theorem mx_v_X5_tableAt : mx_okW mx_k_X5_tableAt = true := by decide +kernel
set_option maxRecDepth 100000 in
theorem mx_o_X5_seekSafe : mx_okM mx_k_X5_seekSafe = true := by decide +kernel
set_option maxRecDepth 100000 in
theorem mx_v_X5_seekSafe : mx_okW mx_k_X5_seekSafe = true := by decide +kernel
set_option maxRecDepth 100000 in
theorem mx_o_X5_seekLure : mx_okM mx_k_X5_seekLure = true := by decide +kernel
set_option maxRecDepth 100000 in
theorem mx_v_X5_seekLure : mx_okW mx_k_X5_seekLure = true := by decide +kernel
set_option maxRecDepth 100000 in
theorem mx_o_X5_luresTo : mx_okM mx_k_X5_luresTo = true := by decide +kernel
set_option maxRecDepth 100000 in
theorem mx_v_X5_luresTo : mx_okW mx_k_X5_luresTo = true := by decide +kernel
set_option maxRecDepth 100000 in
theorem mx_o_X5_tableWorths : mx_okM mx_k_X5_tableWorths = true := by decide +kernel
set_option maxRecDepth 100000 in
theorem mx_v_X5_tableWorths : mx_okW mx_k_X5_tableWorths = true := by decide +kernel
set_option maxRecDepth 100000 in
theorem mx_o_X5_mostBehind : mx_okM mx_k_X5_mostBehind = true := by decide +kernel
set_option maxRecDepth 100000 in
theorem mx_v_X5_mostBehind : mx_okW mx_k_X5_mostBehind = true := by decide +kernel
set_option maxRecDepth 100000 in
theorem mx_o_X5_tableWays : mx_okM mx_k_X5_tableWays = true := by decide +kernel
set_option maxRecDepth 100000 in
theorem mx_v_X5_tableWays : mx_okW mx_k_X5_tableWays = true := by decide +kernel
set_option maxRecDepth 100000 in
theorem mx_o_X5_sumBehind : mx_okM mx_k_X5_sumBehind = true := by decide +kernel
set_option maxRecDepth 100000 in
theorem mx_v_X5_sumBehind : mx_okW mx_k_X5_sumBehind = true := by decide +kernel
