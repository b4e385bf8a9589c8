/-! each method looked up: by wip/gen/gen3.py -/
set_option maxRecDepth 100000 in
theorem mx_o_X12_finish : mx_okM mx_k_X12_finish = true := by decide +kernel
set_option maxRecDepth 100000 in
theorem mx_v_X12_finish : mx_okW mx_k_X12_finish = true := by decide +kernel
set_option maxRecDepth 100000 in
theorem mx_o_X12_drops : mx_okM mx_k_X12_drops = true := by decide +kernel
set_option maxRecDepth 100000 in
theorem mx_v_X12_drops : mx_okW mx_k_X12_drops = true := by decide +kernel
set_option maxRecDepth 100000 in
theorem mx_o_X12_drop : mx_okM mx_k_X12_drop = true := by decide +kernel
set_option maxRecDepth 100000 in
theorem mx_v_X12_drop : mx_okW mx_k_X12_drop = true := by decide +kernel
set_option maxRecDepth 100000 in
theorem mx_o_X12_learn : mx_okM mx_k_X12_learn = true := by decide +kernel
set_option maxRecDepth 100000 in
theorem mx_v_X12_learn : mx_okW mx_k_X12_learn = true := by decide +kernel
set_option maxRecDepth 100000 in
theorem mx_o_X12_undo : mx_okM mx_k_X12_undo = true := by decide +kernel
set_option maxRecDepth 100000 in
theorem mx_v_X12_undo : mx_okW mx_k_X12_undo = true := by decide +kernel
set_option maxRecDepth 100000 in
theorem mx_o_X12_finishing : mx_okM mx_k_X12_finishing = true := by decide +kernel
set_option maxRecDepth 100000 in
theorem mx_v_X12_finishing : mx_okW mx_k_X12_finishing = true := by decide +kernel
set_option maxRecDepth 100000 in
theorem mx_o_X12_lost : mx_okM mx_k_X12_lost = true := by decide +kernel
set_option maxRecDepth 100000 in
theorem mx_v_X12_lost : mx_okW mx_k_X12_lost = true := by decide +kernel
set_option maxRecDepth 100000 in
theorem mx_o_X12_reckons : mx_okM mx_k_X12_reckons = true := by decide +kernel
set_option maxRecDepth 100000 in
theorem mx_v_X12_reckons : mx_okW mx_k_X12_reckons = true := by decide +kernel
set_option maxRecDepth 100000 in
theorem mx_o_X12_lowest : mx_okM mx_k_X12_lowest = true := by decide +kernel
set_option maxRecDepth 100000 in
theorem mx_v_X12_lowest : mx_okW mx_k_X12_lowest = true := by decide +kernel
set_option maxRecDepth 100000 in
theorem mx_o_X12_isSafe : mx_okM mx_k_X12_isSafe = true := by decide +kernel
set_option maxRecDepth 100000 in
theorem mx_v_X12_isSafe : mx_okW mx_k_X12_isSafe = true := by decide +kernel
set_option maxRecDepth 100000 in
theorem mx_o_X12_safe : mx_okM mx_k_X12_safe = true := by decide +kernel
set_option maxRecDepth 100000 in
theorem mx_v_X12_safe : mx_okW mx_k_X12_safe = true := by decide +kernel
set_option maxRecDepth 100000 in
theorem mx_o_X12_gainsFor : mx_okM mx_k_X12_gainsFor = true := by decide +kernel
set_option maxRecDepth 100000 in
theorem mx_v_X12_gainsFor : mx_okW mx_k_X12_gainsFor = true := by decide +kernel
set_option maxRecDepth 100000 in
theorem mx_o_X12_best : mx_okM mx_k_X12_best = true := by decide +kernel
set_option maxRecDepth 100000 in
theorem mx_v_X12_best : mx_okW mx_k_X12_best = true := by decide +kernel
set_option maxRecDepth 100000 in
theorem mx_o_X12_isLure : mx_okM mx_k_X12_isLure = true := by decide +kernel
set_option maxRecDepth 100000 in
theorem mx_v_X12_isLure : mx_okW mx_k_X12_isLure = true := by decide +kernel
set_option maxRecDepth 100000 in
theorem mx_o_X12_lure : mx_okM mx_k_X12_lure = true := by decide +kernel
set_option maxRecDepth 100000 in
theorem mx_v_X12_lure : mx_okW mx_k_X12_lure = true := by decide +kernel
set_option maxRecDepth 100000 in
theorem mx_o_X12_sitting : mx_okM mx_k_X12_sitting = true := by decide +kernel
set_option maxRecDepth 100000 in
theorem mx_v_X12_sitting : mx_okW mx_k_X12_sitting = true := by decide +kernel
set_option maxRecDepth 100000 in
theorem mx_o_X12_ways : mx_okM mx_k_X12_ways = true := by decide +kernel
set_option maxRecDepth 100000 in
theorem mx_v_X12_ways : mx_okW mx_k_X12_ways = true := by decide +kernel
set_option maxRecDepth 100000 in
theorem mx_o_X12_seen : mx_okM mx_k_X12_seen = true := by decide +kernel
set_option maxRecDepth 100000 in
theorem mx_v_X12_seen : mx_okW mx_k_X12_seen = true := by decide +kernel
set_option maxRecDepth 100000 in
theorem mx_o_X12_forget : mx_okM mx_k_X12_forget = true := by decide +kernel
set_option maxRecDepth 100000 in
theorem mx_v_X12_forget : mx_okW mx_k_X12_forget = true := by decide +kernel
set_option maxRecDepth 100000 in
theorem mx_o_X12_guessed : mx_okM mx_k_X12_guessed = true := by decide +kernel
set_option maxRecDepth 100000 in
theorem mx_v_X12_guessed : mx_okW mx_k_X12_guessed = true := by decide +kernel
set_option maxRecDepth 100000 in
theorem mx_o_X12_turn : mx_okM mx_k_X12_turn = true := by decide +kernel
set_option maxRecDepth 100000 in
theorem mx_v_X12_turn : mx_okW mx_k_X12_turn = true := by decide +kernel
set_option maxRecDepth 100000 in
theorem mx_o_X12_council : mx_okM mx_k_X12_council = true := by decide +kernel
set_option maxRecDepth 100000 in
theorem mx_v_X12_council : mx_okW mx_k_X12_council = true := by decide +kernel
set_option maxRecDepth 100000 in
theorem mx_o_X12_keep : mx_okM mx_k_X12_keep = true := by decide +kernel
set_option maxRecDepth 100000 in
theorem mx_v_X12_keep : mx_okW mx_k_X12_keep = true := by decide +kernel
set_option maxRecDepth 100000 in
theorem mx_o_X12_back : mx_okM mx_k_X12_back = true := by decide +kernel
set_option maxRecDepth 100000 in
theorem mx_v_X12_back : mx_okW mx_k_X12_back = true := by decide +kernel
set_option maxRecDepth 100000 in
theorem mx_o_X12_count : mx_okM mx_k_X12_count = true := by decide +kernel
set_option maxRecDepth 100000 in
theorem mx_v_X12_count : mx_okW mx_k_X12_count = true := by decide +kernel
