/-! each method looked up: by wip/gen/gen3.py -/
set_option maxRecDepth 100000 in
theorem mx_o_X11_init : mx_okM mx_k_X11_init = true := by decide +kernel
set_option maxRecDepth 100000 in
theorem mx_v_X11_init : mx_okW mx_k_X11_init = true := by decide +kernel
set_option maxRecDepth 100000 in
theorem mx_o_X11_write : mx_okM mx_k_X11_write = true := by decide +kernel
set_option maxRecDepth 100000 in
theorem mx_v_X11_write : mx_okW mx_k_X11_write = true := by decide +kernel
set_option maxRecDepth 100000 in
theorem mx_o_X11_wipe : mx_okM mx_k_X11_wipe = true := by decide +kernel
set_option maxRecDepth 100000 in
theorem mx_v_X11_wipe : mx_okW mx_k_X11_wipe = true := by decide +kernel
set_option maxRecDepth 100000 in
theorem mx_o_X11_fault : mx_okM mx_k_X11_fault = true := by decide +kernel
set_option maxRecDepth 100000 in
theorem mx_v_X11_fault : mx_okW mx_k_X11_fault = true := by decide +kernel
set_option maxRecDepth 100000 in
theorem mx_o_X11_lay : mx_okM mx_k_X11_lay = true := by decide +kernel
set_option maxRecDepth 100000 in
theorem mx_v_X11_lay : mx_okW mx_k_X11_lay = true := by decide +kernel
set_option maxRecDepth 100000 in
theorem mx_o_X11_word : mx_okM mx_k_X11_word = true := by decide +kernel
set_option maxRecDepth 100000 in
theorem mx_v_X11_word : mx_okW mx_k_X11_word = true := by decide +kernel
set_option maxRecDepth 100000 in
theorem mx_o_X11_mayor : mx_okM mx_k_X11_mayor = true := by decide +kernel
set_option maxRecDepth 100000 in
theorem mx_v_X11_mayor : mx_okW mx_k_X11_mayor = true := by decide +kernel
set_option maxRecDepth 100000 in
theorem mx_o_X11_said : mx_okM mx_k_X11_said = true := by decide +kernel
set_option maxRecDepth 100000 in
theorem mx_v_X11_said : mx_okW mx_k_X11_said = true := by decide +kernel
set_option maxRecDepth 100000 in
theorem mx_o_X11_say : mx_okM mx_k_X11_say = true := by decide +kernel
set_option maxRecDepth 100000 in
theorem mx_v_X11_say : mx_okW mx_k_X11_say = true := by decide +kernel
set_option maxRecDepth 100000 in
theorem mx_o_X11_end : mx_okM mx_k_X11_end = true := by decide +kernel
set_option maxRecDepth 100000 in
theorem mx_v_X11_end : mx_okW mx_k_X11_end = true := by decide +kernel
set_option maxRecDepth 100000 in
theorem mx_o_X11_finish : mx_okM mx_k_X11_finish = true := by decide +kernel
set_option maxRecDepth 100000 in
theorem mx_v_X11_finish : mx_okW mx_k_X11_finish = true := by decide +kernel
set_option maxRecDepth 100000 in
theorem mx_o_X11_drop : mx_okM mx_k_X11_drop = true := by decide +kernel
set_option maxRecDepth 100000 in
theorem mx_v_X11_drop : mx_okW mx_k_X11_drop = true := by decide +kernel
set_option maxRecDepth 100000 in
theorem mx_o_X11_learn : mx_okM mx_k_X11_learn = true := by decide +kernel
set_option maxRecDepth 100000 in
theorem mx_v_X11_learn : mx_okW mx_k_X11_learn = true := by decide +kernel
set_option maxRecDepth 100000 in
theorem mx_o_X11_undo : mx_okM mx_k_X11_undo = true := by decide +kernel
set_option maxRecDepth 100000 in
theorem mx_v_X11_undo : mx_okW mx_k_X11_undo = true := by decide +kernel
set_option maxRecDepth 100000 in
theorem mx_o_X11_finishing : mx_okM mx_k_X11_finishing = true := by decide +kernel
set_option maxRecDepth 100000 in
theorem mx_v_X11_finishing : mx_okW mx_k_X11_finishing = true := by decide +kernel
set_option maxRecDepth 100000 in
theorem mx_o_X11_safe : mx_okM mx_k_X11_safe = true := by decide +kernel
set_option maxRecDepth 100000 in
theorem mx_v_X11_safe : mx_okW mx_k_X11_safe = true := by decide +kernel
set_option maxRecDepth 100000 in
theorem mx_o_X11_best : mx_okM mx_k_X11_best = true := by decide +kernel
set_option maxRecDepth 100000 in
theorem mx_v_X11_best : mx_okW mx_k_X11_best = true := by decide +kernel
set_option maxRecDepth 100000 in
theorem mx_o_X11_lure : mx_okM mx_k_X11_lure = true := by decide +kernel
set_option maxRecDepth 100000 in
theorem mx_v_X11_lure : mx_okW mx_k_X11_lure = true := by decide +kernel
set_option maxRecDepth 100000 in
theorem mx_o_X11_sitting : mx_okM mx_k_X11_sitting = true := by decide +kernel
set_option maxRecDepth 100000 in
theorem mx_v_X11_sitting : mx_okW mx_k_X11_sitting = true := by decide +kernel
set_option maxRecDepth 100000 in
theorem mx_o_X11_ways : mx_okM mx_k_X11_ways = true := by decide +kernel
set_option maxRecDepth 100000 in
theorem mx_v_X11_ways : mx_okW mx_k_X11_ways = true := by decide +kernel
set_option maxRecDepth 100000 in
theorem mx_o_X11_seen : mx_okM mx_k_X11_seen = true := by decide +kernel
set_option maxRecDepth 100000 in
theorem mx_v_X11_seen : mx_okW mx_k_X11_seen = true := by decide +kernel
set_option maxRecDepth 100000 in
theorem mx_o_X11_forget : mx_okM mx_k_X11_forget = true := by decide +kernel
set_option maxRecDepth 100000 in
theorem mx_v_X11_forget : mx_okW mx_k_X11_forget = true := by decide +kernel
set_option maxRecDepth 100000 in
theorem mx_o_X11_guessed : mx_okM mx_k_X11_guessed = true := by decide +kernel
set_option maxRecDepth 100000 in
theorem mx_v_X11_guessed : mx_okW mx_k_X11_guessed = true := by decide +kernel
set_option maxRecDepth 100000 in
theorem mx_o_X11_council : mx_okM mx_k_X11_council = true := by decide +kernel
set_option maxRecDepth 100000 in
theorem mx_v_X11_council : mx_okW mx_k_X11_council = true := by decide +kernel
set_option maxRecDepth 100000 in
theorem mx_o_X11_keep : mx_okM mx_k_X11_keep = true := by decide +kernel
set_option maxRecDepth 100000 in
theorem mx_v_X11_keep : mx_okW mx_k_X11_keep = true := by decide +kernel
set_option maxRecDepth 100000 in
theorem mx_o_X11_back : mx_okM mx_k_X11_back = true := by decide +kernel
set_option maxRecDepth 100000 in
theorem mx_v_X11_back : mx_okW mx_k_X11_back = true := by decide +kernel
set_option maxRecDepth 100000 in
theorem mx_o_X11_count : mx_okM mx_k_X11_count = true := by decide +kernel
set_option maxRecDepth 100000 in
theorem mx_v_X11_count : mx_okW mx_k_X11_count = true := by decide +kernel
set_option maxRecDepth 100000 in
theorem mx_o_X11_layText : mx_okM mx_k_X11_layText = true := by decide +kernel
set_option maxRecDepth 100000 in
theorem mx_v_X11_layText : mx_okW mx_k_X11_layText = true := by decide +kernel
set_option maxRecDepth 100000 in
theorem mx_o_X11_findFinishing : mx_okM mx_k_X11_findFinishing = true := by decide +kernel
set_option maxRecDepth 100000 in
theorem mx_v_X11_findFinishing : mx_okW mx_k_X11_findFinishing = true := by decide +kernel
set_option maxRecDepth 100000 in
theorem mx_o_X11_told : mx_okM mx_k_X11_told = true := by decide +kernel
set_option maxRecDepth 100000 in
theorem mx_v_X11_told : mx_okW mx_k_X11_told = true := by decide +kernel
set_option maxRecDepth 100000 in
theorem mx_o_X11_isMayor : mx_okM mx_k_X11_isMayor = true := by decide +kernel
set_option maxRecDepth 100000 in
theorem mx_v_X11_isMayor : mx_okW mx_k_X11_isMayor = true := by decide +kernel
set_option maxRecDepth 100000 in
theorem mx_o_X11_bit : mx_okM mx_k_X11_bit = true := by decide +kernel
set_option maxRecDepth 100000 in
theorem mx_v_X11_bit : mx_okW mx_k_X11_bit = true := by decide +kernel
