/-! each method looked up: by wip/gen/gen3.py -/
set_option maxRecDepth 100000 in
theorem mx_o_X12_init : mx_okM mx_k_X12_init = true := by decide +kernel
set_option maxRecDepth 100000 in
theorem mx_v_X12_init : mx_okW mx_k_X12_init = true := by decide +kernel
set_option maxRecDepth 100000 in
theorem mx_o_X12_in : mx_okM mx_k_X12_in = true := by decide +kernel
set_option maxRecDepth 100000 in
theorem mx_v_X12_in : mx_okW mx_k_X12_in = true := by decide +kernel
set_option maxRecDepth 100000 in
theorem mx_o_X12_isWord : mx_okM mx_k_X12_isWord = true := by decide +kernel
set_option maxRecDepth 100000 in
theorem mx_v_X12_isWord : mx_okW mx_k_X12_isWord = true := by decide +kernel
set_option maxRecDepth 100000 in
theorem mx_o_X12_has : mx_okM mx_k_X12_has = true := by decide +kernel
set_option maxRecDepth 100000 in
theorem mx_v_X12_has : mx_okW mx_k_X12_has = true := by decide +kernel
set_option maxRecDepth 100000 in
theorem mx_o_X12_write : mx_okM mx_k_X12_write = true := by decide +kernel
set_option maxRecDepth 100000 in
theorem mx_v_X12_write : mx_okW mx_k_X12_write = true := by decide +kernel
set_option maxRecDepth 100000 in
theorem mx_o_X12_wipe : mx_okM mx_k_X12_wipe = true := by decide +kernel
set_option maxRecDepth 100000 in
theorem mx_v_X12_wipe : mx_okW mx_k_X12_wipe = true := by decide +kernel
set_option maxRecDepth 100000 in
theorem mx_o_X12_letterAt : mx_okM mx_k_X12_letterAt = true := by decide +kernel
set_option maxRecDepth 100000 in
theorem mx_v_X12_letterAt : mx_okW mx_k_X12_letterAt = true := by decide +kernel
set_option maxRecDepth 100000 in
theorem mx_o_X12_isFigure : mx_okM mx_k_X12_isFigure = true := by decide +kernel
set_option maxRecDepth 100000 in
theorem mx_v_X12_isFigure : mx_okW mx_k_X12_isFigure = true := by decide +kernel
set_option maxRecDepth 100000 in
theorem mx_o_X12_number : mx_okM mx_k_X12_number = true := by decide +kernel
set_option maxRecDepth 100000 in
theorem mx_v_X12_number : mx_okW mx_k_X12_number = true := by decide +kernel
set_option maxRecDepth 100000 in
theorem mx_o_X12_begins : mx_okM mx_k_X12_begins = true := by decide +kernel
set_option maxRecDepth 100000 in
theorem mx_v_X12_begins : mx_okW mx_k_X12_begins = true := by decide +kernel
set_option maxRecDepth 100000 in
theorem mx_o_X12_wordOf : mx_okM mx_k_X12_wordOf = true := by decide +kernel
set_option maxRecDepth 100000 in
theorem mx_v_X12_wordOf : mx_okW mx_k_X12_wordOf = true := by decide +kernel
set_option maxRecDepth 100000 in
theorem mx_o_X12_readsItem : mx_okM mx_k_X12_readsItem = true := by decide +kernel
set_option maxRecDepth 100000 in
theorem mx_v_X12_readsItem : mx_okW mx_k_X12_readsItem = true := by decide +kernel
set_option maxRecDepth 100000 in
theorem mx_o_X12_readsAll : mx_okM mx_k_X12_readsAll = true := by decide +kernel
set_option maxRecDepth 100000 in
theorem mx_v_X12_readsAll : mx_okW mx_k_X12_readsAll = true := by decide +kernel
set_option maxRecDepth 100000 in
theorem mx_o_X12_fault : mx_okM mx_k_X12_fault = true := by decide +kernel
set_option maxRecDepth 100000 in
theorem mx_v_X12_fault : mx_okW mx_k_X12_fault = true := by decide +kernel
set_option maxRecDepth 100000 in
theorem mx_o_X12_lays : mx_okM mx_k_X12_lays = true := by decide +kernel
set_option maxRecDepth 100000 in
theorem mx_v_X12_lays : mx_okW mx_k_X12_lays = true := by decide +kernel
set_option maxRecDepth 100000 in
theorem mx_o_X12_lay : mx_okM mx_k_X12_lay = true := by decide +kernel
set_option maxRecDepth 100000 in
theorem mx_v_X12_lay : mx_okW mx_k_X12_lay = true := by decide +kernel
set_option maxRecDepth 100000 in
theorem mx_o_X12_word : mx_okM mx_k_X12_word = true := by decide +kernel
set_option maxRecDepth 100000 in
theorem mx_v_X12_word : mx_okW mx_k_X12_word = true := by decide +kernel
set_option maxRecDepth 100000 in
theorem mx_o_X12_mayor : mx_okM mx_k_X12_mayor = true := by decide +kernel
set_option maxRecDepth 100000 in
theorem mx_v_X12_mayor : mx_okW mx_k_X12_mayor = true := by decide +kernel
set_option maxRecDepth 100000 in
theorem mx_o_X12_said : mx_okM mx_k_X12_said = true := by decide +kernel
set_option maxRecDepth 100000 in
theorem mx_v_X12_said : mx_okW mx_k_X12_said = true := by decide +kernel
set_option maxRecDepth 100000 in
theorem mx_o_X12_keeps : mx_okM mx_k_X12_keeps = true := by decide +kernel
set_option maxRecDepth 100000 in
theorem mx_v_X12_keeps : mx_okW mx_k_X12_keeps = true := by decide +kernel
set_option maxRecDepth 100000 in
theorem mx_o_X12_last : mx_okM mx_k_X12_last = true := by decide +kernel
set_option maxRecDepth 100000 in
theorem mx_v_X12_last : mx_okW mx_k_X12_last = true := by decide +kernel
set_option maxRecDepth 100000 in
theorem mx_o_X12_maySay : mx_okM mx_k_X12_maySay = true := by decide +kernel
set_option maxRecDepth 100000 in
theorem mx_v_X12_maySay : mx_okW mx_k_X12_maySay = true := by decide +kernel
set_option maxRecDepth 100000 in
theorem mx_o_X12_says : mx_okM mx_k_X12_says = true := by decide +kernel
set_option maxRecDepth 100000 in
theorem mx_v_X12_says : mx_okW mx_k_X12_says = true := by decide +kernel
set_option maxRecDepth 100000 in
theorem mx_o_X12_say : mx_okM mx_k_X12_say = true := by decide +kernel
set_option maxRecDepth 100000 in
theorem mx_v_X12_say : mx_okW mx_k_X12_say = true := by decide +kernel
set_option maxRecDepth 100000 in
theorem mx_o_X12_worthNow : mx_okM mx_k_X12_worthNow = true := by decide +kernel
set_option maxRecDepth 100000 in
theorem mx_v_X12_worthNow : mx_okW mx_k_X12_worthNow = true := by decide +kernel
set_option maxRecDepth 100000 in
theorem mx_o_X12_decrees : mx_okM mx_k_X12_decrees = true := by decide +kernel
set_option maxRecDepth 100000 in
theorem mx_v_X12_decrees : mx_okW mx_k_X12_decrees = true := by decide +kernel
set_option maxRecDepth 100000 in
theorem mx_o_X12_mayEnd : mx_okM mx_k_X12_mayEnd = true := by decide +kernel
set_option maxRecDepth 100000 in
theorem mx_v_X12_mayEnd : mx_okW mx_k_X12_mayEnd = true := by decide +kernel
set_option maxRecDepth 100000 in
theorem mx_o_X12_end : mx_okM mx_k_X12_end = true := by decide +kernel
set_option maxRecDepth 100000 in
theorem mx_v_X12_end : mx_okW mx_k_X12_end = true := by decide +kernel
set_option maxRecDepth 100000 in
theorem mx_o_X12_stops : mx_okM mx_k_X12_stops = true := by decide +kernel
set_option maxRecDepth 100000 in
theorem mx_v_X12_stops : mx_okW mx_k_X12_stops = true := by decide +kernel
set_option maxRecDepth 100000 in
theorem mx_o_X12_levelsOf : mx_okM mx_k_X12_levelsOf = true := by decide +kernel
set_option maxRecDepth 100000 in
theorem mx_v_X12_levelsOf : mx_okW mx_k_X12_levelsOf = true := by decide +kernel
set_option maxRecDepth 100000 in
theorem mx_o_X12_finishes : mx_okM mx_k_X12_finishes = true := by decide +kernel
set_option maxRecDepth 100000 in
theorem mx_v_X12_finishes : mx_okW mx_k_X12_finishes = true := by decide +kernel
set_option maxRecDepth 100000 in
theorem mx_o_X12_all : mx_okM mx_k_X12_all = true := by decide +kernel
set_option maxRecDepth 100000 in
theorem mx_v_X12_all : mx_okW mx_k_X12_all = true := by decide +kernel
set_option maxRecDepth 100000 in
theorem mx_o_X12_knowsFor : mx_okM mx_k_X12_knowsFor = true := by decide +kernel
set_option maxRecDepth 100000 in
theorem mx_v_X12_knowsFor : mx_okW mx_k_X12_knowsFor = true := by decide +kernel
set_option maxRecDepth 100000 in
theorem mx_o_X12_finishesNow : mx_okM mx_k_X12_finishesNow = true := by decide +kernel
set_option maxRecDepth 100000 in
theorem mx_v_X12_finishesNow : mx_okW mx_k_X12_finishesNow = true := by decide +kernel
set_option maxRecDepth 100000 in
theorem mx_o_X12_ends : mx_okM mx_k_X12_ends = true := by decide +kernel
set_option maxRecDepth 100000 in
theorem mx_v_X12_ends : mx_okW mx_k_X12_ends = true := by decide +kernel
