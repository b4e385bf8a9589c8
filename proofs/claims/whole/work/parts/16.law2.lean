/-! the law looked up, block by block: by wip/gen/gen3.py -/
set_option maxRecDepth 100000 in
theorem mx_ol_352 : (mx_okL mx_k_L_law (mx_k_L_law.1 352) && decide (mx_pc (mx_k_L_law.1 352) = 352)) = true := by decide +kernel
set_option maxRecDepth 100000 in
theorem mx_ol_365 : (mx_okL mx_k_L_law (mx_k_L_law.1 365) && decide (mx_pc (mx_k_L_law.1 365) = 365)) = true := by decide +kernel
set_option maxRecDepth 100000 in
theorem mx_ol_398 : (mx_okL mx_k_L_law (mx_k_L_law.1 398) && decide (mx_pc (mx_k_L_law.1 398) = 398)) = true := by decide +kernel
set_option maxRecDepth 100000 in
theorem mx_ol_411 : (mx_okL mx_k_L_law (mx_k_L_law.1 411) && decide (mx_pc (mx_k_L_law.1 411) = 411)) = true := by decide +kernel
set_option maxRecDepth 100000 in
theorem mx_ol_434 : (mx_okL mx_k_L_law (mx_k_L_law.1 434) && decide (mx_pc (mx_k_L_law.1 434) = 434)) = true := by decide +kernel
set_option maxRecDepth 100000 in
theorem mx_ol_467 : (mx_okL mx_k_L_law (mx_k_L_law.1 467) && decide (mx_pc (mx_k_L_law.1 467) = 467)) = true := by decide +kernel
