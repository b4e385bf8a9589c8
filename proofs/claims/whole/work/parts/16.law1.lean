/-! the law looked up, block by block: by wip/gen/gen3.py -/
set_option maxRecDepth 100000 in
theorem mx_ol_214 : (mx_okL mx_k_L_law (mx_k_L_law.1 214) && decide (mx_pc (mx_k_L_law.1 214) = 214)) = true := by decide +kernel
set_option maxRecDepth 100000 in
theorem mx_ol_247 : (mx_okL mx_k_L_law (mx_k_L_law.1 247) && decide (mx_pc (mx_k_L_law.1 247) = 247)) = true := by decide +kernel
set_option maxRecDepth 100000 in
theorem mx_ol_280 : (mx_okL mx_k_L_law (mx_k_L_law.1 280) && decide (mx_pc (mx_k_L_law.1 280) = 280)) = true := by decide +kernel
set_option maxRecDepth 100000 in
theorem mx_ol_303 : (mx_okL mx_k_L_law (mx_k_L_law.1 303) && decide (mx_pc (mx_k_L_law.1 303) = 303)) = true := by decide +kernel
set_option maxRecDepth 100000 in
theorem mx_ol_326 : (mx_okL mx_k_L_law (mx_k_L_law.1 326) && decide (mx_pc (mx_k_L_law.1 326) = 326)) = true := by decide +kernel
set_option maxRecDepth 100000 in
theorem mx_ol_339 : (mx_okL mx_k_L_law (mx_k_L_law.1 339) && decide (mx_pc (mx_k_L_law.1 339) = 339)) = true := by decide +kernel
