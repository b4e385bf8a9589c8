/-! the law looked up, block by block: by wip/gen/gen3.py -/
set_option maxRecDepth 100000 in
theorem mx_ol_0 : (mx_okL mx_k_L_law (mx_k_L_law.1 0) && decide (mx_pc (mx_k_L_law.1 0) = 0)) = true := by decide +kernel
set_option maxRecDepth 100000 in
theorem mx_ol_18 : (mx_okL mx_k_L_law (mx_k_L_law.1 18) && decide (mx_pc (mx_k_L_law.1 18) = 18)) = true := by decide +kernel
set_option maxRecDepth 100000 in
theorem mx_ol_152 : (mx_okL mx_k_L_law (mx_k_L_law.1 152) && decide (mx_pc (mx_k_L_law.1 152) = 152)) = true := by decide +kernel
set_option maxRecDepth 100000 in
theorem mx_ol_175 : (mx_okL mx_k_L_law (mx_k_L_law.1 175) && decide (mx_pc (mx_k_L_law.1 175) = 175)) = true := by decide +kernel
set_option maxRecDepth 100000 in
theorem mx_ol_188 : (mx_okL mx_k_L_law (mx_k_L_law.1 188) && decide (mx_pc (mx_k_L_law.1 188) = 188)) = true := by decide +kernel
set_option maxRecDepth 100000 in
theorem mx_ol_201 : (mx_okL mx_k_L_law (mx_k_L_law.1 201) && decide (mx_pc (mx_k_L_law.1 201) = 201)) = true := by decide +kernel
