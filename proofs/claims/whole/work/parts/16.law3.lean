/-! the law looked up, block by block: by wip/gen/gen3.py -/
set_option maxRecDepth 100000 in
theorem mx_ol_500 : (mx_okL mx_k_L_law (mx_k_L_law.1 500) && decide (mx_pc (mx_k_L_law.1 500) = 500)) = true := by decide +kernel
set_option maxRecDepth 100000 in
theorem mx_ol_533 : (mx_okL mx_k_L_law (mx_k_L_law.1 533) && decide (mx_pc (mx_k_L_law.1 533) = 533)) = true := by decide +kernel
set_option maxRecDepth 100000 in
theorem mx_ol_556 : (mx_okL mx_k_L_law (mx_k_L_law.1 556) && decide (mx_pc (mx_k_L_law.1 556) = 556)) = true := by decide +kernel
set_option maxRecDepth 100000 in
theorem mx_ol_589 : (mx_okL mx_k_L_law (mx_k_L_law.1 589) && decide (mx_pc (mx_k_L_law.1 589) = 589)) = true := by decide +kernel
set_option maxRecDepth 100000 in
theorem mx_ol_622 : (mx_okL mx_k_L_law (mx_k_L_law.1 622) && decide (mx_pc (mx_k_L_law.1 622) = 622)) = true := by decide +kernel
set_option maxRecDepth 100000 in
theorem mx_ol_635 : (mx_okL mx_k_L_law (mx_k_L_law.1 635) && decide (mx_pc (mx_k_L_law.1 635) = 635)) = true := by decide +kernel
