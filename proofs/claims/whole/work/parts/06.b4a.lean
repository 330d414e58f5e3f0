set_option maxRecDepth 100000 in
theorem ckL_0 : ctOK cL_law ((ct_L_law.drop 0).take 60) = true := by decide +kernel
set_option maxRecDepth 100000 in
theorem ckL_1 : ctOK cL_law ((ct_L_law.drop 60).take 60) = true := by decide +kernel
set_option maxRecDepth 100000 in
theorem ckL_2 : ctOK cL_law ((ct_L_law.drop 120).take 60) = true := by decide +kernel
