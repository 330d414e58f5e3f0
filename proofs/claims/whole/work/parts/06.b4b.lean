set_option maxRecDepth 100000 in
theorem ckL_3 : ctOK cL_law ((ct_L_law.drop 180).take 60) = true := by decide +kernel
set_option maxRecDepth 100000 in
theorem ckL_4 : ctOK cL_law ((ct_L_law.drop 240).take 60) = true := by decide +kernel
set_option maxRecDepth 100000 in
theorem ckL_5 : ctOK cL_law ((ct_L_law.drop 300).take 60) = true := by decide +kernel
