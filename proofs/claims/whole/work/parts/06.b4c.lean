set_option maxRecDepth 100000 in
theorem ckL_6 : ctOK cL_law ((ct_L_law.drop 360).take 60) = true := by decide +kernel
set_option maxRecDepth 100000 in
theorem ckL_7 : ctOK cL_law ((ct_L_law.drop 420).take 60) = true := by decide +kernel
set_option maxRecDepth 100000 in
theorem ckL_8 : ctOK cL_law ((ct_L_law.drop 480).take 60) = true := by decide +kernel
