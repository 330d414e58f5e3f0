set_option maxRecDepth 100000 in
theorem ckL_12 : ctOK cL_law ((ct_L_law.drop 720).take 60) = true := by decide +kernel
set_option maxRecDepth 100000 in
theorem ckL_13 : ctOK cL_law ((ct_L_law.drop 780).take 60) = true := by decide +kernel
set_option maxRecDepth 100000 in
theorem ckL_14 : ctOK cL_law ((ct_L_law.drop 840).take 60) = true := by decide +kernel
