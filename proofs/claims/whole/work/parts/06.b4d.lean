set_option maxRecDepth 100000 in
theorem ckL_9 : ctOK cL_law ((ct_L_law.drop 540).take 60) = true := by decide +kernel
set_option maxRecDepth 100000 in
theorem ckL_10 : ctOK cL_law ((ct_L_law.drop 600).take 60) = true := by decide +kernel
set_option maxRecDepth 100000 in
theorem ckL_11 : ctOK cL_law ((ct_L_law.drop 660).take 60) = true := by decide +kernel
