set_option maxRecDepth 100000 in
theorem ck_X8_headHere : ctOK cX8_headHere ct_X8_headHere = true := by decide +kernel
set_option maxRecDepth 100000 in
theorem ck_X8_readTest : ctOK cX8_readTest ct_X8_readTest = true := by decide +kernel
set_option maxRecDepth 100000 in
theorem ck_X8_readBoth : ctOK cX8_readBoth ct_X8_readBoth = true := by decide +kernel
set_option maxRecDepth 100000 in
theorem ck_X8_readPlain : ctOK cX8_readPlain ct_X8_readPlain = true := by decide +kernel
set_option maxRecDepth 100000 in
theorem ck_X8_readBracketTest : ctOK cX8_readBracketTest ct_X8_readBracketTest = true := by decide +kernel
set_option maxRecDepth 100000 in
theorem ck_X8_comparisonHere : ctOK cX8_comparisonHere ct_X8_comparisonHere = true := by decide +kernel
set_option maxRecDepth 100000 in
theorem ck_X8_readSum : ctOK cX8_readSum ct_X8_readSum = true := by decide +kernel
set_option maxRecDepth 100000 in
theorem ck_X8_readTerm : ctOK cX8_readTerm ct_X8_readTerm = true := by decide +kernel
set_option maxRecDepth 100000 in
theorem ck_X8_readPart : ctOK cX8_readPart ct_X8_readPart = true := by decide +kernel
set_option maxRecDepth 100000 in
theorem ck_X8_readBracketSum : ctOK cX8_readBracketSum ct_X8_readBracketSum = true := by decide +kernel
set_option maxRecDepth 100000 in
theorem ck_X8_numberHere : ctOK cX8_numberHere ct_X8_numberHere = true := by decide +kernel
set_option maxRecDepth 100000 in
theorem ck_X8_wordHere : ctOK cX8_wordHere ct_X8_wordHere = true := by decide +kernel
set_option maxRecDepth 100000 in
theorem ck_X9_init : ctOK cX9_init ct_X9_init = true := by decide +kernel
set_option maxRecDepth 100000 in
theorem ck_X9_become : ctOK cX9_become ct_X9_become = true := by decide +kernel
set_option maxRecDepth 100000 in
theorem ck_X9_resettle : ctOK cX9_resettle ct_X9_resettle = true := by decide +kernel
set_option maxRecDepth 100000 in
theorem ck_X9_move : ctOK cX9_move ct_X9_move = true := by decide +kernel
set_option maxRecDepth 100000 in
theorem ck_X9_moveBack : ctOK cX9_moveBack ct_X9_moveBack = true := by decide +kernel
set_option maxRecDepth 100000 in
theorem ck_X9_held : ctOK cX9_held ct_X9_held = true := by decide +kernel
set_option maxRecDepth 100000 in
theorem ck_X9_debt : ctOK cX9_debt ct_X9_debt = true := by decide +kernel
set_option maxRecDepth 100000 in
theorem ck_X9_ownerAt : ctOK cX9_ownerAt ct_X9_ownerAt = true := by decide +kernel
set_option maxRecDepth 100000 in
theorem ck_X9_rainyDays : ctOK cX9_rainyDays ct_X9_rainyDays = true := by decide +kernel
set_option maxRecDepth 100000 in
theorem ck_X9_lawInForce : ctOK cX9_lawInForce ct_X9_lawInForce = true := by decide +kernel
set_option maxRecDepth 100000 in
theorem ck_X10_init : ctOK cX10_init ct_X10_init = true := by decide +kernel
set_option maxRecDepth 100000 in
theorem ck_X10_put : ctOK cX10_put ct_X10_put = true := by decide +kernel
set_option maxRecDepth 100000 in
theorem ck_X11_init : ctOK cX11_init ct_X11_init = true := by decide +kernel
set_option maxRecDepth 100000 in
theorem ck_X11_terms : ctOK cX11_terms ct_X11_terms = true := by decide +kernel
set_option maxRecDepth 100000 in
theorem ck_X11_rain : ctOK cX11_rain ct_X11_rain = true := by decide +kernel
set_option maxRecDepth 100000 in
theorem ck_X11_feed : ctOK cX11_feed ct_X11_feed = true := by decide +kernel
set_option maxRecDepth 100000 in
theorem ck_X11_end : ctOK cX11_end ct_X11_end = true := by decide +kernel
set_option maxRecDepth 100000 in
theorem ck_X11_row : ctOK cX11_row ct_X11_row = true := by decide +kernel
set_option maxRecDepth 100000 in
theorem ck_X11_fog : ctOK cX11_fog ct_X11_fog = true := by decide +kernel
set_option maxRecDepth 100000 in
theorem ck_X11_law : ctOK cX11_law ct_X11_law = true := by decide +kernel
set_option maxRecDepth 100000 in
theorem ck_X11_fault : ctOK cX11_fault ct_X11_fault = true := by decide +kernel
set_option maxRecDepth 100000 in
theorem ck_X11_force : ctOK cX11_force ct_X11_force = true := by decide +kernel
set_option maxRecDepth 100000 in
theorem ck_X11_of : ctOK cX11_of ct_X11_of = true := by decide +kernel
set_option maxRecDepth 100000 in
theorem ck_X11_lend : ctOK cX11_lend ct_X11_lend = true := by decide +kernel
set_option maxRecDepth 100000 in
theorem ck_X11_home : ctOK cX11_home ct_X11_home = true := by decide +kernel
set_option maxRecDepth 100000 in
theorem ck_X11_undo : ctOK cX11_undo ct_X11_undo = true := by decide +kernel
set_option maxRecDepth 100000 in
theorem ck_X11_live : ctOK cX11_live ct_X11_live = true := by decide +kernel
set_option maxRecDepth 100000 in
theorem ck_X11_when : ctOK cX11_when ct_X11_when = true := by decide +kernel
set_option maxRecDepth 100000 in
theorem ck_X11_age : ctOK cX11_age ct_X11_age = true := by decide +kernel
set_option maxRecDepth 100000 in
theorem ck_X11_wages : ctOK cX11_wages ct_X11_wages = true := by decide +kernel
set_option maxRecDepth 100000 in
theorem ck_X11_gap : ctOK cX11_gap ct_X11_gap = true := by decide +kernel
set_option maxRecDepth 100000 in
theorem ck_X11_owes : ctOK cX11_owes ct_X11_owes = true := by decide +kernel
set_option maxRecDepth 100000 in
theorem ck_X11_away : ctOK cX11_away ct_X11_away = true := by decide +kernel
set_option maxRecDepth 100000 in
theorem ck_X11_ring : ctOK cX11_ring ct_X11_ring = true := by decide +kernel
set_option maxRecDepth 100000 in
theorem ck_X11_easter : ctOK cX11_easter ct_X11_easter = true := by decide +kernel
set_option maxRecDepth 100000 in
theorem ck_X11_trade : ctOK cX11_trade ct_X11_trade = true := by decide +kernel
set_option maxRecDepth 100000 in
theorem ck_X11_chain : ctOK cX11_chain ct_X11_chain = true := by decide +kernel
set_option maxRecDepth 100000 in
theorem ck_X11_last : ctOK cX11_last ct_X11_last = true := by decide +kernel
set_option maxRecDepth 100000 in
theorem ck_X11_price : ctOK cX11_price ct_X11_price = true := by decide +kernel
set_option maxRecDepth 100000 in
theorem ck_X11_deed : ctOK cX11_deed ct_X11_deed = true := by decide +kernel
set_option maxRecDepth 100000 in
theorem ck_X11_burn : ctOK cX11_burn ct_X11_burn = true := by decide +kernel
set_option maxRecDepth 100000 in
theorem ck_X11_forged : ctOK cX11_forged ct_X11_forged = true := by decide +kernel
set_option maxRecDepth 100000 in
theorem ck_X11_explains : ctOK cX11_explains ct_X11_explains = true := by decide +kernel
set_option maxRecDepth 100000 in
theorem ck_X11_year : ctOK cX11_year ct_X11_year = true := by decide +kernel
set_option maxRecDepth 100000 in
theorem ck_X11_drawn : ctOK cX11_drawn ct_X11_drawn = true := by decide +kernel
set_option maxRecDepth 100000 in
theorem ck_X11_image : ctOK cX11_image ct_X11_image = true := by decide +kernel
