set_option maxRecDepth 100000 in
theorem ck_X0_init : ctOK cX0_init ct_X0_init = true := by decide +kernel
set_option maxRecDepth 100000 in
theorem ck_X0_drawUp : ctOK cX0_drawUp ct_X0_drawUp = true := by decide +kernel
set_option maxRecDepth 100000 in
theorem ck_X0_before : ctOK cX0_before ct_X0_before = true := by decide +kernel
set_option maxRecDepth 100000 in
theorem ck_X0_times : ctOK cX0_times ct_X0_times = true := by decide +kernel
set_option maxRecDepth 100000 in
theorem ck_X0_total : ctOK cX0_total ct_X0_total = true := by decide +kernel
set_option maxRecDepth 100000 in
theorem ck_X0_dayAt : ctOK cX0_dayAt ct_X0_dayAt = true := by decide +kernel
set_option maxRecDepth 100000 in
theorem ck_X1_init : ctOK cX1_init ct_X1_init = true := by decide +kernel
set_option maxRecDepth 100000 in
theorem ck_X1_find : ctOK cX1_find ct_X1_find = true := by decide +kernel
set_option maxRecDepth 100000 in
theorem ck_X1_creditorsOf : ctOK cX1_creditorsOf ct_X1_creditorsOf = true := by decide +kernel
set_option maxRecDepth 100000 in
theorem ck_X1_closes : ctOK cX1_closes ct_X1_closes = true := by decide +kernel
set_option maxRecDepth 100000 in
theorem ck_X1_extend : ctOK cX1_extend ct_X1_extend = true := by decide +kernel
set_option maxRecDepth 100000 in
theorem ck_X2_init : ctOK cX2_init ct_X2_init = true := by decide +kernel
set_option maxRecDepth 100000 in
theorem ck_X2_add : ctOK cX2_add ct_X2_add = true := by decide +kernel
set_option maxRecDepth 100000 in
theorem ck_X2_drop : ctOK cX2_drop ct_X2_drop = true := by decide +kernel
set_option maxRecDepth 100000 in
theorem ck_X2_isSo : ctOK cX2_isSo ct_X2_isSo = true := by decide +kernel
set_option maxRecDepth 100000 in
theorem ck_X2_become : ctOK cX2_become ct_X2_become = true := by decide +kernel
set_option maxRecDepth 100000 in
theorem ck_X3_init : ctOK cX3_init ct_X3_init = true := by decide +kernel
set_option maxRecDepth 100000 in
theorem ck_X3_invite : ctOK cX3_invite ct_X3_invite = true := by decide +kernel
set_option maxRecDepth 100000 in
theorem ck_X3_enter : ctOK cX3_enter ct_X3_enter = true := by decide +kernel
set_option maxRecDepth 100000 in
theorem ck_X3_layRoads : ctOK cX3_layRoads ct_X3_layRoads = true := by decide +kernel
set_option maxRecDepth 100000 in
theorem ck_X3_road : ctOK cX3_road ct_X3_road = true := by decide +kernel
set_option maxRecDepth 100000 in
theorem ck_X3_weigh : ctOK cX3_weigh ct_X3_weigh = true := by decide +kernel
set_option maxRecDepth 100000 in
theorem ck_X3_leastCost : ctOK cX3_leastCost ct_X3_leastCost = true := by decide +kernel
set_option maxRecDepth 100000 in
theorem ck_X3_takerOf : ctOK cX3_takerOf ct_X3_takerOf = true := by decide +kernel
set_option maxRecDepth 100000 in
theorem ck_X3_firstPlace : ctOK cX3_firstPlace ct_X3_firstPlace = true := by decide +kernel
set_option maxRecDepth 100000 in
theorem ck_X4_init : ctOK cX4_init ct_X4_init = true := by decide +kernel
set_option maxRecDepth 100000 in
theorem ck_X4_payOf : ctOK cX4_payOf ct_X4_payOf = true := by decide +kernel
set_option maxRecDepth 100000 in
theorem ck_X4_costOf : ctOK cX4_costOf ct_X4_costOf = true := by decide +kernel
set_option maxRecDepth 100000 in
theorem ck_X4_forbids : ctOK cX4_forbids ct_X4_forbids = true := by decide +kernel
set_option maxRecDepth 100000 in
theorem ck_X4_lean : ctOK cX4_lean ct_X4_lean = true := by decide +kernel
set_option maxRecDepth 100000 in
theorem ck_X4_blank : ctOK cX4_blank ct_X4_blank = true := by decide +kernel
set_option maxRecDepth 100000 in
theorem ck_X4_setCopy : ctOK cX4_setCopy ct_X4_setCopy = true := by decide +kernel
set_option maxRecDepth 100000 in
theorem ck_X4_setTaker : ctOK cX4_setTaker ct_X4_setTaker = true := by decide +kernel
set_option maxRecDepth 100000 in
theorem ck_X4_tells : ctOK cX4_tells ct_X4_tells = true := by decide +kernel
set_option maxRecDepth 100000 in
theorem ck_X4_holds : ctOK cX4_holds ct_X4_holds = true := by decide +kernel
set_option maxRecDepth 100000 in
theorem ck_X4_skips : ctOK cX4_skips ct_X4_skips = true := by decide +kernel
set_option maxRecDepth 100000 in
theorem ck_X4_run : ctOK cX4_run ct_X4_run = true := by decide +kernel
set_option maxRecDepth 100000 in
theorem ck_X4_lay : ctOK cX4_lay ct_X4_lay = true := by decide +kernel
set_option maxRecDepth 100000 in
theorem ck_X4_pull : ctOK cX4_pull ct_X4_pull = true := by decide +kernel
set_option maxRecDepth 100000 in
theorem ck_X5_init : ctOK cX5_init ct_X5_init = true := by decide +kernel
set_option maxRecDepth 100000 in
theorem ck_X6_init : ctOK cX6_init ct_X6_init = true := by decide +kernel
set_option maxRecDepth 100000 in
theorem ck_X6_push : ctOK cX6_push ct_X6_push = true := by decide +kernel
set_option maxRecDepth 100000 in
theorem ck_X6_pop : ctOK cX6_pop ct_X6_pop = true := by decide +kernel
set_option maxRecDepth 100000 in
theorem ck_X6_become : ctOK cX6_become ct_X6_become = true := by decide +kernel
set_option maxRecDepth 100000 in
theorem ck_X7_init : ctOK cX7_init ct_X7_init = true := by decide +kernel
set_option maxRecDepth 100000 in
theorem ck_X7_begin : ctOK cX7_begin ct_X7_begin = true := by decide +kernel
set_option maxRecDepth 100000 in
theorem ck_X7_drawLoan : ctOK cX7_drawLoan ct_X7_drawLoan = true := by decide +kernel
set_option maxRecDepth 100000 in
theorem ck_X7_draw : ctOK cX7_draw ct_X7_draw = true := by decide +kernel
set_option maxRecDepth 100000 in
theorem ck_X8_init : ctOK cX8_init ct_X8_init = true := by decide +kernel
set_option maxRecDepth 100000 in
theorem ck_X8_read : ctOK cX8_read ct_X8_read = true := by decide +kernel
set_option maxRecDepth 100000 in
theorem ck_X8_step : ctOK cX8_step ct_X8_step = true := by decide +kernel
set_option maxRecDepth 100000 in
theorem ck_X8_kindAt : ctOK cX8_kindAt ct_X8_kindAt = true := by decide +kernel
set_option maxRecDepth 100000 in
theorem ck_X8_isSign : ctOK cX8_isSign ct_X8_isSign = true := by decide +kernel
set_option maxRecDepth 100000 in
theorem ck_X8_isWord : ctOK cX8_isWord ct_X8_isWord = true := by decide +kernel
set_option maxRecDepth 100000 in
theorem ck_X8_put : ctOK cX8_put ct_X8_put = true := by decide +kernel
set_option maxRecDepth 100000 in
theorem ck_X8_putOpen : ctOK cX8_putOpen ct_X8_putOpen = true := by decide +kernel
set_option maxRecDepth 100000 in
theorem ck_X8_closeHere : ctOK cX8_closeHere ct_X8_closeHere = true := by decide +kernel
set_option maxRecDepth 100000 in
theorem ck_X8_readClause : ctOK cX8_readClause ct_X8_readClause = true := by decide +kernel
