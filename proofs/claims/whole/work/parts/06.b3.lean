set_option maxRecDepth 100000 in
theorem ck_X12_reckon : ctOK cX12_reckon ct_X12_reckon = true := by decide +kernel
set_option maxRecDepth 100000 in
theorem ck_X12_reckonAll : ctOK cX12_reckonAll ct_X12_reckonAll = true := by decide +kernel
set_option maxRecDepth 100000 in
theorem ck_X12_isSo : ctOK cX12_isSo ct_X12_isSo = true := by decide +kernel
set_option maxRecDepth 100000 in
theorem ck_X12_copies : ctOK cX12_copies ct_X12_copies = true := by decide +kernel
set_option maxRecDepth 100000 in
theorem ck_X12_load : ctOK cX12_load ct_X12_load = true := by decide +kernel
set_option maxRecDepth 100000 in
theorem ck_X12_shift : ctOK cX12_shift ct_X12_shift = true := by decide +kernel
set_option maxRecDepth 100000 in
theorem ck_X12_tells : ctOK cX12_tells ct_X12_tells = true := by decide +kernel
set_option maxRecDepth 100000 in
theorem ck_X12_within : ctOK cX12_within ct_X12_within = true := by decide +kernel
set_option maxRecDepth 100000 in
theorem ck_X12_isBarred : ctOK cX12_isBarred ct_X12_isBarred = true := by decide +kernel
set_option maxRecDepth 100000 in
theorem ck_X12_pays : ctOK cX12_pays ct_X12_pays = true := by decide +kernel
set_option maxRecDepth 100000 in
theorem ck_X12_of : ctOK cX12_of ct_X12_of = true := by decide +kernel
set_option maxRecDepth 100000 in
theorem ck_X12_go : ctOK cX12_go ct_X12_go = true := by decide +kernel
set_option maxRecDepth 100000 in
theorem ck_X12_lend : ctOK cX12_lend ct_X12_lend = true := by decide +kernel
set_option maxRecDepth 100000 in
theorem ck_X12_home : ctOK cX12_home ct_X12_home = true := by decide +kernel
set_option maxRecDepth 100000 in
theorem ck_X12_undo : ctOK cX12_undo ct_X12_undo = true := by decide +kernel
set_option maxRecDepth 100000 in
theorem ck_X12_findRow : ctOK cX12_findRow ct_X12_findRow = true := by decide +kernel
set_option maxRecDepth 100000 in
theorem ck_X12_live : ctOK cX12_live ct_X12_live = true := by decide +kernel
set_option maxRecDepth 100000 in
theorem ck_X12_when : ctOK cX12_when ct_X12_when = true := by decide +kernel
set_option maxRecDepth 100000 in
theorem ck_X12_age : ctOK cX12_age ct_X12_age = true := by decide +kernel
set_option maxRecDepth 100000 in
theorem ck_X12_wages : ctOK cX12_wages ct_X12_wages = true := by decide +kernel
set_option maxRecDepth 100000 in
theorem ck_X12_hasDay : ctOK cX12_hasDay ct_X12_hasDay = true := by decide +kernel
set_option maxRecDepth 100000 in
theorem ck_X12_gap : ctOK cX12_gap ct_X12_gap = true := by decide +kernel
set_option maxRecDepth 100000 in
theorem ck_X12_owesOf : ctOK cX12_owesOf ct_X12_owesOf = true := by decide +kernel
set_option maxRecDepth 100000 in
theorem ck_X12_owes : ctOK cX12_owes ct_X12_owes = true := by decide +kernel
set_option maxRecDepth 100000 in
theorem ck_X12_away : ctOK cX12_away ct_X12_away = true := by decide +kernel
set_option maxRecDepth 100000 in
theorem ck_X12_findRing : ctOK cX12_findRing ct_X12_findRing = true := by decide +kernel
set_option maxRecDepth 100000 in
theorem ck_X12_goRound : ctOK cX12_goRound ct_X12_goRound = true := by decide +kernel
set_option maxRecDepth 100000 in
theorem ck_X12_keepRing : ctOK cX12_keepRing ct_X12_keepRing = true := by decide +kernel
set_option maxRecDepth 100000 in
theorem ck_X12_ring : ctOK cX12_ring ct_X12_ring = true := by decide +kernel
set_option maxRecDepth 100000 in
theorem ck_X12_findChains : ctOK cX12_findChains ct_X12_findChains = true := by decide +kernel
set_option maxRecDepth 100000 in
theorem ck_X12_chain : ctOK cX12_chain ct_X12_chain = true := by decide +kernel
set_option maxRecDepth 100000 in
theorem ck_X12_aheadOf : ctOK cX12_aheadOf ct_X12_aheadOf = true := by decide +kernel
set_option maxRecDepth 100000 in
theorem ck_X12_isEaster : ctOK cX12_isEaster ct_X12_isEaster = true := by decide +kernel
set_option maxRecDepth 100000 in
theorem ck_X12_findLeast : ctOK cX12_findLeast ct_X12_findLeast = true := by decide +kernel
set_option maxRecDepth 100000 in
theorem ck_X12_easter : ctOK cX12_easter ct_X12_easter = true := by decide +kernel
set_option maxRecDepth 100000 in
theorem ck_X12_trade : ctOK cX12_trade ct_X12_trade = true := by decide +kernel
set_option maxRecDepth 100000 in
theorem ck_X12_last : ctOK cX12_last ct_X12_last = true := by decide +kernel
set_option maxRecDepth 100000 in
theorem ck_X12_findPrices : ctOK cX12_findPrices ct_X12_findPrices = true := by decide +kernel
set_option maxRecDepth 100000 in
theorem ck_X12_price : ctOK cX12_price ct_X12_price = true := by decide +kernel
set_option maxRecDepth 100000 in
theorem ck_X12_deed : ctOK cX12_deed ct_X12_deed = true := by decide +kernel
set_option maxRecDepth 100000 in
theorem ck_X12_burn : ctOK cX12_burn ct_X12_burn = true := by decide +kernel
set_option maxRecDepth 100000 in
theorem ck_X12_isForged : ctOK cX12_isForged ct_X12_isForged = true := by decide +kernel
set_option maxRecDepth 100000 in
theorem ck_X12_forged : ctOK cX12_forged ct_X12_forged = true := by decide +kernel
set_option maxRecDepth 100000 in
theorem ck_X12_areTrue : ctOK cX12_areTrue ct_X12_areTrue = true := by decide +kernel
set_option maxRecDepth 100000 in
theorem ck_X12_explains : ctOK cX12_explains ct_X12_explains = true := by decide +kernel
set_option maxRecDepth 100000 in
theorem ck_X12_draw : ctOK cX12_draw ct_X12_draw = true := by decide +kernel
set_option maxRecDepth 100000 in
theorem ck_X12_year : ctOK cX12_year ct_X12_year = true := by decide +kernel
set_option maxRecDepth 100000 in
theorem ck_X12_drawn : ctOK cX12_drawn ct_X12_drawn = true := by decide +kernel
set_option maxRecDepth 100000 in
theorem ck_X12_count : ctOK cX12_count ct_X12_count = true := by decide +kernel
set_option maxRecDepth 100000 in
theorem ck_X12_status : ctOK cX12_status ct_X12_status = true := by decide +kernel
set_option maxRecDepth 100000 in
theorem ck_J6_bitCount_0f7a4 : ctOK cJ6_bitCount_0f7a4 ct_J6_bitCount_0f7a4 = true := by decide +kernel
set_option maxRecDepth 100000 in
theorem ck_J7_fill_53178 : ctOK cJ7_fill_53178 ct_J7_fill_53178 = true := by decide +kernel
set_option maxRecDepth 100000 in
theorem ck_J7_copyOf_59c91 : ctOK cJ7_copyOf_59c91 ct_J7_copyOf_59c91 = true := by decide +kernel
