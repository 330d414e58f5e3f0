set_option maxRecDepth 100000 in
theorem ck_X11_back : ctOK cX11_back ct_X11_back = true := by decide +kernel
set_option maxRecDepth 100000 in
theorem ck_X11_count : ctOK cX11_count ct_X11_count = true := by decide +kernel
set_option maxRecDepth 100000 in
theorem ck_X11_status : ctOK cX11_status ct_X11_status = true := by decide +kernel
set_option maxRecDepth 100000 in
theorem ck_X11_accept : ctOK cX11_accept ct_X11_accept = true := by decide +kernel
set_option maxRecDepth 100000 in
theorem ck_X11_refuse : ctOK cX11_refuse ct_X11_refuse = true := by decide +kernel
set_option maxRecDepth 100000 in
theorem ck_X11_reasonPlace : ctOK cX11_reasonPlace ct_X11_reasonPlace = true := by decide +kernel
set_option maxRecDepth 100000 in
theorem ck_X11_isVillage : ctOK cX11_isVillage ct_X11_isVillage = true := by decide +kernel
set_option maxRecDepth 100000 in
theorem ck_X11_isDay : ctOK cX11_isDay ct_X11_isDay = true := by decide +kernel
set_option maxRecDepth 100000 in
theorem ck_X11_isImage : ctOK cX11_isImage ct_X11_isImage = true := by decide +kernel
set_option maxRecDepth 100000 in
theorem ck_X11_isBarred : ctOK cX11_isBarred ct_X11_isBarred = true := by decide +kernel
set_option maxRecDepth 100000 in
theorem ck_X11_nextTaker : ctOK cX11_nextTaker ct_X11_nextTaker = true := by decide +kernel
set_option maxRecDepth 100000 in
theorem ck_X11_awayOf : ctOK cX11_awayOf ct_X11_awayOf = true := by decide +kernel
set_option maxRecDepth 100000 in
theorem ck_X11_isFeast : ctOK cX11_isFeast ct_X11_isFeast = true := by decide +kernel
set_option maxRecDepth 100000 in
theorem ck_X11_settle : ctOK cX11_settle ct_X11_settle = true := by decide +kernel
set_option maxRecDepth 100000 in
theorem ck_X11_rights : ctOK cX11_rights ct_X11_rights = true := by decide +kernel
set_option maxRecDepth 100000 in
theorem ck_X11_loanPart : ctOK cX11_loanPart ct_X11_loanPart = true := by decide +kernel
set_option maxRecDepth 100000 in
theorem ck_X12_init : ctOK cX12_init ct_X12_init = true := by decide +kernel
set_option maxRecDepth 100000 in
theorem ck_X12_in : ctOK cX12_in ct_X12_in = true := by decide +kernel
set_option maxRecDepth 100000 in
theorem ck_X12_is : ctOK cX12_is ct_X12_is = true := by decide +kernel
set_option maxRecDepth 100000 in
theorem ck_X12_tell : ctOK cX12_tell ct_X12_tell = true := by decide +kernel
set_option maxRecDepth 100000 in
theorem ck_X12_was : ctOK cX12_was ct_X12_was = true := by decide +kernel
set_option maxRecDepth 100000 in
theorem ck_X12_image : ctOK cX12_image ct_X12_image = true := by decide +kernel
set_option maxRecDepth 100000 in
theorem ck_X12_back : ctOK cX12_back ct_X12_back = true := by decide +kernel
set_option maxRecDepth 100000 in
theorem ck_X12_villages : ctOK cX12_villages ct_X12_villages = true := by decide +kernel
set_option maxRecDepth 100000 in
theorem ck_X12_isVillage : ctOK cX12_isVillage ct_X12_isVillage = true := by decide +kernel
set_option maxRecDepth 100000 in
theorem ck_X12_isDay : ctOK cX12_isDay ct_X12_isDay = true := by decide +kernel
set_option maxRecDepth 100000 in
theorem ck_X12_terms : ctOK cX12_terms ct_X12_terms = true := by decide +kernel
set_option maxRecDepth 100000 in
theorem ck_X12_rain : ctOK cX12_rain ct_X12_rain = true := by decide +kernel
set_option maxRecDepth 100000 in
theorem ck_X12_row : ctOK cX12_row ct_X12_row = true := by decide +kernel
set_option maxRecDepth 100000 in
theorem ck_X12_fog : ctOK cX12_fog ct_X12_fog = true := by decide +kernel
set_option maxRecDepth 100000 in
theorem ck_X12_four : ctOK cX12_four ct_X12_four = true := by decide +kernel
set_option maxRecDepth 100000 in
theorem ck_X12_feed : ctOK cX12_feed ct_X12_feed = true := by decide +kernel
set_option maxRecDepth 100000 in
theorem ck_X12_end : ctOK cX12_end ct_X12_end = true := by decide +kernel
set_option maxRecDepth 100000 in
theorem ck_X12_isSmall : ctOK cX12_isSmall ct_X12_isSmall = true := by decide +kernel
set_option maxRecDepth 100000 in
theorem ck_X12_isDigit : ctOK cX12_isDigit ct_X12_isDigit = true := by decide +kernel
set_option maxRecDepth 100000 in
theorem ck_X12_begin : ctOK cX12_begin ct_X12_begin = true := by decide +kernel
set_option maxRecDepth 100000 in
theorem ck_X12_next : ctOK cX12_next ct_X12_next = true := by decide +kernel
set_option maxRecDepth 100000 in
theorem ck_X12_isWord : ctOK cX12_isWord ct_X12_isWord = true := by decide +kernel
set_option maxRecDepth 100000 in
theorem ck_X12_isSign : ctOK cX12_isSign ct_X12_isSign = true := by decide +kernel
set_option maxRecDepth 100000 in
theorem ck_X12_must : ctOK cX12_must ct_X12_must = true := by decide +kernel
set_option maxRecDepth 100000 in
theorem ck_X12_fault : ctOK cX12_fault ct_X12_fault = true := by decide +kernel
set_option maxRecDepth 100000 in
theorem ck_X12_emit : ctOK cX12_emit ct_X12_emit = true := by decide +kernel
set_option maxRecDepth 100000 in
theorem ck_X12_push : ctOK cX12_push ct_X12_push = true := by decide +kernel
set_option maxRecDepth 100000 in
theorem ck_X12_binds : ctOK cX12_binds ct_X12_binds = true := by decide +kernel
set_option maxRecDepth 100000 in
theorem ck_X12_settle : ctOK cX12_settle ct_X12_settle = true := by decide +kernel
set_option maxRecDepth 100000 in
theorem ck_X12_inner : ctOK cX12_inner ct_X12_inner = true := by decide +kernel
set_option maxRecDepth 100000 in
theorem ck_X12_isCompared : ctOK cX12_isCompared ct_X12_isCompared = true := by decide +kernel
set_option maxRecDepth 100000 in
theorem ck_X12_partAt : ctOK cX12_partAt ct_X12_partAt = true := by decide +kernel
set_option maxRecDepth 100000 in
theorem ck_X12_openBracket : ctOK cX12_openBracket ct_X12_openBracket = true := by decide +kernel
set_option maxRecDepth 100000 in
theorem ck_X12_leaf : ctOK cX12_leaf ct_X12_leaf = true := by decide +kernel
set_option maxRecDepth 100000 in
theorem ck_X12_readPart : ctOK cX12_readPart ct_X12_readPart = true := by decide +kernel
set_option maxRecDepth 100000 in
theorem ck_X12_readPlain : ctOK cX12_readPlain ct_X12_readPlain = true := by decide +kernel
set_option maxRecDepth 100000 in
theorem ck_X12_behindSum : ctOK cX12_behindSum ct_X12_behindSum = true := by decide +kernel
set_option maxRecDepth 100000 in
theorem ck_X12_behindTest : ctOK cX12_behindTest ct_X12_behindTest = true := by decide +kernel
set_option maxRecDepth 100000 in
theorem ck_X12_readExpression : ctOK cX12_readExpression ct_X12_readExpression = true := by decide +kernel
set_option maxRecDepth 100000 in
theorem ck_X12_readClause : ctOK cX12_readClause ct_X12_readClause = true := by decide +kernel
set_option maxRecDepth 100000 in
theorem ck_X12_law : ctOK cX12_law ct_X12_law = true := by decide +kernel
set_option maxRecDepth 100000 in
theorem ck_X12_force : ctOK cX12_force ct_X12_force = true := by decide +kernel
