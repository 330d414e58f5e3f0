-- methods
def lwAt (i : Nat) (w : Cond) : Bool := decide (lw_tbl[i]? = some w)
theorem lwAt_mem {i : Nat} {w : Cond} (h : lwAt i w = true) : w ∈ lw_tbl := List.mem_of_getElem? (of_decide_eq_true h)
def pmAll : List (Nat × Nat) := [(295, 98), (763, 98), (772, 98), (789, 98), (768, 98), (776, 98), (334, 100), (826, 100), (829, 100), (839, 100), (843, 100), (157, 94), (929, 94), (937, 94), (945, 94), (1005, 94), (305, 99), (855, 99), (860, 99), (864, 99), (873, 99), (878, 99), (884, 99), (892, 99), (896, 99), (276, 97), (725, 97), (869, 97), (672, 97), (920, 97), (676, 97), (683, 97), (687, 97), (691, 97), (700, 97), (704, 97), (721, 97), (712, 97), (708, 97), (636, 108), (132, 93), (737, 93), (754, 93), (1000, 93), (352, 101), (966, 101), (972, 101), (976, 101), (226, 95), (469, 95), (473, 95), (477, 95), (566, 95), (490, 95), (546, 95), (550, 95), (616, 95), (481, 95), (485, 95), (594, 95), (598, 95), (602, 95), (607, 95), (611, 95), (554, 95), (558, 95), (562, 95), (570, 95), (574, 95), (581, 95), (124, 92), (995, 92), (423, 92), (733, 92), (750, 92), (668, 92), (811, 92), (781, 92), (1018, 92), (695, 92), (232, 96), (449, 96), (116, 91), (419, 91), (438, 91), (445, 91), (453, 91), (457, 91), (461, 91), (465, 91), (647, 91), (651, 91), (655, 91), (729, 91), (742, 91), (746, 91), (759, 91), (785, 91), (793, 91), (799, 91), (803, 91), (807, 91), (815, 91), (822, 91), (847, 91), (888, 91), (900, 91), (904, 91), (912, 91), (925, 91), (933, 91), (941, 91), (950, 91), (961, 91), (984, 91), (988, 91), (1010, 91), (1014, 91), (1022, 91), (427, 91), (431, 91), (434, 91), (659, 91), (441, 91), (991, 91), (664, 91), (908, 91), (818, 91), (851, 91), (916, 91), (954, 91), (957, 91), (1027, 102), (1209, 102), (1490, 102), (1213, 102), (1227, 102), (1206, 102), (1217, 102), (1379, 102), (1375, 102), (1234, 102), (1221, 102), (1231, 102), (1239, 102), (1243, 102), (1251, 102), (1247, 102), (1255, 102), (1274, 102), (1277, 102), (1267, 102), (1271, 102), (1291, 102), (1312, 102), (1295, 102), (1259, 102), (1333, 102), (1308, 102), (1340, 102), (1344, 102), (1348, 102), (1352, 102), (1324, 102), (1316, 102), (1329, 102), (1320, 102), (1303, 102), (1337, 102), (1360, 102), (1299, 102), (1287, 102), (1263, 102), (1367, 102), (1409, 102), (1405, 102), (1401, 102), (1389, 102), (1385, 102), (1531, 102), (1397, 102), (1414, 102), (1418, 102), (1393, 102), (1371, 102), (1426, 102), (1422, 102), (1430, 102), (1434, 102), (1442, 102), (1438, 102), (1446, 102), (1450, 102), (1455, 102), (1463, 102), (1459, 102), (1471, 102), (1467, 102), (1475, 102), (1483, 102), (1487, 102), (1494, 102), (1479, 102), (1502, 102), (1498, 102), (1514, 102), (1510, 102), (1518, 102), (1506, 102), (1523, 102), (1527, 102), (1540, 102), (1535, 102), (1544, 102), (1549, 102), (1557, 102), (1553, 102), (1566, 102), (1561, 102), (1575, 102), (1570, 102), (1582, 102), (1586, 102), (1590, 102), (832, 111), (679, 109), (622, 109)]
def meOK (m : Nat) (q : Nat × Nat) : Bool := lwAt q.2 (Cond.initialized (mnG m).cls) && plainName (mnG m).cls && decide ((mnG m).cls ≠ "java/lang/invoke/MethodHandle") && decide ((mnG m).cls ≠ "java/lang/invoke/VarHandle") && decide ((mnG m).cls = owG m) && decide ((mxI m).2.1 ≤ 60)
set_option maxRecDepth 100000 in
theorem me_0 : (List.range' 0 23).all (fun m => meOK m (pmAll.getD m (0, 0))) = true := by decide +kernel
set_option maxRecDepth 100000 in
theorem me_23 : (List.range' 23 23).all (fun m => meOK m (pmAll.getD m (0, 0))) = true := by decide +kernel
set_option maxRecDepth 100000 in
theorem me_46 : (List.range' 46 23).all (fun m => meOK m (pmAll.getD m (0, 0))) = true := by decide +kernel
set_option maxRecDepth 100000 in
theorem me_69 : (List.range' 69 23).all (fun m => meOK m (pmAll.getD m (0, 0))) = true := by decide +kernel
set_option maxRecDepth 100000 in
theorem me_92 : (List.range' 92 23).all (fun m => meOK m (pmAll.getD m (0, 0))) = true := by decide +kernel
set_option maxRecDepth 100000 in
theorem me_115 : (List.range' 115 23).all (fun m => meOK m (pmAll.getD m (0, 0))) = true := by decide +kernel
set_option maxRecDepth 100000 in
theorem me_138 : (List.range' 138 23).all (fun m => meOK m (pmAll.getD m (0, 0))) = true := by decide +kernel
set_option maxRecDepth 100000 in
theorem me_161 : (List.range' 161 23).all (fun m => meOK m (pmAll.getD m (0, 0))) = true := by decide +kernel
set_option maxRecDepth 100000 in
theorem me_184 : (List.range' 184 23).all (fun m => meOK m (pmAll.getD m (0, 0))) = true := by decide +kernel
set_option maxRecDepth 100000 in
theorem me_207 : (List.range' 207 20).all (fun m => meOK m (pmAll.getD m (0, 0))) = true := by decide +kernel
theorem me_all (m : Nat) (h : m < 227) : meOK m (pmAll.getD m (0, 0)) = true := by
  by_cases h0 : m < 23
  · exact List.all_eq_true.mp me_0 m (List.mem_range'_1.mpr ⟨by omega, by omega⟩)
  by_cases h23 : m < 46
  · exact List.all_eq_true.mp me_23 m (List.mem_range'_1.mpr ⟨by omega, by omega⟩)
  by_cases h46 : m < 69
  · exact List.all_eq_true.mp me_46 m (List.mem_range'_1.mpr ⟨by omega, by omega⟩)
  by_cases h69 : m < 92
  · exact List.all_eq_true.mp me_69 m (List.mem_range'_1.mpr ⟨by omega, by omega⟩)
  by_cases h92 : m < 115
  · exact List.all_eq_true.mp me_92 m (List.mem_range'_1.mpr ⟨by omega, by omega⟩)
  by_cases h115 : m < 138
  · exact List.all_eq_true.mp me_115 m (List.mem_range'_1.mpr ⟨by omega, by omega⟩)
  by_cases h138 : m < 161
  · exact List.all_eq_true.mp me_138 m (List.mem_range'_1.mpr ⟨by omega, by omega⟩)
  by_cases h161 : m < 184
  · exact List.all_eq_true.mp me_161 m (List.mem_range'_1.mpr ⟨by omega, by omega⟩)
  by_cases h184 : m < 207
  · exact List.all_eq_true.mp me_184 m (List.mem_range'_1.mpr ⟨by omega, by omega⟩)
  exact List.all_eq_true.mp me_207 m (List.mem_range'_1.mpr ⟨by omega, by omega⟩)
set_option maxRecDepth 100000 in
theorem mc_0 : lw_tbl[295]? = some (Cond.code yX0_init cX0_init 1 none) := by rfl
set_option maxRecDepth 100000 in
theorem mc_1 : lw_tbl[763]? = some (Cond.code yX0_drawUp cX0_drawUp 4 none) := by rfl
set_option maxRecDepth 100000 in
theorem mc_2 : lw_tbl[772]? = some (Cond.code yX0_before cX0_before 3 (some .int)) := by rfl
set_option maxRecDepth 100000 in
theorem mc_3 : lw_tbl[789]? = some (Cond.code yX0_times cX0_times 3 (some .int)) := by rfl
set_option maxRecDepth 100000 in
theorem mc_4 : lw_tbl[768]? = some (Cond.code yX0_total cX0_total 2 (some .int)) := by rfl
set_option maxRecDepth 100000 in
theorem mc_5 : lw_tbl[776]? = some (Cond.code yX0_dayAt cX0_dayAt 4 (some .int)) := by rfl
set_option maxRecDepth 100000 in
theorem mc_6 : lw_tbl[334]? = some (Cond.code yX1_init cX1_init 1 none) := by rfl
set_option maxRecDepth 100000 in
theorem mc_7 : lw_tbl[826]? = some (Cond.code yX1_find cX1_find 4 none) := by rfl
set_option maxRecDepth 100000 in
theorem mc_8 : lw_tbl[829]? = some (Cond.code yX1_creditorsOf cX1_creditorsOf 4 (some .int)) := by rfl
set_option maxRecDepth 100000 in
theorem mc_9 : lw_tbl[839]? = some (Cond.code yX1_closes cX1_closes 2 (some .boolean)) := by rfl
set_option maxRecDepth 100000 in
theorem mc_10 : lw_tbl[843]? = some (Cond.code yX1_extend cX1_extend 5 (some .boolean)) := by rfl
set_option maxRecDepth 100000 in
theorem mc_11 : lw_tbl[157]? = some (Cond.code yX2_init cX2_init 1 none) := by rfl
set_option maxRecDepth 100000 in
theorem mc_12 : lw_tbl[929]? = some (Cond.code yX2_add cX2_add 4 none) := by rfl
set_option maxRecDepth 100000 in
theorem mc_13 : lw_tbl[937]? = some (Cond.code yX2_drop cX2_drop 3 none) := by rfl
set_option maxRecDepth 100000 in
theorem mc_14 : lw_tbl[945]? = some (Cond.code yX2_isSo cX2_isSo 11 (some .boolean)) := by rfl
set_option maxRecDepth 100000 in
theorem mc_15 : lw_tbl[1005]? = some (Cond.code yX2_become cX2_become 2 none) := by rfl
set_option maxRecDepth 100000 in
theorem mc_16 : lw_tbl[305]? = some (Cond.code yX3_init cX3_init 1 none) := by rfl
set_option maxRecDepth 100000 in
theorem mc_17 : lw_tbl[855]? = some (Cond.code yX3_invite cX3_invite 8 (some .boolean)) := by rfl
set_option maxRecDepth 100000 in
theorem mc_18 : lw_tbl[860]? = some (Cond.code yX3_enter cX3_enter 6 (some .int)) := by rfl
set_option maxRecDepth 100000 in
theorem mc_19 : lw_tbl[864]? = some (Cond.code yX3_layRoads cX3_layRoads 9 none) := by rfl
set_option maxRecDepth 100000 in
theorem mc_20 : lw_tbl[873]? = some (Cond.code yX3_road cX3_road 3 (some .int)) := by rfl
set_option maxRecDepth 100000 in
theorem mc_21 : lw_tbl[878]? = some (Cond.code yX3_weigh cX3_weigh 6 none) := by rfl
set_option maxRecDepth 100000 in
theorem mc_22 : lw_tbl[884]? = some (Cond.code yX3_leastCost cX3_leastCost 1 (some .int)) := by rfl
set_option maxRecDepth 100000 in
theorem mc_23 : lw_tbl[892]? = some (Cond.code yX3_takerOf cX3_takerOf 6 (some .int)) := by rfl
set_option maxRecDepth 100000 in
theorem mc_24 : lw_tbl[896]? = some (Cond.code yX3_firstPlace cX3_firstPlace 4 (some .int)) := by rfl
set_option maxRecDepth 100000 in
theorem mc_25 : lw_tbl[276]? = some (Cond.code yX4_init cX4_init 1 none) := by rfl
set_option maxRecDepth 100000 in
theorem mc_26 : lw_tbl[725]? = some (Cond.code yX4_payOf cX4_payOf 4 (some .int)) := by rfl
set_option maxRecDepth 100000 in
theorem mc_27 : lw_tbl[869]? = some (Cond.code yX4_costOf cX4_costOf 5 (some .int)) := by rfl
set_option maxRecDepth 100000 in
theorem mc_28 : lw_tbl[672]? = some (Cond.code yX4_forbids cX4_forbids 6 (some .boolean)) := by rfl
set_option maxRecDepth 100000 in
theorem mc_29 : lw_tbl[920]? = some (Cond.code yX4_lean cX4_lean 7 (some .int)) := by rfl
set_option maxRecDepth 100000 in
theorem mc_30 : lw_tbl[676]? = some (Cond.code yX4_blank cX4_blank 1 none) := by rfl
set_option maxRecDepth 100000 in
theorem mc_31 : lw_tbl[683]? = some (Cond.code yX4_setCopy cX4_setCopy 4 none) := by rfl
set_option maxRecDepth 100000 in
theorem mc_32 : lw_tbl[687]? = some (Cond.code yX4_setTaker cX4_setTaker 3 none) := by rfl
set_option maxRecDepth 100000 in
theorem mc_33 : lw_tbl[691]? = some (Cond.code yX4_tells cX4_tells 9 (some .boolean)) := by rfl
set_option maxRecDepth 100000 in
theorem mc_34 : lw_tbl[700]? = some (Cond.code yX4_holds cX4_holds 6 (some .boolean)) := by rfl
set_option maxRecDepth 100000 in
theorem mc_35 : lw_tbl[704]? = some (Cond.code yX4_skips cX4_skips 3 (some .boolean)) := by rfl
set_option maxRecDepth 100000 in
theorem mc_36 : lw_tbl[721]? = some (Cond.code yX4_run cX4_run 6 (some .boolean)) := by rfl
set_option maxRecDepth 100000 in
theorem mc_37 : lw_tbl[712]? = some (Cond.code yX4_lay cX4_lay 3 (some .boolean)) := by rfl
set_option maxRecDepth 100000 in
theorem mc_38 : lw_tbl[708]? = some (Cond.code yX4_pull cX4_pull 1 (some .int)) := by rfl
set_option maxRecDepth 100000 in
theorem mc_39 : lw_tbl[636]? = some (Cond.code yX5_init cX5_init 2 none) := by rfl
set_option maxRecDepth 100000 in
theorem mc_40 : lw_tbl[132]? = some (Cond.code yX6_init cX6_init 1 none) := by rfl
set_option maxRecDepth 100000 in
theorem mc_41 : lw_tbl[737]? = some (Cond.code yX6_push cX6_push 3 none) := by rfl
set_option maxRecDepth 100000 in
theorem mc_42 : lw_tbl[754]? = some (Cond.code yX6_pop cX6_pop 1 none) := by rfl
set_option maxRecDepth 100000 in
theorem mc_43 : lw_tbl[1000]? = some (Cond.code yX6_become cX6_become 2 none) := by rfl
set_option maxRecDepth 100000 in
theorem mc_44 : lw_tbl[352]? = some (Cond.code yX7_init cX7_init 1 none) := by rfl
set_option maxRecDepth 100000 in
theorem mc_45 : lw_tbl[966]? = some (Cond.code yX7_begin cX7_begin 4 none) := by rfl
set_option maxRecDepth 100000 in
theorem mc_46 : lw_tbl[972]? = some (Cond.code yX7_drawLoan cX7_drawLoan 7 (some .boolean)) := by rfl
set_option maxRecDepth 100000 in
theorem mc_47 : lw_tbl[976]? = some (Cond.code yX7_draw cX7_draw 2 (some .int)) := by rfl
set_option maxRecDepth 100000 in
theorem mc_48 : lw_tbl[226]? = some (Cond.code yX8_init cX8_init 1 none) := by rfl
set_option maxRecDepth 100000 in
theorem mc_49 : lw_tbl[469]? = some (Cond.code yX8_read cX8_read 2 (some .boolean)) := by rfl
set_option maxRecDepth 100000 in
theorem mc_50 : lw_tbl[473]? = some (Cond.code yX8_step cX8_step 1 none) := by rfl
set_option maxRecDepth 100000 in
theorem mc_51 : lw_tbl[477]? = some (Cond.code yX8_kindAt cX8_kindAt 3 (some .int)) := by rfl
set_option maxRecDepth 100000 in
theorem mc_52 : lw_tbl[566]? = some (Cond.code yX8_isSign cX8_isSign 2 (some .boolean)) := by rfl
set_option maxRecDepth 100000 in
theorem mc_53 : lw_tbl[490]? = some (Cond.code yX8_isWord cX8_isWord 3 (some .boolean)) := by rfl
set_option maxRecDepth 100000 in
theorem mc_54 : lw_tbl[546]? = some (Cond.code yX8_put cX8_put 2 none) := by rfl
set_option maxRecDepth 100000 in
theorem mc_55 : lw_tbl[550]? = some (Cond.code yX8_putOpen cX8_putOpen 1 (some .int)) := by rfl
set_option maxRecDepth 100000 in
theorem mc_56 : lw_tbl[616]? = some (Cond.code yX8_closeHere cX8_closeHere 2 none) := by rfl
set_option maxRecDepth 100000 in
theorem mc_57 : lw_tbl[481]? = some (Cond.code yX8_readClause cX8_readClause 3 (some .boolean)) := by rfl
set_option maxRecDepth 100000 in
theorem mc_58 : lw_tbl[485]? = some (Cond.code yX8_headHere cX8_headHere 1 (some .int)) := by rfl
set_option maxRecDepth 100000 in
theorem mc_59 : lw_tbl[594]? = some (Cond.code yX8_readTest cX8_readTest 4 (some .boolean)) := by rfl
set_option maxRecDepth 100000 in
theorem mc_60 : lw_tbl[598]? = some (Cond.code yX8_readBoth cX8_readBoth 4 (some .boolean)) := by rfl
set_option maxRecDepth 100000 in
theorem mc_61 : lw_tbl[602]? = some (Cond.code yX8_readPlain cX8_readPlain 5 (some .boolean)) := by rfl
set_option maxRecDepth 100000 in
theorem mc_62 : lw_tbl[607]? = some (Cond.code yX8_readBracketTest cX8_readBracketTest 2 (some .boolean)) := by rfl
set_option maxRecDepth 100000 in
theorem mc_63 : lw_tbl[611]? = some (Cond.code yX8_comparisonHere cX8_comparisonHere 1 (some .int)) := by rfl
set_option maxRecDepth 100000 in
theorem mc_64 : lw_tbl[554]? = some (Cond.code yX8_readSum cX8_readSum 4 (some .boolean)) := by rfl
set_option maxRecDepth 100000 in
theorem mc_65 : lw_tbl[558]? = some (Cond.code yX8_readTerm cX8_readTerm 4 (some .boolean)) := by rfl
set_option maxRecDepth 100000 in
theorem mc_66 : lw_tbl[562]? = some (Cond.code yX8_readPart cX8_readPart 4 (some .boolean)) := by rfl
set_option maxRecDepth 100000 in
theorem mc_67 : lw_tbl[570]? = some (Cond.code yX8_readBracketSum cX8_readBracketSum 2 (some .boolean)) := by rfl
set_option maxRecDepth 100000 in
theorem mc_68 : lw_tbl[574]? = some (Cond.code yX8_numberHere cX8_numberHere 3 (some .int)) := by rfl
set_option maxRecDepth 100000 in
theorem mc_69 : lw_tbl[581]? = some (Cond.code yX8_wordHere cX8_wordHere 1 (some .int)) := by rfl
set_option maxRecDepth 100000 in
theorem mc_70 : lw_tbl[124]? = some (Cond.code yX9_init cX9_init 2 none) := by rfl
set_option maxRecDepth 100000 in
theorem mc_71 : lw_tbl[995]? = some (Cond.code yX9_become cX9_become 3 none) := by rfl
set_option maxRecDepth 100000 in
theorem mc_72 : lw_tbl[423]? = some (Cond.code yX9_resettle cX9_resettle 4 none) := by rfl
set_option maxRecDepth 100000 in
theorem mc_73 : lw_tbl[733]? = some (Cond.code yX9_move cX9_move 3 none) := by rfl
set_option maxRecDepth 100000 in
theorem mc_74 : lw_tbl[750]? = some (Cond.code yX9_moveBack cX9_moveBack 2 (some .int)) := by rfl
set_option maxRecDepth 100000 in
theorem mc_75 : lw_tbl[668]? = some (Cond.code yX9_held cX9_held 4 (some .int)) := by rfl
set_option maxRecDepth 100000 in
theorem mc_76 : lw_tbl[811]? = some (Cond.code yX9_debt cX9_debt 5 (some .int)) := by rfl
set_option maxRecDepth 100000 in
theorem mc_77 : lw_tbl[781]? = some (Cond.code yX9_ownerAt cX9_ownerAt 6 (some .int)) := by rfl
set_option maxRecDepth 100000 in
theorem mc_78 : lw_tbl[1018]? = some (Cond.code yX9_rainyDays cX9_rainyDays 3 (some .int)) := by rfl
set_option maxRecDepth 100000 in
theorem mc_79 : lw_tbl[695]? = some (Cond.code yX9_lawInForce cX9_lawInForce 1 (some (.object "BorrowedDays$Law"))) := by rfl
set_option maxRecDepth 100000 in
theorem mc_80 : lw_tbl[232]? = some (Cond.code yX10_init cX10_init 1 none) := by rfl
set_option maxRecDepth 100000 in
theorem mc_81 : lw_tbl[449]? = some (Cond.code yX10_put cX10_put 3 none) := by rfl
set_option maxRecDepth 100000 in
theorem mc_82 : lw_tbl[116]? = some (Cond.code yX11_init cX11_init 2 none) := by rfl
set_option maxRecDepth 100000 in
theorem mc_83 : lw_tbl[419]? = some (Cond.code yX11_terms cX11_terms 4 (some .int)) := by rfl
set_option maxRecDepth 100000 in
theorem mc_84 : lw_tbl[438]? = some (Cond.code yX11_rain cX11_rain 4 (some .int)) := by rfl
set_option maxRecDepth 100000 in
theorem mc_85 : lw_tbl[445]? = some (Cond.code yX11_feed cX11_feed 6 (some .int)) := by rfl
set_option maxRecDepth 100000 in
theorem mc_86 : lw_tbl[453]? = some (Cond.code yX11_end cX11_end 2 (some .int)) := by rfl
set_option maxRecDepth 100000 in
theorem mc_87 : lw_tbl[457]? = some (Cond.code yX11_row cX11_row 5 (some .int)) := by rfl
set_option maxRecDepth 100000 in
theorem mc_88 : lw_tbl[461]? = some (Cond.code yX11_fog cX11_fog 1 (some .int)) := by rfl
set_option maxRecDepth 100000 in
theorem mc_89 : lw_tbl[465]? = some (Cond.code yX11_law cX11_law 2 (some .int)) := by rfl
set_option maxRecDepth 100000 in
theorem mc_90 : lw_tbl[647]? = some (Cond.code yX11_fault cX11_fault 1 (some .int)) := by rfl
set_option maxRecDepth 100000 in
theorem mc_91 : lw_tbl[651]? = some (Cond.code yX11_force cX11_force 3 (some .int)) := by rfl
set_option maxRecDepth 100000 in
theorem mc_92 : lw_tbl[655]? = some (Cond.code yX11_of cX11_of 5 (some .int)) := by rfl
set_option maxRecDepth 100000 in
theorem mc_93 : lw_tbl[729]? = some (Cond.code yX11_lend cX11_lend 5 (some .int)) := by rfl
set_option maxRecDepth 100000 in
theorem mc_94 : lw_tbl[742]? = some (Cond.code yX11_home cX11_home 4 (some .int)) := by rfl
set_option maxRecDepth 100000 in
theorem mc_95 : lw_tbl[746]? = some (Cond.code yX11_undo cX11_undo 1 (some .int)) := by rfl
set_option maxRecDepth 100000 in
theorem mc_96 : lw_tbl[759]? = some (Cond.code yX11_live cX11_live 6 (some .int)) := by rfl
set_option maxRecDepth 100000 in
theorem mc_97 : lw_tbl[785]? = some (Cond.code yX11_when cX11_when 5 (some .int)) := by rfl
set_option maxRecDepth 100000 in
theorem mc_98 : lw_tbl[793]? = some (Cond.code yX11_age cX11_age 5 (some .int)) := by rfl
set_option maxRecDepth 100000 in
theorem mc_99 : lw_tbl[799]? = some (Cond.code yX11_wages cX11_wages 7 (some .int)) := by rfl
set_option maxRecDepth 100000 in
theorem mc_100 : lw_tbl[803]? = some (Cond.code yX11_gap cX11_gap 5 (some .int)) := by rfl
set_option maxRecDepth 100000 in
theorem mc_101 : lw_tbl[807]? = some (Cond.code yX11_owes cX11_owes 3 (some .int)) := by rfl
set_option maxRecDepth 100000 in
theorem mc_102 : lw_tbl[815]? = some (Cond.code yX11_away cX11_away 3 (some .int)) := by rfl
set_option maxRecDepth 100000 in
theorem mc_103 : lw_tbl[822]? = some (Cond.code yX11_ring cX11_ring 2 (some .int)) := by rfl
set_option maxRecDepth 100000 in
theorem mc_104 : lw_tbl[847]? = some (Cond.code yX11_easter cX11_easter 3 (some .int)) := by rfl
set_option maxRecDepth 100000 in
theorem mc_105 : lw_tbl[888]? = some (Cond.code yX11_trade cX11_trade 4 (some .int)) := by rfl
set_option maxRecDepth 100000 in
theorem mc_106 : lw_tbl[900]? = some (Cond.code yX11_chain cX11_chain 3 (some .int)) := by rfl
set_option maxRecDepth 100000 in
theorem mc_107 : lw_tbl[904]? = some (Cond.code yX11_last cX11_last 9 (some .int)) := by rfl
set_option maxRecDepth 100000 in
theorem mc_108 : lw_tbl[912]? = some (Cond.code yX11_price cX11_price 4 (some .int)) := by rfl
set_option maxRecDepth 100000 in
theorem mc_109 : lw_tbl[925]? = some (Cond.code yX11_deed cX11_deed 4 (some .int)) := by rfl
set_option maxRecDepth 100000 in
theorem mc_110 : lw_tbl[933]? = some (Cond.code yX11_burn cX11_burn 2 (some .int)) := by rfl
set_option maxRecDepth 100000 in
theorem mc_111 : lw_tbl[941]? = some (Cond.code yX11_forged cX11_forged 4 (some .int)) := by rfl
set_option maxRecDepth 100000 in
theorem mc_112 : lw_tbl[950]? = some (Cond.code yX11_explains cX11_explains 6 (some .int)) := by rfl
set_option maxRecDepth 100000 in
theorem mc_113 : lw_tbl[961]? = some (Cond.code yX11_year cX11_year 5 (some .int)) := by rfl
set_option maxRecDepth 100000 in
theorem mc_114 : lw_tbl[984]? = some (Cond.code yX11_drawn cX11_drawn 3 (some .int)) := by rfl
set_option maxRecDepth 100000 in
theorem mc_115 : lw_tbl[988]? = some (Cond.code yX11_image cX11_image 2 (some .int)) := by rfl
set_option maxRecDepth 100000 in
theorem mc_116 : lw_tbl[1010]? = some (Cond.code yX11_back cX11_back 2 (some .int)) := by rfl
set_option maxRecDepth 100000 in
theorem mc_117 : lw_tbl[1014]? = some (Cond.code yX11_count cX11_count 2 (some .int)) := by rfl
set_option maxRecDepth 100000 in
theorem mc_118 : lw_tbl[1022]? = some (Cond.code yX11_status cX11_status 1 (some .int)) := by rfl
set_option maxRecDepth 100000 in
theorem mc_119 : lw_tbl[427]? = some (Cond.code yX11_accept cX11_accept 2 (some .int)) := by rfl
set_option maxRecDepth 100000 in
theorem mc_120 : lw_tbl[431]? = some (Cond.code yX11_refuse cX11_refuse 3 (some .int)) := by rfl
set_option maxRecDepth 100000 in
theorem mc_121 : lw_tbl[434]? = some (Cond.code yX11_reasonPlace cX11_reasonPlace 1 (some .int)) := by rfl
set_option maxRecDepth 100000 in
theorem mc_122 : lw_tbl[659]? = some (Cond.code yX11_isVillage cX11_isVillage 2 (some .boolean)) := by rfl
set_option maxRecDepth 100000 in
theorem mc_123 : lw_tbl[441]? = some (Cond.code yX11_isDay cX11_isDay 1 (some .boolean)) := by rfl
set_option maxRecDepth 100000 in
theorem mc_124 : lw_tbl[991]? = some (Cond.code yX11_isImage cX11_isImage 1 (some .boolean)) := by rfl
set_option maxRecDepth 100000 in
theorem mc_125 : lw_tbl[664]? = some (Cond.code yX11_isBarred cX11_isBarred 3 (some .boolean)) := by rfl
set_option maxRecDepth 100000 in
theorem mc_126 : lw_tbl[908]? = some (Cond.code yX11_nextTaker cX11_nextTaker 6 (some .int)) := by rfl
set_option maxRecDepth 100000 in
theorem mc_127 : lw_tbl[818]? = some (Cond.code yX11_awayOf cX11_awayOf 4 (some .int)) := by rfl
set_option maxRecDepth 100000 in
theorem mc_128 : lw_tbl[851]? = some (Cond.code yX11_isFeast cX11_isFeast 2 (some .boolean)) := by rfl
set_option maxRecDepth 100000 in
theorem mc_129 : lw_tbl[916]? = some (Cond.code yX11_settle cX11_settle 5 (some .int)) := by rfl
set_option maxRecDepth 100000 in
theorem mc_130 : lw_tbl[954]? = some (Cond.code yX11_rights cX11_rights 5 (some .boolean)) := by rfl
set_option maxRecDepth 100000 in
theorem mc_131 : lw_tbl[957]? = some (Cond.code yX11_loanPart cX11_loanPart 3 (some .int)) := by rfl
set_option maxRecDepth 100000 in
theorem mc_132 : lw_tbl[1027]? = some (Cond.code yX12_init cX12_init 2 none) := by rfl
set_option maxRecDepth 100000 in
theorem mc_133 : lw_tbl[1209]? = some (Cond.code yX12_in cX12_in 6 (some .boolean)) := by rfl
set_option maxRecDepth 100000 in
theorem mc_134 : lw_tbl[1490]? = some (Cond.code yX12_is cX12_is 2 (some .boolean)) := by rfl
set_option maxRecDepth 100000 in
theorem mc_135 : lw_tbl[1213]? = some (Cond.code yX12_tell cX12_tell 2 (some .int)) := by rfl
set_option maxRecDepth 100000 in
theorem mc_136 : lw_tbl[1227]? = some (Cond.code yX12_was cX12_was 2 (some .int)) := by rfl
set_option maxRecDepth 100000 in
theorem mc_137 : lw_tbl[1206]? = some (Cond.code yX12_image cX12_image 3 (some .int)) := by rfl
set_option maxRecDepth 100000 in
theorem mc_138 : lw_tbl[1217]? = some (Cond.code yX12_back cX12_back 3 (some .int)) := by rfl
set_option maxRecDepth 100000 in
theorem mc_139 : lw_tbl[1379]? = some (Cond.code yX12_villages cX12_villages 1 (some .int)) := by rfl
set_option maxRecDepth 100000 in
theorem mc_140 : lw_tbl[1375]? = some (Cond.code yX12_isVillage cX12_isVillage 2 (some .boolean)) := by rfl
set_option maxRecDepth 100000 in
theorem mc_141 : lw_tbl[1234]? = some (Cond.code yX12_isDay cX12_isDay 1 (some .boolean)) := by rfl
set_option maxRecDepth 100000 in
theorem mc_142 : lw_tbl[1221]? = some (Cond.code yX12_terms cX12_terms 7 (some .int)) := by rfl
set_option maxRecDepth 100000 in
theorem mc_143 : lw_tbl[1231]? = some (Cond.code yX12_rain cX12_rain 4 (some .int)) := by rfl
set_option maxRecDepth 100000 in
theorem mc_144 : lw_tbl[1239]? = some (Cond.code yX12_row cX12_row 4 (some .int)) := by rfl
set_option maxRecDepth 100000 in
theorem mc_145 : lw_tbl[1243]? = some (Cond.code yX12_fog cX12_fog 1 (some .int)) := by rfl
set_option maxRecDepth 100000 in
theorem mc_146 : lw_tbl[1251]? = some (Cond.code yX12_four cX12_four 3 none) := by rfl
set_option maxRecDepth 100000 in
theorem mc_147 : lw_tbl[1247]? = some (Cond.code yX12_feed cX12_feed 6 (some .int)) := by rfl
set_option maxRecDepth 100000 in
theorem mc_148 : lw_tbl[1255]? = some (Cond.code yX12_end cX12_end 2 (some .int)) := by rfl
set_option maxRecDepth 100000 in
theorem mc_149 : lw_tbl[1274]? = some (Cond.code yX12_isSmall cX12_isSmall 1 (some .boolean)) := by rfl
set_option maxRecDepth 100000 in
theorem mc_150 : lw_tbl[1277]? = some (Cond.code yX12_isDigit cX12_isDigit 1 (some .boolean)) := by rfl
set_option maxRecDepth 100000 in
theorem mc_151 : lw_tbl[1267]? = some (Cond.code yX12_begin cX12_begin 1 none) := by rfl
set_option maxRecDepth 100000 in
theorem mc_152 : lw_tbl[1271]? = some (Cond.code yX12_next cX12_next 1 none) := by rfl
set_option maxRecDepth 100000 in
theorem mc_153 : lw_tbl[1291]? = some (Cond.code yX12_isWord cX12_isWord 3 (some .boolean)) := by rfl
set_option maxRecDepth 100000 in
theorem mc_154 : lw_tbl[1312]? = some (Cond.code yX12_isSign cX12_isSign 2 (some .boolean)) := by rfl
set_option maxRecDepth 100000 in
theorem mc_155 : lw_tbl[1295]? = some (Cond.code yX12_must cX12_must 2 none) := by rfl
set_option maxRecDepth 100000 in
theorem mc_156 : lw_tbl[1259]? = some (Cond.code yX12_fault cX12_fault 1 (some .int)) := by rfl
set_option maxRecDepth 100000 in
theorem mc_157 : lw_tbl[1333]? = some (Cond.code yX12_emit cX12_emit 3 none) := by rfl
set_option maxRecDepth 100000 in
theorem mc_158 : lw_tbl[1308]? = some (Cond.code yX12_push cX12_push 3 none) := by rfl
set_option maxRecDepth 100000 in
theorem mc_159 : lw_tbl[1340]? = some (Cond.code yX12_binds cX12_binds 1 (some .int)) := by rfl
set_option maxRecDepth 100000 in
theorem mc_160 : lw_tbl[1344]? = some (Cond.code yX12_settle cX12_settle 2 none) := by rfl
set_option maxRecDepth 100000 in
theorem mc_161 : lw_tbl[1348]? = some (Cond.code yX12_inner cX12_inner 3 (some .int)) := by rfl
set_option maxRecDepth 100000 in
theorem mc_162 : lw_tbl[1352]? = some (Cond.code yX12_isCompared cX12_isCompared 2 (some .boolean)) := by rfl
set_option maxRecDepth 100000 in
theorem mc_163 : lw_tbl[1324]? = some (Cond.code yX12_partAt cX12_partAt 3 (some .int)) := by rfl
set_option maxRecDepth 100000 in
theorem mc_164 : lw_tbl[1316]? = some (Cond.code yX12_openBracket cX12_openBracket 2 none) := by rfl
set_option maxRecDepth 100000 in
theorem mc_165 : lw_tbl[1329]? = some (Cond.code yX12_leaf cX12_leaf 4 none) := by rfl
set_option maxRecDepth 100000 in
theorem mc_166 : lw_tbl[1320]? = some (Cond.code yX12_readPart cX12_readPart 3 (some .int)) := by rfl
set_option maxRecDepth 100000 in
theorem mc_167 : lw_tbl[1303]? = some (Cond.code yX12_readPlain cX12_readPlain 1 (some .int)) := by rfl
set_option maxRecDepth 100000 in
theorem mc_168 : lw_tbl[1337]? = some (Cond.code yX12_behindSum cX12_behindSum 4 (some .int)) := by rfl
set_option maxRecDepth 100000 in
theorem mc_169 : lw_tbl[1360]? = some (Cond.code yX12_behindTest cX12_behindTest 2 (some .int)) := by rfl
set_option maxRecDepth 100000 in
theorem mc_170 : lw_tbl[1299]? = some (Cond.code yX12_readExpression cX12_readExpression 3 none) := by rfl
set_option maxRecDepth 100000 in
theorem mc_171 : lw_tbl[1287]? = some (Cond.code yX12_readClause cX12_readClause 4 none) := by rfl
set_option maxRecDepth 100000 in
theorem mc_172 : lw_tbl[1263]? = some (Cond.code yX12_law cX12_law 3 (some .int)) := by rfl
set_option maxRecDepth 100000 in
theorem mc_173 : lw_tbl[1367]? = some (Cond.code yX12_force cX12_force 3 (some .int)) := by rfl
set_option maxRecDepth 100000 in
theorem mc_174 : lw_tbl[1409]? = some (Cond.code yX12_reckon cX12_reckon 6 (some .long)) := by rfl
set_option maxRecDepth 100000 in
theorem mc_175 : lw_tbl[1405]? = some (Cond.code yX12_reckonAll cX12_reckonAll 7 none) := by rfl
set_option maxRecDepth 100000 in
theorem mc_176 : lw_tbl[1401]? = some (Cond.code yX12_isSo cX12_isSo 2 (some .boolean)) := by rfl
set_option maxRecDepth 100000 in
theorem mc_177 : lw_tbl[1389]? = some (Cond.code yX12_copies cX12_copies 1 (some .int)) := by rfl
set_option maxRecDepth 100000 in
theorem mc_178 : lw_tbl[1385]? = some (Cond.code yX12_load cX12_load 2 none) := by rfl
set_option maxRecDepth 100000 in
theorem mc_179 : lw_tbl[1531]? = some (Cond.code yX12_shift cX12_shift 3 none) := by rfl
set_option maxRecDepth 100000 in
theorem mc_180 : lw_tbl[1397]? = some (Cond.code yX12_tells cX12_tells 14 (some .long)) := by rfl
set_option maxRecDepth 100000 in
theorem mc_181 : lw_tbl[1414]? = some (Cond.code yX12_within cX12_within 4 (some .int)) := by rfl
set_option maxRecDepth 100000 in
theorem mc_182 : lw_tbl[1418]? = some (Cond.code yX12_isBarred cX12_isBarred 4 (some .boolean)) := by rfl
set_option maxRecDepth 100000 in
theorem mc_183 : lw_tbl[1393]? = some (Cond.code yX12_pays cX12_pays 3 (some .int)) := by rfl
set_option maxRecDepth 100000 in
theorem mc_184 : lw_tbl[1371]? = some (Cond.code yX12_of cX12_of 6 (some .int)) := by rfl
set_option maxRecDepth 100000 in
theorem mc_185 : lw_tbl[1426]? = some (Cond.code yX12_go cX12_go 5 (some .int)) := by rfl
set_option maxRecDepth 100000 in
theorem mc_186 : lw_tbl[1422]? = some (Cond.code yX12_lend cX12_lend 5 (some .int)) := by rfl
set_option maxRecDepth 100000 in
theorem mc_187 : lw_tbl[1430]? = some (Cond.code yX12_home cX12_home 4 (some .int)) := by rfl
set_option maxRecDepth 100000 in
theorem mc_188 : lw_tbl[1434]? = some (Cond.code yX12_undo cX12_undo 2 (some .int)) := by rfl
set_option maxRecDepth 100000 in
theorem mc_189 : lw_tbl[1442]? = some (Cond.code yX12_findRow cX12_findRow 4 none) := by rfl
set_option maxRecDepth 100000 in
theorem mc_190 : lw_tbl[1438]? = some (Cond.code yX12_live cX12_live 4 (some .int)) := by rfl
set_option maxRecDepth 100000 in
theorem mc_191 : lw_tbl[1446]? = some (Cond.code yX12_when cX12_when 7 (some .int)) := by rfl
set_option maxRecDepth 100000 in
theorem mc_192 : lw_tbl[1450]? = some (Cond.code yX12_age cX12_age 6 (some .int)) := by rfl
set_option maxRecDepth 100000 in
theorem mc_193 : lw_tbl[1455]? = some (Cond.code yX12_wages cX12_wages 5 (some .int)) := by rfl
set_option maxRecDepth 100000 in
theorem mc_194 : lw_tbl[1463]? = some (Cond.code yX12_hasDay cX12_hasDay 5 (some .boolean)) := by rfl
set_option maxRecDepth 100000 in
theorem mc_195 : lw_tbl[1459]? = some (Cond.code yX12_gap cX12_gap 5 (some .int)) := by rfl
set_option maxRecDepth 100000 in
theorem mc_196 : lw_tbl[1471]? = some (Cond.code yX12_owesOf cX12_owesOf 5 (some .int)) := by rfl
set_option maxRecDepth 100000 in
theorem mc_197 : lw_tbl[1467]? = some (Cond.code yX12_owes cX12_owes 3 (some .int)) := by rfl
set_option maxRecDepth 100000 in
theorem mc_198 : lw_tbl[1475]? = some (Cond.code yX12_away cX12_away 3 (some .int)) := by rfl
set_option maxRecDepth 100000 in
theorem mc_199 : lw_tbl[1483]? = some (Cond.code yX12_findRing cX12_findRing 3 none) := by rfl
set_option maxRecDepth 100000 in
theorem mc_200 : lw_tbl[1487]? = some (Cond.code yX12_goRound cX12_goRound 5 none) := by rfl
set_option maxRecDepth 100000 in
theorem mc_201 : lw_tbl[1494]? = some (Cond.code yX12_keepRing cX12_keepRing 4 none) := by rfl
set_option maxRecDepth 100000 in
theorem mc_202 : lw_tbl[1479]? = some (Cond.code yX12_ring cX12_ring 2 (some .int)) := by rfl
set_option maxRecDepth 100000 in
theorem mc_203 : lw_tbl[1502]? = some (Cond.code yX12_findChains cX12_findChains 6 none) := by rfl
set_option maxRecDepth 100000 in
theorem mc_204 : lw_tbl[1498]? = some (Cond.code yX12_chain cX12_chain 3 (some .int)) := by rfl
set_option maxRecDepth 100000 in
theorem mc_205 : lw_tbl[1514]? = some (Cond.code yX12_aheadOf cX12_aheadOf 6 (some .int)) := by rfl
set_option maxRecDepth 100000 in
theorem mc_206 : lw_tbl[1510]? = some (Cond.code yX12_isEaster cX12_isEaster 8 (some .boolean)) := by rfl
set_option maxRecDepth 100000 in
theorem mc_207 : lw_tbl[1518]? = some (Cond.code yX12_findLeast cX12_findLeast 6 none) := by rfl
set_option maxRecDepth 100000 in
theorem mc_208 : lw_tbl[1506]? = some (Cond.code yX12_easter cX12_easter 3 (some .int)) := by rfl
set_option maxRecDepth 100000 in
theorem mc_209 : lw_tbl[1523]? = some (Cond.code yX12_trade cX12_trade 9 (some .int)) := by rfl
set_option maxRecDepth 100000 in
theorem mc_210 : lw_tbl[1527]? = some (Cond.code yX12_last cX12_last 9 (some .int)) := by rfl
set_option maxRecDepth 100000 in
theorem mc_211 : lw_tbl[1540]? = some (Cond.code yX12_findPrices cX12_findPrices 6 (some .int)) := by rfl
set_option maxRecDepth 100000 in
theorem mc_212 : lw_tbl[1535]? = some (Cond.code yX12_price cX12_price 3 (some .int)) := by rfl
set_option maxRecDepth 100000 in
theorem mc_213 : lw_tbl[1544]? = some (Cond.code yX12_deed cX12_deed 5 (some .int)) := by rfl
set_option maxRecDepth 100000 in
theorem mc_214 : lw_tbl[1549]? = some (Cond.code yX12_burn cX12_burn 3 (some .int)) := by rfl
set_option maxRecDepth 100000 in
theorem mc_215 : lw_tbl[1557]? = some (Cond.code yX12_isForged cX12_isForged 3 (some .boolean)) := by rfl
set_option maxRecDepth 100000 in
theorem mc_216 : lw_tbl[1553]? = some (Cond.code yX12_forged cX12_forged 4 (some .int)) := by rfl
set_option maxRecDepth 100000 in
theorem mc_217 : lw_tbl[1566]? = some (Cond.code yX12_areTrue cX12_areTrue 2 (some .boolean)) := by rfl
set_option maxRecDepth 100000 in
theorem mc_218 : lw_tbl[1561]? = some (Cond.code yX12_explains cX12_explains 7 (some .int)) := by rfl
set_option maxRecDepth 100000 in
theorem mc_219 : lw_tbl[1575]? = some (Cond.code yX12_draw cX12_draw 2 (some .int)) := by rfl
set_option maxRecDepth 100000 in
theorem mc_220 : lw_tbl[1570]? = some (Cond.code yX12_year cX12_year 8 (some .int)) := by rfl
set_option maxRecDepth 100000 in
theorem mc_221 : lw_tbl[1582]? = some (Cond.code yX12_drawn cX12_drawn 3 (some .int)) := by rfl
set_option maxRecDepth 100000 in
theorem mc_222 : lw_tbl[1586]? = some (Cond.code yX12_count cX12_count 4 (some .int)) := by rfl
set_option maxRecDepth 100000 in
theorem mc_223 : lw_tbl[1590]? = some (Cond.code yX12_status cX12_status 1 (some .int)) := by rfl
set_option maxRecDepth 100000 in
theorem mc_224 : lw_tbl[832]? = some (Cond.code yJ6_bitCount_0f7a4 cJ6_bitCount_0f7a4 1 (some .int)) := by rfl
set_option maxRecDepth 100000 in
theorem mc_225 : lw_tbl[679]? = some (Cond.code yJ7_fill_53178 cJ7_fill_53178 4 none) := by rfl
set_option maxRecDepth 100000 in
theorem mc_226 : lw_tbl[622]? = some (Cond.code yJ7_copyOf_59c91 cJ7_copyOf_59c91 3 (some (.array .int))) := by rfl
def mcP (q : MethodName × ByteArray × Nat × Nat × Option FieldType) : Prop := q.1 = yL_law ∨ Cond.code q.1 q.2.1 q.2.2.2.1 q.2.2.2.2 ∈ lw_tbl
theorem mc_l0 : ∀ q ∈ ([(yX0_init, cX0_init, (0, 1, none)), (yX0_drawUp, cX0_drawUp, (0, 4, none)), (yX0_before, cX0_before, (0, 3, (some .int))), (yX0_times, cX0_times, (0, 3, (some .int))), (yX0_total, cX0_total, (0, 2, (some .int))), (yX0_dayAt, cX0_dayAt, (0, 4, (some .int))), (yX1_init, cX1_init, (1, 1, none)), (yX1_find, cX1_find, (1, 4, none)), (yX1_creditorsOf, cX1_creditorsOf, (1, 4, (some .int))), (yX1_closes, cX1_closes, (1, 2, (some .boolean))), (yX1_extend, cX1_extend, (1, 5, (some .boolean))), (yX2_init, cX2_init, (2, 1, none)), (yX2_add, cX2_add, (2, 4, none)), (yX2_drop, cX2_drop, (2, 3, none)), (yX2_isSo, cX2_isSo, (2, 11, (some .boolean))), (yX2_become, cX2_become, (2, 2, none)), (yX3_init, cX3_init, (3, 1, none)), (yX3_invite, cX3_invite, (3, 8, (some .boolean))), (yX3_enter, cX3_enter, (3, 6, (some .int))), (yX3_layRoads, cX3_layRoads, (3, 9, none)), (yX3_road, cX3_road, (3, 3, (some .int))), (yX3_weigh, cX3_weigh, (3, 6, none)), (yX3_leastCost, cX3_leastCost, (3, 1, (some .int))), (yX3_takerOf, cX3_takerOf, (3, 6, (some .int))), (yX3_firstPlace, cX3_firstPlace, (3, 4, (some .int))), (yX4_init, cX4_init, (4, 1, none)), (yX4_payOf, cX4_payOf, (4, 4, (some .int))), (yX4_costOf, cX4_costOf, (4, 5, (some .int))), (yX4_forbids, cX4_forbids, (4, 6, (some .boolean))), (yX4_lean, cX4_lean, (4, 7, (some .int)))] : List (MethodName × ByteArray × Nat × Nat × Option FieldType)), mcP q := (List.forall_mem_cons.mpr ⟨(Or.inr (List.mem_of_getElem? mc_0)), (List.forall_mem_cons.mpr ⟨(Or.inr (List.mem_of_getElem? mc_1)), (List.forall_mem_cons.mpr ⟨(Or.inr (List.mem_of_getElem? mc_2)), (List.forall_mem_cons.mpr ⟨(Or.inr (List.mem_of_getElem? mc_3)), (List.forall_mem_cons.mpr ⟨(Or.inr (List.mem_of_getElem? mc_4)), (List.forall_mem_cons.mpr ⟨(Or.inr (List.mem_of_getElem? mc_5)), (List.forall_mem_cons.mpr ⟨(Or.inr (List.mem_of_getElem? mc_6)), (List.forall_mem_cons.mpr ⟨(Or.inr (List.mem_of_getElem? mc_7)), (List.forall_mem_cons.mpr ⟨(Or.inr (List.mem_of_getElem? mc_8)), (List.forall_mem_cons.mpr ⟨(Or.inr (List.mem_of_getElem? mc_9)), (List.forall_mem_cons.mpr ⟨(Or.inr (List.mem_of_getElem? mc_10)), (List.forall_mem_cons.mpr ⟨(Or.inr (List.mem_of_getElem? mc_11)), (List.forall_mem_cons.mpr ⟨(Or.inr (List.mem_of_getElem? mc_12)), (List.forall_mem_cons.mpr ⟨(Or.inr (List.mem_of_getElem? mc_13)), (List.forall_mem_cons.mpr ⟨(Or.inr (List.mem_of_getElem? mc_14)), (List.forall_mem_cons.mpr ⟨(Or.inr (List.mem_of_getElem? mc_15)), (List.forall_mem_cons.mpr ⟨(Or.inr (List.mem_of_getElem? mc_16)), (List.forall_mem_cons.mpr ⟨(Or.inr (List.mem_of_getElem? mc_17)), (List.forall_mem_cons.mpr ⟨(Or.inr (List.mem_of_getElem? mc_18)), (List.forall_mem_cons.mpr ⟨(Or.inr (List.mem_of_getElem? mc_19)), (List.forall_mem_cons.mpr ⟨(Or.inr (List.mem_of_getElem? mc_20)), (List.forall_mem_cons.mpr ⟨(Or.inr (List.mem_of_getElem? mc_21)), (List.forall_mem_cons.mpr ⟨(Or.inr (List.mem_of_getElem? mc_22)), (List.forall_mem_cons.mpr ⟨(Or.inr (List.mem_of_getElem? mc_23)), (List.forall_mem_cons.mpr ⟨(Or.inr (List.mem_of_getElem? mc_24)), (List.forall_mem_cons.mpr ⟨(Or.inr (List.mem_of_getElem? mc_25)), (List.forall_mem_cons.mpr ⟨(Or.inr (List.mem_of_getElem? mc_26)), (List.forall_mem_cons.mpr ⟨(Or.inr (List.mem_of_getElem? mc_27)), (List.forall_mem_cons.mpr ⟨(Or.inr (List.mem_of_getElem? mc_28)), (List.forall_mem_cons.mpr ⟨(Or.inr (List.mem_of_getElem? mc_29)), (fun _ h => absurd h List.not_mem_nil)⟩)⟩)⟩)⟩)⟩)⟩)⟩)⟩)⟩)⟩)⟩)⟩)⟩)⟩)⟩)⟩)⟩)⟩)⟩)⟩)⟩)⟩)⟩)⟩)⟩)⟩)⟩)⟩)⟩)⟩)
theorem mc_l1 : ∀ q ∈ ([(yX4_blank, cX4_blank, (4, 1, none)), (yX4_setCopy, cX4_setCopy, (4, 4, none)), (yX4_setTaker, cX4_setTaker, (4, 3, none)), (yX4_tells, cX4_tells, (4, 9, (some .boolean))), (yX4_holds, cX4_holds, (4, 6, (some .boolean))), (yX4_skips, cX4_skips, (4, 3, (some .boolean))), (yX4_run, cX4_run, (4, 6, (some .boolean))), (yX4_lay, cX4_lay, (4, 3, (some .boolean))), (yX4_pull, cX4_pull, (4, 1, (some .int))), (yX5_init, cX5_init, (5, 2, none)), (yX6_init, cX6_init, (6, 1, none)), (yX6_push, cX6_push, (6, 3, none)), (yX6_pop, cX6_pop, (6, 1, none)), (yX6_become, cX6_become, (6, 2, none)), (yX7_init, cX7_init, (7, 1, none)), (yX7_begin, cX7_begin, (7, 4, none)), (yX7_drawLoan, cX7_drawLoan, (7, 7, (some .boolean))), (yX7_draw, cX7_draw, (7, 2, (some .int))), (yX8_init, cX8_init, (8, 1, none)), (yX8_read, cX8_read, (8, 2, (some .boolean))), (yX8_step, cX8_step, (8, 1, none)), (yX8_kindAt, cX8_kindAt, (8, 3, (some .int))), (yX8_isSign, cX8_isSign, (8, 2, (some .boolean))), (yX8_isWord, cX8_isWord, (8, 3, (some .boolean))), (yX8_put, cX8_put, (8, 2, none)), (yX8_putOpen, cX8_putOpen, (8, 1, (some .int))), (yX8_closeHere, cX8_closeHere, (8, 2, none)), (yX8_readClause, cX8_readClause, (8, 3, (some .boolean))), (yX8_headHere, cX8_headHere, (8, 1, (some .int))), (yX8_readTest, cX8_readTest, (8, 4, (some .boolean)))] : List (MethodName × ByteArray × Nat × Nat × Option FieldType)), mcP q := (List.forall_mem_cons.mpr ⟨(Or.inr (List.mem_of_getElem? mc_30)), (List.forall_mem_cons.mpr ⟨(Or.inr (List.mem_of_getElem? mc_31)), (List.forall_mem_cons.mpr ⟨(Or.inr (List.mem_of_getElem? mc_32)), (List.forall_mem_cons.mpr ⟨(Or.inr (List.mem_of_getElem? mc_33)), (List.forall_mem_cons.mpr ⟨(Or.inr (List.mem_of_getElem? mc_34)), (List.forall_mem_cons.mpr ⟨(Or.inr (List.mem_of_getElem? mc_35)), (List.forall_mem_cons.mpr ⟨(Or.inr (List.mem_of_getElem? mc_36)), (List.forall_mem_cons.mpr ⟨(Or.inr (List.mem_of_getElem? mc_37)), (List.forall_mem_cons.mpr ⟨(Or.inr (List.mem_of_getElem? mc_38)), (List.forall_mem_cons.mpr ⟨(Or.inr (List.mem_of_getElem? mc_39)), (List.forall_mem_cons.mpr ⟨(Or.inr (List.mem_of_getElem? mc_40)), (List.forall_mem_cons.mpr ⟨(Or.inr (List.mem_of_getElem? mc_41)), (List.forall_mem_cons.mpr ⟨(Or.inr (List.mem_of_getElem? mc_42)), (List.forall_mem_cons.mpr ⟨(Or.inr (List.mem_of_getElem? mc_43)), (List.forall_mem_cons.mpr ⟨(Or.inr (List.mem_of_getElem? mc_44)), (List.forall_mem_cons.mpr ⟨(Or.inr (List.mem_of_getElem? mc_45)), (List.forall_mem_cons.mpr ⟨(Or.inr (List.mem_of_getElem? mc_46)), (List.forall_mem_cons.mpr ⟨(Or.inr (List.mem_of_getElem? mc_47)), (List.forall_mem_cons.mpr ⟨(Or.inr (List.mem_of_getElem? mc_48)), (List.forall_mem_cons.mpr ⟨(Or.inr (List.mem_of_getElem? mc_49)), (List.forall_mem_cons.mpr ⟨(Or.inr (List.mem_of_getElem? mc_50)), (List.forall_mem_cons.mpr ⟨(Or.inr (List.mem_of_getElem? mc_51)), (List.forall_mem_cons.mpr ⟨(Or.inr (List.mem_of_getElem? mc_52)), (List.forall_mem_cons.mpr ⟨(Or.inr (List.mem_of_getElem? mc_53)), (List.forall_mem_cons.mpr ⟨(Or.inr (List.mem_of_getElem? mc_54)), (List.forall_mem_cons.mpr ⟨(Or.inr (List.mem_of_getElem? mc_55)), (List.forall_mem_cons.mpr ⟨(Or.inr (List.mem_of_getElem? mc_56)), (List.forall_mem_cons.mpr ⟨(Or.inr (List.mem_of_getElem? mc_57)), (List.forall_mem_cons.mpr ⟨(Or.inr (List.mem_of_getElem? mc_58)), (List.forall_mem_cons.mpr ⟨(Or.inr (List.mem_of_getElem? mc_59)), (fun _ h => absurd h List.not_mem_nil)⟩)⟩)⟩)⟩)⟩)⟩)⟩)⟩)⟩)⟩)⟩)⟩)⟩)⟩)⟩)⟩)⟩)⟩)⟩)⟩)⟩)⟩)⟩)⟩)⟩)⟩)⟩)⟩)⟩)⟩)
theorem mc_l2 : ∀ q ∈ ([(yX8_readBoth, cX8_readBoth, (8, 4, (some .boolean))), (yX8_readPlain, cX8_readPlain, (8, 5, (some .boolean))), (yX8_readBracketTest, cX8_readBracketTest, (8, 2, (some .boolean))), (yX8_comparisonHere, cX8_comparisonHere, (8, 1, (some .int))), (yX8_readSum, cX8_readSum, (8, 4, (some .boolean))), (yX8_readTerm, cX8_readTerm, (8, 4, (some .boolean))), (yX8_readPart, cX8_readPart, (8, 4, (some .boolean))), (yX8_readBracketSum, cX8_readBracketSum, (8, 2, (some .boolean))), (yX8_numberHere, cX8_numberHere, (8, 3, (some .int))), (yX8_wordHere, cX8_wordHere, (8, 1, (some .int))), (yX9_init, cX9_init, (9, 2, none)), (yX9_become, cX9_become, (9, 3, none)), (yX9_resettle, cX9_resettle, (9, 4, none)), (yX9_move, cX9_move, (9, 3, none)), (yX9_moveBack, cX9_moveBack, (9, 2, (some .int))), (yX9_held, cX9_held, (9, 4, (some .int))), (yX9_debt, cX9_debt, (9, 5, (some .int))), (yX9_ownerAt, cX9_ownerAt, (9, 6, (some .int))), (yX9_rainyDays, cX9_rainyDays, (9, 3, (some .int))), (yX9_lawInForce, cX9_lawInForce, (9, 1, (some (.object "BorrowedDays$Law")))), (yX10_init, cX10_init, (10, 1, none)), (yX10_put, cX10_put, (10, 3, none)), (yX11_init, cX11_init, (11, 2, none)), (yX11_terms, cX11_terms, (11, 4, (some .int))), (yX11_rain, cX11_rain, (11, 4, (some .int))), (yX11_feed, cX11_feed, (11, 6, (some .int))), (yX11_end, cX11_end, (11, 2, (some .int))), (yX11_row, cX11_row, (11, 5, (some .int))), (yX11_fog, cX11_fog, (11, 1, (some .int))), (yX11_law, cX11_law, (11, 2, (some .int)))] : List (MethodName × ByteArray × Nat × Nat × Option FieldType)), mcP q := (List.forall_mem_cons.mpr ⟨(Or.inr (List.mem_of_getElem? mc_60)), (List.forall_mem_cons.mpr ⟨(Or.inr (List.mem_of_getElem? mc_61)), (List.forall_mem_cons.mpr ⟨(Or.inr (List.mem_of_getElem? mc_62)), (List.forall_mem_cons.mpr ⟨(Or.inr (List.mem_of_getElem? mc_63)), (List.forall_mem_cons.mpr ⟨(Or.inr (List.mem_of_getElem? mc_64)), (List.forall_mem_cons.mpr ⟨(Or.inr (List.mem_of_getElem? mc_65)), (List.forall_mem_cons.mpr ⟨(Or.inr (List.mem_of_getElem? mc_66)), (List.forall_mem_cons.mpr ⟨(Or.inr (List.mem_of_getElem? mc_67)), (List.forall_mem_cons.mpr ⟨(Or.inr (List.mem_of_getElem? mc_68)), (List.forall_mem_cons.mpr ⟨(Or.inr (List.mem_of_getElem? mc_69)), (List.forall_mem_cons.mpr ⟨(Or.inr (List.mem_of_getElem? mc_70)), (List.forall_mem_cons.mpr ⟨(Or.inr (List.mem_of_getElem? mc_71)), (List.forall_mem_cons.mpr ⟨(Or.inr (List.mem_of_getElem? mc_72)), (List.forall_mem_cons.mpr ⟨(Or.inr (List.mem_of_getElem? mc_73)), (List.forall_mem_cons.mpr ⟨(Or.inr (List.mem_of_getElem? mc_74)), (List.forall_mem_cons.mpr ⟨(Or.inr (List.mem_of_getElem? mc_75)), (List.forall_mem_cons.mpr ⟨(Or.inr (List.mem_of_getElem? mc_76)), (List.forall_mem_cons.mpr ⟨(Or.inr (List.mem_of_getElem? mc_77)), (List.forall_mem_cons.mpr ⟨(Or.inr (List.mem_of_getElem? mc_78)), (List.forall_mem_cons.mpr ⟨(Or.inr (List.mem_of_getElem? mc_79)), (List.forall_mem_cons.mpr ⟨(Or.inr (List.mem_of_getElem? mc_80)), (List.forall_mem_cons.mpr ⟨(Or.inr (List.mem_of_getElem? mc_81)), (List.forall_mem_cons.mpr ⟨(Or.inr (List.mem_of_getElem? mc_82)), (List.forall_mem_cons.mpr ⟨(Or.inr (List.mem_of_getElem? mc_83)), (List.forall_mem_cons.mpr ⟨(Or.inr (List.mem_of_getElem? mc_84)), (List.forall_mem_cons.mpr ⟨(Or.inr (List.mem_of_getElem? mc_85)), (List.forall_mem_cons.mpr ⟨(Or.inr (List.mem_of_getElem? mc_86)), (List.forall_mem_cons.mpr ⟨(Or.inr (List.mem_of_getElem? mc_87)), (List.forall_mem_cons.mpr ⟨(Or.inr (List.mem_of_getElem? mc_88)), (List.forall_mem_cons.mpr ⟨(Or.inr (List.mem_of_getElem? mc_89)), (fun _ h => absurd h List.not_mem_nil)⟩)⟩)⟩)⟩)⟩)⟩)⟩)⟩)⟩)⟩)⟩)⟩)⟩)⟩)⟩)⟩)⟩)⟩)⟩)⟩)⟩)⟩)⟩)⟩)⟩)⟩)⟩)⟩)⟩)⟩)
theorem mc_l3 : ∀ q ∈ ([(yX11_fault, cX11_fault, (11, 1, (some .int))), (yX11_force, cX11_force, (11, 3, (some .int))), (yX11_of, cX11_of, (11, 5, (some .int))), (yX11_lend, cX11_lend, (11, 5, (some .int))), (yX11_home, cX11_home, (11, 4, (some .int))), (yX11_undo, cX11_undo, (11, 1, (some .int))), (yX11_live, cX11_live, (11, 6, (some .int))), (yX11_when, cX11_when, (11, 5, (some .int))), (yX11_age, cX11_age, (11, 5, (some .int))), (yX11_wages, cX11_wages, (11, 7, (some .int))), (yX11_gap, cX11_gap, (11, 5, (some .int))), (yX11_owes, cX11_owes, (11, 3, (some .int))), (yX11_away, cX11_away, (11, 3, (some .int))), (yX11_ring, cX11_ring, (11, 2, (some .int))), (yX11_easter, cX11_easter, (11, 3, (some .int))), (yX11_trade, cX11_trade, (11, 4, (some .int))), (yX11_chain, cX11_chain, (11, 3, (some .int))), (yX11_last, cX11_last, (11, 9, (some .int))), (yX11_price, cX11_price, (11, 4, (some .int))), (yX11_deed, cX11_deed, (11, 4, (some .int))), (yX11_burn, cX11_burn, (11, 2, (some .int))), (yX11_forged, cX11_forged, (11, 4, (some .int))), (yX11_explains, cX11_explains, (11, 6, (some .int))), (yX11_year, cX11_year, (11, 5, (some .int))), (yX11_drawn, cX11_drawn, (11, 3, (some .int))), (yX11_image, cX11_image, (11, 2, (some .int))), (yX11_back, cX11_back, (11, 2, (some .int))), (yX11_count, cX11_count, (11, 2, (some .int))), (yX11_status, cX11_status, (11, 1, (some .int))), (yX11_accept, cX11_accept, (11, 2, (some .int)))] : List (MethodName × ByteArray × Nat × Nat × Option FieldType)), mcP q := (List.forall_mem_cons.mpr ⟨(Or.inr (List.mem_of_getElem? mc_90)), (List.forall_mem_cons.mpr ⟨(Or.inr (List.mem_of_getElem? mc_91)), (List.forall_mem_cons.mpr ⟨(Or.inr (List.mem_of_getElem? mc_92)), (List.forall_mem_cons.mpr ⟨(Or.inr (List.mem_of_getElem? mc_93)), (List.forall_mem_cons.mpr ⟨(Or.inr (List.mem_of_getElem? mc_94)), (List.forall_mem_cons.mpr ⟨(Or.inr (List.mem_of_getElem? mc_95)), (List.forall_mem_cons.mpr ⟨(Or.inr (List.mem_of_getElem? mc_96)), (List.forall_mem_cons.mpr ⟨(Or.inr (List.mem_of_getElem? mc_97)), (List.forall_mem_cons.mpr ⟨(Or.inr (List.mem_of_getElem? mc_98)), (List.forall_mem_cons.mpr ⟨(Or.inr (List.mem_of_getElem? mc_99)), (List.forall_mem_cons.mpr ⟨(Or.inr (List.mem_of_getElem? mc_100)), (List.forall_mem_cons.mpr ⟨(Or.inr (List.mem_of_getElem? mc_101)), (List.forall_mem_cons.mpr ⟨(Or.inr (List.mem_of_getElem? mc_102)), (List.forall_mem_cons.mpr ⟨(Or.inr (List.mem_of_getElem? mc_103)), (List.forall_mem_cons.mpr ⟨(Or.inr (List.mem_of_getElem? mc_104)), (List.forall_mem_cons.mpr ⟨(Or.inr (List.mem_of_getElem? mc_105)), (List.forall_mem_cons.mpr ⟨(Or.inr (List.mem_of_getElem? mc_106)), (List.forall_mem_cons.mpr ⟨(Or.inr (List.mem_of_getElem? mc_107)), (List.forall_mem_cons.mpr ⟨(Or.inr (List.mem_of_getElem? mc_108)), (List.forall_mem_cons.mpr ⟨(Or.inr (List.mem_of_getElem? mc_109)), (List.forall_mem_cons.mpr ⟨(Or.inr (List.mem_of_getElem? mc_110)), (List.forall_mem_cons.mpr ⟨(Or.inr (List.mem_of_getElem? mc_111)), (List.forall_mem_cons.mpr ⟨(Or.inr (List.mem_of_getElem? mc_112)), (List.forall_mem_cons.mpr ⟨(Or.inr (List.mem_of_getElem? mc_113)), (List.forall_mem_cons.mpr ⟨(Or.inr (List.mem_of_getElem? mc_114)), (List.forall_mem_cons.mpr ⟨(Or.inr (List.mem_of_getElem? mc_115)), (List.forall_mem_cons.mpr ⟨(Or.inr (List.mem_of_getElem? mc_116)), (List.forall_mem_cons.mpr ⟨(Or.inr (List.mem_of_getElem? mc_117)), (List.forall_mem_cons.mpr ⟨(Or.inr (List.mem_of_getElem? mc_118)), (List.forall_mem_cons.mpr ⟨(Or.inr (List.mem_of_getElem? mc_119)), (fun _ h => absurd h List.not_mem_nil)⟩)⟩)⟩)⟩)⟩)⟩)⟩)⟩)⟩)⟩)⟩)⟩)⟩)⟩)⟩)⟩)⟩)⟩)⟩)⟩)⟩)⟩)⟩)⟩)⟩)⟩)⟩)⟩)⟩)⟩)
theorem mc_l4 : ∀ q ∈ ([(yX11_refuse, cX11_refuse, (11, 3, (some .int))), (yX11_reasonPlace, cX11_reasonPlace, (11, 1, (some .int))), (yX11_isVillage, cX11_isVillage, (11, 2, (some .boolean))), (yX11_isDay, cX11_isDay, (11, 1, (some .boolean))), (yX11_isImage, cX11_isImage, (11, 1, (some .boolean))), (yX11_isBarred, cX11_isBarred, (11, 3, (some .boolean))), (yX11_nextTaker, cX11_nextTaker, (11, 6, (some .int))), (yX11_awayOf, cX11_awayOf, (11, 4, (some .int))), (yX11_isFeast, cX11_isFeast, (11, 2, (some .boolean))), (yX11_settle, cX11_settle, (11, 5, (some .int))), (yX11_rights, cX11_rights, (11, 5, (some .boolean))), (yX11_loanPart, cX11_loanPart, (11, 3, (some .int))), (yX12_init, cX12_init, (12, 2, none)), (yX12_in, cX12_in, (12, 6, (some .boolean))), (yX12_is, cX12_is, (12, 2, (some .boolean))), (yX12_tell, cX12_tell, (12, 2, (some .int))), (yX12_was, cX12_was, (12, 2, (some .int))), (yX12_image, cX12_image, (12, 3, (some .int))), (yX12_back, cX12_back, (12, 3, (some .int))), (yX12_villages, cX12_villages, (12, 1, (some .int))), (yX12_isVillage, cX12_isVillage, (12, 2, (some .boolean))), (yX12_isDay, cX12_isDay, (12, 1, (some .boolean))), (yX12_terms, cX12_terms, (12, 7, (some .int))), (yX12_rain, cX12_rain, (12, 4, (some .int))), (yX12_row, cX12_row, (12, 4, (some .int))), (yX12_fog, cX12_fog, (12, 1, (some .int))), (yX12_four, cX12_four, (12, 3, none)), (yX12_feed, cX12_feed, (12, 6, (some .int))), (yX12_end, cX12_end, (12, 2, (some .int))), (yX12_isSmall, cX12_isSmall, (12, 1, (some .boolean)))] : List (MethodName × ByteArray × Nat × Nat × Option FieldType)), mcP q := (List.forall_mem_cons.mpr ⟨(Or.inr (List.mem_of_getElem? mc_120)), (List.forall_mem_cons.mpr ⟨(Or.inr (List.mem_of_getElem? mc_121)), (List.forall_mem_cons.mpr ⟨(Or.inr (List.mem_of_getElem? mc_122)), (List.forall_mem_cons.mpr ⟨(Or.inr (List.mem_of_getElem? mc_123)), (List.forall_mem_cons.mpr ⟨(Or.inr (List.mem_of_getElem? mc_124)), (List.forall_mem_cons.mpr ⟨(Or.inr (List.mem_of_getElem? mc_125)), (List.forall_mem_cons.mpr ⟨(Or.inr (List.mem_of_getElem? mc_126)), (List.forall_mem_cons.mpr ⟨(Or.inr (List.mem_of_getElem? mc_127)), (List.forall_mem_cons.mpr ⟨(Or.inr (List.mem_of_getElem? mc_128)), (List.forall_mem_cons.mpr ⟨(Or.inr (List.mem_of_getElem? mc_129)), (List.forall_mem_cons.mpr ⟨(Or.inr (List.mem_of_getElem? mc_130)), (List.forall_mem_cons.mpr ⟨(Or.inr (List.mem_of_getElem? mc_131)), (List.forall_mem_cons.mpr ⟨(Or.inr (List.mem_of_getElem? mc_132)), (List.forall_mem_cons.mpr ⟨(Or.inr (List.mem_of_getElem? mc_133)), (List.forall_mem_cons.mpr ⟨(Or.inr (List.mem_of_getElem? mc_134)), (List.forall_mem_cons.mpr ⟨(Or.inr (List.mem_of_getElem? mc_135)), (List.forall_mem_cons.mpr ⟨(Or.inr (List.mem_of_getElem? mc_136)), (List.forall_mem_cons.mpr ⟨(Or.inr (List.mem_of_getElem? mc_137)), (List.forall_mem_cons.mpr ⟨(Or.inr (List.mem_of_getElem? mc_138)), (List.forall_mem_cons.mpr ⟨(Or.inr (List.mem_of_getElem? mc_139)), (List.forall_mem_cons.mpr ⟨(Or.inr (List.mem_of_getElem? mc_140)), (List.forall_mem_cons.mpr ⟨(Or.inr (List.mem_of_getElem? mc_141)), (List.forall_mem_cons.mpr ⟨(Or.inr (List.mem_of_getElem? mc_142)), (List.forall_mem_cons.mpr ⟨(Or.inr (List.mem_of_getElem? mc_143)), (List.forall_mem_cons.mpr ⟨(Or.inr (List.mem_of_getElem? mc_144)), (List.forall_mem_cons.mpr ⟨(Or.inr (List.mem_of_getElem? mc_145)), (List.forall_mem_cons.mpr ⟨(Or.inr (List.mem_of_getElem? mc_146)), (List.forall_mem_cons.mpr ⟨(Or.inr (List.mem_of_getElem? mc_147)), (List.forall_mem_cons.mpr ⟨(Or.inr (List.mem_of_getElem? mc_148)), (List.forall_mem_cons.mpr ⟨(Or.inr (List.mem_of_getElem? mc_149)), (fun _ h => absurd h List.not_mem_nil)⟩)⟩)⟩)⟩)⟩)⟩)⟩)⟩)⟩)⟩)⟩)⟩)⟩)⟩)⟩)⟩)⟩)⟩)⟩)⟩)⟩)⟩)⟩)⟩)⟩)⟩)⟩)⟩)⟩)⟩)
theorem mc_l5 : ∀ q ∈ ([(yX12_isDigit, cX12_isDigit, (12, 1, (some .boolean))), (yX12_begin, cX12_begin, (12, 1, none)), (yX12_next, cX12_next, (12, 1, none)), (yX12_isWord, cX12_isWord, (12, 3, (some .boolean))), (yX12_isSign, cX12_isSign, (12, 2, (some .boolean))), (yX12_must, cX12_must, (12, 2, none)), (yX12_fault, cX12_fault, (12, 1, (some .int))), (yX12_emit, cX12_emit, (12, 3, none)), (yX12_push, cX12_push, (12, 3, none)), (yX12_binds, cX12_binds, (12, 1, (some .int))), (yX12_settle, cX12_settle, (12, 2, none)), (yX12_inner, cX12_inner, (12, 3, (some .int))), (yX12_isCompared, cX12_isCompared, (12, 2, (some .boolean))), (yX12_partAt, cX12_partAt, (12, 3, (some .int))), (yX12_openBracket, cX12_openBracket, (12, 2, none)), (yX12_leaf, cX12_leaf, (12, 4, none)), (yX12_readPart, cX12_readPart, (12, 3, (some .int))), (yX12_readPlain, cX12_readPlain, (12, 1, (some .int))), (yX12_behindSum, cX12_behindSum, (12, 4, (some .int))), (yX12_behindTest, cX12_behindTest, (12, 2, (some .int))), (yX12_readExpression, cX12_readExpression, (12, 3, none)), (yX12_readClause, cX12_readClause, (12, 4, none)), (yX12_law, cX12_law, (12, 3, (some .int))), (yX12_force, cX12_force, (12, 3, (some .int))), (yX12_reckon, cX12_reckon, (12, 6, (some .long))), (yX12_reckonAll, cX12_reckonAll, (12, 7, none)), (yX12_isSo, cX12_isSo, (12, 2, (some .boolean))), (yX12_copies, cX12_copies, (12, 1, (some .int))), (yX12_load, cX12_load, (12, 2, none)), (yX12_shift, cX12_shift, (12, 3, none))] : List (MethodName × ByteArray × Nat × Nat × Option FieldType)), mcP q := (List.forall_mem_cons.mpr ⟨(Or.inr (List.mem_of_getElem? mc_150)), (List.forall_mem_cons.mpr ⟨(Or.inr (List.mem_of_getElem? mc_151)), (List.forall_mem_cons.mpr ⟨(Or.inr (List.mem_of_getElem? mc_152)), (List.forall_mem_cons.mpr ⟨(Or.inr (List.mem_of_getElem? mc_153)), (List.forall_mem_cons.mpr ⟨(Or.inr (List.mem_of_getElem? mc_154)), (List.forall_mem_cons.mpr ⟨(Or.inr (List.mem_of_getElem? mc_155)), (List.forall_mem_cons.mpr ⟨(Or.inr (List.mem_of_getElem? mc_156)), (List.forall_mem_cons.mpr ⟨(Or.inr (List.mem_of_getElem? mc_157)), (List.forall_mem_cons.mpr ⟨(Or.inr (List.mem_of_getElem? mc_158)), (List.forall_mem_cons.mpr ⟨(Or.inr (List.mem_of_getElem? mc_159)), (List.forall_mem_cons.mpr ⟨(Or.inr (List.mem_of_getElem? mc_160)), (List.forall_mem_cons.mpr ⟨(Or.inr (List.mem_of_getElem? mc_161)), (List.forall_mem_cons.mpr ⟨(Or.inr (List.mem_of_getElem? mc_162)), (List.forall_mem_cons.mpr ⟨(Or.inr (List.mem_of_getElem? mc_163)), (List.forall_mem_cons.mpr ⟨(Or.inr (List.mem_of_getElem? mc_164)), (List.forall_mem_cons.mpr ⟨(Or.inr (List.mem_of_getElem? mc_165)), (List.forall_mem_cons.mpr ⟨(Or.inr (List.mem_of_getElem? mc_166)), (List.forall_mem_cons.mpr ⟨(Or.inr (List.mem_of_getElem? mc_167)), (List.forall_mem_cons.mpr ⟨(Or.inr (List.mem_of_getElem? mc_168)), (List.forall_mem_cons.mpr ⟨(Or.inr (List.mem_of_getElem? mc_169)), (List.forall_mem_cons.mpr ⟨(Or.inr (List.mem_of_getElem? mc_170)), (List.forall_mem_cons.mpr ⟨(Or.inr (List.mem_of_getElem? mc_171)), (List.forall_mem_cons.mpr ⟨(Or.inr (List.mem_of_getElem? mc_172)), (List.forall_mem_cons.mpr ⟨(Or.inr (List.mem_of_getElem? mc_173)), (List.forall_mem_cons.mpr ⟨(Or.inr (List.mem_of_getElem? mc_174)), (List.forall_mem_cons.mpr ⟨(Or.inr (List.mem_of_getElem? mc_175)), (List.forall_mem_cons.mpr ⟨(Or.inr (List.mem_of_getElem? mc_176)), (List.forall_mem_cons.mpr ⟨(Or.inr (List.mem_of_getElem? mc_177)), (List.forall_mem_cons.mpr ⟨(Or.inr (List.mem_of_getElem? mc_178)), (List.forall_mem_cons.mpr ⟨(Or.inr (List.mem_of_getElem? mc_179)), (fun _ h => absurd h List.not_mem_nil)⟩)⟩)⟩)⟩)⟩)⟩)⟩)⟩)⟩)⟩)⟩)⟩)⟩)⟩)⟩)⟩)⟩)⟩)⟩)⟩)⟩)⟩)⟩)⟩)⟩)⟩)⟩)⟩)⟩)⟩)
theorem mc_l6 : ∀ q ∈ ([(yX12_tells, cX12_tells, (12, 14, (some .long))), (yX12_within, cX12_within, (12, 4, (some .int))), (yX12_isBarred, cX12_isBarred, (12, 4, (some .boolean))), (yX12_pays, cX12_pays, (12, 3, (some .int))), (yX12_of, cX12_of, (12, 6, (some .int))), (yX12_go, cX12_go, (12, 5, (some .int))), (yX12_lend, cX12_lend, (12, 5, (some .int))), (yX12_home, cX12_home, (12, 4, (some .int))), (yX12_undo, cX12_undo, (12, 2, (some .int))), (yX12_findRow, cX12_findRow, (12, 4, none)), (yX12_live, cX12_live, (12, 4, (some .int))), (yX12_when, cX12_when, (12, 7, (some .int))), (yX12_age, cX12_age, (12, 6, (some .int))), (yX12_wages, cX12_wages, (12, 5, (some .int))), (yX12_hasDay, cX12_hasDay, (12, 5, (some .boolean))), (yX12_gap, cX12_gap, (12, 5, (some .int))), (yX12_owesOf, cX12_owesOf, (12, 5, (some .int))), (yX12_owes, cX12_owes, (12, 3, (some .int))), (yX12_away, cX12_away, (12, 3, (some .int))), (yX12_findRing, cX12_findRing, (12, 3, none)), (yX12_goRound, cX12_goRound, (12, 5, none)), (yX12_keepRing, cX12_keepRing, (12, 4, none)), (yX12_ring, cX12_ring, (12, 2, (some .int))), (yX12_findChains, cX12_findChains, (12, 6, none)), (yX12_chain, cX12_chain, (12, 3, (some .int))), (yX12_aheadOf, cX12_aheadOf, (12, 6, (some .int))), (yX12_isEaster, cX12_isEaster, (12, 8, (some .boolean))), (yX12_findLeast, cX12_findLeast, (12, 6, none)), (yX12_easter, cX12_easter, (12, 3, (some .int))), (yX12_trade, cX12_trade, (12, 9, (some .int)))] : List (MethodName × ByteArray × Nat × Nat × Option FieldType)), mcP q := (List.forall_mem_cons.mpr ⟨(Or.inr (List.mem_of_getElem? mc_180)), (List.forall_mem_cons.mpr ⟨(Or.inr (List.mem_of_getElem? mc_181)), (List.forall_mem_cons.mpr ⟨(Or.inr (List.mem_of_getElem? mc_182)), (List.forall_mem_cons.mpr ⟨(Or.inr (List.mem_of_getElem? mc_183)), (List.forall_mem_cons.mpr ⟨(Or.inr (List.mem_of_getElem? mc_184)), (List.forall_mem_cons.mpr ⟨(Or.inr (List.mem_of_getElem? mc_185)), (List.forall_mem_cons.mpr ⟨(Or.inr (List.mem_of_getElem? mc_186)), (List.forall_mem_cons.mpr ⟨(Or.inr (List.mem_of_getElem? mc_187)), (List.forall_mem_cons.mpr ⟨(Or.inr (List.mem_of_getElem? mc_188)), (List.forall_mem_cons.mpr ⟨(Or.inr (List.mem_of_getElem? mc_189)), (List.forall_mem_cons.mpr ⟨(Or.inr (List.mem_of_getElem? mc_190)), (List.forall_mem_cons.mpr ⟨(Or.inr (List.mem_of_getElem? mc_191)), (List.forall_mem_cons.mpr ⟨(Or.inr (List.mem_of_getElem? mc_192)), (List.forall_mem_cons.mpr ⟨(Or.inr (List.mem_of_getElem? mc_193)), (List.forall_mem_cons.mpr ⟨(Or.inr (List.mem_of_getElem? mc_194)), (List.forall_mem_cons.mpr ⟨(Or.inr (List.mem_of_getElem? mc_195)), (List.forall_mem_cons.mpr ⟨(Or.inr (List.mem_of_getElem? mc_196)), (List.forall_mem_cons.mpr ⟨(Or.inr (List.mem_of_getElem? mc_197)), (List.forall_mem_cons.mpr ⟨(Or.inr (List.mem_of_getElem? mc_198)), (List.forall_mem_cons.mpr ⟨(Or.inr (List.mem_of_getElem? mc_199)), (List.forall_mem_cons.mpr ⟨(Or.inr (List.mem_of_getElem? mc_200)), (List.forall_mem_cons.mpr ⟨(Or.inr (List.mem_of_getElem? mc_201)), (List.forall_mem_cons.mpr ⟨(Or.inr (List.mem_of_getElem? mc_202)), (List.forall_mem_cons.mpr ⟨(Or.inr (List.mem_of_getElem? mc_203)), (List.forall_mem_cons.mpr ⟨(Or.inr (List.mem_of_getElem? mc_204)), (List.forall_mem_cons.mpr ⟨(Or.inr (List.mem_of_getElem? mc_205)), (List.forall_mem_cons.mpr ⟨(Or.inr (List.mem_of_getElem? mc_206)), (List.forall_mem_cons.mpr ⟨(Or.inr (List.mem_of_getElem? mc_207)), (List.forall_mem_cons.mpr ⟨(Or.inr (List.mem_of_getElem? mc_208)), (List.forall_mem_cons.mpr ⟨(Or.inr (List.mem_of_getElem? mc_209)), (fun _ h => absurd h List.not_mem_nil)⟩)⟩)⟩)⟩)⟩)⟩)⟩)⟩)⟩)⟩)⟩)⟩)⟩)⟩)⟩)⟩)⟩)⟩)⟩)⟩)⟩)⟩)⟩)⟩)⟩)⟩)⟩)⟩)⟩)⟩)
theorem mc_l7 : ∀ q ∈ ([(yX12_last, cX12_last, (12, 9, (some .int))), (yX12_findPrices, cX12_findPrices, (12, 6, (some .int))), (yX12_price, cX12_price, (12, 3, (some .int))), (yX12_deed, cX12_deed, (12, 5, (some .int))), (yX12_burn, cX12_burn, (12, 3, (some .int))), (yX12_isForged, cX12_isForged, (12, 3, (some .boolean))), (yX12_forged, cX12_forged, (12, 4, (some .int))), (yX12_areTrue, cX12_areTrue, (12, 2, (some .boolean))), (yX12_explains, cX12_explains, (12, 7, (some .int))), (yX12_draw, cX12_draw, (12, 2, (some .int))), (yX12_year, cX12_year, (12, 8, (some .int))), (yX12_drawn, cX12_drawn, (12, 3, (some .int))), (yX12_count, cX12_count, (12, 4, (some .int))), (yX12_status, cX12_status, (12, 1, (some .int))), (yJ6_bitCount_0f7a4, cJ6_bitCount_0f7a4, (13, 1, (some .int))), (yJ7_fill_53178, cJ7_fill_53178, (14, 4, none)), (yJ7_copyOf_59c91, cJ7_copyOf_59c91, (14, 3, (some (.array .int)))), (yL_law, cL_law, (15, 4, (some .boolean)))] : List (MethodName × ByteArray × Nat × Nat × Option FieldType)), mcP q := (List.forall_mem_cons.mpr ⟨(Or.inr (List.mem_of_getElem? mc_210)), (List.forall_mem_cons.mpr ⟨(Or.inr (List.mem_of_getElem? mc_211)), (List.forall_mem_cons.mpr ⟨(Or.inr (List.mem_of_getElem? mc_212)), (List.forall_mem_cons.mpr ⟨(Or.inr (List.mem_of_getElem? mc_213)), (List.forall_mem_cons.mpr ⟨(Or.inr (List.mem_of_getElem? mc_214)), (List.forall_mem_cons.mpr ⟨(Or.inr (List.mem_of_getElem? mc_215)), (List.forall_mem_cons.mpr ⟨(Or.inr (List.mem_of_getElem? mc_216)), (List.forall_mem_cons.mpr ⟨(Or.inr (List.mem_of_getElem? mc_217)), (List.forall_mem_cons.mpr ⟨(Or.inr (List.mem_of_getElem? mc_218)), (List.forall_mem_cons.mpr ⟨(Or.inr (List.mem_of_getElem? mc_219)), (List.forall_mem_cons.mpr ⟨(Or.inr (List.mem_of_getElem? mc_220)), (List.forall_mem_cons.mpr ⟨(Or.inr (List.mem_of_getElem? mc_221)), (List.forall_mem_cons.mpr ⟨(Or.inr (List.mem_of_getElem? mc_222)), (List.forall_mem_cons.mpr ⟨(Or.inr (List.mem_of_getElem? mc_223)), (List.forall_mem_cons.mpr ⟨(Or.inr (List.mem_of_getElem? mc_224)), (List.forall_mem_cons.mpr ⟨(Or.inr (List.mem_of_getElem? mc_225)), (List.forall_mem_cons.mpr ⟨(Or.inr (List.mem_of_getElem? mc_226)), (List.forall_mem_cons.mpr ⟨(Or.inl rfl), (fun _ h => absurd h List.not_mem_nil)⟩)⟩)⟩)⟩)⟩)⟩)⟩)⟩)⟩)⟩)⟩)⟩)⟩)⟩)⟩)⟩)⟩)⟩)
set_option maxRecDepth 100000 in
theorem mc_list : ∀ q ∈ List.zip mnAll (List.zip mbAll miAll), mcP q := by
  show ∀ q ∈ ([(yX0_init, cX0_init, (0, 1, none)), (yX0_drawUp, cX0_drawUp, (0, 4, none)), (yX0_before, cX0_before, (0, 3, (some .int))), (yX0_times, cX0_times, (0, 3, (some .int))), (yX0_total, cX0_total, (0, 2, (some .int))), (yX0_dayAt, cX0_dayAt, (0, 4, (some .int))), (yX1_init, cX1_init, (1, 1, none)), (yX1_find, cX1_find, (1, 4, none)), (yX1_creditorsOf, cX1_creditorsOf, (1, 4, (some .int))), (yX1_closes, cX1_closes, (1, 2, (some .boolean))), (yX1_extend, cX1_extend, (1, 5, (some .boolean))), (yX2_init, cX2_init, (2, 1, none)), (yX2_add, cX2_add, (2, 4, none)), (yX2_drop, cX2_drop, (2, 3, none)), (yX2_isSo, cX2_isSo, (2, 11, (some .boolean))), (yX2_become, cX2_become, (2, 2, none)), (yX3_init, cX3_init, (3, 1, none)), (yX3_invite, cX3_invite, (3, 8, (some .boolean))), (yX3_enter, cX3_enter, (3, 6, (some .int))), (yX3_layRoads, cX3_layRoads, (3, 9, none)), (yX3_road, cX3_road, (3, 3, (some .int))), (yX3_weigh, cX3_weigh, (3, 6, none)), (yX3_leastCost, cX3_leastCost, (3, 1, (some .int))), (yX3_takerOf, cX3_takerOf, (3, 6, (some .int))), (yX3_firstPlace, cX3_firstPlace, (3, 4, (some .int))), (yX4_init, cX4_init, (4, 1, none)), (yX4_payOf, cX4_payOf, (4, 4, (some .int))), (yX4_costOf, cX4_costOf, (4, 5, (some .int))), (yX4_forbids, cX4_forbids, (4, 6, (some .boolean))), (yX4_lean, cX4_lean, (4, 7, (some .int)))] : List (MethodName × ByteArray × Nat × Nat × Option FieldType)) ++ (([(yX4_blank, cX4_blank, (4, 1, none)), (yX4_setCopy, cX4_setCopy, (4, 4, none)), (yX4_setTaker, cX4_setTaker, (4, 3, none)), (yX4_tells, cX4_tells, (4, 9, (some .boolean))), (yX4_holds, cX4_holds, (4, 6, (some .boolean))), (yX4_skips, cX4_skips, (4, 3, (some .boolean))), (yX4_run, cX4_run, (4, 6, (some .boolean))), (yX4_lay, cX4_lay, (4, 3, (some .boolean))), (yX4_pull, cX4_pull, (4, 1, (some .int))), (yX5_init, cX5_init, (5, 2, none)), (yX6_init, cX6_init, (6, 1, none)), (yX6_push, cX6_push, (6, 3, none)), (yX6_pop, cX6_pop, (6, 1, none)), (yX6_become, cX6_become, (6, 2, none)), (yX7_init, cX7_init, (7, 1, none)), (yX7_begin, cX7_begin, (7, 4, none)), (yX7_drawLoan, cX7_drawLoan, (7, 7, (some .boolean))), (yX7_draw, cX7_draw, (7, 2, (some .int))), (yX8_init, cX8_init, (8, 1, none)), (yX8_read, cX8_read, (8, 2, (some .boolean))), (yX8_step, cX8_step, (8, 1, none)), (yX8_kindAt, cX8_kindAt, (8, 3, (some .int))), (yX8_isSign, cX8_isSign, (8, 2, (some .boolean))), (yX8_isWord, cX8_isWord, (8, 3, (some .boolean))), (yX8_put, cX8_put, (8, 2, none)), (yX8_putOpen, cX8_putOpen, (8, 1, (some .int))), (yX8_closeHere, cX8_closeHere, (8, 2, none)), (yX8_readClause, cX8_readClause, (8, 3, (some .boolean))), (yX8_headHere, cX8_headHere, (8, 1, (some .int))), (yX8_readTest, cX8_readTest, (8, 4, (some .boolean)))] : List (MethodName × ByteArray × Nat × Nat × Option FieldType)) ++ (([(yX8_readBoth, cX8_readBoth, (8, 4, (some .boolean))), (yX8_readPlain, cX8_readPlain, (8, 5, (some .boolean))), (yX8_readBracketTest, cX8_readBracketTest, (8, 2, (some .boolean))), (yX8_comparisonHere, cX8_comparisonHere, (8, 1, (some .int))), (yX8_readSum, cX8_readSum, (8, 4, (some .boolean))), (yX8_readTerm, cX8_readTerm, (8, 4, (some .boolean))), (yX8_readPart, cX8_readPart, (8, 4, (some .boolean))), (yX8_readBracketSum, cX8_readBracketSum, (8, 2, (some .boolean))), (yX8_numberHere, cX8_numberHere, (8, 3, (some .int))), (yX8_wordHere, cX8_wordHere, (8, 1, (some .int))), (yX9_init, cX9_init, (9, 2, none)), (yX9_become, cX9_become, (9, 3, none)), (yX9_resettle, cX9_resettle, (9, 4, none)), (yX9_move, cX9_move, (9, 3, none)), (yX9_moveBack, cX9_moveBack, (9, 2, (some .int))), (yX9_held, cX9_held, (9, 4, (some .int))), (yX9_debt, cX9_debt, (9, 5, (some .int))), (yX9_ownerAt, cX9_ownerAt, (9, 6, (some .int))), (yX9_rainyDays, cX9_rainyDays, (9, 3, (some .int))), (yX9_lawInForce, cX9_lawInForce, (9, 1, (some (.object "BorrowedDays$Law")))), (yX10_init, cX10_init, (10, 1, none)), (yX10_put, cX10_put, (10, 3, none)), (yX11_init, cX11_init, (11, 2, none)), (yX11_terms, cX11_terms, (11, 4, (some .int))), (yX11_rain, cX11_rain, (11, 4, (some .int))), (yX11_feed, cX11_feed, (11, 6, (some .int))), (yX11_end, cX11_end, (11, 2, (some .int))), (yX11_row, cX11_row, (11, 5, (some .int))), (yX11_fog, cX11_fog, (11, 1, (some .int))), (yX11_law, cX11_law, (11, 2, (some .int)))] : List (MethodName × ByteArray × Nat × Nat × Option FieldType)) ++ (([(yX11_fault, cX11_fault, (11, 1, (some .int))), (yX11_force, cX11_force, (11, 3, (some .int))), (yX11_of, cX11_of, (11, 5, (some .int))), (yX11_lend, cX11_lend, (11, 5, (some .int))), (yX11_home, cX11_home, (11, 4, (some .int))), (yX11_undo, cX11_undo, (11, 1, (some .int))), (yX11_live, cX11_live, (11, 6, (some .int))), (yX11_when, cX11_when, (11, 5, (some .int))), (yX11_age, cX11_age, (11, 5, (some .int))), (yX11_wages, cX11_wages, (11, 7, (some .int))), (yX11_gap, cX11_gap, (11, 5, (some .int))), (yX11_owes, cX11_owes, (11, 3, (some .int))), (yX11_away, cX11_away, (11, 3, (some .int))), (yX11_ring, cX11_ring, (11, 2, (some .int))), (yX11_easter, cX11_easter, (11, 3, (some .int))), (yX11_trade, cX11_trade, (11, 4, (some .int))), (yX11_chain, cX11_chain, (11, 3, (some .int))), (yX11_last, cX11_last, (11, 9, (some .int))), (yX11_price, cX11_price, (11, 4, (some .int))), (yX11_deed, cX11_deed, (11, 4, (some .int))), (yX11_burn, cX11_burn, (11, 2, (some .int))), (yX11_forged, cX11_forged, (11, 4, (some .int))), (yX11_explains, cX11_explains, (11, 6, (some .int))), (yX11_year, cX11_year, (11, 5, (some .int))), (yX11_drawn, cX11_drawn, (11, 3, (some .int))), (yX11_image, cX11_image, (11, 2, (some .int))), (yX11_back, cX11_back, (11, 2, (some .int))), (yX11_count, cX11_count, (11, 2, (some .int))), (yX11_status, cX11_status, (11, 1, (some .int))), (yX11_accept, cX11_accept, (11, 2, (some .int)))] : List (MethodName × ByteArray × Nat × Nat × Option FieldType)) ++ (([(yX11_refuse, cX11_refuse, (11, 3, (some .int))), (yX11_reasonPlace, cX11_reasonPlace, (11, 1, (some .int))), (yX11_isVillage, cX11_isVillage, (11, 2, (some .boolean))), (yX11_isDay, cX11_isDay, (11, 1, (some .boolean))), (yX11_isImage, cX11_isImage, (11, 1, (some .boolean))), (yX11_isBarred, cX11_isBarred, (11, 3, (some .boolean))), (yX11_nextTaker, cX11_nextTaker, (11, 6, (some .int))), (yX11_awayOf, cX11_awayOf, (11, 4, (some .int))), (yX11_isFeast, cX11_isFeast, (11, 2, (some .boolean))), (yX11_settle, cX11_settle, (11, 5, (some .int))), (yX11_rights, cX11_rights, (11, 5, (some .boolean))), (yX11_loanPart, cX11_loanPart, (11, 3, (some .int))), (yX12_init, cX12_init, (12, 2, none)), (yX12_in, cX12_in, (12, 6, (some .boolean))), (yX12_is, cX12_is, (12, 2, (some .boolean))), (yX12_tell, cX12_tell, (12, 2, (some .int))), (yX12_was, cX12_was, (12, 2, (some .int))), (yX12_image, cX12_image, (12, 3, (some .int))), (yX12_back, cX12_back, (12, 3, (some .int))), (yX12_villages, cX12_villages, (12, 1, (some .int))), (yX12_isVillage, cX12_isVillage, (12, 2, (some .boolean))), (yX12_isDay, cX12_isDay, (12, 1, (some .boolean))), (yX12_terms, cX12_terms, (12, 7, (some .int))), (yX12_rain, cX12_rain, (12, 4, (some .int))), (yX12_row, cX12_row, (12, 4, (some .int))), (yX12_fog, cX12_fog, (12, 1, (some .int))), (yX12_four, cX12_four, (12, 3, none)), (yX12_feed, cX12_feed, (12, 6, (some .int))), (yX12_end, cX12_end, (12, 2, (some .int))), (yX12_isSmall, cX12_isSmall, (12, 1, (some .boolean)))] : List (MethodName × ByteArray × Nat × Nat × Option FieldType)) ++ (([(yX12_isDigit, cX12_isDigit, (12, 1, (some .boolean))), (yX12_begin, cX12_begin, (12, 1, none)), (yX12_next, cX12_next, (12, 1, none)), (yX12_isWord, cX12_isWord, (12, 3, (some .boolean))), (yX12_isSign, cX12_isSign, (12, 2, (some .boolean))), (yX12_must, cX12_must, (12, 2, none)), (yX12_fault, cX12_fault, (12, 1, (some .int))), (yX12_emit, cX12_emit, (12, 3, none)), (yX12_push, cX12_push, (12, 3, none)), (yX12_binds, cX12_binds, (12, 1, (some .int))), (yX12_settle, cX12_settle, (12, 2, none)), (yX12_inner, cX12_inner, (12, 3, (some .int))), (yX12_isCompared, cX12_isCompared, (12, 2, (some .boolean))), (yX12_partAt, cX12_partAt, (12, 3, (some .int))), (yX12_openBracket, cX12_openBracket, (12, 2, none)), (yX12_leaf, cX12_leaf, (12, 4, none)), (yX12_readPart, cX12_readPart, (12, 3, (some .int))), (yX12_readPlain, cX12_readPlain, (12, 1, (some .int))), (yX12_behindSum, cX12_behindSum, (12, 4, (some .int))), (yX12_behindTest, cX12_behindTest, (12, 2, (some .int))), (yX12_readExpression, cX12_readExpression, (12, 3, none)), (yX12_readClause, cX12_readClause, (12, 4, none)), (yX12_law, cX12_law, (12, 3, (some .int))), (yX12_force, cX12_force, (12, 3, (some .int))), (yX12_reckon, cX12_reckon, (12, 6, (some .long))), (yX12_reckonAll, cX12_reckonAll, (12, 7, none)), (yX12_isSo, cX12_isSo, (12, 2, (some .boolean))), (yX12_copies, cX12_copies, (12, 1, (some .int))), (yX12_load, cX12_load, (12, 2, none)), (yX12_shift, cX12_shift, (12, 3, none))] : List (MethodName × ByteArray × Nat × Nat × Option FieldType)) ++ (([(yX12_tells, cX12_tells, (12, 14, (some .long))), (yX12_within, cX12_within, (12, 4, (some .int))), (yX12_isBarred, cX12_isBarred, (12, 4, (some .boolean))), (yX12_pays, cX12_pays, (12, 3, (some .int))), (yX12_of, cX12_of, (12, 6, (some .int))), (yX12_go, cX12_go, (12, 5, (some .int))), (yX12_lend, cX12_lend, (12, 5, (some .int))), (yX12_home, cX12_home, (12, 4, (some .int))), (yX12_undo, cX12_undo, (12, 2, (some .int))), (yX12_findRow, cX12_findRow, (12, 4, none)), (yX12_live, cX12_live, (12, 4, (some .int))), (yX12_when, cX12_when, (12, 7, (some .int))), (yX12_age, cX12_age, (12, 6, (some .int))), (yX12_wages, cX12_wages, (12, 5, (some .int))), (yX12_hasDay, cX12_hasDay, (12, 5, (some .boolean))), (yX12_gap, cX12_gap, (12, 5, (some .int))), (yX12_owesOf, cX12_owesOf, (12, 5, (some .int))), (yX12_owes, cX12_owes, (12, 3, (some .int))), (yX12_away, cX12_away, (12, 3, (some .int))), (yX12_findRing, cX12_findRing, (12, 3, none)), (yX12_goRound, cX12_goRound, (12, 5, none)), (yX12_keepRing, cX12_keepRing, (12, 4, none)), (yX12_ring, cX12_ring, (12, 2, (some .int))), (yX12_findChains, cX12_findChains, (12, 6, none)), (yX12_chain, cX12_chain, (12, 3, (some .int))), (yX12_aheadOf, cX12_aheadOf, (12, 6, (some .int))), (yX12_isEaster, cX12_isEaster, (12, 8, (some .boolean))), (yX12_findLeast, cX12_findLeast, (12, 6, none)), (yX12_easter, cX12_easter, (12, 3, (some .int))), (yX12_trade, cX12_trade, (12, 9, (some .int)))] : List (MethodName × ByteArray × Nat × Nat × Option FieldType)) ++ (([(yX12_last, cX12_last, (12, 9, (some .int))), (yX12_findPrices, cX12_findPrices, (12, 6, (some .int))), (yX12_price, cX12_price, (12, 3, (some .int))), (yX12_deed, cX12_deed, (12, 5, (some .int))), (yX12_burn, cX12_burn, (12, 3, (some .int))), (yX12_isForged, cX12_isForged, (12, 3, (some .boolean))), (yX12_forged, cX12_forged, (12, 4, (some .int))), (yX12_areTrue, cX12_areTrue, (12, 2, (some .boolean))), (yX12_explains, cX12_explains, (12, 7, (some .int))), (yX12_draw, cX12_draw, (12, 2, (some .int))), (yX12_year, cX12_year, (12, 8, (some .int))), (yX12_drawn, cX12_drawn, (12, 3, (some .int))), (yX12_count, cX12_count, (12, 4, (some .int))), (yX12_status, cX12_status, (12, 1, (some .int))), (yJ6_bitCount_0f7a4, cJ6_bitCount_0f7a4, (13, 1, (some .int))), (yJ7_fill_53178, cJ7_fill_53178, (14, 4, none)), (yJ7_copyOf_59c91, cJ7_copyOf_59c91, (14, 3, (some (.array .int)))), (yL_law, cL_law, (15, 4, (some .boolean)))] : List (MethodName × ByteArray × Nat × Nat × Option FieldType))))))))), mcP q
  exact List.forall_mem_append.mpr ⟨mc_l0, List.forall_mem_append.mpr ⟨mc_l1, List.forall_mem_append.mpr ⟨mc_l2, List.forall_mem_append.mpr ⟨mc_l3, List.forall_mem_append.mpr ⟨mc_l4, List.forall_mem_append.mpr ⟨mc_l5, List.forall_mem_append.mpr ⟨mc_l6, mc_l7⟩⟩⟩⟩⟩⟩⟩
set_option maxRecDepth 100000 in
theorem mc_notL : (List.range 227).all (fun m => decide (mnAll[m]? ≠ some yL_law)) = true := by decide +kernel
theorem mc_all (m : Nat) (h : m < 227) : Cond.code (mnG m) (mbG m) (mxI m).2.1 (mxI m).2.2 ∈ lw_tbl := by
  have h1 : (List.zip mnAll (List.zip mbAll miAll))[m]? = some (mnG m, mbG m, mxI m) := by
    rw [List.getElem?_zip_eq_some]
    refine ⟨?_, ?_⟩
    · show mnAll[m]? = some (mnAll.getD m objectInit); rw [List.getD_eq_getElem?_getD, List.getElem?_eq_getElem (by show m < 228; omega)]; rfl
    · rw [List.getElem?_zip_eq_some]
      refine ⟨?_, ?_⟩
      · show mbAll[m]? = some (mbAll.getD m ⟨#[]⟩); rw [List.getD_eq_getElem?_getD, List.getElem?_eq_getElem (by show m < 228; omega)]; rfl
      · show miAll[m]? = some (miAll.getD m (0, 0, none)); rw [List.getD_eq_getElem?_getD, List.getElem?_eq_getElem (by show m < 228; omega)]; rfl
  rcases mc_list _ (List.mem_of_getElem? h1) with e | e
  · have e0 : mnAll[m]? = some yL_law := by rw [← e]; show mnAll[m]? = some (mnAll.getD m objectInit); rw [List.getD_eq_getElem?_getD, List.getElem?_eq_getElem (by show m < 228; omega)]; rfl
    have := List.all_eq_true.mp mc_notL m (List.mem_range.mpr h)
    rw [e0] at this
    exact absurd rfl (of_decide_eq_true this)
  · exact e
