def nests : List (String × Nat × MethodName) := [("BorrowedDays$State", 39, ⟨"BorrowedDays$Loans", "<init>", "()V"⟩), ("BorrowedDays$State", 46, ⟨"BorrowedDays$Deeds", "<init>", "()V"⟩), ("BorrowedDays", 26, ⟨"BorrowedDays$Reader", "<init>", "()V"⟩), ("BorrowedDays$Reader", 17, ⟨"BorrowedDays$Tape", "<init>", "()V"⟩), ("BorrowedDays", 40, ⟨"BorrowedDays$Judge", "<init>", "()V"⟩), ("BorrowedDays", 47, ⟨"BorrowedDays$Calendar", "<init>", "()V"⟩), ("BorrowedDays", 54, ⟨"BorrowedDays$Feast", "<init>", "()V"⟩), ("BorrowedDays", 61, ⟨"BorrowedDays$Circle", "<init>", "()V"⟩), ("BorrowedDays", 68, ⟨"BorrowedDays$Paper", "<init>", "()V"⟩)]
def mpAll : List (List (Nat × Nat × Nat)) := [[(296, 0, 0), (764, 678, 0), (769, 770, 771)],
  [(335, 0, 0), (827, 828, 0), (830, 831, 0), (836, 838, 33), (840, 842, 34)],
  [(158, 0, 0), (946, 770, 771), (1006, 0, 0)],
  [(306, 0, 0), (856, 787, 788), (857, 770, 771), (858, 859, 0), (865, 766, 767), (866, 867, 868), (870, 872, 36), (874, 0, 0), (879, 831, 0), (893, 895, 37)],
  [(277, 0, 0), (673, 675, 24), (677, 678, 0), (680, 682, 25), (684, 686, 26), (688, 690, 27), (692, 693, 694), (696, 0, 0), (697, 699, 28), (701, 703, 29), (705, 707, 30), (709, 711, 31), (715, 0, 0), (718, 720, 32), (921, 766, 767)],
  [(637, 0, 0)],
  [(133, 0, 0), (738, 0, 0), (755, 0, 0), (1001, 0, 0)],
  [(353, 0, 0), (967, 0, 0), (968, 666, 667), (973, 975, 41), (980, 670, 671)],
  [(227, 0, 0), (470, 472, 2), (474, 476, 3), (478, 480, 4), (482, 484, 5), (487, 489, 6), (0, 0, 0), (0, 0, 0), (543, 545, 7), (547, 549, 8), (551, 553, 9), (555, 557, 10), (559, 561, 11), (563, 565, 12), (567, 569, 13), (571, 573, 14), (575, 0, 0), (578, 580, 15), (591, 593, 16), (595, 597, 17), (599, 601, 18), (604, 606, 19), (608, 610, 20), (613, 615, 21), (0, 231, 0)],
  [(125, 0, 0), (734, 735, 736), (751, 752, 753), (996, 0, 0), (997, 998, 999), (1002, 1003, 1004), (0, 131, 0), (0, 156, 0)],
  [(233, 0, 0)],
  [(117, 0, 0), (122, 123, 0), (420, 421, 422), (424, 426, 0), (428, 430, 1), (432, 433, 0), (439, 440, 0), (446, 447, 448), (466, 467, 468), (620, 621, 0), (634, 635, 0), (656, 658, 22), (661, 663, 23), (665, 666, 667), (669, 670, 671), (722, 723, 724), (730, 731, 732), (747, 748, 749), (760, 761, 762), (765, 766, 767), (773, 774, 775), (777, 770, 771), (778, 779, 780), (786, 787, 788), (794, 0, 0), (795, 0, 0), (808, 809, 810), (816, 817, 0), (823, 824, 825), (848, 850, 35), (852, 853, 854), (861, 862, 863), (875, 876, 877), (881, 882, 883), (889, 890, 891), (905, 907, 38), (913, 915, 39), (917, 918, 919), (926, 927, 928), (934, 935, 936), (942, 943, 944), (951, 953, 40), (955, 956, 0), (963, 964, 965), (969, 970, 971), (989, 990, 0), (992, 993, 994), (1015, 1016, 1017), (0, 225, 0), (0, 275, 0), (0, 294, 0), (0, 304, 0), (0, 333, 0), (0, 351, 0)],
  [(1028, 0, 0), (1207, 1208, 0), (1210, 1212, 42), (1224, 1226, 43), (1232, 1233, 0), (1248, 1250, 44), (1264, 1266, 45), (1268, 1270, 46), (1272, 1273, 0), (1275, 1276, 0), (1284, 1286, 47), (1288, 1290, 48), (1292, 1294, 49), (1296, 1298, 50), (1300, 1302, 51), (1305, 1307, 52), (1309, 1311, 53), (1313, 1315, 54), (1317, 1319, 55), (1321, 1323, 56), (1326, 1328, 57), (1330, 1332, 58), (1334, 1336, 59), (1338, 1339, 0), (1341, 1343, 60), (1345, 1347, 61), (1349, 1351, 62), (1357, 1359, 63), (1372, 1374, 64), (1376, 1378, 65), (1382, 1384, 66), (1386, 1388, 67), (1390, 1392, 68), (1394, 1396, 69), (1398, 1400, 70), (1402, 1404, 71), (1406, 1408, 72), (1412, 1413, 0), (1415, 1417, 73), (1423, 1425, 74), (1439, 1441, 75), (1460, 1462, 76), (1468, 1470, 77), (1480, 1482, 78), (1484, 1486, 79), (1488, 1489, 0), (1491, 1493, 80), (1499, 1501, 81), (1507, 1509, 82), (1511, 1513, 83), (1515, 1517, 84), (1528, 1530, 85), (1537, 1539, 86), (1554, 1556, 87), (1563, 1565, 88), (1572, 1574, 89)],
  [],
  [(630, 0, 0), (631, 0, 0)],
  [(114, 115, 0), (416, 417, 418), (435, 436, 437), (442, 443, 444), (450, 451, 452), (454, 455, 456), (458, 459, 460), (462, 463, 464), (644, 645, 646), (648, 649, 650), (652, 653, 654), (726, 727, 728), (739, 740, 741), (743, 744, 745), (756, 757, 758), (782, 783, 784), (790, 791, 792), (796, 797, 798), (800, 801, 802), (804, 805, 806), (812, 813, 814), (819, 820, 821), (844, 845, 846), (885, 886, 887), (897, 898, 899), (901, 902, 903), (909, 910, 911), (922, 923, 924), (930, 931, 932), (938, 939, 940), (947, 948, 949), (958, 959, 960), (981, 982, 983), (985, 986, 987), (1007, 1008, 1009), (1011, 1012, 1013), (1019, 1020, 1021), (1025, 1026, 0), (1203, 1204, 1205), (1214, 1215, 1216), (1218, 1219, 1220), (1228, 1229, 1230), (1236, 1237, 1238), (1240, 1241, 1242), (1244, 1245, 1246), (1252, 1253, 1254), (1256, 1257, 1258), (1260, 1261, 1262), (1364, 1365, 1366), (1368, 1369, 1370), (1419, 1420, 1421), (1427, 1428, 1429), (1431, 1432, 1433), (1435, 1436, 1437), (1443, 1444, 1445), (1447, 1448, 1449), (1452, 1453, 1454), (1456, 1457, 1458), (1464, 1465, 1466), (1472, 1473, 1474), (1476, 1477, 1478), (1495, 1496, 1497), (1503, 1504, 1505), (1520, 1521, 1522), (1524, 1525, 1526), (1532, 1533, 1534), (1541, 1542, 1543), (1546, 1547, 1548), (1550, 1551, 1552), (1558, 1559, 1560), (1567, 1568, 1569), (1579, 1580, 1581), (1583, 1584, 1585), (1587, 1588, 1589)]]
def mlOK (o : Nat) (z : (Nat × Nat × Nat × Nat) × (Nat × Nat × Nat)) : Bool :=
  (z.1.2.1 == 3 && lwAt z.2.1 (Cond.methodLink (owAll.getD o "") z.1.1 objectInit)) || (z.1.2.1 == 4 && lwAt z.2.1 (Cond.methodLink (owAll.getD o "") z.1.1 arraycopyName)) || ((z.1.2.1 == 5 || z.1.2.1 == 6) && o == 8) || (z.1.2.1 == 7 && lwAt z.2.1 (Cond.methodLink (owAll.getD o "") z.1.1 Lib.Math.max.name)) || (z.1.2.1 == 8 && lwAt z.2.1 (Cond.methodLink (owAll.getD o "") z.1.1 Lib.Math.min.name)) ||
  (decide (z.1.2.2.1 < 227) && decide ((parseMethodDescriptor (mnG z.1.2.2.1).desc).map (fun d => d.parameters.length) = some z.1.2.2.2) &&
   ((z.1.2.1 == 0 && lwAt z.2.2.1 (Cond.static (mnG z.1.2.2.1)) && lwAt z.2.1 (Cond.methodLink (owAll.getD o "") z.1.1 (mnG z.1.2.2.1))) ||
    (z.1.2.1 == 1 && lwAt z.2.2.1 (Cond.instanceMethod (mnG z.1.2.2.1)) && lwAt z.2.2.2 (Cond.selects (mnG z.1.2.2.1).cls (mnG z.1.2.2.1) (mnG z.1.2.2.1)) && lwAt z.2.1 (Cond.methodLink (owAll.getD o "") z.1.1 (mnG z.1.2.2.1))) ||
    (z.1.2.1 == 2 && decide ((mnG z.1.2.2.1).name = "<init>") && decide ((mxI z.1.2.2.1).2.2 = none) && lwAt z.2.2.1 (Cond.instanceMethod (mnG z.1.2.2.1)) && lwAt z.2.1 (Cond.methodLink (owAll.getD o "") z.1.1 (mnG z.1.2.2.1))) ||
    (z.1.2.1 == 12 && decide ((mnG z.1.2.2.1).name = "<init>") && decide ((mxI z.1.2.2.1).2.2 = none) && lwAt z.2.2.1 (Cond.instanceMethod (mnG z.1.2.2.1)) && decide ((owAll.getD o "", z.1.1, mnG z.1.2.2.1) ∈ nests))))
set_option maxRecDepth 100000 in
theorem ml_0 : (List.zip (mlAll.getD 0 []) (mpAll.getD 0 [])).all (mlOK 0) = true := by decide +kernel
set_option maxRecDepth 100000 in
theorem ml_1 : (List.zip (mlAll.getD 1 []) (mpAll.getD 1 [])).all (mlOK 1) = true := by decide +kernel
set_option maxRecDepth 100000 in
theorem ml_2 : (List.zip (mlAll.getD 2 []) (mpAll.getD 2 [])).all (mlOK 2) = true := by decide +kernel
set_option maxRecDepth 100000 in
theorem ml_3 : (List.zip (mlAll.getD 3 []) (mpAll.getD 3 [])).all (mlOK 3) = true := by decide +kernel
set_option maxRecDepth 100000 in
theorem ml_4 : (List.zip (mlAll.getD 4 []) (mpAll.getD 4 [])).all (mlOK 4) = true := by decide +kernel
set_option maxRecDepth 100000 in
theorem ml_5 : (List.zip (mlAll.getD 5 []) (mpAll.getD 5 [])).all (mlOK 5) = true := by decide +kernel
set_option maxRecDepth 100000 in
theorem ml_6 : (List.zip (mlAll.getD 6 []) (mpAll.getD 6 [])).all (mlOK 6) = true := by decide +kernel
set_option maxRecDepth 100000 in
theorem ml_7 : (List.zip (mlAll.getD 7 []) (mpAll.getD 7 [])).all (mlOK 7) = true := by decide +kernel
set_option maxRecDepth 100000 in
theorem ml_8 : (List.zip (mlAll.getD 8 []) (mpAll.getD 8 [])).all (mlOK 8) = true := by decide +kernel
set_option maxRecDepth 100000 in
theorem ml_9 : (List.zip (mlAll.getD 9 []) (mpAll.getD 9 [])).all (mlOK 9) = true := by decide +kernel
set_option maxRecDepth 100000 in
theorem ml_10 : (List.zip (mlAll.getD 10 []) (mpAll.getD 10 [])).all (mlOK 10) = true := by decide +kernel
set_option maxRecDepth 100000 in
theorem ml_11 : (List.zip (mlAll.getD 11 []) (mpAll.getD 11 [])).all (mlOK 11) = true := by decide +kernel
set_option maxRecDepth 100000 in
theorem ml_12 : (List.zip (mlAll.getD 12 []) (mpAll.getD 12 [])).all (mlOK 12) = true := by decide +kernel
set_option maxRecDepth 100000 in
theorem ml_13 : (List.zip (mlAll.getD 13 []) (mpAll.getD 13 [])).all (mlOK 13) = true := by decide +kernel
set_option maxRecDepth 100000 in
theorem ml_14 : (List.zip (mlAll.getD 14 []) (mpAll.getD 14 [])).all (mlOK 14) = true := by decide +kernel
set_option maxRecDepth 100000 in
theorem ml_15 : (List.zip (mlAll.getD 15 []) (mpAll.getD 15 [])).all (mlOK 15) = true := by decide +kernel
theorem ml_all (o : Nat) : (List.zip (mlAll.getD o []) (mpAll.getD o [])).all (mlOK o) = true := by
  match o with
  | 0 => exact ml_0
  | 1 => exact ml_1
  | 2 => exact ml_2
  | 3 => exact ml_3
  | 4 => exact ml_4
  | 5 => exact ml_5
  | 6 => exact ml_6
  | 7 => exact ml_7
  | 8 => exact ml_8
  | 9 => exact ml_9
  | 10 => exact ml_10
  | 11 => exact ml_11
  | 12 => exact ml_12
  | 13 => exact ml_13
  | 14 => exact ml_14
  | 15 => exact ml_15
  | o + 16 => rfl
theorem ml_len : ∀ o : Nat, (mlAll.getD o []).length = (mpAll.getD o []).length := by
  intro o
  match o with
  | 0 => rfl
  | 1 => rfl
  | 2 => rfl
  | 3 => rfl
  | 4 => rfl
  | 5 => rfl
  | 6 => rfl
  | 7 => rfl
  | 8 => rfl
  | 9 => rfl
  | 10 => rfl
  | 11 => rfl
  | 12 => rfl
  | 13 => rfl
  | 14 => rfl
  | 15 => rfl
  | o + 16 => rfl
