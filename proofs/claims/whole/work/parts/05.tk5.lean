theorem ka_X12_open : cd_X12_open.1.all (fun e => mm_okB mm_mth mm_nest (yX12_open, cX12_open, 2, none) e) = true := by decide +kernel
theorem kb_X12_open : GoodIn lw_tbl (cd_X12_open.1.flatMap (fun e => mm_wdE mm_mth yX12_open.cls e)) := goodIn_r _ [1286, 1275, 1276, 1277, 1280, 1281] (by decide +kernel) (by decide +kernel)
theorem ka_X12_atEnd : cd_X12_atEnd.1.all (fun e => mm_okB mm_mth mm_nest (yX12_atEnd, cX12_atEnd, 1, (some .int)) e) = true := by decide +kernel
theorem kb_X12_atEnd : GoodIn lw_tbl (cd_X12_atEnd.1.flatMap (fun e => mm_wdE mm_mth yX12_atEnd.cls e)) := goodIn_r _ [1276, 1437, 1439, 56, 131, 1465, 1467, 60, 131, 1276] (by decide +kernel) (by decide +kernel)
theorem ka_X12_readLaw : cd_X12_readLaw.1.all (fun e => mm_okB mm_mth mm_nest (yX12_readLaw, cX12_readLaw, 2, (some .int)) e) = true := by decide +kernel
theorem kb_X12_readLaw : GoodIn lw_tbl (cd_X12_readLaw.1.flatMap (fun e => mm_wdE mm_mth yX12_readLaw.cls e)) := goodIn_r _ [1476, 1478, 62, 131, 1480, 1482, 63, 131, 1276, 1437, 1439, 56, 131, 1275, 1275, 1480, 1482, 63, 131, 1538, 1540, 76, 131] (by decide +kernel) (by decide +kernel)
theorem ka_X12_bounded : cd_X12_bounded.1.all (fun e => mm_okB mm_mth mm_nest (yX12_bounded, cX12_bounded, 2, (some .int)) e) = true := by decide +kernel
theorem kb_X12_bounded : GoodIn lw_tbl (cd_X12_bounded.1.flatMap (fun e => mm_wdE mm_mth yX12_bounded.cls e)) := goodIn_r _ [1620, 1621, 1622, 802, 133, 1623, 805, 133] (by decide +kernel) (by decide +kernel)
theorem ka_X12_worked : cd_X12_worked.1.all (fun e => mm_okB mm_mth mm_nest (yX12_worked, cX12_worked, 5, (some .int)) e) = true := by decide +kernel
theorem kb_X12_worked : GoodIn lw_tbl (cd_X12_worked.1.flatMap (fun e => mm_wdE mm_mth yX12_worked.cls e)) := goodIn_r _ [1617, 1618, 131, 1617, 1618, 131, 1617, 1618, 131, 1617, 1618, 131] (by decide +kernel) (by decide +kernel)
theorem ka_X12_workOut : cd_X12_workOut.1.all (fun e => mm_okB mm_mth mm_nest (yX12_workOut, cX12_workOut, 6, (some .int)) e) = true := by decide +kernel
theorem kb_X12_workOut : GoodIn lw_tbl (cd_X12_workOut.1.flatMap (fun e => mm_wdE mm_mth yX12_workOut.cls e)) := goodIn_r _ [1278, 1278, 1288, 1278, 1279, 1287, 1279, 1278, 1288, 1288, 1288, 1278, 1288, 1288, 1614, 1615, 131, 1288] (by decide +kernel) (by decide +kernel)
theorem ka_X12_worthOf : cd_X12_worthOf.1.all (fun e => mm_okB mm_mth mm_nest (yX12_worthOf, cX12_worthOf, 3, (some .int)) e) = true := by decide +kernel
theorem kb_X12_worthOf : GoodIn lw_tbl (cd_X12_worthOf.1.flatMap (fun e => mm_wdE mm_mth yX12_worthOf.cls e)) := goodIn_r _ [1281, 1282, 1283, 1282, 1283, 1610, 1612, 88, 131, 1283, 1284, 1610, 1612, 88, 131] (by decide +kernel) (by decide +kernel)
theorem ka_X12_number : cd_X12_number.1.all (fun e => mm_okB mm_mth mm_nest (yX12_number, cX12_number, 4, (some .int)) e) = true := by decide +kernel
theorem kb_X12_number : GoodIn lw_tbl (cd_X12_number.1.flatMap (fun e => mm_wdE mm_mth yX12_number.cls e)) := goodIn_r _ [1437, 1439, 56, 131, 1462, 1463, 131, 1465, 1467, 60, 131, 1441, 1443, 57, 131, 1275, 1275, 1441, 1443, 57, 131, 1462, 1463, 131, 1441, 1443, 57, 131, 1275, 1275, 1441, 1443, 57, 131, 1462, 1463, 131, 1465, 1467, 60, 131, 1469, 1470, 131, 1275, 1275, 1465, 1467, 60, 131] (by decide +kernel) (by decide +kernel)
theorem ka_X12_itemOf : cd_X12_itemOf.1.all (fun e => mm_okB mm_mth mm_nest (yX12_itemOf, cX12_itemOf, 2, (some .int)) e) = true := by decide +kernel
theorem kb_X12_itemOf : GoodIn lw_tbl (cd_X12_itemOf.1.flatMap (fun e => mm_wdE mm_mth yX12_itemOf.cls e)) := goodIn_r _ [] (by decide +kernel) (by decide +kernel)
theorem ka_X12_highest : cd_X12_highest.1.all (fun e => mm_okB mm_mth mm_nest (yX12_highest, cX12_highest, 2, (some .int)) e) = true := by decide +kernel
theorem kb_X12_highest : GoodIn lw_tbl (cd_X12_highest.1.flatMap (fun e => mm_wdE mm_mth yX12_highest.cls e)) := goodIn_r _ [] (by decide +kernel) (by decide +kernel)
theorem ka_X12_usual : cd_X12_usual.1.all (fun e => mm_okB mm_mth mm_nest (yX12_usual, cX12_usual, 2, (some .int)) e) = true := by decide +kernel
theorem kb_X12_usual : GoodIn lw_tbl (cd_X12_usual.1.flatMap (fun e => mm_wdE mm_mth yX12_usual.cls e)) := goodIn_r _ [] (by decide +kernel) (by decide +kernel)
theorem ka_X12_items : cd_X12_items.1.all (fun e => mm_okB mm_mth mm_nest (yX12_items, cX12_items, 7, none) e) = true := by decide +kernel
theorem kb_X12_items : GoodIn lw_tbl (cd_X12_items.1.flatMap (fun e => mm_wdE mm_mth yX12_items.cls e)) := goodIn_r _ [1434, 1435, 131, 1437, 1439, 56, 131, 1449, 1450, 131, 1276, 1452, 1453, 131, 1275, 1275, 1455, 1456, 131, 1458, 1460, 59, 131, 1276, 1437, 1439, 56, 131, 1449, 1450, 131] (by decide +kernel) (by decide +kernel)
theorem ka_X12_readDuchy : cd_X12_readDuchy.1.all (fun e => mm_okB mm_mth mm_nest (yX12_readDuchy, cX12_readDuchy, 4, (some .int)) e) = true := by decide +kernel
theorem kb_X12_readDuchy : GoodIn lw_tbl (cd_X12_readDuchy.1.flatMap (fun e => mm_wdE mm_mth yX12_readDuchy.cls e)) := goodIn_r _ [1275, 1276, 1292, 1293, 1289, 1434, 1435, 131, 1276, 1437, 1439, 56, 131, 1275, 1275, 1289, 1445, 1447, 58, 131, 1292, 1275, 1275, 1290, 1292, 1445, 1447, 58, 131, 1292, 1292, 1293, 1275, 1275, 1291, 1293, 1445, 1447, 58, 131, 1293, 1293, 1465, 1467, 60, 131, 1276, 1437, 1439, 56, 131, 1275, 1275, 1276, 1437, 1439, 56, 131, 1292, 1293, 1465, 1467, 60, 131, 1276] (by decide +kernel) (by decide +kernel)
theorem ka_X12_fault : cd_X12_fault.1.all (fun e => mm_okB mm_mth mm_nest (yX12_fault, cX12_fault, 2, (some .int)) e) = true := by decide +kernel
theorem kb_X12_fault : GoodIn lw_tbl (cd_X12_fault.1.flatMap (fun e => mm_wdE mm_mth yX12_fault.cls e)) := goodIn_r _ [1430, 1432, 55, 131, 1472, 1474, 61, 131] (by decide +kernel) (by decide +kernel)
theorem ka_X12_takeDuchy : cd_X12_takeDuchy.1.all (fun e => mm_okB mm_mth mm_nest (yX12_takeDuchy, cX12_takeDuchy, 2, (some .int)) e) = true := by decide +kernel
theorem kb_X12_takeDuchy : GoodIn lw_tbl (cd_X12_takeDuchy.1.flatMap (fun e => mm_wdE mm_mth yX12_takeDuchy.cls e)) := goodIn_r _ [1292, 1297, 1293, 1298, 1294, 1289, 1295, 1290, 1296, 1291, 1299, 1297, 1299, 1295, 1299, 1294, 1299, 1294, 1315, 1304, 1317, 1298] (by decide +kernel) (by decide +kernel)
theorem ka_X12_text : cd_X12_text.1.all (fun e => mm_okB mm_mth mm_nest (yX12_text, cX12_text, 2, (some .int)) e) = true := by decide +kernel
theorem kb_X12_text : GoodIn lw_tbl (cd_X12_text.1.flatMap (fun e => mm_wdE mm_mth yX12_text.cls e)) := goodIn_r _ [1430, 1432, 55, 131, 1274, 1546, 1548, 77, 131, 1285, 1285, 1472, 1474, 61, 131, 1274, 1285, 1285, 1285] (by decide +kernel) (by decide +kernel)
theorem ka_X12_of : cd_X12_of.1.all (fun e => mm_okB mm_mth mm_nest (yX12_of, cX12_of, 3, (some .int)) e) = true := by decide +kernel
theorem kb_X12_of : GoodIn lw_tbl (cd_X12_of.1.flatMap (fun e => mm_wdE mm_mth yX12_of.cls e)) := goodIn_r _ [1296] (by decide +kernel) (by decide +kernel)
theorem ka_X12_isCook : cd_X12_isCook.1.all (fun e => mm_okB mm_mth mm_nest (yX12_isCook, cX12_isCook, 2, (some .boolean)) e) = true := by decide +kernel
theorem kb_X12_isCook : GoodIn lw_tbl (cd_X12_isCook.1.flatMap (fun e => mm_wdE mm_mth yX12_isCook.cls e)) := goodIn_r _ [1297, 1469, 1470, 131] (by decide +kernel) (by decide +kernel)
theorem ka_X12_isMinister : cd_X12_isMinister.1.all (fun e => mm_okB mm_mth mm_nest (yX12_isMinister, cX12_isMinister, 2, (some .boolean)) e) = true := by decide +kernel
theorem kb_X12_isMinister : GoodIn lw_tbl (cd_X12_isMinister.1.flatMap (fun e => mm_wdE mm_mth yX12_isMinister.cls e)) := goodIn_r _ [1298, 1469, 1470, 131] (by decide +kernel) (by decide +kernel)
theorem ka_X12_leftOf : cd_X12_leftOf.1.all (fun e => mm_okB mm_mth mm_nest (yX12_leftOf, cX12_leftOf, 2, (some .int)) e) = true := by decide +kernel
theorem kb_X12_leftOf : GoodIn lw_tbl (cd_X12_leftOf.1.flatMap (fun e => mm_wdE mm_mth yX12_leftOf.cls e)) := goodIn_r _ [1295, 1299] (by decide +kernel) (by decide +kernel)
theorem ka_X12_held : cd_X12_held.1.all (fun e => mm_okB mm_mth mm_nest (yX12_held, cX12_held, 1, (some .int)) e) = true := by decide +kernel
theorem kb_X12_held : GoodIn lw_tbl (cd_X12_held.1.flatMap (fun e => mm_wdE mm_mth yX12_held.cls e)) := goodIn_r _ [1624, 714, 133, 1625, 559, 133] (by decide +kernel) (by decide +kernel)
theorem ka_X12_strokeBy : cd_X12_strokeBy.1.all (fun e => mm_okB mm_mth mm_nest (yX12_strokeBy, cX12_strokeBy, 6, (some .int)) e) = true := by decide +kernel
theorem kb_X12_strokeBy : GoodIn lw_tbl (cd_X12_strokeBy.1.flatMap (fun e => mm_wdE mm_mth yX12_strokeBy.cls e)) := goodIn_r _ [1294, 1301, 1287, 1287, 1287, 1287, 1287, 1294, 1287, 1294, 1301, 1606, 1608, 87, 131, 1624, 714, 133, 1625, 559, 133, 1626, 1627, 131] (by decide +kernel) (by decide +kernel)
theorem ka_X12_strokeNow : cd_X12_strokeNow.1.all (fun e => mm_okB mm_mth mm_nest (yX12_strokeNow, cX12_strokeNow, 2, none) e) = true := by decide +kernel
theorem kb_X12_strokeNow : GoodIn lw_tbl (cd_X12_strokeNow.1.flatMap (fun e => mm_wdE mm_mth yX12_strokeNow.cls e)) := goodIn_r _ [1299, 1299, 1299, 1299, 1299, 1602, 1604, 86, 131, 1299, 1299] (by decide +kernel) (by decide +kernel)
theorem ka_X12_strokesNow : cd_X12_strokesNow.1.all (fun e => mm_okB mm_mth mm_nest (yX12_strokesNow, cX12_strokesNow, 4, none) e) = true := by decide +kernel
theorem kb_X12_strokesNow : GoodIn lw_tbl (cd_X12_strokesNow.1.flatMap (fun e => mm_wdE mm_mth yX12_strokesNow.cls e)) := goodIn_r _ [1598, 1600, 85, 131] (by decide +kernel) (by decide +kernel)
theorem ka_X12_weightIn : cd_X12_weightIn.1.all (fun e => mm_okB mm_mth mm_nest (yX12_weightIn, cX12_weightIn, 3, (some .int)) e) = true := by decide +kernel
theorem kb_X12_weightIn : GoodIn lw_tbl (cd_X12_weightIn.1.flatMap (fun e => mm_wdE mm_mth yX12_weightIn.cls e)) := goodIn_r _ [1298, 1299, 1452, 1453, 131, 1570, 1572, 80, 131] (by decide +kernel) (by decide +kernel)
theorem ka_X12_worthIn : cd_X12_worthIn.1.all (fun e => mm_okB mm_mth mm_nest (yX12_worthIn, cX12_worthIn, 3, (some .int)) e) = true := by decide +kernel
theorem kb_X12_worthIn : GoodIn lw_tbl (cd_X12_worthIn.1.flatMap (fun e => mm_wdE mm_mth yX12_worthIn.cls e)) := goodIn_r _ [1298, 1299, 1452, 1453, 131, 1570, 1572, 80, 131] (by decide +kernel) (by decide +kernel)
theorem ka_X12_sinks : cd_X12_sinks.1.all (fun e => mm_okB mm_mth mm_nest (yX12_sinks, cX12_sinks, 1, (some .int)) e) = true := by decide +kernel
theorem kb_X12_sinks : GoodIn lw_tbl (cd_X12_sinks.1.flatMap (fun e => mm_wdE mm_mth yX12_sinks.cls e)) := goodIn_r _ [1294, 1669, 1671, 95, 131, 1299, 1625, 559, 133] (by decide +kernel) (by decide +kernel)
theorem ka_X12_mayFall : cd_X12_mayFall.1.all (fun e => mm_okB mm_mth mm_nest (yX12_mayFall, cX12_mayFall, 1, none) e) = true := by decide +kernel
theorem kb_X12_mayFall : GoodIn lw_tbl (cd_X12_mayFall.1.flatMap (fun e => mm_wdE mm_mth yX12_mayFall.cls e)) := goodIn_r _ [1299, 1299, 1299, 1299] (by decide +kernel) (by decide +kernel)
theorem ka_X12_doorNow : cd_X12_doorNow.1.all (fun e => mm_okB mm_mth mm_nest (yX12_doorNow, cX12_doorNow, 1, none) e) = true := by decide +kernel
theorem kb_X12_doorNow : GoodIn lw_tbl (cd_X12_doorNow.1.flatMap (fun e => mm_wdE mm_mth yX12_doorNow.cls e)) := goodIn_r _ [1299, 1653, 1655, 92, 131] (by decide +kernel) (by decide +kernel)
theorem ka_X12_hourNow : cd_X12_hourNow.1.all (fun e => mm_okB mm_mth mm_nest (yX12_hourNow, cX12_hourNow, 1, none) e) = true := by decide +kernel
theorem kb_X12_hourNow : GoodIn lw_tbl (cd_X12_hourNow.1.flatMap (fun e => mm_wdE mm_mth yX12_hourNow.cls e)) := goodIn_r _ [1299, 1299, 1665, 1667, 94, 131, 1626, 1627, 131, 1653, 1655, 92, 131] (by decide +kernel) (by decide +kernel)
theorem ka_X12_canFold : cd_X12_canFold.1.all (fun e => mm_okB mm_mth mm_nest (yX12_canFold, cX12_canFold, 2, (some .boolean)) e) = true := by decide +kernel
theorem kb_X12_canFold : GoodIn lw_tbl (cd_X12_canFold.1.flatMap (fun e => mm_wdE mm_mth yX12_canFold.cls e)) := goodIn_r _ [1299, 1452, 1453, 131, 1299, 1570, 1572, 80, 131] (by decide +kernel) (by decide +kernel)
theorem ka_X12_foldNow : cd_X12_foldNow.1.all (fun e => mm_okB mm_mth mm_nest (yX12_foldNow, cX12_foldNow, 2, none) e) = true := by decide +kernel
theorem kb_X12_foldNow : GoodIn lw_tbl (cd_X12_foldNow.1.flatMap (fun e => mm_wdE mm_mth yX12_foldNow.cls e)) := goodIn_r _ [1299, 1299, 1299, 1570, 1572, 80, 131, 1626, 1627, 131] (by decide +kernel) (by decide +kernel)
theorem ka_X12_rule : cd_X12_rule.1.all (fun e => mm_okB mm_mth mm_nest (yX12_rule, cX12_rule, 2, (some .int)) e) = true := by decide +kernel
theorem kb_X12_rule : GoodIn lw_tbl (cd_X12_rule.1.flatMap (fun e => mm_wdE mm_mth yX12_rule.cls e)) := goodIn_r _ [1298, 1469, 1470, 131, 1299, 1299, 1294] (by decide +kernel) (by decide +kernel)
theorem ka_X12_cook : cd_X12_cook.1.all (fun e => mm_okB mm_mth mm_nest (yX12_cook, cX12_cook, 3, (some .int)) e) = true := by decide +kernel
theorem kb_X12_cook : GoodIn lw_tbl (cd_X12_cook.1.flatMap (fun e => mm_wdE mm_mth yX12_cook.cls e)) := goodIn_r _ [1558, 1560, 78, 131, 1469, 1470, 131, 1299, 1295, 1299] (by decide +kernel) (by decide +kernel)
theorem ka_X12_minister : cd_X12_minister.1.all (fun e => mm_okB mm_mth mm_nest (yX12_minister, cX12_minister, 3, (some .int)) e) = true := by decide +kernel
theorem kb_X12_minister : GoodIn lw_tbl (cd_X12_minister.1.flatMap (fun e => mm_wdE mm_mth yX12_minister.cls e)) := goodIn_r _ [1566, 1568, 79, 131, 1469, 1470, 131, 1272, 1272, 1570, 1572, 80, 131, 1299] (by decide +kernel) (by decide +kernel)
theorem ka_X12_law : cd_X12_law.1.all (fun e => mm_okB mm_mth mm_nest (yX12_law, cX12_law, 2, (some .boolean)) e) = true := by decide +kernel
theorem kb_X12_law : GoodIn lw_tbl (cd_X12_law.1.flatMap (fun e => mm_wdE mm_mth yX12_law.cls e)) := goodIn_r _ [1285, 1469, 1470, 131, 1301] (by decide +kernel) (by decide +kernel)
theorem ka_X12_keep : cd_X12_keep.1.all (fun e => mm_okB mm_mth mm_nest (yX12_keep, cX12_keep, 2, none) e) = true := by decide +kernel
theorem kb_X12_keep : GoodIn lw_tbl (cd_X12_keep.1.flatMap (fun e => mm_wdE mm_mth yX12_keep.cls e)) := goodIn_r _ [1304, 1303, 1303, 1304, 1304, 1303, 1304, 1299, 1304, 1304] (by decide +kernel) (by decide +kernel)
theorem ka_X12_isRefused : cd_X12_isRefused.1.all (fun e => mm_okB mm_mth mm_nest (yX12_isRefused, cX12_isRefused, 2, (some .boolean)) e) = true := by decide +kernel
theorem kb_X12_isRefused : GoodIn lw_tbl (cd_X12_isRefused.1.flatMap (fun e => mm_wdE mm_mth yX12_isRefused.cls e)) := goodIn_r _ [1300] (by decide +kernel) (by decide +kernel)
theorem ka_X12_strokes : cd_X12_strokes.1.all (fun e => mm_okB mm_mth mm_nest (yX12_strokes, cX12_strokes, 3, (some .int)) e) = true := by decide +kernel
theorem kb_X12_strokes : GoodIn lw_tbl (cd_X12_strokes.1.flatMap (fun e => mm_wdE mm_mth yX12_strokes.cls e)) := goodIn_r _ [1558, 1560, 78, 131, 1469, 1470, 131, 1582, 1584, 81, 131, 1586, 1588, 82, 131, 1590, 1592, 83, 131, 1594, 1596, 84, 131, 1299] (by decide +kernel) (by decide +kernel)
theorem ka_X12_fold : cd_X12_fold.1.all (fun e => mm_okB mm_mth mm_nest (yX12_fold, cX12_fold, 2, (some .int)) e) = true := by decide +kernel
theorem kb_X12_fold : GoodIn lw_tbl (cd_X12_fold.1.flatMap (fun e => mm_wdE mm_mth yX12_fold.cls e)) := goodIn_r _ [1566, 1568, 79, 131, 1299, 1452, 1453, 131, 1633, 1635, 89, 131, 1586, 1588, 82, 131, 1590, 1592, 83, 131, 1637, 1639, 90, 131, 1299] (by decide +kernel) (by decide +kernel)
theorem ka_X12_sugar : cd_X12_sugar.1.all (fun e => mm_okB mm_mth mm_nest (yX12_sugar, cX12_sugar, 1, (some .int)) e) = true := by decide +kernel
theorem kb_X12_sugar : GoodIn lw_tbl (cd_X12_sugar.1.flatMap (fun e => mm_wdE mm_mth yX12_sugar.cls e)) := goodIn_r _ [1298, 1299, 1299, 1586, 1588, 82, 131, 1590, 1592, 83, 131, 1299, 1299, 1299] (by decide +kernel) (by decide +kernel)
theorem ka_X12_door : cd_X12_door.1.all (fun e => mm_okB mm_mth mm_nest (yX12_door, cX12_door, 1, (some .int)) e) = true := by decide +kernel
theorem kb_X12_door : GoodIn lw_tbl (cd_X12_door.1.flatMap (fun e => mm_wdE mm_mth yX12_door.cls e)) := goodIn_r _ [1298, 1586, 1588, 82, 131, 1590, 1592, 83, 131, 1649, 1651, 91, 131, 1299] (by decide +kernel) (by decide +kernel)
theorem ka_X12_hours : cd_X12_hours.1.all (fun e => mm_okB mm_mth mm_nest (yX12_hours, cX12_hours, 3, (some .int)) e) = true := by decide +kernel
theorem kb_X12_hours : GoodIn lw_tbl (cd_X12_hours.1.flatMap (fun e => mm_wdE mm_mth yX12_hours.cls e)) := goodIn_r _ [1298, 1469, 1470, 131, 1586, 1588, 82, 131, 1590, 1592, 83, 131, 1661, 1663, 93, 131, 1299] (by decide +kernel) (by decide +kernel)
theorem ka_X12_practise : cd_X12_practise.1.all (fun e => mm_okB mm_mth mm_nest (yX12_practise, cX12_practise, 2, (some .int)) e) = true := by decide +kernel
theorem kb_X12_practise : GoodIn lw_tbl (cd_X12_practise.1.flatMap (fun e => mm_wdE mm_mth yX12_practise.cls e)) := goodIn_r _ [1558, 1560, 78, 131, 1299, 1299, 1586, 1588, 82, 131, 1590, 1592, 83, 131, 1299, 1299, 1299] (by decide +kernel) (by decide +kernel)
theorem ka_X12_yolk : cd_X12_yolk.1.all (fun e => mm_okB mm_mth mm_nest (yX12_yolk, cX12_yolk, 1, (some .int)) e) = true := by decide +kernel
theorem kb_X12_yolk : GoodIn lw_tbl (cd_X12_yolk.1.flatMap (fun e => mm_wdE mm_mth yX12_yolk.cls e)) := goodIn_r _ [1298, 1299, 1299, 1586, 1588, 82, 131, 1590, 1592, 83, 131, 1299, 1299, 1299] (by decide +kernel) (by decide +kernel)
theorem ka_X12_give : cd_X12_give.1.all (fun e => mm_okB mm_mth mm_nest (yX12_give, cX12_give, 2, (some .int)) e) = true := by decide +kernel
theorem kb_X12_give : GoodIn lw_tbl (cd_X12_give.1.flatMap (fun e => mm_wdE mm_mth yX12_give.cls e)) := goodIn_r _ [1298, 1469, 1470, 131, 1299, 1586, 1588, 82, 131, 1590, 1592, 83, 131, 1299, 1299] (by decide +kernel) (by decide +kernel)
theorem ka_X12_passDay : cd_X12_passDay.1.all (fun e => mm_okB mm_mth mm_nest (yX12_passDay, cX12_passDay, 3, none) e) = true := by decide +kernel
theorem kb_X12_passDay : GoodIn lw_tbl (cd_X12_passDay.1.flatMap (fun e => mm_wdE mm_mth yX12_passDay.cls e)) := goodIn_r _ [1299, 1299, 1697, 1699, 98, 131, 1624, 714, 133, 1299, 1299, 1624, 714, 133, 1299, 1299, 1299, 1299, 1299, 1299, 1299, 1299, 1299, 1299, 1299, 1299, 1299, 1299, 1299, 1299, 1297, 1299, 1299] (by decide +kernel) (by decide +kernel)
theorem ka_X12_areDays : cd_X12_areDays.1.all (fun e => mm_okB mm_mth mm_nest (yX12_areDays, cX12_areDays, 2, (some .boolean)) e) = true := by decide +kernel
theorem kb_X12_areDays : GoodIn lw_tbl (cd_X12_areDays.1.flatMap (fun e => mm_wdE mm_mth yX12_areDays.cls e)) := goodIn_r _ [1469, 1470, 131, 1299] (by decide +kernel) (by decide +kernel)
theorem ka_X12_days : cd_X12_days.1.all (fun e => mm_okB mm_mth mm_nest (yX12_days, cX12_days, 3, (some .int)) e) = true := by decide +kernel
theorem kb_X12_days : GoodIn lw_tbl (cd_X12_days.1.flatMap (fun e => mm_wdE mm_mth yX12_days.cls e)) := goodIn_r _ [1298, 1469, 1470, 131, 1689, 1691, 96, 131, 1586, 1588, 82, 131, 1590, 1592, 83, 131, 1693, 1695, 97, 131, 1299] (by decide +kernel) (by decide +kernel)
theorem ka_X12_draught : cd_X12_draught.1.all (fun e => mm_okB mm_mth mm_nest (yX12_draught, cX12_draught, 2, (some .boolean)) e) = true := by decide +kernel
theorem kb_X12_draught : GoodIn lw_tbl (cd_X12_draught.1.flatMap (fun e => mm_wdE mm_mth yX12_draught.cls e)) := goodIn_r _ [1469, 1470, 131, 1302, 1302] (by decide +kernel) (by decide +kernel)
theorem ka_X12_draw : cd_X12_draw.1.all (fun e => mm_okB mm_mth mm_nest (yX12_draw, cX12_draw, 2, (some .int)) e) = true := by decide +kernel
theorem kb_X12_draw : GoodIn lw_tbl (cd_X12_draw.1.flatMap (fun e => mm_wdE mm_mth yX12_draw.cls e)) := goodIn_r _ [1305, 1717, 1718, 1305, 1305] (by decide +kernel) (by decide +kernel)
