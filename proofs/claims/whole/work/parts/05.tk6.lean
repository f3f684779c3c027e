theorem ka_X12_drawDay : cd_X12_drawDay.1.all (fun e => mm_okB mm_mth mm_nest (yX12_drawDay, cX12_drawDay, 5, none) e) = true := by decide +kernel
theorem kb_X12_drawDay : GoodIn lw_tbl (cd_X12_drawDay.1.flatMap (fun e => mm_wdE mm_mth yX12_drawDay.cls e)) := goodIn_r _ [1297, 1713, 1715, 100, 131, 1713, 1715, 100, 131, 1582, 1584, 81, 131, 1624, 714, 133, 1594, 1596, 84, 131, 1298, 1298, 1713, 1715, 100, 131, 1633, 1635, 89, 131, 1637, 1639, 90, 131, 1713, 1715, 100, 131, 1302, 1649, 1651, 91, 131] (by decide +kernel) (by decide +kernel)
theorem ka_X12_years : cd_X12_years.1.all (fun e => mm_okB mm_mth mm_nest (yX12_years, cX12_years, 5, (some .int)) e) = true := by decide +kernel
theorem kb_X12_years : GoodIn lw_tbl (cd_X12_years.1.flatMap (fun e => mm_wdE mm_mth yX12_years.cls e)) := goodIn_r _ [1298, 1689, 1691, 96, 131, 1305, 1590, 1592, 83, 131, 1709, 1711, 99, 131, 1693, 1695, 97, 131, 1299] (by decide +kernel) (by decide +kernel)
theorem ka_X12_status : cd_X12_status.1.all (fun e => mm_okB mm_mth mm_nest (yX12_status, cX12_status, 2, (some .int)) e) = true := by decide +kernel
theorem kb_X12_status : GoodIn lw_tbl (cd_X12_status.1.flatMap (fun e => mm_wdE mm_mth yX12_status.cls e)) := goodIn_r _ [1469, 1470, 131, 1300] (by decide +kernel) (by decide +kernel)
theorem ka_X12_undo : cd_X12_undo.1.all (fun e => mm_okB mm_mth mm_nest (yX12_undo, cX12_undo, 2, (some .int)) e) = true := by decide +kernel
theorem kb_X12_undo : GoodIn lw_tbl (cd_X12_undo.1.flatMap (fun e => mm_wdE mm_mth yX12_undo.cls e)) := goodIn_r _ [1304, 1304, 1304, 1299, 1303, 1304, 1304] (by decide +kernel) (by decide +kernel)
theorem ka_X12_log : cd_X12_log.1.all (fun e => mm_okB mm_mth mm_nest (yX12_log, cX12_log, 3, (some .int)) e) = true := by decide +kernel
theorem kb_X12_log : GoodIn lw_tbl (cd_X12_log.1.flatMap (fun e => mm_wdE mm_mth yX12_log.cls e)) := goodIn_r _ [1299, 1469, 1470, 131, 1469, 1470, 131, 1299, 1299] (by decide +kernel) (by decide +kernel)
theorem ka_X12_putAside : cd_X12_putAside.1.all (fun e => mm_okB mm_mth mm_nest (yX12_putAside, cX12_putAside, 3, none) e) = true := by decide +kernel
theorem kb_X12_putAside : GoodIn lw_tbl (cd_X12_putAside.1.flatMap (fun e => mm_wdE mm_mth yX12_putAside.cls e)) := goodIn_r _ [1306, 1299] (by decide +kernel) (by decide +kernel)
theorem ka_X12_takeBack : cd_X12_takeBack.1.all (fun e => mm_okB mm_mth mm_nest (yX12_takeBack, cX12_takeBack, 3, none) e) = true := by decide +kernel
theorem kb_X12_takeBack : GoodIn lw_tbl (cd_X12_takeBack.1.flatMap (fun e => mm_wdE mm_mth yX12_takeBack.cls e)) := goodIn_r _ [1299, 1306] (by decide +kernel) (by decide +kernel)
theorem ka_X12_standsBehind : cd_X12_standsBehind.1.all (fun e => mm_okB mm_mth mm_nest (yX12_standsBehind, cX12_standsBehind, 4, (some .int)) e) = true := by decide +kernel
theorem kb_X12_standsBehind : GoodIn lw_tbl (cd_X12_standsBehind.1.flatMap (fun e => mm_wdE mm_mth yX12_standsBehind.cls e)) := goodIn_r _ [1739, 1741, 102, 131, 1582, 1584, 81, 131, 1624, 714, 133, 1594, 1596, 84, 131, 1299, 1743, 1745, 103, 131] (by decide +kernel) (by decide +kernel)
theorem ka_X12_behind : cd_X12_behind.1.all (fun e => mm_okB mm_mth mm_nest (yX12_behind, cX12_behind, 3, (some .int)) e) = true := by decide +kernel
theorem kb_X12_behind : GoodIn lw_tbl (cd_X12_behind.1.flatMap (fun e => mm_wdE mm_mth yX12_behind.cls e)) := goodIn_r _ [1558, 1560, 78, 131, 1469, 1470, 131, 1735, 1737, 101, 131] (by decide +kernel) (by decide +kernel)
theorem ka_X12_soonestOf : cd_X12_soonestOf.1.all (fun e => mm_okB mm_mth mm_nest (yX12_soonestOf, cX12_soonestOf, 4, (some .int)) e) = true := by decide +kernel
theorem kb_X12_soonestOf : GoodIn lw_tbl (cd_X12_soonestOf.1.flatMap (fun e => mm_wdE mm_mth yX12_soonestOf.cls e)) := goodIn_r _ [1582, 1584, 81, 131, 1735, 1737, 101, 131] (by decide +kernel) (by decide +kernel)
theorem ka_X12_soonest : cd_X12_soonest.1.all (fun e => mm_okB mm_mth mm_nest (yX12_soonest, cX12_soonest, 3, (some .int)) e) = true := by decide +kernel
theorem kb_X12_soonest : GoodIn lw_tbl (cd_X12_soonest.1.flatMap (fun e => mm_wdE mm_mth yX12_soonest.cls e)) := goodIn_r _ [1558, 1560, 78, 131, 1469, 1470, 131, 1751, 1753, 104, 131] (by decide +kernel) (by decide +kernel)
theorem ka_X12_stop : cd_X12_stop.1.all (fun e => mm_okB mm_mth mm_nest (yX12_stop, cX12_stop, 5, (some .int)) e) = true := by decide +kernel
theorem kb_X12_stop : GoodIn lw_tbl (cd_X12_stop.1.flatMap (fun e => mm_wdE mm_mth yX12_stop.cls e)) := goodIn_r _ [1558, 1560, 78, 131, 1469, 1470, 131, 1582, 1584, 81, 131, 1735, 1737, 101, 131, 1735, 1737, 101, 131, 1735, 1737, 101, 131] (by decide +kernel) (by decide +kernel)
theorem ka_X12_best : cd_X12_best.1.all (fun e => mm_okB mm_mth mm_nest (yX12_best, cX12_best, 6, (some .int)) e) = true := by decide +kernel
theorem kb_X12_best : GoodIn lw_tbl (cd_X12_best.1.flatMap (fun e => mm_wdE mm_mth yX12_best.cls e)) := goodIn_r _ [1298, 1469, 1470, 131, 1297, 1751, 1753, 104, 131] (by decide +kernel) (by decide +kernel)
theorem ka_X12_nextOf : cd_X12_nextOf.1.all (fun e => mm_okB mm_mth mm_nest (yX12_nextOf, cX12_nextOf, 3, (some .int)) e) = true := by decide +kernel
theorem kb_X12_nextOf : GoodIn lw_tbl (cd_X12_nextOf.1.flatMap (fun e => mm_wdE mm_mth yX12_nextOf.cls e)) := goodIn_r _ [1582, 1584, 81, 131, 1582, 1584, 81, 131] (by decide +kernel) (by decide +kernel)
theorem ka_X12_byTurns : cd_X12_byTurns.1.all (fun e => mm_okB mm_mth mm_nest (yX12_byTurns, cX12_byTurns, 7, (some .int)) e) = true := by decide +kernel
theorem kb_X12_byTurns : GoodIn lw_tbl (cd_X12_byTurns.1.flatMap (fun e => mm_wdE mm_mth yX12_byTurns.cls e)) := goodIn_r _ [1767, 1769, 105, 131, 1469, 1470, 131, 1739, 1741, 102, 131, 1771, 1773, 106, 131, 1299, 1598, 1600, 85, 131, 1771, 1773, 106, 131, 1771, 1773, 106, 131, 1299, 1743, 1745, 103, 131] (by decide +kernel) (by decide +kernel)
theorem ka_X12_tryRow : cd_X12_tryRow.1.all (fun e => mm_okB mm_mth mm_nest (yX12_tryRow, cX12_tryRow, 6, none) e) = true := by decide +kernel
theorem kb_X12_tryRow : GoodIn lw_tbl (cd_X12_tryRow.1.flatMap (fun e => mm_wdE mm_mth yX12_tryRow.cls e)) := goodIn_r _ [1308, 1308, 1299, 1309, 1310, 1310, 1307, 1307, 1308, 1299, 1309, 1310, 1739, 1741, 102, 131, 1298, 1633, 1635, 89, 131, 1637, 1639, 90, 131, 1570, 1572, 80, 131, 1779, 1781, 107, 131, 1743, 1745, 103, 131] (by decide +kernel) (by decide +kernel)
theorem ka_X12_row : cd_X12_row.1.all (fun e => mm_okB mm_mth mm_nest (yX12_row, cX12_row, 2, (some .int)) e) = true := by decide +kernel
theorem kb_X12_row : GoodIn lw_tbl (cd_X12_row.1.flatMap (fun e => mm_wdE mm_mth yX12_row.cls e)) := goodIn_r _ [1298, 1469, 1470, 131, 1308, 1779, 1781, 107, 131, 1310, 1307, 1308, 1309] (by decide +kernel) (by decide +kernel)
theorem ka_X12_lasts : cd_X12_lasts.1.all (fun e => mm_okB mm_mth mm_nest (yX12_lasts, cX12_lasts, 3, (some .int)) e) = true := by decide +kernel
theorem kb_X12_lasts : GoodIn lw_tbl (cd_X12_lasts.1.flatMap (fun e => mm_wdE mm_mth yX12_lasts.cls e)) := goodIn_r _ [1298, 1739, 1741, 102, 131, 1299, 1661, 1663, 93, 131, 1299, 1743, 1745, 103, 131] (by decide +kernel) (by decide +kernel)
theorem ka_X12_isUp : cd_X12_isUp.1.all (fun e => mm_okB mm_mth mm_nest (yX12_isUp, cX12_isUp, 4, (some .boolean)) e) = true := by decide +kernel
theorem kb_X12_isUp : GoodIn lw_tbl (cd_X12_isUp.1.flatMap (fun e => mm_wdE mm_mth yX12_isUp.cls e)) := goodIn_r _ [1739, 1741, 102, 131, 1299, 1661, 1663, 93, 131, 1299, 1743, 1745, 103, 131] (by decide +kernel) (by decide +kernel)
theorem ka_X12_holds : cd_X12_holds.1.all (fun e => mm_okB mm_mth mm_nest (yX12_holds, cX12_holds, 3, (some .int)) e) = true := by decide +kernel
theorem kb_X12_holds : GoodIn lw_tbl (cd_X12_holds.1.flatMap (fun e => mm_wdE mm_mth yX12_holds.cls e)) := goodIn_r _ [1298, 1469, 1470, 131, 1791, 1793, 108, 131] (by decide +kernel) (by decide +kernel)
theorem ka_X12_seen : cd_X12_seen.1.all (fun e => mm_okB mm_mth mm_nest (yX12_seen, cX12_seen, 5, (some .int)) e) = true := by decide +kernel
theorem kb_X12_seen : GoodIn lw_tbl (cd_X12_seen.1.flatMap (fun e => mm_wdE mm_mth yX12_seen.cls e)) := goodIn_r _ [1558, 1560, 78, 131, 1469, 1470, 131, 1469, 1470, 131, 1315, 1311, 1315, 1312, 1315, 1313, 1315, 1314, 1315, 1315, 1315, 1315] (by decide +kernel) (by decide +kernel)
theorem ka_X12_morning : cd_X12_morning.1.all (fun e => mm_okB mm_mth mm_nest (yX12_morning, cX12_morning, 6, (some .int)) e) = true := by decide +kernel
theorem kb_X12_morning : GoodIn lw_tbl (cd_X12_morning.1.flatMap (fun e => mm_wdE mm_mth yX12_morning.cls e)) := goodIn_r _ [1299, 1602, 1604, 86, 131] (by decide +kernel) (by decide +kernel)
theorem ka_X12_isYolk : cd_X12_isYolk.1.all (fun e => mm_okB mm_mth mm_nest (yX12_isYolk, cX12_isYolk, 3, (some .boolean)) e) = true := by decide +kernel
theorem kb_X12_isYolk : GoodIn lw_tbl (cd_X12_isYolk.1.flatMap (fun e => mm_wdE mm_mth yX12_isYolk.cls e)) := goodIn_r _ [1315, 1311, 1312, 1807, 1809, 110, 131, 1313, 1314] (by decide +kernel) (by decide +kernel)
theorem ka_X12_fits : cd_X12_fits.1.all (fun e => mm_okB mm_mth mm_nest (yX12_fits, cX12_fits, 4, (some .int)) e) = true := by decide +kernel
theorem kb_X12_fits : GoodIn lw_tbl (cd_X12_fits.1.flatMap (fun e => mm_wdE mm_mth yX12_fits.cls e)) := goodIn_r _ [1298, 1803, 1805, 109, 131] (by decide +kernel) (by decide +kernel)
theorem ka_X12_probe : cd_X12_probe.1.all (fun e => mm_okB mm_mth mm_nest (yX12_probe, cX12_probe, 9, (some .int)) e) = true := by decide +kernel
theorem kb_X12_probe : GoodIn lw_tbl (cd_X12_probe.1.flatMap (fun e => mm_wdE mm_mth yX12_probe.cls e)) := goodIn_r _ [1558, 1560, 78, 131, 1469, 1470, 131, 1815, 1800, 1801, 131, 1803, 1805, 109, 131, 1452, 1453, 131, 1807, 1809, 110, 131, 1816, 1106, 133, 1816, 1106, 133] (by decide +kernel) (by decide +kernel)
theorem ka_X12_gameOf : cd_X12_gameOf.1.all (fun e => mm_okB mm_mth mm_nest (yX12_gameOf, cX12_gameOf, 7, (some .int)) e) = true := by decide +kernel
theorem kb_X12_gameOf : GoodIn lw_tbl (cd_X12_gameOf.1.flatMap (fun e => mm_wdE mm_mth yX12_gameOf.cls e)) := goodIn_r _ [1739, 1741, 102, 131, 1594, 1596, 84, 131, 1594, 1596, 84, 131, 1299, 1743, 1745, 103, 131] (by decide +kernel) (by decide +kernel)
theorem ka_X12_areTwo : cd_X12_areTwo.1.all (fun e => mm_okB mm_mth mm_nest (yX12_areTwo, cX12_areTwo, 3, (some .boolean)) e) = true := by decide +kernel
theorem kb_X12_areTwo : GoodIn lw_tbl (cd_X12_areTwo.1.flatMap (fun e => mm_wdE mm_mth yX12_areTwo.cls e)) := goodIn_r _ [1558, 1560, 78, 131, 1558, 1560, 78, 131] (by decide +kernel) (by decide +kernel)
theorem ka_X12_game : cd_X12_game.1.all (fun e => mm_okB mm_mth mm_nest (yX12_game, cX12_game, 6, (some .int)) e) = true := by decide +kernel
theorem kb_X12_game : GoodIn lw_tbl (cd_X12_game.1.flatMap (fun e => mm_wdE mm_mth yX12_game.cls e)) := goodIn_r _ [1767, 1769, 105, 131, 1469, 1470, 131, 1469, 1470, 131, 1469, 1470, 131, 1821, 1822, 1824, 111, 131] (by decide +kernel) (by decide +kernel)
theorem ka_X12_isRest : cd_X12_isRest.1.all (fun e => mm_okB mm_mth mm_nest (yX12_isRest, cX12_isRest, 6, (some .boolean)) e) = true := by decide +kernel
theorem kb_X12_isRest : GoodIn lw_tbl (cd_X12_isRest.1.flatMap (fun e => mm_wdE mm_mth yX12_isRest.cls e)) := goodIn_r _ [1822, 1824, 111, 131, 1822, 1824, 111, 131, 1822, 1824, 111, 131, 1822, 1824, 111, 131] (by decide +kernel) (by decide +kernel)
theorem ka_X12_rests : cd_X12_rests.1.all (fun e => mm_okB mm_mth mm_nest (yX12_rests, cX12_rests, 6, (some .int)) e) = true := by decide +kernel
theorem kb_X12_rests : GoodIn lw_tbl (cd_X12_rests.1.flatMap (fun e => mm_wdE mm_mth yX12_rests.cls e)) := goodIn_r _ [1767, 1769, 105, 131, 1830, 1832, 112, 131] (by decide +kernel) (by decide +kernel)
theorem ka_X12_oddsFrom : cd_X12_oddsFrom.1.all (fun e => mm_okB mm_mth mm_nest (yX12_oddsFrom, cX12_oddsFrom, 9, (some .int)) e) = true := by decide +kernel
theorem kb_X12_oddsFrom : GoodIn lw_tbl (cd_X12_oddsFrom.1.flatMap (fun e => mm_wdE mm_mth yX12_oddsFrom.cls e)) := goodIn_r _ [1299, 1843, 1739, 1741, 102, 131, 1649, 1651, 91, 131, 1661, 1663, 93, 131, 1839, 1841, 113, 131, 1743, 1745, 103, 131] (by decide +kernel) (by decide +kernel)
theorem ka_X12_odds : cd_X12_odds.1.all (fun e => mm_okB mm_mth mm_nest (yX12_odds, cX12_odds, 4, (some .int)) e) = true := by decide +kernel
theorem kb_X12_odds : GoodIn lw_tbl (cd_X12_odds.1.flatMap (fun e => mm_wdE mm_mth yX12_odds.cls e)) := goodIn_r _ [1298, 1469, 1470, 131, 1469, 1470, 131, 1469, 1470, 131, 1838, 1839, 1841, 113, 131] (by decide +kernel) (by decide +kernel)
theorem ka_X12_shares : cd_X12_shares.1.all (fun e => mm_okB mm_mth mm_nest (yX12_shares, cX12_shares, 5, (some .int)) e) = true := by decide +kernel
theorem kb_X12_shares : GoodIn lw_tbl (cd_X12_shares.1.flatMap (fun e => mm_wdE mm_mth yX12_shares.cls e)) := goodIn_r _ [1558, 1560, 78, 131, 1469, 1470, 131, 1297, 1299, 1299] (by decide +kernel) (by decide +kernel)
theorem ka_X12_topMinister : cd_X12_topMinister.1.all (fun e => mm_okB mm_mth mm_nest (yX12_topMinister, cX12_topMinister, 4, (some .int)) e) = true := by decide +kernel
theorem kb_X12_topMinister : GoodIn lw_tbl (cd_X12_topMinister.1.flatMap (fun e => mm_wdE mm_mth yX12_topMinister.cls e)) := goodIn_r _ [1298, 1570, 1572, 80, 131, 1570, 1572, 80, 131] (by decide +kernel) (by decide +kernel)
theorem ka_X12_topCook : cd_X12_topCook.1.all (fun e => mm_okB mm_mth mm_nest (yX12_topCook, cX12_topCook, 5, (some .int)) e) = true := by decide +kernel
theorem kb_X12_topCook : GoodIn lw_tbl (cd_X12_topCook.1.flatMap (fun e => mm_wdE mm_mth yX12_topCook.cls e)) := goodIn_r _ [1297, 1299, 1299, 1582, 1584, 81, 131, 1582, 1584, 81, 131] (by decide +kernel) (by decide +kernel)
theorem ka_X12_could : cd_X12_could.1.all (fun e => mm_okB mm_mth mm_nest (yX12_could, cX12_could, 3, (some .int)) e) = true := by decide +kernel
theorem kb_X12_could : GoodIn lw_tbl (cd_X12_could.1.flatMap (fun e => mm_wdE mm_mth yX12_could.cls e)) := goodIn_r _ [1298, 1633, 1635, 89, 131] (by decide +kernel) (by decide +kernel)
theorem ka_X12_doors : cd_X12_doors.1.all (fun e => mm_okB mm_mth mm_nest (yX12_doors, cX12_doors, 3, (some .int)) e) = true := by decide +kernel
theorem kb_X12_doors : GoodIn lw_tbl (cd_X12_doors.1.flatMap (fun e => mm_wdE mm_mth yX12_doors.cls e)) := goodIn_r _ [1299] (by decide +kernel) (by decide +kernel)
theorem ka_X12_most : cd_X12_most.1.all (fun e => mm_okB mm_mth mm_nest (yX12_most, cX12_most, 2, (some .int)) e) = true := by decide +kernel
theorem kb_X12_most : GoodIn lw_tbl (cd_X12_most.1.flatMap (fun e => mm_wdE mm_mth yX12_most.cls e)) := goodIn_r _ [1298, 1852, 1854, 114, 131, 1852, 1854, 114, 131, 1852, 1854, 114, 131, 1856, 1858, 115, 131, 1856, 1858, 115, 131, 1299, 1860, 1862, 116, 131, 1669, 1671, 95, 131, 1864, 1866, 117, 131, 1697, 1699, 98, 131] (by decide +kernel) (by decide +kernel)
theorem ka_X12_ahead : cd_X12_ahead.1.all (fun e => mm_okB mm_mth mm_nest (yX12_ahead, cX12_ahead, 3, (some .int)) e) = true := by decide +kernel
theorem kb_X12_ahead : GoodIn lw_tbl (cd_X12_ahead.1.flatMap (fun e => mm_wdE mm_mth yX12_ahead.cls e)) := goodIn_r _ [1298, 1469, 1470, 131, 1299, 1697, 1699, 98, 131] (by decide +kernel) (by decide +kernel)
theorem ka_X12_image : cd_X12_image.1.all (fun e => mm_okB mm_mth mm_nest (yX12_image, cX12_image, 2, (some .int)) e) = true := by decide +kernel
theorem kb_X12_image : GoodIn lw_tbl (cd_X12_image.1.flatMap (fun e => mm_wdE mm_mth yX12_image.cls e)) := goodIn_r _ [1298, 1316, 1299, 1317, 1299] (by decide +kernel) (by decide +kernel)
theorem ka_X12_back : cd_X12_back.1.all (fun e => mm_okB mm_mth mm_nest (yX12_back, cX12_back, 2, (some .int)) e) = true := by decide +kernel
theorem kb_X12_back : GoodIn lw_tbl (cd_X12_back.1.flatMap (fun e => mm_wdE mm_mth yX12_back.cls e)) := goodIn_r _ [1317, 1299, 1316, 1304, 1299] (by decide +kernel) (by decide +kernel)
theorem ka_X12_count : cd_X12_count.1.all (fun e => mm_okB mm_mth mm_nest (yX12_count, cX12_count, 2, (some .int)) e) = true := by decide +kernel
theorem kb_X12_count : GoodIn lw_tbl (cd_X12_count.1.flatMap (fun e => mm_wdE mm_mth yX12_count.cls e)) := goodIn_r _ [1298, 1297, 1285, 1274, 1301, 1299, 1299, 1299, 1299, 1299, 1299, 1302, 1315, 1299, 1304, 1821] (by decide +kernel) (by decide +kernel)
theorem ka_J6_numberOfTrailingZeros_0f7a4 : cd_J6_numberOfTrailingZeros_0f7a4.1.all (fun e => mm_okB mm_mth mm_nest (yJ6_numberOfTrailingZeros_0f7a4, cJ6_numberOfTrailingZeros_0f7a4, 2, (some .int)) e) = true := by decide +kernel
theorem kb_J6_numberOfTrailingZeros_0f7a4 : GoodIn lw_tbl (cd_J6_numberOfTrailingZeros_0f7a4.1.flatMap (fun e => mm_wdE mm_mth yJ6_numberOfTrailingZeros_0f7a4.cls e)) := goodIn_r _ [1011] (by decide +kernel) (by decide +kernel)
theorem ka_J6_bitCount_0f7a4 : cd_J6_bitCount_0f7a4.1.all (fun e => mm_okB mm_mth mm_nest (yJ6_bitCount_0f7a4, cJ6_bitCount_0f7a4, 1, (some .int)) e) = true := by decide +kernel
theorem kb_J6_bitCount_0f7a4 : GoodIn lw_tbl (cd_J6_bitCount_0f7a4.1.flatMap (fun e => mm_wdE mm_mth yJ6_bitCount_0f7a4.cls e)) := goodIn_r _ [1041, 1042, 1042, 1043] (by decide +kernel) (by decide +kernel)
theorem ka_J9_floorMod_7cf53 : cd_J9_floorMod_7cf53.1.all (fun e => mm_okB mm_mth mm_nest (yJ9_floorMod_7cf53, cJ9_floorMod_7cf53, 3, (some .int)) e) = true := by decide +kernel
theorem kb_J9_floorMod_7cf53 : GoodIn lw_tbl (cd_J9_floorMod_7cf53.1.flatMap (fun e => mm_wdE mm_mth yJ9_floorMod_7cf53.cls e)) := goodIn_r _ [] (by decide +kernel) (by decide +kernel)
theorem ka_J9_abs_0f7a4 : cd_J9_abs_0f7a4.1.all (fun e => mm_okB mm_mth mm_nest (yJ9_abs_0f7a4, cJ9_abs_0f7a4, 1, (some .int)) e) = true := by decide +kernel
theorem kb_J9_abs_0f7a4 : GoodIn lw_tbl (cd_J9_abs_0f7a4.1.flatMap (fun e => mm_wdE mm_mth yJ9_abs_0f7a4.cls e)) := goodIn_r _ [] (by decide +kernel) (by decide +kernel)
theorem ka_J9_max_7cf53 : cd_J9_max_7cf53.1.all (fun e => mm_okB mm_mth mm_nest (yJ9_max_7cf53, cJ9_max_7cf53, 2, (some .int)) e) = true := by decide +kernel
theorem kb_J9_max_7cf53 : GoodIn lw_tbl (cd_J9_max_7cf53.1.flatMap (fun e => mm_wdE mm_mth yJ9_max_7cf53.cls e)) := goodIn_r _ [] (by decide +kernel) (by decide +kernel)
theorem ka_J9_max_f86c9 : cd_J9_max_f86c9.1.all (fun e => mm_okB mm_mth mm_nest (yJ9_max_f86c9, cJ9_max_f86c9, 4, (some .long)) e) = true := by decide +kernel
theorem kb_J9_max_f86c9 : GoodIn lw_tbl (cd_J9_max_f86c9.1.flatMap (fun e => mm_wdE mm_mth yJ9_max_f86c9.cls e)) := goodIn_r _ [] (by decide +kernel) (by decide +kernel)
theorem ka_J9_min_7cf53 : cd_J9_min_7cf53.1.all (fun e => mm_okB mm_mth mm_nest (yJ9_min_7cf53, cJ9_min_7cf53, 2, (some .int)) e) = true := by decide +kernel
theorem kb_J9_min_7cf53 : GoodIn lw_tbl (cd_J9_min_7cf53.1.flatMap (fun e => mm_wdE mm_mth yJ9_min_7cf53.cls e)) := goodIn_r _ [] (by decide +kernel) (by decide +kernel)
theorem ka_J9_min_f86c9 : cd_J9_min_f86c9.1.all (fun e => mm_okB mm_mth mm_nest (yJ9_min_f86c9, cJ9_min_f86c9, 4, (some .long)) e) = true := by decide +kernel
theorem kb_J9_min_f86c9 : GoodIn lw_tbl (cd_J9_min_f86c9.1.flatMap (fun e => mm_wdE mm_mth yJ9_min_f86c9.cls e)) := goodIn_r _ [] (by decide +kernel) (by decide +kernel)
theorem ka_J7_fill_53178 : cd_J7_fill_53178.1.all (fun e => mm_okB mm_mth mm_nest (yJ7_fill_53178, cJ7_fill_53178, 4, none) e) = true := by decide +kernel
theorem kb_J7_fill_53178 : GoodIn lw_tbl (cd_J7_fill_53178.1.flatMap (fun e => mm_wdE mm_mth yJ7_fill_53178.cls e)) := goodIn_r _ [] (by decide +kernel) (by decide +kernel)
theorem ka_J7_copyOf_59c91 : cd_J7_copyOf_59c91.1.all (fun e => mm_okB mm_mth mm_nest (yJ7_copyOf_59c91, cJ7_copyOf_59c91, 3, (some (.array .int))) e) = true := by decide +kernel
theorem kb_J7_copyOf_59c91 : GoodIn lw_tbl (cd_J7_copyOf_59c91.1.flatMap (fun e => mm_wdE mm_mth yJ7_copyOf_59c91.cls e)) := goodIn_r _ [164, 713, 714, 133, 716, 672, 671, 134] (by decide +kernel) (by decide +kernel)
