theorem ka_law_0 : ((cd_law.drop 0).take 40).all (fun e => mm_okB mm_mth mm_nest (x, code, 7, ret) e) = true := by decide +kernel
theorem kb_law_0 : GoodIn lw_tbl (((cd_law.drop 0).take 40).flatMap (fun e => mm_wdE mm_mth x.cls e)) := goodIn_r _ [140, 141, 119, 142, 143, 119, 1266, 1267, 131, 1268, 1269, 131, 1885] (by decide +kernel) (by decide +kernel)
theorem ka_law_40 : ((cd_law.drop 40).take 40).all (fun e => mm_okB mm_mth mm_nest (x, code, 7, ret) e) = true := by decide +kernel
theorem kb_law_40 : GoodIn lw_tbl (((cd_law.drop 40).take 40).flatMap (fun e => mm_wdE mm_mth x.cls e)) := goodIn_r _ [443, 444, 445, 119, 1415, 1416, 1417, 131] (by decide +kernel) (by decide +kernel)
theorem ka_law_80 : ((cd_law.drop 80).take 40).all (fun e => mm_okB mm_mth mm_nest (x, code, 7, ret) e) = true := by decide +kernel
theorem kb_law_80 : GoodIn lw_tbl (((cd_law.drop 80).take 40).flatMap (fun e => mm_wdE mm_mth x.cls e)) := goodIn_r _ [458, 459, 460, 119, 1422, 1423, 1424, 131, 466, 467, 468, 119, 1426, 1427, 1428, 131, 654, 655, 656, 119] (by decide +kernel) (by decide +kernel)
theorem ka_law_120 : ((cd_law.drop 120).take 40).all (fun e => mm_okB mm_mth mm_nest (x, code, 7, ret) e) = true := by decide +kernel
theorem kb_law_120 : GoodIn lw_tbl (((cd_law.drop 120).take 40).flatMap (fun e => mm_wdE mm_mth x.cls e)) := goodIn_r _ [1542, 1543, 1544, 131, 730, 731, 732, 119, 1550, 1551, 1552, 131, 735, 736, 737, 119] (by decide +kernel) (by decide +kernel)
theorem ka_law_160 : ((cd_law.drop 160).take 40).all (fun e => mm_okB mm_mth mm_nest (x, code, 7, ret) e) = true := by decide +kernel
theorem kb_law_160 : GoodIn lw_tbl (((cd_law.drop 160).take 40).flatMap (fun e => mm_wdE mm_mth x.cls e)) := goodIn_r _ [1554, 1555, 1556, 131, 1562, 1563, 1564, 131, 1411, 1412, 1413, 131] (by decide +kernel) (by decide +kernel)
theorem ka_law_200 : ((cd_law.drop 200).take 40).all (fun e => mm_okB mm_mth mm_nest (x, code, 7, ret) e) = true := by decide +kernel
theorem kb_law_200 : GoodIn lw_tbl (((cd_law.drop 200).take 40).flatMap (fun e => mm_wdE mm_mth x.cls e)) := goodIn_r _ [722, 723, 724, 119, 1574, 1575, 1576, 131] (by decide +kernel) (by decide +kernel)
theorem ka_law_240 : ((cd_law.drop 240).take 40).all (fun e => mm_okB mm_mth mm_nest (x, code, 7, ret) e) = true := by decide +kernel
theorem kb_law_240 : GoodIn lw_tbl (((cd_law.drop 240).take 40).flatMap (fun e => mm_wdE mm_mth x.cls e)) := goodIn_r _ [752, 753, 754, 119, 1578, 1579, 1580, 131, 823, 824, 825, 119, 1629, 1630, 1631, 131, 843, 844, 845, 119, 1641, 1642, 1643, 131, 847, 848, 849, 119] (by decide +kernel) (by decide +kernel)
theorem ka_law_280 : ((cd_law.drop 280).take 40).all (fun e => mm_okB mm_mth mm_nest (x, code, 7, ret) e) = true := by decide +kernel
theorem kb_law_280 : GoodIn lw_tbl (((cd_law.drop 280).take 40).flatMap (fun e => mm_wdE mm_mth x.cls e)) := goodIn_r _ [1645, 1646, 1647, 131, 859, 860, 861, 119, 1657, 1658, 1659, 131, 878, 879, 880, 119, 1673, 1674, 1675, 131, 886, 887, 888, 119, 1677, 1678, 1679, 131] (by decide +kernel) (by decide +kernel)
theorem ka_law_320 : ((cd_law.drop 320).take 40).all (fun e => mm_okB mm_mth mm_nest (x, code, 7, ret) e) = true := by decide +kernel
theorem kb_law_320 : GoodIn lw_tbl (((cd_law.drop 320).take 40).flatMap (fun e => mm_wdE mm_mth x.cls e)) := goodIn_r _ [890, 891, 892, 119, 1681, 1682, 1683, 131, 894, 895, 896, 119, 1685, 1686, 1687, 131, 913, 914, 915, 119] (by decide +kernel) (by decide +kernel)
theorem ka_law_360 : ((cd_law.drop 360).take 40).all (fun e => mm_okB mm_mth mm_nest (x, code, 7, ret) e) = true := by decide +kernel
theorem kb_law_360 : GoodIn lw_tbl (((cd_law.drop 360).take 40).flatMap (fun e => mm_wdE mm_mth x.cls e)) := goodIn_r _ [1701, 1702, 1703, 131, 1884, 917, 918, 919, 119] (by decide +kernel) (by decide +kernel)
theorem ka_law_400 : ((cd_law.drop 400).take 40).all (fun e => mm_okB mm_mth mm_nest (x, code, 7, ret) e) = true := by decide +kernel
theorem kb_law_400 : GoodIn lw_tbl (((cd_law.drop 400).take 40).flatMap (fun e => mm_wdE mm_mth x.cls e)) := goodIn_r _ [1884, 1705, 1706, 1707, 131, 935, 936, 937, 119, 1719, 1720, 1721, 131, 939, 940, 941, 119, 1723, 1724, 1725, 131] (by decide +kernel) (by decide +kernel)
theorem ka_law_440 : ((cd_law.drop 440).take 40).all (fun e => mm_okB mm_mth mm_nest (x, code, 7, ret) e) = true := by decide +kernel
theorem kb_law_440 : GoodIn lw_tbl (((cd_law.drop 440).take 40).flatMap (fun e => mm_wdE mm_mth x.cls e)) := goodIn_r _ [951, 952, 953, 119, 1727, 1728, 1729, 131, 963, 964, 965, 119] (by decide +kernel) (by decide +kernel)
theorem ka_law_480 : ((cd_law.drop 480).take 40).all (fun e => mm_okB mm_mth mm_nest (x, code, 7, ret) e) = true := by decide +kernel
theorem kb_law_480 : GoodIn lw_tbl (((cd_law.drop 480).take 40).flatMap (fun e => mm_wdE mm_mth x.cls e)) := goodIn_r _ [1731, 1732, 1733, 131, 971, 972, 973, 119, 1747, 1748, 1749, 131] (by decide +kernel) (by decide +kernel)
theorem ka_law_520 : ((cd_law.drop 520).take 40).all (fun e => mm_okB mm_mth mm_nest (x, code, 7, ret) e) = true := by decide +kernel
theorem kb_law_520 : GoodIn lw_tbl (((cd_law.drop 520).take 40).flatMap (fun e => mm_wdE mm_mth x.cls e)) := goodIn_r _ [982, 983, 984, 119, 1755, 1756, 1757, 131, 986, 987, 988, 119, 1759, 1760, 1761, 131] (by decide +kernel) (by decide +kernel)
theorem ka_law_560 : ((cd_law.drop 560).take 40).all (fun e => mm_okB mm_mth mm_nest (x, code, 7, ret) e) = true := by decide +kernel
theorem kb_law_560 : GoodIn lw_tbl (((cd_law.drop 560).take 40).flatMap (fun e => mm_wdE mm_mth x.cls e)) := goodIn_r _ [990, 991, 992, 119, 1763, 1764, 1765, 131] (by decide +kernel) (by decide +kernel)
theorem ka_law_600 : ((cd_law.drop 600).take 40).all (fun e => mm_okB mm_mth mm_nest (x, code, 7, ret) e) = true := by decide +kernel
theorem kb_law_600 : GoodIn lw_tbl (((cd_law.drop 600).take 40).flatMap (fun e => mm_wdE mm_mth x.cls e)) := goodIn_r _ [998, 999, 1000, 119, 1775, 1776, 1777, 131, 1047, 1048, 1049, 119, 1783, 1784, 1785, 131, 1051, 1052, 1053, 119, 1787, 1788, 1789, 131] (by decide +kernel) (by decide +kernel)
theorem ka_law_640 : ((cd_law.drop 640).take 40).all (fun e => mm_okB mm_mth mm_nest (x, code, 7, ret) e) = true := by decide +kernel
theorem kb_law_640 : GoodIn lw_tbl (((cd_law.drop 640).take 40).flatMap (fun e => mm_wdE mm_mth x.cls e)) := goodIn_r _ [1055, 1056, 1057, 119] (by decide +kernel) (by decide +kernel)
theorem ka_law_680 : ((cd_law.drop 680).take 40).all (fun e => mm_okB mm_mth mm_nest (x, code, 7, ret) e) = true := by decide +kernel
theorem kb_law_680 : GoodIn lw_tbl (((cd_law.drop 680).take 40).flatMap (fun e => mm_wdE mm_mth x.cls e)) := goodIn_r _ [1795, 1796, 1797, 131, 1071, 1072, 1073, 119, 1799, 1800, 1801, 131, 1096, 1097, 1098, 119] (by decide +kernel) (by decide +kernel)
theorem ka_law_720 : ((cd_law.drop 720).take 40).all (fun e => mm_okB mm_mth mm_nest (x, code, 7, ret) e) = true := by decide +kernel
theorem kb_law_720 : GoodIn lw_tbl (((cd_law.drop 720).take 40).flatMap (fun e => mm_wdE mm_mth x.cls e)) := goodIn_r _ [1811, 1812, 1813, 131, 1108, 1109, 1110, 119] (by decide +kernel) (by decide +kernel)
theorem ka_law_760 : ((cd_law.drop 760).take 40).all (fun e => mm_okB mm_mth mm_nest (x, code, 7, ret) e) = true := by decide +kernel
theorem kb_law_760 : GoodIn lw_tbl (((cd_law.drop 760).take 40).flatMap (fun e => mm_wdE mm_mth x.cls e)) := goodIn_r _ [1817, 1818, 1819, 131] (by decide +kernel) (by decide +kernel)
theorem ka_law_800 : ((cd_law.drop 800).take 40).all (fun e => mm_okB mm_mth mm_nest (x, code, 7, ret) e) = true := by decide +kernel
theorem kb_law_800 : GoodIn lw_tbl (((cd_law.drop 800).take 40).flatMap (fun e => mm_wdE mm_mth x.cls e)) := goodIn_r _ [1113, 1114, 1115, 119, 1826, 1827, 1828, 131, 1129, 1130, 1131, 119] (by decide +kernel) (by decide +kernel)
theorem ka_law_840 : ((cd_law.drop 840).take 40).all (fun e => mm_okB mm_mth mm_nest (x, code, 7, ret) e) = true := by decide +kernel
theorem kb_law_840 : GoodIn lw_tbl (((cd_law.drop 840).take 40).flatMap (fun e => mm_wdE mm_mth x.cls e)) := goodIn_r _ [1834, 1835, 1836, 131, 1138, 1139, 1140, 119] (by decide +kernel) (by decide +kernel)
theorem ka_law_880 : ((cd_law.drop 880).take 40).all (fun e => mm_okB mm_mth mm_nest (x, code, 7, ret) e) = true := by decide +kernel
theorem kb_law_880 : GoodIn lw_tbl (((cd_law.drop 880).take 40).flatMap (fun e => mm_wdE mm_mth x.cls e)) := goodIn_r _ [1844, 1845, 1846, 131, 1142, 1143, 1144, 119, 1848, 1849, 1850, 131, 1166, 1167, 1168, 119, 1868, 1869, 1870, 131, 1170, 1171, 1172, 119] (by decide +kernel) (by decide +kernel)
theorem ka_law_920 : ((cd_law.drop 920).take 40).all (fun e => mm_okB mm_mth mm_nest (x, code, 7, ret) e) = true := by decide +kernel
theorem kb_law_920 : GoodIn lw_tbl (((cd_law.drop 920).take 40).flatMap (fun e => mm_wdE mm_mth x.cls e)) := goodIn_r _ [1872, 1873, 1874, 131, 1180, 1181, 1182, 119, 1876, 1877, 1878, 131, 1184, 1185, 1186, 119, 1880, 1881, 1882, 131] (by decide +kernel) (by decide +kernel)
