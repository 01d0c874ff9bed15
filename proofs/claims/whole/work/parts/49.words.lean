set_option maxRecDepth 100000 in
theorem lt_wsL_law0_r1 : ∀ w ∈ wsL_law0_r1, w ∈ lw_tbl := fun w h => (goodIn_r wsL_law0_r1 [132, 133, 105, 1448, 1449, 117, 426, 134, 135, 136, 137, 138, 139, 140, 141, 106, 427, 428, 236, 237, 110, 430, 431, 275] rfl (by decide +kernel) w h).1
set_option maxRecDepth 100000 in
theorem lt_wsL_law0_r2 : ∀ w ∈ wsL_law0_r2, w ∈ lw_tbl := fun w h => (goodIn_r wsL_law0_r2 [276, 111, 432, 433, 327, 328, 113, 434, 345, 346, 114, 435, 379, 380, 115, 436, 404, 405, 116, 437, 142, 143, 144, 145] rfl (by decide +kernel) w h).1
set_option maxRecDepth 100000 in
theorem lt_wsL_law0_r3 : ∀ w ∈ wsL_law0_r3, w ∈ lw_tbl := fun w h => (goodIn_r wsL_law0_r3 [178, 146, 147, 107, 180, 184, 189, 192, 196, 198, 200, 203, 206, 208, 169, 210, 148, 149, 150, 151, 152, 153, 108, 154] rfl (by decide +kernel) w h).1
set_option maxRecDepth 100000 in
theorem lt_wsL_law0_r4 : ∀ w ∈ wsL_law0_r4, w ∈ lw_tbl := fun w h => (goodIn_r wsL_law0_r4 [156, 155, 168, 157, 171, 172, 173, 174, 158, 175, 176, 109, 177, 239, 240, 241, 244, 242, 251, 252, 243, 277, 278, 279] rfl (by decide +kernel) w h).1
set_option maxRecDepth 100000 in
theorem lt_wsL_law0_r5 : ∀ w ∈ wsL_law0_r5, w ∈ lw_tbl := fun w h => (goodIn_r wsL_law0_r5 [280, 281, 304, 305, 306, 283, 284, 112, 307, 299, 282, 286, 287, 288, 289, 290, 329, 330, 331, 332, 333, 337, 335, 336] rfl (by decide +kernel) w h).1
set_option maxRecDepth 100000 in
theorem lt_wsL_law0_r6 : ∀ w ∈ wsL_law0_r6, w ∈ lw_tbl := fun w h => (goodIn_r wsL_law0_r6 [334, 348, 349, 350, 351, 352, 353, 354, 355, 356, 381, 382, 383, 384, 386, 387, 388, 389, 385, 406, 407, 408, 409, 412] rfl (by decide +kernel) w h).1
set_option maxRecDepth 100000 in
theorem lt_wsL_law0_r7 : ∀ w ∈ wsL_law0_r7, w ∈ lw_tbl := fun w h => (goodIn_r wsL_law0_r7 [410, 411, 1450, 1451, 1452, 1453, 1455, 1456, 946, 1458, 1464, 1465, 1468, 1469, 1470, 1575, 1472, 1473, 1474, 1475, 1476, 1477, 1478, 1479] rfl (by decide +kernel) w h).1
set_option maxRecDepth 100000 in
theorem lt_wsL_law0_r8 : ∀ w ∈ wsL_law0_r8, w ∈ lw_tbl := fun w h => (goodIn_r wsL_law0_r8 [1480, 1481, 1482, 1484, 1485, 1486, 1488, 1489, 1490, 1491, 1492, 1493, 461, 462, 463, 464, 465, 466, 467, 468, 245, 469, 470, 471] rfl (by decide +kernel) w h).1
set_option maxRecDepth 100000 in
theorem lt_wsL_law0_r9 : ∀ w ∈ wsL_law0_r9, w ∈ lw_tbl := fun w h => (goodIn_r wsL_law0_r9 [472, 473, 474, 475, 476, 1642, 1643, 1644, 1645, 1454, 1459, 477, 478, 479, 480, 481, 482, 483, 484, 485, 486, 487, 488, 1646] rfl (by decide +kernel) w h).1
set_option maxRecDepth 100000 in
theorem lt_wsL_law0_r10 : ∀ w ∈ wsL_law0_r10, w ∈ lw_tbl := fun w h => (goodIn_r wsL_law0_r10 [1647, 1648, 1649, 726, 727, 104, 728, 729, 730, 731, 732, 733, 734, 121, 798, 799, 800, 801, 246, 253, 248, 249, 802, 502] rfl (by decide +kernel) w h).1
set_option maxRecDepth 100000 in
theorem lt_wsL_law0_r11 : ∀ w ∈ wsL_law0_r11, w ∈ lw_tbl := fun w h => (goodIn_r wsL_law0_r11 [503, 504, 803, 805, 13, 806, 247, 807, 809, 14, 810, 250, 811, 813, 15, 814, 816, 817, 818, 122, 819, 2057, 820, 821] rfl (by decide +kernel) w h).1
set_option maxRecDepth 100000 in
theorem lt_wsL_law0_r12 : ∀ w ∈ wsL_law0_r12, w ∈ lw_tbl := fun w h => (goodIn_r wsL_law0_r12 [822, 823, 824, 2058, 826, 827, 828, 829, 830, 831, 832, 833, 834, 835, 123, 836, 837, 838, 839, 840, 842, 843, 124, 844] rfl (by decide +kernel) w h).1
set_option maxRecDepth 100000 in
theorem lt_wsL_law0_r13 : ∀ w ∈ wsL_law0_r13, w ∈ lw_tbl := fun w h => (goodIn_r wsL_law0_r13 [845, 846, 125, 847, 848, 849, 850, 851, 852, 853, 854, 855, 856, 857, 858, 860, 862, 864, 866, 16, 867, 868, 510, 511] rfl (by decide +kernel) w h).1
set_option maxRecDepth 100000 in
theorem lt_wsL_law0_r14 : ∀ w ∈ wsL_law0_r14, w ∈ lw_tbl := fun w h => (goodIn_r wsL_law0_r14 [512, 513, 514, 515, 516, 869, 518, 519, 520, 870, 872, 17, 873, 874, 876, 18, 877, 878, 880, 19, 881, 882, 884, 20] rfl (by decide +kernel) w h).1
set_option maxRecDepth 100000 in
theorem lt_wsL_law0_r15 : ∀ w ∈ wsL_law0_r15, w ∈ lw_tbl := fun w h => (goodIn_r wsL_law0_r15 [885, 888, 890, 21, 891, 892, 894, 22, 896, 898, 23, 899, 895, 900, 902, 24, 904, 906, 25, 907, 903, 908, 909, 910] rfl (by decide +kernel) w h).1
set_option maxRecDepth 100000 in
theorem lt_wsL_law0_r16 : ∀ w ∈ wsL_law0_r16, w ∈ lw_tbl := fun w h => (goodIn_r wsL_law0_r16 [911, 912, 913, 914, 915, 916, 917, 918, 921, 922, 127, 919, 506, 507, 508, 920, 704, 705, 706, 707, 709, 708, 126, 923] rfl (by decide +kernel) w h).1
set_option maxRecDepth 100000 in
theorem lt_wsL_law0_r17 : ∀ w ∈ wsL_law0_r17, w ∈ lw_tbl := fun w h => (goodIn_r wsL_law0_r17 [924, 925, 926, 927, 928, 929, 930, 932, 933, 934, 935, 936, 937, 938, 939, 940, 947, 948, 949, 950, 951, 581, 582, 583] rfl (by decide +kernel) w h).1
set_option maxRecDepth 100000 in
theorem lt_wsL_law0_r18 : ∀ w ∈ wsL_law0_r18, w ∈ lw_tbl := fun w h => (goodIn_r wsL_law0_r18 [584, 1654, 1655, 1656, 1657, 1461, 1460, 1466, 1467, 1462, 1599, 1600, 1601, 1588, 1590, 42, 1591, 1658, 1660, 50, 1661, 1662, 1664, 51] rfl (by decide +kernel) w h).1
set_option maxRecDepth 100000 in
theorem lt_wsL_law0_r19 : ∀ w ∈ wsL_law0_r19, w ∈ lw_tbl := fun w h => (goodIn_r wsL_law0_r19 [1665, 1666, 1668, 52, 1669, 1670, 1672, 53, 1673, 1463, 1674, 1676, 54, 1677, 1678, 1679, 1680, 1681, 1682, 1683, 1684, 1686, 55, 1687] rfl (by decide +kernel) w h).1
set_option maxRecDepth 100000 in
theorem lt_wsL_law0_r20 : ∀ w ∈ wsL_law0_r20, w ∈ lw_tbl := fun w h => (goodIn_r wsL_law0_r20 [1689, 1691, 56, 1692, 1693, 1694, 1699, 1701, 57, 1702, 1704, 1706, 58, 1707, 1710, 1712, 59, 1713, 1714, 1716, 60, 1717, 1727, 1729] rfl (by decide +kernel) w h).1
set_option maxRecDepth 100000 in
theorem lt_wsL_law0_r21 : ∀ w ∈ wsL_law0_r21, w ∈ lw_tbl := fun w h => (goodIn_r wsL_law0_r21 [61, 1730, 1731, 1733, 62, 1734, 1735, 1737, 63, 1744, 1746, 65, 1747, 1738, 1739, 1741, 64, 1742, 1749, 1751, 66, 1752, 1753, 1755] rfl (by decide +kernel) w h).1
set_option maxRecDepth 100000 in
theorem lt_wsL_law0_r22 : ∀ w ∈ wsL_law0_r22, w ∈ lw_tbl := fun w h => (goodIn_r wsL_law0_r22 [67, 1756, 1444, 1445, 1446, 1447, 489, 490, 491, 492, 1650, 1651, 1652, 1653, 952, 953, 954, 955, 956, 957, 958, 959, 960, 961] rfl (by decide +kernel) w h).1
set_option maxRecDepth 100000 in
theorem lt_wsL_law0_r23 : ∀ w ∈ wsL_law0_r23, w ∈ lw_tbl := fun w h => (goodIn_r wsL_law0_r23 [1584, 1585, 1586, 1587, 962, 963, 964, 965, 966, 967, 968, 969, 970, 971, 972, 977, 128, 973, 974, 975, 976, 992, 993, 1592] rfl (by decide +kernel) w h).1
set_option maxRecDepth 100000 in
theorem lt_wsL_law0_r24 : ∀ w ∈ wsL_law0_r24, w ∈ lw_tbl := fun w h => (goodIn_r wsL_law0_r24 [1593, 1594, 1595, 1596, 1597, 1598, 1602, 1604, 43, 1605, 1606, 1608, 44, 1609, 994, 995, 996, 997, 998, 999, 1000, 1001, 1002, 1004] rfl (by decide +kernel) w h).1
set_option maxRecDepth 100000 in
theorem lt_wsL_law0_r25 : ∀ w ∈ wsL_law0_r25, w ∈ lw_tbl := fun w h => (goodIn_r wsL_law0_r25 [26, 1005, 688, 1006, 1007, 1008, 1009, 129, 1610, 1611, 1612, 1613, 1614, 1616, 45, 1617, 1618, 1620, 46, 1621, 1622, 1624, 47, 1625] rfl (by decide +kernel) w h).1
set_option maxRecDepth 100000 in
theorem lt_wsL_law0_r26 : ∀ w ∈ wsL_law0_r26, w ∈ lw_tbl := fun w h => (goodIn_r wsL_law0_r26 [1024, 1025, 1026, 1027, 1028, 1029, 1030, 1031, 1032, 1033, 1034, 1036, 27, 1037, 1038, 1040, 28, 1041, 1042, 1043, 1044, 1045, 1046, 522] rfl (by decide +kernel) w h).1
set_option maxRecDepth 100000 in
theorem lt_wsL_law0_r27 : ∀ w ∈ wsL_law0_r27, w ∈ lw_tbl := fun w h => (goodIn_r wsL_law0_r27 [523, 524, 1047, 1626, 1627, 1628, 1629, 1630, 1632, 48, 1633, 1634, 1636, 49, 1637, 1048, 1049, 1050, 1051, 1052, 1053, 1054, 1638, 1639] rfl (by decide +kernel) w h).1
set_option maxRecDepth 100000 in
theorem lt_wsL_law0_r28 : ∀ w ∈ wsL_law0_r28, w ∈ lw_tbl := fun w h => (goodIn_r wsL_law0_r28 [1640, 1641, 1055, 1056, 1057, 1058, 1059, 1060, 1061, 1062, 1064, 29, 1065, 497, 498, 499, 500, 300, 301, 302, 303, 501, 505, 509] rfl (by decide +kernel) w h).1
set_option maxRecDepth 100000 in
theorem lt_wsL_law0_r29 : ∀ w ∈ wsL_law0_r29, w ∈ lw_tbl := fun w h => (goodIn_r wsL_law0_r29 [517, 521, 525, 527, 0, 528, 529, 530, 531, 532, 533, 534, 535, 536, 537, 539, 1, 540, 541, 542, 543, 544, 545, 546] rfl (by decide +kernel) w h).1
set_option maxRecDepth 100000 in
theorem lt_wsL_law0_r30 : ∀ w ∈ wsL_law0_r30, w ∈ lw_tbl := fun w h => (goodIn_r wsL_law0_r30 [547, 548, 549, 551, 2, 552, 553, 554, 555, 556, 557, 558, 559, 560, 561, 562, 563, 564, 565, 567, 3, 568, 569, 570] rfl (by decide +kernel) w h).1
set_option maxRecDepth 100000 in
theorem lt_wsL_law0_r31 : ∀ w ∈ wsL_law0_r31, w ∈ lw_tbl := fun w h => (goodIn_r wsL_law0_r31 [571, 572, 573, 574, 575, 130, 576, 577, 578, 579, 580, 585, 586, 587, 588, 590, 589, 591, 592, 593, 594, 291, 595, 596] rfl (by decide +kernel) w h).1
set_option maxRecDepth 100000 in
theorem lt_wsL_law0_r32 : ∀ w ∈ wsL_law0_r32, w ∈ lw_tbl := fun w h => (goodIn_r wsL_law0_r32 [597, 598, 599, 601, 4, 602, 603, 604, 605, 606, 607, 608, 609, 610, 611, 612, 613, 614, 615, 616, 617, 618, 620, 5] rfl (by decide +kernel) w h).1
set_option maxRecDepth 100000 in
theorem lt_wsL_law0_r33 : ∀ w ∈ wsL_law0_r33, w ∈ lw_tbl := fun w h => (goodIn_r wsL_law0_r33 [621, 622, 623, 624, 625, 626, 627, 628, 629, 630, 631, 632, 633, 634, 635, 636, 637, 638, 639, 640, 641, 642, 644, 6] rfl (by decide +kernel) w h).1
set_option maxRecDepth 100000 in
theorem lt_wsL_law0_r34 : ∀ w ∈ wsL_law0_r34, w ∈ lw_tbl := fun w h => (goodIn_r wsL_law0_r34 [645, 646, 647, 648, 649, 650, 652, 7, 653, 654, 655, 656, 657, 1066, 1759, 1760, 1761, 1762, 1763, 1765, 68, 1766, 1767, 1769] rfl (by decide +kernel) w h).1
set_option maxRecDepth 100000 in
theorem lt_wsL_law0_r35 : ∀ w ∈ wsL_law0_r35, w ∈ lw_tbl := fun w h => (goodIn_r wsL_law0_r35 [69, 1770, 1471, 1771, 1773, 70, 1774, 1775, 1777, 71, 1778, 1779, 1781, 72, 1782, 1783, 1785, 73, 1786, 1787, 1789, 74, 1790, 1791] rfl (by decide +kernel) w h).1
set_option maxRecDepth 100000 in
theorem lt_wsL_law0_r36 : ∀ w ∈ wsL_law0_r36, w ∈ lw_tbl := fun w h => (goodIn_r wsL_law0_r36 [1793, 75, 1794, 1795, 1797, 76, 1798, 1803, 1799, 1801, 77, 1802, 1804, 1806, 78, 1807, 1808, 1810, 79, 1811, 1812, 1814, 80, 1815] rfl (by decide +kernel) w h).1
set_option maxRecDepth 100000 in
theorem lt_wsL_law0_r37 : ∀ w ∈ wsL_law0_r37, w ∈ lw_tbl := fun w h => (goodIn_r wsL_law0_r37 [1816, 1818, 81, 1819, 1820, 1822, 82, 1823, 1824, 1826, 83, 1827, 1828, 1830, 84, 1831, 1832, 1834, 85, 1835, 1836, 1838, 86, 1839] rfl (by decide +kernel) w h).1
set_option maxRecDepth 100000 in
theorem lt_wsL_law0_r38 : ∀ w ∈ wsL_law0_r38, w ∈ lw_tbl := fun w h => (goodIn_r wsL_law0_r38 [1840, 1842, 87, 1843, 1844, 1846, 88, 1847, 1848, 1850, 89, 1851, 1852, 1854, 90, 1855, 1067, 1068, 1069, 1070, 1071, 1072, 1073, 1074] rfl (by decide +kernel) w h).1
set_option maxRecDepth 100000 in
theorem lt_wsL_law0_r39 : ∀ w ∈ wsL_law0_r39, w ∈ lw_tbl := fun w h => (goodIn_r wsL_law0_r39 [1856, 1857, 1858, 1859, 1075, 1076, 1077, 1078, 1079, 1080, 1081, 1082, 1860, 1861, 1862, 1863, 1083, 1084, 1085, 1086, 1087, 1088, 1089, 1090] rfl (by decide +kernel) w h).1
set_option maxRecDepth 100000 in
theorem lt_wsL_law0_r40 : ∀ w ∈ wsL_law0_r40, w ∈ lw_tbl := fun w h => (goodIn_r wsL_law0_r40 [1102, 131, 1091, 1092, 1093, 1094, 1095, 1096, 1097, 1098, 1099, 1100, 1101, 1864, 1865, 1866, 1867, 1117, 1118, 1119, 1120, 1121, 1122, 1123] rfl (by decide +kernel) w h).1
set_option maxRecDepth 100000 in
theorem lt_wsL_law0_r41 : ∀ w ∈ wsL_law0_r41, w ∈ lw_tbl := fun w h => (goodIn_r wsL_law0_r41 [1124, 1125, 1126, 1127, 1128, 1130, 30, 1131, 1132, 1133, 1134, 1135, 1136, 1137, 1868, 1869, 1870, 1871, 1872, 1874, 91, 1875, 1876, 1878] rfl (by decide +kernel) w h).1
set_option maxRecDepth 100000 in
theorem lt_wsL_law0_r42 : ∀ w ∈ wsL_law0_r42, w ∈ lw_tbl := fun w h => (goodIn_r wsL_law0_r42 [92, 1879, 1138, 1139, 1140, 1141, 1142, 1143, 1144, 1145, 1147, 31, 1148, 689, 1880, 1881, 1882, 1883, 1884, 1886, 93, 1887, 1149, 1150] rfl (by decide +kernel) w h).1
set_option maxRecDepth 100000 in
theorem lt_wsL_law0_r43 : ∀ w ∈ wsL_law0_r43, w ∈ lw_tbl := fun w h => (goodIn_r wsL_law0_r43 [1151, 1152, 1153, 1154, 1155, 1156, 1157, 1158, 1159, 1160, 1161, 1162, 1163, 1164, 1165, 1166, 1167, 1168, 1169, 1170, 1171, 1173, 32, 1174] rfl (by decide +kernel) w h).1
set_option maxRecDepth 100000 in
theorem lt_wsL_law0_r44 : ∀ w ∈ wsL_law0_r44, w ∈ lw_tbl := fun w h => (goodIn_r wsL_law0_r44 [1175, 1177, 33, 1178, 1179, 1180, 1181, 1182, 1183, 1184, 1888, 1889, 1890, 1891, 1483, 1892, 1894, 94, 1895, 1896, 1898, 95, 1899, 1185] rfl (by decide +kernel) w h).1
set_option maxRecDepth 100000 in
theorem lt_wsL_law0_r45 : ∀ w ∈ wsL_law0_r45, w ∈ lw_tbl := fun w h => (goodIn_r wsL_law0_r45 [1186, 1187, 1188, 1189, 1190, 1191, 1900, 1901, 1902, 1903, 1192, 1193, 1194, 1195, 1196, 1197, 1198, 1199, 1200, 1201, 1202, 1904, 1905, 1906] rfl (by decide +kernel) w h).1
set_option maxRecDepth 100000 in
theorem lt_wsL_law0_r46 : ∀ w ∈ wsL_law0_r46, w ∈ lw_tbl := fun w h => (goodIn_r wsL_law0_r46 [1907, 1203, 1204, 1205, 1206, 1207, 1208, 1209, 1908, 1909, 1910, 1911, 1210, 1211, 1212, 1213, 1214, 1215, 1216, 1217, 690, 1912, 1913, 1914] rfl (by decide +kernel) w h).1
set_option maxRecDepth 100000 in
theorem lt_wsL_law0_r47 : ∀ w ∈ wsL_law0_r47, w ∈ lw_tbl := fun w h => (goodIn_r wsL_law0_r47 [1915, 1916, 1218, 1219, 1220, 1221, 1222, 1223, 1224, 1225, 1226, 1917, 1918, 1919, 1920, 1227, 1228, 1229, 1230, 1231, 1232, 1233, 1234, 1235] rfl (by decide +kernel) w h).1
set_option maxRecDepth 100000 in
theorem lt_wsL_law0_r48 : ∀ w ∈ wsL_law0_r48, w ∈ lw_tbl := fun w h => (goodIn_r wsL_law0_r48 [1236, 1237, 1238, 1240, 34, 1241, 1921, 1922, 1923, 1924, 1242, 1243, 1244, 1245, 1246, 1247, 1248, 1249, 1250, 1251, 1252, 1253, 1254, 1255] rfl (by decide +kernel) w h).1
set_option maxRecDepth 100000 in
theorem lt_wsL_law0_r49 : ∀ w ∈ wsL_law0_r49, w ∈ lw_tbl := fun w h => (goodIn_r wsL_law0_r49 [1256, 1257, 1258, 358, 357, 1259, 1260, 1261, 1262, 1263, 1264, 1265, 1266, 1267, 1268, 1269, 1270, 1271, 1272, 359, 1273, 1275, 35, 1276] rfl (by decide +kernel) w h).1
set_option maxRecDepth 100000 in
theorem lt_wsL_law0_r50 : ∀ w ∈ wsL_law0_r50, w ∈ lw_tbl := fun w h => (goodIn_r wsL_law0_r50 [1277, 1278, 1279, 1280, 1281, 1282, 1283, 1284, 1285, 1286, 1925, 1926, 1927, 1928, 1487, 1929, 1930, 1932, 96, 1933, 1934, 1936, 97, 1937] rfl (by decide +kernel) w h).1
set_option maxRecDepth 100000 in
theorem lt_wsL_law0_r51 : ∀ w ∈ wsL_law0_r51, w ∈ lw_tbl := fun w h => (goodIn_r wsL_law0_r51 [1938, 1940, 98, 1941, 1287, 1288, 1289, 1290, 1291, 1292, 1293, 1942, 1943, 1944, 1945, 1946, 1947, 1948, 1294, 1295, 1296, 1297, 1298, 1299] rfl (by decide +kernel) w h).1
set_option maxRecDepth 100000 in
theorem lt_wsL_law0_r52 : ∀ w ∈ wsL_law0_r52, w ∈ lw_tbl := fun w h => (goodIn_r wsL_law0_r52 [1300, 1301, 1303, 36, 1304, 1305, 1306, 1308, 37, 1309, 1949, 1950, 1951, 1952, 1953, 1955, 99, 1956, 1310, 1311, 1312, 1313, 1314, 1315] rfl (by decide +kernel) w h).1
set_option maxRecDepth 100000 in
theorem lt_wsL_law0_r53 : ∀ w ∈ wsL_law0_r53, w ∈ lw_tbl := fun w h => (goodIn_r wsL_law0_r53 [1316, 1957, 1958, 1959, 1960, 1317, 1318, 1319, 1320, 1321, 1322, 1323, 1961, 1962, 1963, 1964, 1324, 1325, 1326, 1327, 1328, 1329, 1330, 1331] rfl (by decide +kernel) w h).1
set_option maxRecDepth 100000 in
theorem lt_wsL_law0_r54 : ∀ w ∈ wsL_law0_r54, w ∈ lw_tbl := fun w h => (goodIn_r wsL_law0_r54 [1332, 1333, 1334, 390, 1335, 1336, 1337, 1338, 1340, 38, 1341, 1342, 1344, 39, 1345, 1346, 1348, 40, 1349, 1350, 1351, 1352, 1353, 1965] rfl (by decide +kernel) w h).1
set_option maxRecDepth 100000 in
theorem lt_wsL_law0_r55 : ∀ w ∈ wsL_law0_r55, w ∈ lw_tbl := fun w h => (goodIn_r wsL_law0_r55 [1966, 1967, 1968, 1969, 1971, 100, 1972, 1354, 1355, 1356, 1357, 1358, 1359, 1360, 1361, 1362, 1363, 1364, 1973, 1974, 1975, 1976, 1365, 1366] rfl (by decide +kernel) w h).1
set_option maxRecDepth 100000 in
theorem lt_wsL_law0_r56 : ∀ w ∈ wsL_law0_r56, w ∈ lw_tbl := fun w h => (goodIn_r wsL_law0_r56 [1367, 1368, 1369, 1370, 1371, 1977, 1978, 1979, 1980, 1372, 1373, 1374, 1375, 1376, 1377, 1378, 1981, 1982, 1983, 1984, 1379, 1380, 1381, 1382] rfl (by decide +kernel) w h).1
set_option maxRecDepth 100000 in
theorem lt_wsL_law0_r57 : ∀ w ∈ wsL_law0_r57, w ∈ lw_tbl := fun w h => (goodIn_r wsL_law0_r57 [1383, 1384, 1385, 1985, 1986, 1987, 1988, 493, 494, 495, 496, 658, 659, 660, 661, 413, 662, 664, 8, 665, 666, 667, 668, 669] rfl (by decide +kernel) w h).1
set_option maxRecDepth 100000 in
theorem lt_wsL_law0_r58 : ∀ w ∈ wsL_law0_r58, w ∈ lw_tbl := fun w h => (goodIn_r wsL_law0_r58 [670, 672, 9, 673, 414, 676, 677, 678, 674, 675, 679, 681, 10, 682, 683, 1989, 1990, 1991, 1992, 1993, 1995, 101, 1996, 1997] rfl (by decide +kernel) w h).1
set_option maxRecDepth 100000 in
theorem lt_wsL_law0_r59 : ∀ w ∈ wsL_law0_r59, w ∈ lw_tbl := fun w h => (goodIn_r wsL_law0_r59 [1999, 102, 2000, 2001, 1386, 1387, 1388, 1389, 1390, 1391, 1392, 1393, 1394, 1395, 1396, 1397, 1399, 41, 1400, 2002, 2003, 2004, 2005, 1401] rfl (by decide +kernel) w h).1
set_option maxRecDepth 100000 in
theorem lt_wsL_law0_r60 : ∀ w ∈ wsL_law0_r60, w ∈ lw_tbl := fun w h => (goodIn_r wsL_law0_r60 [1402, 1403, 1404, 1405, 1406, 1407, 2006, 2007, 2008, 2009, 1408, 1409, 1410, 1411, 1412, 1413, 1414, 1415, 1416, 1417, 1418, 1419, 1420, 1421] rfl (by decide +kernel) w h).1
set_option maxRecDepth 100000 in
theorem lt_wsL_law0_r61 : ∀ w ∈ wsL_law0_r61, w ∈ lw_tbl := fun w h => (goodIn_r wsL_law0_r61 [1422, 2010, 2011, 2012, 2013, 2014, 2016, 103, 2017, 1423, 1424, 1425, 1426, 1427, 1428, 1429, 2018, 2019, 2020, 2021, 1430, 1431, 1432, 1433] rfl (by decide +kernel) w h).1
set_option maxRecDepth 100000 in
theorem lt_wsL_law0_r62 : ∀ w ∈ wsL_law0_r62, w ∈ lw_tbl := fun w h => (goodIn_r wsL_law0_r62 [1434, 1435, 1436, 2022, 2023, 2024, 2025, 1437, 1438, 1439, 1440, 1441, 1442, 1443, 2026, 2027, 2028, 2029, 684, 685, 686, 687, 691, 693] rfl (by decide +kernel) w h).1
set_option maxRecDepth 100000 in
theorem lt_wsL_law0_r63 : ∀ w ∈ wsL_law0_r63, w ∈ lw_tbl := fun w h => (goodIn_r wsL_law0_r63 [11, 694, 2030, 2031, 2032, 2033, 695, 696, 697, 698, 429, 699, 700, 701, 702, 703, 1576, 1577, 1578, 1579, 1457, 710, 711, 712] rfl (by decide +kernel) w h).1
set_option maxRecDepth 100000 in
theorem lt_wsL_law0_r64 : ∀ w ∈ wsL_law0_r64, w ∈ lw_tbl := fun w h => (goodIn_r wsL_law0_r64 [713, 1580, 1581, 1582, 1583, 714, 715, 716, 717, 718, 719, 720, 721, 722, 723, 724, 725, 2034, 2035, 2036, 2037] rfl (by decide +kernel) w h).1
