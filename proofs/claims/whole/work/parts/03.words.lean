/-- of each method that is called: where its words stand, and its kind (1 static, 2 a constructor, 3 an instance method) -/
def x_cpY : List (Nat × Nat × Nat × Nat) := [(196, 195, 0, 2), (201, 199, 200, 3), (1211, 1209, 1210, 3), (767, 765, 766, 3), (775, 773, 774, 3), (791, 789, 790, 3), (787, 785, 786, 3), (652, 651, 0, 1), (801, 800, 0, 1), (750, 748, 749, 3), (754, 752, 753, 3), (668, 667, 0, 1), (665, 663, 664, 3), (656, 654, 655, 3), (660, 658, 659, 3), (818, 816, 817, 3), (779, 777, 778, 3), (977, 975, 976, 3), (829, 827, 828, 3), (841, 839, 840, 3), (879, 877, 878, 3), (883, 881, 882, 3), (898, 896, 897, 3), (906, 904, 905, 3), (914, 912, 913, 3), (926, 924, 925, 3), (922, 920, 921, 3), (935, 933, 934, 3), (943, 941, 942, 3), (951, 949, 950, 3), (969, 967, 968, 3), (1069, 1067, 1068, 3), (965, 963, 964, 3), (624, 622, 623, 3), (620, 618, 619, 3), (566, 565, 0, 2), (582, 580, 581, 3), (586, 584, 585, 3), (608, 606, 607, 3), (632, 630, 631, 3), (640, 638, 639, 3), (636, 634, 635, 3), (644, 642, 643, 3), (367, 366, 0, 2), (1201, 1199, 1200, 3), (1159, 1157, 1158, 3), (1164, 1162, 1163, 3), (1189, 1187, 1188, 3), (1192, 1191, 0, 1), (1168, 1166, 1167, 3), (1177, 1175, 1176, 3), (1181, 1179, 1180, 3), (357, 356, 0, 2), (1121, 1120, 10, 3), (1126, 1125, 11, 3), (1138, 1136, 1137, 3), (292, 291, 0, 2), (679, 677, 678, 3), (1220, 1218, 1219, 3), (693, 692, 0, 2), (714, 712, 713, 3), (718, 716, 717, 3), (725, 723, 724, 3), (728, 727, 0, 1), (738, 736, 737, 3), (733, 731, 732, 3), (346, 345, 0, 2), (865, 864, 0, 1), (889, 888, 0, 1), (886, 885, 0, 1), (1030, 1028, 1029, 3), (859, 857, 858, 3), (849, 847, 848, 3), (855, 853, 854, 3), (870, 868, 869, 3), (874, 872, 873, 3), (902, 900, 901, 3), (1047, 1045, 1046, 3), (144, 143, 0, 2), (531, 529, 530, 3), (539, 537, 538, 3), (550, 548, 549, 3), (546, 544, 545, 3), (554, 552, 553, 3), (560, 558, 559, 3), (590, 588, 589, 3), (604, 602, 603, 3), (628, 626, 627, 3), (599, 597, 598, 3), (616, 614, 615, 3), (648, 646, 647, 3), (612, 610, 611, 3), (124, 123, 0, 2), (504, 502, 503, 3), (488, 486, 487, 3), (508, 506, 507, 3), (115, 114, 0, 2), (462, 460, 461, 3), (466, 464, 465, 3), (470, 468, 469, 3), (474, 472, 473, 3), (496, 494, 495, 3), (512, 510, 511, 3), (520, 518, 519, 3), (527, 525, 526, 3), (535, 533, 534, 3), (687, 685, 686, 3), (742, 740, 741, 3), (746, 744, 745, 3), (763, 761, 762, 3), (771, 769, 770, 3), (783, 781, 782, 3), (797, 795, 796, 3), (805, 803, 804, 3), (809, 807, 808, 3), (814, 812, 813, 3), (822, 820, 821, 3), (837, 835, 836, 3), (894, 892, 893, 3), (910, 908, 909, 3), (918, 916, 917, 3), (931, 929, 930, 3), (939, 937, 938, 3), (947, 945, 946, 3), (956, 954, 955, 3), (973, 971, 972, 3), (982, 980, 981, 3), (988, 986, 987, 3), (992, 990, 991, 3), (1001, 999, 1000, 3), (1006, 1004, 1005, 3), (1010, 1008, 1009, 3), (1020, 1018, 1019, 3), (1025, 1023, 1024, 3), (1034, 1032, 1033, 3), (1038, 1036, 1037, 3), (1043, 1041, 1042, 3), (1051, 1049, 1050, 3), (1056, 1054, 1055, 3), (1061, 1059, 1060, 3), (1065, 1063, 1064, 3), (1073, 1071, 1072, 3), (1077, 1075, 1076, 3), (1082, 1080, 1081, 3), (1093, 1091, 1092, 3), (1098, 1096, 1097, 3), (1109, 1107, 1108, 3), (1113, 1111, 1112, 3), (1134, 1132, 1133, 3), (1142, 1140, 1141, 3), (1150, 1148, 1149, 3), (1155, 1153, 1154, 3), (1197, 1195, 1196, 3), (1207, 1205, 1206, 3), (1216, 1214, 1215, 3), (1225, 1223, 1224, 3), (683, 682, 5, 3), (516, 515, 3, 3), (833, 832, 6, 3), (492, 491, 1, 3), (484, 483, 0, 3), (480, 479, 0, 1), (825, 824, 0, 1), (1013, 1012, 0, 1), (477, 476, 0, 1), (1117, 1116, 9, 3), (500, 499, 2, 3), (1146, 1145, 12, 3), (960, 959, 7, 3), (675, 674, 4, 3), (1089, 1088, 8, 3), (1085, 1084, 0, 1), (1101, 1100, 0, 1), (1104, 1103, 0, 1), (1230, 1229, 0, 2), (1235, 1234, 13, 3), (1357, 1355, 1356, 3), (1361, 1359, 1360, 3), (1365, 1363, 1364, 3), (1376, 1375, 14, 3), (1436, 1435, 20, 3), (1584, 1583, 44, 3), (1667, 1666, 55, 3), (1886, 1885, 75, 3), (1372, 1371, 0, 1), (1387, 1386, 0, 1), (1369, 1367, 1368, 3), (1384, 1383, 15, 3), (1380, 1378, 1379, 3), (1391, 1389, 1390, 3), (1396, 1394, 1395, 3), (1678, 1677, 0, 1), (1400, 1398, 1399, 3), (1404, 1403, 16, 3), (1424, 1423, 19, 3), (1427, 1426, 0, 1), (1430, 1429, 0, 1), (1420, 1419, 18, 3), (1553, 1552, 37, 3), (1445, 1444, 22, 3), (1497, 1496, 23, 3), (1416, 1415, 17, 3), (1549, 1548, 36, 3), (1525, 1524, 30, 3), (1501, 1500, 24, 3), (1513, 1512, 27, 3), (1521, 1520, 29, 3), (1517, 1516, 28, 3), (1408, 1406, 1407, 3), (1580, 1579, 43, 3), (1533, 1532, 32, 3), (1509, 1508, 26, 3), (1545, 1544, 35, 3), (1505, 1504, 25, 3), (1529, 1528, 31, 3), (1537, 1536, 33, 3), (1541, 1540, 34, 3), (1440, 1439, 21, 3), (1412, 1410, 1411, 3), (1600, 1599, 47, 3), (1604, 1603, 48, 3), (1596, 1595, 46, 3), (1592, 1591, 45, 3), (1588, 1586, 1587, 3), (1564, 1563, 0, 1), (1631, 1630, 0, 1), (1616, 1615, 49, 3), (1624, 1623, 50, 3), (1643, 1642, 53, 3), (1639, 1638, 52, 3), (1651, 1650, 54, 3), (1674, 1673, 0, 1), (1572, 1571, 41, 3), (1561, 1560, 39, 3), (1576, 1575, 42, 3), (1568, 1567, 40, 3), (1557, 1556, 38, 3), (1628, 1627, 51, 3), (1778, 1777, 70, 3), (1608, 1606, 1607, 3), (1612, 1610, 1611, 3), (1620, 1618, 1619, 3), (1635, 1633, 1634, 3), (1647, 1645, 1646, 3), (1655, 1653, 1654, 3), (1659, 1657, 1658, 3), (1663, 1661, 1662, 3), (1703, 1702, 60, 3), (1699, 1698, 59, 3), (1708, 1707, 61, 3), (1686, 1685, 57, 3), (1682, 1681, 56, 3), (1671, 1669, 1670, 3), (1695, 1694, 58, 3), (1691, 1689, 1690, 3), (1716, 1715, 62, 3), (1712, 1710, 1711, 3), (1724, 1723, 63, 3), (1720, 1718, 1719, 3), (1736, 1735, 65, 3), (1732, 1731, 64, 3), (1728, 1726, 1727, 3), (1740, 1738, 1739, 3), (1744, 1742, 1743, 3), (1748, 1746, 1747, 3), (1765, 1764, 68, 3), (1761, 1760, 67, 3), (1757, 1756, 66, 3), (1753, 1751, 1752, 3), (1774, 1773, 69, 3), (1769, 1767, 1768, 3), (1782, 1780, 1781, 3), (1789, 1787, 1788, 3), (1793, 1791, 1792, 3), (1804, 1803, 71, 3), (1800, 1798, 1799, 3), (1808, 1806, 1807, 3), (1815, 1814, 0, 1), (1812, 1810, 1811, 3), (1819, 1817, 1818, 3), (1823, 1821, 1822, 3), (1827, 1825, 1826, 3), (1831, 1829, 1830, 3), (1843, 1842, 73, 3), (1839, 1838, 72, 3), (1835, 1833, 1834, 3), (1847, 1845, 1846, 3), (1851, 1849, 1850, 3), (1855, 1853, 1854, 3), (1863, 1862, 74, 3), (1859, 1857, 1858, 3), (1867, 1865, 1866, 3), (1871, 1869, 1870, 3), (1878, 1877, 0, 1), (1882, 1881, 0, 1), (1875, 1873, 1874, 3), (1890, 1888, 1889, 3), (1906, 1905, 0, 1), (1903, 1902, 76, 3), (1898, 1897, 0, 1), (1895, 1893, 1894, 3), (1910, 1908, 1909, 3), (1930, 1929, 79, 3), (1934, 1933, 80, 3), (1926, 1925, 0, 1), (1938, 1937, 81, 3), (1923, 1922, 78, 3), (1918, 1917, 77, 3), (1914, 1912, 1913, 3), (1942, 1940, 1941, 3), (1946, 1944, 1945, 3), (1950, 1948, 1949, 3), (1986, 1985, 89, 3), (1970, 1969, 85, 3), (1966, 1965, 84, 3), (1974, 1973, 86, 3), (1978, 1977, 87, 3), (1982, 1981, 88, 3), (1962, 1961, 83, 3), (1991, 1990, 90, 3), (1995, 1994, 91, 3), (1958, 1957, 82, 3), (1954, 1952, 1953, 3), (1999, 1997, 1998, 3), (2003, 2001, 2002, 3), (2012, 2011, 92, 3), (2008, 2006, 2007, 3), (2016, 2014, 2015, 3), (0, 0, 0, 0)]
def x_kd (a : Nat) : Nat := (x_cpY.getD a (0, 0, 0, 0)).2.2.2
def x_ckY (a : Nat) : Bool := let e := x_cpY.getD a (0, 0, 0, 0)
  match e.2.2.2 with
  | 0 => true
  | 1 => x_ckw e.2.1 (.static (x_y a))
  | 2 => x_ckw e.2.1 (.instanceMethod (x_y a))
  | _ => x_ckw e.2.1 (.instanceMethod (x_y a)) && x_ckw e.2.2.1 (.selects (x_own a) (x_y a) (x_y a))
def x_ckZ (a : Nat) : Bool := decide ((x_y a).cls = x_own a ∧ x_ow a < 12 ∧ x_ml a ≤ 40 ∧ plainName (x_y a).cls = true) && (decide ((x_y a).cls ≠ "java/lang/invoke/MethodHandle" ∧ (x_y a).cls ≠ "java/lang/invoke/VarHandle") && decide ((parseMethodDescriptor (x_y a).desc).map (fun d => d.parameters.length) = some (match x_kd a with | 1 => x_na a | _ => x_na a - 1)))
theorem x_cy0 : ((List.range 30).drop 0).all x_ckY = true := by decide +kernel
theorem x_cz0 : ((List.range 30).drop 0).all x_ckZ = true := by decide +kernel
theorem x_cy1 : ((List.range 60).drop 30).all x_ckY = true := by decide +kernel
theorem x_cz1 : ((List.range 60).drop 30).all x_ckZ = true := by decide +kernel
theorem x_cy2 : ((List.range 90).drop 60).all x_ckY = true := by decide +kernel
theorem x_cz2 : ((List.range 90).drop 60).all x_ckZ = true := by decide +kernel
theorem x_cy3 : ((List.range 120).drop 90).all x_ckY = true := by decide +kernel
theorem x_cz3 : ((List.range 120).drop 90).all x_ckZ = true := by decide +kernel
theorem x_cy4 : ((List.range 150).drop 120).all x_ckY = true := by decide +kernel
theorem x_cz4 : ((List.range 150).drop 120).all x_ckZ = true := by decide +kernel
theorem x_cy5 : ((List.range 180).drop 150).all x_ckY = true := by decide +kernel
theorem x_cz5 : ((List.range 180).drop 150).all x_ckZ = true := by decide +kernel
theorem x_cy6 : ((List.range 210).drop 180).all x_ckY = true := by decide +kernel
theorem x_cz6 : ((List.range 210).drop 180).all x_ckZ = true := by decide +kernel
theorem x_cy7 : ((List.range 240).drop 210).all x_ckY = true := by decide +kernel
theorem x_cz7 : ((List.range 240).drop 210).all x_ckZ = true := by decide +kernel
theorem x_cy8 : ((List.range 270).drop 240).all x_ckY = true := by decide +kernel
theorem x_cz8 : ((List.range 270).drop 240).all x_ckZ = true := by decide +kernel
theorem x_cy9 : ((List.range 300).drop 270).all x_ckY = true := by decide +kernel
theorem x_cz9 : ((List.range 300).drop 270).all x_ckZ = true := by decide +kernel
theorem x_cy10 : ((List.range 329).drop 300).all x_ckY = true := by decide +kernel
theorem x_cz10 : ((List.range 329).drop 300).all x_ckZ = true := by decide +kernel
theorem x_ckY_all {a : Nat} (h : a < 329) : x_ckY a = true := by
  rcases Nat.lt_or_ge a 30 with q | q
  · exact List.all_eq_true.mp x_cy0 a (List.mem_drop_iff_getElem.mpr ⟨a - 0, by simp <;> omega, by simp <;> omega⟩)
  rcases Nat.lt_or_ge a 60 with q | q
  · exact List.all_eq_true.mp x_cy1 a (List.mem_drop_iff_getElem.mpr ⟨a - 30, by simp <;> omega, by simp <;> omega⟩)
  rcases Nat.lt_or_ge a 90 with q | q
  · exact List.all_eq_true.mp x_cy2 a (List.mem_drop_iff_getElem.mpr ⟨a - 60, by simp <;> omega, by simp <;> omega⟩)
  rcases Nat.lt_or_ge a 120 with q | q
  · exact List.all_eq_true.mp x_cy3 a (List.mem_drop_iff_getElem.mpr ⟨a - 90, by simp <;> omega, by simp <;> omega⟩)
  rcases Nat.lt_or_ge a 150 with q | q
  · exact List.all_eq_true.mp x_cy4 a (List.mem_drop_iff_getElem.mpr ⟨a - 120, by simp <;> omega, by simp <;> omega⟩)
  rcases Nat.lt_or_ge a 180 with q | q
  · exact List.all_eq_true.mp x_cy5 a (List.mem_drop_iff_getElem.mpr ⟨a - 150, by simp <;> omega, by simp <;> omega⟩)
  rcases Nat.lt_or_ge a 210 with q | q
  · exact List.all_eq_true.mp x_cy6 a (List.mem_drop_iff_getElem.mpr ⟨a - 180, by simp <;> omega, by simp <;> omega⟩)
  rcases Nat.lt_or_ge a 240 with q | q
  · exact List.all_eq_true.mp x_cy7 a (List.mem_drop_iff_getElem.mpr ⟨a - 210, by simp <;> omega, by simp <;> omega⟩)
  rcases Nat.lt_or_ge a 270 with q | q
  · exact List.all_eq_true.mp x_cy8 a (List.mem_drop_iff_getElem.mpr ⟨a - 240, by simp <;> omega, by simp <;> omega⟩)
  rcases Nat.lt_or_ge a 300 with q | q
  · exact List.all_eq_true.mp x_cy9 a (List.mem_drop_iff_getElem.mpr ⟨a - 270, by simp <;> omega, by simp <;> omega⟩)
  rcases Nat.lt_or_ge a 329 with q | q
  · exact List.all_eq_true.mp x_cy10 a (List.mem_drop_iff_getElem.mpr ⟨a - 300, by simp <;> omega, by simp <;> omega⟩)
  · omega
theorem x_ckZ_all {a : Nat} (h : a < 329) : x_ckZ a = true := by
  rcases Nat.lt_or_ge a 30 with q | q
  · exact List.all_eq_true.mp x_cz0 a (List.mem_drop_iff_getElem.mpr ⟨a - 0, by simp <;> omega, by simp <;> omega⟩)
  rcases Nat.lt_or_ge a 60 with q | q
  · exact List.all_eq_true.mp x_cz1 a (List.mem_drop_iff_getElem.mpr ⟨a - 30, by simp <;> omega, by simp <;> omega⟩)
  rcases Nat.lt_or_ge a 90 with q | q
  · exact List.all_eq_true.mp x_cz2 a (List.mem_drop_iff_getElem.mpr ⟨a - 60, by simp <;> omega, by simp <;> omega⟩)
  rcases Nat.lt_or_ge a 120 with q | q
  · exact List.all_eq_true.mp x_cz3 a (List.mem_drop_iff_getElem.mpr ⟨a - 90, by simp <;> omega, by simp <;> omega⟩)
  rcases Nat.lt_or_ge a 150 with q | q
  · exact List.all_eq_true.mp x_cz4 a (List.mem_drop_iff_getElem.mpr ⟨a - 120, by simp <;> omega, by simp <;> omega⟩)
  rcases Nat.lt_or_ge a 180 with q | q
  · exact List.all_eq_true.mp x_cz5 a (List.mem_drop_iff_getElem.mpr ⟨a - 150, by simp <;> omega, by simp <;> omega⟩)
  rcases Nat.lt_or_ge a 210 with q | q
  · exact List.all_eq_true.mp x_cz6 a (List.mem_drop_iff_getElem.mpr ⟨a - 180, by simp <;> omega, by simp <;> omega⟩)
  rcases Nat.lt_or_ge a 240 with q | q
  · exact List.all_eq_true.mp x_cz7 a (List.mem_drop_iff_getElem.mpr ⟨a - 210, by simp <;> omega, by simp <;> omega⟩)
  rcases Nat.lt_or_ge a 270 with q | q
  · exact List.all_eq_true.mp x_cz8 a (List.mem_drop_iff_getElem.mpr ⟨a - 240, by simp <;> omega, by simp <;> omega⟩)
  rcases Nat.lt_or_ge a 300 with q | q
  · exact List.all_eq_true.mp x_cz9 a (List.mem_drop_iff_getElem.mpr ⟨a - 270, by simp <;> omega, by simp <;> omega⟩)
  rcases Nat.lt_or_ge a 329 with q | q
  · exact List.all_eq_true.mp x_cz10 a (List.mem_drop_iff_getElem.mpr ⟨a - 300, by simp <;> omega, by simp <;> omega⟩)
  · omega
theorem x_sub0 {w : Cond} (h : w ∈ tables_1) : w ∈ lw_tbl := List.mem_append_right _ h
theorem x_sub1 {w : Cond} (h : w ∈ tables_1_1) : w ∈ lw_tbl := x_sub0 (List.mem_append_left _ h)
theorem x_sub2 {w : Cond} (h : w ∈ tables_1_2) : w ∈ lw_tbl := x_sub0 (List.mem_append_right _ (List.mem_append_left _ h))
theorem x_sub3 {w : Cond} (h : w ∈ tables_1_3) : w ∈ lw_tbl := x_sub0 (List.mem_append_right _ (List.mem_append_right _ (List.mem_append_left _ h)))
theorem x_sub4 {w : Cond} (h : w ∈ tables_1_4) : w ∈ lw_tbl := x_sub0 (List.mem_append_right _ (List.mem_append_right _ (List.mem_append_right _ (List.mem_append_left _ h))))
theorem x_sub5 {w : Cond} (h : w ∈ tables_1_5) : w ∈ lw_tbl := x_sub0 (List.mem_append_right _ (List.mem_append_right _ (List.mem_append_right _ (List.mem_append_right _ (List.mem_append_left _ h)))))
theorem x_sub6 {w : Cond} (h : w ∈ tables_1_6) : w ∈ lw_tbl := x_sub0 (List.mem_append_right _ (List.mem_append_right _ (List.mem_append_right _ (List.mem_append_right _ (List.mem_append_right _ (List.mem_append_left _ h))))))
theorem x_sub7 {w : Cond} (h : w ∈ tables_1_7) : w ∈ lw_tbl := x_sub0 (List.mem_append_right _ (List.mem_append_right _ (List.mem_append_right _ (List.mem_append_right _ (List.mem_append_right _ (List.mem_append_right _ (List.mem_append_left _ h)))))))
theorem x_sub8 {w : Cond} (h : w ∈ tables_1_8) : w ∈ lw_tbl := x_sub0 (List.mem_append_right _ (List.mem_append_right _ (List.mem_append_right _ (List.mem_append_right _ (List.mem_append_right _ (List.mem_append_right _ (List.mem_append_right _ (List.mem_append_left _ h))))))))
theorem x_sub9 {w : Cond} (h : w ∈ tables_1_9) : w ∈ lw_tbl := x_sub0 (List.mem_append_right _ (List.mem_append_right _ (List.mem_append_right _ (List.mem_append_right _ (List.mem_append_right _ (List.mem_append_right _ (List.mem_append_right _ (List.mem_append_right _ (h)))))))))
theorem x_cw0 : Cond.code yX0_init cX0_init 1 none ∈ x_gd := List.mem_filter.mpr ⟨x_sub1 (List.mem_of_getElem? (i := 103) rfl), rfl⟩
theorem x_cw1 : Cond.code yX0_clear cX0_clear 2 none ∈ x_gd := List.mem_filter.mpr ⟨x_sub1 (List.mem_of_getElem? (i := 108) rfl), rfl⟩
theorem x_cw2 : Cond.code yX0_copyFrom cX0_copyFrom 2 none ∈ x_gd := List.mem_filter.mpr ⟨x_sub5 (List.mem_of_getElem? (i := 158) rfl), rfl⟩
theorem x_cw3 : Cond.code yX0_hasKind cX0_hasKind 2 (some .boolean) ∈ x_gd := List.mem_filter.mpr ⟨x_sub3 (List.mem_of_getElem? (i := 194) rfl), rfl⟩
theorem x_cw4 : Cond.code yX0_hasGood cX0_hasGood 2 (some .boolean) ∈ x_gd := List.mem_filter.mpr ⟨x_sub3 (List.mem_of_getElem? (i := 202) rfl), rfl⟩
theorem x_cw5 : Cond.code yX0_hasPerson cX0_hasPerson 2 (some .boolean) ∈ x_gd := List.mem_filter.mpr ⟨x_sub3 (List.mem_of_getElem? (i := 218) rfl), rfl⟩
theorem x_cw6 : Cond.code yX0_hasPurse cX0_hasPurse 3 (some .boolean) ∈ x_gd := List.mem_filter.mpr ⟨x_sub3 (List.mem_of_getElem? (i := 214) rfl), rfl⟩
theorem x_cw7 : Cond.code yX0_purse cX0_purse 2 (some .int) ∈ x_gd := List.mem_filter.mpr ⟨x_sub3 (List.mem_of_getElem? (i := 79) rfl), rfl⟩
theorem x_cw8 : Cond.code yX0_chest cX0_chest 2 (some .int) ∈ x_gd := List.mem_filter.mpr ⟨x_sub3 (List.mem_of_getElem? (i := 228) rfl), rfl⟩
theorem x_cw9 : Cond.code yX0_toldOfText cX0_toldOfText 2 (some .int) ∈ x_gd := List.mem_filter.mpr ⟨x_sub3 (List.mem_of_getElem? (i := 177) rfl), rfl⟩
theorem x_cw10 : Cond.code yX0_toldOfTime cX0_toldOfTime 2 (some .int) ∈ x_gd := List.mem_filter.mpr ⟨x_sub3 (List.mem_of_getElem? (i := 181) rfl), rfl⟩
theorem x_cw11 : Cond.code yX0_levelBy cX0_levelBy 2 (some .int) ∈ x_gd := List.mem_filter.mpr ⟨x_sub3 (List.mem_of_getElem? (i := 95) rfl), rfl⟩
theorem x_cw12 : Cond.code yX0_levelAfter cX0_levelAfter 3 (some .int) ∈ x_gd := List.mem_filter.mpr ⟨x_sub3 (List.mem_of_getElem? (i := 92) rfl), rfl⟩
theorem x_cw13 : Cond.code yX0_outNow cX0_outNow 3 (some .int) ∈ x_gd := List.mem_filter.mpr ⟨x_sub3 (List.mem_of_getElem? (i := 83) rfl), rfl⟩
theorem x_cw14 : Cond.code yX0_worthOf cX0_worthOf 5 (some .int) ∈ x_gd := List.mem_filter.mpr ⟨x_sub3 (List.mem_of_getElem? (i := 87) rfl), rfl⟩
theorem x_cw15 : Cond.code yX0_wealthOf cX0_wealthOf 2 (some .int) ∈ x_gd := List.mem_filter.mpr ⟨x_sub4 (List.mem_of_getElem? (i := 5) rfl), rfl⟩
theorem x_cw16 : Cond.code yX0_priceOf cX0_priceOf 2 (some .long) ∈ x_gd := List.mem_filter.mpr ⟨x_sub3 (List.mem_of_getElem? (i := 206) rfl), rfl⟩
theorem x_cw17 : Cond.code yX0_passMonths cX0_passMonths 2 (some .boolean) ∈ x_gd := List.mem_filter.mpr ⟨x_sub4 (List.mem_of_getElem? (i := 164) rfl), rfl⟩
theorem x_cw18 : Cond.code yX0_printFor cX0_printFor 5 (some .int) ∈ x_gd := List.mem_filter.mpr ⟨x_sub4 (List.mem_of_getElem? (i := 16) rfl), rfl⟩
theorem x_cw19 : Cond.code yX0_wayToBuy cX0_wayToBuy 7 (some .long) ∈ x_gd := List.mem_filter.mpr ⟨x_sub4 (List.mem_of_getElem? (i := 28) rfl), rfl⟩
theorem x_cw20 : Cond.code yX0_purchase cX0_purchase 6 (some .int) ∈ x_gd := List.mem_filter.mpr ⟨x_sub4 (List.mem_of_getElem? (i := 66) rfl), rfl⟩
theorem x_cw21 : Cond.code yX0_tradeGoods cX0_tradeGoods 8 none ∈ x_gd := List.mem_filter.mpr ⟨x_sub4 (List.mem_of_getElem? (i := 70) rfl), rfl⟩
theorem x_cw22 : Cond.code yX0_takeGoods cX0_takeGoods 9 (some .int) ∈ x_gd := List.mem_filter.mpr ⟨x_sub4 (List.mem_of_getElem? (i := 85) rfl), rfl⟩
theorem x_cw23 : Cond.code yX0_hasRoomFor cX0_hasRoomFor 5 (some .boolean) ∈ x_gd := List.mem_filter.mpr ⟨x_sub4 (List.mem_of_getElem? (i := 93) rfl), rfl⟩
theorem x_cw24 : Cond.code yX0_tearUp cX0_tearUp 5 (some .int) ∈ x_gd := List.mem_filter.mpr ⟨x_sub4 (List.mem_of_getElem? (i := 101) rfl), rfl⟩
theorem x_cw25 : Cond.code yX0_keptFrom cX0_keptFrom 2 (some .int) ∈ x_gd := List.mem_filter.mpr ⟨x_sub4 (List.mem_of_getElem? (i := 113) rfl), rfl⟩
theorem x_cw26 : Cond.code yX0_mendTorn cX0_mendTorn 6 (some .int) ∈ x_gd := List.mem_filter.mpr ⟨x_sub4 (List.mem_of_getElem? (i := 109) rfl), rfl⟩
theorem x_cw27 : Cond.code yX0_handOver cX0_handOver 7 (some .boolean) ∈ x_gd := List.mem_filter.mpr ⟨x_sub4 (List.mem_of_getElem? (i := 122) rfl), rfl⟩
theorem x_cw28 : Cond.code yX0_burnWhole cX0_burnWhole 5 (some .int) ∈ x_gd := List.mem_filter.mpr ⟨x_sub4 (List.mem_of_getElem? (i := 130) rfl), rfl⟩
theorem x_cw29 : Cond.code yX0_carryOut cX0_carryOut 6 (some .int) ∈ x_gd := List.mem_filter.mpr ⟨x_sub4 (List.mem_of_getElem? (i := 138) rfl), rfl⟩
theorem x_cw30 : Cond.code yX0_renewedFor cX0_renewedFor 4 (some .int) ∈ x_gd := List.mem_filter.mpr ⟨x_sub4 (List.mem_of_getElem? (i := 156) rfl), rfl⟩
theorem x_cw31 : Cond.code yX0_lossOf cX0_lossOf 4 (some .int) ∈ x_gd := List.mem_filter.mpr ⟨x_sub5 (List.mem_of_getElem? (i := 16) rfl), rfl⟩
theorem x_cw32 : Cond.code yX0_renewAll cX0_renewAll 5 none ∈ x_gd := List.mem_filter.mpr ⟨x_sub4 (List.mem_of_getElem? (i := 152) rfl), rfl⟩
theorem x_cw33 : Cond.code yX0_findName cX0_findName 6 (some .int) ∈ x_gd := List.mem_filter.mpr ⟨x_sub3 (List.mem_of_getElem? (i := 51) rfl), rfl⟩
theorem x_cw34 : Cond.code yX0_isTakenName cX0_isTakenName 3 (some .boolean) ∈ x_gd := List.mem_filter.mpr ⟨x_sub3 (List.mem_of_getElem? (i := 47) rfl), rfl⟩
theorem x_cw35 : Cond.code yX1_init cX1_init 3 none ∈ x_gd := List.mem_filter.mpr ⟨x_sub2 (List.mem_of_getElem? (i := 233) rfl), rfl⟩
theorem x_cw36 : Cond.code yX1_isTaken cX1_isTaken 3 (some .boolean) ∈ x_gd := List.mem_filter.mpr ⟨x_sub3 (List.mem_of_getElem? (i := 9) rfl), rfl⟩
theorem x_cw37 : Cond.code yX1_readRule cX1_readRule 2 (some .boolean) ∈ x_gd := List.mem_filter.mpr ⟨x_sub3 (List.mem_of_getElem? (i := 13) rfl), rfl⟩
theorem x_cw38 : Cond.code yX1_readKind cX1_readKind 2 (some .boolean) ∈ x_gd := List.mem_filter.mpr ⟨x_sub3 (List.mem_of_getElem? (i := 35) rfl), rfl⟩
theorem x_cw39 : Cond.code yX1_readGood cX1_readGood 2 (some .boolean) ∈ x_gd := List.mem_filter.mpr ⟨x_sub3 (List.mem_of_getElem? (i := 59) rfl), rfl⟩
theorem x_cw40 : Cond.code yX1_readPerson cX1_readPerson 2 (some .boolean) ∈ x_gd := List.mem_filter.mpr ⟨x_sub3 (List.mem_of_getElem? (i := 67) rfl), rfl⟩
theorem x_cw41 : Cond.code yX1_readChoice cX1_readChoice 4 (some .boolean) ∈ x_gd := List.mem_filter.mpr ⟨x_sub3 (List.mem_of_getElem? (i := 63) rfl), rfl⟩
theorem x_cw42 : Cond.code yX1_readHas cX1_readHas 3 (some .boolean) ∈ x_gd := List.mem_filter.mpr ⟨x_sub3 (List.mem_of_getElem? (i := 71) rfl), rfl⟩
theorem x_cw43 : Cond.code yX2_init cX2_init 2 none ∈ x_gd := List.mem_filter.mpr ⟨x_sub2 (List.mem_of_getElem? (i := 34) rfl), rfl⟩
theorem x_cw44 : Cond.code yX2_toldOf cX2_toldOf 2 (some .int) ∈ x_gd := List.mem_filter.mpr ⟨x_sub5 (List.mem_of_getElem? (i := 148) rfl), rfl⟩
theorem x_cw45 : Cond.code yX2_unfold cX2_unfold 8 none ∈ x_gd := List.mem_filter.mpr ⟨x_sub5 (List.mem_of_getElem? (i := 106) rfl), rfl⟩
theorem x_cw46 : Cond.code yX2_lineAfterEnd cX2_lineAfterEnd 4 (some .int) ∈ x_gd := List.mem_filter.mpr ⟨x_sub5 (List.mem_of_getElem? (i := 111) rfl), rfl⟩
theorem x_cw47 : Cond.code yX2_lineAfterStep cX2_lineAfterStep 5 (some .int) ∈ x_gd := List.mem_filter.mpr ⟨x_sub5 (List.mem_of_getElem? (i := 136) rfl), rfl⟩
theorem x_cw48 : Cond.code yX2_holdsTrue cX2_holdsTrue 5 (some .boolean) ∈ x_gd := List.mem_filter.mpr ⟨x_sub5 (List.mem_of_getElem? (i := 139) rfl), rfl⟩
theorem x_cw49 : Cond.code yX2_isDone cX2_isDone 9 (some .boolean) ∈ x_gd := List.mem_filter.mpr ⟨x_sub5 (List.mem_of_getElem? (i := 115) rfl), rfl⟩
theorem x_cw50 : Cond.code yX2_isPassed cX2_isPassed 3 (some .boolean) ∈ x_gd := List.mem_filter.mpr ⟨x_sub5 (List.mem_of_getElem? (i := 124) rfl), rfl⟩
theorem x_cw51 : Cond.code yX2_draw cX2_draw 2 (some .int) ∈ x_gd := List.mem_filter.mpr ⟨x_sub5 (List.mem_of_getElem? (i := 128) rfl), rfl⟩
theorem x_cw52 : Cond.code yX3_init cX3_init 2 none ∈ x_gd := List.mem_filter.mpr ⟨x_sub2 (List.mem_of_getElem? (i := 24) rfl), rfl⟩
theorem x_cw53 : Cond.code yX3_lead cX3_lead 7 (some .int) ∈ x_gd := List.mem_filter.mpr ⟨x_sub5 (List.mem_of_getElem? (i := 68) rfl), rfl⟩
theorem x_cw54 : Cond.code yX3_leadBuying cX3_leadBuying 9 (some .int) ∈ x_gd := List.mem_filter.mpr ⟨x_sub5 (List.mem_of_getElem? (i := 73) rfl), rfl⟩
theorem x_cw55 : Cond.code yX3_bestGood cX3_bestGood 9 (some .int) ∈ x_gd := List.mem_filter.mpr ⟨x_sub5 (List.mem_of_getElem? (i := 85) rfl), rfl⟩
theorem x_cw56 : Cond.code yX4_init cX4_init 1 none ∈ x_gd := List.mem_filter.mpr ⟨x_sub1 (List.mem_of_getElem? (i := 199) rfl), rfl⟩
theorem x_cw57 : Cond.code yX4_clear cX4_clear 1 none ∈ x_gd := List.mem_filter.mpr ⟨x_sub3 (List.mem_of_getElem? (i := 106) rfl), rfl⟩
theorem x_cw58 : Cond.code yX4_copyFrom cX4_copyFrom 2 none ∈ x_gd := List.mem_filter.mpr ⟨x_sub5 (List.mem_of_getElem? (i := 167) rfl), rfl⟩
theorem x_cw59 : Cond.code yX5_init cX5_init 4 none ∈ x_gd := List.mem_filter.mpr ⟨x_sub3 (List.mem_of_getElem? (i := 120) rfl), rfl⟩
theorem x_cw60 : Cond.code yX5_isTaken cX5_isTaken 3 (some .boolean) ∈ x_gd := List.mem_filter.mpr ⟨x_sub3 (List.mem_of_getElem? (i := 141) rfl), rfl⟩
theorem x_cw61 : Cond.code yX5_readEnd cX5_readEnd 2 (some .boolean) ∈ x_gd := List.mem_filter.mpr ⟨x_sub3 (List.mem_of_getElem? (i := 145) rfl), rfl⟩
theorem x_cw62 : Cond.code yX5_readStep cX5_readStep 5 (some .boolean) ∈ x_gd := List.mem_filter.mpr ⟨x_sub3 (List.mem_of_getElem? (i := 152) rfl), rfl⟩
theorem x_cw63 : Cond.code yX5_isStepWord cX5_isStepWord 1 (some .boolean) ∈ x_gd := List.mem_filter.mpr ⟨x_sub3 (List.mem_of_getElem? (i := 155) rfl), rfl⟩
theorem x_cw64 : Cond.code yX5_readDeed cX5_readDeed 4 (some .boolean) ∈ x_gd := List.mem_filter.mpr ⟨x_sub3 (List.mem_of_getElem? (i := 165) rfl), rfl⟩
theorem x_cw65 : Cond.code yX5_readTest cX5_readTest 4 (some .boolean) ∈ x_gd := List.mem_filter.mpr ⟨x_sub3 (List.mem_of_getElem? (i := 160) rfl), rfl⟩
theorem x_cw66 : Cond.code yX6_init cX6_init 1 none ∈ x_gd := List.mem_filter.mpr ⟨x_sub2 (List.mem_of_getElem? (i := 13) rfl), rfl⟩
theorem x_cw67 : Cond.code yX6_costOf cX6_costOf 1 (some .long) ∈ x_gd := List.mem_filter.mpr ⟨x_sub4 (List.mem_of_getElem? (i := 52) rfl), rfl⟩
theorem x_cw68 : Cond.code yX6_sheetsIn cX6_sheetsIn 2 (some .int) ∈ x_gd := List.mem_filter.mpr ⟨x_sub4 (List.mem_of_getElem? (i := 76) rfl), rfl⟩
theorem x_cw69 : Cond.code yX6_sheetsOfKind cX6_sheetsOfKind 5 (some .int) ∈ x_gd := List.mem_filter.mpr ⟨x_sub4 (List.mem_of_getElem? (i := 73) rfl), rfl⟩
theorem x_cw70 : Cond.code yX6_isPayable cX6_isPayable 2 (some .boolean) ∈ x_gd := List.mem_filter.mpr ⟨x_sub4 (List.mem_of_getElem? (i := 217) rfl), rfl⟩
theorem x_cw71 : Cond.code yX6_beginWays cX6_beginWays 3 none ∈ x_gd := List.mem_filter.mpr ⟨x_sub4 (List.mem_of_getElem? (i := 46) rfl), rfl⟩
theorem x_cw72 : Cond.code yX6_wayFromPurse cX6_wayFromPurse 12 (some .long) ∈ x_gd := List.mem_filter.mpr ⟨x_sub4 (List.mem_of_getElem? (i := 36) rfl), rfl⟩
theorem x_cw73 : Cond.code yX6_fillFromPurse cX6_fillFromPurse 11 none ∈ x_gd := List.mem_filter.mpr ⟨x_sub4 (List.mem_of_getElem? (i := 42) rfl), rfl⟩
theorem x_cw74 : Cond.code yX6_layAlone cX6_layAlone 6 none ∈ x_gd := List.mem_filter.mpr ⟨x_sub4 (List.mem_of_getElem? (i := 57) rfl), rfl⟩
theorem x_cw75 : Cond.code yX6_addBundle cX6_addBundle 8 none ∈ x_gd := List.mem_filter.mpr ⟨x_sub4 (List.mem_of_getElem? (i := 61) rfl), rfl⟩
theorem x_cw76 : Cond.code yX6_wayOfPrint cX6_wayOfPrint 10 (some .long) ∈ x_gd := List.mem_filter.mpr ⟨x_sub4 (List.mem_of_getElem? (i := 89) rfl), rfl⟩
theorem x_cw77 : Cond.code yX6_fillWithCounts cX6_fillWithCounts 7 none ∈ x_gd := List.mem_filter.mpr ⟨x_sub4 (List.mem_of_getElem? (i := 234) rfl), rfl⟩
theorem x_cw78 : Cond.code yX7_init cX7_init 1 none ∈ x_gd := List.mem_filter.mpr ⟨x_sub1 (List.mem_of_getElem? (i := 51) rfl), rfl⟩
theorem x_cw79 : Cond.code yX7_putInt cX7_putInt 3 none ∈ x_gd := List.mem_filter.mpr ⟨x_sub2 (List.mem_of_getElem? (i := 198) rfl), rfl⟩
theorem x_cw80 : Cond.code yX7_open cX7_open 2 none ∈ x_gd := List.mem_filter.mpr ⟨x_sub2 (List.mem_of_getElem? (i := 206) rfl), rfl⟩
theorem x_cw81 : Cond.code yX7_sortAt cX7_sortAt 3 (some .int) ∈ x_gd := List.mem_filter.mpr ⟨x_sub2 (List.mem_of_getElem? (i := 217) rfl), rfl⟩
theorem x_cw82 : Cond.code yX7_advance cX7_advance 1 none ∈ x_gd := List.mem_filter.mpr ⟨x_sub2 (List.mem_of_getElem? (i := 213) rfl), rfl⟩
theorem x_cw83 : Cond.code yX7_packWord cX7_packWord 2 none ∈ x_gd := List.mem_filter.mpr ⟨x_sub2 (List.mem_of_getElem? (i := 221) rfl), rfl⟩
theorem x_cw84 : Cond.code yX7_packNumber cX7_packNumber 2 none ∈ x_gd := List.mem_filter.mpr ⟨x_sub2 (List.mem_of_getElem? (i := 227) rfl), rfl⟩
theorem x_cw85 : Cond.code yX7_fail cX7_fail 2 (some .boolean) ∈ x_gd := List.mem_filter.mpr ⟨x_sub3 (List.mem_of_getElem? (i := 17) rfl), rfl⟩
theorem x_cw86 : Cond.code yX7_takeSign cX7_takeSign 2 (some .boolean) ∈ x_gd := List.mem_filter.mpr ⟨x_sub3 (List.mem_of_getElem? (i := 31) rfl), rfl⟩
theorem x_cw87 : Cond.code yX7_takeWord cX7_takeWord 2 (some .boolean) ∈ x_gd := List.mem_filter.mpr ⟨x_sub3 (List.mem_of_getElem? (i := 55) rfl), rfl⟩
theorem x_cw88 : Cond.code yX7_takeNumber cX7_takeNumber 3 (some .boolean) ∈ x_gd := List.mem_filter.mpr ⟨x_sub3 (List.mem_of_getElem? (i := 26) rfl), rfl⟩
theorem x_cw89 : Cond.code yX7_isName cX7_isName 1 (some .boolean) ∈ x_gd := List.mem_filter.mpr ⟨x_sub3 (List.mem_of_getElem? (i := 43) rfl), rfl⟩
theorem x_cw90 : Cond.code yX7_takeOldName cX7_takeOldName 3 (some .boolean) ∈ x_gd := List.mem_filter.mpr ⟨x_sub3 (List.mem_of_getElem? (i := 75) rfl), rfl⟩
theorem x_cw91 : Cond.code yX7_takeNewName cX7_takeNewName 3 (some .boolean) ∈ x_gd := List.mem_filter.mpr ⟨x_sub3 (List.mem_of_getElem? (i := 39) rfl), rfl⟩
theorem x_cw92 : Cond.code yX8_init cX8_init 1 none ∈ x_gd := List.mem_filter.mpr ⟨x_sub1 (List.mem_of_getElem? (i := 31) rfl), rfl⟩
theorem x_cw93 : Cond.code yX8_isMissing cX8_isMissing 1 (some .boolean) ∈ x_gd := List.mem_filter.mpr ⟨x_sub2 (List.mem_of_getElem? (i := 171) rfl), rfl⟩
theorem x_cw94 : Cond.code yX8_begin cX8_begin 4 none ∈ x_gd := List.mem_filter.mpr ⟨x_sub2 (List.mem_of_getElem? (i := 155) rfl), rfl⟩
theorem x_cw95 : Cond.code yX8_put cX8_put 4 none ∈ x_gd := List.mem_filter.mpr ⟨x_sub2 (List.mem_of_getElem? (i := 175) rfl), rfl⟩
theorem x_cw96 : Cond.code yX9_init cX9_init 2 none ∈ x_gd := List.mem_filter.mpr ⟨x_sub1 (List.mem_of_getElem? (i := 22) rfl), rfl⟩
theorem x_cw97 : Cond.code yX9_status cX9_status 1 (some .int) ∈ x_gd := List.mem_filter.mpr ⟨x_sub2 (List.mem_of_getElem? (i := 129) rfl), rfl⟩
theorem x_cw98 : Cond.code yX9_top cX9_top 1 (some .long) ∈ x_gd := List.mem_filter.mpr ⟨x_sub2 (List.mem_of_getElem? (i := 133) rfl), rfl⟩
theorem x_cw99 : Cond.code yX9_bottom cX9_bottom 1 (some .long) ∈ x_gd := List.mem_filter.mpr ⟨x_sub2 (List.mem_of_getElem? (i := 137) rfl), rfl⟩
theorem x_cw100 : Cond.code yX9_tray cX9_tray 4 (some .boolean) ∈ x_gd := List.mem_filter.mpr ⟨x_sub2 (List.mem_of_getElem? (i := 141) rfl), rfl⟩
theorem x_cw101 : Cond.code yX9_write cX9_write 6 (some .boolean) ∈ x_gd := List.mem_filter.mpr ⟨x_sub2 (List.mem_of_getElem? (i := 163) rfl), rfl⟩
theorem x_cw102 : Cond.code yX9_read cX9_read 4 (some .long) ∈ x_gd := List.mem_filter.mpr ⟨x_sub2 (List.mem_of_getElem? (i := 179) rfl), rfl⟩
theorem x_cw103 : Cond.code yX9_pour cX9_pour 8 (some .boolean) ∈ x_gd := List.mem_filter.mpr ⟨x_sub2 (List.mem_of_getElem? (i := 187) rfl), rfl⟩
theorem x_cw104 : Cond.code yX9_feed cX9_feed 6 (some .int) ∈ x_gd := List.mem_filter.mpr ⟨x_sub2 (List.mem_of_getElem? (i := 194) rfl), rfl⟩
theorem x_cw105 : Cond.code yX9_land cX9_land 4 (some .int) ∈ x_gd := List.mem_filter.mpr ⟨x_sub2 (List.mem_of_getElem? (i := 202) rfl), rfl⟩
theorem x_cw106 : Cond.code yX9_reigns cX9_reigns 4 (some .int) ∈ x_gd := List.mem_filter.mpr ⟨x_sub3 (List.mem_of_getElem? (i := 114) rfl), rfl⟩
theorem x_cw107 : Cond.code yX9_fault cX9_fault 2 (some .int) ∈ x_gd := List.mem_filter.mpr ⟨x_sub3 (List.mem_of_getElem? (i := 169) rfl), rfl⟩
theorem x_cw108 : Cond.code yX9_told cX9_told 2 (some .int) ∈ x_gd := List.mem_filter.mpr ⟨x_sub3 (List.mem_of_getElem? (i := 173) rfl), rfl⟩
theorem x_cw109 : Cond.code yX9_kind cX9_kind 2 (some .int) ∈ x_gd := List.mem_filter.mpr ⟨x_sub3 (List.mem_of_getElem? (i := 190) rfl), rfl⟩
theorem x_cw110 : Cond.code yX9_good cX9_good 3 (some .int) ∈ x_gd := List.mem_filter.mpr ⟨x_sub3 (List.mem_of_getElem? (i := 198) rfl), rfl⟩
theorem x_cw111 : Cond.code yX9_sheets cX9_sheets 5 (some .int) ∈ x_gd := List.mem_filter.mpr ⟨x_sub3 (List.mem_of_getElem? (i := 210) rfl), rfl⟩
theorem x_cw112 : Cond.code yX9_goods cX9_goods 3 (some .int) ∈ x_gd := List.mem_filter.mpr ⟨x_sub3 (List.mem_of_getElem? (i := 224) rfl), rfl⟩
theorem x_cw113 : Cond.code yX9_silver cX9_silver 2 (some .int) ∈ x_gd := List.mem_filter.mpr ⟨x_sub3 (List.mem_of_getElem? (i := 232) rfl), rfl⟩
theorem x_cw114 : Cond.code yX9_worth cX9_worth 3 (some .int) ∈ x_gd := List.mem_filter.mpr ⟨x_sub3 (List.mem_of_getElem? (i := 236) rfl), rfl⟩
theorem x_cw115 : Cond.code yX9_richest cX9_richest 3 (some .int) ∈ x_gd := List.mem_filter.mpr ⟨x_sub4 (List.mem_of_getElem? (i := 1) rfl), rfl⟩
theorem x_cw116 : Cond.code yX9_pay cX9_pay 4 (some .int) ∈ x_gd := List.mem_filter.mpr ⟨x_sub4 (List.mem_of_getElem? (i := 9) rfl), rfl⟩
theorem x_cw117 : Cond.code yX9_buy cX9_buy 6 (some .int) ∈ x_gd := List.mem_filter.mpr ⟨x_sub4 (List.mem_of_getElem? (i := 24) rfl), rfl⟩
theorem x_cw118 : Cond.code yX9_sell cX9_sell 4 (some .int) ∈ x_gd := List.mem_filter.mpr ⟨x_sub4 (List.mem_of_getElem? (i := 81) rfl), rfl⟩
theorem x_cw119 : Cond.code yX9_tear cX9_tear 4 (some .int) ∈ x_gd := List.mem_filter.mpr ⟨x_sub4 (List.mem_of_getElem? (i := 97) rfl), rfl⟩
theorem x_cw120 : Cond.code yX9_mend cX9_mend 4 (some .int) ∈ x_gd := List.mem_filter.mpr ⟨x_sub4 (List.mem_of_getElem? (i := 105) rfl), rfl⟩
theorem x_cw121 : Cond.code yX9_give cX9_give 5 (some .boolean) ∈ x_gd := List.mem_filter.mpr ⟨x_sub4 (List.mem_of_getElem? (i := 118) rfl), rfl⟩
theorem x_cw122 : Cond.code yX9_burn cX9_burn 4 (some .int) ∈ x_gd := List.mem_filter.mpr ⟨x_sub4 (List.mem_of_getElem? (i := 126) rfl), rfl⟩
theorem x_cw123 : Cond.code yX9_cross cX9_cross 4 (some .int) ∈ x_gd := List.mem_filter.mpr ⟨x_sub4 (List.mem_of_getElem? (i := 134) rfl), rfl⟩
theorem x_cw124 : Cond.code yX9_renew cX9_renew 4 (some .int) ∈ x_gd := List.mem_filter.mpr ⟨x_sub4 (List.mem_of_getElem? (i := 143) rfl), rfl⟩
theorem x_cw125 : Cond.code yX9_month cX9_month 2 (some .int) ∈ x_gd := List.mem_filter.mpr ⟨x_sub4 (List.mem_of_getElem? (i := 160) rfl), rfl⟩
theorem x_cw126 : Cond.code yX9_rule cX9_rule 3 (some .boolean) ∈ x_gd := List.mem_filter.mpr ⟨x_sub4 (List.mem_of_getElem? (i := 169) rfl), rfl⟩
theorem x_cw127 : Cond.code yX9_bring cX9_bring 3 (some .int) ∈ x_gd := List.mem_filter.mpr ⟨x_sub4 (List.mem_of_getElem? (i := 175) rfl), rfl⟩
theorem x_cw128 : Cond.code yX9_room cX9_room 3 (some .int) ∈ x_gd := List.mem_filter.mpr ⟨x_sub4 (List.mem_of_getElem? (i := 179) rfl), rfl⟩
theorem x_cw129 : Cond.code yX9_levelIn cX9_levelIn 2 (some .int) ∈ x_gd := List.mem_filter.mpr ⟨x_sub4 (List.mem_of_getElem? (i := 188) rfl), rfl⟩
theorem x_cw130 : Cond.code yX9_monthsTill cX9_monthsTill 4 (some .int) ∈ x_gd := List.mem_filter.mpr ⟨x_sub4 (List.mem_of_getElem? (i := 193) rfl), rfl⟩
theorem x_cw131 : Cond.code yX9_fewest cX9_fewest 5 (some .int) ∈ x_gd := List.mem_filter.mpr ⟨x_sub4 (List.mem_of_getElem? (i := 197) rfl), rfl⟩
theorem x_cw132 : Cond.code yX9_payWith cX9_payWith 6 (some .int) ∈ x_gd := List.mem_filter.mpr ⟨x_sub4 (List.mem_of_getElem? (i := 207) rfl), rfl⟩
theorem x_cw133 : Cond.code yX9_payable cX9_payable 4 (some .int) ∈ x_gd := List.mem_filter.mpr ⟨x_sub4 (List.mem_of_getElem? (i := 212) rfl), rfl⟩
theorem x_cw134 : Cond.code yX9_firstNot cX9_firstNot 4 (some .int) ∈ x_gd := List.mem_filter.mpr ⟨x_sub4 (List.mem_of_getElem? (i := 221) rfl), rfl⟩
theorem x_cw135 : Cond.code yX9_couldBuy cX9_couldBuy 7 (some .int) ∈ x_gd := List.mem_filter.mpr ⟨x_sub4 (List.mem_of_getElem? (i := 225) rfl), rfl⟩
theorem x_cw136 : Cond.code yX9_changes cX9_changes 2 (some .long) ∈ x_gd := List.mem_filter.mpr ⟨x_sub4 (List.mem_of_getElem? (i := 230) rfl), rfl⟩
theorem x_cw137 : Cond.code yX9_leastSheets cX9_leastSheets 4 (some .int) ∈ x_gd := List.mem_filter.mpr ⟨x_sub4 (List.mem_of_getElem? (i := 238) rfl), rfl⟩
theorem x_cw138 : Cond.code yX9_baskets cX9_baskets 3 (some .long) ∈ x_gd := List.mem_filter.mpr ⟨x_sub5 (List.mem_of_getElem? (i := 3) rfl), rfl⟩
theorem x_cw139 : Cond.code yX9_mostValue cX9_mostValue 3 (some .int) ∈ x_gd := List.mem_filter.mpr ⟨x_sub5 (List.mem_of_getElem? (i := 8) rfl), rfl⟩
theorem x_cw140 : Cond.code yX9_loses cX9_loses 4 (some .int) ∈ x_gd := List.mem_filter.mpr ⟨x_sub5 (List.mem_of_getElem? (i := 12) rfl), rfl⟩
theorem x_cw141 : Cond.code yX9_losers cX9_losers 5 (some .int) ∈ x_gd := List.mem_filter.mpr ⟨x_sub5 (List.mem_of_getElem? (i := 20) rfl), rfl⟩
theorem x_cw142 : Cond.code yX9_keptOf cX9_keptOf 2 (some .int) ∈ x_gd := List.mem_filter.mpr ⟨x_sub5 (List.mem_of_getElem? (i := 24) rfl), rfl⟩
theorem x_cw143 : Cond.code yX9_forged cX9_forged 6 (some .boolean) ∈ x_gd := List.mem_filter.mpr ⟨x_sub5 (List.mem_of_getElem? (i := 29) rfl), rfl⟩
theorem x_cw144 : Cond.code yX9_looks cX9_looks 6 (some .int) ∈ x_gd := List.mem_filter.mpr ⟨x_sub5 (List.mem_of_getElem? (i := 40) rfl), rfl⟩
theorem x_cw145 : Cond.code yX9_plan cX9_plan 3 (some .int) ∈ x_gd := List.mem_filter.mpr ⟨x_sub5 (List.mem_of_getElem? (i := 45) rfl), rfl⟩
theorem x_cw146 : Cond.code yX9_planFirst cX9_planFirst 7 (some .int) ∈ x_gd := List.mem_filter.mpr ⟨x_sub5 (List.mem_of_getElem? (i := 56) rfl), rfl⟩
theorem x_cw147 : Cond.code yX9_game cX9_game 4 (some .int) ∈ x_gd := List.mem_filter.mpr ⟨x_sub5 (List.mem_of_getElem? (i := 60) rfl), rfl⟩
theorem x_cw148 : Cond.code yX9_moveOf cX9_moveOf 5 (some .int) ∈ x_gd := List.mem_filter.mpr ⟨x_sub5 (List.mem_of_getElem? (i := 81) rfl), rfl⟩
theorem x_cw149 : Cond.code yX9_copySheets cX9_copySheets 5 (some .int) ∈ x_gd := List.mem_filter.mpr ⟨x_sub5 (List.mem_of_getElem? (i := 89) rfl), rfl⟩
theorem x_cw150 : Cond.code yX9_count cX9_count 7 (some .int) ∈ x_gd := List.mem_filter.mpr ⟨x_sub5 (List.mem_of_getElem? (i := 97) rfl), rfl⟩
theorem x_cw151 : Cond.code yX9_live cX9_live 2 (some .int) ∈ x_gd := List.mem_filter.mpr ⟨x_sub5 (List.mem_of_getElem? (i := 102) rfl), rfl⟩
theorem x_cw152 : Cond.code yX9_lived cX9_lived 2 (some .int) ∈ x_gd := List.mem_filter.mpr ⟨x_sub5 (List.mem_of_getElem? (i := 144) rfl), rfl⟩
theorem x_cw153 : Cond.code yX9_mean cX9_mean 6 (some .boolean) ∈ x_gd := List.mem_filter.mpr ⟨x_sub5 (List.mem_of_getElem? (i := 154) rfl), rfl⟩
theorem x_cw154 : Cond.code yX9_mark cX9_mark 1 (some .int) ∈ x_gd := List.mem_filter.mpr ⟨x_sub5 (List.mem_of_getElem? (i := 163) rfl), rfl⟩
theorem x_cw155 : Cond.code yX9_undo cX9_undo 1 (some .int) ∈ x_gd := List.mem_filter.mpr ⟨x_sub5 (List.mem_of_getElem? (i := 172) rfl), rfl⟩
theorem x_cw156 : Cond.code yX9_answer cX9_answer 2 (some .int) ∈ x_gd := List.mem_filter.mpr ⟨x_sub3 (List.mem_of_getElem? (i := 110) rfl), rfl⟩
theorem x_cw157 : Cond.code yX9_refuse cX9_refuse 2 (some .int) ∈ x_gd := List.mem_filter.mpr ⟨x_sub2 (List.mem_of_getElem? (i := 183) rfl), rfl⟩
theorem x_cw158 : Cond.code yX9_answerIfDone cX9_answerIfDone 2 (some .int) ∈ x_gd := List.mem_filter.mpr ⟨x_sub4 (List.mem_of_getElem? (i := 20) rfl), rfl⟩
theorem x_cw159 : Cond.code yX9_agreed cX9_agreed 1 (some .boolean) ∈ x_gd := List.mem_filter.mpr ⟨x_sub2 (List.mem_of_getElem? (i := 159) rfl), rfl⟩
theorem x_cw160 : Cond.code yX9_refused cX9_refused 2 (some .boolean) ∈ x_gd := List.mem_filter.mpr ⟨x_sub2 (List.mem_of_getElem? (i := 151) rfl), rfl⟩
theorem x_cw161 : Cond.code yX9_within cX9_within 3 (some .boolean) ∈ x_gd := List.mem_filter.mpr ⟨x_sub2 (List.mem_of_getElem? (i := 147) rfl), rfl⟩
theorem x_cw162 : Cond.code yX9_isAmount cX9_isAmount 1 (some .boolean) ∈ x_gd := List.mem_filter.mpr ⟨x_sub4 (List.mem_of_getElem? (i := 12) rfl), rfl⟩
theorem x_cw163 : Cond.code yX9_isSum cX9_isSum 1 (some .boolean) ∈ x_gd := List.mem_filter.mpr ⟨x_sub4 (List.mem_of_getElem? (i := 200) rfl), rfl⟩
theorem x_cw164 : Cond.code yX9_isTray cX9_isTray 1 (some .boolean) ∈ x_gd := List.mem_filter.mpr ⟨x_sub2 (List.mem_of_getElem? (i := 144) rfl), rfl⟩
theorem x_cw165 : Cond.code yX9_arePair cX9_arePair 3 (some .boolean) ∈ x_gd := List.mem_filter.mpr ⟨x_sub5 (List.mem_of_getElem? (i := 64) rfl), rfl⟩
theorem x_cw166 : Cond.code yX9_wrongPlace cX9_wrongPlace 3 (some .int) ∈ x_gd := List.mem_filter.mpr ⟨x_sub2 (List.mem_of_getElem? (i := 167) rfl), rfl⟩
theorem x_cw167 : Cond.code yX9_wrongForKinds cX9_wrongForKinds 2 (some .int) ∈ x_gd := List.mem_filter.mpr ⟨x_sub5 (List.mem_of_getElem? (i := 93) rfl), rfl⟩
theorem x_cw168 : Cond.code yX9_wrongRenewal cX9_wrongRenewal 2 (some .int) ∈ x_gd := List.mem_filter.mpr ⟨x_sub4 (List.mem_of_getElem? (i := 147) rfl), rfl⟩
theorem x_cw169 : Cond.code yX9_endText cX9_endText 2 (some .boolean) ∈ x_gd := List.mem_filter.mpr ⟨x_sub3 (List.mem_of_getElem? (i := 102) rfl), rfl⟩
theorem x_cw170 : Cond.code yX9_tellFraction cX9_tellFraction 12 none ∈ x_gd := List.mem_filter.mpr ⟨x_sub5 (List.mem_of_getElem? (i := 36) rfl), rfl⟩
theorem x_cw171 : Cond.code yX9_setsOf cX9_setsOf 5 (some .long) ∈ x_gd := List.mem_filter.mpr ⟨x_sub5 (List.mem_of_getElem? (i := 32) rfl), rfl⟩
theorem x_cw172 : Cond.code yX9_leastUnrest cX9_leastUnrest 6 (some .int) ∈ x_gd := List.mem_filter.mpr ⟨x_sub5 (List.mem_of_getElem? (i := 48) rfl), rfl⟩
theorem x_cw173 : Cond.code yX9_unrestPrinting cX9_unrestPrinting 8 (some .int) ∈ x_gd := List.mem_filter.mpr ⟨x_sub5 (List.mem_of_getElem? (i := 51) rfl), rfl⟩
theorem x_cw174 : Cond.code yX10_init cX10_init 1 none ∈ x_gd := List.mem_filter.mpr ⟨x_sub5 (List.mem_of_getElem? (i := 177) rfl), rfl⟩
theorem x_cw175 : Cond.code yX10_plain cX10_plain 3 none ∈ x_gd := List.mem_filter.mpr ⟨x_sub5 (List.mem_of_getElem? (i := 182) rfl), rfl⟩
theorem x_cw176 : Cond.code yX10_status cX10_status 1 (some .int) ∈ x_gd := List.mem_filter.mpr ⟨x_sub6 (List.mem_of_getElem? (i := 64) rfl), rfl⟩
theorem x_cw177 : Cond.code yX10_top cX10_top 1 (some .long) ∈ x_gd := List.mem_filter.mpr ⟨x_sub6 (List.mem_of_getElem? (i := 68) rfl), rfl⟩
theorem x_cw178 : Cond.code yX10_bottom cX10_bottom 1 (some .long) ∈ x_gd := List.mem_filter.mpr ⟨x_sub6 (List.mem_of_getElem? (i := 72) rfl), rfl⟩
theorem x_cw179 : Cond.code yX10_is cX10_is 2 (some .boolean) ∈ x_gd := List.mem_filter.mpr ⟨x_sub6 (List.mem_of_getElem? (i := 83) rfl), rfl⟩
theorem x_cw180 : Cond.code yX10_refuse cX10_refuse 2 (some .int) ∈ x_gd := List.mem_filter.mpr ⟨x_sub6 (List.mem_of_getElem? (i := 143) rfl), rfl⟩
theorem x_cw181 : Cond.code yX10_gives cX10_gives 2 (some .int) ∈ x_gd := List.mem_filter.mpr ⟨x_sub7 (List.mem_of_getElem? (i := 51) rfl), rfl⟩
theorem x_cw182 : Cond.code yX10_orNone cX10_orNone 2 (some .int) ∈ x_gd := List.mem_filter.mpr ⟨x_sub7 (List.mem_of_getElem? (i := 134) rfl), rfl⟩
theorem x_cw183 : Cond.code yX10_tellsBy cX10_tellsBy 11 (some .boolean) ∈ x_gd := List.mem_filter.mpr ⟨x_sub8 (List.mem_of_getElem? (i := 113) rfl), rfl⟩
theorem x_cw184 : Cond.code yX10_isTray cX10_isTray 1 (some .boolean) ∈ x_gd := List.mem_filter.mpr ⟨x_sub6 (List.mem_of_getElem? (i := 79) rfl), rfl⟩
theorem x_cw185 : Cond.code yX10_cut cX10_cut 3 (some .long) ∈ x_gd := List.mem_filter.mpr ⟨x_sub6 (List.mem_of_getElem? (i := 94) rfl), rfl⟩
theorem x_cw186 : Cond.code yX10_tray cX10_tray 5 (some .boolean) ∈ x_gd := List.mem_filter.mpr ⟨x_sub6 (List.mem_of_getElem? (i := 76) rfl), rfl⟩
theorem x_cw187 : Cond.code yX10_wrongPlace cX10_wrongPlace 3 (some .int) ∈ x_gd := List.mem_filter.mpr ⟨x_sub6 (List.mem_of_getElem? (i := 91) rfl), rfl⟩
theorem x_cw188 : Cond.code yX10_write cX10_write 6 (some .boolean) ∈ x_gd := List.mem_filter.mpr ⟨x_sub6 (List.mem_of_getElem? (i := 87) rfl), rfl⟩
theorem x_cw189 : Cond.code yX10_read cX10_read 3 (some .long) ∈ x_gd := List.mem_filter.mpr ⟨x_sub6 (List.mem_of_getElem? (i := 98) rfl), rfl⟩
theorem x_cw190 : Cond.code yX10_pour cX10_pour 8 (some .boolean) ∈ x_gd := List.mem_filter.mpr ⟨x_sub6 (List.mem_of_getElem? (i := 103) rfl), rfl⟩
theorem x_cw191 : Cond.code yX10_isFrom cX10_isFrom 6 (some .boolean) ∈ x_gd := List.mem_filter.mpr ⟨x_sub7 (List.mem_of_getElem? (i := 145) rfl), rfl⟩
theorem x_cw192 : Cond.code yX10_feed cX10_feed 6 (some .int) ∈ x_gd := List.mem_filter.mpr ⟨x_sub6 (List.mem_of_getElem? (i := 107) rfl), rfl⟩
theorem x_cw193 : Cond.code yX10_four cX10_four 3 none ∈ x_gd := List.mem_filter.mpr ⟨x_sub6 (List.mem_of_getElem? (i := 111) rfl), rfl⟩
theorem x_cw194 : Cond.code yX10_byteAt cX10_byteAt 2 (some .int) ∈ x_gd := List.mem_filter.mpr ⟨x_sub6 (List.mem_of_getElem? (i := 131) rfl), rfl⟩
theorem x_cw195 : Cond.code yX10_isSmall cX10_isSmall 1 (some .boolean) ∈ x_gd := List.mem_filter.mpr ⟨x_sub6 (List.mem_of_getElem? (i := 134) rfl), rfl⟩
theorem x_cw196 : Cond.code yX10_isDigit cX10_isDigit 1 (some .boolean) ∈ x_gd := List.mem_filter.mpr ⟨x_sub6 (List.mem_of_getElem? (i := 137) rfl), rfl⟩
theorem x_cw197 : Cond.code yX10_ahead cX10_ahead 2 none ∈ x_gd := List.mem_filter.mpr ⟨x_sub6 (List.mem_of_getElem? (i := 127) rfl), rfl⟩
theorem x_cw198 : Cond.code yX10_isSign cX10_isSign 2 (some .boolean) ∈ x_gd := List.mem_filter.mpr ⟨x_sub7 (List.mem_of_getElem? (i := 20) rfl), rfl⟩
theorem x_cw199 : Cond.code yX10_inWords cX10_inWords 7 (some .int) ∈ x_gd := List.mem_filter.mpr ⟨x_sub6 (List.mem_of_getElem? (i := 152) rfl), rfl⟩
theorem x_cw200 : Cond.code yX10_fails cX10_fails 2 (some .boolean) ∈ x_gd := List.mem_filter.mpr ⟨x_sub6 (List.mem_of_getElem? (i := 204) rfl), rfl⟩
theorem x_cw201 : Cond.code yX10_begins cX10_begins 4 (some .boolean) ∈ x_gd := List.mem_filter.mpr ⟨x_sub6 (List.mem_of_getElem? (i := 123) rfl), rfl⟩
theorem x_cw202 : Cond.code yX10_wantSign cX10_wantSign 2 (some .boolean) ∈ x_gd := List.mem_filter.mpr ⟨x_sub7 (List.mem_of_getElem? (i := 16) rfl), rfl⟩
theorem x_cw203 : Cond.code yX10_wantWord cX10_wantWord 3 (some .boolean) ∈ x_gd := List.mem_filter.mpr ⟨x_sub6 (List.mem_of_getElem? (i := 232) rfl), rfl⟩
theorem x_cw204 : Cond.code yX10_number cX10_number 4 (some .boolean) ∈ x_gd := List.mem_filter.mpr ⟨x_sub6 (List.mem_of_getElem? (i := 208) rfl), rfl⟩
theorem x_cw205 : Cond.code yX10_isName cX10_isName 2 (some .boolean) ∈ x_gd := List.mem_filter.mpr ⟨x_sub6 (List.mem_of_getElem? (i := 220) rfl), rfl⟩
theorem x_cw206 : Cond.code yX10_nameHere cX10_nameHere 4 (some .long) ∈ x_gd := List.mem_filter.mpr ⟨x_sub6 (List.mem_of_getElem? (i := 228) rfl), rfl⟩
theorem x_cw207 : Cond.code yX10_findHere cX10_findHere 4 (some .int) ∈ x_gd := List.mem_filter.mpr ⟨x_sub6 (List.mem_of_getElem? (i := 224) rfl), rfl⟩
theorem x_cw208 : Cond.code yX10_fault cX10_fault 2 (some .int) ∈ x_gd := List.mem_filter.mpr ⟨x_sub6 (List.mem_of_getElem? (i := 115) rfl), rfl⟩
theorem x_cw209 : Cond.code yX10_taken cX10_taken 2 (some .int) ∈ x_gd := List.mem_filter.mpr ⟨x_sub7 (List.mem_of_getElem? (i := 47) rfl), rfl⟩
theorem x_cw210 : Cond.code yX10_isThere cX10_isThere 2 (some .boolean) ∈ x_gd := List.mem_filter.mpr ⟨x_sub7 (List.mem_of_getElem? (i := 0) rfl), rfl⟩
theorem x_cw211 : Cond.code yX10_newOne cX10_newOne 4 (some .boolean) ∈ x_gd := List.mem_filter.mpr ⟨x_sub6 (List.mem_of_getElem? (i := 216) rfl), rfl⟩
theorem x_cw212 : Cond.code yX10_oldOne cX10_oldOne 4 (some .boolean) ∈ x_gd := List.mem_filter.mpr ⟨x_sub7 (List.mem_of_getElem? (i := 12) rfl), rfl⟩
theorem x_cw213 : Cond.code yX10_aKind cX10_aKind 1 (some .boolean) ∈ x_gd := List.mem_filter.mpr ⟨x_sub6 (List.mem_of_getElem? (i := 212) rfl), rfl⟩
theorem x_cw214 : Cond.code yX10_aGood cX10_aGood 2 (some .boolean) ∈ x_gd := List.mem_filter.mpr ⟨x_sub6 (List.mem_of_getElem? (i := 236) rfl), rfl⟩
theorem x_cw215 : Cond.code yX10_aPerson cX10_aPerson 2 (some .boolean) ∈ x_gd := List.mem_filter.mpr ⟨x_sub7 (List.mem_of_getElem? (i := 4) rfl), rfl⟩
theorem x_cw216 : Cond.code yX10_hisSheets cX10_hisSheets 2 (some .boolean) ∈ x_gd := List.mem_filter.mpr ⟨x_sub7 (List.mem_of_getElem? (i := 8) rfl), rfl⟩
theorem x_cw217 : Cond.code yX10_landPart cX10_landPart 3 (some .boolean) ∈ x_gd := List.mem_filter.mpr ⟨x_sub6 (List.mem_of_getElem? (i := 147) rfl), rfl⟩
theorem x_cw218 : Cond.code yX10_land cX10_land 4 (some .int) ∈ x_gd := List.mem_filter.mpr ⟨x_sub6 (List.mem_of_getElem? (i := 119) rfl), rfl⟩
theorem x_cw219 : Cond.code yX10_personTo cX10_personTo 2 (some .boolean) ∈ x_gd := List.mem_filter.mpr ⟨x_sub7 (List.mem_of_getElem? (i := 67) rfl), rfl⟩
theorem x_cw220 : Cond.code yX10_test cX10_test 3 (some .boolean) ∈ x_gd := List.mem_filter.mpr ⟨x_sub7 (List.mem_of_getElem? (i := 71) rfl), rfl⟩
theorem x_cw221 : Cond.code yX10_reignOrder cX10_reignOrder 3 (some .boolean) ∈ x_gd := List.mem_filter.mpr ⟨x_sub7 (List.mem_of_getElem? (i := 63) rfl), rfl⟩
theorem x_cw222 : Cond.code yX10_reignStep cX10_reignStep 6 (some .boolean) ∈ x_gd := List.mem_filter.mpr ⟨x_sub7 (List.mem_of_getElem? (i := 59) rfl), rfl⟩
theorem x_cw223 : Cond.code yX10_reigns cX10_reigns 4 (some .int) ∈ x_gd := List.mem_filter.mpr ⟨x_sub7 (List.mem_of_getElem? (i := 55) rfl), rfl⟩
theorem x_cw224 : Cond.code yX10_personRow cX10_personRow 1 (some .int) ∈ x_gd := List.mem_filter.mpr ⟨x_sub7 (List.mem_of_getElem? (i := 31) rfl), rfl⟩
theorem x_cw225 : Cond.code yX10_goodRow cX10_goodRow 1 (some .int) ∈ x_gd := List.mem_filter.mpr ⟨x_sub7 (List.mem_of_getElem? (i := 98) rfl), rfl⟩
theorem x_cw226 : Cond.code yX10_isKind cX10_isKind 2 (some .boolean) ∈ x_gd := List.mem_filter.mpr ⟨x_sub7 (List.mem_of_getElem? (i := 83) rfl), rfl⟩
theorem x_cw227 : Cond.code yX10_isGood cX10_isGood 2 (some .boolean) ∈ x_gd := List.mem_filter.mpr ⟨x_sub7 (List.mem_of_getElem? (i := 91) rfl), rfl⟩
theorem x_cw228 : Cond.code yX10_isPerson cX10_isPerson 2 (some .boolean) ∈ x_gd := List.mem_filter.mpr ⟨x_sub7 (List.mem_of_getElem? (i := 110) rfl), rfl⟩
theorem x_cw229 : Cond.code yX10_isSheet cX10_isSheet 3 (some .boolean) ∈ x_gd := List.mem_filter.mpr ⟨x_sub7 (List.mem_of_getElem? (i := 106) rfl), rfl⟩
theorem x_cw230 : Cond.code yX10_isWare cX10_isWare 3 (some .boolean) ∈ x_gd := List.mem_filter.mpr ⟨x_sub7 (List.mem_of_getElem? (i := 118) rfl), rfl⟩
theorem x_cw231 : Cond.code yX10_isMany cX10_isMany 1 (some .boolean) ∈ x_gd := List.mem_filter.mpr ⟨x_sub7 (List.mem_of_getElem? (i := 141) rfl), rfl⟩
theorem x_cw232 : Cond.code yX10_worthOf cX10_worthOf 2 (some .int) ∈ x_gd := List.mem_filter.mpr ⟨x_sub7 (List.mem_of_getElem? (i := 39) rfl), rfl⟩
theorem x_cw233 : Cond.code yX10_wholeAt cX10_wholeAt 3 (some .int) ∈ x_gd := List.mem_filter.mpr ⟨x_sub7 (List.mem_of_getElem? (i := 28) rfl), rfl⟩
theorem x_cw234 : Cond.code yX10_tornAt cX10_tornAt 3 (some .int) ∈ x_gd := List.mem_filter.mpr ⟨x_sub7 (List.mem_of_getElem? (i := 43) rfl), rfl⟩
theorem x_cw235 : Cond.code yX10_worthAt cX10_worthAt 4 (some .int) ∈ x_gd := List.mem_filter.mpr ⟨x_sub7 (List.mem_of_getElem? (i := 35) rfl), rfl⟩
theorem x_cw236 : Cond.code yX10_out cX10_out 3 (some .int) ∈ x_gd := List.mem_filter.mpr ⟨x_sub7 (List.mem_of_getElem? (i := 24) rfl), rfl⟩
theorem x_cw237 : Cond.code yX10_priceOf cX10_priceOf 2 (some .long) ∈ x_gd := List.mem_filter.mpr ⟨x_sub7 (List.mem_of_getElem? (i := 95) rfl), rfl⟩
theorem x_cw238 : Cond.code yX10_levelBy cX10_levelBy 2 (some .int) ∈ x_gd := List.mem_filter.mpr ⟨x_sub8 (List.mem_of_getElem? (i := 5) rfl), rfl⟩
theorem x_cw239 : Cond.code yX10_told cX10_told 2 (some .int) ∈ x_gd := List.mem_filter.mpr ⟨x_sub7 (List.mem_of_getElem? (i := 75) rfl), rfl⟩
theorem x_cw240 : Cond.code yX10_kind cX10_kind 2 (some .int) ∈ x_gd := List.mem_filter.mpr ⟨x_sub7 (List.mem_of_getElem? (i := 79) rfl), rfl⟩
theorem x_cw241 : Cond.code yX10_good cX10_good 3 (some .int) ∈ x_gd := List.mem_filter.mpr ⟨x_sub7 (List.mem_of_getElem? (i := 87) rfl), rfl⟩
theorem x_cw242 : Cond.code yX10_sheets cX10_sheets 4 (some .int) ∈ x_gd := List.mem_filter.mpr ⟨x_sub7 (List.mem_of_getElem? (i := 102) rfl), rfl⟩
theorem x_cw243 : Cond.code yX10_goods cX10_goods 3 (some .int) ∈ x_gd := List.mem_filter.mpr ⟨x_sub7 (List.mem_of_getElem? (i := 114) rfl), rfl⟩
theorem x_cw244 : Cond.code yX10_silver cX10_silver 2 (some .int) ∈ x_gd := List.mem_filter.mpr ⟨x_sub7 (List.mem_of_getElem? (i := 122) rfl), rfl⟩
theorem x_cw245 : Cond.code yX10_worth cX10_worth 3 (some .int) ∈ x_gd := List.mem_filter.mpr ⟨x_sub7 (List.mem_of_getElem? (i := 126) rfl), rfl⟩
theorem x_cw246 : Cond.code yX10_richest cX10_richest 3 (some .int) ∈ x_gd := List.mem_filter.mpr ⟨x_sub7 (List.mem_of_getElem? (i := 130) rfl), rfl⟩
theorem x_cw247 : Cond.code yX10_laysFew cX10_laysFew 10 none ∈ x_gd := List.mem_filter.mpr ⟨x_sub7 (List.mem_of_getElem? (i := 170) rfl), rfl⟩
theorem x_cw248 : Cond.code yX10_laysPaying cX10_laysPaying 8 (some .boolean) ∈ x_gd := List.mem_filter.mpr ⟨x_sub7 (List.mem_of_getElem? (i := 166) rfl), rfl⟩
theorem x_cw249 : Cond.code yX10_payingAll cX10_payingAll 3 (some .int) ∈ x_gd := List.mem_filter.mpr ⟨x_sub7 (List.mem_of_getElem? (i := 175) rfl), rfl⟩
theorem x_cw250 : Cond.code yX10_addsTo cX10_addsTo 3 (some .int) ∈ x_gd := List.mem_filter.mpr ⟨x_sub7 (List.mem_of_getElem? (i := 153) rfl), rfl⟩
theorem x_cw251 : Cond.code yX10_pays cX10_pays 5 (some .boolean) ∈ x_gd := List.mem_filter.mpr ⟨x_sub7 (List.mem_of_getElem? (i := 149) rfl), rfl⟩
theorem x_cw252 : Cond.code yX10_pay cX10_pay 4 (some .int) ∈ x_gd := List.mem_filter.mpr ⟨x_sub7 (List.mem_of_getElem? (i := 138) rfl), rfl⟩
theorem x_cw253 : Cond.code yX10_buys cX10_buys 8 (some .boolean) ∈ x_gd := List.mem_filter.mpr ⟨x_sub7 (List.mem_of_getElem? (i := 162) rfl), rfl⟩
theorem x_cw254 : Cond.code yX10_buy cX10_buy 4 (some .int) ∈ x_gd := List.mem_filter.mpr ⟨x_sub7 (List.mem_of_getElem? (i := 158) rfl), rfl⟩
theorem x_cw255 : Cond.code yX10_sells cX10_sells 8 (some .boolean) ∈ x_gd := List.mem_filter.mpr ⟨x_sub7 (List.mem_of_getElem? (i := 183) rfl), rfl⟩
theorem x_cw256 : Cond.code yX10_sell cX10_sell 4 (some .int) ∈ x_gd := List.mem_filter.mpr ⟨x_sub7 (List.mem_of_getElem? (i := 179) rfl), rfl⟩
theorem x_cw257 : Cond.code yX10_tears cX10_tears 4 (some .boolean) ∈ x_gd := List.mem_filter.mpr ⟨x_sub7 (List.mem_of_getElem? (i := 191) rfl), rfl⟩
theorem x_cw258 : Cond.code yX10_tear cX10_tear 4 (some .int) ∈ x_gd := List.mem_filter.mpr ⟨x_sub7 (List.mem_of_getElem? (i := 187) rfl), rfl⟩
theorem x_cw259 : Cond.code yX10_keptBy cX10_keptBy 2 (some .int) ∈ x_gd := List.mem_filter.mpr ⟨x_sub7 (List.mem_of_getElem? (i := 203) rfl), rfl⟩
theorem x_cw260 : Cond.code yX10_mends cX10_mends 5 (some .int) ∈ x_gd := List.mem_filter.mpr ⟨x_sub7 (List.mem_of_getElem? (i := 199) rfl), rfl⟩
theorem x_cw261 : Cond.code yX10_mend cX10_mend 5 (some .int) ∈ x_gd := List.mem_filter.mpr ⟨x_sub7 (List.mem_of_getElem? (i := 195) rfl), rfl⟩
theorem x_cw262 : Cond.code yX10_give cX10_give 5 (some .boolean) ∈ x_gd := List.mem_filter.mpr ⟨x_sub7 (List.mem_of_getElem? (i := 207) rfl), rfl⟩
theorem x_cw263 : Cond.code yX10_burn cX10_burn 4 (some .int) ∈ x_gd := List.mem_filter.mpr ⟨x_sub7 (List.mem_of_getElem? (i := 211) rfl), rfl⟩
theorem x_cw264 : Cond.code yX10_cross cX10_cross 5 (some .int) ∈ x_gd := List.mem_filter.mpr ⟨x_sub7 (List.mem_of_getElem? (i := 215) rfl), rfl⟩
theorem x_cw265 : Cond.code yX10_allOf cX10_allOf 3 (some .int) ∈ x_gd := List.mem_filter.mpr ⟨x_sub7 (List.mem_of_getElem? (i := 232) rfl), rfl⟩
theorem x_cw266 : Cond.code yX10_renewedBy cX10_renewedBy 3 (some .int) ∈ x_gd := List.mem_filter.mpr ⟨x_sub7 (List.mem_of_getElem? (i := 228) rfl), rfl⟩
theorem x_cw267 : Cond.code yX10_canRenew cX10_canRenew 2 (some .boolean) ∈ x_gd := List.mem_filter.mpr ⟨x_sub7 (List.mem_of_getElem? (i := 224) rfl), rfl⟩
theorem x_cw268 : Cond.code yX10_renew cX10_renew 5 (some .int) ∈ x_gd := List.mem_filter.mpr ⟨x_sub7 (List.mem_of_getElem? (i := 220) rfl), rfl⟩
theorem x_cw269 : Cond.code yX10_monthGoes cX10_monthGoes 1 none ∈ x_gd := List.mem_filter.mpr ⟨x_sub8 (List.mem_of_getElem? (i := 1) rfl), rfl⟩
theorem x_cw270 : Cond.code yX10_month cX10_month 3 (some .int) ∈ x_gd := List.mem_filter.mpr ⟨x_sub7 (List.mem_of_getElem? (i := 236) rfl), rfl⟩
theorem x_cw271 : Cond.code yX10_rule cX10_rule 3 (some .boolean) ∈ x_gd := List.mem_filter.mpr ⟨x_sub8 (List.mem_of_getElem? (i := 9) rfl), rfl⟩
theorem x_cw272 : Cond.code yX10_bring cX10_bring 4 (some .int) ∈ x_gd := List.mem_filter.mpr ⟨x_sub8 (List.mem_of_getElem? (i := 16) rfl), rfl⟩
theorem x_cw273 : Cond.code yX10_room cX10_room 3 (some .int) ∈ x_gd := List.mem_filter.mpr ⟨x_sub8 (List.mem_of_getElem? (i := 20) rfl), rfl⟩
theorem x_cw274 : Cond.code yX10_levelAfter cX10_levelAfter 2 (some .int) ∈ x_gd := List.mem_filter.mpr ⟨x_sub8 (List.mem_of_getElem? (i := 31) rfl), rfl⟩
theorem x_cw275 : Cond.code yX10_levelIn cX10_levelIn 2 (some .int) ∈ x_gd := List.mem_filter.mpr ⟨x_sub8 (List.mem_of_getElem? (i := 27) rfl), rfl⟩
theorem x_cw276 : Cond.code yX10_monthsTill cX10_monthsTill 3 (some .int) ∈ x_gd := List.mem_filter.mpr ⟨x_sub8 (List.mem_of_getElem? (i := 35) rfl), rfl⟩
theorem x_cw277 : Cond.code yX10_isSum cX10_isSum 1 (some .boolean) ∈ x_gd := List.mem_filter.mpr ⟨x_sub8 (List.mem_of_getElem? (i := 42) rfl), rfl⟩
theorem x_cw278 : Cond.code yX10_fewest cX10_fewest 3 (some .int) ∈ x_gd := List.mem_filter.mpr ⟨x_sub8 (List.mem_of_getElem? (i := 39) rfl), rfl⟩
theorem x_cw279 : Cond.code yX10_payWith cX10_payWith 4 (some .int) ∈ x_gd := List.mem_filter.mpr ⟨x_sub8 (List.mem_of_getElem? (i := 46) rfl), rfl⟩
theorem x_cw280 : Cond.code yX10_payable cX10_payable 4 (some .int) ∈ x_gd := List.mem_filter.mpr ⟨x_sub8 (List.mem_of_getElem? (i := 50) rfl), rfl⟩
theorem x_cw281 : Cond.code yX10_firstNot cX10_firstNot 4 (some .int) ∈ x_gd := List.mem_filter.mpr ⟨x_sub8 (List.mem_of_getElem? (i := 54) rfl), rfl⟩
theorem x_cw282 : Cond.code yX10_couldBuy cX10_couldBuy 8 (some .int) ∈ x_gd := List.mem_filter.mpr ⟨x_sub8 (List.mem_of_getElem? (i := 58) rfl), rfl⟩
theorem x_cw283 : Cond.code yX10_addsPiece cX10_addsPiece 4 none ∈ x_gd := List.mem_filter.mpr ⟨x_sub8 (List.mem_of_getElem? (i := 70) rfl), rfl⟩
theorem x_cw284 : Cond.code yX10_noPieces cX10_noPieces 2 none ∈ x_gd := List.mem_filter.mpr ⟨x_sub8 (List.mem_of_getElem? (i := 66) rfl), rfl⟩
theorem x_cw285 : Cond.code yX10_changes cX10_changes 3 (some .long) ∈ x_gd := List.mem_filter.mpr ⟨x_sub8 (List.mem_of_getElem? (i := 62) rfl), rfl⟩
theorem x_cw286 : Cond.code yX10_leastSheets cX10_leastSheets 2 (some .int) ∈ x_gd := List.mem_filter.mpr ⟨x_sub8 (List.mem_of_getElem? (i := 74) rfl), rfl⟩
theorem x_cw287 : Cond.code yX10_baskets cX10_baskets 3 (some .long) ∈ x_gd := List.mem_filter.mpr ⟨x_sub8 (List.mem_of_getElem? (i := 78) rfl), rfl⟩
theorem x_cw288 : Cond.code yX10_mostValue cX10_mostValue 6 (some .int) ∈ x_gd := List.mem_filter.mpr ⟨x_sub8 (List.mem_of_getElem? (i := 82) rfl), rfl⟩
theorem x_cw289 : Cond.code yX10_losing cX10_losing 3 (some .int) ∈ x_gd := List.mem_filter.mpr ⟨x_sub8 (List.mem_of_getElem? (i := 90) rfl), rfl⟩
theorem x_cw290 : Cond.code yX10_loses cX10_loses 3 (some .int) ∈ x_gd := List.mem_filter.mpr ⟨x_sub8 (List.mem_of_getElem? (i := 86) rfl), rfl⟩
theorem x_cw291 : Cond.code yX10_losers cX10_losers 4 (some .int) ∈ x_gd := List.mem_filter.mpr ⟨x_sub8 (List.mem_of_getElem? (i := 94) rfl), rfl⟩
theorem x_cw292 : Cond.code yX10_keptOf cX10_keptOf 2 (some .int) ∈ x_gd := List.mem_filter.mpr ⟨x_sub8 (List.mem_of_getElem? (i := 98) rfl), rfl⟩
theorem x_cw293 : Cond.code yX10_areSheets cX10_areSheets 2 (some .boolean) ∈ x_gd := List.mem_filter.mpr ⟨x_sub8 (List.mem_of_getElem? (i := 105) rfl), rfl⟩
theorem x_cw294 : Cond.code yX10_chosen cX10_chosen 5 (some .long) ∈ x_gd := List.mem_filter.mpr ⟨x_sub8 (List.mem_of_getElem? (i := 109) rfl), rfl⟩
theorem x_cw295 : Cond.code yX10_forged cX10_forged 4 (some .boolean) ∈ x_gd := List.mem_filter.mpr ⟨x_sub8 (List.mem_of_getElem? (i := 102) rfl), rfl⟩
theorem x_cw296 : Cond.code yX10_looks cX10_looks 6 (some .int) ∈ x_gd := List.mem_filter.mpr ⟨x_sub8 (List.mem_of_getElem? (i := 117) rfl), rfl⟩
theorem x_cw297 : Cond.code yX10_partOf cX10_partOf 2 (some .int) ∈ x_gd := List.mem_filter.mpr ⟨x_sub8 (List.mem_of_getElem? (i := 133) rfl), rfl⟩
theorem x_cw298 : Cond.code yX10_planning cX10_planning 11 (some .int) ∈ x_gd := List.mem_filter.mpr ⟨x_sub8 (List.mem_of_getElem? (i := 130) rfl), rfl⟩
theorem x_cw299 : Cond.code yX10_isPlan cX10_isPlan 2 (some .boolean) ∈ x_gd := List.mem_filter.mpr ⟨x_sub8 (List.mem_of_getElem? (i := 125) rfl), rfl⟩
theorem x_cw300 : Cond.code yX10_plan cX10_plan 3 (some .int) ∈ x_gd := List.mem_filter.mpr ⟨x_sub8 (List.mem_of_getElem? (i := 122) rfl), rfl⟩
theorem x_cw301 : Cond.code yX10_planFirst cX10_planFirst 3 (some .int) ∈ x_gd := List.mem_filter.mpr ⟨x_sub8 (List.mem_of_getElem? (i := 137) rfl), rfl⟩
theorem x_cw302 : Cond.code yX10_keeps cX10_keeps 3 none ∈ x_gd := List.mem_filter.mpr ⟨x_sub8 (List.mem_of_getElem? (i := 157) rfl), rfl⟩
theorem x_cw303 : Cond.code yX10_restores cX10_restores 3 none ∈ x_gd := List.mem_filter.mpr ⟨x_sub8 (List.mem_of_getElem? (i := 161) rfl), rfl⟩
theorem x_cw304 : Cond.code yX10_levelAt cX10_levelAt 1 (some .int) ∈ x_gd := List.mem_filter.mpr ⟨x_sub8 (List.mem_of_getElem? (i := 153) rfl), rfl⟩
theorem x_cw305 : Cond.code yX10_weighs cX10_weighs 3 none ∈ x_gd := List.mem_filter.mpr ⟨x_sub8 (List.mem_of_getElem? (i := 165) rfl), rfl⟩
theorem x_cw306 : Cond.code yX10_playing cX10_playing 7 (some .int) ∈ x_gd := List.mem_filter.mpr ⟨x_sub8 (List.mem_of_getElem? (i := 150) rfl), rfl⟩
theorem x_cw307 : Cond.code yX10_isGame cX10_isGame 5 (some .boolean) ∈ x_gd := List.mem_filter.mpr ⟨x_sub8 (List.mem_of_getElem? (i := 145) rfl), rfl⟩
theorem x_cw308 : Cond.code yX10_game cX10_game 4 (some .int) ∈ x_gd := List.mem_filter.mpr ⟨x_sub8 (List.mem_of_getElem? (i := 141) rfl), rfl⟩
theorem x_cw309 : Cond.code yX10_moveOf cX10_moveOf 4 (some .int) ∈ x_gd := List.mem_filter.mpr ⟨x_sub8 (List.mem_of_getElem? (i := 169) rfl), rfl⟩
theorem x_cw310 : Cond.code yX10_copySheets cX10_copySheets 4 (some .int) ∈ x_gd := List.mem_filter.mpr ⟨x_sub8 (List.mem_of_getElem? (i := 173) rfl), rfl⟩
theorem x_cw311 : Cond.code yX10_count cX10_count 6 (some .int) ∈ x_gd := List.mem_filter.mpr ⟨x_sub8 (List.mem_of_getElem? (i := 177) rfl), rfl⟩
theorem x_cw312 : Cond.code yX10_draw cX10_draw 2 (some .int) ∈ x_gd := List.mem_filter.mpr ⟨x_sub8 (List.mem_of_getElem? (i := 213) rfl), rfl⟩
theorem x_cw313 : Cond.code yX10_buysBy cX10_buysBy 4 (some .boolean) ∈ x_gd := List.mem_filter.mpr ⟨x_sub8 (List.mem_of_getElem? (i := 197) rfl), rfl⟩
theorem x_cw314 : Cond.code yX10_paysBy cX10_paysBy 4 (some .boolean) ∈ x_gd := List.mem_filter.mpr ⟨x_sub8 (List.mem_of_getElem? (i := 193) rfl), rfl⟩
theorem x_cw315 : Cond.code yX10_sellsBy cX10_sellsBy 4 (some .boolean) ∈ x_gd := List.mem_filter.mpr ⟨x_sub8 (List.mem_of_getElem? (i := 201) rfl), rfl⟩
theorem x_cw316 : Cond.code yX10_monthsBy cX10_monthsBy 3 (some .boolean) ∈ x_gd := List.mem_filter.mpr ⟨x_sub8 (List.mem_of_getElem? (i := 205) rfl), rfl⟩
theorem x_cw317 : Cond.code yX10_buysAny cX10_buysAny 2 (some .boolean) ∈ x_gd := List.mem_filter.mpr ⟨x_sub8 (List.mem_of_getElem? (i := 209) rfl), rfl⟩
theorem x_cw318 : Cond.code yX10_does cX10_does 5 (some .boolean) ∈ x_gd := List.mem_filter.mpr ⟨x_sub8 (List.mem_of_getElem? (i := 189) rfl), rfl⟩
theorem x_cw319 : Cond.code yX10_holds cX10_holds 4 (some .boolean) ∈ x_gd := List.mem_filter.mpr ⟨x_sub8 (List.mem_of_getElem? (i := 218) rfl), rfl⟩
theorem x_cw320 : Cond.code yX10_behindEnds cX10_behindEnds 5 (some .int) ∈ x_gd := List.mem_filter.mpr ⟨x_sub8 (List.mem_of_getElem? (i := 222) rfl), rfl⟩
theorem x_cw321 : Cond.code yX10_lives cX10_lives 4 none ∈ x_gd := List.mem_filter.mpr ⟨x_sub8 (List.mem_of_getElem? (i := 185) rfl), rfl⟩
theorem x_cw322 : Cond.code yX10_live cX10_live 3 (some .int) ∈ x_gd := List.mem_filter.mpr ⟨x_sub8 (List.mem_of_getElem? (i := 181) rfl), rfl⟩
theorem x_cw323 : Cond.code yX10_lived cX10_lived 2 (some .int) ∈ x_gd := List.mem_filter.mpr ⟨x_sub8 (List.mem_of_getElem? (i := 226) rfl), rfl⟩
theorem x_cw324 : Cond.code yX10_mean cX10_mean 6 (some .boolean) ∈ x_gd := List.mem_filter.mpr ⟨x_sub8 (List.mem_of_getElem? (i := 230) rfl), rfl⟩
theorem x_cw325 : Cond.code yX10_copies cX10_copies 4 none ∈ x_gd := List.mem_filter.mpr ⟨x_sub8 (List.mem_of_getElem? (i := 239) rfl), rfl⟩
theorem x_cw326 : Cond.code yX10_mark cX10_mark 1 (some .int) ∈ x_gd := List.mem_filter.mpr ⟨x_sub8 (List.mem_of_getElem? (i := 235) rfl), rfl⟩
theorem x_cw327 : Cond.code yX10_undo cX10_undo 1 (some .int) ∈ x_gd := List.mem_filter.mpr ⟨x_sub9 (List.mem_of_getElem? (i := 3) rfl), rfl⟩
theorem x_cd0 : ∀ b, b < 40 → x_kd (0 + b) ≠ 0 → Cond.code (x_y (0 + b)) (x_bc (0 + b)) (x_ml (0 + b)) (x_rt (0 + b)) ∈ x_gd
  | 0, _, _ => x_cw0
  | 1, _, _ => x_cw1
  | 2, _, _ => x_cw2
  | 3, _, _ => x_cw3
  | 4, _, _ => x_cw4
  | 5, _, _ => x_cw5
  | 6, _, _ => x_cw6
  | 7, _, _ => x_cw7
  | 8, _, _ => x_cw8
  | 9, _, _ => x_cw9
  | 10, _, _ => x_cw10
  | 11, _, _ => x_cw11
  | 12, _, _ => x_cw12
  | 13, _, _ => x_cw13
  | 14, _, _ => x_cw14
  | 15, _, _ => x_cw15
  | 16, _, _ => x_cw16
  | 17, _, _ => x_cw17
  | 18, _, _ => x_cw18
  | 19, _, _ => x_cw19
  | 20, _, _ => x_cw20
  | 21, _, _ => x_cw21
  | 22, _, _ => x_cw22
  | 23, _, _ => x_cw23
  | 24, _, _ => x_cw24
  | 25, _, _ => x_cw25
  | 26, _, _ => x_cw26
  | 27, _, _ => x_cw27
  | 28, _, _ => x_cw28
  | 29, _, _ => x_cw29
  | 30, _, _ => x_cw30
  | 31, _, _ => x_cw31
  | 32, _, _ => x_cw32
  | 33, _, _ => x_cw33
  | 34, _, _ => x_cw34
  | 35, _, _ => x_cw35
  | 36, _, _ => x_cw36
  | 37, _, _ => x_cw37
  | 38, _, _ => x_cw38
  | 39, _, _ => x_cw39
  | n + 40, h, h2 => absurd h (by omega)
theorem x_cd1 : ∀ b, b < 40 → x_kd (40 + b) ≠ 0 → Cond.code (x_y (40 + b)) (x_bc (40 + b)) (x_ml (40 + b)) (x_rt (40 + b)) ∈ x_gd
  | 0, _, _ => x_cw40
  | 1, _, _ => x_cw41
  | 2, _, _ => x_cw42
  | 3, _, _ => x_cw43
  | 4, _, _ => x_cw44
  | 5, _, _ => x_cw45
  | 6, _, _ => x_cw46
  | 7, _, _ => x_cw47
  | 8, _, _ => x_cw48
  | 9, _, _ => x_cw49
  | 10, _, _ => x_cw50
  | 11, _, _ => x_cw51
  | 12, _, _ => x_cw52
  | 13, _, _ => x_cw53
  | 14, _, _ => x_cw54
  | 15, _, _ => x_cw55
  | 16, _, _ => x_cw56
  | 17, _, _ => x_cw57
  | 18, _, _ => x_cw58
  | 19, _, _ => x_cw59
  | 20, _, _ => x_cw60
  | 21, _, _ => x_cw61
  | 22, _, _ => x_cw62
  | 23, _, _ => x_cw63
  | 24, _, _ => x_cw64
  | 25, _, _ => x_cw65
  | 26, _, _ => x_cw66
  | 27, _, _ => x_cw67
  | 28, _, _ => x_cw68
  | 29, _, _ => x_cw69
  | 30, _, _ => x_cw70
  | 31, _, _ => x_cw71
  | 32, _, _ => x_cw72
  | 33, _, _ => x_cw73
  | 34, _, _ => x_cw74
  | 35, _, _ => x_cw75
  | 36, _, _ => x_cw76
  | 37, _, _ => x_cw77
  | 38, _, _ => x_cw78
  | 39, _, _ => x_cw79
  | n + 40, h, h2 => absurd h (by omega)
theorem x_cd2 : ∀ b, b < 40 → x_kd (80 + b) ≠ 0 → Cond.code (x_y (80 + b)) (x_bc (80 + b)) (x_ml (80 + b)) (x_rt (80 + b)) ∈ x_gd
  | 0, _, _ => x_cw80
  | 1, _, _ => x_cw81
  | 2, _, _ => x_cw82
  | 3, _, _ => x_cw83
  | 4, _, _ => x_cw84
  | 5, _, _ => x_cw85
  | 6, _, _ => x_cw86
  | 7, _, _ => x_cw87
  | 8, _, _ => x_cw88
  | 9, _, _ => x_cw89
  | 10, _, _ => x_cw90
  | 11, _, _ => x_cw91
  | 12, _, _ => x_cw92
  | 13, _, _ => x_cw93
  | 14, _, _ => x_cw94
  | 15, _, _ => x_cw95
  | 16, _, _ => x_cw96
  | 17, _, _ => x_cw97
  | 18, _, _ => x_cw98
  | 19, _, _ => x_cw99
  | 20, _, _ => x_cw100
  | 21, _, _ => x_cw101
  | 22, _, _ => x_cw102
  | 23, _, _ => x_cw103
  | 24, _, _ => x_cw104
  | 25, _, _ => x_cw105
  | 26, _, _ => x_cw106
  | 27, _, _ => x_cw107
  | 28, _, _ => x_cw108
  | 29, _, _ => x_cw109
  | 30, _, _ => x_cw110
  | 31, _, _ => x_cw111
  | 32, _, _ => x_cw112
  | 33, _, _ => x_cw113
  | 34, _, _ => x_cw114
  | 35, _, _ => x_cw115
  | 36, _, _ => x_cw116
  | 37, _, _ => x_cw117
  | 38, _, _ => x_cw118
  | 39, _, _ => x_cw119
  | n + 40, h, h2 => absurd h (by omega)
theorem x_cd3 : ∀ b, b < 40 → x_kd (120 + b) ≠ 0 → Cond.code (x_y (120 + b)) (x_bc (120 + b)) (x_ml (120 + b)) (x_rt (120 + b)) ∈ x_gd
  | 0, _, _ => x_cw120
  | 1, _, _ => x_cw121
  | 2, _, _ => x_cw122
  | 3, _, _ => x_cw123
  | 4, _, _ => x_cw124
  | 5, _, _ => x_cw125
  | 6, _, _ => x_cw126
  | 7, _, _ => x_cw127
  | 8, _, _ => x_cw128
  | 9, _, _ => x_cw129
  | 10, _, _ => x_cw130
  | 11, _, _ => x_cw131
  | 12, _, _ => x_cw132
  | 13, _, _ => x_cw133
  | 14, _, _ => x_cw134
  | 15, _, _ => x_cw135
  | 16, _, _ => x_cw136
  | 17, _, _ => x_cw137
  | 18, _, _ => x_cw138
  | 19, _, _ => x_cw139
  | 20, _, _ => x_cw140
  | 21, _, _ => x_cw141
  | 22, _, _ => x_cw142
  | 23, _, _ => x_cw143
  | 24, _, _ => x_cw144
  | 25, _, _ => x_cw145
  | 26, _, _ => x_cw146
  | 27, _, _ => x_cw147
  | 28, _, _ => x_cw148
  | 29, _, _ => x_cw149
  | 30, _, _ => x_cw150
  | 31, _, _ => x_cw151
  | 32, _, _ => x_cw152
  | 33, _, _ => x_cw153
  | 34, _, _ => x_cw154
  | 35, _, _ => x_cw155
  | 36, _, _ => x_cw156
  | 37, _, _ => x_cw157
  | 38, _, _ => x_cw158
  | 39, _, _ => x_cw159
  | n + 40, h, h2 => absurd h (by omega)
theorem x_cd4 : ∀ b, b < 40 → x_kd (160 + b) ≠ 0 → Cond.code (x_y (160 + b)) (x_bc (160 + b)) (x_ml (160 + b)) (x_rt (160 + b)) ∈ x_gd
  | 0, _, _ => x_cw160
  | 1, _, _ => x_cw161
  | 2, _, _ => x_cw162
  | 3, _, _ => x_cw163
  | 4, _, _ => x_cw164
  | 5, _, _ => x_cw165
  | 6, _, _ => x_cw166
  | 7, _, _ => x_cw167
  | 8, _, _ => x_cw168
  | 9, _, _ => x_cw169
  | 10, _, _ => x_cw170
  | 11, _, _ => x_cw171
  | 12, _, _ => x_cw172
  | 13, _, _ => x_cw173
  | 14, _, _ => x_cw174
  | 15, _, _ => x_cw175
  | 16, _, _ => x_cw176
  | 17, _, _ => x_cw177
  | 18, _, _ => x_cw178
  | 19, _, _ => x_cw179
  | 20, _, _ => x_cw180
  | 21, _, _ => x_cw181
  | 22, _, _ => x_cw182
  | 23, _, _ => x_cw183
  | 24, _, _ => x_cw184
  | 25, _, _ => x_cw185
  | 26, _, _ => x_cw186
  | 27, _, _ => x_cw187
  | 28, _, _ => x_cw188
  | 29, _, _ => x_cw189
  | 30, _, _ => x_cw190
  | 31, _, _ => x_cw191
  | 32, _, _ => x_cw192
  | 33, _, _ => x_cw193
  | 34, _, _ => x_cw194
  | 35, _, _ => x_cw195
  | 36, _, _ => x_cw196
  | 37, _, _ => x_cw197
  | 38, _, _ => x_cw198
  | 39, _, _ => x_cw199
  | n + 40, h, h2 => absurd h (by omega)
theorem x_cd5 : ∀ b, b < 40 → x_kd (200 + b) ≠ 0 → Cond.code (x_y (200 + b)) (x_bc (200 + b)) (x_ml (200 + b)) (x_rt (200 + b)) ∈ x_gd
  | 0, _, _ => x_cw200
  | 1, _, _ => x_cw201
  | 2, _, _ => x_cw202
  | 3, _, _ => x_cw203
  | 4, _, _ => x_cw204
  | 5, _, _ => x_cw205
  | 6, _, _ => x_cw206
  | 7, _, _ => x_cw207
  | 8, _, _ => x_cw208
  | 9, _, _ => x_cw209
  | 10, _, _ => x_cw210
  | 11, _, _ => x_cw211
  | 12, _, _ => x_cw212
  | 13, _, _ => x_cw213
  | 14, _, _ => x_cw214
  | 15, _, _ => x_cw215
  | 16, _, _ => x_cw216
  | 17, _, _ => x_cw217
  | 18, _, _ => x_cw218
  | 19, _, _ => x_cw219
  | 20, _, _ => x_cw220
  | 21, _, _ => x_cw221
  | 22, _, _ => x_cw222
  | 23, _, _ => x_cw223
  | 24, _, _ => x_cw224
  | 25, _, _ => x_cw225
  | 26, _, _ => x_cw226
  | 27, _, _ => x_cw227
  | 28, _, _ => x_cw228
  | 29, _, _ => x_cw229
  | 30, _, _ => x_cw230
  | 31, _, _ => x_cw231
  | 32, _, _ => x_cw232
  | 33, _, _ => x_cw233
  | 34, _, _ => x_cw234
  | 35, _, _ => x_cw235
  | 36, _, _ => x_cw236
  | 37, _, _ => x_cw237
  | 38, _, _ => x_cw238
  | 39, _, _ => x_cw239
  | n + 40, h, h2 => absurd h (by omega)
theorem x_cd6 : ∀ b, b < 40 → x_kd (240 + b) ≠ 0 → Cond.code (x_y (240 + b)) (x_bc (240 + b)) (x_ml (240 + b)) (x_rt (240 + b)) ∈ x_gd
  | 0, _, _ => x_cw240
  | 1, _, _ => x_cw241
  | 2, _, _ => x_cw242
  | 3, _, _ => x_cw243
  | 4, _, _ => x_cw244
  | 5, _, _ => x_cw245
  | 6, _, _ => x_cw246
  | 7, _, _ => x_cw247
  | 8, _, _ => x_cw248
  | 9, _, _ => x_cw249
  | 10, _, _ => x_cw250
  | 11, _, _ => x_cw251
  | 12, _, _ => x_cw252
  | 13, _, _ => x_cw253
  | 14, _, _ => x_cw254
  | 15, _, _ => x_cw255
  | 16, _, _ => x_cw256
  | 17, _, _ => x_cw257
  | 18, _, _ => x_cw258
  | 19, _, _ => x_cw259
  | 20, _, _ => x_cw260
  | 21, _, _ => x_cw261
  | 22, _, _ => x_cw262
  | 23, _, _ => x_cw263
  | 24, _, _ => x_cw264
  | 25, _, _ => x_cw265
  | 26, _, _ => x_cw266
  | 27, _, _ => x_cw267
  | 28, _, _ => x_cw268
  | 29, _, _ => x_cw269
  | 30, _, _ => x_cw270
  | 31, _, _ => x_cw271
  | 32, _, _ => x_cw272
  | 33, _, _ => x_cw273
  | 34, _, _ => x_cw274
  | 35, _, _ => x_cw275
  | 36, _, _ => x_cw276
  | 37, _, _ => x_cw277
  | 38, _, _ => x_cw278
  | 39, _, _ => x_cw279
  | n + 40, h, h2 => absurd h (by omega)
theorem x_cd7 : ∀ b, b < 40 → x_kd (280 + b) ≠ 0 → Cond.code (x_y (280 + b)) (x_bc (280 + b)) (x_ml (280 + b)) (x_rt (280 + b)) ∈ x_gd
  | 0, _, _ => x_cw280
  | 1, _, _ => x_cw281
  | 2, _, _ => x_cw282
  | 3, _, _ => x_cw283
  | 4, _, _ => x_cw284
  | 5, _, _ => x_cw285
  | 6, _, _ => x_cw286
  | 7, _, _ => x_cw287
  | 8, _, _ => x_cw288
  | 9, _, _ => x_cw289
  | 10, _, _ => x_cw290
  | 11, _, _ => x_cw291
  | 12, _, _ => x_cw292
  | 13, _, _ => x_cw293
  | 14, _, _ => x_cw294
  | 15, _, _ => x_cw295
  | 16, _, _ => x_cw296
  | 17, _, _ => x_cw297
  | 18, _, _ => x_cw298
  | 19, _, _ => x_cw299
  | 20, _, _ => x_cw300
  | 21, _, _ => x_cw301
  | 22, _, _ => x_cw302
  | 23, _, _ => x_cw303
  | 24, _, _ => x_cw304
  | 25, _, _ => x_cw305
  | 26, _, _ => x_cw306
  | 27, _, _ => x_cw307
  | 28, _, _ => x_cw308
  | 29, _, _ => x_cw309
  | 30, _, _ => x_cw310
  | 31, _, _ => x_cw311
  | 32, _, _ => x_cw312
  | 33, _, _ => x_cw313
  | 34, _, _ => x_cw314
  | 35, _, _ => x_cw315
  | 36, _, _ => x_cw316
  | 37, _, _ => x_cw317
  | 38, _, _ => x_cw318
  | 39, _, _ => x_cw319
  | n + 40, h, h2 => absurd h (by omega)
theorem x_cd8 : ∀ b, b < 40 → x_kd (320 + b) ≠ 0 → Cond.code (x_y (320 + b)) (x_bc (320 + b)) (x_ml (320 + b)) (x_rt (320 + b)) ∈ x_gd
  | 0, _, _ => x_cw320
  | 1, _, _ => x_cw321
  | 2, _, _ => x_cw322
  | 3, _, _ => x_cw323
  | 4, _, _ => x_cw324
  | 5, _, _ => x_cw325
  | 6, _, _ => x_cw326
  | 7, _, _ => x_cw327
  | 8, _, h => absurd rfl h
  | 9, _, h => absurd rfl h
  | 10, _, h => absurd rfl h
  | 11, _, h => absurd rfl h
  | 12, _, h => absurd rfl h
  | 13, _, h => absurd rfl h
  | 14, _, h => absurd rfl h
  | 15, _, h => absurd rfl h
  | 16, _, h => absurd rfl h
  | 17, _, h => absurd rfl h
  | 18, _, h => absurd rfl h
  | 19, _, h => absurd rfl h
  | 20, _, h => absurd rfl h
  | 21, _, h => absurd rfl h
  | 22, _, h => absurd rfl h
  | 23, _, h => absurd rfl h
  | 24, _, h => absurd rfl h
  | 25, _, h => absurd rfl h
  | 26, _, h => absurd rfl h
  | 27, _, h => absurd rfl h
  | 28, _, h => absurd rfl h
  | 29, _, h => absurd rfl h
  | 30, _, h => absurd rfl h
  | 31, _, h => absurd rfl h
  | 32, _, h => absurd rfl h
  | 33, _, h => absurd rfl h
  | 34, _, h => absurd rfl h
  | 35, _, h => absurd rfl h
  | 36, _, h => absurd rfl h
  | 37, _, h => absurd rfl h
  | 38, _, h => absurd rfl h
  | 39, _, h => absurd rfl h
  | n + 40, h, h2 => absurd h (by omega)
theorem x_code {a : Nat} (h : a < 329) (hk : x_kd a ≠ 0) : Cond.code (x_y a) (x_bc a) (x_ml a) (x_rt a) ∈ x_gd := by
  rcases Nat.lt_or_ge a 40 with q | q
  · obtain ⟨b, rfl⟩ : ∃ b, a = 0 + b := ⟨a - 0, by omega⟩
    exact x_cd0 b (by omega) hk
  rcases Nat.lt_or_ge a 80 with q | q
  · obtain ⟨b, rfl⟩ : ∃ b, a = 40 + b := ⟨a - 40, by omega⟩
    exact x_cd1 b (by omega) hk
  rcases Nat.lt_or_ge a 120 with q | q
  · obtain ⟨b, rfl⟩ : ∃ b, a = 80 + b := ⟨a - 80, by omega⟩
    exact x_cd2 b (by omega) hk
  rcases Nat.lt_or_ge a 160 with q | q
  · obtain ⟨b, rfl⟩ : ∃ b, a = 120 + b := ⟨a - 120, by omega⟩
    exact x_cd3 b (by omega) hk
  rcases Nat.lt_or_ge a 200 with q | q
  · obtain ⟨b, rfl⟩ : ∃ b, a = 160 + b := ⟨a - 160, by omega⟩
    exact x_cd4 b (by omega) hk
  rcases Nat.lt_or_ge a 240 with q | q
  · obtain ⟨b, rfl⟩ : ∃ b, a = 200 + b := ⟨a - 200, by omega⟩
    exact x_cd5 b (by omega) hk
  rcases Nat.lt_or_ge a 280 with q | q
  · obtain ⟨b, rfl⟩ : ∃ b, a = 240 + b := ⟨a - 240, by omega⟩
    exact x_cd6 b (by omega) hk
  rcases Nat.lt_or_ge a 320 with q | q
  · obtain ⟨b, rfl⟩ : ∃ b, a = 280 + b := ⟨a - 280, by omega⟩
    exact x_cd7 b (by omega) hk
  rcases Nat.lt_or_ge a 360 with q | q
  · obtain ⟨b, rfl⟩ : ∃ b, a = 320 + b := ⟨a - 320, by omega⟩
    exact x_cd8 b (by omega) hk
  · omega
