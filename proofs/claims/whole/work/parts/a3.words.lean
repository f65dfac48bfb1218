/-! the words are in the tables -/
theorem tb_ix {ws : List Cond} (is : List Nat) (h : ws.map some = is.map (fun i => lw_tbl[i]?)) : ∀ w ∈ ws, w ∈ lw_tbl := fun w hw => by
  have h1 : some w ∈ ws.map some := List.mem_map.mpr ⟨w, hw, rfl⟩
  rw [h] at h1
  obtain ⟨i, -, hi⟩ := List.mem_map.mp h1
  exact List.mem_of_getElem? hi
theorem tb_r1 : ∀ w ∈ wsL_law0_r1, w ∈ lw_tbl := tb_ix [124, 125, 92, 1351, 1352, 101, 1777, 126, 127, 128, 129, 130, 131, 132, 133, 93, 256, 148, 149, 94, 257, 236, 237, 100] (by decide +kernel)
theorem tb_r2 : ∀ w ∈ wsL_law0_r2, w ∈ lw_tbl := tb_ix [258, 254, 155, 95, 259, 260, 261, 262, 263, 134, 135, 136, 137, 147, 138, 139, 150, 151, 152, 153, 154, 216, 190, 191] (by decide +kernel)
theorem tb_r3 : ∀ w ∈ wsL_law0_r3, w ∈ lw_tbl := tb_ix [99, 218, 215, 221, 219, 220, 222, 156, 157, 158, 159, 160, 161, 98, 186, 162, 163, 164, 172, 174, 165, 166, 97, 167] (by decide +kernel)
theorem tb_r4 : ∀ w ∈ wsL_law0_r4, w ∈ lw_tbl := tb_ix [176, 168, 169, 96, 170, 171, 192, 193, 194, 195, 196, 197, 198, 199, 200, 201, 238, 239, 240, 241, 242, 244, 246, 255] (by decide +kernel)
theorem tb_r5 : ∀ w ∈ wsL_law0_r5, w ∈ lw_tbl := tb_ix [1353, 1354, 1355, 1356, 1359, 1360, 1361, 1362, 1363, 1458, 1364, 1365, 1357, 1366, 1372, 1373, 1374, 1378, 1383, 1385, 1386, 281, 282, 283] (by decide +kernel)
theorem tb_r6 : ∀ w ∈ wsL_law0_r6, w ∈ lw_tbl := tb_ix [284, 140, 285, 286, 287, 288, 1463, 1464, 1465, 1466, 1358, 1379, 289, 290, 291, 292, 293, 294, 295, 296, 1467, 1468, 1469, 1470] (by decide +kernel)
theorem tb_r7 : ∀ w ∈ wsL_law0_r7, w ∈ lw_tbl := tb_ix [321, 322, 91, 323, 324, 325, 326, 327, 328, 678, 116, 217, 329, 330, 331, 332, 333, 334, 335, 336, 337, 338, 339, 340] (by decide +kernel)
theorem tb_r8 : ∀ w ∈ wsL_law0_r8, w ∈ lw_tbl := tb_ix [177, 178, 175, 341, 342, 343, 344, 141, 345, 306, 307, 308, 346, 347, 348, 349, 350, 351, 352, 353, 354, 355, 356, 102] (by decide +kernel)
theorem tb_r9 : ∀ w ∈ wsL_law0_r9, w ∈ lw_tbl := tb_ix [357, 375, 376, 377, 378, 379, 380, 103, 381, 1046, 382, 383, 384, 385, 386, 1047, 388, 389, 390, 391, 392, 393, 394, 395] (by decide +kernel)
theorem tb_r10 : ∀ w ∈ wsL_law0_r10, w ∈ lw_tbl := tb_ix [396, 397, 104, 398, 399, 400, 401, 402, 404, 405, 105, 406, 407, 408, 106, 409, 410, 411, 412, 413, 414, 415, 416, 417] (by decide +kernel)
theorem tb_r11 : ∀ w ∈ wsL_law0_r11, w ∈ lw_tbl := tb_ix [418, 419, 420, 422, 424, 426, 428, 0, 429, 430, 431, 432, 433, 434, 435, 436, 437, 438, 439, 440, 441, 442, 444, 1] (by decide +kernel)
theorem tb_r12 : ∀ w ∈ wsL_law0_r12, w ∈ lw_tbl := tb_ix [445, 558, 559, 108, 446, 447, 448, 449, 450, 452, 2, 453, 454, 456, 3, 518, 519, 107, 520, 473, 474, 521, 523, 5] (by decide +kernel)
theorem tb_r13 : ∀ w ∈ wsL_law0_r13, w ∈ lw_tbl := tb_ix [524, 482, 486, 514, 515, 516, 478, 517, 488, 490, 492, 494, 484, 457, 458, 460, 4, 461, 462, 463, 464, 465, 466, 467] (by decide +kernel)
theorem tb_r14 : ∀ w ∈ wsL_law0_r14, w ∈ lw_tbl := tb_ix [468, 469, 470, 471, 472, 475, 476, 477, 480, 511, 512, 513, 525, 526, 527, 528, 529, 531, 6, 532, 533, 535, 7, 536] (by decide +kernel)
theorem tb_r15 : ∀ w ∈ wsL_law0_r15, w ∈ lw_tbl := tb_ix [537, 539, 8, 540, 541, 542, 544, 9, 545, 546, 548, 10, 549, 550, 552, 11, 553, 554, 556, 12, 557, 560, 562, 13] (by decide +kernel)
theorem tb_r16 : ∀ w ∈ wsL_law0_r16, w ∈ lw_tbl := tb_ix [563, 564, 565, 109, 566, 567, 568, 569, 570, 572, 571, 110, 573, 574, 575, 576, 577, 579, 582, 585, 587, 590, 592, 609] (by decide +kernel)
theorem tb_r17 : ∀ w ∈ wsL_law0_r17, w ∈ lw_tbl := tb_ix [610, 611, 612, 317, 318, 319, 320, 613, 614, 615, 616, 617, 619, 14, 620, 621, 623, 15, 624, 625, 627, 16, 628, 668] (by decide +kernel)
theorem tb_r18 : ∀ w ∈ wsL_law0_r18, w ∈ lw_tbl := tb_ix [669, 629, 630, 111, 631, 632, 633, 634, 635, 636, 637, 638, 112, 639, 640, 1805, 641, 659, 660, 661, 662, 663, 665, 666] (by decide +kernel)
theorem tb_r19 : ∀ w ∈ wsL_law0_r19, w ∈ lw_tbl := tb_ix [667, 670, 671, 672, 673, 674, 675, 676, 677, 746, 747, 748, 749, 750, 314, 315, 316, 751, 752, 753, 754, 767, 755, 756] (by decide +kernel)
theorem tb_r20 : ∀ w ∈ wsL_law0_r20, w ∈ lw_tbl := tb_ix [757, 758, 759, 760, 117, 761, 762, 763, 764, 765, 766, 768, 313, 1471, 1472, 1473, 1474, 1381, 1382, 1367, 1371, 1369, 1370, 1475] (by decide +kernel)
theorem tb_r21 : ∀ w ∈ wsL_law0_r21, w ∈ lw_tbl := tb_ix [1477, 38, 1478, 1380, 1479, 1481, 39, 1482, 1484, 1486, 40, 1487, 1488, 1490, 41, 1491, 1492, 1494, 42, 1495, 1496, 1498, 43, 1499] (by decide +kernel)
theorem tb_r22 : ∀ w ∈ wsL_law0_r22, w ∈ lw_tbl := tb_ix [1500, 1502, 44, 1503, 1504, 1505, 1506, 1508, 45, 1509, 1375, 1384, 1510, 1512, 46, 1513, 1514, 1516, 47, 1527, 1529, 50, 1530, 1531] (by decide +kernel)
theorem tb_r23 : ∀ w ∈ wsL_law0_r23, w ∈ lw_tbl := tb_ix [1533, 51, 1534, 1517, 1518, 1520, 48, 1521, 1522, 1524, 49, 1525, 1536, 1538, 52, 1539, 1542, 1544, 53, 1545, 1377, 1546, 1548, 54] (by decide +kernel)
theorem tb_r24 : ∀ w ∈ wsL_law0_r24, w ∈ lw_tbl := tb_ix [1549, 1550, 1552, 55, 1553, 1554, 1556, 56, 1557, 1558, 1560, 57, 1561, 1562, 1564, 58, 1565, 1569, 1571, 59, 1572, 1575, 1577, 60] (by decide +kernel)
theorem tb_r25 : ∀ w ∈ wsL_law0_r25, w ∈ lw_tbl := tb_ix [1578, 1585, 1587, 61, 1588, 1589, 1591, 62, 1592, 1593, 1595, 63, 1596, 1368, 1459, 1460, 1461, 1462, 297, 298, 299, 300, 1597, 1598] (by decide +kernel)
theorem tb_r26 : ∀ w ∈ wsL_law0_r26, w ∈ lw_tbl := tb_ix [1599, 1600, 769, 770, 771, 772, 773, 774, 775, 776, 777, 778, 780, 18, 781, 802, 119, 782, 784, 19, 785, 786, 118, 818] (by decide +kernel)
theorem tb_r27 : ∀ w ∈ wsL_law0_r27, w ∈ lw_tbl := tb_ix [819, 820, 821, 589, 822, 823, 824, 825, 826, 827, 828, 829, 830, 831, 832, 833, 834, 835, 836, 837, 838, 839, 1058, 840] (by decide +kernel)
theorem tb_r28 : ∀ w ∈ wsL_law0_r28, w ∈ lw_tbl := tb_ix [842, 20, 843, 1059, 1061, 22, 1062, 1672, 1673, 1674, 1675, 1676, 1678, 77, 1679, 1680, 1682, 78, 1683, 1669, 1670, 1671, 1063, 1064] (by decide +kernel)
theorem tb_r29 : ∀ w ∈ wsL_law0_r29, w ∈ lw_tbl := tb_ix [1065, 1066, 1067, 1068, 1069, 1070, 1071, 1072, 1073, 1074, 1075, 1076, 1077, 1078, 1079, 1080, 1081, 1082, 1083, 1084, 1085, 1087, 1088, 1089] (by decide +kernel)
theorem tb_r30 : ∀ w ∈ wsL_law0_r30, w ∈ lw_tbl := tb_ix [1090, 1091, 1092, 1093, 1094, 1095, 1096, 1097, 1098, 1099, 1101, 23, 1102, 1684, 1685, 1686, 1687, 1688, 1690, 79, 1691, 1103, 1104, 1105] (by decide +kernel)
theorem tb_r31 : ∀ w ∈ wsL_law0_r31, w ∈ lw_tbl := tb_ix [1106, 1107, 1108, 1109, 1110, 1111, 1112, 1113, 1114, 1115, 1116, 1117, 1118, 1119, 1120, 1121, 1692, 1693, 1694, 1695, 1696, 1698, 80, 1699] (by decide +kernel)
theorem tb_r32 : ∀ w ∈ wsL_law0_r32, w ∈ lw_tbl := tb_ix [1122, 1123, 1124, 1125, 1126, 1127, 1128, 1129, 1130, 1131, 1132, 1133, 1134, 1135, 1136, 495, 1137, 1138, 1139, 1140, 1141, 1142, 1144, 1145] (by decide +kernel)
theorem tb_r33 : ∀ w ∈ wsL_law0_r33, w ∈ lw_tbl := tb_ix [1146, 1147, 1148, 1700, 1701, 1702, 1703, 1704, 1706, 81, 1707, 1656, 1658, 76, 1659, 1708, 1710, 82, 1711, 1376, 1712, 1714, 83, 1715] (by decide +kernel)
theorem tb_r34 : ∀ w ∈ wsL_law0_r34, w ∈ lw_tbl := tb_ix [1716, 1718, 84, 1719, 1149, 1150, 1151, 1152, 1153, 1154, 1155, 1156, 1157, 1158, 1159, 1160, 1162, 24, 1163, 1164, 1165, 1166, 1167, 1176] (by decide +kernel)
theorem tb_r35 : ∀ w ∈ wsL_law0_r35, w ∈ lw_tbl := tb_ix [1168, 1169, 1170, 1171, 491, 1172, 1173, 1174, 1175, 493, 1177, 1178, 122, 1179, 1180, 1181, 1182, 1183, 1185, 25, 1186, 1187, 1188, 1189] (by decide +kernel)
theorem tb_r36 : ∀ w ∈ wsL_law0_r36, w ∈ lw_tbl := tb_ix [1190, 1724, 1725, 1726, 1727, 1390, 1728, 1730, 85, 1731, 1605, 1607, 64, 1608, 1609, 1611, 65, 1612, 1613, 1615, 66, 1616, 1387, 1388] (by decide +kernel)
theorem tb_r37 : ∀ w ∈ wsL_law0_r37, w ∈ lw_tbl := tb_ix [1617, 1619, 67, 1620, 1389, 1621, 1623, 68, 1624, 1625, 1627, 69, 1628, 1629, 1631, 70, 1632, 1633, 1635, 71, 1636, 1637, 1639, 72] (by decide +kernel)
theorem tb_r38 : ∀ w ∈ wsL_law0_r38, w ∈ lw_tbl := tb_ix [1640, 1644, 1646, 73, 1647, 1648, 1650, 74, 1651, 1652, 1654, 75, 1655, 1732, 1733, 1734, 1735, 1191, 1192, 1193, 1194, 1195, 1196, 1197] (by decide +kernel)
theorem tb_r39 : ∀ w ∈ wsL_law0_r39, w ∈ lw_tbl := tb_ix [1720, 1721, 1722, 1723, 1198, 1199, 1200, 1201, 1202, 1203, 1204, 1205, 1207, 26, 1208, 1601, 1602, 1603, 1604, 1209, 1210, 1211, 1212, 1213] (by decide +kernel)
theorem tb_r40 : ∀ w ∈ wsL_law0_r40, w ∈ lw_tbl := tb_ix [1214, 1215, 1216, 1217, 123, 1233, 1234, 1235, 1236, 1237, 1238, 1769, 1770, 1771, 1772, 1239, 1240, 1241, 1242, 1243, 1244, 1245, 1246, 1247] (by decide +kernel)
theorem tb_r41 : ∀ w ∈ wsL_law0_r41, w ∈ lw_tbl := tb_ix [1248, 1249, 1261, 1250, 1252, 27, 1253, 1254, 1255, 1256, 1257, 1258, 1259, 1260, 489, 1736, 1737, 1738, 1739, 1740, 1742, 86, 1743, 1744] (by decide +kernel)
theorem tb_r42 : ∀ w ∈ wsL_law0_r42, w ∈ lw_tbl := tb_ix [1746, 87, 1747, 1748, 1750, 88, 1751, 1752, 1754, 89, 1755, 1756, 1758, 90, 1759, 1262, 1263, 1264, 1265, 1266, 1267, 1268, 245, 243] (by decide +kernel)
theorem tb_r43 : ∀ w ∈ wsL_law0_r43, w ∈ lw_tbl := tb_ix [1269, 1270, 1271, 1272, 1273, 1274, 1276, 28, 1277, 1278, 1279, 1281, 29, 1282, 591, 586, 588, 580, 578, 593, 583, 1283, 1285, 30] (by decide +kernel)
theorem tb_r44 : ∀ w ∈ wsL_law0_r44, w ∈ lw_tbl := tb_ix [1286, 1287, 1289, 31, 1290, 1291, 1292, 1293, 1294, 1296, 32, 1297, 483, 485, 487, 1298, 1300, 33, 1301, 1302, 1304, 34, 1305, 1306] (by decide +kernel)
theorem tb_r45 : ∀ w ∈ wsL_law0_r45, w ∈ lw_tbl := tb_ix [1308, 35, 1309, 1310, 1312, 36, 1313, 1314, 1316, 37, 1317, 1318, 1319, 1320, 1321, 1322, 1660, 1661, 1662, 1663, 301, 302, 303, 304] (by decide +kernel)
theorem tb_r46 : ∀ w ∈ wsL_law0_r46, w ∈ lw_tbl := tb_ix [305, 1665, 1666, 1667, 1668, 1323, 1324, 1325, 1326, 1327, 1328, 1329, 1330, 1331, 1332, 1333, 581, 1334, 1335, 1336, 1337, 1338, 1760, 1761] (by decide +kernel)
theorem tb_r47 : ∀ w ∈ wsL_law0_r47, w ∈ lw_tbl := tb_ix [1762, 1763, 1339, 1340, 1341, 1342, 1343, 1344, 1345, 1346, 1347, 1348, 1349, 584, 1350, 1764, 1765, 1766, 1767, 1768, 309, 310, 311, 312] (by decide +kernel)
theorem tb_r48 : ∀ w ∈ wsL_law0_r48, w ∈ lw_tbl := tb_ix [1773, 1774, 1775, 1776] (by decide +kernel)
theorem tb_x0 : ∀ w ∈ tx0, w ∈ lw_tbl := by decide +kernel
theorem tb_x1 : ∀ w ∈ tx1, w ∈ lw_tbl := by decide +kernel
theorem tb_x2 : ∀ w ∈ tx2, w ∈ lw_tbl := by decide +kernel
theorem tb_x3 : ∀ w ∈ tx3, w ∈ lw_tbl := by decide +kernel
theorem tb_wsX80 : ∀ w ∈ wsX80, w ∈ lw_tbl := by decide +kernel
theorem tb_wsX90 : ∀ w ∈ wsX90, w ∈ lw_tbl := by decide +kernel
theorem tb_wsX40 : ∀ w ∈ wsX40, w ∈ lw_tbl := by decide +kernel
theorem tb_wsX20 : ∀ w ∈ wsX20, w ∈ lw_tbl := by decide +kernel
theorem tb_wsX70 : ∀ w ∈ wsX70, w ∈ lw_tbl := by decide +kernel
theorem tb_wsX10 : ∀ w ∈ wsX10, w ∈ lw_tbl := by decide +kernel
theorem tb_wsX60 : ∀ w ∈ wsX60, w ∈ lw_tbl := by decide +kernel
theorem tb_wsJx4a65c0 : ∀ w ∈ wsJx4a65c0, w ∈ lw_tbl := by decide +kernel
theorem tb_wsJ00 : ∀ w ∈ wsJ00, w ∈ lw_tbl := by decide +kernel
theorem tb_wsX30 : ∀ w ∈ wsX30, w ∈ lw_tbl := by decide +kernel
theorem tb_wsX00 : ∀ w ∈ wsX00, w ∈ lw_tbl := by decide +kernel
theorem tb_0 : ∀ w ∈ wsL_law0, w ∈ lw_tbl := by
  unfold wsL_law0
  exact (List.forall_mem_append.mpr ⟨(List.forall_mem_append.mpr ⟨(List.forall_mem_append.mpr ⟨(List.forall_mem_append.mpr ⟨(List.forall_mem_append.mpr ⟨(List.forall_mem_append.mpr ⟨(List.forall_mem_append.mpr ⟨(List.forall_mem_append.mpr ⟨(List.forall_mem_append.mpr ⟨(List.forall_mem_append.mpr ⟨(List.forall_mem_append.mpr ⟨(List.forall_mem_append.mpr ⟨(List.forall_mem_append.mpr ⟨tb_r1, (List.forall_mem_append.mpr ⟨tb_r2, (List.forall_mem_append.mpr ⟨tb_r3, (List.forall_mem_append.mpr ⟨tb_r4, (List.forall_mem_append.mpr ⟨tb_r5, (List.forall_mem_append.mpr ⟨tb_r6, (List.forall_mem_append.mpr ⟨tb_r7, (List.forall_mem_append.mpr ⟨tb_r8, (List.forall_mem_append.mpr ⟨tb_r9, (List.forall_mem_append.mpr ⟨tb_r10, (List.forall_mem_append.mpr ⟨tb_r11, (List.forall_mem_append.mpr ⟨tb_r12, (List.forall_mem_append.mpr ⟨tb_r13, (List.forall_mem_append.mpr ⟨tb_r14, (List.forall_mem_append.mpr ⟨tb_r15, (List.forall_mem_append.mpr ⟨tb_r16, (List.forall_mem_append.mpr ⟨tb_r17, (List.forall_mem_append.mpr ⟨tb_r18, (List.forall_mem_append.mpr ⟨tb_r19, (List.forall_mem_append.mpr ⟨tb_r20, (List.forall_mem_append.mpr ⟨tb_r21, (List.forall_mem_append.mpr ⟨tb_r22, (List.forall_mem_append.mpr ⟨tb_r23, (List.forall_mem_append.mpr ⟨tb_r24, (List.forall_mem_append.mpr ⟨tb_r25, (List.forall_mem_append.mpr ⟨tb_r26, (List.forall_mem_append.mpr ⟨tb_r27, (List.forall_mem_append.mpr ⟨tb_r28, (List.forall_mem_append.mpr ⟨tb_r29, (List.forall_mem_append.mpr ⟨tb_r30, (List.forall_mem_append.mpr ⟨tb_r31, (List.forall_mem_append.mpr ⟨tb_r32, (List.forall_mem_append.mpr ⟨tb_r33, (List.forall_mem_append.mpr ⟨tb_r34, (List.forall_mem_append.mpr ⟨tb_r35, (List.forall_mem_append.mpr ⟨tb_r36, (List.forall_mem_append.mpr ⟨tb_r37, (List.forall_mem_append.mpr ⟨tb_r38, (List.forall_mem_append.mpr ⟨tb_r39, (List.forall_mem_append.mpr ⟨tb_r40, (List.forall_mem_append.mpr ⟨tb_r41, (List.forall_mem_append.mpr ⟨tb_r42, (List.forall_mem_append.mpr ⟨tb_r43, (List.forall_mem_append.mpr ⟨tb_r44, (List.forall_mem_append.mpr ⟨tb_r45, (List.forall_mem_append.mpr ⟨tb_r46, (List.forall_mem_append.mpr ⟨tb_r47, tb_r48⟩)⟩)⟩)⟩)⟩)⟩)⟩)⟩)⟩)⟩)⟩)⟩)⟩)⟩)⟩)⟩)⟩)⟩)⟩)⟩)⟩)⟩)⟩)⟩)⟩)⟩)⟩)⟩)⟩)⟩)⟩)⟩)⟩)⟩)⟩)⟩)⟩)⟩)⟩)⟩)⟩)⟩)⟩)⟩)⟩)⟩)⟩), tb_wsX80⟩), tb_wsX90⟩), tb_wsX40⟩), tb_wsX20⟩), tb_wsX70⟩), tb_wsX10⟩), tb_wsX60⟩), tb_wsJx4a65c0⟩), tb_wsJ00⟩), tb_wsX30⟩), tb_wsX00⟩), fun w h => by cases h⟩)
theorem tb_Om : ∀ w ∈ Om, w ∈ lw_tbl := by
  intro w hw
  unfold Om at hw
  rcases List.mem_append.mp hw with hw | hw
  · rcases List.mem_append.mp hw with hw | hw
    · rcases List.mem_append.mp hw with hw | hw
      · rcases List.mem_append.mp hw with hw | hw
        · exact tb_0 w hw
        · exact tb_x0 w hw
      · exact tb_x1 w hw
    · exact tb_x2 w hw
  · exact tb_x3 w hw
