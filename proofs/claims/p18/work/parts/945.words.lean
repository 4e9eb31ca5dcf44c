/-! the rows' words among the tables' -/
theorem at_mem {ws big : List Cond} (ps : List Nat) (h : ws = ps.filterMap (fun i => big[i]?)) : ∀ w ∈ ws, w ∈ big := by
  intro w hw
  rw [h] at hw
  obtain ⟨i, -, hi⟩ := List.mem_filterMap.mp hw
  exact List.mem_of_getElem? hi
theorem mem_app {a b c : List Cond} (ha : ∀ w ∈ a, w ∈ c) (hb : ∀ w ∈ b, w ∈ c) : ∀ w ∈ a ++ b, w ∈ c := fun w h => (List.mem_append.mp h).elim (ha w) (hb w)
set_option maxRecDepth 100000 in
theorem in_ev_bc_0 : ∀ w ∈ ev_bc_0, w ∈ lw_tbl := at_mem [142, 143, 144, 195, 257, 145, 146, 119, 149, 148, 259, 197, 198, 120, 201, 200, 260, 141, 258, 1574, 1571, 1573, 116, 118, 1570, 1578, 261, 280, 277, 278, 279, 284] (by decide +kernel)
set_option maxRecDepth 100000 in
theorem in_ev_bc_1 : ∀ w ∈ ev_bc_1, w ∈ lw_tbl := at_mem [281, 282, 283, 455, 456, 128, 459, 458, 457, 632, 629, 630, 631, 563, 1077, 1078, 133, 1081, 1080, 1079, 1094, 1091, 1092, 1093, 1151, 1152, 134, 1155, 1154, 1153, 1219, 1216] (by decide +kernel)
set_option maxRecDepth 100000 in
theorem in_ev_bc_2 : ∀ w ∈ ev_bc_2, w ∈ lw_tbl := at_mem [1217, 1218, 1298, 1295, 1296, 1297, 1370, 1367, 1368, 1369, 1378, 1379, 136, 1382, 1381, 1380, 579, 1411, 1408, 1409, 1410, 1516, 1513, 1514, 1515, 276, 1174, 684, 501, 1535, 1172, 1543] (by decide +kernel)
set_option maxRecDepth 100000 in
theorem in_ev_bc_3 : ∀ w ∈ ev_bc_3, w ∈ lw_tbl := at_mem [1532, 1534, 114, 506, 1531, 1540, 1542, 115, 1355, 1544, 1353, 1354, 1539, 676, 695, 670, 470, 509, 1552, 1549, 1550, 1551, 1176, 1548, 1326, 1462, 1325, 1560, 1557, 1558, 1559, 1556] (by decide +kernel)
set_option maxRecDepth 100000 in
theorem in_ev_bc_4 : ∀ w ∈ ev_bc_4, w ∈ lw_tbl := at_mem [1343, 150, 196, 151, 153, 155, 163, 164, 165, 166, 159, 285, 286, 121, 287, 160, 161, 162, 158, 167, 290, 288, 289, 122, 294, 291, 293, 0, 298, 295, 297, 1] (by decide +kernel)
set_option maxRecDepth 100000 in
theorem in_ev_bc_5 : ∀ w ∈ ev_bc_5, w ∈ lw_tbl := at_mem [310, 307, 309, 4, 313, 311, 312, 317, 314, 316, 5, 320, 318, 319, 385, 382, 384, 9, 396, 393, 395, 10, 302, 299, 301, 2, 324, 321, 323, 6, 377, 374] (by decide +kernel)
set_option maxRecDepth 100000 in
theorem in_ev_bc_6 : ∀ w ∈ ev_bc_6, w ∈ lw_tbl := at_mem [376, 7, 326, 327, 328, 123, 336, 337, 338, 381, 378, 380, 8, 386, 387, 388, 389, 390, 391, 392, 398, 399, 400, 460, 564, 565, 559, 461, 462, 129, 465, 464] (by decide +kernel)
set_option maxRecDepth 100000 in
theorem in_ev_bc_7 : ∀ w ∈ ev_bc_7, w ∈ lw_tbl := at_mem [463, 581, 585, 587, 513, 573, 157, 1161, 473, 1167, 561, 560, 152, 640, 637, 639, 12, 771, 636, 154, 654, 666, 633, 635, 11, 1064, 783, 885, 156, 649, 650, 130] (by decide +kernel)
set_option maxRecDepth 100000 in
theorem in_ev_bc_8 : ∀ w ∈ ev_bc_8, w ∈ lw_tbl := at_mem [651, 653, 15, 570, 657, 656, 655, 567, 677, 648, 812, 813, 131, 816, 815, 814, 811, 779, 645, 647, 14, 696, 577, 681, 572, 755, 752, 754, 16, 763, 760, 762] (by decide +kernel)
set_option maxRecDepth 100000 in
theorem in_ev_bc_9 : ∀ w ∈ ev_bc_9, w ∈ lw_tbl := at_mem [18, 1068, 1065, 1067, 60, 893, 890, 892, 38, 981, 978, 980, 39, 1061, 1063, 59, 759, 756, 758, 17, 702, 568, 894, 895, 132, 898, 897, 896, 703, 768, 770, 20] (by decide +kernel)
set_option maxRecDepth 100000 in
theorem in_ev_bc_10 : ∀ w ∈ ev_bc_10, w ∈ lw_tbl := at_mem [1072, 1069, 1071, 61, 1076, 1073, 1075, 62, 791, 788, 790, 25, 663, 776, 778, 22, 687, 499, 795, 792, 794, 26, 689, 569, 808, 810, 30, 692, 807, 804, 806, 29] (by decide +kernel)
set_option maxRecDepth 100000 in
theorem in_ev_bc_11 : ∀ w ∈ ev_bc_11, w ∈ lw_tbl := at_mem [862, 859, 861, 31, 869, 481, 799, 796, 798, 27, 803, 800, 802, 28, 877, 874, 876, 34, 486, 866, 863, 865, 32, 889, 886, 888, 37, 497, 711, 516, 780, 782] (by decide +kernel)
set_option maxRecDepth 100000 in
theorem in_ev_bc_12 : ∀ w ∈ ev_bc_12, w ∈ lw_tbl := at_mem [23, 881, 878, 880, 35, 483, 882, 884, 36, 490, 867, 868, 985, 982, 984, 40, 924, 917, 1082, 1083, 1085, 1084, 576, 1098, 1095, 1097, 63, 680, 1111, 1108, 1110, 66] (by decide +kernel)
set_option maxRecDepth 100000 in
theorem in_ev_bc_13 : ∀ w ∈ ev_bc_13, w ∈ lw_tbl := at_mem [701, 1118, 1115, 1117, 67, 583, 1135, 1132, 1134, 69, 515, 578, 918, 661, 665, 1107, 673, 694, 708, 1104, 1106, 65, 706, 1114, 1112, 1113, 1125, 691, 1122, 1119, 1121, 68] (by decide +kernel)
set_option maxRecDepth 100000 in
theorem in_ev_bc_14 : ∀ w ∈ ev_bc_14, w ∈ lw_tbl := at_mem [1128, 1126, 1127, 1131, 1129, 1130, 686, 487, 471, 478, 496, 491, 838, 825, 822, 1123, 1124, 827, 833, 1156, 1157, 1188, 1158, 1159, 1160, 1170, 584, 1179, 586, 1181, 1162, 1163] (by decide +kernel)
set_option maxRecDepth 100000 in
theorem in_ev_bc_15 : ∀ w ∈ ev_bc_15, w ∈ lw_tbl := at_mem [1183, 505, 582, 1185, 1164, 1165, 1166, 1186, 575, 700, 660, 679, 1168, 1171, 1173, 1187, 1175, 1223, 1220, 1222, 73, 1227, 1224, 1226, 74, 500, 514, 1231, 1228, 1230, 75, 1238] (by decide +kernel)
set_option maxRecDepth 100000 in
theorem in_ev_bc_16 : ∀ w ∈ ev_bc_16, w ∈ lw_tbl := at_mem [1235, 1237, 76, 503, 1246, 1243, 1245, 77, 1272, 1269, 1271, 78, 1283, 1280, 1282, 80, 693, 705, 468, 495, 831, 683, 474, 1234, 1232, 1233, 498, 707, 690, 709, 675, 1242] (by decide +kernel)
set_option maxRecDepth 100000 in
theorem in_ev_bc_17 : ∀ w ∈ ev_bc_17, w ∈ lw_tbl := at_mem [1239, 1240, 1241, 484, 504, 1362, 1276, 1273, 1275, 79, 1279, 1277, 1278, 688, 1359, 1360, 1361, 1247, 1250, 1248, 1249, 1253, 1251, 1252, 1177, 1256, 1254, 1255, 480, 482, 1259, 1257] (by decide +kernel)
set_option maxRecDepth 100000 in
theorem in_ev_bc_18 : ∀ w ∈ ev_bc_18, w ∈ lw_tbl := at_mem [1258, 489, 667, 1262, 1260, 1261, 1265, 1263, 1264, 493, 1268, 1266, 1267, 840, 510, 1286, 1284, 1285, 1291, 1289, 1290, 511, 1287, 1288, 698, 1302, 1299, 1301, 81, 1339, 1336, 1338] (by decide +kernel)
set_option maxRecDepth 100000 in
theorem in_ev_bc_19 : ∀ w ∈ ev_bc_19, w ∈ lw_tbl := at_mem [89, 1347, 1344, 1346, 90, 1306, 1303, 1305, 82, 671, 1323, 1320, 1322, 86, 1330, 1327, 1329, 87, 1178, 1310, 1307, 1309, 83, 476, 1340, 1342, 479, 1374, 1371, 1373, 92, 512] (by decide +kernel)
set_option maxRecDepth 100000 in
theorem in_ev_bc_20 : ∀ w ∈ ev_bc_20, w ∈ lw_tbl := at_mem [1383, 1384, 1388, 1385, 1392, 1386, 912, 674, 1387, 906, 1390, 919, 938, 839, 901, 202, 208, 209, 210, 203, 211, 212, 205, 213, 215, 216, 217, 207, 214, 658, 659, 664] (by decide +kernel)
set_option maxRecDepth 100000 in
theorem in_ev_bc_21 : ∀ w ∈ ev_bc_21, w ∈ lw_tbl := at_mem [669, 672, 466, 508, 467, 472, 475, 477, 817, 818, 821, 824, 826, 899, 900, 905, 908, 911, 1563, 1567, 1568, 1569, 1575, 1576, 1577, 1566, 1581, 1585, 1586, 1564, 1565, 117] (by decide +kernel)
set_option maxRecDepth 100000 in
theorem in_ev_bc_22 : ∀ w ∈ ev_bc_22, w ∈ lw_tbl := at_mem [1579, 1580, 1587, 1588, 1589, 1590, 1591, 1594, 1592, 1593, 1595, 1596, 1584, 1599, 1602, 1600, 1601, 137, 138, 140, 139, 1561, 1562, 1606, 1607, 1608, 1609, 1610, 1611, 1612, 1613, 1614] (by decide +kernel)
set_option maxRecDepth 100000 in
theorem in_ev_bc_23 : ∀ w ∈ ev_bc_23, w ∈ lw_tbl := at_mem [1615, 1616, 1617, 1618, 1619, 1620, 1621, 1622, 1623, 1624, 1625, 1626, 1627, 1628, 1629, 1630, 1582, 1583, 1631, 1632, 1633, 1634, 1635, 1636, 1637, 1638, 1639, 1640, 1641, 1642, 1643, 1644] (by decide +kernel)
set_option maxRecDepth 100000 in
theorem in_ev_bc_24 : ∀ w ∈ ev_bc_24, w ∈ lw_tbl := at_mem [1645, 1646, 1647, 1648, 1649, 1650, 1651, 1652, 1653, 1654, 1655, 1656, 1657, 1658, 1659, 1660, 1661, 1662, 1663, 1664, 1665, 273, 274, 275, 1597, 1598, 1528, 1529, 1530, 1536, 1537, 1538] (by decide +kernel)
set_option maxRecDepth 100000 in
theorem in_ev_bc_25 : ∀ w ∈ ev_bc_25, w ∈ lw_tbl := at_mem [1545, 1546, 1547, 1553, 1554, 1555, 1603, 1604, 1605] (by decide +kernel)
set_option maxRecDepth 100000 in
theorem in_lay_26 : ∀ w ∈ (u_ws RX11 TX11 5), w ∈ lw_tbl := at_mem [262, 264, 266, 268, 270] (by decide +kernel)
set_option maxRecDepth 100000 in
theorem in_lay_27 : ∀ w ∈ (u_ws RX7 TX7 13), w ∈ lw_tbl := at_mem [168, 170, 172, 174, 176, 178, 180, 182, 184, 186, 188, 190, 192] (by decide +kernel)
set_option maxRecDepth 100000 in
theorem in_lay_28 : ∀ w ∈ (u_ws RX2 TX2 19), w ∈ lw_tbl := at_mem [218, 220, 222, 224, 226, 228, 230, 232, 234, 236, 238, 240, 242, 244, 246, 248, 250, 252, 254] (by decide +kernel)
set_option maxRecDepth 100000 in
theorem in_lay_29 : ∀ w ∈ (u_ws RX6 TX6 20), w ∈ lw_tbl := at_mem [588, 590, 592, 594, 596, 598, 600, 602, 604, 606, 608, 610, 612, 614, 616, 618, 620, 622, 624, 626] (by decide +kernel)
set_option maxRecDepth 100000 in
theorem in_lay_30 : ∀ w ∈ (u_ws RX3 TX3 2), w ∈ lw_tbl := at_mem [1086, 1088] (by decide +kernel)
set_option maxRecDepth 100000 in
theorem in_lay_31 : ∀ w ∈ (u_ws RX10 TX10 13), w ∈ lw_tbl := at_mem [1189, 1191, 1193, 1195, 1197, 1199, 1201, 1203, 1205, 1207, 1209, 1211, 1213] (by decide +kernel)
set_option maxRecDepth 100000 in
theorem in_lay_32 : ∀ w ∈ (u_ws RX0 TX0 7), w ∈ lw_tbl := at_mem [1393, 1395, 1397, 1399, 1401, 1403, 1405] (by decide +kernel)
set_option maxRecDepth 100000 in
theorem in_lay_33 : ∀ w ∈ (u_ws RX1 TX1 19), w ∈ lw_tbl := at_mem [713, 715, 717, 719, 721, 723, 725, 727, 729, 731, 733, 735, 737, 739, 741, 743, 745, 747, 749] (by decide +kernel)
set_option maxRecDepth 100000 in
theorem in_lay_34 : ∀ w ∈ (u_ws RX4 TX4 20), w ∈ lw_tbl := at_mem [518, 520, 522, 524, 526, 528, 530, 532, 534, 536, 538, 540, 542, 544, 546, 548, 550, 552, 554, 556] (by decide +kernel)
set_option maxRecDepth 100000 in
theorem in_lay_35 : ∀ w ∈ (u_ws RX5 TX5 8), w ∈ lw_tbl := at_mem [842, 844, 846, 848, 850, 852, 854, 856] (by decide +kernel)
set_option maxRecDepth 100000 in
theorem in_lay_36 : ∀ w ∈ (u_ws RX8 TX8 15), w ∈ lw_tbl := at_mem [947, 949, 951, 953, 955, 957, 959, 961, 963, 965, 967, 969, 971, 973, 975] (by decide +kernel)
set_option maxRecDepth 100000 in
theorem in_ws_cj_length : ∀ w ∈ ws_cj_length, w ∈ lw_tbl := at_mem [329, 1666, 334, 1667, 333, 330, 331, 332, 123] (by decide +kernel)
set_option maxRecDepth 100000 in
theorem in_ws_cj_charAt : ∀ w ∈ ws_cj_charAt, w ∈ lw_tbl := at_mem [339, 334, 1667, 343, 340, 341, 342, 123, 1666, 350, 354, 352, 353, 125, 349, 347, 348, 346, 344, 345, 124] (by decide +kernel)
set_option maxRecDepth 100000 in
theorem in_ws_cj_ix1 : ∀ w ∈ ws_cj_ix1, w ∈ lw_tbl := at_mem [401, 334, 1667, 343, 340, 341, 342, 123, 1666, 333, 330, 331, 332, 329, 406, 327, 328, 412, 410, 411, 124, 413, 414, 121, 415, 416, 286, 287, 419, 417, 418, 409, 407, 408, 405, 402, 403, 404] (by decide +kernel)
theorem in_big : ∀ w ∈ ev_big, w ∈ lw_tbl := mem_app in_ev_bc_0 (mem_app in_ev_bc_1 (mem_app in_ev_bc_2 (mem_app in_ev_bc_3 (mem_app in_ev_bc_4 (mem_app in_ev_bc_5 (mem_app in_ev_bc_6 (mem_app in_ev_bc_7 (mem_app in_ev_bc_8 (mem_app in_ev_bc_9 (mem_app in_ev_bc_10 (mem_app in_ev_bc_11 (mem_app in_ev_bc_12 (mem_app in_ev_bc_13 (mem_app in_ev_bc_14 (mem_app in_ev_bc_15 (mem_app in_ev_bc_16 (mem_app in_ev_bc_17 (mem_app in_ev_bc_18 (mem_app in_ev_bc_19 (mem_app in_ev_bc_20 (mem_app in_ev_bc_21 (mem_app in_ev_bc_22 (mem_app in_ev_bc_23 (mem_app in_ev_bc_24 (mem_app in_ev_bc_25 (mem_app in_lay_26 (mem_app in_lay_27 (mem_app in_lay_28 (mem_app in_lay_29 (mem_app in_lay_30 (mem_app in_lay_31 (mem_app in_lay_32 (mem_app in_lay_33 (mem_app in_lay_34 (mem_app in_lay_35 (mem_app in_lay_36 (mem_app in_ws_cj_length (mem_app in_ws_cj_charAt (in_ws_cj_ix1)))))))))))))))))))))))))))))))))))))))
