theorem in_by {big ws : List Cond} (ps : List Nat) (hp : ws = ps.filterMap (fun i => big[i]?)) : ∀ w ∈ ws, w ∈ big := fun w hw => by
  rw [hp] at hw
  obtain ⟨i, -, hi⟩ := List.mem_filterMap.mp hw
  exact List.mem_of_getElem? hi
set_option maxRecDepth 100000 in
theorem in_r_1 : ∀ w ∈ wsL_law_r1, w ∈ lw_tbl := in_by [132, 133, 114, 1175, 1176, 123, 134, 135, 136, 137, 138, 139, 140, 141, 115, 391, 169, 170, 116, 392, 393, 238, 239, 119] (by decide +kernel)
set_option maxRecDepth 100000 in
theorem in_r_2 : ∀ w ∈ wsL_law_r2, w ∈ lw_tbl := in_by [394, 264, 265, 120, 395, 312, 313, 121, 396, 360, 397, 389, 398, 168, 399, 400, 401, 390, 402, 403, 404, 362, 122, 143] (by decide +kernel)
set_option maxRecDepth 100000 in
theorem in_r_3 : ∀ w ∈ wsL_law_r3, w ∈ lw_tbl := in_by [144, 145, 146, 148, 150, 157, 171, 172, 173, 174, 198, 175, 176, 117, 201, 206, 208, 210, 213, 216, 237, 219, 177, 178] (by decide +kernel)
set_option maxRecDepth 100000 in
theorem in_r_4 : ∀ w ∈ wsL_law_r4, w ∈ lw_tbl := in_by [179, 180, 184, 181, 183, 195, 196, 118, 197, 240, 241, 242, 243, 244, 246, 247, 248, 249, 250, 245, 266, 267, 268, 269] (by decide +kernel)
set_option maxRecDepth 100000 in
theorem in_r_5 : ∀ w ∈ wsL_law_r5, w ∈ lw_tbl := in_by [273, 274, 275, 270, 276, 277, 278, 279, 281, 283, 285, 271, 272, 314, 315, 316, 317, 318, 323, 324, 325, 326, 327, 328] (by decide +kernel)
set_option maxRecDepth 100000 in
theorem in_r_6 : ∀ w ∈ wsL_law_r6, w ∈ lw_tbl := in_by [329, 330, 331, 332, 320, 321, 322, 319, 363, 364, 365, 366, 367, 377, 380, 1177, 1178, 1179, 1180, 1181, 1182, 1187, 1188, 1190] (by decide +kernel)
set_option maxRecDepth 100000 in
theorem in_r_7 : ∀ w ∈ wsL_law_r7, w ∈ lw_tbl := in_by [1192, 1278, 1193, 1194, 1195, 1196, 1198, 1199, 1203, 1204, 1206, 1207, 1208, 1209, 1210, 1211, 1212, 434, 435, 436, 437, 199, 438, 440] (by decide +kernel)
set_option maxRecDepth 100000 in
theorem in_r_8 : ∀ w ∈ wsL_law_r8, w ∈ lw_tbl := in_by [0, 441, 149, 442, 443, 444, 445, 446, 448, 1, 449, 450, 451, 452, 453, 482, 480, 479, 125, 186, 487, 463, 124, 464] (by decide +kernel)
set_option maxRecDepth 100000 in
theorem in_r_9 : ∀ w ∈ wsL_law_r9, w ∈ lw_tbl := in_by [454, 455, 456, 457, 481, 458, 460, 2, 461, 462, 465, 466, 467, 468, 469, 470, 471, 472, 474, 475, 476, 477, 478, 483] (by decide +kernel)
set_option maxRecDepth 100000 in
theorem in_r_10 : ∀ w ∈ wsL_law_r10, w ∈ lw_tbl := in_by [485, 3, 486, 488, 489, 490, 491, 492, 493, 495, 496, 497, 498, 499, 500, 502, 4, 503, 504, 505, 506, 507, 508, 509] (by decide +kernel)
set_option maxRecDepth 100000 in
theorem in_r_11 : ∀ w ∈ wsL_law_r11, w ∈ lw_tbl := in_by [510, 511, 512, 514, 5, 515, 1279, 1280, 1281, 1282, 1191, 1283, 1284, 1285, 1286, 1288, 43, 1289, 1184, 1290, 1292, 44, 1293, 1294] (by decide +kernel)
set_option maxRecDepth 100000 in
theorem in_r_12 : ∀ w ∈ wsL_law_r12, w ∈ lw_tbl := in_by [1296, 45, 1297, 1183, 1298, 1300, 46, 1301, 516, 517, 518, 519, 204, 188, 520, 521, 522, 523, 524, 525, 526, 527, 528, 529] (by decide +kernel)
set_option maxRecDepth 100000 in
theorem in_r_13 : ∀ w ∈ wsL_law_r13, w ∈ lw_tbl := in_by [530, 531, 1302, 1303, 1304, 1305, 1306, 1308, 47, 1309, 1310, 1312, 48, 1313, 532, 533, 534, 535, 536, 538, 6, 539, 540, 541] (by decide +kernel)
set_option maxRecDepth 100000 in
theorem in_r_14 : ∀ w ∈ wsL_law_r14, w ∈ lw_tbl := in_by [542, 543, 544, 1314, 1315, 1316, 1317, 1318, 1320, 49, 1321, 1322, 1324, 50, 1325, 545, 546, 547, 548, 1326, 1327, 1328, 1329, 549] (by decide +kernel)
set_option maxRecDepth 100000 in
theorem in_r_15 : ∀ w ∈ wsL_law_r15, w ∈ lw_tbl := in_by [550, 551, 552, 1330, 1331, 1332, 1333, 553, 554, 555, 556, 1334, 1335, 1336, 1337, 557, 558, 559, 560, 601, 561, 562, 563, 564] (by decide +kernel)
set_option maxRecDepth 100000 in
theorem in_r_16 : ∀ w ∈ wsL_law_r16, w ∈ lw_tbl := in_by [200, 578, 565, 566, 567, 568, 203, 187, 569, 570, 571, 572, 573, 574, 576, 7, 577, 579, 581, 8, 582, 583, 596, 584] (by decide +kernel)
set_option maxRecDepth 100000 in
theorem in_r_17 : ∀ w ∈ wsL_law_r17, w ∈ lw_tbl := in_by [585, 586, 588, 589, 590, 591, 126, 592, 593, 594, 595, 597, 598, 599, 600, 1338, 1339, 1340, 1341, 1350, 1342, 1344, 51, 1345] (by decide +kernel)
set_option maxRecDepth 100000 in
theorem in_r_18 : ∀ w ∈ wsL_law_r18, w ∈ lw_tbl := in_by [1346, 1348, 52, 1349, 1351, 1353, 53, 1354, 1355, 1357, 54, 1358, 602, 603, 604, 605, 606, 607, 608, 609, 610, 611, 612, 613] (by decide +kernel)
set_option maxRecDepth 100000 in
theorem in_r_19 : ∀ w ∈ wsL_law_r19, w ∈ lw_tbl := in_by [614, 615, 616, 617, 618, 1359, 1360, 1361, 1362, 1363, 1365, 55, 1366, 1367, 1369, 56, 1370, 619, 620, 621, 622, 207, 623, 624] (by decide +kernel)
set_option maxRecDepth 100000 in
theorem in_r_20 : ∀ w ∈ wsL_law_r20, w ∈ lw_tbl := in_by [625, 626, 627, 628, 1371, 1372, 1373, 1374, 1375, 1377, 57, 1378, 629, 630, 631, 632, 633, 634, 635, 636, 637, 638, 639, 640] (by decide +kernel)
set_option maxRecDepth 100000 in
theorem in_r_21 : ∀ w ∈ wsL_law_r21, w ∈ lw_tbl := in_by [641, 643, 9, 644, 645, 1379, 1380, 1381, 1382, 1383, 1385, 58, 1386, 646, 647, 648, 649, 650, 651, 652, 653, 1387, 1388, 1389] (by decide +kernel)
set_option maxRecDepth 100000 in
theorem in_r_22 : ∀ w ∈ wsL_law_r22, w ∈ lw_tbl := in_by [1390, 654, 655, 656, 657, 658, 659, 660, 661, 662, 663, 664, 665, 666, 667, 669, 10, 670, 671, 672, 673, 674, 675, 676] (by decide +kernel)
set_option maxRecDepth 100000 in
theorem in_r_23 : ∀ w ∈ wsL_law_r23, w ∈ lw_tbl := in_by [1391, 1392, 1393, 1394, 1395, 1397, 59, 1398, 1399, 1401, 60, 1402, 677, 678, 679, 680, 681, 682, 1403, 1404, 1405, 1406, 683, 684] (by decide +kernel)
set_option maxRecDepth 100000 in
theorem in_r_24 : ∀ w ∈ wsL_law_r24, w ∈ lw_tbl := in_by [685, 686, 687, 688, 689, 690, 699, 697, 700, 691, 692, 693, 694, 695, 698, 696, 1407, 1408, 1409, 1410, 1411, 1413, 61, 1414] (by decide +kernel)
set_option maxRecDepth 100000 in
theorem in_r_25 : ∀ w ∈ wsL_law_r25, w ∈ lw_tbl := in_by [1420, 1415, 1417, 62, 1418, 1419, 1421, 1423, 63, 1424, 1425, 1426, 1427, 1428, 701, 702, 703, 704, 705, 706, 707, 708, 709, 711] (by decide +kernel)
set_option maxRecDepth 100000 in
theorem in_r_26 : ∀ w ∈ wsL_law_r26, w ∈ lw_tbl := in_by [11, 712, 713, 714, 715, 716, 1429, 1430, 1431, 1432, 1433, 1435, 64, 1436, 1437, 1439, 65, 1440, 717, 718, 719, 720, 1441, 1442] (by decide +kernel)
set_option maxRecDepth 100000 in
theorem in_r_27 : ∀ w ∈ wsL_law_r27, w ∈ lw_tbl := in_by [1443, 1444, 721, 722, 723, 724, 725, 727, 12, 728, 730, 729, 731, 732, 734, 13, 735, 744, 745, 746, 736, 738, 14, 739] (by decide +kernel)
set_option maxRecDepth 100000 in
theorem in_r_28 : ∀ w ∈ wsL_law_r28, w ∈ lw_tbl := in_by [740, 741, 742, 743, 1445, 1446, 1447, 1448, 1449, 1451, 66, 1452, 1453, 1455, 67, 1456, 747, 748, 749, 750, 751, 752, 753, 754] (by decide +kernel)
set_option maxRecDepth 100000 in
theorem in_r_29 : ∀ w ∈ wsL_law_r29, w ∈ lw_tbl := in_by [755, 756, 757, 758, 1457, 1458, 1459, 1460, 1461, 1463, 68, 1464, 759, 760, 761, 762, 209, 763, 765, 15, 766, 767, 768, 127] (by decide +kernel)
set_option maxRecDepth 100000 in
theorem in_r_30 : ∀ w ∈ wsL_law_r30, w ∈ lw_tbl := in_by [777, 778, 128, 787, 788, 129, 769, 770, 771, 772, 779, 780, 781, 782, 789, 790, 791, 792, 797, 799, 16, 800, 1465, 1466] (by decide +kernel)
set_option maxRecDepth 100000 in
theorem in_r_31 : ∀ w ∈ wsL_law_r31, w ∈ lw_tbl := in_by [1467, 1468, 1469, 1471, 69, 1472, 1473, 1475, 70, 1476, 801, 802, 803, 804, 813, 822, 130, 805, 807, 17, 808, 813, 809, 810] (by decide +kernel)
set_option maxRecDepth 100000 in
theorem in_r_32 : ∀ w ∈ wsL_law_r32, w ∈ lw_tbl := in_by [811, 812, 814, 815, 816, 817, 818, 819, 820, 821, 823, 824, 825, 376, 826, 379, 828, 829, 827, 1477, 1478, 1479, 1480, 1481] (by decide +kernel)
set_option maxRecDepth 100000 in
theorem in_r_33 : ∀ w ∈ wsL_law_r33, w ∈ lw_tbl := in_by [1483, 71, 1484, 1485, 1487, 72, 1488, 1489, 1491, 73, 1492, 1493, 1495, 74, 1496, 838, 839, 840, 841, 1497, 1498, 1499, 1500, 842] (by decide +kernel)
set_option maxRecDepth 100000 in
theorem in_r_34 : ∀ w ∈ wsL_law_r34, w ∈ lw_tbl := in_by [843, 844, 845, 378, 381, 846, 849, 850, 847, 864, 151, 847, 851, 852, 853, 368, 369, 152, 861, 854, 854, 848, 862, 855] (by decide +kernel)
set_option maxRecDepth 100000 in
theorem in_r_35 : ∀ w ∈ wsL_law_r35, w ∈ lw_tbl := in_by [856, 370, 371, 153, 857, 786, 863, 858, 859, 372, 373, 154, 860, 796, 846, 865, 868, 866, 869, 870, 871, 374, 375, 155] (by decide +kernel)
set_option maxRecDepth 100000 in
theorem in_r_36 : ∀ w ∈ wsL_law_r36, w ∈ lw_tbl := in_by [872, 873, 875, 876, 877, 886, 878, 879, 880, 881, 882, 883, 865, 866, 867, 887, 1742, 1743, 1744, 887, 1745, 1746, 1747, 884] (by decide +kernel)
set_option maxRecDepth 100000 in
theorem in_r_37 : ∀ w ∈ wsL_law_r37, w ∈ lw_tbl := in_by [885, 1501, 1502, 1503, 1504, 1505, 1507, 75, 1508, 1509, 1511, 76, 1512, 1513, 1515, 77, 1516, 1517, 1518, 1519, 1520, 1522, 78, 1523] (by decide +kernel)
set_option maxRecDepth 100000 in
theorem in_r_38 : ∀ w ∈ wsL_law_r38, w ∈ lw_tbl := in_by [1524, 1526, 79, 1527, 1528, 1529, 1530, 1531, 1533, 80, 1534, 1185, 1535, 1537, 81, 1538, 1539, 1541, 82, 1542, 888, 889, 890, 891] (by decide +kernel)
set_option maxRecDepth 100000 in
theorem in_r_39 : ∀ w ∈ wsL_law_r39, w ∈ lw_tbl := in_by [777, 1543, 1544, 1545, 1546, 892, 893, 894, 895, 896, 897, 898, 899, 900, 901, 902, 903, 205, 189, 904, 905, 906, 907, 908] (by decide +kernel)
set_option maxRecDepth 100000 in
theorem in_r_40 : ∀ w ∈ wsL_law_r40, w ∈ lw_tbl := in_by [909, 910, 911, 912, 1547, 1548, 1549, 1550, 1197, 1551, 1553, 83, 1554, 1555, 1557, 84, 1558, 1559, 1561, 85, 1562, 913, 914, 915] (by decide +kernel)
set_option maxRecDepth 100000 in
theorem in_r_41 : ∀ w ∈ wsL_law_r41, w ∈ lw_tbl := in_by [916, 917, 918, 919, 920, 921, 922, 923, 924, 925, 938, 926, 927, 928, 131, 929, 930, 931, 932, 933, 935, 18, 936, 939] (by decide +kernel)
set_option maxRecDepth 100000 in
theorem in_r_42 : ∀ w ∈ wsL_law_r42, w ∈ lw_tbl := in_by [940, 941, 942, 943, 1563, 1564, 1565, 1566, 1567, 1569, 86, 1570, 1571, 1573, 87, 1574, 1575, 1577, 88, 1578, 1579, 1580, 1581, 1582] (by decide +kernel)
set_option maxRecDepth 100000 in
theorem in_r_43 : ∀ w ∈ wsL_law_r43, w ∈ lw_tbl := in_by [1584, 89, 1585, 944, 945, 946, 947, 212, 948, 949, 950, 951, 952, 954, 19, 955, 185, 202, 957, 956, 958, 959, 960, 962] (by decide +kernel)
set_option maxRecDepth 100000 in
theorem in_r_44 : ∀ w ∈ wsL_law_r44, w ∈ lw_tbl := in_by [20, 963, 964, 965, 966, 968, 21, 969, 970, 971, 972, 974, 22, 975, 976, 977, 979, 23, 980, 981, 982, 983, 984, 985] (by decide +kernel)
set_option maxRecDepth 100000 in
theorem in_r_45 : ∀ w ∈ wsL_law_r45, w ∈ lw_tbl := in_by [986, 992, 987, 989, 24, 990, 993, 994, 996, 25, 997, 998, 1000, 26, 1001, 1002, 1004, 27, 1005, 1006, 1007, 1008, 1009, 1010] (by decide +kernel)
set_option maxRecDepth 100000 in
theorem in_r_46 : ∀ w ∈ wsL_law_r46, w ∈ lw_tbl := in_by [1011, 1012, 1013, 1015, 28, 1016, 1017, 1019, 29, 1020, 1021, 1023, 30, 1024, 1025, 1027, 31, 1028, 1029, 1031, 32, 1032, 1033, 1035] (by decide +kernel)
set_option maxRecDepth 100000 in
theorem in_r_47 : ∀ w ∈ wsL_law_r47, w ∈ lw_tbl := in_by [33, 1036, 1037, 1039, 34, 1040, 1041, 1043, 35, 1044, 1045, 1046, 1048, 36, 1049, 284, 286, 280, 282, 1050, 1052, 37, 1053, 1054] (by decide +kernel)
set_option maxRecDepth 100000 in
theorem in_r_48 : ∀ w ∈ wsL_law_r48, w ∈ lw_tbl := in_by [1056, 38, 1057, 1058, 1059, 1060, 1061, 211, 214, 1063, 217, 1062, 1064, 1586, 1587, 1588, 1589, 1200, 1201, 1202, 1205, 1590, 1592, 90] (by decide +kernel)
set_option maxRecDepth 100000 in
theorem in_r_49 : ∀ w ∈ wsL_law_r49, w ∈ lw_tbl := in_by [1593, 1594, 1596, 91, 1597, 1598, 1600, 92, 1601, 1602, 1604, 93, 1605, 1606, 1608, 94, 1609, 1610, 1612, 95, 1613, 1614, 1616, 96] (by decide +kernel)
set_option maxRecDepth 100000 in
theorem in_r_50 : ∀ w ∈ wsL_law_r50, w ∈ lw_tbl := in_by [1617, 1618, 1620, 97, 1621, 1622, 1624, 98, 1625, 1626, 1628, 99, 1629, 1630, 1632, 100, 1633, 1634, 1636, 101, 1637, 1638, 1640, 102] (by decide +kernel)
set_option maxRecDepth 100000 in
theorem in_r_51 : ∀ w ∈ wsL_law_r51, w ∈ lw_tbl := in_by [1641, 1642, 1644, 103, 1645, 1646, 1648, 104, 1649, 1065, 1066, 1067, 1068, 1650, 1651, 1652, 1653, 1654, 1656, 105, 1657, 1658, 1660, 106] (by decide +kernel)
set_option maxRecDepth 100000 in
theorem in_r_52 : ∀ w ∈ wsL_law_r52, w ∈ lw_tbl := in_by [1661, 1069, 1070, 1071, 1072, 215, 1662, 1663, 1664, 1665, 1073, 1074, 1075, 1076, 218, 1666, 1667, 1668, 1669, 1077, 1078, 1079, 1080, 1081] (by decide +kernel)
set_option maxRecDepth 100000 in
theorem in_r_53 : ∀ w ∈ wsL_law_r53, w ∈ lw_tbl := in_by [1083, 39, 1084, 1670, 1671, 1672, 1673, 1674, 1676, 107, 1677, 1085, 1086, 1087, 1088, 1678, 1679, 1680, 1681, 1682, 1684, 108, 1685, 1089] (by decide +kernel)
set_option maxRecDepth 100000 in
theorem in_r_54 : ∀ w ∈ wsL_law_r54, w ∈ lw_tbl := in_by [1090, 1091, 1092, 158, 1093, 1094, 1095, 1096, 1097, 1098, 1099, 1100, 1101, 1102, 1103, 1104, 1105, 1107, 40, 1108, 1110, 1109, 1111, 1112] (by decide +kernel)
set_option maxRecDepth 100000 in
theorem in_r_55 : ∀ w ∈ wsL_law_r55, w ∈ lw_tbl := in_by [1113, 1114, 1115, 1116, 1117, 1118, 1119, 1120, 1121, 1686, 1687, 1688, 1689, 1186, 1690, 1692, 109, 1693, 1694, 1696, 110, 1697, 1122, 1123] (by decide +kernel)
set_option maxRecDepth 100000 in
theorem in_r_56 : ∀ w ∈ wsL_law_r56, w ∈ lw_tbl := in_by [1124, 1125, 1698, 1699, 1700, 1701, 1126, 1127, 1128, 1129, 1130, 1132, 41, 1133, 1134, 1135, 1136, 1137, 1138, 1140, 42, 1141, 1142, 1702] (by decide +kernel)
set_option maxRecDepth 100000 in
theorem in_r_57 : ∀ w ∈ wsL_law_r57, w ∈ lw_tbl := in_by [1703, 1704, 1705, 1189, 1706, 1708, 111, 1709, 1710, 1712, 112, 1713, 1143, 1144, 1145, 1146, 1714, 1715, 1716, 1717, 1147, 1148, 1149, 1150] (by decide +kernel)
set_option maxRecDepth 100000 in
theorem in_r_58 : ∀ w ∈ wsL_law_r58, w ∈ lw_tbl := in_by [1151, 1152, 1153, 1154, 1718, 1719, 1720, 1721, 1155, 1156, 1157, 1158, 1722, 1723, 1724, 1725, 1159, 1160, 1161, 1162, 147, 1726, 1727, 1728] (by decide +kernel)
set_option maxRecDepth 100000 in
theorem in_r_59 : ∀ w ∈ wsL_law_r59, w ∈ lw_tbl := in_by [1729, 1163, 1164, 1165, 1166, 1730, 1731, 1732, 1733, 1167, 1168, 1169, 1170, 156, 1734, 1735, 1736, 1737, 1171, 1172, 1173, 1174, 1738, 1739] (by decide +kernel)
set_option maxRecDepth 100000 in
theorem in_r_60 : ∀ w ∈ wsL_law_r60, w ∈ lw_tbl := in_by [1740, 1741] (by decide +kernel)
set_option maxRecDepth 100000 in
theorem in_x_11 : ∀ w ∈ wsX110, w ∈ lw_tbl := in_by [405, 407, 409, 411, 413, 415, 417, 419, 421, 423, 425, 427, 429, 431] (by decide +kernel)
set_option maxRecDepth 100000 in
theorem in_x_12 : ∀ w ∈ wsX120, w ∈ lw_tbl := in_by [1213, 1215, 1217, 1219, 1221, 1223, 1225, 1227, 1229, 1231, 1233, 1235, 1237, 1239, 1241, 1243, 1245, 1247, 1249, 1251, 1253, 1255, 1257, 1259, 1261, 1263, 1265, 1267, 1269, 1271, 1273, 1275] (by decide +kernel)
set_option maxRecDepth 100000 in
theorem in_x_2 : ∀ w ∈ wsX20, w ∈ lw_tbl := in_by [159, 161, 163, 165] (by decide +kernel)
set_option maxRecDepth 100000 in
theorem in_x_1 : ∀ w ∈ wsX10, w ∈ lw_tbl := in_by [220, 222, 224, 226, 228, 230, 232, 234] (by decide +kernel)
set_option maxRecDepth 100000 in
theorem in_x_10 : ∀ w ∈ wsX100, w ∈ lw_tbl := in_by [251, 253, 255, 257, 259, 261] (by decide +kernel)
set_option maxRecDepth 100000 in
theorem in_x_4 : ∀ w ∈ wsX40, w ∈ lw_tbl := in_by [287, 289, 291, 293, 295, 297, 299, 301, 303, 305, 307, 309] (by decide +kernel)
set_option maxRecDepth 100000 in
theorem in_x_5 : ∀ w ∈ wsX50, w ∈ lw_tbl := in_by [333, 335, 337, 339, 341, 343, 345, 347, 349, 351, 353, 355, 357] (by decide +kernel)
set_option maxRecDepth 100000 in
theorem in_x_6 : ∀ w ∈ wsX60, w ∈ lw_tbl := in_by [382, 384, 386] (by decide +kernel)
set_option maxRecDepth 100000 in
theorem in_x_8 : ∀ w ∈ wsX80, w ∈ lw_tbl := in_by [190, 192] (by decide +kernel)
set_option maxRecDepth 100000 in
theorem in_x_0 : ∀ w ∈ wsX00, w ∈ lw_tbl := in_by [773, 774, 775] (by decide +kernel)
set_option maxRecDepth 100000 in
theorem in_x_3 : ∀ w ∈ wsX30, w ∈ lw_tbl := in_by [834, 835, 836, 830, 832] (by decide +kernel)
set_option maxRecDepth 100000 in
theorem in_x_7 : ∀ w ∈ wsX70, w ∈ lw_tbl := in_by [783, 784, 785] (by decide +kernel)
set_option maxRecDepth 100000 in
theorem in_x_9 : ∀ w ∈ wsX90, w ∈ lw_tbl := in_by [793, 794, 795] (by decide +kernel)
theorem tt_in : ∀ w ∈ TT, w ∈ lw_tbl := List.forall_mem_append.mpr ⟨(List.forall_mem_append.mpr ⟨(List.forall_mem_append.mpr ⟨(List.forall_mem_append.mpr ⟨(List.forall_mem_append.mpr ⟨(List.forall_mem_append.mpr ⟨(List.forall_mem_append.mpr ⟨(List.forall_mem_append.mpr ⟨(List.forall_mem_append.mpr ⟨(List.forall_mem_append.mpr ⟨(List.forall_mem_append.mpr ⟨(List.forall_mem_append.mpr ⟨(List.forall_mem_append.mpr ⟨(List.forall_mem_append.mpr ⟨(List.forall_mem_append.mpr ⟨in_r_1, (List.forall_mem_append.mpr ⟨in_r_2, (List.forall_mem_append.mpr ⟨in_r_3, (List.forall_mem_append.mpr ⟨in_r_4, (List.forall_mem_append.mpr ⟨in_r_5, (List.forall_mem_append.mpr ⟨in_r_6, (List.forall_mem_append.mpr ⟨in_r_7, (List.forall_mem_append.mpr ⟨in_r_8, (List.forall_mem_append.mpr ⟨in_r_9, (List.forall_mem_append.mpr ⟨in_r_10, (List.forall_mem_append.mpr ⟨in_r_11, (List.forall_mem_append.mpr ⟨in_r_12, (List.forall_mem_append.mpr ⟨in_r_13, (List.forall_mem_append.mpr ⟨in_r_14, (List.forall_mem_append.mpr ⟨in_r_15, (List.forall_mem_append.mpr ⟨in_r_16, (List.forall_mem_append.mpr ⟨in_r_17, (List.forall_mem_append.mpr ⟨in_r_18, (List.forall_mem_append.mpr ⟨in_r_19, (List.forall_mem_append.mpr ⟨in_r_20, (List.forall_mem_append.mpr ⟨in_r_21, (List.forall_mem_append.mpr ⟨in_r_22, (List.forall_mem_append.mpr ⟨in_r_23, (List.forall_mem_append.mpr ⟨in_r_24, (List.forall_mem_append.mpr ⟨in_r_25, (List.forall_mem_append.mpr ⟨in_r_26, (List.forall_mem_append.mpr ⟨in_r_27, (List.forall_mem_append.mpr ⟨in_r_28, (List.forall_mem_append.mpr ⟨in_r_29, (List.forall_mem_append.mpr ⟨in_r_30, (List.forall_mem_append.mpr ⟨in_r_31, (List.forall_mem_append.mpr ⟨in_r_32, (List.forall_mem_append.mpr ⟨in_r_33, (List.forall_mem_append.mpr ⟨in_r_34, (List.forall_mem_append.mpr ⟨in_r_35, (List.forall_mem_append.mpr ⟨in_r_36, (List.forall_mem_append.mpr ⟨in_r_37, (List.forall_mem_append.mpr ⟨in_r_38, (List.forall_mem_append.mpr ⟨in_r_39, (List.forall_mem_append.mpr ⟨in_r_40, (List.forall_mem_append.mpr ⟨in_r_41, (List.forall_mem_append.mpr ⟨in_r_42, (List.forall_mem_append.mpr ⟨in_r_43, (List.forall_mem_append.mpr ⟨in_r_44, (List.forall_mem_append.mpr ⟨in_r_45, (List.forall_mem_append.mpr ⟨in_r_46, (List.forall_mem_append.mpr ⟨in_r_47, (List.forall_mem_append.mpr ⟨in_r_48, (List.forall_mem_append.mpr ⟨in_r_49, (List.forall_mem_append.mpr ⟨in_r_50, (List.forall_mem_append.mpr ⟨in_r_51, (List.forall_mem_append.mpr ⟨in_r_52, (List.forall_mem_append.mpr ⟨in_r_53, (List.forall_mem_append.mpr ⟨in_r_54, (List.forall_mem_append.mpr ⟨in_r_55, (List.forall_mem_append.mpr ⟨in_r_56, (List.forall_mem_append.mpr ⟨in_r_57, (List.forall_mem_append.mpr ⟨in_r_58, (List.forall_mem_append.mpr ⟨in_r_59, in_r_60⟩)⟩)⟩)⟩)⟩)⟩)⟩)⟩)⟩)⟩)⟩)⟩)⟩)⟩)⟩)⟩)⟩)⟩)⟩)⟩)⟩)⟩)⟩)⟩)⟩)⟩)⟩)⟩)⟩)⟩)⟩)⟩)⟩)⟩)⟩)⟩)⟩)⟩)⟩)⟩)⟩)⟩)⟩)⟩)⟩)⟩)⟩)⟩)⟩)⟩)⟩)⟩)⟩)⟩)⟩)⟩)⟩)⟩)⟩), in_x_11⟩), in_x_12⟩), in_x_2⟩), in_x_1⟩), in_x_10⟩), in_x_4⟩), in_x_5⟩), in_x_6⟩), in_x_8⟩), in_x_0⟩), in_x_3⟩), in_x_7⟩), in_x_9⟩), fun _ h => absurd h List.not_mem_nil⟩
