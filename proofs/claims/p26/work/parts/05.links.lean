def pm_FL : List (Nat × Nat × Nat × Nat) := [(0, 9, 0, 1), (0, 15, 0, 2), (0, 18, 0, 3), (0, 21, 0, 4), (0, 24, 0, 5), (0, 27, 0, 6), (0, 30, 0, 7), (0, 33, 0, 0), (1, 9, 1, 3), (1, 13, 1, 4), (1, 16, 1, 0), (1, 20, 1, 1), (1, 27, 1, 2), (2, 9, 2, 1), (2, 15, 2, 3), (2, 22, 2, 4), (2, 26, 2, 5), (2, 29, 2, 6), (2, 32, 2, 2), (2, 42, 2, 0), (2, 45, 2, 8), (2, 48, 2, 9), (2, 61, 1, 0), (2, 64, 2, 7), (3, 9, 3, 1), (3, 15, 3, 2), (3, 18, 3, 3), (3, 21, 3, 4), (3, 24, 3, 5), (3, 27, 3, 6), (3, 30, 3, 7), (3, 33, 3, 8), (3, 36, 3, 9), (3, 39, 3, 0), (4, 9, 4, 1), (4, 15, 4, 2), (4, 18, 4, 3), (4, 21, 4, 4), (4, 24, 4, 5), (4, 27, 4, 0), (5, 11, 5, 1), (5, 15, 5, 3), (5, 18, 5, 4), (5, 22, 5, 5), (5, 25, 5, 6), (5, 28, 5, 0), (5, 36, 5, 2), (5, 51, 9, 7), (5, 57, 0, 0), (5, 66, 0, 1), (5, 69, 0, 4), (5, 101, 0, 3), (5, 104, 9, 4), (6, 9, 6, 1), (6, 15, 6, 2), (6, 18, 6, 3), (6, 27, 6, 0), (7, 11, 7, 1), (7, 17, 7, 2), (7, 21, 7, 3), (7, 24, 7, 4), (7, 27, 7, 0), (7, 34, 9, 4), (7, 46, 9, 1), (7, 50, 9, 7), (7, 60, 9, 6), (7, 73, 9, 3), (7, 77, 4, 0), (7, 80, 4, 5), (7, 83, 4, 1), (7, 86, 4, 4), (7, 93, 9, 5), (7, 103, 4, 2), (7, 106, 6, 1), (7, 109, 9, 2), (7, 116, 0, 0), (7, 117, 0, 1), (7, 120, 0, 3), (7, 129, 0, 2), (7, 135, 0, 4), (7, 141, 0, 5), (7, 144, 4, 3), (7, 150, 9, 9), (7, 161, 6, 0), (7, 188, 7, 5), (8, 11, 8, 2), (8, 15, 8, 3), (8, 18, 8, 4), (8, 21, 8, 5), (8, 24, 8, 0), (8, 28, 8, 1), (8, 32, 9, 5), (8, 38, 6, 0), (8, 70, 9, 6), (9, 9, 9, 4), (9, 18, 9, 5), (9, 25, 9, 6), (9, 32, 9, 7), (9, 39, 9, 8), (9, 46, 9, 9), (9, 58, 9, 0), (9, 63, 9, 1), (9, 66, 9, 2), (9, 69, 9, 3), (10, 9, 10, 2), (10, 15, 10, 3), (10, 18, 10, 0), (10, 30, 10, 1), (10, 34, 6, 0), (11, 12, 11, 0), (11, 16, 11, 1), (11, 19, 11, 2), (11, 26, 11, 3), (11, 35, 11, 4), (11, 42, 11, 5), (11, 49, 11, 6), (11, 55, 9, 5), (11, 62, 11, 7), (11, 66, 9, 0), (11, 84, 9, 6), (11, 94, 9, 7), (11, 98, 9, 1), (11, 110, 4, 4), (11, 120, 9, 9), (11, 128, 2, 0), (11, 131, 2, 1), (11, 141, 4, 1), (11, 144, 4, 2), (11, 147, 4, 3), (11, 150, 4, 5), (11, 160, 0, 1), (11, 163, 0, 2), (11, 166, 0, 3), (11, 169, 0, 4), (11, 172, 0, 5), (11, 175, 0, 6), (11, 178, 0, 7), (11, 194, 6, 0), (11, 207, 4, 0), (11, 224, 9, 8), (11, 239, 0, 0), (11, 243, 9, 2), (11, 246, 3, 0), (11, 247, 1, 0), (11, 251, 9, 3), (11, 257, 9, 4), (12, 7, 12, 3), (12, 13, 12, 4), (12, 16, 12, 6), (12, 19, 12, 7), (12, 22, 12, 8), (12, 25, 12, 9), (12, 28, 12, 10), (12, 31, 12, 12), (12, 34, 12, 13), (12, 37, 12, 14), (12, 40, 12, 15), (12, 43, 12, 16), (12, 46, 12, 17), (12, 49, 12, 18), (12, 52, 12, 22), (12, 55, 12, 24), (12, 58, 12, 25), (12, 61, 12, 26), (12, 64, 12, 27), (12, 67, 12, 28), (12, 70, 12, 29), (12, 73, 12, 35), (12, 76, 12, 37), (12, 79, 12, 38), (12, 82, 12, 39), (12, 85, 12, 40), (12, 88, 12, 41), (12, 91, 12, 44), (12, 94, 12, 49), (12, 98, 12, 50), (12, 101, 12, 51), (12, 104, 12, 52), (12, 107, 12, 54), (12, 110, 12, 56), (12, 113, 12, 57), (12, 117, 12, 58), (12, 120, 12, 59), (12, 123, 12, 60), (12, 127, 12, 61), (12, 130, 12, 62), (12, 133, 12, 66), (12, 136, 12, 0), (12, 139, 12, 1), (12, 144, 12, 2), (12, 147, 12, 5), (12, 162, 12, 11), (12, 165, 12, 19), (12, 175, 12, 30), (12, 182, 12, 31), (12, 188, 12, 32), (12, 191, 12, 33), (12, 194, 12, 34), (12, 210, 12, 46), (12, 213, 12, 47), (12, 216, 12, 42), (12, 242, 12, 45), (12, 245, 12, 43), (12, 263, 12, 48), (12, 269, 12, 36), (12, 283, 12, 20), (12, 299, 12, 53), (12, 317, 12, 21), (12, 337, 12, 55), (12, 402, 12, 23), (12, 408, 12, 65), (12, 411, 12, 63), (12, 418, 12, 64)]
def pm_FL_h : List Nat := [234, 238, 241, 245, 249, 252, 254, 230, 322, 323, 317, 320, 321, 398, 401, 402, 403, 404, 400, 396, 406, 407, 318, 405, 281, 282, 283, 284, 285, 286, 287, 288, 289, 279, 196, 199, 202, 205, 208, 193, 462, 464, 465, 466, 467, 461, 463, 360, 231, 235, 246, 243, 348, 173, 175, 176, 168, 436, 437, 438, 439, 435, 347, 337, 359, 355, 343, 194, 209, 197, 206, 353, 200, 174, 340, 232, 236, 242, 239, 247, 250, 203, 365, 171, 440, 491, 492, 493, 494, 489, 490, 352, 169, 357, 346, 350, 354, 358, 362, 364, 336, 338, 341, 344, 516, 517, 514, 515, 170, 528, 529, 530, 531, 532, 533, 534, 351, 535, 335, 356, 361, 339, 207, 366, 397, 399, 198, 201, 204, 210, 237, 240, 244, 248, 251, 253, 255, 172, 195, 363, 233, 342, 280, 319, 345, 349, 1244, 1245, 1247, 1248, 1249, 1250, 1251, 1253, 1254, 1255, 1256, 1257, 1258, 1259, 1263, 1265, 1266, 1267, 1268, 1269, 1270, 1276, 1278, 1279, 1280, 1281, 1282, 1285, 1290, 1291, 1292, 1293, 1295, 1297, 1298, 1299, 1300, 1301, 1302, 1303, 1307, 1241, 1242, 1243, 1246, 1252, 1260, 1271, 1272, 1273, 1274, 1275, 1287, 1288, 1283, 1286, 1284, 1289, 1277, 1261, 1294, 1262, 1296, 1264, 1306, 1304, 1305]
def pm_FL_w (q : Nat × Nat × Nat × Nat) : Cond := .fieldLink (pm_cn.getD q.1 "") q.2.1 ((pm_cls.getD q.2.2.1 ("", pT_0, 0)).2.1 q.2.2.2).1 ((pm_cls.getD q.2.2.1 ("", pT_0, 0)).2.1 q.2.2.2).2.1 ((pm_cls.getD q.2.2.1 ("", pT_0, 0)).2.1 q.2.2.2).2.2.1
set_option maxRecDepth 100000 in
theorem pm_FL_k : (pm_FL.zip pm_FL_h).all (fun q => decide (lw_tbl[q.2]? = some (pm_FL_w q.1)) && goodWord (pm_FL_w q.1)) = true ∧ pm_FL.length = pm_FL_h.length := by decide +kernel
theorem pm_FL_ok : ∀ q ∈ pm_FL, pm_FL_w q ∈ pm_big := by
  intro q hq
  obtain ⟨i, hi⟩ := List.getElem?_of_mem hq
  have hl : i < pm_FL.length := (List.getElem?_eq_some_iff.mp hi).1
  have h2 : ∃ j, pm_FL_h[i]? = some j := ⟨_, List.getElem?_eq_getElem (by rw [← pm_FL_k.2]; exact hl)⟩
  obtain ⟨j, hj⟩ := h2
  have hz : (q, j) ∈ pm_FL.zip pm_FL_h := List.mem_of_getElem? (i := i) (by rw [List.getElem?_zip_eq_some]; exact ⟨hi, hj⟩)
  exact pm_mem j (List.all_eq_true.mp pm_FL_k.1 (q, j) hz)
def pm_ML : List (Nat × Nat × Nat) := [(0, 37, 1), (0, 41, 3), (0, 45, 10), (1, 23, 14), (1, 30, 21), (1, 34, 17), (1, 38, 20), (1, 41, 19), (1, 45, 18), (2, 35, 25), (2, 39, 38), (2, 51, 13), (2, 54, 31), (2, 57, 22), (2, 67, 29), (2, 70, 28), (2, 73, 32), (2, 76, 14), (2, 79, 30), (2, 82, 15), (2, 85, 33), (2, 88, 34), (2, 91, 35), (2, 94, 37), (2, 97, 36), (2, 100, 19), (2, 104, 40), (2, 108, 42), (2, 111, 44), (2, 114, 46), (2, 118, 39), (2, 122, 43), (2, 125, 45), (2, 128, 48), (2, 131, 41), (2, 134, 49), (2, 139, 248), (2, 144, 250), (2, 148, 47), (3, 43, 53), (3, 47, 57), (3, 50, 56), (3, 53, 247), (3, 59, 54), (3, 63, 55), (3, 66, 58), (5, 32, 69), (5, 40, 70), (5, 43, 71), (5, 47, 73), (5, 62, 3), (5, 72, 8), (5, 75, 255), (5, 81, 72), (5, 89, 74), (5, 92, 76), (5, 95, 77), (5, 98, 79), (5, 107, 10), (5, 113, 78), (5, 116, 80), (6, 21, 247), (6, 31, 82), (6, 35, 87), (7, 31, 91), (7, 39, 96), (7, 43, 93), (7, 54, 9), (7, 64, 63), (7, 69, 118), (7, 89, 92), (7, 97, 82), (7, 112, 85), (7, 123, 94), (7, 126, 95), (7, 132, 4), (7, 138, 3), (7, 147, 64), (7, 154, 16), (7, 158, 97), (7, 166, 98), (7, 169, 103), (7, 172, 99), (7, 176, 100), (7, 179, 101), (7, 182, 247), (7, 191, 102), (8, 47, 106), (8, 51, 107), (8, 55, 85), (8, 64, 255), (8, 74, 65), (8, 79, 105), (8, 83, 110), (8, 87, 112), (8, 93, 113), (8, 96, 111), (8, 99, 108), (9, 17, 81), (9, 50, 116), (9, 54, 117), (9, 77, 88), (9, 81, 66), (9, 84, 11), (9, 87, 59), (9, 90, 22), (10, 24, 122), (10, 39, 123), (10, 43, 124), (10, 47, 87), (10, 51, 126), (10, 55, 125), (10, 60, 85), (11, 11, 114), (11, 32, 89), (11, 41, 67), (11, 48, 104), (11, 59, 120), (11, 70, 83), (11, 76, 84), (11, 80, 82), (11, 88, 62), (11, 93, 61), (11, 101, 2), (11, 106, 115), (11, 114, 24), (11, 117, 26), (11, 124, 27), (11, 134, 90), (11, 138, 63), (11, 153, 6), (11, 156, 7), (11, 159, 1), (11, 181, 3), (11, 184, 95), (11, 187, 68), (11, 190, 75), (11, 197, 155), (11, 200, 105), (11, 204, 108), (11, 208, 109), (11, 212, 86), (11, 217, 121), (11, 221, 154), (11, 228, 51), (11, 233, 52), (11, 236, 119), (11, 240, 5), (11, 254, 153), (12, 150, 159), (12, 154, 163), (12, 159, 164), (12, 168, 170), (12, 172, 171), (12, 178, 174), (12, 185, 177), (12, 197, 178), (12, 200, 181), (12, 204, 179), (12, 207, 180), (12, 219, 183), (12, 222, 186), (12, 226, 182), (12, 229, 187), (12, 233, 185), (12, 236, 188), (12, 239, 189), (12, 248, 184), (12, 251, 191), (12, 254, 190), (12, 257, 192), (12, 260, 193), (12, 266, 194), (12, 272, 197), (12, 276, 200), (12, 279, 198), (12, 286, 165), (12, 289, 205), (12, 293, 199), (12, 296, 203), (12, 302, 206), (12, 305, 204), (12, 308, 207), (12, 311, 201), (12, 314, 162), (12, 320, 202), (12, 324, 208), (12, 327, 209), (12, 330, 210), (12, 333, 213), (12, 341, 219), (12, 344, 216), (12, 347, 218), (12, 350, 217), (12, 353, 160), (12, 356, 221), (12, 359, 222), (12, 362, 224), (12, 365, 226), (12, 368, 227), (12, 371, 228), (12, 376, 231), (12, 379, 232), (12, 383, 233), (12, 387, 234), (12, 391, 237), (12, 396, 235), (12, 399, 236), (12, 405, 240), (12, 415, 242), (12, 421, 243), (12, 424, 244), (15, 335, 249), (15, 492, 251), (15, 495, 252), (16, 9, 253), (15, 1059, 254), (18, 9, 127), (18, 12, 158), (18, 13, 128), (18, 17, 161), (18, 18, 129), (18, 21, 166), (18, 22, 130), (18, 26, 167), (18, 27, 131), (18, 31, 168), (18, 32, 132), (18, 36, 169), (18, 37, 133), (18, 41, 172), (18, 42, 134), (18, 45, 173), (18, 46, 135), (18, 50, 175), (18, 51, 136), (18, 55, 176), (18, 56, 137), (18, 60, 195), (18, 61, 138), (18, 64, 196), (18, 65, 139), (18, 68, 211), (18, 69, 140), (18, 72, 212), (18, 73, 141), (18, 77, 214), (18, 78, 142), (18, 81, 215), (18, 82, 143), (18, 85, 220), (18, 86, 144), (18, 89, 223), (18, 90, 145), (18, 93, 225), (18, 94, 146), (18, 97, 229), (18, 98, 147), (18, 101, 230), (18, 102, 148), (18, 106, 238), (18, 107, 149), (18, 110, 239), (18, 111, 150), (18, 114, 241), (18, 115, 151), (18, 119, 245), (18, 120, 152), (18, 123, 246)]
def pm_ML_h : List Nat := [890, 930, 932, 794, 910, 914, 918, 922, 923, 625, 645, 739, 743, 795, 751, 747, 755, 767, 771, 790, 759, 763, 775, 779, 786, 783, 649, 653, 656, 660, 717, 721, 724, 728, 732, 735, 665, 675, 713, 1167, 1180, 1185, 1171, 1172, 1176, 1189, 973, 978, 986, 1001, 977, 982, 990, 996, 1005, 1017, 1022, 1032, 1021, 1028, 1036, 165, 573, 1108, 821, 840, 894, 926, 936, 825, 831, 835, 836, 848, 898, 886, 852, 902, 906, 844, 859, 880, 863, 868, 872, 867, 876, 1052, 1057, 1056, 1075, 1076, 1081, 1082, 1091, 1097, 1086, 1090, 161, 607, 610, 1203, 1208, 1212, 1217, 1222, 1122, 1126, 1134, 1130, 1131, 1138, 1142, 155, 431, 457, 485, 510, 561, 569, 581, 582, 591, 595, 603, 621, 633, 641, 817, 945, 950, 954, 962, 963, 964, 969, 1013, 1044, 1047, 1063, 1071, 1104, 1117, 1152, 1155, 1163, 1198, 1227, 1231, 1451, 1459, 1472, 1480, 1484, 1496, 1512, 1516, 1520, 1524, 1528, 1536, 1572, 1508, 1568, 1548, 1564, 1560, 1540, 1552, 1556, 1576, 1544, 1532, 1650, 1642, 1646, 1602, 1614, 1618, 1622, 1630, 1610, 1626, 1638, 1592, 1598, 1606, 1634, 1588, 1662, 1674, 1678, 1682, 1687, 1699, 1703, 1695, 1711, 1727, 1719, 1723, 1753, 1757, 1744, 1749, 1765, 1740, 1761, 1777, 1785, 1789, 1793, 669, 679, 683, 686, 691, 147, 1237, 553, 1443, 557, 1447, 565, 1455, 577, 1463, 587, 1468, 599, 1476, 613, 1488, 617, 1492, 629, 1500, 637, 1504, 809, 1580, 813, 1584, 941, 1654, 946, 1658, 958, 1666, 965, 1670, 1009, 1691, 1040, 1707, 1067, 1715, 1100, 1731, 1112, 1735, 1148, 1769, 1159, 1773, 1194, 1781, 1223, 1797]
def pm_ML_w (q : Nat × Nat × Nat) : Cond := .methodLink (pm_cn.getD q.1 "") q.2.1 (pm_yk q.2.2)
set_option maxRecDepth 100000 in
theorem pm_ML_k : (pm_ML.zip pm_ML_h).all (fun q => decide (lw_tbl[q.2]? = some (pm_ML_w q.1)) && goodWord (pm_ML_w q.1)) = true ∧ pm_ML.length = pm_ML_h.length := by decide +kernel
theorem pm_ML_ok : ∀ q ∈ pm_ML, pm_ML_w q ∈ pm_big := by
  intro q hq
  obtain ⟨i, hi⟩ := List.getElem?_of_mem hq
  have hl : i < pm_ML.length := (List.getElem?_eq_some_iff.mp hi).1
  have h2 : ∃ j, pm_ML_h[i]? = some j := ⟨_, List.getElem?_eq_getElem (by rw [← pm_ML_k.2]; exact hl)⟩
  obtain ⟨j, hj⟩ := h2
  have hz : (q, j) ∈ pm_ML.zip pm_ML_h := List.mem_of_getElem? (i := i) (by rw [List.getElem?_zip_eq_some]; exact ⟨hi, hj⟩)
  exact pm_mem j (List.all_eq_true.mp pm_ML_k.1 (q, j) hz)
def pm_MN : List (Nat × Nat × Nat) := [(0, 54, 157), (1, 49, 157), (2, 21, 12), (3, 77, 157), (4, 32, 157), (4, 36, 156), (5, 110, 156), (6, 39, 157), (7, 162, 156), (8, 43, 156), (9, 24, 60), (9, 31, 0), (9, 38, 50), (9, 45, 12), (9, 73, 157), (11, 25, 23)]
def pm_MN_w (q : Nat × Nat × Nat) : Cond := .methodLinkNest (pm_cn.getD q.1 "") q.2.1 (pm_yk q.2.2) "PaidWhereMade"
def pm_MN_h : List Nat := [1216, 799, 395, 1221, 940, 1080, 1027, 1207, 856, 1051, 189, 226, 275, 313, 1202, 390]
set_option maxRecDepth 100000 in
theorem pm_MN_k : (pm_MN.zip pm_MN_h).all (fun q => decide (lw_tbl[q.2]? = some (pm_MN_w q.1))) = true ∧ pm_MN.length = pm_MN_h.length := by decide +kernel
theorem pm_MN_ok : ∀ q ∈ pm_MN, pm_MN_w q ∈ lw_tbl := by
  intro q hq
  obtain ⟨i, hi⟩ := List.getElem?_of_mem hq
  have hl : i < pm_MN.length := (List.getElem?_eq_some_iff.mp hi).1
  have h2 : ∃ j, pm_MN_h[i]? = some j := ⟨_, List.getElem?_eq_getElem (by rw [← pm_MN_k.2]; exact hl)⟩
  obtain ⟨j, hj⟩ := h2
  have hz : (q, j) ∈ pm_MN.zip pm_MN_h := List.mem_of_getElem? (i := i) (by rw [List.getElem?_zip_eq_some]; exact ⟨hi, hj⟩)
  exact List.mem_of_getElem? (of_decide_eq_true (List.all_eq_true.mp pm_MN_k.1 (q, j) hz))
def pm_in_y (k : Nat) : MethodName := match k with | 1000 => Lib.Math.min.name | 1001 => Lib.Math.max.name | 1002 => Lib.Math.abs.name | 1003 => arraycopyName | _ => Lib.objectInit
def pm_MI : List (Nat × Nat × Nat) := [(0, 3, 1004), (0, 49, 1000), (1, 3, 1004), (2, 3, 1004), (3, 3, 1004), (3, 69, 1000), (3, 74, 1001), (4, 3, 1004), (5, 3, 1004), (5, 84, 1000), (6, 3, 1004), (7, 3, 1004), (7, 196, 1000), (8, 3, 1004), (8, 59, 1000), (8, 90, 1002), (9, 3, 1004), (10, 3, 1004), (10, 63, 1001), (11, 3, 1004), (11, 260, 1000), (11, 265, 1003), (12, 1, 1004)]
def pm_MI_h : List Nat := [229, 935, 316, 393, 278, 1193, 1184, 192, 460, 1000, 164, 434, 885, 488, 1062, 1094, 158, 513, 1143, 150, 802, 805, 1240]
def pm_MI_w (q : Nat × Nat × Nat) : Cond := .methodLink (pm_cn.getD q.1 "") q.2.1 (pm_in_y q.2.2)
set_option maxRecDepth 100000 in
theorem pm_MI_k : (pm_MI.zip pm_MI_h).all (fun q => decide (lw_tbl[q.2]? = some (pm_MI_w q.1)) && goodWord (pm_MI_w q.1)) = true ∧ pm_MI.length = pm_MI_h.length := by decide +kernel
theorem pm_MI_ok : ∀ q ∈ pm_MI, pm_MI_w q ∈ pm_big := by
  intro q hq
  obtain ⟨i, hi⟩ := List.getElem?_of_mem hq
  have hl : i < pm_MI.length := (List.getElem?_eq_some_iff.mp hi).1
  have h2 : ∃ j, pm_MI_h[i]? = some j := ⟨_, List.getElem?_eq_getElem (by rw [← pm_MI_k.2]; exact hl)⟩
  obtain ⟨j, hj⟩ := h2
  have hz : (q, j) ∈ pm_MI.zip pm_MI_h := List.mem_of_getElem? (i := i) (by rw [List.getElem?_zip_eq_some]; exact ⟨hi, hj⟩)
  exact pm_mem j (List.all_eq_true.mp pm_MI_k.1 (q, j) hz)
def pm_CL : List (Nat × Nat × Nat) := [(0, 44, 99999), (4, 31, 99999), (5, 109, 1073741824), (7, 195, 1073741824), (8, 58, 1073741824), (9, 57, 1664525), (9, 62, 1013904223), (12, 142, 1664525), (12, 143, 1013904223), (12, 158, 99999), (12, 340, 1000000000), (13, 265, 1431655765), (13, 266, 858993459), (13, 267, 252645135)]
def pm_CL_h : List Nat := [931, 586, 1026, 884, 1061, 829, 830, 1596, 1597, 1467, 1686, 993, 994, 995]
def pm_CL_w (q : Nat × Nat × Nat) : Cond := .constant (pm_cn.getD q.1 "") q.2.1 (nI q.2.2)
set_option maxRecDepth 100000 in
theorem pm_CL_k : (pm_CL.zip pm_CL_h).all (fun q => decide (lw_tbl[q.2]? = some (pm_CL_w q.1)) && goodWord (pm_CL_w q.1)) = true ∧ pm_CL.length = pm_CL_h.length := by decide +kernel
theorem pm_CL_ok : ∀ q ∈ pm_CL, pm_CL_w q ∈ pm_big := by
  intro q hq
  obtain ⟨i, hi⟩ := List.getElem?_of_mem hq
  have hl : i < pm_CL.length := (List.getElem?_eq_some_iff.mp hi).1
  have h2 : ∃ j, pm_CL_h[i]? = some j := ⟨_, List.getElem?_eq_getElem (by rw [← pm_CL_k.2]; exact hl)⟩
  obtain ⟨j, hj⟩ := h2
  have hz : (q, j) ∈ pm_CL.zip pm_CL_h := List.mem_of_getElem? (i := i) (by rw [List.getElem?_zip_eq_some]; exact ⟨hi, hj⟩)
  exact pm_mem j (List.all_eq_true.mp pm_CL_k.1 (q, j) hz)
def pm_NL : List (Nat × Nat × Nat × Nat) := [(10, 22, 1, 1), (10, 28, 15, 0), (10, 58, 100, 0), (11, 215, 1, 1), (12, 374, 100, 0), (12, 394, 1, 1)]
def pm_NL_h : List Nat := [1121, 1147, 1146, 1116, 1748, 1739]
def pm_NL_w (q : Nat × Nat × Nat × Nat) : Cond := .constantLong (pm_cn.getD q.1 "") q.2.1 (match q.2.2.2 with | 0 => lN q.2.2.1 | _ => -lN q.2.2.1)
set_option maxRecDepth 100000 in
theorem pm_NL_k : (pm_NL.zip pm_NL_h).all (fun q => decide (lw_tbl[q.2]? = some (pm_NL_w q.1)) && goodWord (pm_NL_w q.1)) = true ∧ pm_NL.length = pm_NL_h.length := by decide +kernel
theorem pm_NL_ok : ∀ q ∈ pm_NL, pm_NL_w q ∈ pm_big := by
  intro q hq
  obtain ⟨i, hi⟩ := List.getElem?_of_mem hq
  have hl : i < pm_NL.length := (List.getElem?_eq_some_iff.mp hi).1
  have h2 : ∃ j, pm_NL_h[i]? = some j := ⟨_, List.getElem?_eq_getElem (by rw [← pm_NL_k.2]; exact hl)⟩
  obtain ⟨j, hj⟩ := h2
  have hz : (q, j) ∈ pm_NL.zip pm_NL_h := List.mem_of_getElem? (i := i) (by rw [List.getElem?_zip_eq_some]; exact ⟨hi, hj⟩)
  exact pm_mem j (List.all_eq_true.mp pm_NL_k.1 (q, j) hz)
def pm_SF : List (Nat × Nat × Nat) := [(15, 9, 0), (15, 15, 1)]
def pm_SF_h : List Nat := [1801, 1802]
def pm_SF_w (q : Nat × Nat × Nat) : Cond := (match q.2.2 with | 0 => .fieldLink (pm_cn.getD q.1 "") q.2.1 "java/lang/String" "value" "[B" | _ => .fieldLink (pm_cn.getD q.1 "") q.2.1 "java/lang/String" "coder" "B")
set_option maxRecDepth 100000 in
theorem pm_SF_k : (pm_SF.zip pm_SF_h).all (fun q => decide (lw_tbl[q.2]? = some (pm_SF_w q.1)) && goodWord (pm_SF_w q.1)) = true ∧ pm_SF.length = pm_SF_h.length := by decide +kernel
theorem pm_SF_ok : ∀ q ∈ pm_SF, pm_SF_w q ∈ pm_big := by
  intro q hq
  obtain ⟨i, hi⟩ := List.getElem?_of_mem hq
  have hl : i < pm_SF.length := (List.getElem?_eq_some_iff.mp hi).1
  have h2 : ∃ j, pm_SF_h[i]? = some j := ⟨_, List.getElem?_eq_getElem (by rw [← pm_SF_k.2]; exact hl)⟩
  obtain ⟨j, hj⟩ := h2
  have hz : (q, j) ∈ pm_SF.zip pm_SF_h := List.mem_of_getElem? (i := i) (by rw [List.getElem?_zip_eq_some]; exact ⟨hi, hj⟩)
  exact pm_mem j (List.all_eq_true.mp pm_SF_k.1 (q, j) hz)
def pm_GL : List (Nat × Nat × Nat) := [(15, 38, 0), (15, 1053, 1)]
def pm_GL_h : List Nat := [673, 689]
def pm_GL_w (q : Nat × Nat × Nat) : Cond := (match q.2.2 with | 0 => .fieldLink (pm_cn.getD q.1 "") q.2.1 "java/lang/String" "COMPACT_STRINGS" "Z" | _ => .fieldLink (pm_cn.getD q.1 "") q.2.1 "jdk/internal/util/Preconditions" "SIOOBE_FORMATTER" "Ljava/util/function/BiFunction;")
set_option maxRecDepth 100000 in
theorem pm_GL_k : (pm_GL.zip pm_GL_h).all (fun q => decide (lw_tbl[q.2]? = some (pm_GL_w q.1)) && goodWord (pm_GL_w q.1)) = true ∧ pm_GL.length = pm_GL_h.length := by decide +kernel
theorem pm_GL_ok : ∀ q ∈ pm_GL, pm_GL_w q ∈ pm_big := by
  intro q hq
  obtain ⟨i, hi⟩ := List.getElem?_of_mem hq
  have hl : i < pm_GL.length := (List.getElem?_eq_some_iff.mp hi).1
  have h2 : ∃ j, pm_GL_h[i]? = some j := ⟨_, List.getElem?_eq_getElem (by rw [← pm_GL_k.2]; exact hl)⟩
  obtain ⟨j, hj⟩ := h2
  have hz : (q, j) ∈ pm_GL.zip pm_GL_h := List.mem_of_getElem? (i := i) (by rw [List.getElem?_zip_eq_some]; exact ⟨hi, hj⟩)
  exact pm_mem j (List.all_eq_true.mp pm_GL_k.1 (q, j) hz)
def pm_NW : List (Nat × Nat × Nat) := [(2, 19, 1), (9, 15, 6), (9, 22, 4), (9, 29, 0), (9, 36, 3), (9, 43, 1), (11, 9, 9), (11, 23, 2), (11, 30, 7), (11, 39, 5), (11, 46, 8), (11, 53, 10), (18, 7, 11), (18, 10, 12)]
def pm_NW_h : List Nat := [394, 159, 187, 224, 273, 311, 153, 388, 429, 455, 483, 508, 145, 1235]
def pm_NW_w (q : Nat × Nat × Nat) : Cond := .classLink (pm_cn.getD q.1 "") q.2.1 (pm_cls.getD q.2.2 ("", pT_0, 0)).1
set_option maxRecDepth 100000 in
theorem pm_NW_k : (pm_NW.zip pm_NW_h).all (fun q => decide (lw_tbl[q.2]? = some (pm_NW_w q.1)) && goodWord (pm_NW_w q.1)) = true ∧ pm_NW.length = pm_NW_h.length := by decide +kernel
theorem pm_NW_ok : ∀ q ∈ pm_NW, pm_NW_w q ∈ pm_big := by
  intro q hq
  obtain ⟨i, hi⟩ := List.getElem?_of_mem hq
  have hl : i < pm_NW.length := (List.getElem?_eq_some_iff.mp hi).1
  have h2 : ∃ j, pm_NW_h[i]? = some j := ⟨_, List.getElem?_eq_getElem (by rw [← pm_NW_k.2]; exact hl)⟩
  obtain ⟨j, hj⟩ := h2
  have hz : (q, j) ∈ pm_NW.zip pm_NW_h := List.mem_of_getElem? (i := i) (by rw [List.getElem?_zip_eq_some]; exact ⟨hi, hj⟩)
  exact pm_mem j (List.all_eq_true.mp pm_NW_k.1 (q, j) hz)
def pm_IC : List (Nat) := [(0), (1), (2), (3), (4), (5), (6), (7), (8), (9), (10), (11), (12)]
def pm_IC_h : List Nat := [225, 312, 389, 274, 188, 456, 160, 430, 484, 154, 509, 146, 1236]
def pm_IC_w (q : Nat) : Cond := .instantiable (pm_cls.getD q ("", pT_0, 0)).1 (pm_cls.getD q ("", pT_0, 0)).2.2
set_option maxRecDepth 100000 in
theorem pm_IC_k : (pm_IC.zip pm_IC_h).all (fun q => decide (lw_tbl[q.2]? = some (pm_IC_w q.1)) && goodWord (pm_IC_w q.1)) = true ∧ pm_IC.length = pm_IC_h.length := by decide +kernel
theorem pm_IC_ok : ∀ q ∈ pm_IC, pm_IC_w q ∈ pm_big := by
  intro q hq
  obtain ⟨i, hi⟩ := List.getElem?_of_mem hq
  have hl : i < pm_IC.length := (List.getElem?_eq_some_iff.mp hi).1
  have h2 : ∃ j, pm_IC_h[i]? = some j := ⟨_, List.getElem?_eq_getElem (by rw [← pm_IC_k.2]; exact hl)⟩
  obtain ⟨j, hj⟩ := h2
  have hz : (q, j) ∈ pm_IC.zip pm_IC_h := List.mem_of_getElem? (i := i) (by rw [List.getElem?_zip_eq_some]; exact ⟨hi, hj⟩)
  exact pm_mem j (List.all_eq_true.mp pm_IC_k.1 (q, j) hz)
def pm_IN : List (Nat) := [(0), (1), (2), (3), (4), (5), (6), (7), (8), (9), (10), (11), (12), (13), (14), (15), (16), (17), (18)]
def pm_IN_h : List Nat := [129, 131, 132, 130, 128, 134, 126, 133, 135, 125, 136, 124, 137, 144, 127, 138, 139, 140, 123]
def pm_IN_w (q : Nat) : Cond := .initialized (pm_cn.getD q "")
set_option maxRecDepth 100000 in
theorem pm_IN_k : (pm_IN.zip pm_IN_h).all (fun q => decide (lw_tbl[q.2]? = some (pm_IN_w q.1)) && goodWord (pm_IN_w q.1)) = true ∧ pm_IN.length = pm_IN_h.length := by decide +kernel
theorem pm_IN_ok : ∀ q ∈ pm_IN, pm_IN_w q ∈ pm_big := by
  intro q hq
  obtain ⟨i, hi⟩ := List.getElem?_of_mem hq
  have hl : i < pm_IN.length := (List.getElem?_eq_some_iff.mp hi).1
  have h2 : ∃ j, pm_IN_h[i]? = some j := ⟨_, List.getElem?_eq_getElem (by rw [← pm_IN_k.2]; exact hl)⟩
  obtain ⟨j, hj⟩ := h2
  have hz : (q, j) ∈ pm_IN.zip pm_IN_h := List.mem_of_getElem? (i := i) (by rw [List.getElem?_zip_eq_some]; exact ⟨hi, hj⟩)
  exact pm_mem j (List.all_eq_true.mp pm_IN_k.1 (q, j) hz)
def pm_KI : List (Nat) := [(0), (1), (2), (3), (4), (5), (6), (7), (8), (9), (11), (12), (13), (14), (15), (16), (17), (20), (21), (22), (23), (24), (25), (26), (27), (28), (29), (30), (31), (32), (33), (34), (35), (36), (37), (38), (39), (40), (44), (45), (46), (47), (48), (50), (51), (52), (53), (54), (55), (56), (57), (58), (59), (60), (61), (62), (63), (64), (65), (66), (67), (68), (69), (70), (71), (72), (73), (74), (75), (76), (77), (78), (79), (80), (81), (82), (83), (84), (85), (86), (87), (88), (89), (90), (91), (92), (93), (94), (95), (96), (97), (98), (99), (100), (101), (102), (103), (104), (105), (106), (107), (108), (109), (110), (111), (114), (115), (118), (119), (120), (121), (122), (123), (124), (125), (127), (128), (129), (130), (131), (132), (133), (134), (135), (136), (137), (138), (139), (140), (141), (142), (143), (144), (145), (146), (147), (148), (149), (150), (151), (152), (153), (158), (159), (160), (161), (162), (163), (164), (165), (166), (167), (168), (169), (170), (171), (172), (173), (174), (175), (176), (177), (178), (179), (180), (181), (182), (183), (184), (185), (186), (187), (188), (189), (190), (191), (192), (193), (194), (195), (196), (197), (198), (199), (200), (201), (202), (203), (204), (205), (206), (207), (208), (209), (210), (211), (212), (213), (214), (215), (216), (217), (218), (219), (220), (221), (222), (223), (224), (225), (226), (227), (228), (229), (230), (231), (232), (233), (234), (235), (236), (237), (238), (239), (240), (241), (242), (243), (244), (245), (246), (248), (249), (250), (251)]
def pm_KI_h : List Nat := [227, 891, 596, 853, 887, 1228, 951, 955, 983, 927, 1213, 314, 740, 768, 791, 907, 916, 920, 912, 796, 391, 622, 627, 634, 642, 749, 753, 773, 745, 757, 761, 765, 777, 788, 781, 647, 719, 651, 658, 726, 662, 715, 730, 276, 1156, 1164, 1169, 1174, 1178, 1187, 1182, 1191, 1218, 190, 592, 583, 937, 903, 1077, 1209, 458, 970, 975, 980, 988, 998, 1003, 1007, 1014, 1019, 1024, 1030, 1034, 1038, 162, 574, 562, 570, 837, 1105, 1109, 1204, 432, 818, 823, 833, 896, 850, 899, 842, 846, 861, 865, 870, 874, 878, 882, 486, 1048, 1054, 1059, 1064, 1072, 1084, 1088, 156, 604, 826, 1199, 511, 1118, 1124, 1128, 1136, 1140, 148, 554, 558, 566, 578, 588, 600, 614, 618, 630, 638, 810, 814, 942, 947, 959, 966, 1010, 1041, 1068, 1101, 1113, 1149, 1160, 1195, 1224, 1233, 1238, 1453, 1701, 1444, 1594, 1461, 1474, 1604, 1448, 1456, 1464, 1469, 1482, 1486, 1477, 1489, 1498, 1493, 1501, 1514, 1518, 1526, 1530, 1522, 1510, 1538, 1542, 1550, 1574, 1570, 1566, 1562, 1558, 1554, 1578, 1546, 1534, 1505, 1581, 1652, 1648, 1620, 1644, 1640, 1600, 1624, 1612, 1616, 1632, 1628, 1608, 1636, 1590, 1585, 1655, 1664, 1659, 1667, 1680, 1689, 1684, 1676, 1671, 1705, 1697, 1692, 1713, 1708, 1729, 1721, 1725, 1716, 1732, 1755, 1759, 1746, 1751, 1742, 1763, 1767, 1736, 1770, 1779, 1774, 1787, 1791, 1795, 1782, 1798, 666, 670, 676, 680]
def pm_KI_w (q : Nat) : Cond := .instanceMethod (pm_yk q)
set_option maxRecDepth 100000 in
theorem pm_KI_k : (pm_KI.zip pm_KI_h).all (fun q => decide (lw_tbl[q.2]? = some (pm_KI_w q.1)) && goodWord (pm_KI_w q.1)) = true ∧ pm_KI.length = pm_KI_h.length := by decide +kernel
theorem pm_KI_ok : ∀ q ∈ pm_KI, pm_KI_w q ∈ pm_big := by
  intro q hq
  obtain ⟨i, hi⟩ := List.getElem?_of_mem hq
  have hl : i < pm_KI.length := (List.getElem?_eq_some_iff.mp hi).1
  have h2 : ∃ j, pm_KI_h[i]? = some j := ⟨_, List.getElem?_eq_getElem (by rw [← pm_KI_k.2]; exact hl)⟩
  obtain ⟨j, hj⟩ := h2
  have hz : (q, j) ∈ pm_KI.zip pm_KI_h := List.mem_of_getElem? (i := i) (by rw [List.getElem?_zip_eq_some]; exact ⟨hi, hj⟩)
  exact pm_mem j (List.all_eq_true.mp pm_KI_k.1 (q, j) hz)
def pm_KS : List (Nat) := [(10), (18), (19), (41), (42), (43), (49), (112), (113), (116), (117), (126), (154), (155), (156), (157), (247), (252), (253), (254), (255)]
def pm_KS_h : List Nat := [933, 924, 784, 733, 654, 722, 736, 1092, 1098, 608, 611, 1132, 1153, 1045, 857, 800, 166, 684, 687, 692, 991]
def pm_KS_w (q : Nat) : Cond := .static (pm_yk q)
set_option maxRecDepth 100000 in
theorem pm_KS_k : (pm_KS.zip pm_KS_h).all (fun q => decide (lw_tbl[q.2]? = some (pm_KS_w q.1)) && goodWord (pm_KS_w q.1)) = true ∧ pm_KS.length = pm_KS_h.length := by decide +kernel
theorem pm_KS_ok : ∀ q ∈ pm_KS, pm_KS_w q ∈ pm_big := by
  intro q hq
  obtain ⟨i, hi⟩ := List.getElem?_of_mem hq
  have hl : i < pm_KS.length := (List.getElem?_eq_some_iff.mp hi).1
  have h2 : ∃ j, pm_KS_h[i]? = some j := ⟨_, List.getElem?_eq_getElem (by rw [← pm_KS_k.2]; exact hl)⟩
  obtain ⟨j, hj⟩ := h2
  have hz : (q, j) ∈ pm_KS.zip pm_KS_h := List.mem_of_getElem? (i := i) (by rw [List.getElem?_zip_eq_some]; exact ⟨hi, hj⟩)
  exact pm_mem j (List.all_eq_true.mp pm_KS_k.1 (q, j) hz)
def pm_KE : List (Nat) := [(1), (2), (3), (4), (5), (6), (7), (8), (9), (11), (13), (14), (15), (16), (17), (20), (21), (22), (24), (25), (26), (27), (28), (29), (30), (31), (32), (33), (34), (35), (36), (37), (38), (39), (40), (44), (45), (46), (47), (48), (51), (52), (53), (54), (55), (56), (57), (58), (59), (61), (62), (63), (64), (65), (66), (68), (69), (70), (71), (72), (73), (74), (75), (76), (77), (78), (79), (80), (82), (83), (84), (85), (86), (87), (88), (90), (91), (92), (93), (94), (95), (96), (97), (98), (99), (100), (101), (102), (103), (105), (106), (107), (108), (109), (110), (111), (115), (118), (119), (121), (122), (123), (124), (125), (128), (129), (130), (131), (132), (133), (134), (135), (136), (137), (138), (139), (140), (141), (142), (143), (144), (145), (146), (147), (148), (149), (150), (151), (152), (153), (159), (160), (161), (162), (163), (164), (165), (166), (167), (168), (169), (170), (171), (172), (173), (174), (175), (176), (177), (178), (179), (180), (181), (182), (183), (184), (185), (186), (187), (188), (189), (190), (191), (192), (193), (194), (195), (196), (197), (198), (199), (200), (201), (202), (203), (204), (205), (206), (207), (208), (209), (210), (211), (212), (213), (214), (215), (216), (217), (218), (219), (220), (221), (222), (223), (224), (225), (226), (227), (228), (229), (230), (231), (232), (233), (234), (235), (236), (237), (238), (239), (240), (241), (242), (243), (244), (245), (246), (248), (249), (250), (251)]
def pm_KE_h : List Nat := [892, 597, 854, 888, 1229, 952, 956, 984, 928, 1214, 741, 769, 792, 908, 32, 33, 31, 797, 623, 0, 635, 643, 10, 11, 15, 9, 12, 13, 14, 16, 18, 17, 1, 6, 2, 3, 7, 4, 5, 8, 1157, 1165, 53, 54, 55, 57, 56, 58, 1219, 593, 584, 938, 904, 1078, 1210, 971, 34, 35, 36, 37, 38, 39, 1015, 40, 41, 42, 43, 44, 575, 563, 571, 838, 1106, 1110, 1205, 819, 19, 20, 30, 23, 900, 21, 22, 24, 25, 26, 27, 28, 29, 1049, 45, 46, 1065, 1073, 47, 48, 605, 827, 1200, 1119, 49, 50, 51, 52, 555, 559, 567, 579, 589, 601, 615, 619, 631, 639, 811, 815, 943, 948, 960, 967, 1011, 1042, 1069, 1102, 1114, 1150, 1161, 1196, 1225, 59, 60, 106, 1445, 85, 61, 62, 87, 1449, 1457, 1465, 1470, 63, 64, 1478, 1490, 65, 1494, 1502, 67, 68, 70, 71, 69, 66, 73, 74, 76, 82, 81, 80, 79, 78, 77, 83, 75, 72, 1506, 1582, 99, 98, 91, 97, 96, 86, 92, 89, 90, 94, 93, 88, 95, 84, 1586, 1656, 100, 1660, 1668, 102, 104, 103, 101, 1672, 107, 105, 1693, 108, 1709, 111, 109, 110, 1717, 1733, 115, 116, 113, 114, 112, 117, 118, 1737, 1771, 119, 1775, 120, 121, 122, 1783, 1799, 667, 671, 677, 681]
def pm_KE_w (q : Nat) : Cond := .selects (pm_yk q).cls (pm_yk q) (pm_yk q)
set_option maxRecDepth 100000 in
theorem pm_KE_k : (pm_KE.zip pm_KE_h).all (fun q => decide (lw_tbl[q.2]? = some (pm_KE_w q.1)) && goodWord (pm_KE_w q.1)) = true ∧ pm_KE.length = pm_KE_h.length := by decide +kernel
theorem pm_KE_ok : ∀ q ∈ pm_KE, pm_KE_w q ∈ pm_big := by
  intro q hq
  obtain ⟨i, hi⟩ := List.getElem?_of_mem hq
  have hl : i < pm_KE.length := (List.getElem?_eq_some_iff.mp hi).1
  have h2 : ∃ j, pm_KE_h[i]? = some j := ⟨_, List.getElem?_eq_getElem (by rw [← pm_KE_k.2]; exact hl)⟩
  obtain ⟨j, hj⟩ := h2
  have hz : (q, j) ∈ pm_KE.zip pm_KE_h := List.mem_of_getElem? (i := i) (by rw [List.getElem?_zip_eq_some]; exact ⟨hi, hj⟩)
  exact pm_mem j (List.all_eq_true.mp pm_KE_k.1 (q, j) hz)
theorem pm_w_min_s : (.static Lib.Math.min.name : Cond) ∈ pm_big := pm_mem 803 (by decide +kernel)
theorem pm_w_min_c : (.code Lib.Math.min.name Lib.Math.min.code 2 (some .int) : Cond) ∈ pm_big := pm_mem 804 (by decide +kernel)
theorem pm_w_max_s : (.static Lib.Math.max.name : Cond) ∈ pm_big := pm_mem 1144 (by decide +kernel)
theorem pm_w_max_c : (.code Lib.Math.max.name Lib.Math.max.code 2 (some .int) : Cond) ∈ pm_big := pm_mem 1145 (by decide +kernel)
theorem pm_w_abs_s : (.static Lib.Math.abs.name : Cond) ∈ pm_big := pm_mem 1095 (by decide +kernel)
theorem pm_w_abs_c : (.code Lib.Math.abs.name Lib.Math.abs.code 1 (some .int) : Cond) ∈ pm_big := pm_mem 1096 (by decide +kernel)
theorem pm_w_math : (.initialized "java/lang/Math" : Cond) ∈ pm_big := pm_mem 142 (by decide +kernel)
theorem pm_w_sys : (.initialized "java/lang/System" : Cond) ∈ pm_big := pm_mem 143 (by decide +kernel)
theorem pm_w_ac_n : (.native arraycopyName : Cond) ∈ pm_big := pm_mem 807 (by decide +kernel)
theorem pm_w_ac_s : (.static arraycopyName : Cond) ∈ pm_big := pm_mem 806 (by decide +kernel)
theorem pm_w_oi : (.instanceMethod Lib.objectInit : Cond) ∈ pm_big := pm_mem 151 (by decide +kernel)
theorem pm_w_oc : (.code Lib.objectInit ⟨#[0xb1]⟩ 1 none : Cond) ∈ pm_big := pm_mem 152 (by decide +kernel)
theorem pm_w_a_int : (.arrayClass .int : Cond) ∈ pm_big := pm_mem 186 (by decide +kernel)
theorem pm_w_a_boolean : (.arrayClass .boolean : Cond) ∈ pm_big := pm_mem 454 (by decide +kernel)
theorem pm_w_a_long : (.arrayClass .long : Cond) ∈ pm_big := pm_mem 527 (by decide +kernel)
