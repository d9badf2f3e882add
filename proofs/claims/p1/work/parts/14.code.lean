/-! every method: its code, its place among the words, its handlers -/
theorem kd_L_law_0 : ∀ z ∈ ([(0, 69, 0), (3, 22, 0), (4, 201, 0), (7, 9, 1), (8, 69, 1), (11, 22, 0), (12, 201, 1), (15, 9, 2), (16, 15, 1), (17, 66, 0), (19, 9, 3), (20, 15, 1), (21, 67, 0), (23, 10, 4), (25, 15, 0), (26, 8, 5), (28, 1, 5), (30, 4, 0), (31, 63, 0), (32, 15, 4), (33, 26, 0), (34, 42, 2467), (37, 4, 0), (38, 1, 5), (40, 56, 0), (41, 16, 63), (43, 27, 0), (44, 54, 0)] : List (Nat × Nat × Int)), ∀ x ∈ dkAll 6 z.2.1 z.2.2, decode code (z.1 + x.1) = .ok (x.2.1, x.2.2) := by decide +kernel
theorem kd_L_law_1 : ∀ z ∈ ([] : List (Nat × Nat × Int)), ∀ x ∈ dkAll 6 z.2.1 z.2.2, decode code (z.1 + x.1) = .ok (x.2.1, x.2.2) := by decide +kernel
theorem kd_L_law_2 : ∀ z ∈ ([] : List (Nat × Nat × Int)), ∀ x ∈ dkAll 6 z.2.1 z.2.2, decode code (z.1 + x.1) = .ok (x.2.1, x.2.2) := by decide +kernel
theorem kd_L_law_3 : ∀ z ∈ ([(204, 4, 1), (205, 4, 0), (206, 1, 5), (208, 15, 1), (209, 25, 0), (210, 56, 0), (211, 4, 0), (212, 1, 5), (214, 15, 2), (215, 25, 0), (216, 56, 0), (217, 4, 0), (218, 1, 5), (220, 15, 3), (221, 25, 0), (222, 56, 0), (223, 4, 3), (224, 201, 2), (227, 8, 6), (229, 4, 2), (230, 4, 0), (231, 1, 5), (233, 15, 1), (234, 25, 0), (235, 56, 0), (236, 4, 0), (237, 1, 5), (239, 15, 2), (240, 25, 0), (241, 56, 0), (242, 4, 0), (243, 1, 5), (245, 15, 3), (246, 25, 0), (247, 56, 0), (248, 201, 3), (251, 8, 7), (253, 4, 2), (254, 201, 4)] : List (Nat × Nat × Int)), ∀ x ∈ dkAll 6 z.2.1 z.2.2, decode code (z.1 + x.1) = .ok (x.2.1, x.2.2) := by decide +kernel
theorem kd_L_law_4 : ∀ z ∈ ([(257, 1, 6), (259, 38, 5), (264, 1, 6), (266, 33, 15), (269, 4, 3), (270, 15, 0), (271, 57, 0), (272, 1, 7), (274, 30, 0), (275, 44, 5), (281, 53, 2214), (284, 4, 1), (285, 4, 0), (286, 1, 5), (288, 15, 1), (289, 25, 0), (290, 56, 0), (291, 4, 3), (292, 201, 5), (295, 8, 6), (297, 4, 2), (298, 4, 0), (299, 1, 5), (301, 15, 1), (302, 25, 0), (303, 56, 0), (304, 201, 6), (307, 8, 7), (309, 4, 2), (310, 201, 4), (313, 1, 6), (315, 38, 5)] : List (Nat × Nat × Int)), ∀ x ∈ dkAll 6 z.2.1 z.2.2, decode code (z.1 + x.1) = .ok (x.2.1, x.2.2) := by decide +kernel
theorem kd_L_law_5 : ∀ z ∈ ([(320, 1, 6), (322, 33, 15), (337, 53, 2158), (340, 4, 1), (341, 4, 0), (342, 1, 5), (344, 15, 1), (345, 25, 0), (346, 56, 0), (347, 4, 0), (348, 1, 5), (350, 15, 2), (351, 25, 0), (352, 56, 0), (353, 4, 3), (354, 201, 7), (357, 8, 6), (359, 4, 2), (360, 4, 0), (361, 1, 5), (363, 15, 1), (364, 25, 0), (365, 56, 0), (366, 4, 0), (367, 1, 5), (369, 15, 2), (370, 25, 0), (371, 56, 0), (372, 201, 8), (375, 8, 7), (377, 4, 2), (378, 201, 4), (381, 1, 6), (383, 38, 5)] : List (Nat × Nat × Int)), ∀ x ∈ dkAll 6 z.2.1 z.2.2, decode code (z.1 + x.1) = .ok (x.2.1, x.2.2) := by decide +kernel
theorem kd_L_law_6 : ∀ z ∈ ([(388, 1, 6), (390, 33, 22), (393, 4, 3), (394, 15, 0), (395, 57, 0), (396, 1, 7), (398, 32, 7), (401, 18, 1), (402, 53, 4), (405, 18, 0), (406, 44, 5), (412, 53, 2083), (415, 4, 1), (416, 4, 0), (417, 1, 5), (419, 15, 1), (420, 25, 0), (421, 56, 0), (422, 4, 3), (423, 201, 9), (426, 8, 6), (428, 4, 2), (429, 4, 0), (430, 1, 5), (432, 15, 1), (433, 25, 0), (434, 56, 0), (435, 201, 10), (438, 8, 7), (440, 4, 2), (441, 201, 4), (444, 1, 6), (446, 38, 5)] : List (Nat × Nat × Int)), ∀ x ∈ dkAll 6 z.2.1 z.2.2, decode code (z.1 + x.1) = .ok (x.2.1, x.2.2) := by decide +kernel
theorem kd_L_law_7 : ∀ z ∈ ([(451, 1, 6), (453, 33, 15), (456, 4, 3), (457, 15, 0), (458, 57, 0), (459, 1, 7), (461, 30, 0), (462, 44, 5), (468, 53, 2027), (471, 4, 1), (472, 4, 0), (473, 1, 5), (475, 15, 1), (476, 25, 0), (477, 56, 0), (478, 4, 0), (479, 1, 5), (481, 15, 2), (482, 25, 0), (483, 56, 0), (484, 4, 0), (485, 1, 5), (487, 15, 3), (488, 25, 0), (489, 56, 0), (490, 4, 3), (491, 201, 11), (494, 8, 6), (496, 4, 2), (497, 4, 0), (498, 1, 5), (500, 15, 1), (501, 25, 0), (502, 56, 0), (503, 4, 0), (504, 1, 5), (506, 15, 2), (507, 25, 0), (508, 56, 0), (509, 4, 0), (510, 1, 5)] : List (Nat × Nat × Int)), ∀ x ∈ dkAll 6 z.2.1 z.2.2, decode code (z.1 + x.1) = .ok (x.2.1, x.2.2) := by decide +kernel
theorem kd_L_law_8 : ∀ z ∈ ([(512, 15, 3), (513, 25, 0), (514, 56, 0), (515, 201, 12), (518, 8, 7), (520, 4, 2), (521, 201, 4), (524, 1, 6), (526, 38, 5), (531, 1, 6), (533, 33, 15), (548, 53, 1947), (551, 4, 1), (552, 4, 0), (553, 1, 5), (555, 15, 1), (556, 25, 0), (557, 56, 0), (558, 4, 0), (559, 1, 5), (561, 15, 2), (562, 25, 0), (563, 56, 0), (564, 4, 3), (565, 201, 13), (568, 8, 6), (570, 4, 2), (571, 4, 0), (572, 1, 5), (574, 15, 1), (575, 25, 0)] : List (Nat × Nat × Int)), ∀ x ∈ dkAll 6 z.2.1 z.2.2, decode code (z.1 + x.1) = .ok (x.2.1, x.2.2) := by decide +kernel
theorem kd_L_law_9 : ∀ z ∈ ([(576, 56, 0), (577, 4, 0), (578, 1, 5), (580, 15, 2), (581, 25, 0), (582, 56, 0), (583, 201, 14), (586, 8, 7), (588, 4, 2), (589, 201, 4), (592, 1, 6), (594, 38, 5), (599, 1, 6), (601, 33, 15), (616, 53, 1879), (619, 4, 1), (620, 4, 0), (621, 1, 5), (623, 15, 1), (624, 25, 0), (625, 56, 0), (626, 4, 3), (627, 201, 15), (630, 8, 6), (632, 4, 2), (633, 4, 0), (634, 1, 5), (636, 15, 1), (637, 25, 0), (638, 56, 0), (639, 201, 16)] : List (Nat × Nat × Int)), ∀ x ∈ dkAll 6 z.2.1 z.2.2, decode code (z.1 + x.1) = .ok (x.2.1, x.2.2) := by decide +kernel
theorem kd_L_law_10 : ∀ z ∈ ([(642, 8, 7), (644, 4, 2), (645, 201, 4), (648, 1, 6), (650, 38, 5), (655, 1, 6), (657, 33, 15), (672, 53, 1823), (675, 4, 1), (676, 4, 0), (677, 1, 5), (679, 15, 1), (680, 25, 0), (681, 56, 0), (682, 4, 0), (683, 1, 5), (685, 15, 2), (686, 25, 0), (687, 56, 0), (688, 4, 0), (689, 1, 5), (691, 15, 3), (692, 25, 0), (693, 56, 0), (694, 32, 7), (697, 15, 1), (698, 53, 4), (701, 15, 0), (702, 4, 3), (703, 201, 17)] : List (Nat × Nat × Int)), ∀ x ∈ dkAll 6 z.2.1 z.2.2, decode code (z.1 + x.1) = .ok (x.2.1, x.2.2) := by decide +kernel
theorem kd_L_law_11 : ∀ z ∈ ([(706, 8, 6), (708, 4, 2), (709, 4, 0), (710, 1, 5), (712, 15, 1), (713, 25, 0), (714, 56, 0), (715, 4, 0), (716, 1, 5), (718, 15, 2), (719, 25, 0), (720, 56, 0), (721, 4, 0), (722, 1, 5), (724, 15, 3), (725, 25, 0), (726, 56, 0), (727, 32, 7), (730, 15, 1), (731, 53, 4), (734, 15, 0), (735, 201, 18), (738, 8, 7), (740, 4, 2), (741, 201, 4), (744, 1, 6), (746, 38, 5), (751, 1, 6), (753, 33, 22)] : List (Nat × Nat × Int)), ∀ x ∈ dkAll 6 z.2.1 z.2.2, decode code (z.1 + x.1) = .ok (x.2.1, x.2.2) := by decide +kernel
theorem kd_L_law_12 : ∀ z ∈ ([(775, 53, 1720), (778, 4, 1), (779, 4, 0), (780, 1, 5), (782, 15, 1), (783, 25, 0), (784, 56, 0), (785, 4, 3), (786, 201, 19), (789, 8, 6), (791, 4, 2), (792, 4, 0), (793, 1, 5), (795, 15, 1), (796, 25, 0), (797, 56, 0), (798, 201, 20), (801, 8, 7), (803, 4, 2), (804, 201, 4), (807, 1, 6), (809, 38, 5), (814, 1, 6), (816, 33, 15), (831, 53, 1664)] : List (Nat × Nat × Int)), ∀ x ∈ dkAll 6 z.2.1 z.2.2, decode code (z.1 + x.1) = .ok (x.2.1, x.2.2) := by decide +kernel
theorem kd_L_law_13 : ∀ z ∈ ([(834, 4, 1), (835, 4, 0), (836, 1, 5), (838, 15, 1), (839, 25, 0), (840, 56, 0), (841, 4, 0), (842, 1, 5), (844, 15, 2), (845, 25, 0), (846, 56, 0), (847, 4, 3), (848, 201, 21), (851, 8, 6), (853, 4, 2), (854, 4, 0), (855, 1, 5), (857, 15, 1), (858, 25, 0), (859, 56, 0), (860, 4, 0), (861, 1, 5), (863, 15, 2), (864, 25, 0), (865, 56, 0), (866, 201, 22), (869, 8, 7), (871, 4, 2), (872, 201, 4), (875, 1, 6), (877, 38, 5), (882, 1, 6), (884, 33, 15)] : List (Nat × Nat × Int)), ∀ x ∈ dkAll 6 z.2.1 z.2.2, decode code (z.1 + x.1) = .ok (x.2.1, x.2.2) := by decide +kernel
theorem kd_L_law_14 : ∀ z ∈ ([(899, 53, 1596), (902, 4, 1), (903, 4, 0), (904, 1, 5), (906, 15, 1), (907, 25, 0), (908, 56, 0), (909, 4, 0), (910, 1, 5), (912, 15, 2), (913, 25, 0), (914, 56, 0), (915, 31, 0), (916, 4, 3), (917, 201, 23), (920, 8, 6), (922, 4, 2), (923, 4, 0), (924, 1, 5), (926, 15, 1), (927, 25, 0), (928, 56, 0), (929, 4, 0), (930, 1, 5), (932, 15, 2), (933, 25, 0), (934, 56, 0), (935, 31, 0), (936, 201, 24), (939, 8, 7), (941, 4, 2), (942, 201, 4), (945, 1, 6), (947, 38, 5), (952, 1, 6), (954, 33, 15)] : List (Nat × Nat × Int)), ∀ x ∈ dkAll 6 z.2.1 z.2.2, decode code (z.1 + x.1) = .ok (x.2.1, x.2.2) := by decide +kernel
theorem kd_L_law_15 : ∀ z ∈ ([(969, 53, 1526), (972, 4, 1), (973, 4, 0), (974, 1, 5), (976, 15, 1), (977, 25, 0), (978, 56, 0), (979, 4, 3), (980, 201, 25), (983, 8, 6), (985, 4, 2), (986, 4, 0), (987, 1, 5), (989, 15, 1), (990, 25, 0), (991, 56, 0), (992, 201, 26), (995, 8, 7), (997, 4, 2), (998, 201, 4), (1001, 1, 6), (1003, 38, 5), (1008, 1, 6), (1010, 33, 15)] : List (Nat × Nat × Int)), ∀ x ∈ dkAll 6 z.2.1 z.2.2, decode code (z.1 + x.1) = .ok (x.2.1, x.2.2) := by decide +kernel
theorem kd_L_law_16 : ∀ z ∈ ([(1025, 53, 1470), (1028, 4, 1), (1029, 4, 0), (1030, 1, 5), (1032, 15, 1), (1033, 25, 0), (1034, 56, 0), (1035, 4, 0), (1036, 1, 5), (1038, 15, 2), (1039, 25, 0), (1040, 56, 0), (1041, 32, 7), (1044, 15, 1), (1045, 53, 4), (1048, 15, 0), (1049, 4, 0), (1050, 1, 5), (1052, 15, 3), (1053, 25, 0), (1054, 56, 0), (1055, 4, 3), (1056, 201, 27), (1059, 8, 6), (1061, 4, 2), (1062, 4, 0), (1063, 1, 5), (1065, 15, 1), (1066, 25, 0), (1067, 56, 0), (1068, 4, 0), (1069, 1, 5), (1071, 15, 2), (1072, 25, 0), (1073, 56, 0), (1074, 32, 7), (1077, 15, 1), (1078, 53, 4), (1081, 15, 0), (1082, 4, 0), (1083, 1, 5), (1085, 15, 3), (1086, 25, 0), (1087, 56, 0)] : List (Nat × Nat × Int)), ∀ x ∈ dkAll 6 z.2.1 z.2.2, decode code (z.1 + x.1) = .ok (x.2.1, x.2.2) := by decide +kernel
theorem kd_L_law_17 : ∀ z ∈ ([(1088, 201, 28), (1091, 8, 7), (1093, 4, 2), (1094, 201, 4), (1097, 1, 6), (1099, 38, 5), (1104, 1, 6), (1106, 33, 15), (1121, 53, 1374), (1124, 4, 1), (1125, 4, 0), (1126, 1, 5), (1128, 15, 1), (1129, 25, 0), (1130, 56, 0), (1131, 4, 3), (1132, 201, 29), (1135, 8, 6), (1137, 4, 2), (1138, 4, 0), (1139, 1, 5), (1141, 15, 1), (1142, 25, 0), (1143, 56, 0), (1144, 201, 30), (1147, 8, 7), (1149, 4, 2), (1150, 201, 4)] : List (Nat × Nat × Int)), ∀ x ∈ dkAll 6 z.2.1 z.2.2, decode code (z.1 + x.1) = .ok (x.2.1, x.2.2) := by decide +kernel
theorem kd_L_law_18 : ∀ z ∈ ([(1153, 1, 6), (1155, 38, 5), (1160, 1, 6), (1162, 33, 15), (1177, 53, 1318), (1180, 4, 1), (1181, 4, 0), (1182, 1, 5), (1184, 15, 1), (1185, 25, 0), (1186, 56, 0), (1187, 4, 3), (1188, 201, 31), (1191, 8, 6), (1193, 4, 2), (1194, 4, 0), (1195, 1, 5), (1197, 15, 1), (1198, 25, 0), (1199, 56, 0), (1200, 201, 32), (1203, 8, 7), (1205, 4, 2), (1206, 201, 4), (1209, 1, 6), (1211, 38, 5)] : List (Nat × Nat × Int)), ∀ x ∈ dkAll 6 z.2.1 z.2.2, decode code (z.1 + x.1) = .ok (x.2.1, x.2.2) := by decide +kernel
theorem kd_L_law_19 : ∀ z ∈ ([(1216, 1, 6), (1218, 33, 15), (1233, 53, 1262), (1236, 4, 1), (1237, 4, 0), (1238, 1, 5), (1240, 15, 1), (1241, 25, 0), (1242, 56, 0), (1243, 4, 0), (1244, 1, 5), (1246, 15, 2), (1247, 25, 0), (1248, 56, 0), (1249, 32, 7), (1252, 15, 1), (1253, 53, 4), (1256, 15, 0), (1257, 4, 3), (1258, 201, 33), (1261, 8, 6), (1263, 4, 2), (1264, 4, 0), (1265, 1, 5), (1267, 15, 1), (1268, 25, 0), (1269, 56, 0), (1270, 4, 0), (1271, 1, 5), (1273, 15, 2), (1274, 25, 0), (1275, 56, 0), (1276, 32, 7), (1279, 15, 1)] : List (Nat × Nat × Int)), ∀ x ∈ dkAll 6 z.2.1 z.2.2, decode code (z.1 + x.1) = .ok (x.2.1, x.2.2) := by decide +kernel
theorem kd_L_law_20 : ∀ z ∈ ([(1280, 53, 4), (1283, 15, 0), (1284, 201, 34), (1287, 8, 7), (1289, 4, 2), (1290, 201, 4), (1293, 1, 6), (1295, 38, 5), (1300, 1, 6), (1302, 33, 15), (1317, 53, 1178), (1320, 4, 1), (1321, 4, 0), (1322, 1, 5), (1324, 15, 1), (1325, 25, 0), (1326, 56, 0), (1327, 4, 0), (1328, 1, 5), (1330, 15, 2), (1331, 25, 0), (1332, 56, 0), (1333, 4, 3), (1334, 201, 35), (1337, 8, 6), (1339, 4, 2), (1340, 4, 0), (1341, 1, 5), (1343, 15, 1)] : List (Nat × Nat × Int)), ∀ x ∈ dkAll 6 z.2.1 z.2.2, decode code (z.1 + x.1) = .ok (x.2.1, x.2.2) := by decide +kernel
theorem kd_L_law_21 : ∀ z ∈ ([(1344, 25, 0), (1345, 56, 0), (1346, 4, 0), (1347, 1, 5), (1349, 15, 2), (1350, 25, 0), (1351, 56, 0), (1352, 201, 36), (1355, 8, 7), (1357, 4, 2), (1358, 201, 4), (1361, 1, 6), (1363, 38, 5), (1368, 1, 6), (1370, 33, 15), (1385, 53, 1110), (1388, 4, 1), (1389, 4, 3), (1390, 201, 37), (1393, 8, 6), (1395, 4, 2), (1396, 201, 38), (1399, 8, 7), (1401, 4, 2), (1402, 201, 4), (1405, 1, 6), (1407, 38, 5)] : List (Nat × Nat × Int)), ∀ x ∈ dkAll 6 z.2.1 z.2.2, decode code (z.1 + x.1) = .ok (x.2.1, x.2.2) := by decide +kernel
theorem kd_L_law_22 : ∀ z ∈ ([(1412, 1, 6), (1414, 33, 15), (1429, 53, 1066), (1432, 4, 1), (1433, 4, 0), (1434, 1, 5), (1436, 15, 1), (1437, 25, 0), (1438, 56, 0), (1439, 32, 7), (1442, 15, 1), (1443, 53, 4), (1446, 15, 0), (1447, 4, 3), (1448, 201, 39), (1451, 8, 6), (1453, 4, 2), (1454, 4, 0), (1455, 1, 5), (1457, 15, 1), (1458, 25, 0), (1459, 56, 0), (1460, 32, 7), (1463, 15, 1), (1464, 53, 4), (1467, 15, 0), (1468, 201, 40), (1471, 8, 7)] : List (Nat × Nat × Int)), ∀ x ∈ dkAll 6 z.2.1 z.2.2, decode code (z.1 + x.1) = .ok (x.2.1, x.2.2) := by decide +kernel
theorem kd_L_law_23 : ∀ z ∈ ([(1473, 4, 2), (1474, 201, 4), (1477, 1, 6), (1479, 38, 5), (1484, 1, 6), (1486, 33, 15), (1501, 53, 994), (1504, 4, 1), (1505, 4, 0), (1506, 1, 5), (1508, 15, 1), (1509, 25, 0), (1510, 56, 0), (1511, 4, 0), (1512, 1, 5), (1514, 15, 2), (1515, 25, 0), (1516, 56, 0), (1517, 32, 7), (1520, 15, 1), (1521, 53, 4), (1524, 15, 0), (1525, 4, 3), (1526, 201, 41), (1529, 8, 6), (1531, 4, 2), (1532, 4, 0), (1533, 1, 5), (1535, 15, 1)] : List (Nat × Nat × Int)), ∀ x ∈ dkAll 6 z.2.1 z.2.2, decode code (z.1 + x.1) = .ok (x.2.1, x.2.2) := by decide +kernel
theorem kd_L_law_24 : ∀ z ∈ ([(1536, 25, 0), (1537, 56, 0), (1538, 4, 0), (1539, 1, 5), (1541, 15, 2), (1542, 25, 0), (1543, 56, 0), (1544, 32, 7), (1547, 15, 1), (1548, 53, 4), (1551, 15, 0), (1552, 201, 42), (1555, 8, 7), (1557, 4, 2), (1558, 201, 4), (1561, 1, 6), (1563, 38, 5), (1568, 1, 6), (1570, 33, 22), (1592, 53, 903), (1595, 4, 1), (1596, 4, 3), (1597, 201, 43)] : List (Nat × Nat × Int)), ∀ x ∈ dkAll 6 z.2.1 z.2.2, decode code (z.1 + x.1) = .ok (x.2.1, x.2.2) := by decide +kernel
theorem kd_L_law_25 : ∀ z ∈ ([(1600, 8, 6), (1602, 4, 2), (1603, 201, 44), (1606, 8, 7), (1608, 4, 2), (1609, 201, 4), (1612, 1, 6), (1614, 38, 5), (1619, 1, 6), (1621, 33, 15), (1624, 4, 3), (1625, 15, 0), (1626, 57, 0), (1627, 1, 7), (1629, 30, 0), (1630, 44, 5), (1636, 53, 859), (1639, 4, 1), (1640, 4, 0), (1641, 1, 5), (1643, 15, 1), (1644, 25, 0), (1645, 56, 0), (1646, 4, 3), (1647, 201, 45), (1650, 8, 6), (1652, 4, 2), (1653, 4, 0), (1654, 1, 5), (1656, 15, 1), (1657, 25, 0), (1658, 56, 0), (1659, 201, 46), (1662, 8, 7)] : List (Nat × Nat × Int)), ∀ x ∈ dkAll 6 z.2.1 z.2.2, decode code (z.1 + x.1) = .ok (x.2.1, x.2.2) := by decide +kernel
theorem kd_L_law_26 : ∀ z ∈ ([(1664, 4, 2), (1665, 201, 4), (1668, 1, 6), (1670, 38, 5), (1675, 1, 6), (1677, 33, 15), (1692, 53, 803), (1695, 4, 1), (1696, 4, 0), (1697, 1, 5), (1699, 15, 1), (1700, 25, 0), (1701, 56, 0), (1702, 4, 3), (1703, 201, 47), (1706, 8, 6), (1708, 4, 2), (1709, 4, 0), (1710, 1, 5), (1712, 15, 1), (1713, 25, 0), (1714, 56, 0), (1715, 201, 48), (1718, 8, 7), (1720, 4, 2), (1721, 201, 4), (1724, 1, 6), (1726, 38, 5)] : List (Nat × Nat × Int)), ∀ x ∈ dkAll 6 z.2.1 z.2.2, decode code (z.1 + x.1) = .ok (x.2.1, x.2.2) := by decide +kernel
theorem kd_L_law_27 : ∀ z ∈ ([(1731, 1, 6), (1733, 33, 15), (1748, 53, 747), (1751, 4, 1), (1752, 4, 0), (1753, 1, 5), (1755, 15, 1), (1756, 25, 0), (1757, 56, 0), (1758, 4, 0), (1759, 1, 5), (1761, 15, 2), (1762, 25, 0), (1763, 56, 0), (1764, 32, 7), (1767, 15, 1), (1768, 53, 4), (1771, 15, 0), (1772, 4, 3), (1773, 201, 49), (1776, 8, 6), (1778, 4, 2), (1779, 4, 0), (1780, 1, 5), (1782, 15, 1), (1783, 25, 0), (1784, 56, 0), (1785, 4, 0), (1786, 1, 5), (1788, 15, 2), (1789, 25, 0), (1790, 56, 0), (1791, 32, 7)] : List (Nat × Nat × Int)), ∀ x ∈ dkAll 6 z.2.1 z.2.2, decode code (z.1 + x.1) = .ok (x.2.1, x.2.2) := by decide +kernel
theorem kd_L_law_28 : ∀ z ∈ ([(1794, 15, 1), (1795, 53, 4), (1798, 15, 0), (1799, 201, 50), (1802, 8, 7), (1804, 4, 2), (1805, 201, 4), (1808, 1, 6), (1810, 38, 5), (1815, 1, 6), (1817, 33, 22), (1839, 53, 656), (1842, 4, 1), (1843, 4, 0), (1844, 1, 5), (1846, 15, 1), (1847, 25, 0), (1848, 56, 0), (1849, 4, 3), (1850, 201, 51), (1853, 8, 6), (1855, 4, 2)] : List (Nat × Nat × Int)), ∀ x ∈ dkAll 6 z.2.1 z.2.2, decode code (z.1 + x.1) = .ok (x.2.1, x.2.2) := by decide +kernel
theorem kd_L_law_29 : ∀ z ∈ ([(1856, 4, 0), (1857, 1, 5), (1859, 15, 1), (1860, 25, 0), (1861, 56, 0), (1862, 201, 52), (1865, 8, 7), (1867, 4, 2), (1868, 201, 4), (1871, 1, 6), (1873, 38, 5), (1878, 1, 6), (1880, 33, 15), (1895, 53, 600), (1898, 4, 1), (1899, 4, 0), (1900, 1, 5), (1902, 15, 1), (1903, 25, 0), (1904, 56, 0), (1905, 4, 0), (1906, 1, 5), (1908, 15, 2), (1909, 25, 0), (1910, 56, 0), (1911, 4, 3), (1912, 201, 53), (1915, 8, 6), (1917, 4, 2), (1918, 4, 0), (1919, 1, 5)] : List (Nat × Nat × Int)), ∀ x ∈ dkAll 6 z.2.1 z.2.2, decode code (z.1 + x.1) = .ok (x.2.1, x.2.2) := by decide +kernel
theorem kd_L_law_30 : ∀ z ∈ ([(1921, 15, 1), (1922, 25, 0), (1923, 56, 0), (1924, 4, 0), (1925, 1, 5), (1927, 15, 2), (1928, 25, 0), (1929, 56, 0), (1930, 201, 54), (1933, 8, 7), (1935, 4, 2), (1936, 201, 4), (1939, 1, 6), (1941, 38, 5), (1946, 1, 6), (1948, 33, 15), (1963, 53, 532), (1966, 4, 1), (1967, 4, 0), (1968, 1, 5), (1970, 15, 1), (1971, 25, 0), (1972, 56, 0), (1973, 4, 0), (1974, 1, 5), (1976, 15, 2), (1977, 25, 0), (1978, 56, 0), (1979, 32, 7), (1982, 15, 1), (1983, 53, 4)] : List (Nat × Nat × Int)), ∀ x ∈ dkAll 6 z.2.1 z.2.2, decode code (z.1 + x.1) = .ok (x.2.1, x.2.2) := by decide +kernel
theorem kd_L_law_31 : ∀ z ∈ ([(1986, 15, 0), (1987, 4, 3), (1988, 201, 55), (1991, 8, 6), (1993, 4, 2), (1994, 4, 0), (1995, 1, 5), (1997, 15, 1), (1998, 25, 0), (1999, 56, 0), (2000, 4, 0), (2001, 1, 5), (2003, 15, 2), (2004, 25, 0), (2005, 56, 0), (2006, 32, 7), (2009, 15, 1), (2010, 53, 4), (2013, 15, 0), (2014, 201, 56), (2017, 8, 7), (2019, 4, 2), (2020, 201, 4), (2023, 1, 6), (2025, 38, 5), (2030, 1, 6), (2032, 33, 22)] : List (Nat × Nat × Int)), ∀ x ∈ dkAll 6 z.2.1 z.2.2, decode code (z.1 + x.1) = .ok (x.2.1, x.2.2) := by decide +kernel
theorem kd_L_law_32 : ∀ z ∈ ([(2054, 53, 441), (2057, 4, 1), (2058, 4, 0), (2059, 1, 5), (2061, 15, 1), (2062, 25, 0), (2063, 56, 0), (2064, 4, 0), (2065, 1, 5), (2067, 15, 2), (2068, 25, 0), (2069, 56, 0), (2070, 4, 3), (2071, 201, 57), (2074, 8, 6), (2076, 4, 2), (2077, 4, 0), (2078, 1, 5), (2080, 15, 1), (2081, 25, 0), (2082, 56, 0), (2083, 4, 0), (2084, 1, 5), (2086, 15, 2), (2087, 25, 0), (2088, 56, 0), (2089, 201, 58), (2092, 8, 7), (2094, 4, 2), (2095, 201, 4), (2098, 1, 6), (2100, 38, 5), (2105, 1, 6), (2107, 33, 15)] : List (Nat × Nat × Int)), ∀ x ∈ dkAll 6 z.2.1 z.2.2, decode code (z.1 + x.1) = .ok (x.2.1, x.2.2) := by decide +kernel
theorem kd_L_law_33 : ∀ z ∈ ([(2122, 53, 373), (2125, 4, 1), (2126, 4, 0), (2127, 1, 5), (2129, 15, 1), (2130, 25, 0), (2131, 56, 0), (2132, 4, 3), (2133, 201, 59), (2136, 8, 6), (2138, 4, 2), (2139, 4, 0), (2140, 1, 5), (2142, 15, 1), (2143, 25, 0), (2144, 56, 0), (2145, 201, 60), (2148, 8, 7), (2150, 4, 2), (2151, 201, 4), (2154, 1, 6), (2156, 38, 5), (2161, 1, 6), (2163, 33, 15)] : List (Nat × Nat × Int)), ∀ x ∈ dkAll 6 z.2.1 z.2.2, decode code (z.1 + x.1) = .ok (x.2.1, x.2.2) := by decide +kernel
theorem kd_L_law_34 : ∀ z ∈ ([(2178, 53, 317), (2181, 4, 1), (2182, 4, 0), (2183, 1, 5), (2185, 15, 1), (2186, 25, 0), (2187, 56, 0), (2188, 4, 3), (2189, 201, 61), (2192, 8, 6), (2194, 4, 2), (2195, 4, 0), (2196, 1, 5), (2198, 15, 1), (2199, 25, 0), (2200, 56, 0), (2201, 201, 62), (2204, 8, 7), (2206, 4, 2), (2207, 201, 4), (2210, 1, 6), (2212, 38, 5), (2217, 1, 6), (2219, 33, 15), (2234, 53, 261), (2237, 4, 1), (2238, 4, 0), (2239, 1, 5)] : List (Nat × Nat × Int)), ∀ x ∈ dkAll 6 z.2.1 z.2.2, decode code (z.1 + x.1) = .ok (x.2.1, x.2.2) := by decide +kernel
theorem kd_L_law_35 : ∀ z ∈ ([(2241, 15, 1), (2242, 25, 0), (2243, 56, 0), (2244, 4, 3), (2245, 201, 63), (2248, 8, 6), (2250, 4, 2), (2251, 4, 0), (2252, 1, 5), (2254, 15, 1), (2255, 25, 0), (2256, 56, 0), (2257, 201, 64), (2260, 8, 7), (2262, 4, 2), (2263, 201, 4), (2266, 1, 6), (2268, 38, 5), (2273, 1, 6), (2275, 33, 15), (2290, 53, 205), (2293, 4, 1), (2294, 4, 3), (2295, 201, 65), (2298, 8, 6), (2300, 4, 2), (2301, 201, 66)] : List (Nat × Nat × Int)), ∀ x ∈ dkAll 6 z.2.1 z.2.2, decode code (z.1 + x.1) = .ok (x.2.1, x.2.2) := by decide +kernel
theorem kd_L_law_36 : ∀ z ∈ ([(2304, 8, 7), (2306, 4, 2), (2307, 201, 4), (2310, 1, 6), (2312, 38, 5), (2317, 1, 6), (2319, 33, 15), (2322, 4, 3), (2323, 15, 0), (2324, 57, 0), (2325, 1, 7), (2327, 30, 0), (2328, 44, 5), (2334, 53, 161), (2337, 4, 1), (2338, 201, 67), (2341, 4, 2), (2342, 201, 68), (2345, 44, 149), (2351, 4, 1), (2352, 5, 4), (2354, 201, 69), (2357, 8, 6), (2359, 4, 2), (2360, 201, 70), (2363, 13, 7), (2365, 4, 2), (2366, 201, 4)] : List (Nat × Nat × Int)), ∀ x ∈ dkAll 6 z.2.1 z.2.2, decode code (z.1 + x.1) = .ok (x.2.1, x.2.2) := by decide +kernel
theorem kd_L_law_37 : ∀ z ∈ ([(2369, 1, 6), (2371, 38, 5), (2376, 1, 6), (2378, 33, 36), (2414, 53, 81), (2417, 4, 1), (2418, 5, 4), (2420, 201, 71), (2423, 8, 6), (2425, 4, 2), (2426, 201, 72), (2429, 14, 7), (2431, 4, 2)] : List (Nat × Nat × Int)), ∀ x ∈ dkAll 6 z.2.1 z.2.2, decode code (z.1 + x.1) = .ok (x.2.1, x.2.2) := by decide +kernel
theorem kd_L_law_38 : ∀ z ∈ ([(2432, 201, 4), (2435, 1, 6), (2437, 38, 5), (2442, 1, 6), (2444, 33, 35), (2479, 53, 16), (2482, 4, 1), (2483, 201, 73), (2486, 4, 2), (2487, 201, 74), (2490, 38, 5), (2495, 29, 5504)] : List (Nat × Nat × Int)), ∀ x ∈ dkAll 6 z.2.1 z.2.2, decode code (z.1 + x.1) = .ok (x.2.1, x.2.2) := by decide +kernel
theorem kd_L_law_39 : ∀ z ∈ ([(2498, 53, -2470), (2501, 15, 1), (2502, 200, 0)] : List (Nat × Nat × Int)), ∀ x ∈ dkAll 6 z.2.1 z.2.2, decode code (z.1 + x.1) = .ok (x.2.1, x.2.2) := by decide +kernel
theorem kd_L_law : rDec 0 6 code := fun bs h => by
  cases (show codeT[0]? = some k_L_law from rfl).symm.trans h
  exact (List.forall_mem_cons.mpr ⟨kd_L_law_0, List.forall_mem_cons.mpr ⟨kd_L_law_1, List.forall_mem_cons.mpr ⟨kd_L_law_2, List.forall_mem_cons.mpr ⟨kd_L_law_3, List.forall_mem_cons.mpr ⟨kd_L_law_4, List.forall_mem_cons.mpr ⟨kd_L_law_5, List.forall_mem_cons.mpr ⟨kd_L_law_6, List.forall_mem_cons.mpr ⟨kd_L_law_7, List.forall_mem_cons.mpr ⟨kd_L_law_8, List.forall_mem_cons.mpr ⟨kd_L_law_9, List.forall_mem_cons.mpr ⟨kd_L_law_10, List.forall_mem_cons.mpr ⟨kd_L_law_11, List.forall_mem_cons.mpr ⟨kd_L_law_12, List.forall_mem_cons.mpr ⟨kd_L_law_13, List.forall_mem_cons.mpr ⟨kd_L_law_14, List.forall_mem_cons.mpr ⟨kd_L_law_15, List.forall_mem_cons.mpr ⟨kd_L_law_16, List.forall_mem_cons.mpr ⟨kd_L_law_17, List.forall_mem_cons.mpr ⟨kd_L_law_18, List.forall_mem_cons.mpr ⟨kd_L_law_19, List.forall_mem_cons.mpr ⟨kd_L_law_20, List.forall_mem_cons.mpr ⟨kd_L_law_21, List.forall_mem_cons.mpr ⟨kd_L_law_22, List.forall_mem_cons.mpr ⟨kd_L_law_23, List.forall_mem_cons.mpr ⟨kd_L_law_24, List.forall_mem_cons.mpr ⟨kd_L_law_25, List.forall_mem_cons.mpr ⟨kd_L_law_26, List.forall_mem_cons.mpr ⟨kd_L_law_27, List.forall_mem_cons.mpr ⟨kd_L_law_28, List.forall_mem_cons.mpr ⟨kd_L_law_29, List.forall_mem_cons.mpr ⟨kd_L_law_30, List.forall_mem_cons.mpr ⟨kd_L_law_31, List.forall_mem_cons.mpr ⟨kd_L_law_32, List.forall_mem_cons.mpr ⟨kd_L_law_33, List.forall_mem_cons.mpr ⟨kd_L_law_34, List.forall_mem_cons.mpr ⟨kd_L_law_35, List.forall_mem_cons.mpr ⟨kd_L_law_36, List.forall_mem_cons.mpr ⟨kd_L_law_37, List.forall_mem_cons.mpr ⟨kd_L_law_38, List.forall_mem_cons.mpr ⟨kd_L_law_39, fun _ h => absurd h List.not_mem_nil⟩⟩⟩⟩⟩⟩⟩⟩⟩⟩⟩⟩⟩⟩⟩⟩⟩⟩⟩⟩⟩⟩⟩⟩⟩⟩⟩⟩⟩⟩⟩⟩⟩⟩⟩⟩⟩⟩⟩⟩ : ∀ bl ∈ k_L_law, ∀ z ∈ bl, ∀ x ∈ dkAll 6 z.2.1 z.2.2, decode code (z.1 + x.1) = .ok (x.2.1, x.2.2))
theorem kd_J7_fill_53178_0 : ∀ z ∈ ([(0, 15, 0), (1, 7, 2), (2, 4, 0), (3, 61, 0), (4, 7, 3), (5, 0, 2), (6, 0, 3), (7, 41, 13), (10, 4, 0), (11, 0, 2), (12, 0, 1), (13, 58, 0), (14, 29, 2501), (17, 53, -12), (20, 200, 0)] : List (Nat × Nat × Int)), ∀ x ∈ dkAll 0 z.2.1 z.2.2, decode cJ7_fill_53178 (z.1 + x.1) = .ok (x.2.1, x.2.2) := by decide +kernel
theorem kd_J7_fill_53178 : rDec 1 0 cJ7_fill_53178 := fun bs h => by
  cases (show codeT[1]? = some k_J7_fill_53178 from rfl).symm.trans h
  exact (List.forall_mem_cons.mpr ⟨kd_J7_fill_53178_0, fun _ h => absurd h List.not_mem_nil⟩ : ∀ bl ∈ k_J7_fill_53178, ∀ z ∈ bl, ∀ x ∈ dkAll 0 z.2.1 z.2.2, decode cJ7_fill_53178 (z.1 + x.1) = .ok (x.2.1, x.2.2))
theorem kd_Jx35411_hasNext_aae02_0 : ∀ z ∈ ([(0, 4, 0), (1, 70, 0), (4, 4, 0), (5, 70, 1), (8, 71, 0), (11, 38, 7), (18, 15, 0), (19, 200, 0)] : List (Nat × Nat × Int)), ∀ x ∈ dkAll 6 z.2.1 z.2.2, decode cJx35411_hasNext_aae02 (z.1 + x.1) = .ok (x.2.1, x.2.2) := by decide +kernel
theorem kd_Jx35411_hasNext_aae02 : rDec 2 6 cJx35411_hasNext_aae02 := fun bs h => by
  cases (show codeT[2]? = some k_Jx35411_hasNext_aae02 from rfl).symm.trans h
  exact (List.forall_mem_cons.mpr ⟨kd_Jx35411_hasNext_aae02_0, fun _ h => absurd h List.not_mem_nil⟩ : ∀ bl ∈ k_Jx35411_hasNext_aae02, ∀ z ∈ bl, ∀ x ∈ dkAll 6 z.2.1 z.2.2, decode cJx35411_hasNext_aae02 (z.1 + x.1) = .ok (x.2.1, x.2.2))
theorem kd_Jx35411_init_45d68_0 : ∀ z ∈ ([(0, 4, 0), (1, 4, 1), (2, 73, 1), (5, 4, 0), (6, 75, 0), (9, 4, 0), (10, 15, -1), (11, 72, 2), (14, 4, 0), (15, 4, 0), (16, 70, 1), (19, 70, 3), (22, 72, 4), (25, 200, 0)] : List (Nat × Nat × Int)), ∀ x ∈ dkAll 0 z.2.1 z.2.2, decode cJx35411_init_45d68 (z.1 + x.1) = .ok (x.2.1, x.2.2) := by decide +kernel
theorem kd_Jx35411_init_45d68 : rDec 3 0 cJx35411_init_45d68 := fun bs h => by
  cases (show codeT[3]? = some k_Jx35411_init_45d68 from rfl).symm.trans h
  exact (List.forall_mem_cons.mpr ⟨kd_Jx35411_init_45d68_0, fun _ h => absurd h List.not_mem_nil⟩ : ∀ bl ∈ k_Jx35411_init_45d68, ∀ z ∈ bl, ∀ x ∈ dkAll 0 z.2.1 z.2.2, decode cJx35411_init_45d68 (z.1 + x.1) = .ok (x.2.1, x.2.2))
theorem kd_Jx4a65c_add_72be8_0 : ∀ z ∈ ([(0, 0, 3), (1, 4, 2), (2, 62, 0), (3, 39, 8), (6, 4, 0), (7, 201, 75), (10, 9, 2), (11, 4, 2), (12, 0, 3), (13, 4, 1), (14, 60, 0), (15, 4, 0), (16, 0, 3), (17, 15, 1), (18, 25, 0), (19, 72, 5), (22, 200, 0)] : List (Nat × Nat × Int)), ∀ x ∈ dkAll 0 z.2.1 z.2.2, decode cJx4a65c_add_72be8 (z.1 + x.1) = .ok (x.2.1, x.2.2) := by decide +kernel
theorem kd_Jx4a65c_add_72be8 : rDec 4 0 cJx4a65c_add_72be8 := fun bs h => by
  cases (show codeT[4]? = some k_Jx4a65c_add_72be8 from rfl).symm.trans h
  exact (List.forall_mem_cons.mpr ⟨kd_Jx4a65c_add_72be8_0, fun _ h => absurd h List.not_mem_nil⟩ : ∀ bl ∈ k_Jx4a65c_add_72be8, ∀ z ∈ bl, ∀ x ∈ dkAll 0 z.2.1 z.2.2, decode cJx4a65c_add_72be8 (z.1 + x.1) = .ok (x.2.1, x.2.2))
theorem kd_Jx4a65c_add_9ea2d_0 : ∀ z ∈ ([(0, 4, 0), (1, 22, 0), (2, 70, 6), (5, 15, 1), (6, 25, 0), (7, 72, 6), (10, 4, 0), (11, 4, 1), (12, 4, 0), (13, 70, 7), (16, 4, 0), (17, 70, 5), (20, 201, 76), (23, 15, 1), (24, 200, 0)] : List (Nat × Nat × Int)), ∀ x ∈ dkAll 6 z.2.1 z.2.2, decode cJx4a65c_add_9ea2d (z.1 + x.1) = .ok (x.2.1, x.2.2) := by decide +kernel
theorem kd_Jx4a65c_add_9ea2d : rDec 5 6 cJx4a65c_add_9ea2d := fun bs h => by
  cases (show codeT[5]? = some k_Jx4a65c_add_9ea2d from rfl).symm.trans h
  exact (List.forall_mem_cons.mpr ⟨kd_Jx4a65c_add_9ea2d_0, fun _ h => absurd h List.not_mem_nil⟩ : ∀ bl ∈ k_Jx4a65c_add_9ea2d, ∀ z ∈ bl, ∀ x ∈ dkAll 6 z.2.1 z.2.2, decode cJx4a65c_add_9ea2d (z.1 + x.1) = .ok (x.2.1, x.2.2))
theorem kd_Jx4a65c_clear_da8c8_0 : ∀ z ∈ ([(0, 4, 0), (1, 22, 0), (2, 70, 6), (5, 15, 1), (6, 25, 0), (7, 72, 6), (10, 4, 0), (11, 70, 7), (14, 9, 1), (15, 4, 0), (16, 70, 5), (19, 7, 2), (20, 4, 0), (21, 15, 0), (22, 23, 0), (23, 72, 5), (26, 7, 3), (27, 0, 3), (28, 0, 2), (29, 41, 13), (42, 200, 0)] : List (Nat × Nat × Int)), ∀ x ∈ dkAll 0 z.2.1 z.2.2, decode cJx4a65c_clear_da8c8 (z.1 + x.1) = .ok (x.2.1, x.2.2) := by decide +kernel
theorem kd_Jx4a65c_clear_da8c8 : rDec 6 0 cJx4a65c_clear_da8c8 := fun bs h => by
  cases (show codeT[6]? = some k_Jx4a65c_clear_da8c8 from rfl).symm.trans h
  exact (List.forall_mem_cons.mpr ⟨kd_Jx4a65c_clear_da8c8_0, fun _ h => absurd h List.not_mem_nil⟩ : ∀ bl ∈ k_Jx4a65c_clear_da8c8, ∀ z ∈ bl, ∀ x ∈ dkAll 0 z.2.1 z.2.2, decode cJx4a65c_clear_da8c8 (z.1 + x.1) = .ok (x.2.1, x.2.2))
theorem kd_Jx4a65c_grow_92f84_0 : ∀ z ∈ ([(0, 4, 0), (1, 70, 7), (4, 62, 0), (5, 7, 2), (6, 0, 2), (7, 36, 13), (10, 4, 0), (11, 70, 7), (14, 74, 0), (17, 50, 28), (45, 4, 0), (46, 16, 10), (48, 0, 1), (49, 76, 0), (52, 68, 0), (55, 23, 0), (56, 72, 7), (59, 200, 0)] : List (Nat × Nat × Int)), ∀ x ∈ dkAll 3 z.2.1 z.2.2, decode cJx4a65c_grow_92f84 (z.1 + x.1) = .ok (x.2.1, x.2.2) := by decide +kernel
theorem kd_Jx4a65c_grow_92f84 : rDec 7 3 cJx4a65c_grow_92f84 := fun bs h => by
  cases (show codeT[7]? = some k_Jx4a65c_grow_92f84 from rfl).symm.trans h
  exact (List.forall_mem_cons.mpr ⟨kd_Jx4a65c_grow_92f84_0, fun _ h => absurd h List.not_mem_nil⟩ : ∀ bl ∈ k_Jx4a65c_grow_92f84, ∀ z ∈ bl, ∀ x ∈ dkAll 3 z.2.1 z.2.2, decode cJx4a65c_grow_92f84 (z.1 + x.1) = .ok (x.2.1, x.2.2))
theorem kd_Jx4a65c_grow_d5877_0 : ∀ z ∈ ([(0, 4, 0), (1, 4, 0), (2, 70, 5), (5, 15, 1), (6, 25, 0), (7, 201, 77), (10, 200, 0)] : List (Nat × Nat × Int)), ∀ x ∈ dkAll 3 z.2.1 z.2.2, decode cJx4a65c_grow_d5877 (z.1 + x.1) = .ok (x.2.1, x.2.2) := by decide +kernel
theorem kd_Jx4a65c_grow_d5877 : rDec 8 3 cJx4a65c_grow_d5877 := fun bs h => by
  cases (show codeT[8]? = some k_Jx4a65c_grow_d5877 from rfl).symm.trans h
  exact (List.forall_mem_cons.mpr ⟨kd_Jx4a65c_grow_d5877_0, fun _ h => absurd h List.not_mem_nil⟩ : ∀ bl ∈ k_Jx4a65c_grow_d5877, ∀ z ∈ bl, ∀ x ∈ dkAll 3 z.2.1 z.2.2, decode cJx4a65c_grow_d5877 (z.1 + x.1) = .ok (x.2.1, x.2.2))
theorem kd_Jx4a65c_init_da8c8_0 : ∀ z ∈ ([(0, 4, 0), (1, 201, 78), (4, 4, 0), (5, 74, 0), (8, 72, 7), (11, 200, 0)] : List (Nat × Nat × Int)), ∀ x ∈ dkAll 0 z.2.1 z.2.2, decode cJx4a65c_init_da8c8 (z.1 + x.1) = .ok (x.2.1, x.2.2) := by decide +kernel
theorem kd_Jx4a65c_init_da8c8 : rDec 9 0 cJx4a65c_init_da8c8 := fun bs h => by
  cases (show codeT[9]? = some k_Jx4a65c_init_da8c8 from rfl).symm.trans h
  exact (List.forall_mem_cons.mpr ⟨kd_Jx4a65c_init_da8c8_0, fun _ h => absurd h List.not_mem_nil⟩ : ∀ bl ∈ k_Jx4a65c_init_da8c8, ∀ z ∈ bl, ∀ x ∈ dkAll 0 z.2.1 z.2.2, decode cJx4a65c_init_da8c8 (z.1 + x.1) = .ok (x.2.1, x.2.2))
theorem kd_Jx4a65c_isEmpty_aae02_0 : ∀ z ∈ ([(0, 4, 0), (1, 70, 5), (4, 33, 7), (7, 15, 1), (8, 53, 4), (12, 200, 0)] : List (Nat × Nat × Int)), ∀ x ∈ dkAll 6 z.2.1 z.2.2, decode cJx4a65c_isEmpty_aae02 (z.1 + x.1) = .ok (x.2.1, x.2.2) := by decide +kernel
theorem kd_Jx4a65c_isEmpty_aae02 : rDec 10 6 cJx4a65c_isEmpty_aae02 := fun bs h => by
  cases (show codeT[10]? = some k_Jx4a65c_isEmpty_aae02 from rfl).symm.trans h
  exact (List.forall_mem_cons.mpr ⟨kd_Jx4a65c_isEmpty_aae02_0, fun _ h => absurd h List.not_mem_nil⟩ : ∀ bl ∈ k_Jx4a65c_isEmpty_aae02, ∀ z ∈ bl, ∀ x ∈ dkAll 6 z.2.1 z.2.2, decode cJx4a65c_isEmpty_aae02 (z.1 + x.1) = .ok (x.2.1, x.2.2))
theorem kd_Jx4a65c_iterator_32c93_0 : ∀ z ∈ ([(0, 69, 2), (3, 22, 0), (4, 4, 0), (5, 201, 79), (8, 200, 0)] : List (Nat × Nat × Int)), ∀ x ∈ dkAll 3 z.2.1 z.2.2, decode cJx4a65c_iterator_32c93 (z.1 + x.1) = .ok (x.2.1, x.2.2) := by decide +kernel
theorem kd_Jx4a65c_iterator_32c93 : rDec 11 3 cJx4a65c_iterator_32c93 := fun bs h => by
  cases (show codeT[11]? = some k_Jx4a65c_iterator_32c93 from rfl).symm.trans h
  exact (List.forall_mem_cons.mpr ⟨kd_Jx4a65c_iterator_32c93_0, fun _ h => absurd h List.not_mem_nil⟩ : ∀ bl ∈ k_Jx4a65c_iterator_32c93, ∀ z ∈ bl, ∀ x ∈ dkAll 3 z.2.1 z.2.2, decode cJx4a65c_iterator_32c93 (z.1 + x.1) = .ok (x.2.1, x.2.2))
theorem kd_Jx4a65c_size_8abf5_0 : ∀ z ∈ ([(0, 4, 0), (1, 70, 5), (4, 200, 0)] : List (Nat × Nat × Int)), ∀ x ∈ dkAll 1 z.2.1 z.2.2, decode cJx4a65c_size_8abf5 (z.1 + x.1) = .ok (x.2.1, x.2.2) := by decide +kernel
theorem kd_Jx4a65c_size_8abf5 : rDec 12 1 cJx4a65c_size_8abf5 := fun bs h => by
  cases (show codeT[12]? = some k_Jx4a65c_size_8abf5 from rfl).symm.trans h
  exact (List.forall_mem_cons.mpr ⟨kd_Jx4a65c_size_8abf5_0, fun _ h => absurd h List.not_mem_nil⟩ : ∀ bl ∈ k_Jx4a65c_size_8abf5, ∀ z ∈ bl, ∀ x ∈ dkAll 1 z.2.1 z.2.2, decode cJx4a65c_size_8abf5 (z.1 + x.1) = .ok (x.2.1, x.2.2))
theorem kd_Jxa1e45_init_da8c8_0 : ∀ z ∈ ([(0, 4, 0), (1, 75, 1), (4, 200, 0)] : List (Nat × Nat × Int)), ∀ x ∈ dkAll 0 z.2.1 z.2.2, decode cJxa1e45_init_da8c8 (z.1 + x.1) = .ok (x.2.1, x.2.2) := by decide +kernel
theorem kd_Jxa1e45_init_da8c8 : rDec 13 0 cJxa1e45_init_da8c8 := fun bs h => by
  cases (show codeT[13]? = some k_Jxa1e45_init_da8c8 from rfl).symm.trans h
  exact (List.forall_mem_cons.mpr ⟨kd_Jxa1e45_init_da8c8_0, fun _ h => absurd h List.not_mem_nil⟩ : ∀ bl ∈ k_Jxa1e45_init_da8c8, ∀ z ∈ bl, ∀ x ∈ dkAll 0 z.2.1 z.2.2, decode cJxa1e45_init_da8c8 (z.1 + x.1) = .ok (x.2.1, x.2.2))
theorem kd_Jxc12de_init_da8c8_0 : ∀ z ∈ ([(0, 4, 0), (1, 201, 80), (4, 4, 0), (5, 15, 0), (6, 72, 8), (9, 200, 0)] : List (Nat × Nat × Int)), ∀ x ∈ dkAll 0 z.2.1 z.2.2, decode cJxc12de_init_da8c8 (z.1 + x.1) = .ok (x.2.1, x.2.2) := by decide +kernel
theorem kd_Jxc12de_init_da8c8 : rDec 14 0 cJxc12de_init_da8c8 := fun bs h => by
  cases (show codeT[14]? = some k_Jxc12de_init_da8c8 from rfl).symm.trans h
  exact (List.forall_mem_cons.mpr ⟨kd_Jxc12de_init_da8c8_0, fun _ h => absurd h List.not_mem_nil⟩ : ∀ bl ∈ k_Jxc12de_init_da8c8, ∀ z ∈ bl, ∀ x ∈ dkAll 0 z.2.1 z.2.2, decode cJxc12de_init_da8c8 (z.1 + x.1) = .ok (x.2.1, x.2.2))
theorem kd_L_abandon_0 : ∀ z ∈ ([(0, 4, 2), (1, 15, 0), (2, 4, 0), (3, 0, 1), (4, 201, 81), (12, 9, 3), (13, 15, 1), (14, 200, 0)] : List (Nat × Nat × Int)), ∀ x ∈ dkAll 1 z.2.1 z.2.2, decode cL_abandon (z.1 + x.1) = .ok (x.2.1, x.2.2) := by decide +kernel
theorem kd_L_abandon : rDec 15 1 cL_abandon := fun bs h => by
  cases (show codeT[15]? = some k_L_abandon from rfl).symm.trans h
  exact (List.forall_mem_cons.mpr ⟨kd_L_abandon_0, fun _ h => absurd h List.not_mem_nil⟩ : ∀ bl ∈ k_L_abandon, ∀ z ∈ bl, ∀ x ∈ dkAll 1 z.2.1 z.2.2, decode cL_abandon (z.1 + x.1) = .ok (x.2.1, x.2.2))
theorem kd_L_addClub_0 : ∀ z ∈ ([(0, 5, 4), (2, 15, 0), (3, 4, 0), (4, 0, 1), (5, 0, 2), (6, 0, 3), (7, 201, 82), (10, 30, 0), (11, 59, 0), (12, 53, 11), (15, 10, 5), (17, 15, 1), (18, 200, 0), (23, 15, 0), (24, 200, 0)] : List (Nat × Nat × Int)), ∀ x ∈ dkAll 1 z.2.1 z.2.2, decode cL_addClub (z.1 + x.1) = .ok (x.2.1, x.2.2) := by decide +kernel
theorem kd_L_addClub : rDec 16 1 cL_addClub := fun bs h => by
  cases (show codeT[16]? = some k_L_addClub from rfl).symm.trans h
  exact (List.forall_mem_cons.mpr ⟨kd_L_addClub_0, fun _ h => absurd h List.not_mem_nil⟩ : ∀ bl ∈ k_L_addClub, ∀ z ∈ bl, ∀ x ∈ dkAll 1 z.2.1 z.2.2, decode cL_addClub (z.1 + x.1) = .ok (x.2.1, x.2.2))
theorem kd_L_addPlayer_0 : ∀ z ∈ ([(0, 4, 2), (1, 15, 0), (2, 4, 0), (3, 0, 1), (4, 201, 83), (12, 9, 3), (13, 15, 1), (14, 200, 0)] : List (Nat × Nat × Int)), ∀ x ∈ dkAll 1 z.2.1 z.2.2, decode cL_addPlayer (z.1 + x.1) = .ok (x.2.1, x.2.2) := by decide +kernel
theorem kd_L_addPlayer : rDec 17 1 cL_addPlayer := fun bs h => by
  cases (show codeT[17]? = some k_L_addPlayer from rfl).symm.trans h
  exact (List.forall_mem_cons.mpr ⟨kd_L_addPlayer_0, fun _ h => absurd h List.not_mem_nil⟩ : ∀ bl ∈ k_L_addPlayer, ∀ z ∈ bl, ∀ x ∈ dkAll 1 z.2.1 z.2.2, decode cL_addPlayer (z.1 + x.1) = .ok (x.2.1, x.2.2))
theorem kd_L_appeal_0 : ∀ z ∈ ([(0, 4, 3), (1, 15, 0), (2, 4, 0), (3, 0, 1), (4, 0, 2), (5, 201, 84), (20, 10, 4), (22, 15, 1), (23, 200, 0)] : List (Nat × Nat × Int)), ∀ x ∈ dkAll 1 z.2.1 z.2.2, decode cL_appeal (z.1 + x.1) = .ok (x.2.1, x.2.2) := by decide +kernel
theorem kd_L_appeal : rDec 18 1 cL_appeal := fun bs h => by
  cases (show codeT[18]? = some k_L_appeal from rfl).symm.trans h
  exact (List.forall_mem_cons.mpr ⟨kd_L_appeal_0, fun _ h => absurd h List.not_mem_nil⟩ : ∀ bl ∈ k_L_appeal, ∀ z ∈ bl, ∀ x ∈ dkAll 1 z.2.1 z.2.2, decode cL_appeal (z.1 + x.1) = .ok (x.2.1, x.2.2))
theorem kd_L_ban_0 : ∀ z ∈ ([(0, 4, 2), (1, 15, 0), (2, 4, 0), (3, 0, 1), (4, 201, 85), (12, 9, 3), (13, 15, 1), (14, 200, 0)] : List (Nat × Nat × Int)), ∀ x ∈ dkAll 1 z.2.1 z.2.2, decode cL_ban (z.1 + x.1) = .ok (x.2.1, x.2.2) := by decide +kernel
theorem kd_L_ban : rDec 19 1 cL_ban := fun bs h => by
  cases (show codeT[19]? = some k_L_ban from rfl).symm.trans h
  exact (List.forall_mem_cons.mpr ⟨kd_L_ban_0, fun _ h => absurd h List.not_mem_nil⟩ : ∀ bl ∈ k_L_ban, ∀ z ∈ bl, ∀ x ∈ dkAll 1 z.2.1 z.2.2, decode cL_ban (z.1 + x.1) = .ok (x.2.1, x.2.2))
theorem kd_L_callBack_0 : ∀ z ∈ ([(0, 4, 2), (1, 15, 0), (2, 4, 0), (3, 0, 1), (4, 201, 86), (12, 9, 3), (13, 15, 1), (14, 200, 0)] : List (Nat × Nat × Int)), ∀ x ∈ dkAll 1 z.2.1 z.2.2, decode cL_callBack (z.1 + x.1) = .ok (x.2.1, x.2.2) := by decide +kernel
theorem kd_L_callBack : rDec 20 1 cL_callBack := fun bs h => by
  cases (show codeT[20]? = some k_L_callBack from rfl).symm.trans h
  exact (List.forall_mem_cons.mpr ⟨kd_L_callBack_0, fun _ h => absurd h List.not_mem_nil⟩ : ∀ bl ∈ k_L_callBack, ∀ z ∈ bl, ∀ x ∈ dkAll 1 z.2.1 z.2.2, decode cL_callBack (z.1 + x.1) = .ok (x.2.1, x.2.2))
theorem kd_L_card_0 : ∀ z ∈ ([(0, 4, 3), (1, 15, 0), (2, 4, 0), (3, 0, 1), (4, 0, 2), (5, 201, 87), (13, 10, 4), (15, 15, 1), (16, 200, 0)] : List (Nat × Nat × Int)), ∀ x ∈ dkAll 1 z.2.1 z.2.2, decode cL_card (z.1 + x.1) = .ok (x.2.1, x.2.2) := by decide +kernel
theorem kd_L_card : rDec 21 1 cL_card := fun bs h => by
  cases (show codeT[21]? = some k_L_card from rfl).symm.trans h
  exact (List.forall_mem_cons.mpr ⟨kd_L_card_0, fun _ h => absurd h List.not_mem_nil⟩ : ∀ bl ∈ k_L_card, ∀ z ∈ bl, ∀ x ∈ dkAll 1 z.2.1 z.2.2, decode cL_card (z.1 + x.1) = .ok (x.2.1, x.2.2))
theorem kd_L_change_0 : ∀ z ∈ ([(0, 4, 3), (1, 15, 0), (2, 4, 0), (3, 0, 1), (4, 0, 2), (5, 201, 88), (13, 10, 4), (15, 15, 1), (16, 200, 0)] : List (Nat × Nat × Int)), ∀ x ∈ dkAll 1 z.2.1 z.2.2, decode cL_change (z.1 + x.1) = .ok (x.2.1, x.2.2) := by decide +kernel
theorem kd_L_change : rDec 22 1 cL_change := fun bs h => by
  cases (show codeT[22]? = some k_L_change from rfl).symm.trans h
  exact (List.forall_mem_cons.mpr ⟨kd_L_change_0, fun _ h => absurd h List.not_mem_nil⟩ : ∀ bl ∈ k_L_change, ∀ z ∈ bl, ∀ x ∈ dkAll 1 z.2.1 z.2.2, decode cL_change (z.1 + x.1) = .ok (x.2.1, x.2.2))
theorem kd_L_clubAt_0 : ∀ z ∈ ([(0, 4, 3), (1, 15, 0), (2, 4, 0), (3, 0, 1), (4, 0, 2), (5, 201, 89), (13, 10, 4), (15, 15, 1), (16, 200, 0), (17, 10, 4), (19, 15, 2), (20, 200, 0)] : List (Nat × Nat × Int)), ∀ x ∈ dkAll 1 z.2.1 z.2.2, decode cL_clubAt (z.1 + x.1) = .ok (x.2.1, x.2.2) := by decide +kernel
theorem kd_L_clubAt : rDec 23 1 cL_clubAt := fun bs h => by
  cases (show codeT[23]? = some k_L_clubAt from rfl).symm.trans h
  exact (List.forall_mem_cons.mpr ⟨kd_L_clubAt_0, fun _ h => absurd h List.not_mem_nil⟩ : ∀ bl ∈ k_L_clubAt, ∀ z ∈ bl, ∀ x ∈ dkAll 1 z.2.1 z.2.2, decode cL_clubAt (z.1 + x.1) = .ok (x.2.1, x.2.2))
theorem kd_L_divisionOf_0 : ∀ z ∈ ([(0, 4, 2), (1, 15, 0), (2, 4, 0), (3, 0, 1), (4, 201, 90), (12, 9, 3), (13, 15, 1), (14, 200, 0)] : List (Nat × Nat × Int)), ∀ x ∈ dkAll 1 z.2.1 z.2.2, decode cL_divisionOf (z.1 + x.1) = .ok (x.2.1, x.2.2) := by decide +kernel
theorem kd_L_divisionOf : rDec 24 1 cL_divisionOf := fun bs h => by
  cases (show codeT[24]? = some k_L_divisionOf from rfl).symm.trans h
  exact (List.forall_mem_cons.mpr ⟨kd_L_divisionOf_0, fun _ h => absurd h List.not_mem_nil⟩ : ∀ bl ∈ k_L_divisionOf, ∀ z ∈ bl, ∀ x ∈ dkAll 1 z.2.1 z.2.2, decode cL_divisionOf (z.1 + x.1) = .ok (x.2.1, x.2.2))
theorem kd_L_end_0 : ∀ z ∈ ([(0, 4, 1), (1, 15, 0), (2, 4, 0), (3, 201, 91), (11, 9, 2), (12, 15, 1), (13, 200, 0)] : List (Nat × Nat × Int)), ∀ x ∈ dkAll 1 z.2.1 z.2.2, decode cL_end (z.1 + x.1) = .ok (x.2.1, x.2.2) := by decide +kernel
theorem kd_L_end : rDec 25 1 cL_end := fun bs h => by
  cases (show codeT[25]? = some k_L_end from rfl).symm.trans h
  exact (List.forall_mem_cons.mpr ⟨kd_L_end_0, fun _ h => absurd h List.not_mem_nil⟩ : ∀ bl ∈ k_L_end, ∀ z ∈ bl, ∀ x ∈ dkAll 1 z.2.1 z.2.2, decode cL_end (z.1 + x.1) = .ok (x.2.1, x.2.2))
theorem kd_L_endSeason_0 : ∀ z ∈ ([(0, 4, 1), (1, 15, 0), (2, 4, 0), (3, 201, 92), (6, 30, 0), (7, 59, 0), (8, 53, 6), (14, 15, 0), (15, 200, 0)] : List (Nat × Nat × Int)), ∀ x ∈ dkAll 1 z.2.1 z.2.2, decode cL_endSeason (z.1 + x.1) = .ok (x.2.1, x.2.2) := by decide +kernel
theorem kd_L_endSeason : rDec 26 1 cL_endSeason := fun bs h => by
  cases (show codeT[26]? = some k_L_endSeason from rfl).symm.trans h
  exact (List.forall_mem_cons.mpr ⟨kd_L_endSeason_0, fun _ h => absurd h List.not_mem_nil⟩ : ∀ bl ∈ k_L_endSeason, ∀ z ∈ bl, ∀ x ∈ dkAll 1 z.2.1 z.2.2, decode cL_endSeason (z.1 + x.1) = .ok (x.2.1, x.2.2))
theorem kd_L_fixture_0 : ∀ z ∈ ([(0, 4, 3), (1, 15, 0), (2, 4, 0), (3, 0, 1), (4, 0, 2), (5, 201, 93), (13, 10, 4), (15, 15, 1), (16, 200, 0)] : List (Nat × Nat × Int)), ∀ x ∈ dkAll 1 z.2.1 z.2.2, decode cL_fixture (z.1 + x.1) = .ok (x.2.1, x.2.2) := by decide +kernel
theorem kd_L_fixture : rDec 27 1 cL_fixture := fun bs h => by
  cases (show codeT[27]? = some k_L_fixture from rfl).symm.trans h
  exact (List.forall_mem_cons.mpr ⟨kd_L_fixture_0, fun _ h => absurd h List.not_mem_nil⟩ : ∀ bl ∈ k_L_fixture, ∀ z ∈ bl, ∀ x ∈ dkAll 1 z.2.1 z.2.2, decode cL_fixture (z.1 + x.1) = .ok (x.2.1, x.2.2))
theorem kd_L_goOn_0 : ∀ z ∈ ([(0, 4, 2), (1, 15, 0), (2, 4, 0), (3, 0, 1), (4, 201, 94), (7, 30, 0), (8, 59, 0), (9, 53, 9), (12, 9, 3), (13, 15, 1), (14, 200, 0), (18, 15, 0), (19, 200, 0)] : List (Nat × Nat × Int)), ∀ x ∈ dkAll 1 z.2.1 z.2.2, decode cL_goOn (z.1 + x.1) = .ok (x.2.1, x.2.2) := by decide +kernel
theorem kd_L_goOn : rDec 28 1 cL_goOn := fun bs h => by
  cases (show codeT[28]? = some k_L_goOn from rfl).symm.trans h
  exact (List.forall_mem_cons.mpr ⟨kd_L_goOn_0, fun _ h => absurd h List.not_mem_nil⟩ : ∀ bl ∈ k_L_goOn, ∀ z ∈ bl, ∀ x ∈ dkAll 1 z.2.1 z.2.2, decode cL_goOn (z.1 + x.1) = .ok (x.2.1, x.2.2))
theorem kd_L_goal_0 : ∀ z ∈ ([(0, 4, 2), (1, 15, 0), (2, 4, 0), (3, 0, 1), (4, 201, 95), (12, 9, 3), (13, 15, 1), (14, 200, 0)] : List (Nat × Nat × Int)), ∀ x ∈ dkAll 1 z.2.1 z.2.2, decode cL_goal (z.1 + x.1) = .ok (x.2.1, x.2.2) := by decide +kernel
theorem kd_L_goal : rDec 29 1 cL_goal := fun bs h => by
  cases (show codeT[29]? = some k_L_goal from rfl).symm.trans h
  exact (List.forall_mem_cons.mpr ⟨kd_L_goal_0, fun _ h => absurd h List.not_mem_nil⟩ : ∀ bl ∈ k_L_goal, ∀ z ∈ bl, ∀ x ∈ dkAll 1 z.2.1 z.2.2, decode cL_goal (z.1 + x.1) = .ok (x.2.1, x.2.2))
theorem kd_L_isGuilty_0 : ∀ z ∈ ([(0, 4, 3), (1, 15, 0), (2, 4, 0), (3, 0, 1), (4, 0, 2), (5, 201, 96), (20, 10, 4), (22, 15, 1), (23, 200, 0)] : List (Nat × Nat × Int)), ∀ x ∈ dkAll 1 z.2.1 z.2.2, decode cL_isGuilty (z.1 + x.1) = .ok (x.2.1, x.2.2) := by decide +kernel
theorem kd_L_isGuilty : rDec 30 1 cL_isGuilty := fun bs h => by
  cases (show codeT[30]? = some k_L_isGuilty from rfl).symm.trans h
  exact (List.forall_mem_cons.mpr ⟨kd_L_isGuilty_0, fun _ h => absurd h List.not_mem_nil⟩ : ∀ bl ∈ k_L_isGuilty, ∀ z ∈ bl, ∀ x ∈ dkAll 1 z.2.1 z.2.2, decode cL_isGuilty (z.1 + x.1) = .ok (x.2.1, x.2.2))
theorem kd_L_kickOff_0 : ∀ z ∈ ([(0, 4, 2), (1, 15, 0), (2, 4, 0), (3, 0, 1), (4, 201, 97), (12, 9, 3), (13, 15, 1), (14, 200, 0)] : List (Nat × Nat × Int)), ∀ x ∈ dkAll 1 z.2.1 z.2.2, decode cL_kickOff (z.1 + x.1) = .ok (x.2.1, x.2.2) := by decide +kernel
theorem kd_L_kickOff : rDec 31 1 cL_kickOff := fun bs h => by
  cases (show codeT[31]? = some k_L_kickOff from rfl).symm.trans h
  exact (List.forall_mem_cons.mpr ⟨kd_L_kickOff_0, fun _ h => absurd h List.not_mem_nil⟩ : ∀ bl ∈ k_L_kickOff, ∀ z ∈ bl, ∀ x ∈ dkAll 1 z.2.1 z.2.2, decode cL_kickOff (z.1 + x.1) = .ok (x.2.1, x.2.2))
theorem kd_L_lend_0 : ∀ z ∈ ([(0, 4, 3), (1, 15, 0), (2, 4, 0), (3, 0, 1), (4, 0, 2), (5, 201, 98), (13, 10, 4), (15, 15, 1), (16, 200, 0)] : List (Nat × Nat × Int)), ∀ x ∈ dkAll 1 z.2.1 z.2.2, decode cL_lend (z.1 + x.1) = .ok (x.2.1, x.2.2) := by decide +kernel
theorem kd_L_lend : rDec 32 1 cL_lend := fun bs h => by
  cases (show codeT[32]? = some k_L_lend from rfl).symm.trans h
  exact (List.forall_mem_cons.mpr ⟨kd_L_lend_0, fun _ h => absurd h List.not_mem_nil⟩ : ∀ bl ∈ k_L_lend, ∀ z ∈ bl, ∀ x ∈ dkAll 1 z.2.1 z.2.2, decode cL_lend (z.1 + x.1) = .ok (x.2.1, x.2.2))
theorem kd_L_meanGoals_0 : ∀ z ∈ ([(0, 4, 1), (1, 15, 0), (2, 4, 0), (3, 201, 99), (10, 9, 2), (11, 15, 1), (12, 200, 0)] : List (Nat × Nat × Int)), ∀ x ∈ dkAll 1 z.2.1 z.2.2, decode cL_meanGoals (z.1 + x.1) = .ok (x.2.1, x.2.2) := by decide +kernel
theorem kd_L_meanGoals : rDec 33 1 cL_meanGoals := fun bs h => by
  cases (show codeT[33]? = some k_L_meanGoals from rfl).symm.trans h
  exact (List.forall_mem_cons.mpr ⟨kd_L_meanGoals_0, fun _ h => absurd h List.not_mem_nil⟩ : ∀ bl ∈ k_L_meanGoals, ∀ z ∈ bl, ∀ x ∈ dkAll 1 z.2.1 z.2.2, decode cL_meanGoals (z.1 + x.1) = .ok (x.2.1, x.2.2))
theorem kd_L_name_0 : ∀ z ∈ ([(0, 5, 4), (2, 15, 0), (3, 4, 0), (4, 0, 1), (5, 0, 2), (6, 0, 3), (7, 201, 100), (15, 10, 5), (17, 15, 1), (18, 200, 0)] : List (Nat × Nat × Int)), ∀ x ∈ dkAll 1 z.2.1 z.2.2, decode cL_name (z.1 + x.1) = .ok (x.2.1, x.2.2) := by decide +kernel
theorem kd_L_name : rDec 34 1 cL_name := fun bs h => by
  cases (show codeT[34]? = some k_L_name from rfl).symm.trans h
  exact (List.forall_mem_cons.mpr ⟨kd_L_name_0, fun _ h => absurd h List.not_mem_nil⟩ : ∀ bl ∈ k_L_name, ∀ z ∈ bl, ∀ x ∈ dkAll 1 z.2.1 z.2.2, decode cL_name (z.1 + x.1) = .ok (x.2.1, x.2.2))
theorem kd_L_overShare_0 : ∀ z ∈ ([(0, 4, 1), (1, 15, 0), (2, 4, 0), (3, 201, 101), (11, 9, 2), (12, 15, 1), (13, 200, 0)] : List (Nat × Nat × Int)), ∀ x ∈ dkAll 1 z.2.1 z.2.2, decode cL_overShare (z.1 + x.1) = .ok (x.2.1, x.2.2) := by decide +kernel
theorem kd_L_overShare : rDec 35 1 cL_overShare := fun bs h => by
  cases (show codeT[35]? = some k_L_overShare from rfl).symm.trans h
  exact (List.forall_mem_cons.mpr ⟨kd_L_overShare_0, fun _ h => absurd h List.not_mem_nil⟩ : ∀ bl ∈ k_L_overShare, ∀ z ∈ bl, ∀ x ∈ dkAll 1 z.2.1 z.2.2, decode cL_overShare (z.1 + x.1) = .ok (x.2.1, x.2.2))
theorem kd_L_plan_0 : ∀ z ∈ ([(0, 4, 2), (1, 15, 0), (2, 4, 0), (3, 0, 1), (4, 201, 102), (12, 9, 3), (13, 15, 1), (14, 200, 0), (15, 9, 3), (16, 15, 2), (17, 200, 0)] : List (Nat × Nat × Int)), ∀ x ∈ dkAll 1 z.2.1 z.2.2, decode cL_plan (z.1 + x.1) = .ok (x.2.1, x.2.2) := by decide +kernel
theorem kd_L_plan : rDec 36 1 cL_plan := fun bs h => by
  cases (show codeT[36]? = some k_L_plan from rfl).symm.trans h
  exact (List.forall_mem_cons.mpr ⟨kd_L_plan_0, fun _ h => absurd h List.not_mem_nil⟩ : ∀ bl ∈ k_L_plan, ∀ z ∈ bl, ∀ x ∈ dkAll 1 z.2.1 z.2.2, decode cL_plan (z.1 + x.1) = .ok (x.2.1, x.2.2))
theorem kd_L_points_0 : ∀ z ∈ ([(0, 4, 2), (1, 15, 0), (2, 4, 0), (3, 0, 1), (4, 201, 103), (12, 9, 3), (13, 15, 1), (14, 200, 0)] : List (Nat × Nat × Int)), ∀ x ∈ dkAll 1 z.2.1 z.2.2, decode cL_points (z.1 + x.1) = .ok (x.2.1, x.2.2) := by decide +kernel
theorem kd_L_points : rDec 37 1 cL_points := fun bs h => by
  cases (show codeT[37]? = some k_L_points from rfl).symm.trans h
  exact (List.forall_mem_cons.mpr ⟨kd_L_points_0, fun _ h => absurd h List.not_mem_nil⟩ : ∀ bl ∈ k_L_points, ∀ z ∈ bl, ∀ x ∈ dkAll 1 z.2.1 z.2.2, decode cL_points (z.1 + x.1) = .ok (x.2.1, x.2.2))
theorem kd_L_putOff_0 : ∀ z ∈ ([(0, 4, 3), (1, 15, 0), (2, 4, 0), (3, 0, 1), (4, 0, 2), (5, 201, 104), (13, 10, 4), (15, 15, 1), (16, 200, 0)] : List (Nat × Nat × Int)), ∀ x ∈ dkAll 1 z.2.1 z.2.2, decode cL_putOff (z.1 + x.1) = .ok (x.2.1, x.2.2) := by decide +kernel
theorem kd_L_putOff : rDec 38 1 cL_putOff := fun bs h => by
  cases (show codeT[38]? = some k_L_putOff from rfl).symm.trans h
  exact (List.forall_mem_cons.mpr ⟨kd_L_putOff_0, fun _ h => absurd h List.not_mem_nil⟩ : ∀ bl ∈ k_L_putOff, ∀ z ∈ bl, ∀ x ∈ dkAll 1 z.2.1 z.2.2, decode cL_putOff (z.1 + x.1) = .ok (x.2.1, x.2.2))
theorem kd_L_registered_0 : ∀ z ∈ ([(0, 4, 2), (1, 15, 0), (2, 4, 0), (3, 0, 1), (4, 201, 105), (12, 9, 3), (13, 15, 1), (14, 200, 0)] : List (Nat × Nat × Int)), ∀ x ∈ dkAll 1 z.2.1 z.2.2, decode cL_registered (z.1 + x.1) = .ok (x.2.1, x.2.2) := by decide +kernel
theorem kd_L_registered : rDec 39 1 cL_registered := fun bs h => by
  cases (show codeT[39]? = some k_L_registered from rfl).symm.trans h
  exact (List.forall_mem_cons.mpr ⟨kd_L_registered_0, fun _ h => absurd h List.not_mem_nil⟩ : ∀ bl ∈ k_L_registered, ∀ z ∈ bl, ∀ x ∈ dkAll 1 z.2.1 z.2.2, decode cL_registered (z.1 + x.1) = .ok (x.2.1, x.2.2))
theorem kd_L_resultOf_0 : ∀ z ∈ ([(0, 4, 2), (1, 15, 0), (2, 4, 0), (3, 0, 1), (4, 201, 106), (12, 9, 3), (13, 15, 1), (14, 200, 0)] : List (Nat × Nat × Int)), ∀ x ∈ dkAll 1 z.2.1 z.2.2, decode cL_resultOf (z.1 + x.1) = .ok (x.2.1, x.2.2) := by decide +kernel
theorem kd_L_resultOf : rDec 40 1 cL_resultOf := fun bs h => by
  cases (show codeT[40]? = some k_L_resultOf from rfl).symm.trans h
  exact (List.forall_mem_cons.mpr ⟨kd_L_resultOf_0, fun _ h => absurd h List.not_mem_nil⟩ : ∀ bl ∈ k_L_resultOf, ∀ z ∈ bl, ∀ x ∈ dkAll 1 z.2.1 z.2.2, decode cL_resultOf (z.1 + x.1) = .ok (x.2.1, x.2.2))
theorem kd_L_sell_0 : ∀ z ∈ ([(0, 5, 4), (2, 15, 0), (3, 4, 0), (4, 0, 1), (5, 0, 2), (6, 0, 3), (7, 201, 107), (15, 10, 5), (17, 15, 1), (18, 200, 0)] : List (Nat × Nat × Int)), ∀ x ∈ dkAll 1 z.2.1 z.2.2, decode cL_sell (z.1 + x.1) = .ok (x.2.1, x.2.2) := by decide +kernel
theorem kd_L_sell : rDec 41 1 cL_sell := fun bs h => by
  cases (show codeT[41]? = some k_L_sell from rfl).symm.trans h
  exact (List.forall_mem_cons.mpr ⟨kd_L_sell_0, fun _ h => absurd h List.not_mem_nil⟩ : ∀ bl ∈ k_L_sell, ∀ z ∈ bl, ∀ x ∈ dkAll 1 z.2.1 z.2.2, decode cL_sell (z.1 + x.1) = .ok (x.2.1, x.2.2))
theorem kd_L_setDerby_0 : ∀ z ∈ ([(0, 5, 4), (2, 15, 0), (3, 4, 0), (4, 0, 1), (5, 0, 2), (6, 0, 3), (7, 201, 108), (22, 10, 5), (24, 15, 1), (25, 200, 0)] : List (Nat × Nat × Int)), ∀ x ∈ dkAll 1 z.2.1 z.2.2, decode cL_setDerby (z.1 + x.1) = .ok (x.2.1, x.2.2) := by decide +kernel
theorem kd_L_setDerby : rDec 42 1 cL_setDerby := fun bs h => by
  cases (show codeT[42]? = some k_L_setDerby from rfl).symm.trans h
  exact (List.forall_mem_cons.mpr ⟨kd_L_setDerby_0, fun _ h => absurd h List.not_mem_nil⟩ : ∀ bl ∈ k_L_setDerby, ∀ z ∈ bl, ∀ x ∈ dkAll 1 z.2.1 z.2.2, decode cL_setDerby (z.1 + x.1) = .ok (x.2.1, x.2.2))
theorem kd_L_setWindow_0 : ∀ z ∈ ([(0, 4, 3), (1, 15, 0), (2, 4, 0), (3, 0, 1), (4, 0, 2), (5, 201, 109), (8, 32, 7), (11, 18, 1), (12, 53, 4), (15, 18, 0), (16, 59, 0), (17, 53, 7), (20, 10, 4), (22, 15, 1), (23, 200, 0), (24, 15, 0), (25, 200, 0)] : List (Nat × Nat × Int)), ∀ x ∈ dkAll 1 z.2.1 z.2.2, decode cL_setWindow (z.1 + x.1) = .ok (x.2.1, x.2.2) := by decide +kernel
theorem kd_L_setWindow : rDec 43 1 cL_setWindow := fun bs h => by
  cases (show codeT[43]? = some k_L_setWindow from rfl).symm.trans h
  exact (List.forall_mem_cons.mpr ⟨kd_L_setWindow_0, fun _ h => absurd h List.not_mem_nil⟩ : ∀ bl ∈ k_L_setWindow, ∀ z ∈ bl, ∀ x ∈ dkAll 1 z.2.1 z.2.2, decode cL_setWindow (z.1 + x.1) = .ok (x.2.1, x.2.2))
theorem kd_L_stateOf_0 : ∀ z ∈ ([(0, 4, 2), (1, 15, 0), (2, 4, 0), (3, 0, 1), (4, 201, 110), (12, 9, 3), (13, 15, 1), (14, 200, 0)] : List (Nat × Nat × Int)), ∀ x ∈ dkAll 1 z.2.1 z.2.2, decode cL_stateOf (z.1 + x.1) = .ok (x.2.1, x.2.2) := by decide +kernel
theorem kd_L_stateOf : rDec 44 1 cL_stateOf := fun bs h => by
  cases (show codeT[44]? = some k_L_stateOf from rfl).symm.trans h
  exact (List.forall_mem_cons.mpr ⟨kd_L_stateOf_0, fun _ h => absurd h List.not_mem_nil⟩ : ∀ bl ∈ k_L_stateOf, ∀ z ∈ bl, ∀ x ∈ dkAll 1 z.2.1 z.2.2, decode cL_stateOf (z.1 + x.1) = .ok (x.2.1, x.2.2))
theorem kd_L_strike_0 : ∀ z ∈ ([(0, 4, 3), (1, 15, 0), (2, 4, 0), (3, 0, 1), (4, 0, 2), (5, 201, 111), (20, 10, 4), (22, 15, 1), (23, 200, 0)] : List (Nat × Nat × Int)), ∀ x ∈ dkAll 1 z.2.1 z.2.2, decode cL_strike (z.1 + x.1) = .ok (x.2.1, x.2.2) := by decide +kernel
theorem kd_L_strike : rDec 45 1 cL_strike := fun bs h => by
  cases (show codeT[45]? = some k_L_strike from rfl).symm.trans h
  exact (List.forall_mem_cons.mpr ⟨kd_L_strike_0, fun _ h => absurd h List.not_mem_nil⟩ : ∀ bl ∈ k_L_strike, ∀ z ∈ bl, ∀ x ∈ dkAll 1 z.2.1 z.2.2, decode cL_strike (z.1 + x.1) = .ok (x.2.1, x.2.2))
theorem kd_L_takePoints_0 : ∀ z ∈ ([(0, 4, 3), (1, 15, 0), (2, 4, 0), (3, 0, 1), (4, 0, 2), (5, 201, 112), (13, 10, 4), (15, 15, 1), (16, 200, 0)] : List (Nat × Nat × Int)), ∀ x ∈ dkAll 1 z.2.1 z.2.2, decode cL_takePoints (z.1 + x.1) = .ok (x.2.1, x.2.2) := by decide +kernel
theorem kd_L_takePoints : rDec 46 1 cL_takePoints := fun bs h => by
  cases (show codeT[46]? = some k_L_takePoints from rfl).symm.trans h
  exact (List.forall_mem_cons.mpr ⟨kd_L_takePoints_0, fun _ h => absurd h List.not_mem_nil⟩ : ∀ bl ∈ k_L_takePoints, ∀ z ∈ bl, ∀ x ∈ dkAll 1 z.2.1 z.2.2, decode cL_takePoints (z.1 + x.1) = .ok (x.2.1, x.2.2))
theorem kd_L_wipe_0 : ∀ z ∈ ([(0, 4, 1), (1, 15, 0), (2, 4, 0), (3, 201, 113), (6, 30, 0), (7, 59, 0), (8, 53, 6), (14, 15, 0), (15, 200, 0)] : List (Nat × Nat × Int)), ∀ x ∈ dkAll 1 z.2.1 z.2.2, decode cL_wipe (z.1 + x.1) = .ok (x.2.1, x.2.2) := by decide +kernel
theorem kd_L_wipe : rDec 47 1 cL_wipe := fun bs h => by
  cases (show codeT[47]? = some k_L_wipe from rfl).symm.trans h
  exact (List.forall_mem_cons.mpr ⟨kd_L_wipe_0, fun _ h => absurd h List.not_mem_nil⟩ : ∀ bl ∈ k_L_wipe, ∀ z ∈ bl, ∀ x ∈ dkAll 1 z.2.1 z.2.2, decode cL_wipe (z.1 + x.1) = .ok (x.2.1, x.2.2))
theorem kd_L_yellows_0 : ∀ z ∈ ([(0, 4, 2), (1, 15, 0), (2, 4, 0), (3, 0, 1), (4, 201, 114), (12, 9, 3), (13, 15, 1), (14, 200, 0)] : List (Nat × Nat × Int)), ∀ x ∈ dkAll 1 z.2.1 z.2.2, decode cL_yellows (z.1 + x.1) = .ok (x.2.1, x.2.2) := by decide +kernel
theorem kd_L_yellows : rDec 48 1 cL_yellows := fun bs h => by
  cases (show codeT[48]? = some k_L_yellows from rfl).symm.trans h
  exact (List.forall_mem_cons.mpr ⟨kd_L_yellows_0, fun _ h => absurd h List.not_mem_nil⟩ : ∀ bl ∈ k_L_yellows, ∀ z ∈ bl, ∀ x ∈ dkAll 1 z.2.1 z.2.2, decode cL_yellows (z.1 + x.1) = .ok (x.2.1, x.2.2))
theorem kd_X0_count_0 : ∀ z ∈ ([(0, 4, 1), (1, 70, 9), (4, 33, 40), (44, 4, 1), (45, 70, 9), (48, 15, 1), (49, 39, 26)] : List (Nat × Nat × Int)), ∀ x ∈ dkAll 0 z.2.1 z.2.2, decode cX0_count (z.1 + x.1) = .ok (x.2.1, x.2.2) := by decide +kernel
theorem kd_X0_count_1 : ∀ z ∈ ([(75, 4, 1), (76, 70, 9), (79, 15, 2), (80, 39, 11), (83, 4, 0), (84, 70, 10), (87, 15, 0), (88, 201, 115), (91, 200, 0)] : List (Nat × Nat × Int)), ∀ x ∈ dkAll 0 z.2.1 z.2.2, decode cX0_count (z.1 + x.1) = .ok (x.2.1, x.2.2) := by decide +kernel
theorem kd_X0_count : rDec 49 0 cX0_count := fun bs h => by
  cases (show codeT[49]? = some k_X0_count from rfl).symm.trans h
  exact (List.forall_mem_cons.mpr ⟨kd_X0_count_0, List.forall_mem_cons.mpr ⟨kd_X0_count_1, fun _ h => absurd h List.not_mem_nil⟩⟩ : ∀ bl ∈ k_X0_count, ∀ z ∈ bl, ∀ x ∈ dkAll 0 z.2.1 z.2.2, decode cX0_count (z.1 + x.1) = .ok (x.2.1, x.2.2))
theorem kd_X0_countAnew_0 : ∀ z ∈ ([(0, 4, 0), (1, 70, 11), (4, 15, 0), (5, 201, 115), (8, 4, 0), (9, 70, 10), (12, 15, 0), (13, 201, 115), (16, 15, 0), (17, 7, 1), (18, 0, 1), (19, 4, 0), (20, 70, 12), (23, 201, 116), (26, 41, 33), (59, 15, 0), (60, 7, 1), (61, 0, 1), (62, 4, 0), (63, 70, 12)] : List (Nat × Nat × Int)), ∀ x ∈ dkAll 0 z.2.1 z.2.2, decode cX0_countAnew (z.1 + x.1) = .ok (x.2.1, x.2.2) := by decide +kernel
theorem kd_X0_countAnew_1 : ∀ z ∈ ([(66, 201, 116), (69, 41, 24), (93, 200, 0)] : List (Nat × Nat × Int)), ∀ x ∈ dkAll 0 z.2.1 z.2.2, decode cX0_countAnew (z.1 + x.1) = .ok (x.2.1, x.2.2) := by decide +kernel
theorem kd_X0_countAnew : rDec 50 0 cX0_countAnew := fun bs h => by
  cases (show codeT[50]? = some k_X0_countAnew from rfl).symm.trans h
  exact (List.forall_mem_cons.mpr ⟨kd_X0_countAnew_0, List.forall_mem_cons.mpr ⟨kd_X0_countAnew_1, fun _ h => absurd h List.not_mem_nil⟩⟩ : ∀ bl ∈ k_X0_countAnew, ∀ z ∈ bl, ∀ x ∈ dkAll 0 z.2.1 z.2.2, decode cX0_countAnew (z.1 + x.1) = .ok (x.2.1, x.2.2))
theorem kd_X0_init_0 : ∀ z ∈ ([(0, 4, 0), (1, 75, 2), (4, 4, 0), (5, 69, 3), (8, 22, 0), (9, 201, 117), (12, 73, 12), (15, 4, 0), (16, 69, 3), (19, 22, 0), (20, 201, 117), (23, 73, 13), (26, 4, 0), (27, 16, 24), (29, 64, 0), (31, 73, 11), (34, 4, 0), (35, 16, 24), (37, 64, 0), (39, 73, 10), (42, 4, 0), (43, 16, 24), (45, 64, 0), (47, 73, 14), (50, 4, 0), (51, 16, 24), (53, 64, 0), (55, 73, 15), (58, 200, 0)] : List (Nat × Nat × Int)), ∀ x ∈ dkAll 0 z.2.1 z.2.2, decode cX0_init (z.1 + x.1) = .ok (x.2.1, x.2.2) := by decide +kernel
theorem kd_X0_init : rDec 51 0 cX0_init := fun bs h => by
  cases (show codeT[51]? = some k_X0_init from rfl).symm.trans h
  exact (List.forall_mem_cons.mpr ⟨kd_X0_init_0, fun _ h => absurd h List.not_mem_nil⟩ : ∀ bl ∈ k_X0_init, ∀ z ∈ bl, ∀ x ∈ dkAll 0 z.2.1 z.2.2, decode cX0_init (z.1 + x.1) = .ok (x.2.1, x.2.2))
theorem kd_X0_isFull_0 : ∀ z ∈ ([(0, 4, 0), (1, 70, 12), (4, 201, 116), (7, 15, 2), (8, 25, 0), (9, 17, 1024), (12, 43, 7), (19, 15, 0), (20, 200, 0)] : List (Nat × Nat × Int)), ∀ x ∈ dkAll 6 z.2.1 z.2.2, decode cX0_isFull (z.1 + x.1) = .ok (x.2.1, x.2.2) := by decide +kernel
theorem kd_X0_isFull : rDec 52 6 cX0_isFull := fun bs h => by
  cases (show codeT[52]? = some k_X0_isFull from rfl).symm.trans h
  exact (List.forall_mem_cons.mpr ⟨kd_X0_isFull_0, fun _ h => absurd h List.not_mem_nil⟩ : ∀ bl ∈ k_X0_isFull, ∀ z ∈ bl, ∀ x ∈ dkAll 6 z.2.1 z.2.2, decode cX0_isFull (z.1 + x.1) = .ok (x.2.1, x.2.2))
theorem kd_X0_isSameAnew_0 : ∀ z ∈ ([(0, 4, 0), (1, 70, 11), (4, 15, 0), (5, 4, 0), (6, 70, 14), (9, 15, 0), (10, 16, 24), (12, 77, 0), (15, 4, 0), (16, 70, 10), (19, 15, 0), (20, 4, 0), (21, 70, 15), (24, 15, 0), (25, 16, 24), (27, 77, 0), (30, 4, 0), (31, 201, 118), (34, 15, 0), (35, 7, 1), (36, 0, 1), (37, 16, 24), (39, 41, 41), (42, 4, 0), (43, 70, 11), (46, 0, 1), (47, 55, 0), (48, 4, 0), (49, 70, 14), (52, 0, 1), (53, 55, 0), (54, 39, 18), (57, 4, 0), (58, 70, 10), (61, 0, 1), (62, 55, 0), (63, 4, 0)] : List (Nat × Nat × Int)), ∀ x ∈ dkAll 6 z.2.1 z.2.2, decode cX0_isSameAnew (z.1 + x.1) = .ok (x.2.1, x.2.2) := by decide +kernel
theorem kd_X0_isSameAnew_1 : ∀ z ∈ ([(64, 70, 15), (67, 0, 1), (68, 55, 0), (69, 38, 5), (74, 29, 1501), (77, 53, -41), (80, 15, 1), (81, 200, 0)] : List (Nat × Nat × Int)), ∀ x ∈ dkAll 6 z.2.1 z.2.2, decode cX0_isSameAnew (z.1 + x.1) = .ok (x.2.1, x.2.2) := by decide +kernel
theorem kd_X0_isSameAnew : rDec 53 6 cX0_isSameAnew := fun bs h => by
  cases (show codeT[53]? = some k_X0_isSameAnew from rfl).symm.trans h
  exact (List.forall_mem_cons.mpr ⟨kd_X0_isSameAnew_0, List.forall_mem_cons.mpr ⟨kd_X0_isSameAnew_1, fun _ h => absurd h List.not_mem_nil⟩⟩ : ∀ bl ∈ k_X0_isSameAnew, ∀ z ∈ bl, ∀ x ∈ dkAll 6 z.2.1 z.2.2, decode cX0_isSameAnew (z.1 + x.1) = .ok (x.2.1, x.2.2))
theorem kd_X0_playersWithYellows_0 : ∀ z ∈ ([(0, 15, 0), (1, 7, 1), (2, 15, 0), (3, 7, 2), (4, 0, 2), (5, 16, 24), (7, 41, 21), (10, 4, 0), (11, 70, 10), (14, 0, 2), (15, 55, 0), (16, 37, 6), (22, 29, 2501), (25, 53, -21), (28, 0, 1), (29, 200, 0)] : List (Nat × Nat × Int)), ∀ x ∈ dkAll 1 z.2.1 z.2.2, decode cX0_playersWithYellows (z.1 + x.1) = .ok (x.2.1, x.2.2) := by decide +kernel
theorem kd_X0_playersWithYellows : rDec 54 1 cX0_playersWithYellows := fun bs h => by
  cases (show codeT[54]? = some k_X0_playersWithYellows from rfl).symm.trans h
  exact (List.forall_mem_cons.mpr ⟨kd_X0_playersWithYellows_0, fun _ h => absurd h List.not_mem_nil⟩ : ∀ bl ∈ k_X0_playersWithYellows, ∀ z ∈ bl, ∀ x ∈ dkAll 1 z.2.1 z.2.2, decode cX0_playersWithYellows (z.1 + x.1) = .ok (x.2.1, x.2.2))
theorem kd_X0_write_0 : ∀ z ∈ ([(0, 4, 0), (1, 70, 12), (4, 4, 1), (5, 201, 119), (8, 24, 0), (9, 4, 0), (10, 4, 1), (11, 201, 120), (14, 200, 0)] : List (Nat × Nat × Int)), ∀ x ∈ dkAll 0 z.2.1 z.2.2, decode cX0_write (z.1 + x.1) = .ok (x.2.1, x.2.2) := by decide +kernel
theorem kd_X0_write : rDec 55 0 cX0_write := fun bs h => by
  cases (show codeT[55]? = some k_X0_write from rfl).symm.trans h
  exact (List.forall_mem_cons.mpr ⟨kd_X0_write_0, fun _ h => absurd h List.not_mem_nil⟩ : ∀ bl ∈ k_X0_write, ∀ z ∈ bl, ∀ x ∈ dkAll 0 z.2.1 z.2.2, decode cX0_write (z.1 + x.1) = .ok (x.2.1, x.2.2))
theorem kd_X11_init_0 : ∀ z ∈ ([(0, 4, 0), (1, 75, 3), (4, 4, 0), (5, 17, 1000), (8, 72, 16), (11, 4, 0), (12, 15, 0), (13, 72, 17), (16, 4, 0), (17, 15, 0), (18, 72, 18), (21, 4, 0), (22, 0, 1), (23, 72, 19), (26, 4, 0), (27, 0, 2), (28, 73, 20), (31, 4, 0), (32, 0, 3), (33, 73, 21), (36, 200, 0)] : List (Nat × Nat × Int)), ∀ x ∈ dkAll 0 z.2.1 z.2.2, decode cX11_init (z.1 + x.1) = .ok (x.2.1, x.2.2) := by decide +kernel
theorem kd_X11_init : rDec 56 0 cX11_init := fun bs h => by
  cases (show codeT[56]? = some k_X11_init from rfl).symm.trans h
  exact (List.forall_mem_cons.mpr ⟨kd_X11_init_0, fun _ h => absurd h List.not_mem_nil⟩ : ∀ bl ∈ k_X11_init, ∀ z ∈ bl, ∀ x ∈ dkAll 0 z.2.1 z.2.2, decode cX11_init (z.1 + x.1) = .ok (x.2.1, x.2.2))
theorem kd_X12_init_0 : ∀ z ∈ ([(0, 4, 0), (1, 75, 4), (4, 4, 0), (5, 69, 4), (8, 22, 0), (9, 201, 121), (12, 73, 22), (15, 4, 0), (16, 0, 1), (17, 73, 23), (20, 4, 0), (21, 6, 2), (22, 73, 24), (25, 4, 0), (26, 0, 3), (27, 73, 25), (30, 4, 0), (31, 1, 4), (33, 73, 26), (36, 200, 0)] : List (Nat × Nat × Int)), ∀ x ∈ dkAll 0 z.2.1 z.2.2, decode cX12_init (z.1 + x.1) = .ok (x.2.1, x.2.2) := by decide +kernel
theorem kd_X12_init : rDec 57 0 cX12_init := fun bs h => by
  cases (show codeT[57]? = some k_X12_init from rfl).symm.trans h
  exact (List.forall_mem_cons.mpr ⟨kd_X12_init_0, fun _ h => absurd h List.not_mem_nil⟩ : ∀ bl ∈ k_X12_init, ∀ z ∈ bl, ∀ x ∈ dkAll 0 z.2.1 z.2.2, decode cX12_init (z.1 + x.1) = .ok (x.2.1, x.2.2))
theorem kd_X15_abandon_0 : ∀ z ∈ ([(0, 4, 0), (1, 4, 0), (2, 70, 27), (5, 51, 7), (12, 15, 0), (13, 15, 1), (14, 201, 122), (17, 32, 5), (20, 15, 0), (21, 200, 0)] : List (Nat × Nat × Int)), ∀ x ∈ dkAll 1 z.2.1 z.2.2, decode cX15_abandon (z.1 + x.1) = .ok (x.2.1, x.2.2) := by decide +kernel
theorem kd_X15_abandon : rDec 58 1 cX15_abandon := fun bs h => by
  cases (show codeT[58]? = some k_X15_abandon from rfl).symm.trans h
  exact (List.forall_mem_cons.mpr ⟨kd_X15_abandon_0, fun _ h => absurd h List.not_mem_nil⟩ : ∀ bl ∈ k_X15_abandon, ∀ z ∈ bl, ∀ x ∈ dkAll 1 z.2.1 z.2.2, decode cX15_abandon (z.1 + x.1) = .ok (x.2.1, x.2.2))
theorem kd_X15_addClub_0 : ∀ z ∈ ([(0, 4, 0), (1, 0, 1), (2, 30, 0), (3, 18, 0), (4, 18, 1), (5, 201, 123), (8, 32, 31), (11, 0, 2), (12, 30, 0), (13, 18, 0), (14, 78, 0), (17, 201, 123), (20, 32, 19), (23, 0, 3), (24, 30, 0), (25, 18, 0), (26, 78, 1), (29, 201, 123), (32, 32, 7), (35, 15, 1), (36, 53, 4), (39, 15, 0), (40, 15, 1), (41, 201, 122), (44, 33, 39), (47, 4, 0), (48, 4, 0), (49, 0, 1), (50, 201, 124), (53, 15, 4), (54, 41, 21), (57, 4, 0), (58, 70, 28), (61, 201, 125)] : List (Nat × Nat × Int)), ∀ x ∈ dkAll 1 z.2.1 z.2.2, decode cX15_addClub (z.1 + x.1) = .ok (x.2.1, x.2.2) := by decide +kernel
theorem kd_X15_addClub_1 : ∀ z ∈ ([(66, 16, 8), (68, 41, 7), (71, 15, 1), (72, 53, 4), (76, 15, 2), (77, 201, 122), (80, 32, 5), (83, 15, 0), (84, 200, 0), (85, 4, 0), (86, 70, 28), (89, 69, 5), (92, 22, 0), (93, 0, 1), (94, 0, 2), (95, 0, 3), (96, 201, 126), (99, 201, 127), (104, 24, 0), (105, 4, 0), (106, 70, 28), (109, 201, 125), (114, 15, 1), (115, 26, 0), (116, 200, 0)] : List (Nat × Nat × Int)), ∀ x ∈ dkAll 1 z.2.1 z.2.2, decode cX15_addClub (z.1 + x.1) = .ok (x.2.1, x.2.2) := by decide +kernel
theorem kd_X15_addClub : rDec 59 1 cX15_addClub := fun bs h => by
  cases (show codeT[59]? = some k_X15_addClub from rfl).symm.trans h
  exact (List.forall_mem_cons.mpr ⟨kd_X15_addClub_0, List.forall_mem_cons.mpr ⟨kd_X15_addClub_1, fun _ h => absurd h List.not_mem_nil⟩⟩ : ∀ bl ∈ k_X15_addClub, ∀ z ∈ bl, ∀ x ∈ dkAll 1 z.2.1 z.2.2, decode cX15_addClub (z.1 + x.1) = .ok (x.2.1, x.2.2))
theorem kd_X15_addPlayer_0 : ∀ z ∈ ([(0, 4, 0), (1, 4, 0), (2, 0, 1), (3, 201, 128), (6, 15, 1), (7, 201, 122), (10, 33, 30), (40, 15, 0), (41, 200, 0)] : List (Nat × Nat × Int)), ∀ x ∈ dkAll 1 z.2.1 z.2.2, decode cX15_addPlayer (z.1 + x.1) = .ok (x.2.1, x.2.2) := by decide +kernel
theorem kd_X15_addPlayer : rDec 60 1 cX15_addPlayer := fun bs h => by
  cases (show codeT[60]? = some k_X15_addPlayer from rfl).symm.trans h
  exact (List.forall_mem_cons.mpr ⟨kd_X15_addPlayer_0, fun _ h => absurd h List.not_mem_nil⟩ : ∀ bl ∈ k_X15_addPlayer, ∀ z ∈ bl, ∀ x ∈ dkAll 1 z.2.1 z.2.2, decode cX15_addPlayer (z.1 + x.1) = .ok (x.2.1, x.2.2))
theorem kd_X15_appeal_0 : ∀ z ∈ ([(0, 4, 0), (1, 0, 1), (2, 30, 0), (3, 18, 0), (4, 4, 0), (5, 70, 29), (8, 201, 125), (13, 15, 1), (14, 26, 0), (15, 30, 0), (16, 201, 123), (19, 15, 1), (20, 201, 122), (23, 32, 5), (26, 15, 0), (27, 200, 0)] : List (Nat × Nat × Int)), ∀ x ∈ dkAll 6 z.2.1 z.2.2, decode cX15_appeal (z.1 + x.1) = .ok (x.2.1, x.2.2) := by decide +kernel
theorem kd_X15_appeal : rDec 61 6 cX15_appeal := fun bs h => by
  cases (show codeT[61]? = some k_X15_appeal from rfl).symm.trans h
  exact (List.forall_mem_cons.mpr ⟨kd_X15_appeal_0, fun _ h => absurd h List.not_mem_nil⟩ : ∀ bl ∈ k_X15_appeal, ∀ z ∈ bl, ∀ x ∈ dkAll 6 z.2.1 z.2.2, decode cX15_appeal (z.1 + x.1) = .ok (x.2.1, x.2.2))
theorem kd_X15_ban_0 : ∀ z ∈ ([(0, 4, 0), (1, 4, 0), (2, 0, 1), (3, 201, 129), (6, 15, 1), (7, 201, 122), (10, 32, 5), (13, 15, 0), (14, 200, 0)] : List (Nat × Nat × Int)), ∀ x ∈ dkAll 1 z.2.1 z.2.2, decode cX15_ban (z.1 + x.1) = .ok (x.2.1, x.2.2) := by decide +kernel
theorem kd_X15_ban : rDec 62 1 cX15_ban := fun bs h => by
  cases (show codeT[62]? = some k_X15_ban from rfl).symm.trans h
  exact (List.forall_mem_cons.mpr ⟨kd_X15_ban_0, fun _ h => absurd h List.not_mem_nil⟩ : ∀ bl ∈ k_X15_ban, ∀ z ∈ bl, ∀ x ∈ dkAll 1 z.2.1 z.2.2, decode cX15_ban (z.1 + x.1) = .ok (x.2.1, x.2.2))
theorem kd_X15_callBack_0 : ∀ z ∈ ([(0, 4, 0), (1, 4, 0), (2, 0, 1), (3, 201, 129), (6, 15, 1), (7, 201, 122), (10, 33, 42), (52, 15, 0), (53, 200, 0)] : List (Nat × Nat × Int)), ∀ x ∈ dkAll 1 z.2.1 z.2.2, decode cX15_callBack (z.1 + x.1) = .ok (x.2.1, x.2.2) := by decide +kernel
theorem kd_X15_callBack : rDec 63 1 cX15_callBack := fun bs h => by
  cases (show codeT[63]? = some k_X15_callBack from rfl).symm.trans h
  exact (List.forall_mem_cons.mpr ⟨kd_X15_callBack_0, fun _ h => absurd h List.not_mem_nil⟩ : ∀ bl ∈ k_X15_callBack, ∀ z ∈ bl, ∀ x ∈ dkAll 1 z.2.1 z.2.2, decode cX15_callBack (z.1 + x.1) = .ok (x.2.1, x.2.2))
theorem kd_X15_card_0 : ∀ z ∈ ([(0, 4, 0), (1, 0, 1), (2, 201, 130), (5, 33, 16), (21, 15, 0), (22, 200, 0)] : List (Nat × Nat × Int)), ∀ x ∈ dkAll 1 z.2.1 z.2.2, decode cX15_card (z.1 + x.1) = .ok (x.2.1, x.2.2) := by decide +kernel
theorem kd_X15_card : rDec 64 1 cX15_card := fun bs h => by
  cases (show codeT[64]? = some k_X15_card from rfl).symm.trans h
  exact (List.forall_mem_cons.mpr ⟨kd_X15_card_0, fun _ h => absurd h List.not_mem_nil⟩ : ∀ bl ∈ k_X15_card, ∀ z ∈ bl, ∀ x ∈ dkAll 1 z.2.1 z.2.2, decode cX15_card (z.1 + x.1) = .ok (x.2.1, x.2.2))
theorem kd_X15_change_0 : ∀ z ∈ ([(0, 4, 0), (1, 4, 0), (2, 0, 1), (3, 201, 129), (6, 32, 15), (21, 15, 0), (22, 15, 1), (23, 201, 122), (26, 33, 23), (49, 15, 0), (50, 200, 0)] : List (Nat × Nat × Int)), ∀ x ∈ dkAll 1 z.2.1 z.2.2, decode cX15_change (z.1 + x.1) = .ok (x.2.1, x.2.2) := by decide +kernel
theorem kd_X15_change : rDec 65 1 cX15_change := fun bs h => by
  cases (show codeT[65]? = some k_X15_change from rfl).symm.trans h
  exact (List.forall_mem_cons.mpr ⟨kd_X15_change_0, fun _ h => absurd h List.not_mem_nil⟩ : ∀ bl ∈ k_X15_change, ∀ z ∈ bl, ∀ x ∈ dkAll 1 z.2.1 z.2.2, decode cX15_change (z.1 + x.1) = .ok (x.2.1, x.2.2))
theorem kd_X15_clubAt_0 : ∀ z ∈ ([(0, 4, 0), (1, 0, 1), (2, 30, 0), (3, 18, 0), (4, 18, 1), (5, 201, 123), (8, 15, 1), (9, 201, 122), (12, 33, 25), (15, 4, 0), (16, 0, 2), (17, 30, 0), (18, 18, 0), (19, 4, 0), (20, 0, 1), (21, 201, 124), (24, 15, 1), (25, 26, 0), (26, 30, 0), (27, 201, 123), (30, 15, 2), (31, 201, 122), (34, 32, 5), (37, 15, 0), (38, 200, 0)] : List (Nat × Nat × Int)), ∀ x ∈ dkAll 1 z.2.1 z.2.2, decode cX15_clubAt (z.1 + x.1) = .ok (x.2.1, x.2.2) := by decide +kernel
theorem kd_X15_clubAt : rDec 66 1 cX15_clubAt := fun bs h => by
  cases (show codeT[66]? = some k_X15_clubAt from rfl).symm.trans h
  exact (List.forall_mem_cons.mpr ⟨kd_X15_clubAt_0, fun _ h => absurd h List.not_mem_nil⟩ : ∀ bl ∈ k_X15_clubAt, ∀ z ∈ bl, ∀ x ∈ dkAll 1 z.2.1 z.2.2, decode cX15_clubAt (z.1 + x.1) = .ok (x.2.1, x.2.2))
theorem kd_X15_clubsIn_0 : ∀ z ∈ ([(0, 15, 0), (1, 7, 2), (2, 4, 0), (3, 70, 28), (6, 201, 131), (11, 9, 3), (12, 4, 3), (13, 201, 132), (18, 32, 34), (52, 0, 2), (53, 200, 0)] : List (Nat × Nat × Int)), ∀ x ∈ dkAll 1 z.2.1 z.2.2, decode cX15_clubsIn (z.1 + x.1) = .ok (x.2.1, x.2.2) := by decide +kernel
theorem kd_X15_clubsIn : rDec 67 1 cX15_clubsIn := fun bs h => by
  cases (show codeT[67]? = some k_X15_clubsIn from rfl).symm.trans h
  exact (List.forall_mem_cons.mpr ⟨kd_X15_clubsIn_0, fun _ h => absurd h List.not_mem_nil⟩ : ∀ bl ∈ k_X15_clubsIn, ∀ z ∈ bl, ∀ x ∈ dkAll 1 z.2.1 z.2.2, decode cX15_clubsIn (z.1 + x.1) = .ok (x.2.1, x.2.2))
theorem kd_X15_counting_0 : ∀ z ∈ ([(0, 69, 6), (3, 22, 0), (4, 201, 133), (7, 9, 2), (8, 15, 0), (9, 7, 3), (10, 0, 3), (11, 4, 0), (12, 70, 28), (15, 201, 125), (20, 41, 59)] : List (Nat × Nat × Int)), ∀ x ∈ dkAll 3 z.2.1 z.2.2, decode cX15_counting (z.1 + x.1) = .ok (x.2.1, x.2.2) := by decide +kernel
theorem kd_X15_counting_1 : ∀ z ∈ ([(79, 4, 2), (80, 200, 0)] : List (Nat × Nat × Int)), ∀ x ∈ dkAll 3 z.2.1 z.2.2, decode cX15_counting (z.1 + x.1) = .ok (x.2.1, x.2.2) := by decide +kernel
theorem kd_X15_counting : rDec 68 3 cX15_counting := fun bs h => by
  cases (show codeT[68]? = some k_X15_counting from rfl).symm.trans h
  exact (List.forall_mem_cons.mpr ⟨kd_X15_counting_0, List.forall_mem_cons.mpr ⟨kd_X15_counting_1, fun _ h => absurd h List.not_mem_nil⟩⟩ : ∀ bl ∈ k_X15_counting, ∀ z ∈ bl, ∀ x ∈ dkAll 3 z.2.1 z.2.2, decode cX15_counting (z.1 + x.1) = .ok (x.2.1, x.2.2))
theorem kd_X15_divisionOf_0 : ∀ z ∈ ([(0, 4, 0), (1, 4, 0), (2, 0, 1), (3, 201, 128), (6, 15, 1), (7, 201, 122), (10, 32, 7), (13, 15, 0), (14, 53, 19), (33, 200, 0)] : List (Nat × Nat × Int)), ∀ x ∈ dkAll 1 z.2.1 z.2.2, decode cX15_divisionOf (z.1 + x.1) = .ok (x.2.1, x.2.2) := by decide +kernel
theorem kd_X15_divisionOf : rDec 69 1 cX15_divisionOf := fun bs h => by
  cases (show codeT[69]? = some k_X15_divisionOf from rfl).symm.trans h
  exact (List.forall_mem_cons.mpr ⟨kd_X15_divisionOf_0, fun _ h => absurd h List.not_mem_nil⟩ : ∀ bl ∈ k_X15_divisionOf, ∀ z ∈ bl, ∀ x ∈ dkAll 1 z.2.1 z.2.2, decode cX15_divisionOf (z.1 + x.1) = .ok (x.2.1, x.2.2))
theorem kd_X15_end_0 : ∀ z ∈ ([(0, 4, 0), (1, 4, 0), (2, 70, 27), (5, 51, 7), (12, 15, 0), (13, 15, 1), (14, 201, 122), (17, 32, 5), (20, 15, 0), (21, 200, 0)] : List (Nat × Nat × Int)), ∀ x ∈ dkAll 1 z.2.1 z.2.2, decode cX15_end (z.1 + x.1) = .ok (x.2.1, x.2.2) := by decide +kernel
theorem kd_X15_end : rDec 70 1 cX15_end := fun bs h => by
  cases (show codeT[70]? = some k_X15_end from rfl).symm.trans h
  exact (List.forall_mem_cons.mpr ⟨kd_X15_end_0, fun _ h => absurd h List.not_mem_nil⟩ : ∀ bl ∈ k_X15_end, ∀ z ∈ bl, ∀ x ∈ dkAll 1 z.2.1 z.2.2, decode cX15_end (z.1 + x.1) = .ok (x.2.1, x.2.2))
theorem kd_X15_endSeason_0 : ∀ z ∈ ([(0, 15, 1), (1, 7, 1), (2, 4, 0), (3, 70, 30), (6, 201, 131), (11, 9, 2), (12, 4, 2), (13, 201, 132), (18, 32, 75)] : List (Nat × Nat × Int)), ∀ x ∈ dkAll 1 z.2.1 z.2.2, decode cX15_endSeason (z.1 + x.1) = .ok (x.2.1, x.2.2) := by decide +kernel
theorem kd_X15_endSeason_1 : ∀ z ∈ ([(93, 4, 0), (94, 0, 1), (95, 32, 14), (98, 4, 0), (99, 70, 27), (102, 52, 7), (105, 15, 1), (106, 53, 4), (110, 15, 1), (111, 201, 122), (114, 32, 5), (119, 4, 0), (120, 201, 134), (123, 4, 0), (124, 15, 0), (125, 201, 135)] : List (Nat × Nat × Int)), ∀ x ∈ dkAll 1 z.2.1 z.2.2, decode cX15_endSeason (z.1 + x.1) = .ok (x.2.1, x.2.2) := by decide +kernel
theorem kd_X15_endSeason_2 : ∀ z ∈ ([(128, 9, 2), (129, 4, 0), (130, 15, 1), (131, 201, 135), (134, 9, 3), (135, 15, -1), (136, 8, 4), (138, 4, 3), (139, 201, 131), (144, 10, 5), (146, 5, 5), (148, 201, 132), (153, 32, 72)] : List (Nat × Nat × Int)), ∀ x ∈ dkAll 1 z.2.1 z.2.2, decode cX15_endSeason (z.1 + x.1) = .ok (x.2.1, x.2.2) := by decide +kernel
theorem kd_X15_endSeason_3 : ∀ z ∈ ([(225, 1, 4), (227, 15, -1), (228, 38, 21), (249, 1, 4), (251, 15, -1), (252, 38, 48)] : List (Nat × Nat × Int)), ∀ x ∈ dkAll 1 z.2.1 z.2.2, decode cX15_endSeason (z.1 + x.1) = .ok (x.2.1, x.2.2) := by decide +kernel
theorem kd_X15_endSeason_4 : ∀ z ∈ ([(300, 4, 0), (301, 70, 30), (304, 201, 136), (309, 4, 0), (310, 70, 28), (313, 201, 131), (318, 10, 5)] : List (Nat × Nat × Int)), ∀ x ∈ dkAll 1 z.2.1 z.2.2, decode cX15_endSeason (z.1 + x.1) = .ok (x.2.1, x.2.2) := by decide +kernel
theorem kd_X15_endSeason_5 : ∀ z ∈ ([(320, 5, 5), (322, 201, 132), (327, 32, 30), (357, 4, 0), (358, 70, 31), (361, 69, 7), (364, 22, 0), (365, 16, 119), (367, 21, 0), (368, 15, -1), (369, 15, 1), (370, 201, 137), (373, 201, 127), (378, 24, 0), (379, 1, 4), (381, 200, 0)] : List (Nat × Nat × Int)), ∀ x ∈ dkAll 1 z.2.1 z.2.2, decode cX15_endSeason (z.1 + x.1) = .ok (x.2.1, x.2.2) := by decide +kernel
theorem kd_X15_endSeason : rDec 71 1 cX15_endSeason := fun bs h => by
  cases (show codeT[71]? = some k_X15_endSeason from rfl).symm.trans h
  exact (List.forall_mem_cons.mpr ⟨kd_X15_endSeason_0, List.forall_mem_cons.mpr ⟨kd_X15_endSeason_1, List.forall_mem_cons.mpr ⟨kd_X15_endSeason_2, List.forall_mem_cons.mpr ⟨kd_X15_endSeason_3, List.forall_mem_cons.mpr ⟨kd_X15_endSeason_4, List.forall_mem_cons.mpr ⟨kd_X15_endSeason_5, fun _ h => absurd h List.not_mem_nil⟩⟩⟩⟩⟩⟩ : ∀ bl ∈ k_X15_endSeason, ∀ z ∈ bl, ∀ x ∈ dkAll 1 z.2.1 z.2.2, decode cX15_endSeason (z.1 + x.1) = .ok (x.2.1, x.2.2))
theorem kd_X15_fixture_0 : ∀ z ∈ ([(0, 4, 0), (1, 0, 1), (2, 201, 138), (5, 33, 34), (39, 15, 0), (40, 200, 0)] : List (Nat × Nat × Int)), ∀ x ∈ dkAll 1 z.2.1 z.2.2, decode cX15_fixture (z.1 + x.1) = .ok (x.2.1, x.2.2) := by decide +kernel
theorem kd_X15_fixture : rDec 72 1 cX15_fixture := fun bs h => by
  cases (show codeT[72]? = some k_X15_fixture from rfl).symm.trans h
  exact (List.forall_mem_cons.mpr ⟨kd_X15_fixture_0, fun _ h => absurd h List.not_mem_nil⟩ : ∀ bl ∈ k_X15_fixture, ∀ z ∈ bl, ∀ x ∈ dkAll 1 z.2.1 z.2.2, decode cX15_fixture (z.1 + x.1) = .ok (x.2.1, x.2.2))
theorem kd_X15_goOn_0 : ∀ z ∈ ([(0, 4, 0), (1, 0, 1), (2, 30, 0), (3, 18, 1), (4, 78, 2), (7, 201, 123), (10, 15, 1), (11, 201, 122), (14, 33, 23), (17, 4, 0), (18, 4, 0), (19, 70, 27), (22, 52, 7), (25, 15, 1), (26, 53, 4), (30, 15, 2), (31, 201, 122), (34, 32, 5), (37, 15, 0), (38, 200, 0), (39, 4, 0), (40, 22, 0), (41, 70, 32), (44, 0, 1), (45, 25, 0), (46, 72, 32), (49, 4, 0), (50, 70, 32), (53, 200, 0)] : List (Nat × Nat × Int)), ∀ x ∈ dkAll 1 z.2.1 z.2.2, decode cX15_goOn (z.1 + x.1) = .ok (x.2.1, x.2.2) := by decide +kernel
theorem kd_X15_goOn : rDec 73 1 cX15_goOn := fun bs h => by
  cases (show codeT[73]? = some k_X15_goOn from rfl).symm.trans h
  exact (List.forall_mem_cons.mpr ⟨kd_X15_goOn_0, fun _ h => absurd h List.not_mem_nil⟩ : ∀ bl ∈ k_X15_goOn, ∀ z ∈ bl, ∀ x ∈ dkAll 1 z.2.1 z.2.2, decode cX15_goOn (z.1 + x.1) = .ok (x.2.1, x.2.2))
theorem kd_X15_goal_0 : ∀ z ∈ ([(0, 4, 0), (1, 0, 1), (2, 201, 130), (5, 33, 45), (50, 15, 0), (51, 200, 0)] : List (Nat × Nat × Int)), ∀ x ∈ dkAll 1 z.2.1 z.2.2, decode cX15_goal (z.1 + x.1) = .ok (x.2.1, x.2.2) := by decide +kernel
theorem kd_X15_goal : rDec 74 1 cX15_goal := fun bs h => by
  cases (show codeT[74]? = some k_X15_goal from rfl).symm.trans h
  exact (List.forall_mem_cons.mpr ⟨kd_X15_goal_0, fun _ h => absurd h List.not_mem_nil⟩ : ∀ bl ∈ k_X15_goal, ∀ z ∈ bl, ∀ x ∈ dkAll 1 z.2.1 z.2.2, decode cX15_goal (z.1 + x.1) = .ok (x.2.1, x.2.2))
theorem kd_X15_goesThrough_0 : ∀ z ∈ ([(0, 15, 0), (1, 7, 1), (2, 0, 1), (3, 16, 24), (5, 41, 23), (8, 4, 0), (9, 70, 33), (12, 0, 1), (13, 15, 0), (14, 58, 0), (15, 4, 0), (16, 70, 34), (19, 0, 1), (20, 15, 0), (21, 58, 0), (22, 29, 1501), (25, 53, -23), (28, 4, 0), (29, 70, 31), (32, 201, 131), (37, 9, 1), (38, 4, 1), (39, 201, 132), (44, 32, 143)] : List (Nat × Nat × Int)), ∀ x ∈ dkAll 0 z.2.1 z.2.2, decode cX15_goesThrough (z.1 + x.1) = .ok (x.2.1, x.2.2) := by decide +kernel
theorem kd_X15_goesThrough_1 : ∀ z ∈ ([] : List (Nat × Nat × Int)), ∀ x ∈ dkAll 0 z.2.1 z.2.2, decode cX15_goesThrough (z.1 + x.1) = .ok (x.2.1, x.2.2) := by decide +kernel
theorem kd_X15_goesThrough_2 : ∀ z ∈ ([(187, 200, 0)] : List (Nat × Nat × Int)), ∀ x ∈ dkAll 0 z.2.1 z.2.2, decode cX15_goesThrough (z.1 + x.1) = .ok (x.2.1, x.2.2) := by decide +kernel
theorem kd_X15_goesThrough : rDec 75 0 cX15_goesThrough := fun bs h => by
  cases (show codeT[75]? = some k_X15_goesThrough from rfl).symm.trans h
  exact (List.forall_mem_cons.mpr ⟨kd_X15_goesThrough_0, List.forall_mem_cons.mpr ⟨kd_X15_goesThrough_1, List.forall_mem_cons.mpr ⟨kd_X15_goesThrough_2, fun _ h => absurd h List.not_mem_nil⟩⟩⟩ : ∀ bl ∈ k_X15_goesThrough, ∀ z ∈ bl, ∀ x ∈ dkAll 0 z.2.1 z.2.2, decode cX15_goesThrough (z.1 + x.1) = .ok (x.2.1, x.2.2))
theorem kd_X15_hasFixtures_0 : ∀ z ∈ ([(0, 15, 0), (1, 7, 2), (2, 4, 0), (3, 70, 30), (6, 201, 131), (11, 9, 3), (12, 4, 3), (13, 201, 132), (18, 32, 49)] : List (Nat × Nat × Int)), ∀ x ∈ dkAll 6 z.2.1 z.2.2, decode cX15_hasFixtures (z.1 + x.1) = .ok (x.2.1, x.2.2) := by decide +kernel
theorem kd_X15_hasFixtures_1 : ∀ z ∈ ([(67, 0, 2), (68, 200, 0)] : List (Nat × Nat × Int)), ∀ x ∈ dkAll 6 z.2.1 z.2.2, decode cX15_hasFixtures (z.1 + x.1) = .ok (x.2.1, x.2.2) := by decide +kernel
theorem kd_X15_hasFixtures : rDec 76 6 cX15_hasFixtures := fun bs h => by
  cases (show codeT[76]? = some k_X15_hasFixtures from rfl).symm.trans h
  exact (List.forall_mem_cons.mpr ⟨kd_X15_hasFixtures_0, List.forall_mem_cons.mpr ⟨kd_X15_hasFixtures_1, fun _ h => absurd h List.not_mem_nil⟩⟩ : ∀ bl ∈ k_X15_hasFixtures, ∀ z ∈ bl, ∀ x ∈ dkAll 6 z.2.1 z.2.2, decode cX15_hasFixtures (z.1 + x.1) = .ok (x.2.1, x.2.2))
theorem kd_X15_init_0 : ∀ z ∈ ([(0, 4, 0), (1, 75, 5), (4, 4, 0), (5, 69, 6), (8, 22, 0), (9, 201, 133), (12, 73, 28), (15, 4, 0), (16, 69, 6), (19, 22, 0), (20, 201, 133), (23, 73, 35), (26, 4, 0), (27, 69, 6), (30, 22, 0), (31, 201, 133), (34, 73, 30), (37, 4, 0), (38, 69, 6), (41, 22, 0), (42, 201, 133), (45, 73, 29), (48, 4, 0), (49, 69, 6), (52, 22, 0), (53, 201, 133), (56, 73, 31), (59, 4, 0), (60, 16, 64), (62, 65, 0)] : List (Nat × Nat × Int)), ∀ x ∈ dkAll 0 z.2.1 z.2.2, decode cX15_init (z.1 + x.1) = .ok (x.2.1, x.2.2) := by decide +kernel
theorem kd_X15_init_1 : ∀ z ∈ ([(64, 73, 36), (67, 4, 0), (68, 16, 24), (70, 64, 0), (72, 73, 33), (75, 4, 0), (76, 16, 24), (78, 64, 0), (80, 73, 34), (83, 4, 0), (84, 15, 1), (85, 72, 37), (88, 4, 0), (89, 15, 0), (90, 72, 38), (93, 4, 0), (94, 21, 0), (95, 72, 27), (98, 200, 0)] : List (Nat × Nat × Int)), ∀ x ∈ dkAll 0 z.2.1 z.2.2, decode cX15_init (z.1 + x.1) = .ok (x.2.1, x.2.2) := by decide +kernel
theorem kd_X15_init : rDec 77 0 cX15_init := fun bs h => by
  cases (show codeT[77]? = some k_X15_init from rfl).symm.trans h
  exact (List.forall_mem_cons.mpr ⟨kd_X15_init_0, List.forall_mem_cons.mpr ⟨kd_X15_init_1, fun _ h => absurd h List.not_mem_nil⟩⟩ : ∀ bl ∈ k_X15_init, ∀ z ∈ bl, ∀ x ∈ dkAll 0 z.2.1 z.2.2, decode cX15_init (z.1 + x.1) = .ok (x.2.1, x.2.2))
theorem kd_X15_isClub_0 : ∀ z ∈ ([(0, 0, 1), (1, 30, 0), (2, 18, 0), (3, 4, 0), (4, 70, 28), (7, 201, 125), (12, 15, 1), (13, 26, 0), (14, 30, 0), (15, 201, 123), (18, 200, 0)] : List (Nat × Nat × Int)), ∀ x ∈ dkAll 6 z.2.1 z.2.2, decode cX15_isClub (z.1 + x.1) = .ok (x.2.1, x.2.2) := by decide +kernel
theorem kd_X15_isClub : rDec 78 6 cX15_isClub := fun bs h => by
  cases (show codeT[78]? = some k_X15_isClub from rfl).symm.trans h
  exact (List.forall_mem_cons.mpr ⟨kd_X15_isClub_0, fun _ h => absurd h List.not_mem_nil⟩ : ∀ bl ∈ k_X15_isClub, ∀ z ∈ bl, ∀ x ∈ dkAll 6 z.2.1 z.2.2, decode cX15_isClub (z.1 + x.1) = .ok (x.2.1, x.2.2))
theorem kd_X15_isGuilty_0 : ∀ z ∈ ([(0, 4, 0), (1, 0, 1), (2, 201, 138), (5, 33, 37), (42, 15, 0), (43, 200, 0)] : List (Nat × Nat × Int)), ∀ x ∈ dkAll 6 z.2.1 z.2.2, decode cX15_isGuilty (z.1 + x.1) = .ok (x.2.1, x.2.2) := by decide +kernel
theorem kd_X15_isGuilty : rDec 79 6 cX15_isGuilty := fun bs h => by
  cases (show codeT[79]? = some k_X15_isGuilty from rfl).symm.trans h
  exact (List.forall_mem_cons.mpr ⟨kd_X15_isGuilty_0, fun _ h => absurd h List.not_mem_nil⟩ : ∀ bl ∈ k_X15_isGuilty, ∀ z ∈ bl, ∀ x ∈ dkAll 6 z.2.1 z.2.2, decode cX15_isGuilty (z.1 + x.1) = .ok (x.2.1, x.2.2))
theorem kd_X15_isIn_0 : ∀ z ∈ ([(0, 2, 0), (1, 2, 2), (2, 46, 14), (6, 2, 0), (7, 3, 4), (9, 48, 7), (13, 15, 1), (14, 53, 4), (17, 15, 0), (18, 200, 0)] : List (Nat × Nat × Int)), ∀ x ∈ dkAll 6 z.2.1 z.2.2, decode cX15_isIn (z.1 + x.1) = .ok (x.2.1, x.2.2) := by decide +kernel
theorem kd_X15_isIn : rDec 80 6 cX15_isIn := fun bs h => by
  cases (show codeT[80]? = some k_X15_isIn from rfl).symm.trans h
  exact (List.forall_mem_cons.mpr ⟨kd_X15_isIn_0, fun _ h => absurd h List.not_mem_nil⟩ : ∀ bl ∈ k_X15_isIn, ∀ z ∈ bl, ∀ x ∈ dkAll 6 z.2.1 z.2.2, decode cX15_isIn (z.1 + x.1) = .ok (x.2.1, x.2.2))
theorem kd_X15_isOpen_0 : ∀ z ∈ ([(0, 4, 0), (1, 70, 32), (4, 30, 0), (5, 4, 0), (6, 70, 37), (9, 30, 0), (10, 4, 0), (11, 70, 38), (14, 30, 0), (15, 201, 123), (18, 200, 0)] : List (Nat × Nat × Int)), ∀ x ∈ dkAll 6 z.2.1 z.2.2, decode cX15_isOpen (z.1 + x.1) = .ok (x.2.1, x.2.2) := by decide +kernel
theorem kd_X15_isOpen : rDec 81 6 cX15_isOpen := fun bs h => by
  cases (show codeT[81]? = some k_X15_isOpen from rfl).symm.trans h
  exact (List.forall_mem_cons.mpr ⟨kd_X15_isOpen_0, fun _ h => absurd h List.not_mem_nil⟩ : ∀ bl ∈ k_X15_isOpen, ∀ z ∈ bl, ∀ x ∈ dkAll 6 z.2.1 z.2.2, decode cX15_isOpen (z.1 + x.1) = .ok (x.2.1, x.2.2))
theorem kd_X15_isPlayer_0 : ∀ z ∈ ([(0, 0, 1), (1, 30, 0), (2, 18, 0), (3, 4, 0), (4, 70, 35), (7, 201, 125), (12, 15, 1), (13, 26, 0), (14, 30, 0), (15, 201, 123), (18, 200, 0)] : List (Nat × Nat × Int)), ∀ x ∈ dkAll 6 z.2.1 z.2.2, decode cX15_isPlayer (z.1 + x.1) = .ok (x.2.1, x.2.2) := by decide +kernel
theorem kd_X15_isPlayer : rDec 82 6 cX15_isPlayer := fun bs h => by
  cases (show codeT[82]? = some k_X15_isPlayer from rfl).symm.trans h
  exact (List.forall_mem_cons.mpr ⟨kd_X15_isPlayer_0, fun _ h => absurd h List.not_mem_nil⟩ : ∀ bl ∈ k_X15_isPlayer, ∀ z ∈ bl, ∀ x ∈ dkAll 6 z.2.1 z.2.2, decode cX15_isPlayer (z.1 + x.1) = .ok (x.2.1, x.2.2))
theorem kd_X15_isSound_0 : ∀ z ∈ ([(0, 15, 1), (1, 200, 0)] : List (Nat × Nat × Int)), ∀ x ∈ dkAll 6 z.2.1 z.2.2, decode cX15_isSound (z.1 + x.1) = .ok (x.2.1, x.2.2) := by decide +kernel
theorem kd_X15_isSound : rDec 83 6 cX15_isSound := fun bs h => by
  cases (show codeT[83]? = some k_X15_isSound from rfl).symm.trans h
  exact (List.forall_mem_cons.mpr ⟨kd_X15_isSound_0, fun _ h => absurd h List.not_mem_nil⟩ : ∀ bl ∈ k_X15_isSound, ∀ z ∈ bl, ∀ x ∈ dkAll 6 z.2.1 z.2.2, decode cX15_isSound (z.1 + x.1) = .ok (x.2.1, x.2.2))
theorem kd_X15_kickOff_0 : ∀ z ∈ ([(0, 4, 0), (1, 0, 1), (2, 201, 138), (5, 32, 5), (8, 15, 0), (9, 200, 0)] : List (Nat × Nat × Int)), ∀ x ∈ dkAll 1 z.2.1 z.2.2, decode cX15_kickOff (z.1 + x.1) = .ok (x.2.1, x.2.2) := by decide +kernel
theorem kd_X15_kickOff : rDec 84 1 cX15_kickOff := fun bs h => by
  cases (show codeT[84]? = some k_X15_kickOff from rfl).symm.trans h
  exact (List.forall_mem_cons.mpr ⟨kd_X15_kickOff_0, fun _ h => absurd h List.not_mem_nil⟩ : ∀ bl ∈ k_X15_kickOff, ∀ z ∈ bl, ∀ x ∈ dkAll 1 z.2.1 z.2.2, decode cX15_kickOff (z.1 + x.1) = .ok (x.2.1, x.2.2))
theorem kd_X15_lend_0 : ∀ z ∈ ([(0, 4, 0), (1, 4, 0), (2, 0, 1), (3, 201, 129), (6, 32, 15), (21, 15, 0), (22, 15, 1), (23, 201, 122), (26, 32, 5), (29, 15, 0), (30, 200, 0)] : List (Nat × Nat × Int)), ∀ x ∈ dkAll 1 z.2.1 z.2.2, decode cX15_lend (z.1 + x.1) = .ok (x.2.1, x.2.2) := by decide +kernel
theorem kd_X15_lend : rDec 85 1 cX15_lend := fun bs h => by
  cases (show codeT[85]? = some k_X15_lend from rfl).symm.trans h
  exact (List.forall_mem_cons.mpr ⟨kd_X15_lend_0, fun _ h => absurd h List.not_mem_nil⟩ : ∀ bl ∈ k_X15_lend, ∀ z ∈ bl, ∀ x ∈ dkAll 1 z.2.1 z.2.2, decode cX15_lend (z.1 + x.1) = .ok (x.2.1, x.2.2))
theorem kd_X15_meanGoals_0 : ∀ z ∈ ([(0, 4, 0), (1, 4, 0), (2, 201, 139), (5, 37, 7), (12, 15, 0), (13, 15, 1), (14, 201, 122), (17, 32, 5), (20, 20, 0), (21, 200, 0)] : List (Nat × Nat × Int)), ∀ x ∈ dkAll 5 z.2.1 z.2.2, decode cX15_meanGoals (z.1 + x.1) = .ok (x.2.1, x.2.2) := by decide +kernel
theorem kd_X15_meanGoals : rDec 86 5 cX15_meanGoals := fun bs h => by
  cases (show codeT[86]? = some k_X15_meanGoals from rfl).symm.trans h
  exact (List.forall_mem_cons.mpr ⟨kd_X15_meanGoals_0, fun _ h => absurd h List.not_mem_nil⟩ : ∀ bl ∈ k_X15_meanGoals, ∀ z ∈ bl, ∀ x ∈ dkAll 5 z.2.1 z.2.2, decode cX15_meanGoals (z.1 + x.1) = .ok (x.2.1, x.2.2))
theorem kd_X15_money_0 : ∀ z ∈ ([(0, 18, 0), (1, 12, 1), (2, 4, 0), (3, 70, 28), (6, 201, 131), (11, 9, 3), (12, 4, 3), (13, 201, 132), (18, 32, 26), (44, 2, 1), (45, 200, 0)] : List (Nat × Nat × Int)), ∀ x ∈ dkAll 2 z.2.1 z.2.2, decode cX15_money (z.1 + x.1) = .ok (x.2.1, x.2.2) := by decide +kernel
theorem kd_X15_money : rDec 87 2 cX15_money := fun bs h => by
  cases (show codeT[87]? = some k_X15_money from rfl).symm.trans h
  exact (List.forall_mem_cons.mpr ⟨kd_X15_money_0, fun _ h => absurd h List.not_mem_nil⟩ : ∀ bl ∈ k_X15_money, ∀ z ∈ bl, ∀ x ∈ dkAll 2 z.2.1 z.2.2, decode cX15_money (z.1 + x.1) = .ok (x.2.1, x.2.2))
theorem kd_X15_name_0 : ∀ z ∈ ([(0, 4, 0), (1, 0, 1), (2, 30, 0), (3, 18, 0), (4, 4, 0), (5, 70, 30), (8, 201, 125), (13, 15, 1), (14, 26, 0), (15, 30, 0), (16, 201, 123), (19, 32, 15), (34, 15, 0), (35, 15, 1), (36, 201, 122), (39, 32, 5), (42, 15, 0), (43, 200, 0)] : List (Nat × Nat × Int)), ∀ x ∈ dkAll 1 z.2.1 z.2.2, decode cX15_name (z.1 + x.1) = .ok (x.2.1, x.2.2) := by decide +kernel
theorem kd_X15_name : rDec 88 1 cX15_name := fun bs h => by
  cases (show codeT[88]? = some k_X15_name from rfl).symm.trans h
  exact (List.forall_mem_cons.mpr ⟨kd_X15_name_0, fun _ h => absurd h List.not_mem_nil⟩ : ∀ bl ∈ k_X15_name, ∀ z ∈ bl, ∀ x ∈ dkAll 1 z.2.1 z.2.2, decode cX15_name (z.1 + x.1) = .ok (x.2.1, x.2.2))
theorem kd_X15_no_0 : ∀ z ∈ ([(0, 4, 0), (1, 0, 1), (2, 32, 7), (5, 15, 0), (6, 53, 4), (9, 0, 2), (10, 72, 39), (13, 0, 1), (14, 33, 7), (17, 15, 1), (18, 53, 4), (21, 15, 0), (22, 200, 0)] : List (Nat × Nat × Int)), ∀ x ∈ dkAll 6 z.2.1 z.2.2, decode cX15_no (z.1 + x.1) = .ok (x.2.1, x.2.2) := by decide +kernel
theorem kd_X15_no : rDec 89 6 cX15_no := fun bs h => by
  cases (show codeT[89]? = some k_X15_no from rfl).symm.trans h
  exact (List.forall_mem_cons.mpr ⟨kd_X15_no_0, fun _ h => absurd h List.not_mem_nil⟩ : ∀ bl ∈ k_X15_no, ∀ z ∈ bl, ∀ x ∈ dkAll 6 z.2.1 z.2.2, decode cX15_no (z.1 + x.1) = .ok (x.2.1, x.2.2))
theorem kd_X15_noMatch_0 : ∀ z ∈ ([(0, 4, 0), (1, 0, 1), (2, 30, 0), (3, 18, 0), (4, 4, 0), (5, 70, 30), (8, 201, 125), (13, 15, 1), (14, 26, 0), (15, 30, 0), (16, 201, 123), (19, 15, 1), (20, 201, 122), (23, 200, 0)] : List (Nat × Nat × Int)), ∀ x ∈ dkAll 6 z.2.1 z.2.2, decode cX15_noMatch (z.1 + x.1) = .ok (x.2.1, x.2.2) := by decide +kernel
theorem kd_X15_noMatch : rDec 90 6 cX15_noMatch := fun bs h => by
  cases (show codeT[90]? = some k_X15_noMatch from rfl).symm.trans h
  exact (List.forall_mem_cons.mpr ⟨kd_X15_noMatch_0, fun _ h => absurd h List.not_mem_nil⟩ : ∀ bl ∈ k_X15_noMatch, ∀ z ∈ bl, ∀ x ∈ dkAll 6 z.2.1 z.2.2, decode cX15_noMatch (z.1 + x.1) = .ok (x.2.1, x.2.2))
theorem kd_X15_noOn_0 : ∀ z ∈ ([(0, 4, 0), (1, 4, 0), (2, 0, 1), (3, 201, 129), (6, 15, 1), (7, 201, 122), (10, 33, 23), (33, 15, 1), (34, 53, 4), (38, 200, 0)] : List (Nat × Nat × Int)), ∀ x ∈ dkAll 6 z.2.1 z.2.2, decode cX15_noOn (z.1 + x.1) = .ok (x.2.1, x.2.2) := by decide +kernel
theorem kd_X15_noOn : rDec 91 6 cX15_noOn := fun bs h => by
  cases (show codeT[91]? = some k_X15_noOn from rfl).symm.trans h
  exact (List.forall_mem_cons.mpr ⟨kd_X15_noOn_0, fun _ h => absurd h List.not_mem_nil⟩ : ∀ bl ∈ k_X15_noOn, ∀ z ∈ bl, ∀ x ∈ dkAll 6 z.2.1 z.2.2, decode cX15_noOn (z.1 + x.1) = .ok (x.2.1, x.2.2))
theorem kd_X15_over_0 : ∀ z ∈ ([(0, 15, 0), (1, 7, 1), (2, 4, 0), (3, 70, 30), (6, 201, 131), (11, 9, 2), (12, 4, 2), (13, 201, 132), (18, 32, 31), (49, 0, 1), (50, 200, 0)] : List (Nat × Nat × Int)), ∀ x ∈ dkAll 1 z.2.1 z.2.2, decode cX15_over (z.1 + x.1) = .ok (x.2.1, x.2.2) := by decide +kernel
theorem kd_X15_over : rDec 92 1 cX15_over := fun bs h => by
  cases (show codeT[92]? = some k_X15_over from rfl).symm.trans h
  exact (List.forall_mem_cons.mpr ⟨kd_X15_over_0, fun _ h => absurd h List.not_mem_nil⟩ : ∀ bl ∈ k_X15_over, ∀ z ∈ bl, ∀ x ∈ dkAll 1 z.2.1 z.2.2, decode cX15_over (z.1 + x.1) = .ok (x.2.1, x.2.2))
theorem kd_X15_overShare_0 : ∀ z ∈ ([(0, 4, 0), (1, 4, 0), (2, 70, 30), (5, 201, 140), (10, 33, 7), (17, 15, 0), (18, 15, 1), (19, 201, 122), (22, 32, 7), (25, 19, 0), (26, 53, 19), (45, 200, 0)] : List (Nat × Nat × Int)), ∀ x ∈ dkAll 4 z.2.1 z.2.2, decode cX15_overShare (z.1 + x.1) = .ok (x.2.1, x.2.2) := by decide +kernel
theorem kd_X15_overShare : rDec 93 4 cX15_overShare := fun bs h => by
  cases (show codeT[93]? = some k_X15_overShare from rfl).symm.trans h
  exact (List.forall_mem_cons.mpr ⟨kd_X15_overShare_0, fun _ h => absurd h List.not_mem_nil⟩ : ∀ bl ∈ k_X15_overShare, ∀ z ∈ bl, ∀ x ∈ dkAll 4 z.2.1 z.2.2, decode cX15_overShare (z.1 + x.1) = .ok (x.2.1, x.2.2))
theorem kd_X15_plan_0 : ∀ z ∈ ([(0, 4, 0), (1, 0, 1), (2, 30, 0), (3, 18, 0), (4, 18, 1), (5, 201, 123), (8, 15, 1), (9, 201, 122), (12, 33, 33), (15, 4, 0), (16, 4, 0), (17, 0, 1), (18, 201, 141), (21, 33, 16), (24, 4, 0), (25, 0, 1), (26, 201, 124), (29, 15, 2), (30, 40, 7), (37, 15, 0), (38, 15, 2), (39, 201, 122), (42, 32, 5), (45, 15, 0), (46, 200, 0)] : List (Nat × Nat × Int)), ∀ x ∈ dkAll 1 z.2.1 z.2.2, decode cX15_plan (z.1 + x.1) = .ok (x.2.1, x.2.2) := by decide +kernel
theorem kd_X15_plan : rDec 94 1 cX15_plan := fun bs h => by
  cases (show codeT[94]? = some k_X15_plan from rfl).symm.trans h
  exact (List.forall_mem_cons.mpr ⟨kd_X15_plan_0, fun _ h => absurd h List.not_mem_nil⟩ : ∀ bl ∈ k_X15_plan, ∀ z ∈ bl, ∀ x ∈ dkAll 1 z.2.1 z.2.2, decode cX15_plan (z.1 + x.1) = .ok (x.2.1, x.2.2))
theorem kd_X15_points_0 : ∀ z ∈ ([(0, 4, 0), (1, 4, 0), (2, 0, 1), (3, 201, 128), (6, 15, 1), (7, 201, 122), (10, 32, 5), (13, 15, 0), (14, 200, 0)] : List (Nat × Nat × Int)), ∀ x ∈ dkAll 1 z.2.1 z.2.2, decode cX15_points (z.1 + x.1) = .ok (x.2.1, x.2.2) := by decide +kernel
theorem kd_X15_points : rDec 95 1 cX15_points := fun bs h => by
  cases (show codeT[95]? = some k_X15_points from rfl).symm.trans h
  exact (List.forall_mem_cons.mpr ⟨kd_X15_points_0, fun _ h => absurd h List.not_mem_nil⟩ : ∀ bl ∈ k_X15_points, ∀ z ∈ bl, ∀ x ∈ dkAll 1 z.2.1 z.2.2, decode cX15_points (z.1 + x.1) = .ok (x.2.1, x.2.2))
theorem kd_X15_putOff_0 : ∀ z ∈ ([(0, 4, 0), (1, 0, 1), (2, 201, 138), (5, 32, 5), (8, 15, 0), (9, 200, 0)] : List (Nat × Nat × Int)), ∀ x ∈ dkAll 1 z.2.1 z.2.2, decode cX15_putOff (z.1 + x.1) = .ok (x.2.1, x.2.2) := by decide +kernel
theorem kd_X15_putOff : rDec 96 1 cX15_putOff := fun bs h => by
  cases (show codeT[96]? = some k_X15_putOff from rfl).symm.trans h
  exact (List.forall_mem_cons.mpr ⟨kd_X15_putOff_0, fun _ h => absurd h List.not_mem_nil⟩ : ∀ bl ∈ k_X15_putOff, ∀ z ∈ bl, ∀ x ∈ dkAll 1 z.2.1 z.2.2, decode cX15_putOff (z.1 + x.1) = .ok (x.2.1, x.2.2))
theorem kd_X15_registered_0 : ∀ z ∈ ([(0, 4, 0), (1, 4, 0), (2, 0, 1), (3, 201, 129), (6, 15, 1), (7, 201, 122), (10, 32, 7), (13, 15, 0), (14, 53, 19), (33, 200, 0)] : List (Nat × Nat × Int)), ∀ x ∈ dkAll 1 z.2.1 z.2.2, decode cX15_registered (z.1 + x.1) = .ok (x.2.1, x.2.2) := by decide +kernel
theorem kd_X15_registered : rDec 97 1 cX15_registered := fun bs h => by
  cases (show codeT[97]? = some k_X15_registered from rfl).symm.trans h
  exact (List.forall_mem_cons.mpr ⟨kd_X15_registered_0, fun _ h => absurd h List.not_mem_nil⟩ : ∀ bl ∈ k_X15_registered, ∀ z ∈ bl, ∀ x ∈ dkAll 1 z.2.1 z.2.2, decode cX15_registered (z.1 + x.1) = .ok (x.2.1, x.2.2))
theorem kd_X15_resultOf_0 : ∀ z ∈ ([(0, 4, 0), (1, 0, 1), (2, 201, 138), (5, 33, 27), (32, 15, 0), (33, 200, 0)] : List (Nat × Nat × Int)), ∀ x ∈ dkAll 1 z.2.1 z.2.2, decode cX15_resultOf (z.1 + x.1) = .ok (x.2.1, x.2.2) := by decide +kernel
theorem kd_X15_resultOf : rDec 98 1 cX15_resultOf := fun bs h => by
  cases (show codeT[98]? = some k_X15_resultOf from rfl).symm.trans h
  exact (List.forall_mem_cons.mpr ⟨kd_X15_resultOf_0, fun _ h => absurd h List.not_mem_nil⟩ : ∀ bl ∈ k_X15_resultOf, ∀ z ∈ bl, ∀ x ∈ dkAll 1 z.2.1 z.2.2, decode cX15_resultOf (z.1 + x.1) = .ok (x.2.1, x.2.2))
theorem kd_X15_sell_0 : ∀ z ∈ ([(0, 4, 0), (1, 4, 0), (2, 0, 1), (3, 201, 129), (6, 32, 15), (21, 15, 0), (22, 15, 1), (23, 201, 122), (26, 32, 5), (29, 15, 0), (30, 200, 0)] : List (Nat × Nat × Int)), ∀ x ∈ dkAll 1 z.2.1 z.2.2, decode cX15_sell (z.1 + x.1) = .ok (x.2.1, x.2.2) := by decide +kernel
theorem kd_X15_sell : rDec 99 1 cX15_sell := fun bs h => by
  cases (show codeT[99]? = some k_X15_sell from rfl).symm.trans h
  exact (List.forall_mem_cons.mpr ⟨kd_X15_sell_0, fun _ h => absurd h List.not_mem_nil⟩ : ∀ bl ∈ k_X15_sell, ∀ z ∈ bl, ∀ x ∈ dkAll 1 z.2.1 z.2.2, decode cX15_sell (z.1 + x.1) = .ok (x.2.1, x.2.2))
theorem kd_X15_setDerby_0 : ∀ z ∈ ([(0, 4, 0), (1, 4, 0), (2, 0, 1), (3, 201, 128), (6, 32, 15), (21, 15, 0), (22, 15, 1), (23, 201, 122), (26, 33, 21), (47, 15, 0), (48, 200, 0)] : List (Nat × Nat × Int)), ∀ x ∈ dkAll 6 z.2.1 z.2.2, decode cX15_setDerby (z.1 + x.1) = .ok (x.2.1, x.2.2) := by decide +kernel
theorem kd_X15_setDerby : rDec 100 6 cX15_setDerby := fun bs h => by
  cases (show codeT[100]? = some k_X15_setDerby from rfl).symm.trans h
  exact (List.forall_mem_cons.mpr ⟨kd_X15_setDerby_0, fun _ h => absurd h List.not_mem_nil⟩ : ∀ bl ∈ k_X15_setDerby, ∀ z ∈ bl, ∀ x ∈ dkAll 6 z.2.1 z.2.2, decode cX15_setDerby (z.1 + x.1) = .ok (x.2.1, x.2.2))
theorem kd_X15_setWindow_0 : ∀ z ∈ ([(0, 4, 0), (1, 0, 1), (2, 30, 0), (3, 18, 0), (4, 78, 3), (7, 201, 123), (10, 32, 19), (13, 0, 2), (14, 30, 0), (15, 18, 0), (16, 78, 3), (19, 201, 123), (22, 32, 7), (25, 15, 1), (26, 53, 4), (29, 15, 0), (30, 15, 1), (31, 201, 122), (34, 32, 5), (37, 15, 0), (38, 200, 0), (39, 4, 0), (40, 0, 1), (41, 72, 37), (44, 4, 0), (45, 0, 2), (46, 72, 38), (49, 4, 0), (50, 201, 142), (53, 200, 0)] : List (Nat × Nat × Int)), ∀ x ∈ dkAll 6 z.2.1 z.2.2, decode cX15_setWindow (z.1 + x.1) = .ok (x.2.1, x.2.2) := by decide +kernel
theorem kd_X15_setWindow : rDec 101 6 cX15_setWindow := fun bs h => by
  cases (show codeT[101]? = some k_X15_setWindow from rfl).symm.trans h
  exact (List.forall_mem_cons.mpr ⟨kd_X15_setWindow_0, fun _ h => absurd h List.not_mem_nil⟩ : ∀ bl ∈ k_X15_setWindow, ∀ z ∈ bl, ∀ x ∈ dkAll 6 z.2.1 z.2.2, decode cX15_setWindow (z.1 + x.1) = .ok (x.2.1, x.2.2))
theorem kd_X15_stateOf_0 : ∀ z ∈ ([(0, 4, 0), (1, 0, 1), (2, 201, 138), (5, 32, 8), (8, 16, 112), (10, 53, 19), (29, 200, 0)] : List (Nat × Nat × Int)), ∀ x ∈ dkAll 7 z.2.1 z.2.2, decode cX15_stateOf (z.1 + x.1) = .ok (x.2.1, x.2.2) := by decide +kernel
theorem kd_X15_stateOf : rDec 102 7 cX15_stateOf := fun bs h => by
  cases (show codeT[102]? = some k_X15_stateOf from rfl).symm.trans h
  exact (List.forall_mem_cons.mpr ⟨kd_X15_stateOf_0, fun _ h => absurd h List.not_mem_nil⟩ : ∀ bl ∈ k_X15_stateOf, ∀ z ∈ bl, ∀ x ∈ dkAll 7 z.2.1 z.2.2, decode cX15_stateOf (z.1 + x.1) = .ok (x.2.1, x.2.2))
theorem kd_X15_strike_0 : ∀ z ∈ ([(0, 4, 0), (1, 4, 0), (2, 0, 1), (3, 201, 128), (6, 15, 1), (7, 201, 122), (10, 33, 23), (33, 15, 0), (34, 200, 0)] : List (Nat × Nat × Int)), ∀ x ∈ dkAll 6 z.2.1 z.2.2, decode cX15_strike (z.1 + x.1) = .ok (x.2.1, x.2.2) := by decide +kernel
theorem kd_X15_strike : rDec 103 6 cX15_strike := fun bs h => by
  cases (show codeT[103]? = some k_X15_strike from rfl).symm.trans h
  exact (List.forall_mem_cons.mpr ⟨kd_X15_strike_0, fun _ h => absurd h List.not_mem_nil⟩ : ∀ bl ∈ k_X15_strike, ∀ z ∈ bl, ∀ x ∈ dkAll 6 z.2.1 z.2.2, decode cX15_strike (z.1 + x.1) = .ok (x.2.1, x.2.2))
theorem kd_X15_table_0 : ∀ z ∈ ([(0, 4, 0), (1, 0, 1), (2, 201, 143), (5, 9, 2), (6, 69, 6), (9, 22, 0), (10, 201, 133), (13, 9, 3), (14, 4, 2), (15, 201, 140), (20, 33, 170)] : List (Nat × Nat × Int)), ∀ x ∈ dkAll 3 z.2.1 z.2.2, decode cX15_table (z.1 + x.1) = .ok (x.2.1, x.2.2) := by decide +kernel
theorem kd_X15_table_1 : ∀ z ∈ ([] : List (Nat × Nat × Int)), ∀ x ∈ dkAll 3 z.2.1 z.2.2, decode cX15_table (z.1 + x.1) = .ok (x.2.1, x.2.2) := by decide +kernel
theorem kd_X15_table_2 : ∀ z ∈ ([(190, 15, 0), (191, 8, 4)] : List (Nat × Nat × Int)), ∀ x ∈ dkAll 3 z.2.1 z.2.2, decode cX15_table (z.1 + x.1) = .ok (x.2.1, x.2.2) := by decide +kernel
theorem kd_X15_table_3 : ∀ z ∈ ([(193, 1, 4), (195, 4, 0), (196, 70, 28), (199, 201, 125), (204, 41, 62)] : List (Nat × Nat × Int)), ∀ x ∈ dkAll 3 z.2.1 z.2.2, decode cX15_table (z.1 + x.1) = .ok (x.2.1, x.2.2) := by decide +kernel
theorem kd_X15_table_4 : ∀ z ∈ ([(266, 4, 3), (267, 200, 0)] : List (Nat × Nat × Int)), ∀ x ∈ dkAll 3 z.2.1 z.2.2, decode cX15_table (z.1 + x.1) = .ok (x.2.1, x.2.2) := by decide +kernel
theorem kd_X15_table : rDec 104 3 cX15_table := fun bs h => by
  cases (show codeT[104]? = some k_X15_table from rfl).symm.trans h
  exact (List.forall_mem_cons.mpr ⟨kd_X15_table_0, List.forall_mem_cons.mpr ⟨kd_X15_table_1, List.forall_mem_cons.mpr ⟨kd_X15_table_2, List.forall_mem_cons.mpr ⟨kd_X15_table_3, List.forall_mem_cons.mpr ⟨kd_X15_table_4, fun _ h => absurd h List.not_mem_nil⟩⟩⟩⟩⟩ : ∀ bl ∈ k_X15_table, ∀ z ∈ bl, ∀ x ∈ dkAll 3 z.2.1 z.2.2, decode cX15_table (z.1 + x.1) = .ok (x.2.1, x.2.2))
theorem kd_X15_takePoints_0 : ∀ z ∈ ([(0, 4, 0), (1, 4, 0), (2, 0, 1), (3, 201, 128), (6, 15, 1), (7, 201, 122), (10, 33, 20), (30, 15, 0), (31, 200, 0)] : List (Nat × Nat × Int)), ∀ x ∈ dkAll 1 z.2.1 z.2.2, decode cX15_takePoints (z.1 + x.1) = .ok (x.2.1, x.2.2) := by decide +kernel
theorem kd_X15_takePoints : rDec 105 1 cX15_takePoints := fun bs h => by
  cases (show codeT[105]? = some k_X15_takePoints from rfl).symm.trans h
  exact (List.forall_mem_cons.mpr ⟨kd_X15_takePoints_0, fun _ h => absurd h List.not_mem_nil⟩ : ∀ bl ∈ k_X15_takePoints, ∀ z ∈ bl, ∀ x ∈ dkAll 1 z.2.1 z.2.2, decode cX15_takePoints (z.1 + x.1) = .ok (x.2.1, x.2.2))
theorem kd_X15_thrown_0 : ∀ z ∈ ([(0, 4, 0), (1, 70, 39), (4, 200, 0)] : List (Nat × Nat × Int)), ∀ x ∈ dkAll 1 z.2.1 z.2.2, decode cX15_thrown (z.1 + x.1) = .ok (x.2.1, x.2.2) := by decide +kernel
theorem kd_X15_thrown : rDec 106 1 cX15_thrown := fun bs h => by
  cases (show codeT[106]? = some k_X15_thrown from rfl).symm.trans h
  exact (List.forall_mem_cons.mpr ⟨kd_X15_thrown_0, fun _ h => absurd h List.not_mem_nil⟩ : ∀ bl ∈ k_X15_thrown, ∀ z ∈ bl, ∀ x ∈ dkAll 1 z.2.1 z.2.2, decode cX15_thrown (z.1 + x.1) = .ok (x.2.1, x.2.2))
theorem kd_X15_wipe_0 : ∀ z ∈ ([(0, 4, 0), (1, 4, 0), (2, 70, 27), (5, 52, 7), (8, 15, 1), (9, 53, 4), (13, 15, 1), (14, 201, 122), (17, 32, 5), (22, 4, 0), (23, 201, 134), (26, 15, 0), (27, 7, 1), (28, 4, 0), (29, 70, 34), (32, 9, 2), (33, 4, 2), (34, 61, 0), (35, 7, 3), (36, 15, 0), (37, 8, 4), (39, 1, 4), (41, 0, 3), (42, 41, 28), (45, 4, 2), (46, 1, 4), (48, 55, 0), (49, 8, 5), (51, 0, 1), (52, 1, 5), (54, 37, 7), (61, 15, 0), (62, 25, 0), (63, 7, 1)] : List (Nat × Nat × Int)), ∀ x ∈ dkAll 1 z.2.1 z.2.2, decode cX15_wipe (z.1 + x.1) = .ok (x.2.1, x.2.2) := by decide +kernel
theorem kd_X15_wipe_1 : ∀ z ∈ ([(64, 29, 4501), (67, 53, -28), (70, 4, 0), (71, 70, 31), (74, 69, 7), (77, 22, 0), (78, 16, 119), (80, 21, 0), (81, 15, -1), (82, 15, 1), (83, 201, 137), (86, 201, 127), (91, 24, 0), (92, 0, 1), (93, 200, 0)] : List (Nat × Nat × Int)), ∀ x ∈ dkAll 1 z.2.1 z.2.2, decode cX15_wipe (z.1 + x.1) = .ok (x.2.1, x.2.2) := by decide +kernel
theorem kd_X15_wipe : rDec 107 1 cX15_wipe := fun bs h => by
  cases (show codeT[107]? = some k_X15_wipe from rfl).symm.trans h
  exact (List.forall_mem_cons.mpr ⟨kd_X15_wipe_0, List.forall_mem_cons.mpr ⟨kd_X15_wipe_1, fun _ h => absurd h List.not_mem_nil⟩⟩ : ∀ bl ∈ k_X15_wipe, ∀ z ∈ bl, ∀ x ∈ dkAll 1 z.2.1 z.2.2, decode cX15_wipe (z.1 + x.1) = .ok (x.2.1, x.2.2))
theorem kd_X15_yellows_0 : ∀ z ∈ ([(0, 4, 0), (1, 4, 0), (2, 0, 1), (3, 201, 129), (6, 15, 1), (7, 201, 122), (10, 32, 5), (13, 15, 0), (14, 200, 0)] : List (Nat × Nat × Int)), ∀ x ∈ dkAll 1 z.2.1 z.2.2, decode cX15_yellows (z.1 + x.1) = .ok (x.2.1, x.2.2) := by decide +kernel
theorem kd_X15_yellows : rDec 108 1 cX15_yellows := fun bs h => by
  cases (show codeT[108]? = some k_X15_yellows from rfl).symm.trans h
  exact (List.forall_mem_cons.mpr ⟨kd_X15_yellows_0, fun _ h => absurd h List.not_mem_nil⟩ : ∀ bl ∈ k_X15_yellows, ∀ z ∈ bl, ∀ x ∈ dkAll 1 z.2.1 z.2.2, decode cX15_yellows (z.1 + x.1) = .ok (x.2.1, x.2.2))
theorem kd_X2_init_0 : ∀ z ∈ ([(0, 4, 0), (1, 75, 6), (4, 4, 0), (5, 0, 1), (6, 73, 40), (9, 4, 0), (10, 0, 2), (11, 72, 41), (14, 4, 0), (15, 0, 3), (16, 73, 42), (19, 4, 0), (20, 1, 4), (22, 73, 43), (25, 4, 0), (26, 17, 1000), (29, 72, 44), (32, 200, 0)] : List (Nat × Nat × Int)), ∀ x ∈ dkAll 0 z.2.1 z.2.2, decode cX2_init (z.1 + x.1) = .ok (x.2.1, x.2.2) := by decide +kernel
theorem kd_X2_init : rDec 109 0 cX2_init := fun bs h => by
  cases (show codeT[109]? = some k_X2_init from rfl).symm.trans h
  exact (List.forall_mem_cons.mpr ⟨kd_X2_init_0, fun _ h => absurd h List.not_mem_nil⟩ : ∀ bl ∈ k_X2_init, ∀ z ∈ bl, ∀ x ∈ dkAll 0 z.2.1 z.2.2, decode cX2_init (z.1 + x.1) = .ok (x.2.1, x.2.2))
theorem kd_X3_init_0 : ∀ z ∈ ([(0, 4, 0), (1, 75, 7), (4, 4, 0), (5, 0, 1), (6, 73, 45), (9, 4, 0), (10, 6, 2), (11, 73, 46), (14, 4, 0), (15, 0, 3), (16, 73, 47), (19, 4, 0), (20, 1, 4), (22, 73, 48), (25, 200, 0)] : List (Nat × Nat × Int)), ∀ x ∈ dkAll 0 z.2.1 z.2.2, decode cX3_init (z.1 + x.1) = .ok (x.2.1, x.2.2) := by decide +kernel
theorem kd_X3_init : rDec 110 0 cX3_init := fun bs h => by
  cases (show codeT[110]? = some k_X3_init from rfl).symm.trans h
  exact (List.forall_mem_cons.mpr ⟨kd_X3_init_0, fun _ h => absurd h List.not_mem_nil⟩ : ∀ bl ∈ k_X3_init, ∀ z ∈ bl, ∀ x ∈ dkAll 0 z.2.1 z.2.2, decode cX3_init (z.1 + x.1) = .ok (x.2.1, x.2.2))
theorem kd_X5_init_0 : ∀ z ∈ ([(0, 4, 0), (1, 75, 8), (4, 4, 0), (5, 69, 8), (8, 22, 0), (9, 201, 144), (12, 73, 49), (15, 4, 0), (16, 69, 8), (19, 22, 0), (20, 201, 144), (23, 73, 50), (26, 4, 0), (27, 16, 12), (29, 64, 0), (31, 73, 51), (34, 4, 0), (35, 16, 6), (37, 64, 0), (39, 73, 52), (42, 4, 0), (43, 16, 6), (45, 64, 0), (47, 73, 53), (50, 4, 0), (51, 16, 6), (53, 65, 0), (55, 73, 54), (58, 200, 0)] : List (Nat × Nat × Int)), ∀ x ∈ dkAll 0 z.2.1 z.2.2, decode cX5_init (z.1 + x.1) = .ok (x.2.1, x.2.2) := by decide +kernel
theorem kd_X5_init : rDec 111 0 cX5_init := fun bs h => by
  cases (show codeT[111]? = some k_X5_init from rfl).symm.trans h
  exact (List.forall_mem_cons.mpr ⟨kd_X5_init_0, fun _ h => absurd h List.not_mem_nil⟩ : ∀ bl ∈ k_X5_init, ∀ z ∈ bl, ∀ x ∈ dkAll 0 z.2.1 z.2.2, decode cX5_init (z.1 + x.1) = .ok (x.2.1, x.2.2))
theorem kd_X8_addRows_0 : ∀ z ∈ ([(0, 15, 0), (1, 8, 4), (3, 1, 4), (5, 4, 2), (6, 201, 145), (9, 41, 48), (57, 200, 0)] : List (Nat × Nat × Int)), ∀ x ∈ dkAll 0 z.2.1 z.2.2, decode cX8_addRows (z.1 + x.1) = .ok (x.2.1, x.2.2) := by decide +kernel
theorem kd_X8_addRows : rDec 112 0 cX8_addRows := fun bs h => by
  cases (show codeT[112]? = some k_X8_addRows from rfl).symm.trans h
  exact (List.forall_mem_cons.mpr ⟨kd_X8_addRows_0, fun _ h => absurd h List.not_mem_nil⟩ : ∀ bl ∈ k_X8_addRows, ∀ z ∈ bl, ∀ x ∈ dkAll 0 z.2.1 z.2.2, decode cX8_addRows (z.1 + x.1) = .ok (x.2.1, x.2.2))
theorem kd_X8_countAmong_0 : ∀ z ∈ ([(0, 0, 1), (1, 8, 4), (3, 1, 4), (5, 0, 2), (6, 41, 40), (46, 15, 0), (47, 8, 4), (49, 1, 4), (51, 4, 3), (52, 201, 145), (55, 41, 116)] : List (Nat × Nat × Int)), ∀ x ∈ dkAll 0 z.2.1 z.2.2, decode cX8_countAmong (z.1 + x.1) = .ok (x.2.1, x.2.2) := by decide +kernel
theorem kd_X8_countAmong_1 : ∀ z ∈ ([] : List (Nat × Nat × Int)), ∀ x ∈ dkAll 0 z.2.1 z.2.2, decode cX8_countAmong (z.1 + x.1) = .ok (x.2.1, x.2.2) := by decide +kernel
theorem kd_X8_countAmong_2 : ∀ z ∈ ([(171, 0, 1), (172, 8, 4), (174, 1, 4), (176, 0, 2), (177, 41, 25)] : List (Nat × Nat × Int)), ∀ x ∈ dkAll 0 z.2.1 z.2.2, decode cX8_countAmong (z.1 + x.1) = .ok (x.2.1, x.2.2) := by decide +kernel
theorem kd_X8_countAmong_3 : ∀ z ∈ ([(202, 200, 0)] : List (Nat × Nat × Int)), ∀ x ∈ dkAll 0 z.2.1 z.2.2, decode cX8_countAmong (z.1 + x.1) = .ok (x.2.1, x.2.2) := by decide +kernel
theorem kd_X8_countAmong : rDec 113 0 cX8_countAmong := fun bs h => by
  cases (show codeT[113]? = some k_X8_countAmong from rfl).symm.trans h
  exact (List.forall_mem_cons.mpr ⟨kd_X8_countAmong_0, List.forall_mem_cons.mpr ⟨kd_X8_countAmong_1, List.forall_mem_cons.mpr ⟨kd_X8_countAmong_2, List.forall_mem_cons.mpr ⟨kd_X8_countAmong_3, fun _ h => absurd h List.not_mem_nil⟩⟩⟩⟩ : ∀ bl ∈ k_X8_countAmong, ∀ z ∈ bl, ∀ x ∈ dkAll 0 z.2.1 z.2.2, decode cX8_countAmong (z.1 + x.1) = .ok (x.2.1, x.2.2))
theorem kd_X8_draw_0 : ∀ z ∈ ([(0, 4, 0), (1, 70, 55), (4, 201, 146), (7, 15, 0), (8, 8, 4), (10, 1, 4), (12, 4, 2), (13, 201, 145), (16, 41, 22), (38, 4, 0), (39, 0, 1), (40, 4, 2), (41, 15, 0), (42, 201, 147), (45, 4, 0), (46, 70, 55), (49, 201, 145), (52, 8, 4), (54, 4, 0), (55, 15, 0), (56, 1, 4), (58, 4, 3), (59, 201, 148), (62, 15, 0), (63, 8, 5)] : List (Nat × Nat × Int)), ∀ x ∈ dkAll 0 z.2.1 z.2.2, decode cX8_draw (z.1 + x.1) = .ok (x.2.1, x.2.2) := by decide +kernel
theorem kd_X8_draw_1 : ∀ z ∈ ([(65, 1, 5), (67, 1, 4), (69, 41, 69)] : List (Nat × Nat × Int)), ∀ x ∈ dkAll 0 z.2.1 z.2.2, decode cX8_draw (z.1 + x.1) = .ok (x.2.1, x.2.2) := by decide +kernel
theorem kd_X8_draw_2 : ∀ z ∈ ([(138, 4, 0), (139, 15, 0), (140, 1, 4), (142, 201, 149), (145, 4, 0), (146, 15, 0), (147, 1, 4), (149, 4, 3), (150, 15, 0), (151, 201, 150), (154, 4, 0), (155, 0, 1), (156, 4, 2), (157, 15, 1), (158, 201, 147), (161, 200, 0)] : List (Nat × Nat × Int)), ∀ x ∈ dkAll 0 z.2.1 z.2.2, decode cX8_draw (z.1 + x.1) = .ok (x.2.1, x.2.2) := by decide +kernel
theorem kd_X8_draw : rDec 114 0 cX8_draw := fun bs h => by
  cases (show codeT[114]? = some k_X8_draw from rfl).symm.trans h
  exact (List.forall_mem_cons.mpr ⟨kd_X8_draw_0, List.forall_mem_cons.mpr ⟨kd_X8_draw_1, List.forall_mem_cons.mpr ⟨kd_X8_draw_2, fun _ h => absurd h List.not_mem_nil⟩⟩⟩ : ∀ bl ∈ k_X8_draw, ∀ z ∈ bl, ∀ x ∈ dkAll 0 z.2.1 z.2.2, decode cX8_draw (z.1 + x.1) = .ok (x.2.1, x.2.2))
theorem kd_X8_firstToRise_0 : ∀ z ∈ ([(0, 15, 0), (1, 7, 1), (2, 0, 1), (3, 4, 0), (4, 70, 55), (7, 201, 145), (10, 41, 38), (48, 21, 0), (49, 200, 0)] : List (Nat × Nat × Int)), ∀ x ∈ dkAll 3 z.2.1 z.2.2, decode cX8_firstToRise (z.1 + x.1) = .ok (x.2.1, x.2.2) := by decide +kernel
theorem kd_X8_firstToRise : rDec 115 3 cX8_firstToRise := fun bs h => by
  cases (show codeT[115]? = some k_X8_firstToRise from rfl).symm.trans h
  exact (List.forall_mem_cons.mpr ⟨kd_X8_firstToRise_0, fun _ h => absurd h List.not_mem_nil⟩ : ∀ bl ∈ k_X8_firstToRise, ∀ z ∈ bl, ∀ x ∈ dkAll 3 z.2.1 z.2.2, decode cX8_firstToRise (z.1 + x.1) = .ok (x.2.1, x.2.2))
theorem kd_X8_init_0 : ∀ z ∈ ([(0, 4, 0), (1, 75, 9), (4, 4, 0), (5, 69, 9), (8, 22, 0), (9, 201, 151), (12, 73, 55), (15, 200, 0)] : List (Nat × Nat × Int)), ∀ x ∈ dkAll 0 z.2.1 z.2.2, decode cX8_init (z.1 + x.1) = .ok (x.2.1, x.2.2) := by decide +kernel
theorem kd_X8_init : rDec 116 0 cX8_init := fun bs h => by
  cases (show codeT[116]? = some k_X8_init from rfl).symm.trans h
  exact (List.forall_mem_cons.mpr ⟨kd_X8_init_0, fun _ h => absurd h List.not_mem_nil⟩ : ∀ bl ∈ k_X8_init, ∀ z ∈ bl, ∀ x ∈ dkAll 0 z.2.1 z.2.2, decode cX8_init (z.1 + x.1) = .ok (x.2.1, x.2.2))
theorem kd_X8_partTies_0 : ∀ z ∈ ([(0, 0, 1), (1, 8, 5), (3, 0, 1), (4, 15, 1), (5, 25, 0), (6, 8, 6), (8, 1, 6), (10, 0, 2), (11, 42, 72)] : List (Nat × Nat × Int)), ∀ x ∈ dkAll 0 z.2.1 z.2.2, decode cX8_partTies (z.1 + x.1) = .ok (x.2.1, x.2.2) := by decide +kernel
theorem kd_X8_partTies_1 : ∀ z ∈ ([(83, 200, 0)] : List (Nat × Nat × Int)), ∀ x ∈ dkAll 0 z.2.1 z.2.2, decode cX8_partTies (z.1 + x.1) = .ok (x.2.1, x.2.2) := by decide +kernel
theorem kd_X8_partTies : rDec 117 0 cX8_partTies := fun bs h => by
  cases (show codeT[117]? = some k_X8_partTies from rfl).symm.trans h
  exact (List.forall_mem_cons.mpr ⟨kd_X8_partTies_0, List.forall_mem_cons.mpr ⟨kd_X8_partTies_1, fun _ h => absurd h List.not_mem_nil⟩⟩ : ∀ bl ∈ k_X8_partTies, ∀ z ∈ bl, ∀ x ∈ dkAll 0 z.2.1 z.2.2, decode cX8_partTies (z.1 + x.1) = .ok (x.2.1, x.2.2))
theorem kd_X8_sort_0 : ∀ z ∈ ([(0, 0, 1), (1, 15, 1), (2, 25, 0), (3, 7, 3), (4, 0, 3), (5, 0, 2), (6, 41, 98)] : List (Nat × Nat × Int)), ∀ x ∈ dkAll 0 z.2.1 z.2.2, decode cX8_sort (z.1 + x.1) = .ok (x.2.1, x.2.2) := by decide +kernel
theorem kd_X8_sort_1 : ∀ z ∈ ([(104, 200, 0)] : List (Nat × Nat × Int)), ∀ x ∈ dkAll 0 z.2.1 z.2.2, decode cX8_sort (z.1 + x.1) = .ok (x.2.1, x.2.2) := by decide +kernel
theorem kd_X8_sort : rDec 118 0 cX8_sort := fun bs h => by
  cases (show codeT[118]? = some k_X8_sort from rfl).symm.trans h
  exact (List.forall_mem_cons.mpr ⟨kd_X8_sort_0, List.forall_mem_cons.mpr ⟨kd_X8_sort_1, fun _ h => absurd h List.not_mem_nil⟩⟩ : ∀ bl ∈ k_X8_sort, ∀ z ∈ bl, ∀ x ∈ dkAll 0 z.2.1 z.2.2, decode cX8_sort (z.1 + x.1) = .ok (x.2.1, x.2.2))
theorem kd_X9_abandon_0 : ∀ z ∈ ([(0, 4, 0), (1, 201, 152)] : List (Nat × Nat × Int)), ∀ x ∈ dkAll 1 z.2.1 z.2.2, decode cX9_abandon (z.1 + x.1) = .ok (x.2.1, x.2.2) := by decide +kernel
theorem kd_X9_abandon : rDec 119 1 cX9_abandon := fun bs h => by
  cases (show codeT[119]? = some k_X9_abandon from rfl).symm.trans h
  exact (List.forall_mem_cons.mpr ⟨kd_X9_abandon_0, fun _ h => absurd h List.not_mem_nil⟩ : ∀ bl ∈ k_X9_abandon, ∀ z ∈ bl, ∀ x ∈ dkAll 1 z.2.1 z.2.2, decode cX9_abandon (z.1 + x.1) = .ok (x.2.1, x.2.2))
theorem kd_X9_addClub_0 : ∀ z ∈ ([(0, 0, 1), (1, 201, 153), (4, 32, 22), (7, 0, 2), (8, 15, 0), (9, 16, 7), (11, 201, 154), (14, 32, 12), (17, 0, 3), (18, 15, 0), (19, 15, 3), (20, 201, 154), (23, 33, 13), (26, 202, 0), (36, 4, 0), (37, 0, 1), (38, 201, 155), (41, 15, 4), (42, 40, 13), (55, 69, 10), (58, 22, 0), (59, 4, 0), (60, 70, 56), (63, 201, 156)] : List (Nat × Nat × Int)), ∀ x ∈ dkAll 1 z.2.1 z.2.2, decode cX9_addClub (z.1 + x.1) = .ok (x.2.1, x.2.2) := by decide +kernel
theorem kd_X9_addClub_1 : ∀ z ∈ ([(66, 0, 1), (67, 0, 2), (68, 0, 3), (69, 201, 157), (72, 10, 4), (74, 4, 0), (75, 70, 56), (78, 5, 4), (80, 201, 158), (83, 24, 0), (84, 5, 4), (86, 70, 57), (89, 200, 0)] : List (Nat × Nat × Int)), ∀ x ∈ dkAll 1 z.2.1 z.2.2, decode cX9_addClub (z.1 + x.1) = .ok (x.2.1, x.2.2) := by decide +kernel
theorem kd_X9_addClub : rDec 120 1 cX9_addClub := fun bs h => by
  cases (show codeT[120]? = some k_X9_addClub from rfl).symm.trans h
  exact (List.forall_mem_cons.mpr ⟨kd_X9_addClub_0, List.forall_mem_cons.mpr ⟨kd_X9_addClub_1, fun _ h => absurd h List.not_mem_nil⟩⟩ : ∀ bl ∈ k_X9_addClub, ∀ z ∈ bl, ∀ x ∈ dkAll 1 z.2.1 z.2.2, decode cX9_addClub (z.1 + x.1) = .ok (x.2.1, x.2.2))
theorem kd_X9_addPlayer_0 : ∀ z ∈ ([(0, 4, 0), (1, 0, 1), (2, 201, 159)] : List (Nat × Nat × Int)), ∀ x ∈ dkAll 1 z.2.1 z.2.2, decode cX9_addPlayer (z.1 + x.1) = .ok (x.2.1, x.2.2) := by decide +kernel
theorem kd_X9_addPlayer : rDec 121 1 cX9_addPlayer := fun bs h => by
  cases (show codeT[121]? = some k_X9_addPlayer from rfl).symm.trans h
  exact (List.forall_mem_cons.mpr ⟨kd_X9_addPlayer_0, fun _ h => absurd h List.not_mem_nil⟩ : ∀ bl ∈ k_X9_addPlayer, ∀ z ∈ bl, ∀ x ∈ dkAll 1 z.2.1 z.2.2, decode cX9_addPlayer (z.1 + x.1) = .ok (x.2.1, x.2.2))
theorem kd_X9_appeal_0 : ∀ z ∈ ([(0, 0, 1), (1, 34, 17), (4, 0, 1), (5, 4, 0), (6, 70, 58), (9, 70, 59), (12, 201, 156), (15, 40, 14), (18, 202, 1)] : List (Nat × Nat × Int)), ∀ x ∈ dkAll 6 z.2.1 z.2.2, decode cX9_appeal (z.1 + x.1) = .ok (x.2.1, x.2.2) := by decide +kernel
theorem kd_X9_appeal : rDec 122 6 cX9_appeal := fun bs h => by
  cases (show codeT[122]? = some k_X9_appeal from rfl).symm.trans h
  exact (List.forall_mem_cons.mpr ⟨kd_X9_appeal_0, fun _ h => absurd h List.not_mem_nil⟩ : ∀ bl ∈ k_X9_appeal, ∀ z ∈ bl, ∀ x ∈ dkAll 6 z.2.1 z.2.2, decode cX9_appeal (z.1 + x.1) = .ok (x.2.1, x.2.2))
theorem kd_X9_ban_0 : ∀ z ∈ ([(0, 4, 0), (1, 0, 1), (2, 201, 160)] : List (Nat × Nat × Int)), ∀ x ∈ dkAll 1 z.2.1 z.2.2, decode cX9_ban (z.1 + x.1) = .ok (x.2.1, x.2.2) := by decide +kernel
theorem kd_X9_ban : rDec 123 1 cX9_ban := fun bs h => by
  cases (show codeT[123]? = some k_X9_ban from rfl).symm.trans h
  exact (List.forall_mem_cons.mpr ⟨kd_X9_ban_0, fun _ h => absurd h List.not_mem_nil⟩ : ∀ bl ∈ k_X9_ban, ∀ z ∈ bl, ∀ x ∈ dkAll 1 z.2.1 z.2.2, decode cX9_ban (z.1 + x.1) = .ok (x.2.1, x.2.2))
theorem kd_X9_callBack_0 : ∀ z ∈ ([(0, 4, 0), (1, 0, 1), (2, 201, 160)] : List (Nat × Nat × Int)), ∀ x ∈ dkAll 1 z.2.1 z.2.2, decode cX9_callBack (z.1 + x.1) = .ok (x.2.1, x.2.2) := by decide +kernel
theorem kd_X9_callBack : rDec 124 1 cX9_callBack := fun bs h => by
  cases (show codeT[124]? = some k_X9_callBack from rfl).symm.trans h
  exact (List.forall_mem_cons.mpr ⟨kd_X9_callBack_0, fun _ h => absurd h List.not_mem_nil⟩ : ∀ bl ∈ k_X9_callBack, ∀ z ∈ bl, ∀ x ∈ dkAll 1 z.2.1 z.2.2, decode cX9_callBack (z.1 + x.1) = .ok (x.2.1, x.2.2))
theorem kd_X9_card_0 : ∀ z ∈ ([(0, 4, 0), (1, 0, 1), (2, 201, 161)] : List (Nat × Nat × Int)), ∀ x ∈ dkAll 1 z.2.1 z.2.2, decode cX9_card (z.1 + x.1) = .ok (x.2.1, x.2.2) := by decide +kernel
theorem kd_X9_card : rDec 125 1 cX9_card := fun bs h => by
  cases (show codeT[125]? = some k_X9_card from rfl).symm.trans h
  exact (List.forall_mem_cons.mpr ⟨kd_X9_card_0, fun _ h => absurd h List.not_mem_nil⟩ : ∀ bl ∈ k_X9_card, ∀ z ∈ bl, ∀ x ∈ dkAll 1 z.2.1 z.2.2, decode cX9_card (z.1 + x.1) = .ok (x.2.1, x.2.2))
theorem kd_X9_change_0 : ∀ z ∈ ([(0, 4, 0), (1, 0, 1), (2, 201, 161)] : List (Nat × Nat × Int)), ∀ x ∈ dkAll 1 z.2.1 z.2.2, decode cX9_change (z.1 + x.1) = .ok (x.2.1, x.2.2) := by decide +kernel
theorem kd_X9_change : rDec 126 1 cX9_change := fun bs h => by
  cases (show codeT[126]? = some k_X9_change from rfl).symm.trans h
  exact (List.forall_mem_cons.mpr ⟨kd_X9_change_0, fun _ h => absurd h List.not_mem_nil⟩ : ∀ bl ∈ k_X9_change, ∀ z ∈ bl, ∀ x ∈ dkAll 1 z.2.1 z.2.2, decode cX9_change (z.1 + x.1) = .ok (x.2.1, x.2.2))
theorem kd_X9_clearSeason_0 : ∀ z ∈ ([(0, 4, 0), (1, 70, 60), (4, 201, 162), (7, 4, 0), (8, 21, 0), (9, 72, 61), (12, 15, 0), (13, 7, 1), (14, 0, 1), (15, 4, 0), (16, 70, 56), (19, 201, 156), (22, 41, 31), (53, 4, 0), (54, 70, 58), (57, 69, 11), (60, 22, 0), (61, 15, 2), (62, 21, 0), (63, 15, 0)] : List (Nat × Nat × Int)), ∀ x ∈ dkAll 0 z.2.1 z.2.2, decode cX9_clearSeason (z.1 + x.1) = .ok (x.2.1, x.2.2) := by decide +kernel
theorem kd_X9_clearSeason_1 : ∀ z ∈ ([(64, 15, 0), (65, 201, 163), (68, 201, 164), (71, 200, 0)] : List (Nat × Nat × Int)), ∀ x ∈ dkAll 0 z.2.1 z.2.2, decode cX9_clearSeason (z.1 + x.1) = .ok (x.2.1, x.2.2) := by decide +kernel
theorem kd_X9_clearSeason : rDec 127 0 cX9_clearSeason := fun bs h => by
  cases (show codeT[127]? = some k_X9_clearSeason from rfl).symm.trans h
  exact (List.forall_mem_cons.mpr ⟨kd_X9_clearSeason_0, List.forall_mem_cons.mpr ⟨kd_X9_clearSeason_1, fun _ h => absurd h List.not_mem_nil⟩⟩ : ∀ bl ∈ k_X9_clearSeason, ∀ z ∈ bl, ∀ x ∈ dkAll 0 z.2.1 z.2.2, decode cX9_clearSeason (z.1 + x.1) = .ok (x.2.1, x.2.2))
theorem kd_X9_clubAt_0 : ∀ z ∈ ([(0, 0, 1), (1, 201, 153), (4, 33, 13), (7, 202, 2), (17, 0, 2), (18, 34, 12), (21, 0, 2), (22, 4, 0), (23, 0, 1), (24, 201, 155), (27, 40, 14), (30, 202, 3)] : List (Nat × Nat × Int)), ∀ x ∈ dkAll 1 z.2.1 z.2.2, decode cX9_clubAt (z.1 + x.1) = .ok (x.2.1, x.2.2) := by decide +kernel
theorem kd_X9_clubAt : rDec 128 1 cX9_clubAt := fun bs h => by
  cases (show codeT[128]? = some k_X9_clubAt from rfl).symm.trans h
  exact (List.forall_mem_cons.mpr ⟨kd_X9_clubAt_0, fun _ h => absurd h List.not_mem_nil⟩ : ∀ bl ∈ k_X9_clubAt, ∀ z ∈ bl, ∀ x ∈ dkAll 1 z.2.1 z.2.2, decode cX9_clubAt (z.1 + x.1) = .ok (x.2.1, x.2.2))
theorem kd_X9_clubsIn_0 : ∀ z ∈ ([(0, 15, 0), (1, 7, 2), (2, 15, 0), (3, 7, 3), (4, 0, 3), (5, 4, 0), (6, 70, 56), (9, 201, 156), (12, 41, 30), (42, 0, 2), (43, 200, 0)] : List (Nat × Nat × Int)), ∀ x ∈ dkAll 1 z.2.1 z.2.2, decode cX9_clubsIn (z.1 + x.1) = .ok (x.2.1, x.2.2) := by decide +kernel
theorem kd_X9_clubsIn : rDec 129 1 cX9_clubsIn := fun bs h => by
  cases (show codeT[129]? = some k_X9_clubsIn from rfl).symm.trans h
  exact (List.forall_mem_cons.mpr ⟨kd_X9_clubsIn_0, fun _ h => absurd h List.not_mem_nil⟩ : ∀ bl ∈ k_X9_clubsIn, ∀ z ∈ bl, ∀ x ∈ dkAll 1 z.2.1 z.2.2, decode cX9_clubsIn (z.1 + x.1) = .ok (x.2.1, x.2.2))
theorem kd_X9_divisionOf_0 : ∀ z ∈ ([(0, 4, 0), (1, 0, 1), (2, 201, 159)] : List (Nat × Nat × Int)), ∀ x ∈ dkAll 1 z.2.1 z.2.2, decode cX9_divisionOf (z.1 + x.1) = .ok (x.2.1, x.2.2) := by decide +kernel
theorem kd_X9_divisionOf : rDec 130 1 cX9_divisionOf := fun bs h => by
  cases (show codeT[130]? = some k_X9_divisionOf from rfl).symm.trans h
  exact (List.forall_mem_cons.mpr ⟨kd_X9_divisionOf_0, fun _ h => absurd h List.not_mem_nil⟩ : ∀ bl ∈ k_X9_divisionOf, ∀ z ∈ bl, ∀ x ∈ dkAll 1 z.2.1 z.2.2, decode cX9_divisionOf (z.1 + x.1) = .ok (x.2.1, x.2.2))
theorem kd_X9_end_0 : ∀ z ∈ ([(0, 4, 0), (1, 201, 152)] : List (Nat × Nat × Int)), ∀ x ∈ dkAll 1 z.2.1 z.2.2, decode cX9_end (z.1 + x.1) = .ok (x.2.1, x.2.2) := by decide +kernel
theorem kd_X9_end : rDec 131 1 cX9_end := fun bs h => by
  cases (show codeT[131]? = some k_X9_end from rfl).symm.trans h
  exact (List.forall_mem_cons.mpr ⟨kd_X9_end_0, fun _ h => absurd h List.not_mem_nil⟩ : ∀ bl ∈ k_X9_end, ∀ z ∈ bl, ∀ x ∈ dkAll 1 z.2.1 z.2.2, decode cX9_end (z.1 + x.1) = .ok (x.2.1, x.2.2))
theorem kd_X9_endSeason_0 : ∀ z ∈ ([(0, 4, 0), (1, 201, 165), (4, 33, 13), (7, 4, 0), (8, 70, 58), (11, 201, 166), (14, 32, 14), (28, 4, 0), (29, 70, 62), (32, 15, 1), (33, 4, 0), (34, 70, 56), (37, 4, 0), (38, 70, 60), (41, 201, 167), (44, 4, 0), (45, 70, 62), (48, 201, 168), (51, 11, 1), (52, 4, 0), (53, 70, 62), (56, 15, 0), (57, 4, 0), (58, 70, 56), (61, 4, 0), (62, 70, 60)] : List (Nat × Nat × Int)), ∀ x ∈ dkAll 1 z.2.1 z.2.2, decode cX9_endSeason (z.1 + x.1) = .ok (x.2.1, x.2.2) := by decide +kernel
theorem kd_X9_endSeason_1 : ∀ z ∈ ([(65, 201, 167), (68, 6, 1), (69, 52, 7), (72, 21, 0), (73, 53, 10), (83, 11, 2), (84, 6, 1), (85, 51, 8), (93, 6, 2), (94, 51, 8), (102, 4, 0), (103, 201, 169), (106, 6, 1), (107, 52, 7), (110, 15, -1), (111, 53, 7), (118, 200, 0)] : List (Nat × Nat × Int)), ∀ x ∈ dkAll 1 z.2.1 z.2.2, decode cX9_endSeason (z.1 + x.1) = .ok (x.2.1, x.2.2) := by decide +kernel
theorem kd_X9_endSeason : rDec 132 1 cX9_endSeason := fun bs h => by
  cases (show codeT[132]? = some k_X9_endSeason from rfl).symm.trans h
  exact (List.forall_mem_cons.mpr ⟨kd_X9_endSeason_0, List.forall_mem_cons.mpr ⟨kd_X9_endSeason_1, fun _ h => absurd h List.not_mem_nil⟩⟩ : ∀ bl ∈ k_X9_endSeason, ∀ z ∈ bl, ∀ x ∈ dkAll 1 z.2.1 z.2.2, decode cX9_endSeason (z.1 + x.1) = .ok (x.2.1, x.2.2))
theorem kd_X9_fixture_0 : ∀ z ∈ ([(0, 4, 0), (1, 0, 1), (2, 201, 170)] : List (Nat × Nat × Int)), ∀ x ∈ dkAll 1 z.2.1 z.2.2, decode cX9_fixture (z.1 + x.1) = .ok (x.2.1, x.2.2) := by decide +kernel
theorem kd_X9_fixture : rDec 133 1 cX9_fixture := fun bs h => by
  cases (show codeT[133]? = some k_X9_fixture from rfl).symm.trans h
  exact (List.forall_mem_cons.mpr ⟨kd_X9_fixture_0, fun _ h => absurd h List.not_mem_nil⟩ : ∀ bl ∈ k_X9_fixture, ∀ z ∈ bl, ∀ x ∈ dkAll 1 z.2.1 z.2.2, decode cX9_fixture (z.1 + x.1) = .ok (x.2.1, x.2.2))
theorem kd_X9_fixturesOver_0 : ∀ z ∈ ([(0, 15, 0), (1, 7, 1), (2, 15, 0), (3, 7, 2), (4, 0, 2), (5, 4, 0), (6, 70, 60), (9, 201, 156), (12, 41, 29), (41, 0, 1), (42, 200, 0)] : List (Nat × Nat × Int)), ∀ x ∈ dkAll 1 z.2.1 z.2.2, decode cX9_fixturesOver (z.1 + x.1) = .ok (x.2.1, x.2.2) := by decide +kernel
theorem kd_X9_fixturesOver : rDec 134 1 cX9_fixturesOver := fun bs h => by
  cases (show codeT[134]? = some k_X9_fixturesOver from rfl).symm.trans h
  exact (List.forall_mem_cons.mpr ⟨kd_X9_fixturesOver_0, fun _ h => absurd h List.not_mem_nil⟩ : ∀ bl ∈ k_X9_fixturesOver, ∀ z ∈ bl, ∀ x ∈ dkAll 1 z.2.1 z.2.2, decode cX9_fixturesOver (z.1 + x.1) = .ok (x.2.1, x.2.2))
theorem kd_X9_goOn_0 : ∀ z ∈ ([(0, 0, 1), (1, 15, 1), (2, 16, 99), (4, 201, 154), (7, 33, 13), (10, 202, 4), (20, 4, 0), (21, 70, 61), (24, 51, 13), (37, 4, 0), (38, 22, 0), (39, 70, 63), (42, 0, 1), (43, 25, 0), (44, 72, 63), (47, 4, 0), (48, 70, 63), (51, 200, 0)] : List (Nat × Nat × Int)), ∀ x ∈ dkAll 1 z.2.1 z.2.2, decode cX9_goOn (z.1 + x.1) = .ok (x.2.1, x.2.2) := by decide +kernel
theorem kd_X9_goOn : rDec 135 1 cX9_goOn := fun bs h => by
  cases (show codeT[135]? = some k_X9_goOn from rfl).symm.trans h
  exact (List.forall_mem_cons.mpr ⟨kd_X9_goOn_0, fun _ h => absurd h List.not_mem_nil⟩ : ∀ bl ∈ k_X9_goOn, ∀ z ∈ bl, ∀ x ∈ dkAll 1 z.2.1 z.2.2, decode cX9_goOn (z.1 + x.1) = .ok (x.2.1, x.2.2))
theorem kd_X9_goal_0 : ∀ z ∈ ([(0, 4, 0), (1, 0, 1), (2, 201, 161)] : List (Nat × Nat × Int)), ∀ x ∈ dkAll 1 z.2.1 z.2.2, decode cX9_goal (z.1 + x.1) = .ok (x.2.1, x.2.2) := by decide +kernel
theorem kd_X9_goal : rDec 136 1 cX9_goal := fun bs h => by
  cases (show codeT[136]? = some k_X9_goal from rfl).symm.trans h
  exact (List.forall_mem_cons.mpr ⟨kd_X9_goal_0, fun _ h => absurd h List.not_mem_nil⟩ : ∀ bl ∈ k_X9_goal, ∀ z ∈ bl, ∀ x ∈ dkAll 1 z.2.1 z.2.2, decode cX9_goal (z.1 + x.1) = .ok (x.2.1, x.2.2))
theorem kd_X9_hasFixtures_0 : ∀ z ∈ ([(0, 15, 0), (1, 7, 2), (2, 0, 2), (3, 4, 0), (4, 70, 60), (7, 201, 156), (10, 41, 35), (45, 15, 0), (46, 200, 0)] : List (Nat × Nat × Int)), ∀ x ∈ dkAll 6 z.2.1 z.2.2, decode cX9_hasFixtures (z.1 + x.1) = .ok (x.2.1, x.2.2) := by decide +kernel
theorem kd_X9_hasFixtures : rDec 137 6 cX9_hasFixtures := fun bs h => by
  cases (show codeT[137]? = some k_X9_hasFixtures from rfl).symm.trans h
  exact (List.forall_mem_cons.mpr ⟨kd_X9_hasFixtures_0, fun _ h => absurd h List.not_mem_nil⟩ : ∀ bl ∈ k_X9_hasFixtures, ∀ z ∈ bl, ∀ x ∈ dkAll 6 z.2.1 z.2.2, decode cX9_hasFixtures (z.1 + x.1) = .ok (x.2.1, x.2.2))
theorem kd_X9_init_0 : ∀ z ∈ ([(0, 4, 0), (1, 75, 10), (4, 4, 0), (5, 69, 12), (8, 22, 0), (9, 201, 171), (12, 73, 56), (15, 4, 0), (16, 69, 12), (19, 22, 0), (20, 201, 171), (23, 73, 64), (26, 4, 0), (27, 69, 12), (30, 22, 0), (31, 201, 171), (34, 73, 60), (37, 4, 0), (38, 69, 13), (41, 22, 0), (42, 201, 172), (45, 73, 58), (48, 4, 0), (49, 69, 14), (52, 22, 0), (53, 201, 173), (56, 73, 65), (59, 4, 0), (60, 69, 15), (63, 22, 0)] : List (Nat × Nat × Int)), ∀ x ∈ dkAll 0 z.2.1 z.2.2, decode cX9_init (z.1 + x.1) = .ok (x.2.1, x.2.2) := by decide +kernel
theorem kd_X9_init_1 : ∀ z ∈ ([(64, 201, 174), (67, 73, 62), (70, 4, 0), (71, 15, 0), (72, 72, 63), (75, 4, 0), (76, 15, 1), (77, 72, 66), (80, 4, 0), (81, 15, 0), (82, 72, 67), (85, 4, 0), (86, 21, 0), (87, 72, 61), (90, 200, 0)] : List (Nat × Nat × Int)), ∀ x ∈ dkAll 0 z.2.1 z.2.2, decode cX9_init (z.1 + x.1) = .ok (x.2.1, x.2.2) := by decide +kernel
theorem kd_X9_init : rDec 138 0 cX9_init := fun bs h => by
  cases (show codeT[138]? = some k_X9_init from rfl).symm.trans h
  exact (List.forall_mem_cons.mpr ⟨kd_X9_init_0, List.forall_mem_cons.mpr ⟨kd_X9_init_1, fun _ h => absurd h List.not_mem_nil⟩⟩ : ∀ bl ∈ k_X9_init, ∀ z ∈ bl, ∀ x ∈ dkAll 0 z.2.1 z.2.2, decode cX9_init (z.1 + x.1) = .ok (x.2.1, x.2.2))
theorem kd_X9_isDivision_0 : ∀ z ∈ ([(0, 0, 0), (1, 15, 0), (2, 15, 1), (3, 201, 154), (6, 200, 0)] : List (Nat × Nat × Int)), ∀ x ∈ dkAll 6 z.2.1 z.2.2, decode cX9_isDivision (z.1 + x.1) = .ok (x.2.1, x.2.2) := by decide +kernel
theorem kd_X9_isDivision : rDec 139 6 cX9_isDivision := fun bs h => by
  cases (show codeT[139]? = some k_X9_isDivision from rfl).symm.trans h
  exact (List.forall_mem_cons.mpr ⟨kd_X9_isDivision_0, fun _ h => absurd h List.not_mem_nil⟩ : ∀ bl ∈ k_X9_isDivision, ∀ z ∈ bl, ∀ x ∈ dkAll 6 z.2.1 z.2.2, decode cX9_isDivision (z.1 + x.1) = .ok (x.2.1, x.2.2))
theorem kd_X9_isFixtureLeft_0 : ∀ z ∈ ([(0, 15, 0), (1, 7, 1), (2, 0, 1), (3, 4, 0), (4, 70, 60), (7, 201, 156), (10, 41, 37), (47, 15, 0), (48, 200, 0)] : List (Nat × Nat × Int)), ∀ x ∈ dkAll 6 z.2.1 z.2.2, decode cX9_isFixtureLeft (z.1 + x.1) = .ok (x.2.1, x.2.2) := by decide +kernel
theorem kd_X9_isFixtureLeft : rDec 140 6 cX9_isFixtureLeft := fun bs h => by
  cases (show codeT[140]? = some k_X9_isFixtureLeft from rfl).symm.trans h
  exact (List.forall_mem_cons.mpr ⟨kd_X9_isFixtureLeft_0, fun _ h => absurd h List.not_mem_nil⟩ : ∀ bl ∈ k_X9_isFixtureLeft, ∀ z ∈ bl, ∀ x ∈ dkAll 6 z.2.1 z.2.2, decode cX9_isFixtureLeft (z.1 + x.1) = .ok (x.2.1, x.2.2))
theorem kd_X9_isGuilty_0 : ∀ z ∈ ([(0, 4, 0), (1, 0, 1), (2, 201, 170)] : List (Nat × Nat × Int)), ∀ x ∈ dkAll 6 z.2.1 z.2.2, decode cX9_isGuilty (z.1 + x.1) = .ok (x.2.1, x.2.2) := by decide +kernel
theorem kd_X9_isGuilty : rDec 141 6 cX9_isGuilty := fun bs h => by
  cases (show codeT[141]? = some k_X9_isGuilty from rfl).symm.trans h
  exact (List.forall_mem_cons.mpr ⟨kd_X9_isGuilty_0, fun _ h => absurd h List.not_mem_nil⟩ : ∀ bl ∈ k_X9_isGuilty, ∀ z ∈ bl, ∀ x ∈ dkAll 6 z.2.1 z.2.2, decode cX9_isGuilty (z.1 + x.1) = .ok (x.2.1, x.2.2))
theorem kd_X9_isSound_0 : ∀ z ∈ ([(0, 15, 0), (1, 7, 1), (2, 0, 1), (3, 4, 0), (4, 70, 60), (7, 201, 156), (10, 41, 23), (33, 4, 0), (34, 70, 58), (37, 201, 175), (40, 7, 1), (41, 15, 1), (42, 7, 2), (43, 15, 0), (44, 7, 3), (45, 0, 3), (46, 4, 0), (47, 70, 60), (50, 201, 156), (53, 41, 36)] : List (Nat × Nat × Int)), ∀ x ∈ dkAll 6 z.2.1 z.2.2, decode cX9_isSound (z.1 + x.1) = .ok (x.2.1, x.2.2) := by decide +kernel
theorem kd_X9_isSound_1 : ∀ z ∈ ([(89, 78, 4), (92, 4, 0), (93, 70, 56), (96, 201, 156), (99, 30, 0), (100, 28, 0), (101, 12, 3), (102, 0, 1), (103, 32, 20), (106, 0, 2), (107, 32, 16), (110, 4, 0), (111, 201, 176), (114, 2, 3), (115, 45, 7), (119, 15, 1), (120, 53, 4), (124, 200, 0)] : List (Nat × Nat × Int)), ∀ x ∈ dkAll 6 z.2.1 z.2.2, decode cX9_isSound (z.1 + x.1) = .ok (x.2.1, x.2.2) := by decide +kernel
theorem kd_X9_isSound : rDec 142 6 cX9_isSound := fun bs h => by
  cases (show codeT[142]? = some k_X9_isSound from rfl).symm.trans h
  exact (List.forall_mem_cons.mpr ⟨kd_X9_isSound_0, List.forall_mem_cons.mpr ⟨kd_X9_isSound_1, fun _ h => absurd h List.not_mem_nil⟩⟩ : ∀ bl ∈ k_X9_isSound, ∀ z ∈ bl, ∀ x ∈ dkAll 6 z.2.1 z.2.2, decode cX9_isSound (z.1 + x.1) = .ok (x.2.1, x.2.2))
theorem kd_X9_isWindowOpen_0 : ∀ z ∈ ([(0, 4, 0), (1, 70, 63), (4, 4, 0), (5, 70, 66), (8, 4, 0), (9, 70, 67), (12, 201, 154), (15, 200, 0)] : List (Nat × Nat × Int)), ∀ x ∈ dkAll 6 z.2.1 z.2.2, decode cX9_isWindowOpen (z.1 + x.1) = .ok (x.2.1, x.2.2) := by decide +kernel
theorem kd_X9_isWindowOpen : rDec 143 6 cX9_isWindowOpen := fun bs h => by
  cases (show codeT[143]? = some k_X9_isWindowOpen from rfl).symm.trans h
  exact (List.forall_mem_cons.mpr ⟨kd_X9_isWindowOpen_0, fun _ h => absurd h List.not_mem_nil⟩ : ∀ bl ∈ k_X9_isWindowOpen, ∀ z ∈ bl, ∀ x ∈ dkAll 6 z.2.1 z.2.2, decode cX9_isWindowOpen (z.1 + x.1) = .ok (x.2.1, x.2.2))
theorem kd_X9_isWithin_0 : ∀ z ∈ ([(0, 0, 0), (1, 0, 1), (2, 40, 12), (5, 0, 0), (6, 0, 2), (7, 42, 7), (10, 15, 1), (11, 53, 4), (14, 15, 0), (15, 200, 0)] : List (Nat × Nat × Int)), ∀ x ∈ dkAll 6 z.2.1 z.2.2, decode cX9_isWithin (z.1 + x.1) = .ok (x.2.1, x.2.2) := by decide +kernel
theorem kd_X9_isWithin : rDec 144 6 cX9_isWithin := fun bs h => by
  cases (show codeT[144]? = some k_X9_isWithin from rfl).symm.trans h
  exact (List.forall_mem_cons.mpr ⟨kd_X9_isWithin_0, fun _ h => absurd h List.not_mem_nil⟩ : ∀ bl ∈ k_X9_isWithin, ∀ z ∈ bl, ∀ x ∈ dkAll 6 z.2.1 z.2.2, decode cX9_isWithin (z.1 + x.1) = .ok (x.2.1, x.2.2))
theorem kd_X9_kickOff_0 : ∀ z ∈ ([(0, 4, 0), (1, 0, 1), (2, 201, 170)] : List (Nat × Nat × Int)), ∀ x ∈ dkAll 1 z.2.1 z.2.2, decode cX9_kickOff (z.1 + x.1) = .ok (x.2.1, x.2.2) := by decide +kernel
theorem kd_X9_kickOff : rDec 145 1 cX9_kickOff := fun bs h => by
  cases (show codeT[145]? = some k_X9_kickOff from rfl).symm.trans h
  exact (List.forall_mem_cons.mpr ⟨kd_X9_kickOff_0, fun _ h => absurd h List.not_mem_nil⟩ : ∀ bl ∈ k_X9_kickOff, ∀ z ∈ bl, ∀ x ∈ dkAll 1 z.2.1 z.2.2, decode cX9_kickOff (z.1 + x.1) = .ok (x.2.1, x.2.2))
theorem kd_X9_knownBit_0 : ∀ z ∈ ([(0, 4, 0), (1, 0, 1), (2, 201, 160)] : List (Nat × Nat × Int)), ∀ x ∈ dkAll 1 z.2.1 z.2.2, decode cX9_knownBit (z.1 + x.1) = .ok (x.2.1, x.2.2) := by decide +kernel
theorem kd_X9_knownBit : rDec 146 1 cX9_knownBit := fun bs h => by
  cases (show codeT[146]? = some k_X9_knownBit from rfl).symm.trans h
  exact (List.forall_mem_cons.mpr ⟨kd_X9_knownBit_0, fun _ h => absurd h List.not_mem_nil⟩ : ∀ bl ∈ k_X9_knownBit, ∀ z ∈ bl, ∀ x ∈ dkAll 1 z.2.1 z.2.2, decode cX9_knownBit (z.1 + x.1) = .ok (x.2.1, x.2.2))
theorem kd_X9_knownClub_0 : ∀ z ∈ ([(0, 0, 1), (1, 34, 14), (4, 0, 1), (5, 4, 0), (6, 70, 56), (9, 201, 156), (12, 40, 14), (15, 202, 5)] : List (Nat × Nat × Int)), ∀ x ∈ dkAll 3 z.2.1 z.2.2, decode cX9_knownClub (z.1 + x.1) = .ok (x.2.1, x.2.2) := by decide +kernel
theorem kd_X9_knownClub : rDec 147 3 cX9_knownClub := fun bs h => by
  cases (show codeT[147]? = some k_X9_knownClub from rfl).symm.trans h
  exact (List.forall_mem_cons.mpr ⟨kd_X9_knownClub_0, fun _ h => absurd h List.not_mem_nil⟩ : ∀ bl ∈ k_X9_knownClub, ∀ z ∈ bl, ∀ x ∈ dkAll 3 z.2.1 z.2.2, decode cX9_knownClub (z.1 + x.1) = .ok (x.2.1, x.2.2))
theorem kd_X9_knownFixture_0 : ∀ z ∈ ([(0, 0, 1), (1, 34, 14), (4, 0, 1), (5, 4, 0), (6, 70, 60), (9, 201, 156), (12, 40, 14), (15, 202, 6)] : List (Nat × Nat × Int)), ∀ x ∈ dkAll 3 z.2.1 z.2.2, decode cX9_knownFixture (z.1 + x.1) = .ok (x.2.1, x.2.2) := by decide +kernel
theorem kd_X9_knownFixture : rDec 148 3 cX9_knownFixture := fun bs h => by
  cases (show codeT[148]? = some k_X9_knownFixture from rfl).symm.trans h
  exact (List.forall_mem_cons.mpr ⟨kd_X9_knownFixture_0, fun _ h => absurd h List.not_mem_nil⟩ : ∀ bl ∈ k_X9_knownFixture, ∀ z ∈ bl, ∀ x ∈ dkAll 3 z.2.1 z.2.2, decode cX9_knownFixture (z.1 + x.1) = .ok (x.2.1, x.2.2))
theorem kd_X9_knownMatch_0 : ∀ z ∈ ([(0, 4, 0), (1, 70, 61), (4, 52, 14), (7, 202, 7)] : List (Nat × Nat × Int)), ∀ x ∈ dkAll 3 z.2.1 z.2.2, decode cX9_knownMatch (z.1 + x.1) = .ok (x.2.1, x.2.2) := by decide +kernel
theorem kd_X9_knownMatch : rDec 149 3 cX9_knownMatch := fun bs h => by
  cases (show codeT[149]? = some k_X9_knownMatch from rfl).symm.trans h
  exact (List.forall_mem_cons.mpr ⟨kd_X9_knownMatch_0, fun _ h => absurd h List.not_mem_nil⟩ : ∀ bl ∈ k_X9_knownMatch, ∀ z ∈ bl, ∀ x ∈ dkAll 3 z.2.1 z.2.2, decode cX9_knownMatch (z.1 + x.1) = .ok (x.2.1, x.2.2))
theorem kd_X9_knownPlayer_0 : ∀ z ∈ ([(0, 0, 1), (1, 34, 20), (4, 0, 1), (5, 4, 0), (6, 70, 64), (9, 201, 156), (12, 41, 9), (21, 202, 8)] : List (Nat × Nat × Int)), ∀ x ∈ dkAll 3 z.2.1 z.2.2, decode cX9_knownPlayer (z.1 + x.1) = .ok (x.2.1, x.2.2) := by decide +kernel
theorem kd_X9_knownPlayer : rDec 150 3 cX9_knownPlayer := fun bs h => by
  cases (show codeT[150]? = some k_X9_knownPlayer from rfl).symm.trans h
  exact (List.forall_mem_cons.mpr ⟨kd_X9_knownPlayer_0, fun _ h => absurd h List.not_mem_nil⟩ : ∀ bl ∈ k_X9_knownPlayer, ∀ z ∈ bl, ∀ x ∈ dkAll 3 z.2.1 z.2.2, decode cX9_knownPlayer (z.1 + x.1) = .ok (x.2.1, x.2.2))
theorem kd_X9_lend_0 : ∀ z ∈ ([(0, 4, 0), (1, 0, 1), (2, 201, 160)] : List (Nat × Nat × Int)), ∀ x ∈ dkAll 1 z.2.1 z.2.2, decode cX9_lend (z.1 + x.1) = .ok (x.2.1, x.2.2) := by decide +kernel
theorem kd_X9_lend : rDec 151 1 cX9_lend := fun bs h => by
  cases (show codeT[151]? = some k_X9_lend from rfl).symm.trans h
  exact (List.forall_mem_cons.mpr ⟨kd_X9_lend_0, fun _ h => absurd h List.not_mem_nil⟩ : ∀ bl ∈ k_X9_lend, ∀ z ∈ bl, ∀ x ∈ dkAll 1 z.2.1 z.2.2, decode cX9_lend (z.1 + x.1) = .ok (x.2.1, x.2.2))
theorem kd_X9_meanGoals_0 : ∀ z ∈ ([(0, 4, 0), (1, 201, 177), (4, 7, 1), (5, 0, 1), (6, 33, 14), (9, 202, 9)] : List (Nat × Nat × Int)), ∀ x ∈ dkAll 5 z.2.1 z.2.2, decode cX9_meanGoals (z.1 + x.1) = .ok (x.2.1, x.2.2) := by decide +kernel
theorem kd_X9_meanGoals : rDec 152 5 cX9_meanGoals := fun bs h => by
  cases (show codeT[152]? = some k_X9_meanGoals from rfl).symm.trans h
  exact (List.forall_mem_cons.mpr ⟨kd_X9_meanGoals_0, fun _ h => absurd h List.not_mem_nil⟩ : ∀ bl ∈ k_X9_meanGoals, ∀ z ∈ bl, ∀ x ∈ dkAll 5 z.2.1 z.2.2, decode cX9_meanGoals (z.1 + x.1) = .ok (x.2.1, x.2.2))
theorem kd_X9_money_0 : ∀ z ∈ ([(0, 18, 0), (1, 12, 1), (2, 15, 0), (3, 7, 3), (4, 0, 3), (5, 4, 0), (6, 70, 56), (9, 201, 156), (12, 41, 27), (39, 2, 1), (40, 200, 0)] : List (Nat × Nat × Int)), ∀ x ∈ dkAll 2 z.2.1 z.2.2, decode cX9_money (z.1 + x.1) = .ok (x.2.1, x.2.2) := by decide +kernel
theorem kd_X9_money : rDec 153 2 cX9_money := fun bs h => by
  cases (show codeT[153]? = some k_X9_money from rfl).symm.trans h
  exact (List.forall_mem_cons.mpr ⟨kd_X9_money_0, fun _ h => absurd h List.not_mem_nil⟩ : ∀ bl ∈ k_X9_money, ∀ z ∈ bl, ∀ x ∈ dkAll 2 z.2.1 z.2.2, decode cX9_money (z.1 + x.1) = .ok (x.2.1, x.2.2))
theorem kd_X9_name_0 : ∀ z ∈ ([(0, 4, 0), (1, 0, 1), (2, 201, 170)] : List (Nat × Nat × Int)), ∀ x ∈ dkAll 1 z.2.1 z.2.2, decode cX9_name (z.1 + x.1) = .ok (x.2.1, x.2.2) := by decide +kernel
theorem kd_X9_name : rDec 154 1 cX9_name := fun bs h => by
  cases (show codeT[154]? = some k_X9_name from rfl).symm.trans h
  exact (List.forall_mem_cons.mpr ⟨kd_X9_name_0, fun _ h => absurd h List.not_mem_nil⟩ : ∀ bl ∈ k_X9_name, ∀ z ∈ bl, ∀ x ∈ dkAll 1 z.2.1 z.2.2, decode cX9_name (z.1 + x.1) = .ok (x.2.1, x.2.2))
theorem kd_X9_overShare_0 : ∀ z ∈ ([(0, 4, 0), (1, 70, 60), (4, 201, 156), (7, 7, 1), (8, 0, 1), (9, 33, 14), (12, 202, 10)] : List (Nat × Nat × Int)), ∀ x ∈ dkAll 4 z.2.1 z.2.2, decode cX9_overShare (z.1 + x.1) = .ok (x.2.1, x.2.2) := by decide +kernel
theorem kd_X9_overShare : rDec 155 4 cX9_overShare := fun bs h => by
  cases (show codeT[155]? = some k_X9_overShare from rfl).symm.trans h
  exact (List.forall_mem_cons.mpr ⟨kd_X9_overShare_0, fun _ h => absurd h List.not_mem_nil⟩ : ∀ bl ∈ k_X9_overShare, ∀ z ∈ bl, ∀ x ∈ dkAll 4 z.2.1 z.2.2, decode cX9_overShare (z.1 + x.1) = .ok (x.2.1, x.2.2))
theorem kd_X9_plan_0 : ∀ z ∈ ([(0, 0, 1), (1, 201, 153), (4, 33, 13), (7, 202, 2), (17, 4, 0), (18, 0, 1), (19, 201, 178), (22, 33, 12), (25, 4, 0), (26, 0, 1), (27, 201, 155), (30, 15, 2), (31, 41, 13), (34, 202, 11)] : List (Nat × Nat × Int)), ∀ x ∈ dkAll 1 z.2.1 z.2.2, decode cX9_plan (z.1 + x.1) = .ok (x.2.1, x.2.2) := by decide +kernel
theorem kd_X9_plan : rDec 156 1 cX9_plan := fun bs h => by
  cases (show codeT[156]? = some k_X9_plan from rfl).symm.trans h
  exact (List.forall_mem_cons.mpr ⟨kd_X9_plan_0, fun _ h => absurd h List.not_mem_nil⟩ : ∀ bl ∈ k_X9_plan, ∀ z ∈ bl, ∀ x ∈ dkAll 1 z.2.1 z.2.2, decode cX9_plan (z.1 + x.1) = .ok (x.2.1, x.2.2))
theorem kd_X9_points_0 : ∀ z ∈ ([(0, 4, 0), (1, 0, 1), (2, 201, 159)] : List (Nat × Nat × Int)), ∀ x ∈ dkAll 1 z.2.1 z.2.2, decode cX9_points (z.1 + x.1) = .ok (x.2.1, x.2.2) := by decide +kernel
theorem kd_X9_points : rDec 157 1 cX9_points := fun bs h => by
  cases (show codeT[157]? = some k_X9_points from rfl).symm.trans h
  exact (List.forall_mem_cons.mpr ⟨kd_X9_points_0, fun _ h => absurd h List.not_mem_nil⟩ : ∀ bl ∈ k_X9_points, ∀ z ∈ bl, ∀ x ∈ dkAll 1 z.2.1 z.2.2, decode cX9_points (z.1 + x.1) = .ok (x.2.1, x.2.2))
theorem kd_X9_putOff_0 : ∀ z ∈ ([(0, 4, 0), (1, 0, 1), (2, 201, 170)] : List (Nat × Nat × Int)), ∀ x ∈ dkAll 1 z.2.1 z.2.2, decode cX9_putOff (z.1 + x.1) = .ok (x.2.1, x.2.2) := by decide +kernel
theorem kd_X9_putOff : rDec 158 1 cX9_putOff := fun bs h => by
  cases (show codeT[158]? = some k_X9_putOff from rfl).symm.trans h
  exact (List.forall_mem_cons.mpr ⟨kd_X9_putOff_0, fun _ h => absurd h List.not_mem_nil⟩ : ∀ bl ∈ k_X9_putOff, ∀ z ∈ bl, ∀ x ∈ dkAll 1 z.2.1 z.2.2, decode cX9_putOff (z.1 + x.1) = .ok (x.2.1, x.2.2))
theorem kd_X9_registered_0 : ∀ z ∈ ([(0, 4, 0), (1, 0, 1), (2, 201, 160)] : List (Nat × Nat × Int)), ∀ x ∈ dkAll 1 z.2.1 z.2.2, decode cX9_registered (z.1 + x.1) = .ok (x.2.1, x.2.2) := by decide +kernel
theorem kd_X9_registered : rDec 159 1 cX9_registered := fun bs h => by
  cases (show codeT[159]? = some k_X9_registered from rfl).symm.trans h
  exact (List.forall_mem_cons.mpr ⟨kd_X9_registered_0, fun _ h => absurd h List.not_mem_nil⟩ : ∀ bl ∈ k_X9_registered, ∀ z ∈ bl, ∀ x ∈ dkAll 1 z.2.1 z.2.2, decode cX9_registered (z.1 + x.1) = .ok (x.2.1, x.2.2))
theorem kd_X9_resultOf_0 : ∀ z ∈ ([(0, 4, 0), (1, 0, 1), (2, 201, 170)] : List (Nat × Nat × Int)), ∀ x ∈ dkAll 1 z.2.1 z.2.2, decode cX9_resultOf (z.1 + x.1) = .ok (x.2.1, x.2.2) := by decide +kernel
theorem kd_X9_resultOf : rDec 160 1 cX9_resultOf := fun bs h => by
  cases (show codeT[160]? = some k_X9_resultOf from rfl).symm.trans h
  exact (List.forall_mem_cons.mpr ⟨kd_X9_resultOf_0, fun _ h => absurd h List.not_mem_nil⟩ : ∀ bl ∈ k_X9_resultOf, ∀ z ∈ bl, ∀ x ∈ dkAll 1 z.2.1 z.2.2, decode cX9_resultOf (z.1 + x.1) = .ok (x.2.1, x.2.2))
theorem kd_X9_sell_0 : ∀ z ∈ ([(0, 4, 0), (1, 0, 1), (2, 201, 160)] : List (Nat × Nat × Int)), ∀ x ∈ dkAll 1 z.2.1 z.2.2, decode cX9_sell (z.1 + x.1) = .ok (x.2.1, x.2.2) := by decide +kernel
theorem kd_X9_sell : rDec 161 1 cX9_sell := fun bs h => by
  cases (show codeT[161]? = some k_X9_sell from rfl).symm.trans h
  exact (List.forall_mem_cons.mpr ⟨kd_X9_sell_0, fun _ h => absurd h List.not_mem_nil⟩ : ∀ bl ∈ k_X9_sell, ∀ z ∈ bl, ∀ x ∈ dkAll 1 z.2.1 z.2.2, decode cX9_sell (z.1 + x.1) = .ok (x.2.1, x.2.2))
theorem kd_X9_setDerby_0 : ∀ z ∈ ([(0, 4, 0), (1, 0, 1), (2, 201, 159)] : List (Nat × Nat × Int)), ∀ x ∈ dkAll 6 z.2.1 z.2.2, decode cX9_setDerby (z.1 + x.1) = .ok (x.2.1, x.2.2) := by decide +kernel
theorem kd_X9_setDerby : rDec 162 6 cX9_setDerby := fun bs h => by
  cases (show codeT[162]? = some k_X9_setDerby from rfl).symm.trans h
  exact (List.forall_mem_cons.mpr ⟨kd_X9_setDerby_0, fun _ h => absurd h List.not_mem_nil⟩ : ∀ bl ∈ k_X9_setDerby, ∀ z ∈ bl, ∀ x ∈ dkAll 6 z.2.1 z.2.2, decode cX9_setDerby (z.1 + x.1) = .ok (x.2.1, x.2.2))
theorem kd_X9_setWindow_0 : ∀ z ∈ ([(0, 0, 1), (1, 15, 0), (2, 17, 9999), (5, 201, 154), (8, 32, 14), (11, 0, 2), (12, 15, 0), (13, 17, 9999), (16, 201, 154), (19, 33, 13), (22, 202, 12), (32, 4, 0), (33, 0, 1), (34, 72, 66), (37, 4, 0), (38, 0, 2), (39, 72, 67), (42, 4, 0), (43, 201, 179), (46, 200, 0)] : List (Nat × Nat × Int)), ∀ x ∈ dkAll 6 z.2.1 z.2.2, decode cX9_setWindow (z.1 + x.1) = .ok (x.2.1, x.2.2) := by decide +kernel
theorem kd_X9_setWindow : rDec 163 6 cX9_setWindow := fun bs h => by
  cases (show codeT[163]? = some k_X9_setWindow from rfl).symm.trans h
  exact (List.forall_mem_cons.mpr ⟨kd_X9_setWindow_0, fun _ h => absurd h List.not_mem_nil⟩ : ∀ bl ∈ k_X9_setWindow, ∀ z ∈ bl, ∀ x ∈ dkAll 6 z.2.1 z.2.2, decode cX9_setWindow (z.1 + x.1) = .ok (x.2.1, x.2.2))
theorem kd_X9_stateOf_0 : ∀ z ∈ ([(0, 4, 0), (1, 0, 1), (2, 201, 170)] : List (Nat × Nat × Int)), ∀ x ∈ dkAll 7 z.2.1 z.2.2, decode cX9_stateOf (z.1 + x.1) = .ok (x.2.1, x.2.2) := by decide +kernel
theorem kd_X9_stateOf : rDec 164 7 cX9_stateOf := fun bs h => by
  cases (show codeT[164]? = some k_X9_stateOf from rfl).symm.trans h
  exact (List.forall_mem_cons.mpr ⟨kd_X9_stateOf_0, fun _ h => absurd h List.not_mem_nil⟩ : ∀ bl ∈ k_X9_stateOf, ∀ z ∈ bl, ∀ x ∈ dkAll 7 z.2.1 z.2.2, decode cX9_stateOf (z.1 + x.1) = .ok (x.2.1, x.2.2))
theorem kd_X9_strike_0 : ∀ z ∈ ([(0, 4, 0), (1, 0, 1), (2, 201, 159)] : List (Nat × Nat × Int)), ∀ x ∈ dkAll 6 z.2.1 z.2.2, decode cX9_strike (z.1 + x.1) = .ok (x.2.1, x.2.2) := by decide +kernel
theorem kd_X9_strike : rDec 165 6 cX9_strike := fun bs h => by
  cases (show codeT[165]? = some k_X9_strike from rfl).symm.trans h
  exact (List.forall_mem_cons.mpr ⟨kd_X9_strike_0, fun _ h => absurd h List.not_mem_nil⟩ : ∀ bl ∈ k_X9_strike, ∀ z ∈ bl, ∀ x ∈ dkAll 6 z.2.1 z.2.2, decode cX9_strike (z.1 + x.1) = .ok (x.2.1, x.2.2))
theorem kd_X9_takePoints_0 : ∀ z ∈ ([(0, 4, 0), (1, 0, 1), (2, 201, 159)] : List (Nat × Nat × Int)), ∀ x ∈ dkAll 1 z.2.1 z.2.2, decode cX9_takePoints (z.1 + x.1) = .ok (x.2.1, x.2.2) := by decide +kernel
theorem kd_X9_takePoints : rDec 166 1 cX9_takePoints := fun bs h => by
  cases (show codeT[166]? = some k_X9_takePoints from rfl).symm.trans h
  exact (List.forall_mem_cons.mpr ⟨kd_X9_takePoints_0, fun _ h => absurd h List.not_mem_nil⟩ : ∀ bl ∈ k_X9_takePoints, ∀ z ∈ bl, ∀ x ∈ dkAll 1 z.2.1 z.2.2, decode cX9_takePoints (z.1 + x.1) = .ok (x.2.1, x.2.2))
theorem kd_X9_wipe_0 : ∀ z ∈ ([(0, 4, 0), (1, 70, 61), (4, 52, 13), (7, 4, 0), (8, 70, 58), (11, 201, 166), (14, 32, 13), (27, 4, 0), (28, 70, 58), (31, 201, 180), (34, 7, 1), (35, 4, 0), (36, 70, 58), (39, 69, 11), (42, 22, 0), (43, 15, 2), (44, 21, 0), (45, 15, 0), (46, 15, 0), (47, 201, 163), (50, 201, 164), (53, 0, 1), (54, 200, 0)] : List (Nat × Nat × Int)), ∀ x ∈ dkAll 1 z.2.1 z.2.2, decode cX9_wipe (z.1 + x.1) = .ok (x.2.1, x.2.2) := by decide +kernel
theorem kd_X9_wipe : rDec 167 1 cX9_wipe := fun bs h => by
  cases (show codeT[167]? = some k_X9_wipe from rfl).symm.trans h
  exact (List.forall_mem_cons.mpr ⟨kd_X9_wipe_0, fun _ h => absurd h List.not_mem_nil⟩ : ∀ bl ∈ k_X9_wipe, ∀ z ∈ bl, ∀ x ∈ dkAll 1 z.2.1 z.2.2, decode cX9_wipe (z.1 + x.1) = .ok (x.2.1, x.2.2))
theorem kd_X9_yellows_0 : ∀ z ∈ ([(0, 4, 0), (1, 0, 1), (2, 201, 160)] : List (Nat × Nat × Int)), ∀ x ∈ dkAll 1 z.2.1 z.2.2, decode cX9_yellows (z.1 + x.1) = .ok (x.2.1, x.2.2) := by decide +kernel
theorem kd_X9_yellows : rDec 168 1 cX9_yellows := fun bs h => by
  cases (show codeT[168]? = some k_X9_yellows from rfl).symm.trans h
  exact (List.forall_mem_cons.mpr ⟨kd_X9_yellows_0, fun _ h => absurd h List.not_mem_nil⟩ : ∀ bl ∈ k_X9_yellows, ∀ z ∈ bl, ∀ x ∈ dkAll 1 z.2.1 z.2.2, decode cX9_yellows (z.1 + x.1) = .ok (x.2.1, x.2.2))
