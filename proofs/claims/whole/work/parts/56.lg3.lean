set_option maxRecDepth 20000 in
theorem ggL_law_X9_alone : GoodIn wsL_law wsX9_alone := goodIn_r _ [1087, 261, 706, 707, 708, 5, 709, 710, 711, 712, 713, 322, 121, 120, 635, 636, 637, 638, 295, 296, 297, 298, 118, 113, 117, 116, 658, 659, 660, 661, 112, 384, 161, 162, 163, 662, 663, 664, 665, 666, 667, 1282, 1283, 1284, 1285, 1286, 1287, 1288, 1289, 1290, 1291, 1292, 1293, 1294, 1295, 1296, 1297, 1298, 1299, 1300, 1301, 1302, 1303, 1304, 1305, 1306, 1307, 1308, 1309, 1310, 1311, 1312, 1313, 1314, 1315, 1316, 1317, 1318, 1319, 1320, 1321, 1322, 1323] (by decide +kernel) (by decide +kernel)
set_option maxRecDepth 20000 in
theorem gL_law_X9_alone : GoodIn wsL_law (wsV RL 194 RX9 yX9_alone wsX9_alone) := goodIn_app (goodIn_of _ (by decide +kernel)) ggL_law_X9_alone
set_option maxRecDepth 20000 in
theorem ggL_law_X8_together : GoodIn wsL_law wsX8_together := goodIn_r _ [1091, 16, 336, 337, 338, 15, 339, 340, 245, 246, 247, 248, 139, 2, 140, 141, 142, 143, 144, 26, 138, 718, 619, 620, 621, 994, 346, 347, 680, 681, 682, 683, 418, 684, 685, 686, 687, 59, 688, 689, 690, 691, 58, 57, 692, 623, 624, 625, 626, 280, 281, 282, 55, 283, 284, 285, 286, 54, 53, 693, 694, 695, 696, 697, 644, 645, 646, 647, 648, 649, 650, 651, 652, 1270, 1271, 1272, 1273, 1274, 1275, 1276, 1277, 1278, 1279, 1280, 1281, 1324, 1325, 1326, 1327, 1328, 1329, 1330, 1331, 1332, 1333, 1334, 1335, 1336] (by decide +kernel) (by decide +kernel)
set_option maxRecDepth 20000 in
theorem gL_law_X8_together : GoodIn wsL_law (wsV RL 195 RX8 yX8_together wsX8_together) := goodIn_app (goodIn_of _ (by decide +kernel)) ggL_law_X8_together
set_option maxRecDepth 20000 in
theorem ggL_law_X9_together : GoodIn wsL_law wsX9_together := goodIn_r _ [1095, 261, 257, 258, 259, 5, 260, 161, 162, 163, 164, 165, 166, 167, 111, 702, 703, 704, 705, 114, 706, 707, 708, 709, 710, 711, 712, 713, 322, 121, 120, 635, 636, 637, 638, 295, 296, 297, 298, 118, 113, 117, 116, 658, 659, 660, 661, 112, 384, 662, 663, 664, 665, 666, 667, 1282, 1283, 1284, 1285, 1286, 1287, 1288, 1289, 1290, 1291, 1292, 1293, 1294, 1295, 1296, 1297, 1298, 1299, 1300, 1301, 1302, 1303, 1304, 1305, 1306, 1307, 1308, 1309, 1310, 1311, 1312, 1313, 1314, 1315, 1316, 1317, 1318, 1319, 1320, 1321, 1322, 1323] (by decide +kernel) (by decide +kernel)
set_option maxRecDepth 20000 in
theorem gL_law_X9_together : GoodIn wsL_law (wsV RL 198 RX9 yX9_together wsX9_together) := goodIn_app (goodIn_of _ (by decide +kernel)) ggL_law_X9_together
set_option maxRecDepth 20000 in
theorem ggL_law_X8_spare : GoodIn wsL_law wsX8_spare := goodIn_r _ [1099, 16, 374, 614, 615, 616, 15, 617, 618, 619, 620, 621, 248, 139, 2, 140, 141, 142, 143, 144, 26, 138, 680, 681, 682, 683, 418, 684, 685, 686, 687, 59, 688, 689, 690, 691, 58, 57, 346, 347, 692, 623, 624, 625, 626, 280, 281, 282, 55, 283, 284, 285, 286, 54, 53, 693, 694, 695, 696, 697, 644, 645, 646, 647, 648, 649, 650, 651, 652, 622, 1270, 1271, 1272, 1273, 1274, 1275, 1276, 1277, 1278, 1279, 1280, 1281, 1324, 1325, 1326, 1327, 1328, 1329, 1330, 1331, 1332, 1333, 1334, 1335, 1336] (by decide +kernel) (by decide +kernel)
set_option maxRecDepth 20000 in
theorem gL_law_X8_spare : GoodIn wsL_law (wsV RL 199 RX8 yX8_spare wsX8_spare) := goodIn_app (goodIn_of _ (by decide +kernel)) ggL_law_X8_spare
set_option maxRecDepth 20000 in
theorem ggL_law_X9_spare : GoodIn wsL_law wsX9_spare := goodIn_r _ [1103, 112, 631, 632, 633, 5, 634, 261, 161, 162, 163, 164, 165, 166, 167, 111, 702, 703, 704, 705, 114, 706, 707, 708, 709, 710, 711, 712, 713, 322, 121, 120, 635, 636, 637, 638, 295, 296, 297, 298, 118, 113, 117, 116, 658, 659, 660, 661, 384, 662, 663, 664, 665, 666, 667, 1282, 1283, 1284, 1285, 1286, 1287, 1288, 1289, 1290, 1291, 1292, 1293, 1294, 1295, 1296, 1297, 1298, 1299, 1300, 1301, 1302, 1303, 1304, 1305, 1306, 1307, 1308, 1309, 1310, 1311, 1312, 1313, 1314, 1315, 1316, 1317, 1318, 1319, 1320, 1321, 1322, 1323] (by decide +kernel) (by decide +kernel)
set_option maxRecDepth 20000 in
theorem gL_law_X9_spare : GoodIn wsL_law (wsV RL 202 RX9 yX9_spare wsX9_spare) := goodIn_app (goodIn_of _ (by decide +kernel)) ggL_law_X9_spare
set_option maxRecDepth 20000 in
theorem ggL_law_X8_purses : GoodIn wsL_law wsX8_purses := goodIn_r _ [1107, 16, 739, 267, 614, 615, 616, 15, 617, 618, 619, 620, 621, 248, 139, 2, 140, 141, 142, 143, 144, 26, 138, 994, 346, 347, 1270, 1271, 1272, 1273, 1274, 1275, 1276, 1277, 1278, 1279, 1280, 1281, 1324, 1325, 1326, 1327, 1328, 1329, 1330, 1331, 1332, 1333, 1334, 1335, 1336] (by decide +kernel) (by decide +kernel)
set_option maxRecDepth 20000 in
theorem gL_law_X8_purses : GoodIn wsL_law (wsV RL 203 RX8 yX8_purses wsX8_purses) := goodIn_app (goodIn_of _ (by decide +kernel)) ggL_law_X8_purses
set_option maxRecDepth 20000 in
theorem ggL_law_X9_purses : GoodIn wsL_law wsX9_purses := goodIn_r _ [1111, 261, 119, 631, 632, 633, 5, 634, 161, 162, 163, 164, 165, 166, 167, 111, 1282, 1283, 1284, 1285, 1286, 1287, 1288, 1289, 1290, 1291, 1292, 1293, 1294, 1295, 1296, 1297, 1298, 1299, 1300, 1301, 1302, 1303, 1304, 1305, 1306, 1307, 1308, 1309, 1310, 1311, 1312, 1313, 1314, 1315, 1316, 1317, 1318, 1319, 1320, 1321, 1322, 1323] (by decide +kernel) (by decide +kernel)
set_option maxRecDepth 20000 in
theorem gL_law_X9_purses : GoodIn wsL_law (wsV RL 206 RX9 yX9_purses wsX9_purses) := goodIn_app (goodIn_of _ (by decide +kernel)) ggL_law_X9_purses
set_option maxRecDepth 20000 in
theorem ggL_law_X8_before : GoodIn wsL_law wsX8_before := goodIn_r _ [1115, 16, 138, 139, 2, 140, 141, 142, 143, 144, 26, 643, 644, 645, 15, 646, 59, 647, 648, 649, 650, 651, 652, 1270, 1271, 1272, 1273, 1274, 1275, 1276, 1277, 1278, 1279, 1280, 1281, 1324, 1325, 1326, 1327, 1328, 1329, 1330, 1331, 1332, 1333, 1334, 1335, 1336] (by decide +kernel) (by decide +kernel)
set_option maxRecDepth 20000 in
theorem gL_law_X8_before : GoodIn wsL_law (wsV RL 207 RX8 yX8_before wsX8_before) := goodIn_app (goodIn_of _ (by decide +kernel)) ggL_law_X8_before
set_option maxRecDepth 20000 in
theorem ggL_law_X9_before : GoodIn wsL_law wsX9_before := goodIn_r _ [1119, 317, 161, 162, 5, 163, 164, 165, 166, 167, 111, 658, 659, 660, 661, 112, 384, 662, 663, 664, 665, 666, 667, 1282, 1283, 1284, 1285, 1286, 1287, 1288, 1289, 1290, 1291, 1292, 1293, 1294, 1295, 1296, 1297, 1298, 1299, 1300, 1301, 1302, 1303, 1304, 1305, 1306, 1307, 1308, 1309, 1310, 1311, 1312, 1313, 1314, 1315, 1316, 1317, 1318, 1319, 1320, 1321, 1322, 1323] (by decide +kernel) (by decide +kernel)
set_option maxRecDepth 20000 in
theorem gL_law_X9_before : GoodIn wsL_law (wsV RL 210 RX9 yX9_before wsX9_before) := goodIn_app (goodIn_of _ (by decide +kernel)) ggL_law_X9_before
set_option maxRecDepth 20000 in
theorem ggL_law_X8_ofKind : GoodIn wsL_law wsX8_ofKind := goodIn_r _ [1123, 16, 739, 266, 268, 269, 2, 270, 138, 139, 140, 141, 142, 143, 144, 26, 1270, 1271, 1272, 1273, 1274, 1275, 1276, 1277, 1278, 1279, 1280, 1281, 1324, 1325, 1326, 1327, 1328, 1329, 1330, 1331, 1332, 1333, 1334, 1335, 1336] (by decide +kernel) (by decide +kernel)
set_option maxRecDepth 20000 in
theorem gL_law_X8_ofKind : GoodIn wsL_law (wsV RL 211 RX8 yX8_ofKind wsX8_ofKind) := goodIn_app (goodIn_of _ (by decide +kernel)) ggL_law_X8_ofKind
set_option maxRecDepth 20000 in
theorem ggL_law_X9_ofKind : GoodIn wsL_law wsX9_ofKind := goodIn_r _ [1127, 291, 261, 116, 161, 162, 5, 163, 164, 165, 166, 167, 111, 1282, 1283, 1284, 1285, 1286, 1287, 1288, 1289, 1290, 1291, 1292, 1293, 1294, 1295, 1296, 1297, 1298, 1299, 1300, 1301, 1302, 1303, 1304, 1305, 1306, 1307, 1308, 1309, 1310, 1311, 1312, 1313, 1314, 1315, 1316, 1317, 1318, 1319, 1320, 1321, 1322, 1323] (by decide +kernel) (by decide +kernel)
set_option maxRecDepth 20000 in
theorem gL_law_X9_ofKind : GoodIn wsL_law (wsV RL 214 RX9 yX9_ofKind wsX9_ofKind) := goodIn_app (goodIn_of _ (by decide +kernel)) ggL_law_X9_ofKind
set_option maxRecDepth 20000 in
theorem ggL_law_X8_judge : GoodIn wsL_law wsX8_judge := goodIn_r _ [1131, 46, 16, 24, 1132, 918, 919, 920, 2, 921, 138, 139, 140, 172, 173, 174, 175, 135, 136, 137, 176, 177, 178, 48, 179, 98, 180, 181, 182, 183, 184, 185, 186, 187, 149, 188, 141, 142, 143, 144, 26, 1133, 1134, 1135, 45, 1136, 1137, 1138, 1139, 1140, 1141, 225, 226, 227, 97, 193, 1142, 619, 620, 15, 621, 248, 1143, 685, 686, 687, 59, 688, 689, 690, 691, 58, 57, 346, 347, 692, 623, 624, 625, 626, 280, 281, 282, 55, 283, 284, 285, 286, 54, 53, 693, 694, 695, 696, 697, 644, 645, 646, 647, 648, 649, 650, 651, 652, 1270, 1271, 1272, 1273, 1274, 1275, 1276, 1277, 1278, 1279, 1280, 1281, 1354, 1355, 1356, 1357, 1358, 1359, 1324, 1325, 1326, 1327, 1328, 1329, 1330, 1331, 1332, 1333, 1334, 1335, 1336] (by decide +kernel) (by decide +kernel)
set_option maxRecDepth 20000 in
theorem gL_law_X8_judge : GoodIn wsL_law (wsV RL 215 RX8 yX8_judge wsX8_judge) := goodIn_app (goodIn_of _ (by decide +kernel)) ggL_law_X8_judge
set_option maxRecDepth 20000 in
theorem ggL_law_X9_judge : GoodIn wsL_law wsX9_judge := goodIn_r _ [1147, 322, 1148, 952, 953, 954, 5, 955, 158, 105, 161, 162, 163, 164, 165, 166, 167, 111, 202, 203, 204, 205, 103, 1149, 1150, 1151, 1152, 1153, 107, 631, 632, 633, 634, 261, 702, 703, 704, 705, 114, 706, 707, 708, 709, 710, 711, 712, 713, 121, 120, 635, 636, 637, 638, 295, 296, 297, 298, 118, 113, 117, 116, 658, 659, 660, 661, 112, 384, 662, 663, 664, 665, 666, 667, 1282, 1283, 1284, 1285, 1286, 1287, 1288, 1289, 1290, 1291, 1292, 1293, 1294, 1295, 1296, 1297, 1298, 1299, 1300, 1301, 1302, 1303, 1304, 1305, 1306, 1307, 1308, 1309, 1310, 1311, 1312, 1313, 1314, 1315, 1316, 1317, 1318, 1319, 1320, 1321, 1322, 1323] (by decide +kernel) (by decide +kernel)
set_option maxRecDepth 20000 in
theorem gL_law_X9_judge : GoodIn wsL_law (wsV RL 218 RX9 yX9_judge wsX9_judge) := goodIn_app (goodIn_of _ (by decide +kernel)) ggL_law_X9_judge
set_option maxRecDepth 20000 in
theorem ggL_law_X8_behind : GoodIn wsL_law wsX8_behind := goodIn_r _ [1157, 46, 16, 24, 1132, 1158, 1159, 918, 919, 920, 2, 921, 138, 139, 140, 172, 173, 174, 175, 135, 136, 137, 176, 177, 178, 48, 179, 98, 180, 181, 182, 183, 184, 185, 186, 187, 149, 188, 141, 142, 143, 144, 26, 1133, 1134, 1135, 45, 1136, 1137, 1138, 1139, 1140, 1141, 225, 226, 227, 97, 193, 1142, 619, 620, 15, 621, 248, 1143, 685, 686, 687, 59, 688, 689, 690, 691, 58, 57, 346, 347, 692, 623, 624, 625, 626, 280, 281, 282, 55, 283, 284, 285, 286, 54, 53, 693, 694, 695, 696, 697, 644, 645, 646, 647, 648, 649, 650, 651, 652, 1270, 1271, 1272, 1273, 1274, 1275, 1276, 1277, 1278, 1279, 1280, 1281, 1354, 1355, 1356, 1357, 1358, 1359, 1324, 1325, 1326, 1327, 1328, 1329, 1330, 1331, 1332, 1333, 1334, 1335, 1336] (by decide +kernel) (by decide +kernel)
set_option maxRecDepth 20000 in
theorem gL_law_X8_behind : GoodIn wsL_law (wsV RL 219 RX8 yX8_behind wsX8_behind) := goodIn_app (goodIn_of _ (by decide +kernel)) ggL_law_X8_behind
set_option maxRecDepth 20000 in
theorem ggL_law_X9_behind : GoodIn wsL_law wsX9_behind := goodIn_r _ [1163, 322, 1148, 1153, 161, 162, 5, 163, 952, 953, 954, 955, 158, 105, 164, 165, 166, 167, 111, 202, 203, 204, 205, 103, 1149, 1150, 1151, 1152, 107, 631, 632, 633, 634, 261, 702, 703, 704, 705, 114, 706, 707, 708, 709, 710, 711, 712, 713, 121, 120, 635, 636, 637, 638, 295, 296, 297, 298, 118, 113, 117, 116, 658, 659, 660, 661, 112, 384, 662, 663, 664, 665, 666, 667, 1282, 1283, 1284, 1285, 1286, 1287, 1288, 1289, 1290, 1291, 1292, 1293, 1294, 1295, 1296, 1297, 1298, 1299, 1300, 1301, 1302, 1303, 1304, 1305, 1306, 1307, 1308, 1309, 1310, 1311, 1312, 1313, 1314, 1315, 1316, 1317, 1318, 1319, 1320, 1321, 1322, 1323] (by decide +kernel) (by decide +kernel)
set_option maxRecDepth 20000 in
theorem gL_law_X9_behind : GoodIn wsL_law (wsV RL 222 RX9 yX9_behind wsX9_behind) := goodIn_app (goodIn_of _ (by decide +kernel)) ggL_law_X9_behind
set_option maxRecDepth 20000 in
theorem ggL_law_X8_cross : GoodIn wsL_law wsX8_cross := goodIn_r _ [1167, 16, 614, 615, 616, 15, 617, 618, 619, 620, 621, 248, 139, 2, 140, 141, 142, 143, 144, 26, 138, 680, 681, 682, 683, 418, 684, 685, 686, 687, 59, 688, 689, 690, 691, 58, 57, 346, 347, 692, 623, 624, 625, 626, 280, 281, 282, 55, 283, 284, 285, 286, 54, 53, 693, 694, 695, 696, 697, 644, 645, 646, 647, 648, 649, 650, 651, 652, 1168, 1169, 1170, 1171, 421, 420, 419, 1270, 1271, 1272, 1273, 1274, 1275, 1276, 1277, 1278, 1279, 1280, 1281, 1324, 1325, 1326, 1327, 1328, 1329, 1330, 1331, 1332, 1333, 1334, 1335, 1336] (by decide +kernel) (by decide +kernel)
set_option maxRecDepth 20000 in
theorem gL_law_X8_cross : GoodIn wsL_law (wsV RL 223 RX8 yX8_cross wsX8_cross) := goodIn_app (goodIn_of _ (by decide +kernel)) ggL_law_X8_cross
set_option maxRecDepth 20000 in
theorem ggL_law_X9_cross : GoodIn wsL_law wsX9_cross := goodIn_r _ [1175, 631, 632, 633, 5, 634, 261, 161, 162, 163, 164, 165, 166, 167, 111, 702, 703, 704, 705, 114, 706, 707, 708, 709, 710, 711, 712, 713, 322, 121, 120, 635, 636, 637, 638, 295, 296, 297, 298, 118, 113, 117, 116, 658, 659, 660, 661, 112, 384, 662, 663, 664, 665, 666, 667, 1176, 1177, 1178, 1179, 535, 534, 115, 533, 1282, 1283, 1284, 1285, 1286, 1287, 1288, 1289, 1290, 1291, 1292, 1293, 1294, 1295, 1296, 1297, 1298, 1299, 1300, 1301, 1302, 1303, 1304, 1305, 1306, 1307, 1308, 1309, 1310, 1311, 1312, 1313, 1314, 1315, 1316, 1317, 1318, 1319, 1320, 1321, 1322, 1323] (by decide +kernel) (by decide +kernel)
set_option maxRecDepth 20000 in
theorem gL_law_X9_cross : GoodIn wsL_law (wsV RL 226 RX9 yX9_cross wsX9_cross) := goodIn_app (goodIn_of _ (by decide +kernel)) ggL_law_X9_cross
set_option maxRecDepth 20000 in
theorem ggL_law_X8_comesBack : GoodIn wsL_law wsX8_comesBack := goodIn_r _ [1183, 16, 1184, 244, 245, 246, 15, 247, 248, 139, 2, 140, 141, 142, 143, 144, 26, 138, 598, 599, 600, 601, 418, 346, 347, 1185, 1186, 1187, 1188, 419, 1270, 1271, 1272, 1273, 1274, 1275, 1276, 1277, 1278, 1279, 1280, 1281, 1324, 1325, 1326, 1327, 1328, 1329, 1330, 1331, 1332, 1333, 1334, 1335, 1336] (by decide +kernel) (by decide +kernel)
set_option maxRecDepth 20000 in
theorem gL_law_X8_comesBack : GoodIn wsL_law (wsV RL 227 RX8 yX8_comesBack wsX8_comesBack) := goodIn_app (goodIn_of _ (by decide +kernel)) ggL_law_X8_comesBack
set_option maxRecDepth 20000 in
theorem ggL_law_X9_comesBack : GoodIn wsL_law wsX9_comesBack := goodIn_r _ [1192, 533, 257, 258, 259, 5, 260, 261, 161, 162, 163, 164, 165, 166, 167, 111, 606, 607, 608, 609, 322, 1193, 1194, 1195, 1196, 1282, 1283, 1284, 1285, 1286, 1287, 1288, 1289, 1290, 1291, 1292, 1293, 1294, 1295, 1296, 1297, 1298, 1299, 1300, 1301, 1302, 1303, 1304, 1305, 1306, 1307, 1308, 1309, 1310, 1311, 1312, 1313, 1314, 1315, 1316, 1317, 1318, 1319, 1320, 1321, 1322, 1323] (by decide +kernel) (by decide +kernel)
set_option maxRecDepth 20000 in
theorem gL_law_X9_comesBack : GoodIn wsL_law (wsV RL 230 RX9 yX9_comesBack wsX9_comesBack) := goodIn_app (goodIn_of _ (by decide +kernel)) ggL_law_X9_comesBack
set_option maxRecDepth 20000 in
theorem ggL_law_X8_days : GoodIn wsL_law wsX8_days := goodIn_r _ [1200, 16, 739, 138, 139, 2, 140, 141, 142, 143, 144, 26, 1201, 1202, 1203, 15, 1204, 248, 419, 1205, 599, 600, 601, 418, 346, 347, 1206, 1207, 1208, 1209, 60, 1210, 1211, 681, 682, 683, 684, 685, 686, 687, 59, 688, 689, 690, 691, 58, 57, 692, 623, 624, 625, 626, 280, 281, 282, 55, 283, 284, 285, 286, 54, 53, 693, 694, 695, 696, 697, 644, 645, 646, 647, 648, 649, 650, 651, 652, 1212, 1169, 1170, 1171, 421, 420, 1213, 1186, 1187, 1188, 1270, 1271, 1272, 1273, 1274, 1275, 1276, 1277, 1278, 1279, 1280, 1281, 1324, 1325, 1326, 1327, 1328, 1329, 1330, 1331, 1332, 1333, 1334, 1335, 1336] (by decide +kernel) (by decide +kernel)
set_option maxRecDepth 20000 in
theorem gL_law_X8_days : GoodIn wsL_law (wsV RL 231 RX8 yX8_days wsX8_days) := goodIn_app (goodIn_of _ (by decide +kernel)) ggL_law_X8_days
set_option maxRecDepth 20000 in
theorem ggL_law_X9_days : GoodIn wsL_law wsX9_days := goodIn_r _ [1217, 890, 261, 161, 162, 5, 163, 164, 165, 166, 167, 111, 1218, 1219, 1220, 1221, 533, 606, 607, 608, 609, 322, 1222, 1223, 1224, 1225, 122, 1226, 702, 703, 704, 705, 114, 706, 707, 708, 709, 710, 711, 712, 713, 121, 120, 635, 636, 637, 638, 295, 296, 297, 298, 118, 113, 117, 116, 658, 659, 660, 661, 112, 384, 662, 663, 664, 665, 666, 667, 1176, 1177, 1178, 1179, 535, 534, 115, 1193, 1194, 1195, 1196, 1282, 1283, 1284, 1285, 1286, 1287, 1288, 1289, 1290, 1291, 1292, 1293, 1294, 1295, 1296, 1297, 1298, 1299, 1300, 1301, 1302, 1303, 1304, 1305, 1306, 1307, 1308, 1309, 1310, 1311, 1312, 1313, 1314, 1315, 1316, 1317, 1318, 1319, 1320, 1321, 1322, 1323] (by decide +kernel) (by decide +kernel)
set_option maxRecDepth 20000 in
theorem gL_law_X9_days : GoodIn wsL_law (wsV RL 234 RX9 yX9_days wsX9_days) := goodIn_app (goodIn_of _ (by decide +kernel)) ggL_law_X9_days
set_option maxRecDepth 20000 in
theorem ggL_law_X8_seed : GoodIn wsL_law wsX8_seed := goodIn_r _ [1230, 16, 1231, 1270, 1271, 1272, 1273, 1274, 1275, 1276, 1277, 1278, 1279, 1280, 1281, 1324, 1325, 1326, 1327, 1328, 1329, 1330, 1331, 1332, 1333, 1334, 1335, 1336] (by decide +kernel) (by decide +kernel)
set_option maxRecDepth 20000 in
theorem gL_law_X8_seed : GoodIn wsL_law (wsV RL 235 RX8 yX8_seed wsX8_seed) := goodIn_app (goodIn_of _ (by decide +kernel)) ggL_law_X8_seed
set_option maxRecDepth 20000 in
theorem ggL_law_X9_seed : GoodIn wsL_law wsX9_seed := goodIn_r _ [1235, 122, 1282, 1283, 1284, 1285, 1286, 1287, 1288, 1289, 1290, 1291, 1292, 1293, 1294, 1295, 1296, 1297, 1298, 1299, 1300, 1301, 1302, 1303, 1304, 1305, 1306, 1307, 1308, 1309, 1310, 1311, 1312, 1313, 1314, 1315, 1316, 1317, 1318, 1319, 1320, 1321, 1322, 1323] (by decide +kernel) (by decide +kernel)
set_option maxRecDepth 20000 in
theorem gL_law_X9_seed : GoodIn wsL_law (wsV RL 238 RX9 yX9_seed wsX9_seed) := goodIn_app (goodIn_of _ (by decide +kernel)) ggL_law_X9_seed
set_option maxRecDepth 20000 in
theorem ggL_law_X8_image : GoodIn wsL_law wsX8_image := goodIn_r _ [1239, 17, 16, 1240, 414, 415, 416, 15, 417, 53, 61, 62, 63, 64, 54, 55, 56, 57, 58, 59, 248, 418, 419, 420, 421, 60, 1270, 1271, 1272, 1273, 1274, 1275, 1276, 1277, 1278, 1279, 1280, 1281, 1324, 1325, 1326, 1327, 1328, 1329, 1330, 1331, 1332, 1333, 1334, 1335, 1336] (by decide +kernel) (by decide +kernel)
set_option maxRecDepth 20000 in
theorem gL_law_X8_image : GoodIn wsL_law (wsV RL 239 RX8 yX8_image wsX8_image) := goodIn_app (goodIn_of _ (by decide +kernel)) ggL_law_X8_image
set_option maxRecDepth 20000 in
theorem ggL_law_X9_image : GoodIn wsL_law wsX9_image := goodIn_r _ [1244, 1245, 525, 4, 5, 528, 100, 101, 102, 11, 12, 25, 103, 104, 105, 106, 96, 107, 108, 109, 110, 111, 112, 113, 114, 115, 116, 117, 118, 119, 120, 121, 122, 123, 124, 125, 126, 127, 82, 128, 129, 130, 529, 530, 531, 532, 384, 533, 534, 535, 261, 322, 536, 537, 538, 1282, 1283, 1284, 1285, 1286, 1287, 1288, 1289, 1290, 1291, 1292, 1293, 1294, 1295, 1296, 1297, 1298, 1299, 1300, 1301, 1302, 1303, 1304, 1305, 1306, 1307, 1308, 1309, 1310, 1311, 1312, 1313, 1314, 1315, 1316, 1317, 1318, 1319, 1320, 1321, 1322, 1323] (by decide +kernel) (by decide +kernel)
set_option maxRecDepth 20000 in
theorem gL_law_X9_image : GoodIn wsL_law (wsV RL 242 RX9 yX9_image wsX9_image) := goodIn_app (goodIn_of _ (by decide +kernel)) ggL_law_X9_image
set_option maxRecDepth 20000 in
theorem ggL_law_X8_back : GoodIn wsL_law wsX8_back := goodIn_r _ [1249, 1240, 16, 17, 24, 141, 142, 143, 2, 144, 26, 138, 139, 140, 414, 415, 416, 15, 417, 53, 61, 62, 63, 64, 54, 55, 56, 57, 58, 59, 248, 418, 419, 420, 421, 60, 176, 177, 178, 48, 179, 98, 271, 272, 273, 274, 244, 245, 246, 247, 249, 250, 251, 252, 1270, 1271, 1272, 1273, 1274, 1275, 1276, 1277, 1278, 1279, 1280, 1281, 1324, 1325, 1326, 1327, 1328, 1329, 1330, 1331, 1332, 1333, 1334, 1335, 1336, 1357, 1358, 1359] (by decide +kernel) (by decide +kernel)
set_option maxRecDepth 20000 in
theorem gL_law_X8_back : GoodIn wsL_law (wsV RL 243 RX8 yX8_back wsX8_back) := goodIn_app (goodIn_of _ (by decide +kernel)) ggL_law_X8_back
set_option maxRecDepth 20000 in
theorem ggL_law_X9_back : GoodIn wsL_law wsX9_back := goodIn_r _ [1253, 1245, 103, 109, 261, 164, 165, 166, 5, 167, 111, 529, 530, 531, 532, 112, 384, 113, 114, 115, 533, 534, 535, 322, 116, 117, 118, 119, 120, 121, 122, 536, 537, 538, 1282, 1283, 1284, 1285, 1286, 1287, 1288, 1289, 1290, 1291, 1292, 1293, 1294, 1295, 1296, 1297, 1298, 1299, 1300, 1301, 1302, 1303, 1304, 1305, 1306, 1307, 1308, 1309, 1310, 1311, 1312, 1313, 1314, 1315, 1316, 1317, 1318, 1319, 1320, 1321, 1322, 1323] (by decide +kernel) (by decide +kernel)
set_option maxRecDepth 20000 in
theorem gL_law_X9_back : GoodIn wsL_law (wsV RL 246 RX9 yX9_back wsX9_back) := goodIn_app (goodIn_of _ (by decide +kernel)) ggL_law_X9_back
set_option maxRecDepth 20000 in
theorem ggL_law_X8_status : GoodIn wsL_law wsX8_status := goodIn_r _ [1257, 16, 374, 26, 739, 1184, 1258, 1259, 821, 22, 389, 1231, 138, 139, 2, 140, 1260, 1261, 1262, 1263, 24, 213, 1270, 1271, 1272, 1273, 1274, 1275, 1276, 1277, 1278, 1279, 1280, 1281, 1324, 1325, 1326, 1327, 1328, 1329, 1330, 1331, 1332, 1333, 1334, 1335, 1336, 1337, 1338, 1339, 1340, 1341, 1342, 1357, 1358, 1359] (by decide +kernel) (by decide +kernel)
set_option maxRecDepth 20000 in
theorem gL_law_X8_status : GoodIn wsL_law (wsV RL 247 RX8 yX8_status wsX8_status) := goodIn_app (goodIn_of _ (by decide +kernel)) ggL_law_X8_status
set_option maxRecDepth 20000 in
theorem ggL_law_X9_status : GoodIn wsL_law wsX9_status := goodIn_r _ [1267, 261, 112, 384, 113, 114, 115, 533, 534, 535, 322, 400, 122, 103, 1268, 1269, 111, 161, 162, 5, 163, 1282, 1283, 1284, 1285, 1286, 1287, 1288, 1289, 1290, 1291, 1292, 1293, 1294, 1295, 1296, 1297, 1298, 1299, 1300, 1301, 1302, 1303, 1304, 1305, 1306, 1307, 1308, 1309, 1310, 1311, 1312, 1313, 1314, 1315, 1316, 1317, 1318, 1319, 1320, 1321, 1322, 1323] (by decide +kernel) (by decide +kernel)
set_option maxRecDepth 20000 in
theorem gL_law_X9_status : GoodIn wsL_law (wsV RL 250 RX9 yX9_status wsX9_status) := goodIn_app (goodIn_of _ (by decide +kernel)) ggL_law_X9_status
