set_option maxRecDepth 20000 in
theorem ggL_law_X8_bids : GoodIn wsL_law wsX8_bids := goodIn_r _ [894, 16, 38, 267, 895, 770, 771, 772, 336, 337, 338, 15, 339, 340, 245, 246, 247, 248, 139, 2, 140, 138, 141, 142, 143, 144, 26, 896, 897, 898, 37, 899, 84, 83, 900, 901, 902, 903, 904, 1270, 1271, 1272, 1273, 1274, 1275, 1276, 1277, 1278, 1279, 1280, 1281, 1324, 1325, 1326, 1327, 1328, 1329, 1330, 1331, 1332, 1333, 1334, 1335, 1336, 1349, 1350] (by decide +kernel) (by decide +kernel)
set_option maxRecDepth 20000 in
theorem gL_law_X8_bids : GoodIn wsL_law (wsV RL 135 RX8 yX8_bids wsX8_bids) := goodIn_app (goodIn_of _ (by decide +kernel)) ggL_law_X8_bids
set_option maxRecDepth 20000 in
theorem ggL_law_X9_bids : GoodIn wsL_law wsX9_bids := goodIn_r _ [908, 128, 119, 257, 258, 259, 5, 260, 261, 161, 162, 163, 164, 165, 166, 167, 111, 909, 910, 911, 912, 1282, 1283, 1284, 1285, 1286, 1287, 1288, 1289, 1290, 1291, 1292, 1293, 1294, 1295, 1296, 1297, 1298, 1299, 1300, 1301, 1302, 1303, 1304, 1305, 1306, 1307, 1308, 1309, 1310, 1311, 1312, 1313, 1314, 1315, 1316, 1317, 1318, 1319, 1320, 1321, 1322, 1323] (by decide +kernel) (by decide +kernel)
set_option maxRecDepth 20000 in
theorem gL_law_X9_bids : GoodIn wsL_law (wsV RL 138 RX9 yX9_bids wsX9_bids) := goodIn_app (goodIn_of _ (by decide +kernel)) ggL_law_X9_bids
set_option maxRecDepth 20000 in
theorem ggL_law_X8_crossed : GoodIn wsL_law wsX8_crossed := goodIn_r _ [916, 42, 16, 24, 917, 918, 919, 920, 2, 921, 138, 139, 140, 172, 173, 174, 175, 135, 136, 137, 176, 177, 178, 48, 179, 98, 180, 181, 182, 183, 184, 185, 186, 187, 149, 188, 141, 142, 143, 144, 26, 922, 923, 924, 41, 925, 926, 89, 927, 728, 729, 15, 730, 418, 618, 619, 620, 621, 248, 928, 884, 152, 885, 929, 225, 226, 227, 97, 193, 930, 931, 932, 933, 934, 88, 935, 936, 937, 644, 645, 646, 59, 647, 648, 649, 650, 651, 652, 938, 623, 624, 625, 346, 347, 626, 280, 281, 282, 55, 283, 284, 285, 286, 54, 53, 939, 689, 690, 691, 58, 57, 940, 941, 942, 943, 944, 945, 946, 947, 1270, 1271, 1272, 1273, 1274, 1275, 1276, 1277, 1278, 1279, 1280, 1281, 1351, 1352, 1353, 1357, 1358, 1359, 1324, 1325, 1326, 1327, 1328, 1329, 1330, 1331, 1332, 1333, 1334, 1335, 1336] (by decide +kernel) (by decide +kernel)
set_option maxRecDepth 20000 in
theorem gL_law_X8_crossed : GoodIn wsL_law (wsV RL 139 RX8 yX8_crossed wsX8_crossed) := goodIn_app (goodIn_of _ (by decide +kernel)) ggL_law_X8_crossed
set_option maxRecDepth 20000 in
theorem ggL_law_X9_crossed : GoodIn wsL_law wsX9_crossed := goodIn_r _ [951, 130, 107, 161, 162, 5, 163, 952, 953, 954, 955, 158, 105, 164, 165, 166, 167, 111, 202, 203, 204, 205, 103, 956, 957, 958, 959, 809, 810, 811, 812, 261, 322, 960, 961, 962, 963, 114, 710, 711, 712, 713, 121, 120, 635, 636, 637, 638, 295, 296, 297, 298, 118, 113, 117, 116, 658, 659, 660, 661, 112, 384, 662, 663, 664, 665, 666, 667, 1282, 1283, 1284, 1285, 1286, 1287, 1288, 1289, 1290, 1291, 1292, 1293, 1294, 1295, 1296, 1297, 1298, 1299, 1300, 1301, 1302, 1303, 1304, 1305, 1306, 1307, 1308, 1309, 1310, 1311, 1312, 1313, 1314, 1315, 1316, 1317, 1318, 1319, 1320, 1321, 1322, 1323] (by decide +kernel) (by decide +kernel)
set_option maxRecDepth 20000 in
theorem gL_law_X9_crossed : GoodIn wsL_law (wsV RL 142 RX9 yX9_crossed wsX9_crossed) := goodIn_app (goodIn_of _ (by decide +kernel)) ggL_law_X9_crossed
set_option maxRecDepth 20000 in
theorem ggL_law_X8_numbers : GoodIn wsL_law wsX8_numbers := goodIn_r _ [967, 16, 643, 644, 645, 15, 646, 59, 139, 2, 140, 647, 648, 649, 650, 651, 652, 1270, 1271, 1272, 1273, 1274, 1275, 1276, 1277, 1278, 1279, 1280, 1281, 1324, 1325, 1326, 1327, 1328, 1329, 1330, 1331, 1332, 1333, 1334, 1335, 1336] (by decide +kernel) (by decide +kernel)
set_option maxRecDepth 20000 in
theorem gL_law_X8_numbers : GoodIn wsL_law (wsV RL 143 RX8 yX8_numbers wsX8_numbers) := goodIn_app (goodIn_of _ (by decide +kernel)) ggL_law_X8_numbers
set_option maxRecDepth 20000 in
theorem ggL_law_X9_numbers : GoodIn wsL_law wsX9_numbers := goodIn_r _ [971, 658, 659, 660, 5, 661, 112, 384, 161, 162, 163, 662, 663, 664, 665, 666, 667, 1282, 1283, 1284, 1285, 1286, 1287, 1288, 1289, 1290, 1291, 1292, 1293, 1294, 1295, 1296, 1297, 1298, 1299, 1300, 1301, 1302, 1303, 1304, 1305, 1306, 1307, 1308, 1309, 1310, 1311, 1312, 1313, 1314, 1315, 1316, 1317, 1318, 1319, 1320, 1321, 1322, 1323] (by decide +kernel) (by decide +kernel)
set_option maxRecDepth 20000 in
theorem gL_law_X9_numbers : GoodIn wsL_law (wsV RL 146 RX9 yX9_numbers wsX9_numbers) := goodIn_app (goodIn_of _ (by decide +kernel)) ggL_law_X9_numbers
set_option maxRecDepth 20000 in
theorem ggL_law_X8_lacks : GoodIn wsL_law wsX8_lacks := goodIn_r _ [975, 16, 821, 614, 615, 616, 15, 617, 618, 619, 620, 621, 248, 139, 2, 140, 141, 142, 143, 144, 26, 138, 976, 689, 690, 691, 58, 57, 346, 347, 622, 623, 624, 625, 626, 280, 281, 282, 55, 283, 284, 285, 286, 54, 59, 53, 977, 694, 695, 696, 697, 644, 645, 646, 647, 648, 649, 650, 651, 652, 1270, 1271, 1272, 1273, 1274, 1275, 1276, 1277, 1278, 1279, 1280, 1281, 1324, 1325, 1326, 1327, 1328, 1329, 1330, 1331, 1332, 1333, 1334, 1335, 1336] (by decide +kernel) (by decide +kernel)
set_option maxRecDepth 20000 in
theorem gL_law_X8_lacks : GoodIn wsL_law (wsV RL 147 RX8 yX8_lacks wsX8_lacks) := goodIn_app (goodIn_of _ (by decide +kernel)) ggL_law_X8_lacks
set_option maxRecDepth 20000 in
theorem ggL_law_X9_lacks : GoodIn wsL_law wsX9_lacks := goodIn_r _ [981, 631, 632, 633, 5, 634, 261, 161, 162, 163, 706, 707, 708, 709, 710, 711, 712, 713, 322, 121, 120, 635, 636, 637, 638, 295, 296, 297, 298, 118, 113, 117, 116, 658, 659, 660, 661, 112, 384, 662, 663, 664, 665, 666, 667, 164, 165, 166, 167, 111, 1282, 1283, 1284, 1285, 1286, 1287, 1288, 1289, 1290, 1291, 1292, 1293, 1294, 1295, 1296, 1297, 1298, 1299, 1300, 1301, 1302, 1303, 1304, 1305, 1306, 1307, 1308, 1309, 1310, 1311, 1312, 1313, 1314, 1315, 1316, 1317, 1318, 1319, 1320, 1321, 1322, 1323] (by decide +kernel) (by decide +kernel)
set_option maxRecDepth 20000 in
theorem gL_law_X9_lacks : GoodIn wsL_law (wsV RL 150 RX9 yX9_lacks wsX9_lacks) := goodIn_app (goodIn_of _ (by decide +kernel)) ggL_law_X9_lacks
set_option maxRecDepth 20000 in
theorem ggL_law_X8_fullest : GoodIn wsL_law wsX8_fullest := goodIn_r _ [985, 16, 138, 139, 2, 140, 141, 142, 143, 144, 26, 718, 619, 620, 15, 621, 248, 680, 681, 682, 683, 418, 684, 685, 686, 687, 59, 688, 689, 690, 691, 58, 57, 346, 347, 692, 623, 624, 625, 626, 280, 281, 282, 55, 283, 284, 285, 286, 54, 53, 693, 694, 695, 696, 697, 644, 645, 646, 647, 648, 649, 650, 651, 652, 622, 1270, 1271, 1272, 1273, 1274, 1275, 1276, 1277, 1278, 1279, 1280, 1281, 1324, 1325, 1326, 1327, 1328, 1329, 1330, 1331, 1332, 1333, 1334, 1335, 1336] (by decide +kernel) (by decide +kernel)
set_option maxRecDepth 20000 in
theorem gL_law_X8_fullest : GoodIn wsL_law (wsV RL 151 RX8 yX8_fullest wsX8_fullest) := goodIn_app (goodIn_of _ (by decide +kernel)) ggL_law_X8_fullest
set_option maxRecDepth 20000 in
theorem ggL_law_X9_fullest : GoodIn wsL_law wsX9_fullest := goodIn_r _ [989, 261, 161, 162, 5, 163, 164, 165, 166, 167, 111, 702, 703, 704, 705, 114, 706, 707, 708, 709, 710, 711, 712, 713, 322, 121, 120, 635, 636, 637, 638, 295, 296, 297, 298, 118, 113, 117, 116, 658, 659, 660, 661, 112, 384, 662, 663, 664, 665, 666, 667, 1282, 1283, 1284, 1285, 1286, 1287, 1288, 1289, 1290, 1291, 1292, 1293, 1294, 1295, 1296, 1297, 1298, 1299, 1300, 1301, 1302, 1303, 1304, 1305, 1306, 1307, 1308, 1309, 1310, 1311, 1312, 1313, 1314, 1315, 1316, 1317, 1318, 1319, 1320, 1321, 1322, 1323] (by decide +kernel) (by decide +kernel)
set_option maxRecDepth 20000 in
theorem gL_law_X9_fullest : GoodIn wsL_law (wsV RL 154 RX9 yX9_fullest wsX9_fullest) := goodIn_app (goodIn_of _ (by decide +kernel)) ggL_law_X9_fullest
set_option maxRecDepth 20000 in
theorem ggL_law_X8_cheapest : GoodIn wsL_law wsX8_cheapest := goodIn_r _ [993, 16, 740, 741, 742, 2, 743, 244, 245, 246, 15, 247, 248, 139, 140, 598, 599, 600, 601, 418, 346, 347, 141, 142, 143, 144, 26, 138, 718, 619, 620, 621, 994, 680, 681, 682, 683, 684, 685, 686, 687, 59, 688, 689, 690, 691, 58, 57, 692, 623, 624, 625, 626, 280, 281, 282, 55, 283, 284, 285, 286, 54, 53, 693, 694, 695, 696, 697, 644, 645, 646, 647, 648, 649, 650, 651, 652, 1270, 1271, 1272, 1273, 1274, 1275, 1276, 1277, 1278, 1279, 1280, 1281, 1324, 1325, 1326, 1327, 1328, 1329, 1330, 1331, 1332, 1333, 1334, 1335, 1336] (by decide +kernel) (by decide +kernel)
set_option maxRecDepth 20000 in
theorem gL_law_X8_cheapest : GoodIn wsL_law (wsV RL 155 RX8 yX8_cheapest wsX8_cheapest) := goodIn_app (goodIn_of _ (by decide +kernel)) ggL_law_X8_cheapest
set_option maxRecDepth 20000 in
theorem ggL_law_X9_cheapest : GoodIn wsL_law wsX9_cheapest := goodIn_r _ [998, 261, 748, 749, 750, 5, 751, 257, 258, 259, 260, 161, 162, 163, 164, 165, 166, 167, 111, 606, 607, 608, 609, 322, 702, 703, 704, 705, 114, 706, 707, 708, 709, 710, 711, 712, 713, 121, 120, 635, 636, 637, 638, 295, 296, 297, 298, 118, 113, 117, 116, 658, 659, 660, 661, 112, 384, 662, 663, 664, 665, 666, 667, 1282, 1283, 1284, 1285, 1286, 1287, 1288, 1289, 1290, 1291, 1292, 1293, 1294, 1295, 1296, 1297, 1298, 1299, 1300, 1301, 1302, 1303, 1304, 1305, 1306, 1307, 1308, 1309, 1310, 1311, 1312, 1313, 1314, 1315, 1316, 1317, 1318, 1319, 1320, 1321, 1322, 1323] (by decide +kernel) (by decide +kernel)
set_option maxRecDepth 20000 in
theorem gL_law_X9_cheapest : GoodIn wsL_law (wsV RL 158 RX9 yX9_cheapest wsX9_cheapest) := goodIn_app (goodIn_of _ (by decide +kernel)) ggL_law_X9_cheapest
set_option maxRecDepth 20000 in
theorem ggL_law_X8_knot : GoodIn wsL_law wsX8_knot := goodIn_r _ [1002, 16, 244, 245, 246, 15, 247, 248, 139, 2, 140, 1003, 1004, 1005, 1006, 57, 346, 347, 141, 142, 143, 144, 26, 138, 1270, 1271, 1272, 1273, 1274, 1275, 1276, 1277, 1278, 1279, 1280, 1281, 1324, 1325, 1326, 1327, 1328, 1329, 1330, 1331, 1332, 1333, 1334, 1335, 1336] (by decide +kernel) (by decide +kernel)
set_option maxRecDepth 20000 in
theorem gL_law_X8_knot : GoodIn wsL_law (wsV RL 159 RX8 yX8_knot wsX8_knot) := goodIn_app (goodIn_of _ (by decide +kernel)) ggL_law_X8_knot
set_option maxRecDepth 20000 in
theorem ggL_law_X9_knot : GoodIn wsL_law wsX9_knot := goodIn_r _ [1010, 257, 258, 259, 5, 260, 261, 161, 162, 163, 1011, 1012, 1013, 1014, 120, 164, 165, 166, 167, 111, 1282, 1283, 1284, 1285, 1286, 1287, 1288, 1289, 1290, 1291, 1292, 1293, 1294, 1295, 1296, 1297, 1298, 1299, 1300, 1301, 1302, 1303, 1304, 1305, 1306, 1307, 1308, 1309, 1310, 1311, 1312, 1313, 1314, 1315, 1316, 1317, 1318, 1319, 1320, 1321, 1322, 1323] (by decide +kernel) (by decide +kernel)
set_option maxRecDepth 20000 in
theorem gL_law_X9_knot : GoodIn wsL_law (wsV RL 162 RX9 yX9_knot wsX9_knot) := goodIn_app (goodIn_of _ (by decide +kernel)) ggL_law_X9_knot
set_option maxRecDepth 20000 in
theorem ggL_law_X8_torn : GoodIn wsL_law wsX8_torn := goodIn_r _ [1018, 16, 739, 597, 1003, 1004, 1005, 15, 1006, 248, 57, 346, 2, 347, 1270, 1271, 1272, 1273, 1274, 1275, 1276, 1277, 1278, 1279, 1280, 1281, 1324, 1325, 1326, 1327, 1328, 1329, 1330, 1331, 1332, 1333, 1334, 1335, 1336] (by decide +kernel) (by decide +kernel)
set_option maxRecDepth 20000 in
theorem gL_law_X8_torn : GoodIn wsL_law (wsV RL 163 RX8 yX8_torn wsX8_torn) := goodIn_app (goodIn_of _ (by decide +kernel)) ggL_law_X8_torn
set_option maxRecDepth 20000 in
theorem ggL_law_X9_torn : GoodIn wsL_law wsX9_torn := goodIn_r _ [1022, 261, 121, 1011, 1012, 1013, 5, 1014, 120, 1282, 1283, 1284, 1285, 1286, 1287, 1288, 1289, 1290, 1291, 1292, 1293, 1294, 1295, 1296, 1297, 1298, 1299, 1300, 1301, 1302, 1303, 1304, 1305, 1306, 1307, 1308, 1309, 1310, 1311, 1312, 1313, 1314, 1315, 1316, 1317, 1318, 1319, 1320, 1321, 1322, 1323] (by decide +kernel) (by decide +kernel)
set_option maxRecDepth 20000 in
theorem gL_law_X9_torn : GoodIn wsL_law (wsV RL 166 RX9 yX9_torn wsX9_torn) := goodIn_app (goodIn_of _ (by decide +kernel)) ggL_law_X9_torn
set_option maxRecDepth 20000 in
theorem ggL_law_X8_fit : GoodIn wsL_law wsX8_fit := goodIn_r _ [1026, 16, 821, 740, 741, 742, 2, 743, 244, 245, 246, 15, 247, 248, 139, 140, 598, 599, 600, 601, 418, 346, 347, 141, 142, 143, 144, 26, 138, 976, 689, 690, 691, 58, 57, 1027, 284, 285, 286, 54, 59, 53, 643, 644, 645, 646, 647, 648, 649, 650, 651, 652, 1270, 1271, 1272, 1273, 1274, 1275, 1276, 1277, 1278, 1279, 1280, 1281, 1324, 1325, 1326, 1327, 1328, 1329, 1330, 1331, 1332, 1333, 1334, 1335, 1336] (by decide +kernel) (by decide +kernel)
set_option maxRecDepth 20000 in
theorem gL_law_X8_fit : GoodIn wsL_law (wsV RL 167 RX8 yX8_fit wsX8_fit) := goodIn_app (goodIn_of _ (by decide +kernel)) ggL_law_X8_fit
set_option maxRecDepth 20000 in
theorem ggL_law_X9_fit_ : GoodIn wsL_law wsX9_fit_ := goodIn_r _ [1031, 118, 748, 749, 750, 5, 751, 257, 258, 259, 260, 261, 161, 162, 163, 164, 165, 166, 167, 111, 606, 607, 608, 609, 322, 706, 707, 708, 709, 710, 711, 712, 713, 121, 120, 635, 636, 637, 638, 295, 296, 297, 298, 113, 117, 116, 658, 659, 660, 661, 112, 384, 662, 663, 664, 665, 666, 667, 1282, 1283, 1284, 1285, 1286, 1287, 1288, 1289, 1290, 1291, 1292, 1293, 1294, 1295, 1296, 1297, 1298, 1299, 1300, 1301, 1302, 1303, 1304, 1305, 1306, 1307, 1308, 1309, 1310, 1311, 1312, 1313, 1314, 1315, 1316, 1317, 1318, 1319, 1320, 1321, 1322, 1323] (by decide +kernel) (by decide +kernel)
set_option maxRecDepth 20000 in
theorem gL_law_X9_fit_ : GoodIn wsL_law (wsV RL 170 RX9 yX9_fit_ wsX9_fit_) := goodIn_app (goodIn_of _ (by decide +kernel)) ggL_law_X9_fit_
set_option maxRecDepth 20000 in
theorem ggL_law_X8_rules : GoodIn wsL_law wsX8_rules := goodIn_r _ [1035, 830, 30, 831, 832, 833, 2, 834, 18, 16, 374, 414, 415, 416, 15, 417, 53, 61, 62, 63, 64, 54, 55, 56, 57, 58, 59, 248, 418, 419, 420, 421, 60, 138, 139, 140, 756, 757, 758, 29, 759, 760, 73, 761, 72, 762, 763, 728, 729, 730, 618, 619, 620, 621, 764, 685, 686, 687, 688, 689, 690, 691, 346, 347, 692, 623, 624, 625, 626, 280, 281, 282, 283, 284, 285, 286, 693, 694, 695, 696, 697, 644, 645, 646, 647, 648, 649, 650, 651, 652, 765, 766, 767, 768, 769, 770, 771, 772, 773, 774, 775, 776, 777, 778, 779, 1036, 1037, 1038, 1039, 1270, 1271, 1272, 1273, 1274, 1275, 1276, 1277, 1278, 1279, 1280, 1281, 1324, 1325, 1326, 1327, 1328, 1329, 1330, 1331, 1332, 1333, 1334, 1335, 1336, 1343, 1344, 1345] (by decide +kernel) (by decide +kernel)
set_option maxRecDepth 20000 in
theorem gL_law_X8_rules : GoodIn wsL_law (wsV RL 171 RX8 yX8_rules wsX8_rules) := goodIn_app (goodIn_of _ (by decide +kernel)) ggL_law_X8_rules
set_option maxRecDepth 20000 in
theorem ggL_law_X9_rules : GoodIn wsL_law wsX9_rules := goodIn_r _ [1043, 113, 805, 806, 807, 5, 808, 126, 125, 809, 810, 811, 812, 261, 322, 702, 703, 704, 705, 114, 706, 707, 708, 709, 710, 711, 712, 713, 121, 120, 635, 636, 637, 638, 295, 296, 297, 298, 118, 117, 116, 658, 659, 660, 661, 112, 384, 161, 162, 163, 662, 663, 664, 665, 666, 667, 844, 845, 846, 1282, 1283, 1284, 1285, 1286, 1287, 1288, 1289, 1290, 1291, 1292, 1293, 1294, 1295, 1296, 1297, 1298, 1299, 1300, 1301, 1302, 1303, 1304, 1305, 1306, 1307, 1308, 1309, 1310, 1311, 1312, 1313, 1314, 1315, 1316, 1317, 1318, 1319, 1320, 1321, 1322, 1323] (by decide +kernel) (by decide +kernel)
set_option maxRecDepth 20000 in
theorem gL_law_X9_rules : GoodIn wsL_law (wsV RL 174 RX9 yX9_rules wsX9_rules) := goodIn_app (goodIn_of _ (by decide +kernel)) ggL_law_X9_rules
set_option maxRecDepth 20000 in
theorem ggL_law_X8_fare : GoodIn wsL_law wsX8_fare := goodIn_r _ [1047, 16, 374, 614, 615, 616, 15, 617, 618, 619, 620, 621, 248, 139, 2, 140, 141, 142, 143, 144, 26, 138, 680, 681, 682, 683, 418, 684, 685, 686, 687, 59, 688, 689, 690, 691, 58, 57, 346, 347, 692, 623, 624, 625, 626, 280, 281, 282, 55, 283, 284, 285, 286, 54, 53, 693, 694, 695, 696, 697, 644, 645, 646, 647, 648, 649, 650, 651, 652, 1270, 1271, 1272, 1273, 1274, 1275, 1276, 1277, 1278, 1279, 1280, 1281, 1324, 1325, 1326, 1327, 1328, 1329, 1330, 1331, 1332, 1333, 1334, 1335, 1336] (by decide +kernel) (by decide +kernel)
set_option maxRecDepth 20000 in
theorem gL_law_X8_fare : GoodIn wsL_law (wsV RL 175 RX8 yX8_fare wsX8_fare) := goodIn_app (goodIn_of _ (by decide +kernel)) ggL_law_X8_fare
set_option maxRecDepth 20000 in
theorem ggL_law_X9_fare : GoodIn wsL_law wsX9_fare := goodIn_r _ [1051, 115, 631, 632, 633, 5, 634, 261, 161, 162, 163, 164, 165, 166, 167, 111, 702, 703, 704, 705, 114, 706, 707, 708, 709, 710, 711, 712, 713, 322, 121, 120, 635, 636, 637, 638, 295, 296, 297, 298, 118, 113, 117, 116, 658, 659, 660, 661, 112, 384, 662, 663, 664, 665, 666, 667, 1282, 1283, 1284, 1285, 1286, 1287, 1288, 1289, 1290, 1291, 1292, 1293, 1294, 1295, 1296, 1297, 1298, 1299, 1300, 1301, 1302, 1303, 1304, 1305, 1306, 1307, 1308, 1309, 1310, 1311, 1312, 1313, 1314, 1315, 1316, 1317, 1318, 1319, 1320, 1321, 1322, 1323] (by decide +kernel) (by decide +kernel)
set_option maxRecDepth 20000 in
theorem gL_law_X9_fare : GoodIn wsL_law (wsV RL 178 RX9 yX9_fare wsX9_fare) := goodIn_app (goodIn_of _ (by decide +kernel)) ggL_law_X9_fare
set_option maxRecDepth 20000 in
theorem ggL_law_X8_waiting : GoodIn wsL_law wsX8_waiting := goodIn_r _ [1055, 16, 727, 728, 729, 15, 730, 418, 618, 619, 620, 621, 248, 622, 623, 624, 625, 346, 2, 347, 626, 280, 281, 282, 55, 283, 284, 285, 286, 54, 59, 53, 1270, 1271, 1272, 1273, 1274, 1275, 1276, 1277, 1278, 1279, 1280, 1281, 1324, 1325, 1326, 1327, 1328, 1329, 1330, 1331, 1332, 1333, 1334, 1335, 1336] (by decide +kernel) (by decide +kernel)
set_option maxRecDepth 20000 in
theorem gL_law_X8_waiting : GoodIn wsL_law (wsV RL 179 RX8 yX8_waiting wsX8_waiting) := goodIn_app (goodIn_of _ (by decide +kernel)) ggL_law_X8_waiting
set_option maxRecDepth 20000 in
theorem ggL_law_X9_waiting : GoodIn wsL_law wsX9_waiting := goodIn_r _ [1059, 261, 322, 635, 636, 637, 5, 638, 295, 296, 297, 298, 118, 113, 117, 116, 1282, 1283, 1284, 1285, 1286, 1287, 1288, 1289, 1290, 1291, 1292, 1293, 1294, 1295, 1296, 1297, 1298, 1299, 1300, 1301, 1302, 1303, 1304, 1305, 1306, 1307, 1308, 1309, 1310, 1311, 1312, 1313, 1314, 1315, 1316, 1317, 1318, 1319, 1320, 1321, 1322, 1323] (by decide +kernel) (by decide +kernel)
set_option maxRecDepth 20000 in
theorem gL_law_X9_waiting : GoodIn wsL_law (wsV RL 182 RX9 yX9_waiting wsX9_waiting) := goodIn_app (goodIn_of _ (by decide +kernel)) ggL_law_X9_waiting
set_option maxRecDepth 20000 in
theorem ggL_law_X8_time : GoodIn wsL_law wsX8_time := goodIn_r _ [1063, 30, 16, 756, 757, 758, 29, 759, 760, 73, 761, 72, 762, 763, 728, 729, 15, 730, 418, 618, 619, 620, 621, 248, 764, 685, 686, 687, 59, 688, 689, 690, 691, 58, 57, 346, 2, 347, 692, 623, 624, 625, 626, 280, 281, 282, 55, 283, 284, 285, 286, 54, 53, 693, 694, 695, 696, 697, 644, 645, 646, 139, 140, 647, 648, 649, 650, 651, 652, 765, 766, 767, 768, 769, 770, 771, 772, 773, 774, 775, 776, 777, 778, 779, 780, 781, 782, 783, 784, 785, 786, 787, 788, 1270, 1271, 1272, 1273, 1274, 1275, 1276, 1277, 1278, 1279, 1280, 1281, 1343, 1344, 1345, 1324, 1325, 1326, 1327, 1328, 1329, 1330, 1331, 1332, 1333, 1334, 1335, 1336] (by decide +kernel) (by decide +kernel)
set_option maxRecDepth 20000 in
theorem gL_law_X8_time : GoodIn wsL_law (wsV RL 183 RX8 yX8_time wsX8_time) := goodIn_app (goodIn_of _ (by decide +kernel)) ggL_law_X8_time
set_option maxRecDepth 20000 in
theorem ggL_law_X9_time : GoodIn wsL_law wsX9_time := goodIn_r _ [1067, 805, 806, 807, 5, 808, 126, 125, 809, 810, 811, 812, 261, 322, 702, 703, 704, 705, 114, 706, 707, 708, 709, 710, 711, 712, 713, 121, 120, 635, 636, 637, 638, 295, 296, 297, 298, 118, 113, 117, 116, 658, 659, 660, 661, 112, 384, 161, 162, 163, 662, 663, 664, 665, 666, 667, 1282, 1283, 1284, 1285, 1286, 1287, 1288, 1289, 1290, 1291, 1292, 1293, 1294, 1295, 1296, 1297, 1298, 1299, 1300, 1301, 1302, 1303, 1304, 1305, 1306, 1307, 1308, 1309, 1310, 1311, 1312, 1313, 1314, 1315, 1316, 1317, 1318, 1319, 1320, 1321, 1322, 1323] (by decide +kernel) (by decide +kernel)
set_option maxRecDepth 20000 in
theorem gL_law_X9_time : GoodIn wsL_law (wsV RL 186 RX9 yX9_time wsX9_time) := goodIn_app (goodIn_of _ (by decide +kernel)) ggL_law_X9_time
set_option maxRecDepth 20000 in
theorem ggL_law_X8_loosen : GoodIn wsL_law wsX8_loosen := goodIn_r _ [1071, 830, 16, 739, 341, 342, 343, 15, 344, 57, 58, 345, 337, 338, 339, 340, 245, 246, 247, 248, 139, 2, 140, 346, 347, 1072, 1073, 1074, 1075, 18, 30, 414, 415, 416, 417, 53, 61, 62, 63, 64, 54, 55, 56, 59, 418, 419, 420, 421, 60, 348, 349, 350, 351, 352, 353, 354, 756, 757, 758, 29, 759, 760, 73, 761, 72, 762, 763, 728, 729, 730, 618, 619, 620, 621, 764, 685, 686, 687, 688, 689, 690, 691, 692, 623, 624, 625, 626, 280, 281, 282, 283, 284, 285, 286, 693, 694, 695, 696, 697, 644, 645, 646, 647, 648, 649, 650, 651, 652, 765, 766, 767, 768, 769, 770, 771, 772, 773, 774, 775, 776, 777, 778, 779, 1036, 1037, 1038, 1039, 1270, 1271, 1272, 1273, 1274, 1275, 1276, 1277, 1278, 1279, 1280, 1281, 1324, 1325, 1326, 1327, 1328, 1329, 1330, 1331, 1332, 1333, 1334, 1335, 1336, 1343, 1344, 1345] (by decide +kernel) (by decide +kernel)
set_option maxRecDepth 20000 in
theorem gL_law_X8_loosen : GoodIn wsL_law (wsV RL 187 RX8 yX8_loosen wsX8_loosen) := goodIn_app (goodIn_of _ (by decide +kernel)) ggL_law_X8_loosen
set_option maxRecDepth 20000 in
theorem ggL_law_X9_loosen : GoodIn wsL_law wsX9_loosen := goodIn_r _ [1079, 261, 360, 361, 362, 5, 363, 120, 121, 364, 365, 366, 367, 805, 806, 807, 808, 126, 125, 809, 810, 811, 812, 322, 702, 703, 704, 705, 114, 706, 707, 708, 709, 710, 711, 712, 713, 635, 636, 637, 638, 295, 296, 297, 298, 118, 113, 117, 116, 658, 659, 660, 661, 112, 384, 161, 162, 163, 662, 663, 664, 665, 666, 667, 844, 845, 846, 1282, 1283, 1284, 1285, 1286, 1287, 1288, 1289, 1290, 1291, 1292, 1293, 1294, 1295, 1296, 1297, 1298, 1299, 1300, 1301, 1302, 1303, 1304, 1305, 1306, 1307, 1308, 1309, 1310, 1311, 1312, 1313, 1314, 1315, 1316, 1317, 1318, 1319, 1320, 1321, 1322, 1323] (by decide +kernel) (by decide +kernel)
set_option maxRecDepth 20000 in
theorem gL_law_X9_loosen : GoodIn wsL_law (wsV RL 190 RX9 yX9_loosen wsX9_loosen) := goodIn_app (goodIn_of _ (by decide +kernel)) ggL_law_X9_loosen
set_option maxRecDepth 20000 in
theorem ggL_law_X8_alone : GoodIn wsL_law wsX8_alone := goodIn_r _ [1083, 16, 739, 680, 681, 682, 15, 683, 418, 684, 685, 686, 687, 59, 688, 689, 690, 691, 248, 58, 57, 346, 2, 347, 692, 623, 624, 625, 626, 280, 281, 282, 55, 283, 284, 285, 286, 54, 53, 693, 694, 695, 696, 697, 644, 645, 646, 139, 140, 647, 648, 649, 650, 651, 652, 1270, 1271, 1272, 1273, 1274, 1275, 1276, 1277, 1278, 1279, 1280, 1281, 1324, 1325, 1326, 1327, 1328, 1329, 1330, 1331, 1332, 1333, 1334, 1335, 1336] (by decide +kernel) (by decide +kernel)
set_option maxRecDepth 20000 in
theorem gL_law_X8_alone : GoodIn wsL_law (wsV RL 191 RX8 yX8_alone wsX8_alone) := goodIn_app (goodIn_of _ (by decide +kernel)) ggL_law_X8_alone
