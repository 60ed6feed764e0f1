set_option maxRecDepth 20000 in
theorem ggL_law_X8_init : GoodIn wsL_law wsX8_init := goodIn_r _ [9, 10, 11, 12, 13, 14, 15, 16, 17, 18, 19, 20, 21, 22, 23, 24, 25, 26, 27, 28, 29, 30, 31, 32, 33, 34, 35, 36, 37, 38, 39, 40, 41, 42, 43, 44, 45, 46, 47, 48, 49, 50, 51, 52, 53, 54, 55, 56, 57, 58, 59, 60, 61, 62, 63, 64, 65, 66, 67, 68, 69, 70, 71, 72, 73, 74, 75, 76, 77, 78, 79, 80, 81, 82, 83, 84, 85, 86, 87, 88, 89, 90, 91, 92, 93, 94, 95, 96, 97, 98, 99, 100, 101, 102, 103, 104, 105, 106, 107, 108, 109, 110, 111, 112, 113, 114, 115, 1378, 1379, 1380, 1381, 1382, 1383, 1384, 1385, 1329, 1330, 1331, 1332, 1333, 1334, 1335, 1336, 1337, 1338, 1339, 1340, 1386, 1387, 1388, 1389, 1390, 1391, 1392, 1393, 1394, 1395, 1396, 1397, 1398, 1399, 1400, 1401, 1402, 1403, 1404, 1405, 1406, 1407, 1408] (by decide +kernel) (by decide +kernel)
set_option maxRecDepth 20000 in
theorem gL_law_X8_init : GoodIn wsL_law (wsX8_init) := ggL_law_X8_init
set_option maxRecDepth 20000 in
theorem ggL_law_X9_init : GoodIn wsL_law wsX9_init := goodIn_r _ [118, 119, 11, 12, 30, 120, 121, 122, 123, 51, 124, 125, 126, 127, 128, 129, 130, 131, 132, 133, 134, 135, 136, 137, 138, 139, 140, 141, 142, 143, 144, 145, 146, 5, 147, 1341, 1342, 1343, 1344, 1345, 1346, 1347, 1348, 1349, 1350, 1351, 1352, 1353, 1354, 1355, 1356, 1357, 1358, 1359, 1360, 1361, 1362, 1363, 1364, 1365, 1366, 1367, 1368, 1369, 1370, 1371, 1372, 1373, 1374, 1375, 1376, 1377] (by decide +kernel) (by decide +kernel)
set_option maxRecDepth 20000 in
theorem gL_law_X9_init : GoodIn wsL_law (wsX9_init) := ggL_law_X9_init
set_option maxRecDepth 20000 in
theorem ggL_law_X8_row : GoodIn wsL_law wsX8_row := goodIn_r _ [151, 21, 152, 153, 154, 155, 2, 156, 157, 158, 159, 160, 31, 161, 162, 163, 98, 164, 107, 108, 109, 165, 71, 72, 73, 1329, 1330, 1331, 1332, 1333, 1334, 1335, 1336, 1337, 1338, 1339, 1340, 1394, 1395, 1396, 1403, 1404, 1405] (by decide +kernel) (by decide +kernel)
set_option maxRecDepth 20000 in
theorem gL_law_X8_row : GoodIn wsL_law (wsV RL 13 RX8 yX8_row wsX8_row) := goodIn_app (goodIn_of _ (by decide +kernel)) ggL_law_X8_row
set_option maxRecDepth 20000 in
theorem ggL_law_X9_row : GoodIn wsL_law wsX9_row := goodIn_r _ [169, 170, 171, 172, 120, 121, 122, 124, 173, 174, 5, 175, 176, 177, 178, 179, 130, 1341, 1342, 1343, 1344, 1345, 1346, 1347, 1348, 1349, 1350, 1351, 1352, 1353, 1354, 1355, 1356, 1357, 1358, 1359, 1360, 1361, 1362, 1363, 1364, 1365, 1366, 1367, 1368, 1369, 1370, 1371, 1372, 1373, 1374, 1375, 1376, 1377] (by decide +kernel) (by decide +kernel)
set_option maxRecDepth 20000 in
theorem gL_law_X9_row : GoodIn wsL_law (wsV RL 17 RX9 yX9_row wsX9_row) := goodIn_app (goodIn_of _ (by decide +kernel)) ggL_law_X9_row
set_option maxRecDepth 20000 in
theorem ggL_law_X8_set : GoodIn wsL_law wsX8_set := goodIn_r _ [183, 21, 153, 184, 185, 186, 187, 188, 2, 189, 154, 155, 156, 190, 191, 192, 37, 193, 95, 194, 195, 196, 197, 157, 158, 159, 160, 31, 198, 199, 200, 98, 201, 107, 1329, 1330, 1331, 1332, 1333, 1334, 1335, 1336, 1337, 1338, 1339, 1340, 1394, 1395, 1396, 1403, 1404, 1405] (by decide +kernel) (by decide +kernel)
set_option maxRecDepth 20000 in
theorem gL_law_X8_set : GoodIn wsL_law (wsV RL 20 RX8 yX8_set wsX8_set) := goodIn_app (goodIn_of _ (by decide +kernel)) ggL_law_X8_set
set_option maxRecDepth 20000 in
theorem ggL_law_X9_set : GoodIn wsL_law wsX9_set := goodIn_r _ [205, 122, 124, 121, 206, 207, 208, 5, 209, 170, 120, 173, 174, 175, 176, 177, 178, 179, 130, 210, 211, 212, 1341, 1342, 1343, 1344, 1345, 1346, 1347, 1348, 1349, 1350, 1351, 1352, 1353, 1354, 1355, 1356, 1357, 1358, 1359, 1360, 1361, 1362, 1363, 1364, 1365, 1366, 1367, 1368, 1369, 1370, 1371, 1372, 1373, 1374, 1375, 1376, 1377] (by decide +kernel) (by decide +kernel)
set_option maxRecDepth 20000 in
theorem gL_law_X9_set : GoodIn wsL_law (wsV RL 24 RX9 yX9_set wsX9_set) := goodIn_app (goodIn_of _ (by decide +kernel)) ggL_law_X9_set
set_option maxRecDepth 20000 in
theorem ggL_law_X8_copy : GoodIn wsL_law wsX8_copy := goodIn_r _ [216, 21, 152, 153, 185, 217, 218, 219, 220, 154, 155, 2, 156, 157, 158, 159, 160, 31, 190, 191, 192, 37, 193, 95, 194, 195, 196, 197, 221, 222, 223, 98, 224, 108, 1329, 1330, 1331, 1332, 1333, 1334, 1335, 1336, 1337, 1338, 1339, 1340, 1394, 1395, 1396, 1403, 1404, 1405] (by decide +kernel) (by decide +kernel)
set_option maxRecDepth 20000 in
theorem gL_law_X8_copy : GoodIn wsL_law (wsV RL 25 RX8 yX8_copy wsX8_copy) := goodIn_app (goodIn_of _ (by decide +kernel)) ggL_law_X8_copy
set_option maxRecDepth 20000 in
theorem ggL_law_X9_copy : GoodIn wsL_law wsX9_copy := goodIn_r _ [228, 170, 120, 121, 122, 125, 124, 173, 174, 5, 175, 176, 177, 178, 179, 130, 1341, 1342, 1343, 1344, 1345, 1346, 1347, 1348, 1349, 1350, 1351, 1352, 1353, 1354, 1355, 1356, 1357, 1358, 1359, 1360, 1361, 1362, 1363, 1364, 1365, 1366, 1367, 1368, 1369, 1370, 1371, 1372, 1373, 1374, 1375, 1376, 1377] (by decide +kernel) (by decide +kernel)
set_option maxRecDepth 20000 in
theorem gL_law_X9_copy : GoodIn wsL_law (wsV RL 29 RX9 yX9_copy wsX9_copy) := goodIn_app (goodIn_of _ (by decide +kernel)) ggL_law_X9_copy
set_option maxRecDepth 20000 in
theorem ggL_law_X8_element : GoodIn wsL_law wsX8_element := goodIn_r _ [232, 21, 153, 184, 185, 154, 155, 2, 156, 194, 195, 196, 37, 197, 95, 1329, 1330, 1331, 1332, 1333, 1334, 1335, 1336, 1337, 1338, 1339, 1340, 1394, 1395, 1396, 1403, 1404, 1405] (by decide +kernel) (by decide +kernel)
set_option maxRecDepth 20000 in
theorem gL_law_X8_element : GoodIn wsL_law (wsV RL 30 RX8 yX8_element wsX8_element) := goodIn_app (goodIn_of _ (by decide +kernel)) ggL_law_X8_element
set_option maxRecDepth 20000 in
theorem ggL_law_X9_element : GoodIn wsL_law wsX9_element := goodIn_r _ [236, 170, 120, 122, 124, 173, 174, 5, 175, 1341, 1342, 1343, 1344, 1345, 1346, 1347, 1348, 1349, 1350, 1351, 1352, 1353, 1354, 1355, 1356, 1357, 1358, 1359, 1360, 1361, 1362, 1363, 1364, 1365, 1366, 1367, 1368, 1369, 1370, 1371, 1372, 1373, 1374, 1375, 1376, 1377] (by decide +kernel) (by decide +kernel)
set_option maxRecDepth 20000 in
theorem gL_law_X9_element : GoodIn wsL_law (wsV RL 34 RX9 yX9_element wsX9_element) := goodIn_app (goodIn_of _ (by decide +kernel)) ggL_law_X9_element
set_option maxRecDepth 20000 in
theorem ggL_law_X8_holds : GoodIn wsL_law wsX8_holds := goodIn_r _ [240, 21, 152, 154, 155, 2, 156, 1329, 1330, 1331, 1332, 1333, 1334, 1335, 1336, 1337, 1338, 1339, 1340, 1394, 1395, 1396] (by decide +kernel) (by decide +kernel)
set_option maxRecDepth 20000 in
theorem gL_law_X8_holds : GoodIn wsL_law (wsV RL 35 RX8 yX8_holds wsX8_holds) := goodIn_app (goodIn_of _ (by decide +kernel)) ggL_law_X8_holds
set_option maxRecDepth 20000 in
theorem ggL_law_X9_holds : GoodIn wsL_law wsX9_holds := goodIn_r _ [244, 170, 120, 121, 126, 173, 174, 5, 175, 1341, 1342, 1343, 1344, 1345, 1346, 1347, 1348, 1349, 1350, 1351, 1352, 1353, 1354, 1355, 1356, 1357, 1358, 1359, 1360, 1361, 1362, 1363, 1364, 1365, 1366, 1367, 1368, 1369, 1370, 1371, 1372, 1373, 1374, 1375, 1376, 1377] (by decide +kernel) (by decide +kernel)
set_option maxRecDepth 20000 in
theorem gL_law_X9_holds : GoodIn wsL_law (wsV RL 39 RX9 yX9_holds wsX9_holds) := goodIn_app (goodIn_of _ (by decide +kernel)) ggL_law_X9_holds
set_option maxRecDepth 20000 in
theorem ggL_law_X8_move : GoodIn wsL_law wsX8_move := goodIn_r _ [248, 21, 152, 249, 154, 155, 2, 156, 250, 251, 252, 157, 158, 159, 160, 31, 253, 254, 255, 102, 256, 113, 114, 115, 1329, 1330, 1331, 1332, 1333, 1334, 1335, 1336, 1337, 1338, 1339, 1340, 1394, 1395, 1396, 1406, 1407, 1408] (by decide +kernel) (by decide +kernel)
set_option maxRecDepth 20000 in
theorem gL_law_X8_move : GoodIn wsL_law (wsV RL 40 RX8 yX8_move wsX8_move) := goodIn_app (goodIn_of _ (by decide +kernel)) ggL_law_X8_move
set_option maxRecDepth 20000 in
theorem ggL_law_X9_move : GoodIn wsL_law wsX9_move := goodIn_r _ [260, 170, 261, 120, 126, 127, 128, 173, 174, 5, 175, 176, 177, 178, 179, 130, 1341, 1342, 1343, 1344, 1345, 1346, 1347, 1348, 1349, 1350, 1351, 1352, 1353, 1354, 1355, 1356, 1357, 1358, 1359, 1360, 1361, 1362, 1363, 1364, 1365, 1366, 1367, 1368, 1369, 1370, 1371, 1372, 1373, 1374, 1375, 1376, 1377] (by decide +kernel) (by decide +kernel)
set_option maxRecDepth 20000 in
theorem gL_law_X9_move : GoodIn wsL_law (wsV RL 44 RX9 yX9_move wsX9_move) := goodIn_app (goodIn_of _ (by decide +kernel)) ggL_law_X9_move
set_option maxRecDepth 20000 in
theorem ggL_law_X8_says : GoodIn wsL_law wsX8_says := goodIn_r _ [265, 21, 249, 266, 267, 16, 268, 269, 270, 2, 271, 154, 155, 156, 194, 195, 196, 37, 197, 95, 190, 191, 192, 193, 157, 158, 159, 160, 31, 272, 273, 274, 102, 275, 113, 276, 277, 278, 15, 279, 45, 54, 46, 280, 281, 282, 283, 284, 285, 286, 287, 288, 289, 290, 291, 292, 293, 294, 295, 114, 296, 297, 298, 299, 44, 300, 69, 60, 301, 302, 303, 304, 61, 305, 306, 307, 308, 115, 309, 310, 311, 312, 68, 59, 1329, 1330, 1331, 1332, 1333, 1334, 1335, 1336, 1337, 1338, 1339, 1340, 1394, 1395, 1396, 1406, 1407, 1408, 1378, 1379, 1380, 1381, 1382, 1383, 1384, 1385, 1397, 1398, 1399, 1400, 1401, 1402] (by decide +kernel) (by decide +kernel)
set_option maxRecDepth 20000 in
theorem gL_law_X8_says : GoodIn wsL_law (wsV RL 45 RX8 yX8_says wsX8_says) := goodIn_app (goodIn_of _ (by decide +kernel)) ggL_law_X8_says
set_option maxRecDepth 20000 in
theorem ggL_law_X9_says : GoodIn wsL_law wsX9_says := goodIn_r _ [316, 170, 261, 120, 126, 127, 128, 173, 174, 5, 175, 176, 177, 178, 179, 130, 317, 318, 319, 320, 321, 322, 323, 324, 325, 326, 327, 328, 329, 131, 330, 331, 332, 333, 334, 335, 336, 337, 338, 339, 340, 341, 342, 343, 344, 345, 346, 347, 348, 349, 350, 351, 352, 353, 354, 355, 356, 357, 358, 359, 360, 361, 362, 363, 364, 1341, 1342, 1343, 1344, 1345, 1346, 1347, 1348, 1349, 1350, 1351, 1352, 1353, 1354, 1355, 1356, 1357, 1358, 1359, 1360, 1361, 1362, 1363, 1364, 1365, 1366, 1367, 1368, 1369, 1370, 1371, 1372, 1373, 1374, 1375, 1376, 1377] (by decide +kernel) (by decide +kernel)
set_option maxRecDepth 20000 in
theorem gL_law_X9_says : GoodIn wsL_law (wsV RL 49 RX9 yX9_says wsX9_says) := goodIn_app (goodIn_of _ (by decide +kernel)) ggL_law_X9_says
set_option maxRecDepth 20000 in
theorem ggL_law_X8_size : GoodIn wsL_law wsX8_size := goodIn_r _ [368, 16, 285, 369, 157, 158, 159, 2, 160, 31, 370, 371, 372, 15, 373, 45, 46, 53, 54, 374, 63, 64, 44, 65, 66, 67, 68, 69, 59, 60, 61, 70, 71, 72, 73, 74, 75, 76, 77, 375, 376, 377, 378, 47, 48, 379, 1329, 1330, 1331, 1332, 1333, 1334, 1335, 1336, 1337, 1338, 1339, 1340, 1378, 1379, 1380, 1381, 1382, 1383, 1384, 1385, 1397, 1398, 1399, 1400, 1401, 1402] (by decide +kernel) (by decide +kernel)
set_option maxRecDepth 20000 in
theorem gL_law_X8_size : GoodIn wsL_law (wsV RL 50 RX8 yX8_size wsX8_size) := goodIn_app (goodIn_of _ (by decide +kernel)) ggL_law_X8_size
set_option maxRecDepth 20000 in
theorem ggL_law_X9_size : GoodIn wsL_law wsX9_size := goodIn_r _ [383, 384, 171, 131, 173, 174, 5, 175, 176, 177, 178, 179, 130, 385, 386, 387, 388, 324, 389, 390, 144, 145, 146, 147, 133, 1341, 1342, 1343, 1344, 1345, 1346, 1347, 1348, 1349, 1350, 1351, 1352, 1353, 1354, 1355, 1356, 1357, 1358, 1359, 1360, 1361, 1362, 1363, 1364, 1365, 1366, 1367, 1368, 1369, 1370, 1371, 1372, 1373, 1374, 1375, 1376, 1377] (by decide +kernel) (by decide +kernel)
set_option maxRecDepth 20000 in
theorem gL_law_X9_size : GoodIn wsL_law (wsV RL 53 RX9 yX9_size wsX9_size) := goodIn_app (goodIn_of _ (by decide +kernel)) ggL_law_X9_size
set_option maxRecDepth 20000 in
theorem ggL_law_X8_solid : GoodIn wsL_law wsX8_solid := goodIn_r _ [394, 16, 287, 285, 395, 396, 397, 398, 399, 400, 401, 402, 403, 1329, 1330, 1331, 1332, 1333, 1334, 1335, 1336, 1337, 1338, 1339, 1340, 1378, 1379, 1380, 1381, 1382, 1383, 1384, 1385, 1397, 1398, 1399, 1400, 1401, 1402] (by decide +kernel) (by decide +kernel)
set_option maxRecDepth 20000 in
theorem gL_law_X8_solid : GoodIn wsL_law (wsV RL 54 RX8 yX8_solid wsX8_solid) := goodIn_app (goodIn_of _ (by decide +kernel)) ggL_law_X8_solid
set_option maxRecDepth 20000 in
theorem ggL_law_X9_solid : GoodIn wsL_law wsX9_solid := goodIn_r _ [407, 324, 325, 326, 327, 328, 5, 329, 131, 330, 331, 332, 333, 408, 409, 410, 338, 339, 340, 1341, 1342, 1343, 1344, 1345, 1346, 1347, 1348, 1349, 1350, 1351, 1352, 1353, 1354, 1355, 1356, 1357, 1358, 1359, 1360, 1361, 1362, 1363, 1364, 1365, 1366, 1367, 1368, 1369, 1370, 1371, 1372, 1373, 1374, 1375, 1376, 1377] (by decide +kernel) (by decide +kernel)
set_option maxRecDepth 20000 in
theorem gL_law_X9_solid : GoodIn wsL_law (wsV RL 58 RX9 yX9_solid wsX9_solid) := goodIn_app (goodIn_of _ (by decide +kernel)) ggL_law_X9_solid
set_option maxRecDepth 20000 in
theorem ggL_law_X8_figure : GoodIn wsL_law wsX8_figure := goodIn_r _ [414, 16, 21, 153, 285, 395, 287, 186, 187, 188, 2, 189, 154, 155, 156, 190, 191, 192, 37, 193, 95, 194, 195, 196, 197, 157, 158, 159, 160, 31, 415, 416, 417, 98, 418, 108, 109, 397, 398, 399, 400, 401, 402, 403, 1329, 1330, 1331, 1332, 1333, 1334, 1335, 1336, 1337, 1338, 1339, 1340, 1394, 1395, 1396, 1378, 1379, 1380, 1381, 1382, 1383, 1384, 1385, 1397, 1398, 1399, 1400, 1401, 1402, 1403, 1404, 1405] (by decide +kernel) (by decide +kernel)
set_option maxRecDepth 20000 in
theorem gL_law_X8_figure : GoodIn wsL_law (wsV RL 59 RX8 yX8_figure wsX8_figure) := goodIn_app (goodIn_of _ (by decide +kernel)) ggL_law_X8_figure
set_option maxRecDepth 20000 in
theorem ggL_law_X9_figure : GoodIn wsL_law wsX9_figure := goodIn_r _ [422, 324, 122, 124, 206, 207, 208, 5, 209, 170, 120, 173, 174, 175, 176, 177, 178, 179, 130, 330, 331, 332, 333, 131, 408, 409, 410, 338, 339, 340, 1341, 1342, 1343, 1344, 1345, 1346, 1347, 1348, 1349, 1350, 1351, 1352, 1353, 1354, 1355, 1356, 1357, 1358, 1359, 1360, 1361, 1362, 1363, 1364, 1365, 1366, 1367, 1368, 1369, 1370, 1371, 1372, 1373, 1374, 1375, 1376, 1377] (by decide +kernel) (by decide +kernel)
set_option maxRecDepth 20000 in
theorem gL_law_X9_figure : GoodIn wsL_law (wsV RL 62 RX9 yX9_figure wsX9_figure) := goodIn_app (goodIn_of _ (by decide +kernel)) ggL_law_X9_figure
set_option maxRecDepth 20000 in
theorem ggL_law_X8_piece : GoodIn wsL_law wsX8_piece := goodIn_r _ [426, 16, 427, 285, 395, 157, 158, 159, 2, 160, 31, 428, 429, 430, 15, 431, 47, 52, 1329, 1330, 1331, 1332, 1333, 1334, 1335, 1336, 1337, 1338, 1339, 1340, 1378, 1379, 1380, 1381, 1382, 1383, 1384, 1385, 1397, 1398, 1399, 1400, 1401, 1402] (by decide +kernel) (by decide +kernel)
set_option maxRecDepth 20000 in
theorem gL_law_X8_piece : GoodIn wsL_law (wsV RL 63 RX8 yX8_piece wsX8_piece) := goodIn_app (goodIn_of _ (by decide +kernel)) ggL_law_X8_piece
set_option maxRecDepth 20000 in
theorem ggL_law_X9_piece : GoodIn wsL_law wsX9_piece := goodIn_r _ [435, 389, 132, 390, 176, 177, 178, 5, 179, 130, 326, 327, 328, 329, 131, 325, 330, 331, 332, 333, 1341, 1342, 1343, 1344, 1345, 1346, 1347, 1348, 1349, 1350, 1351, 1352, 1353, 1354, 1355, 1356, 1357, 1358, 1359, 1360, 1361, 1362, 1363, 1364, 1365, 1366, 1367, 1368, 1369, 1370, 1371, 1372, 1373, 1374, 1375, 1376, 1377] (by decide +kernel) (by decide +kernel)
set_option maxRecDepth 20000 in
theorem gL_law_X9_piece : GoodIn wsL_law (wsV RL 67 RX9 yX9_piece wsX9_piece) := goodIn_app (goodIn_of _ (by decide +kernel)) ggL_law_X9_piece
set_option maxRecDepth 20000 in
theorem ggL_law_X8_alter : GoodIn wsL_law wsX8_alter := goodIn_r _ [439, 16, 440, 285, 395, 441, 442, 443, 2, 444, 445, 446, 447, 448, 427, 449, 450, 451, 15, 452, 48, 157, 158, 159, 160, 31, 397, 398, 399, 400, 401, 402, 403, 1329, 1330, 1331, 1332, 1333, 1334, 1335, 1336, 1337, 1338, 1339, 1340, 1378, 1379, 1380, 1381, 1382, 1383, 1384, 1385, 1397, 1398, 1399, 1400, 1401, 1402] (by decide +kernel) (by decide +kernel)
set_option maxRecDepth 20000 in
theorem gL_law_X8_alter : GoodIn wsL_law (wsV RL 68 RX8 yX8_alter wsX8_alter) := goodIn_app (goodIn_of _ (by decide +kernel)) ggL_law_X8_alter
set_option maxRecDepth 20000 in
theorem ggL_law_X9_alter : GoodIn wsL_law wsX9_alter := goodIn_r _ [456, 132, 457, 458, 459, 5, 460, 389, 173, 174, 175, 176, 177, 178, 179, 130, 461, 462, 463, 464, 390, 408, 409, 410, 338, 339, 340, 326, 327, 328, 329, 131, 325, 330, 331, 332, 333, 1341, 1342, 1343, 1344, 1345, 1346, 1347, 1348, 1349, 1350, 1351, 1352, 1353, 1354, 1355, 1356, 1357, 1358, 1359, 1360, 1361, 1362, 1363, 1364, 1365, 1366, 1367, 1368, 1369, 1370, 1371, 1372, 1373, 1374, 1375, 1376, 1377] (by decide +kernel) (by decide +kernel)
set_option maxRecDepth 20000 in
theorem gL_law_X9_alter : GoodIn wsL_law (wsV RL 72 RX9 yX9_alter wsX9_alter) := goodIn_app (goodIn_of _ (by decide +kernel)) ggL_law_X9_alter
set_option maxRecDepth 20000 in
theorem ggL_law_X8_ask : GoodIn wsL_law wsX8_ask := goodIn_r _ [468, 469, 470, 471, 2, 472, 16, 285, 286, 157, 158, 159, 160, 31, 473, 474, 475, 15, 476, 477, 478, 479, 480, 53, 481, 398, 399, 400, 401, 402, 403, 482, 483, 484, 485, 280, 486, 487, 488, 489, 490, 491, 492, 493, 494, 495, 1329, 1330, 1331, 1332, 1333, 1334, 1335, 1336, 1337, 1338, 1339, 1340, 1378, 1379, 1380, 1381, 1382, 1383, 1384, 1385, 1397, 1398, 1399, 1400, 1401, 1402] (by decide +kernel) (by decide +kernel)
set_option maxRecDepth 20000 in
theorem gL_law_X8_ask : GoodIn wsL_law (wsV RL 73 RX8 yX8_ask wsX8_ask) := goodIn_app (goodIn_of _ (by decide +kernel)) ggL_law_X8_ask
set_option maxRecDepth 20000 in
theorem ggL_law_X9_ask : GoodIn wsL_law wsX9_ask := goodIn_r _ [499, 500, 133, 501, 134, 502, 135, 503, 504, 505, 5, 506, 330, 331, 332, 333, 131, 173, 174, 175, 176, 177, 178, 179, 130, 1341, 1342, 1343, 1344, 1345, 1346, 1347, 1348, 1349, 1350, 1351, 1352, 1353, 1354, 1355, 1356, 1357, 1358, 1359, 1360, 1361, 1362, 1363, 1364, 1365, 1366, 1367, 1368, 1369, 1370, 1371, 1372, 1373, 1374, 1375, 1376, 1377] (by decide +kernel) (by decide +kernel)
set_option maxRecDepth 20000 in
theorem gL_law_X9_ask : GoodIn wsL_law (wsV RL 76 RX9 yX9_ask wsX9_ask) := goodIn_app (goodIn_of _ (by decide +kernel)) ggL_law_X9_ask
set_option maxRecDepth 20000 in
theorem ggL_law_X8_feed : GoodIn wsL_law wsX8_feed := goodIn_r _ [510, 25, 511, 157, 158, 159, 2, 160, 31, 512, 513, 514, 24, 515, 81, 85, 1329, 1330, 1331, 1332, 1333, 1334, 1335, 1336, 1337, 1338, 1339, 1340, 1386, 1387, 1388, 1389, 1390] (by decide +kernel) (by decide +kernel)
set_option maxRecDepth 20000 in
theorem gL_law_X8_feed : GoodIn wsL_law (wsV RL 77 RX8 yX8_feed wsX8_feed) := goodIn_app (goodIn_of _ (by decide +kernel)) ggL_law_X8_feed
set_option maxRecDepth 20000 in
theorem ggL_law_X9_feed : GoodIn wsL_law wsX9_feed := goodIn_r _ [519, 171, 520, 129, 173, 174, 5, 175, 176, 177, 178, 179, 130, 1341, 1342, 1343, 1344, 1345, 1346, 1347, 1348, 1349, 1350, 1351, 1352, 1353, 1354, 1355, 1356, 1357, 1358, 1359, 1360, 1361, 1362, 1363, 1364, 1365, 1366, 1367, 1368, 1369, 1370, 1371, 1372, 1373, 1374, 1375, 1376, 1377] (by decide +kernel) (by decide +kernel)
set_option maxRecDepth 20000 in
theorem gL_law_X9_feed : GoodIn wsL_law (wsV RL 80 RX9 yX9_feed wsX9_feed) := goodIn_app (goodIn_of _ (by decide +kernel)) ggL_law_X9_feed
set_option maxRecDepth 20000 in
theorem ggL_law_X8_wipe : GoodIn wsL_law wsX8_wipe := goodIn_r _ [524, 25, 511, 1329, 1330, 1331, 1332, 1333, 1334, 1335, 1336, 1337, 1338, 1339, 1340, 1386, 1387, 1388, 1389, 1390] (by decide +kernel) (by decide +kernel)
set_option maxRecDepth 20000 in
theorem gL_law_X8_wipe : GoodIn wsL_law (wsV RL 81 RX8 yX8_wipe wsX8_wipe) := goodIn_app (goodIn_of _ (by decide +kernel)) ggL_law_X8_wipe
set_option maxRecDepth 20000 in
theorem ggL_law_X9_wipe : GoodIn wsL_law wsX9_wipe := goodIn_r _ [528, 520, 1341, 1342, 1343, 1344, 1345, 1346, 1347, 1348, 1349, 1350, 1351, 1352, 1353, 1354, 1355, 1356, 1357, 1358, 1359, 1360, 1361, 1362, 1363, 1364, 1365, 1366, 1367, 1368, 1369, 1370, 1371, 1372, 1373, 1374, 1375, 1376, 1377] (by decide +kernel) (by decide +kernel)
set_option maxRecDepth 20000 in
theorem gL_law_X9_wipe : GoodIn wsL_law (wsV RL 85 RX9 yX9_wipe wsX9_wipe) := goodIn_app (goodIn_of _ (by decide +kernel)) ggL_law_X9_wipe
set_option maxRecDepth 20000 in
theorem ggL_law_X8_read : GoodIn wsL_law wsX8_read := goodIn_r _ [532, 18, 16, 25, 533, 511, 534, 535, 536, 15, 537, 45, 538, 46, 47, 48, 49, 50, 52, 539, 218, 219, 220, 53, 374, 63, 64, 44, 65, 66, 67, 68, 69, 59, 60, 61, 70, 71, 72, 73, 74, 75, 76, 77, 540, 541, 542, 543, 544, 545, 546, 547, 24, 548, 84, 549, 550, 551, 552, 82, 81, 85, 83, 553, 554, 555, 556, 557, 558, 559, 560, 561, 562, 563, 564, 565, 566, 567, 568, 569, 570, 571, 572, 573, 574, 575, 576, 577, 578, 579, 580, 581, 582, 583, 584, 585, 586, 587, 588, 589, 590, 591, 592, 593, 594, 595, 596, 597, 598, 599, 600, 601, 602, 603, 604, 605, 606, 607, 608, 609, 610, 611, 612, 613, 614, 615, 616, 617, 618, 619, 620, 621, 622, 623, 624, 371, 372, 373, 54, 375, 376, 377, 378, 379, 625, 626, 627, 628, 629, 630, 631, 632, 633, 634, 635, 636, 637, 638, 639, 640, 641, 642, 643, 644, 645, 646, 647, 648, 649, 650, 651, 652, 653, 654, 655, 656, 657, 658, 429, 430, 431, 659, 660, 661, 662, 483, 484, 485, 280, 663, 664, 665, 666, 667, 668, 669, 670, 157, 158, 159, 2, 160, 31, 1329, 1330, 1331, 1332, 1333, 1334, 1335, 1336, 1337, 1338, 1339, 1340, 1386, 1387, 1388, 1389, 1390, 1378, 1379, 1380, 1381, 1382, 1383, 1384, 1385, 1397, 1398, 1399, 1400, 1401, 1402] (by decide +kernel) (by decide +kernel)
set_option maxRecDepth 20000 in
theorem gL_law_X8_read : GoodIn wsL_law (wsV RL 86 RX8 yX8_read wsX8_read) := goodIn_app (goodIn_of _ (by decide +kernel)) ggL_law_X8_read
set_option maxRecDepth 20000 in
theorem ggL_law_X9_read : GoodIn wsL_law wsX9_read := goodIn_r _ [674, 675, 676, 4, 5, 520, 677, 678, 679, 117, 118, 119, 11, 12, 30, 120, 121, 122, 123, 51, 124, 125, 126, 127, 128, 129, 130, 131, 132, 133, 134, 135, 136, 137, 138, 139, 140, 141, 142, 143, 144, 145, 146, 147, 680, 681, 682, 683, 324, 389, 390, 684, 685, 686, 687, 688, 689, 690, 691, 692, 693, 694, 695, 696, 697, 698, 699, 700, 701, 702, 703, 704, 705, 706, 707, 708, 325, 709, 710, 711, 712, 713, 565, 566, 567, 568, 569, 570, 571, 572, 573, 574, 575, 714, 577, 578, 579, 580, 581, 582, 583, 584, 585, 586, 587, 588, 589, 590, 591, 592, 593, 594, 595, 596, 597, 598, 599, 600, 601, 602, 603, 604, 605, 606, 607, 608, 609, 610, 611, 612, 715, 716, 717, 718, 719, 720, 721, 722, 723, 724, 725, 726, 173, 174, 175, 385, 386, 387, 388, 727, 728, 729, 730, 330, 331, 332, 333, 731, 732, 733, 734, 349, 350, 351, 352, 176, 177, 178, 179, 1341, 1342, 1343, 1344, 1345, 1346, 1347, 1348, 1349, 1350, 1351, 1352, 1353, 1354, 1355, 1356, 1357, 1358, 1359, 1360, 1361, 1362, 1363, 1364, 1365, 1366, 1367, 1368, 1369, 1370, 1371, 1372, 1373, 1374, 1375, 1376, 1377] (by decide +kernel) (by decide +kernel)
set_option maxRecDepth 20000 in
theorem gL_law_X9_read : GoodIn wsL_law (wsV RL 89 RX9 yX9_read wsX9_read) := goodIn_app (goodIn_of _ (by decide +kernel)) ggL_law_X9_read
set_option maxRecDepth 20000 in
theorem ggL_law_X8_cubes : GoodIn wsL_law wsX8_cubes := goodIn_r _ [738, 16, 287, 739, 276, 277, 278, 15, 279, 45, 54, 46, 280, 740, 741, 742, 2, 743, 29, 285, 744, 745, 746, 28, 747, 748, 749, 89, 90, 750, 751, 752, 44, 753, 66, 754, 310, 311, 312, 61, 68, 59, 755, 756, 757, 758, 759, 760, 761, 762, 763, 764, 765, 766, 47, 52, 1329, 1330, 1331, 1332, 1333, 1334, 1335, 1336, 1337, 1338, 1339, 1340, 1378, 1379, 1380, 1381, 1382, 1383, 1384, 1385, 1397, 1398, 1399, 1400, 1401, 1402, 1391, 1392, 1393] (by decide +kernel) (by decide +kernel)
set_option maxRecDepth 20000 in
theorem gL_law_X8_cubes : GoodIn wsL_law (wsV RL 90 RX8 yX8_cubes wsX8_cubes) := goodIn_app (goodIn_of _ (by decide +kernel)) ggL_law_X8_cubes
set_option maxRecDepth 20000 in
theorem ggL_law_X9_cubes : GoodIn wsL_law wsX9_cubes := goodIn_r _ [770, 324, 320, 321, 322, 5, 323, 325, 326, 327, 328, 329, 131, 330, 331, 332, 333, 771, 772, 773, 774, 139, 775, 776, 777, 778, 338, 339, 340, 779, 780, 781, 782, 357, 358, 359, 360, 349, 350, 351, 352, 783, 784, 785, 786, 389, 132, 461, 462, 463, 464, 390, 1341, 1342, 1343, 1344, 1345, 1346, 1347, 1348, 1349, 1350, 1351, 1352, 1353, 1354, 1355, 1356, 1357, 1358, 1359, 1360, 1361, 1362, 1363, 1364, 1365, 1366, 1367, 1368, 1369, 1370, 1371, 1372, 1373, 1374, 1375, 1376, 1377] (by decide +kernel) (by decide +kernel)
set_option maxRecDepth 20000 in
theorem gL_law_X9_cubes : GoodIn wsL_law (wsV RL 94 RX9 yX9_cubes wsX9_cubes) := goodIn_app (goodIn_of _ (by decide +kernel)) ggL_law_X9_cubes
set_option maxRecDepth 20000 in
theorem ggL_law_X8_setOf : GoodIn wsL_law wsX8_setOf := goodIn_r _ [790, 16, 440, 445, 446, 447, 2, 448, 427, 1329, 1330, 1331, 1332, 1333, 1334, 1335, 1336, 1337, 1338, 1339, 1340, 1378, 1379, 1380, 1381, 1382, 1383, 1384, 1385] (by decide +kernel) (by decide +kernel)
set_option maxRecDepth 20000 in
theorem gL_law_X8_setOf : GoodIn wsL_law (wsV RL 95 RX8 yX8_setOf wsX8_setOf) := goodIn_app (goodIn_of _ (by decide +kernel)) ggL_law_X8_setOf
set_option maxRecDepth 20000 in
theorem ggL_law_X9_setOf : GoodIn wsL_law wsX9_setOf := goodIn_r _ [794, 132, 457, 458, 459, 5, 460, 389, 173, 174, 175, 1341, 1342, 1343, 1344, 1345, 1346, 1347, 1348, 1349, 1350, 1351, 1352, 1353, 1354, 1355, 1356, 1357, 1358, 1359, 1360, 1361, 1362, 1363, 1364, 1365, 1366, 1367, 1368, 1369, 1370, 1371, 1372, 1373, 1374, 1375, 1376, 1377] (by decide +kernel) (by decide +kernel)
set_option maxRecDepth 20000 in
theorem gL_law_X9_setOf : GoodIn wsL_law (wsV RL 98 RX9 yX9_setOf wsX9_setOf) := goodIn_app (goodIn_of _ (by decide +kernel)) ggL_law_X9_setOf
set_option maxRecDepth 20000 in
theorem ggL_law_X8_whole : GoodIn wsL_law wsX8_whole := goodIn_r _ [798, 16, 285, 395, 799, 800, 801, 44, 802, 803, 804, 805, 806, 807, 808, 809, 810, 754, 310, 311, 312, 61, 68, 59, 1329, 1330, 1331, 1332, 1333, 1334, 1335, 1336, 1337, 1338, 1339, 1340, 1378, 1379, 1380, 1381, 1382, 1383, 1384, 1385, 1397, 1398, 1399, 1400, 1401, 1402] (by decide +kernel) (by decide +kernel)
set_option maxRecDepth 20000 in
theorem gL_law_X8_whole : GoodIn wsL_law (wsV RL 99 RX8 yX8_whole wsX8_whole) := goodIn_app (goodIn_of _ (by decide +kernel)) ggL_law_X8_whole
set_option maxRecDepth 20000 in
theorem ggL_law_X9_whole : GoodIn wsL_law wsX9_whole := goodIn_r _ [814, 326, 327, 328, 5, 329, 131, 325, 330, 331, 332, 333, 815, 816, 817, 818, 338, 339, 340, 819, 820, 821, 822, 357, 358, 359, 360, 349, 350, 351, 352, 1341, 1342, 1343, 1344, 1345, 1346, 1347, 1348, 1349, 1350, 1351, 1352, 1353, 1354, 1355, 1356, 1357, 1358, 1359, 1360, 1361, 1362, 1363, 1364, 1365, 1366, 1367, 1368, 1369, 1370, 1371, 1372, 1373, 1374, 1375, 1376, 1377] (by decide +kernel) (by decide +kernel)
set_option maxRecDepth 20000 in
theorem gL_law_X9_whole : GoodIn wsL_law (wsV RL 102 RX9 yX9_whole wsX9_whole) := goodIn_app (goodIn_of _ (by decide +kernel)) ggL_law_X9_whole
set_option maxRecDepth 20000 in
theorem ggL_law_X8_parts : GoodIn wsL_law wsX8_parts := goodIn_r _ [826, 16, 285, 287, 827, 828, 829, 44, 830, 68, 803, 804, 805, 806, 807, 808, 809, 810, 754, 310, 311, 312, 61, 59, 1329, 1330, 1331, 1332, 1333, 1334, 1335, 1336, 1337, 1338, 1339, 1340, 1378, 1379, 1380, 1381, 1382, 1383, 1384, 1385, 1397, 1398, 1399, 1400, 1401, 1402] (by decide +kernel) (by decide +kernel)
set_option maxRecDepth 20000 in
theorem gL_law_X8_parts : GoodIn wsL_law (wsV RL 103 RX8 yX8_parts wsX8_parts) := goodIn_app (goodIn_of _ (by decide +kernel)) ggL_law_X8_parts
set_option maxRecDepth 20000 in
theorem ggL_law_X9_parts : GoodIn wsL_law wsX9_parts := goodIn_r _ [834, 324, 815, 816, 817, 5, 818, 325, 330, 331, 332, 333, 131, 338, 339, 340, 819, 820, 821, 822, 357, 358, 359, 360, 349, 350, 351, 352, 1341, 1342, 1343, 1344, 1345, 1346, 1347, 1348, 1349, 1350, 1351, 1352, 1353, 1354, 1355, 1356, 1357, 1358, 1359, 1360, 1361, 1362, 1363, 1364, 1365, 1366, 1367, 1368, 1369, 1370, 1371, 1372, 1373, 1374, 1375, 1376, 1377] (by decide +kernel) (by decide +kernel)
set_option maxRecDepth 20000 in
theorem gL_law_X9_parts : GoodIn wsL_law (wsV RL 106 RX9 yX9_parts wsX9_parts) := goodIn_app (goodIn_of _ (by decide +kernel)) ggL_law_X9_parts
set_option maxRecDepth 20000 in
theorem ggL_law_X8_free : GoodIn wsL_law wsX8_free := goodIn_r _ [838, 16, 285, 286, 287, 157, 158, 159, 2, 160, 31, 740, 741, 742, 743, 29, 744, 745, 746, 28, 747, 748, 749, 89, 90, 750, 751, 752, 44, 753, 66, 754, 310, 311, 312, 61, 68, 59, 839, 840, 841, 842, 1329, 1330, 1331, 1332, 1333, 1334, 1335, 1336, 1337, 1338, 1339, 1340, 1378, 1379, 1380, 1381, 1382, 1383, 1384, 1385, 1397, 1398, 1399, 1400, 1401, 1402, 1391, 1392, 1393] (by decide +kernel) (by decide +kernel)
set_option maxRecDepth 20000 in
theorem gL_law_X8_free : GoodIn wsL_law (wsV RL 107 RX8 yX8_free wsX8_free) := goodIn_app (goodIn_of _ (by decide +kernel)) ggL_law_X8_free
set_option maxRecDepth 20000 in
theorem ggL_law_X9_free : GoodIn wsL_law wsX9_free := goodIn_r _ [846, 324, 503, 504, 505, 5, 506, 330, 331, 332, 333, 131, 173, 174, 175, 176, 177, 178, 179, 130, 338, 339, 340, 779, 780, 781, 782, 357, 358, 359, 360, 349, 350, 351, 352, 1341, 1342, 1343, 1344, 1345, 1346, 1347, 1348, 1349, 1350, 1351, 1352, 1353, 1354, 1355, 1356, 1357, 1358, 1359, 1360, 1361, 1362, 1363, 1364, 1365, 1366, 1367, 1368, 1369, 1370, 1371, 1372, 1373, 1374, 1375, 1376, 1377] (by decide +kernel) (by decide +kernel)
set_option maxRecDepth 20000 in
theorem gL_law_X9_free : GoodIn wsL_law (wsV RL 110 RX9 yX9_free wsX9_free) := goodIn_app (goodIn_of _ (by decide +kernel)) ggL_law_X9_free
set_option maxRecDepth 20000 in
theorem ggL_law_X8_comes : GoodIn wsL_law wsX8_comes := goodIn_r _ [850, 21, 249, 16, 285, 395, 287, 268, 269, 270, 2, 271, 154, 155, 156, 194, 195, 196, 37, 197, 95, 190, 191, 192, 193, 157, 158, 159, 160, 31, 288, 289, 290, 102, 291, 292, 293, 294, 295, 113, 114, 296, 297, 298, 299, 44, 300, 69, 60, 301, 302, 303, 304, 61, 305, 306, 307, 308, 115, 309, 310, 311, 312, 68, 59, 1329, 1330, 1331, 1332, 1333, 1334, 1335, 1336, 1337, 1338, 1339, 1340, 1394, 1395, 1396, 1378, 1379, 1380, 1381, 1382, 1383, 1384, 1385, 1397, 1398, 1399, 1400, 1401, 1402, 1406, 1407, 1408] (by decide +kernel) (by decide +kernel)
set_option maxRecDepth 20000 in
theorem gL_law_X8_comes : GoodIn wsL_law (wsV RL 111 RX8 yX8_comes wsX8_comes) := goodIn_app (goodIn_of _ (by decide +kernel)) ggL_law_X8_comes
set_option maxRecDepth 20000 in
theorem ggL_law_X9_comes : GoodIn wsL_law wsX9_comes := goodIn_r _ [854, 324, 855, 856, 857, 5, 858, 170, 120, 173, 174, 175, 176, 177, 178, 179, 130, 326, 327, 328, 329, 131, 325, 330, 331, 332, 333, 341, 342, 343, 344, 126, 127, 128, 345, 346, 347, 348, 338, 339, 340, 349, 350, 351, 352, 353, 354, 355, 356, 357, 358, 359, 360, 361, 362, 363, 364, 1341, 1342, 1343, 1344, 1345, 1346, 1347, 1348, 1349, 1350, 1351, 1352, 1353, 1354, 1355, 1356, 1357, 1358, 1359, 1360, 1361, 1362, 1363, 1364, 1365, 1366, 1367, 1368, 1369, 1370, 1371, 1372, 1373, 1374, 1375, 1376, 1377] (by decide +kernel) (by decide +kernel)
set_option maxRecDepth 20000 in
theorem gL_law_X9_comes : GoodIn wsL_law (wsV RL 114 RX9 yX9_comes wsX9_comes) := goodIn_app (goodIn_of _ (by decide +kernel)) ggL_law_X9_comes
set_option maxRecDepth 20000 in
theorem ggL_law_X8_wrong : GoodIn wsL_law wsX8_wrong := goodIn_r _ [862, 16, 863, 864, 865, 15, 866, 47, 867, 868, 869, 870, 280, 48, 871, 277, 278, 279, 45, 54, 46, 872, 764, 765, 766, 52, 481, 398, 399, 400, 401, 402, 403, 873, 450, 451, 452, 874, 875, 876, 877, 49, 878, 800, 801, 44, 802, 803, 804, 805, 806, 807, 808, 809, 810, 754, 310, 311, 312, 61, 68, 59, 1329, 1330, 1331, 1332, 1333, 1334, 1335, 1336, 1337, 1338, 1339, 1340, 1378, 1379, 1380, 1381, 1382, 1383, 1384, 1385, 1397, 1398, 1399, 1400, 1401, 1402] (by decide +kernel) (by decide +kernel)
set_option maxRecDepth 20000 in
theorem gL_law_X8_wrong : GoodIn wsL_law (wsV RL 115 RX8 yX8_wrong wsX8_wrong) := goodIn_app (goodIn_of _ (by decide +kernel)) ggL_law_X8_wrong
set_option maxRecDepth 20000 in
theorem ggL_law_X9_wrong : GoodIn wsL_law wsX9_wrong := goodIn_r _ [882, 883, 884, 885, 886, 5, 887, 389, 132, 324, 134, 325, 390, 461, 462, 463, 464, 815, 816, 817, 818, 330, 331, 332, 333, 131, 338, 339, 340, 819, 820, 821, 822, 357, 358, 359, 360, 349, 350, 351, 352, 408, 409, 410, 320, 321, 322, 323, 326, 327, 328, 329, 783, 784, 785, 786, 1341, 1342, 1343, 1344, 1345, 1346, 1347, 1348, 1349, 1350, 1351, 1352, 1353, 1354, 1355, 1356, 1357, 1358, 1359, 1360, 1361, 1362, 1363, 1364, 1365, 1366, 1367, 1368, 1369, 1370, 1371, 1372, 1373, 1374, 1375, 1376, 1377] (by decide +kernel) (by decide +kernel)
set_option maxRecDepth 20000 in
theorem gL_law_X9_wrong : GoodIn wsL_law (wsV RL 119 RX9 yX9_wrong wsX9_wrong) := goodIn_app (goodIn_of _ (by decide +kernel)) ggL_law_X9_wrong
set_option maxRecDepth 20000 in
theorem ggL_law_X8_loose : GoodIn wsL_law wsX8_loose := goodIn_r _ [891, 16, 739, 441, 442, 443, 2, 444, 445, 446, 447, 448, 427, 449, 450, 451, 15, 452, 48, 157, 158, 159, 160, 31, 892, 893, 894, 895, 287, 21, 249, 285, 440, 763, 764, 765, 766, 47, 52, 190, 191, 192, 37, 193, 95, 288, 289, 290, 102, 291, 292, 293, 294, 295, 113, 114, 296, 297, 298, 299, 44, 300, 69, 60, 301, 302, 303, 304, 61, 305, 306, 307, 308, 115, 309, 310, 311, 312, 68, 59, 1329, 1330, 1331, 1332, 1333, 1334, 1335, 1336, 1337, 1338, 1339, 1340, 1378, 1379, 1380, 1381, 1382, 1383, 1384, 1385, 1394, 1395, 1396, 1406, 1407, 1408, 1397, 1398, 1399, 1400, 1401, 1402] (by decide +kernel) (by decide +kernel)
set_option maxRecDepth 20000 in
theorem gL_law_X8_loose : GoodIn wsL_law (wsV RL 120 RX8 yX8_loose wsX8_loose) := goodIn_app (goodIn_of _ (by decide +kernel)) ggL_law_X8_loose
set_option maxRecDepth 20000 in
theorem ggL_law_X9_loose : GoodIn wsL_law wsX9_loose := goodIn_r _ [899, 390, 457, 458, 459, 5, 460, 389, 173, 174, 175, 176, 177, 178, 179, 130, 461, 462, 463, 464, 900, 901, 902, 903, 324, 132, 120, 341, 342, 343, 344, 126, 127, 128, 345, 346, 347, 348, 330, 331, 332, 333, 131, 338, 339, 340, 349, 350, 351, 352, 353, 354, 355, 356, 357, 358, 359, 360, 361, 362, 363, 364, 1341, 1342, 1343, 1344, 1345, 1346, 1347, 1348, 1349, 1350, 1351, 1352, 1353, 1354, 1355, 1356, 1357, 1358, 1359, 1360, 1361, 1362, 1363, 1364, 1365, 1366, 1367, 1368, 1369, 1370, 1371, 1372, 1373, 1374, 1375, 1376, 1377] (by decide +kernel) (by decide +kernel)
set_option maxRecDepth 20000 in
theorem gL_law_X9_loose : GoodIn wsL_law (wsV RL 123 RX9 yX9_loose wsX9_loose) := goodIn_app (goodIn_of _ (by decide +kernel)) ggL_law_X9_loose
set_option maxRecDepth 20000 in
theorem ggL_law_X8_bars : GoodIn wsL_law wsX8_bars := goodIn_r _ [907, 16, 427, 21, 249, 285, 440, 445, 446, 447, 2, 448, 268, 269, 270, 271, 154, 155, 156, 194, 195, 196, 37, 197, 95, 190, 191, 192, 193, 441, 442, 443, 444, 449, 450, 451, 15, 452, 48, 157, 158, 159, 160, 31, 288, 289, 290, 102, 291, 292, 293, 294, 295, 113, 114, 296, 297, 298, 299, 44, 300, 69, 60, 301, 302, 303, 304, 61, 305, 306, 307, 308, 115, 309, 310, 311, 312, 68, 59, 1329, 1330, 1331, 1332, 1333, 1334, 1335, 1336, 1337, 1338, 1339, 1340, 1378, 1379, 1380, 1381, 1382, 1383, 1384, 1385, 1394, 1395, 1396, 1406, 1407, 1408, 1397, 1398, 1399, 1400, 1401, 1402] (by decide +kernel) (by decide +kernel)
set_option maxRecDepth 20000 in
theorem gL_law_X8_bars : GoodIn wsL_law (wsV RL 124 RX8 yX8_bars wsX8_bars) := goodIn_app (goodIn_of _ (by decide +kernel)) ggL_law_X8_bars
set_option maxRecDepth 20000 in
theorem ggL_law_X9_bars : GoodIn wsL_law wsX9_bars := goodIn_r _ [911, 170, 389, 132, 173, 174, 5, 175, 457, 458, 459, 460, 176, 177, 178, 179, 130, 855, 856, 857, 858, 120, 461, 462, 463, 464, 390, 341, 342, 343, 344, 126, 127, 128, 345, 346, 347, 348, 330, 331, 332, 333, 131, 338, 339, 340, 349, 350, 351, 352, 353, 354, 355, 356, 357, 358, 359, 360, 361, 362, 363, 364, 1341, 1342, 1343, 1344, 1345, 1346, 1347, 1348, 1349, 1350, 1351, 1352, 1353, 1354, 1355, 1356, 1357, 1358, 1359, 1360, 1361, 1362, 1363, 1364, 1365, 1366, 1367, 1368, 1369, 1370, 1371, 1372, 1373, 1374, 1375, 1376, 1377] (by decide +kernel) (by decide +kernel)
set_option maxRecDepth 20000 in
theorem gL_law_X9_bars : GoodIn wsL_law (wsV RL 127 RX9 yX9_bars wsX9_bars) := goodIn_app (goodIn_of _ (by decide +kernel)) ggL_law_X9_bars
set_option maxRecDepth 20000 in
theorem ggL_law_X8_order : GoodIn wsL_law wsX8_order := goodIn_r _ [915, 34, 32, 33, 157, 158, 159, 2, 160, 31, 916, 917, 918, 919, 16, 739, 427, 35, 920, 921, 922, 923, 892, 893, 894, 895, 287, 21, 249, 285, 440, 763, 764, 765, 15, 766, 47, 52, 190, 191, 192, 37, 193, 95, 288, 289, 290, 102, 291, 292, 293, 294, 295, 113, 114, 296, 297, 298, 299, 44, 300, 69, 60, 301, 302, 303, 304, 61, 305, 306, 307, 308, 115, 309, 310, 311, 312, 68, 59, 1329, 1330, 1331, 1332, 1333, 1334, 1335, 1336, 1337, 1338, 1339, 1340, 1378, 1379, 1380, 1381, 1382, 1383, 1384, 1385, 1394, 1395, 1396, 1406, 1407, 1408, 1397, 1398, 1399, 1400, 1401, 1402] (by decide +kernel) (by decide +kernel)
set_option maxRecDepth 20000 in
theorem gL_law_X8_order : GoodIn wsL_law (wsV RL 128 RX8 yX8_order wsX8_order) := goodIn_app (goodIn_of _ (by decide +kernel)) ggL_law_X8_order
set_option maxRecDepth 20000 in
theorem ggL_law_X9_order : GoodIn wsL_law wsX9_order := goodIn_r _ [927, 928, 137, 138, 173, 174, 5, 175, 176, 177, 178, 179, 130, 929, 930, 931, 932, 390, 389, 900, 901, 902, 903, 324, 132, 120, 341, 342, 343, 344, 126, 127, 128, 345, 346, 347, 348, 330, 331, 332, 333, 131, 338, 339, 340, 349, 350, 351, 352, 353, 354, 355, 356, 357, 358, 359, 360, 361, 362, 363, 364, 1341, 1342, 1343, 1344, 1345, 1346, 1347, 1348, 1349, 1350, 1351, 1352, 1353, 1354, 1355, 1356, 1357, 1358, 1359, 1360, 1361, 1362, 1363, 1364, 1365, 1366, 1367, 1368, 1369, 1370, 1371, 1372, 1373, 1374, 1375, 1376, 1377] (by decide +kernel) (by decide +kernel)
set_option maxRecDepth 20000 in
theorem gL_law_X9_order : GoodIn wsL_law (wsV RL 131 RX9 yX9_order wsX9_order) := goodIn_app (goodIn_of _ (by decide +kernel)) ggL_law_X9_order
set_option maxRecDepth 20000 in
theorem ggL_law_X8_ring : GoodIn wsL_law wsX8_ring := goodIn_r _ [936, 35, 916, 917, 918, 2, 919, 16, 739, 34, 32, 33, 427, 920, 921, 922, 923, 892, 893, 894, 895, 287, 21, 249, 285, 440, 763, 764, 765, 15, 766, 47, 52, 190, 191, 192, 37, 193, 95, 288, 289, 290, 102, 291, 292, 293, 294, 295, 113, 114, 296, 297, 298, 299, 44, 300, 69, 60, 301, 302, 303, 304, 61, 305, 306, 307, 308, 115, 309, 310, 311, 312, 68, 59, 1329, 1330, 1331, 1332, 1333, 1334, 1335, 1336, 1337, 1338, 1339, 1340, 1378, 1379, 1380, 1381, 1382, 1383, 1384, 1385, 1394, 1395, 1396, 1406, 1407, 1408, 1397, 1398, 1399, 1400, 1401, 1402] (by decide +kernel) (by decide +kernel)
set_option maxRecDepth 20000 in
theorem gL_law_X8_ring : GoodIn wsL_law (wsV RL 132 RX8 yX8_ring wsX8_ring) := goodIn_app (goodIn_of _ (by decide +kernel)) ggL_law_X8_ring
set_option maxRecDepth 20000 in
theorem ggL_law_X9_ring : GoodIn wsL_law wsX9_ring := goodIn_r _ [940, 929, 930, 931, 5, 932, 390, 928, 389, 137, 138, 900, 901, 902, 903, 324, 132, 120, 341, 342, 343, 344, 126, 127, 128, 345, 346, 347, 348, 330, 331, 332, 333, 131, 338, 339, 340, 349, 350, 351, 352, 353, 354, 355, 356, 357, 358, 359, 360, 361, 362, 363, 364, 1341, 1342, 1343, 1344, 1345, 1346, 1347, 1348, 1349, 1350, 1351, 1352, 1353, 1354, 1355, 1356, 1357, 1358, 1359, 1360, 1361, 1362, 1363, 1364, 1365, 1366, 1367, 1368, 1369, 1370, 1371, 1372, 1373, 1374, 1375, 1376, 1377] (by decide +kernel) (by decide +kernel)
set_option maxRecDepth 20000 in
theorem gL_law_X9_ring : GoodIn wsL_law (wsV RL 135 RX9 yX9_ring wsX9_ring) := goodIn_app (goodIn_of _ (by decide +kernel)) ggL_law_X9_ring
set_option maxRecDepth 20000 in
theorem ggL_law_X8_serves : GoodIn wsL_law wsX8_serves := goodIn_r _ [944, 945, 946, 2, 947, 157, 158, 159, 160, 31, 740, 741, 742, 743, 29, 16, 285, 287, 744, 745, 746, 28, 747, 748, 749, 89, 90, 750, 751, 752, 44, 753, 66, 754, 310, 311, 312, 61, 68, 59, 948, 949, 950, 951, 759, 760, 761, 762, 1329, 1330, 1331, 1332, 1333, 1334, 1335, 1336, 1337, 1338, 1339, 1340, 1378, 1379, 1380, 1381, 1382, 1383, 1384, 1385, 1397, 1398, 1399, 1400, 1401, 1402, 1391, 1392, 1393] (by decide +kernel) (by decide +kernel)
set_option maxRecDepth 20000 in
theorem gL_law_X8_serves : GoodIn wsL_law (wsV RL 136 RX8 yX8_serves wsX8_serves) := goodIn_app (goodIn_of _ (by decide +kernel)) ggL_law_X8_serves
set_option maxRecDepth 20000 in
theorem ggL_law_X9_serves : GoodIn wsL_law wsX9_serves := goodIn_r _ [955, 956, 324, 173, 174, 5, 175, 176, 177, 178, 179, 130, 775, 776, 777, 778, 139, 330, 331, 332, 333, 131, 338, 339, 340, 779, 780, 781, 782, 357, 358, 359, 360, 349, 350, 351, 352, 957, 958, 959, 960, 1341, 1342, 1343, 1344, 1345, 1346, 1347, 1348, 1349, 1350, 1351, 1352, 1353, 1354, 1355, 1356, 1357, 1358, 1359, 1360, 1361, 1362, 1363, 1364, 1365, 1366, 1367, 1368, 1369, 1370, 1371, 1372, 1373, 1374, 1375, 1376, 1377] (by decide +kernel) (by decide +kernel)
set_option maxRecDepth 20000 in
theorem gL_law_X9_serves : GoodIn wsL_law (wsV RL 139 RX9 yX9_serves wsX9_serves) := goodIn_app (goodIn_of _ (by decide +kernel)) ggL_law_X9_serves
set_option maxRecDepth 20000 in
theorem ggL_law_X8_fewest : GoodIn wsL_law wsX8_fewest := goodIn_r _ [964, 740, 741, 742, 2, 743, 29, 16, 285, 287, 744, 745, 746, 28, 747, 748, 749, 89, 90, 750, 751, 752, 44, 753, 66, 754, 310, 311, 312, 61, 68, 59, 965, 966, 967, 968, 969, 970, 971, 972, 973, 974, 975, 976, 949, 950, 951, 759, 760, 761, 762, 157, 158, 159, 160, 31, 1329, 1330, 1331, 1332, 1333, 1334, 1335, 1336, 1337, 1338, 1339, 1340, 1378, 1379, 1380, 1381, 1382, 1383, 1384, 1385, 1397, 1398, 1399, 1400, 1401, 1402, 1391, 1392, 1393] (by decide +kernel) (by decide +kernel)
set_option maxRecDepth 20000 in
theorem gL_law_X8_fewest : GoodIn wsL_law (wsV RL 140 RX8 yX8_fewest wsX8_fewest) := goodIn_app (goodIn_of _ (by decide +kernel)) ggL_law_X8_fewest
set_option maxRecDepth 20000 in
theorem ggL_law_X9_fewest : GoodIn wsL_law wsX9_fewest := goodIn_r _ [980, 324, 775, 776, 777, 5, 778, 139, 330, 331, 332, 333, 131, 338, 339, 340, 779, 780, 781, 782, 357, 358, 359, 360, 349, 350, 351, 352, 981, 982, 983, 984, 957, 958, 959, 960, 408, 409, 410, 176, 177, 178, 179, 130, 1341, 1342, 1343, 1344, 1345, 1346, 1347, 1348, 1349, 1350, 1351, 1352, 1353, 1354, 1355, 1356, 1357, 1358, 1359, 1360, 1361, 1362, 1363, 1364, 1365, 1366, 1367, 1368, 1369, 1370, 1371, 1372, 1373, 1374, 1375, 1376, 1377] (by decide +kernel) (by decide +kernel)
set_option maxRecDepth 20000 in
theorem gL_law_X9_fewest : GoodIn wsL_law (wsV RL 143 RX9 yX9_fewest wsX9_fewest) := goodIn_app (goodIn_of _ (by decide +kernel)) ggL_law_X9_fewest
set_option maxRecDepth 20000 in
theorem ggL_law_X8_parted : GoodIn wsL_law wsX8_parted := goodIn_r _ [988, 29, 16, 285, 945, 946, 2, 947, 157, 158, 159, 160, 31, 740, 741, 742, 743, 287, 744, 745, 746, 28, 747, 748, 749, 89, 90, 750, 751, 752, 44, 753, 66, 754, 310, 311, 312, 61, 68, 59, 948, 949, 950, 951, 759, 760, 761, 762, 989, 990, 991, 992, 91, 993, 994, 995, 996, 997, 828, 829, 830, 803, 804, 805, 806, 807, 808, 809, 810, 998, 999, 1000, 1001, 1002, 1003, 1004, 478, 479, 15, 480, 53, 481, 398, 399, 400, 401, 402, 403, 1329, 1330, 1331, 1332, 1333, 1334, 1335, 1336, 1337, 1338, 1339, 1340, 1378, 1379, 1380, 1381, 1382, 1383, 1384, 1385, 1397, 1398, 1399, 1400, 1401, 1402, 1391, 1392, 1393] (by decide +kernel) (by decide +kernel)
set_option maxRecDepth 20000 in
theorem gL_law_X8_parted : GoodIn wsL_law (wsV RL 144 RX8 yX8_parted wsX8_parted) := goodIn_app (goodIn_of _ (by decide +kernel)) ggL_law_X8_parted
set_option maxRecDepth 20000 in
theorem ggL_law_X9_parted : GoodIn wsL_law wsX9_parted := goodIn_r _ [1008, 956, 324, 173, 174, 5, 175, 176, 177, 178, 179, 130, 775, 776, 777, 778, 139, 330, 331, 332, 333, 131, 338, 339, 340, 779, 780, 781, 782, 357, 358, 359, 360, 349, 350, 351, 352, 957, 958, 959, 960, 1009, 1010, 1011, 1012, 140, 1013, 1014, 1015, 1016, 141, 325, 320, 321, 322, 323, 326, 327, 328, 329, 819, 820, 821, 822, 1017, 1018, 1019, 1020, 133, 1341, 1342, 1343, 1344, 1345, 1346, 1347, 1348, 1349, 1350, 1351, 1352, 1353, 1354, 1355, 1356, 1357, 1358, 1359, 1360, 1361, 1362, 1363, 1364, 1365, 1366, 1367, 1368, 1369, 1370, 1371, 1372, 1373, 1374, 1375, 1376, 1377] (by decide +kernel) (by decide +kernel)
set_option maxRecDepth 20000 in
theorem gL_law_X9_parted : GoodIn wsL_law (wsV RL 147 RX9 yX9_parted wsX9_parted) := goodIn_app (goodIn_of _ (by decide +kernel)) ggL_law_X9_parted
set_option maxRecDepth 20000 in
theorem ggL_law_X8_hidden : GoodIn wsL_law wsX8_hidden := goodIn_r _ [1024, 16, 740, 741, 742, 2, 743, 29, 285, 287, 744, 745, 746, 28, 747, 748, 749, 89, 90, 750, 751, 752, 44, 753, 66, 754, 310, 311, 312, 61, 68, 59, 1025, 1026, 1027, 1028, 976, 949, 950, 951, 759, 760, 761, 762, 1029, 990, 991, 992, 91, 1030, 999, 1000, 1001, 1002, 1003, 1004, 478, 479, 15, 480, 53, 481, 398, 399, 400, 401, 402, 403, 157, 158, 159, 160, 31, 1329, 1330, 1331, 1332, 1333, 1334, 1335, 1336, 1337, 1338, 1339, 1340, 1378, 1379, 1380, 1381, 1382, 1383, 1384, 1385, 1397, 1398, 1399, 1400, 1401, 1402, 1391, 1392, 1393] (by decide +kernel) (by decide +kernel)
set_option maxRecDepth 20000 in
theorem gL_law_X8_hidden : GoodIn wsL_law (wsV RL 148 RX8 yX8_hidden wsX8_hidden) := goodIn_app (goodIn_of _ (by decide +kernel)) ggL_law_X8_hidden
set_option maxRecDepth 20000 in
theorem ggL_law_X9_hidden : GoodIn wsL_law wsX9_hidden := goodIn_r _ [1034, 324, 775, 776, 777, 5, 778, 139, 330, 331, 332, 333, 131, 338, 339, 340, 779, 780, 781, 782, 357, 358, 359, 360, 349, 350, 351, 352, 957, 958, 959, 960, 1009, 1010, 1011, 1012, 140, 1017, 1018, 1019, 1020, 133, 176, 177, 178, 179, 130, 1341, 1342, 1343, 1344, 1345, 1346, 1347, 1348, 1349, 1350, 1351, 1352, 1353, 1354, 1355, 1356, 1357, 1358, 1359, 1360, 1361, 1362, 1363, 1364, 1365, 1366, 1367, 1368, 1369, 1370, 1371, 1372, 1373, 1374, 1375, 1376, 1377] (by decide +kernel) (by decide +kernel)
set_option maxRecDepth 20000 in
theorem gL_law_X9_hidden : GoodIn wsL_law (wsV RL 151 RX9 yX9_hidden wsX9_hidden) := goodIn_app (goodIn_of _ (by decide +kernel)) ggL_law_X9_hidden
set_option maxRecDepth 20000 in
theorem ggL_law_X8_make : GoodIn wsL_law wsX8_make := goodIn_r _ [1038, 29, 16, 285, 427, 945, 946, 2, 947, 157, 158, 159, 160, 31, 740, 741, 742, 743, 287, 744, 745, 746, 28, 747, 748, 749, 89, 90, 750, 751, 752, 44, 753, 66, 754, 310, 311, 312, 61, 68, 59, 948, 949, 950, 951, 759, 760, 761, 762, 989, 990, 991, 992, 91, 993, 994, 995, 996, 997, 828, 829, 830, 803, 804, 805, 806, 807, 808, 809, 810, 1039, 1040, 1041, 1042, 1002, 1043, 376, 377, 15, 378, 47, 48, 1044, 1045, 1046, 1047, 1048, 1049, 429, 430, 431, 52, 1329, 1330, 1331, 1332, 1333, 1334, 1335, 1336, 1337, 1338, 1339, 1340, 1378, 1379, 1380, 1381, 1382, 1383, 1384, 1385, 1397, 1398, 1399, 1400, 1401, 1402, 1391, 1392, 1393] (by decide +kernel) (by decide +kernel)
set_option maxRecDepth 20000 in
theorem gL_law_X8_make : GoodIn wsL_law (wsV RL 152 RX8 yX8_make wsX8_make) := goodIn_app (goodIn_of _ (by decide +kernel)) ggL_law_X8_make
set_option maxRecDepth 20000 in
theorem ggL_law_X9_make : GoodIn wsL_law wsX9_make := goodIn_r _ [1053, 956, 324, 132, 141, 389, 390, 173, 174, 5, 175, 176, 177, 178, 179, 130, 775, 776, 777, 778, 139, 330, 331, 332, 333, 131, 338, 339, 340, 779, 780, 781, 782, 357, 358, 359, 360, 349, 350, 351, 352, 957, 958, 959, 960, 1009, 1010, 1011, 1012, 140, 1013, 1014, 1015, 1016, 325, 320, 321, 322, 323, 326, 327, 328, 329, 819, 820, 821, 822, 1341, 1342, 1343, 1344, 1345, 1346, 1347, 1348, 1349, 1350, 1351, 1352, 1353, 1354, 1355, 1356, 1357, 1358, 1359, 1360, 1361, 1362, 1363, 1364, 1365, 1366, 1367, 1368, 1369, 1370, 1371, 1372, 1373, 1374, 1375, 1376, 1377] (by decide +kernel) (by decide +kernel)
set_option maxRecDepth 20000 in
theorem gL_law_X9_make : GoodIn wsL_law (wsV RL 155 RX9 yX9_make wsX9_make) := goodIn_app (goodIn_of _ (by decide +kernel)) ggL_law_X9_make
set_option maxRecDepth 20000 in
theorem ggL_law_X8_halves : GoodIn wsL_law wsX8_halves := goodIn_r _ [1057, 16, 285, 369, 29, 1058, 1059, 2, 1060, 157, 158, 159, 160, 31, 740, 741, 742, 743, 287, 744, 745, 746, 28, 747, 748, 749, 89, 90, 750, 751, 752, 44, 753, 66, 754, 310, 311, 312, 61, 68, 59, 1061, 648, 649, 650, 74, 75, 76, 77, 60, 1062, 1063, 1064, 1065, 1329, 1330, 1331, 1332, 1333, 1334, 1335, 1336, 1337, 1338, 1339, 1340, 1378, 1379, 1380, 1381, 1382, 1383, 1384, 1385, 1397, 1398, 1399, 1400, 1401, 1402, 1391, 1392, 1393] (by decide +kernel) (by decide +kernel)
set_option maxRecDepth 20000 in
theorem gL_law_X8_halves : GoodIn wsL_law (wsV RL 156 RX8 yX8_halves wsX8_halves) := goodIn_app (goodIn_of _ (by decide +kernel)) ggL_law_X8_halves
set_option maxRecDepth 20000 in
theorem ggL_law_X9_halves : GoodIn wsL_law wsX9_halves := goodIn_r _ [1069, 384, 324, 131, 139, 173, 174, 5, 175, 176, 177, 178, 179, 130, 775, 776, 777, 778, 330, 331, 332, 333, 338, 339, 340, 779, 780, 781, 782, 357, 358, 359, 360, 349, 350, 351, 352, 1341, 1342, 1343, 1344, 1345, 1346, 1347, 1348, 1349, 1350, 1351, 1352, 1353, 1354, 1355, 1356, 1357, 1358, 1359, 1360, 1361, 1362, 1363, 1364, 1365, 1366, 1367, 1368, 1369, 1370, 1371, 1372, 1373, 1374, 1375, 1376, 1377] (by decide +kernel) (by decide +kernel)
set_option maxRecDepth 20000 in
theorem gL_law_X9_halves : GoodIn wsL_law (wsV RL 159 RX9 yX9_halves wsX9_halves) := goodIn_app (goodIn_of _ (by decide +kernel)) ggL_law_X9_halves
set_option maxRecDepth 20000 in
theorem ggL_law_X8_line : GoodIn wsL_law wsX8_line := goodIn_r _ [1073, 16, 285, 287, 396, 1058, 1059, 2, 1060, 157, 158, 159, 160, 31, 1074, 751, 752, 44, 753, 66, 754, 310, 311, 312, 61, 68, 59, 1329, 1330, 1331, 1332, 1333, 1334, 1335, 1336, 1337, 1338, 1339, 1340, 1378, 1379, 1380, 1381, 1382, 1383, 1384, 1385, 1397, 1398, 1399, 1400, 1401, 1402] (by decide +kernel) (by decide +kernel)
set_option maxRecDepth 20000 in
theorem gL_law_X8_line : GoodIn wsL_law (wsV RL 160 RX8 yX8_line wsX8_line) := goodIn_app (goodIn_of _ (by decide +kernel)) ggL_law_X8_line
set_option maxRecDepth 20000 in
theorem ggL_law_X9_line : GoodIn wsL_law wsX9_line := goodIn_r _ [1078, 384, 324, 173, 174, 5, 175, 176, 177, 178, 179, 130, 330, 331, 332, 333, 131, 357, 358, 359, 360, 349, 350, 351, 352, 338, 339, 340, 1341, 1342, 1343, 1344, 1345, 1346, 1347, 1348, 1349, 1350, 1351, 1352, 1353, 1354, 1355, 1356, 1357, 1358, 1359, 1360, 1361, 1362, 1363, 1364, 1365, 1366, 1367, 1368, 1369, 1370, 1371, 1372, 1373, 1374, 1375, 1376, 1377] (by decide +kernel) (by decide +kernel)
set_option maxRecDepth 20000 in
theorem gL_law_X9_line : GoodIn wsL_law (wsV RL 163 RX9 yX9_line wsX9_line) := goodIn_app (goodIn_of _ (by decide +kernel)) ggL_law_X9_line
set_option maxRecDepth 20000 in
theorem ggL_law_X8_cut : GoodIn wsL_law wsX8_cut := goodIn_r _ [1082, 16, 285, 369, 1058, 1059, 2, 1060, 157, 158, 159, 160, 31, 1083, 1084, 1085, 1086, 287, 396, 1061, 648, 649, 44, 650, 74, 75, 76, 77, 60, 1087, 1088, 1089, 1090, 29, 744, 745, 746, 28, 747, 748, 749, 89, 90, 750, 751, 752, 753, 66, 754, 310, 311, 312, 61, 68, 59, 965, 966, 967, 968, 969, 970, 971, 972, 973, 974, 975, 976, 949, 950, 951, 759, 760, 761, 762, 1091, 1329, 1330, 1331, 1332, 1333, 1334, 1335, 1336, 1337, 1338, 1339, 1340, 1378, 1379, 1380, 1381, 1382, 1383, 1384, 1385, 1397, 1398, 1399, 1400, 1401, 1402, 1391, 1392, 1393] (by decide +kernel) (by decide +kernel)
set_option maxRecDepth 20000 in
theorem gL_law_X8_cut : GoodIn wsL_law (wsV RL 164 RX8 yX8_cut wsX8_cut) := goodIn_app (goodIn_of _ (by decide +kernel)) ggL_law_X8_cut
set_option maxRecDepth 20000 in
theorem ggL_law_X9_cut : GoodIn wsL_law wsX9_cut := goodIn_r _ [1095, 384, 131, 173, 174, 5, 175, 1096, 1097, 1098, 1099, 324, 325, 330, 331, 332, 333, 338, 339, 340, 349, 350, 351, 352, 1100, 1101, 1102, 1103, 775, 776, 777, 778, 139, 779, 780, 781, 782, 357, 358, 359, 360, 981, 982, 983, 984, 957, 958, 959, 960, 408, 409, 410, 176, 177, 178, 179, 130, 1341, 1342, 1343, 1344, 1345, 1346, 1347, 1348, 1349, 1350, 1351, 1352, 1353, 1354, 1355, 1356, 1357, 1358, 1359, 1360, 1361, 1362, 1363, 1364, 1365, 1366, 1367, 1368, 1369, 1370, 1371, 1372, 1373, 1374, 1375, 1376, 1377] (by decide +kernel) (by decide +kernel)
set_option maxRecDepth 20000 in
theorem gL_law_X9_cut : GoodIn wsL_law (wsV RL 167 RX9 yX9_cut wsX9_cut) := goodIn_app (goodIn_of _ (by decide +kernel)) ggL_law_X9_cut
set_option maxRecDepth 20000 in
theorem ggL_law_X8_best : GoodIn wsL_law wsX8_best := goodIn_r _ [1107, 16, 285, 369, 1083, 1084, 1085, 2, 1086, 287, 396, 1061, 648, 649, 44, 650, 74, 75, 76, 77, 60, 1087, 1088, 1089, 1090, 29, 744, 745, 746, 28, 747, 748, 749, 89, 90, 750, 751, 752, 753, 66, 754, 310, 311, 312, 61, 68, 59, 965, 966, 967, 968, 969, 970, 971, 972, 973, 974, 975, 976, 949, 950, 951, 759, 760, 761, 762, 1091, 1329, 1330, 1331, 1332, 1333, 1334, 1335, 1336, 1337, 1338, 1339, 1340, 1378, 1379, 1380, 1381, 1382, 1383, 1384, 1385, 1397, 1398, 1399, 1400, 1401, 1402, 1391, 1392, 1393] (by decide +kernel) (by decide +kernel)
set_option maxRecDepth 20000 in
theorem gL_law_X8_best : GoodIn wsL_law (wsV RL 168 RX8 yX8_best wsX8_best) := goodIn_app (goodIn_of _ (by decide +kernel)) ggL_law_X8_best
set_option maxRecDepth 20000 in
theorem ggL_law_X9_best : GoodIn wsL_law wsX9_best := goodIn_r _ [1111, 131, 1096, 1097, 1098, 5, 1099, 324, 325, 330, 331, 332, 333, 338, 339, 340, 349, 350, 351, 352, 1100, 1101, 1102, 1103, 775, 776, 777, 778, 139, 779, 780, 781, 782, 357, 358, 359, 360, 981, 982, 983, 984, 957, 958, 959, 960, 408, 409, 410, 1341, 1342, 1343, 1344, 1345, 1346, 1347, 1348, 1349, 1350, 1351, 1352, 1353, 1354, 1355, 1356, 1357, 1358, 1359, 1360, 1361, 1362, 1363, 1364, 1365, 1366, 1367, 1368, 1369, 1370, 1371, 1372, 1373, 1374, 1375, 1376, 1377] (by decide +kernel) (by decide +kernel)
set_option maxRecDepth 20000 in
theorem gL_law_X9_best : GoodIn wsL_law (wsV RL 171 RX9 yX9_best wsX9_best) := goodIn_app (goodIn_of _ (by decide +kernel)) ggL_law_X9_best
set_option maxRecDepth 20000 in
theorem ggL_law_X8_helps : GoodIn wsL_law wsX8_helps := goodIn_r _ [1115, 21, 249, 268, 269, 270, 2, 271, 154, 155, 156, 194, 195, 196, 37, 197, 95, 190, 191, 192, 193, 157, 158, 159, 160, 31, 740, 741, 742, 743, 29, 16, 285, 287, 744, 745, 746, 28, 747, 748, 749, 89, 90, 750, 751, 752, 44, 753, 66, 754, 310, 311, 312, 61, 68, 59, 755, 756, 757, 758, 759, 760, 761, 762, 281, 282, 283, 284, 286, 288, 289, 290, 102, 291, 292, 293, 294, 295, 113, 114, 296, 297, 298, 299, 300, 69, 60, 301, 302, 303, 304, 305, 306, 307, 308, 115, 309, 1329, 1330, 1331, 1332, 1333, 1334, 1335, 1336, 1337, 1338, 1339, 1340, 1394, 1395, 1396, 1378, 1379, 1380, 1381, 1382, 1383, 1384, 1385, 1397, 1398, 1399, 1400, 1401, 1402, 1391, 1392, 1393, 1406, 1407, 1408] (by decide +kernel) (by decide +kernel)
set_option maxRecDepth 20000 in
theorem gL_law_X8_helps : GoodIn wsL_law (wsV RL 172 RX8 yX8_helps wsX8_helps) := goodIn_app (goodIn_of _ (by decide +kernel)) ggL_law_X8_helps
set_option maxRecDepth 20000 in
theorem ggL_law_X9_helps : GoodIn wsL_law wsX9_helps := goodIn_r _ [1119, 855, 856, 857, 5, 858, 170, 120, 173, 174, 175, 176, 177, 178, 179, 130, 771, 772, 773, 774, 324, 139, 775, 776, 777, 778, 330, 331, 332, 333, 131, 338, 339, 340, 779, 780, 781, 782, 357, 358, 359, 360, 349, 350, 351, 352, 334, 335, 336, 337, 341, 342, 343, 344, 126, 127, 128, 345, 346, 347, 348, 353, 354, 355, 356, 361, 362, 363, 364, 1341, 1342, 1343, 1344, 1345, 1346, 1347, 1348, 1349, 1350, 1351, 1352, 1353, 1354, 1355, 1356, 1357, 1358, 1359, 1360, 1361, 1362, 1363, 1364, 1365, 1366, 1367, 1368, 1369, 1370, 1371, 1372, 1373, 1374, 1375, 1376, 1377] (by decide +kernel) (by decide +kernel)
set_option maxRecDepth 20000 in
theorem gL_law_X9_helps : GoodIn wsL_law (wsV RL 175 RX9 yX9_helps wsX9_helps) := goodIn_app (goodIn_of _ (by decide +kernel)) ggL_law_X9_helps
set_option maxRecDepth 20000 in
theorem ggL_law_X8_slide : GoodIn wsL_law wsX8_slide := goodIn_r _ [1123, 21, 249, 16, 285, 395, 268, 269, 270, 2, 271, 154, 155, 156, 194, 195, 196, 37, 197, 95, 190, 191, 192, 193, 157, 158, 159, 160, 31, 1124, 1125, 1126, 102, 1127, 305, 306, 307, 308, 113, 114, 115, 309, 310, 311, 44, 312, 61, 68, 59, 1329, 1330, 1331, 1332, 1333, 1334, 1335, 1336, 1337, 1338, 1339, 1340, 1394, 1395, 1396, 1378, 1379, 1380, 1381, 1382, 1383, 1384, 1385, 1397, 1398, 1399, 1400, 1401, 1402, 1406, 1407, 1408] (by decide +kernel) (by decide +kernel)
set_option maxRecDepth 20000 in
theorem gL_law_X8_slide : GoodIn wsL_law (wsV RL 176 RX8 yX8_slide wsX8_slide) := goodIn_app (goodIn_of _ (by decide +kernel)) ggL_law_X8_slide
set_option maxRecDepth 20000 in
theorem ggL_law_X9_slide : GoodIn wsL_law wsX9_slide := goodIn_r _ [1131, 170, 500, 126, 127, 128, 173, 174, 5, 175, 176, 177, 178, 179, 130, 855, 856, 857, 858, 120, 326, 327, 328, 329, 131, 325, 330, 331, 332, 333, 361, 362, 363, 364, 338, 339, 340, 357, 358, 359, 360, 349, 350, 351, 352, 1341, 1342, 1343, 1344, 1345, 1346, 1347, 1348, 1349, 1350, 1351, 1352, 1353, 1354, 1355, 1356, 1357, 1358, 1359, 1360, 1361, 1362, 1363, 1364, 1365, 1366, 1367, 1368, 1369, 1370, 1371, 1372, 1373, 1374, 1375, 1376, 1377] (by decide +kernel) (by decide +kernel)
set_option maxRecDepth 20000 in
theorem gL_law_X9_slide : GoodIn wsL_law (wsV RL 180 RX9 yX9_slide wsX9_slide) := goodIn_app (goodIn_of _ (by decide +kernel)) ggL_law_X9_slide
set_option maxRecDepth 20000 in
theorem ggL_law_X8_tunnels : GoodIn wsL_law wsX8_tunnels := goodIn_r _ [1135, 16, 285, 287, 369, 1058, 1059, 2, 1060, 157, 158, 159, 160, 31, 1074, 751, 752, 44, 753, 66, 754, 310, 311, 312, 61, 68, 59, 1136, 75, 76, 77, 60, 397, 398, 399, 400, 401, 402, 403, 1329, 1330, 1331, 1332, 1333, 1334, 1335, 1336, 1337, 1338, 1339, 1340, 1378, 1379, 1380, 1381, 1382, 1383, 1384, 1385, 1397, 1398, 1399, 1400, 1401, 1402] (by decide +kernel) (by decide +kernel)
set_option maxRecDepth 20000 in
theorem gL_law_X8_tunnels : GoodIn wsL_law (wsV RL 181 RX8 yX8_tunnels wsX8_tunnels) := goodIn_app (goodIn_of _ (by decide +kernel)) ggL_law_X8_tunnels
set_option maxRecDepth 20000 in
theorem ggL_law_X9_tunnels : GoodIn wsL_law wsX9_tunnels := goodIn_r _ [1140, 384, 324, 173, 174, 5, 175, 176, 177, 178, 179, 130, 330, 331, 332, 333, 131, 349, 350, 351, 352, 1141, 1142, 1143, 1144, 357, 358, 359, 360, 1341, 1342, 1343, 1344, 1345, 1346, 1347, 1348, 1349, 1350, 1351, 1352, 1353, 1354, 1355, 1356, 1357, 1358, 1359, 1360, 1361, 1362, 1363, 1364, 1365, 1366, 1367, 1368, 1369, 1370, 1371, 1372, 1373, 1374, 1375, 1376, 1377] (by decide +kernel) (by decide +kernel)
set_option maxRecDepth 20000 in
theorem gL_law_X9_tunnels : GoodIn wsL_law (wsV RL 184 RX9 yX9_tunnels wsX9_tunnels) := goodIn_app (goodIn_of _ (by decide +kernel)) ggL_law_X9_tunnels
set_option maxRecDepth 20000 in
theorem ggL_law_X8_needed : GoodIn wsL_law wsX8_needed := goodIn_r _ [1148, 16, 285, 286, 287, 1149, 1150, 1151, 44, 1152, 68, 807, 808, 809, 810, 754, 310, 311, 312, 61, 59, 803, 804, 805, 806, 1329, 1330, 1331, 1332, 1333, 1334, 1335, 1336, 1337, 1338, 1339, 1340, 1378, 1379, 1380, 1381, 1382, 1383, 1384, 1385, 1397, 1398, 1399, 1400, 1401, 1402] (by decide +kernel) (by decide +kernel)
set_option maxRecDepth 20000 in
theorem gL_law_X8_needed : GoodIn wsL_law (wsV RL 185 RX8 yX8_needed wsX8_needed) := goodIn_app (goodIn_of _ (by decide +kernel)) ggL_law_X8_needed
set_option maxRecDepth 20000 in
theorem ggL_law_X9_needed : GoodIn wsL_law wsX9_needed := goodIn_r _ [1156, 324, 325, 815, 816, 817, 5, 818, 330, 331, 332, 333, 131, 338, 339, 340, 819, 820, 821, 822, 357, 358, 359, 360, 349, 350, 351, 352, 1341, 1342, 1343, 1344, 1345, 1346, 1347, 1348, 1349, 1350, 1351, 1352, 1353, 1354, 1355, 1356, 1357, 1358, 1359, 1360, 1361, 1362, 1363, 1364, 1365, 1366, 1367, 1368, 1369, 1370, 1371, 1372, 1373, 1374, 1375, 1376, 1377] (by decide +kernel) (by decide +kernel)
set_option maxRecDepth 20000 in
theorem gL_law_X9_needed : GoodIn wsL_law (wsV RL 189 RX9 yX9_needed wsX9_needed) := goodIn_app (goodIn_of _ (by decide +kernel)) ggL_law_X9_needed
set_option maxRecDepth 20000 in
theorem ggL_law_X8_alike : GoodIn wsL_law wsX8_alike := goodIn_r _ [1160, 16, 285, 287, 1161, 1162, 1163, 44, 1164, 66, 59, 74, 75, 76, 77, 60, 1165, 1166, 1167, 1329, 1330, 1331, 1332, 1333, 1334, 1335, 1336, 1337, 1338, 1339, 1340, 1378, 1379, 1380, 1381, 1382, 1383, 1384, 1385, 1397, 1398, 1399, 1400, 1401, 1402] (by decide +kernel) (by decide +kernel)
set_option maxRecDepth 20000 in
theorem gL_law_X8_alike : GoodIn wsL_law (wsV RL 190 RX8 yX8_alike wsX8_alike) := goodIn_app (goodIn_of _ (by decide +kernel)) ggL_law_X8_alike
set_option maxRecDepth 20000 in
theorem ggL_law_X9_alike : GoodIn wsL_law wsX9_alike := goodIn_r _ [1171, 324, 1172, 1173, 1174, 5, 1175, 330, 331, 332, 333, 131, 338, 339, 340, 1176, 1177, 1178, 1179, 142, 349, 350, 351, 352, 1180, 1181, 1182, 1183, 1341, 1342, 1343, 1344, 1345, 1346, 1347, 1348, 1349, 1350, 1351, 1352, 1353, 1354, 1355, 1356, 1357, 1358, 1359, 1360, 1361, 1362, 1363, 1364, 1365, 1366, 1367, 1368, 1369, 1370, 1371, 1372, 1373, 1374, 1375, 1376, 1377] (by decide +kernel) (by decide +kernel)
set_option maxRecDepth 20000 in
theorem gL_law_X9_alike : GoodIn wsL_law (wsV RL 193 RX9 yX9_alike wsX9_alike) := goodIn_app (goodIn_of _ (by decide +kernel)) ggL_law_X9_alike
set_option maxRecDepth 20000 in
theorem ggL_law_X8_mirror : GoodIn wsL_law wsX8_mirror := goodIn_r _ [1187, 16, 1058, 1059, 2, 1060, 157, 158, 159, 160, 31, 1188, 1189, 1190, 15, 1191, 45, 46, 47, 52, 53, 1192, 1162, 1163, 44, 1164, 66, 59, 74, 75, 76, 77, 60, 1165, 1166, 1167, 1329, 1330, 1331, 1332, 1333, 1334, 1335, 1336, 1337, 1338, 1339, 1340, 1378, 1379, 1380, 1381, 1382, 1383, 1384, 1385, 1397, 1398, 1399, 1400, 1401, 1402] (by decide +kernel) (by decide +kernel)
set_option maxRecDepth 20000 in
theorem gL_law_X8_mirror : GoodIn wsL_law (wsV RL 194 RX8 yX8_mirror wsX8_mirror) := goodIn_app (goodIn_of _ (by decide +kernel)) ggL_law_X8_mirror
set_option maxRecDepth 20000 in
theorem ggL_law_X9_mirror : GoodIn wsL_law wsX9_mirror := goodIn_r _ [1196, 1197, 1198, 1199, 5, 1200, 384, 324, 389, 132, 143, 133, 173, 174, 175, 176, 177, 178, 179, 130, 1172, 1173, 1174, 1175, 330, 331, 332, 333, 131, 338, 339, 340, 1176, 1177, 1178, 1179, 142, 349, 350, 351, 352, 1180, 1181, 1182, 1183, 1341, 1342, 1343, 1344, 1345, 1346, 1347, 1348, 1349, 1350, 1351, 1352, 1353, 1354, 1355, 1356, 1357, 1358, 1359, 1360, 1361, 1362, 1363, 1364, 1365, 1366, 1367, 1368, 1369, 1370, 1371, 1372, 1373, 1374, 1375, 1376, 1377] (by decide +kernel) (by decide +kernel)
set_option maxRecDepth 20000 in
theorem gL_law_X9_mirror : GoodIn wsL_law (wsV RL 197 RX9 yX9_mirror wsX9_mirror) := goodIn_app (goodIn_of _ (by decide +kernel)) ggL_law_X9_mirror
set_option maxRecDepth 20000 in
theorem ggL_law_X8_turn : GoodIn wsL_law wsX8_turn := goodIn_r _ [1204, 16, 1058, 1059, 2, 1060, 157, 158, 159, 160, 31, 1205, 1206, 1207, 15, 1208, 45, 46, 47, 52, 53, 1209, 1210, 1211, 44, 1212, 66, 59, 74, 75, 76, 77, 60, 1165, 1166, 1167, 1329, 1330, 1331, 1332, 1333, 1334, 1335, 1336, 1337, 1338, 1339, 1340, 1378, 1379, 1380, 1381, 1382, 1383, 1384, 1385, 1397, 1398, 1399, 1400, 1401, 1402] (by decide +kernel) (by decide +kernel)
set_option maxRecDepth 20000 in
theorem gL_law_X8_turn : GoodIn wsL_law (wsV RL 198 RX8 yX8_turn wsX8_turn) := goodIn_app (goodIn_of _ (by decide +kernel)) ggL_law_X8_turn
set_option maxRecDepth 20000 in
theorem ggL_law_X9_turn : GoodIn wsL_law wsX9_turn := goodIn_r _ [1216, 1197, 1198, 1199, 5, 1200, 384, 324, 389, 132, 143, 133, 173, 174, 175, 176, 177, 178, 179, 130, 1172, 1173, 1174, 1175, 330, 331, 332, 333, 131, 338, 339, 340, 1176, 1177, 1178, 1179, 142, 349, 350, 351, 352, 1180, 1181, 1182, 1183, 1341, 1342, 1343, 1344, 1345, 1346, 1347, 1348, 1349, 1350, 1351, 1352, 1353, 1354, 1355, 1356, 1357, 1358, 1359, 1360, 1361, 1362, 1363, 1364, 1365, 1366, 1367, 1368, 1369, 1370, 1371, 1372, 1373, 1374, 1375, 1376, 1377] (by decide +kernel) (by decide +kernel)
set_option maxRecDepth 20000 in
theorem gL_law_X9_turn : GoodIn wsL_law (wsV RL 201 RX9 yX9_turn wsX9_turn) := goodIn_app (goodIn_of _ (by decide +kernel)) ggL_law_X9_turn
set_option maxRecDepth 20000 in
theorem ggL_law_X8_thin : GoodIn wsL_law wsX8_thin := goodIn_r _ [1220, 16, 285, 440, 445, 446, 447, 2, 448, 427, 1058, 1059, 1060, 157, 158, 159, 160, 31, 1221, 1222, 1223, 44, 1224, 67, 1225, 298, 299, 300, 69, 60, 1226, 398, 399, 400, 401, 402, 403, 1329, 1330, 1331, 1332, 1333, 1334, 1335, 1336, 1337, 1338, 1339, 1340, 1378, 1379, 1380, 1381, 1382, 1383, 1384, 1385, 1397, 1398, 1399, 1400, 1401, 1402] (by decide +kernel) (by decide +kernel)
set_option maxRecDepth 20000 in
theorem gL_law_X8_thin : GoodIn wsL_law (wsV RL 202 RX8 yX8_thin wsX8_thin) := goodIn_app (goodIn_of _ (by decide +kernel)) ggL_law_X8_thin
set_option maxRecDepth 20000 in
theorem ggL_law_X9_thin : GoodIn wsL_law wsX9_thin := goodIn_r _ [1230, 384, 132, 457, 458, 459, 5, 460, 389, 173, 174, 175, 176, 177, 178, 179, 130, 330, 331, 332, 333, 131, 1141, 1142, 1143, 1144, 357, 358, 359, 360, 349, 350, 351, 352, 408, 409, 410, 338, 339, 340, 1341, 1342, 1343, 1344, 1345, 1346, 1347, 1348, 1349, 1350, 1351, 1352, 1353, 1354, 1355, 1356, 1357, 1358, 1359, 1360, 1361, 1362, 1363, 1364, 1365, 1366, 1367, 1368, 1369, 1370, 1371, 1372, 1373, 1374, 1375, 1376, 1377] (by decide +kernel) (by decide +kernel)
set_option maxRecDepth 20000 in
theorem gL_law_X9_thin : GoodIn wsL_law (wsV RL 205 RX9 yX9_thin wsX9_thin) := goodIn_app (goodIn_of _ (by decide +kernel)) ggL_law_X9_thin
set_option maxRecDepth 20000 in
theorem ggL_law_X8_spare : GoodIn wsL_law wsX8_spare := goodIn_r _ [1234, 16, 445, 446, 447, 2, 448, 427, 1235, 1236, 1237, 15, 1238, 45, 52, 48, 280, 1239, 808, 809, 44, 810, 754, 310, 311, 312, 61, 68, 59, 871, 277, 278, 279, 54, 46, 872, 764, 765, 766, 47, 1329, 1330, 1331, 1332, 1333, 1334, 1335, 1336, 1337, 1338, 1339, 1340, 1378, 1379, 1380, 1381, 1382, 1383, 1384, 1385, 1397, 1398, 1399, 1400, 1401, 1402] (by decide +kernel) (by decide +kernel)
set_option maxRecDepth 20000 in
theorem gL_law_X8_spare : GoodIn wsL_law (wsV RL 206 RX8 yX8_spare wsX8_spare) := goodIn_app (goodIn_of _ (by decide +kernel)) ggL_law_X8_spare
set_option maxRecDepth 20000 in
theorem ggL_law_X9_spare : GoodIn wsL_law wsX9_spare := goodIn_r _ [1243, 457, 458, 459, 5, 460, 389, 173, 174, 175, 1244, 1245, 1246, 1247, 132, 325, 330, 331, 332, 333, 131, 338, 339, 340, 357, 358, 359, 360, 349, 350, 351, 352, 320, 321, 322, 323, 324, 326, 327, 328, 329, 783, 784, 785, 786, 461, 462, 463, 464, 390, 1341, 1342, 1343, 1344, 1345, 1346, 1347, 1348, 1349, 1350, 1351, 1352, 1353, 1354, 1355, 1356, 1357, 1358, 1359, 1360, 1361, 1362, 1363, 1364, 1365, 1366, 1367, 1368, 1369, 1370, 1371, 1372, 1373, 1374, 1375, 1376, 1377] (by decide +kernel) (by decide +kernel)
set_option maxRecDepth 20000 in
theorem gL_law_X9_spare : GoodIn wsL_law (wsV RL 209 RX9 yX9_spare wsX9_spare) := goodIn_app (goodIn_of _ (by decide +kernel)) ggL_law_X9_spare
set_option maxRecDepth 20000 in
theorem ggL_law_X8_grow : GoodIn wsL_law wsX8_grow := goodIn_r _ [1251, 16, 440, 441, 442, 443, 2, 444, 445, 446, 447, 448, 427, 449, 450, 451, 15, 452, 48, 157, 158, 159, 160, 31, 1235, 1236, 1237, 1238, 45, 52, 280, 1239, 808, 809, 44, 810, 754, 310, 311, 312, 61, 68, 59, 871, 277, 278, 279, 54, 46, 872, 764, 765, 766, 47, 397, 398, 399, 400, 401, 402, 403, 1329, 1330, 1331, 1332, 1333, 1334, 1335, 1336, 1337, 1338, 1339, 1340, 1378, 1379, 1380, 1381, 1382, 1383, 1384, 1385, 1397, 1398, 1399, 1400, 1401, 1402] (by decide +kernel) (by decide +kernel)
set_option maxRecDepth 20000 in
theorem gL_law_X8_grow : GoodIn wsL_law (wsV RL 210 RX8 yX8_grow wsX8_grow) := goodIn_app (goodIn_of _ (by decide +kernel)) ggL_law_X8_grow
set_option maxRecDepth 20000 in
theorem ggL_law_X9_grow : GoodIn wsL_law wsX9_grow := goodIn_r _ [1255, 132, 457, 458, 459, 5, 460, 389, 173, 174, 175, 176, 177, 178, 179, 130, 461, 462, 463, 464, 390, 1244, 1245, 1246, 1247, 325, 330, 331, 332, 333, 131, 338, 339, 340, 357, 358, 359, 360, 349, 350, 351, 352, 320, 321, 322, 323, 324, 326, 327, 328, 329, 783, 784, 785, 786, 408, 409, 410, 1341, 1342, 1343, 1344, 1345, 1346, 1347, 1348, 1349, 1350, 1351, 1352, 1353, 1354, 1355, 1356, 1357, 1358, 1359, 1360, 1361, 1362, 1363, 1364, 1365, 1366, 1367, 1368, 1369, 1370, 1371, 1372, 1373, 1374, 1375, 1376, 1377] (by decide +kernel) (by decide +kernel)
set_option maxRecDepth 20000 in
theorem gL_law_X9_grow : GoodIn wsL_law (wsV RL 213 RX9 yX9_grow wsX9_grow) := goodIn_app (goodIn_of _ (by decide +kernel)) ggL_law_X9_grow
set_option maxRecDepth 20000 in
theorem ggL_law_X8_faces : GoodIn wsL_law wsX8_faces := goodIn_r _ [1259, 16, 445, 446, 447, 2, 448, 427, 1260, 1261, 1262, 15, 1263, 45, 52, 46, 1264, 310, 311, 44, 312, 61, 68, 59, 481, 398, 399, 400, 401, 402, 403, 157, 158, 159, 160, 31, 1329, 1330, 1331, 1332, 1333, 1334, 1335, 1336, 1337, 1338, 1339, 1340, 1378, 1379, 1380, 1381, 1382, 1383, 1384, 1385, 1397, 1398, 1399, 1400, 1401, 1402] (by decide +kernel) (by decide +kernel)
set_option maxRecDepth 20000 in
theorem gL_law_X8_faces : GoodIn wsL_law (wsV RL 214 RX8 yX8_faces wsX8_faces) := goodIn_app (goodIn_of _ (by decide +kernel)) ggL_law_X8_faces
set_option maxRecDepth 20000 in
theorem ggL_law_X9_faces : GoodIn wsL_law wsX9_faces := goodIn_r _ [1268, 457, 458, 459, 5, 460, 389, 173, 174, 175, 1269, 1270, 1271, 1272, 132, 324, 330, 331, 332, 333, 131, 338, 339, 340, 357, 358, 359, 360, 349, 350, 351, 352, 176, 177, 178, 179, 130, 1341, 1342, 1343, 1344, 1345, 1346, 1347, 1348, 1349, 1350, 1351, 1352, 1353, 1354, 1355, 1356, 1357, 1358, 1359, 1360, 1361, 1362, 1363, 1364, 1365, 1366, 1367, 1368, 1369, 1370, 1371, 1372, 1373, 1374, 1375, 1376, 1377] (by decide +kernel) (by decide +kernel)
set_option maxRecDepth 20000 in
theorem gL_law_X9_faces : GoodIn wsL_law (wsV RL 217 RX9 yX9_faces wsX9_faces) := goodIn_app (goodIn_of _ (by decide +kernel)) ggL_law_X9_faces
set_option maxRecDepth 20000 in
theorem ggL_law_X8_casts : GoodIn wsL_law wsX8_casts := goodIn_r _ [1276, 16, 427, 1277, 641, 638, 642, 495, 449, 450, 451, 15, 452, 48, 1260, 1261, 1262, 1263, 45, 52, 46, 1264, 310, 311, 44, 312, 61, 68, 59, 481, 398, 399, 400, 401, 402, 403, 1329, 1330, 1331, 1332, 1333, 1334, 1335, 1336, 1337, 1338, 1339, 1340, 1378, 1379, 1380, 1381, 1382, 1383, 1384, 1385, 1397, 1398, 1399, 1400, 1401, 1402] (by decide +kernel) (by decide +kernel)
set_option maxRecDepth 20000 in
theorem gL_law_X8_casts : GoodIn wsL_law (wsV RL 218 RX8 yX8_casts wsX8_casts) := goodIn_app (goodIn_of _ (by decide +kernel)) ggL_law_X8_casts
set_option maxRecDepth 20000 in
theorem ggL_law_X9_casts : GoodIn wsL_law wsX9_casts := goodIn_r _ [1281, 389, 135, 461, 462, 463, 5, 464, 390, 1269, 1270, 1271, 1272, 132, 324, 330, 331, 332, 333, 131, 338, 339, 340, 357, 358, 359, 360, 349, 350, 351, 352, 1341, 1342, 1343, 1344, 1345, 1346, 1347, 1348, 1349, 1350, 1351, 1352, 1353, 1354, 1355, 1356, 1357, 1358, 1359, 1360, 1361, 1362, 1363, 1364, 1365, 1366, 1367, 1368, 1369, 1370, 1371, 1372, 1373, 1374, 1375, 1376, 1377] (by decide +kernel) (by decide +kernel)
set_option maxRecDepth 20000 in
theorem gL_law_X9_casts : GoodIn wsL_law (wsV RL 221 RX9 yX9_casts wsX9_casts) := goodIn_app (goodIn_of _ (by decide +kernel)) ggL_law_X9_casts
set_option maxRecDepth 20000 in
theorem ggL_law_X8_step : GoodIn wsL_law wsX8_step := goodIn_r _ [1285, 16, 739, 920, 921, 922, 2, 923, 427, 892, 893, 894, 895, 287, 21, 249, 285, 440, 763, 764, 765, 15, 766, 47, 52, 190, 191, 192, 37, 193, 95, 288, 289, 290, 102, 291, 292, 293, 294, 295, 113, 114, 296, 297, 298, 299, 44, 300, 69, 60, 301, 302, 303, 304, 61, 305, 306, 307, 308, 115, 309, 310, 311, 312, 68, 59, 157, 158, 159, 160, 31, 1329, 1330, 1331, 1332, 1333, 1334, 1335, 1336, 1337, 1338, 1339, 1340, 1378, 1379, 1380, 1381, 1382, 1383, 1384, 1385, 1394, 1395, 1396, 1406, 1407, 1408, 1397, 1398, 1399, 1400, 1401, 1402] (by decide +kernel) (by decide +kernel)
set_option maxRecDepth 20000 in
theorem gL_law_X8_step : GoodIn wsL_law (wsV RL 222 RX8 yX8_step wsX8_step) := goodIn_app (goodIn_of _ (by decide +kernel)) ggL_law_X8_step
set_option maxRecDepth 20000 in
theorem ggL_law_X9_step : GoodIn wsL_law wsX9_step := goodIn_r _ [1289, 928, 390, 137, 929, 930, 931, 5, 932, 389, 138, 900, 901, 902, 903, 324, 132, 120, 341, 342, 343, 344, 126, 127, 128, 345, 346, 347, 348, 330, 331, 332, 333, 131, 338, 339, 340, 349, 350, 351, 352, 353, 354, 355, 356, 357, 358, 359, 360, 361, 362, 363, 364, 176, 177, 178, 179, 130, 1341, 1342, 1343, 1344, 1345, 1346, 1347, 1348, 1349, 1350, 1351, 1352, 1353, 1354, 1355, 1356, 1357, 1358, 1359, 1360, 1361, 1362, 1363, 1364, 1365, 1366, 1367, 1368, 1369, 1370, 1371, 1372, 1373, 1374, 1375, 1376, 1377] (by decide +kernel) (by decide +kernel)
set_option maxRecDepth 20000 in
theorem gL_law_X9_step : GoodIn wsL_law (wsV RL 225 RX9 yX9_step wsX9_step) := goodIn_app (goodIn_of _ (by decide +kernel)) ggL_law_X9_step
set_option maxRecDepth 20000 in
theorem ggL_law_X8_again : GoodIn wsL_law wsX8_again := goodIn_r _ [1293, 16, 739, 1091, 970, 971, 972, 973, 974, 975, 1329, 1330, 1331, 1332, 1333, 1334, 1335, 1336, 1337, 1338, 1339, 1340, 1378, 1379, 1380, 1381, 1382, 1383, 1384, 1385] (by decide +kernel) (by decide +kernel)
set_option maxRecDepth 20000 in
theorem gL_law_X8_again : GoodIn wsL_law (wsV RL 226 RX8 yX8_again wsX8_again) := goodIn_app (goodIn_of _ (by decide +kernel)) ggL_law_X8_again
set_option maxRecDepth 20000 in
theorem ggL_law_X9_again : GoodIn wsL_law wsX9_again := goodIn_r _ [1297, 390, 408, 409, 5, 410, 338, 339, 340, 1341, 1342, 1343, 1344, 1345, 1346, 1347, 1348, 1349, 1350, 1351, 1352, 1353, 1354, 1355, 1356, 1357, 1358, 1359, 1360, 1361, 1362, 1363, 1364, 1365, 1366, 1367, 1368, 1369, 1370, 1371, 1372, 1373, 1374, 1375, 1376, 1377] (by decide +kernel) (by decide +kernel)
set_option maxRecDepth 20000 in
theorem gL_law_X9_again : GoodIn wsL_law (wsV RL 229 RX9 yX9_again wsX9_again) := goodIn_app (goodIn_of _ (by decide +kernel)) ggL_law_X9_again
set_option maxRecDepth 20000 in
theorem ggL_law_X8_image : GoodIn wsL_law wsX8_image := goodIn_r _ [1301, 17, 16, 19, 534, 535, 536, 15, 537, 45, 538, 46, 47, 48, 49, 50, 52, 539, 218, 219, 220, 53, 374, 63, 64, 44, 65, 66, 67, 68, 69, 59, 60, 61, 70, 71, 72, 73, 74, 75, 76, 77, 1329, 1330, 1331, 1332, 1333, 1334, 1335, 1336, 1337, 1338, 1339, 1340, 1378, 1379, 1380, 1381, 1382, 1383, 1384, 1385, 1397, 1398, 1399, 1400, 1401, 1402] (by decide +kernel) (by decide +kernel)
set_option maxRecDepth 20000 in
theorem gL_law_X8_image : GoodIn wsL_law (wsV RL 230 RX8 yX8_image wsX8_image) := goodIn_app (goodIn_of _ (by decide +kernel)) ggL_law_X8_image
set_option maxRecDepth 20000 in
theorem ggL_law_X9_image : GoodIn wsL_law wsX9_image := goodIn_r _ [1305, 1306, 676, 4, 5, 679, 117, 118, 119, 11, 12, 30, 120, 121, 122, 123, 51, 124, 125, 126, 127, 128, 129, 130, 131, 132, 133, 134, 135, 136, 137, 138, 139, 140, 141, 142, 143, 144, 145, 146, 147, 680, 681, 682, 683, 324, 389, 390, 1341, 1342, 1343, 1344, 1345, 1346, 1347, 1348, 1349, 1350, 1351, 1352, 1353, 1354, 1355, 1356, 1357, 1358, 1359, 1360, 1361, 1362, 1363, 1364, 1365, 1366, 1367, 1368, 1369, 1370, 1371, 1372, 1373, 1374, 1375, 1376, 1377] (by decide +kernel) (by decide +kernel)
set_option maxRecDepth 20000 in
theorem gL_law_X9_image : GoodIn wsL_law (wsV RL 233 RX9 yX9_image wsX9_image) := goodIn_app (goodIn_of _ (by decide +kernel)) ggL_law_X9_image
set_option maxRecDepth 20000 in
theorem ggL_law_X8_back : GoodIn wsL_law wsX8_back := goodIn_r _ [1310, 19, 16, 17, 157, 158, 159, 2, 160, 31, 534, 535, 536, 15, 537, 45, 538, 46, 47, 48, 49, 50, 52, 539, 218, 219, 220, 53, 374, 63, 64, 44, 65, 66, 67, 68, 69, 59, 60, 61, 70, 71, 72, 73, 74, 75, 76, 77, 1329, 1330, 1331, 1332, 1333, 1334, 1335, 1336, 1337, 1338, 1339, 1340, 1378, 1379, 1380, 1381, 1382, 1383, 1384, 1385, 1397, 1398, 1399, 1400, 1401, 1402] (by decide +kernel) (by decide +kernel)
set_option maxRecDepth 20000 in
theorem gL_law_X8_back : GoodIn wsL_law (wsV RL 234 RX8 yX8_back wsX8_back) := goodIn_app (goodIn_of _ (by decide +kernel)) ggL_law_X8_back
set_option maxRecDepth 20000 in
theorem ggL_law_X9_back : GoodIn wsL_law wsX9_back := goodIn_r _ [1314, 1306, 176, 177, 178, 5, 179, 130, 680, 681, 682, 683, 131, 324, 389, 132, 390, 133, 134, 135, 1341, 1342, 1343, 1344, 1345, 1346, 1347, 1348, 1349, 1350, 1351, 1352, 1353, 1354, 1355, 1356, 1357, 1358, 1359, 1360, 1361, 1362, 1363, 1364, 1365, 1366, 1367, 1368, 1369, 1370, 1371, 1372, 1373, 1374, 1375, 1376, 1377] (by decide +kernel) (by decide +kernel)
set_option maxRecDepth 20000 in
theorem gL_law_X9_back : GoodIn wsL_law (wsV RL 237 RX9 yX9_back wsX9_back) := goodIn_app (goodIn_of _ (by decide +kernel)) ggL_law_X9_back
set_option maxRecDepth 20000 in
theorem ggL_law_X8_status : GoodIn wsL_law wsX8_status := goodIn_r _ [1318, 16, 285, 369, 287, 427, 739, 490, 495, 25, 511, 31, 397, 398, 399, 400, 401, 402, 403, 1091, 970, 971, 972, 973, 974, 975, 1319, 1320, 1321, 2, 1322, 21, 152, 1329, 1330, 1331, 1332, 1333, 1334, 1335, 1336, 1337, 1338, 1339, 1340, 1378, 1379, 1380, 1381, 1382, 1383, 1384, 1385, 1397, 1398, 1399, 1400, 1401, 1402, 1386, 1387, 1388, 1389, 1390, 1394, 1395, 1396] (by decide +kernel) (by decide +kernel)
set_option maxRecDepth 20000 in
theorem gL_law_X8_status : GoodIn wsL_law (wsV RL 238 RX8 yX8_status wsX8_status) := goodIn_app (goodIn_of _ (by decide +kernel)) ggL_law_X8_status
set_option maxRecDepth 20000 in
theorem ggL_law_X9_status : GoodIn wsL_law wsX9_status := goodIn_r _ [1326, 131, 324, 389, 390, 134, 135, 520, 120, 1327, 1328, 130, 408, 409, 5, 410, 338, 339, 340, 173, 174, 175, 1341, 1342, 1343, 1344, 1345, 1346, 1347, 1348, 1349, 1350, 1351, 1352, 1353, 1354, 1355, 1356, 1357, 1358, 1359, 1360, 1361, 1362, 1363, 1364, 1365, 1366, 1367, 1368, 1369, 1370, 1371, 1372, 1373, 1374, 1375, 1376, 1377] (by decide +kernel) (by decide +kernel)
set_option maxRecDepth 20000 in
theorem gL_law_X9_status : GoodIn wsL_law (wsV RL 241 RX9 yX9_status wsX9_status) := goodIn_app (goodIn_of _ (by decide +kernel)) ggL_law_X9_status
