/-! what the premises hold, by their places -/
def e_fl : List Cond := flatC (Jvm.Cond.and given_1 narrow_1)
def e_ix : List Nat := [178, 184, 187, 190, 193, 196, 199, 202, 205, 208, 211, 214, 217, 220, 223, 226, 229, 232, 235, 238, 241, 244, 247, 250, 253, 256, 259, 262, 265, 268, 271, 274, 277, 280, 283, 286, 289, 292, 295, 298, 301, 304, 307]
abbrev e_op (i : Nat) : Term := .static "ShareMonitor$Op" (cE_nm.getD i "") "LShareMonitor$Op;"
abbrev e_st (i : Nat) : Term := .string "ShareMonitor$Op" (e_ix.getD i 0)
abbrev e_vl (i : Nat) : Term := .field (e_st i) "java/lang/String" "value" "[B"
def e_p1 : List Nat := [22, 34, 40, 46, 52, 425, 28, 431, 437, 443, 58, 64, 449, 455, 461, 467, 473, 479, 485, 491, 401, 407, 413, 497, 503, 509, 515, 521, 527, 533, 539, 4, 545, 10, 419, 16, 551, 557, 347, 329, 563, 335, 341]
set_option maxRecDepth 100000 in
theorem e_q1 : ∀ i, i < 43 → e_fl[e_p1.getD i 0]? = some (Cond.exactly (e_op i) "ShareMonitor$Op") := by decide +kernel
theorem e_m1 : ∀ i, i < 43 → Cond.exactly (e_op i) "ShareMonitor$Op" ∈ e_fl := fun i hi => List.mem_of_getElem? (e_q1 i hi)
def e_p2 : List Nat := [23, 35, 41, 47, 53, 426, 29, 432, 438, 444, 59, 65, 450, 456, 462, 468, 474, 480, 486, 492, 402, 408, 414, 498, 504, 510, 516, 522, 528, 534, 540, 5, 546, 11, 420, 17, 552, 558, 348, 330, 564, 336, 342]
set_option maxRecDepth 100000 in
theorem e_q2 : ∀ i, i < 43 → e_fl[e_p2.getD i 0]? = some (Cond.eq (.field (e_op i) "java/lang/Enum" "ordinal" "I") (.int (cE_or.getD i 0))) := by decide +kernel
theorem e_m2 : ∀ i, i < 43 → Cond.eq (.field (e_op i) "java/lang/Enum" "ordinal" "I") (.int (cE_or.getD i 0)) ∈ e_fl := fun i hi => List.mem_of_getElem? (e_q2 i hi)
def e_p3 : List Nat := [25, 37, 43, 49, 55, 428, 31, 434, 440, 446, 61, 67, 452, 458, 464, 470, 476, 482, 488, 494, 404, 410, 416, 500, 506, 512, 518, 524, 530, 536, 542, 7, 548, 13, 422, 19, 554, 560, 350, 332, 566, 338, 344]
set_option maxRecDepth 100000 in
theorem e_q3 : ∀ i, i < 43 → e_fl[e_p3.getD i 0]? = some (Cond.eq (.field (e_op i) "ShareMonitor$Op" "kind" "I") (.int (cE_kd.getD i 0))) := by decide +kernel
theorem e_m3 : ∀ i, i < 43 → Cond.eq (.field (e_op i) "ShareMonitor$Op" "kind" "I") (.int (cE_kd.getD i 0)) ∈ e_fl := fun i hi => List.mem_of_getElem? (e_q3 i hi)
def e_p4 : List Nat := [26, 38, 44, 50, 56, 429, 32, 435, 441, 447, 62, 68, 453, 459, 465, 471, 477, 483, 489, 495, 405, 411, 417, 501, 507, 513, 519, 525, 531, 537, 543, 8, 549, 14, 423, 20, 555, 561, 351, 333, 567, 339, 345]
set_option maxRecDepth 100000 in
theorem e_q4 : ∀ i, i < 43 → e_fl[e_p4.getD i 0]? = some (Cond.eq (.field (e_op i) "ShareMonitor$Op" "needs" "I") (.int (cE_ne.getD i 0))) := by decide +kernel
theorem e_m4 : ∀ i, i < 43 → Cond.eq (.field (e_op i) "ShareMonitor$Op" "needs" "I") (.int (cE_ne.getD i 0)) ∈ e_fl := fun i hi => List.mem_of_getElem? (e_q4 i hi)
def e_p5 : List Nat := [27, 39, 45, 51, 57, 430, 33, 436, 442, 448, 63, 69, 454, 460, 466, 472, 478, 484, 490, 496, 406, 412, 418, 502, 508, 514, 520, 526, 532, 538, 544, 9, 550, 15, 424, 21, 556, 562, 352, 334, 568, 340, 346]
set_option maxRecDepth 100000 in
theorem e_q5 : ∀ i, i < 43 → e_fl[e_p5.getD i 0]? = some (Cond.eq (.field (e_op i) "ShareMonitor$Op" "grows" "I") (.int (cE_gr.getD i 0))) := by decide +kernel
theorem e_m5 : ∀ i, i < 43 → Cond.eq (.field (e_op i) "ShareMonitor$Op" "grows" "I") (.int (cE_gr.getD i 0)) ∈ e_fl := fun i hi => List.mem_of_getElem? (e_q5 i hi)
def e_p6 : List Nat := [24, 36, 42, 48, 54, 427, 30, 433, 439, 445, 60, 66, 451, 457, 463, 469, 475, 481, 487, 493, 403, 409, 415, 499, 505, 511, 517, 523, 529, 535, 541, 6, 547, 12, 421, 18, 553, 559, 349, 331, 565, 337, 343]
set_option maxRecDepth 100000 in
theorem e_q6 : ∀ i, i < 43 → e_fl[e_p6.getD i 0]? = some (Cond.eq (.field (e_op i) "ShareMonitor$Op" "text" "Ljava/lang/String;") (e_st i)) := by decide +kernel
theorem e_m6 : ∀ i, i < 43 → Cond.eq (.field (e_op i) "ShareMonitor$Op" "text" "Ljava/lang/String;") (e_st i) ∈ e_fl := fun i hi => List.mem_of_getElem? (e_q6 i hi)
def e_p7 : List Nat := [73, 74, 75, 76, 77, 78, 79, 80, 81, 82, 83, 84, 85, 86, 87, 88, 89, 90, 91, 92, 93, 94, 95, 96, 97, 98, 99, 100, 101, 102, 103, 104, 105, 106, 107, 108, 109, 110, 111, 112, 113, 114, 115]
set_option maxRecDepth 100000 in
theorem e_q7 : ∀ i, i < 43 → e_fl[e_p7.getD i 0]? = some (Cond.eq (.elem (.static "ShareMonitor$1" "$SwitchMap$ShareMonitor$Op" "[I") (.int (Int32.ofNat i))) (.int (cE_sw.getD i 0))) := by decide +kernel
theorem e_m7 : ∀ i, i < 43 → Cond.eq (.elem (.static "ShareMonitor$1" "$SwitchMap$ShareMonitor$Op" "[I") (.int (Int32.ofNat i))) (.int (cE_sw.getD i 0)) ∈ e_fl := fun i hi => List.mem_of_getElem? (e_q7 i hi)
def e_p8 : List Nat := [358, 359, 360, 361, 362, 363, 364, 365, 366, 367, 368, 369, 370, 371, 372, 373, 374, 375, 376, 377, 378, 379, 380, 381, 382, 383, 384, 385, 386, 387, 388, 389, 390, 391, 392, 393, 394, 395, 396, 397, 398, 399, 400]
set_option maxRecDepth 100000 in
theorem e_q8 : ∀ i, i < 43 → e_fl[e_p8.getD i 0]? = some (Cond.eq (.elem (.static "ShareMonitor$Op" "ALL" "[LShareMonitor$Op;") (.int (Int32.ofNat i))) (e_op i)) := by decide +kernel
theorem e_m8 : ∀ i, i < 43 → Cond.eq (.elem (.static "ShareMonitor$Op" "ALL" "[LShareMonitor$Op;") (.int (Int32.ofNat i))) (e_op i) ∈ e_fl := fun i hi => List.mem_of_getElem? (e_q8 i hi)
def e_p9 : List Nat := [1162, 1173, 1180, 1188, 1196, 1279, 1166, 1286, 1291, 1296, 1204, 1209, 1301, 1308, 1314, 1321, 1329, 1338, 1343, 1348, 1246, 1254, 1262, 1353, 1363, 1371, 1376, 1381, 1390, 1398, 1406, 1135, 1414, 1143, 1270, 1154, 1422, 1430, 1237, 1214, 1438, 1223, 1231]
set_option maxRecDepth 100000 in
theorem e_q9 : ∀ i, i < 43 → e_fl[e_p9.getD i 0]? = some (Cond.exactly (e_st i) "java/lang/String") := by decide +kernel
theorem e_m9 : ∀ i, i < 43 → Cond.exactly (e_st i) "java/lang/String" ∈ e_fl := fun i hi => List.mem_of_getElem? (e_q9 i hi)
def e_p10 : List Nat := [1163, 1174, 1181, 1189, 1197, 1280, 1167, 1287, 1292, 1297, 1205, 1210, 1302, 1309, 1315, 1322, 1330, 1339, 1344, 1349, 1247, 1255, 1263, 1354, 1364, 1372, 1377, 1382, 1391, 1399, 1407, 1136, 1415, 1144, 1271, 1155, 1423, 1431, 1238, 1215, 1439, 1224, 1232]
set_option maxRecDepth 100000 in
theorem e_q10 : ∀ i, i < 43 → e_fl[e_p10.getD i 0]? = some (Cond.eq (.field (e_st i) "java/lang/String" "coder" "B") (.int 0)) := by decide +kernel
theorem e_m10 : ∀ i, i < 43 → Cond.eq (.field (e_st i) "java/lang/String" "coder" "B") (.int 0) ∈ e_fl := fun i hi => List.mem_of_getElem? (e_q10 i hi)
def e_p11 : List Nat := [1164, 1175, 1182, 1190, 1198, 1281, 1168, 1288, 1293, 1298, 1206, 1211, 1303, 1310, 1316, 1323, 1331, 1340, 1345, 1350, 1248, 1256, 1264, 1355, 1365, 1373, 1378, 1383, 1392, 1400, 1408, 1137, 1416, 1145, 1272, 1156, 1424, 1432, 1239, 1216, 1440, 1225, 1233]
set_option maxRecDepth 100000 in
theorem e_q11 : ∀ i, i < 43 → e_fl[e_p11.getD i 0]? = some (Cond.arrayOf (e_vl i) .byte) := by decide +kernel
theorem e_m11 : ∀ i, i < 43 → Cond.arrayOf (e_vl i) .byte ∈ e_fl := fun i hi => List.mem_of_getElem? (e_q11 i hi)
def e_p12 : List Nat := [1165, 1176, 1183, 1191, 1199, 1282, 1169, 1289, 1294, 1299, 1207, 1212, 1304, 1311, 1317, 1324, 1332, 1341, 1346, 1351, 1249, 1257, 1265, 1356, 1366, 1374, 1379, 1384, 1393, 1401, 1409, 1138, 1417, 1146, 1273, 1157, 1425, 1433, 1240, 1217, 1441, 1226, 1234]
set_option maxRecDepth 100000 in
theorem e_q12 : ∀ i, i < 43 → e_fl[e_p12.getD i 0]? = some (Cond.eq (.length (e_vl i)) (.int (Int32.ofNat (p_tx i).length))) := by decide +kernel
theorem e_m12 : ∀ i, i < 43 → Cond.eq (.length (e_vl i)) (.int (Int32.ofNat (p_tx i).length)) ∈ e_fl := fun i hi => List.mem_of_getElem? (e_q12 i hi)
def e_p13 : List (List Nat) := [[], [1177, 1178, 1179], [1184, 1185, 1186, 1187], [1192, 1193, 1194, 1195], [1200, 1201, 1202, 1203], [1283, 1284, 1285], [1170, 1171, 1172], [1290], [1295], [1300], [1208], [1213], [1305, 1306, 1307], [1312, 1313], [1318, 1319, 1320], [1325, 1326, 1327, 1328], [1333, 1334, 1335, 1336, 1337], [1342], [1347], [1352], [1250, 1251, 1252, 1253], [1258, 1259, 1260, 1261], [1266, 1267, 1268, 1269], [1357, 1358, 1359, 1360, 1361, 1362], [1367, 1368, 1369, 1370], [1375], [1380], [1385, 1386, 1387, 1388, 1389], [1394, 1395, 1396, 1397], [1402, 1403, 1404, 1405], [1410, 1411, 1412, 1413], [1139, 1140, 1141, 1142], [1418, 1419, 1420, 1421], [1147, 1148, 1149, 1150, 1151, 1152, 1153], [1274, 1275, 1276, 1277, 1278], [1158, 1159, 1160, 1161], [1426, 1427, 1428, 1429], [1434, 1435, 1436, 1437], [1241, 1242, 1243, 1244, 1245], [1218, 1219, 1220, 1221, 1222], [1442, 1443, 1444, 1445, 1446], [1227, 1228, 1229, 1230], [1235, 1236]]
set_option maxRecDepth 100000 in
theorem e_q13 : ∀ i, i < 43 → ∀ j, j < (p_tx i).length → e_fl[(e_p13.getD i []).getD j 0]? = some (Cond.eq (.elem (e_vl i) (.int (Int32.ofNat j))) (.int (nI ((p_tx i).getD j 0)))) := by decide +kernel
theorem e_m13 : ∀ i, i < 43 → ∀ j, j < (p_tx i).length → Cond.eq (.elem (e_vl i) (.int (Int32.ofNat j))) (.int (nI ((p_tx i).getD j 0))) ∈ e_fl := fun i hi j hj => List.mem_of_getElem? (e_q13 i hi j hj)
def e_p14 : List Nat := [453, 465, 467, 473, 475, 1864, 463, 1865, 1866, 1867, 481, 483, 1868, 1869, 1870, 1871, 1872, 1873, 1874, 1875, 1119, 1121, 1123, 1876, 1877, 1878, 1879, 1880, 1881, 1882, 1883, 415, 1884, 425, 1125, 427, 1885, 1886, 956, 937, 1887, 943, 945]
set_option maxRecDepth 100000 in
theorem e_q14 : ∀ i, i < 43 → tables_1[e_p14.getD i 0]? = some (Cond.laysStatic "ShareMonitor$Op" (cE_nm.getD i "") "LShareMonitor$Op;") := by decide +kernel
theorem e_m14 : ∀ i, i < 43 → Cond.laysStatic "ShareMonitor$Op" (cE_nm.getD i "") "LShareMonitor$Op;" ∈ tables_1 := fun i hi => List.mem_of_getElem? (e_q14 i hi)
