theorem k_OF : ∀ w ∈ u_ws R_OF F_OF 4, w ∈ lw_tbl := by decide +kernel
theorem k_As : ∀ w ∈ u_ws R_As F_As 15, w ∈ lw_tbl := by decide +kernel
theorem k_Li : ∀ w ∈ u_ws R_Li F_Li 7, w ∈ lw_tbl := by decide +kernel
theorem k_Re : ∀ w ∈ u_ws R_Re F_Re 7, w ∈ lw_tbl := by decide +kernel
theorem k_So : ∀ w ∈ u_ws R_So F_So 7, w ∈ lw_tbl := by decide +kernel
theorem k_Sy : ∀ w ∈ u_ws R_Sy F_Sy 8, w ∈ lw_tbl := by decide +kernel
theorem k_Un : ∀ w ∈ u_ws R_Un F_Un 5, w ∈ lw_tbl := by decide +kernel
theorem k_Mo : ∀ w ∈ u_ws R_Mo F_Mo 52, w ∈ lw_tbl := by decide +kernel
theorem k_0 : ∀ w ∈ bw_0, w ∈ lw_tbl := by
  intro w hw
  rw [show bw_0 = ([101, 102, 103, 104, 105, 106, 107, 108, 109, 110, 111, 112, 113, 114, 115, 130, 132, 133, 134, 135, 136, 137, 138, 139, 140] : List Nat).filterMap (fun i => lw_tbl[i]?) from by decide +kernel] at hw
  obtain ⟨i, -, hi⟩ := List.mem_filterMap.mp hw
  exact List.mem_of_getElem? hi
theorem k_1 : ∀ w ∈ bw_1, w ∈ lw_tbl := by
  intro w hw
  rw [show bw_1 = ([141, 143, 144, 145, 146, 147, 149, 150, 151, 152, 154, 155, 156, 157, 158, 159, 160, 176, 177, 178, 179, 181, 182, 183, 184] : List Nat).filterMap (fun i => lw_tbl[i]?) from by decide +kernel] at hw
  obtain ⟨i, -, hi⟩ := List.mem_filterMap.mp hw
  exact List.mem_of_getElem? hi
theorem k_2 : ∀ w ∈ bw_2, w ∈ lw_tbl := by
  intro w hw
  rw [show bw_2 = ([186, 187, 189, 190, 191, 192, 193, 194, 195, 196, 197, 199, 200, 201, 202, 204, 205, 207, 209, 210, 211, 212, 214, 215, 233] : List Nat).filterMap (fun i => lw_tbl[i]?) from by decide +kernel] at hw
  obtain ⟨i, -, hi⟩ := List.mem_filterMap.mp hw
  exact List.mem_of_getElem? hi
theorem k_3 : ∀ w ∈ bw_3, w ∈ lw_tbl := by
  intro w hw
  rw [show bw_3 = ([234, 235, 237, 238, 239, 240, 241, 244, 245, 247, 248, 249, 251, 252, 253, 255, 256, 257, 259, 260, 261, 262, 263, 264, 266] : List Nat).filterMap (fun i => lw_tbl[i]?) from by decide +kernel] at hw
  obtain ⟨i, -, hi⟩ := List.mem_filterMap.mp hw
  exact List.mem_of_getElem? hi
theorem k_4 : ∀ w ∈ bw_4, w ∈ lw_tbl := by
  intro w hw
  rw [show bw_4 = ([282, 283, 284, 287, 288, 290, 291, 293, 294, 296, 297, 298, 300, 312, 313, 314, 315, 316, 317, 318, 319, 320, 321, 322, 323] : List Nat).filterMap (fun i => lw_tbl[i]?) from by decide +kernel] at hw
  obtain ⟨i, -, hi⟩ := List.mem_filterMap.mp hw
  exact List.mem_of_getElem? hi
theorem k_5 : ∀ w ∈ bw_5, w ∈ lw_tbl := by
  intro w hw
  rw [show bw_5 = ([324, 325, 326, 327, 328, 329, 330, 362, 363, 365, 366, 367, 368, 369, 370, 371, 372, 373, 374, 375, 376, 377, 378, 379, 395] : List Nat).filterMap (fun i => lw_tbl[i]?) from by decide +kernel] at hw
  obtain ⟨i, -, hi⟩ := List.mem_filterMap.mp hw
  exact List.mem_of_getElem? hi
theorem k_6 : ∀ w ∈ bw_6, w ∈ lw_tbl := by
  intro w hw
  rw [show bw_6 = ([398, 399, 400, 401, 411, 412, 413, 414, 415, 416, 417, 418, 419, 420, 421, 422, 423, 424, 425, 426, 427, 428, 436, 437, 438] : List Nat).filterMap (fun i => lw_tbl[i]?) from by decide +kernel] at hw
  obtain ⟨i, -, hi⟩ := List.mem_filterMap.mp hw
  exact List.mem_of_getElem? hi
theorem k_7 : ∀ w ∈ bw_7, w ∈ lw_tbl := by
  intro w hw
  rw [show bw_7 = ([439, 440, 441, 442, 443, 444, 445, 446, 447, 448, 449, 450, 451, 452, 453, 455, 457, 458, 461, 462, 463, 464, 466, 467, 468] : List Nat).filterMap (fun i => lw_tbl[i]?) from by decide +kernel] at hw
  obtain ⟨i, -, hi⟩ := List.mem_filterMap.mp hw
  exact List.mem_of_getElem? hi
theorem k_8 : ∀ w ∈ bw_8, w ∈ lw_tbl := by
  intro w hw
  rw [show bw_8 = ([470, 471, 472, 473, 474, 475, 476, 477, 478, 479, 480, 481, 483, 484, 485, 486, 491, 494, 495, 496, 497, 498, 499, 500, 501] : List Nat).filterMap (fun i => lw_tbl[i]?) from by decide +kernel] at hw
  obtain ⟨i, -, hi⟩ := List.mem_filterMap.mp hw
  exact List.mem_of_getElem? hi
theorem k_9 : ∀ w ∈ bw_9, w ∈ lw_tbl := by
  intro w hw
  rw [show bw_9 = ([502, 503, 504, 505, 506, 507, 508, 510, 511, 512, 513, 514, 515, 517, 518, 519, 520, 521, 522, 523, 524, 525, 526, 527, 528] : List Nat).filterMap (fun i => lw_tbl[i]?) from by decide +kernel] at hw
  obtain ⟨i, -, hi⟩ := List.mem_filterMap.mp hw
  exact List.mem_of_getElem? hi
theorem k_10 : ∀ w ∈ bw_10, w ∈ lw_tbl := by
  intro w hw
  rw [show bw_10 = ([529, 531, 532, 533, 534, 535, 536, 537, 538, 539, 540, 541, 542, 543, 544, 545, 546, 713, 714, 716, 717, 718, 719, 720, 721] : List Nat).filterMap (fun i => lw_tbl[i]?) from by decide +kernel] at hw
  obtain ⟨i, -, hi⟩ := List.mem_filterMap.mp hw
  exact List.mem_of_getElem? hi
theorem k_11 : ∀ w ∈ bw_11, w ∈ lw_tbl := by
  intro w hw
  rw [show bw_11 = ([722, 745, 747, 748, 749, 752, 764, 772, 872, 873, 1023, 1024, 1025, 1070, 1087, 1152, 1154, 1155, 1156, 1164, 1168, 1169, 1170, 1171, 1172] : List Nat).filterMap (fun i => lw_tbl[i]?) from by decide +kernel] at hw
  obtain ⟨i, -, hi⟩ := List.mem_filterMap.mp hw
  exact List.mem_of_getElem? hi
theorem k_12 : ∀ w ∈ bw_12, w ∈ lw_tbl := by
  intro w hw
  rw [show bw_12 = ([1173, 1174, 1175, 1176, 1177, 1179, 1180, 1181, 1182, 1183, 1184, 1186, 1187, 1188, 1189, 1190, 1191, 1192, 1193, 1194, 1195, 1196, 1198, 1199, 1200] : List Nat).filterMap (fun i => lw_tbl[i]?) from by decide +kernel] at hw
  obtain ⟨i, -, hi⟩ := List.mem_filterMap.mp hw
  exact List.mem_of_getElem? hi
theorem k_13 : ∀ w ∈ bw_13, w ∈ lw_tbl := by
  intro w hw
  rw [show bw_13 = ([1201, 1202, 1204, 1205, 1206, 1207, 1208, 1209, 1210, 1211, 1212, 1213, 1214, 1215, 1216, 1217, 1219, 1220, 1221, 1222, 1223, 1224, 1225, 1226, 1227] : List Nat).filterMap (fun i => lw_tbl[i]?) from by decide +kernel] at hw
  obtain ⟨i, -, hi⟩ := List.mem_filterMap.mp hw
  exact List.mem_of_getElem? hi
theorem k_14 : ∀ w ∈ bw_14, w ∈ lw_tbl := by
  intro w hw
  rw [show bw_14 = ([1228, 1229, 1230, 1231, 1232, 1233, 1234, 1235, 1236, 1237, 1238, 1239, 1242, 1298, 1299, 1300, 1301, 1302, 1303, 1304, 1305, 1306, 1307, 1308, 1310] : List Nat).filterMap (fun i => lw_tbl[i]?) from by decide +kernel] at hw
  obtain ⟨i, -, hi⟩ := List.mem_filterMap.mp hw
  exact List.mem_of_getElem? hi
theorem k_15 : ∀ w ∈ bw_15, w ∈ lw_tbl := by
  intro w hw
  rw [show bw_15 = ([1314, 1315, 1316, 1317, 1318, 1319, 1320, 1322, 1323, 1324, 1325, 1326, 1327, 1328, 1329, 1330, 1331, 1332, 1333, 1334, 1335, 1336, 1337, 1338, 1339] : List Nat).filterMap (fun i => lw_tbl[i]?) from by decide +kernel] at hw
  obtain ⟨i, -, hi⟩ := List.mem_filterMap.mp hw
  exact List.mem_of_getElem? hi
theorem k_16 : ∀ w ∈ bw_16, w ∈ lw_tbl := by
  intro w hw
  rw [show bw_16 = ([1340, 1341, 1342, 1343, 1344, 1345, 1346, 1347, 1348, 1349, 1350, 1351, 1352, 1353, 1354, 1355, 1356, 1357, 1358, 1359, 1360, 1361, 1362, 1363, 1364] : List Nat).filterMap (fun i => lw_tbl[i]?) from by decide +kernel] at hw
  obtain ⟨i, -, hi⟩ := List.mem_filterMap.mp hw
  exact List.mem_of_getElem? hi
theorem k_17 : ∀ w ∈ bw_17, w ∈ lw_tbl := by
  intro w hw
  rw [show bw_17 = ([1365, 1366, 1367, 1368, 1369, 1370, 1371, 1372, 1373, 1375, 1378, 1379, 1380, 1381, 1382, 1387, 1388, 1494, 1495, 1496, 1497, 1498, 1499, 1500, 1501] : List Nat).filterMap (fun i => lw_tbl[i]?) from by decide +kernel] at hw
  obtain ⟨i, -, hi⟩ := List.mem_filterMap.mp hw
  exact List.mem_of_getElem? hi
theorem k_18 : ∀ w ∈ bw_18, w ∈ lw_tbl := by
  intro w hw
  rw [show bw_18 = ([1502, 1504, 1505, 1506, 1508, 1509, 1510, 1511, 1512, 1513, 1514, 1515, 1516, 1517, 1518, 1520, 1521, 1522, 1524, 1525, 1526, 1528, 1529, 1530, 1532] : List Nat).filterMap (fun i => lw_tbl[i]?) from by decide +kernel] at hw
  obtain ⟨i, -, hi⟩ := List.mem_filterMap.mp hw
  exact List.mem_of_getElem? hi
theorem k_19 : ∀ w ∈ bw_19, w ∈ lw_tbl := by
  intro w hw
  rw [show bw_19 = ([1533, 1534, 1537, 1545, 1552, 1562, 1583, 1590, 1591, 1595, 1599, 1603, 1607, 1615, 2014, 2018, 2019, 2089, 2090, 2148, 2157, 2160, 2162, 2163, 2164] : List Nat).filterMap (fun i => lw_tbl[i]?) from by decide +kernel] at hw
  obtain ⟨i, -, hi⟩ := List.mem_filterMap.mp hw
  exact List.mem_of_getElem? hi
theorem k_20 : ∀ w ∈ bw_20, w ∈ lw_tbl := by
  intro w hw
  rw [show bw_20 = ([2165, 2166, 2167, 2168, 2169, 2170, 2171, 2172, 2173, 2174, 2175, 2176, 2177, 2178, 2179, 2180, 2181, 2182, 2183, 2184, 2185, 2186, 2187, 2188, 2189] : List Nat).filterMap (fun i => lw_tbl[i]?) from by decide +kernel] at hw
  obtain ⟨i, -, hi⟩ := List.mem_filterMap.mp hw
  exact List.mem_of_getElem? hi
theorem k_21 : ∀ w ∈ bw_21, w ∈ lw_tbl := by
  intro w hw
  rw [show bw_21 = ([2190, 2191, 2192, 2193, 2194, 2195, 2196, 2200, 2204, 2212, 2216, 2220, 2227, 2228, 2229, 2230, 2231, 2232, 2233, 2234, 2235, 2236, 2237, 2238, 2239] : List Nat).filterMap (fun i => lw_tbl[i]?) from by decide +kernel] at hw
  obtain ⟨i, -, hi⟩ := List.mem_filterMap.mp hw
  exact List.mem_of_getElem? hi
theorem k_22 : ∀ w ∈ bw_22, w ∈ lw_tbl := by
  intro w hw
  rw [show bw_22 = ([2240, 2241, 2242, 11, 14, 34, 36, 44, 45, 46, 47, 48, 49, 93] : List Nat).filterMap (fun i => lw_tbl[i]?) from by decide +kernel] at hw
  obtain ⟨i, -, hi⟩ := List.mem_filterMap.mp hw
  exact List.mem_of_getElem? hi
theorem bw_in : ∀ w ∈ bw, w ∈ lw_tbl := by
  intro w h
  rcases List.mem_append.mp h with h | h
  · exact k_OF w h
  rcases List.mem_append.mp h with h | h
  · exact k_As w h
  rcases List.mem_append.mp h with h | h
  · exact k_Li w h
  rcases List.mem_append.mp h with h | h
  · exact k_Re w h
  rcases List.mem_append.mp h with h | h
  · exact k_So w h
  rcases List.mem_append.mp h with h | h
  · exact k_Sy w h
  rcases List.mem_append.mp h with h | h
  · exact k_Un w h
  rcases List.mem_append.mp h with h | h
  · exact k_Mo w h
  rcases List.mem_append.mp h with h | h
  · exact k_0 w h
  rcases List.mem_append.mp h with h | h
  · exact k_1 w h
  rcases List.mem_append.mp h with h | h
  · exact k_2 w h
  rcases List.mem_append.mp h with h | h
  · exact k_3 w h
  rcases List.mem_append.mp h with h | h
  · exact k_4 w h
  rcases List.mem_append.mp h with h | h
  · exact k_5 w h
  rcases List.mem_append.mp h with h | h
  · exact k_6 w h
  rcases List.mem_append.mp h with h | h
  · exact k_7 w h
  rcases List.mem_append.mp h with h | h
  · exact k_8 w h
  rcases List.mem_append.mp h with h | h
  · exact k_9 w h
  rcases List.mem_append.mp h with h | h
  · exact k_10 w h
  rcases List.mem_append.mp h with h | h
  · exact k_11 w h
  rcases List.mem_append.mp h with h | h
  · exact k_12 w h
  rcases List.mem_append.mp h with h | h
  · exact k_13 w h
  rcases List.mem_append.mp h with h | h
  · exact k_14 w h
  rcases List.mem_append.mp h with h | h
  · exact k_15 w h
  rcases List.mem_append.mp h with h | h
  · exact k_16 w h
  rcases List.mem_append.mp h with h | h
  · exact k_17 w h
  rcases List.mem_append.mp h with h | h
  · exact k_18 w h
  rcases List.mem_append.mp h with h | h
  · exact k_19 w h
  rcases List.mem_append.mp h with h | h
  · exact k_20 w h
  rcases List.mem_append.mp h with h | h
  · exact k_21 w h
  exact k_22 w h

