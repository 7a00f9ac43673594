theorem g_ins {ws : List Cond} (ps : List Nat) (h : ws = ps.filterMap (fun i => tables_1[i]?)) (g : ws.all goodWord = true) : ∀ w ∈ ws, w ∈ lw_good := by
  intro w hw
  have h1 := List.all_eq_true.mp g w hw
  rw [h] at hw
  obtain ⟨i, -, hi⟩ := List.mem_filterMap.mp hw
  exact g_tab i hi h1
theorem g_in0 : ∀ w ∈ u_ws RX0 TX0 5, w ∈ lw_good := g_ins [69, 71, 73, 75, 77] (by decide +kernel) (by decide +kernel)
theorem g_cl0 : gCl 0 RX0 TX0 5 tyX0 := ⟨rfl, g_in0, tyX0_ok, nmX0, rfl, by decide⟩
theorem g_in1 : ∀ w ∈ u_ws RX1 TX1 3, w ∈ lw_good := g_ins [293, 295, 297] (by decide +kernel) (by decide +kernel)
theorem g_cl1 : gCl 1 RX1 TX1 3 tyX1 := ⟨rfl, g_in1, tyX1_ok, nmX1, rfl, by decide⟩
theorem g_in2 : ∀ w ∈ u_ws RX2 TX2 12, w ∈ lw_good := g_ins [374, 376, 378, 380, 382, 384, 386, 388, 390, 392, 394, 396] (by decide +kernel) (by decide +kernel)
theorem g_cl2 : gCl 2 RX2 TX2 12 tyX2 := ⟨rfl, g_in2, tyX2_ok, nmX2, rfl, by decide⟩
theorem g_in3 : ∀ w ∈ u_ws RX3 TX3 1, w ∈ lw_good := g_ins [350] (by decide +kernel) (by decide +kernel)
theorem g_cl3 : gCl 3 RX3 TX3 1 tyX3 := ⟨rfl, g_in3, tyX3_ok, nmX3, rfl, by decide⟩
theorem g_in4 : ∀ w ∈ u_ws RX4 TX4 7, w ∈ lw_good := g_ins [211, 213, 215, 217, 219, 221, 223] (by decide +kernel) (by decide +kernel)
theorem g_cl4 : gCl 4 RX4 TX4 7 tyX4 := ⟨rfl, g_in4, tyX4_ok, nmX4, rfl, by decide⟩
theorem g_in5 : ∀ w ∈ u_ws RX5 TX5 10, w ∈ lw_good := g_ins [258, 260, 262, 264, 266, 268, 270, 272, 274, 276] (by decide +kernel) (by decide +kernel)
theorem g_cl5 : gCl 5 RX5 TX5 10 tyX5 := ⟨rfl, g_in5, tyX5_ok, nmX5, rfl, by decide⟩
theorem g_in6 : ∀ w ∈ u_ws RX6 TX6 2, w ∈ lw_good := g_ins [38, 40] (by decide +kernel) (by decide +kernel)
theorem g_cl6 : gCl 6 RX6 TX6 2 tyX6 := ⟨rfl, g_in6, tyX6_ok, nmX6, rfl, by decide⟩
theorem g_in7 : ∀ w ∈ u_ws RX7 TX7 6, w ∈ lw_good := g_ins [189, 191, 193, 195, 197, 199] (by decide +kernel) (by decide +kernel)
theorem g_cl7 : gCl 7 RX7 TX7 6 tyX7 := ⟨rfl, g_in7, tyX7_ok, nmX7, rfl, by decide⟩
theorem g_in8 : ∀ w ∈ u_ws RX8 TX8 18, w ∈ lw_good := g_ins [136, 138, 140, 142, 144, 146, 148, 150, 152, 154, 156, 158, 160, 162, 164, 166, 168, 170] (by decide +kernel) (by decide +kernel)
theorem g_cl8 : gCl 8 RX8 TX8 18 tyX8 := ⟨rfl, g_in8, tyX8_ok, nmX8, rfl, by decide⟩
theorem g_in9 : ∀ w ∈ u_ws RX9 TX9 10, w ∈ lw_good := g_ins [321, 323, 325, 327, 329, 331, 333, 335, 337, 339] (by decide +kernel) (by decide +kernel)
theorem g_cl9 : gCl 9 RX9 TX9 10 tyX9 := ⟨rfl, g_in9, tyX9_ok, nmX9, rfl, by decide⟩
theorem g_in10 : ∀ w ∈ u_ws RX10 TX10 10, w ∈ lw_good := g_ins [441, 443, 445, 447, 449, 451, 453, 455, 457, 459] (by decide +kernel) (by decide +kernel)
theorem g_cl10 : gCl 10 RX10 TX10 10 tyX10 := ⟨rfl, g_in10, tyX10_ok, nmX10, rfl, by decide⟩
theorem g_in11 : ∀ w ∈ u_ws RX11 TX11 79, w ∈ lw_good := g_ins [1330, 1332, 1334, 1336, 1338, 1340, 1342, 1344, 1346, 1348, 1350, 1352, 1354, 1356, 1358, 1360, 1362, 1364, 1366, 1368, 1370, 1372, 1374, 1376, 1378, 1380, 1382, 1384, 1386, 1388, 1390, 1392, 1394, 1396, 1398, 1400, 1402, 1404, 1406, 1408, 1410, 1412, 1414, 1416, 1418, 1420, 1422, 1424, 1426, 1428, 1430, 1432, 1434, 1436, 1438, 1440, 1442, 1444, 1446, 1448, 1450, 1452, 1454, 1456, 1458, 1460, 1462, 1464, 1466, 1468, 1470, 1472, 1474, 1476, 1478, 1480, 1482, 1484, 1486] (by decide +kernel) (by decide +kernel)
theorem g_cl11 : gCl 11 RX11 TX11 79 tyX11 := ⟨rfl, g_in11, tyX11_ok, nmX11, rfl, by decide⟩
theorem kf_X6_11 : gLk RX6 11 (TX6 0) := Or.inl (g_tab 36 (by decide +kernel) rfl)
theorem kf_X6_15 : gLk RX6 15 (TX6 1) := Or.inl (g_tab 37 (by decide +kernel) rfl)
theorem kf_X0_9 : gLk RX0 9 (TX0 0) := Or.inl (g_tab 62 (by decide +kernel) rfl)
theorem kf_X0_13 : gLk RX0 13 (TX0 1) := Or.inl (g_tab 63 (by decide +kernel) rfl)
theorem kf_X0_16 : gLk RX0 16 (TX0 2) := Or.inl (g_tab 64 (by decide +kernel) rfl)
theorem kf_X0_20 : gLk RX0 20 (TX0 3) := Or.inl (g_tab 65 (by decide +kernel) rfl)
theorem kf_X0_23 : gLk RX0 23 (TX0 4) := Or.inl (g_tab 68 (by decide +kernel) rfl)
theorem kf_X8_9 : gLk RX8 9 (TX8 0) := Or.inl (g_tab 82 (by decide +kernel) rfl)
theorem kf_X8_15 : gLk RX8 15 (TX8 1) := Or.inl (g_tab 83 (by decide +kernel) rfl)
theorem kf_X8_18 : gLk RX8 18 (TX8 2) := Or.inl (g_tab 84 (by decide +kernel) rfl)
theorem kf_X8_22 : gLk RX8 22 (TX8 3) := Or.inl (g_tab 86 (by decide +kernel) rfl)
theorem kf_X8_25 : gLk RX8 25 (TX8 4) := Or.inl (g_tab 88 (by decide +kernel) rfl)
theorem kf_X8_28 : gLk RX8 28 (TX8 5) := Or.inl (g_tab 91 (by decide +kernel) rfl)
theorem kf_X8_31 : gLk RX8 31 (TX8 6) := Or.inl (g_tab 92 (by decide +kernel) rfl)
theorem kf_X8_34 : gLk RX8 34 (TX8 7) := Or.inl (g_tab 96 (by decide +kernel) rfl)
theorem kf_X8_37 : gLk RX8 37 (TX8 8) := Or.inl (g_tab 101 (by decide +kernel) rfl)
theorem kf_X8_40 : gLk RX8 40 (TX8 9) := Or.inl (g_tab 104 (by decide +kernel) rfl)
theorem kf_X8_43 : gLk RX8 43 (TX8 10) := Or.inl (g_tab 106 (by decide +kernel) rfl)
theorem kf_X8_49 : gLk RX8 49 (TX8 11) := Or.inl (g_tab 109 (by decide +kernel) rfl)
theorem kf_X8_53 : gLk RX8 53 (TX8 12) := Or.inl (g_tab 112 (by decide +kernel) rfl)
theorem kf_X8_57 : gLk RX8 57 (TX8 13) := Or.inl (g_tab 118 (by decide +kernel) rfl)
theorem kf_X8_60 : gLk RX8 60 (TX8 14) := Or.inl (g_tab 123 (by decide +kernel) rfl)
theorem kf_X8_63 : gLk RX8 63 (TX8 15) := Or.inl (g_tab 128 (by decide +kernel) rfl)
theorem kf_X8_66 : gLk RX8 66 (TX8 16) := Or.inl (g_tab 130 (by decide +kernel) rfl)
theorem kf_X8_69 : gLk RX8 69 (TX8 17) := Or.inl (g_tab 133 (by decide +kernel) rfl)
theorem kf_X7_28 : gLk RX7 28 (TX7 0) := Or.inl (g_tab 179 (by decide +kernel) rfl)
theorem kf_X7_9 : gLk RX7 9 (TX7 1) := Or.inl (g_tab 180 (by decide +kernel) rfl)
theorem kf_X7_15 : gLk RX7 15 (TX7 2) := Or.inl (g_tab 181 (by decide +kernel) rfl)
theorem kf_X7_18 : gLk RX7 18 (TX7 3) := Or.inl (g_tab 183 (by decide +kernel) rfl)
theorem kf_X7_21 : gLk RX7 21 (TX7 4) := Or.inl (g_tab 185 (by decide +kernel) rfl)
theorem kf_X7_24 : gLk RX7 24 (TX7 5) := Or.inl (g_tab 187 (by decide +kernel) rfl)
theorem kf_X4_40 : gLk RX4 40 (TX4 0) := Or.inl (g_tab 202 (by decide +kernel) rfl)
theorem kf_X4_12 : gLk RX4 12 (TX4 1) := Or.inl (g_tab 203 (by decide +kernel) rfl)
theorem kf_X4_18 : gLk RX4 18 (TX4 2) := Or.inl (g_tab 204 (by decide +kernel) rfl)
theorem kf_X4_22 : gLk RX4 22 (TX4 3) := Or.inl (g_tab 205 (by decide +kernel) rfl)
theorem kf_X4_25 : gLk RX4 25 (TX4 4) := Or.inl (g_tab 206 (by decide +kernel) rfl)
theorem kf_X4_29 : gLk RX4 29 (TX4 5) := Or.inl (g_tab 207 (by decide +kernel) rfl)
theorem kf_X4_32 : gLk RX4 32 (TX4 6) := Or.inl (g_tab 209 (by decide +kernel) rfl)
theorem kf_X5_9 : gLk RX5 9 (TX5 0) := Or.inl (g_tab 232 (by decide +kernel) rfl)
theorem kf_X5_15 : gLk RX5 15 (TX5 1) := Or.inl (g_tab 234 (by decide +kernel) rfl)
theorem kf_X5_18 : gLk RX5 18 (TX5 2) := Or.inl (g_tab 236 (by decide +kernel) rfl)
theorem kf_X5_22 : gLk RX5 22 (TX5 3) := Or.inl (g_tab 239 (by decide +kernel) rfl)
theorem kf_X5_25 : gLk RX5 25 (TX5 4) := Or.inl (g_tab 243 (by decide +kernel) rfl)
theorem kf_X5_28 : gLk RX5 28 (TX5 5) := Or.inl (g_tab 246 (by decide +kernel) rfl)
theorem kf_X5_31 : gLk RX5 31 (TX5 6) := Or.inl (g_tab 249 (by decide +kernel) rfl)
theorem kf_X5_34 : gLk RX5 34 (TX5 7) := Or.inl (g_tab 251 (by decide +kernel) rfl)
theorem kf_X5_37 : gLk RX5 37 (TX5 8) := Or.inl (g_tab 253 (by decide +kernel) rfl)
theorem kf_X5_40 : gLk RX5 40 (TX5 9) := Or.inl (g_tab 256 (by decide +kernel) rfl)
theorem kf_X1_11 : gLk RX1 11 (TX1 0) := Or.inl (g_tab 288 (by decide +kernel) rfl)
theorem kf_X1_15 : gLk RX1 15 (TX1 1) := Or.inl (g_tab 289 (by decide +kernel) rfl)
theorem kf_X1_19 : gLk RX1 19 (TX1 2) := Or.inl (g_tab 291 (by decide +kernel) rfl)
theorem kf_X9_9 : gLk RX9 9 (TX9 0) := Or.inl (g_tab 308 (by decide +kernel) rfl)
theorem kf_X9_15 : gLk RX9 15 (TX9 1) := Or.inl (g_tab 309 (by decide +kernel) rfl)
theorem kf_X9_20 : gLk RX9 20 (TX9 2) := Or.inl (g_tab 310 (by decide +kernel) rfl)
theorem kf_X9_23 : gLk RX9 23 (TX9 3) := Or.inl (g_tab 311 (by decide +kernel) rfl)
theorem kf_X9_26 : gLk RX9 26 (TX9 4) := Or.inl (g_tab 312 (by decide +kernel) rfl)
theorem kf_X9_29 : gLk RX9 29 (TX9 5) := Or.inl (g_tab 313 (by decide +kernel) rfl)
theorem kf_X9_32 : gLk RX9 32 (TX9 6) := Or.inl (g_tab 314 (by decide +kernel) rfl)
theorem kf_X9_35 : gLk RX9 35 (TX9 7) := Or.inl (g_tab 315 (by decide +kernel) rfl)
theorem kf_X9_39 : gLk RX9 39 (TX9 8) := Or.inl (g_tab 317 (by decide +kernel) rfl)
theorem kf_X9_42 : gLk RX9 42 (TX9 9) := Or.inl (g_tab 319 (by decide +kernel) rfl)
theorem kf_X3_9 : gLk RX3 9 (TX3 0) := Or.inl (g_tab 349 (by decide +kernel) rfl)
theorem kf_X2_11 : gLk RX2 11 (TX2 0) := Or.inl (g_tab 360 (by decide +kernel) rfl)
theorem kf_X2_15 : gLk RX2 15 (TX2 1) := Or.inl (g_tab 361 (by decide +kernel) rfl)
theorem kf_X2_18 : gLk RX2 18 (TX2 2) := Or.inl (g_tab 362 (by decide +kernel) rfl)
theorem kf_X2_22 : gLk RX2 22 (TX2 3) := Or.inl (g_tab 363 (by decide +kernel) rfl)
theorem kf_X2_25 : gLk RX2 25 (TX2 4) := Or.inl (g_tab 364 (by decide +kernel) rfl)
theorem kf_X2_28 : gLk RX2 28 (TX2 5) := Or.inl (g_tab 365 (by decide +kernel) rfl)
theorem kf_X2_31 : gLk RX2 31 (TX2 6) := Or.inl (g_tab 366 (by decide +kernel) rfl)
theorem kf_X2_34 : gLk RX2 34 (TX2 7) := Or.inl (g_tab 367 (by decide +kernel) rfl)
theorem kf_X2_39 : gLk RX2 39 (TX2 8) := Or.inl (g_tab 368 (by decide +kernel) rfl)
theorem kf_X2_42 : gLk RX2 42 (TX2 9) := Or.inl (g_tab 369 (by decide +kernel) rfl)
theorem kf_X2_45 : gLk RX2 45 (TX2 10) := Or.inl (g_tab 370 (by decide +kernel) rfl)
theorem kf_X2_49 : gLk RX2 49 (TX2 11) := Or.inl (g_tab 372 (by decide +kernel) rfl)
theorem kf_X10_10 : gLk RX10 10 (TX10 0) := Or.inl (g_tab 431 (by decide +kernel) rfl)
theorem kf_X10_21 : gLk RX10 21 (TX10 1) := Or.inl (g_tab 432 (by decide +kernel) rfl)
theorem kf_X10_28 : gLk RX10 28 (TX10 2) := Or.inl (g_tab 433 (by decide +kernel) rfl)
theorem kf_X10_35 : gLk RX10 35 (TX10 3) := Or.inl (g_tab 434 (by decide +kernel) rfl)
theorem kf_X10_39 : gLk RX10 39 (TX10 4) := Or.inl (g_tab 435 (by decide +kernel) rfl)
theorem kf_X10_43 : gLk RX10 43 (TX10 5) := Or.inl (g_tab 436 (by decide +kernel) rfl)
theorem kf_X10_50 : gLk RX10 50 (TX10 6) := Or.inl (g_tab 437 (by decide +kernel) rfl)
theorem kf_X10_57 : gLk RX10 57 (TX10 7) := Or.inl (g_tab 438 (by decide +kernel) rfl)
theorem kf_X10_64 : gLk RX10 64 (TX10 8) := Or.inl (g_tab 439 (by decide +kernel) rfl)
theorem kf_X10_71 : gLk RX10 71 (TX10 9) := Or.inl (g_tab 440 (by decide +kernel) rfl)
theorem kf_X11_7 : gLk RX11 7 (TX11 0) := Or.inl (g_tab 1251 (by decide +kernel) rfl)
theorem kf_X11_157 : gLk RX11 157 (TX11 1) := Or.inl (g_tab 1252 (by decide +kernel) rfl)
theorem kf_X11_197 : gLk RX11 197 (TX11 2) := Or.inl (g_tab 1253 (by decide +kernel) rfl)
theorem kf_X11_13 : gLk RX11 13 (TX11 3) := Or.inl (g_tab 1254 (by decide +kernel) rfl)
theorem kf_X11_164 : gLk RX11 164 (TX11 4) := Or.inl (g_tab 1255 (by decide +kernel) rfl)
theorem kf_X11_167 : gLk RX11 167 (TX11 5) := Or.inl (g_tab 1256 (by decide +kernel) rfl)
theorem kf_X11_184 : gLk RX11 184 (TX11 6) := Or.inl (g_tab 1257 (by decide +kernel) rfl)
theorem kf_X11_174 : gLk RX11 174 (TX11 7) := Or.inl (g_tab 1258 (by decide +kernel) rfl)
theorem kf_X11_181 : gLk RX11 181 (TX11 8) := Or.inl (g_tab 1259 (by decide +kernel) rfl)
theorem kf_X11_177 : gLk RX11 177 (TX11 9) := Or.inl (g_tab 1260 (by decide +kernel) rfl)
theorem kf_X11_17 : gLk RX11 17 (TX11 10) := Or.inl (g_tab 1261 (by decide +kernel) rfl)
theorem kf_X11_21 : gLk RX11 21 (TX11 11) := Or.inl (g_tab 1262 (by decide +kernel) rfl)
theorem kf_X11_24 : gLk RX11 24 (TX11 12) := Or.inl (g_tab 1263 (by decide +kernel) rfl)
theorem kf_X11_27 : gLk RX11 27 (TX11 13) := Or.inl (g_tab 1264 (by decide +kernel) rfl)
theorem kf_X11_30 : gLk RX11 30 (TX11 14) := Or.inl (g_tab 1265 (by decide +kernel) rfl)
theorem kf_X11_33 : gLk RX11 33 (TX11 15) := Or.inl (g_tab 1266 (by decide +kernel) rfl)
theorem kf_X11_36 : gLk RX11 36 (TX11 16) := Or.inl (g_tab 1267 (by decide +kernel) rfl)
theorem kf_X11_272 : gLk RX11 272 (TX11 17) := Or.inl (g_tab 1268 (by decide +kernel) rfl)
theorem kf_X11_329 : gLk RX11 329 (TX11 18) := Or.inl (g_tab 1269 (by decide +kernel) rfl)
theorem kf_X11_275 : gLk RX11 275 (TX11 19) := Or.inl (g_tab 1270 (by decide +kernel) rfl)
theorem kf_X11_288 : gLk RX11 288 (TX11 20) := Or.inl (g_tab 1271 (by decide +kernel) rfl)
theorem kf_X11_401 : gLk RX11 401 (TX11 21) := Or.inl (g_tab 1272 (by decide +kernel) rfl)
theorem kf_X11_291 : gLk RX11 291 (TX11 22) := Or.inl (g_tab 1273 (by decide +kernel) rfl)
theorem kf_X11_285 : gLk RX11 285 (TX11 23) := Or.inl (g_tab 1274 (by decide +kernel) rfl)
theorem kf_X11_39 : gLk RX11 39 (TX11 24) := Or.inl (g_tab 1275 (by decide +kernel) rfl)
theorem kf_X11_42 : gLk RX11 42 (TX11 25) := Or.inl (g_tab 1276 (by decide +kernel) rfl)
theorem kf_X11_45 : gLk RX11 45 (TX11 26) := Or.inl (g_tab 1277 (by decide +kernel) rfl)
theorem kf_X11_48 : gLk RX11 48 (TX11 27) := Or.inl (g_tab 1278 (by decide +kernel) rfl)
theorem kf_X11_51 : gLk RX11 51 (TX11 28) := Or.inl (g_tab 1279 (by decide +kernel) rfl)
theorem kf_X11_54 : gLk RX11 54 (TX11 29) := Or.inl (g_tab 1280 (by decide +kernel) rfl)
theorem kf_X11_57 : gLk RX11 57 (TX11 30) := Or.inl (g_tab 1281 (by decide +kernel) rfl)
theorem kf_X11_60 : gLk RX11 60 (TX11 31) := Or.inl (g_tab 1282 (by decide +kernel) rfl)
theorem kf_X11_63 : gLk RX11 63 (TX11 32) := Or.inl (g_tab 1283 (by decide +kernel) rfl)
theorem kf_X11_66 : gLk RX11 66 (TX11 33) := Or.inl (g_tab 1284 (by decide +kernel) rfl)
theorem kf_X11_69 : gLk RX11 69 (TX11 34) := Or.inl (g_tab 1285 (by decide +kernel) rfl)
theorem kf_X11_72 : gLk RX11 72 (TX11 35) := Or.inl (g_tab 1286 (by decide +kernel) rfl)
theorem kf_X11_75 : gLk RX11 75 (TX11 36) := Or.inl (g_tab 1287 (by decide +kernel) rfl)
theorem kf_X11_78 : gLk RX11 78 (TX11 37) := Or.inl (g_tab 1288 (by decide +kernel) rfl)
theorem kf_X11_81 : gLk RX11 81 (TX11 38) := Or.inl (g_tab 1289 (by decide +kernel) rfl)
theorem kf_X11_84 : gLk RX11 84 (TX11 39) := Or.inl (g_tab 1290 (by decide +kernel) rfl)
theorem kf_X11_87 : gLk RX11 87 (TX11 40) := Or.inl (g_tab 1291 (by decide +kernel) rfl)
theorem kf_X11_90 : gLk RX11 90 (TX11 41) := Or.inl (g_tab 1292 (by decide +kernel) rfl)
theorem kf_X11_94 : gLk RX11 94 (TX11 42) := Or.inl (g_tab 1293 (by decide +kernel) rfl)
theorem kf_X11_266 : gLk RX11 266 (TX11 43) := Or.inl (g_tab 1294 (by decide +kernel) rfl)
theorem kf_X11_339 : gLk RX11 339 (TX11 44) := Or.inl (g_tab 1295 (by decide +kernel) rfl)
theorem kf_X11_349 : gLk RX11 349 (TX11 45) := Or.inl (g_tab 1296 (by decide +kernel) rfl)
theorem kf_X11_377 : gLk RX11 377 (TX11 46) := Or.inl (g_tab 1297 (by decide +kernel) rfl)
theorem kf_X11_383 : gLk RX11 383 (TX11 47) := Or.inl (g_tab 1298 (by decide +kernel) rfl)
theorem kf_X11_392 : gLk RX11 392 (TX11 48) := Or.inl (g_tab 1299 (by decide +kernel) rfl)
theorem kf_X11_395 : gLk RX11 395 (TX11 49) := Or.inl (g_tab 1300 (by decide +kernel) rfl)
theorem kf_X11_398 : gLk RX11 398 (TX11 50) := Or.inl (g_tab 1301 (by decide +kernel) rfl)
theorem kf_X11_97 : gLk RX11 97 (TX11 51) := Or.inl (g_tab 1302 (by decide +kernel) rfl)
theorem kf_X11_367 : gLk RX11 367 (TX11 52) := Or.inl (g_tab 1303 (by decide +kernel) rfl)
theorem kf_X11_374 : gLk RX11 374 (TX11 53) := Or.inl (g_tab 1304 (by decide +kernel) rfl)
theorem kf_X11_380 : gLk RX11 380 (TX11 54) := Or.inl (g_tab 1305 (by decide +kernel) rfl)
theorem kf_X11_100 : gLk RX11 100 (TX11 55) := Or.inl (g_tab 1306 (by decide +kernel) rfl)
theorem kf_X11_103 : gLk RX11 103 (TX11 56) := Or.inl (g_tab 1307 (by decide +kernel) rfl)
theorem kf_X11_106 : gLk RX11 106 (TX11 57) := Or.inl (g_tab 1308 (by decide +kernel) rfl)
theorem kf_X11_404 : gLk RX11 404 (TX11 58) := Or.inl (g_tab 1309 (by decide +kernel) rfl)
theorem kf_X11_407 : gLk RX11 407 (TX11 59) := Or.inl (g_tab 1310 (by decide +kernel) rfl)
theorem kf_X11_109 : gLk RX11 109 (TX11 60) := Or.inl (g_tab 1311 (by decide +kernel) rfl)
theorem kf_X11_112 : gLk RX11 112 (TX11 61) := Or.inl (g_tab 1312 (by decide +kernel) rfl)
theorem kf_X11_413 : gLk RX11 413 (TX11 62) := Or.inl (g_tab 1313 (by decide +kernel) rfl)
theorem kf_X11_115 : gLk RX11 115 (TX11 63) := Or.inl (g_tab 1314 (by decide +kernel) rfl)
theorem kf_X11_118 : gLk RX11 118 (TX11 64) := Or.inl (g_tab 1315 (by decide +kernel) rfl)
theorem kf_X11_121 : gLk RX11 121 (TX11 65) := Or.inl (g_tab 1316 (by decide +kernel) rfl)
theorem kf_X11_124 : gLk RX11 124 (TX11 66) := Or.inl (g_tab 1317 (by decide +kernel) rfl)
theorem kf_X11_127 : gLk RX11 127 (TX11 67) := Or.inl (g_tab 1318 (by decide +kernel) rfl)
theorem kf_X11_130 : gLk RX11 130 (TX11 68) := Or.inl (g_tab 1319 (by decide +kernel) rfl)
theorem kf_X11_133 : gLk RX11 133 (TX11 69) := Or.inl (g_tab 1320 (by decide +kernel) rfl)
theorem kf_X11_136 : gLk RX11 136 (TX11 70) := Or.inl (g_tab 1321 (by decide +kernel) rfl)
theorem kf_X11_139 : gLk RX11 139 (TX11 71) := Or.inl (g_tab 1322 (by decide +kernel) rfl)
theorem kf_X11_142 : gLk RX11 142 (TX11 72) := Or.inl (g_tab 1323 (by decide +kernel) rfl)
theorem kf_X11_410 : gLk RX11 410 (TX11 73) := Or.inl (g_tab 1324 (by decide +kernel) rfl)
theorem kf_X11_511 : gLk RX11 511 (TX11 74) := Or.inl (g_tab 1325 (by decide +kernel) rfl)
theorem kf_X11_145 : gLk RX11 145 (TX11 75) := Or.inl (g_tab 1326 (by decide +kernel) rfl)
theorem kf_X11_148 : gLk RX11 148 (TX11 76) := Or.inl (g_tab 1327 (by decide +kernel) rfl)
theorem kf_X11_151 : gLk RX11 151 (TX11 77) := Or.inl (g_tab 1328 (by decide +kernel) rfl)
theorem kf_X11_154 : gLk RX11 154 (TX11 78) := Or.inl (g_tab 1329 (by decide +kernel) rfl)
theorem kf_X4_192 : gLk RX4 192 (TX0 3) := Or.inr ⟨"CradleTreaty", List.mem_of_getElem? (i := 0) (by decide +kernel)⟩
theorem kf_X10_351 : gLk RX10 351 (TX0 3) := Or.inr ⟨"CradleTreaty", List.mem_of_getElem? (i := 1) (by decide +kernel)⟩
theorem kf_X10_133 : gLk RX10 133 (TX8 2) := Or.inr ⟨"CradleTreaty", List.mem_of_getElem? (i := 2) (by decide +kernel)⟩
theorem kf_X10_137 : gLk RX10 137 (TX8 3) := Or.inr ⟨"CradleTreaty", List.mem_of_getElem? (i := 3) (by decide +kernel)⟩
theorem kf_X3_48 : gLk RX3 48 (TX8 4) := Or.inr ⟨"CradleTreaty", List.mem_of_getElem? (i := 4) (by decide +kernel)⟩
theorem kf_X10_149 : gLk RX10 149 (TX8 4) := Or.inr ⟨"CradleTreaty", List.mem_of_getElem? (i := 5) (by decide +kernel)⟩
theorem kf_X9_87 : gLk RX9 87 (TX8 6) := Or.inr ⟨"CradleTreaty", List.mem_of_getElem? (i := 6) (by decide +kernel)⟩
theorem kf_X10_165 : gLk RX10 165 (TX8 6) := Or.inr ⟨"CradleTreaty", List.mem_of_getElem? (i := 7) (by decide +kernel)⟩
theorem kf_X2_93 : gLk RX2 93 (TX8 6) := Or.inr ⟨"CradleTreaty", List.mem_of_getElem? (i := 8) (by decide +kernel)⟩
theorem kf_X5_74 : gLk RX5 74 (TX8 7) := Or.inr ⟨"CradleTreaty", List.mem_of_getElem? (i := 9) (by decide +kernel)⟩
theorem kf_X9_84 : gLk RX9 84 (TX8 7) := Or.inr ⟨"CradleTreaty", List.mem_of_getElem? (i := 10) (by decide +kernel)⟩
theorem kf_X10_168 : gLk RX10 168 (TX8 7) := Or.inr ⟨"CradleTreaty", List.mem_of_getElem? (i := 11) (by decide +kernel)⟩
theorem kf_X2_90 : gLk RX2 90 (TX8 7) := Or.inr ⟨"CradleTreaty", List.mem_of_getElem? (i := 12) (by decide +kernel)⟩
theorem kf_X10_171 : gLk RX10 171 (TX8 8) := Or.inr ⟨"CradleTreaty", List.mem_of_getElem? (i := 13) (by decide +kernel)⟩
theorem kf_X2_96 : gLk RX2 96 (TX8 8) := Or.inr ⟨"CradleTreaty", List.mem_of_getElem? (i := 14) (by decide +kernel)⟩
theorem kf_X10_174 : gLk RX10 174 (TX8 9) := Or.inr ⟨"CradleTreaty", List.mem_of_getElem? (i := 15) (by decide +kernel)⟩
theorem kf_X5_77 : gLk RX5 77 (TX8 10) := Or.inr ⟨"CradleTreaty", List.mem_of_getElem? (i := 16) (by decide +kernel)⟩
theorem kf_X10_177 : gLk RX10 177 (TX8 10) := Or.inr ⟨"CradleTreaty", List.mem_of_getElem? (i := 17) (by decide +kernel)⟩
theorem kf_X4_155 : gLk RX4 155 (TX8 11) := Or.inr ⟨"CradleTreaty", List.mem_of_getElem? (i := 18) (by decide +kernel)⟩
theorem kf_X10_347 : gLk RX10 347 (TX8 11) := Or.inr ⟨"CradleTreaty", List.mem_of_getElem? (i := 19) (by decide +kernel)⟩
theorem kf_X5_49 : gLk RX5 49 (TX8 12) := Or.inr ⟨"CradleTreaty", List.mem_of_getElem? (i := 20) (by decide +kernel)⟩
theorem kf_X10_120 : gLk RX10 120 (TX8 12) := Or.inr ⟨"CradleTreaty", List.mem_of_getElem? (i := 21) (by decide +kernel)⟩
theorem kf_X2_78 : gLk RX2 78 (TX8 12) := Or.inr ⟨"CradleTreaty", List.mem_of_getElem? (i := 22) (by decide +kernel)⟩
theorem kf_X4_104 : gLk RX4 104 (TX8 12) := Or.inr ⟨"CradleTreaty", List.mem_of_getElem? (i := 23) (by decide +kernel)⟩
theorem kf_X9_139 : gLk RX9 139 (TX8 12) := Or.inr ⟨"CradleTreaty", List.mem_of_getElem? (i := 24) (by decide +kernel)⟩
theorem kf_X5_54 : gLk RX5 54 (TX8 13) := Or.inr ⟨"CradleTreaty", List.mem_of_getElem? (i := 25) (by decide +kernel)⟩
theorem kf_X3_37 : gLk RX3 37 (TX8 13) := Or.inr ⟨"CradleTreaty", List.mem_of_getElem? (i := 26) (by decide +kernel)⟩
theorem kf_X4_114 : gLk RX4 114 (TX8 13) := Or.inr ⟨"CradleTreaty", List.mem_of_getElem? (i := 27) (by decide +kernel)⟩
theorem kf_X10_247 : gLk RX10 247 (TX8 13) := Or.inr ⟨"CradleTreaty", List.mem_of_getElem? (i := 28) (by decide +kernel)⟩
theorem kf_X9_81 : gLk RX9 81 (TX8 14) := Or.inr ⟨"CradleTreaty", List.mem_of_getElem? (i := 29) (by decide +kernel)⟩
theorem kf_X2_83 : gLk RX2 83 (TX8 14) := Or.inr ⟨"CradleTreaty", List.mem_of_getElem? (i := 30) (by decide +kernel)⟩
theorem kf_X4_128 : gLk RX4 128 (TX8 14) := Or.inr ⟨"CradleTreaty", List.mem_of_getElem? (i := 31) (by decide +kernel)⟩
theorem kf_X10_280 : gLk RX10 280 (TX8 14) := Or.inr ⟨"CradleTreaty", List.mem_of_getElem? (i := 32) (by decide +kernel)⟩
theorem kf_X10_140 : gLk RX10 140 (TX8 15) := Or.inr ⟨"CradleTreaty", List.mem_of_getElem? (i := 33) (by decide +kernel)⟩
theorem kf_X5_91 : gLk RX5 91 (TX8 16) := Or.inr ⟨"CradleTreaty", List.mem_of_getElem? (i := 34) (by decide +kernel)⟩
theorem kf_X4_149 : gLk RX4 149 (TX8 16) := Or.inr ⟨"CradleTreaty", List.mem_of_getElem? (i := 35) (by decide +kernel)⟩
theorem kf_X5_57 : gLk RX5 57 (TX8 17) := Or.inr ⟨"CradleTreaty", List.mem_of_getElem? (i := 36) (by decide +kernel)⟩
theorem kf_X4_152 : gLk RX4 152 (TX8 17) := Or.inr ⟨"CradleTreaty", List.mem_of_getElem? (i := 37) (by decide +kernel)⟩
theorem kf_X4_53 : gLk RX4 53 (TX7 2) := Or.inr ⟨"CradleTreaty", List.mem_of_getElem? (i := 38) (by decide +kernel)⟩
theorem kf_X4_56 : gLk RX4 56 (TX7 3) := Or.inr ⟨"CradleTreaty", List.mem_of_getElem? (i := 39) (by decide +kernel)⟩
theorem kf_X4_86 : gLk RX4 86 (TX7 4) := Or.inr ⟨"CradleTreaty", List.mem_of_getElem? (i := 40) (by decide +kernel)⟩
theorem kf_X4_89 : gLk RX4 89 (TX7 5) := Or.inr ⟨"CradleTreaty", List.mem_of_getElem? (i := 41) (by decide +kernel)⟩
theorem kf_X10_124 : gLk RX10 124 (TX4 5) := Or.inr ⟨"CradleTreaty", List.mem_of_getElem? (i := 42) (by decide +kernel)⟩
theorem kf_X10_127 : gLk RX10 127 (TX4 6) := Or.inr ⟨"CradleTreaty", List.mem_of_getElem? (i := 43) (by decide +kernel)⟩
theorem kf_X10_143 : gLk RX10 143 (TX5 0) := Or.inr ⟨"CradleTreaty", List.mem_of_getElem? (i := 44) (by decide +kernel)⟩
theorem kf_X10_146 : gLk RX10 146 (TX5 1) := Or.inr ⟨"CradleTreaty", List.mem_of_getElem? (i := 45) (by decide +kernel)⟩
theorem kf_X9_50 : gLk RX9 50 (TX5 2) := Or.inr ⟨"CradleTreaty", List.mem_of_getElem? (i := 46) (by decide +kernel)⟩
theorem kf_X10_155 : gLk RX10 155 (TX5 2) := Or.inr ⟨"CradleTreaty", List.mem_of_getElem? (i := 47) (by decide +kernel)⟩
theorem kf_X3_15 : gLk RX3 15 (TX5 3) := Or.inr ⟨"CradleTreaty", List.mem_of_getElem? (i := 48) (by decide +kernel)⟩
theorem kf_X9_45 : gLk RX9 45 (TX5 3) := Or.inr ⟨"CradleTreaty", List.mem_of_getElem? (i := 49) (by decide +kernel)⟩
theorem kf_X10_152 : gLk RX10 152 (TX5 3) := Or.inr ⟨"CradleTreaty", List.mem_of_getElem? (i := 50) (by decide +kernel)⟩
theorem kf_X0_33 : gLk RX0 33 (TX5 4) := Or.inr ⟨"CradleTreaty", List.mem_of_getElem? (i := 51) (by decide +kernel)⟩
theorem kf_X10_211 : gLk RX10 211 (TX5 4) := Or.inr ⟨"CradleTreaty", List.mem_of_getElem? (i := 52) (by decide +kernel)⟩
theorem kf_X0_38 : gLk RX0 38 (TX5 5) := Or.inr ⟨"CradleTreaty", List.mem_of_getElem? (i := 53) (by decide +kernel)⟩
theorem kf_X10_208 : gLk RX10 208 (TX5 5) := Or.inr ⟨"CradleTreaty", List.mem_of_getElem? (i := 54) (by decide +kernel)⟩
theorem kf_X10_329 : gLk RX10 329 (TX5 6) := Or.inr ⟨"CradleTreaty", List.mem_of_getElem? (i := 55) (by decide +kernel)⟩
theorem kf_X10_332 : gLk RX10 332 (TX5 7) := Or.inr ⟨"CradleTreaty", List.mem_of_getElem? (i := 56) (by decide +kernel)⟩
theorem kf_X0_41 : gLk RX0 41 (TX5 8) := Or.inr ⟨"CradleTreaty", List.mem_of_getElem? (i := 57) (by decide +kernel)⟩
theorem kf_X10_214 : gLk RX10 214 (TX5 8) := Or.inr ⟨"CradleTreaty", List.mem_of_getElem? (i := 58) (by decide +kernel)⟩
theorem kf_X10_335 : gLk RX10 335 (TX5 9) := Or.inr ⟨"CradleTreaty", List.mem_of_getElem? (i := 59) (by decide +kernel)⟩
theorem kf_X10_338 : gLk RX10 338 (TX1 1) := Or.inr ⟨"CradleTreaty", List.mem_of_getElem? (i := 60) (by decide +kernel)⟩
theorem kf_X10_341 : gLk RX10 341 (TX1 2) := Or.inr ⟨"CradleTreaty", List.mem_of_getElem? (i := 61) (by decide +kernel)⟩
theorem kf_X10_356 : gLk RX10 356 (TX9 7) := Or.inr ⟨"CradleTreaty", List.mem_of_getElem? (i := 62) (by decide +kernel)⟩
theorem kf_X10_241 : gLk RX10 241 (TX9 8) := Or.inr ⟨"CradleTreaty", List.mem_of_getElem? (i := 63) (by decide +kernel)⟩
theorem kf_X10_244 : gLk RX10 244 (TX9 9) := Or.inr ⟨"CradleTreaty", List.mem_of_getElem? (i := 64) (by decide +kernel)⟩
theorem kf_X10_344 : gLk RX10 344 (TX2 10) := Or.inr ⟨"CradleTreaty", List.mem_of_getElem? (i := 65) (by decide +kernel)⟩
theorem kf_X10_310 : gLk RX10 310 (TX2 11) := Or.inr ⟨"CradleTreaty", List.mem_of_getElem? (i := 66) (by decide +kernel)⟩
theorem km_L_9 : Cond.methodLink "CradleTreatyLaw" 9 yX10_init ∈ lw_good := g_tab 24 (by decide +kernel) rfl
theorem km_X10_1 : Cond.methodLink RX10 1 objectInit ∈ lw_good := g_tab 27 (by decide +kernel) rfl
theorem km_X6_3 : Cond.methodLink RX6 3 objectInit ∈ lw_good := g_tab 35 (by decide +kernel) rfl
theorem km_X10_18 : Cond.methodLink RX10 18 yX4_init ∈ lw_good := g_tab 46 (by decide +kernel) rfl
theorem km_X4_3 : Cond.methodLink RX4 3 objectInit ∈ lw_good := g_tab 49 (by decide +kernel) rfl
theorem km_X8_3 : Cond.methodLink RX8 3 objectInit ∈ lw_good := g_tab 55 (by decide +kernel) rfl
theorem km_X0_1 : Cond.methodLink RX0 1 objectInit ∈ lw_good := g_tab 61 (by decide +kernel) rfl
theorem km_X4_37 : Cond.methodLink RX4 37 yX7_init ∈ lw_good := g_tab 175 (by decide +kernel) rfl
theorem km_X7_3 : Cond.methodLink RX7 3 objectInit ∈ lw_good := g_tab 178 (by decide +kernel) rfl
theorem km_X5_3 : Cond.methodLink RX5 3 objectInit ∈ lw_good := g_tab 231 (by decide +kernel) rfl
theorem km_X10_34 : Cond.methodLink RX10 34 yX1_init ∈ lw_good := g_tab 281 (by decide +kernel) rfl
theorem km_X1_1 : Cond.methodLink RX1 1 objectInit ∈ lw_good := g_tab 284 (by decide +kernel) rfl
theorem km_X9_3 : Cond.methodLink RX9 3 objectInit ∈ lw_good := g_tab 305 (by decide +kernel) rfl
theorem km_X3_3 : Cond.methodLink RX3 3 objectInit ∈ lw_good := g_tab 348 (by decide +kernel) rfl
theorem km_X2_3 : Cond.methodLink RX2 3 objectInit ∈ lw_good := g_tab 358 (by decide +kernel) rfl
theorem km_X10_75 : Cond.methodLink RX10 75 yX10_beginAnew ∈ lw_good := g_tab 401 (by decide +kernel) rfl
theorem km_X10_78 : Cond.methodLink RX10 78 yX5_begin ∈ lw_good := g_tab 405 (by decide +kernel) rfl
theorem km_X5_43 : Cond.methodLink RX5 43 yJ7_fill_53178 ∈ lw_good := g_tab 409 (by decide +kernel) rfl
theorem km_X10_82 : Cond.methodLink RX10 82 yX1_forget ∈ lw_good := g_tab 412 (by decide +kernel) rfl
theorem km_X1_23 : Cond.methodLink RX1 23 yX5_copy ∈ lw_good := g_tab 416 (by decide +kernel) rfl
theorem km_X5_60 : Cond.methodLink RX5 60 arraycopyName ∈ lw_good := g_tab 420 (by decide +kernel) rfl
theorem km_X10_86 : Cond.methodLink RX10 86 yX9_clear ∈ lw_good := g_tab 423 (by decide +kernel) rfl
theorem km_X10_89 : Cond.methodLink RX10 89 yX2_forget ∈ lw_good := g_tab 427 (by decide +kernel) rfl
theorem km_L_13 : Cond.methodLink "CradleTreatyLaw" 13 yX10_feed ∈ lw_good := g_tab 462 (by decide +kernel) rfl
theorem km_X10_91 : Cond.methodLink RX10 91 yX6_hasRoomFor ∈ lw_good := g_tab 466 (by decide +kernel) rfl
theorem km_X10_95 : Cond.methodLink RX10 95 yX6_put ∈ lw_good := g_tab 470 (by decide +kernel) rfl
theorem km_X10_99 : Cond.methodLink RX10 99 yX6_length ∈ lw_good := g_tab 474 (by decide +kernel) rfl
theorem km_L_18 : Cond.methodLink "CradleTreatyLaw" 18 yX10_end ∈ lw_good := g_tab 478 (by decide +kernel) rfl
theorem km_X10_103 : Cond.methodLink RX10 103 yX6_cut ∈ lw_good := g_tab 482 (by decide +kernel) rfl
theorem km_L_23 : Cond.methodLink "CradleTreatyLaw" 23 yX10_treaty ∈ lw_good := g_tab 486 (by decide +kernel) rfl
theorem km_X10_106 : Cond.methodLink RX10 106 yX4_start ∈ lw_good := g_tab 490 (by decide +kernel) rfl
theorem km_X4_47 : Cond.methodLink RX4 47 yX8_clear ∈ lw_good := g_tab 494 (by decide +kernel) rfl
theorem km_X8_72 : Cond.methodLink RX8 72 yX0_clear ∈ lw_good := g_tab 498 (by decide +kernel) rfl
theorem km_X8_75 : Cond.methodLink RX8 75 yJ7_fill_53178 ∈ lw_good := g_tab 502 (by decide +kernel) rfl
theorem km_X4_50 : Cond.methodLink RX4 50 yX7_start ∈ lw_good := g_tab 503 (by decide +kernel) rfl
theorem km_X7_32 : Cond.methodLink RX7 32 yX7_step ∈ lw_good := g_tab 507 (by decide +kernel) rfl
theorem km_X7_35 : Cond.methodLink RX7 35 yX7_skipBlanks ∈ lw_good := g_tab 511 (by decide +kernel) rfl
theorem km_X7_64 : Cond.methodLink RX7 64 yX6_length ∈ lw_good := g_tab 515 (by decide +kernel) rfl
theorem km_X7_38 : Cond.methodLink RX7 38 yX6_at ∈ lw_good := g_tab 516 (by decide +kernel) rfl
theorem km_X7_44 : Cond.methodLink RX7 44 yX7_isLetter ∈ lw_good := g_tab 520 (by decide +kernel) rfl
theorem km_X7_48 : Cond.methodLink RX7 48 yX7_readWord ∈ lw_good := g_tab 523 (by decide +kernel) rfl
theorem km_X7_68 : Cond.methodLink RX7 68 yX7_kindOf ∈ lw_good := g_tab 527 (by decide +kernel) rfl
theorem km_X7_51 : Cond.methodLink RX7 51 yX7_isDigit ∈ lw_good := g_tab 532 (by decide +kernel) rfl
theorem km_X7_54 : Cond.methodLink RX7 54 yX7_readNumber ∈ lw_good := g_tab 535 (by decide +kernel) rfl
theorem km_X7_59 : Cond.methodLink RX7 59 yJ0_indexOf_0f7a4 ∈ lw_good := g_tab 540 (by decide +kernel) rfl
theorem km_J0_633 : Cond.methodLink RJ0 633 yJ0_indexOf_7cf53 ∈ lw_good := g_tab 544 (by decide +kernel) rfl
theorem km_J0_492 : Cond.methodLink RJ0 492 yJ0_isLatin1_aae02 ∈ lw_good := g_tab 548 (by decide +kernel) rfl
theorem km_J0_505 : Cond.methodLink RJ0 505 yJ0_length_8abf5 ∈ lw_good := g_tab 554 (by decide +kernel) rfl
theorem km_J0_335 : Cond.methodLink RJ0 335 yJ0_coder_7d493 ∈ lw_good := g_tab 558 (by decide +kernel) rfl
theorem km_J0_637 : Cond.methodLink RJ0 637 yJ1_indexOf_4cfef ∈ lw_good := g_tab 562 (by decide +kernel) rfl
theorem km_J1_88 : Cond.methodLink RJ1 88 yJ1_canEncode_9a6ad ∈ lw_good := g_tab 565 (by decide +kernel) rfl
theorem km_J1_92 : Cond.methodLink RJ1 92 yJ9_max_7cf53 ∈ lw_good := g_tab 568 (by decide +kernel) rfl
theorem km_J1_38 : Cond.methodLink RJ1 38 yJ9_min_7cf53 ∈ lw_good := g_tab 571 (by decide +kernel) rfl
theorem km_J1_95 : Cond.methodLink RJ1 95 yJ1_indexOfChar_4cfef ∈ lw_good := g_tab 574 (by decide +kernel) rfl
theorem km_J0_640 : Cond.methodLink RJ0 640 yJ2_indexOf_4cfef ∈ lw_good := g_tab 577 (by decide +kernel) rfl
theorem km_J2_224 : Cond.methodLink RJ2 224 yJ9_max_7cf53 ∈ lw_good := g_tab 580 (by decide +kernel) rfl
theorem km_J2_183 : Cond.methodLink RJ2 183 yJ9_min_7cf53 ∈ lw_good := g_tab 581 (by decide +kernel) rfl
theorem km_J2_228 : Cond.methodLink RJ2 228 yJ2_indexOfChar_4cfef ∈ lw_good := g_tab 583 (by decide +kernel) rfl
theorem km_J2_96 : Cond.methodLink RJ2 96 yJ2_checkBoundsBeginEnd_d044e ∈ lw_good := g_tab 586 (by decide +kernel) rfl
theorem km_J2_48 : Cond.methodLink RJ2 48 yJ2_length_9d52b ∈ lw_good := g_tab 589 (by decide +kernel) rfl
theorem km_J2_241 : Cond.methodLink RJ2 241 yJ0_checkBoundsBeginEnd_23922 ∈ lw_good := g_tab 592 (by decide +kernel) rfl
theorem km_J0_1062 : Cond.methodLink RJ0 1062 yJ3_checkFromToIndex_8c36e ∈ lw_good := g_tab 597 (by decide +kernel) rfl
theorem km_J2_244 : Cond.methodLink RJ2 244 yJ2_indexOfCharUnsafe_4cfef ∈ lw_good := g_tab 600 (by decide +kernel) rfl
theorem km_J2_71 : Cond.methodLink RJ2 71 yJ2_getChar_3b067 ∈ lw_good := g_tab 603 (by decide +kernel) rfl
theorem km_J2_232 : Cond.methodLink RJ2 232 yJ2_indexOfSupplementary_4cfef ∈ lw_good := g_tab 612 (by decide +kernel) rfl
theorem km_J2_164 : Cond.methodLink RJ2 164 yJ11_isValidCodePoint_9a6ad ∈ lw_good := g_tab 615 (by decide +kernel) rfl
theorem km_J2_157 : Cond.methodLink RJ2 157 yJ11_highSurrogate_5068e ∈ lw_good := g_tab 618 (by decide +kernel) rfl
theorem km_J2_161 : Cond.methodLink RJ2 161 yJ11_lowSurrogate_5068e ∈ lw_good := g_tab 622 (by decide +kernel) rfl
theorem km_X10_109 : Cond.methodLink RX10 109 yX4_isAtEnd ∈ lw_good := g_tab 626 (by decide +kernel) rfl
theorem km_X10_113 : Cond.methodLink RX10 113 yX4_readLine ∈ lw_good := g_tab 630 (by decide +kernel) rfl
theorem km_X4_57 : Cond.methodLink RX4 57 yX4_readFigure ∈ lw_good := g_tab 634 (by decide +kernel) rfl
theorem km_X4_79 : Cond.methodLink RX4 79 yX4_refuse ∈ lw_good := g_tab 638 (by decide +kernel) rfl
theorem km_X4_83 : Cond.methodLink RX4 83 yX7_step ∈ lw_good := g_tab 642 (by decide +kernel) rfl
theorem km_X4_93 : Cond.methodLink RX4 93 yX8_figureNamed ∈ lw_good := g_tab 643 (by decide +kernel) rfl
theorem km_X4_107 : Cond.methodLink RX4 107 yX8_addFigure ∈ lw_good := g_tab 647 (by decide +kernel) rfl
theorem km_X4_111 : Cond.methodLink RX4 111 yX4_pass ∈ lw_good := g_tab 651 (by decide +kernel) rfl
theorem km_X4_61 : Cond.methodLink RX4 61 yX4_readTribe ∈ lw_good := g_tab 655 (by decide +kernel) rfl
theorem km_X4_101 : Cond.methodLink RX4 101 yX8_tribeNamed ∈ lw_good := g_tab 659 (by decide +kernel) rfl
theorem km_X4_117 : Cond.methodLink RX4 117 yX4_passNumber ∈ lw_good := g_tab 663 (by decide +kernel) rfl
theorem km_X4_121 : Cond.methodLink RX4 121 yX4_passStiff ∈ lw_good := g_tab 667 (by decide +kernel) rfl
theorem km_X4_124 : Cond.methodLink RX4 124 yX8_addTribe ∈ lw_good := g_tab 671 (by decide +kernel) rfl
theorem km_X4_64 : Cond.methodLink RX4 64 yX4_readMove ∈ lw_good := g_tab 675 (by decide +kernel) rfl
theorem km_X4_131 : Cond.methodLink RX4 131 yX4_passFigure ∈ lw_good := g_tab 679 (by decide +kernel) rfl
theorem km_X4_97 : Cond.methodLink RX4 97 yX4_namedFigure ∈ lw_good := g_tab 683 (by decide +kernel) rfl
theorem km_X4_134 : Cond.methodLink RX4 134 yX8_addMove ∈ lw_good := g_tab 687 (by decide +kernel) rfl
theorem km_X4_67 : Cond.methodLink RX4 67 yX4_readWorth ∈ lw_good := g_tab 691 (by decide +kernel) rfl
theorem km_X4_138 : Cond.methodLink RX4 138 yX4_passTribe ∈ lw_good := g_tab 695 (by decide +kernel) rfl
theorem km_X4_141 : Cond.methodLink RX4 141 yX8_isWorthTold ∈ lw_good := g_tab 699 (by decide +kernel) rfl
theorem km_X8_81 : Cond.methodLink RX8 81 yX8_hasTribe ∈ lw_good := g_tab 703 (by decide +kernel) rfl
theorem km_X8_85 : Cond.methodLink RX8 85 yX8_hasFigure ∈ lw_good := g_tab 707 (by decide +kernel) rfl
theorem km_X4_145 : Cond.methodLink RX4 145 yX8_tellWorth ∈ lw_good := g_tab 711 (by decide +kernel) rfl
theorem km_X4_70 : Cond.methodLink RX4 70 yX4_readSlip ∈ lw_good := g_tab 715 (by decide +kernel) rfl
theorem km_X4_159 : Cond.methodLink RX4 159 yX0_isTold ∈ lw_good := g_tab 719 (by decide +kernel) rfl
theorem km_X4_164 : Cond.methodLink RX4 164 yX4_readOr ∈ lw_good := g_tab 723 (by decide +kernel) rfl
theorem km_X4_167 : Cond.methodLink RX4 167 yX4_readAnd ∈ lw_good := g_tab 727 (by decide +kernel) rfl
theorem km_X4_174 : Cond.methodLink RX4 174 yX4_readOne ∈ lw_good := g_tab 731 (by decide +kernel) rfl
theorem km_X4_177 : Cond.methodLink RX4 177 yX4_readNot ∈ lw_good := g_tab 735 (by decide +kernel) rfl
theorem km_X4_170 : Cond.methodLink RX4 170 yX0_addStep ∈ lw_good := g_tab 739 (by decide +kernel) rfl
theorem km_X0_26 : Cond.methodLink RX0 26 yX0_add ∈ lw_good := g_tab 743 (by decide +kernel) rfl
theorem km_X4_180 : Cond.methodLink RX4 180 yX4_readSum ∈ lw_good := g_tab 747 (by decide +kernel) rfl
theorem km_X4_183 : Cond.methodLink RX4 183 yX4_readTerm ∈ lw_good := g_tab 751 (by decide +kernel) rfl
theorem km_X4_186 : Cond.methodLink RX4 186 yX4_readUnit ∈ lw_good := g_tab 755 (by decide +kernel) rfl
theorem km_X4_195 : Cond.methodLink RX4 195 yX0_addNumber ∈ lw_good := g_tab 759 (by decide +kernel) rfl
theorem km_X4_198 : Cond.methodLink RX4 198 yX0_addWord ∈ lw_good := g_tab 763 (by decide +kernel) rfl
theorem km_X4_201 : Cond.methodLink RX4 201 yX4_readBrackets ∈ lw_good := g_tab 767 (by decide +kernel) rfl
theorem km_X4_189 : Cond.methodLink RX4 189 yX4_isTimes ∈ lw_good := g_tab 771 (by decide +kernel) rfl
theorem km_X4_73 : Cond.methodLink RX4 73 yX4_readCord ∈ lw_good := g_tab 774 (by decide +kernel) rfl
theorem km_X4_76 : Cond.methodLink RX4 76 yX4_readDraw ∈ lw_good := g_tab 778 (by decide +kernel) rfl
theorem km_X10_116 : Cond.methodLink RX10 116 yX4_exchange ∈ lw_good := g_tab 782 (by decide +kernel) rfl
theorem km_X4_44 : Cond.methodLink RX4 44 yX8_seeWhoCan ∈ lw_good := g_tab 786 (by decide +kernel) rfl
theorem km_X8_111 : Cond.methodLink RX8 111 yX8_ableIf ∈ lw_good := g_tab 790 (by decide +kernel) rfl
theorem km_L_28 : Cond.methodLink "CradleTreatyLaw" 28 yX10_fault ∈ lw_good := g_tab 794 (by decide +kernel) rfl
theorem km_L_32 : Cond.methodLink "CradleTreatyLaw" 32 yX10_tribe ∈ lw_good := g_tab 798 (by decide +kernel) rfl
theorem km_X10_130 : Cond.methodLink RX10 130 yX8_hasTribe ∈ lw_good := g_tab 802 (by decide +kernel) rfl
theorem km_X10_158 : Cond.methodLink RX10 158 yX8_movesFrom ∈ lw_good := g_tab 803 (by decide +kernel) rfl
theorem km_L_37 : Cond.methodLink "CradleTreatyLaw" 37 yX10_move ∈ lw_good := g_tab 807 (by decide +kernel) rfl
theorem km_X10_162 : Cond.methodLink RX10 162 yX8_hasMove ∈ lw_good := g_tab 811 (by decide +kernel) rfl
theorem km_X10_180 : Cond.methodLink RX10 180 yX8_tribesFor ∈ lw_good := g_tab 815 (by decide +kernel) rfl
theorem km_X8_118 : Cond.methodLink RX8 118 yX8_can ∈ lw_good := g_tab 819 (by decide +kernel) rfl
theorem km_X8_115 : Cond.methodLink RX8 115 yX8_hasMove ∈ lw_good := g_tab 823 (by decide +kernel) rfl
theorem km_L_41 : Cond.methodLink "CradleTreatyLaw" 41 yX10_worth ∈ lw_good := g_tab 824 (by decide +kernel) rfl
theorem km_X10_183 : Cond.methodLink RX10 183 yX8_hasFigure ∈ lw_good := g_tab 828 (by decide +kernel) rfl
theorem km_X10_186 : Cond.methodLink RX10 186 yX8_worthOf ∈ lw_good := g_tab 829 (by decide +kernel) rfl
theorem km_X8_88 : Cond.methodLink RX8 88 yX8_isWorthTold ∈ lw_good := g_tab 833 (by decide +kernel) rfl
theorem km_L_45 : Cond.methodLink "CradleTreatyLaw" 45 yX10_slip ∈ lw_good := g_tab 834 (by decide +kernel) rfl
theorem km_X10_190 : Cond.methodLink RX10 190 yX8_slipOf ∈ lw_good := g_tab 838 (by decide +kernel) rfl
theorem km_X8_121 : Cond.methodLink RX8 121 yX0_isTold ∈ lw_good := g_tab 842 (by decide +kernel) rfl
theorem km_X8_125 : Cond.methodLink RX8 125 yX0_value ∈ lw_good := g_tab 843 (by decide +kernel) rfl
theorem km_X0_30 : Cond.methodLink RX0 30 yX0_push ∈ lw_good := g_tab 847 (by decide +kernel) rfl
theorem km_X0_44 : Cond.methodLink RX0 44 yX0_pop ∈ lw_good := g_tab 851 (by decide +kernel) rfl
theorem km_X0_48 : Cond.methodLink RX0 48 yX0_bit ∈ lw_good := g_tab 855 (by decide +kernel) rfl
theorem km_X0_52 : Cond.methodLink RX0 52 yX0_pushJoined ∈ lw_good := g_tab 858 (by decide +kernel) rfl
theorem km_X0_55 : Cond.methodLink RX0 55 yX0_join ∈ lw_good := g_tab 862 (by decide +kernel) rfl
theorem km_X8_96 : Cond.methodLink RX8 96 yJ9_min_7cf53 ∈ lw_good := g_tab 865 (by decide +kernel) rfl
theorem km_X8_129 : Cond.methodLink RX8 129 yJ9_max_7cf53 ∈ lw_good := g_tab 866 (by decide +kernel) rfl
theorem km_L_49 : Cond.methodLink "CradleTreatyLaw" 49 yX10_take ∈ lw_good := g_tab 867 (by decide +kernel) rfl
theorem km_X10_194 : Cond.methodLink RX10 194 yX10_canTake ∈ lw_good := g_tab 871 (by decide +kernel) rfl
theorem km_X10_205 : Cond.methodLink RX10 205 yX8_can ∈ lw_good := g_tab 875 (by decide +kernel) rfl
theorem km_X10_198 : Cond.methodLink RX10 198 yX5_takeOff ∈ lw_good := g_tab 876 (by decide +kernel) rfl
theorem km_X5_66 : Cond.methodLink RX5 66 yX8_hasMove ∈ lw_good := g_tab 880 (by decide +kernel) rfl
theorem km_X5_70 : Cond.methodLink RX5 70 yX8_slipOf ∈ lw_good := g_tab 881 (by decide +kernel) rfl
theorem km_X5_80 : Cond.methodLink RX5 80 yX5_drop ∈ lw_good := g_tab 882 (by decide +kernel) rfl
theorem km_X10_202 : Cond.methodLink RX10 202 yX1_keep ∈ lw_good := g_tab 886 (by decide +kernel) rfl
theorem km_X1_27 : Cond.methodLink RX1 27 yX1_dropOldest ∈ lw_good := g_tab 890 (by decide +kernel) rfl
theorem km_L_53 : Cond.methodLink "CradleTreatyLaw" 53 yX10_rain ∈ lw_good := g_tab 894 (by decide +kernel) rfl
theorem km_L_57 : Cond.methodLink "CradleTreatyLaw" 57 yX10_give ∈ lw_good := g_tab 898 (by decide +kernel) rfl
theorem km_L_61 : Cond.methodLink "CradleTreatyLaw" 61 yX10_night ∈ lw_good := g_tab 902 (by decide +kernel) rfl
theorem km_X10_217 : Cond.methodLink RX10 217 yX8_worthToAll ∈ lw_good := g_tab 906 (by decide +kernel) rfl
theorem km_X8_92 : Cond.methodLink RX8 92 yX8_worthOf ∈ lw_good := g_tab 910 (by decide +kernel) rfl
theorem km_X10_220 : Cond.methodLink RX10 220 yX5_sleep ∈ lw_good := g_tab 911 (by decide +kernel) rfl
theorem km_X5_84 : Cond.methodLink RX5 84 yX8_worthOf ∈ lw_good := g_tab 915 (by decide +kernel) rfl
theorem km_X5_88 : Cond.methodLink RX5 88 yX8_hasTribe ∈ lw_good := g_tab 916 (by decide +kernel) rfl
theorem km_L_65 : Cond.methodLink "CradleTreatyLaw" 65 yX10_undo ∈ lw_good := g_tab 917 (by decide +kernel) rfl
theorem km_X10_223 : Cond.methodLink RX10 223 yX1_stepBack ∈ lw_good := g_tab 921 (by decide +kernel) rfl
theorem km_L_70 : Cond.methodLink "CradleTreatyLaw" 70 yX10_redo ∈ lw_good := g_tab 925 (by decide +kernel) rfl
theorem km_X10_227 : Cond.methodLink RX10 227 yX1_stepOn ∈ lw_good := g_tab 929 (by decide +kernel) rfl
theorem km_L_74 : Cond.methodLink "CradleTreatyLaw" 74 yX10_way ∈ lw_good := g_tab 933 (by decide +kernel) rfl
theorem km_X10_230 : Cond.methodLink RX10 230 yX10_isOther ∈ lw_good := g_tab 937 (by decide +kernel) rfl
theorem km_X10_233 : Cond.methodLink RX10 233 yX9_fewest ∈ lw_good := g_tab 941 (by decide +kernel) rfl
theorem km_X9_53 : Cond.methodLink RX9 53 yX8_hasFigure ∈ lw_good := g_tab 945 (by decide +kernel) rfl
theorem km_X9_59 : Cond.methodLink RX9 59 yX9_sit ∈ lw_good := g_tab 946 (by decide +kernel) rfl
theorem km_X9_63 : Cond.methodLink RX9 63 yX9_measure ∈ lw_good := g_tab 950 (by decide +kernel) rfl
theorem km_X9_71 : Cond.methodLink RX9 71 yJ7_fill_53178 ∈ lw_good := g_tab 954 (by decide +kernel) rfl
theorem km_X9_77 : Cond.methodLink RX9 77 yX9_measureMoves ∈ lw_good := g_tab 955 (by decide +kernel) rfl
theorem km_X9_90 : Cond.methodLink RX9 90 yX8_can ∈ lw_good := g_tab 959 (by decide +kernel) rfl
theorem km_X9_67 : Cond.methodLink RX9 67 yX9_layFewest ∈ lw_good := g_tab 960 (by decide +kernel) rfl
theorem km_X9_94 : Cond.methodLink RX9 94 yX9_firstNearer ∈ lw_good := g_tab 964 (by decide +kernel) rfl
theorem km_X9_98 : Cond.methodLink RX9 98 yX9_lay ∈ lw_good := g_tab 968 (by decide +kernel) rfl
theorem km_L_78 : Cond.methodLink "CradleTreatyLaw" 78 yX10_surest ∈ lw_good := g_tab 972 (by decide +kernel) rfl
theorem km_X10_237 : Cond.methodLink RX10 237 yX9_likeliest ∈ lw_good := g_tab 976 (by decide +kernel) rfl
theorem km_X9_102 : Cond.methodLink RX9 102 yX9_weigh ∈ lw_good := g_tab 980 (by decide +kernel) rfl
theorem km_X9_121 : Cond.methodLink RX9 121 yX8_slipOf ∈ lw_good := g_tab 984 (by decide +kernel) rfl
theorem km_X9_125 : Cond.methodLink RX9 125 yX9_weighMoves ∈ lw_good := g_tab 985 (by decide +kernel) rfl
theorem km_X9_128 : Cond.methodLink RX9 128 yJ9_max_7cf53 ∈ lw_good := g_tab 989 (by decide +kernel) rfl
theorem km_X9_106 : Cond.methodLink RX9 106 yX9_likeliestLength ∈ lw_good := g_tab 990 (by decide +kernel) rfl
theorem km_X9_114 : Cond.methodLink RX9 114 yX9_power ∈ lw_good := g_tab 994 (by decide +kernel) rfl
theorem km_X9_110 : Cond.methodLink RX9 110 yX9_layLikeliest ∈ lw_good := g_tab 997 (by decide +kernel) rfl
theorem km_X9_117 : Cond.methodLink RX9 117 yX9_commonPart ∈ lw_good := g_tab 1001 (by decide +kernel) rfl
theorem km_L_83 : Cond.methodLink "CradleTreatyLaw" 83 yX10_makes ∈ lw_good := g_tab 1004 (by decide +kernel) rfl
theorem km_X10_250 : Cond.methodLink RX10 250 yX3_byTakings ∈ lw_good := g_tab 1008 (by decide +kernel) rfl
theorem km_X3_21 : Cond.methodLink RX3 21 yX8_hasTribe ∈ lw_good := g_tab 1012 (by decide +kernel) rfl
theorem km_X3_27 : Cond.methodLink RX3 27 yX5_figureBit ∈ lw_good := g_tab 1013 (by decide +kernel) rfl
theorem km_X3_31 : Cond.methodLink RX3 31 yJ7_fill_53178 ∈ lw_good := g_tab 1017 (by decide +kernel) rfl
theorem km_X3_40 : Cond.methodLink RX3 40 yX3_holdsMore ∈ lw_good := g_tab 1018 (by decide +kernel) rfl
theorem km_X3_51 : Cond.methodLink RX3 51 yX8_behind ∈ lw_good := g_tab 1022 (by decide +kernel) rfl
theorem km_X3_44 : Cond.methodLink RX3 44 yX3_heldByAny ∈ lw_good := g_tab 1026 (by decide +kernel) rfl
theorem km_L_87 : Cond.methodLink "CradleTreatyLaw" 87 yX10_hands ∈ lw_good := g_tab 1030 (by decide +kernel) rfl
theorem km_X10_254 : Cond.methodLink RX10 254 yX3_fewestHands ∈ lw_good := g_tab 1034 (by decide +kernel) rfl
theorem km_X3_55 : Cond.methodLink RX3 55 yJ6_bitCount_0f7a4 ∈ lw_good := g_tab 1038 (by decide +kernel) rfl
theorem km_X3_61 : Cond.methodLink RX3 61 yX3_byTakings ∈ lw_good := g_tab 1044 (by decide +kernel) rfl
theorem km_X10_257 : Cond.methodLink RX10 257 yJ6_bitCount_0f7a4 ∈ lw_good := g_tab 1045 (by decide +kernel) rfl
theorem km_L_91 : Cond.methodLink "CradleTreatyLaw" 91 yX10_deal ∈ lw_good := g_tab 1046 (by decide +kernel) rfl
theorem km_X10_262 : Cond.methodLink RX10 262 yX9_settle ∈ lw_good := g_tab 1050 (by decide +kernel) rfl
theorem km_X9_133 : Cond.methodLink RX9 133 arraycopyName ∈ lw_good := g_tab 1054 (by decide +kernel) rfl
theorem km_X9_142 : Cond.methodLink RX9 142 yX9_choose ∈ lw_good := g_tab 1055 (by decide +kernel) rfl
theorem km_X9_146 : Cond.methodLink RX9 146 yX8_worthOf ∈ lw_good := g_tab 1059 (by decide +kernel) rfl
theorem km_L_95 : Cond.methodLink "CradleTreatyLaw" 95 yX10_fair ∈ lw_good := g_tab 1060 (by decide +kernel) rfl
theorem km_X10_265 : Cond.methodLink RX10 265 yX8_isFairer ∈ lw_good := g_tab 1064 (by decide +kernel) rfl
theorem km_X8_101 : Cond.methodLink RX8 101 yX8_leastWorth ∈ lw_good := g_tab 1068 (by decide +kernel) rfl
theorem km_X8_105 : Cond.methodLink RX8 105 yX8_worthToAll ∈ lw_good := g_tab 1072 (by decide +kernel) rfl
theorem km_L_99 : Cond.methodLink "CradleTreatyLaw" 99 yX10_good ∈ lw_good := g_tab 1073 (by decide +kernel) rfl
theorem km_X10_268 : Cond.methodLink RX10 268 yX8_isBeaten ∈ lw_good := g_tab 1077 (by decide +kernel) rfl
theorem km_X8_108 : Cond.methodLink RX8 108 yX8_beats ∈ lw_good := g_tab 1081 (by decide +kernel) rfl
theorem km_L_103 : Cond.methodLink "CradleTreatyLaw" 103 yX10_round ∈ lw_good := g_tab 1085 (by decide +kernel) rfl
theorem km_X10_271 : Cond.methodLink RX10 271 yX8_ableAny ∈ lw_good := g_tab 1089 (by decide +kernel) rfl
theorem km_X10_274 : Cond.methodLink RX10 274 yX8_behind ∈ lw_good := g_tab 1093 (by decide +kernel) rfl
theorem km_L_107 : Cond.methodLink "CradleTreatyLaw" 107 yX10_near ∈ lw_good := g_tab 1094 (by decide +kernel) rfl
theorem km_X10_277 : Cond.methodLink RX10 277 yX5_figureBit ∈ lw_good := g_tab 1098 (by decide +kernel) rfl
theorem km_L_111 : Cond.methodLink "CradleTreatyLaw" 111 yX10_both ∈ lw_good := g_tab 1099 (by decide +kernel) rfl
theorem km_L_115 : Cond.methodLink "CradleTreatyLaw" 115 yX10_clumsy ∈ lw_good := g_tab 1103 (by decide +kernel) rfl
theorem km_L_119 : Cond.methodLink "CradleTreatyLaw" 119 yX10_idle ∈ lw_good := g_tab 1107 (by decide +kernel) rfl
theorem km_L_123 : Cond.methodLink "CradleTreatyLaw" 123 yX10_ends ∈ lw_good := g_tab 1111 (by decide +kernel) rfl
theorem km_L_127 : Cond.methodLink "CradleTreatyLaw" 127 yX10_sources ∈ lw_good := g_tab 1115 (by decide +kernel) rfl
theorem km_X10_283 : Cond.methodLink RX10 283 yX8_othersLedTo ∈ lw_good := g_tab 1119 (by decide +kernel) rfl
theorem km_L_131 : Cond.methodLink "CradleTreatyLaw" 131 yX10_will ∈ lw_good := g_tab 1123 (by decide +kernel) rfl
theorem km_X10_286 : Cond.methodLink RX10 286 yX5_hasBehind ∈ lw_good := g_tab 1127 (by decide +kernel) rfl
theorem km_L_135 : Cond.methodLink "CradleTreatyLaw" 135 yX10_mirror ∈ lw_good := g_tab 1131 (by decide +kernel) rfl
theorem km_X10_290 : Cond.methodLink RX10 290 yX8_ableIf ∈ lw_good := g_tab 1135 (by decide +kernel) rfl
theorem km_L_139 : Cond.methodLink "CradleTreatyLaw" 139 yX10_lies ∈ lw_good := g_tab 1136 (by decide +kernel) rfl
theorem km_X10_294 : Cond.methodLink RX10 294 yX9_lyingAt ∈ lw_good := g_tab 1140 (by decide +kernel) rfl
theorem km_L_143 : Cond.methodLink "CradleTreatyLaw" 143 yX10_seen ∈ lw_good := g_tab 1144 (by decide +kernel) rfl
theorem km_X10_297 : Cond.methodLink RX10 297 yX2_hasNumber ∈ lw_good := g_tab 1148 (by decide +kernel) rfl
theorem km_X10_300 : Cond.methodLink RX10 300 yX2_tell ∈ lw_good := g_tab 1151 (by decide +kernel) rfl
theorem km_L_148 : Cond.methodLink "CradleTreatyLaw" 148 yX10_felt ∈ lw_good := g_tab 1155 (by decide +kernel) rfl
theorem km_L_152 : Cond.methodLink "CradleTreatyLaw" 152 yX10_untell ∈ lw_good := g_tab 1159 (by decide +kernel) rfl
theorem km_X10_304 : Cond.methodLink RX10 304 yX2_takeBack ∈ lw_good := g_tab 1163 (by decide +kernel) rfl
theorem km_L_157 : Cond.methodLink "CradleTreatyLaw" 157 yX10_later ∈ lw_good := g_tab 1167 (by decide +kernel) rfl
theorem km_X10_307 : Cond.methodLink RX10 307 yX2_goOn ∈ lw_good := g_tab 1171 (by decide +kernel) rfl
theorem km_L_161 : Cond.methodLink "CradleTreatyLaw" 161 yX10_rows ∈ lw_good := g_tab 1176 (by decide +kernel) rfl
theorem km_X10_313 : Cond.methodLink RX10 313 yX2_count ∈ lw_good := g_tab 1180 (by decide +kernel) rfl
theorem km_X2_53 : Cond.methodLink RX2 53 yX2_gather ∈ lw_good := g_tab 1184 (by decide +kernel) rfl
theorem km_X2_64 : Cond.methodLink RX2 64 yJ7_fill_53178 ∈ lw_good := g_tab 1188 (by decide +kernel) rfl
theorem km_X2_70 : Cond.methodLink RX2 70 yX2_counts ∈ lw_good := g_tab 1189 (by decide +kernel) rfl
theorem km_X2_74 : Cond.methodLink RX2 74 yX2_hasNumber ∈ lw_good := g_tab 1193 (by decide +kernel) rfl
theorem km_X2_57 : Cond.methodLink RX2 57 yX2_walkOn ∈ lw_good := g_tab 1194 (by decide +kernel) rfl
theorem km_X2_86 : Cond.methodLink RX2 86 yX2_fits ∈ lw_good := g_tab 1198 (by decide +kernel) rfl
theorem km_X2_61 : Cond.methodLink RX2 61 yX2_walkBack ∈ lw_good := g_tab 1202 (by decide +kernel) rfl
theorem km_L_165 : Cond.methodLink "CradleTreatyLaw" 165 yX10_sure ∈ lw_good := g_tab 1206 (by decide +kernel) rfl
theorem km_X10_317 : Cond.methodLink RX10 317 yX2_onlyFigure ∈ lw_good := g_tab 1210 (by decide +kernel) rfl
theorem km_X2_99 : Cond.methodLink RX2 99 yX2_through ∈ lw_good := g_tab 1214 (by decide +kernel) rfl
theorem km_L_169 : Cond.methodLink "CradleTreatyLaw" 169 yX10_ask ∈ lw_good := g_tab 1218 (by decide +kernel) rfl
theorem km_X10_320 : Cond.methodLink RX10 320 yX2_bestToKnow ∈ lw_good := g_tab 1222 (by decide +kernel) rfl
theorem km_X2_108 : Cond.methodLink RX2 108 yX2_mostLeft ∈ lw_good := g_tab 1226 (by decide +kernel) rfl
theorem km_X2_103 : Cond.methodLink RX2 103 yJ9_max_7cf53 ∈ lw_good := g_tab 1230 (by decide +kernel) rfl
theorem km_X10_323 : Cond.methodLink RX10 323 yX2_mostLeft ∈ lw_good := g_tab 1231 (by decide +kernel) rfl
theorem km_L_173 : Cond.methodLink "CradleTreatyLaw" 173 yX10_image ∈ lw_good := g_tab 1232 (by decide +kernel) rfl
theorem km_X10_326 : Cond.methodLink RX10 326 yX5_copy ∈ lw_good := g_tab 1236 (by decide +kernel) rfl
theorem km_L_177 : Cond.methodLink "CradleTreatyLaw" 177 yX10_back ∈ lw_good := g_tab 1237 (by decide +kernel) rfl
theorem km_L_181 : Cond.methodLink "CradleTreatyLaw" 181 yX10_about ∈ lw_good := g_tab 1241 (by decide +kernel) rfl
theorem km_L_12 : Cond.methodLink "CradleTreatyLaw" 12 yX11_init ∈ lw_good := g_tab 1247 (by decide +kernel) rfl
theorem km_X11_1 : Cond.methodLink RX11 1 objectInit ∈ lw_good := g_tab 1250 (by decide +kernel) rfl
theorem km_L_17 : Cond.methodLink "CradleTreatyLaw" 17 yX11_feed ∈ lw_good := g_tab 1489 (by decide +kernel) rfl
theorem km_X11_160 : Cond.methodLink RX11 160 yX11_four ∈ lw_good := g_tab 1493 (by decide +kernel) rfl
theorem km_L_22 : Cond.methodLink "CradleTreatyLaw" 22 yX11_end ∈ lw_good := g_tab 1497 (by decide +kernel) rfl
theorem km_L_27 : Cond.methodLink "CradleTreatyLaw" 27 yX11_treaty ∈ lw_good := g_tab 1501 (by decide +kernel) rfl
theorem km_X11_389 : Cond.methodLink RX11 389 yX11_readAll ∈ lw_good := g_tab 1505 (by decide +kernel) rfl
theorem km_X11_249 : Cond.methodLink RX11 249 yX11_token ∈ lw_good := g_tab 1509 (by decide +kernel) rfl
theorem km_X11_170 : Cond.methodLink RX11 170 yX11_here ∈ lw_good := g_tab 1513 (by decide +kernel) rfl
theorem km_X11_187 : Cond.methodLink RX11 187 yX11_isLetter ∈ lw_good := g_tab 1517 (by decide +kernel) rfl
theorem km_X11_191 : Cond.methodLink RX11 191 yX11_isDigit ∈ lw_good := g_tab 1520 (by decide +kernel) rfl
theorem km_X11_194 : Cond.methodLink RX11 194 yX11_isSign ∈ lw_good := g_tab 1523 (by decide +kernel) rfl
theorem km_X11_386 : Cond.methodLink RX11 386 yX11_readLine ∈ lw_good := g_tab 1526 (by decide +kernel) rfl
theorem km_X11_242 : Cond.methodLink RX11 242 yX11_isWord ∈ lw_good := g_tab 1531 (by decide +kernel) rfl
theorem km_X11_355 : Cond.methodLink RX11 355 yX11_readFigure ∈ lw_good := g_tab 1535 (by decide +kernel) rfl
theorem km_X11_336 : Cond.methodLink RX11 336 yX11_newName ∈ lw_good := g_tab 1539 (by decide +kernel) rfl
theorem km_X11_260 : Cond.methodLink RX11 260 yX11_isName ∈ lw_good := g_tab 1543 (by decide +kernel) rfl
theorem km_X11_238 : Cond.methodLink RX11 238 yX11_isOwn ∈ lw_good := g_tab 1547 (by decide +kernel) rfl
theorem km_X11_246 : Cond.methodLink RX11 246 yX11_wrong ∈ lw_good := g_tab 1569 (by decide +kernel) rfl
theorem km_X11_263 : Cond.methodLink RX11 263 yX11_find ∈ lw_good := g_tab 1573 (by decide +kernel) rfl
theorem km_X11_358 : Cond.methodLink RX11 358 yX11_readTribe ∈ lw_good := g_tab 1577 (by decide +kernel) rfl
theorem km_X11_342 : Cond.methodLink RX11 342 yX11_told ∈ lw_good := g_tab 1581 (by decide +kernel) rfl
theorem km_X11_252 : Cond.methodLink RX11 252 yX11_want ∈ lw_good := g_tab 1585 (by decide +kernel) rfl
theorem km_X11_256 : Cond.methodLink RX11 256 yX11_toldNumber ∈ lw_good := g_tab 1589 (by decide +kernel) rfl
theorem km_X11_346 : Cond.methodLink RX11 346 yX11_takes ∈ lw_good := g_tab 1593 (by decide +kernel) rfl
theorem km_X11_361 : Cond.methodLink RX11 361 yX11_readMove ∈ lw_good := g_tab 1597 (by decide +kernel) rfl
theorem km_X11_352 : Cond.methodLink RX11 352 yX11_figure ∈ lw_good := g_tab 1601 (by decide +kernel) rfl
theorem km_X11_269 : Cond.methodLink RX11 269 yX11_oldName ∈ lw_good := g_tab 1605 (by decide +kernel) rfl
theorem km_X11_364 : Cond.methodLink RX11 364 yX11_readWorth ∈ lw_good := g_tab 1609 (by decide +kernel) rfl
theorem km_X11_371 : Cond.methodLink RX11 371 yX11_readSlip ∈ lw_good := g_tab 1613 (by decide +kernel) rfl
theorem km_X11_310 : Cond.methodLink RX11 310 yX11_unit ∈ lw_good := g_tab 1617 (by decide +kernel) rfl
theorem km_X11_294 : Cond.methodLink RX11 294 yX11_mayNot ∈ lw_good := g_tab 1621 (by decide +kernel) rfl
theorem km_X11_278 : Cond.methodLink RX11 278 yX11_tight ∈ lw_good := g_tab 1625 (by decide +kernel) rfl
theorem km_X11_297 : Cond.methodLink RX11 297 yX11_openUp ∈ lw_good := g_tab 1628 (by decide +kernel) rfl
theorem km_X11_300 : Cond.methodLink RX11 300 yX11_isFull ∈ lw_good := g_tab 1632 (by decide +kernel) rfl
theorem km_X11_303 : Cond.methodLink RX11 303 yX11_countUnit ∈ lw_good := g_tab 1636 (by decide +kernel) rfl
theorem km_X11_306 : Cond.methodLink RX11 306 yX11_asked ∈ lw_good := g_tab 1640 (by decide +kernel) rfl
theorem km_X11_281 : Cond.methodLink RX11 281 yX11_add ∈ lw_good := g_tab 1644 (by decide +kernel) rfl
theorem km_X11_313 : Cond.methodLink RX11 313 yX11_sign ∈ lw_good := g_tab 1648 (by decide +kernel) rfl
theorem km_X11_316 : Cond.methodLink RX11 316 yX11_hasBracket ∈ lw_good := g_tab 1652 (by decide +kernel) rfl
theorem km_X11_319 : Cond.methodLink RX11 319 yX11_close ∈ lw_good := g_tab 1656 (by decide +kernel) rfl
theorem km_X11_322 : Cond.methodLink RX11 322 yX11_hasRelation ∈ lw_good := g_tab 1660 (by decide +kernel) rfl
theorem km_L_31 : Cond.methodLink "CradleTreatyLaw" 31 yX11_fault ∈ lw_good := g_tab 1664 (by decide +kernel) rfl
theorem km_L_36 : Cond.methodLink "CradleTreatyLaw" 36 yX11_tribe ∈ lw_good := g_tab 1668 (by decide +kernel) rfl
theorem km_X11_431 : Cond.methodLink RX11 431 yX11_isTribe ∈ lw_good := g_tab 1672 (by decide +kernel) rfl
theorem km_X11_416 : Cond.methodLink RX11 416 yX11_isIn ∈ lw_good := g_tab 1676 (by decide +kernel) rfl
theorem km_X11_325 : Cond.methodLink RX11 325 yX11_truth ∈ lw_good := g_tab 1679 (by decide +kernel) rfl
theorem km_X11_434 : Cond.methodLink RX11 434 yX11_movesOf ∈ lw_good := g_tab 1682 (by decide +kernel) rfl
theorem km_X11_427 : Cond.methodLink RX11 427 yX11_can ∈ lw_good := g_tab 1686 (by decide +kernel) rfl
theorem km_X11_420 : Cond.methodLink RX11 420 yX11_canBy ∈ lw_good := g_tab 1690 (by decide +kernel) rfl
theorem km_L_40 : Cond.methodLink "CradleTreatyLaw" 40 yX11_move ∈ lw_good := g_tab 1694 (by decide +kernel) rfl
theorem km_X11_437 : Cond.methodLink RX11 437 yX11_isMove ∈ lw_good := g_tab 1698 (by decide +kernel) rfl
theorem km_X11_440 : Cond.methodLink RX11 440 yX11_whoCan ∈ lw_good := g_tab 1702 (by decide +kernel) rfl
theorem km_L_44 : Cond.methodLink "CradleTreatyLaw" 44 yX11_worth ∈ lw_good := g_tab 1706 (by decide +kernel) rfl
theorem km_X11_443 : Cond.methodLink RX11 443 yX11_isFigure ∈ lw_good := g_tab 1710 (by decide +kernel) rfl
theorem km_X11_446 : Cond.methodLink RX11 446 yX11_worthOf ∈ lw_good := g_tab 1714 (by decide +kernel) rfl
theorem km_L_48 : Cond.methodLink "CradleTreatyLaw" 48 yX11_slip ∈ lw_good := g_tab 1718 (by decide +kernel) rfl
theorem km_X11_449 : Cond.methodLink RX11 449 yX11_slipOf ∈ lw_good := g_tab 1722 (by decide +kernel) rfl
theorem km_X11_424 : Cond.methodLink RX11 424 yX11_slipped ∈ lw_good := g_tab 1726 (by decide +kernel) rfl
theorem km_X11_332 : Cond.methodLink RX11 332 yX11_done ∈ lw_good := g_tab 1730 (by decide +kernel) rfl
theorem km_L_52 : Cond.methodLink "CradleTreatyLaw" 52 yX11_take ∈ lw_good := g_tab 1733 (by decide +kernel) rfl
theorem km_X11_452 : Cond.methodLink RX11 452 yX11_act ∈ lw_good := g_tab 1737 (by decide +kernel) rfl
theorem km_L_56 : Cond.methodLink "CradleTreatyLaw" 56 yX11_rain ∈ lw_good := g_tab 1741 (by decide +kernel) rfl
theorem km_L_60 : Cond.methodLink "CradleTreatyLaw" 60 yX11_give ∈ lw_good := g_tab 1745 (by decide +kernel) rfl
theorem km_L_64 : Cond.methodLink "CradleTreatyLaw" 64 yX11_night ∈ lw_good := g_tab 1749 (by decide +kernel) rfl
theorem km_X11_455 : Cond.methodLink RX11 455 yX11_load ∈ lw_good := g_tab 1753 (by decide +kernel) rfl
theorem km_X11_458 : Cond.methodLink RX11 458 yX11_goNight ∈ lw_good := g_tab 1757 (by decide +kernel) rfl
theorem km_L_69 : Cond.methodLink "CradleTreatyLaw" 69 yX11_undo ∈ lw_good := g_tab 1761 (by decide +kernel) rfl
theorem km_X11_461 : Cond.methodLink RX11 461 yX11_exchange ∈ lw_good := g_tab 1765 (by decide +kernel) rfl
theorem km_L_73 : Cond.methodLink "CradleTreatyLaw" 73 yX11_redo ∈ lw_good := g_tab 1769 (by decide +kernel) rfl
theorem km_L_77 : Cond.methodLink "CradleTreatyLaw" 77 yX11_way ∈ lw_good := g_tab 1773 (by decide +kernel) rfl
theorem km_X11_471 : Cond.methodLink RX11 471 yX11_isOther ∈ lw_good := g_tab 1777 (by decide +kernel) rfl
theorem km_X11_474 : Cond.methodLink RX11 474 yX11_layLeft ∈ lw_good := g_tab 1781 (by decide +kernel) rfl
theorem km_X11_468 : Cond.methodLink RX11 468 yX11_leastFrom ∈ lw_good := g_tab 1786 (by decide +kernel) rfl
theorem km_X11_465 : Cond.methodLink RX11 465 yX11_takerAt ∈ lw_good := g_tab 1790 (by decide +kernel) rfl
theorem km_L_82 : Cond.methodLink "CradleTreatyLaw" 82 yX11_surest ∈ lw_good := g_tab 1794 (by decide +kernel) rfl
theorem km_X11_477 : Cond.methodLink RX11 477 yX11_power ∈ lw_good := g_tab 1798 (by decide +kernel) rfl
theorem km_X11_480 : Cond.methodLink RX11 480 yX11_surely ∈ lw_good := g_tab 1801 (by decide +kernel) rfl
theorem km_X11_484 : Cond.methodLink RX11 484 yX11_divisor ∈ lw_good := g_tab 1805 (by decide +kernel) rfl
theorem km_L_86 : Cond.methodLink "CradleTreatyLaw" 86 yX11_makes ∈ lw_good := g_tab 1808 (by decide +kernel) rfl
theorem km_X11_490 : Cond.methodLink RX11 490 yX11_madeBy ∈ lw_good := g_tab 1812 (by decide +kernel) rfl
theorem km_X11_487 : Cond.methodLink RX11 487 yX11_spreads ∈ lw_good := g_tab 1816 (by decide +kernel) rfl
theorem km_L_90 : Cond.methodLink "CradleTreatyLaw" 90 yX11_hands ∈ lw_good := g_tab 1820 (by decide +kernel) rfl
theorem km_X11_493 : Cond.methodLink RX11 493 yX11_members ∈ lw_good := g_tab 1824 (by decide +kernel) rfl
theorem km_L_94 : Cond.methodLink "CradleTreatyLaw" 94 yX11_deal ∈ lw_good := g_tab 1827 (by decide +kernel) rfl
theorem km_X11_496 : Cond.methodLink RX11 496 yX11_settledBy ∈ lw_good := g_tab 1831 (by decide +kernel) rfl
theorem km_L_98 : Cond.methodLink "CradleTreatyLaw" 98 yX11_fair ∈ lw_good := g_tab 1835 (by decide +kernel) rfl
theorem km_X11_499 : Cond.methodLink RX11 499 yX11_leastWorth ∈ lw_good := g_tab 1839 (by decide +kernel) rfl
theorem km_X11_502 : Cond.methodLink RX11 502 yX11_allWorth ∈ lw_good := g_tab 1843 (by decide +kernel) rfl
theorem km_L_102 : Cond.methodLink "CradleTreatyLaw" 102 yX11_good ∈ lw_good := g_tab 1847 (by decide +kernel) rfl
theorem km_X11_505 : Cond.methodLink RX11 505 yX11_isBetter ∈ lw_good := g_tab 1851 (by decide +kernel) rfl
theorem km_L_106 : Cond.methodLink "CradleTreatyLaw" 106 yX11_round ∈ lw_good := g_tab 1855 (by decide +kernel) rfl
theorem km_X11_508 : Cond.methodLink RX11 508 yX11_onFrom ∈ lw_good := g_tab 1859 (by decide +kernel) rfl
theorem km_L_110 : Cond.methodLink "CradleTreatyLaw" 110 yX11_near ∈ lw_good := g_tab 1863 (by decide +kernel) rfl
theorem km_L_114 : Cond.methodLink "CradleTreatyLaw" 114 yX11_both ∈ lw_good := g_tab 1867 (by decide +kernel) rfl
theorem km_L_118 : Cond.methodLink "CradleTreatyLaw" 118 yX11_clumsy ∈ lw_good := g_tab 1871 (by decide +kernel) rfl
theorem km_L_122 : Cond.methodLink "CradleTreatyLaw" 122 yX11_idle ∈ lw_good := g_tab 1875 (by decide +kernel) rfl
theorem km_L_126 : Cond.methodLink "CradleTreatyLaw" 126 yX11_ends ∈ lw_good := g_tab 1879 (by decide +kernel) rfl
theorem km_L_130 : Cond.methodLink "CradleTreatyLaw" 130 yX11_sources ∈ lw_good := g_tab 1883 (by decide +kernel) rfl
theorem km_L_134 : Cond.methodLink "CradleTreatyLaw" 134 yX11_will ∈ lw_good := g_tab 1887 (by decide +kernel) rfl
theorem km_L_138 : Cond.methodLink "CradleTreatyLaw" 138 yX11_mirror ∈ lw_good := g_tab 1891 (by decide +kernel) rfl
theorem km_L_142 : Cond.methodLink "CradleTreatyLaw" 142 yX11_lies ∈ lw_good := g_tab 1895 (by decide +kernel) rfl
theorem km_L_147 : Cond.methodLink "CradleTreatyLaw" 147 yX11_seen ∈ lw_good := g_tab 1899 (by decide +kernel) rfl
theorem km_X11_514 : Cond.methodLink RX11 514 yX11_tell ∈ lw_good := g_tab 1903 (by decide +kernel) rfl
theorem km_L_151 : Cond.methodLink "CradleTreatyLaw" 151 yX11_felt ∈ lw_good := g_tab 1907 (by decide +kernel) rfl
theorem km_L_156 : Cond.methodLink "CradleTreatyLaw" 156 yX11_untell ∈ lw_good := g_tab 1911 (by decide +kernel) rfl
theorem km_L_160 : Cond.methodLink "CradleTreatyLaw" 160 yX11_later ∈ lw_good := g_tab 1915 (by decide +kernel) rfl
theorem km_L_164 : Cond.methodLink "CradleTreatyLaw" 164 yX11_rows ∈ lw_good := g_tab 1920 (by decide +kernel) rfl
theorem km_X11_523 : Cond.methodLink RX11 523 yX11_layRows ∈ lw_good := g_tab 1924 (by decide +kernel) rfl
theorem km_X11_519 : Cond.methodLink RX11 519 yX11_allows ∈ lw_good := g_tab 1928 (by decide +kernel) rfl
theorem km_L_168 : Cond.methodLink "CradleTreatyLaw" 168 yX11_sure ∈ lw_good := g_tab 1932 (by decide +kernel) rfl
theorem km_X11_526 : Cond.methodLink RX11 526 yX11_through ∈ lw_good := g_tab 1936 (by decide +kernel) rfl
theorem km_L_172 : Cond.methodLink "CradleTreatyLaw" 172 yX11_ask ∈ lw_good := g_tab 1940 (by decide +kernel) rfl
theorem km_X11_529 : Cond.methodLink RX11 529 yX11_mostAt ∈ lw_good := g_tab 1944 (by decide +kernel) rfl
theorem km_L_176 : Cond.methodLink "CradleTreatyLaw" 176 yX11_image ∈ lw_good := g_tab 1948 (by decide +kernel) rfl
theorem km_X11_532 : Cond.methodLink RX11 532 yX11_isBox ∈ lw_good := g_tab 1952 (by decide +kernel) rfl
theorem km_L_180 : Cond.methodLink "CradleTreatyLaw" 180 yX11_back ∈ lw_good := g_tab 1955 (by decide +kernel) rfl
theorem km_L_184 : Cond.methodLink "CradleTreatyLaw" 184 yX11_about ∈ lw_good := g_tab 1959 (by decide +kernel) rfl
theorem kc_J2_227 : Cond.constant RJ2 227 (65536) ∈ lw_good := g_tab 582 (by decide +kernel) rfl
theorem kc_J11_110 : Cond.constant RJ11 110 (55232) ∈ lw_good := g_tab 621 (by decide +kernel) rfl
theorem kc_J11_76 : Cond.constant RJ11 76 (56320) ∈ lw_good := g_tab 625 (by decide +kernel) rfl
theorem kc_J6_265 : Cond.constant RJ6 265 (1431655765) ∈ lw_good := g_tab 1041 (by decide +kernel) rfl
theorem kc_J6_266 : Cond.constant RJ6 266 (858993459) ∈ lw_good := g_tab 1042 (by decide +kernel) rfl
theorem kc_J6_267 : Cond.constant RJ6 267 (252645135) ∈ lw_good := g_tab 1043 (by decide +kernel) rfl
theorem kc_X2_52 : Cond.constant RX2 52 (100000) ∈ lw_good := g_tab 1175 (by decide +kernel) rfl
theorem kc_X11_200 : Cond.constantLong RX11 200 (112602893349477) ∈ lw_good := g_tab 1530 (by decide +kernel) rfl
theorem kc_X11_202 : Cond.constantLong RX11 202 (500135715429) ∈ lw_good := g_tab 1551 (by decide +kernel) rfl
theorem kc_X11_204 : Cond.constantLong RX11 204 (495723310188) ∈ lw_good := g_tab 1552 (by decide +kernel) rfl
theorem kc_X11_206 : Cond.constantLong RX11 206 (495874303590) ∈ lw_good := g_tab 1553 (by decide +kernel) rfl
theorem kc_X11_208 : Cond.constantLong RX11 208 (30796712728556147) ∈ lw_good := g_tab 1554 (by decide +kernel) rfl
theorem kc_X11_210 : Cond.constantLong RX11 210 (1836021349) ∈ lw_good := g_tab 1555 (by decide +kernel) rfl
theorem kc_X11_212 : Cond.constantLong RX11 212 (112603009869170) ∈ lw_good := g_tab 1556 (by decide +kernel) rfl
theorem kc_X11_214 : Cond.constantLong RX11 214 (1751216740) ∈ lw_good := g_tab 1557 (by decide +kernel) rfl
theorem kc_X11_216 : Cond.constantLong RX11 216 (513021013607) ∈ lw_good := g_tab 1558 (by decide +kernel) rfl
theorem kc_X11_218 : Cond.constantLong RX11 218 (512970880104) ∈ lw_good := g_tab 1559 (by decide +kernel) rfl
theorem kc_X11_220 : Cond.constantLong RX11 220 (1936484720) ∈ lw_good := g_tab 1560 (by decide +kernel) rfl
theorem kc_X11_222 : Cond.constantLong RX11 222 (1668248164) ∈ lw_good := g_tab 1561 (by decide +kernel) rfl
theorem kc_X11_224 : Cond.constantLong RX11 224 (1685217655) ∈ lw_good := g_tab 1562 (by decide +kernel) rfl
theorem kc_X11_226 : Cond.constantLong RX11 226 (2003792494) ∈ lw_good := g_tab 1563 (by decide +kernel) rfl
theorem kc_X11_228 : Cond.constantLong RX11 228 (7824756) ∈ lw_good := g_tab 1564 (by decide +kernel) rfl
theorem kc_X11_230 : Cond.constantLong RX11 230 (6578553) ∈ lw_good := g_tab 1565 (by decide +kernel) rfl
theorem kc_X11_232 : Cond.constantLong RX11 232 (6385252) ∈ lw_good := g_tab 1566 (by decide +kernel) rfl
theorem kc_X11_234 : Cond.constantLong RX11 234 (28530) ∈ lw_good := g_tab 1567 (by decide +kernel) rfl
theorem kc_X11_236 : Cond.constantLong RX11 236 (7237492) ∈ lw_good := g_tab 1568 (by decide +kernel) rfl
theorem kc_X11_464 : Cond.constant RX11 464 (1000000) ∈ lw_good := g_tab 1785 (by decide +kernel) rfl
theorem kc_X11_518 : Cond.constant RX11 518 (100000) ∈ lw_good := g_tab 1919 (by decide +kernel) rfl
