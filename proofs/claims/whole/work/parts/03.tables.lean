/-! ===== tables: classes, fields, links by their places in the words (printed by program) ===== -/
def zcn (c : Nat) : String := [RX0, RX1, RX2, RX3, RX4, RX5, RX6, RX7, RX8, RX9, RX10, RX11, "java/lang/Integer", "java/lang/Long", "java/lang/String", "java/lang/StringLatin1", "jdk/internal/util/Preconditions", "java/lang/Math", "java/lang/System"].getD c ""
def zT (c : Nat) : u_T := match c with
  | 0 => TX0 | 1 => TX1 | 2 => TX2 | 3 => TX3 | 4 => TX4 | 5 => TX5 | 6 => TX6 | 7 => TX7 | 8 => TX8 | 9 => TX9 | 10 => TX10 | _ => TX11
def zN (c : Nat) : Nat := [6, 2, 5, 2, 5, 7, 8, 4, 16, 16, 16, 56].getD c 0
theorem zin_gw {i : Nat} {w : Cond} (h : lw_tbl[i]? = some w) (hg : goodWord w = true) : w ∈ zgw := List.mem_filter.mpr ⟨List.mem_of_getElem? h, hg⟩
theorem zcl_at : ∀ c, c < 12 → vwCl[c]? = some (zcn c, zT c, zN c) := by
  intro c hc
  match c, hc with
  | 0, _ => rfl
  | 1, _ => rfl
  | 2, _ => rfl
  | 3, _ => rfl
  | 4, _ => rfl
  | 5, _ => rfl
  | 6, _ => rfl
  | 7, _ => rfl
  | 8, _ => rfl
  | 9, _ => rfl
  | 10, _ => rfl
  | 11, _ => rfl
  | n + 12, h => omega
theorem zlay0 : (u_ws (zcn 0) (zT 0) (zN 0)) = [435, 437, 439, 441, 443, 445].filterMap (fun i => lw_tbl[i]?) ∧ (u_ws (zcn 0) (zT 0) (zN 0)).all goodWord = true := by decide +kernel
theorem zlay1 : (u_ws (zcn 1) (zT 1) (zN 1)) = [260, 262].filterMap (fun i => lw_tbl[i]?) ∧ (u_ws (zcn 1) (zT 1) (zN 1)).all goodWord = true := by decide +kernel
theorem zlay2 : (u_ws (zcn 2) (zT 2) (zN 2)) = [196, 198, 200, 202, 204].filterMap (fun i => lw_tbl[i]?) ∧ (u_ws (zcn 2) (zT 2) (zN 2)).all goodWord = true := by decide +kernel
theorem zlay3 : (u_ws (zcn 3) (zT 3) (zN 3)) = [456, 458].filterMap (fun i => lw_tbl[i]?) ∧ (u_ws (zcn 3) (zT 3) (zN 3)).all goodWord = true := by decide +kernel
theorem zlay4 : (u_ws (zcn 4) (zT 4) (zN 4)) = [352, 354, 356, 358, 360].filterMap (fun i => lw_tbl[i]?) ∧ (u_ws (zcn 4) (zT 4) (zN 4)).all goodWord = true := by decide +kernel
theorem zlay5 : (u_ws (zcn 5) (zT 5) (zN 5)) = [230, 232, 234, 236, 238, 240, 242].filterMap (fun i => lw_tbl[i]?) ∧ (u_ws (zcn 5) (zT 5) (zN 5)).all goodWord = true := by decide +kernel
theorem zlay6 : (u_ws (zcn 6) (zT 6) (zN 6)) = [154, 156, 158, 160, 162, 164, 166, 168].filterMap (fun i => lw_tbl[i]?) ∧ (u_ws (zcn 6) (zT 6) (zN 6)).all goodWord = true := by decide +kernel
theorem zlay7 : (u_ws (zcn 7) (zT 7) (zN 7)) = [476, 478, 480, 482].filterMap (fun i => lw_tbl[i]?) ∧ (u_ws (zcn 7) (zT 7) (zN 7)).all goodWord = true := by decide +kernel
theorem zlay8 : (u_ws (zcn 8) (zT 8) (zN 8)) = [304, 306, 308, 310, 312, 314, 316, 318, 320, 322, 324, 326, 328, 330, 332, 334].filterMap (fun i => lw_tbl[i]?) ∧ (u_ws (zcn 8) (zT 8) (zN 8)).all goodWord = true := by decide +kernel
theorem zlay9 : (u_ws (zcn 9) (zT 9) (zN 9)) = [389, 391, 393, 395, 397, 399, 401, 403, 405, 407, 409, 411, 413, 415, 417, 419].filterMap (fun i => lw_tbl[i]?) ∧ (u_ws (zcn 9) (zT 9) (zN 9)).all goodWord = true := by decide +kernel
theorem zlay10 : (u_ws (zcn 10) (zT 10) (zN 10)) = [501, 503, 505, 507, 509, 511, 513, 515, 517, 519, 521, 523, 525, 527, 529, 531].filterMap (fun i => lw_tbl[i]?) ∧ (u_ws (zcn 10) (zT 10) (zN 10)).all goodWord = true := by decide +kernel
theorem zlay11 : (u_ws (zcn 11) (zT 11) (zN 11)) = [1338, 1340, 1342, 1344, 1346, 1348, 1350, 1352, 1354, 1356, 1358, 1360, 1362, 1364, 1366, 1368, 1370, 1372, 1374, 1376, 1378, 1380, 1382, 1384, 1386, 1388, 1390, 1392, 1394, 1396, 1398, 1400, 1402, 1404, 1406, 1408, 1410, 1412, 1414, 1416, 1418, 1420, 1422, 1424, 1426, 1428, 1430, 1432, 1434, 1436, 1438, 1440, 1442, 1444, 1446, 1448].filterMap (fun i => lw_tbl[i]?) ∧ (u_ws (zcn 11) (zT 11) (zN 11)).all goodWord = true := by decide +kernel
theorem zlay_of {ws : List Cond} (ps : List Nat) (h : ws = ps.filterMap (fun i => lw_tbl[i]?) ∧ ws.all goodWord = true) : ∀ w ∈ ws, w ∈ zgw := by
  intro w hw
  have hg := List.all_eq_true.mp h.2 w hw
  rw [h.1] at hw
  obtain ⟨i, -, hi⟩ := List.mem_filterMap.mp hw
  exact zin_gw hi hg
theorem zlay_in : ∀ c, c < 12 → ∀ w ∈ u_ws (zcn c) (zT c) (zN c), w ∈ zgw := by
  intro c hc
  match c, hc with
  | 0, _ => exact zlay_of _ zlay0
  | 1, _ => exact zlay_of _ zlay1
  | 2, _ => exact zlay_of _ zlay2
  | 3, _ => exact zlay_of _ zlay3
  | 4, _ => exact zlay_of _ zlay4
  | 5, _ => exact zlay_of _ zlay5
  | 6, _ => exact zlay_of _ zlay6
  | 7, _ => exact zlay_of _ zlay7
  | 8, _ => exact zlay_of _ zlay8
  | 9, _ => exact zlay_of _ zlay9
  | 10, _ => exact zlay_of _ zlay10
  | 11, _ => exact zlay_of _ zlay11
  | n + 12, h => omega
theorem zty_ok : ∀ c, c < 12 → ∀ k, k < zN c → parseFieldDescriptor (zT c k).2.2.1 = some (zty c k) := by
  intro c hc
  match c, hc with
  | 0, _ => exact tyX0_ok
  | 1, _ => exact tyX1_ok
  | 2, _ => exact tyX2_ok
  | 3, _ => exact tyX3_ok
  | 4, _ => exact tyX4_ok
  | 5, _ => exact tyX5_ok
  | 6, _ => exact tyX6_ok
  | 7, _ => exact tyX7_ok
  | 8, _ => exact tyX8_ok
  | 9, _ => exact tyX9_ok
  | 10, _ => exact tyX10_ok
  | 11, _ => exact tyX11_ok
  | n + 12, h => omega
theorem znm_ok : ∀ c, c < 12 → ∀ a, a < zN c → ∀ b, b < zN c → a ≠ b → (zT c a).2.1 ≠ (zT c b).2.1 := by
  intro c hc
  match c, hc with
  | 0, _ => exact nmX0
  | 1, _ => exact nmX1
  | 2, _ => exact nmX2
  | 3, _ => exact nmX3
  | 4, _ => exact nmX4
  | 5, _ => exact nmX5
  | 6, _ => exact nmX6
  | 7, _ => exact nmX7
  | 8, _ => exact nmX8
  | 9, _ => exact nmX9
  | 10, _ => exact nmX10
  | 11, _ => exact nmX11
  | n + 12, h => omega
def zflT : List (Nat × Nat × Nat × Nat × Nat) := [(6, 15, 6, 0, 144), (6, 130, 6, 1, 145), (6, 133, 6, 2, 146), (6, 31, 6, 3, 147), (6, 139, 6, 4, 148), (6, 64, 6, 5, 149), (10, 110, 6, 6, 150), (6, 136, 6, 6, 151), (6, 9, 6, 7, 152), (10, 147, 6, 7, 153), (8, 36, 2, 0, 178), (2, 24, 2, 0, 179), (6, 23, 2, 0, 180), (0, 30, 2, 0, 181), (9, 40, 2, 0, 182), (4, 68, 2, 0, 183), (10, 123, 2, 0, 184), (2, 9, 2, 1, 185), (0, 35, 2, 1, 186), (10, 153, 2, 1, 187), (2, 15, 2, 2, 188), (2, 18, 2, 3, 189), (6, 62, 2, 3, 190), (10, 160, 2, 3, 191), (2, 21, 2, 4, 192), (6, 69, 2, 4, 193), (4, 73, 2, 4, 194), (10, 163, 2, 4, 195), (5, 27, 5, 0, 213), (10, 144, 5, 0, 214), (6, 90, 5, 0, 215), (8, 101, 5, 0, 216), (5, 31, 5, 1, 217), (6, 104, 5, 1, 218), (10, 251, 5, 1, 219), (5, 9, 5, 2, 220), (8, 106, 5, 2, 221), (5, 15, 5, 3, 222), (8, 112, 5, 3, 223), (5, 18, 5, 4, 224), (8, 122, 5, 4, 225), (5, 21, 5, 5, 226), (8, 119, 5, 5, 227), (5, 24, 5, 6, 228), (8, 132, 5, 6, 229), (1, 12, 1, 0, 256), (10, 113, 1, 0, 257), (1, 20, 1, 1, 258), (10, 134, 1, 1, 259), (8, 42, 8, 0, 274), (8, 9, 8, 1, 275), (4, 76, 8, 1, 276), (10, 222, 8, 1, 277), (8, 15, 8, 2, 278), (10, 238, 8, 2, 279), (8, 18, 8, 3, 280), (10, 241, 8, 3, 281), (8, 21, 8, 4, 282), (10, 225, 8, 4, 283), (8, 24, 8, 5, 284), (8, 27, 8, 6, 285), (8, 30, 8, 7, 286), (10, 231, 8, 7, 287), (8, 33, 8, 8, 288), (4, 56, 8, 8, 289), (10, 257, 8, 8, 290), (4, 53, 8, 9, 291), (8, 68, 8, 9, 292), (10, 191, 8, 9, 293), (8, 84, 8, 10, 294), (10, 197, 8, 10, 295), (8, 88, 8, 11, 296), (10, 245, 8, 11, 297), (8, 91, 8, 12, 298), (10, 207, 8, 12, 299), (8, 59, 8, 13, 300), (10, 194, 8, 13, 301), (8, 77, 8, 14, 302), (8, 81, 8, 15, 303), (4, 9, 4, 0, 343), (10, 141, 4, 0, 344), (4, 25, 4, 1, 345), (10, 272, 4, 1, 346), (4, 15, 4, 2, 347), (10, 275, 4, 2, 348), (4, 19, 4, 3, 349), (10, 278, 4, 3, 350), (4, 22, 4, 4, 351), (9, 30, 9, 0, 371), (9, 26, 9, 1, 372), (9, 34, 9, 2, 373), (9, 37, 9, 3, 374), (9, 57, 9, 4, 375), (9, 71, 9, 5, 376), (9, 74, 9, 6, 377), (9, 95, 9, 7, 378), (9, 137, 9, 8, 379), (10, 322, 9, 8, 380), (9, 92, 9, 9, 381), (10, 325, 9, 9, 382), (9, 77, 9, 10, 383), (9, 53, 9, 11, 384), (9, 9, 9, 12, 385), (9, 15, 9, 13, 386), (9, 20, 9, 14, 387), (9, 23, 9, 15, 388), (0, 26, 0, 0, 429), (0, 44, 0, 1, 430), (0, 11, 0, 2, 431), (0, 15, 0, 3, 432), (0, 20, 0, 4, 433), (0, 23, 0, 5, 434), (10, 170, 3, 0, 454), (3, 11, 3, 1, 455), (7, 15, 7, 0, 467), (10, 337, 7, 0, 468), (7, 19, 7, 1, 469), (7, 23, 7, 2, 470), (9, 80, 7, 2, 471), (10, 371, 7, 2, 472), (7, 9, 7, 3, 473), (9, 83, 7, 3, 474), (10, 373, 7, 3, 475), (10, 9, 10, 0, 485), (10, 98, 10, 1, 486), (10, 18, 10, 2, 487), (10, 25, 10, 3, 488), (10, 32, 10, 4, 489), (10, 39, 10, 5, 490), (10, 43, 10, 6, 491), (10, 49, 10, 7, 492), (10, 56, 10, 8, 493), (10, 60, 10, 9, 494), (10, 66, 10, 10, 495), (10, 73, 10, 11, 496), (10, 80, 10, 12, 497), (10, 87, 10, 13, 498), (10, 91, 10, 14, 499), (10, 94, 10, 15, 500), (11, 1, 11, 0, 1282), (11, 13, 11, 1, 1283), (11, 17, 11, 2, 1284), (11, 21, 11, 3, 1285), (11, 24, 11, 4, 1286), (11, 115, 11, 5, 1287), (11, 133, 11, 6, 1288), (11, 136, 11, 7, 1289), (11, 118, 11, 8, 1290), (11, 143, 11, 9, 1291), (11, 156, 11, 10, 1292), (11, 159, 11, 11, 1293), (11, 162, 11, 12, 1294), (11, 182, 11, 13, 1295), (11, 27, 11, 14, 1296), (11, 30, 11, 15, 1297), (11, 33, 11, 16, 1298), (11, 36, 11, 17, 1299), (11, 39, 11, 18, 1300), (11, 42, 11, 19, 1301), (11, 45, 11, 20, 1302), (11, 48, 11, 21, 1303), (11, 51, 11, 22, 1304), (11, 54, 11, 23, 1305), (11, 236, 11, 24, 1306), (11, 233, 11, 25, 1307), (11, 239, 11, 26, 1308), (11, 242, 11, 27, 1309), (11, 57, 11, 28, 1310), (11, 245, 11, 29, 1311), (11, 60, 11, 30, 1312), (11, 63, 11, 31, 1313), (11, 278, 11, 32, 1314), (11, 66, 11, 33, 1315), (11, 69, 11, 34, 1316), (11, 72, 11, 35, 1317), (11, 75, 11, 36, 1318), (11, 78, 11, 37, 1319), (11, 293, 11, 38, 1320), (11, 309, 11, 39, 1321), (11, 300, 11, 40, 1322), (11, 312, 11, 41, 1323), (11, 296, 11, 42, 1324), (11, 81, 11, 43, 1325), (11, 84, 11, 44, 1326), (11, 87, 11, 45, 1327), (11, 90, 11, 46, 1328), (11, 321, 11, 47, 1329), (11, 315, 11, 48, 1330), (11, 93, 11, 49, 1331), (11, 96, 11, 50, 1332), (11, 99, 11, 51, 1333), (11, 102, 11, 52, 1334), (11, 105, 11, 53, 1335), (11, 108, 11, 54, 1336), (11, 111, 11, 55, 1337)]
def zfl (o i : Nat) : Option (Nat × Nat × Nat × Nat × Nat) := zflT.find? (fun q => Nat.beq q.1 o && Nat.beq q.2.1 i)
def zflG (q : Nat × Nat × Nat × Nat × Nat) : Bool := decide (q.2.2.1 < 12) && decide (q.2.2.2.1 < zN q.2.2.1) && decide (lw_tbl[q.2.2.2.2]? = some (Cond.fieldLink (zcn q.1) q.2.1 (zT q.2.2.1 q.2.2.2.1).1 (zT q.2.2.1 q.2.2.2.1).2.1 (zT q.2.2.1 q.2.2.2.1).2.2.1))
theorem zfl_all : zflT.all zflG = true := by decide +kernel
def zldT : List (Nat × Nat × Int32 × Nat) := [(10, 217, 1024000000, 783), (10, 244, 4000000, 868), (4, 40, 1024000000, 912), (10, 281, 1103515245, 929), (12, 265, 1431655765, 949), (12, 266, 858993459, 950), (12, 267, 252645135, 951), (3, 34, 369648, 1136), (0, 67, 368656, 1171), (11, 290, 1103515245, 1665)]
def zl2T : List (Nat × Nat × Int64 × Nat) := [(13, 314, 6148914691236517205, 841), (13, 316, 3689348814741910323, 842), (13, 318, 1085102592571150095, 843), (10, 266, 200000, 898), (9, 87, 368656, 1106), (10, 389, -1, 1214), (10, 394, -2, 1239), (10, 396, -6, 1240), (10, 398, -7, 1241), (11, 185, 60, 1500), (11, 210, 3, 1521), (11, 203, 6, 1530), (11, 205, 10, 1531), (11, 227, 1000, 1563), (11, 264, 4, 1583), (11, 288, 200000, 1656), (11, 291, 400, 1674), (11, 351, 1000000, 1758), (11, 391, 40, 1842), (11, 393, -2, 1847), (11, 395, -6, 1848), (11, 397, -7, 1849)]
def zld (o i : Nat) : Option (Nat × Nat × Int32 × Nat) := zldT.find? (fun q => Nat.beq q.1 o && Nat.beq q.2.1 i)
def zl2 (o i : Nat) : Option (Nat × Nat × Int64 × Nat) := zl2T.find? (fun q => Nat.beq q.1 o && Nat.beq q.2.1 i)
theorem zld_all : zldT.all (fun q => decide (lw_tbl[q.2.2.2]? = some (Cond.constant (zcn q.1) q.2.1 q.2.2.1))) = true := by decide +kernel
theorem zl2_all : zl2T.all (fun q => decide (lw_tbl[q.2.2.2]? = some (Cond.constantLong (zcn q.1) q.2.1 q.2.2.1))) = true := by decide +kernel
