/-! ===== tables: classes, fields, links by their places in the words (printed by program) ===== -/
def zcn (c : Nat) : String := [RX0, RX1, RX2, RX3, RX4, RX5, RX6, RX7, RX8, RX9, RX10, RX11, "java/lang/Integer", "java/lang/Long", "java/lang/String", "java/lang/StringLatin1", "jdk/internal/util/Preconditions", "java/lang/Math", "java/lang/System"].getD c ""
def zT (c : Nat) : u_T := match c with
  | 0 => TX0 | 1 => TX1 | 2 => TX2 | 3 => TX3 | 4 => TX4 | 5 => TX5 | 6 => TX6 | 7 => TX7 | 8 => TX8 | 9 => TX9 | 10 => TX10 | _ => TX11
def zN (c : Nat) : Nat := [6, 2, 5, 2, 5, 7, 8, 4, 16, 16, 15, 56].getD c 0
theorem zin_gw {i : Nat} {w : Cond} (h : lw_tbl[i]? = some w) (hg : goodWord w = true) : w ∈ zgw := List.mem_filter.mpr ⟨List.mem_of_getElem? h, hg⟩
theorem zcl_at : ∀ c, c < 12 → vwCl[c]? = some (zcn c, zT c, zN c) := by
  intro c hc
  match c, hc with
  | 0, _ => rfl
  | 1, _ => rfl
  | 2, _ => rfl
  | 3, _ => rfl
  | 4, _ => rfl
  | 5, _ => rfl
  | 6, _ => rfl
  | 7, _ => rfl
  | 8, _ => rfl
  | 9, _ => rfl
  | 10, _ => rfl
  | 11, _ => rfl
  | n + 12, h => omega
theorem zlay0 : (u_ws (zcn 0) (zT 0) (zN 0)) = [436, 438, 440, 442, 444, 446].filterMap (fun i => lw_tbl[i]?) ∧ (u_ws (zcn 0) (zT 0) (zN 0)).all goodWord = true := by decide +kernel
theorem zlay1 : (u_ws (zcn 1) (zT 1) (zN 1)) = [261, 263].filterMap (fun i => lw_tbl[i]?) ∧ (u_ws (zcn 1) (zT 1) (zN 1)).all goodWord = true := by decide +kernel
theorem zlay2 : (u_ws (zcn 2) (zT 2) (zN 2)) = [197, 199, 201, 203, 205].filterMap (fun i => lw_tbl[i]?) ∧ (u_ws (zcn 2) (zT 2) (zN 2)).all goodWord = true := by decide +kernel
theorem zlay3 : (u_ws (zcn 3) (zT 3) (zN 3)) = [457, 459].filterMap (fun i => lw_tbl[i]?) ∧ (u_ws (zcn 3) (zT 3) (zN 3)).all goodWord = true := by decide +kernel
theorem zlay4 : (u_ws (zcn 4) (zT 4) (zN 4)) = [353, 355, 357, 359, 361].filterMap (fun i => lw_tbl[i]?) ∧ (u_ws (zcn 4) (zT 4) (zN 4)).all goodWord = true := by decide +kernel
theorem zlay5 : (u_ws (zcn 5) (zT 5) (zN 5)) = [231, 233, 235, 237, 239, 241, 243].filterMap (fun i => lw_tbl[i]?) ∧ (u_ws (zcn 5) (zT 5) (zN 5)).all goodWord = true := by decide +kernel
theorem zlay6 : (u_ws (zcn 6) (zT 6) (zN 6)) = [155, 157, 159, 161, 163, 165, 167, 169].filterMap (fun i => lw_tbl[i]?) ∧ (u_ws (zcn 6) (zT 6) (zN 6)).all goodWord = true := by decide +kernel
theorem zlay7 : (u_ws (zcn 7) (zT 7) (zN 7)) = [477, 479, 481, 483].filterMap (fun i => lw_tbl[i]?) ∧ (u_ws (zcn 7) (zT 7) (zN 7)).all goodWord = true := by decide +kernel
theorem zlay8 : (u_ws (zcn 8) (zT 8) (zN 8)) = [305, 307, 309, 311, 313, 315, 317, 319, 321, 323, 325, 327, 329, 331, 333, 335].filterMap (fun i => lw_tbl[i]?) ∧ (u_ws (zcn 8) (zT 8) (zN 8)).all goodWord = true := by decide +kernel
theorem zlay9 : (u_ws (zcn 9) (zT 9) (zN 9)) = [390, 392, 394, 396, 398, 400, 402, 404, 406, 408, 410, 412, 414, 416, 418, 420].filterMap (fun i => lw_tbl[i]?) ∧ (u_ws (zcn 9) (zT 9) (zN 9)).all goodWord = true := by decide +kernel
theorem zlay10 : (u_ws (zcn 10) (zT 10) (zN 10)) = [501, 503, 505, 507, 509, 511, 513, 515, 517, 519, 521, 523, 525, 527, 529].filterMap (fun i => lw_tbl[i]?) ∧ (u_ws (zcn 10) (zT 10) (zN 10)).all goodWord = true := by decide +kernel
theorem zlay11 : (u_ws (zcn 11) (zT 11) (zN 11)) = [1336, 1338, 1340, 1342, 1344, 1346, 1348, 1350, 1352, 1354, 1356, 1358, 1360, 1362, 1364, 1366, 1368, 1370, 1372, 1374, 1376, 1378, 1380, 1382, 1384, 1386, 1388, 1390, 1392, 1394, 1396, 1398, 1400, 1402, 1404, 1406, 1408, 1410, 1412, 1414, 1416, 1418, 1420, 1422, 1424, 1426, 1428, 1430, 1432, 1434, 1436, 1438, 1440, 1442, 1444, 1446].filterMap (fun i => lw_tbl[i]?) ∧ (u_ws (zcn 11) (zT 11) (zN 11)).all goodWord = true := by decide +kernel
theorem zlay_of {ws : List Cond} (ps : List Nat) (h : ws = ps.filterMap (fun i => lw_tbl[i]?) ∧ ws.all goodWord = true) : ∀ w ∈ ws, w ∈ zgw := by
  intro w hw
  have hg := List.all_eq_true.mp h.2 w hw
  rw [h.1] at hw
  obtain ⟨i, -, hi⟩ := List.mem_filterMap.mp hw
  exact zin_gw hi hg
theorem zlay_in : ∀ c, c < 12 → ∀ w ∈ u_ws (zcn c) (zT c) (zN c), w ∈ zgw := by
  intro c hc
  match c, hc with
  | 0, _ => exact zlay_of _ zlay0
  | 1, _ => exact zlay_of _ zlay1
  | 2, _ => exact zlay_of _ zlay2
  | 3, _ => exact zlay_of _ zlay3
  | 4, _ => exact zlay_of _ zlay4
  | 5, _ => exact zlay_of _ zlay5
  | 6, _ => exact zlay_of _ zlay6
  | 7, _ => exact zlay_of _ zlay7
  | 8, _ => exact zlay_of _ zlay8
  | 9, _ => exact zlay_of _ zlay9
  | 10, _ => exact zlay_of _ zlay10
  | 11, _ => exact zlay_of _ zlay11
  | n + 12, h => omega
theorem zty_ok : ∀ c, c < 12 → ∀ k, k < zN c → parseFieldDescriptor (zT c k).2.2.1 = some (zty c k) := by
  intro c hc
  match c, hc with
  | 0, _ => exact tyX0_ok
  | 1, _ => exact tyX1_ok
  | 2, _ => exact tyX2_ok
  | 3, _ => exact tyX3_ok
  | 4, _ => exact tyX4_ok
  | 5, _ => exact tyX5_ok
  | 6, _ => exact tyX6_ok
  | 7, _ => exact tyX7_ok
  | 8, _ => exact tyX8_ok
  | 9, _ => exact tyX9_ok
  | 10, _ => exact tyX10_ok
  | 11, _ => exact tyX11_ok
  | n + 12, h => omega
theorem znm_ok : ∀ c, c < 12 → ∀ a, a < zN c → ∀ b, b < zN c → a ≠ b → (zT c a).2.1 ≠ (zT c b).2.1 := by
  intro c hc
  match c, hc with
  | 0, _ => exact nmX0
  | 1, _ => exact nmX1
  | 2, _ => exact nmX2
  | 3, _ => exact nmX3
  | 4, _ => exact nmX4
  | 5, _ => exact nmX5
  | 6, _ => exact nmX6
  | 7, _ => exact nmX7
  | 8, _ => exact nmX8
  | 9, _ => exact nmX9
  | 10, _ => exact nmX10
  | 11, _ => exact nmX11
  | n + 12, h => omega
def zflT : List (Nat × Nat × Nat × Nat × Nat) := [(6, 9, 6, 0, 144), (10, 101, 6, 0, 145), (6, 130, 6, 1, 146), (6, 133, 6, 2, 147), (6, 31, 6, 3, 148), (6, 139, 6, 4, 149), (6, 64, 6, 5, 150), (10, 108, 6, 6, 151), (6, 136, 6, 6, 152), (6, 15, 6, 7, 153), (10, 145, 6, 7, 154), (8, 36, 2, 0, 179), (2, 24, 2, 0, 180), (6, 23, 2, 0, 181), (0, 30, 2, 0, 182), (9, 40, 2, 0, 183), (4, 68, 2, 0, 184), (10, 121, 2, 0, 185), (2, 9, 2, 1, 186), (0, 35, 2, 1, 187), (10, 151, 2, 1, 188), (2, 15, 2, 2, 189), (2, 18, 2, 3, 190), (6, 62, 2, 3, 191), (10, 158, 2, 3, 192), (2, 21, 2, 4, 193), (6, 69, 2, 4, 194), (4, 73, 2, 4, 195), (10, 161, 2, 4, 196), (5, 27, 5, 0, 214), (10, 142, 5, 0, 215), (6, 90, 5, 0, 216), (8, 101, 5, 0, 217), (5, 31, 5, 1, 218), (6, 104, 5, 1, 219), (10, 249, 5, 1, 220), (5, 9, 5, 2, 221), (8, 106, 5, 2, 222), (5, 15, 5, 3, 223), (8, 112, 5, 3, 224), (5, 18, 5, 4, 225), (8, 122, 5, 4, 226), (5, 21, 5, 5, 227), (8, 119, 5, 5, 228), (5, 24, 5, 6, 229), (8, 132, 5, 6, 230), (1, 12, 1, 0, 257), (10, 111, 1, 0, 258), (1, 20, 1, 1, 259), (10, 132, 1, 1, 260), (8, 42, 8, 0, 275), (8, 9, 8, 1, 276), (4, 76, 8, 1, 277), (10, 220, 8, 1, 278), (8, 15, 8, 2, 279), (10, 236, 8, 2, 280), (8, 18, 8, 3, 281), (10, 239, 8, 3, 282), (8, 21, 8, 4, 283), (10, 223, 8, 4, 284), (8, 24, 8, 5, 285), (8, 27, 8, 6, 286), (8, 30, 8, 7, 287), (10, 229, 8, 7, 288), (8, 33, 8, 8, 289), (4, 56, 8, 8, 290), (10, 255, 8, 8, 291), (4, 53, 8, 9, 292), (8, 68, 8, 9, 293), (10, 189, 8, 9, 294), (8, 84, 8, 10, 295), (10, 195, 8, 10, 296), (8, 88, 8, 11, 297), (10, 243, 8, 11, 298), (8, 91, 8, 12, 299), (10, 205, 8, 12, 300), (8, 59, 8, 13, 301), (10, 192, 8, 13, 302), (8, 77, 8, 14, 303), (8, 81, 8, 15, 304), (4, 9, 4, 0, 344), (10, 139, 4, 0, 345), (4, 25, 4, 1, 346), (10, 270, 4, 1, 347), (4, 15, 4, 2, 348), (10, 273, 4, 2, 349), (4, 19, 4, 3, 350), (10, 276, 4, 3, 351), (4, 22, 4, 4, 352), (9, 30, 9, 0, 372), (9, 26, 9, 1, 373), (9, 34, 9, 2, 374), (9, 37, 9, 3, 375), (9, 57, 9, 4, 376), (9, 71, 9, 5, 377), (9, 74, 9, 6, 378), (9, 95, 9, 7, 379), (9, 137, 9, 8, 380), (10, 320, 9, 8, 381), (9, 92, 9, 9, 382), (10, 323, 9, 9, 383), (9, 77, 9, 10, 384), (9, 53, 9, 11, 385), (9, 9, 9, 12, 386), (9, 15, 9, 13, 387), (9, 20, 9, 14, 388), (9, 23, 9, 15, 389), (0, 26, 0, 0, 430), (0, 44, 0, 1, 431), (0, 11, 0, 2, 432), (0, 15, 0, 3, 433), (0, 20, 0, 4, 434), (0, 23, 0, 5, 435), (10, 168, 3, 0, 455), (3, 11, 3, 1, 456), (7, 15, 7, 0, 468), (10, 335, 7, 0, 469), (7, 19, 7, 1, 470), (7, 23, 7, 2, 471), (9, 80, 7, 2, 472), (10, 369, 7, 2, 473), (7, 9, 7, 3, 474), (9, 83, 7, 3, 475), (10, 371, 7, 3, 476), (10, 93, 10, 0, 486), (10, 12, 10, 1, 487), (10, 19, 10, 2, 488), (10, 26, 10, 3, 489), (10, 33, 10, 4, 490), (10, 37, 10, 5, 491), (10, 43, 10, 6, 492), (10, 50, 10, 7, 493), (10, 54, 10, 8, 494), (10, 61, 10, 9, 495), (10, 68, 10, 10, 496), (10, 75, 10, 11, 497), (10, 82, 10, 12, 498), (10, 86, 10, 13, 499), (10, 89, 10, 14, 500), (11, 1, 11, 0, 1280), (11, 13, 11, 1, 1281), (11, 17, 11, 2, 1282), (11, 21, 11, 3, 1283), (11, 24, 11, 4, 1284), (11, 115, 11, 5, 1285), (11, 133, 11, 6, 1286), (11, 136, 11, 7, 1287), (11, 118, 11, 8, 1288), (11, 143, 11, 9, 1289), (11, 156, 11, 10, 1290), (11, 159, 11, 11, 1291), (11, 162, 11, 12, 1292), (11, 182, 11, 13, 1293), (11, 27, 11, 14, 1294), (11, 30, 11, 15, 1295), (11, 33, 11, 16, 1296), (11, 36, 11, 17, 1297), (11, 39, 11, 18, 1298), (11, 42, 11, 19, 1299), (11, 45, 11, 20, 1300), (11, 48, 11, 21, 1301), (11, 51, 11, 22, 1302), (11, 54, 11, 23, 1303), (11, 236, 11, 24, 1304), (11, 233, 11, 25, 1305), (11, 239, 11, 26, 1306), (11, 242, 11, 27, 1307), (11, 57, 11, 28, 1308), (11, 245, 11, 29, 1309), (11, 60, 11, 30, 1310), (11, 63, 11, 31, 1311), (11, 278, 11, 32, 1312), (11, 66, 11, 33, 1313), (11, 69, 11, 34, 1314), (11, 72, 11, 35, 1315), (11, 75, 11, 36, 1316), (11, 78, 11, 37, 1317), (11, 293, 11, 38, 1318), (11, 309, 11, 39, 1319), (11, 300, 11, 40, 1320), (11, 312, 11, 41, 1321), (11, 296, 11, 42, 1322), (11, 81, 11, 43, 1323), (11, 84, 11, 44, 1324), (11, 87, 11, 45, 1325), (11, 90, 11, 46, 1326), (11, 321, 11, 47, 1327), (11, 315, 11, 48, 1328), (11, 93, 11, 49, 1329), (11, 96, 11, 50, 1330), (11, 99, 11, 51, 1331), (11, 102, 11, 52, 1332), (11, 105, 11, 53, 1333), (11, 108, 11, 54, 1334), (11, 111, 11, 55, 1335)]
def zfl (o i : Nat) : Option (Nat × Nat × Nat × Nat × Nat) := zflT.find? (fun q => Nat.beq q.1 o && Nat.beq q.2.1 i)
def zflG (q : Nat × Nat × Nat × Nat × Nat) : Bool := decide (q.2.2.1 < 12) && decide (q.2.2.2.1 < zN q.2.2.1) && decide (lw_tbl[q.2.2.2.2]? = some (Cond.fieldLink (zcn q.1) q.2.1 (zT q.2.2.1 q.2.2.2.1).1 (zT q.2.2.1 q.2.2.2.1).2.1 (zT q.2.2.1 q.2.2.2.1).2.2.1))
theorem zfl_all : zflT.all zflG = true := by decide +kernel
def zldT : List (Nat × Nat × Int32 × Nat) := [(10, 215, 1024000000, 781), (10, 242, 4000000, 866), (4, 40, 1024000000, 910), (10, 279, 1103515245, 927), (12, 265, 1431655765, 947), (12, 266, 858993459, 948), (12, 267, 252645135, 949), (3, 34, 369648, 1134), (0, 67, 368656, 1169), (11, 290, 1103515245, 1663)]
def zl2T : List (Nat × Nat × Int64 × Nat) := [(13, 314, 6148914691236517205, 839), (13, 316, 3689348814741910323, 840), (13, 318, 1085102592571150095, 841), (10, 264, 200000, 896), (9, 87, 368656, 1104), (10, 387, -1, 1212), (10, 392, -2, 1237), (10, 394, -6, 1238), (10, 396, -7, 1239), (11, 185, 60, 1498), (11, 210, 3, 1519), (11, 203, 6, 1528), (11, 205, 10, 1529), (11, 227, 1000, 1561), (11, 264, 4, 1581), (11, 288, 200000, 1654), (11, 291, 400, 1672), (11, 351, 1000000, 1756), (11, 391, 40, 1840), (11, 393, -2, 1845), (11, 395, -6, 1846), (11, 397, -7, 1847)]
def zld (o i : Nat) : Option (Nat × Nat × Int32 × Nat) := zldT.find? (fun q => Nat.beq q.1 o && Nat.beq q.2.1 i)
def zl2 (o i : Nat) : Option (Nat × Nat × Int64 × Nat) := zl2T.find? (fun q => Nat.beq q.1 o && Nat.beq q.2.1 i)
theorem zld_all : zldT.all (fun q => decide (lw_tbl[q.2.2.2]? = some (Cond.constant (zcn q.1) q.2.1 q.2.2.1))) = true := by decide +kernel
theorem zl2_all : zl2T.all (fun q => decide (lw_tbl[q.2.2.2]? = some (Cond.constantLong (zcn q.1) q.2.1 q.2.2.1))) = true := by decide +kernel
